-- what the model works out anew
theorem RMl_s {m m2 : Mem} {v : VB} (h : RMl m v) (hs : ∀ o k, (o = 61 ∧ k < 12 ∨ 61 < o ∧ o ≤ 70) → rI m2 o k = rI m o k) : RMl m2 v := by
  have ea : ∀ j, j ≤ 8 → avL m2 j = avL m j := fun j hj => by funext i; exact hs _ _ (by omega)
  have ec : ∀ j, j < 6 → cvL m2 j = cvL m j := fun j hj => by
    refine hs _ _ (Or.inl ⟨rfl, ?_⟩)
    have cs : j = 0 ∨ j = 1 ∨ j = 2 ∨ j = 3 ∨ j = 4 ∨ j = 5 := by omega
    rcases cs with rfl | rfl | rfl | rfl | rfl | rfl <;> decide
  refine RMl_i.mpr ?_
  rw [ec 0 (by decide), ec 1 (by decide), ec 2 (by decide), ec 3 (by decide), ec 4 (by decide), ec 5 (by decide), ea 0 (by decide), ea 1 (by decide), ea 2 (by decide), ea 3 (by decide), ea 4 (by decide), ea 5 (by decide), ea 6 (by decide), ea 7 (by decide), ea 8 (by decide)]
  exact RMl_i.mp h
def mscr (o k : Nat) : Prop := o = 71 ∨ 73 ≤ o ∧ o ≤ 77 ∨ o = 61 ∧ 18 ≤ k ∧ k ≤ 29
theorem Rv.keepM {c m m2 : Mem} {v vk : VB} (h : Rv c m v vk) (hs : ∀ o k, ¬ mscr o k → rI m2 o k = rI m o k) (hl : ∀ k, rL m2 81 k = rL m 81 k) : Rv c m2 v vk :=
  h.keepB h.1 (RMl_s h.2.1 (fun o k ho => hs o k (by unfold mscr; omega))) h.2.2.1 (fun _ _ _ _ => rfl) (fun o k ho => hs o k (by unfold mscr; omega)) hl
-- counting and searching
def cntP (P : Nat → Bool) : Nat → Nat
  | 0 => 0
  | k + 1 => cntP P k + (if P k = true then 1 else 0)
theorem cntP_le {P Q : Nat → Bool} : ∀ n, (∀ i, i < n → P i = true → Q i = true) → cntP P n ≤ cntP Q n := by
  intro n
  induction n with
  | zero => intro _; exact Nat.le_refl _
  | succ n ih =>
    intro h
    have h1 := ih (fun i hi => h i (by omega))
    rw [cntP, cntP]
    by_cases z : P n = true
    · rw [if_pos z, if_pos (h n (by omega) z)]; omega
    · rw [if_neg z]; omega
theorem cntP_lt {P Q : Nat → Bool} {r : Nat} (hp : P r = false) (hq : Q r = true) : ∀ n, r < n → (∀ i, i < n → P i = true → Q i = true) → cntP P n + 1 ≤ cntP Q n := by
  intro n
  induction n with
  | zero => intro h _; omega
  | succ n ih =>
    intro hr h
    rw [cntP, cntP]
    by_cases e : r = n
    · have h1 := cntP_le n (fun i hi => h i (by omega))
      rw [← e, if_neg (by rw [hp]; decide), if_pos hq, e]; omega
    · have h1 := ih (by omega) (fun i hi => h i (by omega))
      by_cases z : P n = true
      · rw [if_pos z, if_pos (h n (by omega) z)]; omega
      · rw [if_neg z]; omega
def allB (Q : Nat → Bool) : Nat → Bool
  | 0 => true
  | k + 1 => allB Q k && Q k
theorem allB_iff {Q : Nat → Bool} : ∀ n, allB Q n = true ↔ ∀ i, i < n → Q i = true := by
  intro n
  induction n with
  | zero => exact ⟨fun _ i hi => absurd hi (by omega), fun _ => rfl⟩
  | succ n ih =>
    rw [allB, Bool.and_eq_true, ih]
    constructor
    · intro h i hi
      by_cases e : i = n
      · rw [e]; exact h.2
      · exact h.1 i (by omega)
    · intro h
      exact ⟨fun i hi => h i (by omega), h n (by omega)⟩
theorem allB_f {Q : Nat → Bool} {k : Nat} (h : allB Q k = false) : ∀ d, allB Q (k + d) = false := by
  intro d
  induction d with
  | zero => exact h
  | succ d ih => rw [← Nat.add_assoc, allB, ih, Bool.false_and]
def exB (Q : Nat → Bool) : Nat → Bool
  | 0 => false
  | k + 1 => exB Q k || Q k
theorem exB_t {Q : Nat → Bool} {k : Nat} (h : exB Q k = true) : ∀ d, exB Q (k + d) = true := by
  intro d
  induction d with
  | zero => exact h
  | succ d ih => rw [← Nat.add_assoc, exB, ih, Bool.true_or]
theorem exB_c {P Q : Nat → Bool} : ∀ n, (∀ i, i < n → P i = Q i) → exB P n = exB Q n := by
  intro n
  induction n with
  | zero => intro _; rfl
  | succ n ih => intro h; rw [exB, exB, ih (fun i hi => h i (by omega)), h n (by omega)]
-- places by MADE
def lex (v : VB) (p r o : Nat) : Bool := decide (tb v 1 o 0 = p ∧ (tb v 1 o 2 < tb v 1 r 2 ∨ tb v 1 o 2 = tb v 1 r 2 ∧ o < r))
def pl (v : VB) (p r k : Nat) : Nat := cntP (lex v p r) k
theorem lex_i {v : VB} {p r o : Nat} : lex v p r o = true ↔ tb v 1 o 0 = p ∧ (tb v 1 o 2 < tb v 1 r 2 ∨ tb v 1 o 2 = tb v 1 r 2 ∧ o < r) := decide_eq_true_iff
theorem lex_n {v : VB} {p r o : Nat} : lex v p r o = false ↔ ¬ (tb v 1 o 0 = p ∧ (tb v 1 o 2 < tb v 1 r 2 ∨ tb v 1 o 2 = tb v 1 r 2 ∧ o < r)) := decide_eq_false_iff_not
theorem pl_lt {v : VB} {p r s k : Nat} (hr : tb v 1 r 0 = p) (hk : r < k) (h : lex v p s r = true) : pl v p r k + 1 ≤ pl v p s k := by
  rw [lex_i] at h
  refine cntP_lt (r := r) (lex_n.mpr (by omega)) (lex_i.mpr h) k hk (fun i _ hi => ?_)
  rw [lex_i] at hi ⊢
  omega
theorem pl_inj {v : VB} {p r s k : Nat} (hr : tb v 1 r 0 = p) (hs : tb v 1 s 0 = p) (h1 : r < k) (h2 : s < k) (h : pl v p r k = pl v p s k) : r = s := by
  by_cases e : r = s
  · exact e
  · have c : lex v p s r = true ∨ lex v p r s = true := by
      rw [lex_i, lex_i]; omega
    rcases c with c | c
    · have := pl_lt hr h1 c; omega
    · have := pl_lt hs h2 c; omega
theorem ofP_cnt (v : VB) (p : Nat) : ∀ k, ofP v p k = cntP (fun o => decide (tb v 1 o 0 = p)) k := by
  intro k
  induction k with
  | zero => rfl
  | succ k ih => rw [ofP, cntP, ih]; simp only [decide_eq_true_eq]
theorem pl_of {v : VB} {p r k : Nat} (hr : tb v 1 r 0 = p) (hk : r < k) : pl v p r k < ofP v p k := by
  rw [ofP_cnt]
  refine cntP_lt (r := r) (lex_n.mpr (by omega)) (decide_eq_true hr) k hk (fun i _ hi => ?_)
  rw [lex_i] at hi
  exact decide_eq_true hi.1
theorem ofP_mono (v : VB) (p a : Nat) : ∀ d, ofP v p a ≤ ofP v p (a + d) := by
  intro d
  induction d with
  | zero => exact Nat.le_refl _
  | succ d ih => rw [← Nat.add_assoc, ofP]; omega
theorem pl_made {v : VB} {p r k : Nat} (hr : tb v 1 r 0 = p) (hk : r < k) : tb v 1 r 2 ≤ tb v 1 k 2 ↔ pl v p r k < pl v p k k := by
  constructor
  · intro h
    exact pl_lt hr hk (lex_i.mpr ⟨hr, by omega⟩)
  · intro h
    by_cases z : tb v 1 r 2 ≤ tb v 1 k 2
    · exact z
    · have : pl v p k k ≤ pl v p r k := cntP_le k (fun i _ hi => by rw [lex_i] at hi ⊢; omega)
      omega
def mt (v : VB) (p f t : Nat) : Bool := exB (fun y => allB (fun r => if tb v 1 r 0 = p ∧ f ≤ pl v p r (cnt v 1) ∧ pl v p r (cnt v 1) < t then spS v r y else true) (cnt v 1)) 161
section CUT
variable {N : Nat} {c m : Mem} {v vk : VB}
theorem pl_le (v : VB) (p r : Nat) : ∀ k, pl v p r k ≤ k := by
  intro k
  induction k with
  | zero => exact Nat.le_refl _
  | succ k ih => unfold pl at *; rw [cntP]; split <;> omega
theorem e_placeL (h : RCb c 1 v) (hv : IV v) {p r : Nat} (hp : p < 2 ^ 31) (hr : r < cnt v 1) : ∀ d k n, k + d = cnt v 1 → d < n → f_X0_placeByMade_L16 N n (nI r) (nI p) (nI (tb v 1 r 2)) (nI (pl v p r k)) (nI k) c = some (nI (pl v p r (cnt v 1)), c) := by
  have b1 := hv.np
  have b2 := (hv.2.1 r hr).2.2.1
  intro d
  induction d with
  | zero =>
    intro k n h1 h2
    obtain ⟨n, rfl⟩ := suc_of h2
    have e : k = cnt v 1 := by omega
    unfold f_X0_placeByMade_L16
    rw [ct1 h, le_t (by omega) (by omega), e]
  | succ d ih =>
    intro k n h1 h2
    obtain ⟨n, rfl⟩ := suc_of h2
    have hk : k < cnt v 1 := by omega
    have b3 := (hv.2.1 k hk).2.2.1
    have hi := ih (k + 1) n (by omega) (by omega)
    unfold pl at hi
    rw [cntP] at hi
    unfold f_X0_placeByMade_L16
    rw [ct1 h, le_f hk (by omega), e_isOf h hv hk hp, bnd_s, g12 h hk, bnd_s, ite_lt (by omega) (by omega), ite_eq (by omega) (by omega), ite_le (by omega) (by omega)]
    unfold f_X0_placeByMade_j71 f_X0_placeByMade_j74 pl
    rw [nI_1, nI_1]
    by_cases z : lex v p r k = true
    · rw [if_pos z] at hi
      rw [lex_i] at z
      rw [decide_eq_true z.1, ite_T]
      by_cases w : tb v 1 k 2 < tb v 1 r 2
      · rw [if_pos w]; exact hi
      · rw [if_neg w, if_pos (by omega), if_neg (by omega)]; exact hi
    · rw [if_neg z, Nat.add_zero] at hi
      rw [lex_i] at z
      by_cases y : tb v 1 k 0 = p
      · rw [decide_eq_true y, ite_T, if_neg (by omega)]
        by_cases w : tb v 1 k 2 = tb v 1 r 2
        · rw [if_pos w, if_pos (by omega)]; exact hi
        · rw [if_neg w]; exact hi
      · rw [decide_eq_false y, ite_F]; exact hi
theorem e_place (h : RCb c 1 v) (hv : IV v) {p r : Nat} (hp : p < 2 ^ 31) (hr : r < cnt v 1) (hN : 1000 ≤ N) : f_X0_placeByMade N (nI r) (nI p) c = some (nI (pl v p r (cnt v 1)), c) := by
  have b1 := hv.np
  unfold f_X0_placeByMade
  rw [g12 h hr, bnd_s]
  exact e_placeL h hv hp hr (cnt v 1) 0 N (by omega) (by omega)
/-- the papers whose bit stands -/
def bitsP (P : Nat → Bool) : Nat → Nat
  | 0 => 0
  | k + 1 => bitsP P k + (if P k = true then 2 ^ k else 0)
theorem bitsP_lt (P : Nat → Bool) : ∀ k, bitsP P k < 2 ^ k := by
  intro k
  induction k with
  | zero => exact Nat.one_pos
  | succ k ih => rw [bitsP, Nat.pow_succ]; split <;> omega
theorem bitsP_test (P : Nat → Bool) : ∀ k r, (bitsP P k).testBit r = (decide (r < k) && P r) := by
  intro k
  induction k with
  | zero => intro r; rw [bitsP, Nat.zero_testBit, decide_eq_false (by omega), Bool.false_and]
  | succ k ih =>
    intro r
    rw [bitsP]
    by_cases z : P k = true
    · rw [if_pos z, ← or_up (bitsP_lt P k), Nat.testBit_or, ih, Nat.testBit_two_pow]
      by_cases e : k = r
      · subst e
        rw [decide_eq_true rfl, Bool.or_true, decide_eq_true (show k < k + 1 by omega), z]; rfl
      · rw [decide_eq_false e, Bool.or_false]
        congr 1
        exact dec_c (by omega)
    · rw [if_neg z, Nat.add_zero, ih]
      by_cases e : k = r
      · subst e
        rw [no_t z, Bool.and_false, Bool.and_false]
      · congr 1
        exact dec_c (by omega)
theorem and_bit {x k : Nat} : (x &&& 2 ^ k = 0) ↔ x.testBit k = false := by
  constructor
  · intro h
    have h2 := congrArg (fun q => Nat.testBit q k) h
    simpa [Nat.testBit_and, Nat.testBit_two_pow] using h2
  · intro h
    apply Nat.eq_of_testBit_eq
    intro i
    rw [Nat.testBit_and, Nat.testBit_two_pow, Nat.zero_testBit]
    by_cases e : k = i
    · rw [← e, h, Bool.false_and]
    · rw [decide_eq_false e, Bool.and_false]
theorem e_allL (h : RCb c 1 v) (hv : IV v) {x y : Nat} (hx : x < 2 ^ 31) (hy : y ≤ 160) : ∀ d k n, k + d = cnt v 1 → d < n → allB (fun r => if x.testBit r = true then spS v r y else true) k = true → f_X0_areAllInSpan_L2 N n (nI x) (nI y) (nI k) c = some (allB (fun r => if x.testBit r = true then spS v r y else true) (cnt v 1), c) := by
  have b1 := hv.np
  intro d
  induction d with
  | zero =>
    intro k n h1 h2 h3
    obtain ⟨n, rfl⟩ := suc_of h2
    have e : k = cnt v 1 := by omega
    unfold f_X0_areAllInSpan_L2
    rw [ct1 h, le_t (by omega) (by omega)]
    exact congrArg (fun q => some (q, c)) (by rw [← e]; exact h3.symm)
  | succ d ih =>
    intro k n h1 h2 h3
    obtain ⟨n, rfl⟩ := suc_of h2
    have hk : k < cnt v 1 := by omega
    have hi := ih (k + 1) n (by omega) (by omega)
    rw [allB, h3, Bool.true_and] at hi
    have hand : x &&& 2 ^ k ≤ x := Nat.and_le_left
    unfold f_X0_areAllInSpan_L2
    rw [ct1 h, le_f hk (by omega), e_bitN (by omega), bnd_s, ni_and, ek0 (by omega)]
    unfold f_X0_areAllInSpan_j33
    rw [nI_1]
    by_cases z : x.testBit k = true
    · rw [if_pos z] at hi
      rw [if_neg (fun q => by rw [and_bit.mp q] at z; exact absurd z (by decide)), e_span h hv hk hy, bnd_s]
      by_cases w : spS v k y = true
      · rw [if_pos w]; exact hi w
      · have f := allB_f (Q := fun r => if x.testBit r = true then spS v r y else true) (k := k + 1) (by rw [allB, h3, Bool.true_and]; show (if x.testBit k = true then spS v k y else true) = false; rw [if_pos z]; exact no_t w) d
        rw [show k + 1 + d = cnt v 1 by omega] at f
        rw [if_neg w, f]
    · rw [if_neg z] at hi
      rw [if_pos (and_bit.mpr (no_t z))]
      exact hi rfl
theorem e_meetY (h : RCb c 1 v) (hv : IV v) {x : Nat} (hx : x < 2 ^ 31) (hN : 1000 ≤ N) : ∀ d y n, y + d = 161 → d < n → exB (fun y => allB (fun r => if x.testBit r = true then spS v r y else true) (cnt v 1)) y = false → f_X0_spansMeet_L71 N n (nI x) (nI y) c = some (exB (fun y => allB (fun r => if x.testBit r = true then spS v r y else true) (cnt v 1)) 161, c) := by
  have b1 := hv.np
  intro d
  induction d with
  | zero =>
    intro y n h1 h2 h3
    obtain ⟨n, rfl⟩ := suc_of h2
    have e : y = 161 := by omega
    unfold f_X0_spansMeet_L71
    rw [klt160 (by omega), if_pos (by omega), ← h3, e]
  | succ d ih =>
    intro y n h1 h2 h3
    obtain ⟨n, rfl⟩ := suc_of h2
    have hi := ih (y + 1) n (by omega) (by omega)
    rw [exB, h3, Bool.false_or] at hi
    unfold f_X0_spansMeet_L71
    have e1 : f_X0_areAllInSpan N (nI x) (nI y) c = some (allB (fun r => if x.testBit r = true then spS v r y else true) (cnt v 1), c) := e_allL h hv hx (by omega) (cnt v 1) 0 N (by omega) (by omega) rfl
    rw [klt160 (by omega), if_neg (by omega), e1, bnd_s, nI_1]
    by_cases w : allB (fun r => if x.testBit r = true then spS v r y else true) (cnt v 1) = true
    · have f := exB_t (Q := fun y => allB (fun r => if x.testBit r = true then spS v r y else true) (cnt v 1)) (k := y + 1) (by rw [exB, h3, Bool.false_or]; exact w) d
      rw [show y + 1 + d = 161 by omega] at f
      rw [if_pos w, f]
    · rw [if_neg w]
      exact hi (no_t w)
def inMt (v : VB) (p f t r : Nat) : Bool := decide (tb v 1 r 0 = p ∧ f ≤ pl v p r (cnt v 1) ∧ pl v p r (cnt v 1) < t)
theorem e_meetL (h : RCb c 1 v) (hv : IV v) {p f t : Nat} (hp : p < 2 ^ 31) (hf : f < 2 ^ 31) (ht : t < 2 ^ 31) (hN : 1000 ≤ N) : ∀ d k n, k + d = cnt v 1 → d < n → f_X0_spansMeet_L6 N (f_X0_spansMeet_j68 N) n (nI p) (nI f) (nI t) (nI (bitsP (inMt v p f t) k)) (nI k) c = f_X0_spansMeet_j68 N (nI (bitsP (inMt v p f t) (cnt v 1))) c := by
  have b1 := hv.np
  intro d
  induction d with
  | zero =>
    intro k n h1 h2
    obtain ⟨n, rfl⟩ := suc_of h2
    have e : k = cnt v 1 := by omega
    unfold f_X0_spansMeet_L6
    rw [ct1 h, le_t (by omega) (by omega), e]
  | succ d ih =>
    intro k n h1 h2
    obtain ⟨n, rfl⟩ := suc_of h2
    have hk : k < cnt v 1 := by omega
    have hi := ih (k + 1) n (by omega) (by omega)
    have hpl := pl_le v p k (cnt v 1)
    rw [bitsP] at hi
    unfold f_X0_spansMeet_L6
    rw [ct1 h, le_f hk (by omega), e_isOf h hv hk hp, bnd_s, e_place h hv hp hk hN, bnd_s, ite_lt (by omega) hf, ite_le ht (by omega), e_bitN (by omega), bnd_s, ni_or, or_up (bitsP_lt _ k)]
    unfold f_X0_spansMeet_j62
    rw [nI_1]
    by_cases z : inMt v p f t k = true
    · rw [if_pos z] at hi
      have z2 := of_decide_eq_true z
      rw [decide_eq_true z2.1, ite_T, if_neg (by omega), if_neg (by omega)]
      exact hi
    · rw [if_neg z, Nat.add_zero] at hi
      have z2 : ¬ (tb v 1 k 0 = p ∧ f ≤ pl v p k (cnt v 1) ∧ pl v p k (cnt v 1) < t) := fun q => z (decide_eq_true q)
      by_cases y : tb v 1 k 0 = p
      · rw [decide_eq_true y, ite_T]
        by_cases w : pl v p k (cnt v 1) < f
        · rw [if_pos w]; exact hi
        · rw [if_neg w, if_pos (by omega)]; exact hi
      · rw [decide_eq_false y, ite_F]; exact hi
theorem e_meet (h : RCb c 1 v) (hv : IV v) {p f t : Nat} (hp : p < 2 ^ 31) (hf : f < 2 ^ 31) (ht : t < 2 ^ 31) (hN : 1000 ≤ N) : f_X0_spansMeet N (nI p) (nI f) (nI t) c = some (mt v p f t, c) := by
  have b1 := hv.np
  have b2 : bitsP (inMt v p f t) (cnt v 1) < 2 ^ 31 := Nat.lt_of_lt_of_le (bitsP_lt _ _) (Nat.pow_le_pow_right (by decide) (by omega))
  unfold f_X0_spansMeet
  have e1 := e_meetL (N := N) h hv hp hf ht hN (cnt v 1) 0 N (by omega) (by omega)
  have e2 := e_meetY (N := N) h hv b2 hN 161 0 N (by omega) (by omega) rfl
  refine e1.trans (e2.trans ?_)
  unfold mt
  refine congrArg (fun q => some (q, c)) (exB_c _ (fun y _ => ?_))
  have e3 : ∀ n, n ≤ cnt v 1 → allB (fun r => if (bitsP (inMt v p f t) (cnt v 1)).testBit r = true then spS v r y else true) n = allB (fun r => if tb v 1 r 0 = p ∧ f ≤ pl v p r (cnt v 1) ∧ pl v p r (cnt v 1) < t then spS v r y else true) n := by
    intro n
    induction n with
    | zero => intro _; rfl
    | succ n ih =>
      intro hn
      rw [allB, allB, ih (by omega)]
      congr 1
      show (if (bitsP (inMt v p f t) (cnt v 1)).testBit n = true then spS v n y else true) = _
      rw [bitsP_test, decide_eq_true (show n < cnt v 1 by omega), Bool.true_and]
      unfold inMt
      rw [ite_d]
  exact e3 _ (Nat.le_refl _)
-- the model's order
def OrdI (m : Mem) (v : VB) (p k : Nat) : Prop := ∀ i, i < ofP v p k → ∃ r, r < k ∧ tb v 1 r 0 = p ∧ rI m 71 i = nI r ∧ pl v p r k = i
theorem pl_next {v : VB} {p r k : Nat} (hk : tb v 1 k 0 = p) (hr : r < k) : pl v p r (k + 1) = pl v p r k + (if tb v 1 k 2 < tb v 1 r 2 then 1 else 0) := by
  unfold pl
  rw [cntP]
  by_cases z : tb v 1 k 2 < tb v 1 r 2
  · rw [if_pos z, if_pos (lex_i.mpr (by omega))]
  · rw [if_neg z, if_neg (by rw [lex_i]; omega)]
theorem pl_self {v : VB} {p k : Nat} : pl v p k (k + 1) = pl v p k k := by
  unfold pl
  rw [cntP, if_neg (by rw [lex_i]; omega)]; rfl
theorem m_insL (hv : IV v) {p k C : Nat} (hk : k < cnt v 1) (A : Nat → Int32) (hA : ∀ i, i < C → ∃ r, r < k ∧ tb v 1 r 0 = p ∧ A i = nI r ∧ pl v p r k = i) (hC : C < 6) (hJ : pl v p k k ≤ C) (K : Int32 → Int32 → Int32 → Int32 → Mem → Option (Int32 × Mem)) :
    ∀ d i n (m : Mem), RMl m v → i = pl v p k k + d → i ≤ C → d < n → (∀ q, q < i → rI m 71 q = A q) → (∀ q, i < q → q ≤ C → rI m 71 q = A (q - 1)) → ∃ m2, f_X9_orderOf_L28 N K n (nI p) (nI C) (nI k) (nI i) m = K (nI p) (nI C) (nI k) (nI (pl v p k k)) m2 ∧ Sm1 (fun o => o = 71) m m2 ∧ (∀ q, q < pl v p k k → rI m2 71 q = A q) ∧ ∀ q, pl v p k k < q → q ≤ C → rI m2 71 q = A (q - 1) := by
  have b1 := hv.np
  have bk := (hv.2.1 k hk).2.2.1
  intro d
  induction d with
  | zero =>
    intro i n m h h1 h2 h3 h4 h5
    obtain ⟨n, rfl⟩ := suc_of h3
    rw [Nat.add_zero] at h1
    refine ⟨m, ?_, Sm1.rf, fun q hq => h4 q (by omega), fun q hq hq2 => h5 q (by omega) hq2⟩
    unfold f_X9_orderOf_L28
    rw [lek0 (by omega)]
    by_cases z : i ≤ 0
    · rw [if_pos z, h1]
    · obtain ⟨i, rfl⟩ := suc_of (show 0 < i by omega)
      obtain ⟨r, r1, r2, r3, r4⟩ := hA i (by omega)
      have br := (hv.2.1 r (by omega)).2.2.1
      have le : tb v 1 r 2 ≤ tb v 1 k 2 := (pl_made r2 r1).mpr (by omega)
      rw [if_neg z, nI_pred, gin_n (by omega) (by omega), nI_clamp (by omega), h4 i (by omega), r3, pmg2 (show r < 30 by omega), pmg2 (show k < 30 by omega), pmn2 (show r < 30 by omega), pmn2 (show k < 30 by omega), mp2 h (by omega), mp2 h hk, le_t le (by omega), h1]
  | succ d ih =>
    intro i n m h h1 h2 h3 h4 h5
    obtain ⟨n, rfl⟩ := suc_of h3
    obtain ⟨i, rfl⟩ := suc_of (show 0 < i by omega)
    obtain ⟨r, r1, r2, r3, r4⟩ := hA i (by omega)
    have br := (hv.2.1 r (by omega)).2.2.1
    have nle : ¬ tb v 1 r 2 ≤ tb v 1 k 2 := fun z => by
      have := (pl_made r2 r1).mp z
      omega
    have hw : ∀ o j, o ≠ 71 → rI (wI m 71 (i + 1) (A i)) o j = rI m o j := fun o j ho => rI_ne ho
    obtain ⟨m2, e1, e2, e3, e4⟩ := ih i n (wI m 71 (i + 1) (A i)) (RMl_s h (fun o j ho => hw o j (by omega))) (by omega) (by omega) (by omega) (fun q hq => by rw [rI_w, if_neg (by omega)]; exact h4 q (by omega)) (fun q hq hq2 => by
      rw [rI_w]
      by_cases e : q = i + 1
      · rw [if_pos ⟨rfl, e⟩, e]; rfl
      · rw [if_neg (by omega)]; exact h5 q (by omega) hq2)
    refine ⟨m2, ?_, (Sm1.wI (P := fun o => o = 71) rfl).tr e2, e3, e4⟩
    unfold f_X9_orderOf_L28
    rw [lek0 (by omega), if_neg (by omega), nI_pred, gin_n (by omega) (by omega), nI_clamp (by omega), h4 i (by omega), gin_n (by omega) (by omega), gin_n (by omega) (by omega), nI_clamp (by omega), lt_e]
    rw [r3, pmg2 (show r < 30 by omega), pmg2 (show k < 30 by omega), pmn2 (show r < 30 by omega), pmn2 (show k < 30 by omega), mp2 h (by omega), mp2 h hk, le_f (by omega) (by omega)]
    rw [pk_m1, ← r3]
    exact e1
theorem m_orderL (hv : IV v) {p : Nat} (hp : p < 2 ^ 31) (hN : 1000 ≤ N) : ∀ d k n (m : Mem), RMl m v → OrdI m v p k → k + d = cnt v 1 → d < n → ∃ m2, f_X9_orderOf_L4 N n (nI p) (nI (ofP v p k)) (nI k) m = some (nI (ofP v p (cnt v 1)), m2) ∧ Sm1 (fun o => o = 71) m m2 ∧ OrdI m2 v p (cnt v 1) := by
  have b1 := hv.np
  have b0 := hv.n0
  intro d
  induction d with
  | zero =>
    intro k n m h ho h1 h2
    obtain ⟨n, rfl⟩ := suc_of h2
    have e : k = cnt v 1 := by omega
    refine ⟨m, ?_, Sm1.rf, by rw [← e]; exact ho⟩
    unfold f_X9_orderOf_L4
    rw [mct1 h, le_t (by omega) (by omega), e]
  | succ d ih =>
    intro k n m h ho h1 h2
    obtain ⟨n, rfl⟩ := suc_of h2
    have hk : k < cnt v 1 := by omega
    have hk3 : k < 30 := by omega
    have q0 := (hv.2.1 k hk).1
    have ob := hv.2.2.2.2.2.1 p
    unfold f_X9_orderOf_L4
    rw [mct1 h, le_f hk (by omega), pmg0 hk3, pmn0 hk3, mp0 h hk, ite_eq (by omega) hp]
    by_cases z : tb v 1 k 0 = p
    · have om := ofP_mono v p (k + 1) d
      rw [show k + 1 + d = cnt v 1 by omega, ofP, if_pos z] at om
      have hJ : pl v p k k ≤ ofP v p k := by
        rw [ofP_cnt]
        exact cntP_le k (fun i _ hi => decide_eq_true (lex_i.mp hi).1)
      obtain ⟨m2, e1, e2, e3, e4⟩ := m_insL (N := N) hv (p := p) (C := ofP v p k) hk (fun i => rI m 71 i) ho (by omega) hJ (f_X9_orderOf_j88 N (f_X9_orderOf_L4 N n)) (ofP v p k - pl v p k k) (ofP v p k) N m h (by omega) (by omega) (by omega) (fun _ _ => rfl) (fun q hq hq2 => by omega)
      rw [if_pos z, e1]
      have hm2 : RMl m2 v := RMl_s h (fun o j hoj => (e2 o (by omega)).1 j)
      obtain ⟨m3, g1, g2, g3⟩ := ih (k + 1) n (wI m2 71 (pl v p k k) (nI k)) (RMl_s hm2 (fun o j hoj => rI_ne (by omega))) (fun i hi => by
        rw [ofP, if_pos z] at hi
        rw [rI_w]
        by_cases c1 : i = pl v p k k
        · exact ⟨k, by omega, z, by rw [if_pos ⟨rfl, c1⟩], by rw [pl_self, c1]⟩
        · rw [if_neg (fun q => c1 q.2)]
          by_cases c2 : i < pl v p k k
          · obtain ⟨r, r1, r2, r3, r4⟩ := ho i (by omega)
            refine ⟨r, by omega, r2, by rw [e3 i c2]; exact r3, ?_⟩
            rw [pl_next z r1, if_neg (by have := (pl_made r2 r1).mpr (by omega); omega), r4]; rfl
          · obtain ⟨r, r1, r2, r3, r4⟩ := ho (i - 1) (by omega)
            refine ⟨r, by omega, r2, by rw [e4 i (by omega) (by omega)]; exact r3, ?_⟩
            rw [pl_next z r1, if_pos (by
              by_cases w : tb v 1 r 2 ≤ tb v 1 k 2
              · have := (pl_made r2 r1).mp w; omega
              · omega), r4]
            omega) (by omega) (by omega)
      refine ⟨m3, ?_, (e2.tr (Sm1.wI (P := fun o => o = 71) rfl)).tr g2, g3⟩
      unfold f_X9_orderOf_j88 f_X9_orderOf_j99
      rw [gin_n (by omega) (by omega), lt_e, nI_clamp (by omega), nI_1, nI_1]
      rw [ofP, if_pos z] at g1
      exact g1
    · obtain ⟨m3, g1, g2, g3⟩ := ih (k + 1) n m h (fun i hi => by
        rw [ofP, if_neg z] at hi
        obtain ⟨r, r1, r2, r3, r4⟩ := ho i hi
        refine ⟨r, by omega, r2, r3, ?_⟩
        rw [← r4]
        unfold pl
        rw [cntP, if_neg (by rw [lex_i]; omega)]; rfl) (by omega) (by omega)
      refine ⟨m3, ?_, g2, g3⟩
      rw [ofP, if_neg z, Nat.add_zero] at g1
      rw [if_neg z]
      unfold f_X9_orderOf_j99
      rw [nI_1]
      exact g1
end CUT
