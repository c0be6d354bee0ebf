-- papers on papers
def undS (v : VB) (k : Nat) : Nat := tb v 1 k 6 ||| (if tb v 1 k 5 = 0 then 0 else 2 ^ (tb v 1 k 5 - 1))
theorem undS_lt {v : VB} (hv : IV v) {k : Nat} (hk : k < cnt v 1) : undS v k < 2 ^ cnt v 1 := by
  have h := (hv.2.1 k hk).2.2.2.2.2
  unfold undS
  refine Nat.or_lt_two_pow h.2 ?_
  by_cases z : tb v 1 k 5 = 0
  · rw [if_pos z]; exact Nat.two_pow_pos _
  · rw [if_neg z]; exact Nat.pow_lt_pow_right (by decide) (by omega)
theorem p30 {v : VB} (hv : IV v) {x : Nat} (h : x < 2 ^ cnt v 1) : x < 2 ^ 30 := Nat.lt_of_lt_of_le h (Nat.pow_le_pow_right (by decide) hv.np)
section RESTS
variable {N : Nat} {c m : Mem} {v vk : VB}
theorem g15t {r : Nat} (h : RCb c 1 v) (hr : r < cnt v 1) : f_X5_get N 4 (nI r) 5 c = some (trM (tb v 1 r 5), c) := gt (j := 1) (k := 5) h (by decide) hr (by decide)
theorem g16t {r : Nat} (h : RCb c 1 v) (hr : r < cnt v 1) : f_X5_get N 4 (nI r) 6 c = some (nI (tb v 1 r 6), c) := gt (j := 1) (k := 6) h (by decide) hr (by decide)
theorem e_restsOn (h : RCb c 1 v) (hv : IV v) {k : Nat} (hk : k < cnt v 1) : f_X0_restsOn N (nI k) c = some (nI (undS v k), c) := by
  have b1 := hv.np
  have hb := (hv.2.1 k hk).2.2.2.2.2
  unfold f_X0_restsOn undS
  rw [g15t h hk, bnd_s, g16t h hk, bnd_s]
  by_cases z : tb v 1 k 5 = 0
  · rw [show trM (tb v 1 k 5) = -9 from if_pos z, th_has (T1 h), bnd_s, if_neg (by unfold isI; rw [decide_eq_true_eq]; exact fun q => q.1 (by decide)), if_pos z, show (0 : Int32) = nI 0 from rfl, ni_or]
  · rw [show trM (tb v 1 k 5) = nI (tb v 1 k 5 - 1) from if_neg z, th_hasN (T1 h) (by omega), bnd_s, decide_eq_true (by omega), ite_T, e_bitN (by omega), bnd_s, ni_or, if_neg z]
theorem rmi0 {r : Nat} : (2 * nI r : Int32) = nI (2 * r) := pk_mul 2 r
theorem rmi1 {r : Nat} : (2 * nI r + 1 : Int32) = nI (2 * r + 1) := by rw [rmi0]; exact nI_add _ 1
theorem m_underL (h : RMl m v) (hv : IV v) {k : Nat} (hk : k < cnt v 1) : ∀ d q n a, q + d = cnt v 7 → d < n → ∃ R, f_X9_under_L34 N n (nI k) (nI a) (nI q) m = some (nI R, m) ∧ ∀ y, R.testBit y = true ↔ a.testBit y = true ∨ ∃ j, q ≤ j ∧ j < cnt v 7 ∧ rI m 65 (2 * j) = nI k ∧ rI m 65 (2 * j + 1) = nI y ∧ y < 30 := by
  have b1 := hv.np
  have b7 : cnt v 7 ≤ 40 := hv.2.2.2.2.2.2.1
  have K := h.2.2.2.1
  intro d
  induction d with
  | zero =>
    intro q n a h1 h2
    obtain ⟨n, rfl⟩ := suc_of h2
    have e : q = cnt v 7 := by omega
    refine ⟨a, ?_, fun y => ⟨Or.inl, fun z => ?_⟩⟩
    · unfold f_X9_under_L34
      rw [mct7 h, le_t (by omega) (by omega)]
    · rcases z with z | ⟨j, j1, j2, -⟩
      · exact z
      · omega
  | succ d ih =>
    intro q n a h1 h2
    obtain ⟨n, rfl⟩ := suc_of h2
    obtain ⟨X, Y, x1, y1, xy, hx, hy, -⟩ := K.2.1 q (by omega)
    have hx' : rI m 65 (2 * q) = nI X := hx
    have hy' : rI m 65 (2 * q + 1) = nI Y := hy
    have fin : ∀ a2 : Nat, (∀ y, a2.testBit y = true ↔ a.testBit y = true ∨ X = k ∧ y = Y) → ∃ R, f_X9_under_L34 N n (nI k) (nI a2) (nI (q + 1)) m = some (nI R, m) ∧ ∀ y, R.testBit y = true ↔ a.testBit y = true ∨ ∃ j, q ≤ j ∧ j < cnt v 7 ∧ rI m 65 (2 * j) = nI k ∧ rI m 65 (2 * j + 1) = nI y ∧ y < 30 := by
      intro a2 ha
      obtain ⟨R, r1, r2⟩ := ih (q + 1) n a2 (by omega) (by omega)
      refine ⟨R, r1, fun y => ?_⟩
      rw [r2, ha]
      constructor
      · rintro ((z | ⟨z1, z2⟩) | ⟨j, j1, j2, j3⟩)
        · exact Or.inl z
        · exact Or.inr ⟨q, Nat.le_refl _, by omega, by rw [hx', z1], by rw [hy', z2], by omega⟩
        · exact Or.inr ⟨j, by omega, j2, j3⟩
      · rintro (z | ⟨j, j1, j2, j3, j4, j5⟩)
        · exact Or.inl (Or.inl z)
        · by_cases e : j = q
          · rw [e, hx'] at j3
            rw [e, hy'] at j4
            exact Or.inl (Or.inr ⟨(nI_eq (by omega) (by omega)).mp j3, ((nI_eq (by omega) (by omega)).mp j4).symm⟩)
          · exact Or.inr ⟨j, by omega, j2, j3, j4, j5⟩
    unfold f_X9_under_L34
    rw [mct7 h, le_f (by omega) (by omega), rmi1, rmi0, gin_n (by omega) (by omega), gin_n (by omega) (by omega), nI_clamp (by omega), nI_clamp (by omega), hx', hy', ite_eq (by omega) (by omega), shl1 (by omega)]
    unfold f_X9_under_j71
    rw [nI_1, show (0 : Int32) = nI 0 from rfl, ni_or, ni_or]
    by_cases z : X = k
    · rw [if_pos z]
      refine fin _ (fun y => ?_)
      rw [Nat.testBit_or, Nat.testBit_two_pow, Bool.or_eq_true, decide_eq_true_eq]
      exact or_congr_right ⟨fun w => ⟨z, w.symm⟩, fun w => w.2.symm⟩
    · rw [if_neg z, Nat.or_zero]
      exact fin _ (fun y => ⟨Or.inl, fun w => w.resolve_right (fun u => z u.1)⟩)
theorem m_under (h : RMl m v) (hv : IV v) {k : Nat} (hk : k < cnt v 1) (hN : 1000 ≤ N) : f_X9_under N (nI k) m = some (nI (undS v k), m) := by
  have b1 := hv.np
  have b7 : cnt v 7 ≤ 40 := hv.2.2.2.2.2.2.1
  have K := h.2.2.2.1
  have hb := (hv.2.1 k hk).2.2.2.2.2
  have main : ∀ a : Nat, a = (if tb v 1 k 5 = 0 then 0 else 2 ^ (tb v 1 k 5 - 1)) → f_X9_under_j31 N (nI k) (nI a) m = some (nI (undS v k), m) := by
    intro a ha
    obtain ⟨R, r1, r2⟩ := m_underL (N := N) h hv hk (cnt v 7) 0 N a (by omega) (by omega)
    have e : R = undS v k := by
      apply Nat.eq_of_testBit_eq
      intro y
      refine bool_c ?_
      unfold undS
      rw [r2, Nat.testBit_or, Bool.or_eq_true, ← ha]
      constructor
      · rintro (z | ⟨j, -, j2, j3, j4, j5⟩)
        · exact Or.inr z
        · obtain ⟨X, Y, x1, y1, xy, hx, hy, ht⟩ := K.2.1 j j2
          have hx' : rI m 65 (2 * j) = nI X := hx
          have hy' : rI m 65 (2 * j + 1) = nI Y := hy
          rw [hx'] at j3
          rw [hy'] at j4
          rw [(nI_eq (by omega) (by omega)).mp j3, (nI_eq (by omega) (by omega)).mp j4] at ht
          exact Or.inl ht
      · rintro (z | z)
        · obtain ⟨j, j1, j2, j3⟩ := K.2.2 k y hk z
          have hy : y < 30 := by
            by_cases w : y < 30
            · exact w
            · have : tb v 1 k 6 < 2 ^ y := Nat.lt_of_lt_of_le hb.2 (Nat.pow_le_pow_right (by decide) (by omega))
              rw [Nat.testBit_lt_two_pow this] at z
              exact absurd z (by decide)
          exact Or.inr ⟨j, Nat.zero_le _, j1, j2, j3, hy⟩
        · exact Or.inl z
    rw [← e]
    exact r1
  unfold f_X9_under
  rw [pmg5 (by omega), pmg5 (by omega), pmn5 (by omega), mp5 h hk]
  by_cases z : tb v 1 k 5 = 0
  · rw [show trM (tb v 1 k 5) = -9 from if_pos z, if_pos (by decide)]
    exact main 0 (by rw [if_pos z])
  · rw [show trM (tb v 1 k 5) = nI (tb v 1 k 5 - 1) from if_neg z, lt0_f (by omega), shl1 (by omega)]
    exact main _ (by rw [if_neg z])
-- standing
def stS (v : VB) (x k : Nat) : Nat := if undS v k = 0 ∨ undS v k &&& x ≠ 0 then x ||| 2 ^ k else x
def pS (v : VB) (x : Nat) : Nat → Nat
  | 0 => x
  | k + 1 => stS v (pS v x k) k
def stB (v : VB) (x k : Nat) : Nat := if x.testBit k = true then x ||| undS v k else x
def pB (v : VB) (x : Nat) : Nat → Nat
  | 0 => x
  | k + 1 => stB v (pB v x k) k
def bitsN (x : Nat) : Nat := cntP (fun i => x.testBit i) 30
def sub (x y : Nat) : Prop := ∀ i, x.testBit i = true → y.testBit i = true
theorem cntP_max (P : Nat → Bool) : ∀ n, cntP P n ≤ n := by
  intro n
  induction n with
  | zero => exact Nat.le_refl _
  | succ n ih => rw [cntP]; split <;> omega
theorem bitsN_lt {x y : Nat} (hy : y < 2 ^ 30) (hs : sub x y) (hne : y ≠ x) : bitsN x + 1 ≤ bitsN y := by
  have : ∃ i, x.testBit i = false ∧ y.testBit i = true := by
    refine Classical.byContradiction (fun h => hne (Nat.eq_of_testBit_eq (fun i => ?_)))
    cases hx : x.testBit i
    · cases hy2 : y.testBit i
      · rfl
      · exact absurd ⟨i, hx, hy2⟩ h
    · exact hs i hx
  obtain ⟨i, i1, i2⟩ := this
  have hi : i < 30 := by
    by_cases w : i < 30
    · exact w
    · have : y < 2 ^ i := Nat.lt_of_lt_of_le hy (Nat.pow_le_pow_right (by decide) (by omega))
      rw [Nat.testBit_lt_two_pow this] at i2
      exact absurd i2 (by decide)
  exact cntP_lt (P := fun i => x.testBit i) (Q := fun i => y.testBit i) i1 i2 30 hi (fun j _ hj => hs j hj)
theorem pS_sub (v : VB) (x : Nat) : ∀ k, sub x (pS v x k) := by
  intro k
  induction k with
  | zero => exact fun i h => h
  | succ k ih =>
    intro i h
    rw [pS, stS]
    split
    · rw [Nat.testBit_or, ih i h, Bool.true_or]
    · exact ih i h
theorem pB_sub (v : VB) (x : Nat) : ∀ k, sub x (pB v x k) := by
  intro k
  induction k with
  | zero => exact fun i h => h
  | succ k ih =>
    intro i h
    rw [pB, stB]
    split
    · rw [Nat.testBit_or, ih i h, Bool.true_or]
    · exact ih i h
theorem pS_lt (hv : IV v) {x : Nat} (hx : x < 2 ^ 30) : ∀ k, k ≤ cnt v 1 → pS v x k < 2 ^ 30 := by
  have b1 := hv.np
  intro k
  induction k with
  | zero => intro _; exact hx
  | succ k ih =>
    intro hk
    rw [pS, stS]
    split
    · exact Nat.or_lt_two_pow (ih (by omega)) (Nat.pow_lt_pow_right (by decide) (by omega))
    · exact ih (by omega)
theorem pB_lt (hv : IV v) {x : Nat} (hx : x < 2 ^ 30) : ∀ k, k ≤ cnt v 1 → pB v x k < 2 ^ 30 := by
  have b1 := hv.np
  intro k
  induction k with
  | zero => intro _; exact hx
  | succ k ih =>
    intro hk
    rw [pB, stB]
    split
    · exact Nat.or_lt_two_pow (ih (by omega)) (p30 hv (undS_lt hv (by omega)))
    · exact ih (by omega)
theorem c_stL (h : RCb c 1 v) (hv : IV v) {x j : Nat} (hx : x < 2 ^ 30) (K : Int32 → Int32 → Int32 → Mem → Option (Int32 × Mem)) : ∀ d k n, k + d = cnt v 1 → d < n → f_X0_standing_L15 N K n (nI (pS v x k)) (nI j) (nI x) (nI k) c = K (nI (pS v x (cnt v 1))) (nI j) (nI x) c := by
  have b1 := hv.np
  intro d
  induction d with
  | zero =>
    intro k n h1 h2
    obtain ⟨n, rfl⟩ := suc_of h2
    have e : k = cnt v 1 := by omega
    unfold f_X0_standing_L15
    rw [ct1 h, le_t (by omega) (by omega), e]
  | succ d ih =>
    intro k n h1 h2
    obtain ⟨n, rfl⟩ := suc_of h2
    have hk : k < cnt v 1 := by omega
    have hu := p30 hv (undS_lt hv hk)
    have ha : undS v k &&& pS v x k ≤ undS v k := Nat.and_le_left
    have hi := ih (k + 1) n (by omega) (by omega)
    rw [pS, stS] at hi
    unfold f_X0_standing_L15
    rw [ct1 h, le_f hk (by omega), e_restsOn h hv hk, bnd_s, ek0 (by omega), ni_and, ek0 (by omega)]
    unfold f_X0_standing_j47 f_X0_standing_j55
    rw [e_bitN (by omega), bnd_s, ni_or, nI_1]
    by_cases z : undS v k = 0
    · rw [if_pos (Or.inl z)] at hi
      rw [if_pos z]; exact hi
    · by_cases w : undS v k &&& pS v x k = 0
      · rw [if_neg (fun q => q.elim z (fun u => u w))] at hi
        rw [if_neg z, if_pos w]; exact hi
      · rw [if_pos (Or.inr w)] at hi
        rw [if_neg z, if_neg w]; exact hi
theorem m_stL (h : RMl m v) (hv : IV v) (hN : 1000 ≤ N) {x : Nat} (hx : x < 2 ^ 30) (K : Int32 → Bool → Mem → Option (Int32 × Mem)) : ∀ d k n, k + d = cnt v 1 → d < n → f_X9_standing_L12 N K n (nI (pS v x k)) (decide (pS v x k ≠ x)) (nI k) m = K (nI (pS v x (cnt v 1))) (decide (pS v x (cnt v 1) ≠ x)) m := by
  have b1 := hv.np
  intro d
  induction d with
  | zero =>
    intro k n h1 h2
    obtain ⟨n, rfl⟩ := suc_of h2
    have e : k = cnt v 1 := by omega
    unfold f_X9_standing_L12
    rw [mct1 h, le_t (by omega) (by omega), e]
  | succ d ih =>
    intro k n h1 h2
    obtain ⟨n, rfl⟩ := suc_of h2
    have hk : k < cnt v 1 := by omega
    have hu := p30 hv (undS_lt hv hk)
    have ha : undS v k &&& pS v x k ≤ undS v k := Nat.and_le_left
    have hp := pS_lt hv hx k (by omega)
    have hi := ih (k + 1) n (by omega) (by omega)
    unfold f_X9_standing_L12
    rw [mct1 h, le_f hk (by omega), m_under h hv hk hN, bnd_s, bit_n (by omega) (by omega), ek0 (by split <;> omega), ek0 (by omega), ni_and, ek0 (by omega)]
    unfold f_X9_standing_j47 f_X9_standing_j55
    rw [lt_e, shl1 (by omega), ni_or, nI_1]
    have keep : pS v x (k + 1) = pS v x k → f_X9_standing_L12 N K n (nI (pS v x k)) (decide (pS v x k ≠ x)) (nI (k + 1)) m = K (nI (pS v x (cnt v 1))) (decide (pS v x (cnt v 1) ≠ x)) m := by
      intro e
      rw [e] at hi
      exact hi
    by_cases b : (pS v x k).testBit k = true
    · rw [if_pos b, if_neg (by decide)]
      refine keep ?_
      rw [pS, stS]
      split
      · apply Nat.eq_of_testBit_eq
        intro i
        rw [Nat.testBit_or, Nat.testBit_two_pow]
        by_cases e : k = i
        · rw [← e, b]; rfl
        · rw [decide_eq_false e, Bool.or_false]
      · rfl
    · rw [if_neg b, if_pos rfl]
      have add : (undS v k = 0 ∨ undS v k &&& pS v x k ≠ 0) → f_X9_standing_L12 N K n (nI (pS v x k ||| 2 ^ k)) true (nI (k + 1)) m = K (nI (pS v x (cnt v 1))) (decide (pS v x (cnt v 1) ≠ x)) m := by
        intro q
        rw [pS, stS, if_pos q] at hi
        rw [decide_eq_true (show (pS v x k ||| 2 ^ k) ≠ x from fun e => b (pS_sub v x k k (by rw [← e, Nat.testBit_or, Nat.testBit_two_pow, decide_eq_true rfl, Bool.or_true])))] at hi
        exact hi
      by_cases z : undS v k = 0
      · rw [if_pos z]; exact add (Or.inl z)
      · by_cases w : undS v k &&& pS v x k = 0
        · rw [if_neg z, if_pos w]
          exact keep (by rw [pS, stS, if_neg (fun q => q.elim z (fun u => u w))])
        · rw [if_neg z, if_neg w]; exact add (Or.inr w)
theorem b_standL (h : RCb c 1 v) (g : RMl m v) (hv : IV v) (hN : 1000 ≤ N) : ∀ d x j n1 n2, x < 2 ^ 30 → 30 - bitsN x ≤ d → j + d ≤ 30 → d < n1 → d + 1 < n2 → ∃ r, r < 2 ^ 30 ∧ f_X0_standing_L4 N n1 (nI x) (nI j) c = some (nI r, c) ∧ f_X9_standing_L4 N n2 (nI x) true m = some (nI r, m) := by
  have b1 := hv.np
  intro d
  induction d with
  | zero =>
    intro x j n1 n2 hx h1 h2 h3 h4
    obtain ⟨n1, rfl⟩ := suc_of h3
    obtain ⟨n2, rfl⟩ := suc_of (show 0 < n2 by omega)
    obtain ⟨n2, rfl⟩ := suc_of (show 0 < n2 by omega)
    have hl := pS_lt hv hx (cnt v 1) (Nat.le_refl _)
    have e : pS v x (cnt v 1) = x := by
      refine Classical.byContradiction (fun z => ?_)
      have q1 := bitsN_lt hl (pS_sub v x (cnt v 1)) z
      have q2 := cntP_max (fun i => (pS v x (cnt v 1)).testBit i) 30
      unfold bitsN at *
      omega
    refine ⟨x, hx, ?_, ?_⟩
    · unfold f_X0_standing_L4
      have e1 := c_stL (N := N) (j := j) h hv hx (f_X0_standing_j61 N (f_X0_standing_L4 N n1)) (cnt v 1) 0 N (by omega) (by omega)
      rw [klt30 (by omega), if_neg (by omega)]
      refine e1.trans ?_
      unfold f_X0_standing_j61
      rw [e, if_pos rfl]
    · unfold f_X9_standing_L4
      have e1 := m_stL (N := N) g hv hN hx (f_X9_standing_L4 N (n2 + 1)) (cnt v 1) 0 N (by omega) (by omega)
      rw [ite_T]
      rw [decide_eq_false (show ¬ pS v x 0 ≠ x from fun z => z rfl), decide_eq_false (show ¬ pS v x (cnt v 1) ≠ x from fun z => z e)] at e1
      refine e1.trans ?_
      unfold f_X9_standing_L4
      rw [ite_F, e]
  | succ d ih =>
    intro x j n1 n2 hx h1 h2 h3 h4
    obtain ⟨n1, rfl⟩ := suc_of (show 0 < n1 by omega)
    obtain ⟨n2, rfl⟩ := suc_of (show 0 < n2 by omega)
    obtain ⟨n2, rfl⟩ := suc_of (show 0 < n2 by omega)
    have hl := pS_lt hv hx (cnt v 1) (Nat.le_refl _)
    have e1 := c_stL (N := N) (j := j) h hv hx (f_X0_standing_j61 N (f_X0_standing_L4 N n1)) (cnt v 1) 0 N (by omega) (by omega)
    have e2 := m_stL (N := N) g hv hN hx (f_X9_standing_L4 N (n2 + 1)) (cnt v 1) 0 N (by omega) (by omega)
    rw [decide_eq_false (show ¬ pS v x 0 ≠ x from fun z => z rfl)] at e2
    have s1 : f_X0_standing_L4 N (n1 + 1) (nI x) (nI j) c = f_X0_standing_j61 N (f_X0_standing_L4 N n1) (nI (pS v x (cnt v 1))) (nI j) (nI x) c := by
      rw [← e1]
      show (if 30 < nI j then _ else _) = _
      rw [klt30 (by omega), if_neg (by omega)]
      rfl
    have s2 : f_X9_standing_L4 N (n2 + 1 + 1) (nI x) true m = f_X9_standing_L4 N (n2 + 1) (nI (pS v x (cnt v 1))) (decide (pS v x (cnt v 1) ≠ x)) m := by
      rw [← e2]
      rfl
    rw [s1, s2]
    unfold f_X0_standing_j61
    rw [ite_eq (by omega) (by omega), nI_1]
    by_cases e : pS v x (cnt v 1) = x
    · rw [if_pos e, decide_eq_false (fun z => z e), e]
      refine ⟨x, hx, rfl, ?_⟩
      unfold f_X9_standing_L4
      rw [ite_F]
    · rw [if_neg e, decide_eq_true e]
      have q1 := bitsN_lt hl (pS_sub v x (cnt v 1)) e
      exact ih (pS v x (cnt v 1)) (j + 1) n1 (n2 + 1) hl (by omega) (by omega) (by omega) (by omega)
theorem b_standing (h : RCb c 1 v) (g : RMl m v) (hv : IV v) (hN : 1000 ≤ N) : ∃ r, r < 2 ^ 30 ∧ f_X0_standing N c = some (nI r, c) ∧ f_X9_standing N m = some (nI r, m) :=
  b_standL h g hv hN 30 0 0 N N (by decide) (by omega) (by omega) (by omega) (by omega)
theorem b_stands (R : Rv c m v vk) (hN : 1000 ≤ N) : Both (f_X8_stands N c) (f_X9_stands N m) := by
  obtain ⟨h, g, hv, -⟩ := id R
  obtain ⟨r, -, e1, e2⟩ := b_standing (N := N) h g hv hN
  unfold f_X8_stands f_X9_stands
  rw [e1, e2]
  exact both_bad R _
end RESTS
