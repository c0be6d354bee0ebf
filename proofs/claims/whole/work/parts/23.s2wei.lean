-- weights
def outF (v : VB) (p y : Nat) : Nat → Bool
  | 0 => false
  | k + 1 => outF v p y k || (decide (tb v 4 k 0 = p) && (decide (tb v 4 k 3 = 1 ∧ tb v 4 k 1 < y) || decide (tb v 4 k 3 = 2 ∧ y ≤ tb v 4 k 1)))
def outS (v : VB) (p y : Nat) : Bool := outF v p y (cnt v 4)
theorem outF_mono {v : VB} {p y k : Nat} (h : outF v p y k = true) : ∀ d, outF v p y (k + d) = true := by
  intro d
  induction d with
  | zero => exact h
  | succ d ih => rw [← Nat.add_assoc, outF, ih, Bool.true_or]
def wF (v : VB) (p y : Nat) : Nat → Nat
  | 0 => tb v 2 ((seenS v p - y) / 10) 0
  | k + 1 => if tb v 1 k 0 = p then wF v p y k * (if spS v k y = true then 100 - tb v 1 k 4 else tb v 1 k 4) else wF v p y k
def goneS (v : VB) (p y : Nat) : Bool := decide (seenS v p < y) || outS v p y
def wS (v : VB) (p y : Nat) : Nat := if goneS v p y = true then 0 else wF v p y (cnt v 1)
def sumS (v : VB) (p : Nat) : Nat → Nat
  | 0 => 0
  | y + 1 => sumS v p y + wS v p y
def allS (v : VB) (p : Nat) : Nat := sumS v p 161
/-- the greatest weight ahead of a year, and the first year that has it, counted from 1; 0 if none -/
def topS (v : VB) (p : Nat) : Nat → Nat
  | 0 => 0
  | y + 1 => if topS v p y < wS v p y then wS v p y else topS v p y
def besS (v : VB) (p : Nat) : Nat → Nat
  | 0 => 0
  | y + 1 => if topS v p y < wS v p y then y + 1 else besS v p y
def bestS (v : VB) (p : Nat) : Nat := besS v p 161
theorem wF_le {v : VB} (hv : IV v) (p y : Nat) (hs : (seenS v p - y) / 10 < 17) : ∀ k, k ≤ cnt v 1 → wF v p y k ≤ 100 ^ (ofP v p k + 1) := by
  intro k
  induction k with
  | zero => intro _; exact (hv.2.2.1.2 _ hs)
  | succ k ih =>
    intro hk
    have h1 := ih (by omega)
    have h2 := (hv.2.1 k (by omega)).2.2.2.2.1
    rw [wF, ofP]
    split
    · rw [Nat.pow_succ]
      exact Nat.mul_le_mul h1 (by split <;> omega)
    · exact h1
theorem w_le {v : VB} (hv : IV v) (p y : Nat) : wS v p y ≤ 100000000000000 := by
  unfold wS
  split
  · omega
  · have h1 := seenS_le hv p
    have h2 := wF_le hv p y (by omega) (cnt v 1) (Nat.le_refl _)
    have h3 := hv.2.2.2.2.2.1 p
    calc wF v p y (cnt v 1) ≤ 100 ^ (ofP v p (cnt v 1) + 1) := h2
      _ ≤ 100 ^ 7 := Nat.pow_le_pow_right (by omega) (by omega)
      _ = 100000000000000 := by decide
theorem sum_le {v : VB} (hv : IV v) (p : Nat) : ∀ y, sumS v p y ≤ 100000000000000 * y := by
  intro y
  induction y with
  | zero => exact Nat.le_refl _
  | succ y ih => have := w_le hv p y; rw [sumS]; omega
theorem sum_mono {v : VB} (p a : Nat) : ∀ d, sumS v p a ≤ sumS v p (a + d) := by
  intro d
  induction d with
  | zero => exact Nat.le_refl _
  | succ d ih => rw [← Nat.add_assoc, sumS]; omega
theorem top_le {v : VB} (hv : IV v) (p : Nat) : ∀ y, topS v p y ≤ 100000000000000 := by
  intro y
  induction y with
  | zero => exact Nat.zero_le _
  | succ y ih => have := w_le hv p y; rw [topS]; split <;> omega
theorem bes_le {v : VB} (p : Nat) : ∀ y, besS v p y ≤ y := by
  intro y
  induction y with
  | zero => exact Nat.le_refl _
  | succ y ih => rw [besS]; split <;> omega
theorem all_le {v : VB} (hv : IV v) (p : Nat) : allS v p ≤ 16100000000000000 := by
  have := sum_le hv p 161
  unfold allS
  omega
/-- no weights: all is 0, there is no best -/
theorem top_sum {v : VB} (p : Nat) : ∀ y, (topS v p y = 0 ↔ sumS v p y = 0) ∧ (besS v p y = 0 ↔ sumS v p y = 0) := by
  intro y
  induction y with
  | zero => exact ⟨Iff.rfl, Iff.rfl⟩
  | succ y ih =>
    rw [topS, sumS, besS]
    split <;> omega
/-- nothing is behind seen -/
theorem w_behind {v : VB} {p y : Nat} (h : seenS v p < y) : wS v p y = 0 := by
  unfold wS goneS
  rw [decide_eq_true h, Bool.true_or, if_pos rfl]
theorem iL0 : (0 : Int64) = lN 0 := rfl
theorem iL100 : (100 : Int64) = lN 100 := rfl
section LN
variable {α : Sort _} {X Y : α} {a b : Nat}
theorem lN_eq63 (ha : a < 2 ^ 63) (hb : b < 2 ^ 63) : lN a = lN b ↔ a = b := pk_lEQ ha hb
theorem ite_leL {d : Decidable (lN a ≤ lN b)} (ha : a < 2 ^ 63) (hb : b < 2 ^ 63) : (@ite _ (lN a ≤ lN b) d X Y) = if a ≤ b then X else Y := by
  by_cases h : a ≤ b
  · rw [if_pos ((pk_lLE ha hb).mpr h), if_pos h]
  · rw [if_neg (fun z => h ((pk_lLE ha hb).mp z)), if_neg h]
theorem ite_ltL {d : Decidable (lN a < lN b)} (ha : a < 2 ^ 63) (hb : b < 2 ^ 63) : (@ite _ (lN a < lN b) d X Y) = if a < b then X else Y := by
  by_cases h : a < b
  · rw [if_pos ((pk_lLT ha hb).mpr h), if_pos h]
  · rw [if_neg (fun z => h ((pk_lLT ha hb).mp z)), if_neg h]
theorem ite_eqL {d : Decidable (lN a = lN b)} (ha : a < 2 ^ 63) (hb : b < 2 ^ 63) : (@ite _ (lN a = lN b) d X Y) = if a = b then X else Y := by
  by_cases h : a = b
  · rw [if_pos ((pk_lEQ ha hb).mpr h), if_pos h]
  · rw [if_neg (fun z => h ((pk_lEQ ha hb).mp z)), if_neg h]
theorem eqL0 {d : Decidable (lN a = 0)} (ha : a < 2 ^ 63) : (@ite _ (lN a = 0) d X Y) = if a = 0 then X else Y := ite_eqL (b := 0) (d := d) ha (by decide)
theorem ltL0 {d : Decidable (0 < lN a)} (ha : a < 2 ^ 63) : (@ite _ (0 < lN a) d X Y) = if 0 < a then X else Y := ite_ltL (a := 0) (d := d) (by decide) ha
end LN
section WEI
variable {N : Nat} {c m : Mem} {v : VB}
theorem IV.nq (hv : IV v) : cnt v 4 ≤ 8 := hv.2.2.2.2.2.2.2.2.2.2.1
theorem e_outL (h : RCb c 1 v) (hv : IV v) {p y : Nat} (hp : p < 2 ^ 31) (hy : y ≤ 160) : ∀ d k n, k + d = cnt v 4 → d < n → outF v p y k = false → f_X0_isLeftOut_L2 N n (nI p) (nI y) (nI k) c = some (outS v p y, c) := by
  have b1 := hv.nq
  have b0 := hv.n0
  intro d
  induction d with
  | zero =>
    intro k n h1 h2 ho
    obtain ⟨n, rfl⟩ := suc_of h2
    have e : k = cnt v 4 := by omega
    unfold f_X0_isLeftOut_L2
    rw [ct4 h, le_t (by omega) (by omega), outS, ← e, ho]
  | succ d ih =>
    intro k n h1 h2 ho
    obtain ⟨n, rfl⟩ := suc_of h2
    have hk : k < cnt v 4 := by omega
    obtain ⟨q0, q1, -, q3⟩ := hv.2.2.2.2.1 k hk
    have stop : outF v p y (k + 1) = true → outS v p y = true := by
      intro z
      have := outF_mono z d
      rw [show k + 1 + d = cnt v 4 by omega] at this
      exact this
    have go : outF v p y (k + 1) = false → f_X0_isLeftOut_j84 N (f_X0_isLeftOut_L2 N n) (nI p) (nI y) (nI k) c = some (outS v p y, c) := by
      intro z
      unfold f_X0_isLeftOut_j84
      rw [nI_1]
      exact ih (k + 1) n (by omega) (by omega) z
    have e1 : outF v p y (k + 1) = (decide (tb v 4 k 0 = p) && (decide (tb v 4 k 3 = 1 ∧ tb v 4 k 1 < y) || decide (tb v 4 k 3 = 2 ∧ y ≤ tb v 4 k 1))) := by rw [outF, ho, Bool.false_or]
    unfold f_X0_isLeftOut_L2
    rw [ct4 h, le_f hk (by omega), g40 h hk, bnd_s, ite_eq (by omega) hp]
    by_cases z0 : tb v 4 k 0 = p
    · rw [decide_eq_true z0, Bool.true_and] at e1
      rw [if_pos z0, g43 h hk, bnd_s, g41 h hk, bnd_s, ite_le (by omega) (by omega)]
      unfold f_X0_isLeftOut_j58 f_X0_isLeftOut_j71
      by_cases z1 : y ≤ tb v 4 k 1
      · rw [decide_eq_false (fun w => by omega), Bool.false_or] at e1
        rw [if_pos z1, ek1 (by omega), ek2 (by omega), ite_F, ite_F]
        by_cases z2 : tb v 4 k 3 = 2
        · rw [decide_eq_true ⟨z2, z1⟩] at e1
          rw [if_neg (by omega), if_pos z2, stop e1]
        · rw [decide_eq_false (fun w => z2 w.1)] at e1
          rw [if_neg z2, ite_self]
          exact go e1
      · rw [decide_eq_false (p := tb v 4 k 3 = 2 ∧ y ≤ tb v 4 k 1) (fun w => z1 w.2), Bool.or_false] at e1
        rw [if_neg z1, ek1 (by omega), ek2 (by omega), ite_T, ite_T]
        by_cases z2 : tb v 4 k 3 = 1
        · rw [decide_eq_true ⟨z2, by omega⟩] at e1
          rw [if_pos z2, stop e1]
        · rw [decide_eq_false (fun w => z2 w.1)] at e1
          rw [if_neg z2, ite_self]
          exact go e1
    · rw [decide_eq_false z0, Bool.false_and] at e1
      rw [if_neg z0]
      exact go e1
theorem e_out (h : RCb c 1 v) (hv : IV v) {p y : Nat} (hp : p < 2 ^ 31) (hy : y ≤ 160) (hN : 1000 ≤ N) : f_X0_isLeftOut N (nI p) (nI y) c = some (outS v p y, c) := by
  have b1 := hv.nq
  exact e_outL h hv hp hy (cnt v 4) 0 N (by omega) (by omega) rfl
theorem m_outL (h : RMl m v) (hv : IV v) {p y : Nat} (hp : p < 2 ^ 31) (hy : y ≤ 160) : ∀ d k n, k + d = cnt v 4 → d < n → f_X9_isLeftOut_L5 N n (nI p) (nI y) (outF v p y k) (nI k) m = some (outS v p y, m) := by
  have b1 := hv.nq
  have b0 := hv.n0
  intro d
  induction d with
  | zero =>
    intro k n h1 h2
    obtain ⟨n, rfl⟩ := suc_of h2
    have e : k = cnt v 4 := by omega
    unfold f_X9_isLeftOut_L5
    rw [mct4 h, le_t (by omega) (by omega), outS, ← e]
  | succ d ih =>
    intro k n h1 h2
    obtain ⟨n, rfl⟩ := suc_of h2
    have hk : k < cnt v 4 := by omega
    have hk8 : k < 8 := by omega
    obtain ⟨q0, q1, -, q3⟩ := hv.2.2.2.2.1 k hk
    have go : ∀ b, outF v p y (k + 1) = b → f_X9_isLeftOut_j95 N (f_X9_isLeftOut_L5 N n) (nI p) (nI y) (nI k) b m = some (outS v p y, m) := by
      intro b z
      unfold f_X9_isLeftOut_j95
      rw [nI_1, ← z]
      exact ih (k + 1) n (by omega) (by omega)
    have key : ∀ a : Nat, (a = (if tb v 4 k 0 = p then tb v 4 k 3 else 0)) → f_X9_isLeftOut_j42 N (f_X9_isLeftOut_L5 N n) (nI p) (nI y) (outF v p y k) (nI k) (nI a) m = some (outS v p y, m) := by
      intro a ha
      have ha2 : a ≤ 2 := by rw [ha]; split <;> omega
      unfold f_X9_isLeftOut_j42 f_X9_isLeftOut_j69 f_X9_isLeftOut_j90 f_X9_isLeftOut_j94
      by_cases z : outF v p y k = true
      · rw [if_pos z]
        exact go true (by rw [outF, z, Bool.true_or])
      · rw [if_neg z, umg1 hk8, umn1 hk8, mu1 h hk, ite_lt (by omega) (by omega), ek1 (by omega), ek2 (by omega)]
        have hz : outF v p y k = false := by cases q : outF v p y k <;> simp_all
        have e1 : outF v p y (k + 1) = (decide (tb v 4 k 0 = p) && (decide (tb v 4 k 3 = 1 ∧ tb v 4 k 1 < y) || decide (tb v 4 k 3 = 2 ∧ y ≤ tb v 4 k 1))) := by rw [outF, hz, Bool.false_or]
        by_cases z0 : tb v 4 k 0 = p
        · rw [if_pos z0] at ha
          rw [decide_eq_true z0, Bool.true_and] at e1
          subst ha
          by_cases z1 : tb v 4 k 3 = 1
          · rw [if_pos z1]
            by_cases z2 : tb v 4 k 1 < y
            · rw [if_pos z2]
              exact go true (by rw [e1, decide_eq_true ⟨z1, z2⟩, Bool.true_or])
            · rw [if_neg z2, if_neg (by omega)]
              exact go false (by rw [e1, decide_eq_false (fun w => z2 w.2), decide_eq_false (fun w => by omega)]; rfl)
          · rw [if_neg z1]
            by_cases z3 : tb v 4 k 3 = 2
            · rw [if_pos z3, umg1 hk8, ite_lt (by omega) (by omega)]
              by_cases z2 : tb v 4 k 1 < y
              · rw [if_pos z2]
                exact go false (by rw [e1, decide_eq_false (fun w => z1 w.1), decide_eq_false (fun w => by omega)]; rfl)
              · rw [if_neg z2]
                exact go true (by rw [e1, decide_eq_true (p := tb v 4 k 3 = 2 ∧ y ≤ tb v 4 k 1) ⟨z3, by omega⟩, Bool.or_true])
            · rw [if_neg z3]
              exact go false (by rw [e1, decide_eq_false (fun w => z1 w.1), decide_eq_false (fun w => z3 w.1)]; rfl)
        · rw [if_neg z0] at ha
          rw [decide_eq_false z0, Bool.false_and] at e1
          subst ha
          rw [if_neg (by omega), if_neg (by omega)]
          exact go false e1
    unfold f_X9_isLeftOut_L5
    rw [mct4 h, le_f hk (by omega), umg0 hk8, umn0 hk8, mu0 h hk, ite_eq (by omega) hp, umg3 hk8, umn3 hk8, mu3 h hk]
    by_cases z0 : tb v 4 k 0 = p
    · rw [if_pos z0]
      exact key _ (by rw [if_pos z0])
    · rw [if_neg z0]
      exact key 0 (by rw [if_neg z0])
theorem m_out (h : RMl m v) (hv : IV v) {p y : Nat} (hp : p < 2 ^ 31) (hy : y ≤ 160) (hN : 1000 ≤ N) : f_X9_isLeftOut N (nI p) (nI y) m = some (outS v p y, m) := by
  have b1 := hv.nq
  exact m_outL h hv hp hy (cnt v 4) 0 N (by omega) (by omega)
theorem fac_n {x : Nat} (hx : x ≤ 99) : (100 - nI x).toInt64 = lN (100 - x) := by
  rw [show (100 : Int32) = nI 100 from rfl, pk_sub (by omega), nI_l (by omega)]
theorem m_wL (h : RMl m v) (hv : IV v) {p y : Nat} (hp : p < 2 ^ 31) (hy : y ≤ 160) : ∀ d k n, k + d = cnt v 1 → d < n → f_X9_weightOf_L39 N n (nI p) (nI y) (lN (wF v p y k)) (nI k) m = some (lN (wF v p y (cnt v 1)), m) := by
  have b1 := hv.np
  have b0 := hv.n0
  intro d
  induction d with
  | zero =>
    intro k n h1 h2
    obtain ⟨n, rfl⟩ := suc_of h2
    have e : k = cnt v 1 := by omega
    unfold f_X9_weightOf_L39
    rw [mct1 h, le_t (by omega) (by omega), e]
  | succ d ih =>
    intro k n h1 h2
    obtain ⟨n, rfl⟩ := suc_of h2
    have hk : k < cnt v 1 := by omega
    have hk3 : k < 30 := by omega
    obtain ⟨q0, -, -, -, q4, -⟩ := hv.2.1 k hk
    have hi := ih (k + 1) n (by omega) (by omega)
    rw [wF] at hi
    unfold f_X9_weightOf_L39
    rw [mct1 h, le_f hk (by omega), pmg0 hk3, pmn0 hk3, mp0 h hk, ite_eq (by omega) hp]
    by_cases z0 : tb v 1 k 0 = p
    · rw [if_pos z0] at hi
      rw [if_pos z0, m_span h hv hk hy, bnd_s, pmg4 hk3, pmn4 hk3, mp4 h hk, pmg4 hk3]
      unfold f_X9_weightOf_j106 f_X9_weightOf_j109
      rw [nI_1]
      by_cases z1 : spS v k y = true
      · rw [if_pos z1] at hi
        rw [if_pos z1, fac_n q4, lN_mul]
        exact hi
      · rw [if_neg z1] at hi
        rw [if_neg z1, nI_l (by omega), lN_mul]
        exact hi
    · rw [if_neg z0] at hi
      rw [if_neg z0]
      unfold f_X9_weightOf_j109
      rw [nI_1]
      exact hi
theorem m_weight (h : RMl m v) (hv : IV v) {p y : Nat} (hp : p < 2 ^ 31) (hy : y ≤ 160) (hN : 1000 ≤ N) : f_X9_weightOf N (nI p) (nI y) m = some (lN (wS v p y), m) := by
  have b1 := hv.np
  have b2 := seenS_le hv p
  unfold f_X9_weightOf wS goneS
  rw [m_seen h hv hp hN, bnd_s, ite_lt (by omega) (by omega)]
  by_cases z0 : seenS v p < y
  · rw [if_pos z0, decide_eq_true z0, Bool.true_or, if_pos rfl]
    rfl
  · rw [if_neg z0, m_out h hv hp hy hN, bnd_s, decide_eq_false z0, Bool.false_or]
    by_cases z1 : outS v p y = true
    · rw [if_pos z1, if_pos z1]; rfl
    · have b3 := hv.2.2.1.2 ((seenS v p - y) / 10) (by omega)
      rw [if_neg z1, if_neg z1, pk_sub (by omega), div10 (by omega), gin_n (by omega) (by omega), nI_clamp (by omega), ml0 h (by omega), nI_l (by omega)]
      exact m_wL h hv hp hy (cnt v 1) 0 N (by omega) (by omega)
theorem m_sumL (h : RMl m v) (hv : IV v) {p : Nat} (hp : p < 2 ^ 31) (hN : 1000 ≤ N) (a e : Nat) (he : e ≤ 161) : ∀ d k n, k + d = e → a ≤ k → d < n → ∀ z : Int32, z.toInt = (e : Int) - 1 → f_X9_sumOf_L6 N n (nI p) z (lN (sumS v p k - sumS v p a)) (nI k) m = some (lN (sumS v p e - sumS v p a), m) := by
  intro d
  induction d with
  | zero =>
    intro k n h1 h0 h2 z hz
    obtain ⟨n, rfl⟩ := suc_of h2
    have e1 : k = e := by omega
    unfold f_X9_sumOf_L6
    rw [if_pos (by rw [i32_lt, hz, tI (by omega)]; omega), e1]
  | succ d ih =>
    intro k n h1 h0 h2 z hz
    obtain ⟨n, rfl⟩ := suc_of h2
    have mo := sum_mono (v := v) p a (k - a)
    rw [show a + (k - a) = k by omega] at mo
    have hi := ih (k + 1) n (by omega) (by omega) (by omega) z hz
    unfold f_X9_sumOf_L6
    rw [if_neg (by rw [i32_lt, hz, tI (by omega)]; omega), m_weight h hv hp (by omega) hN, bnd_s, lN_add, nI_1]
    rw [sumS, show sumS v p k + wS v p k - sumS v p a = sumS v p k - sumS v p a + wS v p k by omega] at hi
    exact hi
/-- the sum of the weights of years from a on, ahead of e -/
theorem m_sum (h : RMl m v) (hv : IV v) {p : Nat} (hp : p < 2 ^ 31) (hN : 1000 ≤ N) {a e : Nat} (he : e ≤ 161) (hae : a ≤ e) {z : Int32} (hz : z.toInt = (e : Int) - 1) : f_X9_sumOf N (nI p) (nI a) z m = some (lN (sumS v p e - sumS v p a), m) := by
  have := m_sumL h hv hp hN a e he (e - a) a N (by omega) (Nat.le_refl _) (by omega) z hz
  rw [Nat.sub_self] at this
  exact this
theorem m_sumE (h : RMl m v) (hv : IV v) {p : Nat} (hN : 1000 ≤ N) {z : Int32} (hz : z.toInt < 0) : f_X9_sumOf N (nI p) 0 z m = some (lN 0, m) := by
  obtain ⟨n, rfl⟩ := suc_of (show 0 < N by omega)
  unfold f_X9_sumOf f_X9_sumOf_L6
  rw [if_pos (by rw [i32_lt]; exact hz)]
  rfl
theorem m_all (h : RMl m v) (hv : IV v) {p : Nat} (hp : p < 2 ^ 31) (hN : 1000 ≤ N) : f_X9_allOf N (nI p) m = some (lN (allS v p), m) := by
  unfold f_X9_allOf
  rw [show (0 : Int32) = nI 0 from rfl, m_sum h hv hp hN (e := 161) (Nat.le_refl _) (Nat.zero_le _) (by decide), bnd_s]
  rfl
/-- years that one of an age or more was born in: how many, 0 to 161 -/
def upS (v : VB) (p age : Nat) : Nat := seenS v p + 1 - age
theorem m_part (h : RMl m v) (hv : IV v) {p age : Nat} (hp : p < 2 ^ 31) (ha : age < 1000) (hN : 1000 ≤ N) : f_X9_partOf N (nI p) (nI age) m = some (lN (sumS v p (upS v p age)), m) := by
  have b2 := seenS_le hv p
  unfold f_X9_partOf upS
  rw [m_seen h hv hp hN, bnd_s]
  by_cases z : age ≤ seenS v p
  · rw [show (0 : Int32) = nI 0 from rfl, m_sum h hv hp hN (a := 0) (e := seenS v p + 1 - age) (by omega) (Nat.zero_le _) (by rw [tI_d (by omega) (by omega)]; omega), bnd_s]
    rfl
  · rw [m_sumE h hv hN (by rw [tI_d (by omega) (by omega)]; omega), bnd_s, show seenS v p + 1 - age = 0 by omega]
    rfl
theorem m_bestL (h : RMl m v) (hv : IV v) {p : Nat} (hp : p < 2 ^ 31) (hN : 1000 ≤ N) : ∀ d k n, k + d = 161 → d < n → f_X9_bestOf_L7 N n (nI p) (if besS v p k = 0 then -1 else nI (besS v p k - 1)) (lN (topS v p k)) (nI k) m = some (if bestS v p = 0 then -1 else nI (bestS v p - 1), m) := by
  intro d
  induction d with
  | zero =>
    intro k n h1 h2
    obtain ⟨n, rfl⟩ := suc_of h2
    have e1 : k = 161 := by omega
    unfold f_X9_bestOf_L7
    rw [kle161 (by omega), if_pos (by omega), e1]
    rfl
  | succ d ih =>
    intro k n h1 h2
    obtain ⟨n, rfl⟩ := suc_of h2
    have hi := ih (k + 1) n (by omega) (by omega)
    have t1 := top_le hv p k
    have t2 := w_le hv p k
    unfold f_X9_bestOf_L7
    rw [kle161 (by omega), if_neg (by omega), m_weight h hv hp (by omega) hN, bnd_s, ite_leL (by omega) (by omega)]
    rw [besS, topS] at hi
    unfold f_X9_bestOf_j37
    rw [nI_1]
    by_cases z : topS v p k < wS v p k
    · rw [if_pos z, if_pos z, if_neg (by omega)] at hi
      rw [if_neg (by omega)]
      exact hi
    · rw [if_neg z, if_neg z] at hi
      rw [if_pos (by omega)]
      exact hi
theorem m_best (h : RMl m v) (hv : IV v) {p : Nat} (hp : p < 2 ^ 31) (hN : 1000 ≤ N) : f_X9_bestOf N (nI p) m = some (if bestS v p = 0 then -1 else nI (bestS v p - 1), m) := by
  have := m_bestL h hv hp hN 161 0 N (by omega) (by omega)
  exact this
end WEI
