-- share, common, one
theorem gcd_stepN (a b : Nat) : Nat.gcd b (a % b) = Nat.gcd a b := by
  rw [Nat.gcd_comm a b, Nat.gcd_rec b a, Nat.gcd_comm]
theorem gcd_half {b r : Nat} (hr : r < b) (h0 : r ≠ 0) : 2 * (b % r) < b := by
  have h1 := Nat.mod_lt b (show 0 < r by omega)
  have h2 := Nat.div_add_mod b r
  have h3 : 1 ≤ b / r := (Nat.one_le_div_iff (by omega)).mpr (by omega)
  have h4 : r * 1 ≤ r * (b / r) := Nat.mul_le_mul_left r h3
  omega
theorem lN_ne0 {b : Nat} (h0 : b ≠ 0) (hb : b < 2 ^ 63) : ¬ lN b = 0 := fun z => h0 ((lN_eq63 hb (by decide)).mp z)
section GCD
variable {N : Nat} {c m : Mem}
theorem c_gcd : ∀ k a b i n, b < 2 ^ k → a < 2 ^ 63 → b < 2 ^ 63 → i + 2 * k + 1 ≤ 199 → 2 * k + 1 ≤ n → f_X8_greatestCommonDivisor_L9 N n (lN a) (lN b) (nI i) c = some (lN (Nat.gcd a b), c) := by
  intro k
  induction k with
  | zero =>
    intro a b i n hb ha hb2 hi hn
    have e : b = 0 := by have : (2 : Nat) ^ 0 = 1 := rfl; omega
    subst e
    obtain ⟨n, rfl⟩ := suc_of (show 0 < n by omega)
    unfold f_X8_greatestCommonDivisor_L9
    rw [kle200 (by omega), if_neg (by omega), eqL0 (by omega), if_pos rfl, Nat.gcd_zero_right]
  | succ k ih =>
    intro a b i n hb ha hb2 hi hn
    obtain ⟨n, rfl⟩ := suc_of (show 0 < n by omega)
    unfold f_X8_greatestCommonDivisor_L9
    rw [kle200 (by omega), if_neg (by omega), eqL0 hb2]
    by_cases z : b = 0
    · rw [if_pos z, z, Nat.gcd_zero_right]
    · have r1 := Nat.mod_lt a (show 0 < b by omega)
      rw [if_neg z, gnzL_t (lN_ne0 z hb2), pk_lRem ha (by omega) hb2, nI_1]
      obtain ⟨n, rfl⟩ := suc_of (show 0 < n by omega)
      unfold f_X8_greatestCommonDivisor_L9
      rw [kle200 (by omega), if_neg (by omega), eqL0 (by omega)]
      by_cases z2 : a % b = 0
      · rw [if_pos z2, ← gcd_stepN a b, z2, Nat.gcd_zero_right]
      · have r2 := gcd_half r1 z2
        have r3 := Nat.mod_lt b (show 0 < a % b by omega)
        rw [if_neg z2, gnzL_t (lN_ne0 z2 (by omega)), pk_lRem hb2 (by omega) (by omega), nI_1, ih (a % b) (b % (a % b)) (i + 1 + 1) n (by rw [Nat.pow_succ] at hb; omega) (by omega) (by omega) (by omega) (by omega), gcd_stepN b (a % b), gcd_stepN]
theorem m_gcd : ∀ k a b n, b < 2 ^ k → a < 2 ^ 63 → b < 2 ^ 63 → 2 * k + 1 ≤ n → f_X9_divisor_L6 N n (lN a) (lN b) c = some (lN (Nat.gcd a b), c) := by
  intro k
  induction k with
  | zero =>
    intro a b n hb ha hb2 hn
    have e : b = 0 := by have : (2 : Nat) ^ 0 = 1 := rfl; omega
    subst e
    obtain ⟨n, rfl⟩ := suc_of (show 0 < n by omega)
    unfold f_X9_divisor_L6
    rw [eqL0 (by omega), if_pos rfl, Nat.gcd_zero_right]
  | succ k ih =>
    intro a b n hb ha hb2 hn
    obtain ⟨n, rfl⟩ := suc_of (show 0 < n by omega)
    unfold f_X9_divisor_L6
    rw [eqL0 hb2]
    by_cases z : b = 0
    · rw [if_pos z, z, Nat.gcd_zero_right]
    · have r1 := Nat.mod_lt a (show 0 < b by omega)
      rw [if_neg z, gnzL_t (lN_ne0 z hb2), pk_lRem ha (by omega) hb2]
      obtain ⟨n, rfl⟩ := suc_of (show 0 < n by omega)
      unfold f_X9_divisor_L6
      rw [eqL0 (by omega)]
      by_cases z2 : a % b = 0
      · rw [if_pos z2, ← gcd_stepN a b, z2, Nat.gcd_zero_right]
      · have r2 := gcd_half r1 z2
        have r3 := Nat.mod_lt b (show 0 < a % b by omega)
        rw [if_neg z2, gnzL_t (lN_ne0 z2 (by omega)), pk_lRem hb2 (by omega) (by omega), ih (a % b) (b % (a % b)) n (by rw [Nat.pow_succ] at hb; omega) (by omega) (by omega) (by omega), gcd_stepN b (a % b), gcd_stepN]
theorem lmax1 {g : Nat} (h0 : g ≠ 0) (hg : g < 2 ^ 63) : lmax 1 (lN g) = lN g := by
  unfold lmax
  rw [show (1 : Int64) = lN 1 from rfl, ite_ltL hg (by decide), if_neg (by omega)]
end GCD
section OPS5
variable {N : Nat} {c m : Mem} {v vk : VB}
theorem up_le {v : VB} (hv : IV v) (p age : Nat) : sumS v p (upS v p age) ≤ allS v p := by
  have b := seenS_le hv p
  have e := sum_mono (v := v) p (upS v p age) (161 - upS v p age)
  rw [show upS v p age + (161 - upS v p age) = 161 by unfold upS; omega] at e
  exact e
theorem b_share (R : Rv c m v vk) (hN : 1000 ≤ N) (a1 a2 a3 : Int32) : Both (f_X8_share N a1 a2 a3 c) (f_X9_share N a1 a2 a3 m) := by
  obtain ⟨h, g, hv, -⟩ := id R
  have b0 := hv.n0
  unfold f_X8_share f_X9_share
  rw [th_has (T0 h), bnd_s, e_isPer g hv, bnd_s]
  by_cases h1 : isI a1 (cnt v 0) = true
  · obtain ⟨p, hp, rfl⟩ := isI_of (by omega) h1
    rw [if_pos h1, if_pos h1, e_isYear, bnd_s, e_isYearM, bnd_s, ite_d, ite_d]
    by_cases h2 : ¬ a2 < 0 ∧ ¬ (160 : Int32) < a2
    · obtain ⟨y, hy, rfl⟩ := yr h2
      rw [if_pos h2, if_pos h2, e_within, bnd_s, e_in, bnd_s, ite_d, ite_d]
      by_cases h3 : ¬ a3 < 0 ∧ ¬ (1 : Int32) < a3
      · obtain ⟨c2, e1, e2, e3⟩ := c_weigh h hv (show p < 2 ^ 31 by omega) hN
        have ba := all_le hv p
        have bu := up_le hv p y
        rw [if_pos h3, if_pos h3, e1, bnd_s, m_all g hv (by omega) hN, bnd_s, e3.2.2.1, ltL0 (by omega), eqL0 (by omega)]
        have K := R.keepC (e2.mono od_scr)
        by_cases z : allS v p = 0
        · rw [if_neg (by omega), if_pos z]
          exact Both.of rfl rfl K
        · have gp : Nat.gcd (sumS v p (upS v p y)) (allS v p) ≠ 0 := fun q => z (Nat.eq_zero_of_gcd_eq_zero_right q)
          have gl : Nat.gcd (sumS v p (upS v p y)) (allS v p) ≤ allS v p := Nat.le_of_dvd (by omega) (Nat.gcd_dvd_right _ _)
          have e5 : f_X9_divisor N (lN (sumS v p (upS v p y))) (lN (allS v p)) m = some (lN (Nat.gcd (sumS v p (upS v p y)) (allS v p)), m) := m_gcd 60 _ _ N (by omega) (by omega) (by omega) (by omega)
          have e6 : f_X8_greatestCommonDivisor N (lN (sumS v p (upS v p y))) (lN (allS v p)) c2 = some (lN (Nat.gcd (sumS v p (upS v p y)) (allS v p)), c2) := c_gcd 60 _ _ 0 N (by omega) (by omega) (by omega) (by omega) (by omega)
          rw [if_pos (by omega), if_neg z, o_ofAge e3 hv hN (by omega), bnd_s, m_part g hv (by omega) (by omega) hN, bnd_s, e3.2.2.1, e6, bnd_s, e5, bnd_s, lmax1 gp (by omega)]
          unfold f_X8_share_j106
          rw [gnzL_t (lN_ne0 gp (by omega)), gnzL_t (lN_ne0 gp (by omega)), gnzL_t (lN_ne0 gp (by omega)), gnzL_t (lN_ne0 gp (by omega)), e3.2.2.1]
          by_cases w : a3 = 0
          · rw [if_pos w, if_pos w]
            exact Both.of rfl rfl K
          · rw [if_neg w, if_neg w]
            exact Both.of rfl rfl K
      · rw [if_neg h3, if_neg h3]
        exact both_bad R _
    · rw [if_neg h2, if_neg h2]
      exact both_bad R _
  · rw [if_neg h1, if_neg h1]
    exact both_bad R _
/-- whether all the first k papers, as far as they are p's, have year y in their spans -/
def spnF (v : VB) (p y : Nat) : Nat → Bool
  | 0 => true
  | k + 1 => spnF v p y k && (if tb v 1 k 0 = p then spS v k y else true)
def spnS (v : VB) (p y : Nat) : Bool := spnF v p y (cnt v 1)
theorem spnF_f {v : VB} {p y k : Nat} (h : spnF v p y k = false) : ∀ d, spnF v p y (k + d) = false := by
  intro d
  induction d with
  | zero => exact h
  | succ d ih => rw [← Nat.add_assoc, spnF, ih, Bool.false_and]
theorem e_spnL (h : RCb c 1 v) (hv : IV v) {p y : Nat} (hp : p < 2 ^ 31) (hy : y ≤ 160) : ∀ d k n, k + d = cnt v 1 → d < n → spnF v p y k = true → f_X0_isInSpans_L2 N n (nI p) (nI y) (nI k) c = some (spnS v p y, c) := by
  have b1 := hv.np
  intro d
  induction d with
  | zero =>
    intro k n h1 h2 h3
    obtain ⟨n, rfl⟩ := suc_of h2
    have e : k = cnt v 1 := by omega
    unfold f_X0_isInSpans_L2
    rw [ct1 h, le_t (by omega) (by omega), ← h3, e]
    rfl
  | succ d ih =>
    intro k n h1 h2 h3
    obtain ⟨n, rfl⟩ := suc_of h2
    have hk : k < cnt v 1 := by omega
    have hi := ih (k + 1) n (by omega) (by omega)
    rw [spnF, h3, Bool.true_and] at hi
    unfold f_X0_isInSpans_L2
    rw [ct1 h, le_f hk (by omega), e_isOf h hv hk hp, bnd_s]
    unfold f_X0_isInSpans_j33
    rw [nI_1]
    by_cases z : tb v 1 k 0 = p
    · rw [if_pos z] at hi
      rw [decide_eq_true z, ite_T, e_span h hv hk hy, bnd_s]
      by_cases w : spS v k y = true
      · rw [if_pos w]
        exact hi w
      · have w2 := no_t w
        have f := spnF_f (v := v) (p := p) (y := y) (k := k + 1) (by rw [spnF, h3, if_pos z, w2]; rfl) d
        rw [show k + 1 + d = cnt v 1 by omega] at f
        rw [if_neg w]
        exact congrArg (fun q => some (q, c)) f.symm
    · rw [if_neg z] at hi
      rw [decide_eq_false z, ite_F]
      exact hi rfl
theorem e_spn (h : RCb c 1 v) (hv : IV v) {p y : Nat} (hp : p < 2 ^ 31) (hy : y ≤ 160) (hN : 1000 ≤ N) : f_X0_isInSpans N (nI p) (nI y) c = some (spnS v p y, c) := by
  have b1 := hv.np
  exact e_spnL h hv hp hy (cnt v 1) 0 N (by omega) (by omega) rfl
theorem m_spnL (h : RMl m v) (hv : IV v) {p y : Nat} (hp : p < 2 ^ 31) (hy : y ≤ 160) : ∀ d k n, k + d = cnt v 1 → d < n → f_X9_isCommon_L5 N n (nI p) (nI y) (spnF v p y k) (nI k) m = some (spnS v p y, m) := by
  have b1 := hv.np
  have b0 := hv.n0
  intro d
  induction d with
  | zero =>
    intro k n h1 h2
    obtain ⟨n, rfl⟩ := suc_of h2
    have e : k = cnt v 1 := by omega
    unfold f_X9_isCommon_L5
    rw [mct1 h, le_t (by omega) (by omega), e]
    rfl
  | succ d ih =>
    intro k n h1 h2
    obtain ⟨n, rfl⟩ := suc_of h2
    have hk : k < cnt v 1 := by omega
    have hk3 : k < 30 := by omega
    have q0 := (hv.2.1 k hk).1
    have hi := ih (k + 1) n (by omega) (by omega)
    rw [spnF] at hi
    unfold f_X9_isCommon_L5
    rw [mct1 h, le_f hk (by omega)]
    unfold f_X9_isCommon_j46 f_X9_isCommon_j42 f_X9_isCommon_j47
    rw [nI_1]
    by_cases z0 : spnF v p y k = true
    · rw [z0, Bool.true_and] at hi
      rw [if_pos z0, pmg0 hk3, pmn0 hk3, mp0 h hk, ite_eq (by omega) hp]
      by_cases z : tb v 1 k 0 = p
      · rw [if_pos z] at hi
        rw [if_pos z, m_span h hv hk hy, bnd_s]
        by_cases w : spS v k y = true
        · rw [w] at hi
          rw [if_pos w]
          exact hi
        · rw [no_t w] at hi
          rw [if_neg w]
          exact hi
      · rw [if_neg z] at hi
        rw [if_neg z]
        exact hi
    · rw [no_t z0, Bool.false_and] at hi
      rw [if_neg z0]
      exact hi
theorem m_spn (h : RMl m v) (hv : IV v) {p y : Nat} (hp : p < 2 ^ 31) (hy : y ≤ 160) (hN : 1000 ≤ N) : f_X9_isCommon N (nI p) (nI y) m = some (spnS v p y, m) := by
  have b1 := hv.np
  exact m_spnL h hv hp hy (cnt v 1) 0 N (by omega) (by omega)
def comF (v : VB) (p q : Nat) : Nat → Nat
  | 0 => 0
  | y + 1 => comF v p q y + (if spnS v p y = true then (if spnS v q y = true then 1 else 0) else 0)
theorem comF_le (v : VB) (p q : Nat) : ∀ y, comF v p q y ≤ y := by
  intro y
  induction y with
  | zero => exact Nat.le_refl _
  | succ y ih => rw [comF]; split <;> (try split) <;> omega
theorem c_comL (h : RCb c 1 v) (hv : IV v) {p q : Nat} (hp : p < 2 ^ 31) (hq : q < 2 ^ 31) (hN : 1000 ≤ N) : ∀ d y n, y + d = 161 → d < n → f_X8_common_L35 N n (nI p) (nI q) (nI (comF v p q y)) (nI y) c = some (nI (comF v p q 161), c) := by
  intro d
  induction d with
  | zero =>
    intro y n h1 h2
    obtain ⟨n, rfl⟩ := suc_of h2
    have e : y = 161 := by omega
    unfold f_X8_common_L35
    rw [klt160 (by omega), if_pos (by omega), e]
  | succ d ih =>
    intro y n h1 h2
    obtain ⟨n, rfl⟩ := suc_of h2
    have hi := ih (y + 1) n (by omega) (by omega)
    rw [comF] at hi
    unfold f_X8_common_L35
    rw [klt160 (by omega), if_neg (by omega), e_spn h hv hp (by omega) hN, bnd_s]
    unfold f_X8_common_j72
    rw [nI_1, nI_1]
    by_cases z : spnS v p y = true
    · rw [if_pos z] at hi
      rw [if_pos z, e_spn h hv hq (by omega) hN, bnd_s]
      by_cases w : spnS v q y = true
      · rw [if_pos w] at hi
        rw [if_pos w]
        exact hi
      · rw [if_neg w, Nat.add_zero] at hi
        rw [if_neg w]
        exact hi
    · rw [if_neg z, Nat.add_zero] at hi
      rw [if_neg z]
      exact hi
theorem m_comL (h : RMl m v) (hv : IV v) {p q : Nat} (hp : p < 2 ^ 31) (hq : q < 2 ^ 31) (hN : 1000 ≤ N) : ∀ d y n, y + d = 161 → d < n → f_X9_commonOf_L5 N n (nI p) (nI q) (nI (comF v p q y)) (nI y) m = some (nI (comF v p q 161), m) := by
  intro d
  induction d with
  | zero =>
    intro y n h1 h2
    obtain ⟨n, rfl⟩ := suc_of h2
    have e : y = 161 := by omega
    unfold f_X9_commonOf_L5
    rw [kle161 (by omega), if_pos (by omega), e]
  | succ d ih =>
    intro y n h1 h2
    obtain ⟨n, rfl⟩ := suc_of h2
    have hi := ih (y + 1) n (by omega) (by omega)
    rw [comF] at hi
    unfold f_X9_commonOf_L5
    rw [kle161 (by omega), if_neg (by omega), m_spn h hv hp (by omega) hN, bnd_s]
    unfold f_X9_commonOf_j38 f_X9_commonOf_j39
    rw [nI_1, bI_t, bI_f, nI_1, show (0 : Int32) = nI 0 from rfl, nI_add, Nat.add_zero]
    by_cases z : spnS v p y = true
    · rw [if_pos z] at hi
      rw [if_pos z, m_spn h hv hq (by omega) hN, bnd_s]
      by_cases w : spnS v q y = true
      · rw [if_pos w] at hi
        rw [if_pos w]
        exact hi
      · rw [if_neg w, Nat.add_zero] at hi
        rw [if_neg w]
        exact hi
    · rw [if_neg z, Nat.add_zero] at hi
      rw [if_neg z]
      exact hi
theorem b_common (R : Rv c m v vk) (hN : 1000 ≤ N) (a1 a2 : Int32) : Both (f_X8_common N a1 a2 c) (f_X9_common N a1 a2 m) := by
  obtain ⟨h, g, hv, -⟩ := id R
  have b0 := hv.n0
  unfold f_X8_common f_X9_common
  rw [th_has (T0 h), bnd_s, e_isPer g hv, bnd_s]
  by_cases h1 : isI a1 (cnt v 0) = true
  · obtain ⟨p, hp, rfl⟩ := isI_of (by omega) h1
    rw [if_pos h1, if_pos h1, th_has (T0 h), bnd_s, e_isPer g hv, bnd_s]
    by_cases h2 : isI a2 (cnt v 0) = true
    · obtain ⟨q, hq, rfl⟩ := isI_of (by omega) h2
      rw [if_pos h2, if_pos h2]
      unfold f_X9_commonOf
      have e1 := c_comL (N := N) h hv (show p < 2 ^ 31 by omega) (show q < 2 ^ 31 by omega) hN 161 0 N (by omega) (by omega)
      have e2 := m_comL (N := N) g hv (show p < 2 ^ 31 by omega) (show q < 2 ^ 31 by omega) hN 161 0 N (by omega) (by omega)
      exact Both.of e1 (by rw [show (0 : Int32) = nI (comF v p q 0) from rfl, show nI (comF v p q 0) = nI (comF v p q 0) from rfl]; exact (congrArg (fun z => bnd z fun r3 s3 => some (r3, s3)) e2)) R
    · rw [if_neg h2, if_neg h2]
      exact both_bad R _
  · rw [if_neg h1, if_neg h1]
    exact both_bad R _
theorem b_one (R : Rv c m v vk) (hN : 1000 ≤ N) (a1 a2 : Int32) : Both (f_X8_one N a1 a2 c) (f_X9_one N a1 a2 m) := by
  obtain ⟨h, g, hv, -⟩ := id R
  have b0 := hv.n0
  unfold f_X8_one f_X9_one
  rw [th_has (T0 h), bnd_s, e_isPer g hv, bnd_s, th_has (T0 h), bnd_s, e_isPer g hv, bnd_s]
  by_cases h1 : isI a1 (cnt v 0) = true
  · by_cases h2 : isI a2 (cnt v 0) = true
    · rw [if_pos h1, if_pos h2, if_pos h1, if_pos h2]
      by_cases h3 : a1 = a2
      · rw [if_pos h3, if_pos h3]
        exact both_bad R _
      · obtain ⟨p, hp, rfl⟩ := isI_of (by omega) h1
        obtain ⟨q, hq, rfl⟩ := isI_of (by omega) h2
        have hp10 : p < 10 := by omega
        have hq10 : q < 10 := by omega
        have bp := hv.1 p hp
        have bq := hv.1 q hq
        have e1 : f_X8_common N (nI p) (nI q) c = some (nI (comF v p q 161), c) := by
          unfold f_X8_common
          rw [th_has (T0 h), bnd_s, if_pos h1, th_has (T0 h), bnd_s, if_pos h2]
          exact c_comL (N := N) h hv (show p < 2 ^ 31 by omega) (show q < 2 ^ 31 by omega) hN 161 0 N (by omega) (by omega)
        have e2 : f_X9_commonOf N (nI p) (nI q) m = some (nI (comF v p q 161), m) := m_comL (N := N) g hv (show p < 2 ^ 31 by omega) (show q < 2 ^ 31 by omega) hN 161 0 N (by omega) (by omega)
        have bc := comF_le v p q 161
        rw [if_neg h3, if_neg h3]
        unfold f_X9_one_j88 f_X9_one_j92 f_X9_one_j93
        rw [g02 h hp, bnd_s, g02 h hq, bnd_s, qmg2 hp10, qmg2 hq10, qmn2 hp10, qmn2 hq10, mq2 g hp, mq2 g hq, ite_eq (by omega) (by omega), ite_eq (by omega) (by omega), qmg0 hp10, qmg0 hq10, qmn0 hp10, qmn0 hq10, mq0 g hp, mq0 g hq, ite_eq (by omega) (by omega), qmg1 hp10, qmg1 hq10, qmn1 hp10, qmn1 hq10, mq1 g hp, mq1 g hq, ite_eq (by omega) (by omega), ite_T, ite_F, e2, bnd_s, lek0 (by omega)]
        unfold f_X8_one_j67
        rw [g01 h hp, bnd_s, g01 h hq, bnd_s, ite_eq (by omega) (by omega)]
        unfold f_X8_one_j100
        rw [g00 h hp, bnd_s, g00 h hq, bnd_s, ite_eq (by omega) (by omega)]
        unfold f_X8_one_j134 f_X8_one_j150
        rw [e1, bnd_s, lek0 (by omega)]
        have E0 : (nI (tb v 0 p 0) = nI (tb v 0 q 0)) = (tb v 0 p 0 = tb v 0 q 0) := propext (nI_eq (by omega) (by omega))
        have E1 : (nI (tb v 0 p 1) = nI (tb v 0 q 1)) = (tb v 0 p 1 = tb v 0 q 1) := propext (nI_eq (by omega) (by omega))
        have L0 : (nI (comF v p q 161) ≤ 0) = (comF v p q 161 ≤ 0) := propext (nI_leI (a := comF v p q 161) (b := 0) (by omega) (by omega))
        by_cases w1 : tb v 0 p 2 = tb v 0 q 2 <;> by_cases w2 : tb v 0 p 1 = tb v 0 q 1 <;> by_cases w3 : tb v 0 p 0 = tb v 0 q 0 <;> by_cases w4 : comF v p q 161 ≤ 0 <;> simp only [g00 h hp, g00 h hq, g01 h hp, g01 h hq, bnd_s, e1, E0, E1, L0, w1, w2, w3, w4, if_true, if_false, Bool.false_eq_true] <;> exact both_bad R _
    · rw [if_neg h2, if_neg h2]
      by_cases h3 : a1 = a2
      · rw [if_pos h3, if_pos h1]
        exact both_bad R _
      · rw [if_neg h3, if_pos h1, if_pos h1]
        exact both_bad R _
  · rw [if_neg h1, if_neg h1]
    by_cases h3 : a1 = a2
    · rw [if_pos h3]
      exact both_bad R _
    · rw [if_neg h3]
      exact both_bad R _
end OPS5
