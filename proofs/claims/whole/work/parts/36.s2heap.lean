-- behind, suspect, heap
theorem imax_s {a b : Nat} (ha : a < 2 ^ 28) (hb : b < 2 ^ 28) : imax 0 (nI a - nI b + 1) = nI (a + 1 - b) := by
  unfold imax
  have e : (nI a - nI b + nI 1).toInt = (a : Int) - b + 1 := tI_da (by omega) (by omega) (by decide)
  by_cases z : b ≤ a
  · rw [pk_sub z, nI_1, if_pos (by rw [i0, nI_ltI (by omega) (by omega)]; omega), show a - b + 1 = a + 1 - b by omega]
  · rw [i1, if_neg (by rw [i32_lt, e, show (0 : Int32).toInt = 0 from rfl]; omega), show a + 1 - b = 0 by omega]; rfl
def paF (v : VB) (p : Nat) : Nat → Nat
  | 0 => 0
  | k + 1 => paF v p k + (if tb v 3 k 0 = p then (tb v 3 k 2 + 1 - max (tb v 3 k 1) (seenS v p + 1)) * tb v 3 k 3 else 0)
def paS (v : VB) (p : Nat) : Nat := paF v p (cnt v 3)
theorem pa_one {a b w : Nat} (ha : a ≤ 161) (hw : w ≤ 99) : (a - b) * w ≤ 15939 := by
  calc (a - b) * w ≤ 161 * 99 := Nat.mul_le_mul (by omega) hw
    _ = 15939 := rfl
theorem paF_le {v : VB} (hv : IV v) (p : Nat) : ∀ k, k ≤ cnt v 3 → paF v p k ≤ 15939 * k := by
  intro k
  induction k with
  | zero => intro _; exact Nat.le_refl _
  | succ k ih =>
    intro hk
    have h1 := ih (by omega)
    have h2 := hv.2.2.2.1 k (by omega)
    have h3 := pa_one (a := tb v 3 k 2 + 1) (b := max (tb v 3 k 1) (seenS v p + 1)) (w := tb v 3 k 3) (by omega) (by omega)
    rw [paF]
    split <;> omega
section BEH
variable {N : Nat} {c m : Mem} {v vk : VB}
theorem IV.n3 (hv : IV v) : cnt v 3 ≤ 20 := hv.2.2.2.2.2.2.2.2.2.1
theorem paS_le (hv : IV v) (p : Nat) : paS v p ≤ 318780 := by
  have := paF_le hv p (cnt v 3) (Nat.le_refl _)
  have := hv.n3
  unfold paS
  omega
theorem c_paL (h : RCb c 1 v) (hv : IV v) {p : Nat} (hp : p < 2 ^ 31) : ∀ d k n, k + d = cnt v 3 → d < n → f_X0_paidBehindSeen_L11 N n (nI p) (nI (seenS v p)) (nI (paF v p k)) (nI k) c = some (nI (paS v p), c) := by
  have b1 := hv.n3
  have b2 := seenS_le hv p
  have b0 := hv.n0
  intro d
  induction d with
  | zero =>
    intro k n h1 h2
    obtain ⟨n, rfl⟩ := suc_of h2
    have e : k = cnt v 3 := by omega
    unfold f_X0_paidBehindSeen_L11
    rw [ct3 h, le_t (by omega) (by omega), e]
    rfl
  | succ d ih =>
    intro k n h1 h2
    obtain ⟨n, rfl⟩ := suc_of h2
    have hk : k < cnt v 3 := by omega
    have b3 := hv.2.2.2.1 k hk
    have hi := ih (k + 1) n (by omega) (by omega)
    rw [paF] at hi
    unfold f_X0_paidBehindSeen_L11
    rw [ct3 h, le_f hk (by omega), g30 h hk, bnd_s, g31 h hk, bnd_s, g32 h hk, bnd_s, lt_e, g33 h hk, bnd_s, ite_eq (by omega) hp, nI_1, imax_n (by omega) (by omega), imax_s (by omega) (by omega), pk_mul, nI_add]
    unfold f_X0_paidBehindSeen_j95
    rw [nI_1]
    by_cases z : tb v 3 k 0 = p
    · rw [if_pos z] at hi
      rw [if_pos z]; exact hi
    · rw [if_neg z, Nat.add_zero] at hi
      rw [if_neg z]; exact hi
theorem c_pa (h : RCb c 1 v) (hv : IV v) {p : Nat} (hp : p < 2 ^ 31) (hN : 1000 ≤ N) : f_X0_paidBehindSeen N (nI p) c = some (nI (paS v p), c) := by
  have b1 := hv.n3
  unfold f_X0_paidBehindSeen
  rw [e_seen h hv hp hN, bnd_s]
  exact c_paL h hv hp (cnt v 3) 0 N (by omega) (by omega)
theorem m_paL (h : RMl m v) (hv : IV v) {p : Nat} (hp : p < 2 ^ 31) : ∀ d k n, k + d = cnt v 3 → d < n → f_X9_behindOf_L11 N n (nI p) (nI (seenS v p)) (nI (paF v p k)) (nI k) m = some (nI (paS v p), m) := by
  have b1 := hv.n3
  have b2 := seenS_le hv p
  have b0 := hv.n0
  intro d
  induction d with
  | zero =>
    intro k n h1 h2
    obtain ⟨n, rfl⟩ := suc_of h2
    have e : k = cnt v 3 := by omega
    unfold f_X9_behindOf_L11
    rw [mct3 h, le_t (by omega) (by omega), e]
    rfl
  | succ d ih =>
    intro k n h1 h2
    obtain ⟨n, rfl⟩ := suc_of h2
    have hk : k < cnt v 3 := by omega
    have hk2 : k < 20 := by omega
    have b3 := hv.2.2.2.1 k hk
    have hi := ih (k + 1) n (by omega) (by omega)
    rw [paF] at hi
    have main : ∀ M, M = max (tb v 3 k 1) (seenS v p + 1) → f_X9_behindOf_j52 N (f_X9_behindOf_L11 N n) (nI p) (nI (seenS v p)) (nI (paF v p k)) (nI k) (nI M) m = some (nI (paS v p), m) := by
      intro M hM
      have bM : M ≤ 161 := by omega
      unfold f_X9_behindOf_j52
      rw [dmg2 hk2, lt_e, dmg0 hk2, dmg3 hk2, dmn2 hk2, dmn0 hk2, dmn3 hk2, md2 h hk, md0 h hk, md3 h hk, ite_eq (by omega) hp]
      unfold f_X9_behindOf_j108 f_X9_behindOf_j109
      rw [nI_1]
      rw [← hM] at hi
      have e : (nI (tb v 3 k 2) - nI M + nI 1).toInt = (tb v 3 k 2 : Int) - M + 1 := tI_da (by omega) (by omega) (by decide)
      by_cases z : tb v 3 k 0 = p
      · rw [if_pos z] at hi
        rw [if_pos z]
        by_cases w : M ≤ tb v 3 k 2
        · rw [pk_sub w, nI_1, lek0 (by omega), if_neg (by omega), pk_mul, nI_add, show tb v 3 k 2 - M + 1 = tb v 3 k 2 + 1 - M by omega]
          exact hi
        · rw [show tb v 3 k 2 + 1 - M = 0 by omega, Nat.zero_mul, Nat.add_zero] at hi
          rw [i1, if_pos (by rw [i32_le, e, show (0 : Int32).toInt = 0 from rfl]; omega), show (0 : Int32) = nI 0 from rfl, nI_add, Nat.add_zero]
          exact hi
      · rw [if_neg z, Nat.add_zero] at hi
        rw [if_neg z, show (0 : Int32) = nI 0 from rfl, nI_add, Nat.add_zero]
        exact hi
    unfold f_X9_behindOf_L11
    rw [mct3 h, le_f hk (by omega), dmg1 hk2, dmg1 hk2, dmn1 hk2, md1 h hk, ite_le (by omega) (by omega), nI_1]
    by_cases z : tb v 3 k 1 ≤ seenS v p
    · rw [if_pos z]; exact main _ (by omega)
    · rw [if_neg z]; exact main _ (by omega)
theorem m_pa (h : RMl m v) (hv : IV v) {p : Nat} (hp : p < 2 ^ 31) (hN : 1000 ≤ N) : f_X9_behindOf N (nI p) m = some (nI (paS v p), m) := by
  have b1 := hv.n3
  unfold f_X9_behindOf
  rw [m_seen h hv hp hN, bnd_s]
  exact m_paL h hv hp (cnt v 3) 0 N (by omega) (by omega)
theorem b_behind (R : Rv c m v vk) (hN : 1000 ≤ N) (a1 : Int32) : Both (f_X8_behind N a1 c) (f_X9_behind N a1 m) := by
  obtain ⟨h, g, hv, -⟩ := id R
  have b0 := hv.n0
  unfold f_X8_behind f_X9_behind
  rw [th_has (T0 h), bnd_s, e_isPer g hv, bnd_s]
  by_cases h1 : isI a1 (cnt v 0) = true
  · obtain ⟨p, hp, rfl⟩ := isI_of (by omega) h1
    rw [if_pos h1, if_pos h1, c_pa h hv (by omega) hN, bnd_s, m_pa g hv (by omega) hN, bnd_s]
    exact both_bad R _
  · rw [if_neg h1, if_neg h1]
    exact both_bad R _
def ahS (v : VB) (p k : Nat) : Nat := cntP (fun o => decide (paS v p < paS v o ∨ paS v o = paS v p ∧ o < p)) k
theorem c_ahL (h : RCb c 1 v) (hv : IV v) (hN : 1000 ≤ N) {p : Nat} (hp : p < cnt v 0) : ∀ d k n, k + d = cnt v 0 → d < n → f_X8_suspectsAheadOf_L14 N n (nI p) (nI (paS v p)) (nI (ahS v p k)) (nI k) c = some (nI (ahS v p (cnt v 0)), c) := by
  have b0 := hv.n0
  have bp := paS_le hv p
  intro d
  induction d with
  | zero =>
    intro k n h1 h2
    obtain ⟨n, rfl⟩ := suc_of h2
    have e : k = cnt v 0 := by omega
    unfold f_X8_suspectsAheadOf_L14
    rw [ct0 h, le_t (by omega) (by omega), e]
  | succ d ih =>
    intro k n h1 h2
    obtain ⟨n, rfl⟩ := suc_of h2
    have hk : k < cnt v 0 := by omega
    have bk := paS_le hv k
    have hi := ih (k + 1) n (by omega) (by omega)
    unfold ahS at hi
    rw [cntP] at hi
    unfold f_X8_suspectsAheadOf_L14 ahS
    rw [ct0 h, le_f hk (by omega), c_pa h hv (by omega) hN, bnd_s, ite_lt (by omega) (by omega), ite_eq (by omega) (by omega), ite_le (by omega) (by omega)]
    unfold f_X8_suspectsAheadOf_j58 f_X8_suspectsAheadOf_j61
    rw [nI_1, nI_1]
    by_cases z : paS v p < paS v k ∨ paS v k = paS v p ∧ k < p
    · rw [if_pos (decide_eq_true z)] at hi
      by_cases w : paS v p < paS v k
      · rw [if_pos w]; exact hi
      · rw [if_neg w, if_pos (by omega), if_neg (by omega)]; exact hi
    · rw [if_neg (fun q => z (of_decide_eq_true q)), Nat.add_zero] at hi
      rw [if_neg (by omega)]
      by_cases w : paS v k = paS v p
      · rw [if_pos w, if_pos (by omega)]; exact hi
      · rw [if_neg w]; exact hi
theorem c_ah (h : RCb c 1 v) (hv : IV v) (hN : 1000 ≤ N) {p : Nat} (hp : p < cnt v 0) : f_X8_suspectsAheadOf N (nI p) c = some (nI (ahS v p (cnt v 0)), c) := by
  have b0 := hv.n0
  unfold f_X8_suspectsAheadOf
  rw [c_pa h hv (by omega) hN, bnd_s]
  exact c_ahL h hv hN hp (cnt v 0) 0 N (by omega) (by omega)
theorem m_ahL (h : RMl m v) (hv : IV v) (hN : 1000 ≤ N) (a1 : Int32) (K : Int32 → Int32 → Int32 → Int32 → Mem → Option (Int32 × Mem)) {p : Nat} (hp : p < cnt v 0) : ∀ d k n, k + d = cnt v 0 → d < n → f_X9_suspect_L22 N K n a1 (nI p) (nI (paS v p)) (nI (ahS v p k)) (nI k) m = K a1 (nI p) (nI (paS v p)) (nI (ahS v p (cnt v 0))) m := by
  have b0 := hv.n0
  have bp := paS_le hv p
  intro d
  induction d with
  | zero =>
    intro k n h1 h2
    obtain ⟨n, rfl⟩ := suc_of h2
    have e : k = cnt v 0 := by omega
    unfold f_X9_suspect_L22
    rw [mct0 h, le_t (by omega) (by omega), e]
  | succ d ih =>
    intro k n h1 h2
    obtain ⟨n, rfl⟩ := suc_of h2
    have hk : k < cnt v 0 := by omega
    have bk := paS_le hv k
    have hi := ih (k + 1) n (by omega) (by omega)
    unfold ahS at hi
    rw [cntP] at hi
    unfold f_X9_suspect_L22
    rw [mct0 h, le_f hk (by omega), m_pa h hv (by omega) hN, bnd_s, ite_lt (by omega) (by omega), ite_eq (by omega) (by omega), ite_le (by omega) (by omega)]
    unfold f_X9_suspect_j59 f_X9_suspect_j63 f_X9_suspect_j64 ahS
    rw [nI_1, bI_t, bI_f, nI_1, show (0 : Int32) = nI 0 from rfl, nI_add, Nat.add_zero]
    by_cases z : paS v p < paS v k ∨ paS v k = paS v p ∧ k < p
    · rw [if_pos (decide_eq_true z)] at hi
      by_cases w : paS v p < paS v k
      · rw [if_pos w]; exact hi
      · rw [if_neg w, if_pos (by omega), if_neg (by omega)]; exact hi
    · rw [if_neg (fun q => z (of_decide_eq_true q)), Nat.add_zero] at hi
      rw [if_neg (by omega)]
      by_cases w : paS v k = paS v p
      · rw [if_pos w, if_pos (by omega)]; exact hi
      · rw [if_neg w]; exact hi
theorem susL (h : RCb c 1 v) (g : RMl m v) (hv : IV v) (hN : 1000 ≤ N) (a1 : Int32) : ∀ d k n, k + d = cnt v 0 → d < n → ∃ r, f_X8_suspect_L15 N n a1 (nI k) c = some (r, c) ∧ f_X9_suspect_L2 N n a1 (nI k) m = some (r, m) := by
  have b0 := hv.n0
  intro d
  induction d with
  | zero =>
    intro k n h1 h2
    obtain ⟨n, rfl⟩ := suc_of h2
    refine ⟨-3, ?_, ?_⟩
    · unfold f_X8_suspect_L15
      rw [ct0 h, le_t (by omega) (by omega)]
    · unfold f_X9_suspect_L2
      rw [mct0 g, le_t (by omega) (by omega)]
  | succ d ih =>
    intro k n h1 h2
    obtain ⟨n, rfl⟩ := suc_of h2
    have hk : k < cnt v 0 := by omega
    have bk := paS_le hv k
    obtain ⟨r, i1, i2⟩ := ih (k + 1) n (by omega) (by omega)
    unfold f_X8_suspect_L15 f_X9_suspect_L2
    have e := m_ahL (N := N) g hv hN a1 (f_X9_suspect_j73 N (f_X9_suspect_L2 N n)) hk (cnt v 0) 0 N (by omega) (by omega)
    have e' : f_X9_suspect_L22 N (f_X9_suspect_j73 N (f_X9_suspect_L2 N n)) N a1 (nI k) (nI (paS v k)) 0 0 m = f_X9_suspect_j73 N (f_X9_suspect_L2 N n) a1 (nI k) (nI (paS v k)) (nI (ahS v k (cnt v 0))) m := e
    rw [ct0 h, le_f hk (by omega), mct0 g, le_f hk (by omega), c_pa h hv (by omega) hN, bnd_s, m_pa g hv (by omega) hN, bnd_s, e', c_ah h hv hN hk, bnd_s]
    unfold f_X8_suspect_j51 f_X9_suspect_j73 f_X9_suspect_j85
    rw [nI_1, lek0 (by omega), lek0 (by omega)]
    by_cases z : paS v k ≤ 0
    · rw [if_pos z, if_pos z]; exact ⟨r, i1, i2⟩
    · rw [if_neg z, if_neg z]
      by_cases w : nI (ahS v k (cnt v 0)) = a1
      · rw [if_pos w, if_pos w]; exact ⟨_, rfl, rfl⟩
      · rw [if_neg w, if_neg w]; exact ⟨r, i1, i2⟩
theorem susM (g : RMl m v) (hv : IV v) (hN : 1000 ≤ N) {a1 : Int32} (ha : ∀ j, j ≤ 10 → j < cnt v 0 → ¬ nI j = a1) : ∀ d k n, k + d = cnt v 0 → d < n → f_X9_suspect_L2 N n a1 (nI k) m = some (-3, m) := by
  have b0 := hv.n0
  intro d
  induction d with
  | zero =>
    intro k n h1 h2
    obtain ⟨n, rfl⟩ := suc_of h2
    unfold f_X9_suspect_L2
    rw [mct0 g, le_t (by omega) (by omega)]
  | succ d ih =>
    intro k n h1 h2
    obtain ⟨n, rfl⟩ := suc_of h2
    have hk : k < cnt v 0 := by omega
    have bk := paS_le hv k
    have hi := ih (k + 1) n (by omega) (by omega)
    unfold f_X9_suspect_L2
    have e := m_ahL (N := N) g hv hN a1 (f_X9_suspect_j73 N (f_X9_suspect_L2 N n)) hk (cnt v 0) 0 N (by omega) (by omega)
    have e' : f_X9_suspect_L22 N (f_X9_suspect_j73 N (f_X9_suspect_L2 N n)) N a1 (nI k) (nI (paS v k)) 0 0 m = f_X9_suspect_j73 N (f_X9_suspect_L2 N n) a1 (nI k) (nI (paS v k)) (nI (ahS v k (cnt v 0))) m := e
    have hl : ahS v k (cnt v 0) < cnt v 0 := by
      have : ahS v k (cnt v 0) + 1 ≤ cntP (fun _ => true) (cnt v 0) := cntP_lt (r := k) (decide_eq_false (by omega)) rfl (cnt v 0) hk (fun _ _ _ => rfl)
      have := cntP_max (fun _ => true) (cnt v 0)
      omega
    rw [mct0 g, le_f hk (by omega), m_pa g hv (by omega) hN, bnd_s, e']
    unfold f_X9_suspect_j73 f_X9_suspect_j85
    rw [nI_1, lek0 (by omega)]
    by_cases z : paS v k ≤ 0
    · rw [if_pos z]; exact hi
    · rw [if_neg z, if_neg (ha _ (by omega) hl)]; exact hi
theorem b_suspect (R : Rv c m v vk) (hN : 1000 ≤ N) (a1 : Int32) : Both (f_X8_suspect N a1 c) (f_X9_suspect N a1 m) := by
  obtain ⟨h, g, hv, -⟩ := id R
  have b0 := hv.n0
  have out : (∀ j, j ≤ 10 → j < cnt v 0 → ¬ nI j = a1) → f_X9_suspect N a1 m = some (-3, m) := fun z => susM g hv hN z (cnt v 0) 0 N (by omega) (by omega)
  unfold f_X8_suspect
  by_cases h1 : a1 < 0
  · rw [if_pos h1, out (fun j hj _ e => nI_pos (n := j) (by omega) (by rw [e]; exact h1))]
    exact both_bad R _
  · rw [if_neg h1]
    by_cases h2 : a1 < 10
    · rw [if_pos h2]
      obtain ⟨r, e1, e2⟩ := susL (N := N) h g hv hN a1 (cnt v 0) 0 N (by omega) (by omega)
      exact Both.of e1 e2 R
    · rw [if_neg h2, out (fun j hj hj2 e => h2 (by rw [← e]; exact nI_lt (b := 10) (by omega) (by decide)))]
      exact both_bad R _
-- heap
def kd3 (v : VB) (k : Nat) : Bool := decide (tb v 1 k 1 = 3)
def endS (v : VB) (e k : Nat) : Bool := decide (tb v 1 k 1 = 3 ∧ tb v 1 k 3 % 10 = e)
theorem c_couL (h : RCb c 1 v) (hv : IV v) : ∀ d k n, k + d = cnt v 1 → d < n → f_X0_counts_L4 N n (nI (cntP (kd3 v) k)) (nI k) c = some (nI (cntP (kd3 v) (cnt v 1)), c) := by
  have b1 := hv.np
  intro d
  induction d with
  | zero =>
    intro k n h1 h2
    obtain ⟨n, rfl⟩ := suc_of h2
    have e : k = cnt v 1 := by omega
    unfold f_X0_counts_L4
    rw [ct1 h, le_t (by omega) (by omega), e]
  | succ d ih =>
    intro k n h1 h2
    obtain ⟨n, rfl⟩ := suc_of h2
    have hk : k < cnt v 1 := by omega
    have b2 := hv.2.1 k hk
    have hi := ih (k + 1) n (by omega) (by omega)
    rw [cntP] at hi
    unfold f_X0_counts_L4
    rw [ct1 h, le_f hk (by omega), g11 h hk, bnd_s, ek3 (by omega)]
    unfold f_X0_counts_j31
    rw [nI_1, nI_1]
    by_cases z : tb v 1 k 1 = 3
    · rw [if_pos (show kd3 v k = true from decide_eq_true z)] at hi
      rw [if_pos z]; exact hi
    · rw [if_neg (show ¬ kd3 v k = true from fun q => z (of_decide_eq_true q)), Nat.add_zero] at hi
      rw [if_neg z]; exact hi
theorem c_endL (h : RCb c 1 v) (hv : IV v) {e : Nat} (he : e < 10) : ∀ d k n, k + d = cnt v 1 → d < n → f_X0_countsWithEnding_L4 N n (nI e) (nI (cntP (endS v e) k)) (nI k) c = some (nI (cntP (endS v e) (cnt v 1)), c) := by
  have b1 := hv.np
  intro d
  induction d with
  | zero =>
    intro k n h1 h2
    obtain ⟨n, rfl⟩ := suc_of h2
    have e : k = cnt v 1 := by omega
    unfold f_X0_countsWithEnding_L4
    rw [ct1 h, le_t (by omega) (by omega), e]
  | succ d ih =>
    intro k n h1 h2
    obtain ⟨n, rfl⟩ := suc_of h2
    have hk : k < cnt v 1 := by omega
    have b2 := hv.2.1 k hk
    have hi := ih (k + 1) n (by omega) (by omega)
    rw [cntP] at hi
    unfold f_X0_countsWithEnding_L4
    rw [ct1 h, le_f hk (by omega), g11 h hk, bnd_s, ek3 (by omega), g13 h hk, bnd_s, rem10 (by omega), ite_eq (by omega) (by omega)]
    unfold f_X0_countsWithEnding_j50
    rw [nI_1, nI_1]
    by_cases z : tb v 1 k 1 = 3
    · rw [if_pos z]
      by_cases w : tb v 1 k 3 % 10 = e
      · rw [if_pos (show endS v e k = true from decide_eq_true ⟨z, w⟩)] at hi
        rw [if_pos w]; exact hi
      · rw [if_neg (show ¬ endS v e k = true from fun q => w (of_decide_eq_true q).2), Nat.add_zero] at hi
        rw [if_neg w]; exact hi
    · rw [if_neg (show ¬ endS v e k = true from fun q => z (of_decide_eq_true q).1), Nat.add_zero] at hi
      rw [if_neg z]; exact hi
def othS (v : VB) (k : Nat) : Bool := decide (tb v 1 k 1 = 3 ∧ tb v 1 k 3 % 10 ≠ 0 ∧ tb v 1 k 3 % 10 ≠ 5)
theorem cou_sum (v : VB) : ∀ k, cntP (kd3 v) k = cntP (endS v 0) k + cntP (endS v 5) k + cntP (othS v) k := by
  intro k
  induction k with
  | zero => rfl
  | succ k ih =>
    rw [cntP, cntP, cntP, cntP, ih]
    unfold kd3 endS othS
    simp only [decide_eq_true_eq]
    by_cases z : tb v 1 k 1 = 3
    · by_cases w : tb v 1 k 3 % 10 = 0
      · rw [if_pos z, if_pos ⟨z, w⟩, if_neg (by omega), if_neg (by omega)]; omega
      · by_cases u : tb v 1 k 3 % 10 = 5
        · rw [if_pos z, if_neg (by omega), if_pos ⟨z, u⟩, if_neg (by omega)]; omega
        · rw [if_pos z, if_neg (by omega), if_neg (by omega), if_pos ⟨z, w, u⟩]; omega
    · rw [if_neg z, if_neg (by omega), if_neg (by omega), if_neg (by omega)]; omega
theorem m_heapL (h : RMl m v) (hv : IV v) (a1 : Int32) (K : Int32 → Int32 → Int32 → Int32 → Mem → Option (Int32 × Mem)) : ∀ d k n, k + d = cnt v 1 → d < n → f_X9_heap_L21 N K n a1 (nI (cntP (endS v 0) k)) (nI (cntP (endS v 5) k)) (nI (cntP (othS v) k)) (nI k) m = K a1 (nI (cntP (endS v 0) (cnt v 1))) (nI (cntP (endS v 5) (cnt v 1))) (nI (cntP (othS v) (cnt v 1))) m := by
  have b1 := hv.np
  intro d
  induction d with
  | zero =>
    intro k n h1 h2
    obtain ⟨n, rfl⟩ := suc_of h2
    have e : k = cnt v 1 := by omega
    unfold f_X9_heap_L21
    rw [mct1 h, le_t (by omega) (by omega), e]
  | succ d ih =>
    intro k n h1 h2
    obtain ⟨n, rfl⟩ := suc_of h2
    have hk : k < cnt v 1 := by omega
    have hk3 : k < 30 := by omega
    have b2 := hv.2.1 k hk
    have hi := ih (k + 1) n (by omega) (by omega)
    rw [cntP, cntP, cntP] at hi
    unfold f_X9_heap_L21
    rw [mct1 h, le_f hk (by omega), pmg1 hk3, pmg3 hk3, pmn1 hk3, pmn3 hk3, mp1 h hk, mp3 h hk, ek3 (by omega), rem10 (by omega)]
    unfold f_X9_heap_j65 f_X9_heap_j78 f_X9_heap_j92 f_X9_heap_j111 f_X9_heap_j112
    have hz : (0 : Int32) = nI 0 := rfl
    by_cases z : tb v 1 k 1 = 3
    · rw [if_pos z, ek0 (by omega), ek5 (by omega)]
      simp only [ek5 (show tb v 1 k 3 % 10 < 2 ^ 31 by omega), lek0 (show tb v 1 k 3 % 10 < 2 ^ 31 by omega), bI_t, bI_f, nI_1]
      by_cases w : tb v 1 k 3 % 10 = 0
      · rw [if_pos (show endS v 0 k = true from decide_eq_true ⟨z, w⟩), if_neg (show ¬ endS v 5 k = true from fun q => by have := (of_decide_eq_true q).2; omega), if_neg (show ¬ othS v k = true from fun q => (of_decide_eq_true q).2.1 w), Nat.add_zero, Nat.add_zero] at hi
        rw [if_pos w, if_neg (by omega), if_pos (by omega), hz, nI_add, nI_add, Nat.add_zero, Nat.add_zero]
        exact hi
      · rw [if_neg (show ¬ endS v 0 k = true from fun q => w (of_decide_eq_true q).2), Nat.add_zero] at hi
        by_cases u : tb v 1 k 3 % 10 = 5
        · rw [if_pos (show endS v 5 k = true from decide_eq_true ⟨z, u⟩), if_neg (show ¬ othS v k = true from fun q => (of_decide_eq_true q).2.2 u), Nat.add_zero] at hi
          rw [if_neg w, if_pos u, if_neg (by omega), if_pos u, hz, nI_add, nI_add, Nat.add_zero, Nat.add_zero]
          exact hi
        · rw [if_neg (show ¬ endS v 5 k = true from fun q => u (of_decide_eq_true q).2), if_pos (show othS v k = true from decide_eq_true ⟨z, w, u⟩), Nat.add_zero] at hi
          rw [if_neg w, if_neg u, if_neg (by omega), if_neg u, hz, nI_add, nI_add, Nat.add_zero, Nat.add_zero]
          exact hi
    · rw [if_neg (show ¬ endS v 0 k = true from fun q => z (of_decide_eq_true q).1), if_neg (show ¬ endS v 5 k = true from fun q => z (of_decide_eq_true q).1), if_neg (show ¬ othS v k = true from fun q => z (of_decide_eq_true q).1), Nat.add_zero, Nat.add_zero, Nat.add_zero] at hi
      rw [if_neg z, if_neg (by decide), if_neg (by decide), if_pos (by decide), bI_f, nI_1, hz, nI_add, nI_add, nI_add, Nat.add_zero, Nat.add_zero, Nat.add_zero]
      exact hi
theorem b_heap (R : Rv c m v vk) (hN : 1000 ≤ N) (a1 : Int32) : Both (f_X8_heap N a1 c) (f_X9_heap N a1 m) := by
  obtain ⟨h, g, hv, -⟩ := id R
  have b1 := hv.np
  have e1 : f_X0_countsWithEnding N 0 c = some (nI (cntP (endS v 0) (cnt v 1)), c) := c_endL (N := N) h hv (e := 0) (by decide) (cnt v 1) 0 N (by omega) (by omega)
  have e2 : f_X0_countsWithEnding N 5 c = some (nI (cntP (endS v 5) (cnt v 1)), c) := c_endL (N := N) h hv (e := 5) (by decide) (cnt v 1) 0 N (by omega) (by omega)
  have e3 : f_X0_counts N c = some (nI (cntP (kd3 v) (cnt v 1)), c) := c_couL (N := N) h hv (cnt v 1) 0 N (by omega) (by omega)
  have e4 : f_X9_heap_L21 N (f_X9_heap_j121 N) N a1 0 0 0 0 m = f_X9_heap_j121 N a1 (nI (cntP (endS v 0) (cnt v 1))) (nI (cntP (endS v 5) (cnt v 1))) (nI (cntP (othS v) (cnt v 1))) m := m_heapL (N := N) g hv a1 (f_X9_heap_j121 N) (cnt v 1) 0 N (by omega) (by omega)
  have s := cou_sum v (cnt v 1)
  have b2 := cntP_max (kd3 v) (cnt v 1)
  unfold f_X8_heap f_X9_heap
  rw [e1, bnd_s, e2, bnd_s, e3, bnd_s, e_in, bnd_s, ite_d, e4]
  generalize cntP (kd3 v) (cnt v 1) = C at *
  generalize cntP (endS v 0) (cnt v 1) = A at *
  generalize cntP (endS v 5) (cnt v 1) = B at *
  generalize cntP (othS v) (cnt v 1) = D at *
  by_cases h2 : ¬ a1 < 0 ∧ ¬ (3 : Int32) < a1
  · obtain ⟨w, hw, rfl⟩ := btw_of (n := 3) (by decide) h2.1 h2.2
    rw [if_pos h2]
    unfold f_X9_heap_j121
    rw [pk_sub (show A ≤ C by omega), pk_sub (show B ≤ C - A by omega), nI_add, nI_add, ek0 (by omega), ek1 (by omega), ek2 (by omega), ek3 (by omega), ek0 (by omega), ek1 (by omega), ek2 (by omega), klt0 (by omega), ek0 (by omega), show A + B + D = C by omega, show C - A - B = D by omega]
    have cs : w = 0 ∨ w = 1 ∨ w = 2 ∨ w = 3 := by omega
    rcases cs with rfl | rfl | rfl | rfl
    · exact both_bad R _
    · exact both_bad R _
    · exact both_bad R _
    · by_cases z : C = 0
      · rw [if_neg (by omega), if_neg (by omega), if_neg (by omega), if_pos rfl, if_neg (by omega), if_neg (by omega), if_neg (by omega), if_neg (by omega), if_pos z]
        exact both_bad R _
      · rw [if_neg (by omega), if_neg (by omega), if_neg (by omega), if_pos rfl, if_pos (by omega), if_neg (by omega), if_neg (by omega), if_neg (by omega), if_neg z, gnz_t (nI_ne0 (by omega) (by omega)), gnz_t (nI_ne0 (by omega) (by omega))]
        exact both_bad R _
  · have ne : ∀ k : Nat, k ≤ 3 → ¬ a1 = nI k := by
      intro k hk e
      exact h2 ⟨by rw [e]; exact nI_pos (by omega), by rw [e]; exact nI_nlt (b := k) (a := 3) hk (by decide)⟩
    rw [if_neg h2, if_neg (show ¬ a1 = 0 from ne 0 (by omega)), if_neg (show ¬ a1 = 1 from ne 1 (by omega)), if_neg (show ¬ a1 = 2 from ne 2 (by omega)), if_neg (show ¬ a1 = 3 from ne 3 (by omega))]
    exact both_bad R _
end BEH
