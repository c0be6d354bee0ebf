-- valley, next
section VAL
variable {N : Nat} {c m : Mem} {v vk : VB}
def oldS (v : VB) (p age what : Nat) : Bool := if allS v p = 0 then false else if what = 0 then decide (sumS v p (upS v p age) = allS v p) else if what = 1 then decide (age ≤ seenS v p - (bestS v p - 1)) else decide (sumS v p (upS v p age) ≠ 0)
theorem best_i (v : VB) (p : Nat) : bestS v p = 0 ↔ allS v p = 0 := (top_sum p 161).2
theorem best_seen (hv : IV v) (p : Nat) : bestS v p - 1 ≤ seenS v p := by
  have b2 := seenS_le hv p
  have : ∀ y, besS v p y ≤ seenS v p + 1 := by
    intro y
    induction y with
    | zero => exact Nat.zero_le _
    | succ y ih =>
      rw [besS]
      split
      · next z =>
        by_cases q : seenS v p < y
        · rw [w_behind q] at z; omega
        · omega
      · exact ih
  have := this 161
  unfold bestS
  omega
theorem c_bestAge {p : Nat} (h : WG c v p) (hv : IV v) : f_X2_bestAge N c = some (nI (if bestS v p = 0 then 0 else seenS v p - (bestS v p - 1)), c) := by
  have b2 := seenS_le hv p
  have b3 := bes_le (v := v) p 161
  have b4 := best_seen hv p
  unfold f_X2_bestAge
  rw [h.2.1, h.2.2.2]
  by_cases z : bestS v p = 0
  · rw [if_pos z, if_pos z, if_pos rfl]; rfl
  · rw [if_neg z, if_neg z, if_neg (fun e => by
      have := congrArg Int32.toInt e
      rw [tI (by unfold bestS; omega)] at this
      have e3 : (-3 : Int32).toInt = -3 := by decide
      rw [e3] at this
      omega), pk_sub b4]
theorem c_old (h : RCb c 1 v) (hv : IV v) {p age what : Nat} (hp : p < cnt v 0) (ha : age ≤ 160) (hw : what ≤ 2) (hN : 1000 ≤ N) : ∃ c2, f_X8_isOld N (nI p) (nI age) (nI what) c = some (oldS v p age what, c2) ∧ Sm1 od c c2 := by
  have b0 := hv.n0
  have ba := all_le hv p
  have bu := up_le hv p age
  have bs := seenS_le hv p
  obtain ⟨c2, e1, e2, e3⟩ := c_weigh h hv (show p < 2 ^ 31 by omega) hN
  refine ⟨c2, ?_, e2⟩
  unfold f_X8_isOld oldS
  rw [e1, bnd_s, e3.2.2.1, ltL0 (by omega), ek0 (by omega), ek1 (by omega), o_ofAge e3 hv hN (by omega), bnd_s, e3.2.2.1, ite_eqL (by omega) (by omega), c_bestAge e3 hv, bnd_s, bnd_s]
  have bi := best_i v p
  by_cases z : allS v p = 0
  · rw [if_neg (by omega), if_pos z]
  · rw [if_pos (by omega), if_neg z]
    by_cases w0 : what = 0
    · rw [if_pos w0, if_pos w0]
      by_cases q : sumS v p (upS v p age) = allS v p
      · rw [if_pos q, decide_eq_true q]
      · rw [if_neg q, decide_eq_false q]
    · rw [if_neg w0, if_neg w0]
      by_cases w1 : what = 1
      · rw [if_pos w1, if_pos w1, if_neg (fun y => z (bi.mp y)), ite_lt (by omega) (by omega)]
        by_cases q : age ≤ seenS v p - (bestS v p - 1)
        · rw [if_neg (by omega), decide_eq_true q]
        · rw [if_pos (by omega), decide_eq_false q]
      · rw [if_neg w1, if_neg w1, show (0 : Int64) = lN 0 from rfl, ite_leL (by omega) (by decide)]
        by_cases q : sumS v p (upS v p age) = 0
        · rw [if_pos (by omega), decide_eq_false (fun y => y q)]
        · rw [if_neg (by omega), decide_eq_true q]
def valF (v : VB) (ho age what : Nat) (k : Nat) : Nat := cntP (fun p => decide (tb v 0 p 0 = ho) && oldS v p age what) k
theorem c_valL (hv : IV v) {ho age what : Nat} (hh : ho ≤ 5) (ha : age ≤ 160) (hw : what ≤ 2) (hN : 1000 ≤ N) : ∀ d k n c, RCb c 1 v → k + d = cnt v 0 → d < n → ∃ c2, f_X8_valley_L31 N n (nI ho) (nI age) (nI what) (nI (valF v ho age what k)) (nI k) c = some (nI (valF v ho age what (cnt v 0)), c2) ∧ Sm1 od c c2 := by
  have b0 := hv.n0
  intro d
  induction d with
  | zero =>
    intro k n c h h1 h2
    obtain ⟨n, rfl⟩ := suc_of h2
    have e : k = cnt v 0 := by omega
    refine ⟨c, ?_, Sm1.rf⟩
    unfold f_X8_valley_L31
    rw [ct0 h, le_t (by omega) (by omega), e]
  | succ d ih =>
    intro k n c h h1 h2
    obtain ⟨n, rfl⟩ := suc_of h2
    have hk : k < cnt v 0 := by omega
    have b2 := hv.1 k hk
    have hi := fun c h => ih (k + 1) n c h (by omega) (by omega)
    unfold valF at hi
    rw [cntP] at hi
    unfold f_X8_valley_L31 valF
    rw [ct0 h, le_f hk (by omega), g00 h hk, bnd_s, ite_eq (by omega) (by omega)]
    unfold f_X8_valley_j77
    rw [nI_1]
    by_cases z : tb v 0 k 0 = ho
    · obtain ⟨c2, e1, e2⟩ := c_old h hv hk ha hw hN
      obtain ⟨c3, g1, g2⟩ := hi c2 (e2.RCb (fun o _ _ => by unfold od; omega) h)
      refine ⟨c3, ?_, e2.tr g2⟩
      rw [if_pos z, e1, bnd_s, nI_1]
      rw [decide_eq_true z, Bool.true_and] at g1
      by_cases w : oldS v k age what = true
      · rw [if_pos w] at g1
        rw [if_pos w]; exact g1
      · rw [if_neg w, Nat.add_zero] at g1
        rw [if_neg w]; exact g1
    · obtain ⟨c3, g1, g2⟩ := hi c h
      refine ⟨c3, ?_, g2⟩
      rw [decide_eq_false z, Bool.false_and, if_neg (by decide), Nat.add_zero] at g1
      rw [if_neg z, nI_1]; exact g1
theorem m_valL (h : RMl m v) (hv : IV v) {ho age what : Nat} (hh : ho ≤ 5) (ha : age ≤ 160) (hw : what ≤ 2) (hN : 1000 ≤ N) : ∀ d k n, k + d = cnt v 0 → d < n → f_X9_valley_L33 N n (nI ho) (nI age) (nI what) (nI (valF v ho age what k)) (nI k) m = some (nI (valF v ho age what (cnt v 0)), m) := by
  have b0 := hv.n0
  intro d
  induction d with
  | zero =>
    intro k n h1 h2
    obtain ⟨n, rfl⟩ := suc_of h2
    have e : k = cnt v 0 := by omega
    unfold f_X9_valley_L33
    rw [mct0 h, le_t (by omega) (by omega), e]
  | succ d ih =>
    intro k n h1 h2
    obtain ⟨n, rfl⟩ := suc_of h2
    have hk : k < cnt v 0 := by omega
    have hk10 : k < 10 := by omega
    have b2 := hv.1 k hk
    have ba := all_le hv k
    have bu := up_le hv k age
    have bs := seenS_le hv k
    have bb := bes_le (v := v) k 161
    have bq := best_seen hv k
    have bi := best_i v k
    have hi := ih (k + 1) n (by omega) (by omega)
    unfold valF at hi
    rw [cntP] at hi
    unfold f_X9_valley_L33 valF
    rw [mct0 h, le_f hk (by omega), qmg0 hk10, qmn0 hk10, mq0 h hk, ite_eq (by omega) (by omega), m_all h hv (by omega) hN, bnd_s, m_part h hv (by omega) (by omega) hN, bnd_s, m_best h hv (by omega) hN, bnd_s, ek0 (by omega), ek1 (by omega), m_seen h hv (by omega) hN, bnd_s, show (0 : Int64) = lN 0 from rfl, ite_leL (by omega) (by decide), ite_eqL (by omega) (by omega), ite_leL (by omega) (by decide)]
    unfold f_X9_valley_j103 f_X9_valley_j134 f_X9_valley_j150 f_X9_valley_j164 f_X9_valley_j167
    rw [nI_1, ite_T, ite_F, bI_t, bI_f, nI_1, show (0 : Int32) = nI 0 from rfl, nI_add, Nat.add_zero]
    by_cases z : tb v 0 k 0 = ho
    · rw [decide_eq_true z, Bool.true_and] at hi
      rw [if_pos z]
      unfold oldS at hi
      by_cases y : allS v k = 0
      · rw [if_pos y, if_neg (by decide), Nat.add_zero] at hi
        by_cases w0 : what = 0
        · rw [if_pos w0, if_pos (by omega)]; exact hi
        · rw [if_neg w0]
          by_cases w1 : what = 1
          · rw [if_pos w1, if_pos (bi.mpr y), if_pos (by decide)]; exact hi
          · rw [if_neg w1, if_pos (by omega)]; exact hi
      · rw [if_neg y] at hi
        by_cases w0 : what = 0
        · rw [if_pos w0] at hi
          rw [if_pos w0, if_neg (by omega)]
          by_cases q : sumS v k (upS v k age) = allS v k
          · rw [decide_eq_true q, ite_T] at hi
            rw [if_pos q]; exact hi
          · rw [decide_eq_false q, ite_F, Nat.add_zero] at hi
            rw [if_neg q]; exact hi
        · rw [if_neg w0] at hi
          rw [if_neg w0]
          by_cases w1 : what = 1
          · have nb : ¬ bestS v k = 0 := fun e => y (bi.mp e)
            rw [if_pos w1] at hi
            rw [if_pos w1, if_neg nb, show nI 0 = (0 : Int32) from rfl, lt0_f (by unfold bestS; omega), pk_sub bq, ite_lt (by omega) (by omega)]
            by_cases q : age ≤ seenS v k - (bestS v k - 1)
            · rw [decide_eq_true q, ite_T] at hi
              rw [if_neg (by omega)]; exact hi
            · rw [decide_eq_false q, ite_F, Nat.add_zero] at hi
              rw [if_pos (by omega)]; exact hi
          · rw [if_neg w1] at hi
            rw [if_neg w1]
            by_cases q : sumS v k (upS v k age) = 0
            · rw [decide_eq_false (fun e => e q), ite_F, Nat.add_zero] at hi
              rw [if_pos (by omega)]; exact hi
            · rw [decide_eq_true q, ite_T] at hi
              rw [if_neg (by omega)]; exact hi
    · rw [decide_eq_false z, Bool.false_and, if_neg (by decide), Nat.add_zero] at hi
      rw [if_neg z]; exact hi
theorem b_valley (R : Rv c m v vk) (hN : 1000 ≤ N) (a1 a2 a3 : Int32) : Both (f_X8_valley N a1 a2 a3 c) (f_X9_valley N a1 a2 a3 m) := by
  obtain ⟨h, g, hv, -⟩ := id R
  have b0 := hv.n0
  unfold f_X8_valley f_X9_valley
  rw [e_isHouse, bnd_s, e_in, bnd_s, ite_d, ite_d]
  by_cases h1 : ¬ a1 < 0 ∧ ¬ (5 : Int32) < a1
  · obtain ⟨p, hp, rfl⟩ := btw_of (n := 5) (by decide) h1.1 h1.2
    rw [if_pos h1, if_pos h1, e_isYear, bnd_s, e_isYearM, bnd_s, ite_d, ite_d]
    by_cases h2 : ¬ a2 < 0 ∧ ¬ (160 : Int32) < a2
    · obtain ⟨y, hy, rfl⟩ := yr h2
      rw [if_pos h2, if_pos h2, e_within, bnd_s, e_in, bnd_s, ite_d, ite_d]
      by_cases h3 : ¬ a3 < 0 ∧ ¬ (2 : Int32) < a3
      · obtain ⟨w, hw, rfl⟩ := btw_of (n := 2) (by decide) h3.1 h3.2
        obtain ⟨c2, e1, e2⟩ := c_valL (N := N) hv hp hy hw hN (cnt v 0) 0 N c h (by omega) (by omega)
        have e3 := m_valL (N := N) g hv hp hy hw hN (cnt v 0) 0 N (by omega) (by omega)
        rw [if_pos h3, if_pos h3]
        exact Both.of e1 e3 (R.keepC (e2.mono od_scr))
      · rw [if_neg h3, if_neg h3]
        exact both_bad R _
    · rw [if_neg h2, if_neg h2]
      exact both_bad R _
  · rw [if_neg h1, if_neg h1]
    exact both_bad R _
-- next
theorem lmax_n {a b : Nat} (ha : a < 2 ^ 63) (hb : b < 2 ^ 63) : lmax (lN a) (lN b) = lN (max a b) := by
  unfold lmax
  rw [ite_ltL hb ha]
  by_cases z : b < a
  · rw [if_pos z, Nat.max_eq_left (by omega)]
  · rw [if_neg z, Nat.max_eq_right (by omega)]
theorem lN_subN {a b : Nat} (h : b ≤ a) : lN a - lN b = lN (a - b) := by
  have : lN a = lN (a - b) + lN b := by rw [lN_add, Nat.sub_add_cancel h]
  rw [this, Int64.add_sub_cancel]
theorem b_nextL (hv : IV v) {p : Nat} (hp : p < cnt v 0) (hN : 1000 ≤ N) (h : RCb c 1 v) (g : RMl m v) (w : WG c v p) : ∀ d k n (f t : Nat), k + d = cnt v 4 → d < n → f ≤ cnt v 4 → t < 2 ^ 62 → ∃ r, f_X8_next_L36 N n (nI p) (if f = 0 then -3 else nI (f - 1)) (lN t) (nI k) c = some (r, c) ∧ f_X9_next_L18 N n (nI p) (if f = 0 then -3 else nI (f - 1)) (lN t) (nI k) m = some (r, m) := by
  have b0 := hv.n0
  have b4 : cnt v 4 ≤ 8 := hv.2.2.2.2.2.2.2.2.2.2.1
  have ba := all_le hv p
  intro d
  induction d with
  | zero =>
    intro k n f t h1 h2 h3 h4
    obtain ⟨n, rfl⟩ := suc_of h2
    refine ⟨if f = 0 then -3 else nI (f - 1), ?_, ?_⟩
    · unfold f_X8_next_L36
      rw [ct4 h, le_t (by omega) (by omega)]
    · unfold f_X9_next_L18
      rw [mct4 g, le_t (by omega) (by omega)]
  | succ d ih =>
    intro k n f t h1 h2 h3 h4
    obtain ⟨n, rfl⟩ := suc_of h2
    have hk : k < cnt v 4 := by omega
    have hk8 : k < 8 := by omega
    have b2 := hv.2.2.2.2.1 k hk
    have hi := fun f t q1 q2 => ih (k + 1) n f t (by omega) (by omega) q1 q2
    unfold f_X8_next_L36 f_X9_next_L18
    have su := sum_mono (v := v) p (tb v 4 k 1 + 1) (161 - (tb v 4 k 1 + 1))
    rw [show tb v 4 k 1 + 1 + (161 - (tb v 4 k 1 + 1)) = 161 by omega] at su
    have su2 : sumS v p (tb v 4 k 1 + 1) ≤ allS v p := su
    have s0 := m_sum (N := N) g hv (show p < 2 ^ 31 by omega) hN (a := 0) (e := tb v 4 k 1 + 1) (z := nI (tb v 4 k 1)) (by omega) (by omega) (by rw [tI (by omega)]; omega)
    have s0' : f_X9_sumOf N (nI p) 0 (nI (tb v 4 k 1)) m = some (lN (sumS v p (tb v 4 k 1 + 1)), m) := s0
    have s1 := m_sum (N := N) g hv (show p < 2 ^ 31 by omega) hN (a := tb v 4 k 1 + 1) (e := 161) (z := 160) (by omega) (by omega) (by decide)
    have s1' : f_X9_sumOf N (nI p) (nI (tb v 4 k 1 + 1)) 160 m = some (lN (allS v p - sumS v p (tb v 4 k 1 + 1)), m) := s1
    have u0 := o_upTo (N := N) w.1 hN (e := tb v 4 k 1 + 1) (z := nI (tb v 4 k 1)) (by omega) (by rw [tI (by omega)]; omega)
    rw [ct4 h, le_f hk (by omega), mct4 g, le_f hk (by omega), g40 h hk, bnd_s, g43 h hk, bnd_s, g41 h hk, bnd_s, u0, bnd_s, g42 h hk, bnd_s, w.2.2.1, umg0 hk8, umg3 hk8, umg1 hk8, umn0 hk8, umn3 hk8, umn1 hk8, mu0 g hk, mu3 g hk, mu1 g hk, s0', bnd_s]
    rw [umg1 hk8, mu1 g hk, nI_1, s1', bnd_s, umg2 hk8, umn2 hk8, mu2 g hk, nI_l (by omega), lN_subN su2, lmax_n (by omega) (by omega), lN_mul]
    generalize hS : sumS v p (tb v 4 k 1 + 1) = S at *
    have hM : max S (allS v p - S) ≤ allS v p := by omega
    have hP : tb v 4 k 2 * max S (allS v p - S) < 2 ^ 62 := by
      calc tb v 4 k 2 * max S (allS v p - S) ≤ 99 * 16100000000000000 := Nat.mul_le_mul (by omega) (by omega)
        _ < 2 ^ 62 := by decide
    have e9 : ∀ K : Int64 → Option (Int32 × Mem), (if lN S ≤ lN (allS v p - S) then K (lN (allS v p - S)) else K (lN S)) = K (lN (max S (allS v p - S))) := by
      intro K
      rw [ite_leL (by omega) (by omega)]
      by_cases z : S ≤ allS v p - S
      · rw [if_pos z, Nat.max_eq_right z]
      · rw [if_neg z, Nat.max_eq_left (by omega)]
    rw [e9 (fun z => f_X9_next_j123 N (f_X9_next_L18 N n) (nI p) (if f = 0 then -3 else nI (f - 1)) (lN t) (nI k) z (lN (tb v 4 k 2)) m)]
    generalize max S (allS v p - S) = Q at *
    show ∃ r, _ ∧ (if nI (tb v 4 k 0) = nI p then (if nI (tb v 4 k 3) = 0 then f_X9_next_j123 N (f_X9_next_L18 N n) (nI p) (if f = 0 then -3 else nI (f - 1)) (lN t) (nI k) (lN Q) (lN (tb v 4 k 2)) m else _) else _) = _
    unfold f_X8_next_j157 f_X8_next_j163 f_X9_next_j123 f_X9_next_j137 f_X9_next_j143
    rw [lN_mul, nI_1, ite_eq (by omega) (by omega), ite_eq (by omega) (by omega), ek0 (by omega), ek0 (by omega), ite_leL (by omega) (by omega), ite_leL (by omega) (by omega)]
    have same : ∃ r, f_X8_next_L36 N n (nI p) (if f = 0 then -3 else nI (f - 1)) (lN t) (nI (k + 1)) c = some (r, c) ∧ f_X9_next_L18 N n (nI p) (if f = 0 then -3 else nI (f - 1)) (lN t) (nI (k + 1)) m = some (r, m) := hi f t h3 h4
    have newr : ∃ r, f_X8_next_L36 N n (nI p) (nI k) (lN (tb v 4 k 2 * Q)) (nI (k + 1)) c = some (r, c) ∧ f_X9_next_L18 N n (nI p) (nI k) (lN (tb v 4 k 2 * Q)) (nI (k + 1)) m = some (r, m) := hi (k + 1) (tb v 4 k 2 * Q) (by omega) hP
    by_cases z1 : tb v 4 k 0 = p
    · simp only [if_pos z1]
      by_cases z2 : tb v 4 k 3 = 0
      · simp only [if_pos z2]
        by_cases z3 : f = 0
        · simp only [if_pos z3]
          rw [if_pos trivial, if_pos (by decide)]
          exact newr
        · simp only [if_neg z3]
          rw [if_neg (fun e => by
            have := congrArg Int32.toInt e
            rw [tI (by omega)] at this
            have e3 : (-3 : Int32).toInt = -3 := by decide
            rw [e3] at this
            omega), lt0_f (by omega)]
          by_cases z4 : t ≤ tb v 4 k 2 * Q
          · simp only [if_pos z4]
            simp only [if_neg z3] at same
            exact same
          · simp only [if_neg z4]
            exact newr
      · simp only [if_neg z2]
        exact same
    · simp only [if_neg z1]
      exact same
theorem b_next (R : Rv c m v vk) (hN : 1000 ≤ N) (a1 : Int32) : Both (f_X8_next N a1 c) (f_X9_next N a1 m) := by
  obtain ⟨h, g, hv, -⟩ := id R
  have b0 := hv.n0
  have b4 : cnt v 4 ≤ 8 := hv.2.2.2.2.2.2.2.2.2.2.1
  unfold f_X8_next f_X9_next
  rw [th_has (T0 h), bnd_s, e_isPer g hv, bnd_s]
  by_cases h1 : isI a1 (cnt v 0) = true
  · obtain ⟨p, hp, rfl⟩ := isI_of (by omega) h1
    obtain ⟨c2, e1, e2, e3⟩ := c_weigh h hv (show p < 2 ^ 31 by omega) hN
    obtain ⟨r, f1, f2⟩ := b_nextL (N := N) hv hp hN (e2.RCb (fun o _ _ => by unfold od; omega) h) g e3 (cnt v 4) 0 N 0 0 (by omega) (by omega) (by omega) (by decide)
    rw [if_pos h1, if_pos h1, e1, bnd_s]
    exact Both.of f1 f2 (R.keepC (e2.mono od_scr))
  · rw [if_neg h1, if_neg h1]
    exact both_bad R _
end VAL
