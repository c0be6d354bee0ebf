-- question, answer, person, paper
/-- the model's paper row at the end, then the count -/
def addP (m : Mem) (n : Nat) (e : Nat → Int32) : Mem := wI (wI (wI (wI (wI (wI (wI m 63 (6 * n + 0) (e 0)) 63 (6 * n + 1) (e 1)) 63 (6 * n + 2) (e 2)) 63 (6 * n + 3) (e 3)) 63 (6 * n + 4) (e 4)) 63 (6 * n + 5) (e 5)) 61 2 (nI (n + 1))
theorem rI_addP {m : Mem} {n : Nat} {e : Nat → Int32} (o2 k : Nat) : rI (addP m n e) o2 k = if o2 = 63 ∧ 6 * n ≤ k ∧ k < 6 * n + 6 then e (k - 6 * n) else if o2 = 61 ∧ k = 2 then nI (n + 1) else rI m o2 k := by
  unfold addP
  rw [rI_w, rI_w, rI_w, rI_w, rI_w, rI_w, rI_w]
  by_cases z : o2 = 63 ∧ 6 * n ≤ k ∧ k < 6 * n + 6
  · obtain ⟨z1, z2, z3⟩ := z
    obtain ⟨i, rfl⟩ : ∃ i, k = 6 * n + i := ⟨k - 6 * n, by omega⟩
    refine Eq.trans ?_ (if_pos ⟨z1, z2, z3⟩).symm
    rw [if_neg (by omega), Nat.add_sub_cancel_left]
    by_cases q5 : i = 5
    · rw [if_pos (by omega), q5]
    · rw [if_neg (by omega)]
      by_cases q4 : i = 4
      · rw [if_pos (by omega), q4]
      · rw [if_neg (by omega)]
        by_cases q3 : i = 3
        · rw [if_pos (by omega), q3]
        · rw [if_neg (by omega)]
          by_cases q2 : i = 2
          · rw [if_pos (by omega), q2]
          · rw [if_neg (by omega)]
            by_cases q1 : i = 1
            · rw [if_pos (by omega), q1]
            · rw [if_neg (by omega), if_pos (by omega), show i = 0 by omega]
  · by_cases y : o2 = 61 ∧ k = 2
    · rw [if_pos y, if_neg z, if_pos y]
    · rw [if_neg y, if_neg z, if_neg y, if_neg (by omega), if_neg (by omega), if_neg (by omega), if_neg (by omega), if_neg (by omega), if_neg (by omega)]
section OPS4
variable {N : Nat} {c m : Mem} {v vk : VB}
theorem cvP {m : Mem} {n : Nat} {e : Nat → Int32} {j : Nat} : cvL (addP m n e) j = if ([0, 2, 5, 7, 9, 11] : List Nat).getD j 0 = 2 then nI (n + 1) else cvL m j := by
  show rI _ _ _ = _
  rw [rI_addP, if_neg (by omega)]
  by_cases z : ([0, 2, 5, 7, 9, 11] : List Nat).getD j 0 = 2
  · rw [if_pos ⟨rfl, z⟩, if_pos z]
  · rw [if_neg (fun q => z q.2), if_neg z]; rfl
theorem avP {m : Mem} {n : Nat} {e : Nat → Int32} {j : Nat} (h : 62 + j ≠ 63) : avL (addP m n e) j = avL m j := by
  funext i
  show rI _ _ _ = _
  rw [rI_addP, if_neg (by omega), if_neg (by omega)]; rfl
theorem avP1 {m : Mem} {n : Nat} {e : Nat → Int32} (i : Nat) : avL (addP m n e) 1 i = if 6 * n ≤ i ∧ i < 6 * n + 6 then e (i - 6 * n) else avL m 1 i := by
  show rI _ _ _ = _
  rw [rI_addP]
  by_cases z : 6 * n ≤ i ∧ i < 6 * n + 6
  · rw [if_pos ⟨rfl, z⟩, if_pos z]
  · rw [if_neg (fun q => z q.2), if_neg (by omega), if_neg z]; rfl
theorem RMl_addP (h : RMl m v) {row : Nat → Nat} {e : Nat → Int32} (he : ∀ k, k < 5 → e k = nI (row k)) (he5 : e 5 = trM (row 5)) (h6 : row 6 = 0) : RMl (addP m (cnt v 1) e) (addR v 1 row) := by
  obtain ⟨h0, h1, h2, h3, h4, h5, h7⟩ := RMl_i.mp h
  refine RMl_i.mpr ?_
  rw [cvP (j := 0), cvP (j := 1), cvP (j := 2), cvP (j := 3), cvP (j := 4), cvP (j := 5), avP (j := 0) (by decide), avP (j := 2) (by decide), avP (j := 3) (by decide), avP (j := 4) (by decide), avP (j := 5) (by decide), avP (j := 6) (by decide), avP (j := 7) (by decide), avP (j := 8) (by decide)]
  refine ⟨h0, h1.add (row := row) (fun i hi => ?_) (fun k hk => ?_) ?_ (fun r k hr => ?_) (fun k => ?_), h2, h3.add (fun r hr => ?_) ?_, h4, h5, h7⟩
  · rw [avP1, if_neg (by omega)]
  · rw [avP1, if_pos (by omega), Nat.add_sub_cancel_left, he k hk]
  · rw [avP1, if_pos (by omega), Nat.add_sub_cancel_left, he5]
  · rw [tb_addR, if_neg (by omega)]
  · rw [tb_addR, if_pos ⟨rfl, rfl⟩]
  · rw [tb_addR, if_neg (by omega)]
  · rw [tb_addR, if_pos ⟨rfl, rfl⟩, h6]
theorem b_question (R : Rv c m v vk) (hN : 1000 ≤ N) (a1 a2 a3 : Int32) : Both (f_X8_question N a1 a2 a3 c) (f_X9_question N a1 a2 a3 m) := by
  obtain ⟨h, g, hv, -⟩ := id R
  have b0 := hv.n0
  have b3 : cnt v 4 ≤ 8 := hv.2.2.2.2.2.2.2.2.2.2.1
  unfold f_X8_question f_X9_question
  rw [th_has (T0 h), bnd_s, e_isPer g hv, bnd_s]
  by_cases h1 : isI a1 (cnt v 0) = true
  · obtain ⟨p, hp, rfl⟩ := isI_of (by omega) h1
    rw [if_pos h1, if_pos h1, e_isYear, bnd_s, e_isYearM, bnd_s, ite_d, ite_d]
    by_cases h2 : ¬ a2 < 0 ∧ ¬ (160 : Int32) < a2
    · obtain ⟨x, hx, rfl⟩ := yr h2
      rw [if_pos h2, if_pos h2, e_within, bnd_s, e_in, bnd_s, ite_d, ite_d]
      by_cases h5 : ¬ a3 < 1 ∧ ¬ (99 : Int32) < a3
      · have h5' : ¬ a3 < 0 := fun z => h5.1 (by rw [i32_lt] at z ⊢; exact Int.lt_trans z (by decide))
        obtain ⟨w, hw, rfl⟩ := btw_of (n := 99) (by decide) h5' h5.2
        have hw1 : 1 ≤ w := by
          have := h5.1
          rw [i1, nI_ltI (by omega) (by omega)] at this
          omega
        rw [if_pos h5, if_pos h5, th_full (T4 h), bnd_s, ite_d, mct4 g, ek8 (by omega)]
        by_cases h6 : cnt v 4 = 8
        · rw [if_pos (by omega), if_pos h6]
          exact both_bad R _
        · have h7 : cnt v 4 < 8 := by omega
          rw [if_neg (by omega), if_neg h6, th_add (T4 h) h7 (by omega), bnd_s]
          have t1 := (T4 h).addT h7
          rw [th_s0 t1 (r := cnt v 4) (by omega) (by decide), bnd_s,
            th_s1 (t1.setC _ _) (r := cnt v 4) (by omega) (by decide), bnd_s,
            th_s2 ((t1.setC _ _).setC _ _) (r := cnt v 4) (by omega) (by decide), bnd_s,
            th_s3 (((t1.setC _ _).setC _ _).setC _ _) (r := cnt v 4) (by omega) (by decide), bnd_s]
          simp only [lt_e, r61 (show 61 ≠ 67 by decide), mct4 g, umg0 h7, umg1 h7, umg2 h7, umg3 h7, umn0 h7, umn1 h7, umn2 h7, umn3 h7, rI_w, and_self, if_true, nI_1, nI_pred]
          exact Both.of rfl rfl (R.keepB (RCb_add (j := 4) (row := fun k => if k = 0 then p else if k = 1 then x else if k = 2 then w else 0) h (by decide) h7 (hp4 10 (cnt v 4) (fun k => nI (if k = 0 then p else if k = 1 then x else if k = 2 then w else 0)))) (RMl_add4 g (e := fun k => nI (if k = 0 then p else if k = 1 then x else if k = 2 then w else 0)) (fun k _ => rfl)) (hv.addQ h7 ⟨hp, hx, ⟨hw1, hw⟩, Nat.zero_le 2⟩) (fun o k ho _ => (hp4 10 (cnt v 4) (fun k => nI (if k = 0 then p else if k = 1 then x else if k = 2 then w else 0)) o k).trans (by rw [if_neg (by omega), if_neg (by omega)])) (fun o k ho => (rI_addA (e := fun k => nI (if k = 0 then p else if k = 1 then x else if k = 2 then w else 0)) (by decide) o k).trans (by rw [if_neg (by omega), if_neg (by omega)])) (fun k => rfl))
      · rw [if_neg h5, if_neg h5]
        exact both_bad R _
    · rw [if_neg h2, if_neg h2]
      exact both_bad R _
  · rw [if_neg h1, if_neg h1]
    exact both_bad R _
theorem b_person (R : Rv c m v vk) (hN : 1000 ≤ N) (a1 a2 a3 : Int32) : Both (f_X8_person N a1 a2 a3 c) (f_X9_person N a1 a2 a3 m) := by
  obtain ⟨h, g, hv, -⟩ := id R
  have b0 := hv.n0
  unfold f_X8_person f_X9_person
  rw [e_isHouse, bnd_s, e_in, bnd_s, ite_d, ite_d]
  by_cases h1 : ¬ a1 < 0 ∧ ¬ (5 : Int32) < a1
  · obtain ⟨p, hp, rfl⟩ := btw_of (n := 5) (by decide) h1.1 h1.2
    rw [if_pos h1, if_pos h1, e_within, bnd_s, e_in, bnd_s, ite_d, ite_d]
    by_cases h2 : ¬ a2 < 0 ∧ ¬ (9 : Int32) < a2
    · obtain ⟨x, hx, rfl⟩ := btw_of (n := 9) (by decide) h2.1 h2.2
      rw [if_pos h2, if_pos h2, e_within, bnd_s, e_in, bnd_s, ite_d, ite_d]
      by_cases h5 : ¬ a3 < 0 ∧ ¬ (1 : Int32) < a3
      · obtain ⟨w, hw, rfl⟩ := btw_of (n := 1) (by decide) h5.1 h5.2
        rw [if_pos h5, if_pos h5, th_full (T0 h), bnd_s, ite_d, mct0 g, ek10 (by omega)]
        by_cases h6 : cnt v 0 = 10
        · rw [if_pos (by omega), if_pos h6]
          exact both_bad R _
        · have h7 : cnt v 0 < 10 := by omega
          rw [if_neg (by omega), if_neg h6, th_add (T0 h) h7 (by omega), bnd_s]
          have t1 := (T0 h).addT h7
          rw [th_s0 t1 (r := cnt v 0) (by omega) (by decide), bnd_s,
            th_s1 (t1.setC _ _) (r := cnt v 0) (by omega) (by decide), bnd_s,
            th_s2 ((t1.setC _ _).setC _ _) (r := cnt v 0) (by omega) (by decide), bnd_s,
            th_s3 (((t1.setC _ _).setC _ _).setC _ _) (r := cnt v 0) (by omega) (by decide), bnd_s]
          simp only [lt_e, r61 (show 61 ≠ 62 by decide), mct0 g, qmg0 h7, qmg1 h7, qmg2 h7, qmg3 h7, qmn0 h7, qmn1 h7, qmn2 h7, qmn3 h7, rI_w, and_self, if_true, nI_1, nI_pred]
          exact Both.of rfl rfl (R.keepB (RCb_add (j := 0) (row := fun k => if k = 0 then p else if k = 1 then x else if k = 2 then w else 0) h (by decide) h7 (hp4 2 (cnt v 0) (fun k => enc 0 k (if k = 0 then p else if k = 1 then x else if k = 2 then w else 0)))) (RMl_add0 g (row := fun k => if k = 0 then p else if k = 1 then x else if k = 2 then w else 0) (e := fun k => if k = 0 then nI p else if k = 1 then nI x else if k = 2 then nI w else -9) (fun k hk => by
              have cs : k = 0 ∨ k = 1 ∨ k = 2 := by omega
              rcases cs with rfl | rfl | rfl <;> rfl) rfl) (hv.addN h7 ⟨hp, hx, hw, Nat.zero_le 161⟩) (fun o k ho _ => (hp4 2 (cnt v 0) (fun k => enc 0 k (if k = 0 then p else if k = 1 then x else if k = 2 then w else 0)) o k).trans (by rw [if_neg (by omega), if_neg (by omega)])) (fun o k ho => (rI_addA (e := fun k => if k = 0 then nI p else if k = 1 then nI x else if k = 2 then nI w else -9) (by decide) o k).trans (by rw [if_neg (by omega), if_neg (by omega)])) (fun k => rfl))
      · rw [if_neg h5, if_neg h5]
        exact both_bad R _
    · rw [if_neg h2, if_neg h2]
      exact both_bad R _
  · rw [if_neg h1, if_neg h1]
    exact both_bad R _
/-- how many questions are answered -/
def ansF (v : VB) : Nat → Nat
  | 0 => 0
  | k + 1 => ansF v k + (if tb v 4 k 3 = 0 then 0 else 1)
theorem ansF_le (v : VB) : ∀ k, ansF v k ≤ k := by
  intro k
  induction k with
  | zero => exact Nat.le_refl _
  | succ k ih => rw [ansF]; split <;> omega
theorem e_ansL (h : RCb c 1 v) (hv : IV v) : ∀ d k n, k + d = cnt v 4 → d < n → f_X0_answered_L4 N n (nI (ansF v k)) (nI k) c = some (nI (ansF v (cnt v 4)), c) := by
  have b1 : cnt v 4 ≤ 8 := hv.2.2.2.2.2.2.2.2.2.2.1
  intro d
  induction d with
  | zero =>
    intro k n h1 h2
    obtain ⟨n, rfl⟩ := suc_of h2
    have e : k = cnt v 4 := by omega
    unfold f_X0_answered_L4
    rw [ct4 h, le_t (by omega) (by omega), e]
  | succ d ih =>
    intro k n h1 h2
    obtain ⟨n, rfl⟩ := suc_of h2
    have hk : k < cnt v 4 := by omega
    have b2 := (hv.2.2.2.2.1 k hk).2.2.2
    have hi := ih (k + 1) n (by omega) (by omega)
    rw [ansF] at hi
    unfold f_X0_answered_L4
    rw [ct4 h, le_f hk (by omega), g43 h hk, bnd_s, ek0 (by omega)]
    unfold f_X0_answered_j30
    rw [nI_1]
    by_cases z : tb v 4 k 3 = 0
    · rw [if_pos z, Nat.add_zero] at hi
      rw [if_pos z]
      exact hi
    · rw [if_neg z] at hi
      rw [if_neg z, nI_1]
      exact hi
theorem e_answered (h : RCb c 1 v) (hv : IV v) (hN : 1000 ≤ N) : f_X0_answered N c = some (nI (ansF v (cnt v 4)), c) := by
  have b1 : cnt v 4 ≤ 8 := hv.2.2.2.2.2.2.2.2.2.2.1
  exact e_ansL h hv (cnt v 4) 0 N (by omega) (by omega)
theorem m_ansL (h : RMl m v) (hv : IV v) : ∀ d k n, k + d = cnt v 4 → d < n → f_X9_answered_L4 N n (nI (ansF v k)) (nI k) m = some (nI (ansF v (cnt v 4)), m) := by
  have b1 : cnt v 4 ≤ 8 := hv.2.2.2.2.2.2.2.2.2.2.1
  intro d
  induction d with
  | zero =>
    intro k n h1 h2
    obtain ⟨n, rfl⟩ := suc_of h2
    have e : k = cnt v 4 := by omega
    unfold f_X9_answered_L4
    rw [mct4 h, le_t (by omega) (by omega), e]
  | succ d ih =>
    intro k n h1 h2
    obtain ⟨n, rfl⟩ := suc_of h2
    have hk : k < cnt v 4 := by omega
    have hk8 : k < 8 := by omega
    have b2 := (hv.2.2.2.2.1 k hk).2.2.2
    have hi := ih (k + 1) n (by omega) (by omega)
    rw [ansF] at hi
    unfold f_X9_answered_L4
    rw [mct4 h, le_f hk (by omega), umg3 hk8, umn3 hk8, mu3 h hk, lek0 (by omega)]
    unfold f_X9_answered_j31
    rw [nI_1]
    by_cases z : tb v 4 k 3 = 0
    · rw [if_pos z] at hi
      rw [if_pos (by omega), bI_f, show (0 : Int32) = nI 0 from rfl, nI_add]
      exact hi
    · rw [if_neg z] at hi
      rw [if_neg (by omega), bI_t, nI_1]
      exact hi
theorem m_answered (h : RMl m v) (hv : IV v) (hN : 1000 ≤ N) : f_X9_answered N m = some (nI (ansF v (cnt v 4)), m) := by
  have b1 : cnt v 4 ≤ 8 := hv.2.2.2.2.2.2.2.2.2.2.1
  exact m_ansL h hv (cnt v 4) 0 N (by omega) (by omega)
theorem b_answer (R : Rv c m v vk) (hN : 1000 ≤ N) (a1 : Int32) (a2 : Bool) : Both (f_X8_answer N a1 a2 c) (f_X9_answer N a1 a2 m) := by
  obtain ⟨h, g, hv, -⟩ := id R
  have b1 : cnt v 4 ≤ 8 := hv.2.2.2.2.2.2.2.2.2.2.1
  unfold f_X8_answer f_X9_answer
  rw [th_has (T4 h), bnd_s, e_in, bnd_s, mct4 g, isP_eq (by omega)]
  by_cases h1 : isI a1 (cnt v 4) = true
  · obtain ⟨q, hq, rfl⟩ := isI_of (by omega) h1
    have hq8 : q < 8 := by omega
    have b2 := (hv.2.2.2.2.1 q hq).2.2.2
    rw [if_pos h1, if_pos h1, g43 h hq, bnd_s, umg3 hq8, umn3 hq8, mu3 g hq, ek0 (by omega), lek0 (by omega)]
    by_cases h2 : tb v 4 q 3 = 0
    · rw [if_pos h2, if_pos (show tb v 4 q 3 ≤ 0 by omega)]
      have fin : ∀ x, x ≤ 2 → Both (f_X8_answer_j52 N (nI x) 3 (nI q) c) (f_X9_answer_j50 N (nI x) (4 * nI q + 3) m) := by
        intro x hx
        have e1 : RCb (wI c 11 (q * 4 + 3) (nI x)) 1 (setR v 4 q 3 x) := RCb_setR (j := 4) (r := q) (k := 3) (x := x) h (by decide) hq (by decide) rfl
        have e2 : RMl (wI m 67 (4 * q + 3) (nI x)) (setR v 4 q 3 x) := RMl_set4 g (by decide)
        have e3 := hv.set4 (r := q) hx
        unfold f_X8_answer_j52 f_X9_answer_j50
        rw [s43 h hq, bnd_s, umg3 hq8, umn3 hq8, lt_e, e_answered e1 e3 hN, bnd_s, m_answered e2 e3 hN, bnd_s]
        exact Both.of rfl rfl (R.keepB e1 e2 e3 (fun o k ho _ => rI_ne (by omega)) (fun o k ho => rI_ne (by omega)) (fun k => rfl))
      cases a2
      · exact fin 2 (by decide)
      · exact fin 1 (by decide)
    · rw [if_neg h2, if_neg (show ¬ tb v 4 q 3 ≤ 0 by omega)]
      exact both_bad R _
  · rw [if_neg h1, if_neg h1]
    exact both_bad R _
theorem b_paperJ (R : Rv c m v vk) (hN : 1000 ≤ N) {p q a b w : Nat} (a6 : Int32) (hp : p < cnt v 0) (hq : 1 ≤ q ∧ q ≤ 7) (ha : a ≤ 160) (hb : b ≤ 160) (hw : w ≤ 99) (h5 : q = 5 → ∃ o, o < cnt v 1 ∧ a6 = nI o) : Both (f_X8_paper_j76 N (nI p) (nI q) (nI a) (nI b) (nI w) a6 c) (f_X9_paper_j60 N (nI p) (nI q) (nI a) (nI b) (nI w) a6 m) := by
  obtain ⟨h, g, hv, -⟩ := id R
  have b0 := hv.n0
  have b3 := hv.np
  have bo := hv.2.2.2.2.2.1 p
  unfold f_X8_paper_j76 f_X9_paper_j60
  rw [th_full (T1 h), bnd_s, ite_d, mct1 g, ek30 (by omega)]
  by_cases h6 : cnt v 1 = 30
  · rw [if_pos (by omega), if_pos h6]
    exact both_bad R _
  · have h7 : cnt v 1 < 30 := by omega
    rw [if_neg (by omega), if_neg h6, e_papersOf h hv (by omega) hN, bnd_s, m_papersOf g hv (by omega) hN, bnd_s, ltk6 (by omega), ek6 (by omega)]
    by_cases h8 : ofP v p (cnt v 1) = 6
    · rw [if_neg (by omega), if_pos h8]
      exact both_bad R _
    · rw [if_pos (by omega), if_neg h8, th_add (T1 h) h7 (by omega), bnd_s]
      have t1 := (T1 h).addT h7
      rw [th_s0 t1 (r := cnt v 1) (by omega) (by decide), bnd_s,
        th_s1 (t1.setC _ _) (r := cnt v 1) (by omega) (by decide), bnd_s,
        th_s2 ((t1.setC _ _).setC _ _) (r := cnt v 1) (by omega) (by decide), bnd_s,
        th_s3 (((t1.setC _ _).setC _ _).setC _ _) (r := cnt v 1) (by omega) (by decide), bnd_s,
        th_s4 ((((t1.setC _ _).setC _ _).setC _ _).setC _ _) (r := cnt v 1) (by omega) (by decide), bnd_s]
      rw [ek5 (by omega)]
      simp only [mct1 g, lt_e, pmg0 h7, pmg1 h7, pmg2 h7, pmg3 h7, pmg4 h7, pmn0 h7, pmn1 h7, pmn2 h7, pmn3 h7, pmn4 h7]
      rw [ek5 (by omega)]
      have fin : ∀ x X, x ≤ cnt v 1 → X = trM x → Both (f_X8_paper_j211 N (nI (cnt v 1)) X 5 (nI (cnt v 1)) (wI (wI (wI (wI (wI (addM c 4 7 (cnt v 1)) (4 + 1) (cnt v 1 * 7 + 0) (nI p)) (4 + 1) (cnt v 1 * 7 + 1) (nI q)) (4 + 1) (cnt v 1 * 7 + 2) (nI a)) (4 + 1) (cnt v 1 * 7 + 3) (nI b)) (4 + 1) (cnt v 1 * 7 + 4) (nI w)))
          (f_X9_paper_j161 N X (6 * nI (cnt v 1) + 5) (wI (wI (wI (wI (wI m 63 (6 * cnt v 1 + 0) (nI p)) 63 (6 * cnt v 1 + 1) (nI q)) 63 (6 * cnt v 1 + 2) (nI a)) 63 (6 * cnt v 1 + 3) (nI b)) 63 (6 * cnt v 1 + 4) (nI w))) := by
        intro x X hx hX
        unfold f_X8_paper_j211 f_X9_paper_j161
        rw [th_s5 (((((t1.setC _ _).setC _ _).setC _ _).setC _ _).setC _ _) (r := cnt v 1) (by omega) (by decide), bnd_s]
        simp only [lt_e, pmg5 h7, pmn5 h7, r61 (show 61 ≠ 63 by decide), mct1 g, rI_w, and_self, if_true, nI_1, nI_pred]
        subst hX
        exact Both.of rfl rfl (R.keepB (RCb_add (j := 1) (row := fun k => if k = 0 then p else if k = 1 then q else if k = 2 then a else if k = 3 then b else if k = 4 then w else if k = 5 then x else 0) h (by decide) h7 (hp7 4 (cnt v 1) (fun i => enc 1 i (if i = 0 then p else if i = 1 then q else if i = 2 then a else if i = 3 then b else if i = 4 then w else if i = 5 then x else 0)) rfl)) (RMl_addP g (row := fun k => if k = 0 then p else if k = 1 then q else if k = 2 then a else if k = 3 then b else if k = 4 then w else if k = 5 then x else 0) (e := fun i => enc 1 i (if i = 0 then p else if i = 1 then q else if i = 2 then a else if i = 3 then b else if i = 4 then w else if i = 5 then x else 0)) (fun k hk => by
            have cs : k = 0 ∨ k = 1 ∨ k = 2 ∨ k = 3 ∨ k = 4 := by omega
            rcases cs with rfl | rfl | rfl | rfl | rfl <;> rfl) rfl rfl) (hv.addP h7 (by show ofP v p (cnt v 1) < 6; omega) ⟨hp, hq, ha, hb, hw, hx, rfl⟩) (fun o k ho _ => (hp7 4 (cnt v 1) (fun i => enc 1 i (if i = 0 then p else if i = 1 then q else if i = 2 then a else if i = 3 then b else if i = 4 then w else if i = 5 then x else 0)) rfl o k).trans (by rw [if_neg (by omega), if_neg (by omega)])) (fun o k ho => (rI_addP (e := fun i => enc 1 i (if i = 0 then p else if i = 1 then q else if i = 2 then a else if i = 3 then b else if i = 4 then w else if i = 5 then x else 0)) o k).trans (by rw [if_neg (by omega), if_neg (by omega)])) (fun k => rfl))
      by_cases z : q = 5
      · obtain ⟨o, ho, rfl⟩ := h5 z
        rw [if_pos z, if_pos z]
        exact fin (o + 1) _ ho rfl
      · rw [if_neg z, if_neg z]
        exact fin 0 _ (by omega) rfl
theorem b_paper (R : Rv c m v vk) (hN : 1000 ≤ N) (a1 a2 a3 a4 a5 a6 : Int32) : Both (f_X8_paper N a1 a2 a3 a4 a5 a6 c) (f_X9_paper N a1 a2 a3 a4 a5 a6 m) := by
  obtain ⟨h, g, hv, -⟩ := id R
  have b0 := hv.n0
  have b3 := hv.np
  unfold f_X8_paper f_X9_paper
  rw [th_has (T0 h), bnd_s, e_isPer g hv, bnd_s]
  by_cases h1 : isI a1 (cnt v 0) = true
  · obtain ⟨p, hp, rfl⟩ := isI_of (by omega) h1
    rw [if_pos h1, if_pos h1, e_within, bnd_s, e_in, bnd_s, ite_d, ite_d]
    by_cases h2 : ¬ a2 < 1 ∧ ¬ (7 : Int32) < a2
    · have h2' : ¬ a2 < 0 := fun z => h2.1 (by rw [i32_lt] at z ⊢; exact Int.lt_trans z (by decide))
      obtain ⟨q, hq, rfl⟩ := btw_of (n := 7) (by decide) h2' h2.2
      have hq1 : 1 ≤ q := by
        have := h2.1
        rw [i1, nI_ltI (by omega) (by omega)] at this
        omega
      rw [if_pos h2, if_pos h2, e_isYear, bnd_s, e_isYearM, bnd_s, ite_d, ite_d]
      by_cases h3 : ¬ a3 < 0 ∧ ¬ (160 : Int32) < a3
      · obtain ⟨a, ha, rfl⟩ := yr h3
        rw [if_pos h3, if_pos h3, e_isYear, bnd_s, e_isYearM, bnd_s, ite_d, ite_d]
        by_cases h4 : ¬ a4 < 0 ∧ ¬ (160 : Int32) < a4
        · obtain ⟨b, hb, rfl⟩ := yr h4
          rw [if_pos h4, if_pos h4, e_within, bnd_s, e_in, bnd_s, ite_d, ite_d]
          by_cases h5 : ¬ a5 < 0 ∧ ¬ (99 : Int32) < a5
          · obtain ⟨w, hw, rfl⟩ := btw_of (n := 99) (by decide) h5.1 h5.2
            rw [if_pos h5, if_pos h5, ek5 (by omega), ek5 (by omega)]
            by_cases h6 : q = 5
            · rw [if_pos h6, if_pos h6, th_has (T1 h), bnd_s, e_isPap g hv, bnd_s]
              by_cases h8 : isI a6 (cnt v 1) = true
              · rw [if_pos h8, if_pos h8]
                exact b_paperJ R hN a6 hp ⟨hq1, hq⟩ ha hb hw (fun _ => isI_of (by omega) h8)
              · rw [if_neg h8, if_neg h8]
                exact both_bad R _
            · rw [if_neg h6, if_neg h6]
              exact b_paperJ R hN a6 hp ⟨hq1, hq⟩ ha hb hw (fun z => absurd z h6)
          · rw [if_neg h5, if_neg h5]
            exact both_bad R _
        · rw [if_neg h4, if_neg h4]
          exact both_bad R _
      · rw [if_neg h3, if_neg h3]
        exact both_bad R _
    · rw [if_neg h2, if_neg h2]
      exact both_bad R _
  · rw [if_neg h1, if_neg h1]
    exact both_bad R _
end OPS4
