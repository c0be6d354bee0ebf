-- shelf, taken, trace, many
section SHELF
variable {N : Nat} {c m : Mem} {v vk : VB}
/-- one place of the shelves, as both sides see it -/
def SV1 (c m : Mem) (j : Nat) : Prop :=
  (rI c 57 (j * 4 + 0) = 3 ∧ rI m 82 j = -1) ∨
  (∃ w n, w < 2 ∧ n < 30 ∧ rI c 57 (j * 4 + 0) = nI w ∧ rI c 57 (j * 4 + 1) = nI n ∧ rI m 82 j = nI w ∧ rI m 83 j = nI n) ∨
  (∃ so n, so < 4 ∧ n ≤ 40 ∧ rI c 57 (j * 4 + 0) = 2 ∧ rI c 57 (j * 4 + 2) = nI so ∧ rI c 57 (j * 4 + 3) = nI n ∧ rI m 82 j = 2 ∧ rI m 83 j = nI so ∧ rI m 84 j = nI n)
theorem slv_i : SLV c m ↔ TB c 56 4 4 4 ∧ ∀ j, j < 4 → SV1 c m j := Iff.rfl
theorem Rv.slset (R : Rv c m v vk) {c2 m2 : Mem} {j : Nat} (hj : j < 4) (t : TB c2 56 4 4 4) (S : SV1 c2 m2 j) (hc : ∀ o k, ¬ (o = 57 ∧ j * 4 ≤ k ∧ k < j * 4 + 4) → rI c2 o k = rI c o k) (hm : ∀ o k, ¬ (82 ≤ o ∧ o ≤ 84 ∧ k = j) → rI m2 o k = rI m o k) (hl : ∀ k, rL m2 81 k = rL m 81 k) : Rv c2 m2 v vk := by
  obtain ⟨h1, h2, h3, h4, h5, h6, h7, h8, h9, h10⟩ := id R
  refine R.chg (h5.keep (fun o k ho => hc o k (by omega)) (fun o k ho => hm o k (by omega))) (h6.keep (fun o k ho => hc o k (by omega)) (fun o k ho => hm o k (by omega))) (h7.keep (fun o k ho => hc o k (by omega)) (fun o k ho => hm o k (by omega)) hl) (slv_i.mpr ⟨t, fun i hi => ?_⟩) (h9.keep (fun o k ho => hc o k (by omega)) (fun o k ho => hm o k (by omega))) (fun o k ho => hc o k (by omega)) (fun o k ho => hm o k (by omega))
  by_cases e : i = j
  · rw [e]; exact S
  · have q := (slv_i.mp h8).2 i hi
    have e0 : rI c2 57 (i * 4 + 0) = rI c 57 (i * 4 + 0) := hc _ _ (by omega)
    have e1 : rI c2 57 (i * 4 + 1) = rI c 57 (i * 4 + 1) := hc _ _ (by omega)
    have e2 : rI c2 57 (i * 4 + 2) = rI c 57 (i * 4 + 2) := hc _ _ (by omega)
    have e3 : rI c2 57 (i * 4 + 3) = rI c 57 (i * 4 + 3) := hc _ _ (by omega)
    have f2 : rI m2 82 i = rI m 82 i := hm _ _ (by omega)
    have f3 : rI m2 83 i = rI m 83 i := hm _ _ (by omega)
    have f4 : rI m2 84 i = rI m 84 i := hm _ _ (by omega)
    unfold SV1
    rw [e0, e1, e2, e3, f2, f3, f4]
    exact q
theorem e_shelve {j : Nat} (t : TB c 56 4 4 4) (hj : j < 4) (a b : Int32) : f_X8_shelve N (nI j) a b c = some (1, wI (wI c 57 (j * 4 + 0) a) 57 (j * 4 + 1) b) := by
  unfold f_X8_shelve
  rw [th_s0 t hj (by decide), bnd_s, th_s1 (t.setC _ _) hj (by decide), bnd_s]
theorem isJ {j : Nat} (hj : j < 4) : isI (nI j) 4 = true := by rw [isI_n (by omega) (by decide), decide_eq_true hj]
theorem isI4 (a : Int32) : isI a 4 = decide (¬ a < 0 ∧ ¬ (3 : Int32) < a) := by
  have := isP_eq (a := a) (n := 4) (by decide)
  rw [← this]
  rfl
/-- what the model does when it puts something on the shelf -/
theorem m_shelf68 {j : Nat} (hj : j < 4) (w x3 p0 : Int32) (h2 : ¬ w = 2) : f_X9_shelf_j68 N (nI j) w x3 p0 (nI j) m = some (1, wI (wI m 83 j p0) 84 j 0) := by
  unfold f_X9_shelf_j68
  rw [gin_n hj (by decide), lt_e, if_neg h2, gin_n hj (by decide), lt_e, nI_clamp (by omega)]
theorem m_shelf47 {j : Nat} (hj : j < 4) (w x3 p0 : Int32) (h2 : ¬ w = 2) : f_X9_shelf_j47 N (nI j) w x3 p0 (nI j) m = some (1, wI (wI (wI m 82 j p0) 83 j x3) 84 j 0) := by
  unfold f_X9_shelf_j47
  rw [gin_n hj (by decide), lt_e, if_neg h2, m_shelf68 hj _ _ _ h2, nI_clamp (by omega)]
theorem m_shelf47R {j q : Nat} (hj : j < 4) (hq : q < 4) (p0 : Int32) : f_X9_shelf_j47 N (nI j) 2 (nI q) p0 (nI j) m = some (1, wI (wI (wI m 82 j p0) 83 j (rI m 79 q)) 84 j (rI m 80 q)) := by
  unfold f_X9_shelf_j47 f_X9_shelf_j68
  rw [gin_n hj (by decide), lt_e, if_pos rfl, gin_n hq (by decide), gin_n hj (by decide), lt_e, if_pos rfl, gin_n hq (by decide), gin_n hj (by decide), lt_e, nI_clamp (by omega), nI_clamp (by omega), rI_ne (by decide), rI_ne (by decide), rI_ne (by decide)]
theorem b_shelf (R : Rv c m v vk) (a1 a2 a3 : Int32) : Both (f_X8_shelf N a1 a2 a3 c) (f_X9_shelf N a1 a2 a3 m) := by
  obtain ⟨h, g, hv, kp, ta, ro, sh, sl, tr, -⟩ := id R
  have b0 := hv.n0
  have b1 := hv.np
  obtain ⟨t, -⟩ := slv_i.mp sl
  unfold f_X8_shelf f_X9_shelf
  rw [th_has t, bnd_s, e_isShelf, bnd_s, isI4, ite_d, ite_d]
  by_cases h1 : ¬ a1 < 0 ∧ ¬ (3 : Int32) < a1
  · obtain ⟨j, hj, rfl⟩ := btw_of (n := 3) (by decide) h1.1 h1.2
    have hj4 : j < 4 := by omega
    rw [if_pos h1, if_pos h1]
    unfold f_X9_isThing f_X9_shelf_j42 f_X9_shelf_j46
    -- a paper or a person
    have holds : ∀ w n : Nat, w < 2 → n < 30 → Both (bnd (f_X8_shelve N (nI j) (nI w) (nI n) c) fun r3 s3 => some (r3, s3)) (f_X9_shelf_j47 N (nI j) (nI w) (nI n) (nI w) (nI j) m) := by
      intro w n hw hn
      rw [e_shelve t hj4, bnd_s, m_shelf47 hj4 _ _ _ (by
        intro e
        have := (nI_eq (a := w) (b := 2) (by omega) (by decide)).mp e
        omega)]
      refine Both.of rfl rfl (R.slset hj4 ((t.setC _ _).setC _ _) (Or.inr (Or.inl ⟨w, n, hw, hn, ?_, ?_, ?_, ?_⟩)) (fun o k ho => ?_) (fun o k ho => ?_) (fun k => rfl))
      · rw [rI_w, if_neg (by omega), rI_w, if_pos ⟨rfl, rfl⟩]
      · rw [rI_w, if_pos ⟨rfl, rfl⟩]
      · rw [rI_ne (by decide), rI_ne (by decide), rI_w, if_pos ⟨rfl, rfl⟩]
      · rw [rI_ne (by decide), rI_w, if_pos ⟨rfl, rfl⟩]
      · rw [rI_w, if_neg (by omega), rI_w, if_neg (by omega)]
      · rw [rI_w, if_neg (by omega), rI_w, if_neg (by omega), rI_w, if_neg (by omega)]
    have none : ∀ (c2 : Mem) (x y z : Int32), TB c2 56 4 4 4 → rI c2 57 (j * 4 + 0) = 3 → (∀ o k, ¬ (o = 57 ∧ j * 4 ≤ k ∧ k < j * 4 + 4) → rI c2 o k = rI c o k) → Rv c2 (wI (wI (wI m 82 j (-1)) 83 j y) 84 j z) v vk := by
      intro c2 x y z t2 e1 e2
      refine R.slset hj4 t2 (Or.inl ⟨e1, ?_⟩) e2 (fun o k ho => ?_) (fun k => rfl)
      · rw [rI_ne (by decide), rI_ne (by decide), rI_w, if_pos ⟨rfl, rfl⟩]
      · rw [rI_w, if_neg (by omega), rI_w, if_neg (by omega), rI_w, if_neg (by omega)]
    by_cases w0 : a2 = 0
    · subst w0
      rw [if_pos rfl, if_pos rfl, th_has (T1 h), bnd_s, e_isPap g hv, bnd_s, bnd_s]
      by_cases h2 : isI a3 (cnt v 1) = true
      · obtain ⟨n, hn, rfl⟩ := isI_of (by omega) h2
        rw [if_pos h2, if_pos h2, if_neg (by decide), if_neg (by decide)]
        exact holds 0 n (by decide) (by omega)
      · rw [if_neg h2, if_neg h2]
        exact both_bad R _
    · rw [if_neg w0, if_neg w0]
      by_cases w1 : a2 = 1
      · subst w1
        rw [if_pos rfl, if_pos rfl, th_has (T0 h), bnd_s, e_isPer g hv, bnd_s, bnd_s]
        by_cases h2 : isI a3 (cnt v 0) = true
        · obtain ⟨n, hn, rfl⟩ := isI_of (by omega) h2
          rw [if_pos h2, if_pos h2, if_neg (by decide), if_neg (by decide)]
          exact holds 1 n (by decide) (by omega)
        · rw [if_neg h2, if_neg h2]
          exact both_bad R _
      · rw [if_neg w1, if_neg w1]
        by_cases w2 : a2 = 2
        · subst w2
          rw [if_pos rfl, if_pos rfl, e_isSheet, bnd_s, e_isShelf, bnd_s, bnd_s, ite_d, ite_d]
          by_cases h2 : ¬ a3 < 0 ∧ ¬ (3 : Int32) < a3
          · obtain ⟨q, hq, rfl⟩ := btw_of (n := 3) (by decide) h2.1 h2.2
            have hq4 : q < 4 := by omega
            obtain ⟨so, n, S⟩ := R.sh hq4
            obtain ⟨s1, s2, s3, s4, s5, s6⟩ := id S
            rw [if_pos h2, if_pos h2, if_neg (by decide), if_pos rfl, gin_n hq4 (by decide), nI_clamp (by omega), s3]
            have t2 := (t.setC (j * 4 + 2) (nI so - 1))
            have sz : rI (wI c (56 + 1) (j * 4 + 2) (nI so - 1)) (48 + 2 * q) 2 = nI n := by rw [rI_ne (by omega)]; exact s4
            have j27 : ∀ b : Bool, f_X8_shelveRow_j27 N (nI j) (nI q) b c = if b = true then f_X8_shelveRow_j75 N (nI q) 3 (nI j) (wI (wI c (56 + 1) (j * 4 + 2) (nI so - 1)) (56 + 1) (j * 4 + 3) (nI n)) else f_X8_shelveRow_j75 N (nI q) 2 (nI j) (wI (wI c (56 + 1) (j * 4 + 2) (nI so - 1)) (56 + 1) (j * 4 + 3) (nI n)) := by
              intro b
              unfold f_X8_shelveRow_j27
              rw [gin_n hq4 (by decide), cl_o hq4, s2, th_s2 t hj4 (by decide), bnd_s, gin_n hq4 (by decide), sz, th_s3 t2 hj4 (by decide), bnd_s]
            unfold f_X8_shelveRow
            rw [e_isSheet, bnd_s, ite_d, if_pos h2, gin_n hq4 (by decide), cl_o hq4, s2, j27, j27, ite_T, ite_F]
            unfold f_X8_shelveRow_j75
            have t3 := t2.setC (j * 4 + 3) (nI n)
            rw [e_shelve t3 hj4, e_shelve t3 hj4, bnd_s, bnd_s]
            by_cases z : so = 0
            · rw [z, so_0, if_pos rfl, if_neg (by decide), bnd_s, m_shelf47R hj4 hq4]
              refine Both.of rfl rfl (none _ 0 _ _ ((t3.setC _ _).setC _ _) ?_ (fun o k ho => ?_))
              · rw [rI_w, if_neg (by omega), rI_w, if_pos ⟨rfl, rfl⟩]
              · rw [rI_w, if_neg (by omega), rI_w, if_neg (by omega), rI_w, if_neg (by omega), rI_w, if_neg (by omega)]
            · rw [so_1 (by omega), if_neg (nI_nm1 (by omega)), if_pos (nI_pos' (by omega)), bnd_s, m_shelf47R hj4 hq4]
              refine Both.of rfl rfl (R.slset hj4 ((t3.setC _ _).setC _ _) (Or.inr (Or.inr ⟨so - 1, n, by omega, by omega, ?_, ?_, ?_, ?_, ?_, ?_⟩)) (fun o k ho => ?_) (fun o k ho => ?_) (fun k => rfl))
              · rw [rI_w, if_neg (by omega), rI_w, if_pos ⟨rfl, rfl⟩]
              · rw [rI_w, if_neg (by omega), rI_w, if_neg (by omega), rI_w, if_neg (by omega), rI_w, if_pos ⟨rfl, rfl⟩]
              · rw [rI_w, if_neg (by omega), rI_w, if_neg (by omega), rI_w, if_pos ⟨rfl, rfl⟩]
              · rw [rI_ne (by decide), rI_ne (by decide), rI_w, if_pos ⟨rfl, rfl⟩]
              · rw [rI_ne (by decide), rI_w, if_pos ⟨rfl, rfl⟩, s3, so_1 (by omega)]
              · rw [rI_w, if_pos ⟨rfl, rfl⟩]; exact s5
              · rw [rI_w, if_neg (by omega), rI_w, if_neg (by omega), rI_w, if_neg (by omega), rI_w, if_neg (by omega)]
              · rw [rI_w, if_neg (by omega), rI_w, if_neg (by omega), rI_w, if_neg (by omega)]
          · rw [if_neg h2, if_neg h2]
            exact both_bad R _
        · rw [if_neg w2, if_neg w2]
          by_cases w3 : a2 = 3
          · subst w3
            rw [if_pos rfl, if_pos rfl, bnd_s, ite_T, if_pos rfl, e_shelve t hj4, bnd_s, m_shelf47 hj4 _ _ _ (by decide)]
            refine Both.of rfl rfl (none _ 0 _ _ ((t.setC _ _).setC _ _) ?_ (fun o k ho => ?_))
            · rw [rI_w, if_neg (by omega), rI_w, if_pos ⟨rfl, rfl⟩]
            · rw [rI_w, if_neg (by omega), rI_w, if_neg (by omega)]
          · rw [if_neg w3, if_neg w3, bnd_s, ite_F]
            exact both_bad R _
  · rw [if_neg h1, if_neg h1]
    exact both_bad R _
theorem b_trace (R : Rv c m v vk) (a1 : Int32) : Both (f_X8_trace N a1 c) (f_X9_trace N a1 m) := by
  obtain ⟨h, g, hv, kp, ta, ro, sh, sl, ⟨n, n1, n2, n3, n4⟩, -⟩ := id R
  have hh : f_X3_has N 59 a1 c = some (isI a1 n, c) := by
    unfold f_X3_has isI
    rw [n2]
    by_cases h1 : a1 < 0
    · simp [h1]
    · by_cases h2 : nI n ≤ a1 <;> simp [h1, h2]
  unfold f_X8_trace f_X9_trace
  rw [hh, bnd_s, e_in, bnd_s, n3, isP_eq (by omega)]
  by_cases h1 : isI a1 n = true
  · obtain ⟨i, hi, rfl⟩ := isI_of (by omega) h1
    have l60 : ln 60 = 30 := rfl
    unfold f_X3_get
    rw [if_pos h1, if_pos h1, n2, lt0_f (by omega), le_f hi (by omega), l60, le_f (by omega) (by omega), gin_n (by omega) (by decide), gin_n (by omega) (by decide), nI_clamp (by omega), bnd_s, n4 i hi]
    exact both_bad R _
  · rw [if_neg h1, if_neg h1]
    exact both_bad R _
theorem ct5M (h : RCb c 1 v) : rI c 12 3 = nI (cnt v 5) := ct5 h
theorem b_many (R : Rv c m v vk) (hN : 1000 ≤ N) (a1 : Int32) : Both (f_X8_many N a1 c) (f_X9_many N a1 m) := by
  obtain ⟨h, g, hv, kp, ⟨q, -, q2, q3, -⟩, ⟨n, t, hm, -⟩, sh, sl, ⟨w, -, w2, w3, -⟩, -⟩ := id R
  unfold f_X8_many f_X9_many
  rw [ct0 h, ct1 h, ct5 h, h.2, ct3 h, ct4 h, e_answered h hv hN, bnd_s, t.2.2.1, q2, w2, mct0 g, mct1 g, mct5 g, mct7 g, mct3 g, mct4 g, m_answered g hv hN, bnd_s, hm, q3, w3]
  have key : ∀ x : Int32, Both (some (x, c)) (some (x, m)) := both_bad R
  by_cases z0 : a1 = 0
  · simp only [if_pos z0]; exact key _
  · simp only [if_neg z0]
    by_cases z1 : a1 = 1
    · simp only [if_pos z1]; exact key _
    · simp only [if_neg z1]
      by_cases z2 : a1 = 2
      · simp only [if_pos z2]; exact key _
      · simp only [if_neg z2]
        by_cases z3 : a1 = 3
        · simp only [if_pos z3]; exact key _
        · simp only [if_neg z3]
          by_cases z4 : a1 = 4
          · simp only [if_pos z4]; exact key _
          · simp only [if_neg z4]
            by_cases z5 : a1 = 5
            · simp only [if_pos z5]; exact key _
            · simp only [if_neg z5]
              by_cases z6 : a1 = 6
              · simp only [if_pos z6]; exact key _
              · simp only [if_neg z6]
                by_cases z7 : a1 = 7
                · simp only [if_pos z7]; exact key _
                · simp only [if_neg z7]
                  by_cases z8 : a1 = 8
                  · simp only [if_pos z8]; exact key _
                  · simp only [if_neg z8]
                    by_cases z9 : a1 = 9
                    · simp only [if_pos z9]; exact key _
                    · simp only [if_neg z9]; exact key _
end SHELF
