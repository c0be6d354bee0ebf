-- clause, takes, errs
section TAKE
variable {N : Nat} {c m : Mem} {v vk : VB}
theorem b_holds (h : RCb c 1 v) (g : RMl m v) (hv : IV v) {p x r : Nat} (hp : p < cnt v 0) (hx : x < 2 ^ 30) (hN : 1000 ≤ N) (S : STD N v x) (w : WG c v p) (J : JL c v p x) (hr : r < cnt v 5) : ∃ b c2 m2, f_X1_holds N (nI r) c = some (b, c2) ∧ f_X9_holds N (nI r) (nI p) m = some (b, m2) ∧ Sm1 (fun o => 34 ≤ o ∧ o ≤ 35) c c2 ∧ Sm1 (fun o => o = 77) m m2 := by
  have b5 : cnt v 5 ≤ 6 := hv.2.2.2.2.2.2.2.2.2.2.2.1
  have b6 : cnt v 6 ≤ 200 := hv.2.2.2.2.2.2.2.2.2.2.2.2
  obtain ⟨k1, k2, k3, k4, k5, k6⟩ := g.2.2.2.2.2.2
  obtain ⟨q1, q2, q3, q4, q5, q6⟩ := k2 r hr
  have cl : f_X3_clear N 34 c = some ((), wI c 34 1 0) := rfl
  have sm : Sm1 (fun o => 34 ≤ o ∧ o ≤ 35) c (wI c 34 1 0) := Sm1.wI ⟨by decide, by decide⟩
  have h' : RCb (wI c 34 1 0) 1 v := sm.RCb (fun o _ _ => by omega) h
  have im : imin (nI (tb v 5 r 2)) (nI (cnt v 6)) = nI (tb v 5 r 2) := by
    unfold imin
    rw [ite_lt (by omega) (by omega), if_neg (by omega)]
  obtain ⟨b, c2, m2, e1, e2, e3, e4⟩ := holdL (N := N) hv hp hx hN S hr (tb v 5 r 2 - tb v 5 r 1) (tb v 5 r 1) N N 0 (wI c 34 1 0) m h' g (w.keep (sm.mono (fun o _ => by omega))) (J.keep sm) ⟨by rw [rI_w, if_pos ⟨rfl, rfl⟩]; rfl, fun i hi => absurd hi (by omega)⟩ (by omega) (Nat.le_refl _) (by rw [Nat.sub_self]; rfl) (by omega) (by omega)
  refine ⟨b, c2, m2, ?_, ?_, sm.tr e3, e4⟩
  · unfold f_X1_holds
    rw [cl, bnd_s, g52 h' hr, bnd_s, g51 h' hr, bnd_s, ct6 h', im]
    exact e1
  · unfold f_X9_holds f_X9_holds_j18
    rw [ek0 (by omega), bI_f]
    by_cases z : r = 0
    · rw [if_pos z]
      rw [if_pos z] at q6
      rw [q6] at e2
      exact e2
    · rw [if_neg z] at q6
      have q1' : rI m 68 (r - 1) = nI (pos (tb v 6) (tb v 5 (r - 1) 2)) := (k2 (r - 1) (by omega)).1
      rw [if_neg z, show (nI r - 1 : Int32) = nI (r - 1) from pk_sub (b := 1) (by omega), gin_n (by omega) (by decide), nI_clamp (by omega), q1', ← q6]
      exact e2
theorem b_clauL (hv : IV v) {p x : Nat} (hp : p < cnt v 0) (hx : x < 2 ^ 30) (hN : 1000 ≤ N) (S : STD N v x) : ∀ d r n1 n2 (c m : Mem), RCb c 1 v → RMl m v → WG c v p → JL c v p x → r + d = cnt v 5 → d < n1 → d < n2 → ∃ c2 m2, Sm1 (fun o => 34 ≤ o ∧ o ≤ 35) c c2 ∧ Sm1 (fun o => o = 77) m m2 ∧ ((f_X1_clauseFor_L16 N n1 (nI r) c = some (-3, c2) ∧ f_X9_clauseOf_L2 N n2 (nI p) (nI r) m = some (-1, m2)) ∨ ∃ j, j < cnt v 5 ∧ f_X1_clauseFor_L16 N n1 (nI r) c = some (nI j, c2) ∧ f_X9_clauseOf_L2 N n2 (nI p) (nI r) m = some (nI j, m2)) := by
  have b5 : cnt v 5 ≤ 6 := hv.2.2.2.2.2.2.2.2.2.2.2.1
  intro d
  induction d with
  | zero =>
    intro r n1 n2 c m h g w J h1 h2 h3
    obtain ⟨n1, rfl⟩ := suc_of h2
    obtain ⟨n2, rfl⟩ := suc_of h3
    refine ⟨c, m, Sm1.rf, Sm1.rf, Or.inl ⟨?_, ?_⟩⟩
    · unfold f_X1_clauseFor_L16
      rw [ct5 h, le_t (by omega) (by omega)]
    · unfold f_X9_clauseOf_L2
      rw [mct5 g, le_t (by omega) (by omega)]
  | succ d ih =>
    intro r n1 n2 c m h g w J h1 h2 h3
    obtain ⟨n1, rfl⟩ := suc_of h2
    obtain ⟨n2, rfl⟩ := suc_of h3
    have hr : r < cnt v 5 := by omega
    obtain ⟨b, c2, m2, e1, e2, e3, e4⟩ := b_holds (N := N) h g hv hp hx hN S w J hr
    unfold f_X1_clauseFor_L16 f_X9_clauseOf_L2
    rw [ct5 h, le_f hr (by omega), mct5 g, le_f hr (by omega), e1, bnd_s, e2, bnd_s, nI_1]
    cases b with
    | true =>
      exact ⟨c2, m2, e3, e4, Or.inr ⟨r, hr, rfl, rfl⟩⟩
    | false =>
      obtain ⟨c3, m3, f1, f2, f3⟩ := ih (r + 1) n1 n2 c2 m2 (e3.RCb (fun o _ _ => by omega) h) (RMl_s g (fun o i ho => (e4 o (by omega)).1 i)) (w.keep (e3.mono (fun o _ => by omega))) (J.keep e3) (by omega) (by omega) (by omega)
      exact ⟨c3, m3, e3.tr f1, e4.tr f2, f3⟩
theorem b_clauseFor (h : RCb c 1 v) (g : RMl m v) (hv : IV v) {p : Nat} (hp : p < cnt v 0) (hN : 1000 ≤ N) : ∃ c2 m2, Sm1 scr c c2 ∧ Sm1 (fun o => o = 77) m m2 ∧ ((f_X1_clauseFor N (nI p) c = some (-3, c2) ∧ f_X9_clauseOf N (nI p) m = some (-1, m2)) ∨ ∃ j, j < cnt v 5 ∧ f_X1_clauseFor N (nI p) c = some (nI j, c2) ∧ f_X9_clauseOf N (nI p) m = some (nI j, m2)) := by
  have b0 := hv.n0
  have b5 : cnt v 5 ≤ 6 := hv.2.2.2.2.2.2.2.2.2.2.2.1
  obtain ⟨c1, e1, e2, e3⟩ := c_weigh h hv (show p < 2 ^ 31 by omega) hN
  have h1 : RCb c1 1 v := e2.RCb (fun o _ _ => by unfold od; omega) h
  obtain ⟨c2, x, hx, f1, f2, f3, f4⟩ := c_learn h1 g hv hp e3 hN
  have h2 : RCb c2 1 v := f2.RCb (fun o _ _ => by omega) h1
  have S : STD N v x := STD.of h g hv hN hx f4
  obtain ⟨c3, m3, k1, k2, k3⟩ := b_clauL (N := N) hv hp hx hN S (cnt v 5) 0 N N c2 m h2 g (e3.keep (f2.mono (fun o ho => by omega))) f3 (by omega) (by omega) (by omega)
  refine ⟨c3, m3, ((e2.mono od_scr).tr (f2.mono (fun o ho => by unfold scr; omega))).tr (k1.mono (fun o ho => by unfold scr; omega)), k2, ?_⟩
  unfold f_X1_clauseFor f_X9_clauseOf
  rw [e1, bnd_s, f1, bnd_s]
  exact k3
theorem Rv.scrB (R : Rv c m v vk) {c2 m2 : Mem} (h1 : Sm1 scr c c2) (h2 : Sm1 (fun o => o = 77) m m2) : Rv c2 m2 v vk :=
  (R.keepC h1).keepM (fun o k ho => (h2 o (fun e => ho (by unfold mscr; omega))).1 k) (fun k => (h2 81 (by decide)).2 k)
theorem b_isTaken (h : RCb c 1 v) (g : RMl m v) (hv : IV v) {p : Nat} (hp : p < cnt v 0) (hN : 1000 ≤ N) : ∃ b c2 m2, f_X1_isTaken N (nI p) c = some (b, c2) ∧ f_X9_isTaken N (nI p) m = some (b, m2) ∧ Sm1 scr c c2 ∧ Sm1 (fun o => o = 77) m m2 := by
  have b5 : cnt v 5 ≤ 6 := hv.2.2.2.2.2.2.2.2.2.2.2.1
  obtain ⟨c2, m2, k1, k2, k3⟩ := b_clauseFor (N := N) h g hv hp hN
  have h2 : RCb c2 1 v := k1.RCb (fun o _ _ => by unfold scr; omega) h
  have g2 : RMl m2 v := RMl_s g (fun o i ho => (k2 o (by omega)).1 i)
  unfold f_X1_isTaken f_X9_isTaken
  rcases k3 with ⟨e1, e2⟩ | ⟨j, hj, e1, e2⟩
  · rw [e1, e2, bnd_s, bnd_s, if_pos rfl, if_pos (by decide)]
    exact ⟨false, c2, m2, rfl, rfl, k1, k2⟩
  · obtain ⟨q1, q2, q3, -⟩ := g2.2.2.2.2.2.2.2.1 j hj
    have q2' : rI m2 69 j = nI (tb v 5 j 0) := q2
    rw [e1, e2, bnd_s, bnd_s, if_neg (nI_ne3 (by omega)), lt0_f (by omega), g50 h2 hj, bnd_s, gin_n (by omega) (by decide), nI_clamp (by omega), q2', ek1 (by omega), ek1 (by omega)]
    by_cases z : tb v 5 j 0 = 1
    · rw [if_pos z, if_pos z]
      exact ⟨true, c2, m2, rfl, rfl, k1, k2⟩
    · rw [if_neg z, if_neg z]
      exact ⟨false, c2, m2, rfl, rfl, k1, k2⟩
theorem b_clause (R : Rv c m v vk) (hN : 1000 ≤ N) (a1 : Int32) : Both (f_X8_clause N a1 c) (f_X9_clause N a1 m) := by
  obtain ⟨h, g, hv, -⟩ := id R
  have b0 := hv.n0
  have b5 : cnt v 5 ≤ 6 := hv.2.2.2.2.2.2.2.2.2.2.2.1
  unfold f_X8_clause f_X9_clause
  rw [th_has (T0 h), bnd_s, e_isPer g hv, bnd_s]
  by_cases h1 : isI a1 (cnt v 0) = true
  · obtain ⟨p, hp, rfl⟩ := isI_of (by omega) h1
    obtain ⟨c2, m2, k1, k2, k3⟩ := b_clauseFor (N := N) h g hv hp hN
    rw [if_pos h1, if_pos h1]
    rcases k3 with ⟨e1, e2⟩ | ⟨j, hj, e1, e2⟩
    · rw [e1, e2, bnd_s, bnd_s, if_neg (by decide)]
      exact Both.of rfl rfl (R.scrB k1 k2)
    · rw [e1, e2, bnd_s, bnd_s, if_pos (nI_pos' (by omega))]
      exact Both.of rfl rfl (R.scrB k1 k2)
  · rw [if_neg h1, if_neg h1]
    exact both_bad R _
theorem b_takes (R : Rv c m v vk) (hN : 1000 ≤ N) (a1 : Int32) : Both (f_X8_takes N a1 c) (f_X9_takes N a1 m) := by
  obtain ⟨h, g, hv, -⟩ := id R
  have b0 := hv.n0
  unfold f_X8_takes f_X9_takes
  rw [th_has (T0 h), bnd_s, e_isPer g hv, bnd_s]
  by_cases h1 : isI a1 (cnt v 0) = true
  · obtain ⟨p, hp, rfl⟩ := isI_of (by omega) h1
    obtain ⟨b, c2, m2, e1, e2, k1, k2⟩ := b_isTaken (N := N) h g hv hp hN
    rw [if_pos h1, if_pos h1, e1, e2, bnd_s, bnd_s]
    cases b
    · exact Both.of rfl rfl (R.scrB k1 k2)
    · exact Both.of rfl rfl (R.scrB k1 k2)
  · rw [if_neg h1, if_neg h1]
    exact both_bad R _
theorem errL (hv : IV v) (hN : 1000 ≤ N) {age what : Nat} (ha : age ≤ 160) (hw : what ≤ 1) : ∀ d k n (e : Nat) (c m : Mem), RCb c 1 v → RMl m v → k + d = cnt v 0 → d < n → e ≤ k → ∃ r c2 m2, f_X8_errs_L23 N n (nI age) (nI what) (nI e) (nI k) c = some (r, c2) ∧ f_X9_errs_L23 N n (nI age) (nI what) (nI e) (nI k) m = some (r, m2) ∧ Sm1 scr c c2 ∧ Sm1 (fun o => o = 77) m m2 := by
  have b0 := hv.n0
  intro d
  induction d with
  | zero =>
    intro k n e c m h g h1 h2 h3
    obtain ⟨n, rfl⟩ := suc_of h2
    refine ⟨nI e, c, m, ?_, ?_, Sm1.rf, Sm1.rf⟩
    · unfold f_X8_errs_L23
      rw [ct0 h, le_t (by omega) (by omega)]
    · unfold f_X9_errs_L23
      rw [mct0 g, le_t (by omega) (by omega)]
  | succ d ih =>
    intro k n e c m h g h1 h2 h3
    obtain ⟨n, rfl⟩ := suc_of h2
    have hk : k < cnt v 0 := by omega
    have hk10 : k < 10 := by omega
    have bt := (hv.1 k hk).2.2.2
    have bs := seenS_le hv k
    unfold f_X8_errs_L23 f_X9_errs_L23 f_X0_isTruthTold
    rw [ct0 h, le_f hk (by omega), mct0 g, le_f hk (by omega), g03 h hk, bnd_s, qmg3 hk10, lt_e, qmn3 hk10, mq3 g hk]
    have same := ih (k + 1) n e c m h g (by omega) (by omega) (by omega)
    unfold f_X8_errs_j136 f_X9_errs_j104
    by_cases z : tb v 0 k 3 = 0
    · rw [if_pos z, if_pos (by decide), bnd_s, ite_F, show trM (tb v 0 k 3) = -9 from if_pos z, if_pos (by decide), nI_1]
      exact same
    · have et : trM (tb v 0 k 3) = nI (tb v 0 k 3 - 1) := if_neg z
      obtain ⟨b, c2, m2, e1, e2, k1, k2⟩ := b_isTaken (N := N) h g hv hk hN
      have h2' : RCb c2 1 v := k1.RCb (fun o _ _ => by unfold scr; omega) h
      have g2' : RMl m2 v := RMl_s g (fun o i ho => (k2 o (by omega)).1 i)
      have go : ∀ e2, e2 ≤ k + 1 → ∃ r c3 m3, f_X8_errs_L23 N n (nI age) (nI what) (nI e2) (nI (k + 1)) c2 = some (r, c3) ∧ f_X9_errs_L23 N n (nI age) (nI what) (nI e2) (nI (k + 1)) m2 = some (r, m3) ∧ Sm1 scr c c3 ∧ Sm1 (fun o => o = 77) m m3 := by
        intro e2 he
        obtain ⟨r, c3, m3, f1, f2, f3, f4⟩ := ih (k + 1) n e2 c2 m2 h2' g2' (by omega) (by omega) he
        exact ⟨r, c3, m3, f1, f2, k1.tr f3, k2.tr f4⟩
      have cmp : (nI age ≤ nI (seenS v k) - nI (tb v 0 k 3 - 1)) ↔ ¬ (nI (seenS v k) - nI (tb v 0 k 3 - 1) < nI age) := by
        rw [i32_le, i32_lt]; exact Int.not_lt.symm
      have go1 := go (e + 1) (by omega)
      have go0 := go e (by omega)
      have goc : ∃ r c3 m3, f_X8_errs_L23 N n (nI age) (nI what) (nI e) (nI (k + 1)) c2 = some (r, c3) ∧ f_X9_errs_L23 N n (nI age) (nI what) (nI e) (nI (k + 1)) m = some (r, m3) ∧ Sm1 scr c c3 ∧ Sm1 (fun o => o = 77) m m3 := by
        obtain ⟨r, c3, m3, f1, f2, f3, f4⟩ := ih (k + 1) n e c2 m h2' g (by omega) (by omega) (by omega)
        exact ⟨r, c3, m3, f1, f2, k1.tr f3, f4⟩
      rw [if_neg z, lt0_f (by omega), bnd_s, ite_T, e_seen h hv (by omega) hN, bnd_s, g03 h hk, bnd_s, if_neg z, et, lt0_f (by omega), m_seen g hv (by omega) hN, bnd_s]
      unfold f_X8_errs_j85 f_X8_errs_j133 f_X8_errs_j136 f_X9_errs_j68 f_X9_errs_j83 f_X9_errs_j101 f_X9_errs_j102 f_X9_errs_j104
      rw [e1, bnd_s, e2, bnd_s, ek0 (by omega), ek1 (by omega), nI_1, nI_1]
      have t0 : nI e + bI false = nI e := by rw [bI_f, show (0 : Int32) = nI 0 from rfl, nI_add, Nat.add_zero]
      have t1 : nI e + bI true = nI (e + 1) := by rw [bI_t, nI_1]
      have tf : ¬ bI true = bI false := by decide
      have ft : ¬ bI false = bI true := by decide
      have cw : what = 0 ∨ what = 1 := by omega
      by_cases y : nI (seenS v k) - nI (tb v 0 k 3 - 1) < nI age
      · have y2 : ¬ nI age ≤ nI (seenS v k) - nI (tb v 0 k 3 - 1) := fun q => (cmp.mp q) y
        rcases cw with rfl | rfl <;> cases b <;> simp only [if_neg y2, if_pos y, t0, t1, if_true, if_false, Bool.false_eq_true, tf, ft, if_neg (show ¬ (0 : Nat) = 1 by decide), if_neg (show ¬ (1 : Nat) = 0 by decide), if_pos (show (0 : Nat) = 0 from rfl), if_pos (show (1 : Nat) = 1 from rfl), if_neg (show ¬ nI 1 = 0 by decide), if_neg (show ¬ nI 0 = 1 by decide), if_pos (show nI 0 = 0 from rfl), if_pos (show nI 1 = 1 from rfl), bnd_s] <;> first | exact go0 | exact go1 | exact goc
      · have y2 : nI age ≤ nI (seenS v k) - nI (tb v 0 k 3 - 1) := cmp.mpr y
        rcases cw with rfl | rfl <;> cases b <;> simp only [if_pos y2, if_neg y, t0, t1, if_true, if_false, Bool.false_eq_true, tf, ft, if_neg (show ¬ (0 : Nat) = 1 by decide), if_neg (show ¬ (1 : Nat) = 0 by decide), if_pos (show (0 : Nat) = 0 from rfl), if_pos (show (1 : Nat) = 1 from rfl), if_neg (show ¬ nI 1 = 0 by decide), if_neg (show ¬ nI 0 = 1 by decide), if_pos (show nI 0 = 0 from rfl), if_pos (show nI 1 = 1 from rfl), bnd_s] <;> first | exact go0 | exact go1 | exact goc
theorem b_errs (R : Rv c m v vk) (hN : 1000 ≤ N) (a1 a2 : Int32) : Both (f_X8_errs N a1 a2 c) (f_X9_errs N a1 a2 m) := by
  obtain ⟨h, g, hv, -⟩ := id R
  have b0 := hv.n0
  unfold f_X8_errs f_X9_errs
  rw [e_isYear, bnd_s, e_isYearM, bnd_s, ite_d, ite_d]
  by_cases h1 : ¬ a1 < 0 ∧ ¬ (160 : Int32) < a1
  · obtain ⟨y, hy, rfl⟩ := yr h1
    rw [if_pos h1, if_pos h1, e_within, bnd_s, e_in, bnd_s, ite_d, ite_d]
    by_cases h2 : ¬ a2 < 0 ∧ ¬ (1 : Int32) < a2
    · obtain ⟨w, hw, rfl⟩ := btw_of (n := 1) (by decide) h2.1 h2.2
      obtain ⟨r, c2, m2, e1, e2, k1, k2⟩ := errL (N := N) hv hN hy hw (cnt v 0) 0 N 0 c m h g (by omega) (by omega) (by omega)
      rw [if_pos h2, if_pos h2]
      exact Both.of e1 e2 (R.scrB k1 k2)
    · rw [if_neg h2, if_neg h2]
      exact both_bad R _
  · rw [if_neg h1, if_neg h1]
    exact both_bad R _
end TAKE
