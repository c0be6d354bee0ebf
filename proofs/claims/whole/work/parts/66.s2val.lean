-- a value, a question: both sides
section ACC
variable {N : Nat} {c c3 : Mem} {T : Nat}
theorem vb_7 (h1 : 1 ≤ T) (h2 : T ≤ 7) (hc : f_X7_isValueTold N (nI T) c = some (true, c3)) : f_X7_isValueBegun N (nI T) c = some (true, c3) := by
  unfold f_X7_isValueBegun
  rw [ltk1 (by omega), if_neg (by omega), lek8 (by omega), if_pos (by omega), ek8 (by omega), if_neg (by omega), hc, bnd_s]
theorem vb_8 : f_X7_isValueBegun N (nI 8) c = some (true, wI c 36 7 2) := by
  unfold f_X7_isValueBegun
  rw [ltk1 (by omega), if_neg (by omega), lek8 (by omega), if_pos (by omega), ek8 (by omega), if_pos rfl, lt_e]
theorem vb_x (h1 : T = 0 ∨ 8 < T) (h2 : T ≤ 20) : f_X7_isValueBegun N (nI T) c = some (false, c) := by
  unfold f_X7_isValueBegun
  rw [ltk1 (by omega), lek8 (by omega), ek8 (by omega)]
  by_cases z : T < 1
  · rw [if_pos z]
  · rw [if_neg z, if_neg (by omega)]
theorem acc_1 (h : rI c 36 7 = nI 1) (hT : T ≤ 20) (h1 : T ≠ 13 ∧ T ≠ 14) : f_X7_isAccepted N (nI T) c = bnd (f_X7_isValueBegun N (nI T) c) fun r3 s3 => if r3 = true then f_X7_isAccepted_j62 N s3 else some (false, s3) := by
  unfold f_X7_isAccepted f_X7_isOneOpened
  rw [h, if_neg (by decide), if_pos (by decide), ek13 (by omega), ek14 (by omega), if_neg h1.1, if_neg h1.2, bnd_s, if_neg (by decide)]
theorem acc_4 (h : rI c 36 7 = nI 4) : f_X7_isAccepted N (nI T) c = bnd (f_X7_isValueBegun N (nI T) c) fun r6 s6 => some (r6, s6) := by
  unfold f_X7_isAccepted
  rw [h, if_neg (by decide), if_neg (by decide), if_neg (by decide), if_neg (by decide), if_pos (by decide)]
theorem acc_14 {st : Nat} (h : rI c 36 7 = nI st) (hst : st = 1 ∨ st = 4) (hT : T ≤ 20) (h1 : st = 1 → T ≠ 13 ∧ T ≠ 14) {b : Bool} (hb : f_X7_isValueBegun N (nI T) c = some (b, c3)) : f_X7_isAccepted N (nI T) c = some (b, c3) := by
  rcases hst with rfl | rfl
  · rw [acc_1 h hT (h1 rfl), hb, bnd_s]
    unfold f_X7_isAccepted_j62
    cases b <;> rfl
  · rw [acc_4 h, hb, bnd_s]
theorem acc_2 (h : rI c 36 7 = nI 2) (hT : T ≤ 20) : f_X7_isAccepted N (nI T) c = if T = 1 then (bnd (f_X7_isValueTold N (nI 8) c) fun r4 s4 => if r4 = true then some (true, s4) else some (false, s4)) else some (false, c) := by
  unfold f_X7_isAccepted
  rw [h, if_neg (by decide), if_neg (by decide), if_pos (by decide), ek1 (by omega)]
  rfl
theorem acc_3 (h : rI c 36 7 = nI 3) (hT : T ≤ 20) : f_X7_isAccepted N (nI T) c = if 16 ≤ T ∧ T ≤ 18 then some (true, wI (wI c 36 10 (nI T)) 36 7 4) else some (false, c) := by
  have e16 : ∀ X Y : Option (Bool × Mem), (if nI T < 16 then X else Y) = if T < 16 then X else Y := fun X Y => ite_lt (b := 16) (by omega) (by decide)
  have e18 : ∀ X Y : Option (Bool × Mem), (if nI T ≤ 18 then X else Y) = if T ≤ 18 then X else Y := fun X Y => ite_le (b := 18) (by omega) (by decide)
  unfold f_X7_isAccepted f_X7_isSignTold
  rw [h, if_neg (by decide), if_neg (by decide), if_neg (by decide), if_pos (by decide), e16, e18]
  by_cases z : T < 16
  · rw [if_pos z, if_neg (by omega), bnd_s]
  · rw [if_neg z]
    by_cases y : T ≤ 18
    · rw [if_pos y, if_pos (by omega), lt_e, lt_e, bnd_s]
    · rw [if_neg y, if_neg (by omega), bnd_s]
theorem cl_f0 {st : Nat} (h : rI c 36 7 = nI st) (h0 : st ≠ 0) (h2 : st ≤ 5) : f_X7_readTape_j64 N c = some (rI c 36 4, c) := by
  unfold f_X7_readTape_j64
  rw [h, ek0 (by omega), if_neg h0]
theorem told_0 {x y lf : Nat} (h10 : rI c 36 10 = nI 0) (h6 : rI c 36 6 = nI y) : f_X7_isValueTold N (nI x) c = some (true, wI (wI c 36 9 (nI (x * 1000 + y))) 36 7 3) := by
  unfold f_X7_isValueTold
  rw [h10, if_pos (by decide), h6, show (nI x * 1000 : Int32) = nI (x * 1000) from pk_mul x 1000, nI_add, lt_e, lt_e]
end ACC
section VAL
variable {N : Nat} {c m c0 m0 : Mem} {q e j : Nat} {B : Nat → Nat}
theorem m_wordHere (t : MT m q B e) : f_X9_wordHere N m = some (nI (if 2 ≤ tkn B q e ∧ tkn B q e ≤ 7 then 98 + tkn B q e else 0), m) := by
  unfold f_X9_wordHere
  simp only [mw t (z := 0) (by decide) (show (230433031 : Int64) = lN (wcd 0) by rw [wcd_v 0 (by decide)]; rfl), mw t (z := 1) (by decide) (show (283288069 : Int64) = lN (wcd 1) by rw [wcd_v 1 (by decide)]; rfl), mw t (z := 2) (by decide) (show (923 : Int64) = lN (wcd 2) by rw [wcd_v 2 (by decide)]; rfl), mw t (z := 3) (by decide) (show (377771 : Int64) = lN (wcd 3) by rw [wcd_v 3 (by decide)]; rfl), mw t (z := 4) (by decide) (show (4562600 : Int64) = lN (wcd 4) by rw [wcd_v 4 (by decide)]; rfl), mw t (z := 5) (by decide) (show (12588757 : Int64) = lN (wcd 5) by rw [wcd_v 5 (by decide)]; rfl), bnd_s, ite_d]
  have tb := tkn_b (B := B) (q := q) e
  generalize tkn B q e = T at *
  by_cases z : 2 ≤ T ∧ T ≤ 7
  · have cs : T = 2 ∨ T = 3 ∨ T = 4 ∨ T = 5 ∨ T = 6 ∨ T = 7 := by omega
    rcases cs with rfl | rfl | rfl | rfl | rfl | rfl <;> rfl
  · rw [if_neg z, if_neg (by omega), if_neg (by omega), if_neg (by omega), if_neg (by omega), if_neg (by omega), if_neg (by omega)]; rfl
theorem val {cs ss w op st lf sg nu : Nat} {tc ts : Nat → Nat → Nat} {W : Nat → Nat} (tp : TAP c0 m0 q B) (C : CIr c0 c e cs ss w op st lf sg nu tc ts W) (hn : nu < 1000) (hst : st = 1 ∨ st = 4) (hT : st = 1 → tkn B q e ≠ 13 ∧ tkn B q e ≠ 14) (hj : j ≤ e) (he : e ≤ q) (F : MFr m0 m) (g : rI m 61 22 = -1) (t : MT m q B e) {x : Nat} (h27 : rI m 61 27 = nI x) (hx : x ≤ 203) (hN : 1000 ≤ N) : ∃ m2, f_X9_wantValue N m = some ((), m2) ∧ rI m2 61 27 = nI (x + 1) ∧ (∀ o k, ¬ (o = 61 ∧ (18 ≤ k ∧ k ≤ 22 ∨ k = 27)) → ¬ (o = 73 ∧ k = x) → rI m2 o k = rI m o k) ∧ (∀ o k, ¬ (o = 61 ∧ k = 21) → rL m2 o k = rL m o k) ∧ ((∃ tt nu2 e2 j2 c2 st2, 1 ≤ tt ∧ tt ≤ 8 ∧ nu2 < 1000 ∧ e < e2 ∧ e2 ≤ q ∧ j < j2 ∧ j2 ≤ e2 ∧ CIr c0 c2 e2 cs ss w op st2 lf sg nu2 tc ts W ∧ (∀ c3, f_X7_isValueTold N (nI tt) c2 = some (true, c3) → CLr N j c = CLr N j2 c3) ∧ rI m2 61 22 = -1 ∧ MT m2 q B e2 ∧ rI m2 73 x = nI (sgnV (tt * 1000 + nu2))) ∨ ∃ p c', CLr N j c = some (nI p, c') ∧ CBr c0 c' ∧ rI m2 61 22 = nI p ∧ p ≤ 200) := by
  have hq := tp.1
  have tb := tkn_b (B := B) (q := q) e
  have pb := plc_b (B := B) he
  obtain ⟨c2, k1, k2, k3⟩ := cl_step (N := N) tp C he hj hN
  have nl : (if tkn B q e = 1 then nmb B q e else nu) < 1000 := by
    by_cases z : tkn B q e = 1
    · rw [if_pos z]; exact (nmb_b z).1
    · rw [if_neg z]; exact hn
  have k7 : rI c2 36 7 = nI st := k2.2.2.2.2.2.2.1
  have wh := m_wordHere (N := N) t
  -- the class's fault
  have flt : (tkn B q e = 0 ∨ 8 < tkn B q e) → CLr N j c = some (nI (tkF B q e), c2) := by
    intro hx8
    rw [k3]
    by_cases z : tkn B q e = 0
    · rw [if_pos z, cl_f0 k7 (by omega) (by omega), k1]
    · rw [if_neg z, acc_14 k7 hst tb hT (vb_x hx8 tb), bnd_s]
      unfold KA
      rw [if_neg (by decide), k1]
  unfold f_X9_wantValue
  rw [wh, bnd_s]
  by_cases z1 : 2 ≤ tkn B q e ∧ tkn B q e ≤ 7
  · have nb := tnx_b he (show tkn B q e ≠ 0 by omega)
    have Fe : MFr m0 (wI (wI m 73 x (nI (98 + tkn B q e))) 61 27 (nI (x + 1))) := F.of (fun o k w1 w2 => by rw [rI_w, if_neg (by omega), rI_ne (by omega)]) (fun o k _ => rfl)
    have te : MT (wI (wI m 73 x (nI (98 + tkn B q e))) 61 27 (nI (x + 1))) q B e := t.keep (fun k w1 w2 => by rw [rI_w, if_neg (by omega), rI_ne (by omega)]) rfl
    obtain ⟨m2, e1, e2, e3, e4⟩ := m_advn (N := N) (Fe.tap tp) te nb.2 hN
    rw [if_pos z1, lek0 (by omega), if_neg (by omega), m_emit h27 (by omega), bnd_s, e1, bnd_s]
    refine ⟨m2, rfl, by rw [e3 _ _ (by omega), rI_w, if_pos ⟨rfl, rfl⟩], fun o k w1 w2 => by rw [e3 _ _ (by omega), rI_w, if_neg (by omega), rI_w, if_neg w2], fun o k w1 => by rw [e4 _ _ w1]; rfl, Or.inl ⟨tkn B q e, _, tnx B q e, j + 1, c2, st, by omega, by omega, nl, nb.1, nb.2, by omega, by omega, k2, fun c3 h3 => ?_, ?_, e2, ?_⟩⟩
    · rw [k3, if_neg (by omega), acc_14 k7 hst tb hT (vb_7 (by omega) z1.2 h3), bnd_s]
      unfold KA
      rw [if_pos rfl]
    · rw [e3 _ _ (by omega), rI_w, if_neg (by omega), rI_ne (by decide)]; exact g
    · rw [e3 _ _ (by omega), rI_ne (by decide), rI_w, if_pos ⟨rfl, rfl⟩]
      congr 1
      unfold sgnV
      rw [show (tkn B q e * 1000 + (if tkn B q e = 1 then nmb B q e else nu)) / 1000 = tkn B q e by omega, if_neg (by omega), if_neg (by omega)]
  · rw [if_neg z1, show (if nI 0 ≤ 0 then _ else _) = _ from if_pos (by decide), mw t (z := 6) (by decide) (show (10256063 : Int64) = lN (wcd 6) by rw [wcd_v 6 (by decide)]; rfl), bnd_s, ite_d]
    by_cases z8 : tkn B q e = 6 + 2
    · have nb := tnx_b he (show tkn B q e ≠ 0 by omega)
      obtain ⟨m1, e1, e2, e3, e4⟩ := m_advn (N := N) (F.tap tp) t nb.2 hN
      have F1 : MFr m0 m1 := F.of (fun o k w1 w2 => e3 o k (by omega)) e4
      have g1 : rI m1 61 22 = -1 := by rw [e3 _ _ (by omega)]; exact g
      have h271 : rI m1 61 27 = nI x := by rw [e3 _ _ (by omega)]; exact h27
      have tb1 := tkn_b (B := B) (q := q) (tnx B q e)
      have pb1 := plc_b (B := B) nb.2
      obtain ⟨y1, y2, y3, y4, y5, y6, y7⟩ := k2.w36 (c2 := c2) (fun _ => rfl)
      have C2 : CIr c0 (wI c2 36 7 2) (tnx B q e) cs ss w op 2 lf sg (if tkn B q e = 1 then nmb B q e else nu) tc ts W := k2.c36 (fun o k hk => rI_ne hk) (by rw [rI_w, if_neg (by omega)]; exact y1) (by rw [rI_w, if_neg (by omega)]; exact y2) (by rw [rI_w, if_neg (by omega)]; exact y3) (by rw [rI_w, if_pos ⟨rfl, rfl⟩]; rfl) (by rw [rI_w, if_neg (by omega)]; exact y5) (by rw [rI_w, if_neg (by omega)]; exact y6) (by rw [rI_w, if_neg (by omega)]; exact y7)
      obtain ⟨c4, l1, l2, l3⟩ := cl_step (N := N) (j := j + 1) tp C2 nb.2 (by omega) hN
      have l7 : rI c4 36 7 = nI 2 := l2.2.2.2.2.2.2.1
      have go : CLr N j c = CLr N (j + 1) (wI c2 36 7 2) := by
        have v8 : f_X7_isValueBegun N (nI (tkn B q e)) c2 = some (true, wI c2 36 7 2) := by rw [z8]; exact vb_8
        rw [k3, if_neg (by omega), acc_14 k7 hst tb hT v8, bnd_s]
        unfold KA
        rw [if_pos rfl]
      have nl1 : (if tkn B q (tnx B q e) = 1 then nmb B q (tnx B q e) else (if tkn B q e = 1 then nmb B q e else nu)) < 1000 := by
        by_cases z : tkn B q (tnx B q e) = 1
        · rw [if_pos z]; exact (nmb_b z).1
        · rw [if_neg z]; exact nl
      rw [if_pos z8, e1, bnd_s, mn e2 nb.2 hq]
      by_cases w1 : tkn B q (tnx B q e) = 1
      · have nb1 := tnx_b nb.2 (show tkn B q (tnx B q e) ≠ 0 by omega)
        obtain ⟨n1, -, -, -⟩ := nmb_b w1
        obtain ⟨m2, f1, f2, f3, f4⟩ := m_advn (N := N) (F1.tap tp) e2 nb1.2 hN
        have h272 : rI m2 61 27 = nI x := by rw [f3 _ _ (by omega)]; exact h271
        rw [if_pos w1, want_g g1, f1, bnd_s, bnd_s, bnd_s, show (1000 + nI (nmb B q (tnx B q e)) : Int32) = nI (1000 + nmb B q (tnx B q e)) from nI_add 1000 _, m_emit h272 (by omega), bnd_s]
        refine ⟨_, rfl, by rw [rI_w, if_pos ⟨rfl, rfl⟩], fun o k w3 w4 => by rw [rI_w, if_neg (by omega), rI_w, if_neg w4, f3 _ _ (by omega), e3 _ _ (by omega)], fun o k w3 => by rw [rL_wI, rL_wI, f4 _ _ w3, e4 _ _ w3], Or.inl ⟨8, _, tnx B q (tnx B q e), j + 1 + 1, c4, 2, by decide, by decide, nl1, by omega, nb1.2, by omega, by omega, l2, fun c3 h3 => ?_, ?_, ?_, ?_⟩⟩
        · rw [go, l3, if_neg (by omega), acc_2 l7 tb1, if_pos w1, h3, bnd_s, if_pos rfl, bnd_s]
          unfold KA
          rw [if_pos rfl]
        · rw [rI_w, if_neg (by omega), rI_ne (by decide), f3 _ _ (by omega)]; exact g1
        · exact f2.keep (fun k w3 w4 => by rw [rI_w, if_neg (by omega), rI_ne (by decide)]) rfl
        · rw [rI_ne (by decide), rI_w, if_pos ⟨rfl, rfl⟩, if_pos w1]
          congr 1
          unfold sgnV
          rw [if_neg (by omega), if_pos (by omega)]; omega
      · rw [if_neg w1, want_f g1, bnd_s, bnd_s, m_emit (x := x) (by rw [rI_w, if_neg (by omega)]; exact h271) (by omega), bnd_s]
        refine ⟨_, rfl, by rw [rI_w, if_pos ⟨rfl, rfl⟩], fun o k w3 w4 => by rw [rI_w, if_neg (by omega), rI_w, if_neg w4, rI_w, if_neg (by omega), e3 _ _ (by omega)], fun o k w3 => by rw [rL_wI, rL_wI, rL_wI, e4 _ _ w3], Or.inr ⟨tkF B q (tnx B q e), c4, ?_, l2.cb nl1, by rw [rI_w, if_neg (by omega), rI_ne (by decide), rI_w, if_pos ⟨rfl, rfl⟩, e2.1], by omega⟩⟩
        rw [go, l3]
        by_cases w2 : tkn B q (tnx B q e) = 0
        · rw [if_pos w2, cl_f0 l7 (by decide) (by decide), l1]
        · rw [if_neg w2, acc_2 l7 tb1, if_neg w1, bnd_s]
          unfold KA
          rw [if_neg (by decide), l1]
    · rw [if_neg z8, mn t he hq]
      by_cases w1 : tkn B q e = 1
      · have nb := tnx_b he (show tkn B q e ≠ 0 by omega)
        obtain ⟨n1, -, -, -⟩ := nmb_b w1
        obtain ⟨m2, f1, f2, f3, f4⟩ := m_advn (N := N) (F.tap tp) t nb.2 hN
        have h272 : rI m2 61 27 = nI x := by rw [f3 _ _ (by omega)]; exact h27
        rw [if_pos w1, want_g g, f1, bnd_s, bnd_s, bnd_s, show (3000 + nI (nmb B q e) : Int32) = nI (3000 + nmb B q e) from nI_add 3000 _, m_emit h272 (by omega), bnd_s]
        refine ⟨_, rfl, by rw [rI_w, if_pos ⟨rfl, rfl⟩], fun o k w3 w4 => by rw [rI_w, if_neg (by omega), rI_w, if_neg w4, f3 _ _ (by omega)], fun o k w3 => by rw [rL_wI, rL_wI, f4 _ _ w3], Or.inl ⟨tkn B q e, _, tnx B q e, j + 1, c2, st, by omega, by omega, nl, nb.1, nb.2, by omega, by omega, k2, fun c3 h3 => ?_, ?_, ?_, ?_⟩⟩
        · rw [k3, if_neg (by omega), acc_14 k7 hst tb hT (vb_7 (by omega) (by omega) h3), bnd_s]
          unfold KA
          rw [if_pos rfl]
        · rw [rI_w, if_neg (by omega), rI_ne (by decide), f3 _ _ (by omega)]; exact g
        · exact f2.keep (fun k w3 w4 => by rw [rI_w, if_neg (by omega), rI_ne (by decide)]) rfl
        · rw [rI_ne (by decide), rI_w, if_pos ⟨rfl, rfl⟩, if_pos w1, w1]
          congr 1
          unfold sgnV
          rw [if_pos (by omega)]; omega
      · rw [if_neg w1, want_f g, bnd_s, bnd_s, m_emit (x := x) (by rw [rI_w, if_neg (by omega)]; exact h27) (by omega), bnd_s]
        exact ⟨_, rfl, by rw [rI_w, if_pos ⟨rfl, rfl⟩], fun o k w3 w4 => by rw [rI_w, if_neg (by omega), rI_w, if_neg w4, rI_w, if_neg (by omega)], fun o k w3 => by rw [rL_wI, rL_wI, rL_wI], Or.inr ⟨tkF B q e, c2, flt (by omega), k2.cb nl, by rw [rI_w, if_neg (by omega), rI_ne (by decide), rI_w, if_pos ⟨rfl, rfl⟩, t.1], by omega⟩⟩
end VAL
