-- a question: both sides
section ASK
variable {N : Nat} {c m c0 m0 : Mem} {q e j : Nat} {B : Nat → Nat}
theorem isMark_any (a : Int32) : ∃ b, f_X9_isMark N a m = some (b, m) := by
  unfold f_X9_isMark
  split
  · split
    · exact ⟨true, rfl⟩
    · exact ⟨false, rfl⟩
  · exact ⟨false, rfl⟩
theorem j47_b {p : Nat} (h : rI m 61 22 = nI p) (hp : p ≤ 200) (v : Int32) : f_X9_wantAsk_j47 N v m = some ((), m) := by
  unfold f_X9_wantAsk_j47 f_X9_wantAsk_j58
  rw [want_b h hp, want_b h hp, bnd_s, good_f h hp, bnd_s, ite_F]
  split <;> rfl
theorem ask_b {p : Nat} (h : rI m 61 22 = nI p) (hp : p ≤ 200) : (bnd (f_X9_isMark N 60 m) fun r2 s2 => if r2 = true then f_X9_wantAsk_j47 N 15 s2 else bnd (f_X9_isMark N 61 s2) fun r3 s3 => if r3 = true then f_X9_wantAsk_j47 N 16 s3 else bnd (f_X9_isMark N 62 s3) fun r4 s4 => if r4 = true then f_X9_wantAsk_j47 N 17 s4 else f_X9_wantAsk_j47 N 0 s4) = some ((), m) := by
  obtain ⟨b1, e1⟩ := isMark_any (N := N) (m := m) 60
  obtain ⟨b2, e2⟩ := isMark_any (N := N) (m := m) 61
  obtain ⟨b3, e3⟩ := isMark_any (N := N) (m := m) 62
  have J := fun v => j47_b (N := N) h hp v
  rw [e1, bnd_s, e2, bnd_s, e3, bnd_s, J, J, J, J]
  repeat' split
  all_goals rfl
theorem ask_mk (tp : TAP c m q B) (he : e ≤ q) (t : MT m q B e) : (bnd (f_X9_isMark N 60 m) fun r2 s2 => if r2 = true then f_X9_wantAsk_j47 N 15 s2 else bnd (f_X9_isMark N 61 s2) fun r3 s3 => if r3 = true then f_X9_wantAsk_j47 N 16 s3 else bnd (f_X9_isMark N 62 s3) fun r4 s4 => if r4 = true then f_X9_wantAsk_j47 N 17 s4 else f_X9_wantAsk_j47 N 0 s4) = f_X9_wantAsk_j47 N (nI (if 16 ≤ tkn B q e ∧ tkn B q e ≤ 18 then tkn B q e - 1 else 0)) m := by
  have k60 : f_X9_isMark N 60 m = some (decide (tkn B q e = 16), m) := mm tp he t (y := 3) (by decide)
  have k61 : f_X9_isMark N 61 m = some (decide (tkn B q e = 17), m) := mm tp he t (y := 4) (by decide)
  have k62 : f_X9_isMark N 62 m = some (decide (tkn B q e = 18), m) := mm tp he t (y := 5) (by decide)
  rw [k60, bnd_s, k61, bnd_s, k62, bnd_s, ite_d, ite_d, ite_d]
  generalize tkn B q e = T at *
  by_cases z : 16 ≤ T ∧ T ≤ 18
  · have cs : T = 16 ∨ T = 17 ∨ T = 18 := by omega
    rcases cs with rfl | rfl | rfl <;> rfl
  · rw [if_neg z, if_neg (by omega), if_neg (by omega), if_neg (by omega)]; rfl
theorem told_s {cs ss w op st lf sg nu : Nat} {tc ts : Nat → Nat → Nat} {W : Nat → Nat} (C : CIr c0 c e cs ss w op st lf sg nu tc ts W) (hs : ss < 200) (h0 : sg ≠ 0) (h2 : sg ≤ 20) (x : Nat) (hN : 1000 ≤ N) : ∃ c3, f_X7_isValueTold N (nI x) c = some (true, c3) ∧ CIr c0 c3 e cs (ss + 1) w op 5 lf 0 nu tc (adS ss sg lf (x * 1000 + nu) ts) W := by
  obtain ⟨y1, y2, y3, y4, y5, y6, y7⟩ := C.w36 (c2 := c) (fun _ => rfl)
  obtain ⟨c2, e1, e2, e3⟩ := c_addStep (N := N) C hs sg lf (x * 1000 + nu) hN
  obtain ⟨z1, z2, z3, z4, z5, z6, z7⟩ := C.w36 (c2 := c2) e3
  refine ⟨wI (wI c2 36 10 0) 36 7 5, ?_, e2.c36 (fun o k hk => by rw [rI_ne hk, rI_ne hk]) (by rw [rI_w, if_neg (by omega), rI_w, if_neg (by omega)]; exact z1) (by rw [rI_w, if_neg (by omega), rI_w, if_neg (by omega)]; exact z2) (by rw [rI_w, if_neg (by omega), rI_w, if_neg (by omega)]; exact z3) (by rw [rI_w, if_pos ⟨rfl, rfl⟩]; rfl) (by rw [rI_w, if_neg (by omega), rI_w, if_neg (by omega)]; exact z5) (by rw [rI_w, if_neg (by omega), rI_w, if_pos ⟨rfl, rfl⟩]; rfl) (by rw [rI_w, if_neg (by omega), rI_w, if_neg (by omega)]; exact z7)⟩
  unfold f_X7_isValueTold
  rw [y6, ek0 (by omega), if_neg h0, y5, y7, show (nI x * 1000 : Int32) = nI (x * 1000) from pk_mul x 1000, nI_add, e1, bnd_s, lt_e, lt_e]
theorem ask {n tk op : Nat} (tp : TAP c0 m0 q B) (I : IN c0 m0 q B n tk e e j op 1 0 c m) (h13 : tkn B q e ≠ 13) (h14 : tkn B q e ≠ 14) (hN : 1000 ≤ N) : ∃ m2, f_X9_wantAsk N m = some ((), m2) ∧ ((∃ c' e' j', e < e' ∧ CLr N j c = CLr N j' c' ∧ IN c0 m0 q B n tk e' e' j' op 5 0 c' m2) ∨ OUTB N j c0 m0 c m2) := by
  obtain ⟨ss, w, h, x, lf, nu, tc, ts, W, C, ⟨b1, b2, b3, b4, b5, b6, b7, b8, b9, b10, b11, b12⟩, ⟨w1, w2⟩, ⟨t1, t2, t3, t4⟩, pn, ⟨f1, f2, f3, f4, f5⟩, ⟨s1, s2⟩, dn⟩ := I
  have hw : h = w := pn.1 rfl
  subst hw
  have hq := tp.1
  obtain ⟨m1, e1, e27, eM, eL, out⟩ := val (N := N) tp C b1 (Or.inl rfl) (fun _ => ⟨h13, h14⟩) b2 b4 f1 f2 f3 f4 (by omega) hN
  have F1 : MFr m0 m1 := f1.of (fun o k y1 y2 => eM o k (by omega) (by omega)) eL
  have e28 : rI m1 61 28 = nI h := by rw [eM _ _ (by omega) (by omega)]; exact f5
  unfold f_X9_wantAsk
  rw [e1, bnd_s]
  rcases out with ⟨tt, nu1, e2, j2, c2, st2, a1, a2, a3, a4, a5, a6, a7, C2, go, g1, M1, v1⟩ | ⟨p, c', k1, k2, k3, k4⟩
  · have d10 : rI c2 36 10 = nI 0 := C2.2.2.2.2.2.2.2.2.1
    have d6 : rI c2 36 6 = nI nu1 := C2.2.2.2.2.2.2.2.2.2
    have go1 := go _ (told_0 (N := N) (lf := lf) d10 d6)
    obtain ⟨y1, y2, y3, y4, y5, y6, y7⟩ := C2.w36 (c2 := c2) (fun _ => rfl)
    have C3 : CIr c0 (wI (wI c2 36 9 (nI (tt * 1000 + nu1))) 36 7 3) e2 (n + 1) ss h op 3 (tt * 1000 + nu1) 0 nu1 tc ts W := C2.c36 (fun o k hk => by rw [rI_ne hk, rI_ne hk]) (by rw [rI_w, if_neg (by omega), rI_w, if_neg (by omega)]; exact y1) (by rw [rI_w, if_neg (by omega), rI_w, if_neg (by omega)]; exact y2) (by rw [rI_w, if_neg (by omega), rI_w, if_neg (by omega)]; exact y3) (by rw [rI_w, if_pos ⟨rfl, rfl⟩]; rfl) (by rw [rI_w, if_neg (by omega), rI_w, if_pos ⟨rfl, rfl⟩]) (by rw [rI_w, if_neg (by omega), rI_w, if_neg (by omega)]; exact y6) (by rw [rI_w, if_neg (by omega), rI_w, if_neg (by omega)]; exact y7)
    obtain ⟨c4, l1, l2, l3⟩ := cl_step (N := N) tp C3 a5 a7 hN
    have l7 : rI c4 36 7 = nI 3 := l2.2.2.2.2.2.2.1
    have tb2 := tkn_b (B := B) (q := q) e2
    have pb2 := plc_b (B := B) a5
    have nl : (if tkn B q e2 = 1 then nmb B q e2 else nu1) < 1000 := by
      by_cases z : tkn B q e2 = 1
      · rw [if_pos z]; exact (nmb_b z).1
      · rw [if_neg z]; exact a3
    rw [ask_mk (F1.tap tp) a5 M1]
    unfold f_X9_wantAsk_j47 f_X9_wantAsk_j58
    by_cases z : 16 ≤ tkn B q e2 ∧ tkn B q e2 ≤ 18
    · have nb2 := tnx_b a5 (show tkn B q e2 ≠ 0 by omega)
      obtain ⟨m2, n1, n2, n3, n4⟩ := m_advn (N := N) (F1.tap tp) M1 nb2.2 hN
      have F2 : MFr m0 m2 := F1.of (fun o k y1 y2 => n3 o k (by omega)) n4
      have g2 : rI m2 61 22 = -1 := by rw [n3 _ _ (by omega)]; exact g1
      obtain ⟨z1, z2, z3, z4, z5, z6, z7⟩ := l2.w36 (c2 := c4) (fun _ => rfl)
      have C5 : CIr c0 (wI (wI c4 36 10 (nI (tkn B q e2))) 36 7 4) (tnx B q e2) (n + 1) ss h op 4 (tt * 1000 + nu1) (tkn B q e2) (if tkn B q e2 = 1 then nmb B q e2 else nu1) tc ts W := l2.c36 (fun o k hk => by rw [rI_ne hk, rI_ne hk]) (by rw [rI_w, if_neg (by omega), rI_w, if_neg (by omega)]; exact z1) (by rw [rI_w, if_neg (by omega), rI_w, if_neg (by omega)]; exact z2) (by rw [rI_w, if_neg (by omega), rI_w, if_neg (by omega)]; exact z3) (by rw [rI_w, if_pos ⟨rfl, rfl⟩]; rfl) (by rw [rI_w, if_neg (by omega), rI_w, if_neg (by omega)]; exact z5) (by rw [rI_w, if_neg (by omega), rI_w, if_pos ⟨rfl, rfl⟩]) (by rw [rI_w, if_neg (by omega), rI_w, if_neg (by omega)]; exact z7)
      have go2 : CLr N j c = CLr N (j2 + 1) (wI (wI c4 36 10 (nI (tkn B q e2))) 36 7 4) := by
        rw [go1, l3, if_neg (by omega), acc_3 l7 tb2, if_pos z, bnd_s]
        unfold KA
        rw [if_pos rfl]
      obtain ⟨m3, i1, i27, iM, iL, out2⟩ := val (N := N) (j := j2 + 1) (x := x + 1) tp C5 nl (Or.inr rfl) (fun y => absurd y (by decide)) (by omega) nb2.2 F2 g2 n2 (by rw [n3 _ _ (by omega)]; exact e27) (by omega) hN
      have F3 : MFr m0 m3 := F2.of (fun o k y1 y2 => iM o k (by omega) (by omega)) iL
      have i28 : rI m3 61 28 = nI h := by rw [iM _ _ (by omega) (by omega), n3 _ _ (by omega)]; exact e28
      have lk : ∀ X Y : Option (Unit × Mem), (if nI (if 16 ≤ tkn B q e2 ∧ tkn B q e2 ≤ 18 then tkn B q e2 - 1 else 0) ≤ 0 then X else Y) = Y := fun X Y => by rw [if_pos z, lek0 (by omega), if_neg (by omega)]
      rw [lk, if_pos z, want_g g1, n1, bnd_s, bnd_s, good_t g2, bnd_s, if_pos rfl, i1, bnd_s, m_emit i27 (by omega), bnd_s]
      have R4 : ∀ o k, ¬ (o = 61 ∧ k = 27) → ¬ (o = 73 ∧ k = x + 1 + 1) → rI (wI (wI m3 73 (x + 1 + 1) (nI (tkn B q e2 - 1))) 61 27 (nI (x + 1 + 1 + 1))) o k = rI m3 o k := fun o k y1 y2 => by rw [rI_w, if_neg y1, rI_w, if_neg y2]
      refine ⟨_, rfl, ?_⟩
      rcases out2 with ⟨tt2, nu2, e4, j4, c6, st6, r1, r2, r3, r4, r5, r6, r7, C6, go3, g3, M3, v3⟩ | ⟨p, c', k1, k2, k3, k4⟩
      · obtain ⟨c8, u1, u2⟩ := told_s (N := N) C6 (by omega) (by omega) (by omega) tt2 hN
        have bt := b12
        rw [Nat.sub_self, Nat.add_zero] at bt
        have old : ∀ r k, r < ss → adS ss (tkn B q e2) (tt * 1000 + nu1) (tt2 * 1000 + nu2) ts r k = ts r k := fun r k hr => by unfold adS; rw [if_neg (by omega)]
        have n0 : adS ss (tkn B q e2) (tt * 1000 + nu1) (tt2 * 1000 + nu2) ts ss 0 = tkn B q e2 := by unfold adS; rw [if_pos rfl, if_pos rfl]
        have nj : ¬ joint (tkn B q e2) = true := by
          unfold joint
          simp only [Bool.or_eq_true, beq_iff_eq]
          omega
        have pp : pos (adS ss (tkn B q e2) (tt * 1000 + nu1) (tt2 * 1000 + nu2) ts) ss = pos ts ss := pos_c _ (fun r hr => old r 0 hr)
        refine Or.inl ⟨c8, e4, j4, by omega, by rw [go2]; exact go3 c8 u1, ss + 1, h, h, x + 1 + 1 + 1, tt * 1000 + nu1, nu2, tc, _, W, u2, ⟨r3, r7, Nat.le_refl _, r5, b5, by omega, by omega, b8, b9, b10, Nat.le_refl _, ?_⟩, ⟨w1, w2⟩, ⟨t1, t2, by omega, ?_⟩, ⟨fun _ => rfl, fun y => absurd y (by decide), fun y => absurd y (by decide)⟩, ⟨F3.of (fun o k y1 y2 => R4 o k (by omega) (by omega)) (fun o k _ => rfl), by rw [R4 _ _ (by omega) (by omega)]; exact g3, M3.keep (fun k y1 y2 => R4 _ _ (by omega) (by omega)) rfl, by rw [rI_w, if_pos ⟨rfl, rfl⟩], by rw [R4 _ _ (by omega) (by omega)]; exact i28⟩, ⟨fun i hi => by rw [R4 _ _ (by omega) (by omega), iM _ _ (by omega) (by omega), n3 _ _ (by omega), eM _ _ (by omega) (by omega)]; exact s1 i hi, fun i hi => absurd hi (by omega)⟩, ?_⟩
        · rw [pos, pp, n0, if_neg nj]; omega
        · rw [show ss + 1 - tc n 1 = (ss - tc n 1) + 1 by omega, dp, dp_c (t := ts) (ss - tc n 1) (fun r hr => old r 0 (by omega)), t4, show tc n 1 + (ss - tc n 1) = ss by omega, n0, if_neg (by omega), if_neg (by omega), if_neg nj, if_pos rfl, if_neg (by decide)]
        · refine dn.keep old (fun i hi => by rw [R4 _ _ (by omega) (by omega), iM _ _ (by omega) (by omega), n3 _ _ (by omega), eM _ _ (by omega) (by omega)]) (fun r _ => ⟨by rw [R4 _ _ (by omega) (by omega), iM _ _ (by omega) (by omega), n3 _ _ (by omega), eM _ _ (by omega) (by omega)], by rw [R4 _ _ (by omega) (by omega), iM _ _ (by omega) (by omega), n3 _ _ (by omega), eM _ _ (by omega) (by omega)]⟩) (by omega) (fun k h1 h2 => ?_)
          have ek : k = ss := by omega
          subst ek
          have a1' : adS k (tkn B q e2) (tt * 1000 + nu1) (tt2 * 1000 + nu2) ts k 1 = tt * 1000 + nu1 := by unfold adS; rw [if_pos rfl, if_neg (by decide), if_pos rfl]
          have a2' : adS k (tkn B q e2) (tt * 1000 + nu1) (tt2 * 1000 + nu2) ts k 2 = tt2 * 1000 + nu2 := by unfold adS; rw [if_pos rfl, if_neg (by decide), if_neg (by decide)]
          refine ⟨Or.inr ?_, ?_⟩
          · unfold valOK
            rw [n0, a1', a2']; omega
          · unfold LYk
            rw [pp, n0, a1', a2', if_neg nj, ← bt]
            refine ⟨?_, ?_, ?_⟩
            · rw [R4 _ _ (by omega) (by omega), iM _ _ (by omega) (by omega), n3 _ _ (by omega)]; exact v1
            · rw [R4 _ _ (by omega) (by omega)]; exact v3
            · rw [rI_ne (by decide), rI_w, if_pos ⟨rfl, rfl⟩]; rfl
      · refine Or.inr ⟨p, c', by rw [go2]; exact k1, k2, F3.of (fun o k y1 y2 => R4 o k (by omega) (by omega)) (fun o k _ => rfl), by rw [R4 _ _ (by omega) (by omega)]; exact k3, k4, x + 1 + 1 + 1, h, by rw [rI_w, if_pos ⟨rfl, rfl⟩], by rw [R4 _ _ (by omega) (by omega)]; exact i28, by omega⟩
    · have lk : ∀ X Y : Option (Unit × Mem), (if nI (if 16 ≤ tkn B q e2 ∧ tkn B q e2 ≤ 18 then tkn B q e2 - 1 else 0) ≤ 0 then X else Y) = X := fun X Y => by rw [if_neg z]; exact if_pos (by decide)
      have gf : rI (wI m1 61 22 (rI m1 61 19)) 61 22 = nI (tkF B q e2) := by rw [rI_w, if_pos ⟨rfl, rfl⟩, M1.1]
      rw [lk, want_f g1, bnd_s, good_f gf (by omega), bnd_s, if_neg (by decide)]
      refine ⟨_, rfl, Or.inr ⟨tkF B q e2, c4, ?_, l2.cb nl, F1.of (fun o k y1 y2 => by rw [rI_w, if_neg (by omega)]) (fun o k _ => rfl), gf, by omega, x + 1, h, by rw [rI_w, if_neg (by omega)]; exact e27, by rw [rI_w, if_neg (by omega)]; exact e28, by omega⟩⟩
      rw [go1, l3]
      by_cases w2' : tkn B q e2 = 0
      · rw [if_pos w2', cl_f0 l7 (by decide) (by decide), l1]
      · rw [if_neg w2', acc_3 l7 tb2, if_neg z, bnd_s]
        unfold KA
        rw [if_neg (by decide), l1]
  · rw [ask_b k3 k4]
    exact ⟨m1, rfl, Or.inr ⟨p, c', k1, k2, F1, k3, k4, x + 1, h, e27, e28, by omega⟩⟩
end ASK
