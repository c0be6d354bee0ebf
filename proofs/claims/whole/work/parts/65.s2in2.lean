-- in a clause: settling on the class's side, closing
theorem pos_joints {t : Nat → Nat → Nat} {a : Nat} : ∀ i, (∀ r, a ≤ r → r < a + i → joint (t r 0) = true) → pos t (a + i) = pos t a + i := by
  intro i
  induction i with
  | zero => intro _; rfl
  | succ i ih =>
    intro h
    rw [← Nat.add_assoc, pos, if_pos (h (a + i) (by omega) (by omega)), ih (fun r h1 h2 => h r h1 (by omega))]
    omega
theorem joint_of {x : Nat} (h : 11 ≤ x) (h2 : x ≤ 13) : joint x = true := by
  have cs : x = 11 ∨ x = 12 ∨ x = 13 := by omega
  rcases cs with rfl | rfl | rfl <;> rfl
section INS2
variable {N : Nat} {c m c0 m0 : Mem} {q e em n tk j op st tok : Nat} {B : Nat → Nat}
theorem STL_at {ss w : Nat} {W : Nat → Nat} {ts : Nat → Nat → Nat} {i : Nat} : STL ss w W ts (ss + i) 0 = W (w - 1 - i) := by
  unfold STL
  rw [if_neg (by omega), if_pos rfl, Nat.add_sub_cancel_left]
theorem dp_STL {ss w a : Nat} {W : Nat → Nat} {ts : Nat → Nat → Nat} (ha : a ≤ ss) (h0 : dp ts a (ss - a) = ctb W w + 2) : ∀ i, i ≤ w → (∀ k, w - i ≤ k → k < w → 11 ≤ W k ∧ W k ≤ 13) → dp (STL ss w W ts) a (ss + i - a) = ctb W (w - i) + 2 := by
  intro i
  induction i with
  | zero =>
    intro _ _
    rw [Nat.add_zero, Nat.sub_zero, ← h0]
    refine dp_c (t := ts) (u := STL ss w W ts) _ (fun r hr => ?_)
    unfold STL
    rw [if_pos (by omega)]
  | succ i ih =>
    intro h1 h2
    have h3 := ih (by omega) (fun k h4 h5 => h2 k (by omega) h5)
    obtain ⟨x1, x2⟩ := h2 (w - (i + 1)) (by omega) (by omega)
    have e1 : w - i = (w - (i + 1)) + 1 := by omega
    have eb : ctb W (w - i) = ctb W (w - (i + 1)) + (if W (w - (i + 1)) = 11 ∨ W (w - (i + 1)) = 12 then 1 else 0) := by rw [e1, ctb]
    have et : STL ss w W ts (a + (ss + i - a)) 0 = W (w - (i + 1)) := by rw [show a + (ss + i - a) = ss + i by omega, STL_at, show w - 1 - i = w - (i + 1) by omega]
    rw [show ss + (i + 1) - a = (ss + i - a) + 1 by omega, dp, h3, et, if_neg (by omega)]
    rw [eb]
    by_cases z : W (w - (i + 1)) = 13
    · rw [if_pos z, if_pos (by omega), if_neg (by omega)]
    · rw [if_neg z, if_pos (joint_of x1 x2), if_pos (show W (w - (i + 1)) = 11 ∨ W (w - (i + 1)) = 12 by omega), if_pos (by omega)]; omega
theorem IN.settleC (I : IN c0 m0 q B n tk e em j op 5 tok c m) (ht : 11 ≤ tok) (ht2 : tok ≤ 13) (hN : 1000 ≤ N) : ∃ c2, f_X7_settle N (nI tok) c = some ((), c2) ∧ IN c0 m0 q B n tk e em j op 5 (100 + tok) c2 m ∧ ∀ k, rI c2 36 k = rI c 36 k := by
  obtain ⟨ss, w, h, x, lf, nu, tc, ts, W, C, ⟨b1, b2, b3, b4, b5, b6, b7, b8, b9, b10, b11, b12⟩, ⟨w1, w2⟩, ⟨t1, t2, t3, t4⟩, ⟨p1, p2, p3⟩, ⟨f1, f2, f3, f4, f5⟩, ⟨s1, s2⟩, dn⟩ := I
  obtain ⟨q1, q2⟩ := p2 (by omega) (by omega)
  have er : tpc (stPr W tok) w = w - h := by
    rw [tpc_add (stPr W tok) w (w - h) (by omega) (fun i h1 h2 => q1 i (by omega) h2), show w - (w - h) = h by omega]
    rcases q2 with z | z
    · rw [z, tpc, Nat.sub_zero, Nat.add_zero]
    · by_cases y : h = 0
      · rw [y, tpc, Nat.sub_zero, Nat.add_zero]
      · rw [show h = (h - 1) + 1 by omega, tpc, z, if_neg (by decide), Nat.add_zero]
  obtain ⟨c2, e1, e2, e3⟩ := c_settle (N := N) C (tok := tok) (by omega) (by omega) hN (by omega) (fun i hi => (w1 i hi).2)
  rw [er, show w - (w - h) = h by omega] at e2
  have jn : ∀ i, i < w - h → 11 ≤ W (w - 1 - i) ∧ W (w - 1 - i) ≤ 13 := fun i hi => by
    have a1 := of_decide_eq_true (q1 (w - 1 - i) (by omega) (by omega))
    have a2 := w1 (w - 1 - i) (by omega)
    omega
  have old : ∀ r k, r < ss → STL ss w W ts r k = ts r k := fun r k hr => by unfold STL; rw [if_pos hr]
  have pss : pos (STL ss w W ts) ss = pos ts ss := pos_c _ (fun r hr => old r 0 hr)
  have pj : ∀ i, i ≤ w - h → pos (STL ss w W ts) (ss + i) = pos ts ss + i := fun i hi => by
    rw [pos_joints i (fun r h1 h2 => ?_), pss]
    rw [show r = ss + (r - ss) by omega, STL_at]
    have := jn (r - ss) (by omega)
    exact joint_of this.1 this.2
  have dpE := dp_STL (W := W) (w := w) t3 (by rw [t4, if_pos rfl]) (w - h) (by omega) (fun k h1 h2 => by
    have := jn (w - 1 - k) (by omega)
    rw [show w - 1 - (w - 1 - k) = k by omega] at this
    exact this)
  refine ⟨c2, e1, ⟨ss + (w - h), h, h, x, lf, nu, tc, STL ss w W ts, W, e2, ⟨b1, b2, b3, b4, b5, by omega, b7, b8, b9, b10, Nat.le_refl _, by rw [pj _ (Nat.le_refl _)]; omega⟩, ⟨fun i hi => w1 i (by omega), ?_⟩, ⟨t1, t2, by omega, ?_⟩, ⟨fun y => absurd y (by omega), fun _ y => absurd y (by omega), fun _ => ⟨rfl, ?_⟩⟩, ⟨f1, f2, f3, f4, f5⟩, ⟨s1, fun i hi => absurd hi (by omega)⟩, ?_⟩, e3⟩
  · rw [w2]
    exact cto_up w h b11 (fun i h1 h2 => (of_decide_eq_true (q1 i h1 h2)).1)
  · rw [dpE, if_pos rfl, show w - (w - h) = h by omega]
  · rw [Nat.add_sub_cancel_left]; exact q2
  · refine dn.keep old (fun _ _ => rfl) (fun _ _ => ⟨rfl, rfl⟩) (by omega) (fun k h1 h2 => ?_)
    have jk := jn (k - ss) (by omega)
    have ek : STL ss w W ts k 0 = W (w - 1 - (k - ss)) := by rw [show k = ss + (k - ss) by omega, STL_at, show ss + (k - ss) - ss = k - ss by omega]
    refine ⟨Or.inl (by rw [ek]; exact joint_of jk.1 jk.2), ?_⟩
    unfold LYk
    rw [ek, if_pos (joint_of jk.1 jk.2), show k = ss + (k - ss) by omega, pj (k - ss) (by omega), s2 _ (by omega), show ss + (k - ss) - ss = k - ss by omega]
theorem IN.none (I : IN c0 m0 q B n tk e em j op st tok c m) (h : 100 ≤ tok) : IN c0 m0 q B n tk e em j op st 0 c m := by
  obtain ⟨ss, w, h, x, lf, nu, tc, ts, W, C, b, iw, it, ⟨p1, p2, p3⟩, im, is, dn⟩ := I
  exact ⟨ss, w, h, x, lf, nu, tc, ts, W, C, b, iw, it, ⟨fun _ => (p3 (by omega)).1, fun y => absurd y (by decide), fun y => absurd y (by decide)⟩, im, is, dn⟩
theorem stPr_14 {W : Nat → Nat} {i : Nat} (h : stPr W 11 i = false) (h2 : 11 ≤ W i) : W i = 14 := by
  by_cases z : W i = 14
  · exact z
  · have : stPr W 11 i = true := decide_eq_true ⟨z, h2⟩
    rw [this] at h; cases h
/-- the "(" that waits is taken away on both sides -/
theorem IN.close (I : IN c0 m0 q B n tk e em j op 5 111 c m) (ho : 0 < op) : ∃ c2, (bnd (f_X3_pop N 41 c) fun _ s2 => lt (wI s2 36 8 (rI s2 36 8 - 1)) fun s3 => some (true, s3)) = some (true, c2) ∧ IN c0 m0 q B n tk e em j (op - 1) 5 0 c2 (wI m 61 28 (rI m 61 28 - 1)) := by
  obtain ⟨ss, w, h, x, lf, nu, tc, ts, W, C, ⟨b1, b2, b3, b4, b5, b6, b7, b8, b9, b10, b11, b12⟩, ⟨w1, w2⟩, ⟨t1, t2, t3, t4⟩, ⟨p1, p2, p3⟩, ⟨f1, f2, f3, f4, f5⟩, ⟨s1, s2⟩, dn⟩ := I
  obtain ⟨hw, p4⟩ := p3 (by decide)
  subst hw
  have h0 : h ≠ 0 := fun z => by rw [z, cto] at w2; omega
  obtain ⟨h, rfl⟩ := suc_of (show 0 < h by omega)
  have top : W h = 14 := stPr_14 (p4.resolve_left h0) (w1 h (by omega)).1
  obtain ⟨c1, e1, e2, e3⟩ := c_pop (N := N) C (by omega)
  have C8 : rI c1 36 8 = nI op := e2.2.2.2.2.2.1
  obtain ⟨g1, g2, g3, g4, g5, g6, g7⟩ := e2.w36 (c2 := c1) (fun _ => rfl)
  have X28 : rI m 61 28 - 1 = nI h := by rw [f5, nI_pred]
  have o1 : nI op - 1 = nI (op - 1) := pk_sub (b := 1) (by omega)
  refine ⟨wI c1 36 8 (nI (op - 1)), by rw [e1, bnd_s, lt_e, C8, o1], ss, h, h, x, lf, nu, tc, ts, W, e2.c36 (fun o k hk => rI_ne hk) (by rw [rI_w, if_neg (by omega)]; exact g1) (by rw [rI_w, if_neg (by omega)]; exact g2) (by rw [rI_w, if_pos ⟨rfl, rfl⟩]) (by rw [rI_w, if_neg (by omega)]; exact g4) (by rw [rI_w, if_neg (by omega)]; exact g5) (by rw [rI_w, if_neg (by omega)]; exact g6) (by rw [rI_w, if_neg (by omega)]; exact g7), ⟨b1, b2, b3, b4, b5, by omega, by omega, by omega, b9, b10, Nat.le_refl _, by omega⟩, ⟨fun i hi => w1 i (by omega), ?_⟩, ⟨t1, t2, t3, ?_⟩, ⟨fun _ => rfl, fun y => absurd y (by decide), fun y => absurd y (by decide)⟩, ⟨f1.of (fun o k y1 y2 => by rw [rI_w, if_neg (by omega)]) (fun o k _ => rfl), by rw [rI_w, if_neg (by omega)]; exact f2, f3.keep (fun k y1 y2 => by rw [rI_w, if_neg (by omega)]) rfl, by rw [rI_w, if_neg (by omega)]; exact f4, by rw [rI_w, if_pos ⟨rfl, rfl⟩, X28]⟩, ⟨fun i hi => by rw [rI_ne (by decide)]; exact s1 i (by omega), fun i hi => absurd hi (by omega)⟩, ?_⟩
  · rw [w2, cto, if_pos top]; rfl
  · rw [t4, ctb, if_neg (by omega)]
  · exact dn.keep (fun _ _ _ => rfl) (fun i _ => rI_ne (by decide)) (fun r _ => ⟨rI_ne (by decide), rI_ne (by decide)⟩) (Nat.le_refl _) (fun k y1 y2 => absurd y1 (by omega))
end INS2
