-- in a clause: both sides
def cto (W : Nat → Nat) : Nat → Nat
  | 0 => 0
  | w + 1 => cto W w + (if W w = 14 then 1 else 0)
def ctb (W : Nat → Nat) : Nat → Nat
  | 0 => 0
  | w + 1 => ctb W w + (if W w = 11 ∨ W w = 12 then 1 else 0)
theorem cto_c {V W : Nat → Nat} : ∀ w, (∀ i, i < w → V i = W i) → cto V w = cto W w := by
  intro w
  induction w with
  | zero => intro _; rfl
  | succ w ih => intro h; rw [cto, cto, h w (by omega), ih (fun i hi => h i (by omega))]
theorem ctb_c {V W : Nat → Nat} : ∀ w, (∀ i, i < w → V i = W i) → ctb V w = ctb W w := by
  intro w
  induction w with
  | zero => intro _; rfl
  | succ w ih => intro h; rw [ctb, ctb, h w (by omega), ih (fun i hi => h i (by omega))]
theorem cto_up {W : Nat → Nat} : ∀ w h, h ≤ w → (∀ i, h ≤ i → i < w → W i ≠ 14) → cto W w = cto W h := by
  intro w
  induction w with
  | zero => intro h h1 _; rw [show h = 0 by omega]
  | succ w ih =>
    intro h h1 h2
    by_cases e : h = w + 1
    · rw [e]
    · rw [cto, if_neg (h2 w (by omega) (by omega)), Nat.add_zero]
      exact ih h (by omega) (fun i h3 h4 => h2 i h3 (by omega))
/-- what is pending -/
def PN (W : Nat → Nat) (h w tok : Nat) : Prop := (tok = 0 → h = w) ∧ (0 < tok → tok < 100 → (∀ i, h ≤ i → i < w → stPr W tok i = true) ∧ (h = 0 ∨ stPr W tok (h - 1) = false)) ∧ (100 ≤ tok → h = w ∧ (h = 0 ∨ stPr W (tok - 100) (h - 1) = false))
def INb (q n tk e em j op ss w h x nu : Nat) (ts : Nat → Nat → Nat) : Prop := nu < 1000 ∧ j ≤ em ∧ em ≤ e ∧ e ≤ q ∧ q ≤ 200 ∧ ss + w ≤ j ∧ x + h ≤ j ∧ op ≤ 3 ∧ n < 6 ∧ tk ≤ 1 ∧ h ≤ w ∧ x = pos ts ss + (w - h)
def INw (op w : Nat) (W : Nat → Nat) : Prop := (∀ i, i < w → 11 ≤ W i ∧ W i ≤ 14) ∧ op = cto W w
def INt (n tk st ss w : Nat) (tc ts : Nat → Nat → Nat) (W : Nat → Nat) : Prop := tc n 0 = tk ∧ tc n 1 = (if n = 0 then 0 else tc (n - 1) 2) ∧ tc n 1 ≤ ss ∧ dp ts (tc n 1) (ss - tc n 1) = ctb W w + 1 + (if st = 5 then 1 else 0)
def INm (m0 m : Mem) (q : Nat) (B : Nat → Nat) (em x h : Nat) : Prop := MFr m0 m ∧ rI m 61 22 = -1 ∧ MT m q B em ∧ rI m 61 27 = nI x ∧ rI m 61 28 = nI h
def INs (m : Mem) (ss w h : Nat) (ts : Nat → Nat → Nat) (W : Nat → Nat) : Prop := (∀ i, i < h → rI m 74 i = nI (sgnW (W i))) ∧ ∀ i, i < w - h → rI m 73 (pos ts ss + i) = nI (sgnJ (W (w - 1 - i)))
def IN (c0 m0 : Mem) (q : Nat) (B : Nat → Nat) (n tk e em j op st tok : Nat) (c m : Mem) : Prop := ∃ ss w h x lf nu tc ts W, CIr c0 c e (n + 1) ss w op st lf 0 nu tc ts W ∧ INb q n tk e em j op ss w h x nu ts ∧ INw op w W ∧ INt n tk st ss w tc ts W ∧ PN W h w tok ∧ INm m0 m q B em x h ∧ INs m ss w h ts W ∧ DNr m n tc ts ss
section INS
variable {N : Nat} {c m c0 m0 : Mem} {q e em n tk j op st tok : Nat} {B : Nat → Nat}
theorem IN.adv (tp : TAP c0 m0 q B) (I : IN c0 m0 q B n tk e em j op st tok c m) (he : e = tnx B q em) (hem : em < e) (hN : 1000 ≤ N) : ∃ m2, f_X9_advance N m = some ((), m2) ∧ IN c0 m0 q B n tk e e (j + 1) op st tok c m2 := by
  obtain ⟨ss, w, h, x, lf, nu, tc, ts, W, C, ⟨b1, b2, b3, b4, b5, b6, b7, b8, b9, b10, b11, b12⟩, iw, it, pn, ⟨f1, f2, f3, f4, f5⟩, ⟨s1, s2⟩, dn⟩ := I
  obtain ⟨m2, e1, e2, e3, e4⟩ := m_advn (N := N) (f1.tap tp) f3 (by omega) hN
  refine ⟨m2, e1, ss, w, h, x, lf, nu, tc, ts, W, C, ⟨b1, by omega, by omega, b4, b5, by omega, by omega, b8, b9, b10, b11, b12⟩, iw, it, pn, ⟨f1.of (fun o k w1 w2 => e3 o k (by omega)) e4, by rw [e3 _ _ (by omega)]; exact f2, by rw [he]; exact e2, by rw [e3 _ _ (by omega)]; exact f4, by rw [e3 _ _ (by omega)]; exact f5⟩, ⟨fun i hi => by rw [e3 _ _ (by omega)]; exact s1 i hi, fun i hi => by rw [e3 _ _ (by omega)]; exact s2 i hi⟩, ?_⟩
  exact dn.keep (fun _ _ _ => rfl) (fun i _ => e3 _ _ (by omega)) (fun r _ => ⟨e3 _ _ (by omega), e3 _ _ (by omega)⟩) (Nat.le_refl _) (fun k h1 h2 => absurd h1 (by omega))
theorem IN.step (tp : TAP c0 m0 q B) (I : IN c0 m0 q B n tk e e j op st tok c m) (hN : 1000 ≤ N) : ∃ c2, rI c2 36 4 = nI (tkF B q e) ∧ (tkn B q e ≠ 0 → IN c0 m0 q B n tk (tnx B q e) e j op st tok c2 m) ∧ CBr c0 c2 ∧ rI c2 36 7 = nI st ∧ CLr N j c = if tkn B q e = 0 then f_X7_readTape_j64 N c2 else bnd (f_X7_isAccepted N (nI (tkn B q e)) c2) (KA N j) := by
  obtain ⟨ss, w, h, x, lf, nu, tc, ts, W, C, ⟨b1, b2, b3, b4, b5, b6, b7, b8, b9, b10, b11, b12⟩, iw, it, pn, im, is, dn⟩ := I
  obtain ⟨c2, e1, e2, e3⟩ := cl_step (N := N) tp C b4 b2 hN
  have nl : (if tkn B q e = 1 then nmb B q e else nu) < 1000 := by
    by_cases z : tkn B q e = 1
    · rw [if_pos z]; exact (nmb_b z).1
    · rw [if_neg z]; exact b1
  refine ⟨c2, e1, fun z => ?_, e2.cb nl, e2.2.2.2.2.2.2.1, e3⟩
  have tb := tnx_b b4 z
  exact ⟨ss, w, h, x, lf, _, tc, ts, W, e2, ⟨nl, b2, by omega, by omega, b5, b6, b7, b8, b9, b10, b11, b12⟩, iw, it, pn, im, is, dn⟩
/-- the model at a fault -/
theorem IN.bd (I : IN c0 m0 q B n tk e em j op st tok c m) {y : Nat} (hy : y ≤ 1) {m2 : Mem} (h22 : rI m2 61 22 = nI (tkF B q em)) (h27 : ∀ x, rI m 61 27 = nI x → rI m2 61 27 = nI (x + y)) (h28 : ∀ h, rI m 61 28 = nI h → ∃ g, g ≤ h ∧ rI m2 61 28 = nI g) (hm : ∀ o k, ¬ (o = 61 ∧ 18 ≤ k ∧ k ≤ 28) → ¬ (73 ≤ o ∧ o ≤ 76) → rI m2 o k = rI m o k) (hl : ∀ o k, ¬ (o = 61 ∧ k = 21) → rL m2 o k = rL m o k) : BD m0 m2 (tkF B q em) := by
  obtain ⟨ss, w, h, x, lf, nu, tc, ts, W, C, ⟨b1, b2, b3, b4, b5, b6, b7, b8, b9, b10, b11, b12⟩, iw, it, pn, ⟨f1, f2, f3, f4, f5⟩, is, dn⟩ := I
  obtain ⟨g, g1, g2⟩ := h28 h f5
  have pb := plc_b (B := B) (q := q) (e := em) (by omega)
  exact ⟨f1.of hm hl, h22, by omega, x + y, g, h27 x f4, g2, by omega⟩
theorem IN.g (I : IN c0 m0 q B n tk e em j op st tok c m) : rI m 61 22 = -1 ∧ MT m q B em ∧ rI m 61 19 = nI (tkF B q em) ∧ em ≤ q ∧ TAP c0 m0 q B → TAP c0 m q B := by
  obtain ⟨ss, w, h, x, lf, nu, tc, ts, W, C, b, iw, it, pn, ⟨f1, f2, f3, f4, f5⟩, is, dn⟩ := I
  exact fun z => f1.tap z.2.2.2.2
theorem IN.mm (I : IN c0 m0 q B n tk e em j op st tok c m) : rI m 61 22 = -1 ∧ MT m q B em ∧ MFr m0 m ∧ em ≤ e ∧ e ≤ q ∧ q ≤ 200 := by
  obtain ⟨ss, w, h, x, lf, nu, tc, ts, W, C, ⟨b1, b2, b3, b4, b5, b6, b7, b8, b9, b10, b11, b12⟩, iw, it, pn, ⟨f1, f2, f3, f4, f5⟩, is, dn⟩ := I
  exact ⟨f2, f3, f1, b3, b4, b5⟩
theorem IN.cc (I : IN c0 m0 q B n tk e em j op st tok c m) : rI c 36 7 = nI st ∧ rI c 36 8 = nI op ∧ op ≤ 3 ∧ CBr c0 c := by
  obtain ⟨ss, w, h, x, lf, nu, tc, ts, W, C, ⟨b1, b2, b3, b4, b5, b6, b7, b8, b9, b10, b11, b12⟩, iw, it, pn, im, is, dn⟩ := I
  exact ⟨C.2.2.2.2.2.2.1, C.2.2.2.2.2.1, b8, C.cb b1⟩
theorem IN.push (tp : TAP c0 m0 q B) (I : IN c0 m0 q B n tk e em j op st 0 c m) {T op2 : Nat} {c2 : Mem} (hT : 11 ≤ T) (hT2 : T ≤ 14) (hst : st = if T ≤ 12 then 5 else 1) (he : e = tnx B q em) (hem : em < e) (hop : op2 = op + if T = 14 then 1 else 0) (hop3 : op2 ≤ 3) (hc : ∀ ss w lf nu tc ts W, w < 200 → CIr c0 c e (n + 1) ss w op st lf 0 nu tc ts W → CIr c0 c2 e (n + 1) ss (w + 1) op2 1 lf 0 nu tc ts (fun i => if i = w then T else W i)) (hN : 1000 ≤ N) : ∃ m2, f_X9_hold N (nI (sgnW T)) m = some ((), m2) ∧ IN c0 m0 q B n tk e e (j + 1) op2 1 0 c2 m2 := by
  obtain ⟨ss, w, h, x, lf, nu, tc, ts, W, C, ⟨b1, b2, b3, b4, b5, b6, b7, b8, b9, b10, b11, b12⟩, ⟨w1, w2⟩, ⟨t1, t2, t3, t4⟩, pn, ⟨f1, f2, f3, f4, f5⟩, ⟨s1, s2⟩, dn⟩ := I
  have hw : h = w := pn.1 rfl
  subst hw
  have C2 := hc ss h lf nu tc ts W (by omega) C
  have R : ∀ o k, ¬ (o = 61 ∧ k = 28) → ¬ (o = 74 ∧ k = h) → rI (wI (wI m 74 h (nI (sgnW T))) 61 28 (nI (h + 1))) o k = rI m o k := fun o k y1 y2 => by rw [rI_w, if_neg y1, rI_w, if_neg y2]
  have fm : MFr m0 (wI (wI m 74 h (nI (sgnW T))) 61 28 (nI (h + 1))) := f1.of (fun o k y1 y2 => R o k (by omega) (by omega)) (fun o k _ => rfl)
  obtain ⟨m2, e1, e2, e3, e4⟩ := m_advn (N := N) (fm.tap tp) (f3.keep (m2 := wI (wI m 74 h (nI (sgnW T))) 61 28 (nI (h + 1))) (fun k y1 y2 => R 61 k (by omega) (by omega)) rfl) (by omega) hN
  have cw : ∀ i, i < h → (if i = h then T else W i) = W i := fun i hi => if_neg (by omega)
  refine ⟨m2, ?_, ss, h + 1, h + 1, x, lf, nu, tc, ts, _, C2, ⟨b1, by omega, by omega, b4, b5, by omega, by omega, hop3, b9, b10, Nat.le_refl _, by rw [b12]; omega⟩, ⟨fun i hi => ?_, ?_⟩, ⟨t1, t2, t3, ?_⟩, ⟨fun _ => rfl, fun y => absurd y (by decide), fun y => absurd y (by decide)⟩, ⟨fm.of (fun o k y1 y2 => e3 o k (by omega)) e4, by rw [e3 _ _ (by omega), R _ _ (by omega) (by omega)]; exact f2, by rw [he]; exact e2, by rw [e3 _ _ (by omega), R _ _ (by omega) (by omega)]; exact f4, by rw [e3 _ _ (by omega), rI_w, if_pos ⟨rfl, rfl⟩]⟩, ⟨fun i hi => ?_, fun i hi => absurd hi (by omega)⟩, ?_⟩
  · unfold f_X9_hold
    rw [f5, gn (by omega), lt_e, nI_clamp (by omega), r61 (by decide), f5, lt_e, nI_1, e1, bnd_s]
  · show 11 ≤ (if i = h then T else W i) ∧ (if i = h then T else W i) ≤ 14
    by_cases z : i = h
    · rw [if_pos z]; exact ⟨hT, hT2⟩
    · rw [if_neg z]; exact w1 i (by omega)
  · rw [cto, if_pos rfl, cto_c h cw, hop, w2]
  · rw [t4, ctb, if_pos rfl, ctb_c h cw, hst]
    by_cases z : T ≤ 12
    · rw [if_pos z, if_pos rfl, if_pos (by omega), if_neg (by decide)]
    · rw [if_neg z, if_neg (by decide), if_neg (by omega)]
  · rw [e3 _ _ (by omega), rI_ne (by decide), rI_w]
    show (if 74 = 74 ∧ i = h then _ else _) = nI (sgnW (if i = h then T else W i))
    by_cases z : i = h
    · rw [if_pos ⟨rfl, z⟩, if_pos z]
    · rw [if_neg (fun y => z y.2), if_neg z]; exact s1 i (by omega)
  · refine dn.keep (fun _ _ _ => rfl) (fun i _ => by rw [e3 _ _ (by omega), R _ _ (by omega) (by omega)]) (fun r _ => ⟨by rw [e3 _ _ (by omega), R _ _ (by omega) (by omega)], by rw [e3 _ _ (by omega), R _ _ (by omega) (by omega)]⟩) (Nat.le_refl _) (fun k y1 y2 => absurd y1 (by omega))
theorem stm : ∀ t, t < 3 → ∀ w, w < 4 → (decide (nI (sgnW (w + 11)) ≠ 10 ∧ ¬ nI (sgnJ (t + 11)) < nI (sgnW (w + 11)))) = decide (w + 11 ≠ 14 ∧ t + 11 ≤ w + 11) := by decide +kernel
theorem stPr_up {W : Nat → Nat} {a b i : Nat} (h : stPr W a i = true) (hb : b ≤ a) : stPr W b i = true := by
  have := of_decide_eq_true h
  exact decide_eq_true ⟨this.1, by omega⟩
theorem tpc_mx {P : Nat → Bool} : ∀ w, w - tpc P w = 0 ∨ P (w - tpc P w - 1) = false := by
  intro w
  have tl := tpc_le P w
  by_cases z : tpc P w < w
  · exact Or.inr (tpc_end P w z)
  · left; omega
theorem IN.settleM (I : IN c0 m0 q B n tk e em j op 5 tok c m) {t : Nat} (ht : 11 ≤ t) (ht2 : t ≤ 13) (hk : tok = 0 ∨ tok < 100 ∧ t ≤ tok) (hN : 1000 ≤ N) : ∃ m2, f_X9_settle N (nI (sgnJ t)) m = some ((), m2) ∧ IN c0 m0 q B n tk e em j op 5 t c m2 := by
  obtain ⟨ss, w, h, x, lf, nu, tc, ts, W, C, ⟨b1, b2, b3, b4, b5, b6, b7, b8, b9, b10, b11, b12⟩, ⟨w1, w2⟩, it, ⟨p1, p2, p3⟩, ⟨f1, f2, f3, f4, f5⟩, ⟨s1, s2⟩, dn⟩ := I
  obtain ⟨m2, e1, e2, e3, e4, e5, e6⟩ := m_settle (N := N) (nI (sgnJ t)) f5 f4 (by omega) hN
  have eP : tpc (mPr m (nI (sgnJ t))) h = tpc (stPr W t) h := by
    refine tpc_c _ _ h (fun i hi => ?_)
    have wi := w1 i (by omega)
    have := stm (t - 11) (by omega) (W i - 11) (by omega)
    rw [show t - 11 + 11 = t by omega, show W i - 11 + 11 = W i by omega] at this
    unfold mPr stPr
    rw [s1 i hi]
    exact this
  rw [eP] at e2 e3 e4
  have tl := tpc_le (stPr W t) h
  have ti := tpc_in (stPr W t) h
  have tm := tpc_mx (P := stPr W t) h
  generalize tpc (stPr W t) h = r at *
  refine ⟨m2, e1, ss, w, h - r, x + r, lf, nu, tc, ts, W, C, ⟨b1, b2, b3, b4, b5, b6, by omega, b8, b9, b10, by omega, by omega⟩, ⟨w1, w2⟩, it, ⟨fun y => absurd y (by omega), fun _ _ => ⟨fun i y1 y2 => ?_, tm⟩, fun y => absurd y (by omega)⟩, ⟨f1.of (fun o k y1 y2 => e5 o k (by omega) (by omega)) (fun o k _ => e6 o k), by rw [e5 _ _ (by omega) (by omega)]; exact f2, f3.keep (fun k y1 y2 => e5 _ _ (by omega) (by omega)) (e6 _ _), e3, e2⟩, ⟨fun i hi => by rw [e5 _ _ (by omega) (by omega)]; exact s1 i (by omega), fun i hi => ?_⟩, ?_⟩
  · by_cases z : i < h
    · exact ti i y1 z
    · rcases hk with y | y
      · have := p1 y; omega
      · exact stPr_up ((p2 (by omega) y.1).1 i (by omega) y2) y.2
  · by_cases z : i < w - h
    · rw [e5 _ _ (by omega) (by omega)]; exact s2 i z
    · have q1 := e4 (i - (w - h)) (by omega)
      have q2 := ti (h - 1 - (i - (w - h))) (by omega) (by omega)
      have q3 := of_decide_eq_true q2
      rw [show pos ts ss + i = x + (i - (w - h)) by omega, q1, s1 _ (by omega), show w - 1 - i = h - 1 - (i - (w - h)) by omega]
      unfold sgnW
      rw [if_neg q3.1]
  · exact dn.keep (fun _ _ _ => rfl) (fun i hi => e5 _ _ (by omega) (by omega)) (fun r _ => ⟨e5 _ _ (by omega) (by omega), e5 _ _ (by omega) (by omega)⟩) (Nat.le_refl _) (fun k y1 y2 => absurd y1 (by omega))
end INS
