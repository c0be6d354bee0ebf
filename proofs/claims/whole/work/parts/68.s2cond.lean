-- a condition: both sides
section COND
variable {N : Nat} {c m c0 m0 : Mem} {q e em j n tk op st tok : Nat} {B : Nat → Nat}
theorem acc_5 (h : rI c 36 7 = nI 5) (a : Int32) : f_X7_isAccepted N a c = bnd (f_X7_isOneFollowed N a c) fun r7 s7 => some (r7, s7) := by
  unfold f_X7_isAccepted
  rw [h, if_neg (by decide), if_neg (by decide), if_neg (by decide), if_neg (by decide), if_neg (by decide)]
theorem of_j {T : Nat} (h : T = 11 ∨ T = 12) : f_X7_isOneFollowed N (nI T) c = f_X7_isOneFollowed_j12 N (nI T) c := by
  unfold f_X7_isOneFollowed
  rw [ek12 (by omega), ek11 (by omega)]
  rcases h with rfl | rfl <;> rfl
theorem of_15 (h : rI c 36 8 = nI op) (h0 : 0 < op) (h3 : op ≤ 3) : f_X7_isOneFollowed N (nI 15) c = bnd (f_X7_settle N 11 c) fun _ s1 => bnd (f_X3_pop N 41 s1) fun r2 s2 => lt (wI s2 36 8 ((rI s2 36 8) - 1)) fun s3 => some (true, s3) := by
  unfold f_X7_isOneFollowed
  rw [if_neg (show ¬ nI 15 = 12 by decide), if_neg (show ¬ nI 15 = 11 by decide), if_pos (show nI 15 = 15 by decide), h, lek0 (by omega), if_neg (by omega)]
theorem of_x {T : Nat} (hT : T ≤ 20) (h1 : T ≠ 11) (h2 : T ≠ 12) (h5 : T = 15 → op = 0) (h9 : T = 19 → 0 < op) (h : rI c 36 8 = nI op) (h3 : op ≤ 3) : f_X7_isOneFollowed N (nI T) c = some (false, c) := by
  have e15 : ∀ X Y : Option (Bool × Mem), (if nI T = 15 then X else Y) = if T = 15 then X else Y := fun X Y => ite_eq (b := 15) (by omega) (by decide)
  have e19 : ∀ X Y : Option (Bool × Mem), (if nI T = 19 then X else Y) = if T = 19 then X else Y := fun X Y => ite_eq (b := 19) (by omega) (by decide)
  unfold f_X7_isOneFollowed f_X7_isOneFollowed_j71
  rw [ek12 (by omega), ek11 (by omega), if_neg h2, if_neg h1, e15, e19, h, lek0 (by omega), lek0 (by omega)]
  by_cases z : T = 15
  · rw [if_pos z, if_pos (by omega), if_neg (by omega)]
  · rw [if_neg z]
    by_cases y : T = 19
    · rw [if_pos y, if_neg (by omega)]
    · rw [if_neg y]
theorem wc_bad {p k : Nat} (b : BD m0 m p) (v1 : Int32) (v2 : Bool) (hN : 1000 ≤ N) : ∃ m2, f_X9_wantCond_L11 N (f_X9_wantCond_j196 N) (k + 1) v1 v2 true m = some ((), m2) ∧ BD m0 m2 p := by
  obtain ⟨m2, e1, e2⟩ := bd_settle (N := N) b 9 hN
  refine ⟨m2, ?_, e2⟩
  unfold f_X9_wantCond_L11 f_X9_wantCond_j196
  rw [ite_T, good_f b.2.1 b.2.2.1, bnd_s, ite_F, e1, bnd_s]
/-- the class's fault in a clause -/
theorem IN.flt (I : IN c0 m0 q B n tk e em j op st tok c m) {c2 : Mem} {j2 : Nat} {cc : Mem} (k1 : rI c2 36 4 = nI (tkF B q e)) (cb : CBr c0 c2) (k7 : rI c2 36 7 = nI st) (h0 : st ≠ 0) (h5 : st ≤ 5) (k3 : CLr N j2 cc = if tkn B q e = 0 then f_X7_readTape_j64 N c2 else bnd (f_X7_isAccepted N (nI (tkn B q e)) c2) (KA N j2)) (ha : tkn B q e ≠ 0 → f_X7_isAccepted N (nI (tkn B q e)) c2 = some (false, c2)) : CLr N j2 cc = some (nI (tkF B q e), c2) := by
  rw [k3]
  by_cases z : tkn B q e = 0
  · rw [if_pos z, cl_f0 k7 h0 h5, k1]
  · rw [if_neg z, ha z, bnd_s]
    unfold KA
    rw [if_neg (by decide), k1]
theorem IN.pushc (I : IN c0 m0 q B n tk e em j op st tok c m) (h : em < e) (T : Nat) {c2 : Mem} (hc : ∀ k, rI c2 41 k = rI c 41 k) : ∃ c3, f_X3_push N 41 (nI T) c2 = some ((), c3) := by
  obtain ⟨ss, w, h, x, lf, nu, tc, ts, W, C, ⟨b1, b2, b3, b4, b5, b6, b7, b8, b9, b10, b11, b12⟩, iw, it, pn, im, is, dn⟩ := I
  exact ⟨_, p_push (n := w) (by rw [hc]; exact C.2.2.2.2.1.1) (by rw [l42]; omega) (by decide) _⟩
theorem IN.hpos (I : IN c0 m0 q B n tk e em j op st tok c m) (h1 : 0 < tok) (h2 : tok < 100) (ho : 0 < op) : ∃ h, h < 200 ∧ rI m 61 28 = nI (h + 1) := by
  obtain ⟨ss, w, h, x, lf, nu, tc, ts, W, C, ⟨b1, b2, b3, b4, b5, b6, b7, b8, b9, b10, b11, b12⟩, ⟨w1, w2⟩, it, ⟨p1, p2, p3⟩, ⟨f1, f2, f3, f4, f5⟩, is, dn⟩ := I
  obtain ⟨a1, a2⟩ := p2 h1 h2
  have e := cto_up w h b11 (fun i y1 y2 => (of_decide_eq_true (a1 i y1 y2)).1)
  have : h ≠ 0 := fun z => by rw [e, z, cto] at w2; omega
  exact ⟨h - 1, by omega, by rw [f5]; congr 1; omega⟩
theorem k7 : (7 : Int32) = nI (sgnJ 13) := by decide
theorem k8 : (8 : Int32) = nI (sgnJ 12) := by decide
theorem k9 : (9 : Int32) = nI (sgnJ 11) := by decide
theorem wcond (tp : TAP c0 m0 q B) (hN : 1000 ≤ N) : ∀ d e j op k (asks : Bool) c m, q - e < d → d + 3 ≤ k → IN c0 m0 q B n tk e e j op (if asks = true then 1 else 5) (if asks = true then 0 else 13) c m → ∃ m2, f_X9_wantCond_L11 N (f_X9_wantCond_j196 N) k (nI op) asks true m = some ((), m2) ∧ ((∃ c' e' j', e ≤ e' ∧ CLr N j c = CLr N j' c' ∧ IN c0 m0 q B n tk e' e' j' 0 5 11 c' m2 ∧ tkn B q e' ≠ 11 ∧ tkn B q e' ≠ 12) ∨ OUTB N j c0 m0 c m2) := by
  intro d
  induction d with
  | zero => intro e j op k asks c m h1; omega
  | succ d ih =>
    intro e j op k asks c m hd hk I
    obtain ⟨k, rfl⟩ := suc_of (show 0 < k by omega)
    obtain ⟨k, rfl⟩ := suc_of (show 0 < k by omega)
    obtain ⟨g, t, F, -, he, hq⟩ := I.mm
    obtain ⟨-, -, op3, -⟩ := I.cc
    have tb := tkn_b (B := B) (q := q) e
    have pb := plc_b (B := B) he
    have w13 : f_X9_isWord N 10631 m = some (decide (tkn B q e = 13), m) := mw t (z := 11) (by decide) (show (10631 : Int64) = lN (wcd 11) by rw [wcd_v 11 (by decide)]; rfl)
    have w12 : f_X9_isWord N 1111 m = some (decide (tkn B q e = 12), m) := mw t (z := 10) (by decide) (show (1111 : Int64) = lN (wcd 10) by rw [wcd_v 10 (by decide)]; rfl)
    have w11 : f_X9_isWord N 423 m = some (decide (tkn B q e = 11), m) := mw t (z := 9) (by decide) (show (423 : Int64) = lN (wcd 9) by rw [wcd_v 9 (by decide)]; rfl)
    have w14 : f_X9_isMark N 40 m = some (decide (tkn B q e = 14), m) := mm (F.tap tp) he t (y := 0) (by decide)
    have on : ∀ {op2 st2 tok2 : Nat} {asks2 : Bool} {c2 m2 : Mem}, st2 = (if asks2 = true then 1 else 5) → tok2 = (if asks2 = true then 0 else 13) → ∀ {e2 j2 : Nat}, e < e2 → IN c0 m0 q B n tk e2 e2 j2 op2 st2 tok2 c2 m2 → CLr N j c = CLr N j2 c2 → ∃ m3, f_X9_wantCond_L11 N (f_X9_wantCond_j196 N) (k + 1) (nI op2) asks2 true m2 = some ((), m3) ∧ ((∃ c' e' j', e ≤ e' ∧ CLr N j c = CLr N j' c' ∧ IN c0 m0 q B n tk e' e' j' 0 5 11 c' m3 ∧ tkn B q e' ≠ 11 ∧ tkn B q e' ≠ 12) ∨ OUTB N j c0 m0 c m3) := by
      intro op2 st2 tok2 asks2 c2 m2 hs ht e2 j2 h1 I2 h2
      subst hs ht
      obtain ⟨-, -, -, -, he2, -⟩ := I2.mm
      obtain ⟨m3, f1, f2⟩ := ih e2 j2 op2 (k + 1) asks2 c2 m2 (by omega) (by omega) I2
      refine ⟨m3, f1, ?_⟩
      rcases f2 with ⟨c', e', j', y1, y2, y3⟩ | ⟨p, c', y1, y2⟩
      · exact Or.inl ⟨c', e', j', by omega, by rw [h2]; exact y2, y3⟩
      · exact Or.inr ⟨p, c', by rw [h2]; exact y1, y2⟩
    have bad : ∀ {p : Nat} {cc m2 : Mem} (v1 : Int32) (v2 : Bool), CLr N j c = some (nI p, cc) → CBr c0 cc → BD m0 m2 p → ∃ m3, f_X9_wantCond_L11 N (f_X9_wantCond_j196 N) (k + 1) v1 v2 true m2 = some ((), m3) ∧ ((∃ c' e' j', e ≤ e' ∧ CLr N j c = CLr N j' c' ∧ IN c0 m0 q B n tk e' e' j' 0 5 11 c' m3 ∧ tkn B q e' ≠ 11 ∧ tkn B q e' ≠ 12) ∨ OUTB N j c0 m0 c m3) := by
      intro p cc m2 v1 v2 h1 h2 h3
      obtain ⟨m3, f1, f2⟩ := wc_bad (N := N) (k := k) h3 v1 v2 hN
      exact ⟨m3, f1, Or.inr ⟨p, cc, h1, h2, f2⟩⟩
    have acc : ∀ {cc c3 : Mem}, (CLr N j c = if tkn B q e = 0 then f_X7_readTape_j64 N cc else bnd (f_X7_isAccepted N (nI (tkn B q e)) cc) (KA N j)) → tkn B q e ≠ 0 → f_X7_isAccepted N (nI (tkn B q e)) cc = some (true, c3) → CLr N j c = CLr N (j + 1) c3 := by
      intro cc c3 h1 h2 h3
      rw [h1, if_neg h2, h3, bnd_s]
      unfold KA
      rw [if_pos rfl]
    unfold f_X9_wantCond_L11
    rw [ite_T, good_t g, bnd_s, ite_T]
    cases asks with
    | true =>
      rw [ite_T, ite_T] at I
      obtain ⟨c2, k1, k2, k3, k4, k5⟩ := I.step tp hN
      rw [ite_T, w13, bnd_s, ite_d]
      by_cases z13 : tkn B q e = 13
      · have nz : tkn B q e ≠ 0 := by omega
        have nb := tnx_b he nz
        have I2 := k2 nz
        obtain ⟨c3, hp⟩ := I2.pushc (N := N) nb.1 13 (c2 := c2) (fun _ => rfl)
        obtain ⟨m2, f1, f2⟩ := IN.push (N := N) tp I2 (T := 13) (op2 := op) (c2 := c3) (by decide) (by decide) rfl rfl nb.1 rfl op3 (fun ss w lf nu tc ts W hw C => by
          obtain ⟨c', y1, y2, y3⟩ := c_push (N := N) C hw 13
          rw [hp] at y1
          cases y1
          exact y2) hN
        rw [if_pos z13, show f_X9_hold N 7 m = some ((), m2) from f1, bnd_s]
        refine on rfl rfl nb.1 f2 (acc k5 nz ?_)
        unfold f_X7_isAccepted f_X7_isOneOpened f_X7_isOneOpened_j14 f_X7_isOneOpened_j30 f_X7_isOneOpened_j46 f_X7_isAccepted_j62
        rw [k4, if_neg (by decide), if_pos (by decide), z13, if_pos (show nI 13 = 13 by decide), if_neg (show ¬ nI 13 = 14 by decide), if_neg (show ¬ nI 13 = 14 by decide), hp, bnd_s, bnd_s, if_pos rfl]
      · rw [if_neg z13, w14, bnd_s, ite_d]
        by_cases z14 : tkn B q e = 14
        · have nz : tkn B q e ≠ 0 := by omega
          have nb := tnx_b he nz
          have I2 := k2 nz
          obtain ⟨g7, g8, -, -⟩ := I2.cc
          have e3 : ∀ X Y : Option (Unit × Mem), (if nI op = 3 then X else Y) = if op = 3 then X else Y := fun X Y => ite_eq (b := 3) (by omega) (by decide)
          rw [if_pos z14, e3]
          by_cases z3 : op = 3
          · rw [if_pos z3]
            unfold f_X9_faulty
            rw [g, if_neg (by decide), lt_e, bnd_s]
            refine bad _ _ (I.flt k1 k3 k4 (by decide) (by decide) k5 (fun _ => ?_)) k3 (I.bd (y := 0) (by decide) (by rw [rI_w, if_pos ⟨rfl, rfl⟩, t.1]) (fun x hx => by rw [rI_w, if_neg (by omega)]; exact hx) (fun h hh => ⟨h, Nat.le_refl _, by rw [rI_w, if_neg (by omega)]; exact hh⟩) (fun o k y1 y2 => by rw [rI_w, if_neg (by omega)]) (fun o k _ => rfl))
            unfold f_X7_isAccepted f_X7_isOneOpened f_X7_isOneOpened_j14
            rw [k4, if_neg (by decide), if_pos (by decide), z14, if_neg (show ¬ nI 14 = 13 by decide), if_pos (show nI 14 = 14 by decide), if_pos (show nI 14 = 14 by decide), g8, z3, if_neg (show ¬ nI 3 < 3 by decide), bnd_s, ite_F, vb_x (T := 14) (Or.inr (by decide)) (by decide), bnd_s, ite_F]
          · obtain ⟨c3, hp⟩ := I2.pushc (N := N) nb.1 14 (c2 := wI c2 36 8 (nI (op + 1))) (fun _ => rI_ne (by decide))
            obtain ⟨m2, f1, f2⟩ := IN.push (N := N) tp I2 (T := 14) (op2 := op + 1) (c2 := c3) (by decide) (by decide) rfl rfl nb.1 rfl (by omega) (fun ss w lf nu tc ts W hw C => by
              obtain ⟨a1, a2, a3, a4, a5, a6, a7⟩ := C.w36 (c2 := c2) (fun _ => rfl)
              have C' : CIr c0 (wI c2 36 8 (nI (op + 1))) (tnx B q e) (n + 1) ss w (op + 1) 1 lf 0 nu tc ts W := C.c36 (fun o k hk => rI_ne hk) (by rw [rI_w, if_neg (by omega)]; exact a1) (by rw [rI_w, if_neg (by omega)]; exact a2) (by rw [rI_w, if_pos ⟨rfl, rfl⟩]) (by rw [rI_w, if_neg (by omega)]; exact a4) (by rw [rI_w, if_neg (by omega)]; exact a5) (by rw [rI_w, if_neg (by omega)]; exact a6) (by rw [rI_w, if_neg (by omega)]; exact a7)
              obtain ⟨c', y1, y2, y3⟩ := c_push (N := N) C' hw 14
              rw [hp] at y1
              cases y1
              exact y2) hN
            rw [if_neg z3, show f_X9_hold N 10 m = some ((), m2) from f1, bnd_s, nI_1]
            refine on rfl rfl nb.1 f2 (acc k5 nz ?_)
            unfold f_X7_isAccepted f_X7_isOneOpened f_X7_isOneOpened_j14 f_X7_isOneOpened_j30 f_X7_isOneOpened_j46 f_X7_isAccepted_j62
            rw [k4, if_neg (by decide), if_pos (by decide), z14, if_neg (show ¬ nI 14 = 13 by decide), if_pos (show nI 14 = 14 by decide), if_pos (show nI 14 = 14 by decide), g8, ltk3 (by omega), if_pos (by omega), if_pos (show nI 14 = 14 by decide), lt_e, nI_1, hp, bnd_s, bnd_s, if_pos rfl]
        · rw [if_neg z14]
          obtain ⟨m2, f1, f2⟩ := ask (N := N) tp I z13 z14 hN
          rw [f1, bnd_s]
          rcases f2 with ⟨c', e', j', y1, y2, y3⟩ | ⟨p, c', y1, y2, y3⟩
          · obtain ⟨m3, s1, s2⟩ := y3.settleM (N := N) (t := 13) (by decide) (by decide) (Or.inl rfl) hN
            rw [show f_X9_settle N 7 m2 = some ((), m3) from s1, bnd_s]
            exact on rfl rfl y1 s2 y2
          · obtain ⟨m3, s1, s2⟩ := bd_settle (N := N) y3 7 hN
            rw [s1, bnd_s]
            exact bad _ _ y1 y2 s2
    | false =>
      rw [if_neg (by decide), if_neg (by decide)] at I
      rw [ite_F, w12, bnd_s, ite_d]
      by_cases zj : tkn B q e = 11 ∨ tkn B q e = 12
      · have nz : tkn B q e ≠ 0 := by omega
        have nb := tnx_b he nz
        obtain ⟨c2, k1, k2, k3, k4, k5⟩ := I.step tp hN
        have I2 := k2 nz
        have ej : (if tkn B q e = 12 then f_X9_wantCond_j113 N (f_X9_wantCond_L11 N (f_X9_wantCond_j196 N) (k + 1)) (f_X9_wantCond_j196 N) (nI op) true m else bnd (f_X9_isWord N 423 m) fun r3 s3 => if r3 = true then f_X9_wantCond_j113 N (f_X9_wantCond_L11 N (f_X9_wantCond_j196 N) (k + 1)) (f_X9_wantCond_j196 N) (nI op) true s3 else if nI op ≤ 0 then f_X9_wantCond_L11 N (f_X9_wantCond_j196 N) (k + 1) (nI op) false false s3 else bnd (f_X9_settle N 9 s3) fun _ s4 => lt (wI s4 61 28 ((rI s4 61 28) - 1)) fun s5 => bnd (f_X9_isMark N 41 s5) fun r6 s6 => bnd (f_X9_want N r6 s6) fun _ s7 => bnd (f_X9_settle N 7 s7) fun _ s8 => f_X9_wantCond_L11 N (f_X9_wantCond_j196 N) (k + 1) (nI op + (-1)) false true s8) = f_X9_wantCond_j130 N (f_X9_wantCond_L11 N (f_X9_wantCond_j196 N) (k + 1)) (f_X9_wantCond_j196 N) (nI op) true (nI (sgnJ (tkn B q e))) m := by
          unfold f_X9_wantCond_j113
          rcases zj with z | z
          · rw [if_neg (by omega), w11, bnd_s, ite_d, if_pos z, w12, bnd_s, ite_d, if_neg (by omega), z]; rfl
          · rw [if_pos z, w12, bnd_s, ite_d, if_pos z, z]; rfl
        rw [ej]
        obtain ⟨m1, a1, a2⟩ := I2.settleM (N := N) (t := tkn B q e) (by omega) (by omega) (Or.inr ⟨by decide, by omega⟩) hN
        obtain ⟨c3, b1, b2, b3⟩ := a2.settleC (N := N) (by omega) (by omega) hN
        have I5 := b2.none (by omega)
        obtain ⟨c4, hp⟩ := I5.pushc (N := N) nb.1 (tkn B q e) (c2 := c3) (fun _ => rfl)
        obtain ⟨m2, f1, f2⟩ := IN.push (N := N) tp I5 (T := tkn B q e) (op2 := op) (c2 := wI c4 36 7 1) (by omega) (by omega) (by rw [if_pos (by omega)]) rfl nb.1 (by rw [if_neg (by omega), Nat.add_zero]) op3 (fun ss w lf nu tc ts W hw C => by
          obtain ⟨c', y1, y2, y3⟩ := c_push (N := N) C hw (tkn B q e)
          rw [hp] at y1
          cases y1
          obtain ⟨x1, x2, x3, x4, x5, x6, x7⟩ := y2.w36 (c2 := c4) (fun _ => rfl)
          exact y2.c36 (fun o k hk => rI_ne hk) (by rw [rI_w, if_neg (by omega)]; exact x1) (by rw [rI_w, if_neg (by omega)]; exact x2) (by rw [rI_w, if_neg (by omega)]; exact x3) (by rw [rI_w, if_pos ⟨rfl, rfl⟩]; rfl) (by rw [rI_w, if_neg (by omega)]; exact x5) (by rw [rI_w, if_neg (by omega)]; exact x6) (by rw [rI_w, if_neg (by omega)]; exact x7)) hN
        have sw : sgnW (tkn B q e) = sgnJ (tkn B q e) := by unfold sgnW; rw [if_neg (by omega)]
        rw [sw] at f1
        unfold f_X9_wantCond_j130
        rw [a1, bnd_s, f1, bnd_s]
        refine on rfl rfl nb.1 f2 (acc k5 nz ?_)
        rw [acc_5 k4, of_j zj]
        unfold f_X7_isOneFollowed_j12
        rw [b1, bnd_s, hp, bnd_s, lt_e, bnd_s]
      · rw [if_neg (by omega), w11, bnd_s, ite_d, if_neg (by omega), lek0 (by omega)]
        by_cases z0 : op = 0
        · rw [if_pos (by omega)]
          unfold f_X9_wantCond_L11 f_X9_wantCond_j196
          obtain ⟨m1, a1, a2⟩ := I.settleM (N := N) (t := 11) (by decide) (by decide) (Or.inr ⟨by decide, by decide⟩) hN
          rw [ite_F, show f_X9_settle N 9 m = some ((), m1) from a1, bnd_s]
          subst z0
          exact ⟨m1, rfl, Or.inl ⟨c, e, j, Nat.le_refl _, rfl, a2, by omega, by omega⟩⟩
        · rw [if_neg (by omega)]
          obtain ⟨m1, a1, a2⟩ := I.settleM (N := N) (t := 11) (by decide) (by decide) (Or.inr ⟨by decide, by decide⟩) hN
          obtain ⟨g1, t1, F1, -, -, -⟩ := a2.mm
          obtain ⟨c2, k1, k2, k3, k4, k5⟩ := a2.step tp hN
          obtain ⟨hh, hlt, h28⟩ := a2.hpos (by decide) (by decide) (by omega)
          have R : ∀ o k, ¬ (o = 61 ∧ k = 28) → rI (wI m1 61 28 (rI m1 61 28 - 1)) o k = rI m1 o k := fun o k y1 => by rw [rI_w, if_neg y1]
          have t1' : MT (wI m1 61 28 (rI m1 61 28 - 1)) q B e := t1.keep (fun k y1 y2 => R _ _ (by omega)) rfl
          have F1' : MFr m0 (wI m1 61 28 (rI m1 61 28 - 1)) := F1.of (fun o k y1 y2 => R o k (by omega)) (fun o k _ => rfl)
          have w15 : f_X9_isMark N 41 (wI m1 61 28 (rI m1 61 28 - 1)) = some (decide (tkn B q e = 15), wI m1 61 28 (rI m1 61 28 - 1)) := mm (F1'.tap tp) he t1' (y := 1) (by decide)
          have g1' : rI (wI m1 61 28 (rI m1 61 28 - 1)) 61 22 = -1 := by rw [R _ _ (by omega)]; exact g1
          rw [show f_X9_settle N 9 m = some ((), m1) from a1, bnd_s, lt_e, w15, bnd_s]
          have ome : (nI op + (-1) : Int32) = nI (op - 1) := by
            have : (nI op + (-1) : Int32) = nI op - nI 1 := by rw [show nI 1 = 1 from rfl, Int32.sub_eq_add_neg]
            rw [this, pk_sub (by omega)]
          by_cases z15 : tkn B q e = 15
          · have nz : tkn B q e ≠ 0 := by omega
            have nb := tnx_b he nz
            have I2 := k2 nz
            obtain ⟨g7, g8, -, -⟩ := I2.cc
            obtain ⟨c3, b1, b2, b3⟩ := I2.settleC (N := N) (by decide) (by decide) hN
            obtain ⟨c4, d1, d2⟩ := b2.close (N := N) (by omega)
            obtain ⟨m2, f1, f2⟩ := d2.adv (N := N) tp rfl nb.1 hN
            obtain ⟨m3, s1, s2⟩ := f2.settleM (N := N) (t := 13) (by decide) (by decide) (Or.inl rfl) hN
            rw [decide_eq_true z15, want_g g1', f1, bnd_s, bnd_s, show f_X9_settle N 7 m2 = some ((), m3) from s1, bnd_s, ome]
            refine on rfl rfl nb.1 s2 (acc k5 nz ?_)
            rw [acc_5 k4, z15, of_15 g8 (by omega) op3, show f_X7_settle N 11 c2 = some ((), c3) from b1, bnd_s, d1, bnd_s]
          · rw [decide_eq_false z15, want_f g1', bnd_s]
            have bd : BD m0 (wI (wI m1 61 28 (rI m1 61 28 - 1)) 61 22 (rI (wI m1 61 28 (rI m1 61 28 - 1)) 61 19)) (tkF B q e) := a2.bd (y := 0) (by decide) (by rw [rI_w, if_pos ⟨rfl, rfl⟩, t1'.1]) (fun x hx => by rw [rI_w, if_neg (by omega), R _ _ (by omega)]; exact hx) (fun h hx => ⟨h - 1, by omega, by
              rw [rI_w, if_neg (by omega), rI_w, if_pos ⟨rfl, rfl⟩, hx]
              by_cases y : h = 0
              · exfalso
                rw [h28, y] at hx
                have := (nI_eq (a := hh + 1) (b := 0) (by omega) (by decide)).mp hx
                omega
              · exact pk_sub (b := 1) (by omega)⟩) (fun o k y1 y2 => by rw [rI_w, if_neg (by omega), R _ _ (by omega)]) (fun o k _ => rfl)
            obtain ⟨m3, s1, s2⟩ := bd_settle (N := N) bd 7 hN
            rw [s1, bnd_s]
            obtain ⟨-, g8, -, -⟩ := a2.cc
            refine bad _ _ (a2.flt k1 k3 k4 (by decide) (by decide) k5 (fun nz => ?_)) k3 s2
            obtain ⟨-, g8', -, -⟩ := (k2 nz).cc
            rw [acc_5 k4, of_x tb (by omega) (by omega) (fun y => absurd y z15) (fun _ => by omega) g8' op3, bnd_s]
end COND
