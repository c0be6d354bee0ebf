-- all clauses: both sides
section CLAU2
variable {N : Nat} {c m c0 m0 : Mem} {q : Nat} {B : Nat → Nat}
theorem rd_bad {p k : Nat} (h : rI m 61 22 = nI p) (hp : p ≤ 200) (K : Int32 → Mem → Option (Int32 × Mem)) (v : Int32) : f_X9_read_L21 N K (k + 1) v m = K v m := by
  unfold f_X9_read_L21
  rw [good_f h hp, bnd_s, ite_F]
  split <;> rfl
theorem of_19 (h : rI c 36 8 = nI 0) : f_X7_isOneFollowed N (nI 19) c = bnd (f_X7_settle N 11 c) fun _ s1 => bnd (f_X5_set N 37 ((rI s1 37 3) - 1) 2 (rI s1 39 3) s1) fun _ s2 => lt (wI s2 36 7 0) fun s3 => some (true, s3) := by
  unfold f_X7_isOneFollowed f_X7_isOneFollowed_j71
  rw [if_neg (show ¬ nI 19 = 12 by decide), if_neg (show ¬ nI 19 = 11 by decide), if_neg (show ¬ nI 19 = 15 by decide), if_pos (show nI 19 = 19 by decide), h, if_pos (show nI 0 ≤ 0 by decide)]
theorem j93_b {p k n : Nat} (h : rI m 61 22 = nI p) (hp : p ≤ 200) (v : Bool) (K : Int32 → Mem → Option (Int32 × Mem)) : f_X9_read_j93 N (f_X9_read_L21 N K (k + 1)) K (nI n) v m = K (nI n) m := by
  unfold f_X9_read_j93
  rw [good_f h hp, bnd_s, ite_F, rd_bad h hp]
theorem clsL (tp : TAP c0 m0 q B) (hN : 1000 ≤ N) : ∀ d e j n k c m, q - e < d → d + 3 ≤ k → ICr c0 m0 q B n e j c m → (∃ c' n' m', CLr N j c = some (-3, c') ∧ f_X9_read_L21 N (f_X9_read_j131 N) k (nI n) m = f_X9_read_j131 N (nI n') m' ∧ INF c0 m0 n' c' m') ∨ (∃ p c' m' v, CLr N j c = some (nI p, c') ∧ CBr c0 c' ∧ f_X9_read_L21 N (f_X9_read_j131 N) k (nI n) m = f_X9_read_j131 N v m' ∧ MFr m0 m' ∧ rI m' 61 22 = nI p ∧ p ≤ 200) := by
  intro d
  induction d with
  | zero => intro e j n k c m h1; omega
  | succ d ih =>
    intro e j n k c m hd hk I
    obtain ⟨k, rfl⟩ := suc_of (show 0 < k by omega)
    obtain ⟨k, rfl⟩ := suc_of (show 0 < k by omega)
    obtain ⟨ss, lf, nu, tc, ts, W, C, ⟨b1, b2, b3, b4, b5, b6, b7, b8⟩, ⟨f1, f2, f3, f4⟩, dn⟩ := I
    have tb := tkn_b (B := B) (q := q) e
    have pb := plc_b (B := B) b3
    obtain ⟨c2, k1, k2, k3⟩ := cl_step (N := N) tp C b3 b2 hN
    have k7 : rI c2 36 7 = nI 0 := k2.2.2.2.2.2.2.1
    have nl : (if tkn B q e = 1 then nmb B q e else nu) < 1000 := by
      by_cases z : tkn B q e = 1
      · rw [if_pos z]; exact (nmb_b z).1
      · rw [if_neg z]; exact b1
    have w9 : f_X9_isWord N 394691 m = some (decide (tkn B q e = 9), m) := mw f3 (z := 7) (by decide) (show (394691 : Int64) = lN (wcd 7) by rw [wcd_v 7 (by decide)]; rfl)
    have w10 : f_X9_isWord N 409469 m = some (decide (tkn B q e = 10), m) := mw f3 (z := 8) (by decide) (show (409469 : Int64) = lN (wcd 8) by rw [wcd_v 8 (by decide)]; rfl)
    unfold f_X9_read_L21
    rw [mk0 f3]
    by_cases z0 : tkn B q e = 0
    · rw [if_pos z0]
      refine Or.inl ⟨c2, n, m, ?_, rfl, ss, lf, _, tc, ts, W, _, k2, ⟨nl, b7, by omega, by omega, b8⟩, ⟨f1, f2, f4⟩, dn⟩
      rw [k3, if_pos z0]
      unfold f_X7_readTape_j64
      rw [k7, if_pos (by decide)]
    · have nb := tnx_b b3 z0
      rw [if_neg z0, good_t f2, bnd_s, if_pos rfl, w9, bnd_s, ite_d]
      have e69 : (if tkn B q e = 9 then f_X9_read_j58 N (f_X9_read_L21 N (f_X9_read_j131 N) (k + 1)) (f_X9_read_j131 N) (nI n) (decide (tkn B q e = 9)) m else bnd (f_X9_isWord N 409469 m) fun r3 s3 => if r3 = true then f_X9_read_j58 N (f_X9_read_L21 N (f_X9_read_j131 N) (k + 1)) (f_X9_read_j131 N) (nI n) (decide (tkn B q e = 9)) s3 else f_X9_read_j68 N (f_X9_read_L21 N (f_X9_read_j131 N) (k + 1)) (f_X9_read_j131 N) (nI n) (decide (tkn B q e = 9)) s3) = f_X9_read_j69 N (f_X9_read_L21 N (f_X9_read_j131 N) (k + 1)) (f_X9_read_j131 N) (nI n) (decide (tkn B q e = 9)) (decide ((tkn B q e = 9 ∨ tkn B q e = 10) ∧ n < 6)) m := by
        unfold f_X9_read_j58 f_X9_read_j68
        rw [kle6 (by omega), w10, bnd_s, ite_d, kle6 (by omega)]
        by_cases y : (tkn B q e = 9 ∨ tkn B q e = 10) ∧ n < 6
        · rw [decide_eq_true y]
          by_cases x : tkn B q e = 9
          · rw [if_pos x, if_neg (by omega)]
          · rw [if_neg x, if_pos (by omega), if_neg (by omega)]
        · rw [decide_eq_false y]
          by_cases x : tkn B q e = 9
          · rw [if_pos x, if_pos (by omega)]
          · rw [if_neg x]
            by_cases x2 : tkn B q e = 10
            · rw [if_pos x2, if_pos (by omega)]
            · rw [if_neg x2]
      rw [e69]
      have bad : ∀ {p : Nat} {cc m2 : Mem}, CLr N j c = some (nI p, cc) → CBr c0 cc → rI m2 61 22 = nI p → p ≤ 200 → MFr m0 m2 → (∃ c' n' m', CLr N j c = some (-3, c') ∧ f_X9_read_j93 N (f_X9_read_L21 N (f_X9_read_j131 N) (k + 1)) (f_X9_read_j131 N) (nI n) (decide (tkn B q e = 9)) m2 = f_X9_read_j131 N (nI n') m' ∧ INF c0 m0 n' c' m') ∨ (∃ p c' m' v, CLr N j c = some (nI p, c') ∧ CBr c0 c' ∧ f_X9_read_j93 N (f_X9_read_L21 N (f_X9_read_j131 N) (k + 1)) (f_X9_read_j131 N) (nI n) (decide (tkn B q e = 9)) m2 = f_X9_read_j131 N v m' ∧ MFr m0 m' ∧ rI m' 61 22 = nI p ∧ p ≤ 200) := by
        intro p cc m2 h1 h2 h3 h4 h5
        exact Or.inr ⟨p, cc, m2, nI n, h1, h2, j93_b h3 h4 _ _, h5, h3, h4⟩
      unfold f_X9_read_j69
      by_cases zc : (tkn B q e = 9 ∨ tkn B q e = 10) ∧ n < 6
      · obtain ⟨m1, a1, a2, a3, a4⟩ := m_advn (N := N) (f1.tap tp) f3 nb.2 hN
        have g1 : rI m1 61 22 = -1 := by rw [a3 _ _ (by omega)]; exact f2
        obtain ⟨c3, d1, d2⟩ := c_clau (N := N) k2 zc.2 zc.1 hN
        have R : ∀ o k, ¬ (o = 61 ∧ 18 ≤ k ∧ k ≤ 20) → ¬ (o = 61 ∧ k = 28) → rI (wI m1 61 28 0) o k = rI m o k := fun o k y1 y2 => by rw [rI_w, if_neg y2, a3 o k y1]
        have cg : ∀ r k, r < n → adS n (if tkn B q e = 9 then 1 else 0) ss 0 tc r k = tc r k := fun r k hr => by unfold adS; rw [if_neg (by omega)]
        have IN1 : IN c0 m0 q B n (if tkn B q e = 9 then 1 else 0) (tnx B q e) (tnx B q e) (j + 1) 0 1 0 c3 (wI m1 61 28 0) := by
          refine ⟨ss, 0, 0, pos ts ss, lf, _, adS n (if tkn B q e = 9 then 1 else 0) ss 0 tc, ts, W, d2, ⟨nl, by omega, Nat.le_refl _, nb.2, b4, by omega, by omega, by decide, zc.2, ?_, Nat.le_refl _, by omega⟩, ⟨fun i hi => absurd hi (by omega), rfl⟩, ⟨?_, ?_, ?_, ?_⟩, ⟨fun _ => rfl, fun y => absurd y (by decide), fun y => absurd y (by decide)⟩, ⟨f1.of (fun o k y1 y2 => R o k (by omega) (by omega)) (fun o k y1 => by rw [rL_wI, a4 o k y1]), by rw [R _ _ (by omega) (by omega)]; exact f2, a2.keep (fun k y1 y2 => by rw [rI_w, if_neg (by omega)]) rfl, by rw [R _ _ (by omega) (by omega)]; exact f4, by rw [rI_w, if_pos ⟨rfl, rfl⟩]; rfl⟩, ⟨fun i hi => absurd hi (by omega), fun i hi => absurd hi (by omega)⟩, ?_⟩
          · split <;> omega
          · unfold adS; rw [if_pos rfl, if_pos rfl]
          · have : adS n (if tkn B q e = 9 then 1 else 0) ss 0 tc n 1 = ss := by unfold adS; rw [if_pos rfl, if_neg (by decide), if_pos rfl]
            rw [this]
            by_cases y : n = 0
            · rw [if_pos y] at b8 ⊢; exact b8
            · rw [if_neg y] at b8 ⊢; rw [cg _ _ (by omega)]; exact b8
          · unfold adS; rw [if_pos rfl, if_neg (by decide), if_pos rfl]; exact Nat.le_refl _
          · have : adS n (if tkn B q e = 9 then 1 else 0) ss 0 tc n 1 = ss := by unfold adS; rw [if_pos rfl, if_neg (by decide), if_pos rfl]
            rw [this, Nat.sub_self]; rfl
          · exact (dn.keep (fun _ _ _ => rfl) (fun i _ => R _ _ (by omega) (by omega)) (fun r hr => ⟨R _ _ (by omega) (by omega), R _ _ (by omega) (by omega)⟩) (Nat.le_refl _) (fun k y1 y2 => absurd y1 (by omega))).tc cg
        have go : CLr N j c = CLr N (j + 1) c3 := by
          rw [k3, if_neg z0, d1, bnd_s]
          unfold KA
          rw [if_pos rfl]
        obtain ⟨m2, h1, h2⟩ := wcond (N := N) tp hN (q - tnx B q e + 1) (tnx B q e) (j + 1) 0 N true c3 (wI m1 61 28 0) (by omega) (by omega) IN1
        have hcond : f_X9_wantCond N m1 = some ((), m2) := by unfold f_X9_wantCond; rw [lt_e]; exact h1
        rw [decide_eq_true zc, want_g f2, a1, bnd_s, bnd_s, good_t g1, bnd_s, if_pos rfl, hcond, bnd_s]
        rcases h2 with ⟨c', e', j', y1, y2, I', n11, n12⟩ | ⟨p, c', y1, y2, y3⟩
        · obtain ⟨g2, t2, F2, -, he2, -⟩ := I'.mm
          have pb2 := plc_b (B := B) he2
          have tb2 := tkn_b (B := B) (q := q) e'
          have w19 : f_X9_isMark N 59 m2 = some (decide (tkn B q e' = 19), m2) := mm (F2.tap tp) he2 t2 (y := 2) (by decide)
          obtain ⟨c4, l1, l2, l3, l4, l5⟩ := I'.step tp hN
          rw [w19, bnd_s]
          by_cases z19 : tkn B q e' = 19
          · have nz : tkn B q e' ≠ 0 := by omega
            have nb2 := tnx_b he2 nz
            have I4 := l2 nz
            obtain ⟨q7, q8, -, -⟩ := I4.cc
            obtain ⟨c5, s1, s2, s3⟩ := I4.settleC (N := N) (by decide) (by decide) hN
            obtain ⟨m3, v1, v2⟩ := s2.adv (N := N) tp rfl nb2.1 hN
            obtain ⟨c6, u1, u2, u3⟩ := v2.done (N := N)
            obtain ⟨g3, -, -, -, -, -⟩ := v2.mm
            have go2 : CLr N j c = CLr N (j' + 1) c6 := by
              rw [go, y2, l5, if_neg nz, acc_5 l4, z19, of_19 q8, show f_X7_settle N 11 c4 = some ((), c5) from s1, bnd_s, u1, bnd_s, bnd_s]
              unfold KA
              rw [if_pos rfl]
            have e93 : f_X9_read_j93 N (f_X9_read_L21 N (f_X9_read_j131 N) (k + 1)) (f_X9_read_j131 N) (nI n) (decide (tkn B q e = 9)) m3 = f_X9_read_L21 N (f_X9_read_j131 N) (k + 1) (nI (n + 1)) (wI (wI m3 75 n (rI m3 61 27)) 76 n (nI (if tkn B q e = 9 then 1 else 0))) := by
              unfold f_X9_read_j93 f_X9_read_j124
              rw [good_t g3, bnd_s, if_pos rfl, gk (by omega), lt_e, nI_clamp (by omega), ite_d, gk (by omega), gk (by omega), lt_e, lt_e, nI_1]
              by_cases y : tkn B q e = 9
              · rw [if_pos y, if_pos y]; rfl
              · rw [if_neg y, if_neg y]; rfl
            rw [decide_eq_true z19, want_g g2, v1, bnd_s, bnd_s, e93]
            have hi := ih (tnx B q e') (j' + 1) (n + 1) (k + 1) c6 _ (by omega) (by omega) u3
            rw [go2]
            exact hi
          · have gf : rI (wI m2 61 22 (rI m2 61 19)) 61 22 = nI (tkF B q e') := by rw [rI_w, if_pos ⟨rfl, rfl⟩, t2.1]
            rw [decide_eq_false z19, want_f g2, bnd_s]
            refine bad ?_ l3 gf (by omega) (F2.of (fun o k y1 y2 => by rw [rI_w, if_neg (by omega)]) (fun o k _ => rfl))
            rw [go, y2]
            refine I'.flt l1 l3 l4 (by decide) (by decide) l5 (fun nz => ?_)
            obtain ⟨q7, q8, -, -⟩ := (l2 nz).cc
            rw [acc_5 l4, of_x tb2 n11 n12 (fun _ => rfl) (fun y => absurd y z19) q8 (by decide), bnd_s]
        · obtain ⟨b, e59⟩ := isMark_any (N := N) (m := m2) 59
          rw [e59, bnd_s, want_b y3.2.1 y3.2.2.1, bnd_s]
          exact bad (by rw [go]; exact y1) y2 y3.2.1 y3.2.2.1 y3.1
      · have gf : rI (wI m 61 22 (rI m 61 19)) 61 22 = nI (tkF B q e) := by rw [rI_w, if_pos ⟨rfl, rfl⟩, f3.1]
        rw [decide_eq_false zc, want_f f2, bnd_s, good_f gf (by omega), bnd_s, ite_F]
        refine bad ?_ (k2.cb nl) gf (by omega) (f1.of (fun o k y1 y2 => by rw [rI_w, if_neg (by omega)]) (fun o k _ => rfl))
        rw [k3, if_neg z0, acc_0x k7 tb k2.2.2.1.1 zc, bnd_s]
        unfold KA
        rw [if_neg (by decide), k1]
end CLAU2
