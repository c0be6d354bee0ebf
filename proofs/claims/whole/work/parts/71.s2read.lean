-- read
theorem nI_all (a : Int32) : ∃ n, a = nI n := ⟨a.toBitVec.toNat, Int32.toBitVec_inj.1 (BitVec.eq_of_toNat_eq (by
  show _ = (nI a.toBitVec.toNat).toBitVec.toNat
  rw [pk_tn a.toBitVec.isLt]))⟩
def setW (v : VB) (n ss : Nat) (tc ts : Nat → Nat → Nat) : VB := (fun i => if i = 5 then n else if i = 6 then ss else cnt v i, fun i => if i = 5 then tc else if i = 6 then ts else tb v i)
section READ
variable {N : Nat} {c m : Mem} {v vk : VB}
theorem TA.tap (h : TA c m) : ∃ q B, TAP c m q B := by
  obtain ⟨n, n1, n2, n3, n4⟩ := h
  refine ⟨n, fun k => (rI c 44 k).toNatClampNeg, n1, n2, n3, fun k hk => ?_⟩
  obtain ⟨b, b1, b2, b3⟩ := n4 k hk
  have : (rI c 44 k).toNatClampNeg = b := by rw [b2, nI_clamp (by omega)]
  show (rI c 44 k).toNatClampNeg < 256 ∧ rI c 44 k = nI ((rI c 44 k).toNatClampNeg) ∧ rI m 72 k = nI ((rI c 44 k).toNatClampNeg)
  rw [this]
  exact ⟨b1, b2, b3⟩
theorem Rv.rd (R : Rv c m v vk) {c2 m2 : Mem} {v2 : VB} (h1 : RCb c2 1 v2) (h2 : RMl m2 v2) (h3 : IV v2) (ta : TA c2 m2) (sp : SHP c2) (hc : ∀ o k, ¬ (12 ≤ o ∧ o ≤ 15) → ¬ (36 ≤ o ∧ o ≤ 44) → rI c2 o k = rI c o k) (hm : ∀ o k, ¬ (o = 61 ∧ (k = 11 ∨ 17 ≤ k ∧ k ≤ 28)) → ¬ (68 ≤ o ∧ o ≤ 70) → ¬ (73 ≤ o ∧ o ≤ 76) → rI m2 o k = rI m o k) (hl : ∀ k, rL m2 81 k = rL m 81 k) : Rv c2 m2 v2 vk := by
  obtain ⟨-, -, -, ⟨b, b1, b2, b3, b4⟩, -, ro, sh, sl, tr, -⟩ := R
  have ec : cvK m2 = cvK m := by funext j; exact hm _ _ (by omega) (by omega) (by omega)
  have ea : avK m2 = avK m := by funext j i; exact hm _ _ (by omega) (by omega) (by omega)
  exact ⟨h1, h2, h3, ⟨b, by rw [hc _ _ (by omega) (by omega)]; exact b1, by rw [hm _ _ (by omega) (by omega) (by omega)]; exact b2, b3.keep (fun o k q1 q2 => hc o k (by omega) (by omega)), by rw [ec, ea]; exact b4⟩, ta, ro.keep (fun o k ho => hc o k (by omega) (by omega)) (fun o k ho => hm o k (by omega) (by omega) (by omega)), sh.keep (fun o k ho => hc o k (by omega) (by omega)) (fun o k ho => hm o k (by omega) (by omega) (by omega)) hl, sl.keep (fun o k ho => hc o k (by omega) (by omega)) (fun o k ho => hm o k (by omega) (by omega) (by omega)), tr.keep (fun o k ho => hc o k (by omega) (by omega)) (fun o k ho => hm o k (by omega) (by omega) (by omega)), sp⟩
theorem m_cp6 (K : Int32 → Mem → Option (Int32 × Mem)) {w : Nat} (hw : w ≤ 6) : ∀ d k f m, k + d = w → d < f → ∃ m2, f_X9_read_L158 N K f (nI w) (nI k) m = K (nI w) m2 ∧ (∀ o i, o ≠ 68 → o ≠ 69 → rI m2 o i = rI m o i) ∧ (∀ i, k ≤ i → i < w → rI m2 68 i = rI m 75 i ∧ rI m2 69 i = rI m 76 i) ∧ (∀ i, i < k → rI m2 68 i = rI m 68 i ∧ rI m2 69 i = rI m 69 i) ∧ ∀ o i, rL m2 o i = rL m o i := by
  intro d
  induction d with
  | zero =>
    intro k f m h1 h2
    obtain ⟨f, rfl⟩ := suc_of h2
    refine ⟨m, ?_, fun _ _ _ _ => rfl, fun i a b => absurd a (by omega), fun i _ => ⟨rfl, rfl⟩, fun _ _ => rfl⟩
    unfold f_X9_read_L158
    rw [le_t (by omega) (by omega)]
  | succ d ih =>
    intro k f m h1 h2
    obtain ⟨f, rfl⟩ := suc_of h2
    obtain ⟨m2, e1, e2, e3, e4, e5⟩ := ih (k + 1) f (wI (wI m 68 k (rI m 75 k)) 69 k (rI m 76 k)) (by omega) (by omega)
    refine ⟨m2, ?_, fun o i a b => by rw [e2 o i a b, rI_ne b, rI_ne a], fun i a b => ?_, fun i a => ?_, fun o i => by rw [e5]; rfl⟩
    · unfold f_X9_read_L158
      rw [le_f (by omega) (by omega), gk (by omega), gk (by omega), lt_e, gk (by omega), gk (by omega), nI_clamp (by omega), lt_e, rI_ne (show (76 : Nat) ≠ 68 by decide), nI_1]
      exact e1
    · by_cases z : i = k
      · have := e4 i (by omega)
        rw [this.1, this.2, z, rI_ne (by decide), rI_w, if_pos ⟨rfl, rfl⟩, rI_w, if_pos ⟨rfl, rfl⟩]
        exact ⟨rfl, rfl⟩
      · have := e3 i (by omega) b
        rw [this.1, this.2, rI_ne (by decide), rI_ne (by decide), rI_ne (by decide), rI_ne (by decide)]
        exact ⟨rfl, rfl⟩
    · have := e4 i (by omega)
      rw [this.1, this.2, rI_ne (by decide), rI_w, if_neg (by omega), rI_w, if_neg (by omega), rI_ne (by decide)]
      exact ⟨rfl, rfl⟩
theorem m_cpW {w : Nat} (hw : w ≤ 205) (r : Int32) : ∀ d k f m, k + d = w → d < f → rI m 61 27 = nI w → ∃ m2, f_X9_read_L195 N f r (nI k) m = some (r, m2) ∧ (∀ o i, o ≠ 70 → rI m2 o i = rI m o i) ∧ (∀ i, k ≤ i → i < w → rI m2 70 i = rI m 73 i) ∧ (∀ i, i < k → rI m2 70 i = rI m 70 i) ∧ ∀ o i, rL m2 o i = rL m o i := by
  intro d
  induction d with
  | zero =>
    intro k f m h1 h2 h3
    obtain ⟨f, rfl⟩ := suc_of h2
    refine ⟨m, ?_, fun _ _ _ => rfl, fun i a b => absurd a (by omega), fun i _ => rfl, fun _ _ => rfl⟩
    unfold f_X9_read_L195
    rw [h3, le_t (by omega) (by omega)]
  | succ d ih =>
    intro k f m h1 h2 h3
    obtain ⟨f, rfl⟩ := suc_of h2
    obtain ⟨m2, e1, e2, e3, e4, e5⟩ := ih (k + 1) f (wI m 70 k (rI m 73 k)) (by omega) (by omega) (by rw [rI_ne (by decide)]; exact h3)
    refine ⟨m2, ?_, fun o i a => by rw [e2 o i a, rI_ne a], fun i a b => ?_, fun i a => ?_, fun o i => by rw [e5]; rfl⟩
    · unfold f_X9_read_L195
      rw [h3, le_f (by omega) (by omega), gn (by omega), gn (by omega), lt_e, nI_clamp (by omega), nI_1]
      exact e1
    · by_cases z : i = k
      · rw [e4 i (by omega), z, rI_w, if_pos ⟨rfl, rfl⟩]
      · rw [e3 i (by omega) b, rI_ne (by decide)]
    · rw [e4 i (by omega), rI_w, if_neg (by omega)]
/-- the class begins to read -/
theorem c_start (sp : SHP c) : ∃ c1 lf nu, f_X7_readTape N c = CLr N 0 c1 ∧ nu < 1000 ∧ CIr c c1 0 0 0 0 0 0 lf 0 nu (fun _ _ => 0) (fun _ _ => 0) (fun _ => 0) := by
  obtain ⟨q1, q2, q3, q4, nu, q5, q6⟩ := sp
  obtain ⟨lf, hlf⟩ := nI_all (rI c 36 9)
  have R : ∀ o k, o ≠ 36 → o ≠ 37 → o ≠ 39 → o ≠ 41 → rI (wI (wI (wI (wI (wI (wI (wI (wI c 36 3 1) 37 3 0) 39 3 0) 41 1 0) 36 5 0) 36 8 0) 36 10 0) 36 7 0) o k = rI c o k := fun o k h1 h2 h3 h4 => by
    rw [rI_ne h1, rI_ne h1, rI_ne h1, rI_ne h1, rI_ne h4, rI_ne h3, rI_ne h2, rI_ne h1]
  have A : ∀ k, k ≠ 3 → rI (wI (wI (wI (wI (wI (wI (wI (wI c 36 3 1) 37 3 0) 39 3 0) 41 1 0) 36 5 0) 36 8 0) 36 10 0) 36 7 0) 37 k = rI c 37 k := fun k h => by
    rw [rI_ne (by decide), rI_ne (by decide), rI_ne (by decide), rI_ne (by decide), rI_ne (by decide), rI_ne (by decide), rI_w, if_neg (by omega), rI_ne (by decide)]
  have D : ∀ k, k ≠ 3 → rI (wI (wI (wI (wI (wI (wI (wI (wI c 36 3 1) 37 3 0) 39 3 0) 41 1 0) 36 5 0) 36 8 0) 36 10 0) 36 7 0) 39 k = rI c 39 k := fun k h => by
    rw [rI_ne (by decide), rI_ne (by decide), rI_ne (by decide), rI_ne (by decide), rI_ne (by decide), rI_w, if_neg (by omega), rI_ne (by decide), rI_ne (by decide)]
  have E : ∀ k, k ≠ 3 → k ≠ 5 → k ≠ 8 → k ≠ 10 → k ≠ 7 → rI (wI (wI (wI (wI (wI (wI (wI (wI c 36 3 1) 37 3 0) 39 3 0) 41 1 0) 36 5 0) 36 8 0) 36 10 0) 36 7 0) 36 k = rI c 36 k := fun k h1 h2 h3 h4 h5 => by
    rw [rI_w, if_neg (by omega), rI_w, if_neg (by omega), rI_w, if_neg (by omega), rI_w, if_neg (by omega), rI_ne (by decide), rI_ne (by decide), rI_ne (by decide), rI_w, if_neg (by omega)]
  refine ⟨wI (wI (wI (wI (wI (wI (wI (wI c 36 3 1) 37 3 0) 39 3 0) 41 1 0) 36 5 0) 36 8 0) 36 10 0) 36 7 0, lf, nu, ?_, q5, fun o k hk => R o k (by omega) (by omega) (by omega) (by omega), ⟨?_, ?_⟩, ⟨⟨by rw [A _ (by decide)]; exact q1, by rw [A _ (by decide)]; exact q2, ?_, by decide, rfl, by decide, by decide⟩, fun r k hr => absurd hr (by omega)⟩, ⟨⟨by rw [D _ (by decide)]; exact q3, by rw [D _ (by decide)]; exact q4, ?_, by decide, rfl, by decide, by decide⟩, fun r k hr => absurd hr (by omega)⟩, ⟨?_, fun i hi => absurd hi (by omega)⟩, ?_, ?_, by rw [E _ (by decide) (by decide) (by decide) (by decide) (by decide)]; exact hlf, ?_, by rw [E _ (by decide) (by decide) (by decide) (by decide) (by decide)]; exact q6⟩
  · unfold f_X7_readTape f_X5_clear f_X3_clear CLr
    rw [lt_e, lt_e, bnd_s, lt_e, bnd_s, lt_e, bnd_s, lt_e, lt_e, lt_e, lt_e, Nat.sub_zero]
    rfl
  · rw [rI_w, if_neg (by omega), rI_w, if_neg (by omega), rI_w, if_neg (by omega), rI_w, if_neg (by omega), rI_ne (by decide), rI_ne (by decide), rI_ne (by decide), rI_w, if_pos ⟨rfl, rfl⟩]
  · rw [rI_w, if_neg (by omega), rI_w, if_neg (by omega), rI_w, if_neg (by omega), rI_w, if_pos ⟨rfl, rfl⟩]; rfl
  · rw [rI_ne (by decide), rI_ne (by decide), rI_ne (by decide), rI_ne (by decide), rI_ne (by decide), rI_ne (by decide), rI_w, if_pos ⟨rfl, rfl⟩]; rfl
  · rw [rI_ne (by decide), rI_ne (by decide), rI_ne (by decide), rI_ne (by decide), rI_ne (by decide), rI_w, if_pos ⟨rfl, rfl⟩]; rfl
  · rw [rI_ne (by decide), rI_ne (by decide), rI_ne (by decide), rI_ne (by decide), rI_w, if_pos ⟨rfl, rfl⟩]; rfl
  · rw [rI_w, if_neg (by omega), rI_w, if_neg (by omega), rI_w, if_pos ⟨rfl, rfl⟩]; rfl
  · rw [rI_w, if_pos ⟨rfl, rfl⟩]; rfl
  · rw [rI_w, if_neg (by omega), rI_w, if_pos ⟨rfl, rfl⟩]; rfl
theorem b_read (R : Rv c m v vk) (hN : 1000 ≤ N) : Both (f_X8_read N c) (f_X9_read N m) := by
  obtain ⟨h, g, hv, kp, ta, ro, sh, sl, tr, sp⟩ := id R
  obtain ⟨q, B, tp⟩ := ta.tap
  have hq := tp.1
  obtain ⟨c1, lf, nu, e1, e2, e3⟩ := c_start (N := N) sp
  have Mf : MFr m (wI (wI (wI m 61 22 (-1)) 61 20 0) 61 27 0) := ⟨fun o k w1 w2 => by rw [rI_w, if_neg (by omega), rI_w, if_neg (by omega), rI_w, if_neg (by omega)], fun o k _ => rfl⟩
  obtain ⟨m2, f1, f2, f3, f4, f5, f6, f7⟩ := m_adv (N := N) (Mf.tap tp) (e := 0) (by rw [rI_w, if_neg (by omega), rI_w, if_pos ⟨rfl, rfl⟩]; rfl) (Nat.zero_le _) hN
  have I : ICr c m q B 0 0 0 c1 m2 := ⟨0, lf, nu, _, _, _, e3, ⟨e2, Nat.le_refl _, Nat.zero_le _, hq, Nat.le_refl _, Nat.le_refl _, Nat.zero_le _, rfl⟩, ⟨Mf.of (fun o k w1 w2 => f6 o k (by omega)) f7, by rw [f6 _ _ (by omega), rI_w, if_neg (by omega), rI_w, if_neg (by omega), rI_w, if_pos ⟨rfl, rfl⟩], ⟨f2, f3, f4, f5⟩, by rw [f6 _ _ (by omega), rI_w, if_pos ⟨rfl, rfl⟩]; rfl⟩, ⟨fun r hr => absurd hr (by omega), fun k hk => absurd hk (by omega)⟩⟩
  have out := clsL (N := N) tp hN (q + 1) 0 0 0 N c1 m2 (by omega) (by omega) I
  unfold f_X8_read f_X9_read
  rw [e1, lt_e, lt_e, lt_e, f1, bnd_s, show (0 : Int32) = nI 0 from rfl]
  rcases out with ⟨c', n', m', o1, o2, ss, lf2, nu2, tc, ts, W, e, C, ⟨b1, b2, b3, b4, b5⟩, ⟨d1, d2, d3⟩, dn⟩ | ⟨p, c', m', x, o1, o2, o3, o4, o5, o6⟩
  · have cb := C.cb b1
    have U : ∀ o k, ¬ (36 ≤ o ∧ o ≤ 43) → rI (wI c' 43 1 0) o k = rI c o k := fun o k w1 => by rw [rI_ne (by omega)]; exact cb.1 o k (by omega)
    have V : ∀ o k, 36 ≤ o → o ≤ 42 → rI (wI c' 43 1 0) o k = rI c' o k := fun o k w1 w2 => rI_ne (by omega)
    obtain ⟨C1, C2, C3, C4, C5⟩ := id C
    have T5 : TB (wI c' 43 1 0) 12 3 6 (cnt v 5) := (h.T (j := 5) (by decide)).keep (fun k => U _ _ (by omega))
    have T37 : TB (wI c' 43 1 0) 37 3 6 n' := C3.1.keep (fun k => V _ _ (by omega) (by omega))
    obtain ⟨c3, s1, s2, s3, s4, -⟩ := th_become (N := N) T37 T5 (by decide) (by decide) (by decide)
    have T6 : TB c3 14 3 200 (cnt v 6) := (h.T (j := 6) (by decide)).keep (fun k => by rw [s4 _ _ (by decide) (by decide)]; exact U _ _ (by omega))
    have T39 : TB c3 39 3 200 ss := C4.1.keep (fun k => by rw [s4 _ _ (by decide) (by decide)]; exact V _ _ (by omega) (by omega))
    obtain ⟨c4, t1, t2, t3, t4, -⟩ := th_become (N := N) T39 T6 (by decide) (by decide) (by decide)
    have U4 : ∀ o k, ¬ (12 ≤ o ∧ o ≤ 15) → ¬ (36 ≤ o ∧ o ≤ 43) → rI c4 o k = rI c o k := fun o k w1 w2 => by rw [t4 o k (by omega) (by omega), s4 o k (by omega) (by omega)]; exact U o k w2
    have V4 : ∀ o k, 36 ≤ o → o ≤ 42 → rI c4 o k = rI c' o k := fun o k w1 w2 => by rw [t4 o k (by omega) (by omega), s4 o k (by omega) (by omega)]; exact V o k w1 w2
    have R0 : ∀ o k, ¬ (o = 61 ∧ (k = 11 ∨ k = 17)) → rI (wI (wI m' 61 17 0) 61 11 (nI n')) o k = rI m' o k := fun o k w1 => by rw [rI_w, if_neg (by omega), rI_w, if_neg (by omega)]
    obtain ⟨m3, p1, p2, p3, -, p5⟩ := m_cp6 (N := N) (f_X9_read_j193 N) b2 n' 0 N (wI (wI m' 61 17 0) 61 11 (nI n')) (by omega) (by omega)
    obtain ⟨m4, r1, r2, r3, -, r5⟩ := m_cpW (N := N) (w := pos ts ss) (by omega) (nI n') (pos ts ss) 0 N m3 (by omega) (by omega) (by rw [p2 _ _ (by decide) (by decide), R0 _ _ (by omega)]; exact d3)
    have go : f_X9_read_L21 N (f_X9_read_j131 N) N (nI 0) m2 = some (nI n', m4) := by
      rw [o2]
      unfold f_X9_read_j131
      rw [lt_e, good_t (by rw [rI_w, if_neg (by omega)]; exact d2), bnd_s, if_pos rfl, lt_e, show (0 : Int32) = nI 0 from rfl, show f_X9_read_L158 N (f_X9_read_j193 N) N (nI n') (nI 0) (wI (wI m' 61 17 (nI 0)) 61 11 (nI n')) = f_X9_read_j193 N (nI n') m3 from p1]
      exact r1
    have cl : (bnd (CLr N 0 c1) fun r1 s1 => bnd (f_X3_clear N 43 s1) fun _ s2 => if r1 = (-3) then (bnd (f_X5_become N 12 37 s2) fun _ s3 => bnd (f_X5_become N 14 39 s3) fun _ s4 => some ((rI s4 12 3), s4)) else some (((-100) - r1), s2)) = some (nI n', c4) := by
      unfold f_X3_clear
      rw [o1, bnd_s, lt_e, bnd_s, if_pos rfl, s1, bnd_s, t1, bnd_s, t4 _ _ (by decide) (by decide), s2.2.2.1]
    have M4 : ∀ o k, ¬ (o = 61 ∧ (k = 11 ∨ 17 ≤ k ∧ k ≤ 28)) → ¬ (68 ≤ o ∧ o ≤ 70) → ¬ (73 ≤ o ∧ o ≤ 76) → rI m4 o k = rI m o k := fun o k w1 w2 w3 => by
      rw [r2 o k (by omega), p2 o k (by omega) (by omega), R0 o k (by omega)]
      exact d1.1 o k (by omega) w3
    have rc : RCb c4 1 (setW v n' ss tc ts) := by
      refine ⟨fun j hj => ?_, ?_⟩
      · by_cases j5 : j = 5
        · subst j5
          refine ⟨s2.keep (fun k => t4 _ _ (by decide) (by decide)), fun r k hr hk => ?_⟩
          have hr' : r < n' := hr
          show rI c4 13 (r * 3 + k) = nI (tc r k)
          have hk3 : k < 3 := hk
          rw [t4 _ _ (by decide) (by decide), s3 _ (by omega), V _ _ (by omega) (by omega)]
          exact C3.2 r k hr' hk3
        · by_cases j6 : j = 6
          · subst j6
            refine ⟨t2, fun r k hr hk => ?_⟩
            have hr' : r < ss := hr
            show rI c4 15 (r * 3 + k) = nI (ts r k)
            have hk3 : k < 3 := hk
            rw [t3 _ (by omega), s4 _ _ (by decide) (by decide), V _ _ (by omega) (by omega)]
            exact C4.2 r k hr' hk3
          · have ec : cnt (setW v n' ss tc ts) j = cnt v j := by show (if j = 5 then n' else if j = 6 then ss else cnt v j) = _; rw [if_neg j5, if_neg j6]
            have et : tb (setW v n' ss tc ts) j = tb v j := by show (if j = 5 then tc else if j = 6 then ts else tb v j) = _; rw [if_neg j5, if_neg j6]
            rw [ec]
            refine ⟨(h.T hj).keep (fun k => U4 _ _ (by omega) (by omega)), fun r k hr hk => ?_⟩
            show _ = enc j k ((setW v n' ss tc ts).2 j r k)
            have et' : (setW v n' ss tc ts).2 j r k = tb v j r k := by rw [show (setW v n' ss tc ts).2 j = tb v j from et]
            rw [et', U4 _ _ (by omega) (by omega)]
            exact h.C hj hr hk
      · rw [U4 _ _ (by omega) (by omega)]; exact h.2
    have rm : RMl m4 (setW v n' ss tc ts) := by
      obtain ⟨k0, k1, k2, k3, k4, k5, -⟩ := g
      have ec : ∀ j, j < 5 → cvL m4 j = cvL m j := fun j hj => by
        have cs : j = 0 ∨ j = 1 ∨ j = 2 ∨ j = 3 ∨ j = 4 := by omega
        rcases cs with rfl | rfl | rfl | rfl | rfl
        · exact M4 61 0 (by omega) (by omega) (by omega)
        · exact M4 61 2 (by omega) (by omega) (by omega)
        · exact M4 61 5 (by omega) (by omega) (by omega)
        · exact M4 61 7 (by omega) (by omega) (by omega)
        · exact M4 61 9 (by omega) (by omega) (by omega)
      have ea : ∀ j, j < 6 → avL m4 j = avL m j := fun j hj => by funext i; exact M4 _ _ (by omega) (by omega) (by omega)
      refine ⟨?_, ?_, ?_, ?_, ?_, ?_, ?_⟩
      · rw [ec 0 (by decide), ea 0 (by decide)]; exact k0
      · rw [ec 1 (by decide), ea 1 (by decide)]; exact k1
      · rw [ea 2 (by decide)]; exact k2
      · rw [ec 2 (by decide), ea 3 (by decide)]; exact k3
      · rw [ec 3 (by decide), ea 4 (by decide)]; exact k4
      · rw [ec 4 (by decide), ea 5 (by decide)]; exact k5
      · show K6 (rI m4 61 11) (avL m4 6) (avL m4 7) (avL m4 8) n' ss tc ts
        refine ⟨?_, fun r hr => ?_, by omega, fun k hk => ?_, fun r hr => (dn.1 r hr).2.2.2.2.2.2, fun k hk => (dn.2 k hk).1⟩
        · rw [r2 _ _ (by decide), p2 _ _ (by decide) (by decide), rI_w, if_pos ⟨rfl, rfl⟩]
        · obtain ⟨x1, x2, x3, x4, x5, x6, x7⟩ := dn.1 r hr
          obtain ⟨y1, y2⟩ := p3 r (Nat.zero_le _) hr
          refine ⟨?_, ?_, x3, x4, x5, x6⟩
          · show rI m4 68 r = _
            rw [r2 _ _ (by decide), y1, R0 _ _ (by omega)]; exact x1
          · show rI m4 69 r = _
            rw [r2 _ _ (by decide), y2, R0 _ _ (by omega)]; exact x2
        · have pm := pos_mono ts (k + 1) (ss - (k + 1))
          rw [show k + 1 + (ss - (k + 1)) = ss by omega, pos] at pm
          have ly := (dn.2 k hk).2
          have e70 : ∀ i, i < pos ts ss → avL m4 8 i = rI m' 73 i := fun i hi => by
            show rI m4 70 i = _
            rw [r3 i (Nat.zero_le _) hi, p2 _ _ (by decide) (by decide), R0 _ _ (by omega)]
          unfold LYk at ly
          by_cases z : joint (ts k 0) = true
          · rw [if_pos z] at ly pm ⊢
            rw [e70 _ (by omega)]; exact ly
          · rw [if_neg z] at ly pm ⊢
            rw [e70 _ (by omega), e70 _ (by omega), e70 _ (by omega)]; exact ly
    have iv : IV (setW v n' ss tc ts) := by
      obtain ⟨i0, i1, i2, i3, i4, i5, i6, i7, i8, i9, i10, i11, i12⟩ := hv
      refine ⟨i0, i1, i2, i3, i4, fun p => ?_, i6, i7, i8, i9, i10, b2, b3⟩
      show ofP (setW v n' ss tc ts) p (cnt v 1) ≤ 6
      rw [ofP_c (v := v) (w := setW v n' ss tc ts) p (cnt v 1) (fun r _ => rfl)]
      exact i5 p
    rw [go, cl]
    exact Both.of rfl rfl (R.rd rc rm iv ⟨0, by decide, by rw [t4 _ _ (by decide) (by decide), s4 _ _ (by decide) (by decide), rI_w, if_pos ⟨rfl, rfl⟩]; rfl, by rw [r2 _ _ (by decide), p2 _ _ (by decide) (by decide), rI_w, if_neg (by omega), rI_w, if_pos ⟨rfl, rfl⟩]; rfl, fun k hk => absurd hk (by omega)⟩ (cb.2.keep (fun o k w1 w2 => V4 o k w1 (by omega))) (fun o k w1 w2 => U4 o k w1 (by omega)) M4 (fun k => by rw [r5, p5]; exact d1.2 81 k (by omega)))
  · have cl : (bnd (CLr N 0 c1) fun r1 s1 => bnd (f_X3_clear N 43 s1) fun _ s2 => if r1 = (-3) then (bnd (f_X5_become N 12 37 s2) fun _ s3 => bnd (f_X5_become N 14 39 s3) fun _ s4 => some ((rI s4 12 3), s4)) else some (((-100) - r1), s2)) = some (-100 - nI p, wI c' 43 1 0) := by
      unfold f_X3_clear
      rw [o1, bnd_s, lt_e, bnd_s, if_neg (nI_ne3 (by omega))]
    have go : f_X9_read_L21 N (f_X9_read_j131 N) N (nI 0) m2 = some (-100 - nI p, wI m' 61 17 0) := by
      have e22 : rI (wI m' 61 17 0) 61 22 = nI p := by rw [rI_w, if_neg (by omega)]; exact o5
      rw [o3]
      unfold f_X9_read_j131
      rw [lt_e, good_f e22 o6, bnd_s, ite_F, e22]
    have U : ∀ o k, ¬ (36 ≤ o ∧ o ≤ 43) → rI (wI c' 43 1 0) o k = rI c o k := fun o k w1 => by rw [rI_ne (by omega)]; exact o2.1 o k (by omega)
    have M4 : ∀ o k, ¬ (o = 61 ∧ 17 ≤ k ∧ k ≤ 28) → ¬ (73 ≤ o ∧ o ≤ 76) → rI (wI m' 61 17 0) o k = rI m o k := fun o k w1 w3 => by
      rw [rI_w, if_neg (by omega)]
      exact o4.1 o k (by omega) w3
    rw [go, cl]
    exact Both.of rfl rfl (R.rd (h.keep (fun o k w1 w2 => U o k (by omega))) (RMl_s g (fun o k ho => M4 o k (by omega) (by omega))) hv ⟨0, by decide, by rw [rI_w, if_pos ⟨rfl, rfl⟩]; rfl, by rw [rI_w, if_pos ⟨rfl, rfl⟩]; rfl, fun k hk => absurd hk (by omega)⟩ (o2.2.keep (fun o k w1 w2 => rI_ne (by omega))) (fun o k w1 w2 => U o k (by omega)) (fun o k w1 w2 w3 => M4 o k (by omega) w3) (fun k => o4.2 81 k (by omega)))
end READ
