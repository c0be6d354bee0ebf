-- changes: what they keep
theorem Rv.keepB {c c2 m m2 : Mem} {v v2 vk : VB} (h : Rv c m v vk) (h1 : RCb c2 1 v2) (h2 : RMl m2 v2) (h3 : IV v2) (hc : ∀ o k, o = 0 ∨ 15 < o → ¬ scr o → rI c2 o k = rI c o k) (hm : ∀ o k, (o = 61 ∧ (k = 17 ∨ k = 31 ∨ k = 42 ∨ k = 44) ∨ o = 72 ∨ 78 ≤ o ∧ o ≤ 80 ∨ 82 ≤ o ∧ o ≤ 86) → rI m2 o k = rI m o k) (hl : ∀ k, rL m2 81 k = rL m 81 k) : Rv c2 m2 v2 vk := by
  obtain ⟨-, -, -, h4, h5, h6, h7, h8, h9, h10⟩ := h
  have e : ∀ o k, (o = 0 ∨ 35 < o ∨ 15 < o ∧ o < 31) → rI c2 o k = rI c o k := fun o k ho => hc o k (by omega) (by unfold scr; omega)
  have f : ∀ o k, (o = 72 ∨ 78 ≤ o ∧ o ≤ 80 ∨ 82 ≤ o ∧ o ≤ 86) → rI m2 o k = rI m o k := fun o k ho => hm o k (Or.inr ho)
  have g : ∀ k, (k = 17 ∨ k = 31 ∨ k = 42 ∨ k = 44) → rI m2 61 k = rI m 61 k := fun k ho => hm 61 k (Or.inl ⟨rfl, ho⟩)
  refine ⟨h1, h2, h3, ?_, ?_, ?_, ?_, ?_, ?_, ?_⟩
  · obtain ⟨b, b1, b2, b3, b4⟩ := h4
    have ec : cvK m2 = cvK m := by funext j; exact f _ _ (by decide)
    have ea : avK m2 = avK m := by funext j i; exact f _ _ (by decide)
    exact ⟨b, by rw [e _ _ (by omega)]; exact b1, by rw [g _ (by omega)]; exact b2, b3.keep (fun o k q1 q2 => e o k (by omega)), by rw [ec, ea]; exact b4⟩
  · obtain ⟨n, n1, n2, n3, n4⟩ := h5
    refine ⟨n, n1, by rw [e _ _ (by omega)]; exact n2, by rw [g _ (by omega)]; exact n3, fun k hk => ?_⟩
    rw [e _ _ (by omega), f _ _ (by omega)]; exact n4 k hk
  · obtain ⟨n, n1, n2, n3⟩ := h6
    refine ⟨n, n1.keep (fun k => e _ _ (by omega)), by rw [g _ (by omega)]; exact n2, fun r k hr hk => ?_⟩
    rw [e _ _ (by omega), f _ _ (by omega)]; exact n3 r k hr hk
  · intro j hj
    obtain ⟨so, n, n1, n2, n3, n4, n5, n6⟩ := h7 j hj
    refine ⟨so, n, n1, by rw [e _ _ (by omega)]; exact n2, by rw [f _ _ (by omega)]; exact n3, by rw [e _ _ (by omega)]; exact n4, by rw [f _ _ (by omega)]; exact n5, fun i hi => ?_⟩
    rw [e _ _ (by omega), hl]; exact n6 i hi
  · refine ⟨h8.1.keep (fun k => e _ _ (by omega)), fun j hj => ?_⟩
    have q := h8.2 j hj
    simp only [e 57 _ (by omega), f 82 _ (by omega), f 83 _ (by omega), f 84 _ (by omega)]
    exact q
  · obtain ⟨n, n1, n2, n3, n4⟩ := h9
    refine ⟨n, n1, by rw [e _ _ (by omega)]; exact n2, by rw [g _ (by omega)]; exact n3, fun k hk => ?_⟩
    rw [e _ _ (by omega), f _ _ (by omega)]; exact n4 k hk
  · exact h10.keep (fun o k w1 w2 => e o k (by omega))
theorem tb_setR (v : VB) (j r k x i r' k' : Nat) : tb (setR v j r k x) i r' k' = if i = j ∧ r' = r ∧ k' = k then x else tb v i r' k' := by
  show (if i = j then (if r' = r ∧ k' = k then x else tb v j r' k') else tb v i r' k') = _
  by_cases h : i = j
  · subst h
    by_cases h2 : r' = r ∧ k' = k
    · rw [if_pos rfl, if_pos h2, if_pos ⟨rfl, h2⟩]
    · rw [if_pos rfl, if_neg h2, if_neg (fun z => h2 z.2)]
  · rw [if_neg h, if_neg (fun z => h z.1)]
theorem cnt_setR (v : VB) (j r k x i : Nat) : cnt (setR v j r k x) i = cnt v i := rfl
theorem tb_addR (v : VB) (j i r k : Nat) (row : Nat → Nat) : tb (addR v j row) i r k = if i = j ∧ r = cnt v j then row k else tb v i r k := by
  show (if i = j then (if r = cnt v j then row k else tb v j r k) else tb v i r k) = _
  by_cases h : i = j
  · subst h
    by_cases h2 : r = cnt v i
    · rw [if_pos rfl, if_pos h2, if_pos ⟨rfl, h2⟩]
    · rw [if_pos rfl, if_neg h2, if_neg (fun z => h2 z.2)]
  · rw [if_neg h, if_neg (fun z => h z.1)]
theorem cnt_addR (v : VB) (j i : Nat) (row : Nat → Nat) : cnt (addR v j row) i = if i = j then cnt v j + 1 else cnt v i := rfl
theorem ofP_c {v w : VB} (p : Nat) : ∀ n, (∀ r, r < n → tb w 1 r 0 = tb v 1 r 0) → ofP w p n = ofP v p n := by
  intro n
  induction n with
  | zero => intro _; rfl
  | succ n ih => intro h; rw [ofP, ofP, ih (fun r hr => h r (by omega)), h n (by omega)]
theorem IV.set0 {v : VB} (hv : IV v) {r x : Nat} (hx : x ≤ 161) : IV (setR v 0 r 3 x) := by
  obtain ⟨h0, h1, h2, h3, h4, h5, h6, h7⟩ := hv
  refine ⟨fun q hq => ?_, h1, h2, h3, h4, fun p => ?_, h6, h7⟩
  · have := h0 q hq
    rw [tb_setR, tb_setR, tb_setR, tb_setR, if_neg (by omega), if_neg (by omega), if_neg (by omega)]
    refine ⟨this.1, this.2.1, this.2.2.1, ?_⟩
    split
    · exact hx
    · exact this.2.2.2
  · show ofP _ _ (cnt v 1) ≤ 6
    rw [ofP_c (v := v) p _ (fun r _ => by rw [tb_setR, if_neg (by omega)])]; exact h5 p
theorem IV.set1 {v : VB} (hv : IV v) {r x : Nat} (hx : x ≤ 160) : IV (setR v 1 r 3 x) := by
  obtain ⟨h0, h1, h2, h3, h4, h5, h6, h7⟩ := hv
  refine ⟨h0, fun q hq => ?_, h2, h3, h4, fun p => ?_, h6, h7⟩
  · have := h1 q hq
    refine ⟨by rw [tb_setR, if_neg (by omega)]; exact this.1, by rw [tb_setR, if_neg (by omega)]; exact this.2.1, by rw [tb_setR, if_neg (by omega)]; exact this.2.2.1, ?_, by rw [tb_setR, if_neg (by omega)]; exact this.2.2.2.2.1, by rw [tb_setR, if_neg (by omega)]; exact this.2.2.2.2.2.1, by rw [tb_setR, if_neg (by omega)]; exact this.2.2.2.2.2.2⟩
    rw [tb_setR]
    split
    · exact hx
    · exact this.2.2.2.1
  · show ofP _ _ (cnt v 1) ≤ 6
    rw [ofP_c (v := v) p _ (fun r _ => by rw [tb_setR, if_neg (by omega)])]; exact h5 p
theorem IV.set4 {v : VB} (hv : IV v) {r x : Nat} (hx : x ≤ 2) : IV (setR v 4 r 3 x) := by
  obtain ⟨h0, h1, h2, h3, h4, h5, h6, h7⟩ := hv
  refine ⟨h0, h1, h2, h3, fun q hq => ?_, fun p => ?_, h6, h7⟩
  · have := h4 q hq
    rw [tb_setR, tb_setR, tb_setR, tb_setR, if_neg (by omega), if_neg (by omega), if_neg (by omega)]
    refine ⟨this.1, this.2.1, this.2.2.1, ?_⟩
    split
    · exact hx
    · exact this.2.2.2
  · show ofP _ _ (cnt v 1) ≤ 6
    rw [ofP_c (v := v) p _ (fun r _ => by rw [tb_setR, if_neg (by omega)])]; exact h5 p
-- the model's side
theorem av_w {m : Mem} {o k j : Nat} {x : Int32} (h : 62 + j ≠ o) : avL (wI m o k x) j = avL m j := by
  funext i; exact rI_ne h
theorem cv_w {m : Mem} {o k : Nat} {x : Int32} (h : 61 ≠ o) : cvL (wI m o k x) = cvL m := by
  funext i; exact rI_ne h
theorem RMl_i {m : Mem} {v : VB} : RMl m v ↔ K0 (cvL m 0) (avL m 0) (cnt v 0) (tb v 0) ∧ K1 (cvL m 1) (avL m 1) (cnt v 1) (tb v 1) ∧ K2 (avL m 2) (tb v 2) ∧ K3 (cvL m 2) (avL m 3) (cnt v 7) (cnt v 1) (tb v 1) ∧ K4 (cvL m 3) (avL m 4) (cnt v 3) (tb v 3) ∧ K4 (cvL m 4) (avL m 5) (cnt v 4) (tb v 4) ∧ K6 (cvL m 5) (avL m 6) (avL m 7) (avL m 8) (cnt v 5) (cnt v 6) (tb v 5) (tb v 6) := Iff.rfl
theorem K0.set {n : Int32} {a b : Nat → Int32} {c r k x : Nat} {t u : Nat → Nat → Nat} (h : K0 n a c t) (hk : k < 4) (hb : ∀ i, b i = if i = 4 * r + k then (if k = 3 then trM x else nI x) else a i) (hu : ∀ r' k', u r' k' = if r' = r ∧ k' = k then x else t r' k') : K0 n b c u := by
  refine ⟨h.1, fun q hq => ⟨fun i hi => ?_, ?_⟩⟩
  · rw [hb, hu]
    by_cases z : q = r ∧ i = k
    · rw [if_pos (by omega), if_pos z, if_neg (by omega)]
    · rw [if_neg (by omega), if_neg z]; exact (h.2 q hq).1 i hi
  · rw [hb, hu]
    by_cases z : q = r ∧ 3 = k
    · rw [if_pos (by omega), if_pos z, if_pos z.2.symm]
    · rw [if_neg (by omega), if_neg z]; exact (h.2 q hq).2
theorem K1.set {n : Int32} {a b : Nat → Int32} {c r k x : Nat} {t u : Nat → Nat → Nat} (h : K1 n a c t) (hk : k < 6) (hb : ∀ i, b i = if i = 6 * r + k then (if k = 5 then trM x else nI x) else a i) (hu : ∀ r' k', u r' k' = if r' = r ∧ k' = k then x else t r' k') : K1 n b c u := by
  refine ⟨h.1, fun q hq => ⟨fun i hi => ?_, ?_⟩⟩
  · rw [hb, hu]
    by_cases z : q = r ∧ i = k
    · rw [if_pos (by omega), if_pos z, if_neg (by omega)]
    · rw [if_neg (by omega), if_neg z]; exact (h.2 q hq).1 i hi
  · rw [hb, hu]
    by_cases z : q = r ∧ 5 = k
    · rw [if_pos (by omega), if_pos z, if_pos z.2.symm]
    · rw [if_neg (by omega), if_neg z]; exact (h.2 q hq).2
theorem K4.set {n : Int32} {a b : Nat → Int32} {c r k x : Nat} {t u : Nat → Nat → Nat} (h : K4 n a c t) (hk : k < 4) (hb : ∀ i, b i = if i = 4 * r + k then nI x else a i) (hu : ∀ r' k', u r' k' = if r' = r ∧ k' = k then x else t r' k') : K4 n b c u := by
  refine ⟨h.1, fun q hq i hi => ?_⟩
  rw [hb, hu]
  by_cases z : q = r ∧ i = k
  · rw [if_pos (by omega), if_pos z]
  · rw [if_neg (by omega), if_neg z]; exact h.2 q hq i hi
theorem K3.c {n : Int32} {a : Nat → Int32} {c e : Nat} {t u : Nat → Nat → Nat} (h : K3 n a c e t) (hu : ∀ r, u r 6 = t r 6) : K3 n a c e u := by
  refine ⟨h.1, fun q hq => ?_, fun x y h1 h2 => ?_⟩
  · obtain ⟨x, y, g⟩ := h.2.1 q hq
    exact ⟨x, y, by rw [hu]; exact g⟩
  · rw [hu] at h2; exact h.2.2 x y h1 h2
theorem avw {m : Mem} {j k i : Nat} {x : Int32} : avL (wI m (62 + j) k x) j i = if i = k then x else avL m j i := by
  show rI _ _ _ = _
  rw [rI_w]
  by_cases z : i = k
  · rw [if_pos ⟨rfl, z⟩, if_pos z]
  · rw [if_neg (fun q => z q.2), if_neg z]; rfl
section RMS
variable {m : Mem} {v : VB}
theorem RMl_set0 (h : RMl m v) {r k x : Nat} {X : Int32} (hk : k < 4) (hX : X = if k = 3 then trM x else nI x) : RMl (wI m 62 (4 * r + k) X) (setR v 0 r k x) := by
  obtain ⟨h0, h1, h2, h3, h4, h5, h6⟩ := RMl_i.mp h
  refine RMl_i.mpr ?_
  rw [cv_w (by decide), av_w (j := 1) (by decide), av_w (j := 2) (by decide), av_w (j := 3) (by decide), av_w (j := 4) (by decide), av_w (j := 5) (by decide), av_w (j := 6) (by decide), av_w (j := 7) (by decide), av_w (j := 8) (by decide)]
  exact ⟨h0.set (r := r) (x := x) hk (fun i => by rw [show (62 : Nat) = 62 + 0 from rfl, avw, hX]) (fun _ _ => by rw [tb_setR]; simp), h1, h2, h3, h4, h5, h6⟩
theorem RMl_set1 (h : RMl m v) {r k x : Nat} {X : Int32} (hk : k < 6) (hX : X = if k = 5 then trM x else nI x) : RMl (wI m 63 (6 * r + k) X) (setR v 1 r k x) := by
  obtain ⟨h0, h1, h2, h3, h4, h5, h6⟩ := RMl_i.mp h
  refine RMl_i.mpr ?_
  rw [cv_w (by decide), av_w (j := 0) (by decide), av_w (j := 2) (by decide), av_w (j := 3) (by decide), av_w (j := 4) (by decide), av_w (j := 5) (by decide), av_w (j := 6) (by decide), av_w (j := 7) (by decide), av_w (j := 8) (by decide)]
  exact ⟨h0, h1.set (r := r) (x := x) hk (fun i => by rw [show (63 : Nat) = 62 + 1 from rfl, avw, hX]) (fun _ _ => by rw [tb_setR]; simp), h2, h3.c (fun q => by rw [tb_setR, if_neg (by omega)]), h4, h5, h6⟩
theorem RMl_set4 (h : RMl m v) {r k x : Nat} (hk : k < 4) : RMl (wI m 67 (4 * r + k) (nI x)) (setR v 4 r k x) := by
  obtain ⟨h0, h1, h2, h3, h4, h5, h6⟩ := RMl_i.mp h
  refine RMl_i.mpr ?_
  rw [cv_w (by decide), av_w (j := 0) (by decide), av_w (j := 1) (by decide), av_w (j := 2) (by decide), av_w (j := 3) (by decide), av_w (j := 4) (by decide), av_w (j := 6) (by decide), av_w (j := 7) (by decide), av_w (j := 8) (by decide)]
  exact ⟨h0, h1, h2, h3, h4, h5.set (r := r) (x := x) hk (fun i => by rw [show (67 : Nat) = 62 + 5 from rfl, avw]) (fun _ _ => by rw [tb_setR]; simp), h6⟩
end RMS
section OPS2
variable {N : Nat} {c m : Mem} {v vk : VB}
theorem b_truth (R : Rv c m v vk) (a1 a2 : Int32) : Both (f_X8_truth N a1 a2 c) (f_X9_truth N a1 a2 m) := by
  obtain ⟨h, g, hv, -⟩ := id R
  have b0 := hv.n0
  unfold f_X8_truth f_X9_truth
  rw [th_has (T0 h), bnd_s, e_isPer g hv, bnd_s]
  by_cases h1 : isI a1 (cnt v 0) = true
  · obtain ⟨p, hp, rfl⟩ := isI_of (by omega) h1
    have hp10 : p < 10 := by omega
    rw [if_pos h1, if_pos h1, e_within, bnd_s, e_in, bnd_s, ite_d, ite_d]
    by_cases h2 : ¬ a2 < -1 ∧ ¬ (160 : Int32) < a2
    · rw [if_pos h2, if_pos h2, s03 h hp, bnd_s]
      have fin : ∀ x X, x ≤ 161 → a2 = enc 0 3 x → X = trM x → Both (some ((1 : Int32), wI c 3 (p * 4 + 3) a2)) (some (1, wI m 62 (4 * p + 3) X)) := by
        intro x X hx h3 h4
        refine Both.of rfl rfl (R.keepB (RCb_setR (j := 0) (r := p) (k := 3) (x := x) h (by decide) hp (by decide) h3.symm) (RMl_set0 g (by decide) (by rw [if_pos rfl]; exact h4)) (hv.set0 hx) (fun o k ho _ => rI_ne (by omega)) (fun o k ho => rI_ne (by omega)) (fun k => rfl))
      by_cases h3 : 0 ≤ a2
      · obtain ⟨y, hy, rfl⟩ := yr (a := a2) ⟨by rw [i32_lt]; rw [i32_le] at h3; exact Int.not_lt.mpr h3, h2.2⟩
        rw [if_pos h3, qmg3 hp10, lt_e, qmn3 hp10]
        exact fin (y + 1) (nI y) (by omega) rfl rfl
      · have e : a2 = -1 := by
          have h4 := h2.1
          rw [i32_le] at h3
          rw [i32_lt] at h4
          rw [i32_eq]
          have e1 : (-1 : Int32).toInt = -1 := by decide
          have e0 : (0 : Int32).toInt = 0 := by decide
          rw [e1] at h4 ⊢
          rw [e0] at h3
          omega
        rw [if_neg h3, qmg3 hp10, lt_e, qmn3 hp10]
        exact fin 0 (-9) (by omega) (by rw [e]; rfl) rfl
    · rw [if_neg h2, if_neg h2]
      exact both_bad R _
  · rw [if_neg h1, if_neg h1]
    exact both_bad R _
theorem b_correct (R : Rv c m v vk) (a1 a2 : Int32) : Both (f_X8_correct N a1 a2 c) (f_X9_correct N a1 a2 m) := by
  obtain ⟨h, g, hv, -⟩ := id R
  have b0 := hv.np
  unfold f_X8_correct f_X9_correct
  rw [th_has (T1 h), bnd_s, e_isPap g hv, bnd_s]
  by_cases h1 : isI a1 (cnt v 1) = true
  · obtain ⟨p, hp, rfl⟩ := isI_of (by omega) h1
    have hp3 : p < 30 := by omega
    rw [if_pos h1, if_pos h1, e_isYear, bnd_s, e_isYearM, bnd_s, ite_d, ite_d]
    by_cases h2 : ¬ a2 < 0 ∧ ¬ (160 : Int32) < a2
    · obtain ⟨y, hy, rfl⟩ := yr h2
      rw [if_pos h2, if_pos h2, g13 h hp, bnd_s, s13 h hp, bnd_s, pmg3 hp3, lt_e, pmg3 hp3, lt_e, pmn3 hp3, mp3 g hp]
      exact Both.of rfl rfl (R.keepB (RCb_setR (j := 1) (r := p) (k := 3) (x := y) h (by decide) hp (by decide) rfl) (RMl_set1 g (by decide) rfl) (hv.set1 hy) (fun o k ho _ => rI_ne (by omega)) (fun o k ho => rI_ne (by omega)) (fun k => rfl))
    · rw [if_neg h2, if_neg h2]
      exact both_bad R _
  · rw [if_neg h1, if_neg h1]
    exact both_bad R _
theorem b_personOf (R : Rv c m v vk) (hN : 1000 ≤ N) (a1 a2 : Int32) : Both (f_X8_personOf N a1 a2 c) (f_X9_personOf N a1 a2 m) := by
  obtain ⟨h, g, hv, -⟩ := id R
  have b0 := hv.n0
  unfold f_X8_personOf f_X9_personOf
  rw [th_has (T0 h), bnd_s, e_isPer g hv, bnd_s]
  by_cases h1 : isI a1 (cnt v 0) = true
  · obtain ⟨p, hp, rfl⟩ := isI_of (by omega) h1
    have hp10 : p < 10 := by omega
    rw [if_pos h1, if_pos h1, e_in, bnd_s, ite_d]
    by_cases h2 : ¬ a2 < 0 ∧ ¬ (5 : Int32) < a2
    · obtain ⟨w, hw, rfl⟩ := btw_of (n := 5) (by decide) h2.1 h2.2
      rw [if_pos h2, ek0 (by omega), ek1 (by omega), ek2 (by omega), ek3 (by omega), ek3 (by omega), ek4 (by omega), ek4 (by omega), ek5 (by omega), kle3 (by omega)]
      have em : (4 * nI p + nI w : Int32) = nI (4 * p + w) := by rw [show (4 : Int32) * nI p = nI (4 * p) from pk_mul 4 p, nI_add]
      have low : w < 3 → (gin (4 * nI p + nI w) 40 (some ((rI m 62 (4 * nI p + nI w : Int32).toNatClampNeg), m))) = some (nI (tb v 0 p w), m) := by
        intro z
        rw [em, gin_n (by omega) (by omega), nI_clamp (by omega), show rI m 62 (4 * p + w) = nI (tb v 0 p w) from (g.1.2 p hp).1 w z]
      have cs : w = 0 ∨ w = 1 ∨ w = 2 ∨ w = 3 ∨ w = 4 ∨ w = 5 := by omega
      rcases cs with rfl | rfl | rfl | rfl | rfl | rfl
      · rw [if_pos rfl, if_neg (by omega), g00 h hp, bnd_s, low (by omega)]
        exact both_bad R _
      · rw [if_neg (by omega), if_pos rfl, if_neg (by omega), g01 h hp, bnd_s, low (by omega)]
        exact both_bad R _
      · rw [if_neg (by omega), if_neg (by omega), if_pos rfl, if_neg (by omega), g02 h hp, bnd_s, low (by omega)]
        exact both_bad R _
      · rw [if_neg (by omega), if_neg (by omega), if_neg (by omega), if_pos rfl, if_pos (by omega), if_pos rfl, e_seen h hv (by omega) hN, bnd_s, m_seen g hv (by omega) hN, bnd_s]
        exact both_bad R _
      · rw [if_neg (by omega), if_neg (by omega), if_neg (by omega), if_neg (by omega), if_pos rfl, if_pos (by omega), if_neg (by omega), if_pos rfl, e_papersOf h hv (by omega) hN, bnd_s, m_papersOf g hv (by omega) hN, bnd_s]
        exact both_bad R _
      · rw [if_neg (by omega), if_neg (by omega), if_neg (by omega), if_neg (by omega), if_neg (by omega), if_pos rfl, if_pos (by omega), if_neg (by omega), if_neg (by omega), qmg3 hp10, qmn3 hp10, mq3 g hp]
        have ht := (hv.1 p hp).2.2.2
        unfold f_X0_isTruthTold
        rw [g03 h hp, bnd_s]
        by_cases z : tb v 0 p 3 = 0
        · rw [if_pos z, if_pos (by decide), bnd_s, if_neg (by decide), show trM (tb v 0 p 3) = -9 from if_pos z]
          exact both_bad R _
        · rw [if_neg z, lt0_f (by omega), bnd_s, if_pos rfl, g03 h hp, bnd_s, if_neg z, show trM (tb v 0 p 3) = nI (tb v 0 p 3 - 1) from if_neg z]
          exact both_bad R _
    · have ne : ∀ k : Nat, k ≤ 5 → ¬ a2 = nI k := by
        intro k hk e
        exact h2 ⟨by rw [e]; exact nI_pos (by omega), by rw [e]; exact nI_nlt (b := k) (a := 5) hk (by decide)⟩
      rw [if_neg h2, if_neg (show ¬ a2 = 0 from ne 0 (by omega)), if_neg (show ¬ a2 = 1 from ne 1 (by omega)), if_neg (show ¬ a2 = 2 from ne 2 (by omega)), if_neg (show ¬ a2 = 3 from ne 3 (by omega)), if_neg (show ¬ a2 = 4 from ne 4 (by omega)), if_neg (show ¬ a2 = 5 from ne 5 (by omega))]
      exact both_bad R _
  · rw [if_neg h1, if_neg h1]
    exact both_bad R _
end OPS2
