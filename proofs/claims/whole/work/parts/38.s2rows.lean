-- what stays as it was, part by part
section KEEPS
variable {c m c2 m2 : Mem} {v vk : VB}
theorem TA.keep (h : TA c m) (hc : ∀ o k, o = 43 ∨ o = 44 → rI c2 o k = rI c o k) (hm : ∀ o k, o = 72 ∨ o = 61 ∧ k = 17 → rI m2 o k = rI m o k) : TA c2 m2 := by
  obtain ⟨n, n1, n2, n3, n4⟩ := h
  refine ⟨n, n1, by rw [hc _ _ (by omega)]; exact n2, by rw [hm _ _ (by omega)]; exact n3, fun k hk => ?_⟩
  rw [hc _ _ (by omega), hm _ _ (by omega)]; exact n4 k hk
theorem RO.keep (h : RO c m) (hc : ∀ o k, o = 45 ∨ o = 46 → rI c2 o k = rI c o k) (hm : ∀ o k, o = 78 ∨ o = 61 ∧ k = 31 → rI m2 o k = rI m o k) : RO c2 m2 := by
  obtain ⟨n, n1, n2, n3⟩ := h
  refine ⟨n, n1.keep (fun k => hc _ _ (by omega)), by rw [hm _ _ (by omega)]; exact n2, fun r k hr hk => ?_⟩
  rw [hc _ _ (by omega), hm _ _ (by omega)]; exact n3 r k hr hk
theorem SHT.keep (h : SHT c m) (hc : ∀ o k, 48 ≤ o ∧ o ≤ 55 → rI c2 o k = rI c o k) (hm : ∀ o k, o = 79 ∨ o = 80 → rI m2 o k = rI m o k) (hl : ∀ k, rL m2 81 k = rL m 81 k) : SHT c2 m2 := by
  intro j hj
  obtain ⟨so, n, n1, n2, n3, n4, n5, n6⟩ := h j hj
  refine ⟨so, n, n1, by rw [hc _ _ (by omega)]; exact n2, by rw [hm _ _ (by omega)]; exact n3, by rw [hc _ _ (by omega)]; exact n4, by rw [hm _ _ (by omega)]; exact n5, fun i hi => ?_⟩
  rw [hc _ _ (by omega), hl]; exact n6 i hi
theorem SLV.keep (h : SLV c m) (hc : ∀ o k, o = 56 ∨ o = 57 → rI c2 o k = rI c o k) (hm : ∀ o k, 82 ≤ o ∧ o ≤ 84 → rI m2 o k = rI m o k) : SLV c2 m2 := by
  refine ⟨h.1.keep (fun k => hc _ _ (by omega)), fun j hj => ?_⟩
  have q := h.2 j hj
  have e1 : ∀ k, rI c2 57 k = rI c 57 k := fun k => hc 57 k (by omega)
  have e2 : ∀ k, rI m2 82 k = rI m 82 k := fun k => hm 82 k (by omega)
  have e3 : ∀ k, rI m2 83 k = rI m 83 k := fun k => hm 83 k (by omega)
  have e4 : ∀ k, rI m2 84 k = rI m 84 k := fun k => hm 84 k (by omega)
  simp only [e1, e2, e3, e4]
  exact q
theorem TR.keep (h : TR c m) (hc : ∀ o k, o = 59 ∨ o = 60 → rI c2 o k = rI c o k) (hm : ∀ o k, o = 85 ∨ o = 61 ∧ k = 42 → rI m2 o k = rI m o k) : TR c2 m2 := by
  obtain ⟨n, n1, n2, n3, n4⟩ := h
  refine ⟨n, n1, by rw [hc _ _ (by omega)]; exact n2, by rw [hm _ _ (by omega)]; exact n3, fun k hk => ?_⟩
  rw [hc _ _ (by omega), hm _ _ (by omega)]; exact n4 k hk
theorem Rv.chg (h : Rv c m v vk) (g1 : TA c2 m2) (g2 : RO c2 m2) (g3 : SHT c2 m2) (g4 : SLV c2 m2) (g5 : TR c2 m2) (hc : ∀ o k, o ≤ 30 ∨ 36 ≤ o ∧ o ≤ 42 → rI c2 o k = rI c o k) (hm : ∀ o k, o = 61 ∧ (k < 12 ∨ k = 44) ∨ 62 ≤ o ∧ o ≤ 70 ∨ o = 86 → rI m2 o k = rI m o k) : Rv c2 m2 v vk := by
  obtain ⟨h1, h2, h3, h4, h5, h6, h7, h8, h9, h10⟩ := h
  refine ⟨h1.keep (fun o k q1 q2 => hc o k (by omega)), RMl_s h2 (fun o k ho => hm o k (by omega)), h3, ?_, g1, g2, g3, g4, g5, ?_⟩
  · obtain ⟨b, b1, b2, b3, b4⟩ := h4
    have ec : cvK m2 = cvK m := by funext j; exact hm _ _ (by omega)
    have ea : avK m2 = avK m := by funext j i; exact hm _ _ (by omega)
    exact ⟨b, by rw [hc _ _ (by omega)]; exact b1, by rw [hm _ _ (by omega)]; exact b2, b3.keep (fun o k q1 q2 => hc o k (by omega)), by rw [ec, ea]; exact b4⟩
  · exact h10.keep (fun o k w1 w2 => hc o k (by omega))
end KEEPS
-- rows
def ROn (c m : Mem) (n : Nat) : Prop := TB c 45 2 7 n ∧ ∀ r k, r < n → k < 2 → rI c 46 (r * 2 + k) = rI m 78 (2 * r + k)
section ROWS
variable {N : Nat} {c m : Mem} {v vk : VB}
def rowC (c : Mem) (n : Nat) (x y : Int32) : Mem := wI (wI (addM c 45 2 n) 46 (n * 2 + 0) x) 46 (n * 2 + 1) y
theorem rowC_ne (n : Nat) (x y : Int32) {o : Nat} (k : Nat) (h1 : o ≠ 45) (h2 : o ≠ 46) : rI (rowC c n x y) o k = rI c o k := by
  unfold rowC
  rw [rI_ne h2, rI_ne h2, rI_addM, if_neg (by omega), if_neg (by omega)]
theorem e_addRow {n : Nat} (h : TB c 45 2 7 n) (hn : n < 7) (hN : 1000 ≤ N) (x y : Int32) : f_X8_addRow N x y c = some ((), rowC c n x y) ∧ TB (rowC c n x y) 45 2 7 (n + 1) := by
  have t1 := h.addT hn
  refine ⟨?_, (t1.setC _ _).setC _ _⟩
  unfold f_X8_addRow
  rw [th_add h hn (by omega), bnd_s, th_s0 t1 (r := n) (by omega) (by decide), bnd_s, th_s1 (t1.setC _ _) (r := n) (by omega) (by decide), bnd_s]
  rfl
theorem RO_add {n : Nat} (h : ROn c m n) (hn : n < 7) (hN : 1000 ≤ N) (x y : Int32) {m2 : Mem} (hm : ∀ k, rI m2 78 k = if k = 2 * n + 1 then y else if k = 2 * n then x else rI m 78 k) : ROn (rowC c n x y) m2 (n + 1) := by
  refine ⟨(e_addRow (N := N) h.1 hn hN x y).2, fun r k hr hk => ?_⟩
  unfold rowC
  rw [hm, rI_w, rI_w, rI_addM]
  by_cases e : r = n
  · subst e
    have ck : k = 0 ∨ k = 1 := by omega
    rcases ck with rfl | rfl
    · rw [if_neg (by omega), if_pos ⟨rfl, rfl⟩, if_neg (by omega), if_pos (by omega)]
    · rw [if_pos ⟨rfl, rfl⟩, if_pos rfl]
  · rw [if_neg (by omega), if_neg (by omega), if_neg (by omega), if_neg (by omega), if_neg (by omega), if_neg (by omega)]
    exact h.2 r k (by omega) hk
theorem b_provL (hv : IV v) {p y : Nat} (hp : p < 2 ^ 31) (hy : y ≤ 160) (hN : 1000 ≤ N) : ∀ d k n (c m : Mem), RCb c 1 v → RMl m v → ROn c m (1 + ofP v p k) → rI m 61 31 = nI (1 + ofP v p k) → rI c 31 3 = nI y → k + d = cnt v 1 → d < n →
    ∃ r c2 m2, f_X8_prove_L64 N n (nI p) (nI k) c = some (r, c2) ∧ f_X9_prove_L44 N n (nI p) (nI y) (nI k) m = some (r, m2) ∧ RO c2 m2 ∧ (∀ o k, o ≠ 45 → o ≠ 46 → rI c2 o k = rI c o k) ∧ (∀ o k, o ≠ 78 → ¬ (o = 61 ∧ k = 31) → rI m2 o k = rI m o k) ∧ ∀ k, rL m2 81 k = rL m 81 k := by
  have b1 := hv.np
  have b0 := hv.n0
  have ob := hv.2.2.2.2.2.1 p
  intro d
  induction d with
  | zero =>
    intro k n c m h g ro hm hb h1 h2
    obtain ⟨n, rfl⟩ := suc_of h2
    refine ⟨nI (1 + ofP v p k), c, m, ?_, ?_, ⟨_, ro.1, hm, ro.2⟩, fun _ _ _ _ => rfl, fun _ _ _ _ => rfl, fun _ => rfl⟩
    · unfold f_X8_prove_L64
      rw [ct1 h, le_t (by omega) (by omega), ro.1.2.2.1]
    · unfold f_X9_prove_L44
      rw [mct1 g, le_t (by omega) (by omega), hm]
  | succ d ih =>
    intro k n c m h g ro hm hb h1 h2
    obtain ⟨n, rfl⟩ := suc_of h2
    have hk : k < cnt v 1 := by omega
    have hk3 : k < 30 := by omega
    have q0 := (hv.2.1 k hk).1
    have om := ofP_mono v p (k + 1) d
    rw [show k + 1 + d = cnt v 1 by omega, ofP] at om
    unfold f_X8_prove_L64 f_X9_prove_L44
    rw [ct1 h, le_f hk (by omega), mct1 g, le_f hk (by omega), e_isOf h hv hk hp, bnd_s, hb, e_span h hv hk hy, bnd_s, pmg0 hk3, pmn0 hk3, mp0 g hk, ite_eq (by omega) hp]
    unfold f_X8_prove_j118 f_X8_prove_j121 f_X9_prove_j103 f_X9_prove_j114
    rw [nI_1]
    by_cases z : tb v 1 k 0 = p
    · rw [if_pos z] at om
      have hn : 1 + ofP v p k < 7 := by omega
      have step : ∀ b : Bool, ∃ r c2 m2, f_X8_prove_L64 N n (nI p) (nI (k + 1)) (rowC c (1 + ofP v p k) (nI k) (bI b)) = some (r, c2) ∧ f_X9_prove_L44 N n (nI p) (nI y) (nI (k + 1)) (wI (wI (wI m 78 (2 * (1 + ofP v p k)) (nI k)) 78 (2 * (1 + ofP v p k) + 1) (bI b)) 61 31 (nI (1 + ofP v p k + 1))) = some (r, m2) ∧ RO c2 m2 ∧ (∀ o k, o ≠ 45 → o ≠ 46 → rI c2 o k = rI c o k) ∧ (∀ o k, o ≠ 78 → ¬ (o = 61 ∧ k = 31) → rI m2 o k = rI m o k) ∧ ∀ k, rL m2 81 k = rL m 81 k := by
        intro b
        have hm' : ∀ o j, o ≠ 78 → ¬ (o = 61 ∧ j = 31) → rI (wI (wI (wI m 78 (2 * (1 + ofP v p k)) (nI k)) 78 (2 * (1 + ofP v p k) + 1) (bI b)) 61 31 (nI (1 + ofP v p k + 1))) o j = rI m o j := by
          intro o j q1 q2
          rw [rI_w, if_neg q2, rI_ne q1, rI_ne q1]
        obtain ⟨r, c2, m2, e1, e2, e3, e4, e5, e6⟩ := ih (k + 1) n (rowC c (1 + ofP v p k) (nI k) (bI b)) (wI (wI (wI m 78 (2 * (1 + ofP v p k)) (nI k)) 78 (2 * (1 + ofP v p k) + 1) (bI b)) 61 31 (nI (1 + ofP v p k + 1)))
          (h.keep (fun o j q1 q2 => rowC_ne _ _ _ j (by omega) (by omega))) (RMl_s g (fun o j ho => hm' o j (by omega) (by omega)))
          (by
            rw [ofP, if_pos z, ← Nat.add_assoc]
            exact RO_add (N := N) ro hn hN _ _ (fun j => by
              rw [rI_ne (by decide), rI_w, rI_w]
              by_cases q1 : j = 2 * (1 + ofP v p k) + 1
              · rw [if_pos ⟨rfl, q1⟩, if_pos q1]
              · rw [if_neg (fun w => q1 w.2), if_neg q1]
                by_cases q2 : j = 2 * (1 + ofP v p k)
                · rw [if_pos ⟨rfl, q2⟩, if_pos q2]
                · rw [if_neg (fun w => q2 w.2), if_neg q2]))
          (by rw [rI_w, if_pos ⟨rfl, rfl⟩, ofP, if_pos z, ← Nat.add_assoc]) (by rw [rowC_ne _ _ _ _ (by decide) (by decide)]; exact hb) (by omega) (by omega)
        exact ⟨r, c2, m2, e1, e2, e3, fun o j q1 q2 => by rw [e4 o j q1 q2, rowC_ne _ _ _ j q1 q2], fun o j q1 q2 => by rw [e5 o j q1 q2, hm' o j q1 q2], fun j => by rw [e6]; rfl⟩
      have gm : RMl (wI m 78 (2 * (1 + ofP v p k)) (nI k)) v := RMl_s g (fun o j ho => rI_ne (by omega))
      rw [decide_eq_true z, ite_T, if_pos z, hm, rmi0, gin_n (by omega) (by omega), lt_e, nI_clamp (by omega), m_span gm hv hk hy, bnd_s, rI_ne (by decide), hm, rmi0]
      rw [(e_addRow (N := N) ro.1 hn hN _ _).1, (e_addRow (N := N) ro.1 hn hN _ _).1, bnd_s, bnd_s, nI_1, gin_n (by omega) (by omega), gin_n (by omega) (by omega), lt_e, lt_e, nI_clamp (by omega), rI_ne (by decide), rI_ne (by decide), hm, lt_e, rI_ne (by decide), rI_ne (by decide), hm, lt_e, nI_1]
      by_cases w : spS v k y = true
      · rw [if_pos w, if_pos w]; exact step true
      · rw [if_neg w, if_neg w]; exact step false
    · rw [decide_eq_false z, ite_F, if_neg z]
      have ek : ofP v p (k + 1) = ofP v p k := by rw [ofP, if_neg z, Nat.add_zero]
      exact ih (k + 1) n c m h g (by rw [ek]; exact ro) (by rw [ek]; exact hm) hb (by omega) (by omega)
theorem TB_clear {t W M n : Nat} (h : TB c t W M n) : TB (wI c t 3 0) t W M 0 := by
  obtain ⟨h1, h2, h3, h4, h5, h6, h7⟩ := h
  exact ⟨by rw [rI_w, if_neg (by omega)]; exact h1, by rw [rI_w, if_neg (by omega)]; exact h2, by rw [rI_w, if_pos ⟨rfl, rfl⟩]; rfl, Nat.zero_le _, h5, h6, h7⟩
theorem b_prove (R : Rv c m v vk) (hN : 1000 ≤ N) (a1 : Int32) : Both (f_X8_prove N a1 c) (f_X9_prove N a1 m) := by
  obtain ⟨h, g, hv, kp, ta, ro, sh, sl, tr, -⟩ := id R
  have b0 := hv.n0
  unfold f_X8_prove f_X9_prove
  rw [th_has (T0 h), bnd_s, e_isPer g hv, bnd_s]
  by_cases h1 : isI a1 (cnt v 0) = true
  · obtain ⟨p, hp, rfl⟩ := isI_of (by omega) h1
    obtain ⟨c2, e1, e2, e3⟩ := c_weigh h hv (show p < 2 ^ 31 by omega) hN
    have bl := bes_le (v := v) p 161
    have R2 := R.keepC (e2.mono od_scr)
    rw [if_pos h1, if_pos h1, e1, bnd_s, m_best g hv (by omega) hN, bnd_s, e3.2.2.2]
    by_cases z : bestS v p = 0
    · rw [if_pos z, if_pos z, if_pos rfl, if_neg (by decide)]
      exact Both.of rfl rfl R2
    · have hb : rI c2 31 3 = nI (bestS v p - 1) := by rw [e3.2.2.2, if_neg z]
      have hz : bestS v p - 1 ≤ 160 := by unfold bestS at *; omega
      rw [if_neg z, if_neg z, if_neg (fun e => by
        have := congrArg Int32.toInt e
        rw [tI (by omega)] at this
        have e3 : (-3 : Int32).toInt = -3 := by decide
        rw [e3] at this
        omega), if_pos (nI_pos' (by omega)), e_clear, bnd_s, rI_ne (by decide), hb]
      obtain ⟨n0, t0, -, -⟩ := R2.2.2.2.2.2.1
      have t1 := TB_clear t0
      have ro0 : ROn (wI c2 45 3 0) m 0 := ⟨t1, fun r k hr => absurd hr (by omega)⟩
      rw [(e_addRow (N := N) t1 (by decide) hN _ _).1, bnd_s]
      have cl0 : (0 : Int32).toNatClampNeg = 0 := by decide
      have cl1 : (1 : Int32).toNatClampNeg = 1 := by decide
      rw [show gin (0 : Int32) 14 = fun (X : Option (Int32 × Mem)) => gin (nI 0) 14 X from rfl]
      show Both _ (gin (nI 0) 14 _)
      rw [gin_n (by decide) (by decide), lt_e, cl0]
      show Both _ (gin (nI 1) 14 _)
      rw [gin_n (by decide) (by decide), lt_e, lt_e, cl1]
      have hm' : ∀ o j, o ≠ 78 → ¬ (o = 61 ∧ j = 31) → rI (wI (wI (wI m 78 0 (nI p)) 78 1 (nI (bestS v p - 1))) 61 31 1) o j = rI m o j := by
        intro o j q1 q2
        rw [rI_w, if_neg q2, rI_ne q1, rI_ne q1]
      have hc' : ∀ o j, o ≠ 45 → o ≠ 46 → rI (rowC (wI c2 45 3 0) 0 (nI p) (nI (bestS v p - 1))) o j = rI c2 o j := by
        intro o j q1 q2
        rw [rowC_ne _ _ _ j q1 q2, rI_ne q1]
      obtain ⟨r, c3, m3, f1, f2, f3, f4, f5, f6⟩ := b_provL (N := N) hv (show p < 2 ^ 31 by omega) hz hN (cnt v 1) 0 N (rowC (wI c2 45 3 0) 0 (nI p) (nI (bestS v p - 1))) (wI (wI (wI m 78 0 (nI p)) 78 1 (nI (bestS v p - 1))) 61 31 1)
        (R2.1.keep (fun o j q1 q2 => hc' o j (by omega) (by omega))) (RMl_s g (fun o j ho => hm' o j (by omega) (by omega)))
        (RO_add (N := N) ro0 (by decide) hN _ _ (fun j => by
          rw [rI_ne (by decide), rI_w, rI_w]
          by_cases q1 : j = 1
          · rw [if_pos ⟨rfl, q1⟩, if_pos q1]
          · rw [if_neg (fun w => q1 w.2), if_neg q1]
            by_cases q2 : j = 0
            · rw [if_pos ⟨rfl, q2⟩, if_pos q2]
            · rw [if_neg (fun w => q2 w.2), if_neg q2]))
        (by rw [rI_w, if_pos ⟨rfl, rfl⟩]; rfl) (by rw [hc' _ _ (by decide) (by decide)]; exact hb) (by omega) (by have := hv.np; omega)
      have C : ∀ o j, o ≠ 45 → o ≠ 46 → rI c3 o j = rI c2 o j := fun o j q1 q2 => by rw [f4 o j q1 q2, hc' o j q1 q2]
      have M : ∀ o j, o ≠ 78 → ¬ (o = 61 ∧ j = 31) → rI m3 o j = rI m o j := fun o j q1 q2 => by rw [f5 o j q1 q2, hm' o j q1 q2]
      obtain ⟨-, -, -, -, ta2, -, sh2, sl2, tr2, -⟩ := id R2
      exact Both.of f1 f2 (R2.chg (ta2.keep (fun o k ho => C o k (by omega) (by omega)) (fun o k ho => M o k (by omega) (by omega))) f3 (sh2.keep (fun o k ho => C o k (by omega) (by omega)) (fun o k ho => M o k (by omega) (by omega)) (fun k => by rw [f6]; rfl)) (sl2.keep (fun o k ho => C o k (by omega) (by omega)) (fun o k ho => M o k (by omega) (by omega))) (tr2.keep (fun o k ho => C o k (by omega) (by omega)) (fun o k ho => M o k (by omega) (by omega))) (fun o k ho => C o k (by omega) (by omega)) (fun o k ho => M o k (by omega) (by omega)))
  · rw [if_neg h1, if_neg h1]
    exact both_bad R _
theorem b_row (R : Rv c m v vk) (a1 a2 : Int32) : Both (f_X8_row N a1 a2 c) (f_X9_row N a1 a2 m) := by
  obtain ⟨h, g, hv, kp, ta, ⟨n, t, hm, cells⟩, -⟩ := id R
  have b := t.2.2.2.1
  unfold f_X8_row f_X9_row f_X9_isRow
  rw [th_has t, bnd_s, e_in, bnd_s, hm, isP_eq (by omega)]
  by_cases h1 : isI a1 n = true
  · obtain ⟨i, hi, rfl⟩ := isI_of (by omega) h1
    rw [if_pos h1, if_pos h1, e_within, bnd_s, e_in, bnd_s, ite_d, ite_d]
    by_cases h2 : ¬ a2 < 0 ∧ ¬ (1 : Int32) < a2
    · obtain ⟨w, hw, rfl⟩ := btw_of (n := 1) (by decide) h2.1 h2.2
      rw [if_pos h2, if_pos h2, th_get t hi (by omega), bnd_s, bnd_s, ite_T, rmi0, nI_add, gin_n (by omega) (by omega), nI_clamp (by omega), cells i w hi (by omega)]
      exact both_bad R _
    · rw [if_neg h2, if_neg h2, bnd_s, ite_F]
      exact both_bad R _
  · rw [if_neg h1, if_neg h1, bnd_s, ite_F]
    exact both_bad R _
theorem b_alterRow (R : Rv c m v vk) (a1 a2 a3 : Int32) : Both (f_X8_alterRow N a1 a2 a3 c) (f_X9_alterRow N a1 a2 a3 m) := by
  obtain ⟨h, g, hv, kp, ta, ⟨n, t, hm, cells⟩, sh, sl, tr, -⟩ := id R
  have b := t.2.2.2.1
  unfold f_X8_alterRow f_X9_alterRow f_X9_isRow
  rw [th_has t, bnd_s, e_in, bnd_s, hm, isP_eq (by omega)]
  by_cases h1 : isI a1 n = true
  · obtain ⟨i, hi, rfl⟩ := isI_of (by omega) h1
    rw [if_pos h1, if_pos h1, e_within, bnd_s, e_in, bnd_s, ite_d, ite_d]
    by_cases h2 : ¬ a2 < 0 ∧ ¬ (1 : Int32) < a2
    · obtain ⟨w, hw, rfl⟩ := btw_of (n := 1) (by decide) h2.1 h2.2
      rw [if_pos h2, if_pos h2, th_get t hi (by omega), bnd_s, th_set t hi (by omega), bnd_s, bnd_s, ite_T, rmi0, nI_add, gin_n (by omega) (by omega), lt_e, gin_n (by omega) (by omega), lt_e, nI_clamp (by omega), cells i w hi (by omega)]
      have C : ∀ o j, o ≠ 46 → rI (wI c 46 (i * 2 + w) a3) o j = rI c o j := fun o j q => rI_ne q
      have M : ∀ o j, o ≠ 78 → rI (wI m 78 (2 * i + w) a3) o j = rI m o j := fun o j q => rI_ne q
      refine Both.of rfl rfl (R.chg (ta.keep (fun o k ho => C o k (by omega)) (fun o k ho => M o k (by omega))) ⟨n, t.setC _ _, by rw [M _ _ (by decide)]; exact hm, fun r k hr hk => ?_⟩ (sh.keep (fun o k ho => C o k (by omega)) (fun o k ho => M o k (by omega)) (fun k => rfl)) (sl.keep (fun o k ho => C o k (by omega)) (fun o k ho => M o k (by omega))) (tr.keep (fun o k ho => C o k (by omega)) (fun o k ho => M o k (by omega))) (fun o k ho => C o k (by omega)) (fun o k ho => M o k (by omega)))
      rw [rI_w, rI_w]
      by_cases e : r * 2 + k = i * 2 + w
      · rw [if_pos ⟨rfl, e⟩, if_pos ⟨rfl, by omega⟩]
      · rw [if_neg (fun z => e z.2), if_neg (by omega)]; exact cells r k hr hk
    · rw [if_neg h2, if_neg h2, bnd_s, ite_F]
      exact both_bad R _
  · rw [if_neg h1, if_neg h1, bnd_s, ite_F]
    exact both_bad R _
end ROWS
