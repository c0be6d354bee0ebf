-- the whole relation of both sides
def KP (c m : Mem) (vk : VB) : Prop := ∃ b : Bool, rI c 0 2 = bI b ∧ rI m 61 44 = bI b ∧ RCb c 16 vk ∧ (b = true → RMb (cvK m) (avK m) vk ∧ IV vk)
def TA (c m : Mem) : Prop := ∃ n, n ≤ 200 ∧ rI c 43 1 = nI n ∧ rI m 61 17 = nI n ∧ ∀ k, k < n → ∃ b, b < 256 ∧ rI c 44 k = nI b ∧ rI m 72 k = nI b
def RO (c m : Mem) : Prop := ∃ n, TB c 45 2 7 n ∧ rI m 61 31 = nI n ∧ ∀ r k, r < n → k < 2 → rI c 46 (r * 2 + k) = rI m 78 (2 * r + k)
def SHT (c m : Mem) : Prop := ∀ j, j < 4 → ∃ so n, (so = 0 ∧ n = 0 ∨ 1 ≤ so ∧ so ≤ 4 ∧ n ≤ 40) ∧ rI c (48 + 2 * j) 1 = nI so - 1 ∧ rI m 79 j = nI so - 1 ∧ rI c (48 + 2 * j) 2 = nI n ∧ rI m 80 j = nI n ∧ ∀ i, i < 40 → rL m 81 (40 * j + i) = (rI c (48 + 2 * j + 1) i).toInt64
def SLV (c m : Mem) : Prop := TB c 56 4 4 4 ∧ ∀ j, j < 4 →
  (rI c 57 (j * 4 + 0) = 3 ∧ rI m 82 j = -1) ∨
  (∃ w n, w < 2 ∧ n < 30 ∧ rI c 57 (j * 4 + 0) = nI w ∧ rI c 57 (j * 4 + 1) = nI n ∧ rI m 82 j = nI w ∧ rI m 83 j = nI n) ∨
  (∃ so n, so < 4 ∧ n ≤ 40 ∧ rI c 57 (j * 4 + 0) = 2 ∧ rI c 57 (j * 4 + 2) = nI so ∧ rI c 57 (j * 4 + 3) = nI n ∧ rI m 82 j = 2 ∧ rI m 83 j = nI so ∧ rI m 84 j = nI n)
def TR (c m : Mem) : Prop := ∃ n, n ≤ 30 ∧ rI c 59 1 = nI n ∧ rI m 61 42 = nI n ∧ ∀ k, k < n → rI c 60 k = rI m 85 k
def SHP (c : Mem) : Prop := rI c 37 0 = 3 ∧ rI c 37 1 = 6 ∧ rI c 39 0 = 3 ∧ rI c 39 1 = 200 ∧ ∃ nu, nu < 1000 ∧ rI c 36 6 = nI nu
theorem SHP.keep {c c2 : Mem} (h : SHP c) (e : ∀ o k, 36 ≤ o → o ≤ 39 → rI c2 o k = rI c o k) : SHP c2 := by
  obtain ⟨q1, q2, q3, q4, nu, q5, q6⟩ := h
  exact ⟨by rw [e _ _ (by omega) (by omega)]; exact q1, by rw [e _ _ (by omega) (by omega)]; exact q2, by rw [e _ _ (by omega) (by omega)]; exact q3, by rw [e _ _ (by omega) (by omega)]; exact q4, nu, q5, by rw [e _ _ (by omega) (by omega)]; exact q6⟩
def Rv (c m : Mem) (v vk : VB) : Prop := RCb c 1 v ∧ RMl m v ∧ IV v ∧ KP c m vk ∧ TA c m ∧ RO c m ∧ SHT c m ∧ SLV c m ∧ TR c m ∧ SHP c
def RR (c m : Mem) : Prop := ∃ v vk, Rv c m v vk
/-- what is worked out anew: nothing of it is remembered -/
def scr (o : Nat) : Prop := 31 ≤ o ∧ o ≤ 35
theorem Rv.keepC {c c2 m : Mem} {v vk : VB} (h : Rv c m v vk) (hs : Sm1 scr c c2) : Rv c2 m v vk := by
  obtain ⟨h1, h2, h3, h4, h5, h6, h7, h8, h9, h10⟩ := h
  have e : ∀ o k, ¬ scr o → rI c2 o k = rI c o k := fun o k ho => (hs o ho).1 k
  refine ⟨hs.RCb (fun o _ _ => by unfold scr; omega) h1, h2, h3, ?_, ?_, ?_, ?_, ?_, ?_, ?_⟩
  · obtain ⟨b, b1, b2, b3, b4⟩ := h4
    exact ⟨b, by rw [e _ _ (by unfold scr; omega)]; exact b1, b2, hs.RCb (fun o _ _ => by unfold scr; omega) b3, b4⟩
  · obtain ⟨n, n1, n2, n3, n4⟩ := h5
    refine ⟨n, n1, by rw [e _ _ (by unfold scr; omega)]; exact n2, n3, fun k hk => ?_⟩
    rw [e _ _ (by unfold scr; omega)]; exact n4 k hk
  · obtain ⟨n, n1, n2, n3⟩ := h6
    refine ⟨n, n1.keep (fun k => e _ _ (by unfold scr; omega)), n2, fun r k hr hk => ?_⟩
    rw [e _ _ (by unfold scr; omega)]; exact n3 r k hr hk
  · intro j hj
    obtain ⟨so, n, n1, n2, n3, n4, n5, n6⟩ := h7 j hj
    refine ⟨so, n, n1, by rw [e _ _ (by unfold scr; omega)]; exact n2, n3, by rw [e _ _ (by unfold scr; omega)]; exact n4, n5, fun i hi => ?_⟩
    rw [e _ _ (by unfold scr; omega)]; exact n6 i hi
  · refine ⟨h8.1.keep (fun k => e _ _ (by unfold scr; omega)), fun j hj => ?_⟩
    have g := h8.2 j hj
    simp only [e 57 _ (by unfold scr; omega)]
    exact g
  · obtain ⟨n, n1, n2, n3, n4⟩ := h9
    refine ⟨n, n1, by rw [e _ _ (by unfold scr; omega)]; exact n2, n3, fun k hk => ?_⟩
    rw [e _ _ (by unfold scr; omega)]; exact n4 k hk
  · exact h10.keep (fun o k w1 w2 => e o k (by unfold scr; omega))
theorem od_scr : ∀ o, od o → scr o := fun o h => by unfold od at h; unfold scr; omega
/-- both sides answer alike, and stay alike -/
def Both {α : Type} (f g : Option (α × Mem)) : Prop := ∃ (r : α) (c m : Mem), f = some (r, c) ∧ g = some (r, m) ∧ RR c m
theorem Both.of {α : Type} {f g : Option (α × Mem)} {r : α} {c m : Mem} {v vk : VB} (hf : f = some (r, c)) (hg : g = some (r, m)) (h : Rv c m v vk) : Both f g := ⟨r, c, m, hf, hg, v, vk, h⟩
-- changes of the common value
def addR (v : VB) (j : Nat) (row : Nat → Nat) : VB := (fun i => if i = j then cnt v j + 1 else cnt v i, fun i r k => if i = j then (if r = cnt v j then row k else tb v j r k) else tb v i r k)
def setR (v : VB) (j r k x : Nat) : VB := (v.1, fun i r' k' => if i = j then (if r' = r ∧ k' = k then x else tb v j r' k') else tb v i r' k')
theorem idx_inj {W r k r' k' : Nat} (hk : k < W) (hk' : k' < W) (h : r * W + k = r' * W + k') : r = r' ∧ k = k' := by
  have h1 : (r * W + k) / W = r := by rw [Nat.mul_comm, Nat.mul_add_div (by omega), Nat.div_eq_of_lt hk, Nat.add_zero]
  have h2 : (r' * W + k') / W = r' := by rw [Nat.mul_comm, Nat.mul_add_div (by omega), Nat.div_eq_of_lt hk', Nat.add_zero]
  have e : r = r' := by rw [← h1, ← h2, h]
  subst e
  exact ⟨rfl, by omega⟩
theorem Wd_pos : ∀ j, j < 7 → 1 ≤ Wd j ∧ Wd j ≤ 7 := by decide
theorem RCb_addR {c c2 : Mem} {b : Nat} {v : VB} (h : RCb c b v) {j : Nat} {row : Nat → Nat} (hj : j < 7) (hT : TB c2 (b + 1 + 2 * j) (Wd j) (Mx j) (cnt v j + 1)) (hn : ∀ k, k < Wd j → rI c2 (b + 1 + 2 * j + 1) (cnt v j * Wd j + k) = enc j k (row k)) (hc : ∀ r k, r < cnt v j → k < Wd j → rI c2 (b + 1 + 2 * j + 1) (r * Wd j + k) = rI c (b + 1 + 2 * j + 1) (r * Wd j + k)) (ho : ∀ o k, b ≤ o → o ≤ b + 14 → o ≠ b + 1 + 2 * j → o ≠ b + 1 + 2 * j + 1 → rI c2 o k = rI c o k) : RCb c2 b (addR v j row) := by
  refine ⟨fun i hi => ?_, ?_⟩
  · by_cases e : i = j
    · subst e
      refine ⟨?_, fun r k hr hk => ?_⟩
      · show TB c2 _ _ _ (if i = i then cnt v i + 1 else cnt v i)
        rw [if_pos rfl]; exact hT
      · have hr : r < cnt v i + 1 := by
          have hr' : r < (if i = i then cnt v i + 1 else cnt v i) := hr
          rwa [if_pos rfl] at hr'
        show _ = enc i k (if i = i then (if r = cnt v i then row k else tb v i r k) else tb v i r k)
        rw [if_pos rfl]
        by_cases z : r = cnt v i
        · rw [if_pos z, z]; exact hn k hk
        · rw [if_neg z, hc r k (by omega) hk]; exact h.C hi (by omega) hk
    · have e1 : cnt (addR v j row) i = cnt v i := if_neg e
      refine ⟨?_, fun r k hr hk => ?_⟩
      · rw [e1]; exact (h.T hi).keep (fun k => ho _ k (by omega) (by omega) (by omega) (by omega))
      · rw [e1] at hr
        show _ = enc i k (if i = j then (if r = cnt v j then row k else tb v j r k) else tb v i r k)
        rw [if_neg e, ho _ _ (by omega) (by omega) (by omega) (by omega)]
        exact h.C hi hr hk
  · show _ = nI (if 7 = j then cnt v j + 1 else cnt v 7)
    rw [if_neg (by omega), ho _ _ (by omega) (by omega) (by omega) (by omega)]
    exact h.2
theorem RCb_setR {c : Mem} {b : Nat} {v : VB} (h : RCb c b v) {j r k x : Nat} {X : Int32} (hj : j < 7) (hr : r < cnt v j) (hk : k < Wd j) (hx : enc j k x = X) : RCb (wI c (b + 1 + 2 * j + 1) (r * Wd j + k) X) b (setR v j r k x) := by
  refine ⟨fun i hi => ⟨?_, fun r' k' hr' hk' => ?_⟩, ?_⟩
  · exact (h.T hi).keep (fun q => rI_ne (by omega))
  · show _ = enc i k' (if i = j then (if r' = r ∧ k' = k then x else tb v j r' k') else tb v i r' k')
    rw [rI_w]
    by_cases e : i = j
    · subst e
      rw [if_pos rfl]
      by_cases z : r' = r ∧ k' = k
      · rw [if_pos z, z.1, z.2, if_pos ⟨rfl, rfl⟩, hx]
      · rw [if_neg z, if_neg (fun w => z (idx_inj hk' hk w.2))]
        exact h.C hi hr' hk'
    · rw [if_neg e, if_neg (by omega)]
      exact h.C hi hr' hk'
  · show rI _ b 7 = nI (cnt v 7)
    rw [rI_ne (by omega)]
    exact h.2
section GATES
variable {N : Nat} {c m : Mem} {v : VB}
theorem isP_eq {a : Int32} {n : Nat} (hn : n < 2 ^ 30) : decide (¬ a < 0 ∧ ¬ nI n - 1 < a) = isI a n := by
  unfold isI
  refine dec_c (and_congr_right (fun h0 => ?_))
  obtain ⟨j, hj, rfl⟩ := nI_of h0
  rw [show (1 : Int32) = nI 1 from rfl, i32_lt, i32_le, tI hj, tI (by omega)]
  have e : (nI n - nI 1).toInt = (n : Int) - 1 := by
    rw [tI_sub (by rw [tI (by omega)]; omega) (by decide), tI (by omega)]; rfl
  rw [e]
  omega
theorem e_isPer (h : RMl m v) (hv : IV v) (a : Int32) : f_X9_isPerson N a m = some (isI a (cnt v 0), m) := by
  have := hv.n0
  unfold f_X9_isPerson
  rw [e_in, bnd_s, mct0 h, isP_eq (by omega)]
theorem e_isPap (h : RMl m v) (hv : IV v) (a : Int32) : f_X9_isPaper N a m = some (isI a (cnt v 1), m) := by
  have := hv.np
  unfold f_X9_isPaper
  rw [e_in, bnd_s, mct1 h, isP_eq (by omega)]
theorem isI_small {a : Int32} {n : Nat} (hn : n < 2 ^ 31) (h : isI a n = true) : ∃ j, j < n ∧ a = nI j := isI_of hn h
/-- a year: none, or a number up to 160 -/
theorem yr {a : Int32} (h : ¬ a < 0 ∧ ¬ (160 : Int32) < a) : ∃ y, y ≤ 160 ∧ a = nI y := btw_of (n := 160) (by decide) h.1 h.2
theorem no_t {b : Bool} (h : ¬ b = true) : b = false := by cases b <;> simp_all
theorem both_bad {α : Type} {m : Mem} {v vk : VB} {c : Mem} (R : Rv c m v vk) (x : α) : Both (some (x, c)) (some (x, m)) := Both.of rfl rfl R
end GATES
section OPS1
variable {N : Nat} {c m : Mem} {v vk : VB}
theorem b_weight (R : Rv c m v vk) (hN : 1000 ≤ N) (a1 a2 : Int32) : Both (f_X8_weight N a1 a2 c) (f_X9_weight N a1 a2 m) := by
  obtain ⟨h, g, hv, -⟩ := id R
  have b0 := hv.n0
  unfold f_X8_weight f_X9_weight
  rw [th_has (T0 h), bnd_s, e_isPer g hv, bnd_s]
  by_cases h1 : isI a1 (cnt v 0) = true
  · obtain ⟨p, hp, rfl⟩ := isI_of (by omega) h1
    rw [if_pos h1, if_pos h1, e_isYear, bnd_s, e_isYearM, bnd_s, ite_d, ite_d]
    by_cases h2 : ¬ a2 < 0 ∧ ¬ (160 : Int32) < a2
    · obtain ⟨y, hy, rfl⟩ := yr h2
      rw [if_pos h2, if_pos h2]
      obtain ⟨c2, e1, e2, e3⟩ := c_weigh h hv (show p < 2 ^ 31 by omega) hN
      rw [e1, bnd_s, o_of e3 hy, bnd_s, m_weight g hv (by omega) hy hN, bnd_s]
      exact Both.of rfl rfl (R.keepC (e2.mono od_scr))
    · rw [if_neg h2, if_neg h2]
      exact both_bad R _
  · rw [if_neg h1, if_neg h1]
    exact both_bad R _
theorem b_all (R : Rv c m v vk) (hN : 1000 ≤ N) (a1 : Int32) : Both (f_X8_all N a1 c) (f_X9_all N a1 m) := by
  obtain ⟨h, g, hv, -⟩ := id R
  have b0 := hv.n0
  unfold f_X8_all f_X9_all
  rw [th_has (T0 h), bnd_s, e_isPer g hv, bnd_s]
  by_cases h1 : isI a1 (cnt v 0) = true
  · obtain ⟨p, hp, rfl⟩ := isI_of (by omega) h1
    rw [if_pos h1, if_pos h1]
    obtain ⟨c2, e1, e2, e3⟩ := c_weigh h hv (show p < 2 ^ 31 by omega) hN
    rw [e1, bnd_s, m_all g hv (by omega) hN, bnd_s, e3.2.2.1]
    exact Both.of rfl rfl (R.keepC (e2.mono od_scr))
  · rw [if_neg h1, if_neg h1]
    exact both_bad R _
theorem b_best (R : Rv c m v vk) (hN : 1000 ≤ N) (a1 : Int32) : Both (f_X8_best N a1 c) (f_X9_best N a1 m) := by
  obtain ⟨h, g, hv, -⟩ := id R
  have b0 := hv.n0
  unfold f_X8_best f_X9_best
  rw [th_has (T0 h), bnd_s, e_isPer g hv, bnd_s]
  by_cases h1 : isI a1 (cnt v 0) = true
  · obtain ⟨p, hp, rfl⟩ := isI_of (by omega) h1
    rw [if_pos h1, if_pos h1]
    obtain ⟨c2, e1, e2, e3⟩ := c_weigh h hv (show p < 2 ^ 31 by omega) hN
    have bl := bes_le (v := v) p 161
    rw [e1, bnd_s, m_best g hv (by omega) hN, bnd_s, e3.2.2.2]
    by_cases z : bestS v p = 0
    · rw [if_pos z, if_pos z, if_neg (by decide)]
      exact Both.of rfl rfl (R.keepC (e2.mono od_scr))
    · rw [if_neg z, if_neg z, if_pos (nI_pos' (by unfold bestS; omega))]
      exact Both.of rfl rfl (R.keepC (e2.mono od_scr))
  · rw [if_neg h1, if_neg h1]
    exact both_bad R _
theorem b_span (R : Rv c m v vk) (a1 a2 : Int32) : Both (f_X8_span N a1 a2 c) (f_X9_span N a1 a2 m) := by
  obtain ⟨h, g, hv, -⟩ := id R
  have b0 := hv.np
  unfold f_X8_span f_X9_span
  rw [th_has (T1 h), bnd_s, e_isPap g hv, bnd_s]
  by_cases h1 : isI a1 (cnt v 1) = true
  · obtain ⟨p, hp, rfl⟩ := isI_of (by omega) h1
    rw [if_pos h1, if_pos h1, e_isYear, bnd_s, e_isYearM, bnd_s, ite_d, ite_d]
    by_cases h2 : ¬ a2 < 0 ∧ ¬ (160 : Int32) < a2
    · obtain ⟨y, hy, rfl⟩ := yr h2
      rw [if_pos h2, if_pos h2, e_span h hv hp hy, bnd_s, m_span g hv hp hy, bnd_s]
      by_cases z : spS v p y = true
      · rw [if_pos z, if_pos z]
        exact both_bad R _
      · rw [if_neg z, if_neg z]
        exact both_bad R _
    · rw [if_neg h2, if_neg h2]
      exact both_bad R _
  · rw [if_neg h1, if_neg h1]
    exact both_bad R _
theorem enc_of (x : Nat) : enc 1 5 x = trM x := rfl
theorem b_paperOf (R : Rv c m v vk) (a1 a2 : Int32) : Both (f_X8_paperOf N a1 a2 c) (f_X9_paperOf N a1 a2 m) := by
  obtain ⟨h, g, hv, -⟩ := id R
  have b0 := hv.np
  unfold f_X8_paperOf f_X9_paperOf
  rw [th_has (T1 h), bnd_s, e_isPap g hv, bnd_s]
  by_cases h1 : isI a1 (cnt v 1) = true
  · obtain ⟨k, hk, rfl⟩ := isI_of (by omega) h1
    rw [if_pos h1, if_pos h1, e_within, bnd_s, e_in, bnd_s, ite_d, ite_d]
    by_cases h2 : ¬ a2 < 0 ∧ ¬ (5 : Int32) < a2
    · obtain ⟨w, hw, rfl⟩ := btw_of (n := 5) (by decide) h2.1 h2.2
      have e1 : (6 : Int32) * nI k + nI w = nI (6 * k + w) := by rw [show (6 : Int32) * nI k = nI (6 * k) from pk_mul 6 k, nI_add]
      have e2 := gt (N := N) (j := 1) (k := w) h (by decide) hk (by show w < 7; omega)
      rw [show 1 + 1 + 2 * 1 = 4 from rfl] at e2
      rw [if_pos h2, if_pos h2, e2, bnd_s, e1, gin_n (by omega) (by omega), nI_clamp (by omega)]
      have e3 : rI m 63 (6 * k + w) = enc 1 w (tb v 1 k w) := by
        by_cases z : w = 5
        · subst z; exact mp5 g hk
        · rw [show enc 1 w (tb v 1 k w) = nI (tb v 1 k w) by unfold enc; rw [if_neg (by omega), if_neg (by omega)]]
          exact (g.2.1.2 k hk).1 w (by omega)
      rw [e3]
      exact both_bad R _
    · rw [if_neg h2, if_neg h2]
      exact both_bad R _
  · rw [if_neg h1, if_neg h1]
    exact both_bad R _
end OPS1
