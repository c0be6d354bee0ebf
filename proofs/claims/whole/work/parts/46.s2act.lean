-- taken, act
def upK (b : Nat) : Nat := ([0, 1, 1, 1, 2, 3, 4, 6, 0] : List Nat).getD b 0
/-- whether kind k is kind a or under it, in f steps -/
def undF : Nat → Nat → Nat → Bool
  | 0, _, _ => false
  | f + 1, k, a => if k = a then true else if upK k = 0 then false else undF f (upK k - 1) a
def und (k a : Nat) : Bool := undF 9 k a
theorem up_8 : ∀ b, b < 9 → (upK b = 0 → kaV b = -3) ∧ (upK b ≠ 0 → kaV b = nI (upK b - 1) ∧ upK b - 1 < 9) := by decide +kernel
section UNDER
variable {N : Nat} {c m : Mem} {v vk : VB}
theorem c_underL {a : Nat} (ha : a < 2 ^ 31) : ∀ f b i n, f + i = 9 → b < 9 → f < n → f_X8_isUnder_L4 N n (nI a) (nI b) (nI i) c = some (undF f b a, c) := by
  intro f
  induction f with
  | zero =>
    intro b i n h1 h2 h3
    obtain ⟨n, rfl⟩ := suc_of h3
    unfold f_X8_isUnder_L4
    rw [kle9 (by omega), if_pos (by omega)]; rfl
  | succ f ih =>
    intro b i n h1 h2 h3
    obtain ⟨n, rfl⟩ := suc_of h3
    obtain ⟨u1, u2⟩ := up_8 b h2
    unfold f_X8_isUnder_L4
    rw [kle9 (by omega), if_neg (by omega), lt0_f (by omega), kle9 (by omega), if_neg (by omega), ite_eq (by omega) ha, gin_n h2 (by decide), nI_clamp (by omega), undF, nI_1]
    by_cases z : b = a
    · rw [if_pos z, if_pos z]
    · rw [if_neg z, if_neg z]
      by_cases w : upK b = 0
      · rw [if_pos w, u1 w]
        obtain ⟨n, rfl⟩ := suc_of (show 0 < n by omega)
        unfold f_X8_isUnder_L4
        rw [kle9 (by omega)]
        by_cases y : 9 ≤ i + 1
        · rw [if_pos y]
        · rw [if_neg y, if_pos (by decide)]
      · rw [if_neg w, (u2 w).1]
        exact ih (upK b - 1) (i + 1) n (by omega) (u2 w).2 (by omega)
theorem c_under {k a : Nat} (hk : k < 9) (ha : a < 2 ^ 31) (hN : 1000 ≤ N) : f_X8_isUnder N (nI k) (nI a) c = some (und k a, c) := c_underL ha 9 k 0 N (by omega) hk (by omega)
theorem und_m : ∀ k, k < 9 → 1 ≤ k → ∀ a, a < 9 → und k a = if a = 0 then !decide (8 ≤ k) else if a = 1 then (decide (k = 1) || decide (k = 4)) else if a = 2 then (decide (k = 2) || (decide (k = 5) || decide (k = 7))) else if a = 3 then (decide (k = 3) || decide (k = 6)) else if a = 4 then decide (k = a) else if a = 5 then (decide (k = 5) || decide (k = 7)) else decide (k = a) := by decide +kernel
theorem m_under2 {k a : Nat} (hk : k < 9) (h1 : 1 ≤ k) (ha : a < 9) : f_X9_isUnder N (nI k) (nI a) m = some (und k a, m) := by
  rw [und_m k hk h1 a ha]
  unfold f_X9_isUnder f_X9_isUnder_j118 f_X9_isUnder_j101 f_X9_isUnder_j84 f_X9_isUnder_j62
  rw [ek0 (by omega), ek1 (by omega), ek2 (by omega), ek3 (by omega), ek4 (by omega), ek5 (by omega), kle8 (by omega), ek1 (by omega), ek4 (by omega), ek2 (by omega), ek5 (by omega), ek7 (by omega), ek3 (by omega), ek6 (by omega), ite_eq (by omega) (by omega)]
  have two : ∀ p q : Prop, ∀ [Decidable p] [Decidable q], (if p then some (true, m) else if q then some (true, m) else some (false, m)) = some (decide p || decide q, m) := by
    intro p q _ _
    by_cases x : p <;> by_cases y : q <;> simp [x, y]
  have three : ∀ p q r : Prop, ∀ [Decidable p] [Decidable q] [Decidable r], (if p then some (true, m) else if q then some (true, m) else if r then some (true, m) else some (false, m)) = some (decide p || (decide q || decide r), m) := by
    intro p q r _ _ _
    by_cases x : p <;> by_cases y : q <;> by_cases z : r <;> simp [x, y, z]
  have one : ∀ p : Prop, ∀ [Decidable p], (if p then some (true, m) else some (false, m)) = some (decide p, m) := by
    intro p _
    by_cases x : p <;> simp [x]
  have nne : ∀ p : Prop, ∀ [Decidable p], (if p then some (false, m) else some (true, m)) = some (!decide p, m) := by
    intro p _
    by_cases x : p <;> simp [x]
  rw [two, three, two, two, one, nne]
  by_cases a0 : a = 0
  · rw [if_pos a0, if_pos a0]
  · rw [if_neg a0, if_neg a0]
    by_cases a1 : a = 1
    · rw [if_pos a1, if_pos a1]
    · rw [if_neg a1, if_neg a1]
      by_cases a2 : a = 2
      · rw [if_pos a2, if_pos a2]
      · rw [if_neg a2, if_neg a2]
        by_cases a3 : a = 3
        · rw [if_pos a3, if_pos a3]
        · rw [if_neg a3, if_neg a3]
          by_cases a4 : a = 4
          · rw [if_pos a4, if_pos a4]
          · rw [if_neg a4, if_neg a4]
            by_cases a5 : a = 5
            · rw [if_pos a5, if_pos a5]
            · rw [if_neg a5, if_neg a5]
/-- what is on the shelf: nothing, a row, or a thing of a kind -/
theorem onS (R : Rv c m v vk) {j : Nat} (hj : j < 4) :
    (f_X8_heldOn N (nI j) c = some (3, c) ∧ f_X9_kindOn N (nI j) m = some (-1, m)) ∨
    (f_X8_heldOn N (nI j) c = some (2, c) ∧ f_X9_kindOn N (nI j) m = some (9, m) ∧ ∃ so n, so < 4 ∧ n ≤ 40 ∧ rI c 57 (j * 4 + 2) = nI so ∧ rI c 57 (j * 4 + 3) = nI n ∧ rI m 83 j = nI so ∧ rI m 84 j = nI n) ∨
    (∃ w k n, w < 2 ∧ 1 ≤ k ∧ k < 9 ∧ n < 30 ∧ f_X8_heldOn N (nI j) c = some (nI w, c) ∧ f_X9_kindOn N (nI j) m = some (nI k, m) ∧ f_X8_kindOn N (nI j) c = some (nI k, c) ∧ rI c 57 (j * 4 + 0) = nI w ∧ rI c 57 (j * 4 + 1) = nI n ∧ rI m 83 j = nI n ∧ (w = 0 → n < cnt v 1 ∧ k < 8) ∧ (w = 1 → n < cnt v 0 ∧ k = 8)) := by
  obtain ⟨h, g, hv, kp, ta, ro, sh, sl, -⟩ := id R
  have b0 := hv.n0
  have b1 := hv.np
  obtain ⟨t, S⟩ := slv_i.mp sl
  have gg0 : f_X5_get N 56 (nI j) 0 c = some (rI c 57 (j * 4 + 0), c) := th_get t hj (k := 0) (by decide)
  have gg1 : f_X5_get N 56 (nI j) 1 c = some (rI c 57 (j * 4 + 1), c) := th_get t hj (k := 1) (by decide)
  have G : ∀ X : Option (Int32 × Mem), gin (nI j) 4 X = X := fun X => gin_n hj (by decide)
  have cj : (nI j).toNatClampNeg = j := nI_clamp (by omega)
  have H1 : f_X8_heldOn N (nI j) c = if rI c 57 (j * 4 + 0) = 0 then (bnd (f_X5_has N 4 (rI c 57 (j * 4 + 1)) c) fun r4 s4 => if r4 = true then f_X8_heldOn_j53 N (rI c 57 (j * 4 + 0)) (rI c 57 (j * 4 + 1)) s4 else some (3, s4)) else f_X8_heldOn_j53 N (rI c 57 (j * 4 + 0)) (rI c 57 (j * 4 + 1)) c := by
    unfold f_X8_heldOn
    rw [th_has t, isJ hj, bnd_s, ite_T, gg0, bnd_s, gg1, bnd_s]
  have H2 : f_X9_kindOn N (nI j) m = if rI m 82 j < 0 then f_X9_kindOn_j16 N (rI m 82 j) m else if rI m 82 j = 2 then f_X9_kindOn_j16 N (rI m 82 j) m else bnd (f_X9_isThing N (rI m 82 j) (rI m 83 j) m) fun r1 s1 => if r1 = true then (if rI m 82 j = 1 then some (8, s1) else gin ((6 * rI m 83 j) + 1) 180 (some (rI s1 63 ((6 * rI m 83 j) + 1).toNatClampNeg, s1))) else some (-1, s1) := by
    unfold f_X9_kindOn
    simp only [G, cj]
  have H3 : f_X8_kindOn N (nI j) c = if rI c 57 (j * 4 + 0) = 1 then some (8, c) else bnd (f_X5_get N 4 (rI c 57 (j * 4 + 1)) 1 c) fun r3 s3 => some (r3, s3) := by
    unfold f_X8_kindOn
    rw [gg0, bnd_s, gg1, bnd_s]
  rcases S j hj with ⟨s1, s2⟩ | ⟨w, n, hw, hn, s1, s2, s3, s4⟩ | ⟨so, n, hs, hn, s1, s2, s3, s4, s5, s6⟩
  · refine Or.inl ⟨?_, ?_⟩
    · rw [H1, s1, if_neg (by decide)]
      unfold f_X8_heldOn_j53
      rw [if_neg (by decide)]
    · rw [H2, s2, if_pos (by decide)]
      unfold f_X9_kindOn_j16
      rw [if_neg (by decide)]
  · have cw : w = 0 ∨ w = 1 := by omega
    rcases cw with rfl | rfl
    · have I : f_X9_isThing N (nI 0) (nI n) m = some (isI (nI n) (cnt v 1), m) := by
        unfold f_X9_isThing
        rw [if_pos (show nI 0 = 0 from rfl), e_isPap g hv, bnd_s]
      rw [H1, H2, s1, s2, s3, s4, if_pos (show nI 0 = 0 from rfl), if_neg (by decide), if_neg (by decide), th_has (T1 h), bnd_s, I, bnd_s, isI_n (by omega) (by omega), ite_d, ite_d]
      by_cases z : n < cnt v 1
      · have bk := (hv.2.1 n z).2.1
        refine Or.inr (Or.inr ⟨0, tb v 1 n 1, n, by decide, bk.1, by omega, hn, ?_, ?_, ?_, rfl, rfl, rfl, fun _ => ⟨z, by omega⟩, fun e => absurd e (by decide)⟩)
        · rw [if_pos z]
          unfold f_X8_heldOn_j53
          rw [if_neg (by decide)]
        · rw [if_pos z, if_neg (by decide), pmg1 hn, pmn1 hn, mp1 g z]
        · rw [H3, s1, s2, if_neg (by decide), g11 h z, bnd_s]
      · refine Or.inl ⟨?_, ?_⟩
        · rw [if_neg z]
        · rw [if_neg z]
    · have I : f_X9_isThing N (nI 1) (nI n) m = some (isI (nI n) (cnt v 0), m) := by
        unfold f_X9_isThing
        rw [if_neg (by decide), if_pos (show nI 1 = 1 from rfl), e_isPer g hv, bnd_s]
      have J : f_X8_heldOn_j53 N (nI 1) (nI n) c = if isI (nI n) (cnt v 0) = true then some (nI 1, c) else some (3, c) := by
        unfold f_X8_heldOn_j53
        rw [if_pos (show nI 1 = 1 from rfl), th_has (T0 h), bnd_s]
      rw [H1, H2, s1, s2, s3, s4, if_neg (by decide), if_neg (by decide), if_neg (by decide), J, I, bnd_s, isI_n (by omega) (by omega), ite_d, ite_d]
      by_cases z : n < cnt v 0
      · refine Or.inr (Or.inr ⟨1, 8, n, by decide, by decide, by decide, hn, ?_, ?_, ?_, rfl, rfl, rfl, fun e => absurd e (by decide), fun _ => ⟨z, rfl⟩⟩)
        · rw [if_pos z]
        · rw [if_pos z, if_pos (show nI 1 = 1 from rfl)]; rfl
        · rw [H3, s1, if_pos (show nI 1 = 1 from rfl)]; rfl
      · refine Or.inl ⟨?_, ?_⟩
        · rw [if_neg z]
        · rw [if_neg z]
  · refine Or.inr (Or.inl ⟨?_, ?_, so, n, hs, hn, s2, s3, s5, s6⟩)
    · rw [H1, s1, if_neg (by decide)]
      unfold f_X8_heldOn_j53
      rw [if_neg (by decide)]
    · rw [H2, s4, if_neg (by decide), if_pos rfl]
      unfold f_X9_kindOn_j16
      rw [if_pos (by decide)]
theorem und_99 : ∀ k, k < 9 → ∀ a, 9 ≤ a → a < 14 → und k a = false := by
  intro k hk a h1 h2
  have : a = 9 ∨ a = 10 ∨ a = 11 ∨ a = 12 ∨ a = 13 := by omega
  have q : ∀ k, k < 9 → und k 9 = false ∧ und k 10 = false ∧ und k 11 = false ∧ und k 12 = false ∧ und k 13 = false := by decide +kernel
  obtain ⟨q1, q2, q3, q4, q5⟩ := q k hk
  rcases this with rfl | rfl | rfl | rfl | rfl
  · exact q1
  · exact q2
  · exact q3
  · exact q4
  · exact q5
theorem b_takenJ (R : Rv c m v vk) (hN : 1000 ≤ N) {j a : Nat} (hj : j < 4) (ha : a < 9 ∨ 10 ≤ a ∧ a < 14) : Both (f_X8_taken_j35 N (nI j) (nI a) (decide (10 ≤ a)) c) (f_X9_taken_j30 N (nI j) (nI a) m) := by
  obtain ⟨h, g, hv, kp, ta, ro, sh, sl, -⟩ := id R
  obtain ⟨t, S⟩ := slv_i.mp sl
  have gg1 : f_X5_get N 56 (nI j) 1 c = some (rI c 57 (j * 4 + 1), c) := th_get t hj (k := 1) (by decide)
  have gg2 : f_X5_get N 56 (nI j) 2 c = some (rI c 57 (j * 4 + 2), c) := th_get t hj (k := 2) (by decide)
  have gg3 : f_X5_get N 56 (nI j) 3 c = some (rI c 57 (j * 4 + 3), c) := th_get t hj (k := 3) (by decide)
  unfold f_X8_taken_j35 f_X9_taken_j30
  rcases onS (N := N) R hj with ⟨e1, e2⟩ | ⟨e1, e2, so, n, hs, hn, s1, s2, s3, s4⟩ | ⟨w, k, n, hw, hk1, hk, hn, e1, e2, e3, s1, s2, s3, -, -⟩
  · rw [e1, e2, bnd_s, bnd_s, if_pos rfl, if_neg (by decide)]
    exact both_bad R _
  · rw [e1, e2, bnd_s, bnd_s, if_neg (by decide), if_pos rfl, if_pos (by decide), if_pos rfl]
    unfold f_X8_taken_j63
    rw [gin_n hj (by decide), gin_n hj (by decide), nI_clamp (by omega), s3, s4, show (10 + nI so : Int32) = nI (10 + so) from nI_add 10 so, ite_eq (by omega) (by omega)]
    by_cases z : 10 ≤ a
    · rw [decide_eq_true z, if_pos rfl, ite_T, gg2, bnd_s, s1, show (nI a - 10 : Int32) = nI (a - 10) from pk_sub (b := 10) z, ite_eq (by omega) (by omega), gg3, bnd_s, s2]
      by_cases y : so = a - 10
      · rw [if_pos y, if_pos (by omega)]
        exact both_bad R _
      · rw [if_neg y, if_neg (by omega)]
        exact both_bad R _
    · rw [decide_eq_false z, if_neg (by decide), if_neg (by omega)]
      exact both_bad R _
  · have w3 : ¬ nI w = 3 := fun e => by
      have := (nI_eq (a := w) (b := 3) (by omega) (by decide)).mp e
      omega
    have w2 : ¬ nI w = 2 := fun e => by
      have := (nI_eq (a := w) (b := 2) (by omega) (by decide)).mp e
      omega
    rw [e1, e2, bnd_s, bnd_s, if_neg w3, if_neg w2, if_pos (nI_pos' (by omega)), ek9 (by omega), if_neg (by omega), kle10 (by omega)]
    unfold f_X8_taken_j63
    by_cases z : 10 ≤ a
    · rw [decide_eq_true z, if_neg (by decide), if_pos z]
      exact both_bad R _
    · rw [decide_eq_false z, if_pos rfl, ite_F, if_neg z, e3, bnd_s, c_under hk (by omega) hN, bnd_s, m_under2 hk hk1 (by omega), bnd_s, gg1, bnd_s, s2, gin_n hj (by decide), nI_clamp (by omega), s3]
      by_cases y : und k a = true
      · rw [if_pos y, if_pos y]
        exact both_bad R _
      · rw [if_neg y, if_neg y]
        exact both_bad R _
theorem b_taken (R : Rv c m v vk) (hN : 1000 ≤ N) (a1 a2 : Int32) : Both (f_X8_taken N a1 a2 c) (f_X9_taken N a1 a2 m) := by
  obtain ⟨h, g, hv, kp, ta, ro, sh, sl, -⟩ := id R
  obtain ⟨t, S⟩ := slv_i.mp sl
  unfold f_X8_taken f_X9_taken
  rw [e_isSort, bnd_s, th_has t, bnd_s, e_isShelf, bnd_s, isI4, ite_d, ite_d, ite_d]
  by_cases h1 : ¬ a1 < 0 ∧ ¬ (3 : Int32) < a1
  · obtain ⟨j, hj, rfl⟩ := btw_of (n := 3) (by decide) h1.1 h1.2
    have hj4 : j < 4 := by omega
    rw [if_pos h1, if_pos h1, e_within, bnd_s, e_in, bnd_s, e_in, bnd_s, ite_d, ite_d, ite_d]
    have dec : (¬ a2 - 10 < 0 ∧ ¬ (3 : Int32) < a2 - 10) ↔ (¬ a2 < 10 ∧ ¬ (13 : Int32) < a2) := by
      constructor
      · intro q
        obtain ⟨x, hx, e⟩ := btw_of (n := 3) (by decide) q.1 q.2
        have e2 : a2 = nI (x + 10) := by
          have : a2 = a2 - 10 + 10 := by rw [Int32.sub_add_cancel]
          rw [this, e]; exact nI_add x 10
        rw [e2]
        exact ⟨nI_nlt (b := 10) (by omega) (by omega), nI_nlt (a := 13) (by omega) (by decide)⟩
      · intro q
        have q0 : ¬ a2 < 0 := fun z => q.1 (by rw [i32_lt] at z ⊢; exact Int.lt_trans z (by decide))
        obtain ⟨x, hx, rfl⟩ := btw_of (n := 13) (by decide) q0 q.2
        have hx2 : 10 ≤ x := by
          have := q.1
          rw [i10, nI_ltI (by omega) (by omega)] at this
          omega
        rw [show (nI x - 10 : Int32) = nI (x - 10) from pk_sub (b := 10) hx2]
        exact ⟨nI_pos (by omega), nI_nlt (a := 3) (by omega) (by decide)⟩
    by_cases z : ¬ a2 < 10 ∧ ¬ (13 : Int32) < a2
    · have q0 : ¬ a2 < 0 := fun y => z.1 (by rw [i32_lt] at y ⊢; exact Int.lt_trans y (by decide))
      obtain ⟨x, hx, rfl⟩ := btw_of (n := 13) (by decide) q0 z.2
      have hx2 : 10 ≤ x := by
        have := z.1
        rw [i10, nI_ltI (by omega) (by omega)] at this
        omega
      rw [if_pos (dec.mpr z), decide_eq_true (dec.mpr z), if_pos z, if_neg (fun q => q.2 (nI_lt (a := 8) (by omega) (by omega)))]
      have := b_takenJ (N := N) R hN hj4 (a := x) (Or.inr ⟨hx2, by omega⟩)
      rw [decide_eq_true hx2] at this
      exact this
    · rw [if_neg (fun q => z (dec.mp q)), decide_eq_false (fun q => z (dec.mp q)), if_neg z]
      by_cases y : ¬ a2 < 0 ∧ ¬ (8 : Int32) < a2
      · obtain ⟨x, hx, rfl⟩ := btw_of (n := 8) (by decide) y.1 y.2
        rw [if_pos y, if_pos y]
        have := b_takenJ (N := N) R hN hj4 (a := x) (Or.inl (by omega))
        rw [decide_eq_false (by omega)] at this
        exact this
      · rw [if_neg y, if_neg y]
        exact both_bad R _
  · rw [if_neg h1, if_neg h1]
    exact both_bad R _
end UNDER
