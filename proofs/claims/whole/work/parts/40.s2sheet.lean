-- sheets
theorem ln_sh : ∀ j, j < 4 → ln (48 + 2 * j + 1) = 40 := by decide
section SHEETS
variable {N : Nat} {c m : Mem} {v vk : VB}
/-- a sheet that both sides see alike: sort counted from 1 (0 none), size -/
def SH1 (c m : Mem) (j so n : Nat) : Prop := (so = 0 ∧ n = 0 ∨ 1 ≤ so ∧ so ≤ 4 ∧ n ≤ 40) ∧ rI c (48 + 2 * j) 1 = nI so - 1 ∧ rI m 79 j = nI so - 1 ∧ rI c (48 + 2 * j) 2 = nI n ∧ rI m 80 j = nI n ∧ ∀ i, i < 40 → rL m 81 (40 * j + i) = (rI c (48 + 2 * j + 1) i).toInt64
theorem Rv.sh (R : Rv c m v vk) {j : Nat} (hj : j < 4) : ∃ so n, SH1 c m j so n := R.2.2.2.2.2.2.1 j hj
theorem so_0 : (nI 0 - 1 : Int32) = -1 := by decide
theorem so_1 {so : Nat} (h : 1 ≤ so) : (nI so - 1 : Int32) = nI (so - 1) := by rw [i1, pk_sub h]
theorem nI_nm1 {x : Nat} (h : x < 2 ^ 31) : ¬ nI x = -1 := fun e => by
  have := congrArg Int32.toInt e
  rw [tI h] at this
  have e3 : (-1 : Int32).toInt = -1 := by decide
  rw [e3] at this
  omega
theorem sh_has {t n : Nat} (h : rI c t 2 = nI n) (a : Int32) : f_X4_has N t a c = some (isI a n, c) := by
  unfold f_X4_has isI
  rw [h]
  by_cases h1 : a < 0
  · simp [h1]
  · by_cases h2 : nI n ≤ a <;> simp [h1, h2]
theorem sh_get {j n i : Nat} (hj : j < 4) (h : rI c (48 + 2 * j) 2 = nI n) (hn : n ≤ 40) (hi : i < n) : f_X4_get N (48 + 2 * j) (nI i) c = some (rI c (48 + 2 * j + 1) i, c) := by
  unfold f_X4_get
  rw [sh_has h, bnd_s, isI_n (by omega) (by omega), decide_eq_true hi, ite_T, ln_sh j hj, le_f (by omega) (by omega), gin_n (by omega) (by decide), nI_clamp (by omega)]
/-- the refusal -/
def refu (so as : Nat) : Int32 := if so = 0 then -11 else if so = as + 1 then 0 else -13
theorem sh_ref {j so as n : Nat} (h : SH1 c m j so n) (ha : as < 4) : f_X4_refusalAs N (48 + 2 * j) (nI as) c = some (refu so as, c) := by
  obtain ⟨h1, h2, -⟩ := h
  unfold f_X4_refusalAs refu
  rw [h2]
  by_cases z : so = 0
  · rw [z, so_0, if_pos rfl, if_pos rfl]
  · rw [so_1 (by omega), if_neg (nI_nm1 (by omega)), if_neg z, ite_eq (by omega) (by omega)]
    by_cases w : so = as + 1
    · rw [if_pos (by omega), if_pos w]
    · rw [if_neg (by omega), if_neg w]
theorem m_lacks {j so as n : Nat} (h : SH1 c m j so n) (hj : j < 4) (ha : as < 4) : f_X9_lacksSort N (nI j) (nI as) m = some (refu so as, m) := by
  obtain ⟨h1, -, h2, -⟩ := h
  unfold f_X9_lacksSort refu
  rw [gin_n hj (by decide), nI_clamp (by omega), gin_n hj (by decide), h2]
  by_cases z : so = 0
  · rw [z, so_0, if_neg (by decide), if_pos rfl]
  · rw [so_1 (by omega), if_pos (nI_pos' (by omega)), if_neg z, ite_eq (by omega) (by omega)]
    by_cases w : so = as + 1
    · rw [if_pos (by omega), if_pos w]
    · rw [if_neg (by omega), if_neg w]
theorem refu0 {so as : Nat} : refu so as = 0 ↔ so = as + 1 := by
  unfold refu
  by_cases z : so = 0
  · rw [if_pos z]; exact ⟨fun e => absurd e (by decide), fun e => by omega⟩
  · rw [if_neg z]
    by_cases w : so = as + 1
    · rw [if_pos w]; exact ⟨fun _ => w, fun _ => rfl⟩
    · rw [if_neg w]; exact ⟨fun e => absurd e (by decide), fun e => absurd e w⟩
theorem cl_o {j : Nat} (hj : j < 4) : 47 + 1 + 2 * (nI j).toNatClampNeg = 48 + 2 * j := by rw [nI_clamp (by omega)]
theorem b_item (R : Rv c m v vk) (a1 a2 a3 : Int32) : Both (f_X8_item N a1 a2 a3 c) (f_X9_item N a1 a2 a3 m) := by
  unfold f_X8_item f_X9_item
  rw [e_isSheet, bnd_s, e_isShelf, bnd_s, ite_d, ite_d]
  by_cases h1 : ¬ a1 < 0 ∧ ¬ (3 : Int32) < a1
  · obtain ⟨j, hj, rfl⟩ := btw_of (n := 3) (by decide) h1.1 h1.2
    obtain ⟨so, n, S⟩ := R.sh (show j < 4 by omega)
    have G : ∀ X : Option (Int32 × Mem), gin (nI j) 4 X = X := fun X => gin_n (by omega) (by decide)
    simp only [G]
    rw [if_pos h1, if_pos h1, e_isSort, bnd_s, e_in, bnd_s, ite_d, ite_d]
    by_cases h2 : ¬ a2 < 0 ∧ ¬ (3 : Int32) < a2
    · obtain ⟨as, ha, rfl⟩ := btw_of (n := 3) (by decide) h2.1 h2.2
      rw [if_pos h2, if_pos h2, cl_o (by omega), sh_ref S (by omega), bnd_s, m_lacks S (by omega) (by omega), bnd_s]
      by_cases z : so = as + 1
      · obtain ⟨q1, q2, q3, q4, q5, q6⟩ := S
        rw [if_pos (refu0.mpr z), if_pos (refu0.mpr z), nI_clamp (by omega), e_in, bnd_s, q5, isP_eq (by omega), sh_has q4, bnd_s]
        by_cases h3 : isI a3 n = true
        · obtain ⟨i, hi, rfl⟩ := isI_of (by omega) h3
          rw [if_pos h3, if_pos h3, sh_get (by omega) q4 (by omega) hi, bnd_s, show (40 : Int32) * nI j = nI (40 * j) from pk_mul 40 j, nI_add, gin_n (by omega) (by decide), nI_clamp (by omega), q6 i (by omega)]
          rw [show (rI c (48 + 2 * j + 1) i).toInt64.toInt32 = rI c (48 + 2 * j + 1) i by simp]
          exact both_bad R _
        · rw [if_neg h3, if_neg h3]
          exact both_bad R _
      · rw [if_neg (fun e => z (refu0.mp e)), if_neg (fun e => z (refu0.mp e))]
        exact both_bad R _
    · rw [if_neg h2, if_neg h2]
      exact both_bad R _
  · rw [if_neg h1, if_neg h1]
    exact both_bad R _
/-- one sheet changes, nothing else -/
theorem Rv.shset (R : Rv c m v vk) {c2 m2 : Mem} {j so n : Nat} (hj : j < 4) (S : SH1 c2 m2 j so n) (hc : ∀ o k, o ≠ 48 + 2 * j → o ≠ 48 + 2 * j + 1 → rI c2 o k = rI c o k) (hm : ∀ o k, ¬ (o = 79 ∧ k = j) → ¬ (o = 80 ∧ k = j) → rI m2 o k = rI m o k) (hl : ∀ i, ¬ (40 * j ≤ i ∧ i < 40 * j + 40) → rL m2 81 i = rL m 81 i) : Rv c2 m2 v vk := by
  obtain ⟨h1, h2, h3, h4, h5, h6, h7, h8, h9, h10⟩ := id R
  refine R.chg (h5.keep (fun o k ho => hc o k (by omega) (by omega)) (fun o k ho => hm o k (by omega) (by omega))) (h6.keep (fun o k ho => hc o k (by omega) (by omega)) (fun o k ho => hm o k (by omega) (by omega))) (fun i hi => ?_) (h8.keep (fun o k ho => hc o k (by omega) (by omega)) (fun o k ho => hm o k (by omega) (by omega))) (h9.keep (fun o k ho => hc o k (by omega) (by omega)) (fun o k ho => hm o k (by omega) (by omega))) (fun o k ho => hc o k (by omega) (by omega)) (fun o k ho => hm o k (by omega) (by omega))
  by_cases e : i = j
  · rw [e]; exact ⟨so, n, S⟩
  · obtain ⟨so, n, n1, n2, n3, n4, n5, n6⟩ := h7 i hi
    refine ⟨so, n, n1, by rw [hc _ _ (by omega) (by omega)]; exact n2, by rw [hm _ _ (by omega) (by omega)]; exact n3, by rw [hc _ _ (by omega) (by omega)]; exact n4, by rw [hm _ _ (by omega) (by omega)]; exact n5, fun q hq => ?_⟩
    rw [hc _ _ (by omega) (by omega), hl _ (by omega)]; exact n6 q hq
theorem b_put (R : Rv c m v vk) (a1 a2 a3 : Int32) : Both (f_X8_put N a1 a2 a3 c) (f_X9_put N a1 a2 a3 m) := by
  unfold f_X8_put f_X9_put
  rw [e_isSheet, bnd_s, e_isShelf, bnd_s, ite_d, ite_d]
  by_cases h1 : ¬ a1 < 0 ∧ ¬ (3 : Int32) < a1
  · obtain ⟨j, hj, rfl⟩ := btw_of (n := 3) (by decide) h1.1 h1.2
    obtain ⟨so, n, S⟩ := R.sh (show j < 4 by omega)
    obtain ⟨q1, q2, q3, q4, q5, q6⟩ := id S
    have G : ∀ X : Option (Int32 × Mem), gin (nI j) 4 X = X := fun X => gin_n (by omega) (by decide)
    simp only [G]
    rw [if_pos h1, if_pos h1, cl_o (by omega), nI_clamp (by omega), q2, q3]
    by_cases z : so = 0
    · rw [z, so_0, if_pos rfl, if_neg (by decide)]
      exact both_bad R _
    · rw [so_1 (by omega), if_neg (nI_nm1 (by omega)), if_pos (nI_pos' (by omega)), sh_has q4, bnd_s, e_in, bnd_s, q5, isP_eq (by omega)]
      by_cases h3 : isI a2 n = true
      · obtain ⟨i, hi, rfl⟩ := isI_of (by omega) h3
        rw [if_pos h3, if_pos h3]
        unfold f_X4_set
        rw [sh_has q4, bnd_s, if_pos h3, ln_sh j (by omega), lt_t (by omega) (by decide), q2, q3, so_1 (by omega), gin_n (by omega) (by decide), gin_n (by omega) (by decide), gin_n (by omega) (by decide), nI_clamp (by omega), show (40 : Int32) * nI j = nI (40 * j) from pk_mul 40 j, nI_add, gin_n (by omega) (by decide), gin_n (by omega) (by decide), gin_n (by omega) (by decide), nI_clamp (by omega), ek0 (by omega), ek0 (by omega), ek1 (by omega), ek1 (by omega)]
        have fin : ∀ x : Int32, Both (some ((1 : Int32), wI c (48 + 2 * j + 1) i x)) (some (1, wL m 81 (40 * j + i) x.toInt64)) := by
          intro x
          refine Both.of rfl rfl (R.shset (j := j) (so := so) (n := n) (by omega) ⟨q1, by rw [rI_ne (by omega)]; exact q2, q3, by rw [rI_ne (by omega)]; exact q4, q5, fun q hq => ?_⟩ (fun o k g1 g2 => rI_ne g2) (fun o k _ _ => rfl) (fun q hq => by rw [rL_w, if_neg (by omega)]))
          rw [rL_w, rI_w]
          by_cases e : q = i
          · rw [if_pos ⟨rfl, by omega⟩, if_pos ⟨rfl, e⟩]
          · rw [if_neg (by omega), if_neg (fun w => e w.2)]; exact q6 q hq
        by_cases w0 : so - 1 = 0
        · rw [if_pos w0, if_pos w0, lt_e, bnd_s, lt_e]
          exact fin _
        · by_cases w1 : so - 1 = 1
          · rw [if_neg w0, if_neg w0, if_pos w1, if_pos w1, lt_e, bnd_s, lt_e]
            exact fin _
          · rw [if_neg w0, if_neg w0, if_neg w1, if_neg w1, lt_e, bnd_s, lt_e]
            exact fin _
      · rw [if_neg h3, if_neg h3]
        exact both_bad R _
  · rw [if_neg h1, if_neg h1]
    exact both_bad R _
end SHEETS
