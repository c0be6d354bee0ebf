-- register
section REG
variable {N : Nat} {c m : Mem} {v vk : VB}
theorem regL (hN : 1000 ≤ N) {p j : Nat} (hp : p < 10) (hj : j < 4) (w : Nat) (hw : w ≤ 10) (i : Nat) : ∀ d k n came (c m : Mem), RR c m → k + d = w → d < n → i + 2 * k < 2 ^ 31 → came ≤ k → Both (f_X8_register_L67 N n (nI p) (nI w) (48 + 2 * j) (nI came) (nI (i + 2 * k)) (nI k) c) (f_X9_register_L50 N n (nI p) (nI j) (nI i) (nI w) (nI came) (nI k) m) := by
  intro d
  induction d with
  | zero =>
    intro k n came c m R h1 h2 h3 h4
    obtain ⟨v, vk, R⟩ := R
    obtain ⟨n, rfl⟩ := suc_of h2
    unfold f_X8_register_L67 f_X9_register_L50
    rw [le_t (by omega) (by omega), le_t (by omega) (by omega)]
    exact both_bad R _
  | succ d ih =>
    intro k n came c m R0 h1 h2 h3 h4
    obtain ⟨v, vk, R⟩ := id R0
    obtain ⟨n, rfl⟩ := suc_of h2
    obtain ⟨so, sz, S⟩ := R.sh hj
    obtain ⟨q1, q2, q3, q4, q5, q6⟩ := id S
    unfold f_X8_register_L67 f_X9_register_L50
    rw [le_f (by omega) (by omega), le_f (by omega) (by omega), lt0_f (by omega), gin_n hj (by decide), nI_clamp (by omega), q5, sh_has q4, bnd_s, isI_n h3 (by omega), ite_d]
    have cmp : (nI i ≤ nI sz - 2 - 2 * nI k) ↔ i + 2 * k + 2 ≤ sz := by
      rw [rmi0, i2, i32_le, tI_dd (by omega) (by decide) (by omega), tI (by omega)]
      omega
    by_cases z : i + 2 * k < sz
    · rw [if_pos z, nI_1, sh_has q4, bnd_s, isI_n (by omega) (by omega), ite_d]
      by_cases y : i + 2 * k + 1 < sz
      · have e0 : (40 * nI j + nI i + 2 * nI k : Int32) = nI (40 * j + (i + 2 * k)) := by
          rw [show (40 : Int32) * nI j = nI (40 * j) from pk_mul 40 j, rmi0, nI_add, nI_add]
          congr 1
          omega
        rw [if_pos y, if_pos (cmp.mpr (by omega)), sh_get hj q4 (by omega) z, bnd_s, sh_get hj q4 (by omega) y, bnd_s, e0, gin_n (by omega) (by omega), lt_e, nI_1, nI_1, gin_n (by omega) (by omega), lt_e, nI_clamp (by omega), nI_clamp (by omega), q6 _ (by omega), show 40 * j + (i + 2 * k) + 1 = 40 * j + (i + 2 * k + 1) by omega, q6 _ (by omega)]
        rw [show (rI c (48 + 2 * j + 1) (i + 2 * k)).toInt64.toInt32 = rI c (48 + 2 * j + 1) (i + 2 * k) by simp, show (rI c (48 + 2 * j + 1) (i + 2 * k + 1)).toInt64.toInt32 = rI c (48 + 2 * j + 1) (i + 2 * k + 1) by simp]
        obtain ⟨r, c2, m2, e1, e2, R2⟩ := b_paper (N := N) R hN (nI p) 3 (rI c (48 + 2 * j + 1) (i + 2 * k)) (rI c (48 + 2 * j + 1) (i + 2 * k + 1)) 10 0
        rw [e1, bnd_s, e2, bnd_s]
        unfold f_X8_register_j130 f_X9_register_j144
        rw [bI_f, bI_t, show (nI (i + 2 * k) + 2 : Int32) = nI (i + 2 * (k + 1)) from nI_add _ 2, nI_1, nI_1, show (0 : Int32) = nI 0 from rfl, nI_add, Nat.add_zero]
        by_cases x : r < nI 0
        · rw [if_pos x, if_pos x]
          exact ih (k + 1) n came c2 m2 R2 (by omega) (by omega) (by omega) (by omega)
        · rw [if_neg x, if_neg x]
          exact ih (k + 1) n (came + 1) c2 m2 R2 (by omega) (by omega) (by omega) (by omega)
      · rw [if_neg y, if_neg (fun q => by have := cmp.mp q; omega)]
        exact both_bad R _
    · rw [if_neg z, if_neg (fun q => by have := cmp.mp q; omega)]
      exact both_bad R _
theorem b_register (R : Rv c m v vk) (hN : 1000 ≤ N) (a1 a2 a3 a4 : Int32) : Both (f_X8_register N a1 a2 a3 a4 c) (f_X9_register N a1 a2 a3 a4 m) := by
  obtain ⟨h, g, hv, -⟩ := id R
  have b0 := hv.n0
  unfold f_X8_register f_X9_register
  rw [e_isSheet, bnd_s, e_isPer g hv, bnd_s, e_isShelf, bnd_s, th_has (T0 h), bnd_s, ite_d, ite_d]
  by_cases h1 : ¬ a2 < 0 ∧ ¬ (3 : Int32) < a2
  · rw [if_pos h1, if_pos h1]
    by_cases h2 : isI a1 (cnt v 0) = true
    · obtain ⟨p, hp, rfl⟩ := isI_of (by omega) h2
      obtain ⟨j, hj, rfl⟩ := btw_of (n := 3) (by decide) h1.1 h1.2
      obtain ⟨so, sz, S⟩ := R.sh (show j < 4 by omega)
      have hj4 : j < 4 := by omega
      rw [if_pos h2, if_pos h2, e_within, bnd_s, e_in, bnd_s, ite_d, ite_d]
      by_cases h3 : ¬ a4 < 0 ∧ ¬ (10 : Int32) < a4
      · obtain ⟨w, hw, rfl⟩ := btw_of (n := 10) (by decide) h3.1 h3.2
        have r1 : f_X4_refusalAs N (48 + 2 * j) 0 c = some (refu so 0, c) := sh_ref S (as := 0) (by decide)
        have r2 : f_X9_lacksSort N (nI j) 0 m = some (refu so 0, m) := m_lacks S hj4 (as := 0) (by decide)
        rw [if_pos h3, if_pos h3, gin_n hj4 (by decide), cl_o hj4, r1, bnd_s, r2, bnd_s]
        by_cases z : refu so 0 = 0
        · rw [if_pos z, if_pos z]
          by_cases y : a3 < 0
          · obtain ⟨N', e⟩ := suc_of (show 0 < N by omega)
            obtain ⟨q1, q2, q3, q4, q5, q6⟩ := S
            have e1 : f_X8_register_L67 N N (nI p) (nI w) (48 + 2 * j) 0 a3 0 c = if w ≤ 0 then some (0, c) else some (-12, c) := by
              have q : ∀ M, M = N' + 1 → f_X8_register_L67 N M (nI p) (nI w) (48 + 2 * j) 0 a3 0 c = if w ≤ 0 then some (0, c) else some (-12, c) := by
                intro M hM
                subst hM
                unfold f_X8_register_L67
                rw [lek0 (by omega), sh_has q4, bnd_s]
                by_cases u : w ≤ 0
                · rw [if_pos u, if_pos u]
                · rw [if_neg u, if_neg u, if_neg (by unfold isI; rw [decide_eq_true_eq]; exact fun q => q.1 y)]
              exact q N e
            have e2 : f_X9_register_L50 N N (nI p) (nI j) a3 (nI w) 0 0 m = if w ≤ 0 then some (0, m) else some (-12, m) := by
              have q : ∀ M, M = N' + 1 → f_X9_register_L50 N M (nI p) (nI j) a3 (nI w) 0 0 m = if w ≤ 0 then some (0, m) else some (-12, m) := by
                intro M hM
                subst hM
                unfold f_X9_register_L50
                rw [lek0 (by omega), if_pos y]
              exact q N e
            rw [e1, e2]
            by_cases u : w ≤ 0
            · rw [if_pos u, if_pos u]; exact both_bad R _
            · rw [if_neg u, if_neg u]; exact both_bad R _
          · obtain ⟨i, hi, rfl⟩ := nI_of y
            exact regL (N := N) hN (show p < 10 by omega) hj4 w hw i w 0 N 0 c m ⟨v, vk, R⟩ (by omega) (by omega) (by omega) (by omega)
        · rw [if_neg z, if_neg z]
          exact both_bad R _
      · rw [if_neg h3, if_neg h3]
        exact both_bad R _
    · rw [if_neg h2, if_neg h2]
      exact both_bad R _
  · rw [if_neg h1, if_neg h1]
    by_cases h2 : isI a1 (cnt v 0) = true
    · rw [if_pos h2]
      exact both_bad R _
    · rw [if_neg h2]
      exact both_bad R _
end REG
