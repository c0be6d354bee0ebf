-- what the judge learns, what the values are
theorem bitsF_P (v : VB) (p : Nat) : ∀ k, bitsF v p k = bitsP (fun i => decide (tb v 1 i 0 = p)) k := by
  intro k
  induction k with
  | zero => rfl
  | succ k ih => rw [bitsF, bitsP, ih]; simp only [decide_eq_true_eq]
theorem pc_bitsP (P : Nat → Bool) : ∀ k, k ≤ 30 → pc 32 (bitsP P k) = cntP P k := by
  intro k
  induction k with
  | zero => intro _; rw [bitsP, cntP]; exact pc_zero 32
  | succ k ih =>
    intro h
    have hi := ih (by omega)
    rw [bitsP, cntP]
    by_cases z : P k = true
    · rw [if_pos z, if_pos z, pc_up (by omega) (bitsP_lt P k), hi]
    · rw [if_neg z, if_neg z, Nat.add_zero, Nat.add_zero, hi]
theorem bitsP_and (P : Nat → Bool) (x n : Nat) : bitsP P n &&& x = bitsP (fun i => P i && x.testBit i) n := by
  apply Nat.eq_of_testBit_eq
  intro i
  rw [Nat.testBit_and, bitsP_test, bitsP_test]
  cases decide (i < n) <;> cases P i <;> cases x.testBit i <;> rfl
def stcS (v : VB) (p x : Nat) (k : Nat) : Nat := cntP (fun i => decide (tb v 1 i 0 = p) && x.testBit i) k
def misF (v : VB) (p y : Nat) (k : Nat) : Nat := cntP (fun i => decide (tb v 1 i 0 = p) && !spS v i y) k
def misS (v : VB) (p : Nat) : Nat := if bestS v p = 0 then 0 else misF v p (bestS v p - 1) (cnt v 1)
def hunS (v : VB) (p q : Nat) : Nat := if allS v p = 0 then 0 else sumS v p (upS v p q) * 100 / allS v p
def ageS (v : VB) (p : Nat) : Nat := if bestS v p = 0 then 0 else seenS v p - (bestS v p - 1)
/-- the value of a code, for a person, when the papers x stand -/
def valS (v : VB) (p x code : Nat) : Nat := if code / 1000 = 1 then code % 1000 else if code / 1000 = 2 then ofP v p (cnt v 1) else if code / 1000 = 3 then stcS v p x (cnt v 1) else if code / 1000 = 4 then ageS v p else if code / 1000 = 5 then seenS v p else if code / 1000 = 6 then tb v 0 p 0 else if code / 1000 = 7 then misS v p else hunS v p (code % 1000)
/-- the judge has learnt -/
def JL (c : Mem) (v : VB) (p x : Nat) : Prop := rI c 33 1 = nI (ofP v p (cnt v 1)) ∧ rI c 33 2 = nI (stcS v p x (cnt v 1)) ∧ rI c 33 3 = nI (tb v 0 p 0) ∧ rI c 33 4 = nI (misS v p)
def jud (o : Nat) : Prop := o = 33
theorem lN_toI {n : Nat} (h : n < 2 ^ 31) : (lN n).toInt32 = nI n := by
  rw [← nI_l h]; simp
section LEARN
variable {N : Nat} {c m : Mem} {v vk : VB}
theorem WG.keep {c c2 : Mem} {p : Nat} (h : WG c v p) (hs : Sm1 (fun o => 33 ≤ o ∧ o ≤ 35) c c2) : WG c2 v p := by
  obtain ⟨h1, h2, h3, h4⟩ := h
  exact ⟨fun y hy => by rw [(hs 32 (by omega)).2]; exact h1 y hy, by rw [(hs 31 (by omega)).1]; exact h2, by rw [(hs 31 (by omega)).2]; exact h3, by rw [(hs 31 (by omega)).1]; exact h4⟩
theorem JL.keep {c c2 : Mem} {p x : Nat} (h : JL c v p x) (hs : Sm1 (fun o => 34 ≤ o ∧ o ≤ 35) c c2) : JL c2 v p x := by
  obtain ⟨h1, h2, h3, h4⟩ := h
  exact ⟨by rw [(hs 33 (by omega)).1]; exact h1, by rw [(hs 33 (by omega)).1]; exact h2, by rw [(hs 33 (by omega)).1]; exact h3, by rw [(hs 33 (by omega)).1]; exact h4⟩
theorem c_misL (hv : IV v) {p : Nat} (hp : p < 2 ^ 31) : ∀ d k n (c : Mem), RCb c 1 v → rI c 31 3 = (if bestS v p = 0 then -3 else nI (bestS v p - 1)) → rI c 33 4 = nI (if bestS v p = 0 then 0 else misF v p (bestS v p - 1) k) → k + d = cnt v 1 → d < n → ∃ c2, f_X1_learn_L51 N n (nI p) (nI k) c = some ((), c2) ∧ Sm1 (fun o => o = 33) c c2 ∧ rI c2 33 1 = rI c 33 1 ∧ rI c2 33 2 = rI c 33 2 ∧ rI c2 33 3 = rI c 33 3 ∧ rI c2 33 4 = nI (misS v p) := by
  have b1 := hv.np
  have bl := bes_le (v := v) p 161
  intro d
  induction d with
  | zero =>
    intro k n c h hb hm h1 h2
    obtain ⟨n, rfl⟩ := suc_of h2
    have e : k = cnt v 1 := by omega
    refine ⟨c, ?_, Sm1.rf, rfl, rfl, rfl, by rw [hm, e]; rfl⟩
    unfold f_X1_learn_L51
    rw [ct1 h, le_t (by omega) (by omega)]
  | succ d ih =>
    intro k n c h hb hm h1 h2
    obtain ⟨n, rfl⟩ := suc_of h2
    have hk : k < cnt v 1 := by omega
    have mk := cntP_max (fun i => decide (tb v 1 i 0 = p) && !spS v i (bestS v p - 1)) k
    unfold f_X1_learn_L51
    rw [ct1 h, le_f hk (by omega), hb]
    by_cases z : bestS v p = 0
    · refine ⟨c, ?_, Sm1.rf, rfl, rfl, rfl, by rw [hm, if_pos z]; unfold misS; rw [if_pos z]⟩
      rw [if_pos z, if_pos rfl]
    · have hi := ih (k + 1) n
      rw [if_neg z] at hb hm hi
      rw [if_neg z] at hi
      rw [if_neg z, if_neg (nI_ne3 (by unfold bestS; omega)), e_isOf h hv hk hp, bnd_s, hb, e_span h hv hk (by unfold bestS; omega), bnd_s, hm, lt_e]
      unfold f_X1_learn_j105
      rw [nI_1, nI_1]
      have same : misF v p (bestS v p - 1) (k + 1) = misF v p (bestS v p - 1) k → ∃ c2, f_X1_learn_L51 N n (nI p) (nI (k + 1)) c = some ((), c2) ∧ Sm1 (fun o => o = 33) c c2 ∧ rI c2 33 1 = rI c 33 1 ∧ rI c2 33 2 = rI c 33 2 ∧ rI c2 33 3 = rI c 33 3 ∧ rI c2 33 4 = nI (misS v p) := fun e => hi c h hb (by rw [e]; exact hm) (by omega) (by omega)
      by_cases y : tb v 1 k 0 = p
      · rw [decide_eq_true y, ite_T]
        by_cases w : spS v k (bestS v p - 1) = true
        · rw [if_pos w]
          exact same (by unfold misF; rw [cntP, w, Bool.not_true, Bool.and_false, if_neg (by decide)]; rfl)
        · rw [if_neg w]
          have e : misF v p (bestS v p - 1) (k + 1) = misF v p (bestS v p - 1) k + 1 := by
            unfold misF
            rw [cntP, no_t w, decide_eq_true y, if_pos (by decide)]
          obtain ⟨c2, e1, e2, e3, e4, e5, e6⟩ := hi (wI c 33 4 (nI (misF v p (bestS v p - 1) k + 1))) (h.keep (fun o q q1 q2 => rI_ne (by omega))) (by rw [rI_ne (by decide)]; exact hb) (by rw [rI_w, if_pos ⟨rfl, rfl⟩, e]) (by omega) (by omega)
          exact ⟨c2, e1, (Sm1.wI (P := fun o => o = 33) rfl).tr e2, by rw [e3, rI_w, if_neg (by omega)], by rw [e4, rI_w, if_neg (by omega)], by rw [e5, rI_w, if_neg (by omega)], e6⟩
      · rw [decide_eq_false y, ite_F]
        exact same (by unfold misF; rw [cntP, decide_eq_false y, Bool.false_and, if_neg (by decide)]; rfl)
theorem c_learn (h : RCb c 1 v) (g : RMl m v) (hv : IV v) {p : Nat} (hp : p < cnt v 0) (w : WG c v p) (hN : 1000 ≤ N) : ∃ c2 x, x < 2 ^ 30 ∧ f_X1_learn N (nI p) c = some ((), c2) ∧ Sm1 (fun o => o = 33) c c2 ∧ JL c2 v p x ∧ f_X9_standing N m = some (nI x, m) := by
  have b1 := hv.np
  have b0 := hv.n0
  have bs := bits_small hv p
  have h1 : RCb (wI c 33 1 (nI (ofP v p (cnt v 1)))) 1 v := h.keep (fun o k q1 q2 => rI_ne (by omega))
  obtain ⟨x, hx, e1, e2⟩ := b_standing (N := N) h1 g hv hN
  have hand : bitsF v p (cnt v 1) &&& x ≤ bitsF v p (cnt v 1) := Nat.and_le_left
  have epc : pc 32 (bitsF v p (cnt v 1) &&& x) = stcS v p x (cnt v 1) := by
    rw [bitsF_P, bitsP_and, pc_bitsP _ _ b1]; rfl
  unfold f_X1_learn
  rw [e_paperBits h hv (by omega) hN, bnd_s, e_bitCount (by omega), bnd_s, pc_bits v p _ b1, lt_e, e1, bnd_s, ni_and, e_bitCount (by omega), bnd_s, epc, lt_e]
  have h2 : RCb (wI (wI c 33 1 (nI (ofP v p (cnt v 1)))) 33 2 (nI (stcS v p x (cnt v 1)))) 1 v := h1.keep (fun o k q1 q2 => rI_ne (by omega))
  rw [g00 h2 hp, bnd_s, lt_e, lt_e]
  have C : ∀ o k, o ≠ 33 → rI (wI (wI (wI (wI c 33 1 (nI (ofP v p (cnt v 1)))) 33 2 (nI (stcS v p x (cnt v 1)))) 33 3 (nI (tb v 0 p 0))) 33 4 0) o k = rI c o k := fun o k ho => by rw [rI_ne ho, rI_ne ho, rI_ne ho, rI_ne ho]
  obtain ⟨c2, f1, f2, f3, f4, f5, f6⟩ := c_misL (N := N) hv (show p < 2 ^ 31 by omega) (cnt v 1) 0 N (wI (wI (wI (wI c 33 1 (nI (ofP v p (cnt v 1)))) 33 2 (nI (stcS v p x (cnt v 1)))) 33 3 (nI (tb v 0 p 0))) 33 4 0) (h.keep (fun o k q1 q2 => C o k (by omega))) (by rw [C _ _ (by decide)]; exact w.2.2.2) (by
    rw [rI_w, if_pos ⟨rfl, rfl⟩]
    by_cases z : bestS v p = 0
    · rw [if_pos z]; rfl
    · rw [if_neg z]; rfl) (by omega) (by omega)
  refine ⟨c2, x, hx, f1, ?_, ⟨?_, ?_, ?_, f6⟩, e2⟩
  · exact ((((Sm1.wI (P := fun o => o = 33) rfl).tr (Sm1.wI rfl)).tr (Sm1.wI rfl)).tr (Sm1.wI rfl)).tr f2
  · rw [f3, rI_w, if_neg (by omega), rI_w, if_neg (by omega), rI_w, if_neg (by omega), rI_w, if_pos ⟨rfl, rfl⟩]
  · rw [f4, rI_w, if_neg (by omega), rI_w, if_neg (by omega), rI_w, if_pos ⟨rfl, rfl⟩]
  · rw [f5, rI_w, if_neg (by omega), rI_w, if_pos ⟨rfl, rfl⟩]
theorem mul100 {a : Nat} : lN a * 100 = lN (a * 100) := lN_mul a 100
theorem mul100' {a : Nat} : 100 * lN a = lN (a * 100) := by
  have : (100 : Int64) * lN a = lN (100 * a) := lN_mul 100 a
  rw [this, Nat.mul_comm]
theorem hun_le (hv : IV v) (p q : Nat) : hunS v p q ≤ 100 := by
  have bu := up_le hv p q
  unfold hunS
  by_cases z : allS v p = 0
  · rw [if_pos z]; omega
  · rw [if_neg z]
    refine Nat.div_le_of_le_mul ?_
    rw [Nat.mul_comm (allS v p)]
    calc sumS v p (upS v p q) * 100 ≤ allS v p * 100 := Nat.mul_le_mul_right _ bu
      _ = 100 * allS v p := Nat.mul_comm _ _
theorem c_hun {p q : Nat} (w : WG c v p) (hv : IV v) (hq : q < 1000) (hN : 1000 ≤ N) : f_X2_hundredthsOf N (nI q) c = some (nI (hunS v p q), c) := by
  have ba := all_le hv p
  have bu := up_le hv p q
  have bh := hun_le hv p q
  unfold f_X2_hundredthsOf
  rw [o_age w hv hN hq, bnd_s, w.2.2.1, ltL0 (by omega), mul100]
  unfold hunS at *
  by_cases z : allS v p = 0
  · rw [if_neg (by omega), if_pos z]; rfl
  · rw [if_neg z] at bh
    rw [if_pos (by omega), if_neg z, gnzL_t (lN_ne0 z (by omega)), pk_lDiv (by omega) (by omega) (by omega), lN_toI (by omega)]
theorem m_hun {p q : Nat} (g : RMl m v) (hv : IV v) (hp : p < 2 ^ 31) (hq : q < 1000) (hN : 1000 ≤ N) : f_X9_hundredths N (nI p) (nI q) m = some (nI (hunS v p q), m) := by
  have ba := all_le hv p
  have bu := up_le hv p q
  have bh := hun_le hv p q
  unfold f_X9_hundredths
  rw [m_all g hv hp hN, bnd_s, m_part g hv hp hq hN, bnd_s, eqL0 (by omega), mul100']
  unfold hunS at *
  by_cases z : allS v p = 0
  · rw [if_pos z, if_pos z]; rfl
  · rw [if_neg z] at bh
    rw [if_neg z, if_neg z, gnzL_t (lN_ne0 z (by omega)), pk_lDiv (by omega) (by omega) (by omega), lN_toI (by omega)]
theorem div1000 {a : Nat} (h : a < 2 ^ 31) : nI a / 1000 = nI (a / 1000) := pk_div (d := 1000) h (by decide) (by decide)
theorem rem1000 {a : Nat} (h : a < 2 ^ 31) : nI a - nI a / 1000 * 1000 = nI (a % 1000) := pk_rem (d := 1000) h (by decide) (by decide)
theorem c_val {p x code : Nat} (w : WG c v p) (J : JL c v p x) (hv : IV v) (hc : valOK code) (hN : 1000 ≤ N) : f_X1_valueOf N (nI code) c = some (nI (valS v p x code), c) := by
  obtain ⟨c1, c2⟩ := hc
  unfold f_X1_valueOf valS ageS
  rw [rem1000 (by omega), div1000 (by omega), ek1 (by omega), ek2 (by omega), ek3 (by omega), ek4 (by omega), ek5 (by omega), ek6 (by omega), ek7 (by omega), ek8 (by omega), c_bestAge w hv, bnd_s, c_hun w hv (Nat.mod_lt _ (by decide)) hN, bnd_s, J.1, J.2.1, J.2.2.1, J.2.2.2, w.2.1]
  have cs : code / 1000 = 1 ∨ code / 1000 = 2 ∨ code / 1000 = 3 ∨ code / 1000 = 4 ∨ code / 1000 = 5 ∨ code / 1000 = 6 ∨ code / 1000 = 7 ∨ code / 1000 = 8 := by omega
  rcases cs with e | e | e | e | e | e | e | e <;> rw [e] <;> rfl
end LEARN
