-- judge
section JUD
variable {N : Nat} {c m : Mem} {v vk : VB}
theorem nxtL (h : RCb c 1 v) (g : RMl m v) (hv : IV v) {p : Nat} (hp : p < 2 ^ 31) : ∀ d k n1 n2, k + d = cnt v 1 → d < n1 → d < n2 → (f_X0_nextPaperOf_L21 N n1 (nI p) (nI k) c = some (-3, c) ∧ f_X9_paperFrom_L2 N n2 (nI p) (nI k) m = some (-1, m)) ∨ ∃ j, j < cnt v 1 ∧ f_X0_nextPaperOf_L21 N n1 (nI p) (nI k) c = some (nI j, c) ∧ f_X9_paperFrom_L2 N n2 (nI p) (nI k) m = some (nI j, m) := by
  have b1 := hv.np
  have b0 := hv.n0
  intro d
  induction d with
  | zero =>
    intro k n1 n2 h1 h2 h3
    obtain ⟨n1, rfl⟩ := suc_of h2
    obtain ⟨n2, rfl⟩ := suc_of h3
    refine Or.inl ⟨?_, ?_⟩
    · unfold f_X0_nextPaperOf_L21
      rw [ct1 h, le_t (by omega) (by omega)]
    · unfold f_X9_paperFrom_L2
      rw [mct1 g, le_t (by omega) (by omega)]
  | succ d ih =>
    intro k n1 n2 h1 h2 h3
    obtain ⟨n1, rfl⟩ := suc_of h2
    obtain ⟨n2, rfl⟩ := suc_of h3
    have hk : k < cnt v 1 := by omega
    have hk3 : k < 30 := by omega
    have q0 := (hv.2.1 k hk).1
    have hi := ih (k + 1) n1 n2 (by omega) (by omega) (by omega)
    unfold f_X0_nextPaperOf_L21 f_X9_paperFrom_L2
    rw [ct1 h, le_f hk (by omega), mct1 g, le_f hk (by omega), e_isOf h hv hk hp, bnd_s, pmg0 hk3, pmn0 hk3, mp0 g hk, ite_eq (by omega) hp, nI_1]
    by_cases z : tb v 1 k 0 = p
    · rw [decide_eq_true z, ite_T, if_pos z]
      exact Or.inr ⟨k, hk, rfl, rfl⟩
    · rw [decide_eq_false z, ite_F, if_neg z]
      exact hi
/-- the place from which the next paper is looked for, as the class keeps it -/
def frm (q : Nat) : Int32 := if q = 0 then -3 else nI (q - 1)
theorem nI_ne3 {j : Nat} (hj : j < 2 ^ 31) : ¬ nI j = -3 := fun e => by
  have := congrArg Int32.toInt e
  rw [tI hj] at this
  have e3 : (-3 : Int32).toInt = -3 := by decide
  rw [e3] at this
  omega
theorem nxt (h : RCb c 1 v) (g : RMl m v) (hv : IV v) {p q : Nat} (hp : p < 2 ^ 31) (hq : q ≤ cnt v 1) (hN : 1000 ≤ N) : (f_X0_nextPaperOf N (nI p) (frm q) c = some (-3, c) ∧ f_X9_paperFrom N (nI p) (nI q) m = some (-1, m)) ∨ ∃ j, j < cnt v 1 ∧ f_X0_nextPaperOf N (nI p) (frm q) c = some (nI j, c) ∧ f_X9_paperFrom N (nI p) (nI q) m = some (nI j, m) := by
  have b1 := hv.np
  have e : f_X0_nextPaperOf N (nI p) (frm q) c = f_X0_nextPaperOf_L21 N N (nI p) (nI q) c := by
    unfold f_X0_nextPaperOf frm f_X0_nextPaperOf_j13
    by_cases z : q = 0
    · rw [if_pos z, if_pos rfl, z]; rfl
    · rw [if_neg z, if_neg (nI_ne3 (by omega)), nI_1, show q - 1 + 1 = q by omega]
      unfold imax
      rw [klt0 (by omega), if_pos (by omega)]
  rw [e]
  exact nxtL h g hv hp (cnt v 1 - q) q N N (by omega) (by omega) (by omega)
theorem b_judL (h : RCb c 1 v) (g : RMl m v) (hv : IV v) {p y n0 : Nat} (hp : p < 2 ^ 31) (hy : y ≤ 160) (t : TB c 45 2 7 n0) (hm : rI m 61 31 = nI n0) (cells : ∀ r k, r < n0 → k < 2 → rI c 46 (r * 2 + k) = rI m 78 (2 * r + k)) (hyr : rI m 78 1 = nI y) (hN : 1000 ≤ N) : ∀ d i n q, i + d = n0 → d < n → q ≤ cnt v 1 → ∃ r, f_X8_judge_L92 N (f_X8_judge_j180 N) n (nI p) (nI y) (frm q) (nI i) c = some (r, c) ∧ f_X9_judge_L53 N (f_X9_judge_j135 N) n (nI p) (nI q) (nI i) m = some (r, m) := by
  have b1 := hv.np
  have bn := t.2.2.2.1
  intro d
  induction d with
  | zero =>
    intro i n q h1 h2 hq
    obtain ⟨n, rfl⟩ := suc_of h2
    unfold f_X8_judge_L92 f_X9_judge_L53
    rw [t.2.2.1, le_t (by omega) (by omega), hm, le_t (by omega) (by omega)]
    unfold f_X8_judge_j180 f_X9_judge_j135
    rcases nxt (N := N) h g hv hp hq hN with ⟨e1, e2⟩ | ⟨j, hj, e1, e2⟩
    · rw [e1, e2, bnd_s, bnd_s, if_pos rfl, if_neg (by decide)]
      exact ⟨_, rfl, rfl⟩
    · rw [e1, e2, bnd_s, bnd_s, if_neg (nI_ne3 (by omega)), if_pos (nI_pos' (by omega))]
      exact ⟨_, rfl, rfl⟩
  | succ d ih =>
    intro i n q h1 h2 hq
    obtain ⟨n, rfl⟩ := suc_of h2
    have hi : i < n0 := by omega
    unfold f_X8_judge_L92 f_X9_judge_L53
    rw [t.2.2.1, le_f hi (by omega), hm, le_f hi (by omega)]
    rcases nxt (N := N) h g hv hp hq hN with ⟨e1, e2⟩ | ⟨j, hj, e1, e2⟩
    · rw [e1, e2, bnd_s, bnd_s, if_pos rfl, if_pos (by decide)]
      exact ⟨_, rfl, rfl⟩
    · obtain ⟨r, i1, i2⟩ := ih (i + 1) n (j + 1) (by omega) (by omega) (by omega)
      have ef : frm (j + 1) = nI j := if_neg (by omega)
      rw [ef] at i1
      have g0 : f_X5_get N 45 (nI i) 0 c = some (rI c 46 (i * 2 + 0), c) := th_get t hi (k := 0) (by decide)
      have g1 : f_X5_get N 45 (nI i) 1 c = some (rI c 46 (i * 2 + 1), c) := th_get t hi (k := 1) (by decide)
      have cl1 : (1 : Int32).toNatClampNeg = 1 := by decide
      have gg : ∀ X : Option (Int32 × Mem), gin (1 : Int32) 14 X = X := fun X => gin_n (j := 1) (by decide) (by decide)
      rw [e1, e2, bnd_s, bnd_s, if_neg (nI_ne3 (by omega)), lt0_f (by omega), g0, bnd_s, g1, bnd_s, rmi1, rmi0, gin_n (by omega) (by omega), gin_n (by omega) (by omega), gg, nI_clamp (by omega), nI_clamp (by omega), cl1, hyr, e_span h hv hj hy, bnd_s, m_span g hv hj hy, bnd_s, cells i 0 hi (by decide), cells i 1 hi (by decide), Nat.add_zero]
      unfold f_X8_judge_j166 f_X9_judge_j117
      rw [nI_1, nI_1]
      by_cases z1 : rI m 78 (2 * i) = nI j
      · rw [if_pos z1, if_pos z1]
        by_cases w : spS v j y = true
        · rw [if_pos w, if_pos w]
          by_cases z2 : rI m 78 (2 * i + 1) = bI true
          · rw [if_pos z2, if_pos z2]; exact ⟨r, i1, i2⟩
          · rw [if_neg z2, if_neg z2]; exact ⟨_, rfl, rfl⟩
        · rw [if_neg w, if_neg w]
          by_cases z2 : rI m 78 (2 * i + 1) = bI false
          · rw [if_pos z2, if_pos z2]; exact ⟨r, i1, i2⟩
          · rw [if_neg z2, if_neg z2]; exact ⟨_, rfl, rfl⟩
      · rw [if_neg z1, if_neg z1]; exact ⟨_, rfl, rfl⟩
theorem b_judge (R : Rv c m v vk) (hN : 1000 ≤ N) : Both (f_X8_judge N c) (f_X9_judge N m) := by
  obtain ⟨h, g, hv, kp, ta, ⟨n, t, hm, cells⟩, -⟩ := id R
  have b0 := hv.n0
  have bn := t.2.2.2.1
  have cl0 : (0 : Int32).toNatClampNeg = 0 := by decide
  have cl1 : (1 : Int32).toNatClampNeg = 1 := by decide
  have gg0 : ∀ X : Option (Int32 × Mem), gin (0 : Int32) 14 X = X := fun X => gin_n (j := 0) (by decide) (by decide)
  have gg1 : ∀ X : Option (Int32 × Mem), gin (1 : Int32) 14 X = X := fun X => gin_n (j := 1) (by decide) (by decide)
  unfold f_X8_judge f_X9_judge
  rw [t.2.2.1, hm, ek0 (by omega), ek0 (by omega)]
  by_cases z : n = 0
  · rw [if_pos z, if_pos z]
    exact both_bad R _
  · have g0 : f_X5_get N 45 0 0 c = some (rI c 46 (0 * 2 + 0), c) := th_get t (r := 0) (by omega) (k := 0) (by decide)
    have g1 : f_X5_get N 45 0 1 c = some (rI c 46 (0 * 2 + 1), c) := th_get t (r := 0) (by omega) (k := 1) (by decide)
    rw [if_neg z, if_neg z, g0, bnd_s, g1, bnd_s, cells 0 0 (by omega) (by decide), cells 0 1 (by omega) (by decide), gg0, lt_e, cl0]
    show Both (bnd (f_X5_has N 2 (rI m 78 0) c) _) (bnd (f_X9_isPerson N (rI m 78 0) m) _)
    rw [th_has (T0 h), bnd_s, e_isPer g hv, bnd_s]
    by_cases h1 : isI (rI m 78 0) (cnt v 0) = true
    · obtain ⟨p, hp, e⟩ := isI_of (by omega) h1
      rw [if_pos h1, if_pos h1, e]
      obtain ⟨c2, e1, e2, e3⟩ := c_weigh h hv (show p < 2 ^ 31 by omega) hN
      have bl := bes_le (v := v) p 161
      have R2 := R.keepC (e2.mono od_scr)
      rw [e1, bnd_s, m_best g hv (by omega) hN, bnd_s, m_best g hv (by omega) hN, bnd_s, gg1, cl1, e3.2.2.2]
      by_cases y0 : bestS v p = 0
      · rw [if_pos y0, if_pos y0, if_pos rfl, if_pos (by decide)]
        exact Both.of rfl rfl R2
      · rw [if_neg y0, if_neg y0, if_neg (nI_ne3 (by unfold bestS; omega)), lt0_f (by unfold bestS; omega)]
        show Both (if nI (bestS v p - 1) = rI m 78 1 then _ else _) _
        by_cases w : nI (bestS v p - 1) = rI m 78 1
        · rw [if_pos w, if_pos w]
          obtain ⟨n2, t2, hm2, cells2⟩ := R2.2.2.2.2.2.1
          have en : n2 = n := by
            rw [hm] at hm2
            exact ((nI_eq (by omega) (by have := t2.2.2.2.1; omega)).mp hm2).symm
          subst en
          obtain ⟨r, f1, f2⟩ := b_judL (N := N) R2.1 g hv (p := p) (y := bestS v p - 1) (by omega) (by unfold bestS; omega) t2 hm cells2 w.symm hN (n2 - 1) 1 N 0 (by omega) (by omega) (Nat.zero_le _)
          show Both (f_X8_judge_L92 N (f_X8_judge_j180 N) N (nI p) (rI m 78 1) (-3) 1 c2) _
          rw [← w]
          exact Both.of f1 f2 R2
        · rw [if_neg w, if_neg w]
          exact Both.of rfl rfl R2
    · rw [if_neg h1, if_neg h1]
      exact both_bad R _
end JUD
