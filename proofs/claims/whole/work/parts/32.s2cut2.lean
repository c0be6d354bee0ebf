-- cut
section CUT2
variable {N : Nat} {c m : Mem} {v vk : VB}
def agQ (m : Mem) (v : VB) (f y i : Nat) : Bool := if f ≤ i then spS v (rI m 71 i).toNatClampNeg y else true
theorem agQ0 (m : Mem) (v : VB) (f y : Nat) : ∀ n, n ≤ f → allB (agQ m v f y) n = true := by
  intro n hn
  refine (allB_iff n).mpr (fun i hi => ?_)
  unfold agQ
  rw [if_neg (by omega)]
theorem m_agI (h : RMl m v) (hv : IV v) {p f t y : Nat} (ho : OrdI m v p (cnt v 1)) (ht : t ≤ ofP v p (cnt v 1)) (hy : y ≤ 160) (K : Int32 → Int32 → Int32 → Bool → Mem → Option (Bool × Mem)) : ∀ d j n, j + d = t → f ≤ j → d < n → f_X9_agree_L15 N K n (nI f) (nI t) (nI y) (allB (agQ m v f y) j) (nI j) m = K (nI f) (nI t) (nI y) (allB (agQ m v f y) t) m := by
  have b1 := hv.np
  have ob := hv.2.2.2.2.2.1 p
  intro d
  induction d with
  | zero =>
    intro j n h1 h2 h3
    obtain ⟨n, rfl⟩ := suc_of h3
    have e : j = t := by omega
    unfold f_X9_agree_L15
    rw [le_t (by omega) (by omega), e]
  | succ d ih =>
    intro j n h1 h2 h3
    obtain ⟨n, rfl⟩ := suc_of h3
    have hi := ih (j + 1) n (by omega) (by omega) (by omega)
    rw [allB] at hi
    obtain ⟨r, r1, r2, r3, r4⟩ := ho j (by omega)
    have eq : agQ m v f y j = spS v r y := by unfold agQ; rw [if_pos h2, r3, nI_clamp (by omega)]
    rw [eq] at hi
    unfold f_X9_agree_L15
    rw [le_f (by omega) (by omega)]
    unfold f_X9_agree_j45 f_X9_agree_j46
    rw [nI_1]
    by_cases z : allB (agQ m v f y) j = true
    · rw [z, Bool.true_and] at hi
      rw [z, ite_T, gin_n (by omega) (by omega), nI_clamp (by omega), r3, m_span h hv r1 hy, bnd_s]
      by_cases w : spS v r y = true
      · rw [w] at hi
        rw [if_pos w]; exact hi
      · rw [no_t w] at hi
        rw [if_neg w]; exact hi
    · rw [no_t z, Bool.false_and] at hi
      rw [no_t z, ite_F]; exact hi
theorem m_agL (h : RMl m v) (hv : IV v) {p f t : Nat} (ho : OrdI m v p (cnt v 1)) (hft : f ≤ t) (ht : t ≤ ofP v p (cnt v 1)) (hN : 1000 ≤ N) : ∀ d y n, y + d = 161 → d < n → exB (fun y => allB (agQ m v f y) t) y = false → f_X9_agree_L2 N n (nI f) (nI t) (nI y) m = some (exB (fun y => allB (agQ m v f y) t) 161, m) := by
  have b1 := hv.np
  have ob := hv.2.2.2.2.2.1 p
  intro d
  induction d with
  | zero =>
    intro y n h1 h2 h3
    obtain ⟨n, rfl⟩ := suc_of h2
    have e : y = 161 := by omega
    unfold f_X9_agree_L2
    rw [kle161 (by omega), if_pos (by omega)]
    exact congrArg (fun q => some (q, m)) (by rw [← e]; exact h3.symm)
  | succ d ih =>
    intro y n h1 h2 h3
    obtain ⟨n, rfl⟩ := suc_of h2
    have hi := ih (y + 1) n (by omega) (by omega)
    rw [exB, h3, Bool.false_or] at hi
    unfold f_X9_agree_L2
    have e1 := m_agI (N := N) (f := f) h hv ho ht (y := y) (by omega) (f_X9_agree_j54 N (f_X9_agree_L2 N n)) (t - f) f N (by omega) (by omega) (by omega)
    rw [agQ0 m v f y f (Nat.le_refl _)] at e1
    rw [kle161 (by omega), if_neg (by omega), e1]
    unfold f_X9_agree_j54
    rw [nI_1]
    by_cases w : allB (agQ m v f y) t = true
    · have g := exB_t (Q := fun y => allB (agQ m v f y) t) (k := y + 1) (by rw [exB, h3, Bool.false_or]; exact w) d
      rw [show y + 1 + d = 161 by omega] at g
      rw [if_pos w]
      exact congrArg (fun q => some (q, m)) g.symm
    · rw [if_neg w]
      exact hi (no_t w)
theorem bool_c {a b : Bool} (h : a = true ↔ b = true) : a = b := by cases a <;> cases b <;> simp_all
theorem m_agree (h : RMl m v) (hv : IV v) {p f t : Nat} (ho : OrdI m v p (cnt v 1)) (hft : f ≤ t) (ht : t ≤ ofP v p (cnt v 1)) (hN : 1000 ≤ N) : f_X9_agree N (nI f) (nI t) m = some (mt v p f t, m) := by
  refine (m_agL (N := N) h hv ho hft ht hN 161 0 N (by omega) (by omega) rfl).trans ?_
  unfold mt
  refine congrArg (fun q => some (q, m)) (exB_c _ (fun y _ => bool_c ?_))
  have b1 := hv.np
  rw [allB_iff, allB_iff]
  constructor
  · intro H r hr
    show (if tb v 1 r 0 = p ∧ f ≤ pl v p r (cnt v 1) ∧ pl v p r (cnt v 1) < t then spS v r y else true) = true
    by_cases z : tb v 1 r 0 = p ∧ f ≤ pl v p r (cnt v 1) ∧ pl v p r (cnt v 1) < t
    · rw [if_pos z]
      have q := H _ z.2.2
      obtain ⟨s, s1, s2, s3, s4⟩ := ho _ (Nat.lt_of_lt_of_le z.2.2 ht)
      have e := pl_inj s2 z.1 s1 hr s4
      unfold agQ at q
      rw [if_pos z.2.1, s3, nI_clamp (by omega), e] at q
      exact q
    · rw [if_neg z]
  · intro H i hi
    obtain ⟨s, s1, s2, s3, s4⟩ := ho i (by omega)
    have q := H s s1
    unfold agQ
    by_cases z : f ≤ i
    · rw [if_pos z, s3, nI_clamp (by omega)]
      have q2 : (if tb v 1 s 0 = p ∧ f ≤ pl v p s (cnt v 1) ∧ pl v p s (cnt v 1) < t then spS v s y else true) = true := q
      rw [if_pos ⟨s2, by omega, by omega⟩] at q2
      exact q2
    · rw [if_neg z]
theorem b_cutL (h : RCb c 1 v) (g : RMl m v) (hv : IV v) {p : Nat} (hp : p < 2 ^ 31) (ho : OrdI m v p (cnt v 1)) (hN : 1000 ≤ N) : ∀ d k n, k + d = ofP v p (cnt v 1) → d < n → ∃ r, f_X8_cut_L27 N n (nI p) (nI (ofP v p (cnt v 1))) (nI k) c = some (r, c) ∧ f_X9_cut_L18 N n (nI (ofP v p (cnt v 1))) (nI k) m = some (r, m) := by
  have ob := hv.2.2.2.2.2.1 p
  intro d
  induction d with
  | zero =>
    intro k n h1 h2
    obtain ⟨n, rfl⟩ := suc_of h2
    refine ⟨-3, ?_, ?_⟩
    · unfold f_X8_cut_L27
      rw [le_t (by omega) (by omega)]
    · unfold f_X9_cut_L18
      rw [le_t (by omega) (by omega)]
  | succ d ih =>
    intro k n h1 h2
    obtain ⟨n, rfl⟩ := suc_of h2
    obtain ⟨r, i1, i2⟩ := ih (k + 1) n (by omega) (by omega)
    have c1 := e_meet h hv hp (f := 0) (t := k) (by omega) (by omega) hN
    have c2 := e_meet h hv hp (f := k) (t := ofP v p (cnt v 1)) (by omega) (by omega) hN
    have m1 := m_agree g hv ho (f := 0) (t := k) (by omega) (by omega) hN
    have m2 := m_agree g hv ho (f := k) (t := ofP v p (cnt v 1)) (by omega) (by omega) hN
    have c1' : f_X0_spansMeet N (nI p) 0 (nI k) c = some (mt v p 0 k, c) := c1
    have m1' : f_X9_agree N 0 (nI k) m = some (mt v p 0 k, m) := m1
    unfold f_X8_cut_L27 f_X9_cut_L18
    rw [le_f (by omega) (by omega), le_f (by omega) (by omega), m2, bnd_s, m1', bnd_s, c1', bnd_s, ek0 (by omega), ek0 (by omega)]
    unfold f_X8_cut_j49 f_X8_cut_j54 f_X9_cut_j47 f_X8_cut_j76
    rw [c2, bnd_s, nI_1, ite_T, ite_F]
    by_cases z2 : mt v p k (ofP v p (cnt v 1)) = true
    · simp only [if_pos z2]
      by_cases z1 : k = 0
      · simp only [if_pos z1]
        exact ⟨_, rfl, rfl⟩
      · simp only [if_neg z1]
        by_cases z3 : mt v p 0 k = true
        · simp only [if_pos z3]
          exact ⟨_, rfl, rfl⟩
        · simp only [if_neg z3]
          exact ⟨r, i1, i2⟩
    · simp only [if_neg z2]
      by_cases z1 : k = 0
      · simp only [if_pos z1]
        exact ⟨r, i1, i2⟩
      · simp only [if_neg z1]
        by_cases z3 : mt v p 0 k = true
        · simp only [if_pos z3]
          exact ⟨r, i1, i2⟩
        · simp only [if_neg z3]
          exact ⟨r, i1, i2⟩
theorem b_cut (R : Rv c m v vk) (hN : 1000 ≤ N) (a1 : Int32) : Both (f_X8_cut N a1 c) (f_X9_cut N a1 m) := by
  obtain ⟨h, g, hv, -⟩ := id R
  have b0 := hv.n0
  unfold f_X8_cut f_X9_cut
  rw [th_has (T0 h), bnd_s, e_isPer g hv, bnd_s]
  by_cases h1 : isI a1 (cnt v 0) = true
  · obtain ⟨p, hp, rfl⟩ := isI_of (by omega) h1
    have ob := hv.2.2.2.2.2.1 p
    obtain ⟨m2, e1, e2, e3⟩ := m_orderL (N := N) hv (p := p) (by omega) hN (cnt v 1) 0 N m g (fun i hi => absurd hi (by rw [ofP]; omega)) (by omega) (by have := hv.np; omega)
    have e1' : f_X9_orderOf N (nI p) m = some (nI (ofP v p (cnt v 1)), m2) := e1
    have g2 : RMl m2 v := RMl_s g (fun o j hoj => (e2 o (by omega)).1 j)
    obtain ⟨r, f1, f2⟩ := b_cutL (N := N) h g2 hv (show p < 2 ^ 31 by omega) e3 hN (ofP v p (cnt v 1)) 0 N (by omega) (by omega)
    rw [if_pos h1, if_pos h1, e_papersOf h hv (by omega) hN, bnd_s, e1', bnd_s]
    exact Both.of f1 f2 (R.keepM (fun o k ho => (e2 o (fun z => ho (Or.inl z))).1 k) (fun k => (e2 81 (by decide)).2 k))
  · rw [if_neg h1, if_neg h1]
    exact both_bad R _
end CUT2
