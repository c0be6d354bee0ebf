-- round, roots, rest
section RESTS2
variable {N : Nat} {c m : Mem} {v vk : VB}
theorem c_ovL (h : RCb c 1 v) (hv : IV v) {x j : Nat} (hx : x < 2 ^ 30) (K : Int32 → Int32 → Int32 → Mem → Option (Int32 × Mem)) : ∀ d k n, k + d = cnt v 1 → d < n → f_X0_restsOver_L20 N K n (nI (pB v x k)) (nI j) (nI x) (nI k) c = K (nI (pB v x (cnt v 1))) (nI j) (nI x) c := by
  have b1 := hv.np
  intro d
  induction d with
  | zero =>
    intro k n h1 h2
    obtain ⟨n, rfl⟩ := suc_of h2
    have e : k = cnt v 1 := by omega
    unfold f_X0_restsOver_L20
    rw [ct1 h, le_t (by omega) (by omega), e]
  | succ d ih =>
    intro k n h1 h2
    obtain ⟨n, rfl⟩ := suc_of h2
    have hk : k < cnt v 1 := by omega
    have hu := p30 hv (undS_lt hv hk)
    have hp := pB_lt hv hx k (by omega)
    have ha : pB v x k &&& 2 ^ k ≤ pB v x k := Nat.and_le_left
    have hi := ih (k + 1) n (by omega) (by omega)
    rw [pB, stB] at hi
    unfold f_X0_restsOver_L20
    rw [ct1 h, le_f hk (by omega), e_bitN (by omega), bnd_s, ni_and, ek0 (by omega), e_restsOn h hv hk, bnd_s, ni_or]
    unfold f_X0_restsOver_j51
    rw [nI_1]
    by_cases z : (pB v x k).testBit k = true
    · rw [if_pos z] at hi
      rw [if_neg (fun q => by rw [and_bit.mp q] at z; exact absurd z (by decide))]; exact hi
    · rw [if_neg z] at hi
      rw [if_pos (and_bit.mpr (no_t z))]; exact hi
theorem m_ovL (h : RMl m v) (hv : IV v) (hN : 1000 ≤ N) {x : Nat} (hx : x < 2 ^ 30) (K : Int32 → Int32 → Mem → Option (Int32 × Mem)) : ∀ d k n, k + d = cnt v 1 → d < n → f_X9_below_L18 N K n (nI (pB v x k)) (nI x) (nI k) m = K (nI (pB v x (cnt v 1))) (nI x) m := by
  have b1 := hv.np
  intro d
  induction d with
  | zero =>
    intro k n h1 h2
    obtain ⟨n, rfl⟩ := suc_of h2
    have e : k = cnt v 1 := by omega
    unfold f_X9_below_L18
    rw [mct1 h, le_t (by omega) (by omega), e]
  | succ d ih =>
    intro k n h1 h2
    obtain ⟨n, rfl⟩ := suc_of h2
    have hk : k < cnt v 1 := by omega
    have hu := p30 hv (undS_lt hv hk)
    have hp := pB_lt hv hx k (by omega)
    have hi := ih (k + 1) n (by omega) (by omega)
    rw [pB, stB] at hi
    unfold f_X9_below_L18
    rw [mct1 h, le_f hk (by omega), m_under h hv hk hN, bnd_s, bit_n (by omega) (by omega), ek1 (by split <;> omega)]
    unfold f_X9_below_j48
    rw [ni_or, show (0 : Int32) = nI 0 from rfl, ni_or, Nat.or_zero, nI_1]
    by_cases z : (pB v x k).testBit k = true
    · rw [if_pos z] at hi
      rw [if_pos z, if_pos rfl]; exact hi
    · rw [if_neg z] at hi
      rw [if_neg z, if_neg (by decide)]; exact hi
theorem b_overL (h : RCb c 1 v) (g : RMl m v) (hv : IV v) (hN : 1000 ≤ N) : ∀ d x j n1 n2, x < 2 ^ 30 → 30 - bitsN x ≤ d → j + d ≤ 30 → d < n1 → d + 1 < n2 → ∃ r, r < 2 ^ 30 ∧ f_X0_restsOver_L8 N n1 (nI x) (nI j) c = some (nI r, c) ∧ f_X9_below_L8 N n2 (nI x) true m = some (nI r, m) := by
  have b1 := hv.np
  intro d
  induction d with
  | zero =>
    intro x j n1 n2 hx h1 h2 h3 h4
    obtain ⟨n1, rfl⟩ := suc_of h3
    obtain ⟨n2, rfl⟩ := suc_of (show 0 < n2 by omega)
    obtain ⟨n2, rfl⟩ := suc_of (show 0 < n2 by omega)
    have hl := pB_lt hv hx (cnt v 1) (Nat.le_refl _)
    have e : pB v x (cnt v 1) = x := by
      refine Classical.byContradiction (fun z => ?_)
      have q1 := bitsN_lt hl (pB_sub v x (cnt v 1)) z
      have q2 := cntP_max (fun i => (pB v x (cnt v 1)).testBit i) 30
      unfold bitsN at *
      omega
    refine ⟨x, hx, ?_, ?_⟩
    · unfold f_X0_restsOver_L8
      have e1 := c_ovL (N := N) (j := j) h hv hx (f_X0_restsOver_j57 N (f_X0_restsOver_L8 N n1)) (cnt v 1) 0 N (by omega) (by omega)
      rw [kle30 (by omega)]
      by_cases w : 30 ≤ j
      · rw [if_pos w]
      · rw [if_neg w]
        refine e1.trans ?_
        unfold f_X0_restsOver_j57
        rw [e, if_pos rfl]
    · unfold f_X9_below_L8
      have e1 := m_ovL (N := N) g hv hN hx (f_X9_below_j56 N (f_X9_below_L8 N (n2 + 1))) (cnt v 1) 0 N (by omega) (by omega)
      rw [ite_T]
      refine e1.trans ?_
      unfold f_X9_below_j56 f_X9_below_j67
      rw [e, if_pos rfl]
      unfold f_X9_below_L8
      rw [ite_F]
  | succ d ih =>
    intro x j n1 n2 hx h1 h2 h3 h4
    obtain ⟨n1, rfl⟩ := suc_of (show 0 < n1 by omega)
    obtain ⟨n2, rfl⟩ := suc_of (show 0 < n2 by omega)
    obtain ⟨n2, rfl⟩ := suc_of (show 0 < n2 by omega)
    have hl := pB_lt hv hx (cnt v 1) (Nat.le_refl _)
    have e1 := c_ovL (N := N) (j := j) h hv hx (f_X0_restsOver_j57 N (f_X0_restsOver_L8 N n1)) (cnt v 1) 0 N (by omega) (by omega)
    have e2 := m_ovL (N := N) g hv hN hx (f_X9_below_j56 N (f_X9_below_L8 N (n2 + 1))) (cnt v 1) 0 N (by omega) (by omega)
    have s1 : f_X0_restsOver_L8 N (n1 + 1) (nI x) (nI j) c = f_X0_restsOver_j57 N (f_X0_restsOver_L8 N n1) (nI (pB v x (cnt v 1))) (nI j) (nI x) c := by
      rw [← e1]
      show (if 30 ≤ nI j then _ else _) = _
      rw [kle30 (by omega), if_neg (by omega)]
      rfl
    have s2 : f_X9_below_L8 N (n2 + 1 + 1) (nI x) true m = f_X9_below_j56 N (f_X9_below_L8 N (n2 + 1)) (nI (pB v x (cnt v 1))) (nI x) m := by
      rw [← e2]
      rfl
    rw [s1, s2]
    unfold f_X0_restsOver_j57 f_X9_below_j56 f_X9_below_j67
    rw [ite_eq (by omega) (by omega), ite_eq (by omega) (by omega), nI_1]
    by_cases e : pB v x (cnt v 1) = x
    · rw [if_pos e, if_pos e, e]
      refine ⟨x, hx, rfl, ?_⟩
      unfold f_X9_below_L8
      rw [ite_F]
    · rw [if_neg e, if_neg e]
      have q1 := bitsN_lt hl (pB_sub v x (cnt v 1)) e
      exact ih (pB v x (cnt v 1)) (j + 1) n1 (n2 + 1) hl (by omega) (by omega) (by omega) (by omega)
theorem b_over (h : RCb c 1 v) (g : RMl m v) (hv : IV v) (hN : 1000 ≤ N) {k : Nat} (hk : k < cnt v 1) : ∃ r, r < 2 ^ 30 ∧ f_X0_restsOver N (nI k) c = some (nI r, c) ∧ f_X9_below N (nI k) m = some (nI r, m) := by
  obtain ⟨r, r1, r2, r3⟩ := b_overL h g hv hN 30 (undS v k) 0 N N (p30 hv (undS_lt hv hk)) (by omega) (by omega) (by omega) (by omega)
  refine ⟨r, r1, ?_, ?_⟩
  · unfold f_X0_restsOver
    rw [e_restsOn h hv hk, bnd_s]; exact r2
  · unfold f_X9_below
    rw [m_under g hv hk hN, bnd_s]; exact r3
theorem b_round (R : Rv c m v vk) (hN : 1000 ≤ N) (a1 : Int32) : Both (f_X8_round N a1 c) (f_X9_round N a1 m) := by
  obtain ⟨h, g, hv, -⟩ := id R
  have b0 := hv.np
  unfold f_X8_round f_X9_round
  rw [th_has (T1 h), bnd_s, e_isPap g hv, bnd_s]
  by_cases h1 : isI a1 (cnt v 1) = true
  · obtain ⟨k, hk, rfl⟩ := isI_of (by omega) h1
    obtain ⟨r, r1, r2, r3⟩ := b_over h g hv hN hk
    have ha : r &&& 2 ^ k ≤ r := Nat.and_le_left
    rw [if_pos h1, if_pos h1, r2, bnd_s, r3, bnd_s, e_bitN (by omega), bnd_s, ni_and, ek0 (by omega), bit_n (by omega) (by omega)]
    by_cases z : r.testBit k = true
    · rw [if_pos z, if_neg (fun q => by rw [and_bit.mp q] at z; exact absurd z (by decide))]
      exact both_bad R _
    · rw [if_neg z, if_pos (and_bit.mpr (no_t z))]
      exact both_bad R _
  · rw [if_neg h1, if_neg h1]
    exact both_bad R _
theorem c_noneL (h : RCb c 1 v) (hv : IV v) : ∀ d k n, k + d = cnt v 1 → d < n → f_X0_restingOnNone_L4 N n (nI (bitsP (fun i => decide (undS v i = 0)) k)) (nI k) c = some (nI (bitsP (fun i => decide (undS v i = 0)) (cnt v 1)), c) := by
  have b1 := hv.np
  intro d
  induction d with
  | zero =>
    intro k n h1 h2
    obtain ⟨n, rfl⟩ := suc_of h2
    have e : k = cnt v 1 := by omega
    unfold f_X0_restingOnNone_L4
    rw [ct1 h, le_t (by omega) (by omega), e]
  | succ d ih =>
    intro k n h1 h2
    obtain ⟨n, rfl⟩ := suc_of h2
    have hk : k < cnt v 1 := by omega
    have hu := p30 hv (undS_lt hv hk)
    have hi := ih (k + 1) n (by omega) (by omega)
    rw [bitsP] at hi
    unfold f_X0_restingOnNone_L4
    rw [ct1 h, le_f hk (by omega), e_restsOn h hv hk, bnd_s, ek0 (by omega), e_bitN (by omega), bnd_s, ni_or, or_up (bitsP_lt _ k)]
    unfold f_X0_restingOnNone_j30
    rw [nI_1]
    by_cases z : undS v k = 0
    · rw [if_pos (decide_eq_true z)] at hi
      rw [if_pos z]; exact hi
    · rw [if_neg (by rw [decide_eq_false z]; decide), Nat.add_zero] at hi
      rw [if_neg z]; exact hi
theorem m_rootL (h : RMl m v) (hv : IV v) (hN : 1000 ≤ N) {x : Nat} (hx : x < 2 ^ 31) : ∀ d k n, k + d = cnt v 1 → d < n → f_X9_roots_L25 N n (nI x) (nI (bitsP (fun i => x.testBit i && decide (undS v i = 0)) k)) (nI k) m = some (nI (bitsP (fun i => x.testBit i && decide (undS v i = 0)) (cnt v 1)), m) := by
  have b1 := hv.np
  intro d
  induction d with
  | zero =>
    intro k n h1 h2
    obtain ⟨n, rfl⟩ := suc_of h2
    have e : k = cnt v 1 := by omega
    unfold f_X9_roots_L25
    rw [mct1 h, le_t (by omega) (by omega), e]
  | succ d ih =>
    intro k n h1 h2
    obtain ⟨n, rfl⟩ := suc_of h2
    have hk : k < cnt v 1 := by omega
    have hu := p30 hv (undS_lt hv hk)
    have hi := ih (k + 1) n (by omega) (by omega)
    rw [bitsP] at hi
    unfold f_X9_roots_L25
    rw [mct1 h, le_f hk (by omega), m_under h hv hk hN, bnd_s, bit_n (by omega) (by omega), ek1 (by split <;> omega), ek0 (by omega), shl1 (by omega)]
    unfold f_X9_roots_j61 f_X9_roots_j62
    rw [show (0 : Int32) = nI 0 from rfl, ni_or, ni_or, Nat.or_zero, or_up (bitsP_lt _ k), nI_1]
    by_cases b : x.testBit k = true
    · rw [if_pos b, if_pos rfl]
      by_cases z : undS v k = 0
      · rw [if_pos (by show (x.testBit k && decide (undS v k = 0)) = true; rw [b, decide_eq_true z]; rfl)] at hi
        rw [if_pos z]; exact hi
      · rw [if_neg (by show ¬ (x.testBit k && decide (undS v k = 0)) = true; rw [decide_eq_false z, Bool.and_false]; decide), Nat.add_zero] at hi
        rw [if_neg z]; exact hi
    · rw [if_neg (by show ¬ (x.testBit k && decide (undS v k = 0)) = true; rw [no_t b, Bool.false_and]; decide), Nat.add_zero] at hi
      rw [if_neg b, if_neg (by decide)]; exact hi
theorem b_roots (R : Rv c m v vk) (hN : 1000 ≤ N) (a1 : Int32) : Both (f_X8_roots N a1 c) (f_X9_roots N a1 m) := by
  obtain ⟨h, g, hv, -⟩ := id R
  have b0 := hv.np
  unfold f_X8_roots f_X9_roots
  rw [th_has (T1 h), bnd_s, e_isPap g hv, bnd_s]
  by_cases h1 : isI a1 (cnt v 1) = true
  · obtain ⟨k, hk, rfl⟩ := isI_of (by omega) h1
    obtain ⟨r, r1, r2, r3⟩ := b_over h g hv hN hk
    have hx : r ||| 2 ^ k < 2 ^ 31 := Nat.or_lt_two_pow (by omega) (Nat.pow_lt_pow_right (by decide) (by omega))
    have e1 : f_X0_restingOnNone N c = some (nI (bitsP (fun i => decide (undS v i = 0)) (cnt v 1)), c) := c_noneL (N := N) h hv (cnt v 1) 0 N (by omega) (by omega)
    have e2 := m_rootL (N := N) g hv hN hx (cnt v 1) 0 N (by omega) (by omega)
    have e2' : f_X9_roots_L25 N N (nI (r ||| 2 ^ k)) 0 0 m = some (nI (bitsP (fun i => (r ||| 2 ^ k).testBit i && decide (undS v i = 0)) (cnt v 1)), m) := e2
    rw [if_pos h1, if_pos h1, r2, bnd_s, r3, bnd_s, e_bitN (by omega), bnd_s, e1, bnd_s, shl1 (by omega), ni_or, lt_e, e2', ni_and]
    have e : (r ||| 2 ^ k) &&& bitsP (fun i => decide (undS v i = 0)) (cnt v 1) = bitsP (fun i => (r ||| 2 ^ k).testBit i && decide (undS v i = 0)) (cnt v 1) := by
      apply Nat.eq_of_testBit_eq
      intro i
      rw [Nat.testBit_and, bitsP_test, bitsP_test]
      cases (r ||| 2 ^ k).testBit i <;> cases decide (i < cnt v 1) <;> rfl
    rw [e]
    exact both_bad R _
  · rw [if_neg h1, if_neg h1]
    exact both_bad R _
-- rest
def restV (v : VB) (a x : Nat) : VB := (fun i => if i = 7 then cnt v 7 + 1 else cnt v i, (setR v 1 a 6 x).2)
theorem IV.rest (hv : IV v) {a x : Nat} (hx : x < 2 ^ cnt v 1) (h7 : cnt v 7 < 40) : IV (restV v a x) := by
  obtain ⟨h0, h1, h2, h3, h4, h5, h6, h8⟩ := hv
  have T : ∀ i r k, tb (restV v a x) i r k = if i = 1 ∧ r = a ∧ k = 6 then x else tb v i r k := fun i r k => tb_setR v 1 a 6 x i r k
  refine ⟨h0, fun q hq => ?_, h2, h3, h4, fun p => ?_, by show cnt v 7 + 1 ≤ 40; omega, h8⟩
  · have := h1 q hq
    refine ⟨by rw [T, if_neg (by omega)]; exact this.1, by rw [T, if_neg (by omega)]; exact this.2.1, by rw [T, if_neg (by omega)]; exact this.2.2.1, by rw [T, if_neg (by omega)]; exact this.2.2.2.1, by rw [T, if_neg (by omega)]; exact this.2.2.2.2.1, by rw [T, if_neg (by omega)]; exact this.2.2.2.2.2.1, ?_⟩
    rw [T]
    show _ < 2 ^ cnt v 1
    split
    · exact hx
    · exact this.2.2.2.2.2.2
  · show ofP _ _ (cnt v 1) ≤ 6
    rw [ofP_c (v := v) p _ (fun r _ => by rw [T, if_neg (by omega)])]; exact h5 p
theorem RCb_rest (h : RCb c 1 v) {a x : Nat} (ha : a < cnt v 1) : RCb (wI (wI c 5 (a * 7 + 6) (nI x)) 1 7 (nI (cnt v 7 + 1))) 1 (restV v a x) := by
  have h2 : RCb (wI c 5 (a * 7 + 6) (nI x)) 1 (setR v 1 a 6 x) := RCb_setR (j := 1) (r := a) (k := 6) (x := x) h (by decide) ha (by decide) rfl
  refine ⟨fun j hj => ⟨?_, fun r k hr hk => ?_⟩, ?_⟩
  · have e : cnt (restV v a x) j = cnt v j := if_neg (by omega)
    rw [e]
    exact (h2.T hj).keep (fun q => rI_ne (by omega))
  · have e : cnt (restV v a x) j = cnt v j := if_neg (by omega)
    rw [e] at hr
    rw [rI_ne (by omega)]
    exact h2.C hj hr hk
  · rw [rI_w, if_pos ⟨rfl, rfl⟩]; rfl
/-- the model's rest at the end -/
def addT (m : Mem) (n : Nat) (x y : Int32) : Mem := wI (wI (wI m 65 (2 * n) x) 65 (2 * n + 1) y) 61 5 (nI (n + 1))
theorem RMl_rest (h : RMl m v) {a b : Nat} (ha : a < cnt v 1) (hb : b < cnt v 1) (hab : a ≠ b) : RMl (addT m (cnt v 7) (nI a) (nI b)) (restV v a (tb v 1 a 6 ||| 2 ^ b)) := by
  obtain ⟨h0, h1, h2, h3, h4, h5, h6⟩ := RMl_i.mp h
  have T : ∀ i r k, tb (restV v a (tb v 1 a 6 ||| 2 ^ b)) i r k = if i = 1 ∧ r = a ∧ k = 6 then tb v 1 a 6 ||| 2 ^ b else tb v i r k := fun i r k => tb_setR v 1 a 6 _ i r k
  have E : ∀ o k, o ≠ 65 → ¬ (o = 61 ∧ k = 5) → rI (addT m (cnt v 7) (nI a) (nI b)) o k = rI m o k := by
    intro o k q1 q2
    unfold addT
    rw [rI_w, if_neg q2, rI_ne q1, rI_ne q1]
  have ea : ∀ j, j ≠ 3 → avL (addT m (cnt v 7) (nI a) (nI b)) j = avL m j := fun j hj => by funext i; exact E _ _ (by omega) (by omega)
  have ec : ∀ j, j < 6 → j ≠ 2 → cvL (addT m (cnt v 7) (nI a) (nI b)) j = cvL m j := fun j hj hj2 => by
    refine E _ _ (by decide) (fun z => ?_)
    have cs : j = 0 ∨ j = 1 ∨ j = 3 ∨ j = 4 ∨ j = 5 := by omega
    rcases cs with rfl | rfl | rfl | rfl | rfl <;> exact absurd z.2 (by decide)
  have A3 : ∀ i, avL (addT m (cnt v 7) (nI a) (nI b)) 3 i = if i = 2 * cnt v 7 + 1 then nI b else if i = 2 * cnt v 7 then nI a else avL m 3 i := by
    intro i
    show rI (addT m (cnt v 7) (nI a) (nI b)) 65 i = _
    unfold addT
    rw [rI_w, if_neg (by omega), rI_w, rI_w]
    by_cases q1 : i = 2 * cnt v 7 + 1
    · rw [if_pos ⟨rfl, q1⟩, if_pos q1]
    · rw [if_neg (fun z => q1 z.2), if_neg q1]
      by_cases q2 : i = 2 * cnt v 7
      · rw [if_pos ⟨rfl, q2⟩, if_pos q2]
      · rw [if_neg (fun z => q2 z.2), if_neg q2]; rfl
  have C2 : cvL (addT m (cnt v 7) (nI a) (nI b)) 2 = nI (cnt v 7 + 1) := by
    show rI (addT m (cnt v 7) (nI a) (nI b)) 61 5 = _
    unfold addT
    rw [rI_w, if_pos ⟨rfl, rfl⟩]
  refine RMl_i.mpr ?_
  rw [ec 0 (by decide) (by decide), ec 1 (by decide) (by decide), ec 3 (by decide) (by decide), ec 4 (by decide) (by decide), ec 5 (by decide) (by decide), ea 0 (by decide), ea 1 (by decide), ea 2 (by decide), ea 4 (by decide), ea 5 (by decide), ea 6 (by decide), ea 7 (by decide), ea 8 (by decide)]
  refine ⟨h0, ⟨h1.1, fun r hr => ⟨fun k hk => ?_, ?_⟩⟩, h2, ⟨C2, fun q hq => ?_, fun x y hx hy => ?_⟩, h4, h5, h6⟩
  · rw [T, if_neg (by omega)]; exact (h1.2 r hr).1 k hk
  · rw [T, if_neg (by omega)]; exact (h1.2 r hr).2
  · have hq2 : q < cnt v 7 + 1 := hq
    by_cases e : q = cnt v 7
    · refine ⟨a, b, ha, hb, hab, ?_, ?_, ?_⟩
      · rw [A3, e, if_neg (by omega), if_pos rfl]
      · rw [A3, e, if_pos rfl]
      · rw [T, if_pos ⟨rfl, rfl, rfl⟩, Nat.testBit_or, Nat.testBit_two_pow, decide_eq_true rfl, Bool.or_true]
    · obtain ⟨x, y, g1, g2, g3, g4, g5, g6⟩ := h3.2.1 q (by omega)
      refine ⟨x, y, g1, g2, g3, by rw [A3, if_neg (by omega), if_neg (by omega)]; exact g4, by rw [A3, if_neg (by omega), if_neg (by omega)]; exact g5, ?_⟩
      rw [T]
      by_cases z : x = a
      · rw [if_pos ⟨rfl, z, rfl⟩, Nat.testBit_or, ← z, g6, Bool.true_or]
      · rw [if_neg (by omega)]; exact g6
  · have old : (tb v 1 x 6).testBit y = true → ∃ q, q < cnt v 7 + 1 ∧ avL (addT m (cnt v 7) (nI a) (nI b)) 3 (2 * q) = nI x ∧ avL (addT m (cnt v 7) (nI a) (nI b)) 3 (2 * q + 1) = nI y := by
      intro t
      obtain ⟨q, q1, q2, q3⟩ := h3.2.2 x y hx t
      exact ⟨q, by omega, by rw [A3, if_neg (by omega), if_neg (by omega)]; exact q2, by rw [A3, if_neg (by omega), if_neg (by omega)]; exact q3⟩
    rw [T] at hy
    by_cases z : x = a
    · rw [if_pos ⟨rfl, z, rfl⟩, Nat.testBit_or, Bool.or_eq_true, Nat.testBit_two_pow, decide_eq_true_eq] at hy
      rcases hy with hy | hy
      · exact old (by rw [z]; exact hy)
      · exact ⟨cnt v 7, Nat.lt_succ_self _, by rw [A3, if_neg (by omega), if_pos rfl, z], by rw [A3, if_pos rfl, hy]⟩
    · rw [if_neg (by omega)] at hy
      exact old hy
theorem m_restL (h : RMl m v) (hv : IV v) {a b : Nat} (ha : a < cnt v 1) (hb : b < cnt v 1) (K : Int32 → Int32 → Mem → Option (Int32 × Mem)) : ∀ d q n, q + d = cnt v 7 → d < n → (∀ j, j < q → ¬ (rI m 65 (2 * j) = nI a ∧ rI m 65 (2 * j + 1) = nI b)) → f_X9_rest_L25 N K n (nI a) (nI b) (nI q) m = if (tb v 1 a 6).testBit b = true then some (-4, m) else K (nI a) (nI b) m := by
  have b1 := hv.np
  have b7 : cnt v 7 ≤ 40 := hv.2.2.2.2.2.2.1
  have k3 := h.2.2.2.1
  intro d
  induction d with
  | zero =>
    intro q n h1 h2 h3
    obtain ⟨n, rfl⟩ := suc_of h2
    unfold f_X9_rest_L25
    rw [mct7 h, le_t (by omega) (by omega), if_neg]
    intro z
    obtain ⟨j, j1, j2, j3⟩ := k3.2.2 a b ha z
    exact h3 j (by omega) ⟨j2, j3⟩
  | succ d ih =>
    intro q n h1 h2 h3
    obtain ⟨n, rfl⟩ := suc_of h2
    obtain ⟨X, Y, x1, y1, xy, hx, hy, ht⟩ := k3.2.1 q (by omega)
    have hx' : rI m 65 (2 * q) = nI X := hx
    have hy' : rI m 65 (2 * q + 1) = nI Y := hy
    have hi := fun g => ih (q + 1) n (by omega) (by omega) g
    unfold f_X9_rest_L25
    rw [mct7 h, le_f (by omega) (by omega), rmi1, rmi0, gin_n (by omega) (by omega), gin_n (by omega) (by omega), nI_clamp (by omega), nI_clamp (by omega), hx', hy', ite_eq (by omega) (by omega), ite_eq (by omega) (by omega)]
    unfold f_X9_rest_j62
    rw [nI_1]
    have nx : ¬ (X = a ∧ Y = b) → f_X9_rest_L25 N K n (nI a) (nI b) (nI (q + 1)) m = if (tb v 1 a 6).testBit b = true then some (-4, m) else K (nI a) (nI b) m := by
      intro z
      refine hi (fun j hj w => ?_)
      by_cases e : j = q
      · rw [e, hx', hy'] at w
        exact z ⟨(nI_eq (by omega) (by omega)).mp w.1, (nI_eq (by omega) (by omega)).mp w.2⟩
      · exact h3 j (by omega) w
    by_cases z1 : X = a
    · rw [if_pos z1]
      by_cases z2 : Y = b
      · rw [z1, z2] at ht
        rw [if_pos z2, if_pos ht]
      · rw [if_neg z2]; exact nx (fun w => z2 w.2)
    · rw [if_neg z1]; exact nx (fun w => z1 w.1)
theorem b_rest (R : Rv c m v vk) (hN : 1000 ≤ N) (a1 a2 : Int32) : Both (f_X8_rest N a1 a2 c) (f_X9_rest N a1 a2 m) := by
  obtain ⟨h, g, hv, -⟩ := id R
  have b0 := hv.np
  have b7 : cnt v 7 ≤ 40 := hv.2.2.2.2.2.2.1
  unfold f_X8_rest f_X9_rest
  rw [th_has (T1 h), bnd_s, e_isPap g hv, bnd_s, th_has (T1 h), bnd_s, e_isPap g hv, bnd_s]
  by_cases h1 : isI a1 (cnt v 1) = true
  · by_cases h2 : isI a2 (cnt v 1) = true
    · rw [if_pos h1, if_pos h2, if_pos h1, if_pos h2]
      by_cases h3 : a1 = a2
      · rw [if_pos h3, if_pos h3]
        exact both_bad R _
      · obtain ⟨a, ha, rfl⟩ := isI_of (by omega) h1
        obtain ⟨b, hb, rfl⟩ := isI_of (by omega) h2
        have hab : a ≠ b := fun z => h3 (by rw [z])
        have ht := (hv.2.1 a ha).2.2.2.2.2.2
        have ht3 := p30 hv ht
        have hand : tb v 1 a 6 &&& 2 ^ b ≤ tb v 1 a 6 := Nat.and_le_left
        have e1 := m_restL (N := N) g hv ha hb (f_X9_rest_j68 N) (cnt v 7) 0 N (by omega) (by omega) (fun j hj => absurd hj (by omega))
        have e1' : f_X9_rest_L25 N (f_X9_rest_j68 N) N (nI a) (nI b) 0 m = if (tb v 1 a 6).testBit b = true then some (-4, m) else f_X9_rest_j68 N (nI a) (nI b) m := e1
        rw [if_neg h3, if_neg h3, e1', g16t h ha, bnd_s, e_bitN (by omega), bnd_s, ni_and, ek0 (by omega), e_bitN (by omega), bnd_s, ni_or, h.2, ltk40 (by omega)]
        by_cases z : (tb v 1 a 6).testBit b = true
        · rw [if_pos z, if_neg (fun q => by rw [and_bit.mp q] at z; exact absurd z (by decide))]
          exact both_bad R _
        · rw [if_neg z, if_pos (and_bit.mpr (no_t z))]
          unfold f_X9_rest_j68
          rw [mct7 g, ek40 (by omega)]
          by_cases w : cnt v 7 = 40
          · rw [if_neg (by omega), if_pos w]
            exact both_bad R _
          · have hs : f_X5_set N 4 (nI a) 6 (nI (tb v 1 a 6 ||| 2 ^ b)) c = some ((), wI c 5 (a * 7 + 6) (nI (tb v 1 a 6 ||| 2 ^ b))) := th_set (T1 h) ha (k := 6) (by decide) _
            have hor : tb v 1 a 6 ||| 2 ^ b < 2 ^ cnt v 1 := Nat.or_lt_two_pow ht (Nat.pow_lt_pow_right (by decide) hb)
            have hr : rI (wI c 5 (a * 7 + 6) (nI (tb v 1 a 6 ||| 2 ^ b))) 1 7 = nI (cnt v 7) := by rw [rI_ne (by decide)]; exact h.2
            rw [if_pos (by omega), if_neg w, hs, bnd_s, lt_e, hr, nI_1, rI_w, if_pos ⟨rfl, rfl⟩]
            simp only [lt_e, rmi0, r61 (show 61 ≠ 65 by decide), mct7 g, nI_1]
            rw [gin_n (by omega) (by omega), gin_n (by omega) (by omega), nI_clamp (by omega), nI_clamp (by omega), rI_w, if_pos ⟨rfl, rfl⟩]
            exact Both.of rfl rfl (R.keepB (RCb_rest h ha) (RMl_rest g ha hb hab) (hv.rest hor (by omega)) (fun o k ho _ => by rw [rI_ne (by omega), rI_ne (by omega)]) (fun o k ho => by
              show rI (addT m (cnt v 7) (nI a) (nI b)) o k = _
              unfold addT
              rw [rI_w, if_neg (by omega), rI_ne (by omega), rI_ne (by omega)]) (fun k => rfl))
    · rw [if_neg h2, if_neg h2]
      by_cases h3 : a1 = a2
      · rw [if_pos h3, if_pos h1]
        exact both_bad R _
      · rw [if_neg h3, if_pos h1, if_pos h1]
        exact both_bad R _
  · rw [if_neg h1, if_neg h1]
    by_cases h3 : a1 = a2
    · rw [if_pos h3]
      exact both_bad R _
    · rw [if_neg h3]
      exact both_bad R _
end RESTS2
