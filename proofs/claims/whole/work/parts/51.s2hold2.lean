section HOLD2
variable {N : Nat} {c m : Mem} {v vk : VB}
/-- the papers that stand, whatever the memory -/
def STD (N : Nat) (v : VB) (x : Nat) : Prop := ∃ c0, RCb c0 1 v ∧ f_X0_standing N c0 = some (nI x, c0)
theorem STD.of (h : RCb c 1 v) (g : RMl m v) (hv : IV v) (hN : 1000 ≤ N) {x : Nat} (hx : x < 2 ^ 30) (e : f_X9_standing N m = some (nI x, m)) : STD N v x := by
  obtain ⟨r, r1, r2, r3⟩ := b_standing (N := N) h g hv hN
  rw [e] at r3
  have q : nI x = nI r := congrArg Prod.fst (Option.some.inj r3)
  exact ⟨c, h, by rw [q]; exact r2⟩
theorem STD.mm {x : Nat} (s : STD N v x) (g : RMl m v) (hv : IV v) (hN : 1000 ≤ N) : f_X9_standing N m = some (nI x, m) := by
  obtain ⟨c0, h, e⟩ := s
  obtain ⟨r, r1, r2, r3⟩ := b_standing (N := N) h g hv hN
  rw [e] at r2
  have q : nI x = nI r := congrArg Prod.fst (Option.some.inj r2)
  rw [q]; exact r3
/-- the truths that stand on both sides -/
def SK (c m : Mem) (d : Nat) : Prop := rI c 34 1 = nI d ∧ ∀ i, i < d → rI c 35 i = rI m 77 i
theorem l35 : ln (34 + 1) = 200 := rfl
theorem p_pop {d : Nat} (h : rI c 34 1 = nI (d + 1)) (hd : d + 1 ≤ 200) : f_X3_pop N 34 c = some (rI c 35 d, wI c 34 1 (nI d)) := by
  unfold f_X3_pop
  rw [h, lek0 (by omega), if_neg (by omega), l35, le_t hd (by decide), lt_e, nI_pred, rI_w, if_pos ⟨rfl, rfl⟩, gin_n (by omega) (by decide), nI_clamp (by omega), rI_ne (by decide)]
theorem p_top {d : Nat} (h : rI c 34 1 = nI (d + 1)) (hd : d + 1 ≤ 200) : f_X3_top N 34 c = some (rI c 35 d, c) := by
  unfold f_X3_top
  rw [h, lek0 (by omega), if_neg (by omega), l35, lt_f (by omega) (by omega), nI_pred, gin_n (by omega) (by decide), nI_clamp (by omega)]
theorem dp_0 {t : Nat → Nat → Nat} {a n : Nat} (h : dp t a n = 0) : ∀ q, dp t a (n + q) = 0 := by
  intro q
  induction q with
  | zero => exact h
  | succ q ih => rw [← Nat.add_assoc, dp, if_pos ih]
theorem dp_le (t : Nat → Nat → Nat) (a : Nat) : ∀ n, dp t a n ≤ n + 1 := by
  intro n
  induction n with
  | zero => exact Nat.le_refl _
  | succ n ih =>
    rw [dp]
    split
    · omega
    · split
      · split <;> omega
      · split
        · split <;> omega
        · omega
theorem pos_step (t : Nat → Nat → Nat) (k : Nat) : pos t k + 1 ≤ pos t (k + 1) := by
  rw [pos]; split <;> omega
def isSoS (s a b : Nat) : Bool := if s = 16 then decide (a < b) else if s = 18 then decide (b < a) else decide (a = b)
theorem c_isSo {s a b : Nat} (hs : s < 2 ^ 31) (ha : a < 2 ^ 31) (hb : b < 2 ^ 31) : f_X1_isSo N (nI s) (nI a) (nI b) c = some (isSoS s a b, c) := by
  unfold f_X1_isSo isSoS
  rw [ek16 hs, ek18 hs, ite_le hb ha, ite_le ha hb, ite_eq ha hb]
  by_cases z1 : s = 16
  · rw [if_pos z1, if_pos z1]
    by_cases y : b ≤ a
    · rw [if_pos y, decide_eq_false (by omega)]
    · rw [if_neg y, decide_eq_true (by omega)]
  · rw [if_neg z1, if_neg z1]
    by_cases z2 : s = 18
    · rw [if_pos z2, if_pos z2]
      by_cases y : a ≤ b
      · rw [if_pos y, decide_eq_false (by omega)]
      · rw [if_neg y, decide_eq_true (by omega)]
    · rw [if_neg z2, if_neg z2]
      by_cases y : a = b
      · rw [if_pos y, decide_eq_true y]
      · rw [if_neg y, decide_eq_false y]
theorem m_joinS {s a b : Nat} (h1 : 16 ≤ s) (h2 : s ≤ 18) (ha : a < 2 ^ 31) (hb : b < 2 ^ 31) : f_X9_joined N (nI (sgnC s)) (nI a) (nI b) m = some (bI (isSoS s a b), m) := by
  unfold f_X9_joined sgnC isSoS
  rw [ite_le ha hb, ite_le hb ha, ite_eq ha hb]
  have cs : s = 16 ∨ s = 17 ∨ s = 18 := by omega
  rcases cs with rfl | rfl | rfl
  · rw [if_neg (show ¬ nI (16 - 1) = 8 by decide), if_neg (show ¬ nI (16 - 1) = 9 by decide), if_neg (show ¬ nI (16 - 1) = 10 by decide), if_neg (show ¬ nI (16 - 1) = 11 by decide), if_neg (show ¬ nI (16 - 1) = 12 by decide), if_neg (show ¬ nI (16 - 1) = 13 by decide), if_neg (show ¬ nI (16 - 1) = 14 by decide), if_pos (show nI (16 - 1) = 15 by decide), if_pos (show (16 : Nat) = 16 from rfl)]
    by_cases y : b ≤ a
    · rw [if_pos y, decide_eq_false (by omega)]; rfl
    · rw [if_neg y, decide_eq_true (by omega)]; rfl
  · rw [if_neg (show ¬ nI (17 - 1) = 8 by decide), if_neg (show ¬ nI (17 - 1) = 9 by decide), if_neg (show ¬ nI (17 - 1) = 10 by decide), if_neg (show ¬ nI (17 - 1) = 11 by decide), if_neg (show ¬ nI (17 - 1) = 12 by decide), if_neg (show ¬ nI (17 - 1) = 13 by decide), if_neg (show ¬ nI (17 - 1) = 14 by decide), if_neg (show ¬ nI (17 - 1) = 15 by decide), if_pos (show nI (17 - 1) = 16 by decide), if_neg (show ¬ (17 : Nat) = 16 by decide), if_neg (show ¬ (17 : Nat) = 18 by decide)]
    by_cases y : a = b
    · rw [if_pos y, decide_eq_true y]; rfl
    · rw [if_neg y, decide_eq_false y]; rfl
  · rw [if_neg (show ¬ nI (18 - 1) = 8 by decide), if_neg (show ¬ nI (18 - 1) = 9 by decide), if_neg (show ¬ nI (18 - 1) = 10 by decide), if_neg (show ¬ nI (18 - 1) = 11 by decide), if_neg (show ¬ nI (18 - 1) = 12 by decide), if_neg (show ¬ nI (18 - 1) = 13 by decide), if_neg (show ¬ nI (18 - 1) = 14 by decide), if_neg (show ¬ nI (18 - 1) = 15 by decide), if_neg (show ¬ nI (18 - 1) = 16 by decide), if_neg (show ¬ (18 : Nat) = 16 by decide), if_pos (show (18 : Nat) = 18 from rfl)]
    by_cases y : a ≤ b
    · rw [if_pos y, decide_eq_false (by omega)]; rfl
    · rw [if_neg y, decide_eq_true (by omega)]; rfl
theorem sgnV_b {x : Nat} (h : valOK x) : 100 ≤ sgnV x ∧ sgnV x < 4000 := by
  obtain ⟨h1, h2⟩ := h
  unfold sgnV
  split
  · omega
  · split <;> omega
theorem val_b (hv : IV v) {p x code : Nat} (hp : p < cnt v 0) : valS v p x code < 2 ^ 31 := by
  have b1 := hv.np
  have h1 := hv.2.2.2.2.2.1 p
  have h2 := cntP_max (fun i => decide (tb v 1 i 0 = p) && x.testBit i) (cnt v 1)
  have h3 := seenS_le hv p
  have h4 := (hv.1 p hp).1
  have h5 := cntP_max (fun i => decide (tb v 1 i 0 = p) && !spS v i (bestS v p - 1)) (cnt v 1)
  have h6 := hun_le hv p (code % 1000)
  have h7 := Nat.mod_lt code (show 0 < 1000 by decide)
  unfold valS ageS misS misF stcS
  split
  · omega
  · split
    · omega
    · split
      · omega
      · split
        · split <;> omega
        · split
          · omega
          · split
            · omega
            · split
              · split <;> omega
              · omega
theorem sk_push {d : Nat} (s : SK c m d) {y : Int32} {m2 : Mem} (hm : ∀ i, i < d → rI m2 77 i = rI m 77 i) (hy : rI m2 77 d = y) : SK (wI (wI c 35 d y) 34 1 (nI (d + 1))) m2 (d + 1) := by
  refine ⟨by rw [rI_w, if_pos ⟨rfl, rfl⟩], fun i hi => ?_⟩
  rw [rI_ne (by decide), rI_w]
  by_cases e : i = d
  · rw [if_pos ⟨rfl, e⟩, e, hy]
  · rw [if_neg (fun z => e z.2), hm i (by omega)]; exact s.2 i (by omega)
theorem gn {α : Type} {X : Option α} {j : Nat} (h : j < 210) : gin (nI j) 210 X = X := gin_n h (by decide)
theorem m_step {r p d q E n : Nat} {K : Mem → Option (Bool × Mem)} (hr : r < 6) (h68 : rI m 68 r = nI E) (hq : q < E) (hE : E ≤ 205) : f_X9_holds_L20 N K (n + 1) (nI r) (nI p) (nI d) (nI q) m = (if rI m 70 q = 7 then (gin (nI d - 1) 210 (gin (nI d - 1) 210 (lt (wI m 77 (nI d - 1).toNatClampNeg (1 - (rI m 77 (nI d - 1).toNatClampNeg))) fun s4 => f_X9_holds_L20 N K n (nI r) (nI p) (nI d) (nI q + 1) s4))) else if rI m 70 q = 8 then f_X9_holds_j94 N (f_X9_holds_L20 N K n) K (nI r) (nI p) (nI d) (nI q) (rI m 70 q) m else if rI m 70 q = 9 then f_X9_holds_j94 N (f_X9_holds_L20 N K n) K (nI r) (nI p) (nI d) (nI q) (rI m 70 q) m else bnd (f_X9_in N (rI m 70 q) 15 17 m) fun r1 s1 => if r1 = true then f_X9_holds_j94 N (f_X9_holds_L20 N K n) K (nI r) (nI p) (nI d) (nI q) (rI m 70 q) s1 else bnd (f_X9_valueOf N (rI m 70 q) (nI p) s1) fun r2 s2 => gin (nI d) 210 (lt (wI s2 77 (nI d).toNatClampNeg r2) fun s3 => f_X9_holds_L20 N K n (nI r) (nI p) (nI d + 1) (nI q + 1) s3)) := by
  show gin (nI r) 6 _ = _
  rw [gin_n hr (by decide)]
  show (if rI m 68 (nI r).toNatClampNeg ≤ nI q then _ else _) = _
  rw [nI_clamp (by omega), h68, le_f hq (by omega), gn (by omega)]
  simp only [nI_clamp (show q < 2 ^ 31 by omega)]
  rfl
theorem m_j94 {r p d q s : Nat} {k20 : Int32 → Int32 → Int32 → Int32 → Mem → Option (Bool × Mem)} {K : Mem → Option (Bool × Mem)} (hd : d + 1 < 210) {y : Int32} (hj : f_X9_joined N (nI s) (rI m 77 d) (rI m 77 (d + 1)) m = some (y, m)) : f_X9_holds_j94 N k20 K (nI r) (nI p) (nI (d + 2)) (nI q) (nI s) m = k20 (nI r) (nI p) (nI (d + 1)) (nI (q + 1)) (wI m 77 d y) := by
  unfold f_X9_holds_j94 f_X9_holds_j143
  rw [show (nI (d + 2) + (-1) : Int32) = nI (d + 1) from pk_m1 (d + 1), nI_pred, gn (by omega), gn hd, nI_clamp (by omega), nI_clamp (by omega), hj, bnd_s, gn (by omega), lt_e, nI_1]
theorem m_stepN {r p d q E n : Nat} {K : Mem → Option (Bool × Mem)} (hr : r < 6) (h68 : rI m 68 r = nI E) (hq : q < E) (hE : E ≤ 205) (hd : d < 210) (hs : rI m 70 q = nI 7) : f_X9_holds_L20 N K (n + 1) (nI r) (nI p) (nI (d + 1)) (nI q) m = f_X9_holds_L20 N K n (nI r) (nI p) (nI (d + 1)) (nI (q + 1)) (wI m 77 d (1 - rI m 77 d)) := by
  rw [m_step hr h68 hq hE, hs, if_pos (show nI 7 = 7 from rfl), nI_pred, gn hd, gn hd, lt_e, nI_clamp (by omega), nI_1]
theorem m_stepJ {r p d q E n s : Nat} {K : Mem → Option (Bool × Mem)} (hr : r < 6) (h68 : rI m 68 r = nI E) (hq : q < E) (hE : E ≤ 205) (hd : d + 1 < 210) (h8 : s = 8 ∨ s = 9) (hs : rI m 70 q = nI s) {y : Int32} (hj : f_X9_joined N (nI s) (rI m 77 d) (rI m 77 (d + 1)) m = some (y, m)) : f_X9_holds_L20 N K (n + 1) (nI r) (nI p) (nI (d + 2)) (nI q) m = f_X9_holds_L20 N K n (nI r) (nI p) (nI (d + 1)) (nI (q + 1)) (wI m 77 d y) := by
  rw [m_step hr h68 hq hE, hs, ek7 (by omega), ek8 (by omega), ek9 (by omega), m_j94 hd hj]
  rcases h8 with rfl | rfl
  · rw [if_neg (by decide), if_pos rfl]
  · rw [if_neg (by decide), if_neg (by decide), if_pos rfl]
theorem m_stepS {r p d q E n s : Nat} {K : Mem → Option (Bool × Mem)} (hr : r < 6) (h68 : rI m 68 r = nI E) (hq : q < E) (hE : E ≤ 205) (hd : d + 1 < 210) (h8 : 15 ≤ s ∧ s ≤ 17) (hs : rI m 70 q = nI s) {y : Int32} (hj : f_X9_joined N (nI s) (rI m 77 d) (rI m 77 (d + 1)) m = some (y, m)) : f_X9_holds_L20 N K (n + 1) (nI r) (nI p) (nI (d + 2)) (nI q) m = f_X9_holds_L20 N K n (nI r) (nI p) (nI (d + 1)) (nI (q + 1)) (wI m 77 d y) := by
  rw [m_step hr h68 hq hE, hs, ek7 (by omega), ek8 (by omega), ek9 (by omega), if_neg (by omega), if_neg (by omega), if_neg (by omega), e_in, bnd_s, decide_eq_true (show ¬ nI s < 15 ∧ ¬ (17 : Int32) < nI s from ⟨nI_nlt (b := 15) h8.1 (by omega), nI_nlt (a := 17) h8.2 (by decide)⟩), ite_T, m_j94 hd hj]
theorem m_stepV {r p d q E n s X : Nat} {K : Mem → Option (Bool × Mem)} (hr : r < 6) (h68 : rI m 68 r = nI E) (hq : q < E) (hE : E ≤ 205) (hd : d < 210) (hs : rI m 70 q = nI s) (h8 : 100 ≤ s ∧ s < 4000) (hv2 : f_X9_valueOf N (nI s) (nI p) m = some (nI X, m)) : f_X9_holds_L20 N K (n + 1) (nI r) (nI p) (nI d) (nI q) m = f_X9_holds_L20 N K n (nI r) (nI p) (nI (d + 1)) (nI (q + 1)) (wI m 77 d (nI X)) := by
  rw [m_step hr h68 hq hE, hs, ek7 (by omega), ek8 (by omega), ek9 (by omega), if_neg (by omega), if_neg (by omega), if_neg (by omega), e_in, bnd_s, decide_eq_false (fun z => z.2 (nI_lt (a := 17) (by omega) (by omega))), ite_F, hv2, bnd_s, gn hd, lt_e, nI_clamp (by omega), nI_1, nI_1]
theorem holdL (hv : IV v) {p x r : Nat} (hp : p < cnt v 0) (hx : x < 2 ^ 30) (hN : 1000 ≤ N) (S : STD N v x) (hr : r < cnt v 5) : ∀ D k n1 n2 d (c m : Mem), RCb c 1 v → RMl m v → WG c v p → JL c v p x → SK c m d → k + D = tb v 5 r 2 → tb v 5 r 1 ≤ k → dp (tb v 6) (tb v 5 r 1) (k - tb v 5 r 1) = d + 1 → D < n1 → 3 * D < n2 → ∃ b c2 m2, f_X1_holds_L39 N (f_X1_holds_j152 N) n1 (nI (tb v 5 r 2)) (nI k) c = some (b, c2) ∧ f_X9_holds_L20 N (f_X9_holds_j149 N) n2 (nI r) (nI p) (nI d) (nI (pos (tb v 6) k)) m = some (b, m2) ∧ Sm1 (fun o => 34 ≤ o ∧ o ≤ 35) c c2 ∧ Sm1 (fun o => o = 77) m m2 := by
  have b5 : cnt v 5 ≤ 6 := hv.2.2.2.2.2.2.2.2.2.2.2.1
  have b6 : cnt v 6 ≤ 200 := hv.2.2.2.2.2.2.2.2.2.2.2.2
  intro D
  induction D with
  | zero =>
    intro k n1 n2 d c m h g w J s h1 h2 h3 h4 h5
    obtain ⟨n1, rfl⟩ := suc_of h4
    obtain ⟨n2, rfl⟩ := suc_of h5
    obtain ⟨k1, k2, k3, k4, k5, k6⟩ := g.2.2.2.2.2.2
    obtain ⟨q1, q2, q3, q4, q5, q6⟩ := k2 r hr
    have q1' : rI m 68 r = nI (pos (tb v 6) (tb v 5 r 2)) := q1
    have e : k = tb v 5 r 2 := by omega
    rw [e] at h3
    rw [k5 r hr] at h3
    have hd : d = 1 := by omega
    have pm := pos_mono (tb v 6) (tb v 5 r 2) (cnt v 6 - tb v 5 r 2)
    rw [show tb v 5 r 2 + (cnt v 6 - tb v 5 r 2) = cnt v 6 by omega] at pm
    subst hd
    refine ⟨decide (rI c 35 0 = 1), c, m, ?_, ?_, Sm1.rf, Sm1.rf⟩
    · unfold f_X1_holds_L39
      rw [e, le_t (Nat.le_refl _) (by omega)]
      unfold f_X1_holds_j152
      rw [p_top s.1 (by decide), bnd_s]
      by_cases y : rI c 35 0 = 1
      · rw [if_pos y, decide_eq_true y]
      · rw [if_neg y, decide_eq_false y]
    · unfold f_X9_holds_L20
      rw [gin_n (by omega) (by decide), nI_clamp (by omega), q1', e, le_t (Nat.le_refl _) (by omega)]
      unfold f_X9_holds_j149
      rw [show gin (0 : Int32) 210 = fun (X : Option (Bool × Mem)) => gin (nI 0) 210 X from rfl]
      show gin (nI 0) 210 _ = _
      rw [gn (by decide), show (0 : Int32).toNatClampNeg = 0 by decide, ← s.2 0 (by decide)]
      by_cases y : rI c 35 0 = 1
      · rw [if_pos y, decide_eq_true y]
      · rw [if_neg y, decide_eq_false y]
  | succ D ih =>
    intro k n1 n2 d c m h g w J s h1 h2 h3 h4 h5
    obtain ⟨n1, rfl⟩ := suc_of h4
    obtain ⟨n2, rfl⟩ := suc_of (show 0 < n2 by omega)
    obtain ⟨k1, k2, k3, k4, k5, k6⟩ := g.2.2.2.2.2.2
    obtain ⟨q1, q2, q3, q4, q5, q6⟩ := k2 r hr
    have q1' : rI m 68 r = nI (pos (tb v 6) (tb v 5 r 2)) := q1
    have hk : k < cnt v 6 := by omega
    have w5 := k5 r hr
    have pm := pos_mono (tb v 6) (tb v 5 r 2) (cnt v 6 - tb v 5 r 2)
    rw [show tb v 5 r 2 + (cnt v 6 - tb v 5 r 2) = cnt v 6 by omega] at pm
    have pk := pos_mono (tb v 6) (k + 1) D
    rw [show k + 1 + D = tb v 5 r 2 by omega] at pk
    have ps := pos_step (tb v 6) k
    have dle := dp_le (tb v 6) (tb v 5 r 1) (k - tb v 5 r 1)
    have nz : dp (tb v 6) (tb v 5 r 1) (k - tb v 5 r 1 + 1) ≠ 0 := by
      intro z
      have := dp_0 z (tb v 5 r 2 - (k + 1))
      rw [show k - tb v 5 r 1 + 1 + (tb v 5 r 2 - (k + 1)) = tb v 5 r 2 - tb v 5 r 1 by omega, w5] at this
      omega
    have dn : dp (tb v 6) (tb v 5 r 1) (k - tb v 5 r 1 + 1) = (if tb v 6 k 0 = 13 then (if 2 ≤ d + 1 then d + 1 else 0) else if joint (tb v 6 k 0) = true then (if 3 ≤ d + 1 then d else 0) else d + 1 + 1) := by
      rw [dp, h3, if_neg (by omega), show tb v 5 r 1 + (k - tb v 5 r 1) = k by omega, Nat.add_sub_cancel]
    have ke : k - tb v 5 r 1 + 1 = k + 1 - tb v 5 r 1 := by omega
    have st := k6 k hk
    have a8 := k4 k hk
    have lem : pos (tb v 6) k < 210 := by omega
    unfold f_X1_holds_L39
    rw [le_f (by omega) (by omega), g60 h hk, bnd_s, g61 h hk, bnd_s]
    have lx : tb v 6 k 0 < 2 ^ 31 := by
      rcases st with j | j
      · unfold joint at j
        simp only [Bool.or_eq_true, beq_iff_eq] at j
        omega
      · omega
    rw [ek13 lx, ek12 lx, ek11 lx]
    have hr6 : r < 6 := by omega
    have kc : ∀ c2 : Mem, Sm1 (fun o => 34 ≤ o ∧ o ≤ 35) c c2 → RCb c2 1 v ∧ WG c2 v p ∧ JL c2 v p x := fun c2 q => ⟨q.RCb (fun o _ _ => by omega) h, w.keep (q.mono (fun o _ => by omega)), J.keep q⟩
    have km : ∀ m2 : Mem, Sm1 (fun o => o = 77) m m2 → RMl m2 v := fun m2 q => RMl_s g (fun o i ho => (q o (by omega)).1 i)
    -- what remains, from what stands after this step
    have go : ∀ d2 n (c2 m2 : Mem), Sm1 (fun o => 34 ≤ o ∧ o ≤ 35) c c2 → Sm1 (fun o => o = 77) m m2 → SK c2 m2 d2 → dp (tb v 6) (tb v 5 r 1) (k - tb v 5 r 1 + 1) = d2 + 1 → 3 * D < n → ∃ b c3 m3, f_X1_holds_L39 N (f_X1_holds_j152 N) n1 (nI (tb v 5 r 2)) (nI (k + 1)) c2 = some (b, c3) ∧ f_X9_holds_L20 N (f_X9_holds_j149 N) n (nI r) (nI p) (nI d2) (nI (pos (tb v 6) (k + 1))) m2 = some (b, m3) ∧ Sm1 (fun o => 34 ≤ o ∧ o ≤ 35) c c3 ∧ Sm1 (fun o => o = 77) m m3 := by
      intro d2 n c2 m2 z1 z2 z3 z4 z5
      obtain ⟨u1, u2, u3⟩ := kc c2 z1
      obtain ⟨b, c3, m3, f1, f2, f3, f4⟩ := ih (k + 1) n1 n d2 c2 m2 u1 (km m2 z2) u2 u3 z3 (by omega) (by omega) (by rw [← ke]; exact z4) (by omega) z5
      exact ⟨b, c3, m3, f1, f2, z1.tr f3, z2.tr f4⟩
    unfold f_X1_holds_j79 f_X1_holds_j146 f_X1_join
    by_cases z13 : tb v 6 k 0 = 13
    · have jt : joint (tb v 6 k 0) = true := by rw [z13]; rfl
      rw [if_pos jt, show sgnJ (tb v 6 k 0) = 7 by rw [z13]; rfl] at a8
      have a8' : rI m 70 (pos (tb v 6) k) = nI 7 := a8
      rw [if_pos z13] at dn
      have hd : 2 ≤ d + 1 := by
        by_cases q : 2 ≤ d + 1
        · exact q
        · rw [if_neg q] at dn; exact absurd dn nz
      rw [if_pos hd] at dn
      obtain ⟨d', rfl⟩ := suc_of (show 0 < d by omega)
      have pe : pos (tb v 6) (k + 1) = pos (tb v 6) k + 1 := by rw [pos, if_pos jt]
      rw [if_pos z13, p_pop s.1 (by omega), bnd_s, z13, if_pos (show nI 13 = 13 from rfl), p_push (n := d') (by rw [rI_w, if_pos ⟨rfl, rfl⟩]) (by rw [l35]; omega) (by decide), bnd_s, bnd_s, nI_1, m_stepN hr6 q1' (by omega) (by omega) (by omega) a8', ← pe]
      have s' : SK (wI c 34 1 (nI d')) m d' := ⟨by rw [rI_w, if_pos ⟨rfl, rfl⟩], fun i hi => by rw [rI_ne (by decide)]; exact s.2 i (by omega)⟩
      have sm1 : Sm1 (fun o => 34 ≤ o ∧ o ≤ 35) c (wI (wI (wI c 34 1 (nI d')) (34 + 1) d' (1 - rI c 35 d')) 34 1 (nI (d' + 1))) := ((Sm1.wI (P := fun o => 34 ≤ o ∧ o ≤ 35) ⟨by decide, by decide⟩).tr (Sm1.wI ⟨by decide, by decide⟩)).tr (Sm1.wI ⟨by decide, by decide⟩)
      have sm2 : Sm1 (fun o => o = 77) m (wI m 77 d' (1 - rI m 77 d')) := Sm1.wI rfl
      exact go (d' + 1) n2 _ _ sm1 sm2 (sk_push s' (fun i hi => by rw [rI_w, if_neg (by omega)]) (by rw [rI_w, if_pos ⟨rfl, rfl⟩, s.2 d' (by omega)])) dn (by omega)
    · by_cases jt : joint (tb v 6 k 0) = true
      · have c2 : tb v 6 k 0 = 12 ∨ tb v 6 k 0 = 11 := by
          unfold joint at jt
          simp only [Bool.or_eq_true, beq_iff_eq] at jt
          omega
        rw [if_pos jt] at a8
        have a8' : rI m 70 (pos (tb v 6) k) = nI (sgnJ (tb v 6 k 0)) := a8
        rw [if_neg z13, if_pos jt] at dn
        have hd : 3 ≤ d + 1 := by
          by_cases q : 3 ≤ d + 1
          · exact q
          · rw [if_neg q] at dn; exact absurd dn nz
        rw [if_pos hd] at dn
        obtain ⟨d', rfl⟩ : ∃ d', d = d' + 2 := ⟨d - 2, by omega⟩
        have pe : pos (tb v 6) (k + 1) = pos (tb v 6) k + 1 := by rw [pos, if_pos jt]
        have pp2 : f_X3_pop N 34 (wI c 34 1 (nI (d' + 1))) = some (rI c 35 d', wI (wI c 34 1 (nI (d' + 1))) 34 1 (nI d')) := by
          have := p_pop (N := N) (c := wI c 34 1 (nI (d' + 1))) (d := d') (by rw [rI_w, if_pos ⟨rfl, rfl⟩]) (by omega)
          rw [rI_ne (show (35 : Nat) ≠ 34 by decide)] at this
          exact this
        have s' : SK (wI (wI c 34 1 (nI (d' + 1))) 34 1 (nI d')) m d' := ⟨by rw [rI_w, if_pos ⟨rfl, rfl⟩], fun i hi => by rw [rI_ne (by decide), rI_ne (by decide)]; exact s.2 i (by omega)⟩
        have fin : ∀ y : Int32, ∃ b c3 m3, f_X1_holds_L39 N (f_X1_holds_j152 N) n1 (nI (tb v 5 r 2)) (nI (k + 1)) (wI (wI (wI (wI c 34 1 (nI (d' + 1))) 34 1 (nI d')) (34 + 1) d' y) 34 1 (nI (d' + 1))) = some (b, c3) ∧ f_X9_holds_L20 N (f_X9_holds_j149 N) n2 (nI r) (nI p) (nI (d' + 1)) (nI (pos (tb v 6) (k + 1))) (wI m 77 d' y) = some (b, m3) ∧ Sm1 (fun o => 34 ≤ o ∧ o ≤ 35) c c3 ∧ Sm1 (fun o => o = 77) m m3 := by
          intro y
          refine go (d' + 1) n2 _ _ ((((Sm1.wI (P := fun o => 34 ≤ o ∧ o ≤ 35) ⟨by decide, by decide⟩).tr (Sm1.wI ⟨by decide, by decide⟩)).tr (Sm1.wI ⟨by decide, by decide⟩)).tr (Sm1.wI ⟨by decide, by decide⟩)) (Sm1.wI rfl) (sk_push s' (fun i hi => by rw [rI_w, if_neg (by omega)]) (by rw [rI_w, if_pos ⟨rfl, rfl⟩])) dn (by omega)
        have pu : ∀ y, f_X3_push N 34 y (wI (wI c 34 1 (nI (d' + 1))) 34 1 (nI d')) = some ((), wI (wI (wI (wI c 34 1 (nI (d' + 1))) 34 1 (nI d')) (34 + 1) d' y) 34 1 (nI (d' + 1))) := fun y => p_push (n := d') (by rw [rI_w, if_pos ⟨rfl, rfl⟩]) (by rw [l35]; omega) (by decide) y
        have v1 := s.2 d' (by omega)
        have v2 := s.2 (d' + 1) (by omega)
        rw [if_neg z13, p_pop (d := d' + 1) s.1 (by omega), bnd_s, pp2, bnd_s]
        unfold f_X1_join_j52
        rw [pu, pu, bnd_s, bnd_s]
        rcases c2 with e | e
        · rw [if_pos e, e, if_neg (show ¬ nI 12 = 13 by decide), if_pos (show nI 12 = 12 from rfl), bnd_s, nI_1]
          rw [m_stepJ hr6 q1' (by omega) (by omega) (by omega) (s := 8) (by decide) (by rw [a8', e]; rfl) (y := rI c 35 d' &&& rI c 35 (d' + 1)) (by unfold f_X9_joined; rw [if_pos (show nI 8 = 8 from rfl), v1, v2]), ← pe]
          exact fin _
        · rw [if_neg (by omega), if_pos e, e, if_neg (show ¬ nI 11 = 13 by decide), if_neg (show ¬ nI 11 = 12 by decide), bnd_s, nI_1]
          rw [m_stepJ hr6 q1' (by omega) (by omega) (by omega) (s := 9) (by decide) (by rw [a8', e]; rfl) (y := rI c 35 d' ||| rI c 35 (d' + 1)) (by unfold f_X9_joined; rw [if_neg (show ¬ nI 9 = 8 by decide), if_pos (show nI 9 = 9 from rfl), v1, v2]), ← pe]
          exact fin _
      · obtain ⟨y1, y2, y3, y4⟩ := st.resolve_left jt
        rw [if_neg jt] at a8
        obtain ⟨b1, b2, b3⟩ := a8
        have b1' : rI m 70 (pos (tb v 6) k) = nI (sgnV (tb v 6 k 1)) := b1
        have b2' : rI m 70 (pos (tb v 6) k + 1) = nI (sgnV (tb v 6 k 2)) := b2
        have b3' : rI m 70 (pos (tb v 6) k + 2) = nI (sgnC (tb v 6 k 0)) := b3
        rw [if_neg z13, if_neg jt] at dn
        have pe : pos (tb v 6) (k + 1) = pos (tb v 6) k + 1 + 1 + 1 := by rw [pos, if_neg jt]
        obtain ⟨n2, rfl⟩ := suc_of (show 0 < n2 by omega)
        obtain ⟨n2, rfl⟩ := suc_of (show 0 < n2 by omega)
        have sb1 := sgnV_b y3
        have sb2 := sgnV_b y4
        have vb1 := val_b (x := x) (code := tb v 6 k 1) hv hp
        have vb2 := val_b (x := x) (code := tb v 6 k 2) hv hp
        have gm1 : Sm1 (fun o => o = 77) m (wI m 77 d (nI (valS v p x (tb v 6 k 1)))) := Sm1.wI rfl
        have gm2 : Sm1 (fun o => o = 77) m (wI (wI m 77 d (nI (valS v p x (tb v 6 k 1)))) 77 (d + 1) (nI (valS v p x (tb v 6 k 2)))) := gm1.tr (Sm1.wI rfl)
        have r68 : ∀ m2 : Mem, Sm1 (fun o => o = 77) m m2 → rI m2 68 r = nI (pos (tb v 6) (tb v 5 r 2)) ∧ ∀ q, rI m2 70 q = rI m 70 q := fun m2 z => ⟨by rw [(z 68 (by decide)).1]; exact q1', fun q => (z 70 (by decide)).1 q⟩
        rw [if_neg z13, if_neg (by omega), if_neg (by omega), c_val w J hv y3 hN, bnd_s, g62 h hk, bnd_s, c_val w J hv y4 hN, bnd_s, c_isSo (by omega) vb1 vb2, bnd_s]
        rw [m_stepV hr6 q1' (by omega) (by omega) (by omega) b1' sb1 (m_val g hv hp hx (S.mm g hv hN) y3 hN), m_stepV hr6 (r68 _ gm1).1 (by omega) (by omega) (by omega) (by rw [(r68 _ gm1).2]; exact b2') sb2 (m_val (km _ gm1) hv hp hx (S.mm (km _ gm1) hv hN) y4 hN)]
        have j1 : f_X9_joined N (nI (sgnC (tb v 6 k 0))) (rI (wI (wI m 77 d (nI (valS v p x (tb v 6 k 1)))) 77 (d + 1) (nI (valS v p x (tb v 6 k 2)))) 77 d) (rI (wI (wI m 77 d (nI (valS v p x (tb v 6 k 1)))) 77 (d + 1) (nI (valS v p x (tb v 6 k 2)))) 77 (d + 1)) (wI (wI m 77 d (nI (valS v p x (tb v 6 k 1)))) 77 (d + 1) (nI (valS v p x (tb v 6 k 2)))) = some (bI (isSoS (tb v 6 k 0) (valS v p x (tb v 6 k 1)) (valS v p x (tb v 6 k 2))), wI (wI m 77 d (nI (valS v p x (tb v 6 k 1)))) 77 (d + 1) (nI (valS v p x (tb v 6 k 2)))) := by
          rw [rI_w, if_neg (by omega), rI_w, if_pos ⟨rfl, rfl⟩, rI_w, if_pos ⟨rfl, rfl⟩]
          exact m_joinS y1 y2 vb1 vb2
        rw [m_stepS hr6 (r68 _ gm2).1 (by omega) (by omega) (by omega) (s := sgnC (tb v 6 k 0)) (by unfold sgnC; omega) (by rw [(r68 _ gm2).2]; exact b3') j1, ← pe]
        unfold f_X1_holds_j143 f_X1_holds_j146
        have pu : ∀ b : Bool, f_X3_push N 34 (bI b) c = some ((), wI (wI c (34 + 1) d (bI b)) 34 1 (nI (d + 1))) := fun b => p_push (n := d) s.1 (by rw [l35]; omega) (by decide) _
        rw [pu, pu, bnd_s, bnd_s, nI_1]
        have fin : ∀ b : Bool, isSoS (tb v 6 k 0) (valS v p x (tb v 6 k 1)) (valS v p x (tb v 6 k 2)) = b → ∃ b2 c3 m3, f_X1_holds_L39 N (f_X1_holds_j152 N) n1 (nI (tb v 5 r 2)) (nI (k + 1)) (wI (wI c (34 + 1) d (bI b)) 34 1 (nI (d + 1))) = some (b2, c3) ∧ f_X9_holds_L20 N (f_X9_holds_j149 N) n2 (nI r) (nI p) (nI (d + 1)) (nI (pos (tb v 6) (k + 1))) (wI (wI (wI m 77 d (nI (valS v p x (tb v 6 k 1)))) 77 (d + 1) (nI (valS v p x (tb v 6 k 2)))) 77 d (bI (isSoS (tb v 6 k 0) (valS v p x (tb v 6 k 1)) (valS v p x (tb v 6 k 2))))) = some (b2, m3) ∧ Sm1 (fun o => 34 ≤ o ∧ o ≤ 35) c c3 ∧ Sm1 (fun o => o = 77) m m3 := by
          intro b hb
          exact go (d + 1) n2 _ _ ((Sm1.wI (P := fun o => 34 ≤ o ∧ o ≤ 35) ⟨by decide, by decide⟩).tr (Sm1.wI ⟨by decide, by decide⟩)) (gm2.tr (Sm1.wI rfl)) (sk_push s (fun i hi => by rw [rI_w, if_neg (by omega), rI_w, if_neg (by omega), rI_w, if_neg (by omega)]) (by rw [rI_w, if_pos ⟨rfl, rfl⟩, hb])) dn (by omega)
        by_cases z : isSoS (tb v 6 k 0) (valS v p x (tb v 6 k 1)) (valS v p x (tb v 6 k 2)) = true
        · rw [if_pos z]; exact fin true z
        · rw [if_neg z]; exact fin false (no_t z)
end HOLD2
