-- the class's odds
theorem rL_wIe {s : Mem} {o k j m : Nat} {v : Int32} : rL (wI s o k v) j m = rL s j m := rfl
theorem rI_wLe {s : Mem} {o k j m : Nat} {v : Int64} : rI (wL s o k v) j m = rI s j m := rfl
/-- the same but in what is worked out anew -/
def Sm1 (P : Nat → Prop) (c c2 : Mem) : Prop := ∀ o, ¬ P o → (∀ k, rI c2 o k = rI c o k) ∧ ∀ k, rL c2 o k = rL c o k
theorem Sm1.rf {P : Nat → Prop} {c : Mem} : Sm1 P c c := fun _ _ => ⟨fun _ => rfl, fun _ => rfl⟩
theorem Sm1.tr {P : Nat → Prop} {a b c : Mem} (h : Sm1 P a b) (g : Sm1 P b c) : Sm1 P a c := fun o ho => ⟨fun k => ((g o ho).1 k).trans ((h o ho).1 k), fun k => ((g o ho).2 k).trans ((h o ho).2 k)⟩
theorem Sm1.wI {P : Nat → Prop} {c : Mem} {o k : Nat} {x : Int32} (ho : P o) : Sm1 P c (wI c o k x) := fun j hj => ⟨fun _ => rI_ne (fun e => hj (e ▸ ho)), fun _ => rfl⟩
theorem Sm1.wL {P : Nat → Prop} {c : Mem} {o k : Nat} {x : Int64} (ho : P o) : Sm1 P c (wL c o k x) := fun j hj => ⟨fun _ => rfl, fun _ => rL_ne (fun e => hj (e ▸ ho))⟩
theorem Sm1.mono {P Q : Nat → Prop} {c c2 : Mem} (h : Sm1 P c c2) (hPQ : ∀ o, P o → Q o) : Sm1 Q c c2 := fun o ho => h o (fun z => ho (hPQ o z))
theorem Sm1.RCb {P : Nat → Prop} {c c2 : Mem} (h : Sm1 P c c2) {b : Nat} {v : VB} (hP : ∀ o, b ≤ o → o ≤ b + 14 → ¬ P o) (g : RCb c b v) : RCb c2 b v := g.keep (fun o k h1 h2 => (h o (hP o h1 h2)).1 k)
def od (o : Nat) : Prop := o = 31 ∨ o = 32
/-- the odds of person p are worked out -/
def WG (c : Mem) (v : VB) (p : Nat) : Prop := (∀ y, y < 161 → rL c 32 y = lN (wS v p y)) ∧ rI c 31 1 = nI (seenS v p) ∧ rL c 31 2 = lN (allS v p) ∧ rI c 31 3 = (if bestS v p = 0 then -3 else nI (bestS v p - 1))
section ODD
variable {N : Nat} {c : Mem} {v : VB}
/-- life at the age of year y, 0 if it is out -/
def w0 (v : VB) (p y : Nat) : Nat := if goneS v p y = true then 0 else tb v 2 ((seenS v p - y) / 10) 0
def wK (v : VB) (p y k : Nat) : Nat := if goneS v p y = true then 0 else wF v p y k
theorem c_begL (hv : IV v) {p : Nat} (hp : p < 2 ^ 31) (hN : 1000 ≤ N) : ∀ d k n (c : Mem), RCb c 1 v → rI c 31 1 = nI (seenS v p) → k + d = 161 → d < n → ∃ c2, f_X2_begin_L2 N n (nI p) (nI k) c = some ((), c2) ∧ Sm1 (fun o => o = 32) c c2 ∧ (∀ y, k ≤ y → y < 161 → rL c2 32 y = lN (w0 v p y)) ∧ ∀ y, y < k → rL c2 32 y = rL c 32 y := by
  have b1 := seenS_le hv p
  intro d
  induction d with
  | zero =>
    intro k n c h hs h1 h2
    obtain ⟨n, rfl⟩ := suc_of h2
    refine ⟨c, ?_, Sm1.rf, fun y _ _ => by omega, fun _ _ => rfl⟩
    unfold f_X2_begin_L2
    rw [kle161 (by omega), if_pos (by omega)]
  | succ d ih =>
    intro k n c h hs h1 h2
    obtain ⟨n, rfl⟩ := suc_of h2
    have fin : ∀ x : Nat, x = w0 v p k → ∃ c2, f_X2_begin_j67 N (f_X2_begin_L2 N n) (nI p) (nI k) (lN x) (nI k) c = some ((), c2) ∧ Sm1 (fun o => o = 32) c c2 ∧ (∀ y, k ≤ y → y < 161 → rL c2 32 y = lN (w0 v p y)) ∧ ∀ y, y < k → rL c2 32 y = rL c 32 y := by
      intro x hx
      obtain ⟨c2, e1, e2, e3, e4⟩ := ih (k + 1) n (wL c 32 k (lN x)) (h.keep (fun _ _ _ _ => rfl)) hs (by omega) (by omega)
      refine ⟨c2, ?_, (Sm1.wL (P := fun o => o = 32) rfl).tr e2, fun y hy hy2 => ?_, fun y hy => ?_⟩
      · unfold f_X2_begin_j67
        rw [gin_n (by omega) (by omega), lt_e, nI_clamp (by omega), nI_1]
        exact e1
      · by_cases hyk : y = k
        · rw [hyk, e4 k (by omega), rL_w, if_pos ⟨rfl, rfl⟩, hx]
        · exact e3 y (by omega) hy2
      · rw [e4 y (by omega), rL_w, if_neg (by omega)]
    have out : goneS v p k = true → ∃ c2, f_X2_begin_j28 N (f_X2_begin_L2 N n) (nI p) (nI k) c = some ((), c2) ∧ Sm1 (fun o => o = 32) c c2 ∧ (∀ y, k ≤ y → y < 161 → rL c2 32 y = lN (w0 v p y)) ∧ ∀ y, y < k → rL c2 32 y = rL c 32 y := by
      intro z
      unfold f_X2_begin_j28 f_X2_begin_j33
      rw [ite_T]
      exact fin 0 (by unfold w0; rw [if_pos z])
    unfold f_X2_begin_L2
    rw [kle161 (by omega), if_neg (by omega), hs, ite_lt (by omega) (by omega)]
    by_cases z0 : seenS v p < k
    · rw [if_pos z0]
      exact out (by unfold goneS; rw [decide_eq_true z0, Bool.true_or])
    · rw [if_neg z0, e_out h hv hp (by omega) hN, bnd_s]
      by_cases z1 : outS v p k = true
      · rw [if_pos z1]
        exact out (by unfold goneS; rw [z1, Bool.or_true])
      · have z2 : goneS v p k = false := by
          unfold goneS
          rw [decide_eq_false z0, Bool.false_or]
          cases q : outS v p k <;> simp_all
        have b2 := hv.2.2.1
        rw [if_neg z1]
        unfold f_X2_begin_j33
        rw [ite_F, hs, pk_sub (by omega), div10 (by omega), g20 h (by rw [b2.1]; omega), bnd_s, nI_l (by have := b2.2 ((seenS v p - k) / 10) (by omega); omega)]
        exact fin _ (by unfold w0; rw [z2]; rfl)
theorem c_begin (h : RCb c 1 v) (hv : IV v) {p : Nat} (hp : p < 2 ^ 31) (hN : 1000 ≤ N) (hs : rI c 31 1 = nI (seenS v p)) : ∃ c2, f_X2_begin N (nI p) c = some ((), c2) ∧ Sm1 (fun o => o = 32) c c2 ∧ ∀ y, y < 161 → rL c2 32 y = lN (w0 v p y) := by
  obtain ⟨c2, e1, e2, e3, -⟩ := c_begL hv hp hN 161 0 N c h hs (by omega) (by omega)
  exact ⟨c2, e1, e2, fun y hy => e3 y (Nat.zero_le _) hy⟩
theorem wK_le (hv : IV v) {p y k : Nat} (hk : k ≤ cnt v 1) (hy : y ≤ 160) : wK v p y k < 2 ^ 63 := by
  have b1 := seenS_le hv p
  unfold wK
  split
  · omega
  · have h2 := wF_le hv p y (by omega) k hk
    have h3 : ∀ a b, a ≤ b → b ≤ cnt v 1 → ofP v p a ≤ ofP v p b := by
      intro a b hab
      induction b with
      | zero => intro _; rw [show a = 0 by omega]; exact Nat.le_refl _
      | succ b ih =>
        intro hb
        by_cases e : a = b + 1
        · rw [e]; exact Nat.le_refl _
        · have := ih (by omega) (by omega)
          rw [ofP]; omega
    have h4 := h3 k (cnt v 1) hk (Nat.le_refl _)
    have h5 := hv.2.2.2.2.2.1 p
    calc wF v p y k ≤ 100 ^ (ofP v p k + 1) := h2
      _ ≤ 100 ^ 7 := Nat.pow_le_pow_right (by omega) (by omega)
      _ < 2 ^ 63 := by decide
theorem c_takeL (hv : IV v) {p k : Nat} (hp : tb v 1 k 0 = p) (hk : k < cnt v 1) (hN : 1000 ≤ N) : ∀ d j n (c : Mem), RCb c 1 v → j + d = 161 → d < n → (∀ y, j ≤ y → y < 161 → rL c 32 y = lN (wK v p y k)) → ∃ c2, f_X2_take_L13 N n (nI k) (nI (tb v 1 k 4)) (nI j) c = some ((), c2) ∧ Sm1 (fun o => o = 32) c c2 ∧ (∀ y, j ≤ y → y < 161 → rL c2 32 y = lN (wK v p y (k + 1))) ∧ ∀ y, y < j → rL c2 32 y = rL c 32 y := by
  have b4 := (hv.2.1 k hk).2.2.2.2.1
  intro d
  induction d with
  | zero =>
    intro j n c h h1 h2 hw
    obtain ⟨n, rfl⟩ := suc_of h2
    refine ⟨c, ?_, Sm1.rf, fun y _ _ => by omega, fun _ _ => rfl⟩
    unfold f_X2_take_L13
    rw [kle161 (by omega), if_pos (by omega)]
  | succ d ih =>
    intro j n c h h1 h2 hw
    obtain ⟨n, rfl⟩ := suc_of h2
    have hj := hw j (Nat.le_refl _) (by omega)
    have hb := wK_le hv (p := p) (y := j) (k := k) (by omega) (by omega)
    have step : wK v p j (k + 1) = wK v p j k * (if spS v k j = true then 100 - tb v 1 k 4 else tb v 1 k 4) := by
      unfold wK
      split
      · rw [Nat.zero_mul]
      · rw [wF, if_pos hp]
    unfold f_X2_take_L13
    rw [kle161 (by omega), if_neg (by omega), gin_n (by omega) (by omega), nI_clamp (by omega), hj, eqL0 hb, gin_n (by omega) (by omega)]
    by_cases z0 : wK v p j k = 0
    · rw [if_pos z0]
      obtain ⟨c2, e1, e2, e3, e4⟩ := ih (j + 1) n c h (by omega) (by omega) (fun y hy hy2 => hw y (by omega) hy2)
      refine ⟨c2, ?_, e2, fun y hy hy2 => ?_, fun y hy => e4 y (by omega)⟩
      · unfold f_X2_take_j68
        rw [nI_1]
        exact e1
      · by_cases hyj : y = j
        · rw [hyj, e4 j (by omega), hj, step, z0, Nat.zero_mul]
        · exact e3 y (by omega) hy2
    · rw [if_neg z0, e_span h hv hk (by omega), bnd_s]
      have fin : ∀ x : Nat, wK v p j (k + 1) = wK v p j k * x → ∃ c2, f_X2_take_j66 N (f_X2_take_L13 N n) (nI k) (nI (tb v 1 k 4)) (nI j) (lN x) (lN (wK v p j k)) (nI j) c = some ((), c2) ∧ Sm1 (fun o => o = 32) c c2 ∧ (∀ y, j ≤ y → y < 161 → rL c2 32 y = lN (wK v p y (k + 1))) ∧ ∀ y, y < j → rL c2 32 y = rL c 32 y := by
        intro x hx
        obtain ⟨c2, e1, e2, e3, e4⟩ := ih (j + 1) n (wL c 32 j (lN (wK v p j k) * lN x)) (h.keep (fun _ _ _ _ => rfl)) (by omega) (by omega) (fun y hy hy2 => by rw [rL_w, if_neg (by omega)]; exact hw y (by omega) hy2)
        refine ⟨c2, ?_, (Sm1.wL (P := fun o => o = 32) rfl).tr e2, fun y hy hy2 => ?_, fun y hy => ?_⟩
        · unfold f_X2_take_j66 f_X2_take_j68
          rw [gin_n (by omega) (by omega), lt_e, nI_clamp (by omega), nI_1]
          exact e1
        · by_cases hyj : y = j
          · rw [hyj, e4 j (by omega), rL_w, if_pos ⟨rfl, rfl⟩, lN_mul, hx]
          · exact e3 y (by omega) hy2
        · rw [e4 y (by omega), rL_w, if_neg (by omega)]
      by_cases z1 : spS v k j = true
      · rw [if_pos z1] at step
        rw [if_pos z1, fac_n b4]
        exact fin _ step
      · rw [if_neg z1] at step
        rw [if_neg z1, nI_l (by omega)]
        exact fin _ step
theorem c_take (h : RCb c 1 v) (hv : IV v) {p k : Nat} (hp : tb v 1 k 0 = p) (hk : k < cnt v 1) (hN : 1000 ≤ N) (hw : ∀ y, y < 161 → rL c 32 y = lN (wK v p y k)) : ∃ c2, f_X2_take N (nI k) c = some ((), c2) ∧ Sm1 (fun o => o = 32) c c2 ∧ ∀ y, y < 161 → rL c2 32 y = lN (wK v p y (k + 1)) := by
  obtain ⟨c2, e1, e2, e3, -⟩ := c_takeL hv hp hk hN 161 0 N c h (by omega) (by omega) (fun y _ hy => hw y hy)
  refine ⟨c2, ?_, e2, fun y hy => e3 y (Nat.zero_le _) hy⟩
  unfold f_X2_take
  rw [g14 h hk, bnd_s]
  exact e1
theorem c_sumL (hv : IV v) (p : Nat) : ∀ d k n (c : Mem), k + d = 161 → d < n → (∀ y, y < 161 → rL c 32 y = lN (wS v p y)) → rL c 31 2 = lN (sumS v p k) → rI c 31 3 = (if besS v p k = 0 then -3 else nI (besS v p k - 1)) → ∃ c2, f_X2_sum_L15 N n (lN (topS v p k)) (nI k) c = some ((), c2) ∧ Sm1 (fun o => o = 31) c c2 ∧ (∀ y, y < 161 → rL c2 32 y = lN (wS v p y)) ∧ rI c2 31 1 = rI c 31 1 ∧ rL c2 31 2 = lN (allS v p) ∧ rI c2 31 3 = (if bestS v p = 0 then -3 else nI (bestS v p - 1)) := by
  intro d
  induction d with
  | zero =>
    intro k n c h1 h2 hw hs hb
    obtain ⟨n, rfl⟩ := suc_of h2
    have e : k = 161 := by omega
    refine ⟨c, ?_, Sm1.rf, hw, rfl, ?_, ?_⟩
    · unfold f_X2_sum_L15
      rw [kle161 (by omega), if_pos (by omega)]
    · rw [hs, e]; rfl
    · rw [hb, e]; rfl
  | succ d ih =>
    intro k n c h1 h2 hw hs hb
    obtain ⟨n, rfl⟩ := suc_of h2
    have t1 := top_le hv p k
    have t2 := w_le hv p k
    unfold f_X2_sum_L15
    rw [kle161 (by omega), if_neg (by omega), gin_n (by omega) (by omega), lt_e, gin_n (by omega) (by omega), nI_clamp (by omega), rL_ne (show (32 : Nat) ≠ 31 by decide), hw k (by omega), hs, ite_leL (by omega) (by omega), gin_n (by omega) (by omega), lt_e, lN_add]
    unfold f_X2_sum_j62
    rw [nI_1]
    have hi := fun c' => ih (k + 1) n c' (by omega) (by omega)
    rw [besS, topS, sumS] at hi
    by_cases z : topS v p k < wS v p k
    · simp only [if_pos z] at hi
      rw [if_neg (by omega)]
      obtain ⟨c2, e1, e2, e3, e4, e5, e6⟩ := hi (wI (wL c 31 2 (lN (sumS v p k + wS v p k))) 31 3 (nI k)) (fun y hy => by rw [rL_wI, rL_w, if_neg (by omega)]; exact hw y hy) (by rw [rL_wI, rL_w, if_pos ⟨rfl, rfl⟩]) (by rw [rI_w, if_pos ⟨rfl, rfl⟩, if_neg (by omega)]; rfl)
      exact ⟨c2, e1, ((Sm1.wL (P := fun o => o = 31) rfl).tr (Sm1.wI rfl)).tr e2, e3, by rw [e4, rI_w, if_neg (by omega), rI_wL], e5, e6⟩
    · simp only [if_neg z] at hi
      rw [if_pos (by omega)]
      obtain ⟨c2, e1, e2, e3, e4, e5, e6⟩ := hi (wL c 31 2 (lN (sumS v p k + wS v p k))) (fun y hy => by rw [rL_w, if_neg (by omega)]; exact hw y hy) (by rw [rL_w, if_pos ⟨rfl, rfl⟩]) (by rw [rI_wL]; exact hb)
      exact ⟨c2, e1, (Sm1.wL (P := fun o => o = 31) rfl).tr e2, e3, by rw [e4, rI_wL], e5, e6⟩
theorem c_sum (hv : IV v) {p : Nat} (hN : 1000 ≤ N) (hw : ∀ y, y < 161 → rL c 32 y = lN (wS v p y)) (hs : rI c 31 1 = nI (seenS v p)) : ∃ c2, f_X2_sum N c = some ((), c2) ∧ Sm1 (fun o => o = 31) c c2 ∧ WG c2 v p := by
  obtain ⟨c2, e1, e2, e3, e4, e5, e6⟩ := c_sumL (N := N) hv p 161 0 N (wI (wL c 31 2 0) 31 3 (-3)) (by omega) (by omega) (fun y hy => by rw [rL_wI, rL_w, if_neg (by omega)]; exact hw y hy) (by rw [rL_wI, rL_w, if_pos ⟨rfl, rfl⟩]; rfl) (by rw [rI_w, if_pos ⟨rfl, rfl⟩]; rfl)
  exact ⟨c2, e1, ((Sm1.wL (P := fun o => o = 31) rfl).tr (Sm1.wI rfl)).tr e2, e3, by rw [e4, rI_w, if_neg (by omega), rI_wL, hs], e5, e6⟩
theorem c_weighL (hv : IV v) {p : Nat} (hp : p < 2 ^ 31) (hN : 1000 ≤ N) : ∀ d k n (c : Mem), RCb c 1 v → rI c 31 1 = nI (seenS v p) → k + d = cnt v 1 → d < n → (∀ y, y < 161 → rL c 32 y = lN (wK v p y k)) → ∃ c2, f_X2_weigh_L17 N (f_X2_weigh_j49 N) n (nI p) (nI k) c = some ((), c2) ∧ Sm1 od c c2 ∧ WG c2 v p := by
  have b1 := hv.np
  intro d
  induction d with
  | zero =>
    intro k n c h hs h1 h2 hw
    obtain ⟨n, rfl⟩ := suc_of h2
    have e : k = cnt v 1 := by omega
    obtain ⟨c2, e1, e2, e3⟩ := c_sum (c := c) (N := N) hv (p := p) hN (fun y hy => by rw [hw y hy, e]; rfl) hs
    refine ⟨c2, ?_, e2.mono (fun o ho => Or.inl ho), e3⟩
    unfold f_X2_weigh_L17
    rw [ct1 h, le_t (by omega) (by omega)]
    unfold f_X2_weigh_j49
    rw [e1]
    rfl
  | succ d ih =>
    intro k n c h hs h1 h2 hw
    obtain ⟨n, rfl⟩ := suc_of h2
    have hk : k < cnt v 1 := by omega
    unfold f_X2_weigh_L17
    rw [ct1 h, le_f hk (by omega), e_isOf h hv hk hp, bnd_s]
    by_cases z : tb v 1 k 0 = p
    · rw [decide_eq_true z, ite_T]
      obtain ⟨c2, e1, e2, e3⟩ := c_take h hv z hk hN hw
      obtain ⟨c3, g1, g2, g3⟩ := ih (k + 1) n c2 (e2.RCb (fun o _ _ => by omega) h) (by rw [(e2 31 (by omega)).1]; exact hs) (by omega) (by omega) e3
      refine ⟨c3, ?_, (e2.mono (fun o ho => Or.inr ho)).tr g2, g3⟩
      rw [e1, bnd_s]
      unfold f_X2_weigh_j43
      rw [nI_1]
      exact g1
    · rw [decide_eq_false z, ite_F]
      obtain ⟨c3, g1, g2, g3⟩ := ih (k + 1) n c h hs (by omega) (by omega) (fun y hy => by rw [hw y hy]; unfold wK; rw [wF, if_neg z])
      refine ⟨c3, ?_, g2, g3⟩
      unfold f_X2_weigh_j43
      rw [nI_1]
      exact g1
theorem c_weigh (h : RCb c 1 v) (hv : IV v) {p : Nat} (hp : p < 2 ^ 31) (hN : 1000 ≤ N) : ∃ c2, f_X2_weigh N (nI p) c = some ((), c2) ∧ Sm1 od c c2 ∧ WG c2 v p := by
  have b1 := hv.np
  unfold f_X2_weigh
  rw [e_seen h hv hp hN, bnd_s, lt_e]
  obtain ⟨c2, e1, e2, e3⟩ := c_begin (c := wI c 31 1 (nI (seenS v p))) (h.keep (fun o k h1 h2 => rI_ne (by omega))) hv hp hN (by rw [rI_w, if_pos ⟨rfl, rfl⟩])
  have hs : rI c2 31 1 = nI (seenS v p) := by rw [(e2 31 (by omega)).1, rI_w, if_pos ⟨rfl, rfl⟩]
  have hc2 : RCb c2 1 v := (e2.RCb (fun o _ _ => by omega) (h.keep (fun o k h1 h2 => rI_ne (by omega))))
  obtain ⟨c3, g1, g2, g3⟩ := c_weighL hv hp hN (cnt v 1) 0 N c2 hc2 hs (by omega) (by omega) e3
  refine ⟨c3, ?_, ((Sm1.wI (P := od) (Or.inl rfl)).tr (e2.mono (fun o ho => Or.inr ho))).tr g2, g3⟩
  rw [e1, bnd_s]
  exact g1
-- what the odds tell
theorem o_upL {p : Nat} (hw : ∀ y, y < 161 → rL c 32 y = lN (wS v p y)) (e : Nat) (he : e ≤ 161) : ∀ d k n, k + d = e → d < n → ∀ z : Int32, z.toInt = (e : Int) - 1 → f_X2_upTo_L5 N n z (lN (sumS v p k)) (nI k) c = some (lN (sumS v p e), c) := by
  intro d
  induction d with
  | zero =>
    intro k n h1 h2 z hz
    obtain ⟨n, rfl⟩ := suc_of h2
    have e1 : k = e := by omega
    unfold f_X2_upTo_L5
    rw [if_pos (by rw [i32_lt, hz, tI (by omega)]; omega), e1]
  | succ d ih =>
    intro k n h1 h2 z hz
    obtain ⟨n, rfl⟩ := suc_of h2
    have hi := ih (k + 1) n (by omega) (by omega) z hz
    unfold f_X2_upTo_L5
    rw [if_neg (by rw [i32_lt, hz, tI (by omega)]; omega), kle161 (by omega), if_neg (by omega), gin_n (by omega) (by omega), nI_clamp (by omega), hw k (by omega), lN_add, nI_1]
    exact hi
theorem o_upTo {p : Nat} (hw : ∀ y, y < 161 → rL c 32 y = lN (wS v p y)) (hN : 1000 ≤ N) {e : Nat} (he : e ≤ 161) {z : Int32} (hz : z.toInt = (e : Int) - 1) : f_X2_upTo N z c = some (lN (sumS v p e), c) := o_upL hw e he e 0 N (by omega) (by omega) z hz
theorem o_upE (p : Nat) (hN : 1000 ≤ N) {z : Int32} (hz : z.toInt < 0) : f_X2_upTo N z c = some (lN 0, c) := by
  obtain ⟨n, rfl⟩ := suc_of (show 0 < N by omega)
  unfold f_X2_upTo f_X2_upTo_L5
  rw [if_pos (by rw [i32_lt]; exact hz)]
  rfl
theorem o_age {p : Nat} (h : WG c v p) (hv : IV v) (hN : 1000 ≤ N) {age : Nat} (ha : age < 1000) : f_X2_upTo N (rI c 31 1 - nI age) c = some (lN (sumS v p (upS v p age)), c) := by
  have b2 := seenS_le hv p
  unfold upS
  rw [h.2.1]
  by_cases z : age ≤ seenS v p
  · exact o_upTo h.1 hN (by omega) (by rw [tI_d (by omega) (by omega)]; omega)
  · rw [o_upE p hN (by rw [tI_d (by omega) (by omega)]; omega), show seenS v p + 1 - age = 0 by omega]
    rfl
theorem o_ofAge {p : Nat} (h : WG c v p) (hv : IV v) (hN : 1000 ≤ N) {age : Nat} (ha : age < 1000) : f_X2_ofAge N (nI age) c = some (lN (sumS v p (upS v p age)), c) := by
  unfold f_X2_ofAge
  rw [o_age h hv hN ha, bnd_s]
theorem o_of {p y : Nat} (h : WG c v p) (hy : y ≤ 160) : f_X2_of N (nI y) c = some (lN (wS v p y), c) := by
  unfold f_X2_of
  rw [lt0_f (by omega), kle161 (by omega), if_neg (by omega), gin_n (by omega) (by omega), nI_clamp (by omega), h.1 y (by omega)]
end ODD
