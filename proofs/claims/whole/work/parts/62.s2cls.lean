-- the class's reader as it goes
def CIr (c0 c : Mem) (e cs ss w op st lf sg nu : Nat) (tc ts : Nat → Nat → Nat) (W : Nat → Nat) : Prop :=
  (∀ o k, ¬ (36 ≤ o ∧ o ≤ 42) → rI c o k = rI c0 o k) ∧ (rI c 36 3 = 1 ∧ rI c 36 5 = nI e) ∧
  (TB c 37 3 6 cs ∧ ∀ r k, r < cs → k < 3 → rI c 38 (r * 3 + k) = nI (tc r k)) ∧
  (TB c 39 3 200 ss ∧ ∀ r k, r < ss → k < 3 → rI c 40 (r * 3 + k) = nI (ts r k)) ∧
  (rI c 41 1 = nI w ∧ ∀ i, i < w → rI c 42 i = nI (W i)) ∧
  (rI c 36 8 = nI op ∧ rI c 36 7 = nI st ∧ rI c 36 9 = nI lf ∧ rI c 36 10 = nI sg ∧ rI c 36 6 = nI nu)
def CLr (N j : Nat) (c : Mem) : Option (Int32 × Mem) := f_X7_readTape_L48 N (f_X7_readTape_j64 N) (N - j) (nI j) c
def KA (N j : Nat) (r : Bool) (s : Mem) : Option (Int32 × Mem) := if r = true then CLr N (j + 1) s else some (rI s 36 4, s)
def tpc (P : Nat → Bool) : Nat → Nat
  | 0 => 0
  | w + 1 => if P w = true then tpc P w + 1 else 0
theorem tpc_le (P : Nat → Bool) : ∀ w, tpc P w ≤ w := by
  intro w
  induction w with
  | zero => exact Nat.le_refl _
  | succ w ih => rw [tpc]; split <;> omega
theorem tpc_in (P : Nat → Bool) : ∀ w i, w - tpc P w ≤ i → i < w → P i = true := by
  intro w
  induction w with
  | zero => intro i _ h; omega
  | succ w ih =>
    intro i h1 h2
    rw [tpc] at h1
    by_cases z : P w = true
    · rw [if_pos z] at h1
      by_cases e : i = w
      · rw [e]; exact z
      · exact ih i (by omega) (by omega)
    · rw [if_neg z] at h1; omega
theorem tpc_end (P : Nat → Bool) : ∀ w, tpc P w < w → P (w - tpc P w - 1) = false := by
  intro w
  induction w with
  | zero => intro h; rw [tpc] at h; omega
  | succ w ih =>
    intro h
    rw [tpc] at h ⊢
    by_cases z : P w = true
    · rw [if_pos z] at h ⊢
      rw [show w + 1 - (tpc P w + 1) - 1 = w - tpc P w - 1 by omega]
      exact ih (by omega)
    · rw [if_neg z]
      exact no_t z
theorem tpc_add (P : Nat → Bool) : ∀ w z, z ≤ w → (∀ i, w - z ≤ i → i < w → P i = true) → tpc P w = z + tpc P (w - z) := by
  intro w z
  induction z generalizing w with
  | zero => intro _ _; rw [Nat.sub_zero, Nat.zero_add]
  | succ z ih =>
    intro h1 h2
    obtain ⟨w, rfl⟩ := suc_of (show 0 < w by omega)
    rw [tpc, if_pos (h2 w (by omega) (by omega)), ih w (by omega) (fun i h3 h4 => h2 i (by omega) (by omega)), show w + 1 - (z + 1) = w - z by omega]
    omega
theorem tpc_c (P Q : Nat → Bool) : ∀ w, (∀ i, i < w → P i = Q i) → tpc P w = tpc Q w := by
  intro w
  induction w with
  | zero => intro _; rfl
  | succ w ih => intro h; rw [tpc, tpc, h w (by omega), ih (fun i hi => h i (by omega))]
/-- what comes behind ss when the top of W is settled -/
def STL (ss w : Nat) (W : Nat → Nat) (ts : Nat → Nat → Nat) (r k : Nat) : Nat := if r < ss then ts r k else if k = 0 then W (w - 1 - (r - ss)) else 0
def adS (ss x y z : Nat) (ts : Nat → Nat → Nat) (r k : Nat) : Nat := if r = ss then (if k = 0 then x else if k = 1 then y else z) else ts r k
theorem STL_step (ss w : Nat) (W : Nat → Nat) (ts : Nat → Nat → Nat) : STL (ss + 1) w W (adS ss (W w) 0 0 ts) = STL ss (w + 1) W ts := by
  funext r k
  unfold STL adS
  by_cases a : r < ss
  · rw [if_pos (by omega), if_neg (by omega), if_pos a]
  · rw [if_neg a]
    by_cases b : r = ss
    · rw [if_pos (by omega), if_pos b, show w + 1 - 1 - (r - ss) = w by omega]
      by_cases d : k = 0
      · rw [if_pos d, if_pos d]
      · rw [if_neg d, if_neg d]; split <;> rfl
    · rw [if_neg (by omega), show w - 1 - (r - (ss + 1)) = w + 1 - 1 - (r - ss) by omega]
section CLS
variable {N : Nat} {c c0 m0 : Mem} {q e cs ss w op st lf sg nu : Nat} {tc ts : Nat → Nat → Nat} {W B : Nat → Nat}
theorem CIr.c36 {c2 : Mem} {e2 op2 st2 lf2 sg2 nu2 : Nat} (h : CIr c0 c e cs ss w op st lf sg nu tc ts W) (ho : ∀ o k, o ≠ 36 → rI c2 o k = rI c o k) (h3 : rI c2 36 3 = 1) (h5 : rI c2 36 5 = nI e2) (h8 : rI c2 36 8 = nI op2) (h7 : rI c2 36 7 = nI st2) (h9 : rI c2 36 9 = nI lf2) (h10 : rI c2 36 10 = nI sg2) (h6 : rI c2 36 6 = nI nu2) : CIr c0 c2 e2 cs ss w op2 st2 lf2 sg2 nu2 tc ts W := by
  obtain ⟨g1, g2, g3, g4, g5, g6⟩ := h
  refine ⟨fun o k hk => by rw [ho o k (by omega)]; exact g1 o k hk, ⟨h3, h5⟩, ⟨g3.1.keep (fun k => ho _ k (by omega)), fun r k hr hk => by rw [ho _ _ (by omega)]; exact g3.2 r k hr hk⟩, ⟨g4.1.keep (fun k => ho _ k (by omega)), fun r k hr hk => by rw [ho _ _ (by omega)]; exact g4.2 r k hr hk⟩, ⟨by rw [ho _ _ (by omega)]; exact g5.1, fun i hi => by rw [ho _ _ (by omega)]; exact g5.2 i hi⟩, h8, h7, h9, h10, h6⟩
theorem CIr.w36 {c2 : Mem} (h : CIr c0 c e cs ss w op st lf sg nu tc ts W) (ho : ∀ k, rI c2 36 k = rI c 36 k) : rI c2 36 3 = 1 ∧ rI c2 36 5 = nI e ∧ rI c2 36 8 = nI op ∧ rI c2 36 7 = nI st ∧ rI c2 36 9 = nI lf ∧ rI c2 36 10 = nI sg ∧ rI c2 36 6 = nI nu := by
  obtain ⟨g1, g2, g3, g4, g5, g6, g7, g8, g9, g10⟩ := h
  exact ⟨by rw [ho]; exact g2.1, by rw [ho]; exact g2.2, by rw [ho]; exact g6, by rw [ho]; exact g7, by rw [ho]; exact g8, by rw [ho]; exact g9, by rw [ho]; exact g10⟩
theorem c_nx (tp : TAP c0 m0 q B) (h : CIr c0 c e cs ss w op st lf sg nu tc ts W) (he : e ≤ q) (hN : 1000 ≤ N) : ∃ c2, f_X7_nextToken N c = some (nI (tkn B q e), c2) ∧ rI c2 36 4 = nI (tkF B q e) ∧ CIr c0 c2 (tnx B q e) cs ss w op st lf sg (if tkn B q e = 1 then nmb B q e else nu) tc ts W := by
  obtain ⟨g1, g2, g3, g4, g5, g6, g7, g8, g9, g10⟩ := id h
  obtain ⟨c2, e1, e2, e3, e4, e5, e6⟩ := c_next (N := N) (tp.kc (fun k => g1 43 k (by omega)) (fun k => g1 44 k (by omega))) g2.1 g2.2 he hN
  refine ⟨c2, e1, e2, h.c36 (fun o k ho => e6 o k (by omega)) (by rw [e6 _ _ (by omega)]; exact g2.1) e3 (by rw [e6 _ _ (by omega)]; exact g6) (by rw [e6 _ _ (by omega)]; exact g7) (by rw [e6 _ _ (by omega)]; exact g8) (by rw [e6 _ _ (by omega)]; exact g9) ?_⟩
  by_cases z : tkn B q e = 1
  · rw [if_pos z]; exact e4 z
  · rw [if_neg z, e5 z]; exact g10
theorem cl_step {j : Nat} (tp : TAP c0 m0 q B) (h : CIr c0 c e cs ss w op st lf sg nu tc ts W) (he : e ≤ q) (hj : j ≤ e) (hN : 1000 ≤ N) : ∃ c2, rI c2 36 4 = nI (tkF B q e) ∧ CIr c0 c2 (tnx B q e) cs ss w op st lf sg (if tkn B q e = 1 then nmb B q e else nu) tc ts W ∧ CLr N j c = if tkn B q e = 0 then f_X7_readTape_j64 N c2 else bnd (f_X7_isAccepted N (nI (tkn B q e)) c2) (KA N j) := by
  have hq := tp.1
  have tb := tkn_b (B := B) (q := q) e
  obtain ⟨c2, e1, e2, e3⟩ := c_nx (N := N) tp h he hN
  refine ⟨c2, e2, e3, ?_⟩
  unfold CLr
  rw [show N - j = (N - (j + 1)) + 1 by omega]
  unfold f_X7_readTape_L48
  rw [klt200 (by omega), if_neg (by omega), e1, bnd_s, ek0 (by omega), nI_1]
  rfl
theorem c_addStep (h : CIr c0 c e cs ss w op st lf sg nu tc ts W) (hs : ss < 200) (x y z : Nat) (hN : 1000 ≤ N) : ∃ c2, f_X7_addStep N (nI x) (nI y) (nI z) c = some ((), c2) ∧ CIr c0 c2 e cs (ss + 1) w op st lf sg nu tc (adS ss x y z ts) W ∧ ∀ k, rI c2 36 k = rI c 36 k := by
  obtain ⟨g1, g2, g3, g4, g5, g6⟩ := id h
  have t1 := g4.1.addT hs
  have s0 : ∀ {s : Mem} (t : TB s 39 3 200 (ss + 1)) (v : Int32), f_X5_set N 39 (nI ss) 0 v s = some ((), wI s 40 (ss * 3 + 0) v) := fun t v => th_set t (k := 0) (by omega) (by decide) v
  have s1 : ∀ {s : Mem} (t : TB s 39 3 200 (ss + 1)) (v : Int32), f_X5_set N 39 (nI ss) 1 v s = some ((), wI s 40 (ss * 3 + 1) v) := fun t v => th_set t (k := 1) (by omega) (by decide) v
  have s2 : ∀ {s : Mem} (t : TB s 39 3 200 (ss + 1)) (v : Int32), f_X5_set N 39 (nI ss) 2 v s = some ((), wI s 40 (ss * 3 + 2) v) := fun t v => th_set t (k := 2) (by omega) (by decide) v
  have t2 : TB (wI (addM c 39 3 ss) 40 (ss * 3 + 0) (nI x)) 39 3 200 (ss + 1) := t1.setC _ _
  have t3 : TB (wI (wI (addM c 39 3 ss) 40 (ss * 3 + 0) (nI x)) 40 (ss * 3 + 1) (nI y)) 39 3 200 (ss + 1) := t2.setC _ _
  have R : ∀ o k, o ≠ 39 → o ≠ 40 → rI (wI (wI (wI (addM c 39 3 ss) 40 (ss * 3 + 0) (nI x)) 40 (ss * 3 + 1) (nI y)) 40 (ss * 3 + 2) (nI z)) o k = rI c o k := fun o k h1 h2 => by
    rw [rI_ne h2, rI_ne h2, rI_ne h2, rI_addM, if_neg (by omega), if_neg (by omega)]
  refine ⟨wI (wI (wI (addM c 39 3 ss) 40 (ss * 3 + 0) (nI x)) 40 (ss * 3 + 1) (nI y)) 40 (ss * 3 + 2) (nI z), ?_, ⟨fun o k hk => by rw [R o k (by omega) (by omega)]; exact g1 o k hk, ⟨by rw [R _ _ (by omega) (by omega)]; exact g2.1, by rw [R _ _ (by omega) (by omega)]; exact g2.2⟩, ⟨g3.1.keep (fun k => R _ k (by omega) (by omega)), fun r k hr hk => by rw [R _ _ (by omega) (by omega)]; exact g3.2 r k hr hk⟩, ⟨t3.setC _ _, fun r k hr hk => ?_⟩, ⟨by rw [R _ _ (by omega) (by omega)]; exact g5.1, fun i hi => by rw [R _ _ (by omega) (by omega)]; exact g5.2 i hi⟩, by rw [R _ _ (by omega) (by omega)]; exact g6.1, by rw [R _ _ (by omega) (by omega)]; exact g6.2.1, by rw [R _ _ (by omega) (by omega)]; exact g6.2.2.1, by rw [R _ _ (by omega) (by omega)]; exact g6.2.2.2.1, by rw [R _ _ (by omega) (by omega)]; exact g6.2.2.2.2⟩, fun k => R _ k (by omega) (by omega)⟩
  · unfold f_X7_addStep
    rw [th_add g4.1 hs (by omega), bnd_s, s0 t1, bnd_s, s1 t2, bnd_s, s2 t3, bnd_s]
  · unfold adS
    rw [rI_w, rI_w, rI_w, rI_addM]
    by_cases a : r = ss
    · rw [if_pos a]
      have cs3 : k = 0 ∨ k = 1 ∨ k = 2 := by omega
      rcases cs3 with rfl | rfl | rfl
      · rw [if_neg (by omega), if_neg (by omega), if_pos ⟨rfl, by omega⟩, if_pos rfl]
      · rw [if_neg (by omega), if_pos ⟨rfl, by omega⟩, if_neg (by decide), if_pos rfl]
      · rw [if_pos ⟨rfl, by omega⟩, if_neg (by decide), if_neg (by decide)]
    · rw [if_neg (by omega), if_neg (by omega), if_neg (by omega), if_neg (by omega), if_neg (by omega), if_neg a]
      exact g4.2 r k (by omega) hk
theorem l42 : ln (41 + 1) = 200 := rfl
theorem c_push (h : CIr c0 c e cs ss w op st lf sg nu tc ts W) (hw : w < 200) (x : Nat) : ∃ c2, f_X3_push N 41 (nI x) c = some ((), c2) ∧ CIr c0 c2 e cs ss (w + 1) op st lf sg nu tc ts (fun i => if i = w then x else W i) ∧ ∀ k, rI c2 36 k = rI c 36 k := by
  obtain ⟨g1, g2, g3, g4, g5, g6⟩ := id h
  have R : ∀ o k, o ≠ 41 → o ≠ 42 → rI (wI (wI c 42 w (nI x)) 41 1 (nI (w + 1))) o k = rI c o k := fun o k h1 h2 => by rw [rI_ne h1, rI_ne h2]
  refine ⟨wI (wI c 42 w (nI x)) 41 1 (nI (w + 1)), p_push g5.1 (by rw [l42]; exact hw) (by decide) _, ⟨fun o k hk => by rw [R o k (by omega) (by omega)]; exact g1 o k hk, ⟨by rw [R _ _ (by omega) (by omega)]; exact g2.1, by rw [R _ _ (by omega) (by omega)]; exact g2.2⟩, ⟨g3.1.keep (fun k => R _ k (by omega) (by omega)), fun r k hr hk => by rw [R _ _ (by omega) (by omega)]; exact g3.2 r k hr hk⟩, ⟨g4.1.keep (fun k => R _ k (by omega) (by omega)), fun r k hr hk => by rw [R _ _ (by omega) (by omega)]; exact g4.2 r k hr hk⟩, ⟨by rw [rI_w, if_pos ⟨rfl, rfl⟩], fun i hi => ?_⟩, by rw [R _ _ (by omega) (by omega)]; exact g6.1, by rw [R _ _ (by omega) (by omega)]; exact g6.2.1, by rw [R _ _ (by omega) (by omega)]; exact g6.2.2.1, by rw [R _ _ (by omega) (by omega)]; exact g6.2.2.2.1, by rw [R _ _ (by omega) (by omega)]; exact g6.2.2.2.2⟩, fun k => R _ k (by omega) (by omega)⟩
  rw [rI_ne (by decide), rI_w]
  show _ = nI (if i = w then x else W i)
  by_cases a : i = w
  · rw [if_pos ⟨rfl, a⟩, if_pos a]
  · rw [if_neg (fun z => a z.2), if_neg a]
    exact g5.2 i (by omega)
theorem c_top (h : CIr c0 c e cs ss (w + 1) op st lf sg nu tc ts W) (hw : w < 200) : f_X3_top N 41 c = some (nI (W w), c) := by
  obtain ⟨g1, g2, g3, g4, g5, g6⟩ := id h
  unfold f_X3_top
  rw [g5.1, lek0 (by omega), if_neg (by omega), l42, lt_f (by omega) (by omega), nI_pred, gin_n (by omega) (by decide), nI_clamp (by omega), g5.2 w (by omega)]
theorem c_top0 (h : CIr c0 c e cs ss 0 op st lf sg nu tc ts W) : f_X3_top N 41 c = some (0, c) := by
  obtain ⟨g1, g2, g3, g4, g5, g6⟩ := id h
  unfold f_X3_top
  rw [g5.1, lek0 (by omega), if_pos (by omega)]
theorem c_pop (h : CIr c0 c e cs ss (w + 1) op st lf sg nu tc ts W) (hw : w < 200) : ∃ c2, f_X3_pop N 41 c = some (nI (W w), c2) ∧ CIr c0 c2 e cs ss w op st lf sg nu tc ts W ∧ ∀ k, rI c2 36 k = rI c 36 k := by
  obtain ⟨g1, g2, g3, g4, g5, g6⟩ := id h
  have R : ∀ o k, o ≠ 41 → rI (wI c 41 1 (nI w)) o k = rI c o k := fun o k h1 => by rw [rI_ne h1]
  refine ⟨wI c 41 1 (nI w), ?_, ⟨fun o k hk => by rw [R o k (by omega)]; exact g1 o k hk, ⟨by rw [R _ _ (by omega)]; exact g2.1, by rw [R _ _ (by omega)]; exact g2.2⟩, ⟨g3.1.keep (fun k => R _ k (by omega)), fun r k hr hk => by rw [R _ _ (by omega)]; exact g3.2 r k hr hk⟩, ⟨g4.1.keep (fun k => R _ k (by omega)), fun r k hr hk => by rw [R _ _ (by omega)]; exact g4.2 r k hr hk⟩, ⟨by rw [rI_w, if_pos ⟨rfl, rfl⟩], fun i hi => by rw [R _ _ (by omega)]; exact g5.2 i (by omega)⟩, by rw [R _ _ (by omega)]; exact g6.1, by rw [R _ _ (by omega)]; exact g6.2.1, by rw [R _ _ (by omega)]; exact g6.2.2.1, by rw [R _ _ (by omega)]; exact g6.2.2.2.1, by rw [R _ _ (by omega)]; exact g6.2.2.2.2⟩, fun k => R _ k (by omega)⟩
  unfold f_X3_pop
  rw [g5.1, lek0 (by omega), if_neg (by omega), l42, le_t (by omega) (by decide), lt_e, nI_pred, rI_w, if_pos ⟨rfl, rfl⟩, gin_n (by omega) (by decide), nI_clamp (by omega), rI_ne (by decide), g5.2 w (by omega)]
end CLS
/-- whether what waits at i is settled by a token -/
def stPr (W : Nat → Nat) (tok i : Nat) : Bool := decide (W i ≠ 14 ∧ tok ≤ W i)
section CLS2
variable {N : Nat} {c0 m0 : Mem} {q e cs op st lf sg nu : Nat} {tc : Nat → Nat → Nat} {W B : Nat → Nat}
theorem c_settleL {tok : Nat} (ht : 0 < tok) (ht2 : tok < 2 ^ 31) (hN : 1000 ≤ N) : ∀ w i n ss ts c, CIr c0 c e cs ss w op st lf sg nu tc ts W → i + w ≤ 200 → w < n → ss + w ≤ 200 → (∀ i, i < w → W i ≤ 14) → ∃ c2, f_X7_settle_L2 N n (nI tok) (nI i) c = some ((), c2) ∧ CIr c0 c2 e cs (ss + tpc (stPr W tok) w) (w - tpc (stPr W tok) w) op st lf sg nu tc (STL ss w W ts) W ∧ ∀ k, rI c2 36 k = rI c 36 k := by
  have nop : ∀ w ss ts c, CIr c0 c e cs ss w op st lf sg nu tc ts W → CIr c0 c e cs ss w op st lf sg nu tc (STL ss w W ts) W := by
    intro w ss ts c h
    obtain ⟨g1, g2, g3, g4, g5, g6⟩ := id h
    refine ⟨g1, g2, g3, ⟨g4.1, fun r k hr hk => ?_⟩, g5, g6⟩
    unfold STL
    rw [if_pos hr]
    exact g4.2 r k hr hk
  intro w
  induction w with
  | zero =>
    intro i n ss ts c h h1 h2 h3 h4
    obtain ⟨n, rfl⟩ := suc_of h2
    refine ⟨c, ?_, nop _ _ _ _ h, fun _ => rfl⟩
    have e200 : ∀ X Y : Option (Unit × Mem), (if 200 ≤ nI i then X else Y) = if 200 ≤ i then X else Y := fun X Y => ite_le (a := 200) (by decide) (by omega)
    have et : ∀ X Y : Option (Unit × Mem), (if nI tok ≤ 0 then X else Y) = Y := fun X Y => le_f (b := 0) ht ht2
    unfold f_X7_settle_L2
    rw [e200, c_top0 h, bnd_s, et]
    repeat' split
    all_goals rfl
  | succ w ih =>
    intro i n ss ts c h h1 h2 h3 h4
    obtain ⟨n, rfl⟩ := suc_of h2
    have b := h4 w (by omega)
    have e14 : ∀ X Y : Option (Unit × Mem), (if nI (W w) = 14 then X else Y) = if W w = 14 then X else Y := fun X Y => ite_eq (b := 14) (by omega) (by decide)
    have e200 : ∀ X Y : Option (Unit × Mem), (if 200 ≤ nI i then X else Y) = if 200 ≤ i then X else Y := fun X Y => ite_le (a := 200) (by decide) (by omega)
    unfold f_X7_settle_L2
    rw [e200, if_neg (by omega), c_top h (by omega), bnd_s, e14, ite_le ht2 (by omega), tpc]
    by_cases z : W w = 14
    · have sp : stPr W tok w = false := decide_eq_false (fun g => g.1 z)
      rw [if_pos z, sp, if_neg (by decide)]
      exact ⟨c, rfl, nop _ _ _ _ h, fun _ => rfl⟩
    · rw [if_neg z]
      by_cases y : tok ≤ W w
      · have sp : stPr W tok w = true := decide_eq_true ⟨z, y⟩
        obtain ⟨c1, e1, e2, e3⟩ := c_pop (N := N) h (by omega)
        obtain ⟨c2, f1, f2, f3⟩ := c_addStep (N := N) e2 (by omega) (W w) 0 0 hN
        obtain ⟨c3, k1, k2, k3⟩ := ih (i + 1) n (ss + 1) _ c2 f2 (by omega) (by omega) (by omega) (fun i hi => h4 i (by omega))
        rw [if_pos y, e1, bnd_s, show (0 : Int32) = nI 0 from rfl, f1, bnd_s, nI_1, k1, sp, if_pos rfl]
        have tl := tpc_le (stPr W tok) w
        rw [STL_step] at k2
        rw [show ss + 1 + tpc (stPr W tok) w = ss + (tpc (stPr W tok) w + 1) by omega] at k2
        rw [show w + 1 - (tpc (stPr W tok) w + 1) = w - tpc (stPr W tok) w by omega]
        exact ⟨c3, rfl, k2, fun k => by rw [k3, f3, e3]⟩
      · have sp : stPr W tok w = false := decide_eq_false (fun g => y g.2)
        rw [if_neg y, sp, if_neg (by decide)]
        exact ⟨c, rfl, nop _ _ _ _ h, fun _ => rfl⟩
theorem c_settle {c : Mem} {w ss tok : Nat} {ts : Nat → Nat → Nat} (h : CIr c0 c e cs ss w op st lf sg nu tc ts W) (ht : 0 < tok) (ht2 : tok < 2 ^ 31) (hN : 1000 ≤ N) (h3 : ss + w ≤ 200) (h4 : ∀ i, i < w → W i ≤ 14) : ∃ c2, f_X7_settle N (nI tok) c = some ((), c2) ∧ CIr c0 c2 e cs (ss + tpc (stPr W tok) w) (w - tpc (stPr W tok) w) op st lf sg nu tc (STL ss w W ts) W ∧ ∀ k, rI c2 36 k = rI c 36 k :=
  c_settleL ht ht2 hN w 0 N ss ts c h (by omega) (by omega) h3 h4
end CLS2
