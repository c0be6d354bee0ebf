-- the model's reader as it goes
def MFr (m0 m : Mem) : Prop := (∀ o k, ¬ (o = 61 ∧ 18 ≤ k ∧ k ≤ 28) → ¬ (73 ≤ o ∧ o ≤ 76) → rI m o k = rI m0 o k) ∧ ∀ o k, ¬ (o = 61 ∧ k = 21) → rL m o k = rL m0 o k
theorem MFr.of {m0 m m2 : Mem} (h : MFr m0 m) (hi : ∀ o k, ¬ (o = 61 ∧ 18 ≤ k ∧ k ≤ 28) → ¬ (73 ≤ o ∧ o ≤ 76) → rI m2 o k = rI m o k) (hl : ∀ o k, ¬ (o = 61 ∧ k = 21) → rL m2 o k = rL m o k) : MFr m0 m2 :=
  ⟨fun o k h1 h2 => by rw [hi o k h1 h2]; exact h.1 o k h1 h2, fun o k h1 => by rw [hl o k h1]; exact h.2 o k h1⟩
theorem MFr.tap {c0 m0 m : Mem} {q : Nat} {B : Nat → Nat} (h : MFr m0 m) (tp : TAP c0 m0 q B) : TAP c0 m q B := tp.km (h.1 61 17 (by omega) (by omega)) (fun k => h.1 72 k (by omega) (by omega))
theorem MT.keep {m m2 : Mem} {q e : Nat} {B : Nat → Nat} (t : MT m q B e) (hi : ∀ k, 18 ≤ k → k ≤ 20 → rI m2 61 k = rI m 61 k) (hl : rL m2 61 21 = rL m 61 21) : MT m2 q B e :=
  ⟨by rw [hi _ (by omega) (by omega)]; exact t.1, by rw [hi _ (by omega) (by omega)]; exact t.2.1, by rw [hi _ (by omega) (by omega)]; exact t.2.2.1, by rw [hl]; exact t.2.2.2⟩
/-- whether the model settles what it holds at i -/
def mPr (m : Mem) (a : Int32) (i : Nat) : Bool := decide (rI m 74 i ≠ 10 ∧ ¬ a < rI m 74 i)
def sgnW (x : Nat) : Nat := if x = 14 then 10 else sgnJ x
section MDL
variable {N : Nat} {c m c0 m0 : Mem} {q e : Nat} {B : Nat → Nat}
theorem m_emit {x : Nat} (h : rI m 61 27 = nI x) (hx : x < 210) (a : Int32) : f_X9_emit N a m = some ((), wI (wI m 73 x a) 61 27 (nI (x + 1))) := by
  unfold f_X9_emit
  rw [h, gn hx, lt_e, nI_clamp (by omega), r61 (by decide), h, lt_e, nI_1]
theorem want_g (h : rI m 61 22 = -1) : f_X9_want N true m = bnd (f_X9_advance N m) fun _ s3 => some ((), s3) := by
  unfold f_X9_want f_X9_isGood
  rw [h, if_neg (by decide), bnd_s, if_pos rfl, if_pos rfl]
theorem want_f (h : rI m 61 22 = -1) : f_X9_want N false m = some ((), wI m 61 22 (rI m 61 19)) := by
  unfold f_X9_want f_X9_isGood f_X9_faulty
  rw [h, if_neg (by decide), bnd_s, if_pos rfl, if_neg (by decide), h, if_neg (by decide), lt_e, bnd_s]
theorem good_t (h : rI m 61 22 = -1) : f_X9_isGood N m = some (true, m) := by
  unfold f_X9_isGood
  rw [h, if_neg (by decide)]
theorem good_f {p : Nat} (h : rI m 61 22 = nI p) (hp : p ≤ 200) : f_X9_isGood N m = some (false, m) := by
  unfold f_X9_isGood
  rw [h, kle0 (by omega), if_pos (by omega)]
theorem want_b {p : Nat} (h : rI m 61 22 = nI p) (hp : p ≤ 200) (b : Bool) : f_X9_want N b m = some ((), m) := by
  unfold f_X9_want
  rw [good_f h hp, bnd_s, if_neg (by decide)]
theorem m_settleL (a : Int32) : ∀ h n x m, rI m 61 28 = nI h → rI m 61 27 = nI x → x + h ≤ 205 → h < n → ∃ m2, f_X9_settle_L0 N n a m = some ((), m2) ∧ rI m2 61 28 = nI (h - tpc (mPr m a) h) ∧ rI m2 61 27 = nI (x + tpc (mPr m a) h) ∧ (∀ i, i < tpc (mPr m a) h → rI m2 73 (x + i) = rI m 74 (h - 1 - i)) ∧ (∀ o k, ¬ (o = 61 ∧ 27 ≤ k ∧ k ≤ 28) → ¬ (o = 73 ∧ x ≤ k) → rI m2 o k = rI m o k) ∧ (∀ o k, rL m2 o k = rL m o k) := by
  intro h
  induction h with
  | zero =>
    intro n x m h1 h2 h3 h4
    obtain ⟨n, rfl⟩ := suc_of h4
    refine ⟨m, ?_, h1, h2, fun i hi => absurd hi (by rw [tpc]; omega), fun _ _ _ _ => rfl, fun _ _ => rfl⟩
    unfold f_X9_settle_L0
    rw [h1, lek0 (by omega), if_pos (by omega)]
  | succ h ih =>
    intro n x m h1 h2 h3 h4
    obtain ⟨n, rfl⟩ := suc_of h4
    have e28' : rI (wI m 61 28 (nI h)) 61 28 = nI h := by rw [rI_w, if_pos ⟨rfl, rfl⟩]
    unfold f_X9_settle_L0
    rw [h1, lek0 (by omega), if_neg (by omega), nI_pred, gn (by omega), nI_clamp (by omega), gn (by omega), lt_e, e28', gn (by omega), nI_clamp (by omega), rI_ne (show (74 : Nat) ≠ 61 by decide), tpc]
    by_cases z : rI m 74 h = 10
    · have sp : mPr m a h = false := decide_eq_false (fun g => g.1 z)
      rw [if_pos z, sp, if_neg (by decide)]
      exact ⟨m, rfl, h1, h2, fun i hi => absurd hi (by omega), fun _ _ _ _ => rfl, fun _ _ => rfl⟩
    · rw [if_neg z]
      by_cases y : a < rI m 74 h
      · have sp : mPr m a h = false := decide_eq_false (fun g => g.2 y)
        rw [if_pos y, sp, if_neg (by decide)]
        exact ⟨m, rfl, h1, h2, fun i hi => absurd hi (by omega), fun _ _ _ _ => rfl, fun _ _ => rfl⟩
      · have sp : mPr m a h = true := decide_eq_true ⟨z, y⟩
        have e28 : rI (wI m 61 28 (nI h)) 61 27 = nI x := by rw [rI_w, if_neg (by omega)]; exact h2
        rw [if_neg y, sp, if_pos rfl, m_emit e28 (by omega), bnd_s]
        have R : ∀ o k, ¬ (o = 61 ∧ 27 ≤ k ∧ k ≤ 28) → ¬ (o = 73 ∧ k = x) → rI (wI (wI (wI m 61 28 (nI h)) 73 x (rI m 74 h)) 61 27 (nI (x + 1))) o k = rI m o k := fun o k w1 w2 => by
          rw [rI_w, if_neg (by omega), rI_w, if_neg w2, rI_w, if_neg (by omega)]
        have eP : tpc (mPr (wI (wI (wI m 61 28 (nI h)) 73 x (rI m 74 h)) 61 27 (nI (x + 1))) a) h = tpc (mPr m a) h := tpc_c _ _ h (fun i _ => by unfold mPr; rw [R 74 i (by omega) (by omega)])
        obtain ⟨m2, f1, f2, f3, f4, f5, f6⟩ := ih n (x + 1) (wI (wI (wI m 61 28 (nI h)) 73 x (rI m 74 h)) 61 27 (nI (x + 1))) (by rw [rI_w, if_neg (by omega), rI_ne (by decide), rI_w, if_pos ⟨rfl, rfl⟩]) (by rw [rI_w, if_pos ⟨rfl, rfl⟩]) (by omega) (by omega)
        rw [eP] at f2 f3 f4
        have tl := tpc_le (mPr m a) h
        refine ⟨m2, f1, by rw [f2]; congr 1; omega, by rw [f3]; congr 1; omega, fun i hi => ?_, fun o k w1 w2 => by rw [f5 o k w1 (by omega)]; exact R o k w1 (by omega), fun o k => by rw [f6]; rfl⟩
        by_cases e0 : i = 0
        · rw [e0, Nat.add_zero, f5 73 x (by omega) (by omega), rI_ne (by decide), rI_w, if_pos ⟨rfl, rfl⟩]; rfl
        · have := f4 (i - 1) (by omega)
          rw [show x + 1 + (i - 1) = x + i by omega, R 74 _ (by omega) (by omega)] at this
          rw [this]; congr 1; omega
theorem m_settle {x h : Nat} (a : Int32) (h1 : rI m 61 28 = nI h) (h2 : rI m 61 27 = nI x) (h3 : x + h ≤ 205) (hN : 1000 ≤ N) : ∃ m2, f_X9_settle N a m = some ((), m2) ∧ rI m2 61 28 = nI (h - tpc (mPr m a) h) ∧ rI m2 61 27 = nI (x + tpc (mPr m a) h) ∧ (∀ i, i < tpc (mPr m a) h → rI m2 73 (x + i) = rI m 74 (h - 1 - i)) ∧ (∀ o k, ¬ (o = 61 ∧ 27 ≤ k ∧ k ≤ 28) → ¬ (o = 73 ∧ x ≤ k) → rI m2 o k = rI m o k) ∧ (∀ o k, rL m2 o k = rL m o k) :=
  m_settleL a h N x m h1 h2 h3 (by omega)
/-- behind a fault: what the model goes on doing changes nothing that lasts -/
def BD (m0 m : Mem) (p : Nat) : Prop := MFr m0 m ∧ rI m 61 22 = nI p ∧ p ≤ 200 ∧ ∃ x h, rI m 61 27 = nI x ∧ rI m 61 28 = nI h ∧ x + h ≤ 205
theorem bd_settle {p : Nat} (b : BD m0 m p) (a : Int32) (hN : 1000 ≤ N) : ∃ m2, f_X9_settle N a m = some ((), m2) ∧ BD m0 m2 p := by
  obtain ⟨b1, b2, b3, x, h, b4, b5, b6⟩ := b
  obtain ⟨m2, e1, e2, e3, e4, e5, e6⟩ := m_settle (N := N) a b5 b4 b6 hN
  have tl := tpc_le (mPr m a) h
  exact ⟨m2, e1, b1.of (fun o k w1 w2 => e5 o k (by omega) (by omega)) (fun o k _ => e6 o k), by rw [e5 _ _ (by omega) (by omega)]; exact b2, b3, _, _, e3, e2, by omega⟩
/-- the class behind a fault -/
def CBr (c0 c : Mem) : Prop := (∀ o k, ¬ (36 ≤ o ∧ o ≤ 42) → rI c o k = rI c0 o k) ∧ SHP c
def OUTB (N j : Nat) (c0 m0 c m2 : Mem) : Prop := ∃ p c', CLr N j c = some (nI p, c') ∧ CBr c0 c' ∧ BD m0 m2 p
theorem CIr.cb {cs ss w op st lf sg nu : Nat} {tc ts : Nat → Nat → Nat} {W : Nat → Nat} (h : CIr c0 c e cs ss w op st lf sg nu tc ts W) (hn : nu < 1000) : CBr c0 c := by
  obtain ⟨g1, g2, g3, g4, g5, g6, g7, g8, g9, g10⟩ := h
  exact ⟨g1, g3.1.1, g3.1.2.1, g4.1.1, g4.1.2.1, nu, hn, g10⟩
theorem pos_c {t u : Nat → Nat → Nat} : ∀ k, (∀ r, r < k → u r 0 = t r 0) → pos u k = pos t k := by
  intro k
  induction k with
  | zero => intro _; rfl
  | succ k ih => intro h; rw [pos, pos, h k (by omega), ih (fun r hr => h r (by omega))]
theorem dp_c {t u : Nat → Nat → Nat} {a : Nat} : ∀ n, (∀ r, r < a + n → u r 0 = t r 0) → dp u a n = dp t a n := by
  intro n
  induction n with
  | zero => intro _; rfl
  | succ n ih => intro h; rw [dp, dp, h (a + n) (by omega), ih (fun r hr => h r (by omega))]
/-- the signs of a step lie where they must -/
def LYk (m : Mem) (ts : Nat → Nat → Nat) (k : Nat) : Prop := if joint (ts k 0) = true then rI m 73 (pos ts k) = nI (sgnJ (ts k 0)) else (rI m 73 (pos ts k) = nI (sgnV (ts k 1)) ∧ rI m 73 (pos ts k + 1) = nI (sgnV (ts k 2)) ∧ rI m 73 (pos ts k + 2) = nI (sgnC (ts k 0)))
/-- the clauses that are done, and all steps so far -/
def DNr (m : Mem) (n : Nat) (tc ts : Nat → Nat → Nat) (ss : Nat) : Prop :=
  (∀ r, r < n → rI m 75 r = nI (pos ts (tc r 2)) ∧ rI m 76 r = nI (tc r 0) ∧ tc r 0 ≤ 1 ∧ tc r 1 ≤ tc r 2 ∧ tc r 2 ≤ ss ∧ tc r 1 = (if r = 0 then 0 else tc (r - 1) 2) ∧ dp ts (tc r 1) (tc r 2 - tc r 1) = 2) ∧ ∀ k, k < ss → stepOK ts k ∧ LYk m ts k
theorem LYk.keep {m2 : Mem} {t u : Nat → Nat → Nat} {k : Nat} (h : LYk m t k) (hu : ∀ r x, r ≤ k → u r x = t r x) (hm : ∀ i, i < pos t (k + 1) → rI m2 73 i = rI m 73 i) : LYk m2 u k := by
  have ep : pos u k = pos t k := pos_c k (fun r hr => hu r 0 (by omega))
  unfold LYk at h ⊢
  rw [ep, hu k 0 (by omega), hu k 1 (by omega), hu k 2 (by omega)]
  rw [pos] at hm
  by_cases j : joint (t k 0) = true
  · rw [if_pos j] at h hm ⊢
    rw [hm _ (by omega)]; exact h
  · rw [if_neg j] at h hm ⊢
    rw [hm _ (by omega), hm _ (by omega), hm _ (by omega)]; exact h
theorem DNr.keep {m2 : Mem} {n ss : Nat} {tc t u : Nat → Nat → Nat} (h : DNr m n tc t ss) (hu : ∀ r x, r < ss → u r x = t r x) (hm : ∀ i, i < pos t ss → rI m2 73 i = rI m 73 i) (h5 : ∀ r, r < n → rI m2 75 r = rI m 75 r ∧ rI m2 76 r = rI m 76 r) {s2 : Nat} (hs : ss ≤ s2) (hn : ∀ k, ss ≤ k → k < s2 → stepOK u k ∧ LYk m2 u k) : DNr m2 n tc u s2 := by
  refine ⟨fun r hr => ?_, fun k hk => ?_⟩
  · obtain ⟨a1, a2, a3, a4, a5, a6, a7⟩ := h.1 r hr
    exact ⟨by rw [(h5 r hr).1, a1, pos_c (t := t) (u := u) _ (fun i hi => hu i 0 (by omega))], by rw [(h5 r hr).2, a2], a3, a4, by omega, a6, by rw [dp_c (t := t) (u := u) _ (fun i hi => hu i 0 (by omega)), a7]⟩
  · by_cases z : k < ss
    · obtain ⟨b1, b2⟩ := h.2 k z
      have pm := pos_mono t (k + 1) (ss - (k + 1))
      rw [show k + 1 + (ss - (k + 1)) = ss by omega] at pm
      refine ⟨?_, b2.keep (fun r x hr => hu r x (by omega)) (fun i hi => hm i (by omega))⟩
      unfold stepOK at b1 ⊢
      rw [hu k 0 z, hu k 1 z, hu k 2 z]; exact b1
    · exact hn k (by omega) hk
end MDL
