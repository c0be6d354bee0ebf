-- the common value of both sides: counts and tables of numbers
abbrev VB : Type := (Nat → Nat) × (Nat → Nat → Nat → Nat)
abbrev cnt (v : VB) (j : Nat) : Nat := v.1 j
abbrev tb (v : VB) (j r k : Nat) : Nat := v.2 j r k
def enc (j k x : Nat) : Int32 := if j = 0 ∧ k = 3 then (if x = 0 then -1 else nI (x - 1)) else if j = 1 ∧ k = 5 then (if x = 0 then -9 else nI (x - 1)) else nI x
def Wd (j : Nat) : Nat := ([4, 7, 1, 4, 4, 3, 3] : List Nat).getD j 0
def Mx (j : Nat) : Nat := ([10, 30, 17, 20, 8, 6, 200] : List Nat).getD j 0
def RCb (c : Mem) (b : Nat) (v : VB) : Prop := (∀ j, j < 7 → TB c (b + 1 + 2 * j) (Wd j) (Mx j) (cnt v j) ∧ ∀ r k, r < cnt v j → k < Wd j → rI c (b + 1 + 2 * j + 1) (r * Wd j + k) = enc j k (tb v j r k)) ∧ rI c b 7 = nI (cnt v 7)
theorem RCb.keep {c c2 : Mem} {b : Nat} {v : VB} (h : RCb c b v) (hk : ∀ o k, b ≤ o → o ≤ b + 14 → rI c2 o k = rI c o k) : RCb c2 b v := by
  refine ⟨fun j hj => ⟨(h.1 j hj).1.keep (fun k => hk _ k (by omega) (by omega)), fun r k hr hkk => ?_⟩, ?_⟩
  · rw [hk _ _ (by omega) (by omega)]; exact (h.1 j hj).2 r k hr hkk
  · rw [hk _ _ (by omega) (by omega)]; exact h.2
/-- the bounds of the common value -/
def ofP (v : VB) (p : Nat) : Nat → Nat
  | 0 => 0
  | k + 1 => ofP v p k + (if tb v 1 k 0 = p then 1 else 0)
def IV (v : VB) : Prop :=
  (∀ r, r < cnt v 0 → tb v 0 r 0 ≤ 5 ∧ tb v 0 r 1 ≤ 9 ∧ tb v 0 r 2 ≤ 1 ∧ tb v 0 r 3 ≤ 161) ∧
  (∀ r, r < cnt v 1 → tb v 1 r 0 < cnt v 0 ∧ (1 ≤ tb v 1 r 1 ∧ tb v 1 r 1 ≤ 7) ∧ tb v 1 r 2 ≤ 160 ∧ tb v 1 r 3 ≤ 160 ∧ tb v 1 r 4 ≤ 99 ∧ tb v 1 r 5 ≤ cnt v 1 ∧ tb v 1 r 6 < 2 ^ cnt v 1) ∧
  (cnt v 2 = 17 ∧ ∀ r, r < 17 → tb v 2 r 0 ≤ 100) ∧
  (∀ r, r < cnt v 3 → tb v 3 r 0 < cnt v 0 ∧ tb v 3 r 1 ≤ tb v 3 r 2 ∧ tb v 3 r 2 ≤ 160 ∧ 1 ≤ tb v 3 r 3 ∧ tb v 3 r 3 ≤ 99) ∧
  (∀ r, r < cnt v 4 → tb v 4 r 0 < cnt v 0 ∧ tb v 4 r 1 ≤ 160 ∧ (1 ≤ tb v 4 r 2 ∧ tb v 4 r 2 ≤ 99) ∧ tb v 4 r 3 ≤ 2) ∧
  (∀ p, ofP v p (cnt v 1) ≤ 6) ∧ cnt v 7 ≤ 40 ∧
  (cnt v 0 ≤ 10 ∧ cnt v 1 ≤ 30 ∧ cnt v 3 ≤ 20 ∧ cnt v 4 ≤ 8 ∧ cnt v 5 ≤ 6 ∧ cnt v 6 ≤ 200)
/-- the model's arrays and counts as a view: arrays 0 person, 1 paper, 2 life, 3 rest, 4 draw, 5 question, 6 clauseEnd, 7 clauseTakes, 8 way; counts 0 persons, 1 papers, 2 rests, 3 draws, 4 questions, 5 clauses -/
def trM (x : Nat) : Int32 := if x = 0 then -9 else nI (x - 1)
/-- how many signs a step of the way is in the model, and which -/
def joint (x : Nat) : Bool := x == 13 || x == 12 || x == 11
def pos (t : Nat → Nat → Nat) : Nat → Nat
  | 0 => 0
  | k + 1 => pos t k + (if joint (t k 0) = true then 1 else 3)
theorem pos_mono (t : Nat → Nat → Nat) (a : Nat) : ∀ d, pos t a ≤ pos t (a + d) := by
  intro d
  induction d with
  | zero => exact Nat.le_refl _
  | succ d ih => rw [← Nat.add_assoc, pos]; omega
def sgnV (x : Nat) : Nat := if x / 1000 = 1 then 3000 + x % 1000 else if x / 1000 = 8 then 1000 + x % 1000 else 98 + x / 1000
def sgnJ (x : Nat) : Nat := if x = 13 then 7 else if x = 12 then 8 else 9
def sgnC (x : Nat) : Nat := x - 1
def K0 (n : Int32) (a : Nat → Int32) (c : Nat) (t : Nat → Nat → Nat) : Prop := n = nI c ∧ ∀ r, r < c → (∀ k, k < 3 → a (4 * r + k) = nI (t r k)) ∧ a (4 * r + 3) = trM (t r 3)
def K1 (n : Int32) (a : Nat → Int32) (c : Nat) (t : Nat → Nat → Nat) : Prop := n = nI c ∧ ∀ r, r < c → (∀ k, k < 5 → a (6 * r + k) = nI (t r k)) ∧ a (6 * r + 5) = trM (t r 5)
def K2 (a : Nat → Int32) (t : Nat → Nat → Nat) : Prop := ∀ k, k < 17 → a k = nI (t k 0)
def K3 (n : Int32) (a : Nat → Int32) (c e : Nat) (t : Nat → Nat → Nat) : Prop := n = nI c ∧
  (∀ q, q < c → ∃ x y, x < e ∧ y < e ∧ x ≠ y ∧ a (2 * q) = nI x ∧ a (2 * q + 1) = nI y ∧ (t x 6).testBit y = true) ∧
  (∀ x y, x < e → (t x 6).testBit y = true → ∃ q, q < c ∧ a (2 * q) = nI x ∧ a (2 * q + 1) = nI y)
def K4 (n : Int32) (a : Nat → Int32) (c : Nat) (t : Nat → Nat → Nat) : Prop := n = nI c ∧ ∀ r, r < c → ∀ k, k < 4 → a (4 * r + k) = nI (t r k)
/-- a step of the way that is one: a joint, or a sign between two values -/
def valOK (x : Nat) : Prop := 1000 ≤ x ∧ x < 9000
def stepOK (t : Nat → Nat → Nat) (k : Nat) : Prop := joint (t k 0) = true ∨ (16 ≤ t k 0 ∧ t k 0 ≤ 18 ∧ valOK (t k 1) ∧ valOK (t k 2))
/-- how many truths stand after n steps from a, and one more; 0 if that cannot be told -/
def dp (t : Nat → Nat → Nat) (a : Nat) : Nat → Nat
  | 0 => 1
  | n + 1 => if dp t a n = 0 then 0 else if t (a + n) 0 = 13 then (if 2 ≤ dp t a n then dp t a n else 0) else if joint (t (a + n) 0) = true then (if 3 ≤ dp t a n then dp t a n - 1 else 0) else dp t a n + 1
def WFq (c5 c6 : Nat) (t5 t6 : Nat → Nat → Nat) : Prop := (∀ r, r < c5 → dp t6 (t5 r 1) (t5 r 2 - t5 r 1) = 2) ∧ ∀ k, k < c6 → stepOK t6 k
def K6 (n : Int32) (a6 a7 a8 : Nat → Int32) (c5 c6 : Nat) (t5 t6 : Nat → Nat → Nat) : Prop := n = nI c5 ∧
  (∀ r, r < c5 → a6 r = nI (pos t6 (t5 r 2)) ∧ a7 r = nI (t5 r 0) ∧ t5 r 0 ≤ 1 ∧ t5 r 1 ≤ t5 r 2 ∧ t5 r 2 ≤ c6 ∧ t5 r 1 = (if r = 0 then 0 else t5 (r - 1) 2)) ∧
  pos t6 c6 ≤ 205 ∧
  (∀ k, k < c6 → if joint (t6 k 0) = true then a8 (pos t6 k) = nI (sgnJ (t6 k 0)) else (a8 (pos t6 k) = nI (sgnV (t6 k 1)) ∧ a8 (pos t6 k + 1) = nI (sgnV (t6 k 2)) ∧ a8 (pos t6 k + 2) = nI (sgnC (t6 k 0)))) ∧
  WFq c5 c6 t5 t6
def RMb (cv : Nat → Int32) (av : Nat → Nat → Int32) (v : VB) : Prop :=
  K0 (cv 0) (av 0) (cnt v 0) (tb v 0) ∧ K1 (cv 1) (av 1) (cnt v 1) (tb v 1) ∧ K2 (av 2) (tb v 2) ∧ K3 (cv 2) (av 3) (cnt v 7) (cnt v 1) (tb v 1) ∧ K4 (cv 3) (av 4) (cnt v 3) (tb v 3) ∧ K4 (cv 4) (av 5) (cnt v 4) (tb v 4) ∧ K6 (cv 5) (av 6) (av 7) (av 8) (cnt v 5) (cnt v 6) (tb v 5) (tb v 6)
/-- the model's live view -/
def cvL (m : Mem) (j : Nat) : Int32 := rI m 61 (([0, 2, 5, 7, 9, 11] : List Nat).getD j 0)
def avL (m : Mem) (j i : Nat) : Int32 := rI m (62 + j) i
/-- the model's kept view -/
def cvK (m : Mem) (j : Nat) : Int32 := rI m 86 j
def offK (j : Nat) : Nat := ([6, 46, 226, 243, 323, 403, 435, 441, 447] : List Nat).getD j 0
def avK (m : Mem) (j i : Nat) : Int32 := rI m 86 (offK j + i)
abbrev RMl (m : Mem) (v : VB) : Prop := RMb (cvL m) (avL m) v
theorem RMb.keep {c1 c2 : Nat → Int32} {a1 a2 : Nat → Nat → Int32} {v : VB} (h : RMb c1 a1 v) (hc : ∀ j, j < 6 → c2 j = c1 j) (ha : ∀ j i, j < 9 → i < ([40, 180, 17, 80, 80, 32, 6, 6, 210] : List Nat).getD j 0 → a2 j i = a1 j i) (hv : IV v) : RMb c2 a2 v := by
  obtain ⟨⟨h0, hp⟩, ⟨h1, hq⟩, hl, ⟨h2, hr1, hr2⟩, ⟨h3, hd⟩, ⟨h4, hu⟩, ⟨h5, hw1, hw2, hw3, hw4⟩⟩ := h
  obtain ⟨-, -, -, -, -, -, b7, b0, b1, b3, b4, b5, b6⟩ := hv
  refine ⟨⟨by rw [hc _ (by decide)]; exact h0, fun r hr0 => ⟨fun k hk => ?_, ?_⟩⟩, ⟨by rw [hc _ (by decide)]; exact h1, fun r hr0 => ⟨fun k hk => ?_, ?_⟩⟩, fun k hk => ?_, ⟨by rw [hc _ (by decide)]; exact h2, fun q hq0 => ?_, fun x y g1 g2 => ?_⟩, ⟨by rw [hc _ (by decide)]; exact h3, fun r hr0 k hk => ?_⟩, ⟨by rw [hc _ (by decide)]; exact h4, fun r hr0 k hk => ?_⟩, ⟨by rw [hc _ (by decide)]; exact h5, fun r hr0 => ?_, hw2, fun k hk => ?_, hw4⟩⟩
  · rw [ha 0 _ (by decide) (by show _ < 40; omega)]; exact (hp r hr0).1 k hk
  · rw [ha 0 _ (by decide) (by show _ < 40; omega)]; exact (hp r hr0).2
  · rw [ha 1 _ (by decide) (by show _ < 180; omega)]; exact (hq r hr0).1 k hk
  · rw [ha 1 _ (by decide) (by show _ < 180; omega)]; exact (hq r hr0).2
  · rw [ha 2 _ (by decide) (by show _ < 17; omega)]; exact hl k hk
  · obtain ⟨x, y, g1, g2, g3, g4, g5, g6⟩ := hr1 q hq0
    exact ⟨x, y, g1, g2, g3, by rw [ha 3 _ (by decide) (by show _ < 80; omega)]; exact g4, by rw [ha 3 _ (by decide) (by show _ < 80; omega)]; exact g5, g6⟩
  · obtain ⟨q, q1, q2, q3⟩ := hr2 x y g1 g2
    exact ⟨q, q1, by rw [ha 3 _ (by decide) (by show _ < 80; omega)]; exact q2, by rw [ha 3 _ (by decide) (by show _ < 80; omega)]; exact q3⟩
  · rw [ha 4 _ (by decide) (by show _ < 80; omega)]; exact hd r hr0 k hk
  · rw [ha 5 _ (by decide) (by show _ < 32; omega)]; exact hu r hr0 k hk
  · obtain ⟨g1, g2, g3⟩ := hw1 r hr0
    exact ⟨by rw [ha 6 _ (by decide) (by show _ < 6; omega)]; exact g1, by rw [ha 7 _ (by decide) (by show _ < 6; omega)]; exact g2, g3⟩
  · have g := hw3 k hk
    have p1 := pos_mono (tb v 6) (k + 1) (cnt v 6 - (k + 1))
    rw [show k + 1 + (cnt v 6 - (k + 1)) = cnt v 6 by omega] at p1
    by_cases hj : joint (tb v 6 k 0) = true
    · rw [if_pos hj] at g ⊢
      rw [pos, if_pos hj] at p1
      rw [ha 8 _ (by decide) (by show _ < 210; omega)]
      exact g
    · rw [if_neg hj] at g ⊢
      rw [pos, if_neg hj] at p1
      exact ⟨by rw [ha 8 _ (by decide) (by show _ < 210; omega)]; exact g.1, by rw [ha 8 _ (by decide) (by show _ < 210; omega)]; exact g.2.1, by rw [ha 8 _ (by decide) (by show _ < 210; omega)]; exact g.2.2⟩
section GET
variable {N : Nat} {c m : Mem} {v : VB}
theorem RCb.T {b : Nat} (h : RCb c b v) {j : Nat} (hj : j < 7) : TB c (b + 1 + 2 * j) (Wd j) (Mx j) (cnt v j) := (h.1 j hj).1
theorem RCb.C {b : Nat} (h : RCb c b v) {j r k : Nat} (hj : j < 7) (hr : r < cnt v j) (hk : k < Wd j) : rI c (b + 1 + 2 * j + 1) (r * Wd j + k) = enc j k (tb v j r k) := (h.1 j hj).2 r k hr hk
theorem gt {j r k : Nat} (h : RCb c 1 v) (hj : j < 7) (hr : r < cnt v j) (hk : k < Wd j) : f_X5_get N (1 + 1 + 2 * j) (nI r) (nI k) c = some (enc j k (tb v j r k), c) := by
  rw [th_get (h.T hj) hr hk, h.C hj hr hk]
theorem T0 (h : RCb c 1 v) : TB c 2 4 10 (cnt v 0) := h.T (j := 0) (by decide)
theorem ct0 (h : RCb c 1 v) : rI c 2 3 = nI (cnt v 0) := (T0 h).2.2.1
theorem g00 {r : Nat} (h : RCb c 1 v) (hr : r < cnt v 0) : f_X5_get N 2 (nI r) 0 c = some (nI (tb v 0 r 0), c) := gt (j := 0) (k := 0) h (by decide) hr (by decide)
theorem s00 {r : Nat} (h : RCb c 1 v) (hr : r < cnt v 0) (x : Int32) : f_X5_set N 2 (nI r) 0 x c = some ((), wI c 3 (r * 4 + 0) x) := th_set (T0 h) hr (k := 0) (by decide) x
theorem g01 {r : Nat} (h : RCb c 1 v) (hr : r < cnt v 0) : f_X5_get N 2 (nI r) 1 c = some (nI (tb v 0 r 1), c) := gt (j := 0) (k := 1) h (by decide) hr (by decide)
theorem s01 {r : Nat} (h : RCb c 1 v) (hr : r < cnt v 0) (x : Int32) : f_X5_set N 2 (nI r) 1 x c = some ((), wI c 3 (r * 4 + 1) x) := th_set (T0 h) hr (k := 1) (by decide) x
theorem g02 {r : Nat} (h : RCb c 1 v) (hr : r < cnt v 0) : f_X5_get N 2 (nI r) 2 c = some (nI (tb v 0 r 2), c) := gt (j := 0) (k := 2) h (by decide) hr (by decide)
theorem s02 {r : Nat} (h : RCb c 1 v) (hr : r < cnt v 0) (x : Int32) : f_X5_set N 2 (nI r) 2 x c = some ((), wI c 3 (r * 4 + 2) x) := th_set (T0 h) hr (k := 2) (by decide) x
theorem g03 {r : Nat} (h : RCb c 1 v) (hr : r < cnt v 0) : f_X5_get N 2 (nI r) 3 c = some ((if tb v 0 r 3 = 0 then -1 else nI (tb v 0 r 3 - 1)), c) := gt (j := 0) (k := 3) h (by decide) hr (by decide)
theorem s03 {r : Nat} (h : RCb c 1 v) (hr : r < cnt v 0) (x : Int32) : f_X5_set N 2 (nI r) 3 x c = some ((), wI c 3 (r * 4 + 3) x) := th_set (T0 h) hr (k := 3) (by decide) x
theorem T1 (h : RCb c 1 v) : TB c 4 7 30 (cnt v 1) := h.T (j := 1) (by decide)
theorem ct1 (h : RCb c 1 v) : rI c 4 3 = nI (cnt v 1) := (T1 h).2.2.1
theorem g10 {r : Nat} (h : RCb c 1 v) (hr : r < cnt v 1) : f_X5_get N 4 (nI r) 0 c = some (nI (tb v 1 r 0), c) := gt (j := 1) (k := 0) h (by decide) hr (by decide)
theorem s10 {r : Nat} (h : RCb c 1 v) (hr : r < cnt v 1) (x : Int32) : f_X5_set N 4 (nI r) 0 x c = some ((), wI c 5 (r * 7 + 0) x) := th_set (T1 h) hr (k := 0) (by decide) x
theorem g11 {r : Nat} (h : RCb c 1 v) (hr : r < cnt v 1) : f_X5_get N 4 (nI r) 1 c = some (nI (tb v 1 r 1), c) := gt (j := 1) (k := 1) h (by decide) hr (by decide)
theorem s11 {r : Nat} (h : RCb c 1 v) (hr : r < cnt v 1) (x : Int32) : f_X5_set N 4 (nI r) 1 x c = some ((), wI c 5 (r * 7 + 1) x) := th_set (T1 h) hr (k := 1) (by decide) x
theorem g12 {r : Nat} (h : RCb c 1 v) (hr : r < cnt v 1) : f_X5_get N 4 (nI r) 2 c = some (nI (tb v 1 r 2), c) := gt (j := 1) (k := 2) h (by decide) hr (by decide)
theorem s12 {r : Nat} (h : RCb c 1 v) (hr : r < cnt v 1) (x : Int32) : f_X5_set N 4 (nI r) 2 x c = some ((), wI c 5 (r * 7 + 2) x) := th_set (T1 h) hr (k := 2) (by decide) x
theorem g13 {r : Nat} (h : RCb c 1 v) (hr : r < cnt v 1) : f_X5_get N 4 (nI r) 3 c = some (nI (tb v 1 r 3), c) := gt (j := 1) (k := 3) h (by decide) hr (by decide)
theorem s13 {r : Nat} (h : RCb c 1 v) (hr : r < cnt v 1) (x : Int32) : f_X5_set N 4 (nI r) 3 x c = some ((), wI c 5 (r * 7 + 3) x) := th_set (T1 h) hr (k := 3) (by decide) x
theorem g14 {r : Nat} (h : RCb c 1 v) (hr : r < cnt v 1) : f_X5_get N 4 (nI r) 4 c = some (nI (tb v 1 r 4), c) := gt (j := 1) (k := 4) h (by decide) hr (by decide)
theorem s14 {r : Nat} (h : RCb c 1 v) (hr : r < cnt v 1) (x : Int32) : f_X5_set N 4 (nI r) 4 x c = some ((), wI c 5 (r * 7 + 4) x) := th_set (T1 h) hr (k := 4) (by decide) x
theorem g15 {r : Nat} (h : RCb c 1 v) (hr : r < cnt v 1) : f_X5_get N 4 (nI r) 5 c = some (trM (tb v 1 r 5), c) := gt (j := 1) (k := 5) h (by decide) hr (by decide)
theorem s15 {r : Nat} (h : RCb c 1 v) (hr : r < cnt v 1) (x : Int32) : f_X5_set N 4 (nI r) 5 x c = some ((), wI c 5 (r * 7 + 5) x) := th_set (T1 h) hr (k := 5) (by decide) x
theorem g16 {r : Nat} (h : RCb c 1 v) (hr : r < cnt v 1) : f_X5_get N 4 (nI r) 6 c = some (nI (tb v 1 r 6), c) := gt (j := 1) (k := 6) h (by decide) hr (by decide)
theorem s16 {r : Nat} (h : RCb c 1 v) (hr : r < cnt v 1) (x : Int32) : f_X5_set N 4 (nI r) 6 x c = some ((), wI c 5 (r * 7 + 6) x) := th_set (T1 h) hr (k := 6) (by decide) x
theorem T2 (h : RCb c 1 v) : TB c 6 1 17 (cnt v 2) := h.T (j := 2) (by decide)
theorem ct2 (h : RCb c 1 v) : rI c 6 3 = nI (cnt v 2) := (T2 h).2.2.1
theorem g20 {r : Nat} (h : RCb c 1 v) (hr : r < cnt v 2) : f_X5_get N 6 (nI r) 0 c = some (nI (tb v 2 r 0), c) := gt (j := 2) (k := 0) h (by decide) hr (by decide)
theorem s20 {r : Nat} (h : RCb c 1 v) (hr : r < cnt v 2) (x : Int32) : f_X5_set N 6 (nI r) 0 x c = some ((), wI c 7 (r * 1 + 0) x) := th_set (T2 h) hr (k := 0) (by decide) x
theorem T3 (h : RCb c 1 v) : TB c 8 4 20 (cnt v 3) := h.T (j := 3) (by decide)
theorem ct3 (h : RCb c 1 v) : rI c 8 3 = nI (cnt v 3) := (T3 h).2.2.1
theorem g30 {r : Nat} (h : RCb c 1 v) (hr : r < cnt v 3) : f_X5_get N 8 (nI r) 0 c = some (nI (tb v 3 r 0), c) := gt (j := 3) (k := 0) h (by decide) hr (by decide)
theorem s30 {r : Nat} (h : RCb c 1 v) (hr : r < cnt v 3) (x : Int32) : f_X5_set N 8 (nI r) 0 x c = some ((), wI c 9 (r * 4 + 0) x) := th_set (T3 h) hr (k := 0) (by decide) x
theorem g31 {r : Nat} (h : RCb c 1 v) (hr : r < cnt v 3) : f_X5_get N 8 (nI r) 1 c = some (nI (tb v 3 r 1), c) := gt (j := 3) (k := 1) h (by decide) hr (by decide)
theorem s31 {r : Nat} (h : RCb c 1 v) (hr : r < cnt v 3) (x : Int32) : f_X5_set N 8 (nI r) 1 x c = some ((), wI c 9 (r * 4 + 1) x) := th_set (T3 h) hr (k := 1) (by decide) x
theorem g32 {r : Nat} (h : RCb c 1 v) (hr : r < cnt v 3) : f_X5_get N 8 (nI r) 2 c = some (nI (tb v 3 r 2), c) := gt (j := 3) (k := 2) h (by decide) hr (by decide)
theorem s32 {r : Nat} (h : RCb c 1 v) (hr : r < cnt v 3) (x : Int32) : f_X5_set N 8 (nI r) 2 x c = some ((), wI c 9 (r * 4 + 2) x) := th_set (T3 h) hr (k := 2) (by decide) x
theorem g33 {r : Nat} (h : RCb c 1 v) (hr : r < cnt v 3) : f_X5_get N 8 (nI r) 3 c = some (nI (tb v 3 r 3), c) := gt (j := 3) (k := 3) h (by decide) hr (by decide)
theorem s33 {r : Nat} (h : RCb c 1 v) (hr : r < cnt v 3) (x : Int32) : f_X5_set N 8 (nI r) 3 x c = some ((), wI c 9 (r * 4 + 3) x) := th_set (T3 h) hr (k := 3) (by decide) x
theorem T4 (h : RCb c 1 v) : TB c 10 4 8 (cnt v 4) := h.T (j := 4) (by decide)
theorem ct4 (h : RCb c 1 v) : rI c 10 3 = nI (cnt v 4) := (T4 h).2.2.1
theorem g40 {r : Nat} (h : RCb c 1 v) (hr : r < cnt v 4) : f_X5_get N 10 (nI r) 0 c = some (nI (tb v 4 r 0), c) := gt (j := 4) (k := 0) h (by decide) hr (by decide)
theorem s40 {r : Nat} (h : RCb c 1 v) (hr : r < cnt v 4) (x : Int32) : f_X5_set N 10 (nI r) 0 x c = some ((), wI c 11 (r * 4 + 0) x) := th_set (T4 h) hr (k := 0) (by decide) x
theorem g41 {r : Nat} (h : RCb c 1 v) (hr : r < cnt v 4) : f_X5_get N 10 (nI r) 1 c = some (nI (tb v 4 r 1), c) := gt (j := 4) (k := 1) h (by decide) hr (by decide)
theorem s41 {r : Nat} (h : RCb c 1 v) (hr : r < cnt v 4) (x : Int32) : f_X5_set N 10 (nI r) 1 x c = some ((), wI c 11 (r * 4 + 1) x) := th_set (T4 h) hr (k := 1) (by decide) x
theorem g42 {r : Nat} (h : RCb c 1 v) (hr : r < cnt v 4) : f_X5_get N 10 (nI r) 2 c = some (nI (tb v 4 r 2), c) := gt (j := 4) (k := 2) h (by decide) hr (by decide)
theorem s42 {r : Nat} (h : RCb c 1 v) (hr : r < cnt v 4) (x : Int32) : f_X5_set N 10 (nI r) 2 x c = some ((), wI c 11 (r * 4 + 2) x) := th_set (T4 h) hr (k := 2) (by decide) x
theorem g43 {r : Nat} (h : RCb c 1 v) (hr : r < cnt v 4) : f_X5_get N 10 (nI r) 3 c = some (nI (tb v 4 r 3), c) := gt (j := 4) (k := 3) h (by decide) hr (by decide)
theorem s43 {r : Nat} (h : RCb c 1 v) (hr : r < cnt v 4) (x : Int32) : f_X5_set N 10 (nI r) 3 x c = some ((), wI c 11 (r * 4 + 3) x) := th_set (T4 h) hr (k := 3) (by decide) x
theorem T5 (h : RCb c 1 v) : TB c 12 3 6 (cnt v 5) := h.T (j := 5) (by decide)
theorem ct5 (h : RCb c 1 v) : rI c 12 3 = nI (cnt v 5) := (T5 h).2.2.1
theorem g50 {r : Nat} (h : RCb c 1 v) (hr : r < cnt v 5) : f_X5_get N 12 (nI r) 0 c = some (nI (tb v 5 r 0), c) := gt (j := 5) (k := 0) h (by decide) hr (by decide)
theorem s50 {r : Nat} (h : RCb c 1 v) (hr : r < cnt v 5) (x : Int32) : f_X5_set N 12 (nI r) 0 x c = some ((), wI c 13 (r * 3 + 0) x) := th_set (T5 h) hr (k := 0) (by decide) x
theorem g51 {r : Nat} (h : RCb c 1 v) (hr : r < cnt v 5) : f_X5_get N 12 (nI r) 1 c = some (nI (tb v 5 r 1), c) := gt (j := 5) (k := 1) h (by decide) hr (by decide)
theorem s51 {r : Nat} (h : RCb c 1 v) (hr : r < cnt v 5) (x : Int32) : f_X5_set N 12 (nI r) 1 x c = some ((), wI c 13 (r * 3 + 1) x) := th_set (T5 h) hr (k := 1) (by decide) x
theorem g52 {r : Nat} (h : RCb c 1 v) (hr : r < cnt v 5) : f_X5_get N 12 (nI r) 2 c = some (nI (tb v 5 r 2), c) := gt (j := 5) (k := 2) h (by decide) hr (by decide)
theorem s52 {r : Nat} (h : RCb c 1 v) (hr : r < cnt v 5) (x : Int32) : f_X5_set N 12 (nI r) 2 x c = some ((), wI c 13 (r * 3 + 2) x) := th_set (T5 h) hr (k := 2) (by decide) x
theorem T6 (h : RCb c 1 v) : TB c 14 3 200 (cnt v 6) := h.T (j := 6) (by decide)
theorem ct6 (h : RCb c 1 v) : rI c 14 3 = nI (cnt v 6) := (T6 h).2.2.1
theorem g60 {r : Nat} (h : RCb c 1 v) (hr : r < cnt v 6) : f_X5_get N 14 (nI r) 0 c = some (nI (tb v 6 r 0), c) := gt (j := 6) (k := 0) h (by decide) hr (by decide)
theorem s60 {r : Nat} (h : RCb c 1 v) (hr : r < cnt v 6) (x : Int32) : f_X5_set N 14 (nI r) 0 x c = some ((), wI c 15 (r * 3 + 0) x) := th_set (T6 h) hr (k := 0) (by decide) x
theorem g61 {r : Nat} (h : RCb c 1 v) (hr : r < cnt v 6) : f_X5_get N 14 (nI r) 1 c = some (nI (tb v 6 r 1), c) := gt (j := 6) (k := 1) h (by decide) hr (by decide)
theorem s61 {r : Nat} (h : RCb c 1 v) (hr : r < cnt v 6) (x : Int32) : f_X5_set N 14 (nI r) 1 x c = some ((), wI c 15 (r * 3 + 1) x) := th_set (T6 h) hr (k := 1) (by decide) x
theorem g62 {r : Nat} (h : RCb c 1 v) (hr : r < cnt v 6) : f_X5_get N 14 (nI r) 2 c = some (nI (tb v 6 r 2), c) := gt (j := 6) (k := 2) h (by decide) hr (by decide)
theorem s62 {r : Nat} (h : RCb c 1 v) (hr : r < cnt v 6) (x : Int32) : f_X5_set N 14 (nI r) 2 x c = some ((), wI c 15 (r * 3 + 2) x) := th_set (T6 h) hr (k := 2) (by decide) x
theorem pmi0 {r : Nat} (hr : r < 30) : (6 * nI r : Int32) = nI (6 * r + 0) := by
  exact pk_mul 6 r
theorem pmg0 {α : Type} {X : Option α} {r : Nat} (hr : r < 30) : gin (6 * nI r : Int32) 180 X = X := by rw [pmi0 hr, gin_n (by omega) (by omega)]
theorem pmn0 {r : Nat} (hr : r < 30) : (6 * nI r : Int32).toNatClampNeg = 6 * r + 0 := by rw [pmi0 hr, nI_clamp (by omega)]
theorem pmi1 {r : Nat} (hr : r < 30) : (6 * nI r + 1 : Int32) = nI (6 * r + 1) := by
  rw [show (6 : Int32) * nI r = nI (6 * r) from pk_mul 6 r]; exact nI_add _ 1
theorem pmg1 {α : Type} {X : Option α} {r : Nat} (hr : r < 30) : gin (6 * nI r + 1 : Int32) 180 X = X := by rw [pmi1 hr, gin_n (by omega) (by omega)]
theorem pmn1 {r : Nat} (hr : r < 30) : (6 * nI r + 1 : Int32).toNatClampNeg = 6 * r + 1 := by rw [pmi1 hr, nI_clamp (by omega)]
theorem pmi2 {r : Nat} (hr : r < 30) : (6 * nI r + 2 : Int32) = nI (6 * r + 2) := by
  rw [show (6 : Int32) * nI r = nI (6 * r) from pk_mul 6 r]; exact nI_add _ 2
theorem pmg2 {α : Type} {X : Option α} {r : Nat} (hr : r < 30) : gin (6 * nI r + 2 : Int32) 180 X = X := by rw [pmi2 hr, gin_n (by omega) (by omega)]
theorem pmn2 {r : Nat} (hr : r < 30) : (6 * nI r + 2 : Int32).toNatClampNeg = 6 * r + 2 := by rw [pmi2 hr, nI_clamp (by omega)]
theorem pmi3 {r : Nat} (hr : r < 30) : (6 * nI r + 3 : Int32) = nI (6 * r + 3) := by
  rw [show (6 : Int32) * nI r = nI (6 * r) from pk_mul 6 r]; exact nI_add _ 3
theorem pmg3 {α : Type} {X : Option α} {r : Nat} (hr : r < 30) : gin (6 * nI r + 3 : Int32) 180 X = X := by rw [pmi3 hr, gin_n (by omega) (by omega)]
theorem pmn3 {r : Nat} (hr : r < 30) : (6 * nI r + 3 : Int32).toNatClampNeg = 6 * r + 3 := by rw [pmi3 hr, nI_clamp (by omega)]
theorem pmi4 {r : Nat} (hr : r < 30) : (6 * nI r + 4 : Int32) = nI (6 * r + 4) := by
  rw [show (6 : Int32) * nI r = nI (6 * r) from pk_mul 6 r]; exact nI_add _ 4
theorem pmg4 {α : Type} {X : Option α} {r : Nat} (hr : r < 30) : gin (6 * nI r + 4 : Int32) 180 X = X := by rw [pmi4 hr, gin_n (by omega) (by omega)]
theorem pmn4 {r : Nat} (hr : r < 30) : (6 * nI r + 4 : Int32).toNatClampNeg = 6 * r + 4 := by rw [pmi4 hr, nI_clamp (by omega)]
theorem pmi5 {r : Nat} (hr : r < 30) : (6 * nI r + 5 : Int32) = nI (6 * r + 5) := by
  rw [show (6 : Int32) * nI r = nI (6 * r) from pk_mul 6 r]; exact nI_add _ 5
theorem pmg5 {α : Type} {X : Option α} {r : Nat} (hr : r < 30) : gin (6 * nI r + 5 : Int32) 180 X = X := by rw [pmi5 hr, gin_n (by omega) (by omega)]
theorem pmn5 {r : Nat} (hr : r < 30) : (6 * nI r + 5 : Int32).toNatClampNeg = 6 * r + 5 := by rw [pmi5 hr, nI_clamp (by omega)]
theorem qmi0 {r : Nat} (hr : r < 10) : (4 * nI r : Int32) = nI (4 * r + 0) := by
  exact pk_mul 4 r
theorem qmg0 {α : Type} {X : Option α} {r : Nat} (hr : r < 10) : gin (4 * nI r : Int32) 40 X = X := by rw [qmi0 hr, gin_n (by omega) (by omega)]
theorem qmn0 {r : Nat} (hr : r < 10) : (4 * nI r : Int32).toNatClampNeg = 4 * r + 0 := by rw [qmi0 hr, nI_clamp (by omega)]
theorem qmi1 {r : Nat} (hr : r < 10) : (4 * nI r + 1 : Int32) = nI (4 * r + 1) := by
  rw [show (4 : Int32) * nI r = nI (4 * r) from pk_mul 4 r]; exact nI_add _ 1
theorem qmg1 {α : Type} {X : Option α} {r : Nat} (hr : r < 10) : gin (4 * nI r + 1 : Int32) 40 X = X := by rw [qmi1 hr, gin_n (by omega) (by omega)]
theorem qmn1 {r : Nat} (hr : r < 10) : (4 * nI r + 1 : Int32).toNatClampNeg = 4 * r + 1 := by rw [qmi1 hr, nI_clamp (by omega)]
theorem qmi2 {r : Nat} (hr : r < 10) : (4 * nI r + 2 : Int32) = nI (4 * r + 2) := by
  rw [show (4 : Int32) * nI r = nI (4 * r) from pk_mul 4 r]; exact nI_add _ 2
theorem qmg2 {α : Type} {X : Option α} {r : Nat} (hr : r < 10) : gin (4 * nI r + 2 : Int32) 40 X = X := by rw [qmi2 hr, gin_n (by omega) (by omega)]
theorem qmn2 {r : Nat} (hr : r < 10) : (4 * nI r + 2 : Int32).toNatClampNeg = 4 * r + 2 := by rw [qmi2 hr, nI_clamp (by omega)]
theorem qmi3 {r : Nat} (hr : r < 10) : (4 * nI r + 3 : Int32) = nI (4 * r + 3) := by
  rw [show (4 : Int32) * nI r = nI (4 * r) from pk_mul 4 r]; exact nI_add _ 3
theorem qmg3 {α : Type} {X : Option α} {r : Nat} (hr : r < 10) : gin (4 * nI r + 3 : Int32) 40 X = X := by rw [qmi3 hr, gin_n (by omega) (by omega)]
theorem qmn3 {r : Nat} (hr : r < 10) : (4 * nI r + 3 : Int32).toNatClampNeg = 4 * r + 3 := by rw [qmi3 hr, nI_clamp (by omega)]
theorem dmi0 {r : Nat} (hr : r < 20) : (4 * nI r : Int32) = nI (4 * r + 0) := by
  exact pk_mul 4 r
theorem dmg0 {α : Type} {X : Option α} {r : Nat} (hr : r < 20) : gin (4 * nI r : Int32) 80 X = X := by rw [dmi0 hr, gin_n (by omega) (by omega)]
theorem dmn0 {r : Nat} (hr : r < 20) : (4 * nI r : Int32).toNatClampNeg = 4 * r + 0 := by rw [dmi0 hr, nI_clamp (by omega)]
theorem dmi1 {r : Nat} (hr : r < 20) : (4 * nI r + 1 : Int32) = nI (4 * r + 1) := by
  rw [show (4 : Int32) * nI r = nI (4 * r) from pk_mul 4 r]; exact nI_add _ 1
theorem dmg1 {α : Type} {X : Option α} {r : Nat} (hr : r < 20) : gin (4 * nI r + 1 : Int32) 80 X = X := by rw [dmi1 hr, gin_n (by omega) (by omega)]
theorem dmn1 {r : Nat} (hr : r < 20) : (4 * nI r + 1 : Int32).toNatClampNeg = 4 * r + 1 := by rw [dmi1 hr, nI_clamp (by omega)]
theorem dmi2 {r : Nat} (hr : r < 20) : (4 * nI r + 2 : Int32) = nI (4 * r + 2) := by
  rw [show (4 : Int32) * nI r = nI (4 * r) from pk_mul 4 r]; exact nI_add _ 2
theorem dmg2 {α : Type} {X : Option α} {r : Nat} (hr : r < 20) : gin (4 * nI r + 2 : Int32) 80 X = X := by rw [dmi2 hr, gin_n (by omega) (by omega)]
theorem dmn2 {r : Nat} (hr : r < 20) : (4 * nI r + 2 : Int32).toNatClampNeg = 4 * r + 2 := by rw [dmi2 hr, nI_clamp (by omega)]
theorem dmi3 {r : Nat} (hr : r < 20) : (4 * nI r + 3 : Int32) = nI (4 * r + 3) := by
  rw [show (4 : Int32) * nI r = nI (4 * r) from pk_mul 4 r]; exact nI_add _ 3
theorem dmg3 {α : Type} {X : Option α} {r : Nat} (hr : r < 20) : gin (4 * nI r + 3 : Int32) 80 X = X := by rw [dmi3 hr, gin_n (by omega) (by omega)]
theorem dmn3 {r : Nat} (hr : r < 20) : (4 * nI r + 3 : Int32).toNatClampNeg = 4 * r + 3 := by rw [dmi3 hr, nI_clamp (by omega)]
theorem umi0 {r : Nat} (hr : r < 8) : (4 * nI r : Int32) = nI (4 * r + 0) := by
  exact pk_mul 4 r
theorem umg0 {α : Type} {X : Option α} {r : Nat} (hr : r < 8) : gin (4 * nI r : Int32) 32 X = X := by rw [umi0 hr, gin_n (by omega) (by omega)]
theorem umn0 {r : Nat} (hr : r < 8) : (4 * nI r : Int32).toNatClampNeg = 4 * r + 0 := by rw [umi0 hr, nI_clamp (by omega)]
theorem umi1 {r : Nat} (hr : r < 8) : (4 * nI r + 1 : Int32) = nI (4 * r + 1) := by
  rw [show (4 : Int32) * nI r = nI (4 * r) from pk_mul 4 r]; exact nI_add _ 1
theorem umg1 {α : Type} {X : Option α} {r : Nat} (hr : r < 8) : gin (4 * nI r + 1 : Int32) 32 X = X := by rw [umi1 hr, gin_n (by omega) (by omega)]
theorem umn1 {r : Nat} (hr : r < 8) : (4 * nI r + 1 : Int32).toNatClampNeg = 4 * r + 1 := by rw [umi1 hr, nI_clamp (by omega)]
theorem umi2 {r : Nat} (hr : r < 8) : (4 * nI r + 2 : Int32) = nI (4 * r + 2) := by
  rw [show (4 : Int32) * nI r = nI (4 * r) from pk_mul 4 r]; exact nI_add _ 2
theorem umg2 {α : Type} {X : Option α} {r : Nat} (hr : r < 8) : gin (4 * nI r + 2 : Int32) 32 X = X := by rw [umi2 hr, gin_n (by omega) (by omega)]
theorem umn2 {r : Nat} (hr : r < 8) : (4 * nI r + 2 : Int32).toNatClampNeg = 4 * r + 2 := by rw [umi2 hr, nI_clamp (by omega)]
theorem umi3 {r : Nat} (hr : r < 8) : (4 * nI r + 3 : Int32) = nI (4 * r + 3) := by
  rw [show (4 : Int32) * nI r = nI (4 * r) from pk_mul 4 r]; exact nI_add _ 3
theorem umg3 {α : Type} {X : Option α} {r : Nat} (hr : r < 8) : gin (4 * nI r + 3 : Int32) 32 X = X := by rw [umi3 hr, gin_n (by omega) (by omega)]
theorem umn3 {r : Nat} (hr : r < 8) : (4 * nI r + 3 : Int32).toNatClampNeg = 4 * r + 3 := by rw [umi3 hr, nI_clamp (by omega)]
theorem mct0 (h : RMl m v) : rI m 61 0 = nI (cnt v 0) := h.1.1
theorem mct1 (h : RMl m v) : rI m 61 2 = nI (cnt v 1) := h.2.1.1
theorem mct7 (h : RMl m v) : rI m 61 5 = nI (cnt v 7) := h.2.2.2.1.1
theorem mct3 (h : RMl m v) : rI m 61 7 = nI (cnt v 3) := h.2.2.2.2.1.1
theorem mct4 (h : RMl m v) : rI m 61 9 = nI (cnt v 4) := h.2.2.2.2.2.1.1
theorem mct5 (h : RMl m v) : rI m 61 11 = nI (cnt v 5) := h.2.2.2.2.2.2.1
theorem mq0 {r : Nat} (h : RMl m v) (hr : r < cnt v 0) : rI m 62 (4 * r + 0) = nI (tb v 0 r 0) := (h.1.2 r hr).1 0 (by decide)
theorem mq1 {r : Nat} (h : RMl m v) (hr : r < cnt v 0) : rI m 62 (4 * r + 1) = nI (tb v 0 r 1) := (h.1.2 r hr).1 1 (by decide)
theorem mq2 {r : Nat} (h : RMl m v) (hr : r < cnt v 0) : rI m 62 (4 * r + 2) = nI (tb v 0 r 2) := (h.1.2 r hr).1 2 (by decide)
theorem mq3 {r : Nat} (h : RMl m v) (hr : r < cnt v 0) : rI m 62 (4 * r + 3) = trM (tb v 0 r 3) := (h.1.2 r hr).2
theorem mp0 {r : Nat} (h : RMl m v) (hr : r < cnt v 1) : rI m 63 (6 * r + 0) = nI (tb v 1 r 0) := (h.2.1.2 r hr).1 0 (by decide)
theorem mp1 {r : Nat} (h : RMl m v) (hr : r < cnt v 1) : rI m 63 (6 * r + 1) = nI (tb v 1 r 1) := (h.2.1.2 r hr).1 1 (by decide)
theorem mp2 {r : Nat} (h : RMl m v) (hr : r < cnt v 1) : rI m 63 (6 * r + 2) = nI (tb v 1 r 2) := (h.2.1.2 r hr).1 2 (by decide)
theorem mp3 {r : Nat} (h : RMl m v) (hr : r < cnt v 1) : rI m 63 (6 * r + 3) = nI (tb v 1 r 3) := (h.2.1.2 r hr).1 3 (by decide)
theorem mp4 {r : Nat} (h : RMl m v) (hr : r < cnt v 1) : rI m 63 (6 * r + 4) = nI (tb v 1 r 4) := (h.2.1.2 r hr).1 4 (by decide)
theorem mp5 {r : Nat} (h : RMl m v) (hr : r < cnt v 1) : rI m 63 (6 * r + 5) = trM (tb v 1 r 5) := (h.2.1.2 r hr).2
theorem ml0 {r : Nat} (h : RMl m v) (hr : r < 17) : rI m 64 r = nI (tb v 2 r 0) := h.2.2.1 r hr
theorem md0 {r : Nat} (h : RMl m v) (hr : r < cnt v 3) : rI m 66 (4 * r + 0) = nI (tb v 3 r 0) := h.2.2.2.2.1.2 r hr 0 (by decide)
theorem md1 {r : Nat} (h : RMl m v) (hr : r < cnt v 3) : rI m 66 (4 * r + 1) = nI (tb v 3 r 1) := h.2.2.2.2.1.2 r hr 1 (by decide)
theorem md2 {r : Nat} (h : RMl m v) (hr : r < cnt v 3) : rI m 66 (4 * r + 2) = nI (tb v 3 r 2) := h.2.2.2.2.1.2 r hr 2 (by decide)
theorem md3 {r : Nat} (h : RMl m v) (hr : r < cnt v 3) : rI m 66 (4 * r + 3) = nI (tb v 3 r 3) := h.2.2.2.2.1.2 r hr 3 (by decide)
theorem mu0 {r : Nat} (h : RMl m v) (hr : r < cnt v 4) : rI m 67 (4 * r + 0) = nI (tb v 4 r 0) := h.2.2.2.2.2.1.2 r hr 0 (by decide)
theorem mu1 {r : Nat} (h : RMl m v) (hr : r < cnt v 4) : rI m 67 (4 * r + 1) = nI (tb v 4 r 1) := h.2.2.2.2.2.1.2 r hr 1 (by decide)
theorem mu2 {r : Nat} (h : RMl m v) (hr : r < cnt v 4) : rI m 67 (4 * r + 2) = nI (tb v 4 r 2) := h.2.2.2.2.2.1.2 r hr 2 (by decide)
theorem mu3 {r : Nat} (h : RMl m v) (hr : r < cnt v 4) : rI m 67 (4 * r + 3) = nI (tb v 4 r 3) := h.2.2.2.2.2.1.2 r hr 3 (by decide)
end GET
