-- bits
theorem ni_and (a b : Nat) : nI a &&& nI b = nI (a &&& b) := by
  apply Int32.toBitVec_inj.1
  show BitVec.ofNat 32 a &&& BitVec.ofNat 32 b = BitVec.ofNat 32 (a &&& b)
  apply BitVec.eq_of_getLsbD_eq
  intro i hi
  simp [hi]
theorem ni_or (a b : Nat) : nI a ||| nI b = nI (a ||| b) := by
  apply Int32.toBitVec_inj.1
  show BitVec.ofNat 32 a ||| BitVec.ofNat 32 b = BitVec.ofNat 32 (a ||| b)
  apply BitVec.eq_of_getLsbD_eq
  intro i hi
  simp [hi]
theorem sm31 : ∀ k, k < 32 → ((nI k &&& 31).toBitVec.smod 32).toNat = k := by decide +kernel
theorem shl1 {k : Nat} (hk : k < 31) : (1 : Int32) <<< (nI k &&& 31) = nI (2 ^ k) := by
  have h : (2 : Nat) ^ k < 2 ^ 31 := Nat.pow_lt_pow_right (by decide) hk
  rw [show (1 : Int32) = nI 1 from rfl, pk_shlN _ k (sm31 k (by omega)) (by omega), Nat.one_mul]
theorem shr_n {a k : Nat} (ha : a < 2 ^ 31) (hk : k < 31) : nI a >>> (nI k &&& 31) = nI (a / 2 ^ k) := pk_shrN ha _ k (sm31 k (by omega))
theorem bit_n {a k : Nat} (ha : a < 2 ^ 31) (hk : k < 31) : (nI a >>> (nI k &&& 31)) &&& 1 = nI (if a.testBit k = true then 1 else 0) := by
  rw [shr_n ha hk, show (1 : Int32) = nI 1 from rfl, ni_and, Nat.and_one_is_mod]
  congr 1
  rw [Nat.testBit_eq_decide_div_mod_eq]
  by_cases h : a / 2 ^ k % 2 = 1
  · rw [if_pos (by simp [h]), h]
  · rw [if_neg (by simp [h])]
    omega
theorem e_bitN {N : Nat} {c : Mem} {k : Nat} (hk : k < 31) : f_X8_bit N (nI k) c = some (nI (2 ^ k), c) := by rw [e_bit, shl1 hk]
theorem and_byte (x m : Nat) : x &&& m = ((x % 256) &&& (m % 256)) + 256 * ((x / 256) &&& (m / 256)) := by
  have h1 := Nat.div_add_mod (x &&& m) 256
  have h2 : (x &&& m) % 256 = (x % 256) &&& (m % 256) := by
    have := Nat.and_mod_two_pow (a := x) (b := m) (n := 8)
    simpa using this
  have h3 : (x &&& m) / 256 = (x / 256) &&& (m / 256) := by
    have := Nat.and_div_two_pow (a := x) (b := m) (n := 8)
    simpa using this
  rw [← h2, ← h3]
  omega
/-- the count of ones among the first n bits -/
def pc : Nat → Nat → Nat
  | 0, _ => 0
  | n + 1, x => x % 2 + pc n (x / 2)
theorem pc_add (b : Nat) : ∀ a x, pc (a + b) x = pc a x + pc b (x / 2 ^ a) := by
  intro a
  induction a with
  | zero => intro x; simp [pc]
  | succ a ih =>
    intro x
    rw [show a + 1 + b = (a + b) + 1 by omega, pc, pc, ih, Nat.div_div_eq_div_mul, ← Nat.pow_succ', Nat.succ_eq_add_one]
    omega
theorem pc_mod : ∀ n x, pc n (x % 2 ^ n) = pc n x := by
  intro n
  induction n with
  | zero => intro x; rfl
  | succ n ih =>
    intro x
    rw [pc, pc]
    have h1 : x % 2 ^ (n + 1) % 2 = x % 2 := Nat.mod_mod_of_dvd x ⟨2 ^ n, by rw [Nat.pow_succ']⟩
    have h2 : x % 2 ^ (n + 1) / 2 = x / 2 % 2 ^ n := by rw [Nat.pow_succ', Nat.mod_mul_right_div_self]
    rw [h1, h2, ih]
theorem pc_le : ∀ n x, pc n x ≤ n := by
  intro n
  induction n with
  | zero => intro x; exact Nat.le_refl _
  | succ n ih => intro x; have := ih (x / 2); rw [pc]; omega
def b8 (b : Nat) : Nat :=
  let a := b - (b / 2 &&& 85)
  let d := (a &&& 51) + (a / 4 &&& 51)
  (d + d / 16) &&& 15
theorem b8_all : ∀ b, b < 256 → b8 b = pc 8 b ∧ (b / 2 &&& 85) ≤ b ∧ b - (b / 2 &&& 85) < 256 ∧ ((b - (b / 2 &&& 85)) &&& 51) + ((b - (b / 2 &&& 85)) / 4 &&& 51) < 69 ∧ (((b - (b / 2 &&& 85)) &&& 51) + ((b - (b / 2 &&& 85)) / 4 &&& 51)) % 16 ≤ 4 ∧ ∀ h, h < 2 → ((b / 2 + 128 * h) &&& 85) = (b / 2 &&& 85) := by decide +kernel
theorem b8_two : ∀ a, a < 256 → ∀ h, h < 4 → ((a / 4 + 64 * h) &&& 51) = (a / 4 &&& 51) := by decide +kernel
theorem b8_three : ∀ d, d < 69 → ∀ h, h ≤ 4 → d % 16 ≤ 4 → (d + (d / 16 + 16 * h) < 256 ∧ ((d + (d / 16 + 16 * h)) &&& 15) = ((d + d / 16) &&& 15)) := by decide +kernel
theorem four (x0 x1 x2 x3 m : Nat) (h0 : x0 < 256) (h1 : x1 < 256) (h2 : x2 < 256) (h3 : x3 < 256) (hm : m < 256) : (x0 + 256 * (x1 + 256 * (x2 + 256 * x3))) &&& (m + 256 * (m + 256 * (m + 256 * m))) = (x0 &&& m) + 256 * ((x1 &&& m) + 256 * ((x2 &&& m) + 256 * (x3 &&& m))) := by
  rw [and_byte, show (x0 + 256 * (x1 + 256 * (x2 + 256 * x3))) % 256 = x0 by omega, show (x0 + 256 * (x1 + 256 * (x2 + 256 * x3))) / 256 = x1 + 256 * (x2 + 256 * x3) by omega, show (m + 256 * (m + 256 * (m + 256 * m))) % 256 = m by omega, show (m + 256 * (m + 256 * (m + 256 * m))) / 256 = m + 256 * (m + 256 * m) by omega,
    and_byte (x1 + 256 * (x2 + 256 * x3)), show (x1 + 256 * (x2 + 256 * x3)) % 256 = x1 by omega, show (x1 + 256 * (x2 + 256 * x3)) / 256 = x2 + 256 * x3 by omega, show (m + 256 * (m + 256 * m)) % 256 = m by omega, show (m + 256 * (m + 256 * m)) / 256 = m + 256 * m by omega,
    and_byte (x2 + 256 * x3), show (x2 + 256 * x3) % 256 = x2 by omega, show (x2 + 256 * x3) / 256 = x3 by omega, show (m + 256 * m) % 256 = m by omega, show (m + 256 * m) / 256 = m by omega]
theorem sum4 (g0 g1 g2 g3 : Nat) (k0 : g0 ≤ 15) (k1 : g1 ≤ 15) (k2 : g2 ≤ 15) (k3 : g3 ≤ 15) : (g0 + 256 * (g1 + 256 * (g2 + 256 * g3)) + (g0 + 256 * (g1 + 256 * (g2 + 256 * g3))) / 256 + (g0 + 256 * (g1 + 256 * (g2 + 256 * g3)) + (g0 + 256 * (g1 + 256 * (g2 + 256 * g3))) / 256) / 65536) % 64 = g0 + (g1 + (g2 + g3)) := by
  have h1 : (g0 + 256 * (g1 + 256 * (g2 + 256 * g3))) / 256 = g1 + 256 * (g2 + 256 * g3) := by omega
  rw [h1]
  have h2 : (g0 + 256 * (g1 + 256 * (g2 + 256 * g3)) + (g1 + 256 * (g2 + 256 * g3))) / 65536 = g2 + g3 + 256 * g3 := by omega
  rw [h2]
  omega
theorem pop_nat {x : Nat} (hx : x < 2 ^ 32) :
    (fun a : Nat => (fun d : Nat => (fun e : Nat => (fun f : Nat => (f + f / 65536) % 64) (e + e / 256)) ((d + d / 16) &&& 252645135)) ((a &&& 858993459) + (a / 4 &&& 858993459))) (x - (x / 2 &&& 1431655765)) = pc 32 x := by
  obtain ⟨x0, x1, x2, x3, h0, h1, h2, h3, rfl⟩ : ∃ x0 x1 x2 x3, x0 < 256 ∧ x1 < 256 ∧ x2 < 256 ∧ x3 < 256 ∧ x = x0 + 256 * (x1 + 256 * (x2 + 256 * x3)) :=
    ⟨x % 256, x / 256 % 256, x / 65536 % 256, x / 16777216, by omega, by omega, by omega, by omega, by omega⟩
  obtain ⟨p0, q0, r0, s0, t0, u0⟩ := b8_all x0 h0
  obtain ⟨p1, q1, r1, s1, t1, u1⟩ := b8_all x1 h1
  obtain ⟨p2, q2, r2, s2, t2, u2⟩ := b8_all x2 h2
  obtain ⟨p3, q3, r3, s3, t3, u3⟩ := b8_all x3 h3
  have e1 : (x0 + 256 * (x1 + 256 * (x2 + 256 * x3))) / 2 = (x0 / 2 + 128 * (x1 % 2)) + 256 * ((x1 / 2 + 128 * (x2 % 2)) + 256 * ((x2 / 2 + 128 * (x3 % 2)) + 256 * (x3 / 2))) := by omega
  have m1 : (1431655765 : Nat) = 85 + 256 * (85 + 256 * (85 + 256 * 85)) := rfl
  have m2 : (858993459 : Nat) = 51 + 256 * (51 + 256 * (51 + 256 * 51)) := rfl
  have m3 : (252645135 : Nat) = 15 + 256 * (15 + 256 * (15 + 256 * 15)) := rfl
  have E1 : (x0 + 256 * (x1 + 256 * (x2 + 256 * x3))) / 2 &&& 1431655765 = (x0 / 2 &&& 85) + 256 * ((x1 / 2 &&& 85) + 256 * ((x2 / 2 &&& 85) + 256 * (x3 / 2 &&& 85))) := by
    rw [e1, m1, four _ _ _ _ _ (by omega) (by omega) (by omega) (by omega) (by decide), u0 _ (by omega), u1 _ (by omega), u2 _ (by omega)]
  have p : pc 32 (x0 + 256 * (x1 + 256 * (x2 + 256 * x3))) = pc 8 x0 + (pc 8 x1 + (pc 8 x2 + pc 8 x3)) := by
    have g : ∀ y z : Nat, y < 256 → pc 8 (y + 256 * z) = pc 8 y := fun y z hy => by rw [← pc_mod 8 (y + 256 * z), show (y + 256 * z) % 2 ^ 8 = y by omega]
    rw [show (32 : Nat) = 8 + (8 + (8 + 8)) from rfl, pc_add, g _ _ h0, show (x0 + 256 * (x1 + 256 * (x2 + 256 * x3))) / 2 ^ 8 = x1 + 256 * (x2 + 256 * x3) by omega, pc_add, g _ _ h1, show (x1 + 256 * (x2 + 256 * x3)) / 2 ^ 8 = x2 + 256 * x3 by omega, pc_add, g _ _ h2, show (x2 + 256 * x3) / 2 ^ 8 = x3 by omega]
  rw [p, ← p0, ← p1, ← p2, ← p3, E1]
  unfold b8
  generalize x0 / 2 &&& 85 = y0 at *
  generalize x1 / 2 &&& 85 = y1 at *
  generalize x2 / 2 &&& 85 = y2 at *
  generalize x3 / 2 &&& 85 = y3 at *
  clear p p0 p1 p2 p3 u0 u1 u2 u3 E1 e1 hx
  rw [show x0 + 256 * (x1 + 256 * (x2 + 256 * x3)) - (y0 + 256 * (y1 + 256 * (y2 + 256 * y3))) = (x0 - y0) + 256 * ((x1 - y1) + 256 * ((x2 - y2) + 256 * (x3 - y3))) by omega]
  generalize x0 - y0 = a0 at *
  generalize x1 - y1 = a1 at *
  generalize x2 - y2 = a2 at *
  generalize x3 - y3 = a3 at *
  have e2 : (a0 + 256 * (a1 + 256 * (a2 + 256 * a3))) / 4 = (a0 / 4 + 64 * (a1 % 4)) + 256 * ((a1 / 4 + 64 * (a2 % 4)) + 256 * ((a2 / 4 + 64 * (a3 % 4)) + 256 * (a3 / 4))) := by omega
  have E2 : (a0 + 256 * (a1 + 256 * (a2 + 256 * a3))) / 4 &&& 858993459 = (a0 / 4 &&& 51) + 256 * ((a1 / 4 &&& 51) + 256 * ((a2 / 4 &&& 51) + 256 * (a3 / 4 &&& 51))) := by
    rw [e2, m2, four _ _ _ _ _ (by omega) (by omega) (by omega) (by omega) (by decide), b8_two a0 r0 _ (by omega), b8_two a1 r1 _ (by omega), b8_two a2 r2 _ (by omega)]
  have E3 : (a0 + 256 * (a1 + 256 * (a2 + 256 * a3))) &&& 858993459 = (a0 &&& 51) + 256 * ((a1 &&& 51) + 256 * ((a2 &&& 51) + 256 * (a3 &&& 51))) := by
    rw [m2, four _ _ _ _ _ r0 r1 r2 r3 (by decide)]
  show ((fun e : Nat => (fun f : Nat => (f + f / 65536) % 64) (e + e / 256)) ((((a0 + 256 * (a1 + 256 * (a2 + 256 * a3))) &&& 858993459) + ((a0 + 256 * (a1 + 256 * (a2 + 256 * a3))) / 4 &&& 858993459) + (((a0 + 256 * (a1 + 256 * (a2 + 256 * a3))) &&& 858993459) + ((a0 + 256 * (a1 + 256 * (a2 + 256 * a3))) / 4 &&& 858993459)) / 16) &&& 252645135)) = _
  rw [E2, E3]
  rw [show (a0 &&& 51) + 256 * ((a1 &&& 51) + 256 * ((a2 &&& 51) + 256 * (a3 &&& 51))) + ((a0 / 4 &&& 51) + 256 * ((a1 / 4 &&& 51) + 256 * ((a2 / 4 &&& 51) + 256 * (a3 / 4 &&& 51)))) = ((a0 &&& 51) + (a0 / 4 &&& 51)) + 256 * (((a1 &&& 51) + (a1 / 4 &&& 51)) + 256 * (((a2 &&& 51) + (a2 / 4 &&& 51)) + 256 * ((a3 &&& 51) + (a3 / 4 &&& 51)))) by omega]
  show _ = (((a0 &&& 51) + (a0 / 4 &&& 51)) + ((a0 &&& 51) + (a0 / 4 &&& 51)) / 16 &&& 15) + ((((a1 &&& 51) + (a1 / 4 &&& 51)) + ((a1 &&& 51) + (a1 / 4 &&& 51)) / 16 &&& 15) + ((((a2 &&& 51) + (a2 / 4 &&& 51)) + ((a2 &&& 51) + (a2 / 4 &&& 51)) / 16 &&& 15) + (((a3 &&& 51) + (a3 / 4 &&& 51)) + ((a3 &&& 51) + (a3 / 4 &&& 51)) / 16 &&& 15)))
  generalize (a0 &&& 51) + (a0 / 4 &&& 51) = d0 at *
  generalize (a1 &&& 51) + (a1 / 4 &&& 51) = d1 at *
  generalize (a2 &&& 51) + (a2 / 4 &&& 51) = d2 at *
  generalize (a3 &&& 51) + (a3 / 4 &&& 51) = d3 at *
  obtain ⟨w0, z0⟩ := b8_three d0 s0 (d1 % 16) t1 t0
  obtain ⟨w1, z1⟩ := b8_three d1 s1 (d2 % 16) t2 t1
  obtain ⟨w2, z2⟩ := b8_three d2 s2 (d3 % 16) t3 t2
  obtain ⟨w3, z3⟩ := b8_three d3 s3 0 (by omega) t3
  have e4 : d0 + 256 * (d1 + 256 * (d2 + 256 * d3)) + (d0 + 256 * (d1 + 256 * (d2 + 256 * d3))) / 16 = (d0 + (d0 / 16 + 16 * (d1 % 16))) + 256 * ((d1 + (d1 / 16 + 16 * (d2 % 16))) + 256 * ((d2 + (d2 / 16 + 16 * (d3 % 16))) + 256 * (d3 + (d3 / 16 + 16 * 0)))) := by omega
  rw [e4, m3, four _ _ _ _ _ w0 w1 w2 w3 (by decide), z0, z1, z2, z3]
  have k : ∀ y : Nat, y &&& 15 ≤ 15 := fun y => Nat.and_le_right
  have k0 := k (d0 + d0 / 16)
  have k1 := k (d1 + d1 / 16)
  have k2 := k (d2 + d2 / 16)
  have k3 := k (d3 + d3 / 16)
  generalize d0 + d0 / 16 &&& 15 = g0 at *
  generalize d1 + d1 / 16 &&& 15 = g1 at *
  generalize d2 + d2 / 16 &&& 15 = g2 at *
  generalize d3 + d3 / 16 &&& 15 = g3 at *
  exact sum4 g0 g1 g2 g3 k0 k1 k2 k3
theorem us_n {n k : Nat} (hn : n < 2 ^ 32) (s : Int32) (hs : ((s.toUInt32 &&& Int32.toUInt32 31).toBitVec % 32).toNat = k) : ((nI n).toUInt32 >>> (s.toUInt32 &&& Int32.toUInt32 31)).toInt32 = nI (n / 2 ^ k) := pk_ushrN hn s k hs
theorem e_bitCount {N : Nat} {c : Mem} {x : Nat} (hx : x < 2 ^ 31) : f_J6_bitCount_0f7a4 N (nI x) c = some (nI (pc 32 x), c) := by
  have hp := pop_nat (show x < 2 ^ 32 by omega)
  have l1 : x / 2 &&& 1431655765 ≤ x := Nat.le_trans Nat.and_le_left (Nat.div_le_self _ _)
  unfold f_J6_bitCount_0f7a4
  rw [us_n (k := 1) (by omega) 1 (by decide), show (1431655765 : Int32) = nI 1431655765 from rfl, ni_and, pk_sub (by simpa using l1), lt_e]
  rw [show x / 2 ^ 1 = x / 2 from rfl]
  generalize hA : x - (x / 2 &&& 1431655765) = A at hp
  have bA : A ≤ x := by omega
  rw [us_n (k := 2) (by omega) 2 (by decide), show (858993459 : Int32) = nI 858993459 from rfl, ni_and, ni_and, nI_add, lt_e]
  rw [show A / 2 ^ 2 = A / 4 from rfl]
  have b1 : A &&& 858993459 ≤ 858993459 := Nat.and_le_right
  have b2 : A / 4 &&& 858993459 ≤ 858993459 := Nat.and_le_right
  generalize hB : (A &&& 858993459) + (A / 4 &&& 858993459) = B
  have bB : B < 2 ^ 31 := by omega
  rw [us_n (k := 4) (by omega) 4 (by decide), show (252645135 : Int32) = nI 252645135 from rfl, nI_add, ni_and, lt_e]
  rw [show B / 2 ^ 4 = B / 16 from rfl]
  have b3 : (B + B / 16) &&& 252645135 ≤ 252645135 := Nat.and_le_right
  generalize hC : (B + B / 16) &&& 252645135 = C at b3
  rw [us_n (k := 8) (by omega) 8 (by decide), nI_add, lt_e]
  rw [show C / 2 ^ 8 = C / 256 from rfl, us_n (k := 16) (by omega) 16 (by decide), nI_add, lt_e, show (63 : Int32) = nI 63 from rfl, ni_and]
  have h63 : ∀ z : Nat, z &&& 63 = z % 64 := fun z => Nat.and_two_pow_sub_one_eq_mod z 6
  rw [h63, ← hp]
  show _ = some (nI (_ % 64), c)
  rw [← hC, ← hB]
def bitsF (v : VB) (p : Nat) : Nat → Nat
  | 0 => 0
  | k + 1 => bitsF v p k + (if tb v 1 k 0 = p then 2 ^ k else 0)
theorem bitsF_lt (v : VB) (p : Nat) : ∀ k, bitsF v p k < 2 ^ k := by
  intro k
  induction k with
  | zero => exact Nat.one_pos
  | succ k ih => rw [bitsF, Nat.pow_succ]; split <;> omega
theorem pc_up {k y : Nat} (hk : k < 32) (hy : y < 2 ^ k) : pc 32 (y + 2 ^ k) = pc 32 y + 1 := by
  have hp := Nat.two_pow_pos k
  have h1 : pc 32 (y + 2 ^ k) = pc k (y + 2 ^ k) + pc (32 - k) ((y + 2 ^ k) / 2 ^ k) := by rw [← pc_add, show k + (32 - k) = 32 by omega]
  have h2 : pc 32 y = pc k y + pc (32 - k) (y / 2 ^ k) := by rw [← pc_add, show k + (32 - k) = 32 by omega]
  have h3 : (y + 2 ^ k) / 2 ^ k = 1 := by rw [Nat.add_div_right _ hp, Nat.div_eq_of_lt hy]
  have h4 : pc k (y + 2 ^ k) = pc k y := by rw [← pc_mod k (y + 2 ^ k), Nat.add_mod_right, pc_mod]
  have h5 : ∀ n, pc n 0 = 0 := by
    intro n
    induction n with
    | zero => rfl
    | succ n ih => rw [pc, ih]
  rw [h1, h2, h3, h4, Nat.div_eq_of_lt hy, h5]
  obtain ⟨e, he⟩ : ∃ e, 32 - k = e + 1 := ⟨31 - k, by omega⟩
  rw [he, pc, show 1 / 2 = 0 from rfl, h5]
theorem pc_zero : ∀ n, pc n 0 = 0 := by
  intro n
  induction n with
  | zero => rfl
  | succ n ih => rw [pc, ih]
theorem pc_bits (v : VB) (p : Nat) : ∀ k, k ≤ 30 → pc 32 (bitsF v p k) = ofP v p k := by
  intro k
  induction k with
  | zero => intro _; rw [bitsF, ofP]; exact pc_zero 32
  | succ k ih =>
    intro h
    have hi := ih (by omega)
    rw [bitsF, ofP]
    by_cases z : tb v 1 k 0 = p
    · rw [if_pos z, if_pos z, pc_up (by omega) (bitsF_lt v p k), hi]
    · rw [if_neg z, if_neg z, Nat.add_zero, Nat.add_zero, hi]
theorem or_up {k y : Nat} (hy : y < 2 ^ k) : y ||| 2 ^ k = y + 2 ^ k := by
  have := Nat.two_pow_add_eq_or_of_lt hy 1
  rw [Nat.mul_one] at this
  rw [Nat.add_comm, this, Nat.or_comm]
section PB
variable {N : Nat} {c m : Mem} {v : VB}
theorem e_bitsL (h : RCb c 1 v) (hv : IV v) {p : Nat} (hp : p < 2 ^ 31) : ∀ d k n, k + d = cnt v 1 → d < n → f_X0_paperBitsOf_L4 N n (nI p) (nI (bitsF v p k)) (nI k) c = some (nI (bitsF v p (cnt v 1)), c) := by
  have b1 := hv.np
  intro d
  induction d with
  | zero =>
    intro k n h1 h2
    obtain ⟨n, rfl⟩ := suc_of h2
    have e : k = cnt v 1 := by omega
    unfold f_X0_paperBitsOf_L4
    rw [ct1 h, le_t (by omega) (by omega), e]
  | succ d ih =>
    intro k n h1 h2
    obtain ⟨n, rfl⟩ := suc_of h2
    have hk : k < cnt v 1 := by omega
    have hi := ih (k + 1) n (by omega) (by omega)
    rw [bitsF] at hi
    unfold f_X0_paperBitsOf_L4
    rw [ct1 h, le_f hk (by omega), e_isOf h hv hk hp, bnd_s]
    unfold f_X0_paperBitsOf_j31
    rw [nI_1]
    by_cases z : tb v 1 k 0 = p
    · rw [if_pos z] at hi
      rw [decide_eq_true z, ite_T, e_bitN (by omega), bnd_s, ni_or, or_up (bitsF_lt v p k)]
      exact hi
    · rw [if_neg z, Nat.add_zero] at hi
      rw [decide_eq_false z, ite_F]
      exact hi
theorem e_paperBits (h : RCb c 1 v) (hv : IV v) {p : Nat} (hp : p < 2 ^ 31) (hN : 1000 ≤ N) : f_X0_paperBitsOf N (nI p) c = some (nI (bitsF v p (cnt v 1)), c) := by
  have b1 := hv.np
  exact e_bitsL h hv hp (cnt v 1) 0 N (by omega) (by omega)
theorem bits_small (hv : IV v) (p : Nat) : bitsF v p (cnt v 1) < 2 ^ 30 := Nat.lt_of_lt_of_le (bitsF_lt v p _) (Nat.pow_le_pow_right (by decide) hv.np)
theorem e_papersOf (h : RCb c 1 v) (hv : IV v) {p : Nat} (hp : p < 2 ^ 31) (hN : 1000 ≤ N) : f_X0_papersOf N (nI p) c = some (nI (ofP v p (cnt v 1)), c) := by
  have b1 := bits_small hv p
  unfold f_X0_papersOf
  rw [e_paperBits h hv hp hN, bnd_s, e_bitCount (by omega), bnd_s, pc_bits v p _ hv.np]
theorem m_papersL (h : RMl m v) (hv : IV v) {p : Nat} (hp : p < 2 ^ 31) : ∀ d k n, k + d = cnt v 1 → d < n → f_X9_papersOf_L4 N n (nI p) (nI (ofP v p k)) (nI k) m = some (nI (ofP v p (cnt v 1)), m) := by
  have b1 := hv.np
  have b0 := hv.n0
  intro d
  induction d with
  | zero =>
    intro k n h1 h2
    obtain ⟨n, rfl⟩ := suc_of h2
    have e : k = cnt v 1 := by omega
    unfold f_X9_papersOf_L4
    rw [mct1 h, le_t (by omega) (by omega), e]
  | succ d ih =>
    intro k n h1 h2
    obtain ⟨n, rfl⟩ := suc_of h2
    have hk : k < cnt v 1 := by omega
    have hk3 : k < 30 := by omega
    have q0 := (hv.2.1 k hk).1
    have hi := ih (k + 1) n (by omega) (by omega)
    rw [ofP] at hi
    unfold f_X9_papersOf_L4
    rw [mct1 h, le_f hk (by omega), pmg0 hk3, pmn0 hk3, mp0 h hk, ite_eq (by omega) hp]
    unfold f_X9_papersOf_j31
    rw [nI_1]
    by_cases z : tb v 1 k 0 = p
    · rw [if_pos z] at hi
      rw [if_pos z, bI_t, nI_1]
      exact hi
    · rw [if_neg z] at hi
      rw [if_neg z, bI_f, show (0 : Int32) = nI 0 from rfl, nI_add]
      exact hi
theorem m_papersOf (h : RMl m v) (hv : IV v) {p : Nat} (hp : p < 2 ^ 31) (hN : 1000 ≤ N) : f_X9_papersOf N (nI p) m = some (nI (ofP v p (cnt v 1)), m) := by
  have b1 := hv.np
  exact m_papersL h hv hp (cnt v 1) 0 N (by omega) (by omega)
end PB
