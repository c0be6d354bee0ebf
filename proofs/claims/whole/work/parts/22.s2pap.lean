-- papers: whose, seen, spans, what answers leave out
theorem tI_sub {x y : Int32} (hx : -1073741824 ≤ x.toInt ∧ x.toInt < 1073741824) (hy : -1073741824 ≤ y.toInt ∧ y.toInt < 1073741824) : (x - y).toInt = x.toInt - y.toInt := by
  rw [Int32.toInt_sub]
  exact Int.bmod_eq_of_le (by omega) (by omega)
theorem tI_add {x y : Int32} (hx : -1073741824 ≤ x.toInt ∧ x.toInt < 1073741824) (hy : -1073741824 ≤ y.toInt ∧ y.toInt < 1073741824) : (x + y).toInt = x.toInt + y.toInt := by
  rw [Int32.toInt_add]
  exact Int.bmod_eq_of_le (by omega) (by omega)
theorem tI {n : Nat} (h : n < 2 ^ 31) : (nI n).toInt = (n : Int) := nI_toInt h
theorem i32_eq {a b : Int32} : a = b ↔ a.toInt = b.toInt := Int32.toInt_inj.symm
theorem i32_le {a b : Int32} : a ≤ b ↔ a.toInt ≤ b.toInt := Int32.le_iff_toInt_le
theorem i32_lt {a b : Int32} : a < b ↔ a.toInt < b.toInt := Int32.lt_iff_toInt_lt
theorem tI_d {a b : Nat} (ha : a < 2 ^ 29) (hb : b < 2 ^ 29) : (nI a - nI b).toInt = (a : Int) - b := by
  rw [tI_sub (by rw [tI (by omega)]; omega) (by rw [tI (by omega)]; omega), tI (by omega), tI (by omega)]
theorem tI_dd {a b k : Nat} (ha : a < 2 ^ 29) (hb : b < 2 ^ 29) (hk : k < 2 ^ 29) : (nI a - nI b - nI k).toInt = (a : Int) - b - k := by
  rw [tI_sub (by rw [tI_d ha hb]; omega) (by rw [tI (by omega)]; omega), tI_d ha hb, tI (by omega)]
theorem tI_da {a b k : Nat} (ha : a < 2 ^ 29) (hb : b < 2 ^ 29) (hk : k < 2 ^ 29) : (nI a - nI b + nI k).toInt = (a : Int) - b + k := by
  rw [tI_add (by rw [tI_d ha hb]; omega) (by rw [tI (by omega)]; omega), tI_d ha hb, tI (by omega)]
theorem rem10 {a : Nat} (h : a < 2 ^ 31) : nI a - nI a / 10 * 10 = nI (a % 10) := pk_rem (d := 10) h (by decide) (by decide)
theorem remd10 {a : Nat} (h : a < 2 ^ 31) : nI a / 10 - nI a / 10 / 10 * 10 = nI (a / 10 % 10) := by
  rw [show nI a / 10 = nI (a / 10) from pk_div (d := 10) h (by decide) (by decide)]
  exact rem10 (by omega)
theorem div10 {a : Nat} (h : a < 2 ^ 31) : nI a / 10 = nI (a / 10) := pk_div (d := 10) h (by decide) (by decide)
theorem div100 {a : Nat} (h : a < 2 ^ 31) : nI a / 100 = nI (a / 100) := pk_div (d := 100) h (by decide) (by decide)
theorem imax_n {a b : Nat} (ha : a < 2 ^ 31) (hb : b < 2 ^ 31) : imax (nI a) (nI b) = nI (max a b) := by
  unfold imax
  rw [ite_lt ha hb]
  by_cases h : a < b
  · rw [if_pos h, Nat.max_eq_right (by omega)]
  · rw [if_neg h, Nat.max_eq_left (by omega)]
theorem suc_of {n d : Nat} (h : d < n) : ∃ m, n = m + 1 := ⟨n - 1, by omega⟩
def unl (a b : Nat) : Nat := (if a / 100 = b / 100 then 0 else 1) + (if a / 10 % 10 = b / 10 % 10 then 0 else 1) + (if a % 10 = b % 10 then 0 else 1)
def offS (b : Nat) : Nat := if b % 10 = 0 then 5 else if b % 10 = 5 then 2 else 1
/-- whether year y is in the span of a paper of kind q, made in a, that tells b -/
def inSp (q a b y : Nat) : Bool := if y ≤ a then (if q = 1 then decide (y = b) else if q = 2 then decide (b ≤ y + 1 ∧ y ≤ b + 1) else if q = 3 then decide (a ≤ y + b + offS b ∧ y + b ≤ a + offS b) else if q = 4 then decide (y + b = a ∨ y + b + 1 = a) else if q = 5 then decide (unl y b ≤ 1) else if q = 6 then decide (y + b ≤ a) else decide (y + 5 ≤ b)) else false
def spS (v : VB) (k y : Nat) : Bool := inSp (tb v 1 k 1) (tb v 1 k 2) (tb v 1 k 3) y
def seenF (v : VB) (p : Nat) : Nat → Nat
  | 0 => 0
  | k + 1 => if tb v 1 k 0 = p ∧ tb v 1 k 1 ≠ 6 then max (seenF v p k) (tb v 1 k 2) else seenF v p k
def seenS (v : VB) (p : Nat) : Nat := seenF v p (cnt v 1)
theorem seenF_le {v : VB} (hv : IV v) (p : Nat) : ∀ k, k ≤ cnt v 1 → seenF v p k ≤ 160 := by
  intro k
  induction k with
  | zero => intro _; exact Nat.zero_le _
  | succ k ih =>
    intro h
    have h1 := (hv.2.1 k (by omega)).2.2.1
    have h2 := ih (by omega)
    rw [seenF]
    split
    · exact Nat.max_le.mpr ⟨h2, h1⟩
    · exact h2
theorem seenS_le {v : VB} (hv : IV v) (p : Nat) : seenS v p ≤ 160 := seenF_le hv p _ (Nat.le_refl _)
section PAP
variable {N : Nat} {c m : Mem} {v : VB}
theorem IV.np (hv : IV v) : cnt v 1 ≤ 30 := hv.2.2.2.2.2.2.2.2.1
theorem IV.n0 (hv : IV v) : cnt v 0 ≤ 10 := hv.2.2.2.2.2.2.2.1
theorem e_isOf (h : RCb c 1 v) (hv : IV v) {k p : Nat} (hk : k < cnt v 1) (hp : p < 2 ^ 31) : f_X0_isOf N (nI k) (nI p) c = some (decide (tb v 1 k 0 = p), c) := by
  have b1 := hv.np
  have b2 := (hv.2.1 k hk).1
  have b3 := hv.n0
  unfold f_X0_isOf
  rw [th_hasN (T1 h) (by omega), bnd_s, decide_eq_true hk, ite_T, g10 h hk, bnd_s, ite_eq (by omega) hp]
  by_cases e : tb v 1 k 0 = p
  · rw [if_pos e, decide_eq_true e]
  · rw [if_neg e, decide_eq_false e]
theorem e_seenL (h : RCb c 1 v) (hv : IV v) {p : Nat} (hp : p < 2 ^ 31) : ∀ d k n, k + d = cnt v 1 → d < n → f_X0_seen_L4 N n (nI p) (nI (seenF v p k)) (nI k) c = some (nI (seenS v p), c) := by
  have b1 := hv.np
  intro d
  induction d with
  | zero =>
    intro k n h1 h2
    obtain ⟨n, rfl⟩ := suc_of h2
    have e : k = cnt v 1 := by omega
    unfold f_X0_seen_L4
    rw [ct1 h, le_t (by omega) (by omega), e]
    rfl
  | succ d ih =>
    intro k n h1 h2
    obtain ⟨n, rfl⟩ := suc_of h2
    have hk : k < cnt v 1 := by omega
    have b2 := hv.2.1 k hk
    have b3 := seenF_le hv p k (by omega)
    have hi := ih (k + 1) n (by omega) (by omega)
    unfold f_X0_seen_L4
    rw [ct1 h, le_f hk (by omega), e_isOf h hv hk hp, bnd_s]
    by_cases e1 : tb v 1 k 0 = p
    · rw [decide_eq_true e1, ite_T, g11 h hk, bnd_s, ek6 (by omega)]
      by_cases e2 : tb v 1 k 1 = 6
      · rw [if_pos e2]
        unfold f_X0_seen_j55
        rw [nI_1]
        rw [seenF, if_neg (fun z => z.2 e2)] at hi
        exact hi
      · rw [if_neg e2, g12 h hk, bnd_s, imax_n (by omega) (by omega)]
        unfold f_X0_seen_j55
        rw [nI_1]
        rw [seenF, if_pos ⟨e1, e2⟩] at hi
        exact hi
    · rw [decide_eq_false e1, ite_F]
      unfold f_X0_seen_j55
      rw [nI_1]
      rw [seenF, if_neg (fun z => e1 z.1)] at hi
      exact hi
theorem e_seen (h : RCb c 1 v) (hv : IV v) {p : Nat} (hp : p < 2 ^ 31) (hN : 1000 ≤ N) : f_X0_seen N (nI p) c = some (nI (seenS v p), c) := by
  have b1 := hv.np
  exact e_seenL h hv hp (cnt v 1) 0 N (by omega) (by omega)
theorem m_seenL (h : RMl m v) (hv : IV v) {p : Nat} (hp : p < 2 ^ 31) : ∀ d k n, k + d = cnt v 1 → d < n → f_X9_seenOf_L4 N n (nI p) (nI (seenF v p k)) (nI k) m = some (nI (seenS v p), m) := by
  have b1 := hv.np
  intro d
  induction d with
  | zero =>
    intro k n h1 h2
    obtain ⟨n, rfl⟩ := suc_of h2
    have e : k = cnt v 1 := by omega
    unfold f_X9_seenOf_L4
    rw [mct1 h, le_t (by omega) (by omega), e]
    rfl
  | succ d ih =>
    intro k n h1 h2
    obtain ⟨n, rfl⟩ := suc_of h2
    have hk : k < cnt v 1 := by omega
    have hk3 : k < 30 := by omega
    have b2 := hv.2.1 k hk
    have b0 := hv.n0
    have b3 := seenF_le hv p k (by omega)
    have hi := ih (k + 1) n (by omega) (by omega)
    have skip : ¬ (tb v 1 k 0 = p ∧ tb v 1 k 1 ≠ 6 ∧ seenF v p k < tb v 1 k 2) → seenF v p (k + 1) = seenF v p k := by
      intro z
      rw [seenF]
      split
      · next q => exact Nat.max_eq_left (by have := fun w => z ⟨q.1, q.2, w⟩; omega)
      · rfl
    have rest : ¬ (tb v 1 k 0 = p ∧ tb v 1 k 1 ≠ 6 ∧ seenF v p k < tb v 1 k 2) → f_X9_seenOf_j60 N (f_X9_seenOf_L4 N n) (nI p) (nI (seenF v p k)) (nI k) m = some (nI (seenS v p), m) := by
      intro z
      unfold f_X9_seenOf_j60 f_X9_seenOf_j61
      rw [ite_F]
      unfold f_X9_seenOf_j83
      rw [nI_1]
      rw [skip z] at hi
      exact hi
    unfold f_X9_seenOf_L4
    rw [mct1 h, le_f hk (by omega), pmg0 hk3, pmn0 hk3, mp0 h hk, ite_eq (by omega) hp]
    by_cases e1 : tb v 1 k 0 = p
    · rw [if_pos e1, pmg1 hk3, pmn1 hk3, mp1 h hk, ek6 (by omega)]
      by_cases e2 : tb v 1 k 1 = 6
      · rw [if_pos e2]
        exact rest (fun z => z.2.1 e2)
      · rw [if_neg e2, pmg2 hk3, pmn2 hk3, mp2 h hk, ite_le (by omega) (by omega)]
        by_cases e3 : tb v 1 k 2 ≤ seenF v p k
        · rw [if_pos e3]
          exact rest (fun z => by omega)
        · rw [if_neg e3]
          unfold f_X9_seenOf_j61
          rw [ite_T, pmg2 hk3, pmn2 hk3, mp2 h hk]
          unfold f_X9_seenOf_j83
          rw [nI_1]
          rw [seenF, if_pos ⟨e1, e2⟩, Nat.max_eq_right (by omega)] at hi
          exact hi
    · rw [if_neg e1]
      exact rest (fun z => e1 z.1)
theorem m_seen (h : RMl m v) (hv : IV v) {p : Nat} (hp : p < 2 ^ 31) (hN : 1000 ≤ N) : f_X9_seenOf N (nI p) m = some (nI (seenS v p), m) := by
  have b1 := hv.np
  exact m_seenL h hv hp (cnt v 1) 0 N (by omega) (by omega)
theorem e_near {a b : Int32} {k : Nat} (a0 : Int32) : f_X0_isNear N a0 a b c = some (decide (¬ a0 < a - b ∧ ¬ a + b < a0), c) := by
  unfold f_X0_isNear
  by_cases h1 : a0 < a - b
  · simp [h1]
  · by_cases h2 : a + b < a0 <;> simp [h1, h2]
theorem e_leeway {b : Nat} (hb : b ≤ 160) : f_X0_leewayOf N (nI b) c = some (nI (offS b), c) := by
  unfold f_X0_leewayOf offS
  rw [rem10 (by omega), ek0 (by omega), ek5 (by omega)]
  by_cases h1 : b % 10 = 0
  · rw [if_pos h1, if_pos h1]; rfl
  · by_cases h2 : b % 10 = 5
    · rw [if_neg h1, if_pos h2, if_neg h1, if_pos h2]; rfl
    · rw [if_neg h1, if_neg h2, if_neg h1, if_neg h2]; rfl
theorem unl_le (a b : Nat) : unl a b ≤ 3 := by
  unfold unl
  split <;> split <;> split <;> omega
theorem e_apart {a b : Nat} (ha : a ≤ 160) (hb : b ≤ 160) : f_X0_placesApart N (nI a) (nI b) c = some (nI (unl a b), c) := by
  unfold f_X0_placesApart f_X0_placesApart_j16 f_X0_placesApart_j37
  simp only [remd10 (show a < 2 ^ 31 by omega), remd10 (show b < 2 ^ 31 by omega), rem10 (show a < 2 ^ 31 by omega), rem10 (show b < 2 ^ 31 by omega), div100 (show a < 2 ^ 31 by omega), div100 (show b < 2 ^ 31 by omega), nI_eq (show a / 10 % 10 < 2 ^ 31 by omega) (show b / 10 % 10 < 2 ^ 31 by omega), nI_eq (show a % 10 < 2 ^ 31 by omega) (show b % 10 < 2 ^ 31 by omega), nI_eq (show a / 100 < 2 ^ 31 by omega) (show b / 100 < 2 ^ 31 by omega)]
  unfold unl
  by_cases h1 : a % 10 = b % 10 <;> by_cases h2 : a / 10 % 10 = b / 10 % 10 <;> by_cases h3 : a / 100 = b / 100 <;> simp only [h1, h2, h3, if_true, if_false] <;> rfl
theorem m_unlike {a b : Nat} (ha : a ≤ 160) (hb : b ≤ 160) : f_X9_unlike N (nI a) (nI b) m = some (nI (unl a b), m) := by
  unfold f_X9_unlike f_X9_unlike_j16 f_X9_unlike_j38
  simp only [remd10 (show a < 2 ^ 31 by omega), remd10 (show b < 2 ^ 31 by omega), rem10 (show a < 2 ^ 31 by omega), rem10 (show b < 2 ^ 31 by omega), div100 (show a < 2 ^ 31 by omega), div100 (show b < 2 ^ 31 by omega), nI_eq (show a / 10 % 10 < 2 ^ 31 by omega) (show b / 10 % 10 < 2 ^ 31 by omega), nI_eq (show a % 10 < 2 ^ 31 by omega) (show b % 10 < 2 ^ 31 by omega), nI_eq (show a / 100 < 2 ^ 31 by omega) (show b / 100 < 2 ^ 31 by omega)]
  unfold unl
  by_cases h1 : a % 10 = b % 10 <;> by_cases h2 : a / 10 % 10 = b / 10 % 10 <;> by_cases h3 : a / 100 = b / 100 <;> simp only [h1, h2, h3, if_true, if_false] <;> rfl
theorem offS_le (b : Nat) : offS b ≤ 5 := by
  unfold offS
  split
  · omega
  · split <;> omega
theorem dec_c {p q : Prop} {d : Decidable p} {e : Decidable q} (h : p ↔ q) : @decide p d = @decide q e := by
  by_cases hp : p
  · rw [decide_eq_true hp, decide_eq_true (h.mp hp)]
  · rw [decide_eq_false hp, decide_eq_false (fun z => hp (h.mpr z))]
theorem ite_dec {p q : Prop} {d : Decidable p} {e : Decidable q} (s : Mem) (h : p ↔ q) : (if p then some (true, s) else some (false, s)) = some (decide q, s) := by
  by_cases hp : p
  · rw [if_pos hp, decide_eq_true (h.mp hp)]
  · rw [if_neg hp, decide_eq_false (fun z => hp (h.mpr z))]
theorem ite_dec' {p q : Prop} {d : Decidable p} {e : Decidable q} (s : Mem) (h : ¬ p ↔ q) : (if p then some (false, s) else some (true, s)) = some (decide q, s) := by
  by_cases hp : p
  · rw [if_pos hp, decide_eq_false (fun z => h.mpr z hp)]
  · rw [if_neg hp, decide_eq_true (h.mp hp)]
theorem e_span (h : RCb c 1 v) (hv : IV v) {k y : Nat} (hk : k < cnt v 1) (hy : y ≤ 160) : f_X0_isInSpan N (nI k) (nI y) c = some (spS v k y, c) := by
  obtain ⟨-, b1, b2, b3, -⟩ := hv.2.1 k hk
  unfold f_X0_isInSpan spS inSp
  generalize ha : tb v 1 k 2 = a at b2
  generalize hb : tb v 1 k 3 = b at b3
  generalize hq : tb v 1 k 1 = q at b1
  have ho := offS_le b
  rw [g12 h hk, bnd_s, ha, g13 h hk, bnd_s, hb, ite_le (by omega) (by omega)]
  by_cases h0 : y ≤ a
  · rw [if_pos h0, if_pos h0, g11 h hk, bnd_s, hq, ek1 (by omega), ek2 (by omega), ek3 (by omega), ek4 (by omega), ek5 (by omega), ek6 (by omega), ek7 (by omega)]
    by_cases q1 : q = 1
    · rw [if_pos q1, if_pos q1]
      exact ite_dec c (nI_eq (by omega) (by omega))
    · rw [if_neg q1, if_neg q1]
      by_cases q2 : q = 2
      · rw [if_pos q2, if_pos q2, e_near (k := 0), bnd_s]
        refine congrArg (fun z => some (z, c)) (dec_c ?_)
        rw [i1, i32_lt, i32_lt, tI_d (by omega) (by omega), nI_add, tI (by omega), tI (by omega)]
        omega
      · rw [if_neg q2, if_neg q2]
        by_cases q3 : q = 3
        · rw [if_pos q3, if_pos q3, e_leeway b3, bnd_s, e_near (k := 0), bnd_s]
          refine congrArg (fun z => some (z, c)) (dec_c ?_)
          rw [i32_lt, i32_lt, tI_dd (by omega) (by omega) (by omega), tI_da (by omega) (by omega) (by omega), tI (by omega)]
          omega
        · rw [if_neg q3, if_neg q3]
          by_cases q4 : q = 4
          · rw [if_pos q4, if_pos q4]
            unfold f_X0_isInSpan_j132
            have e1 : (nI y = nI a - nI b) ↔ y + b = a := by
              rw [i32_eq, tI_d (by omega) (by omega), tI (by omega)]; omega
            have e2 : (nI y = nI a - nI b - 1) ↔ y + b + 1 = a := by
              rw [i1, i32_eq, tI_dd (by omega) (by omega) (by omega), tI (by omega)]; omega
            by_cases z1 : y + b = a
            · rw [if_pos (e1.mpr z1), decide_eq_true (Or.inl z1)]
            · rw [if_neg (fun z => z1 (e1.mp z))]
              refine ite_dec c (e2.trans ⟨Or.inr, fun z => z.resolve_left z1⟩)
          · rw [if_neg q4, if_neg q4]
            by_cases q5 : q = 5
            · have := unl_le y b
              rw [if_pos q5, if_pos q5, e_apart hy b3, bnd_s]
              exact ite_dec' c (by rw [i1, nI_ltI (by omega) (by omega)]; omega)
            · rw [if_neg q5, if_neg q5]
              by_cases q6 : q = 6
              · rw [if_pos q6, if_pos q6]
                exact ite_dec' c (by rw [i32_lt, tI_d (by omega) (by omega), tI (by omega)]; omega)
              · rw [if_neg q6, if_neg q6, if_pos (by omega)]
                exact ite_dec' c (by rw [i5, i32_lt, tI_d (by omega) (by omega), tI (by omega)]; omega)
  · rw [if_neg h0, if_neg h0]
theorem m_span (h : RMl m v) (hv : IV v) {k y : Nat} (hk : k < cnt v 1) (hy : y ≤ 160) : f_X9_spans N (nI k) (nI y) m = some (spS v k y, m) := by
  obtain ⟨-, b1, b2, b3, -⟩ := hv.2.1 k hk
  have hk3 : k < 30 := by have := hv.np; omega
  unfold f_X9_spans spS inSp
  rw [pmg2 hk3, lt_e, pmg3 hk3, lt_e, pmn2 hk3, pmn3 hk3, mp2 h hk, mp3 h hk, pmg1 hk3, pmn1 hk3, mp1 h hk]
  generalize ha : tb v 1 k 2 = a at b2
  generalize hb : tb v 1 k 3 = b at b3
  generalize hq : tb v 1 k 1 = q at b1
  have ho := offS_le b
  rw [ite_le (by omega) (by omega)]
  by_cases h0 : y ≤ a
  · rw [if_pos h0, if_pos h0, ek1 (by omega), ek2 (by omega), ek3 (by omega), ek4 (by omega), ek5 (by omega), ek6 (by omega)]
    by_cases q1 : q = 1
    · rw [if_pos q1, if_pos q1]
      exact ite_dec m (nI_eq (by omega) (by omega))
    · rw [if_neg q1, if_neg q1]
      by_cases q2 : q = 2
      · rw [if_pos q2, if_pos q2, e_in, bnd_s]
        refine congrArg (fun z => some (z, m)) (dec_c ?_)
        rw [i1, i32_lt, i32_lt, tI_d (by omega) (by omega), nI_add, tI (by omega), tI (by omega)]
        omega
      · rw [if_neg q2, if_neg q2]
        by_cases q3 : q = 3
        · rw [if_pos q3, if_pos q3]
          have key : f_X9_spans_j139 N (nI y) (nI a - nI b) (nI (offS b)) m = some (decide (a ≤ y + b + offS b ∧ y + b ≤ a + offS b), m) := by
            unfold f_X9_spans_j139
            rw [e_in, bnd_s]
            refine congrArg (fun z => some (z, m)) (dec_c ?_)
            rw [i32_lt, i32_lt, tI_dd (by omega) (by omega) (by omega), tI_da (by omega) (by omega) (by omega), tI (by omega)]
            omega
          rw [rem10 (by omega), ek0 (by omega), ek5 (by omega)]
          unfold offS at key ⊢
          by_cases z1 : b % 10 = 0
          · simp only [if_pos z1] at key ⊢
            exact key
          · by_cases z2 : b % 10 = 5
            · simp only [if_neg z1, if_pos z2] at key ⊢
              exact key
            · simp only [if_neg z1, if_neg z2] at key ⊢
              exact key
        · rw [if_neg q3, if_neg q3]
          by_cases q4 : q = 4
          · rw [if_pos q4, if_pos q4, e_in, bnd_s]
            refine congrArg (fun z => some (z, m)) (dec_c ?_)
            rw [i1, i32_lt, i32_lt, tI_dd (by omega) (by omega) (by omega), tI_d (by omega) (by omega), tI (by omega)]
            omega
          · rw [if_neg q4, if_neg q4]
            by_cases q5 : q = 5
            · have := unl_le y b
              rw [if_pos q5, if_pos q5, m_unlike hy b3, bnd_s]
              exact ite_dec' m (by rw [i1, nI_ltI (by omega) (by omega)]; omega)
            · rw [if_neg q5, if_neg q5]
              by_cases q6 : q = 6
              · rw [if_pos q6, if_pos q6]
                exact ite_dec' m (by rw [i32_lt, tI_d (by omega) (by omega), tI (by omega)]; omega)
              · rw [if_neg q6, if_neg q6]
                exact ite_dec' m (by rw [i5, i32_lt, tI_d (by omega) (by omega), tI (by omega)]; omega)
  · rw [if_neg h0, if_neg h0]
end PAP
