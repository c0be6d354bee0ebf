-- sheet, life, register
section SHEETS2
variable {N : Nat} {c m : Mem} {v vk : VB}
theorem e_fillL {ar : Nat} (hl : ln ar = 40) : ∀ d k n (c : Mem), k + d = 40 → d < n → ∃ c2, f_J7_fill_53178_L5 N ar n 0 (nI k) (nI 40) c = some ((), c2) ∧ Sm1 (fun o => o = ar) c c2 ∧ ∀ i, rI c2 ar i = if k ≤ i ∧ i < 40 then 0 else rI c ar i := by
  intro d
  induction d with
  | zero =>
    intro k n c h1 h2
    obtain ⟨n, rfl⟩ := suc_of h2
    refine ⟨c, ?_, Sm1.rf, fun i => by rw [if_neg (by omega)]⟩
    unfold f_J7_fill_53178_L5
    rw [le_t (by omega) (by omega)]
  | succ d ih =>
    intro k n c h1 h2
    obtain ⟨n, rfl⟩ := suc_of h2
    obtain ⟨c2, e1, e2, e3⟩ := ih (k + 1) n (wI c ar k 0) (by omega) (by omega)
    refine ⟨c2, ?_, (Sm1.wI (P := fun o => o = ar) rfl).tr e2, fun i => ?_⟩
    · unfold f_J7_fill_53178_L5
      rw [le_f (by omega) (by omega), hl, gin_n (by omega) (by decide), lt_e, nI_clamp (by omega), nI_1]
      exact e1
    · rw [e3, rI_w]
      by_cases a : i = k
      · rw [if_neg (by omega), if_pos ⟨rfl, a⟩, if_pos (by omega)]
      · rw [if_neg (c := ar = ar ∧ i = k) (fun z => a z.2)]
        by_cases b : k + 1 ≤ i ∧ i < 40
        · rw [if_pos b, if_pos (by omega)]
        · rw [if_neg b, if_neg (by omega)]
theorem e_become {j n : Nat} (hj : j < 4) (hn : n ≤ 40) (hN : 1000 ≤ N) (x : Int32) : ∃ c2, f_X4_become N (48 + 2 * j) x (nI n) c = some ((), c2) ∧ (∀ o k, o ≠ 48 + 2 * j → o ≠ 48 + 2 * j + 1 → rI c2 o k = rI c o k) ∧ rI c2 (48 + 2 * j) 1 = x ∧ rI c2 (48 + 2 * j) 2 = nI n ∧ ∀ i, i < 40 → rI c2 (48 + 2 * j + 1) i = 0 := by
  have im : imax 0 (imin (nI n) (nI 40)) = nI n := by
    unfold imin
    rw [ite_lt (by omega) (by omega), if_neg (by omega)]
    unfold imax
    rw [klt0 (by omega)]
    by_cases z : 0 < n
    · rw [if_pos z]
    · rw [if_neg z, show n = 0 by omega]; rfl
  obtain ⟨c2, e1, e2, e3⟩ := e_fillL (N := N) (ln_sh j hj) 40 0 N (wI (wI c (48 + 2 * j) 1 x) (48 + 2 * j) 2 (nI n)) (by omega) (by omega)
  refine ⟨c2, ?_, fun o k h1 h2 => ?_, ?_, ?_, fun i hi => ?_⟩
  · unfold f_X4_become f_J7_fill_53178
    rw [ln_sh j hj, lt_e, lt_e, im]
    exact (congrArg (fun z => bnd z fun _ s3 => some ((), s3)) e1)
  · rw [(e2 o h2).1, rI_ne h1, rI_ne h1]
  · rw [(e2 _ (by omega)).1, rI_w, if_neg (by omega), rI_w, if_pos ⟨rfl, rfl⟩]
  · rw [(e2 _ (by omega)).1, rI_w, if_pos ⟨rfl, rfl⟩]
  · rw [e3, if_pos (by omega)]
theorem m_clearL {j : Nat} (hj : j < 4) : ∀ d k n (m : Mem), k + d = 40 → d < n → ∃ m2, f_X9_sheet_L64 N n (nI j) (nI k) m = some (1, m2) ∧ (∀ o i, rI m2 o i = rI m o i) ∧ ∀ i, rL m2 81 i = if 40 * j + k ≤ i ∧ i < 40 * j + 40 then 0 else rL m 81 i := by
  intro d
  induction d with
  | zero =>
    intro k n m h1 h2
    obtain ⟨n, rfl⟩ := suc_of h2
    refine ⟨m, ?_, fun _ _ => rfl, fun i => by rw [if_neg (by omega)]⟩
    unfold f_X9_sheet_L64
    rw [kle40 (by omega), if_pos (by omega)]
  | succ d ih =>
    intro k n m h1 h2
    obtain ⟨n, rfl⟩ := suc_of h2
    obtain ⟨m2, e1, e2, e3⟩ := ih (k + 1) n (wL m 81 (40 * j + k) 0) (by omega) (by omega)
    refine ⟨m2, ?_, fun o i => by rw [e2]; rfl, fun i => ?_⟩
    · unfold f_X9_sheet_L64
      rw [kle40 (by omega), if_neg (by omega), show (40 : Int32) * nI j = nI (40 * j) from pk_mul 40 j, nI_add, gin_n (by omega) (by decide), lt_e, nI_clamp (by omega), nI_1]
      exact e1
    · rw [e3, rL_w]
      by_cases a : i = 40 * j + k
      · rw [if_neg (by omega), if_pos ⟨rfl, a⟩, if_pos (by omega)]
      · rw [if_neg (c := (81 : Nat) = 81 ∧ i = 40 * j + k) (fun z => a z.2)]
        by_cases b : 40 * j + (k + 1) ≤ i ∧ i < 40 * j + 40
        · rw [if_pos b, if_pos (by omega)]
        · rw [if_neg b, if_neg (by omega)]
theorem m_j60 {j n : Nat} (hj : j < 4) (hN : 1000 ≤ N) (m : Mem) : ∃ m2, f_X9_sheet_j60 N (nI j) (nI n) (nI j) m = some (1, m2) ∧ (∀ o k, ¬ (o = 80 ∧ k = j) → rI m2 o k = rI m o k) ∧ rI m2 80 j = nI n ∧ ∀ i, rL m2 81 i = if 40 * j ≤ i ∧ i < 40 * j + 40 then 0 else rL m 81 i := by
  obtain ⟨m2, e1, e2, e3⟩ := m_clearL (N := N) hj 40 0 N (wI m 80 j (nI n)) (by omega) (by omega)
  refine ⟨m2, ?_, fun o k hk => by rw [e2, rI_w, if_neg hk], by rw [e2, rI_w, if_pos ⟨rfl, rfl⟩], fun i => by rw [e3]; rfl⟩
  unfold f_X9_sheet_j60
  rw [gin_n hj (by decide), lt_e, nI_clamp (by omega)]
  exact e1
theorem b_shset (R : Rv c m v vk) (hN : 1000 ≤ N) {j so n : Nat} (hj : j < 4) (hso : so = 0 ∧ n = 0 ∨ 1 ≤ so ∧ so ≤ 4 ∧ n ≤ 40) : Both (bnd (f_X4_become N (48 + 2 * j) (nI so - 1) (nI n) c) fun _ s => some ((1 : Int32), s)) (f_X9_sheet_j60 N (nI j) (nI n) (nI j) (wI m 79 j (nI so - 1))) := by
  obtain ⟨c2, e1, e2, e3, e4, e5⟩ := e_become (N := N) (c := c) hj (show n ≤ 40 by omega) hN (nI so - 1)
  obtain ⟨m2, f1, f2, f3, f4⟩ := m_j60 (N := N) (n := n) hj hN (wI m 79 j (nI so - 1))
  rw [e1, bnd_s, f1]
  refine Both.of rfl rfl (R.shset (j := j) (so := so) (n := n) hj ⟨hso, e3, ?_, e4, f3, fun i hi => ?_⟩ e2 (fun o k h1 h2 => ?_) (fun i hi => ?_))
  · rw [f2 _ _ (by omega), rI_w, if_pos ⟨rfl, rfl⟩]
  · rw [f4, if_pos (by omega), e5 i hi]; rfl
  · rw [f2 o k h2, rI_w, if_neg h1]
  · rw [f4, if_neg hi]; rfl
theorem b_sheet (R : Rv c m v vk) (hN : 1000 ≤ N) (a1 a2 a3 : Int32) : Both (f_X8_sheet N a1 a2 a3 c) (f_X9_sheet N a1 a2 a3 m) := by
  unfold f_X8_sheet f_X9_sheet
  rw [e_isSheet, bnd_s, e_isShelf, bnd_s, ite_d, ite_d]
  by_cases h1 : ¬ a1 < 0 ∧ ¬ (3 : Int32) < a1
  · obtain ⟨j, hj, rfl⟩ := btw_of (n := 3) (by decide) h1.1 h1.2
    have G : ∀ X : Option (Int32 × Mem), gin (nI j) 4 X = X := fun X => gin_n (by omega) (by decide)
    unfold f_X9_sheet_j28 f_X9_sheet_j39
    simp only [G, lt_e]
    rw [if_pos h1, if_pos h1, e_within, bnd_s, e_in, bnd_s, ite_d, ite_d, cl_o (by omega), nI_clamp (by omega)]
    by_cases h2 : ¬ a2 < -1 ∧ ¬ (3 : Int32) < a2
    · rw [if_pos h2, if_pos h2]
      by_cases h3 : a2 < 0
      · have e : a2 = -1 := by
          have h4 := h2.1
          rw [i32_lt] at h3 h4
          rw [i32_eq]
          have e1 : (-1 : Int32).toInt = -1 := by decide
          have e0 : (0 : Int32).toInt = 0 := by decide
          rw [e1] at h4 ⊢
          rw [e0] at h3
          omega
        rw [if_pos e, if_pos h3, if_pos h3, e, if_neg (by decide)]
        exact b_shset R hN (so := 0) (n := 0) (by omega) (Or.inl ⟨rfl, rfl⟩)
      · obtain ⟨so, hs, rfl⟩ := btw_of (n := 3) (by decide) h3 h2.2
        rw [if_neg (nI_nm1 (by omega)), if_neg h3, if_neg h3, if_pos (nI_pos' (by omega))]
        by_cases h4 : a3 ≤ 40
        · rw [if_pos h4, if_pos h4]
          by_cases h5 : 0 ≤ a3
          · obtain ⟨n, hn, rfl⟩ := btw_of (a := a3) (n := 40) (by decide) (by rw [i32_lt]; rw [i32_le] at h5; exact Int.not_lt.mpr h5) (by show ¬ (40 : Int32) < a3; rw [i32_lt]; rw [i32_le] at h4; exact Int.not_lt.mpr h4)
            rw [if_pos h5, if_pos h5]
            have := b_shset (N := N) R hN (j := j) (so := so + 1) (n := n) (by omega) (Or.inr ⟨by omega, by omega, hn⟩)
            rw [so_1 (by omega), Nat.add_sub_cancel] at this
            exact this
          · rw [if_neg h5, if_neg h5]
            exact both_bad R _
        · rw [if_neg h4, if_neg h4]
          exact both_bad R _
    · rw [if_neg h2, if_neg h2]
      exact both_bad R _
  · rw [if_neg h1, if_neg h1]
    exact both_bad R _
-- life
theorem i64_0 (x : Int32) : x.toInt64 < 0 ↔ x < 0 := by
  rw [Int64.lt_iff_toInt_lt, i32_lt, Int32.toInt_toInt64]; exact Iff.rfl
theorem i64_100 (x : Int32) : (100 : Int64) < x.toInt64 ↔ (100 : Int32) < x := by
  rw [Int64.lt_iff_toInt_lt, i32_lt, Int32.toInt_toInt64]; exact Iff.rfl
def lok (c : Mem) (j i : Nat) : Bool := decide (¬ rI c (48 + 2 * j + 1) i < 0 ∧ ¬ (100 : Int32) < rI c (48 + 2 * j + 1) i)
theorem c_lifeT {j : Nat} (hj : j < 4) (hs : rI c (48 + 2 * j) 2 = nI 17) : ∀ d k n, k + d = 17 → d < n → allB (lok c j) k = true → f_X8_isLifeTable_L13 N (48 + 2 * j) n (nI k) c = some (allB (lok c j) 17, c) := by
  intro d
  induction d with
  | zero =>
    intro k n h1 h2 h3
    obtain ⟨n, rfl⟩ := suc_of h2
    have e : k = 17 := by omega
    unfold f_X8_isLifeTable_L13
    rw [kle17 (by omega), if_pos (by omega)]
    exact congrArg (fun q => some (q, c)) (by rw [← e]; exact h3.symm)
  | succ d ih =>
    intro k n h1 h2 h3
    obtain ⟨n, rfl⟩ := suc_of h2
    have hi := ih (k + 1) n (by omega) (by omega)
    rw [allB, h3, Bool.true_and] at hi
    unfold f_X8_isLifeTable_L13
    rw [kle17 (by omega), if_neg (by omega), sh_get hj hs (by decide) (by omega), bnd_s, e_within, bnd_s, nI_1]
    by_cases w : lok c j k = true
    · rw [if_pos (show decide _ = true from w)]
      exact hi w
    · have f := allB_f (Q := lok c j) (k := k + 1) (by rw [allB, h3, Bool.true_and]; exact no_t w) d
      rw [show k + 1 + d = 17 by omega] at f
      rw [if_neg (show ¬ decide _ = true from w)]
      exact congrArg (fun q => some (q, c)) f.symm
theorem m_lifeT {j : Nat} (hj : j < 4) (q6 : ∀ i, i < 40 → rL m 81 (40 * j + i) = (rI c (48 + 2 * j + 1) i).toInt64) (K : Int32 → Bool → Mem → Option (Int32 × Mem)) : ∀ d k n, k + d = 17 → d < n → f_X9_life_L42 N K n (nI j) (allB (lok c j) k) (nI k) m = K (nI j) (allB (lok c j) 17) m := by
  intro d
  induction d with
  | zero =>
    intro k n h1 h2
    obtain ⟨n, rfl⟩ := suc_of h2
    have e : k = 17 := by omega
    unfold f_X9_life_L42
    rw [kle17 (by omega), if_pos (by omega), e]
  | succ d ih =>
    intro k n h1 h2
    obtain ⟨n, rfl⟩ := suc_of h2
    have hi := ih (k + 1) n (by omega) (by omega)
    rw [allB] at hi
    unfold f_X9_life_L42
    rw [kle17 (by omega), if_neg (by omega), show (40 : Int32) * nI j = nI (40 * j) from pk_mul 40 j, nI_add, gin_n (by omega) (by decide), gin_n (by omega) (by decide), nI_clamp (by omega), q6 k (by omega)]
    unfold f_X9_life_j93 f_X9_life_j94
    rw [nI_1]
    by_cases z : allB (lok c j) k = true
    · rw [z, Bool.true_and] at hi
      rw [z, ite_T]
      unfold lok at hi
      by_cases w1 : rI c (48 + 2 * j + 1) k < 0
      · rw [decide_eq_false (fun q => q.1 w1)] at hi
        rw [if_pos ((i64_0 _).mpr w1)]; exact hi
      · by_cases w2 : (100 : Int32) < rI c (48 + 2 * j + 1) k
        · rw [decide_eq_false (fun q => q.2 w2)] at hi
          rw [if_neg (fun q => w1 ((i64_0 _).mp q)), if_pos ((i64_100 _).mpr w2)]; exact hi
        · rw [decide_eq_true ⟨w1, w2⟩] at hi
          rw [if_neg (fun q => w1 ((i64_0 _).mp q)), if_neg (fun q => w2 ((i64_100 _).mp q))]; exact hi
    · rw [no_t z, Bool.false_and] at hi
      rw [no_t z, ite_F]; exact hi
theorem m_lifeF {j : Nat} (K : Int32 → Bool → Mem → Option (Int32 × Mem)) : ∀ d k n, k + d = 17 → d < n → f_X9_life_L42 N K n (nI j) false (nI k) m = K (nI j) false m := by
  intro d
  induction d with
  | zero =>
    intro k n h1 h2
    obtain ⟨n, rfl⟩ := suc_of h2
    unfold f_X9_life_L42
    rw [kle17 (by omega), if_pos (by omega)]
  | succ d ih =>
    intro k n h1 h2
    obtain ⟨n, rfl⟩ := suc_of h2
    unfold f_X9_life_L42
    rw [kle17 (by omega), if_neg (by omega), ite_F]
    unfold f_X9_life_j93 f_X9_life_j94
    rw [nI_1]
    exact ih (k + 1) n (by omega) (by omega)
theorem c_lifeL {j : Nat} (hj : j < 4) : ∀ d k n (c : Mem), TB c 6 1 17 17 → rI c (48 + 2 * j) 2 = nI 17 → k + d = 17 → d < n → ∃ c2, f_X8_life_L43 N n (nI j) (nI k) c = some (1, c2) ∧ Sm1 (fun o => o = 7) c c2 ∧ ∀ i, i < 17 → rI c2 7 i = if k ≤ i then rI c (48 + 2 * j + 1) i else rI c 7 i := by
  intro d
  induction d with
  | zero =>
    intro k n c t hs h1 h2
    obtain ⟨n, rfl⟩ := suc_of h2
    refine ⟨c, ?_, Sm1.rf, fun i hi => by rw [if_neg (by omega)]⟩
    unfold f_X8_life_L43
    rw [kle17 (by omega), if_pos (by omega)]
  | succ d ih =>
    intro k n c t hs h1 h2
    obtain ⟨n, rfl⟩ := suc_of h2
    obtain ⟨c2, e1, e2, e3⟩ := ih (k + 1) n (wI c 7 (k * 1 + 0) (rI c (48 + 2 * j + 1) k)) (t.setC _ _) (by rw [rI_ne (by omega)]; exact hs) (by omega) (by omega)
    refine ⟨c2, ?_, (Sm1.wI (P := fun o => o = 7) rfl).tr e2, fun i hi => ?_⟩
    · unfold f_X8_life_L43
      rw [kle17 (by omega), if_neg (by omega), gin_n (by omega) (by decide), cl_o (by omega), sh_get hj hs (by decide) (by omega), bnd_s, th_s0 t (by omega) (by decide), bnd_s, nI_1]
      exact e1
    · rw [e3 i hi, rI_ne (by omega), rI_w]
      by_cases a : i = k
      · rw [if_neg (by omega), if_pos ⟨rfl, by omega⟩, if_pos (by omega), a]
      · rw [if_neg (c := (7 : Nat) = 7 ∧ i = k * 1 + 0) (by omega)]
        by_cases b : k + 1 ≤ i
        · rw [if_pos b, if_pos (by omega)]
        · rw [if_neg b, if_neg (by omega)]
theorem m_lifeL {j : Nat} (hj : j < 4) (x : Nat → Int32) : ∀ d k n (m : Mem), (∀ i, i < 40 → rL m 81 (40 * j + i) = (x i).toInt64) → k + d = 17 → d < n → ∃ m2, f_X9_life_L111 N n (nI j) (nI k) m = some (1, m2) ∧ Sm1 (fun o => o = 64) m m2 ∧ ∀ i, i < 17 → rI m2 64 i = if k ≤ i then x i else rI m 64 i := by
  intro d
  induction d with
  | zero =>
    intro k n m q6 h1 h2
    obtain ⟨n, rfl⟩ := suc_of h2
    refine ⟨m, ?_, Sm1.rf, fun i hi => by rw [if_neg (by omega)]⟩
    unfold f_X9_life_L111
    rw [kle17 (by omega), if_pos (by omega)]
  | succ d ih =>
    intro k n m q6 h1 h2
    obtain ⟨n, rfl⟩ := suc_of h2
    obtain ⟨m2, e1, e2, e3⟩ := ih (k + 1) n (wI m 64 k (x k)) (fun i hi => q6 i hi) (by omega) (by omega)
    refine ⟨m2, ?_, (Sm1.wI (P := fun o => o = 64) rfl).tr e2, fun i hi => ?_⟩
    · unfold f_X9_life_L111
      rw [kle17 (by omega), if_neg (by omega), show (40 : Int32) * nI j = nI (40 * j) from pk_mul 40 j, nI_add, gin_n (by omega) (by decide), gin_n (by omega) (by decide), nI_clamp (by omega), nI_clamp (by omega), q6 k (by omega), lt_e, nI_1, show (x k).toInt64.toInt32 = x k by simp]
      exact e1
    · rw [e3 i hi, rI_w]
      by_cases a : i = k
      · rw [if_neg (by omega), if_pos ⟨rfl, a⟩, if_pos (by omega), a]
      · rw [if_neg (c := (64 : Nat) = 64 ∧ i = k) (fun z => a z.2)]
        by_cases b : k + 1 ≤ i
        · rw [if_pos b, if_pos (by omega)]
        · rw [if_neg b, if_neg (by omega)]
def lifV (v : VB) (f : Nat → Nat) : VB := (v.1, fun i r k => if i = 2 ∧ k = 0 then f r else tb v i r k)
theorem b_life (R : Rv c m v vk) (hN : 1000 ≤ N) (a1 : Int32) : Both (f_X8_life N a1 c) (f_X9_life N a1 m) := by
  obtain ⟨h, g, hv, -⟩ := id R
  unfold f_X8_life f_X9_life
  rw [e_isSheet, bnd_s, e_isShelf, bnd_s, ite_d, ite_d]
  by_cases h1 : ¬ a1 < 0 ∧ ¬ (3 : Int32) < a1
  · obtain ⟨j, hj, rfl⟩ := btw_of (n := 3) (by decide) h1.1 h1.2
    obtain ⟨so, n, S⟩ := R.sh (show j < 4 by omega)
    have hj4 : j < 4 := by omega
    have G : ∀ X : Option (Int32 × Mem), gin (nI j) 4 X = X := fun X => gin_n (by omega) (by decide)
    have r1 : f_X4_refusalAs N (48 + 2 * j) 1 c = some (refu so 1, c) := sh_ref S (as := 1) (by decide)
    have r2 : f_X9_lacksSort N (nI j) 1 m = some (refu so 1, m) := m_lacks S hj4 (as := 1) (by decide)
    simp only [G]
    rw [if_pos h1, if_pos h1, cl_o hj4, r1, bnd_s, r2, bnd_s]
    by_cases z : so = 1 + 1
    · obtain ⟨q1, q2, q3, q4, q5, q6⟩ := S
      rw [if_pos (refu0.mpr z), if_pos (refu0.mpr z), nI_clamp (by omega), q5]
      unfold f_X8_isLifeTable
      rw [q4, ek17 (by omega), ek17 (by omega)]
      unfold f_X9_life_j38
      by_cases w : n = 17
      · subst w
        have e1 := c_lifeT (N := N) (c := c) hj4 q4 17 0 N (by omega) (by omega) rfl
        have e1' : f_X8_isLifeTable_L13 N (48 + 2 * j) N 0 c = some (allB (lok c j) 17, c) := e1
        have e2 := m_lifeT (N := N) (m := m) (c := c) hj4 q6 (f_X9_life_j101 N) 17 0 N (by omega) (by omega)
        have e2' : f_X9_life_L42 N (f_X9_life_j101 N) N (nI j) true 0 m = f_X9_life_j101 N (nI j) (allB (lok c j) 17) m := e2
        rw [if_pos rfl, if_pos rfl, e1', bnd_s, e2']
        unfold f_X9_life_j101
        by_cases y : allB (lok c j) 17 = true
        · rw [if_pos y, if_pos y]
          have t6 : TB c 6 1 17 17 := by
            have := h.T (j := 2) (by decide)
            rw [hv.2.2.1.1] at this
            exact this
          obtain ⟨c2, f1, f2, f3⟩ := c_lifeL (N := N) hj4 17 0 N c t6 q4 (by omega) (by omega)
          obtain ⟨m2, k1, k2, k3⟩ := m_lifeL (N := N) hj4 (fun i => rI c (48 + 2 * j + 1) i) 17 0 N m q6 (by omega) (by omega)
          have val : ∀ i, i < 17 → ∃ a, a ≤ 100 ∧ rI c (48 + 2 * j + 1) i = nI a ∧ (rI c (48 + 2 * j + 1) i).toNatClampNeg = a := by
            intro i hi
            have q := of_decide_eq_true ((allB_iff 17).mp y i hi)
            obtain ⟨a, a1, a2⟩ := btw_of (n := 100) (by decide) q.1 q.2
            exact ⟨a, a1, a2, by rw [a2, nI_clamp (by omega)]⟩
          have T : ∀ i r k, i ≠ 2 → tb (lifV v (fun i => (rI c (48 + 2 * j + 1) i).toNatClampNeg)) i r k = tb v i r k := fun i r k hi => if_neg (fun q => hi q.1)
          refine Both.of f1 k1 (R.keepB (v2 := lifV v (fun i => (rI c (48 + 2 * j + 1) i).toNatClampNeg)) ⟨fun i hi => ⟨?_, fun r k hr hk => ?_⟩, ?_⟩ ?_ ?_ (fun o k ho _ => (f2 o (by omega)).1 k) (fun o k ho => (k2 o (by omega)).1 k) (fun k => (k2 81 (by decide)).2 k))
          · exact (h.T hi).keep (fun k => (f2 _ (by omega)).1 k)
          · by_cases e : i = 2
            · subst e
              have hr' : r < 17 := by have := hv.2.2.1.1; have hr2 : r < cnt v 2 := hr; omega
              have hk0 : k = 0 := by have : k < 1 := hk; omega
              subst hk0
              obtain ⟨a, a1, a2, a3⟩ := val r hr'
              show rI c2 7 (r * 1 + 0) = enc 2 0 (rI c (48 + 2 * j + 1) r).toNatClampNeg
              rw [show r * 1 + 0 = r by omega, f3 r hr', if_pos (Nat.zero_le _), a3, a2]; rfl
            · rw [T i r k e, (f2 _ (by omega)).1]
              exact h.C hi hr hk
          · show rI c2 1 7 = nI (cnt v 7)
            rw [(f2 _ (by decide)).1]; exact h.2
          · obtain ⟨g0, g1, g2, g3, g4, g5, g6⟩ := RMl_i.mp g
            have ea : ∀ j, j ≠ 2 → avL m2 j = avL m j := fun j hj => by funext i; exact (k2 _ (by omega)).1 i
            have ec : cvL m2 = cvL m := by funext i; exact (k2 _ (by decide)).1 _
            refine RMl_i.mpr ?_
            rw [ec, ea 0 (by decide), ea 1 (by decide), ea 3 (by decide), ea 4 (by decide), ea 5 (by decide), ea 6 (by decide), ea 7 (by decide), ea 8 (by decide)]
            refine ⟨g0, g1, fun k hk => ?_, g3, g4, g5, g6⟩
            obtain ⟨a, a1, a2, a3⟩ := val k hk
            show rI m2 64 k = nI (rI c (48 + 2 * j + 1) k).toNatClampNeg
            rw [k3 k hk, if_pos (Nat.zero_le _), a3]; exact a2
          · obtain ⟨h0, h1, h2, h3, h4, h5, h6⟩ := hv
            refine ⟨h0, h1, ⟨h2.1, fun r hr => ?_⟩, h3, h4, fun p => ?_, h6⟩
            · obtain ⟨a, a1, a2, a3⟩ := val r hr
              show (rI c (48 + 2 * j + 1) r).toNatClampNeg ≤ 100
              rw [a3]; exact a1
            · show ofP _ _ (cnt v 1) ≤ 6
              rw [ofP_c (v := v) p _ (fun r _ => T 1 r 0 (by decide))]; exact h5 p
        · rw [if_neg y, if_neg y]
          exact both_bad R _
      · have e2 := m_lifeF (N := N) (m := m) (j := j) (f_X9_life_j101 N) 17 0 N (by omega) (by omega)
        have e2' : f_X9_life_L42 N (f_X9_life_j101 N) N (nI j) false 0 m = f_X9_life_j101 N (nI j) false m := e2
        rw [if_neg w, if_neg w, bnd_s, e2', ite_F]
        unfold f_X9_life_j101
        rw [ite_F]
        exact both_bad R _
    · rw [if_neg (fun e => z (refu0.mp e)), if_neg (fun e => z (refu0.mp e))]
      exact both_bad R _
  · rw [if_neg h1, if_neg h1]
    exact both_bad R _
end SHEETS2
