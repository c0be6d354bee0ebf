-- both sides' tokens
def tkn (B : Nat → Nat) (q e : Nat) : Nat := tokC B q (tkF B q e)
def tnx (B : Nat → Nat) (q e : Nat) : Nat := tkE B q (tkF B q e)
def nmb (B : Nat → Nat) (q e : Nat) : Nat := num B (tkF B q e) (tkE B q (tkF B q e) - tkF B q e)
def MT (m : Mem) (q : Nat) (B : Nat → Nat) (e : Nat) : Prop := rI m 61 19 = nI (tkF B q e) ∧ rI m 61 18 = nI (tkK B q (tkF B q e)) ∧ rI m 61 20 = nI (tnx B q e) ∧ rL m 61 21 = lN (tkV B q (tkF B q e))
def wcd (z : Nat) : Nat := cod (wdS z) 0 (wdL z)
def wcL : List Nat := [230433031, 283288069, 923, 377771, 4562600, 12588757, 10256063, 394691, 409469, 423, 1111, 10631]
theorem wcd_v : ∀ z, z < 12 → wcd z = wcL.getD z 0 := by decide +kernel
theorem wcd_x : ∀ z, z < 12 → ∀ y, y < 12 → wcd z = wcd y → z = y := by decide +kernel
theorem wcd_b : ∀ z, z < 12 → 0 < wcd z ∧ wcd z < 2 ^ 62 := by decide +kernel
section TKN
variable {N : Nat} {c m : Mem} {q e : Nat} {B : Nat → Nat}
theorem run_pos {P : Nat → Bool} {d a : Nat} (h : P (B a) = true) (hd : 0 < d) : a < run P B d a := by
  obtain ⟨d, rfl⟩ := suc_of hd
  rw [run, if_pos h]
  have := run_b P B d (a + 1)
  omega
theorem plc_b (he : e ≤ q) : e ≤ tkF B q e ∧ tkF B q e ≤ q := by
  have := run_b isSp B (q - e) e
  unfold tkF
  omega
theorem tkE_b {f : Nat} (h : f < q) : f < tkE B q f ∧ tkE B q f ≤ q := by
  unfold tkE
  rw [if_neg (by omega)]
  by_cases y : isLe (B f) = true
  · rw [if_pos y]
    have r1 := run_b isLe B (q - f) f
    exact ⟨run_pos y (by omega), by omega⟩
  · rw [if_neg y]
    by_cases x : isDi (B f) = true
    · rw [if_pos x]
      have r1 := run_b isDi B (q - f) f
      exact ⟨run_pos x (by omega), by omega⟩
    · rw [if_neg x]; omega
theorem tokW_iff {a n z : Nat} (hz : z < 12) (hl : ∀ i, i < n → isLe (B (a + i)) = true) : tokW B a n = z + 2 ↔ wdE z B a n = true := by
  have ex : ∀ y, y < 12 → wdE y B a n = true → wdE z B a n = true → y = z := fun y hy h1 h2 => wcd_x y hy z hz (by unfold wcd; rw [← (wd_cod hy hl).mp h1]; exact (wd_cod hz hl).mp h2)
  constructor
  · intro h
    unfold tokW at h
    have st : ∀ (y X : Nat), (if wdE y B a n = true then y + 2 else X) = z + 2 → (wdE z B a n = true) ∨ X = z + 2 := by
      intro y X g
      by_cases w : wdE y B a n = true
      · rw [if_pos w] at g
        have : y = z := by omega
        left; rw [← this]; exact w
      · rw [if_neg w] at g; exact Or.inr g
    rcases st 0 _ h with g | h
    · exact g
    · rcases st 1 _ h with g | h
      · exact g
      · rcases st 2 _ h with g | h
        · exact g
        · rcases st 3 _ h with g | h
          · exact g
          · rcases st 4 _ h with g | h
            · exact g
            · rcases st 5 _ h with g | h
              · exact g
              · rcases st 6 _ h with g | h
                · exact g
                · rcases st 7 _ h with g | h
                  · exact g
                  · rcases st 8 _ h with g | h
                    · exact g
                    · rcases st 9 _ h with g | h
                      · exact g
                      · rcases st 10 _ h with g | h
                        · exact g
                        · rcases st 11 _ h with g | h
                          · exact g
                          · omega
  · intro h
    have nf : ∀ y, y < 12 → y ≠ z → ¬ wdE y B a n = true := fun y hy hne w => hne (ex y hy w h)
    have cs : z = 0 ∨ z = 1 ∨ z = 2 ∨ z = 3 ∨ z = 4 ∨ z = 5 ∨ z = 6 ∨ z = 7 ∨ z = 8 ∨ z = 9 ∨ z = 10 ∨ z = 11 := by omega
    unfold tokW
    rcases cs with rfl | rfl | rfl | rfl | rfl | rfl | rfl | rfl | rfl | rfl | rfl | rfl
    · rw [if_pos h]
    · rw [if_neg (nf 0 (by decide) (by decide)), if_pos h]
    · rw [if_neg (nf 0 (by decide) (by decide)), if_neg (nf 1 (by decide) (by decide)), if_pos h]
    · rw [if_neg (nf 0 (by decide) (by decide)), if_neg (nf 1 (by decide) (by decide)), if_neg (nf 2 (by decide) (by decide)), if_pos h]
    · rw [if_neg (nf 0 (by decide) (by decide)), if_neg (nf 1 (by decide) (by decide)), if_neg (nf 2 (by decide) (by decide)), if_neg (nf 3 (by decide) (by decide)), if_pos h]
    · rw [if_neg (nf 0 (by decide) (by decide)), if_neg (nf 1 (by decide) (by decide)), if_neg (nf 2 (by decide) (by decide)), if_neg (nf 3 (by decide) (by decide)), if_neg (nf 4 (by decide) (by decide)), if_pos h]
    · rw [if_neg (nf 0 (by decide) (by decide)), if_neg (nf 1 (by decide) (by decide)), if_neg (nf 2 (by decide) (by decide)), if_neg (nf 3 (by decide) (by decide)), if_neg (nf 4 (by decide) (by decide)), if_neg (nf 5 (by decide) (by decide)), if_pos h]
    · rw [if_neg (nf 0 (by decide) (by decide)), if_neg (nf 1 (by decide) (by decide)), if_neg (nf 2 (by decide) (by decide)), if_neg (nf 3 (by decide) (by decide)), if_neg (nf 4 (by decide) (by decide)), if_neg (nf 5 (by decide) (by decide)), if_neg (nf 6 (by decide) (by decide)), if_pos h]
    · rw [if_neg (nf 0 (by decide) (by decide)), if_neg (nf 1 (by decide) (by decide)), if_neg (nf 2 (by decide) (by decide)), if_neg (nf 3 (by decide) (by decide)), if_neg (nf 4 (by decide) (by decide)), if_neg (nf 5 (by decide) (by decide)), if_neg (nf 6 (by decide) (by decide)), if_neg (nf 7 (by decide) (by decide)), if_pos h]
    · rw [if_neg (nf 0 (by decide) (by decide)), if_neg (nf 1 (by decide) (by decide)), if_neg (nf 2 (by decide) (by decide)), if_neg (nf 3 (by decide) (by decide)), if_neg (nf 4 (by decide) (by decide)), if_neg (nf 5 (by decide) (by decide)), if_neg (nf 6 (by decide) (by decide)), if_neg (nf 7 (by decide) (by decide)), if_neg (nf 8 (by decide) (by decide)), if_pos h]
    · rw [if_neg (nf 0 (by decide) (by decide)), if_neg (nf 1 (by decide) (by decide)), if_neg (nf 2 (by decide) (by decide)), if_neg (nf 3 (by decide) (by decide)), if_neg (nf 4 (by decide) (by decide)), if_neg (nf 5 (by decide) (by decide)), if_neg (nf 6 (by decide) (by decide)), if_neg (nf 7 (by decide) (by decide)), if_neg (nf 8 (by decide) (by decide)), if_neg (nf 9 (by decide) (by decide)), if_pos h]
    · rw [if_neg (nf 0 (by decide) (by decide)), if_neg (nf 1 (by decide) (by decide)), if_neg (nf 2 (by decide) (by decide)), if_neg (nf 3 (by decide) (by decide)), if_neg (nf 4 (by decide) (by decide)), if_neg (nf 5 (by decide) (by decide)), if_neg (nf 6 (by decide) (by decide)), if_neg (nf 7 (by decide) (by decide)), if_neg (nf 8 (by decide) (by decide)), if_neg (nf 9 (by decide) (by decide)), if_neg (nf 10 (by decide) (by decide)), if_pos h]
theorem ite_in {p : Prop} {d : Decidable p} {a b : Nat} {S : Nat → Prop} (h1 : S a) (h2 : S b) : S (@ite _ p d a b) := by
  by_cases z : p
  · rw [if_pos z]; exact h1
  · rw [if_neg z]; exact h2
def tkwW (t : Nat) : Prop := 2 ≤ t ∧ t ≤ 13 ∨ t = 20
theorem tokW_b (a n : Nat) : tkwW (tokW B a n) := by
  unfold tokW
  have L : ∀ y, y < 12 → tkwW (y + 2) := fun y hy => Or.inl (by omega)
  exact ite_in (L 0 (by decide)) (ite_in (L 1 (by decide)) (ite_in (L 2 (by decide)) (ite_in (L 3 (by decide)) (ite_in (L 4 (by decide)) (ite_in (L 5 (by decide)) (ite_in (L 6 (by decide)) (ite_in (L 7 (by decide)) (ite_in (L 8 (by decide)) (ite_in (L 9 (by decide)) (ite_in (L 10 (by decide)) (ite_in (L 11 (by decide)) (Or.inr rfl))))))))))))
def tkwM (t : Nat) : Prop := 14 ≤ t ∧ t ≤ 20
theorem tokS_b (b : Nat) : tkwM (tokS b) := by
  unfold tokS
  exact ite_in (by unfold tkwM; omega) (ite_in (by unfold tkwM; omega) (ite_in (by unfold tkwM; omega) (ite_in (by unfold tkwM; omega) (ite_in (by unfold tkwM; omega) (ite_in (by unfold tkwM; omega) (by unfold tkwM; omega))))))
/-- the four kinds of places -/
theorem tk4 (f : Nat) : (f = q ∧ tkK B q f = 0 ∧ tokC B q f = 0) ∨ (f ≠ q ∧ isLe (B f) = true ∧ tkK B q f = 1 ∧ tokC B q f = tokW B f (tkE B q f - f) ∧ tkE B q f = run isLe B (q - f) f ∧ tkV B q f = codV B f (tkE B q f - f)) ∨ (f ≠ q ∧ tkK B q f = 2 ∧ isDi (B f) = true ∧ tokC B q f = (if tkE B q f - f ≤ 3 then 1 else 20) ∧ tkE B q f = run isDi B (q - f) f ∧ tkV B q f = numV B f (tkE B q f - f)) ∨ (f ≠ q ∧ tkK B q f = 3 ∧ tokC B q f = tokS (B f) ∧ tkV B q f = B f) := by
  unfold tkK tokC tkV tkE
  by_cases z : f = q
  · left; exact ⟨z, if_pos z, if_pos z⟩
  · by_cases y : isLe (B f) = true
    · right; left
      refine ⟨z, y, ?_, ?_, ?_, ?_⟩
      · rw [if_neg z, if_pos y]
      · rw [if_neg z, if_pos y]
      · rw [if_neg z, if_pos y]
      · rw [if_neg z, if_pos y]
    · by_cases x : isDi (B f) = true
      · right; right; left
        refine ⟨z, ?_, x, ?_, ?_, ?_⟩
        · rw [if_neg z, if_neg y, if_pos x]
        · rw [if_neg z, if_neg y, if_pos x]
        · rw [if_neg z, if_neg y, if_pos x]
        · rw [if_neg z, if_neg y, if_pos x]
      · right; right; right
        refine ⟨z, ?_, ?_, ?_⟩
        · rw [if_neg z, if_neg y, if_neg x]
        · rw [if_neg z, if_neg y, if_neg x]
        · rw [if_neg z, if_neg y, if_neg x]
theorem tkn_0 : tkn B q e = 0 ↔ tkF B q e = q := by
  unfold tkn
  rcases tk4 (B := B) (q := q) (tkF B q e) with ⟨h1, h2, h3⟩ | ⟨h1, -, -, h3, -, -⟩ | ⟨h1, -, -, h3, -, -⟩ | ⟨h1, -, h3, -⟩
  · exact ⟨fun _ => h1, fun _ => h3⟩
  · have := tokW_b (B := B) (tkF B q e) (tkE B q (tkF B q e) - tkF B q e)
    unfold tkwW at this
    exact ⟨fun g => by omega, fun g => absurd g h1⟩
  · refine ⟨fun g => ?_, fun g => absurd g h1⟩
    rw [h3] at g
    split at g <;> omega
  · have := tokS_b (B (tkF B q e))
    unfold tkwM at this
    exact ⟨fun g => by omega, fun g => absurd g h1⟩
theorem tkn_b (e : Nat) : tkn B q e ≤ 20 := by
  unfold tkn
  rcases tk4 (B := B) (q := q) (tkF B q e) with ⟨h1, h2, h3⟩ | ⟨h1, -, -, h3, -, -⟩ | ⟨h1, -, -, h3, -, -⟩ | ⟨h1, -, h3, -⟩
  · omega
  · have := tokW_b (B := B) (tkF B q e) (tkE B q (tkF B q e) - tkF B q e)
    unfold tkwW at this
    omega
  · rw [h3]; split <;> omega
  · have := tokS_b (B (tkF B q e))
    unfold tkwM at this
    omega
theorem tnx_b (he : e ≤ q) (h : tkn B q e ≠ 0) : e < tnx B q e ∧ tnx B q e ≤ q := by
  have p := plc_b (B := B) he
  have n : tkF B q e ≠ q := fun z => h (tkn_0.mpr z)
  have := tkE_b (B := B) (q := q) (f := tkF B q e) (by omega)
  unfold tnx
  omega
theorem nmb_b (h : tkn B q e = 1) : nmb B q e < 1000 ∧ tkK B q (tkF B q e) = 2 ∧ tnx B q e - tkF B q e ≤ 3 ∧ tkV B q (tkF B q e) = nmb B q e := by
  unfold tkn at h
  unfold nmb tnx
  rcases tk4 (B := B) (q := q) (tkF B q e) with ⟨h1, h2, h3⟩ | ⟨h1, -, -, h3, -, -⟩ | ⟨h1, h2, h3, h4, h5, h6⟩ | ⟨h1, -, h3, -⟩
  · omega
  · have := tokW_b (B := B) (tkF B q e) (tkE B q (tkF B q e) - tkF B q e)
    unfold tkwW at this
    omega
  · rw [h4] at h
    have w : tkE B q (tkF B q e) - tkF B q e ≤ 3 := by
      by_cases z : tkE B q (tkF B q e) - tkF B q e ≤ 3
      · exact z
      · rw [if_neg z] at h; omega
    have nl := num_lt B (tkF B q e) (tkE B q (tkF B q e) - tkF B q e) (fun i hi => by
      refine run_all isDi B (q - tkF B q e) (tkF B q e) _ (by omega) ?_
      rw [← h5]; omega)
    have n3 : (10 : Nat) ^ (tkE B q (tkF B q e) - tkF B q e) ≤ 10 ^ 3 := Nat.pow_le_pow_right (by decide) w
    refine ⟨by omega, h2, w, ?_⟩
    rw [h6]; unfold numV; rw [Nat.min_eq_left w]
  · have := tokS_b (B (tkF B q e))
    unfold tkwM at this
    omega
theorem codV_b (a n : Nat) (h : ∀ i, i < n → isLe (B (a + i)) = true) : codV B a n < 2 ^ 62 := by
  unfold codV
  split
  · have h1 := cod_lt B a n h
    have h2 : (27 : Nat) ^ n ≤ 27 ^ 8 := Nat.pow_le_pow_right (by decide) (by assumption)
    have : (27 : Nat) ^ 8 < 2 ^ 62 := by decide
    omega
  · decide
theorem tkV_w {z : Nat} (hz : z < 12) (h : tkK B q (tkF B q e) = 1) : tkV B q (tkF B q e) < 2 ^ 62 ∧ (tkV B q (tkF B q e) = wcd z ↔ tkn B q e = z + 2) := by
  unfold tkn
  rcases tk4 (B := B) (q := q) (tkF B q e) with ⟨h1, h2, h3⟩ | ⟨h1, h2, h3, h4, h5, h6⟩ | ⟨h1, h2, h3, h4, h5, h6⟩ | ⟨h1, h2, h3, -⟩
  · omega
  · have hl : ∀ i, i < tkE B q (tkF B q e) - tkF B q e → isLe (B (tkF B q e + i)) = true := fun i hi => by
      refine run_all isLe B (q - tkF B q e) (tkF B q e) _ (by omega) ?_
      rw [← h5]; omega
    rw [h4, h6, tokW_iff hz hl]
    refine ⟨codV_b _ _ hl, ?_⟩
    have w0 := wcd_b z hz
    have wl := (wd_all z hz).1
    by_cases w : tkE B q (tkF B q e) - tkF B q e ≤ 8
    · rw [wd_cod hz hl]
      unfold codV wcd
      rw [if_pos w]
    · unfold codV wdE
      rw [if_neg w, decide_eq_false (by omega), Bool.false_and]
      exact ⟨fun g => by omega, fun g => by cases g⟩
  · omega
  · omega
theorem mw (t : MT m q B e) {a : Int64} {z : Nat} (hz : z < 12) (ha : a = lN (wcd z)) : f_X9_isWord N a m = some (decide (tkn B q e = z + 2), m) := by
  have k3 : tkK B q (tkF B q e) ≤ 3 := by
    unfold tkK
    split
    · omega
    · split
      · omega
      · split <;> omega
  unfold f_X9_isWord
  rw [t.2.1, ek1 (by omega), t.2.2.2, ha]
  by_cases k : tkK B q (tkF B q e) = 1
  · obtain ⟨v1, v2⟩ := tkV_w (B := B) (q := q) (e := e) hz k
    have w0 := wcd_b z hz
    rw [if_pos k, ite_eqL (by omega) (by omega)]
    by_cases y : tkV B q (tkF B q e) = wcd z
    · rw [if_pos y, decide_eq_true (v2.mp y)]
    · rw [if_neg y, decide_eq_false (fun g => y (v2.mpr g))]
  · have : tkn B q e ≠ z + 2 := by
      unfold tkn
      rcases tk4 (B := B) (q := q) (tkF B q e) with ⟨h1, h2, h3⟩ | ⟨h1, h2, h3, h4, h5, h6⟩ | ⟨h1, h2, h3, h4, h5, h6⟩ | ⟨h1, h2, h3, -⟩
      · omega
      · omega
      · rw [h4]; split <;> omega
      · have := tokS_b (B (tkF B q e))
        unfold tkwM at this
        omega
    rw [if_neg k, decide_eq_false this]
/-- the marks: byte, token -/
def mkB : List Nat := [40, 41, 59, 60, 61, 62]
def mkT : List Nat := [14, 15, 19, 16, 17, 18]
theorem tokS_iff {b y : Nat} (hy : y < 6) : b = mkB.getD y 0 ↔ tokS b = mkT.getD y 0 := by
  have cs : y = 0 ∨ y = 1 ∨ y = 2 ∨ y = 3 ∨ y = 4 ∨ y = 5 := by omega
  unfold tokS
  rcases cs with rfl | rfl | rfl | rfl | rfl | rfl
  · show b = 40 ↔ _ = 14
    repeat' split
    all_goals omega
  · show b = 41 ↔ _ = 15
    repeat' split
    all_goals omega
  · show b = 59 ↔ _ = 19
    repeat' split
    all_goals omega
  · show b = 60 ↔ _ = 16
    repeat' split
    all_goals omega
  · show b = 61 ↔ _ = 17
    repeat' split
    all_goals omega
  · show b = 62 ↔ _ = 18
    repeat' split
    all_goals omega
theorem mkT_b : ∀ y, y < 6 → 14 ≤ mkT.getD y 0 ∧ mkT.getD y 0 ≤ 19 ∧ mkB.getD y 0 < 256 := by decide
theorem mm (tp : TAP c m q B) (he : e ≤ q) (t : MT m q B e) {y : Nat} (hy : y < 6) : f_X9_isMark N (nI (mkB.getD y 0)) m = some (decide (tkn B q e = mkT.getD y 0), m) := by
  obtain ⟨m1, m2, m3⟩ := mkT_b y hy
  have pb := plc_b (B := B) he
  have k3 : tkK B q (tkF B q e) ≤ 3 := by
    unfold tkK
    split
    · omega
    · split
      · omega
      · split <;> omega
  unfold f_X9_isMark
  rw [t.2.1, ek3 (by omega), t.2.2.2, nI_l (by omega)]
  unfold tkn
  rcases tk4 (B := B) (q := q) (tkF B q e) with ⟨h1, h2, h3⟩ | ⟨h1, h2, h3, h4, h5, h6⟩ | ⟨h1, h2, h3, h4, h5, h6⟩ | ⟨h1, h2, h3, h4⟩
  · rw [if_neg (by omega), decide_eq_false (by omega)]
  · have := tokW_b (B := B) (tkF B q e) (tkE B q (tkF B q e) - tkF B q e)
    unfold tkwW at this
    rw [if_neg (by omega), decide_eq_false (by omega)]
  · have : tokC B q (tkF B q e) ≠ mkT.getD y 0 := by
      rw [h4]; split <;> omega
    rw [if_neg (by omega), decide_eq_false this]
  · have hb := (tp.2.2.2 (tkF B q e) (by omega)).1
    have i := tokS_iff (b := B (tkF B q e)) hy
    rw [if_pos h2, h4, ite_eqL (by omega) (by omega), h3]
    by_cases w : B (tkF B q e) = mkB.getD y 0
    · rw [if_pos w, decide_eq_true (i.mp w)]
    · rw [if_neg w, decide_eq_false (fun g => w (i.mpr g))]
theorem mk0 (t : MT m q B e) {α : Type} (X Y : α) : (if rI m 61 18 = 0 then X else Y) = if tkn B q e = 0 then X else Y := by
  have k3 : tkK B q (tkF B q e) ≤ 3 := by
    unfold tkK
    split
    · omega
    · split
      · omega
      · split <;> omega
  rw [t.2.1, ek0 (by omega)]
  have : tkK B q (tkF B q e) = 0 ↔ tkn B q e = 0 := by
    rw [tkn_0]
    rcases tk4 (B := B) (q := q) (tkF B q e) with ⟨h1, h2, h3⟩ | ⟨h1, h2, h3, h4, h5, h6⟩ | ⟨h1, h2, h3, h4, h5, h6⟩ | ⟨h1, h2, h3, h4⟩
    · exact ⟨fun _ => h1, fun _ => h2⟩
    · exact ⟨fun g => by omega, fun g => absurd g h1⟩
    · exact ⟨fun g => by omega, fun g => absurd g h1⟩
    · exact ⟨fun g => by omega, fun g => absurd g h1⟩
  by_cases w : tkn B q e = 0
  · rw [if_pos w, if_pos (this.mpr w)]
  · rw [if_neg w, if_neg (fun g => w (this.mp g))]
theorem mn (t : MT m q B e) (he : e ≤ q) (hq : q ≤ 200) : f_X9_wantNumber N m = if tkn B q e = 1 then bnd (f_X9_want N true m) fun _ s1 => some (nI (nmb B q e), s1) else bnd (f_X9_want N false m) fun _ s1 => some ((rL m 61 21).toInt32, s1) := by
  have pb := plc_b (B := B) he
  have k3 : tkK B q (tkF B q e) ≤ 3 := by
    unfold tkK
    split
    · omega
    · split
      · omega
      · split <;> omega
  unfold f_X9_wantNumber f_X9_wantNumber_j32 f_X9_wantNumber_j33
  have nb : tnx B q e ≤ q ∧ tkF B q e ≤ tnx B q e := by
    by_cases z : tkF B q e = q
    · unfold tnx tkE; rw [if_pos z]; omega
    · have := tkE_b (B := B) (q := q) (f := tkF B q e) (by omega)
      unfold tnx; omega
  rw [t.2.1, t.1, t.2.2.1, ek2 (by omega), pk_sub nb.2, klt3 (by omega)]
  by_cases w : tkn B q e = 1
  · obtain ⟨n1, n2, n3, n4⟩ := nmb_b w
    rw [if_pos w, if_pos n2, if_neg (by omega), t.2.2.2, n4, lN_toI (by omega)]
  · rw [if_neg w]
    by_cases x : tkK B q (tkF B q e) = 2
    · rw [if_pos x]
      by_cases y : 3 < tnx B q e - tkF B q e
      · rw [if_pos y]
      · exfalso
        apply w
        unfold tkn
        rcases tk4 (B := B) (q := q) (tkF B q e) with ⟨h1, h2, h3⟩ | ⟨h1, h2, h3, h4, h5, h6⟩ | ⟨h1, h2, h3, h4, h5, h6⟩ | ⟨h1, h2, h3, h4⟩
        · omega
        · omega
        · rw [h4, if_pos (by unfold tnx at y; omega)]
        · omega
    · rw [if_neg x]
theorem m_advn (tp : TAP c m q B) (t : MT m q B e) (he : tnx B q e ≤ q) (hN : 1000 ≤ N) : ∃ m2, f_X9_advance N m = some ((), m2) ∧ MT m2 q B (tnx B q e) ∧ (∀ o k, ¬ (o = 61 ∧ 18 ≤ k ∧ k ≤ 20) → rI m2 o k = rI m o k) ∧ ∀ o k, ¬ (o = 61 ∧ k = 21) → rL m2 o k = rL m o k := by
  obtain ⟨m2, e1, e2, e3, e4, e5, e6, e7⟩ := m_adv (N := N) tp t.2.2.1 he hN
  exact ⟨m2, e1, ⟨e2, e3, e4, e5⟩, e6, e7⟩
end TKN
