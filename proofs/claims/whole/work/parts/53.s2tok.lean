-- tokens: runs of bytes
def TAP (c m : Mem) (q : Nat) (B : Nat → Nat) : Prop := q ≤ 200 ∧ rI c 43 1 = nI q ∧ rI m 61 17 = nI q ∧ ∀ k, k < q → B k < 256 ∧ rI c 44 k = nI (B k) ∧ rI m 72 k = nI (B k)
def run (P : Nat → Bool) (B : Nat → Nat) : Nat → Nat → Nat
  | 0, a => a
  | d + 1, a => if P (B a) = true then run P B d (a + 1) else a
theorem run_b (P : Nat → Bool) (B : Nat → Nat) : ∀ d a, a ≤ run P B d a ∧ run P B d a ≤ a + d := by
  intro d
  induction d with
  | zero => intro a; exact ⟨Nat.le_refl _, Nat.le_refl _⟩
  | succ d ih =>
    intro a
    rw [run]
    split
    · have := ih (a + 1); omega
    · omega
theorem run_all (P : Nat → Bool) (B : Nat → Nat) : ∀ d a i, a ≤ i → i < run P B d a → P (B i) = true := by
  intro d
  induction d with
  | zero => intro a i h1 h2; rw [run] at h2; omega
  | succ d ih =>
    intro a i h1 h2
    rw [run] at h2
    by_cases z : P (B a) = true
    · rw [if_pos z] at h2
      by_cases e : i = a
      · rw [e]; exact z
      · exact ih (a + 1) i (by omega) h2
    · rw [if_neg z] at h2; omega
theorem run_end (P : Nat → Bool) (B : Nat → Nat) : ∀ d a, run P B d a < a + d → P (B (run P B d a)) = false := by
  intro d
  induction d with
  | zero => intro a h; rw [run] at h; omega
  | succ d ih =>
    intro a h
    rw [run] at h ⊢
    by_cases z : P (B a) = true
    · rw [if_pos z] at h ⊢
      exact ih (a + 1) (by omega)
    · rw [if_neg z]; exact no_t z
def isSp (b : Nat) : Bool := decide (b = 32)
def isLe (b : Nat) : Bool := decide (97 ≤ b ∧ b ≤ 122)
def isDi (b : Nat) : Bool := decide (48 ≤ b ∧ b ≤ 57)
section LIT2
variable {α : Sort _} {X Y : α} {a : Nat}
theorem ltk97 {d : Decidable (nI a < 97)} (ha : a < 2 ^ 31) : (@ite _ (nI a < 97) d X Y) = if a < 97 then X else Y := ite_lt (b := 97) (d := d) ha (by decide)
theorem klt122 {d : Decidable (122 < nI a)} (ha : a < 2 ^ 31) : (@ite _ (122 < nI a) d X Y) = if 122 < a then X else Y := ite_lt (a := 122) (d := d) (by decide) ha
theorem ltk48 {d : Decidable (nI a < 48)} (ha : a < 2 ^ 31) : (@ite _ (nI a < 48) d X Y) = if a < 48 then X else Y := ite_lt (b := 48) (d := d) ha (by decide)
theorem klt57 {d : Decidable (57 < nI a)} (ha : a < 2 ^ 31) : (@ite _ (57 < nI a) d X Y) = if 57 < a then X else Y := ite_lt (a := 57) (d := d) (by decide) ha
theorem ek32 {d : Decidable (nI a = 32)} (ha : a < 2 ^ 31) : (@ite _ (nI a = 32) d X Y) = if a = 32 then X else Y := ite_eq (b := 32) (d := d) ha (by decide)
end LIT2
section TOK
variable {N : Nat} {c m : Mem} {q : Nat} {B : Nat → Nat}
theorem TAP.kc {c2 : Mem} (t : TAP c m q B) (h1 : ∀ k, rI c2 43 k = rI c 43 k) (h2 : ∀ k, rI c2 44 k = rI c 44 k) : TAP c2 m q B := ⟨t.1, by rw [h1]; exact t.2.1, t.2.2.1, fun k hk => by rw [h2]; exact t.2.2.2 k hk⟩
theorem TAP.km {m2 : Mem} (t : TAP c m q B) (h1 : rI m2 61 17 = rI m 61 17) (h2 : ∀ k, rI m2 72 k = rI m 72 k) : TAP c m2 q B := ⟨t.1, t.2.1, by rw [h1]; exact t.2.2.1, fun k hk => by rw [h2]; exact t.2.2.2 k hk⟩
theorem e_byte (t : TAP c m q B) (h3 : rI c 36 3 = 1) {i : Nat} (hi : i < q) : f_X7_byteAt N (nI i) c = some (nI (B i), c) := by
  have hq := t.1
  unfold f_X7_byteAt f_X3_get
  rw [h3, if_neg (by decide), if_neg (by decide), t.2.1, lt0_f (by omega), le_f hi (by omega), ln44, le_f (by omega) (by omega), gin_n (by omega) (by decide), nI_clamp (by omega), bnd_s, (t.2.2.2 i hi).2.1]
theorem e_let (t : TAP c m q B) (h3 : rI c 36 3 = 1) {i : Nat} (hi : i < q) : f_X7_isLetter N (nI i) c = some (isLe (B i), c) := by
  have hb := (t.2.2.2 i hi).1
  unfold f_X7_isLetter isLe
  rw [e_byte t h3 hi, bnd_s, e_byte t h3 hi, bnd_s, ltk97 (by omega), klt122 (by omega)]
  by_cases z1 : B i < 97
  · rw [if_pos z1, decide_eq_false (by omega)]
  · rw [if_neg z1]
    by_cases z2 : 122 < B i
    · rw [if_pos z2, decide_eq_false (by omega)]
    · rw [if_neg z2, decide_eq_true (by omega)]
theorem e_dig (t : TAP c m q B) (h3 : rI c 36 3 = 1) {i : Nat} (hi : i < q) : f_X7_isDigit N (nI i) c = some (isDi (B i), c) := by
  have hb := (t.2.2.2 i hi).1
  unfold f_X7_isDigit isDi
  rw [e_byte t h3 hi, bnd_s, e_byte t h3 hi, bnd_s, ltk48 (by omega), klt57 (by omega)]
  by_cases z1 : B i < 48
  · rw [if_pos z1, decide_eq_false (by omega)]
  · rw [if_neg z1]
    by_cases z2 : 57 < B i
    · rw [if_pos z2, decide_eq_false (by omega)]
    · rw [if_neg z2, decide_eq_true (by omega)]
theorem m_let {b : Nat} (hb : b < 256) : f_X9_isLetter N (nI b) m = some (isLe b, m) := by
  unfold f_X9_isLetter isLe
  rw [ltk97 (by omega), klt122 (by omega)]
  by_cases z1 : b < 97
  · rw [if_pos z1, decide_eq_false (by omega)]
  · rw [if_neg z1]
    by_cases z2 : 122 < b
    · rw [if_pos z2, decide_eq_false (by omega)]
    · rw [if_neg z2, decide_eq_true (by omega)]
theorem m_dig {b : Nat} (hb : b < 256) : f_X9_isDigit N (nI b) m = some (isDi b, m) := by
  unfold f_X9_isDigit isDi
  rw [ltk48 (by omega), klt57 (by omega)]
  by_cases z1 : b < 48
  · rw [if_pos z1, decide_eq_false (by omega)]
  · rw [if_neg z1]
    by_cases z2 : 57 < b
    · rw [if_pos z2, decide_eq_false (by omega)]
    · rw [if_neg z2, decide_eq_true (by omega)]
theorem c_skip (K : Int32 → Mem → Option (Int32 × Mem)) : ∀ d a n (c : Mem), TAP c m q B → rI c 36 3 = 1 → rI c 36 4 = nI a → a + d = q → d < n → ∃ c2, f_X7_nextToken_L27 N K n (nI q) c = K (nI q) c2 ∧ rI c2 36 4 = nI (run isSp B d a) ∧ ∀ o k, ¬ (o = 36 ∧ k = 4) → rI c2 o k = rI c o k := by
  intro d
  induction d with
  | zero =>
    intro a n c t h3 h4 h1 h2
    have hq := t.1
    obtain ⟨n, rfl⟩ := suc_of h2
    refine ⟨c, ?_, h4, fun _ _ _ => rfl⟩
    unfold f_X7_nextToken_L27
    rw [h4, le_t (by omega) (by omega)]
  | succ d ih =>
    intro a n c t h3 h4 h1 h2
    have hq := t.1
    obtain ⟨n, rfl⟩ := suc_of h2
    have hb := (t.2.2.2 a (by omega)).1
    unfold f_X7_nextToken_L27
    rw [h4, le_f (by omega) (by omega), e_byte t h3 (by omega), bnd_s, h4, ek32 (by omega), run]
    unfold isSp
    by_cases z : B a = 32
    · rw [if_pos z, decide_eq_true z, if_pos rfl, lt_e, nI_1]
      obtain ⟨c2, e1, e2, e3⟩ := ih (a + 1) n (wI c 36 4 (nI (a + 1))) (t.kc (fun k => rI_ne (by decide)) (fun k => rI_ne (by decide))) (by rw [rI_w, if_neg (by omega)]; exact h3) (by rw [rI_w, if_pos ⟨rfl, rfl⟩]) (by omega) (by omega)
      exact ⟨c2, e1, e2, fun o k hk => by rw [e3 o k hk, rI_w, if_neg hk]⟩
    · rw [if_neg z, decide_eq_false z, if_neg (by decide)]
      exact ⟨c, rfl, h4, fun _ _ _ => rfl⟩
theorem m_skip (K : Int32 → Mem → Option (Unit × Mem)) (t : TAP c m q B) : ∀ d a n, a + d = q → d < n → f_X9_advance_L5 N K n (nI a) m = K (nI (run isSp B d a)) m := by
  have hq := t.1
  intro d
  induction d with
  | zero =>
    intro a n h1 h2
    obtain ⟨n, rfl⟩ := suc_of h2
    unfold f_X9_advance_L5
    rw [t.2.2.1, le_t (by omega) (by omega)]; rfl
  | succ d ih =>
    intro a n h1 h2
    obtain ⟨n, rfl⟩ := suc_of h2
    have hb := (t.2.2.2 a (by omega)).1
    unfold f_X9_advance_L5
    rw [t.2.2.1, le_f (by omega) (by omega), gin_n (by omega) (by decide), nI_clamp (by omega), (t.2.2.2 a (by omega)).2.2, ek32 (by omega), run]
    unfold isSp
    by_cases z : B a = 32
    · rw [if_pos z, decide_eq_true z, if_pos rfl, nI_1]
      exact ih (a + 1) n (by omega) (by omega)
    · rw [if_neg z, decide_eq_false z, if_neg (by decide)]
end TOK
