section TOK2
variable {N : Nat} {c m : Mem} {q : Nat} {B : Nat → Nat}
theorem c_letters (K : Mem → Option (Int32 × Mem)) : ∀ d a n (c : Mem), TAP c m q B → rI c 36 3 = 1 → rI c 36 5 = nI a → a + d = q → d < n → ∃ c2, f_X7_nextToken_L90 N K n (nI q) c = K c2 ∧ rI c2 36 5 = nI (run isLe B d a) ∧ ∀ o k, ¬ (o = 36 ∧ k = 5) → rI c2 o k = rI c o k := by
  intro d
  induction d with
  | zero =>
    intro a n c t h3 h4 h1 h2
    have hq := t.1
    obtain ⟨n, rfl⟩ := suc_of h2
    refine ⟨c, ?_, h4, fun _ _ _ => rfl⟩
    unfold f_X7_nextToken_L90
    rw [h4, le_t (by omega) (by omega)]
  | succ d ih =>
    intro a n c t h3 h4 h1 h2
    have hq := t.1
    obtain ⟨n, rfl⟩ := suc_of h2
    unfold f_X7_nextToken_L90
    rw [h4, le_f (by omega) (by omega), e_let t h3 (by omega), bnd_s, h4, run]
    by_cases z : isLe (B a) = true
    · rw [if_pos z, if_pos z, lt_e, nI_1]
      obtain ⟨c2, e1, e2, e3⟩ := ih (a + 1) n (wI c 36 5 (nI (a + 1))) (t.kc (fun k => rI_ne (by decide)) (fun k => rI_ne (by decide))) (by rw [rI_w, if_neg (by omega)]; exact h3) (by rw [rI_w, if_pos ⟨rfl, rfl⟩]) (by omega) (by omega)
      exact ⟨c2, e1, e2, fun o k hk => by rw [e3 o k hk, rI_w, if_neg hk]⟩
    · rw [if_neg z, if_neg z]
      exact ⟨c, rfl, h4, fun _ _ _ => rfl⟩
theorem c_digits (K : Mem → Option (Int32 × Mem)) : ∀ d a n (c : Mem), TAP c m q B → rI c 36 3 = 1 → rI c 36 5 = nI a → a + d = q → d < n → ∃ c2, f_X7_nextToken_L138 N K n (nI q) c = K c2 ∧ rI c2 36 5 = nI (run isDi B d a) ∧ ∀ o k, ¬ (o = 36 ∧ k = 5) → rI c2 o k = rI c o k := by
  intro d
  induction d with
  | zero =>
    intro a n c t h3 h4 h1 h2
    have hq := t.1
    obtain ⟨n, rfl⟩ := suc_of h2
    refine ⟨c, ?_, h4, fun _ _ _ => rfl⟩
    unfold f_X7_nextToken_L138
    rw [h4, le_t (by omega) (by omega)]
  | succ d ih =>
    intro a n c t h3 h4 h1 h2
    have hq := t.1
    obtain ⟨n, rfl⟩ := suc_of h2
    unfold f_X7_nextToken_L138
    rw [h4, le_f (by omega) (by omega), e_dig t h3 (by omega), bnd_s, h4, run]
    by_cases z : isDi (B a) = true
    · rw [if_pos z, if_pos z, lt_e, nI_1]
      obtain ⟨c2, e1, e2, e3⟩ := ih (a + 1) n (wI c 36 5 (nI (a + 1))) (t.kc (fun k => rI_ne (by decide)) (fun k => rI_ne (by decide))) (by rw [rI_w, if_neg (by omega)]; exact h3) (by rw [rI_w, if_pos ⟨rfl, rfl⟩]) (by omega) (by omega)
      exact ⟨c2, e1, e2, fun o k hk => by rw [e3 o k hk, rI_w, if_neg hk]⟩
    · rw [if_neg z, if_neg z]
      exact ⟨c, rfl, h4, fun _ _ _ => rfl⟩
/-- the number of n letters from a -/
def cod (B : Nat → Nat) (a : Nat) : Nat → Nat
  | 0 => 0
  | n + 1 => 27 * cod B a n + (B (a + n) - 96)
/-- the number of n digits from a -/
def num (B : Nat → Nat) (a : Nat) : Nat → Nat
  | 0 => 0
  | n + 1 => 10 * num B a n + (B (a + n) - 48)
theorem cod_lt (B : Nat → Nat) (a : Nat) : ∀ n, (∀ i, i < n → isLe (B (a + i)) = true) → cod B a n < 27 ^ n := by
  intro n
  induction n with
  | zero => intro _; exact Nat.one_pos
  | succ n ih =>
    intro h
    have h1 := ih (fun i hi => h i (by omega))
    have h2 := of_decide_eq_true (h n (by omega))
    rw [cod, Nat.pow_succ]
    omega
theorem num_lt (B : Nat → Nat) (a : Nat) : ∀ n, (∀ i, i < n → isDi (B (a + i)) = true) → num B a n < 10 ^ n := by
  intro n
  induction n with
  | zero => intro _; exact Nat.one_pos
  | succ n ih =>
    intro h
    have h1 := ih (fun i hi => h i (by omega))
    have h2 := of_decide_eq_true (h n (by omega))
    rw [num, Nat.pow_succ]
    omega
/-- the letters' number tells the letters -/
theorem cod_inj (B C : Nat → Nat) (a b : Nat) : ∀ n k, (∀ i, i < n → isLe (B (a + i)) = true) → (∀ i, i < k → isLe (C (b + i)) = true) → cod B a n = cod C b k → n = k ∧ ∀ i, i < n → B (a + i) = C (b + i) := by
  intro n
  induction n with
  | zero =>
    intro k h1 h2 h
    cases k with
    | zero => exact ⟨rfl, fun i hi => absurd hi (by omega)⟩
    | succ k =>
      have := of_decide_eq_true (h2 k (by omega))
      rw [cod, cod] at h
      omega
  | succ n ih =>
    intro k h1 h2 h
    have e1 := of_decide_eq_true (h1 n (by omega))
    cases k with
    | zero => rw [cod, cod] at h; omega
    | succ k =>
      have e2 := of_decide_eq_true (h2 k (by omega))
      rw [cod, cod] at h
      have q1 : cod B a n = cod C b k := by omega
      have q2 : B (a + n) = C (b + k) := by omega
      obtain ⟨r1, r2⟩ := ih k (fun i hi => h1 i (by omega)) (fun i hi => h2 i (by omega)) q1
      subst r1
      refine ⟨rfl, fun i hi => ?_⟩
      by_cases e : i = n
      · rw [e]; exact q2
      · exact r2 i (by omega)
end TOK2
