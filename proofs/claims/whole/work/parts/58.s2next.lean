-- the class's next token
def tokW (B : Nat → Nat) (a n : Nat) : Nat := if wdE 0 B a n = true then 2 else if wdE 1 B a n = true then 3 else if wdE 2 B a n = true then 4 else if wdE 3 B a n = true then 5 else if wdE 4 B a n = true then 6 else if wdE 5 B a n = true then 7 else if wdE 6 B a n = true then 8 else if wdE 7 B a n = true then 9 else if wdE 8 B a n = true then 10 else if wdE 9 B a n = true then 11 else if wdE 10 B a n = true then 12 else if wdE 11 B a n = true then 13 else 20
def tokS (b : Nat) : Nat := if b = 40 then 14 else if b = 41 then 15 else if b = 59 then 19 else if b = 60 then 16 else if b = 61 then 17 else if b = 62 then 18 else 20
section NEXT
variable {N : Nat} {c m : Mem} {q : Nat} {B : Nat → Nat}
theorem c_wordTok (t : TAP c m q B) (h3 : rI c 36 3 = 1) {a n : Nat} (h4 : rI c 36 4 = nI a) (h5 : rI c 36 5 = nI (a + n)) (ha : a + n ≤ q) (hN : 1000 ≤ N) : f_X7_wordToken N c = some (nI (tokW B a n), c) := by
  unfold f_X7_wordToken tokW
  have W : ∀ z, z < 12 → f_X7_isWord N z c = some (wdE z B a n, c) := fun z hz => c_word t h3 h4 h5 hz ha hN
  simp only [W 0 (by decide), W 1 (by decide), W 2 (by decide), W 3 (by decide), W 4 (by decide), W 5 (by decide), W 6 (by decide), W 7 (by decide), W 8 (by decide), W 9 (by decide), W 10 (by decide), W 11 (by decide), bnd_s]
  cases wdE 0 B a n
  · cases wdE 1 B a n
    · cases wdE 2 B a n
      · cases wdE 3 B a n
        · cases wdE 4 B a n
          · cases wdE 5 B a n
            · cases wdE 6 B a n
              · cases wdE 7 B a n
                · cases wdE 8 B a n
                  · cases wdE 9 B a n
                    · cases wdE 10 B a n
                      · cases wdE 11 B a n <;> rfl
                      · rfl
                    · rfl
                  · rfl
                · rfl
              · rfl
            · rfl
          · rfl
        · rfl
      · rfl
    · rfl
  · rfl
theorem c_numL (a e : Nat) : ∀ d i n (c : Mem), TAP c m q B → rI c 36 3 = 1 → rI c 36 5 = nI e → e ≤ q → e ≤ a + 3 → a ≤ i → (∀ j, a ≤ j → j < e → isDi (B j) = true) → rI c 36 6 = nI (num B a (i - a)) → i + d = e → d < n → ∃ c2, f_X7_numberToken_L26 N n (nI i) c = some (1, c2) ∧ rI c2 36 6 = nI (num B a (e - a)) ∧ ∀ o k, ¬ (o = 36 ∧ k = 6) → rI c2 o k = rI c o k := by
  intro d
  induction d with
  | zero =>
    intro i n c t h3 h5 he he3 hi hd h6 h1 h2
    have hq := t.1
    obtain ⟨n, rfl⟩ := suc_of h2
    refine ⟨c, ?_, by rw [h6, show i = e by omega], fun _ _ _ => rfl⟩
    unfold f_X7_numberToken_L26
    rw [h5, le_t (by omega) (by omega)]
  | succ d ih =>
    intro i n c t h3 h5 he he3 hi hd h6 h1 h2
    have hq := t.1
    obtain ⟨n, rfl⟩ := suc_of h2
    have hdi := of_decide_eq_true (hd i hi (by omega))
    have nl := num_lt B a (i - a) (fun j hj => hd (a + j) (by omega) (by omega))
    have n3 : (10 : Nat) ^ (i - a) ≤ 10 ^ 2 := Nat.pow_le_pow_right (by decide) (by omega)
    unfold f_X7_numberToken_L26
    rw [h5, le_f (by omega) (by omega), e_byte t h3 (by omega), bnd_s, h6, show (nI (num B a (i - a)) * 10 : Int32) = nI (num B a (i - a) * 10) from pk_mul _ 10, nI_add, show (nI (num B a (i - a) * 10 + B i) - 48 : Int32) = nI (num B a (i - a) * 10 + B i - 48) from pk_sub (b := 48) (by omega), lt_e, nI_1]
    obtain ⟨c2, e1, e2, e3⟩ := ih (i + 1) n (wI c 36 6 (nI (num B a (i - a) * 10 + B i - 48))) (t.kc (fun k => rI_ne (by decide)) (fun k => rI_ne (by decide))) (by rw [rI_w, if_neg (by omega)]; exact h3) (by rw [rI_w, if_neg (by omega)]; exact h5) he he3 (by omega) hd (by rw [rI_w, if_pos ⟨rfl, rfl⟩, show i + 1 - a = (i - a) + 1 by omega, num, show a + (i - a) = i by omega]; congr 1; omega) (by omega) (by omega)
    exact ⟨c2, e1, e2, fun o k hk => by rw [e3 o k hk, rI_w, if_neg hk]⟩
end NEXT
