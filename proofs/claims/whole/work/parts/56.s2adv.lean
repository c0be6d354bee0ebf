-- the model's token
section ADV
variable {N : Nat} {c m : Mem} {q : Nat} {B : Nat → Nat}
theorem lN_up {x b : Nat} (hb : 96 ≤ b) (hb2 : b < 256) : (27 : Int64) * lN x + (nI b).toInt64 - 96 = lN (27 * x + (b - 96)) := by
  rw [nI_l (by omega), show (27 : Int64) * lN x = lN (27 * x) from lN_mul 27 x, lN_add, show (96 : Int64) = lN 96 from rfl, lN_subN (by omega), show 27 * x + b - 96 = 27 * x + (b - 96) by omega]
theorem lN_dg {x b : Nat} (hb : 48 ≤ b) (hb2 : b < 256) : (10 : Int64) * lN x + (nI b).toInt64 - 48 = lN (10 * x + (b - 48)) := by
  rw [nI_l (by omega), show (10 : Int64) * lN x = lN (10 * x) from lN_mul 10 x, lN_add, show (48 : Int64) = lN 48 from rfl, lN_subN (by omega), show 10 * x + b - 48 = 10 * x + (b - 48) by omega]
def codV (B : Nat → Nat) (a n : Nat) : Nat := if n ≤ 8 then cod B a n else 0
def numV (B : Nat → Nat) (a n : Nat) : Nat := num B a (min n 3)
theorem m_lettL (K : Int32 → Mem → Option (Unit × Mem)) {a : Nat} : ∀ d i n (m : Mem), TAP c m q B → rI m 61 19 = nI a → a ≤ i → rL m 61 21 = lN (codV B a (i - a)) → i + d = q → d < n → ∃ m2, f_X9_advance_L73 N K n (nI i) m = K (nI (run isLe B d i)) m2 ∧ rL m2 61 21 = lN (codV B a (run isLe B d i - a)) ∧ (∀ o k, rI m2 o k = rI m o k) ∧ ∀ o k, ¬ (o = 61 ∧ k = 21) → rL m2 o k = rL m o k := by
  intro d
  induction d with
  | zero =>
    intro i n m t h19 hi h21 h1 h2
    have hq := t.1
    obtain ⟨n, rfl⟩ := suc_of h2
    refine ⟨m, ?_, h21, fun _ _ => rfl, fun _ _ _ => rfl⟩
    unfold f_X9_advance_L73
    rw [t.2.2.1, le_t (by omega) (by omega)]; rfl
  | succ d ih =>
    intro i n m t h19 hi h21 h1 h2
    have hq := t.1
    obtain ⟨n, rfl⟩ := suc_of h2
    obtain ⟨hb, -, hm⟩ := t.2.2.2 i (by omega)
    unfold f_X9_advance_L73
    rw [t.2.2.1, le_f (by omega) (by omega), gin_n (by omega) (by decide), nI_clamp (by omega), hm, m_let hb, bnd_s, h19, pk_sub hi, kle8 (by omega), gin_n (by omega) (by decide), hm, h21, run]
    unfold f_X9_advance_j129
    rw [nI_1, lt_e, lt_e]
    by_cases z : isLe (B i) = true
    · have zz := of_decide_eq_true z
      rw [if_pos z, if_pos z]
      have go : ∀ X, X = lN (codV B a (i + 1 - a)) → ∃ m2, f_X9_advance_L73 N K n (nI (i + 1)) (wL m 61 21 X) = K (nI (run isLe B d (i + 1))) m2 ∧ rL m2 61 21 = lN (codV B a (run isLe B d (i + 1) - a)) ∧ (∀ o k, rI m2 o k = rI m o k) ∧ ∀ o k, ¬ (o = 61 ∧ k = 21) → rL m2 o k = rL m o k := by
        intro X hX
        obtain ⟨m2, e1, e2, e3, e4⟩ := ih (i + 1) n (wL m 61 21 X) (t.km rfl (fun _ => rfl)) h19 (by omega) (by rw [rL_w, if_pos ⟨rfl, rfl⟩]; exact hX) (by omega) (by omega)
        exact ⟨m2, e1, e2, fun o k => by rw [e3]; rfl, fun o k hk => by rw [e4 o k hk, rL_w, if_neg hk]⟩
      by_cases w : 8 ≤ i - a
      · rw [if_pos w]
        exact go 0 (by unfold codV; rw [if_neg (by omega)]; rfl)
      · rw [if_neg w]
        refine go _ ?_
        unfold codV
        rw [if_pos (by omega), if_pos (by omega), lN_up (by omega) hb, show i + 1 - a = (i - a) + 1 by omega, cod, show a + (i - a) = i by omega]
    · rw [if_neg z, if_neg z]
      exact ⟨m, rfl, h21, fun _ _ => rfl, fun _ _ _ => rfl⟩
theorem m_digL {a : Nat} : ∀ d i n (m : Mem), TAP c m q B → rI m 61 19 = nI a → a ≤ i → rL m 61 21 = lN (numV B a (i - a)) → i + d = q → d < n → ∃ m2, f_X9_advance_L181 N n (nI i) m = some ((), m2) ∧ rI m2 61 20 = nI (run isDi B d i) ∧ rL m2 61 21 = lN (numV B a (run isDi B d i - a)) ∧ (∀ o k, ¬ (o = 61 ∧ k = 20) → rI m2 o k = rI m o k) ∧ ∀ o k, ¬ (o = 61 ∧ k = 21) → rL m2 o k = rL m o k := by
  intro d
  induction d with
  | zero =>
    intro i n m t h19 hi h21 h1 h2
    have hq := t.1
    obtain ⟨n, rfl⟩ := suc_of h2
    refine ⟨wI m 61 20 (nI i), ?_, by rw [rI_w, if_pos ⟨rfl, rfl⟩]; rfl, h21, fun o k hk => by rw [rI_w, if_neg hk], fun _ _ _ => rfl⟩
    unfold f_X9_advance_L181
    rw [t.2.2.1, le_t (by omega) (by omega), lt_e]
  | succ d ih =>
    intro i n m t h19 hi h21 h1 h2
    have hq := t.1
    obtain ⟨n, rfl⟩ := suc_of h2
    obtain ⟨hb, -, hm⟩ := t.2.2.2 i (by omega)
    unfold f_X9_advance_L181
    rw [t.2.2.1, le_f (by omega) (by omega), gin_n (by omega) (by decide), nI_clamp (by omega), hm, m_dig hb, bnd_s, h19, pk_sub hi, kle3 (by omega), gin_n (by omega) (by decide), hm, h21, run]
    unfold f_X9_advance_j239
    rw [nI_1, lt_e, lt_e]
    by_cases z : isDi (B i) = true
    · have zz := of_decide_eq_true z
      rw [if_pos z, if_pos z]
      have go : ∀ X, X = lN (numV B a (i + 1 - a)) → ∃ m2, f_X9_advance_L181 N n (nI (i + 1)) (wL m 61 21 X) = some ((), m2) ∧ rI m2 61 20 = nI (run isDi B d (i + 1)) ∧ rL m2 61 21 = lN (numV B a (run isDi B d (i + 1) - a)) ∧ (∀ o k, ¬ (o = 61 ∧ k = 20) → rI m2 o k = rI m o k) ∧ ∀ o k, ¬ (o = 61 ∧ k = 21) → rL m2 o k = rL m o k := by
        intro X hX
        obtain ⟨m2, e1, e2, e3, e4, e5⟩ := ih (i + 1) n (wL m 61 21 X) (t.km rfl (fun _ => rfl)) h19 (by omega) (by rw [rL_w, if_pos ⟨rfl, rfl⟩]; exact hX) (by omega) (by omega)
        exact ⟨m2, e1, e2, e3, fun o k hk => by rw [e4 o k hk]; rfl, fun o k hk => by rw [e5 o k hk, rL_w, if_neg hk]⟩
      by_cases w : 3 ≤ i - a
      · rw [if_pos w]
        refine go _ ?_
        unfold numV
        rw [Nat.min_eq_right w, Nat.min_eq_right (by omega)]
      · rw [if_neg w]
        refine go _ ?_
        unfold numV
        rw [Nat.min_eq_left (by omega), Nat.min_eq_left (by omega), lN_dg (by omega) hb, show i + 1 - a = (i - a) + 1 by omega, num, show a + (i - a) = i by omega]
    · rw [if_neg z, if_neg z, lt_e]
      exact ⟨wI m 61 20 (nI i), rfl, by rw [rI_w, if_pos ⟨rfl, rfl⟩], h21, fun o k hk => by rw [rI_w, if_neg hk], fun _ _ _ => rfl⟩
end ADV
