-- keep, again
section KEEP
variable {N : Nat} {c m : Mem} {v vk : VB}
theorem th_become {t u W M n n0 : Nat} (h : TB c u W M n) (g : TB c t W M n0) (hut : u ≠ t) (hu1 : u ≠ t + 1) (hu2 : u + 1 ≠ t) : ∃ c2, f_X5_become N t u c = some ((), c2) ∧ TB c2 t W M n ∧ (∀ k, k < W * M → rI c2 (t + 1) k = rI c (u + 1) k) ∧ (∀ o k, o ≠ t → o ≠ t + 1 → rI c2 o k = rI c o k) ∧ ∀ o k, rL c2 o k = rL c o k := by
  obtain ⟨h1, h2, h3, h4, h5, h6, h7⟩ := id h
  obtain ⟨g1, g2, g3, g4, g5, -, -⟩ := id g
  have hWM : W * M ≤ 2000 := Nat.mul_le_mul h6 h7
  have im : imin (nI (W * M)) (nI (W * M)) = nI (W * M) := by
    unfold imin
    rw [ite_lt (by omega) (by omega), if_neg (by omega)]
  have e0 : (0 : Int32).toNatClampNeg = 0 := by decide
  have cp : ∀ o k, rI (cpI c (u + 1) 0 (t + 1) 0 (W * M)) o k = if o = t + 1 ∧ k < W * M then rI c (u + 1) k else rI c o k := by
    intro o k
    show (if o = t + 1 then va_cpy (fun z => c.1 (u + 1) z) (fun z => c.1 (t + 1) z) 0 0 (W * M) k else c.1 o k) = _
    by_cases q : o = t + 1
    · rw [if_pos q]
      by_cases w : k < W * M
      · rw [if_pos ⟨q, w⟩, pk_cpy_in (Nat.zero_le _) (by omega), show 0 + (k - 0) = k by omega]; rfl
      · rw [if_neg (fun z => w z.2), pk_cpy_out (Or.inr (by omega)), q]; rfl
    · rw [if_neg q, if_neg (fun z => q z.1)]; rfl
  have im2 : imin (rI (cpI c (u + 1) 0 (t + 1) 0 (W * M)) u 3) (rI (cpI c (u + 1) 0 (t + 1) 0 (W * M)) t 1) = nI n := by
    rw [cp, cp, if_neg (by omega), if_neg (by omega), h3, g2]
    unfold imin
    rw [ite_lt (by omega) (by omega)]
    by_cases z : M < n
    · omega
    · rw [if_neg z]
  refine ⟨wI (cpI c (u + 1) 0 (t + 1) 0 (W * M)) t 3 (nI n), ?_, ⟨?_, ?_, ?_, h4, g5, h6, h7⟩, fun k hk => ?_, fun o k q1 q2 => ?_, fun o k => rfl⟩
  · unfold f_X5_become
    rw [h5, g5, im, e0, nI_clamp (by omega)]
    unfold gcp
    rw [if_pos (by rw [e0, nI_clamp (by omega)]; exact ⟨⟨by decide, by decide, nI_pos (by omega)⟩, by omega, by omega⟩), lt_e, lt_e, im2]
  · rw [rI_w, if_neg (by omega), cp, if_neg (by omega)]; exact g1
  · rw [rI_w, if_neg (by omega), cp, if_neg (by omega)]; exact g2
  · rw [rI_w, if_pos ⟨rfl, rfl⟩]
  · rw [rI_ne (by omega), cp, if_pos ⟨rfl, hk⟩]
  · rw [rI_ne q1, cp, if_neg (fun z => q2 z.1)]
/-- the first i tables of a book are copied -/
def PCp (a b : Nat) (v : VB) (n0 : Nat → Nat) (i : Nat) (c0 c : Mem) : Prop := (∀ j, j < 7 → TB c (b + 1 + 2 * j) (Wd j) (Mx j) (if j < i then cnt v j else n0 j)) ∧ (∀ j, j < i → ∀ r k, r < cnt v j → k < Wd j → rI c (b + 1 + 2 * j + 1) (r * Wd j + k) = enc j k (tb v j r k)) ∧ RCb c a v ∧ (∀ o k, ¬ (b + 1 ≤ o ∧ o ≤ b + 14) → rI c o k = rI c0 o k)
theorem PCp_step {a b i : Nat} {n0 : Nat → Nat} {c0 : Mem} (hab : a + 14 < b ∨ b + 14 < a) (h : PCp a b v n0 i c0 c) (hi : i < 7) : ∃ c2, f_X5_become N (b + 1 + 2 * i) (a + 1 + 2 * i) c = some ((), c2) ∧ PCp a b v n0 (i + 1) c0 c2 := by
  obtain ⟨h1, h2, h3, h4⟩ := h
  have t1 := h1 i hi
  obtain ⟨c2, e1, e2, e3, e4, -⟩ := th_become (N := N) (h3.T hi) t1 (by omega) (by omega) (by omega)
  refine ⟨c2, e1, fun j hj => ?_, fun j hj r k hr hk => ?_, ?_, fun o k ho => ?_⟩
  · by_cases q : j = i
    · subst q
      rw [if_pos (by omega)]; exact e2
    · have q1 := h1 j hj
      have e : (if j < i + 1 then cnt v j else n0 j) = (if j < i then cnt v j else n0 j) := by
        by_cases w : j < i
        · rw [if_pos w, if_pos (by omega)]
        · rw [if_neg w, if_neg (by omega)]
      rw [e]
      exact q1.keep (fun k => e4 _ k (by omega) (by omega))
  · by_cases q : j = i
    · subst q
      rw [e3 _ ((h3.T hi).sz hr hk).1]
      exact h3.C hi hr hk
    · rw [e4 _ _ (by omega) (by omega)]
      exact h2 j (by omega) r k hr hk
  · exact h3.keep (fun o k q1 q2 => e4 o k (by omega) (by omega))
  · rw [e4 o k (by omega) (by omega)]
    exact h4 o k ho
theorem becAll {a b : Nat} {n0 : Nat → Nat} (hab : a + 14 < b ∨ b + 14 < a) (h : RCb c a v) (g : ∀ j, j < 7 → TB c (b + 1 + 2 * j) (Wd j) (Mx j) (n0 j)) : ∃ c2, (bnd (f_X5_become N (b + 1 + 2 * 0) (a + 1 + 2 * 0) c) fun _ s1 => bnd (f_X5_become N (b + 1 + 2 * 1) (a + 1 + 2 * 1) s1) fun _ s2 => bnd (f_X5_become N (b + 1 + 2 * 2) (a + 1 + 2 * 2) s2) fun _ s3 => bnd (f_X5_become N (b + 1 + 2 * 3) (a + 1 + 2 * 3) s3) fun _ s4 => bnd (f_X5_become N (b + 1 + 2 * 4) (a + 1 + 2 * 4) s4) fun _ s5 => bnd (f_X5_become N (b + 1 + 2 * 5) (a + 1 + 2 * 5) s5) fun _ s6 => bnd (f_X5_become N (b + 1 + 2 * 6) (a + 1 + 2 * 6) s6) fun _ s7 => lt (wI s7 b 7 (rI s7 a 7)) fun s8 => some ((), s8)) = some ((), c2) ∧ RCb c2 b v ∧ RCb c2 a v ∧ ∀ o k, ¬ (b ≤ o ∧ o ≤ b + 14) → rI c2 o k = rI c o k := by
  have P0 : PCp a b v n0 0 c c := ⟨fun j hj => by rw [if_neg (by omega)]; exact g j hj, fun j hj => absurd hj (by omega), h, fun _ _ _ => rfl⟩
  obtain ⟨c1, e1, P1⟩ := PCp_step (N := N) hab P0 (by decide)
  obtain ⟨c2, e2, P2⟩ := PCp_step (N := N) hab P1 (by decide)
  obtain ⟨c3, e3, P3⟩ := PCp_step (N := N) hab P2 (by decide)
  obtain ⟨c4, e4, P4⟩ := PCp_step (N := N) hab P3 (by decide)
  obtain ⟨c5, e5, P5⟩ := PCp_step (N := N) hab P4 (by decide)
  obtain ⟨c6, e6, P6⟩ := PCp_step (N := N) hab P5 (by decide)
  obtain ⟨c7, e7, P7⟩ := PCp_step (N := N) hab P6 (by decide)
  obtain ⟨q1, q2, q3, q4⟩ := P7
  refine ⟨wI c7 b 7 (nI (cnt v 7)), ?_, ⟨fun j hj => ⟨?_, fun r k hr hk => ?_⟩, ?_⟩, ?_, fun o k ho => ?_⟩
  · rw [e1, bnd_s, e2, bnd_s, e3, bnd_s, e4, bnd_s, e5, bnd_s, e6, bnd_s, e7, bnd_s, lt_e, q3.2]
  · have := q1 j hj
    rw [if_pos hj] at this
    exact this.keep (fun k => rI_ne (by omega))
  · rw [rI_ne (by omega)]; exact q2 j hj r k hr hk
  · rw [rI_w, if_pos ⟨rfl, rfl⟩]
  · exact q3.keep (fun o k w1 w2 => rI_ne (by omega))
  · rw [rI_ne (by omega)]; exact q4 o k (by omega)
-- the model's moves
theorem m_moveT {ar len off : Nat} (ha : ar ≠ 86) (ha2 : ar ≠ 61) (hl : ln ar = len) (hl2 : len < 300) (ho : off + len ≤ 700) : ∀ d k n (m : Mem), k + d = len → d < n → rI m 61 46 = nI (off + k) → ∃ m2, f_X9_move_L3 N ar n (nI len) true (nI k) m = some ((), m2) ∧ rI m2 61 46 = nI (off + len) ∧ (∀ o q, o ≠ 86 → ¬ (o = 61 ∧ q = 46) → rI m2 o q = rI m o q) ∧ (∀ q, rI m2 86 q = if off + k ≤ q ∧ q < off + len then rI m ar (q - off) else rI m 86 q) ∧ ∀ o q, rL m2 o q = rL m o q := by
  intro d
  induction d with
  | zero =>
    intro k n m h1 h2 h3
    obtain ⟨n, rfl⟩ := suc_of h2
    refine ⟨m, ?_, by rw [h3, show k = len by omega], fun _ _ _ _ => rfl, fun q => by rw [if_neg (by omega)], fun _ _ => rfl⟩
    unfold f_X9_move_L3
    rw [le_t (by omega) (by omega)]
  | succ d ih =>
    intro k n m h1 h2 h3
    obtain ⟨n, rfl⟩ := suc_of h2
    obtain ⟨m2, e1, e2, e3, e4, e5⟩ := ih (k + 1) n (wI (wI m 86 (off + k) (rI m ar k)) 61 46 (nI (off + (k + 1)))) (by omega) (by omega) (by rw [rI_w, if_pos ⟨rfl, rfl⟩])
    refine ⟨m2, ?_, e2, fun o q q1 q2 => by rw [e3 o q q1 q2, rI_w, if_neg q2, rI_ne q1], fun q => ?_, fun o q => by rw [e5]; rfl⟩
    · unfold f_X9_move_L3
      rw [le_f (by omega) (by omega), ite_T, hl, gin_n (by omega) (by omega), h3, gin_n (by omega) (by omega), lt_e, nI_clamp (by omega), nI_clamp (by omega)]
      unfold f_X9_move_j42
      rw [rI_ne (by decide), h3, lt_e, nI_1, nI_1]
      exact e1
    · rw [e4, rI_ne ha2, rI_ne ha, rI_ne (show (86 : Nat) ≠ 61 by decide), rI_w]
      by_cases a : q = off + k
      · rw [if_neg (by omega), if_pos ⟨rfl, a⟩, if_pos (by omega), show q - off = k by omega]
      · rw [if_neg (c := (86 : Nat) = 86 ∧ q = off + k) (fun z => a z.2)]
        by_cases b : off + (k + 1) ≤ q ∧ q < off + len
        · rw [if_pos b, if_pos (by omega)]
        · rw [if_neg b, if_neg (by omega)]
theorem m_moveF {ar len off : Nat} (ha : ar ≠ 86) (ha2 : ar ≠ 61) (hl : ln ar = len) (hl2 : len < 300) (ho : off + len ≤ 700) : ∀ d k n (m : Mem), k + d = len → d < n → rI m 61 46 = nI (off + k) → ∃ m2, f_X9_move_L3 N ar n (nI len) false (nI k) m = some ((), m2) ∧ rI m2 61 46 = nI (off + len) ∧ (∀ o q, o ≠ ar → ¬ (o = 61 ∧ q = 46) → rI m2 o q = rI m o q) ∧ (∀ q, rI m2 ar q = if k ≤ q ∧ q < len then rI m 86 (off + q) else rI m ar q) ∧ ∀ o q, rL m2 o q = rL m o q := by
  intro d
  induction d with
  | zero =>
    intro k n m h1 h2 h3
    obtain ⟨n, rfl⟩ := suc_of h2
    refine ⟨m, ?_, by rw [h3, show k = len by omega], fun _ _ _ _ => rfl, fun q => by rw [if_neg (by omega)], fun _ _ => rfl⟩
    unfold f_X9_move_L3
    rw [le_t (by omega) (by omega)]
  | succ d ih =>
    intro k n m h1 h2 h3
    obtain ⟨n, rfl⟩ := suc_of h2
    obtain ⟨m2, e1, e2, e3, e4, e5⟩ := ih (k + 1) n (wI (wI m ar k (rI m 86 (off + k))) 61 46 (nI (off + (k + 1)))) (by omega) (by omega) (by rw [rI_w, if_pos ⟨rfl, rfl⟩])
    refine ⟨m2, ?_, e2, fun o q q1 q2 => by rw [e3 o q q1 q2, rI_w, if_neg q2, rI_ne q1], fun q => ?_, fun o q => by rw [e5]; rfl⟩
    · unfold f_X9_move_L3
      rw [le_f (by omega) (by omega), ite_F, hl, h3, gin_n (by omega) (by omega), gin_n (by omega) (by omega), lt_e, nI_clamp (by omega), nI_clamp (by omega)]
      unfold f_X9_move_j42
      rw [rI_ne (Ne.symm ha2), h3, lt_e, nI_1, nI_1]
      exact e1
    · rw [e4, rI_ne (by omega), rI_ne (by omega), rI_ne ha2, rI_w]
      by_cases a : q = k
      · rw [if_neg (by omega), if_pos ⟨rfl, a⟩, if_pos (by omega), a]
      · rw [if_neg (c := ar = ar ∧ q = k) (fun z => a z.2)]
        by_cases b : k + 1 ≤ q ∧ q < len
        · rw [if_pos b, if_pos (by omega)]
        · rw [if_neg b, if_neg (by omega)]
end KEEP
