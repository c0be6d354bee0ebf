-- words
def wdB : List (List Nat) := [[112, 97, 112, 101, 114, 115], [115, 116, 97, 110, 100, 115], [97, 103, 101], [115, 101, 101, 110], [104, 111, 117, 115, 101], [119, 114, 111, 110, 103], [115, 104, 97, 114, 101], [116, 97, 107, 101], [116, 117, 114, 110], [111, 114], [97, 110, 100], [110, 111, 116]]
def wdS (z i : Nat) : Nat := (wdB.getD z []).getD i 0
def wdL (z : Nat) : Nat := stLen.getD z 0
theorem wd_all : ∀ z, z < 12 → wdL z ≤ 6 ∧ ∀ i, i < wdL z → (stByt.getD z []).getD i 0 = nI (wdS z i) ∧ isLe (wdS z i) = true := by decide +kernel
/-- whether the n bytes from a are the word z -/
def wdE (z : Nat) (B : Nat → Nat) (a n : Nat) : Bool := decide (wdL z = n) && allB (fun i => decide (wdS z i = B (a + i))) (wdL z)
section WORD
variable {N : Nat} {c m : Mem} {q : Nat} {B : Nat → Nat}
theorem c_wordL (t : TAP c m q B) (h3 : rI c 36 3 = 1) {a z : Nat} (h4 : rI c 36 4 = nI a) (hz : z < 12) (ha : a + wdL z ≤ q) : ∀ d k n, k + d = wdL z → d < n → allB (fun i => decide (wdS z i = B (a + i))) k = true → f_X7_isWord_L20 N z n (nI k) c = some (allB (fun i => decide (wdS z i = B (a + i))) (wdL z), c) := by
  have hq := t.1
  obtain ⟨w1, w2⟩ := wd_all z hz
  intro d
  induction d with
  | zero =>
    intro k n h1 h2 h5
    obtain ⟨n, rfl⟩ := suc_of h2
    have e : k = wdL z := by omega
    unfold f_X7_isWord_L20 f_len
    rw [bnd_s]
    show (if nI (wdL z) ≤ nI k then _ else _) = _
    rw [le_t (by omega) (by omega)]
    exact congrArg (fun b => some (b, c)) (by rw [← e]; exact h5.symm)
  | succ d ih =>
    intro k n h1 h2 h5
    obtain ⟨n, rfl⟩ := suc_of h2
    have hk : k < wdL z := by omega
    obtain ⟨w3, w4⟩ := w2 k hk
    have w5 := of_decide_eq_true w4
    have hb := (t.2.2.2 (a + k) (by omega)).1
    have hi := ih (k + 1) n (by omega) (by omega)
    rw [allB, h5, Bool.true_and] at hi
    unfold f_X7_isWord_L20 f_len f_chr
    rw [bnd_s]
    show (if nI (wdL z) ≤ nI k then _ else bnd (gin (nI k) (wdL z) _) _) = _
    rw [le_f hk (by omega), gin_n hk (by omega), nI_clamp (by omega), w3, bnd_s, h4, nI_add, e_byte t h3 (by omega), bnd_s, ite_eq (by omega) (by omega), nI_1]
    by_cases y : wdS z k = B (a + k)
    · rw [if_pos y]
      exact hi (decide_eq_true y)
    · have f := allB_f (Q := fun i => decide (wdS z i = B (a + i))) (k := k + 1) (by rw [allB, h5, Bool.true_and]; exact decide_eq_false y) d
      rw [show k + 1 + d = wdL z by omega] at f
      rw [if_neg y]
      exact congrArg (fun b => some (b, c)) f.symm
theorem c_word (t : TAP c m q B) (h3 : rI c 36 3 = 1) {a n z : Nat} (h4 : rI c 36 4 = nI a) (h5 : rI c 36 5 = nI (a + n)) (hz : z < 12) (ha : a + n ≤ q) (hN : 1000 ≤ N) : f_X7_isWord N z c = some (wdE z B a n, c) := by
  have hq := t.1
  obtain ⟨w1, -⟩ := wd_all z hz
  unfold f_X7_isWord f_len wdE
  rw [bnd_s, h4, h5, pk_sub (Nat.le_add_right a n), Nat.add_sub_cancel_left]
  show (if nI (wdL z) = nI n then _ else _) = _
  rw [ite_eq (by omega) (by omega)]
  by_cases y : wdL z = n
  · rw [if_pos y, decide_eq_true y, Bool.true_and]
    exact c_wordL t h3 h4 hz (by omega) (wdL z) 0 N (by omega) (by omega) rfl
  · rw [if_neg y, decide_eq_false y, Bool.false_and]
/-- the letters are the word just where their number is the word's -/
theorem wd_cod {z a n : Nat} (hz : z < 12) (hl : ∀ i, i < n → isLe (B (a + i)) = true) : wdE z B a n = true ↔ cod B a n = cod (wdS z) 0 (wdL z) := by
  obtain ⟨w1, w2⟩ := wd_all z hz
  unfold wdE
  rw [Bool.and_eq_true, decide_eq_true_eq, allB_iff]
  constructor
  · rintro ⟨e1, e2⟩
    have : ∀ k, k ≤ n → cod B a k = cod (wdS z) 0 k := by
      intro k
      induction k with
      | zero => intro _; rfl
      | succ k ih =>
        intro hk
        have e3 := of_decide_eq_true (e2 k (by omega))
        rw [cod, cod, ih (by omega), Nat.zero_add, e3]
    rw [e1]; exact this n (Nat.le_refl _)
  · intro h
    obtain ⟨e1, e2⟩ := cod_inj B (wdS z) a 0 n (wdL z) hl (fun i hi => by rw [Nat.zero_add]; exact (w2 i hi).2) h
    refine ⟨e1.symm, fun i hi => decide_eq_true ?_⟩
    have := e2 i (by omega)
    rw [Nat.zero_add] at this
    exact this.symm
end WORD
