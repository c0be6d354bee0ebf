-- the way holds or not
section HOLD
variable {N : Nat} {c m : Mem} {v vk : VB}
theorem m_misL (h : RMl m v) (hv : IV v) {p : Nat} (hp : p < 2 ^ 31) : ∀ d k n, k + d = cnt v 1 → d < n → f_X9_wrongOf_L5 N n (nI p) (if bestS v p = 0 then -1 else nI (bestS v p - 1)) (nI (if bestS v p = 0 then 0 else misF v p (bestS v p - 1) k)) (nI k) m = some (nI (misS v p), m) := by
  have b1 := hv.np
  have b0 := hv.n0
  have bl := bes_le (v := v) p 161
  intro d
  induction d with
  | zero =>
    intro k n h1 h2
    obtain ⟨n, rfl⟩ := suc_of h2
    have e : k = cnt v 1 := by omega
    unfold f_X9_wrongOf_L5
    rw [mct1 h, le_t (by omega) (by omega), e]; rfl
  | succ d ih =>
    intro k n h1 h2
    obtain ⟨n, rfl⟩ := suc_of h2
    have hk : k < cnt v 1 := by omega
    have hk3 : k < 30 := by omega
    have q0 := (hv.2.1 k hk).1
    have hi := ih (k + 1) n (by omega) (by omega)
    unfold f_X9_wrongOf_L5
    rw [mct1 h, le_f hk (by omega), pmg0 hk3, pmn0 hk3, mp0 h hk, ite_eq (by omega) hp]
    unfold f_X9_wrongOf_j47 f_X9_wrongOf_j48
    rw [bI_t, bI_f, nI_1, nI_1, show (0 : Int32) = nI 0 from rfl, nI_add, Nat.add_zero]
    by_cases z : bestS v p = 0
    · simp only [if_pos z] at hi ⊢
      rw [if_pos (show (-1 : Int32) < nI 0 by decide)]
      by_cases y : tb v 1 k 0 = p
      · rw [if_pos y]; exact hi
      · rw [if_neg y]; exact hi
    · simp only [if_neg z] at hi ⊢
      rw [show nI 0 = (0 : Int32) from rfl, lt0_f (by unfold bestS; omega), m_span h hv hk (by unfold bestS; omega), bnd_s]
      unfold misF at hi ⊢
      rw [cntP] at hi
      by_cases y : tb v 1 k 0 = p
      · rw [if_pos y]
        by_cases w : spS v k (bestS v p - 1) = true
        · rw [w, Bool.not_true, Bool.and_false, if_neg (by decide), Nat.add_zero] at hi
          rw [if_pos w]; exact hi
        · rw [no_t w, decide_eq_true y, if_pos (by decide)] at hi
          rw [if_neg w]; exact hi
      · rw [decide_eq_false y, Bool.false_and, if_neg (by decide), Nat.add_zero] at hi
        rw [if_neg y]; exact hi
theorem m_stcL (h : RMl m v) (hv : IV v) {p x : Nat} (hp : p < 2 ^ 31) (hx : x < 2 ^ 30) : ∀ d k n, k + d = cnt v 1 → d < n → f_X9_standingOf_L10 N n (nI p) (nI x) (nI (stcS v p x k)) (nI k) m = some (nI (stcS v p x (cnt v 1)), m) := by
  have b1 := hv.np
  have b0 := hv.n0
  intro d
  induction d with
  | zero =>
    intro k n h1 h2
    obtain ⟨n, rfl⟩ := suc_of h2
    have e : k = cnt v 1 := by omega
    unfold f_X9_standingOf_L10
    rw [mct1 h, le_t (by omega) (by omega), e]
  | succ d ih =>
    intro k n h1 h2
    obtain ⟨n, rfl⟩ := suc_of h2
    have hk : k < cnt v 1 := by omega
    have hk3 : k < 30 := by omega
    have q0 := (hv.2.1 k hk).1
    have hi := ih (k + 1) n (by omega) (by omega)
    unfold stcS at hi
    rw [cntP] at hi
    unfold f_X9_standingOf_L10 stcS
    rw [mct1 h, le_f hk (by omega), pmg0 hk3, pmn0 hk3, mp0 h hk, ite_eq (by omega) hp, bit_n (by omega) (by omega)]
    unfold f_X9_standingOf_j44
    rw [nI_1, nI_add, show (0 : Int32) = nI 0 from rfl, nI_add, Nat.add_zero]
    by_cases y : tb v 1 k 0 = p
    · rw [decide_eq_true y, Bool.true_and] at hi
      rw [if_pos y]; exact hi
    · rw [decide_eq_false y, Bool.false_and, if_neg (by decide), Nat.add_zero] at hi
      rw [if_neg y]; exact hi
theorem m_val (h : RMl m v) (hv : IV v) {p x code : Nat} (hp : p < cnt v 0) (hx : x < 2 ^ 30) (hs : f_X9_standing N m = some (nI x, m)) (hc : valOK code) (hN : 1000 ≤ N) : f_X9_valueOf N (nI (sgnV code)) (nI p) m = some (nI (valS v p x code), m) := by
  obtain ⟨c1, c2⟩ := hc
  have b0 := hv.n0
  have b1 := hv.np
  have hp10 : p < 10 := by omega
  have bq := best_seen hv p
  have bs := seenS_le hv p
  have bl := bes_le (v := v) p 161
  have st : f_X9_standingOf N (nI p) m = some (nI (stcS v p x (cnt v 1)), m) := by
    unfold f_X9_standingOf
    rw [hs, bnd_s]
    exact m_stcL h hv (by omega) hx (cnt v 1) 0 N (by omega) (by omega)
  have wr : f_X9_wrongOf N (nI p) (if bestS v p = 0 then -1 else nI (bestS v p - 1)) m = some (nI (misS v p), m) := by
    have e := m_misL (N := N) h hv (p := p) (by omega) (cnt v 1) 0 N (by omega) (by omega)
    have e0 : (if bestS v p = 0 then 0 else misF v p (bestS v p - 1) 0) = 0 := by
      by_cases z : bestS v p = 0
      · rw [if_pos z]
      · rw [if_neg z]; rfl
    rw [e0] at e
    exact e
  have l3 : ∀ a : Nat, a < 2 ^ 31 → ∀ X Y : Option (Int32 × Mem), (if nI a < 3000 then X else Y) = if a < 3000 then X else Y := fun a ha X Y => ite_lt (b := 3000) ha (by decide)
  have l1 : ∀ a : Nat, a < 2 ^ 31 → ∀ X Y : Option (Int32 × Mem), (if nI a < 1000 then X else Y) = if a < 1000 then X else Y := fun a ha X Y => ite_lt (b := 1000) ha (by decide)
  have cs : code / 1000 = 1 ∨ code / 1000 = 8 ∨ (2 ≤ code / 1000 ∧ code / 1000 ≤ 7) := by omega
  unfold f_X9_valueOf
  rcases cs with e | e | e
  · have es : sgnV code = 3000 + code % 1000 := if_pos e
    have ev : valS v p x code = code % 1000 := if_pos e
    rw [es, ev, l3 _ (by omega), if_neg (by omega), show (nI (3000 + code % 1000) - 3000 : Int32) = nI (3000 + code % 1000 - 3000) from pk_sub (b := 3000) (by omega), show 3000 + code % 1000 - 3000 = code % 1000 by omega]
  · have es : sgnV code = 1000 + code % 1000 := by unfold sgnV; rw [if_neg (by omega), if_pos e]
    have ev : valS v p x code = hunS v p (code % 1000) := by unfold valS; rw [if_neg (by omega), if_neg (by omega), if_neg (by omega), if_neg (by omega), if_neg (by omega), if_neg (by omega), if_neg (by omega)]
    rw [es, ev, l3 _ (by omega), if_pos (by omega), l1 _ (by omega), if_neg (by omega), show (nI (1000 + code % 1000) - 1000 : Int32) = nI (1000 + code % 1000 - 1000) from pk_sub (b := 1000) (by omega), show 1000 + code % 1000 - 1000 = code % 1000 by omega, m_hun h hv (by omega) (Nat.mod_lt _ (by decide)) hN, bnd_s]
  · have es : sgnV code = 98 + code / 1000 := by unfold sgnV; rw [if_neg (by omega), if_neg (by omega)]
    rw [es, l3 _ (by omega), if_pos (by omega), l1 _ (by omega), if_pos (by omega)]
    have c7 : code / 1000 = 2 ∨ code / 1000 = 3 ∨ code / 1000 = 4 ∨ code / 1000 = 5 ∨ code / 1000 = 6 ∨ code / 1000 = 7 := by omega
    unfold f_X9_valueOf_j43 f_X9_valueOf_j52
    unfold valS ageS
    rcases c7 with f | f | f | f | f | f <;> rw [f]
    · rw [if_neg (show ¬ nI (98 + 2) = 102 by decide), if_neg (show ¬ nI (98 + 2) = 105 by decide), if_pos (show nI (98 + 2) = 100 by decide), m_papersOf h hv (by omega) hN, bnd_s]; rfl
    · rw [if_neg (show ¬ nI (98 + 3) = 102 by decide), if_neg (show ¬ nI (98 + 3) = 105 by decide), if_neg (show ¬ nI (98 + 3) = 100 by decide), if_pos (show nI (98 + 3) = 101 by decide), st, bnd_s]; rfl
    · rw [if_pos (show nI (98 + 4) = 102 by decide), m_best h hv (by omega) hN, bnd_s, if_neg (show ¬ nI (98 + 4) = 100 by decide), if_neg (show ¬ nI (98 + 4) = 101 by decide), if_pos (show nI (98 + 4) = 102 by decide)]
      by_cases z : bestS v p = 0
      · simp only [if_pos z]
        rw [if_neg (by decide)]; rfl
      · simp only [if_neg z]
        rw [if_pos (nI_pos' (by unfold bestS; omega)), m_seen h hv (by omega) hN, bnd_s, pk_sub bq]; rfl
    · rw [if_neg (show ¬ nI (98 + 5) = 102 by decide), if_neg (show ¬ nI (98 + 5) = 105 by decide), if_neg (show ¬ nI (98 + 5) = 100 by decide), if_neg (show ¬ nI (98 + 5) = 101 by decide), if_neg (show ¬ nI (98 + 5) = 102 by decide), if_pos (show nI (98 + 5) = 103 by decide), m_seen h hv (by omega) hN, bnd_s]; rfl
    · rw [if_neg (show ¬ nI (98 + 6) = 102 by decide), if_neg (show ¬ nI (98 + 6) = 105 by decide), if_neg (show ¬ nI (98 + 6) = 100 by decide), if_neg (show ¬ nI (98 + 6) = 101 by decide), if_neg (show ¬ nI (98 + 6) = 102 by decide), if_neg (show ¬ nI (98 + 6) = 103 by decide), if_pos (show nI (98 + 6) = 104 by decide), qmg0 hp10, qmn0 hp10, mq0 h hp]; rfl
    · rw [if_neg (show ¬ nI (98 + 7) = 102 by decide), if_pos (show nI (98 + 7) = 105 by decide), m_best h hv (by omega) hN, bnd_s, if_neg (show ¬ nI (98 + 7) = 100 by decide), if_neg (show ¬ nI (98 + 7) = 101 by decide), if_neg (show ¬ nI (98 + 7) = 102 by decide), if_neg (show ¬ nI (98 + 7) = 103 by decide), if_neg (show ¬ nI (98 + 7) = 104 by decide), wr, bnd_s]; rfl
end HOLD
