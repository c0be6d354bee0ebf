-- the model's next token
def tkF (B : Nat → Nat) (q e : Nat) : Nat := run isSp B (q - e) e
def tkK (B : Nat → Nat) (q f : Nat) : Nat := if f = q then 0 else if isLe (B f) = true then 1 else if isDi (B f) = true then 2 else 3
def tkE (B : Nat → Nat) (q f : Nat) : Nat := if f = q then f else if isLe (B f) = true then run isLe B (q - f) f else if isDi (B f) = true then run isDi B (q - f) f else f + 1
def tkV (B : Nat → Nat) (q f : Nat) : Nat := if f = q then 0 else if isLe (B f) = true then codV B f (tkE B q f - f) else if isDi (B f) = true then numV B f (tkE B q f - f) else B f
section ADV2
variable {N : Nat} {c m : Mem} {q : Nat} {B : Nat → Nat}
theorem m_adv (t : TAP c m q B) {e : Nat} (h20 : rI m 61 20 = nI e) (he : e ≤ q) (hN : 1000 ≤ N) : ∃ m2, f_X9_advance N m = some ((), m2) ∧ rI m2 61 19 = nI (tkF B q e) ∧ rI m2 61 18 = nI (tkK B q (tkF B q e)) ∧ rI m2 61 20 = nI (tkE B q (tkF B q e)) ∧ rL m2 61 21 = lN (tkV B q (tkF B q e)) ∧ (∀ o k, ¬ (o = 61 ∧ 18 ≤ k ∧ k ≤ 20) → rI m2 o k = rI m o k) ∧ ∀ o k, ¬ (o = 61 ∧ k = 21) → rL m2 o k = rL m o k := by
  have hq := t.1
  have hf := run_b isSp B (q - e) e
  have ef : run isSp B (q - e) e = tkF B q e := rfl
  unfold f_X9_advance
  rw [h20, m_skip (f_X9_advance_j30 N) t (q - e) e N (by omega) (by omega), ef]
  rw [ef] at hf
  generalize tkF B q e = f at *
  unfold f_X9_advance_j30
  have e17 : rI (wL (wI m 61 19 (nI f)) 61 21 0) 61 17 = nI q := by rw [rI_wL, rI_w, if_neg (by omega)]; exact t.2.2.1
  rw [lt_e, lt_e, e17, ite_eq (by omega) (by omega)]
  unfold tkK tkE tkV tkE
  have T : TAP c (wL (wI m 61 19 (nI f)) 61 21 0) q B := t.km (by rw [rI_wL, rI_w, if_neg (by omega)]) (fun k => by rw [rI_wL, rI_ne (by decide)])
  by_cases z : f = q
  · rw [if_pos z, if_pos z, if_pos z, if_pos z, lt_e, lt_e]
    refine ⟨_, rfl, ?_, ?_, ?_, ?_, fun o k hk => ?_, fun o k hk => ?_⟩
    · rw [rI_w, if_neg (by omega), rI_w, if_neg (by omega), rI_wL, rI_w, if_pos ⟨rfl, rfl⟩]
    · rw [rI_w, if_neg (by omega), rI_w, if_pos ⟨rfl, rfl⟩]; rfl
    · rw [rI_w, if_pos ⟨rfl, rfl⟩]
    · rw [rL_wI, rL_wI, rL_w, if_pos ⟨rfl, rfl⟩]; rfl
    · rw [rI_w, if_neg (by omega), rI_w, if_neg (by omega), rI_wL, rI_w, if_neg (by omega)]
    · rw [rL_wI, rL_wI, rL_w, if_neg hk, rL_wI]
  · have hfq : f < q := by omega
    obtain ⟨hb, -, hm⟩ := T.2.2.2 f hfq
    rw [if_neg z, if_neg z, if_neg z, if_neg z, gin_n (by omega) (by decide), nI_clamp (by omega), hm, m_let hb, bnd_s]
    by_cases y : isLe (B f) = true
    · rw [if_pos y, if_pos y, if_pos y, if_pos y, lt_e]
      obtain ⟨m2, e1, e2, e3, e4⟩ := m_lettL (N := N) (f_X9_advance_j138 N) (a := f) (q - f) f N (wI (wL (wI m 61 19 (nI f)) 61 21 0) 61 18 1) (T.km (by rw [rI_w, if_neg (by omega)]) (fun k => rI_ne (by decide))) (by rw [rI_w, if_neg (by omega), rI_wL, rI_w, if_pos ⟨rfl, rfl⟩]) (Nat.le_refl _) (by rw [rL_wI, rL_w, if_pos ⟨rfl, rfl⟩, Nat.sub_self]; rfl) (by omega) (by omega)
      have rb := run_b isLe B (q - f) f
      have r19 : rI m2 61 19 = nI f := by rw [e3, rI_w, if_neg (by omega), rI_wL, rI_w, if_pos ⟨rfl, rfl⟩]
      rw [e1]
      generalize run isLe B (q - f) f = g at *
      unfold f_X9_advance_j138 f_X9_advance_j158
      rw [r19, pk_sub (by omega), lek8 (by omega), lt_e, lt_e, lt_e, lt_e]
      have fin : ∀ X, X = lN (codV B f (g - f)) → ∃ m3, some ((), wI (wL m2 61 21 X) 61 20 (nI g)) = some ((), m3) ∧ rI m3 61 19 = nI f ∧ rI m3 61 18 = nI 1 ∧ rI m3 61 20 = nI g ∧ rL m3 61 21 = lN (codV B f (g - f)) ∧ (∀ o k, ¬ (o = 61 ∧ 18 ≤ k ∧ k ≤ 20) → rI m3 o k = rI m o k) ∧ ∀ o k, ¬ (o = 61 ∧ k = 21) → rL m3 o k = rL m o k := by
        intro X hX
        refine ⟨_, rfl, ?_, ?_, ?_, ?_, fun o k hk => ?_, fun o k hk => ?_⟩
        · rw [rI_w, if_neg (by omega), rI_wL]; exact r19
        · rw [rI_w, if_neg (by omega), rI_wL, e3, rI_w, if_pos ⟨rfl, rfl⟩]; rfl
        · rw [rI_w, if_pos ⟨rfl, rfl⟩]
        · rw [rL_wI, rL_w, if_pos ⟨rfl, rfl⟩]; exact hX
        · rw [rI_w, if_neg (by omega), rI_wL, e3, rI_w, if_neg (by omega), rI_wL, rI_w, if_neg (by omega)]
        · rw [rL_wI, rL_w, if_neg hk, e4 o k hk, rL_wI, rL_w, if_neg hk, rL_wI]
      by_cases w : g - f ≤ 8
      · rw [if_pos w]; exact fin _ e2
      · rw [if_neg w]; exact fin 0 (by unfold codV; rw [if_neg w]; rfl)
    · rw [if_neg y, if_neg y, if_neg y, if_neg y, gin_n (by omega) (by decide), hm, m_dig hb, bnd_s]
      by_cases x : isDi (B f) = true
      · rw [if_pos x, if_pos x, if_pos x, if_pos x, lt_e]
        obtain ⟨m2, e1, e2, e3, e4, e5⟩ := m_digL (N := N) (a := f) (q - f) f N (wI (wL (wI m 61 19 (nI f)) 61 21 0) 61 18 2) (T.km (by rw [rI_w, if_neg (by omega)]) (fun k => rI_ne (by decide))) (by rw [rI_w, if_neg (by omega), rI_wL, rI_w, if_pos ⟨rfl, rfl⟩]) (Nat.le_refl _) (by rw [rL_wI, rL_w, if_pos ⟨rfl, rfl⟩, Nat.sub_self]; rfl) (by omega) (by omega)
        refine ⟨m2, e1, ?_, ?_, e2, e3, fun o k hk => ?_, fun o k hk => ?_⟩
        · rw [e4 _ _ (by omega), rI_w, if_neg (by omega), rI_wL, rI_w, if_pos ⟨rfl, rfl⟩]
        · rw [e4 _ _ (by omega), rI_w, if_pos ⟨rfl, rfl⟩]; rfl
        · rw [e4 _ _ (by omega), rI_w, if_neg (by omega), rI_wL, rI_w, if_neg (by omega)]
        · rw [e5 o k hk, rL_wI, rL_w, if_neg hk, rL_wI]
      · rw [if_neg x, if_neg x, if_neg x, if_neg x, lt_e, gin_n (by omega) (by decide), rI_ne (show (72 : Nat) ≠ 61 by decide), hm, lt_e, lt_e, nI_1]
        refine ⟨_, rfl, ?_, ?_, ?_, ?_, fun o k hk => ?_, fun o k hk => ?_⟩
        · rw [rI_w, if_neg (by omega), rI_wL, rI_w, if_neg (by omega), rI_wL, rI_w, if_pos ⟨rfl, rfl⟩]
        · rw [rI_w, if_neg (by omega), rI_wL, rI_w, if_pos ⟨rfl, rfl⟩]; rfl
        · rw [rI_w, if_pos ⟨rfl, rfl⟩]
        · rw [rL_wI, rL_w, if_pos ⟨rfl, rfl⟩, nI_l (by omega)]
        · rw [rI_w, if_neg (by omega), rI_wL, rI_w, if_neg (by omega), rI_wL, rI_w, if_neg (by omega)]
        · rw [rL_wI, rL_w, if_neg hk, rL_wI, rL_w, if_neg hk, rL_wI]
end ADV2
