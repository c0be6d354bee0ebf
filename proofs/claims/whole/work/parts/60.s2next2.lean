theorem ite_ne {p : Prop} {d : Decidable p} {a b x : Nat} (h1 : a ≠ x) (h2 : b ≠ x) : (@ite _ p d a b) ≠ x := by
  by_cases z : p
  · rw [if_pos z]; exact h1
  · rw [if_neg z]; exact h2
section NEXT3
variable {N : Nat} {c m : Mem} {q : Nat} {B : Nat → Nat}
theorem c_next (t : TAP c m q B) (h3 : rI c 36 3 = 1) {e : Nat} (h5 : rI c 36 5 = nI e) (he : e ≤ q) (hN : 1000 ≤ N) : ∃ c2, f_X7_nextToken N c = some (nI (tokC B q (tkF B q e)), c2) ∧ rI c2 36 4 = nI (tkF B q e) ∧ rI c2 36 5 = nI (tkE B q (tkF B q e)) ∧ (tokC B q (tkF B q e) = 1 → rI c2 36 6 = nI (num B (tkF B q e) (tkE B q (tkF B q e) - tkF B q e))) ∧ (tokC B q (tkF B q e) ≠ 1 → rI c2 36 6 = rI c 36 6) ∧ ∀ o k, ¬ (o = 36 ∧ 4 ≤ k ∧ k ≤ 6) → rI c2 o k = rI c o k := by
  have hq := t.1
  have hf := run_b isSp B (q - e) e
  have ef : run isSp B (q - e) e = tkF B q e := rfl
  unfold f_X7_nextToken f_X7_nextToken_j18
  rw [h3, if_neg (by decide), if_neg (by decide), t.2.1, lt_e, h5]
  have T0 : TAP (wI c 36 4 (nI e)) m q B := t.kc (fun k => rI_ne (by decide)) (fun k => rI_ne (by decide))
  obtain ⟨c1, a1, a2, a3⟩ := c_skip (N := N) (f_X7_nextToken_j61 N) (q - e) e N (wI c 36 4 (nI e)) T0 (by rw [rI_w, if_neg (by omega)]; exact h3) (by rw [rI_w, if_pos ⟨rfl, rfl⟩]) (by omega) (by omega)
  rw [ef] at a2 hf
  rw [a1]
  generalize tkF B q e = f at *
  have C1 : ∀ o k, ¬ (o = 36 ∧ k = 4) → rI c1 o k = rI c o k := fun o k hk => by rw [a3 o k hk, rI_w, if_neg hk]
  have T2 : TAP (wI c1 36 5 (nI f)) m q B := t.kc (fun k => by rw [rI_ne (by decide), C1 _ _ (by omega)]) (fun k => by rw [rI_ne (by decide), C1 _ _ (by omega)])
  have g3 : rI (wI c1 36 5 (nI f)) 36 3 = 1 := by rw [rI_w, if_neg (by omega), C1 _ _ (by omega)]; exact h3
  have g4 : rI (wI c1 36 5 (nI f)) 36 4 = nI f := by rw [rI_w, if_neg (by omega)]; exact a2
  have g5 : rI (wI c1 36 5 (nI f)) 36 5 = nI f := by rw [rI_w, if_pos ⟨rfl, rfl⟩]
  have C2 : ∀ o k, ¬ (o = 36 ∧ 4 ≤ k ∧ k ≤ 5) → rI (wI c1 36 5 (nI f)) o k = rI c o k := fun o k hk => by rw [rI_w, if_neg (by omega), C1 _ _ (by omega)]
  unfold f_X7_nextToken_j61
  rw [lt_e, a2, g4, ite_lt (by omega) (by omega)]
  generalize wI c1 36 5 (nI f) = c2 at *
  by_cases z : f = q
  · have ez : tokC B q f = 0 := if_pos z
    have ee : tkE B q f = f := if_pos z
    rw [if_neg (by omega), ez, ee]
    exact ⟨c2, rfl, g4, g5, fun y => absurd y (by decide), fun _ => C2 _ _ (by omega), fun o k hk => C2 o k (by omega)⟩
  · have hfq : f < q := by omega
    rw [if_pos hfq, e_let T2 g3 hfq, bnd_s]
    by_cases y : isLe (B f) = true
    · have ee : tkE B q f = run isLe B (q - f) f := by unfold tkE; rw [if_neg z, if_pos y]
      have ez : tokC B q f = tokW B f (tkE B q f - f) := by unfold tokC; rw [if_neg z, if_pos y]
      have rb := run_b isLe B (q - f) f
      obtain ⟨c3, b1, b2, b3⟩ := c_letters (N := N) (f_X7_nextToken_j122 N) (q - f) f N c2 T2 g3 g5 (by omega) (by omega)
      have T3 : TAP c3 m q B := T2.kc (fun k => b3 _ _ (by omega)) (fun k => b3 _ _ (by omega))
      have w := c_wordTok (N := N) T3 (by rw [b3 _ _ (by omega)]; exact g3) (a := f) (n := run isLe B (q - f) f - f) (by rw [b3 _ _ (by omega)]; exact g4) (by rw [b2]; congr 1; omega) (by omega) hN
      rw [if_pos y, b1]
      unfold f_X7_nextToken_j122
      rw [w, bnd_s, ez, ee]
      have nt : tokW B f (run isLe B (q - f) f - f) ≠ 1 := by
        unfold tokW
        exact ite_ne (by decide) (ite_ne (by decide) (ite_ne (by decide) (ite_ne (by decide) (ite_ne (by decide) (ite_ne (by decide) (ite_ne (by decide) (ite_ne (by decide) (ite_ne (by decide) (ite_ne (by decide) (ite_ne (by decide) (ite_ne (by decide) (by decide))))))))))))
      exact ⟨c3, rfl, by rw [b3 _ _ (by omega)]; exact g4, b2, fun x => absurd x nt, fun _ => by rw [b3 _ _ (by omega)]; exact C2 _ _ (by omega), fun o k hk => by rw [b3 o k (by omega)]; exact C2 o k (by omega)⟩
    · rw [if_neg y, g4, e_dig T2 g3 hfq, bnd_s]
      by_cases x : isDi (B f) = true
      · have ee : tkE B q f = run isDi B (q - f) f := by unfold tkE; rw [if_neg z, if_neg y, if_pos x]
        have ez : tokC B q f = if tkE B q f - f ≤ 3 then 1 else 20 := by unfold tokC; rw [if_neg z, if_neg y, if_pos x]
        have rb := run_b isDi B (q - f) f
        have ra := run_all isDi B (q - f) f
        obtain ⟨c3, b1, b2, b3⟩ := c_digits (N := N) (f_X7_nextToken_j170 N) (q - f) f N c2 T2 g3 g5 (by omega) (by omega)
        have T3 : TAP c3 m q B := T2.kc (fun k => b3 _ _ (by omega)) (fun k => b3 _ _ (by omega))
        have k3 : rI c3 36 3 = 1 := by rw [b3 _ _ (by omega)]; exact g3
        have k4 : rI c3 36 4 = nI f := by rw [b3 _ _ (by omega)]; exact g4
        rw [if_pos x, b1, ez, ee]
        generalize run isDi B (q - f) f = g at *
        unfold f_X7_nextToken_j170 f_X7_numberToken
        rw [b2, k4, pk_sub (by omega), lek3 (by omega), lt_e]
        by_cases w : g - f ≤ 3
        · have r4 : rI (wI c3 36 6 0) 36 4 = nI f := by rw [rI_w, if_neg (by omega)]; exact k4
          obtain ⟨c4, d1, d2, d3⟩ := c_numL (N := N) (m := m) (q := q) (B := B) f g (g - f) f N (wI c3 36 6 0) (T3.kc (fun k => rI_ne (by decide)) (fun k => rI_ne (by decide))) (by rw [rI_w, if_neg (by omega)]; exact k3) (by rw [rI_w, if_neg (by omega)]; exact b2) (by omega) (by omega) (Nat.le_refl _) ra (by rw [rI_w, if_pos ⟨rfl, rfl⟩, Nat.sub_self]; rfl) (by omega) (by omega)
          rw [if_pos w, if_pos w, r4, d1, bnd_s]
          refine ⟨c4, rfl, by rw [d3 _ _ (by omega), rI_w, if_neg (by omega)]; exact k4, by rw [d3 _ _ (by omega), rI_w, if_neg (by omega)]; exact b2, fun _ => d2, fun h => absurd rfl h, fun o k hk => ?_⟩
          rw [d3 o k (by omega), rI_w, if_neg (by omega), b3 o k (by omega)]
          exact C2 o k (by omega)
        · rw [if_neg w, if_neg w, bnd_s]
          exact ⟨c3, rfl, k4, b2, fun h => absurd h (by decide), fun _ => by rw [b3 _ _ (by omega)]; exact C2 _ _ (by omega), fun o k hk => by rw [b3 o k (by omega)]; exact C2 o k (by omega)⟩
      · have ee : tkE B q f = f + 1 := by unfold tkE; rw [if_neg z, if_neg y, if_neg x]
        have ez : tokC B q f = tokS (B f) := by unfold tokC; rw [if_neg z, if_neg y, if_neg x]
        have T3 : TAP (wI c2 36 5 (nI (f + 1))) m q B := T2.kc (fun k => rI_ne (by decide)) (fun k => rI_ne (by decide))
        rw [if_neg x, g5, lt_e, nI_1, c_sign T3 (by rw [rI_w, if_neg (by omega)]; exact g3) (by rw [rI_w, if_neg (by omega)]; exact g4) hfq, bnd_s, ez, ee]
        have nt : tokS (B f) ≠ 1 := by
          unfold tokS
          repeat' split
          all_goals decide
        exact ⟨_, rfl, by rw [rI_w, if_neg (by omega)]; exact g4, by rw [rI_w, if_pos ⟨rfl, rfl⟩], fun h => absurd h nt, fun _ => by rw [rI_w, if_neg (by omega)]; exact C2 _ _ (by omega), fun o k hk => by rw [rI_w, if_neg (by omega)]; exact C2 o k (by omega)⟩
end NEXT3
