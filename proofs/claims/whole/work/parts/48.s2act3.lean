section ACT3
variable {N : Nat} {c m : Mem} {v vk : VB}
theorem Rv.trx (R : Rv c m v vk) {c2 m2 : Mem} (t : TR c2 m2) (F : FX c m c2 m2) : Rv c2 m2 v vk := by
  obtain ⟨h1, h2, h3, h4, h5, h6, h7, h8, h9, h10⟩ := id R
  exact R.chg (h5.keep (fun o k ho => F.1 o k (by omega) (by omega) (by omega)) (fun o k ho => F.2.1 o k (by omega) (by omega))) (h6.keep (fun o k ho => F.1 o k (by omega) (by omega) (by omega)) (fun o k ho => F.2.1 o k (by omega) (by omega))) (h7.keep (fun o k ho => F.1 o k (by omega) (by omega) (by omega)) (fun o k ho => F.2.1 o k (by omega) (by omega)) F.2.2) (h8.keep (fun o k ho => F.1 o k (by omega) (by omega) (by omega)) (fun o k ho => F.2.1 o k (by omega) (by omega))) t (fun o k ho => F.1 o k (by omega) (by omega) (by omega)) (fun o k ho => F.2.1 o k (by omega) (by omega))
theorem bin_t {a b : Bool} (h : a = b) (h2 : b = true) : a = true := by rw [h, h2]
/-- the act itself, once the thing is told on both sides -/
theorem actB (R : Rv c m v vk) {k : Nat} {n a : Int32} (T : TX c m k n a 0) (h1 : 1 ≤ k) (hk : k < 9) (hN : 1000 ≤ N) {act : Nat} (ha : act < 4) (x : Int32) {c0 m0 : Mem} (hc : wI c0 58 4 0 = c) (hm : wI (wI m0 61 40 a) 61 43 0 = m) : Both (bnd (f_X6_perform N (nI act) x c0) fun r2 s2 => some (r2, s2)) (f_X9_act_j91 N (nI act) x a m0) := by
  unfold f_X6_perform f_X9_act_j91
  rw [lt_e, hc, lt_e, lt_e, hm, ek0 (by omega), ek1 (by omega), ek2 (by omega), ek3 (by omega), ek0 (by omega), ek1 (by omega), ek2 (by omega)]
  have fin : ∀ (f g : Option (Int32 × Mem)) (p : Int32), BT f g k n a p c m → Both (bnd (bnd f fun r s => f_X6_perform_j78 N r s) fun r2 s2 => some (r2, s2)) (bnd g fun r s => f_X9_act_j142 N r s) := by
    intro f g p ⟨r, c2, m2, e1, e2, T2, F2⟩
    have R2 := R.trx T2.2.2.2.2.2.2.2.2 F2
    unfold f_X6_perform_j78 f_X9_act_j142
    rw [e1, e2, bnd_s, bnd_s, T2.2.2.2.1, T2.2.2.2.2.2.2.2.1]
    by_cases z : p = 0
    · rw [if_pos z, if_pos z, bnd_s]
      exact both_bad R2 _
    · rw [if_neg z, if_neg z, bnd_s]
      exact both_bad R2 _
  have cs : act = 0 ∨ act = 1 ∨ act = 2 ∨ act = 3 := by omega
  rcases cs with rfl | rfl | rfl | rfl
  · exact fin _ _ 0 (sayB T h1 hk hN x)
  · exact fin _ _ 0 (leaB T h1 hk hN x)
  · obtain ⟨p, q⟩ := fitB T h1 hk hN x
    exact fin _ _ p q
  · obtain ⟨p, q⟩ := telB T h1 hk hN x
    exact fin _ _ p q
theorem b_act (R0 : Rv c m v vk) (hN : 1000 ≤ N) (a1 a2 a3 : Int32) : Both (f_X8_act N a1 a2 a3 c) (f_X9_act N a1 a2 a3 m) := by
  have hcl : f_X3_clear N 59 c = some ((), wI c 59 1 0) := rfl
  unfold f_X8_act f_X9_act
  rw [hcl, bnd_s, lt_e]
  have R : Rv (wI c 59 1 0) (wI m 61 42 0) v vk := by
    refine R0.trx ⟨0, by omega, by rw [rI_w, if_pos ⟨rfl, rfl⟩]; rfl, by rw [rI_w, if_pos ⟨rfl, rfl⟩]; rfl, fun k hk => absurd hk (by omega)⟩ ⟨fun o k q1 q2 q3 => rI_ne q2, fun o k q1 q2 => by rw [rI_w, if_neg (by omega)], fun _ => rfl⟩
  have tr0 : rI (wI c 59 1 0) 59 1 = 0 ∧ rI (wI m 61 42 0) 61 42 = 0 := ⟨by rw [rI_w, if_pos ⟨rfl, rfl⟩], by rw [rI_w, if_pos ⟨rfl, rfl⟩]⟩
  generalize wI c 59 1 0 = c1 at *
  generalize wI m 61 42 0 = m1 at *
  obtain ⟨h, g, hv, kp, ta, ro, sh, sl, tr, -⟩ := id R
  have b0 := hv.n0
  have b1 := hv.np
  obtain ⟨t, S⟩ := slv_i.mp sl
  rw [e_isShelf, bnd_s, ite_d]
  by_cases h1 : ¬ a1 < 0 ∧ ¬ (3 : Int32) < a1
  · obtain ⟨j, hj, rfl⟩ := btw_of (n := 3) (by decide) h1.1 h1.2
    have hj4 : j < 4 := by omega
    have gg1 : ∀ s, rI s 56 0 = rI c1 56 0 → True := fun _ _ => trivial
    rw [if_pos h1, e_in, bnd_s, ite_d]
    have out : ¬ (¬ a2 < 0 ∧ ¬ (3 : Int32) < a2) → ∀ s, f_X6_perform N a2 a3 s = some (0, wI s 58 4 0) := by
      intro z s
      have ne : ∀ q : Nat, q ≤ 3 → ¬ a2 = nI q := by
        intro q hq e
        exact z ⟨by rw [e]; exact nI_pos (by omega), by rw [e]; exact nI_nlt (b := q) (a := 3) hq (by decide)⟩
      unfold f_X6_perform
      rw [lt_e, if_neg (show ¬ a2 = 0 from ne 0 (by omega)), if_neg (show ¬ a2 = 1 from ne 1 (by omega)), if_neg (show ¬ a2 = 2 from ne 2 (by omega)), if_neg (show ¬ a2 = 3 from ne 3 (by omega))]
    rcases onS (N := N) R hj4 with ⟨e1, e2⟩ | ⟨e1, e2, -⟩ | ⟨w, k, n, hw, hk1, hk, hn, e1, e2, e3, s1, s2, s3, s4, s5⟩
    · rw [e1, bnd_s, if_pos rfl]
      by_cases y : ¬ a2 < 0 ∧ ¬ (3 : Int32) < a2
      · rw [if_pos y, e2, bnd_s, e_in, bnd_s, ite_d, if_neg (by decide)]
        exact both_bad R _
      · rw [if_neg y]
        exact both_bad R _
    · rw [e1, bnd_s, if_neg (by decide), if_pos rfl]
      by_cases y : ¬ a2 < 0 ∧ ¬ (3 : Int32) < a2
      · rw [if_pos y, e2, bnd_s, e_in, bnd_s, ite_d, if_neg (by decide)]
        exact both_bad R _
      · rw [if_neg y]
        exact both_bad R _
    · have w3 : ¬ nI w = 3 := fun e => by
        have := (nI_eq (a := w) (b := 3) (by omega) (by decide)).mp e
        omega
      have w2 : ¬ nI w = 2 := fun e => by
        have := (nI_eq (a := w) (b := 2) (by omega) (by decide)).mp e
        omega
      have gg : f_X5_get N 56 (nI j) 1 (wI c1 58 1 (nI k)) = some (nI n, wI c1 58 1 (nI k)) := by
        have tt : TB (wI c1 58 1 (nI k)) 56 4 4 4 := t.keep (fun _ => rI_ne (by decide))
        have := th_get (N := N) tt hj4 (k := 1) (by decide)
        rw [rI_ne (show 56 + 1 ≠ 58 by decide), show (56 + 1 : Nat) = 57 from rfl, s2] at this
        exact this
      have pre : ∀ a : Int32, TX (wI (wI (wI (wI c1 58 1 (nI k)) 58 2 (nI n)) 58 3 a) 58 4 0) (wI (wI (wI (wI m1 61 38 (nI k)) 61 39 (nI n)) 61 40 a) 61 43 0) k (nI n) a 0 ∧ FX c1 m1 (wI (wI (wI (wI c1 58 1 (nI k)) 58 2 (nI n)) 58 3 a) 58 4 0) (wI (wI (wI (wI m1 61 38 (nI k)) 61 39 (nI n)) 61 40 a) 61 43 0) := by
        intro a
        obtain ⟨q, q1, q2, q3, q4⟩ := tr
        have C : ∀ o i, o ≠ 58 → rI (wI (wI (wI (wI c1 58 1 (nI k)) 58 2 (nI n)) 58 3 a) 58 4 0) o i = rI c1 o i := fun o i ho => by rw [rI_ne ho, rI_ne ho, rI_ne ho, rI_ne ho]
        have M : ∀ o i, ¬ (o = 61 ∧ 38 ≤ i ∧ i ≤ 43) → rI (wI (wI (wI (wI m1 61 38 (nI k)) 61 39 (nI n)) 61 40 a) 61 43 0) o i = rI m1 o i := fun o i ho => by rw [rI_w, if_neg (by omega), rI_w, if_neg (by omega), rI_w, if_neg (by omega), rI_w, if_neg (by omega)]
        have M42 : rI (wI (wI (wI (wI m1 61 38 (nI k)) 61 39 (nI n)) 61 40 a) 61 43 0) 61 42 = rI m1 61 42 := by rw [rI_w, if_neg (by omega), rI_w, if_neg (by omega), rI_w, if_neg (by omega), rI_w, if_neg (by omega)]
        refine ⟨⟨?_, ?_, ?_, ?_, ?_, ?_, ?_, ?_, q, q1, ?_, ?_, fun i hi => ?_⟩, fun o i w1 _ _ => C o i w1, fun o i _ w2 => M o i w2, fun _ => rfl⟩
        · rw [rI_w, if_neg (by omega), rI_w, if_neg (by omega), rI_w, if_neg (by omega), rI_w, if_pos ⟨rfl, rfl⟩]
        · rw [rI_w, if_neg (by omega), rI_w, if_neg (by omega), rI_w, if_pos ⟨rfl, rfl⟩]
        · rw [rI_w, if_neg (by omega), rI_w, if_pos ⟨rfl, rfl⟩]
        · rw [rI_w, if_pos ⟨rfl, rfl⟩]
        · rw [rI_w, if_neg (by omega), rI_w, if_neg (by omega), rI_w, if_neg (by omega), rI_w, if_pos ⟨rfl, rfl⟩]
        · rw [rI_w, if_neg (by omega), rI_w, if_neg (by omega), rI_w, if_pos ⟨rfl, rfl⟩]
        · rw [rI_w, if_neg (by omega), rI_w, if_pos ⟨rfl, rfl⟩]
        · rw [rI_w, if_pos ⟨rfl, rfl⟩]
        · rw [C _ _ (by decide)]; exact q2
        · rw [M42]; exact q3
        · rw [C _ _ (by decide), M _ _ (by omega)]; exact q4 i hi
      rw [e1, bnd_s, if_neg w3, if_neg w2, e3, bnd_s, lt_e, gg, bnd_s, lt_e]
      have hB : RCb (wI (wI c1 58 1 (nI k)) 58 2 (nI n)) 1 v := h.keep (fun o i q1 q2 => by rw [rI_ne (by omega), rI_ne (by omega)])
      have gB : RMl (wI (wI m1 61 38 (nI k)) 61 39 (nI n)) v := RMl_s g (fun o i ho => by rw [rI_w, if_neg (by omega), rI_w, if_neg (by omega)])
      -- what the class reads as a
      have cl : ∃ a, (∀ X Y : Option (Int32 × Mem), (if nI w = 1 then X else Y) = if w = 1 then X else Y) ∧ (w = 1 → f_X0_seen N (nI n) (wI (wI c1 58 1 (nI k)) 58 2 (nI n)) = some (a, wI (wI c1 58 1 (nI k)) 58 2 (nI n)) ∧ f_X9_seenOf N (nI n) (wI (wI m1 61 38 (nI k)) 61 39 (nI n)) = some (a, wI (wI m1 61 38 (nI k)) 61 39 (nI n))) ∧ (w = 0 → f_X5_get N 4 (nI n) 3 (wI (wI c1 58 1 (nI k)) 58 2 (nI n)) = some (a, wI (wI c1 58 1 (nI k)) 58 2 (nI n)) ∧ rI (wI (wI m1 61 38 (nI k)) 61 39 (nI n)) 63 (6 * n + 3) = a) := by
        have cw : w = 0 ∨ w = 1 := by omega
        rcases cw with rfl | rfl
        · exact ⟨nI (tb v 1 n 3), fun X Y => ek1 (by decide), fun e => absurd e (by decide), fun _ => ⟨g13 hB (s4 rfl).1, mp3 gB (s4 rfl).1⟩⟩
        · exact ⟨nI (seenS v n), fun X Y => ek1 (by decide), fun _ => ⟨e_seen hB hv (by omega) hN, m_seen gB hv (by omega) hN⟩, fun e => absurd e (by decide)⟩
      obtain ⟨a, cl0, cl1, cl2⟩ := cl
      have r58 : rI (wI (wI c1 58 1 (nI k)) 58 2 (nI n)) 58 2 = nI n := by rw [rI_w, if_pos ⟨rfl, rfl⟩]
      have clA : (if nI w = 1 then (bnd (f_X0_seen N (rI (wI (wI c1 58 1 (nI k)) 58 2 (nI n)) 58 2) (wI (wI c1 58 1 (nI k)) 58 2 (nI n))) fun r8 s8 => f_X8_act_j104 N a2 a3 r8 s8) else bnd (f_X5_get N 4 (rI (wI (wI c1 58 1 (nI k)) 58 2 (nI n)) 58 2) 3 (wI (wI c1 58 1 (nI k)) 58 2 (nI n))) fun r7 s7 => f_X8_act_j104 N a2 a3 r7 s7) = f_X8_act_j104 N a2 a3 a (wI (wI c1 58 1 (nI k)) 58 2 (nI n)) := by
        rw [cl0, r58]
        by_cases z : w = 1
        · rw [if_pos z, (cl1 z).1, bnd_s]
        · rw [if_neg z, (cl2 (by omega)).1, bnd_s]
      rw [clA]
      unfold f_X8_act_j104
      rw [lt_e]
      by_cases y : ¬ a2 < 0 ∧ ¬ (3 : Int32) < a2
      · obtain ⟨act, hact, rfl⟩ := btw_of (n := 3) (by decide) y.1 y.2
        have inr : decide (¬ nI k < 1 ∧ ¬ (8 : Int32) < nI k) = true := decide_eq_true ⟨nI_nlt (b := 1) hk1 (by omega), nI_nlt (a := 8) (by omega) (by decide)⟩
        rw [if_pos y, e2, bnd_s, e_in, bnd_s, inr, ite_T, e2, bnd_s, lt_e, gin_n hj4 (by decide), nI_clamp (by omega), rI_ne (by decide), s3, lt_e]
        have m38 : rI (wI (wI m1 61 38 (nI k)) 61 39 (nI n)) 61 38 = nI k := by rw [rI_w, if_neg (by omega), rI_w, if_pos ⟨rfl, rfl⟩]
        have m39 : rI (wI (wI m1 61 38 (nI k)) 61 39 (nI n)) 61 39 = nI n := by rw [rI_w, if_pos ⟨rfl, rfl⟩]
        rw [m38, m39, ek8 (by omega)]
        have md : (if k = 8 then (bnd (f_X9_seenOf N (nI n) (wI (wI m1 61 38 (nI k)) 61 39 (nI n))) fun r9 s9 => f_X9_act_j91 N (nI act) a3 r9 s9) else gin ((6 * nI n) + 3) 180 (f_X9_act_j91 N (nI act) a3 (rI (wI (wI m1 61 38 (nI k)) 61 39 (nI n)) 63 ((6 * nI n) + 3).toNatClampNeg) (wI (wI m1 61 38 (nI k)) 61 39 (nI n)))) = f_X9_act_j91 N (nI act) a3 a (wI (wI m1 61 38 (nI k)) 61 39 (nI n)) := by
          have cw : w = 0 ∨ w = 1 := by omega
          rcases cw with z | z
          · have := (s4 z).2
            rw [if_neg (by omega), pmg3 hn, pmn3 hn, (cl2 z).2]
          · rw [if_pos (s5 z).2, (cl1 z).2, bnd_s]
        rw [md]
        obtain ⟨T, F⟩ := pre a
        exact actB (R.trx T.2.2.2.2.2.2.2.2 F) T hk1 hk hN (show act < 4 by omega) a3 rfl rfl
      · rw [if_neg y, out y, bnd_s]
        refine Both.of rfl rfl (R.trx ?_ ⟨fun o i w1 _ _ => by rw [rI_ne w1, rI_ne w1, rI_ne w1, rI_ne w1], fun _ _ _ _ => rfl, fun _ => rfl⟩)
        exact tr.keep (fun o i ho => by rw [rI_ne (by omega), rI_ne (by omega), rI_ne (by omega), rI_ne (by omega)]) (fun _ _ _ => rfl)
  · have hf : f_X8_heldOn N a1 c1 = some (3, c1) := by
      unfold f_X8_heldOn
      rw [th_has t, isI4, decide_eq_false h1, bnd_s, ite_F]
    rw [if_neg h1, hf, bnd_s, if_pos rfl]
    exact both_bad R _
end ACT3
