-- act
def TX (c m : Mem) (k : Nat) (n a p : Int32) : Prop := rI c 58 1 = nI k ∧ rI c 58 2 = n ∧ rI c 58 3 = a ∧ rI c 58 4 = p ∧ rI m 61 38 = nI k ∧ rI m 61 39 = n ∧ rI m 61 40 = a ∧ rI m 61 43 = p ∧ TR c m
def FX (c m c2 m2 : Mem) : Prop := (∀ o k, o ≠ 58 → o ≠ 59 → o ≠ 60 → rI c2 o k = rI c o k) ∧ (∀ o k, o ≠ 85 → ¬ (o = 61 ∧ 38 ≤ k ∧ k ≤ 43) → rI m2 o k = rI m o k) ∧ ∀ k, rL m2 81 k = rL m 81 k
theorem FX.rf {c m : Mem} : FX c m c m := ⟨fun _ _ _ _ _ => rfl, fun _ _ _ _ => rfl, fun _ => rfl⟩
theorem FX.tr {c m c2 m2 c3 m3 : Mem} (h : FX c m c2 m2) (g : FX c2 m2 c3 m3) : FX c m c3 m3 := ⟨fun o k q1 q2 q3 => by rw [g.1 o k q1 q2 q3, h.1 o k q1 q2 q3], fun o k q1 q2 => by rw [g.2.1 o k q1 q2, h.2.1 o k q1 q2], fun k => by rw [g.2.2, h.2.2]⟩
section ACT
variable {N : Nat} {c m : Mem} {v vk : VB} {k : Nat} {n a p : Int32}
def BT (f g : Option (Int32 × Mem)) (k : Nat) (n a p : Int32) (c m : Mem) : Prop := ∃ (r : Int32) (c2 m2 : Mem), f = some (r, c2) ∧ g = some (r, m2) ∧ TX c2 m2 k n a p ∧ FX c m c2 m2
theorem l60 : ln (59 + 1) = 30 := rfl
theorem ranB (T : TX c m k n a p) (x : Int32) : ∃ c2 m2, f_X3_push N 59 x c = some ((), c2) ∧ f_X9_ran N x m = some ((), m2) ∧ TX c2 m2 k n a p ∧ FX c m c2 m2 := by
  obtain ⟨t1, t2, t3, t4, t5, t6, t7, t8, q, q1, q2, q3, q4⟩ := id T
  unfold f_X9_ran
  rw [q3, kle30 (by omega)]
  by_cases z : 30 ≤ q
  · refine ⟨c, m, ?_, by rw [if_pos z], T, FX.rf⟩
    unfold f_X3_push
    rw [q2, l60, lt0_f (by omega), lt_f z (by omega)]
  · refine ⟨wI (wI c 60 q x) 59 1 (nI (q + 1)), wI (wI m 85 q x) 61 42 (nI (q + 1)), p_push q2 (by rw [l60]; omega) (by decide) x, ?_, ⟨?_, ?_, ?_, ?_, ?_, ?_, ?_, ?_, q + 1, by omega, ?_, ?_, fun i hi => ?_⟩, fun o j w1 w2 w3 => ?_, fun o j w1 w2 => ?_, fun _ => rfl⟩
    · rw [if_neg z, gin_n (by omega) (by decide), lt_e, nI_clamp (by omega), rI_ne (by decide), q3, lt_e, nI_1]
    · rw [rI_ne (by decide), rI_ne (by decide)]; exact t1
    · rw [rI_ne (by decide), rI_ne (by decide)]; exact t2
    · rw [rI_ne (by decide), rI_ne (by decide)]; exact t3
    · rw [rI_ne (by decide), rI_ne (by decide)]; exact t4
    · rw [rI_w, if_neg (by omega), rI_ne (by decide)]; exact t5
    · rw [rI_w, if_neg (by omega), rI_ne (by decide)]; exact t6
    · rw [rI_w, if_neg (by omega), rI_ne (by decide)]; exact t7
    · rw [rI_w, if_neg (by omega), rI_ne (by decide)]; exact t8
    · rw [rI_w, if_pos ⟨rfl, rfl⟩]
    · rw [rI_w, if_pos ⟨rfl, rfl⟩]
    · rw [rI_ne (by decide), rI_w, rI_ne (by decide), rI_w]
      by_cases e : i = q
      · rw [if_pos ⟨rfl, e⟩, if_pos ⟨rfl, e⟩]
      · rw [if_neg (fun y => e y.2), if_neg (fun y => e y.2)]; exact q4 i (by omega)
    · rw [rI_ne w2, rI_ne w3]
    · rw [rI_w, if_neg (by omega), rI_ne w1]
theorem r_t (T : TX c m k n a p) (hk : k < 9) (hN : 1000 ≤ N) {b A : Int32} (ka : Nat) (hA : A = nI ka) (ha : ka < 9) (hu : und k ka = true) {c2 : Mem} (hp : f_X3_push N 59 b c = some ((), c2)) : f_X6_runs N b A c = some (true, c2) := by
  unfold f_X6_runs
  rw [hA, T.1, c_under hk (by omega) hN, bnd_s, hu, ite_T, hp, bnd_s]
theorem r_f (T : TX c m k n a p) (hk : k < 9) (hN : 1000 ≤ N) {b A : Int32} (ka : Nat) (hA : A = nI ka) (ha : ka < 9) (hu : und k ka = false) : f_X6_runs N b A c = some (false, c) := by
  unfold f_X6_runs
  rw [hA, T.1, c_under hk (by omega) hN, bnd_s, hu, ite_F]
theorem s1m (x : Int32) : x - bI true = x + (-1) := by rw [bI_t]; exact Int32.sub_eq_add_neg ..
theorem s0m (x : Int32) : x - bI false = x := by rw [bI_f]; exact Int32.sub_zero ..
theorem k_ne {x : Int32} (hk : k < 2 ^ 31) (j : Nat) (hx : x = nI j) (hj : j < 2 ^ 31) (h : k ≠ j) : ¬ nI k = x := fun e => h ((nI_eq hk hj).mp (by rw [← hx]; exact e))
theorem sayB (T : TX c m k n a p) (h1 : 1 ≤ k) (hk : k < 9) (hN : 1000 ≤ N) (x : Int32) : BT (f_X6_saysOf N x c) (f_X9_saysIt N x m) k n a p c m := by
  have cs : k = 8 ∨ (k = 1 ∨ k = 3 ∨ k = 4 ∨ k = 6) ∨ k = 2 ∨ k = 5 ∨ k = 7 := by omega
  rcases cs with rfl | cs | rfl | rfl | rfl
  · obtain ⟨c1, m1, p1, g1, T1, F1⟩ := ranB (N := N) T 80
    refine ⟨a - x, c1, m1, ?_, ?_, T1, F1⟩
    · unfold f_X6_saysOf
      rw [r_t (A := 8) T hk hN 8 rfl (by decide) rfl p1, bnd_s, ite_T, T1.2.2.1]
    · unfold f_X9_saysIt
      rw [T.2.2.2.2.1, if_pos (by decide), g1, bnd_s, T1.2.2.2.2.2.2.1]
  · obtain ⟨c1, m1, p1, g1, T1, F1⟩ := ranB (N := N) T 10
    have u : und k 8 = false ∧ und k 7 = false ∧ und k 5 = false ∧ und k 2 = false := by rcases cs with rfl | rfl | rfl | rfl <;> exact ⟨rfl, rfl, rfl, rfl⟩
    have e8 : ¬ nI k = 8 := k_ne (by omega) 8 rfl (by decide) (by omega)
    have e2 : ¬ nI k = 2 := k_ne (by omega) 2 rfl (by decide) (by omega)
    have e5 : ¬ nI k = 5 := k_ne (by omega) 5 rfl (by decide) (by omega)
    have e7 : ¬ nI k = 7 := k_ne (by omega) 7 rfl (by decide) (by omega)
    refine ⟨x + a, c1, m1, ?_, ?_, T1, F1⟩
    · unfold f_X6_saysOf f_X6_saysOf_j69 f_X6_saysOf_j82
      rw [r_f (A := 8) T hk hN 8 rfl (by decide) u.1, bnd_s, ite_F, r_f (A := 7) T hk hN 7 rfl (by decide) u.2.1, bnd_s, r_f (A := 5) T hk hN 5 rfl (by decide) u.2.2.1, bnd_s, r_f (A := 2) T hk hN 2 rfl (by decide) u.2.2.2, bnd_s, p1, bnd_s, ite_F, ite_F, ite_F, T1.2.2.1]
    · unfold f_X9_saysIt f_X9_saysIt_j47 f_X9_saysIt_j52
      rw [T.2.2.2.2.1, if_neg e8, if_neg e2, if_neg e5, if_neg e7, if_neg e7]
      unfold f_X9_saysIt_j68 f_X9_saysIt_j86 f_X9_saysIt_j96
      rw [ite_F, ite_F, g1, bnd_s, ite_F]
      unfold f_X9_saysIt_j117 f_X9_saysIt_j140 f_X9_saysIt_j141
      rw [ite_F, s0m, T1.2.2.2.2.1, if_neg e7, T1.2.2.2.2.2.2.1]
  · obtain ⟨c1, m1, p1, g1, T1, F1⟩ := ranB (N := N) T 20
    obtain ⟨c2, m2, p2, g2, T2, F2⟩ := ranB (N := N) T1 10
    refine ⟨x + a + (-1), c2, m2, ?_, ?_, T2, F1.tr F2⟩
    · unfold f_X6_saysOf f_X6_saysOf_j69 f_X6_saysOf_j82
      rw [r_f (A := 8) T hk hN 8 rfl (by decide) rfl, bnd_s, ite_F, r_f (A := 7) T hk hN 7 rfl (by decide) rfl, bnd_s, r_f (A := 5) T hk hN 5 rfl (by decide) rfl, bnd_s, r_t (A := 2) T hk hN 2 rfl (by decide) rfl p1, bnd_s, p2, bnd_s, ite_T, ite_F, ite_F, T2.2.2.1]
    · unfold f_X9_saysIt f_X9_saysIt_j47
      rw [T.2.2.2.2.1, if_neg (by decide), if_pos (by decide)]
      unfold f_X9_saysIt_j52
      rw [T.2.2.2.2.1, if_neg (by decide)]
      unfold f_X9_saysIt_j68
      rw [ite_T, T.2.2.2.2.1, if_pos (by decide)]
      unfold f_X9_saysIt_j86
      rw [ite_T, g1, bnd_s]
      unfold f_X9_saysIt_j96
      rw [g2, bnd_s, ite_T]
      unfold f_X9_saysIt_j117
      rw [ite_T, T2.2.2.2.2.1, if_pos (by decide)]
      unfold f_X9_saysIt_j140 f_X9_saysIt_j141
      rw [T2.2.2.2.2.1, if_neg (by decide), s1m, T2.2.2.2.2.2.2.1]
  · obtain ⟨c1, m1, p1, g1, T1, F1⟩ := ranB (N := N) T 50
    obtain ⟨c2, m2, p2, g2, T2, F2⟩ := ranB (N := N) T1 20
    obtain ⟨c3, m3, p3, g3, T3, F3⟩ := ranB (N := N) T2 10
    refine ⟨(x + a + (-1)) ^^^ a, c3, m3, ?_, ?_, T3, (F1.tr F2).tr F3⟩
    · unfold f_X6_saysOf f_X6_saysOf_j69 f_X6_saysOf_j82
      rw [r_f (A := 8) T hk hN 8 rfl (by decide) rfl, bnd_s, ite_F, r_f (A := 7) T hk hN 7 rfl (by decide) rfl, bnd_s, r_t (A := 5) T hk hN 5 rfl (by decide) rfl p1, bnd_s, r_t (A := 2) T1 hk hN 2 rfl (by decide) rfl p2, bnd_s, p3, bnd_s, ite_T, ite_T, ite_F, T3.2.2.1]
    · unfold f_X9_saysIt f_X9_saysIt_j47
      rw [T.2.2.2.2.1, if_neg (by decide), if_neg (by decide), if_pos (by decide)]
      unfold f_X9_saysIt_j52
      rw [T.2.2.2.2.1, if_neg (by decide)]
      unfold f_X9_saysIt_j68
      rw [ite_T, T.2.2.2.2.1, if_neg (by decide), g1, bnd_s]
      unfold f_X9_saysIt_j86
      rw [ite_T, g2, bnd_s]
      unfold f_X9_saysIt_j96
      rw [g3, bnd_s, ite_T]
      unfold f_X9_saysIt_j117
      rw [ite_T, T3.2.2.2.2.1, if_neg (by decide)]
      unfold f_X9_saysIt_j141
      rw [T3.2.2.2.2.1, if_neg (by decide), s1m, T3.2.2.2.2.2.2.1]
  · obtain ⟨c0, m0, p0, g0, T0, F0⟩ := ranB (N := N) T 70
    obtain ⟨c1, m1, p1, g1, T1, F1⟩ := ranB (N := N) T0 50
    obtain ⟨c2, m2, p2, g2, T2, F2⟩ := ranB (N := N) T1 20
    obtain ⟨c3, m3, p3, g3, T3, F3⟩ := ranB (N := N) T2 10
    refine ⟨((x + a + (-1)) ^^^ a) * 5, c3, m3, ?_, ?_, T3, ((F0.tr F1).tr F2).tr F3⟩
    · unfold f_X6_saysOf f_X6_saysOf_j69 f_X6_saysOf_j82
      rw [r_f (A := 8) T hk hN 8 rfl (by decide) rfl, bnd_s, ite_F, r_t (A := 7) T hk hN 7 rfl (by decide) rfl p0, bnd_s, r_t (A := 5) T0 hk hN 5 rfl (by decide) rfl p1, bnd_s, r_t (A := 2) T1 hk hN 2 rfl (by decide) rfl p2, bnd_s, p3, bnd_s, ite_T, ite_T, ite_T, T3.2.2.1]
    · unfold f_X9_saysIt f_X9_saysIt_j47
      rw [T.2.2.2.2.1, if_neg (by decide), if_neg (by decide), if_neg (by decide), if_pos (by decide)]
      unfold f_X9_saysIt_j52
      rw [T.2.2.2.2.1, if_pos (by decide), g0, bnd_s]
      unfold f_X9_saysIt_j68
      rw [ite_T, T0.2.2.2.2.1, if_neg (by decide), g1, bnd_s]
      unfold f_X9_saysIt_j86
      rw [ite_T, g2, bnd_s]
      unfold f_X9_saysIt_j96
      rw [g3, bnd_s, ite_T]
      unfold f_X9_saysIt_j117
      rw [ite_T, T3.2.2.2.2.1, if_neg (by decide)]
      unfold f_X9_saysIt_j141
      rw [T3.2.2.2.2.1, if_pos (by decide), s1m, T3.2.2.2.2.2.2.1]
theorem leaB (T : TX c m k n a p) (h1 : 1 ≤ k) (hk : k < 9) (hN : 1000 ≤ N) (x : Int32) : BT (f_X6_leansOf N x c) (f_X9_leansIt N x m) k n a p c m := by
  unfold f_X6_leansOf f_X9_leansIt
  rw [T.2.2.2.2.1]
  have cs : k = 8 ∨ (k = 1 ∨ k = 2 ∨ k = 4 ∨ k = 5 ∨ k = 7) ∨ k = 3 ∨ k = 6 := by omega
  rcases cs with rfl | cs | rfl | rfl
  · obtain ⟨c1, m1, p1, g1, T1, F1⟩ := ranB (N := N) T 81
    rw [r_t (A := 8) T hk hN 8 rfl (by decide) rfl p1, bnd_s, ite_T, if_pos (by decide), g1, bnd_s, T1.2.1, T1.2.2.2.2.2.1]
    exact ⟨_, c1, m1, rfl, rfl, T1, F1⟩
  · obtain ⟨c1, m1, p1, g1, T1, F1⟩ := ranB (N := N) T 11
    obtain ⟨r, c2, m2, e1, e2, T2, F2⟩ := sayB T1 h1 hk hN x
    have u : und k 8 = false ∧ und k 6 = false ∧ und k 3 = false := by rcases cs with rfl | rfl | rfl | rfl | rfl <;> exact ⟨rfl, rfl, rfl⟩
    have e8 : ¬ nI k = 8 := k_ne (by omega) 8 rfl (by decide) (by omega)
    have e6 : ¬ nI k = 6 := k_ne (by omega) 6 rfl (by decide) (by omega)
    have e3 : ¬ nI k = 3 := k_ne (by omega) 3 rfl (by decide) (by omega)
    unfold f_X9_paperLeans f_X6_leansOf_j70
    rw [r_f (A := 8) T hk hN 8 rfl (by decide) u.1, bnd_s, ite_F, r_f (A := 6) T hk hN 6 rfl (by decide) u.2.1, bnd_s, r_f (A := 3) T hk hN 3 rfl (by decide) u.2.2, bnd_s, p1, bnd_s, e1, bnd_s, ite_F, ite_F, if_neg e8, if_neg e6, if_neg e3, g1, bnd_s, e2, bnd_s, bnd_s]
    exact ⟨_, c2, m2, rfl, rfl, T2, F1.tr F2⟩
  · obtain ⟨c0, m0, p0, g0, T0, F0⟩ := ranB (N := N) T 30
    obtain ⟨c1, m1, p1, g1, T1, F1⟩ := ranB (N := N) T0 11
    obtain ⟨r, c2, m2, e1, e2, T2, F2⟩ := sayB T1 h1 hk hN x
    obtain ⟨r3, c3, m3, e3, e4, T3, F3⟩ := sayB T2 h1 hk hN n
    unfold f_X9_countLeans f_X9_paperLeans f_X6_leansOf_j70
    rw [r_f (A := 8) T hk hN 8 rfl (by decide) rfl, bnd_s, ite_F, r_f (A := 6) T hk hN 6 rfl (by decide) rfl, bnd_s, r_t (A := 3) T hk hN 3 rfl (by decide) rfl p0, bnd_s, p1, bnd_s, e1, bnd_s, ite_T, T2.2.1, e3, bnd_s, ite_F, if_neg (by decide), if_neg (by decide), if_pos (by decide), g0, bnd_s, g1, bnd_s, e2, bnd_s, bnd_s, T2.2.2.2.2.2.1, e4, bnd_s, bnd_s]
    exact ⟨_, c3, m3, rfl, rfl, T3, ((F0.tr F1).tr F2).tr F3⟩
  · obtain ⟨cz, mz, pz, gz, Tz, Fz⟩ := ranB (N := N) T 60
    obtain ⟨c0, m0, p0, g0, T0, F0⟩ := ranB (N := N) Tz 30
    obtain ⟨c1, m1, p1, g1, T1, F1⟩ := ranB (N := N) T0 11
    obtain ⟨r, c2, m2, e1, e2, T2, F2⟩ := sayB T1 h1 hk hN x
    obtain ⟨r3, c3, m3, e3, e4, T3, F3⟩ := sayB T2 h1 hk hN n
    unfold f_X9_countLeans f_X9_paperLeans f_X6_leansOf_j70
    rw [r_f (A := 8) T hk hN 8 rfl (by decide) rfl, bnd_s, ite_F, r_t (A := 6) T hk hN 6 rfl (by decide) rfl pz, bnd_s, r_t (A := 3) Tz hk hN 3 rfl (by decide) rfl p0, bnd_s, p1, bnd_s, e1, bnd_s, ite_T, T2.2.1, e3, bnd_s, ite_T, if_neg (by decide), if_pos (by decide), gz, bnd_s, g0, bnd_s, g1, bnd_s, e2, bnd_s, bnd_s, T2.2.2.2.2.2.1, e4, bnd_s, bnd_s]
    refine ⟨_, c3, m3, rfl, ?_, T3, (((Fz.tr F0).tr F1).tr F2).tr F3⟩
    rw [Int32.zero_sub]
theorem fitB (T : TX c m k n a p) (h1 : 1 ≤ k) (hk : k < 9) (hN : 1000 ≤ N) (x : Int32) : ∃ p2, ∃ (r : Int32) (c2 m2 : Mem), f_X6_fitsOf N x c = some (r, c2) ∧ f_X9_fitsIt N x m = some (r, m2) ∧ TX c2 m2 k n a p2 ∧ FX c m c2 m2 := by
  unfold f_X6_fitsOf f_X9_fitsIt
  rw [T.2.2.2.2.1]
  -- what follows the bodies
  have tail : ∀ (c1 m1 c2 m2 : Mem) (b : Bool) (y : Int32), (y = if b = true then x + 1 else x) → f_X3_push N 59 12 c1 = some ((), c2) → f_X9_ran N 12 m1 = some ((), m2) → TX c2 m2 k n a p → FX c m c2 m2 → ∃ p2, ∃ (r : Int32) (c3 m3 : Mem), (bnd (f_X3_push N 59 12 c1) fun _ s3 => if ((rI s3 58 3) - (rI s3 58 2)) = 0 then (lt (wI s3 58 4 1) fun s4 => some (0, s4)) else if b = true then f_X6_fitsOf_j67 N ((rI s3 58 3) - (rI s3 58 2)) (x + 1) s3 else f_X6_fitsOf_j67 N ((rI s3 58 3) - (rI s3 58 2)) x s3) = some (r, c3) ∧ f_X9_fitsIt_j51 N y m1 = some (r, m3) ∧ TX c3 m3 k n a p2 ∧ FX c m c3 m3 := by
    intro c1 m1 c2 m2 b y hy hp hg T2 F2
    unfold f_X9_fitsIt_j51 f_X6_fitsOf_j67
    rw [hp, bnd_s, hg, bnd_s, T2.2.2.1, T2.2.1, T2.2.2.2.2.2.2.1, T2.2.2.2.2.2.1]
    have ez : (a - n = 0) ↔ a = n := by
      constructor
      · intro e
        have : a = a - n + n := by rw [Int32.sub_add_cancel]
        rw [this, e, Int32.zero_add]
      · intro e
        rw [e, Int32.sub_self]
    by_cases z : a = n
    · rw [if_pos (ez.mpr z), if_pos z, lt_e, lt_e]
      refine ⟨1, 0, _, _, rfl, rfl, ?_, F2.tr ⟨fun o j w1 _ _ => rI_ne w1, fun o j w1 w2 => by rw [rI_w, if_neg (by omega)], fun _ => rfl⟩⟩
      obtain ⟨t1, t2, t3, t4, t5, t6, t7, t8, q, q1, q2, q3, q4⟩ := T2
      refine ⟨by rw [rI_w, if_neg (by omega)]; exact t1, by rw [rI_w, if_neg (by omega)]; exact t2, by rw [rI_w, if_neg (by omega)]; exact t3, by rw [rI_w, if_pos ⟨rfl, rfl⟩], by rw [rI_w, if_neg (by omega)]; exact t5, by rw [rI_w, if_neg (by omega)]; exact t6, by rw [rI_w, if_neg (by omega)]; exact t7, by rw [rI_w, if_pos ⟨rfl, rfl⟩], q, q1, by rw [rI_ne (by decide)]; exact q2, by rw [rI_w, if_neg (by omega)]; exact q3, fun i hi => by rw [rI_ne (by decide), rI_ne (by decide)]; exact q4 i hi⟩
    · have nz : ¬ a - n = 0 := fun e => z (ez.mp e)
      rw [if_neg nz, if_neg z, gnz_t nz, gnz_t nz, gnz_t nz, hy]
      cases b
      · exact ⟨p, _, _, _, rfl, rfl, T2, F2⟩
      · exact ⟨p, _, _, _, rfl, rfl, T2, F2⟩
  have cs : k = 8 ∨ (k = 1 ∨ k = 2 ∨ k = 3 ∨ k = 4 ∨ k = 6) ∨ (k = 5 ∨ k = 7) := by omega
  rcases cs with rfl | cs | cs
  · obtain ⟨c1, m1, p1, g1, T1, F1⟩ := ranB (N := N) T 82
    rw [r_t (A := 8) T hk hN 8 rfl (by decide) rfl p1, bnd_s, ite_T, if_pos (by decide), g1, bnd_s, T1.2.2.1, T1.2.2.2.2.2.2.1]
    exact ⟨p, _, c1, m1, rfl, rfl, T1, F1⟩
  · obtain ⟨c1, m1, p1, g1, T1, F1⟩ := ranB (N := N) T 12
    have u : und k 8 = false ∧ und k 5 = false := by rcases cs with rfl | rfl | rfl | rfl | rfl <;> exact ⟨rfl, rfl⟩
    have e8 : ¬ nI k = 8 := k_ne (by omega) 8 rfl (by decide) (by omega)
    have e5 : ¬ nI k = 5 := k_ne (by omega) 5 rfl (by decide) (by omega)
    have e7 : ¬ nI k = 7 := k_ne (by omega) 7 rfl (by decide) (by omega)
    rw [r_f (A := 8) T hk hN 8 rfl (by decide) u.1, bnd_s, ite_F, r_f (A := 5) T hk hN 5 rfl (by decide) u.2, bnd_s, if_neg e8, if_neg e5, if_neg e7]
    exact tail c m c1 m1 false x rfl p1 g1 T1 F1
  · obtain ⟨c0, m0, p0, g0, T0, F0⟩ := ranB (N := N) T 51
    obtain ⟨c1, m1, p1, g1, T1, F1⟩ := ranB (N := N) T0 12
    have u : und k 8 = false ∧ und k 5 = true := by rcases cs with rfl | rfl <;> exact ⟨rfl, rfl⟩
    have e8 : ¬ nI k = 8 := k_ne (by omega) 8 rfl (by decide) (by omega)
    unfold f_X9_fitsIt_j41
    rw [r_f (A := 8) T hk hN 8 rfl (by decide) u.1, bnd_s, ite_F, r_t (A := 5) T hk hN 5 rfl (by decide) u.2 p0, bnd_s, if_neg e8, g0, bnd_s]
    have t := tail c0 m0 c1 m1 true (x + 1) rfl p1 g1 T1 (F0.tr F1)
    rcases cs with rfl | rfl
    · rw [if_pos (by decide)]; exact t
    · rw [if_neg (by decide), if_pos (by decide)]; exact t
theorem telB (T : TX c m k n a p) (h1 : 1 ≤ k) (hk : k < 9) (hN : 1000 ≤ N) (x : Int32) : ∃ p2, ∃ (r : Int32) (c2 m2 : Mem), f_X6_tellsOf N x c = some (r, c2) ∧ f_X9_tellsIt N x m = some (r, m2) ∧ TX c2 m2 k n a p2 ∧ FX c m c2 m2 := by
  unfold f_X6_tellsOf f_X9_tellsIt
  rw [T.2.2.2.2.1]
  have cs : k = 8 ∨ (k = 1 ∨ k = 2 ∨ k = 3 ∨ k = 5 ∨ k = 7) ∨ k = 4 ∨ k = 6 := by omega
  rcases cs with rfl | cs | rfl | rfl
  · obtain ⟨c1, m1, p1, g1, T1, F1⟩ := ranB (N := N) T 83
    obtain ⟨r2, c2, m2, e1, e2, T2, F2⟩ := sayB T1 h1 hk hN x
    obtain ⟨r3, c3, m3, e3, e4, T3, F3⟩ := leaB T2 h1 hk hN x
    rw [r_t (A := 8) T hk hN 8 rfl (by decide) rfl p1, bnd_s, ite_T, e1, bnd_s, e3, bnd_s, if_pos (by decide), g1, bnd_s, e2, bnd_s, e4, bnd_s]
    exact ⟨p, _, c3, m3, rfl, rfl, T3, (F1.tr F2).tr F3⟩
  · obtain ⟨c1, m1, p1, g1, T1, F1⟩ := ranB (N := N) T 13
    obtain ⟨r2, c2, m2, e1, e2, T2, F2⟩ := leaB T1 h1 hk hN x
    have u : und k 8 = false ∧ und k 6 = false ∧ und k 4 = false := by rcases cs with rfl | rfl | rfl | rfl | rfl <;> exact ⟨rfl, rfl, rfl⟩
    have e8 : ¬ nI k = 8 := k_ne (by omega) 8 rfl (by decide) (by omega)
    have e6 : ¬ nI k = 6 := k_ne (by omega) 6 rfl (by decide) (by omega)
    have e4 : ¬ nI k = 4 := k_ne (by omega) 4 rfl (by decide) (by omega)
    unfold f_X9_paperTells f_X6_tellsOf_j71
    rw [r_f (A := 8) T hk hN 8 rfl (by decide) u.1, bnd_s, ite_F, r_f (A := 6) T hk hN 6 rfl (by decide) u.2.1, bnd_s, r_f (A := 4) T hk hN 4 rfl (by decide) u.2.2, bnd_s, p1, bnd_s, e1, bnd_s, ite_F, ite_F, if_neg e8, if_neg e4, if_neg e6, g1, bnd_s, e2, bnd_s, bnd_s, T2.2.1, T2.2.2.2.2.2.1]
    exact ⟨p, _, c2, m2, rfl, rfl, T2, F1.tr F2⟩
  · obtain ⟨c0, m0, p0, g0, T0, F0⟩ := ranB (N := N) T 40
    obtain ⟨c1, m1, p1, g1, T1, F1⟩ := ranB (N := N) T0 13
    obtain ⟨r2, c2, m2, e1, e2, T2, F2⟩ := leaB T1 h1 hk hN x
    unfold f_X9_paperTells f_X6_tellsOf_j71
    rw [r_f (A := 8) T hk hN 8 rfl (by decide) rfl, bnd_s, ite_F, r_f (A := 6) T hk hN 6 rfl (by decide) rfl, bnd_s, r_t (A := 4) T hk hN 4 rfl (by decide) rfl p0, bnd_s, p1, bnd_s, e1, bnd_s, ite_T, ite_F, if_neg (by decide), if_pos (by decide), g0, bnd_s, g1, bnd_s, e2, bnd_s, bnd_s, T2.2.1, T2.2.2.2.2.2.1]
    exact ⟨p, _, c2, m2, rfl, rfl, T2, (F0.tr F1).tr F2⟩
  · obtain ⟨c0, m0, p0, g0, T0, F0⟩ := ranB (N := N) T 61
    obtain ⟨c1, m1, p1, g1, T1, F1⟩ := ranB (N := N) T0 13
    obtain ⟨r2, c2, m2, e1, e2, T2, F2⟩ := leaB T1 h1 hk hN x
    obtain ⟨pp, r3, c3, m3, e3, e4, T3, F3⟩ := fitB T2 h1 hk hN n
    unfold f_X9_paperTells f_X6_tellsOf_j71
    rw [r_f (A := 8) T hk hN 8 rfl (by decide) rfl, bnd_s, ite_F, r_t (A := 6) T hk hN 6 rfl (by decide) rfl p0, bnd_s, r_f (A := 4) T0 hk hN 4 rfl (by decide) rfl, bnd_s, p1, bnd_s, e1, bnd_s, ite_F, ite_T, T2.2.1, e3, bnd_s, if_neg (by decide), if_neg (by decide), if_pos (by decide), g0, bnd_s, g1, bnd_s, e2, bnd_s, bnd_s, T2.2.2.2.2.2.1, e4, bnd_s]
    exact ⟨pp, _, c3, m3, rfl, rfl, T3, ((F0.tr F1).tr F2).tr F3⟩
end ACT
