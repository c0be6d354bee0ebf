-- the clauses: both sides
def INF (c0 m0 : Mem) (n : Nat) (c m : Mem) : Prop := ∃ ss lf nu tc ts W e, CIr c0 c e n ss 0 0 0 lf 0 nu tc ts W ∧ (nu < 1000 ∧ n ≤ 6 ∧ ss ≤ 200 ∧ pos ts ss ≤ 200 ∧ ss = (if n = 0 then 0 else tc (n - 1) 2)) ∧ (MFr m0 m ∧ rI m 61 22 = -1 ∧ rI m 61 27 = nI (pos ts ss)) ∧ DNr m n tc ts ss
def ICr (c0 m0 : Mem) (q : Nat) (B : Nat → Nat) (n e j : Nat) (c m : Mem) : Prop := ∃ ss lf nu tc ts W, CIr c0 c e n ss 0 0 0 lf 0 nu tc ts W ∧ (nu < 1000 ∧ j ≤ e ∧ e ≤ q ∧ q ≤ 200 ∧ ss ≤ j ∧ pos ts ss ≤ j ∧ n ≤ 6 ∧ ss = (if n = 0 then 0 else tc (n - 1) 2)) ∧ (MFr m0 m ∧ rI m 61 22 = -1 ∧ MT m q B e ∧ rI m 61 27 = nI (pos ts ss)) ∧ DNr m n tc ts ss
section CLAU
variable {N : Nat} {c m c0 m0 : Mem} {q e j n tk : Nat} {B : Nat → Nat}
theorem DNr.tc {ss : Nat} {tc td ts : Nat → Nat → Nat} (h : DNr m n tc ts ss) (hd : ∀ r k, r < n → td r k = tc r k) : DNr m n td ts ss := by
  refine ⟨fun r hr => ?_, h.2⟩
  obtain ⟨a1, a2, a3, a4, a5, a6, a7⟩ := h.1 r hr
  rw [hd r 0 hr, hd r 1 hr, hd r 2 hr]
  refine ⟨a1, a2, a3, a4, a5, ?_, a7⟩
  by_cases z : r = 0
  · rw [if_pos z] at a6 ⊢; exact a6
  · rw [if_neg z] at a6 ⊢; rw [hd (r - 1) 2 (by omega)]; exact a6
theorem c_clau {ss lf nu : Nat} {tc ts : Nat → Nat → Nat} {W : Nat → Nat} {T : Nat} (C : CIr c0 c e n ss 0 0 0 lf 0 nu tc ts W) (hn : n < 6) (hT : T = 9 ∨ T = 10) (hN : 1000 ≤ N) : ∃ c3, f_X7_isAccepted N (nI T) c = some (true, c3) ∧ CIr c0 c3 e (n + 1) ss 0 0 1 lf 0 nu (adS n (if T = 9 then 1 else 0) ss 0 tc) ts W := by
  obtain ⟨g1, g2, g3, g4, g5, g6⟩ := id C
  obtain ⟨y1, y2, y3, y4, y5, y6, y7⟩ := C.w36 (c2 := c) (fun _ => rfl)
  have t1 := g3.1.addT hn
  have s0 : ∀ {s : Mem} (t : TB s 37 3 6 (n + 1)) (v : Int32), f_X5_set N 37 (nI n) 0 v s = some ((), wI s 38 (n * 3 + 0) v) := fun t v => th_set t (k := 0) (by omega) (by decide) v
  have s1 : ∀ {s : Mem} (t : TB s 37 3 6 (n + 1)) (v : Int32), f_X5_set N 37 (nI n) 1 v s = some ((), wI s 38 (n * 3 + 1) v) := fun t v => th_set t (k := 1) (by omega) (by decide) v
  have go : ∀ (b : Bool) (a : Nat), bI b = nI a → ∃ c3, (bnd (f_X5_set N 37 (nI n) 0 (bI b) (addM c 37 3 n)) fun _ s1 => bnd (f_X5_set N 37 (nI n) 1 (rI s1 39 3) s1) fun _ s2 => lt (wI s2 36 7 1) fun s3 => some (true, s3)) = some (true, c3) ∧ CIr c0 c3 e (n + 1) ss 0 0 1 lf 0 nu (adS n a ss 0 tc) ts W := by
    intro b a hb
    have t2 : TB (wI (addM c 37 3 n) 38 (n * 3 + 0) (bI b)) 37 3 6 (n + 1) := t1.setC _ _
    have e39 : rI (wI (addM c 37 3 n) 38 (n * 3 + 0) (bI b)) 39 3 = nI ss := by rw [rI_ne (by decide), rI_addM, if_neg (by omega), if_neg (by omega)]; exact g4.1.2.2.1
    have R : ∀ o k, o ≠ 37 → o ≠ 38 → rI (wI (wI (addM c 37 3 n) 38 (n * 3 + 0) (bI b)) 38 (n * 3 + 1) (nI ss)) o k = rI c o k := fun o k h1 h2 => by
      rw [rI_ne h2, rI_ne h2, rI_addM, if_neg (by omega), if_neg (by omega)]
    have C1 : CIr c0 (wI (wI (addM c 37 3 n) 38 (n * 3 + 0) (bI b)) 38 (n * 3 + 1) (nI ss)) e (n + 1) ss 0 0 0 lf 0 nu (adS n a ss 0 tc) ts W := by
      refine ⟨fun o k hk => by rw [R o k (by omega) (by omega)]; exact g1 o k hk, ⟨by rw [R _ _ (by omega) (by omega)]; exact g2.1, by rw [R _ _ (by omega) (by omega)]; exact g2.2⟩, ⟨t2.setC _ _, fun r k hr hk => ?_⟩, ⟨g4.1.keep (fun k => R _ k (by omega) (by omega)), fun r k hr hk => by rw [R _ _ (by omega) (by omega)]; exact g4.2 r k hr hk⟩, ⟨by rw [R _ _ (by omega) (by omega)]; exact g5.1, fun i hi => absurd hi (by omega)⟩, by rw [R _ _ (by omega) (by omega)]; exact g6.1, by rw [R _ _ (by omega) (by omega)]; exact g6.2.1, by rw [R _ _ (by omega) (by omega)]; exact g6.2.2.1, by rw [R _ _ (by omega) (by omega)]; exact g6.2.2.2.1, by rw [R _ _ (by omega) (by omega)]; exact g6.2.2.2.2⟩
      unfold adS
      rw [rI_w, rI_w, rI_addM]
      by_cases z : r = n
      · rw [if_pos z]
        have cs3 : k = 0 ∨ k = 1 ∨ k = 2 := by omega
        rcases cs3 with rfl | rfl | rfl
        · rw [if_neg (by omega), if_pos ⟨rfl, by omega⟩, if_pos rfl]; exact hb
        · rw [if_pos ⟨rfl, by omega⟩, if_neg (by decide), if_pos rfl]
        · rw [if_neg (by omega), if_neg (by omega), if_pos ⟨rfl, by omega, by omega⟩, if_neg (by decide), if_neg (by decide)]; rfl
      · rw [if_neg (by omega), if_neg (by omega), if_neg (by omega), if_neg (by omega), if_neg z]
        exact g3.2 r k (by omega) hk
    obtain ⟨z1, z2, z3, z4, z5, z6, z7⟩ := C1.w36 (c2 := wI (wI (addM c 37 3 n) 38 (n * 3 + 0) (bI b)) 38 (n * 3 + 1) (nI ss)) (fun _ => rfl)
    refine ⟨_, by rw [s0 t1, bnd_s, e39, s1 t2, bnd_s, lt_e], C1.c36 (fun o k hk => rI_ne hk) (by rw [rI_w, if_neg (by omega)]; exact z1) (by rw [rI_w, if_neg (by omega)]; exact z2) (by rw [rI_w, if_neg (by omega)]; exact z3) (by rw [rI_w, if_pos ⟨rfl, rfl⟩]; rfl) (by rw [rI_w, if_neg (by omega)]; exact z5) (by rw [rI_w, if_neg (by omega)]; exact z6) (by rw [rI_w, if_neg (by omega)]; exact z7)⟩
  have ha : f_X7_isAccepted N (nI T) c = bnd (f_X7_isClauseBegun_j12 N (nI T) c) fun r1 s1 => some (r1, s1) := by
    unfold f_X7_isAccepted f_X7_isClauseBegun
    rw [y4, if_pos (by decide), ek9 (by omega), ek10 (by omega)]
    rcases hT with rfl | rfl <;> rfl
  rw [ha]
  unfold f_X7_isClauseBegun_j12 f_X7_isClauseBegun_j49
  rw [th_full g3.1, bnd_s, decide_eq_false (by omega), ite_F, th_add g3.1 hn (by omega), bnd_s, ek9 (by omega)]
  by_cases z : T = 9
  · obtain ⟨c3, d1, d2⟩ := go true 1 rfl
    rw [if_pos z, if_pos z, show f_X5_set N 37 (nI n) (bI false) (bI true) (addM c 37 3 n) = f_X5_set N 37 (nI n) 0 (bI true) (addM c 37 3 n) from rfl, d1, bnd_s]
    exact ⟨c3, rfl, d2⟩
  · obtain ⟨c3, d1, d2⟩ := go false 0 rfl
    rw [if_neg z, if_neg z, show f_X5_set N 37 (nI n) (bI false) (bI false) (addM c 37 3 n) = f_X5_set N 37 (nI n) 0 (bI false) (addM c 37 3 n) from rfl, d1, bnd_s]
    exact ⟨c3, rfl, d2⟩
theorem acc_0x {T : Nat} (h : rI c 36 7 = nI 0) (hT : T ≤ 20) (tb : TB c 37 3 6 n) (hx : ¬ ((T = 9 ∨ T = 10) ∧ n < 6)) : f_X7_isAccepted N (nI T) c = some (false, c) := by
  unfold f_X7_isAccepted f_X7_isClauseBegun f_X7_isClauseBegun_j12
  rw [h, if_pos (by decide), ek9 (by omega), ek10 (by omega), th_full tb, bnd_s]
  by_cases z : T = 9 ∨ T = 10
  · rw [decide_eq_true (by omega), ite_T]
    rcases z with rfl | rfl <;> rfl
  · rw [if_neg (by omega), if_neg (by omega), bnd_s]
theorem c_end {ss lf nu : Nat} {tc ts : Nat → Nat → Nat} {W : Nat → Nat} (C : CIr c0 c e (n + 1) ss 0 0 5 lf 0 nu tc ts W) (hn : n < 6) : ∃ c3, (bnd (f_X5_set N 37 ((rI c 37 3) - 1) 2 (rI c 39 3) c) fun _ s2 => lt (wI s2 36 7 0) fun s3 => some (true, s3)) = some (true, c3) ∧ CIr c0 c3 e (n + 1) ss 0 0 0 lf 0 nu (fun r k => if r = n ∧ k = 2 then ss else tc r k) ts W := by
  obtain ⟨g1, g2, g3, g4, g5, g6⟩ := id C
  have s2 : f_X5_set N 37 (nI n) 2 (nI ss) c = some ((), wI c 38 (n * 3 + 2) (nI ss)) := th_set g3.1 (k := 2) (by omega) (by decide) _
  have R : ∀ o k, o ≠ 38 → rI (wI c 38 (n * 3 + 2) (nI ss)) o k = rI c o k := fun o k h2 => rI_ne h2
  have C1 : CIr c0 (wI c 38 (n * 3 + 2) (nI ss)) e (n + 1) ss 0 0 5 lf 0 nu (fun r k => if r = n ∧ k = 2 then ss else tc r k) ts W := by
    refine ⟨fun o k hk => by rw [R o k (by omega)]; exact g1 o k hk, ⟨by rw [R _ _ (by omega)]; exact g2.1, by rw [R _ _ (by omega)]; exact g2.2⟩, ⟨g3.1.setC _ _, fun r k hr hk => ?_⟩, ⟨g4.1.keep (fun k => R _ k (by omega)), fun r k hr hk => by rw [R _ _ (by omega)]; exact g4.2 r k hr hk⟩, ⟨by rw [R _ _ (by omega)]; exact g5.1, fun i hi => absurd hi (by omega)⟩, by rw [R _ _ (by omega)]; exact g6.1, by rw [R _ _ (by omega)]; exact g6.2.1, by rw [R _ _ (by omega)]; exact g6.2.2.1, by rw [R _ _ (by omega)]; exact g6.2.2.2.1, by rw [R _ _ (by omega)]; exact g6.2.2.2.2⟩
    show _ = nI (if r = n ∧ k = 2 then ss else tc r k)
    rw [rI_w]
    by_cases z : r = n ∧ k = 2
    · rw [if_pos z, if_pos ⟨rfl, by omega⟩]
    · rw [if_neg z, if_neg (by omega)]; exact g3.2 r k hr hk
  obtain ⟨z1, z2, z3, z4, z5, z6, z7⟩ := C1.w36 (c2 := wI c 38 (n * 3 + 2) (nI ss)) (fun _ => rfl)
  refine ⟨_, by rw [g3.1.2.2.1, nI_pred, g4.1.2.2.1, s2, bnd_s, lt_e], C1.c36 (fun o k hk => rI_ne hk) (by rw [rI_w, if_neg (by omega)]; exact z1) (by rw [rI_w, if_neg (by omega)]; exact z2) (by rw [rI_w, if_neg (by omega)]; exact z3) (by rw [rI_w, if_pos ⟨rfl, rfl⟩]; rfl) (by rw [rI_w, if_neg (by omega)]; exact z5) (by rw [rI_w, if_neg (by omega)]; exact z6) (by rw [rI_w, if_neg (by omega)]; exact z7)⟩
/-- the clause is done -/
theorem IN.done (I : IN c0 m0 q B n tk e e j 0 5 111 c m) : ∃ c3, (bnd (f_X5_set N 37 ((rI c 37 3) - 1) 2 (rI c 39 3) c) fun _ s2 => lt (wI s2 36 7 0) fun s3 => some (true, s3)) = some (true, c3) ∧ n < 6 ∧ ICr c0 m0 q B (n + 1) e j c3 (wI (wI m 75 n (rI m 61 27)) 76 n (nI tk)) := by
  obtain ⟨ss, w, h, x, lf, nu, tc, ts, W, C, ⟨b1, b2, b3, b4, b5, b6, b7, b8, b9, b10, b11, b12⟩, ⟨w1, w2⟩, ⟨t1, t2, t3, t4⟩, ⟨p1, p2, p3⟩, ⟨f1, f2, f3, f4, f5⟩, ⟨s1, s2⟩, dn⟩ := I
  obtain ⟨hw, p4⟩ := p3 (by decide)
  subst hw
  have h0 : h = 0 := by
    rcases p4 with z | z
    · exact z
    · by_cases y : h = 0
      · exact y
      · exfalso
        have top : W (h - 1) = 14 := stPr_14 z (w1 (h - 1) (by omega)).1
        have : cto W h = cto W (h - 1) + 1 := by
          have e1 : h = (h - 1) + 1 := by omega
          rw [e1, cto, show h - 1 + 1 - 1 = h - 1 by omega, if_pos top]
        omega
  subst h0
  obtain ⟨c3, d1, d2⟩ := c_end (N := N) C b9
  rw [Nat.sub_self, Nat.add_zero] at b12
  rw [if_pos rfl, ctb] at t4
  have R : ∀ o k, o ≠ 75 → o ≠ 76 → rI (wI (wI m 75 n (rI m 61 27)) 76 n (nI tk)) o k = rI m o k := fun o k y1 y2 => by rw [rI_ne y2, rI_ne y1]
  refine ⟨c3, d1, b9, ss, lf, nu, _, ts, W, d2, ⟨b1, b2, b4, b5, by omega, by omega, by omega, ?_⟩, ⟨f1.of (fun o k y1 y2 => R o k (by omega) (by omega)) (fun o k _ => rfl), by rw [R _ _ (by omega) (by omega)]; exact f2, f3.keep (fun k y1 y2 => R _ _ (by omega) (by omega)) rfl, by rw [R _ _ (by omega) (by omega), ← b12]; exact f4⟩, ?_⟩
  · show ss = (if n + 1 = 0 then 0 else (if n + 1 - 1 = n ∧ 2 = 2 then ss else tc (n + 1 - 1) 2))
    rw [if_neg (by omega), if_pos ⟨by omega, rfl⟩]
  · have dn2 : DNr (wI (wI m 75 n (rI m 61 27)) 76 n (nI tk)) n (fun r k => if r = n ∧ k = 2 then ss else tc r k) ts ss := (dn.keep (fun _ _ _ => rfl) (fun i _ => R _ _ (by omega) (by omega)) (fun r hr => ⟨by rw [rI_ne (by decide), rI_w, if_neg (by omega)], by rw [rI_w, if_neg (by omega), rI_ne (by decide)]⟩) (Nat.le_refl _) (fun k y1 y2 => absurd y1 (by omega))).tc (fun r k hr => if_neg (by omega))
    refine ⟨fun r hr => ?_, dn2.2⟩
    by_cases z : r = n
    · subst z
      show _ = nI (pos ts (if r = r ∧ 2 = 2 then ss else tc r 2)) ∧ _ = nI (if r = r ∧ 0 = 2 then ss else tc r 0) ∧ (if r = r ∧ 0 = 2 then ss else tc r 0) ≤ 1 ∧ (if r = r ∧ 1 = 2 then ss else tc r 1) ≤ (if r = r ∧ 2 = 2 then ss else tc r 2) ∧ (if r = r ∧ 2 = 2 then ss else tc r 2) ≤ ss ∧ (if r = r ∧ 1 = 2 then ss else tc r 1) = (if r = 0 then 0 else (if r - 1 = r ∧ 2 = 2 then ss else tc (r - 1) 2)) ∧ dp ts (if r = r ∧ 1 = 2 then ss else tc r 1) ((if r = r ∧ 2 = 2 then ss else tc r 2) - (if r = r ∧ 1 = 2 then ss else tc r 1)) = 2
      rw [if_pos (show r = r ∧ 2 = 2 from ⟨rfl, rfl⟩), if_neg (show ¬ (r = r ∧ 0 = 2) by omega), if_neg (show ¬ (r = r ∧ 1 = 2) by omega), t1]
      refine ⟨by rw [rI_ne (by decide), rI_w, if_pos ⟨rfl, rfl⟩, f4, b12], by rw [rI_w, if_pos ⟨rfl, rfl⟩], b10, t3, Nat.le_refl _, ?_, t4⟩
      rw [t2]
      by_cases y : r = 0
      · rw [if_pos y, if_pos y]
      · rw [if_neg y, if_neg y, if_neg (by omega)]
    · exact dn2.1 r (by omega)
end CLAU
