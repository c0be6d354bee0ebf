section AGAIN
variable {N : Nat} {c m : Mem} {v vk : VB}
/-- an array of the model with its length, and where it is kept -/
def mLn (j : Nat) : Nat := ([40, 180, 17, 80, 80, 32, 6, 6, 210] : List Nat).getD j 0
/-- the first i arrays are kept -/
def MK (i : Nat) (m0 m : Mem) : Prop := (∀ o q, o ≠ 86 → o ≠ 87 → ¬ (o = 61 ∧ q = 46) → rI m o q = rI m0 o q) ∧ (∀ q, q < 6 → rI m 86 q = cvL m0 q) ∧ (∀ j q, j < i → q < mLn j → rI m 86 (offK j + q) = rI m0 (62 + j) q) ∧ ∀ o q, rL m o q = rL m0 o q
theorem off_next : ∀ j, j < 8 → offK (j + 1) = offK j + mLn j := by decide
theorem off_mono : ∀ i, i < 9 → ∀ j, j < i → offK j + mLn j ≤ offK i := by decide
theorem off_6 : ∀ j, j < 9 → 6 ≤ offK j ∧ offK j + mLn j ≤ 657 ∧ ln (62 + j) = mLn j ∧ mLn j < 300 := by decide
theorem MK_step {i : Nat} {m0 : Mem} (h : MK i m0 m) (hi : i < 9) (hN : 1000 ≤ N) (ho : rI m 61 46 = nI (offK i)) : ∃ m2, f_X9_move N (62 + i) (nI (mLn i)) true m = some ((), m2) ∧ MK (i + 1) m0 m2 ∧ rI m2 61 46 = nI (offK i + mLn i) := by
  obtain ⟨h1, h2, h3, h4⟩ := h
  obtain ⟨o1, o2, o3, o4⟩ := off_6 i hi
  obtain ⟨m2, e1, e2, e3, e4, e5⟩ := m_moveT (N := N) (ar := 62 + i) (len := mLn i) (off := offK i) (by omega) (by omega) o3 o4 (by omega) (mLn i) 0 N m (by omega) (by omega) ho
  refine ⟨m2, e1, ⟨fun o q q1 q2 q3 => by rw [e3 o q q1 q3, h1 o q q1 q2 q3], fun q hq => ?_, fun j q hj hq => ?_, fun o q => by rw [e5, h4]⟩, e2⟩
  · rw [e4, if_neg (by omega)]; exact h2 q hq
  · rw [e4]
    by_cases e : j = i
    · rw [e] at hq ⊢
      rw [if_pos (by omega), Nat.add_sub_cancel_left, h1 _ _ (by omega) (by omega) (by omega)]
    · have om := off_mono i hi j (by omega)
      rw [if_neg (by omega)]
      exact h3 j q (by omega) hq
theorem gk {α : Type} {X : Option α} {k : Nat} (hk : k < 6) : gin (nI k) 6 X = X := gin_n hk (by decide)
theorem gk0 {α : Type} {X : Option α} : gin (0 : Int32) 6 X = X := gk (k := 0) (by decide)
theorem gk1 {α : Type} {X : Option α} : gin (1 : Int32) 6 X = X := gk (k := 1) (by decide)
theorem gk2 {α : Type} {X : Option α} : gin (2 : Int32) 6 X = X := gk (k := 2) (by decide)
theorem gk3 {α : Type} {X : Option α} : gin (3 : Int32) 6 X = X := gk (k := 3) (by decide)
theorem gk4 {α : Type} {X : Option α} : gin (4 : Int32) 6 X = X := gk (k := 4) (by decide)
theorem gk5 {α : Type} {X : Option α} : gin (5 : Int32) 6 X = X := gk (k := 5) (by decide)
theorem ck0 : (0 : Int32).toNatClampNeg = 0 := by decide
theorem ck1 : (1 : Int32).toNatClampNeg = 1 := by decide
theorem ck2 : (2 : Int32).toNatClampNeg = 2 := by decide
theorem ck3 : (3 : Int32).toNatClampNeg = 3 := by decide
theorem ck4 : (4 : Int32).toNatClampNeg = 4 := by decide
theorem ck5 : (5 : Int32).toNatClampNeg = 5 := by decide
/-- the counts laid by -/
def cntM (m : Mem) : Mem := wI (wI (wI (wI (wI (wI (wI m 61 46 0) 87 0 (rI m 61 0)) 87 1 (rI m 61 2)) 87 2 (rI m 61 5)) 87 3 (rI m 61 7)) 87 4 (rI m 61 9)) 87 5 (rI m 61 11)
theorem cntM_ne {o q : Nat} (h1 : o ≠ 87) (h2 : ¬ (o = 61 ∧ q = 46)) : rI (cntM m) o q = rI m o q := by
  unfold cntM
  rw [rI_ne h1, rI_ne h1, rI_ne h1, rI_ne h1, rI_ne h1, rI_ne h1, rI_w, if_neg h2]
theorem cntM_87 {q : Nat} (hq : q < 6) : rI (cntM m) 87 q = cvL m q := by
  unfold cntM
  rw [rI_w, rI_w, rI_w, rI_w, rI_w, rI_w]
  have cs : q = 0 ∨ q = 1 ∨ q = 2 ∨ q = 3 ∨ q = 4 ∨ q = 5 := by omega
  rcases cs with rfl | rfl | rfl | rfl | rfl | rfl <;> rfl
theorem cntM_46 : rI (cntM m) 61 46 = nI 0 := by
  unfold cntM
  rw [rI_ne (by decide), rI_ne (by decide), rI_ne (by decide), rI_ne (by decide), rI_ne (by decide), rI_ne (by decide), rI_w, if_pos ⟨rfl, rfl⟩]; rfl
theorem m_moveAll (b : Bool) : f_X9_moveAll N b m = bnd (f_X9_move N 87 6 b (cntM m)) fun _ s8 => bnd (f_X9_move N (62 + 0) (nI (mLn 0)) b s8) fun _ s9 => bnd (f_X9_move N (62 + 1) (nI (mLn 1)) b s9) fun _ s10 => bnd (f_X9_move N (62 + 2) (nI (mLn 2)) b s10) fun _ s11 => bnd (f_X9_move N (62 + 3) (nI (mLn 3)) b s11) fun _ s12 => bnd (f_X9_move N (62 + 4) (nI (mLn 4)) b s12) fun _ s13 => bnd (f_X9_move N (62 + 5) (nI (mLn 5)) b s13) fun _ s14 => bnd (f_X9_move N (62 + 6) (nI (mLn 6)) b s14) fun _ s15 => bnd (f_X9_move N (62 + 7) (nI (mLn 7)) b s15) fun _ s16 => bnd (f_X9_move N (62 + 8) (nI (mLn 8)) b s16) fun _ s17 => some ((), s17) := by
  have e : cntM m = wI (wI (wI (wI (wI (wI (wI m 61 46 0) 87 0 (rI (wI m 61 46 0) 61 0)) 87 1 (rI (wI (wI m 61 46 0) 87 0 (rI (wI m 61 46 0) 61 0)) 61 2)) 87 2 (rI m 61 5)) 87 3 (rI m 61 7)) 87 4 (rI m 61 9)) 87 5 (rI m 61 11) := rfl
  unfold f_X9_moveAll
  rw [lt_e, gk0, lt_e, gk1, lt_e, gk2, lt_e, gk3, lt_e, gk4, lt_e, gk5, lt_e, ck0, ck1, ck2, ck3, ck4, ck5]
  rfl
theorem m_keepA (hN : 1000 ≤ N) : ∃ m2, f_X9_moveAll N true m = some ((), m2) ∧ MK 9 m m2 := by
  obtain ⟨a1, e1, e2, e3, e4, e5⟩ := m_moveT (N := N) (ar := 87) (len := 6) (off := 0) (by decide) (by decide) rfl (by decide) (by decide) 6 0 N (cntM m) (by omega) (by omega) cntM_46
  have P0 : MK 0 m a1 := ⟨fun o q q1 q2 q3 => by rw [e3 o q q1 q3, cntM_ne q2 q3], fun q hq => by rw [e4, if_pos (by omega), Nat.sub_zero, cntM_87 hq], fun j q hj => absurd hj (by omega), fun o q => by rw [e5]; rfl⟩
  obtain ⟨a2, f1, P1, w1⟩ := MK_step (N := N) P0 (by decide) hN e2
  obtain ⟨a3, f2, P2, w2⟩ := MK_step (N := N) P1 (by decide) hN w1
  obtain ⟨a4, f3, P3, w3⟩ := MK_step (N := N) P2 (by decide) hN w2
  obtain ⟨a5, f4, P4, w4⟩ := MK_step (N := N) P3 (by decide) hN w3
  obtain ⟨a6, f5, P5, w5⟩ := MK_step (N := N) P4 (by decide) hN w4
  obtain ⟨a7, f6, P6, w6⟩ := MK_step (N := N) P5 (by decide) hN w5
  obtain ⟨a8, f7, P7, w7⟩ := MK_step (N := N) P6 (by decide) hN w6
  obtain ⟨a9, f8, P8, w8⟩ := MK_step (N := N) P7 (by decide) hN w7
  obtain ⟨a10, f9, P9, w9⟩ := MK_step (N := N) P8 (by decide) hN w8
  refine ⟨a10, ?_, P9⟩
  have g : f_X9_move N 87 6 true (cntM m) = some ((), a1) := e1
  rw [m_moveAll, g, bnd_s, f1, bnd_s, f2, bnd_s, f3, bnd_s, f4, bnd_s, f5, bnd_s, f6, bnd_s, f7, bnd_s, f8, bnd_s, f9, bnd_s]
theorem b_keep (R : Rv c m v vk) (hN : 1000 ≤ N) : Both (f_X8_keep N c) (f_X9_keep N m) := by
  obtain ⟨h, g, hv, ⟨b, k1, k2, k3, k4⟩, ta, ro, sh, sl, tr, sp⟩ := id R
  obtain ⟨c2, e1, e2, e3, e4⟩ := becAll (N := N) (a := 1) (b := 16) (n0 := fun j => cnt vk j) (by omega) h (fun j hj => k3.T hj)
  obtain ⟨m2, f1, f2, f3, f4, f5⟩ := m_keepA (N := N) (m := m) hN
  have e1' : f_X0_become_k N c = some ((), c2) := e1
  unfold f_X8_keep f_X9_keep
  rw [e1', bnd_s, lt_e, f1, bnd_s, lt_e]
  have C : ∀ o k, ¬ (16 ≤ o ∧ o ≤ 30) → ¬ (o = 0 ∧ k = 2) → rI (wI c2 0 2 1) o k = rI c o k := fun o k w1 w2 => by rw [rI_w, if_neg w2, e4 o k (by omega)]
  have M : ∀ o k, o ≠ 86 → o ≠ 87 → ¬ (o = 61 ∧ k = 46) → ¬ (o = 61 ∧ k = 44) → rI (wI m2 61 44 1) o k = rI m o k := fun o k w1 w2 w3 w4 => by rw [rI_w, if_neg w4, f2 o k w1 w2 w3]
  have M86 : ∀ k, rI (wI m2 61 44 1) 86 k = rI m2 86 k := fun k => rI_ne (by decide)
  have kp : KP (wI c2 0 2 1) (wI m2 61 44 1) v := by
    refine ⟨true, by rw [rI_w, if_pos ⟨rfl, rfl⟩]; rfl, by rw [rI_w, if_pos ⟨rfl, rfl⟩]; rfl, e2.keep (fun o k w1 w2 => rI_ne (by omega)), fun _ => ⟨?_, hv⟩⟩
    refine RMb.keep g (fun j hj => ?_) (fun j i hj hi => ?_) hv
    · show rI (wI m2 61 44 1) 86 j = _
      rw [M86]; exact f3 j hj
    · show rI (wI m2 61 44 1) 86 (offK j + i) = rI m (62 + j) i
      rw [M86]; exact f4 j i hj hi
  refine ⟨1, _, _, rfl, rfl, v, v, h.keep (fun o k w1 w2 => C o k (by omega) (by omega)), RMl_s g (fun o k ho => M o k (by omega) (by omega) (by omega) (by omega)), hv, kp, ta.keep (fun o k ho => C o k (by omega) (by omega)) (fun o k ho => M o k (by omega) (by omega) (by omega) (by omega)), ro.keep (fun o k ho => C o k (by omega) (by omega)) (fun o k ho => M o k (by omega) (by omega) (by omega) (by omega)), sh.keep (fun o k ho => C o k (by omega) (by omega)) (fun o k ho => M o k (by omega) (by omega) (by omega) (by omega)) (fun k => f5 81 k), sl.keep (fun o k ho => C o k (by omega) (by omega)) (fun o k ho => M o k (by omega) (by omega) (by omega) (by omega)), tr.keep (fun o k ho => C o k (by omega) (by omega)) (fun o k ho => M o k (by omega) (by omega) (by omega) (by omega)), sp.keep (fun o k w1 w2 => C o k (by omega) (by omega))⟩
/-- the first i arrays are as kept -/
def ML (i : Nat) (m0 m : Mem) : Prop := (∀ o q, o ≠ 87 → ¬ (62 ≤ o ∧ o ≤ 70) → ¬ (o = 61 ∧ q = 46) → rI m o q = rI m0 o q) ∧ (∀ q, q < 6 → rI m 87 q = rI m0 86 q) ∧ (∀ j q, j < i → q < mLn j → rI m (62 + j) q = rI m0 86 (offK j + q)) ∧ ∀ o q, rL m o q = rL m0 o q
theorem ML_step {i : Nat} {m0 : Mem} (h : ML i m0 m) (hi : i < 9) (hN : 1000 ≤ N) (ho : rI m 61 46 = nI (offK i)) : ∃ m2, f_X9_move N (62 + i) (nI (mLn i)) false m = some ((), m2) ∧ ML (i + 1) m0 m2 ∧ rI m2 61 46 = nI (offK i + mLn i) := by
  obtain ⟨h1, h2, h3, h4⟩ := h
  obtain ⟨o1, o2, o3, o4⟩ := off_6 i hi
  obtain ⟨m2, e1, e2, e3, e4, e5⟩ := m_moveF (N := N) (ar := 62 + i) (len := mLn i) (off := offK i) (by omega) (by omega) o3 o4 (by omega) (mLn i) 0 N m (by omega) (by omega) ho
  refine ⟨m2, e1, ⟨fun o q q1 q2 q3 => by rw [e3 o q (by omega) q3, h1 o q q1 q2 q3], fun q hq => ?_, fun j q hj hq => ?_, fun o q => by rw [e5, h4]⟩, e2⟩
  · rw [e3 _ _ (by omega) (by omega)]; exact h2 q hq
  · by_cases e : j = i
    · rw [e] at hq ⊢
      rw [e4, if_pos (by omega), h1 _ _ (by omega) (by omega) (by omega)]
    · rw [e3 _ _ (by omega) (by omega)]
      exact h3 j q (by omega) hq
theorem m_againA (hN : 1000 ≤ N) : ∃ m2, f_X9_moveAll N false m = some ((), m2) ∧ ML 9 m m2 := by
  obtain ⟨a1, e1, e2, e3, e4, e5⟩ := m_moveF (N := N) (ar := 87) (len := 6) (off := 0) (by decide) (by decide) rfl (by decide) (by decide) 6 0 N (cntM m) (by omega) (by omega) cntM_46
  have P0 : ML 0 m a1 := ⟨fun o q q1 q2 q3 => by rw [e3 o q q1 q3, cntM_ne q1 q3], fun q hq => by rw [e4, if_pos (by omega), Nat.zero_add, cntM_ne (by decide) (by omega)], fun j q hj => absurd hj (by omega), fun o q => by rw [e5]; rfl⟩
  obtain ⟨a2, f1, P1, w1⟩ := ML_step (N := N) P0 (by decide) hN e2
  obtain ⟨a3, f2, P2, w2⟩ := ML_step (N := N) P1 (by decide) hN w1
  obtain ⟨a4, f3, P3, w3⟩ := ML_step (N := N) P2 (by decide) hN w2
  obtain ⟨a5, f4, P4, w4⟩ := ML_step (N := N) P3 (by decide) hN w3
  obtain ⟨a6, f5, P5, w5⟩ := ML_step (N := N) P4 (by decide) hN w4
  obtain ⟨a7, f6, P6, w6⟩ := ML_step (N := N) P5 (by decide) hN w5
  obtain ⟨a8, f7, P7, w7⟩ := ML_step (N := N) P6 (by decide) hN w6
  obtain ⟨a9, f8, P8, w8⟩ := ML_step (N := N) P7 (by decide) hN w7
  obtain ⟨a10, f9, P9, w9⟩ := ML_step (N := N) P8 (by decide) hN w8
  refine ⟨a10, ?_, P9⟩
  have g : f_X9_move N 87 6 false (cntM m) = some ((), a1) := e1
  rw [m_moveAll, g, bnd_s, f1, bnd_s, f2, bnd_s, f3, bnd_s, f4, bnd_s, f5, bnd_s, f6, bnd_s, f7, bnd_s, f8, bnd_s, f9, bnd_s]
/-- the counts taken up again -/
def cntB (m : Mem) : Mem := wI (wI (wI (wI (wI (wI m 61 0 (rI m 87 0)) 61 2 (rI m 87 1)) 61 5 (rI m 87 2)) 61 7 (rI m 87 3)) 61 9 (rI m 87 4)) 61 11 (rI m 87 5)
theorem cntB_ne {o q : Nat} (h : ¬ (o = 61 ∧ q ≤ 11)) : rI (cntB m) o q = rI m o q := by
  unfold cntB
  rw [rI_w, if_neg (by omega), rI_w, if_neg (by omega), rI_w, if_neg (by omega), rI_w, if_neg (by omega), rI_w, if_neg (by omega), rI_w, if_neg (by omega)]
theorem cntB_61 {q : Nat} (hq : q < 6) : cvL (cntB m) q = rI m 87 q := by
  show rI (cntB m) 61 _ = _
  unfold cntB
  rw [rI_w, rI_w, rI_w, rI_w, rI_w, rI_w]
  have cs : q = 0 ∨ q = 1 ∨ q = 2 ∨ q = 3 ∨ q = 4 ∨ q = 5 := by omega
  rcases cs with rfl | rfl | rfl | rfl | rfl | rfl <;> rfl
theorem b_again (R : Rv c m v vk) (hN : 1000 ≤ N) : Both (f_X8_again N c) (f_X9_again N m) := by
  obtain ⟨h, g, hv, ⟨b, k1, k2, k3, k4⟩, ta, ro, sh, sl, tr, sp⟩ := id R
  unfold f_X8_again f_X9_again
  rw [k1, k2]
  cases b with
  | false =>
    rw [bI_f, if_pos rfl, if_pos rfl]
    exact both_bad R _
  | true =>
    obtain ⟨kg, kv⟩ := k4 rfl
    obtain ⟨c2, e1, e2, e3, e4⟩ := becAll (N := N) (a := 16) (b := 1) (n0 := fun j => cnt v j) (by omega) k3 (fun j hj => h.T hj)
    obtain ⟨m2, f1, f2, f3, f4, f5⟩ := m_againA (N := N) (m := m) hN
    have e1' : f_X0_become_b N c = some ((), c2) := e1
    rw [bI_t, if_neg (by decide), if_neg (by decide), e1', bnd_s, f1, bnd_s, gk0, lt_e, gk1, lt_e, gk2, lt_e, gk3, lt_e, gk4, lt_e, gk5, lt_e, ck0, ck1, ck2, ck3, ck4, ck5]
    have C : ∀ o k, ¬ (1 ≤ o ∧ o ≤ 15) → rI c2 o k = rI c o k := fun o k w1 => e4 o k (by omega)
    have M : ∀ o k, o ≠ 87 → ¬ (62 ≤ o ∧ o ≤ 70) → ¬ (o = 61 ∧ k = 46) → ¬ (o = 61 ∧ k ≤ 11) → rI (cntB m2) o k = rI m o k := fun o k w1 w2 w3 w4 => by rw [cntB_ne w4, f2 o k w1 w2 w3]
    have kp : KP c2 (cntB m2) vk := by
      have ec : cvK (cntB m2) = cvK m := by funext j; exact M _ _ (by decide) (by omega) (by omega) (by omega)
      have ea : avK (cntB m2) = avK m := by funext j i; exact M _ _ (by decide) (by omega) (by omega) (by omega)
      exact ⟨true, by rw [C _ _ (by omega)]; exact k1, by rw [M _ _ (by decide) (by omega) (by omega) (by omega)]; exact k2, e3, fun _ => by rw [ec, ea]; exact ⟨kg, kv⟩⟩
    have gl : RMl (cntB m2) vk := by
      refine RMb.keep kg (fun j hj => ?_) (fun j i hj hi => ?_) kv
      · rw [cntB_61 hj]; exact f3 j hj
      · show rI (cntB m2) (62 + j) i = rI m 86 (offK j + i)
        rw [cntB_ne (by omega)]; exact f4 j i hj hi
    refine ⟨1, c2, cntB m2, rfl, rfl, vk, vk, e2, gl, kv, kp, ta.keep (fun o k ho => C o k (by omega)) (fun o k ho => M o k (by omega) (by omega) (by omega) (by omega)), ro.keep (fun o k ho => C o k (by omega)) (fun o k ho => M o k (by omega) (by omega) (by omega) (by omega)), sh.keep (fun o k ho => C o k (by omega)) (fun o k ho => M o k (by omega) (by omega) (by omega) (by omega)) (fun k => f5 81 k), sl.keep (fun o k ho => C o k (by omega)) (fun o k ho => M o k (by omega) (by omega) (by omega) (by omega)), tr.keep (fun o k ho => C o k (by omega)) (fun o k ho => M o k (by omega) (by omega) (by omega) (by omega)), sp.keep (fun o k w1 w2 => C o k (by omega))⟩
end AGAIN
