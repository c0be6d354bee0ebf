-- the book (by mk74.py; its loop by hand)
def mkW (w : WX) (a : Nat → Nat) (S : List Nat) : WX := (wG w, w.2.1, a, S, ka w, adK w, adV w)
def kxs (x : KX) (k sl : Nat) : KX := (kp x, kl x, ke x, kR x, ks x, km x, kg x, kb x, kh x, kc x, k, sl, kA x)
theorem cx_of {x : KX} {cc : ByteArray} {own : String} {n : Nat} {w : WX} {ret : Option FieldType} {k sl : Nat} {a : Nat → Nat} {S : List Nat} {s : Mem} (C : Cn x cc own n w ret) (hD : va_D (kA x) (wl (mkW w a S) s)) (hk : k ≤ (kR x).cells ∧ sl ≤ (kR x).slots) : Cx (kxs x k sl) cc own n (mkW w a S) ret :=
  ⟨C.1, C.2.1, C.2.2.1, C.2.2.2.1, C.2.2.2.2.1, C.2.2.2.2.2.1, C.2.2.2.2.2.2.1.1, C.2.2.2.2.2.2.2.1, C.2.2.2.2.2.2.2.2.1, fun q hq => by
    obtain ⟨i, hi, rfl⟩ := hq
    obtain ⟨p, h1, h2⟩ := wl_at (w := mkW w a S) (s := s) hi
    exact hD.2 p _ h2, hk.1, hk.2⟩
theorem g_icmp_ge2 {x : KX} {cc : ByteArray} {own : String} {n : Nat} {w : WX} {ret : Option FieldType} {Q : State → Prop} {pc : Nat} {lv : List (Nat × Value)} {st : List Value} {s : Mem} (C : Cx x cc own n w ret) {a b : Int32} {off : Int} {tgt : Nat} (hdg : decode cc pc = .ok (.if_icmp .ge off, 3)) (ht : (pc : Int) + off = (tgt : Int)) (kt : b ≤ a → G x Q n w tgt lv st s) (kf : ¬ b ≤ a → G x Q n w (pc + 3) lv st s) : G x Q n w pc lv (.int b :: .int a :: st) s := fun H locs ls hP hD hS hl => lv_icmp_ge C.1 C.2.1 hdg ht (fun c => kt c H locs ls hP hD hS hl) (fun c => kf c H locs ls hP hD hS hl)
def SB : List Nat := [1, 2, 3, 4, 5, 6, 7, 8, 9, 10, 11, 12, 13, 14, 15]
def LB : List (List Int32) := [[], [0, 0, 0, 0, 0, 0, 0, 0], [4, 10, 0, 0], [], [7, 30, 0, 0], [], [1, 17, 0, 0], [], [4, 20, 0, 0], [], [4, 8, 0, 0], [], [3, 6, 0, 0], [], [3, 200, 0, 0]]
def sB0 : Mem := (fun o k => (LB.getD o []).getD k 0, fun _ _ => 0)
/-- a book as it is made -/
def BK (s : Mem) : Prop := (∀ j, j < 7 → TB s (2 + 2 * j) (Wd j) (Mx j) (if j = 2 then 17 else 0)) ∧ (∀ r, r < 17 → rI s 7 r = 100) ∧ rI s 1 7 = 0
def PB (w : WX) (b : Nat) (w1 : va_W) : Prop := ∃ (a : Nat → Nat) (s : Mem), b = a 1 ∧ BK s ∧ w1 = wl (mkW w a SB) s
theorem tb0 : ∀ j, j < 7 → TB sB0 (2 + 2 * j) (Wd j) (Mx j) 0 := by
  intro j hj
  have cs : j = 0 ∨ j = 1 ∨ j = 2 ∨ j = 3 ∨ j = 4 ∨ j = 5 ∨ j = 6 := by omega
  rcases cs with rfl | rfl | rfl | rfl | rfl | rfl | rfl <;> exact ⟨rfl, rfl, rfl, by decide, rfl, by decide, by decide⟩
theorem book_loop {x : KX} {w : WX} {Q : State → Prop} (C : Cx x cX0_init RX0 2 w none) {c0 s0 : Nat} (hR : kR x = ({ frames := 2, cells := c0, slots := s0, locals := 100 } : Room)) (hS : SS w = SB) (fin : ∀ s, BK s → G x Q 2 w 140 [(1, .int 17), (0, .ref (ad w 1))] [] s) : ∀ d i s, i + d = 17 → TB s 6 1 17 i → (∀ r, r < i → rI s 7 r = 100) → (∀ o k, o ≠ 6 → o ≠ 7 → rI s o k = rI sB0 o k) → G x Q 2 w 111 [(1, .int (nI i)), (0, .ref (ad w 1))] [] s := by
  have h1 : 1 ∈ SS w := by rw [hS]; decide
  have h6 : 6 ∈ SS w := by rw [hS]; decide
  have h7 : 7 ∈ SS w := by rw [hS]; decide
  have ok6 : okO 5 w 6 := ⟨h6, h7, kd_6, kd_7⟩
  intro d
  induction d with
  | zero =>
    intro i s hi T hr ho
    have e : i = 17 := by omega
    subst e
    refine g_iload_n C dX0_init_111 rfl 0 rfl ?_
    refine g_bipush C (v := 17) dX0_init_112 (by decide) ?_
    refine g_icmp_ge2 (tgt := 140) C dX0_init_114 (by decide) (fun _ => ?_) (fun c => absurd (show (17 : Int32) ≤ nI 17 by decide) c)
    refine fin s ⟨fun j hj => ?_, hr, by rw [ho _ _ (by decide) (by decide)]; rfl⟩
    by_cases z : j = 2
    · subst z; exact T
    · rw [if_neg z]
      exact (tb0 j hj).keep (fun k => ho _ _ (by omega) (by omega))
  | succ d ih =>
    intro i s hi T hr ho
    refine g_iload_n C dX0_init_111 rfl 0 rfl ?_
    refine g_bipush C (v := 17) dX0_init_112 (by decide) ?_
    refine g_icmp_ge2 (tgt := 140) C dX0_init_114 (by decide) (fun c => absurd c (nI_ge (a := i) (b := 17) (by omega) (by decide))) (fun _ => ?_)
    refine g_aload_n C dX0_init_117 rfl 1 rfl ?_
    refine g_get C (R := RX0) (T := TX0) (N := 8) (k := 2) (v := .ref (ad w 6)) kd_1 (by decide) rfl h1 hinX0 (by decide) fl_X0_23 rfl rfl dX0_init_118 ?_
    refine g_aload_n C dX0_init_121 rfl 1 rfl ?_
    refine g_get C (R := RX0) (T := TX0) (N := 8) (k := 2) (v := .ref (ad w 6)) kd_1 (by decide) rfl h1 hinX0 (by decide) fl_X0_23 rfl rfl dX0_init_122 ?_
    have hf : bnd (f_X5_add 1000 6 s) (fun r s1 => some (r, s1)) = some (nI i, addM s 6 1 i) := by rw [th_add T (by omega) (by decide)]; rfl
    refine g_callVI C (R := RX5) (T := TX5) (N := 4) [] (fun _ _ h => c_X5_add (kl x) 1000 w ok6 h) (g_cwV C hR ml_X0_42 im_X5_add sl_X5_add ini_X5 cd_X5_add hd_X5_add ⟨⟨Nat.le_of_ble_eq_true rfl, Nat.le_of_ble_eq_true rfl⟩, rfl, rfl⟩) kd_6 (by decide) rfl h6 rfl _ rfl (Nat.le_of_ble_eq_true rfl) dX0_init_125 hf (fun r1 s1 hf => ?_)
    cases hf
    refine g_iconst C (v := 0) dX0_init_128 rfl ?_
    refine g_bipush C (v := 100) dX0_init_129 (by decide) ?_
    have T1 := T.addT (show i < 17 by omega)
    have hs : f_X5_set 1000 6 (nI i) 0 100 (addM s 6 1 i) = some ((), wI (addM s 6 1 i) 7 (i * 1 + 0) 100) := th_set T1 (r := i) (k := 0) (by omega) (by decide) 100
    have hf2 : bnd (f_X5_set 1000 6 (nI i) 0 100 (addM s 6 1 i)) (fun r s1 => some (r, s1)) = some ((), wI (addM s 6 1 i) 7 (i * 1 + 0) 100) := by rw [hs]; rfl
    refine g_callVV C (R := RX5) (T := TX5) (N := 4) [.int (nI i), .int 0, .int 100] (fun _ h => c_X5_set (kl x) 1000 w ok6 _ _ _ h) (g_cwV C hR ml_X0_46 im_X5_set sl_X5_set ini_X5 cd_X5_set hd_X5_set ⟨⟨Nat.le_of_ble_eq_true rfl, Nat.le_of_ble_eq_true rfl⟩, rfl, rfl⟩) kd_6 (by decide) rfl h6 rfl _ rfl (Nat.le_of_ble_eq_true rfl) dX0_init_131 hf2 (fun s2 hf2 => ?_)
    cases hf2
    refine g_iinc C (v' := nI (i + 1)) (lv' := [(1, .int (nI (i + 1))), (0, .ref (ad w 1))]) dX0_init_134 0 rfl (nI_1 i) (by decide) rfl ?_
    refine g_goto (tgt := 111) C dX0_init_137 (by decide) ?_
    refine ih (i + 1) _ (by omega) (T1.setC _ _) (fun r hr1 => ?_) (fun o k a1 a2 => ?_)
    · rw [rI_w]
      by_cases z : r = i
      · rw [if_pos ⟨rfl, by omega⟩]
      · rw [if_neg (by omega), rI_addM, if_neg (by omega), if_neg (by omega)]
        exact hr r (by omega)
    · rw [rI_ne a2, rI_addM, if_neg (by omega), if_neg (by omega)]
      exact ho o k a1 a2
set_option maxHeartbeats 4000000 in
set_option maxRecDepth 100000 in
theorem ct_X0 (l : Launch) (w : WX) (b : Nat) : CT l yX0_init (wz yX0_init cX0_init 2 none) ({ frames := 2, cells := 14, slots := 1025, locals := 100 } : Room) [] w b 0 [.null, .null, .null, .null, .null, .null, .null, .int 0] (PB w b) 14 1025 := by
  refine ctor_start (cc := cX0_init) (own := RX0) (maxL := 2) (by decide) rfl rfl (Nat.le_of_ble_eq_true rfl) (fun x C hR hl hin => ?_)
  refine gn_lv (lv' := [(0, .ref b)]) rfl ?_
  refine gn_ws (ws' := [(b, .inr (0, [.null, .null, .null, .null, .null, .null, .null, .int 0]))]) rfl ?_
  refine gn_aload_n C dX0_init_0 rfl 0 rfl ?_
  refine gn_obj C ml_X0_3 dX0_init_1 (by rw [hR]; exact Nat.le_of_ble_eq_true rfl) (by rw [hR]; exact Nat.le_of_ble_eq_true rfl) ?_
  refine gn_aload_n C dX0_init_4 rfl 0 rfl ?_
  refine gn_new C (R := RX5) (T := TX5) (N := 4) (ci := 5) (fs := [.int 0, .int 0, .null, .int 0]) hinX5 tyX5 tyX5_ok cl_X0_9 ib_X5 ini_X5 rfl (fun j hj => by rcases (show j = 0 ∨ j = 1 ∨ j = 2 ∨ j = 3 by omega) with rfl | rfl | rfl | rfl <;> rfl) (by rw [hR]; exact Nat.le_of_ble_eq_true rfl) (by rw [hR]; exact Nat.le_of_ble_eq_true rfl) dX0_init_5 (fun q1 => ?_)
  refine gn_dup C dX0_init_8 rfl ?_
  refine gn_iconst C (v := 4) dX0_init_9 rfl ?_
  refine gn_bipush C (v := 10) dX0_init_10 (by decide) ?_
  refine gn_ws (ws' := [(b, .inr (0, [.null, .null, .null, .null, .null, .null, .null, .int 0]))] ++ [(q1, .inr (5, [.int 0, .int 0, .null, .int 0]))]) rfl ?_
  refine gn_ctor C [.int 4, .int 10] (ct_X5 (kl x) w q1 4 10 40 rfl rfl (by decide) (by decide) (by decide)) (cn_cw C hR ml_X0_11 im_X5_init ini_X5 cd_X5_init rfl hd_X5_init (by decide)) rfl _ rfl (Nat.le_of_ble_eq_true rfl) dX0_init_12 ⟨by rw [hR]; exact Nat.le_of_ble_eq_true rfl, by rw [hR]; exact Nat.le_of_ble_eq_true rfl⟩ (fun w1 hp => ?_)
  obtain ⟨q2, rfl⟩ := hp
  refine gn_ws (ws' := [(b, .inr (0, [.null, .null, .null, .null, .null, .null, .null, .int 0])), (q1, .inr (5, [.int 4, .int 10, .ref q2, .int 0])), (q2, .inl (cI w, 40, .inl (fun _ => 0)))]) rfl ?_
  refine gn_put C (R := RX0) (T := TX0) (N := 8) (ci := 0) (f := 0) (v := .ref q1) (ty := .object "ElderPapers$Table") tyX0 tyX0_ok nmX0 rfl hinX0 0 rfl (by decide) fl_X0_14 rfl (Or.inr ⟨rfl, hin, rfl⟩) rfl rfl rfl (Nat.le_of_ble_eq_true rfl) dX0_init_15 ?_
  refine gn_ws (ws' := [(b, .inr (0, [.ref q1, .null, .null, .null, .null, .null, .null, .int 0])), (q1, .inr (5, [.int 4, .int 10, .ref q2, .int 0])), (q2, .inl (cI w, 40, .inl (fun _ => 0)))]) rfl ?_
  refine gn_aload_n C dX0_init_18 rfl 0 rfl ?_
  refine gn_new C (R := RX5) (T := TX5) (N := 4) (ci := 5) (fs := [.int 0, .int 0, .null, .int 0]) hinX5 tyX5 tyX5_ok cl_X0_9 ib_X5 ini_X5 rfl (fun j hj => by rcases (show j = 0 ∨ j = 1 ∨ j = 2 ∨ j = 3 by omega) with rfl | rfl | rfl | rfl <;> rfl) (by rw [hR]; exact Nat.le_of_ble_eq_true rfl) (by rw [hR]; exact Nat.le_of_ble_eq_true rfl) dX0_init_19 (fun q3 => ?_)
  refine gn_dup C dX0_init_22 rfl ?_
  refine gn_bipush C (v := 7) dX0_init_23 (by decide) ?_
  refine gn_bipush C (v := 30) dX0_init_25 (by decide) ?_
  refine gn_ws (ws' := [(b, .inr (0, [.ref q1, .null, .null, .null, .null, .null, .null, .int 0])), (q1, .inr (5, [.int 4, .int 10, .ref q2, .int 0])), (q2, .inl (cI w, 40, .inl (fun _ => 0)))] ++ [(q3, .inr (5, [.int 0, .int 0, .null, .int 0]))]) rfl ?_
  refine gn_ctor C [.int 7, .int 30] (ct_X5 (kl x) w q3 7 30 210 rfl rfl (by decide) (by decide) (by decide)) (cn_cw C hR ml_X0_11 im_X5_init ini_X5 cd_X5_init rfl hd_X5_init (by decide)) rfl _ rfl (Nat.le_of_ble_eq_true rfl) dX0_init_27 ⟨by rw [hR]; exact Nat.le_of_ble_eq_true rfl, by rw [hR]; exact Nat.le_of_ble_eq_true rfl⟩ (fun w1 hp => ?_)
  obtain ⟨q4, rfl⟩ := hp
  refine gn_ws (ws' := [(b, .inr (0, [.ref q1, .null, .null, .null, .null, .null, .null, .int 0])), (q1, .inr (5, [.int 4, .int 10, .ref q2, .int 0])), (q2, .inl (cI w, 40, .inl (fun _ => 0))), (q3, .inr (5, [.int 7, .int 30, .ref q4, .int 0])), (q4, .inl (cI w, 210, .inl (fun _ => 0)))]) rfl ?_
  refine gn_put C (R := RX0) (T := TX0) (N := 8) (ci := 0) (f := 1) (v := .ref q3) (ty := .object "ElderPapers$Table") tyX0 tyX0_ok nmX0 rfl hinX0 0 rfl (by decide) fl_X0_20 rfl (Or.inr ⟨rfl, hin, rfl⟩) rfl rfl rfl (Nat.le_of_ble_eq_true rfl) dX0_init_30 ?_
  refine gn_ws (ws' := [(b, .inr (0, [.ref q1, .ref q3, .null, .null, .null, .null, .null, .int 0])), (q1, .inr (5, [.int 4, .int 10, .ref q2, .int 0])), (q2, .inl (cI w, 40, .inl (fun _ => 0))), (q3, .inr (5, [.int 7, .int 30, .ref q4, .int 0])), (q4, .inl (cI w, 210, .inl (fun _ => 0)))]) rfl ?_
  refine gn_aload_n C dX0_init_33 rfl 0 rfl ?_
  refine gn_new C (R := RX5) (T := TX5) (N := 4) (ci := 5) (fs := [.int 0, .int 0, .null, .int 0]) hinX5 tyX5 tyX5_ok cl_X0_9 ib_X5 ini_X5 rfl (fun j hj => by rcases (show j = 0 ∨ j = 1 ∨ j = 2 ∨ j = 3 by omega) with rfl | rfl | rfl | rfl <;> rfl) (by rw [hR]; exact Nat.le_of_ble_eq_true rfl) (by rw [hR]; exact Nat.le_of_ble_eq_true rfl) dX0_init_34 (fun q5 => ?_)
  refine gn_dup C dX0_init_37 rfl ?_
  refine gn_iconst C (v := 1) dX0_init_38 rfl ?_
  refine gn_bipush C (v := 17) dX0_init_39 (by decide) ?_
  refine gn_ws (ws' := [(b, .inr (0, [.ref q1, .ref q3, .null, .null, .null, .null, .null, .int 0])), (q1, .inr (5, [.int 4, .int 10, .ref q2, .int 0])), (q2, .inl (cI w, 40, .inl (fun _ => 0))), (q3, .inr (5, [.int 7, .int 30, .ref q4, .int 0])), (q4, .inl (cI w, 210, .inl (fun _ => 0)))] ++ [(q5, .inr (5, [.int 0, .int 0, .null, .int 0]))]) rfl ?_
  refine gn_ctor C [.int 1, .int 17] (ct_X5 (kl x) w q5 1 17 17 rfl rfl (by decide) (by decide) (by decide)) (cn_cw C hR ml_X0_11 im_X5_init ini_X5 cd_X5_init rfl hd_X5_init (by decide)) rfl _ rfl (Nat.le_of_ble_eq_true rfl) dX0_init_41 ⟨by rw [hR]; exact Nat.le_of_ble_eq_true rfl, by rw [hR]; exact Nat.le_of_ble_eq_true rfl⟩ (fun w1 hp => ?_)
  obtain ⟨q6, rfl⟩ := hp
  refine gn_ws (ws' := [(b, .inr (0, [.ref q1, .ref q3, .null, .null, .null, .null, .null, .int 0])), (q1, .inr (5, [.int 4, .int 10, .ref q2, .int 0])), (q2, .inl (cI w, 40, .inl (fun _ => 0))), (q3, .inr (5, [.int 7, .int 30, .ref q4, .int 0])), (q4, .inl (cI w, 210, .inl (fun _ => 0))), (q5, .inr (5, [.int 1, .int 17, .ref q6, .int 0])), (q6, .inl (cI w, 17, .inl (fun _ => 0)))]) rfl ?_
  refine gn_put C (R := RX0) (T := TX0) (N := 8) (ci := 0) (f := 2) (v := .ref q5) (ty := .object "ElderPapers$Table") tyX0 tyX0_ok nmX0 rfl hinX0 0 rfl (by decide) fl_X0_23 rfl (Or.inr ⟨rfl, hin, rfl⟩) rfl rfl rfl (Nat.le_of_ble_eq_true rfl) dX0_init_44 ?_
  refine gn_ws (ws' := [(b, .inr (0, [.ref q1, .ref q3, .ref q5, .null, .null, .null, .null, .int 0])), (q1, .inr (5, [.int 4, .int 10, .ref q2, .int 0])), (q2, .inl (cI w, 40, .inl (fun _ => 0))), (q3, .inr (5, [.int 7, .int 30, .ref q4, .int 0])), (q4, .inl (cI w, 210, .inl (fun _ => 0))), (q5, .inr (5, [.int 1, .int 17, .ref q6, .int 0])), (q6, .inl (cI w, 17, .inl (fun _ => 0)))]) rfl ?_
  refine gn_aload_n C dX0_init_47 rfl 0 rfl ?_
  refine gn_new C (R := RX5) (T := TX5) (N := 4) (ci := 5) (fs := [.int 0, .int 0, .null, .int 0]) hinX5 tyX5 tyX5_ok cl_X0_9 ib_X5 ini_X5 rfl (fun j hj => by rcases (show j = 0 ∨ j = 1 ∨ j = 2 ∨ j = 3 by omega) with rfl | rfl | rfl | rfl <;> rfl) (by rw [hR]; exact Nat.le_of_ble_eq_true rfl) (by rw [hR]; exact Nat.le_of_ble_eq_true rfl) dX0_init_48 (fun q7 => ?_)
  refine gn_dup C dX0_init_51 rfl ?_
  refine gn_iconst C (v := 4) dX0_init_52 rfl ?_
  refine gn_bipush C (v := 20) dX0_init_53 (by decide) ?_
  refine gn_ws (ws' := [(b, .inr (0, [.ref q1, .ref q3, .ref q5, .null, .null, .null, .null, .int 0])), (q1, .inr (5, [.int 4, .int 10, .ref q2, .int 0])), (q2, .inl (cI w, 40, .inl (fun _ => 0))), (q3, .inr (5, [.int 7, .int 30, .ref q4, .int 0])), (q4, .inl (cI w, 210, .inl (fun _ => 0))), (q5, .inr (5, [.int 1, .int 17, .ref q6, .int 0])), (q6, .inl (cI w, 17, .inl (fun _ => 0)))] ++ [(q7, .inr (5, [.int 0, .int 0, .null, .int 0]))]) rfl ?_
  refine gn_ctor C [.int 4, .int 20] (ct_X5 (kl x) w q7 4 20 80 rfl rfl (by decide) (by decide) (by decide)) (cn_cw C hR ml_X0_11 im_X5_init ini_X5 cd_X5_init rfl hd_X5_init (by decide)) rfl _ rfl (Nat.le_of_ble_eq_true rfl) dX0_init_55 ⟨by rw [hR]; exact Nat.le_of_ble_eq_true rfl, by rw [hR]; exact Nat.le_of_ble_eq_true rfl⟩ (fun w1 hp => ?_)
  obtain ⟨q8, rfl⟩ := hp
  refine gn_ws (ws' := [(b, .inr (0, [.ref q1, .ref q3, .ref q5, .null, .null, .null, .null, .int 0])), (q1, .inr (5, [.int 4, .int 10, .ref q2, .int 0])), (q2, .inl (cI w, 40, .inl (fun _ => 0))), (q3, .inr (5, [.int 7, .int 30, .ref q4, .int 0])), (q4, .inl (cI w, 210, .inl (fun _ => 0))), (q5, .inr (5, [.int 1, .int 17, .ref q6, .int 0])), (q6, .inl (cI w, 17, .inl (fun _ => 0))), (q7, .inr (5, [.int 4, .int 20, .ref q8, .int 0])), (q8, .inl (cI w, 80, .inl (fun _ => 0)))]) rfl ?_
  refine gn_put C (R := RX0) (T := TX0) (N := 8) (ci := 0) (f := 3) (v := .ref q7) (ty := .object "ElderPapers$Table") tyX0 tyX0_ok nmX0 rfl hinX0 0 rfl (by decide) fl_X0_26 rfl (Or.inr ⟨rfl, hin, rfl⟩) rfl rfl rfl (Nat.le_of_ble_eq_true rfl) dX0_init_58 ?_
  refine gn_ws (ws' := [(b, .inr (0, [.ref q1, .ref q3, .ref q5, .ref q7, .null, .null, .null, .int 0])), (q1, .inr (5, [.int 4, .int 10, .ref q2, .int 0])), (q2, .inl (cI w, 40, .inl (fun _ => 0))), (q3, .inr (5, [.int 7, .int 30, .ref q4, .int 0])), (q4, .inl (cI w, 210, .inl (fun _ => 0))), (q5, .inr (5, [.int 1, .int 17, .ref q6, .int 0])), (q6, .inl (cI w, 17, .inl (fun _ => 0))), (q7, .inr (5, [.int 4, .int 20, .ref q8, .int 0])), (q8, .inl (cI w, 80, .inl (fun _ => 0)))]) rfl ?_
  refine gn_aload_n C dX0_init_61 rfl 0 rfl ?_
  refine gn_new C (R := RX5) (T := TX5) (N := 4) (ci := 5) (fs := [.int 0, .int 0, .null, .int 0]) hinX5 tyX5 tyX5_ok cl_X0_9 ib_X5 ini_X5 rfl (fun j hj => by rcases (show j = 0 ∨ j = 1 ∨ j = 2 ∨ j = 3 by omega) with rfl | rfl | rfl | rfl <;> rfl) (by rw [hR]; exact Nat.le_of_ble_eq_true rfl) (by rw [hR]; exact Nat.le_of_ble_eq_true rfl) dX0_init_62 (fun q9 => ?_)
  refine gn_dup C dX0_init_65 rfl ?_
  refine gn_iconst C (v := 4) dX0_init_66 rfl ?_
  refine gn_bipush C (v := 8) dX0_init_67 (by decide) ?_
  refine gn_ws (ws' := [(b, .inr (0, [.ref q1, .ref q3, .ref q5, .ref q7, .null, .null, .null, .int 0])), (q1, .inr (5, [.int 4, .int 10, .ref q2, .int 0])), (q2, .inl (cI w, 40, .inl (fun _ => 0))), (q3, .inr (5, [.int 7, .int 30, .ref q4, .int 0])), (q4, .inl (cI w, 210, .inl (fun _ => 0))), (q5, .inr (5, [.int 1, .int 17, .ref q6, .int 0])), (q6, .inl (cI w, 17, .inl (fun _ => 0))), (q7, .inr (5, [.int 4, .int 20, .ref q8, .int 0])), (q8, .inl (cI w, 80, .inl (fun _ => 0)))] ++ [(q9, .inr (5, [.int 0, .int 0, .null, .int 0]))]) rfl ?_
  refine gn_ctor C [.int 4, .int 8] (ct_X5 (kl x) w q9 4 8 32 rfl rfl (by decide) (by decide) (by decide)) (cn_cw C hR ml_X0_11 im_X5_init ini_X5 cd_X5_init rfl hd_X5_init (by decide)) rfl _ rfl (Nat.le_of_ble_eq_true rfl) dX0_init_69 ⟨by rw [hR]; exact Nat.le_of_ble_eq_true rfl, by rw [hR]; exact Nat.le_of_ble_eq_true rfl⟩ (fun w1 hp => ?_)
  obtain ⟨q10, rfl⟩ := hp
  refine gn_ws (ws' := [(b, .inr (0, [.ref q1, .ref q3, .ref q5, .ref q7, .null, .null, .null, .int 0])), (q1, .inr (5, [.int 4, .int 10, .ref q2, .int 0])), (q2, .inl (cI w, 40, .inl (fun _ => 0))), (q3, .inr (5, [.int 7, .int 30, .ref q4, .int 0])), (q4, .inl (cI w, 210, .inl (fun _ => 0))), (q5, .inr (5, [.int 1, .int 17, .ref q6, .int 0])), (q6, .inl (cI w, 17, .inl (fun _ => 0))), (q7, .inr (5, [.int 4, .int 20, .ref q8, .int 0])), (q8, .inl (cI w, 80, .inl (fun _ => 0))), (q9, .inr (5, [.int 4, .int 8, .ref q10, .int 0])), (q10, .inl (cI w, 32, .inl (fun _ => 0)))]) rfl ?_
  refine gn_put C (R := RX0) (T := TX0) (N := 8) (ci := 0) (f := 4) (v := .ref q9) (ty := .object "ElderPapers$Table") tyX0 tyX0_ok nmX0 rfl hinX0 0 rfl (by decide) fl_X0_29 rfl (Or.inr ⟨rfl, hin, rfl⟩) rfl rfl rfl (Nat.le_of_ble_eq_true rfl) dX0_init_72 ?_
  refine gn_ws (ws' := [(b, .inr (0, [.ref q1, .ref q3, .ref q5, .ref q7, .ref q9, .null, .null, .int 0])), (q1, .inr (5, [.int 4, .int 10, .ref q2, .int 0])), (q2, .inl (cI w, 40, .inl (fun _ => 0))), (q3, .inr (5, [.int 7, .int 30, .ref q4, .int 0])), (q4, .inl (cI w, 210, .inl (fun _ => 0))), (q5, .inr (5, [.int 1, .int 17, .ref q6, .int 0])), (q6, .inl (cI w, 17, .inl (fun _ => 0))), (q7, .inr (5, [.int 4, .int 20, .ref q8, .int 0])), (q8, .inl (cI w, 80, .inl (fun _ => 0))), (q9, .inr (5, [.int 4, .int 8, .ref q10, .int 0])), (q10, .inl (cI w, 32, .inl (fun _ => 0)))]) rfl ?_
  refine gn_aload_n C dX0_init_75 rfl 0 rfl ?_
  refine gn_new C (R := RX5) (T := TX5) (N := 4) (ci := 5) (fs := [.int 0, .int 0, .null, .int 0]) hinX5 tyX5 tyX5_ok cl_X0_9 ib_X5 ini_X5 rfl (fun j hj => by rcases (show j = 0 ∨ j = 1 ∨ j = 2 ∨ j = 3 by omega) with rfl | rfl | rfl | rfl <;> rfl) (by rw [hR]; exact Nat.le_of_ble_eq_true rfl) (by rw [hR]; exact Nat.le_of_ble_eq_true rfl) dX0_init_76 (fun q11 => ?_)
  refine gn_dup C dX0_init_79 rfl ?_
  refine gn_iconst C (v := 3) dX0_init_80 rfl ?_
  refine gn_bipush C (v := 6) dX0_init_81 (by decide) ?_
  refine gn_ws (ws' := [(b, .inr (0, [.ref q1, .ref q3, .ref q5, .ref q7, .ref q9, .null, .null, .int 0])), (q1, .inr (5, [.int 4, .int 10, .ref q2, .int 0])), (q2, .inl (cI w, 40, .inl (fun _ => 0))), (q3, .inr (5, [.int 7, .int 30, .ref q4, .int 0])), (q4, .inl (cI w, 210, .inl (fun _ => 0))), (q5, .inr (5, [.int 1, .int 17, .ref q6, .int 0])), (q6, .inl (cI w, 17, .inl (fun _ => 0))), (q7, .inr (5, [.int 4, .int 20, .ref q8, .int 0])), (q8, .inl (cI w, 80, .inl (fun _ => 0))), (q9, .inr (5, [.int 4, .int 8, .ref q10, .int 0])), (q10, .inl (cI w, 32, .inl (fun _ => 0)))] ++ [(q11, .inr (5, [.int 0, .int 0, .null, .int 0]))]) rfl ?_
  refine gn_ctor C [.int 3, .int 6] (ct_X5 (kl x) w q11 3 6 18 rfl rfl (by decide) (by decide) (by decide)) (cn_cw C hR ml_X0_11 im_X5_init ini_X5 cd_X5_init rfl hd_X5_init (by decide)) rfl _ rfl (Nat.le_of_ble_eq_true rfl) dX0_init_83 ⟨by rw [hR]; exact Nat.le_of_ble_eq_true rfl, by rw [hR]; exact Nat.le_of_ble_eq_true rfl⟩ (fun w1 hp => ?_)
  obtain ⟨q12, rfl⟩ := hp
  refine gn_ws (ws' := [(b, .inr (0, [.ref q1, .ref q3, .ref q5, .ref q7, .ref q9, .null, .null, .int 0])), (q1, .inr (5, [.int 4, .int 10, .ref q2, .int 0])), (q2, .inl (cI w, 40, .inl (fun _ => 0))), (q3, .inr (5, [.int 7, .int 30, .ref q4, .int 0])), (q4, .inl (cI w, 210, .inl (fun _ => 0))), (q5, .inr (5, [.int 1, .int 17, .ref q6, .int 0])), (q6, .inl (cI w, 17, .inl (fun _ => 0))), (q7, .inr (5, [.int 4, .int 20, .ref q8, .int 0])), (q8, .inl (cI w, 80, .inl (fun _ => 0))), (q9, .inr (5, [.int 4, .int 8, .ref q10, .int 0])), (q10, .inl (cI w, 32, .inl (fun _ => 0))), (q11, .inr (5, [.int 3, .int 6, .ref q12, .int 0])), (q12, .inl (cI w, 18, .inl (fun _ => 0)))]) rfl ?_
  refine gn_put C (R := RX0) (T := TX0) (N := 8) (ci := 0) (f := 5) (v := .ref q11) (ty := .object "ElderPapers$Table") tyX0 tyX0_ok nmX0 rfl hinX0 0 rfl (by decide) fl_X0_32 rfl (Or.inr ⟨rfl, hin, rfl⟩) rfl rfl rfl (Nat.le_of_ble_eq_true rfl) dX0_init_86 ?_
  refine gn_ws (ws' := [(b, .inr (0, [.ref q1, .ref q3, .ref q5, .ref q7, .ref q9, .ref q11, .null, .int 0])), (q1, .inr (5, [.int 4, .int 10, .ref q2, .int 0])), (q2, .inl (cI w, 40, .inl (fun _ => 0))), (q3, .inr (5, [.int 7, .int 30, .ref q4, .int 0])), (q4, .inl (cI w, 210, .inl (fun _ => 0))), (q5, .inr (5, [.int 1, .int 17, .ref q6, .int 0])), (q6, .inl (cI w, 17, .inl (fun _ => 0))), (q7, .inr (5, [.int 4, .int 20, .ref q8, .int 0])), (q8, .inl (cI w, 80, .inl (fun _ => 0))), (q9, .inr (5, [.int 4, .int 8, .ref q10, .int 0])), (q10, .inl (cI w, 32, .inl (fun _ => 0))), (q11, .inr (5, [.int 3, .int 6, .ref q12, .int 0])), (q12, .inl (cI w, 18, .inl (fun _ => 0)))]) rfl ?_
  refine gn_aload_n C dX0_init_89 rfl 0 rfl ?_
  refine gn_new C (R := RX5) (T := TX5) (N := 4) (ci := 5) (fs := [.int 0, .int 0, .null, .int 0]) hinX5 tyX5 tyX5_ok cl_X0_9 ib_X5 ini_X5 rfl (fun j hj => by rcases (show j = 0 ∨ j = 1 ∨ j = 2 ∨ j = 3 by omega) with rfl | rfl | rfl | rfl <;> rfl) (by rw [hR]; exact Nat.le_of_ble_eq_true rfl) (by rw [hR]; exact Nat.le_of_ble_eq_true rfl) dX0_init_90 (fun q13 => ?_)
  refine gn_dup C dX0_init_93 rfl ?_
  refine gn_iconst C (v := 3) dX0_init_94 rfl ?_
  refine gn_sipush C (v := 200) dX0_init_95 (by decide) ?_
  refine gn_ws (ws' := [(b, .inr (0, [.ref q1, .ref q3, .ref q5, .ref q7, .ref q9, .ref q11, .null, .int 0])), (q1, .inr (5, [.int 4, .int 10, .ref q2, .int 0])), (q2, .inl (cI w, 40, .inl (fun _ => 0))), (q3, .inr (5, [.int 7, .int 30, .ref q4, .int 0])), (q4, .inl (cI w, 210, .inl (fun _ => 0))), (q5, .inr (5, [.int 1, .int 17, .ref q6, .int 0])), (q6, .inl (cI w, 17, .inl (fun _ => 0))), (q7, .inr (5, [.int 4, .int 20, .ref q8, .int 0])), (q8, .inl (cI w, 80, .inl (fun _ => 0))), (q9, .inr (5, [.int 4, .int 8, .ref q10, .int 0])), (q10, .inl (cI w, 32, .inl (fun _ => 0))), (q11, .inr (5, [.int 3, .int 6, .ref q12, .int 0])), (q12, .inl (cI w, 18, .inl (fun _ => 0)))] ++ [(q13, .inr (5, [.int 0, .int 0, .null, .int 0]))]) rfl ?_
  refine gn_ctor C [.int 3, .int 200] (ct_X5 (kl x) w q13 3 200 600 rfl rfl (by decide) (by decide) (by decide)) (cn_cw C hR ml_X0_11 im_X5_init ini_X5 cd_X5_init rfl hd_X5_init (by decide)) rfl _ rfl (Nat.le_of_ble_eq_true rfl) dX0_init_98 ⟨by rw [hR]; exact Nat.le_of_ble_eq_true rfl, by rw [hR]; exact Nat.le_of_ble_eq_true rfl⟩ (fun w1 hp => ?_)
  obtain ⟨q14, rfl⟩ := hp
  refine gn_ws (ws' := [(b, .inr (0, [.ref q1, .ref q3, .ref q5, .ref q7, .ref q9, .ref q11, .null, .int 0])), (q1, .inr (5, [.int 4, .int 10, .ref q2, .int 0])), (q2, .inl (cI w, 40, .inl (fun _ => 0))), (q3, .inr (5, [.int 7, .int 30, .ref q4, .int 0])), (q4, .inl (cI w, 210, .inl (fun _ => 0))), (q5, .inr (5, [.int 1, .int 17, .ref q6, .int 0])), (q6, .inl (cI w, 17, .inl (fun _ => 0))), (q7, .inr (5, [.int 4, .int 20, .ref q8, .int 0])), (q8, .inl (cI w, 80, .inl (fun _ => 0))), (q9, .inr (5, [.int 4, .int 8, .ref q10, .int 0])), (q10, .inl (cI w, 32, .inl (fun _ => 0))), (q11, .inr (5, [.int 3, .int 6, .ref q12, .int 0])), (q12, .inl (cI w, 18, .inl (fun _ => 0))), (q13, .inr (5, [.int 3, .int 200, .ref q14, .int 0])), (q14, .inl (cI w, 600, .inl (fun _ => 0)))]) rfl ?_
  refine gn_put C (R := RX0) (T := TX0) (N := 8) (ci := 0) (f := 6) (v := .ref q13) (ty := .object "ElderPapers$Table") tyX0 tyX0_ok nmX0 rfl hinX0 0 rfl (by decide) fl_X0_35 rfl (Or.inr ⟨rfl, hin, rfl⟩) rfl rfl rfl (Nat.le_of_ble_eq_true rfl) dX0_init_101 ?_
  refine gn_ws (ws' := [(b, .inr (0, [.ref q1, .ref q3, .ref q5, .ref q7, .ref q9, .ref q11, .ref q13, .int 0])), (q1, .inr (5, [.int 4, .int 10, .ref q2, .int 0])), (q2, .inl (cI w, 40, .inl (fun _ => 0))), (q3, .inr (5, [.int 7, .int 30, .ref q4, .int 0])), (q4, .inl (cI w, 210, .inl (fun _ => 0))), (q5, .inr (5, [.int 1, .int 17, .ref q6, .int 0])), (q6, .inl (cI w, 17, .inl (fun _ => 0))), (q7, .inr (5, [.int 4, .int 20, .ref q8, .int 0])), (q8, .inl (cI w, 80, .inl (fun _ => 0))), (q9, .inr (5, [.int 4, .int 8, .ref q10, .int 0])), (q10, .inl (cI w, 32, .inl (fun _ => 0))), (q11, .inr (5, [.int 3, .int 6, .ref q12, .int 0])), (q12, .inl (cI w, 18, .inl (fun _ => 0))), (q13, .inr (5, [.int 3, .int 200, .ref q14, .int 0])), (q14, .inl (cI w, 600, .inl (fun _ => 0)))]) rfl ?_
  refine gn_aload_n C dX0_init_104 rfl 0 rfl ?_
  refine gn_iconst C (v := 0) dX0_init_105 rfl ?_
  refine gn_put C (R := RX0) (T := TX0) (N := 8) (ci := 0) (f := 7) (v := .int 0) (ty := .int) tyX0 tyX0_ok nmX0 rfl hinX0 0 rfl (by decide) fl_X0_38 rfl (Or.inl rfl) rfl rfl rfl (Nat.le_of_ble_eq_true rfl) dX0_init_106 ?_
  refine gn_ws (ws' := [(b, .inr (0, [.ref q1, .ref q3, .ref q5, .ref q7, .ref q9, .ref q11, .ref q13, .int 0])), (q1, .inr (5, [.int 4, .int 10, .ref q2, .int 0])), (q2, .inl (cI w, 40, .inl (fun _ => 0))), (q3, .inr (5, [.int 7, .int 30, .ref q4, .int 0])), (q4, .inl (cI w, 210, .inl (fun _ => 0))), (q5, .inr (5, [.int 1, .int 17, .ref q6, .int 0])), (q6, .inl (cI w, 17, .inl (fun _ => 0))), (q7, .inr (5, [.int 4, .int 20, .ref q8, .int 0])), (q8, .inl (cI w, 80, .inl (fun _ => 0))), (q9, .inr (5, [.int 4, .int 8, .ref q10, .int 0])), (q10, .inl (cI w, 32, .inl (fun _ => 0))), (q11, .inr (5, [.int 3, .int 6, .ref q12, .int 0])), (q12, .inl (cI w, 18, .inl (fun _ => 0))), (q13, .inr (5, [.int 3, .int 200, .ref q14, .int 0])), (q14, .inl (cI w, 600, .inl (fun _ => 0)))]) rfl ?_
  refine gn_iconst C (v := 0) dX0_init_109 rfl ?_
  refine gn_istore_n C (lv' := [(1, .int 0), (0, .ref b)]) dX0_init_110 rfl (by decide) rfl ?_
  refine gn_ws (ws' := wl (mkW w (fun i => ([0, b, q1, q2, q3, q4, q5, q6, q7, q8, q9, q10, q11, q12, q13, q14] : List Nat).getD i 0) SB) sB0) rfl ?_
  intro H locs ls hP hD hS hl2
  have C' := cx_of (k := 14) (sl := 1025) C hD (by rw [hR]; exact ⟨Nat.le_of_ble_eq_true rfl, Nat.le_of_ble_eq_true rfl⟩)
  exact book_loop (Q := QNm x w (PB w b) 14 1025) C' hR rfl (fun s hs H locs ls hP hD hS hl => gn_ret (ws := wl (mkW w (fun i => ([0, b, q1, q2, q3, q4, q5, q6, q7, q8, q9, q10, q11, q12, q13, q14] : List Nat).getD i 0) SB) s) (Post := PB w b) C dX0_init_140 ⟨_, s, rfl, hs, rfl⟩ H locs ls hP hD hS hl) 17 0 sB0 rfl (tb0 2 (by decide)) (fun r hr => absurd hr (by omega)) (fun _ _ _ _ => rfl) H locs ls hP hD hS hl2
