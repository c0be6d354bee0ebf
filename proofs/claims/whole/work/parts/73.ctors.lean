-- constructors: a pile, a table, a sheet, the odds, the judge, the reader, the thing (by ctor.py)
theorem hd_X0_init : yX0_init.cls ≠ "java/lang/invoke/MethodHandle" ∧ yX0_init.cls ≠ "java/lang/invoke/VarHandle" ∧ (parseMethodDescriptor yX0_init.desc).map (fun d => d.parameters.length) = some 0 := by decide +kernel
theorem hd_X1_init : yX1_init.cls ≠ "java/lang/invoke/MethodHandle" ∧ yX1_init.cls ≠ "java/lang/invoke/VarHandle" ∧ (parseMethodDescriptor yX1_init.desc).map (fun d => d.parameters.length) = some 0 := by decide +kernel
theorem hd_X2_init : yX2_init.cls ≠ "java/lang/invoke/MethodHandle" ∧ yX2_init.cls ≠ "java/lang/invoke/VarHandle" ∧ (parseMethodDescriptor yX2_init.desc).map (fun d => d.parameters.length) = some 0 := by decide +kernel
theorem hd_X3_init : yX3_init.cls ≠ "java/lang/invoke/MethodHandle" ∧ yX3_init.cls ≠ "java/lang/invoke/VarHandle" ∧ (parseMethodDescriptor yX3_init.desc).map (fun d => d.parameters.length) = some 1 := by decide +kernel
theorem hd_X4_init : yX4_init.cls ≠ "java/lang/invoke/MethodHandle" ∧ yX4_init.cls ≠ "java/lang/invoke/VarHandle" ∧ (parseMethodDescriptor yX4_init.desc).map (fun d => d.parameters.length) = some 0 := by decide +kernel
theorem hd_X5_init : yX5_init.cls ≠ "java/lang/invoke/MethodHandle" ∧ yX5_init.cls ≠ "java/lang/invoke/VarHandle" ∧ (parseMethodDescriptor yX5_init.desc).map (fun d => d.parameters.length) = some 2 := by decide +kernel
theorem hd_X6_init : yX6_init.cls ≠ "java/lang/invoke/MethodHandle" ∧ yX6_init.cls ≠ "java/lang/invoke/VarHandle" ∧ (parseMethodDescriptor yX6_init.desc).map (fun d => d.parameters.length) = some 0 := by decide +kernel
theorem hd_X7_init : yX7_init.cls ≠ "java/lang/invoke/MethodHandle" ∧ yX7_init.cls ≠ "java/lang/invoke/VarHandle" ∧ (parseMethodDescriptor yX7_init.desc).map (fun d => d.parameters.length) = some 0 := by decide +kernel
theorem hd_X8_init : yX8_init.cls ≠ "java/lang/invoke/MethodHandle" ∧ yX8_init.cls ≠ "java/lang/invoke/VarHandle" ∧ (parseMethodDescriptor yX8_init.desc).map (fun d => d.parameters.length) = some 0 := by decide +kernel
theorem hd_X9_init : yX9_init.cls ≠ "java/lang/invoke/MethodHandle" ∧ yX9_init.cls ≠ "java/lang/invoke/VarHandle" ∧ (parseMethodDescriptor yX9_init.desc).map (fun d => d.parameters.length) = some 0 := by decide +kernel
set_option maxHeartbeats 4000000 in
set_option maxRecDepth 100000 in
theorem ct_X3 (l : Launch) (w : WX) (b : Nat) (a1 : Int32) (N : Nat) (ha1 : (if 0 < a1 then a1 else 0) = a1) (hn : ¬ a1 < 0) (hN : a1.toNatClampNeg = N) (hb : N * 4 ≤ 536870912) : CT l yX3_init (wz yX3_init cX3_init 2 none) ({ frames := 1, cells := 1, slots := (0 + N), locals := 20 } : Room) [.int a1] w b 3 [.null, .int 0] (fun w1 => ∃ q1, w1 = [(b, .inr (3, [.ref q1, .int 0])), (q1, .inl (cI w, N, .inl (fun _ => 0)))]) 1 (0 + N) := by
  refine ctor_start (cc := cX3_init) (own := RX3) (maxL := 2) (by decide) rfl rfl (Nat.le_of_ble_eq_true rfl) (fun x C hR hl hin => ?_)
  refine gn_lv (lv' := [(0, .ref b), (1, .int a1)]) rfl ?_
  refine gn_ws (ws' := [(b, .inr (3, [.null, .int 0]))]) rfl ?_
  refine gn_aload_n C dX3_init_0 rfl 0 rfl ?_
  refine gn_obj C ml_X3_1 dX3_init_1 (by rw [hR]; exact Nat.le_of_ble_eq_true rfl) (by rw [hR]; exact Nat.le_of_ble_eq_true rfl) ?_
  refine gn_aload_n C dX3_init_4 rfl 0 rfl ?_
  refine gn_iconst C (v := 0) dX3_init_5 rfl ?_
  refine gn_put C (R := RX3) (T := TX3) (N := 2) (ci := 3) (f := 1) (v := .int 0) (ty := .int) tyX3 tyX3_ok nmX3 rfl hinX3 0 rfl (by decide) fl_X3_7 rfl (Or.inl rfl) rfl rfl rfl (Nat.le_of_ble_eq_true rfl) dX3_init_6 ?_
  refine gn_ws (ws' := [(b, .inr (3, [.null, .int 0]))]) rfl ?_
  refine gn_aload_n C dX3_init_9 rfl 0 rfl ?_
  refine gn_iconst C (v := 0) dX3_init_10 rfl ?_
  refine gn_iload_n C dX3_init_11 rfl 1 rfl ?_
  refine gn_imax C (r := a1) (by rw [hR]; exact Nat.le_of_ble_eq_true rfl) (by rw [hR]; exact Nat.le_of_ble_eq_true rfl) (by rw [hR]; exact Nat.zero_le _) (by rw [hR]; exact Nat.zero_le _) ml_X3_13 sm_J9_max_7cf53 ini_J9 cd_J9_max_7cf53 ha1 dX3_init_12 ?_
  refine gn_newI C (N := N) hn hN hb (by rw [hR]; exact Nat.le_of_ble_eq_true rfl) (by rw [hR]; exact Nat.le_refl _) dX3_init_15 (fun q1 => ?_)
  refine gn_ws (ws' := [(b, .inr (3, [.null, .int 0])), (q1, .inl (cI w, N, .inl (fun _ => 0)))]) rfl ?_
  refine gn_put C (R := RX3) (T := TX3) (N := 2) (ci := 3) (f := 0) (v := .ref q1) (ty := .array .int) tyX3 tyX3_ok nmX3 rfl hinX3 0 rfl (by decide) fl_X3_19 rfl (Or.inr ⟨rfl, hin, rfl⟩) rfl rfl rfl (Nat.le_of_ble_eq_true rfl) dX3_init_17 ?_
  refine gn_ws (ws' := [(b, .inr (3, [.ref q1, .int 0])), (q1, .inl (cI w, N, .inl (fun _ => 0)))]) rfl ?_
  exact gn_ret C dX3_init_20 ⟨q1, rfl⟩
set_option maxHeartbeats 4000000 in
set_option maxRecDepth 100000 in
theorem ct_X5 (l : Launch) (w : WX) (b : Nat) (a1 a2 : Int32) (N : Nat) (ha1 : (if 0 < a1 then a1 else 0) = a1) (ha2 : (if 0 < a2 then a2 else 0) = a2) (hn : ¬ a1 * a2 < 0) (hN : (a1 * a2).toNatClampNeg = N) (hb : N * 4 ≤ 536870912) : CT l yX5_init (wz yX5_init cX5_init 3 none) ({ frames := 1, cells := 1, slots := (0 + N), locals := 20 } : Room) [.int a1, .int a2] w b 5 [.int 0, .int 0, .null, .int 0] (fun w1 => ∃ q1, w1 = [(b, .inr (5, [.int a1, .int a2, .ref q1, .int 0])), (q1, .inl (cI w, N, .inl (fun _ => 0)))]) 1 (0 + N) := by
  refine ctor_start (cc := cX5_init) (own := RX5) (maxL := 3) (by decide) rfl rfl (Nat.le_of_ble_eq_true rfl) (fun x C hR hl hin => ?_)
  refine gn_lv (lv' := [(0, .ref b), (1, .int a1), (2, .int a2)]) rfl ?_
  refine gn_ws (ws' := [(b, .inr (5, [.int 0, .int 0, .null, .int 0]))]) rfl ?_
  refine gn_aload_n C dX5_init_0 rfl 0 rfl ?_
  refine gn_obj C ml_X5_3 dX5_init_1 (by rw [hR]; exact Nat.le_of_ble_eq_true rfl) (by rw [hR]; exact Nat.le_of_ble_eq_true rfl) ?_
  refine gn_aload_n C dX5_init_4 rfl 0 rfl ?_
  refine gn_iconst C (v := 0) dX5_init_5 rfl ?_
  refine gn_put C (R := RX5) (T := TX5) (N := 4) (ci := 5) (f := 3) (v := .int 0) (ty := .int) tyX5 tyX5_ok nmX5 rfl hinX5 0 rfl (by decide) fl_X5_9 rfl (Or.inl rfl) rfl rfl rfl (Nat.le_of_ble_eq_true rfl) dX5_init_6 ?_
  refine gn_ws (ws' := [(b, .inr (5, [.int 0, .int 0, .null, .int 0]))]) rfl ?_
  refine gn_aload_n C dX5_init_9 rfl 0 rfl ?_
  refine gn_iconst C (v := 0) dX5_init_10 rfl ?_
  refine gn_iload_n C dX5_init_11 rfl 1 rfl ?_
  refine gn_imax C (r := a1) (by rw [hR]; exact Nat.le_of_ble_eq_true rfl) (by rw [hR]; exact Nat.le_of_ble_eq_true rfl) (by rw [hR]; exact Nat.zero_le _) (by rw [hR]; exact Nat.zero_le _) ml_X5_15 sm_J9_max_7cf53 ini_J9 cd_J9_max_7cf53 ha1 dX5_init_12 ?_
  refine gn_put C (R := RX5) (T := TX5) (N := 4) (ci := 5) (f := 0) (v := .int a1) (ty := .int) tyX5 tyX5_ok nmX5 rfl hinX5 0 rfl (by decide) fl_X5_21 rfl (Or.inr ⟨rfl, hin, rfl⟩) rfl rfl rfl (Nat.le_of_ble_eq_true rfl) dX5_init_15 ?_
  refine gn_ws (ws' := [(b, .inr (5, [.int a1, .int 0, .null, .int 0]))]) rfl ?_
  refine gn_aload_n C dX5_init_18 rfl 0 rfl ?_
  refine gn_iconst C (v := 0) dX5_init_19 rfl ?_
  refine gn_iload_n C dX5_init_20 rfl 2 rfl ?_
  refine gn_imax C (r := a2) (by rw [hR]; exact Nat.le_of_ble_eq_true rfl) (by rw [hR]; exact Nat.le_of_ble_eq_true rfl) (by rw [hR]; exact Nat.zero_le _) (by rw [hR]; exact Nat.zero_le _) ml_X5_15 sm_J9_max_7cf53 ini_J9 cd_J9_max_7cf53 ha2 dX5_init_21 ?_
  refine gn_put C (R := RX5) (T := TX5) (N := 4) (ci := 5) (f := 1) (v := .int a2) (ty := .int) tyX5 tyX5_ok nmX5 rfl hinX5 0 rfl (by decide) fl_X5_24 rfl (Or.inr ⟨rfl, hin, rfl⟩) rfl rfl rfl (Nat.le_of_ble_eq_true rfl) dX5_init_24 ?_
  refine gn_ws (ws' := [(b, .inr (5, [.int a1, .int a2, .null, .int 0]))]) rfl ?_
  refine gn_aload_n C dX5_init_27 rfl 0 rfl ?_
  refine gn_aload_n C dX5_init_28 rfl 0 rfl ?_
  refine gn_get C (R := RX5) (T := TX5) (N := 4) (ci := 5) (f := 0) rfl hinX5 0 rfl (by decide) fl_X5_21 rfl rfl dX5_init_29 ?_
  refine gn_aload_n C dX5_init_32 rfl 0 rfl ?_
  refine gn_get C (R := RX5) (T := TX5) (N := 4) (ci := 5) (f := 1) rfl hinX5 0 rfl (by decide) fl_X5_24 rfl rfl dX5_init_33 ?_
  refine gn_imul C dX5_init_36 ?_
  refine gn_newI C (N := N) hn hN hb (by rw [hR]; exact Nat.le_of_ble_eq_true rfl) (by rw [hR]; exact Nat.le_refl _) dX5_init_37 (fun q1 => ?_)
  refine gn_ws (ws' := [(b, .inr (5, [.int a1, .int a2, .null, .int 0])), (q1, .inl (cI w, N, .inl (fun _ => 0)))]) rfl ?_
  refine gn_put C (R := RX5) (T := TX5) (N := 4) (ci := 5) (f := 2) (v := .ref q1) (ty := .array .int) tyX5 tyX5_ok nmX5 rfl hinX5 0 rfl (by decide) fl_X5_27 rfl (Or.inr ⟨rfl, hin, rfl⟩) rfl rfl rfl (Nat.le_of_ble_eq_true rfl) dX5_init_39 ?_
  refine gn_ws (ws' := [(b, .inr (5, [.int a1, .int a2, .ref q1, .int 0])), (q1, .inl (cI w, N, .inl (fun _ => 0)))]) rfl ?_
  exact gn_ret C dX5_init_42 ⟨q1, rfl⟩
set_option maxHeartbeats 4000000 in
set_option maxRecDepth 100000 in
theorem ct_X4 (l : Launch) (w : WX) (b : Nat) : CT l yX4_init (wz yX4_init cX4_init 1 none) ({ frames := 1, cells := 1, slots := 40, locals := 20 } : Room) [] w b 4 [.null, .int 0, .int 0] (fun w1 => ∃ q1, w1 = [(b, .inr (4, [.ref q1, .int (-1), .int 0])), (q1, .inl (cI w, 40, .inl (fun _ => 0)))]) 1 40 := by
  refine ctor_start (cc := cX4_init) (own := RX4) (maxL := 1) (by decide) rfl rfl (Nat.le_of_ble_eq_true rfl) (fun x C hR hl hin => ?_)
  refine gn_lv (lv' := [(0, .ref b)]) rfl ?_
  refine gn_ws (ws' := [(b, .inr (4, [.null, .int 0, .int 0]))]) rfl ?_
  refine gn_aload_n C dX4_init_0 rfl 0 rfl ?_
  refine gn_obj C ml_X4_3 dX4_init_1 (by rw [hR]; exact Nat.le_of_ble_eq_true rfl) (by rw [hR]; exact Nat.le_of_ble_eq_true rfl) ?_
  refine gn_aload_n C dX4_init_4 rfl 0 rfl ?_
  refine gn_bipush C (v := 40) dX4_init_5 (by decide) ?_
  refine gn_newI C (N := 40) (by decide) (by decide) (by decide) (by rw [hR]; exact Nat.le_of_ble_eq_true rfl) (by rw [hR]; exact Nat.le_of_ble_eq_true rfl) dX4_init_7 (fun q1 => ?_)
  refine gn_ws (ws' := [(b, .inr (4, [.null, .int 0, .int 0])), (q1, .inl (cI w, 40, .inl (fun _ => 0)))]) rfl ?_
  refine gn_put C (R := RX4) (T := TX4) (N := 3) (ci := 4) (f := 0) (v := .ref q1) (ty := .array .int) tyX4 tyX4_ok nmX4 rfl hinX4 0 rfl (by decide) fl_X4_9 rfl (Or.inr ⟨rfl, hin, rfl⟩) rfl rfl rfl (Nat.le_of_ble_eq_true rfl) dX4_init_9 ?_
  refine gn_ws (ws' := [(b, .inr (4, [.ref q1, .int 0, .int 0])), (q1, .inl (cI w, 40, .inl (fun _ => 0)))]) rfl ?_
  refine gn_aload_n C dX4_init_12 rfl 0 rfl ?_
  refine gn_iconst C (v := (-1)) dX4_init_13 rfl ?_
  refine gn_put C (R := RX4) (T := TX4) (N := 3) (ci := 4) (f := 1) (v := .int (-1)) (ty := .int) tyX4 tyX4_ok nmX4 rfl hinX4 0 rfl (by decide) fl_X4_15 rfl (Or.inl rfl) rfl rfl rfl (Nat.le_of_ble_eq_true rfl) dX4_init_14 ?_
  refine gn_ws (ws' := [(b, .inr (4, [.ref q1, .int (-1), .int 0])), (q1, .inl (cI w, 40, .inl (fun _ => 0)))]) rfl ?_
  refine gn_aload_n C dX4_init_17 rfl 0 rfl ?_
  refine gn_iconst C (v := 0) dX4_init_18 rfl ?_
  refine gn_put C (R := RX4) (T := TX4) (N := 3) (ci := 4) (f := 2) (v := .int 0) (ty := .int) tyX4 tyX4_ok nmX4 rfl hinX4 0 rfl (by decide) fl_X4_19 rfl (Or.inl rfl) rfl rfl rfl (Nat.le_of_ble_eq_true rfl) dX4_init_19 ?_
  refine gn_ws (ws' := [(b, .inr (4, [.ref q1, .int (-1), .int 0])), (q1, .inl (cI w, 40, .inl (fun _ => 0)))]) rfl ?_
  exact gn_ret C dX4_init_22 ⟨q1, rfl⟩
set_option maxHeartbeats 4000000 in
set_option maxRecDepth 100000 in
theorem ct_X2 (l : Launch) (w : WX) (b : Nat) : CT l yX2_init (wz yX2_init cX2_init 1 none) ({ frames := 1, cells := 1, slots := 161, locals := 20 } : Room) [] w b 2 [.null, .int 0, .long 0, .int 0] (fun w1 => ∃ q1, w1 = [(b, .inr (2, [.ref q1, .int 0, .long 0, .int (-3)])), (q1, .inl (cJ w, 161, .inr (.inl (fun _ => 0))))]) 1 161 := by
  refine ctor_start (cc := cX2_init) (own := RX2) (maxL := 1) (by decide) rfl rfl (Nat.le_of_ble_eq_true rfl) (fun x C hR hl hin => ?_)
  refine gn_lv (lv' := [(0, .ref b)]) rfl ?_
  refine gn_ws (ws' := [(b, .inr (2, [.null, .int 0, .long 0, .int 0]))]) rfl ?_
  refine gn_aload_n C dX2_init_0 rfl 0 rfl ?_
  refine gn_obj C ml_X2_3 dX2_init_1 (by rw [hR]; exact Nat.le_of_ble_eq_true rfl) (by rw [hR]; exact Nat.le_of_ble_eq_true rfl) ?_
  refine gn_aload_n C dX2_init_4 rfl 0 rfl ?_
  refine gn_sipush C (v := 161) dX2_init_5 (by decide) ?_
  refine gn_newJ C (N := 161) (by decide) (by decide) (by decide) (by rw [hR]; exact Nat.le_of_ble_eq_true rfl) (by rw [hR]; exact Nat.le_of_ble_eq_true rfl) dX2_init_8 (fun q1 => ?_)
  refine gn_ws (ws' := [(b, .inr (2, [.null, .int 0, .long 0, .int 0])), (q1, .inl (cJ w, 161, .inr (.inl (fun _ => 0))))]) rfl ?_
  refine gn_put C (R := RX2) (T := TX2) (N := 4) (ci := 2) (f := 0) (v := .ref q1) (ty := .array .long) tyX2 tyX2_ok nmX2 rfl hinX2 0 rfl (by decide) fl_X2_9 rfl (Or.inr ⟨rfl, hin, rfl⟩) rfl rfl rfl (Nat.le_of_ble_eq_true rfl) dX2_init_10 ?_
  refine gn_ws (ws' := [(b, .inr (2, [.ref q1, .int 0, .long 0, .int 0])), (q1, .inl (cJ w, 161, .inr (.inl (fun _ => 0))))]) rfl ?_
  refine gn_aload_n C dX2_init_13 rfl 0 rfl ?_
  refine gn_iconst C (v := 0) dX2_init_14 rfl ?_
  refine gn_put C (R := RX2) (T := TX2) (N := 4) (ci := 2) (f := 1) (v := .int 0) (ty := .int) tyX2 tyX2_ok nmX2 rfl hinX2 0 rfl (by decide) fl_X2_15 rfl (Or.inl rfl) rfl rfl rfl (Nat.le_of_ble_eq_true rfl) dX2_init_15 ?_
  refine gn_ws (ws' := [(b, .inr (2, [.ref q1, .int 0, .long 0, .int 0])), (q1, .inl (cJ w, 161, .inr (.inl (fun _ => 0))))]) rfl ?_
  refine gn_aload_n C dX2_init_18 rfl 0 rfl ?_
  refine gn_lconst C (v := 0) dX2_init_19 rfl ?_
  refine gn_put C (R := RX2) (T := TX2) (N := 4) (ci := 2) (f := 2) (v := .long 0) (ty := .long) tyX2 tyX2_ok nmX2 rfl hinX2 0 rfl (by decide) fl_X2_19 rfl (Or.inl rfl) rfl rfl rfl (Nat.le_of_ble_eq_true rfl) dX2_init_20 ?_
  refine gn_ws (ws' := [(b, .inr (2, [.ref q1, .int 0, .long 0, .int 0])), (q1, .inl (cJ w, 161, .inr (.inl (fun _ => 0))))]) rfl ?_
  refine gn_aload_n C dX2_init_23 rfl 0 rfl ?_
  refine gn_bipush C (v := (-3)) dX2_init_24 (by decide) ?_
  refine gn_put C (R := RX2) (T := TX2) (N := 4) (ci := 2) (f := 3) (v := .int (-3)) (ty := .int) tyX2 tyX2_ok nmX2 rfl hinX2 0 rfl (by decide) fl_X2_23 rfl (Or.inl rfl) rfl rfl rfl (Nat.le_of_ble_eq_true rfl) dX2_init_26 ?_
  refine gn_ws (ws' := [(b, .inr (2, [.ref q1, .int 0, .long 0, .int (-3)])), (q1, .inl (cJ w, 161, .inr (.inl (fun _ => 0))))]) rfl ?_
  exact gn_ret C dX2_init_29 ⟨q1, rfl⟩
set_option maxHeartbeats 4000000 in
set_option maxRecDepth 100000 in
theorem ct_X1 (l : Launch) (w : WX) (b : Nat) : CT l yX1_init (wz yX1_init cX1_init 1 none) ({ frames := 2, cells := 2, slots := 202, locals := 50 } : Room) [] w b 1 [.null, .int 0, .int 0, .int 0, .int 0] (fun w1 => ∃ q1 q2, w1 = [(b, .inr (1, [.ref q1, .int 0, .int 0, .int 0, .int 0])), (q1, .inr (3, [.ref q2, .int 0])), (q2, .inl (cI w, 200, .inl (fun _ => 0)))]) 2 202 := by
  refine ctor_start (cc := cX1_init) (own := RX1) (maxL := 1) (by decide) rfl rfl (Nat.le_of_ble_eq_true rfl) (fun x C hR hl hin => ?_)
  refine gn_lv (lv' := [(0, .ref b)]) rfl ?_
  refine gn_ws (ws' := [(b, .inr (1, [.null, .int 0, .int 0, .int 0, .int 0]))]) rfl ?_
  refine gn_aload_n C dX1_init_0 rfl 0 rfl ?_
  refine gn_obj C ml_X1_3 dX1_init_1 (by rw [hR]; exact Nat.le_of_ble_eq_true rfl) (by rw [hR]; exact Nat.le_of_ble_eq_true rfl) ?_
  refine gn_aload_n C dX1_init_4 rfl 0 rfl ?_
  refine gn_new C (R := RX3) (T := TX3) (N := 2) (ci := 3) (fs := [.null, .int 0]) hinX3 tyX3 tyX3_ok cl_X1_9 ib_X3 ini_X3 rfl (fun j hj => by rcases (show j = 0 ∨ j = 1 by omega) with rfl | rfl <;> rfl) (by rw [hR]; exact Nat.le_of_ble_eq_true rfl) (by rw [hR]; exact Nat.le_of_ble_eq_true rfl) dX1_init_5 (fun q1 => ?_)
  refine gn_dup C dX1_init_8 rfl ?_
  refine gn_sipush C (v := 200) dX1_init_9 (by decide) ?_
  refine gn_ws (ws' := [(b, .inr (1, [.null, .int 0, .int 0, .int 0, .int 0]))] ++ [(q1, .inr (3, [.null, .int 0]))]) rfl ?_
  refine gn_ctor C [.int 200] (ct_X3 (kl x) w q1 200 200 rfl (by decide) (by decide) (by decide)) (cn_cw C hR ml_X1_11 im_X3_init ini_X3 cd_X3_init rfl hd_X3_init (by decide)) rfl _ rfl (Nat.le_of_ble_eq_true rfl) dX1_init_12 ⟨by rw [hR]; exact Nat.le_of_ble_eq_true rfl, by rw [hR]; exact Nat.le_of_ble_eq_true rfl⟩ (fun w1 hp => ?_)
  obtain ⟨q2, rfl⟩ := hp
  refine gn_ws (ws' := [(b, .inr (1, [.null, .int 0, .int 0, .int 0, .int 0])), (q1, .inr (3, [.ref q2, .int 0])), (q2, .inl (cI w, 200, .inl (fun _ => 0)))]) rfl ?_
  refine gn_put C (R := RX1) (T := TX1) (N := 5) (ci := 1) (f := 0) (v := .ref q1) (ty := .object "ElderPapers$Pile") tyX1 tyX1_ok nmX1 rfl hinX1 0 rfl (by decide) fl_X1_14 rfl (Or.inr ⟨rfl, hin, rfl⟩) rfl rfl rfl (Nat.le_of_ble_eq_true rfl) dX1_init_15 ?_
  refine gn_ws (ws' := [(b, .inr (1, [.ref q1, .int 0, .int 0, .int 0, .int 0])), (q1, .inr (3, [.ref q2, .int 0])), (q2, .inl (cI w, 200, .inl (fun _ => 0)))]) rfl ?_
  refine gn_aload_n C dX1_init_18 rfl 0 rfl ?_
  refine gn_iconst C (v := 0) dX1_init_19 rfl ?_
  refine gn_put C (R := RX1) (T := TX1) (N := 5) (ci := 1) (f := 1) (v := .int 0) (ty := .int) tyX1 tyX1_ok nmX1 rfl hinX1 0 rfl (by decide) fl_X1_20 rfl (Or.inl rfl) rfl rfl rfl (Nat.le_of_ble_eq_true rfl) dX1_init_20 ?_
  refine gn_ws (ws' := [(b, .inr (1, [.ref q1, .int 0, .int 0, .int 0, .int 0])), (q1, .inr (3, [.ref q2, .int 0])), (q2, .inl (cI w, 200, .inl (fun _ => 0)))]) rfl ?_
  refine gn_aload_n C dX1_init_23 rfl 0 rfl ?_
  refine gn_iconst C (v := 0) dX1_init_24 rfl ?_
  refine gn_put C (R := RX1) (T := TX1) (N := 5) (ci := 1) (f := 2) (v := .int 0) (ty := .int) tyX1 tyX1_ok nmX1 rfl hinX1 0 rfl (by decide) fl_X1_24 rfl (Or.inl rfl) rfl rfl rfl (Nat.le_of_ble_eq_true rfl) dX1_init_25 ?_
  refine gn_ws (ws' := [(b, .inr (1, [.ref q1, .int 0, .int 0, .int 0, .int 0])), (q1, .inr (3, [.ref q2, .int 0])), (q2, .inl (cI w, 200, .inl (fun _ => 0)))]) rfl ?_
  refine gn_aload_n C dX1_init_28 rfl 0 rfl ?_
  refine gn_iconst C (v := 0) dX1_init_29 rfl ?_
  refine gn_put C (R := RX1) (T := TX1) (N := 5) (ci := 1) (f := 3) (v := .int 0) (ty := .int) tyX1 tyX1_ok nmX1 rfl hinX1 0 rfl (by decide) fl_X1_27 rfl (Or.inl rfl) rfl rfl rfl (Nat.le_of_ble_eq_true rfl) dX1_init_30 ?_
  refine gn_ws (ws' := [(b, .inr (1, [.ref q1, .int 0, .int 0, .int 0, .int 0])), (q1, .inr (3, [.ref q2, .int 0])), (q2, .inl (cI w, 200, .inl (fun _ => 0)))]) rfl ?_
  refine gn_aload_n C dX1_init_33 rfl 0 rfl ?_
  refine gn_iconst C (v := 0) dX1_init_34 rfl ?_
  refine gn_put C (R := RX1) (T := TX1) (N := 5) (ci := 1) (f := 4) (v := .int 0) (ty := .int) tyX1 tyX1_ok nmX1 rfl hinX1 0 rfl (by decide) fl_X1_30 rfl (Or.inl rfl) rfl rfl rfl (Nat.le_of_ble_eq_true rfl) dX1_init_35 ?_
  refine gn_ws (ws' := [(b, .inr (1, [.ref q1, .int 0, .int 0, .int 0, .int 0])), (q1, .inr (3, [.ref q2, .int 0])), (q2, .inl (cI w, 200, .inl (fun _ => 0)))]) rfl ?_
  exact gn_ret C dX1_init_38 ⟨q1, q2, rfl⟩
set_option maxHeartbeats 4000000 in
set_option maxRecDepth 100000 in
theorem ct_X6 (l : Launch) (w : WX) (b : Nat) : CT l yX6_init (wz yX6_init cX6_init 1 none) ({ frames := 2, cells := 2, slots := 32, locals := 50 } : Room) [] w b 6 [.null, .int 0, .int 0, .int 0, .int 0] (fun w1 => ∃ q1 q2, w1 = [(b, .inr (6, [.ref q1, .int 0, .int 0, .int 0, .int 0])), (q1, .inr (3, [.ref q2, .int 0])), (q2, .inl (cI w, 30, .inl (fun _ => 0)))]) 2 32 := by
  refine ctor_start (cc := cX6_init) (own := RX6) (maxL := 1) (by decide) rfl rfl (Nat.le_of_ble_eq_true rfl) (fun x C hR hl hin => ?_)
  refine gn_lv (lv' := [(0, .ref b)]) rfl ?_
  refine gn_ws (ws' := [(b, .inr (6, [.null, .int 0, .int 0, .int 0, .int 0]))]) rfl ?_
  refine gn_aload_n C dX6_init_0 rfl 0 rfl ?_
  refine gn_obj C ml_X6_3 dX6_init_1 (by rw [hR]; exact Nat.le_of_ble_eq_true rfl) (by rw [hR]; exact Nat.le_of_ble_eq_true rfl) ?_
  refine gn_aload_n C dX6_init_4 rfl 0 rfl ?_
  refine gn_new C (R := RX3) (T := TX3) (N := 2) (ci := 3) (fs := [.null, .int 0]) hinX3 tyX3 tyX3_ok cl_X6_9 ib_X3 ini_X3 rfl (fun j hj => by rcases (show j = 0 ∨ j = 1 by omega) with rfl | rfl <;> rfl) (by rw [hR]; exact Nat.le_of_ble_eq_true rfl) (by rw [hR]; exact Nat.le_of_ble_eq_true rfl) dX6_init_5 (fun q1 => ?_)
  refine gn_dup C dX6_init_8 rfl ?_
  refine gn_bipush C (v := 30) dX6_init_9 (by decide) ?_
  refine gn_ws (ws' := [(b, .inr (6, [.null, .int 0, .int 0, .int 0, .int 0]))] ++ [(q1, .inr (3, [.null, .int 0]))]) rfl ?_
  refine gn_ctor C [.int 30] (ct_X3 (kl x) w q1 30 30 rfl (by decide) (by decide) (by decide)) (cn_cw C hR ml_X6_11 im_X3_init ini_X3 cd_X3_init rfl hd_X3_init (by decide)) rfl _ rfl (Nat.le_of_ble_eq_true rfl) dX6_init_11 ⟨by rw [hR]; exact Nat.le_of_ble_eq_true rfl, by rw [hR]; exact Nat.le_of_ble_eq_true rfl⟩ (fun w1 hp => ?_)
  obtain ⟨q2, rfl⟩ := hp
  refine gn_ws (ws' := [(b, .inr (6, [.null, .int 0, .int 0, .int 0, .int 0])), (q1, .inr (3, [.ref q2, .int 0])), (q2, .inl (cI w, 30, .inl (fun _ => 0)))]) rfl ?_
  refine gn_put C (R := RX6) (T := TX6) (N := 5) (ci := 6) (f := 0) (v := .ref q1) (ty := .object "ElderPapers$Pile") tyX6 tyX6_ok nmX6 rfl hinX6 0 rfl (by decide) fl_X6_14 rfl (Or.inr ⟨rfl, hin, rfl⟩) rfl rfl rfl (Nat.le_of_ble_eq_true rfl) dX6_init_14 ?_
  refine gn_ws (ws' := [(b, .inr (6, [.ref q1, .int 0, .int 0, .int 0, .int 0])), (q1, .inr (3, [.ref q2, .int 0])), (q2, .inl (cI w, 30, .inl (fun _ => 0)))]) rfl ?_
  refine gn_aload_n C dX6_init_17 rfl 0 rfl ?_
  refine gn_iconst C (v := 0) dX6_init_18 rfl ?_
  refine gn_put C (R := RX6) (T := TX6) (N := 5) (ci := 6) (f := 1) (v := .int 0) (ty := .int) tyX6 tyX6_ok nmX6 rfl hinX6 0 rfl (by decide) fl_X6_20 rfl (Or.inl rfl) rfl rfl rfl (Nat.le_of_ble_eq_true rfl) dX6_init_19 ?_
  refine gn_ws (ws' := [(b, .inr (6, [.ref q1, .int 0, .int 0, .int 0, .int 0])), (q1, .inr (3, [.ref q2, .int 0])), (q2, .inl (cI w, 30, .inl (fun _ => 0)))]) rfl ?_
  refine gn_aload_n C dX6_init_22 rfl 0 rfl ?_
  refine gn_iconst C (v := 0) dX6_init_23 rfl ?_
  refine gn_put C (R := RX6) (T := TX6) (N := 5) (ci := 6) (f := 2) (v := .int 0) (ty := .int) tyX6 tyX6_ok nmX6 rfl hinX6 0 rfl (by decide) fl_X6_24 rfl (Or.inl rfl) rfl rfl rfl (Nat.le_of_ble_eq_true rfl) dX6_init_24 ?_
  refine gn_ws (ws' := [(b, .inr (6, [.ref q1, .int 0, .int 0, .int 0, .int 0])), (q1, .inr (3, [.ref q2, .int 0])), (q2, .inl (cI w, 30, .inl (fun _ => 0)))]) rfl ?_
  refine gn_aload_n C dX6_init_27 rfl 0 rfl ?_
  refine gn_iconst C (v := 0) dX6_init_28 rfl ?_
  refine gn_put C (R := RX6) (T := TX6) (N := 5) (ci := 6) (f := 3) (v := .int 0) (ty := .int) tyX6 tyX6_ok nmX6 rfl hinX6 0 rfl (by decide) fl_X6_27 rfl (Or.inl rfl) rfl rfl rfl (Nat.le_of_ble_eq_true rfl) dX6_init_29 ?_
  refine gn_ws (ws' := [(b, .inr (6, [.ref q1, .int 0, .int 0, .int 0, .int 0])), (q1, .inr (3, [.ref q2, .int 0])), (q2, .inl (cI w, 30, .inl (fun _ => 0)))]) rfl ?_
  refine gn_aload_n C dX6_init_32 rfl 0 rfl ?_
  refine gn_iconst C (v := 0) dX6_init_33 rfl ?_
  refine gn_put C (R := RX6) (T := TX6) (N := 5) (ci := 6) (f := 4) (v := .int 0) (ty := .boolean) tyX6 tyX6_ok nmX6 rfl hinX6 0 rfl (by decide) fl_X6_30 rfl (Or.inl rfl) rfl rfl rfl (Nat.le_of_ble_eq_true rfl) dX6_init_34 ?_
  refine gn_ws (ws' := [(b, .inr (6, [.ref q1, .int 0, .int 0, .int 0, .int 0])), (q1, .inr (3, [.ref q2, .int 0])), (q2, .inl (cI w, 30, .inl (fun _ => 0)))]) rfl ?_
  exact gn_ret C dX6_init_37 ⟨q1, q2, rfl⟩
set_option maxHeartbeats 4000000 in
set_option maxRecDepth 100000 in
theorem ct_X7 (l : Launch) (w : WX) (b : Nat) : CT l yX7_init (wz yX7_init cX7_init 1 none) ({ frames := 2, cells := 6, slots := 828, locals := 50 } : Room) [] w b 7 [.null, .null, .null, .null, .int 0, .int 0, .int 0, .int 0, .int 0, .int 0, .int 0] (fun w1 => ∃ q1 q2 q3 q4 q5 q6, w1 = [(b, .inr (7, [.ref q1, .ref q3, .ref q5, .null, .int 0, .int 0, .int 0, .int 0, .int 0, .int 0, .int 0])), (q1, .inr (5, [.int 3, .int 6, .ref q2, .int 0])), (q2, .inl (cI w, 18, .inl (fun _ => 0))), (q3, .inr (5, [.int 3, .int 200, .ref q4, .int 0])), (q4, .inl (cI w, 600, .inl (fun _ => 0))), (q5, .inr (3, [.ref q6, .int 0])), (q6, .inl (cI w, 200, .inl (fun _ => 0)))]) 6 828 := by
  refine ctor_start (cc := cX7_init) (own := RX7) (maxL := 1) (by decide) rfl rfl (Nat.le_of_ble_eq_true rfl) (fun x C hR hl hin => ?_)
  refine gn_lv (lv' := [(0, .ref b)]) rfl ?_
  refine gn_ws (ws' := [(b, .inr (7, [.null, .null, .null, .null, .int 0, .int 0, .int 0, .int 0, .int 0, .int 0, .int 0]))]) rfl ?_
  refine gn_aload_n C dX7_init_0 rfl 0 rfl ?_
  refine gn_obj C ml_X7_3 dX7_init_1 (by rw [hR]; exact Nat.le_of_ble_eq_true rfl) (by rw [hR]; exact Nat.le_of_ble_eq_true rfl) ?_
  refine gn_aload_n C dX7_init_4 rfl 0 rfl ?_
  refine gn_new C (R := RX5) (T := TX5) (N := 4) (ci := 5) (fs := [.int 0, .int 0, .null, .int 0]) hinX5 tyX5 tyX5_ok cl_X7_9 ib_X5 ini_X5 rfl (fun j hj => by rcases (show j = 0 ∨ j = 1 ∨ j = 2 ∨ j = 3 by omega) with rfl | rfl | rfl | rfl <;> rfl) (by rw [hR]; exact Nat.le_of_ble_eq_true rfl) (by rw [hR]; exact Nat.le_of_ble_eq_true rfl) dX7_init_5 (fun q1 => ?_)
  refine gn_dup C dX7_init_8 rfl ?_
  refine gn_iconst C (v := 3) dX7_init_9 rfl ?_
  refine gn_bipush C (v := 6) dX7_init_10 (by decide) ?_
  refine gn_ws (ws' := [(b, .inr (7, [.null, .null, .null, .null, .int 0, .int 0, .int 0, .int 0, .int 0, .int 0, .int 0]))] ++ [(q1, .inr (5, [.int 0, .int 0, .null, .int 0]))]) rfl ?_
  refine gn_ctor C [.int 3, .int 6] (ct_X5 (kl x) w q1 3 6 18 rfl rfl (by decide) (by decide) (by decide)) (cn_cw C hR ml_X7_11 im_X5_init ini_X5 cd_X5_init rfl hd_X5_init (by decide)) rfl _ rfl (Nat.le_of_ble_eq_true rfl) dX7_init_12 ⟨by rw [hR]; exact Nat.le_of_ble_eq_true rfl, by rw [hR]; exact Nat.le_of_ble_eq_true rfl⟩ (fun w1 hp => ?_)
  obtain ⟨q2, rfl⟩ := hp
  refine gn_ws (ws' := [(b, .inr (7, [.null, .null, .null, .null, .int 0, .int 0, .int 0, .int 0, .int 0, .int 0, .int 0])), (q1, .inr (5, [.int 3, .int 6, .ref q2, .int 0])), (q2, .inl (cI w, 18, .inl (fun _ => 0)))]) rfl ?_
  refine gn_put C (R := RX7) (T := TX7) (N := 11) (ci := 7) (f := 0) (v := .ref q1) (ty := .object "ElderPapers$Table") tyX7 tyX7_ok nmX7 rfl hinX7 0 rfl (by decide) fl_X7_14 rfl (Or.inr ⟨rfl, hin, rfl⟩) rfl rfl rfl (Nat.le_of_ble_eq_true rfl) dX7_init_15 ?_
  refine gn_ws (ws' := [(b, .inr (7, [.ref q1, .null, .null, .null, .int 0, .int 0, .int 0, .int 0, .int 0, .int 0, .int 0])), (q1, .inr (5, [.int 3, .int 6, .ref q2, .int 0])), (q2, .inl (cI w, 18, .inl (fun _ => 0)))]) rfl ?_
  refine gn_aload_n C dX7_init_18 rfl 0 rfl ?_
  refine gn_new C (R := RX5) (T := TX5) (N := 4) (ci := 5) (fs := [.int 0, .int 0, .null, .int 0]) hinX5 tyX5 tyX5_ok cl_X7_9 ib_X5 ini_X5 rfl (fun j hj => by rcases (show j = 0 ∨ j = 1 ∨ j = 2 ∨ j = 3 by omega) with rfl | rfl | rfl | rfl <;> rfl) (by rw [hR]; exact Nat.le_of_ble_eq_true rfl) (by rw [hR]; exact Nat.le_of_ble_eq_true rfl) dX7_init_19 (fun q3 => ?_)
  refine gn_dup C dX7_init_22 rfl ?_
  refine gn_iconst C (v := 3) dX7_init_23 rfl ?_
  refine gn_sipush C (v := 200) dX7_init_24 (by decide) ?_
  refine gn_ws (ws' := [(b, .inr (7, [.ref q1, .null, .null, .null, .int 0, .int 0, .int 0, .int 0, .int 0, .int 0, .int 0])), (q1, .inr (5, [.int 3, .int 6, .ref q2, .int 0])), (q2, .inl (cI w, 18, .inl (fun _ => 0)))] ++ [(q3, .inr (5, [.int 0, .int 0, .null, .int 0]))]) rfl ?_
  refine gn_ctor C [.int 3, .int 200] (ct_X5 (kl x) w q3 3 200 600 rfl rfl (by decide) (by decide) (by decide)) (cn_cw C hR ml_X7_11 im_X5_init ini_X5 cd_X5_init rfl hd_X5_init (by decide)) rfl _ rfl (Nat.le_of_ble_eq_true rfl) dX7_init_27 ⟨by rw [hR]; exact Nat.le_of_ble_eq_true rfl, by rw [hR]; exact Nat.le_of_ble_eq_true rfl⟩ (fun w1 hp => ?_)
  obtain ⟨q4, rfl⟩ := hp
  refine gn_ws (ws' := [(b, .inr (7, [.ref q1, .null, .null, .null, .int 0, .int 0, .int 0, .int 0, .int 0, .int 0, .int 0])), (q1, .inr (5, [.int 3, .int 6, .ref q2, .int 0])), (q2, .inl (cI w, 18, .inl (fun _ => 0))), (q3, .inr (5, [.int 3, .int 200, .ref q4, .int 0])), (q4, .inl (cI w, 600, .inl (fun _ => 0)))]) rfl ?_
  refine gn_put C (R := RX7) (T := TX7) (N := 11) (ci := 7) (f := 1) (v := .ref q3) (ty := .object "ElderPapers$Table") tyX7 tyX7_ok nmX7 rfl hinX7 0 rfl (by decide) fl_X7_20 rfl (Or.inr ⟨rfl, hin, rfl⟩) rfl rfl rfl (Nat.le_of_ble_eq_true rfl) dX7_init_30 ?_
  refine gn_ws (ws' := [(b, .inr (7, [.ref q1, .ref q3, .null, .null, .int 0, .int 0, .int 0, .int 0, .int 0, .int 0, .int 0])), (q1, .inr (5, [.int 3, .int 6, .ref q2, .int 0])), (q2, .inl (cI w, 18, .inl (fun _ => 0))), (q3, .inr (5, [.int 3, .int 200, .ref q4, .int 0])), (q4, .inl (cI w, 600, .inl (fun _ => 0)))]) rfl ?_
  refine gn_aload_n C dX7_init_33 rfl 0 rfl ?_
  refine gn_new C (R := RX3) (T := TX3) (N := 2) (ci := 3) (fs := [.null, .int 0]) hinX3 tyX3 tyX3_ok cl_X7_23 ib_X3 ini_X3 rfl (fun j hj => by rcases (show j = 0 ∨ j = 1 by omega) with rfl | rfl <;> rfl) (by rw [hR]; exact Nat.le_of_ble_eq_true rfl) (by rw [hR]; exact Nat.le_of_ble_eq_true rfl) dX7_init_34 (fun q5 => ?_)
  refine gn_dup C dX7_init_37 rfl ?_
  refine gn_sipush C (v := 200) dX7_init_38 (by decide) ?_
  refine gn_ws (ws' := [(b, .inr (7, [.ref q1, .ref q3, .null, .null, .int 0, .int 0, .int 0, .int 0, .int 0, .int 0, .int 0])), (q1, .inr (5, [.int 3, .int 6, .ref q2, .int 0])), (q2, .inl (cI w, 18, .inl (fun _ => 0))), (q3, .inr (5, [.int 3, .int 200, .ref q4, .int 0])), (q4, .inl (cI w, 600, .inl (fun _ => 0)))] ++ [(q5, .inr (3, [.null, .int 0]))]) rfl ?_
  refine gn_ctor C [.int 200] (ct_X3 (kl x) w q5 200 200 rfl (by decide) (by decide) (by decide)) (cn_cw C hR ml_X7_25 im_X3_init ini_X3 cd_X3_init rfl hd_X3_init (by decide)) rfl _ rfl (Nat.le_of_ble_eq_true rfl) dX7_init_41 ⟨by rw [hR]; exact Nat.le_of_ble_eq_true rfl, by rw [hR]; exact Nat.le_of_ble_eq_true rfl⟩ (fun w1 hp => ?_)
  obtain ⟨q6, rfl⟩ := hp
  refine gn_ws (ws' := [(b, .inr (7, [.ref q1, .ref q3, .null, .null, .int 0, .int 0, .int 0, .int 0, .int 0, .int 0, .int 0])), (q1, .inr (5, [.int 3, .int 6, .ref q2, .int 0])), (q2, .inl (cI w, 18, .inl (fun _ => 0))), (q3, .inr (5, [.int 3, .int 200, .ref q4, .int 0])), (q4, .inl (cI w, 600, .inl (fun _ => 0))), (q5, .inr (3, [.ref q6, .int 0])), (q6, .inl (cI w, 200, .inl (fun _ => 0)))]) rfl ?_
  refine gn_put C (R := RX7) (T := TX7) (N := 11) (ci := 7) (f := 2) (v := .ref q5) (ty := .object "ElderPapers$Pile") tyX7 tyX7_ok nmX7 rfl hinX7 0 rfl (by decide) fl_X7_28 rfl (Or.inr ⟨rfl, hin, rfl⟩) rfl rfl rfl (Nat.le_of_ble_eq_true rfl) dX7_init_44 ?_
  refine gn_ws (ws' := [(b, .inr (7, [.ref q1, .ref q3, .ref q5, .null, .int 0, .int 0, .int 0, .int 0, .int 0, .int 0, .int 0])), (q1, .inr (5, [.int 3, .int 6, .ref q2, .int 0])), (q2, .inl (cI w, 18, .inl (fun _ => 0))), (q3, .inr (5, [.int 3, .int 200, .ref q4, .int 0])), (q4, .inl (cI w, 600, .inl (fun _ => 0))), (q5, .inr (3, [.ref q6, .int 0])), (q6, .inl (cI w, 200, .inl (fun _ => 0)))]) rfl ?_
  refine gn_aload_n C dX7_init_47 rfl 0 rfl ?_
  refine gn_null C dX7_init_48 ?_
  refine gn_put C (R := RX7) (T := TX7) (N := 11) (ci := 7) (f := 3) (v := .null) (ty := .object "ElderPapers$Pile") tyX7 tyX7_ok nmX7 rfl hinX7 0 rfl (by decide) fl_X7_32 rfl (Or.inl rfl) rfl rfl rfl (Nat.le_of_ble_eq_true rfl) dX7_init_49 ?_
  refine gn_ws (ws' := [(b, .inr (7, [.ref q1, .ref q3, .ref q5, .null, .int 0, .int 0, .int 0, .int 0, .int 0, .int 0, .int 0])), (q1, .inr (5, [.int 3, .int 6, .ref q2, .int 0])), (q2, .inl (cI w, 18, .inl (fun _ => 0))), (q3, .inr (5, [.int 3, .int 200, .ref q4, .int 0])), (q4, .inl (cI w, 600, .inl (fun _ => 0))), (q5, .inr (3, [.ref q6, .int 0])), (q6, .inl (cI w, 200, .inl (fun _ => 0)))]) rfl ?_
  refine gn_aload_n C dX7_init_52 rfl 0 rfl ?_
  refine gn_iconst C (v := 0) dX7_init_53 rfl ?_
  refine gn_put C (R := RX7) (T := TX7) (N := 11) (ci := 7) (f := 4) (v := .int 0) (ty := .int) tyX7 tyX7_ok nmX7 rfl hinX7 0 rfl (by decide) fl_X7_35 rfl (Or.inl rfl) rfl rfl rfl (Nat.le_of_ble_eq_true rfl) dX7_init_54 ?_
  refine gn_ws (ws' := [(b, .inr (7, [.ref q1, .ref q3, .ref q5, .null, .int 0, .int 0, .int 0, .int 0, .int 0, .int 0, .int 0])), (q1, .inr (5, [.int 3, .int 6, .ref q2, .int 0])), (q2, .inl (cI w, 18, .inl (fun _ => 0))), (q3, .inr (5, [.int 3, .int 200, .ref q4, .int 0])), (q4, .inl (cI w, 600, .inl (fun _ => 0))), (q5, .inr (3, [.ref q6, .int 0])), (q6, .inl (cI w, 200, .inl (fun _ => 0)))]) rfl ?_
  refine gn_aload_n C dX7_init_57 rfl 0 rfl ?_
  refine gn_iconst C (v := 0) dX7_init_58 rfl ?_
  refine gn_put C (R := RX7) (T := TX7) (N := 11) (ci := 7) (f := 5) (v := .int 0) (ty := .int) tyX7 tyX7_ok nmX7 rfl hinX7 0 rfl (by decide) fl_X7_39 rfl (Or.inl rfl) rfl rfl rfl (Nat.le_of_ble_eq_true rfl) dX7_init_59 ?_
  refine gn_ws (ws' := [(b, .inr (7, [.ref q1, .ref q3, .ref q5, .null, .int 0, .int 0, .int 0, .int 0, .int 0, .int 0, .int 0])), (q1, .inr (5, [.int 3, .int 6, .ref q2, .int 0])), (q2, .inl (cI w, 18, .inl (fun _ => 0))), (q3, .inr (5, [.int 3, .int 200, .ref q4, .int 0])), (q4, .inl (cI w, 600, .inl (fun _ => 0))), (q5, .inr (3, [.ref q6, .int 0])), (q6, .inl (cI w, 200, .inl (fun _ => 0)))]) rfl ?_
  refine gn_aload_n C dX7_init_62 rfl 0 rfl ?_
  refine gn_iconst C (v := 0) dX7_init_63 rfl ?_
  refine gn_put C (R := RX7) (T := TX7) (N := 11) (ci := 7) (f := 6) (v := .int 0) (ty := .int) tyX7 tyX7_ok nmX7 rfl hinX7 0 rfl (by decide) fl_X7_42 rfl (Or.inl rfl) rfl rfl rfl (Nat.le_of_ble_eq_true rfl) dX7_init_64 ?_
  refine gn_ws (ws' := [(b, .inr (7, [.ref q1, .ref q3, .ref q5, .null, .int 0, .int 0, .int 0, .int 0, .int 0, .int 0, .int 0])), (q1, .inr (5, [.int 3, .int 6, .ref q2, .int 0])), (q2, .inl (cI w, 18, .inl (fun _ => 0))), (q3, .inr (5, [.int 3, .int 200, .ref q4, .int 0])), (q4, .inl (cI w, 600, .inl (fun _ => 0))), (q5, .inr (3, [.ref q6, .int 0])), (q6, .inl (cI w, 200, .inl (fun _ => 0)))]) rfl ?_
  refine gn_aload_n C dX7_init_67 rfl 0 rfl ?_
  refine gn_iconst C (v := 0) dX7_init_68 rfl ?_
  refine gn_put C (R := RX7) (T := TX7) (N := 11) (ci := 7) (f := 7) (v := .int 0) (ty := .int) tyX7 tyX7_ok nmX7 rfl hinX7 0 rfl (by decide) fl_X7_45 rfl (Or.inl rfl) rfl rfl rfl (Nat.le_of_ble_eq_true rfl) dX7_init_69 ?_
  refine gn_ws (ws' := [(b, .inr (7, [.ref q1, .ref q3, .ref q5, .null, .int 0, .int 0, .int 0, .int 0, .int 0, .int 0, .int 0])), (q1, .inr (5, [.int 3, .int 6, .ref q2, .int 0])), (q2, .inl (cI w, 18, .inl (fun _ => 0))), (q3, .inr (5, [.int 3, .int 200, .ref q4, .int 0])), (q4, .inl (cI w, 600, .inl (fun _ => 0))), (q5, .inr (3, [.ref q6, .int 0])), (q6, .inl (cI w, 200, .inl (fun _ => 0)))]) rfl ?_
  refine gn_aload_n C dX7_init_72 rfl 0 rfl ?_
  refine gn_iconst C (v := 0) dX7_init_73 rfl ?_
  refine gn_put C (R := RX7) (T := TX7) (N := 11) (ci := 7) (f := 8) (v := .int 0) (ty := .int) tyX7 tyX7_ok nmX7 rfl hinX7 0 rfl (by decide) fl_X7_48 rfl (Or.inl rfl) rfl rfl rfl (Nat.le_of_ble_eq_true rfl) dX7_init_74 ?_
  refine gn_ws (ws' := [(b, .inr (7, [.ref q1, .ref q3, .ref q5, .null, .int 0, .int 0, .int 0, .int 0, .int 0, .int 0, .int 0])), (q1, .inr (5, [.int 3, .int 6, .ref q2, .int 0])), (q2, .inl (cI w, 18, .inl (fun _ => 0))), (q3, .inr (5, [.int 3, .int 200, .ref q4, .int 0])), (q4, .inl (cI w, 600, .inl (fun _ => 0))), (q5, .inr (3, [.ref q6, .int 0])), (q6, .inl (cI w, 200, .inl (fun _ => 0)))]) rfl ?_
  refine gn_aload_n C dX7_init_77 rfl 0 rfl ?_
  refine gn_iconst C (v := 0) dX7_init_78 rfl ?_
  refine gn_put C (R := RX7) (T := TX7) (N := 11) (ci := 7) (f := 9) (v := .int 0) (ty := .int) tyX7 tyX7_ok nmX7 rfl hinX7 0 rfl (by decide) fl_X7_51 rfl (Or.inl rfl) rfl rfl rfl (Nat.le_of_ble_eq_true rfl) dX7_init_79 ?_
  refine gn_ws (ws' := [(b, .inr (7, [.ref q1, .ref q3, .ref q5, .null, .int 0, .int 0, .int 0, .int 0, .int 0, .int 0, .int 0])), (q1, .inr (5, [.int 3, .int 6, .ref q2, .int 0])), (q2, .inl (cI w, 18, .inl (fun _ => 0))), (q3, .inr (5, [.int 3, .int 200, .ref q4, .int 0])), (q4, .inl (cI w, 600, .inl (fun _ => 0))), (q5, .inr (3, [.ref q6, .int 0])), (q6, .inl (cI w, 200, .inl (fun _ => 0)))]) rfl ?_
  refine gn_aload_n C dX7_init_82 rfl 0 rfl ?_
  refine gn_iconst C (v := 0) dX7_init_83 rfl ?_
  refine gn_put C (R := RX7) (T := TX7) (N := 11) (ci := 7) (f := 10) (v := .int 0) (ty := .int) tyX7 tyX7_ok nmX7 rfl hinX7 0 rfl (by decide) fl_X7_54 rfl (Or.inl rfl) rfl rfl rfl (Nat.le_of_ble_eq_true rfl) dX7_init_84 ?_
  refine gn_ws (ws' := [(b, .inr (7, [.ref q1, .ref q3, .ref q5, .null, .int 0, .int 0, .int 0, .int 0, .int 0, .int 0, .int 0])), (q1, .inr (5, [.int 3, .int 6, .ref q2, .int 0])), (q2, .inl (cI w, 18, .inl (fun _ => 0))), (q3, .inr (5, [.int 3, .int 200, .ref q4, .int 0])), (q4, .inl (cI w, 600, .inl (fun _ => 0))), (q5, .inr (3, [.ref q6, .int 0])), (q6, .inl (cI w, 200, .inl (fun _ => 0)))]) rfl ?_
  exact gn_ret C dX7_init_87 ⟨q1, q2, q3, q4, q5, q6, rfl⟩
