set_option maxHeartbeats 4000000 in
set_option maxRecDepth 100000 in
theorem c_X2_begin (l : Launch) (N : Nat) (w : WX) (hS : SS w = Sc) (a2 : Int32) {s s' : Mem} (hf : f_X2_begin N a2 s = some ((), s')) : CV l yX2_begin (wz yX2_begin cX2_begin 5 none) ({ frames := 2, cells := 0, slots := 0, locals := 48 } : Room) [.ref (ad w 31), .ref (ad w 1), .int a2] w s s' := by
  refine met_startV (cc := cX2_begin) (ret := none) (own := RX2) (maxL := 5) (by decide) rfl (Nat.le_of_ble_eq_true rfl) (fun x C hR hl => ?_)
  have j67 : ∀ (k2 : Int32 → Int32 → Mem → Option (Unit × Mem)), (∀ (v2 : Int32) (v3 : Int32) (s : Mem), k2 v2 v3 s = some ((), s') → G x (QV x w s') 5 w 2 [(0, .ref (ad w 31)), (1, .ref (ad w 1)), (2, .int v2), (3, .int v3)] [] s) → ∀ (v2 : Int32) (v3 : Int32) (p0 : Int64) (p1 : Int32) (s : Mem), f_X2_begin_j67 N k2 v2 v3 p0 p1 s = some ((), s') → G x (QV x w s') 5 w 67 [(0, .ref (ad w 31)), (1, .ref (ad w 1)), (2, .int v2), (3, .int v3)] [.long p0, .int p1, .ref (ad w 32)] s := by
    intro k2 q2 v2 v3 p0 p1 s hf
    unfold f_X2_begin_j67 at hf
    refine g_last C kd_32 ln_32 (in_32 hS) dX2_begin_67 hf (fun hf => ?_)
    refine g_nameS hf (fun s1 hf => ?_)
    refine g_iinc (v' := v3 + 1) (lv' := [(3, .int (v3 + 1)), (0, .ref (ad w 31)), (1, .ref (ad w 1)), (2, .int v2)]) C dX2_begin_68 3 rfl rfl (by decide) rfl ?_
    refine g_goto (tgt := 2) C dX2_begin_71 (by decide) ?_
    refine g_sub [1, 2, 3, 0] rfl ?_
    exact q2 _ _ _ hf
  have j33 : ∀ (k2 : Int32 → Int32 → Mem → Option (Unit × Mem)), (∀ (v2 : Int32) (v3 : Int32) (s : Mem), k2 v2 v3 s = some ((), s') → G x (QV x w s') 5 w 2 [(0, .ref (ad w 31)), (1, .ref (ad w 1)), (2, .int v2), (3, .int v3)] [] s) → ∀ (v2 : Int32) (v3 : Int32) (p0 : Bool) (s : Mem), f_X2_begin_j33 N k2 v2 v3 p0 s = some ((), s') → G x (QV x w s') 5 w 33 [(0, .ref (ad w 31)), (1, .ref (ad w 1)), (2, .int v2), (3, .int v3)] [.int (bI p0)] s := by
    intro k2 q2 v2 v3 p0 s hf
    unfold f_X2_begin_j33 at hf
    refine g_istore (lv' := [(4, .int (bI p0)), (0, .ref (ad w 31)), (1, .ref (ad w 1)), (2, .int v2), (3, .int v3)]) C dX2_begin_33 (by decide) rfl ?_
    refine g_aload_n C dX2_begin_35 rfl 1 rfl ?_
    refine g_get C (R := RX2) (T := TX2) (N := 4) (k := 0) (v := .ref (ad w 32)) kd_31 (by decide) rfl (in_31 hS) hinX2 (by decide) fl_X2_9 rfl rfl dX2_begin_36 ?_
    refine g_iload_n C dX2_begin_39 rfl 4 rfl ?_
    refine g_iload C dX2_begin_40 0 rfl ?_
    refine g_ifeqB (tgt := 49) C dX2_begin_42 (by decide) hf (fun hf => ?_) (fun hf => ?_)
    · refine g_aload_n C dX2_begin_49 rfl 2 rfl ?_
      refine g_get C (R := RX0) (T := TX0) (N := 8) (k := 2) (v := .ref (ad w 6)) kd_1 (by decide) rfl (in_1 hS) hinX0 (by decide) fl_X2_57 rfl rfl dX2_begin_50 ?_
      refine g_aload_n C dX2_begin_53 rfl 1 rfl ?_
      refine g_get C (R := RX2) (T := TX2) (N := 4) (k := 1) (v := .int (rI s 31 1)) kd_31 (by decide) rfl (in_31 hS) hinX2 (by decide) fl_X2_15 rfl rfl dX2_begin_54 ?_
      refine g_iload_n C dX2_begin_57 rfl 4 rfl ?_
      refine g_isub C dX2_begin_58 ?_
      refine g_bipush C (v := 10) dX2_begin_59 (by decide) ?_
      refine g_idivK C dX2_begin_61 (by decide) ?_
      refine g_iconst C (v := 0) dX2_begin_62 rfl ?_
      refine g_callVI C (R := RX5) (T := TX5) (N := 4) [.int (((rI s 31 1) - v3) / 10), .int 0] (fun _ _ h => c_X5_get (kl x) N w (ok_6 hS) _ _ h) (g_cwV C hR ml_X2_60 im_X5_get sl_X5_get ini_X5 cd_X5_get hd_X5_get (by decide)) kd_6 (by decide) rfl (in_6 hS) rfl _ rfl (Nat.le_of_ble_eq_true rfl) dX2_begin_63 hf (fun r1 s1 hf => ?_)
      refine g_i2l C dX2_begin_66 ?_
      refine g_sub [1, 2, 3, 4] rfl ?_
      exact j67 k2 q2 _ _ _ _ _ hf
    · refine g_lconst C (v := 0) dX2_begin_45 rfl ?_
      refine g_goto (tgt := 67) C dX2_begin_46 (by decide) ?_
      refine g_sub [1, 2, 3, 4] rfl ?_
      exact j67 k2 q2 _ _ _ _ _ hf
  have j28 : ∀ (k2 : Int32 → Int32 → Mem → Option (Unit × Mem)), (∀ (v2 : Int32) (v3 : Int32) (s : Mem), k2 v2 v3 s = some ((), s') → G x (QV x w s') 5 w 2 [(0, .ref (ad w 31)), (1, .ref (ad w 1)), (2, .int v2), (3, .int v3)] [] s) → ∀ (v2 : Int32) (v3 : Int32) (s : Mem), f_X2_begin_j28 N k2 v2 v3 s = some ((), s') → G x (QV x w s') 5 w 28 [(0, .ref (ad w 31)), (1, .ref (ad w 1)), (2, .int v2), (3, .int v3)] [] s := by
    intro k2 q2 v2 v3 s hf
    unfold f_X2_begin_j28 at hf
    refine g_iconst C (v := 1) dX2_begin_28 rfl ?_
    refine g_goto (tgt := 33) C dX2_begin_29 (by decide) ?_
    exact j33 k2 q2 _ _ _ _ hf
  have j2 : ∀ (n : Nat), ∀ (v2 : Int32) (v3 : Int32) (s : Mem), f_X2_begin_L2 N n v2 v3 s = some ((), s') → G x (QV x w s') 5 w 2 [(0, .ref (ad w 31)), (1, .ref (ad w 1)), (2, .int v2), (3, .int v3)] [] s := by
    intro n
    induction n with
    | zero => intro v2 v3 s hf; cases hf
    | succ n ih =>
      intro v2 v3 s hf
      unfold f_X2_begin_L2 at hf
      refine g_iload_n C dX2_begin_2 rfl 3 rfl ?_
      refine g_aload_n C dX2_begin_3 rfl 0 rfl ?_
      refine g_get C (R := RX2) (T := TX2) (N := 4) (k := 0) (v := .ref (ad w 32)) kd_31 (by decide) rfl (in_31 hS) hinX2 (by decide) fl_X2_9 rfl rfl dX2_begin_4 ?_
      refine g_alenJ C (v := 161) kd_32 ln_32 (in_32 hS) rfl dX2_begin_7 ?_
      refine g_icmp_ge (tgt := 74) C dX2_begin_8 (by decide) hf (fun hf => ?_) (fun hf => ?_)
      · exact g_vret C dX2_begin_74 hf
      · refine g_iload_n C dX2_begin_11 rfl 3 rfl ?_
        refine g_aload_n C dX2_begin_12 rfl 0 rfl ?_
        refine g_get C (R := RX2) (T := TX2) (N := 4) (k := 1) (v := .int (rI s 31 1)) kd_31 (by decide) rfl (in_31 hS) hinX2 (by decide) fl_X2_15 rfl rfl dX2_begin_13 ?_
        refine g_icmp_gt (tgt := 28) C dX2_begin_16 (by decide) hf (fun hf => ?_) (fun hf => ?_)
        · exact j28 (f_X2_begin_L2 N n) ih _ _ _ hf
        · refine g_aload_n C dX2_begin_19 rfl 1 rfl ?_
          refine g_iload_n C dX2_begin_20 rfl 2 rfl ?_
          refine g_iload_n C dX2_begin_21 rfl 3 rfl ?_
          refine g_callVB C (R := RX0) (T := TX0) (N := 8) [.int v2, .int v3] (fun _ _ h => c_X0_isLeftOut (kl x) N w hS _ _ h) (g_cwV C hR ml_X2_54 im_X0_isLeftOut sl_X0_isLeftOut ini_X0 cd_X0_isLeftOut hd_X0_isLeftOut (by decide)) kd_1 (by decide) rfl (in_1 hS) rfl _ rfl (Nat.le_of_ble_eq_true rfl) dX2_begin_22 hf (fun r1 s1 hf => ?_)
          refine g_ifeqB (tgt := 32) C dX2_begin_25 (by decide) hf (fun hf => ?_) (fun hf => ?_)
          · refine g_iconst C (v := 0) dX2_begin_32 rfl ?_
            exact j33 (f_X2_begin_L2 N n) ih _ _ _ _ hf
          · exact j28 (f_X2_begin_L2 N n) ih _ _ _ hf
  refine g_lv (lv' := [(0, .ref (ad w 31)), (1, .ref (ad w 1)), (2, .int a2)]) rfl ?_
  unfold f_X2_begin at hf
  refine g_iconst C (v := 0) dX2_begin_0 rfl ?_
  refine g_istore_n (lv' := [(3, .int 0), (0, .ref (ad w 31)), (1, .ref (ad w 1)), (2, .int a2)]) C dX2_begin_1 rfl (by decide) rfl ?_
  refine g_sub [1, 2, 3, 0] rfl ?_
  exact j2 N _ _ _ hf

set_option maxHeartbeats 4000000 in
set_option maxRecDepth 100000 in
theorem c_X2_take (l : Launch) (N : Nat) (w : WX) (hS : SS w = Sc) (a2 : Int32) {s s' : Mem} (hf : f_X2_take N a2 s = some ((), s')) : CV l yX2_take (wz yX2_take cX2_take 5 none) ({ frames := 2, cells := 0, slots := 0, locals := 47 } : Room) [.ref (ad w 31), .ref (ad w 1), .int a2] w s s' := by
  refine met_startV (cc := cX2_take) (ret := none) (own := RX2) (maxL := 5) (by decide) rfl (Nat.le_of_ble_eq_true rfl) (fun x C hR hl => ?_)
  have j68 : ∀ (k13 : Int32 → Int32 → Int32 → Mem → Option (Unit × Mem)), (∀ (v2 : Int32) (v3 : Int32) (v4 : Int32) (s : Mem), k13 v2 v3 v4 s = some ((), s') → G x (QV x w s') 5 w 13 [(0, .ref (ad w 31)), (1, .ref (ad w 1)), (2, .int v2), (3, .int v3), (4, .int v4)] [] s) → ∀ (v2 : Int32) (v3 : Int32) (v4 : Int32) (s : Mem), f_X2_take_j68 N k13 v2 v3 v4 s = some ((), s') → G x (QV x w s') 5 w 68 [(0, .ref (ad w 31)), (1, .ref (ad w 1)), (2, .int v2), (3, .int v3), (4, .int v4)] [] s := by
    intro k13 q13 v2 v3 v4 s hf
    unfold f_X2_take_j68 at hf
    refine g_iinc (v' := v4 + 1) (lv' := [(4, .int (v4 + 1)), (0, .ref (ad w 31)), (1, .ref (ad w 1)), (2, .int v2), (3, .int v3)]) C dX2_take_68 4 rfl rfl (by decide) rfl ?_
    refine g_goto (tgt := 13) C dX2_take_71 (by decide) ?_
    refine g_sub [1, 2, 3, 4, 0] rfl ?_
    exact q13 _ _ _ _ hf
  have j66 : ∀ (k13 : Int32 → Int32 → Int32 → Mem → Option (Unit × Mem)), (∀ (v2 : Int32) (v3 : Int32) (v4 : Int32) (s : Mem), k13 v2 v3 v4 s = some ((), s') → G x (QV x w s') 5 w 13 [(0, .ref (ad w 31)), (1, .ref (ad w 1)), (2, .int v2), (3, .int v3), (4, .int v4)] [] s) → ∀ (v2 : Int32) (v3 : Int32) (v4 : Int32) (p0 : Int64) (p1 : Int64) (p2 : Int32) (s : Mem), f_X2_take_j66 N k13 v2 v3 v4 p0 p1 p2 s = some ((), s') → G x (QV x w s') 5 w 66 [(0, .ref (ad w 31)), (1, .ref (ad w 1)), (2, .int v2), (3, .int v3), (4, .int v4)] [.long p0, .long p1, .int p2, .ref (ad w 32)] s := by
    intro k13 q13 v2 v3 v4 p0 p1 p2 s hf
    unfold f_X2_take_j66 at hf
    refine g_lmul C dX2_take_66 ?_
    refine g_last C kd_32 ln_32 (in_32 hS) dX2_take_67 hf (fun hf => ?_)
    refine g_nameS hf (fun s1 hf => ?_)
    exact j68 k13 q13 _ _ _ _ hf
  have j13 : ∀ (n : Nat), ∀ (v2 : Int32) (v3 : Int32) (v4 : Int32) (s : Mem), f_X2_take_L13 N n v2 v3 v4 s = some ((), s') → G x (QV x w s') 5 w 13 [(0, .ref (ad w 31)), (1, .ref (ad w 1)), (2, .int v2), (3, .int v3), (4, .int v4)] [] s := by
    intro n
    induction n with
    | zero => intro v2 v3 v4 s hf; cases hf
    | succ n ih =>
      intro v2 v3 v4 s hf
      unfold f_X2_take_L13 at hf
      refine g_iload C dX2_take_13 4 rfl ?_
      refine g_aload_n C dX2_take_15 rfl 0 rfl ?_
      refine g_get C (R := RX2) (T := TX2) (N := 4) (k := 0) (v := .ref (ad w 32)) kd_31 (by decide) rfl (in_31 hS) hinX2 (by decide) fl_X2_9 rfl rfl dX2_take_16 ?_
      refine g_alenJ C (v := 161) kd_32 ln_32 (in_32 hS) rfl dX2_take_19 ?_
      refine g_icmp_ge (tgt := 74) C dX2_take_20 (by decide) hf (fun hf => ?_) (fun hf => ?_)
      · exact g_vret C dX2_take_74 hf
      · refine g_aload_n C dX2_take_23 rfl 0 rfl ?_
        refine g_get C (R := RX2) (T := TX2) (N := 4) (k := 0) (v := .ref (ad w 32)) kd_31 (by decide) rfl (in_31 hS) hinX2 (by decide) fl_X2_9 rfl rfl dX2_take_24 ?_
        refine g_iload C dX2_take_27 4 rfl ?_
        refine g_lald C kd_32 ln_32 (in_32 hS) dX2_take_29 hf (fun hf => ?_)
        refine g_lconst C (v := 0) dX2_take_30 rfl ?_
        refine g_lcmp_ne (tgt := 38) C dX2_take_31 dX2_take_32 (by decide) hf (fun hf => ?_) (fun hf => ?_)
        · refine g_aload_n C dX2_take_38 rfl 0 rfl ?_
          refine g_get C (R := RX2) (T := TX2) (N := 4) (k := 0) (v := .ref (ad w 32)) kd_31 (by decide) rfl (in_31 hS) hinX2 (by decide) fl_X2_9 rfl rfl dX2_take_39 ?_
          refine g_iload C dX2_take_42 4 rfl ?_
          refine g_dup2 C dX2_take_44 rfl rfl ?_
          refine g_lald C kd_32 ln_32 (in_32 hS) dX2_take_45 hf (fun hf => ?_)
          refine g_aload_n C dX2_take_46 rfl 1 rfl ?_
          refine g_iload_n C dX2_take_47 rfl 2 rfl ?_
          refine g_iload C dX2_take_48 4 rfl ?_
          refine g_callVB C (R := RX0) (T := TX0) (N := 8) [.int v2, .int v4] (fun _ _ h => c_X0_isInSpan (kl x) N w hS _ _ h) (g_cwV C hR ml_X2_64 im_X0_isInSpan sl_X0_isInSpan ini_X0 cd_X0_isInSpan hd_X0_isInSpan (by decide)) kd_1 (by decide) rfl (in_1 hS) rfl _ rfl (Nat.le_of_ble_eq_true rfl) dX2_take_50 hf (fun r1 s1 hf => ?_)
          refine g_ifeqB (tgt := 64) C dX2_take_53 (by decide) hf (fun hf => ?_) (fun hf => ?_)
          · refine g_iload_n C dX2_take_64 rfl 3 rfl ?_
            refine g_i2l C dX2_take_65 ?_
            exact j66 (f_X2_take_L13 N n) ih _ _ _ _ _ _ _ hf
          · refine g_bipush C (v := 100) dX2_take_56 (by decide) ?_
            refine g_iload_n C dX2_take_58 rfl 3 rfl ?_
            refine g_isub C dX2_take_59 ?_
            refine g_i2l C dX2_take_60 ?_
            refine g_goto (tgt := 66) C dX2_take_61 (by decide) ?_
            exact j66 (f_X2_take_L13 N n) ih _ _ _ _ _ _ _ hf
        · refine g_goto (tgt := 68) C dX2_take_35 (by decide) ?_
          exact j68 (f_X2_take_L13 N n) ih _ _ _ _ hf
  refine g_lv (lv' := [(0, .ref (ad w 31)), (1, .ref (ad w 1)), (2, .int a2)]) rfl ?_
  unfold f_X2_take at hf
  refine g_aload_n C dX2_take_0 rfl 1 rfl ?_
  refine g_get C (R := RX0) (T := TX0) (N := 8) (k := 1) (v := .ref (ad w 4)) kd_1 (by decide) rfl (in_1 hS) hinX0 (by decide) fl_X2_35 rfl rfl dX2_take_1 ?_
  refine g_iload_n C dX2_take_4 rfl 2 rfl ?_
  refine g_iconst C (v := 4) dX2_take_5 rfl ?_
  refine g_callVI C (R := RX5) (T := TX5) (N := 4) [.int a2, .int 4] (fun _ _ h => c_X5_get (kl x) N w (ok_4 hS) _ _ h) (g_cwV C hR ml_X2_60 im_X5_get sl_X5_get ini_X5 cd_X5_get hd_X5_get (by decide)) kd_4 (by decide) rfl (in_4 hS) rfl _ rfl (Nat.le_of_ble_eq_true rfl) dX2_take_6 hf (fun r1 s1 hf => ?_)
  refine g_istore_n (lv' := [(3, .int r1), (0, .ref (ad w 31)), (1, .ref (ad w 1)), (2, .int a2)]) C dX2_take_9 rfl (by decide) rfl ?_
  refine g_iconst C (v := 0) dX2_take_10 rfl ?_
  refine g_istore (lv' := [(4, .int 0), (3, .int r1), (0, .ref (ad w 31)), (1, .ref (ad w 1)), (2, .int a2)]) C dX2_take_11 (by decide) rfl ?_
  refine g_sub [2, 3, 4, 1, 0] rfl ?_
  exact j13 N _ _ _ _ hf

set_option maxHeartbeats 4000000 in
set_option maxRecDepth 100000 in
theorem c_X2_sum (l : Launch) (N : Nat) (w : WX) (hS : SS w = Sc) {s s' : Mem} (hf : f_X2_sum N s = some ((), s')) : CV l yX2_sum (wz yX2_sum cX2_sum 4 none) ({ frames := 0, cells := 0, slots := 0, locals := 0 } : Room) [.ref (ad w 31)] w s s' := by
  refine met_startV (cc := cX2_sum) (ret := none) (own := RX2) (maxL := 4) (by decide) rfl (Nat.le_of_ble_eq_true rfl) (fun x C hR hl => ?_)
  have j62 : ∀ (k15 : Int64 → Int32 → Mem → Option (Unit × Mem)), (∀ (v1 : Int64) (v3 : Int32) (s : Mem), k15 v1 v3 s = some ((), s') → G x (QV x w s') 4 w 15 [(0, .ref (ad w 31)), (1, .long v1), (3, .int v3)] [] s) → ∀ (v1 : Int64) (v3 : Int32) (s : Mem), f_X2_sum_j62 N k15 v1 v3 s = some ((), s') → G x (QV x w s') 4 w 62 [(0, .ref (ad w 31)), (1, .long v1), (3, .int v3)] [] s := by
    intro k15 q15 v1 v3 s hf
    unfold f_X2_sum_j62 at hf
    refine g_iinc (v' := v3 + 1) (lv' := [(3, .int (v3 + 1)), (0, .ref (ad w 31)), (1, .long v1)]) C dX2_sum_62 2 rfl rfl (by decide) rfl ?_
    refine g_goto (tgt := 15) C dX2_sum_65 (by decide) ?_
    refine g_sub [1, 2, 0] rfl ?_
    exact q15 _ _ _ hf
  have j15 : ∀ (n : Nat), ∀ (v1 : Int64) (v3 : Int32) (s : Mem), f_X2_sum_L15 N n v1 v3 s = some ((), s') → G x (QV x w s') 4 w 15 [(0, .ref (ad w 31)), (1, .long v1), (3, .int v3)] [] s := by
    intro n
    induction n with
    | zero => intro v1 v3 s hf; cases hf
    | succ n ih =>
      intro v1 v3 s hf
      unfold f_X2_sum_L15 at hf
      refine g_iload_n C dX2_sum_15 rfl 2 rfl ?_
      refine g_aload_n C dX2_sum_16 rfl 0 rfl ?_
      refine g_get C (R := RX2) (T := TX2) (N := 4) (k := 0) (v := .ref (ad w 32)) kd_31 (by decide) rfl (in_31 hS) hinX2 (by decide) fl_X2_9 rfl rfl dX2_sum_17 ?_
      refine g_alenJ C (v := 161) kd_32 ln_32 (in_32 hS) rfl dX2_sum_20 ?_
      refine g_icmp_ge (tgt := 68) C dX2_sum_21 (by decide) hf (fun hf => ?_) (fun hf => ?_)
      · exact g_vret C dX2_sum_68 hf
      · refine g_aload_n C dX2_sum_24 rfl 0 rfl ?_
        refine g_dup C dX2_sum_25 rfl ?_
        refine g_get C (R := RX2) (T := TX2) (N := 4) (k := 2) (v := .long (rL s 31 2)) kd_31 (by decide) rfl (in_31 hS) hinX2 (by decide) fl_X2_19 rfl rfl dX2_sum_26 ?_
        refine g_aload_n C dX2_sum_29 rfl 0 rfl ?_
        refine g_get C (R := RX2) (T := TX2) (N := 4) (k := 0) (v := .ref (ad w 32)) kd_31 (by decide) rfl (in_31 hS) hinX2 (by decide) fl_X2_9 rfl rfl dX2_sum_30 ?_
        refine g_iload_n C dX2_sum_33 rfl 2 rfl ?_
        refine g_lald C kd_32 ln_32 (in_32 hS) dX2_sum_34 hf (fun hf => ?_)
        refine g_ladd C dX2_sum_35 ?_
        refine g_putL C (R := RX2) (T := TX2) (N := 4) (k := 2) tyX2 tyX2_ok nmX2 kd_31 (by decide) rfl (in_31 hS) hinX2 (by decide) fl_X2_19 rfl rfl rfl (Nat.le_of_ble_eq_true rfl) fs_2_2 dX2_sum_36 ?_
        refine g_nameS hf (fun s1 hf => ?_)
        refine g_aload_n C dX2_sum_39 rfl 0 rfl ?_
        refine g_get C (R := RX2) (T := TX2) (N := 4) (k := 0) (v := .ref (ad w 32)) kd_31 (by decide) rfl (in_31 hS) hinX2 (by decide) fl_X2_9 rfl rfl dX2_sum_40 ?_
        refine g_iload_n C dX2_sum_43 rfl 2 rfl ?_
        refine g_lald C kd_32 ln_32 (in_32 hS) dX2_sum_44 hf (fun hf => ?_)
        refine g_lload_n C dX2_sum_45 rfl 1 rfl ?_
        refine g_lcmp_le (tgt := 62) C dX2_sum_46 dX2_sum_47 (by decide) hf (fun hf => ?_) (fun hf => ?_)
        · exact j62 (f_X2_sum_L15 N n) ih _ _ _ hf
        · refine g_aload_n C dX2_sum_50 rfl 0 rfl ?_
          refine g_get C (R := RX2) (T := TX2) (N := 4) (k := 0) (v := .ref (ad w 32)) kd_31 (by decide) rfl (in_31 hS) hinX2 (by decide) fl_X2_9 rfl rfl dX2_sum_51 ?_
          refine g_iload_n C dX2_sum_54 rfl 2 rfl ?_
          refine g_lald C kd_32 ln_32 (in_32 hS) dX2_sum_55 hf (fun hf => ?_)
          refine g_lstore_n (lv' := [(1, .long (rL s1 32 v3.toNatClampNeg)), (0, .ref (ad w 31)), (3, .int v3)]) C dX2_sum_56 rfl (by decide) rfl ?_
          refine g_aload_n C dX2_sum_57 rfl 1 rfl ?_
          refine g_iload_n C dX2_sum_58 rfl 2 rfl ?_
          refine g_putI C (R := RX2) (T := TX2) (N := 4) (k := 3) (ty := .int) tyX2 tyX2_ok nmX2 kd_31 (by decide) rfl (in_31 hS) hinX2 (by decide) fl_X2_23 rfl rfl rfl rfl rfl (Nat.le_of_ble_eq_true rfl) fs_2_3 dX2_sum_59 ?_
          refine g_nameS hf (fun s2 hf => ?_)
          refine g_sub [1, 0, 2] rfl ?_
          exact j62 (f_X2_sum_L15 N n) ih _ _ _ hf
  refine g_lv (lv' := [(0, .ref (ad w 31))]) rfl ?_
  unfold f_X2_sum at hf
  refine g_aload_n C dX2_sum_0 rfl 0 rfl ?_
  refine g_lconst C (v := 0) dX2_sum_1 rfl ?_
  refine g_putL C (R := RX2) (T := TX2) (N := 4) (k := 2) tyX2 tyX2_ok nmX2 kd_31 (by decide) rfl (in_31 hS) hinX2 (by decide) fl_X2_19 rfl rfl rfl (Nat.le_of_ble_eq_true rfl) fs_2_2 dX2_sum_2 ?_
  refine g_nameS hf (fun s1 hf => ?_)
  refine g_aload_n C dX2_sum_5 rfl 0 rfl ?_
  refine g_bipush C (v := (-3)) dX2_sum_6 (by decide) ?_
  refine g_putI C (R := RX2) (T := TX2) (N := 4) (k := 3) (ty := .int) tyX2 tyX2_ok nmX2 kd_31 (by decide) rfl (in_31 hS) hinX2 (by decide) fl_X2_23 rfl rfl rfl rfl rfl (Nat.le_of_ble_eq_true rfl) fs_2_3 dX2_sum_8 ?_
  refine g_nameS hf (fun s2 hf => ?_)
  refine g_lconst C (v := 0) dX2_sum_11 rfl ?_
  refine g_lstore_n (lv' := [(1, .long 0), (0, .ref (ad w 31))]) C dX2_sum_12 rfl (by decide) rfl ?_
  refine g_iconst C (v := 0) dX2_sum_13 rfl ?_
  refine g_istore_n (lv' := [(3, .int 0), (1, .long 0), (0, .ref (ad w 31))]) C dX2_sum_14 rfl (by decide) rfl ?_
  refine g_sub [2, 1, 0] rfl ?_
  exact j15 N _ _ _ hf

set_option maxHeartbeats 4000000 in
set_option maxRecDepth 100000 in
theorem c_X2_weigh (l : Launch) (N : Nat) (w : WX) (hS : SS w = Sc) (a2 : Int32) {s s' : Mem} (hf : f_X2_weigh N a2 s = some ((), s')) : CV l yX2_weigh (wz yX2_weigh cX2_weigh 4 none) ({ frames := 3, cells := 0, slots := 0, locals := 72 } : Room) [.ref (ad w 31), .ref (ad w 1), .int a2] w s s' := by
  refine met_startV (cc := cX2_weigh) (ret := none) (own := RX2) (maxL := 4) (by decide) rfl (Nat.le_of_ble_eq_true rfl) (fun x C hR hl => ?_)
  have j49 : ∀ (s : Mem), f_X2_weigh_j49 N s = some ((), s') → G x (QV x w s') 4 w 49 [(0, .ref (ad w 31))] [] s := by
    intro s hf
    unfold f_X2_weigh_j49 at hf
    refine g_aload_n C dX2_weigh_49 rfl 0 rfl ?_
    refine g_callVV C (R := RX2) (T := TX2) (N := 4) [] (fun _ h => c_X2_sum (kl x) N w hS h) (g_cwV C hR ml_X2_51 im_X2_sum sl_X2_sum ini_X2 cd_X2_sum hd_X2_sum (by decide)) kd_31 (by decide) rfl (in_31 hS) rfl _ rfl (Nat.le_of_ble_eq_true rfl) dX2_weigh_50 hf (fun s1 hf => ?_)
    exact g_vret C dX2_weigh_53 hf
  have j43 : ∀ (k17 : Int32 → Int32 → Mem → Option (Unit × Mem)) (k49 : Mem → Option (Unit × Mem)), (∀ (v2 : Int32) (v3 : Int32) (s : Mem), k17 v2 v3 s = some ((), s') → G x (QV x w s') 4 w 17 [(0, .ref (ad w 31)), (1, .ref (ad w 1)), (2, .int v2), (3, .int v3)] [] s) → (∀ (s : Mem), k49 s = some ((), s') → G x (QV x w s') 4 w 49 [(0, .ref (ad w 31))] [] s) → ∀ (v2 : Int32) (v3 : Int32) (s : Mem), f_X2_weigh_j43 N k17 k49 v2 v3 s = some ((), s') → G x (QV x w s') 4 w 43 [(0, .ref (ad w 31)), (1, .ref (ad w 1)), (2, .int v2), (3, .int v3)] [] s := by
    intro k17 k49 q17 q49 v2 v3 s hf
    unfold f_X2_weigh_j43 at hf
    refine g_iinc (v' := v3 + 1) (lv' := [(3, .int (v3 + 1)), (0, .ref (ad w 31)), (1, .ref (ad w 1)), (2, .int v2)]) C dX2_weigh_43 3 rfl rfl (by decide) rfl ?_
    refine g_goto (tgt := 17) C dX2_weigh_46 (by decide) ?_
    refine g_sub [1, 2, 3, 0] rfl ?_
    exact q17 _ _ _ hf
  have j17 : ∀ (k49 : Mem → Option (Unit × Mem)), (∀ (s : Mem), k49 s = some ((), s') → G x (QV x w s') 4 w 49 [(0, .ref (ad w 31))] [] s) → ∀ (n : Nat), ∀ (v2 : Int32) (v3 : Int32) (s : Mem), f_X2_weigh_L17 N k49 n v2 v3 s = some ((), s') → G x (QV x w s') 4 w 17 [(0, .ref (ad w 31)), (1, .ref (ad w 1)), (2, .int v2), (3, .int v3)] [] s := by
    intro k49 q49 n
    induction n with
    | zero => intro v2 v3 s hf; cases hf
    | succ n ih =>
      intro v2 v3 s hf
      unfold f_X2_weigh_L17 at hf
      refine g_iload_n C dX2_weigh_17 rfl 3 rfl ?_
      refine g_aload_n C dX2_weigh_18 rfl 1 rfl ?_
      refine g_get C (R := RX0) (T := TX0) (N := 8) (k := 1) (v := .ref (ad w 4)) kd_1 (by decide) rfl (in_1 hS) hinX0 (by decide) fl_X2_35 rfl rfl dX2_weigh_19 ?_
      refine g_get C (R := RX5) (T := TX5) (N := 4) (k := 3) (v := .int (rI s 4 3)) kd_4 (by decide) rfl (in_4 hS) hinX5 (by decide) fl_X2_39 rfl rfl dX2_weigh_22 ?_
      refine g_icmp_ge (tgt := 49) C dX2_weigh_25 (by decide) hf (fun hf => ?_) (fun hf => ?_)
      · refine g_sub [0] rfl ?_
        exact q49 _ hf
      · refine g_aload_n C dX2_weigh_28 rfl 1 rfl ?_
        refine g_iload_n C dX2_weigh_29 rfl 3 rfl ?_
        refine g_iload_n C dX2_weigh_30 rfl 2 rfl ?_
        refine g_callVB C (R := RX0) (T := TX0) (N := 8) [.int v3, .int v2] (fun _ _ h => c_X0_isOf (kl x) N w hS _ _ h) (g_cwV C hR ml_X2_44 im_X0_isOf sl_X0_isOf ini_X0 cd_X0_isOf hd_X0_isOf (by decide)) kd_1 (by decide) rfl (in_1 hS) rfl _ rfl (Nat.le_of_ble_eq_true rfl) dX2_weigh_31 hf (fun r1 s1 hf => ?_)
        refine g_ifeqB (tgt := 43) C dX2_weigh_34 (by decide) hf (fun hf => ?_) (fun hf => ?_)
        · exact j43 (f_X2_weigh_L17 N k49 n) k49 ih q49 _ _ _ hf
        · refine g_aload_n C dX2_weigh_37 rfl 0 rfl ?_
          refine g_aload_n C dX2_weigh_38 rfl 1 rfl ?_
          refine g_iload_n C dX2_weigh_39 rfl 3 rfl ?_
          refine g_callVV C (R := RX2) (T := TX2) (N := 4) [.ref (ad w 1), .int v3] (fun _ h => c_X2_take (kl x) N w hS _ h) (g_cwV C hR ml_X2_48 im_X2_take sl_X2_take ini_X2 cd_X2_take hd_X2_take (by decide)) kd_31 (by decide) rfl (in_31 hS) rfl _ rfl (Nat.le_of_ble_eq_true rfl) dX2_weigh_40 hf (fun s2 hf => ?_)
          exact j43 (f_X2_weigh_L17 N k49 n) k49 ih q49 _ _ _ hf
  refine g_lv (lv' := [(0, .ref (ad w 31)), (1, .ref (ad w 1)), (2, .int a2)]) rfl ?_
  unfold f_X2_weigh at hf
  refine g_aload_n C dX2_weigh_0 rfl 0 rfl ?_
  refine g_aload_n C dX2_weigh_1 rfl 1 rfl ?_
  refine g_iload_n C dX2_weigh_2 rfl 2 rfl ?_
  refine g_callVI C (R := RX0) (T := TX0) (N := 8) [.int a2] (fun _ _ h => c_X0_seen (kl x) N w hS _ h) (g_cwV C hR ml_X2_26 im_X0_seen sl_X0_seen ini_X0 cd_X0_seen hd_X0_seen (by decide)) kd_1 (by decide) rfl (in_1 hS) rfl _ rfl (Nat.le_of_ble_eq_true rfl) dX2_weigh_3 hf (fun r1 s1 hf => ?_)
  refine g_putI C (R := RX2) (T := TX2) (N := 4) (k := 1) (ty := .int) tyX2 tyX2_ok nmX2 kd_31 (by decide) rfl (in_31 hS) hinX2 (by decide) fl_X2_15 rfl rfl rfl rfl rfl (Nat.le_of_ble_eq_true rfl) fs_2_1 dX2_weigh_6 ?_
  refine g_nameS hf (fun s2 hf => ?_)
  refine g_aload_n C dX2_weigh_9 rfl 0 rfl ?_
  refine g_aload_n C dX2_weigh_10 rfl 1 rfl ?_
  refine g_iload_n C dX2_weigh_11 rfl 2 rfl ?_
  refine g_callVV C (R := RX2) (T := TX2) (N := 4) [.ref (ad w 1), .int a2] (fun _ h => c_X2_begin (kl x) N w hS _ h) (g_cwV C hR ml_X2_31 im_X2_begin sl_X2_begin ini_X2 cd_X2_begin hd_X2_begin (by decide)) kd_31 (by decide) rfl (in_31 hS) rfl _ rfl (Nat.le_of_ble_eq_true rfl) dX2_weigh_12 hf (fun s3 hf => ?_)
  refine g_iconst C (v := 0) dX2_weigh_15 rfl ?_
  refine g_istore_n (lv' := [(3, .int 0), (0, .ref (ad w 31)), (1, .ref (ad w 1)), (2, .int a2)]) C dX2_weigh_16 rfl (by decide) rfl ?_
  refine g_sub [1, 2, 3, 0] rfl ?_
  exact j17 (f_X2_weigh_j49 N) j49 N _ _ _ hf

set_option maxHeartbeats 4000000 in
set_option maxRecDepth 100000 in
theorem c_X1_learn (l : Launch) (N : Nat) (w : WX) (hS : SS w = Sc) (a3 : Int32) {s s' : Mem} (hf : f_X1_learn N a3 s = some ((), s')) : CV l yX1_learn (wz yX1_learn cX1_learn 6 none) ({ frames := 3, cells := 0, slots := 0, locals := 70 } : Room) [.ref (ad w 33), .ref (ad w 1), .ref (ad w 31), .int a3] w s s' := by
  refine met_startV (cc := cX1_learn) (ret := none) (own := RX1) (maxL := 6) (by decide) rfl (Nat.le_of_ble_eq_true rfl) (fun x C hR hl => ?_)
  have j105 : ∀ (k51 : Int32 → Int32 → Mem → Option (Unit × Mem)), (∀ (v3 : Int32) (v5 : Int32) (s : Mem), k51 v3 v5 s = some ((), s') → G x (QV x w s') 6 w 51 [(0, .ref (ad w 33)), (1, .ref (ad w 1)), (2, .ref (ad w 31)), (3, .int v3), (5, .int v5)] [] s) → ∀ (v3 : Int32) (v5 : Int32) (s : Mem), f_X1_learn_j105 N k51 v3 v5 s = some ((), s') → G x (QV x w s') 6 w 105 [(0, .ref (ad w 33)), (1, .ref (ad w 1)), (2, .ref (ad w 31)), (3, .int v3), (5, .int v5)] [] s := by
    intro k51 q51 v3 v5 s hf
    unfold f_X1_learn_j105 at hf
    refine g_iinc (v' := v5 + 1) (lv' := [(5, .int (v5 + 1)), (0, .ref (ad w 33)), (1, .ref (ad w 1)), (2, .ref (ad w 31)), (3, .int v3)]) C dX1_learn_105 4 rfl rfl (by decide) rfl ?_
    refine g_goto (tgt := 51) C dX1_learn_108 (by decide) ?_
    refine g_sub [1, 2, 3, 4, 0] rfl ?_
    exact q51 _ _ _ hf
  have j51 : ∀ (n : Nat), ∀ (v3 : Int32) (v5 : Int32) (s : Mem), f_X1_learn_L51 N n v3 v5 s = some ((), s') → G x (QV x w s') 6 w 51 [(0, .ref (ad w 33)), (1, .ref (ad w 1)), (2, .ref (ad w 31)), (3, .int v3), (5, .int v5)] [] s := by
    intro n
    induction n with
    | zero => intro v3 v5 s hf; cases hf
    | succ n ih =>
      intro v3 v5 s hf
      unfold f_X1_learn_L51 at hf
      refine g_iload C dX1_learn_51 4 rfl ?_
      refine g_aload_n C dX1_learn_53 rfl 1 rfl ?_
      refine g_get C (R := RX0) (T := TX0) (N := 8) (k := 1) (v := .ref (ad w 4)) kd_1 (by decide) rfl (in_1 hS) hinX0 (by decide) fl_X1_82 rfl rfl dX1_learn_54 ?_
      refine g_get C (R := RX5) (T := TX5) (N := 4) (k := 3) (v := .int (rI s 4 3)) kd_4 (by decide) rfl (in_4 hS) hinX5 (by decide) fl_X1_59 rfl rfl dX1_learn_57 ?_
      refine g_icmp_ge (tgt := 111) C dX1_learn_60 (by decide) hf (fun hf => ?_) (fun hf => ?_)
      · exact g_vret C dX1_learn_111 hf
      · refine g_aload_n C dX1_learn_63 rfl 2 rfl ?_
        refine g_get C (R := RX2) (T := TX2) (N := 4) (k := 3) (v := .int (rI s 31 3)) kd_31 (by decide) rfl (in_31 hS) hinX2 (by decide) fl_X1_84 rfl rfl dX1_learn_64 ?_
        refine g_bipush C (v := (-3)) dX1_learn_67 (by decide) ?_
        refine g_icmp_eq (tgt := 111) C dX1_learn_69 (by decide) hf (fun hf => ?_) (fun hf => ?_)
        · exact g_vret C dX1_learn_111 hf
        · refine g_aload_n C dX1_learn_72 rfl 1 rfl ?_
          refine g_iload C dX1_learn_73 4 rfl ?_
          refine g_iload_n C dX1_learn_75 rfl 3 rfl ?_
          refine g_callVB C (R := RX0) (T := TX0) (N := 8) [.int v5, .int v3] (fun _ _ h => c_X0_isOf (kl x) N w hS _ _ h) (g_cwV C hR ml_X1_87 im_X0_isOf sl_X0_isOf ini_X0 cd_X0_isOf hd_X0_isOf (by decide)) kd_1 (by decide) rfl (in_1 hS) rfl _ rfl (Nat.le_of_ble_eq_true rfl) dX1_learn_76 hf (fun r1 s1 hf => ?_)
          refine g_ifeqB (tgt := 105) C dX1_learn_79 (by decide) hf (fun hf => ?_) (fun hf => ?_)
          · exact j105 (f_X1_learn_L51 N n) ih _ _ _ hf
          · refine g_aload_n C dX1_learn_82 rfl 1 rfl ?_
            refine g_iload C dX1_learn_83 4 rfl ?_
            refine g_aload_n C dX1_learn_85 rfl 2 rfl ?_
            refine g_get C (R := RX2) (T := TX2) (N := 4) (k := 3) (v := .int (rI s1 31 3)) kd_31 (by decide) rfl (in_31 hS) hinX2 (by decide) fl_X1_84 rfl rfl dX1_learn_86 ?_
            refine g_callVB C (R := RX0) (T := TX0) (N := 8) [.int v5, .int (rI s1 31 3)] (fun _ _ h => c_X0_isInSpan (kl x) N w hS _ _ h) (g_cwV C hR ml_X1_91 im_X0_isInSpan sl_X0_isInSpan ini_X0 cd_X0_isInSpan hd_X0_isInSpan (by decide)) kd_1 (by decide) rfl (in_1 hS) rfl _ rfl (Nat.le_of_ble_eq_true rfl) dX1_learn_89 hf (fun r2 s2 hf => ?_)
            refine g_ifneB (tgt := 105) C dX1_learn_92 (by decide) hf (fun hf => ?_) (fun hf => ?_)
            · exact j105 (f_X1_learn_L51 N n) ih _ _ _ hf
            · refine g_aload_n C dX1_learn_95 rfl 0 rfl ?_
              refine g_dup C dX1_learn_96 rfl ?_
              refine g_get C (R := RX1) (T := TX1) (N := 5) (k := 4) (v := .int (rI s2 33 4)) kd_33 (by decide) rfl (in_33 hS) hinX1 (by decide) fl_X1_30 rfl rfl dX1_learn_97 ?_
              refine g_iconst C (v := 1) dX1_learn_100 rfl ?_
              refine g_iadd C dX1_learn_101 ?_
              refine g_putI C (R := RX1) (T := TX1) (N := 5) (k := 4) (ty := .int) tyX1 tyX1_ok nmX1 kd_33 (by decide) rfl (in_33 hS) hinX1 (by decide) fl_X1_30 rfl rfl rfl rfl rfl (Nat.le_of_ble_eq_true rfl) fs_1_4 dX1_learn_102 ?_
              refine g_nameS hf (fun s3 hf => ?_)
              exact j105 (f_X1_learn_L51 N n) ih _ _ _ hf
  refine g_lv (lv' := [(0, .ref (ad w 33)), (1, .ref (ad w 1)), (2, .ref (ad w 31)), (3, .int a3)]) rfl ?_
  unfold f_X1_learn at hf
  refine g_aload_n C dX1_learn_0 rfl 1 rfl ?_
  refine g_iload_n C dX1_learn_1 rfl 3 rfl ?_
  refine g_callVI C (R := RX0) (T := TX0) (N := 8) [.int a3] (fun _ _ h => c_X0_paperBitsOf (kl x) N w hS _ h) (g_cwV C hR ml_X1_66 im_X0_paperBitsOf sl_X0_paperBitsOf ini_X0 cd_X0_paperBitsOf hd_X0_paperBitsOf (by decide)) kd_1 (by decide) rfl (in_1 hS) rfl _ rfl (Nat.le_of_ble_eq_true rfl) dX1_learn_2 hf (fun r1 s1 hf => ?_)
  refine g_istore (lv' := [(4, .int r1), (0, .ref (ad w 33)), (1, .ref (ad w 1)), (2, .ref (ad w 31)), (3, .int a3)]) C dX1_learn_5 (by decide) rfl ?_
  refine g_aload_n C dX1_learn_7 rfl 1 rfl ?_
  refine g_iload C dX1_learn_8 0 rfl ?_
  refine g_callSI C [.int r1] (fun _ _ h => c_J6_bitCount_0f7a4 (kl x) N w _ h) (g_cwS C hR ml_X1_70 sm_J6_bitCount_0f7a4 ini_J6 cd_J6_bitCount_0f7a4 hd_J6_bitCount_0f7a4 (by decide)) rfl _ rfl (Nat.le_of_ble_eq_true rfl) dX1_learn_10 hf (fun r2 s2 hf => ?_)
  refine g_putI C (R := RX1) (T := TX1) (N := 5) (k := 1) (ty := .int) tyX1 tyX1_ok nmX1 kd_33 (by decide) rfl (in_33 hS) hinX1 (by decide) fl_X1_20 rfl rfl rfl rfl rfl (Nat.le_of_ble_eq_true rfl) fs_1_1 dX1_learn_13 ?_
  refine g_nameS hf (fun s3 hf => ?_)
  refine g_aload_n C dX1_learn_16 rfl 1 rfl ?_
  refine g_iload C dX1_learn_17 0 rfl ?_
  refine g_aload_n C dX1_learn_19 rfl 2 rfl ?_
  refine g_callVI C (R := RX0) (T := TX0) (N := 8) [] (fun _ _ h => c_X0_standing (kl x) N w hS h) (g_cwV C hR ml_X1_75 im_X0_standing sl_X0_standing ini_X0 cd_X0_standing hd_X0_standing (by decide)) kd_1 (by decide) rfl (in_1 hS) rfl _ rfl (Nat.le_of_ble_eq_true rfl) dX1_learn_20 hf (fun r4 s4 hf => ?_)
  refine g_iand C dX1_learn_23 ?_
  refine g_callSI C [.int (r1 &&& r4)] (fun _ _ h => c_J6_bitCount_0f7a4 (kl x) N w _ h) (g_cwS C hR ml_X1_70 sm_J6_bitCount_0f7a4 ini_J6 cd_J6_bitCount_0f7a4 hd_J6_bitCount_0f7a4 (by decide)) rfl _ rfl (Nat.le_of_ble_eq_true rfl) dX1_learn_24 hf (fun r5 s5 hf => ?_)
  refine g_putI C (R := RX1) (T := TX1) (N := 5) (k := 2) (ty := .int) tyX1 tyX1_ok nmX1 kd_33 (by decide) rfl (in_33 hS) hinX1 (by decide) fl_X1_24 rfl rfl rfl rfl rfl (Nat.le_of_ble_eq_true rfl) fs_1_2 dX1_learn_27 ?_
  refine g_nameS hf (fun s6 hf => ?_)
  refine g_aload_n C dX1_learn_30 rfl 1 rfl ?_
  refine g_aload_n C dX1_learn_31 rfl 2 rfl ?_
  refine g_get C (R := RX0) (T := TX0) (N := 8) (k := 0) (v := .ref (ad w 2)) kd_1 (by decide) rfl (in_1 hS) hinX0 (by decide) fl_X1_79 rfl rfl dX1_learn_32 ?_
  refine g_iload_n C dX1_learn_35 rfl 4 rfl ?_
  refine g_iconst C (v := 0) dX1_learn_36 rfl ?_
  refine g_callVI C (R := RX5) (T := TX5) (N := 4) [.int a3, .int 0] (fun _ _ h => c_X5_get (kl x) N w (ok_2 hS) _ _ h) (g_cwV C hR ml_X1_43 im_X5_get sl_X5_get ini_X5 cd_X5_get hd_X5_get (by decide)) kd_2 (by decide) rfl (in_2 hS) rfl _ rfl (Nat.le_of_ble_eq_true rfl) dX1_learn_37 hf (fun r7 s7 hf => ?_)
  refine g_putI C (R := RX1) (T := TX1) (N := 5) (k := 3) (ty := .int) tyX1 tyX1_ok nmX1 kd_33 (by decide) rfl (in_33 hS) hinX1 (by decide) fl_X1_27 rfl rfl rfl rfl rfl (Nat.le_of_ble_eq_true rfl) fs_1_3 dX1_learn_40 ?_
  refine g_nameS hf (fun s8 hf => ?_)
  refine g_aload_n C dX1_learn_43 rfl 1 rfl ?_
  refine g_iconst C (v := 0) dX1_learn_44 rfl ?_
  refine g_putI C (R := RX1) (T := TX1) (N := 5) (k := 4) (ty := .int) tyX1 tyX1_ok nmX1 kd_33 (by decide) rfl (in_33 hS) hinX1 (by decide) fl_X1_30 rfl rfl rfl rfl rfl (Nat.le_of_ble_eq_true rfl) fs_1_4 dX1_learn_45 ?_
  refine g_nameS hf (fun s9 hf => ?_)
  refine g_iconst C (v := 0) dX1_learn_48 rfl ?_
  refine g_istore (lv' := [(5, .int 0), (4, .int r1), (0, .ref (ad w 33)), (1, .ref (ad w 1)), (2, .ref (ad w 31)), (3, .int a3)]) C dX1_learn_49 (by decide) rfl ?_
  refine g_sub [2, 3, 4, 5, 0] rfl ?_
  exact j51 N _ _ _ hf

set_option maxHeartbeats 4000000 in
set_option maxRecDepth 100000 in
theorem c_X1_join (l : Launch) (N : Nat) (w : WX) (hS : SS w = Sc) (a1 : Int32) {s s' : Mem} (hf : f_X1_join N a1 s = some ((), s')) : CV l yX1_join (wz yX1_join cX1_join 4 none) ({ frames := 1, cells := 0, slots := 0, locals := 21 } : Room) [.ref (ad w 33), .int a1] w s s' := by
  refine met_startV (cc := cX1_join) (ret := none) (own := RX1) (maxL := 4) (by decide) rfl (Nat.le_of_ble_eq_true rfl) (fun x C hR hl => ?_)
  have j52 : ∀ (p0 : Int32) (s : Mem), f_X1_join_j52 N p0 s = some ((), s') → G x (QV x w s') 4 w 52 [] [.int p0, .ref (ad w 34)] s := by
    intro p0 s hf
    unfold f_X1_join_j52 at hf
    refine g_callVV C (R := RX3) (T := TX3) (N := 2) [.int p0] (fun _ h => c_X3_push (kl x) N w (ok_34 hS) _ h) (g_cwV C hR ml_X1_116 im_X3_push sl_X3_push ini_X3 cd_X3_push hd_X3_push (by decide)) kd_34 (by decide) rfl (in_34 hS) rfl _ rfl (Nat.le_of_ble_eq_true rfl) dX1_join_52 hf (fun s1 hf => ?_)
    exact g_vret C dX1_join_55 hf
  refine g_lv (lv' := [(0, .ref (ad w 33)), (1, .int a1)]) rfl ?_
  unfold f_X1_join at hf
  refine g_aload_n C dX1_join_0 rfl 0 rfl ?_
  refine g_get C (R := RX1) (T := TX1) (N := 5) (k := 0) (v := .ref (ad w 34)) kd_33 (by decide) rfl (in_33 hS) hinX1 (by decide) fl_X1_14 rfl rfl dX1_join_1 ?_
  refine g_callVI C (R := RX3) (T := TX3) (N := 2) [] (fun _ _ h => c_X3_pop (kl x) N w (ok_34 hS) h) (g_cwV C hR ml_X1_122 im_X3_pop sl_X3_pop ini_X3 cd_X3_pop hd_X3_pop (by decide)) kd_34 (by decide) rfl (in_34 hS) rfl _ rfl (Nat.le_of_ble_eq_true rfl) dX1_join_4 hf (fun r1 s1 hf => ?_)
  refine g_istore_n (lv' := [(2, .int r1), (0, .ref (ad w 33)), (1, .int a1)]) C dX1_join_7 rfl (by decide) rfl ?_
  refine g_iload_n C dX1_join_8 rfl 2 rfl ?_
  refine g_bipush C (v := 13) dX1_join_9 (by decide) ?_
  refine g_icmp_ne (tgt := 25) C dX1_join_11 (by decide) hf (fun hf => ?_) (fun hf => ?_)
  · refine g_aload_n C dX1_join_25 rfl 1 rfl ?_
    refine g_get C (R := RX1) (T := TX1) (N := 5) (k := 0) (v := .ref (ad w 34)) kd_33 (by decide) rfl (in_33 hS) hinX1 (by decide) fl_X1_14 rfl rfl dX1_join_26 ?_
    refine g_callVI C (R := RX3) (T := TX3) (N := 2) [] (fun _ _ h => c_X3_pop (kl x) N w (ok_34 hS) h) (g_cwV C hR ml_X1_122 im_X3_pop sl_X3_pop ini_X3 cd_X3_pop hd_X3_pop (by decide)) kd_34 (by decide) rfl (in_34 hS) rfl _ rfl (Nat.le_of_ble_eq_true rfl) dX1_join_29 hf (fun r2 s2 hf => ?_)
    refine g_istore_n (lv' := [(3, .int r2), (2, .int r1), (0, .ref (ad w 33)), (1, .int a1)]) C dX1_join_32 rfl (by decide) rfl ?_
    refine g_aload_n C dX1_join_33 rfl 2 rfl ?_
    refine g_get C (R := RX1) (T := TX1) (N := 5) (k := 0) (v := .ref (ad w 34)) kd_33 (by decide) rfl (in_33 hS) hinX1 (by decide) fl_X1_14 rfl rfl dX1_join_34 ?_
    refine g_iload_n C dX1_join_37 rfl 3 rfl ?_
    refine g_bipush C (v := 12) dX1_join_38 (by decide) ?_
    refine g_icmp_ne (tgt := 49) C dX1_join_40 (by decide) hf (fun hf => ?_) (fun hf => ?_)
    · refine g_iload_n C dX1_join_49 rfl 0 rfl ?_
      refine g_iload_n C dX1_join_50 rfl 1 rfl ?_
      refine g_ior C dX1_join_51 ?_
      refine g_sub [] rfl ?_
      exact j52 _ _ hf
    · refine g_iload_n C dX1_join_43 rfl 0 rfl ?_
      refine g_iload_n C dX1_join_44 rfl 1 rfl ?_
      refine g_iand C dX1_join_45 ?_
      refine g_goto (tgt := 52) C dX1_join_46 (by decide) ?_
      refine g_sub [] rfl ?_
      exact j52 _ _ hf
  · refine g_aload_n C dX1_join_14 rfl 1 rfl ?_
    refine g_get C (R := RX1) (T := TX1) (N := 5) (k := 0) (v := .ref (ad w 34)) kd_33 (by decide) rfl (in_33 hS) hinX1 (by decide) fl_X1_14 rfl rfl dX1_join_15 ?_
    refine g_iconst C (v := 1) dX1_join_18 rfl ?_
    refine g_iload_n C dX1_join_19 rfl 0 rfl ?_
    refine g_isub C dX1_join_20 ?_
    refine g_callVV C (R := RX3) (T := TX3) (N := 2) [.int (1 - r1)] (fun _ h => c_X3_push (kl x) N w (ok_34 hS) _ h) (g_cwV C hR ml_X1_116 im_X3_push sl_X3_push ini_X3 cd_X3_push hd_X3_push (by decide)) kd_34 (by decide) rfl (in_34 hS) rfl _ rfl (Nat.le_of_ble_eq_true rfl) dX1_join_21 hf (fun s3 hf => ?_)
    exact g_vret C dX1_join_24 hf

set_option maxHeartbeats 4000000 in
set_option maxRecDepth 100000 in
theorem c_X2_bestAge (l : Launch) (N : Nat) (w : WX) (hS : SS w = Sc) {s s' : Mem} {r : Int32} (hf : f_X2_bestAge N s = some (r, s')) : CI l yX2_bestAge (wz yX2_bestAge cX2_bestAge 1 (some .int)) ({ frames := 0, cells := 0, slots := 0, locals := 0 } : Room) [.ref (ad w 31)] w s r s' := by
  refine met_startI (cc := cX2_bestAge) (ret := (some .int)) (own := RX2) (maxL := 1) (by decide) rfl (Nat.le_of_ble_eq_true rfl) (fun x C hR hl => ?_)
  refine g_lv (lv' := [(0, .ref (ad w 31))]) rfl ?_
  unfold f_X2_bestAge at hf
  refine g_aload_n C dX2_bestAge_0 rfl 0 rfl ?_
  refine g_get C (R := RX2) (T := TX2) (N := 4) (k := 3) (v := .int (rI s 31 3)) kd_31 (by decide) rfl (in_31 hS) hinX2 (by decide) fl_X2_23 rfl rfl dX2_bestAge_1 ?_
  refine g_bipush C (v := (-3)) dX2_bestAge_4 (by decide) ?_
  refine g_icmp_ne (tgt := 13) C dX2_bestAge_6 (by decide) hf (fun hf => ?_) (fun hf => ?_)
  · refine g_aload_n C dX2_bestAge_13 rfl 0 rfl ?_
    refine g_get C (R := RX2) (T := TX2) (N := 4) (k := 1) (v := .int (rI s 31 1)) kd_31 (by decide) rfl (in_31 hS) hinX2 (by decide) fl_X2_15 rfl rfl dX2_bestAge_14 ?_
    refine g_aload_n C dX2_bestAge_17 rfl 0 rfl ?_
    refine g_get C (R := RX2) (T := TX2) (N := 4) (k := 3) (v := .int (rI s 31 3)) kd_31 (by decide) rfl (in_31 hS) hinX2 (by decide) fl_X2_23 rfl rfl dX2_bestAge_18 ?_
    refine g_isub C dX2_bestAge_21 ?_
    exact g_iret C dX2_bestAge_22 hf
  · refine g_iconst C (v := 0) dX2_bestAge_9 rfl ?_
    refine g_goto (tgt := 22) C dX2_bestAge_10 (by decide) ?_
    exact g_iret C dX2_bestAge_22 hf

set_option maxHeartbeats 4000000 in
set_option maxRecDepth 100000 in
theorem c_X2_upTo (l : Launch) (N : Nat) (w : WX) (hS : SS w = Sc) (a1 : Int32) {s s' : Mem} {r : Int64} (hf : f_X2_upTo N a1 s = some (r, s')) : CL l yX2_upTo (wz yX2_upTo cX2_upTo 5 (some .long)) ({ frames := 0, cells := 0, slots := 0, locals := 0 } : Room) [.ref (ad w 31), .int a1] w s r s' := by
  refine met_startL (cc := cX2_upTo) (ret := (some .long)) (own := RX2) (maxL := 5) (by decide) rfl (Nat.le_of_ble_eq_true rfl) (fun x C hR hl => ?_)
  have j5 : ∀ (n : Nat), ∀ (v1 : Int32) (v2 : Int64) (v4 : Int32) (s : Mem), f_X2_upTo_L5 N n v1 v2 v4 s = some (r, s') → G x (QL x w r s') 5 w 5 [(0, .ref (ad w 31)), (1, .int v1), (2, .long v2), (4, .int v4)] [] s := by
    intro n
    induction n with
    | zero => intro v1 v2 v4 s hf; cases hf
    | succ n ih =>
      intro v1 v2 v4 s hf
      unfold f_X2_upTo_L5 at hf
      refine g_iload C dX2_upTo_5 3 rfl ?_
      refine g_iload_n C dX2_upTo_7 rfl 1 rfl ?_
      refine g_icmp_gt (tgt := 37) C dX2_upTo_8 (by decide) hf (fun hf => ?_) (fun hf => ?_)
      · refine g_lload_n C dX2_upTo_37 rfl 2 rfl ?_
        exact g_lret C dX2_upTo_38 hf
      · refine g_iload C dX2_upTo_11 3 rfl ?_
        refine g_aload_n C dX2_upTo_13 rfl 0 rfl ?_
        refine g_get C (R := RX2) (T := TX2) (N := 4) (k := 0) (v := .ref (ad w 32)) kd_31 (by decide) rfl (in_31 hS) hinX2 (by decide) fl_X2_9 rfl rfl dX2_upTo_14 ?_
        refine g_alenJ C (v := 161) kd_32 ln_32 (in_32 hS) rfl dX2_upTo_17 ?_
        refine g_icmp_ge (tgt := 37) C dX2_upTo_18 (by decide) hf (fun hf => ?_) (fun hf => ?_)
        · refine g_lload_n C dX2_upTo_37 rfl 2 rfl ?_
          exact g_lret C dX2_upTo_38 hf
        · refine g_lload_n C dX2_upTo_21 rfl 2 rfl ?_
          refine g_aload_n C dX2_upTo_22 rfl 0 rfl ?_
          refine g_get C (R := RX2) (T := TX2) (N := 4) (k := 0) (v := .ref (ad w 32)) kd_31 (by decide) rfl (in_31 hS) hinX2 (by decide) fl_X2_9 rfl rfl dX2_upTo_23 ?_
          refine g_iload C dX2_upTo_26 3 rfl ?_
          refine g_lald C kd_32 ln_32 (in_32 hS) dX2_upTo_28 hf (fun hf => ?_)
          refine g_ladd C dX2_upTo_29 ?_
          refine g_lstore_n (lv' := [(2, .long (v2 + (rL s 32 v4.toNatClampNeg))), (0, .ref (ad w 31)), (1, .int v1), (4, .int v4)]) C dX2_upTo_30 rfl (by decide) rfl ?_
          refine g_iinc (v' := v4 + 1) (lv' := [(4, .int (v4 + 1)), (2, .long (v2 + (rL s 32 v4.toNatClampNeg))), (0, .ref (ad w 31)), (1, .int v1)]) C dX2_upTo_31 3 rfl rfl (by decide) rfl ?_
          refine g_goto (tgt := 5) C dX2_upTo_34 (by decide) ?_
          refine g_sub [2, 3, 1, 0] rfl ?_
          exact ih _ _ _ _ hf
  refine g_lv (lv' := [(0, .ref (ad w 31)), (1, .int a1)]) rfl ?_
  unfold f_X2_upTo at hf
  refine g_lconst C (v := 0) dX2_upTo_0 rfl ?_
  refine g_lstore_n (lv' := [(2, .long 0), (0, .ref (ad w 31)), (1, .int a1)]) C dX2_upTo_1 rfl (by decide) rfl ?_
  refine g_iconst C (v := 0) dX2_upTo_2 rfl ?_
  refine g_istore (lv' := [(4, .int 0), (2, .long 0), (0, .ref (ad w 31)), (1, .int a1)]) C dX2_upTo_3 (by decide) rfl ?_
  refine g_sub [2, 3, 1, 0] rfl ?_
  exact j5 N _ _ _ _ hf

set_option maxHeartbeats 4000000 in
set_option maxRecDepth 100000 in
theorem c_X2_hundredthsOf (l : Launch) (N : Nat) (w : WX) (hS : SS w = Sc) (a1 : Int32) {s s' : Mem} {r : Int32} (hf : f_X2_hundredthsOf N a1 s = some (r, s')) : CI l yX2_hundredthsOf (wz yX2_hundredthsOf cX2_hundredthsOf 2 (some .int)) ({ frames := 1, cells := 0, slots := 0, locals := 24 } : Room) [.ref (ad w 31), .int a1] w s r s' := by
  refine met_startI (cc := cX2_hundredthsOf) (ret := (some .int)) (own := RX2) (maxL := 2) (by decide) rfl (Nat.le_of_ble_eq_true rfl) (fun x C hR hl => ?_)
  refine g_lv (lv' := [(0, .ref (ad w 31)), (1, .int a1)]) rfl ?_
  unfold f_X2_hundredthsOf at hf
  refine g_aload_n C dX2_hundredthsOf_0 rfl 0 rfl ?_
  refine g_get C (R := RX2) (T := TX2) (N := 4) (k := 2) (v := .long (rL s 31 2)) kd_31 (by decide) rfl (in_31 hS) hinX2 (by decide) fl_X2_19 rfl rfl dX2_hundredthsOf_1 ?_
  refine g_lconst C (v := 0) dX2_hundredthsOf_4 rfl ?_
  refine g_lcmp_gt (tgt := 13) C dX2_hundredthsOf_5 dX2_hundredthsOf_6 (by decide) hf (fun hf => ?_) (fun hf => ?_)
  · refine g_aload_n C dX2_hundredthsOf_13 rfl 0 rfl ?_
    refine g_aload_n C dX2_hundredthsOf_14 rfl 0 rfl ?_
    refine g_get C (R := RX2) (T := TX2) (N := 4) (k := 1) (v := .int (rI s 31 1)) kd_31 (by decide) rfl (in_31 hS) hinX2 (by decide) fl_X2_15 rfl rfl dX2_hundredthsOf_15 ?_
    refine g_iload_n C dX2_hundredthsOf_18 rfl 1 rfl ?_
    refine g_isub C dX2_hundredthsOf_19 ?_
    refine g_callVL C (R := RX2) (T := TX2) (N := 4) [.int ((rI s 31 1) - a1)] (fun _ _ h => c_X2_upTo (kl x) N w hS _ h) (g_cwV C hR ml_X2_67 im_X2_upTo sl_X2_upTo ini_X2 cd_X2_upTo hd_X2_upTo (by decide)) kd_31 (by decide) rfl (in_31 hS) rfl _ rfl (Nat.le_of_ble_eq_true rfl) dX2_hundredthsOf_20 hf (fun r1 s1 hf => ?_)
    refine g_ldc2 C (v := 100) dX2_hundredthsOf_23 kL_X2_71 ?_
    refine g_lmul C dX2_hundredthsOf_26 ?_
    refine g_aload_n C dX2_hundredthsOf_27 rfl 0 rfl ?_
    refine g_get C (R := RX2) (T := TX2) (N := 4) (k := 2) (v := .long (rL s1 31 2)) kd_31 (by decide) rfl (in_31 hS) hinX2 (by decide) fl_X2_19 rfl rfl dX2_hundredthsOf_28 ?_
    refine g_ldiv C dX2_hundredthsOf_31 hf (fun hf => ?_)
    refine g_l2i C dX2_hundredthsOf_32 ?_
    exact g_iret C dX2_hundredthsOf_33 hf
  · refine g_iconst C (v := 0) dX2_hundredthsOf_9 rfl ?_
    refine g_goto (tgt := 33) C dX2_hundredthsOf_10 (by decide) ?_
    exact g_iret C dX2_hundredthsOf_33 hf

set_option maxHeartbeats 4000000 in
set_option maxRecDepth 100000 in
theorem c_X1_valueOf (l : Launch) (N : Nat) (w : WX) (hS : SS w = Sc) (a2 : Int32) {s s' : Mem} {r : Int32} (hf : f_X1_valueOf N a2 s = some (r, s')) : CI l yX1_valueOf (wz yX1_valueOf cX1_valueOf 4 (some .int)) ({ frames := 2, cells := 0, slots := 0, locals := 45 } : Room) [.ref (ad w 33), .ref (ad w 31), .int a2] w s r s' := by
  refine met_startI (cc := cX1_valueOf) (ret := (some .int)) (own := RX1) (maxL := 4) (by decide) rfl (Nat.le_of_ble_eq_true rfl) (fun x C hR hl => ?_)
  refine g_lv (lv' := [(0, .ref (ad w 33)), (1, .ref (ad w 31)), (2, .int a2)]) rfl ?_
  unfold f_X1_valueOf at hf
  refine g_iload_n C dX1_valueOf_0 rfl 2 rfl ?_
  refine g_sipush C (v := 1000) dX1_valueOf_1 (by decide) ?_
  refine g_iremK C dX1_valueOf_4 (by decide) ?_
  refine g_istore_n (lv' := [(3, .int (a2 - a2 / 1000 * 1000)), (0, .ref (ad w 33)), (1, .ref (ad w 31)), (2, .int a2)]) C dX1_valueOf_5 rfl (by decide) rfl ?_
  refine g_iload_n C dX1_valueOf_6 rfl 3 rfl ?_
  refine g_sipush C (v := 1000) dX1_valueOf_7 (by decide) ?_
  refine g_idivK C dX1_valueOf_10 (by decide) ?_
  rcases ite_some hf with ⟨e1, hf⟩ | ⟨n1, hf⟩
  · refine g_tabIn (k := 1) (tgt := 56) C dX1_valueOf_11 e1 (by decide) (by decide) rfl (by decide) ?_
    refine g_iload_n C dX1_valueOf_56 rfl 0 rfl ?_
    exact g_iret C dX1_valueOf_57 hf
  rcases ite_some hf with ⟨e2, hf⟩ | ⟨n2, hf⟩
  · refine g_tabIn (k := 2) (tgt := 58) C dX1_valueOf_11 e2 (by decide) (by decide) rfl (by decide) ?_
    refine g_aload_n C dX1_valueOf_58 rfl 1 rfl ?_
    refine g_get C (R := RX1) (T := TX1) (N := 5) (k := 1) (v := .int (rI s 33 1)) kd_33 (by decide) rfl (in_33 hS) hinX1 (by decide) fl_X1_20 rfl rfl dX1_valueOf_59 ?_
    exact g_iret C dX1_valueOf_62 hf
  rcases ite_some hf with ⟨e3, hf⟩ | ⟨n3, hf⟩
  · refine g_tabIn (k := 3) (tgt := 63) C dX1_valueOf_11 e3 (by decide) (by decide) rfl (by decide) ?_
    refine g_aload_n C dX1_valueOf_63 rfl 1 rfl ?_
    refine g_get C (R := RX1) (T := TX1) (N := 5) (k := 2) (v := .int (rI s 33 2)) kd_33 (by decide) rfl (in_33 hS) hinX1 (by decide) fl_X1_24 rfl rfl dX1_valueOf_64 ?_
    exact g_iret C dX1_valueOf_67 hf
  rcases ite_some hf with ⟨e4, hf⟩ | ⟨n4, hf⟩
  · refine g_tabIn (k := 4) (tgt := 68) C dX1_valueOf_11 e4 (by decide) (by decide) rfl (by decide) ?_
    refine g_aload_n C dX1_valueOf_68 rfl 2 rfl ?_
    refine g_callVI C (R := RX2) (T := TX2) (N := 4) [] (fun _ _ h => c_X2_bestAge (kl x) N w hS h) (g_cwV C hR ml_X1_125 im_X2_bestAge sl_X2_bestAge ini_X2 cd_X2_bestAge hd_X2_bestAge (by decide)) kd_31 (by decide) rfl (in_31 hS) rfl _ rfl (Nat.le_of_ble_eq_true rfl) dX1_valueOf_69 hf (fun r1 s1 hf => ?_)
    exact g_iret C dX1_valueOf_72 hf
  rcases ite_some hf with ⟨e5, hf⟩ | ⟨n5, hf⟩
  · refine g_tabIn (k := 5) (tgt := 73) C dX1_valueOf_11 e5 (by decide) (by decide) rfl (by decide) ?_
    refine g_aload_n C dX1_valueOf_73 rfl 2 rfl ?_
    refine g_get C (R := RX2) (T := TX2) (N := 4) (k := 1) (v := .int (rI s 31 1)) kd_31 (by decide) rfl (in_31 hS) hinX2 (by decide) fl_X1_128 rfl rfl dX1_valueOf_74 ?_
    exact g_iret C dX1_valueOf_77 hf
  rcases ite_some hf with ⟨e6, hf⟩ | ⟨n6, hf⟩
  · refine g_tabIn (k := 6) (tgt := 78) C dX1_valueOf_11 e6 (by decide) (by decide) rfl (by decide) ?_
    refine g_aload_n C dX1_valueOf_78 rfl 1 rfl ?_
    refine g_get C (R := RX1) (T := TX1) (N := 5) (k := 3) (v := .int (rI s 33 3)) kd_33 (by decide) rfl (in_33 hS) hinX1 (by decide) fl_X1_27 rfl rfl dX1_valueOf_79 ?_
    exact g_iret C dX1_valueOf_82 hf
  rcases ite_some hf with ⟨e7, hf⟩ | ⟨n7, hf⟩
  · refine g_tabIn (k := 7) (tgt := 83) C dX1_valueOf_11 e7 (by decide) (by decide) rfl (by decide) ?_
    refine g_aload_n C dX1_valueOf_83 rfl 1 rfl ?_
    refine g_get C (R := RX1) (T := TX1) (N := 5) (k := 4) (v := .int (rI s 33 4)) kd_33 (by decide) rfl (in_33 hS) hinX1 (by decide) fl_X1_30 rfl rfl dX1_valueOf_84 ?_
    exact g_iret C dX1_valueOf_87 hf
  rcases ite_some hf with ⟨e8, hf⟩ | ⟨n8, hf⟩
  · refine g_tabIn (k := 8) (tgt := 88) C dX1_valueOf_11 e8 (by decide) (by decide) rfl (by decide) ?_
    refine g_aload_n C dX1_valueOf_88 rfl 2 rfl ?_
    refine g_iload_n C dX1_valueOf_89 rfl 0 rfl ?_
    refine g_callVI C (R := RX2) (T := TX2) (N := 4) [.int (a2 - a2 / 1000 * 1000)] (fun _ _ h => c_X2_hundredthsOf (kl x) N w hS _ h) (g_cwV C hR ml_X1_131 im_X2_hundredthsOf sl_X2_hundredthsOf ini_X2 cd_X2_hundredthsOf hd_X2_hundredthsOf (by decide)) kd_31 (by decide) rfl (in_31 hS) rfl _ rfl (Nat.le_of_ble_eq_true rfl) dX1_valueOf_90 hf (fun r2 s2 hf => ?_)
    exact g_iret C dX1_valueOf_93 hf
  refine g_tabOut (tgt := 94) C dX1_valueOf_11 (by have z1 := lv_neT n1 (a := 1) (by decide); have z2 := lv_neT n2 (a := 2) (by decide); have z3 := lv_neT n3 (a := 3) (by decide); have z4 := lv_neT n4 (a := 4) (by decide); have z5 := lv_neT n5 (a := 5) (by decide); have z6 := lv_neT n6 (a := 6) (by decide); have z7 := lv_neT n7 (a := 7) (by decide); have z8 := lv_neT n8 (a := 8) (by decide); omega) (by decide) ?_
  refine g_iconst C (v := 0) dX1_valueOf_94 rfl ?_
  exact g_iret C dX1_valueOf_95 hf

set_option maxHeartbeats 4000000 in
set_option maxRecDepth 100000 in
theorem c_X1_isSo (l : Launch) (N : Nat) (w : WX) (a0 : Int32) (a1 : Int32) (a2 : Int32) {s s' : Mem} {r : Bool} (hf : f_X1_isSo N a0 a1 a2 s = some (r, s')) : CB l yX1_isSo (wz yX1_isSo cX1_isSo 3 (some .boolean)) ({ frames := 0, cells := 0, slots := 0, locals := 0 } : Room) [.int a0, .int a1, .int a2] w s r s' := by
  refine met_startB (cc := cX1_isSo) (ret := (some .boolean)) (own := RX1) (maxL := 3) (by decide) rfl (Nat.le_of_ble_eq_true rfl) (fun x C hR hl => ?_)
  refine g_lv (lv' := [(0, .int a0), (1, .int a1), (2, .int a2)]) rfl ?_
  unfold f_X1_isSo at hf
  refine g_iload_n C dX1_isSo_0 rfl 0 rfl ?_
  refine g_bipush C (v := 16) dX1_isSo_1 (by decide) ?_
  refine g_icmp_ne (tgt := 17) C dX1_isSo_3 (by decide) hf (fun hf => ?_) (fun hf => ?_)
  · refine g_iload_n C dX1_isSo_17 rfl 0 rfl ?_
    refine g_bipush C (v := 18) dX1_isSo_18 (by decide) ?_
    refine g_icmp_ne (tgt := 36) C dX1_isSo_20 (by decide) hf (fun hf => ?_) (fun hf => ?_)
    · refine g_iload_n C dX1_isSo_36 rfl 1 rfl ?_
      refine g_iload_n C dX1_isSo_37 rfl 2 rfl ?_
      refine g_icmp_ne (tgt := 45) C dX1_isSo_38 (by decide) hf (fun hf => ?_) (fun hf => ?_)
      · refine g_iconst C (v := 0) dX1_isSo_45 rfl ?_
        exact g_zret (v := false) C dX1_isSo_46 hf
      · refine g_iconst C (v := 1) dX1_isSo_41 rfl ?_
        refine g_goto (tgt := 46) C dX1_isSo_42 (by decide) ?_
        exact g_zret (v := true) C dX1_isSo_46 hf
    · refine g_iload_n C dX1_isSo_23 rfl 1 rfl ?_
      refine g_iload_n C dX1_isSo_24 rfl 2 rfl ?_
      refine g_icmp_le (tgt := 32) C dX1_isSo_25 (by decide) hf (fun hf => ?_) (fun hf => ?_)
      · refine g_iconst C (v := 0) dX1_isSo_32 rfl ?_
        refine g_goto (tgt := 46) C dX1_isSo_33 (by decide) ?_
        exact g_zret (v := false) C dX1_isSo_46 hf
      · refine g_iconst C (v := 1) dX1_isSo_28 rfl ?_
        refine g_goto (tgt := 46) C dX1_isSo_29 (by decide) ?_
        exact g_zret (v := true) C dX1_isSo_46 hf
  · refine g_iload_n C dX1_isSo_6 rfl 1 rfl ?_
    refine g_iload_n C dX1_isSo_7 rfl 2 rfl ?_
    refine g_icmp_ge (tgt := 15) C dX1_isSo_8 (by decide) hf (fun hf => ?_) (fun hf => ?_)
    · refine g_iconst C (v := 0) dX1_isSo_15 rfl ?_
      exact g_zret (v := false) C dX1_isSo_16 hf
    · refine g_iconst C (v := 1) dX1_isSo_11 rfl ?_
      refine g_goto (tgt := 16) C dX1_isSo_12 (by decide) ?_
      exact g_zret (v := true) C dX1_isSo_16 hf

set_option maxHeartbeats 4000000 in
set_option maxRecDepth 100000 in
theorem c_X1_holds (l : Launch) (N : Nat) (w : WX) (hS : SS w = Sc) (a3 : Int32) {s s' : Mem} {r : Bool} (hf : f_X1_holds N a3 s = some (r, s')) : CB l yX1_holds (wz yX1_holds cX1_holds 9 (some .boolean)) ({ frames := 3, cells := 0, slots := 0, locals := 68 } : Room) [.ref (ad w 33), .ref (ad w 1), .ref (ad w 31), .int a3] w s r s' := by
  refine met_startB (cc := cX1_holds) (ret := (some .boolean)) (own := RX1) (maxL := 9) (by decide) rfl (Nat.le_of_ble_eq_true rfl) (fun x C hR hl => ?_)
  have j152 : ∀ (s : Mem), f_X1_holds_j152 N s = some (r, s') → G x (QB x w r s') 9 w 152 [(0, .ref (ad w 33))] [] s := by
    intro s hf
    unfold f_X1_holds_j152 at hf
    refine g_aload_n C dX1_holds_152 rfl 0 rfl ?_
    refine g_get C (R := RX1) (T := TX1) (N := 5) (k := 0) (v := .ref (ad w 34)) kd_33 (by decide) rfl (in_33 hS) hinX1 (by decide) fl_X1_14 rfl rfl dX1_holds_153 ?_
    refine g_callVI C (R := RX3) (T := TX3) (N := 2) [] (fun _ _ h => c_X3_top (kl x) N w (ok_34 hS) h) (g_cwV C hR ml_X1_119 im_X3_top sl_X3_top ini_X3 cd_X3_top hd_X3_top (by decide)) kd_34 (by decide) rfl (in_34 hS) rfl _ rfl (Nat.le_of_ble_eq_true rfl) dX1_holds_156 hf (fun r1 s1 hf => ?_)
    refine g_iconst C (v := 1) dX1_holds_159 rfl ?_
    refine g_icmp_ne (tgt := 167) C dX1_holds_160 (by decide) hf (fun hf => ?_) (fun hf => ?_)
    · refine g_iconst C (v := 0) dX1_holds_167 rfl ?_
      exact g_zret (v := false) C dX1_holds_168 hf
    · refine g_iconst C (v := 1) dX1_holds_163 rfl ?_
      refine g_goto (tgt := 168) C dX1_holds_164 (by decide) ?_
      exact g_zret (v := true) C dX1_holds_168 hf
  have j146 : ∀ (k39 : Int32 → Int32 → Mem → Option (Bool × Mem)) (k152 : Mem → Option (Bool × Mem)), (∀ (v4 : Int32) (v5 : Int32) (s : Mem), k39 v4 v5 s = some (r, s') → G x (QB x w r s') 9 w 39 [(0, .ref (ad w 33)), (1, .ref (ad w 1)), (2, .ref (ad w 31)), (4, .int v4), (5, .int v5)] [] s) → (∀ (s : Mem), k152 s = some (r, s') → G x (QB x w r s') 9 w 152 [(0, .ref (ad w 33))] [] s) → ∀ (v4 : Int32) (v5 : Int32) (s : Mem), f_X1_holds_j146 N k39 k152 v4 v5 s = some (r, s') → G x (QB x w r s') 9 w 146 [(0, .ref (ad w 33)), (1, .ref (ad w 1)), (2, .ref (ad w 31)), (4, .int v4), (5, .int v5)] [] s := by
    intro k39 k152 q39 q152 v4 v5 s hf
    unfold f_X1_holds_j146 at hf
    refine g_iinc (v' := v5 + 1) (lv' := [(5, .int (v5 + 1)), (0, .ref (ad w 33)), (1, .ref (ad w 1)), (2, .ref (ad w 31)), (4, .int v4)]) C dX1_holds_146 4 rfl rfl (by decide) rfl ?_
    refine g_goto (tgt := 39) C dX1_holds_149 (by decide) ?_
    refine g_sub [1, 2, 3, 4, 0] rfl ?_
    exact q39 _ _ _ hf
  have j79 : ∀ (k39 : Int32 → Int32 → Mem → Option (Bool × Mem)) (k152 : Mem → Option (Bool × Mem)), (∀ (v4 : Int32) (v5 : Int32) (s : Mem), k39 v4 v5 s = some (r, s') → G x (QB x w r s') 9 w 39 [(0, .ref (ad w 33)), (1, .ref (ad w 1)), (2, .ref (ad w 31)), (4, .int v4), (5, .int v5)] [] s) → (∀ (s : Mem), k152 s = some (r, s') → G x (QB x w r s') 9 w 152 [(0, .ref (ad w 33))] [] s) → ∀ (v4 : Int32) (v5 : Int32) (v6 : Int32) (s : Mem), f_X1_holds_j79 N k39 k152 v4 v5 v6 s = some (r, s') → G x (QB x w r s') 9 w 79 [(0, .ref (ad w 33)), (1, .ref (ad w 1)), (2, .ref (ad w 31)), (4, .int v4), (5, .int v5), (6, .int v6)] [] s := by
    intro k39 k152 q39 q152 v4 v5 v6 s hf
    unfold f_X1_holds_j79 at hf
    refine g_aload_n C dX1_holds_79 rfl 0 rfl ?_
    refine g_iload C dX1_holds_80 5 rfl ?_
    refine g_callVV C (R := RX1) (T := TX1) (N := 5) [.int v6] (fun _ h => c_X1_join (kl x) N w hS _ h) (g_cwV C hR ml_X1_105 im_X1_join sl_X1_join ini_X1 cd_X1_join hd_X1_join (by decide)) kd_33 (by decide) rfl (in_33 hS) rfl _ rfl (Nat.le_of_ble_eq_true rfl) dX1_holds_82 hf (fun s1 hf => ?_)
    refine g_goto (tgt := 146) C dX1_holds_85 (by decide) ?_
    refine g_sub [0, 1, 2, 3, 4] rfl ?_
    exact j146 k39 k152 q39 q152 _ _ _ hf
  have j143 : ∀ (k39 : Int32 → Int32 → Mem → Option (Bool × Mem)) (k152 : Mem → Option (Bool × Mem)), (∀ (v4 : Int32) (v5 : Int32) (s : Mem), k39 v4 v5 s = some (r, s') → G x (QB x w r s') 9 w 39 [(0, .ref (ad w 33)), (1, .ref (ad w 1)), (2, .ref (ad w 31)), (4, .int v4), (5, .int v5)] [] s) → (∀ (s : Mem), k152 s = some (r, s') → G x (QB x w r s') 9 w 152 [(0, .ref (ad w 33))] [] s) → ∀ (v4 : Int32) (v5 : Int32) (p0 : Bool) (s : Mem), f_X1_holds_j143 N k39 k152 v4 v5 p0 s = some (r, s') → G x (QB x w r s') 9 w 143 [(0, .ref (ad w 33)), (1, .ref (ad w 1)), (2, .ref (ad w 31)), (4, .int v4), (5, .int v5)] [.int (bI p0), .ref (ad w 34)] s := by
    intro k39 k152 q39 q152 v4 v5 p0 s hf
    unfold f_X1_holds_j143 at hf
    refine g_callVV C (R := RX3) (T := TX3) (N := 2) [.int (bI p0)] (fun _ h => c_X3_push (kl x) N w (ok_34 hS) _ h) (g_cwV C hR ml_X1_116 im_X3_push sl_X3_push ini_X3 cd_X3_push hd_X3_push (by decide)) kd_34 (by decide) rfl (in_34 hS) rfl _ rfl (Nat.le_of_ble_eq_true rfl) dX1_holds_143 hf (fun s1 hf => ?_)
    exact j146 k39 k152 q39 q152 _ _ _ hf
  have j39 : ∀ (k152 : Mem → Option (Bool × Mem)), (∀ (s : Mem), k152 s = some (r, s') → G x (QB x w r s') 9 w 152 [(0, .ref (ad w 33))] [] s) → ∀ (n : Nat), ∀ (v4 : Int32) (v5 : Int32) (s : Mem), f_X1_holds_L39 N k152 n v4 v5 s = some (r, s') → G x (QB x w r s') 9 w 39 [(0, .ref (ad w 33)), (1, .ref (ad w 1)), (2, .ref (ad w 31)), (4, .int v4), (5, .int v5)] [] s := by
    intro k152 q152 n
    induction n with
    | zero => intro v4 v5 s hf; cases hf
    | succ n ih =>
      intro v4 v5 s hf
      unfold f_X1_holds_L39 at hf
      refine g_iload C dX1_holds_39 4 rfl ?_
      refine g_iload C dX1_holds_41 3 rfl ?_
      refine g_icmp_ge (tgt := 152) C dX1_holds_43 (by decide) hf (fun hf => ?_) (fun hf => ?_)
      · refine g_sub [0] rfl ?_
        exact q152 _ hf
      · refine g_aload_n C dX1_holds_46 rfl 1 rfl ?_
        refine g_get C (R := RX0) (T := TX0) (N := 8) (k := 6) (v := .ref (ad w 14)) kd_1 (by decide) rfl (in_1 hS) hinX0 (by decide) fl_X1_97 rfl rfl dX1_holds_47 ?_
        refine g_iload C dX1_holds_50 4 rfl ?_
        refine g_iconst C (v := 0) dX1_holds_52 rfl ?_
        refine g_callVI C (R := RX5) (T := TX5) (N := 4) [.int v5, .int 0] (fun _ _ h => c_X5_get (kl x) N w (ok_14 hS) _ _ h) (g_cwV C hR ml_X1_43 im_X5_get sl_X5_get ini_X5 cd_X5_get hd_X5_get (by decide)) kd_14 (by decide) rfl (in_14 hS) rfl _ rfl (Nat.le_of_ble_eq_true rfl) dX1_holds_53 hf (fun r1 s1 hf => ?_)
        refine g_istore (lv' := [(6, .int r1), (0, .ref (ad w 33)), (1, .ref (ad w 1)), (2, .ref (ad w 31)), (4, .int v4), (5, .int v5)]) C dX1_holds_56 (by decide) rfl ?_
        refine g_iload C dX1_holds_58 0 rfl ?_
        refine g_bipush C (v := 13) dX1_holds_60 (by decide) ?_
        refine g_icmp_eq (tgt := 79) C dX1_holds_62 (by decide) hf (fun hf => ?_) (fun hf => ?_)
        · refine g_sub [1, 2, 3, 4, 5, 0] rfl ?_
          exact j79 (f_X1_holds_L39 N k152 n) k152 ih q152 _ _ _ _ hf
        · refine g_iload C dX1_holds_65 0 rfl ?_
          refine g_bipush C (v := 12) dX1_holds_67 (by decide) ?_
          refine g_icmp_eq (tgt := 79) C dX1_holds_69 (by decide) hf (fun hf => ?_) (fun hf => ?_)
          · refine g_sub [1, 2, 3, 4, 5, 0] rfl ?_
            exact j79 (f_X1_holds_L39 N k152 n) k152 ih q152 _ _ _ _ hf
          · refine g_iload C dX1_holds_72 0 rfl ?_
            refine g_bipush C (v := 11) dX1_holds_74 (by decide) ?_
            refine g_icmp_ne (tgt := 88) C dX1_holds_76 (by decide) hf (fun hf => ?_) (fun hf => ?_)
            · refine g_aload_n C dX1_holds_88 rfl 1 rfl ?_
              refine g_aload_n C dX1_holds_89 rfl 3 rfl ?_
              refine g_aload_n C dX1_holds_90 rfl 2 rfl ?_
              refine g_get C (R := RX0) (T := TX0) (N := 8) (k := 6) (v := .ref (ad w 14)) kd_1 (by decide) rfl (in_1 hS) hinX0 (by decide) fl_X1_97 rfl rfl dX1_holds_91 ?_
              refine g_iload C dX1_holds_94 5 rfl ?_
              refine g_iconst C (v := 1) dX1_holds_96 rfl ?_
              refine g_callVI C (R := RX5) (T := TX5) (N := 4) [.int v5, .int 1] (fun _ _ h => c_X5_get (kl x) N w (ok_14 hS) _ _ h) (g_cwV C hR ml_X1_43 im_X5_get sl_X5_get ini_X5 cd_X5_get hd_X5_get (by decide)) kd_14 (by decide) rfl (in_14 hS) rfl _ rfl (Nat.le_of_ble_eq_true rfl) dX1_holds_97 hf (fun r2 s2 hf => ?_)
              refine g_callVI C (R := RX1) (T := TX1) (N := 5) [.ref (ad w 31), .int r2] (fun _ _ h => c_X1_valueOf (kl x) N w hS _ h) (g_cwV C hR ml_X1_108 im_X1_valueOf sl_X1_valueOf ini_X1 cd_X1_valueOf hd_X1_valueOf (by decide)) kd_33 (by decide) rfl (in_33 hS) rfl _ rfl (Nat.le_of_ble_eq_true rfl) dX1_holds_100 hf (fun r3 s3 hf => ?_)
              refine g_istore (lv' := [(7, .int r3), (6, .int r1), (0, .ref (ad w 33)), (1, .ref (ad w 1)), (2, .ref (ad w 31)), (4, .int v4), (5, .int v5)]) C dX1_holds_103 (by decide) rfl ?_
              refine g_aload_n C dX1_holds_105 rfl 2 rfl ?_
              refine g_aload_n C dX1_holds_106 rfl 4 rfl ?_
              refine g_aload_n C dX1_holds_107 rfl 3 rfl ?_
              refine g_get C (R := RX0) (T := TX0) (N := 8) (k := 6) (v := .ref (ad w 14)) kd_1 (by decide) rfl (in_1 hS) hinX0 (by decide) fl_X1_97 rfl rfl dX1_holds_108 ?_
              refine g_iload C dX1_holds_111 6 rfl ?_
              refine g_iconst C (v := 2) dX1_holds_113 rfl ?_
              refine g_callVI C (R := RX5) (T := TX5) (N := 4) [.int v5, .int 2] (fun _ _ h => c_X5_get (kl x) N w (ok_14 hS) _ _ h) (g_cwV C hR ml_X1_43 im_X5_get sl_X5_get ini_X5 cd_X5_get hd_X5_get (by decide)) kd_14 (by decide) rfl (in_14 hS) rfl _ rfl (Nat.le_of_ble_eq_true rfl) dX1_holds_114 hf (fun r4 s4 hf => ?_)
              refine g_callVI C (R := RX1) (T := TX1) (N := 5) [.ref (ad w 31), .int r4] (fun _ _ h => c_X1_valueOf (kl x) N w hS _ h) (g_cwV C hR ml_X1_108 im_X1_valueOf sl_X1_valueOf ini_X1 cd_X1_valueOf hd_X1_valueOf (by decide)) kd_33 (by decide) rfl (in_33 hS) rfl _ rfl (Nat.le_of_ble_eq_true rfl) dX1_holds_117 hf (fun r5 s5 hf => ?_)
              refine g_istore (lv' := [(8, .int r5), (7, .int r3), (6, .int r1), (0, .ref (ad w 33)), (1, .ref (ad w 1)), (2, .ref (ad w 31)), (4, .int v4), (5, .int v5)]) C dX1_holds_120 (by decide) rfl ?_
              refine g_aload_n C dX1_holds_122 rfl 3 rfl ?_
              refine g_get C (R := RX1) (T := TX1) (N := 5) (k := 0) (v := .ref (ad w 34)) kd_33 (by decide) rfl (in_33 hS) hinX1 (by decide) fl_X1_14 rfl rfl dX1_holds_123 ?_
              refine g_iload C dX1_holds_126 2 rfl ?_
              refine g_iload C dX1_holds_128 1 rfl ?_
              refine g_iload C dX1_holds_130 0 rfl ?_
              refine g_callSB C [.int r1, .int r3, .int r5] (fun _ _ h => c_X1_isSo (kl x) N w _ _ _ h) (g_cwS C hR ml_X1_112 sm_X1_isSo ini_X1 cd_X1_isSo hd_X1_isSo (by decide)) rfl _ rfl (Nat.le_of_ble_eq_true rfl) dX1_holds_132 hf (fun r6 s6 hf => ?_)
              refine g_ifeqB (tgt := 142) C dX1_holds_135 (by decide) hf (fun hf => ?_) (fun hf => ?_)
              · refine g_iconst C (v := 0) dX1_holds_142 rfl ?_
                refine g_sub [3, 4, 5, 6, 7] rfl ?_
                exact j143 (f_X1_holds_L39 N k152 n) k152 ih q152 _ _ _ _ hf
              · refine g_iconst C (v := 1) dX1_holds_138 rfl ?_
                refine g_goto (tgt := 143) C dX1_holds_139 (by decide) ?_
                refine g_sub [3, 4, 5, 6, 7] rfl ?_
                exact j143 (f_X1_holds_L39 N k152 n) k152 ih q152 _ _ _ _ hf
            · refine g_sub [1, 2, 3, 4, 5, 0] rfl ?_
              exact j79 (f_X1_holds_L39 N k152 n) k152 ih q152 _ _ _ _ hf
  refine g_lv (lv' := [(0, .ref (ad w 33)), (1, .ref (ad w 1)), (2, .ref (ad w 31)), (3, .int a3)]) rfl ?_
  unfold f_X1_holds at hf
  refine g_aload_n C dX1_holds_0 rfl 0 rfl ?_
  refine g_get C (R := RX1) (T := TX1) (N := 5) (k := 0) (v := .ref (ad w 34)) kd_33 (by decide) rfl (in_33 hS) hinX1 (by decide) fl_X1_14 rfl rfl dX1_holds_1 ?_
  refine g_callVV C (R := RX3) (T := TX3) (N := 2) [] (fun _ h => c_X3_clear (kl x) N w (ok_34 hS) h) (g_cwV C hR ml_X1_94 im_X3_clear sl_X3_clear ini_X3 cd_X3_clear hd_X3_clear (by decide)) kd_34 (by decide) rfl (in_34 hS) rfl _ rfl (Nat.le_of_ble_eq_true rfl) dX1_holds_4 hf (fun s1 hf => ?_)
  refine g_aload_n C dX1_holds_7 rfl 1 rfl ?_
  refine g_get C (R := RX0) (T := TX0) (N := 8) (k := 5) (v := .ref (ad w 12)) kd_1 (by decide) rfl (in_1 hS) hinX0 (by decide) fl_X1_37 rfl rfl dX1_holds_8 ?_
  refine g_iload_n C dX1_holds_11 rfl 3 rfl ?_
  refine g_iconst C (v := 2) dX1_holds_12 rfl ?_
  refine g_callVI C (R := RX5) (T := TX5) (N := 4) [.int a3, .int 2] (fun _ _ h => c_X5_get (kl x) N w (ok_12 hS) _ _ h) (g_cwV C hR ml_X1_43 im_X5_get sl_X5_get ini_X5 cd_X5_get hd_X5_get (by decide)) kd_12 (by decide) rfl (in_12 hS) rfl _ rfl (Nat.le_of_ble_eq_true rfl) dX1_holds_13 hf (fun r2 s2 hf => ?_)
  refine g_aload_n C dX1_holds_16 rfl 1 rfl ?_
  refine g_get C (R := RX0) (T := TX0) (N := 8) (k := 6) (v := .ref (ad w 14)) kd_1 (by decide) rfl (in_1 hS) hinX0 (by decide) fl_X1_97 rfl rfl dX1_holds_17 ?_
  refine g_get C (R := RX5) (T := TX5) (N := 4) (k := 3) (v := .int (rI s2 14 3)) kd_14 (by decide) rfl (in_14 hS) hinX5 (by decide) fl_X1_59 rfl rfl dX1_holds_20 ?_
  refine g_imin C (kR_of hR (by decide)) ml_X1_100 sm_J9_min_7cf53 ini_J9 cd_J9_min_7cf53 (Nat.le_of_ble_eq_true rfl) dX1_holds_23 ?_
  refine g_istore (lv' := [(4, .int (imin r2 (rI s2 14 3))), (0, .ref (ad w 33)), (1, .ref (ad w 1)), (2, .ref (ad w 31)), (3, .int a3)]) C dX1_holds_26 (by decide) rfl ?_
  refine g_aload_n C dX1_holds_28 rfl 2 rfl ?_
  refine g_get C (R := RX0) (T := TX0) (N := 8) (k := 5) (v := .ref (ad w 12)) kd_1 (by decide) rfl (in_1 hS) hinX0 (by decide) fl_X1_37 rfl rfl dX1_holds_29 ?_
  refine g_iload_n C dX1_holds_32 rfl 4 rfl ?_
  refine g_iconst C (v := 1) dX1_holds_33 rfl ?_
  refine g_callVI C (R := RX5) (T := TX5) (N := 4) [.int a3, .int 1] (fun _ _ h => c_X5_get (kl x) N w (ok_12 hS) _ _ h) (g_cwV C hR ml_X1_43 im_X5_get sl_X5_get ini_X5 cd_X5_get hd_X5_get (by decide)) kd_12 (by decide) rfl (in_12 hS) rfl _ rfl (Nat.le_of_ble_eq_true rfl) dX1_holds_34 hf (fun r3 s3 hf => ?_)
  refine g_istore (lv' := [(5, .int r3), (4, .int (imin r2 (rI s2 14 3))), (0, .ref (ad w 33)), (1, .ref (ad w 1)), (2, .ref (ad w 31)), (3, .int a3)]) C dX1_holds_37 (by decide) rfl ?_
  refine g_sub [2, 3, 4, 1, 0] rfl ?_
  exact j39 (f_X1_holds_j152 N) j152 N _ _ _ hf

set_option maxHeartbeats 4000000 in
set_option maxRecDepth 100000 in
theorem c_X1_clauseFor (l : Launch) (N : Nat) (w : WX) (hS : SS w = Sc) (a3 : Int32) {s s' : Mem} {r : Int32} (hf : f_X1_clauseFor N a3 s = some (r, s')) : CI l yX1_clauseFor (wz yX1_clauseFor cX1_clauseFor 5 (some .int)) ({ frames := 4, cells := 0, slots := 0, locals := 96 } : Room) [.ref (ad w 33), .ref (ad w 1), .ref (ad w 31), .int a3] w s r s' := by
  refine met_startI (cc := cX1_clauseFor) (ret := (some .int)) (own := RX1) (maxL := 5) (by decide) rfl (Nat.le_of_ble_eq_true rfl) (fun x C hR hl => ?_)
  have j16 : ∀ (n : Nat), ∀ (v4 : Int32) (s : Mem), f_X1_clauseFor_L16 N n v4 s = some (r, s') → G x (QI x w r s') 5 w 16 [(0, .ref (ad w 33)), (1, .ref (ad w 1)), (2, .ref (ad w 31)), (4, .int v4)] [] s := by
    intro n
    induction n with
    | zero => intro v4 s hf; cases hf
    | succ n ih =>
      intro v4 s hf
      unfold f_X1_clauseFor_L16 at hf
      refine g_iload C dX1_clauseFor_16 3 rfl ?_
      refine g_aload_n C dX1_clauseFor_18 rfl 1 rfl ?_
      refine g_get C (R := RX0) (T := TX0) (N := 8) (k := 5) (v := .ref (ad w 12)) kd_1 (by decide) rfl (in_1 hS) hinX0 (by decide) fl_X1_37 rfl rfl dX1_clauseFor_19 ?_
      refine g_get C (R := RX5) (T := TX5) (N := 4) (k := 3) (v := .int (rI s 12 3)) kd_12 (by decide) rfl (in_12 hS) hinX5 (by decide) fl_X1_59 rfl rfl dX1_clauseFor_22 ?_
      refine g_icmp_ge (tgt := 48) C dX1_clauseFor_25 (by decide) hf (fun hf => ?_) (fun hf => ?_)
      · refine g_bipush C (v := (-3)) dX1_clauseFor_48 (by decide) ?_
        exact g_iret C dX1_clauseFor_50 hf
      · refine g_aload_n C dX1_clauseFor_28 rfl 0 rfl ?_
        refine g_aload_n C dX1_clauseFor_29 rfl 1 rfl ?_
        refine g_aload_n C dX1_clauseFor_30 rfl 2 rfl ?_
        refine g_iload C dX1_clauseFor_31 3 rfl ?_
        refine g_callVB C (R := RX1) (T := TX1) (N := 5) [.ref (ad w 1), .ref (ad w 31), .int v4] (fun _ _ h => c_X1_holds (kl x) N w hS _ h) (g_cwV C hR ml_X1_62 im_X1_holds sl_X1_holds ini_X1 cd_X1_holds hd_X1_holds (by decide)) kd_33 (by decide) rfl (in_33 hS) rfl _ rfl (Nat.le_of_ble_eq_true rfl) dX1_clauseFor_33 hf (fun r1 s1 hf => ?_)
        refine g_ifeqB (tgt := 42) C dX1_clauseFor_36 (by decide) hf (fun hf => ?_) (fun hf => ?_)
        · refine g_iinc (v' := v4 + 1) (lv' := [(4, .int (v4 + 1)), (0, .ref (ad w 33)), (1, .ref (ad w 1)), (2, .ref (ad w 31))]) C dX1_clauseFor_42 3 rfl rfl (by decide) rfl ?_
          refine g_goto (tgt := 16) C dX1_clauseFor_45 (by decide) ?_
          refine g_sub [1, 2, 3, 0] rfl ?_
          exact ih _ _ hf
        · refine g_iload C dX1_clauseFor_39 3 rfl ?_
          exact g_iret C dX1_clauseFor_41 hf
  refine g_lv (lv' := [(0, .ref (ad w 33)), (1, .ref (ad w 1)), (2, .ref (ad w 31)), (3, .int a3)]) rfl ?_
  unfold f_X1_clauseFor at hf
  refine g_aload_n C dX1_clauseFor_0 rfl 2 rfl ?_
  refine g_aload_n C dX1_clauseFor_1 rfl 1 rfl ?_
  refine g_iload_n C dX1_clauseFor_2 rfl 3 rfl ?_
  refine g_callVV C (R := RX2) (T := TX2) (N := 4) [.ref (ad w 1), .int a3] (fun _ h => c_X2_weigh (kl x) N w hS _ h) (g_cwV C hR ml_X1_49 im_X2_weigh sl_X2_weigh ini_X2 cd_X2_weigh hd_X2_weigh (by decide)) kd_31 (by decide) rfl (in_31 hS) rfl _ rfl (Nat.le_of_ble_eq_true rfl) dX1_clauseFor_3 hf (fun s1 hf => ?_)
  refine g_aload_n C dX1_clauseFor_6 rfl 0 rfl ?_
  refine g_aload_n C dX1_clauseFor_7 rfl 1 rfl ?_
  refine g_aload_n C dX1_clauseFor_8 rfl 2 rfl ?_
  refine g_iload_n C dX1_clauseFor_9 rfl 3 rfl ?_
  refine g_callVV C (R := RX1) (T := TX1) (N := 5) [.ref (ad w 1), .ref (ad w 31), .int a3] (fun _ h => c_X1_learn (kl x) N w hS _ h) (g_cwV C hR ml_X1_55 im_X1_learn sl_X1_learn ini_X1 cd_X1_learn hd_X1_learn (by decide)) kd_33 (by decide) rfl (in_33 hS) rfl _ rfl (Nat.le_of_ble_eq_true rfl) dX1_clauseFor_10 hf (fun s2 hf => ?_)
  refine g_iconst C (v := 0) dX1_clauseFor_13 rfl ?_
  refine g_istore (lv' := [(4, .int 0), (0, .ref (ad w 33)), (1, .ref (ad w 1)), (2, .ref (ad w 31)), (3, .int a3)]) C dX1_clauseFor_14 (by decide) rfl ?_
  refine g_sub [1, 2, 3, 0] rfl ?_
  exact j16 N _ _ hf

set_option maxHeartbeats 4000000 in
set_option maxRecDepth 100000 in
theorem c_X1_isTaken (l : Launch) (N : Nat) (w : WX) (hS : SS w = Sc) (a3 : Int32) {s s' : Mem} {r : Bool} (hf : f_X1_isTaken N a3 s = some (r, s')) : CB l yX1_isTaken (wz yX1_isTaken cX1_isTaken 5 (some .boolean)) ({ frames := 5, cells := 0, slots := 0, locals := 120 } : Room) [.ref (ad w 33), .ref (ad w 1), .ref (ad w 31), .int a3] w s r s' := by
  refine met_startB (cc := cX1_isTaken) (ret := (some .boolean)) (own := RX1) (maxL := 5) (by decide) rfl (Nat.le_of_ble_eq_true rfl) (fun x C hR hl => ?_)
  refine g_lv (lv' := [(0, .ref (ad w 33)), (1, .ref (ad w 1)), (2, .ref (ad w 31)), (3, .int a3)]) rfl ?_
  unfold f_X1_isTaken at hf
  refine g_aload_n C dX1_isTaken_0 rfl 0 rfl ?_
  refine g_aload_n C dX1_isTaken_1 rfl 1 rfl ?_
  refine g_aload_n C dX1_isTaken_2 rfl 2 rfl ?_
  refine g_iload_n C dX1_isTaken_3 rfl 3 rfl ?_
  refine g_callVI C (R := RX1) (T := TX1) (N := 5) [.ref (ad w 1), .ref (ad w 31), .int a3] (fun _ _ h => c_X1_clauseFor (kl x) N w hS _ h) (g_cwV C hR ml_X1_33 im_X1_clauseFor sl_X1_clauseFor ini_X1 cd_X1_clauseFor hd_X1_clauseFor (by decide)) kd_33 (by decide) rfl (in_33 hS) rfl _ rfl (Nat.le_of_ble_eq_true rfl) dX1_isTaken_4 hf (fun r1 s1 hf => ?_)
  refine g_istore (lv' := [(4, .int r1), (0, .ref (ad w 33)), (1, .ref (ad w 1)), (2, .ref (ad w 31)), (3, .int a3)]) C dX1_isTaken_7 (by decide) rfl ?_
  refine g_iload C dX1_isTaken_9 0 rfl ?_
  refine g_bipush C (v := (-3)) dX1_isTaken_11 (by decide) ?_
  refine g_icmp_eq (tgt := 34) C dX1_isTaken_13 (by decide) hf (fun hf => ?_) (fun hf => ?_)
  · refine g_iconst C (v := 0) dX1_isTaken_34 rfl ?_
    exact g_zret (v := false) C dX1_isTaken_35 hf
  · refine g_aload_n C dX1_isTaken_16 rfl 2 rfl ?_
    refine g_get C (R := RX0) (T := TX0) (N := 8) (k := 5) (v := .ref (ad w 12)) kd_1 (by decide) rfl (in_1 hS) hinX0 (by decide) fl_X1_37 rfl rfl dX1_isTaken_17 ?_
    refine g_iload C dX1_isTaken_20 0 rfl ?_
    refine g_iconst C (v := 0) dX1_isTaken_22 rfl ?_
    refine g_callVI C (R := RX5) (T := TX5) (N := 4) [.int r1, .int 0] (fun _ _ h => c_X5_get (kl x) N w (ok_12 hS) _ _ h) (g_cwV C hR ml_X1_43 im_X5_get sl_X5_get ini_X5 cd_X5_get hd_X5_get (by decide)) kd_12 (by decide) rfl (in_12 hS) rfl _ rfl (Nat.le_of_ble_eq_true rfl) dX1_isTaken_23 hf (fun r2 s2 hf => ?_)
    refine g_iconst C (v := 1) dX1_isTaken_26 rfl ?_
    refine g_icmp_ne (tgt := 34) C dX1_isTaken_27 (by decide) hf (fun hf => ?_) (fun hf => ?_)
    · refine g_iconst C (v := 0) dX1_isTaken_34 rfl ?_
      exact g_zret (v := false) C dX1_isTaken_35 hf
    · refine g_iconst C (v := 1) dX1_isTaken_30 rfl ?_
      refine g_goto (tgt := 35) C dX1_isTaken_31 (by decide) ?_
      exact g_zret (v := true) C dX1_isTaken_35 hf

set_option maxHeartbeats 4000000 in
set_option maxRecDepth 100000 in
theorem c_X2_of (l : Launch) (N : Nat) (w : WX) (hS : SS w = Sc) (a1 : Int32) {s s' : Mem} {r : Int64} (hf : f_X2_of N a1 s = some (r, s')) : CL l yX2_of (wz yX2_of cX2_of 2 (some .long)) ({ frames := 0, cells := 0, slots := 0, locals := 0 } : Room) [.ref (ad w 31), .int a1] w s r s' := by
  refine met_startL (cc := cX2_of) (ret := (some .long)) (own := RX2) (maxL := 2) (by decide) rfl (Nat.le_of_ble_eq_true rfl) (fun x C hR hl => ?_)
  refine g_lv (lv' := [(0, .ref (ad w 31)), (1, .int a1)]) rfl ?_
  unfold f_X2_of at hf
  refine g_iload_n C dX2_of_0 rfl 1 rfl ?_
  refine g_if_lt (tgt := 22) C dX2_of_1 (by decide) hf (fun hf => ?_) (fun hf => ?_)
  · refine g_lconst C (v := 0) dX2_of_22 rfl ?_
    exact g_lret C dX2_of_23 hf
  · refine g_iload_n C dX2_of_4 rfl 1 rfl ?_
    refine g_aload_n C dX2_of_5 rfl 0 rfl ?_
    refine g_get C (R := RX2) (T := TX2) (N := 4) (k := 0) (v := .ref (ad w 32)) kd_31 (by decide) rfl (in_31 hS) hinX2 (by decide) fl_X2_9 rfl rfl dX2_of_6 ?_
    refine g_alenJ C (v := 161) kd_32 ln_32 (in_32 hS) rfl dX2_of_9 ?_
    refine g_icmp_ge (tgt := 22) C dX2_of_10 (by decide) hf (fun hf => ?_) (fun hf => ?_)
    · refine g_lconst C (v := 0) dX2_of_22 rfl ?_
      exact g_lret C dX2_of_23 hf
    · refine g_aload_n C dX2_of_13 rfl 0 rfl ?_
      refine g_get C (R := RX2) (T := TX2) (N := 4) (k := 0) (v := .ref (ad w 32)) kd_31 (by decide) rfl (in_31 hS) hinX2 (by decide) fl_X2_9 rfl rfl dX2_of_14 ?_
      refine g_iload_n C dX2_of_17 rfl 1 rfl ?_
      refine g_lald C kd_32 ln_32 (in_32 hS) dX2_of_18 hf (fun hf => ?_)
      refine g_goto (tgt := 23) C dX2_of_19 (by decide) ?_
      exact g_lret C dX2_of_23 hf

set_option maxHeartbeats 4000000 in
set_option maxRecDepth 100000 in
theorem c_X2_ofAge (l : Launch) (N : Nat) (w : WX) (hS : SS w = Sc) (a1 : Int32) {s s' : Mem} {r : Int64} (hf : f_X2_ofAge N a1 s = some (r, s')) : CL l yX2_ofAge (wz yX2_ofAge cX2_ofAge 2 (some .long)) ({ frames := 1, cells := 0, slots := 0, locals := 24 } : Room) [.ref (ad w 31), .int a1] w s r s' := by
  refine met_startL (cc := cX2_ofAge) (ret := (some .long)) (own := RX2) (maxL := 2) (by decide) rfl (Nat.le_of_ble_eq_true rfl) (fun x C hR hl => ?_)
  refine g_lv (lv' := [(0, .ref (ad w 31)), (1, .int a1)]) rfl ?_
  unfold f_X2_ofAge at hf
  refine g_aload_n C dX2_ofAge_0 rfl 0 rfl ?_
  refine g_aload_n C dX2_ofAge_1 rfl 0 rfl ?_
  refine g_get C (R := RX2) (T := TX2) (N := 4) (k := 1) (v := .int (rI s 31 1)) kd_31 (by decide) rfl (in_31 hS) hinX2 (by decide) fl_X2_15 rfl rfl dX2_ofAge_2 ?_
  refine g_iload_n C dX2_ofAge_5 rfl 1 rfl ?_
  refine g_isub C dX2_ofAge_6 ?_
  refine g_callVL C (R := RX2) (T := TX2) (N := 4) [.int ((rI s 31 1) - a1)] (fun _ _ h => c_X2_upTo (kl x) N w hS _ h) (g_cwV C hR ml_X2_67 im_X2_upTo sl_X2_upTo ini_X2 cd_X2_upTo hd_X2_upTo (by decide)) kd_31 (by decide) rfl (in_31 hS) rfl _ rfl (Nat.le_of_ble_eq_true rfl) dX2_ofAge_7 hf (fun r1 s1 hf => ?_)
  exact g_lret C dX2_ofAge_10 hf

set_option maxHeartbeats 4000000 in
set_option maxRecDepth 100000 in
theorem c_X6_runs (l : Launch) (N : Nat) (w : WX) (hS : SS w = Sc) (a1 : Int32) (a2 : Int32) {s s' : Mem} {r : Bool} (hf : f_X6_runs N a1 a2 s = some (r, s')) : CB l yX6_runs (wz yX6_runs cX6_runs 3 (some .boolean)) ({ frames := 1, cells := 0, slots := 0, locals := 23 } : Room) [.ref (ad w 58), .int a1, .int a2] w s r s' := by
  refine met_startB (cc := cX6_runs) (ret := (some .boolean)) (own := RX6) (maxL := 3) (by decide) rfl (Nat.le_of_ble_eq_true rfl) (fun x C hR hl => ?_)
  refine g_lv (lv' := [(0, .ref (ad w 58)), (1, .int a1), (2, .int a2)]) rfl ?_
  unfold f_X6_runs at hf
  refine g_aload_n C dX6_runs_0 rfl 0 rfl ?_
  refine g_get C (R := RX6) (T := TX6) (N := 5) (k := 1) (v := .int (rI s 58 1)) kd_58 (by decide) rfl (in_58 hS) hinX6 (by decide) fl_X6_20 rfl rfl dX6_runs_1 ?_
  refine g_iload_n C dX6_runs_4 rfl 2 rfl ?_
  refine g_callNB C [.int (rI s 58 1), .int a2] (fun _ _ h => c_X8_isUnder (kl x) N w hS _ _ h) (g_cwN C hR (List.mem_of_getElem? (i := 1) rfl) sm_X8_isUnder ini_X8 cd_X8_isUnder hd_X8_isUnder (by decide)) rfl _ rfl (Nat.le_of_ble_eq_true rfl) dX6_runs_5 hf (fun r1 s1 hf => ?_)
  refine g_ifneB (tgt := 13) C dX6_runs_8 (by decide) hf (fun hf => ?_) (fun hf => ?_)
  · refine g_aload_n C dX6_runs_13 rfl 0 rfl ?_
    refine g_get C (R := RX6) (T := TX6) (N := 5) (k := 0) (v := .ref (ad w 59)) kd_58 (by decide) rfl (in_58 hS) hinX6 (by decide) fl_X6_14 rfl rfl dX6_runs_14 ?_
    refine g_iload_n C dX6_runs_17 rfl 1 rfl ?_
    refine g_callVV C (R := RX3) (T := TX3) (N := 2) [.int a1] (fun _ h => c_X3_push (kl x) N w (ok_59 hS) _ h) (g_cwV C hR ml_X6_51 im_X3_push sl_X3_push ini_X3 cd_X3_push hd_X3_push (by decide)) kd_59 (by decide) rfl (in_59 hS) rfl _ rfl (Nat.le_of_ble_eq_true rfl) dX6_runs_18 hf (fun s2 hf => ?_)
    refine g_iconst C (v := 1) dX6_runs_21 rfl ?_
    exact g_zret (v := true) C dX6_runs_22 hf
  · refine g_iconst C (v := 0) dX6_runs_11 rfl ?_
    exact g_zret (v := false) C dX6_runs_12 hf

set_option maxHeartbeats 4000000 in
set_option maxRecDepth 100000 in
theorem c_X6_saysOf (l : Launch) (N : Nat) (w : WX) (hS : SS w = Sc) (a1 : Int32) {s s' : Mem} {r : Int32} (hf : f_X6_saysOf N a1 s = some (r, s')) : CI l yX6_saysOf (wz yX6_saysOf cX6_saysOf 6 (some .int)) ({ frames := 2, cells := 0, slots := 0, locals := 45 } : Room) [.ref (ad w 58), .int a1] w s r s' := by
  refine met_startI (cc := cX6_saysOf) (ret := (some .int)) (own := RX6) (maxL := 6) (by decide) rfl (Nat.le_of_ble_eq_true rfl) (fun x C hR hl => ?_)
  have j82 : ∀ (v2 : Bool) (v5 : Int32) (s : Mem), f_X6_saysOf_j82 N v2 v5 s = some (r, s') → G x (QI x w r s') 6 w 82 [(2, .int (bI v2)), (5, .int v5)] [] s := by
    intro v2 v5 s hf
    unfold f_X6_saysOf_j82 at hf
    refine g_iload_n C dX6_saysOf_82 rfl 0 rfl ?_
    refine g_ifeqB (tgt := 93) C dX6_saysOf_83 (by decide) hf (fun hf => ?_) (fun hf => ?_)
    · refine g_iload C dX6_saysOf_93 1 rfl ?_
      exact g_iret C dX6_saysOf_95 hf
    · refine g_iload C dX6_saysOf_86 1 rfl ?_
      refine g_iconst C (v := 5) dX6_saysOf_88 rfl ?_
      refine g_imul C dX6_saysOf_89 ?_
      refine g_goto (tgt := 95) C dX6_saysOf_90 (by decide) ?_
      exact g_iret C dX6_saysOf_95 hf
  have j69 : ∀ (v2 : Bool) (v3 : Bool) (v5 : Int32) (s : Mem), f_X6_saysOf_j69 N v2 v3 v5 s = some (r, s') → G x (QI x w r s') 6 w 69 [(0, .ref (ad w 58)), (2, .int (bI v2)), (3, .int (bI v3)), (5, .int v5)] [] s := by
    intro v2 v3 v5 s hf
    unfold f_X6_saysOf_j69 at hf
    refine g_iload_n C dX6_saysOf_69 rfl 2 rfl ?_
    refine g_ifeqB (tgt := 82) C dX6_saysOf_70 (by decide) hf (fun hf => ?_) (fun hf => ?_)
    · refine g_sub [1, 3] rfl ?_
      exact j82 _ _ _ hf
    · refine g_iload C dX6_saysOf_73 3 rfl ?_
      refine g_aload_n C dX6_saysOf_75 rfl 0 rfl ?_
      refine g_get C (R := RX6) (T := TX6) (N := 5) (k := 3) (v := .int (rI s 58 3)) kd_58 (by decide) rfl (in_58 hS) hinX6 (by decide) fl_X6_27 rfl rfl dX6_saysOf_76 ?_
      refine g_ixor C dX6_saysOf_79 ?_
      refine g_istore (lv' := [(5, .int (v5 ^^^ (rI s 58 3))), (0, .ref (ad w 58)), (2, .int (bI v2)), (3, .int (bI v3))]) C dX6_saysOf_80 (by decide) rfl ?_
      refine g_sub [2, 0] rfl ?_
      exact j82 _ _ _ hf
  refine g_lv (lv' := [(0, .ref (ad w 58)), (1, .int a1)]) rfl ?_
  unfold f_X6_saysOf at hf
  refine g_aload_n C dX6_saysOf_0 rfl 0 rfl ?_
  refine g_bipush C (v := 80) dX6_saysOf_1 (by decide) ?_
  refine g_bipush C (v := 8) dX6_saysOf_3 (by decide) ?_
  refine g_callVB C (R := RX6) (T := TX6) (N := 5) [.int 80, .int 8] (fun _ _ h => c_X6_runs (kl x) N w hS _ _ h) (g_cwV C hR ml_X6_54 im_X6_runs sl_X6_runs ini_X6 cd_X6_runs hd_X6_runs (by decide)) kd_58 (by decide) rfl (in_58 hS) rfl _ rfl (Nat.le_of_ble_eq_true rfl) dX6_saysOf_5 hf (fun r1 s1 hf => ?_)
  refine g_ifeqB (tgt := 18) C dX6_saysOf_8 (by decide) hf (fun hf => ?_) (fun hf => ?_)
  · refine g_aload_n C dX6_saysOf_18 rfl 0 rfl ?_
    refine g_bipush C (v := 70) dX6_saysOf_19 (by decide) ?_
    refine g_bipush C (v := 7) dX6_saysOf_21 (by decide) ?_
    refine g_callVB C (R := RX6) (T := TX6) (N := 5) [.int 70, .int 7] (fun _ _ h => c_X6_runs (kl x) N w hS _ _ h) (g_cwV C hR ml_X6_54 im_X6_runs sl_X6_runs ini_X6 cd_X6_runs hd_X6_runs (by decide)) kd_58 (by decide) rfl (in_58 hS) rfl _ rfl (Nat.le_of_ble_eq_true rfl) dX6_saysOf_23 hf (fun r2 s2 hf => ?_)
    refine g_istore_n (lv' := [(2, .int (bI r2)), (0, .ref (ad w 58)), (1, .int a1)]) C dX6_saysOf_26 rfl (by decide) rfl ?_
    refine g_aload_n C dX6_saysOf_27 rfl 1 rfl ?_
    refine g_bipush C (v := 50) dX6_saysOf_28 (by decide) ?_
    refine g_iconst C (v := 5) dX6_saysOf_30 rfl ?_
    refine g_callVB C (R := RX6) (T := TX6) (N := 5) [.int 50, .int 5] (fun _ _ h => c_X6_runs (kl x) N w hS _ _ h) (g_cwV C hR ml_X6_54 im_X6_runs sl_X6_runs ini_X6 cd_X6_runs hd_X6_runs (by decide)) kd_58 (by decide) rfl (in_58 hS) rfl _ rfl (Nat.le_of_ble_eq_true rfl) dX6_saysOf_31 hf (fun r3 s3 hf => ?_)
    refine g_istore_n (lv' := [(3, .int (bI r3)), (2, .int (bI r2)), (0, .ref (ad w 58)), (1, .int a1)]) C dX6_saysOf_34 rfl (by decide) rfl ?_
    refine g_aload_n C dX6_saysOf_35 rfl 2 rfl ?_
    refine g_bipush C (v := 20) dX6_saysOf_36 (by decide) ?_
    refine g_iconst C (v := 2) dX6_saysOf_38 rfl ?_
    refine g_callVB C (R := RX6) (T := TX6) (N := 5) [.int 20, .int 2] (fun _ _ h => c_X6_runs (kl x) N w hS _ _ h) (g_cwV C hR ml_X6_54 im_X6_runs sl_X6_runs ini_X6 cd_X6_runs hd_X6_runs (by decide)) kd_58 (by decide) rfl (in_58 hS) rfl _ rfl (Nat.le_of_ble_eq_true rfl) dX6_saysOf_39 hf (fun r4 s4 hf => ?_)
    refine g_istore (lv' := [(4, .int (bI r4)), (3, .int (bI r3)), (2, .int (bI r2)), (0, .ref (ad w 58)), (1, .int a1)]) C dX6_saysOf_42 (by decide) rfl ?_
    refine g_aload_n C dX6_saysOf_44 rfl 3 rfl ?_
    refine g_get C (R := RX6) (T := TX6) (N := 5) (k := 0) (v := .ref (ad w 59)) kd_58 (by decide) rfl (in_58 hS) hinX6 (by decide) fl_X6_14 rfl rfl dX6_saysOf_45 ?_
    refine g_bipush C (v := 10) dX6_saysOf_48 (by decide) ?_
    refine g_callVV C (R := RX3) (T := TX3) (N := 2) [.int 10] (fun _ h => c_X3_push (kl x) N w (ok_59 hS) _ h) (g_cwV C hR ml_X6_51 im_X3_push sl_X3_push ini_X3 cd_X3_push hd_X3_push (by decide)) kd_59 (by decide) rfl (in_59 hS) rfl _ rfl (Nat.le_of_ble_eq_true rfl) dX6_saysOf_50 hf (fun s5 hf => ?_)
    refine g_iload_n C dX6_saysOf_53 rfl 4 rfl ?_
    refine g_aload_n C dX6_saysOf_54 rfl 3 rfl ?_
    refine g_get C (R := RX6) (T := TX6) (N := 5) (k := 3) (v := .int (rI s5 58 3)) kd_58 (by decide) rfl (in_58 hS) hinX6 (by decide) fl_X6_27 rfl rfl dX6_saysOf_55 ?_
    refine g_iadd C dX6_saysOf_58 ?_
    refine g_istore (lv' := [(5, .int (a1 + (rI s5 58 3))), (4, .int (bI r4)), (3, .int (bI r3)), (2, .int (bI r2)), (0, .ref (ad w 58)), (1, .int a1)]) C dX6_saysOf_59 (by decide) rfl ?_
    refine g_iload C dX6_saysOf_61 1 rfl ?_
    refine g_ifeqB (tgt := 69) C dX6_saysOf_63 (by decide) hf (fun hf => ?_) (fun hf => ?_)
    · refine g_sub [4, 3, 2, 0] rfl ?_
      exact j69 _ _ _ _ hf
    · refine g_iinc (v' := (a1 + (rI s5 58 3)) + (-1)) (lv' := [(5, .int ((a1 + (rI s5 58 3)) + (-1))), (4, .int (bI r4)), (3, .int (bI r3)), (2, .int (bI r2)), (0, .ref (ad w 58)), (1, .int a1)]) C dX6_saysOf_66 0 rfl rfl (by decide) rfl ?_
      refine g_sub [4, 3, 2, 0] rfl ?_
      exact j69 _ _ _ _ hf
  · refine g_aload_n C dX6_saysOf_11 rfl 0 rfl ?_
    refine g_get C (R := RX6) (T := TX6) (N := 5) (k := 3) (v := .int (rI s1 58 3)) kd_58 (by decide) rfl (in_58 hS) hinX6 (by decide) fl_X6_27 rfl rfl dX6_saysOf_12 ?_
    refine g_iload_n C dX6_saysOf_15 rfl 1 rfl ?_
    refine g_isub C dX6_saysOf_16 ?_
    exact g_iret C dX6_saysOf_17 hf

set_option maxHeartbeats 4000000 in
set_option maxRecDepth 100000 in
theorem c_X6_leansOf (l : Launch) (N : Nat) (w : WX) (hS : SS w = Sc) (a1 : Int32) {s s' : Mem} {r : Int32} (hf : f_X6_leansOf N a1 s = some (r, s')) : CI l yX6_leansOf (wz yX6_leansOf cX6_leansOf 5 (some .int)) ({ frames := 3, cells := 0, slots := 0, locals := 70 } : Room) [.ref (ad w 58), .int a1] w s r s' := by
  refine met_startI (cc := cX6_leansOf) (ret := (some .int)) (own := RX6) (maxL := 5) (by decide) rfl (Nat.le_of_ble_eq_true rfl) (fun x C hR hl => ?_)
  have j70 : ∀ (v2 : Bool) (v4 : Int32) (s : Mem), f_X6_leansOf_j70 N v2 v4 s = some (r, s') → G x (QI x w r s') 5 w 70 [(2, .int (bI v2)), (4, .int v4)] [] s := by
    intro v2 v4 s hf
    unfold f_X6_leansOf_j70 at hf
    refine g_iload_n C dX6_leansOf_70 rfl 0 rfl ?_
    refine g_ifeqB (tgt := 81) C dX6_leansOf_71 (by decide) hf (fun hf => ?_) (fun hf => ?_)
    · refine g_iload C dX6_leansOf_81 1 rfl ?_
      exact g_iret C dX6_leansOf_83 hf
    · refine g_iconst C (v := 0) dX6_leansOf_74 rfl ?_
      refine g_iload C dX6_leansOf_75 1 rfl ?_
      refine g_isub C dX6_leansOf_77 ?_
      refine g_goto (tgt := 83) C dX6_leansOf_78 (by decide) ?_
      exact g_iret C dX6_leansOf_83 hf
  refine g_lv (lv' := [(0, .ref (ad w 58)), (1, .int a1)]) rfl ?_
  unfold f_X6_leansOf at hf
  refine g_aload_n C dX6_leansOf_0 rfl 0 rfl ?_
  refine g_bipush C (v := 81) dX6_leansOf_1 (by decide) ?_
  refine g_bipush C (v := 8) dX6_leansOf_3 (by decide) ?_
  refine g_callVB C (R := RX6) (T := TX6) (N := 5) [.int 81, .int 8] (fun _ _ h => c_X6_runs (kl x) N w hS _ _ h) (g_cwV C hR ml_X6_54 im_X6_runs sl_X6_runs ini_X6 cd_X6_runs hd_X6_runs (by decide)) kd_58 (by decide) rfl (in_58 hS) rfl _ rfl (Nat.le_of_ble_eq_true rfl) dX6_leansOf_5 hf (fun r1 s1 hf => ?_)
  refine g_ifeqB (tgt := 18) C dX6_leansOf_8 (by decide) hf (fun hf => ?_) (fun hf => ?_)
  · refine g_aload_n C dX6_leansOf_18 rfl 0 rfl ?_
    refine g_bipush C (v := 60) dX6_leansOf_19 (by decide) ?_
    refine g_bipush C (v := 6) dX6_leansOf_21 (by decide) ?_
    refine g_callVB C (R := RX6) (T := TX6) (N := 5) [.int 60, .int 6] (fun _ _ h => c_X6_runs (kl x) N w hS _ _ h) (g_cwV C hR ml_X6_54 im_X6_runs sl_X6_runs ini_X6 cd_X6_runs hd_X6_runs (by decide)) kd_58 (by decide) rfl (in_58 hS) rfl _ rfl (Nat.le_of_ble_eq_true rfl) dX6_leansOf_23 hf (fun r2 s2 hf => ?_)
    refine g_istore_n (lv' := [(2, .int (bI r2)), (0, .ref (ad w 58)), (1, .int a1)]) C dX6_leansOf_26 rfl (by decide) rfl ?_
    refine g_aload_n C dX6_leansOf_27 rfl 1 rfl ?_
    refine g_bipush C (v := 30) dX6_leansOf_28 (by decide) ?_
    refine g_iconst C (v := 3) dX6_leansOf_30 rfl ?_
    refine g_callVB C (R := RX6) (T := TX6) (N := 5) [.int 30, .int 3] (fun _ _ h => c_X6_runs (kl x) N w hS _ _ h) (g_cwV C hR ml_X6_54 im_X6_runs sl_X6_runs ini_X6 cd_X6_runs hd_X6_runs (by decide)) kd_58 (by decide) rfl (in_58 hS) rfl _ rfl (Nat.le_of_ble_eq_true rfl) dX6_leansOf_31 hf (fun r3 s3 hf => ?_)
    refine g_istore_n (lv' := [(3, .int (bI r3)), (2, .int (bI r2)), (0, .ref (ad w 58)), (1, .int a1)]) C dX6_leansOf_34 rfl (by decide) rfl ?_
    refine g_aload_n C dX6_leansOf_35 rfl 2 rfl ?_
    refine g_get C (R := RX6) (T := TX6) (N := 5) (k := 0) (v := .ref (ad w 59)) kd_58 (by decide) rfl (in_58 hS) hinX6 (by decide) fl_X6_14 rfl rfl dX6_leansOf_36 ?_
    refine g_bipush C (v := 11) dX6_leansOf_39 (by decide) ?_
    refine g_callVV C (R := RX3) (T := TX3) (N := 2) [.int 11] (fun _ h => c_X3_push (kl x) N w (ok_59 hS) _ h) (g_cwV C hR ml_X6_51 im_X3_push sl_X3_push ini_X3 cd_X3_push hd_X3_push (by decide)) kd_59 (by decide) rfl (in_59 hS) rfl _ rfl (Nat.le_of_ble_eq_true rfl) dX6_leansOf_41 hf (fun s4 hf => ?_)
    refine g_aload_n C dX6_leansOf_44 rfl 2 rfl ?_
    refine g_iload_n C dX6_leansOf_45 rfl 3 rfl ?_
    refine g_callVI C (R := RX6) (T := TX6) (N := 5) [.int a1] (fun _ _ h => c_X6_saysOf (kl x) N w hS _ h) (g_cwV C hR ml_X6_34 im_X6_saysOf sl_X6_saysOf ini_X6 cd_X6_saysOf hd_X6_saysOf (by decide)) kd_58 (by decide) rfl (in_58 hS) rfl _ rfl (Nat.le_of_ble_eq_true rfl) dX6_leansOf_46 hf (fun r5 s5 hf => ?_)
    refine g_iconst C (v := 2) dX6_leansOf_49 rfl ?_
    refine g_imul C dX6_leansOf_50 ?_
    refine g_istore (lv' := [(4, .int (r5 * 2)), (3, .int (bI r3)), (2, .int (bI r2)), (0, .ref (ad w 58)), (1, .int a1)]) C dX6_leansOf_51 (by decide) rfl ?_
    refine g_iload_n C dX6_leansOf_53 rfl 1 rfl ?_
    refine g_ifeqB (tgt := 70) C dX6_leansOf_54 (by decide) hf (fun hf => ?_) (fun hf => ?_)
    · refine g_sub [2, 0] rfl ?_
      exact j70 _ _ _ hf
    · refine g_iload C dX6_leansOf_57 0 rfl ?_
      refine g_aload_n C dX6_leansOf_59 rfl 3 rfl ?_
      refine g_aload_n C dX6_leansOf_60 rfl 3 rfl ?_
      refine g_get C (R := RX6) (T := TX6) (N := 5) (k := 2) (v := .int (rI s5 58 2)) kd_58 (by decide) rfl (in_58 hS) hinX6 (by decide) fl_X6_24 rfl rfl dX6_leansOf_61 ?_
      refine g_callVI C (R := RX6) (T := TX6) (N := 5) [.int (rI s5 58 2)] (fun _ _ h => c_X6_saysOf (kl x) N w hS _ h) (g_cwV C hR ml_X6_34 im_X6_saysOf sl_X6_saysOf ini_X6 cd_X6_saysOf hd_X6_saysOf (by decide)) kd_58 (by decide) rfl (in_58 hS) rfl _ rfl (Nat.le_of_ble_eq_true rfl) dX6_leansOf_64 hf (fun r6 s6 hf => ?_)
      refine g_iadd C dX6_leansOf_67 ?_
      refine g_istore (lv' := [(4, .int ((r5 * 2) + r6)), (3, .int (bI r3)), (2, .int (bI r2)), (0, .ref (ad w 58)), (1, .int a1)]) C dX6_leansOf_68 (by decide) rfl ?_
      refine g_sub [2, 0] rfl ?_
      exact j70 _ _ _ hf
  · refine g_iload_n C dX6_leansOf_11 rfl 1 rfl ?_
    refine g_aload_n C dX6_leansOf_12 rfl 0 rfl ?_
    refine g_get C (R := RX6) (T := TX6) (N := 5) (k := 2) (v := .int (rI s1 58 2)) kd_58 (by decide) rfl (in_58 hS) hinX6 (by decide) fl_X6_24 rfl rfl dX6_leansOf_13 ?_
    refine g_iadd C dX6_leansOf_16 ?_
    exact g_iret C dX6_leansOf_17 hf

set_option maxHeartbeats 4000000 in
set_option maxRecDepth 100000 in
theorem c_X6_fitsOf (l : Launch) (N : Nat) (w : WX) (hS : SS w = Sc) (a1 : Int32) {s s' : Mem} {r : Int32} (hf : f_X6_fitsOf N a1 s = some (r, s')) : CI l yX6_fitsOf (wz yX6_fitsOf cX6_fitsOf 4 (some .int)) ({ frames := 2, cells := 0, slots := 0, locals := 45 } : Room) [.ref (ad w 58), .int a1] w s r s' := by
  refine met_startI (cc := cX6_fitsOf) (ret := (some .int)) (own := RX6) (maxL := 4) (by decide) rfl (Nat.le_of_ble_eq_true rfl) (fun x C hR hl => ?_)
  have j67 : ∀ (v3 : Int32) (p0 : Int32) (s : Mem), f_X6_fitsOf_j67 N v3 p0 s = some (r, s') → G x (QI x w r s') 4 w 67 [(3, .int v3)] [.int p0] s := by
    intro v3 p0 s hf
    unfold f_X6_fitsOf_j67 at hf
    refine g_iload_n C dX6_fitsOf_67 rfl 0 rfl ?_
    refine g_idiv C dX6_fitsOf_68 hf (fun hf => ?_)
    exact g_iret C dX6_fitsOf_69 hf
  refine g_lv (lv' := [(0, .ref (ad w 58)), (1, .int a1)]) rfl ?_
  unfold f_X6_fitsOf at hf
  refine g_aload_n C dX6_fitsOf_0 rfl 0 rfl ?_
  refine g_bipush C (v := 82) dX6_fitsOf_1 (by decide) ?_
  refine g_bipush C (v := 8) dX6_fitsOf_3 (by decide) ?_
  refine g_callVB C (R := RX6) (T := TX6) (N := 5) [.int 82, .int 8] (fun _ _ h => c_X6_runs (kl x) N w hS _ _ h) (g_cwV C hR ml_X6_54 im_X6_runs sl_X6_runs ini_X6 cd_X6_runs hd_X6_runs (by decide)) kd_58 (by decide) rfl (in_58 hS) rfl _ rfl (Nat.le_of_ble_eq_true rfl) dX6_fitsOf_5 hf (fun r1 s1 hf => ?_)
  refine g_ifeqB (tgt := 18) C dX6_fitsOf_8 (by decide) hf (fun hf => ?_) (fun hf => ?_)
  · refine g_aload_n C dX6_fitsOf_18 rfl 0 rfl ?_
    refine g_bipush C (v := 51) dX6_fitsOf_19 (by decide) ?_
    refine g_iconst C (v := 5) dX6_fitsOf_21 rfl ?_
    refine g_callVB C (R := RX6) (T := TX6) (N := 5) [.int 51, .int 5] (fun _ _ h => c_X6_runs (kl x) N w hS _ _ h) (g_cwV C hR ml_X6_54 im_X6_runs sl_X6_runs ini_X6 cd_X6_runs hd_X6_runs (by decide)) kd_58 (by decide) rfl (in_58 hS) rfl _ rfl (Nat.le_of_ble_eq_true rfl) dX6_fitsOf_22 hf (fun r2 s2 hf => ?_)
    refine g_istore_n (lv' := [(2, .int (bI r2)), (0, .ref (ad w 58)), (1, .int a1)]) C dX6_fitsOf_25 rfl (by decide) rfl ?_
    refine g_aload_n C dX6_fitsOf_26 rfl 1 rfl ?_
    refine g_get C (R := RX6) (T := TX6) (N := 5) (k := 0) (v := .ref (ad w 59)) kd_58 (by decide) rfl (in_58 hS) hinX6 (by decide) fl_X6_14 rfl rfl dX6_fitsOf_27 ?_
    refine g_bipush C (v := 12) dX6_fitsOf_30 (by decide) ?_
    refine g_callVV C (R := RX3) (T := TX3) (N := 2) [.int 12] (fun _ h => c_X3_push (kl x) N w (ok_59 hS) _ h) (g_cwV C hR ml_X6_51 im_X3_push sl_X3_push ini_X3 cd_X3_push hd_X3_push (by decide)) kd_59 (by decide) rfl (in_59 hS) rfl _ rfl (Nat.le_of_ble_eq_true rfl) dX6_fitsOf_32 hf (fun s3 hf => ?_)
    refine g_aload_n C dX6_fitsOf_35 rfl 1 rfl ?_
    refine g_get C (R := RX6) (T := TX6) (N := 5) (k := 3) (v := .int (rI s3 58 3)) kd_58 (by decide) rfl (in_58 hS) hinX6 (by decide) fl_X6_27 rfl rfl dX6_fitsOf_36 ?_
    refine g_aload_n C dX6_fitsOf_39 rfl 1 rfl ?_
    refine g_get C (R := RX6) (T := TX6) (N := 5) (k := 2) (v := .int (rI s3 58 2)) kd_58 (by decide) rfl (in_58 hS) hinX6 (by decide) fl_X6_24 rfl rfl dX6_fitsOf_40 ?_
    refine g_isub C dX6_fitsOf_43 ?_
    refine g_istore_n (lv' := [(3, .int ((rI s3 58 3) - (rI s3 58 2))), (2, .int (bI r2)), (0, .ref (ad w 58)), (1, .int a1)]) C dX6_fitsOf_44 rfl (by decide) rfl ?_
    refine g_iload_n C dX6_fitsOf_45 rfl 0 rfl ?_
    refine g_if_ne (tgt := 56) C dX6_fitsOf_46 (by decide) hf (fun hf => ?_) (fun hf => ?_)
    · refine g_iload_n C dX6_fitsOf_56 rfl 1 rfl ?_
      refine g_ifeqB (tgt := 66) C dX6_fitsOf_57 (by decide) hf (fun hf => ?_) (fun hf => ?_)
      · refine g_iload_n C dX6_fitsOf_66 rfl 3 rfl ?_
        refine g_sub [0] rfl ?_
        exact j67 _ _ _ hf
      · refine g_iload_n C dX6_fitsOf_60 rfl 3 rfl ?_
        refine g_iconst C (v := 1) dX6_fitsOf_61 rfl ?_
        refine g_iadd C dX6_fitsOf_62 ?_
        refine g_goto (tgt := 67) C dX6_fitsOf_63 (by decide) ?_
        refine g_sub [0] rfl ?_
        exact j67 _ _ _ hf
    · refine g_aload_n C dX6_fitsOf_49 rfl 2 rfl ?_
      refine g_iconst C (v := 1) dX6_fitsOf_50 rfl ?_
      refine g_putI C (R := RX6) (T := TX6) (N := 5) (k := 4) (ty := .boolean) tyX6 tyX6_ok nmX6 kd_58 (by decide) rfl (in_58 hS) hinX6 (by decide) fl_X6_30 rfl rfl rfl rfl rfl (Nat.le_of_ble_eq_true rfl) fs_6_4 dX6_fitsOf_51 ?_
      refine g_nameS hf (fun s4 hf => ?_)
      refine g_iconst C (v := 0) dX6_fitsOf_54 rfl ?_
      exact g_iret C dX6_fitsOf_55 hf
  · refine g_iload_n C dX6_fitsOf_11 rfl 1 rfl ?_
    refine g_aload_n C dX6_fitsOf_12 rfl 0 rfl ?_
    refine g_get C (R := RX6) (T := TX6) (N := 5) (k := 3) (v := .int (rI s1 58 3)) kd_58 (by decide) rfl (in_58 hS) hinX6 (by decide) fl_X6_27 rfl rfl dX6_fitsOf_13 ?_
    refine g_iand C dX6_fitsOf_16 ?_
    exact g_iret C dX6_fitsOf_17 hf

set_option maxHeartbeats 4000000 in
set_option maxRecDepth 100000 in
theorem c_X6_tellsOf (l : Launch) (N : Nat) (w : WX) (hS : SS w = Sc) (a1 : Int32) {s s' : Mem} {r : Int32} (hf : f_X6_tellsOf N a1 s = some (r, s')) : CI l yX6_tellsOf (wz yX6_tellsOf cX6_tellsOf 5 (some .int)) ({ frames := 4, cells := 0, slots := 0, locals := 94 } : Room) [.ref (ad w 58), .int a1] w s r s' := by
  refine met_startI (cc := cX6_tellsOf) (ret := (some .int)) (own := RX6) (maxL := 5) (by decide) rfl (Nat.le_of_ble_eq_true rfl) (fun x C hR hl => ?_)
  have j71 : ∀ (v2 : Bool) (v4 : Int32) (s : Mem), f_X6_tellsOf_j71 N v2 v4 s = some (r, s') → G x (QI x w r s') 5 w 71 [(0, .ref (ad w 58)), (2, .int (bI v2)), (4, .int v4)] [] s := by
    intro v2 v4 s hf
    unfold f_X6_tellsOf_j71 at hf
    refine g_iload_n C dX6_tellsOf_71 rfl 1 rfl ?_
    refine g_ifeqB (tgt := 89) C dX6_tellsOf_72 (by decide) hf (fun hf => ?_) (fun hf => ?_)
    · refine g_iload C dX6_tellsOf_89 2 rfl ?_
      exact g_iret C dX6_tellsOf_91 hf
    · refine g_iload C dX6_tellsOf_75 2 rfl ?_
      refine g_aload_n C dX6_tellsOf_77 rfl 0 rfl ?_
      refine g_aload_n C dX6_tellsOf_78 rfl 0 rfl ?_
      refine g_get C (R := RX6) (T := TX6) (N := 5) (k := 2) (v := .int (rI s 58 2)) kd_58 (by decide) rfl (in_58 hS) hinX6 (by decide) fl_X6_24 rfl rfl dX6_tellsOf_79 ?_
      refine g_callVI C (R := RX6) (T := TX6) (N := 5) [.int (rI s 58 2)] (fun _ _ h => c_X6_fitsOf (kl x) N w hS _ h) (g_cwV C hR ml_X6_41 im_X6_fitsOf sl_X6_fitsOf ini_X6 cd_X6_fitsOf hd_X6_fitsOf (by decide)) kd_58 (by decide) rfl (in_58 hS) rfl _ rfl (Nat.le_of_ble_eq_true rfl) dX6_tellsOf_82 hf (fun r1 s1 hf => ?_)
      refine g_iadd C dX6_tellsOf_85 ?_
      refine g_goto (tgt := 91) C dX6_tellsOf_86 (by decide) ?_
      exact g_iret C dX6_tellsOf_91 hf
  refine g_lv (lv' := [(0, .ref (ad w 58)), (1, .int a1)]) rfl ?_
  unfold f_X6_tellsOf at hf
  refine g_aload_n C dX6_tellsOf_0 rfl 0 rfl ?_
  refine g_bipush C (v := 83) dX6_tellsOf_1 (by decide) ?_
  refine g_bipush C (v := 8) dX6_tellsOf_3 (by decide) ?_
  refine g_callVB C (R := RX6) (T := TX6) (N := 5) [.int 83, .int 8] (fun _ _ h => c_X6_runs (kl x) N w hS _ _ h) (g_cwV C hR ml_X6_54 im_X6_runs sl_X6_runs ini_X6 cd_X6_runs hd_X6_runs (by decide)) kd_58 (by decide) rfl (in_58 hS) rfl _ rfl (Nat.le_of_ble_eq_true rfl) dX6_tellsOf_5 hf (fun r1 s1 hf => ?_)
  refine g_ifeqB (tgt := 23) C dX6_tellsOf_8 (by decide) hf (fun hf => ?_) (fun hf => ?_)
  · refine g_aload_n C dX6_tellsOf_23 rfl 0 rfl ?_
    refine g_bipush C (v := 61) dX6_tellsOf_24 (by decide) ?_
    refine g_bipush C (v := 6) dX6_tellsOf_26 (by decide) ?_
    refine g_callVB C (R := RX6) (T := TX6) (N := 5) [.int 61, .int 6] (fun _ _ h => c_X6_runs (kl x) N w hS _ _ h) (g_cwV C hR ml_X6_54 im_X6_runs sl_X6_runs ini_X6 cd_X6_runs hd_X6_runs (by decide)) kd_58 (by decide) rfl (in_58 hS) rfl _ rfl (Nat.le_of_ble_eq_true rfl) dX6_tellsOf_28 hf (fun r2 s2 hf => ?_)
    refine g_istore_n (lv' := [(2, .int (bI r2)), (0, .ref (ad w 58)), (1, .int a1)]) C dX6_tellsOf_31 rfl (by decide) rfl ?_
    refine g_aload_n C dX6_tellsOf_32 rfl 1 rfl ?_
    refine g_bipush C (v := 40) dX6_tellsOf_33 (by decide) ?_
    refine g_iconst C (v := 4) dX6_tellsOf_35 rfl ?_
    refine g_callVB C (R := RX6) (T := TX6) (N := 5) [.int 40, .int 4] (fun _ _ h => c_X6_runs (kl x) N w hS _ _ h) (g_cwV C hR ml_X6_54 im_X6_runs sl_X6_runs ini_X6 cd_X6_runs hd_X6_runs (by decide)) kd_58 (by decide) rfl (in_58 hS) rfl _ rfl (Nat.le_of_ble_eq_true rfl) dX6_tellsOf_36 hf (fun r3 s3 hf => ?_)
    refine g_istore_n (lv' := [(3, .int (bI r3)), (2, .int (bI r2)), (0, .ref (ad w 58)), (1, .int a1)]) C dX6_tellsOf_39 rfl (by decide) rfl ?_
    refine g_aload_n C dX6_tellsOf_40 rfl 2 rfl ?_
    refine g_get C (R := RX6) (T := TX6) (N := 5) (k := 0) (v := .ref (ad w 59)) kd_58 (by decide) rfl (in_58 hS) hinX6 (by decide) fl_X6_14 rfl rfl dX6_tellsOf_41 ?_
    refine g_bipush C (v := 13) dX6_tellsOf_44 (by decide) ?_
    refine g_callVV C (R := RX3) (T := TX3) (N := 2) [.int 13] (fun _ h => c_X3_push (kl x) N w (ok_59 hS) _ h) (g_cwV C hR ml_X6_51 im_X3_push sl_X3_push ini_X3 cd_X3_push hd_X3_push (by decide)) kd_59 (by decide) rfl (in_59 hS) rfl _ rfl (Nat.le_of_ble_eq_true rfl) dX6_tellsOf_46 hf (fun s4 hf => ?_)
    refine g_aload_n C dX6_tellsOf_49 rfl 2 rfl ?_
    refine g_iload_n C dX6_tellsOf_50 rfl 3 rfl ?_
    refine g_callVI C (R := RX6) (T := TX6) (N := 5) [.int a1] (fun _ _ h => c_X6_leansOf (kl x) N w hS _ h) (g_cwV C hR ml_X6_38 im_X6_leansOf sl_X6_leansOf ini_X6 cd_X6_leansOf hd_X6_leansOf (by decide)) kd_58 (by decide) rfl (in_58 hS) rfl _ rfl (Nat.le_of_ble_eq_true rfl) dX6_tellsOf_51 hf (fun r5 s5 hf => ?_)
    refine g_aload_n C dX6_tellsOf_54 rfl 2 rfl ?_
    refine g_get C (R := RX6) (T := TX6) (N := 5) (k := 2) (v := .int (rI s5 58 2)) kd_58 (by decide) rfl (in_58 hS) hinX6 (by decide) fl_X6_24 rfl rfl dX6_tellsOf_55 ?_
    refine g_ixor C dX6_tellsOf_58 ?_
    refine g_istore (lv' := [(4, .int (r5 ^^^ (rI s5 58 2))), (3, .int (bI r3)), (2, .int (bI r2)), (0, .ref (ad w 58)), (1, .int a1)]) C dX6_tellsOf_59 (by decide) rfl ?_
    refine g_iload_n C dX6_tellsOf_61 rfl 1 rfl ?_
    refine g_ifeqB (tgt := 71) C dX6_tellsOf_62 (by decide) hf (fun hf => ?_) (fun hf => ?_)
    · refine g_sub [3, 2, 0] rfl ?_
      exact j71 _ _ _ hf
    · refine g_iload C dX6_tellsOf_65 0 rfl ?_
      refine g_iconst C (v := 3) dX6_tellsOf_67 rfl ?_
      refine g_imul C dX6_tellsOf_68 ?_
      refine g_istore (lv' := [(4, .int ((r5 ^^^ (rI s5 58 2)) * 3)), (3, .int (bI r3)), (2, .int (bI r2)), (0, .ref (ad w 58)), (1, .int a1)]) C dX6_tellsOf_69 (by decide) rfl ?_
      refine g_sub [3, 2, 0] rfl ?_
      exact j71 _ _ _ hf
  · refine g_aload_n C dX6_tellsOf_11 rfl 0 rfl ?_
    refine g_iload_n C dX6_tellsOf_12 rfl 1 rfl ?_
    refine g_callVI C (R := RX6) (T := TX6) (N := 5) [.int a1] (fun _ _ h => c_X6_saysOf (kl x) N w hS _ h) (g_cwV C hR ml_X6_34 im_X6_saysOf sl_X6_saysOf ini_X6 cd_X6_saysOf hd_X6_saysOf (by decide)) kd_58 (by decide) rfl (in_58 hS) rfl _ rfl (Nat.le_of_ble_eq_true rfl) dX6_tellsOf_13 hf (fun r6 s6 hf => ?_)
    refine g_aload_n C dX6_tellsOf_16 rfl 0 rfl ?_
    refine g_iload_n C dX6_tellsOf_17 rfl 1 rfl ?_
    refine g_callVI C (R := RX6) (T := TX6) (N := 5) [.int a1] (fun _ _ h => c_X6_leansOf (kl x) N w hS _ h) (g_cwV C hR ml_X6_38 im_X6_leansOf sl_X6_leansOf ini_X6 cd_X6_leansOf hd_X6_leansOf (by decide)) kd_58 (by decide) rfl (in_58 hS) rfl _ rfl (Nat.le_of_ble_eq_true rfl) dX6_tellsOf_18 hf (fun r7 s7 hf => ?_)
    refine g_iadd C dX6_tellsOf_21 ?_
    exact g_iret C dX6_tellsOf_22 hf

set_option maxHeartbeats 4000000 in
set_option maxRecDepth 100000 in
theorem c_X6_perform (l : Launch) (N : Nat) (w : WX) (hS : SS w = Sc) (a1 : Int32) (a2 : Int32) {s s' : Mem} {r : Int32} (hf : f_X6_perform N a1 a2 s = some (r, s')) : CI l yX6_perform (wz yX6_perform cX6_perform 4 (some .int)) ({ frames := 5, cells := 0, slots := 0, locals := 118 } : Room) [.ref (ad w 58), .int a1, .int a2] w s r s' := by
  refine met_startI (cc := cX6_perform) (ret := (some .int)) (own := RX6) (maxL := 4) (by decide) rfl (Nat.le_of_ble_eq_true rfl) (fun x C hR hl => ?_)
  have j78 : ∀ (v3 : Int32) (s : Mem), f_X6_perform_j78 N v3 s = some (r, s') → G x (QI x w r s') 4 w 78 [(0, .ref (ad w 58)), (3, .int v3)] [] s := by
    intro v3 s hf
    unfold f_X6_perform_j78 at hf
    refine g_aload_n C dX6_perform_78 rfl 0 rfl ?_
    refine g_get C (R := RX6) (T := TX6) (N := 5) (k := 4) (v := .int (rI s 58 4)) kd_58 (by decide) rfl (in_58 hS) hinX6 (by decide) fl_X6_30 rfl rfl dX6_perform_79 ?_
    refine g_if_eq (tgt := 90) C dX6_perform_82 (by decide) hf (fun hf => ?_) (fun hf => ?_)
    · refine g_iload_n C dX6_perform_90 rfl 1 rfl ?_
      exact g_iret C dX6_perform_91 hf
    · refine g_bipush C (v := (-15)) dX6_perform_85 (by decide) ?_
      refine g_goto (tgt := 91) C dX6_perform_87 (by decide) ?_
      exact g_iret C dX6_perform_91 hf
  refine g_lv (lv' := [(0, .ref (ad w 58)), (1, .int a1), (2, .int a2)]) rfl ?_
  unfold f_X6_perform at hf
  refine g_aload_n C dX6_perform_0 rfl 0 rfl ?_
  refine g_iconst C (v := 0) dX6_perform_1 rfl ?_
  refine g_putI C (R := RX6) (T := TX6) (N := 5) (k := 4) (ty := .boolean) tyX6 tyX6_ok nmX6 kd_58 (by decide) rfl (in_58 hS) hinX6 (by decide) fl_X6_30 rfl rfl rfl rfl rfl (Nat.le_of_ble_eq_true rfl) fs_6_4 dX6_perform_2 ?_
  refine g_nameS hf (fun s1 hf => ?_)
  refine g_iconst C (v := 0) dX6_perform_5 rfl ?_
  refine g_istore_n (lv' := [(3, .int 0), (0, .ref (ad w 58)), (1, .int a1), (2, .int a2)]) C dX6_perform_6 rfl (by decide) rfl ?_
  refine g_iload_n C dX6_perform_7 rfl 2 rfl ?_
  rcases ite_some hf with ⟨e0, hf⟩ | ⟨n0, hf⟩
  · refine g_tabIn (k := 0) (tgt := 40) C dX6_perform_8 e0 (by decide) (by decide) rfl (by decide) ?_
    refine g_aload_n C dX6_perform_40 rfl 1 rfl ?_
    refine g_iload_n C dX6_perform_41 rfl 3 rfl ?_
    refine g_callVI C (R := RX6) (T := TX6) (N := 5) [.int a2] (fun _ _ h => c_X6_saysOf (kl x) N w hS _ h) (g_cwV C hR ml_X6_34 im_X6_saysOf sl_X6_saysOf ini_X6 cd_X6_saysOf hd_X6_saysOf (by decide)) kd_58 (by decide) rfl (in_58 hS) rfl _ rfl (Nat.le_of_ble_eq_true rfl) dX6_perform_42 hf (fun r2 s2 hf => ?_)
    refine g_istore_n (lv' := [(3, .int r2), (0, .ref (ad w 58)), (1, .int a1), (2, .int a2)]) C dX6_perform_45 rfl (by decide) rfl ?_
    refine g_goto (tgt := 78) C dX6_perform_46 (by decide) ?_
    refine g_sub [1, 0] rfl ?_
    exact j78 _ _ hf
  rcases ite_some hf with ⟨e1, hf⟩ | ⟨n1, hf⟩
  · refine g_tabIn (k := 1) (tgt := 49) C dX6_perform_8 e1 (by decide) (by decide) rfl (by decide) ?_
    refine g_aload_n C dX6_perform_49 rfl 1 rfl ?_
    refine g_iload_n C dX6_perform_50 rfl 3 rfl ?_
    refine g_callVI C (R := RX6) (T := TX6) (N := 5) [.int a2] (fun _ _ h => c_X6_leansOf (kl x) N w hS _ h) (g_cwV C hR ml_X6_38 im_X6_leansOf sl_X6_leansOf ini_X6 cd_X6_leansOf hd_X6_leansOf (by decide)) kd_58 (by decide) rfl (in_58 hS) rfl _ rfl (Nat.le_of_ble_eq_true rfl) dX6_perform_51 hf (fun r3 s3 hf => ?_)
    refine g_istore_n (lv' := [(3, .int r3), (0, .ref (ad w 58)), (1, .int a1), (2, .int a2)]) C dX6_perform_54 rfl (by decide) rfl ?_
    refine g_goto (tgt := 78) C dX6_perform_55 (by decide) ?_
    refine g_sub [1, 0] rfl ?_
    exact j78 _ _ hf
  rcases ite_some hf with ⟨e2, hf⟩ | ⟨n2, hf⟩
  · refine g_tabIn (k := 2) (tgt := 58) C dX6_perform_8 e2 (by decide) (by decide) rfl (by decide) ?_
    refine g_aload_n C dX6_perform_58 rfl 1 rfl ?_
    refine g_iload_n C dX6_perform_59 rfl 3 rfl ?_
    refine g_callVI C (R := RX6) (T := TX6) (N := 5) [.int a2] (fun _ _ h => c_X6_fitsOf (kl x) N w hS _ h) (g_cwV C hR ml_X6_41 im_X6_fitsOf sl_X6_fitsOf ini_X6 cd_X6_fitsOf hd_X6_fitsOf (by decide)) kd_58 (by decide) rfl (in_58 hS) rfl _ rfl (Nat.le_of_ble_eq_true rfl) dX6_perform_60 hf (fun r4 s4 hf => ?_)
    refine g_istore_n (lv' := [(3, .int r4), (0, .ref (ad w 58)), (1, .int a1), (2, .int a2)]) C dX6_perform_63 rfl (by decide) rfl ?_
    refine g_goto (tgt := 78) C dX6_perform_64 (by decide) ?_
    refine g_sub [1, 0] rfl ?_
    exact j78 _ _ hf
  rcases ite_some hf with ⟨e3, hf⟩ | ⟨n3, hf⟩
  · refine g_tabIn (k := 3) (tgt := 67) C dX6_perform_8 e3 (by decide) (by decide) rfl (by decide) ?_
    refine g_aload_n C dX6_perform_67 rfl 1 rfl ?_
    refine g_iload_n C dX6_perform_68 rfl 3 rfl ?_
    refine g_callVI C (R := RX6) (T := TX6) (N := 5) [.int a2] (fun _ _ h => c_X6_tellsOf (kl x) N w hS _ h) (g_cwV C hR ml_X6_44 im_X6_tellsOf sl_X6_tellsOf ini_X6 cd_X6_tellsOf hd_X6_tellsOf (by decide)) kd_58 (by decide) rfl (in_58 hS) rfl _ rfl (Nat.le_of_ble_eq_true rfl) dX6_perform_69 hf (fun r5 s5 hf => ?_)
    refine g_istore_n (lv' := [(3, .int r5), (0, .ref (ad w 58)), (1, .int a1), (2, .int a2)]) C dX6_perform_72 rfl (by decide) rfl ?_
    refine g_goto (tgt := 78) C dX6_perform_73 (by decide) ?_
    refine g_sub [1, 0] rfl ?_
    exact j78 _ _ hf
  refine g_tabOut (tgt := 76) C dX6_perform_8 (by have z0 := lv_neT n0 (a := 0) (by decide); have z1 := lv_neT n1 (a := 1) (by decide); have z2 := lv_neT n2 (a := 2) (by decide); have z3 := lv_neT n3 (a := 3) (by decide); omega) (by decide) ?_
  refine g_iconst C (v := 0) dX6_perform_76 rfl ?_
  exact g_iret C dX6_perform_77 hf

set_option maxHeartbeats 4000000 in
set_option maxRecDepth 100000 in
theorem c_X7_byteAt (l : Launch) (N : Nat) (w : WX) (hS : SS w = Sc) (a1 : Int32) {s s' : Mem} {r : Int32} (hf : f_X7_byteAt N a1 s = some (r, s')) : CI l yX7_byteAt (wz yX7_byteAt cX7_byteAt 2 (some .int)) ({ frames := 1, cells := 0, slots := 0, locals := 21 } : Room) [.ref (ad w 36), .int a1] w s r s' := by
  refine met_startI (cc := cX7_byteAt) (ret := (some .int)) (own := RX7) (maxL := 2) (by decide) rfl (Nat.le_of_ble_eq_true rfl) (fun x C hR hl => ?_)
  refine g_lv (lv' := [(0, .ref (ad w 36)), (1, .int a1)]) rfl ?_
  unfold f_X7_byteAt at hf
  refine g_aload_n C dX7_byteAt_0 rfl 0 rfl ?_
  refine g_getT C (in_36 hS) hinX7 fl_X7_32 dX7_byteAt_1 hf (fun hf => ?_) (fun hf => ?_)
  · refine g_ifnonnullN C dX7_byteAt_4 ?_
    refine g_iconst C (v := 0) dX7_byteAt_7 rfl ?_
    refine g_goto (tgt := 19) C dX7_byteAt_8 (by decide) ?_
    exact g_iret C dX7_byteAt_19 hf
  · refine g_ifnonnull (tgt := 11) C dX7_byteAt_4 (by decide) ?_
    refine g_aload_n C dX7_byteAt_11 rfl 0 rfl ?_
    refine g_getT C (in_36 hS) hinX7 fl_X7_32 dX7_byteAt_12 hf (fun hf => ?_) (fun hf => ?_)
    · refine g_iload_n C dX7_byteAt_15 rfl 1 rfl ?_
      cases hf
    · refine g_iload_n C dX7_byteAt_15 rfl 1 rfl ?_
      refine g_callVI C (R := RX3) (T := TX3) (N := 2) [.int a1] (fun _ _ h => c_X3_get (kl x) N w (ok_43 hS) _ h) (g_cwV C hR ml_X7_69 im_X3_get sl_X3_get ini_X3 cd_X3_get hd_X3_get (by decide)) kd_43 (by decide) rfl (in_43 hS) rfl _ rfl (Nat.le_of_ble_eq_true rfl) dX7_byteAt_16 hf (fun r1 s1 hf => ?_)
      exact g_iret C dX7_byteAt_19 hf

set_option maxHeartbeats 4000000 in
set_option maxRecDepth 100000 in
theorem c_X7_isLetter (l : Launch) (N : Nat) (w : WX) (hS : SS w = Sc) (a1 : Int32) {s s' : Mem} {r : Bool} (hf : f_X7_isLetter N a1 s = some (r, s')) : CB l yX7_isLetter (wz yX7_isLetter cX7_isLetter 2 (some .boolean)) ({ frames := 2, cells := 0, slots := 0, locals := 42 } : Room) [.ref (ad w 36), .int a1] w s r s' := by
  refine met_startB (cc := cX7_isLetter) (ret := (some .boolean)) (own := RX7) (maxL := 2) (by decide) rfl (Nat.le_of_ble_eq_true rfl) (fun x C hR hl => ?_)
  refine g_lv (lv' := [(0, .ref (ad w 36)), (1, .int a1)]) rfl ?_
  unfold f_X7_isLetter at hf
  refine g_aload_n C dX7_isLetter_0 rfl 0 rfl ?_
  refine g_iload_n C dX7_isLetter_1 rfl 1 rfl ?_
  refine g_callVI C (R := RX7) (T := TX7) (N := 11) [.int a1] (fun _ _ h => c_X7_byteAt (kl x) N w hS _ h) (g_cwV C hR ml_X7_73 im_X7_byteAt sl_X7_byteAt ini_X7 cd_X7_byteAt hd_X7_byteAt (by decide)) kd_36 (by decide) rfl (in_36 hS) rfl _ rfl (Nat.le_of_ble_eq_true rfl) dX7_isLetter_2 hf (fun r1 s1 hf => ?_)
  refine g_bipush C (v := 97) dX7_isLetter_5 (by decide) ?_
  refine g_icmp_lt (tgt := 24) C dX7_isLetter_7 (by decide) hf (fun hf => ?_) (fun hf => ?_)
  · refine g_iconst C (v := 0) dX7_isLetter_24 rfl ?_
    exact g_zret (v := false) C dX7_isLetter_25 hf
  · refine g_aload_n C dX7_isLetter_10 rfl 0 rfl ?_
    refine g_iload_n C dX7_isLetter_11 rfl 1 rfl ?_
    refine g_callVI C (R := RX7) (T := TX7) (N := 11) [.int a1] (fun _ _ h => c_X7_byteAt (kl x) N w hS _ h) (g_cwV C hR ml_X7_73 im_X7_byteAt sl_X7_byteAt ini_X7 cd_X7_byteAt hd_X7_byteAt (by decide)) kd_36 (by decide) rfl (in_36 hS) rfl _ rfl (Nat.le_of_ble_eq_true rfl) dX7_isLetter_12 hf (fun r2 s2 hf => ?_)
    refine g_bipush C (v := 122) dX7_isLetter_15 (by decide) ?_
    refine g_icmp_gt (tgt := 24) C dX7_isLetter_17 (by decide) hf (fun hf => ?_) (fun hf => ?_)
    · refine g_iconst C (v := 0) dX7_isLetter_24 rfl ?_
      exact g_zret (v := false) C dX7_isLetter_25 hf
    · refine g_iconst C (v := 1) dX7_isLetter_20 rfl ?_
      refine g_goto (tgt := 25) C dX7_isLetter_21 (by decide) ?_
      exact g_zret (v := true) C dX7_isLetter_25 hf

set_option maxHeartbeats 4000000 in
set_option maxRecDepth 100000 in
theorem c_X7_isWord (l : Launch) (N : Nat) (w : WX) (hS : SS w = Sc) {z : Nat} (h_z : z < stN) {s s' : Mem} {r : Bool} (hf : f_X7_isWord N z s = some (r, s')) : CB l yX7_isWord (wz yX7_isWord cX7_isWord 3 (some .boolean)) ({ frames := 4, cells := 0, slots := 0, locals := 85 } : Room) [.ref (ad w 36), .ref (adK w z)] w s r s' := by
  refine met_startB (cc := cX7_isWord) (ret := (some .boolean)) (own := RX7) (maxL := 3) (by decide) rfl (Nat.le_of_ble_eq_true rfl) (fun x C hR hl => ?_)
  have j20 : ∀ (n : Nat), ∀ (v2 : Int32) (s : Mem), f_X7_isWord_L20 N z n v2 s = some (r, s') → G x (QB x w r s') 3 w 20 [(0, .ref (ad w 36)), (1, .ref (adK w z)), (2, .int v2)] [] s := by
    intro n
    induction n with
    | zero => intro v2 s hf; cases hf
    | succ n ih =>
      intro v2 s hf
      unfold f_X7_isWord_L20 at hf
      refine g_iload_n C dX7_isWord_20 rfl 2 rfl ?_
      refine g_aload_n C dX7_isWord_21 rfl 1 rfl ?_
      refine g_strlen C hR h_z ⟨by decide, Nat.le_of_ble_eq_true rfl⟩ dX7_isWord_22 hf (fun r1 s1 hf => ?_)
      refine g_icmp_ge (tgt := 54) C dX7_isWord_25 (by decide) hf (fun hf => ?_) (fun hf => ?_)
      · refine g_iconst C (v := 1) dX7_isWord_54 rfl ?_
        exact g_zret (v := true) C dX7_isWord_55 hf
      · refine g_aload_n C dX7_isWord_28 rfl 1 rfl ?_
        refine g_iload_n C dX7_isWord_29 rfl 2 rfl ?_
        refine g_strchar C hR h_z ⟨by decide, Nat.le_of_ble_eq_true rfl⟩ dX7_isWord_30 hf (fun r2 s2 hf => ?_)
        refine g_aload_n C dX7_isWord_33 rfl 0 rfl ?_
        refine g_aload_n C dX7_isWord_34 rfl 0 rfl ?_
        refine g_get C (R := RX7) (T := TX7) (N := 11) (k := 4) (v := .int (rI s2 36 4)) kd_36 (by decide) rfl (in_36 hS) hinX7 (by decide) fl_X7_35 rfl rfl dX7_isWord_35 ?_
        refine g_iload_n C dX7_isWord_38 rfl 2 rfl ?_
        refine g_iadd C dX7_isWord_39 ?_
        refine g_callVI C (R := RX7) (T := TX7) (N := 11) [.int ((rI s2 36 4) + v2)] (fun _ _ h => c_X7_byteAt (kl x) N w hS _ h) (g_cwV C hR ml_X7_73 im_X7_byteAt sl_X7_byteAt ini_X7 cd_X7_byteAt hd_X7_byteAt (by decide)) kd_36 (by decide) rfl (in_36 hS) rfl _ rfl (Nat.le_of_ble_eq_true rfl) dX7_isWord_40 hf (fun r3 s3 hf => ?_)
        refine g_icmp_eq (tgt := 48) C dX7_isWord_43 (by decide) hf (fun hf => ?_) (fun hf => ?_)
        · refine g_iinc (v' := v2 + 1) (lv' := [(2, .int (v2 + 1)), (0, .ref (ad w 36)), (1, .ref (adK w z))]) C dX7_isWord_48 2 rfl rfl (by decide) rfl ?_
          refine g_goto (tgt := 20) C dX7_isWord_51 (by decide) ?_
          refine g_sub [1, 2, 0] rfl ?_
          exact ih _ _ hf
        · refine g_iconst C (v := 0) dX7_isWord_46 rfl ?_
          exact g_zret (v := false) C dX7_isWord_47 hf
  refine g_lv (lv' := [(0, .ref (ad w 36)), (1, .ref (adK w z))]) rfl ?_
  unfold f_X7_isWord at hf
  refine g_aload_n C dX7_isWord_0 rfl 1 rfl ?_
  refine g_strlen C hR h_z ⟨by decide, Nat.le_of_ble_eq_true rfl⟩ dX7_isWord_1 hf (fun r1 s1 hf => ?_)
  refine g_aload_n C dX7_isWord_4 rfl 0 rfl ?_
  refine g_get C (R := RX7) (T := TX7) (N := 11) (k := 5) (v := .int (rI s1 36 5)) kd_36 (by decide) rfl (in_36 hS) hinX7 (by decide) fl_X7_39 rfl rfl dX7_isWord_5 ?_
  refine g_aload_n C dX7_isWord_8 rfl 0 rfl ?_
  refine g_get C (R := RX7) (T := TX7) (N := 11) (k := 4) (v := .int (rI s1 36 4)) kd_36 (by decide) rfl (in_36 hS) hinX7 (by decide) fl_X7_35 rfl rfl dX7_isWord_9 ?_
  refine g_isub C dX7_isWord_12 ?_
  refine g_icmp_eq (tgt := 18) C dX7_isWord_13 (by decide) hf (fun hf => ?_) (fun hf => ?_)
  · refine g_iconst C (v := 0) dX7_isWord_18 rfl ?_
    refine g_istore_n (lv' := [(2, .int 0), (0, .ref (ad w 36)), (1, .ref (adK w z))]) C dX7_isWord_19 rfl (by decide) rfl ?_
    refine g_sub [1, 2, 0] rfl ?_
    exact j20 N _ _ hf
  · refine g_iconst C (v := 0) dX7_isWord_16 rfl ?_
    exact g_zret (v := false) C dX7_isWord_17 hf

set_option maxHeartbeats 4000000 in
set_option maxRecDepth 100000 in
theorem c_X7_wordToken (l : Launch) (N : Nat) (w : WX) (hS : SS w = Sc) {s s' : Mem} {r : Int32} (hf : f_X7_wordToken N s = some (r, s')) : CI l yX7_wordToken (wz yX7_wordToken cX7_wordToken 1 (some .int)) ({ frames := 5, cells := 0, slots := 0, locals := 107 } : Room) [.ref (ad w 36)] w s r s' := by
  refine met_startI (cc := cX7_wordToken) (ret := (some .int)) (own := RX7) (maxL := 1) (by decide) rfl (Nat.le_of_ble_eq_true rfl) (fun x C hR hl => ?_)
  refine g_lv (lv' := [(0, .ref (ad w 36))]) rfl ?_
  unfold f_X7_wordToken at hf
  refine g_aload_n C dX7_wordToken_0 rfl 0 rfl ?_
  refine g_ldcS C (z := 0) (by decide) rfl dX7_wordToken_1 ?_
  refine g_callVB C (R := RX7) (T := TX7) (N := 11) [.ref (adK w 0)] (fun _ _ h => c_X7_isWord (kl x) N w hS (by decide) h) (g_cwV C hR ml_X7_96 im_X7_isWord sl_X7_isWord ini_X7 cd_X7_isWord hd_X7_isWord (by decide)) kd_36 (by decide) rfl (in_36 hS) rfl _ rfl (Nat.le_of_ble_eq_true rfl) dX7_wordToken_3 hf (fun r1 s1 hf => ?_)
  refine g_ifeqB (tgt := 11) C dX7_wordToken_6 (by decide) hf (fun hf => ?_) (fun hf => ?_)
  · refine g_aload_n C dX7_wordToken_11 rfl 0 rfl ?_
    refine g_ldcS C (z := 1) (by decide) rfl dX7_wordToken_12 ?_
    refine g_callVB C (R := RX7) (T := TX7) (N := 11) [.ref (adK w 1)] (fun _ _ h => c_X7_isWord (kl x) N w hS (by decide) h) (g_cwV C hR ml_X7_96 im_X7_isWord sl_X7_isWord ini_X7 cd_X7_isWord hd_X7_isWord (by decide)) kd_36 (by decide) rfl (in_36 hS) rfl _ rfl (Nat.le_of_ble_eq_true rfl) dX7_wordToken_14 hf (fun r2 s2 hf => ?_)
    refine g_ifeqB (tgt := 22) C dX7_wordToken_17 (by decide) hf (fun hf => ?_) (fun hf => ?_)
    · refine g_aload_n C dX7_wordToken_22 rfl 0 rfl ?_
      refine g_ldcS C (z := 2) (by decide) rfl dX7_wordToken_23 ?_
      refine g_callVB C (R := RX7) (T := TX7) (N := 11) [.ref (adK w 2)] (fun _ _ h => c_X7_isWord (kl x) N w hS (by decide) h) (g_cwV C hR ml_X7_96 im_X7_isWord sl_X7_isWord ini_X7 cd_X7_isWord hd_X7_isWord (by decide)) kd_36 (by decide) rfl (in_36 hS) rfl _ rfl (Nat.le_of_ble_eq_true rfl) dX7_wordToken_25 hf (fun r3 s3 hf => ?_)
      refine g_ifeqB (tgt := 33) C dX7_wordToken_28 (by decide) hf (fun hf => ?_) (fun hf => ?_)
      · refine g_aload_n C dX7_wordToken_33 rfl 0 rfl ?_
        refine g_ldcS C (z := 3) (by decide) rfl dX7_wordToken_34 ?_
        refine g_callVB C (R := RX7) (T := TX7) (N := 11) [.ref (adK w 3)] (fun _ _ h => c_X7_isWord (kl x) N w hS (by decide) h) (g_cwV C hR ml_X7_96 im_X7_isWord sl_X7_isWord ini_X7 cd_X7_isWord hd_X7_isWord (by decide)) kd_36 (by decide) rfl (in_36 hS) rfl _ rfl (Nat.le_of_ble_eq_true rfl) dX7_wordToken_36 hf (fun r4 s4 hf => ?_)
        refine g_ifeqB (tgt := 44) C dX7_wordToken_39 (by decide) hf (fun hf => ?_) (fun hf => ?_)
        · refine g_aload_n C dX7_wordToken_44 rfl 0 rfl ?_
          refine g_ldcS C (z := 4) (by decide) rfl dX7_wordToken_45 ?_
          refine g_callVB C (R := RX7) (T := TX7) (N := 11) [.ref (adK w 4)] (fun _ _ h => c_X7_isWord (kl x) N w hS (by decide) h) (g_cwV C hR ml_X7_96 im_X7_isWord sl_X7_isWord ini_X7 cd_X7_isWord hd_X7_isWord (by decide)) kd_36 (by decide) rfl (in_36 hS) rfl _ rfl (Nat.le_of_ble_eq_true rfl) dX7_wordToken_47 hf (fun r5 s5 hf => ?_)
          refine g_ifeqB (tgt := 56) C dX7_wordToken_50 (by decide) hf (fun hf => ?_) (fun hf => ?_)
          · refine g_aload_n C dX7_wordToken_56 rfl 0 rfl ?_
            refine g_ldcS C (z := 5) (by decide) rfl dX7_wordToken_57 ?_
            refine g_callVB C (R := RX7) (T := TX7) (N := 11) [.ref (adK w 5)] (fun _ _ h => c_X7_isWord (kl x) N w hS (by decide) h) (g_cwV C hR ml_X7_96 im_X7_isWord sl_X7_isWord ini_X7 cd_X7_isWord hd_X7_isWord (by decide)) kd_36 (by decide) rfl (in_36 hS) rfl _ rfl (Nat.le_of_ble_eq_true rfl) dX7_wordToken_59 hf (fun r6 s6 hf => ?_)
            refine g_ifeqB (tgt := 68) C dX7_wordToken_62 (by decide) hf (fun hf => ?_) (fun hf => ?_)
            · refine g_aload_n C dX7_wordToken_68 rfl 0 rfl ?_
              refine g_ldcS C (z := 6) (by decide) rfl dX7_wordToken_69 ?_
              refine g_callVB C (R := RX7) (T := TX7) (N := 11) [.ref (adK w 6)] (fun _ _ h => c_X7_isWord (kl x) N w hS (by decide) h) (g_cwV C hR ml_X7_96 im_X7_isWord sl_X7_isWord ini_X7 cd_X7_isWord hd_X7_isWord (by decide)) kd_36 (by decide) rfl (in_36 hS) rfl _ rfl (Nat.le_of_ble_eq_true rfl) dX7_wordToken_71 hf (fun r7 s7 hf => ?_)
              refine g_ifeqB (tgt := 80) C dX7_wordToken_74 (by decide) hf (fun hf => ?_) (fun hf => ?_)
              · refine g_aload_n C dX7_wordToken_80 rfl 0 rfl ?_
                refine g_ldcS C (z := 7) (by decide) rfl dX7_wordToken_81 ?_
                refine g_callVB C (R := RX7) (T := TX7) (N := 11) [.ref (adK w 7)] (fun _ _ h => c_X7_isWord (kl x) N w hS (by decide) h) (g_cwV C hR ml_X7_96 im_X7_isWord sl_X7_isWord ini_X7 cd_X7_isWord hd_X7_isWord (by decide)) kd_36 (by decide) rfl (in_36 hS) rfl _ rfl (Nat.le_of_ble_eq_true rfl) dX7_wordToken_83 hf (fun r8 s8 hf => ?_)
                refine g_ifeqB (tgt := 92) C dX7_wordToken_86 (by decide) hf (fun hf => ?_) (fun hf => ?_)
                · refine g_aload_n C dX7_wordToken_92 rfl 0 rfl ?_
                  refine g_ldcS C (z := 8) (by decide) rfl dX7_wordToken_93 ?_
                  refine g_callVB C (R := RX7) (T := TX7) (N := 11) [.ref (adK w 8)] (fun _ _ h => c_X7_isWord (kl x) N w hS (by decide) h) (g_cwV C hR ml_X7_96 im_X7_isWord sl_X7_isWord ini_X7 cd_X7_isWord hd_X7_isWord (by decide)) kd_36 (by decide) rfl (in_36 hS) rfl _ rfl (Nat.le_of_ble_eq_true rfl) dX7_wordToken_95 hf (fun r9 s9 hf => ?_)
                  refine g_ifeqB (tgt := 104) C dX7_wordToken_98 (by decide) hf (fun hf => ?_) (fun hf => ?_)
                  · refine g_aload_n C dX7_wordToken_104 rfl 0 rfl ?_
                    refine g_ldcS C (z := 9) (by decide) rfl dX7_wordToken_105 ?_
                    refine g_callVB C (R := RX7) (T := TX7) (N := 11) [.ref (adK w 9)] (fun _ _ h => c_X7_isWord (kl x) N w hS (by decide) h) (g_cwV C hR ml_X7_96 im_X7_isWord sl_X7_isWord ini_X7 cd_X7_isWord hd_X7_isWord (by decide)) kd_36 (by decide) rfl (in_36 hS) rfl _ rfl (Nat.le_of_ble_eq_true rfl) dX7_wordToken_107 hf (fun r10 s10 hf => ?_)
                    refine g_ifeqB (tgt := 116) C dX7_wordToken_110 (by decide) hf (fun hf => ?_) (fun hf => ?_)
                    · refine g_aload_n C dX7_wordToken_116 rfl 0 rfl ?_
                      refine g_ldcS C (z := 10) (by decide) rfl dX7_wordToken_117 ?_
                      refine g_callVB C (R := RX7) (T := TX7) (N := 11) [.ref (adK w 10)] (fun _ _ h => c_X7_isWord (kl x) N w hS (by decide) h) (g_cwV C hR ml_X7_96 im_X7_isWord sl_X7_isWord ini_X7 cd_X7_isWord hd_X7_isWord (by decide)) kd_36 (by decide) rfl (in_36 hS) rfl _ rfl (Nat.le_of_ble_eq_true rfl) dX7_wordToken_119 hf (fun r11 s11 hf => ?_)
                      refine g_ifeqB (tgt := 128) C dX7_wordToken_122 (by decide) hf (fun hf => ?_) (fun hf => ?_)
                      · refine g_aload_n C dX7_wordToken_128 rfl 0 rfl ?_
                        refine g_ldcS C (z := 11) (by decide) rfl dX7_wordToken_129 ?_
                        refine g_callVB C (R := RX7) (T := TX7) (N := 11) [.ref (adK w 11)] (fun _ _ h => c_X7_isWord (kl x) N w hS (by decide) h) (g_cwV C hR ml_X7_96 im_X7_isWord sl_X7_isWord ini_X7 cd_X7_isWord hd_X7_isWord (by decide)) kd_36 (by decide) rfl (in_36 hS) rfl _ rfl (Nat.le_of_ble_eq_true rfl) dX7_wordToken_131 hf (fun r12 s12 hf => ?_)
                        refine g_ifeqB (tgt := 140) C dX7_wordToken_134 (by decide) hf (fun hf => ?_) (fun hf => ?_)
                        · refine g_bipush C (v := 20) dX7_wordToken_140 (by decide) ?_
                          exact g_iret C dX7_wordToken_142 hf
                        · refine g_bipush C (v := 13) dX7_wordToken_137 (by decide) ?_
                          exact g_iret C dX7_wordToken_139 hf
                      · refine g_bipush C (v := 12) dX7_wordToken_125 (by decide) ?_
                        exact g_iret C dX7_wordToken_127 hf
                    · refine g_bipush C (v := 11) dX7_wordToken_113 (by decide) ?_
                      exact g_iret C dX7_wordToken_115 hf
                  · refine g_bipush C (v := 10) dX7_wordToken_101 (by decide) ?_
                    exact g_iret C dX7_wordToken_103 hf
                · refine g_bipush C (v := 9) dX7_wordToken_89 (by decide) ?_
                  exact g_iret C dX7_wordToken_91 hf
              · refine g_bipush C (v := 8) dX7_wordToken_77 (by decide) ?_
                exact g_iret C dX7_wordToken_79 hf
            · refine g_bipush C (v := 7) dX7_wordToken_65 (by decide) ?_
              exact g_iret C dX7_wordToken_67 hf
          · refine g_bipush C (v := 6) dX7_wordToken_53 (by decide) ?_
            exact g_iret C dX7_wordToken_55 hf
        · refine g_iconst C (v := 5) dX7_wordToken_42 rfl ?_
          exact g_iret C dX7_wordToken_43 hf
      · refine g_iconst C (v := 4) dX7_wordToken_31 rfl ?_
        exact g_iret C dX7_wordToken_32 hf
    · refine g_iconst C (v := 3) dX7_wordToken_20 rfl ?_
      exact g_iret C dX7_wordToken_21 hf
  · refine g_iconst C (v := 2) dX7_wordToken_9 rfl ?_
    exact g_iret C dX7_wordToken_10 hf

set_option maxHeartbeats 4000000 in
set_option maxRecDepth 100000 in
theorem c_X7_isDigit (l : Launch) (N : Nat) (w : WX) (hS : SS w = Sc) (a1 : Int32) {s s' : Mem} {r : Bool} (hf : f_X7_isDigit N a1 s = some (r, s')) : CB l yX7_isDigit (wz yX7_isDigit cX7_isDigit 2 (some .boolean)) ({ frames := 2, cells := 0, slots := 0, locals := 42 } : Room) [.ref (ad w 36), .int a1] w s r s' := by
  refine met_startB (cc := cX7_isDigit) (ret := (some .boolean)) (own := RX7) (maxL := 2) (by decide) rfl (Nat.le_of_ble_eq_true rfl) (fun x C hR hl => ?_)
  refine g_lv (lv' := [(0, .ref (ad w 36)), (1, .int a1)]) rfl ?_
  unfold f_X7_isDigit at hf
  refine g_aload_n C dX7_isDigit_0 rfl 0 rfl ?_
  refine g_iload_n C dX7_isDigit_1 rfl 1 rfl ?_
  refine g_callVI C (R := RX7) (T := TX7) (N := 11) [.int a1] (fun _ _ h => c_X7_byteAt (kl x) N w hS _ h) (g_cwV C hR ml_X7_73 im_X7_byteAt sl_X7_byteAt ini_X7 cd_X7_byteAt hd_X7_byteAt (by decide)) kd_36 (by decide) rfl (in_36 hS) rfl _ rfl (Nat.le_of_ble_eq_true rfl) dX7_isDigit_2 hf (fun r1 s1 hf => ?_)
  refine g_bipush C (v := 48) dX7_isDigit_5 (by decide) ?_
  refine g_icmp_lt (tgt := 24) C dX7_isDigit_7 (by decide) hf (fun hf => ?_) (fun hf => ?_)
  · refine g_iconst C (v := 0) dX7_isDigit_24 rfl ?_
    exact g_zret (v := false) C dX7_isDigit_25 hf
  · refine g_aload_n C dX7_isDigit_10 rfl 0 rfl ?_
    refine g_iload_n C dX7_isDigit_11 rfl 1 rfl ?_
    refine g_callVI C (R := RX7) (T := TX7) (N := 11) [.int a1] (fun _ _ h => c_X7_byteAt (kl x) N w hS _ h) (g_cwV C hR ml_X7_73 im_X7_byteAt sl_X7_byteAt ini_X7 cd_X7_byteAt hd_X7_byteAt (by decide)) kd_36 (by decide) rfl (in_36 hS) rfl _ rfl (Nat.le_of_ble_eq_true rfl) dX7_isDigit_12 hf (fun r2 s2 hf => ?_)
    refine g_bipush C (v := 57) dX7_isDigit_15 (by decide) ?_
    refine g_icmp_gt (tgt := 24) C dX7_isDigit_17 (by decide) hf (fun hf => ?_) (fun hf => ?_)
    · refine g_iconst C (v := 0) dX7_isDigit_24 rfl ?_
      exact g_zret (v := false) C dX7_isDigit_25 hf
    · refine g_iconst C (v := 1) dX7_isDigit_20 rfl ?_
      refine g_goto (tgt := 25) C dX7_isDigit_21 (by decide) ?_
      exact g_zret (v := true) C dX7_isDigit_25 hf

set_option maxHeartbeats 4000000 in
set_option maxRecDepth 100000 in
theorem c_X7_numberToken (l : Launch) (N : Nat) (w : WX) (hS : SS w = Sc) {s s' : Mem} {r : Int32} (hf : f_X7_numberToken N s = some (r, s')) : CI l yX7_numberToken (wz yX7_numberToken cX7_numberToken 2 (some .int)) ({ frames := 2, cells := 0, slots := 0, locals := 42 } : Room) [.ref (ad w 36)] w s r s' := by
  refine met_startI (cc := cX7_numberToken) (ret := (some .int)) (own := RX7) (maxL := 2) (by decide) rfl (Nat.le_of_ble_eq_true rfl) (fun x C hR hl => ?_)
  have j26 : ∀ (n : Nat), ∀ (v1 : Int32) (s : Mem), f_X7_numberToken_L26 N n v1 s = some (r, s') → G x (QI x w r s') 2 w 26 [(0, .ref (ad w 36)), (1, .int v1)] [] s := by
    intro n
    induction n with
    | zero => intro v1 s hf; cases hf
    | succ n ih =>
      intro v1 s hf
      unfold f_X7_numberToken_L26 at hf
      refine g_iload_n C dX7_numberToken_26 rfl 1 rfl ?_
      refine g_aload_n C dX7_numberToken_27 rfl 0 rfl ?_
      refine g_get C (R := RX7) (T := TX7) (N := 11) (k := 5) (v := .int (rI s 36 5)) kd_36 (by decide) rfl (in_36 hS) hinX7 (by decide) fl_X7_39 rfl rfl dX7_numberToken_28 ?_
      refine g_icmp_ge (tgt := 60) C dX7_numberToken_31 (by decide) hf (fun hf => ?_) (fun hf => ?_)
      · refine g_iconst C (v := 1) dX7_numberToken_60 rfl ?_
        exact g_iret C dX7_numberToken_61 hf
      · refine g_aload_n C dX7_numberToken_34 rfl 0 rfl ?_
        refine g_aload_n C dX7_numberToken_35 rfl 0 rfl ?_
        refine g_get C (R := RX7) (T := TX7) (N := 11) (k := 6) (v := .int (rI s 36 6)) kd_36 (by decide) rfl (in_36 hS) hinX7 (by decide) fl_X7_42 rfl rfl dX7_numberToken_36 ?_
        refine g_bipush C (v := 10) dX7_numberToken_39 (by decide) ?_
        refine g_imul C dX7_numberToken_41 ?_
        refine g_aload_n C dX7_numberToken_42 rfl 0 rfl ?_
        refine g_iload_n C dX7_numberToken_43 rfl 1 rfl ?_
        refine g_callVI C (R := RX7) (T := TX7) (N := 11) [.int v1] (fun _ _ h => c_X7_byteAt (kl x) N w hS _ h) (g_cwV C hR ml_X7_73 im_X7_byteAt sl_X7_byteAt ini_X7 cd_X7_byteAt hd_X7_byteAt (by decide)) kd_36 (by decide) rfl (in_36 hS) rfl _ rfl (Nat.le_of_ble_eq_true rfl) dX7_numberToken_44 hf (fun r1 s1 hf => ?_)
        refine g_iadd C dX7_numberToken_47 ?_
        refine g_bipush C (v := 48) dX7_numberToken_48 (by decide) ?_
        refine g_isub C dX7_numberToken_50 ?_
        refine g_putI C (R := RX7) (T := TX7) (N := 11) (k := 6) (ty := .int) tyX7 tyX7_ok nmX7 kd_36 (by decide) rfl (in_36 hS) hinX7 (by decide) fl_X7_42 rfl rfl rfl rfl rfl (Nat.le_of_ble_eq_true rfl) fs_7_6 dX7_numberToken_51 ?_
        refine g_nameS hf (fun s2 hf => ?_)
        refine g_iinc (v' := v1 + 1) (lv' := [(1, .int (v1 + 1)), (0, .ref (ad w 36))]) C dX7_numberToken_54 1 rfl rfl (by decide) rfl ?_
        refine g_goto (tgt := 26) C dX7_numberToken_57 (by decide) ?_
        refine g_sub [1, 0] rfl ?_
        exact ih _ _ hf
  refine g_lv (lv' := [(0, .ref (ad w 36))]) rfl ?_
  unfold f_X7_numberToken at hf
  refine g_aload_n C dX7_numberToken_0 rfl 0 rfl ?_
  refine g_get C (R := RX7) (T := TX7) (N := 11) (k := 5) (v := .int (rI s 36 5)) kd_36 (by decide) rfl (in_36 hS) hinX7 (by decide) fl_X7_39 rfl rfl dX7_numberToken_1 ?_
  refine g_aload_n C dX7_numberToken_4 rfl 0 rfl ?_
  refine g_get C (R := RX7) (T := TX7) (N := 11) (k := 4) (v := .int (rI s 36 4)) kd_36 (by decide) rfl (in_36 hS) hinX7 (by decide) fl_X7_35 rfl rfl dX7_numberToken_5 ?_
  refine g_isub C dX7_numberToken_8 ?_
  refine g_iconst C (v := 3) dX7_numberToken_9 rfl ?_
  refine g_icmp_le (tgt := 16) C dX7_numberToken_10 (by decide) hf (fun hf => ?_) (fun hf => ?_)
  · refine g_aload_n C dX7_numberToken_16 rfl 0 rfl ?_
    refine g_iconst C (v := 0) dX7_numberToken_17 rfl ?_
    refine g_putI C (R := RX7) (T := TX7) (N := 11) (k := 6) (ty := .int) tyX7 tyX7_ok nmX7 kd_36 (by decide) rfl (in_36 hS) hinX7 (by decide) fl_X7_42 rfl rfl rfl rfl rfl (Nat.le_of_ble_eq_true rfl) fs_7_6 dX7_numberToken_18 ?_
    refine g_nameS hf (fun s1 hf => ?_)
    refine g_aload_n C dX7_numberToken_21 rfl 0 rfl ?_
    refine g_get C (R := RX7) (T := TX7) (N := 11) (k := 4) (v := .int (rI s1 36 4)) kd_36 (by decide) rfl (in_36 hS) hinX7 (by decide) fl_X7_35 rfl rfl dX7_numberToken_22 ?_
    refine g_istore_n (lv' := [(1, .int (rI s1 36 4)), (0, .ref (ad w 36))]) C dX7_numberToken_25 rfl (by decide) rfl ?_
    refine g_sub [1, 0] rfl ?_
    exact j26 N _ _ hf
  · refine g_bipush C (v := 20) dX7_numberToken_13 (by decide) ?_
    exact g_iret C dX7_numberToken_15 hf

set_option maxHeartbeats 4000000 in
set_option maxRecDepth 100000 in
theorem c_X7_signToken (l : Launch) (N : Nat) (w : WX) (hS : SS w = Sc) {s s' : Mem} {r : Int32} (hf : f_X7_signToken N s = some (r, s')) : CI l yX7_signToken (wz yX7_signToken cX7_signToken 1 (some .int)) ({ frames := 2, cells := 0, slots := 0, locals := 42 } : Room) [.ref (ad w 36)] w s r s' := by
  refine met_startI (cc := cX7_signToken) (ret := (some .int)) (own := RX7) (maxL := 1) (by decide) rfl (Nat.le_of_ble_eq_true rfl) (fun x C hR hl => ?_)
  refine g_lv (lv' := [(0, .ref (ad w 36))]) rfl ?_
  unfold f_X7_signToken at hf
  refine g_aload_n C dX7_signToken_0 rfl 0 rfl ?_
  refine g_aload_n C dX7_signToken_1 rfl 0 rfl ?_
  refine g_get C (R := RX7) (T := TX7) (N := 11) (k := 4) (v := .int (rI s 36 4)) kd_36 (by decide) rfl (in_36 hS) hinX7 (by decide) fl_X7_35 rfl rfl dX7_signToken_2 ?_
  refine g_callVI C (R := RX7) (T := TX7) (N := 11) [.int (rI s 36 4)] (fun _ _ h => c_X7_byteAt (kl x) N w hS _ h) (g_cwV C hR ml_X7_73 im_X7_byteAt sl_X7_byteAt ini_X7 cd_X7_byteAt hd_X7_byteAt (by decide)) kd_36 (by decide) rfl (in_36 hS) rfl _ rfl (Nat.le_of_ble_eq_true rfl) dX7_signToken_5 hf (fun r1 s1 hf => ?_)
  rcases ite_some hf with ⟨e40, hf⟩ | ⟨n40, hf⟩
  · refine g_lookIn (k := 40) (tgt := 68) C dX7_signToken_8 e40 (by decide) rfl (by decide) ?_
    refine g_bipush C (v := 14) dX7_signToken_68 (by decide) ?_
    exact g_iret C dX7_signToken_70 hf
  rcases ite_some hf with ⟨e41, hf⟩ | ⟨n41, hf⟩
  · refine g_lookIn (k := 41) (tgt := 71) C dX7_signToken_8 e41 (by decide) rfl (by decide) ?_
    refine g_bipush C (v := 15) dX7_signToken_71 (by decide) ?_
    exact g_iret C dX7_signToken_73 hf
  rcases ite_some hf with ⟨e59, hf⟩ | ⟨n59, hf⟩
  · refine g_lookIn (k := 59) (tgt := 83) C dX7_signToken_8 e59 (by decide) rfl (by decide) ?_
    refine g_bipush C (v := 19) dX7_signToken_83 (by decide) ?_
    exact g_iret C dX7_signToken_85 hf
  rcases ite_some hf with ⟨e60, hf⟩ | ⟨n60, hf⟩
  · refine g_lookIn (k := 60) (tgt := 74) C dX7_signToken_8 e60 (by decide) rfl (by decide) ?_
    refine g_bipush C (v := 16) dX7_signToken_74 (by decide) ?_
    exact g_iret C dX7_signToken_76 hf
  rcases ite_some hf with ⟨e61, hf⟩ | ⟨n61, hf⟩
  · refine g_lookIn (k := 61) (tgt := 77) C dX7_signToken_8 e61 (by decide) rfl (by decide) ?_
    refine g_bipush C (v := 17) dX7_signToken_77 (by decide) ?_
    exact g_iret C dX7_signToken_79 hf
  rcases ite_some hf with ⟨e62, hf⟩ | ⟨n62, hf⟩
  · refine g_lookIn (k := 62) (tgt := 80) C dX7_signToken_8 e62 (by decide) rfl (by decide) ?_
    refine g_bipush C (v := 18) dX7_signToken_80 (by decide) ?_
    exact g_iret C dX7_signToken_82 hf
  refine g_lookOut (off := 78) (tgt := 86) C dX7_signToken_8 (by decide) (by rw [lv_osw n40 (by decide), lv_osw n41 (by decide), lv_osw n59 (by decide), lv_osw n60 (by decide), lv_osw n61 (by decide), lv_osw n62 (by decide)]; rfl) (by decide) ?_
  refine g_bipush C (v := 20) dX7_signToken_86 (by decide) ?_
  exact g_iret C dX7_signToken_88 hf

set_option maxHeartbeats 4000000 in
set_option maxRecDepth 100000 in
theorem c_X7_nextToken (l : Launch) (N : Nat) (w : WX) (hS : SS w = Sc) {s s' : Mem} {r : Int32} (hf : f_X7_nextToken N s = some (r, s')) : CI l yX7_nextToken (wz yX7_nextToken cX7_nextToken 2 (some .int)) ({ frames := 6, cells := 0, slots := 0, locals := 127 } : Room) [.ref (ad w 36)] w s r s' := by
  refine met_startI (cc := cX7_nextToken) (ret := (some .int)) (own := RX7) (maxL := 2) (by decide) rfl (Nat.le_of_ble_eq_true rfl) (fun x C hR hl => ?_)
  have j170 : ∀ (s : Mem), f_X7_nextToken_j170 N s = some (r, s') → G x (QI x w r s') 2 w 170 [(0, .ref (ad w 36))] [] s := by
    intro s hf
    unfold f_X7_nextToken_j170 at hf
    refine g_aload_n C dX7_nextToken_170 rfl 0 rfl ?_
    refine g_callVI C (R := RX7) (T := TX7) (N := 11) [] (fun _ _ h => c_X7_numberToken (kl x) N w hS h) (g_cwV C hR ml_X7_88 im_X7_numberToken sl_X7_numberToken ini_X7 cd_X7_numberToken hd_X7_numberToken (by decide)) kd_36 (by decide) rfl (in_36 hS) rfl _ rfl (Nat.le_of_ble_eq_true rfl) dX7_nextToken_171 hf (fun r1 s1 hf => ?_)
    exact g_iret C dX7_nextToken_174 hf
  have j138 : ∀ (k170 : Mem → Option (Int32 × Mem)), (∀ (s : Mem), k170 s = some (r, s') → G x (QI x w r s') 2 w 170 [(0, .ref (ad w 36))] [] s) → ∀ (n : Nat), ∀ (v1 : Int32) (s : Mem), f_X7_nextToken_L138 N k170 n v1 s = some (r, s') → G x (QI x w r s') 2 w 138 [(0, .ref (ad w 36)), (1, .int v1)] [] s := by
    intro k170 q170 n
    induction n with
    | zero => intro v1 s hf; cases hf
    | succ n ih =>
      intro v1 s hf
      unfold f_X7_nextToken_L138 at hf
      refine g_aload_n C dX7_nextToken_138 rfl 0 rfl ?_
      refine g_get C (R := RX7) (T := TX7) (N := 11) (k := 5) (v := .int (rI s 36 5)) kd_36 (by decide) rfl (in_36 hS) hinX7 (by decide) fl_X7_39 rfl rfl dX7_nextToken_139 ?_
      refine g_iload_n C dX7_nextToken_142 rfl 1 rfl ?_
      refine g_icmp_ge (tgt := 170) C dX7_nextToken_143 (by decide) hf (fun hf => ?_) (fun hf => ?_)
      · refine g_sub [0] rfl ?_
        exact q170 _ hf
      · refine g_aload_n C dX7_nextToken_146 rfl 0 rfl ?_
        refine g_aload_n C dX7_nextToken_147 rfl 0 rfl ?_
        refine g_get C (R := RX7) (T := TX7) (N := 11) (k := 5) (v := .int (rI s 36 5)) kd_36 (by decide) rfl (in_36 hS) hinX7 (by decide) fl_X7_39 rfl rfl dX7_nextToken_148 ?_
        refine g_callVB C (R := RX7) (T := TX7) (N := 11) [.int (rI s 36 5)] (fun _ _ h => c_X7_isDigit (kl x) N w hS _ h) (g_cwV C hR ml_X7_85 im_X7_isDigit sl_X7_isDigit ini_X7 cd_X7_isDigit hd_X7_isDigit (by decide)) kd_36 (by decide) rfl (in_36 hS) rfl _ rfl (Nat.le_of_ble_eq_true rfl) dX7_nextToken_151 hf (fun r1 s1 hf => ?_)
        refine g_ifeqB (tgt := 170) C dX7_nextToken_154 (by decide) hf (fun hf => ?_) (fun hf => ?_)
        · refine g_sub [0] rfl ?_
          exact q170 _ hf
        · refine g_aload_n C dX7_nextToken_157 rfl 0 rfl ?_
          refine g_dup C dX7_nextToken_158 rfl ?_
          refine g_get C (R := RX7) (T := TX7) (N := 11) (k := 5) (v := .int (rI s1 36 5)) kd_36 (by decide) rfl (in_36 hS) hinX7 (by decide) fl_X7_39 rfl rfl dX7_nextToken_159 ?_
          refine g_iconst C (v := 1) dX7_nextToken_162 rfl ?_
          refine g_iadd C dX7_nextToken_163 ?_
          refine g_putI C (R := RX7) (T := TX7) (N := 11) (k := 5) (ty := .int) tyX7 tyX7_ok nmX7 kd_36 (by decide) rfl (in_36 hS) hinX7 (by decide) fl_X7_39 rfl rfl rfl rfl rfl (Nat.le_of_ble_eq_true rfl) fs_7_5 dX7_nextToken_164 ?_
          refine g_nameS hf (fun s2 hf => ?_)
          refine g_goto (tgt := 138) C dX7_nextToken_167 (by decide) ?_
          exact ih _ _ hf
  have j122 : ∀ (s : Mem), f_X7_nextToken_j122 N s = some (r, s') → G x (QI x w r s') 2 w 122 [(0, .ref (ad w 36))] [] s := by
    intro s hf
    unfold f_X7_nextToken_j122 at hf
    refine g_aload_n C dX7_nextToken_122 rfl 0 rfl ?_
    refine g_callVI C (R := RX7) (T := TX7) (N := 11) [] (fun _ _ h => c_X7_wordToken (kl x) N w hS h) (g_cwV C hR ml_X7_82 im_X7_wordToken sl_X7_wordToken ini_X7 cd_X7_wordToken hd_X7_wordToken (by decide)) kd_36 (by decide) rfl (in_36 hS) rfl _ rfl (Nat.le_of_ble_eq_true rfl) dX7_nextToken_123 hf (fun r1 s1 hf => ?_)
    exact g_iret C dX7_nextToken_126 hf
  have j90 : ∀ (k122 : Mem → Option (Int32 × Mem)), (∀ (s : Mem), k122 s = some (r, s') → G x (QI x w r s') 2 w 122 [(0, .ref (ad w 36))] [] s) → ∀ (n : Nat), ∀ (v1 : Int32) (s : Mem), f_X7_nextToken_L90 N k122 n v1 s = some (r, s') → G x (QI x w r s') 2 w 90 [(0, .ref (ad w 36)), (1, .int v1)] [] s := by
    intro k122 q122 n
    induction n with
    | zero => intro v1 s hf; cases hf
    | succ n ih =>
      intro v1 s hf
      unfold f_X7_nextToken_L90 at hf
      refine g_aload_n C dX7_nextToken_90 rfl 0 rfl ?_
      refine g_get C (R := RX7) (T := TX7) (N := 11) (k := 5) (v := .int (rI s 36 5)) kd_36 (by decide) rfl (in_36 hS) hinX7 (by decide) fl_X7_39 rfl rfl dX7_nextToken_91 ?_
      refine g_iload_n C dX7_nextToken_94 rfl 1 rfl ?_
      refine g_icmp_ge (tgt := 122) C dX7_nextToken_95 (by decide) hf (fun hf => ?_) (fun hf => ?_)
      · refine g_sub [0] rfl ?_
        exact q122 _ hf
      · refine g_aload_n C dX7_nextToken_98 rfl 0 rfl ?_
        refine g_aload_n C dX7_nextToken_99 rfl 0 rfl ?_
        refine g_get C (R := RX7) (T := TX7) (N := 11) (k := 5) (v := .int (rI s 36 5)) kd_36 (by decide) rfl (in_36 hS) hinX7 (by decide) fl_X7_39 rfl rfl dX7_nextToken_100 ?_
        refine g_callVB C (R := RX7) (T := TX7) (N := 11) [.int (rI s 36 5)] (fun _ _ h => c_X7_isLetter (kl x) N w hS _ h) (g_cwV C hR ml_X7_79 im_X7_isLetter sl_X7_isLetter ini_X7 cd_X7_isLetter hd_X7_isLetter (by decide)) kd_36 (by decide) rfl (in_36 hS) rfl _ rfl (Nat.le_of_ble_eq_true rfl) dX7_nextToken_103 hf (fun r1 s1 hf => ?_)
        refine g_ifeqB (tgt := 122) C dX7_nextToken_106 (by decide) hf (fun hf => ?_) (fun hf => ?_)
        · refine g_sub [0] rfl ?_
          exact q122 _ hf
        · refine g_aload_n C dX7_nextToken_109 rfl 0 rfl ?_
          refine g_dup C dX7_nextToken_110 rfl ?_
          refine g_get C (R := RX7) (T := TX7) (N := 11) (k := 5) (v := .int (rI s1 36 5)) kd_36 (by decide) rfl (in_36 hS) hinX7 (by decide) fl_X7_39 rfl rfl dX7_nextToken_111 ?_
          refine g_iconst C (v := 1) dX7_nextToken_114 rfl ?_
          refine g_iadd C dX7_nextToken_115 ?_
          refine g_putI C (R := RX7) (T := TX7) (N := 11) (k := 5) (ty := .int) tyX7 tyX7_ok nmX7 kd_36 (by decide) rfl (in_36 hS) hinX7 (by decide) fl_X7_39 rfl rfl rfl rfl rfl (Nat.le_of_ble_eq_true rfl) fs_7_5 dX7_nextToken_116 ?_
          refine g_nameS hf (fun s2 hf => ?_)
          refine g_goto (tgt := 90) C dX7_nextToken_119 (by decide) ?_
          exact ih _ _ hf
  have j61 : ∀ (v1 : Int32) (s : Mem), f_X7_nextToken_j61 N v1 s = some (r, s') → G x (QI x w r s') 2 w 61 [(0, .ref (ad w 36)), (1, .int v1)] [] s := by
    intro v1 s hf
    unfold f_X7_nextToken_j61 at hf
    refine g_aload_n C dX7_nextToken_61 rfl 0 rfl ?_
    refine g_aload_n C dX7_nextToken_62 rfl 0 rfl ?_
    refine g_get C (R := RX7) (T := TX7) (N := 11) (k := 4) (v := .int (rI s 36 4)) kd_36 (by decide) rfl (in_36 hS) hinX7 (by decide) fl_X7_35 rfl rfl dX7_nextToken_63 ?_
    refine g_putI C (R := RX7) (T := TX7) (N := 11) (k := 5) (ty := .int) tyX7 tyX7_ok nmX7 kd_36 (by decide) rfl (in_36 hS) hinX7 (by decide) fl_X7_39 rfl rfl rfl rfl rfl (Nat.le_of_ble_eq_true rfl) fs_7_5 dX7_nextToken_66 ?_
    refine g_nameS hf (fun s1 hf => ?_)
    refine g_aload_n C dX7_nextToken_69 rfl 0 rfl ?_
    refine g_get C (R := RX7) (T := TX7) (N := 11) (k := 4) (v := .int (rI s1 36 4)) kd_36 (by decide) rfl (in_36 hS) hinX7 (by decide) fl_X7_35 rfl rfl dX7_nextToken_70 ?_
    refine g_iload_n C dX7_nextToken_73 rfl 1 rfl ?_
    refine g_icmp_lt (tgt := 79) C dX7_nextToken_74 (by decide) hf (fun hf => ?_) (fun hf => ?_)
    · refine g_aload_n C dX7_nextToken_79 rfl 0 rfl ?_
      refine g_aload_n C dX7_nextToken_80 rfl 0 rfl ?_
      refine g_get C (R := RX7) (T := TX7) (N := 11) (k := 4) (v := .int (rI s1 36 4)) kd_36 (by decide) rfl (in_36 hS) hinX7 (by decide) fl_X7_35 rfl rfl dX7_nextToken_81 ?_
      refine g_callVB C (R := RX7) (T := TX7) (N := 11) [.int (rI s1 36 4)] (fun _ _ h => c_X7_isLetter (kl x) N w hS _ h) (g_cwV C hR ml_X7_79 im_X7_isLetter sl_X7_isLetter ini_X7 cd_X7_isLetter hd_X7_isLetter (by decide)) kd_36 (by decide) rfl (in_36 hS) rfl _ rfl (Nat.le_of_ble_eq_true rfl) dX7_nextToken_84 hf (fun r2 s2 hf => ?_)
      refine g_ifeqB (tgt := 127) C dX7_nextToken_87 (by decide) hf (fun hf => ?_) (fun hf => ?_)
      · refine g_aload_n C dX7_nextToken_127 rfl 0 rfl ?_
        refine g_aload_n C dX7_nextToken_128 rfl 0 rfl ?_
        refine g_get C (R := RX7) (T := TX7) (N := 11) (k := 4) (v := .int (rI s2 36 4)) kd_36 (by decide) rfl (in_36 hS) hinX7 (by decide) fl_X7_35 rfl rfl dX7_nextToken_129 ?_
        refine g_callVB C (R := RX7) (T := TX7) (N := 11) [.int (rI s2 36 4)] (fun _ _ h => c_X7_isDigit (kl x) N w hS _ h) (g_cwV C hR ml_X7_85 im_X7_isDigit sl_X7_isDigit ini_X7 cd_X7_isDigit hd_X7_isDigit (by decide)) kd_36 (by decide) rfl (in_36 hS) rfl _ rfl (Nat.le_of_ble_eq_true rfl) dX7_nextToken_132 hf (fun r3 s3 hf => ?_)
        refine g_ifeqB (tgt := 175) C dX7_nextToken_135 (by decide) hf (fun hf => ?_) (fun hf => ?_)
        · refine g_aload_n C dX7_nextToken_175 rfl 0 rfl ?_
          refine g_dup C dX7_nextToken_176 rfl ?_
          refine g_get C (R := RX7) (T := TX7) (N := 11) (k := 5) (v := .int (rI s3 36 5)) kd_36 (by decide) rfl (in_36 hS) hinX7 (by decide) fl_X7_39 rfl rfl dX7_nextToken_177 ?_
          refine g_iconst C (v := 1) dX7_nextToken_180 rfl ?_
          refine g_iadd C dX7_nextToken_181 ?_
          refine g_putI C (R := RX7) (T := TX7) (N := 11) (k := 5) (ty := .int) tyX7 tyX7_ok nmX7 kd_36 (by decide) rfl (in_36 hS) hinX7 (by decide) fl_X7_39 rfl rfl rfl rfl rfl (Nat.le_of_ble_eq_true rfl) fs_7_5 dX7_nextToken_182 ?_
          refine g_nameS hf (fun s4 hf => ?_)
          refine g_aload_n C dX7_nextToken_185 rfl 0 rfl ?_
          refine g_callVI C (R := RX7) (T := TX7) (N := 11) [] (fun _ _ h => c_X7_signToken (kl x) N w hS h) (g_cwV C hR ml_X7_91 im_X7_signToken sl_X7_signToken ini_X7 cd_X7_signToken hd_X7_signToken (by decide)) kd_36 (by decide) rfl (in_36 hS) rfl _ rfl (Nat.le_of_ble_eq_true rfl) dX7_nextToken_186 hf (fun r5 s5 hf => ?_)
          exact g_iret C dX7_nextToken_189 hf
        · exact j138 (f_X7_nextToken_j170 N) j170 N _ _ hf
      · exact j90 (f_X7_nextToken_j122 N) j122 N _ _ hf
    · refine g_iconst C (v := 0) dX7_nextToken_77 rfl ?_
      exact g_iret C dX7_nextToken_78 hf
  have j27 : ∀ (k61 : Int32 → Mem → Option (Int32 × Mem)), (∀ (v1 : Int32) (s : Mem), k61 v1 s = some (r, s') → G x (QI x w r s') 2 w 61 [(0, .ref (ad w 36)), (1, .int v1)] [] s) → ∀ (n : Nat), ∀ (v1 : Int32) (s : Mem), f_X7_nextToken_L27 N k61 n v1 s = some (r, s') → G x (QI x w r s') 2 w 27 [(0, .ref (ad w 36)), (1, .int v1)] [] s := by
    intro k61 q61 n
    induction n with
    | zero => intro v1 s hf; cases hf
    | succ n ih =>
      intro v1 s hf
      unfold f_X7_nextToken_L27 at hf
      refine g_aload_n C dX7_nextToken_27 rfl 0 rfl ?_
      refine g_get C (R := RX7) (T := TX7) (N := 11) (k := 4) (v := .int (rI s 36 4)) kd_36 (by decide) rfl (in_36 hS) hinX7 (by decide) fl_X7_35 rfl rfl dX7_nextToken_28 ?_
      refine g_iload_n C dX7_nextToken_31 rfl 1 rfl ?_
      refine g_icmp_ge (tgt := 61) C dX7_nextToken_32 (by decide) hf (fun hf => ?_) (fun hf => ?_)
      · exact q61 _ _ hf
      · refine g_aload_n C dX7_nextToken_35 rfl 0 rfl ?_
        refine g_aload_n C dX7_nextToken_36 rfl 0 rfl ?_
        refine g_get C (R := RX7) (T := TX7) (N := 11) (k := 4) (v := .int (rI s 36 4)) kd_36 (by decide) rfl (in_36 hS) hinX7 (by decide) fl_X7_35 rfl rfl dX7_nextToken_37 ?_
        refine g_callVI C (R := RX7) (T := TX7) (N := 11) [.int (rI s 36 4)] (fun _ _ h => c_X7_byteAt (kl x) N w hS _ h) (g_cwV C hR ml_X7_73 im_X7_byteAt sl_X7_byteAt ini_X7 cd_X7_byteAt hd_X7_byteAt (by decide)) kd_36 (by decide) rfl (in_36 hS) rfl _ rfl (Nat.le_of_ble_eq_true rfl) dX7_nextToken_40 hf (fun r1 s1 hf => ?_)
        refine g_bipush C (v := 32) dX7_nextToken_43 (by decide) ?_
        refine g_icmp_ne (tgt := 61) C dX7_nextToken_45 (by decide) hf (fun hf => ?_) (fun hf => ?_)
        · exact q61 _ _ hf
        · refine g_aload_n C dX7_nextToken_48 rfl 0 rfl ?_
          refine g_dup C dX7_nextToken_49 rfl ?_
          refine g_get C (R := RX7) (T := TX7) (N := 11) (k := 4) (v := .int (rI s1 36 4)) kd_36 (by decide) rfl (in_36 hS) hinX7 (by decide) fl_X7_35 rfl rfl dX7_nextToken_50 ?_
          refine g_iconst C (v := 1) dX7_nextToken_53 rfl ?_
          refine g_iadd C dX7_nextToken_54 ?_
          refine g_putI C (R := RX7) (T := TX7) (N := 11) (k := 4) (ty := .int) tyX7 tyX7_ok nmX7 kd_36 (by decide) rfl (in_36 hS) hinX7 (by decide) fl_X7_35 rfl rfl rfl rfl rfl (Nat.le_of_ble_eq_true rfl) fs_7_4 dX7_nextToken_55 ?_
          refine g_nameS hf (fun s2 hf => ?_)
          refine g_goto (tgt := 27) C dX7_nextToken_58 (by decide) ?_
          exact ih _ _ hf
  have j18 : ∀ (p0 : Int32) (s : Mem), f_X7_nextToken_j18 N p0 s = some (r, s') → G x (QI x w r s') 2 w 18 [(0, .ref (ad w 36))] [.int p0] s := by
    intro p0 s hf
    unfold f_X7_nextToken_j18 at hf
    refine g_istore_n (lv' := [(1, .int p0), (0, .ref (ad w 36))]) C dX7_nextToken_18 rfl (by decide) rfl ?_
    refine g_aload_n C dX7_nextToken_19 rfl 1 rfl ?_
    refine g_aload_n C dX7_nextToken_20 rfl 1 rfl ?_
    refine g_get C (R := RX7) (T := TX7) (N := 11) (k := 5) (v := .int (rI s 36 5)) kd_36 (by decide) rfl (in_36 hS) hinX7 (by decide) fl_X7_39 rfl rfl dX7_nextToken_21 ?_
    refine g_putI C (R := RX7) (T := TX7) (N := 11) (k := 4) (ty := .int) tyX7 tyX7_ok nmX7 kd_36 (by decide) rfl (in_36 hS) hinX7 (by decide) fl_X7_35 rfl rfl rfl rfl rfl (Nat.le_of_ble_eq_true rfl) fs_7_4 dX7_nextToken_24 ?_
    refine g_nameS hf (fun s1 hf => ?_)
    refine g_sub [1, 0] rfl ?_
    exact j27 (f_X7_nextToken_j61 N) j61 N _ _ hf
  refine g_lv (lv' := [(0, .ref (ad w 36))]) rfl ?_
  unfold f_X7_nextToken at hf
  refine g_aload_n C dX7_nextToken_0 rfl 0 rfl ?_
  refine g_getT C (in_36 hS) hinX7 fl_X7_32 dX7_nextToken_1 hf (fun hf => ?_) (fun hf => ?_)
  · refine g_ifnonnullN C dX7_nextToken_4 ?_
    refine g_iconst C (v := 0) dX7_nextToken_7 rfl ?_
    refine g_goto (tgt := 18) C dX7_nextToken_8 (by decide) ?_
    exact j18 _ _ hf
  · refine g_ifnonnull (tgt := 11) C dX7_nextToken_4 (by decide) ?_
    refine g_aload_n C dX7_nextToken_11 rfl 0 rfl ?_
    refine g_getT C (in_36 hS) hinX7 fl_X7_32 dX7_nextToken_12 hf (fun hf => ?_) (fun hf => ?_)
    · cases hf
    · refine g_get C (R := RX3) (T := TX3) (N := 2) (k := 1) (v := .int (rI s 43 1)) kd_43 (by decide) rfl (in_43 hS) hinX3 (by decide) fl_X7_76 rfl rfl dX7_nextToken_15 ?_
      exact j18 _ _ hf

set_option maxHeartbeats 4000000 in
set_option maxRecDepth 100000 in
theorem c_X7_isClauseBegun (l : Launch) (N : Nat) (w : WX) (hS : SS w = Sc) (a1 : Int32) {s s' : Mem} {r : Bool} (hf : f_X7_isClauseBegun N a1 s = some (r, s')) : CB l yX7_isClauseBegun (wz yX7_isClauseBegun cX7_isClauseBegun 3 (some .boolean)) ({ frames := 1, cells := 0, slots := 0, locals := 24 } : Room) [.ref (ad w 36), .int a1] w s r s' := by
  refine met_startB (cc := cX7_isClauseBegun) (ret := (some .boolean)) (own := RX7) (maxL := 3) (by decide) rfl (Nat.le_of_ble_eq_true rfl) (fun x C hR hl => ?_)
  have j49 : ∀ (v2 : Int32) (p0 : Bool) (p1 : Bool) (p2 : Int32) (s : Mem), f_X7_isClauseBegun_j49 N v2 p0 p1 p2 s = some (r, s') → G x (QB x w r s') 3 w 49 [(0, .ref (ad w 36)), (2, .int v2)] [.int (bI p0), .int (bI p1), .int p2, .ref (ad w 37)] s := by
    intro v2 p0 p1 p2 s hf
    unfold f_X7_isClauseBegun_j49 at hf
    refine g_callVV C (R := RX5) (T := TX5) (N := 4) [.int p2, .int (bI p1), .int (bI p0)] (fun _ h => c_X5_set (kl x) N w (ok_37 hS) _ _ _ h) (g_cwV C hR ml_X7_156 im_X5_set sl_X5_set ini_X5 cd_X5_set hd_X5_set (by decide)) kd_37 (by decide) rfl (in_37 hS) rfl _ rfl (Nat.le_of_ble_eq_true rfl) dX7_isClauseBegun_49 hf (fun s1 hf => ?_)
    refine g_aload_n C dX7_isClauseBegun_52 rfl 0 rfl ?_
    refine g_get C (R := RX7) (T := TX7) (N := 11) (k := 0) (v := .ref (ad w 37)) kd_36 (by decide) rfl (in_36 hS) hinX7 (by decide) fl_X7_14 rfl rfl dX7_isClauseBegun_53 ?_
    refine g_iload_n C dX7_isClauseBegun_56 rfl 1 rfl ?_
    refine g_iconst C (v := 1) dX7_isClauseBegun_57 rfl ?_
    refine g_aload_n C dX7_isClauseBegun_58 rfl 0 rfl ?_
    refine g_get C (R := RX7) (T := TX7) (N := 11) (k := 1) (v := .ref (ad w 39)) kd_36 (by decide) rfl (in_36 hS) hinX7 (by decide) fl_X7_20 rfl rfl dX7_isClauseBegun_59 ?_
    refine g_get C (R := RX5) (T := TX5) (N := 4) (k := 3) (v := .int (rI s1 39 3)) kd_39 (by decide) rfl (in_39 hS) hinX5 (by decide) fl_X7_160 rfl rfl dX7_isClauseBegun_62 ?_
    refine g_callVV C (R := RX5) (T := TX5) (N := 4) [.int v2, .int 1, .int (rI s1 39 3)] (fun _ h => c_X5_set (kl x) N w (ok_37 hS) _ _ _ h) (g_cwV C hR ml_X7_156 im_X5_set sl_X5_set ini_X5 cd_X5_set hd_X5_set (by decide)) kd_37 (by decide) rfl (in_37 hS) rfl _ rfl (Nat.le_of_ble_eq_true rfl) dX7_isClauseBegun_65 hf (fun s2 hf => ?_)
    refine g_aload_n C dX7_isClauseBegun_68 rfl 0 rfl ?_
    refine g_iconst C (v := 1) dX7_isClauseBegun_69 rfl ?_
    refine g_putI C (R := RX7) (T := TX7) (N := 11) (k := 7) (ty := .int) tyX7 tyX7_ok nmX7 kd_36 (by decide) rfl (in_36 hS) hinX7 (by decide) fl_X7_45 rfl rfl rfl rfl rfl (Nat.le_of_ble_eq_true rfl) fs_7_7 dX7_isClauseBegun_70 ?_
    refine g_nameS hf (fun s3 hf => ?_)
    refine g_iconst C (v := 1) dX7_isClauseBegun_73 rfl ?_
    exact g_zret (v := true) C dX7_isClauseBegun_74 hf
  have j12 : ∀ (v1 : Int32) (s : Mem), f_X7_isClauseBegun_j12 N v1 s = some (r, s') → G x (QB x w r s') 3 w 12 [(0, .ref (ad w 36)), (1, .int v1)] [] s := by
    intro v1 s hf
    unfold f_X7_isClauseBegun_j12 at hf
    refine g_aload_n C dX7_isClauseBegun_12 rfl 0 rfl ?_
    refine g_get C (R := RX7) (T := TX7) (N := 11) (k := 0) (v := .ref (ad w 37)) kd_36 (by decide) rfl (in_36 hS) hinX7 (by decide) fl_X7_14 rfl rfl dX7_isClauseBegun_13 ?_
    refine g_callVB C (R := RX5) (T := TX5) (N := 4) [] (fun _ _ h => c_X5_isFull (kl x) N w (ok_37 hS) h) (g_cwV C hR ml_X7_149 im_X5_isFull sl_X5_isFull ini_X5 cd_X5_isFull hd_X5_isFull (by decide)) kd_37 (by decide) rfl (in_37 hS) rfl _ rfl (Nat.le_of_ble_eq_true rfl) dX7_isClauseBegun_16 hf (fun r1 s1 hf => ?_)
    refine g_ifeqB (tgt := 24) C dX7_isClauseBegun_19 (by decide) hf (fun hf => ?_) (fun hf => ?_)
    · refine g_aload_n C dX7_isClauseBegun_24 rfl 0 rfl ?_
      refine g_get C (R := RX7) (T := TX7) (N := 11) (k := 0) (v := .ref (ad w 37)) kd_36 (by decide) rfl (in_36 hS) hinX7 (by decide) fl_X7_14 rfl rfl dX7_isClauseBegun_25 ?_
      refine g_callVI C (R := RX5) (T := TX5) (N := 4) [] (fun _ _ h => c_X5_add (kl x) N w (ok_37 hS) h) (g_cwV C hR ml_X7_153 im_X5_add sl_X5_add ini_X5 cd_X5_add hd_X5_add (by decide)) kd_37 (by decide) rfl (in_37 hS) rfl _ rfl (Nat.le_of_ble_eq_true rfl) dX7_isClauseBegun_28 hf (fun r2 s2 hf => ?_)
      refine g_istore_n (lv' := [(2, .int r2), (0, .ref (ad w 36)), (1, .int v1)]) C dX7_isClauseBegun_31 rfl (by decide) rfl ?_
      refine g_aload_n C dX7_isClauseBegun_32 rfl 1 rfl ?_
      refine g_get C (R := RX7) (T := TX7) (N := 11) (k := 0) (v := .ref (ad w 37)) kd_36 (by decide) rfl (in_36 hS) hinX7 (by decide) fl_X7_14 rfl rfl dX7_isClauseBegun_33 ?_
      refine g_iload_n C dX7_isClauseBegun_36 rfl 0 rfl ?_
      refine g_iconst C (v := 0) dX7_isClauseBegun_37 rfl ?_
      refine g_iload_n C dX7_isClauseBegun_38 rfl 2 rfl ?_
      refine g_bipush C (v := 9) dX7_isClauseBegun_39 (by decide) ?_
      refine g_icmp_ne (tgt := 48) C dX7_isClauseBegun_41 (by decide) hf (fun hf => ?_) (fun hf => ?_)
      · refine g_iconst C (v := 0) dX7_isClauseBegun_48 rfl ?_
        refine g_sub [1, 0] rfl ?_
        exact j49 _ _ _ _ _ hf
      · refine g_iconst C (v := 1) dX7_isClauseBegun_44 rfl ?_
        refine g_goto (tgt := 49) C dX7_isClauseBegun_45 (by decide) ?_
        refine g_sub [1, 0] rfl ?_
        exact j49 _ _ _ _ _ hf
    · refine g_iconst C (v := 0) dX7_isClauseBegun_22 rfl ?_
      exact g_zret (v := false) C dX7_isClauseBegun_23 hf
  refine g_lv (lv' := [(0, .ref (ad w 36)), (1, .int a1)]) rfl ?_
  unfold f_X7_isClauseBegun at hf
  refine g_iload_n C dX7_isClauseBegun_0 rfl 1 rfl ?_
  refine g_bipush C (v := 9) dX7_isClauseBegun_1 (by decide) ?_
  refine g_icmp_eq (tgt := 12) C dX7_isClauseBegun_3 (by decide) hf (fun hf => ?_) (fun hf => ?_)
  · exact j12 _ _ hf
  · refine g_iload_n C dX7_isClauseBegun_6 rfl 1 rfl ?_
    refine g_bipush C (v := 10) dX7_isClauseBegun_7 (by decide) ?_
    refine g_icmp_ne (tgt := 22) C dX7_isClauseBegun_9 (by decide) hf (fun hf => ?_) (fun hf => ?_)
    · refine g_iconst C (v := 0) dX7_isClauseBegun_22 rfl ?_
      exact g_zret (v := false) C dX7_isClauseBegun_23 hf
    · exact j12 _ _ hf

set_option maxHeartbeats 4000000 in
set_option maxRecDepth 100000 in
theorem c_X7_isOneOpened (l : Launch) (N : Nat) (w : WX) (hS : SS w = Sc) (a1 : Int32) {s s' : Mem} {r : Bool} (hf : f_X7_isOneOpened N a1 s = some (r, s')) : CB l yX7_isOneOpened (wz yX7_isOneOpened cX7_isOneOpened 2 (some .boolean)) ({ frames := 1, cells := 0, slots := 0, locals := 21 } : Room) [.ref (ad w 36), .int a1] w s r s' := by
  refine met_startB (cc := cX7_isOneOpened) (ret := (some .boolean)) (own := RX7) (maxL := 2) (by decide) rfl (Nat.le_of_ble_eq_true rfl) (fun x C hR hl => ?_)
  have j46 : ∀ (v1 : Int32) (s : Mem), f_X7_isOneOpened_j46 N v1 s = some (r, s') → G x (QB x w r s') 2 w 46 [(0, .ref (ad w 36)), (1, .int v1)] [] s := by
    intro v1 s hf
    unfold f_X7_isOneOpened_j46 at hf
    refine g_aload_n C dX7_isOneOpened_46 rfl 0 rfl ?_
    refine g_get C (R := RX7) (T := TX7) (N := 11) (k := 2) (v := .ref (ad w 41)) kd_36 (by decide) rfl (in_36 hS) hinX7 (by decide) fl_X7_28 rfl rfl dX7_isOneOpened_47 ?_
    refine g_iload_n C dX7_isOneOpened_50 rfl 1 rfl ?_
    refine g_callVV C (R := RX3) (T := TX3) (N := 2) [.int v1] (fun _ h => c_X3_push (kl x) N w (ok_41 hS) _ h) (g_cwV C hR ml_X7_161 im_X3_push sl_X3_push ini_X3 cd_X3_push hd_X3_push (by decide)) kd_41 (by decide) rfl (in_41 hS) rfl _ rfl (Nat.le_of_ble_eq_true rfl) dX7_isOneOpened_51 hf (fun s1 hf => ?_)
    refine g_iconst C (v := 1) dX7_isOneOpened_54 rfl ?_
    exact g_zret (v := true) C dX7_isOneOpened_55 hf
  have j30 : ∀ (v1 : Int32) (s : Mem), f_X7_isOneOpened_j30 N v1 s = some (r, s') → G x (QB x w r s') 2 w 30 [(0, .ref (ad w 36)), (1, .int v1)] [] s := by
    intro v1 s hf
    unfold f_X7_isOneOpened_j30 at hf
    refine g_iload_n C dX7_isOneOpened_30 rfl 1 rfl ?_
    refine g_bipush C (v := 14) dX7_isOneOpened_31 (by decide) ?_
    refine g_icmp_ne (tgt := 46) C dX7_isOneOpened_33 (by decide) hf (fun hf => ?_) (fun hf => ?_)
    · exact j46 _ _ hf
    · refine g_aload_n C dX7_isOneOpened_36 rfl 0 rfl ?_
      refine g_dup C dX7_isOneOpened_37 rfl ?_
      refine g_get C (R := RX7) (T := TX7) (N := 11) (k := 8) (v := .int (rI s 36 8)) kd_36 (by decide) rfl (in_36 hS) hinX7 (by decide) fl_X7_48 rfl rfl dX7_isOneOpened_38 ?_
      refine g_iconst C (v := 1) dX7_isOneOpened_41 rfl ?_
      refine g_iadd C dX7_isOneOpened_42 ?_
      refine g_putI C (R := RX7) (T := TX7) (N := 11) (k := 8) (ty := .int) tyX7 tyX7_ok nmX7 kd_36 (by decide) rfl (in_36 hS) hinX7 (by decide) fl_X7_48 rfl rfl rfl rfl rfl (Nat.le_of_ble_eq_true rfl) fs_7_8 dX7_isOneOpened_43 ?_
      refine g_nameS hf (fun s1 hf => ?_)
      exact j46 _ _ hf
  have j14 : ∀ (v1 : Int32) (s : Mem), f_X7_isOneOpened_j14 N v1 s = some (r, s') → G x (QB x w r s') 2 w 14 [(0, .ref (ad w 36)), (1, .int v1)] [] s := by
    intro v1 s hf
    unfold f_X7_isOneOpened_j14 at hf
    refine g_iload_n C dX7_isOneOpened_14 rfl 1 rfl ?_
    refine g_bipush C (v := 14) dX7_isOneOpened_15 (by decide) ?_
    refine g_icmp_ne (tgt := 30) C dX7_isOneOpened_17 (by decide) hf (fun hf => ?_) (fun hf => ?_)
    · exact j30 _ _ hf
    · refine g_aload_n C dX7_isOneOpened_20 rfl 0 rfl ?_
      refine g_get C (R := RX7) (T := TX7) (N := 11) (k := 8) (v := .int (rI s 36 8)) kd_36 (by decide) rfl (in_36 hS) hinX7 (by decide) fl_X7_48 rfl rfl dX7_isOneOpened_21 ?_
      refine g_iconst C (v := 3) dX7_isOneOpened_24 rfl ?_
      refine g_icmp_lt (tgt := 30) C dX7_isOneOpened_25 (by decide) hf (fun hf => ?_) (fun hf => ?_)
      · exact j30 _ _ hf
      · refine g_iconst C (v := 0) dX7_isOneOpened_28 rfl ?_
        exact g_zret (v := false) C dX7_isOneOpened_29 hf
  refine g_lv (lv' := [(0, .ref (ad w 36)), (1, .int a1)]) rfl ?_
  unfold f_X7_isOneOpened at hf
  refine g_iload_n C dX7_isOneOpened_0 rfl 1 rfl ?_
  refine g_bipush C (v := 13) dX7_isOneOpened_1 (by decide) ?_
  refine g_icmp_eq (tgt := 14) C dX7_isOneOpened_3 (by decide) hf (fun hf => ?_) (fun hf => ?_)
  · exact j14 _ _ hf
  · refine g_iload_n C dX7_isOneOpened_6 rfl 1 rfl ?_
    refine g_bipush C (v := 14) dX7_isOneOpened_7 (by decide) ?_
    refine g_icmp_eq (tgt := 14) C dX7_isOneOpened_9 (by decide) hf (fun hf => ?_) (fun hf => ?_)
    · exact j14 _ _ hf
    · refine g_iconst C (v := 0) dX7_isOneOpened_12 rfl ?_
      exact g_zret (v := false) C dX7_isOneOpened_13 hf

set_option maxHeartbeats 4000000 in
set_option maxRecDepth 100000 in
theorem c_X7_addStep (l : Launch) (N : Nat) (w : WX) (hS : SS w = Sc) (a1 : Int32) (a2 : Int32) (a3 : Int32) {s s' : Mem} (hf : f_X7_addStep N a1 a2 a3 s = some ((), s')) : CV l yX7_addStep (wz yX7_addStep cX7_addStep 5 none) ({ frames := 1, cells := 0, slots := 0, locals := 24 } : Room) [.ref (ad w 36), .int a1, .int a2, .int a3] w s s' := by
  refine met_startV (cc := cX7_addStep) (ret := none) (own := RX7) (maxL := 5) (by decide) rfl (Nat.le_of_ble_eq_true rfl) (fun x C hR hl => ?_)
  refine g_lv (lv' := [(0, .ref (ad w 36)), (1, .int a1), (2, .int a2), (3, .int a3)]) rfl ?_
  unfold f_X7_addStep at hf
  refine g_aload_n C dX7_addStep_0 rfl 0 rfl ?_
  refine g_get C (R := RX7) (T := TX7) (N := 11) (k := 1) (v := .ref (ad w 39)) kd_36 (by decide) rfl (in_36 hS) hinX7 (by decide) fl_X7_20 rfl rfl dX7_addStep_1 ?_
  refine g_callVI C (R := RX5) (T := TX5) (N := 4) [] (fun _ _ h => c_X5_add (kl x) N w (ok_39 hS) h) (g_cwV C hR ml_X7_153 im_X5_add sl_X5_add ini_X5 cd_X5_add hd_X5_add (by decide)) kd_39 (by decide) rfl (in_39 hS) rfl _ rfl (Nat.le_of_ble_eq_true rfl) dX7_addStep_4 hf (fun r1 s1 hf => ?_)
  refine g_istore (lv' := [(4, .int r1), (0, .ref (ad w 36)), (1, .int a1), (2, .int a2), (3, .int a3)]) C dX7_addStep_7 (by decide) rfl ?_
  refine g_aload_n C dX7_addStep_9 rfl 1 rfl ?_
  refine g_get C (R := RX7) (T := TX7) (N := 11) (k := 1) (v := .ref (ad w 39)) kd_36 (by decide) rfl (in_36 hS) hinX7 (by decide) fl_X7_20 rfl rfl dX7_addStep_10 ?_
  refine g_iload C dX7_addStep_13 0 rfl ?_
  refine g_iconst C (v := 0) dX7_addStep_15 rfl ?_
  refine g_iload_n C dX7_addStep_16 rfl 2 rfl ?_
  refine g_callVV C (R := RX5) (T := TX5) (N := 4) [.int r1, .int 0, .int a1] (fun _ h => c_X5_set (kl x) N w (ok_39 hS) _ _ _ h) (g_cwV C hR ml_X7_156 im_X5_set sl_X5_set ini_X5 cd_X5_set hd_X5_set (by decide)) kd_39 (by decide) rfl (in_39 hS) rfl _ rfl (Nat.le_of_ble_eq_true rfl) dX7_addStep_17 hf (fun s2 hf => ?_)
  refine g_aload_n C dX7_addStep_20 rfl 1 rfl ?_
  refine g_get C (R := RX7) (T := TX7) (N := 11) (k := 1) (v := .ref (ad w 39)) kd_36 (by decide) rfl (in_36 hS) hinX7 (by decide) fl_X7_20 rfl rfl dX7_addStep_21 ?_
  refine g_iload C dX7_addStep_24 0 rfl ?_
  refine g_iconst C (v := 1) dX7_addStep_26 rfl ?_
  refine g_iload_n C dX7_addStep_27 rfl 3 rfl ?_
  refine g_callVV C (R := RX5) (T := TX5) (N := 4) [.int r1, .int 1, .int a2] (fun _ h => c_X5_set (kl x) N w (ok_39 hS) _ _ _ h) (g_cwV C hR ml_X7_156 im_X5_set sl_X5_set ini_X5 cd_X5_set hd_X5_set (by decide)) kd_39 (by decide) rfl (in_39 hS) rfl _ rfl (Nat.le_of_ble_eq_true rfl) dX7_addStep_28 hf (fun s3 hf => ?_)
  refine g_aload_n C dX7_addStep_31 rfl 1 rfl ?_
  refine g_get C (R := RX7) (T := TX7) (N := 11) (k := 1) (v := .ref (ad w 39)) kd_36 (by decide) rfl (in_36 hS) hinX7 (by decide) fl_X7_20 rfl rfl dX7_addStep_32 ?_
  refine g_iload C dX7_addStep_35 0 rfl ?_
  refine g_iconst C (v := 2) dX7_addStep_37 rfl ?_
  refine g_iload_n C dX7_addStep_38 rfl 4 rfl ?_
  refine g_callVV C (R := RX5) (T := TX5) (N := 4) [.int r1, .int 2, .int a3] (fun _ h => c_X5_set (kl x) N w (ok_39 hS) _ _ _ h) (g_cwV C hR ml_X7_156 im_X5_set sl_X5_set ini_X5 cd_X5_set hd_X5_set (by decide)) kd_39 (by decide) rfl (in_39 hS) rfl _ rfl (Nat.le_of_ble_eq_true rfl) dX7_addStep_39 hf (fun s4 hf => ?_)
  exact g_vret C dX7_addStep_42 hf

set_option maxHeartbeats 4000000 in
set_option maxRecDepth 100000 in
theorem c_X7_isValueTold (l : Launch) (N : Nat) (w : WX) (hS : SS w = Sc) (a1 : Int32) {s s' : Mem} {r : Bool} (hf : f_X7_isValueTold N a1 s = some (r, s')) : CB l yX7_isValueTold (wz yX7_isValueTold cX7_isValueTold 3 (some .boolean)) ({ frames := 2, cells := 0, slots := 0, locals := 48 } : Room) [.ref (ad w 36), .int a1] w s r s' := by
  refine met_startB (cc := cX7_isValueTold) (ret := (some .boolean)) (own := RX7) (maxL := 3) (by decide) rfl (Nat.le_of_ble_eq_true rfl) (fun x C hR hl => ?_)
  refine g_lv (lv' := [(0, .ref (ad w 36)), (1, .int a1)]) rfl ?_
  unfold f_X7_isValueTold at hf
  refine g_iload_n C dX7_isValueTold_0 rfl 1 rfl ?_
  refine g_sipush C (v := 1000) dX7_isValueTold_1 (by decide) ?_
  refine g_imul C dX7_isValueTold_4 ?_
  refine g_aload_n C dX7_isValueTold_5 rfl 0 rfl ?_
  refine g_get C (R := RX7) (T := TX7) (N := 11) (k := 6) (v := .int (rI s 36 6)) kd_36 (by decide) rfl (in_36 hS) hinX7 (by decide) fl_X7_42 rfl rfl dX7_isValueTold_6 ?_
  refine g_iadd C dX7_isValueTold_9 ?_
  refine g_istore_n (lv' := [(2, .int ((a1 * 1000) + (rI s 36 6))), (0, .ref (ad w 36)), (1, .int a1)]) C dX7_isValueTold_10 rfl (by decide) rfl ?_
  refine g_aload_n C dX7_isValueTold_11 rfl 1 rfl ?_
  refine g_get C (R := RX7) (T := TX7) (N := 11) (k := 10) (v := .int (rI s 36 10)) kd_36 (by decide) rfl (in_36 hS) hinX7 (by decide) fl_X7_54 rfl rfl dX7_isValueTold_12 ?_
  refine g_if_ne (tgt := 30) C dX7_isValueTold_15 (by decide) hf (fun hf => ?_) (fun hf => ?_)
  · refine g_aload_n C dX7_isValueTold_30 rfl 1 rfl ?_
    refine g_aload_n C dX7_isValueTold_31 rfl 1 rfl ?_
    refine g_get C (R := RX7) (T := TX7) (N := 11) (k := 10) (v := .int (rI s 36 10)) kd_36 (by decide) rfl (in_36 hS) hinX7 (by decide) fl_X7_54 rfl rfl dX7_isValueTold_32 ?_
    refine g_aload_n C dX7_isValueTold_35 rfl 1 rfl ?_
    refine g_get C (R := RX7) (T := TX7) (N := 11) (k := 9) (v := .int (rI s 36 9)) kd_36 (by decide) rfl (in_36 hS) hinX7 (by decide) fl_X7_51 rfl rfl dX7_isValueTold_36 ?_
    refine g_iload_n C dX7_isValueTold_39 rfl 0 rfl ?_
    refine g_callVV C (R := RX7) (T := TX7) (N := 11) [.int (rI s 36 10), .int (rI s 36 9), .int ((a1 * 1000) + (rI s 36 6))] (fun _ h => c_X7_addStep (kl x) N w hS _ _ _ h) (g_cwV C hR ml_X7_164 im_X7_addStep sl_X7_addStep ini_X7 cd_X7_addStep hd_X7_addStep (by decide)) kd_36 (by decide) rfl (in_36 hS) rfl _ rfl (Nat.le_of_ble_eq_true rfl) dX7_isValueTold_40 hf (fun s1 hf => ?_)
    refine g_aload_n C dX7_isValueTold_43 rfl 1 rfl ?_
    refine g_iconst C (v := 0) dX7_isValueTold_44 rfl ?_
    refine g_putI C (R := RX7) (T := TX7) (N := 11) (k := 10) (ty := .int) tyX7 tyX7_ok nmX7 kd_36 (by decide) rfl (in_36 hS) hinX7 (by decide) fl_X7_54 rfl rfl rfl rfl rfl (Nat.le_of_ble_eq_true rfl) fs_7_10 dX7_isValueTold_45 ?_
    refine g_nameS hf (fun s2 hf => ?_)
    refine g_aload_n C dX7_isValueTold_48 rfl 1 rfl ?_
    refine g_iconst C (v := 5) dX7_isValueTold_49 rfl ?_
    refine g_putI C (R := RX7) (T := TX7) (N := 11) (k := 7) (ty := .int) tyX7 tyX7_ok nmX7 kd_36 (by decide) rfl (in_36 hS) hinX7 (by decide) fl_X7_45 rfl rfl rfl rfl rfl (Nat.le_of_ble_eq_true rfl) fs_7_7 dX7_isValueTold_50 ?_
    refine g_nameS hf (fun s3 hf => ?_)
    refine g_iconst C (v := 1) dX7_isValueTold_53 rfl ?_
    exact g_zret (v := true) C dX7_isValueTold_54 hf
  · refine g_aload_n C dX7_isValueTold_18 rfl 1 rfl ?_
    refine g_iload_n C dX7_isValueTold_19 rfl 0 rfl ?_
    refine g_putI C (R := RX7) (T := TX7) (N := 11) (k := 9) (ty := .int) tyX7 tyX7_ok nmX7 kd_36 (by decide) rfl (in_36 hS) hinX7 (by decide) fl_X7_51 rfl rfl rfl rfl rfl (Nat.le_of_ble_eq_true rfl) fs_7_9 dX7_isValueTold_20 ?_
    refine g_nameS hf (fun s4 hf => ?_)
    refine g_aload_n C dX7_isValueTold_23 rfl 1 rfl ?_
    refine g_iconst C (v := 3) dX7_isValueTold_24 rfl ?_
    refine g_putI C (R := RX7) (T := TX7) (N := 11) (k := 7) (ty := .int) tyX7 tyX7_ok nmX7 kd_36 (by decide) rfl (in_36 hS) hinX7 (by decide) fl_X7_45 rfl rfl rfl rfl rfl (Nat.le_of_ble_eq_true rfl) fs_7_7 dX7_isValueTold_25 ?_
    refine g_nameS hf (fun s5 hf => ?_)
    refine g_iconst C (v := 1) dX7_isValueTold_28 rfl ?_
    exact g_zret (v := true) C dX7_isValueTold_29 hf

set_option maxHeartbeats 4000000 in
set_option maxRecDepth 100000 in
theorem c_X7_isValueBegun (l : Launch) (N : Nat) (w : WX) (hS : SS w = Sc) (a1 : Int32) {s s' : Mem} {r : Bool} (hf : f_X7_isValueBegun N a1 s = some (r, s')) : CB l yX7_isValueBegun (wz yX7_isValueBegun cX7_isValueBegun 2 (some .boolean)) ({ frames := 3, cells := 0, slots := 0, locals := 70 } : Room) [.ref (ad w 36), .int a1] w s r s' := by
  refine met_startB (cc := cX7_isValueBegun) (ret := (some .boolean)) (own := RX7) (maxL := 2) (by decide) rfl (Nat.le_of_ble_eq_true rfl) (fun x C hR hl => ?_)
  refine g_lv (lv' := [(0, .ref (ad w 36)), (1, .int a1)]) rfl ?_
  unfold f_X7_isValueBegun at hf
  refine g_iload_n C dX7_isValueBegun_0 rfl 1 rfl ?_
  refine g_iconst C (v := 1) dX7_isValueBegun_1 rfl ?_
  refine g_icmp_lt (tgt := 11) C dX7_isValueBegun_2 (by decide) hf (fun hf => ?_) (fun hf => ?_)
  · refine g_iconst C (v := 0) dX7_isValueBegun_11 rfl ?_
    exact g_zret (v := false) C dX7_isValueBegun_12 hf
  · refine g_iload_n C dX7_isValueBegun_5 rfl 1 rfl ?_
    refine g_bipush C (v := 8) dX7_isValueBegun_6 (by decide) ?_
    refine g_icmp_le (tgt := 13) C dX7_isValueBegun_8 (by decide) hf (fun hf => ?_) (fun hf => ?_)
    · refine g_iload_n C dX7_isValueBegun_13 rfl 1 rfl ?_
      refine g_bipush C (v := 8) dX7_isValueBegun_14 (by decide) ?_
      refine g_icmp_eq (tgt := 25) C dX7_isValueBegun_16 (by decide) hf (fun hf => ?_) (fun hf => ?_)
      · refine g_aload_n C dX7_isValueBegun_25 rfl 0 rfl ?_
        refine g_iconst C (v := 2) dX7_isValueBegun_26 rfl ?_
        refine g_putI C (R := RX7) (T := TX7) (N := 11) (k := 7) (ty := .int) tyX7 tyX7_ok nmX7 kd_36 (by decide) rfl (in_36 hS) hinX7 (by decide) fl_X7_45 rfl rfl rfl rfl rfl (Nat.le_of_ble_eq_true rfl) fs_7_7 dX7_isValueBegun_27 ?_
        refine g_nameS hf (fun s1 hf => ?_)
        refine g_iconst C (v := 1) dX7_isValueBegun_30 rfl ?_
        exact g_zret (v := true) C dX7_isValueBegun_31 hf
      · refine g_aload_n C dX7_isValueBegun_19 rfl 0 rfl ?_
        refine g_iload_n C dX7_isValueBegun_20 rfl 1 rfl ?_
        refine g_callVB C (R := RX7) (T := TX7) (N := 11) [.int a1] (fun _ _ h => c_X7_isValueTold (kl x) N w hS _ h) (g_cwV C hR ml_X7_140 im_X7_isValueTold sl_X7_isValueTold ini_X7 cd_X7_isValueTold hd_X7_isValueTold (by decide)) kd_36 (by decide) rfl (in_36 hS) rfl _ rfl (Nat.le_of_ble_eq_true rfl) dX7_isValueBegun_21 hf (fun r2 s2 hf => ?_)
        exact g_zret C dX7_isValueBegun_24 hf
    · refine g_iconst C (v := 0) dX7_isValueBegun_11 rfl ?_
      exact g_zret (v := false) C dX7_isValueBegun_12 hf

set_option maxHeartbeats 4000000 in
set_option maxRecDepth 100000 in
theorem c_X7_isSignTold (l : Launch) (N : Nat) (w : WX) (hS : SS w = Sc) (a1 : Int32) {s s' : Mem} {r : Bool} (hf : f_X7_isSignTold N a1 s = some (r, s')) : CB l yX7_isSignTold (wz yX7_isSignTold cX7_isSignTold 2 (some .boolean)) ({ frames := 0, cells := 0, slots := 0, locals := 0 } : Room) [.ref (ad w 36), .int a1] w s r s' := by
  refine met_startB (cc := cX7_isSignTold) (ret := (some .boolean)) (own := RX7) (maxL := 2) (by decide) rfl (Nat.le_of_ble_eq_true rfl) (fun x C hR hl => ?_)
  refine g_lv (lv' := [(0, .ref (ad w 36)), (1, .int a1)]) rfl ?_
  unfold f_X7_isSignTold at hf
  refine g_iload_n C dX7_isSignTold_0 rfl 1 rfl ?_
  refine g_bipush C (v := 16) dX7_isSignTold_1 (by decide) ?_
  refine g_icmp_lt (tgt := 12) C dX7_isSignTold_3 (by decide) hf (fun hf => ?_) (fun hf => ?_)
  · refine g_iconst C (v := 0) dX7_isSignTold_12 rfl ?_
    exact g_zret (v := false) C dX7_isSignTold_13 hf
  · refine g_iload_n C dX7_isSignTold_6 rfl 1 rfl ?_
    refine g_bipush C (v := 18) dX7_isSignTold_7 (by decide) ?_
    refine g_icmp_le (tgt := 14) C dX7_isSignTold_9 (by decide) hf (fun hf => ?_) (fun hf => ?_)
    · refine g_aload_n C dX7_isSignTold_14 rfl 0 rfl ?_
      refine g_iload_n C dX7_isSignTold_15 rfl 1 rfl ?_
      refine g_putI C (R := RX7) (T := TX7) (N := 11) (k := 10) (ty := .int) tyX7 tyX7_ok nmX7 kd_36 (by decide) rfl (in_36 hS) hinX7 (by decide) fl_X7_54 rfl rfl rfl rfl rfl (Nat.le_of_ble_eq_true rfl) fs_7_10 dX7_isSignTold_16 ?_
      refine g_nameS hf (fun s1 hf => ?_)
      refine g_aload_n C dX7_isSignTold_19 rfl 0 rfl ?_
      refine g_iconst C (v := 4) dX7_isSignTold_20 rfl ?_
      refine g_putI C (R := RX7) (T := TX7) (N := 11) (k := 7) (ty := .int) tyX7 tyX7_ok nmX7 kd_36 (by decide) rfl (in_36 hS) hinX7 (by decide) fl_X7_45 rfl rfl rfl rfl rfl (Nat.le_of_ble_eq_true rfl) fs_7_7 dX7_isSignTold_21 ?_
      refine g_nameS hf (fun s2 hf => ?_)
      refine g_iconst C (v := 1) dX7_isSignTold_24 rfl ?_
      exact g_zret (v := true) C dX7_isSignTold_25 hf
    · refine g_iconst C (v := 0) dX7_isSignTold_12 rfl ?_
      exact g_zret (v := false) C dX7_isSignTold_13 hf

set_option maxHeartbeats 4000000 in
set_option maxRecDepth 100000 in
theorem c_X7_settle (l : Launch) (N : Nat) (w : WX) (hS : SS w = Sc) (a1 : Int32) {s s' : Mem} (hf : f_X7_settle N a1 s = some ((), s')) : CV l yX7_settle (wz yX7_settle cX7_settle 4 none) ({ frames := 2, cells := 0, slots := 0, locals := 48 } : Room) [.ref (ad w 36), .int a1] w s s' := by
  refine met_startV (cc := cX7_settle) (ret := none) (own := RX7) (maxL := 4) (by decide) rfl (Nat.le_of_ble_eq_true rfl) (fun x C hR hl => ?_)
  have j2 : ∀ (n : Nat), ∀ (v1 : Int32) (v2 : Int32) (s : Mem), f_X7_settle_L2 N n v1 v2 s = some ((), s') → G x (QV x w s') 4 w 2 [(0, .ref (ad w 36)), (1, .int v1), (2, .int v2)] [] s := by
    intro n
    induction n with
    | zero => intro v1 v2 s hf; cases hf
    | succ n ih =>
      intro v1 v2 s hf
      unfold f_X7_settle_L2 at hf
      refine g_iload_n C dX7_settle_2 rfl 2 rfl ?_
      refine g_sipush C (v := 200) dX7_settle_3 (by decide) ?_
      refine g_icmp_ge (tgt := 48) C dX7_settle_6 (by decide) hf (fun hf => ?_) (fun hf => ?_)
      · exact g_vret C dX7_settle_48 hf
      · refine g_aload_n C dX7_settle_9 rfl 0 rfl ?_
        refine g_get C (R := RX7) (T := TX7) (N := 11) (k := 2) (v := .ref (ad w 41)) kd_36 (by decide) rfl (in_36 hS) hinX7 (by decide) fl_X7_28 rfl rfl dX7_settle_10 ?_
        refine g_callVI C (R := RX3) (T := TX3) (N := 2) [] (fun _ _ h => c_X3_top (kl x) N w (ok_41 hS) h) (g_cwV C hR ml_X7_173 im_X3_top sl_X3_top ini_X3 cd_X3_top hd_X3_top (by decide)) kd_41 (by decide) rfl (in_41 hS) rfl _ rfl (Nat.le_of_ble_eq_true rfl) dX7_settle_13 hf (fun r1 s1 hf => ?_)
        refine g_istore_n (lv' := [(3, .int r1), (0, .ref (ad w 36)), (1, .int v1), (2, .int v2)]) C dX7_settle_16 rfl (by decide) rfl ?_
        refine g_iload_n C dX7_settle_17 rfl 0 rfl ?_
        refine g_bipush C (v := 14) dX7_settle_18 (by decide) ?_
        refine g_icmp_eq (tgt := 28) C dX7_settle_20 (by decide) hf (fun hf => ?_) (fun hf => ?_)
        · exact g_vret C dX7_settle_28 hf
        · refine g_iload_n C dX7_settle_23 rfl 0 rfl ?_
          refine g_iload_n C dX7_settle_24 rfl 2 rfl ?_
          refine g_icmp_ge (tgt := 29) C dX7_settle_25 (by decide) hf (fun hf => ?_) (fun hf => ?_)
          · refine g_aload_n C dX7_settle_29 rfl 1 rfl ?_
            refine g_aload_n C dX7_settle_30 rfl 1 rfl ?_
            refine g_get C (R := RX7) (T := TX7) (N := 11) (k := 2) (v := .ref (ad w 41)) kd_36 (by decide) rfl (in_36 hS) hinX7 (by decide) fl_X7_28 rfl rfl dX7_settle_31 ?_
            refine g_callVI C (R := RX3) (T := TX3) (N := 2) [] (fun _ _ h => c_X3_pop (kl x) N w (ok_41 hS) h) (g_cwV C hR ml_X7_170 im_X3_pop sl_X3_pop ini_X3 cd_X3_pop hd_X3_pop (by decide)) kd_41 (by decide) rfl (in_41 hS) rfl _ rfl (Nat.le_of_ble_eq_true rfl) dX7_settle_34 hf (fun r2 s2 hf => ?_)
            refine g_iconst C (v := 0) dX7_settle_37 rfl ?_
            refine g_iconst C (v := 0) dX7_settle_38 rfl ?_
            refine g_callVV C (R := RX7) (T := TX7) (N := 11) [.int r2, .int 0, .int 0] (fun _ h => c_X7_addStep (kl x) N w hS _ _ _ h) (g_cwV C hR ml_X7_164 im_X7_addStep sl_X7_addStep ini_X7 cd_X7_addStep hd_X7_addStep (by decide)) kd_36 (by decide) rfl (in_36 hS) rfl _ rfl (Nat.le_of_ble_eq_true rfl) dX7_settle_39 hf (fun s3 hf => ?_)
            refine g_iinc (v' := v2 + 1) (lv' := [(2, .int (v2 + 1)), (3, .int r1), (0, .ref (ad w 36)), (1, .int v1)]) C dX7_settle_42 3 rfl rfl (by decide) rfl ?_
            refine g_goto (tgt := 2) C dX7_settle_45 (by decide) ?_
            refine g_sub [2, 3, 0] rfl ?_
            exact ih _ _ _ hf
          · exact g_vret C dX7_settle_28 hf
  refine g_lv (lv' := [(0, .ref (ad w 36)), (1, .int a1)]) rfl ?_
  unfold f_X7_settle at hf
  refine g_iconst C (v := 0) dX7_settle_0 rfl ?_
  refine g_istore_n (lv' := [(2, .int 0), (0, .ref (ad w 36)), (1, .int a1)]) C dX7_settle_1 rfl (by decide) rfl ?_
  refine g_sub [1, 2, 0] rfl ?_
  exact j2 N _ _ _ hf

set_option maxHeartbeats 4000000 in
set_option maxRecDepth 100000 in
theorem c_X7_isOneFollowed (l : Launch) (N : Nat) (w : WX) (hS : SS w = Sc) (a1 : Int32) {s s' : Mem} {r : Bool} (hf : f_X7_isOneFollowed N a1 s = some (r, s')) : CB l yX7_isOneFollowed (wz yX7_isOneFollowed cX7_isOneFollowed 2 (some .boolean)) ({ frames := 3, cells := 0, slots := 0, locals := 71 } : Room) [.ref (ad w 36), .int a1] w s r s' := by
  refine met_startB (cc := cX7_isOneFollowed) (ret := (some .boolean)) (own := RX7) (maxL := 2) (by decide) rfl (Nat.le_of_ble_eq_true rfl) (fun x C hR hl => ?_)
  have j71 : ∀ (v1 : Int32) (s : Mem), f_X7_isOneFollowed_j71 N v1 s = some (r, s') → G x (QB x w r s') 2 w 71 [(0, .ref (ad w 36)), (1, .int v1)] [] s := by
    intro v1 s hf
    unfold f_X7_isOneFollowed_j71 at hf
    refine g_iload_n C dX7_isOneFollowed_71 rfl 1 rfl ?_
    refine g_bipush C (v := 19) dX7_isOneFollowed_72 (by decide) ?_
    refine g_icmp_ne (tgt := 84) C dX7_isOneFollowed_74 (by decide) hf (fun hf => ?_) (fun hf => ?_)
    · refine g_iconst C (v := 0) dX7_isOneFollowed_84 rfl ?_
      exact g_zret (v := false) C dX7_isOneFollowed_85 hf
    · refine g_aload_n C dX7_isOneFollowed_77 rfl 0 rfl ?_
      refine g_get C (R := RX7) (T := TX7) (N := 11) (k := 8) (v := .int (rI s 36 8)) kd_36 (by decide) rfl (in_36 hS) hinX7 (by decide) fl_X7_48 rfl rfl dX7_isOneFollowed_78 ?_
      refine g_if_le (tgt := 86) C dX7_isOneFollowed_81 (by decide) hf (fun hf => ?_) (fun hf => ?_)
      · refine g_aload_n C dX7_isOneFollowed_86 rfl 0 rfl ?_
        refine g_bipush C (v := 11) dX7_isOneFollowed_87 (by decide) ?_
        refine g_callVV C (R := RX7) (T := TX7) (N := 11) [.int 11] (fun _ h => c_X7_settle (kl x) N w hS _ h) (g_cwV C hR ml_X7_167 im_X7_settle sl_X7_settle ini_X7 cd_X7_settle hd_X7_settle (by decide)) kd_36 (by decide) rfl (in_36 hS) rfl _ rfl (Nat.le_of_ble_eq_true rfl) dX7_isOneFollowed_89 hf (fun s1 hf => ?_)
        refine g_aload_n C dX7_isOneFollowed_92 rfl 0 rfl ?_
        refine g_get C (R := RX7) (T := TX7) (N := 11) (k := 0) (v := .ref (ad w 37)) kd_36 (by decide) rfl (in_36 hS) hinX7 (by decide) fl_X7_14 rfl rfl dX7_isOneFollowed_93 ?_
        refine g_aload_n C dX7_isOneFollowed_96 rfl 0 rfl ?_
        refine g_get C (R := RX7) (T := TX7) (N := 11) (k := 0) (v := .ref (ad w 37)) kd_36 (by decide) rfl (in_36 hS) hinX7 (by decide) fl_X7_14 rfl rfl dX7_isOneFollowed_97 ?_
        refine g_get C (R := RX5) (T := TX5) (N := 4) (k := 3) (v := .int (rI s1 37 3)) kd_37 (by decide) rfl (in_37 hS) hinX5 (by decide) fl_X7_160 rfl rfl dX7_isOneFollowed_100 ?_
        refine g_iconst C (v := 1) dX7_isOneFollowed_103 rfl ?_
        refine g_isub C dX7_isOneFollowed_104 ?_
        refine g_iconst C (v := 2) dX7_isOneFollowed_105 rfl ?_
        refine g_aload_n C dX7_isOneFollowed_106 rfl 0 rfl ?_
        refine g_get C (R := RX7) (T := TX7) (N := 11) (k := 1) (v := .ref (ad w 39)) kd_36 (by decide) rfl (in_36 hS) hinX7 (by decide) fl_X7_20 rfl rfl dX7_isOneFollowed_107 ?_
        refine g_get C (R := RX5) (T := TX5) (N := 4) (k := 3) (v := .int (rI s1 39 3)) kd_39 (by decide) rfl (in_39 hS) hinX5 (by decide) fl_X7_160 rfl rfl dX7_isOneFollowed_110 ?_
        refine g_callVV C (R := RX5) (T := TX5) (N := 4) [.int ((rI s1 37 3) - 1), .int 2, .int (rI s1 39 3)] (fun _ h => c_X5_set (kl x) N w (ok_37 hS) _ _ _ h) (g_cwV C hR ml_X7_156 im_X5_set sl_X5_set ini_X5 cd_X5_set hd_X5_set (by decide)) kd_37 (by decide) rfl (in_37 hS) rfl _ rfl (Nat.le_of_ble_eq_true rfl) dX7_isOneFollowed_113 hf (fun s2 hf => ?_)
        refine g_aload_n C dX7_isOneFollowed_116 rfl 0 rfl ?_
        refine g_iconst C (v := 0) dX7_isOneFollowed_117 rfl ?_
        refine g_putI C (R := RX7) (T := TX7) (N := 11) (k := 7) (ty := .int) tyX7 tyX7_ok nmX7 kd_36 (by decide) rfl (in_36 hS) hinX7 (by decide) fl_X7_45 rfl rfl rfl rfl rfl (Nat.le_of_ble_eq_true rfl) fs_7_7 dX7_isOneFollowed_118 ?_
        refine g_nameS hf (fun s3 hf => ?_)
        refine g_iconst C (v := 1) dX7_isOneFollowed_121 rfl ?_
        exact g_zret (v := true) C dX7_isOneFollowed_122 hf
      · refine g_iconst C (v := 0) dX7_isOneFollowed_84 rfl ?_
        exact g_zret (v := false) C dX7_isOneFollowed_85 hf
  have j12 : ∀ (v1 : Int32) (s : Mem), f_X7_isOneFollowed_j12 N v1 s = some (r, s') → G x (QB x w r s') 2 w 12 [(0, .ref (ad w 36)), (1, .int v1)] [] s := by
    intro v1 s hf
    unfold f_X7_isOneFollowed_j12 at hf
    refine g_aload_n C dX7_isOneFollowed_12 rfl 0 rfl ?_
    refine g_iload_n C dX7_isOneFollowed_13 rfl 1 rfl ?_
    refine g_callVV C (R := RX7) (T := TX7) (N := 11) [.int v1] (fun _ h => c_X7_settle (kl x) N w hS _ h) (g_cwV C hR ml_X7_167 im_X7_settle sl_X7_settle ini_X7 cd_X7_settle hd_X7_settle (by decide)) kd_36 (by decide) rfl (in_36 hS) rfl _ rfl (Nat.le_of_ble_eq_true rfl) dX7_isOneFollowed_14 hf (fun s1 hf => ?_)
    refine g_aload_n C dX7_isOneFollowed_17 rfl 0 rfl ?_
    refine g_get C (R := RX7) (T := TX7) (N := 11) (k := 2) (v := .ref (ad w 41)) kd_36 (by decide) rfl (in_36 hS) hinX7 (by decide) fl_X7_28 rfl rfl dX7_isOneFollowed_18 ?_
    refine g_iload_n C dX7_isOneFollowed_21 rfl 1 rfl ?_
    refine g_callVV C (R := RX3) (T := TX3) (N := 2) [.int v1] (fun _ h => c_X3_push (kl x) N w (ok_41 hS) _ h) (g_cwV C hR ml_X7_161 im_X3_push sl_X3_push ini_X3 cd_X3_push hd_X3_push (by decide)) kd_41 (by decide) rfl (in_41 hS) rfl _ rfl (Nat.le_of_ble_eq_true rfl) dX7_isOneFollowed_22 hf (fun s2 hf => ?_)
    refine g_aload_n C dX7_isOneFollowed_25 rfl 0 rfl ?_
    refine g_iconst C (v := 1) dX7_isOneFollowed_26 rfl ?_
    refine g_putI C (R := RX7) (T := TX7) (N := 11) (k := 7) (ty := .int) tyX7 tyX7_ok nmX7 kd_36 (by decide) rfl (in_36 hS) hinX7 (by decide) fl_X7_45 rfl rfl rfl rfl rfl (Nat.le_of_ble_eq_true rfl) fs_7_7 dX7_isOneFollowed_27 ?_
    refine g_nameS hf (fun s3 hf => ?_)
    refine g_iconst C (v := 1) dX7_isOneFollowed_30 rfl ?_
    exact g_zret (v := true) C dX7_isOneFollowed_31 hf
  refine g_lv (lv' := [(0, .ref (ad w 36)), (1, .int a1)]) rfl ?_
  unfold f_X7_isOneFollowed at hf
  refine g_iload_n C dX7_isOneFollowed_0 rfl 1 rfl ?_
  refine g_bipush C (v := 12) dX7_isOneFollowed_1 (by decide) ?_
  refine g_icmp_eq (tgt := 12) C dX7_isOneFollowed_3 (by decide) hf (fun hf => ?_) (fun hf => ?_)
  · exact j12 _ _ hf
  · refine g_iload_n C dX7_isOneFollowed_6 rfl 1 rfl ?_
    refine g_bipush C (v := 11) dX7_isOneFollowed_7 (by decide) ?_
    refine g_icmp_ne (tgt := 32) C dX7_isOneFollowed_9 (by decide) hf (fun hf => ?_) (fun hf => ?_)
    · refine g_iload_n C dX7_isOneFollowed_32 rfl 1 rfl ?_
      refine g_bipush C (v := 15) dX7_isOneFollowed_33 (by decide) ?_
      refine g_icmp_ne (tgt := 71) C dX7_isOneFollowed_35 (by decide) hf (fun hf => ?_) (fun hf => ?_)
      · exact j71 _ _ hf
      · refine g_aload_n C dX7_isOneFollowed_38 rfl 0 rfl ?_
        refine g_get C (R := RX7) (T := TX7) (N := 11) (k := 8) (v := .int (rI s 36 8)) kd_36 (by decide) rfl (in_36 hS) hinX7 (by decide) fl_X7_48 rfl rfl dX7_isOneFollowed_39 ?_
        refine g_if_le (tgt := 71) C dX7_isOneFollowed_42 (by decide) hf (fun hf => ?_) (fun hf => ?_)
        · exact j71 _ _ hf
        · refine g_aload_n C dX7_isOneFollowed_45 rfl 0 rfl ?_
          refine g_bipush C (v := 11) dX7_isOneFollowed_46 (by decide) ?_
          refine g_callVV C (R := RX7) (T := TX7) (N := 11) [.int 11] (fun _ h => c_X7_settle (kl x) N w hS _ h) (g_cwV C hR ml_X7_167 im_X7_settle sl_X7_settle ini_X7 cd_X7_settle hd_X7_settle (by decide)) kd_36 (by decide) rfl (in_36 hS) rfl _ rfl (Nat.le_of_ble_eq_true rfl) dX7_isOneFollowed_48 hf (fun s1 hf => ?_)
          refine g_aload_n C dX7_isOneFollowed_51 rfl 0 rfl ?_
          refine g_get C (R := RX7) (T := TX7) (N := 11) (k := 2) (v := .ref (ad w 41)) kd_36 (by decide) rfl (in_36 hS) hinX7 (by decide) fl_X7_28 rfl rfl dX7_isOneFollowed_52 ?_
          refine g_callVI C (R := RX3) (T := TX3) (N := 2) [] (fun _ _ h => c_X3_pop (kl x) N w (ok_41 hS) h) (g_cwV C hR ml_X7_170 im_X3_pop sl_X3_pop ini_X3 cd_X3_pop hd_X3_pop (by decide)) kd_41 (by decide) rfl (in_41 hS) rfl _ rfl (Nat.le_of_ble_eq_true rfl) dX7_isOneFollowed_55 hf (fun r2 s2 hf => ?_)
          refine g_pop C dX7_isOneFollowed_58 rfl ?_
          refine g_aload_n C dX7_isOneFollowed_59 rfl 0 rfl ?_
          refine g_dup C dX7_isOneFollowed_60 rfl ?_
          refine g_get C (R := RX7) (T := TX7) (N := 11) (k := 8) (v := .int (rI s2 36 8)) kd_36 (by decide) rfl (in_36 hS) hinX7 (by decide) fl_X7_48 rfl rfl dX7_isOneFollowed_61 ?_
          refine g_iconst C (v := 1) dX7_isOneFollowed_64 rfl ?_
          refine g_isub C dX7_isOneFollowed_65 ?_
          refine g_putI C (R := RX7) (T := TX7) (N := 11) (k := 8) (ty := .int) tyX7 tyX7_ok nmX7 kd_36 (by decide) rfl (in_36 hS) hinX7 (by decide) fl_X7_48 rfl rfl rfl rfl rfl (Nat.le_of_ble_eq_true rfl) fs_7_8 dX7_isOneFollowed_66 ?_
          refine g_nameS hf (fun s3 hf => ?_)
          refine g_iconst C (v := 1) dX7_isOneFollowed_69 rfl ?_
          exact g_zret (v := true) C dX7_isOneFollowed_70 hf
    · exact j12 _ _ hf

set_option maxHeartbeats 4000000 in
set_option maxRecDepth 100000 in
theorem c_X7_isAccepted (l : Launch) (N : Nat) (w : WX) (hS : SS w = Sc) (a1 : Int32) {s s' : Mem} {r : Bool} (hf : f_X7_isAccepted N a1 s = some (r, s')) : CB l yX7_isAccepted (wz yX7_isAccepted cX7_isAccepted 2 (some .boolean)) ({ frames := 4, cells := 0, slots := 0, locals := 92 } : Room) [.ref (ad w 36), .int a1] w s r s' := by
  refine met_startB (cc := cX7_isAccepted) (ret := (some .boolean)) (own := RX7) (maxL := 2) (by decide) rfl (Nat.le_of_ble_eq_true rfl) (fun x C hR hl => ?_)
  have j62 : ∀ (s : Mem), f_X7_isAccepted_j62 N s = some (r, s') → G x (QB x w r s') 2 w 62 [] [] s := by
    intro s hf
    unfold f_X7_isAccepted_j62 at hf
    refine g_iconst C (v := 1) dX7_isAccepted_62 rfl ?_
    refine g_goto (tgt := 67) C dX7_isAccepted_63 (by decide) ?_
    exact g_zret (v := true) C dX7_isAccepted_67 hf
  refine g_lv (lv' := [(0, .ref (ad w 36)), (1, .int a1)]) rfl ?_
  unfold f_X7_isAccepted at hf
  refine g_aload_n C dX7_isAccepted_0 rfl 0 rfl ?_
  refine g_get C (R := RX7) (T := TX7) (N := 11) (k := 7) (v := .int (rI s 36 7)) kd_36 (by decide) rfl (in_36 hS) hinX7 (by decide) fl_X7_45 rfl rfl dX7_isAccepted_1 ?_
  rcases ite_some hf with ⟨e0, hf⟩ | ⟨n0, hf⟩
  · refine g_tabIn (k := 0) (tgt := 40) C dX7_isAccepted_4 e0 (by decide) (by decide) rfl (by decide) ?_
    refine g_aload_n C dX7_isAccepted_40 rfl 0 rfl ?_
    refine g_iload_n C dX7_isAccepted_41 rfl 1 rfl ?_
    refine g_callVB C (R := RX7) (T := TX7) (N := 11) [.int a1] (fun _ _ h => c_X7_isClauseBegun (kl x) N w hS _ h) (g_cwV C hR ml_X7_131 im_X7_isClauseBegun sl_X7_isClauseBegun ini_X7 cd_X7_isClauseBegun hd_X7_isClauseBegun (by decide)) kd_36 (by decide) rfl (in_36 hS) rfl _ rfl (Nat.le_of_ble_eq_true rfl) dX7_isAccepted_42 hf (fun r1 s1 hf => ?_)
    exact g_zret C dX7_isAccepted_45 hf
  rcases ite_some hf with ⟨e1, hf⟩ | ⟨n1, hf⟩
  · refine g_tabIn (k := 1) (tgt := 46) C dX7_isAccepted_4 e1 (by decide) (by decide) rfl (by decide) ?_
    refine g_aload_n C dX7_isAccepted_46 rfl 0 rfl ?_
    refine g_iload_n C dX7_isAccepted_47 rfl 1 rfl ?_
    refine g_callVB C (R := RX7) (T := TX7) (N := 11) [.int a1] (fun _ _ h => c_X7_isOneOpened (kl x) N w hS _ h) (g_cwV C hR ml_X7_134 im_X7_isOneOpened sl_X7_isOneOpened ini_X7 cd_X7_isOneOpened hd_X7_isOneOpened (by decide)) kd_36 (by decide) rfl (in_36 hS) rfl _ rfl (Nat.le_of_ble_eq_true rfl) dX7_isAccepted_48 hf (fun r2 s2 hf => ?_)
    refine g_ifneB (tgt := 62) C dX7_isAccepted_51 (by decide) hf (fun hf => ?_) (fun hf => ?_)
    · refine g_sub [] rfl ?_
      exact j62 _ hf
    · refine g_aload_n C dX7_isAccepted_54 rfl 0 rfl ?_
      refine g_iload_n C dX7_isAccepted_55 rfl 1 rfl ?_
      refine g_callVB C (R := RX7) (T := TX7) (N := 11) [.int a1] (fun _ _ h => c_X7_isValueBegun (kl x) N w hS _ h) (g_cwV C hR ml_X7_137 im_X7_isValueBegun sl_X7_isValueBegun ini_X7 cd_X7_isValueBegun hd_X7_isValueBegun (by decide)) kd_36 (by decide) rfl (in_36 hS) rfl _ rfl (Nat.le_of_ble_eq_true rfl) dX7_isAccepted_56 hf (fun r3 s3 hf => ?_)
      refine g_ifeqB (tgt := 66) C dX7_isAccepted_59 (by decide) hf (fun hf => ?_) (fun hf => ?_)
      · refine g_iconst C (v := 0) dX7_isAccepted_66 rfl ?_
        exact g_zret (v := false) C dX7_isAccepted_67 hf
      · refine g_sub [] rfl ?_
        exact j62 _ hf
  rcases ite_some hf with ⟨e2, hf⟩ | ⟨n2, hf⟩
  · refine g_tabIn (k := 2) (tgt := 68) C dX7_isAccepted_4 e2 (by decide) (by decide) rfl (by decide) ?_
    refine g_iload_n C dX7_isAccepted_68 rfl 1 rfl ?_
    refine g_iconst C (v := 1) dX7_isAccepted_69 rfl ?_
    refine g_icmp_ne (tgt := 86) C dX7_isAccepted_70 (by decide) hf (fun hf => ?_) (fun hf => ?_)
    · refine g_iconst C (v := 0) dX7_isAccepted_86 rfl ?_
      exact g_zret (v := false) C dX7_isAccepted_87 hf
    · refine g_aload_n C dX7_isAccepted_73 rfl 0 rfl ?_
      refine g_bipush C (v := 8) dX7_isAccepted_74 (by decide) ?_
      refine g_callVB C (R := RX7) (T := TX7) (N := 11) [.int 8] (fun _ _ h => c_X7_isValueTold (kl x) N w hS _ h) (g_cwV C hR ml_X7_140 im_X7_isValueTold sl_X7_isValueTold ini_X7 cd_X7_isValueTold hd_X7_isValueTold (by decide)) kd_36 (by decide) rfl (in_36 hS) rfl _ rfl (Nat.le_of_ble_eq_true rfl) dX7_isAccepted_76 hf (fun r4 s4 hf => ?_)
      refine g_ifeqB (tgt := 86) C dX7_isAccepted_79 (by decide) hf (fun hf => ?_) (fun hf => ?_)
      · refine g_iconst C (v := 0) dX7_isAccepted_86 rfl ?_
        exact g_zret (v := false) C dX7_isAccepted_87 hf
      · refine g_iconst C (v := 1) dX7_isAccepted_82 rfl ?_
        refine g_goto (tgt := 87) C dX7_isAccepted_83 (by decide) ?_
        exact g_zret (v := true) C dX7_isAccepted_87 hf
  rcases ite_some hf with ⟨e3, hf⟩ | ⟨n3, hf⟩
  · refine g_tabIn (k := 3) (tgt := 88) C dX7_isAccepted_4 e3 (by decide) (by decide) rfl (by decide) ?_
    refine g_aload_n C dX7_isAccepted_88 rfl 0 rfl ?_
    refine g_iload_n C dX7_isAccepted_89 rfl 1 rfl ?_
    refine g_callVB C (R := RX7) (T := TX7) (N := 11) [.int a1] (fun _ _ h => c_X7_isSignTold (kl x) N w hS _ h) (g_cwV C hR ml_X7_143 im_X7_isSignTold sl_X7_isSignTold ini_X7 cd_X7_isSignTold hd_X7_isSignTold (by decide)) kd_36 (by decide) rfl (in_36 hS) rfl _ rfl (Nat.le_of_ble_eq_true rfl) dX7_isAccepted_90 hf (fun r5 s5 hf => ?_)
    exact g_zret C dX7_isAccepted_93 hf
  rcases ite_some hf with ⟨e4, hf⟩ | ⟨n4, hf⟩
  · refine g_tabIn (k := 4) (tgt := 94) C dX7_isAccepted_4 e4 (by decide) (by decide) rfl (by decide) ?_
    refine g_aload_n C dX7_isAccepted_94 rfl 0 rfl ?_
    refine g_iload_n C dX7_isAccepted_95 rfl 1 rfl ?_
    refine g_callVB C (R := RX7) (T := TX7) (N := 11) [.int a1] (fun _ _ h => c_X7_isValueBegun (kl x) N w hS _ h) (g_cwV C hR ml_X7_137 im_X7_isValueBegun sl_X7_isValueBegun ini_X7 cd_X7_isValueBegun hd_X7_isValueBegun (by decide)) kd_36 (by decide) rfl (in_36 hS) rfl _ rfl (Nat.le_of_ble_eq_true rfl) dX7_isAccepted_96 hf (fun r6 s6 hf => ?_)
    exact g_zret C dX7_isAccepted_99 hf
  refine g_tabOut (tgt := 100) C dX7_isAccepted_4 (by have z0 := lv_neT n0 (a := 0) (by decide); have z1 := lv_neT n1 (a := 1) (by decide); have z2 := lv_neT n2 (a := 2) (by decide); have z3 := lv_neT n3 (a := 3) (by decide); have z4 := lv_neT n4 (a := 4) (by decide); omega) (by decide) ?_
  refine g_aload_n C dX7_isAccepted_100 rfl 0 rfl ?_
  refine g_iload_n C dX7_isAccepted_101 rfl 1 rfl ?_
  refine g_callVB C (R := RX7) (T := TX7) (N := 11) [.int a1] (fun _ _ h => c_X7_isOneFollowed (kl x) N w hS _ h) (g_cwV C hR ml_X7_146 im_X7_isOneFollowed sl_X7_isOneFollowed ini_X7 cd_X7_isOneFollowed hd_X7_isOneFollowed (by decide)) kd_36 (by decide) rfl (in_36 hS) rfl _ rfl (Nat.le_of_ble_eq_true rfl) dX7_isAccepted_102 hf (fun r7 s7 hf => ?_)
  exact g_zret C dX7_isAccepted_105 hf

set_option maxHeartbeats 4000000 in
set_option maxRecDepth 100000 in
theorem c_X7_readTape (l : Launch) (N : Nat) (w : WX) (hS : SS w = Sc) {s s' : Mem} {r : Int32} (hf : f_X7_readTape N s = some (r, s')) : CI l yX7_readTape (wz yX7_readTape cX7_readTape 4 (some .int)) ({ frames := 7, cells := 0, slots := 0, locals := 148 } : Room) [.ref (ad w 36), .ref (ad w 43)] w s r s' := by
  refine met_startI (cc := cX7_readTape) (ret := (some .int)) (own := RX7) (maxL := 4) (by decide) rfl (Nat.le_of_ble_eq_true rfl) (fun x C hR hl => ?_)
  have j64 : ∀ (s : Mem), f_X7_readTape_j64 N s = some (r, s') → G x (QI x w r s') 4 w 64 [(0, .ref (ad w 36))] [] s := by
    intro s hf
    unfold f_X7_readTape_j64 at hf
    refine g_aload_n C dX7_readTape_64 rfl 0 rfl ?_
    refine g_get C (R := RX7) (T := TX7) (N := 11) (k := 7) (v := .int (rI s 36 7)) kd_36 (by decide) rfl (in_36 hS) hinX7 (by decide) fl_X7_45 rfl rfl dX7_readTape_65 ?_
    refine g_if_ne (tgt := 76) C dX7_readTape_68 (by decide) hf (fun hf => ?_) (fun hf => ?_)
    · refine g_aload_n C dX7_readTape_76 rfl 0 rfl ?_
      refine g_get C (R := RX7) (T := TX7) (N := 11) (k := 4) (v := .int (rI s 36 4)) kd_36 (by decide) rfl (in_36 hS) hinX7 (by decide) fl_X7_35 rfl rfl dX7_readTape_77 ?_
      exact g_iret C dX7_readTape_80 hf
    · refine g_bipush C (v := (-3)) dX7_readTape_71 (by decide) ?_
      refine g_goto (tgt := 80) C dX7_readTape_73 (by decide) ?_
      exact g_iret C dX7_readTape_80 hf
  have j48 : ∀ (k64 : Mem → Option (Int32 × Mem)), (∀ (s : Mem), k64 s = some (r, s') → G x (QI x w r s') 4 w 64 [(0, .ref (ad w 36))] [] s) → ∀ (n : Nat), ∀ (v2 : Int32) (s : Mem), f_X7_readTape_L48 N k64 n v2 s = some (r, s') → G x (QI x w r s') 4 w 48 [(0, .ref (ad w 36)), (2, .int v2)] [] s := by
    intro k64 q64 n
    induction n with
    | zero => intro v2 s hf; cases hf
    | succ n ih =>
      intro v2 s hf
      unfold f_X7_readTape_L48 at hf
      refine g_iload_n C dX7_readTape_48 rfl 1 rfl ?_
      refine g_sipush C (v := 200) dX7_readTape_49 (by decide) ?_
      refine g_icmp_gt (tgt := 100) C dX7_readTape_52 (by decide) hf (fun hf => ?_) (fun hf => ?_)
      · refine g_aload_n C dX7_readTape_100 rfl 0 rfl ?_
        refine g_get C (R := RX7) (T := TX7) (N := 11) (k := 4) (v := .int (rI s 36 4)) kd_36 (by decide) rfl (in_36 hS) hinX7 (by decide) fl_X7_35 rfl rfl dX7_readTape_101 ?_
        exact g_iret C dX7_readTape_104 hf
      · refine g_aload_n C dX7_readTape_55 rfl 0 rfl ?_
        refine g_callVI C (R := RX7) (T := TX7) (N := 11) [] (fun _ _ h => c_X7_nextToken (kl x) N w hS h) (g_cwV C hR ml_X7_61 im_X7_nextToken sl_X7_nextToken ini_X7 cd_X7_nextToken hd_X7_nextToken (by decide)) kd_36 (by decide) rfl (in_36 hS) rfl _ rfl (Nat.le_of_ble_eq_true rfl) dX7_readTape_56 hf (fun r1 s1 hf => ?_)
        refine g_istore_n (lv' := [(3, .int r1), (0, .ref (ad w 36)), (2, .int v2)]) C dX7_readTape_59 rfl (by decide) rfl ?_
        refine g_iload_n C dX7_readTape_60 rfl 0 rfl ?_
        refine g_if_ne (tgt := 81) C dX7_readTape_61 (by decide) hf (fun hf => ?_) (fun hf => ?_)
        · refine g_aload_n C dX7_readTape_81 rfl 1 rfl ?_
          refine g_iload_n C dX7_readTape_82 rfl 0 rfl ?_
          refine g_callVB C (R := RX7) (T := TX7) (N := 11) [.int r1] (fun _ _ h => c_X7_isAccepted (kl x) N w hS _ h) (g_cwV C hR ml_X7_65 im_X7_isAccepted sl_X7_isAccepted ini_X7 cd_X7_isAccepted hd_X7_isAccepted (by decide)) kd_36 (by decide) rfl (in_36 hS) rfl _ rfl (Nat.le_of_ble_eq_true rfl) dX7_readTape_83 hf (fun r2 s2 hf => ?_)
          refine g_ifneB (tgt := 94) C dX7_readTape_86 (by decide) hf (fun hf => ?_) (fun hf => ?_)
          · refine g_iinc (v' := v2 + 1) (lv' := [(2, .int (v2 + 1)), (3, .int r1), (0, .ref (ad w 36))]) C dX7_readTape_94 2 rfl rfl (by decide) rfl ?_
            refine g_goto (tgt := 48) C dX7_readTape_97 (by decide) ?_
            refine g_sub [2, 0] rfl ?_
            exact ih _ _ hf
          · refine g_aload_n C dX7_readTape_89 rfl 1 rfl ?_
            refine g_get C (R := RX7) (T := TX7) (N := 11) (k := 4) (v := .int (rI s2 36 4)) kd_36 (by decide) rfl (in_36 hS) hinX7 (by decide) fl_X7_35 rfl rfl dX7_readTape_90 ?_
            exact g_iret C dX7_readTape_93 hf
        · refine g_sub [1] rfl ?_
          exact q64 _ hf
  refine g_lv (lv' := [(0, .ref (ad w 36)), (1, .ref (ad w 43))]) rfl ?_
  unfold f_X7_readTape at hf
  refine g_aload_n C dX7_readTape_0 rfl 0 rfl ?_
  refine g_aload_n C dX7_readTape_1 rfl 1 rfl ?_
  refine g_putT C (in_36 hS) hinX7 fl_X7_32 dX7_readTape_2 ?_
  refine g_nameS hf (fun s1 hf => ?_)
  refine g_aload_n C dX7_readTape_5 rfl 0 rfl ?_
  refine g_get C (R := RX7) (T := TX7) (N := 11) (k := 0) (v := .ref (ad w 37)) kd_36 (by decide) rfl (in_36 hS) hinX7 (by decide) fl_X7_14 rfl rfl dX7_readTape_6 ?_
  refine g_callVV C (R := RX5) (T := TX5) (N := 4) [] (fun _ h => c_X5_clear (kl x) N w (ok_37 hS) h) (g_cwV C hR ml_X7_57 im_X5_clear sl_X5_clear ini_X5 cd_X5_clear hd_X5_clear (by decide)) kd_37 (by decide) rfl (in_37 hS) rfl _ rfl (Nat.le_of_ble_eq_true rfl) dX7_readTape_9 hf (fun s2 hf => ?_)
  refine g_aload_n C dX7_readTape_12 rfl 0 rfl ?_
  refine g_get C (R := RX7) (T := TX7) (N := 11) (k := 1) (v := .ref (ad w 39)) kd_36 (by decide) rfl (in_36 hS) hinX7 (by decide) fl_X7_20 rfl rfl dX7_readTape_13 ?_
  refine g_callVV C (R := RX5) (T := TX5) (N := 4) [] (fun _ h => c_X5_clear (kl x) N w (ok_39 hS) h) (g_cwV C hR ml_X7_57 im_X5_clear sl_X5_clear ini_X5 cd_X5_clear hd_X5_clear (by decide)) kd_39 (by decide) rfl (in_39 hS) rfl _ rfl (Nat.le_of_ble_eq_true rfl) dX7_readTape_16 hf (fun s3 hf => ?_)
  refine g_aload_n C dX7_readTape_19 rfl 0 rfl ?_
  refine g_get C (R := RX7) (T := TX7) (N := 11) (k := 2) (v := .ref (ad w 41)) kd_36 (by decide) rfl (in_36 hS) hinX7 (by decide) fl_X7_28 rfl rfl dX7_readTape_20 ?_
  refine g_callVV C (R := RX3) (T := TX3) (N := 2) [] (fun _ h => c_X3_clear (kl x) N w (ok_41 hS) h) (g_cwV C hR ml_X7_60 im_X3_clear sl_X3_clear ini_X3 cd_X3_clear hd_X3_clear (by decide)) kd_41 (by decide) rfl (in_41 hS) rfl _ rfl (Nat.le_of_ble_eq_true rfl) dX7_readTape_23 hf (fun s4 hf => ?_)
  refine g_aload_n C dX7_readTape_26 rfl 0 rfl ?_
  refine g_iconst C (v := 0) dX7_readTape_27 rfl ?_
  refine g_putI C (R := RX7) (T := TX7) (N := 11) (k := 5) (ty := .int) tyX7 tyX7_ok nmX7 kd_36 (by decide) rfl (in_36 hS) hinX7 (by decide) fl_X7_39 rfl rfl rfl rfl rfl (Nat.le_of_ble_eq_true rfl) fs_7_5 dX7_readTape_28 ?_
  refine g_nameS hf (fun s5 hf => ?_)
  refine g_aload_n C dX7_readTape_31 rfl 0 rfl ?_
  refine g_iconst C (v := 0) dX7_readTape_32 rfl ?_
  refine g_putI C (R := RX7) (T := TX7) (N := 11) (k := 8) (ty := .int) tyX7 tyX7_ok nmX7 kd_36 (by decide) rfl (in_36 hS) hinX7 (by decide) fl_X7_48 rfl rfl rfl rfl rfl (Nat.le_of_ble_eq_true rfl) fs_7_8 dX7_readTape_33 ?_
  refine g_nameS hf (fun s6 hf => ?_)
  refine g_aload_n C dX7_readTape_36 rfl 0 rfl ?_
  refine g_iconst C (v := 0) dX7_readTape_37 rfl ?_
  refine g_putI C (R := RX7) (T := TX7) (N := 11) (k := 10) (ty := .int) tyX7 tyX7_ok nmX7 kd_36 (by decide) rfl (in_36 hS) hinX7 (by decide) fl_X7_54 rfl rfl rfl rfl rfl (Nat.le_of_ble_eq_true rfl) fs_7_10 dX7_readTape_38 ?_
  refine g_nameS hf (fun s7 hf => ?_)
  refine g_aload_n C dX7_readTape_41 rfl 0 rfl ?_
  refine g_iconst C (v := 0) dX7_readTape_42 rfl ?_
  refine g_putI C (R := RX7) (T := TX7) (N := 11) (k := 7) (ty := .int) tyX7 tyX7_ok nmX7 kd_36 (by decide) rfl (in_36 hS) hinX7 (by decide) fl_X7_45 rfl rfl rfl rfl rfl (Nat.le_of_ble_eq_true rfl) fs_7_7 dX7_readTape_43 ?_
  refine g_nameS hf (fun s8 hf => ?_)
  refine g_iconst C (v := 0) dX7_readTape_46 rfl ?_
  refine g_istore_n (lv' := [(2, .int 0), (0, .ref (ad w 36)), (1, .ref (ad w 43))]) C dX7_readTape_47 rfl (by decide) rfl ?_
  refine g_sub [1, 0] rfl ?_
  exact j48 (f_X7_readTape_j64 N) j64 N _ _ hf
