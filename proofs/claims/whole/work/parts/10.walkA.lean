set_option maxHeartbeats 4000000 in
set_option maxRecDepth 100000 in
theorem c_X5_add (l : Launch) (N : Nat) (w : WX) {t : Nat} (h_t : okO 5 w t) {s s' : Mem} {r : Int32} (hf : f_X5_add N t s = some (r, s')) : CI l yX5_add (wz yX5_add cX5_add 3 (some .int)) ({ frames := 0, cells := 0, slots := 0, locals := 0 } : Room) [.ref (ad w t)] w s r s' := by
  refine met_startI (cc := cX5_add) (ret := (some .int)) (own := RX5) (maxL := 3) (by decide) rfl (Nat.le_of_ble_eq_true rfl) (fun x C hR hl => ?_)
  have j43 : ∀ (n : Nat), ∀ (v1 : Int32) (v2 : Int32) (s : Mem), f_X5_add_L43 N t n v1 v2 s = some (r, s') → G x (QI x w r s') 3 w 43 [(0, .ref (ad w t)), (1, .int v1), (2, .int v2)] [] s := by
    intro n
    induction n with
    | zero => intro v1 v2 s hf; cases hf
    | succ n ih =>
      intro v1 v2 s hf
      unfold f_X5_add_L43 at hf
      refine g_iload_n C dX5_add_43 rfl 2 rfl ?_
      refine g_aload_n C dX5_add_44 rfl 0 rfl ?_
      refine g_get C (R := RX5) (T := TX5) (N := 4) (k := 3) (v := .int (rI s t 3)) h_t.2.2.1 (by decide) rfl h_t.1 hinX5 (by decide) fl_X5_9 rfl rfl dX5_add_45 ?_
      refine g_aload_n C dX5_add_48 rfl 0 rfl ?_
      refine g_get C (R := RX5) (T := TX5) (N := 4) (k := 0) (v := .int (rI s t 0)) h_t.2.2.1 (by decide) rfl h_t.1 hinX5 (by decide) fl_X5_21 rfl rfl dX5_add_49 ?_
      refine g_imul C dX5_add_52 ?_
      refine g_icmp_ge (tgt := 78) C dX5_add_53 (by decide) hf (fun hf => ?_) (fun hf => ?_)
      · refine g_iload_n C dX5_add_78 rfl 1 rfl ?_
        exact g_iret C dX5_add_79 hf
      · refine g_iload_n C dX5_add_56 rfl 2 rfl ?_
        refine g_aload_n C dX5_add_57 rfl 0 rfl ?_
        refine g_get C (R := RX5) (T := TX5) (N := 4) (k := 2) (v := .ref (ad w (t + 1))) h_t.2.2.1 (by decide) rfl h_t.1 hinX5 (by decide) fl_X5_27 rfl rfl dX5_add_58 ?_
        refine g_alenI C (v := (nI (ln (t + 1)))) h_t.2.2.2 rfl h_t.2.1 rfl dX5_add_61 ?_
        refine g_icmp_ge (tgt := 78) C dX5_add_62 (by decide) hf (fun hf => ?_) (fun hf => ?_)
        · refine g_iload_n C dX5_add_78 rfl 1 rfl ?_
          exact g_iret C dX5_add_79 hf
        · refine g_aload_n C dX5_add_65 rfl 0 rfl ?_
          refine g_get C (R := RX5) (T := TX5) (N := 4) (k := 2) (v := .ref (ad w (t + 1))) h_t.2.2.1 (by decide) rfl h_t.1 hinX5 (by decide) fl_X5_27 rfl rfl dX5_add_66 ?_
          refine g_iload_n C dX5_add_69 rfl 2 rfl ?_
          refine g_iconst C (v := 0) dX5_add_70 rfl ?_
          refine g_iast C h_t.2.2.2 rfl h_t.2.1 dX5_add_71 hf (fun hf => ?_)
          refine g_nameS hf (fun s1 hf => ?_)
          refine g_iinc (v' := v2 + 1) (lv' := [(2, .int (v2 + 1)), (0, .ref (ad w t)), (1, .int v1)]) C dX5_add_72 2 rfl rfl (by decide) rfl ?_
          refine g_goto (tgt := 43) C dX5_add_75 (by decide) ?_
          refine g_sub [1, 2, 0] rfl ?_
          exact ih _ _ _ hf
  refine g_lv (lv' := [(0, .ref (ad w t))]) rfl ?_
  unfold f_X5_add at hf
  refine g_aload_n C dX5_add_0 rfl 0 rfl ?_
  refine g_get C (R := RX5) (T := TX5) (N := 4) (k := 3) (v := .int (rI s t 3)) h_t.2.2.1 (by decide) rfl h_t.1 hinX5 (by decide) fl_X5_9 rfl rfl dX5_add_1 ?_
  refine g_if_lt (tgt := 18) C dX5_add_4 (by decide) hf (fun hf => ?_) (fun hf => ?_)
  · refine g_bipush C (v := (-3)) dX5_add_18 (by decide) ?_
    exact g_iret C dX5_add_20 hf
  · refine g_aload_n C dX5_add_7 rfl 0 rfl ?_
    refine g_get C (R := RX5) (T := TX5) (N := 4) (k := 3) (v := .int (rI s t 3)) h_t.2.2.1 (by decide) rfl h_t.1 hinX5 (by decide) fl_X5_9 rfl rfl dX5_add_8 ?_
    refine g_aload_n C dX5_add_11 rfl 0 rfl ?_
    refine g_get C (R := RX5) (T := TX5) (N := 4) (k := 1) (v := .int (rI s t 1)) h_t.2.2.1 (by decide) rfl h_t.1 hinX5 (by decide) fl_X5_24 rfl rfl dX5_add_12 ?_
    refine g_icmp_lt (tgt := 21) C dX5_add_15 (by decide) hf (fun hf => ?_) (fun hf => ?_)
    · refine g_aload_n C dX5_add_21 rfl 0 rfl ?_
      refine g_get C (R := RX5) (T := TX5) (N := 4) (k := 3) (v := .int (rI s t 3)) h_t.2.2.1 (by decide) rfl h_t.1 hinX5 (by decide) fl_X5_9 rfl rfl dX5_add_22 ?_
      refine g_istore_n (lv' := [(1, .int (rI s t 3)), (0, .ref (ad w t))]) C dX5_add_25 rfl (by decide) rfl ?_
      refine g_aload_n C dX5_add_26 rfl 1 rfl ?_
      refine g_dup C dX5_add_27 rfl ?_
      refine g_get C (R := RX5) (T := TX5) (N := 4) (k := 3) (v := .int (rI s t 3)) h_t.2.2.1 (by decide) rfl h_t.1 hinX5 (by decide) fl_X5_9 rfl rfl dX5_add_28 ?_
      refine g_iconst C (v := 1) dX5_add_31 rfl ?_
      refine g_iadd C dX5_add_32 ?_
      refine g_putI C (R := RX5) (T := TX5) (N := 4) (k := 3) (ty := .int) tyX5 tyX5_ok nmX5 h_t.2.2.1 (by decide) rfl h_t.1 hinX5 (by decide) fl_X5_9 rfl rfl rfl rfl rfl (Nat.le_of_ble_eq_true rfl) fs_5_3 dX5_add_33 ?_
      refine g_nameS hf (fun s1 hf => ?_)
      refine g_iload_n C dX5_add_36 rfl 0 rfl ?_
      refine g_aload_n C dX5_add_37 rfl 1 rfl ?_
      refine g_get C (R := RX5) (T := TX5) (N := 4) (k := 0) (v := .int (rI s1 t 0)) h_t.2.2.1 (by decide) rfl h_t.1 hinX5 (by decide) fl_X5_21 rfl rfl dX5_add_38 ?_
      refine g_imul C dX5_add_41 ?_
      refine g_istore_n (lv' := [(2, .int ((rI s t 3) * (rI s1 t 0))), (1, .int (rI s t 3)), (0, .ref (ad w t))]) C dX5_add_42 rfl (by decide) rfl ?_
      refine g_sub [2, 1, 0] rfl ?_
      exact j43 N _ _ _ hf
    · refine g_bipush C (v := (-3)) dX5_add_18 (by decide) ?_
      exact g_iret C dX5_add_20 hf

set_option maxHeartbeats 4000000 in
set_option maxRecDepth 100000 in
theorem c_X5_set (l : Launch) (N : Nat) (w : WX) {t : Nat} (h_t : okO 5 w t) (a1 : Int32) (a2 : Int32) (a3 : Int32) {s s' : Mem} (hf : f_X5_set N t a1 a2 a3 s = some ((), s')) : CV l yX5_set (wz yX5_set cX5_set 5 none) ({ frames := 0, cells := 0, slots := 0, locals := 0 } : Room) [.ref (ad w t), .int a1, .int a2, .int a3] w s s' := by
  refine met_startV (cc := cX5_set) (ret := none) (own := RX5) (maxL := 5) (by decide) rfl (Nat.le_of_ble_eq_true rfl) (fun x C hR hl => ?_)
  refine g_lv (lv' := [(0, .ref (ad w t)), (1, .int a1), (2, .int a2), (3, .int a3)]) rfl ?_
  unfold f_X5_set at hf
  refine g_iload_n C dX5_set_0 rfl 1 rfl ?_
  refine g_if_lt (tgt := 24) C dX5_set_1 (by decide) hf (fun hf => ?_) (fun hf => ?_)
  · exact g_vret C dX5_set_24 hf
  · refine g_iload_n C dX5_set_4 rfl 1 rfl ?_
    refine g_aload_n C dX5_set_5 rfl 0 rfl ?_
    refine g_get C (R := RX5) (T := TX5) (N := 4) (k := 3) (v := .int (rI s t 3)) h_t.2.2.1 (by decide) rfl h_t.1 hinX5 (by decide) fl_X5_9 rfl rfl dX5_set_6 ?_
    refine g_icmp_ge (tgt := 24) C dX5_set_9 (by decide) hf (fun hf => ?_) (fun hf => ?_)
    · exact g_vret C dX5_set_24 hf
    · refine g_iload_n C dX5_set_12 rfl 2 rfl ?_
      refine g_if_lt (tgt := 24) C dX5_set_13 (by decide) hf (fun hf => ?_) (fun hf => ?_)
      · exact g_vret C dX5_set_24 hf
      · refine g_iload_n C dX5_set_16 rfl 2 rfl ?_
        refine g_aload_n C dX5_set_17 rfl 0 rfl ?_
        refine g_get C (R := RX5) (T := TX5) (N := 4) (k := 0) (v := .int (rI s t 0)) h_t.2.2.1 (by decide) rfl h_t.1 hinX5 (by decide) fl_X5_21 rfl rfl dX5_set_18 ?_
        refine g_icmp_lt (tgt := 25) C dX5_set_21 (by decide) hf (fun hf => ?_) (fun hf => ?_)
        · refine g_iload_n C dX5_set_25 rfl 1 rfl ?_
          refine g_aload_n C dX5_set_26 rfl 0 rfl ?_
          refine g_get C (R := RX5) (T := TX5) (N := 4) (k := 0) (v := .int (rI s t 0)) h_t.2.2.1 (by decide) rfl h_t.1 hinX5 (by decide) fl_X5_21 rfl rfl dX5_set_27 ?_
          refine g_imul C dX5_set_30 ?_
          refine g_iload_n C dX5_set_31 rfl 2 rfl ?_
          refine g_iadd C dX5_set_32 ?_
          refine g_istore (lv' := [(4, .int ((a1 * (rI s t 0)) + a2)), (0, .ref (ad w t)), (1, .int a1), (2, .int a2), (3, .int a3)]) C dX5_set_33 (by decide) rfl ?_
          refine g_iload C dX5_set_35 0 rfl ?_
          refine g_aload_n C dX5_set_37 rfl 1 rfl ?_
          refine g_get C (R := RX5) (T := TX5) (N := 4) (k := 2) (v := .ref (ad w (t + 1))) h_t.2.2.1 (by decide) rfl h_t.1 hinX5 (by decide) fl_X5_27 rfl rfl dX5_set_38 ?_
          refine g_alenI C (v := (nI (ln (t + 1)))) h_t.2.2.2 rfl h_t.2.1 rfl dX5_set_41 ?_
          refine g_icmp_ge (tgt := 53) C dX5_set_42 (by decide) hf (fun hf => ?_) (fun hf => ?_)
          · exact g_vret C dX5_set_53 hf
          · refine g_aload_n C dX5_set_45 rfl 1 rfl ?_
            refine g_get C (R := RX5) (T := TX5) (N := 4) (k := 2) (v := .ref (ad w (t + 1))) h_t.2.2.1 (by decide) rfl h_t.1 hinX5 (by decide) fl_X5_27 rfl rfl dX5_set_46 ?_
            refine g_iload C dX5_set_49 0 rfl ?_
            refine g_iload_n C dX5_set_51 rfl 4 rfl ?_
            refine g_iast C h_t.2.2.2 rfl h_t.2.1 dX5_set_52 hf (fun hf => ?_)
            refine g_nameS hf (fun s1 hf => ?_)
            exact g_vret C dX5_set_53 hf
        · exact g_vret C dX5_set_24 hf

set_option maxHeartbeats 4000000 in
set_option maxRecDepth 100000 in
theorem c_X5_become (l : Launch) (N : Nat) (w : WX) {t : Nat} (h_t : okO 5 w t) {u : Nat} (h_u : okO 5 w u) {s s' : Mem} (hf : f_X5_become N t u s = some ((), s')) : CV l yX5_become (wz yX5_become cX5_become 2 none) ({ frames := 1, cells := 0, slots := 0, locals := 40 } : Room) [.ref (ad w t), .ref (ad w u)] w s s' := by
  refine met_startV (cc := cX5_become) (ret := none) (own := RX5) (maxL := 2) (by decide) rfl (Nat.le_of_ble_eq_true rfl) (fun x C hR hl => ?_)
  refine g_lv (lv' := [(0, .ref (ad w t)), (1, .ref (ad w u))]) rfl ?_
  unfold f_X5_become at hf
  refine g_aload_n C dX5_become_0 rfl 1 rfl ?_
  refine g_get C (R := RX5) (T := TX5) (N := 4) (k := 2) (v := .ref (ad w (u + 1))) h_u.2.2.1 (by decide) rfl h_u.1 hinX5 (by decide) fl_X5_27 rfl rfl dX5_become_1 ?_
  refine g_iconst C (v := 0) dX5_become_4 rfl ?_
  refine g_aload_n C dX5_become_5 rfl 0 rfl ?_
  refine g_get C (R := RX5) (T := TX5) (N := 4) (k := 2) (v := .ref (ad w (t + 1))) h_t.2.2.1 (by decide) rfl h_t.1 hinX5 (by decide) fl_X5_27 rfl rfl dX5_become_6 ?_
  refine g_iconst C (v := 0) dX5_become_9 rfl ?_
  refine g_aload_n C dX5_become_10 rfl 0 rfl ?_
  refine g_get C (R := RX5) (T := TX5) (N := 4) (k := 2) (v := .ref (ad w (t + 1))) h_t.2.2.1 (by decide) rfl h_t.1 hinX5 (by decide) fl_X5_27 rfl rfl dX5_become_11 ?_
  refine g_alenI C (v := (nI (ln (t + 1)))) h_t.2.2.2 rfl h_t.2.1 rfl dX5_become_14 ?_
  refine g_aload_n C dX5_become_15 rfl 1 rfl ?_
  refine g_get C (R := RX5) (T := TX5) (N := 4) (k := 2) (v := .ref (ad w (u + 1))) h_u.2.2.1 (by decide) rfl h_u.1 hinX5 (by decide) fl_X5_27 rfl rfl dX5_become_16 ?_
  refine g_alenI C (v := (nI (ln (u + 1)))) h_u.2.2.2 rfl h_u.2.1 rfl dX5_become_19 ?_
  refine g_imin C (kR_of hR (by decide)) ml_X5_31 sm_J9_min_7cf53 ini_J9 cd_J9_min_7cf53 (Nat.le_of_ble_eq_true rfl) dX5_become_20 ?_
  refine g_copy C (kR_of hR (by decide)) h_u.2.2.2 rfl h_u.2.1 h_t.2.2.2 rfl h_t.2.1 ml_X5_34 (Nat.le_of_ble_eq_true rfl) dX5_become_23 hf (fun hf => ?_)
  refine g_nameS hf (fun s1 hf => ?_)
  refine g_aload_n C dX5_become_26 rfl 0 rfl ?_
  refine g_aload_n C dX5_become_27 rfl 1 rfl ?_
  refine g_get C (R := RX5) (T := TX5) (N := 4) (k := 3) (v := .int (rI s1 u 3)) h_u.2.2.1 (by decide) rfl h_u.1 hinX5 (by decide) fl_X5_9 rfl rfl dX5_become_28 ?_
  refine g_aload_n C dX5_become_31 rfl 0 rfl ?_
  refine g_get C (R := RX5) (T := TX5) (N := 4) (k := 1) (v := .int (rI s1 t 1)) h_t.2.2.1 (by decide) rfl h_t.1 hinX5 (by decide) fl_X5_24 rfl rfl dX5_become_32 ?_
  refine g_imin C (kR_of hR (by decide)) ml_X5_31 sm_J9_min_7cf53 ini_J9 cd_J9_min_7cf53 (Nat.le_of_ble_eq_true rfl) dX5_become_35 ?_
  refine g_putI C (R := RX5) (T := TX5) (N := 4) (k := 3) (ty := .int) tyX5 tyX5_ok nmX5 h_t.2.2.1 (by decide) rfl h_t.1 hinX5 (by decide) fl_X5_9 rfl rfl rfl rfl rfl (Nat.le_of_ble_eq_true rfl) fs_5_3 dX5_become_38 ?_
  refine g_nameS hf (fun s2 hf => ?_)
  exact g_vret C dX5_become_41 hf

set_option maxHeartbeats 4000000 in
set_option maxRecDepth 100000 in
theorem c_X5_get (l : Launch) (N : Nat) (w : WX) {t : Nat} (h_t : okO 5 w t) (a1 : Int32) (a2 : Int32) {s s' : Mem} {r : Int32} (hf : f_X5_get N t a1 a2 s = some (r, s')) : CI l yX5_get (wz yX5_get cX5_get 4 (some .int)) ({ frames := 0, cells := 0, slots := 0, locals := 0 } : Room) [.ref (ad w t), .int a1, .int a2] w s r s' := by
  refine met_startI (cc := cX5_get) (ret := (some .int)) (own := RX5) (maxL := 4) (by decide) rfl (Nat.le_of_ble_eq_true rfl) (fun x C hR hl => ?_)
  refine g_lv (lv' := [(0, .ref (ad w t)), (1, .int a1), (2, .int a2)]) rfl ?_
  unfold f_X5_get at hf
  refine g_iload_n C dX5_get_0 rfl 1 rfl ?_
  refine g_if_lt (tgt := 24) C dX5_get_1 (by decide) hf (fun hf => ?_) (fun hf => ?_)
  · refine g_iconst C (v := 0) dX5_get_24 rfl ?_
    exact g_iret C dX5_get_25 hf
  · refine g_iload_n C dX5_get_4 rfl 1 rfl ?_
    refine g_aload_n C dX5_get_5 rfl 0 rfl ?_
    refine g_get C (R := RX5) (T := TX5) (N := 4) (k := 3) (v := .int (rI s t 3)) h_t.2.2.1 (by decide) rfl h_t.1 hinX5 (by decide) fl_X5_9 rfl rfl dX5_get_6 ?_
    refine g_icmp_ge (tgt := 24) C dX5_get_9 (by decide) hf (fun hf => ?_) (fun hf => ?_)
    · refine g_iconst C (v := 0) dX5_get_24 rfl ?_
      exact g_iret C dX5_get_25 hf
    · refine g_iload_n C dX5_get_12 rfl 2 rfl ?_
      refine g_if_lt (tgt := 24) C dX5_get_13 (by decide) hf (fun hf => ?_) (fun hf => ?_)
      · refine g_iconst C (v := 0) dX5_get_24 rfl ?_
        exact g_iret C dX5_get_25 hf
      · refine g_iload_n C dX5_get_16 rfl 2 rfl ?_
        refine g_aload_n C dX5_get_17 rfl 0 rfl ?_
        refine g_get C (R := RX5) (T := TX5) (N := 4) (k := 0) (v := .int (rI s t 0)) h_t.2.2.1 (by decide) rfl h_t.1 hinX5 (by decide) fl_X5_21 rfl rfl dX5_get_18 ?_
        refine g_icmp_lt (tgt := 26) C dX5_get_21 (by decide) hf (fun hf => ?_) (fun hf => ?_)
        · refine g_iload_n C dX5_get_26 rfl 1 rfl ?_
          refine g_aload_n C dX5_get_27 rfl 0 rfl ?_
          refine g_get C (R := RX5) (T := TX5) (N := 4) (k := 0) (v := .int (rI s t 0)) h_t.2.2.1 (by decide) rfl h_t.1 hinX5 (by decide) fl_X5_21 rfl rfl dX5_get_28 ?_
          refine g_imul C dX5_get_31 ?_
          refine g_iload_n C dX5_get_32 rfl 2 rfl ?_
          refine g_iadd C dX5_get_33 ?_
          refine g_istore_n (lv' := [(3, .int ((a1 * (rI s t 0)) + a2)), (0, .ref (ad w t)), (1, .int a1), (2, .int a2)]) C dX5_get_34 rfl (by decide) rfl ?_
          refine g_iload_n C dX5_get_35 rfl 0 rfl ?_
          refine g_aload_n C dX5_get_36 rfl 1 rfl ?_
          refine g_get C (R := RX5) (T := TX5) (N := 4) (k := 2) (v := .ref (ad w (t + 1))) h_t.2.2.1 (by decide) rfl h_t.1 hinX5 (by decide) fl_X5_27 rfl rfl dX5_get_37 ?_
          refine g_alenI C (v := (nI (ln (t + 1)))) h_t.2.2.2 rfl h_t.2.1 rfl dX5_get_40 ?_
          refine g_icmp_ge (tgt := 53) C dX5_get_41 (by decide) hf (fun hf => ?_) (fun hf => ?_)
          · refine g_iconst C (v := 0) dX5_get_53 rfl ?_
            exact g_iret C dX5_get_54 hf
          · refine g_aload_n C dX5_get_44 rfl 1 rfl ?_
            refine g_get C (R := RX5) (T := TX5) (N := 4) (k := 2) (v := .ref (ad w (t + 1))) h_t.2.2.1 (by decide) rfl h_t.1 hinX5 (by decide) fl_X5_27 rfl rfl dX5_get_45 ?_
            refine g_iload_n C dX5_get_48 rfl 0 rfl ?_
            refine g_iald C h_t.2.2.2 rfl h_t.2.1 dX5_get_49 hf (fun hf => ?_)
            refine g_goto (tgt := 54) C dX5_get_50 (by decide) ?_
            exact g_iret C dX5_get_54 hf
        · refine g_iconst C (v := 0) dX5_get_24 rfl ?_
          exact g_iret C dX5_get_25 hf

set_option maxHeartbeats 4000000 in
set_option maxRecDepth 100000 in
theorem c_X0_isTruthTold (l : Launch) (N : Nat) (w : WX) (hS : SS w = Sc) (a1 : Int32) {s s' : Mem} {r : Bool} (hf : f_X0_isTruthTold N a1 s = some (r, s')) : CB l yX0_isTruthTold (wz yX0_isTruthTold cX0_isTruthTold 2 (some .boolean)) ({ frames := 1, cells := 0, slots := 0, locals := 23 } : Room) [.ref (ad w 1), .int a1] w s r s' := by
  refine met_startB (cc := cX0_isTruthTold) (ret := (some .boolean)) (own := RX0) (maxL := 2) (by decide) rfl (Nat.le_of_ble_eq_true rfl) (fun x C hR hl => ?_)
  refine g_lv (lv' := [(0, .ref (ad w 1)), (1, .int a1)]) rfl ?_
  unfold f_X0_isTruthTold at hf
  refine g_aload_n C dX0_isTruthTold_0 rfl 0 rfl ?_
  refine g_get C (R := RX0) (T := TX0) (N := 8) (k := 0) (v := .ref (ad w 2)) kd_1 (by decide) rfl (in_1 hS) hinX0 (by decide) fl_X0_14 rfl rfl dX0_isTruthTold_1 ?_
  refine g_iload_n C dX0_isTruthTold_4 rfl 1 rfl ?_
  refine g_iconst C (v := 3) dX0_isTruthTold_5 rfl ?_
  refine g_callVI C (R := RX5) (T := TX5) (N := 4) [.int a1, .int 3] (fun _ _ h => c_X5_get (kl x) N w (ok_2 hS) _ _ h) (g_cwV C hR ml_X0_54 im_X5_get sl_X5_get ini_X5 cd_X5_get hd_X5_get (by decide)) kd_2 (by decide) rfl (in_2 hS) rfl _ rfl (Nat.le_of_ble_eq_true rfl) dX0_isTruthTold_6 hf (fun r1 s1 hf => ?_)
  refine g_if_lt (tgt := 16) C dX0_isTruthTold_9 (by decide) hf (fun hf => ?_) (fun hf => ?_)
  · refine g_iconst C (v := 0) dX0_isTruthTold_16 rfl ?_
    exact g_zret (v := false) C dX0_isTruthTold_17 hf
  · refine g_iconst C (v := 1) dX0_isTruthTold_12 rfl ?_
    refine g_goto (tgt := 17) C dX0_isTruthTold_13 (by decide) ?_
    exact g_zret (v := true) C dX0_isTruthTold_17 hf

set_option maxHeartbeats 4000000 in
set_option maxRecDepth 100000 in
theorem c_X5_has (l : Launch) (N : Nat) (w : WX) {t : Nat} (h_t : okO 5 w t) (a1 : Int32) {s s' : Mem} {r : Bool} (hf : f_X5_has N t a1 s = some (r, s')) : CB l yX5_has (wz yX5_has cX5_has 2 (some .boolean)) ({ frames := 0, cells := 0, slots := 0, locals := 0 } : Room) [.ref (ad w t), .int a1] w s r s' := by
  refine met_startB (cc := cX5_has) (ret := (some .boolean)) (own := RX5) (maxL := 2) (by decide) rfl (Nat.le_of_ble_eq_true rfl) (fun x C hR hl => ?_)
  refine g_lv (lv' := [(0, .ref (ad w t)), (1, .int a1)]) rfl ?_
  unfold f_X5_has at hf
  refine g_iload_n C dX5_has_0 rfl 1 rfl ?_
  refine g_if_lt (tgt := 16) C dX5_has_1 (by decide) hf (fun hf => ?_) (fun hf => ?_)
  · refine g_iconst C (v := 0) dX5_has_16 rfl ?_
    exact g_zret (v := false) C dX5_has_17 hf
  · refine g_iload_n C dX5_has_4 rfl 1 rfl ?_
    refine g_aload_n C dX5_has_5 rfl 0 rfl ?_
    refine g_get C (R := RX5) (T := TX5) (N := 4) (k := 3) (v := .int (rI s t 3)) h_t.2.2.1 (by decide) rfl h_t.1 hinX5 (by decide) fl_X5_9 rfl rfl dX5_has_6 ?_
    refine g_icmp_ge (tgt := 16) C dX5_has_9 (by decide) hf (fun hf => ?_) (fun hf => ?_)
    · refine g_iconst C (v := 0) dX5_has_16 rfl ?_
      exact g_zret (v := false) C dX5_has_17 hf
    · refine g_iconst C (v := 1) dX5_has_12 rfl ?_
      refine g_goto (tgt := 17) C dX5_has_13 (by decide) ?_
      exact g_zret (v := true) C dX5_has_17 hf

set_option maxHeartbeats 4000000 in
set_option maxRecDepth 100000 in
theorem c_X0_isOf (l : Launch) (N : Nat) (w : WX) (hS : SS w = Sc) (a1 : Int32) (a2 : Int32) {s s' : Mem} {r : Bool} (hf : f_X0_isOf N a1 a2 s = some (r, s')) : CB l yX0_isOf (wz yX0_isOf cX0_isOf 3 (some .boolean)) ({ frames := 1, cells := 0, slots := 0, locals := 23 } : Room) [.ref (ad w 1), .int a1, .int a2] w s r s' := by
  refine met_startB (cc := cX0_isOf) (ret := (some .boolean)) (own := RX0) (maxL := 3) (by decide) rfl (Nat.le_of_ble_eq_true rfl) (fun x C hR hl => ?_)
  refine g_lv (lv' := [(0, .ref (ad w 1)), (1, .int a1), (2, .int a2)]) rfl ?_
  unfold f_X0_isOf at hf
  refine g_aload_n C dX0_isOf_0 rfl 0 rfl ?_
  refine g_get C (R := RX0) (T := TX0) (N := 8) (k := 1) (v := .ref (ad w 4)) kd_1 (by decide) rfl (in_1 hS) hinX0 (by decide) fl_X0_20 rfl rfl dX0_isOf_1 ?_
  refine g_iload_n C dX0_isOf_4 rfl 1 rfl ?_
  refine g_callVB C (R := RX5) (T := TX5) (N := 4) [.int a1] (fun _ _ h => c_X5_has (kl x) N w (ok_4 hS) _ h) (g_cwV C hR ml_X0_58 im_X5_has sl_X5_has ini_X5 cd_X5_has hd_X5_has (by decide)) kd_4 (by decide) rfl (in_4 hS) rfl _ rfl (Nat.le_of_ble_eq_true rfl) dX0_isOf_5 hf (fun r1 s1 hf => ?_)
  refine g_ifeqB (tgt := 28) C dX0_isOf_8 (by decide) hf (fun hf => ?_) (fun hf => ?_)
  · refine g_iconst C (v := 0) dX0_isOf_28 rfl ?_
    exact g_zret (v := false) C dX0_isOf_29 hf
  · refine g_aload_n C dX0_isOf_11 rfl 0 rfl ?_
    refine g_get C (R := RX0) (T := TX0) (N := 8) (k := 1) (v := .ref (ad w 4)) kd_1 (by decide) rfl (in_1 hS) hinX0 (by decide) fl_X0_20 rfl rfl dX0_isOf_12 ?_
    refine g_iload_n C dX0_isOf_15 rfl 1 rfl ?_
    refine g_iconst C (v := 0) dX0_isOf_16 rfl ?_
    refine g_callVI C (R := RX5) (T := TX5) (N := 4) [.int a1, .int 0] (fun _ _ h => c_X5_get (kl x) N w (ok_4 hS) _ _ h) (g_cwV C hR ml_X0_54 im_X5_get sl_X5_get ini_X5 cd_X5_get hd_X5_get (by decide)) kd_4 (by decide) rfl (in_4 hS) rfl _ rfl (Nat.le_of_ble_eq_true rfl) dX0_isOf_17 hf (fun r2 s2 hf => ?_)
    refine g_iload_n C dX0_isOf_20 rfl 2 rfl ?_
    refine g_icmp_ne (tgt := 28) C dX0_isOf_21 (by decide) hf (fun hf => ?_) (fun hf => ?_)
    · refine g_iconst C (v := 0) dX0_isOf_28 rfl ?_
      exact g_zret (v := false) C dX0_isOf_29 hf
    · refine g_iconst C (v := 1) dX0_isOf_24 rfl ?_
      refine g_goto (tgt := 29) C dX0_isOf_25 (by decide) ?_
      exact g_zret (v := true) C dX0_isOf_29 hf

set_option maxHeartbeats 4000000 in
set_option maxRecDepth 100000 in
theorem c_X8_bit (l : Launch) (N : Nat) (w : WX) (a0 : Int32) {s s' : Mem} {r : Int32} (hf : f_X8_bit N a0 s = some (r, s')) : CI l yX8_bit (wz yX8_bit cX8_bit 1 (some .int)) ({ frames := 0, cells := 0, slots := 0, locals := 0 } : Room) [.int a0] w s r s' := by
  refine met_startI (cc := cX8_bit) (ret := (some .int)) (own := RX8) (maxL := 1) (by decide) rfl (Nat.le_of_ble_eq_true rfl) (fun x C hR hl => ?_)
  refine g_lv (lv' := [(0, .int a0)]) rfl ?_
  unfold f_X8_bit at hf
  refine g_iconst C (v := 1) dX8_bit_0 rfl ?_
  refine g_iload_n C dX8_bit_1 rfl 0 rfl ?_
  refine g_ishl C dX8_bit_2 ?_
  exact g_iret C dX8_bit_3 hf

set_option maxHeartbeats 4000000 in
set_option maxRecDepth 100000 in
theorem c_X0_paperBitsOf (l : Launch) (N : Nat) (w : WX) (hS : SS w = Sc) (a1 : Int32) {s s' : Mem} {r : Int32} (hf : f_X0_paperBitsOf N a1 s = some (r, s')) : CI l yX0_paperBitsOf (wz yX0_paperBitsOf cX0_paperBitsOf 4 (some .int)) ({ frames := 2, cells := 0, slots := 0, locals := 45 } : Room) [.ref (ad w 1), .int a1] w s r s' := by
  refine met_startI (cc := cX0_paperBitsOf) (ret := (some .int)) (own := RX0) (maxL := 4) (by decide) rfl (Nat.le_of_ble_eq_true rfl) (fun x C hR hl => ?_)
  have j31 : ∀ (k4 : Int32 → Int32 → Int32 → Mem → Option (Int32 × Mem)), (∀ (v1 : Int32) (v2 : Int32) (v3 : Int32) (s : Mem), k4 v1 v2 v3 s = some (r, s') → G x (QI x w r s') 4 w 4 [(0, .ref (ad w 1)), (1, .int v1), (2, .int v2), (3, .int v3)] [] s) → ∀ (v1 : Int32) (v2 : Int32) (v3 : Int32) (s : Mem), f_X0_paperBitsOf_j31 N k4 v1 v2 v3 s = some (r, s') → G x (QI x w r s') 4 w 31 [(0, .ref (ad w 1)), (1, .int v1), (2, .int v2), (3, .int v3)] [] s := by
    intro k4 q4 v1 v2 v3 s hf
    unfold f_X0_paperBitsOf_j31 at hf
    refine g_iinc (v' := v3 + 1) (lv' := [(3, .int (v3 + 1)), (0, .ref (ad w 1)), (1, .int v1), (2, .int v2)]) C dX0_paperBitsOf_31 3 rfl rfl (by decide) rfl ?_
    refine g_goto (tgt := 4) C dX0_paperBitsOf_34 (by decide) ?_
    refine g_sub [1, 2, 3, 0] rfl ?_
    exact q4 _ _ _ _ hf
  have j4 : ∀ (n : Nat), ∀ (v1 : Int32) (v2 : Int32) (v3 : Int32) (s : Mem), f_X0_paperBitsOf_L4 N n v1 v2 v3 s = some (r, s') → G x (QI x w r s') 4 w 4 [(0, .ref (ad w 1)), (1, .int v1), (2, .int v2), (3, .int v3)] [] s := by
    intro n
    induction n with
    | zero => intro v1 v2 v3 s hf; cases hf
    | succ n ih =>
      intro v1 v2 v3 s hf
      unfold f_X0_paperBitsOf_L4 at hf
      refine g_iload_n C dX0_paperBitsOf_4 rfl 3 rfl ?_
      refine g_aload_n C dX0_paperBitsOf_5 rfl 0 rfl ?_
      refine g_get C (R := RX0) (T := TX0) (N := 8) (k := 1) (v := .ref (ad w 4)) kd_1 (by decide) rfl (in_1 hS) hinX0 (by decide) fl_X0_20 rfl rfl dX0_paperBitsOf_6 ?_
      refine g_get C (R := RX5) (T := TX5) (N := 4) (k := 3) (v := .int (rI s 4 3)) kd_4 (by decide) rfl (in_4 hS) hinX5 (by decide) fl_X0_71 rfl rfl dX0_paperBitsOf_9 ?_
      refine g_icmp_ge (tgt := 37) C dX0_paperBitsOf_12 (by decide) hf (fun hf => ?_) (fun hf => ?_)
      · refine g_iload_n C dX0_paperBitsOf_37 rfl 2 rfl ?_
        exact g_iret C dX0_paperBitsOf_38 hf
      · refine g_aload_n C dX0_paperBitsOf_15 rfl 0 rfl ?_
        refine g_iload_n C dX0_paperBitsOf_16 rfl 3 rfl ?_
        refine g_iload_n C dX0_paperBitsOf_17 rfl 1 rfl ?_
        refine g_callVB C (R := RX0) (T := TX0) (N := 8) [.int v3, .int v1] (fun _ _ h => c_X0_isOf (kl x) N w hS _ _ h) (g_cwV C hR ml_X0_74 im_X0_isOf sl_X0_isOf ini_X0 cd_X0_isOf hd_X0_isOf (by decide)) kd_1 (by decide) rfl (in_1 hS) rfl _ rfl (Nat.le_of_ble_eq_true rfl) dX0_paperBitsOf_18 hf (fun r1 s1 hf => ?_)
        refine g_ifeqB (tgt := 31) C dX0_paperBitsOf_21 (by decide) hf (fun hf => ?_) (fun hf => ?_)
        · exact j31 (f_X0_paperBitsOf_L4 N n) ih _ _ _ _ hf
        · refine g_iload_n C dX0_paperBitsOf_24 rfl 2 rfl ?_
          refine g_iload_n C dX0_paperBitsOf_25 rfl 3 rfl ?_
          refine g_callNI C [.int v3] (fun _ _ h => c_X8_bit (kl x) N w _ h) (g_cwN C hR (List.mem_of_getElem? (i := 0) rfl) sm_X8_bit ini_X8 cd_X8_bit hd_X8_bit (by decide)) rfl _ rfl (Nat.le_of_ble_eq_true rfl) dX0_paperBitsOf_26 hf (fun r2 s2 hf => ?_)
          refine g_ior C dX0_paperBitsOf_29 ?_
          refine g_istore_n (lv' := [(2, .int (v2 ||| r2)), (0, .ref (ad w 1)), (1, .int v1), (3, .int v3)]) C dX0_paperBitsOf_30 rfl (by decide) rfl ?_
          refine g_sub [1, 2, 0, 3] rfl ?_
          exact j31 (f_X0_paperBitsOf_L4 N n) ih _ _ _ _ hf
  refine g_lv (lv' := [(0, .ref (ad w 1)), (1, .int a1)]) rfl ?_
  unfold f_X0_paperBitsOf at hf
  refine g_iconst C (v := 0) dX0_paperBitsOf_0 rfl ?_
  refine g_istore_n (lv' := [(2, .int 0), (0, .ref (ad w 1)), (1, .int a1)]) C dX0_paperBitsOf_1 rfl (by decide) rfl ?_
  refine g_iconst C (v := 0) dX0_paperBitsOf_2 rfl ?_
  refine g_istore_n (lv' := [(3, .int 0), (2, .int 0), (0, .ref (ad w 1)), (1, .int a1)]) C dX0_paperBitsOf_3 rfl (by decide) rfl ?_
  refine g_sub [2, 3, 1, 0] rfl ?_
  exact j4 N _ _ _ _ hf

set_option maxHeartbeats 4000000 in
set_option maxRecDepth 100000 in
theorem c_J6_bitCount_0f7a4 (l : Launch) (N : Nat) (w : WX) (a0 : Int32) {s s' : Mem} {r : Int32} (hf : f_J6_bitCount_0f7a4 N a0 s = some (r, s')) : CI l yJ6_bitCount_0f7a4 (wz yJ6_bitCount_0f7a4 cJ6_bitCount_0f7a4 1 (some .int)) ({ frames := 0, cells := 0, slots := 0, locals := 0 } : Room) [.int a0] w s r s' := by
  refine met_startI (cc := cJ6_bitCount_0f7a4) (ret := (some .int)) (own := RJ6) (maxL := 1) (by decide) rfl (Nat.le_of_ble_eq_true rfl) (fun x C hR hl => ?_)
  refine g_lv (lv' := [(0, .int a0)]) rfl ?_
  unfold f_J6_bitCount_0f7a4 at hf
  refine g_iload_n C dJ6_bitCount_0f7a4_0 rfl 0 rfl ?_
  refine g_iload_n C dJ6_bitCount_0f7a4_1 rfl 0 rfl ?_
  refine g_iconst C (v := 1) dJ6_bitCount_0f7a4_2 rfl ?_
  refine g_iushr C dJ6_bitCount_0f7a4_3 ?_
  refine g_ldcw C (v := 1431655765) dJ6_bitCount_0f7a4_4 kI_J6_265 ?_
  refine g_iand C dJ6_bitCount_0f7a4_7 ?_
  refine g_isub C dJ6_bitCount_0f7a4_8 ?_
  refine g_istore_nN (lv' := fun x1 => [(0, .int x1)]) C dJ6_bitCount_0f7a4_9 rfl (by decide) (fun _ => rfl) hf (fun x1 hf => ?_)
  refine g_iload_n C dJ6_bitCount_0f7a4_10 rfl 0 rfl ?_
  refine g_ldcw C (v := 858993459) dJ6_bitCount_0f7a4_11 kI_J6_266 ?_
  refine g_iand C dJ6_bitCount_0f7a4_14 ?_
  refine g_iload_n C dJ6_bitCount_0f7a4_15 rfl 0 rfl ?_
  refine g_iconst C (v := 2) dJ6_bitCount_0f7a4_16 rfl ?_
  refine g_iushr C dJ6_bitCount_0f7a4_17 ?_
  refine g_ldcw C (v := 858993459) dJ6_bitCount_0f7a4_18 kI_J6_266 ?_
  refine g_iand C dJ6_bitCount_0f7a4_21 ?_
  refine g_iadd C dJ6_bitCount_0f7a4_22 ?_
  refine g_istore_nN (lv' := fun x2 => [(0, .int x2)]) C dJ6_bitCount_0f7a4_23 rfl (by decide) (fun _ => rfl) hf (fun x2 hf => ?_)
  refine g_iload_n C dJ6_bitCount_0f7a4_24 rfl 0 rfl ?_
  refine g_iload_n C dJ6_bitCount_0f7a4_25 rfl 0 rfl ?_
  refine g_iconst C (v := 4) dJ6_bitCount_0f7a4_26 rfl ?_
  refine g_iushr C dJ6_bitCount_0f7a4_27 ?_
  refine g_iadd C dJ6_bitCount_0f7a4_28 ?_
  refine g_ldcw C (v := 252645135) dJ6_bitCount_0f7a4_29 kI_J6_267 ?_
  refine g_iand C dJ6_bitCount_0f7a4_32 ?_
  refine g_istore_nN (lv' := fun x3 => [(0, .int x3)]) C dJ6_bitCount_0f7a4_33 rfl (by decide) (fun _ => rfl) hf (fun x3 hf => ?_)
  refine g_iload_n C dJ6_bitCount_0f7a4_34 rfl 0 rfl ?_
  refine g_iload_n C dJ6_bitCount_0f7a4_35 rfl 0 rfl ?_
  refine g_bipush C (v := 8) dJ6_bitCount_0f7a4_36 (by decide) ?_
  refine g_iushr C dJ6_bitCount_0f7a4_38 ?_
  refine g_iadd C dJ6_bitCount_0f7a4_39 ?_
  refine g_istore_nN (lv' := fun x4 => [(0, .int x4)]) C dJ6_bitCount_0f7a4_40 rfl (by decide) (fun _ => rfl) hf (fun x4 hf => ?_)
  refine g_iload_n C dJ6_bitCount_0f7a4_41 rfl 0 rfl ?_
  refine g_iload_n C dJ6_bitCount_0f7a4_42 rfl 0 rfl ?_
  refine g_bipush C (v := 16) dJ6_bitCount_0f7a4_43 (by decide) ?_
  refine g_iushr C dJ6_bitCount_0f7a4_45 ?_
  refine g_iadd C dJ6_bitCount_0f7a4_46 ?_
  refine g_istore_nN (lv' := fun x5 => [(0, .int x5)]) C dJ6_bitCount_0f7a4_47 rfl (by decide) (fun _ => rfl) hf (fun x5 hf => ?_)
  refine g_iload_n C dJ6_bitCount_0f7a4_48 rfl 0 rfl ?_
  refine g_bipush C (v := 63) dJ6_bitCount_0f7a4_49 (by decide) ?_
  refine g_iand C dJ6_bitCount_0f7a4_51 ?_
  exact g_iret C dJ6_bitCount_0f7a4_52 hf

set_option maxHeartbeats 4000000 in
set_option maxRecDepth 100000 in
theorem c_X0_papersOf (l : Launch) (N : Nat) (w : WX) (hS : SS w = Sc) (a1 : Int32) {s s' : Mem} {r : Int32} (hf : f_X0_papersOf N a1 s = some (r, s')) : CI l yX0_papersOf (wz yX0_papersOf cX0_papersOf 2 (some .int)) ({ frames := 3, cells := 0, slots := 0, locals := 68 } : Room) [.ref (ad w 1), .int a1] w s r s' := by
  refine met_startI (cc := cX0_papersOf) (ret := (some .int)) (own := RX0) (maxL := 2) (by decide) rfl (Nat.le_of_ble_eq_true rfl) (fun x C hR hl => ?_)
  refine g_lv (lv' := [(0, .ref (ad w 1)), (1, .int a1)]) rfl ?_
  unfold f_X0_papersOf at hf
  refine g_aload_n C dX0_papersOf_0 rfl 0 rfl ?_
  refine g_iload_n C dX0_papersOf_1 rfl 1 rfl ?_
  refine g_callVI C (R := RX0) (T := TX0) (N := 8) [.int a1] (fun _ _ h => c_X0_paperBitsOf (kl x) N w hS _ h) (g_cwV C hR ml_X0_62 im_X0_paperBitsOf sl_X0_paperBitsOf ini_X0 cd_X0_paperBitsOf hd_X0_paperBitsOf (by decide)) kd_1 (by decide) rfl (in_1 hS) rfl _ rfl (Nat.le_of_ble_eq_true rfl) dX0_papersOf_2 hf (fun r1 s1 hf => ?_)
  refine g_callSI C [.int r1] (fun _ _ h => c_J6_bitCount_0f7a4 (kl x) N w _ h) (g_cwS C hR ml_X0_66 sm_J6_bitCount_0f7a4 ini_J6 cd_J6_bitCount_0f7a4 hd_J6_bitCount_0f7a4 (by decide)) rfl _ rfl (Nat.le_of_ble_eq_true rfl) dX0_papersOf_5 hf (fun r2 s2 hf => ?_)
  exact g_iret C dX0_papersOf_8 hf

set_option maxHeartbeats 4000000 in
set_option maxRecDepth 100000 in
theorem c_X0_nextPaperOf (l : Launch) (N : Nat) (w : WX) (hS : SS w = Sc) (a1 : Int32) (a2 : Int32) {s s' : Mem} {r : Int32} (hf : f_X0_nextPaperOf N a1 a2 s = some (r, s')) : CI l yX0_nextPaperOf (wz yX0_nextPaperOf cX0_nextPaperOf 5 (some .int)) ({ frames := 2, cells := 0, slots := 0, locals := 45 } : Room) [.ref (ad w 1), .int a1, .int a2] w s r s' := by
  refine met_startI (cc := cX0_nextPaperOf) (ret := (some .int)) (own := RX0) (maxL := 5) (by decide) rfl (Nat.le_of_ble_eq_true rfl) (fun x C hR hl => ?_)
  have j21 : ∀ (n : Nat), ∀ (v1 : Int32) (v4 : Int32) (s : Mem), f_X0_nextPaperOf_L21 N n v1 v4 s = some (r, s') → G x (QI x w r s') 5 w 21 [(0, .ref (ad w 1)), (1, .int v1), (4, .int v4)] [] s := by
    intro n
    induction n with
    | zero => intro v1 v4 s hf; cases hf
    | succ n ih =>
      intro v1 v4 s hf
      unfold f_X0_nextPaperOf_L21 at hf
      refine g_iload C dX0_nextPaperOf_21 2 rfl ?_
      refine g_aload_n C dX0_nextPaperOf_23 rfl 0 rfl ?_
      refine g_get C (R := RX0) (T := TX0) (N := 8) (k := 1) (v := .ref (ad w 4)) kd_1 (by decide) rfl (in_1 hS) hinX0 (by decide) fl_X0_20 rfl rfl dX0_nextPaperOf_24 ?_
      refine g_get C (R := RX5) (T := TX5) (N := 4) (k := 3) (v := .int (rI s 4 3)) kd_4 (by decide) rfl (in_4 hS) hinX5 (by decide) fl_X0_71 rfl rfl dX0_nextPaperOf_27 ?_
      refine g_icmp_ge (tgt := 52) C dX0_nextPaperOf_30 (by decide) hf (fun hf => ?_) (fun hf => ?_)
      · refine g_bipush C (v := (-3)) dX0_nextPaperOf_52 (by decide) ?_
        exact g_iret C dX0_nextPaperOf_54 hf
      · refine g_aload_n C dX0_nextPaperOf_33 rfl 0 rfl ?_
        refine g_iload C dX0_nextPaperOf_34 2 rfl ?_
        refine g_iload_n C dX0_nextPaperOf_36 rfl 1 rfl ?_
        refine g_callVB C (R := RX0) (T := TX0) (N := 8) [.int v4, .int v1] (fun _ _ h => c_X0_isOf (kl x) N w hS _ _ h) (g_cwV C hR ml_X0_74 im_X0_isOf sl_X0_isOf ini_X0 cd_X0_isOf hd_X0_isOf (by decide)) kd_1 (by decide) rfl (in_1 hS) rfl _ rfl (Nat.le_of_ble_eq_true rfl) dX0_nextPaperOf_37 hf (fun r1 s1 hf => ?_)
        refine g_ifeqB (tgt := 46) C dX0_nextPaperOf_40 (by decide) hf (fun hf => ?_) (fun hf => ?_)
        · refine g_iinc (v' := v4 + 1) (lv' := [(4, .int (v4 + 1)), (0, .ref (ad w 1)), (1, .int v1)]) C dX0_nextPaperOf_46 2 rfl rfl (by decide) rfl ?_
          refine g_goto (tgt := 21) C dX0_nextPaperOf_49 (by decide) ?_
          refine g_sub [1, 2, 0] rfl ?_
          exact ih _ _ _ hf
        · refine g_iload C dX0_nextPaperOf_43 2 rfl ?_
          exact g_iret C dX0_nextPaperOf_45 hf
  have j13 : ∀ (v1 : Int32) (p0 : Int32) (s : Mem), f_X0_nextPaperOf_j13 N v1 p0 s = some (r, s') → G x (QI x w r s') 5 w 13 [(0, .ref (ad w 1)), (1, .int v1)] [.int p0] s := by
    intro v1 p0 s hf
    unfold f_X0_nextPaperOf_j13 at hf
    refine g_istore_n (lv' := [(3, .int p0), (0, .ref (ad w 1)), (1, .int v1)]) C dX0_nextPaperOf_13 rfl (by decide) rfl ?_
    refine g_iconst C (v := 0) dX0_nextPaperOf_14 rfl ?_
    refine g_iload_n C dX0_nextPaperOf_15 rfl 0 rfl ?_
    refine g_imax C (kR_of hR (by decide)) ml_X0_81 sm_J9_max_7cf53 ini_J9 cd_J9_max_7cf53 (Nat.le_of_ble_eq_true rfl) dX0_nextPaperOf_16 ?_
    refine g_istore (lv' := [(4, .int (imax 0 p0)), (3, .int p0), (0, .ref (ad w 1)), (1, .int v1)]) C dX0_nextPaperOf_19 (by decide) rfl ?_
    refine g_sub [2, 3, 0] rfl ?_
    exact j21 N _ _ _ hf
  refine g_lv (lv' := [(0, .ref (ad w 1)), (1, .int a1), (2, .int a2)]) rfl ?_
  unfold f_X0_nextPaperOf at hf
  refine g_iload_n C dX0_nextPaperOf_0 rfl 2 rfl ?_
  refine g_bipush C (v := (-3)) dX0_nextPaperOf_1 (by decide) ?_
  refine g_icmp_ne (tgt := 10) C dX0_nextPaperOf_3 (by decide) hf (fun hf => ?_) (fun hf => ?_)
  · refine g_iload_n C dX0_nextPaperOf_10 rfl 2 rfl ?_
    refine g_iconst C (v := 1) dX0_nextPaperOf_11 rfl ?_
    refine g_iadd C dX0_nextPaperOf_12 ?_
    refine g_sub [0, 1] rfl ?_
    exact j13 _ _ _ hf
  · refine g_iconst C (v := 0) dX0_nextPaperOf_6 rfl ?_
    refine g_goto (tgt := 13) C dX0_nextPaperOf_7 (by decide) ?_
    refine g_sub [0, 1] rfl ?_
    exact j13 _ _ _ hf

set_option maxHeartbeats 4000000 in
set_option maxRecDepth 100000 in
theorem c_X0_seen (l : Launch) (N : Nat) (w : WX) (hS : SS w = Sc) (a1 : Int32) {s s' : Mem} {r : Int32} (hf : f_X0_seen N a1 s = some (r, s')) : CI l yX0_seen (wz yX0_seen cX0_seen 4 (some .int)) ({ frames := 2, cells := 0, slots := 0, locals := 45 } : Room) [.ref (ad w 1), .int a1] w s r s' := by
  refine met_startI (cc := cX0_seen) (ret := (some .int)) (own := RX0) (maxL := 4) (by decide) rfl (Nat.le_of_ble_eq_true rfl) (fun x C hR hl => ?_)
  have j55 : ∀ (k4 : Int32 → Int32 → Int32 → Mem → Option (Int32 × Mem)), (∀ (v1 : Int32) (v2 : Int32) (v3 : Int32) (s : Mem), k4 v1 v2 v3 s = some (r, s') → G x (QI x w r s') 4 w 4 [(0, .ref (ad w 1)), (1, .int v1), (2, .int v2), (3, .int v3)] [] s) → ∀ (v1 : Int32) (v2 : Int32) (v3 : Int32) (s : Mem), f_X0_seen_j55 N k4 v1 v2 v3 s = some (r, s') → G x (QI x w r s') 4 w 55 [(0, .ref (ad w 1)), (1, .int v1), (2, .int v2), (3, .int v3)] [] s := by
    intro k4 q4 v1 v2 v3 s hf
    unfold f_X0_seen_j55 at hf
    refine g_iinc (v' := v3 + 1) (lv' := [(3, .int (v3 + 1)), (0, .ref (ad w 1)), (1, .int v1), (2, .int v2)]) C dX0_seen_55 3 rfl rfl (by decide) rfl ?_
    refine g_goto (tgt := 4) C dX0_seen_58 (by decide) ?_
    refine g_sub [1, 2, 3, 0] rfl ?_
    exact q4 _ _ _ _ hf
  have j4 : ∀ (n : Nat), ∀ (v1 : Int32) (v2 : Int32) (v3 : Int32) (s : Mem), f_X0_seen_L4 N n v1 v2 v3 s = some (r, s') → G x (QI x w r s') 4 w 4 [(0, .ref (ad w 1)), (1, .int v1), (2, .int v2), (3, .int v3)] [] s := by
    intro n
    induction n with
    | zero => intro v1 v2 v3 s hf; cases hf
    | succ n ih =>
      intro v1 v2 v3 s hf
      unfold f_X0_seen_L4 at hf
      refine g_iload_n C dX0_seen_4 rfl 3 rfl ?_
      refine g_aload_n C dX0_seen_5 rfl 0 rfl ?_
      refine g_get C (R := RX0) (T := TX0) (N := 8) (k := 1) (v := .ref (ad w 4)) kd_1 (by decide) rfl (in_1 hS) hinX0 (by decide) fl_X0_20 rfl rfl dX0_seen_6 ?_
      refine g_get C (R := RX5) (T := TX5) (N := 4) (k := 3) (v := .int (rI s 4 3)) kd_4 (by decide) rfl (in_4 hS) hinX5 (by decide) fl_X0_71 rfl rfl dX0_seen_9 ?_
      refine g_icmp_ge (tgt := 61) C dX0_seen_12 (by decide) hf (fun hf => ?_) (fun hf => ?_)
      · refine g_iload_n C dX0_seen_61 rfl 2 rfl ?_
        exact g_iret C dX0_seen_62 hf
      · refine g_aload_n C dX0_seen_15 rfl 0 rfl ?_
        refine g_iload_n C dX0_seen_16 rfl 3 rfl ?_
        refine g_iload_n C dX0_seen_17 rfl 1 rfl ?_
        refine g_callVB C (R := RX0) (T := TX0) (N := 8) [.int v3, .int v1] (fun _ _ h => c_X0_isOf (kl x) N w hS _ _ h) (g_cwV C hR ml_X0_74 im_X0_isOf sl_X0_isOf ini_X0 cd_X0_isOf hd_X0_isOf (by decide)) kd_1 (by decide) rfl (in_1 hS) rfl _ rfl (Nat.le_of_ble_eq_true rfl) dX0_seen_18 hf (fun r1 s1 hf => ?_)
        refine g_ifeqB (tgt := 55) C dX0_seen_21 (by decide) hf (fun hf => ?_) (fun hf => ?_)
        · exact j55 (f_X0_seen_L4 N n) ih _ _ _ _ hf
        · refine g_aload_n C dX0_seen_24 rfl 0 rfl ?_
          refine g_get C (R := RX0) (T := TX0) (N := 8) (k := 1) (v := .ref (ad w 4)) kd_1 (by decide) rfl (in_1 hS) hinX0 (by decide) fl_X0_20 rfl rfl dX0_seen_25 ?_
          refine g_iload_n C dX0_seen_28 rfl 3 rfl ?_
          refine g_iconst C (v := 1) dX0_seen_29 rfl ?_
          refine g_callVI C (R := RX5) (T := TX5) (N := 4) [.int v3, .int 1] (fun _ _ h => c_X5_get (kl x) N w (ok_4 hS) _ _ h) (g_cwV C hR ml_X0_54 im_X5_get sl_X5_get ini_X5 cd_X5_get hd_X5_get (by decide)) kd_4 (by decide) rfl (in_4 hS) rfl _ rfl (Nat.le_of_ble_eq_true rfl) dX0_seen_30 hf (fun r2 s2 hf => ?_)
          refine g_bipush C (v := 6) dX0_seen_33 (by decide) ?_
          refine g_icmp_ne (tgt := 41) C dX0_seen_35 (by decide) hf (fun hf => ?_) (fun hf => ?_)
          · refine g_iload_n C dX0_seen_41 rfl 2 rfl ?_
            refine g_aload_n C dX0_seen_42 rfl 0 rfl ?_
            refine g_get C (R := RX0) (T := TX0) (N := 8) (k := 1) (v := .ref (ad w 4)) kd_1 (by decide) rfl (in_1 hS) hinX0 (by decide) fl_X0_20 rfl rfl dX0_seen_43 ?_
            refine g_iload_n C dX0_seen_46 rfl 3 rfl ?_
            refine g_iconst C (v := 2) dX0_seen_47 rfl ?_
            refine g_callVI C (R := RX5) (T := TX5) (N := 4) [.int v3, .int 2] (fun _ _ h => c_X5_get (kl x) N w (ok_4 hS) _ _ h) (g_cwV C hR ml_X0_54 im_X5_get sl_X5_get ini_X5 cd_X5_get hd_X5_get (by decide)) kd_4 (by decide) rfl (in_4 hS) rfl _ rfl (Nat.le_of_ble_eq_true rfl) dX0_seen_48 hf (fun r3 s3 hf => ?_)
            refine g_imax C (kR_of hR (by decide)) ml_X0_81 sm_J9_max_7cf53 ini_J9 cd_J9_max_7cf53 (Nat.le_of_ble_eq_true rfl) dX0_seen_51 ?_
            refine g_istore_n (lv' := [(2, .int (imax v2 r3)), (0, .ref (ad w 1)), (1, .int v1), (3, .int v3)]) C dX0_seen_54 rfl (by decide) rfl ?_
            refine g_sub [1, 2, 0, 3] rfl ?_
            exact j55 (f_X0_seen_L4 N n) ih _ _ _ _ hf
          · refine g_goto (tgt := 55) C dX0_seen_38 (by decide) ?_
            exact j55 (f_X0_seen_L4 N n) ih _ _ _ _ hf
  refine g_lv (lv' := [(0, .ref (ad w 1)), (1, .int a1)]) rfl ?_
  unfold f_X0_seen at hf
  refine g_iconst C (v := 0) dX0_seen_0 rfl ?_
  refine g_istore_n (lv' := [(2, .int 0), (0, .ref (ad w 1)), (1, .int a1)]) C dX0_seen_1 rfl (by decide) rfl ?_
  refine g_iconst C (v := 0) dX0_seen_2 rfl ?_
  refine g_istore_n (lv' := [(3, .int 0), (2, .int 0), (0, .ref (ad w 1)), (1, .int a1)]) C dX0_seen_3 rfl (by decide) rfl ?_
  refine g_sub [2, 3, 1, 0] rfl ?_
  exact j4 N _ _ _ _ hf

set_option maxHeartbeats 4000000 in
set_option maxRecDepth 100000 in
theorem c_X0_isNear (l : Launch) (N : Nat) (w : WX) (a0 : Int32) (a1 : Int32) (a2 : Int32) {s s' : Mem} {r : Bool} (hf : f_X0_isNear N a0 a1 a2 s = some (r, s')) : CB l yX0_isNear (wz yX0_isNear cX0_isNear 3 (some .boolean)) ({ frames := 0, cells := 0, slots := 0, locals := 0 } : Room) [.int a0, .int a1, .int a2] w s r s' := by
  refine met_startB (cc := cX0_isNear) (ret := (some .boolean)) (own := RX0) (maxL := 3) (by decide) rfl (Nat.le_of_ble_eq_true rfl) (fun x C hR hl => ?_)
  refine g_lv (lv' := [(0, .int a0), (1, .int a1), (2, .int a2)]) rfl ?_
  unfold f_X0_isNear at hf
  refine g_iload_n C dX0_isNear_0 rfl 0 rfl ?_
  refine g_iload_n C dX0_isNear_1 rfl 1 rfl ?_
  refine g_iload_n C dX0_isNear_2 rfl 2 rfl ?_
  refine g_isub C dX0_isNear_3 ?_
  refine g_icmp_lt (tgt := 18) C dX0_isNear_4 (by decide) hf (fun hf => ?_) (fun hf => ?_)
  · refine g_iconst C (v := 0) dX0_isNear_18 rfl ?_
    exact g_zret (v := false) C dX0_isNear_19 hf
  · refine g_iload_n C dX0_isNear_7 rfl 0 rfl ?_
    refine g_iload_n C dX0_isNear_8 rfl 1 rfl ?_
    refine g_iload_n C dX0_isNear_9 rfl 2 rfl ?_
    refine g_iadd C dX0_isNear_10 ?_
    refine g_icmp_gt (tgt := 18) C dX0_isNear_11 (by decide) hf (fun hf => ?_) (fun hf => ?_)
    · refine g_iconst C (v := 0) dX0_isNear_18 rfl ?_
      exact g_zret (v := false) C dX0_isNear_19 hf
    · refine g_iconst C (v := 1) dX0_isNear_14 rfl ?_
      refine g_goto (tgt := 19) C dX0_isNear_15 (by decide) ?_
      exact g_zret (v := true) C dX0_isNear_19 hf

set_option maxHeartbeats 4000000 in
set_option maxRecDepth 100000 in
theorem c_X0_leewayOf (l : Launch) (N : Nat) (w : WX) (a0 : Int32) {s s' : Mem} {r : Int32} (hf : f_X0_leewayOf N a0 s = some (r, s')) : CI l yX0_leewayOf (wz yX0_leewayOf cX0_leewayOf 1 (some .int)) ({ frames := 0, cells := 0, slots := 0, locals := 0 } : Room) [.int a0] w s r s' := by
  refine met_startI (cc := cX0_leewayOf) (ret := (some .int)) (own := RX0) (maxL := 1) (by decide) rfl (Nat.le_of_ble_eq_true rfl) (fun x C hR hl => ?_)
  refine g_lv (lv' := [(0, .int a0)]) rfl ?_
  unfold f_X0_leewayOf at hf
  refine g_iload_n C dX0_leewayOf_0 rfl 0 rfl ?_
  refine g_bipush C (v := 10) dX0_leewayOf_1 (by decide) ?_
  refine g_iremK C dX0_leewayOf_3 (by decide) ?_
  refine g_if_ne (tgt := 9) C dX0_leewayOf_4 (by decide) hf (fun hf => ?_) (fun hf => ?_)
  · refine g_iload_n C dX0_leewayOf_9 rfl 0 rfl ?_
    refine g_bipush C (v := 10) dX0_leewayOf_10 (by decide) ?_
    refine g_iremK C dX0_leewayOf_12 (by decide) ?_
    refine g_iconst C (v := 5) dX0_leewayOf_13 rfl ?_
    refine g_icmp_ne (tgt := 21) C dX0_leewayOf_14 (by decide) hf (fun hf => ?_) (fun hf => ?_)
    · refine g_iconst C (v := 1) dX0_leewayOf_21 rfl ?_
      exact g_iret C dX0_leewayOf_22 hf
    · refine g_iconst C (v := 2) dX0_leewayOf_17 rfl ?_
      refine g_goto (tgt := 22) C dX0_leewayOf_18 (by decide) ?_
      exact g_iret C dX0_leewayOf_22 hf
  · refine g_iconst C (v := 5) dX0_leewayOf_7 rfl ?_
    exact g_iret C dX0_leewayOf_8 hf

set_option maxHeartbeats 4000000 in
set_option maxRecDepth 100000 in
theorem c_X0_placesApart (l : Launch) (N : Nat) (w : WX) (a0 : Int32) (a1 : Int32) {s s' : Mem} {r : Int32} (hf : f_X0_placesApart N a0 a1 s = some (r, s')) : CI l yX0_placesApart (wz yX0_placesApart cX0_placesApart 3 (some .int)) ({ frames := 0, cells := 0, slots := 0, locals := 0 } : Room) [.int a0, .int a1] w s r s' := by
  refine met_startI (cc := cX0_placesApart) (ret := (some .int)) (own := RX0) (maxL := 3) (by decide) rfl (Nat.le_of_ble_eq_true rfl) (fun x C hR hl => ?_)
  have j37 : ∀ (v0 : Int32) (v1 : Int32) (v2 : Int32) (s : Mem), f_X0_placesApart_j37 N v0 v1 v2 s = some (r, s') → G x (QI x w r s') 3 w 37 [(0, .int v0), (1, .int v1), (2, .int v2)] [] s := by
    intro v0 v1 v2 s hf
    unfold f_X0_placesApart_j37 at hf
    refine g_iload_n C dX0_placesApart_37 rfl 0 rfl ?_
    refine g_bipush C (v := 100) dX0_placesApart_38 (by decide) ?_
    refine g_idivK C dX0_placesApart_40 (by decide) ?_
    refine g_iload_n C dX0_placesApart_41 rfl 1 rfl ?_
    refine g_bipush C (v := 100) dX0_placesApart_42 (by decide) ?_
    refine g_idivK C dX0_placesApart_44 (by decide) ?_
    refine g_icmp_eq (tgt := 51) C dX0_placesApart_45 (by decide) hf (fun hf => ?_) (fun hf => ?_)
    · refine g_iload_n C dX0_placesApart_51 rfl 2 rfl ?_
      exact g_iret C dX0_placesApart_52 hf
    · refine g_iinc (v' := v2 + 1) (lv' := [(2, .int (v2 + 1)), (0, .int v0), (1, .int v1)]) C dX0_placesApart_48 2 rfl rfl (by decide) rfl ?_
      refine g_iload_n C dX0_placesApart_51 rfl 0 rfl ?_
      exact g_iret C dX0_placesApart_52 hf
  have j16 : ∀ (v0 : Int32) (v1 : Int32) (p0 : Bool) (s : Mem), f_X0_placesApart_j16 N v0 v1 p0 s = some (r, s') → G x (QI x w r s') 3 w 16 [(0, .int v0), (1, .int v1)] [.int (bI p0)] s := by
    intro v0 v1 p0 s hf
    unfold f_X0_placesApart_j16 at hf
    refine g_istore_n (lv' := [(2, .int (bI p0)), (0, .int v0), (1, .int v1)]) C dX0_placesApart_16 rfl (by decide) rfl ?_
    refine g_iload_n C dX0_placesApart_17 rfl 1 rfl ?_
    refine g_bipush C (v := 10) dX0_placesApart_18 (by decide) ?_
    refine g_idivK C dX0_placesApart_20 (by decide) ?_
    refine g_bipush C (v := 10) dX0_placesApart_21 (by decide) ?_
    refine g_iremK C dX0_placesApart_23 (by decide) ?_
    refine g_iload_n C dX0_placesApart_24 rfl 2 rfl ?_
    refine g_bipush C (v := 10) dX0_placesApart_25 (by decide) ?_
    refine g_idivK C dX0_placesApart_27 (by decide) ?_
    refine g_bipush C (v := 10) dX0_placesApart_28 (by decide) ?_
    refine g_iremK C dX0_placesApart_30 (by decide) ?_
    refine g_icmp_eq (tgt := 37) C dX0_placesApart_31 (by decide) hf (fun hf => ?_) (fun hf => ?_)
    · refine g_sub [1, 2, 0] rfl ?_
      exact j37 _ _ _ _ hf
    · refine g_iinc (v' := (bI p0) + 1) (lv' := [(2, .int ((bI p0) + 1)), (0, .int v0), (1, .int v1)]) C dX0_placesApart_34 0 rfl rfl (by decide) rfl ?_
      refine g_sub [1, 2, 0] rfl ?_
      exact j37 _ _ _ _ hf
  refine g_lv (lv' := [(0, .int a0), (1, .int a1)]) rfl ?_
  unfold f_X0_placesApart at hf
  refine g_iload_n C dX0_placesApart_0 rfl 0 rfl ?_
  refine g_bipush C (v := 10) dX0_placesApart_1 (by decide) ?_
  refine g_iremK C dX0_placesApart_3 (by decide) ?_
  refine g_iload_n C dX0_placesApart_4 rfl 1 rfl ?_
  refine g_bipush C (v := 10) dX0_placesApart_5 (by decide) ?_
  refine g_iremK C dX0_placesApart_7 (by decide) ?_
  refine g_icmp_eq (tgt := 15) C dX0_placesApart_8 (by decide) hf (fun hf => ?_) (fun hf => ?_)
  · refine g_iconst C (v := 0) dX0_placesApart_15 rfl ?_
    exact j16 _ _ _ _ hf
  · refine g_iconst C (v := 1) dX0_placesApart_11 rfl ?_
    refine g_goto (tgt := 16) C dX0_placesApart_12 (by decide) ?_
    exact j16 _ _ _ _ hf

set_option maxHeartbeats 4000000 in
set_option maxRecDepth 100000 in
theorem c_X0_isInSpan (l : Launch) (N : Nat) (w : WX) (hS : SS w = Sc) (a1 : Int32) (a2 : Int32) {s s' : Mem} {r : Bool} (hf : f_X0_isInSpan N a1 a2 s = some (r, s')) : CB l yX0_isInSpan (wz yX0_isInSpan cX0_isInSpan 5 (some .boolean)) ({ frames := 1, cells := 0, slots := 0, locals := 23 } : Room) [.ref (ad w 1), .int a1, .int a2] w s r s' := by
  refine met_startB (cc := cX0_isInSpan) (ret := (some .boolean)) (own := RX0) (maxL := 5) (by decide) rfl (Nat.le_of_ble_eq_true rfl) (fun x C hR hl => ?_)
  have j132 : ∀ (s : Mem), f_X0_isInSpan_j132 N s = some (r, s') → G x (QB x w r s') 5 w 132 [] [] s := by
    intro s hf
    unfold f_X0_isInSpan_j132 at hf
    refine g_iconst C (v := 1) dX0_isInSpan_132 rfl ?_
    refine g_goto (tgt := 137) C dX0_isInSpan_133 (by decide) ?_
    exact g_zret (v := true) C dX0_isInSpan_137 hf
  refine g_lv (lv' := [(0, .ref (ad w 1)), (1, .int a1), (2, .int a2)]) rfl ?_
  unfold f_X0_isInSpan at hf
  refine g_aload_n C dX0_isInSpan_0 rfl 0 rfl ?_
  refine g_get C (R := RX0) (T := TX0) (N := 8) (k := 1) (v := .ref (ad w 4)) kd_1 (by decide) rfl (in_1 hS) hinX0 (by decide) fl_X0_20 rfl rfl dX0_isInSpan_1 ?_
  refine g_iload_n C dX0_isInSpan_4 rfl 1 rfl ?_
  refine g_iconst C (v := 2) dX0_isInSpan_5 rfl ?_
  refine g_callVI C (R := RX5) (T := TX5) (N := 4) [.int a1, .int 2] (fun _ _ h => c_X5_get (kl x) N w (ok_4 hS) _ _ h) (g_cwV C hR ml_X0_54 im_X5_get sl_X5_get ini_X5 cd_X5_get hd_X5_get (by decide)) kd_4 (by decide) rfl (in_4 hS) rfl _ rfl (Nat.le_of_ble_eq_true rfl) dX0_isInSpan_6 hf (fun r1 s1 hf => ?_)
  refine g_istore_n (lv' := [(3, .int r1), (0, .ref (ad w 1)), (1, .int a1), (2, .int a2)]) C dX0_isInSpan_9 rfl (by decide) rfl ?_
  refine g_aload_n C dX0_isInSpan_10 rfl 1 rfl ?_
  refine g_get C (R := RX0) (T := TX0) (N := 8) (k := 1) (v := .ref (ad w 4)) kd_1 (by decide) rfl (in_1 hS) hinX0 (by decide) fl_X0_20 rfl rfl dX0_isInSpan_11 ?_
  refine g_iload_n C dX0_isInSpan_14 rfl 2 rfl ?_
  refine g_iconst C (v := 3) dX0_isInSpan_15 rfl ?_
  refine g_callVI C (R := RX5) (T := TX5) (N := 4) [.int a1, .int 3] (fun _ _ h => c_X5_get (kl x) N w (ok_4 hS) _ _ h) (g_cwV C hR ml_X0_54 im_X5_get sl_X5_get ini_X5 cd_X5_get hd_X5_get (by decide)) kd_4 (by decide) rfl (in_4 hS) rfl _ rfl (Nat.le_of_ble_eq_true rfl) dX0_isInSpan_16 hf (fun r2 s2 hf => ?_)
  refine g_istore (lv' := [(4, .int r2), (3, .int r1), (0, .ref (ad w 1)), (1, .int a1), (2, .int a2)]) C dX0_isInSpan_19 (by decide) rfl ?_
  refine g_iload_n C dX0_isInSpan_21 rfl 4 rfl ?_
  refine g_iload_n C dX0_isInSpan_22 rfl 1 rfl ?_
  refine g_icmp_le (tgt := 28) C dX0_isInSpan_23 (by decide) hf (fun hf => ?_) (fun hf => ?_)
  · refine g_aload_n C dX0_isInSpan_28 rfl 2 rfl ?_
    refine g_get C (R := RX0) (T := TX0) (N := 8) (k := 1) (v := .ref (ad w 4)) kd_1 (by decide) rfl (in_1 hS) hinX0 (by decide) fl_X0_20 rfl rfl dX0_isInSpan_29 ?_
    refine g_iload_n C dX0_isInSpan_32 rfl 3 rfl ?_
    refine g_iconst C (v := 1) dX0_isInSpan_33 rfl ?_
    refine g_callVI C (R := RX5) (T := TX5) (N := 4) [.int a1, .int 1] (fun _ _ h => c_X5_get (kl x) N w (ok_4 hS) _ _ h) (g_cwV C hR ml_X0_54 im_X5_get sl_X5_get ini_X5 cd_X5_get hd_X5_get (by decide)) kd_4 (by decide) rfl (in_4 hS) rfl _ rfl (Nat.le_of_ble_eq_true rfl) dX0_isInSpan_34 hf (fun r3 s3 hf => ?_)
    rcases ite_some hf with ⟨e1, hf⟩ | ⟨n1, hf⟩
    · refine g_tabIn (k := 1) (tgt := 80) C dX0_isInSpan_37 e1 (by decide) (by decide) rfl (by decide) ?_
      refine g_iload_n C dX0_isInSpan_80 rfl 4 rfl ?_
      refine g_iload C dX0_isInSpan_81 0 rfl ?_
      refine g_icmp_ne (tgt := 90) C dX0_isInSpan_83 (by decide) hf (fun hf => ?_) (fun hf => ?_)
      · refine g_iconst C (v := 0) dX0_isInSpan_90 rfl ?_
        exact g_zret (v := false) C dX0_isInSpan_91 hf
      · refine g_iconst C (v := 1) dX0_isInSpan_86 rfl ?_
        refine g_goto (tgt := 91) C dX0_isInSpan_87 (by decide) ?_
        exact g_zret (v := true) C dX0_isInSpan_91 hf
    rcases ite_some hf with ⟨e2, hf⟩ | ⟨n2, hf⟩
    · refine g_tabIn (k := 2) (tgt := 92) C dX0_isInSpan_37 e2 (by decide) (by decide) rfl (by decide) ?_
      refine g_iload_n C dX0_isInSpan_92 rfl 4 rfl ?_
      refine g_iload C dX0_isInSpan_93 0 rfl ?_
      refine g_iconst C (v := 1) dX0_isInSpan_95 rfl ?_
      refine g_callSB C [.int a2, .int r2, .int 1] (fun _ _ h => c_X0_isNear (kl x) N w _ _ _ h) (g_cwS C hR ml_X0_86 sm_X0_isNear ini_X0 cd_X0_isNear hd_X0_isNear (by decide)) rfl _ rfl (Nat.le_of_ble_eq_true rfl) dX0_isInSpan_96 hf (fun r4 s4 hf => ?_)
      exact g_zret C dX0_isInSpan_99 hf
    rcases ite_some hf with ⟨e3, hf⟩ | ⟨n3, hf⟩
    · refine g_tabIn (k := 3) (tgt := 100) C dX0_isInSpan_37 e3 (by decide) (by decide) rfl (by decide) ?_
      refine g_iload_n C dX0_isInSpan_100 rfl 4 rfl ?_
      refine g_iload_n C dX0_isInSpan_101 rfl 1 rfl ?_
      refine g_iload C dX0_isInSpan_102 0 rfl ?_
      refine g_isub C dX0_isInSpan_104 ?_
      refine g_iload C dX0_isInSpan_105 0 rfl ?_
      refine g_callSI C [.int r2] (fun _ _ h => c_X0_leewayOf (kl x) N w _ h) (g_cwS C hR ml_X0_90 sm_X0_leewayOf ini_X0 cd_X0_leewayOf hd_X0_leewayOf (by decide)) rfl _ rfl (Nat.le_of_ble_eq_true rfl) dX0_isInSpan_107 hf (fun r5 s5 hf => ?_)
      refine g_callSB C [.int a2, .int (r1 - r2), .int r5] (fun _ _ h => c_X0_isNear (kl x) N w _ _ _ h) (g_cwS C hR ml_X0_86 sm_X0_isNear ini_X0 cd_X0_isNear hd_X0_isNear (by decide)) rfl _ rfl (Nat.le_of_ble_eq_true rfl) dX0_isInSpan_110 hf (fun r6 s6 hf => ?_)
      exact g_zret C dX0_isInSpan_113 hf
    rcases ite_some hf with ⟨e4, hf⟩ | ⟨n4, hf⟩
    · refine g_tabIn (k := 4) (tgt := 114) C dX0_isInSpan_37 e4 (by decide) (by decide) rfl (by decide) ?_
      refine g_iload_n C dX0_isInSpan_114 rfl 4 rfl ?_
      refine g_iload_n C dX0_isInSpan_115 rfl 1 rfl ?_
      refine g_iload C dX0_isInSpan_116 0 rfl ?_
      refine g_isub C dX0_isInSpan_118 ?_
      refine g_icmp_eq (tgt := 132) C dX0_isInSpan_119 (by decide) hf (fun hf => ?_) (fun hf => ?_)
      · refine g_sub [] rfl ?_
        exact j132 _ hf
      · refine g_iload_n C dX0_isInSpan_122 rfl 4 rfl ?_
        refine g_iload_n C dX0_isInSpan_123 rfl 1 rfl ?_
        refine g_iload C dX0_isInSpan_124 0 rfl ?_
        refine g_isub C dX0_isInSpan_126 ?_
        refine g_iconst C (v := 1) dX0_isInSpan_127 rfl ?_
        refine g_isub C dX0_isInSpan_128 ?_
        refine g_icmp_ne (tgt := 136) C dX0_isInSpan_129 (by decide) hf (fun hf => ?_) (fun hf => ?_)
        · refine g_iconst C (v := 0) dX0_isInSpan_136 rfl ?_
          exact g_zret (v := false) C dX0_isInSpan_137 hf
        · refine g_sub [] rfl ?_
          exact j132 _ hf
    rcases ite_some hf with ⟨e5, hf⟩ | ⟨n5, hf⟩
    · refine g_tabIn (k := 5) (tgt := 138) C dX0_isInSpan_37 e5 (by decide) (by decide) rfl (by decide) ?_
      refine g_iload_n C dX0_isInSpan_138 rfl 4 rfl ?_
      refine g_iload C dX0_isInSpan_139 0 rfl ?_
      refine g_callSI C [.int a2, .int r2] (fun _ _ h => c_X0_placesApart (kl x) N w _ _ h) (g_cwS C hR ml_X0_93 sm_X0_placesApart ini_X0 cd_X0_placesApart hd_X0_placesApart (by decide)) rfl _ rfl (Nat.le_of_ble_eq_true rfl) dX0_isInSpan_141 hf (fun r7 s7 hf => ?_)
      refine g_iconst C (v := 1) dX0_isInSpan_144 rfl ?_
      refine g_icmp_gt (tgt := 152) C dX0_isInSpan_145 (by decide) hf (fun hf => ?_) (fun hf => ?_)
      · refine g_iconst C (v := 0) dX0_isInSpan_152 rfl ?_
        exact g_zret (v := false) C dX0_isInSpan_153 hf
      · refine g_iconst C (v := 1) dX0_isInSpan_148 rfl ?_
        refine g_goto (tgt := 153) C dX0_isInSpan_149 (by decide) ?_
        exact g_zret (v := true) C dX0_isInSpan_153 hf
    rcases ite_some hf with ⟨e6, hf⟩ | ⟨n6, hf⟩
    · refine g_tabIn (k := 6) (tgt := 154) C dX0_isInSpan_37 e6 (by decide) (by decide) rfl (by decide) ?_
      refine g_iload_n C dX0_isInSpan_154 rfl 4 rfl ?_
      refine g_iload_n C dX0_isInSpan_155 rfl 1 rfl ?_
      refine g_iload C dX0_isInSpan_156 0 rfl ?_
      refine g_isub C dX0_isInSpan_158 ?_
      refine g_icmp_gt (tgt := 166) C dX0_isInSpan_159 (by decide) hf (fun hf => ?_) (fun hf => ?_)
      · refine g_iconst C (v := 0) dX0_isInSpan_166 rfl ?_
        exact g_zret (v := false) C dX0_isInSpan_167 hf
      · refine g_iconst C (v := 1) dX0_isInSpan_162 rfl ?_
        refine g_goto (tgt := 167) C dX0_isInSpan_163 (by decide) ?_
        exact g_zret (v := true) C dX0_isInSpan_167 hf
    rcases ite_some hf with ⟨e7, hf⟩ | ⟨n7, hf⟩
    · refine g_tabIn (k := 7) (tgt := 168) C dX0_isInSpan_37 e7 (by decide) (by decide) rfl (by decide) ?_
      refine g_iload_n C dX0_isInSpan_168 rfl 4 rfl ?_
      refine g_iload C dX0_isInSpan_169 0 rfl ?_
      refine g_iconst C (v := 5) dX0_isInSpan_171 rfl ?_
      refine g_isub C dX0_isInSpan_172 ?_
      refine g_icmp_gt (tgt := 180) C dX0_isInSpan_173 (by decide) hf (fun hf => ?_) (fun hf => ?_)
      · refine g_iconst C (v := 0) dX0_isInSpan_180 rfl ?_
        exact g_zret (v := false) C dX0_isInSpan_181 hf
      · refine g_iconst C (v := 1) dX0_isInSpan_176 rfl ?_
        refine g_goto (tgt := 181) C dX0_isInSpan_177 (by decide) ?_
        exact g_zret (v := true) C dX0_isInSpan_181 hf
    refine g_tabOut (tgt := 182) C dX0_isInSpan_37 (by have z1 := lv_neT n1 (a := 1) (by decide); have z2 := lv_neT n2 (a := 2) (by decide); have z3 := lv_neT n3 (a := 3) (by decide); have z4 := lv_neT n4 (a := 4) (by decide); have z5 := lv_neT n5 (a := 5) (by decide); have z6 := lv_neT n6 (a := 6) (by decide); have z7 := lv_neT n7 (a := 7) (by decide); omega) (by decide) ?_
    refine g_iconst C (v := 0) dX0_isInSpan_182 rfl ?_
    exact g_zret (v := false) C dX0_isInSpan_183 hf
  · refine g_iconst C (v := 0) dX0_isInSpan_26 rfl ?_
    exact g_zret (v := false) C dX0_isInSpan_27 hf

set_option maxHeartbeats 4000000 in
set_option maxRecDepth 100000 in
theorem c_X0_isInSpans (l : Launch) (N : Nat) (w : WX) (hS : SS w = Sc) (a1 : Int32) (a2 : Int32) {s s' : Mem} {r : Bool} (hf : f_X0_isInSpans N a1 a2 s = some (r, s')) : CB l yX0_isInSpans (wz yX0_isInSpans cX0_isInSpans 4 (some .boolean)) ({ frames := 2, cells := 0, slots := 0, locals := 47 } : Room) [.ref (ad w 1), .int a1, .int a2] w s r s' := by
  refine met_startB (cc := cX0_isInSpans) (ret := (some .boolean)) (own := RX0) (maxL := 4) (by decide) rfl (Nat.le_of_ble_eq_true rfl) (fun x C hR hl => ?_)
  have j33 : ∀ (k2 : Int32 → Int32 → Int32 → Mem → Option (Bool × Mem)), (∀ (v1 : Int32) (v2 : Int32) (v3 : Int32) (s : Mem), k2 v1 v2 v3 s = some (r, s') → G x (QB x w r s') 4 w 2 [(0, .ref (ad w 1)), (1, .int v1), (2, .int v2), (3, .int v3)] [] s) → ∀ (v1 : Int32) (v2 : Int32) (v3 : Int32) (s : Mem), f_X0_isInSpans_j33 N k2 v1 v2 v3 s = some (r, s') → G x (QB x w r s') 4 w 33 [(0, .ref (ad w 1)), (1, .int v1), (2, .int v2), (3, .int v3)] [] s := by
    intro k2 q2 v1 v2 v3 s hf
    unfold f_X0_isInSpans_j33 at hf
    refine g_iinc (v' := v3 + 1) (lv' := [(3, .int (v3 + 1)), (0, .ref (ad w 1)), (1, .int v1), (2, .int v2)]) C dX0_isInSpans_33 3 rfl rfl (by decide) rfl ?_
    refine g_goto (tgt := 2) C dX0_isInSpans_36 (by decide) ?_
    refine g_sub [1, 2, 3, 0] rfl ?_
    exact q2 _ _ _ _ hf
  have j2 : ∀ (n : Nat), ∀ (v1 : Int32) (v2 : Int32) (v3 : Int32) (s : Mem), f_X0_isInSpans_L2 N n v1 v2 v3 s = some (r, s') → G x (QB x w r s') 4 w 2 [(0, .ref (ad w 1)), (1, .int v1), (2, .int v2), (3, .int v3)] [] s := by
    intro n
    induction n with
    | zero => intro v1 v2 v3 s hf; cases hf
    | succ n ih =>
      intro v1 v2 v3 s hf
      unfold f_X0_isInSpans_L2 at hf
      refine g_iload_n C dX0_isInSpans_2 rfl 3 rfl ?_
      refine g_aload_n C dX0_isInSpans_3 rfl 0 rfl ?_
      refine g_get C (R := RX0) (T := TX0) (N := 8) (k := 1) (v := .ref (ad w 4)) kd_1 (by decide) rfl (in_1 hS) hinX0 (by decide) fl_X0_20 rfl rfl dX0_isInSpans_4 ?_
      refine g_get C (R := RX5) (T := TX5) (N := 4) (k := 3) (v := .int (rI s 4 3)) kd_4 (by decide) rfl (in_4 hS) hinX5 (by decide) fl_X0_71 rfl rfl dX0_isInSpans_7 ?_
      refine g_icmp_ge (tgt := 39) C dX0_isInSpans_10 (by decide) hf (fun hf => ?_) (fun hf => ?_)
      · refine g_iconst C (v := 1) dX0_isInSpans_39 rfl ?_
        exact g_zret (v := true) C dX0_isInSpans_40 hf
      · refine g_aload_n C dX0_isInSpans_13 rfl 0 rfl ?_
        refine g_iload_n C dX0_isInSpans_14 rfl 3 rfl ?_
        refine g_iload_n C dX0_isInSpans_15 rfl 1 rfl ?_
        refine g_callVB C (R := RX0) (T := TX0) (N := 8) [.int v3, .int v1] (fun _ _ h => c_X0_isOf (kl x) N w hS _ _ h) (g_cwV C hR ml_X0_74 im_X0_isOf sl_X0_isOf ini_X0 cd_X0_isOf hd_X0_isOf (by decide)) kd_1 (by decide) rfl (in_1 hS) rfl _ rfl (Nat.le_of_ble_eq_true rfl) dX0_isInSpans_16 hf (fun r1 s1 hf => ?_)
        refine g_ifeqB (tgt := 33) C dX0_isInSpans_19 (by decide) hf (fun hf => ?_) (fun hf => ?_)
        · exact j33 (f_X0_isInSpans_L2 N n) ih _ _ _ _ hf
        · refine g_aload_n C dX0_isInSpans_22 rfl 0 rfl ?_
          refine g_iload_n C dX0_isInSpans_23 rfl 3 rfl ?_
          refine g_iload_n C dX0_isInSpans_24 rfl 2 rfl ?_
          refine g_callVB C (R := RX0) (T := TX0) (N := 8) [.int v3, .int v2] (fun _ _ h => c_X0_isInSpan (kl x) N w hS _ _ h) (g_cwV C hR ml_X0_96 im_X0_isInSpan sl_X0_isInSpan ini_X0 cd_X0_isInSpan hd_X0_isInSpan (by decide)) kd_1 (by decide) rfl (in_1 hS) rfl _ rfl (Nat.le_of_ble_eq_true rfl) dX0_isInSpans_25 hf (fun r2 s2 hf => ?_)
          refine g_ifneB (tgt := 33) C dX0_isInSpans_28 (by decide) hf (fun hf => ?_) (fun hf => ?_)
          · exact j33 (f_X0_isInSpans_L2 N n) ih _ _ _ _ hf
          · refine g_iconst C (v := 0) dX0_isInSpans_31 rfl ?_
            exact g_zret (v := false) C dX0_isInSpans_32 hf
  refine g_lv (lv' := [(0, .ref (ad w 1)), (1, .int a1), (2, .int a2)]) rfl ?_
  unfold f_X0_isInSpans at hf
  refine g_iconst C (v := 0) dX0_isInSpans_0 rfl ?_
  refine g_istore_n (lv' := [(3, .int 0), (0, .ref (ad w 1)), (1, .int a1), (2, .int a2)]) C dX0_isInSpans_1 rfl (by decide) rfl ?_
  refine g_sub [1, 2, 3, 0] rfl ?_
  exact j2 N _ _ _ _ hf

set_option maxHeartbeats 4000000 in
set_option maxRecDepth 100000 in
theorem c_X0_placeByMade (l : Launch) (N : Nat) (w : WX) (hS : SS w = Sc) (a1 : Int32) (a2 : Int32) {s s' : Mem} {r : Int32} (hf : f_X0_placeByMade N a1 a2 s = some (r, s')) : CI l yX0_placeByMade (wz yX0_placeByMade cX0_placeByMade 7 (some .int)) ({ frames := 2, cells := 0, slots := 0, locals := 45 } : Room) [.ref (ad w 1), .int a1, .int a2] w s r s' := by
  refine met_startI (cc := cX0_placeByMade) (ret := (some .int)) (own := RX0) (maxL := 7) (by decide) rfl (Nat.le_of_ble_eq_true rfl) (fun x C hR hl => ?_)
  have j74 : ∀ (k16 : Int32 → Int32 → Int32 → Int32 → Int32 → Mem → Option (Int32 × Mem)), (∀ (v1 : Int32) (v2 : Int32) (v3 : Int32) (v4 : Int32) (v5 : Int32) (s : Mem), k16 v1 v2 v3 v4 v5 s = some (r, s') → G x (QI x w r s') 7 w 16 [(0, .ref (ad w 1)), (1, .int v1), (2, .int v2), (3, .int v3), (4, .int v4), (5, .int v5)] [] s) → ∀ (v1 : Int32) (v2 : Int32) (v3 : Int32) (v4 : Int32) (v5 : Int32) (s : Mem), f_X0_placeByMade_j74 N k16 v1 v2 v3 v4 v5 s = some (r, s') → G x (QI x w r s') 7 w 74 [(0, .ref (ad w 1)), (1, .int v1), (2, .int v2), (3, .int v3), (4, .int v4), (5, .int v5)] [] s := by
    intro k16 q16 v1 v2 v3 v4 v5 s hf
    unfold f_X0_placeByMade_j74 at hf
    refine g_iinc (v' := v5 + 1) (lv' := [(5, .int (v5 + 1)), (0, .ref (ad w 1)), (1, .int v1), (2, .int v2), (3, .int v3), (4, .int v4)]) C dX0_placeByMade_74 5 rfl rfl (by decide) rfl ?_
    refine g_goto (tgt := 16) C dX0_placeByMade_77 (by decide) ?_
    refine g_sub [1, 2, 3, 4, 5, 0] rfl ?_
    exact q16 _ _ _ _ _ _ hf
  have j71 : ∀ (k16 : Int32 → Int32 → Int32 → Int32 → Int32 → Mem → Option (Int32 × Mem)), (∀ (v1 : Int32) (v2 : Int32) (v3 : Int32) (v4 : Int32) (v5 : Int32) (s : Mem), k16 v1 v2 v3 v4 v5 s = some (r, s') → G x (QI x w r s') 7 w 16 [(0, .ref (ad w 1)), (1, .int v1), (2, .int v2), (3, .int v3), (4, .int v4), (5, .int v5)] [] s) → ∀ (v1 : Int32) (v2 : Int32) (v3 : Int32) (v4 : Int32) (v5 : Int32) (s : Mem), f_X0_placeByMade_j71 N k16 v1 v2 v3 v4 v5 s = some (r, s') → G x (QI x w r s') 7 w 71 [(0, .ref (ad w 1)), (1, .int v1), (2, .int v2), (3, .int v3), (4, .int v4), (5, .int v5)] [] s := by
    intro k16 q16 v1 v2 v3 v4 v5 s hf
    unfold f_X0_placeByMade_j71 at hf
    refine g_iinc (v' := v4 + 1) (lv' := [(4, .int (v4 + 1)), (0, .ref (ad w 1)), (1, .int v1), (2, .int v2), (3, .int v3), (5, .int v5)]) C dX0_placeByMade_71 4 rfl rfl (by decide) rfl ?_
    refine g_sub [1, 2, 3, 4, 0, 5] rfl ?_
    exact j74 k16 q16 _ _ _ _ _ _ hf
  have j16 : ∀ (n : Nat), ∀ (v1 : Int32) (v2 : Int32) (v3 : Int32) (v4 : Int32) (v5 : Int32) (s : Mem), f_X0_placeByMade_L16 N n v1 v2 v3 v4 v5 s = some (r, s') → G x (QI x w r s') 7 w 16 [(0, .ref (ad w 1)), (1, .int v1), (2, .int v2), (3, .int v3), (4, .int v4), (5, .int v5)] [] s := by
    intro n
    induction n with
    | zero => intro v1 v2 v3 v4 v5 s hf; cases hf
    | succ n ih =>
      intro v1 v2 v3 v4 v5 s hf
      unfold f_X0_placeByMade_L16 at hf
      refine g_iload C dX0_placeByMade_16 5 rfl ?_
      refine g_aload_n C dX0_placeByMade_18 rfl 0 rfl ?_
      refine g_get C (R := RX0) (T := TX0) (N := 8) (k := 1) (v := .ref (ad w 4)) kd_1 (by decide) rfl (in_1 hS) hinX0 (by decide) fl_X0_20 rfl rfl dX0_placeByMade_19 ?_
      refine g_get C (R := RX5) (T := TX5) (N := 4) (k := 3) (v := .int (rI s 4 3)) kd_4 (by decide) rfl (in_4 hS) hinX5 (by decide) fl_X0_71 rfl rfl dX0_placeByMade_22 ?_
      refine g_icmp_ge (tgt := 80) C dX0_placeByMade_25 (by decide) hf (fun hf => ?_) (fun hf => ?_)
      · refine g_iload C dX0_placeByMade_80 4 rfl ?_
        exact g_iret C dX0_placeByMade_82 hf
      · refine g_aload_n C dX0_placeByMade_28 rfl 0 rfl ?_
        refine g_iload C dX0_placeByMade_29 5 rfl ?_
        refine g_iload_n C dX0_placeByMade_31 rfl 2 rfl ?_
        refine g_callVB C (R := RX0) (T := TX0) (N := 8) [.int v5, .int v2] (fun _ _ h => c_X0_isOf (kl x) N w hS _ _ h) (g_cwV C hR ml_X0_74 im_X0_isOf sl_X0_isOf ini_X0 cd_X0_isOf hd_X0_isOf (by decide)) kd_1 (by decide) rfl (in_1 hS) rfl _ rfl (Nat.le_of_ble_eq_true rfl) dX0_placeByMade_32 hf (fun r1 s1 hf => ?_)
        refine g_ifneB (tgt := 41) C dX0_placeByMade_35 (by decide) hf (fun hf => ?_) (fun hf => ?_)
        · refine g_aload_n C dX0_placeByMade_41 rfl 0 rfl ?_
          refine g_get C (R := RX0) (T := TX0) (N := 8) (k := 1) (v := .ref (ad w 4)) kd_1 (by decide) rfl (in_1 hS) hinX0 (by decide) fl_X0_20 rfl rfl dX0_placeByMade_42 ?_
          refine g_iload C dX0_placeByMade_45 5 rfl ?_
          refine g_iconst C (v := 2) dX0_placeByMade_47 rfl ?_
          refine g_callVI C (R := RX5) (T := TX5) (N := 4) [.int v5, .int 2] (fun _ _ h => c_X5_get (kl x) N w (ok_4 hS) _ _ h) (g_cwV C hR ml_X0_54 im_X5_get sl_X5_get ini_X5 cd_X5_get hd_X5_get (by decide)) kd_4 (by decide) rfl (in_4 hS) rfl _ rfl (Nat.le_of_ble_eq_true rfl) dX0_placeByMade_48 hf (fun r2 s2 hf => ?_)
          refine g_istore (lv' := [(6, .int r2), (0, .ref (ad w 1)), (1, .int v1), (2, .int v2), (3, .int v3), (4, .int v4), (5, .int v5)]) C dX0_placeByMade_51 (by decide) rfl ?_
          refine g_iload C dX0_placeByMade_53 0 rfl ?_
          refine g_iload_n C dX0_placeByMade_55 rfl 4 rfl ?_
          refine g_icmp_lt (tgt := 71) C dX0_placeByMade_56 (by decide) hf (fun hf => ?_) (fun hf => ?_)
          · refine g_sub [1, 2, 3, 4, 5, 6] rfl ?_
            exact j71 (f_X0_placeByMade_L16 N n) ih _ _ _ _ _ _ hf
          · refine g_iload C dX0_placeByMade_59 0 rfl ?_
            refine g_iload_n C dX0_placeByMade_61 rfl 4 rfl ?_
            refine g_icmp_ne (tgt := 74) C dX0_placeByMade_62 (by decide) hf (fun hf => ?_) (fun hf => ?_)
            · refine g_sub [1, 2, 3, 4, 5, 6] rfl ?_
              exact j74 (f_X0_placeByMade_L16 N n) ih _ _ _ _ _ _ hf
            · refine g_iload C dX0_placeByMade_65 6 rfl ?_
              refine g_iload_n C dX0_placeByMade_67 rfl 2 rfl ?_
              refine g_icmp_ge (tgt := 74) C dX0_placeByMade_68 (by decide) hf (fun hf => ?_) (fun hf => ?_)
              · refine g_sub [1, 2, 3, 4, 5, 6] rfl ?_
                exact j74 (f_X0_placeByMade_L16 N n) ih _ _ _ _ _ _ hf
              · refine g_sub [1, 2, 3, 4, 5, 6] rfl ?_
                exact j71 (f_X0_placeByMade_L16 N n) ih _ _ _ _ _ _ hf
        · refine g_goto (tgt := 74) C dX0_placeByMade_38 (by decide) ?_
          exact j74 (f_X0_placeByMade_L16 N n) ih _ _ _ _ _ _ hf
  refine g_lv (lv' := [(0, .ref (ad w 1)), (1, .int a1), (2, .int a2)]) rfl ?_
  unfold f_X0_placeByMade at hf
  refine g_aload_n C dX0_placeByMade_0 rfl 0 rfl ?_
  refine g_get C (R := RX0) (T := TX0) (N := 8) (k := 1) (v := .ref (ad w 4)) kd_1 (by decide) rfl (in_1 hS) hinX0 (by decide) fl_X0_20 rfl rfl dX0_placeByMade_1 ?_
  refine g_iload_n C dX0_placeByMade_4 rfl 1 rfl ?_
  refine g_iconst C (v := 2) dX0_placeByMade_5 rfl ?_
  refine g_callVI C (R := RX5) (T := TX5) (N := 4) [.int a1, .int 2] (fun _ _ h => c_X5_get (kl x) N w (ok_4 hS) _ _ h) (g_cwV C hR ml_X0_54 im_X5_get sl_X5_get ini_X5 cd_X5_get hd_X5_get (by decide)) kd_4 (by decide) rfl (in_4 hS) rfl _ rfl (Nat.le_of_ble_eq_true rfl) dX0_placeByMade_6 hf (fun r1 s1 hf => ?_)
  refine g_istore_n (lv' := [(3, .int r1), (0, .ref (ad w 1)), (1, .int a1), (2, .int a2)]) C dX0_placeByMade_9 rfl (by decide) rfl ?_
  refine g_iconst C (v := 0) dX0_placeByMade_10 rfl ?_
  refine g_istore (lv' := [(4, .int 0), (3, .int r1), (0, .ref (ad w 1)), (1, .int a1), (2, .int a2)]) C dX0_placeByMade_11 (by decide) rfl ?_
  refine g_iconst C (v := 0) dX0_placeByMade_13 rfl ?_
  refine g_istore (lv' := [(5, .int 0), (4, .int 0), (3, .int r1), (0, .ref (ad w 1)), (1, .int a1), (2, .int a2)]) C dX0_placeByMade_14 (by decide) rfl ?_
  refine g_sub [3, 4, 5, 2, 1, 0] rfl ?_
  exact j16 N _ _ _ _ _ _ hf

set_option maxHeartbeats 4000000 in
set_option maxRecDepth 100000 in
theorem c_X0_areAllInSpan (l : Launch) (N : Nat) (w : WX) (hS : SS w = Sc) (a1 : Int32) (a2 : Int32) {s s' : Mem} {r : Bool} (hf : f_X0_areAllInSpan N a1 a2 s = some (r, s')) : CB l yX0_areAllInSpan (wz yX0_areAllInSpan cX0_areAllInSpan 4 (some .boolean)) ({ frames := 2, cells := 0, slots := 0, locals := 47 } : Room) [.ref (ad w 1), .int a1, .int a2] w s r s' := by
  refine met_startB (cc := cX0_areAllInSpan) (ret := (some .boolean)) (own := RX0) (maxL := 4) (by decide) rfl (Nat.le_of_ble_eq_true rfl) (fun x C hR hl => ?_)
  have j33 : ∀ (k2 : Int32 → Int32 → Int32 → Mem → Option (Bool × Mem)), (∀ (v1 : Int32) (v2 : Int32) (v3 : Int32) (s : Mem), k2 v1 v2 v3 s = some (r, s') → G x (QB x w r s') 4 w 2 [(0, .ref (ad w 1)), (1, .int v1), (2, .int v2), (3, .int v3)] [] s) → ∀ (v1 : Int32) (v2 : Int32) (v3 : Int32) (s : Mem), f_X0_areAllInSpan_j33 N k2 v1 v2 v3 s = some (r, s') → G x (QB x w r s') 4 w 33 [(0, .ref (ad w 1)), (1, .int v1), (2, .int v2), (3, .int v3)] [] s := by
    intro k2 q2 v1 v2 v3 s hf
    unfold f_X0_areAllInSpan_j33 at hf
    refine g_iinc (v' := v3 + 1) (lv' := [(3, .int (v3 + 1)), (0, .ref (ad w 1)), (1, .int v1), (2, .int v2)]) C dX0_areAllInSpan_33 3 rfl rfl (by decide) rfl ?_
    refine g_goto (tgt := 2) C dX0_areAllInSpan_36 (by decide) ?_
    refine g_sub [1, 2, 3, 0] rfl ?_
    exact q2 _ _ _ _ hf
  have j2 : ∀ (n : Nat), ∀ (v1 : Int32) (v2 : Int32) (v3 : Int32) (s : Mem), f_X0_areAllInSpan_L2 N n v1 v2 v3 s = some (r, s') → G x (QB x w r s') 4 w 2 [(0, .ref (ad w 1)), (1, .int v1), (2, .int v2), (3, .int v3)] [] s := by
    intro n
    induction n with
    | zero => intro v1 v2 v3 s hf; cases hf
    | succ n ih =>
      intro v1 v2 v3 s hf
      unfold f_X0_areAllInSpan_L2 at hf
      refine g_iload_n C dX0_areAllInSpan_2 rfl 3 rfl ?_
      refine g_aload_n C dX0_areAllInSpan_3 rfl 0 rfl ?_
      refine g_get C (R := RX0) (T := TX0) (N := 8) (k := 1) (v := .ref (ad w 4)) kd_1 (by decide) rfl (in_1 hS) hinX0 (by decide) fl_X0_20 rfl rfl dX0_areAllInSpan_4 ?_
      refine g_get C (R := RX5) (T := TX5) (N := 4) (k := 3) (v := .int (rI s 4 3)) kd_4 (by decide) rfl (in_4 hS) hinX5 (by decide) fl_X0_71 rfl rfl dX0_areAllInSpan_7 ?_
      refine g_icmp_ge (tgt := 39) C dX0_areAllInSpan_10 (by decide) hf (fun hf => ?_) (fun hf => ?_)
      · refine g_iconst C (v := 1) dX0_areAllInSpan_39 rfl ?_
        exact g_zret (v := true) C dX0_areAllInSpan_40 hf
      · refine g_iload_n C dX0_areAllInSpan_13 rfl 1 rfl ?_
        refine g_iload_n C dX0_areAllInSpan_14 rfl 3 rfl ?_
        refine g_callNI C [.int v3] (fun _ _ h => c_X8_bit (kl x) N w _ h) (g_cwN C hR (List.mem_of_getElem? (i := 0) rfl) sm_X8_bit ini_X8 cd_X8_bit hd_X8_bit (by decide)) rfl _ rfl (Nat.le_of_ble_eq_true rfl) dX0_areAllInSpan_15 hf (fun r1 s1 hf => ?_)
        refine g_iand C dX0_areAllInSpan_18 ?_
        refine g_if_eq (tgt := 33) C dX0_areAllInSpan_19 (by decide) hf (fun hf => ?_) (fun hf => ?_)
        · exact j33 (f_X0_areAllInSpan_L2 N n) ih _ _ _ _ hf
        · refine g_aload_n C dX0_areAllInSpan_22 rfl 0 rfl ?_
          refine g_iload_n C dX0_areAllInSpan_23 rfl 3 rfl ?_
          refine g_iload_n C dX0_areAllInSpan_24 rfl 2 rfl ?_
          refine g_callVB C (R := RX0) (T := TX0) (N := 8) [.int v3, .int v2] (fun _ _ h => c_X0_isInSpan (kl x) N w hS _ _ h) (g_cwV C hR ml_X0_96 im_X0_isInSpan sl_X0_isInSpan ini_X0 cd_X0_isInSpan hd_X0_isInSpan (by decide)) kd_1 (by decide) rfl (in_1 hS) rfl _ rfl (Nat.le_of_ble_eq_true rfl) dX0_areAllInSpan_25 hf (fun r2 s2 hf => ?_)
          refine g_ifneB (tgt := 33) C dX0_areAllInSpan_28 (by decide) hf (fun hf => ?_) (fun hf => ?_)
          · exact j33 (f_X0_areAllInSpan_L2 N n) ih _ _ _ _ hf
          · refine g_iconst C (v := 0) dX0_areAllInSpan_31 rfl ?_
            exact g_zret (v := false) C dX0_areAllInSpan_32 hf
  refine g_lv (lv' := [(0, .ref (ad w 1)), (1, .int a1), (2, .int a2)]) rfl ?_
  unfold f_X0_areAllInSpan at hf
  refine g_iconst C (v := 0) dX0_areAllInSpan_0 rfl ?_
  refine g_istore_n (lv' := [(3, .int 0), (0, .ref (ad w 1)), (1, .int a1), (2, .int a2)]) C dX0_areAllInSpan_1 rfl (by decide) rfl ?_
  refine g_sub [1, 2, 3, 0] rfl ?_
  exact j2 N _ _ _ _ hf

set_option maxHeartbeats 4000000 in
set_option maxRecDepth 100000 in
theorem c_X0_spansMeet (l : Launch) (N : Nat) (w : WX) (hS : SS w = Sc) (a1 : Int32) (a2 : Int32) (a3 : Int32) {s s' : Mem} {r : Bool} (hf : f_X0_spansMeet N a1 a2 a3 s = some (r, s')) : CB l yX0_spansMeet (wz yX0_spansMeet cX0_spansMeet 7 (some .boolean)) ({ frames := 3, cells := 0, slots := 0, locals := 71 } : Room) [.ref (ad w 1), .int a1, .int a2, .int a3] w s r s' := by
  refine met_startB (cc := cX0_spansMeet) (ret := (some .boolean)) (own := RX0) (maxL := 7) (by decide) rfl (Nat.le_of_ble_eq_true rfl) (fun x C hR hl => ?_)
  have j71 : ∀ (n : Nat), ∀ (v4 : Int32) (v5 : Int32) (s : Mem), f_X0_spansMeet_L71 N n v4 v5 s = some (r, s') → G x (QB x w r s') 7 w 71 [(0, .ref (ad w 1)), (4, .int v4), (5, .int v5)] [] s := by
    intro n
    induction n with
    | zero => intro v4 v5 s hf; cases hf
    | succ n ih =>
      intro v4 v5 s hf
      unfold f_X0_spansMeet_L71 at hf
      refine g_iload C dX0_spansMeet_71 2 rfl ?_
      refine g_sipush C (v := 160) dX0_spansMeet_73 (by decide) ?_
      refine g_icmp_gt (tgt := 98) C dX0_spansMeet_76 (by decide) hf (fun hf => ?_) (fun hf => ?_)
      · refine g_iconst C (v := 0) dX0_spansMeet_98 rfl ?_
        exact g_zret (v := false) C dX0_spansMeet_99 hf
      · refine g_aload_n C dX0_spansMeet_79 rfl 0 rfl ?_
        refine g_iload C dX0_spansMeet_80 1 rfl ?_
        refine g_iload C dX0_spansMeet_82 2 rfl ?_
        refine g_callVB C (R := RX0) (T := TX0) (N := 8) [.int v4, .int v5] (fun _ _ h => c_X0_areAllInSpan (kl x) N w hS _ _ h) (g_cwV C hR ml_X0_102 im_X0_areAllInSpan sl_X0_areAllInSpan ini_X0 cd_X0_areAllInSpan hd_X0_areAllInSpan (by decide)) kd_1 (by decide) rfl (in_1 hS) rfl _ rfl (Nat.le_of_ble_eq_true rfl) dX0_spansMeet_84 hf (fun r1 s1 hf => ?_)
        refine g_ifeqB (tgt := 92) C dX0_spansMeet_87 (by decide) hf (fun hf => ?_) (fun hf => ?_)
        · refine g_iinc (v' := v5 + 1) (lv' := [(5, .int (v5 + 1)), (0, .ref (ad w 1)), (4, .int v4)]) C dX0_spansMeet_92 2 rfl rfl (by decide) rfl ?_
          refine g_goto (tgt := 71) C dX0_spansMeet_95 (by decide) ?_
          refine g_sub [1, 2, 0] rfl ?_
          exact ih _ _ _ hf
        · refine g_iconst C (v := 1) dX0_spansMeet_90 rfl ?_
          exact g_zret (v := true) C dX0_spansMeet_91 hf
  have j68 : ∀ (v4 : Int32) (s : Mem), f_X0_spansMeet_j68 N v4 s = some (r, s') → G x (QB x w r s') 7 w 68 [(0, .ref (ad w 1)), (4, .int v4)] [] s := by
    intro v4 s hf
    unfold f_X0_spansMeet_j68 at hf
    refine g_iconst C (v := 0) dX0_spansMeet_68 rfl ?_
    refine g_istore (lv' := [(5, .int 0), (0, .ref (ad w 1)), (4, .int v4)]) C dX0_spansMeet_69 (by decide) rfl ?_
    refine g_sub [1, 2, 0] rfl ?_
    exact j71 N _ _ _ hf
  have j62 : ∀ (k6 : Int32 → Int32 → Int32 → Int32 → Int32 → Mem → Option (Bool × Mem)) (k68 : Int32 → Mem → Option (Bool × Mem)), (∀ (v1 : Int32) (v2 : Int32) (v3 : Int32) (v4 : Int32) (v5 : Int32) (s : Mem), k6 v1 v2 v3 v4 v5 s = some (r, s') → G x (QB x w r s') 7 w 6 [(0, .ref (ad w 1)), (1, .int v1), (2, .int v2), (3, .int v3), (4, .int v4), (5, .int v5)] [] s) → (∀ (v4 : Int32) (s : Mem), k68 v4 s = some (r, s') → G x (QB x w r s') 7 w 68 [(0, .ref (ad w 1)), (4, .int v4)] [] s) → ∀ (v1 : Int32) (v2 : Int32) (v3 : Int32) (v4 : Int32) (v5 : Int32) (s : Mem), f_X0_spansMeet_j62 N k6 k68 v1 v2 v3 v4 v5 s = some (r, s') → G x (QB x w r s') 7 w 62 [(0, .ref (ad w 1)), (1, .int v1), (2, .int v2), (3, .int v3), (4, .int v4), (5, .int v5)] [] s := by
    intro k6 k68 q6 q68 v1 v2 v3 v4 v5 s hf
    unfold f_X0_spansMeet_j62 at hf
    refine g_iinc (v' := v5 + 1) (lv' := [(5, .int (v5 + 1)), (0, .ref (ad w 1)), (1, .int v1), (2, .int v2), (3, .int v3), (4, .int v4)]) C dX0_spansMeet_62 5 rfl rfl (by decide) rfl ?_
    refine g_goto (tgt := 6) C dX0_spansMeet_65 (by decide) ?_
    refine g_sub [1, 2, 3, 4, 5, 0] rfl ?_
    exact q6 _ _ _ _ _ _ hf
  have j6 : ∀ (k68 : Int32 → Mem → Option (Bool × Mem)), (∀ (v4 : Int32) (s : Mem), k68 v4 s = some (r, s') → G x (QB x w r s') 7 w 68 [(0, .ref (ad w 1)), (4, .int v4)] [] s) → ∀ (n : Nat), ∀ (v1 : Int32) (v2 : Int32) (v3 : Int32) (v4 : Int32) (v5 : Int32) (s : Mem), f_X0_spansMeet_L6 N k68 n v1 v2 v3 v4 v5 s = some (r, s') → G x (QB x w r s') 7 w 6 [(0, .ref (ad w 1)), (1, .int v1), (2, .int v2), (3, .int v3), (4, .int v4), (5, .int v5)] [] s := by
    intro k68 q68 n
    induction n with
    | zero => intro v1 v2 v3 v4 v5 s hf; cases hf
    | succ n ih =>
      intro v1 v2 v3 v4 v5 s hf
      unfold f_X0_spansMeet_L6 at hf
      refine g_iload C dX0_spansMeet_6 5 rfl ?_
      refine g_aload_n C dX0_spansMeet_8 rfl 0 rfl ?_
      refine g_get C (R := RX0) (T := TX0) (N := 8) (k := 1) (v := .ref (ad w 4)) kd_1 (by decide) rfl (in_1 hS) hinX0 (by decide) fl_X0_20 rfl rfl dX0_spansMeet_9 ?_
      refine g_get C (R := RX5) (T := TX5) (N := 4) (k := 3) (v := .int (rI s 4 3)) kd_4 (by decide) rfl (in_4 hS) hinX5 (by decide) fl_X0_71 rfl rfl dX0_spansMeet_12 ?_
      refine g_icmp_ge (tgt := 68) C dX0_spansMeet_15 (by decide) hf (fun hf => ?_) (fun hf => ?_)
      · refine g_sub [0, 4] rfl ?_
        exact q68 _ _ hf
      · refine g_aload_n C dX0_spansMeet_18 rfl 0 rfl ?_
        refine g_iload C dX0_spansMeet_19 5 rfl ?_
        refine g_iload_n C dX0_spansMeet_21 rfl 1 rfl ?_
        refine g_callVB C (R := RX0) (T := TX0) (N := 8) [.int v5, .int v1] (fun _ _ h => c_X0_isOf (kl x) N w hS _ _ h) (g_cwV C hR ml_X0_74 im_X0_isOf sl_X0_isOf ini_X0 cd_X0_isOf hd_X0_isOf (by decide)) kd_1 (by decide) rfl (in_1 hS) rfl _ rfl (Nat.le_of_ble_eq_true rfl) dX0_spansMeet_22 hf (fun r1 s1 hf => ?_)
        refine g_ifneB (tgt := 31) C dX0_spansMeet_25 (by decide) hf (fun hf => ?_) (fun hf => ?_)
        · refine g_aload_n C dX0_spansMeet_31 rfl 0 rfl ?_
          refine g_iload C dX0_spansMeet_32 5 rfl ?_
          refine g_iload_n C dX0_spansMeet_34 rfl 1 rfl ?_
          refine g_callVI C (R := RX0) (T := TX0) (N := 8) [.int v5, .int v1] (fun _ _ h => c_X0_placeByMade (kl x) N w hS _ _ h) (g_cwV C hR ml_X0_99 im_X0_placeByMade sl_X0_placeByMade ini_X0 cd_X0_placeByMade hd_X0_placeByMade (by decide)) kd_1 (by decide) rfl (in_1 hS) rfl _ rfl (Nat.le_of_ble_eq_true rfl) dX0_spansMeet_35 hf (fun r2 s2 hf => ?_)
          refine g_istore (lv' := [(6, .int r2), (0, .ref (ad w 1)), (1, .int v1), (2, .int v2), (3, .int v3), (4, .int v4), (5, .int v5)]) C dX0_spansMeet_38 (by decide) rfl ?_
          refine g_iload C dX0_spansMeet_40 0 rfl ?_
          refine g_iload_n C dX0_spansMeet_42 rfl 3 rfl ?_
          refine g_icmp_lt (tgt := 62) C dX0_spansMeet_43 (by decide) hf (fun hf => ?_) (fun hf => ?_)
          · refine g_sub [1, 2, 3, 4, 5, 6] rfl ?_
            exact j62 (f_X0_spansMeet_L6 N k68 n) k68 ih q68 _ _ _ _ _ _ hf
          · refine g_iload C dX0_spansMeet_46 0 rfl ?_
            refine g_iload_n C dX0_spansMeet_48 rfl 4 rfl ?_
            refine g_icmp_ge (tgt := 62) C dX0_spansMeet_49 (by decide) hf (fun hf => ?_) (fun hf => ?_)
            · refine g_sub [1, 2, 3, 4, 5, 6] rfl ?_
              exact j62 (f_X0_spansMeet_L6 N k68 n) k68 ih q68 _ _ _ _ _ _ hf
            · refine g_iload C dX0_spansMeet_52 5 rfl ?_
              refine g_iload C dX0_spansMeet_54 6 rfl ?_
              refine g_callNI C [.int v5] (fun _ _ h => c_X8_bit (kl x) N w _ h) (g_cwN C hR (List.mem_of_getElem? (i := 0) rfl) sm_X8_bit ini_X8 cd_X8_bit hd_X8_bit (by decide)) rfl _ rfl (Nat.le_of_ble_eq_true rfl) dX0_spansMeet_56 hf (fun r3 s3 hf => ?_)
              refine g_ior C dX0_spansMeet_59 ?_
              refine g_istore (lv' := [(4, .int (v4 ||| r3)), (6, .int r2), (0, .ref (ad w 1)), (1, .int v1), (2, .int v2), (3, .int v3), (5, .int v5)]) C dX0_spansMeet_60 (by decide) rfl ?_
              refine g_sub [2, 3, 4, 5, 0, 6] rfl ?_
              exact j62 (f_X0_spansMeet_L6 N k68 n) k68 ih q68 _ _ _ _ _ _ hf
        · refine g_goto (tgt := 62) C dX0_spansMeet_28 (by decide) ?_
          exact j62 (f_X0_spansMeet_L6 N k68 n) k68 ih q68 _ _ _ _ _ _ hf
  refine g_lv (lv' := [(0, .ref (ad w 1)), (1, .int a1), (2, .int a2), (3, .int a3)]) rfl ?_
  unfold f_X0_spansMeet at hf
  refine g_iconst C (v := 0) dX0_spansMeet_0 rfl ?_
  refine g_istore (lv' := [(4, .int 0), (0, .ref (ad w 1)), (1, .int a1), (2, .int a2), (3, .int a3)]) C dX0_spansMeet_1 (by decide) rfl ?_
  refine g_iconst C (v := 0) dX0_spansMeet_3 rfl ?_
  refine g_istore (lv' := [(5, .int 0), (4, .int 0), (0, .ref (ad w 1)), (1, .int a1), (2, .int a2), (3, .int a3)]) C dX0_spansMeet_4 (by decide) rfl ?_
  refine g_sub [2, 3, 4, 5, 1, 0] rfl ?_
  exact j6 (f_X0_spansMeet_j68 N) j68 N _ _ _ _ _ _ hf

set_option maxHeartbeats 4000000 in
set_option maxRecDepth 100000 in
theorem c_X0_restsOn (l : Launch) (N : Nat) (w : WX) (hS : SS w = Sc) (a1 : Int32) {s s' : Mem} {r : Int32} (hf : f_X0_restsOn N a1 s = some (r, s')) : CI l yX0_restsOn (wz yX0_restsOn cX0_restsOn 3 (some .int)) ({ frames := 1, cells := 0, slots := 0, locals := 23 } : Room) [.ref (ad w 1), .int a1] w s r s' := by
  refine met_startI (cc := cX0_restsOn) (ret := (some .int)) (own := RX0) (maxL := 3) (by decide) rfl (Nat.le_of_ble_eq_true rfl) (fun x C hR hl => ?_)
  refine g_lv (lv' := [(0, .ref (ad w 1)), (1, .int a1)]) rfl ?_
  unfold f_X0_restsOn at hf
  refine g_aload_n C dX0_restsOn_0 rfl 0 rfl ?_
  refine g_get C (R := RX0) (T := TX0) (N := 8) (k := 1) (v := .ref (ad w 4)) kd_1 (by decide) rfl (in_1 hS) hinX0 (by decide) fl_X0_20 rfl rfl dX0_restsOn_1 ?_
  refine g_iload_n C dX0_restsOn_4 rfl 1 rfl ?_
  refine g_iconst C (v := 5) dX0_restsOn_5 rfl ?_
  refine g_callVI C (R := RX5) (T := TX5) (N := 4) [.int a1, .int 5] (fun _ _ h => c_X5_get (kl x) N w (ok_4 hS) _ _ h) (g_cwV C hR ml_X0_54 im_X5_get sl_X5_get ini_X5 cd_X5_get hd_X5_get (by decide)) kd_4 (by decide) rfl (in_4 hS) rfl _ rfl (Nat.le_of_ble_eq_true rfl) dX0_restsOn_6 hf (fun r1 s1 hf => ?_)
  refine g_istore_n (lv' := [(2, .int r1), (0, .ref (ad w 1)), (1, .int a1)]) C dX0_restsOn_9 rfl (by decide) rfl ?_
  refine g_aload_n C dX0_restsOn_10 rfl 1 rfl ?_
  refine g_get C (R := RX0) (T := TX0) (N := 8) (k := 1) (v := .ref (ad w 4)) kd_1 (by decide) rfl (in_1 hS) hinX0 (by decide) fl_X0_20 rfl rfl dX0_restsOn_11 ?_
  refine g_iload_n C dX0_restsOn_14 rfl 2 rfl ?_
  refine g_bipush C (v := 6) dX0_restsOn_15 (by decide) ?_
  refine g_callVI C (R := RX5) (T := TX5) (N := 4) [.int a1, .int 6] (fun _ _ h => c_X5_get (kl x) N w (ok_4 hS) _ _ h) (g_cwV C hR ml_X0_54 im_X5_get sl_X5_get ini_X5 cd_X5_get hd_X5_get (by decide)) kd_4 (by decide) rfl (in_4 hS) rfl _ rfl (Nat.le_of_ble_eq_true rfl) dX0_restsOn_17 hf (fun r2 s2 hf => ?_)
  refine g_aload_n C dX0_restsOn_20 rfl 1 rfl ?_
  refine g_get C (R := RX0) (T := TX0) (N := 8) (k := 1) (v := .ref (ad w 4)) kd_1 (by decide) rfl (in_1 hS) hinX0 (by decide) fl_X0_20 rfl rfl dX0_restsOn_21 ?_
  refine g_iload_n C dX0_restsOn_24 rfl 0 rfl ?_
  refine g_callVB C (R := RX5) (T := TX5) (N := 4) [.int r1] (fun _ _ h => c_X5_has (kl x) N w (ok_4 hS) _ h) (g_cwV C hR ml_X0_58 im_X5_has sl_X5_has ini_X5 cd_X5_has hd_X5_has (by decide)) kd_4 (by decide) rfl (in_4 hS) rfl _ rfl (Nat.le_of_ble_eq_true rfl) dX0_restsOn_25 hf (fun r3 s3 hf => ?_)
  refine g_ifeqB (tgt := 38) C dX0_restsOn_28 (by decide) hf (fun hf => ?_) (fun hf => ?_)
  · refine g_iconst C (v := 0) dX0_restsOn_38 rfl ?_
    refine g_ior C dX0_restsOn_39 ?_
    exact g_iret C dX0_restsOn_40 hf
  · refine g_iload_n C dX0_restsOn_31 rfl 0 rfl ?_
    refine g_callNI C [.int r1] (fun _ _ h => c_X8_bit (kl x) N w _ h) (g_cwN C hR (List.mem_of_getElem? (i := 0) rfl) sm_X8_bit ini_X8 cd_X8_bit hd_X8_bit (by decide)) rfl _ rfl (Nat.le_of_ble_eq_true rfl) dX0_restsOn_32 hf (fun r4 s4 hf => ?_)
    refine g_goto (tgt := 39) C dX0_restsOn_35 (by decide) ?_
    refine g_ior C dX0_restsOn_39 ?_
    exact g_iret C dX0_restsOn_40 hf

set_option maxHeartbeats 4000000 in
set_option maxRecDepth 100000 in
theorem c_X0_restingOnNone (l : Launch) (N : Nat) (w : WX) (hS : SS w = Sc) {s s' : Mem} {r : Int32} (hf : f_X0_restingOnNone N s = some (r, s')) : CI l yX0_restingOnNone (wz yX0_restingOnNone cX0_restingOnNone 3 (some .int)) ({ frames := 2, cells := 0, slots := 0, locals := 45 } : Room) [.ref (ad w 1)] w s r s' := by
  refine met_startI (cc := cX0_restingOnNone) (ret := (some .int)) (own := RX0) (maxL := 3) (by decide) rfl (Nat.le_of_ble_eq_true rfl) (fun x C hR hl => ?_)
  have j30 : ∀ (k4 : Int32 → Int32 → Mem → Option (Int32 × Mem)), (∀ (v1 : Int32) (v2 : Int32) (s : Mem), k4 v1 v2 s = some (r, s') → G x (QI x w r s') 3 w 4 [(0, .ref (ad w 1)), (1, .int v1), (2, .int v2)] [] s) → ∀ (v1 : Int32) (v2 : Int32) (s : Mem), f_X0_restingOnNone_j30 N k4 v1 v2 s = some (r, s') → G x (QI x w r s') 3 w 30 [(0, .ref (ad w 1)), (1, .int v1), (2, .int v2)] [] s := by
    intro k4 q4 v1 v2 s hf
    unfold f_X0_restingOnNone_j30 at hf
    refine g_iinc (v' := v2 + 1) (lv' := [(2, .int (v2 + 1)), (0, .ref (ad w 1)), (1, .int v1)]) C dX0_restingOnNone_30 2 rfl rfl (by decide) rfl ?_
    refine g_goto (tgt := 4) C dX0_restingOnNone_33 (by decide) ?_
    refine g_sub [1, 2, 0] rfl ?_
    exact q4 _ _ _ hf
  have j4 : ∀ (n : Nat), ∀ (v1 : Int32) (v2 : Int32) (s : Mem), f_X0_restingOnNone_L4 N n v1 v2 s = some (r, s') → G x (QI x w r s') 3 w 4 [(0, .ref (ad w 1)), (1, .int v1), (2, .int v2)] [] s := by
    intro n
    induction n with
    | zero => intro v1 v2 s hf; cases hf
    | succ n ih =>
      intro v1 v2 s hf
      unfold f_X0_restingOnNone_L4 at hf
      refine g_iload_n C dX0_restingOnNone_4 rfl 2 rfl ?_
      refine g_aload_n C dX0_restingOnNone_5 rfl 0 rfl ?_
      refine g_get C (R := RX0) (T := TX0) (N := 8) (k := 1) (v := .ref (ad w 4)) kd_1 (by decide) rfl (in_1 hS) hinX0 (by decide) fl_X0_20 rfl rfl dX0_restingOnNone_6 ?_
      refine g_get C (R := RX5) (T := TX5) (N := 4) (k := 3) (v := .int (rI s 4 3)) kd_4 (by decide) rfl (in_4 hS) hinX5 (by decide) fl_X0_71 rfl rfl dX0_restingOnNone_9 ?_
      refine g_icmp_ge (tgt := 36) C dX0_restingOnNone_12 (by decide) hf (fun hf => ?_) (fun hf => ?_)
      · refine g_iload_n C dX0_restingOnNone_36 rfl 1 rfl ?_
        exact g_iret C dX0_restingOnNone_37 hf
      · refine g_aload_n C dX0_restingOnNone_15 rfl 0 rfl ?_
        refine g_iload_n C dX0_restingOnNone_16 rfl 2 rfl ?_
        refine g_callVI C (R := RX0) (T := TX0) (N := 8) [.int v2] (fun _ _ h => c_X0_restsOn (kl x) N w hS _ h) (g_cwV C hR ml_X0_105 im_X0_restsOn sl_X0_restsOn ini_X0 cd_X0_restsOn hd_X0_restsOn (by decide)) kd_1 (by decide) rfl (in_1 hS) rfl _ rfl (Nat.le_of_ble_eq_true rfl) dX0_restingOnNone_17 hf (fun r1 s1 hf => ?_)
        refine g_if_ne (tgt := 30) C dX0_restingOnNone_20 (by decide) hf (fun hf => ?_) (fun hf => ?_)
        · exact j30 (f_X0_restingOnNone_L4 N n) ih _ _ _ hf
        · refine g_iload_n C dX0_restingOnNone_23 rfl 1 rfl ?_
          refine g_iload_n C dX0_restingOnNone_24 rfl 2 rfl ?_
          refine g_callNI C [.int v2] (fun _ _ h => c_X8_bit (kl x) N w _ h) (g_cwN C hR (List.mem_of_getElem? (i := 0) rfl) sm_X8_bit ini_X8 cd_X8_bit hd_X8_bit (by decide)) rfl _ rfl (Nat.le_of_ble_eq_true rfl) dX0_restingOnNone_25 hf (fun r2 s2 hf => ?_)
          refine g_ior C dX0_restingOnNone_28 ?_
          refine g_istore_n (lv' := [(1, .int (v1 ||| r2)), (0, .ref (ad w 1)), (2, .int v2)]) C dX0_restingOnNone_29 rfl (by decide) rfl ?_
          refine g_sub [1, 0, 2] rfl ?_
          exact j30 (f_X0_restingOnNone_L4 N n) ih _ _ _ hf
  refine g_lv (lv' := [(0, .ref (ad w 1))]) rfl ?_
  unfold f_X0_restingOnNone at hf
  refine g_iconst C (v := 0) dX0_restingOnNone_0 rfl ?_
  refine g_istore_n (lv' := [(1, .int 0), (0, .ref (ad w 1))]) C dX0_restingOnNone_1 rfl (by decide) rfl ?_
  refine g_iconst C (v := 0) dX0_restingOnNone_2 rfl ?_
  refine g_istore_n (lv' := [(2, .int 0), (1, .int 0), (0, .ref (ad w 1))]) C dX0_restingOnNone_3 rfl (by decide) rfl ?_
  refine g_sub [2, 1, 0] rfl ?_
  exact j4 N _ _ _ hf

set_option maxHeartbeats 4000000 in
set_option maxRecDepth 100000 in
theorem c_X0_standing (l : Launch) (N : Nat) (w : WX) (hS : SS w = Sc) {s s' : Mem} {r : Int32} (hf : f_X0_standing N s = some (r, s')) : CI l yX0_standing (wz yX0_standing cX0_standing 6 (some .int)) ({ frames := 2, cells := 0, slots := 0, locals := 45 } : Room) [.ref (ad w 1)] w s r s' := by
  refine met_startI (cc := cX0_standing) (ret := (some .int)) (own := RX0) (maxL := 6) (by decide) rfl (Nat.le_of_ble_eq_true rfl) (fun x C hR hl => ?_)
  have j61 : ∀ (k4 : Int32 → Int32 → Mem → Option (Int32 × Mem)), (∀ (v1 : Int32) (v2 : Int32) (s : Mem), k4 v1 v2 s = some (r, s') → G x (QI x w r s') 6 w 4 [(0, .ref (ad w 1)), (1, .int v1), (2, .int v2)] [] s) → ∀ (v1 : Int32) (v2 : Int32) (v3 : Int32) (s : Mem), f_X0_standing_j61 N k4 v1 v2 v3 s = some (r, s') → G x (QI x w r s') 6 w 61 [(0, .ref (ad w 1)), (1, .int v1), (2, .int v2), (3, .int v3)] [] s := by
    intro k4 q4 v1 v2 v3 s hf
    unfold f_X0_standing_j61 at hf
    refine g_iload_n C dX0_standing_61 rfl 1 rfl ?_
    refine g_iload_n C dX0_standing_62 rfl 3 rfl ?_
    refine g_icmp_ne (tgt := 69) C dX0_standing_63 (by decide) hf (fun hf => ?_) (fun hf => ?_)
    · refine g_iinc (v' := v2 + 1) (lv' := [(2, .int (v2 + 1)), (0, .ref (ad w 1)), (1, .int v1), (3, .int v3)]) C dX0_standing_69 2 rfl rfl (by decide) rfl ?_
      refine g_goto (tgt := 4) C dX0_standing_72 (by decide) ?_
      refine g_sub [1, 2, 0] rfl ?_
      exact q4 _ _ _ hf
    · refine g_goto (tgt := 75) C dX0_standing_66 (by decide) ?_
      refine g_iload_n C dX0_standing_75 rfl 1 rfl ?_
      exact g_iret C dX0_standing_76 hf
  have j55 : ∀ (k15 : Int32 → Int32 → Int32 → Int32 → Mem → Option (Int32 × Mem)) (k61 : Int32 → Int32 → Int32 → Mem → Option (Int32 × Mem)), (∀ (v1 : Int32) (v2 : Int32) (v3 : Int32) (v4 : Int32) (s : Mem), k15 v1 v2 v3 v4 s = some (r, s') → G x (QI x w r s') 6 w 15 [(0, .ref (ad w 1)), (1, .int v1), (2, .int v2), (3, .int v3), (4, .int v4)] [] s) → (∀ (v1 : Int32) (v2 : Int32) (v3 : Int32) (s : Mem), k61 v1 v2 v3 s = some (r, s') → G x (QI x w r s') 6 w 61 [(0, .ref (ad w 1)), (1, .int v1), (2, .int v2), (3, .int v3)] [] s) → ∀ (v1 : Int32) (v2 : Int32) (v3 : Int32) (v4 : Int32) (s : Mem), f_X0_standing_j55 N k15 k61 v1 v2 v3 v4 s = some (r, s') → G x (QI x w r s') 6 w 55 [(0, .ref (ad w 1)), (1, .int v1), (2, .int v2), (3, .int v3), (4, .int v4)] [] s := by
    intro k15 k61 q15 q61 v1 v2 v3 v4 s hf
    unfold f_X0_standing_j55 at hf
    refine g_iinc (v' := v4 + 1) (lv' := [(4, .int (v4 + 1)), (0, .ref (ad w 1)), (1, .int v1), (2, .int v2), (3, .int v3)]) C dX0_standing_55 4 rfl rfl (by decide) rfl ?_
    refine g_goto (tgt := 15) C dX0_standing_58 (by decide) ?_
    refine g_sub [1, 2, 3, 4, 0] rfl ?_
    exact q15 _ _ _ _ _ hf
  have j47 : ∀ (k15 : Int32 → Int32 → Int32 → Int32 → Mem → Option (Int32 × Mem)) (k61 : Int32 → Int32 → Int32 → Mem → Option (Int32 × Mem)), (∀ (v1 : Int32) (v2 : Int32) (v3 : Int32) (v4 : Int32) (s : Mem), k15 v1 v2 v3 v4 s = some (r, s') → G x (QI x w r s') 6 w 15 [(0, .ref (ad w 1)), (1, .int v1), (2, .int v2), (3, .int v3), (4, .int v4)] [] s) → (∀ (v1 : Int32) (v2 : Int32) (v3 : Int32) (s : Mem), k61 v1 v2 v3 s = some (r, s') → G x (QI x w r s') 6 w 61 [(0, .ref (ad w 1)), (1, .int v1), (2, .int v2), (3, .int v3)] [] s) → ∀ (v1 : Int32) (v2 : Int32) (v3 : Int32) (v4 : Int32) (s : Mem), f_X0_standing_j47 N k15 k61 v1 v2 v3 v4 s = some (r, s') → G x (QI x w r s') 6 w 47 [(0, .ref (ad w 1)), (1, .int v1), (2, .int v2), (3, .int v3), (4, .int v4)] [] s := by
    intro k15 k61 q15 q61 v1 v2 v3 v4 s hf
    unfold f_X0_standing_j47 at hf
    refine g_iload_n C dX0_standing_47 rfl 1 rfl ?_
    refine g_iload C dX0_standing_48 4 rfl ?_
    refine g_callNI C [.int v4] (fun _ _ h => c_X8_bit (kl x) N w _ h) (g_cwN C hR (List.mem_of_getElem? (i := 0) rfl) sm_X8_bit ini_X8 cd_X8_bit hd_X8_bit (by decide)) rfl _ rfl (Nat.le_of_ble_eq_true rfl) dX0_standing_50 hf (fun r1 s1 hf => ?_)
    refine g_ior C dX0_standing_53 ?_
    refine g_istore_n (lv' := [(1, .int (v1 ||| r1)), (0, .ref (ad w 1)), (2, .int v2), (3, .int v3), (4, .int v4)]) C dX0_standing_54 rfl (by decide) rfl ?_
    refine g_sub [1, 0, 2, 3, 4] rfl ?_
    exact j55 k15 k61 q15 q61 _ _ _ _ _ hf
  have j15 : ∀ (k61 : Int32 → Int32 → Int32 → Mem → Option (Int32 × Mem)), (∀ (v1 : Int32) (v2 : Int32) (v3 : Int32) (s : Mem), k61 v1 v2 v3 s = some (r, s') → G x (QI x w r s') 6 w 61 [(0, .ref (ad w 1)), (1, .int v1), (2, .int v2), (3, .int v3)] [] s) → ∀ (n : Nat), ∀ (v1 : Int32) (v2 : Int32) (v3 : Int32) (v4 : Int32) (s : Mem), f_X0_standing_L15 N k61 n v1 v2 v3 v4 s = some (r, s') → G x (QI x w r s') 6 w 15 [(0, .ref (ad w 1)), (1, .int v1), (2, .int v2), (3, .int v3), (4, .int v4)] [] s := by
    intro k61 q61 n
    induction n with
    | zero => intro v1 v2 v3 v4 s hf; cases hf
    | succ n ih =>
      intro v1 v2 v3 v4 s hf
      unfold f_X0_standing_L15 at hf
      refine g_iload C dX0_standing_15 4 rfl ?_
      refine g_aload_n C dX0_standing_17 rfl 0 rfl ?_
      refine g_get C (R := RX0) (T := TX0) (N := 8) (k := 1) (v := .ref (ad w 4)) kd_1 (by decide) rfl (in_1 hS) hinX0 (by decide) fl_X0_20 rfl rfl dX0_standing_18 ?_
      refine g_get C (R := RX5) (T := TX5) (N := 4) (k := 3) (v := .int (rI s 4 3)) kd_4 (by decide) rfl (in_4 hS) hinX5 (by decide) fl_X0_71 rfl rfl dX0_standing_21 ?_
      refine g_icmp_ge (tgt := 61) C dX0_standing_24 (by decide) hf (fun hf => ?_) (fun hf => ?_)
      · refine g_sub [0, 1, 2, 3] rfl ?_
        exact q61 _ _ _ _ hf
      · refine g_aload_n C dX0_standing_27 rfl 0 rfl ?_
        refine g_iload C dX0_standing_28 4 rfl ?_
        refine g_callVI C (R := RX0) (T := TX0) (N := 8) [.int v4] (fun _ _ h => c_X0_restsOn (kl x) N w hS _ h) (g_cwV C hR ml_X0_105 im_X0_restsOn sl_X0_restsOn ini_X0 cd_X0_restsOn hd_X0_restsOn (by decide)) kd_1 (by decide) rfl (in_1 hS) rfl _ rfl (Nat.le_of_ble_eq_true rfl) dX0_standing_30 hf (fun r1 s1 hf => ?_)
        refine g_istore (lv' := [(5, .int r1), (0, .ref (ad w 1)), (1, .int v1), (2, .int v2), (3, .int v3), (4, .int v4)]) C dX0_standing_33 (by decide) rfl ?_
        refine g_iload C dX0_standing_35 0 rfl ?_
        refine g_if_eq (tgt := 47) C dX0_standing_37 (by decide) hf (fun hf => ?_) (fun hf => ?_)
        · refine g_sub [1, 2, 3, 4, 5] rfl ?_
          exact j47 (f_X0_standing_L15 N k61 n) k61 ih q61 _ _ _ _ _ hf
        · refine g_iload C dX0_standing_40 0 rfl ?_
          refine g_iload_n C dX0_standing_42 rfl 2 rfl ?_
          refine g_iand C dX0_standing_43 ?_
          refine g_if_eq (tgt := 55) C dX0_standing_44 (by decide) hf (fun hf => ?_) (fun hf => ?_)
          · refine g_sub [1, 2, 3, 4, 5] rfl ?_
            exact j55 (f_X0_standing_L15 N k61 n) k61 ih q61 _ _ _ _ _ hf
          · refine g_sub [1, 2, 3, 4, 5] rfl ?_
            exact j47 (f_X0_standing_L15 N k61 n) k61 ih q61 _ _ _ _ _ hf
  have j4 : ∀ (n : Nat), ∀ (v1 : Int32) (v2 : Int32) (s : Mem), f_X0_standing_L4 N n v1 v2 s = some (r, s') → G x (QI x w r s') 6 w 4 [(0, .ref (ad w 1)), (1, .int v1), (2, .int v2)] [] s := by
    intro n
    induction n with
    | zero => intro v1 v2 s hf; cases hf
    | succ n ih =>
      intro v1 v2 s hf
      unfold f_X0_standing_L4 at hf
      refine g_iload_n C dX0_standing_4 rfl 2 rfl ?_
      refine g_bipush C (v := 30) dX0_standing_5 (by decide) ?_
      refine g_icmp_gt (tgt := 75) C dX0_standing_7 (by decide) hf (fun hf => ?_) (fun hf => ?_)
      · refine g_iload_n C dX0_standing_75 rfl 1 rfl ?_
        exact g_iret C dX0_standing_76 hf
      · refine g_iload_n C dX0_standing_10 rfl 1 rfl ?_
        refine g_istore_n (lv' := [(3, .int v1), (0, .ref (ad w 1)), (1, .int v1), (2, .int v2)]) C dX0_standing_11 rfl (by decide) rfl ?_
        refine g_iconst C (v := 0) dX0_standing_12 rfl ?_
        refine g_istore (lv' := [(4, .int 0), (3, .int v1), (0, .ref (ad w 1)), (1, .int v1), (2, .int v2)]) C dX0_standing_13 (by decide) rfl ?_
        refine g_sub [2, 3, 4, 1, 0] rfl ?_
        exact j15 (f_X0_standing_j61 N (f_X0_standing_L4 N n)) (j61 (f_X0_standing_L4 N n) ih) N _ _ _ _ _ hf
  refine g_lv (lv' := [(0, .ref (ad w 1))]) rfl ?_
  unfold f_X0_standing at hf
  refine g_iconst C (v := 0) dX0_standing_0 rfl ?_
  refine g_istore_n (lv' := [(1, .int 0), (0, .ref (ad w 1))]) C dX0_standing_1 rfl (by decide) rfl ?_
  refine g_iconst C (v := 0) dX0_standing_2 rfl ?_
  refine g_istore_n (lv' := [(2, .int 0), (1, .int 0), (0, .ref (ad w 1))]) C dX0_standing_3 rfl (by decide) rfl ?_
  refine g_sub [2, 1, 0] rfl ?_
  exact j4 N _ _ _ hf

set_option maxHeartbeats 4000000 in
set_option maxRecDepth 100000 in
theorem c_X0_restsOver (l : Launch) (N : Nat) (w : WX) (hS : SS w = Sc) (a1 : Int32) {s s' : Mem} {r : Int32} (hf : f_X0_restsOver N a1 s = some (r, s')) : CI l yX0_restsOver (wz yX0_restsOver cX0_restsOver 6 (some .int)) ({ frames := 2, cells := 0, slots := 0, locals := 45 } : Room) [.ref (ad w 1), .int a1] w s r s' := by
  refine met_startI (cc := cX0_restsOver) (ret := (some .int)) (own := RX0) (maxL := 6) (by decide) rfl (Nat.le_of_ble_eq_true rfl) (fun x C hR hl => ?_)
  have j57 : ∀ (k8 : Int32 → Int32 → Mem → Option (Int32 × Mem)), (∀ (v2 : Int32) (v3 : Int32) (s : Mem), k8 v2 v3 s = some (r, s') → G x (QI x w r s') 6 w 8 [(0, .ref (ad w 1)), (2, .int v2), (3, .int v3)] [] s) → ∀ (v2 : Int32) (v3 : Int32) (v4 : Int32) (s : Mem), f_X0_restsOver_j57 N k8 v2 v3 v4 s = some (r, s') → G x (QI x w r s') 6 w 57 [(0, .ref (ad w 1)), (2, .int v2), (3, .int v3), (4, .int v4)] [] s := by
    intro k8 q8 v2 v3 v4 s hf
    unfold f_X0_restsOver_j57 at hf
    refine g_iload_n C dX0_restsOver_57 rfl 1 rfl ?_
    refine g_iload C dX0_restsOver_58 3 rfl ?_
    refine g_icmp_ne (tgt := 66) C dX0_restsOver_60 (by decide) hf (fun hf => ?_) (fun hf => ?_)
    · refine g_iinc (v' := v3 + 1) (lv' := [(3, .int (v3 + 1)), (0, .ref (ad w 1)), (2, .int v2), (4, .int v4)]) C dX0_restsOver_66 2 rfl rfl (by decide) rfl ?_
      refine g_goto (tgt := 8) C dX0_restsOver_69 (by decide) ?_
      refine g_sub [1, 2, 0] rfl ?_
      exact q8 _ _ _ hf
    · refine g_goto (tgt := 72) C dX0_restsOver_63 (by decide) ?_
      refine g_iload_n C dX0_restsOver_72 rfl 1 rfl ?_
      exact g_iret C dX0_restsOver_73 hf
  have j51 : ∀ (k20 : Int32 → Int32 → Int32 → Int32 → Mem → Option (Int32 × Mem)) (k57 : Int32 → Int32 → Int32 → Mem → Option (Int32 × Mem)), (∀ (v2 : Int32) (v3 : Int32) (v4 : Int32) (v5 : Int32) (s : Mem), k20 v2 v3 v4 v5 s = some (r, s') → G x (QI x w r s') 6 w 20 [(0, .ref (ad w 1)), (2, .int v2), (3, .int v3), (4, .int v4), (5, .int v5)] [] s) → (∀ (v2 : Int32) (v3 : Int32) (v4 : Int32) (s : Mem), k57 v2 v3 v4 s = some (r, s') → G x (QI x w r s') 6 w 57 [(0, .ref (ad w 1)), (2, .int v2), (3, .int v3), (4, .int v4)] [] s) → ∀ (v2 : Int32) (v3 : Int32) (v4 : Int32) (v5 : Int32) (s : Mem), f_X0_restsOver_j51 N k20 k57 v2 v3 v4 v5 s = some (r, s') → G x (QI x w r s') 6 w 51 [(0, .ref (ad w 1)), (2, .int v2), (3, .int v3), (4, .int v4), (5, .int v5)] [] s := by
    intro k20 k57 q20 q57 v2 v3 v4 v5 s hf
    unfold f_X0_restsOver_j51 at hf
    refine g_iinc (v' := v5 + 1) (lv' := [(5, .int (v5 + 1)), (0, .ref (ad w 1)), (2, .int v2), (3, .int v3), (4, .int v4)]) C dX0_restsOver_51 4 rfl rfl (by decide) rfl ?_
    refine g_goto (tgt := 20) C dX0_restsOver_54 (by decide) ?_
    refine g_sub [1, 2, 3, 4, 0] rfl ?_
    exact q20 _ _ _ _ _ hf
  have j20 : ∀ (k57 : Int32 → Int32 → Int32 → Mem → Option (Int32 × Mem)), (∀ (v2 : Int32) (v3 : Int32) (v4 : Int32) (s : Mem), k57 v2 v3 v4 s = some (r, s') → G x (QI x w r s') 6 w 57 [(0, .ref (ad w 1)), (2, .int v2), (3, .int v3), (4, .int v4)] [] s) → ∀ (n : Nat), ∀ (v2 : Int32) (v3 : Int32) (v4 : Int32) (v5 : Int32) (s : Mem), f_X0_restsOver_L20 N k57 n v2 v3 v4 v5 s = some (r, s') → G x (QI x w r s') 6 w 20 [(0, .ref (ad w 1)), (2, .int v2), (3, .int v3), (4, .int v4), (5, .int v5)] [] s := by
    intro k57 q57 n
    induction n with
    | zero => intro v2 v3 v4 v5 s hf; cases hf
    | succ n ih =>
      intro v2 v3 v4 v5 s hf
      unfold f_X0_restsOver_L20 at hf
      refine g_iload C dX0_restsOver_20 4 rfl ?_
      refine g_aload_n C dX0_restsOver_22 rfl 0 rfl ?_
      refine g_get C (R := RX0) (T := TX0) (N := 8) (k := 1) (v := .ref (ad w 4)) kd_1 (by decide) rfl (in_1 hS) hinX0 (by decide) fl_X0_20 rfl rfl dX0_restsOver_23 ?_
      refine g_get C (R := RX5) (T := TX5) (N := 4) (k := 3) (v := .int (rI s 4 3)) kd_4 (by decide) rfl (in_4 hS) hinX5 (by decide) fl_X0_71 rfl rfl dX0_restsOver_26 ?_
      refine g_icmp_ge (tgt := 57) C dX0_restsOver_29 (by decide) hf (fun hf => ?_) (fun hf => ?_)
      · refine g_sub [0, 1, 2, 3] rfl ?_
        exact q57 _ _ _ _ hf
      · refine g_iload_n C dX0_restsOver_32 rfl 1 rfl ?_
        refine g_iload C dX0_restsOver_33 4 rfl ?_
        refine g_callNI C [.int v5] (fun _ _ h => c_X8_bit (kl x) N w _ h) (g_cwN C hR (List.mem_of_getElem? (i := 0) rfl) sm_X8_bit ini_X8 cd_X8_bit hd_X8_bit (by decide)) rfl _ rfl (Nat.le_of_ble_eq_true rfl) dX0_restsOver_35 hf (fun r1 s1 hf => ?_)
        refine g_iand C dX0_restsOver_38 ?_
        refine g_if_eq (tgt := 51) C dX0_restsOver_39 (by decide) hf (fun hf => ?_) (fun hf => ?_)
        · exact j51 (f_X0_restsOver_L20 N k57 n) k57 ih q57 _ _ _ _ _ hf
        · refine g_iload_n C dX0_restsOver_42 rfl 1 rfl ?_
          refine g_aload_n C dX0_restsOver_43 rfl 0 rfl ?_
          refine g_iload C dX0_restsOver_44 4 rfl ?_
          refine g_callVI C (R := RX0) (T := TX0) (N := 8) [.int v5] (fun _ _ h => c_X0_restsOn (kl x) N w hS _ h) (g_cwV C hR ml_X0_105 im_X0_restsOn sl_X0_restsOn ini_X0 cd_X0_restsOn hd_X0_restsOn (by decide)) kd_1 (by decide) rfl (in_1 hS) rfl _ rfl (Nat.le_of_ble_eq_true rfl) dX0_restsOver_46 hf (fun r2 s2 hf => ?_)
          refine g_ior C dX0_restsOver_49 ?_
          refine g_istore_n (lv' := [(2, .int (v2 ||| r2)), (0, .ref (ad w 1)), (3, .int v3), (4, .int v4), (5, .int v5)]) C dX0_restsOver_50 rfl (by decide) rfl ?_
          refine g_sub [1, 0, 2, 3, 4] rfl ?_
          exact j51 (f_X0_restsOver_L20 N k57 n) k57 ih q57 _ _ _ _ _ hf
  have j8 : ∀ (n : Nat), ∀ (v2 : Int32) (v3 : Int32) (s : Mem), f_X0_restsOver_L8 N n v2 v3 s = some (r, s') → G x (QI x w r s') 6 w 8 [(0, .ref (ad w 1)), (2, .int v2), (3, .int v3)] [] s := by
    intro n
    induction n with
    | zero => intro v2 v3 s hf; cases hf
    | succ n ih =>
      intro v2 v3 s hf
      unfold f_X0_restsOver_L8 at hf
      refine g_iload_n C dX0_restsOver_8 rfl 2 rfl ?_
      refine g_bipush C (v := 30) dX0_restsOver_9 (by decide) ?_
      refine g_icmp_ge (tgt := 72) C dX0_restsOver_11 (by decide) hf (fun hf => ?_) (fun hf => ?_)
      · refine g_iload_n C dX0_restsOver_72 rfl 1 rfl ?_
        exact g_iret C dX0_restsOver_73 hf
      · refine g_iload_n C dX0_restsOver_14 rfl 1 rfl ?_
        refine g_istore (lv' := [(4, .int v2), (0, .ref (ad w 1)), (2, .int v2), (3, .int v3)]) C dX0_restsOver_15 (by decide) rfl ?_
        refine g_iconst C (v := 0) dX0_restsOver_17 rfl ?_
        refine g_istore (lv' := [(5, .int 0), (4, .int v2), (0, .ref (ad w 1)), (2, .int v2), (3, .int v3)]) C dX0_restsOver_18 (by decide) rfl ?_
        refine g_sub [2, 3, 4, 1, 0] rfl ?_
        exact j20 (f_X0_restsOver_j57 N (f_X0_restsOver_L8 N n)) (j57 (f_X0_restsOver_L8 N n) ih) N _ _ _ _ _ hf
  refine g_lv (lv' := [(0, .ref (ad w 1)), (1, .int a1)]) rfl ?_
  unfold f_X0_restsOver at hf
  refine g_aload_n C dX0_restsOver_0 rfl 0 rfl ?_
  refine g_iload_n C dX0_restsOver_1 rfl 1 rfl ?_
  refine g_callVI C (R := RX0) (T := TX0) (N := 8) [.int a1] (fun _ _ h => c_X0_restsOn (kl x) N w hS _ h) (g_cwV C hR ml_X0_105 im_X0_restsOn sl_X0_restsOn ini_X0 cd_X0_restsOn hd_X0_restsOn (by decide)) kd_1 (by decide) rfl (in_1 hS) rfl _ rfl (Nat.le_of_ble_eq_true rfl) dX0_restsOver_2 hf (fun r1 s1 hf => ?_)
  refine g_istore_n (lv' := [(2, .int r1), (0, .ref (ad w 1)), (1, .int a1)]) C dX0_restsOver_5 rfl (by decide) rfl ?_
  refine g_iconst C (v := 0) dX0_restsOver_6 rfl ?_
  refine g_istore_n (lv' := [(3, .int 0), (2, .int r1), (0, .ref (ad w 1)), (1, .int a1)]) C dX0_restsOver_7 rfl (by decide) rfl ?_
  refine g_sub [2, 1, 0] rfl ?_
  exact j8 N _ _ _ hf

set_option maxHeartbeats 4000000 in
set_option maxRecDepth 100000 in
theorem c_X0_paidBehindSeen (l : Launch) (N : Nat) (w : WX) (hS : SS w = Sc) (a1 : Int32) {s s' : Mem} {r : Int32} (hf : f_X0_paidBehindSeen N a1 s = some (r, s')) : CI l yX0_paidBehindSeen (wz yX0_paidBehindSeen cX0_paidBehindSeen 7 (some .int)) ({ frames := 3, cells := 0, slots := 0, locals := 68 } : Room) [.ref (ad w 1), .int a1] w s r s' := by
  refine met_startI (cc := cX0_paidBehindSeen) (ret := (some .int)) (own := RX0) (maxL := 7) (by decide) rfl (Nat.le_of_ble_eq_true rfl) (fun x C hR hl => ?_)
  have j95 : ∀ (k11 : Int32 → Int32 → Int32 → Int32 → Mem → Option (Int32 × Mem)), (∀ (v1 : Int32) (v2 : Int32) (v3 : Int32) (v4 : Int32) (s : Mem), k11 v1 v2 v3 v4 s = some (r, s') → G x (QI x w r s') 7 w 11 [(0, .ref (ad w 1)), (1, .int v1), (2, .int v2), (3, .int v3), (4, .int v4)] [] s) → ∀ (v1 : Int32) (v2 : Int32) (v3 : Int32) (v4 : Int32) (s : Mem), f_X0_paidBehindSeen_j95 N k11 v1 v2 v3 v4 s = some (r, s') → G x (QI x w r s') 7 w 95 [(0, .ref (ad w 1)), (1, .int v1), (2, .int v2), (3, .int v3), (4, .int v4)] [] s := by
    intro k11 q11 v1 v2 v3 v4 s hf
    unfold f_X0_paidBehindSeen_j95 at hf
    refine g_iinc (v' := v4 + 1) (lv' := [(4, .int (v4 + 1)), (0, .ref (ad w 1)), (1, .int v1), (2, .int v2), (3, .int v3)]) C dX0_paidBehindSeen_95 4 rfl rfl (by decide) rfl ?_
    refine g_goto (tgt := 11) C dX0_paidBehindSeen_98 (by decide) ?_
    refine g_sub [1, 2, 3, 4, 0] rfl ?_
    exact q11 _ _ _ _ _ hf
  have j11 : ∀ (n : Nat), ∀ (v1 : Int32) (v2 : Int32) (v3 : Int32) (v4 : Int32) (s : Mem), f_X0_paidBehindSeen_L11 N n v1 v2 v3 v4 s = some (r, s') → G x (QI x w r s') 7 w 11 [(0, .ref (ad w 1)), (1, .int v1), (2, .int v2), (3, .int v3), (4, .int v4)] [] s := by
    intro n
    induction n with
    | zero => intro v1 v2 v3 v4 s hf; cases hf
    | succ n ih =>
      intro v1 v2 v3 v4 s hf
      unfold f_X0_paidBehindSeen_L11 at hf
      refine g_iload C dX0_paidBehindSeen_11 4 rfl ?_
      refine g_aload_n C dX0_paidBehindSeen_13 rfl 0 rfl ?_
      refine g_get C (R := RX0) (T := TX0) (N := 8) (k := 3) (v := .ref (ad w 8)) kd_1 (by decide) rfl (in_1 hS) hinX0 (by decide) fl_X0_26 rfl rfl dX0_paidBehindSeen_14 ?_
      refine g_get C (R := RX5) (T := TX5) (N := 4) (k := 3) (v := .int (rI s 8 3)) kd_8 (by decide) rfl (in_8 hS) hinX5 (by decide) fl_X0_71 rfl rfl dX0_paidBehindSeen_17 ?_
      refine g_icmp_ge (tgt := 101) C dX0_paidBehindSeen_20 (by decide) hf (fun hf => ?_) (fun hf => ?_)
      · refine g_iload_n C dX0_paidBehindSeen_101 rfl 3 rfl ?_
        exact g_iret C dX0_paidBehindSeen_102 hf
      · refine g_aload_n C dX0_paidBehindSeen_23 rfl 0 rfl ?_
        refine g_get C (R := RX0) (T := TX0) (N := 8) (k := 3) (v := .ref (ad w 8)) kd_1 (by decide) rfl (in_1 hS) hinX0 (by decide) fl_X0_26 rfl rfl dX0_paidBehindSeen_24 ?_
        refine g_iload C dX0_paidBehindSeen_27 4 rfl ?_
        refine g_iconst C (v := 0) dX0_paidBehindSeen_29 rfl ?_
        refine g_callVI C (R := RX5) (T := TX5) (N := 4) [.int v4, .int 0] (fun _ _ h => c_X5_get (kl x) N w (ok_8 hS) _ _ h) (g_cwV C hR ml_X0_54 im_X5_get sl_X5_get ini_X5 cd_X5_get hd_X5_get (by decide)) kd_8 (by decide) rfl (in_8 hS) rfl _ rfl (Nat.le_of_ble_eq_true rfl) dX0_paidBehindSeen_30 hf (fun r1 s1 hf => ?_)
        refine g_iload_n C dX0_paidBehindSeen_33 rfl 1 rfl ?_
        refine g_icmp_eq (tgt := 40) C dX0_paidBehindSeen_34 (by decide) hf (fun hf => ?_) (fun hf => ?_)
        · refine g_aload_n C dX0_paidBehindSeen_40 rfl 0 rfl ?_
          refine g_get C (R := RX0) (T := TX0) (N := 8) (k := 3) (v := .ref (ad w 8)) kd_1 (by decide) rfl (in_1 hS) hinX0 (by decide) fl_X0_26 rfl rfl dX0_paidBehindSeen_41 ?_
          refine g_iload C dX0_paidBehindSeen_44 4 rfl ?_
          refine g_iconst C (v := 1) dX0_paidBehindSeen_46 rfl ?_
          refine g_callVI C (R := RX5) (T := TX5) (N := 4) [.int v4, .int 1] (fun _ _ h => c_X5_get (kl x) N w (ok_8 hS) _ _ h) (g_cwV C hR ml_X0_54 im_X5_get sl_X5_get ini_X5 cd_X5_get hd_X5_get (by decide)) kd_8 (by decide) rfl (in_8 hS) rfl _ rfl (Nat.le_of_ble_eq_true rfl) dX0_paidBehindSeen_47 hf (fun r2 s2 hf => ?_)
          refine g_iload_n C dX0_paidBehindSeen_50 rfl 2 rfl ?_
          refine g_iconst C (v := 1) dX0_paidBehindSeen_51 rfl ?_
          refine g_iadd C dX0_paidBehindSeen_52 ?_
          refine g_imax C (kR_of hR (by decide)) ml_X0_81 sm_J9_max_7cf53 ini_J9 cd_J9_max_7cf53 (Nat.le_of_ble_eq_true rfl) dX0_paidBehindSeen_53 ?_
          refine g_istore (lv' := [(5, .int (imax r2 (v2 + 1))), (0, .ref (ad w 1)), (1, .int v1), (2, .int v2), (3, .int v3), (4, .int v4)]) C dX0_paidBehindSeen_56 (by decide) rfl ?_
          refine g_iconst C (v := 0) dX0_paidBehindSeen_58 rfl ?_
          refine g_aload_n C dX0_paidBehindSeen_59 rfl 1 rfl ?_
          refine g_get C (R := RX0) (T := TX0) (N := 8) (k := 3) (v := .ref (ad w 8)) kd_1 (by decide) rfl (in_1 hS) hinX0 (by decide) fl_X0_26 rfl rfl dX0_paidBehindSeen_60 ?_
          refine g_iload C dX0_paidBehindSeen_63 5 rfl ?_
          refine g_iconst C (v := 2) dX0_paidBehindSeen_65 rfl ?_
          refine g_callVI C (R := RX5) (T := TX5) (N := 4) [.int v4, .int 2] (fun _ _ h => c_X5_get (kl x) N w (ok_8 hS) _ _ h) (g_cwV C hR ml_X0_54 im_X5_get sl_X5_get ini_X5 cd_X5_get hd_X5_get (by decide)) kd_8 (by decide) rfl (in_8 hS) rfl _ rfl (Nat.le_of_ble_eq_true rfl) dX0_paidBehindSeen_66 hf (fun r3 s3 hf => ?_)
          refine g_iload C dX0_paidBehindSeen_69 0 rfl ?_
          refine g_isub C dX0_paidBehindSeen_71 ?_
          refine g_iconst C (v := 1) dX0_paidBehindSeen_72 rfl ?_
          refine g_iadd C dX0_paidBehindSeen_73 ?_
          refine g_imax C (kR_of hR (by decide)) ml_X0_81 sm_J9_max_7cf53 ini_J9 cd_J9_max_7cf53 (Nat.le_of_ble_eq_true rfl) dX0_paidBehindSeen_74 ?_
          refine g_istoreN (lv' := fun x4 => [(6, .int x4), (5, .int (imax r2 (v2 + 1))), (0, .ref (ad w 1)), (1, .int v1), (2, .int v2), (3, .int v3), (4, .int v4)]) C dX0_paidBehindSeen_77 (by decide) (fun _ => rfl) hf (fun x4 hf => ?_)
          refine g_iload_n C dX0_paidBehindSeen_79 rfl 5 rfl ?_
          refine g_iload C dX0_paidBehindSeen_80 0 rfl ?_
          refine g_aload_n C dX0_paidBehindSeen_82 rfl 2 rfl ?_
          refine g_get C (R := RX0) (T := TX0) (N := 8) (k := 3) (v := .ref (ad w 8)) kd_1 (by decide) rfl (in_1 hS) hinX0 (by decide) fl_X0_26 rfl rfl dX0_paidBehindSeen_83 ?_
          refine g_iload C dX0_paidBehindSeen_86 6 rfl ?_
          refine g_iconst C (v := 3) dX0_paidBehindSeen_88 rfl ?_
          refine g_callVI C (R := RX5) (T := TX5) (N := 4) [.int v4, .int 3] (fun _ _ h => c_X5_get (kl x) N w (ok_8 hS) _ _ h) (g_cwV C hR ml_X0_54 im_X5_get sl_X5_get ini_X5 cd_X5_get hd_X5_get (by decide)) kd_8 (by decide) rfl (in_8 hS) rfl _ rfl (Nat.le_of_ble_eq_true rfl) dX0_paidBehindSeen_89 hf (fun r5 s5 hf => ?_)
          refine g_imul C dX0_paidBehindSeen_92 ?_
          refine g_iadd C dX0_paidBehindSeen_93 ?_
          refine g_istore_n (lv' := [(3, .int (v3 + (x4 * r5))), (6, .int x4), (5, .int (imax r2 (v2 + 1))), (0, .ref (ad w 1)), (1, .int v1), (2, .int v2), (4, .int v4)]) C dX0_paidBehindSeen_94 rfl (by decide) rfl ?_
          refine g_sub [3, 4, 5, 0, 6] rfl ?_
          exact j95 (f_X0_paidBehindSeen_L11 N n) ih _ _ _ _ _ hf
        · refine g_goto (tgt := 95) C dX0_paidBehindSeen_37 (by decide) ?_
          exact j95 (f_X0_paidBehindSeen_L11 N n) ih _ _ _ _ _ hf
  refine g_lv (lv' := [(0, .ref (ad w 1)), (1, .int a1)]) rfl ?_
  unfold f_X0_paidBehindSeen at hf
  refine g_aload_n C dX0_paidBehindSeen_0 rfl 0 rfl ?_
  refine g_iload_n C dX0_paidBehindSeen_1 rfl 1 rfl ?_
  refine g_callVI C (R := RX0) (T := TX0) (N := 8) [.int a1] (fun _ _ h => c_X0_seen (kl x) N w hS _ h) (g_cwV C hR ml_X0_108 im_X0_seen sl_X0_seen ini_X0 cd_X0_seen hd_X0_seen (by decide)) kd_1 (by decide) rfl (in_1 hS) rfl _ rfl (Nat.le_of_ble_eq_true rfl) dX0_paidBehindSeen_2 hf (fun r1 s1 hf => ?_)
  refine g_istore_n (lv' := [(2, .int r1), (0, .ref (ad w 1)), (1, .int a1)]) C dX0_paidBehindSeen_5 rfl (by decide) rfl ?_
  refine g_iconst C (v := 0) dX0_paidBehindSeen_6 rfl ?_
  refine g_istore_n (lv' := [(3, .int 0), (2, .int r1), (0, .ref (ad w 1)), (1, .int a1)]) C dX0_paidBehindSeen_7 rfl (by decide) rfl ?_
  refine g_iconst C (v := 0) dX0_paidBehindSeen_8 rfl ?_
  refine g_istore (lv' := [(4, .int 0), (3, .int 0), (2, .int r1), (0, .ref (ad w 1)), (1, .int a1)]) C dX0_paidBehindSeen_9 (by decide) rfl ?_
  refine g_sub [3, 4, 2, 1, 0] rfl ?_
  exact j11 N _ _ _ _ _ hf

set_option maxHeartbeats 4000000 in
set_option maxRecDepth 100000 in
theorem c_X0_counts (l : Launch) (N : Nat) (w : WX) (hS : SS w = Sc) {s s' : Mem} {r : Int32} (hf : f_X0_counts N s = some (r, s')) : CI l yX0_counts (wz yX0_counts cX0_counts 3 (some .int)) ({ frames := 1, cells := 0, slots := 0, locals := 23 } : Room) [.ref (ad w 1)] w s r s' := by
  refine met_startI (cc := cX0_counts) (ret := (some .int)) (own := RX0) (maxL := 3) (by decide) rfl (Nat.le_of_ble_eq_true rfl) (fun x C hR hl => ?_)
  have j31 : ∀ (k4 : Int32 → Int32 → Mem → Option (Int32 × Mem)), (∀ (v1 : Int32) (v2 : Int32) (s : Mem), k4 v1 v2 s = some (r, s') → G x (QI x w r s') 3 w 4 [(0, .ref (ad w 1)), (1, .int v1), (2, .int v2)] [] s) → ∀ (v1 : Int32) (v2 : Int32) (s : Mem), f_X0_counts_j31 N k4 v1 v2 s = some (r, s') → G x (QI x w r s') 3 w 31 [(0, .ref (ad w 1)), (1, .int v1), (2, .int v2)] [] s := by
    intro k4 q4 v1 v2 s hf
    unfold f_X0_counts_j31 at hf
    refine g_iinc (v' := v2 + 1) (lv' := [(2, .int (v2 + 1)), (0, .ref (ad w 1)), (1, .int v1)]) C dX0_counts_31 2 rfl rfl (by decide) rfl ?_
    refine g_goto (tgt := 4) C dX0_counts_34 (by decide) ?_
    refine g_sub [1, 2, 0] rfl ?_
    exact q4 _ _ _ hf
  have j4 : ∀ (n : Nat), ∀ (v1 : Int32) (v2 : Int32) (s : Mem), f_X0_counts_L4 N n v1 v2 s = some (r, s') → G x (QI x w r s') 3 w 4 [(0, .ref (ad w 1)), (1, .int v1), (2, .int v2)] [] s := by
    intro n
    induction n with
    | zero => intro v1 v2 s hf; cases hf
    | succ n ih =>
      intro v1 v2 s hf
      unfold f_X0_counts_L4 at hf
      refine g_iload_n C dX0_counts_4 rfl 2 rfl ?_
      refine g_aload_n C dX0_counts_5 rfl 0 rfl ?_
      refine g_get C (R := RX0) (T := TX0) (N := 8) (k := 1) (v := .ref (ad w 4)) kd_1 (by decide) rfl (in_1 hS) hinX0 (by decide) fl_X0_20 rfl rfl dX0_counts_6 ?_
      refine g_get C (R := RX5) (T := TX5) (N := 4) (k := 3) (v := .int (rI s 4 3)) kd_4 (by decide) rfl (in_4 hS) hinX5 (by decide) fl_X0_71 rfl rfl dX0_counts_9 ?_
      refine g_icmp_ge (tgt := 37) C dX0_counts_12 (by decide) hf (fun hf => ?_) (fun hf => ?_)
      · refine g_iload_n C dX0_counts_37 rfl 1 rfl ?_
        exact g_iret C dX0_counts_38 hf
      · refine g_aload_n C dX0_counts_15 rfl 0 rfl ?_
        refine g_get C (R := RX0) (T := TX0) (N := 8) (k := 1) (v := .ref (ad w 4)) kd_1 (by decide) rfl (in_1 hS) hinX0 (by decide) fl_X0_20 rfl rfl dX0_counts_16 ?_
        refine g_iload_n C dX0_counts_19 rfl 2 rfl ?_
        refine g_iconst C (v := 1) dX0_counts_20 rfl ?_
        refine g_callVI C (R := RX5) (T := TX5) (N := 4) [.int v2, .int 1] (fun _ _ h => c_X5_get (kl x) N w (ok_4 hS) _ _ h) (g_cwV C hR ml_X0_54 im_X5_get sl_X5_get ini_X5 cd_X5_get hd_X5_get (by decide)) kd_4 (by decide) rfl (in_4 hS) rfl _ rfl (Nat.le_of_ble_eq_true rfl) dX0_counts_21 hf (fun r1 s1 hf => ?_)
        refine g_iconst C (v := 3) dX0_counts_24 rfl ?_
        refine g_icmp_ne (tgt := 31) C dX0_counts_25 (by decide) hf (fun hf => ?_) (fun hf => ?_)
        · exact j31 (f_X0_counts_L4 N n) ih _ _ _ hf
        · refine g_iinc (v' := v1 + 1) (lv' := [(1, .int (v1 + 1)), (0, .ref (ad w 1)), (2, .int v2)]) C dX0_counts_28 1 rfl rfl (by decide) rfl ?_
          refine g_sub [1, 0, 2] rfl ?_
          exact j31 (f_X0_counts_L4 N n) ih _ _ _ hf
  refine g_lv (lv' := [(0, .ref (ad w 1))]) rfl ?_
  unfold f_X0_counts at hf
  refine g_iconst C (v := 0) dX0_counts_0 rfl ?_
  refine g_istore_n (lv' := [(1, .int 0), (0, .ref (ad w 1))]) C dX0_counts_1 rfl (by decide) rfl ?_
  refine g_iconst C (v := 0) dX0_counts_2 rfl ?_
  refine g_istore_n (lv' := [(2, .int 0), (1, .int 0), (0, .ref (ad w 1))]) C dX0_counts_3 rfl (by decide) rfl ?_
  refine g_sub [2, 1, 0] rfl ?_
  exact j4 N _ _ _ hf

set_option maxHeartbeats 4000000 in
set_option maxRecDepth 100000 in
theorem c_X0_countsWithEnding (l : Launch) (N : Nat) (w : WX) (hS : SS w = Sc) (a1 : Int32) {s s' : Mem} {r : Int32} (hf : f_X0_countsWithEnding N a1 s = some (r, s')) : CI l yX0_countsWithEnding (wz yX0_countsWithEnding cX0_countsWithEnding 4 (some .int)) ({ frames := 1, cells := 0, slots := 0, locals := 23 } : Room) [.ref (ad w 1), .int a1] w s r s' := by
  refine met_startI (cc := cX0_countsWithEnding) (ret := (some .int)) (own := RX0) (maxL := 4) (by decide) rfl (Nat.le_of_ble_eq_true rfl) (fun x C hR hl => ?_)
  have j50 : ∀ (k4 : Int32 → Int32 → Int32 → Mem → Option (Int32 × Mem)), (∀ (v1 : Int32) (v2 : Int32) (v3 : Int32) (s : Mem), k4 v1 v2 v3 s = some (r, s') → G x (QI x w r s') 4 w 4 [(0, .ref (ad w 1)), (1, .int v1), (2, .int v2), (3, .int v3)] [] s) → ∀ (v1 : Int32) (v2 : Int32) (v3 : Int32) (s : Mem), f_X0_countsWithEnding_j50 N k4 v1 v2 v3 s = some (r, s') → G x (QI x w r s') 4 w 50 [(0, .ref (ad w 1)), (1, .int v1), (2, .int v2), (3, .int v3)] [] s := by
    intro k4 q4 v1 v2 v3 s hf
    unfold f_X0_countsWithEnding_j50 at hf
    refine g_iinc (v' := v3 + 1) (lv' := [(3, .int (v3 + 1)), (0, .ref (ad w 1)), (1, .int v1), (2, .int v2)]) C dX0_countsWithEnding_50 3 rfl rfl (by decide) rfl ?_
    refine g_goto (tgt := 4) C dX0_countsWithEnding_53 (by decide) ?_
    refine g_sub [1, 2, 3, 0] rfl ?_
    exact q4 _ _ _ _ hf
  have j4 : ∀ (n : Nat), ∀ (v1 : Int32) (v2 : Int32) (v3 : Int32) (s : Mem), f_X0_countsWithEnding_L4 N n v1 v2 v3 s = some (r, s') → G x (QI x w r s') 4 w 4 [(0, .ref (ad w 1)), (1, .int v1), (2, .int v2), (3, .int v3)] [] s := by
    intro n
    induction n with
    | zero => intro v1 v2 v3 s hf; cases hf
    | succ n ih =>
      intro v1 v2 v3 s hf
      unfold f_X0_countsWithEnding_L4 at hf
      refine g_iload_n C dX0_countsWithEnding_4 rfl 3 rfl ?_
      refine g_aload_n C dX0_countsWithEnding_5 rfl 0 rfl ?_
      refine g_get C (R := RX0) (T := TX0) (N := 8) (k := 1) (v := .ref (ad w 4)) kd_1 (by decide) rfl (in_1 hS) hinX0 (by decide) fl_X0_20 rfl rfl dX0_countsWithEnding_6 ?_
      refine g_get C (R := RX5) (T := TX5) (N := 4) (k := 3) (v := .int (rI s 4 3)) kd_4 (by decide) rfl (in_4 hS) hinX5 (by decide) fl_X0_71 rfl rfl dX0_countsWithEnding_9 ?_
      refine g_icmp_ge (tgt := 56) C dX0_countsWithEnding_12 (by decide) hf (fun hf => ?_) (fun hf => ?_)
      · refine g_iload_n C dX0_countsWithEnding_56 rfl 2 rfl ?_
        exact g_iret C dX0_countsWithEnding_57 hf
      · refine g_aload_n C dX0_countsWithEnding_15 rfl 0 rfl ?_
        refine g_get C (R := RX0) (T := TX0) (N := 8) (k := 1) (v := .ref (ad w 4)) kd_1 (by decide) rfl (in_1 hS) hinX0 (by decide) fl_X0_20 rfl rfl dX0_countsWithEnding_16 ?_
        refine g_iload_n C dX0_countsWithEnding_19 rfl 3 rfl ?_
        refine g_iconst C (v := 1) dX0_countsWithEnding_20 rfl ?_
        refine g_callVI C (R := RX5) (T := TX5) (N := 4) [.int v3, .int 1] (fun _ _ h => c_X5_get (kl x) N w (ok_4 hS) _ _ h) (g_cwV C hR ml_X0_54 im_X5_get sl_X5_get ini_X5 cd_X5_get hd_X5_get (by decide)) kd_4 (by decide) rfl (in_4 hS) rfl _ rfl (Nat.le_of_ble_eq_true rfl) dX0_countsWithEnding_21 hf (fun r1 s1 hf => ?_)
        refine g_iconst C (v := 3) dX0_countsWithEnding_24 rfl ?_
        refine g_icmp_eq (tgt := 31) C dX0_countsWithEnding_25 (by decide) hf (fun hf => ?_) (fun hf => ?_)
        · refine g_aload_n C dX0_countsWithEnding_31 rfl 0 rfl ?_
          refine g_get C (R := RX0) (T := TX0) (N := 8) (k := 1) (v := .ref (ad w 4)) kd_1 (by decide) rfl (in_1 hS) hinX0 (by decide) fl_X0_20 rfl rfl dX0_countsWithEnding_32 ?_
          refine g_iload_n C dX0_countsWithEnding_35 rfl 3 rfl ?_
          refine g_iconst C (v := 3) dX0_countsWithEnding_36 rfl ?_
          refine g_callVI C (R := RX5) (T := TX5) (N := 4) [.int v3, .int 3] (fun _ _ h => c_X5_get (kl x) N w (ok_4 hS) _ _ h) (g_cwV C hR ml_X0_54 im_X5_get sl_X5_get ini_X5 cd_X5_get hd_X5_get (by decide)) kd_4 (by decide) rfl (in_4 hS) rfl _ rfl (Nat.le_of_ble_eq_true rfl) dX0_countsWithEnding_37 hf (fun r2 s2 hf => ?_)
          refine g_bipush C (v := 10) dX0_countsWithEnding_40 (by decide) ?_
          refine g_iremK C dX0_countsWithEnding_42 (by decide) ?_
          refine g_iload_n C dX0_countsWithEnding_43 rfl 1 rfl ?_
          refine g_icmp_ne (tgt := 50) C dX0_countsWithEnding_44 (by decide) hf (fun hf => ?_) (fun hf => ?_)
          · exact j50 (f_X0_countsWithEnding_L4 N n) ih _ _ _ _ hf
          · refine g_iinc (v' := v2 + 1) (lv' := [(2, .int (v2 + 1)), (0, .ref (ad w 1)), (1, .int v1), (3, .int v3)]) C dX0_countsWithEnding_47 2 rfl rfl (by decide) rfl ?_
            refine g_sub [1, 2, 0, 3] rfl ?_
            exact j50 (f_X0_countsWithEnding_L4 N n) ih _ _ _ _ hf
        · refine g_goto (tgt := 50) C dX0_countsWithEnding_28 (by decide) ?_
          exact j50 (f_X0_countsWithEnding_L4 N n) ih _ _ _ _ hf
  refine g_lv (lv' := [(0, .ref (ad w 1)), (1, .int a1)]) rfl ?_
  unfold f_X0_countsWithEnding at hf
  refine g_iconst C (v := 0) dX0_countsWithEnding_0 rfl ?_
  refine g_istore_n (lv' := [(2, .int 0), (0, .ref (ad w 1)), (1, .int a1)]) C dX0_countsWithEnding_1 rfl (by decide) rfl ?_
  refine g_iconst C (v := 0) dX0_countsWithEnding_2 rfl ?_
  refine g_istore_n (lv' := [(3, .int 0), (2, .int 0), (0, .ref (ad w 1)), (1, .int a1)]) C dX0_countsWithEnding_3 rfl (by decide) rfl ?_
  refine g_sub [2, 3, 1, 0] rfl ?_
  exact j4 N _ _ _ _ hf

set_option maxHeartbeats 4000000 in
set_option maxRecDepth 100000 in
theorem c_X0_isLeftOut (l : Launch) (N : Nat) (w : WX) (hS : SS w = Sc) (a1 : Int32) (a2 : Int32) {s s' : Mem} {r : Bool} (hf : f_X0_isLeftOut N a1 a2 s = some (r, s')) : CB l yX0_isLeftOut (wz yX0_isLeftOut cX0_isLeftOut 6 (some .boolean)) ({ frames := 1, cells := 0, slots := 0, locals := 23 } : Room) [.ref (ad w 1), .int a1, .int a2] w s r s' := by
  refine met_startB (cc := cX0_isLeftOut) (ret := (some .boolean)) (own := RX0) (maxL := 6) (by decide) rfl (Nat.le_of_ble_eq_true rfl) (fun x C hR hl => ?_)
  have j84 : ∀ (k2 : Int32 → Int32 → Int32 → Mem → Option (Bool × Mem)), (∀ (v1 : Int32) (v2 : Int32) (v3 : Int32) (s : Mem), k2 v1 v2 v3 s = some (r, s') → G x (QB x w r s') 6 w 2 [(0, .ref (ad w 1)), (1, .int v1), (2, .int v2), (3, .int v3)] [] s) → ∀ (v1 : Int32) (v2 : Int32) (v3 : Int32) (s : Mem), f_X0_isLeftOut_j84 N k2 v1 v2 v3 s = some (r, s') → G x (QB x w r s') 6 w 84 [(0, .ref (ad w 1)), (1, .int v1), (2, .int v2), (3, .int v3)] [] s := by
    intro k2 q2 v1 v2 v3 s hf
    unfold f_X0_isLeftOut_j84 at hf
    refine g_iinc (v' := v3 + 1) (lv' := [(3, .int (v3 + 1)), (0, .ref (ad w 1)), (1, .int v1), (2, .int v2)]) C dX0_isLeftOut_84 3 rfl rfl (by decide) rfl ?_
    refine g_goto (tgt := 2) C dX0_isLeftOut_87 (by decide) ?_
    refine g_sub [1, 2, 3, 0] rfl ?_
    exact q2 _ _ _ _ hf
  have j71 : ∀ (k2 : Int32 → Int32 → Int32 → Mem → Option (Bool × Mem)), (∀ (v1 : Int32) (v2 : Int32) (v3 : Int32) (s : Mem), k2 v1 v2 v3 s = some (r, s') → G x (QB x w r s') 6 w 2 [(0, .ref (ad w 1)), (1, .int v1), (2, .int v2), (3, .int v3)] [] s) → ∀ (v1 : Int32) (v2 : Int32) (v3 : Int32) (v4 : Int32) (v5 : Bool) (s : Mem), f_X0_isLeftOut_j71 N k2 v1 v2 v3 v4 v5 s = some (r, s') → G x (QB x w r s') 6 w 71 [(0, .ref (ad w 1)), (1, .int v1), (2, .int v2), (3, .int v3), (4, .int v4), (5, .int (bI v5))] [] s := by
    intro k2 q2 v1 v2 v3 v4 v5 s hf
    unfold f_X0_isLeftOut_j71 at hf
    refine g_iload C dX0_isLeftOut_71 4 rfl ?_
    refine g_iconst C (v := 2) dX0_isLeftOut_73 rfl ?_
    refine g_icmp_ne (tgt := 84) C dX0_isLeftOut_74 (by decide) hf (fun hf => ?_) (fun hf => ?_)
    · refine g_sub [0, 1, 2, 3] rfl ?_
      exact j84 k2 q2 _ _ _ _ hf
    · refine g_iload C dX0_isLeftOut_77 5 rfl ?_
      refine g_ifneB (tgt := 84) C dX0_isLeftOut_79 (by decide) hf (fun hf => ?_) (fun hf => ?_)
      · refine g_sub [0, 1, 2, 3] rfl ?_
        exact j84 k2 q2 _ _ _ _ hf
      · refine g_iconst C (v := 1) dX0_isLeftOut_82 rfl ?_
        exact g_zret (v := true) C dX0_isLeftOut_83 hf
  have j58 : ∀ (k2 : Int32 → Int32 → Int32 → Mem → Option (Bool × Mem)), (∀ (v1 : Int32) (v2 : Int32) (v3 : Int32) (s : Mem), k2 v1 v2 v3 s = some (r, s') → G x (QB x w r s') 6 w 2 [(0, .ref (ad w 1)), (1, .int v1), (2, .int v2), (3, .int v3)] [] s) → ∀ (v1 : Int32) (v2 : Int32) (v3 : Int32) (v4 : Int32) (p0 : Bool) (s : Mem), f_X0_isLeftOut_j58 N k2 v1 v2 v3 v4 p0 s = some (r, s') → G x (QB x w r s') 6 w 58 [(0, .ref (ad w 1)), (1, .int v1), (2, .int v2), (3, .int v3), (4, .int v4)] [.int (bI p0)] s := by
    intro k2 q2 v1 v2 v3 v4 p0 s hf
    unfold f_X0_isLeftOut_j58 at hf
    refine g_istore (lv' := [(5, .int (bI p0)), (0, .ref (ad w 1)), (1, .int v1), (2, .int v2), (3, .int v3), (4, .int v4)]) C dX0_isLeftOut_58 (by decide) rfl ?_
    refine g_iload C dX0_isLeftOut_60 5 rfl ?_
    refine g_iconst C (v := 1) dX0_isLeftOut_62 rfl ?_
    refine g_icmp_ne (tgt := 71) C dX0_isLeftOut_63 (by decide) hf (fun hf => ?_) (fun hf => ?_)
    · refine g_sub [1, 2, 3, 4, 5, 0] rfl ?_
      exact j71 k2 q2 _ _ _ _ _ _ hf
    · refine g_iload C dX0_isLeftOut_66 0 rfl ?_
      refine g_ifneB (tgt := 82) C dX0_isLeftOut_68 (by decide) hf (fun hf => ?_) (fun hf => ?_)
      · refine g_iconst C (v := 1) dX0_isLeftOut_82 rfl ?_
        exact g_zret (v := true) C dX0_isLeftOut_83 hf
      · refine g_sub [1, 2, 3, 4, 5, 0] rfl ?_
        exact j71 k2 q2 _ _ _ _ _ _ hf
  have j2 : ∀ (n : Nat), ∀ (v1 : Int32) (v2 : Int32) (v3 : Int32) (s : Mem), f_X0_isLeftOut_L2 N n v1 v2 v3 s = some (r, s') → G x (QB x w r s') 6 w 2 [(0, .ref (ad w 1)), (1, .int v1), (2, .int v2), (3, .int v3)] [] s := by
    intro n
    induction n with
    | zero => intro v1 v2 v3 s hf; cases hf
    | succ n ih =>
      intro v1 v2 v3 s hf
      unfold f_X0_isLeftOut_L2 at hf
      refine g_iload_n C dX0_isLeftOut_2 rfl 3 rfl ?_
      refine g_aload_n C dX0_isLeftOut_3 rfl 0 rfl ?_
      refine g_get C (R := RX0) (T := TX0) (N := 8) (k := 4) (v := .ref (ad w 10)) kd_1 (by decide) rfl (in_1 hS) hinX0 (by decide) fl_X0_29 rfl rfl dX0_isLeftOut_4 ?_
      refine g_get C (R := RX5) (T := TX5) (N := 4) (k := 3) (v := .int (rI s 10 3)) kd_10 (by decide) rfl (in_10 hS) hinX5 (by decide) fl_X0_71 rfl rfl dX0_isLeftOut_7 ?_
      refine g_icmp_ge (tgt := 90) C dX0_isLeftOut_10 (by decide) hf (fun hf => ?_) (fun hf => ?_)
      · refine g_iconst C (v := 0) dX0_isLeftOut_90 rfl ?_
        exact g_zret (v := false) C dX0_isLeftOut_91 hf
      · refine g_aload_n C dX0_isLeftOut_13 rfl 0 rfl ?_
        refine g_get C (R := RX0) (T := TX0) (N := 8) (k := 4) (v := .ref (ad w 10)) kd_1 (by decide) rfl (in_1 hS) hinX0 (by decide) fl_X0_29 rfl rfl dX0_isLeftOut_14 ?_
        refine g_iload_n C dX0_isLeftOut_17 rfl 3 rfl ?_
        refine g_iconst C (v := 0) dX0_isLeftOut_18 rfl ?_
        refine g_callVI C (R := RX5) (T := TX5) (N := 4) [.int v3, .int 0] (fun _ _ h => c_X5_get (kl x) N w (ok_10 hS) _ _ h) (g_cwV C hR ml_X0_54 im_X5_get sl_X5_get ini_X5 cd_X5_get hd_X5_get (by decide)) kd_10 (by decide) rfl (in_10 hS) rfl _ rfl (Nat.le_of_ble_eq_true rfl) dX0_isLeftOut_19 hf (fun r1 s1 hf => ?_)
        refine g_iload_n C dX0_isLeftOut_22 rfl 1 rfl ?_
        refine g_icmp_eq (tgt := 29) C dX0_isLeftOut_23 (by decide) hf (fun hf => ?_) (fun hf => ?_)
        · refine g_aload_n C dX0_isLeftOut_29 rfl 0 rfl ?_
          refine g_get C (R := RX0) (T := TX0) (N := 8) (k := 4) (v := .ref (ad w 10)) kd_1 (by decide) rfl (in_1 hS) hinX0 (by decide) fl_X0_29 rfl rfl dX0_isLeftOut_30 ?_
          refine g_iload_n C dX0_isLeftOut_33 rfl 3 rfl ?_
          refine g_iconst C (v := 3) dX0_isLeftOut_34 rfl ?_
          refine g_callVI C (R := RX5) (T := TX5) (N := 4) [.int v3, .int 3] (fun _ _ h => c_X5_get (kl x) N w (ok_10 hS) _ _ h) (g_cwV C hR ml_X0_54 im_X5_get sl_X5_get ini_X5 cd_X5_get hd_X5_get (by decide)) kd_10 (by decide) rfl (in_10 hS) rfl _ rfl (Nat.le_of_ble_eq_true rfl) dX0_isLeftOut_35 hf (fun r2 s2 hf => ?_)
          refine g_istore (lv' := [(4, .int r2), (0, .ref (ad w 1)), (1, .int v1), (2, .int v2), (3, .int v3)]) C dX0_isLeftOut_38 (by decide) rfl ?_
          refine g_iload_n C dX0_isLeftOut_40 rfl 3 rfl ?_
          refine g_aload_n C dX0_isLeftOut_41 rfl 1 rfl ?_
          refine g_get C (R := RX0) (T := TX0) (N := 8) (k := 4) (v := .ref (ad w 10)) kd_1 (by decide) rfl (in_1 hS) hinX0 (by decide) fl_X0_29 rfl rfl dX0_isLeftOut_42 ?_
          refine g_iload_n C dX0_isLeftOut_45 rfl 4 rfl ?_
          refine g_iconst C (v := 1) dX0_isLeftOut_46 rfl ?_
          refine g_callVI C (R := RX5) (T := TX5) (N := 4) [.int v3, .int 1] (fun _ _ h => c_X5_get (kl x) N w (ok_10 hS) _ _ h) (g_cwV C hR ml_X0_54 im_X5_get sl_X5_get ini_X5 cd_X5_get hd_X5_get (by decide)) kd_10 (by decide) rfl (in_10 hS) rfl _ rfl (Nat.le_of_ble_eq_true rfl) dX0_isLeftOut_47 hf (fun r3 s3 hf => ?_)
          refine g_icmp_le (tgt := 57) C dX0_isLeftOut_50 (by decide) hf (fun hf => ?_) (fun hf => ?_)
          · refine g_iconst C (v := 0) dX0_isLeftOut_57 rfl ?_
            refine g_sub [1, 2, 3, 4, 0] rfl ?_
            exact j58 (f_X0_isLeftOut_L2 N n) ih _ _ _ _ _ _ hf
          · refine g_iconst C (v := 1) dX0_isLeftOut_53 rfl ?_
            refine g_goto (tgt := 58) C dX0_isLeftOut_54 (by decide) ?_
            refine g_sub [1, 2, 3, 4, 0] rfl ?_
            exact j58 (f_X0_isLeftOut_L2 N n) ih _ _ _ _ _ _ hf
        · refine g_goto (tgt := 84) C dX0_isLeftOut_26 (by decide) ?_
          exact j84 (f_X0_isLeftOut_L2 N n) ih _ _ _ _ hf
  refine g_lv (lv' := [(0, .ref (ad w 1)), (1, .int a1), (2, .int a2)]) rfl ?_
  unfold f_X0_isLeftOut at hf
  refine g_iconst C (v := 0) dX0_isLeftOut_0 rfl ?_
  refine g_istore_n (lv' := [(3, .int 0), (0, .ref (ad w 1)), (1, .int a1), (2, .int a2)]) C dX0_isLeftOut_1 rfl (by decide) rfl ?_
  refine g_sub [1, 2, 3, 0] rfl ?_
  exact j2 N _ _ _ _ hf

set_option maxHeartbeats 4000000 in
set_option maxRecDepth 100000 in
theorem c_X0_answered (l : Launch) (N : Nat) (w : WX) (hS : SS w = Sc) {s s' : Mem} {r : Int32} (hf : f_X0_answered N s = some (r, s')) : CI l yX0_answered (wz yX0_answered cX0_answered 3 (some .int)) ({ frames := 1, cells := 0, slots := 0, locals := 23 } : Room) [.ref (ad w 1)] w s r s' := by
  refine met_startI (cc := cX0_answered) (ret := (some .int)) (own := RX0) (maxL := 3) (by decide) rfl (Nat.le_of_ble_eq_true rfl) (fun x C hR hl => ?_)
  have j30 : ∀ (k4 : Int32 → Int32 → Mem → Option (Int32 × Mem)), (∀ (v1 : Int32) (v2 : Int32) (s : Mem), k4 v1 v2 s = some (r, s') → G x (QI x w r s') 3 w 4 [(0, .ref (ad w 1)), (1, .int v1), (2, .int v2)] [] s) → ∀ (v1 : Int32) (v2 : Int32) (s : Mem), f_X0_answered_j30 N k4 v1 v2 s = some (r, s') → G x (QI x w r s') 3 w 30 [(0, .ref (ad w 1)), (1, .int v1), (2, .int v2)] [] s := by
    intro k4 q4 v1 v2 s hf
    unfold f_X0_answered_j30 at hf
    refine g_iinc (v' := v2 + 1) (lv' := [(2, .int (v2 + 1)), (0, .ref (ad w 1)), (1, .int v1)]) C dX0_answered_30 2 rfl rfl (by decide) rfl ?_
    refine g_goto (tgt := 4) C dX0_answered_33 (by decide) ?_
    refine g_sub [1, 2, 0] rfl ?_
    exact q4 _ _ _ hf
  have j4 : ∀ (n : Nat), ∀ (v1 : Int32) (v2 : Int32) (s : Mem), f_X0_answered_L4 N n v1 v2 s = some (r, s') → G x (QI x w r s') 3 w 4 [(0, .ref (ad w 1)), (1, .int v1), (2, .int v2)] [] s := by
    intro n
    induction n with
    | zero => intro v1 v2 s hf; cases hf
    | succ n ih =>
      intro v1 v2 s hf
      unfold f_X0_answered_L4 at hf
      refine g_iload_n C dX0_answered_4 rfl 2 rfl ?_
      refine g_aload_n C dX0_answered_5 rfl 0 rfl ?_
      refine g_get C (R := RX0) (T := TX0) (N := 8) (k := 4) (v := .ref (ad w 10)) kd_1 (by decide) rfl (in_1 hS) hinX0 (by decide) fl_X0_29 rfl rfl dX0_answered_6 ?_
      refine g_get C (R := RX5) (T := TX5) (N := 4) (k := 3) (v := .int (rI s 10 3)) kd_10 (by decide) rfl (in_10 hS) hinX5 (by decide) fl_X0_71 rfl rfl dX0_answered_9 ?_
      refine g_icmp_ge (tgt := 36) C dX0_answered_12 (by decide) hf (fun hf => ?_) (fun hf => ?_)
      · refine g_iload_n C dX0_answered_36 rfl 1 rfl ?_
        exact g_iret C dX0_answered_37 hf
      · refine g_aload_n C dX0_answered_15 rfl 0 rfl ?_
        refine g_get C (R := RX0) (T := TX0) (N := 8) (k := 4) (v := .ref (ad w 10)) kd_1 (by decide) rfl (in_1 hS) hinX0 (by decide) fl_X0_29 rfl rfl dX0_answered_16 ?_
        refine g_iload_n C dX0_answered_19 rfl 2 rfl ?_
        refine g_iconst C (v := 3) dX0_answered_20 rfl ?_
        refine g_callVI C (R := RX5) (T := TX5) (N := 4) [.int v2, .int 3] (fun _ _ h => c_X5_get (kl x) N w (ok_10 hS) _ _ h) (g_cwV C hR ml_X0_54 im_X5_get sl_X5_get ini_X5 cd_X5_get hd_X5_get (by decide)) kd_10 (by decide) rfl (in_10 hS) rfl _ rfl (Nat.le_of_ble_eq_true rfl) dX0_answered_21 hf (fun r1 s1 hf => ?_)
        refine g_if_eq (tgt := 30) C dX0_answered_24 (by decide) hf (fun hf => ?_) (fun hf => ?_)
        · exact j30 (f_X0_answered_L4 N n) ih _ _ _ hf
        · refine g_iinc (v' := v1 + 1) (lv' := [(1, .int (v1 + 1)), (0, .ref (ad w 1)), (2, .int v2)]) C dX0_answered_27 1 rfl rfl (by decide) rfl ?_
          refine g_sub [1, 0, 2] rfl ?_
          exact j30 (f_X0_answered_L4 N n) ih _ _ _ hf
  refine g_lv (lv' := [(0, .ref (ad w 1))]) rfl ?_
  unfold f_X0_answered at hf
  refine g_iconst C (v := 0) dX0_answered_0 rfl ?_
  refine g_istore_n (lv' := [(1, .int 0), (0, .ref (ad w 1))]) C dX0_answered_1 rfl (by decide) rfl ?_
  refine g_iconst C (v := 0) dX0_answered_2 rfl ?_
  refine g_istore_n (lv' := [(2, .int 0), (1, .int 0), (0, .ref (ad w 1))]) C dX0_answered_3 rfl (by decide) rfl ?_
  refine g_sub [2, 1, 0] rfl ?_
  exact j4 N _ _ _ hf

set_option maxHeartbeats 4000000 in
set_option maxRecDepth 100000 in
theorem c_X3_clear (l : Launch) (N : Nat) (w : WX) {t : Nat} (h_t : okO 3 w t) {s s' : Mem} (hf : f_X3_clear N t s = some ((), s')) : CV l yX3_clear (wz yX3_clear cX3_clear 1 none) ({ frames := 0, cells := 0, slots := 0, locals := 0 } : Room) [.ref (ad w t)] w s s' := by
  refine met_startV (cc := cX3_clear) (ret := none) (own := RX3) (maxL := 1) (by decide) rfl (Nat.le_of_ble_eq_true rfl) (fun x C hR hl => ?_)
  refine g_lv (lv' := [(0, .ref (ad w t))]) rfl ?_
  unfold f_X3_clear at hf
  refine g_aload_n C dX3_clear_0 rfl 0 rfl ?_
  refine g_iconst C (v := 0) dX3_clear_1 rfl ?_
  refine g_putI C (R := RX3) (T := TX3) (N := 2) (k := 1) (ty := .int) tyX3 tyX3_ok nmX3 h_t.2.2.1 (by decide) rfl h_t.1 hinX3 (by decide) fl_X3_7 rfl rfl rfl rfl rfl (Nat.le_of_ble_eq_true rfl) fs_3_1 dX3_clear_2 ?_
  refine g_nameS hf (fun s1 hf => ?_)
  exact g_vret C dX3_clear_5 hf

set_option maxHeartbeats 4000000 in
set_option maxRecDepth 100000 in
theorem c_X3_pop (l : Launch) (N : Nat) (w : WX) {t : Nat} (h_t : okO 3 w t) {s s' : Mem} {r : Int32} (hf : f_X3_pop N t s = some (r, s')) : CI l yX3_pop (wz yX3_pop cX3_pop 1 (some .int)) ({ frames := 0, cells := 0, slots := 0, locals := 0 } : Room) [.ref (ad w t)] w s r s' := by
  refine met_startI (cc := cX3_pop) (ret := (some .int)) (own := RX3) (maxL := 1) (by decide) rfl (Nat.le_of_ble_eq_true rfl) (fun x C hR hl => ?_)
  refine g_lv (lv' := [(0, .ref (ad w t))]) rfl ?_
  unfold f_X3_pop at hf
  refine g_aload_n C dX3_pop_0 rfl 0 rfl ?_
  refine g_get C (R := RX3) (T := TX3) (N := 2) (k := 1) (v := .int (rI s t 1)) h_t.2.2.1 (by decide) rfl h_t.1 hinX3 (by decide) fl_X3_7 rfl rfl dX3_pop_1 ?_
  refine g_if_le (tgt := 19) C dX3_pop_4 (by decide) hf (fun hf => ?_) (fun hf => ?_)
  · refine g_iconst C (v := 0) dX3_pop_19 rfl ?_
    exact g_iret C dX3_pop_20 hf
  · refine g_aload_n C dX3_pop_7 rfl 0 rfl ?_
    refine g_get C (R := RX3) (T := TX3) (N := 2) (k := 1) (v := .int (rI s t 1)) h_t.2.2.1 (by decide) rfl h_t.1 hinX3 (by decide) fl_X3_7 rfl rfl dX3_pop_8 ?_
    refine g_aload_n C dX3_pop_11 rfl 0 rfl ?_
    refine g_get C (R := RX3) (T := TX3) (N := 2) (k := 0) (v := .ref (ad w (t + 1))) h_t.2.2.1 (by decide) rfl h_t.1 hinX3 (by decide) fl_X3_19 rfl rfl dX3_pop_12 ?_
    refine g_alenI C (v := (nI (ln (t + 1)))) h_t.2.2.2 rfl h_t.2.1 rfl dX3_pop_15 ?_
    refine g_icmp_le (tgt := 21) C dX3_pop_16 (by decide) hf (fun hf => ?_) (fun hf => ?_)
    · refine g_aload_n C dX3_pop_21 rfl 0 rfl ?_
      refine g_dup C dX3_pop_22 rfl ?_
      refine g_get C (R := RX3) (T := TX3) (N := 2) (k := 1) (v := .int (rI s t 1)) h_t.2.2.1 (by decide) rfl h_t.1 hinX3 (by decide) fl_X3_7 rfl rfl dX3_pop_23 ?_
      refine g_iconst C (v := 1) dX3_pop_26 rfl ?_
      refine g_isub C dX3_pop_27 ?_
      refine g_putI C (R := RX3) (T := TX3) (N := 2) (k := 1) (ty := .int) tyX3 tyX3_ok nmX3 h_t.2.2.1 (by decide) rfl h_t.1 hinX3 (by decide) fl_X3_7 rfl rfl rfl rfl rfl (Nat.le_of_ble_eq_true rfl) fs_3_1 dX3_pop_28 ?_
      refine g_nameS hf (fun s1 hf => ?_)
      refine g_aload_n C dX3_pop_31 rfl 0 rfl ?_
      refine g_get C (R := RX3) (T := TX3) (N := 2) (k := 0) (v := .ref (ad w (t + 1))) h_t.2.2.1 (by decide) rfl h_t.1 hinX3 (by decide) fl_X3_19 rfl rfl dX3_pop_32 ?_
      refine g_aload_n C dX3_pop_35 rfl 0 rfl ?_
      refine g_get C (R := RX3) (T := TX3) (N := 2) (k := 1) (v := .int (rI s1 t 1)) h_t.2.2.1 (by decide) rfl h_t.1 hinX3 (by decide) fl_X3_7 rfl rfl dX3_pop_36 ?_
      refine g_iald C h_t.2.2.2 rfl h_t.2.1 dX3_pop_39 hf (fun hf => ?_)
      exact g_iret C dX3_pop_40 hf
    · refine g_iconst C (v := 0) dX3_pop_19 rfl ?_
      exact g_iret C dX3_pop_20 hf

set_option maxHeartbeats 4000000 in
set_option maxRecDepth 100000 in
theorem c_X3_push (l : Launch) (N : Nat) (w : WX) {t : Nat} (h_t : okO 3 w t) (a1 : Int32) {s s' : Mem} (hf : f_X3_push N t a1 s = some ((), s')) : CV l yX3_push (wz yX3_push cX3_push 2 none) ({ frames := 0, cells := 0, slots := 0, locals := 0 } : Room) [.ref (ad w t), .int a1] w s s' := by
  refine met_startV (cc := cX3_push) (ret := none) (own := RX3) (maxL := 2) (by decide) rfl (Nat.le_of_ble_eq_true rfl) (fun x C hR hl => ?_)
  refine g_lv (lv' := [(0, .ref (ad w t)), (1, .int a1)]) rfl ?_
  unfold f_X3_push at hf
  refine g_aload_n C dX3_push_0 rfl 0 rfl ?_
  refine g_get C (R := RX3) (T := TX3) (N := 2) (k := 1) (v := .int (rI s t 1)) h_t.2.2.1 (by decide) rfl h_t.1 hinX3 (by decide) fl_X3_7 rfl rfl dX3_push_1 ?_
  refine g_if_lt (tgt := 19) C dX3_push_4 (by decide) hf (fun hf => ?_) (fun hf => ?_)
  · exact g_vret C dX3_push_19 hf
  · refine g_aload_n C dX3_push_7 rfl 0 rfl ?_
    refine g_get C (R := RX3) (T := TX3) (N := 2) (k := 1) (v := .int (rI s t 1)) h_t.2.2.1 (by decide) rfl h_t.1 hinX3 (by decide) fl_X3_7 rfl rfl dX3_push_8 ?_
    refine g_aload_n C dX3_push_11 rfl 0 rfl ?_
    refine g_get C (R := RX3) (T := TX3) (N := 2) (k := 0) (v := .ref (ad w (t + 1))) h_t.2.2.1 (by decide) rfl h_t.1 hinX3 (by decide) fl_X3_19 rfl rfl dX3_push_12 ?_
    refine g_alenI C (v := (nI (ln (t + 1)))) h_t.2.2.2 rfl h_t.2.1 rfl dX3_push_15 ?_
    refine g_icmp_lt (tgt := 20) C dX3_push_16 (by decide) hf (fun hf => ?_) (fun hf => ?_)
    · refine g_aload_n C dX3_push_20 rfl 0 rfl ?_
      refine g_get C (R := RX3) (T := TX3) (N := 2) (k := 0) (v := .ref (ad w (t + 1))) h_t.2.2.1 (by decide) rfl h_t.1 hinX3 (by decide) fl_X3_19 rfl rfl dX3_push_21 ?_
      refine g_aload_n C dX3_push_24 rfl 0 rfl ?_
      refine g_get C (R := RX3) (T := TX3) (N := 2) (k := 1) (v := .int (rI s t 1)) h_t.2.2.1 (by decide) rfl h_t.1 hinX3 (by decide) fl_X3_7 rfl rfl dX3_push_25 ?_
      refine g_iload_n C dX3_push_28 rfl 1 rfl ?_
      refine g_iast C h_t.2.2.2 rfl h_t.2.1 dX3_push_29 hf (fun hf => ?_)
      refine g_nameS hf (fun s1 hf => ?_)
      refine g_aload_n C dX3_push_30 rfl 0 rfl ?_
      refine g_dup C dX3_push_31 rfl ?_
      refine g_get C (R := RX3) (T := TX3) (N := 2) (k := 1) (v := .int (rI s1 t 1)) h_t.2.2.1 (by decide) rfl h_t.1 hinX3 (by decide) fl_X3_7 rfl rfl dX3_push_32 ?_
      refine g_iconst C (v := 1) dX3_push_35 rfl ?_
      refine g_iadd C dX3_push_36 ?_
      refine g_putI C (R := RX3) (T := TX3) (N := 2) (k := 1) (ty := .int) tyX3 tyX3_ok nmX3 h_t.2.2.1 (by decide) rfl h_t.1 hinX3 (by decide) fl_X3_7 rfl rfl rfl rfl rfl (Nat.le_of_ble_eq_true rfl) fs_3_1 dX3_push_37 ?_
      refine g_nameS hf (fun s2 hf => ?_)
      exact g_vret C dX3_push_40 hf
    · exact g_vret C dX3_push_19 hf

set_option maxHeartbeats 4000000 in
set_option maxRecDepth 100000 in
theorem c_X3_top (l : Launch) (N : Nat) (w : WX) {t : Nat} (h_t : okO 3 w t) {s s' : Mem} {r : Int32} (hf : f_X3_top N t s = some (r, s')) : CI l yX3_top (wz yX3_top cX3_top 1 (some .int)) ({ frames := 0, cells := 0, slots := 0, locals := 0 } : Room) [.ref (ad w t)] w s r s' := by
  refine met_startI (cc := cX3_top) (ret := (some .int)) (own := RX3) (maxL := 1) (by decide) rfl (Nat.le_of_ble_eq_true rfl) (fun x C hR hl => ?_)
  refine g_lv (lv' := [(0, .ref (ad w t))]) rfl ?_
  unfold f_X3_top at hf
  refine g_aload_n C dX3_top_0 rfl 0 rfl ?_
  refine g_get C (R := RX3) (T := TX3) (N := 2) (k := 1) (v := .int (rI s t 1)) h_t.2.2.1 (by decide) rfl h_t.1 hinX3 (by decide) fl_X3_7 rfl rfl dX3_top_1 ?_
  refine g_if_le (tgt := 33) C dX3_top_4 (by decide) hf (fun hf => ?_) (fun hf => ?_)
  · refine g_iconst C (v := 0) dX3_top_33 rfl ?_
    exact g_iret C dX3_top_34 hf
  · refine g_aload_n C dX3_top_7 rfl 0 rfl ?_
    refine g_get C (R := RX3) (T := TX3) (N := 2) (k := 1) (v := .int (rI s t 1)) h_t.2.2.1 (by decide) rfl h_t.1 hinX3 (by decide) fl_X3_7 rfl rfl dX3_top_8 ?_
    refine g_aload_n C dX3_top_11 rfl 0 rfl ?_
    refine g_get C (R := RX3) (T := TX3) (N := 2) (k := 0) (v := .ref (ad w (t + 1))) h_t.2.2.1 (by decide) rfl h_t.1 hinX3 (by decide) fl_X3_19 rfl rfl dX3_top_12 ?_
    refine g_alenI C (v := (nI (ln (t + 1)))) h_t.2.2.2 rfl h_t.2.1 rfl dX3_top_15 ?_
    refine g_icmp_gt (tgt := 33) C dX3_top_16 (by decide) hf (fun hf => ?_) (fun hf => ?_)
    · refine g_iconst C (v := 0) dX3_top_33 rfl ?_
      exact g_iret C dX3_top_34 hf
    · refine g_aload_n C dX3_top_19 rfl 0 rfl ?_
      refine g_get C (R := RX3) (T := TX3) (N := 2) (k := 0) (v := .ref (ad w (t + 1))) h_t.2.2.1 (by decide) rfl h_t.1 hinX3 (by decide) fl_X3_19 rfl rfl dX3_top_20 ?_
      refine g_aload_n C dX3_top_23 rfl 0 rfl ?_
      refine g_get C (R := RX3) (T := TX3) (N := 2) (k := 1) (v := .int (rI s t 1)) h_t.2.2.1 (by decide) rfl h_t.1 hinX3 (by decide) fl_X3_7 rfl rfl dX3_top_24 ?_
      refine g_iconst C (v := 1) dX3_top_27 rfl ?_
      refine g_isub C dX3_top_28 ?_
      refine g_iald C h_t.2.2.2 rfl h_t.2.1 dX3_top_29 hf (fun hf => ?_)
      refine g_goto (tgt := 34) C dX3_top_30 (by decide) ?_
      exact g_iret C dX3_top_34 hf

set_option maxHeartbeats 4000000 in
set_option maxRecDepth 100000 in
theorem c_X3_has (l : Launch) (N : Nat) (w : WX) {t : Nat} (h_t : okO 3 w t) (a1 : Int32) {s s' : Mem} {r : Bool} (hf : f_X3_has N t a1 s = some (r, s')) : CB l yX3_has (wz yX3_has cX3_has 2 (some .boolean)) ({ frames := 0, cells := 0, slots := 0, locals := 0 } : Room) [.ref (ad w t), .int a1] w s r s' := by
  refine met_startB (cc := cX3_has) (ret := (some .boolean)) (own := RX3) (maxL := 2) (by decide) rfl (Nat.le_of_ble_eq_true rfl) (fun x C hR hl => ?_)
  refine g_lv (lv' := [(0, .ref (ad w t)), (1, .int a1)]) rfl ?_
  unfold f_X3_has at hf
  refine g_iload_n C dX3_has_0 rfl 1 rfl ?_
  refine g_if_lt (tgt := 16) C dX3_has_1 (by decide) hf (fun hf => ?_) (fun hf => ?_)
  · refine g_iconst C (v := 0) dX3_has_16 rfl ?_
    exact g_zret (v := false) C dX3_has_17 hf
  · refine g_iload_n C dX3_has_4 rfl 1 rfl ?_
    refine g_aload_n C dX3_has_5 rfl 0 rfl ?_
    refine g_get C (R := RX3) (T := TX3) (N := 2) (k := 1) (v := .int (rI s t 1)) h_t.2.2.1 (by decide) rfl h_t.1 hinX3 (by decide) fl_X3_7 rfl rfl dX3_has_6 ?_
    refine g_icmp_ge (tgt := 16) C dX3_has_9 (by decide) hf (fun hf => ?_) (fun hf => ?_)
    · refine g_iconst C (v := 0) dX3_has_16 rfl ?_
      exact g_zret (v := false) C dX3_has_17 hf
    · refine g_iconst C (v := 1) dX3_has_12 rfl ?_
      refine g_goto (tgt := 17) C dX3_has_13 (by decide) ?_
      exact g_zret (v := true) C dX3_has_17 hf

set_option maxHeartbeats 4000000 in
set_option maxRecDepth 100000 in
theorem c_X3_get (l : Launch) (N : Nat) (w : WX) {t : Nat} (h_t : okO 3 w t) (a1 : Int32) {s s' : Mem} {r : Int32} (hf : f_X3_get N t a1 s = some (r, s')) : CI l yX3_get (wz yX3_get cX3_get 2 (some .int)) ({ frames := 0, cells := 0, slots := 0, locals := 0 } : Room) [.ref (ad w t), .int a1] w s r s' := by
  refine met_startI (cc := cX3_get) (ret := (some .int)) (own := RX3) (maxL := 2) (by decide) rfl (Nat.le_of_ble_eq_true rfl) (fun x C hR hl => ?_)
  refine g_lv (lv' := [(0, .ref (ad w t)), (1, .int a1)]) rfl ?_
  unfold f_X3_get at hf
  refine g_iload_n C dX3_get_0 rfl 1 rfl ?_
  refine g_if_lt (tgt := 30) C dX3_get_1 (by decide) hf (fun hf => ?_) (fun hf => ?_)
  · refine g_iconst C (v := 0) dX3_get_30 rfl ?_
    exact g_iret C dX3_get_31 hf
  · refine g_iload_n C dX3_get_4 rfl 1 rfl ?_
    refine g_aload_n C dX3_get_5 rfl 0 rfl ?_
    refine g_get C (R := RX3) (T := TX3) (N := 2) (k := 1) (v := .int (rI s t 1)) h_t.2.2.1 (by decide) rfl h_t.1 hinX3 (by decide) fl_X3_7 rfl rfl dX3_get_6 ?_
    refine g_icmp_ge (tgt := 30) C dX3_get_9 (by decide) hf (fun hf => ?_) (fun hf => ?_)
    · refine g_iconst C (v := 0) dX3_get_30 rfl ?_
      exact g_iret C dX3_get_31 hf
    · refine g_iload_n C dX3_get_12 rfl 1 rfl ?_
      refine g_aload_n C dX3_get_13 rfl 0 rfl ?_
      refine g_get C (R := RX3) (T := TX3) (N := 2) (k := 0) (v := .ref (ad w (t + 1))) h_t.2.2.1 (by decide) rfl h_t.1 hinX3 (by decide) fl_X3_19 rfl rfl dX3_get_14 ?_
      refine g_alenI C (v := (nI (ln (t + 1)))) h_t.2.2.2 rfl h_t.2.1 rfl dX3_get_17 ?_
      refine g_icmp_ge (tgt := 30) C dX3_get_18 (by decide) hf (fun hf => ?_) (fun hf => ?_)
      · refine g_iconst C (v := 0) dX3_get_30 rfl ?_
        exact g_iret C dX3_get_31 hf
      · refine g_aload_n C dX3_get_21 rfl 0 rfl ?_
        refine g_get C (R := RX3) (T := TX3) (N := 2) (k := 0) (v := .ref (ad w (t + 1))) h_t.2.2.1 (by decide) rfl h_t.1 hinX3 (by decide) fl_X3_19 rfl rfl dX3_get_22 ?_
        refine g_iload_n C dX3_get_25 rfl 1 rfl ?_
        refine g_iald C h_t.2.2.2 rfl h_t.2.1 dX3_get_26 hf (fun hf => ?_)
        refine g_goto (tgt := 31) C dX3_get_27 (by decide) ?_
        exact g_iret C dX3_get_31 hf

set_option maxHeartbeats 4000000 in
set_option maxRecDepth 100000 in
theorem c_J7_fill_53178 (l : Launch) (N : Nat) (w : WX) {ar : Nat} (h_ar : ar ∈ SS w ∧ kd ar = 20) (a1 : Int32) {s s' : Mem} (hf : f_J7_fill_53178 N ar a1 s = some ((), s')) : CV l yJ7_fill_53178 (wz yJ7_fill_53178 cJ7_fill_53178 4 none) ({ frames := 0, cells := 0, slots := 0, locals := 0 } : Room) [.ref (ad w ar), .int a1] w s s' := by
  refine met_startV (cc := cJ7_fill_53178) (ret := none) (own := RJ7) (maxL := 4) (by decide) rfl (Nat.le_of_ble_eq_true rfl) (fun x C hR hl => ?_)
  have j5 : ∀ (n : Nat), ∀ (v1 : Int32) (v2 : Int32) (v3 : Int32) (s : Mem), f_J7_fill_53178_L5 N ar n v1 v2 v3 s = some ((), s') → G x (QV x w s') 4 w 5 [(0, .ref (ad w ar)), (1, .int v1), (2, .int v2), (3, .int v3)] [] s := by
    intro n
    induction n with
    | zero => intro v1 v2 v3 s hf; cases hf
    | succ n ih =>
      intro v1 v2 v3 s hf
      unfold f_J7_fill_53178_L5 at hf
      refine g_iload_n C dJ7_fill_53178_5 rfl 2 rfl ?_
      refine g_iload_n C dJ7_fill_53178_6 rfl 3 rfl ?_
      refine g_icmp_ge (tgt := 20) C dJ7_fill_53178_7 (by decide) hf (fun hf => ?_) (fun hf => ?_)
      · exact g_vret C dJ7_fill_53178_20 hf
      · refine g_aload_n C dJ7_fill_53178_10 rfl 0 rfl ?_
        refine g_iload_n C dJ7_fill_53178_11 rfl 2 rfl ?_
        refine g_iload_n C dJ7_fill_53178_12 rfl 1 rfl ?_
        refine g_iast C h_ar.2 rfl h_ar.1 dJ7_fill_53178_13 hf (fun hf => ?_)
        refine g_nameS hf (fun s1 hf => ?_)
        refine g_iinc (v' := v2 + 1) (lv' := [(2, .int (v2 + 1)), (0, .ref (ad w ar)), (1, .int v1), (3, .int v3)]) C dJ7_fill_53178_14 2 rfl rfl (by decide) rfl ?_
        refine g_goto (tgt := 5) C dJ7_fill_53178_17 (by decide) ?_
        refine g_sub [1, 2, 0, 3] rfl ?_
        exact ih _ _ _ _ hf
  refine g_lv (lv' := [(0, .ref (ad w ar)), (1, .int a1)]) rfl ?_
  unfold f_J7_fill_53178 at hf
  refine g_iconst C (v := 0) dJ7_fill_53178_0 rfl ?_
  refine g_istore_n (lv' := [(2, .int 0), (0, .ref (ad w ar)), (1, .int a1)]) C dJ7_fill_53178_1 rfl (by decide) rfl ?_
  refine g_aload_n C dJ7_fill_53178_2 rfl 1 rfl ?_
  refine g_alenI C (v := (nI (ln ar))) h_ar.2 rfl h_ar.1 rfl dJ7_fill_53178_3 ?_
  refine g_istore_n (lv' := [(3, .int (nI (ln ar))), (2, .int 0), (0, .ref (ad w ar)), (1, .int a1)]) C dJ7_fill_53178_4 rfl (by decide) rfl ?_
  refine g_sub [2, 3, 1, 0] rfl ?_
  exact j5 N _ _ _ _ hf

set_option maxHeartbeats 4000000 in
set_option maxRecDepth 100000 in
theorem c_X4_become (l : Launch) (N : Nat) (w : WX) {t : Nat} (h_t : okO 4 w t) (a1 : Int32) (a2 : Int32) {s s' : Mem} (hf : f_X4_become N t a1 a2 s = some ((), s')) : CV l yX4_become (wz yX4_become cX4_become 3 none) ({ frames := 1, cells := 0, slots := 0, locals := 23 } : Room) [.ref (ad w t), .int a1, .int a2] w s s' := by
  refine met_startV (cc := cX4_become) (ret := none) (own := RX4) (maxL := 3) (by decide) rfl (Nat.le_of_ble_eq_true rfl) (fun x C hR hl => ?_)
  refine g_lv (lv' := [(0, .ref (ad w t)), (1, .int a1), (2, .int a2)]) rfl ?_
  unfold f_X4_become at hf
  refine g_aload_n C dX4_become_0 rfl 0 rfl ?_
  refine g_iload_n C dX4_become_1 rfl 1 rfl ?_
  refine g_putI C (R := RX4) (T := TX4) (N := 3) (k := 1) (ty := .int) tyX4 tyX4_ok nmX4 h_t.2.2.1 (by decide) rfl h_t.1 hinX4 (by decide) fl_X4_15 rfl rfl rfl rfl rfl (Nat.le_of_ble_eq_true rfl) fs_4_1 dX4_become_2 ?_
  refine g_nameS hf (fun s1 hf => ?_)
  refine g_aload_n C dX4_become_5 rfl 0 rfl ?_
  refine g_iconst C (v := 0) dX4_become_6 rfl ?_
  refine g_iload_n C dX4_become_7 rfl 2 rfl ?_
  refine g_aload_n C dX4_become_8 rfl 0 rfl ?_
  refine g_get C (R := RX4) (T := TX4) (N := 3) (k := 0) (v := .ref (ad w (t + 1))) h_t.2.2.1 (by decide) rfl h_t.1 hinX4 (by decide) fl_X4_9 rfl rfl dX4_become_9 ?_
  refine g_alenI C (v := (nI (ln (t + 1)))) h_t.2.2.2 rfl h_t.2.1 rfl dX4_become_12 ?_
  refine g_imin C (kR_of hR (by decide)) ml_X4_22 sm_J9_min_7cf53 ini_J9 cd_J9_min_7cf53 (Nat.le_of_ble_eq_true rfl) dX4_become_13 ?_
  refine g_imax C (kR_of hR (by decide)) ml_X4_28 sm_J9_max_7cf53 ini_J9 cd_J9_max_7cf53 (Nat.le_of_ble_eq_true rfl) dX4_become_16 ?_
  refine g_putI C (R := RX4) (T := TX4) (N := 3) (k := 2) (ty := .int) tyX4 tyX4_ok nmX4 h_t.2.2.1 (by decide) rfl h_t.1 hinX4 (by decide) fl_X4_19 rfl rfl rfl rfl rfl (Nat.le_of_ble_eq_true rfl) fs_4_2 dX4_become_19 ?_
  refine g_nameS hf (fun s2 hf => ?_)
  refine g_aload_n C dX4_become_22 rfl 0 rfl ?_
  refine g_get C (R := RX4) (T := TX4) (N := 3) (k := 0) (v := .ref (ad w (t + 1))) h_t.2.2.1 (by decide) rfl h_t.1 hinX4 (by decide) fl_X4_9 rfl rfl dX4_become_23 ?_
  refine g_iconst C (v := 0) dX4_become_26 rfl ?_
  refine g_callSV C [.ref (ad w (t + 1)), .int 0] (fun _ h => c_J7_fill_53178 (kl x) N w ⟨h_t.2.1, h_t.2.2.2⟩ _ h) (g_cwS C hR ml_X4_31 sm_J7_fill_53178 ini_J7 cd_J7_fill_53178 hd_J7_fill_53178 (by decide)) rfl _ rfl (Nat.le_of_ble_eq_true rfl) dX4_become_27 hf (fun s3 hf => ?_)
  exact g_vret C dX4_become_30 hf

set_option maxHeartbeats 4000000 in
set_option maxRecDepth 100000 in
theorem c_X4_refusalAs (l : Launch) (N : Nat) (w : WX) {t : Nat} (h_t : okO 4 w t) (a1 : Int32) {s s' : Mem} {r : Int32} (hf : f_X4_refusalAs N t a1 s = some (r, s')) : CI l yX4_refusalAs (wz yX4_refusalAs cX4_refusalAs 2 (some .int)) ({ frames := 0, cells := 0, slots := 0, locals := 0 } : Room) [.ref (ad w t), .int a1] w s r s' := by
  refine met_startI (cc := cX4_refusalAs) (ret := (some .int)) (own := RX4) (maxL := 2) (by decide) rfl (Nat.le_of_ble_eq_true rfl) (fun x C hR hl => ?_)
  refine g_lv (lv' := [(0, .ref (ad w t)), (1, .int a1)]) rfl ?_
  unfold f_X4_refusalAs at hf
  refine g_aload_n C dX4_refusalAs_0 rfl 0 rfl ?_
  refine g_get C (R := RX4) (T := TX4) (N := 3) (k := 1) (v := .int (rI s t 1)) h_t.2.2.1 (by decide) rfl h_t.1 hinX4 (by decide) fl_X4_15 rfl rfl dX4_refusalAs_1 ?_
  refine g_iconst C (v := (-1)) dX4_refusalAs_4 rfl ?_
  refine g_icmp_ne (tgt := 11) C dX4_refusalAs_5 (by decide) hf (fun hf => ?_) (fun hf => ?_)
  · refine g_aload_n C dX4_refusalAs_11 rfl 0 rfl ?_
    refine g_get C (R := RX4) (T := TX4) (N := 3) (k := 1) (v := .int (rI s t 1)) h_t.2.2.1 (by decide) rfl h_t.1 hinX4 (by decide) fl_X4_15 rfl rfl dX4_refusalAs_12 ?_
    refine g_iload_n C dX4_refusalAs_15 rfl 1 rfl ?_
    refine g_icmp_ne (tgt := 23) C dX4_refusalAs_16 (by decide) hf (fun hf => ?_) (fun hf => ?_)
    · refine g_bipush C (v := (-13)) dX4_refusalAs_23 (by decide) ?_
      exact g_iret C dX4_refusalAs_25 hf
    · refine g_iconst C (v := 0) dX4_refusalAs_19 rfl ?_
      refine g_goto (tgt := 25) C dX4_refusalAs_20 (by decide) ?_
      exact g_iret C dX4_refusalAs_25 hf
  · refine g_bipush C (v := (-11)) dX4_refusalAs_8 (by decide) ?_
    exact g_iret C dX4_refusalAs_10 hf

set_option maxHeartbeats 4000000 in
set_option maxRecDepth 100000 in
theorem c_X4_has (l : Launch) (N : Nat) (w : WX) {t : Nat} (h_t : okO 4 w t) (a1 : Int32) {s s' : Mem} {r : Bool} (hf : f_X4_has N t a1 s = some (r, s')) : CB l yX4_has (wz yX4_has cX4_has 2 (some .boolean)) ({ frames := 0, cells := 0, slots := 0, locals := 0 } : Room) [.ref (ad w t), .int a1] w s r s' := by
  refine met_startB (cc := cX4_has) (ret := (some .boolean)) (own := RX4) (maxL := 2) (by decide) rfl (Nat.le_of_ble_eq_true rfl) (fun x C hR hl => ?_)
  refine g_lv (lv' := [(0, .ref (ad w t)), (1, .int a1)]) rfl ?_
  unfold f_X4_has at hf
  refine g_iload_n C dX4_has_0 rfl 1 rfl ?_
  refine g_if_lt (tgt := 16) C dX4_has_1 (by decide) hf (fun hf => ?_) (fun hf => ?_)
  · refine g_iconst C (v := 0) dX4_has_16 rfl ?_
    exact g_zret (v := false) C dX4_has_17 hf
  · refine g_iload_n C dX4_has_4 rfl 1 rfl ?_
    refine g_aload_n C dX4_has_5 rfl 0 rfl ?_
    refine g_get C (R := RX4) (T := TX4) (N := 3) (k := 2) (v := .int (rI s t 2)) h_t.2.2.1 (by decide) rfl h_t.1 hinX4 (by decide) fl_X4_19 rfl rfl dX4_has_6 ?_
    refine g_icmp_ge (tgt := 16) C dX4_has_9 (by decide) hf (fun hf => ?_) (fun hf => ?_)
    · refine g_iconst C (v := 0) dX4_has_16 rfl ?_
      exact g_zret (v := false) C dX4_has_17 hf
    · refine g_iconst C (v := 1) dX4_has_12 rfl ?_
      refine g_goto (tgt := 17) C dX4_has_13 (by decide) ?_
      exact g_zret (v := true) C dX4_has_17 hf

set_option maxHeartbeats 4000000 in
set_option maxRecDepth 100000 in
theorem c_X4_get (l : Launch) (N : Nat) (w : WX) {t : Nat} (h_t : okO 4 w t) (a1 : Int32) {s s' : Mem} {r : Int32} (hf : f_X4_get N t a1 s = some (r, s')) : CI l yX4_get (wz yX4_get cX4_get 2 (some .int)) ({ frames := 1, cells := 0, slots := 0, locals := 21 } : Room) [.ref (ad w t), .int a1] w s r s' := by
  refine met_startI (cc := cX4_get) (ret := (some .int)) (own := RX4) (maxL := 2) (by decide) rfl (Nat.le_of_ble_eq_true rfl) (fun x C hR hl => ?_)
  refine g_lv (lv' := [(0, .ref (ad w t)), (1, .int a1)]) rfl ?_
  unfold f_X4_get at hf
  refine g_aload_n C dX4_get_0 rfl 0 rfl ?_
  refine g_iload_n C dX4_get_1 rfl 1 rfl ?_
  refine g_callVB C (R := RX4) (T := TX4) (N := 3) [.int a1] (fun _ _ h => c_X4_has (kl x) N w h_t _ h) (g_cwV C hR ml_X4_37 im_X4_has sl_X4_has ini_X4 cd_X4_has hd_X4_has (by decide)) h_t.2.2.1 (by decide) rfl h_t.1 rfl _ rfl (Nat.le_of_ble_eq_true rfl) dX4_get_2 hf (fun r1 s1 hf => ?_)
  refine g_ifeqB (tgt := 26) C dX4_get_5 (by decide) hf (fun hf => ?_) (fun hf => ?_)
  · refine g_iconst C (v := 0) dX4_get_26 rfl ?_
    exact g_iret C dX4_get_27 hf
  · refine g_iload_n C dX4_get_8 rfl 1 rfl ?_
    refine g_aload_n C dX4_get_9 rfl 0 rfl ?_
    refine g_get C (R := RX4) (T := TX4) (N := 3) (k := 0) (v := .ref (ad w (t + 1))) h_t.2.2.1 (by decide) rfl h_t.1 hinX4 (by decide) fl_X4_9 rfl rfl dX4_get_10 ?_
    refine g_alenI C (v := (nI (ln (t + 1)))) h_t.2.2.2 rfl h_t.2.1 rfl dX4_get_13 ?_
    refine g_icmp_ge (tgt := 26) C dX4_get_14 (by decide) hf (fun hf => ?_) (fun hf => ?_)
    · refine g_iconst C (v := 0) dX4_get_26 rfl ?_
      exact g_iret C dX4_get_27 hf
    · refine g_aload_n C dX4_get_17 rfl 0 rfl ?_
      refine g_get C (R := RX4) (T := TX4) (N := 3) (k := 0) (v := .ref (ad w (t + 1))) h_t.2.2.1 (by decide) rfl h_t.1 hinX4 (by decide) fl_X4_9 rfl rfl dX4_get_18 ?_
      refine g_iload_n C dX4_get_21 rfl 1 rfl ?_
      refine g_iald C h_t.2.2.2 rfl h_t.2.1 dX4_get_22 hf (fun hf => ?_)
      refine g_goto (tgt := 27) C dX4_get_23 (by decide) ?_
      exact g_iret C dX4_get_27 hf

set_option maxHeartbeats 4000000 in
set_option maxRecDepth 100000 in
theorem c_X4_set (l : Launch) (N : Nat) (w : WX) {t : Nat} (h_t : okO 4 w t) (a1 : Int32) (a2 : Int32) {s s' : Mem} (hf : f_X4_set N t a1 a2 s = some ((), s')) : CV l yX4_set (wz yX4_set cX4_set 3 none) ({ frames := 1, cells := 0, slots := 0, locals := 21 } : Room) [.ref (ad w t), .int a1, .int a2] w s s' := by
  refine met_startV (cc := cX4_set) (ret := none) (own := RX4) (maxL := 3) (by decide) rfl (Nat.le_of_ble_eq_true rfl) (fun x C hR hl => ?_)
  refine g_lv (lv' := [(0, .ref (ad w t)), (1, .int a1), (2, .int a2)]) rfl ?_
  unfold f_X4_set at hf
  refine g_aload_n C dX4_set_0 rfl 0 rfl ?_
  refine g_iload_n C dX4_set_1 rfl 1 rfl ?_
  refine g_callVB C (R := RX4) (T := TX4) (N := 3) [.int a1] (fun _ _ h => c_X4_has (kl x) N w h_t _ h) (g_cwV C hR ml_X4_37 im_X4_has sl_X4_has ini_X4 cd_X4_has hd_X4_has (by decide)) h_t.2.2.1 (by decide) rfl h_t.1 rfl _ rfl (Nat.le_of_ble_eq_true rfl) dX4_set_2 hf (fun r1 s1 hf => ?_)
  refine g_ifeqB (tgt := 17) C dX4_set_5 (by decide) hf (fun hf => ?_) (fun hf => ?_)
  · exact g_vret C dX4_set_17 hf
  · refine g_iload_n C dX4_set_8 rfl 1 rfl ?_
    refine g_aload_n C dX4_set_9 rfl 0 rfl ?_
    refine g_get C (R := RX4) (T := TX4) (N := 3) (k := 0) (v := .ref (ad w (t + 1))) h_t.2.2.1 (by decide) rfl h_t.1 hinX4 (by decide) fl_X4_9 rfl rfl dX4_set_10 ?_
    refine g_alenI C (v := (nI (ln (t + 1)))) h_t.2.2.2 rfl h_t.2.1 rfl dX4_set_13 ?_
    refine g_icmp_lt (tgt := 18) C dX4_set_14 (by decide) hf (fun hf => ?_) (fun hf => ?_)
    · refine g_aload_n C dX4_set_18 rfl 0 rfl ?_
      refine g_get C (R := RX4) (T := TX4) (N := 3) (k := 1) (v := .int (rI s1 t 1)) h_t.2.2.1 (by decide) rfl h_t.1 hinX4 (by decide) fl_X4_15 rfl rfl dX4_set_19 ?_
      refine g_if_ne (tgt := 36) C dX4_set_22 (by decide) hf (fun hf => ?_) (fun hf => ?_)
      · refine g_aload_n C dX4_set_36 rfl 0 rfl ?_
        refine g_get C (R := RX4) (T := TX4) (N := 3) (k := 0) (v := .ref (ad w (t + 1))) h_t.2.2.1 (by decide) rfl h_t.1 hinX4 (by decide) fl_X4_9 rfl rfl dX4_set_37 ?_
        refine g_iload_n C dX4_set_40 rfl 1 rfl ?_
        refine g_aload_n C dX4_set_41 rfl 0 rfl ?_
        refine g_get C (R := RX4) (T := TX4) (N := 3) (k := 1) (v := .int (rI s1 t 1)) h_t.2.2.1 (by decide) rfl h_t.1 hinX4 (by decide) fl_X4_15 rfl rfl dX4_set_42 ?_
        refine g_iconst C (v := 1) dX4_set_45 rfl ?_
        refine g_icmp_ne (tgt := 54) C dX4_set_46 (by decide) hf (fun hf => ?_) (fun hf => ?_)
        · refine g_iload_n C dX4_set_54 rfl 2 rfl ?_
          refine g_iast C h_t.2.2.2 rfl h_t.2.1 dX4_set_55 hf (fun hf => ?_)
          refine g_nameS hf (fun s2 hf => ?_)
          exact g_vret C dX4_set_56 hf
        · refine g_iload_n C dX4_set_49 rfl 2 rfl ?_
          refine g_i2s C dX4_set_50 ?_
          refine g_goto (tgt := 55) C dX4_set_51 (by decide) ?_
          refine g_iast C h_t.2.2.2 rfl h_t.2.1 dX4_set_55 hf (fun hf => ?_)
          refine g_nameS hf (fun s3 hf => ?_)
          exact g_vret C dX4_set_56 hf
      · refine g_aload_n C dX4_set_25 rfl 0 rfl ?_
        refine g_get C (R := RX4) (T := TX4) (N := 3) (k := 0) (v := .ref (ad w (t + 1))) h_t.2.2.1 (by decide) rfl h_t.1 hinX4 (by decide) fl_X4_9 rfl rfl dX4_set_26 ?_
        refine g_iload_n C dX4_set_29 rfl 1 rfl ?_
        refine g_iload_n C dX4_set_30 rfl 2 rfl ?_
        refine g_i2b C dX4_set_31 ?_
        refine g_iast C h_t.2.2.2 rfl h_t.2.1 dX4_set_32 hf (fun hf => ?_)
        refine g_nameS hf (fun s4 hf => ?_)
        refine g_goto (tgt := 56) C dX4_set_33 (by decide) ?_
        exact g_vret C dX4_set_56 hf
    · exact g_vret C dX4_set_17 hf

set_option maxHeartbeats 4000000 in
set_option maxRecDepth 100000 in
theorem c_X5_isFull (l : Launch) (N : Nat) (w : WX) {t : Nat} (h_t : okO 5 w t) {s s' : Mem} {r : Bool} (hf : f_X5_isFull N t s = some (r, s')) : CB l yX5_isFull (wz yX5_isFull cX5_isFull 1 (some .boolean)) ({ frames := 0, cells := 0, slots := 0, locals := 0 } : Room) [.ref (ad w t)] w s r s' := by
  refine met_startB (cc := cX5_isFull) (ret := (some .boolean)) (own := RX5) (maxL := 1) (by decide) rfl (Nat.le_of_ble_eq_true rfl) (fun x C hR hl => ?_)
  refine g_lv (lv' := [(0, .ref (ad w t))]) rfl ?_
  unfold f_X5_isFull at hf
  refine g_aload_n C dX5_isFull_0 rfl 0 rfl ?_
  refine g_get C (R := RX5) (T := TX5) (N := 4) (k := 3) (v := .int (rI s t 3)) h_t.2.2.1 (by decide) rfl h_t.1 hinX5 (by decide) fl_X5_9 rfl rfl dX5_isFull_1 ?_
  refine g_aload_n C dX5_isFull_4 rfl 0 rfl ?_
  refine g_get C (R := RX5) (T := TX5) (N := 4) (k := 1) (v := .int (rI s t 1)) h_t.2.2.1 (by decide) rfl h_t.1 hinX5 (by decide) fl_X5_24 rfl rfl dX5_isFull_5 ?_
  refine g_icmp_lt (tgt := 15) C dX5_isFull_8 (by decide) hf (fun hf => ?_) (fun hf => ?_)
  · refine g_iconst C (v := 0) dX5_isFull_15 rfl ?_
    exact g_zret (v := false) C dX5_isFull_16 hf
  · refine g_iconst C (v := 1) dX5_isFull_11 rfl ?_
    refine g_goto (tgt := 16) C dX5_isFull_12 (by decide) ?_
    exact g_zret (v := true) C dX5_isFull_16 hf

set_option maxHeartbeats 4000000 in
set_option maxRecDepth 100000 in
theorem c_X5_clear (l : Launch) (N : Nat) (w : WX) {t : Nat} (h_t : okO 5 w t) {s s' : Mem} (hf : f_X5_clear N t s = some ((), s')) : CV l yX5_clear (wz yX5_clear cX5_clear 1 none) ({ frames := 0, cells := 0, slots := 0, locals := 0 } : Room) [.ref (ad w t)] w s s' := by
  refine met_startV (cc := cX5_clear) (ret := none) (own := RX5) (maxL := 1) (by decide) rfl (Nat.le_of_ble_eq_true rfl) (fun x C hR hl => ?_)
  refine g_lv (lv' := [(0, .ref (ad w t))]) rfl ?_
  unfold f_X5_clear at hf
  refine g_aload_n C dX5_clear_0 rfl 0 rfl ?_
  refine g_iconst C (v := 0) dX5_clear_1 rfl ?_
  refine g_putI C (R := RX5) (T := TX5) (N := 4) (k := 3) (ty := .int) tyX5 tyX5_ok nmX5 h_t.2.2.1 (by decide) rfl h_t.1 hinX5 (by decide) fl_X5_9 rfl rfl rfl rfl rfl (Nat.le_of_ble_eq_true rfl) fs_5_3 dX5_clear_2 ?_
  refine g_nameS hf (fun s1 hf => ?_)
  exact g_vret C dX5_clear_5 hf

set_option maxHeartbeats 4000000 in
set_option maxRecDepth 100000 in
theorem c_X8_isUnder (l : Launch) (N : Nat) (w : WX) (hS : SS w = Sc) (a0 : Int32) (a1 : Int32) {s s' : Mem} {r : Bool} (hf : f_X8_isUnder N a0 a1 s = some (r, s')) : CB l yX8_isUnder (wz yX8_isUnder cX8_isUnder 4 (some .boolean)) ({ frames := 0, cells := 0, slots := 0, locals := 0 } : Room) [.int a0, .int a1] w s r s' := by
  refine met_startB (cc := cX8_isUnder) (ret := (some .boolean)) (own := RX8) (maxL := 4) (by decide) rfl (Nat.le_of_ble_eq_true rfl) (fun x C hR hl => ?_)
  have j4 : ∀ (n : Nat), ∀ (v1 : Int32) (v2 : Int32) (v3 : Int32) (s : Mem), f_X8_isUnder_L4 N n v1 v2 v3 s = some (r, s') → G x (QB x w r s') 4 w 4 [(1, .int v1), (2, .int v2), (3, .int v3)] [] s := by
    intro n
    induction n with
    | zero => intro v1 v2 v3 s hf; cases hf
    | succ n ih =>
      intro v1 v2 v3 s hf
      unfold f_X8_isUnder_L4 at hf
      refine g_iload_n C dX8_isUnder_4 rfl 2 rfl ?_
      refine g_getK C fl_X8_328 dX8_isUnder_5 ?_
      refine g_lenK C dX8_isUnder_8 ?_
      refine g_icmp_ge (tgt := 43) C dX8_isUnder_9 (by decide) hf (fun hf => ?_) (fun hf => ?_)
      · refine g_iconst C (v := 0) dX8_isUnder_43 rfl ?_
        exact g_zret (v := false) C dX8_isUnder_44 hf
      · refine g_iload_n C dX8_isUnder_12 rfl 1 rfl ?_
        refine g_if_lt (tgt := 43) C dX8_isUnder_13 (by decide) hf (fun hf => ?_) (fun hf => ?_)
        · refine g_iconst C (v := 0) dX8_isUnder_43 rfl ?_
          exact g_zret (v := false) C dX8_isUnder_44 hf
        · refine g_iload_n C dX8_isUnder_16 rfl 1 rfl ?_
          refine g_getK C fl_X8_328 dX8_isUnder_17 ?_
          refine g_lenK C dX8_isUnder_20 ?_
          refine g_icmp_ge (tgt := 43) C dX8_isUnder_21 (by decide) hf (fun hf => ?_) (fun hf => ?_)
          · refine g_iconst C (v := 0) dX8_isUnder_43 rfl ?_
            exact g_zret (v := false) C dX8_isUnder_44 hf
          · refine g_iload_n C dX8_isUnder_24 rfl 1 rfl ?_
            refine g_iload_n C dX8_isUnder_25 rfl 0 rfl ?_
            refine g_icmp_ne (tgt := 31) C dX8_isUnder_26 (by decide) hf (fun hf => ?_) (fun hf => ?_)
            · refine g_getK C fl_X8_328 dX8_isUnder_31 ?_
              refine g_iload_n C dX8_isUnder_34 rfl 1 rfl ?_
              refine g_ialdK C dX8_isUnder_35 hf (fun hf => ?_)
              refine g_istore_n (lv' := [(2, .int (kaV v2.toNatClampNeg)), (1, .int v1), (3, .int v3)]) C dX8_isUnder_36 rfl (by decide) rfl ?_
              refine g_iinc (v' := v3 + 1) (lv' := [(3, .int (v3 + 1)), (2, .int (kaV v2.toNatClampNeg)), (1, .int v1)]) C dX8_isUnder_37 2 rfl rfl (by decide) rfl ?_
              refine g_goto (tgt := 4) C dX8_isUnder_40 (by decide) ?_
              refine g_sub [2, 1, 0] rfl ?_
              exact ih _ _ _ _ hf
            · refine g_iconst C (v := 1) dX8_isUnder_29 rfl ?_
              exact g_zret (v := true) C dX8_isUnder_30 hf
  refine g_lv (lv' := [(0, .int a0), (1, .int a1)]) rfl ?_
  unfold f_X8_isUnder at hf
  refine g_iload_n C dX8_isUnder_0 rfl 0 rfl ?_
  refine g_istore_n (lv' := [(2, .int a0), (0, .int a0), (1, .int a1)]) C dX8_isUnder_1 rfl (by decide) rfl ?_
  refine g_iconst C (v := 0) dX8_isUnder_2 rfl ?_
  refine g_istore_n (lv' := [(3, .int 0), (2, .int a0), (0, .int a0), (1, .int a1)]) C dX8_isUnder_3 rfl (by decide) rfl ?_
  refine g_sub [3, 1, 0] rfl ?_
  exact j4 N _ _ _ _ hf

set_option maxHeartbeats 4000000 in
set_option maxRecDepth 100000 in
theorem c_X0_become_k (l : Launch) (N : Nat) (w : WX) (hS : SS w = Sc) {s s' : Mem} (hf : f_X0_become_k N s = some ((), s')) : CV l yX0_become (wz yX0_become cX0_become 2 none) ({ frames := 2, cells := 0, slots := 0, locals := 61 } : Room) [.ref (ad w 16), .ref (ad w 1)] w s s' := by
  refine met_startV (cc := cX0_become) (ret := none) (own := RX0) (maxL := 2) (by decide) rfl (Nat.le_of_ble_eq_true rfl) (fun x C hR hl => ?_)
  refine g_lv (lv' := [(0, .ref (ad w 16)), (1, .ref (ad w 1))]) rfl ?_
  unfold f_X0_become_k at hf
  refine g_aload_n C dX0_become_0 rfl 0 rfl ?_
  refine g_get C (R := RX0) (T := TX0) (N := 8) (k := 0) (v := .ref (ad w 17)) kd_16 (by decide) rfl (in_16 hS) hinX0 (by decide) fl_X0_14 rfl rfl dX0_become_1 ?_
  refine g_aload_n C dX0_become_4 rfl 1 rfl ?_
  refine g_get C (R := RX0) (T := TX0) (N := 8) (k := 0) (v := .ref (ad w 2)) kd_1 (by decide) rfl (in_1 hS) hinX0 (by decide) fl_X0_14 rfl rfl dX0_become_5 ?_
  refine g_callVV C (R := RX5) (T := TX5) (N := 4) [.ref (ad w 2)] (fun _ h => c_X5_become (kl x) N w (ok_17 hS) (ok_2 hS) h) (g_cwV C hR ml_X0_50 im_X5_become sl_X5_become ini_X5 cd_X5_become hd_X5_become (by decide)) kd_17 (by decide) rfl (in_17 hS) rfl _ rfl (Nat.le_of_ble_eq_true rfl) dX0_become_8 hf (fun s1 hf => ?_)
  refine g_aload_n C dX0_become_11 rfl 0 rfl ?_
  refine g_get C (R := RX0) (T := TX0) (N := 8) (k := 1) (v := .ref (ad w 19)) kd_16 (by decide) rfl (in_16 hS) hinX0 (by decide) fl_X0_20 rfl rfl dX0_become_12 ?_
  refine g_aload_n C dX0_become_15 rfl 1 rfl ?_
  refine g_get C (R := RX0) (T := TX0) (N := 8) (k := 1) (v := .ref (ad w 4)) kd_1 (by decide) rfl (in_1 hS) hinX0 (by decide) fl_X0_20 rfl rfl dX0_become_16 ?_
  refine g_callVV C (R := RX5) (T := TX5) (N := 4) [.ref (ad w 4)] (fun _ h => c_X5_become (kl x) N w (ok_19 hS) (ok_4 hS) h) (g_cwV C hR ml_X0_50 im_X5_become sl_X5_become ini_X5 cd_X5_become hd_X5_become (by decide)) kd_19 (by decide) rfl (in_19 hS) rfl _ rfl (Nat.le_of_ble_eq_true rfl) dX0_become_19 hf (fun s2 hf => ?_)
  refine g_aload_n C dX0_become_22 rfl 0 rfl ?_
  refine g_get C (R := RX0) (T := TX0) (N := 8) (k := 2) (v := .ref (ad w 21)) kd_16 (by decide) rfl (in_16 hS) hinX0 (by decide) fl_X0_23 rfl rfl dX0_become_23 ?_
  refine g_aload_n C dX0_become_26 rfl 1 rfl ?_
  refine g_get C (R := RX0) (T := TX0) (N := 8) (k := 2) (v := .ref (ad w 6)) kd_1 (by decide) rfl (in_1 hS) hinX0 (by decide) fl_X0_23 rfl rfl dX0_become_27 ?_
  refine g_callVV C (R := RX5) (T := TX5) (N := 4) [.ref (ad w 6)] (fun _ h => c_X5_become (kl x) N w (ok_21 hS) (ok_6 hS) h) (g_cwV C hR ml_X0_50 im_X5_become sl_X5_become ini_X5 cd_X5_become hd_X5_become (by decide)) kd_21 (by decide) rfl (in_21 hS) rfl _ rfl (Nat.le_of_ble_eq_true rfl) dX0_become_30 hf (fun s3 hf => ?_)
  refine g_aload_n C dX0_become_33 rfl 0 rfl ?_
  refine g_get C (R := RX0) (T := TX0) (N := 8) (k := 3) (v := .ref (ad w 23)) kd_16 (by decide) rfl (in_16 hS) hinX0 (by decide) fl_X0_26 rfl rfl dX0_become_34 ?_
  refine g_aload_n C dX0_become_37 rfl 1 rfl ?_
  refine g_get C (R := RX0) (T := TX0) (N := 8) (k := 3) (v := .ref (ad w 8)) kd_1 (by decide) rfl (in_1 hS) hinX0 (by decide) fl_X0_26 rfl rfl dX0_become_38 ?_
  refine g_callVV C (R := RX5) (T := TX5) (N := 4) [.ref (ad w 8)] (fun _ h => c_X5_become (kl x) N w (ok_23 hS) (ok_8 hS) h) (g_cwV C hR ml_X0_50 im_X5_become sl_X5_become ini_X5 cd_X5_become hd_X5_become (by decide)) kd_23 (by decide) rfl (in_23 hS) rfl _ rfl (Nat.le_of_ble_eq_true rfl) dX0_become_41 hf (fun s4 hf => ?_)
  refine g_aload_n C dX0_become_44 rfl 0 rfl ?_
  refine g_get C (R := RX0) (T := TX0) (N := 8) (k := 4) (v := .ref (ad w 25)) kd_16 (by decide) rfl (in_16 hS) hinX0 (by decide) fl_X0_29 rfl rfl dX0_become_45 ?_
  refine g_aload_n C dX0_become_48 rfl 1 rfl ?_
  refine g_get C (R := RX0) (T := TX0) (N := 8) (k := 4) (v := .ref (ad w 10)) kd_1 (by decide) rfl (in_1 hS) hinX0 (by decide) fl_X0_29 rfl rfl dX0_become_49 ?_
  refine g_callVV C (R := RX5) (T := TX5) (N := 4) [.ref (ad w 10)] (fun _ h => c_X5_become (kl x) N w (ok_25 hS) (ok_10 hS) h) (g_cwV C hR ml_X0_50 im_X5_become sl_X5_become ini_X5 cd_X5_become hd_X5_become (by decide)) kd_25 (by decide) rfl (in_25 hS) rfl _ rfl (Nat.le_of_ble_eq_true rfl) dX0_become_52 hf (fun s5 hf => ?_)
  refine g_aload_n C dX0_become_55 rfl 0 rfl ?_
  refine g_get C (R := RX0) (T := TX0) (N := 8) (k := 5) (v := .ref (ad w 27)) kd_16 (by decide) rfl (in_16 hS) hinX0 (by decide) fl_X0_32 rfl rfl dX0_become_56 ?_
  refine g_aload_n C dX0_become_59 rfl 1 rfl ?_
  refine g_get C (R := RX0) (T := TX0) (N := 8) (k := 5) (v := .ref (ad w 12)) kd_1 (by decide) rfl (in_1 hS) hinX0 (by decide) fl_X0_32 rfl rfl dX0_become_60 ?_
  refine g_callVV C (R := RX5) (T := TX5) (N := 4) [.ref (ad w 12)] (fun _ h => c_X5_become (kl x) N w (ok_27 hS) (ok_12 hS) h) (g_cwV C hR ml_X0_50 im_X5_become sl_X5_become ini_X5 cd_X5_become hd_X5_become (by decide)) kd_27 (by decide) rfl (in_27 hS) rfl _ rfl (Nat.le_of_ble_eq_true rfl) dX0_become_63 hf (fun s6 hf => ?_)
  refine g_aload_n C dX0_become_66 rfl 0 rfl ?_
  refine g_get C (R := RX0) (T := TX0) (N := 8) (k := 6) (v := .ref (ad w 29)) kd_16 (by decide) rfl (in_16 hS) hinX0 (by decide) fl_X0_35 rfl rfl dX0_become_67 ?_
  refine g_aload_n C dX0_become_70 rfl 1 rfl ?_
  refine g_get C (R := RX0) (T := TX0) (N := 8) (k := 6) (v := .ref (ad w 14)) kd_1 (by decide) rfl (in_1 hS) hinX0 (by decide) fl_X0_35 rfl rfl dX0_become_71 ?_
  refine g_callVV C (R := RX5) (T := TX5) (N := 4) [.ref (ad w 14)] (fun _ h => c_X5_become (kl x) N w (ok_29 hS) (ok_14 hS) h) (g_cwV C hR ml_X0_50 im_X5_become sl_X5_become ini_X5 cd_X5_become hd_X5_become (by decide)) kd_29 (by decide) rfl (in_29 hS) rfl _ rfl (Nat.le_of_ble_eq_true rfl) dX0_become_74 hf (fun s7 hf => ?_)
  refine g_aload_n C dX0_become_77 rfl 0 rfl ?_
  refine g_aload_n C dX0_become_78 rfl 1 rfl ?_
  refine g_get C (R := RX0) (T := TX0) (N := 8) (k := 7) (v := .int (rI s7 1 7)) kd_1 (by decide) rfl (in_1 hS) hinX0 (by decide) fl_X0_38 rfl rfl dX0_become_79 ?_
  refine g_putI C (R := RX0) (T := TX0) (N := 8) (k := 7) (ty := .int) tyX0 tyX0_ok nmX0 kd_16 (by decide) rfl (in_16 hS) hinX0 (by decide) fl_X0_38 rfl rfl rfl rfl rfl (Nat.le_of_ble_eq_true rfl) fs_0_7 dX0_become_82 ?_
  refine g_nameS hf (fun s8 hf => ?_)
  exact g_vret C dX0_become_85 hf

set_option maxHeartbeats 4000000 in
set_option maxRecDepth 100000 in
theorem c_X0_become_b (l : Launch) (N : Nat) (w : WX) (hS : SS w = Sc) {s s' : Mem} (hf : f_X0_become_b N s = some ((), s')) : CV l yX0_become (wz yX0_become cX0_become 2 none) ({ frames := 2, cells := 0, slots := 0, locals := 61 } : Room) [.ref (ad w 1), .ref (ad w 16)] w s s' := by
  refine met_startV (cc := cX0_become) (ret := none) (own := RX0) (maxL := 2) (by decide) rfl (Nat.le_of_ble_eq_true rfl) (fun x C hR hl => ?_)
  refine g_lv (lv' := [(0, .ref (ad w 1)), (1, .ref (ad w 16))]) rfl ?_
  unfold f_X0_become_b at hf
  refine g_aload_n C dX0_become_0 rfl 0 rfl ?_
  refine g_get C (R := RX0) (T := TX0) (N := 8) (k := 0) (v := .ref (ad w 2)) kd_1 (by decide) rfl (in_1 hS) hinX0 (by decide) fl_X0_14 rfl rfl dX0_become_1 ?_
  refine g_aload_n C dX0_become_4 rfl 1 rfl ?_
  refine g_get C (R := RX0) (T := TX0) (N := 8) (k := 0) (v := .ref (ad w 17)) kd_16 (by decide) rfl (in_16 hS) hinX0 (by decide) fl_X0_14 rfl rfl dX0_become_5 ?_
  refine g_callVV C (R := RX5) (T := TX5) (N := 4) [.ref (ad w 17)] (fun _ h => c_X5_become (kl x) N w (ok_2 hS) (ok_17 hS) h) (g_cwV C hR ml_X0_50 im_X5_become sl_X5_become ini_X5 cd_X5_become hd_X5_become (by decide)) kd_2 (by decide) rfl (in_2 hS) rfl _ rfl (Nat.le_of_ble_eq_true rfl) dX0_become_8 hf (fun s1 hf => ?_)
  refine g_aload_n C dX0_become_11 rfl 0 rfl ?_
  refine g_get C (R := RX0) (T := TX0) (N := 8) (k := 1) (v := .ref (ad w 4)) kd_1 (by decide) rfl (in_1 hS) hinX0 (by decide) fl_X0_20 rfl rfl dX0_become_12 ?_
  refine g_aload_n C dX0_become_15 rfl 1 rfl ?_
  refine g_get C (R := RX0) (T := TX0) (N := 8) (k := 1) (v := .ref (ad w 19)) kd_16 (by decide) rfl (in_16 hS) hinX0 (by decide) fl_X0_20 rfl rfl dX0_become_16 ?_
  refine g_callVV C (R := RX5) (T := TX5) (N := 4) [.ref (ad w 19)] (fun _ h => c_X5_become (kl x) N w (ok_4 hS) (ok_19 hS) h) (g_cwV C hR ml_X0_50 im_X5_become sl_X5_become ini_X5 cd_X5_become hd_X5_become (by decide)) kd_4 (by decide) rfl (in_4 hS) rfl _ rfl (Nat.le_of_ble_eq_true rfl) dX0_become_19 hf (fun s2 hf => ?_)
  refine g_aload_n C dX0_become_22 rfl 0 rfl ?_
  refine g_get C (R := RX0) (T := TX0) (N := 8) (k := 2) (v := .ref (ad w 6)) kd_1 (by decide) rfl (in_1 hS) hinX0 (by decide) fl_X0_23 rfl rfl dX0_become_23 ?_
  refine g_aload_n C dX0_become_26 rfl 1 rfl ?_
  refine g_get C (R := RX0) (T := TX0) (N := 8) (k := 2) (v := .ref (ad w 21)) kd_16 (by decide) rfl (in_16 hS) hinX0 (by decide) fl_X0_23 rfl rfl dX0_become_27 ?_
  refine g_callVV C (R := RX5) (T := TX5) (N := 4) [.ref (ad w 21)] (fun _ h => c_X5_become (kl x) N w (ok_6 hS) (ok_21 hS) h) (g_cwV C hR ml_X0_50 im_X5_become sl_X5_become ini_X5 cd_X5_become hd_X5_become (by decide)) kd_6 (by decide) rfl (in_6 hS) rfl _ rfl (Nat.le_of_ble_eq_true rfl) dX0_become_30 hf (fun s3 hf => ?_)
  refine g_aload_n C dX0_become_33 rfl 0 rfl ?_
  refine g_get C (R := RX0) (T := TX0) (N := 8) (k := 3) (v := .ref (ad w 8)) kd_1 (by decide) rfl (in_1 hS) hinX0 (by decide) fl_X0_26 rfl rfl dX0_become_34 ?_
  refine g_aload_n C dX0_become_37 rfl 1 rfl ?_
  refine g_get C (R := RX0) (T := TX0) (N := 8) (k := 3) (v := .ref (ad w 23)) kd_16 (by decide) rfl (in_16 hS) hinX0 (by decide) fl_X0_26 rfl rfl dX0_become_38 ?_
  refine g_callVV C (R := RX5) (T := TX5) (N := 4) [.ref (ad w 23)] (fun _ h => c_X5_become (kl x) N w (ok_8 hS) (ok_23 hS) h) (g_cwV C hR ml_X0_50 im_X5_become sl_X5_become ini_X5 cd_X5_become hd_X5_become (by decide)) kd_8 (by decide) rfl (in_8 hS) rfl _ rfl (Nat.le_of_ble_eq_true rfl) dX0_become_41 hf (fun s4 hf => ?_)
  refine g_aload_n C dX0_become_44 rfl 0 rfl ?_
  refine g_get C (R := RX0) (T := TX0) (N := 8) (k := 4) (v := .ref (ad w 10)) kd_1 (by decide) rfl (in_1 hS) hinX0 (by decide) fl_X0_29 rfl rfl dX0_become_45 ?_
  refine g_aload_n C dX0_become_48 rfl 1 rfl ?_
  refine g_get C (R := RX0) (T := TX0) (N := 8) (k := 4) (v := .ref (ad w 25)) kd_16 (by decide) rfl (in_16 hS) hinX0 (by decide) fl_X0_29 rfl rfl dX0_become_49 ?_
  refine g_callVV C (R := RX5) (T := TX5) (N := 4) [.ref (ad w 25)] (fun _ h => c_X5_become (kl x) N w (ok_10 hS) (ok_25 hS) h) (g_cwV C hR ml_X0_50 im_X5_become sl_X5_become ini_X5 cd_X5_become hd_X5_become (by decide)) kd_10 (by decide) rfl (in_10 hS) rfl _ rfl (Nat.le_of_ble_eq_true rfl) dX0_become_52 hf (fun s5 hf => ?_)
  refine g_aload_n C dX0_become_55 rfl 0 rfl ?_
  refine g_get C (R := RX0) (T := TX0) (N := 8) (k := 5) (v := .ref (ad w 12)) kd_1 (by decide) rfl (in_1 hS) hinX0 (by decide) fl_X0_32 rfl rfl dX0_become_56 ?_
  refine g_aload_n C dX0_become_59 rfl 1 rfl ?_
  refine g_get C (R := RX0) (T := TX0) (N := 8) (k := 5) (v := .ref (ad w 27)) kd_16 (by decide) rfl (in_16 hS) hinX0 (by decide) fl_X0_32 rfl rfl dX0_become_60 ?_
  refine g_callVV C (R := RX5) (T := TX5) (N := 4) [.ref (ad w 27)] (fun _ h => c_X5_become (kl x) N w (ok_12 hS) (ok_27 hS) h) (g_cwV C hR ml_X0_50 im_X5_become sl_X5_become ini_X5 cd_X5_become hd_X5_become (by decide)) kd_12 (by decide) rfl (in_12 hS) rfl _ rfl (Nat.le_of_ble_eq_true rfl) dX0_become_63 hf (fun s6 hf => ?_)
  refine g_aload_n C dX0_become_66 rfl 0 rfl ?_
  refine g_get C (R := RX0) (T := TX0) (N := 8) (k := 6) (v := .ref (ad w 14)) kd_1 (by decide) rfl (in_1 hS) hinX0 (by decide) fl_X0_35 rfl rfl dX0_become_67 ?_
  refine g_aload_n C dX0_become_70 rfl 1 rfl ?_
  refine g_get C (R := RX0) (T := TX0) (N := 8) (k := 6) (v := .ref (ad w 29)) kd_16 (by decide) rfl (in_16 hS) hinX0 (by decide) fl_X0_35 rfl rfl dX0_become_71 ?_
  refine g_callVV C (R := RX5) (T := TX5) (N := 4) [.ref (ad w 29)] (fun _ h => c_X5_become (kl x) N w (ok_14 hS) (ok_29 hS) h) (g_cwV C hR ml_X0_50 im_X5_become sl_X5_become ini_X5 cd_X5_become hd_X5_become (by decide)) kd_14 (by decide) rfl (in_14 hS) rfl _ rfl (Nat.le_of_ble_eq_true rfl) dX0_become_74 hf (fun s7 hf => ?_)
  refine g_aload_n C dX0_become_77 rfl 0 rfl ?_
  refine g_aload_n C dX0_become_78 rfl 1 rfl ?_
  refine g_get C (R := RX0) (T := TX0) (N := 8) (k := 7) (v := .int (rI s7 16 7)) kd_16 (by decide) rfl (in_16 hS) hinX0 (by decide) fl_X0_38 rfl rfl dX0_become_79 ?_
  refine g_putI C (R := RX0) (T := TX0) (N := 8) (k := 7) (ty := .int) tyX0 tyX0_ok nmX0 kd_1 (by decide) rfl (in_1 hS) hinX0 (by decide) fl_X0_38 rfl rfl rfl rfl rfl (Nat.le_of_ble_eq_true rfl) fs_0_7 dX0_become_82 ?_
  refine g_nameS hf (fun s8 hf => ?_)
  exact g_vret C dX0_become_85 hf
