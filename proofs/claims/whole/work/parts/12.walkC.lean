set_option maxHeartbeats 4000000 in
set_option maxRecDepth 100000 in
theorem c_X8_isWithin (l : Launch) (N : Nat) (w : WX) (a0 : Int32) (a1 : Int32) (a2 : Int32) {s s' : Mem} {r : Bool} (hf : f_X8_isWithin N a0 a1 a2 s = some (r, s')) : CB l yX8_isWithin (wz yX8_isWithin cX8_isWithin 3 (some .boolean)) ({ frames := 0, cells := 0, slots := 0, locals := 0 } : Room) [.int a0, .int a1, .int a2] w s r s' := by
  refine met_startB (cc := cX8_isWithin) (ret := (some .boolean)) (own := RX8) (maxL := 3) (by decide) rfl (Nat.le_of_ble_eq_true rfl) (fun x C hR hl => ?_)
  refine g_lv (lv' := [(0, .int a0), (1, .int a1), (2, .int a2)]) rfl ?_
  unfold f_X8_isWithin at hf
  refine g_iload_n C dX8_isWithin_0 rfl 0 rfl ?_
  refine g_iload_n C dX8_isWithin_1 rfl 1 rfl ?_
  refine g_icmp_lt (tgt := 14) C dX8_isWithin_2 (by decide) hf (fun hf => ?_) (fun hf => ?_)
  · refine g_iconst C (v := 0) dX8_isWithin_14 rfl ?_
    exact g_zret (v := false) C dX8_isWithin_15 hf
  · refine g_iload_n C dX8_isWithin_5 rfl 0 rfl ?_
    refine g_iload_n C dX8_isWithin_6 rfl 2 rfl ?_
    refine g_icmp_gt (tgt := 14) C dX8_isWithin_7 (by decide) hf (fun hf => ?_) (fun hf => ?_)
    · refine g_iconst C (v := 0) dX8_isWithin_14 rfl ?_
      exact g_zret (v := false) C dX8_isWithin_15 hf
    · refine g_iconst C (v := 1) dX8_isWithin_10 rfl ?_
      refine g_goto (tgt := 15) C dX8_isWithin_11 (by decide) ?_
      exact g_zret (v := true) C dX8_isWithin_15 hf

set_option maxHeartbeats 4000000 in
set_option maxRecDepth 100000 in
theorem c_X8_isHouse (l : Launch) (N : Nat) (w : WX) (a0 : Int32) {s s' : Mem} {r : Bool} (hf : f_X8_isHouse N a0 s = some (r, s')) : CB l yX8_isHouse (wz yX8_isHouse cX8_isHouse 1 (some .boolean)) ({ frames := 1, cells := 0, slots := 0, locals := 22 } : Room) [.int a0] w s r s' := by
  refine met_startB (cc := cX8_isHouse) (ret := (some .boolean)) (own := RX8) (maxL := 1) (by decide) rfl (Nat.le_of_ble_eq_true rfl) (fun x C hR hl => ?_)
  refine g_lv (lv' := [(0, .int a0)]) rfl ?_
  unfold f_X8_isHouse at hf
  refine g_iload_n C dX8_isHouse_0 rfl 0 rfl ?_
  refine g_iconst C (v := 0) dX8_isHouse_1 rfl ?_
  refine g_iconst C (v := 5) dX8_isHouse_2 rfl ?_
  refine g_callSB C [.int a0, .int 0, .int 5] (fun _ _ h => c_X8_isWithin (kl x) N w _ _ _ h) (g_cwS C hR ml_X8_91 sm_X8_isWithin ini_X8 cd_X8_isWithin hd_X8_isWithin (by decide)) rfl _ rfl (Nat.le_of_ble_eq_true rfl) dX8_isHouse_3 hf (fun r1 s1 hf => ?_)
  exact g_zret C dX8_isHouse_6 hf

set_option maxHeartbeats 4000000 in
set_option maxRecDepth 100000 in
theorem c_X8_person (l : Launch) (N : Nat) (w : WX) (hS : SS w = Sc) (a1 : Int32) (a2 : Int32) (a3 : Int32) {s s' : Mem} {r : Int32} (hf : f_X8_person N a1 a2 a3 s = some (r, s')) : CI l yX8_person (wz yX8_person cX8_person 5 (some .int)) ({ frames := 2, cells := 0, slots := 0, locals := 42 } : Room) [.ref (ad w 0), .int a1, .int a2, .int a3] w s r s' := by
  refine met_startI (cc := cX8_person) (ret := (some .int)) (own := RX8) (maxL := 5) (by decide) rfl (Nat.le_of_ble_eq_true rfl) (fun x C hR hl => ?_)
  refine g_lv (lv' := [(0, .ref (ad w 0)), (1, .int a1), (2, .int a2), (3, .int a3)]) rfl ?_
  unfold f_X8_person at hf
  refine g_iload_n C dX8_person_0 rfl 1 rfl ?_
  refine g_callSB C [.int a1] (fun _ _ h => c_X8_isHouse (kl x) N w _ h) (g_cwS C hR ml_X8_87 sm_X8_isHouse ini_X8 cd_X8_isHouse hd_X8_isHouse (by decide)) rfl _ rfl (Nat.le_of_ble_eq_true rfl) dX8_person_1 hf (fun r1 s1 hf => ?_)
  refine g_ifeqB (tgt := 26) C dX8_person_4 (by decide) hf (fun hf => ?_) (fun hf => ?_)
  · refine g_iconst C (v := (-1)) dX8_person_26 rfl ?_
    exact g_iret C dX8_person_27 hf
  · refine g_iload_n C dX8_person_7 rfl 2 rfl ?_
    refine g_iconst C (v := 0) dX8_person_8 rfl ?_
    refine g_bipush C (v := 9) dX8_person_9 (by decide) ?_
    refine g_callSB C [.int a2, .int 0, .int 9] (fun _ _ h => c_X8_isWithin (kl x) N w _ _ _ h) (g_cwS C hR ml_X8_91 sm_X8_isWithin ini_X8 cd_X8_isWithin hd_X8_isWithin (by decide)) rfl _ rfl (Nat.le_of_ble_eq_true rfl) dX8_person_11 hf (fun r2 s2 hf => ?_)
    refine g_ifeqB (tgt := 26) C dX8_person_14 (by decide) hf (fun hf => ?_) (fun hf => ?_)
    · refine g_iconst C (v := (-1)) dX8_person_26 rfl ?_
      exact g_iret C dX8_person_27 hf
    · refine g_iload_n C dX8_person_17 rfl 3 rfl ?_
      refine g_iconst C (v := 0) dX8_person_18 rfl ?_
      refine g_iconst C (v := 1) dX8_person_19 rfl ?_
      refine g_callSB C [.int a3, .int 0, .int 1] (fun _ _ h => c_X8_isWithin (kl x) N w _ _ _ h) (g_cwS C hR ml_X8_91 sm_X8_isWithin ini_X8 cd_X8_isWithin hd_X8_isWithin (by decide)) rfl _ rfl (Nat.le_of_ble_eq_true rfl) dX8_person_20 hf (fun r3 s3 hf => ?_)
      refine g_ifneB (tgt := 28) C dX8_person_23 (by decide) hf (fun hf => ?_) (fun hf => ?_)
      · refine g_aload_n C dX8_person_28 rfl 0 rfl ?_
        refine g_get C (R := RX8) (T := TX8) (N := 11) (k := 0) (v := .ref (ad w 1)) kd_0 (by decide) rfl (in_0 hS) hinX8 (by decide) fl_X8_10 rfl rfl dX8_person_29 ?_
        refine g_get C (R := RX0) (T := TX0) (N := 8) (k := 0) (v := .ref (ad w 2)) kd_1 (by decide) rfl (in_1 hS) hinX0 (by decide) fl_X8_95 rfl rfl dX8_person_32 ?_
        refine g_callVB C (R := RX5) (T := TX5) (N := 4) [] (fun _ _ h => c_X5_isFull (kl x) N w (ok_2 hS) h) (g_cwV C hR ml_X8_98 im_X5_isFull sl_X5_isFull ini_X5 cd_X5_isFull hd_X5_isFull (by decide)) kd_2 (by decide) rfl (in_2 hS) rfl _ rfl (Nat.le_of_ble_eq_true rfl) dX8_person_35 hf (fun r4 s4 hf => ?_)
        refine g_ifeqB (tgt := 44) C dX8_person_38 (by decide) hf (fun hf => ?_) (fun hf => ?_)
        · refine g_aload_n C dX8_person_44 rfl 0 rfl ?_
          refine g_get C (R := RX8) (T := TX8) (N := 11) (k := 0) (v := .ref (ad w 1)) kd_0 (by decide) rfl (in_0 hS) hinX8 (by decide) fl_X8_10 rfl rfl dX8_person_45 ?_
          refine g_get C (R := RX0) (T := TX0) (N := 8) (k := 0) (v := .ref (ad w 2)) kd_1 (by decide) rfl (in_1 hS) hinX0 (by decide) fl_X8_95 rfl rfl dX8_person_48 ?_
          refine g_callVI C (R := RX5) (T := TX5) (N := 4) [] (fun _ _ h => c_X5_add (kl x) N w (ok_2 hS) h) (g_cwV C hR ml_X8_79 im_X5_add sl_X5_add ini_X5 cd_X5_add hd_X5_add (by decide)) kd_2 (by decide) rfl (in_2 hS) rfl _ rfl (Nat.le_of_ble_eq_true rfl) dX8_person_51 hf (fun r5 s5 hf => ?_)
          refine g_istore (lv' := [(4, .int r5), (0, .ref (ad w 0)), (1, .int a1), (2, .int a2), (3, .int a3)]) C dX8_person_54 (by decide) rfl ?_
          refine g_aload_n C dX8_person_56 rfl 1 rfl ?_
          refine g_get C (R := RX8) (T := TX8) (N := 11) (k := 0) (v := .ref (ad w 1)) kd_0 (by decide) rfl (in_0 hS) hinX8 (by decide) fl_X8_10 rfl rfl dX8_person_57 ?_
          refine g_get C (R := RX0) (T := TX0) (N := 8) (k := 0) (v := .ref (ad w 2)) kd_1 (by decide) rfl (in_1 hS) hinX0 (by decide) fl_X8_95 rfl rfl dX8_person_60 ?_
          refine g_iload C dX8_person_63 0 rfl ?_
          refine g_iconst C (v := 0) dX8_person_65 rfl ?_
          refine g_iload_n C dX8_person_66 rfl 2 rfl ?_
          refine g_callVV C (R := RX5) (T := TX5) (N := 4) [.int r5, .int 0, .int a1] (fun _ h => c_X5_set (kl x) N w (ok_2 hS) _ _ _ h) (g_cwV C hR ml_X8_83 im_X5_set sl_X5_set ini_X5 cd_X5_set hd_X5_set (by decide)) kd_2 (by decide) rfl (in_2 hS) rfl _ rfl (Nat.le_of_ble_eq_true rfl) dX8_person_67 hf (fun s6 hf => ?_)
          refine g_aload_n C dX8_person_70 rfl 1 rfl ?_
          refine g_get C (R := RX8) (T := TX8) (N := 11) (k := 0) (v := .ref (ad w 1)) kd_0 (by decide) rfl (in_0 hS) hinX8 (by decide) fl_X8_10 rfl rfl dX8_person_71 ?_
          refine g_get C (R := RX0) (T := TX0) (N := 8) (k := 0) (v := .ref (ad w 2)) kd_1 (by decide) rfl (in_1 hS) hinX0 (by decide) fl_X8_95 rfl rfl dX8_person_74 ?_
          refine g_iload C dX8_person_77 0 rfl ?_
          refine g_iconst C (v := 1) dX8_person_79 rfl ?_
          refine g_iload_n C dX8_person_80 rfl 3 rfl ?_
          refine g_callVV C (R := RX5) (T := TX5) (N := 4) [.int r5, .int 1, .int a2] (fun _ h => c_X5_set (kl x) N w (ok_2 hS) _ _ _ h) (g_cwV C hR ml_X8_83 im_X5_set sl_X5_set ini_X5 cd_X5_set hd_X5_set (by decide)) kd_2 (by decide) rfl (in_2 hS) rfl _ rfl (Nat.le_of_ble_eq_true rfl) dX8_person_81 hf (fun s7 hf => ?_)
          refine g_aload_n C dX8_person_84 rfl 1 rfl ?_
          refine g_get C (R := RX8) (T := TX8) (N := 11) (k := 0) (v := .ref (ad w 1)) kd_0 (by decide) rfl (in_0 hS) hinX8 (by decide) fl_X8_10 rfl rfl dX8_person_85 ?_
          refine g_get C (R := RX0) (T := TX0) (N := 8) (k := 0) (v := .ref (ad w 2)) kd_1 (by decide) rfl (in_1 hS) hinX0 (by decide) fl_X8_95 rfl rfl dX8_person_88 ?_
          refine g_iload C dX8_person_91 0 rfl ?_
          refine g_iconst C (v := 2) dX8_person_93 rfl ?_
          refine g_iload_n C dX8_person_94 rfl 4 rfl ?_
          refine g_callVV C (R := RX5) (T := TX5) (N := 4) [.int r5, .int 2, .int a3] (fun _ h => c_X5_set (kl x) N w (ok_2 hS) _ _ _ h) (g_cwV C hR ml_X8_83 im_X5_set sl_X5_set ini_X5 cd_X5_set hd_X5_set (by decide)) kd_2 (by decide) rfl (in_2 hS) rfl _ rfl (Nat.le_of_ble_eq_true rfl) dX8_person_95 hf (fun s8 hf => ?_)
          refine g_aload_n C dX8_person_98 rfl 1 rfl ?_
          refine g_get C (R := RX8) (T := TX8) (N := 11) (k := 0) (v := .ref (ad w 1)) kd_0 (by decide) rfl (in_0 hS) hinX8 (by decide) fl_X8_10 rfl rfl dX8_person_99 ?_
          refine g_get C (R := RX0) (T := TX0) (N := 8) (k := 0) (v := .ref (ad w 2)) kd_1 (by decide) rfl (in_1 hS) hinX0 (by decide) fl_X8_95 rfl rfl dX8_person_102 ?_
          refine g_iload C dX8_person_105 0 rfl ?_
          refine g_iconst C (v := 3) dX8_person_107 rfl ?_
          refine g_iconst C (v := (-1)) dX8_person_108 rfl ?_
          refine g_callVV C (R := RX5) (T := TX5) (N := 4) [.int r5, .int 3, .int (-1)] (fun _ h => c_X5_set (kl x) N w (ok_2 hS) _ _ _ h) (g_cwV C hR ml_X8_83 im_X5_set sl_X5_set ini_X5 cd_X5_set hd_X5_set (by decide)) kd_2 (by decide) rfl (in_2 hS) rfl _ rfl (Nat.le_of_ble_eq_true rfl) dX8_person_109 hf (fun s9 hf => ?_)
          refine g_iload C dX8_person_112 0 rfl ?_
          exact g_iret C dX8_person_114 hf
        · refine g_bipush C (v := (-2)) dX8_person_41 (by decide) ?_
          exact g_iret C dX8_person_43 hf
      · refine g_iconst C (v := (-1)) dX8_person_26 rfl ?_
        exact g_iret C dX8_person_27 hf

set_option maxHeartbeats 4000000 in
set_option maxRecDepth 100000 in
theorem c_X8_personOf (l : Launch) (N : Nat) (w : WX) (hS : SS w = Sc) (a1 : Int32) (a2 : Int32) {s s' : Mem} {r : Int32} (hf : f_X8_personOf N a1 a2 s = some (r, s')) : CI l yX8_personOf (wz yX8_personOf cX8_personOf 3 (some .int)) ({ frames := 4, cells := 0, slots := 0, locals := 89 } : Room) [.ref (ad w 0), .int a1, .int a2] w s r s' := by
  refine met_startI (cc := cX8_personOf) (ret := (some .int)) (own := RX8) (maxL := 3) (by decide) rfl (Nat.le_of_ble_eq_true rfl) (fun x C hR hl => ?_)
  refine g_lv (lv' := [(0, .ref (ad w 0)), (1, .int a1), (2, .int a2)]) rfl ?_
  unfold f_X8_personOf at hf
  refine g_aload_n C dX8_personOf_0 rfl 0 rfl ?_
  refine g_get C (R := RX8) (T := TX8) (N := 11) (k := 0) (v := .ref (ad w 1)) kd_0 (by decide) rfl (in_0 hS) hinX8 (by decide) fl_X8_10 rfl rfl dX8_personOf_1 ?_
  refine g_get C (R := RX0) (T := TX0) (N := 8) (k := 0) (v := .ref (ad w 2)) kd_1 (by decide) rfl (in_1 hS) hinX0 (by decide) fl_X8_95 rfl rfl dX8_personOf_4 ?_
  refine g_iload_n C dX8_personOf_7 rfl 1 rfl ?_
  refine g_callVB C (R := RX5) (T := TX5) (N := 4) [.int a1] (fun _ _ h => c_X5_has (kl x) N w (ok_2 hS) _ h) (g_cwV C hR ml_X8_102 im_X5_has sl_X5_has ini_X5 cd_X5_has hd_X5_has (by decide)) kd_2 (by decide) rfl (in_2 hS) rfl _ rfl (Nat.le_of_ble_eq_true rfl) dX8_personOf_8 hf (fun r1 s1 hf => ?_)
  refine g_ifneB (tgt := 16) C dX8_personOf_11 (by decide) hf (fun hf => ?_) (fun hf => ?_)
  · refine g_iload_n C dX8_personOf_16 rfl 2 rfl ?_
    rcases ite_some hf with ⟨e0, hf⟩ | ⟨n0, hf⟩
    · refine g_tabIn (k := 0) (tgt := 56) C dX8_personOf_17 e0 (by decide) (by decide) rfl (by decide) ?_
      refine g_aload_n C dX8_personOf_56 rfl 0 rfl ?_
      refine g_get C (R := RX8) (T := TX8) (N := 11) (k := 0) (v := .ref (ad w 1)) kd_0 (by decide) rfl (in_0 hS) hinX8 (by decide) fl_X8_10 rfl rfl dX8_personOf_57 ?_
      refine g_get C (R := RX0) (T := TX0) (N := 8) (k := 0) (v := .ref (ad w 2)) kd_1 (by decide) rfl (in_1 hS) hinX0 (by decide) fl_X8_95 rfl rfl dX8_personOf_60 ?_
      refine g_iload_n C dX8_personOf_63 rfl 1 rfl ?_
      refine g_iconst C (v := 0) dX8_personOf_64 rfl ?_
      refine g_callVI C (R := RX5) (T := TX5) (N := 4) [.int a1, .int 0] (fun _ _ h => c_X5_get (kl x) N w (ok_2 hS) _ _ h) (g_cwV C hR ml_X8_105 im_X5_get sl_X5_get ini_X5 cd_X5_get hd_X5_get (by decide)) kd_2 (by decide) rfl (in_2 hS) rfl _ rfl (Nat.le_of_ble_eq_true rfl) dX8_personOf_65 hf (fun r2 s2 hf => ?_)
      exact g_iret C dX8_personOf_68 hf
    rcases ite_some hf with ⟨e1, hf⟩ | ⟨n1, hf⟩
    · refine g_tabIn (k := 1) (tgt := 69) C dX8_personOf_17 e1 (by decide) (by decide) rfl (by decide) ?_
      refine g_aload_n C dX8_personOf_69 rfl 0 rfl ?_
      refine g_get C (R := RX8) (T := TX8) (N := 11) (k := 0) (v := .ref (ad w 1)) kd_0 (by decide) rfl (in_0 hS) hinX8 (by decide) fl_X8_10 rfl rfl dX8_personOf_70 ?_
      refine g_get C (R := RX0) (T := TX0) (N := 8) (k := 0) (v := .ref (ad w 2)) kd_1 (by decide) rfl (in_1 hS) hinX0 (by decide) fl_X8_95 rfl rfl dX8_personOf_73 ?_
      refine g_iload_n C dX8_personOf_76 rfl 1 rfl ?_
      refine g_iconst C (v := 1) dX8_personOf_77 rfl ?_
      refine g_callVI C (R := RX5) (T := TX5) (N := 4) [.int a1, .int 1] (fun _ _ h => c_X5_get (kl x) N w (ok_2 hS) _ _ h) (g_cwV C hR ml_X8_105 im_X5_get sl_X5_get ini_X5 cd_X5_get hd_X5_get (by decide)) kd_2 (by decide) rfl (in_2 hS) rfl _ rfl (Nat.le_of_ble_eq_true rfl) dX8_personOf_78 hf (fun r3 s3 hf => ?_)
      exact g_iret C dX8_personOf_81 hf
    rcases ite_some hf with ⟨e2, hf⟩ | ⟨n2, hf⟩
    · refine g_tabIn (k := 2) (tgt := 82) C dX8_personOf_17 e2 (by decide) (by decide) rfl (by decide) ?_
      refine g_aload_n C dX8_personOf_82 rfl 0 rfl ?_
      refine g_get C (R := RX8) (T := TX8) (N := 11) (k := 0) (v := .ref (ad w 1)) kd_0 (by decide) rfl (in_0 hS) hinX8 (by decide) fl_X8_10 rfl rfl dX8_personOf_83 ?_
      refine g_get C (R := RX0) (T := TX0) (N := 8) (k := 0) (v := .ref (ad w 2)) kd_1 (by decide) rfl (in_1 hS) hinX0 (by decide) fl_X8_95 rfl rfl dX8_personOf_86 ?_
      refine g_iload_n C dX8_personOf_89 rfl 1 rfl ?_
      refine g_iconst C (v := 2) dX8_personOf_90 rfl ?_
      refine g_callVI C (R := RX5) (T := TX5) (N := 4) [.int a1, .int 2] (fun _ _ h => c_X5_get (kl x) N w (ok_2 hS) _ _ h) (g_cwV C hR ml_X8_105 im_X5_get sl_X5_get ini_X5 cd_X5_get hd_X5_get (by decide)) kd_2 (by decide) rfl (in_2 hS) rfl _ rfl (Nat.le_of_ble_eq_true rfl) dX8_personOf_91 hf (fun r4 s4 hf => ?_)
      exact g_iret C dX8_personOf_94 hf
    rcases ite_some hf with ⟨e3, hf⟩ | ⟨n3, hf⟩
    · refine g_tabIn (k := 3) (tgt := 95) C dX8_personOf_17 e3 (by decide) (by decide) rfl (by decide) ?_
      refine g_aload_n C dX8_personOf_95 rfl 0 rfl ?_
      refine g_get C (R := RX8) (T := TX8) (N := 11) (k := 0) (v := .ref (ad w 1)) kd_0 (by decide) rfl (in_0 hS) hinX8 (by decide) fl_X8_10 rfl rfl dX8_personOf_96 ?_
      refine g_iload_n C dX8_personOf_99 rfl 1 rfl ?_
      refine g_callVI C (R := RX0) (T := TX0) (N := 8) [.int a1] (fun _ _ h => c_X0_seen (kl x) N w hS _ h) (g_cwV C hR ml_X8_109 im_X0_seen sl_X0_seen ini_X0 cd_X0_seen hd_X0_seen (by decide)) kd_1 (by decide) rfl (in_1 hS) rfl _ rfl (Nat.le_of_ble_eq_true rfl) dX8_personOf_100 hf (fun r5 s5 hf => ?_)
      exact g_iret C dX8_personOf_103 hf
    rcases ite_some hf with ⟨e4, hf⟩ | ⟨n4, hf⟩
    · refine g_tabIn (k := 4) (tgt := 104) C dX8_personOf_17 e4 (by decide) (by decide) rfl (by decide) ?_
      refine g_aload_n C dX8_personOf_104 rfl 0 rfl ?_
      refine g_get C (R := RX8) (T := TX8) (N := 11) (k := 0) (v := .ref (ad w 1)) kd_0 (by decide) rfl (in_0 hS) hinX8 (by decide) fl_X8_10 rfl rfl dX8_personOf_105 ?_
      refine g_iload_n C dX8_personOf_108 rfl 1 rfl ?_
      refine g_callVI C (R := RX0) (T := TX0) (N := 8) [.int a1] (fun _ _ h => c_X0_papersOf (kl x) N w hS _ h) (g_cwV C hR ml_X8_113 im_X0_papersOf sl_X0_papersOf ini_X0 cd_X0_papersOf hd_X0_papersOf (by decide)) kd_1 (by decide) rfl (in_1 hS) rfl _ rfl (Nat.le_of_ble_eq_true rfl) dX8_personOf_109 hf (fun r6 s6 hf => ?_)
      exact g_iret C dX8_personOf_112 hf
    rcases ite_some hf with ⟨e5, hf⟩ | ⟨n5, hf⟩
    · refine g_tabIn (k := 5) (tgt := 113) C dX8_personOf_17 e5 (by decide) (by decide) rfl (by decide) ?_
      refine g_aload_n C dX8_personOf_113 rfl 0 rfl ?_
      refine g_get C (R := RX8) (T := TX8) (N := 11) (k := 0) (v := .ref (ad w 1)) kd_0 (by decide) rfl (in_0 hS) hinX8 (by decide) fl_X8_10 rfl rfl dX8_personOf_114 ?_
      refine g_iload_n C dX8_personOf_117 rfl 1 rfl ?_
      refine g_callVB C (R := RX0) (T := TX0) (N := 8) [.int a1] (fun _ _ h => c_X0_isTruthTold (kl x) N w hS _ h) (g_cwV C hR ml_X8_116 im_X0_isTruthTold sl_X0_isTruthTold ini_X0 cd_X0_isTruthTold hd_X0_isTruthTold (by decide)) kd_1 (by decide) rfl (in_1 hS) rfl _ rfl (Nat.le_of_ble_eq_true rfl) dX8_personOf_118 hf (fun r7 s7 hf => ?_)
      refine g_ifeqB (tgt := 139) C dX8_personOf_121 (by decide) hf (fun hf => ?_) (fun hf => ?_)
      · refine g_bipush C (v := (-9)) dX8_personOf_139 (by decide) ?_
        exact g_iret C dX8_personOf_141 hf
      · refine g_aload_n C dX8_personOf_124 rfl 0 rfl ?_
        refine g_get C (R := RX8) (T := TX8) (N := 11) (k := 0) (v := .ref (ad w 1)) kd_0 (by decide) rfl (in_0 hS) hinX8 (by decide) fl_X8_10 rfl rfl dX8_personOf_125 ?_
        refine g_get C (R := RX0) (T := TX0) (N := 8) (k := 0) (v := .ref (ad w 2)) kd_1 (by decide) rfl (in_1 hS) hinX0 (by decide) fl_X8_95 rfl rfl dX8_personOf_128 ?_
        refine g_iload_n C dX8_personOf_131 rfl 1 rfl ?_
        refine g_iconst C (v := 3) dX8_personOf_132 rfl ?_
        refine g_callVI C (R := RX5) (T := TX5) (N := 4) [.int a1, .int 3] (fun _ _ h => c_X5_get (kl x) N w (ok_2 hS) _ _ h) (g_cwV C hR ml_X8_105 im_X5_get sl_X5_get ini_X5 cd_X5_get hd_X5_get (by decide)) kd_2 (by decide) rfl (in_2 hS) rfl _ rfl (Nat.le_of_ble_eq_true rfl) dX8_personOf_133 hf (fun r8 s8 hf => ?_)
        refine g_goto (tgt := 141) C dX8_personOf_136 (by decide) ?_
        exact g_iret C dX8_personOf_141 hf
    refine g_tabOut (tgt := 142) C dX8_personOf_17 (by have z0 := lv_neT n0 (a := 0) (by decide); have z1 := lv_neT n1 (a := 1) (by decide); have z2 := lv_neT n2 (a := 2) (by decide); have z3 := lv_neT n3 (a := 3) (by decide); have z4 := lv_neT n4 (a := 4) (by decide); have z5 := lv_neT n5 (a := 5) (by decide); omega) (by decide) ?_
    refine g_iconst C (v := (-1)) dX8_personOf_142 rfl ?_
    exact g_iret C dX8_personOf_143 hf
  · refine g_iconst C (v := (-1)) dX8_personOf_14 rfl ?_
    exact g_iret C dX8_personOf_15 hf

set_option maxHeartbeats 4000000 in
set_option maxRecDepth 100000 in
theorem c_X8_isYear (l : Launch) (N : Nat) (w : WX) (a0 : Int32) {s s' : Mem} {r : Bool} (hf : f_X8_isYear N a0 s = some (r, s')) : CB l yX8_isYear (wz yX8_isYear cX8_isYear 1 (some .boolean)) ({ frames := 1, cells := 0, slots := 0, locals := 22 } : Room) [.int a0] w s r s' := by
  refine met_startB (cc := cX8_isYear) (ret := (some .boolean)) (own := RX8) (maxL := 1) (by decide) rfl (Nat.le_of_ble_eq_true rfl) (fun x C hR hl => ?_)
  refine g_lv (lv' := [(0, .int a0)]) rfl ?_
  unfold f_X8_isYear at hf
  refine g_iload_n C dX8_isYear_0 rfl 0 rfl ?_
  refine g_iconst C (v := 0) dX8_isYear_1 rfl ?_
  refine g_sipush C (v := 160) dX8_isYear_2 (by decide) ?_
  refine g_callSB C [.int a0, .int 0, .int 160] (fun _ _ h => c_X8_isWithin (kl x) N w _ _ _ h) (g_cwS C hR ml_X8_91 sm_X8_isWithin ini_X8 cd_X8_isWithin hd_X8_isWithin (by decide)) rfl _ rfl (Nat.le_of_ble_eq_true rfl) dX8_isYear_5 hf (fun r1 s1 hf => ?_)
  exact g_zret C dX8_isYear_8 hf

set_option maxHeartbeats 4000000 in
set_option maxRecDepth 100000 in
theorem c_X8_paper (l : Launch) (N : Nat) (w : WX) (hS : SS w = Sc) (a1 : Int32) (a2 : Int32) (a3 : Int32) (a4 : Int32) (a5 : Int32) (a6 : Int32) {s s' : Mem} {r : Int32} (hf : f_X8_paper N a1 a2 a3 a4 a5 a6 s = some (r, s')) : CI l yX8_paper (wz yX8_paper cX8_paper 8 (some .int)) ({ frames := 4, cells := 0, slots := 0, locals := 89 } : Room) [.ref (ad w 0), .int a1, .int a2, .int a3, .int a4, .int a5, .int a6] w s r s' := by
  refine met_startI (cc := cX8_paper) (ret := (some .int)) (own := RX8) (maxL := 8) (by decide) rfl (Nat.le_of_ble_eq_true rfl) (fun x C hR hl => ?_)
  have j211 : ∀ (v7 : Int32) (p0 : Int32) (p1 : Int32) (p2 : Int32) (s : Mem), f_X8_paper_j211 N v7 p0 p1 p2 s = some (r, s') → G x (QI x w r s') 8 w 211 [(7, .int v7)] [.int p0, .int p1, .int p2, .ref (ad w 4)] s := by
    intro v7 p0 p1 p2 s hf
    unfold f_X8_paper_j211 at hf
    refine g_callVV C (R := RX5) (T := TX5) (N := 4) [.int p2, .int p1, .int p0] (fun _ h => c_X5_set (kl x) N w (ok_4 hS) _ _ _ h) (g_cwV C hR ml_X8_83 im_X5_set sl_X5_set ini_X5 cd_X5_set hd_X5_set (by decide)) kd_4 (by decide) rfl (in_4 hS) rfl _ rfl (Nat.le_of_ble_eq_true rfl) dX8_paper_211 hf (fun s1 hf => ?_)
    refine g_iload C dX8_paper_214 0 rfl ?_
    exact g_iret C dX8_paper_216 hf
  have j76 : ∀ (v1 : Int32) (v2 : Int32) (v3 : Int32) (v4 : Int32) (v5 : Int32) (v6 : Int32) (s : Mem), f_X8_paper_j76 N v1 v2 v3 v4 v5 v6 s = some (r, s') → G x (QI x w r s') 8 w 76 [(0, .ref (ad w 0)), (1, .int v1), (2, .int v2), (3, .int v3), (4, .int v4), (5, .int v5), (6, .int v6)] [] s := by
    intro v1 v2 v3 v4 v5 v6 s hf
    unfold f_X8_paper_j76 at hf
    refine g_aload_n C dX8_paper_76 rfl 0 rfl ?_
    refine g_get C (R := RX8) (T := TX8) (N := 11) (k := 0) (v := .ref (ad w 1)) kd_0 (by decide) rfl (in_0 hS) hinX8 (by decide) fl_X8_10 rfl rfl dX8_paper_77 ?_
    refine g_get C (R := RX0) (T := TX0) (N := 8) (k := 1) (v := .ref (ad w 4)) kd_1 (by decide) rfl (in_1 hS) hinX0 (by decide) fl_X8_122 rfl rfl dX8_paper_80 ?_
    refine g_callVB C (R := RX5) (T := TX5) (N := 4) [] (fun _ _ h => c_X5_isFull (kl x) N w (ok_4 hS) h) (g_cwV C hR ml_X8_98 im_X5_isFull sl_X5_isFull ini_X5 cd_X5_isFull hd_X5_isFull (by decide)) kd_4 (by decide) rfl (in_4 hS) rfl _ rfl (Nat.le_of_ble_eq_true rfl) dX8_paper_83 hf (fun r1 s1 hf => ?_)
    refine g_ifneB (tgt := 102) C dX8_paper_86 (by decide) hf (fun hf => ?_) (fun hf => ?_)
    · refine g_bipush C (v := (-2)) dX8_paper_102 (by decide) ?_
      exact g_iret C dX8_paper_104 hf
    · refine g_aload_n C dX8_paper_89 rfl 0 rfl ?_
      refine g_get C (R := RX8) (T := TX8) (N := 11) (k := 0) (v := .ref (ad w 1)) kd_0 (by decide) rfl (in_0 hS) hinX8 (by decide) fl_X8_10 rfl rfl dX8_paper_90 ?_
      refine g_iload_n C dX8_paper_93 rfl 1 rfl ?_
      refine g_callVI C (R := RX0) (T := TX0) (N := 8) [.int v1] (fun _ _ h => c_X0_papersOf (kl x) N w hS _ h) (g_cwV C hR ml_X8_113 im_X0_papersOf sl_X0_papersOf ini_X0 cd_X0_papersOf hd_X0_papersOf (by decide)) kd_1 (by decide) rfl (in_1 hS) rfl _ rfl (Nat.le_of_ble_eq_true rfl) dX8_paper_94 hf (fun r2 s2 hf => ?_)
      refine g_bipush C (v := 6) dX8_paper_97 (by decide) ?_
      refine g_icmp_lt (tgt := 105) C dX8_paper_99 (by decide) hf (fun hf => ?_) (fun hf => ?_)
      · refine g_aload_n C dX8_paper_105 rfl 0 rfl ?_
        refine g_get C (R := RX8) (T := TX8) (N := 11) (k := 0) (v := .ref (ad w 1)) kd_0 (by decide) rfl (in_0 hS) hinX8 (by decide) fl_X8_10 rfl rfl dX8_paper_106 ?_
        refine g_get C (R := RX0) (T := TX0) (N := 8) (k := 1) (v := .ref (ad w 4)) kd_1 (by decide) rfl (in_1 hS) hinX0 (by decide) fl_X8_122 rfl rfl dX8_paper_109 ?_
        refine g_callVI C (R := RX5) (T := TX5) (N := 4) [] (fun _ _ h => c_X5_add (kl x) N w (ok_4 hS) h) (g_cwV C hR ml_X8_79 im_X5_add sl_X5_add ini_X5 cd_X5_add hd_X5_add (by decide)) kd_4 (by decide) rfl (in_4 hS) rfl _ rfl (Nat.le_of_ble_eq_true rfl) dX8_paper_112 hf (fun r3 s3 hf => ?_)
        refine g_istore (lv' := [(7, .int r3), (0, .ref (ad w 0)), (1, .int v1), (2, .int v2), (3, .int v3), (4, .int v4), (5, .int v5), (6, .int v6)]) C dX8_paper_115 (by decide) rfl ?_
        refine g_aload_n C dX8_paper_117 rfl 1 rfl ?_
        refine g_get C (R := RX8) (T := TX8) (N := 11) (k := 0) (v := .ref (ad w 1)) kd_0 (by decide) rfl (in_0 hS) hinX8 (by decide) fl_X8_10 rfl rfl dX8_paper_118 ?_
        refine g_get C (R := RX0) (T := TX0) (N := 8) (k := 1) (v := .ref (ad w 4)) kd_1 (by decide) rfl (in_1 hS) hinX0 (by decide) fl_X8_122 rfl rfl dX8_paper_121 ?_
        refine g_iload C dX8_paper_124 0 rfl ?_
        refine g_iconst C (v := 0) dX8_paper_126 rfl ?_
        refine g_iload_n C dX8_paper_127 rfl 2 rfl ?_
        refine g_callVV C (R := RX5) (T := TX5) (N := 4) [.int r3, .int 0, .int v1] (fun _ h => c_X5_set (kl x) N w (ok_4 hS) _ _ _ h) (g_cwV C hR ml_X8_83 im_X5_set sl_X5_set ini_X5 cd_X5_set hd_X5_set (by decide)) kd_4 (by decide) rfl (in_4 hS) rfl _ rfl (Nat.le_of_ble_eq_true rfl) dX8_paper_128 hf (fun s4 hf => ?_)
        refine g_aload_n C dX8_paper_131 rfl 1 rfl ?_
        refine g_get C (R := RX8) (T := TX8) (N := 11) (k := 0) (v := .ref (ad w 1)) kd_0 (by decide) rfl (in_0 hS) hinX8 (by decide) fl_X8_10 rfl rfl dX8_paper_132 ?_
        refine g_get C (R := RX0) (T := TX0) (N := 8) (k := 1) (v := .ref (ad w 4)) kd_1 (by decide) rfl (in_1 hS) hinX0 (by decide) fl_X8_122 rfl rfl dX8_paper_135 ?_
        refine g_iload C dX8_paper_138 0 rfl ?_
        refine g_iconst C (v := 1) dX8_paper_140 rfl ?_
        refine g_iload_n C dX8_paper_141 rfl 3 rfl ?_
        refine g_callVV C (R := RX5) (T := TX5) (N := 4) [.int r3, .int 1, .int v2] (fun _ h => c_X5_set (kl x) N w (ok_4 hS) _ _ _ h) (g_cwV C hR ml_X8_83 im_X5_set sl_X5_set ini_X5 cd_X5_set hd_X5_set (by decide)) kd_4 (by decide) rfl (in_4 hS) rfl _ rfl (Nat.le_of_ble_eq_true rfl) dX8_paper_142 hf (fun s5 hf => ?_)
        refine g_aload_n C dX8_paper_145 rfl 1 rfl ?_
        refine g_get C (R := RX8) (T := TX8) (N := 11) (k := 0) (v := .ref (ad w 1)) kd_0 (by decide) rfl (in_0 hS) hinX8 (by decide) fl_X8_10 rfl rfl dX8_paper_146 ?_
        refine g_get C (R := RX0) (T := TX0) (N := 8) (k := 1) (v := .ref (ad w 4)) kd_1 (by decide) rfl (in_1 hS) hinX0 (by decide) fl_X8_122 rfl rfl dX8_paper_149 ?_
        refine g_iload C dX8_paper_152 0 rfl ?_
        refine g_iconst C (v := 2) dX8_paper_154 rfl ?_
        refine g_iload_n C dX8_paper_155 rfl 4 rfl ?_
        refine g_callVV C (R := RX5) (T := TX5) (N := 4) [.int r3, .int 2, .int v3] (fun _ h => c_X5_set (kl x) N w (ok_4 hS) _ _ _ h) (g_cwV C hR ml_X8_83 im_X5_set sl_X5_set ini_X5 cd_X5_set hd_X5_set (by decide)) kd_4 (by decide) rfl (in_4 hS) rfl _ rfl (Nat.le_of_ble_eq_true rfl) dX8_paper_156 hf (fun s6 hf => ?_)
        refine g_aload_n C dX8_paper_159 rfl 1 rfl ?_
        refine g_get C (R := RX8) (T := TX8) (N := 11) (k := 0) (v := .ref (ad w 1)) kd_0 (by decide) rfl (in_0 hS) hinX8 (by decide) fl_X8_10 rfl rfl dX8_paper_160 ?_
        refine g_get C (R := RX0) (T := TX0) (N := 8) (k := 1) (v := .ref (ad w 4)) kd_1 (by decide) rfl (in_1 hS) hinX0 (by decide) fl_X8_122 rfl rfl dX8_paper_163 ?_
        refine g_iload C dX8_paper_166 0 rfl ?_
        refine g_iconst C (v := 3) dX8_paper_168 rfl ?_
        refine g_iload C dX8_paper_169 5 rfl ?_
        refine g_callVV C (R := RX5) (T := TX5) (N := 4) [.int r3, .int 3, .int v4] (fun _ h => c_X5_set (kl x) N w (ok_4 hS) _ _ _ h) (g_cwV C hR ml_X8_83 im_X5_set sl_X5_set ini_X5 cd_X5_set hd_X5_set (by decide)) kd_4 (by decide) rfl (in_4 hS) rfl _ rfl (Nat.le_of_ble_eq_true rfl) dX8_paper_171 hf (fun s7 hf => ?_)
        refine g_aload_n C dX8_paper_174 rfl 1 rfl ?_
        refine g_get C (R := RX8) (T := TX8) (N := 11) (k := 0) (v := .ref (ad w 1)) kd_0 (by decide) rfl (in_0 hS) hinX8 (by decide) fl_X8_10 rfl rfl dX8_paper_175 ?_
        refine g_get C (R := RX0) (T := TX0) (N := 8) (k := 1) (v := .ref (ad w 4)) kd_1 (by decide) rfl (in_1 hS) hinX0 (by decide) fl_X8_122 rfl rfl dX8_paper_178 ?_
        refine g_iload C dX8_paper_181 0 rfl ?_
        refine g_iconst C (v := 4) dX8_paper_183 rfl ?_
        refine g_iload C dX8_paper_184 6 rfl ?_
        refine g_callVV C (R := RX5) (T := TX5) (N := 4) [.int r3, .int 4, .int v5] (fun _ h => c_X5_set (kl x) N w (ok_4 hS) _ _ _ h) (g_cwV C hR ml_X8_83 im_X5_set sl_X5_set ini_X5 cd_X5_set hd_X5_set (by decide)) kd_4 (by decide) rfl (in_4 hS) rfl _ rfl (Nat.le_of_ble_eq_true rfl) dX8_paper_186 hf (fun s8 hf => ?_)
        refine g_aload_n C dX8_paper_189 rfl 1 rfl ?_
        refine g_get C (R := RX8) (T := TX8) (N := 11) (k := 0) (v := .ref (ad w 1)) kd_0 (by decide) rfl (in_0 hS) hinX8 (by decide) fl_X8_10 rfl rfl dX8_paper_190 ?_
        refine g_get C (R := RX0) (T := TX0) (N := 8) (k := 1) (v := .ref (ad w 4)) kd_1 (by decide) rfl (in_1 hS) hinX0 (by decide) fl_X8_122 rfl rfl dX8_paper_193 ?_
        refine g_iload C dX8_paper_196 0 rfl ?_
        refine g_iconst C (v := 5) dX8_paper_198 rfl ?_
        refine g_iload_n C dX8_paper_199 rfl 3 rfl ?_
        refine g_iconst C (v := 5) dX8_paper_200 rfl ?_
        refine g_icmp_ne (tgt := 209) C dX8_paper_201 (by decide) hf (fun hf => ?_) (fun hf => ?_)
        · refine g_bipush C (v := (-9)) dX8_paper_209 (by decide) ?_
          refine g_sub [0] rfl ?_
          exact j211 _ _ _ _ _ hf
        · refine g_iload C dX8_paper_204 7 rfl ?_
          refine g_goto (tgt := 211) C dX8_paper_206 (by decide) ?_
          refine g_sub [0] rfl ?_
          exact j211 _ _ _ _ _ hf
      · refine g_bipush C (v := (-2)) dX8_paper_102 (by decide) ?_
        exact g_iret C dX8_paper_104 hf
  refine g_lv (lv' := [(0, .ref (ad w 0)), (1, .int a1), (2, .int a2), (3, .int a3), (4, .int a4), (5, .int a5), (6, .int a6)]) rfl ?_
  unfold f_X8_paper at hf
  refine g_aload_n C dX8_paper_0 rfl 0 rfl ?_
  refine g_get C (R := RX8) (T := TX8) (N := 11) (k := 0) (v := .ref (ad w 1)) kd_0 (by decide) rfl (in_0 hS) hinX8 (by decide) fl_X8_10 rfl rfl dX8_paper_1 ?_
  refine g_get C (R := RX0) (T := TX0) (N := 8) (k := 0) (v := .ref (ad w 2)) kd_1 (by decide) rfl (in_1 hS) hinX0 (by decide) fl_X8_95 rfl rfl dX8_paper_4 ?_
  refine g_iload_n C dX8_paper_7 rfl 1 rfl ?_
  refine g_callVB C (R := RX5) (T := TX5) (N := 4) [.int a1] (fun _ _ h => c_X5_has (kl x) N w (ok_2 hS) _ h) (g_cwV C hR ml_X8_102 im_X5_has sl_X5_has ini_X5 cd_X5_has hd_X5_has (by decide)) kd_2 (by decide) rfl (in_2 hS) rfl _ rfl (Nat.le_of_ble_eq_true rfl) dX8_paper_8 hf (fun r1 s1 hf => ?_)
  refine g_ifeqB (tgt := 31) C dX8_paper_11 (by decide) hf (fun hf => ?_) (fun hf => ?_)
  · refine g_iconst C (v := (-1)) dX8_paper_31 rfl ?_
    exact g_iret C dX8_paper_32 hf
  · refine g_iload_n C dX8_paper_14 rfl 2 rfl ?_
    refine g_iconst C (v := 1) dX8_paper_15 rfl ?_
    refine g_bipush C (v := 7) dX8_paper_16 (by decide) ?_
    refine g_callSB C [.int a2, .int 1, .int 7] (fun _ _ h => c_X8_isWithin (kl x) N w _ _ _ h) (g_cwS C hR ml_X8_91 sm_X8_isWithin ini_X8 cd_X8_isWithin hd_X8_isWithin (by decide)) rfl _ rfl (Nat.le_of_ble_eq_true rfl) dX8_paper_18 hf (fun r2 s2 hf => ?_)
    refine g_ifeqB (tgt := 31) C dX8_paper_21 (by decide) hf (fun hf => ?_) (fun hf => ?_)
    · refine g_iconst C (v := (-1)) dX8_paper_31 rfl ?_
      exact g_iret C dX8_paper_32 hf
    · refine g_iload_n C dX8_paper_24 rfl 3 rfl ?_
      refine g_callSB C [.int a3] (fun _ _ h => c_X8_isYear (kl x) N w _ h) (g_cwS C hR ml_X8_119 sm_X8_isYear ini_X8 cd_X8_isYear hd_X8_isYear (by decide)) rfl _ rfl (Nat.le_of_ble_eq_true rfl) dX8_paper_25 hf (fun r3 s3 hf => ?_)
      refine g_ifneB (tgt := 33) C dX8_paper_28 (by decide) hf (fun hf => ?_) (fun hf => ?_)
      · refine g_iload C dX8_paper_33 4 rfl ?_
        refine g_callSB C [.int a4] (fun _ _ h => c_X8_isYear (kl x) N w _ h) (g_cwS C hR ml_X8_119 sm_X8_isYear ini_X8 cd_X8_isYear hd_X8_isYear (by decide)) rfl _ rfl (Nat.le_of_ble_eq_true rfl) dX8_paper_35 hf (fun r4 s4 hf => ?_)
        refine g_ifeqB (tgt := 52) C dX8_paper_38 (by decide) hf (fun hf => ?_) (fun hf => ?_)
        · refine g_iconst C (v := (-1)) dX8_paper_52 rfl ?_
          exact g_iret C dX8_paper_53 hf
        · refine g_iload C dX8_paper_41 5 rfl ?_
          refine g_iconst C (v := 0) dX8_paper_43 rfl ?_
          refine g_bipush C (v := 99) dX8_paper_44 (by decide) ?_
          refine g_callSB C [.int a5, .int 0, .int 99] (fun _ _ h => c_X8_isWithin (kl x) N w _ _ _ h) (g_cwS C hR ml_X8_91 sm_X8_isWithin ini_X8 cd_X8_isWithin hd_X8_isWithin (by decide)) rfl _ rfl (Nat.le_of_ble_eq_true rfl) dX8_paper_46 hf (fun r5 s5 hf => ?_)
          refine g_ifneB (tgt := 54) C dX8_paper_49 (by decide) hf (fun hf => ?_) (fun hf => ?_)
          · refine g_iload_n C dX8_paper_54 rfl 2 rfl ?_
            refine g_iconst C (v := 5) dX8_paper_55 rfl ?_
            refine g_icmp_ne (tgt := 76) C dX8_paper_56 (by decide) hf (fun hf => ?_) (fun hf => ?_)
            · exact j76 _ _ _ _ _ _ _ hf
            · refine g_aload_n C dX8_paper_59 rfl 0 rfl ?_
              refine g_get C (R := RX8) (T := TX8) (N := 11) (k := 0) (v := .ref (ad w 1)) kd_0 (by decide) rfl (in_0 hS) hinX8 (by decide) fl_X8_10 rfl rfl dX8_paper_60 ?_
              refine g_get C (R := RX0) (T := TX0) (N := 8) (k := 1) (v := .ref (ad w 4)) kd_1 (by decide) rfl (in_1 hS) hinX0 (by decide) fl_X8_122 rfl rfl dX8_paper_63 ?_
              refine g_iload C dX8_paper_66 6 rfl ?_
              refine g_callVB C (R := RX5) (T := TX5) (N := 4) [.int a6] (fun _ _ h => c_X5_has (kl x) N w (ok_4 hS) _ h) (g_cwV C hR ml_X8_102 im_X5_has sl_X5_has ini_X5 cd_X5_has hd_X5_has (by decide)) kd_4 (by decide) rfl (in_4 hS) rfl _ rfl (Nat.le_of_ble_eq_true rfl) dX8_paper_68 hf (fun r6 s6 hf => ?_)
              refine g_ifneB (tgt := 76) C dX8_paper_71 (by decide) hf (fun hf => ?_) (fun hf => ?_)
              · exact j76 _ _ _ _ _ _ _ hf
              · refine g_iconst C (v := (-1)) dX8_paper_74 rfl ?_
                exact g_iret C dX8_paper_75 hf
          · refine g_iconst C (v := (-1)) dX8_paper_52 rfl ?_
            exact g_iret C dX8_paper_53 hf
      · refine g_iconst C (v := (-1)) dX8_paper_31 rfl ?_
        exact g_iret C dX8_paper_32 hf

set_option maxHeartbeats 4000000 in
set_option maxRecDepth 100000 in
theorem c_X8_paperOf (l : Launch) (N : Nat) (w : WX) (hS : SS w = Sc) (a1 : Int32) (a2 : Int32) {s s' : Mem} {r : Int32} (hf : f_X8_paperOf N a1 a2 s = some (r, s')) : CI l yX8_paperOf (wz yX8_paperOf cX8_paperOf 3 (some .int)) ({ frames := 1, cells := 0, slots := 0, locals := 23 } : Room) [.ref (ad w 0), .int a1, .int a2] w s r s' := by
  refine met_startI (cc := cX8_paperOf) (ret := (some .int)) (own := RX8) (maxL := 3) (by decide) rfl (Nat.le_of_ble_eq_true rfl) (fun x C hR hl => ?_)
  refine g_lv (lv' := [(0, .ref (ad w 0)), (1, .int a1), (2, .int a2)]) rfl ?_
  unfold f_X8_paperOf at hf
  refine g_aload_n C dX8_paperOf_0 rfl 0 rfl ?_
  refine g_get C (R := RX8) (T := TX8) (N := 11) (k := 0) (v := .ref (ad w 1)) kd_0 (by decide) rfl (in_0 hS) hinX8 (by decide) fl_X8_10 rfl rfl dX8_paperOf_1 ?_
  refine g_get C (R := RX0) (T := TX0) (N := 8) (k := 1) (v := .ref (ad w 4)) kd_1 (by decide) rfl (in_1 hS) hinX0 (by decide) fl_X8_122 rfl rfl dX8_paperOf_4 ?_
  refine g_iload_n C dX8_paperOf_7 rfl 1 rfl ?_
  refine g_callVB C (R := RX5) (T := TX5) (N := 4) [.int a1] (fun _ _ h => c_X5_has (kl x) N w (ok_4 hS) _ h) (g_cwV C hR ml_X8_102 im_X5_has sl_X5_has ini_X5 cd_X5_has hd_X5_has (by decide)) kd_4 (by decide) rfl (in_4 hS) rfl _ rfl (Nat.le_of_ble_eq_true rfl) dX8_paperOf_8 hf (fun r1 s1 hf => ?_)
  refine g_ifeqB (tgt := 23) C dX8_paperOf_11 (by decide) hf (fun hf => ?_) (fun hf => ?_)
  · refine g_iconst C (v := (-1)) dX8_paperOf_23 rfl ?_
    exact g_iret C dX8_paperOf_24 hf
  · refine g_iload_n C dX8_paperOf_14 rfl 2 rfl ?_
    refine g_iconst C (v := 0) dX8_paperOf_15 rfl ?_
    refine g_iconst C (v := 5) dX8_paperOf_16 rfl ?_
    refine g_callSB C [.int a2, .int 0, .int 5] (fun _ _ h => c_X8_isWithin (kl x) N w _ _ _ h) (g_cwS C hR ml_X8_91 sm_X8_isWithin ini_X8 cd_X8_isWithin hd_X8_isWithin (by decide)) rfl _ rfl (Nat.le_of_ble_eq_true rfl) dX8_paperOf_17 hf (fun r2 s2 hf => ?_)
    refine g_ifneB (tgt := 25) C dX8_paperOf_20 (by decide) hf (fun hf => ?_) (fun hf => ?_)
    · refine g_aload_n C dX8_paperOf_25 rfl 0 rfl ?_
      refine g_get C (R := RX8) (T := TX8) (N := 11) (k := 0) (v := .ref (ad w 1)) kd_0 (by decide) rfl (in_0 hS) hinX8 (by decide) fl_X8_10 rfl rfl dX8_paperOf_26 ?_
      refine g_get C (R := RX0) (T := TX0) (N := 8) (k := 1) (v := .ref (ad w 4)) kd_1 (by decide) rfl (in_1 hS) hinX0 (by decide) fl_X8_122 rfl rfl dX8_paperOf_29 ?_
      refine g_iload_n C dX8_paperOf_32 rfl 1 rfl ?_
      refine g_iload_n C dX8_paperOf_33 rfl 2 rfl ?_
      refine g_callVI C (R := RX5) (T := TX5) (N := 4) [.int a1, .int a2] (fun _ _ h => c_X5_get (kl x) N w (ok_4 hS) _ _ h) (g_cwV C hR ml_X8_105 im_X5_get sl_X5_get ini_X5 cd_X5_get hd_X5_get (by decide)) kd_4 (by decide) rfl (in_4 hS) rfl _ rfl (Nat.le_of_ble_eq_true rfl) dX8_paperOf_34 hf (fun r3 s3 hf => ?_)
      exact g_iret C dX8_paperOf_37 hf
    · refine g_iconst C (v := (-1)) dX8_paperOf_23 rfl ?_
      exact g_iret C dX8_paperOf_24 hf

set_option maxHeartbeats 4000000 in
set_option maxRecDepth 100000 in
theorem c_X8_correct (l : Launch) (N : Nat) (w : WX) (hS : SS w = Sc) (a1 : Int32) (a2 : Int32) {s s' : Mem} {r : Int32} (hf : f_X8_correct N a1 a2 s = some (r, s')) : CI l yX8_correct (wz yX8_correct cX8_correct 4 (some .int)) ({ frames := 2, cells := 0, slots := 0, locals := 42 } : Room) [.ref (ad w 0), .int a1, .int a2] w s r s' := by
  refine met_startI (cc := cX8_correct) (ret := (some .int)) (own := RX8) (maxL := 4) (by decide) rfl (Nat.le_of_ble_eq_true rfl) (fun x C hR hl => ?_)
  refine g_lv (lv' := [(0, .ref (ad w 0)), (1, .int a1), (2, .int a2)]) rfl ?_
  unfold f_X8_correct at hf
  refine g_aload_n C dX8_correct_0 rfl 0 rfl ?_
  refine g_get C (R := RX8) (T := TX8) (N := 11) (k := 0) (v := .ref (ad w 1)) kd_0 (by decide) rfl (in_0 hS) hinX8 (by decide) fl_X8_10 rfl rfl dX8_correct_1 ?_
  refine g_get C (R := RX0) (T := TX0) (N := 8) (k := 1) (v := .ref (ad w 4)) kd_1 (by decide) rfl (in_1 hS) hinX0 (by decide) fl_X8_122 rfl rfl dX8_correct_4 ?_
  refine g_iload_n C dX8_correct_7 rfl 1 rfl ?_
  refine g_callVB C (R := RX5) (T := TX5) (N := 4) [.int a1] (fun _ _ h => c_X5_has (kl x) N w (ok_4 hS) _ h) (g_cwV C hR ml_X8_102 im_X5_has sl_X5_has ini_X5 cd_X5_has hd_X5_has (by decide)) kd_4 (by decide) rfl (in_4 hS) rfl _ rfl (Nat.le_of_ble_eq_true rfl) dX8_correct_8 hf (fun r1 s1 hf => ?_)
  refine g_ifeqB (tgt := 21) C dX8_correct_11 (by decide) hf (fun hf => ?_) (fun hf => ?_)
  · refine g_iconst C (v := (-1)) dX8_correct_21 rfl ?_
    exact g_iret C dX8_correct_22 hf
  · refine g_iload_n C dX8_correct_14 rfl 2 rfl ?_
    refine g_callSB C [.int a2] (fun _ _ h => c_X8_isYear (kl x) N w _ h) (g_cwS C hR ml_X8_119 sm_X8_isYear ini_X8 cd_X8_isYear hd_X8_isYear (by decide)) rfl _ rfl (Nat.le_of_ble_eq_true rfl) dX8_correct_15 hf (fun r2 s2 hf => ?_)
    refine g_ifneB (tgt := 23) C dX8_correct_18 (by decide) hf (fun hf => ?_) (fun hf => ?_)
    · refine g_aload_n C dX8_correct_23 rfl 0 rfl ?_
      refine g_get C (R := RX8) (T := TX8) (N := 11) (k := 0) (v := .ref (ad w 1)) kd_0 (by decide) rfl (in_0 hS) hinX8 (by decide) fl_X8_10 rfl rfl dX8_correct_24 ?_
      refine g_get C (R := RX0) (T := TX0) (N := 8) (k := 1) (v := .ref (ad w 4)) kd_1 (by decide) rfl (in_1 hS) hinX0 (by decide) fl_X8_122 rfl rfl dX8_correct_27 ?_
      refine g_iload_n C dX8_correct_30 rfl 1 rfl ?_
      refine g_iconst C (v := 3) dX8_correct_31 rfl ?_
      refine g_callVI C (R := RX5) (T := TX5) (N := 4) [.int a1, .int 3] (fun _ _ h => c_X5_get (kl x) N w (ok_4 hS) _ _ h) (g_cwV C hR ml_X8_105 im_X5_get sl_X5_get ini_X5 cd_X5_get hd_X5_get (by decide)) kd_4 (by decide) rfl (in_4 hS) rfl _ rfl (Nat.le_of_ble_eq_true rfl) dX8_correct_32 hf (fun r3 s3 hf => ?_)
      refine g_istore_n (lv' := [(3, .int r3), (0, .ref (ad w 0)), (1, .int a1), (2, .int a2)]) C dX8_correct_35 rfl (by decide) rfl ?_
      refine g_aload_n C dX8_correct_36 rfl 1 rfl ?_
      refine g_get C (R := RX8) (T := TX8) (N := 11) (k := 0) (v := .ref (ad w 1)) kd_0 (by decide) rfl (in_0 hS) hinX8 (by decide) fl_X8_10 rfl rfl dX8_correct_37 ?_
      refine g_get C (R := RX0) (T := TX0) (N := 8) (k := 1) (v := .ref (ad w 4)) kd_1 (by decide) rfl (in_1 hS) hinX0 (by decide) fl_X8_122 rfl rfl dX8_correct_40 ?_
      refine g_iload_n C dX8_correct_43 rfl 2 rfl ?_
      refine g_iconst C (v := 3) dX8_correct_44 rfl ?_
      refine g_iload_n C dX8_correct_45 rfl 3 rfl ?_
      refine g_callVV C (R := RX5) (T := TX5) (N := 4) [.int a1, .int 3, .int a2] (fun _ h => c_X5_set (kl x) N w (ok_4 hS) _ _ _ h) (g_cwV C hR ml_X8_83 im_X5_set sl_X5_set ini_X5 cd_X5_set hd_X5_set (by decide)) kd_4 (by decide) rfl (in_4 hS) rfl _ rfl (Nat.le_of_ble_eq_true rfl) dX8_correct_46 hf (fun s4 hf => ?_)
      refine g_iload_n C dX8_correct_49 rfl 0 rfl ?_
      exact g_iret C dX8_correct_50 hf
    · refine g_iconst C (v := (-1)) dX8_correct_21 rfl ?_
      exact g_iret C dX8_correct_22 hf

set_option maxHeartbeats 4000000 in
set_option maxRecDepth 100000 in
theorem c_X8_span (l : Launch) (N : Nat) (w : WX) (hS : SS w = Sc) (a1 : Int32) (a2 : Int32) {s s' : Mem} {r : Int32} (hf : f_X8_span N a1 a2 s = some (r, s')) : CI l yX8_span (wz yX8_span cX8_span 3 (some .int)) ({ frames := 2, cells := 0, slots := 0, locals := 47 } : Room) [.ref (ad w 0), .int a1, .int a2] w s r s' := by
  refine met_startI (cc := cX8_span) (ret := (some .int)) (own := RX8) (maxL := 3) (by decide) rfl (Nat.le_of_ble_eq_true rfl) (fun x C hR hl => ?_)
  refine g_lv (lv' := [(0, .ref (ad w 0)), (1, .int a1), (2, .int a2)]) rfl ?_
  unfold f_X8_span at hf
  refine g_aload_n C dX8_span_0 rfl 0 rfl ?_
  refine g_get C (R := RX8) (T := TX8) (N := 11) (k := 0) (v := .ref (ad w 1)) kd_0 (by decide) rfl (in_0 hS) hinX8 (by decide) fl_X8_10 rfl rfl dX8_span_1 ?_
  refine g_get C (R := RX0) (T := TX0) (N := 8) (k := 1) (v := .ref (ad w 4)) kd_1 (by decide) rfl (in_1 hS) hinX0 (by decide) fl_X8_122 rfl rfl dX8_span_4 ?_
  refine g_iload_n C dX8_span_7 rfl 1 rfl ?_
  refine g_callVB C (R := RX5) (T := TX5) (N := 4) [.int a1] (fun _ _ h => c_X5_has (kl x) N w (ok_4 hS) _ h) (g_cwV C hR ml_X8_102 im_X5_has sl_X5_has ini_X5 cd_X5_has hd_X5_has (by decide)) kd_4 (by decide) rfl (in_4 hS) rfl _ rfl (Nat.le_of_ble_eq_true rfl) dX8_span_8 hf (fun r1 s1 hf => ?_)
  refine g_ifeqB (tgt := 21) C dX8_span_11 (by decide) hf (fun hf => ?_) (fun hf => ?_)
  · refine g_iconst C (v := (-1)) dX8_span_21 rfl ?_
    exact g_iret C dX8_span_22 hf
  · refine g_iload_n C dX8_span_14 rfl 2 rfl ?_
    refine g_callSB C [.int a2] (fun _ _ h => c_X8_isYear (kl x) N w _ h) (g_cwS C hR ml_X8_119 sm_X8_isYear ini_X8 cd_X8_isYear hd_X8_isYear (by decide)) rfl _ rfl (Nat.le_of_ble_eq_true rfl) dX8_span_15 hf (fun r2 s2 hf => ?_)
    refine g_ifneB (tgt := 23) C dX8_span_18 (by decide) hf (fun hf => ?_) (fun hf => ?_)
    · refine g_aload_n C dX8_span_23 rfl 0 rfl ?_
      refine g_get C (R := RX8) (T := TX8) (N := 11) (k := 0) (v := .ref (ad w 1)) kd_0 (by decide) rfl (in_0 hS) hinX8 (by decide) fl_X8_10 rfl rfl dX8_span_24 ?_
      refine g_iload_n C dX8_span_27 rfl 1 rfl ?_
      refine g_iload_n C dX8_span_28 rfl 2 rfl ?_
      refine g_callVB C (R := RX0) (T := TX0) (N := 8) [.int a1, .int a2] (fun _ _ h => c_X0_isInSpan (kl x) N w hS _ _ h) (g_cwV C hR ml_X8_125 im_X0_isInSpan sl_X0_isInSpan ini_X0 cd_X0_isInSpan hd_X0_isInSpan (by decide)) kd_1 (by decide) rfl (in_1 hS) rfl _ rfl (Nat.le_of_ble_eq_true rfl) dX8_span_29 hf (fun r3 s3 hf => ?_)
      refine g_ifeqB (tgt := 39) C dX8_span_32 (by decide) hf (fun hf => ?_) (fun hf => ?_)
      · refine g_iconst C (v := 0) dX8_span_39 rfl ?_
        exact g_iret C dX8_span_40 hf
      · refine g_iconst C (v := 1) dX8_span_35 rfl ?_
        refine g_goto (tgt := 40) C dX8_span_36 (by decide) ?_
        exact g_iret C dX8_span_40 hf
    · refine g_iconst C (v := (-1)) dX8_span_21 rfl ?_
      exact g_iret C dX8_span_22 hf

set_option maxHeartbeats 4000000 in
set_option maxRecDepth 100000 in
theorem c_X8_isSheet (l : Launch) (N : Nat) (w : WX) (a0 : Int32) {s s' : Mem} {r : Bool} (hf : f_X8_isSheet N a0 s = some (r, s')) : CB l yX8_isSheet (wz yX8_isSheet cX8_isSheet 1 (some .boolean)) ({ frames := 1, cells := 0, slots := 0, locals := 22 } : Room) [.int a0] w s r s' := by
  refine met_startB (cc := cX8_isSheet) (ret := (some .boolean)) (own := RX8) (maxL := 1) (by decide) rfl (Nat.le_of_ble_eq_true rfl) (fun x C hR hl => ?_)
  refine g_lv (lv' := [(0, .int a0)]) rfl ?_
  unfold f_X8_isSheet at hf
  refine g_iload_n C dX8_isSheet_0 rfl 0 rfl ?_
  refine g_iconst C (v := 0) dX8_isSheet_1 rfl ?_
  refine g_iconst C (v := 3) dX8_isSheet_2 rfl ?_
  refine g_callSB C [.int a0, .int 0, .int 3] (fun _ _ h => c_X8_isWithin (kl x) N w _ _ _ h) (g_cwS C hR ml_X8_91 sm_X8_isWithin ini_X8 cd_X8_isWithin hd_X8_isWithin (by decide)) rfl _ rfl (Nat.le_of_ble_eq_true rfl) dX8_isSheet_3 hf (fun r1 s1 hf => ?_)
  exact g_zret C dX8_isSheet_6 hf

set_option maxHeartbeats 4000000 in
set_option maxRecDepth 100000 in
theorem c_X8_isLifeTable (l : Launch) (N : Nat) (w : WX) (hS : SS w = Sc) {t : Nat} (h_t : okO 4 w t) {s s' : Mem} {r : Bool} (hf : f_X8_isLifeTable N t s = some (r, s')) : CB l yX8_isLifeTable (wz yX8_isLifeTable cX8_isLifeTable 2 (some .boolean)) ({ frames := 2, cells := 0, slots := 0, locals := 42 } : Room) [.ref (ad w t)] w s r s' := by
  refine met_startB (cc := cX8_isLifeTable) (ret := (some .boolean)) (own := RX8) (maxL := 2) (by decide) rfl (Nat.le_of_ble_eq_true rfl) (fun x C hR hl => ?_)
  have j13 : ∀ (n : Nat), ∀ (v1 : Int32) (s : Mem), f_X8_isLifeTable_L13 N t n v1 s = some (r, s') → G x (QB x w r s') 2 w 13 [(0, .ref (ad w t)), (1, .int v1)] [] s := by
    intro n
    induction n with
    | zero => intro v1 s hf; cases hf
    | succ n ih =>
      intro v1 s hf
      unfold f_X8_isLifeTable_L13 at hf
      refine g_iload_n C dX8_isLifeTable_13 rfl 1 rfl ?_
      refine g_bipush C (v := 17) dX8_isLifeTable_14 (by decide) ?_
      refine g_icmp_ge (tgt := 41) C dX8_isLifeTable_16 (by decide) hf (fun hf => ?_) (fun hf => ?_)
      · refine g_iconst C (v := 1) dX8_isLifeTable_41 rfl ?_
        exact g_zret (v := true) C dX8_isLifeTable_42 hf
      · refine g_aload_n C dX8_isLifeTable_19 rfl 0 rfl ?_
        refine g_iload_n C dX8_isLifeTable_20 rfl 1 rfl ?_
        refine g_callVI C (R := RX4) (T := TX4) (N := 3) [.int v1] (fun _ _ h => c_X4_get (kl x) N w h_t _ h) (g_cwV C hR ml_X8_142 im_X4_get sl_X4_get ini_X4 cd_X4_get hd_X4_get (by decide)) h_t.2.2.1 (by decide) rfl h_t.1 rfl _ rfl (Nat.le_of_ble_eq_true rfl) dX8_isLifeTable_21 hf (fun r1 s1 hf => ?_)
        refine g_iconst C (v := 0) dX8_isLifeTable_24 rfl ?_
        refine g_bipush C (v := 100) dX8_isLifeTable_25 (by decide) ?_
        refine g_callSB C [.int r1, .int 0, .int 100] (fun _ _ h => c_X8_isWithin (kl x) N w _ _ _ h) (g_cwS C hR ml_X8_91 sm_X8_isWithin ini_X8 cd_X8_isWithin hd_X8_isWithin (by decide)) rfl _ rfl (Nat.le_of_ble_eq_true rfl) dX8_isLifeTable_27 hf (fun r2 s2 hf => ?_)
        refine g_ifneB (tgt := 35) C dX8_isLifeTable_30 (by decide) hf (fun hf => ?_) (fun hf => ?_)
        · refine g_iinc (v' := v1 + 1) (lv' := [(1, .int (v1 + 1)), (0, .ref (ad w t))]) C dX8_isLifeTable_35 1 rfl rfl (by decide) rfl ?_
          refine g_goto (tgt := 13) C dX8_isLifeTable_38 (by decide) ?_
          refine g_sub [1, 0] rfl ?_
          exact ih _ _ hf
        · refine g_iconst C (v := 0) dX8_isLifeTable_33 rfl ?_
          exact g_zret (v := false) C dX8_isLifeTable_34 hf
  refine g_lv (lv' := [(0, .ref (ad w t))]) rfl ?_
  unfold f_X8_isLifeTable at hf
  refine g_aload_n C dX8_isLifeTable_0 rfl 0 rfl ?_
  refine g_get C (R := RX4) (T := TX4) (N := 3) (k := 2) (v := .int (rI s t 2)) h_t.2.2.1 (by decide) rfl h_t.1 hinX4 (by decide) fl_X8_144 rfl rfl dX8_isLifeTable_1 ?_
  refine g_bipush C (v := 17) dX8_isLifeTable_4 (by decide) ?_
  refine g_icmp_eq (tgt := 11) C dX8_isLifeTable_6 (by decide) hf (fun hf => ?_) (fun hf => ?_)
  · refine g_iconst C (v := 0) dX8_isLifeTable_11 rfl ?_
    refine g_istore_n (lv' := [(1, .int 0), (0, .ref (ad w t))]) C dX8_isLifeTable_12 rfl (by decide) rfl ?_
    refine g_sub [1, 0] rfl ?_
    exact j13 N _ _ hf
  · refine g_iconst C (v := 0) dX8_isLifeTable_9 rfl ?_
    exact g_zret (v := false) C dX8_isLifeTable_10 hf

set_option maxHeartbeats 4000000 in
set_option maxRecDepth 100000 in
theorem c_X8_life (l : Launch) (N : Nat) (w : WX) (hS : SS w = Sc) (a1 : Int32) {s s' : Mem} {r : Int32} (hf : f_X8_life N a1 s = some (r, s')) : CI l yX8_life (wz yX8_life cX8_life 4 (some .int)) ({ frames := 3, cells := 0, slots := 0, locals := 63 } : Room) [.ref (ad w 0), .int a1] w s r s' := by
  refine met_startI (cc := cX8_life) (ret := (some .int)) (own := RX8) (maxL := 4) (by decide) rfl (Nat.le_of_ble_eq_true rfl) (fun x C hR hl => ?_)
  have j43 : ∀ (n : Nat), ∀ (v1 : Int32) (v3 : Int32) (s : Mem), f_X8_life_L43 N n v1 v3 s = some (r, s') → G x (QI x w r s') 4 w 43 [(0, .ref (ad w 0)), (1, .int v1), (3, .int v3)] [] s := by
    intro n
    induction n with
    | zero => intro v1 v3 s hf; cases hf
    | succ n ih =>
      intro v1 v3 s hf
      unfold f_X8_life_L43 at hf
      refine g_iload_n C dX8_life_43 rfl 2 rfl ?_
      refine g_bipush C (v := 17) dX8_life_44 (by decide) ?_
      refine g_icmp_ge (tgt := 77) C dX8_life_46 (by decide) hf (fun hf => ?_) (fun hf => ?_)
      · refine g_iconst C (v := 1) dX8_life_77 rfl ?_
        exact g_iret C dX8_life_78 hf
      · refine g_aload_n C dX8_life_49 rfl 0 rfl ?_
        refine g_get C (R := RX8) (T := TX8) (N := 11) (k := 0) (v := .ref (ad w 1)) kd_0 (by decide) rfl (in_0 hS) hinX8 (by decide) fl_X8_10 rfl rfl dX8_life_50 ?_
        refine g_get C (R := RX0) (T := TX0) (N := 8) (k := 2) (v := .ref (ad w 6)) kd_1 (by decide) rfl (in_1 hS) hinX0 (by decide) fl_X8_139 rfl rfl dX8_life_53 ?_
        refine g_iload_n C dX8_life_56 rfl 2 rfl ?_
        refine g_iconst C (v := 0) dX8_life_57 rfl ?_
        refine g_aload_n C dX8_life_58 rfl 0 rfl ?_
        refine g_get C (R := RX8) (T := TX8) (N := 11) (k := 8) (v := .ref (ad w 47)) kd_0 (by decide) rfl (in_0 hS) hinX8 (by decide) fl_X8_65 rfl rfl dX8_life_59 ?_
        refine g_iload_n C dX8_life_62 rfl 1 rfl ?_
        refine g_aald C kd_47 ln_47 (in_47 hS) dX8_life_63 hf (fun hv1 hf => ?_)
        refine g_iload_n C dX8_life_64 rfl 2 rfl ?_
        refine g_callVI C (R := RX4) (T := TX4) (N := 3) [.int v3] (fun _ _ h => c_X4_get (kl x) N w (okSh hS hv1) _ h) (g_cwV C hR ml_X8_142 im_X4_get sl_X4_get ini_X4 cd_X4_get hd_X4_get (by decide)) (okSh hS hv1).2.2.1 (by decide) rfl (okSh hS hv1).1 rfl _ rfl (Nat.le_of_ble_eq_true rfl) dX8_life_65 hf (fun r2 s2 hf => ?_)
        refine g_callVV C (R := RX5) (T := TX5) (N := 4) [.int v3, .int 0, .int r2] (fun _ h => c_X5_set (kl x) N w (ok_6 hS) _ _ _ h) (g_cwV C hR ml_X8_83 im_X5_set sl_X5_set ini_X5 cd_X5_set hd_X5_set (by decide)) kd_6 (by decide) rfl (in_6 hS) rfl _ rfl (Nat.le_of_ble_eq_true rfl) dX8_life_68 hf (fun s3 hf => ?_)
        refine g_iinc (v' := v3 + 1) (lv' := [(3, .int (v3 + 1)), (0, .ref (ad w 0)), (1, .int v1)]) C dX8_life_71 2 rfl rfl (by decide) rfl ?_
        refine g_goto (tgt := 43) C dX8_life_74 (by decide) ?_
        refine g_sub [1, 2, 0] rfl ?_
        exact ih _ _ _ hf
  refine g_lv (lv' := [(0, .ref (ad w 0)), (1, .int a1)]) rfl ?_
  unfold f_X8_life at hf
  refine g_iload_n C dX8_life_0 rfl 1 rfl ?_
  refine g_callSB C [.int a1] (fun _ _ h => c_X8_isSheet (kl x) N w _ h) (g_cwS C hR ml_X8_129 sm_X8_isSheet ini_X8 cd_X8_isSheet hd_X8_isSheet (by decide)) rfl _ rfl (Nat.le_of_ble_eq_true rfl) dX8_life_1 hf (fun r1 s1 hf => ?_)
  refine g_ifneB (tgt := 9) C dX8_life_4 (by decide) hf (fun hf => ?_) (fun hf => ?_)
  · refine g_aload_n C dX8_life_9 rfl 0 rfl ?_
    refine g_get C (R := RX8) (T := TX8) (N := 11) (k := 8) (v := .ref (ad w 47)) kd_0 (by decide) rfl (in_0 hS) hinX8 (by decide) fl_X8_65 rfl rfl dX8_life_10 ?_
    refine g_iload_n C dX8_life_13 rfl 1 rfl ?_
    refine g_aald C kd_47 ln_47 (in_47 hS) dX8_life_14 hf (fun hv2 hf => ?_)
    refine g_iconst C (v := 1) dX8_life_15 rfl ?_
    refine g_callVI C (R := RX4) (T := TX4) (N := 3) [.int 1] (fun _ _ h => c_X4_refusalAs (kl x) N w (okSh hS hv2) _ h) (g_cwV C hR ml_X8_132 im_X4_refusalAs sl_X4_refusalAs ini_X4 cd_X4_refusalAs hd_X4_refusalAs (by decide)) (okSh hS hv2).2.2.1 (by decide) rfl (okSh hS hv2).1 rfl _ rfl (Nat.le_of_ble_eq_true rfl) dX8_life_16 hf (fun r3 s3 hf => ?_)
    refine g_istore_n (lv' := [(2, .int r3), (0, .ref (ad w 0)), (1, .int a1)]) C dX8_life_19 rfl (by decide) rfl ?_
    refine g_iload_n C dX8_life_20 rfl 0 rfl ?_
    refine g_if_eq (tgt := 26) C dX8_life_21 (by decide) hf (fun hf => ?_) (fun hf => ?_)
    · refine g_aload_n C dX8_life_26 rfl 1 rfl ?_
      refine g_get C (R := RX8) (T := TX8) (N := 11) (k := 8) (v := .ref (ad w 47)) kd_0 (by decide) rfl (in_0 hS) hinX8 (by decide) fl_X8_65 rfl rfl dX8_life_27 ?_
      refine g_iload_n C dX8_life_30 rfl 2 rfl ?_
      refine g_aald C kd_47 ln_47 (in_47 hS) dX8_life_31 hf (fun hv4 hf => ?_)
      refine g_callSB C [.ref (ad w (47 + 1 + 2 * a1.toNatClampNeg))] (fun _ _ h => c_X8_isLifeTable (kl x) N w hS (okSh hS hv4) h) (g_cwS C hR ml_X8_135 sm_X8_isLifeTable ini_X8 cd_X8_isLifeTable hd_X8_isLifeTable (by decide)) rfl _ rfl (Nat.le_of_ble_eq_true rfl) dX8_life_32 hf (fun r5 s5 hf => ?_)
      refine g_ifneB (tgt := 41) C dX8_life_35 (by decide) hf (fun hf => ?_) (fun hf => ?_)
      · refine g_iconst C (v := 0) dX8_life_41 rfl ?_
        refine g_istore_n (lv' := [(3, .int 0), (2, .int r3), (0, .ref (ad w 0)), (1, .int a1)]) C dX8_life_42 rfl (by decide) rfl ?_
        refine g_sub [2, 3, 0] rfl ?_
        exact j43 N _ _ _ hf
      · refine g_bipush C (v := (-4)) dX8_life_38 (by decide) ?_
        exact g_iret C dX8_life_40 hf
    · refine g_iload_n C dX8_life_24 rfl 0 rfl ?_
      exact g_iret C dX8_life_25 hf
  · refine g_iconst C (v := (-1)) dX8_life_7 rfl ?_
    exact g_iret C dX8_life_8 hf

set_option maxHeartbeats 4000000 in
set_option maxRecDepth 100000 in
theorem c_X8_weight (l : Launch) (N : Nat) (w : WX) (hS : SS w = Sc) (a1 : Int32) (a2 : Int32) {s s' : Mem} {r : Int64} (hf : f_X8_weight N a1 a2 s = some (r, s')) : CL l yX8_weight (wz yX8_weight cX8_weight 3 (some .long)) ({ frames := 4, cells := 0, slots := 0, locals := 95 } : Room) [.ref (ad w 0), .int a1, .int a2] w s r s' := by
  refine met_startL (cc := cX8_weight) (ret := (some .long)) (own := RX8) (maxL := 3) (by decide) rfl (Nat.le_of_ble_eq_true rfl) (fun x C hR hl => ?_)
  refine g_lv (lv' := [(0, .ref (ad w 0)), (1, .int a1), (2, .int a2)]) rfl ?_
  unfold f_X8_weight at hf
  refine g_aload_n C dX8_weight_0 rfl 0 rfl ?_
  refine g_get C (R := RX8) (T := TX8) (N := 11) (k := 0) (v := .ref (ad w 1)) kd_0 (by decide) rfl (in_0 hS) hinX8 (by decide) fl_X8_10 rfl rfl dX8_weight_1 ?_
  refine g_get C (R := RX0) (T := TX0) (N := 8) (k := 0) (v := .ref (ad w 2)) kd_1 (by decide) rfl (in_1 hS) hinX0 (by decide) fl_X8_95 rfl rfl dX8_weight_4 ?_
  refine g_iload_n C dX8_weight_7 rfl 1 rfl ?_
  refine g_callVB C (R := RX5) (T := TX5) (N := 4) [.int a1] (fun _ _ h => c_X5_has (kl x) N w (ok_2 hS) _ h) (g_cwV C hR ml_X8_102 im_X5_has sl_X5_has ini_X5 cd_X5_has hd_X5_has (by decide)) kd_2 (by decide) rfl (in_2 hS) rfl _ rfl (Nat.le_of_ble_eq_true rfl) dX8_weight_8 hf (fun r1 s1 hf => ?_)
  refine g_ifeqB (tgt := 21) C dX8_weight_11 (by decide) hf (fun hf => ?_) (fun hf => ?_)
  · refine g_ldc2 C (v := (-1)) dX8_weight_21 kL_X8_148 ?_
    exact g_lret C dX8_weight_24 hf
  · refine g_iload_n C dX8_weight_14 rfl 2 rfl ?_
    refine g_callSB C [.int a2] (fun _ _ h => c_X8_isYear (kl x) N w _ h) (g_cwS C hR ml_X8_119 sm_X8_isYear ini_X8 cd_X8_isYear hd_X8_isYear (by decide)) rfl _ rfl (Nat.le_of_ble_eq_true rfl) dX8_weight_15 hf (fun r2 s2 hf => ?_)
    refine g_ifneB (tgt := 25) C dX8_weight_18 (by decide) hf (fun hf => ?_) (fun hf => ?_)
    · refine g_aload_n C dX8_weight_25 rfl 0 rfl ?_
      refine g_get C (R := RX8) (T := TX8) (N := 11) (k := 3) (v := .ref (ad w 31)) kd_0 (by decide) rfl (in_0 hS) hinX8 (by decide) fl_X8_26 rfl rfl dX8_weight_26 ?_
      refine g_aload_n C dX8_weight_29 rfl 0 rfl ?_
      refine g_get C (R := RX8) (T := TX8) (N := 11) (k := 0) (v := .ref (ad w 1)) kd_0 (by decide) rfl (in_0 hS) hinX8 (by decide) fl_X8_10 rfl rfl dX8_weight_30 ?_
      refine g_iload_n C dX8_weight_33 rfl 1 rfl ?_
      refine g_callVV C (R := RX2) (T := TX2) (N := 4) [.ref (ad w 1), .int a1] (fun _ h => c_X2_weigh (kl x) N w hS _ h) (g_cwV C hR ml_X8_150 im_X2_weigh sl_X2_weigh ini_X2 cd_X2_weigh hd_X2_weigh (by decide)) kd_31 (by decide) rfl (in_31 hS) rfl _ rfl (Nat.le_of_ble_eq_true rfl) dX8_weight_34 hf (fun s3 hf => ?_)
      refine g_aload_n C dX8_weight_37 rfl 0 rfl ?_
      refine g_get C (R := RX8) (T := TX8) (N := 11) (k := 3) (v := .ref (ad w 31)) kd_0 (by decide) rfl (in_0 hS) hinX8 (by decide) fl_X8_26 rfl rfl dX8_weight_38 ?_
      refine g_iload_n C dX8_weight_41 rfl 2 rfl ?_
      refine g_callVL C (R := RX2) (T := TX2) (N := 4) [.int a2] (fun _ _ h => c_X2_of (kl x) N w hS _ h) (g_cwV C hR ml_X8_154 im_X2_of sl_X2_of ini_X2 cd_X2_of hd_X2_of (by decide)) kd_31 (by decide) rfl (in_31 hS) rfl _ rfl (Nat.le_of_ble_eq_true rfl) dX8_weight_42 hf (fun r4 s4 hf => ?_)
      exact g_lret C dX8_weight_45 hf
    · refine g_ldc2 C (v := (-1)) dX8_weight_21 kL_X8_148 ?_
      exact g_lret C dX8_weight_24 hf

set_option maxHeartbeats 4000000 in
set_option maxRecDepth 100000 in
theorem c_X8_all (l : Launch) (N : Nat) (w : WX) (hS : SS w = Sc) (a1 : Int32) {s s' : Mem} {r : Int64} (hf : f_X8_all N a1 s = some (r, s')) : CL l yX8_all (wz yX8_all cX8_all 2 (some .long)) ({ frames := 4, cells := 0, slots := 0, locals := 95 } : Room) [.ref (ad w 0), .int a1] w s r s' := by
  refine met_startL (cc := cX8_all) (ret := (some .long)) (own := RX8) (maxL := 2) (by decide) rfl (Nat.le_of_ble_eq_true rfl) (fun x C hR hl => ?_)
  refine g_lv (lv' := [(0, .ref (ad w 0)), (1, .int a1)]) rfl ?_
  unfold f_X8_all at hf
  refine g_aload_n C dX8_all_0 rfl 0 rfl ?_
  refine g_get C (R := RX8) (T := TX8) (N := 11) (k := 0) (v := .ref (ad w 1)) kd_0 (by decide) rfl (in_0 hS) hinX8 (by decide) fl_X8_10 rfl rfl dX8_all_1 ?_
  refine g_get C (R := RX0) (T := TX0) (N := 8) (k := 0) (v := .ref (ad w 2)) kd_1 (by decide) rfl (in_1 hS) hinX0 (by decide) fl_X8_95 rfl rfl dX8_all_4 ?_
  refine g_iload_n C dX8_all_7 rfl 1 rfl ?_
  refine g_callVB C (R := RX5) (T := TX5) (N := 4) [.int a1] (fun _ _ h => c_X5_has (kl x) N w (ok_2 hS) _ h) (g_cwV C hR ml_X8_102 im_X5_has sl_X5_has ini_X5 cd_X5_has hd_X5_has (by decide)) kd_2 (by decide) rfl (in_2 hS) rfl _ rfl (Nat.le_of_ble_eq_true rfl) dX8_all_8 hf (fun r1 s1 hf => ?_)
  refine g_ifneB (tgt := 18) C dX8_all_11 (by decide) hf (fun hf => ?_) (fun hf => ?_)
  · refine g_aload_n C dX8_all_18 rfl 0 rfl ?_
    refine g_get C (R := RX8) (T := TX8) (N := 11) (k := 3) (v := .ref (ad w 31)) kd_0 (by decide) rfl (in_0 hS) hinX8 (by decide) fl_X8_26 rfl rfl dX8_all_19 ?_
    refine g_aload_n C dX8_all_22 rfl 0 rfl ?_
    refine g_get C (R := RX8) (T := TX8) (N := 11) (k := 0) (v := .ref (ad w 1)) kd_0 (by decide) rfl (in_0 hS) hinX8 (by decide) fl_X8_10 rfl rfl dX8_all_23 ?_
    refine g_iload_n C dX8_all_26 rfl 1 rfl ?_
    refine g_callVV C (R := RX2) (T := TX2) (N := 4) [.ref (ad w 1), .int a1] (fun _ h => c_X2_weigh (kl x) N w hS _ h) (g_cwV C hR ml_X8_150 im_X2_weigh sl_X2_weigh ini_X2 cd_X2_weigh hd_X2_weigh (by decide)) kd_31 (by decide) rfl (in_31 hS) rfl _ rfl (Nat.le_of_ble_eq_true rfl) dX8_all_27 hf (fun s2 hf => ?_)
    refine g_aload_n C dX8_all_30 rfl 0 rfl ?_
    refine g_get C (R := RX8) (T := TX8) (N := 11) (k := 3) (v := .ref (ad w 31)) kd_0 (by decide) rfl (in_0 hS) hinX8 (by decide) fl_X8_26 rfl rfl dX8_all_31 ?_
    refine g_get C (R := RX2) (T := TX2) (N := 4) (k := 2) (v := .long (rL s2 31 2)) kd_31 (by decide) rfl (in_31 hS) hinX2 (by decide) fl_X8_158 rfl rfl dX8_all_34 ?_
    exact g_lret C dX8_all_37 hf
  · refine g_ldc2 C (v := (-1)) dX8_all_14 kL_X8_148 ?_
    exact g_lret C dX8_all_17 hf

set_option maxHeartbeats 4000000 in
set_option maxRecDepth 100000 in
theorem c_X8_best (l : Launch) (N : Nat) (w : WX) (hS : SS w = Sc) (a1 : Int32) {s s' : Mem} {r : Int32} (hf : f_X8_best N a1 s = some (r, s')) : CI l yX8_best (wz yX8_best cX8_best 2 (some .int)) ({ frames := 4, cells := 0, slots := 0, locals := 95 } : Room) [.ref (ad w 0), .int a1] w s r s' := by
  refine met_startI (cc := cX8_best) (ret := (some .int)) (own := RX8) (maxL := 2) (by decide) rfl (Nat.le_of_ble_eq_true rfl) (fun x C hR hl => ?_)
  refine g_lv (lv' := [(0, .ref (ad w 0)), (1, .int a1)]) rfl ?_
  unfold f_X8_best at hf
  refine g_aload_n C dX8_best_0 rfl 0 rfl ?_
  refine g_get C (R := RX8) (T := TX8) (N := 11) (k := 0) (v := .ref (ad w 1)) kd_0 (by decide) rfl (in_0 hS) hinX8 (by decide) fl_X8_10 rfl rfl dX8_best_1 ?_
  refine g_get C (R := RX0) (T := TX0) (N := 8) (k := 0) (v := .ref (ad w 2)) kd_1 (by decide) rfl (in_1 hS) hinX0 (by decide) fl_X8_95 rfl rfl dX8_best_4 ?_
  refine g_iload_n C dX8_best_7 rfl 1 rfl ?_
  refine g_callVB C (R := RX5) (T := TX5) (N := 4) [.int a1] (fun _ _ h => c_X5_has (kl x) N w (ok_2 hS) _ h) (g_cwV C hR ml_X8_102 im_X5_has sl_X5_has ini_X5 cd_X5_has hd_X5_has (by decide)) kd_2 (by decide) rfl (in_2 hS) rfl _ rfl (Nat.le_of_ble_eq_true rfl) dX8_best_8 hf (fun r1 s1 hf => ?_)
  refine g_ifneB (tgt := 16) C dX8_best_11 (by decide) hf (fun hf => ?_) (fun hf => ?_)
  · refine g_aload_n C dX8_best_16 rfl 0 rfl ?_
    refine g_get C (R := RX8) (T := TX8) (N := 11) (k := 3) (v := .ref (ad w 31)) kd_0 (by decide) rfl (in_0 hS) hinX8 (by decide) fl_X8_26 rfl rfl dX8_best_17 ?_
    refine g_aload_n C dX8_best_20 rfl 0 rfl ?_
    refine g_get C (R := RX8) (T := TX8) (N := 11) (k := 0) (v := .ref (ad w 1)) kd_0 (by decide) rfl (in_0 hS) hinX8 (by decide) fl_X8_10 rfl rfl dX8_best_21 ?_
    refine g_iload_n C dX8_best_24 rfl 1 rfl ?_
    refine g_callVV C (R := RX2) (T := TX2) (N := 4) [.ref (ad w 1), .int a1] (fun _ h => c_X2_weigh (kl x) N w hS _ h) (g_cwV C hR ml_X8_150 im_X2_weigh sl_X2_weigh ini_X2 cd_X2_weigh hd_X2_weigh (by decide)) kd_31 (by decide) rfl (in_31 hS) rfl _ rfl (Nat.le_of_ble_eq_true rfl) dX8_best_25 hf (fun s2 hf => ?_)
    refine g_aload_n C dX8_best_28 rfl 0 rfl ?_
    refine g_get C (R := RX8) (T := TX8) (N := 11) (k := 3) (v := .ref (ad w 31)) kd_0 (by decide) rfl (in_0 hS) hinX8 (by decide) fl_X8_26 rfl rfl dX8_best_29 ?_
    refine g_get C (R := RX2) (T := TX2) (N := 4) (k := 3) (v := .int (rI s2 31 3)) kd_31 (by decide) rfl (in_31 hS) hinX2 (by decide) fl_X8_162 rfl rfl dX8_best_32 ?_
    exact g_iret C dX8_best_35 hf
  · refine g_iconst C (v := (-1)) dX8_best_14 rfl ?_
    exact g_iret C dX8_best_15 hf

set_option maxHeartbeats 4000000 in
set_option maxRecDepth 100000 in
theorem c_X8_greatestCommonDivisor (l : Launch) (N : Nat) (w : WX) (a0 : Int64) (a2 : Int64) {s s' : Mem} {r : Int64} (hf : f_X8_greatestCommonDivisor N a0 a2 s = some (r, s')) : CL l yX8_greatestCommonDivisor (wz yX8_greatestCommonDivisor cX8_greatestCommonDivisor 11 (some .long)) ({ frames := 0, cells := 0, slots := 0, locals := 0 } : Room) [.long a0, .long a2] w s r s' := by
  refine met_startL (cc := cX8_greatestCommonDivisor) (ret := (some .long)) (own := RX8) (maxL := 11) (by decide) rfl (Nat.le_of_ble_eq_true rfl) (fun x C hR hl => ?_)
  have j9 : ∀ (n : Nat), ∀ (v4 : Int64) (v6 : Int64) (v8 : Int32) (s : Mem), f_X8_greatestCommonDivisor_L9 N n v4 v6 v8 s = some (r, s') → G x (QL x w r s') 11 w 9 [(4, .long v4), (6, .long v6), (8, .int v8)] [] s := by
    intro n
    induction n with
    | zero => intro v4 v6 v8 s hf; cases hf
    | succ n ih =>
      intro v4 v6 v8 s hf
      unfold f_X8_greatestCommonDivisor_L9 at hf
      refine g_iload C dX8_greatestCommonDivisor_9 2 rfl ?_
      refine g_sipush C (v := 200) dX8_greatestCommonDivisor_11 (by decide) ?_
      refine g_icmp_ge (tgt := 45) C dX8_greatestCommonDivisor_14 (by decide) hf (fun hf => ?_) (fun hf => ?_)
      · refine g_lload C dX8_greatestCommonDivisor_45 0 rfl ?_
        exact g_lret C dX8_greatestCommonDivisor_47 hf
      · refine g_lload C dX8_greatestCommonDivisor_17 1 rfl ?_
        refine g_lconst C (v := 0) dX8_greatestCommonDivisor_19 rfl ?_
        refine g_lcmp_eq (tgt := 45) C dX8_greatestCommonDivisor_20 dX8_greatestCommonDivisor_21 (by decide) hf (fun hf => ?_) (fun hf => ?_)
        · refine g_lload C dX8_greatestCommonDivisor_45 0 rfl ?_
          exact g_lret C dX8_greatestCommonDivisor_47 hf
        · refine g_lload C dX8_greatestCommonDivisor_24 0 rfl ?_
          refine g_lload C dX8_greatestCommonDivisor_26 1 rfl ?_
          refine g_lrem C dX8_greatestCommonDivisor_28 hf (fun hf => ?_)
          refine g_lstore (lv' := [(9, .long (v4 - v4 / v6 * v6)), (4, .long v4), (6, .long v6), (8, .int v8)]) C dX8_greatestCommonDivisor_29 (by decide) rfl ?_
          refine g_lload C dX8_greatestCommonDivisor_31 2 rfl ?_
          refine g_lstore (lv' := [(4, .long v6), (9, .long (v4 - v4 / v6 * v6)), (6, .long v6), (8, .int v8)]) C dX8_greatestCommonDivisor_33 (by decide) rfl ?_
          refine g_lload C dX8_greatestCommonDivisor_35 1 rfl ?_
          refine g_lstore (lv' := [(6, .long (v4 - v4 / v6 * v6)), (4, .long v6), (9, .long (v4 - v4 / v6 * v6)), (8, .int v8)]) C dX8_greatestCommonDivisor_37 (by decide) rfl ?_
          refine g_iinc (v' := v8 + 1) (lv' := [(8, .int (v8 + 1)), (6, .long (v4 - v4 / v6 * v6)), (4, .long v6), (9, .long (v4 - v4 / v6 * v6))]) C dX8_greatestCommonDivisor_39 3 rfl rfl (by decide) rfl ?_
          refine g_goto (tgt := 9) C dX8_greatestCommonDivisor_42 (by decide) ?_
          refine g_sub [2, 1, 0] rfl ?_
          exact ih _ _ _ _ hf
  refine g_lv (lv' := [(0, .long a0), (2, .long a2)]) rfl ?_
  unfold f_X8_greatestCommonDivisor at hf
  refine g_lload_n C dX8_greatestCommonDivisor_0 rfl 0 rfl ?_
  refine g_lstore (lv' := [(4, .long a0), (0, .long a0), (2, .long a2)]) C dX8_greatestCommonDivisor_1 (by decide) rfl ?_
  refine g_lload_n C dX8_greatestCommonDivisor_3 rfl 2 rfl ?_
  refine g_lstore (lv' := [(6, .long a2), (4, .long a0), (0, .long a0), (2, .long a2)]) C dX8_greatestCommonDivisor_4 (by decide) rfl ?_
  refine g_iconst C (v := 0) dX8_greatestCommonDivisor_6 rfl ?_
  refine g_istore (lv' := [(8, .int 0), (6, .long a2), (4, .long a0), (0, .long a0), (2, .long a2)]) C dX8_greatestCommonDivisor_7 (by decide) rfl ?_
  refine g_sub [2, 1, 0] rfl ?_
  exact j9 N _ _ _ _ hf

set_option maxHeartbeats 4000000 in
set_option maxRecDepth 100000 in
theorem c_X8_share (l : Launch) (N : Nat) (w : WX) (hS : SS w = Sc) (a1 : Int32) (a2 : Int32) (a3 : Int32) {s s' : Mem} {r : Int64} (hf : f_X8_share N a1 a2 a3 s = some (r, s')) : CL l yX8_share (wz yX8_share cX8_share 8 (some .long)) ({ frames := 4, cells := 0, slots := 0, locals := 95 } : Room) [.ref (ad w 0), .int a1, .int a2, .int a3] w s r s' := by
  refine met_startL (cc := cX8_share) (ret := (some .long)) (own := RX8) (maxL := 8) (by decide) rfl (Nat.le_of_ble_eq_true rfl) (fun x C hR hl => ?_)
  have j106 : ∀ (v6 : Int64) (p0 : Int64) (s : Mem), f_X8_share_j106 N v6 p0 s = some (r, s') → G x (QL x w r s') 8 w 106 [(6, .long v6)] [.long p0] s := by
    intro v6 p0 s hf
    unfold f_X8_share_j106 at hf
    refine g_lload C dX8_share_106 0 rfl ?_
    refine g_ldiv C dX8_share_108 hf (fun hf => ?_)
    exact g_lret C dX8_share_109 hf
  refine g_lv (lv' := [(0, .ref (ad w 0)), (1, .int a1), (2, .int a2), (3, .int a3)]) rfl ?_
  unfold f_X8_share at hf
  refine g_aload_n C dX8_share_0 rfl 0 rfl ?_
  refine g_get C (R := RX8) (T := TX8) (N := 11) (k := 0) (v := .ref (ad w 1)) kd_0 (by decide) rfl (in_0 hS) hinX8 (by decide) fl_X8_10 rfl rfl dX8_share_1 ?_
  refine g_get C (R := RX0) (T := TX0) (N := 8) (k := 0) (v := .ref (ad w 2)) kd_1 (by decide) rfl (in_1 hS) hinX0 (by decide) fl_X8_95 rfl rfl dX8_share_4 ?_
  refine g_iload_n C dX8_share_7 rfl 1 rfl ?_
  refine g_callVB C (R := RX5) (T := TX5) (N := 4) [.int a1] (fun _ _ h => c_X5_has (kl x) N w (ok_2 hS) _ h) (g_cwV C hR ml_X8_102 im_X5_has sl_X5_has ini_X5 cd_X5_has hd_X5_has (by decide)) kd_2 (by decide) rfl (in_2 hS) rfl _ rfl (Nat.le_of_ble_eq_true rfl) dX8_share_8 hf (fun r1 s1 hf => ?_)
  refine g_ifeqB (tgt := 30) C dX8_share_11 (by decide) hf (fun hf => ?_) (fun hf => ?_)
  · refine g_ldc2 C (v := (-1)) dX8_share_30 kL_X8_148 ?_
    exact g_lret C dX8_share_33 hf
  · refine g_iload_n C dX8_share_14 rfl 2 rfl ?_
    refine g_callSB C [.int a2] (fun _ _ h => c_X8_isYear (kl x) N w _ h) (g_cwS C hR ml_X8_119 sm_X8_isYear ini_X8 cd_X8_isYear hd_X8_isYear (by decide)) rfl _ rfl (Nat.le_of_ble_eq_true rfl) dX8_share_15 hf (fun r2 s2 hf => ?_)
    refine g_ifeqB (tgt := 30) C dX8_share_18 (by decide) hf (fun hf => ?_) (fun hf => ?_)
    · refine g_ldc2 C (v := (-1)) dX8_share_30 kL_X8_148 ?_
      exact g_lret C dX8_share_33 hf
    · refine g_iload_n C dX8_share_21 rfl 3 rfl ?_
      refine g_iconst C (v := 0) dX8_share_22 rfl ?_
      refine g_iconst C (v := 1) dX8_share_23 rfl ?_
      refine g_callSB C [.int a3, .int 0, .int 1] (fun _ _ h => c_X8_isWithin (kl x) N w _ _ _ h) (g_cwS C hR ml_X8_91 sm_X8_isWithin ini_X8 cd_X8_isWithin hd_X8_isWithin (by decide)) rfl _ rfl (Nat.le_of_ble_eq_true rfl) dX8_share_24 hf (fun r3 s3 hf => ?_)
      refine g_ifneB (tgt := 34) C dX8_share_27 (by decide) hf (fun hf => ?_) (fun hf => ?_)
      · refine g_aload_n C dX8_share_34 rfl 0 rfl ?_
        refine g_get C (R := RX8) (T := TX8) (N := 11) (k := 3) (v := .ref (ad w 31)) kd_0 (by decide) rfl (in_0 hS) hinX8 (by decide) fl_X8_26 rfl rfl dX8_share_35 ?_
        refine g_aload_n C dX8_share_38 rfl 0 rfl ?_
        refine g_get C (R := RX8) (T := TX8) (N := 11) (k := 0) (v := .ref (ad w 1)) kd_0 (by decide) rfl (in_0 hS) hinX8 (by decide) fl_X8_10 rfl rfl dX8_share_39 ?_
        refine g_iload_n C dX8_share_42 rfl 1 rfl ?_
        refine g_callVV C (R := RX2) (T := TX2) (N := 4) [.ref (ad w 1), .int a1] (fun _ h => c_X2_weigh (kl x) N w hS _ h) (g_cwV C hR ml_X8_150 im_X2_weigh sl_X2_weigh ini_X2 cd_X2_weigh hd_X2_weigh (by decide)) kd_31 (by decide) rfl (in_31 hS) rfl _ rfl (Nat.le_of_ble_eq_true rfl) dX8_share_43 hf (fun s4 hf => ?_)
        refine g_aload_n C dX8_share_46 rfl 0 rfl ?_
        refine g_get C (R := RX8) (T := TX8) (N := 11) (k := 3) (v := .ref (ad w 31)) kd_0 (by decide) rfl (in_0 hS) hinX8 (by decide) fl_X8_26 rfl rfl dX8_share_47 ?_
        refine g_get C (R := RX2) (T := TX2) (N := 4) (k := 2) (v := .long (rL s4 31 2)) kd_31 (by decide) rfl (in_31 hS) hinX2 (by decide) fl_X8_158 rfl rfl dX8_share_50 ?_
        refine g_lconst C (v := 0) dX8_share_53 rfl ?_
        refine g_lcmp_gt (tgt := 62) C dX8_share_54 dX8_share_55 (by decide) hf (fun hf => ?_) (fun hf => ?_)
        · refine g_aload_n C dX8_share_62 rfl 0 rfl ?_
          refine g_get C (R := RX8) (T := TX8) (N := 11) (k := 3) (v := .ref (ad w 31)) kd_0 (by decide) rfl (in_0 hS) hinX8 (by decide) fl_X8_26 rfl rfl dX8_share_63 ?_
          refine g_iload_n C dX8_share_66 rfl 2 rfl ?_
          refine g_callVL C (R := RX2) (T := TX2) (N := 4) [.int a2] (fun _ _ h => c_X2_ofAge (kl x) N w hS _ h) (g_cwV C hR ml_X8_167 im_X2_ofAge sl_X2_ofAge ini_X2 cd_X2_ofAge hd_X2_ofAge (by decide)) kd_31 (by decide) rfl (in_31 hS) rfl _ rfl (Nat.le_of_ble_eq_true rfl) dX8_share_67 hf (fun r5 s5 hf => ?_)
          refine g_lstore (lv' := [(4, .long r5), (0, .ref (ad w 0)), (1, .int a1), (2, .int a2), (3, .int a3)]) C dX8_share_70 (by decide) rfl ?_
          refine g_lconst C (v := 1) dX8_share_72 rfl ?_
          refine g_lload C dX8_share_73 0 rfl ?_
          refine g_aload_n C dX8_share_75 rfl 1 rfl ?_
          refine g_get C (R := RX8) (T := TX8) (N := 11) (k := 3) (v := .ref (ad w 31)) kd_0 (by decide) rfl (in_0 hS) hinX8 (by decide) fl_X8_26 rfl rfl dX8_share_76 ?_
          refine g_get C (R := RX2) (T := TX2) (N := 4) (k := 2) (v := .long (rL s5 31 2)) kd_31 (by decide) rfl (in_31 hS) hinX2 (by decide) fl_X8_158 rfl rfl dX8_share_79 ?_
          refine g_callSL C [.long r5, .long (rL s5 31 2)] (fun _ _ h => c_X8_greatestCommonDivisor (kl x) N w _ _ h) (g_cwS C hR ml_X8_170 sm_X8_greatestCommonDivisor ini_X8 cd_X8_greatestCommonDivisor hd_X8_greatestCommonDivisor (by decide)) rfl _ rfl (Nat.le_of_ble_eq_true rfl) dX8_share_82 hf (fun r6 s6 hf => ?_)
          refine g_lmax C (kR_of hR (by decide)) ml_X8_174 sm_J9_max_f86c9 ini_J9 cd_J9_max_f86c9 (Nat.le_of_ble_eq_true rfl) dX8_share_85 ?_
          refine g_lstore (lv' := [(6, .long (lmax 1 r6)), (4, .long r5), (0, .ref (ad w 0)), (1, .int a1), (2, .int a2), (3, .int a3)]) C dX8_share_88 (by decide) rfl ?_
          refine g_iload_n C dX8_share_90 rfl 5 rfl ?_
          refine g_if_ne (tgt := 99) C dX8_share_91 (by decide) hf (fun hf => ?_) (fun hf => ?_)
          · refine g_aload_n C dX8_share_99 rfl 2 rfl ?_
            refine g_get C (R := RX8) (T := TX8) (N := 11) (k := 3) (v := .ref (ad w 31)) kd_0 (by decide) rfl (in_0 hS) hinX8 (by decide) fl_X8_26 rfl rfl dX8_share_100 ?_
            refine g_get C (R := RX2) (T := TX2) (N := 4) (k := 2) (v := .long (rL s6 31 2)) kd_31 (by decide) rfl (in_31 hS) hinX2 (by decide) fl_X8_158 rfl rfl dX8_share_103 ?_
            refine g_sub [0] rfl ?_
            exact j106 _ _ _ hf
          · refine g_lload C dX8_share_94 1 rfl ?_
            refine g_goto (tgt := 106) C dX8_share_96 (by decide) ?_
            refine g_sub [0] rfl ?_
            exact j106 _ _ _ hf
        · refine g_ldc2 C (v := (-3)) dX8_share_58 kL_X8_165 ?_
          exact g_lret C dX8_share_61 hf
      · refine g_ldc2 C (v := (-1)) dX8_share_30 kL_X8_148 ?_
        exact g_lret C dX8_share_33 hf

set_option maxHeartbeats 4000000 in
set_option maxRecDepth 100000 in
theorem c_X8_common (l : Launch) (N : Nat) (w : WX) (hS : SS w = Sc) (a1 : Int32) (a2 : Int32) {s s' : Mem} {r : Int32} (hf : f_X8_common N a1 a2 s = some (r, s')) : CI l yX8_common (wz yX8_common cX8_common 5 (some .int)) ({ frames := 3, cells := 0, slots := 0, locals := 70 } : Room) [.ref (ad w 0), .int a1, .int a2] w s r s' := by
  refine met_startI (cc := cX8_common) (ret := (some .int)) (own := RX8) (maxL := 5) (by decide) rfl (Nat.le_of_ble_eq_true rfl) (fun x C hR hl => ?_)
  have j72 : ∀ (k35 : Int32 → Int32 → Int32 → Int32 → Mem → Option (Int32 × Mem)), (∀ (v1 : Int32) (v2 : Int32) (v3 : Int32) (v4 : Int32) (s : Mem), k35 v1 v2 v3 v4 s = some (r, s') → G x (QI x w r s') 5 w 35 [(0, .ref (ad w 0)), (1, .int v1), (2, .int v2), (3, .int v3), (4, .int v4)] [] s) → ∀ (v1 : Int32) (v2 : Int32) (v3 : Int32) (v4 : Int32) (s : Mem), f_X8_common_j72 N k35 v1 v2 v3 v4 s = some (r, s') → G x (QI x w r s') 5 w 72 [(0, .ref (ad w 0)), (1, .int v1), (2, .int v2), (3, .int v3), (4, .int v4)] [] s := by
    intro k35 q35 v1 v2 v3 v4 s hf
    unfold f_X8_common_j72 at hf
    refine g_iinc (v' := v4 + 1) (lv' := [(4, .int (v4 + 1)), (0, .ref (ad w 0)), (1, .int v1), (2, .int v2), (3, .int v3)]) C dX8_common_72 4 rfl rfl (by decide) rfl ?_
    refine g_goto (tgt := 35) C dX8_common_75 (by decide) ?_
    refine g_sub [1, 2, 3, 4, 0] rfl ?_
    exact q35 _ _ _ _ _ hf
  have j35 : ∀ (n : Nat), ∀ (v1 : Int32) (v2 : Int32) (v3 : Int32) (v4 : Int32) (s : Mem), f_X8_common_L35 N n v1 v2 v3 v4 s = some (r, s') → G x (QI x w r s') 5 w 35 [(0, .ref (ad w 0)), (1, .int v1), (2, .int v2), (3, .int v3), (4, .int v4)] [] s := by
    intro n
    induction n with
    | zero => intro v1 v2 v3 v4 s hf; cases hf
    | succ n ih =>
      intro v1 v2 v3 v4 s hf
      unfold f_X8_common_L35 at hf
      refine g_iload C dX8_common_35 4 rfl ?_
      refine g_sipush C (v := 160) dX8_common_37 (by decide) ?_
      refine g_icmp_gt (tgt := 78) C dX8_common_40 (by decide) hf (fun hf => ?_) (fun hf => ?_)
      · refine g_iload_n C dX8_common_78 rfl 3 rfl ?_
        exact g_iret C dX8_common_79 hf
      · refine g_aload_n C dX8_common_43 rfl 0 rfl ?_
        refine g_get C (R := RX8) (T := TX8) (N := 11) (k := 0) (v := .ref (ad w 1)) kd_0 (by decide) rfl (in_0 hS) hinX8 (by decide) fl_X8_10 rfl rfl dX8_common_44 ?_
        refine g_iload_n C dX8_common_47 rfl 1 rfl ?_
        refine g_iload C dX8_common_48 4 rfl ?_
        refine g_callVB C (R := RX0) (T := TX0) (N := 8) [.int v1, .int v4] (fun _ _ h => c_X0_isInSpans (kl x) N w hS _ _ h) (g_cwV C hR ml_X8_179 im_X0_isInSpans sl_X0_isInSpans ini_X0 cd_X0_isInSpans hd_X0_isInSpans (by decide)) kd_1 (by decide) rfl (in_1 hS) rfl _ rfl (Nat.le_of_ble_eq_true rfl) dX8_common_50 hf (fun r1 s1 hf => ?_)
        refine g_ifeqB (tgt := 72) C dX8_common_53 (by decide) hf (fun hf => ?_) (fun hf => ?_)
        · exact j72 (f_X8_common_L35 N n) ih _ _ _ _ _ hf
        · refine g_aload_n C dX8_common_56 rfl 0 rfl ?_
          refine g_get C (R := RX8) (T := TX8) (N := 11) (k := 0) (v := .ref (ad w 1)) kd_0 (by decide) rfl (in_0 hS) hinX8 (by decide) fl_X8_10 rfl rfl dX8_common_57 ?_
          refine g_iload_n C dX8_common_60 rfl 2 rfl ?_
          refine g_iload C dX8_common_61 4 rfl ?_
          refine g_callVB C (R := RX0) (T := TX0) (N := 8) [.int v2, .int v4] (fun _ _ h => c_X0_isInSpans (kl x) N w hS _ _ h) (g_cwV C hR ml_X8_179 im_X0_isInSpans sl_X0_isInSpans ini_X0 cd_X0_isInSpans hd_X0_isInSpans (by decide)) kd_1 (by decide) rfl (in_1 hS) rfl _ rfl (Nat.le_of_ble_eq_true rfl) dX8_common_63 hf (fun r2 s2 hf => ?_)
          refine g_ifeqB (tgt := 72) C dX8_common_66 (by decide) hf (fun hf => ?_) (fun hf => ?_)
          · exact j72 (f_X8_common_L35 N n) ih _ _ _ _ _ hf
          · refine g_iinc (v' := v3 + 1) (lv' := [(3, .int (v3 + 1)), (0, .ref (ad w 0)), (1, .int v1), (2, .int v2), (4, .int v4)]) C dX8_common_69 3 rfl rfl (by decide) rfl ?_
            refine g_sub [1, 2, 3, 0, 4] rfl ?_
            exact j72 (f_X8_common_L35 N n) ih _ _ _ _ _ hf
  refine g_lv (lv' := [(0, .ref (ad w 0)), (1, .int a1), (2, .int a2)]) rfl ?_
  unfold f_X8_common at hf
  refine g_aload_n C dX8_common_0 rfl 0 rfl ?_
  refine g_get C (R := RX8) (T := TX8) (N := 11) (k := 0) (v := .ref (ad w 1)) kd_0 (by decide) rfl (in_0 hS) hinX8 (by decide) fl_X8_10 rfl rfl dX8_common_1 ?_
  refine g_get C (R := RX0) (T := TX0) (N := 8) (k := 0) (v := .ref (ad w 2)) kd_1 (by decide) rfl (in_1 hS) hinX0 (by decide) fl_X8_95 rfl rfl dX8_common_4 ?_
  refine g_iload_n C dX8_common_7 rfl 1 rfl ?_
  refine g_callVB C (R := RX5) (T := TX5) (N := 4) [.int a1] (fun _ _ h => c_X5_has (kl x) N w (ok_2 hS) _ h) (g_cwV C hR ml_X8_102 im_X5_has sl_X5_has ini_X5 cd_X5_has hd_X5_has (by decide)) kd_2 (by decide) rfl (in_2 hS) rfl _ rfl (Nat.le_of_ble_eq_true rfl) dX8_common_8 hf (fun r1 s1 hf => ?_)
  refine g_ifeqB (tgt := 28) C dX8_common_11 (by decide) hf (fun hf => ?_) (fun hf => ?_)
  · refine g_iconst C (v := (-1)) dX8_common_28 rfl ?_
    exact g_iret C dX8_common_29 hf
  · refine g_aload_n C dX8_common_14 rfl 0 rfl ?_
    refine g_get C (R := RX8) (T := TX8) (N := 11) (k := 0) (v := .ref (ad w 1)) kd_0 (by decide) rfl (in_0 hS) hinX8 (by decide) fl_X8_10 rfl rfl dX8_common_15 ?_
    refine g_get C (R := RX0) (T := TX0) (N := 8) (k := 0) (v := .ref (ad w 2)) kd_1 (by decide) rfl (in_1 hS) hinX0 (by decide) fl_X8_95 rfl rfl dX8_common_18 ?_
    refine g_iload_n C dX8_common_21 rfl 2 rfl ?_
    refine g_callVB C (R := RX5) (T := TX5) (N := 4) [.int a2] (fun _ _ h => c_X5_has (kl x) N w (ok_2 hS) _ h) (g_cwV C hR ml_X8_102 im_X5_has sl_X5_has ini_X5 cd_X5_has hd_X5_has (by decide)) kd_2 (by decide) rfl (in_2 hS) rfl _ rfl (Nat.le_of_ble_eq_true rfl) dX8_common_22 hf (fun r2 s2 hf => ?_)
    refine g_ifneB (tgt := 30) C dX8_common_25 (by decide) hf (fun hf => ?_) (fun hf => ?_)
    · refine g_iconst C (v := 0) dX8_common_30 rfl ?_
      refine g_istore_n (lv' := [(3, .int 0), (0, .ref (ad w 0)), (1, .int a1), (2, .int a2)]) C dX8_common_31 rfl (by decide) rfl ?_
      refine g_iconst C (v := 0) dX8_common_32 rfl ?_
      refine g_istore (lv' := [(4, .int 0), (3, .int 0), (0, .ref (ad w 0)), (1, .int a1), (2, .int a2)]) C dX8_common_33 (by decide) rfl ?_
      refine g_sub [2, 3, 4, 1, 0] rfl ?_
      exact j35 N _ _ _ _ _ hf
    · refine g_iconst C (v := (-1)) dX8_common_28 rfl ?_
      exact g_iret C dX8_common_29 hf

set_option maxHeartbeats 4000000 in
set_option maxRecDepth 100000 in
theorem c_X8_one (l : Launch) (N : Nat) (w : WX) (hS : SS w = Sc) (a1 : Int32) (a2 : Int32) {s s' : Mem} {r : Int32} (hf : f_X8_one N a1 a2 s = some (r, s')) : CI l yX8_one (wz yX8_one cX8_one 6 (some .int)) ({ frames := 4, cells := 0, slots := 0, locals := 94 } : Room) [.ref (ad w 0), .int a1, .int a2] w s r s' := by
  refine met_startI (cc := cX8_one) (ret := (some .int)) (own := RX8) (maxL := 6) (by decide) rfl (Nat.le_of_ble_eq_true rfl) (fun x C hR hl => ?_)
  have j150 : ∀ (v1 : Int32) (v2 : Int32) (s : Mem), f_X8_one_j150 N v1 v2 s = some (r, s') → G x (QI x w r s') 6 w 150 [(0, .ref (ad w 0)), (1, .int v1), (2, .int v2)] [] s := by
    intro v1 v2 s hf
    unfold f_X8_one_j150 at hf
    refine g_aload_n C dX8_one_150 rfl 0 rfl ?_
    refine g_iload_n C dX8_one_151 rfl 1 rfl ?_
    refine g_iload_n C dX8_one_152 rfl 2 rfl ?_
    refine g_callVI C (R := RX8) (T := TX8) (N := 11) [.int v1, .int v2] (fun _ _ h => c_X8_common (kl x) N w hS _ _ h) (g_cwV C hR ml_X8_182 im_X8_common sl_X8_common ini_X8 cd_X8_common hd_X8_common (by decide)) kd_0 (by decide) rfl (in_0 hS) rfl _ rfl (Nat.le_of_ble_eq_true rfl) dX8_one_153 hf (fun r1 s1 hf => ?_)
    refine g_if_le (tgt := 163) C dX8_one_156 (by decide) hf (fun hf => ?_) (fun hf => ?_)
    · refine g_iconst C (v := 0) dX8_one_163 rfl ?_
      exact g_iret C dX8_one_164 hf
    · refine g_iconst C (v := 1) dX8_one_159 rfl ?_
      refine g_goto (tgt := 164) C dX8_one_160 (by decide) ?_
      exact g_iret C dX8_one_164 hf
  have j134 : ∀ (v1 : Int32) (v2 : Int32) (v3 : Bool) (v4 : Bool) (p0 : Bool) (s : Mem), f_X8_one_j134 N v1 v2 v3 v4 p0 s = some (r, s') → G x (QI x w r s') 6 w 134 [(0, .ref (ad w 0)), (1, .int v1), (2, .int v2), (3, .int (bI v3)), (4, .int (bI v4))] [.int (bI p0)] s := by
    intro v1 v2 v3 v4 p0 s hf
    unfold f_X8_one_j134 at hf
    refine g_istore (lv' := [(5, .int (bI p0)), (0, .ref (ad w 0)), (1, .int v1), (2, .int v2), (3, .int (bI v3)), (4, .int (bI v4))]) C dX8_one_134 (by decide) rfl ?_
    refine g_iload_n C dX8_one_136 rfl 4 rfl ?_
    refine g_ifeqB (tgt := 163) C dX8_one_137 (by decide) hf (fun hf => ?_) (fun hf => ?_)
    · refine g_iconst C (v := 0) dX8_one_163 rfl ?_
      exact g_iret C dX8_one_164 hf
    · refine g_iload C dX8_one_140 5 rfl ?_
      refine g_ifneB (tgt := 150) C dX8_one_142 (by decide) hf (fun hf => ?_) (fun hf => ?_)
      · refine g_sub [1, 2, 3] rfl ?_
        exact j150 _ _ _ hf
      · refine g_iload C dX8_one_145 0 rfl ?_
        refine g_ifeqB (tgt := 163) C dX8_one_147 (by decide) hf (fun hf => ?_) (fun hf => ?_)
        · refine g_iconst C (v := 0) dX8_one_163 rfl ?_
          exact g_iret C dX8_one_164 hf
        · refine g_sub [1, 2, 3] rfl ?_
          exact j150 _ _ _ hf
  have j100 : ∀ (v1 : Int32) (v2 : Int32) (v3 : Bool) (p0 : Bool) (s : Mem), f_X8_one_j100 N v1 v2 v3 p0 s = some (r, s') → G x (QI x w r s') 6 w 100 [(0, .ref (ad w 0)), (1, .int v1), (2, .int v2), (3, .int (bI v3))] [.int (bI p0)] s := by
    intro v1 v2 v3 p0 s hf
    unfold f_X8_one_j100 at hf
    refine g_istore (lv' := [(4, .int (bI p0)), (0, .ref (ad w 0)), (1, .int v1), (2, .int v2), (3, .int (bI v3))]) C dX8_one_100 (by decide) rfl ?_
    refine g_aload_n C dX8_one_102 rfl 1 rfl ?_
    refine g_get C (R := RX8) (T := TX8) (N := 11) (k := 0) (v := .ref (ad w 1)) kd_0 (by decide) rfl (in_0 hS) hinX8 (by decide) fl_X8_10 rfl rfl dX8_one_103 ?_
    refine g_get C (R := RX0) (T := TX0) (N := 8) (k := 0) (v := .ref (ad w 2)) kd_1 (by decide) rfl (in_1 hS) hinX0 (by decide) fl_X8_95 rfl rfl dX8_one_106 ?_
    refine g_iload_n C dX8_one_109 rfl 2 rfl ?_
    refine g_iconst C (v := 0) dX8_one_110 rfl ?_
    refine g_callVI C (R := RX5) (T := TX5) (N := 4) [.int v1, .int 0] (fun _ _ h => c_X5_get (kl x) N w (ok_2 hS) _ _ h) (g_cwV C hR ml_X8_105 im_X5_get sl_X5_get ini_X5 cd_X5_get hd_X5_get (by decide)) kd_2 (by decide) rfl (in_2 hS) rfl _ rfl (Nat.le_of_ble_eq_true rfl) dX8_one_111 hf (fun r1 s1 hf => ?_)
    refine g_aload_n C dX8_one_114 rfl 1 rfl ?_
    refine g_get C (R := RX8) (T := TX8) (N := 11) (k := 0) (v := .ref (ad w 1)) kd_0 (by decide) rfl (in_0 hS) hinX8 (by decide) fl_X8_10 rfl rfl dX8_one_115 ?_
    refine g_get C (R := RX0) (T := TX0) (N := 8) (k := 0) (v := .ref (ad w 2)) kd_1 (by decide) rfl (in_1 hS) hinX0 (by decide) fl_X8_95 rfl rfl dX8_one_118 ?_
    refine g_iload_n C dX8_one_121 rfl 3 rfl ?_
    refine g_iconst C (v := 0) dX8_one_122 rfl ?_
    refine g_callVI C (R := RX5) (T := TX5) (N := 4) [.int v2, .int 0] (fun _ _ h => c_X5_get (kl x) N w (ok_2 hS) _ _ h) (g_cwV C hR ml_X8_105 im_X5_get sl_X5_get ini_X5 cd_X5_get hd_X5_get (by decide)) kd_2 (by decide) rfl (in_2 hS) rfl _ rfl (Nat.le_of_ble_eq_true rfl) dX8_one_123 hf (fun r2 s2 hf => ?_)
    refine g_icmp_ne (tgt := 133) C dX8_one_126 (by decide) hf (fun hf => ?_) (fun hf => ?_)
    · refine g_iconst C (v := 0) dX8_one_133 rfl ?_
      refine g_sub [1, 2, 3, 4, 0] rfl ?_
      exact j134 _ _ _ _ _ _ hf
    · refine g_iconst C (v := 1) dX8_one_129 rfl ?_
      refine g_goto (tgt := 134) C dX8_one_130 (by decide) ?_
      refine g_sub [1, 2, 3, 4, 0] rfl ?_
      exact j134 _ _ _ _ _ _ hf
  have j67 : ∀ (v1 : Int32) (v2 : Int32) (p0 : Bool) (s : Mem), f_X8_one_j67 N v1 v2 p0 s = some (r, s') → G x (QI x w r s') 6 w 67 [(0, .ref (ad w 0)), (1, .int v1), (2, .int v2)] [.int (bI p0)] s := by
    intro v1 v2 p0 s hf
    unfold f_X8_one_j67 at hf
    refine g_istore_n (lv' := [(3, .int (bI p0)), (0, .ref (ad w 0)), (1, .int v1), (2, .int v2)]) C dX8_one_67 rfl (by decide) rfl ?_
    refine g_aload_n C dX8_one_68 rfl 1 rfl ?_
    refine g_get C (R := RX8) (T := TX8) (N := 11) (k := 0) (v := .ref (ad w 1)) kd_0 (by decide) rfl (in_0 hS) hinX8 (by decide) fl_X8_10 rfl rfl dX8_one_69 ?_
    refine g_get C (R := RX0) (T := TX0) (N := 8) (k := 0) (v := .ref (ad w 2)) kd_1 (by decide) rfl (in_1 hS) hinX0 (by decide) fl_X8_95 rfl rfl dX8_one_72 ?_
    refine g_iload_n C dX8_one_75 rfl 2 rfl ?_
    refine g_iconst C (v := 1) dX8_one_76 rfl ?_
    refine g_callVI C (R := RX5) (T := TX5) (N := 4) [.int v1, .int 1] (fun _ _ h => c_X5_get (kl x) N w (ok_2 hS) _ _ h) (g_cwV C hR ml_X8_105 im_X5_get sl_X5_get ini_X5 cd_X5_get hd_X5_get (by decide)) kd_2 (by decide) rfl (in_2 hS) rfl _ rfl (Nat.le_of_ble_eq_true rfl) dX8_one_77 hf (fun r1 s1 hf => ?_)
    refine g_aload_n C dX8_one_80 rfl 1 rfl ?_
    refine g_get C (R := RX8) (T := TX8) (N := 11) (k := 0) (v := .ref (ad w 1)) kd_0 (by decide) rfl (in_0 hS) hinX8 (by decide) fl_X8_10 rfl rfl dX8_one_81 ?_
    refine g_get C (R := RX0) (T := TX0) (N := 8) (k := 0) (v := .ref (ad w 2)) kd_1 (by decide) rfl (in_1 hS) hinX0 (by decide) fl_X8_95 rfl rfl dX8_one_84 ?_
    refine g_iload_n C dX8_one_87 rfl 3 rfl ?_
    refine g_iconst C (v := 1) dX8_one_88 rfl ?_
    refine g_callVI C (R := RX5) (T := TX5) (N := 4) [.int v2, .int 1] (fun _ _ h => c_X5_get (kl x) N w (ok_2 hS) _ _ h) (g_cwV C hR ml_X8_105 im_X5_get sl_X5_get ini_X5 cd_X5_get hd_X5_get (by decide)) kd_2 (by decide) rfl (in_2 hS) rfl _ rfl (Nat.le_of_ble_eq_true rfl) dX8_one_89 hf (fun r2 s2 hf => ?_)
    refine g_icmp_ne (tgt := 99) C dX8_one_92 (by decide) hf (fun hf => ?_) (fun hf => ?_)
    · refine g_iconst C (v := 0) dX8_one_99 rfl ?_
      refine g_sub [1, 2, 3, 0] rfl ?_
      exact j100 _ _ _ _ _ hf
    · refine g_iconst C (v := 1) dX8_one_95 rfl ?_
      refine g_goto (tgt := 100) C dX8_one_96 (by decide) ?_
      refine g_sub [1, 2, 3, 0] rfl ?_
      exact j100 _ _ _ _ _ hf
  refine g_lv (lv' := [(0, .ref (ad w 0)), (1, .int a1), (2, .int a2)]) rfl ?_
  unfold f_X8_one at hf
  refine g_iload_n C dX8_one_0 rfl 1 rfl ?_
  refine g_iload_n C dX8_one_1 rfl 2 rfl ?_
  refine g_icmp_eq (tgt := 33) C dX8_one_2 (by decide) hf (fun hf => ?_) (fun hf => ?_)
  · refine g_iconst C (v := (-1)) dX8_one_33 rfl ?_
    exact g_iret C dX8_one_34 hf
  · refine g_aload_n C dX8_one_5 rfl 0 rfl ?_
    refine g_get C (R := RX8) (T := TX8) (N := 11) (k := 0) (v := .ref (ad w 1)) kd_0 (by decide) rfl (in_0 hS) hinX8 (by decide) fl_X8_10 rfl rfl dX8_one_6 ?_
    refine g_get C (R := RX0) (T := TX0) (N := 8) (k := 0) (v := .ref (ad w 2)) kd_1 (by decide) rfl (in_1 hS) hinX0 (by decide) fl_X8_95 rfl rfl dX8_one_9 ?_
    refine g_iload_n C dX8_one_12 rfl 1 rfl ?_
    refine g_callVB C (R := RX5) (T := TX5) (N := 4) [.int a1] (fun _ _ h => c_X5_has (kl x) N w (ok_2 hS) _ h) (g_cwV C hR ml_X8_102 im_X5_has sl_X5_has ini_X5 cd_X5_has hd_X5_has (by decide)) kd_2 (by decide) rfl (in_2 hS) rfl _ rfl (Nat.le_of_ble_eq_true rfl) dX8_one_13 hf (fun r1 s1 hf => ?_)
    refine g_ifeqB (tgt := 33) C dX8_one_16 (by decide) hf (fun hf => ?_) (fun hf => ?_)
    · refine g_iconst C (v := (-1)) dX8_one_33 rfl ?_
      exact g_iret C dX8_one_34 hf
    · refine g_aload_n C dX8_one_19 rfl 0 rfl ?_
      refine g_get C (R := RX8) (T := TX8) (N := 11) (k := 0) (v := .ref (ad w 1)) kd_0 (by decide) rfl (in_0 hS) hinX8 (by decide) fl_X8_10 rfl rfl dX8_one_20 ?_
      refine g_get C (R := RX0) (T := TX0) (N := 8) (k := 0) (v := .ref (ad w 2)) kd_1 (by decide) rfl (in_1 hS) hinX0 (by decide) fl_X8_95 rfl rfl dX8_one_23 ?_
      refine g_iload_n C dX8_one_26 rfl 2 rfl ?_
      refine g_callVB C (R := RX5) (T := TX5) (N := 4) [.int a2] (fun _ _ h => c_X5_has (kl x) N w (ok_2 hS) _ h) (g_cwV C hR ml_X8_102 im_X5_has sl_X5_has ini_X5 cd_X5_has hd_X5_has (by decide)) kd_2 (by decide) rfl (in_2 hS) rfl _ rfl (Nat.le_of_ble_eq_true rfl) dX8_one_27 hf (fun r2 s2 hf => ?_)
      refine g_ifneB (tgt := 35) C dX8_one_30 (by decide) hf (fun hf => ?_) (fun hf => ?_)
      · refine g_aload_n C dX8_one_35 rfl 0 rfl ?_
        refine g_get C (R := RX8) (T := TX8) (N := 11) (k := 0) (v := .ref (ad w 1)) kd_0 (by decide) rfl (in_0 hS) hinX8 (by decide) fl_X8_10 rfl rfl dX8_one_36 ?_
        refine g_get C (R := RX0) (T := TX0) (N := 8) (k := 0) (v := .ref (ad w 2)) kd_1 (by decide) rfl (in_1 hS) hinX0 (by decide) fl_X8_95 rfl rfl dX8_one_39 ?_
        refine g_iload_n C dX8_one_42 rfl 1 rfl ?_
        refine g_iconst C (v := 2) dX8_one_43 rfl ?_
        refine g_callVI C (R := RX5) (T := TX5) (N := 4) [.int a1, .int 2] (fun _ _ h => c_X5_get (kl x) N w (ok_2 hS) _ _ h) (g_cwV C hR ml_X8_105 im_X5_get sl_X5_get ini_X5 cd_X5_get hd_X5_get (by decide)) kd_2 (by decide) rfl (in_2 hS) rfl _ rfl (Nat.le_of_ble_eq_true rfl) dX8_one_44 hf (fun r3 s3 hf => ?_)
        refine g_aload_n C dX8_one_47 rfl 0 rfl ?_
        refine g_get C (R := RX8) (T := TX8) (N := 11) (k := 0) (v := .ref (ad w 1)) kd_0 (by decide) rfl (in_0 hS) hinX8 (by decide) fl_X8_10 rfl rfl dX8_one_48 ?_
        refine g_get C (R := RX0) (T := TX0) (N := 8) (k := 0) (v := .ref (ad w 2)) kd_1 (by decide) rfl (in_1 hS) hinX0 (by decide) fl_X8_95 rfl rfl dX8_one_51 ?_
        refine g_iload_n C dX8_one_54 rfl 2 rfl ?_
        refine g_iconst C (v := 2) dX8_one_55 rfl ?_
        refine g_callVI C (R := RX5) (T := TX5) (N := 4) [.int a2, .int 2] (fun _ _ h => c_X5_get (kl x) N w (ok_2 hS) _ _ h) (g_cwV C hR ml_X8_105 im_X5_get sl_X5_get ini_X5 cd_X5_get hd_X5_get (by decide)) kd_2 (by decide) rfl (in_2 hS) rfl _ rfl (Nat.le_of_ble_eq_true rfl) dX8_one_56 hf (fun r4 s4 hf => ?_)
        refine g_icmp_ne (tgt := 66) C dX8_one_59 (by decide) hf (fun hf => ?_) (fun hf => ?_)
        · refine g_iconst C (v := 0) dX8_one_66 rfl ?_
          exact j67 _ _ _ _ hf
        · refine g_iconst C (v := 1) dX8_one_62 rfl ?_
          refine g_goto (tgt := 67) C dX8_one_63 (by decide) ?_
          exact j67 _ _ _ _ hf
      · refine g_iconst C (v := (-1)) dX8_one_33 rfl ?_
        exact g_iret C dX8_one_34 hf

set_option maxHeartbeats 4000000 in
set_option maxRecDepth 100000 in
theorem c_X8_cut (l : Launch) (N : Nat) (w : WX) (hS : SS w = Sc) (a1 : Int32) {s s' : Mem} {r : Int32} (hf : f_X8_cut N a1 s = some (r, s')) : CI l yX8_cut (wz yX8_cut cX8_cut 5 (some .int)) ({ frames := 4, cells := 0, slots := 0, locals := 97 } : Room) [.ref (ad w 0), .int a1] w s r s' := by
  refine met_startI (cc := cX8_cut) (ret := (some .int)) (own := RX8) (maxL := 5) (by decide) rfl (Nat.le_of_ble_eq_true rfl) (fun x C hR hl => ?_)
  have j76 : ∀ (k27 : Int32 → Int32 → Int32 → Mem → Option (Int32 × Mem)), (∀ (v1 : Int32) (v2 : Int32) (v3 : Int32) (s : Mem), k27 v1 v2 v3 s = some (r, s') → G x (QI x w r s') 5 w 27 [(0, .ref (ad w 0)), (1, .int v1), (2, .int v2), (3, .int v3)] [] s) → ∀ (v1 : Int32) (v2 : Int32) (v3 : Int32) (s : Mem), f_X8_cut_j76 N k27 v1 v2 v3 s = some (r, s') → G x (QI x w r s') 5 w 76 [(0, .ref (ad w 0)), (1, .int v1), (2, .int v2), (3, .int v3)] [] s := by
    intro k27 q27 v1 v2 v3 s hf
    unfold f_X8_cut_j76 at hf
    refine g_iinc (v' := v3 + 1) (lv' := [(3, .int (v3 + 1)), (0, .ref (ad w 0)), (1, .int v1), (2, .int v2)]) C dX8_cut_76 3 rfl rfl (by decide) rfl ?_
    refine g_goto (tgt := 27) C dX8_cut_79 (by decide) ?_
    refine g_sub [1, 2, 3, 0] rfl ?_
    exact q27 _ _ _ _ hf
  have j54 : ∀ (k27 : Int32 → Int32 → Int32 → Mem → Option (Int32 × Mem)), (∀ (v1 : Int32) (v2 : Int32) (v3 : Int32) (s : Mem), k27 v1 v2 v3 s = some (r, s') → G x (QI x w r s') 5 w 27 [(0, .ref (ad w 0)), (1, .int v1), (2, .int v2), (3, .int v3)] [] s) → ∀ (v1 : Int32) (v2 : Int32) (v3 : Int32) (p0 : Bool) (s : Mem), f_X8_cut_j54 N k27 v1 v2 v3 p0 s = some (r, s') → G x (QI x w r s') 5 w 54 [(0, .ref (ad w 0)), (1, .int v1), (2, .int v2), (3, .int v3)] [.int (bI p0)] s := by
    intro k27 q27 v1 v2 v3 p0 s hf
    unfold f_X8_cut_j54 at hf
    refine g_istore (lv' := [(4, .int (bI p0)), (0, .ref (ad w 0)), (1, .int v1), (2, .int v2), (3, .int v3)]) C dX8_cut_54 (by decide) rfl ?_
    refine g_iload C dX8_cut_56 0 rfl ?_
    refine g_ifeqB (tgt := 76) C dX8_cut_58 (by decide) hf (fun hf => ?_) (fun hf => ?_)
    · refine g_sub [1, 2, 3, 4] rfl ?_
      exact j76 k27 q27 _ _ _ _ hf
    · refine g_aload_n C dX8_cut_61 rfl 1 rfl ?_
      refine g_get C (R := RX8) (T := TX8) (N := 11) (k := 0) (v := .ref (ad w 1)) kd_0 (by decide) rfl (in_0 hS) hinX8 (by decide) fl_X8_10 rfl rfl dX8_cut_62 ?_
      refine g_iload_n C dX8_cut_65 rfl 2 rfl ?_
      refine g_iload_n C dX8_cut_66 rfl 4 rfl ?_
      refine g_iload_n C dX8_cut_67 rfl 3 rfl ?_
      refine g_callVB C (R := RX0) (T := TX0) (N := 8) [.int v1, .int v3, .int v2] (fun _ _ h => c_X0_spansMeet (kl x) N w hS _ _ _ h) (g_cwV C hR ml_X8_185 im_X0_spansMeet sl_X0_spansMeet ini_X0 cd_X0_spansMeet hd_X0_spansMeet (by decide)) kd_1 (by decide) rfl (in_1 hS) rfl _ rfl (Nat.le_of_ble_eq_true rfl) dX8_cut_68 hf (fun r1 s1 hf => ?_)
      refine g_ifeqB (tgt := 76) C dX8_cut_71 (by decide) hf (fun hf => ?_) (fun hf => ?_)
      · refine g_sub [1, 2, 3, 4] rfl ?_
        exact j76 k27 q27 _ _ _ _ hf
      · refine g_iload_n C dX8_cut_74 rfl 4 rfl ?_
        exact g_iret C dX8_cut_75 hf
  have j49 : ∀ (k27 : Int32 → Int32 → Int32 → Mem → Option (Int32 × Mem)), (∀ (v1 : Int32) (v2 : Int32) (v3 : Int32) (s : Mem), k27 v1 v2 v3 s = some (r, s') → G x (QI x w r s') 5 w 27 [(0, .ref (ad w 0)), (1, .int v1), (2, .int v2), (3, .int v3)] [] s) → ∀ (v1 : Int32) (v2 : Int32) (v3 : Int32) (s : Mem), f_X8_cut_j49 N k27 v1 v2 v3 s = some (r, s') → G x (QI x w r s') 5 w 49 [(0, .ref (ad w 0)), (1, .int v1), (2, .int v2), (3, .int v3)] [] s := by
    intro k27 q27 v1 v2 v3 s hf
    unfold f_X8_cut_j49 at hf
    refine g_iconst C (v := 1) dX8_cut_49 rfl ?_
    refine g_goto (tgt := 54) C dX8_cut_50 (by decide) ?_
    exact j54 k27 q27 _ _ _ _ _ hf
  have j27 : ∀ (n : Nat), ∀ (v1 : Int32) (v2 : Int32) (v3 : Int32) (s : Mem), f_X8_cut_L27 N n v1 v2 v3 s = some (r, s') → G x (QI x w r s') 5 w 27 [(0, .ref (ad w 0)), (1, .int v1), (2, .int v2), (3, .int v3)] [] s := by
    intro n
    induction n with
    | zero => intro v1 v2 v3 s hf; cases hf
    | succ n ih =>
      intro v1 v2 v3 s hf
      unfold f_X8_cut_L27 at hf
      refine g_iload_n C dX8_cut_27 rfl 3 rfl ?_
      refine g_iload_n C dX8_cut_28 rfl 2 rfl ?_
      refine g_icmp_ge (tgt := 82) C dX8_cut_29 (by decide) hf (fun hf => ?_) (fun hf => ?_)
      · refine g_bipush C (v := (-3)) dX8_cut_82 (by decide) ?_
        exact g_iret C dX8_cut_84 hf
      · refine g_iload_n C dX8_cut_32 rfl 3 rfl ?_
        refine g_if_eq (tgt := 49) C dX8_cut_33 (by decide) hf (fun hf => ?_) (fun hf => ?_)
        · exact j49 (f_X8_cut_L27 N n) ih _ _ _ _ hf
        · refine g_aload_n C dX8_cut_36 rfl 0 rfl ?_
          refine g_get C (R := RX8) (T := TX8) (N := 11) (k := 0) (v := .ref (ad w 1)) kd_0 (by decide) rfl (in_0 hS) hinX8 (by decide) fl_X8_10 rfl rfl dX8_cut_37 ?_
          refine g_iload_n C dX8_cut_40 rfl 1 rfl ?_
          refine g_iconst C (v := 0) dX8_cut_41 rfl ?_
          refine g_iload_n C dX8_cut_42 rfl 3 rfl ?_
          refine g_callVB C (R := RX0) (T := TX0) (N := 8) [.int v1, .int 0, .int v3] (fun _ _ h => c_X0_spansMeet (kl x) N w hS _ _ _ h) (g_cwV C hR ml_X8_185 im_X0_spansMeet sl_X0_spansMeet ini_X0 cd_X0_spansMeet hd_X0_spansMeet (by decide)) kd_1 (by decide) rfl (in_1 hS) rfl _ rfl (Nat.le_of_ble_eq_true rfl) dX8_cut_43 hf (fun r1 s1 hf => ?_)
          refine g_ifeqB (tgt := 53) C dX8_cut_46 (by decide) hf (fun hf => ?_) (fun hf => ?_)
          · refine g_iconst C (v := 0) dX8_cut_53 rfl ?_
            exact j54 (f_X8_cut_L27 N n) ih _ _ _ _ _ hf
          · exact j49 (f_X8_cut_L27 N n) ih _ _ _ _ hf
  refine g_lv (lv' := [(0, .ref (ad w 0)), (1, .int a1)]) rfl ?_
  unfold f_X8_cut at hf
  refine g_aload_n C dX8_cut_0 rfl 0 rfl ?_
  refine g_get C (R := RX8) (T := TX8) (N := 11) (k := 0) (v := .ref (ad w 1)) kd_0 (by decide) rfl (in_0 hS) hinX8 (by decide) fl_X8_10 rfl rfl dX8_cut_1 ?_
  refine g_get C (R := RX0) (T := TX0) (N := 8) (k := 0) (v := .ref (ad w 2)) kd_1 (by decide) rfl (in_1 hS) hinX0 (by decide) fl_X8_95 rfl rfl dX8_cut_4 ?_
  refine g_iload_n C dX8_cut_7 rfl 1 rfl ?_
  refine g_callVB C (R := RX5) (T := TX5) (N := 4) [.int a1] (fun _ _ h => c_X5_has (kl x) N w (ok_2 hS) _ h) (g_cwV C hR ml_X8_102 im_X5_has sl_X5_has ini_X5 cd_X5_has hd_X5_has (by decide)) kd_2 (by decide) rfl (in_2 hS) rfl _ rfl (Nat.le_of_ble_eq_true rfl) dX8_cut_8 hf (fun r1 s1 hf => ?_)
  refine g_ifneB (tgt := 16) C dX8_cut_11 (by decide) hf (fun hf => ?_) (fun hf => ?_)
  · refine g_aload_n C dX8_cut_16 rfl 0 rfl ?_
    refine g_get C (R := RX8) (T := TX8) (N := 11) (k := 0) (v := .ref (ad w 1)) kd_0 (by decide) rfl (in_0 hS) hinX8 (by decide) fl_X8_10 rfl rfl dX8_cut_17 ?_
    refine g_iload_n C dX8_cut_20 rfl 1 rfl ?_
    refine g_callVI C (R := RX0) (T := TX0) (N := 8) [.int a1] (fun _ _ h => c_X0_papersOf (kl x) N w hS _ h) (g_cwV C hR ml_X8_113 im_X0_papersOf sl_X0_papersOf ini_X0 cd_X0_papersOf hd_X0_papersOf (by decide)) kd_1 (by decide) rfl (in_1 hS) rfl _ rfl (Nat.le_of_ble_eq_true rfl) dX8_cut_21 hf (fun r2 s2 hf => ?_)
    refine g_istore_n (lv' := [(2, .int r2), (0, .ref (ad w 0)), (1, .int a1)]) C dX8_cut_24 rfl (by decide) rfl ?_
    refine g_iconst C (v := 0) dX8_cut_25 rfl ?_
    refine g_istore_n (lv' := [(3, .int 0), (2, .int r2), (0, .ref (ad w 0)), (1, .int a1)]) C dX8_cut_26 rfl (by decide) rfl ?_
    refine g_sub [2, 3, 1, 0] rfl ?_
    exact j27 N _ _ _ _ hf
  · refine g_iconst C (v := (-1)) dX8_cut_14 rfl ?_
    exact g_iret C dX8_cut_15 hf

set_option maxHeartbeats 4000000 in
set_option maxRecDepth 100000 in
theorem c_X8_rest (l : Launch) (N : Nat) (w : WX) (hS : SS w = Sc) (a1 : Int32) (a2 : Int32) {s s' : Mem} {r : Int32} (hf : f_X8_rest N a1 a2 s = some (r, s')) : CI l yX8_rest (wz yX8_rest cX8_rest 4 (some .int)) ({ frames := 1, cells := 0, slots := 0, locals := 24 } : Room) [.ref (ad w 0), .int a1, .int a2] w s r s' := by
  refine met_startI (cc := cX8_rest) (ret := (some .int)) (own := RX8) (maxL := 4) (by decide) rfl (Nat.le_of_ble_eq_true rfl) (fun x C hR hl => ?_)
  refine g_lv (lv' := [(0, .ref (ad w 0)), (1, .int a1), (2, .int a2)]) rfl ?_
  unfold f_X8_rest at hf
  refine g_iload_n C dX8_rest_0 rfl 1 rfl ?_
  refine g_iload_n C dX8_rest_1 rfl 2 rfl ?_
  refine g_icmp_eq (tgt := 33) C dX8_rest_2 (by decide) hf (fun hf => ?_) (fun hf => ?_)
  · refine g_iconst C (v := (-1)) dX8_rest_33 rfl ?_
    exact g_iret C dX8_rest_34 hf
  · refine g_aload_n C dX8_rest_5 rfl 0 rfl ?_
    refine g_get C (R := RX8) (T := TX8) (N := 11) (k := 0) (v := .ref (ad w 1)) kd_0 (by decide) rfl (in_0 hS) hinX8 (by decide) fl_X8_10 rfl rfl dX8_rest_6 ?_
    refine g_get C (R := RX0) (T := TX0) (N := 8) (k := 1) (v := .ref (ad w 4)) kd_1 (by decide) rfl (in_1 hS) hinX0 (by decide) fl_X8_122 rfl rfl dX8_rest_9 ?_
    refine g_iload_n C dX8_rest_12 rfl 1 rfl ?_
    refine g_callVB C (R := RX5) (T := TX5) (N := 4) [.int a1] (fun _ _ h => c_X5_has (kl x) N w (ok_4 hS) _ h) (g_cwV C hR ml_X8_102 im_X5_has sl_X5_has ini_X5 cd_X5_has hd_X5_has (by decide)) kd_4 (by decide) rfl (in_4 hS) rfl _ rfl (Nat.le_of_ble_eq_true rfl) dX8_rest_13 hf (fun r1 s1 hf => ?_)
    refine g_ifeqB (tgt := 33) C dX8_rest_16 (by decide) hf (fun hf => ?_) (fun hf => ?_)
    · refine g_iconst C (v := (-1)) dX8_rest_33 rfl ?_
      exact g_iret C dX8_rest_34 hf
    · refine g_aload_n C dX8_rest_19 rfl 0 rfl ?_
      refine g_get C (R := RX8) (T := TX8) (N := 11) (k := 0) (v := .ref (ad w 1)) kd_0 (by decide) rfl (in_0 hS) hinX8 (by decide) fl_X8_10 rfl rfl dX8_rest_20 ?_
      refine g_get C (R := RX0) (T := TX0) (N := 8) (k := 1) (v := .ref (ad w 4)) kd_1 (by decide) rfl (in_1 hS) hinX0 (by decide) fl_X8_122 rfl rfl dX8_rest_23 ?_
      refine g_iload_n C dX8_rest_26 rfl 2 rfl ?_
      refine g_callVB C (R := RX5) (T := TX5) (N := 4) [.int a2] (fun _ _ h => c_X5_has (kl x) N w (ok_4 hS) _ h) (g_cwV C hR ml_X8_102 im_X5_has sl_X5_has ini_X5 cd_X5_has hd_X5_has (by decide)) kd_4 (by decide) rfl (in_4 hS) rfl _ rfl (Nat.le_of_ble_eq_true rfl) dX8_rest_27 hf (fun r2 s2 hf => ?_)
      refine g_ifneB (tgt := 35) C dX8_rest_30 (by decide) hf (fun hf => ?_) (fun hf => ?_)
      · refine g_aload_n C dX8_rest_35 rfl 0 rfl ?_
        refine g_get C (R := RX8) (T := TX8) (N := 11) (k := 0) (v := .ref (ad w 1)) kd_0 (by decide) rfl (in_0 hS) hinX8 (by decide) fl_X8_10 rfl rfl dX8_rest_36 ?_
        refine g_get C (R := RX0) (T := TX0) (N := 8) (k := 1) (v := .ref (ad w 4)) kd_1 (by decide) rfl (in_1 hS) hinX0 (by decide) fl_X8_122 rfl rfl dX8_rest_39 ?_
        refine g_iload_n C dX8_rest_42 rfl 1 rfl ?_
        refine g_bipush C (v := 6) dX8_rest_43 (by decide) ?_
        refine g_callVI C (R := RX5) (T := TX5) (N := 4) [.int a1, .int 6] (fun _ _ h => c_X5_get (kl x) N w (ok_4 hS) _ _ h) (g_cwV C hR ml_X8_105 im_X5_get sl_X5_get ini_X5 cd_X5_get hd_X5_get (by decide)) kd_4 (by decide) rfl (in_4 hS) rfl _ rfl (Nat.le_of_ble_eq_true rfl) dX8_rest_45 hf (fun r3 s3 hf => ?_)
        refine g_istore_n (lv' := [(3, .int r3), (0, .ref (ad w 0)), (1, .int a1), (2, .int a2)]) C dX8_rest_48 rfl (by decide) rfl ?_
        refine g_iload_n C dX8_rest_49 rfl 0 rfl ?_
        refine g_iload_n C dX8_rest_50 rfl 3 rfl ?_
        refine g_callSI C [.int a2] (fun _ _ h => c_X8_bit (kl x) N w _ h) (g_cwS C hR ml_X8_188 sm_X8_bit ini_X8 cd_X8_bit hd_X8_bit (by decide)) rfl _ rfl (Nat.le_of_ble_eq_true rfl) dX8_rest_51 hf (fun r4 s4 hf => ?_)
        refine g_iand C dX8_rest_54 ?_
        refine g_if_eq (tgt := 61) C dX8_rest_55 (by decide) hf (fun hf => ?_) (fun hf => ?_)
        · refine g_aload_n C dX8_rest_61 rfl 1 rfl ?_
          refine g_get C (R := RX8) (T := TX8) (N := 11) (k := 0) (v := .ref (ad w 1)) kd_0 (by decide) rfl (in_0 hS) hinX8 (by decide) fl_X8_10 rfl rfl dX8_rest_62 ?_
          refine g_get C (R := RX0) (T := TX0) (N := 8) (k := 7) (v := .int (rI s4 1 7)) kd_1 (by decide) rfl (in_1 hS) hinX0 (by decide) fl_X8_191 rfl rfl dX8_rest_65 ?_
          refine g_bipush C (v := 40) dX8_rest_68 (by decide) ?_
          refine g_icmp_lt (tgt := 76) C dX8_rest_70 (by decide) hf (fun hf => ?_) (fun hf => ?_)
          · refine g_aload_n C dX8_rest_76 rfl 1 rfl ?_
            refine g_get C (R := RX8) (T := TX8) (N := 11) (k := 0) (v := .ref (ad w 1)) kd_0 (by decide) rfl (in_0 hS) hinX8 (by decide) fl_X8_10 rfl rfl dX8_rest_77 ?_
            refine g_get C (R := RX0) (T := TX0) (N := 8) (k := 1) (v := .ref (ad w 4)) kd_1 (by decide) rfl (in_1 hS) hinX0 (by decide) fl_X8_122 rfl rfl dX8_rest_80 ?_
            refine g_iload_n C dX8_rest_83 rfl 2 rfl ?_
            refine g_bipush C (v := 6) dX8_rest_84 (by decide) ?_
            refine g_iload_n C dX8_rest_86 rfl 0 rfl ?_
            refine g_iload_n C dX8_rest_87 rfl 3 rfl ?_
            refine g_callSI C [.int a2] (fun _ _ h => c_X8_bit (kl x) N w _ h) (g_cwS C hR ml_X8_188 sm_X8_bit ini_X8 cd_X8_bit hd_X8_bit (by decide)) rfl _ rfl (Nat.le_of_ble_eq_true rfl) dX8_rest_88 hf (fun r5 s5 hf => ?_)
            refine g_ior C dX8_rest_91 ?_
            refine g_callVV C (R := RX5) (T := TX5) (N := 4) [.int a1, .int 6, .int (r3 ||| r5)] (fun _ h => c_X5_set (kl x) N w (ok_4 hS) _ _ _ h) (g_cwV C hR ml_X8_83 im_X5_set sl_X5_set ini_X5 cd_X5_set hd_X5_set (by decide)) kd_4 (by decide) rfl (in_4 hS) rfl _ rfl (Nat.le_of_ble_eq_true rfl) dX8_rest_92 hf (fun s6 hf => ?_)
            refine g_aload_n C dX8_rest_95 rfl 1 rfl ?_
            refine g_get C (R := RX8) (T := TX8) (N := 11) (k := 0) (v := .ref (ad w 1)) kd_0 (by decide) rfl (in_0 hS) hinX8 (by decide) fl_X8_10 rfl rfl dX8_rest_96 ?_
            refine g_dup C dX8_rest_99 rfl ?_
            refine g_get C (R := RX0) (T := TX0) (N := 8) (k := 7) (v := .int (rI s6 1 7)) kd_1 (by decide) rfl (in_1 hS) hinX0 (by decide) fl_X8_191 rfl rfl dX8_rest_100 ?_
            refine g_iconst C (v := 1) dX8_rest_103 rfl ?_
            refine g_iadd C dX8_rest_104 ?_
            refine g_putI C (R := RX0) (T := TX0) (N := 8) (k := 7) (ty := .int) tyX0 tyX0_ok nmX0 kd_1 (by decide) rfl (in_1 hS) hinX0 (by decide) fl_X8_191 rfl rfl rfl rfl rfl (Nat.le_of_ble_eq_true rfl) fs_0_7 dX8_rest_105 ?_
            refine g_nameS hf (fun s7 hf => ?_)
            refine g_aload_n C dX8_rest_108 rfl 1 rfl ?_
            refine g_get C (R := RX8) (T := TX8) (N := 11) (k := 0) (v := .ref (ad w 1)) kd_0 (by decide) rfl (in_0 hS) hinX8 (by decide) fl_X8_10 rfl rfl dX8_rest_109 ?_
            refine g_get C (R := RX0) (T := TX0) (N := 8) (k := 7) (v := .int (rI s7 1 7)) kd_1 (by decide) rfl (in_1 hS) hinX0 (by decide) fl_X8_191 rfl rfl dX8_rest_112 ?_
            exact g_iret C dX8_rest_115 hf
          · refine g_bipush C (v := (-2)) dX8_rest_73 (by decide) ?_
            exact g_iret C dX8_rest_75 hf
        · refine g_bipush C (v := (-4)) dX8_rest_58 (by decide) ?_
          exact g_iret C dX8_rest_60 hf
      · refine g_iconst C (v := (-1)) dX8_rest_33 rfl ?_
        exact g_iret C dX8_rest_34 hf

set_option maxHeartbeats 4000000 in
set_option maxRecDepth 100000 in
theorem c_X8_stands (l : Launch) (N : Nat) (w : WX) (hS : SS w = Sc) {s s' : Mem} {r : Int32} (hf : f_X8_stands N s = some (r, s')) : CI l yX8_stands (wz yX8_stands cX8_stands 1 (some .int)) ({ frames := 3, cells := 0, slots := 0, locals := 70 } : Room) [.ref (ad w 0)] w s r s' := by
  refine met_startI (cc := cX8_stands) (ret := (some .int)) (own := RX8) (maxL := 1) (by decide) rfl (Nat.le_of_ble_eq_true rfl) (fun x C hR hl => ?_)
  refine g_lv (lv' := [(0, .ref (ad w 0))]) rfl ?_
  unfold f_X8_stands at hf
  refine g_aload_n C dX8_stands_0 rfl 0 rfl ?_
  refine g_get C (R := RX8) (T := TX8) (N := 11) (k := 0) (v := .ref (ad w 1)) kd_0 (by decide) rfl (in_0 hS) hinX8 (by decide) fl_X8_10 rfl rfl dX8_stands_1 ?_
  refine g_callVI C (R := RX0) (T := TX0) (N := 8) [] (fun _ _ h => c_X0_standing (kl x) N w hS h) (g_cwV C hR ml_X8_194 im_X0_standing sl_X0_standing ini_X0 cd_X0_standing hd_X0_standing (by decide)) kd_1 (by decide) rfl (in_1 hS) rfl _ rfl (Nat.le_of_ble_eq_true rfl) dX8_stands_4 hf (fun r1 s1 hf => ?_)
  exact g_iret C dX8_stands_7 hf

set_option maxHeartbeats 4000000 in
set_option maxRecDepth 100000 in
theorem c_X8_round (l : Launch) (N : Nat) (w : WX) (hS : SS w = Sc) (a1 : Int32) {s s' : Mem} {r : Int32} (hf : f_X8_round N a1 s = some (r, s')) : CI l yX8_round (wz yX8_round cX8_round 2 (some .int)) ({ frames := 3, cells := 0, slots := 0, locals := 70 } : Room) [.ref (ad w 0), .int a1] w s r s' := by
  refine met_startI (cc := cX8_round) (ret := (some .int)) (own := RX8) (maxL := 2) (by decide) rfl (Nat.le_of_ble_eq_true rfl) (fun x C hR hl => ?_)
  refine g_lv (lv' := [(0, .ref (ad w 0)), (1, .int a1)]) rfl ?_
  unfold f_X8_round at hf
  refine g_aload_n C dX8_round_0 rfl 0 rfl ?_
  refine g_get C (R := RX8) (T := TX8) (N := 11) (k := 0) (v := .ref (ad w 1)) kd_0 (by decide) rfl (in_0 hS) hinX8 (by decide) fl_X8_10 rfl rfl dX8_round_1 ?_
  refine g_get C (R := RX0) (T := TX0) (N := 8) (k := 1) (v := .ref (ad w 4)) kd_1 (by decide) rfl (in_1 hS) hinX0 (by decide) fl_X8_122 rfl rfl dX8_round_4 ?_
  refine g_iload_n C dX8_round_7 rfl 1 rfl ?_
  refine g_callVB C (R := RX5) (T := TX5) (N := 4) [.int a1] (fun _ _ h => c_X5_has (kl x) N w (ok_4 hS) _ h) (g_cwV C hR ml_X8_102 im_X5_has sl_X5_has ini_X5 cd_X5_has hd_X5_has (by decide)) kd_4 (by decide) rfl (in_4 hS) rfl _ rfl (Nat.le_of_ble_eq_true rfl) dX8_round_8 hf (fun r1 s1 hf => ?_)
  refine g_ifneB (tgt := 16) C dX8_round_11 (by decide) hf (fun hf => ?_) (fun hf => ?_)
  · refine g_aload_n C dX8_round_16 rfl 0 rfl ?_
    refine g_get C (R := RX8) (T := TX8) (N := 11) (k := 0) (v := .ref (ad w 1)) kd_0 (by decide) rfl (in_0 hS) hinX8 (by decide) fl_X8_10 rfl rfl dX8_round_17 ?_
    refine g_iload_n C dX8_round_20 rfl 1 rfl ?_
    refine g_callVI C (R := RX0) (T := TX0) (N := 8) [.int a1] (fun _ _ h => c_X0_restsOver (kl x) N w hS _ h) (g_cwV C hR ml_X8_197 im_X0_restsOver sl_X0_restsOver ini_X0 cd_X0_restsOver hd_X0_restsOver (by decide)) kd_1 (by decide) rfl (in_1 hS) rfl _ rfl (Nat.le_of_ble_eq_true rfl) dX8_round_21 hf (fun r2 s2 hf => ?_)
    refine g_iload_n C dX8_round_24 rfl 1 rfl ?_
    refine g_callSI C [.int a1] (fun _ _ h => c_X8_bit (kl x) N w _ h) (g_cwS C hR ml_X8_188 sm_X8_bit ini_X8 cd_X8_bit hd_X8_bit (by decide)) rfl _ rfl (Nat.le_of_ble_eq_true rfl) dX8_round_25 hf (fun r3 s3 hf => ?_)
    refine g_iand C dX8_round_28 ?_
    refine g_if_eq (tgt := 36) C dX8_round_29 (by decide) hf (fun hf => ?_) (fun hf => ?_)
    · refine g_iconst C (v := 0) dX8_round_36 rfl ?_
      exact g_iret C dX8_round_37 hf
    · refine g_iconst C (v := 1) dX8_round_32 rfl ?_
      refine g_goto (tgt := 37) C dX8_round_33 (by decide) ?_
      exact g_iret C dX8_round_37 hf
  · refine g_iconst C (v := (-1)) dX8_round_14 rfl ?_
    exact g_iret C dX8_round_15 hf

set_option maxHeartbeats 4000000 in
set_option maxRecDepth 100000 in
theorem c_X8_roots (l : Launch) (N : Nat) (w : WX) (hS : SS w = Sc) (a1 : Int32) {s s' : Mem} {r : Int32} (hf : f_X8_roots N a1 s = some (r, s')) : CI l yX8_roots (wz yX8_roots cX8_roots 2 (some .int)) ({ frames := 3, cells := 0, slots := 0, locals := 70 } : Room) [.ref (ad w 0), .int a1] w s r s' := by
  refine met_startI (cc := cX8_roots) (ret := (some .int)) (own := RX8) (maxL := 2) (by decide) rfl (Nat.le_of_ble_eq_true rfl) (fun x C hR hl => ?_)
  refine g_lv (lv' := [(0, .ref (ad w 0)), (1, .int a1)]) rfl ?_
  unfold f_X8_roots at hf
  refine g_aload_n C dX8_roots_0 rfl 0 rfl ?_
  refine g_get C (R := RX8) (T := TX8) (N := 11) (k := 0) (v := .ref (ad w 1)) kd_0 (by decide) rfl (in_0 hS) hinX8 (by decide) fl_X8_10 rfl rfl dX8_roots_1 ?_
  refine g_get C (R := RX0) (T := TX0) (N := 8) (k := 1) (v := .ref (ad w 4)) kd_1 (by decide) rfl (in_1 hS) hinX0 (by decide) fl_X8_122 rfl rfl dX8_roots_4 ?_
  refine g_iload_n C dX8_roots_7 rfl 1 rfl ?_
  refine g_callVB C (R := RX5) (T := TX5) (N := 4) [.int a1] (fun _ _ h => c_X5_has (kl x) N w (ok_4 hS) _ h) (g_cwV C hR ml_X8_102 im_X5_has sl_X5_has ini_X5 cd_X5_has hd_X5_has (by decide)) kd_4 (by decide) rfl (in_4 hS) rfl _ rfl (Nat.le_of_ble_eq_true rfl) dX8_roots_8 hf (fun r1 s1 hf => ?_)
  refine g_ifneB (tgt := 16) C dX8_roots_11 (by decide) hf (fun hf => ?_) (fun hf => ?_)
  · refine g_aload_n C dX8_roots_16 rfl 0 rfl ?_
    refine g_get C (R := RX8) (T := TX8) (N := 11) (k := 0) (v := .ref (ad w 1)) kd_0 (by decide) rfl (in_0 hS) hinX8 (by decide) fl_X8_10 rfl rfl dX8_roots_17 ?_
    refine g_iload_n C dX8_roots_20 rfl 1 rfl ?_
    refine g_callVI C (R := RX0) (T := TX0) (N := 8) [.int a1] (fun _ _ h => c_X0_restsOver (kl x) N w hS _ h) (g_cwV C hR ml_X8_197 im_X0_restsOver sl_X0_restsOver ini_X0 cd_X0_restsOver hd_X0_restsOver (by decide)) kd_1 (by decide) rfl (in_1 hS) rfl _ rfl (Nat.le_of_ble_eq_true rfl) dX8_roots_21 hf (fun r2 s2 hf => ?_)
    refine g_iload_n C dX8_roots_24 rfl 1 rfl ?_
    refine g_callSI C [.int a1] (fun _ _ h => c_X8_bit (kl x) N w _ h) (g_cwS C hR ml_X8_188 sm_X8_bit ini_X8 cd_X8_bit hd_X8_bit (by decide)) rfl _ rfl (Nat.le_of_ble_eq_true rfl) dX8_roots_25 hf (fun r3 s3 hf => ?_)
    refine g_ior C dX8_roots_28 ?_
    refine g_aload_n C dX8_roots_29 rfl 0 rfl ?_
    refine g_get C (R := RX8) (T := TX8) (N := 11) (k := 0) (v := .ref (ad w 1)) kd_0 (by decide) rfl (in_0 hS) hinX8 (by decide) fl_X8_10 rfl rfl dX8_roots_30 ?_
    refine g_callVI C (R := RX0) (T := TX0) (N := 8) [] (fun _ _ h => c_X0_restingOnNone (kl x) N w hS h) (g_cwV C hR ml_X8_200 im_X0_restingOnNone sl_X0_restingOnNone ini_X0 cd_X0_restingOnNone hd_X0_restingOnNone (by decide)) kd_1 (by decide) rfl (in_1 hS) rfl _ rfl (Nat.le_of_ble_eq_true rfl) dX8_roots_33 hf (fun r4 s4 hf => ?_)
    refine g_iand C dX8_roots_36 ?_
    exact g_iret C dX8_roots_37 hf
  · refine g_iconst C (v := (-1)) dX8_roots_14 rfl ?_
    exact g_iret C dX8_roots_15 hf

set_option maxHeartbeats 4000000 in
set_option maxRecDepth 100000 in
theorem c_X8_feed (l : Launch) (N : Nat) (w : WX) (hS : SS w = Sc) (a1 : Int64) (a3 : Int32) {s s' : Mem} {r : Int32} (hf : f_X8_feed N a1 a3 s = some (r, s')) : CI l yX8_feed (wz yX8_feed cX8_feed 5 (some .int)) ({ frames := 1, cells := 0, slots := 0, locals := 22 } : Room) [.ref (ad w 0), .long a1, .int a3] w s r s' := by
  refine met_startI (cc := cX8_feed) (ret := (some .int)) (own := RX8) (maxL := 5) (by decide) rfl (Nat.le_of_ble_eq_true rfl) (fun x C hR hl => ?_)
  have j33 : ∀ (n : Nat), ∀ (v1 : Int64) (v3 : Int32) (v4 : Int32) (s : Mem), f_X8_feed_L33 N n v1 v3 v4 s = some (r, s') → G x (QI x w r s') 5 w 33 [(0, .ref (ad w 0)), (1, .long v1), (3, .int v3), (4, .int v4)] [] s := by
    intro n
    induction n with
    | zero => intro v1 v3 v4 s hf; cases hf
    | succ n ih =>
      intro v1 v3 v4 s hf
      unfold f_X8_feed_L33 at hf
      refine g_iload C dX8_feed_33 3 rfl ?_
      refine g_iload_n C dX8_feed_35 rfl 2 rfl ?_
      refine g_icmp_ge (tgt := 64) C dX8_feed_36 (by decide) hf (fun hf => ?_) (fun hf => ?_)
      · refine g_aload_n C dX8_feed_64 rfl 0 rfl ?_
        refine g_get C (R := RX8) (T := TX8) (N := 11) (k := 6) (v := .ref (ad w 43)) kd_0 (by decide) rfl (in_0 hS) hinX8 (by decide) fl_X8_49 rfl rfl dX8_feed_65 ?_
        refine g_get C (R := RX3) (T := TX3) (N := 2) (k := 1) (v := .int (rI s 43 1)) kd_43 (by decide) rfl (in_43 hS) hinX3 (by decide) fl_X8_203 rfl rfl dX8_feed_68 ?_
        exact g_iret C dX8_feed_71 hf
      · refine g_aload_n C dX8_feed_39 rfl 0 rfl ?_
        refine g_get C (R := RX8) (T := TX8) (N := 11) (k := 6) (v := .ref (ad w 43)) kd_0 (by decide) rfl (in_0 hS) hinX8 (by decide) fl_X8_49 rfl rfl dX8_feed_40 ?_
        refine g_lload_n C dX8_feed_43 rfl 1 rfl ?_
        refine g_bipush C (v := 8) dX8_feed_44 (by decide) ?_
        refine g_iload C dX8_feed_46 3 rfl ?_
        refine g_imul C dX8_feed_48 ?_
        refine g_lshr C dX8_feed_49 ?_
        refine g_l2i C dX8_feed_50 ?_
        refine g_sipush C (v := 255) dX8_feed_51 (by decide) ?_
        refine g_iand C dX8_feed_54 ?_
        refine g_callVV C (R := RX3) (T := TX3) (N := 2) [.int (((v1 >>> ((8 * v4).toInt64 &&& 63)).toInt32) &&& 255)] (fun _ h => c_X3_push (kl x) N w (ok_43 hS) _ h) (g_cwV C hR ml_X8_206 im_X3_push sl_X3_push ini_X3 cd_X3_push hd_X3_push (by decide)) kd_43 (by decide) rfl (in_43 hS) rfl _ rfl (Nat.le_of_ble_eq_true rfl) dX8_feed_55 hf (fun s1 hf => ?_)
        refine g_iinc (v' := v4 + 1) (lv' := [(4, .int (v4 + 1)), (0, .ref (ad w 0)), (1, .long v1), (3, .int v3)]) C dX8_feed_58 3 rfl rfl (by decide) rfl ?_
        refine g_goto (tgt := 33) C dX8_feed_61 (by decide) ?_
        refine g_sub [1, 2, 3, 0] rfl ?_
        exact ih _ _ _ _ hf
  refine g_lv (lv' := [(0, .ref (ad w 0)), (1, .long a1), (3, .int a3)]) rfl ?_
  unfold f_X8_feed at hf
  refine g_iload_n C dX8_feed_0 rfl 2 rfl ?_
  refine g_iconst C (v := 1) dX8_feed_1 rfl ?_
  refine g_bipush C (v := 8) dX8_feed_2 (by decide) ?_
  refine g_callSB C [.int a3, .int 1, .int 8] (fun _ _ h => c_X8_isWithin (kl x) N w _ _ _ h) (g_cwS C hR ml_X8_91 sm_X8_isWithin ini_X8 cd_X8_isWithin hd_X8_isWithin (by decide)) rfl _ rfl (Nat.le_of_ble_eq_true rfl) dX8_feed_4 hf (fun r1 s1 hf => ?_)
  refine g_ifneB (tgt := 12) C dX8_feed_7 (by decide) hf (fun hf => ?_) (fun hf => ?_)
  · refine g_aload_n C dX8_feed_12 rfl 0 rfl ?_
    refine g_get C (R := RX8) (T := TX8) (N := 11) (k := 6) (v := .ref (ad w 43)) kd_0 (by decide) rfl (in_0 hS) hinX8 (by decide) fl_X8_49 rfl rfl dX8_feed_13 ?_
    refine g_get C (R := RX3) (T := TX3) (N := 2) (k := 1) (v := .int (rI s1 43 1)) kd_43 (by decide) rfl (in_43 hS) hinX3 (by decide) fl_X8_203 rfl rfl dX8_feed_16 ?_
    refine g_iload_n C dX8_feed_19 rfl 2 rfl ?_
    refine g_iadd C dX8_feed_20 ?_
    refine g_sipush C (v := 200) dX8_feed_21 (by decide) ?_
    refine g_icmp_le (tgt := 30) C dX8_feed_24 (by decide) hf (fun hf => ?_) (fun hf => ?_)
    · refine g_iconst C (v := 0) dX8_feed_30 rfl ?_
      refine g_istore (lv' := [(4, .int 0), (0, .ref (ad w 0)), (1, .long a1), (3, .int a3)]) C dX8_feed_31 (by decide) rfl ?_
      refine g_sub [1, 2, 3, 0] rfl ?_
      exact j33 N _ _ _ _ hf
    · refine g_bipush C (v := (-2)) dX8_feed_27 (by decide) ?_
      exact g_iret C dX8_feed_29 hf
  · refine g_iconst C (v := (-1)) dX8_feed_10 rfl ?_
    exact g_iret C dX8_feed_11 hf

set_option maxHeartbeats 4000000 in
set_option maxRecDepth 100000 in
theorem c_X8_read (l : Launch) (N : Nat) (w : WX) (hS : SS w = Sc) {s s' : Mem} {r : Int32} (hf : f_X8_read N s = some (r, s')) : CI l yX8_read (wz yX8_read cX8_read 2 (some .int)) ({ frames := 8, cells := 0, slots := 0, locals := 171 } : Room) [.ref (ad w 0)] w s r s' := by
  refine met_startI (cc := cX8_read) (ret := (some .int)) (own := RX8) (maxL := 2) (by decide) rfl (Nat.le_of_ble_eq_true rfl) (fun x C hR hl => ?_)
  refine g_lv (lv' := [(0, .ref (ad w 0))]) rfl ?_
  unfold f_X8_read at hf
  refine g_aload_n C dX8_read_0 rfl 0 rfl ?_
  refine g_get C (R := RX8) (T := TX8) (N := 11) (k := 5) (v := .ref (ad w 36)) kd_0 (by decide) rfl (in_0 hS) hinX8 (by decide) fl_X8_40 rfl rfl dX8_read_1 ?_
  refine g_aload_n C dX8_read_4 rfl 0 rfl ?_
  refine g_get C (R := RX8) (T := TX8) (N := 11) (k := 6) (v := .ref (ad w 43)) kd_0 (by decide) rfl (in_0 hS) hinX8 (by decide) fl_X8_49 rfl rfl dX8_read_5 ?_
  refine g_callVI C (R := RX7) (T := TX7) (N := 11) [.ref (ad w 43)] (fun _ _ h => c_X7_readTape (kl x) N w hS h) (g_cwV C hR ml_X8_209 im_X7_readTape sl_X7_readTape ini_X7 cd_X7_readTape hd_X7_readTape (by decide)) kd_36 (by decide) rfl (in_36 hS) rfl _ rfl (Nat.le_of_ble_eq_true rfl) dX8_read_8 hf (fun r1 s1 hf => ?_)
  refine g_istore_n (lv' := [(1, .int r1), (0, .ref (ad w 0))]) C dX8_read_11 rfl (by decide) rfl ?_
  refine g_aload_n C dX8_read_12 rfl 1 rfl ?_
  refine g_get C (R := RX8) (T := TX8) (N := 11) (k := 6) (v := .ref (ad w 43)) kd_0 (by decide) rfl (in_0 hS) hinX8 (by decide) fl_X8_49 rfl rfl dX8_read_13 ?_
  refine g_callVV C (R := RX3) (T := TX3) (N := 2) [] (fun _ h => c_X3_clear (kl x) N w (ok_43 hS) h) (g_cwV C hR ml_X8_213 im_X3_clear sl_X3_clear ini_X3 cd_X3_clear hd_X3_clear (by decide)) kd_43 (by decide) rfl (in_43 hS) rfl _ rfl (Nat.le_of_ble_eq_true rfl) dX8_read_16 hf (fun s2 hf => ?_)
  refine g_iload_n C dX8_read_19 rfl 0 rfl ?_
  refine g_bipush C (v := (-3)) dX8_read_20 (by decide) ?_
  refine g_icmp_eq (tgt := 30) C dX8_read_22 (by decide) hf (fun hf => ?_) (fun hf => ?_)
  · refine g_aload_n C dX8_read_30 rfl 1 rfl ?_
    refine g_get C (R := RX8) (T := TX8) (N := 11) (k := 0) (v := .ref (ad w 1)) kd_0 (by decide) rfl (in_0 hS) hinX8 (by decide) fl_X8_10 rfl rfl dX8_read_31 ?_
    refine g_get C (R := RX0) (T := TX0) (N := 8) (k := 5) (v := .ref (ad w 12)) kd_1 (by decide) rfl (in_1 hS) hinX0 (by decide) fl_X8_216 rfl rfl dX8_read_34 ?_
    refine g_aload_n C dX8_read_37 rfl 1 rfl ?_
    refine g_get C (R := RX8) (T := TX8) (N := 11) (k := 5) (v := .ref (ad w 36)) kd_0 (by decide) rfl (in_0 hS) hinX8 (by decide) fl_X8_40 rfl rfl dX8_read_38 ?_
    refine g_get C (R := RX7) (T := TX7) (N := 11) (k := 0) (v := .ref (ad w 37)) kd_36 (by decide) rfl (in_36 hS) hinX7 (by decide) fl_X8_219 rfl rfl dX8_read_41 ?_
    refine g_callVV C (R := RX5) (T := TX5) (N := 4) [.ref (ad w 37)] (fun _ h => c_X5_become (kl x) N w (ok_12 hS) (ok_37 hS) h) (g_cwV C hR ml_X8_220 im_X5_become sl_X5_become ini_X5 cd_X5_become hd_X5_become (by decide)) kd_12 (by decide) rfl (in_12 hS) rfl _ rfl (Nat.le_of_ble_eq_true rfl) dX8_read_44 hf (fun s3 hf => ?_)
    refine g_aload_n C dX8_read_47 rfl 1 rfl ?_
    refine g_get C (R := RX8) (T := TX8) (N := 11) (k := 0) (v := .ref (ad w 1)) kd_0 (by decide) rfl (in_0 hS) hinX8 (by decide) fl_X8_10 rfl rfl dX8_read_48 ?_
    refine g_get C (R := RX0) (T := TX0) (N := 8) (k := 6) (v := .ref (ad w 14)) kd_1 (by decide) rfl (in_1 hS) hinX0 (by decide) fl_X8_224 rfl rfl dX8_read_51 ?_
    refine g_aload_n C dX8_read_54 rfl 1 rfl ?_
    refine g_get C (R := RX8) (T := TX8) (N := 11) (k := 5) (v := .ref (ad w 36)) kd_0 (by decide) rfl (in_0 hS) hinX8 (by decide) fl_X8_40 rfl rfl dX8_read_55 ?_
    refine g_get C (R := RX7) (T := TX7) (N := 11) (k := 1) (v := .ref (ad w 39)) kd_36 (by decide) rfl (in_36 hS) hinX7 (by decide) fl_X8_227 rfl rfl dX8_read_58 ?_
    refine g_callVV C (R := RX5) (T := TX5) (N := 4) [.ref (ad w 39)] (fun _ h => c_X5_become (kl x) N w (ok_14 hS) (ok_39 hS) h) (g_cwV C hR ml_X8_220 im_X5_become sl_X5_become ini_X5 cd_X5_become hd_X5_become (by decide)) kd_14 (by decide) rfl (in_14 hS) rfl _ rfl (Nat.le_of_ble_eq_true rfl) dX8_read_61 hf (fun s4 hf => ?_)
    refine g_aload_n C dX8_read_64 rfl 1 rfl ?_
    refine g_get C (R := RX8) (T := TX8) (N := 11) (k := 0) (v := .ref (ad w 1)) kd_0 (by decide) rfl (in_0 hS) hinX8 (by decide) fl_X8_10 rfl rfl dX8_read_65 ?_
    refine g_get C (R := RX0) (T := TX0) (N := 8) (k := 5) (v := .ref (ad w 12)) kd_1 (by decide) rfl (in_1 hS) hinX0 (by decide) fl_X8_216 rfl rfl dX8_read_68 ?_
    refine g_get C (R := RX5) (T := TX5) (N := 4) (k := 3) (v := .int (rI s4 12 3)) kd_12 (by decide) rfl (in_12 hS) hinX5 (by decide) fl_X8_228 rfl rfl dX8_read_71 ?_
    exact g_iret C dX8_read_74 hf
  · refine g_bipush C (v := (-100)) dX8_read_25 (by decide) ?_
    refine g_iload_n C dX8_read_27 rfl 0 rfl ?_
    refine g_isub C dX8_read_28 ?_
    exact g_iret C dX8_read_29 hf

set_option maxHeartbeats 4000000 in
set_option maxRecDepth 100000 in
theorem c_X8_takes (l : Launch) (N : Nat) (w : WX) (hS : SS w = Sc) (a1 : Int32) {s s' : Mem} {r : Int32} (hf : f_X8_takes N a1 s = some (r, s')) : CI l yX8_takes (wz yX8_takes cX8_takes 2 (some .int)) ({ frames := 6, cells := 0, slots := 0, locals := 144 } : Room) [.ref (ad w 0), .int a1] w s r s' := by
  refine met_startI (cc := cX8_takes) (ret := (some .int)) (own := RX8) (maxL := 2) (by decide) rfl (Nat.le_of_ble_eq_true rfl) (fun x C hR hl => ?_)
  refine g_lv (lv' := [(0, .ref (ad w 0)), (1, .int a1)]) rfl ?_
  unfold f_X8_takes at hf
  refine g_aload_n C dX8_takes_0 rfl 0 rfl ?_
  refine g_get C (R := RX8) (T := TX8) (N := 11) (k := 0) (v := .ref (ad w 1)) kd_0 (by decide) rfl (in_0 hS) hinX8 (by decide) fl_X8_10 rfl rfl dX8_takes_1 ?_
  refine g_get C (R := RX0) (T := TX0) (N := 8) (k := 0) (v := .ref (ad w 2)) kd_1 (by decide) rfl (in_1 hS) hinX0 (by decide) fl_X8_95 rfl rfl dX8_takes_4 ?_
  refine g_iload_n C dX8_takes_7 rfl 1 rfl ?_
  refine g_callVB C (R := RX5) (T := TX5) (N := 4) [.int a1] (fun _ _ h => c_X5_has (kl x) N w (ok_2 hS) _ h) (g_cwV C hR ml_X8_102 im_X5_has sl_X5_has ini_X5 cd_X5_has hd_X5_has (by decide)) kd_2 (by decide) rfl (in_2 hS) rfl _ rfl (Nat.le_of_ble_eq_true rfl) dX8_takes_8 hf (fun r1 s1 hf => ?_)
  refine g_ifneB (tgt := 16) C dX8_takes_11 (by decide) hf (fun hf => ?_) (fun hf => ?_)
  · refine g_aload_n C dX8_takes_16 rfl 0 rfl ?_
    refine g_get C (R := RX8) (T := TX8) (N := 11) (k := 4) (v := .ref (ad w 33)) kd_0 (by decide) rfl (in_0 hS) hinX8 (by decide) fl_X8_33 rfl rfl dX8_takes_17 ?_
    refine g_aload_n C dX8_takes_20 rfl 0 rfl ?_
    refine g_get C (R := RX8) (T := TX8) (N := 11) (k := 0) (v := .ref (ad w 1)) kd_0 (by decide) rfl (in_0 hS) hinX8 (by decide) fl_X8_10 rfl rfl dX8_takes_21 ?_
    refine g_aload_n C dX8_takes_24 rfl 0 rfl ?_
    refine g_get C (R := RX8) (T := TX8) (N := 11) (k := 3) (v := .ref (ad w 31)) kd_0 (by decide) rfl (in_0 hS) hinX8 (by decide) fl_X8_26 rfl rfl dX8_takes_25 ?_
    refine g_iload_n C dX8_takes_28 rfl 1 rfl ?_
    refine g_callVB C (R := RX1) (T := TX1) (N := 5) [.ref (ad w 1), .ref (ad w 31), .int a1] (fun _ _ h => c_X1_isTaken (kl x) N w hS _ h) (g_cwV C hR ml_X8_229 im_X1_isTaken sl_X1_isTaken ini_X1 cd_X1_isTaken hd_X1_isTaken (by decide)) kd_33 (by decide) rfl (in_33 hS) rfl _ rfl (Nat.le_of_ble_eq_true rfl) dX8_takes_29 hf (fun r2 s2 hf => ?_)
    refine g_ifeqB (tgt := 39) C dX8_takes_32 (by decide) hf (fun hf => ?_) (fun hf => ?_)
    · refine g_iconst C (v := 0) dX8_takes_39 rfl ?_
      exact g_iret C dX8_takes_40 hf
    · refine g_iconst C (v := 1) dX8_takes_35 rfl ?_
      refine g_goto (tgt := 40) C dX8_takes_36 (by decide) ?_
      exact g_iret C dX8_takes_40 hf
  · refine g_iconst C (v := (-1)) dX8_takes_14 rfl ?_
    exact g_iret C dX8_takes_15 hf

set_option maxHeartbeats 4000000 in
set_option maxRecDepth 100000 in
theorem c_X8_clause (l : Launch) (N : Nat) (w : WX) (hS : SS w = Sc) (a1 : Int32) {s s' : Mem} {r : Int32} (hf : f_X8_clause N a1 s = some (r, s')) : CI l yX8_clause (wz yX8_clause cX8_clause 2 (some .int)) ({ frames := 5, cells := 0, slots := 0, locals := 120 } : Room) [.ref (ad w 0), .int a1] w s r s' := by
  refine met_startI (cc := cX8_clause) (ret := (some .int)) (own := RX8) (maxL := 2) (by decide) rfl (Nat.le_of_ble_eq_true rfl) (fun x C hR hl => ?_)
  refine g_lv (lv' := [(0, .ref (ad w 0)), (1, .int a1)]) rfl ?_
  unfold f_X8_clause at hf
  refine g_aload_n C dX8_clause_0 rfl 0 rfl ?_
  refine g_get C (R := RX8) (T := TX8) (N := 11) (k := 0) (v := .ref (ad w 1)) kd_0 (by decide) rfl (in_0 hS) hinX8 (by decide) fl_X8_10 rfl rfl dX8_clause_1 ?_
  refine g_get C (R := RX0) (T := TX0) (N := 8) (k := 0) (v := .ref (ad w 2)) kd_1 (by decide) rfl (in_1 hS) hinX0 (by decide) fl_X8_95 rfl rfl dX8_clause_4 ?_
  refine g_iload_n C dX8_clause_7 rfl 1 rfl ?_
  refine g_callVB C (R := RX5) (T := TX5) (N := 4) [.int a1] (fun _ _ h => c_X5_has (kl x) N w (ok_2 hS) _ h) (g_cwV C hR ml_X8_102 im_X5_has sl_X5_has ini_X5 cd_X5_has hd_X5_has (by decide)) kd_2 (by decide) rfl (in_2 hS) rfl _ rfl (Nat.le_of_ble_eq_true rfl) dX8_clause_8 hf (fun r1 s1 hf => ?_)
  refine g_ifneB (tgt := 16) C dX8_clause_11 (by decide) hf (fun hf => ?_) (fun hf => ?_)
  · refine g_aload_n C dX8_clause_16 rfl 0 rfl ?_
    refine g_get C (R := RX8) (T := TX8) (N := 11) (k := 4) (v := .ref (ad w 33)) kd_0 (by decide) rfl (in_0 hS) hinX8 (by decide) fl_X8_33 rfl rfl dX8_clause_17 ?_
    refine g_aload_n C dX8_clause_20 rfl 0 rfl ?_
    refine g_get C (R := RX8) (T := TX8) (N := 11) (k := 0) (v := .ref (ad w 1)) kd_0 (by decide) rfl (in_0 hS) hinX8 (by decide) fl_X8_10 rfl rfl dX8_clause_21 ?_
    refine g_aload_n C dX8_clause_24 rfl 0 rfl ?_
    refine g_get C (R := RX8) (T := TX8) (N := 11) (k := 3) (v := .ref (ad w 31)) kd_0 (by decide) rfl (in_0 hS) hinX8 (by decide) fl_X8_26 rfl rfl dX8_clause_25 ?_
    refine g_iload_n C dX8_clause_28 rfl 1 rfl ?_
    refine g_callVI C (R := RX1) (T := TX1) (N := 5) [.ref (ad w 1), .ref (ad w 31), .int a1] (fun _ _ h => c_X1_clauseFor (kl x) N w hS _ h) (g_cwV C hR ml_X8_233 im_X1_clauseFor sl_X1_clauseFor ini_X1 cd_X1_clauseFor hd_X1_clauseFor (by decide)) kd_33 (by decide) rfl (in_33 hS) rfl _ rfl (Nat.le_of_ble_eq_true rfl) dX8_clause_29 hf (fun r2 s2 hf => ?_)
    exact g_iret C dX8_clause_32 hf
  · refine g_iconst C (v := (-1)) dX8_clause_14 rfl ?_
    exact g_iret C dX8_clause_15 hf

set_option maxHeartbeats 4000000 in
set_option maxRecDepth 100000 in
theorem c_X8_truth (l : Launch) (N : Nat) (w : WX) (hS : SS w = Sc) (a1 : Int32) (a2 : Int32) {s s' : Mem} {r : Int32} (hf : f_X8_truth N a1 a2 s = some (r, s')) : CI l yX8_truth (wz yX8_truth cX8_truth 3 (some .int)) ({ frames := 1, cells := 0, slots := 0, locals := 24 } : Room) [.ref (ad w 0), .int a1, .int a2] w s r s' := by
  refine met_startI (cc := cX8_truth) (ret := (some .int)) (own := RX8) (maxL := 3) (by decide) rfl (Nat.le_of_ble_eq_true rfl) (fun x C hR hl => ?_)
  refine g_lv (lv' := [(0, .ref (ad w 0)), (1, .int a1), (2, .int a2)]) rfl ?_
  unfold f_X8_truth at hf
  refine g_aload_n C dX8_truth_0 rfl 0 rfl ?_
  refine g_get C (R := RX8) (T := TX8) (N := 11) (k := 0) (v := .ref (ad w 1)) kd_0 (by decide) rfl (in_0 hS) hinX8 (by decide) fl_X8_10 rfl rfl dX8_truth_1 ?_
  refine g_get C (R := RX0) (T := TX0) (N := 8) (k := 0) (v := .ref (ad w 2)) kd_1 (by decide) rfl (in_1 hS) hinX0 (by decide) fl_X8_95 rfl rfl dX8_truth_4 ?_
  refine g_iload_n C dX8_truth_7 rfl 1 rfl ?_
  refine g_callVB C (R := RX5) (T := TX5) (N := 4) [.int a1] (fun _ _ h => c_X5_has (kl x) N w (ok_2 hS) _ h) (g_cwV C hR ml_X8_102 im_X5_has sl_X5_has ini_X5 cd_X5_has hd_X5_has (by decide)) kd_2 (by decide) rfl (in_2 hS) rfl _ rfl (Nat.le_of_ble_eq_true rfl) dX8_truth_8 hf (fun r1 s1 hf => ?_)
  refine g_ifeqB (tgt := 25) C dX8_truth_11 (by decide) hf (fun hf => ?_) (fun hf => ?_)
  · refine g_iconst C (v := (-1)) dX8_truth_25 rfl ?_
    exact g_iret C dX8_truth_26 hf
  · refine g_iload_n C dX8_truth_14 rfl 2 rfl ?_
    refine g_iconst C (v := (-1)) dX8_truth_15 rfl ?_
    refine g_sipush C (v := 160) dX8_truth_16 (by decide) ?_
    refine g_callSB C [.int a2, .int (-1), .int 160] (fun _ _ h => c_X8_isWithin (kl x) N w _ _ _ h) (g_cwS C hR ml_X8_91 sm_X8_isWithin ini_X8 cd_X8_isWithin hd_X8_isWithin (by decide)) rfl _ rfl (Nat.le_of_ble_eq_true rfl) dX8_truth_19 hf (fun r2 s2 hf => ?_)
    refine g_ifneB (tgt := 27) C dX8_truth_22 (by decide) hf (fun hf => ?_) (fun hf => ?_)
    · refine g_aload_n C dX8_truth_27 rfl 0 rfl ?_
      refine g_get C (R := RX8) (T := TX8) (N := 11) (k := 0) (v := .ref (ad w 1)) kd_0 (by decide) rfl (in_0 hS) hinX8 (by decide) fl_X8_10 rfl rfl dX8_truth_28 ?_
      refine g_get C (R := RX0) (T := TX0) (N := 8) (k := 0) (v := .ref (ad w 2)) kd_1 (by decide) rfl (in_1 hS) hinX0 (by decide) fl_X8_95 rfl rfl dX8_truth_31 ?_
      refine g_iload_n C dX8_truth_34 rfl 1 rfl ?_
      refine g_iconst C (v := 3) dX8_truth_35 rfl ?_
      refine g_iload_n C dX8_truth_36 rfl 2 rfl ?_
      refine g_callVV C (R := RX5) (T := TX5) (N := 4) [.int a1, .int 3, .int a2] (fun _ h => c_X5_set (kl x) N w (ok_2 hS) _ _ _ h) (g_cwV C hR ml_X8_83 im_X5_set sl_X5_set ini_X5 cd_X5_set hd_X5_set (by decide)) kd_2 (by decide) rfl (in_2 hS) rfl _ rfl (Nat.le_of_ble_eq_true rfl) dX8_truth_37 hf (fun s3 hf => ?_)
      refine g_iconst C (v := 1) dX8_truth_40 rfl ?_
      exact g_iret C dX8_truth_41 hf
    · refine g_iconst C (v := (-1)) dX8_truth_25 rfl ?_
      exact g_iret C dX8_truth_26 hf

set_option maxHeartbeats 4000000 in
set_option maxRecDepth 100000 in
theorem c_X8_errs (l : Launch) (N : Nat) (w : WX) (hS : SS w = Sc) (a1 : Int32) (a2 : Int32) {s s' : Mem} {r : Int32} (hf : f_X8_errs N a1 a2 s = some (r, s')) : CI l yX8_errs (wz yX8_errs cX8_errs 7 (some .int)) ({ frames := 6, cells := 0, slots := 0, locals := 144 } : Room) [.ref (ad w 0), .int a1, .int a2] w s r s' := by
  refine met_startI (cc := cX8_errs) (ret := (some .int)) (own := RX8) (maxL := 7) (by decide) rfl (Nat.le_of_ble_eq_true rfl) (fun x C hR hl => ?_)
  have j136 : ∀ (k23 : Int32 → Int32 → Int32 → Int32 → Mem → Option (Int32 × Mem)), (∀ (v1 : Int32) (v2 : Int32) (v3 : Int32) (v4 : Int32) (s : Mem), k23 v1 v2 v3 v4 s = some (r, s') → G x (QI x w r s') 7 w 23 [(0, .ref (ad w 0)), (1, .int v1), (2, .int v2), (3, .int v3), (4, .int v4)] [] s) → ∀ (v1 : Int32) (v2 : Int32) (v3 : Int32) (v4 : Int32) (s : Mem), f_X8_errs_j136 N k23 v1 v2 v3 v4 s = some (r, s') → G x (QI x w r s') 7 w 136 [(0, .ref (ad w 0)), (1, .int v1), (2, .int v2), (3, .int v3), (4, .int v4)] [] s := by
    intro k23 q23 v1 v2 v3 v4 s hf
    unfold f_X8_errs_j136 at hf
    refine g_iinc (v' := v4 + 1) (lv' := [(4, .int (v4 + 1)), (0, .ref (ad w 0)), (1, .int v1), (2, .int v2), (3, .int v3)]) C dX8_errs_136 4 rfl rfl (by decide) rfl ?_
    refine g_goto (tgt := 23) C dX8_errs_139 (by decide) ?_
    refine g_sub [1, 2, 3, 4, 0] rfl ?_
    exact q23 _ _ _ _ _ hf
  have j133 : ∀ (k23 : Int32 → Int32 → Int32 → Int32 → Mem → Option (Int32 × Mem)), (∀ (v1 : Int32) (v2 : Int32) (v3 : Int32) (v4 : Int32) (s : Mem), k23 v1 v2 v3 v4 s = some (r, s') → G x (QI x w r s') 7 w 23 [(0, .ref (ad w 0)), (1, .int v1), (2, .int v2), (3, .int v3), (4, .int v4)] [] s) → ∀ (v1 : Int32) (v2 : Int32) (v3 : Int32) (v4 : Int32) (s : Mem), f_X8_errs_j133 N k23 v1 v2 v3 v4 s = some (r, s') → G x (QI x w r s') 7 w 133 [(0, .ref (ad w 0)), (1, .int v1), (2, .int v2), (3, .int v3), (4, .int v4)] [] s := by
    intro k23 q23 v1 v2 v3 v4 s hf
    unfold f_X8_errs_j133 at hf
    refine g_iinc (v' := v3 + 1) (lv' := [(3, .int (v3 + 1)), (0, .ref (ad w 0)), (1, .int v1), (2, .int v2), (4, .int v4)]) C dX8_errs_133 3 rfl rfl (by decide) rfl ?_
    refine g_sub [1, 2, 3, 0, 4] rfl ?_
    exact j136 k23 q23 _ _ _ _ _ hf
  have j85 : ∀ (k23 : Int32 → Int32 → Int32 → Int32 → Mem → Option (Int32 × Mem)), (∀ (v1 : Int32) (v2 : Int32) (v3 : Int32) (v4 : Int32) (s : Mem), k23 v1 v2 v3 v4 s = some (r, s') → G x (QI x w r s') 7 w 23 [(0, .ref (ad w 0)), (1, .int v1), (2, .int v2), (3, .int v3), (4, .int v4)] [] s) → ∀ (v1 : Int32) (v2 : Int32) (v3 : Int32) (v4 : Int32) (p0 : Bool) (s : Mem), f_X8_errs_j85 N k23 v1 v2 v3 v4 p0 s = some (r, s') → G x (QI x w r s') 7 w 85 [(0, .ref (ad w 0)), (1, .int v1), (2, .int v2), (3, .int v3), (4, .int v4)] [.int (bI p0)] s := by
    intro k23 q23 v1 v2 v3 v4 p0 s hf
    unfold f_X8_errs_j85 at hf
    refine g_istore (lv' := [(5, .int (bI p0)), (0, .ref (ad w 0)), (1, .int v1), (2, .int v2), (3, .int v3), (4, .int v4)]) C dX8_errs_85 (by decide) rfl ?_
    refine g_aload_n C dX8_errs_87 rfl 1 rfl ?_
    refine g_get C (R := RX8) (T := TX8) (N := 11) (k := 4) (v := .ref (ad w 33)) kd_0 (by decide) rfl (in_0 hS) hinX8 (by decide) fl_X8_33 rfl rfl dX8_errs_88 ?_
    refine g_aload_n C dX8_errs_91 rfl 1 rfl ?_
    refine g_get C (R := RX8) (T := TX8) (N := 11) (k := 0) (v := .ref (ad w 1)) kd_0 (by decide) rfl (in_0 hS) hinX8 (by decide) fl_X8_10 rfl rfl dX8_errs_92 ?_
    refine g_aload_n C dX8_errs_95 rfl 1 rfl ?_
    refine g_get C (R := RX8) (T := TX8) (N := 11) (k := 3) (v := .ref (ad w 31)) kd_0 (by decide) rfl (in_0 hS) hinX8 (by decide) fl_X8_26 rfl rfl dX8_errs_96 ?_
    refine g_iload C dX8_errs_99 5 rfl ?_
    refine g_callVB C (R := RX1) (T := TX1) (N := 5) [.ref (ad w 1), .ref (ad w 31), .int v4] (fun _ _ h => c_X1_isTaken (kl x) N w hS _ h) (g_cwV C hR ml_X8_229 im_X1_isTaken sl_X1_isTaken ini_X1 cd_X1_isTaken hd_X1_isTaken (by decide)) kd_33 (by decide) rfl (in_33 hS) rfl _ rfl (Nat.le_of_ble_eq_true rfl) dX8_errs_101 hf (fun r1 s1 hf => ?_)
    refine g_istore (lv' := [(6, .int (bI r1)), (5, .int (bI p0)), (0, .ref (ad w 0)), (1, .int v1), (2, .int v2), (3, .int v3), (4, .int v4)]) C dX8_errs_104 (by decide) rfl ?_
    refine g_iload_n C dX8_errs_106 rfl 4 rfl ?_
    refine g_if_ne (tgt := 123) C dX8_errs_107 (by decide) hf (fun hf => ?_) (fun hf => ?_)
    · refine g_iload C dX8_errs_123 0 rfl ?_
      refine g_ifneB (tgt := 136) C dX8_errs_125 (by decide) hf (fun hf => ?_) (fun hf => ?_)
      · refine g_sub [2, 3, 4, 5, 6] rfl ?_
        exact j136 k23 q23 _ _ _ _ _ hf
      · refine g_iload C dX8_errs_128 1 rfl ?_
        refine g_ifneB (tgt := 136) C dX8_errs_130 (by decide) hf (fun hf => ?_) (fun hf => ?_)
        · refine g_sub [2, 3, 4, 5, 6] rfl ?_
          exact j136 k23 q23 _ _ _ _ _ hf
        · refine g_sub [2, 3, 4, 5, 6] rfl ?_
          exact j133 k23 q23 _ _ _ _ _ hf
    · refine g_iload C dX8_errs_110 0 rfl ?_
      refine g_ifeqB (tgt := 136) C dX8_errs_112 (by decide) hf (fun hf => ?_) (fun hf => ?_)
      · refine g_sub [2, 3, 4, 5, 6] rfl ?_
        exact j136 k23 q23 _ _ _ _ _ hf
      · refine g_iload C dX8_errs_115 1 rfl ?_
        refine g_ifeqB (tgt := 136) C dX8_errs_117 (by decide) hf (fun hf => ?_) (fun hf => ?_)
        · refine g_sub [2, 3, 4, 5, 6] rfl ?_
          exact j136 k23 q23 _ _ _ _ _ hf
        · refine g_goto (tgt := 133) C dX8_errs_120 (by decide) ?_
          refine g_sub [2, 3, 4, 5, 6] rfl ?_
          exact j133 k23 q23 _ _ _ _ _ hf
  have j23 : ∀ (n : Nat), ∀ (v1 : Int32) (v2 : Int32) (v3 : Int32) (v4 : Int32) (s : Mem), f_X8_errs_L23 N n v1 v2 v3 v4 s = some (r, s') → G x (QI x w r s') 7 w 23 [(0, .ref (ad w 0)), (1, .int v1), (2, .int v2), (3, .int v3), (4, .int v4)] [] s := by
    intro n
    induction n with
    | zero => intro v1 v2 v3 v4 s hf; cases hf
    | succ n ih =>
      intro v1 v2 v3 v4 s hf
      unfold f_X8_errs_L23 at hf
      refine g_iload C dX8_errs_23 4 rfl ?_
      refine g_aload_n C dX8_errs_25 rfl 0 rfl ?_
      refine g_get C (R := RX8) (T := TX8) (N := 11) (k := 0) (v := .ref (ad w 1)) kd_0 (by decide) rfl (in_0 hS) hinX8 (by decide) fl_X8_10 rfl rfl dX8_errs_26 ?_
      refine g_get C (R := RX0) (T := TX0) (N := 8) (k := 0) (v := .ref (ad w 2)) kd_1 (by decide) rfl (in_1 hS) hinX0 (by decide) fl_X8_95 rfl rfl dX8_errs_29 ?_
      refine g_get C (R := RX5) (T := TX5) (N := 4) (k := 3) (v := .int (rI s 2 3)) kd_2 (by decide) rfl (in_2 hS) hinX5 (by decide) fl_X8_228 rfl rfl dX8_errs_32 ?_
      refine g_icmp_ge (tgt := 142) C dX8_errs_35 (by decide) hf (fun hf => ?_) (fun hf => ?_)
      · refine g_iload_n C dX8_errs_142 rfl 3 rfl ?_
        exact g_iret C dX8_errs_143 hf
      · refine g_aload_n C dX8_errs_38 rfl 0 rfl ?_
        refine g_get C (R := RX8) (T := TX8) (N := 11) (k := 0) (v := .ref (ad w 1)) kd_0 (by decide) rfl (in_0 hS) hinX8 (by decide) fl_X8_10 rfl rfl dX8_errs_39 ?_
        refine g_iload C dX8_errs_42 4 rfl ?_
        refine g_callVB C (R := RX0) (T := TX0) (N := 8) [.int v4] (fun _ _ h => c_X0_isTruthTold (kl x) N w hS _ h) (g_cwV C hR ml_X8_116 im_X0_isTruthTold sl_X0_isTruthTold ini_X0 cd_X0_isTruthTold hd_X0_isTruthTold (by decide)) kd_1 (by decide) rfl (in_1 hS) rfl _ rfl (Nat.le_of_ble_eq_true rfl) dX8_errs_44 hf (fun r1 s1 hf => ?_)
        refine g_ifneB (tgt := 53) C dX8_errs_47 (by decide) hf (fun hf => ?_) (fun hf => ?_)
        · refine g_aload_n C dX8_errs_53 rfl 0 rfl ?_
          refine g_get C (R := RX8) (T := TX8) (N := 11) (k := 0) (v := .ref (ad w 1)) kd_0 (by decide) rfl (in_0 hS) hinX8 (by decide) fl_X8_10 rfl rfl dX8_errs_54 ?_
          refine g_iload C dX8_errs_57 4 rfl ?_
          refine g_callVI C (R := RX0) (T := TX0) (N := 8) [.int v4] (fun _ _ h => c_X0_seen (kl x) N w hS _ h) (g_cwV C hR ml_X8_109 im_X0_seen sl_X0_seen ini_X0 cd_X0_seen hd_X0_seen (by decide)) kd_1 (by decide) rfl (in_1 hS) rfl _ rfl (Nat.le_of_ble_eq_true rfl) dX8_errs_59 hf (fun r2 s2 hf => ?_)
          refine g_aload_n C dX8_errs_62 rfl 0 rfl ?_
          refine g_get C (R := RX8) (T := TX8) (N := 11) (k := 0) (v := .ref (ad w 1)) kd_0 (by decide) rfl (in_0 hS) hinX8 (by decide) fl_X8_10 rfl rfl dX8_errs_63 ?_
          refine g_get C (R := RX0) (T := TX0) (N := 8) (k := 0) (v := .ref (ad w 2)) kd_1 (by decide) rfl (in_1 hS) hinX0 (by decide) fl_X8_95 rfl rfl dX8_errs_66 ?_
          refine g_iload C dX8_errs_69 4 rfl ?_
          refine g_iconst C (v := 3) dX8_errs_71 rfl ?_
          refine g_callVI C (R := RX5) (T := TX5) (N := 4) [.int v4, .int 3] (fun _ _ h => c_X5_get (kl x) N w (ok_2 hS) _ _ h) (g_cwV C hR ml_X8_105 im_X5_get sl_X5_get ini_X5 cd_X5_get hd_X5_get (by decide)) kd_2 (by decide) rfl (in_2 hS) rfl _ rfl (Nat.le_of_ble_eq_true rfl) dX8_errs_72 hf (fun r3 s3 hf => ?_)
          refine g_isub C dX8_errs_75 ?_
          refine g_iload_n C dX8_errs_76 rfl 1 rfl ?_
          refine g_icmp_ge (tgt := 84) C dX8_errs_77 (by decide) hf (fun hf => ?_) (fun hf => ?_)
          · refine g_iconst C (v := 0) dX8_errs_84 rfl ?_
            exact j85 (f_X8_errs_L23 N n) ih _ _ _ _ _ _ hf
          · refine g_iconst C (v := 1) dX8_errs_80 rfl ?_
            refine g_goto (tgt := 85) C dX8_errs_81 (by decide) ?_
            exact j85 (f_X8_errs_L23 N n) ih _ _ _ _ _ _ hf
        · refine g_goto (tgt := 136) C dX8_errs_50 (by decide) ?_
          exact j136 (f_X8_errs_L23 N n) ih _ _ _ _ _ hf
  refine g_lv (lv' := [(0, .ref (ad w 0)), (1, .int a1), (2, .int a2)]) rfl ?_
  unfold f_X8_errs at hf
  refine g_iload_n C dX8_errs_0 rfl 1 rfl ?_
  refine g_callSB C [.int a1] (fun _ _ h => c_X8_isYear (kl x) N w _ h) (g_cwS C hR ml_X8_119 sm_X8_isYear ini_X8 cd_X8_isYear hd_X8_isYear (by decide)) rfl _ rfl (Nat.le_of_ble_eq_true rfl) dX8_errs_1 hf (fun r1 s1 hf => ?_)
  refine g_ifeqB (tgt := 16) C dX8_errs_4 (by decide) hf (fun hf => ?_) (fun hf => ?_)
  · refine g_iconst C (v := (-1)) dX8_errs_16 rfl ?_
    exact g_iret C dX8_errs_17 hf
  · refine g_iload_n C dX8_errs_7 rfl 2 rfl ?_
    refine g_iconst C (v := 0) dX8_errs_8 rfl ?_
    refine g_iconst C (v := 1) dX8_errs_9 rfl ?_
    refine g_callSB C [.int a2, .int 0, .int 1] (fun _ _ h => c_X8_isWithin (kl x) N w _ _ _ h) (g_cwS C hR ml_X8_91 sm_X8_isWithin ini_X8 cd_X8_isWithin hd_X8_isWithin (by decide)) rfl _ rfl (Nat.le_of_ble_eq_true rfl) dX8_errs_10 hf (fun r2 s2 hf => ?_)
    refine g_ifneB (tgt := 18) C dX8_errs_13 (by decide) hf (fun hf => ?_) (fun hf => ?_)
    · refine g_iconst C (v := 0) dX8_errs_18 rfl ?_
      refine g_istore_n (lv' := [(3, .int 0), (0, .ref (ad w 0)), (1, .int a1), (2, .int a2)]) C dX8_errs_19 rfl (by decide) rfl ?_
      refine g_iconst C (v := 0) dX8_errs_20 rfl ?_
      refine g_istore (lv' := [(4, .int 0), (3, .int 0), (0, .ref (ad w 0)), (1, .int a1), (2, .int a2)]) C dX8_errs_21 (by decide) rfl ?_
      refine g_sub [2, 3, 4, 1, 0] rfl ?_
      exact j23 N _ _ _ _ _ hf
    · refine g_iconst C (v := (-1)) dX8_errs_16 rfl ?_
      exact g_iret C dX8_errs_17 hf

set_option maxHeartbeats 4000000 in
set_option maxRecDepth 100000 in
theorem c_X8_draw (l : Launch) (N : Nat) (w : WX) (hS : SS w = Sc) (a1 : Int32) (a2 : Int32) (a3 : Int32) (a4 : Int32) {s s' : Mem} {r : Int32} (hf : f_X8_draw N a1 a2 a3 a4 s = some (r, s')) : CI l yX8_draw (wz yX8_draw cX8_draw 6 (some .int)) ({ frames := 2, cells := 0, slots := 0, locals := 42 } : Room) [.ref (ad w 0), .int a1, .int a2, .int a3, .int a4] w s r s' := by
  refine met_startI (cc := cX8_draw) (ret := (some .int)) (own := RX8) (maxL := 6) (by decide) rfl (Nat.le_of_ble_eq_true rfl) (fun x C hR hl => ?_)
  refine g_lv (lv' := [(0, .ref (ad w 0)), (1, .int a1), (2, .int a2), (3, .int a3), (4, .int a4)]) rfl ?_
  unfold f_X8_draw at hf
  refine g_aload_n C dX8_draw_0 rfl 0 rfl ?_
  refine g_get C (R := RX8) (T := TX8) (N := 11) (k := 0) (v := .ref (ad w 1)) kd_0 (by decide) rfl (in_0 hS) hinX8 (by decide) fl_X8_10 rfl rfl dX8_draw_1 ?_
  refine g_get C (R := RX0) (T := TX0) (N := 8) (k := 0) (v := .ref (ad w 2)) kd_1 (by decide) rfl (in_1 hS) hinX0 (by decide) fl_X8_95 rfl rfl dX8_draw_4 ?_
  refine g_iload_n C dX8_draw_7 rfl 1 rfl ?_
  refine g_callVB C (R := RX5) (T := TX5) (N := 4) [.int a1] (fun _ _ h => c_X5_has (kl x) N w (ok_2 hS) _ h) (g_cwV C hR ml_X8_102 im_X5_has sl_X5_has ini_X5 cd_X5_has hd_X5_has (by decide)) kd_2 (by decide) rfl (in_2 hS) rfl _ rfl (Nat.le_of_ble_eq_true rfl) dX8_draw_8 hf (fun r1 s1 hf => ?_)
  refine g_ifeqB (tgt := 33) C dX8_draw_11 (by decide) hf (fun hf => ?_) (fun hf => ?_)
  · refine g_iconst C (v := (-1)) dX8_draw_33 rfl ?_
    exact g_iret C dX8_draw_34 hf
  · refine g_iload_n C dX8_draw_14 rfl 2 rfl ?_
    refine g_callSB C [.int a2] (fun _ _ h => c_X8_isYear (kl x) N w _ h) (g_cwS C hR ml_X8_119 sm_X8_isYear ini_X8 cd_X8_isYear hd_X8_isYear (by decide)) rfl _ rfl (Nat.le_of_ble_eq_true rfl) dX8_draw_15 hf (fun r2 s2 hf => ?_)
    refine g_ifeqB (tgt := 33) C dX8_draw_18 (by decide) hf (fun hf => ?_) (fun hf => ?_)
    · refine g_iconst C (v := (-1)) dX8_draw_33 rfl ?_
      exact g_iret C dX8_draw_34 hf
    · refine g_iload_n C dX8_draw_21 rfl 3 rfl ?_
      refine g_callSB C [.int a3] (fun _ _ h => c_X8_isYear (kl x) N w _ h) (g_cwS C hR ml_X8_119 sm_X8_isYear ini_X8 cd_X8_isYear hd_X8_isYear (by decide)) rfl _ rfl (Nat.le_of_ble_eq_true rfl) dX8_draw_22 hf (fun r3 s3 hf => ?_)
      refine g_ifeqB (tgt := 33) C dX8_draw_25 (by decide) hf (fun hf => ?_) (fun hf => ?_)
      · refine g_iconst C (v := (-1)) dX8_draw_33 rfl ?_
        exact g_iret C dX8_draw_34 hf
      · refine g_iload_n C dX8_draw_28 rfl 2 rfl ?_
        refine g_iload_n C dX8_draw_29 rfl 3 rfl ?_
        refine g_icmp_le (tgt := 35) C dX8_draw_30 (by decide) hf (fun hf => ?_) (fun hf => ?_)
        · refine g_iload C dX8_draw_35 4 rfl ?_
          refine g_iconst C (v := 1) dX8_draw_37 rfl ?_
          refine g_bipush C (v := 99) dX8_draw_38 (by decide) ?_
          refine g_callSB C [.int a4, .int 1, .int 99] (fun _ _ h => c_X8_isWithin (kl x) N w _ _ _ h) (g_cwS C hR ml_X8_91 sm_X8_isWithin ini_X8 cd_X8_isWithin hd_X8_isWithin (by decide)) rfl _ rfl (Nat.le_of_ble_eq_true rfl) dX8_draw_40 hf (fun r4 s4 hf => ?_)
          refine g_ifneB (tgt := 48) C dX8_draw_43 (by decide) hf (fun hf => ?_) (fun hf => ?_)
          · refine g_aload_n C dX8_draw_48 rfl 0 rfl ?_
            refine g_get C (R := RX8) (T := TX8) (N := 11) (k := 0) (v := .ref (ad w 1)) kd_0 (by decide) rfl (in_0 hS) hinX8 (by decide) fl_X8_10 rfl rfl dX8_draw_49 ?_
            refine g_get C (R := RX0) (T := TX0) (N := 8) (k := 3) (v := .ref (ad w 8)) kd_1 (by decide) rfl (in_1 hS) hinX0 (by decide) fl_X8_237 rfl rfl dX8_draw_52 ?_
            refine g_callVB C (R := RX5) (T := TX5) (N := 4) [] (fun _ _ h => c_X5_isFull (kl x) N w (ok_8 hS) h) (g_cwV C hR ml_X8_98 im_X5_isFull sl_X5_isFull ini_X5 cd_X5_isFull hd_X5_isFull (by decide)) kd_8 (by decide) rfl (in_8 hS) rfl _ rfl (Nat.le_of_ble_eq_true rfl) dX8_draw_55 hf (fun r5 s5 hf => ?_)
            refine g_ifeqB (tgt := 64) C dX8_draw_58 (by decide) hf (fun hf => ?_) (fun hf => ?_)
            · refine g_aload_n C dX8_draw_64 rfl 0 rfl ?_
              refine g_get C (R := RX8) (T := TX8) (N := 11) (k := 0) (v := .ref (ad w 1)) kd_0 (by decide) rfl (in_0 hS) hinX8 (by decide) fl_X8_10 rfl rfl dX8_draw_65 ?_
              refine g_get C (R := RX0) (T := TX0) (N := 8) (k := 3) (v := .ref (ad w 8)) kd_1 (by decide) rfl (in_1 hS) hinX0 (by decide) fl_X8_237 rfl rfl dX8_draw_68 ?_
              refine g_callVI C (R := RX5) (T := TX5) (N := 4) [] (fun _ _ h => c_X5_add (kl x) N w (ok_8 hS) h) (g_cwV C hR ml_X8_79 im_X5_add sl_X5_add ini_X5 cd_X5_add hd_X5_add (by decide)) kd_8 (by decide) rfl (in_8 hS) rfl _ rfl (Nat.le_of_ble_eq_true rfl) dX8_draw_71 hf (fun r6 s6 hf => ?_)
              refine g_istore (lv' := [(5, .int r6), (0, .ref (ad w 0)), (1, .int a1), (2, .int a2), (3, .int a3), (4, .int a4)]) C dX8_draw_74 (by decide) rfl ?_
              refine g_aload_n C dX8_draw_76 rfl 1 rfl ?_
              refine g_get C (R := RX8) (T := TX8) (N := 11) (k := 0) (v := .ref (ad w 1)) kd_0 (by decide) rfl (in_0 hS) hinX8 (by decide) fl_X8_10 rfl rfl dX8_draw_77 ?_
              refine g_get C (R := RX0) (T := TX0) (N := 8) (k := 3) (v := .ref (ad w 8)) kd_1 (by decide) rfl (in_1 hS) hinX0 (by decide) fl_X8_237 rfl rfl dX8_draw_80 ?_
              refine g_iload C dX8_draw_83 0 rfl ?_
              refine g_iconst C (v := 0) dX8_draw_85 rfl ?_
              refine g_iload_n C dX8_draw_86 rfl 2 rfl ?_
              refine g_callVV C (R := RX5) (T := TX5) (N := 4) [.int r6, .int 0, .int a1] (fun _ h => c_X5_set (kl x) N w (ok_8 hS) _ _ _ h) (g_cwV C hR ml_X8_83 im_X5_set sl_X5_set ini_X5 cd_X5_set hd_X5_set (by decide)) kd_8 (by decide) rfl (in_8 hS) rfl _ rfl (Nat.le_of_ble_eq_true rfl) dX8_draw_87 hf (fun s7 hf => ?_)
              refine g_aload_n C dX8_draw_90 rfl 1 rfl ?_
              refine g_get C (R := RX8) (T := TX8) (N := 11) (k := 0) (v := .ref (ad w 1)) kd_0 (by decide) rfl (in_0 hS) hinX8 (by decide) fl_X8_10 rfl rfl dX8_draw_91 ?_
              refine g_get C (R := RX0) (T := TX0) (N := 8) (k := 3) (v := .ref (ad w 8)) kd_1 (by decide) rfl (in_1 hS) hinX0 (by decide) fl_X8_237 rfl rfl dX8_draw_94 ?_
              refine g_iload C dX8_draw_97 0 rfl ?_
              refine g_iconst C (v := 1) dX8_draw_99 rfl ?_
              refine g_iload_n C dX8_draw_100 rfl 3 rfl ?_
              refine g_callVV C (R := RX5) (T := TX5) (N := 4) [.int r6, .int 1, .int a2] (fun _ h => c_X5_set (kl x) N w (ok_8 hS) _ _ _ h) (g_cwV C hR ml_X8_83 im_X5_set sl_X5_set ini_X5 cd_X5_set hd_X5_set (by decide)) kd_8 (by decide) rfl (in_8 hS) rfl _ rfl (Nat.le_of_ble_eq_true rfl) dX8_draw_101 hf (fun s8 hf => ?_)
              refine g_aload_n C dX8_draw_104 rfl 1 rfl ?_
              refine g_get C (R := RX8) (T := TX8) (N := 11) (k := 0) (v := .ref (ad w 1)) kd_0 (by decide) rfl (in_0 hS) hinX8 (by decide) fl_X8_10 rfl rfl dX8_draw_105 ?_
              refine g_get C (R := RX0) (T := TX0) (N := 8) (k := 3) (v := .ref (ad w 8)) kd_1 (by decide) rfl (in_1 hS) hinX0 (by decide) fl_X8_237 rfl rfl dX8_draw_108 ?_
              refine g_iload C dX8_draw_111 0 rfl ?_
              refine g_iconst C (v := 2) dX8_draw_113 rfl ?_
              refine g_iload_n C dX8_draw_114 rfl 4 rfl ?_
              refine g_callVV C (R := RX5) (T := TX5) (N := 4) [.int r6, .int 2, .int a3] (fun _ h => c_X5_set (kl x) N w (ok_8 hS) _ _ _ h) (g_cwV C hR ml_X8_83 im_X5_set sl_X5_set ini_X5 cd_X5_set hd_X5_set (by decide)) kd_8 (by decide) rfl (in_8 hS) rfl _ rfl (Nat.le_of_ble_eq_true rfl) dX8_draw_115 hf (fun s9 hf => ?_)
              refine g_aload_n C dX8_draw_118 rfl 1 rfl ?_
              refine g_get C (R := RX8) (T := TX8) (N := 11) (k := 0) (v := .ref (ad w 1)) kd_0 (by decide) rfl (in_0 hS) hinX8 (by decide) fl_X8_10 rfl rfl dX8_draw_119 ?_
              refine g_get C (R := RX0) (T := TX0) (N := 8) (k := 3) (v := .ref (ad w 8)) kd_1 (by decide) rfl (in_1 hS) hinX0 (by decide) fl_X8_237 rfl rfl dX8_draw_122 ?_
              refine g_iload C dX8_draw_125 0 rfl ?_
              refine g_iconst C (v := 3) dX8_draw_127 rfl ?_
              refine g_iload C dX8_draw_128 5 rfl ?_
              refine g_callVV C (R := RX5) (T := TX5) (N := 4) [.int r6, .int 3, .int a4] (fun _ h => c_X5_set (kl x) N w (ok_8 hS) _ _ _ h) (g_cwV C hR ml_X8_83 im_X5_set sl_X5_set ini_X5 cd_X5_set hd_X5_set (by decide)) kd_8 (by decide) rfl (in_8 hS) rfl _ rfl (Nat.le_of_ble_eq_true rfl) dX8_draw_130 hf (fun s10 hf => ?_)
              refine g_iload C dX8_draw_133 0 rfl ?_
              exact g_iret C dX8_draw_135 hf
            · refine g_bipush C (v := (-2)) dX8_draw_61 (by decide) ?_
              exact g_iret C dX8_draw_63 hf
          · refine g_iconst C (v := (-1)) dX8_draw_46 rfl ?_
            exact g_iret C dX8_draw_47 hf
        · refine g_iconst C (v := (-1)) dX8_draw_33 rfl ?_
          exact g_iret C dX8_draw_34 hf

set_option maxHeartbeats 4000000 in
set_option maxRecDepth 100000 in
theorem c_X8_behind (l : Launch) (N : Nat) (w : WX) (hS : SS w = Sc) (a1 : Int32) {s s' : Mem} {r : Int32} (hf : f_X8_behind N a1 s = some (r, s')) : CI l yX8_behind (wz yX8_behind cX8_behind 2 (some .int)) ({ frames := 4, cells := 0, slots := 0, locals := 94 } : Room) [.ref (ad w 0), .int a1] w s r s' := by
  refine met_startI (cc := cX8_behind) (ret := (some .int)) (own := RX8) (maxL := 2) (by decide) rfl (Nat.le_of_ble_eq_true rfl) (fun x C hR hl => ?_)
  refine g_lv (lv' := [(0, .ref (ad w 0)), (1, .int a1)]) rfl ?_
  unfold f_X8_behind at hf
  refine g_aload_n C dX8_behind_0 rfl 0 rfl ?_
  refine g_get C (R := RX8) (T := TX8) (N := 11) (k := 0) (v := .ref (ad w 1)) kd_0 (by decide) rfl (in_0 hS) hinX8 (by decide) fl_X8_10 rfl rfl dX8_behind_1 ?_
  refine g_get C (R := RX0) (T := TX0) (N := 8) (k := 0) (v := .ref (ad w 2)) kd_1 (by decide) rfl (in_1 hS) hinX0 (by decide) fl_X8_95 rfl rfl dX8_behind_4 ?_
  refine g_iload_n C dX8_behind_7 rfl 1 rfl ?_
  refine g_callVB C (R := RX5) (T := TX5) (N := 4) [.int a1] (fun _ _ h => c_X5_has (kl x) N w (ok_2 hS) _ h) (g_cwV C hR ml_X8_102 im_X5_has sl_X5_has ini_X5 cd_X5_has hd_X5_has (by decide)) kd_2 (by decide) rfl (in_2 hS) rfl _ rfl (Nat.le_of_ble_eq_true rfl) dX8_behind_8 hf (fun r1 s1 hf => ?_)
  refine g_ifneB (tgt := 16) C dX8_behind_11 (by decide) hf (fun hf => ?_) (fun hf => ?_)
  · refine g_aload_n C dX8_behind_16 rfl 0 rfl ?_
    refine g_get C (R := RX8) (T := TX8) (N := 11) (k := 0) (v := .ref (ad w 1)) kd_0 (by decide) rfl (in_0 hS) hinX8 (by decide) fl_X8_10 rfl rfl dX8_behind_17 ?_
    refine g_iload_n C dX8_behind_20 rfl 1 rfl ?_
    refine g_callVI C (R := RX0) (T := TX0) (N := 8) [.int a1] (fun _ _ h => c_X0_paidBehindSeen (kl x) N w hS _ h) (g_cwV C hR ml_X8_240 im_X0_paidBehindSeen sl_X0_paidBehindSeen ini_X0 cd_X0_paidBehindSeen hd_X0_paidBehindSeen (by decide)) kd_1 (by decide) rfl (in_1 hS) rfl _ rfl (Nat.le_of_ble_eq_true rfl) dX8_behind_21 hf (fun r2 s2 hf => ?_)
    exact g_iret C dX8_behind_24 hf
  · refine g_iconst C (v := (-1)) dX8_behind_14 rfl ?_
    exact g_iret C dX8_behind_15 hf

set_option maxHeartbeats 4000000 in
set_option maxRecDepth 100000 in
theorem c_X8_suspectsAheadOf (l : Launch) (N : Nat) (w : WX) (hS : SS w = Sc) (a1 : Int32) {s s' : Mem} {r : Int32} (hf : f_X8_suspectsAheadOf N a1 s = some (r, s')) : CI l yX8_suspectsAheadOf (wz yX8_suspectsAheadOf cX8_suspectsAheadOf 6 (some .int)) ({ frames := 4, cells := 0, slots := 0, locals := 94 } : Room) [.ref (ad w 0), .int a1] w s r s' := by
  refine met_startI (cc := cX8_suspectsAheadOf) (ret := (some .int)) (own := RX8) (maxL := 6) (by decide) rfl (Nat.le_of_ble_eq_true rfl) (fun x C hR hl => ?_)
  have j61 : ∀ (k14 : Int32 → Int32 → Int32 → Int32 → Mem → Option (Int32 × Mem)), (∀ (v1 : Int32) (v2 : Int32) (v3 : Int32) (v4 : Int32) (s : Mem), k14 v1 v2 v3 v4 s = some (r, s') → G x (QI x w r s') 6 w 14 [(0, .ref (ad w 0)), (1, .int v1), (2, .int v2), (3, .int v3), (4, .int v4)] [] s) → ∀ (v1 : Int32) (v2 : Int32) (v3 : Int32) (v4 : Int32) (s : Mem), f_X8_suspectsAheadOf_j61 N k14 v1 v2 v3 v4 s = some (r, s') → G x (QI x w r s') 6 w 61 [(0, .ref (ad w 0)), (1, .int v1), (2, .int v2), (3, .int v3), (4, .int v4)] [] s := by
    intro k14 q14 v1 v2 v3 v4 s hf
    unfold f_X8_suspectsAheadOf_j61 at hf
    refine g_iinc (v' := v4 + 1) (lv' := [(4, .int (v4 + 1)), (0, .ref (ad w 0)), (1, .int v1), (2, .int v2), (3, .int v3)]) C dX8_suspectsAheadOf_61 4 rfl rfl (by decide) rfl ?_
    refine g_goto (tgt := 14) C dX8_suspectsAheadOf_64 (by decide) ?_
    refine g_sub [1, 2, 3, 4, 0] rfl ?_
    exact q14 _ _ _ _ _ hf
  have j58 : ∀ (k14 : Int32 → Int32 → Int32 → Int32 → Mem → Option (Int32 × Mem)), (∀ (v1 : Int32) (v2 : Int32) (v3 : Int32) (v4 : Int32) (s : Mem), k14 v1 v2 v3 v4 s = some (r, s') → G x (QI x w r s') 6 w 14 [(0, .ref (ad w 0)), (1, .int v1), (2, .int v2), (3, .int v3), (4, .int v4)] [] s) → ∀ (v1 : Int32) (v2 : Int32) (v3 : Int32) (v4 : Int32) (s : Mem), f_X8_suspectsAheadOf_j58 N k14 v1 v2 v3 v4 s = some (r, s') → G x (QI x w r s') 6 w 58 [(0, .ref (ad w 0)), (1, .int v1), (2, .int v2), (3, .int v3), (4, .int v4)] [] s := by
    intro k14 q14 v1 v2 v3 v4 s hf
    unfold f_X8_suspectsAheadOf_j58 at hf
    refine g_iinc (v' := v3 + 1) (lv' := [(3, .int (v3 + 1)), (0, .ref (ad w 0)), (1, .int v1), (2, .int v2), (4, .int v4)]) C dX8_suspectsAheadOf_58 3 rfl rfl (by decide) rfl ?_
    refine g_sub [1, 2, 3, 0, 4] rfl ?_
    exact j61 k14 q14 _ _ _ _ _ hf
  have j14 : ∀ (n : Nat), ∀ (v1 : Int32) (v2 : Int32) (v3 : Int32) (v4 : Int32) (s : Mem), f_X8_suspectsAheadOf_L14 N n v1 v2 v3 v4 s = some (r, s') → G x (QI x w r s') 6 w 14 [(0, .ref (ad w 0)), (1, .int v1), (2, .int v2), (3, .int v3), (4, .int v4)] [] s := by
    intro n
    induction n with
    | zero => intro v1 v2 v3 v4 s hf; cases hf
    | succ n ih =>
      intro v1 v2 v3 v4 s hf
      unfold f_X8_suspectsAheadOf_L14 at hf
      refine g_iload C dX8_suspectsAheadOf_14 4 rfl ?_
      refine g_aload_n C dX8_suspectsAheadOf_16 rfl 0 rfl ?_
      refine g_get C (R := RX8) (T := TX8) (N := 11) (k := 0) (v := .ref (ad w 1)) kd_0 (by decide) rfl (in_0 hS) hinX8 (by decide) fl_X8_10 rfl rfl dX8_suspectsAheadOf_17 ?_
      refine g_get C (R := RX0) (T := TX0) (N := 8) (k := 0) (v := .ref (ad w 2)) kd_1 (by decide) rfl (in_1 hS) hinX0 (by decide) fl_X8_95 rfl rfl dX8_suspectsAheadOf_20 ?_
      refine g_get C (R := RX5) (T := TX5) (N := 4) (k := 3) (v := .int (rI s 2 3)) kd_2 (by decide) rfl (in_2 hS) hinX5 (by decide) fl_X8_228 rfl rfl dX8_suspectsAheadOf_23 ?_
      refine g_icmp_ge (tgt := 67) C dX8_suspectsAheadOf_26 (by decide) hf (fun hf => ?_) (fun hf => ?_)
      · refine g_iload_n C dX8_suspectsAheadOf_67 rfl 3 rfl ?_
        exact g_iret C dX8_suspectsAheadOf_68 hf
      · refine g_aload_n C dX8_suspectsAheadOf_29 rfl 0 rfl ?_
        refine g_get C (R := RX8) (T := TX8) (N := 11) (k := 0) (v := .ref (ad w 1)) kd_0 (by decide) rfl (in_0 hS) hinX8 (by decide) fl_X8_10 rfl rfl dX8_suspectsAheadOf_30 ?_
        refine g_iload C dX8_suspectsAheadOf_33 4 rfl ?_
        refine g_callVI C (R := RX0) (T := TX0) (N := 8) [.int v4] (fun _ _ h => c_X0_paidBehindSeen (kl x) N w hS _ h) (g_cwV C hR ml_X8_240 im_X0_paidBehindSeen sl_X0_paidBehindSeen ini_X0 cd_X0_paidBehindSeen hd_X0_paidBehindSeen (by decide)) kd_1 (by decide) rfl (in_1 hS) rfl _ rfl (Nat.le_of_ble_eq_true rfl) dX8_suspectsAheadOf_35 hf (fun r1 s1 hf => ?_)
        refine g_istore (lv' := [(5, .int r1), (0, .ref (ad w 0)), (1, .int v1), (2, .int v2), (3, .int v3), (4, .int v4)]) C dX8_suspectsAheadOf_38 (by decide) rfl ?_
        refine g_iload C dX8_suspectsAheadOf_40 0 rfl ?_
        refine g_iload_n C dX8_suspectsAheadOf_42 rfl 3 rfl ?_
        refine g_icmp_gt (tgt := 58) C dX8_suspectsAheadOf_43 (by decide) hf (fun hf => ?_) (fun hf => ?_)
        · refine g_sub [1, 2, 3, 4, 5] rfl ?_
          exact j58 (f_X8_suspectsAheadOf_L14 N n) ih _ _ _ _ _ hf
        · refine g_iload C dX8_suspectsAheadOf_46 0 rfl ?_
          refine g_iload_n C dX8_suspectsAheadOf_48 rfl 3 rfl ?_
          refine g_icmp_ne (tgt := 61) C dX8_suspectsAheadOf_49 (by decide) hf (fun hf => ?_) (fun hf => ?_)
          · refine g_sub [1, 2, 3, 4, 5] rfl ?_
            exact j61 (f_X8_suspectsAheadOf_L14 N n) ih _ _ _ _ _ hf
          · refine g_iload C dX8_suspectsAheadOf_52 5 rfl ?_
            refine g_iload_n C dX8_suspectsAheadOf_54 rfl 2 rfl ?_
            refine g_icmp_ge (tgt := 61) C dX8_suspectsAheadOf_55 (by decide) hf (fun hf => ?_) (fun hf => ?_)
            · refine g_sub [1, 2, 3, 4, 5] rfl ?_
              exact j61 (f_X8_suspectsAheadOf_L14 N n) ih _ _ _ _ _ hf
            · refine g_sub [1, 2, 3, 4, 5] rfl ?_
              exact j58 (f_X8_suspectsAheadOf_L14 N n) ih _ _ _ _ _ hf
  refine g_lv (lv' := [(0, .ref (ad w 0)), (1, .int a1)]) rfl ?_
  unfold f_X8_suspectsAheadOf at hf
  refine g_aload_n C dX8_suspectsAheadOf_0 rfl 0 rfl ?_
  refine g_get C (R := RX8) (T := TX8) (N := 11) (k := 0) (v := .ref (ad w 1)) kd_0 (by decide) rfl (in_0 hS) hinX8 (by decide) fl_X8_10 rfl rfl dX8_suspectsAheadOf_1 ?_
  refine g_iload_n C dX8_suspectsAheadOf_4 rfl 1 rfl ?_
  refine g_callVI C (R := RX0) (T := TX0) (N := 8) [.int a1] (fun _ _ h => c_X0_paidBehindSeen (kl x) N w hS _ h) (g_cwV C hR ml_X8_240 im_X0_paidBehindSeen sl_X0_paidBehindSeen ini_X0 cd_X0_paidBehindSeen hd_X0_paidBehindSeen (by decide)) kd_1 (by decide) rfl (in_1 hS) rfl _ rfl (Nat.le_of_ble_eq_true rfl) dX8_suspectsAheadOf_5 hf (fun r1 s1 hf => ?_)
  refine g_istore_n (lv' := [(2, .int r1), (0, .ref (ad w 0)), (1, .int a1)]) C dX8_suspectsAheadOf_8 rfl (by decide) rfl ?_
  refine g_iconst C (v := 0) dX8_suspectsAheadOf_9 rfl ?_
  refine g_istore_n (lv' := [(3, .int 0), (2, .int r1), (0, .ref (ad w 0)), (1, .int a1)]) C dX8_suspectsAheadOf_10 rfl (by decide) rfl ?_
  refine g_iconst C (v := 0) dX8_suspectsAheadOf_11 rfl ?_
  refine g_istore (lv' := [(4, .int 0), (3, .int 0), (2, .int r1), (0, .ref (ad w 0)), (1, .int a1)]) C dX8_suspectsAheadOf_12 (by decide) rfl ?_
  refine g_sub [3, 4, 2, 1, 0] rfl ?_
  exact j14 N _ _ _ _ _ hf

set_option maxHeartbeats 4000000 in
set_option maxRecDepth 100000 in
theorem c_X8_suspect (l : Launch) (N : Nat) (w : WX) (hS : SS w = Sc) (a1 : Int32) {s s' : Mem} {r : Int32} (hf : f_X8_suspect N a1 s = some (r, s')) : CI l yX8_suspect (wz yX8_suspect cX8_suspect 3 (some .int)) ({ frames := 5, cells := 0, slots := 0, locals := 119 } : Room) [.ref (ad w 0), .int a1] w s r s' := by
  refine met_startI (cc := cX8_suspect) (ret := (some .int)) (own := RX8) (maxL := 3) (by decide) rfl (Nat.le_of_ble_eq_true rfl) (fun x C hR hl => ?_)
  have j51 : ∀ (k15 : Int32 → Int32 → Mem → Option (Int32 × Mem)), (∀ (v1 : Int32) (v2 : Int32) (s : Mem), k15 v1 v2 s = some (r, s') → G x (QI x w r s') 3 w 15 [(0, .ref (ad w 0)), (1, .int v1), (2, .int v2)] [] s) → ∀ (v1 : Int32) (v2 : Int32) (s : Mem), f_X8_suspect_j51 N k15 v1 v2 s = some (r, s') → G x (QI x w r s') 3 w 51 [(0, .ref (ad w 0)), (1, .int v1), (2, .int v2)] [] s := by
    intro k15 q15 v1 v2 s hf
    unfold f_X8_suspect_j51 at hf
    refine g_iinc (v' := v2 + 1) (lv' := [(2, .int (v2 + 1)), (0, .ref (ad w 0)), (1, .int v1)]) C dX8_suspect_51 2 rfl rfl (by decide) rfl ?_
    refine g_goto (tgt := 15) C dX8_suspect_54 (by decide) ?_
    refine g_sub [1, 2, 0] rfl ?_
    exact q15 _ _ _ hf
  have j15 : ∀ (n : Nat), ∀ (v1 : Int32) (v2 : Int32) (s : Mem), f_X8_suspect_L15 N n v1 v2 s = some (r, s') → G x (QI x w r s') 3 w 15 [(0, .ref (ad w 0)), (1, .int v1), (2, .int v2)] [] s := by
    intro n
    induction n with
    | zero => intro v1 v2 s hf; cases hf
    | succ n ih =>
      intro v1 v2 s hf
      unfold f_X8_suspect_L15 at hf
      refine g_iload_n C dX8_suspect_15 rfl 2 rfl ?_
      refine g_aload_n C dX8_suspect_16 rfl 0 rfl ?_
      refine g_get C (R := RX8) (T := TX8) (N := 11) (k := 0) (v := .ref (ad w 1)) kd_0 (by decide) rfl (in_0 hS) hinX8 (by decide) fl_X8_10 rfl rfl dX8_suspect_17 ?_
      refine g_get C (R := RX0) (T := TX0) (N := 8) (k := 0) (v := .ref (ad w 2)) kd_1 (by decide) rfl (in_1 hS) hinX0 (by decide) fl_X8_95 rfl rfl dX8_suspect_20 ?_
      refine g_get C (R := RX5) (T := TX5) (N := 4) (k := 3) (v := .int (rI s 2 3)) kd_2 (by decide) rfl (in_2 hS) hinX5 (by decide) fl_X8_228 rfl rfl dX8_suspect_23 ?_
      refine g_icmp_ge (tgt := 57) C dX8_suspect_26 (by decide) hf (fun hf => ?_) (fun hf => ?_)
      · refine g_bipush C (v := (-3)) dX8_suspect_57 (by decide) ?_
        exact g_iret C dX8_suspect_59 hf
      · refine g_aload_n C dX8_suspect_29 rfl 0 rfl ?_
        refine g_get C (R := RX8) (T := TX8) (N := 11) (k := 0) (v := .ref (ad w 1)) kd_0 (by decide) rfl (in_0 hS) hinX8 (by decide) fl_X8_10 rfl rfl dX8_suspect_30 ?_
        refine g_iload_n C dX8_suspect_33 rfl 2 rfl ?_
        refine g_callVI C (R := RX0) (T := TX0) (N := 8) [.int v2] (fun _ _ h => c_X0_paidBehindSeen (kl x) N w hS _ h) (g_cwV C hR ml_X8_240 im_X0_paidBehindSeen sl_X0_paidBehindSeen ini_X0 cd_X0_paidBehindSeen hd_X0_paidBehindSeen (by decide)) kd_1 (by decide) rfl (in_1 hS) rfl _ rfl (Nat.le_of_ble_eq_true rfl) dX8_suspect_34 hf (fun r1 s1 hf => ?_)
        refine g_if_le (tgt := 51) C dX8_suspect_37 (by decide) hf (fun hf => ?_) (fun hf => ?_)
        · exact j51 (f_X8_suspect_L15 N n) ih _ _ _ hf
        · refine g_aload_n C dX8_suspect_40 rfl 0 rfl ?_
          refine g_iload_n C dX8_suspect_41 rfl 2 rfl ?_
          refine g_callVI C (R := RX8) (T := TX8) (N := 11) [.int v2] (fun _ _ h => c_X8_suspectsAheadOf (kl x) N w hS _ h) (g_cwV C hR ml_X8_243 im_X8_suspectsAheadOf sl_X8_suspectsAheadOf ini_X8 cd_X8_suspectsAheadOf hd_X8_suspectsAheadOf (by decide)) kd_0 (by decide) rfl (in_0 hS) rfl _ rfl (Nat.le_of_ble_eq_true rfl) dX8_suspect_42 hf (fun r2 s2 hf => ?_)
          refine g_iload_n C dX8_suspect_45 rfl 1 rfl ?_
          refine g_icmp_ne (tgt := 51) C dX8_suspect_46 (by decide) hf (fun hf => ?_) (fun hf => ?_)
          · exact j51 (f_X8_suspect_L15 N n) ih _ _ _ hf
          · refine g_iload_n C dX8_suspect_49 rfl 2 rfl ?_
            exact g_iret C dX8_suspect_50 hf
  refine g_lv (lv' := [(0, .ref (ad w 0)), (1, .int a1)]) rfl ?_
  unfold f_X8_suspect at hf
  refine g_iload_n C dX8_suspect_0 rfl 1 rfl ?_
  refine g_if_lt (tgt := 10) C dX8_suspect_1 (by decide) hf (fun hf => ?_) (fun hf => ?_)
  · refine g_bipush C (v := (-3)) dX8_suspect_10 (by decide) ?_
    exact g_iret C dX8_suspect_12 hf
  · refine g_iload_n C dX8_suspect_4 rfl 1 rfl ?_
    refine g_bipush C (v := 10) dX8_suspect_5 (by decide) ?_
    refine g_icmp_lt (tgt := 13) C dX8_suspect_7 (by decide) hf (fun hf => ?_) (fun hf => ?_)
    · refine g_iconst C (v := 0) dX8_suspect_13 rfl ?_
      refine g_istore_n (lv' := [(2, .int 0), (0, .ref (ad w 0)), (1, .int a1)]) C dX8_suspect_14 rfl (by decide) rfl ?_
      refine g_sub [1, 2, 0] rfl ?_
      exact j15 N _ _ _ hf
    · refine g_bipush C (v := (-3)) dX8_suspect_10 (by decide) ?_
      exact g_iret C dX8_suspect_12 hf

set_option maxHeartbeats 4000000 in
set_option maxRecDepth 100000 in
theorem c_X8_heap (l : Launch) (N : Nat) (w : WX) (hS : SS w = Sc) (a1 : Int32) {s s' : Mem} {r : Int32} (hf : f_X8_heap N a1 s = some (r, s')) : CI l yX8_heap (wz yX8_heap cX8_heap 5 (some .int)) ({ frames := 2, cells := 0, slots := 0, locals := 46 } : Room) [.ref (ad w 0), .int a1] w s r s' := by
  refine met_startI (cc := cX8_heap) (ret := (some .int)) (own := RX8) (maxL := 5) (by decide) rfl (Nat.le_of_ble_eq_true rfl) (fun x C hR hl => ?_)
  refine g_lv (lv' := [(0, .ref (ad w 0)), (1, .int a1)]) rfl ?_
  unfold f_X8_heap at hf
  refine g_aload_n C dX8_heap_0 rfl 0 rfl ?_
  refine g_get C (R := RX8) (T := TX8) (N := 11) (k := 0) (v := .ref (ad w 1)) kd_0 (by decide) rfl (in_0 hS) hinX8 (by decide) fl_X8_10 rfl rfl dX8_heap_1 ?_
  refine g_iconst C (v := 0) dX8_heap_4 rfl ?_
  refine g_callVI C (R := RX0) (T := TX0) (N := 8) [.int 0] (fun _ _ h => c_X0_countsWithEnding (kl x) N w hS _ h) (g_cwV C hR ml_X8_246 im_X0_countsWithEnding sl_X0_countsWithEnding ini_X0 cd_X0_countsWithEnding hd_X0_countsWithEnding (by decide)) kd_1 (by decide) rfl (in_1 hS) rfl _ rfl (Nat.le_of_ble_eq_true rfl) dX8_heap_5 hf (fun r1 s1 hf => ?_)
  refine g_istore_n (lv' := [(2, .int r1), (0, .ref (ad w 0)), (1, .int a1)]) C dX8_heap_8 rfl (by decide) rfl ?_
  refine g_aload_n C dX8_heap_9 rfl 1 rfl ?_
  refine g_get C (R := RX8) (T := TX8) (N := 11) (k := 0) (v := .ref (ad w 1)) kd_0 (by decide) rfl (in_0 hS) hinX8 (by decide) fl_X8_10 rfl rfl dX8_heap_10 ?_
  refine g_iconst C (v := 5) dX8_heap_13 rfl ?_
  refine g_callVI C (R := RX0) (T := TX0) (N := 8) [.int 5] (fun _ _ h => c_X0_countsWithEnding (kl x) N w hS _ h) (g_cwV C hR ml_X8_246 im_X0_countsWithEnding sl_X0_countsWithEnding ini_X0 cd_X0_countsWithEnding hd_X0_countsWithEnding (by decide)) kd_1 (by decide) rfl (in_1 hS) rfl _ rfl (Nat.le_of_ble_eq_true rfl) dX8_heap_14 hf (fun r2 s2 hf => ?_)
  refine g_istore_n (lv' := [(3, .int r2), (2, .int r1), (0, .ref (ad w 0)), (1, .int a1)]) C dX8_heap_17 rfl (by decide) rfl ?_
  refine g_aload_n C dX8_heap_18 rfl 2 rfl ?_
  refine g_get C (R := RX8) (T := TX8) (N := 11) (k := 0) (v := .ref (ad w 1)) kd_0 (by decide) rfl (in_0 hS) hinX8 (by decide) fl_X8_10 rfl rfl dX8_heap_19 ?_
  refine g_callVI C (R := RX0) (T := TX0) (N := 8) [] (fun _ _ h => c_X0_counts (kl x) N w hS h) (g_cwV C hR ml_X8_249 im_X0_counts sl_X0_counts ini_X0 cd_X0_counts hd_X0_counts (by decide)) kd_1 (by decide) rfl (in_1 hS) rfl _ rfl (Nat.le_of_ble_eq_true rfl) dX8_heap_22 hf (fun r3 s3 hf => ?_)
  refine g_istore (lv' := [(4, .int r3), (3, .int r2), (2, .int r1), (0, .ref (ad w 0)), (1, .int a1)]) C dX8_heap_25 (by decide) rfl ?_
  refine g_iload_n C dX8_heap_27 rfl 4 rfl ?_
  rcases ite_some hf with ⟨e0, hf⟩ | ⟨n0, hf⟩
  · refine g_tabIn (k := 0) (tgt := 60) C dX8_heap_28 e0 (by decide) (by decide) rfl (by decide) ?_
    refine g_iload_n C dX8_heap_60 rfl 2 rfl ?_
    exact g_iret C dX8_heap_61 hf
  rcases ite_some hf with ⟨e1, hf⟩ | ⟨n1, hf⟩
  · refine g_tabIn (k := 1) (tgt := 62) C dX8_heap_28 e1 (by decide) (by decide) rfl (by decide) ?_
    refine g_iload_n C dX8_heap_62 rfl 1 rfl ?_
    exact g_iret C dX8_heap_63 hf
  rcases ite_some hf with ⟨e2, hf⟩ | ⟨n2, hf⟩
  · refine g_tabIn (k := 2) (tgt := 64) C dX8_heap_28 e2 (by decide) (by decide) rfl (by decide) ?_
    refine g_iload C dX8_heap_64 0 rfl ?_
    refine g_iload_n C dX8_heap_66 rfl 2 rfl ?_
    refine g_isub C dX8_heap_67 ?_
    refine g_iload_n C dX8_heap_68 rfl 1 rfl ?_
    refine g_isub C dX8_heap_69 ?_
    exact g_iret C dX8_heap_70 hf
  rcases ite_some hf with ⟨e3, hf⟩ | ⟨n3, hf⟩
  · refine g_tabIn (k := 3) (tgt := 71) C dX8_heap_28 e3 (by decide) (by decide) rfl (by decide) ?_
    refine g_iload C dX8_heap_71 0 rfl ?_
    refine g_if_gt (tgt := 80) C dX8_heap_73 (by decide) hf (fun hf => ?_) (fun hf => ?_)
    · refine g_sipush C (v := 500) dX8_heap_80 (by decide) ?_
      refine g_iload_n C dX8_heap_83 rfl 2 rfl ?_
      refine g_iload_n C dX8_heap_84 rfl 1 rfl ?_
      refine g_iadd C dX8_heap_85 ?_
      refine g_imul C dX8_heap_86 ?_
      refine g_iload C dX8_heap_87 0 rfl ?_
      refine g_idiv C dX8_heap_89 hf (fun hf => ?_)
      exact g_iret C dX8_heap_90 hf
    · refine g_iconst C (v := 0) dX8_heap_76 rfl ?_
      refine g_goto (tgt := 90) C dX8_heap_77 (by decide) ?_
      exact g_iret C dX8_heap_90 hf
  refine g_tabOut (tgt := 91) C dX8_heap_28 (by have z0 := lv_neT n0 (a := 0) (by decide); have z1 := lv_neT n1 (a := 1) (by decide); have z2 := lv_neT n2 (a := 2) (by decide); have z3 := lv_neT n3 (a := 3) (by decide); omega) (by decide) ?_
  refine g_iconst C (v := (-1)) dX8_heap_91 rfl ?_
  exact g_iret C dX8_heap_92 hf

set_option maxHeartbeats 4000000 in
set_option maxRecDepth 100000 in
theorem c_X8_isOld (l : Launch) (N : Nat) (w : WX) (hS : SS w = Sc) (a1 : Int32) (a2 : Int32) (a3 : Int32) {s s' : Mem} {r : Bool} (hf : f_X8_isOld N a1 a2 a3 s = some (r, s')) : CB l yX8_isOld (wz yX8_isOld cX8_isOld 4 (some .boolean)) ({ frames := 4, cells := 0, slots := 0, locals := 95 } : Room) [.ref (ad w 0), .int a1, .int a2, .int a3] w s r s' := by
  refine met_startB (cc := cX8_isOld) (ret := (some .boolean)) (own := RX8) (maxL := 4) (by decide) rfl (Nat.le_of_ble_eq_true rfl) (fun x C hR hl => ?_)
  refine g_lv (lv' := [(0, .ref (ad w 0)), (1, .int a1), (2, .int a2), (3, .int a3)]) rfl ?_
  unfold f_X8_isOld at hf
  refine g_aload_n C dX8_isOld_0 rfl 0 rfl ?_
  refine g_get C (R := RX8) (T := TX8) (N := 11) (k := 3) (v := .ref (ad w 31)) kd_0 (by decide) rfl (in_0 hS) hinX8 (by decide) fl_X8_26 rfl rfl dX8_isOld_1 ?_
  refine g_aload_n C dX8_isOld_4 rfl 0 rfl ?_
  refine g_get C (R := RX8) (T := TX8) (N := 11) (k := 0) (v := .ref (ad w 1)) kd_0 (by decide) rfl (in_0 hS) hinX8 (by decide) fl_X8_10 rfl rfl dX8_isOld_5 ?_
  refine g_iload_n C dX8_isOld_8 rfl 1 rfl ?_
  refine g_callVV C (R := RX2) (T := TX2) (N := 4) [.ref (ad w 1), .int a1] (fun _ h => c_X2_weigh (kl x) N w hS _ h) (g_cwV C hR ml_X8_150 im_X2_weigh sl_X2_weigh ini_X2 cd_X2_weigh hd_X2_weigh (by decide)) kd_31 (by decide) rfl (in_31 hS) rfl _ rfl (Nat.le_of_ble_eq_true rfl) dX8_isOld_9 hf (fun s1 hf => ?_)
  refine g_aload_n C dX8_isOld_12 rfl 0 rfl ?_
  refine g_get C (R := RX8) (T := TX8) (N := 11) (k := 3) (v := .ref (ad w 31)) kd_0 (by decide) rfl (in_0 hS) hinX8 (by decide) fl_X8_26 rfl rfl dX8_isOld_13 ?_
  refine g_get C (R := RX2) (T := TX2) (N := 4) (k := 2) (v := .long (rL s1 31 2)) kd_31 (by decide) rfl (in_31 hS) hinX2 (by decide) fl_X8_158 rfl rfl dX8_isOld_16 ?_
  refine g_lconst C (v := 0) dX8_isOld_19 rfl ?_
  refine g_lcmp_gt (tgt := 26) C dX8_isOld_20 dX8_isOld_21 (by decide) hf (fun hf => ?_) (fun hf => ?_)
  · refine g_iload_n C dX8_isOld_26 rfl 3 rfl ?_
    refine g_if_ne (tgt := 55) C dX8_isOld_27 (by decide) hf (fun hf => ?_) (fun hf => ?_)
    · refine g_iload_n C dX8_isOld_55 rfl 3 rfl ?_
      refine g_iconst C (v := 1) dX8_isOld_56 rfl ?_
      refine g_icmp_ne (tgt := 77) C dX8_isOld_57 (by decide) hf (fun hf => ?_) (fun hf => ?_)
      · refine g_aload_n C dX8_isOld_77 rfl 0 rfl ?_
        refine g_get C (R := RX8) (T := TX8) (N := 11) (k := 3) (v := .ref (ad w 31)) kd_0 (by decide) rfl (in_0 hS) hinX8 (by decide) fl_X8_26 rfl rfl dX8_isOld_78 ?_
        refine g_iload_n C dX8_isOld_81 rfl 2 rfl ?_
        refine g_callVL C (R := RX2) (T := TX2) (N := 4) [.int a2] (fun _ _ h => c_X2_ofAge (kl x) N w hS _ h) (g_cwV C hR ml_X8_167 im_X2_ofAge sl_X2_ofAge ini_X2 cd_X2_ofAge hd_X2_ofAge (by decide)) kd_31 (by decide) rfl (in_31 hS) rfl _ rfl (Nat.le_of_ble_eq_true rfl) dX8_isOld_82 hf (fun r2 s2 hf => ?_)
        refine g_lconst C (v := 0) dX8_isOld_85 rfl ?_
        refine g_lcmp_le (tgt := 94) C dX8_isOld_86 dX8_isOld_87 (by decide) hf (fun hf => ?_) (fun hf => ?_)
        · refine g_iconst C (v := 0) dX8_isOld_94 rfl ?_
          exact g_zret (v := false) C dX8_isOld_95 hf
        · refine g_iconst C (v := 1) dX8_isOld_90 rfl ?_
          refine g_goto (tgt := 95) C dX8_isOld_91 (by decide) ?_
          exact g_zret (v := true) C dX8_isOld_95 hf
      · refine g_aload_n C dX8_isOld_60 rfl 0 rfl ?_
        refine g_get C (R := RX8) (T := TX8) (N := 11) (k := 3) (v := .ref (ad w 31)) kd_0 (by decide) rfl (in_0 hS) hinX8 (by decide) fl_X8_26 rfl rfl dX8_isOld_61 ?_
        refine g_callVI C (R := RX2) (T := TX2) (N := 4) [] (fun _ _ h => c_X2_bestAge (kl x) N w hS h) (g_cwV C hR ml_X8_255 im_X2_bestAge sl_X2_bestAge ini_X2 cd_X2_bestAge hd_X2_bestAge (by decide)) kd_31 (by decide) rfl (in_31 hS) rfl _ rfl (Nat.le_of_ble_eq_true rfl) dX8_isOld_64 hf (fun r3 s3 hf => ?_)
        refine g_iload_n C dX8_isOld_67 rfl 2 rfl ?_
        refine g_icmp_lt (tgt := 75) C dX8_isOld_68 (by decide) hf (fun hf => ?_) (fun hf => ?_)
        · refine g_iconst C (v := 0) dX8_isOld_75 rfl ?_
          exact g_zret (v := false) C dX8_isOld_76 hf
        · refine g_iconst C (v := 1) dX8_isOld_71 rfl ?_
          refine g_goto (tgt := 76) C dX8_isOld_72 (by decide) ?_
          exact g_zret (v := true) C dX8_isOld_76 hf
    · refine g_aload_n C dX8_isOld_30 rfl 0 rfl ?_
      refine g_get C (R := RX8) (T := TX8) (N := 11) (k := 3) (v := .ref (ad w 31)) kd_0 (by decide) rfl (in_0 hS) hinX8 (by decide) fl_X8_26 rfl rfl dX8_isOld_31 ?_
      refine g_iload_n C dX8_isOld_34 rfl 2 rfl ?_
      refine g_callVL C (R := RX2) (T := TX2) (N := 4) [.int a2] (fun _ _ h => c_X2_ofAge (kl x) N w hS _ h) (g_cwV C hR ml_X8_167 im_X2_ofAge sl_X2_ofAge ini_X2 cd_X2_ofAge hd_X2_ofAge (by decide)) kd_31 (by decide) rfl (in_31 hS) rfl _ rfl (Nat.le_of_ble_eq_true rfl) dX8_isOld_35 hf (fun r4 s4 hf => ?_)
      refine g_aload_n C dX8_isOld_38 rfl 0 rfl ?_
      refine g_get C (R := RX8) (T := TX8) (N := 11) (k := 3) (v := .ref (ad w 31)) kd_0 (by decide) rfl (in_0 hS) hinX8 (by decide) fl_X8_26 rfl rfl dX8_isOld_39 ?_
      refine g_get C (R := RX2) (T := TX2) (N := 4) (k := 2) (v := .long (rL s4 31 2)) kd_31 (by decide) rfl (in_31 hS) hinX2 (by decide) fl_X8_158 rfl rfl dX8_isOld_42 ?_
      refine g_lcmp_ne (tgt := 53) C dX8_isOld_45 dX8_isOld_46 (by decide) hf (fun hf => ?_) (fun hf => ?_)
      · refine g_iconst C (v := 0) dX8_isOld_53 rfl ?_
        exact g_zret (v := false) C dX8_isOld_54 hf
      · refine g_iconst C (v := 1) dX8_isOld_49 rfl ?_
        refine g_goto (tgt := 54) C dX8_isOld_50 (by decide) ?_
        exact g_zret (v := true) C dX8_isOld_54 hf
  · refine g_iconst C (v := 0) dX8_isOld_24 rfl ?_
    exact g_zret (v := false) C dX8_isOld_25 hf

set_option maxHeartbeats 4000000 in
set_option maxRecDepth 100000 in
theorem c_X8_valley (l : Launch) (N : Nat) (w : WX) (hS : SS w = Sc) (a1 : Int32) (a2 : Int32) (a3 : Int32) {s s' : Mem} {r : Int32} (hf : f_X8_valley N a1 a2 a3 s = some (r, s')) : CI l yX8_valley (wz yX8_valley cX8_valley 6 (some .int)) ({ frames := 5, cells := 0, slots := 0, locals := 118 } : Room) [.ref (ad w 0), .int a1, .int a2, .int a3] w s r s' := by
  refine met_startI (cc := cX8_valley) (ret := (some .int)) (own := RX8) (maxL := 6) (by decide) rfl (Nat.le_of_ble_eq_true rfl) (fun x C hR hl => ?_)
  have j77 : ∀ (k31 : Int32 → Int32 → Int32 → Int32 → Int32 → Mem → Option (Int32 × Mem)), (∀ (v1 : Int32) (v2 : Int32) (v3 : Int32) (v4 : Int32) (v5 : Int32) (s : Mem), k31 v1 v2 v3 v4 v5 s = some (r, s') → G x (QI x w r s') 6 w 31 [(0, .ref (ad w 0)), (1, .int v1), (2, .int v2), (3, .int v3), (4, .int v4), (5, .int v5)] [] s) → ∀ (v1 : Int32) (v2 : Int32) (v3 : Int32) (v4 : Int32) (v5 : Int32) (s : Mem), f_X8_valley_j77 N k31 v1 v2 v3 v4 v5 s = some (r, s') → G x (QI x w r s') 6 w 77 [(0, .ref (ad w 0)), (1, .int v1), (2, .int v2), (3, .int v3), (4, .int v4), (5, .int v5)] [] s := by
    intro k31 q31 v1 v2 v3 v4 v5 s hf
    unfold f_X8_valley_j77 at hf
    refine g_iinc (v' := v5 + 1) (lv' := [(5, .int (v5 + 1)), (0, .ref (ad w 0)), (1, .int v1), (2, .int v2), (3, .int v3), (4, .int v4)]) C dX8_valley_77 5 rfl rfl (by decide) rfl ?_
    refine g_goto (tgt := 31) C dX8_valley_80 (by decide) ?_
    refine g_sub [1, 2, 3, 4, 5, 0] rfl ?_
    exact q31 _ _ _ _ _ _ hf
  have j31 : ∀ (n : Nat), ∀ (v1 : Int32) (v2 : Int32) (v3 : Int32) (v4 : Int32) (v5 : Int32) (s : Mem), f_X8_valley_L31 N n v1 v2 v3 v4 v5 s = some (r, s') → G x (QI x w r s') 6 w 31 [(0, .ref (ad w 0)), (1, .int v1), (2, .int v2), (3, .int v3), (4, .int v4), (5, .int v5)] [] s := by
    intro n
    induction n with
    | zero => intro v1 v2 v3 v4 v5 s hf; cases hf
    | succ n ih =>
      intro v1 v2 v3 v4 v5 s hf
      unfold f_X8_valley_L31 at hf
      refine g_iload C dX8_valley_31 5 rfl ?_
      refine g_aload_n C dX8_valley_33 rfl 0 rfl ?_
      refine g_get C (R := RX8) (T := TX8) (N := 11) (k := 0) (v := .ref (ad w 1)) kd_0 (by decide) rfl (in_0 hS) hinX8 (by decide) fl_X8_10 rfl rfl dX8_valley_34 ?_
      refine g_get C (R := RX0) (T := TX0) (N := 8) (k := 0) (v := .ref (ad w 2)) kd_1 (by decide) rfl (in_1 hS) hinX0 (by decide) fl_X8_95 rfl rfl dX8_valley_37 ?_
      refine g_get C (R := RX5) (T := TX5) (N := 4) (k := 3) (v := .int (rI s 2 3)) kd_2 (by decide) rfl (in_2 hS) hinX5 (by decide) fl_X8_228 rfl rfl dX8_valley_40 ?_
      refine g_icmp_ge (tgt := 83) C dX8_valley_43 (by decide) hf (fun hf => ?_) (fun hf => ?_)
      · refine g_iload C dX8_valley_83 4 rfl ?_
        exact g_iret C dX8_valley_85 hf
      · refine g_aload_n C dX8_valley_46 rfl 0 rfl ?_
        refine g_get C (R := RX8) (T := TX8) (N := 11) (k := 0) (v := .ref (ad w 1)) kd_0 (by decide) rfl (in_0 hS) hinX8 (by decide) fl_X8_10 rfl rfl dX8_valley_47 ?_
        refine g_get C (R := RX0) (T := TX0) (N := 8) (k := 0) (v := .ref (ad w 2)) kd_1 (by decide) rfl (in_1 hS) hinX0 (by decide) fl_X8_95 rfl rfl dX8_valley_50 ?_
        refine g_iload C dX8_valley_53 5 rfl ?_
        refine g_iconst C (v := 0) dX8_valley_55 rfl ?_
        refine g_callVI C (R := RX5) (T := TX5) (N := 4) [.int v5, .int 0] (fun _ _ h => c_X5_get (kl x) N w (ok_2 hS) _ _ h) (g_cwV C hR ml_X8_105 im_X5_get sl_X5_get ini_X5 cd_X5_get hd_X5_get (by decide)) kd_2 (by decide) rfl (in_2 hS) rfl _ rfl (Nat.le_of_ble_eq_true rfl) dX8_valley_56 hf (fun r1 s1 hf => ?_)
        refine g_iload_n C dX8_valley_59 rfl 1 rfl ?_
        refine g_icmp_ne (tgt := 77) C dX8_valley_60 (by decide) hf (fun hf => ?_) (fun hf => ?_)
        · exact j77 (f_X8_valley_L31 N n) ih _ _ _ _ _ _ hf
        · refine g_aload_n C dX8_valley_63 rfl 0 rfl ?_
          refine g_iload C dX8_valley_64 5 rfl ?_
          refine g_iload_n C dX8_valley_66 rfl 2 rfl ?_
          refine g_iload_n C dX8_valley_67 rfl 3 rfl ?_
          refine g_callVB C (R := RX8) (T := TX8) (N := 11) [.int v5, .int v2, .int v3] (fun _ _ h => c_X8_isOld (kl x) N w hS _ _ _ h) (g_cwV C hR ml_X8_252 im_X8_isOld sl_X8_isOld ini_X8 cd_X8_isOld hd_X8_isOld (by decide)) kd_0 (by decide) rfl (in_0 hS) rfl _ rfl (Nat.le_of_ble_eq_true rfl) dX8_valley_68 hf (fun r2 s2 hf => ?_)
          refine g_ifeqB (tgt := 77) C dX8_valley_71 (by decide) hf (fun hf => ?_) (fun hf => ?_)
          · exact j77 (f_X8_valley_L31 N n) ih _ _ _ _ _ _ hf
          · refine g_iinc (v' := v4 + 1) (lv' := [(4, .int (v4 + 1)), (0, .ref (ad w 0)), (1, .int v1), (2, .int v2), (3, .int v3), (5, .int v5)]) C dX8_valley_74 4 rfl rfl (by decide) rfl ?_
            refine g_sub [1, 2, 3, 4, 0, 5] rfl ?_
            exact j77 (f_X8_valley_L31 N n) ih _ _ _ _ _ _ hf
  refine g_lv (lv' := [(0, .ref (ad w 0)), (1, .int a1), (2, .int a2), (3, .int a3)]) rfl ?_
  unfold f_X8_valley at hf
  refine g_iload_n C dX8_valley_0 rfl 1 rfl ?_
  refine g_callSB C [.int a1] (fun _ _ h => c_X8_isHouse (kl x) N w _ h) (g_cwS C hR ml_X8_87 sm_X8_isHouse ini_X8 cd_X8_isHouse hd_X8_isHouse (by decide)) rfl _ rfl (Nat.le_of_ble_eq_true rfl) dX8_valley_1 hf (fun r1 s1 hf => ?_)
  refine g_ifeqB (tgt := 23) C dX8_valley_4 (by decide) hf (fun hf => ?_) (fun hf => ?_)
  · refine g_iconst C (v := (-1)) dX8_valley_23 rfl ?_
    exact g_iret C dX8_valley_24 hf
  · refine g_iload_n C dX8_valley_7 rfl 2 rfl ?_
    refine g_callSB C [.int a2] (fun _ _ h => c_X8_isYear (kl x) N w _ h) (g_cwS C hR ml_X8_119 sm_X8_isYear ini_X8 cd_X8_isYear hd_X8_isYear (by decide)) rfl _ rfl (Nat.le_of_ble_eq_true rfl) dX8_valley_8 hf (fun r2 s2 hf => ?_)
    refine g_ifeqB (tgt := 23) C dX8_valley_11 (by decide) hf (fun hf => ?_) (fun hf => ?_)
    · refine g_iconst C (v := (-1)) dX8_valley_23 rfl ?_
      exact g_iret C dX8_valley_24 hf
    · refine g_iload_n C dX8_valley_14 rfl 3 rfl ?_
      refine g_iconst C (v := 0) dX8_valley_15 rfl ?_
      refine g_iconst C (v := 2) dX8_valley_16 rfl ?_
      refine g_callSB C [.int a3, .int 0, .int 2] (fun _ _ h => c_X8_isWithin (kl x) N w _ _ _ h) (g_cwS C hR ml_X8_91 sm_X8_isWithin ini_X8 cd_X8_isWithin hd_X8_isWithin (by decide)) rfl _ rfl (Nat.le_of_ble_eq_true rfl) dX8_valley_17 hf (fun r3 s3 hf => ?_)
      refine g_ifneB (tgt := 25) C dX8_valley_20 (by decide) hf (fun hf => ?_) (fun hf => ?_)
      · refine g_iconst C (v := 0) dX8_valley_25 rfl ?_
        refine g_istore (lv' := [(4, .int 0), (0, .ref (ad w 0)), (1, .int a1), (2, .int a2), (3, .int a3)]) C dX8_valley_26 (by decide) rfl ?_
        refine g_iconst C (v := 0) dX8_valley_28 rfl ?_
        refine g_istore (lv' := [(5, .int 0), (4, .int 0), (0, .ref (ad w 0)), (1, .int a1), (2, .int a2), (3, .int a3)]) C dX8_valley_29 (by decide) rfl ?_
        refine g_sub [2, 3, 4, 5, 1, 0] rfl ?_
        exact j31 N _ _ _ _ _ _ hf
      · refine g_iconst C (v := (-1)) dX8_valley_23 rfl ?_
        exact g_iret C dX8_valley_24 hf

set_option maxHeartbeats 4000000 in
set_option maxRecDepth 100000 in
theorem c_X8_question (l : Launch) (N : Nat) (w : WX) (hS : SS w = Sc) (a1 : Int32) (a2 : Int32) (a3 : Int32) {s s' : Mem} {r : Int32} (hf : f_X8_question N a1 a2 a3 s = some (r, s')) : CI l yX8_question (wz yX8_question cX8_question 5 (some .int)) ({ frames := 2, cells := 0, slots := 0, locals := 42 } : Room) [.ref (ad w 0), .int a1, .int a2, .int a3] w s r s' := by
  refine met_startI (cc := cX8_question) (ret := (some .int)) (own := RX8) (maxL := 5) (by decide) rfl (Nat.le_of_ble_eq_true rfl) (fun x C hR hl => ?_)
  refine g_lv (lv' := [(0, .ref (ad w 0)), (1, .int a1), (2, .int a2), (3, .int a3)]) rfl ?_
  unfold f_X8_question at hf
  refine g_aload_n C dX8_question_0 rfl 0 rfl ?_
  refine g_get C (R := RX8) (T := TX8) (N := 11) (k := 0) (v := .ref (ad w 1)) kd_0 (by decide) rfl (in_0 hS) hinX8 (by decide) fl_X8_10 rfl rfl dX8_question_1 ?_
  refine g_get C (R := RX0) (T := TX0) (N := 8) (k := 0) (v := .ref (ad w 2)) kd_1 (by decide) rfl (in_1 hS) hinX0 (by decide) fl_X8_95 rfl rfl dX8_question_4 ?_
  refine g_iload_n C dX8_question_7 rfl 1 rfl ?_
  refine g_callVB C (R := RX5) (T := TX5) (N := 4) [.int a1] (fun _ _ h => c_X5_has (kl x) N w (ok_2 hS) _ h) (g_cwV C hR ml_X8_102 im_X5_has sl_X5_has ini_X5 cd_X5_has hd_X5_has (by decide)) kd_2 (by decide) rfl (in_2 hS) rfl _ rfl (Nat.le_of_ble_eq_true rfl) dX8_question_8 hf (fun r1 s1 hf => ?_)
  refine g_ifeqB (tgt := 31) C dX8_question_11 (by decide) hf (fun hf => ?_) (fun hf => ?_)
  · refine g_iconst C (v := (-1)) dX8_question_31 rfl ?_
    exact g_iret C dX8_question_32 hf
  · refine g_iload_n C dX8_question_14 rfl 2 rfl ?_
    refine g_callSB C [.int a2] (fun _ _ h => c_X8_isYear (kl x) N w _ h) (g_cwS C hR ml_X8_119 sm_X8_isYear ini_X8 cd_X8_isYear hd_X8_isYear (by decide)) rfl _ rfl (Nat.le_of_ble_eq_true rfl) dX8_question_15 hf (fun r2 s2 hf => ?_)
    refine g_ifeqB (tgt := 31) C dX8_question_18 (by decide) hf (fun hf => ?_) (fun hf => ?_)
    · refine g_iconst C (v := (-1)) dX8_question_31 rfl ?_
      exact g_iret C dX8_question_32 hf
    · refine g_iload_n C dX8_question_21 rfl 3 rfl ?_
      refine g_iconst C (v := 1) dX8_question_22 rfl ?_
      refine g_bipush C (v := 99) dX8_question_23 (by decide) ?_
      refine g_callSB C [.int a3, .int 1, .int 99] (fun _ _ h => c_X8_isWithin (kl x) N w _ _ _ h) (g_cwS C hR ml_X8_91 sm_X8_isWithin ini_X8 cd_X8_isWithin hd_X8_isWithin (by decide)) rfl _ rfl (Nat.le_of_ble_eq_true rfl) dX8_question_25 hf (fun r3 s3 hf => ?_)
      refine g_ifneB (tgt := 33) C dX8_question_28 (by decide) hf (fun hf => ?_) (fun hf => ?_)
      · refine g_aload_n C dX8_question_33 rfl 0 rfl ?_
        refine g_get C (R := RX8) (T := TX8) (N := 11) (k := 0) (v := .ref (ad w 1)) kd_0 (by decide) rfl (in_0 hS) hinX8 (by decide) fl_X8_10 rfl rfl dX8_question_34 ?_
        refine g_get C (R := RX0) (T := TX0) (N := 8) (k := 4) (v := .ref (ad w 10)) kd_1 (by decide) rfl (in_1 hS) hinX0 (by decide) fl_X8_258 rfl rfl dX8_question_37 ?_
        refine g_callVB C (R := RX5) (T := TX5) (N := 4) [] (fun _ _ h => c_X5_isFull (kl x) N w (ok_10 hS) h) (g_cwV C hR ml_X8_98 im_X5_isFull sl_X5_isFull ini_X5 cd_X5_isFull hd_X5_isFull (by decide)) kd_10 (by decide) rfl (in_10 hS) rfl _ rfl (Nat.le_of_ble_eq_true rfl) dX8_question_40 hf (fun r4 s4 hf => ?_)
        refine g_ifeqB (tgt := 49) C dX8_question_43 (by decide) hf (fun hf => ?_) (fun hf => ?_)
        · refine g_aload_n C dX8_question_49 rfl 0 rfl ?_
          refine g_get C (R := RX8) (T := TX8) (N := 11) (k := 0) (v := .ref (ad w 1)) kd_0 (by decide) rfl (in_0 hS) hinX8 (by decide) fl_X8_10 rfl rfl dX8_question_50 ?_
          refine g_get C (R := RX0) (T := TX0) (N := 8) (k := 4) (v := .ref (ad w 10)) kd_1 (by decide) rfl (in_1 hS) hinX0 (by decide) fl_X8_258 rfl rfl dX8_question_53 ?_
          refine g_callVI C (R := RX5) (T := TX5) (N := 4) [] (fun _ _ h => c_X5_add (kl x) N w (ok_10 hS) h) (g_cwV C hR ml_X8_79 im_X5_add sl_X5_add ini_X5 cd_X5_add hd_X5_add (by decide)) kd_10 (by decide) rfl (in_10 hS) rfl _ rfl (Nat.le_of_ble_eq_true rfl) dX8_question_56 hf (fun r5 s5 hf => ?_)
          refine g_istore (lv' := [(4, .int r5), (0, .ref (ad w 0)), (1, .int a1), (2, .int a2), (3, .int a3)]) C dX8_question_59 (by decide) rfl ?_
          refine g_aload_n C dX8_question_61 rfl 1 rfl ?_
          refine g_get C (R := RX8) (T := TX8) (N := 11) (k := 0) (v := .ref (ad w 1)) kd_0 (by decide) rfl (in_0 hS) hinX8 (by decide) fl_X8_10 rfl rfl dX8_question_62 ?_
          refine g_get C (R := RX0) (T := TX0) (N := 8) (k := 4) (v := .ref (ad w 10)) kd_1 (by decide) rfl (in_1 hS) hinX0 (by decide) fl_X8_258 rfl rfl dX8_question_65 ?_
          refine g_iload C dX8_question_68 0 rfl ?_
          refine g_iconst C (v := 0) dX8_question_70 rfl ?_
          refine g_iload_n C dX8_question_71 rfl 2 rfl ?_
          refine g_callVV C (R := RX5) (T := TX5) (N := 4) [.int r5, .int 0, .int a1] (fun _ h => c_X5_set (kl x) N w (ok_10 hS) _ _ _ h) (g_cwV C hR ml_X8_83 im_X5_set sl_X5_set ini_X5 cd_X5_set hd_X5_set (by decide)) kd_10 (by decide) rfl (in_10 hS) rfl _ rfl (Nat.le_of_ble_eq_true rfl) dX8_question_72 hf (fun s6 hf => ?_)
          refine g_aload_n C dX8_question_75 rfl 1 rfl ?_
          refine g_get C (R := RX8) (T := TX8) (N := 11) (k := 0) (v := .ref (ad w 1)) kd_0 (by decide) rfl (in_0 hS) hinX8 (by decide) fl_X8_10 rfl rfl dX8_question_76 ?_
          refine g_get C (R := RX0) (T := TX0) (N := 8) (k := 4) (v := .ref (ad w 10)) kd_1 (by decide) rfl (in_1 hS) hinX0 (by decide) fl_X8_258 rfl rfl dX8_question_79 ?_
          refine g_iload C dX8_question_82 0 rfl ?_
          refine g_iconst C (v := 1) dX8_question_84 rfl ?_
          refine g_iload_n C dX8_question_85 rfl 3 rfl ?_
          refine g_callVV C (R := RX5) (T := TX5) (N := 4) [.int r5, .int 1, .int a2] (fun _ h => c_X5_set (kl x) N w (ok_10 hS) _ _ _ h) (g_cwV C hR ml_X8_83 im_X5_set sl_X5_set ini_X5 cd_X5_set hd_X5_set (by decide)) kd_10 (by decide) rfl (in_10 hS) rfl _ rfl (Nat.le_of_ble_eq_true rfl) dX8_question_86 hf (fun s7 hf => ?_)
          refine g_aload_n C dX8_question_89 rfl 1 rfl ?_
          refine g_get C (R := RX8) (T := TX8) (N := 11) (k := 0) (v := .ref (ad w 1)) kd_0 (by decide) rfl (in_0 hS) hinX8 (by decide) fl_X8_10 rfl rfl dX8_question_90 ?_
          refine g_get C (R := RX0) (T := TX0) (N := 8) (k := 4) (v := .ref (ad w 10)) kd_1 (by decide) rfl (in_1 hS) hinX0 (by decide) fl_X8_258 rfl rfl dX8_question_93 ?_
          refine g_iload C dX8_question_96 0 rfl ?_
          refine g_iconst C (v := 2) dX8_question_98 rfl ?_
          refine g_iload_n C dX8_question_99 rfl 4 rfl ?_
          refine g_callVV C (R := RX5) (T := TX5) (N := 4) [.int r5, .int 2, .int a3] (fun _ h => c_X5_set (kl x) N w (ok_10 hS) _ _ _ h) (g_cwV C hR ml_X8_83 im_X5_set sl_X5_set ini_X5 cd_X5_set hd_X5_set (by decide)) kd_10 (by decide) rfl (in_10 hS) rfl _ rfl (Nat.le_of_ble_eq_true rfl) dX8_question_100 hf (fun s8 hf => ?_)
          refine g_aload_n C dX8_question_103 rfl 1 rfl ?_
          refine g_get C (R := RX8) (T := TX8) (N := 11) (k := 0) (v := .ref (ad w 1)) kd_0 (by decide) rfl (in_0 hS) hinX8 (by decide) fl_X8_10 rfl rfl dX8_question_104 ?_
          refine g_get C (R := RX0) (T := TX0) (N := 8) (k := 4) (v := .ref (ad w 10)) kd_1 (by decide) rfl (in_1 hS) hinX0 (by decide) fl_X8_258 rfl rfl dX8_question_107 ?_
          refine g_iload C dX8_question_110 0 rfl ?_
          refine g_iconst C (v := 3) dX8_question_112 rfl ?_
          refine g_iconst C (v := 0) dX8_question_113 rfl ?_
          refine g_callVV C (R := RX5) (T := TX5) (N := 4) [.int r5, .int 3, .int 0] (fun _ h => c_X5_set (kl x) N w (ok_10 hS) _ _ _ h) (g_cwV C hR ml_X8_83 im_X5_set sl_X5_set ini_X5 cd_X5_set hd_X5_set (by decide)) kd_10 (by decide) rfl (in_10 hS) rfl _ rfl (Nat.le_of_ble_eq_true rfl) dX8_question_114 hf (fun s9 hf => ?_)
          refine g_iload C dX8_question_117 0 rfl ?_
          exact g_iret C dX8_question_119 hf
        · refine g_bipush C (v := (-2)) dX8_question_46 (by decide) ?_
          exact g_iret C dX8_question_48 hf
      · refine g_iconst C (v := (-1)) dX8_question_31 rfl ?_
        exact g_iret C dX8_question_32 hf

set_option maxHeartbeats 4000000 in
set_option maxRecDepth 100000 in
theorem c_X8_answer (l : Launch) (N : Nat) (w : WX) (hS : SS w = Sc) (a1 : Int32) (a2 : Bool) {s s' : Mem} {r : Int32} (hf : f_X8_answer N a1 a2 s = some (r, s')) : CI l yX8_answer (wz yX8_answer cX8_answer 3 (some .int)) ({ frames := 2, cells := 0, slots := 0, locals := 45 } : Room) [.ref (ad w 0), .int a1, .int (bI a2)] w s r s' := by
  refine met_startI (cc := cX8_answer) (ret := (some .int)) (own := RX8) (maxL := 3) (by decide) rfl (Nat.le_of_ble_eq_true rfl) (fun x C hR hl => ?_)
  have j52 : ∀ (p0 : Int32) (p1 : Int32) (p2 : Int32) (s : Mem), f_X8_answer_j52 N p0 p1 p2 s = some (r, s') → G x (QI x w r s') 3 w 52 [(0, .ref (ad w 0))] [.int p0, .int p1, .int p2, .ref (ad w 10)] s := by
    intro p0 p1 p2 s hf
    unfold f_X8_answer_j52 at hf
    refine g_callVV C (R := RX5) (T := TX5) (N := 4) [.int p2, .int p1, .int p0] (fun _ h => c_X5_set (kl x) N w (ok_10 hS) _ _ _ h) (g_cwV C hR ml_X8_83 im_X5_set sl_X5_set ini_X5 cd_X5_set hd_X5_set (by decide)) kd_10 (by decide) rfl (in_10 hS) rfl _ rfl (Nat.le_of_ble_eq_true rfl) dX8_answer_52 hf (fun s1 hf => ?_)
    refine g_aload_n C dX8_answer_55 rfl 0 rfl ?_
    refine g_get C (R := RX8) (T := TX8) (N := 11) (k := 0) (v := .ref (ad w 1)) kd_0 (by decide) rfl (in_0 hS) hinX8 (by decide) fl_X8_10 rfl rfl dX8_answer_56 ?_
    refine g_callVI C (R := RX0) (T := TX0) (N := 8) [] (fun _ _ h => c_X0_answered (kl x) N w hS h) (g_cwV C hR ml_X8_261 im_X0_answered sl_X0_answered ini_X0 cd_X0_answered hd_X0_answered (by decide)) kd_1 (by decide) rfl (in_1 hS) rfl _ rfl (Nat.le_of_ble_eq_true rfl) dX8_answer_59 hf (fun r2 s2 hf => ?_)
    exact g_iret C dX8_answer_62 hf
  refine g_lv (lv' := [(0, .ref (ad w 0)), (1, .int a1), (2, .int (bI a2))]) rfl ?_
  unfold f_X8_answer at hf
  refine g_aload_n C dX8_answer_0 rfl 0 rfl ?_
  refine g_get C (R := RX8) (T := TX8) (N := 11) (k := 0) (v := .ref (ad w 1)) kd_0 (by decide) rfl (in_0 hS) hinX8 (by decide) fl_X8_10 rfl rfl dX8_answer_1 ?_
  refine g_get C (R := RX0) (T := TX0) (N := 8) (k := 4) (v := .ref (ad w 10)) kd_1 (by decide) rfl (in_1 hS) hinX0 (by decide) fl_X8_258 rfl rfl dX8_answer_4 ?_
  refine g_iload_n C dX8_answer_7 rfl 1 rfl ?_
  refine g_callVB C (R := RX5) (T := TX5) (N := 4) [.int a1] (fun _ _ h => c_X5_has (kl x) N w (ok_10 hS) _ h) (g_cwV C hR ml_X8_102 im_X5_has sl_X5_has ini_X5 cd_X5_has hd_X5_has (by decide)) kd_10 (by decide) rfl (in_10 hS) rfl _ rfl (Nat.le_of_ble_eq_true rfl) dX8_answer_8 hf (fun r1 s1 hf => ?_)
  refine g_ifneB (tgt := 16) C dX8_answer_11 (by decide) hf (fun hf => ?_) (fun hf => ?_)
  · refine g_aload_n C dX8_answer_16 rfl 0 rfl ?_
    refine g_get C (R := RX8) (T := TX8) (N := 11) (k := 0) (v := .ref (ad w 1)) kd_0 (by decide) rfl (in_0 hS) hinX8 (by decide) fl_X8_10 rfl rfl dX8_answer_17 ?_
    refine g_get C (R := RX0) (T := TX0) (N := 8) (k := 4) (v := .ref (ad w 10)) kd_1 (by decide) rfl (in_1 hS) hinX0 (by decide) fl_X8_258 rfl rfl dX8_answer_20 ?_
    refine g_iload_n C dX8_answer_23 rfl 1 rfl ?_
    refine g_iconst C (v := 3) dX8_answer_24 rfl ?_
    refine g_callVI C (R := RX5) (T := TX5) (N := 4) [.int a1, .int 3] (fun _ _ h => c_X5_get (kl x) N w (ok_10 hS) _ _ h) (g_cwV C hR ml_X8_105 im_X5_get sl_X5_get ini_X5 cd_X5_get hd_X5_get (by decide)) kd_10 (by decide) rfl (in_10 hS) rfl _ rfl (Nat.le_of_ble_eq_true rfl) dX8_answer_25 hf (fun r2 s2 hf => ?_)
    refine g_if_eq (tgt := 34) C dX8_answer_28 (by decide) hf (fun hf => ?_) (fun hf => ?_)
    · refine g_aload_n C dX8_answer_34 rfl 0 rfl ?_
      refine g_get C (R := RX8) (T := TX8) (N := 11) (k := 0) (v := .ref (ad w 1)) kd_0 (by decide) rfl (in_0 hS) hinX8 (by decide) fl_X8_10 rfl rfl dX8_answer_35 ?_
      refine g_get C (R := RX0) (T := TX0) (N := 8) (k := 4) (v := .ref (ad w 10)) kd_1 (by decide) rfl (in_1 hS) hinX0 (by decide) fl_X8_258 rfl rfl dX8_answer_38 ?_
      refine g_iload_n C dX8_answer_41 rfl 1 rfl ?_
      refine g_iconst C (v := 3) dX8_answer_42 rfl ?_
      refine g_iload_n C dX8_answer_43 rfl 2 rfl ?_
      refine g_ifeqB (tgt := 51) C dX8_answer_44 (by decide) hf (fun hf => ?_) (fun hf => ?_)
      · refine g_iconst C (v := 2) dX8_answer_51 rfl ?_
        refine g_sub [0] rfl ?_
        exact j52 _ _ _ _ hf
      · refine g_iconst C (v := 1) dX8_answer_47 rfl ?_
        refine g_goto (tgt := 52) C dX8_answer_48 (by decide) ?_
        refine g_sub [0] rfl ?_
        exact j52 _ _ _ _ hf
    · refine g_bipush C (v := (-4)) dX8_answer_31 (by decide) ?_
      exact g_iret C dX8_answer_33 hf
  · refine g_iconst C (v := (-1)) dX8_answer_14 rfl ?_
    exact g_iret C dX8_answer_15 hf

set_option maxHeartbeats 4000000 in
set_option maxRecDepth 100000 in
theorem c_X8_next (l : Launch) (N : Nat) (w : WX) (hS : SS w = Sc) (a1 : Int32) {s s' : Mem} {r : Int32} (hf : f_X8_next N a1 s = some (r, s')) : CI l yX8_next (wz yX8_next cX8_next 10 (some .int)) ({ frames := 4, cells := 0, slots := 0, locals := 95 } : Room) [.ref (ad w 0), .int a1] w s r s' := by
  refine met_startI (cc := cX8_next) (ret := (some .int)) (own := RX8) (maxL := 10) (by decide) rfl (Nat.le_of_ble_eq_true rfl) (fun x C hR hl => ?_)
  have j163 : ∀ (k36 : Int32 → Int32 → Int64 → Int32 → Mem → Option (Int32 × Mem)), (∀ (v1 : Int32) (v2 : Int32) (v3 : Int64) (v5 : Int32) (s : Mem), k36 v1 v2 v3 v5 s = some (r, s') → G x (QI x w r s') 10 w 36 [(0, .ref (ad w 0)), (1, .int v1), (2, .int v2), (3, .long v3), (5, .int v5)] [] s) → ∀ (v1 : Int32) (v2 : Int32) (v3 : Int64) (v5 : Int32) (s : Mem), f_X8_next_j163 N k36 v1 v2 v3 v5 s = some (r, s') → G x (QI x w r s') 10 w 163 [(0, .ref (ad w 0)), (1, .int v1), (2, .int v2), (3, .long v3), (5, .int v5)] [] s := by
    intro k36 q36 v1 v2 v3 v5 s hf
    unfold f_X8_next_j163 at hf
    refine g_iinc (v' := v5 + 1) (lv' := [(5, .int (v5 + 1)), (0, .ref (ad w 0)), (1, .int v1), (2, .int v2), (3, .long v3)]) C dX8_next_163 4 rfl rfl (by decide) rfl ?_
    refine g_goto (tgt := 36) C dX8_next_166 (by decide) ?_
    refine g_sub [1, 2, 3, 4, 0] rfl ?_
    exact q36 _ _ _ _ _ hf
  have j157 : ∀ (k36 : Int32 → Int32 → Int64 → Int32 → Mem → Option (Int32 × Mem)), (∀ (v1 : Int32) (v2 : Int32) (v3 : Int64) (v5 : Int32) (s : Mem), k36 v1 v2 v3 v5 s = some (r, s') → G x (QI x w r s') 10 w 36 [(0, .ref (ad w 0)), (1, .int v1), (2, .int v2), (3, .long v3), (5, .int v5)] [] s) → ∀ (v1 : Int32) (v5 : Int32) (v8 : Int64) (s : Mem), f_X8_next_j157 N k36 v1 v5 v8 s = some (r, s') → G x (QI x w r s') 10 w 157 [(0, .ref (ad w 0)), (1, .int v1), (5, .int v5), (8, .long v8)] [] s := by
    intro k36 q36 v1 v5 v8 s hf
    unfold f_X8_next_j157 at hf
    refine g_iload C dX8_next_157 2 rfl ?_
    refine g_istore_n (lv' := [(2, .int v5), (0, .ref (ad w 0)), (1, .int v1), (5, .int v5), (8, .long v8)]) C dX8_next_159 rfl (by decide) rfl ?_
    refine g_lload C dX8_next_160 4 rfl ?_
    refine g_lstore_n (lv' := [(3, .long v8), (2, .int v5), (0, .ref (ad w 0)), (1, .int v1), (5, .int v5), (8, .long v8)]) C dX8_next_162 rfl (by decide) rfl ?_
    refine g_sub [2, 3, 1, 0, 4] rfl ?_
    exact j163 k36 q36 _ _ _ _ _ hf
  have j36 : ∀ (n : Nat), ∀ (v1 : Int32) (v2 : Int32) (v3 : Int64) (v5 : Int32) (s : Mem), f_X8_next_L36 N n v1 v2 v3 v5 s = some (r, s') → G x (QI x w r s') 10 w 36 [(0, .ref (ad w 0)), (1, .int v1), (2, .int v2), (3, .long v3), (5, .int v5)] [] s := by
    intro n
    induction n with
    | zero => intro v1 v2 v3 v5 s hf; cases hf
    | succ n ih =>
      intro v1 v2 v3 v5 s hf
      unfold f_X8_next_L36 at hf
      refine g_iload C dX8_next_36 4 rfl ?_
      refine g_aload_n C dX8_next_38 rfl 0 rfl ?_
      refine g_get C (R := RX8) (T := TX8) (N := 11) (k := 0) (v := .ref (ad w 1)) kd_0 (by decide) rfl (in_0 hS) hinX8 (by decide) fl_X8_10 rfl rfl dX8_next_39 ?_
      refine g_get C (R := RX0) (T := TX0) (N := 8) (k := 4) (v := .ref (ad w 10)) kd_1 (by decide) rfl (in_1 hS) hinX0 (by decide) fl_X8_258 rfl rfl dX8_next_42 ?_
      refine g_get C (R := RX5) (T := TX5) (N := 4) (k := 3) (v := .int (rI s 10 3)) kd_10 (by decide) rfl (in_10 hS) hinX5 (by decide) fl_X8_228 rfl rfl dX8_next_45 ?_
      refine g_icmp_ge (tgt := 169) C dX8_next_48 (by decide) hf (fun hf => ?_) (fun hf => ?_)
      · refine g_iload_n C dX8_next_169 rfl 2 rfl ?_
        exact g_iret C dX8_next_170 hf
      · refine g_aload_n C dX8_next_51 rfl 0 rfl ?_
        refine g_get C (R := RX8) (T := TX8) (N := 11) (k := 0) (v := .ref (ad w 1)) kd_0 (by decide) rfl (in_0 hS) hinX8 (by decide) fl_X8_10 rfl rfl dX8_next_52 ?_
        refine g_get C (R := RX0) (T := TX0) (N := 8) (k := 4) (v := .ref (ad w 10)) kd_1 (by decide) rfl (in_1 hS) hinX0 (by decide) fl_X8_258 rfl rfl dX8_next_55 ?_
        refine g_iload C dX8_next_58 4 rfl ?_
        refine g_iconst C (v := 0) dX8_next_60 rfl ?_
        refine g_callVI C (R := RX5) (T := TX5) (N := 4) [.int v5, .int 0] (fun _ _ h => c_X5_get (kl x) N w (ok_10 hS) _ _ h) (g_cwV C hR ml_X8_105 im_X5_get sl_X5_get ini_X5 cd_X5_get hd_X5_get (by decide)) kd_10 (by decide) rfl (in_10 hS) rfl _ rfl (Nat.le_of_ble_eq_true rfl) dX8_next_61 hf (fun r1 s1 hf => ?_)
        refine g_iload_n C dX8_next_64 rfl 1 rfl ?_
        refine g_icmp_eq (tgt := 71) C dX8_next_65 (by decide) hf (fun hf => ?_) (fun hf => ?_)
        · refine g_aload_n C dX8_next_71 rfl 0 rfl ?_
          refine g_get C (R := RX8) (T := TX8) (N := 11) (k := 0) (v := .ref (ad w 1)) kd_0 (by decide) rfl (in_0 hS) hinX8 (by decide) fl_X8_10 rfl rfl dX8_next_72 ?_
          refine g_get C (R := RX0) (T := TX0) (N := 8) (k := 4) (v := .ref (ad w 10)) kd_1 (by decide) rfl (in_1 hS) hinX0 (by decide) fl_X8_258 rfl rfl dX8_next_75 ?_
          refine g_iload C dX8_next_78 4 rfl ?_
          refine g_iconst C (v := 3) dX8_next_80 rfl ?_
          refine g_callVI C (R := RX5) (T := TX5) (N := 4) [.int v5, .int 3] (fun _ _ h => c_X5_get (kl x) N w (ok_10 hS) _ _ h) (g_cwV C hR ml_X8_105 im_X5_get sl_X5_get ini_X5 cd_X5_get hd_X5_get (by decide)) kd_10 (by decide) rfl (in_10 hS) rfl _ rfl (Nat.le_of_ble_eq_true rfl) dX8_next_81 hf (fun r2 s2 hf => ?_)
          refine g_if_eq (tgt := 90) C dX8_next_84 (by decide) hf (fun hf => ?_) (fun hf => ?_)
          · refine g_aload_n C dX8_next_90 rfl 0 rfl ?_
            refine g_get C (R := RX8) (T := TX8) (N := 11) (k := 3) (v := .ref (ad w 31)) kd_0 (by decide) rfl (in_0 hS) hinX8 (by decide) fl_X8_26 rfl rfl dX8_next_91 ?_
            refine g_aload_n C dX8_next_94 rfl 0 rfl ?_
            refine g_get C (R := RX8) (T := TX8) (N := 11) (k := 0) (v := .ref (ad w 1)) kd_0 (by decide) rfl (in_0 hS) hinX8 (by decide) fl_X8_10 rfl rfl dX8_next_95 ?_
            refine g_get C (R := RX0) (T := TX0) (N := 8) (k := 4) (v := .ref (ad w 10)) kd_1 (by decide) rfl (in_1 hS) hinX0 (by decide) fl_X8_258 rfl rfl dX8_next_98 ?_
            refine g_iload C dX8_next_101 4 rfl ?_
            refine g_iconst C (v := 1) dX8_next_103 rfl ?_
            refine g_callVI C (R := RX5) (T := TX5) (N := 4) [.int v5, .int 1] (fun _ _ h => c_X5_get (kl x) N w (ok_10 hS) _ _ h) (g_cwV C hR ml_X8_105 im_X5_get sl_X5_get ini_X5 cd_X5_get hd_X5_get (by decide)) kd_10 (by decide) rfl (in_10 hS) rfl _ rfl (Nat.le_of_ble_eq_true rfl) dX8_next_104 hf (fun r3 s3 hf => ?_)
            refine g_callVL C (R := RX2) (T := TX2) (N := 4) [.int r3] (fun _ _ h => c_X2_upTo (kl x) N w hS _ h) (g_cwV C hR ml_X8_264 im_X2_upTo sl_X2_upTo ini_X2 cd_X2_upTo hd_X2_upTo (by decide)) kd_31 (by decide) rfl (in_31 hS) rfl _ rfl (Nat.le_of_ble_eq_true rfl) dX8_next_107 hf (fun r4 s4 hf => ?_)
            refine g_lstore (lv' := [(6, .long r4), (0, .ref (ad w 0)), (1, .int v1), (2, .int v2), (3, .long v3), (5, .int v5)]) C dX8_next_110 (by decide) rfl ?_
            refine g_aload_n C dX8_next_112 rfl 1 rfl ?_
            refine g_get C (R := RX8) (T := TX8) (N := 11) (k := 0) (v := .ref (ad w 1)) kd_0 (by decide) rfl (in_0 hS) hinX8 (by decide) fl_X8_10 rfl rfl dX8_next_113 ?_
            refine g_get C (R := RX0) (T := TX0) (N := 8) (k := 4) (v := .ref (ad w 10)) kd_1 (by decide) rfl (in_1 hS) hinX0 (by decide) fl_X8_258 rfl rfl dX8_next_116 ?_
            refine g_iload C dX8_next_119 5 rfl ?_
            refine g_iconst C (v := 2) dX8_next_121 rfl ?_
            refine g_callVI C (R := RX5) (T := TX5) (N := 4) [.int v5, .int 2] (fun _ _ h => c_X5_get (kl x) N w (ok_10 hS) _ _ h) (g_cwV C hR ml_X8_105 im_X5_get sl_X5_get ini_X5 cd_X5_get hd_X5_get (by decide)) kd_10 (by decide) rfl (in_10 hS) rfl _ rfl (Nat.le_of_ble_eq_true rfl) dX8_next_122 hf (fun r5 s5 hf => ?_)
            refine g_i2l C dX8_next_125 ?_
            refine g_lload C dX8_next_126 0 rfl ?_
            refine g_aload_n C dX8_next_128 rfl 1 rfl ?_
            refine g_get C (R := RX8) (T := TX8) (N := 11) (k := 3) (v := .ref (ad w 31)) kd_0 (by decide) rfl (in_0 hS) hinX8 (by decide) fl_X8_26 rfl rfl dX8_next_129 ?_
            refine g_get C (R := RX2) (T := TX2) (N := 4) (k := 2) (v := .long (rL s5 31 2)) kd_31 (by decide) rfl (in_31 hS) hinX2 (by decide) fl_X8_158 rfl rfl dX8_next_132 ?_
            refine g_lload C dX8_next_135 0 rfl ?_
            refine g_lsub C dX8_next_137 ?_
            refine g_lmax C (kR_of hR (by decide)) ml_X8_174 sm_J9_max_f86c9 ini_J9 cd_J9_max_f86c9 (Nat.le_of_ble_eq_true rfl) dX8_next_138 ?_
            refine g_lmul C dX8_next_141 ?_
            refine g_lstore (lv' := [(8, .long (r5.toInt64 * (lmax r4 ((rL s5 31 2) - r4)))), (6, .long r4), (0, .ref (ad w 0)), (1, .int v1), (2, .int v2), (3, .long v3), (5, .int v5)]) C dX8_next_142 (by decide) rfl ?_
            refine g_iload_n C dX8_next_144 rfl 4 rfl ?_
            refine g_bipush C (v := (-3)) dX8_next_145 (by decide) ?_
            refine g_icmp_eq (tgt := 157) C dX8_next_147 (by decide) hf (fun hf => ?_) (fun hf => ?_)
            · refine g_sub [2, 3, 6, 0] rfl ?_
              exact j157 (f_X8_next_L36 N n) ih _ _ _ _ hf
            · refine g_lload C dX8_next_150 0 rfl ?_
              refine g_lload_n C dX8_next_152 rfl 5 rfl ?_
              refine g_lcmp_ge (tgt := 163) C dX8_next_153 dX8_next_154 (by decide) hf (fun hf => ?_) (fun hf => ?_)
              · refine g_sub [2, 3, 4, 5, 6] rfl ?_
                exact j163 (f_X8_next_L36 N n) ih _ _ _ _ _ hf
              · refine g_sub [2, 3, 6, 0] rfl ?_
                exact j157 (f_X8_next_L36 N n) ih _ _ _ _ hf
          · refine g_goto (tgt := 163) C dX8_next_87 (by decide) ?_
            exact j163 (f_X8_next_L36 N n) ih _ _ _ _ _ hf
        · refine g_goto (tgt := 163) C dX8_next_68 (by decide) ?_
          exact j163 (f_X8_next_L36 N n) ih _ _ _ _ _ hf
  refine g_lv (lv' := [(0, .ref (ad w 0)), (1, .int a1)]) rfl ?_
  unfold f_X8_next at hf
  refine g_aload_n C dX8_next_0 rfl 0 rfl ?_
  refine g_get C (R := RX8) (T := TX8) (N := 11) (k := 0) (v := .ref (ad w 1)) kd_0 (by decide) rfl (in_0 hS) hinX8 (by decide) fl_X8_10 rfl rfl dX8_next_1 ?_
  refine g_get C (R := RX0) (T := TX0) (N := 8) (k := 0) (v := .ref (ad w 2)) kd_1 (by decide) rfl (in_1 hS) hinX0 (by decide) fl_X8_95 rfl rfl dX8_next_4 ?_
  refine g_iload_n C dX8_next_7 rfl 1 rfl ?_
  refine g_callVB C (R := RX5) (T := TX5) (N := 4) [.int a1] (fun _ _ h => c_X5_has (kl x) N w (ok_2 hS) _ h) (g_cwV C hR ml_X8_102 im_X5_has sl_X5_has ini_X5 cd_X5_has hd_X5_has (by decide)) kd_2 (by decide) rfl (in_2 hS) rfl _ rfl (Nat.le_of_ble_eq_true rfl) dX8_next_8 hf (fun r1 s1 hf => ?_)
  refine g_ifneB (tgt := 16) C dX8_next_11 (by decide) hf (fun hf => ?_) (fun hf => ?_)
  · refine g_aload_n C dX8_next_16 rfl 0 rfl ?_
    refine g_get C (R := RX8) (T := TX8) (N := 11) (k := 3) (v := .ref (ad w 31)) kd_0 (by decide) rfl (in_0 hS) hinX8 (by decide) fl_X8_26 rfl rfl dX8_next_17 ?_
    refine g_aload_n C dX8_next_20 rfl 0 rfl ?_
    refine g_get C (R := RX8) (T := TX8) (N := 11) (k := 0) (v := .ref (ad w 1)) kd_0 (by decide) rfl (in_0 hS) hinX8 (by decide) fl_X8_10 rfl rfl dX8_next_21 ?_
    refine g_iload_n C dX8_next_24 rfl 1 rfl ?_
    refine g_callVV C (R := RX2) (T := TX2) (N := 4) [.ref (ad w 1), .int a1] (fun _ h => c_X2_weigh (kl x) N w hS _ h) (g_cwV C hR ml_X8_150 im_X2_weigh sl_X2_weigh ini_X2 cd_X2_weigh hd_X2_weigh (by decide)) kd_31 (by decide) rfl (in_31 hS) rfl _ rfl (Nat.le_of_ble_eq_true rfl) dX8_next_25 hf (fun s2 hf => ?_)
    refine g_bipush C (v := (-3)) dX8_next_28 (by decide) ?_
    refine g_istore_n (lv' := [(2, .int (-3)), (0, .ref (ad w 0)), (1, .int a1)]) C dX8_next_30 rfl (by decide) rfl ?_
    refine g_lconst C (v := 0) dX8_next_31 rfl ?_
    refine g_lstore_n (lv' := [(3, .long 0), (2, .int (-3)), (0, .ref (ad w 0)), (1, .int a1)]) C dX8_next_32 rfl (by decide) rfl ?_
    refine g_iconst C (v := 0) dX8_next_33 rfl ?_
    refine g_istore (lv' := [(5, .int 0), (3, .long 0), (2, .int (-3)), (0, .ref (ad w 0)), (1, .int a1)]) C dX8_next_34 (by decide) rfl ?_
    refine g_sub [3, 4, 2, 1, 0] rfl ?_
    exact j36 N _ _ _ _ _ hf
  · refine g_iconst C (v := (-1)) dX8_next_14 rfl ?_
    exact g_iret C dX8_next_15 hf

set_option maxHeartbeats 4000000 in
set_option maxRecDepth 100000 in
theorem c_X8_addRow (l : Launch) (N : Nat) (w : WX) (hS : SS w = Sc) (a1 : Int32) (a2 : Int32) {s s' : Mem} (hf : f_X8_addRow N a1 a2 s = some ((), s')) : CV l yX8_addRow (wz yX8_addRow cX8_addRow 4 none) ({ frames := 1, cells := 0, slots := 0, locals := 24 } : Room) [.ref (ad w 0), .int a1, .int a2] w s s' := by
  refine met_startV (cc := cX8_addRow) (ret := none) (own := RX8) (maxL := 4) (by decide) rfl (Nat.le_of_ble_eq_true rfl) (fun x C hR hl => ?_)
  refine g_lv (lv' := [(0, .ref (ad w 0)), (1, .int a1), (2, .int a2)]) rfl ?_
  unfold f_X8_addRow at hf
  refine g_aload_n C dX8_addRow_0 rfl 0 rfl ?_
  refine g_get C (R := RX8) (T := TX8) (N := 11) (k := 7) (v := .ref (ad w 45)) kd_0 (by decide) rfl (in_0 hS) hinX8 (by decide) fl_X8_58 rfl rfl dX8_addRow_1 ?_
  refine g_callVI C (R := RX5) (T := TX5) (N := 4) [] (fun _ _ h => c_X5_add (kl x) N w (ok_45 hS) h) (g_cwV C hR ml_X8_79 im_X5_add sl_X5_add ini_X5 cd_X5_add hd_X5_add (by decide)) kd_45 (by decide) rfl (in_45 hS) rfl _ rfl (Nat.le_of_ble_eq_true rfl) dX8_addRow_4 hf (fun r1 s1 hf => ?_)
  refine g_istore_n (lv' := [(3, .int r1), (0, .ref (ad w 0)), (1, .int a1), (2, .int a2)]) C dX8_addRow_7 rfl (by decide) rfl ?_
  refine g_aload_n C dX8_addRow_8 rfl 1 rfl ?_
  refine g_get C (R := RX8) (T := TX8) (N := 11) (k := 7) (v := .ref (ad w 45)) kd_0 (by decide) rfl (in_0 hS) hinX8 (by decide) fl_X8_58 rfl rfl dX8_addRow_9 ?_
  refine g_iload_n C dX8_addRow_12 rfl 0 rfl ?_
  refine g_iconst C (v := 0) dX8_addRow_13 rfl ?_
  refine g_iload_n C dX8_addRow_14 rfl 2 rfl ?_
  refine g_callVV C (R := RX5) (T := TX5) (N := 4) [.int r1, .int 0, .int a1] (fun _ h => c_X5_set (kl x) N w (ok_45 hS) _ _ _ h) (g_cwV C hR ml_X8_83 im_X5_set sl_X5_set ini_X5 cd_X5_set hd_X5_set (by decide)) kd_45 (by decide) rfl (in_45 hS) rfl _ rfl (Nat.le_of_ble_eq_true rfl) dX8_addRow_15 hf (fun s2 hf => ?_)
  refine g_aload_n C dX8_addRow_18 rfl 1 rfl ?_
  refine g_get C (R := RX8) (T := TX8) (N := 11) (k := 7) (v := .ref (ad w 45)) kd_0 (by decide) rfl (in_0 hS) hinX8 (by decide) fl_X8_58 rfl rfl dX8_addRow_19 ?_
  refine g_iload_n C dX8_addRow_22 rfl 0 rfl ?_
  refine g_iconst C (v := 1) dX8_addRow_23 rfl ?_
  refine g_iload_n C dX8_addRow_24 rfl 3 rfl ?_
  refine g_callVV C (R := RX5) (T := TX5) (N := 4) [.int r1, .int 1, .int a2] (fun _ h => c_X5_set (kl x) N w (ok_45 hS) _ _ _ h) (g_cwV C hR ml_X8_83 im_X5_set sl_X5_set ini_X5 cd_X5_set hd_X5_set (by decide)) kd_45 (by decide) rfl (in_45 hS) rfl _ rfl (Nat.le_of_ble_eq_true rfl) dX8_addRow_25 hf (fun s3 hf => ?_)
  exact g_vret C dX8_addRow_28 hf

set_option maxHeartbeats 4000000 in
set_option maxRecDepth 100000 in
theorem c_X8_prove (l : Launch) (N : Nat) (w : WX) (hS : SS w = Sc) (a1 : Int32) {s s' : Mem} {r : Int32} (hf : f_X8_prove N a1 s = some (r, s')) : CI l yX8_prove (wz yX8_prove cX8_prove 3 (some .int)) ({ frames := 4, cells := 0, slots := 0, locals := 95 } : Room) [.ref (ad w 0), .int a1] w s r s' := by
  refine met_startI (cc := cX8_prove) (ret := (some .int)) (own := RX8) (maxL := 3) (by decide) rfl (Nat.le_of_ble_eq_true rfl) (fun x C hR hl => ?_)
  have j121 : ∀ (k64 : Int32 → Int32 → Mem → Option (Int32 × Mem)), (∀ (v1 : Int32) (v2 : Int32) (s : Mem), k64 v1 v2 s = some (r, s') → G x (QI x w r s') 3 w 64 [(0, .ref (ad w 0)), (1, .int v1), (2, .int v2)] [] s) → ∀ (v1 : Int32) (v2 : Int32) (s : Mem), f_X8_prove_j121 N k64 v1 v2 s = some (r, s') → G x (QI x w r s') 3 w 121 [(0, .ref (ad w 0)), (1, .int v1), (2, .int v2)] [] s := by
    intro k64 q64 v1 v2 s hf
    unfold f_X8_prove_j121 at hf
    refine g_iinc (v' := v2 + 1) (lv' := [(2, .int (v2 + 1)), (0, .ref (ad w 0)), (1, .int v1)]) C dX8_prove_121 2 rfl rfl (by decide) rfl ?_
    refine g_goto (tgt := 64) C dX8_prove_124 (by decide) ?_
    refine g_sub [1, 2, 0] rfl ?_
    exact q64 _ _ _ hf
  have j118 : ∀ (k64 : Int32 → Int32 → Mem → Option (Int32 × Mem)), (∀ (v1 : Int32) (v2 : Int32) (s : Mem), k64 v1 v2 s = some (r, s') → G x (QI x w r s') 3 w 64 [(0, .ref (ad w 0)), (1, .int v1), (2, .int v2)] [] s) → ∀ (v1 : Int32) (v2 : Int32) (p0 : Bool) (p1 : Int32) (s : Mem), f_X8_prove_j118 N k64 v1 v2 p0 p1 s = some (r, s') → G x (QI x w r s') 3 w 118 [(0, .ref (ad w 0)), (1, .int v1), (2, .int v2)] [.int (bI p0), .int p1, .ref (ad w 0)] s := by
    intro k64 q64 v1 v2 p0 p1 s hf
    unfold f_X8_prove_j118 at hf
    refine g_callVV C (R := RX8) (T := TX8) (N := 11) [.int p1, .int (bI p0)] (fun _ h => c_X8_addRow (kl x) N w hS _ _ h) (g_cwV C hR ml_X8_268 im_X8_addRow sl_X8_addRow ini_X8 cd_X8_addRow hd_X8_addRow (by decide)) kd_0 (by decide) rfl (in_0 hS) rfl _ rfl (Nat.le_of_ble_eq_true rfl) dX8_prove_118 hf (fun s1 hf => ?_)
    exact j121 k64 q64 _ _ _ hf
  have j64 : ∀ (n : Nat), ∀ (v1 : Int32) (v2 : Int32) (s : Mem), f_X8_prove_L64 N n v1 v2 s = some (r, s') → G x (QI x w r s') 3 w 64 [(0, .ref (ad w 0)), (1, .int v1), (2, .int v2)] [] s := by
    intro n
    induction n with
    | zero => intro v1 v2 s hf; cases hf
    | succ n ih =>
      intro v1 v2 s hf
      unfold f_X8_prove_L64 at hf
      refine g_iload_n C dX8_prove_64 rfl 2 rfl ?_
      refine g_aload_n C dX8_prove_65 rfl 0 rfl ?_
      refine g_get C (R := RX8) (T := TX8) (N := 11) (k := 0) (v := .ref (ad w 1)) kd_0 (by decide) rfl (in_0 hS) hinX8 (by decide) fl_X8_10 rfl rfl dX8_prove_66 ?_
      refine g_get C (R := RX0) (T := TX0) (N := 8) (k := 1) (v := .ref (ad w 4)) kd_1 (by decide) rfl (in_1 hS) hinX0 (by decide) fl_X8_122 rfl rfl dX8_prove_69 ?_
      refine g_get C (R := RX5) (T := TX5) (N := 4) (k := 3) (v := .int (rI s 4 3)) kd_4 (by decide) rfl (in_4 hS) hinX5 (by decide) fl_X8_228 rfl rfl dX8_prove_72 ?_
      refine g_icmp_ge (tgt := 127) C dX8_prove_75 (by decide) hf (fun hf => ?_) (fun hf => ?_)
      · refine g_aload_n C dX8_prove_127 rfl 0 rfl ?_
        refine g_get C (R := RX8) (T := TX8) (N := 11) (k := 7) (v := .ref (ad w 45)) kd_0 (by decide) rfl (in_0 hS) hinX8 (by decide) fl_X8_58 rfl rfl dX8_prove_128 ?_
        refine g_get C (R := RX5) (T := TX5) (N := 4) (k := 3) (v := .int (rI s 45 3)) kd_45 (by decide) rfl (in_45 hS) hinX5 (by decide) fl_X8_228 rfl rfl dX8_prove_131 ?_
        exact g_iret C dX8_prove_134 hf
      · refine g_aload_n C dX8_prove_78 rfl 0 rfl ?_
        refine g_get C (R := RX8) (T := TX8) (N := 11) (k := 0) (v := .ref (ad w 1)) kd_0 (by decide) rfl (in_0 hS) hinX8 (by decide) fl_X8_10 rfl rfl dX8_prove_79 ?_
        refine g_iload_n C dX8_prove_82 rfl 2 rfl ?_
        refine g_iload_n C dX8_prove_83 rfl 1 rfl ?_
        refine g_callVB C (R := RX0) (T := TX0) (N := 8) [.int v2, .int v1] (fun _ _ h => c_X0_isOf (kl x) N w hS _ _ h) (g_cwV C hR ml_X8_271 im_X0_isOf sl_X0_isOf ini_X0 cd_X0_isOf hd_X0_isOf (by decide)) kd_1 (by decide) rfl (in_1 hS) rfl _ rfl (Nat.le_of_ble_eq_true rfl) dX8_prove_84 hf (fun r1 s1 hf => ?_)
        refine g_ifneB (tgt := 93) C dX8_prove_87 (by decide) hf (fun hf => ?_) (fun hf => ?_)
        · refine g_aload_n C dX8_prove_93 rfl 0 rfl ?_
          refine g_iload_n C dX8_prove_94 rfl 2 rfl ?_
          refine g_aload_n C dX8_prove_95 rfl 0 rfl ?_
          refine g_get C (R := RX8) (T := TX8) (N := 11) (k := 0) (v := .ref (ad w 1)) kd_0 (by decide) rfl (in_0 hS) hinX8 (by decide) fl_X8_10 rfl rfl dX8_prove_96 ?_
          refine g_iload_n C dX8_prove_99 rfl 2 rfl ?_
          refine g_aload_n C dX8_prove_100 rfl 0 rfl ?_
          refine g_get C (R := RX8) (T := TX8) (N := 11) (k := 3) (v := .ref (ad w 31)) kd_0 (by decide) rfl (in_0 hS) hinX8 (by decide) fl_X8_26 rfl rfl dX8_prove_101 ?_
          refine g_get C (R := RX2) (T := TX2) (N := 4) (k := 3) (v := .int (rI s1 31 3)) kd_31 (by decide) rfl (in_31 hS) hinX2 (by decide) fl_X8_162 rfl rfl dX8_prove_104 ?_
          refine g_callVB C (R := RX0) (T := TX0) (N := 8) [.int v2, .int (rI s1 31 3)] (fun _ _ h => c_X0_isInSpan (kl x) N w hS _ _ h) (g_cwV C hR ml_X8_125 im_X0_isInSpan sl_X0_isInSpan ini_X0 cd_X0_isInSpan hd_X0_isInSpan (by decide)) kd_1 (by decide) rfl (in_1 hS) rfl _ rfl (Nat.le_of_ble_eq_true rfl) dX8_prove_107 hf (fun r2 s2 hf => ?_)
          refine g_ifeqB (tgt := 117) C dX8_prove_110 (by decide) hf (fun hf => ?_) (fun hf => ?_)
          · refine g_iconst C (v := 0) dX8_prove_117 rfl ?_
            exact j118 (f_X8_prove_L64 N n) ih _ _ _ _ _ hf
          · refine g_iconst C (v := 1) dX8_prove_113 rfl ?_
            refine g_goto (tgt := 118) C dX8_prove_114 (by decide) ?_
            exact j118 (f_X8_prove_L64 N n) ih _ _ _ _ _ hf
        · refine g_goto (tgt := 121) C dX8_prove_90 (by decide) ?_
          exact j121 (f_X8_prove_L64 N n) ih _ _ _ hf
  refine g_lv (lv' := [(0, .ref (ad w 0)), (1, .int a1)]) rfl ?_
  unfold f_X8_prove at hf
  refine g_aload_n C dX8_prove_0 rfl 0 rfl ?_
  refine g_get C (R := RX8) (T := TX8) (N := 11) (k := 0) (v := .ref (ad w 1)) kd_0 (by decide) rfl (in_0 hS) hinX8 (by decide) fl_X8_10 rfl rfl dX8_prove_1 ?_
  refine g_get C (R := RX0) (T := TX0) (N := 8) (k := 0) (v := .ref (ad w 2)) kd_1 (by decide) rfl (in_1 hS) hinX0 (by decide) fl_X8_95 rfl rfl dX8_prove_4 ?_
  refine g_iload_n C dX8_prove_7 rfl 1 rfl ?_
  refine g_callVB C (R := RX5) (T := TX5) (N := 4) [.int a1] (fun _ _ h => c_X5_has (kl x) N w (ok_2 hS) _ h) (g_cwV C hR ml_X8_102 im_X5_has sl_X5_has ini_X5 cd_X5_has hd_X5_has (by decide)) kd_2 (by decide) rfl (in_2 hS) rfl _ rfl (Nat.le_of_ble_eq_true rfl) dX8_prove_8 hf (fun r1 s1 hf => ?_)
  refine g_ifneB (tgt := 16) C dX8_prove_11 (by decide) hf (fun hf => ?_) (fun hf => ?_)
  · refine g_aload_n C dX8_prove_16 rfl 0 rfl ?_
    refine g_get C (R := RX8) (T := TX8) (N := 11) (k := 3) (v := .ref (ad w 31)) kd_0 (by decide) rfl (in_0 hS) hinX8 (by decide) fl_X8_26 rfl rfl dX8_prove_17 ?_
    refine g_aload_n C dX8_prove_20 rfl 0 rfl ?_
    refine g_get C (R := RX8) (T := TX8) (N := 11) (k := 0) (v := .ref (ad w 1)) kd_0 (by decide) rfl (in_0 hS) hinX8 (by decide) fl_X8_10 rfl rfl dX8_prove_21 ?_
    refine g_iload_n C dX8_prove_24 rfl 1 rfl ?_
    refine g_callVV C (R := RX2) (T := TX2) (N := 4) [.ref (ad w 1), .int a1] (fun _ h => c_X2_weigh (kl x) N w hS _ h) (g_cwV C hR ml_X8_150 im_X2_weigh sl_X2_weigh ini_X2 cd_X2_weigh hd_X2_weigh (by decide)) kd_31 (by decide) rfl (in_31 hS) rfl _ rfl (Nat.le_of_ble_eq_true rfl) dX8_prove_25 hf (fun s2 hf => ?_)
    refine g_aload_n C dX8_prove_28 rfl 0 rfl ?_
    refine g_get C (R := RX8) (T := TX8) (N := 11) (k := 3) (v := .ref (ad w 31)) kd_0 (by decide) rfl (in_0 hS) hinX8 (by decide) fl_X8_26 rfl rfl dX8_prove_29 ?_
    refine g_get C (R := RX2) (T := TX2) (N := 4) (k := 3) (v := .int (rI s2 31 3)) kd_31 (by decide) rfl (in_31 hS) hinX2 (by decide) fl_X8_162 rfl rfl dX8_prove_32 ?_
    refine g_bipush C (v := (-3)) dX8_prove_35 (by decide) ?_
    refine g_icmp_ne (tgt := 43) C dX8_prove_37 (by decide) hf (fun hf => ?_) (fun hf => ?_)
    · refine g_aload_n C dX8_prove_43 rfl 0 rfl ?_
      refine g_get C (R := RX8) (T := TX8) (N := 11) (k := 7) (v := .ref (ad w 45)) kd_0 (by decide) rfl (in_0 hS) hinX8 (by decide) fl_X8_58 rfl rfl dX8_prove_44 ?_
      refine g_callVV C (R := RX5) (T := TX5) (N := 4) [] (fun _ h => c_X5_clear (kl x) N w (ok_45 hS) h) (g_cwV C hR ml_X8_267 im_X5_clear sl_X5_clear ini_X5 cd_X5_clear hd_X5_clear (by decide)) kd_45 (by decide) rfl (in_45 hS) rfl _ rfl (Nat.le_of_ble_eq_true rfl) dX8_prove_47 hf (fun s3 hf => ?_)
      refine g_aload_n C dX8_prove_50 rfl 0 rfl ?_
      refine g_iload_n C dX8_prove_51 rfl 1 rfl ?_
      refine g_aload_n C dX8_prove_52 rfl 0 rfl ?_
      refine g_get C (R := RX8) (T := TX8) (N := 11) (k := 3) (v := .ref (ad w 31)) kd_0 (by decide) rfl (in_0 hS) hinX8 (by decide) fl_X8_26 rfl rfl dX8_prove_53 ?_
      refine g_get C (R := RX2) (T := TX2) (N := 4) (k := 3) (v := .int (rI s3 31 3)) kd_31 (by decide) rfl (in_31 hS) hinX2 (by decide) fl_X8_162 rfl rfl dX8_prove_56 ?_
      refine g_callVV C (R := RX8) (T := TX8) (N := 11) [.int a1, .int (rI s3 31 3)] (fun _ h => c_X8_addRow (kl x) N w hS _ _ h) (g_cwV C hR ml_X8_268 im_X8_addRow sl_X8_addRow ini_X8 cd_X8_addRow hd_X8_addRow (by decide)) kd_0 (by decide) rfl (in_0 hS) rfl _ rfl (Nat.le_of_ble_eq_true rfl) dX8_prove_59 hf (fun s4 hf => ?_)
      refine g_iconst C (v := 0) dX8_prove_62 rfl ?_
      refine g_istore_n (lv' := [(2, .int 0), (0, .ref (ad w 0)), (1, .int a1)]) C dX8_prove_63 rfl (by decide) rfl ?_
      refine g_sub [1, 2, 0] rfl ?_
      exact j64 N _ _ _ hf
    · refine g_bipush C (v := (-3)) dX8_prove_40 (by decide) ?_
      exact g_iret C dX8_prove_42 hf
  · refine g_iconst C (v := (-1)) dX8_prove_14 rfl ?_
    exact g_iret C dX8_prove_15 hf

set_option maxHeartbeats 4000000 in
set_option maxRecDepth 100000 in
theorem c_X8_row (l : Launch) (N : Nat) (w : WX) (hS : SS w = Sc) (a1 : Int32) (a2 : Int32) {s s' : Mem} {r : Int32} (hf : f_X8_row N a1 a2 s = some (r, s')) : CI l yX8_row (wz yX8_row cX8_row 3 (some .int)) ({ frames := 1, cells := 0, slots := 0, locals := 23 } : Room) [.ref (ad w 0), .int a1, .int a2] w s r s' := by
  refine met_startI (cc := cX8_row) (ret := (some .int)) (own := RX8) (maxL := 3) (by decide) rfl (Nat.le_of_ble_eq_true rfl) (fun x C hR hl => ?_)
  refine g_lv (lv' := [(0, .ref (ad w 0)), (1, .int a1), (2, .int a2)]) rfl ?_
  unfold f_X8_row at hf
  refine g_aload_n C dX8_row_0 rfl 0 rfl ?_
  refine g_get C (R := RX8) (T := TX8) (N := 11) (k := 7) (v := .ref (ad w 45)) kd_0 (by decide) rfl (in_0 hS) hinX8 (by decide) fl_X8_58 rfl rfl dX8_row_1 ?_
  refine g_iload_n C dX8_row_4 rfl 1 rfl ?_
  refine g_callVB C (R := RX5) (T := TX5) (N := 4) [.int a1] (fun _ _ h => c_X5_has (kl x) N w (ok_45 hS) _ h) (g_cwV C hR ml_X8_102 im_X5_has sl_X5_has ini_X5 cd_X5_has hd_X5_has (by decide)) kd_45 (by decide) rfl (in_45 hS) rfl _ rfl (Nat.le_of_ble_eq_true rfl) dX8_row_5 hf (fun r1 s1 hf => ?_)
  refine g_ifeqB (tgt := 20) C dX8_row_8 (by decide) hf (fun hf => ?_) (fun hf => ?_)
  · refine g_bipush C (v := (-9)) dX8_row_20 (by decide) ?_
    exact g_iret C dX8_row_22 hf
  · refine g_iload_n C dX8_row_11 rfl 2 rfl ?_
    refine g_iconst C (v := 0) dX8_row_12 rfl ?_
    refine g_iconst C (v := 1) dX8_row_13 rfl ?_
    refine g_callSB C [.int a2, .int 0, .int 1] (fun _ _ h => c_X8_isWithin (kl x) N w _ _ _ h) (g_cwS C hR ml_X8_91 sm_X8_isWithin ini_X8 cd_X8_isWithin hd_X8_isWithin (by decide)) rfl _ rfl (Nat.le_of_ble_eq_true rfl) dX8_row_14 hf (fun r2 s2 hf => ?_)
    refine g_ifneB (tgt := 23) C dX8_row_17 (by decide) hf (fun hf => ?_) (fun hf => ?_)
    · refine g_aload_n C dX8_row_23 rfl 0 rfl ?_
      refine g_get C (R := RX8) (T := TX8) (N := 11) (k := 7) (v := .ref (ad w 45)) kd_0 (by decide) rfl (in_0 hS) hinX8 (by decide) fl_X8_58 rfl rfl dX8_row_24 ?_
      refine g_iload_n C dX8_row_27 rfl 1 rfl ?_
      refine g_iload_n C dX8_row_28 rfl 2 rfl ?_
      refine g_callVI C (R := RX5) (T := TX5) (N := 4) [.int a1, .int a2] (fun _ _ h => c_X5_get (kl x) N w (ok_45 hS) _ _ h) (g_cwV C hR ml_X8_105 im_X5_get sl_X5_get ini_X5 cd_X5_get hd_X5_get (by decide)) kd_45 (by decide) rfl (in_45 hS) rfl _ rfl (Nat.le_of_ble_eq_true rfl) dX8_row_29 hf (fun r3 s3 hf => ?_)
      exact g_iret C dX8_row_32 hf
    · refine g_bipush C (v := (-9)) dX8_row_20 (by decide) ?_
      exact g_iret C dX8_row_22 hf

set_option maxHeartbeats 4000000 in
set_option maxRecDepth 100000 in
theorem c_X8_alterRow (l : Launch) (N : Nat) (w : WX) (hS : SS w = Sc) (a1 : Int32) (a2 : Int32) (a3 : Int32) {s s' : Mem} {r : Int32} (hf : f_X8_alterRow N a1 a2 a3 s = some (r, s')) : CI l yX8_alterRow (wz yX8_alterRow cX8_alterRow 5 (some .int)) ({ frames := 1, cells := 0, slots := 0, locals := 24 } : Room) [.ref (ad w 0), .int a1, .int a2, .int a3] w s r s' := by
  refine met_startI (cc := cX8_alterRow) (ret := (some .int)) (own := RX8) (maxL := 5) (by decide) rfl (Nat.le_of_ble_eq_true rfl) (fun x C hR hl => ?_)
  refine g_lv (lv' := [(0, .ref (ad w 0)), (1, .int a1), (2, .int a2), (3, .int a3)]) rfl ?_
  unfold f_X8_alterRow at hf
  refine g_aload_n C dX8_alterRow_0 rfl 0 rfl ?_
  refine g_get C (R := RX8) (T := TX8) (N := 11) (k := 7) (v := .ref (ad w 45)) kd_0 (by decide) rfl (in_0 hS) hinX8 (by decide) fl_X8_58 rfl rfl dX8_alterRow_1 ?_
  refine g_iload_n C dX8_alterRow_4 rfl 1 rfl ?_
  refine g_callVB C (R := RX5) (T := TX5) (N := 4) [.int a1] (fun _ _ h => c_X5_has (kl x) N w (ok_45 hS) _ h) (g_cwV C hR ml_X8_102 im_X5_has sl_X5_has ini_X5 cd_X5_has hd_X5_has (by decide)) kd_45 (by decide) rfl (in_45 hS) rfl _ rfl (Nat.le_of_ble_eq_true rfl) dX8_alterRow_5 hf (fun r1 s1 hf => ?_)
  refine g_ifeqB (tgt := 20) C dX8_alterRow_8 (by decide) hf (fun hf => ?_) (fun hf => ?_)
  · refine g_bipush C (v := (-9)) dX8_alterRow_20 (by decide) ?_
    exact g_iret C dX8_alterRow_22 hf
  · refine g_iload_n C dX8_alterRow_11 rfl 2 rfl ?_
    refine g_iconst C (v := 0) dX8_alterRow_12 rfl ?_
    refine g_iconst C (v := 1) dX8_alterRow_13 rfl ?_
    refine g_callSB C [.int a2, .int 0, .int 1] (fun _ _ h => c_X8_isWithin (kl x) N w _ _ _ h) (g_cwS C hR ml_X8_91 sm_X8_isWithin ini_X8 cd_X8_isWithin hd_X8_isWithin (by decide)) rfl _ rfl (Nat.le_of_ble_eq_true rfl) dX8_alterRow_14 hf (fun r2 s2 hf => ?_)
    refine g_ifneB (tgt := 23) C dX8_alterRow_17 (by decide) hf (fun hf => ?_) (fun hf => ?_)
    · refine g_aload_n C dX8_alterRow_23 rfl 0 rfl ?_
      refine g_get C (R := RX8) (T := TX8) (N := 11) (k := 7) (v := .ref (ad w 45)) kd_0 (by decide) rfl (in_0 hS) hinX8 (by decide) fl_X8_58 rfl rfl dX8_alterRow_24 ?_
      refine g_iload_n C dX8_alterRow_27 rfl 1 rfl ?_
      refine g_iload_n C dX8_alterRow_28 rfl 2 rfl ?_
      refine g_callVI C (R := RX5) (T := TX5) (N := 4) [.int a1, .int a2] (fun _ _ h => c_X5_get (kl x) N w (ok_45 hS) _ _ h) (g_cwV C hR ml_X8_105 im_X5_get sl_X5_get ini_X5 cd_X5_get hd_X5_get (by decide)) kd_45 (by decide) rfl (in_45 hS) rfl _ rfl (Nat.le_of_ble_eq_true rfl) dX8_alterRow_29 hf (fun r3 s3 hf => ?_)
      refine g_istore (lv' := [(4, .int r3), (0, .ref (ad w 0)), (1, .int a1), (2, .int a2), (3, .int a3)]) C dX8_alterRow_32 (by decide) rfl ?_
      refine g_aload_n C dX8_alterRow_34 rfl 1 rfl ?_
      refine g_get C (R := RX8) (T := TX8) (N := 11) (k := 7) (v := .ref (ad w 45)) kd_0 (by decide) rfl (in_0 hS) hinX8 (by decide) fl_X8_58 rfl rfl dX8_alterRow_35 ?_
      refine g_iload_n C dX8_alterRow_38 rfl 2 rfl ?_
      refine g_iload_n C dX8_alterRow_39 rfl 3 rfl ?_
      refine g_iload_n C dX8_alterRow_40 rfl 4 rfl ?_
      refine g_callVV C (R := RX5) (T := TX5) (N := 4) [.int a1, .int a2, .int a3] (fun _ h => c_X5_set (kl x) N w (ok_45 hS) _ _ _ h) (g_cwV C hR ml_X8_83 im_X5_set sl_X5_set ini_X5 cd_X5_set hd_X5_set (by decide)) kd_45 (by decide) rfl (in_45 hS) rfl _ rfl (Nat.le_of_ble_eq_true rfl) dX8_alterRow_41 hf (fun s4 hf => ?_)
      refine g_iload C dX8_alterRow_44 0 rfl ?_
      exact g_iret C dX8_alterRow_46 hf
    · refine g_bipush C (v := (-9)) dX8_alterRow_20 (by decide) ?_
      exact g_iret C dX8_alterRow_22 hf

set_option maxHeartbeats 4000000 in
set_option maxRecDepth 100000 in
theorem c_X8_judge (l : Launch) (N : Nat) (w : WX) (hS : SS w = Sc) {s s' : Mem} {r : Int32} (hf : f_X8_judge N s = some (r, s')) : CI l yX8_judge (wz yX8_judge cX8_judge 5 (some .int)) ({ frames := 4, cells := 0, slots := 0, locals := 95 } : Room) [.ref (ad w 0)] w s r s' := by
  refine met_startI (cc := cX8_judge) (ret := (some .int)) (own := RX8) (maxL := 5) (by decide) rfl (Nat.le_of_ble_eq_true rfl) (fun x C hR hl => ?_)
  have j180 : ∀ (v1 : Int32) (v3 : Int32) (s : Mem), f_X8_judge_j180 N v1 v3 s = some (r, s') → G x (QI x w r s') 5 w 180 [(0, .ref (ad w 0)), (1, .int v1), (3, .int v3)] [] s := by
    intro v1 v3 s hf
    unfold f_X8_judge_j180 at hf
    refine g_aload_n C dX8_judge_180 rfl 0 rfl ?_
    refine g_get C (R := RX8) (T := TX8) (N := 11) (k := 0) (v := .ref (ad w 1)) kd_0 (by decide) rfl (in_0 hS) hinX8 (by decide) fl_X8_10 rfl rfl dX8_judge_181 ?_
    refine g_iload_n C dX8_judge_184 rfl 1 rfl ?_
    refine g_iload_n C dX8_judge_185 rfl 2 rfl ?_
    refine g_callVI C (R := RX0) (T := TX0) (N := 8) [.int v1, .int v3] (fun _ _ h => c_X0_nextPaperOf (kl x) N w hS _ _ h) (g_cwV C hR ml_X8_274 im_X0_nextPaperOf sl_X0_nextPaperOf ini_X0 cd_X0_nextPaperOf hd_X0_nextPaperOf (by decide)) kd_1 (by decide) rfl (in_1 hS) rfl _ rfl (Nat.le_of_ble_eq_true rfl) dX8_judge_186 hf (fun r1 s1 hf => ?_)
    refine g_bipush C (v := (-3)) dX8_judge_189 (by decide) ?_
    refine g_icmp_ne (tgt := 198) C dX8_judge_191 (by decide) hf (fun hf => ?_) (fun hf => ?_)
    · refine g_bipush C (v := 20) dX8_judge_198 (by decide) ?_
      exact g_iret C dX8_judge_200 hf
    · refine g_iconst C (v := 0) dX8_judge_194 rfl ?_
      refine g_goto (tgt := 200) C dX8_judge_195 (by decide) ?_
      exact g_iret C dX8_judge_200 hf
  have j166 : ∀ (k92 : Int32 → Int32 → Int32 → Int32 → Mem → Option (Int32 × Mem)) (k180 : Int32 → Int32 → Mem → Option (Int32 × Mem)), (∀ (v1 : Int32) (v2 : Int32) (v3 : Int32) (v4 : Int32) (s : Mem), k92 v1 v2 v3 v4 s = some (r, s') → G x (QI x w r s') 5 w 92 [(0, .ref (ad w 0)), (1, .int v1), (2, .int v2), (3, .int v3), (4, .int v4)] [] s) → (∀ (v1 : Int32) (v3 : Int32) (s : Mem), k180 v1 v3 s = some (r, s') → G x (QI x w r s') 5 w 180 [(0, .ref (ad w 0)), (1, .int v1), (3, .int v3)] [] s) → ∀ (v1 : Int32) (v2 : Int32) (v3 : Int32) (v4 : Int32) (p0 : Bool) (p1 : Int32) (s : Mem), f_X8_judge_j166 N k92 k180 v1 v2 v3 v4 p0 p1 s = some (r, s') → G x (QI x w r s') 5 w 166 [(0, .ref (ad w 0)), (1, .int v1), (2, .int v2), (3, .int v3), (4, .int v4)] [.int (bI p0), .int p1] s := by
    intro k92 k180 q92 q180 v1 v2 v3 v4 p0 p1 s hf
    unfold f_X8_judge_j166 at hf
    refine g_icmp_eq (tgt := 174) C dX8_judge_166 (by decide) hf (fun hf => ?_) (fun hf => ?_)
    · refine g_iinc (v' := v4 + 1) (lv' := [(4, .int (v4 + 1)), (0, .ref (ad w 0)), (1, .int v1), (2, .int v2), (3, .int v3)]) C dX8_judge_174 4 rfl rfl (by decide) rfl ?_
      refine g_goto (tgt := 92) C dX8_judge_177 (by decide) ?_
      refine g_sub [1, 2, 3, 4, 0] rfl ?_
      exact q92 _ _ _ _ _ hf
    · refine g_iload C dX8_judge_169 4 rfl ?_
      refine g_iconst C (v := 1) dX8_judge_171 rfl ?_
      refine g_iadd C dX8_judge_172 ?_
      exact g_iret C dX8_judge_173 hf
  have j92 : ∀ (k180 : Int32 → Int32 → Mem → Option (Int32 × Mem)), (∀ (v1 : Int32) (v3 : Int32) (s : Mem), k180 v1 v3 s = some (r, s') → G x (QI x w r s') 5 w 180 [(0, .ref (ad w 0)), (1, .int v1), (3, .int v3)] [] s) → ∀ (n : Nat), ∀ (v1 : Int32) (v2 : Int32) (v3 : Int32) (v4 : Int32) (s : Mem), f_X8_judge_L92 N k180 n v1 v2 v3 v4 s = some (r, s') → G x (QI x w r s') 5 w 92 [(0, .ref (ad w 0)), (1, .int v1), (2, .int v2), (3, .int v3), (4, .int v4)] [] s := by
    intro k180 q180 n
    induction n with
    | zero => intro v1 v2 v3 v4 s hf; cases hf
    | succ n ih =>
      intro v1 v2 v3 v4 s hf
      unfold f_X8_judge_L92 at hf
      refine g_iload C dX8_judge_92 4 rfl ?_
      refine g_aload_n C dX8_judge_94 rfl 0 rfl ?_
      refine g_get C (R := RX8) (T := TX8) (N := 11) (k := 7) (v := .ref (ad w 45)) kd_0 (by decide) rfl (in_0 hS) hinX8 (by decide) fl_X8_58 rfl rfl dX8_judge_95 ?_
      refine g_get C (R := RX5) (T := TX5) (N := 4) (k := 3) (v := .int (rI s 45 3)) kd_45 (by decide) rfl (in_45 hS) hinX5 (by decide) fl_X8_228 rfl rfl dX8_judge_98 ?_
      refine g_icmp_ge (tgt := 180) C dX8_judge_101 (by decide) hf (fun hf => ?_) (fun hf => ?_)
      · refine g_sub [0, 1, 3] rfl ?_
        exact q180 _ _ _ hf
      · refine g_aload_n C dX8_judge_104 rfl 0 rfl ?_
        refine g_get C (R := RX8) (T := TX8) (N := 11) (k := 0) (v := .ref (ad w 1)) kd_0 (by decide) rfl (in_0 hS) hinX8 (by decide) fl_X8_10 rfl rfl dX8_judge_105 ?_
        refine g_iload_n C dX8_judge_108 rfl 1 rfl ?_
        refine g_iload_n C dX8_judge_109 rfl 3 rfl ?_
        refine g_callVI C (R := RX0) (T := TX0) (N := 8) [.int v1, .int v3] (fun _ _ h => c_X0_nextPaperOf (kl x) N w hS _ _ h) (g_cwV C hR ml_X8_274 im_X0_nextPaperOf sl_X0_nextPaperOf ini_X0 cd_X0_nextPaperOf hd_X0_nextPaperOf (by decide)) kd_1 (by decide) rfl (in_1 hS) rfl _ rfl (Nat.le_of_ble_eq_true rfl) dX8_judge_110 hf (fun r1 s1 hf => ?_)
        refine g_istore_n (lv' := [(3, .int r1), (0, .ref (ad w 0)), (1, .int v1), (2, .int v2), (4, .int v4)]) C dX8_judge_113 rfl (by decide) rfl ?_
        refine g_iload_n C dX8_judge_114 rfl 0 rfl ?_
        refine g_bipush C (v := (-3)) dX8_judge_115 (by decide) ?_
        refine g_icmp_eq (tgt := 134) C dX8_judge_117 (by decide) hf (fun hf => ?_) (fun hf => ?_)
        · refine g_iload C dX8_judge_134 4 rfl ?_
          refine g_iconst C (v := 1) dX8_judge_136 rfl ?_
          refine g_iadd C dX8_judge_137 ?_
          exact g_iret C dX8_judge_138 hf
        · refine g_aload_n C dX8_judge_120 rfl 1 rfl ?_
          refine g_get C (R := RX8) (T := TX8) (N := 11) (k := 7) (v := .ref (ad w 45)) kd_0 (by decide) rfl (in_0 hS) hinX8 (by decide) fl_X8_58 rfl rfl dX8_judge_121 ?_
          refine g_iload C dX8_judge_124 4 rfl ?_
          refine g_iconst C (v := 0) dX8_judge_126 rfl ?_
          refine g_callVI C (R := RX5) (T := TX5) (N := 4) [.int v4, .int 0] (fun _ _ h => c_X5_get (kl x) N w (ok_45 hS) _ _ h) (g_cwV C hR ml_X8_105 im_X5_get sl_X5_get ini_X5 cd_X5_get hd_X5_get (by decide)) kd_45 (by decide) rfl (in_45 hS) rfl _ rfl (Nat.le_of_ble_eq_true rfl) dX8_judge_127 hf (fun r2 s2 hf => ?_)
          refine g_iload_n C dX8_judge_130 rfl 0 rfl ?_
          refine g_icmp_eq (tgt := 139) C dX8_judge_131 (by decide) hf (fun hf => ?_) (fun hf => ?_)
          · refine g_aload_n C dX8_judge_139 rfl 1 rfl ?_
            refine g_get C (R := RX8) (T := TX8) (N := 11) (k := 7) (v := .ref (ad w 45)) kd_0 (by decide) rfl (in_0 hS) hinX8 (by decide) fl_X8_58 rfl rfl dX8_judge_140 ?_
            refine g_iload C dX8_judge_143 4 rfl ?_
            refine g_iconst C (v := 1) dX8_judge_145 rfl ?_
            refine g_callVI C (R := RX5) (T := TX5) (N := 4) [.int v4, .int 1] (fun _ _ h => c_X5_get (kl x) N w (ok_45 hS) _ _ h) (g_cwV C hR ml_X8_105 im_X5_get sl_X5_get ini_X5 cd_X5_get hd_X5_get (by decide)) kd_45 (by decide) rfl (in_45 hS) rfl _ rfl (Nat.le_of_ble_eq_true rfl) dX8_judge_146 hf (fun r3 s3 hf => ?_)
            refine g_aload_n C dX8_judge_149 rfl 1 rfl ?_
            refine g_get C (R := RX8) (T := TX8) (N := 11) (k := 0) (v := .ref (ad w 1)) kd_0 (by decide) rfl (in_0 hS) hinX8 (by decide) fl_X8_10 rfl rfl dX8_judge_150 ?_
            refine g_iload_n C dX8_judge_153 rfl 0 rfl ?_
            refine g_iload_n C dX8_judge_154 rfl 3 rfl ?_
            refine g_callVB C (R := RX0) (T := TX0) (N := 8) [.int r1, .int v2] (fun _ _ h => c_X0_isInSpan (kl x) N w hS _ _ h) (g_cwV C hR ml_X8_125 im_X0_isInSpan sl_X0_isInSpan ini_X0 cd_X0_isInSpan hd_X0_isInSpan (by decide)) kd_1 (by decide) rfl (in_1 hS) rfl _ rfl (Nat.le_of_ble_eq_true rfl) dX8_judge_155 hf (fun r4 s4 hf => ?_)
            refine g_ifeqB (tgt := 165) C dX8_judge_158 (by decide) hf (fun hf => ?_) (fun hf => ?_)
            · refine g_iconst C (v := 0) dX8_judge_165 rfl ?_
              refine g_sub [1, 2, 3, 0, 4] rfl ?_
              exact j166 (f_X8_judge_L92 N k180 n) k180 ih q180 _ _ _ _ _ _ _ hf
            · refine g_iconst C (v := 1) dX8_judge_161 rfl ?_
              refine g_goto (tgt := 166) C dX8_judge_162 (by decide) ?_
              refine g_sub [1, 2, 3, 0, 4] rfl ?_
              exact j166 (f_X8_judge_L92 N k180 n) k180 ih q180 _ _ _ _ _ _ _ hf
          · refine g_iload C dX8_judge_134 4 rfl ?_
            refine g_iconst C (v := 1) dX8_judge_136 rfl ?_
            refine g_iadd C dX8_judge_137 ?_
            exact g_iret C dX8_judge_138 hf
  refine g_lv (lv' := [(0, .ref (ad w 0))]) rfl ?_
  unfold f_X8_judge at hf
  refine g_aload_n C dX8_judge_0 rfl 0 rfl ?_
  refine g_get C (R := RX8) (T := TX8) (N := 11) (k := 7) (v := .ref (ad w 45)) kd_0 (by decide) rfl (in_0 hS) hinX8 (by decide) fl_X8_58 rfl rfl dX8_judge_1 ?_
  refine g_get C (R := RX5) (T := TX5) (N := 4) (k := 3) (v := .int (rI s 45 3)) kd_45 (by decide) rfl (in_45 hS) hinX5 (by decide) fl_X8_228 rfl rfl dX8_judge_4 ?_
  refine g_if_ne (tgt := 13) C dX8_judge_7 (by decide) hf (fun hf => ?_) (fun hf => ?_)
  · refine g_aload_n C dX8_judge_13 rfl 0 rfl ?_
    refine g_get C (R := RX8) (T := TX8) (N := 11) (k := 7) (v := .ref (ad w 45)) kd_0 (by decide) rfl (in_0 hS) hinX8 (by decide) fl_X8_58 rfl rfl dX8_judge_14 ?_
    refine g_iconst C (v := 0) dX8_judge_17 rfl ?_
    refine g_iconst C (v := 0) dX8_judge_18 rfl ?_
    refine g_callVI C (R := RX5) (T := TX5) (N := 4) [.int 0, .int 0] (fun _ _ h => c_X5_get (kl x) N w (ok_45 hS) _ _ h) (g_cwV C hR ml_X8_105 im_X5_get sl_X5_get ini_X5 cd_X5_get hd_X5_get (by decide)) kd_45 (by decide) rfl (in_45 hS) rfl _ rfl (Nat.le_of_ble_eq_true rfl) dX8_judge_19 hf (fun r1 s1 hf => ?_)
    refine g_istore_n (lv' := [(1, .int r1), (0, .ref (ad w 0))]) C dX8_judge_22 rfl (by decide) rfl ?_
    refine g_aload_n C dX8_judge_23 rfl 1 rfl ?_
    refine g_get C (R := RX8) (T := TX8) (N := 11) (k := 7) (v := .ref (ad w 45)) kd_0 (by decide) rfl (in_0 hS) hinX8 (by decide) fl_X8_58 rfl rfl dX8_judge_24 ?_
    refine g_iconst C (v := 0) dX8_judge_27 rfl ?_
    refine g_iconst C (v := 1) dX8_judge_28 rfl ?_
    refine g_callVI C (R := RX5) (T := TX5) (N := 4) [.int 0, .int 1] (fun _ _ h => c_X5_get (kl x) N w (ok_45 hS) _ _ h) (g_cwV C hR ml_X8_105 im_X5_get sl_X5_get ini_X5 cd_X5_get hd_X5_get (by decide)) kd_45 (by decide) rfl (in_45 hS) rfl _ rfl (Nat.le_of_ble_eq_true rfl) dX8_judge_29 hf (fun r2 s2 hf => ?_)
    refine g_istore_n (lv' := [(2, .int r2), (1, .int r1), (0, .ref (ad w 0))]) C dX8_judge_32 rfl (by decide) rfl ?_
    refine g_aload_n C dX8_judge_33 rfl 2 rfl ?_
    refine g_get C (R := RX8) (T := TX8) (N := 11) (k := 0) (v := .ref (ad w 1)) kd_0 (by decide) rfl (in_0 hS) hinX8 (by decide) fl_X8_10 rfl rfl dX8_judge_34 ?_
    refine g_get C (R := RX0) (T := TX0) (N := 8) (k := 0) (v := .ref (ad w 2)) kd_1 (by decide) rfl (in_1 hS) hinX0 (by decide) fl_X8_95 rfl rfl dX8_judge_37 ?_
    refine g_iload_n C dX8_judge_40 rfl 1 rfl ?_
    refine g_callVB C (R := RX5) (T := TX5) (N := 4) [.int r1] (fun _ _ h => c_X5_has (kl x) N w (ok_2 hS) _ h) (g_cwV C hR ml_X8_102 im_X5_has sl_X5_has ini_X5 cd_X5_has hd_X5_has (by decide)) kd_2 (by decide) rfl (in_2 hS) rfl _ rfl (Nat.le_of_ble_eq_true rfl) dX8_judge_41 hf (fun r3 s3 hf => ?_)
    refine g_ifneB (tgt := 49) C dX8_judge_44 (by decide) hf (fun hf => ?_) (fun hf => ?_)
    · refine g_aload_n C dX8_judge_49 rfl 2 rfl ?_
      refine g_get C (R := RX8) (T := TX8) (N := 11) (k := 3) (v := .ref (ad w 31)) kd_0 (by decide) rfl (in_0 hS) hinX8 (by decide) fl_X8_26 rfl rfl dX8_judge_50 ?_
      refine g_aload_n C dX8_judge_53 rfl 2 rfl ?_
      refine g_get C (R := RX8) (T := TX8) (N := 11) (k := 0) (v := .ref (ad w 1)) kd_0 (by decide) rfl (in_0 hS) hinX8 (by decide) fl_X8_10 rfl rfl dX8_judge_54 ?_
      refine g_iload_n C dX8_judge_57 rfl 1 rfl ?_
      refine g_callVV C (R := RX2) (T := TX2) (N := 4) [.ref (ad w 1), .int r1] (fun _ h => c_X2_weigh (kl x) N w hS _ h) (g_cwV C hR ml_X8_150 im_X2_weigh sl_X2_weigh ini_X2 cd_X2_weigh hd_X2_weigh (by decide)) kd_31 (by decide) rfl (in_31 hS) rfl _ rfl (Nat.le_of_ble_eq_true rfl) dX8_judge_58 hf (fun s4 hf => ?_)
      refine g_aload_n C dX8_judge_61 rfl 2 rfl ?_
      refine g_get C (R := RX8) (T := TX8) (N := 11) (k := 3) (v := .ref (ad w 31)) kd_0 (by decide) rfl (in_0 hS) hinX8 (by decide) fl_X8_26 rfl rfl dX8_judge_62 ?_
      refine g_get C (R := RX2) (T := TX2) (N := 4) (k := 3) (v := .int (rI s4 31 3)) kd_31 (by decide) rfl (in_31 hS) hinX2 (by decide) fl_X8_162 rfl rfl dX8_judge_65 ?_
      refine g_bipush C (v := (-3)) dX8_judge_68 (by decide) ?_
      refine g_icmp_eq (tgt := 84) C dX8_judge_70 (by decide) hf (fun hf => ?_) (fun hf => ?_)
      · refine g_iconst C (v := 1) dX8_judge_84 rfl ?_
        exact g_iret C dX8_judge_85 hf
      · refine g_aload_n C dX8_judge_73 rfl 2 rfl ?_
        refine g_get C (R := RX8) (T := TX8) (N := 11) (k := 3) (v := .ref (ad w 31)) kd_0 (by decide) rfl (in_0 hS) hinX8 (by decide) fl_X8_26 rfl rfl dX8_judge_74 ?_
        refine g_get C (R := RX2) (T := TX2) (N := 4) (k := 3) (v := .int (rI s4 31 3)) kd_31 (by decide) rfl (in_31 hS) hinX2 (by decide) fl_X8_162 rfl rfl dX8_judge_77 ?_
        refine g_iload_n C dX8_judge_80 rfl 0 rfl ?_
        refine g_icmp_eq (tgt := 86) C dX8_judge_81 (by decide) hf (fun hf => ?_) (fun hf => ?_)
        · refine g_bipush C (v := (-3)) dX8_judge_86 (by decide) ?_
          refine g_istore_n (lv' := [(3, .int (-3)), (2, .int r2), (1, .int r1), (0, .ref (ad w 0))]) C dX8_judge_88 rfl (by decide) rfl ?_
          refine g_iconst C (v := 1) dX8_judge_89 rfl ?_
          refine g_istore (lv' := [(4, .int 1), (3, .int (-3)), (2, .int r2), (1, .int r1), (0, .ref (ad w 0))]) C dX8_judge_90 (by decide) rfl ?_
          refine g_sub [4, 3, 2, 1, 0] rfl ?_
          exact j92 (f_X8_judge_j180 N) j180 N _ _ _ _ _ hf
        · refine g_iconst C (v := 1) dX8_judge_84 rfl ?_
          exact g_iret C dX8_judge_85 hf
    · refine g_iconst C (v := 1) dX8_judge_47 rfl ?_
      exact g_iret C dX8_judge_48 hf
  · refine g_bipush C (v := 30) dX8_judge_10 (by decide) ?_
    exact g_iret C dX8_judge_12 hf

set_option maxHeartbeats 4000000 in
set_option maxRecDepth 100000 in
theorem c_X8_sheet (l : Launch) (N : Nat) (w : WX) (hS : SS w = Sc) (a1 : Int32) (a2 : Int32) (a3 : Int32) {s s' : Mem} {r : Int32} (hf : f_X8_sheet N a1 a2 a3 s = some (r, s')) : CI l yX8_sheet (wz yX8_sheet cX8_sheet 4 (some .int)) ({ frames := 2, cells := 0, slots := 0, locals := 45 } : Room) [.ref (ad w 0), .int a1, .int a2, .int a3] w s r s' := by
  refine met_startI (cc := cX8_sheet) (ret := (some .int)) (own := RX8) (maxL := 4) (by decide) rfl (Nat.le_of_ble_eq_true rfl) (fun x C hR hl => ?_)
  refine g_lv (lv' := [(0, .ref (ad w 0)), (1, .int a1), (2, .int a2), (3, .int a3)]) rfl ?_
  unfold f_X8_sheet at hf
  refine g_iload_n C dX8_sheet_0 rfl 1 rfl ?_
  refine g_callSB C [.int a1] (fun _ _ h => c_X8_isSheet (kl x) N w _ h) (g_cwS C hR ml_X8_129 sm_X8_isSheet ini_X8 cd_X8_isSheet hd_X8_isSheet (by decide)) rfl _ rfl (Nat.le_of_ble_eq_true rfl) dX8_sheet_1 hf (fun r1 s1 hf => ?_)
  refine g_ifeqB (tgt := 16) C dX8_sheet_4 (by decide) hf (fun hf => ?_) (fun hf => ?_)
  · refine g_iconst C (v := (-1)) dX8_sheet_16 rfl ?_
    exact g_iret C dX8_sheet_17 hf
  · refine g_iload_n C dX8_sheet_7 rfl 2 rfl ?_
    refine g_iconst C (v := (-1)) dX8_sheet_8 rfl ?_
    refine g_iconst C (v := 3) dX8_sheet_9 rfl ?_
    refine g_callSB C [.int a2, .int (-1), .int 3] (fun _ _ h => c_X8_isWithin (kl x) N w _ _ _ h) (g_cwS C hR ml_X8_91 sm_X8_isWithin ini_X8 cd_X8_isWithin hd_X8_isWithin (by decide)) rfl _ rfl (Nat.le_of_ble_eq_true rfl) dX8_sheet_10 hf (fun r2 s2 hf => ?_)
    refine g_ifneB (tgt := 18) C dX8_sheet_13 (by decide) hf (fun hf => ?_) (fun hf => ?_)
    · refine g_iload_n C dX8_sheet_18 rfl 2 rfl ?_
      refine g_iconst C (v := (-1)) dX8_sheet_19 rfl ?_
      refine g_icmp_ne (tgt := 36) C dX8_sheet_20 (by decide) hf (fun hf => ?_) (fun hf => ?_)
      · refine g_iload_n C dX8_sheet_36 rfl 3 rfl ?_
        refine g_bipush C (v := 40) dX8_sheet_37 (by decide) ?_
        refine g_icmp_le (tgt := 44) C dX8_sheet_39 (by decide) hf (fun hf => ?_) (fun hf => ?_)
        · refine g_iload_n C dX8_sheet_44 rfl 3 rfl ?_
          refine g_if_ge (tgt := 51) C dX8_sheet_45 (by decide) hf (fun hf => ?_) (fun hf => ?_)
          · refine g_aload_n C dX8_sheet_51 rfl 0 rfl ?_
            refine g_get C (R := RX8) (T := TX8) (N := 11) (k := 8) (v := .ref (ad w 47)) kd_0 (by decide) rfl (in_0 hS) hinX8 (by decide) fl_X8_65 rfl rfl dX8_sheet_52 ?_
            refine g_iload_n C dX8_sheet_55 rfl 1 rfl ?_
            refine g_aald C kd_47 ln_47 (in_47 hS) dX8_sheet_56 hf (fun hv3 hf => ?_)
            refine g_iload_n C dX8_sheet_57 rfl 2 rfl ?_
            refine g_iload_n C dX8_sheet_58 rfl 3 rfl ?_
            refine g_callVV C (R := RX4) (T := TX4) (N := 3) [.int a2, .int a3] (fun _ h => c_X4_become (kl x) N w (okSh hS hv3) _ _ h) (g_cwV C hR ml_X8_277 im_X4_become sl_X4_become ini_X4 cd_X4_become hd_X4_become (by decide)) (okSh hS hv3).2.2.1 (by decide) rfl (okSh hS hv3).1 rfl _ rfl (Nat.le_of_ble_eq_true rfl) dX8_sheet_59 hf (fun s4 hf => ?_)
            refine g_iconst C (v := 1) dX8_sheet_62 rfl ?_
            exact g_iret C dX8_sheet_63 hf
          · refine g_bipush C (v := (-14)) dX8_sheet_48 (by decide) ?_
            exact g_iret C dX8_sheet_50 hf
        · refine g_iconst C (v := (-1)) dX8_sheet_42 rfl ?_
          exact g_iret C dX8_sheet_43 hf
      · refine g_aload_n C dX8_sheet_23 rfl 0 rfl ?_
        refine g_get C (R := RX8) (T := TX8) (N := 11) (k := 8) (v := .ref (ad w 47)) kd_0 (by decide) rfl (in_0 hS) hinX8 (by decide) fl_X8_65 rfl rfl dX8_sheet_24 ?_
        refine g_iload_n C dX8_sheet_27 rfl 1 rfl ?_
        refine g_aald C kd_47 ln_47 (in_47 hS) dX8_sheet_28 hf (fun hv5 hf => ?_)
        refine g_iconst C (v := (-1)) dX8_sheet_29 rfl ?_
        refine g_iconst C (v := 0) dX8_sheet_30 rfl ?_
        refine g_callVV C (R := RX4) (T := TX4) (N := 3) [.int (-1), .int 0] (fun _ h => c_X4_become (kl x) N w (okSh hS hv5) _ _ h) (g_cwV C hR ml_X8_277 im_X4_become sl_X4_become ini_X4 cd_X4_become hd_X4_become (by decide)) (okSh hS hv5).2.2.1 (by decide) rfl (okSh hS hv5).1 rfl _ rfl (Nat.le_of_ble_eq_true rfl) dX8_sheet_31 hf (fun s6 hf => ?_)
        refine g_iconst C (v := 1) dX8_sheet_34 rfl ?_
        exact g_iret C dX8_sheet_35 hf
    · refine g_iconst C (v := (-1)) dX8_sheet_16 rfl ?_
      exact g_iret C dX8_sheet_17 hf

set_option maxHeartbeats 4000000 in
set_option maxRecDepth 100000 in
theorem c_X8_put (l : Launch) (N : Nat) (w : WX) (hS : SS w = Sc) (a1 : Int32) (a2 : Int32) (a3 : Int32) {s s' : Mem} {r : Int32} (hf : f_X8_put N a1 a2 a3 s = some (r, s')) : CI l yX8_put (wz yX8_put cX8_put 4 (some .int)) ({ frames := 2, cells := 0, slots := 0, locals := 43 } : Room) [.ref (ad w 0), .int a1, .int a2, .int a3] w s r s' := by
  refine met_startI (cc := cX8_put) (ret := (some .int)) (own := RX8) (maxL := 4) (by decide) rfl (Nat.le_of_ble_eq_true rfl) (fun x C hR hl => ?_)
  refine g_lv (lv' := [(0, .ref (ad w 0)), (1, .int a1), (2, .int a2), (3, .int a3)]) rfl ?_
  unfold f_X8_put at hf
  refine g_iload_n C dX8_put_0 rfl 1 rfl ?_
  refine g_callSB C [.int a1] (fun _ _ h => c_X8_isSheet (kl x) N w _ h) (g_cwS C hR ml_X8_129 sm_X8_isSheet ini_X8 cd_X8_isSheet hd_X8_isSheet (by decide)) rfl _ rfl (Nat.le_of_ble_eq_true rfl) dX8_put_1 hf (fun r1 s1 hf => ?_)
  refine g_ifneB (tgt := 9) C dX8_put_4 (by decide) hf (fun hf => ?_) (fun hf => ?_)
  · refine g_aload_n C dX8_put_9 rfl 0 rfl ?_
    refine g_get C (R := RX8) (T := TX8) (N := 11) (k := 8) (v := .ref (ad w 47)) kd_0 (by decide) rfl (in_0 hS) hinX8 (by decide) fl_X8_65 rfl rfl dX8_put_10 ?_
    refine g_iload_n C dX8_put_13 rfl 1 rfl ?_
    refine g_aald C kd_47 ln_47 (in_47 hS) dX8_put_14 hf (fun hv2 hf => ?_)
    refine g_get C (R := RX4) (T := TX4) (N := 3) (k := 1) (v := .int (rI s1 (47 + 1 + 2 * a1.toNatClampNeg) 1)) (okSh hS hv2).2.2.1 (by decide) rfl (okSh hS hv2).1 hinX4 (by decide) fl_X8_279 rfl rfl dX8_put_15 ?_
    refine g_iconst C (v := (-1)) dX8_put_18 rfl ?_
    refine g_icmp_ne (tgt := 25) C dX8_put_19 (by decide) hf (fun hf => ?_) (fun hf => ?_)
    · refine g_aload_n C dX8_put_25 rfl 0 rfl ?_
      refine g_get C (R := RX8) (T := TX8) (N := 11) (k := 8) (v := .ref (ad w 47)) kd_0 (by decide) rfl (in_0 hS) hinX8 (by decide) fl_X8_65 rfl rfl dX8_put_26 ?_
      refine g_iload_n C dX8_put_29 rfl 1 rfl ?_
      refine g_aald C kd_47 ln_47 (in_47 hS) dX8_put_30 hf (fun hv3 hf => ?_)
      refine g_iload_n C dX8_put_31 rfl 2 rfl ?_
      refine g_callVB C (R := RX4) (T := TX4) (N := 3) [.int a2] (fun _ _ h => c_X4_has (kl x) N w (okSh hS hv3) _ h) (g_cwV C hR ml_X8_282 im_X4_has sl_X4_has ini_X4 cd_X4_has hd_X4_has (by decide)) (okSh hS hv3).2.2.1 (by decide) rfl (okSh hS hv3).1 rfl _ rfl (Nat.le_of_ble_eq_true rfl) dX8_put_32 hf (fun r4 s4 hf => ?_)
      refine g_ifneB (tgt := 41) C dX8_put_35 (by decide) hf (fun hf => ?_) (fun hf => ?_)
      · refine g_aload_n C dX8_put_41 rfl 0 rfl ?_
        refine g_get C (R := RX8) (T := TX8) (N := 11) (k := 8) (v := .ref (ad w 47)) kd_0 (by decide) rfl (in_0 hS) hinX8 (by decide) fl_X8_65 rfl rfl dX8_put_42 ?_
        refine g_iload_n C dX8_put_45 rfl 1 rfl ?_
        refine g_aald C kd_47 ln_47 (in_47 hS) dX8_put_46 hf (fun hv5 hf => ?_)
        refine g_iload_n C dX8_put_47 rfl 2 rfl ?_
        refine g_iload_n C dX8_put_48 rfl 3 rfl ?_
        refine g_callVV C (R := RX4) (T := TX4) (N := 3) [.int a2, .int a3] (fun _ h => c_X4_set (kl x) N w (okSh hS hv5) _ _ h) (g_cwV C hR ml_X8_283 im_X4_set sl_X4_set ini_X4 cd_X4_set hd_X4_set (by decide)) (okSh hS hv5).2.2.1 (by decide) rfl (okSh hS hv5).1 rfl _ rfl (Nat.le_of_ble_eq_true rfl) dX8_put_49 hf (fun s6 hf => ?_)
        refine g_iconst C (v := 1) dX8_put_52 rfl ?_
        exact g_iret C dX8_put_53 hf
      · refine g_bipush C (v := (-12)) dX8_put_38 (by decide) ?_
        exact g_iret C dX8_put_40 hf
    · refine g_bipush C (v := (-11)) dX8_put_22 (by decide) ?_
      exact g_iret C dX8_put_24 hf
  · refine g_iconst C (v := (-1)) dX8_put_7 rfl ?_
    exact g_iret C dX8_put_8 hf

set_option maxHeartbeats 4000000 in
set_option maxRecDepth 100000 in
theorem c_X8_isSort (l : Launch) (N : Nat) (w : WX) (a0 : Int32) {s s' : Mem} {r : Bool} (hf : f_X8_isSort N a0 s = some (r, s')) : CB l yX8_isSort (wz yX8_isSort cX8_isSort 1 (some .boolean)) ({ frames := 1, cells := 0, slots := 0, locals := 22 } : Room) [.int a0] w s r s' := by
  refine met_startB (cc := cX8_isSort) (ret := (some .boolean)) (own := RX8) (maxL := 1) (by decide) rfl (Nat.le_of_ble_eq_true rfl) (fun x C hR hl => ?_)
  refine g_lv (lv' := [(0, .int a0)]) rfl ?_
  unfold f_X8_isSort at hf
  refine g_iload_n C dX8_isSort_0 rfl 0 rfl ?_
  refine g_iconst C (v := 0) dX8_isSort_1 rfl ?_
  refine g_iconst C (v := 3) dX8_isSort_2 rfl ?_
  refine g_callSB C [.int a0, .int 0, .int 3] (fun _ _ h => c_X8_isWithin (kl x) N w _ _ _ h) (g_cwS C hR ml_X8_91 sm_X8_isWithin ini_X8 cd_X8_isWithin hd_X8_isWithin (by decide)) rfl _ rfl (Nat.le_of_ble_eq_true rfl) dX8_isSort_3 hf (fun r1 s1 hf => ?_)
  exact g_zret C dX8_isSort_6 hf

set_option maxHeartbeats 4000000 in
set_option maxRecDepth 100000 in
theorem c_X8_item (l : Launch) (N : Nat) (w : WX) (hS : SS w = Sc) (a1 : Int32) (a2 : Int32) (a3 : Int32) {s s' : Mem} {r : Int32} (hf : f_X8_item N a1 a2 a3 s = some (r, s')) : CI l yX8_item (wz yX8_item cX8_item 5 (some .int)) ({ frames := 2, cells := 0, slots := 0, locals := 42 } : Room) [.ref (ad w 0), .int a1, .int a2, .int a3] w s r s' := by
  refine met_startI (cc := cX8_item) (ret := (some .int)) (own := RX8) (maxL := 5) (by decide) rfl (Nat.le_of_ble_eq_true rfl) (fun x C hR hl => ?_)
  refine g_lv (lv' := [(0, .ref (ad w 0)), (1, .int a1), (2, .int a2), (3, .int a3)]) rfl ?_
  unfold f_X8_item at hf
  refine g_iload_n C dX8_item_0 rfl 1 rfl ?_
  refine g_callSB C [.int a1] (fun _ _ h => c_X8_isSheet (kl x) N w _ h) (g_cwS C hR ml_X8_129 sm_X8_isSheet ini_X8 cd_X8_isSheet hd_X8_isSheet (by decide)) rfl _ rfl (Nat.le_of_ble_eq_true rfl) dX8_item_1 hf (fun r1 s1 hf => ?_)
  refine g_ifeqB (tgt := 14) C dX8_item_4 (by decide) hf (fun hf => ?_) (fun hf => ?_)
  · refine g_iconst C (v := (-1)) dX8_item_14 rfl ?_
    exact g_iret C dX8_item_15 hf
  · refine g_iload_n C dX8_item_7 rfl 2 rfl ?_
    refine g_callSB C [.int a2] (fun _ _ h => c_X8_isSort (kl x) N w _ h) (g_cwS C hR ml_X8_285 sm_X8_isSort ini_X8 cd_X8_isSort hd_X8_isSort (by decide)) rfl _ rfl (Nat.le_of_ble_eq_true rfl) dX8_item_8 hf (fun r2 s2 hf => ?_)
    refine g_ifneB (tgt := 16) C dX8_item_11 (by decide) hf (fun hf => ?_) (fun hf => ?_)
    · refine g_aload_n C dX8_item_16 rfl 0 rfl ?_
      refine g_get C (R := RX8) (T := TX8) (N := 11) (k := 8) (v := .ref (ad w 47)) kd_0 (by decide) rfl (in_0 hS) hinX8 (by decide) fl_X8_65 rfl rfl dX8_item_17 ?_
      refine g_iload_n C dX8_item_20 rfl 1 rfl ?_
      refine g_aald C kd_47 ln_47 (in_47 hS) dX8_item_21 hf (fun hv3 hf => ?_)
      refine g_iload_n C dX8_item_22 rfl 2 rfl ?_
      refine g_callVI C (R := RX4) (T := TX4) (N := 3) [.int a2] (fun _ _ h => c_X4_refusalAs (kl x) N w (okSh hS hv3) _ h) (g_cwV C hR ml_X8_132 im_X4_refusalAs sl_X4_refusalAs ini_X4 cd_X4_refusalAs hd_X4_refusalAs (by decide)) (okSh hS hv3).2.2.1 (by decide) rfl (okSh hS hv3).1 rfl _ rfl (Nat.le_of_ble_eq_true rfl) dX8_item_23 hf (fun r4 s4 hf => ?_)
      refine g_istore (lv' := [(4, .int r4), (0, .ref (ad w 0)), (1, .int a1), (2, .int a2), (3, .int a3)]) C dX8_item_26 (by decide) rfl ?_
      refine g_iload C dX8_item_28 0 rfl ?_
      refine g_if_eq (tgt := 36) C dX8_item_30 (by decide) hf (fun hf => ?_) (fun hf => ?_)
      · refine g_aload_n C dX8_item_36 rfl 1 rfl ?_
        refine g_get C (R := RX8) (T := TX8) (N := 11) (k := 8) (v := .ref (ad w 47)) kd_0 (by decide) rfl (in_0 hS) hinX8 (by decide) fl_X8_65 rfl rfl dX8_item_37 ?_
        refine g_iload_n C dX8_item_40 rfl 2 rfl ?_
        refine g_aald C kd_47 ln_47 (in_47 hS) dX8_item_41 hf (fun hv5 hf => ?_)
        refine g_iload_n C dX8_item_42 rfl 4 rfl ?_
        refine g_callVB C (R := RX4) (T := TX4) (N := 3) [.int a3] (fun _ _ h => c_X4_has (kl x) N w (okSh hS hv5) _ h) (g_cwV C hR ml_X8_282 im_X4_has sl_X4_has ini_X4 cd_X4_has hd_X4_has (by decide)) (okSh hS hv5).2.2.1 (by decide) rfl (okSh hS hv5).1 rfl _ rfl (Nat.le_of_ble_eq_true rfl) dX8_item_43 hf (fun r6 s6 hf => ?_)
        refine g_ifneB (tgt := 52) C dX8_item_46 (by decide) hf (fun hf => ?_) (fun hf => ?_)
        · refine g_aload_n C dX8_item_52 rfl 1 rfl ?_
          refine g_get C (R := RX8) (T := TX8) (N := 11) (k := 8) (v := .ref (ad w 47)) kd_0 (by decide) rfl (in_0 hS) hinX8 (by decide) fl_X8_65 rfl rfl dX8_item_53 ?_
          refine g_iload_n C dX8_item_56 rfl 2 rfl ?_
          refine g_aald C kd_47 ln_47 (in_47 hS) dX8_item_57 hf (fun hv7 hf => ?_)
          refine g_iload_n C dX8_item_58 rfl 4 rfl ?_
          refine g_callVI C (R := RX4) (T := TX4) (N := 3) [.int a3] (fun _ _ h => c_X4_get (kl x) N w (okSh hS hv7) _ h) (g_cwV C hR ml_X8_142 im_X4_get sl_X4_get ini_X4 cd_X4_get hd_X4_get (by decide)) (okSh hS hv7).2.2.1 (by decide) rfl (okSh hS hv7).1 rfl _ rfl (Nat.le_of_ble_eq_true rfl) dX8_item_59 hf (fun r8 s8 hf => ?_)
          exact g_iret C dX8_item_62 hf
        · refine g_bipush C (v := (-12)) dX8_item_49 (by decide) ?_
          exact g_iret C dX8_item_51 hf
      · refine g_iload C dX8_item_33 0 rfl ?_
        exact g_iret C dX8_item_35 hf
    · refine g_iconst C (v := (-1)) dX8_item_14 rfl ?_
      exact g_iret C dX8_item_15 hf

set_option maxHeartbeats 4000000 in
set_option maxRecDepth 100000 in
theorem c_X8_register (l : Launch) (N : Nat) (w : WX) (hS : SS w = Sc) (a1 : Int32) (a2 : Int32) (a3 : Int32) (a4 : Int32) {s s' : Mem} {r : Int32} (hf : f_X8_register N a1 a2 a3 a4 s = some (r, s')) : CI l yX8_register (wz yX8_register cX8_register 10 (some .int)) ({ frames := 5, cells := 0, slots := 0, locals := 116 } : Room) [.ref (ad w 0), .int a1, .int a2, .int a3, .int a4] w s r s' := by
  refine met_startI (cc := cX8_register) (ret := (some .int)) (own := RX8) (maxL := 10) (by decide) rfl (Nat.le_of_ble_eq_true rfl) (fun x C hR hl => ?_)
  have j130 : ∀ (k67 : Int32 → Int32 → Nat → Int32 → Int32 → Int32 → Mem → Option (Int32 × Mem)), (∀ (v5 : Nat), okO 4 w v5 → ∀ (v1 : Int32) (v4 : Int32) (v7 : Int32) (v8 : Int32) (v9 : Int32) (s : Mem), k67 v1 v4 v5 v7 v8 v9 s = some (r, s') → G x (QI x w r s') 10 w 67 [(0, .ref (ad w 0)), (1, .int v1), (4, .int v4), (5, .ref (ad w v5)), (7, .int v7), (8, .int v8), (9, .int v9)] [] s) → ∀ (v5 : Nat), okO 4 w v5 → ∀ (v1 : Int32) (v4 : Int32) (v7 : Int32) (v8 : Int32) (v9 : Int32) (s : Mem), f_X8_register_j130 N k67 v1 v4 v5 v7 v8 v9 s = some (r, s') → G x (QI x w r s') 10 w 130 [(0, .ref (ad w 0)), (1, .int v1), (4, .int v4), (5, .ref (ad w v5)), (7, .int v7), (8, .int v8), (9, .int v9)] [] s := by
    intro k67 q67 v5 h_v5 v1 v4 v7 v8 v9 s hf
    unfold f_X8_register_j130 at hf
    refine g_iinc (v' := v8 + 2) (lv' := [(8, .int (v8 + 2)), (0, .ref (ad w 0)), (1, .int v1), (4, .int v4), (5, .ref (ad w v5)), (7, .int v7), (9, .int v9)]) C dX8_register_130 5 rfl rfl (by decide) rfl ?_
    refine g_iinc (v' := v9 + 1) (lv' := [(9, .int (v9 + 1)), (8, .int (v8 + 2)), (0, .ref (ad w 0)), (1, .int v1), (4, .int v4), (5, .ref (ad w v5)), (7, .int v7)]) C dX8_register_133 6 rfl rfl (by decide) rfl ?_
    refine g_goto (tgt := 67) C dX8_register_136 (by decide) ?_
    refine g_sub [2, 3, 4, 5, 6, 1, 0] rfl ?_
    exact q67 _ h_v5 _ _ _ _ _ _ hf
  have j67 : ∀ (n : Nat), ∀ (v5 : Nat), okO 4 w v5 → ∀ (v1 : Int32) (v4 : Int32) (v7 : Int32) (v8 : Int32) (v9 : Int32) (s : Mem), f_X8_register_L67 N n v1 v4 v5 v7 v8 v9 s = some (r, s') → G x (QI x w r s') 10 w 67 [(0, .ref (ad w 0)), (1, .int v1), (4, .int v4), (5, .ref (ad w v5)), (7, .int v7), (8, .int v8), (9, .int v9)] [] s := by
    intro n
    induction n with
    | zero => intro v5 h_v5 v1 v4 v7 v8 v9 s hf; cases hf
    | succ n ih =>
      intro v5 h_v5 v1 v4 v7 v8 v9 s hf
      unfold f_X8_register_L67 at hf
      refine g_iload C dX8_register_67 6 rfl ?_
      refine g_iload C dX8_register_69 2 rfl ?_
      refine g_icmp_ge (tgt := 139) C dX8_register_71 (by decide) hf (fun hf => ?_) (fun hf => ?_)
      · refine g_iload C dX8_register_139 4 rfl ?_
        exact g_iret C dX8_register_141 hf
      · refine g_aload C dX8_register_74 3 rfl ?_
        refine g_iload C dX8_register_76 5 rfl ?_
        refine g_callVB C (R := RX4) (T := TX4) (N := 3) [.int v8] (fun _ _ h => c_X4_has (kl x) N w h_v5 _ h) (g_cwV C hR ml_X8_282 im_X4_has sl_X4_has ini_X4 cd_X4_has hd_X4_has (by decide)) h_v5.2.2.1 (by decide) rfl h_v5.1 rfl _ rfl (Nat.le_of_ble_eq_true rfl) dX8_register_78 hf (fun r1 s1 hf => ?_)
        refine g_ifeqB (tgt := 96) C dX8_register_81 (by decide) hf (fun hf => ?_) (fun hf => ?_)
        · refine g_bipush C (v := (-12)) dX8_register_96 (by decide) ?_
          exact g_iret C dX8_register_98 hf
        · refine g_aload C dX8_register_84 3 rfl ?_
          refine g_iload C dX8_register_86 5 rfl ?_
          refine g_iconst C (v := 1) dX8_register_88 rfl ?_
          refine g_iadd C dX8_register_89 ?_
          refine g_callVB C (R := RX4) (T := TX4) (N := 3) [.int (v8 + 1)] (fun _ _ h => c_X4_has (kl x) N w h_v5 _ h) (g_cwV C hR ml_X8_282 im_X4_has sl_X4_has ini_X4 cd_X4_has hd_X4_has (by decide)) h_v5.2.2.1 (by decide) rfl h_v5.1 rfl _ rfl (Nat.le_of_ble_eq_true rfl) dX8_register_90 hf (fun r2 s2 hf => ?_)
          refine g_ifneB (tgt := 99) C dX8_register_93 (by decide) hf (fun hf => ?_) (fun hf => ?_)
          · refine g_aload_n C dX8_register_99 rfl 0 rfl ?_
            refine g_iload_n C dX8_register_100 rfl 1 rfl ?_
            refine g_iconst C (v := 3) dX8_register_101 rfl ?_
            refine g_aload C dX8_register_102 3 rfl ?_
            refine g_iload C dX8_register_104 5 rfl ?_
            refine g_callVI C (R := RX4) (T := TX4) (N := 3) [.int v8] (fun _ _ h => c_X4_get (kl x) N w h_v5 _ h) (g_cwV C hR ml_X8_142 im_X4_get sl_X4_get ini_X4 cd_X4_get hd_X4_get (by decide)) h_v5.2.2.1 (by decide) rfl h_v5.1 rfl _ rfl (Nat.le_of_ble_eq_true rfl) dX8_register_106 hf (fun r3 s3 hf => ?_)
            refine g_aload C dX8_register_109 3 rfl ?_
            refine g_iload C dX8_register_111 5 rfl ?_
            refine g_iconst C (v := 1) dX8_register_113 rfl ?_
            refine g_iadd C dX8_register_114 ?_
            refine g_callVI C (R := RX4) (T := TX4) (N := 3) [.int (v8 + 1)] (fun _ _ h => c_X4_get (kl x) N w h_v5 _ h) (g_cwV C hR ml_X8_142 im_X4_get sl_X4_get ini_X4 cd_X4_get hd_X4_get (by decide)) h_v5.2.2.1 (by decide) rfl h_v5.1 rfl _ rfl (Nat.le_of_ble_eq_true rfl) dX8_register_115 hf (fun r4 s4 hf => ?_)
            refine g_bipush C (v := 10) dX8_register_118 (by decide) ?_
            refine g_iconst C (v := 0) dX8_register_120 rfl ?_
            refine g_callVI C (R := RX8) (T := TX8) (N := 11) [.int v1, .int 3, .int r3, .int r4, .int 10, .int 0] (fun _ _ h => c_X8_paper (kl x) N w hS _ _ _ _ _ _ h) (g_cwV C hR ml_X8_288 im_X8_paper sl_X8_paper ini_X8 cd_X8_paper hd_X8_paper (by decide)) kd_0 (by decide) rfl (in_0 hS) rfl _ rfl (Nat.le_of_ble_eq_true rfl) dX8_register_121 hf (fun r5 s5 hf => ?_)
            refine g_if_lt (tgt := 130) C dX8_register_124 (by decide) hf (fun hf => ?_) (fun hf => ?_)
            · exact j130 (f_X8_register_L67 N n) ih _ h_v5 _ _ _ _ _ _ hf
            · refine g_iinc (v' := v7 + 1) (lv' := [(7, .int (v7 + 1)), (0, .ref (ad w 0)), (1, .int v1), (4, .int v4), (5, .ref (ad w v5)), (8, .int v8), (9, .int v9)]) C dX8_register_127 4 rfl rfl (by decide) rfl ?_
              refine g_sub [1, 2, 3, 4, 0, 5, 6] rfl ?_
              exact j130 (f_X8_register_L67 N n) ih _ h_v5 _ _ _ _ _ _ hf
          · refine g_bipush C (v := (-12)) dX8_register_96 (by decide) ?_
            exact g_iret C dX8_register_98 hf
  refine g_lv (lv' := [(0, .ref (ad w 0)), (1, .int a1), (2, .int a2), (3, .int a3), (4, .int a4)]) rfl ?_
  unfold f_X8_register at hf
  refine g_iload_n C dX8_register_0 rfl 2 rfl ?_
  refine g_callSB C [.int a2] (fun _ _ h => c_X8_isSheet (kl x) N w _ h) (g_cwS C hR ml_X8_129 sm_X8_isSheet ini_X8 cd_X8_isSheet hd_X8_isSheet (by decide)) rfl _ rfl (Nat.le_of_ble_eq_true rfl) dX8_register_1 hf (fun r1 s1 hf => ?_)
  refine g_ifeqB (tgt := 32) C dX8_register_4 (by decide) hf (fun hf => ?_) (fun hf => ?_)
  · refine g_iconst C (v := (-1)) dX8_register_32 rfl ?_
    exact g_iret C dX8_register_33 hf
  · refine g_aload_n C dX8_register_7 rfl 0 rfl ?_
    refine g_get C (R := RX8) (T := TX8) (N := 11) (k := 0) (v := .ref (ad w 1)) kd_0 (by decide) rfl (in_0 hS) hinX8 (by decide) fl_X8_10 rfl rfl dX8_register_8 ?_
    refine g_get C (R := RX0) (T := TX0) (N := 8) (k := 0) (v := .ref (ad w 2)) kd_1 (by decide) rfl (in_1 hS) hinX0 (by decide) fl_X8_95 rfl rfl dX8_register_11 ?_
    refine g_iload_n C dX8_register_14 rfl 1 rfl ?_
    refine g_callVB C (R := RX5) (T := TX5) (N := 4) [.int a1] (fun _ _ h => c_X5_has (kl x) N w (ok_2 hS) _ h) (g_cwV C hR ml_X8_102 im_X5_has sl_X5_has ini_X5 cd_X5_has hd_X5_has (by decide)) kd_2 (by decide) rfl (in_2 hS) rfl _ rfl (Nat.le_of_ble_eq_true rfl) dX8_register_15 hf (fun r2 s2 hf => ?_)
    refine g_ifeqB (tgt := 32) C dX8_register_18 (by decide) hf (fun hf => ?_) (fun hf => ?_)
    · refine g_iconst C (v := (-1)) dX8_register_32 rfl ?_
      exact g_iret C dX8_register_33 hf
    · refine g_iload C dX8_register_21 4 rfl ?_
      refine g_iconst C (v := 0) dX8_register_23 rfl ?_
      refine g_bipush C (v := 10) dX8_register_24 (by decide) ?_
      refine g_callSB C [.int a4, .int 0, .int 10] (fun _ _ h => c_X8_isWithin (kl x) N w _ _ _ h) (g_cwS C hR ml_X8_91 sm_X8_isWithin ini_X8 cd_X8_isWithin hd_X8_isWithin (by decide)) rfl _ rfl (Nat.le_of_ble_eq_true rfl) dX8_register_26 hf (fun r3 s3 hf => ?_)
      refine g_ifneB (tgt := 34) C dX8_register_29 (by decide) hf (fun hf => ?_) (fun hf => ?_)
      · refine g_aload_n C dX8_register_34 rfl 0 rfl ?_
        refine g_get C (R := RX8) (T := TX8) (N := 11) (k := 8) (v := .ref (ad w 47)) kd_0 (by decide) rfl (in_0 hS) hinX8 (by decide) fl_X8_65 rfl rfl dX8_register_35 ?_
        refine g_iload_n C dX8_register_38 rfl 2 rfl ?_
        refine g_aald C kd_47 ln_47 (in_47 hS) dX8_register_39 hf (fun hv4 hf => ?_)
        refine g_astore (lv' := [(5, .ref (ad w (47 + 1 + 2 * a2.toNatClampNeg))), (0, .ref (ad w 0)), (1, .int a1), (2, .int a2), (3, .int a3), (4, .int a4)]) C dX8_register_40 (by decide) rfl ?_
        refine g_aload C dX8_register_42 0 rfl ?_
        refine g_iconst C (v := 0) dX8_register_44 rfl ?_
        refine g_callVI C (R := RX4) (T := TX4) (N := 3) [.int 0] (fun _ _ h => c_X4_refusalAs (kl x) N w (okSh hS hv4) _ h) (g_cwV C hR ml_X8_132 im_X4_refusalAs sl_X4_refusalAs ini_X4 cd_X4_refusalAs hd_X4_refusalAs (by decide)) (okSh hS hv4).2.2.1 (by decide) rfl (okSh hS hv4).1 rfl _ rfl (Nat.le_of_ble_eq_true rfl) dX8_register_45 hf (fun r5 s5 hf => ?_)
        refine g_istore (lv' := [(6, .int r5), (5, .ref (ad w (47 + 1 + 2 * a2.toNatClampNeg))), (0, .ref (ad w 0)), (1, .int a1), (2, .int a2), (3, .int a3), (4, .int a4)]) C dX8_register_48 (by decide) rfl ?_
        refine g_iload C dX8_register_50 0 rfl ?_
        refine g_if_eq (tgt := 58) C dX8_register_52 (by decide) hf (fun hf => ?_) (fun hf => ?_)
        · refine g_iconst C (v := 0) dX8_register_58 rfl ?_
          refine g_istore (lv' := [(7, .int 0), (6, .int r5), (5, .ref (ad w (47 + 1 + 2 * a2.toNatClampNeg))), (0, .ref (ad w 0)), (1, .int a1), (2, .int a2), (3, .int a3), (4, .int a4)]) C dX8_register_59 (by decide) rfl ?_
          refine g_iload_n C dX8_register_61 rfl 6 rfl ?_
          refine g_istore (lv' := [(8, .int a3), (7, .int 0), (6, .int r5), (5, .ref (ad w (47 + 1 + 2 * a2.toNatClampNeg))), (0, .ref (ad w 0)), (1, .int a1), (2, .int a2), (3, .int a3), (4, .int a4)]) C dX8_register_62 (by decide) rfl ?_
          refine g_iconst C (v := 0) dX8_register_64 rfl ?_
          refine g_istore (lv' := [(9, .int 0), (8, .int a3), (7, .int 0), (6, .int r5), (5, .ref (ad w (47 + 1 + 2 * a2.toNatClampNeg))), (0, .ref (ad w 0)), (1, .int a1), (2, .int a2), (3, .int a3), (4, .int a4)]) C dX8_register_65 (by decide) rfl ?_
          refine g_sub [5, 6, 9, 4, 2, 1, 0] rfl ?_
          exact j67 N _ (okSh hS hv4) _ _ _ _ _ _ hf
        · refine g_iload C dX8_register_55 0 rfl ?_
          exact g_iret C dX8_register_57 hf
      · refine g_iconst C (v := (-1)) dX8_register_32 rfl ?_
        exact g_iret C dX8_register_33 hf

set_option maxHeartbeats 4000000 in
set_option maxRecDepth 100000 in
theorem c_X8_shelve (l : Launch) (N : Nat) (w : WX) (hS : SS w = Sc) (a1 : Int32) (a2 : Int32) (a3 : Int32) {s s' : Mem} {r : Int32} (hf : f_X8_shelve N a1 a2 a3 s = some (r, s')) : CI l yX8_shelve (wz yX8_shelve cX8_shelve 4 (some .int)) ({ frames := 1, cells := 0, slots := 0, locals := 24 } : Room) [.ref (ad w 0), .int a1, .int a2, .int a3] w s r s' := by
  refine met_startI (cc := cX8_shelve) (ret := (some .int)) (own := RX8) (maxL := 4) (by decide) rfl (Nat.le_of_ble_eq_true rfl) (fun x C hR hl => ?_)
  refine g_lv (lv' := [(0, .ref (ad w 0)), (1, .int a1), (2, .int a2), (3, .int a3)]) rfl ?_
  unfold f_X8_shelve at hf
  refine g_aload_n C dX8_shelve_0 rfl 0 rfl ?_
  refine g_get C (R := RX8) (T := TX8) (N := 11) (k := 9) (v := .ref (ad w 56)) kd_0 (by decide) rfl (in_0 hS) hinX8 (by decide) fl_X8_69 rfl rfl dX8_shelve_1 ?_
  refine g_iload_n C dX8_shelve_4 rfl 1 rfl ?_
  refine g_iconst C (v := 0) dX8_shelve_5 rfl ?_
  refine g_iload_n C dX8_shelve_6 rfl 2 rfl ?_
  refine g_callVV C (R := RX5) (T := TX5) (N := 4) [.int a1, .int 0, .int a2] (fun _ h => c_X5_set (kl x) N w (ok_56 hS) _ _ _ h) (g_cwV C hR ml_X8_83 im_X5_set sl_X5_set ini_X5 cd_X5_set hd_X5_set (by decide)) kd_56 (by decide) rfl (in_56 hS) rfl _ rfl (Nat.le_of_ble_eq_true rfl) dX8_shelve_7 hf (fun s1 hf => ?_)
  refine g_aload_n C dX8_shelve_10 rfl 0 rfl ?_
  refine g_get C (R := RX8) (T := TX8) (N := 11) (k := 9) (v := .ref (ad w 56)) kd_0 (by decide) rfl (in_0 hS) hinX8 (by decide) fl_X8_69 rfl rfl dX8_shelve_11 ?_
  refine g_iload_n C dX8_shelve_14 rfl 1 rfl ?_
  refine g_iconst C (v := 1) dX8_shelve_15 rfl ?_
  refine g_iload_n C dX8_shelve_16 rfl 3 rfl ?_
  refine g_callVV C (R := RX5) (T := TX5) (N := 4) [.int a1, .int 1, .int a3] (fun _ h => c_X5_set (kl x) N w (ok_56 hS) _ _ _ h) (g_cwV C hR ml_X8_83 im_X5_set sl_X5_set ini_X5 cd_X5_set hd_X5_set (by decide)) kd_56 (by decide) rfl (in_56 hS) rfl _ rfl (Nat.le_of_ble_eq_true rfl) dX8_shelve_17 hf (fun s2 hf => ?_)
  refine g_iconst C (v := 1) dX8_shelve_20 rfl ?_
  exact g_iret C dX8_shelve_21 hf

set_option maxHeartbeats 4000000 in
set_option maxRecDepth 100000 in
theorem c_X8_shelveRow (l : Launch) (N : Nat) (w : WX) (hS : SS w = Sc) (a1 : Int32) (a2 : Int32) {s s' : Mem} {r : Int32} (hf : f_X8_shelveRow N a1 a2 s = some (r, s')) : CI l yX8_shelveRow (wz yX8_shelveRow cX8_shelveRow 4 (some .int)) ({ frames := 2, cells := 0, slots := 0, locals := 47 } : Room) [.ref (ad w 0), .int a1, .int a2] w s r s' := by
  refine met_startI (cc := cX8_shelveRow) (ret := (some .int)) (own := RX8) (maxL := 4) (by decide) rfl (Nat.le_of_ble_eq_true rfl) (fun x C hR hl => ?_)
  have j75 : ∀ (v2 : Int32) (p0 : Int32) (p1 : Int32) (s : Mem), f_X8_shelveRow_j75 N v2 p0 p1 s = some (r, s') → G x (QI x w r s') 4 w 75 [(2, .int v2)] [.int p0, .int p1, .ref (ad w 0)] s := by
    intro v2 p0 p1 s hf
    unfold f_X8_shelveRow_j75 at hf
    refine g_iload_n C dX8_shelveRow_75 rfl 0 rfl ?_
    refine g_callVI C (R := RX8) (T := TX8) (N := 11) [.int p1, .int p0, .int v2] (fun _ _ h => c_X8_shelve (kl x) N w hS _ _ _ h) (g_cwV C hR ml_X8_292 im_X8_shelve sl_X8_shelve ini_X8 cd_X8_shelve hd_X8_shelve (by decide)) kd_0 (by decide) rfl (in_0 hS) rfl _ rfl (Nat.le_of_ble_eq_true rfl) dX8_shelveRow_76 hf (fun r1 s1 hf => ?_)
    exact g_iret C dX8_shelveRow_79 hf
  have j27 : ∀ (v1 : Int32) (v2 : Int32) (p0 : Bool) (s : Mem), f_X8_shelveRow_j27 N v1 v2 p0 s = some (r, s') → G x (QI x w r s') 4 w 27 [(0, .ref (ad w 0)), (1, .int v1), (2, .int v2)] [.int (bI p0)] s := by
    intro v1 v2 p0 s hf
    unfold f_X8_shelveRow_j27 at hf
    refine g_istore_n (lv' := [(3, .int (bI p0)), (0, .ref (ad w 0)), (1, .int v1), (2, .int v2)]) C dX8_shelveRow_27 rfl (by decide) rfl ?_
    refine g_aload_n C dX8_shelveRow_28 rfl 1 rfl ?_
    refine g_get C (R := RX8) (T := TX8) (N := 11) (k := 9) (v := .ref (ad w 56)) kd_0 (by decide) rfl (in_0 hS) hinX8 (by decide) fl_X8_69 rfl rfl dX8_shelveRow_29 ?_
    refine g_iload_n C dX8_shelveRow_32 rfl 2 rfl ?_
    refine g_iconst C (v := 2) dX8_shelveRow_33 rfl ?_
    refine g_aload_n C dX8_shelveRow_34 rfl 1 rfl ?_
    refine g_get C (R := RX8) (T := TX8) (N := 11) (k := 8) (v := .ref (ad w 47)) kd_0 (by decide) rfl (in_0 hS) hinX8 (by decide) fl_X8_65 rfl rfl dX8_shelveRow_35 ?_
    refine g_iload_n C dX8_shelveRow_38 rfl 3 rfl ?_
    refine g_aald C kd_47 ln_47 (in_47 hS) dX8_shelveRow_39 hf (fun hv1 hf => ?_)
    refine g_get C (R := RX4) (T := TX4) (N := 3) (k := 1) (v := .int (rI s (47 + 1 + 2 * v2.toNatClampNeg) 1)) (okSh hS hv1).2.2.1 (by decide) rfl (okSh hS hv1).1 hinX4 (by decide) fl_X8_279 rfl rfl dX8_shelveRow_40 ?_
    refine g_callVV C (R := RX5) (T := TX5) (N := 4) [.int v1, .int 2, .int (rI s (47 + 1 + 2 * v2.toNatClampNeg) 1)] (fun _ h => c_X5_set (kl x) N w (ok_56 hS) _ _ _ h) (g_cwV C hR ml_X8_83 im_X5_set sl_X5_set ini_X5 cd_X5_set hd_X5_set (by decide)) kd_56 (by decide) rfl (in_56 hS) rfl _ rfl (Nat.le_of_ble_eq_true rfl) dX8_shelveRow_43 hf (fun s2 hf => ?_)
    refine g_aload_n C dX8_shelveRow_46 rfl 1 rfl ?_
    refine g_get C (R := RX8) (T := TX8) (N := 11) (k := 9) (v := .ref (ad w 56)) kd_0 (by decide) rfl (in_0 hS) hinX8 (by decide) fl_X8_69 rfl rfl dX8_shelveRow_47 ?_
    refine g_iload_n C dX8_shelveRow_50 rfl 2 rfl ?_
    refine g_iconst C (v := 3) dX8_shelveRow_51 rfl ?_
    refine g_aload_n C dX8_shelveRow_52 rfl 1 rfl ?_
    refine g_get C (R := RX8) (T := TX8) (N := 11) (k := 8) (v := .ref (ad w 47)) kd_0 (by decide) rfl (in_0 hS) hinX8 (by decide) fl_X8_65 rfl rfl dX8_shelveRow_53 ?_
    refine g_iload_n C dX8_shelveRow_56 rfl 3 rfl ?_
    refine g_aald C kd_47 ln_47 (in_47 hS) dX8_shelveRow_57 hf (fun hv3 hf => ?_)
    refine g_get C (R := RX4) (T := TX4) (N := 3) (k := 2) (v := .int (rI s2 (47 + 1 + 2 * v2.toNatClampNeg) 2)) (okSh hS hv3).2.2.1 (by decide) rfl (okSh hS hv3).1 hinX4 (by decide) fl_X8_144 rfl rfl dX8_shelveRow_58 ?_
    refine g_callVV C (R := RX5) (T := TX5) (N := 4) [.int v1, .int 3, .int (rI s2 (47 + 1 + 2 * v2.toNatClampNeg) 2)] (fun _ h => c_X5_set (kl x) N w (ok_56 hS) _ _ _ h) (g_cwV C hR ml_X8_83 im_X5_set sl_X5_set ini_X5 cd_X5_set hd_X5_set (by decide)) kd_56 (by decide) rfl (in_56 hS) rfl _ rfl (Nat.le_of_ble_eq_true rfl) dX8_shelveRow_61 hf (fun s4 hf => ?_)
    refine g_aload_n C dX8_shelveRow_64 rfl 1 rfl ?_
    refine g_iload_n C dX8_shelveRow_65 rfl 2 rfl ?_
    refine g_iload_n C dX8_shelveRow_66 rfl 0 rfl ?_
    refine g_ifeqB (tgt := 74) C dX8_shelveRow_67 (by decide) hf (fun hf => ?_) (fun hf => ?_)
    · refine g_iconst C (v := 2) dX8_shelveRow_74 rfl ?_
      refine g_sub [3] rfl ?_
      exact j75 _ _ _ _ hf
    · refine g_iconst C (v := 3) dX8_shelveRow_70 rfl ?_
      refine g_goto (tgt := 75) C dX8_shelveRow_71 (by decide) ?_
      refine g_sub [3] rfl ?_
      exact j75 _ _ _ _ hf
  refine g_lv (lv' := [(0, .ref (ad w 0)), (1, .int a1), (2, .int a2)]) rfl ?_
  unfold f_X8_shelveRow at hf
  refine g_iload_n C dX8_shelveRow_0 rfl 2 rfl ?_
  refine g_callSB C [.int a2] (fun _ _ h => c_X8_isSheet (kl x) N w _ h) (g_cwS C hR ml_X8_129 sm_X8_isSheet ini_X8 cd_X8_isSheet hd_X8_isSheet (by decide)) rfl _ rfl (Nat.le_of_ble_eq_true rfl) dX8_shelveRow_1 hf (fun r1 s1 hf => ?_)
  refine g_ifneB (tgt := 9) C dX8_shelveRow_4 (by decide) hf (fun hf => ?_) (fun hf => ?_)
  · refine g_aload_n C dX8_shelveRow_9 rfl 0 rfl ?_
    refine g_get C (R := RX8) (T := TX8) (N := 11) (k := 8) (v := .ref (ad w 47)) kd_0 (by decide) rfl (in_0 hS) hinX8 (by decide) fl_X8_65 rfl rfl dX8_shelveRow_10 ?_
    refine g_iload_n C dX8_shelveRow_13 rfl 2 rfl ?_
    refine g_aald C kd_47 ln_47 (in_47 hS) dX8_shelveRow_14 hf (fun hv2 hf => ?_)
    refine g_get C (R := RX4) (T := TX4) (N := 3) (k := 1) (v := .int (rI s1 (47 + 1 + 2 * a2.toNatClampNeg) 1)) (okSh hS hv2).2.2.1 (by decide) rfl (okSh hS hv2).1 hinX4 (by decide) fl_X8_279 rfl rfl dX8_shelveRow_15 ?_
    refine g_iconst C (v := (-1)) dX8_shelveRow_18 rfl ?_
    refine g_icmp_ne (tgt := 26) C dX8_shelveRow_19 (by decide) hf (fun hf => ?_) (fun hf => ?_)
    · refine g_iconst C (v := 0) dX8_shelveRow_26 rfl ?_
      exact j27 _ _ _ _ hf
    · refine g_iconst C (v := 1) dX8_shelveRow_22 rfl ?_
      refine g_goto (tgt := 27) C dX8_shelveRow_23 (by decide) ?_
      exact j27 _ _ _ _ hf
  · refine g_iconst C (v := (-1)) dX8_shelveRow_7 rfl ?_
    exact g_iret C dX8_shelveRow_8 hf

set_option maxHeartbeats 4000000 in
set_option maxRecDepth 100000 in
theorem c_X8_shelf (l : Launch) (N : Nat) (w : WX) (hS : SS w = Sc) (a1 : Int32) (a2 : Int32) (a3 : Int32) {s s' : Mem} {r : Int32} (hf : f_X8_shelf N a1 a2 a3 s = some (r, s')) : CI l yX8_shelf (wz yX8_shelf cX8_shelf 4 (some .int)) ({ frames := 3, cells := 0, slots := 0, locals := 70 } : Room) [.ref (ad w 0), .int a1, .int a2, .int a3] w s r s' := by
  refine met_startI (cc := cX8_shelf) (ret := (some .int)) (own := RX8) (maxL := 4) (by decide) rfl (Nat.le_of_ble_eq_true rfl) (fun x C hR hl => ?_)
  refine g_lv (lv' := [(0, .ref (ad w 0)), (1, .int a1), (2, .int a2), (3, .int a3)]) rfl ?_
  unfold f_X8_shelf at hf
  refine g_aload_n C dX8_shelf_0 rfl 0 rfl ?_
  refine g_get C (R := RX8) (T := TX8) (N := 11) (k := 9) (v := .ref (ad w 56)) kd_0 (by decide) rfl (in_0 hS) hinX8 (by decide) fl_X8_69 rfl rfl dX8_shelf_1 ?_
  refine g_iload_n C dX8_shelf_4 rfl 1 rfl ?_
  refine g_callVB C (R := RX5) (T := TX5) (N := 4) [.int a1] (fun _ _ h => c_X5_has (kl x) N w (ok_56 hS) _ h) (g_cwV C hR ml_X8_102 im_X5_has sl_X5_has ini_X5 cd_X5_has hd_X5_has (by decide)) kd_56 (by decide) rfl (in_56 hS) rfl _ rfl (Nat.le_of_ble_eq_true rfl) dX8_shelf_5 hf (fun r1 s1 hf => ?_)
  refine g_ifneB (tgt := 13) C dX8_shelf_8 (by decide) hf (fun hf => ?_) (fun hf => ?_)
  · refine g_iload_n C dX8_shelf_13 rfl 2 rfl ?_
    rcases ite_some hf with ⟨e0, hf⟩ | ⟨n0, hf⟩
    · refine g_tabIn (k := 0) (tgt := 44) C dX8_shelf_14 e0 (by decide) (by decide) rfl (by decide) ?_
      refine g_aload_n C dX8_shelf_44 rfl 0 rfl ?_
      refine g_get C (R := RX8) (T := TX8) (N := 11) (k := 0) (v := .ref (ad w 1)) kd_0 (by decide) rfl (in_0 hS) hinX8 (by decide) fl_X8_10 rfl rfl dX8_shelf_45 ?_
      refine g_get C (R := RX0) (T := TX0) (N := 8) (k := 1) (v := .ref (ad w 4)) kd_1 (by decide) rfl (in_1 hS) hinX0 (by decide) fl_X8_122 rfl rfl dX8_shelf_48 ?_
      refine g_iload_n C dX8_shelf_51 rfl 3 rfl ?_
      refine g_callVB C (R := RX5) (T := TX5) (N := 4) [.int a3] (fun _ _ h => c_X5_has (kl x) N w (ok_4 hS) _ h) (g_cwV C hR ml_X8_102 im_X5_has sl_X5_has ini_X5 cd_X5_has hd_X5_has (by decide)) kd_4 (by decide) rfl (in_4 hS) rfl _ rfl (Nat.le_of_ble_eq_true rfl) dX8_shelf_52 hf (fun r2 s2 hf => ?_)
      refine g_ifeqB (tgt := 68) C dX8_shelf_55 (by decide) hf (fun hf => ?_) (fun hf => ?_)
      · refine g_iconst C (v := (-1)) dX8_shelf_68 rfl ?_
        exact g_iret C dX8_shelf_69 hf
      · refine g_aload_n C dX8_shelf_58 rfl 0 rfl ?_
        refine g_iload_n C dX8_shelf_59 rfl 1 rfl ?_
        refine g_iload_n C dX8_shelf_60 rfl 2 rfl ?_
        refine g_iload_n C dX8_shelf_61 rfl 3 rfl ?_
        refine g_callVI C (R := RX8) (T := TX8) (N := 11) [.int a1, .int a2, .int a3] (fun _ _ h => c_X8_shelve (kl x) N w hS _ _ _ h) (g_cwV C hR ml_X8_292 im_X8_shelve sl_X8_shelve ini_X8 cd_X8_shelve hd_X8_shelve (by decide)) kd_0 (by decide) rfl (in_0 hS) rfl _ rfl (Nat.le_of_ble_eq_true rfl) dX8_shelf_62 hf (fun r3 s3 hf => ?_)
        refine g_goto (tgt := 69) C dX8_shelf_65 (by decide) ?_
        exact g_iret C dX8_shelf_69 hf
    rcases ite_some hf with ⟨e1, hf⟩ | ⟨n1, hf⟩
    · refine g_tabIn (k := 1) (tgt := 70) C dX8_shelf_14 e1 (by decide) (by decide) rfl (by decide) ?_
      refine g_aload_n C dX8_shelf_70 rfl 0 rfl ?_
      refine g_get C (R := RX8) (T := TX8) (N := 11) (k := 0) (v := .ref (ad w 1)) kd_0 (by decide) rfl (in_0 hS) hinX8 (by decide) fl_X8_10 rfl rfl dX8_shelf_71 ?_
      refine g_get C (R := RX0) (T := TX0) (N := 8) (k := 0) (v := .ref (ad w 2)) kd_1 (by decide) rfl (in_1 hS) hinX0 (by decide) fl_X8_95 rfl rfl dX8_shelf_74 ?_
      refine g_iload_n C dX8_shelf_77 rfl 3 rfl ?_
      refine g_callVB C (R := RX5) (T := TX5) (N := 4) [.int a3] (fun _ _ h => c_X5_has (kl x) N w (ok_2 hS) _ h) (g_cwV C hR ml_X8_102 im_X5_has sl_X5_has ini_X5 cd_X5_has hd_X5_has (by decide)) kd_2 (by decide) rfl (in_2 hS) rfl _ rfl (Nat.le_of_ble_eq_true rfl) dX8_shelf_78 hf (fun r4 s4 hf => ?_)
      refine g_ifeqB (tgt := 94) C dX8_shelf_81 (by decide) hf (fun hf => ?_) (fun hf => ?_)
      · refine g_iconst C (v := (-1)) dX8_shelf_94 rfl ?_
        exact g_iret C dX8_shelf_95 hf
      · refine g_aload_n C dX8_shelf_84 rfl 0 rfl ?_
        refine g_iload_n C dX8_shelf_85 rfl 1 rfl ?_
        refine g_iload_n C dX8_shelf_86 rfl 2 rfl ?_
        refine g_iload_n C dX8_shelf_87 rfl 3 rfl ?_
        refine g_callVI C (R := RX8) (T := TX8) (N := 11) [.int a1, .int a2, .int a3] (fun _ _ h => c_X8_shelve (kl x) N w hS _ _ _ h) (g_cwV C hR ml_X8_292 im_X8_shelve sl_X8_shelve ini_X8 cd_X8_shelve hd_X8_shelve (by decide)) kd_0 (by decide) rfl (in_0 hS) rfl _ rfl (Nat.le_of_ble_eq_true rfl) dX8_shelf_88 hf (fun r5 s5 hf => ?_)
        refine g_goto (tgt := 95) C dX8_shelf_91 (by decide) ?_
        exact g_iret C dX8_shelf_95 hf
    rcases ite_some hf with ⟨e2, hf⟩ | ⟨n2, hf⟩
    · refine g_tabIn (k := 2) (tgt := 96) C dX8_shelf_14 e2 (by decide) (by decide) rfl (by decide) ?_
      refine g_iload_n C dX8_shelf_96 rfl 3 rfl ?_
      refine g_callSB C [.int a3] (fun _ _ h => c_X8_isSheet (kl x) N w _ h) (g_cwS C hR ml_X8_129 sm_X8_isSheet ini_X8 cd_X8_isSheet hd_X8_isSheet (by decide)) rfl _ rfl (Nat.le_of_ble_eq_true rfl) dX8_shelf_97 hf (fun r6 s6 hf => ?_)
      refine g_ifeqB (tgt := 112) C dX8_shelf_100 (by decide) hf (fun hf => ?_) (fun hf => ?_)
      · refine g_iconst C (v := (-1)) dX8_shelf_112 rfl ?_
        exact g_iret C dX8_shelf_113 hf
      · refine g_aload_n C dX8_shelf_103 rfl 0 rfl ?_
        refine g_iload_n C dX8_shelf_104 rfl 1 rfl ?_
        refine g_iload_n C dX8_shelf_105 rfl 3 rfl ?_
        refine g_callVI C (R := RX8) (T := TX8) (N := 11) [.int a1, .int a3] (fun _ _ h => c_X8_shelveRow (kl x) N w hS _ _ h) (g_cwV C hR ml_X8_296 im_X8_shelveRow sl_X8_shelveRow ini_X8 cd_X8_shelveRow hd_X8_shelveRow (by decide)) kd_0 (by decide) rfl (in_0 hS) rfl _ rfl (Nat.le_of_ble_eq_true rfl) dX8_shelf_106 hf (fun r7 s7 hf => ?_)
        refine g_goto (tgt := 113) C dX8_shelf_109 (by decide) ?_
        exact g_iret C dX8_shelf_113 hf
    rcases ite_some hf with ⟨e3, hf⟩ | ⟨n3, hf⟩
    · refine g_tabIn (k := 3) (tgt := 114) C dX8_shelf_14 e3 (by decide) (by decide) rfl (by decide) ?_
      refine g_aload_n C dX8_shelf_114 rfl 0 rfl ?_
      refine g_iload_n C dX8_shelf_115 rfl 1 rfl ?_
      refine g_iload_n C dX8_shelf_116 rfl 2 rfl ?_
      refine g_iconst C (v := 0) dX8_shelf_117 rfl ?_
      refine g_callVI C (R := RX8) (T := TX8) (N := 11) [.int a1, .int a2, .int 0] (fun _ _ h => c_X8_shelve (kl x) N w hS _ _ _ h) (g_cwV C hR ml_X8_292 im_X8_shelve sl_X8_shelve ini_X8 cd_X8_shelve hd_X8_shelve (by decide)) kd_0 (by decide) rfl (in_0 hS) rfl _ rfl (Nat.le_of_ble_eq_true rfl) dX8_shelf_118 hf (fun r8 s8 hf => ?_)
      exact g_iret C dX8_shelf_121 hf
    refine g_tabOut (tgt := 122) C dX8_shelf_14 (by have z0 := lv_neT n0 (a := 0) (by decide); have z1 := lv_neT n1 (a := 1) (by decide); have z2 := lv_neT n2 (a := 2) (by decide); have z3 := lv_neT n3 (a := 3) (by decide); omega) (by decide) ?_
    refine g_iconst C (v := (-1)) dX8_shelf_122 rfl ?_
    exact g_iret C dX8_shelf_123 hf
  · refine g_iconst C (v := (-1)) dX8_shelf_11 rfl ?_
    exact g_iret C dX8_shelf_12 hf

set_option maxHeartbeats 4000000 in
set_option maxRecDepth 100000 in
theorem c_X8_heldOn (l : Launch) (N : Nat) (w : WX) (hS : SS w = Sc) (a1 : Int32) {s s' : Mem} {r : Int32} (hf : f_X8_heldOn N a1 s = some (r, s')) : CI l yX8_heldOn (wz yX8_heldOn cX8_heldOn 4 (some .int)) ({ frames := 1, cells := 0, slots := 0, locals := 23 } : Room) [.ref (ad w 0), .int a1] w s r s' := by
  refine met_startI (cc := cX8_heldOn) (ret := (some .int)) (own := RX8) (maxL := 4) (by decide) rfl (Nat.le_of_ble_eq_true rfl) (fun x C hR hl => ?_)
  have j53 : ∀ (v2 : Int32) (v3 : Int32) (s : Mem), f_X8_heldOn_j53 N v2 v3 s = some (r, s') → G x (QI x w r s') 4 w 53 [(0, .ref (ad w 0)), (2, .int v2), (3, .int v3)] [] s := by
    intro v2 v3 s hf
    unfold f_X8_heldOn_j53 at hf
    refine g_iload_n C dX8_heldOn_53 rfl 1 rfl ?_
    refine g_iconst C (v := 1) dX8_heldOn_54 rfl ?_
    refine g_icmp_ne (tgt := 74) C dX8_heldOn_55 (by decide) hf (fun hf => ?_) (fun hf => ?_)
    · refine g_iload_n C dX8_heldOn_74 rfl 1 rfl ?_
      exact g_iret C dX8_heldOn_75 hf
    · refine g_aload_n C dX8_heldOn_58 rfl 0 rfl ?_
      refine g_get C (R := RX8) (T := TX8) (N := 11) (k := 0) (v := .ref (ad w 1)) kd_0 (by decide) rfl (in_0 hS) hinX8 (by decide) fl_X8_10 rfl rfl dX8_heldOn_59 ?_
      refine g_get C (R := RX0) (T := TX0) (N := 8) (k := 0) (v := .ref (ad w 2)) kd_1 (by decide) rfl (in_1 hS) hinX0 (by decide) fl_X8_95 rfl rfl dX8_heldOn_62 ?_
      refine g_iload_n C dX8_heldOn_65 rfl 2 rfl ?_
      refine g_callVB C (R := RX5) (T := TX5) (N := 4) [.int v3] (fun _ _ h => c_X5_has (kl x) N w (ok_2 hS) _ h) (g_cwV C hR ml_X8_102 im_X5_has sl_X5_has ini_X5 cd_X5_has hd_X5_has (by decide)) kd_2 (by decide) rfl (in_2 hS) rfl _ rfl (Nat.le_of_ble_eq_true rfl) dX8_heldOn_66 hf (fun r1 s1 hf => ?_)
      refine g_ifneB (tgt := 74) C dX8_heldOn_69 (by decide) hf (fun hf => ?_) (fun hf => ?_)
      · refine g_iload_n C dX8_heldOn_74 rfl 1 rfl ?_
        exact g_iret C dX8_heldOn_75 hf
      · refine g_iconst C (v := 3) dX8_heldOn_72 rfl ?_
        exact g_iret C dX8_heldOn_73 hf
  refine g_lv (lv' := [(0, .ref (ad w 0)), (1, .int a1)]) rfl ?_
  unfold f_X8_heldOn at hf
  refine g_aload_n C dX8_heldOn_0 rfl 0 rfl ?_
  refine g_get C (R := RX8) (T := TX8) (N := 11) (k := 9) (v := .ref (ad w 56)) kd_0 (by decide) rfl (in_0 hS) hinX8 (by decide) fl_X8_69 rfl rfl dX8_heldOn_1 ?_
  refine g_iload_n C dX8_heldOn_4 rfl 1 rfl ?_
  refine g_callVB C (R := RX5) (T := TX5) (N := 4) [.int a1] (fun _ _ h => c_X5_has (kl x) N w (ok_56 hS) _ h) (g_cwV C hR ml_X8_102 im_X5_has sl_X5_has ini_X5 cd_X5_has hd_X5_has (by decide)) kd_56 (by decide) rfl (in_56 hS) rfl _ rfl (Nat.le_of_ble_eq_true rfl) dX8_heldOn_5 hf (fun r1 s1 hf => ?_)
  refine g_ifneB (tgt := 13) C dX8_heldOn_8 (by decide) hf (fun hf => ?_) (fun hf => ?_)
  · refine g_aload_n C dX8_heldOn_13 rfl 0 rfl ?_
    refine g_get C (R := RX8) (T := TX8) (N := 11) (k := 9) (v := .ref (ad w 56)) kd_0 (by decide) rfl (in_0 hS) hinX8 (by decide) fl_X8_69 rfl rfl dX8_heldOn_14 ?_
    refine g_iload_n C dX8_heldOn_17 rfl 1 rfl ?_
    refine g_iconst C (v := 0) dX8_heldOn_18 rfl ?_
    refine g_callVI C (R := RX5) (T := TX5) (N := 4) [.int a1, .int 0] (fun _ _ h => c_X5_get (kl x) N w (ok_56 hS) _ _ h) (g_cwV C hR ml_X8_105 im_X5_get sl_X5_get ini_X5 cd_X5_get hd_X5_get (by decide)) kd_56 (by decide) rfl (in_56 hS) rfl _ rfl (Nat.le_of_ble_eq_true rfl) dX8_heldOn_19 hf (fun r2 s2 hf => ?_)
    refine g_istore_n (lv' := [(2, .int r2), (0, .ref (ad w 0)), (1, .int a1)]) C dX8_heldOn_22 rfl (by decide) rfl ?_
    refine g_aload_n C dX8_heldOn_23 rfl 1 rfl ?_
    refine g_get C (R := RX8) (T := TX8) (N := 11) (k := 9) (v := .ref (ad w 56)) kd_0 (by decide) rfl (in_0 hS) hinX8 (by decide) fl_X8_69 rfl rfl dX8_heldOn_24 ?_
    refine g_iload_n C dX8_heldOn_27 rfl 2 rfl ?_
    refine g_iconst C (v := 1) dX8_heldOn_28 rfl ?_
    refine g_callVI C (R := RX5) (T := TX5) (N := 4) [.int a1, .int 1] (fun _ _ h => c_X5_get (kl x) N w (ok_56 hS) _ _ h) (g_cwV C hR ml_X8_105 im_X5_get sl_X5_get ini_X5 cd_X5_get hd_X5_get (by decide)) kd_56 (by decide) rfl (in_56 hS) rfl _ rfl (Nat.le_of_ble_eq_true rfl) dX8_heldOn_29 hf (fun r3 s3 hf => ?_)
    refine g_istore_n (lv' := [(3, .int r3), (2, .int r2), (0, .ref (ad w 0)), (1, .int a1)]) C dX8_heldOn_32 rfl (by decide) rfl ?_
    refine g_iload_n C dX8_heldOn_33 rfl 1 rfl ?_
    refine g_if_ne (tgt := 53) C dX8_heldOn_34 (by decide) hf (fun hf => ?_) (fun hf => ?_)
    · refine g_sub [2, 1, 0] rfl ?_
      exact j53 _ _ _ hf
    · refine g_aload_n C dX8_heldOn_37 rfl 2 rfl ?_
      refine g_get C (R := RX8) (T := TX8) (N := 11) (k := 0) (v := .ref (ad w 1)) kd_0 (by decide) rfl (in_0 hS) hinX8 (by decide) fl_X8_10 rfl rfl dX8_heldOn_38 ?_
      refine g_get C (R := RX0) (T := TX0) (N := 8) (k := 1) (v := .ref (ad w 4)) kd_1 (by decide) rfl (in_1 hS) hinX0 (by decide) fl_X8_122 rfl rfl dX8_heldOn_41 ?_
      refine g_iload_n C dX8_heldOn_44 rfl 0 rfl ?_
      refine g_callVB C (R := RX5) (T := TX5) (N := 4) [.int r3] (fun _ _ h => c_X5_has (kl x) N w (ok_4 hS) _ h) (g_cwV C hR ml_X8_102 im_X5_has sl_X5_has ini_X5 cd_X5_has hd_X5_has (by decide)) kd_4 (by decide) rfl (in_4 hS) rfl _ rfl (Nat.le_of_ble_eq_true rfl) dX8_heldOn_45 hf (fun r4 s4 hf => ?_)
      refine g_ifneB (tgt := 53) C dX8_heldOn_48 (by decide) hf (fun hf => ?_) (fun hf => ?_)
      · refine g_sub [2, 1, 0] rfl ?_
        exact j53 _ _ _ hf
      · refine g_iconst C (v := 3) dX8_heldOn_51 rfl ?_
        exact g_iret C dX8_heldOn_52 hf
  · refine g_iconst C (v := 3) dX8_heldOn_11 rfl ?_
    exact g_iret C dX8_heldOn_12 hf

set_option maxHeartbeats 4000000 in
set_option maxRecDepth 100000 in
theorem c_X8_kindOn (l : Launch) (N : Nat) (w : WX) (hS : SS w = Sc) (a1 : Int32) {s s' : Mem} {r : Int32} (hf : f_X8_kindOn N a1 s = some (r, s')) : CI l yX8_kindOn (wz yX8_kindOn cX8_kindOn 2 (some .int)) ({ frames := 1, cells := 0, slots := 0, locals := 23 } : Room) [.ref (ad w 0), .int a1] w s r s' := by
  refine met_startI (cc := cX8_kindOn) (ret := (some .int)) (own := RX8) (maxL := 2) (by decide) rfl (Nat.le_of_ble_eq_true rfl) (fun x C hR hl => ?_)
  refine g_lv (lv' := [(0, .ref (ad w 0)), (1, .int a1)]) rfl ?_
  unfold f_X8_kindOn at hf
  refine g_aload_n C dX8_kindOn_0 rfl 0 rfl ?_
  refine g_get C (R := RX8) (T := TX8) (N := 11) (k := 9) (v := .ref (ad w 56)) kd_0 (by decide) rfl (in_0 hS) hinX8 (by decide) fl_X8_69 rfl rfl dX8_kindOn_1 ?_
  refine g_iload_n C dX8_kindOn_4 rfl 1 rfl ?_
  refine g_iconst C (v := 0) dX8_kindOn_5 rfl ?_
  refine g_callVI C (R := RX5) (T := TX5) (N := 4) [.int a1, .int 0] (fun _ _ h => c_X5_get (kl x) N w (ok_56 hS) _ _ h) (g_cwV C hR ml_X8_105 im_X5_get sl_X5_get ini_X5 cd_X5_get hd_X5_get (by decide)) kd_56 (by decide) rfl (in_56 hS) rfl _ rfl (Nat.le_of_ble_eq_true rfl) dX8_kindOn_6 hf (fun r1 s1 hf => ?_)
  refine g_iconst C (v := 1) dX8_kindOn_9 rfl ?_
  refine g_icmp_ne (tgt := 16) C dX8_kindOn_10 (by decide) hf (fun hf => ?_) (fun hf => ?_)
  · refine g_aload_n C dX8_kindOn_16 rfl 0 rfl ?_
    refine g_get C (R := RX8) (T := TX8) (N := 11) (k := 0) (v := .ref (ad w 1)) kd_0 (by decide) rfl (in_0 hS) hinX8 (by decide) fl_X8_10 rfl rfl dX8_kindOn_17 ?_
    refine g_get C (R := RX0) (T := TX0) (N := 8) (k := 1) (v := .ref (ad w 4)) kd_1 (by decide) rfl (in_1 hS) hinX0 (by decide) fl_X8_122 rfl rfl dX8_kindOn_20 ?_
    refine g_aload_n C dX8_kindOn_23 rfl 0 rfl ?_
    refine g_get C (R := RX8) (T := TX8) (N := 11) (k := 9) (v := .ref (ad w 56)) kd_0 (by decide) rfl (in_0 hS) hinX8 (by decide) fl_X8_69 rfl rfl dX8_kindOn_24 ?_
    refine g_iload_n C dX8_kindOn_27 rfl 1 rfl ?_
    refine g_iconst C (v := 1) dX8_kindOn_28 rfl ?_
    refine g_callVI C (R := RX5) (T := TX5) (N := 4) [.int a1, .int 1] (fun _ _ h => c_X5_get (kl x) N w (ok_56 hS) _ _ h) (g_cwV C hR ml_X8_105 im_X5_get sl_X5_get ini_X5 cd_X5_get hd_X5_get (by decide)) kd_56 (by decide) rfl (in_56 hS) rfl _ rfl (Nat.le_of_ble_eq_true rfl) dX8_kindOn_29 hf (fun r2 s2 hf => ?_)
    refine g_iconst C (v := 1) dX8_kindOn_32 rfl ?_
    refine g_callVI C (R := RX5) (T := TX5) (N := 4) [.int r2, .int 1] (fun _ _ h => c_X5_get (kl x) N w (ok_4 hS) _ _ h) (g_cwV C hR ml_X8_105 im_X5_get sl_X5_get ini_X5 cd_X5_get hd_X5_get (by decide)) kd_4 (by decide) rfl (in_4 hS) rfl _ rfl (Nat.le_of_ble_eq_true rfl) dX8_kindOn_33 hf (fun r3 s3 hf => ?_)
    exact g_iret C dX8_kindOn_36 hf
  · refine g_bipush C (v := 8) dX8_kindOn_13 (by decide) ?_
    exact g_iret C dX8_kindOn_15 hf

set_option maxHeartbeats 4000000 in
set_option maxRecDepth 100000 in
theorem c_X8_taken (l : Launch) (N : Nat) (w : WX) (hS : SS w = Sc) (a1 : Int32) (a2 : Int32) {s s' : Mem} {r : Int32} (hf : f_X8_taken N a1 a2 s = some (r, s')) : CI l yX8_taken (wz yX8_taken cX8_taken 5 (some .int)) ({ frames := 2, cells := 0, slots := 0, locals := 46 } : Room) [.ref (ad w 0), .int a1, .int a2] w s r s' := by
  refine met_startI (cc := cX8_taken) (ret := (some .int)) (own := RX8) (maxL := 5) (by decide) rfl (Nat.le_of_ble_eq_true rfl) (fun x C hR hl => ?_)
  have j63 : ∀ (v1 : Int32) (v2 : Int32) (v3 : Bool) (p0 : Bool) (p1 : Bool) (s : Mem), f_X8_taken_j63 N v1 v2 v3 p0 p1 s = some (r, s') → G x (QI x w r s') 5 w 63 [(0, .ref (ad w 0)), (1, .int v1), (2, .int v2), (3, .int (bI v3))] [.int (bI p0), .int (bI p1)] s := by
    intro v1 v2 v3 p0 p1 s hf
    unfold f_X8_taken_j63 at hf
    refine g_icmp_eq (tgt := 69) C dX8_taken_63 (by decide) hf (fun hf => ?_) (fun hf => ?_)
    · refine g_iload_n C dX8_taken_69 rfl 3 rfl ?_
      refine g_ifeqB (tgt := 104) C dX8_taken_70 (by decide) hf (fun hf => ?_) (fun hf => ?_)
      · refine g_aload_n C dX8_taken_104 rfl 0 rfl ?_
        refine g_iload_n C dX8_taken_105 rfl 1 rfl ?_
        refine g_callVI C (R := RX8) (T := TX8) (N := 11) [.int v1] (fun _ _ h => c_X8_kindOn (kl x) N w hS _ h) (g_cwV C hR ml_X8_302 im_X8_kindOn sl_X8_kindOn ini_X8 cd_X8_kindOn hd_X8_kindOn (by decide)) kd_0 (by decide) rfl (in_0 hS) rfl _ rfl (Nat.le_of_ble_eq_true rfl) dX8_taken_106 hf (fun r1 s1 hf => ?_)
        refine g_iload_n C dX8_taken_109 rfl 2 rfl ?_
        refine g_callSB C [.int r1, .int v2] (fun _ _ h => c_X8_isUnder (kl x) N w hS _ _ h) (g_cwS C hR ml_X8_305 sm_X8_isUnder ini_X8 cd_X8_isUnder hd_X8_isUnder (by decide)) rfl _ rfl (Nat.le_of_ble_eq_true rfl) dX8_taken_110 hf (fun r2 s2 hf => ?_)
        refine g_ifeqB (tgt := 128) C dX8_taken_113 (by decide) hf (fun hf => ?_) (fun hf => ?_)
        · refine g_bipush C (v := (-13)) dX8_taken_128 (by decide) ?_
          exact g_iret C dX8_taken_130 hf
        · refine g_aload_n C dX8_taken_116 rfl 0 rfl ?_
          refine g_get C (R := RX8) (T := TX8) (N := 11) (k := 9) (v := .ref (ad w 56)) kd_0 (by decide) rfl (in_0 hS) hinX8 (by decide) fl_X8_69 rfl rfl dX8_taken_117 ?_
          refine g_iload_n C dX8_taken_120 rfl 1 rfl ?_
          refine g_iconst C (v := 1) dX8_taken_121 rfl ?_
          refine g_callVI C (R := RX5) (T := TX5) (N := 4) [.int v1, .int 1] (fun _ _ h => c_X5_get (kl x) N w (ok_56 hS) _ _ h) (g_cwV C hR ml_X8_105 im_X5_get sl_X5_get ini_X5 cd_X5_get hd_X5_get (by decide)) kd_56 (by decide) rfl (in_56 hS) rfl _ rfl (Nat.le_of_ble_eq_true rfl) dX8_taken_122 hf (fun r3 s3 hf => ?_)
          refine g_goto (tgt := 130) C dX8_taken_125 (by decide) ?_
          exact g_iret C dX8_taken_130 hf
      · refine g_aload_n C dX8_taken_73 rfl 0 rfl ?_
        refine g_get C (R := RX8) (T := TX8) (N := 11) (k := 9) (v := .ref (ad w 56)) kd_0 (by decide) rfl (in_0 hS) hinX8 (by decide) fl_X8_69 rfl rfl dX8_taken_74 ?_
        refine g_iload_n C dX8_taken_77 rfl 1 rfl ?_
        refine g_iconst C (v := 2) dX8_taken_78 rfl ?_
        refine g_callVI C (R := RX5) (T := TX5) (N := 4) [.int v1, .int 2] (fun _ _ h => c_X5_get (kl x) N w (ok_56 hS) _ _ h) (g_cwV C hR ml_X8_105 im_X5_get sl_X5_get ini_X5 cd_X5_get hd_X5_get (by decide)) kd_56 (by decide) rfl (in_56 hS) rfl _ rfl (Nat.le_of_ble_eq_true rfl) dX8_taken_79 hf (fun r4 s4 hf => ?_)
        refine g_iload_n C dX8_taken_82 rfl 2 rfl ?_
        refine g_bipush C (v := 10) dX8_taken_83 (by decide) ?_
        refine g_isub C dX8_taken_85 ?_
        refine g_icmp_ne (tgt := 101) C dX8_taken_86 (by decide) hf (fun hf => ?_) (fun hf => ?_)
        · refine g_bipush C (v := (-13)) dX8_taken_101 (by decide) ?_
          exact g_iret C dX8_taken_103 hf
        · refine g_aload_n C dX8_taken_89 rfl 0 rfl ?_
          refine g_get C (R := RX8) (T := TX8) (N := 11) (k := 9) (v := .ref (ad w 56)) kd_0 (by decide) rfl (in_0 hS) hinX8 (by decide) fl_X8_69 rfl rfl dX8_taken_90 ?_
          refine g_iload_n C dX8_taken_93 rfl 1 rfl ?_
          refine g_iconst C (v := 3) dX8_taken_94 rfl ?_
          refine g_callVI C (R := RX5) (T := TX5) (N := 4) [.int v1, .int 3] (fun _ _ h => c_X5_get (kl x) N w (ok_56 hS) _ _ h) (g_cwV C hR ml_X8_105 im_X5_get sl_X5_get ini_X5 cd_X5_get hd_X5_get (by decide)) kd_56 (by decide) rfl (in_56 hS) rfl _ rfl (Nat.le_of_ble_eq_true rfl) dX8_taken_95 hf (fun r5 s5 hf => ?_)
          refine g_goto (tgt := 103) C dX8_taken_98 (by decide) ?_
          exact g_iret C dX8_taken_103 hf
    · refine g_bipush C (v := (-13)) dX8_taken_66 (by decide) ?_
      exact g_iret C dX8_taken_68 hf
  have j35 : ∀ (v1 : Int32) (v2 : Int32) (v3 : Bool) (s : Mem), f_X8_taken_j35 N v1 v2 v3 s = some (r, s') → G x (QI x w r s') 5 w 35 [(0, .ref (ad w 0)), (1, .int v1), (2, .int v2), (3, .int (bI v3))] [] s := by
    intro v1 v2 v3 s hf
    unfold f_X8_taken_j35 at hf
    refine g_aload_n C dX8_taken_35 rfl 0 rfl ?_
    refine g_iload_n C dX8_taken_36 rfl 1 rfl ?_
    refine g_callVI C (R := RX8) (T := TX8) (N := 11) [.int v1] (fun _ _ h => c_X8_heldOn (kl x) N w hS _ h) (g_cwV C hR ml_X8_299 im_X8_heldOn sl_X8_heldOn ini_X8 cd_X8_heldOn hd_X8_heldOn (by decide)) kd_0 (by decide) rfl (in_0 hS) rfl _ rfl (Nat.le_of_ble_eq_true rfl) dX8_taken_37 hf (fun r1 s1 hf => ?_)
    refine g_istore (lv' := [(4, .int r1), (0, .ref (ad w 0)), (1, .int v1), (2, .int v2), (3, .int (bI v3))]) C dX8_taken_40 (by decide) rfl ?_
    refine g_iload C dX8_taken_42 0 rfl ?_
    refine g_iconst C (v := 3) dX8_taken_44 rfl ?_
    refine g_icmp_ne (tgt := 51) C dX8_taken_45 (by decide) hf (fun hf => ?_) (fun hf => ?_)
    · refine g_iload_n C dX8_taken_51 rfl 4 rfl ?_
      refine g_iload C dX8_taken_52 0 rfl ?_
      refine g_iconst C (v := 2) dX8_taken_54 rfl ?_
      refine g_icmp_ne (tgt := 62) C dX8_taken_55 (by decide) hf (fun hf => ?_) (fun hf => ?_)
      · refine g_iconst C (v := 0) dX8_taken_62 rfl ?_
        refine g_sub [1, 2, 3, 4] rfl ?_
        exact j63 _ _ _ _ _ _ hf
      · refine g_iconst C (v := 1) dX8_taken_58 rfl ?_
        refine g_goto (tgt := 63) C dX8_taken_59 (by decide) ?_
        refine g_sub [1, 2, 3, 4] rfl ?_
        exact j63 _ _ _ _ _ _ hf
    · refine g_bipush C (v := (-11)) dX8_taken_48 (by decide) ?_
      exact g_iret C dX8_taken_50 hf
  refine g_lv (lv' := [(0, .ref (ad w 0)), (1, .int a1), (2, .int a2)]) rfl ?_
  unfold f_X8_taken at hf
  refine g_iload_n C dX8_taken_0 rfl 2 rfl ?_
  refine g_bipush C (v := 10) dX8_taken_1 (by decide) ?_
  refine g_isub C dX8_taken_3 ?_
  refine g_callSB C [.int (a2 - 10)] (fun _ _ h => c_X8_isSort (kl x) N w _ h) (g_cwS C hR ml_X8_285 sm_X8_isSort ini_X8 cd_X8_isSort hd_X8_isSort (by decide)) rfl _ rfl (Nat.le_of_ble_eq_true rfl) dX8_taken_4 hf (fun r1 s1 hf => ?_)
  refine g_istore_n (lv' := [(3, .int (bI r1)), (0, .ref (ad w 0)), (1, .int a1), (2, .int a2)]) C dX8_taken_7 rfl (by decide) rfl ?_
  refine g_aload_n C dX8_taken_8 rfl 1 rfl ?_
  refine g_get C (R := RX8) (T := TX8) (N := 11) (k := 9) (v := .ref (ad w 56)) kd_0 (by decide) rfl (in_0 hS) hinX8 (by decide) fl_X8_69 rfl rfl dX8_taken_9 ?_
  refine g_iload_n C dX8_taken_12 rfl 2 rfl ?_
  refine g_callVB C (R := RX5) (T := TX5) (N := 4) [.int a1] (fun _ _ h => c_X5_has (kl x) N w (ok_56 hS) _ h) (g_cwV C hR ml_X8_102 im_X5_has sl_X5_has ini_X5 cd_X5_has hd_X5_has (by decide)) kd_56 (by decide) rfl (in_56 hS) rfl _ rfl (Nat.le_of_ble_eq_true rfl) dX8_taken_13 hf (fun r2 s2 hf => ?_)
  refine g_ifeqB (tgt := 33) C dX8_taken_16 (by decide) hf (fun hf => ?_) (fun hf => ?_)
  · refine g_iconst C (v := (-1)) dX8_taken_33 rfl ?_
    exact g_iret C dX8_taken_34 hf
  · refine g_iload_n C dX8_taken_19 rfl 0 rfl ?_
    refine g_ifneB (tgt := 35) C dX8_taken_20 (by decide) hf (fun hf => ?_) (fun hf => ?_)
    · refine g_sub [1, 2, 3, 0] rfl ?_
      exact j35 _ _ _ _ hf
    · refine g_iload_n C dX8_taken_23 rfl 3 rfl ?_
      refine g_iconst C (v := 0) dX8_taken_24 rfl ?_
      refine g_bipush C (v := 8) dX8_taken_25 (by decide) ?_
      refine g_callSB C [.int a2, .int 0, .int 8] (fun _ _ h => c_X8_isWithin (kl x) N w _ _ _ h) (g_cwS C hR ml_X8_91 sm_X8_isWithin ini_X8 cd_X8_isWithin hd_X8_isWithin (by decide)) rfl _ rfl (Nat.le_of_ble_eq_true rfl) dX8_taken_27 hf (fun r3 s3 hf => ?_)
      refine g_ifneB (tgt := 35) C dX8_taken_30 (by decide) hf (fun hf => ?_) (fun hf => ?_)
      · refine g_sub [1, 2, 3, 0] rfl ?_
        exact j35 _ _ _ _ hf
      · refine g_iconst C (v := (-1)) dX8_taken_33 rfl ?_
        exact g_iret C dX8_taken_34 hf

set_option maxHeartbeats 4000000 in
set_option maxRecDepth 100000 in
theorem c_X8_act (l : Launch) (N : Nat) (w : WX) (hS : SS w = Sc) (a1 : Int32) (a2 : Int32) (a3 : Int32) {s s' : Mem} {r : Int32} (hf : f_X8_act N a1 a2 a3 s = some (r, s')) : CI l yX8_act (wz yX8_act cX8_act 5 (some .int)) ({ frames := 6, cells := 0, slots := 0, locals := 141 } : Room) [.ref (ad w 0), .int a1, .int a2, .int a3] w s r s' := by
  refine met_startI (cc := cX8_act) (ret := (some .int)) (own := RX8) (maxL := 5) (by decide) rfl (Nat.le_of_ble_eq_true rfl) (fun x C hR hl => ?_)
  have j104 : ∀ (v2 : Int32) (v3 : Int32) (p0 : Int32) (s : Mem), f_X8_act_j104 N v2 v3 p0 s = some (r, s') → G x (QI x w r s') 5 w 104 [(0, .ref (ad w 0)), (2, .int v2), (3, .int v3)] [.int p0, .ref (ad w 58)] s := by
    intro v2 v3 p0 s hf
    unfold f_X8_act_j104 at hf
    refine g_putI C (R := RX6) (T := TX6) (N := 5) (k := 3) (ty := .int) tyX6 tyX6_ok nmX6 kd_58 (by decide) rfl (in_58 hS) hinX6 (by decide) fl_X8_317 rfl rfl rfl rfl rfl (Nat.le_of_ble_eq_true rfl) fs_6_3 dX8_act_104 ?_
    refine g_nameS hf (fun s1 hf => ?_)
    refine g_aload_n C dX8_act_107 rfl 0 rfl ?_
    refine g_get C (R := RX8) (T := TX8) (N := 11) (k := 10) (v := .ref (ad w 58)) kd_0 (by decide) rfl (in_0 hS) hinX8 (by decide) fl_X8_75 rfl rfl dX8_act_108 ?_
    refine g_iload_n C dX8_act_111 rfl 1 rfl ?_
    refine g_iload_n C dX8_act_112 rfl 2 rfl ?_
    refine g_callVI C (R := RX6) (T := TX6) (N := 5) [.int v2, .int v3] (fun _ _ h => c_X6_perform (kl x) N w hS _ _ h) (g_cwV C hR ml_X8_320 im_X6_perform sl_X6_perform ini_X6 cd_X6_perform hd_X6_perform (by decide)) kd_58 (by decide) rfl (in_58 hS) rfl _ rfl (Nat.le_of_ble_eq_true rfl) dX8_act_113 hf (fun r2 s2 hf => ?_)
    exact g_iret C dX8_act_116 hf
  refine g_lv (lv' := [(0, .ref (ad w 0)), (1, .int a1), (2, .int a2), (3, .int a3)]) rfl ?_
  unfold f_X8_act at hf
  refine g_aload_n C dX8_act_0 rfl 0 rfl ?_
  refine g_get C (R := RX8) (T := TX8) (N := 11) (k := 10) (v := .ref (ad w 58)) kd_0 (by decide) rfl (in_0 hS) hinX8 (by decide) fl_X8_75 rfl rfl dX8_act_1 ?_
  refine g_get C (R := RX6) (T := TX6) (N := 5) (k := 0) (v := .ref (ad w 59)) kd_58 (by decide) rfl (in_58 hS) hinX6 (by decide) fl_X8_308 rfl rfl dX8_act_4 ?_
  refine g_callVV C (R := RX3) (T := TX3) (N := 2) [] (fun _ h => c_X3_clear (kl x) N w (ok_59 hS) h) (g_cwV C hR ml_X8_213 im_X3_clear sl_X3_clear ini_X3 cd_X3_clear hd_X3_clear (by decide)) kd_59 (by decide) rfl (in_59 hS) rfl _ rfl (Nat.le_of_ble_eq_true rfl) dX8_act_7 hf (fun s1 hf => ?_)
  refine g_aload_n C dX8_act_10 rfl 0 rfl ?_
  refine g_iload_n C dX8_act_11 rfl 1 rfl ?_
  refine g_callVI C (R := RX8) (T := TX8) (N := 11) [.int a1] (fun _ _ h => c_X8_heldOn (kl x) N w hS _ h) (g_cwV C hR ml_X8_299 im_X8_heldOn sl_X8_heldOn ini_X8 cd_X8_heldOn hd_X8_heldOn (by decide)) kd_0 (by decide) rfl (in_0 hS) rfl _ rfl (Nat.le_of_ble_eq_true rfl) dX8_act_12 hf (fun r2 s2 hf => ?_)
  refine g_istore (lv' := [(4, .int r2), (0, .ref (ad w 0)), (1, .int a1), (2, .int a2), (3, .int a3)]) C dX8_act_15 (by decide) rfl ?_
  refine g_iload C dX8_act_17 0 rfl ?_
  refine g_iconst C (v := 3) dX8_act_19 rfl ?_
  refine g_icmp_eq (tgt := 29) C dX8_act_20 (by decide) hf (fun hf => ?_) (fun hf => ?_)
  · refine g_iconst C (v := 0) dX8_act_29 rfl ?_
    exact g_iret C dX8_act_30 hf
  · refine g_iload C dX8_act_23 0 rfl ?_
    refine g_iconst C (v := 2) dX8_act_25 rfl ?_
    refine g_icmp_ne (tgt := 31) C dX8_act_26 (by decide) hf (fun hf => ?_) (fun hf => ?_)
    · refine g_aload_n C dX8_act_31 rfl 1 rfl ?_
      refine g_get C (R := RX8) (T := TX8) (N := 11) (k := 10) (v := .ref (ad w 58)) kd_0 (by decide) rfl (in_0 hS) hinX8 (by decide) fl_X8_75 rfl rfl dX8_act_32 ?_
      refine g_aload_n C dX8_act_35 rfl 1 rfl ?_
      refine g_iload_n C dX8_act_36 rfl 2 rfl ?_
      refine g_callVI C (R := RX8) (T := TX8) (N := 11) [.int a1] (fun _ _ h => c_X8_kindOn (kl x) N w hS _ h) (g_cwV C hR ml_X8_302 im_X8_kindOn sl_X8_kindOn ini_X8 cd_X8_kindOn hd_X8_kindOn (by decide)) kd_0 (by decide) rfl (in_0 hS) rfl _ rfl (Nat.le_of_ble_eq_true rfl) dX8_act_37 hf (fun r3 s3 hf => ?_)
      refine g_putI C (R := RX6) (T := TX6) (N := 5) (k := 1) (ty := .int) tyX6 tyX6_ok nmX6 kd_58 (by decide) rfl (in_58 hS) hinX6 (by decide) fl_X8_311 rfl rfl rfl rfl rfl (Nat.le_of_ble_eq_true rfl) fs_6_1 dX8_act_40 ?_
      refine g_nameS hf (fun s4 hf => ?_)
      refine g_aload_n C dX8_act_43 rfl 1 rfl ?_
      refine g_get C (R := RX8) (T := TX8) (N := 11) (k := 10) (v := .ref (ad w 58)) kd_0 (by decide) rfl (in_0 hS) hinX8 (by decide) fl_X8_75 rfl rfl dX8_act_44 ?_
      refine g_aload_n C dX8_act_47 rfl 1 rfl ?_
      refine g_get C (R := RX8) (T := TX8) (N := 11) (k := 9) (v := .ref (ad w 56)) kd_0 (by decide) rfl (in_0 hS) hinX8 (by decide) fl_X8_69 rfl rfl dX8_act_48 ?_
      refine g_iload_n C dX8_act_51 rfl 2 rfl ?_
      refine g_iconst C (v := 1) dX8_act_52 rfl ?_
      refine g_callVI C (R := RX5) (T := TX5) (N := 4) [.int a1, .int 1] (fun _ _ h => c_X5_get (kl x) N w (ok_56 hS) _ _ h) (g_cwV C hR ml_X8_105 im_X5_get sl_X5_get ini_X5 cd_X5_get hd_X5_get (by decide)) kd_56 (by decide) rfl (in_56 hS) rfl _ rfl (Nat.le_of_ble_eq_true rfl) dX8_act_53 hf (fun r5 s5 hf => ?_)
      refine g_putI C (R := RX6) (T := TX6) (N := 5) (k := 2) (ty := .int) tyX6 tyX6_ok nmX6 kd_58 (by decide) rfl (in_58 hS) hinX6 (by decide) fl_X8_314 rfl rfl rfl rfl rfl (Nat.le_of_ble_eq_true rfl) fs_6_2 dX8_act_56 ?_
      refine g_nameS hf (fun s6 hf => ?_)
      refine g_aload_n C dX8_act_59 rfl 1 rfl ?_
      refine g_get C (R := RX8) (T := TX8) (N := 11) (k := 10) (v := .ref (ad w 58)) kd_0 (by decide) rfl (in_0 hS) hinX8 (by decide) fl_X8_75 rfl rfl dX8_act_60 ?_
      refine g_iload C dX8_act_63 0 rfl ?_
      refine g_iconst C (v := 1) dX8_act_65 rfl ?_
      refine g_icmp_ne (tgt := 86) C dX8_act_66 (by decide) hf (fun hf => ?_) (fun hf => ?_)
      · refine g_aload_n C dX8_act_86 rfl 1 rfl ?_
        refine g_get C (R := RX8) (T := TX8) (N := 11) (k := 0) (v := .ref (ad w 1)) kd_0 (by decide) rfl (in_0 hS) hinX8 (by decide) fl_X8_10 rfl rfl dX8_act_87 ?_
        refine g_get C (R := RX0) (T := TX0) (N := 8) (k := 1) (v := .ref (ad w 4)) kd_1 (by decide) rfl (in_1 hS) hinX0 (by decide) fl_X8_122 rfl rfl dX8_act_90 ?_
        refine g_aload_n C dX8_act_93 rfl 1 rfl ?_
        refine g_get C (R := RX8) (T := TX8) (N := 11) (k := 10) (v := .ref (ad w 58)) kd_0 (by decide) rfl (in_0 hS) hinX8 (by decide) fl_X8_75 rfl rfl dX8_act_94 ?_
        refine g_get C (R := RX6) (T := TX6) (N := 5) (k := 2) (v := .int (rI s6 58 2)) kd_58 (by decide) rfl (in_58 hS) hinX6 (by decide) fl_X8_314 rfl rfl dX8_act_97 ?_
        refine g_iconst C (v := 3) dX8_act_100 rfl ?_
        refine g_callVI C (R := RX5) (T := TX5) (N := 4) [.int (rI s6 58 2), .int 3] (fun _ _ h => c_X5_get (kl x) N w (ok_4 hS) _ _ h) (g_cwV C hR ml_X8_105 im_X5_get sl_X5_get ini_X5 cd_X5_get hd_X5_get (by decide)) kd_4 (by decide) rfl (in_4 hS) rfl _ rfl (Nat.le_of_ble_eq_true rfl) dX8_act_101 hf (fun r7 s7 hf => ?_)
        refine g_sub [1, 3, 4] rfl ?_
        exact j104 _ _ _ _ hf
      · refine g_aload_n C dX8_act_69 rfl 1 rfl ?_
        refine g_get C (R := RX8) (T := TX8) (N := 11) (k := 0) (v := .ref (ad w 1)) kd_0 (by decide) rfl (in_0 hS) hinX8 (by decide) fl_X8_10 rfl rfl dX8_act_70 ?_
        refine g_aload_n C dX8_act_73 rfl 1 rfl ?_
        refine g_get C (R := RX8) (T := TX8) (N := 11) (k := 10) (v := .ref (ad w 58)) kd_0 (by decide) rfl (in_0 hS) hinX8 (by decide) fl_X8_75 rfl rfl dX8_act_74 ?_
        refine g_get C (R := RX6) (T := TX6) (N := 5) (k := 2) (v := .int (rI s6 58 2)) kd_58 (by decide) rfl (in_58 hS) hinX6 (by decide) fl_X8_314 rfl rfl dX8_act_77 ?_
        refine g_callVI C (R := RX0) (T := TX0) (N := 8) [.int (rI s6 58 2)] (fun _ _ h => c_X0_seen (kl x) N w hS _ h) (g_cwV C hR ml_X8_109 im_X0_seen sl_X0_seen ini_X0 cd_X0_seen hd_X0_seen (by decide)) kd_1 (by decide) rfl (in_1 hS) rfl _ rfl (Nat.le_of_ble_eq_true rfl) dX8_act_80 hf (fun r8 s8 hf => ?_)
        refine g_goto (tgt := 104) C dX8_act_83 (by decide) ?_
        refine g_sub [1, 3, 4] rfl ?_
        exact j104 _ _ _ _ hf
    · refine g_iconst C (v := 0) dX8_act_29 rfl ?_
      exact g_iret C dX8_act_30 hf

set_option maxHeartbeats 4000000 in
set_option maxRecDepth 100000 in
theorem c_X8_trace (l : Launch) (N : Nat) (w : WX) (hS : SS w = Sc) (a1 : Int32) {s s' : Mem} {r : Int32} (hf : f_X8_trace N a1 s = some (r, s')) : CI l yX8_trace (wz yX8_trace cX8_trace 2 (some .int)) ({ frames := 1, cells := 0, slots := 0, locals := 21 } : Room) [.ref (ad w 0), .int a1] w s r s' := by
  refine met_startI (cc := cX8_trace) (ret := (some .int)) (own := RX8) (maxL := 2) (by decide) rfl (Nat.le_of_ble_eq_true rfl) (fun x C hR hl => ?_)
  refine g_lv (lv' := [(0, .ref (ad w 0)), (1, .int a1)]) rfl ?_
  unfold f_X8_trace at hf
  refine g_aload_n C dX8_trace_0 rfl 0 rfl ?_
  refine g_get C (R := RX8) (T := TX8) (N := 11) (k := 10) (v := .ref (ad w 58)) kd_0 (by decide) rfl (in_0 hS) hinX8 (by decide) fl_X8_75 rfl rfl dX8_trace_1 ?_
  refine g_get C (R := RX6) (T := TX6) (N := 5) (k := 0) (v := .ref (ad w 59)) kd_58 (by decide) rfl (in_58 hS) hinX6 (by decide) fl_X8_308 rfl rfl dX8_trace_4 ?_
  refine g_iload_n C dX8_trace_7 rfl 1 rfl ?_
  refine g_callVB C (R := RX3) (T := TX3) (N := 2) [.int a1] (fun _ _ h => c_X3_has (kl x) N w (ok_59 hS) _ h) (g_cwV C hR ml_X8_323 im_X3_has sl_X3_has ini_X3 cd_X3_has hd_X3_has (by decide)) kd_59 (by decide) rfl (in_59 hS) rfl _ rfl (Nat.le_of_ble_eq_true rfl) dX8_trace_8 hf (fun r1 s1 hf => ?_)
  refine g_ifeqB (tgt := 28) C dX8_trace_11 (by decide) hf (fun hf => ?_) (fun hf => ?_)
  · refine g_bipush C (v := (-3)) dX8_trace_28 (by decide) ?_
    exact g_iret C dX8_trace_30 hf
  · refine g_aload_n C dX8_trace_14 rfl 0 rfl ?_
    refine g_get C (R := RX8) (T := TX8) (N := 11) (k := 10) (v := .ref (ad w 58)) kd_0 (by decide) rfl (in_0 hS) hinX8 (by decide) fl_X8_75 rfl rfl dX8_trace_15 ?_
    refine g_get C (R := RX6) (T := TX6) (N := 5) (k := 0) (v := .ref (ad w 59)) kd_58 (by decide) rfl (in_58 hS) hinX6 (by decide) fl_X8_308 rfl rfl dX8_trace_18 ?_
    refine g_iload_n C dX8_trace_21 rfl 1 rfl ?_
    refine g_callVI C (R := RX3) (T := TX3) (N := 2) [.int a1] (fun _ _ h => c_X3_get (kl x) N w (ok_59 hS) _ h) (g_cwV C hR ml_X8_324 im_X3_get sl_X3_get ini_X3 cd_X3_get hd_X3_get (by decide)) kd_59 (by decide) rfl (in_59 hS) rfl _ rfl (Nat.le_of_ble_eq_true rfl) dX8_trace_22 hf (fun r2 s2 hf => ?_)
    refine g_goto (tgt := 30) C dX8_trace_25 (by decide) ?_
    exact g_iret C dX8_trace_30 hf

set_option maxHeartbeats 4000000 in
set_option maxRecDepth 100000 in
theorem c_X8_many (l : Launch) (N : Nat) (w : WX) (hS : SS w = Sc) (a1 : Int32) {s s' : Mem} {r : Int32} (hf : f_X8_many N a1 s = some (r, s')) : CI l yX8_many (wz yX8_many cX8_many 2 (some .int)) ({ frames := 2, cells := 0, slots := 0, locals := 45 } : Room) [.ref (ad w 0), .int a1] w s r s' := by
  refine met_startI (cc := cX8_many) (ret := (some .int)) (own := RX8) (maxL := 2) (by decide) rfl (Nat.le_of_ble_eq_true rfl) (fun x C hR hl => ?_)
  refine g_lv (lv' := [(0, .ref (ad w 0)), (1, .int a1)]) rfl ?_
  unfold f_X8_many at hf
  refine g_iload_n C dX8_many_0 rfl 1 rfl ?_
  rcases ite_some hf with ⟨e0, hf⟩ | ⟨n0, hf⟩
  · refine g_tabIn (k := 0) (tgt := 56) C dX8_many_1 e0 (by decide) (by decide) rfl (by decide) ?_
    refine g_aload_n C dX8_many_56 rfl 0 rfl ?_
    refine g_get C (R := RX8) (T := TX8) (N := 11) (k := 0) (v := .ref (ad w 1)) kd_0 (by decide) rfl (in_0 hS) hinX8 (by decide) fl_X8_10 rfl rfl dX8_many_57 ?_
    refine g_get C (R := RX0) (T := TX0) (N := 8) (k := 0) (v := .ref (ad w 2)) kd_1 (by decide) rfl (in_1 hS) hinX0 (by decide) fl_X8_95 rfl rfl dX8_many_60 ?_
    refine g_get C (R := RX5) (T := TX5) (N := 4) (k := 3) (v := .int (rI s 2 3)) kd_2 (by decide) rfl (in_2 hS) hinX5 (by decide) fl_X8_228 rfl rfl dX8_many_63 ?_
    exact g_iret C dX8_many_66 hf
  rcases ite_some hf with ⟨e1, hf⟩ | ⟨n1, hf⟩
  · refine g_tabIn (k := 1) (tgt := 67) C dX8_many_1 e1 (by decide) (by decide) rfl (by decide) ?_
    refine g_aload_n C dX8_many_67 rfl 0 rfl ?_
    refine g_get C (R := RX8) (T := TX8) (N := 11) (k := 0) (v := .ref (ad w 1)) kd_0 (by decide) rfl (in_0 hS) hinX8 (by decide) fl_X8_10 rfl rfl dX8_many_68 ?_
    refine g_get C (R := RX0) (T := TX0) (N := 8) (k := 1) (v := .ref (ad w 4)) kd_1 (by decide) rfl (in_1 hS) hinX0 (by decide) fl_X8_122 rfl rfl dX8_many_71 ?_
    refine g_get C (R := RX5) (T := TX5) (N := 4) (k := 3) (v := .int (rI s 4 3)) kd_4 (by decide) rfl (in_4 hS) hinX5 (by decide) fl_X8_228 rfl rfl dX8_many_74 ?_
    exact g_iret C dX8_many_77 hf
  rcases ite_some hf with ⟨e2, hf⟩ | ⟨n2, hf⟩
  · refine g_tabIn (k := 2) (tgt := 78) C dX8_many_1 e2 (by decide) (by decide) rfl (by decide) ?_
    refine g_aload_n C dX8_many_78 rfl 0 rfl ?_
    refine g_get C (R := RX8) (T := TX8) (N := 11) (k := 0) (v := .ref (ad w 1)) kd_0 (by decide) rfl (in_0 hS) hinX8 (by decide) fl_X8_10 rfl rfl dX8_many_79 ?_
    refine g_get C (R := RX0) (T := TX0) (N := 8) (k := 5) (v := .ref (ad w 12)) kd_1 (by decide) rfl (in_1 hS) hinX0 (by decide) fl_X8_216 rfl rfl dX8_many_82 ?_
    refine g_get C (R := RX5) (T := TX5) (N := 4) (k := 3) (v := .int (rI s 12 3)) kd_12 (by decide) rfl (in_12 hS) hinX5 (by decide) fl_X8_228 rfl rfl dX8_many_85 ?_
    exact g_iret C dX8_many_88 hf
  rcases ite_some hf with ⟨e3, hf⟩ | ⟨n3, hf⟩
  · refine g_tabIn (k := 3) (tgt := 89) C dX8_many_1 e3 (by decide) (by decide) rfl (by decide) ?_
    refine g_aload_n C dX8_many_89 rfl 0 rfl ?_
    refine g_get C (R := RX8) (T := TX8) (N := 11) (k := 0) (v := .ref (ad w 1)) kd_0 (by decide) rfl (in_0 hS) hinX8 (by decide) fl_X8_10 rfl rfl dX8_many_90 ?_
    refine g_get C (R := RX0) (T := TX0) (N := 8) (k := 7) (v := .int (rI s 1 7)) kd_1 (by decide) rfl (in_1 hS) hinX0 (by decide) fl_X8_191 rfl rfl dX8_many_93 ?_
    exact g_iret C dX8_many_96 hf
  rcases ite_some hf with ⟨e4, hf⟩ | ⟨n4, hf⟩
  · refine g_tabIn (k := 4) (tgt := 97) C dX8_many_1 e4 (by decide) (by decide) rfl (by decide) ?_
    refine g_aload_n C dX8_many_97 rfl 0 rfl ?_
    refine g_get C (R := RX8) (T := TX8) (N := 11) (k := 0) (v := .ref (ad w 1)) kd_0 (by decide) rfl (in_0 hS) hinX8 (by decide) fl_X8_10 rfl rfl dX8_many_98 ?_
    refine g_get C (R := RX0) (T := TX0) (N := 8) (k := 3) (v := .ref (ad w 8)) kd_1 (by decide) rfl (in_1 hS) hinX0 (by decide) fl_X8_237 rfl rfl dX8_many_101 ?_
    refine g_get C (R := RX5) (T := TX5) (N := 4) (k := 3) (v := .int (rI s 8 3)) kd_8 (by decide) rfl (in_8 hS) hinX5 (by decide) fl_X8_228 rfl rfl dX8_many_104 ?_
    exact g_iret C dX8_many_107 hf
  rcases ite_some hf with ⟨e5, hf⟩ | ⟨n5, hf⟩
  · refine g_tabIn (k := 5) (tgt := 108) C dX8_many_1 e5 (by decide) (by decide) rfl (by decide) ?_
    refine g_aload_n C dX8_many_108 rfl 0 rfl ?_
    refine g_get C (R := RX8) (T := TX8) (N := 11) (k := 0) (v := .ref (ad w 1)) kd_0 (by decide) rfl (in_0 hS) hinX8 (by decide) fl_X8_10 rfl rfl dX8_many_109 ?_
    refine g_get C (R := RX0) (T := TX0) (N := 8) (k := 4) (v := .ref (ad w 10)) kd_1 (by decide) rfl (in_1 hS) hinX0 (by decide) fl_X8_258 rfl rfl dX8_many_112 ?_
    refine g_get C (R := RX5) (T := TX5) (N := 4) (k := 3) (v := .int (rI s 10 3)) kd_10 (by decide) rfl (in_10 hS) hinX5 (by decide) fl_X8_228 rfl rfl dX8_many_115 ?_
    exact g_iret C dX8_many_118 hf
  rcases ite_some hf with ⟨e6, hf⟩ | ⟨n6, hf⟩
  · refine g_tabIn (k := 6) (tgt := 119) C dX8_many_1 e6 (by decide) (by decide) rfl (by decide) ?_
    refine g_aload_n C dX8_many_119 rfl 0 rfl ?_
    refine g_get C (R := RX8) (T := TX8) (N := 11) (k := 0) (v := .ref (ad w 1)) kd_0 (by decide) rfl (in_0 hS) hinX8 (by decide) fl_X8_10 rfl rfl dX8_many_120 ?_
    refine g_callVI C (R := RX0) (T := TX0) (N := 8) [] (fun _ _ h => c_X0_answered (kl x) N w hS h) (g_cwV C hR ml_X8_261 im_X0_answered sl_X0_answered ini_X0 cd_X0_answered hd_X0_answered (by decide)) kd_1 (by decide) rfl (in_1 hS) rfl _ rfl (Nat.le_of_ble_eq_true rfl) dX8_many_123 hf (fun r1 s1 hf => ?_)
    exact g_iret C dX8_many_126 hf
  rcases ite_some hf with ⟨e7, hf⟩ | ⟨n7, hf⟩
  · refine g_tabIn (k := 7) (tgt := 127) C dX8_many_1 e7 (by decide) (by decide) rfl (by decide) ?_
    refine g_aload_n C dX8_many_127 rfl 0 rfl ?_
    refine g_get C (R := RX8) (T := TX8) (N := 11) (k := 7) (v := .ref (ad w 45)) kd_0 (by decide) rfl (in_0 hS) hinX8 (by decide) fl_X8_58 rfl rfl dX8_many_128 ?_
    refine g_get C (R := RX5) (T := TX5) (N := 4) (k := 3) (v := .int (rI s 45 3)) kd_45 (by decide) rfl (in_45 hS) hinX5 (by decide) fl_X8_228 rfl rfl dX8_many_131 ?_
    exact g_iret C dX8_many_134 hf
  rcases ite_some hf with ⟨e8, hf⟩ | ⟨n8, hf⟩
  · refine g_tabIn (k := 8) (tgt := 135) C dX8_many_1 e8 (by decide) (by decide) rfl (by decide) ?_
    refine g_aload_n C dX8_many_135 rfl 0 rfl ?_
    refine g_get C (R := RX8) (T := TX8) (N := 11) (k := 6) (v := .ref (ad w 43)) kd_0 (by decide) rfl (in_0 hS) hinX8 (by decide) fl_X8_49 rfl rfl dX8_many_136 ?_
    refine g_get C (R := RX3) (T := TX3) (N := 2) (k := 1) (v := .int (rI s 43 1)) kd_43 (by decide) rfl (in_43 hS) hinX3 (by decide) fl_X8_203 rfl rfl dX8_many_139 ?_
    exact g_iret C dX8_many_142 hf
  rcases ite_some hf with ⟨e9, hf⟩ | ⟨n9, hf⟩
  · refine g_tabIn (k := 9) (tgt := 143) C dX8_many_1 e9 (by decide) (by decide) rfl (by decide) ?_
    refine g_aload_n C dX8_many_143 rfl 0 rfl ?_
    refine g_get C (R := RX8) (T := TX8) (N := 11) (k := 10) (v := .ref (ad w 58)) kd_0 (by decide) rfl (in_0 hS) hinX8 (by decide) fl_X8_75 rfl rfl dX8_many_144 ?_
    refine g_get C (R := RX6) (T := TX6) (N := 5) (k := 0) (v := .ref (ad w 59)) kd_58 (by decide) rfl (in_58 hS) hinX6 (by decide) fl_X8_308 rfl rfl dX8_many_147 ?_
    refine g_get C (R := RX3) (T := TX3) (N := 2) (k := 1) (v := .int (rI s 59 1)) kd_59 (by decide) rfl (in_59 hS) hinX3 (by decide) fl_X8_203 rfl rfl dX8_many_150 ?_
    exact g_iret C dX8_many_153 hf
  refine g_tabOut (tgt := 154) C dX8_many_1 (by have z0 := lv_neT n0 (a := 0) (by decide); have z1 := lv_neT n1 (a := 1) (by decide); have z2 := lv_neT n2 (a := 2) (by decide); have z3 := lv_neT n3 (a := 3) (by decide); have z4 := lv_neT n4 (a := 4) (by decide); have z5 := lv_neT n5 (a := 5) (by decide); have z6 := lv_neT n6 (a := 6) (by decide); have z7 := lv_neT n7 (a := 7) (by decide); have z8 := lv_neT n8 (a := 8) (by decide); have z9 := lv_neT n9 (a := 9) (by decide); omega) (by decide) ?_
  refine g_iconst C (v := (-1)) dX8_many_154 rfl ?_
  exact g_iret C dX8_many_155 hf

set_option maxHeartbeats 4000000 in
set_option maxRecDepth 100000 in
theorem c_X8_keep (l : Launch) (N : Nat) (w : WX) (hS : SS w = Sc) {s s' : Mem} {r : Int32} (hf : f_X8_keep N s = some (r, s')) : CI l yX8_keep (wz yX8_keep cX8_keep 1 (some .int)) ({ frames := 3, cells := 0, slots := 0, locals := 82 } : Room) [.ref (ad w 0)] w s r s' := by
  refine met_startI (cc := cX8_keep) (ret := (some .int)) (own := RX8) (maxL := 1) (by decide) rfl (Nat.le_of_ble_eq_true rfl) (fun x C hR hl => ?_)
  refine g_lv (lv' := [(0, .ref (ad w 0))]) rfl ?_
  unfold f_X8_keep at hf
  refine g_aload_n C dX8_keep_0 rfl 0 rfl ?_
  refine g_get C (R := RX8) (T := TX8) (N := 11) (k := 1) (v := .ref (ad w 16)) kd_0 (by decide) rfl (in_0 hS) hinX8 (by decide) fl_X8_16 rfl rfl dX8_keep_1 ?_
  refine g_aload_n C dX8_keep_4 rfl 0 rfl ?_
  refine g_get C (R := RX8) (T := TX8) (N := 11) (k := 0) (v := .ref (ad w 1)) kd_0 (by decide) rfl (in_0 hS) hinX8 (by decide) fl_X8_10 rfl rfl dX8_keep_5 ?_
  refine g_callVV C (R := RX0) (T := TX0) (N := 8) [.ref (ad w 1)] (fun _ h => c_X0_become_k (kl x) N w hS h) (g_cwV C hR ml_X8_325 im_X0_become sl_X0_become ini_X0 cd_X0_become hd_X0_become (by decide)) kd_16 (by decide) rfl (in_16 hS) rfl _ rfl (Nat.le_of_ble_eq_true rfl) dX8_keep_8 hf (fun s1 hf => ?_)
  refine g_aload_n C dX8_keep_11 rfl 0 rfl ?_
  refine g_iconst C (v := 1) dX8_keep_12 rfl ?_
  refine g_putI C (R := RX8) (T := TX8) (N := 11) (k := 2) (ty := .boolean) tyX8 tyX8_ok nmX8 kd_0 (by decide) rfl (in_0 hS) hinX8 (by decide) fl_X8_19 rfl rfl rfl rfl rfl (Nat.le_of_ble_eq_true rfl) fs_8_2 dX8_keep_13 ?_
  refine g_nameS hf (fun s2 hf => ?_)
  refine g_iconst C (v := 1) dX8_keep_16 rfl ?_
  exact g_iret C dX8_keep_17 hf

set_option maxHeartbeats 4000000 in
set_option maxRecDepth 100000 in
theorem c_X8_again (l : Launch) (N : Nat) (w : WX) (hS : SS w = Sc) {s s' : Mem} {r : Int32} (hf : f_X8_again N s = some (r, s')) : CI l yX8_again (wz yX8_again cX8_again 1 (some .int)) ({ frames := 3, cells := 0, slots := 0, locals := 82 } : Room) [.ref (ad w 0)] w s r s' := by
  refine met_startI (cc := cX8_again) (ret := (some .int)) (own := RX8) (maxL := 1) (by decide) rfl (Nat.le_of_ble_eq_true rfl) (fun x C hR hl => ?_)
  refine g_lv (lv' := [(0, .ref (ad w 0))]) rfl ?_
  unfold f_X8_again at hf
  refine g_aload_n C dX8_again_0 rfl 0 rfl ?_
  refine g_get C (R := RX8) (T := TX8) (N := 11) (k := 2) (v := .int (rI s 0 2)) kd_0 (by decide) rfl (in_0 hS) hinX8 (by decide) fl_X8_19 rfl rfl dX8_again_1 ?_
  refine g_if_ne (tgt := 10) C dX8_again_4 (by decide) hf (fun hf => ?_) (fun hf => ?_)
  · refine g_aload_n C dX8_again_10 rfl 0 rfl ?_
    refine g_get C (R := RX8) (T := TX8) (N := 11) (k := 0) (v := .ref (ad w 1)) kd_0 (by decide) rfl (in_0 hS) hinX8 (by decide) fl_X8_10 rfl rfl dX8_again_11 ?_
    refine g_aload_n C dX8_again_14 rfl 0 rfl ?_
    refine g_get C (R := RX8) (T := TX8) (N := 11) (k := 1) (v := .ref (ad w 16)) kd_0 (by decide) rfl (in_0 hS) hinX8 (by decide) fl_X8_16 rfl rfl dX8_again_15 ?_
    refine g_callVV C (R := RX0) (T := TX0) (N := 8) [.ref (ad w 16)] (fun _ h => c_X0_become_b (kl x) N w hS h) (g_cwV C hR ml_X8_325 im_X0_become sl_X0_become ini_X0 cd_X0_become hd_X0_become (by decide)) kd_1 (by decide) rfl (in_1 hS) rfl _ rfl (Nat.le_of_ble_eq_true rfl) dX8_again_18 hf (fun s1 hf => ?_)
    refine g_iconst C (v := 1) dX8_again_21 rfl ?_
    exact g_iret C dX8_again_22 hf
  · refine g_bipush C (v := (-3)) dX8_again_7 (by decide) ?_
    exact g_iret C dX8_again_9 hf
