set_option maxHeartbeats 4000000 in
set_option maxRecDepth 100000 in
theorem c_X9_in (l : Launch) (N : Nat) (w : WX) (a0 : Int32) (a1 : Int32) (a2 : Int32) {s s' : Mem} {r : Bool} (hf : f_X9_in N a0 a1 a2 s = some (r, s')) : CB l yX9_in (wz yX9_in cX9_in 3 (some .boolean)) ({ frames := 0, cells := 0, slots := 0, locals := 0 } : Room) [.int a0, .int a1, .int a2] w s r s' := by
  refine met_startB (cc := cX9_in) (ret := (some .boolean)) (own := RX9) (maxL := 3) (by decide) rfl (Nat.le_of_ble_eq_true rfl) (fun x C hR hl => ?_)
  refine g_lv (lv' := [(0, .int a0), (1, .int a1), (2, .int a2)]) rfl ?_
  unfold f_X9_in at hf
  refine g_iload_n C dX9_in_0 rfl 0 rfl ?_
  refine g_iload_n C dX9_in_1 rfl 1 rfl ?_
  refine g_icmp_lt (tgt := 14) C dX9_in_2 (by decide) hf (fun hf => ?_) (fun hf => ?_)
  · refine g_iconst C (v := 0) dX9_in_14 rfl ?_
    exact g_zret (v := false) C dX9_in_15 hf
  · refine g_iload_n C dX9_in_5 rfl 0 rfl ?_
    refine g_iload_n C dX9_in_6 rfl 2 rfl ?_
    refine g_icmp_gt (tgt := 14) C dX9_in_7 (by decide) hf (fun hf => ?_) (fun hf => ?_)
    · refine g_iconst C (v := 0) dX9_in_14 rfl ?_
      exact g_zret (v := false) C dX9_in_15 hf
    · refine g_iconst C (v := 1) dX9_in_10 rfl ?_
      refine g_goto (tgt := 15) C dX9_in_11 (by decide) ?_
      exact g_zret (v := true) C dX9_in_15 hf

set_option maxHeartbeats 4000000 in
set_option maxRecDepth 100000 in
theorem c_X9_isPerson (l : Launch) (N : Nat) (w : WX) (hS : SS w = Sm) (a1 : Int32) {s s' : Mem} {r : Bool} (hf : f_X9_isPerson N a1 s = some (r, s')) : CB l yX9_isPerson (wz yX9_isPerson cX9_isPerson 2 (some .boolean)) ({ frames := 1, cells := 0, slots := 0, locals := 22 } : Room) [.ref (ad w 61), .int a1] w s r s' := by
  refine met_startB (cc := cX9_isPerson) (ret := (some .boolean)) (own := RX9) (maxL := 2) (by decide) rfl (Nat.le_of_ble_eq_true rfl) (fun x C hR hl => ?_)
  refine g_lv (lv' := [(0, .ref (ad w 61)), (1, .int a1)]) rfl ?_
  unfold f_X9_isPerson at hf
  refine g_iload_n C dX9_isPerson_0 rfl 1 rfl ?_
  refine g_iconst C (v := 0) dX9_isPerson_1 rfl ?_
  refine g_aload_n C dX9_isPerson_2 rfl 0 rfl ?_
  refine g_get C (R := RX9) (T := TX9) (N := 48) (k := 0) (v := .int (rI s 61 0)) kd_61 (by decide) rfl (in_61 hS) hinX9 (by decide) fl_X9_89 rfl rfl dX9_isPerson_3 ?_
  refine g_iconst C (v := 1) dX9_isPerson_6 rfl ?_
  refine g_isub C dX9_isPerson_7 ?_
  refine g_callSB C [.int a1, .int 0, .int ((rI s 61 0) - 1)] (fun _ _ h => c_X9_in (kl x) N w _ _ _ h) (g_cwS C hR ml_X9_93 sm_X9_in ini_X9 cd_X9_in hd_X9_in (by decide)) rfl _ rfl (Nat.le_of_ble_eq_true rfl) dX9_isPerson_8 hf (fun r1 s1 hf => ?_)
  exact g_zret C dX9_isPerson_11 hf

set_option maxHeartbeats 4000000 in
set_option maxRecDepth 100000 in
theorem c_X9_isPaper (l : Launch) (N : Nat) (w : WX) (hS : SS w = Sm) (a1 : Int32) {s s' : Mem} {r : Bool} (hf : f_X9_isPaper N a1 s = some (r, s')) : CB l yX9_isPaper (wz yX9_isPaper cX9_isPaper 2 (some .boolean)) ({ frames := 1, cells := 0, slots := 0, locals := 22 } : Room) [.ref (ad w 61), .int a1] w s r s' := by
  refine met_startB (cc := cX9_isPaper) (ret := (some .boolean)) (own := RX9) (maxL := 2) (by decide) rfl (Nat.le_of_ble_eq_true rfl) (fun x C hR hl => ?_)
  refine g_lv (lv' := [(0, .ref (ad w 61)), (1, .int a1)]) rfl ?_
  unfold f_X9_isPaper at hf
  refine g_iload_n C dX9_isPaper_0 rfl 1 rfl ?_
  refine g_iconst C (v := 0) dX9_isPaper_1 rfl ?_
  refine g_aload_n C dX9_isPaper_2 rfl 0 rfl ?_
  refine g_get C (R := RX9) (T := TX9) (N := 48) (k := 2) (v := .int (rI s 61 2)) kd_61 (by decide) rfl (in_61 hS) hinX9 (by decide) fl_X9_97 rfl rfl dX9_isPaper_3 ?_
  refine g_iconst C (v := 1) dX9_isPaper_6 rfl ?_
  refine g_isub C dX9_isPaper_7 ?_
  refine g_callSB C [.int a1, .int 0, .int ((rI s 61 2) - 1)] (fun _ _ h => c_X9_in (kl x) N w _ _ _ h) (g_cwS C hR ml_X9_93 sm_X9_in ini_X9 cd_X9_in hd_X9_in (by decide)) rfl _ rfl (Nat.le_of_ble_eq_true rfl) dX9_isPaper_8 hf (fun r1 s1 hf => ?_)
  exact g_zret C dX9_isPaper_11 hf

set_option maxHeartbeats 4000000 in
set_option maxRecDepth 100000 in
theorem c_X9_isYear (l : Launch) (N : Nat) (w : WX) (a0 : Int32) {s s' : Mem} {r : Bool} (hf : f_X9_isYear N a0 s = some (r, s')) : CB l yX9_isYear (wz yX9_isYear cX9_isYear 1 (some .boolean)) ({ frames := 1, cells := 0, slots := 0, locals := 22 } : Room) [.int a0] w s r s' := by
  refine met_startB (cc := cX9_isYear) (ret := (some .boolean)) (own := RX9) (maxL := 1) (by decide) rfl (Nat.le_of_ble_eq_true rfl) (fun x C hR hl => ?_)
  refine g_lv (lv' := [(0, .int a0)]) rfl ?_
  unfold f_X9_isYear at hf
  refine g_iload_n C dX9_isYear_0 rfl 0 rfl ?_
  refine g_iconst C (v := 0) dX9_isYear_1 rfl ?_
  refine g_sipush C (v := 160) dX9_isYear_2 (by decide) ?_
  refine g_callSB C [.int a0, .int 0, .int 160] (fun _ _ h => c_X9_in (kl x) N w _ _ _ h) (g_cwS C hR ml_X9_93 sm_X9_in ini_X9 cd_X9_in hd_X9_in (by decide)) rfl _ rfl (Nat.le_of_ble_eq_true rfl) dX9_isYear_5 hf (fun r1 s1 hf => ?_)
  exact g_zret C dX9_isYear_8 hf

set_option maxHeartbeats 4000000 in
set_option maxRecDepth 100000 in
theorem c_X9_person (l : Launch) (N : Nat) (w : WX) (hS : SS w = Sm) (a1 : Int32) (a2 : Int32) (a3 : Int32) {s s' : Mem} {r : Int32} (hf : f_X9_person N a1 a2 a3 s = some (r, s')) : CI l yX9_person (wz yX9_person cX9_person 4 (some .int)) ({ frames := 1, cells := 0, slots := 0, locals := 22 } : Room) [.ref (ad w 61), .int a1, .int a2, .int a3] w s r s' := by
  refine met_startI (cc := cX9_person) (ret := (some .int)) (own := RX9) (maxL := 4) (by decide) rfl (Nat.le_of_ble_eq_true rfl) (fun x C hR hl => ?_)
  refine g_lv (lv' := [(0, .ref (ad w 61)), (1, .int a1), (2, .int a2), (3, .int a3)]) rfl ?_
  unfold f_X9_person at hf
  refine g_iload_n C dX9_person_0 rfl 1 rfl ?_
  refine g_iconst C (v := 0) dX9_person_1 rfl ?_
  refine g_iconst C (v := 5) dX9_person_2 rfl ?_
  refine g_callSB C [.int a1, .int 0, .int 5] (fun _ _ h => c_X9_in (kl x) N w _ _ _ h) (g_cwS C hR ml_X9_93 sm_X9_in ini_X9 cd_X9_in hd_X9_in (by decide)) rfl _ rfl (Nat.le_of_ble_eq_true rfl) dX9_person_3 hf (fun r1 s1 hf => ?_)
  refine g_ifeqB (tgt := 28) C dX9_person_6 (by decide) hf (fun hf => ?_) (fun hf => ?_)
  · refine g_iconst C (v := (-1)) dX9_person_28 rfl ?_
    exact g_iret C dX9_person_29 hf
  · refine g_iload_n C dX9_person_9 rfl 2 rfl ?_
    refine g_iconst C (v := 0) dX9_person_10 rfl ?_
    refine g_bipush C (v := 9) dX9_person_11 (by decide) ?_
    refine g_callSB C [.int a2, .int 0, .int 9] (fun _ _ h => c_X9_in (kl x) N w _ _ _ h) (g_cwS C hR ml_X9_93 sm_X9_in ini_X9 cd_X9_in hd_X9_in (by decide)) rfl _ rfl (Nat.le_of_ble_eq_true rfl) dX9_person_13 hf (fun r2 s2 hf => ?_)
    refine g_ifeqB (tgt := 28) C dX9_person_16 (by decide) hf (fun hf => ?_) (fun hf => ?_)
    · refine g_iconst C (v := (-1)) dX9_person_28 rfl ?_
      exact g_iret C dX9_person_29 hf
    · refine g_iload_n C dX9_person_19 rfl 3 rfl ?_
      refine g_iconst C (v := 0) dX9_person_20 rfl ?_
      refine g_iconst C (v := 1) dX9_person_21 rfl ?_
      refine g_callSB C [.int a3, .int 0, .int 1] (fun _ _ h => c_X9_in (kl x) N w _ _ _ h) (g_cwS C hR ml_X9_93 sm_X9_in ini_X9 cd_X9_in hd_X9_in (by decide)) rfl _ rfl (Nat.le_of_ble_eq_true rfl) dX9_person_22 hf (fun r3 s3 hf => ?_)
      refine g_ifneB (tgt := 30) C dX9_person_25 (by decide) hf (fun hf => ?_) (fun hf => ?_)
      · refine g_aload_n C dX9_person_30 rfl 0 rfl ?_
        refine g_get C (R := RX9) (T := TX9) (N := 48) (k := 0) (v := .int (rI s3 61 0)) kd_61 (by decide) rfl (in_61 hS) hinX9 (by decide) fl_X9_89 rfl rfl dX9_person_31 ?_
        refine g_bipush C (v := 10) dX9_person_34 (by decide) ?_
        refine g_icmp_ne (tgt := 42) C dX9_person_36 (by decide) hf (fun hf => ?_) (fun hf => ?_)
        · refine g_aload_n C dX9_person_42 rfl 0 rfl ?_
          refine g_get C (R := RX9) (T := TX9) (N := 48) (k := 1) (v := .ref (ad w 62)) kd_61 (by decide) rfl (in_61 hS) hinX9 (by decide) fl_X9_7 rfl rfl dX9_person_43 ?_
          refine g_iconst C (v := 4) dX9_person_46 rfl ?_
          refine g_aload_n C dX9_person_47 rfl 0 rfl ?_
          refine g_get C (R := RX9) (T := TX9) (N := 48) (k := 0) (v := .int (rI s3 61 0)) kd_61 (by decide) rfl (in_61 hS) hinX9 (by decide) fl_X9_89 rfl rfl dX9_person_48 ?_
          refine g_imul C dX9_person_51 ?_
          refine g_iload_n C dX9_person_52 rfl 1 rfl ?_
          refine g_iast C kd_62 ln_62 (in_62 hS) dX9_person_53 hf (fun hf => ?_)
          refine g_nameS hf (fun s4 hf => ?_)
          refine g_aload_n C dX9_person_54 rfl 0 rfl ?_
          refine g_get C (R := RX9) (T := TX9) (N := 48) (k := 1) (v := .ref (ad w 62)) kd_61 (by decide) rfl (in_61 hS) hinX9 (by decide) fl_X9_7 rfl rfl dX9_person_55 ?_
          refine g_iconst C (v := 4) dX9_person_58 rfl ?_
          refine g_aload_n C dX9_person_59 rfl 0 rfl ?_
          refine g_get C (R := RX9) (T := TX9) (N := 48) (k := 0) (v := .int (rI s4 61 0)) kd_61 (by decide) rfl (in_61 hS) hinX9 (by decide) fl_X9_89 rfl rfl dX9_person_60 ?_
          refine g_imul C dX9_person_63 ?_
          refine g_iconst C (v := 1) dX9_person_64 rfl ?_
          refine g_iadd C dX9_person_65 ?_
          refine g_iload_n C dX9_person_66 rfl 2 rfl ?_
          refine g_iast C kd_62 ln_62 (in_62 hS) dX9_person_67 hf (fun hf => ?_)
          refine g_nameS hf (fun s5 hf => ?_)
          refine g_aload_n C dX9_person_68 rfl 0 rfl ?_
          refine g_get C (R := RX9) (T := TX9) (N := 48) (k := 1) (v := .ref (ad w 62)) kd_61 (by decide) rfl (in_61 hS) hinX9 (by decide) fl_X9_7 rfl rfl dX9_person_69 ?_
          refine g_iconst C (v := 4) dX9_person_72 rfl ?_
          refine g_aload_n C dX9_person_73 rfl 0 rfl ?_
          refine g_get C (R := RX9) (T := TX9) (N := 48) (k := 0) (v := .int (rI s5 61 0)) kd_61 (by decide) rfl (in_61 hS) hinX9 (by decide) fl_X9_89 rfl rfl dX9_person_74 ?_
          refine g_imul C dX9_person_77 ?_
          refine g_iconst C (v := 2) dX9_person_78 rfl ?_
          refine g_iadd C dX9_person_79 ?_
          refine g_iload_n C dX9_person_80 rfl 3 rfl ?_
          refine g_iast C kd_62 ln_62 (in_62 hS) dX9_person_81 hf (fun hf => ?_)
          refine g_nameS hf (fun s6 hf => ?_)
          refine g_aload_n C dX9_person_82 rfl 0 rfl ?_
          refine g_get C (R := RX9) (T := TX9) (N := 48) (k := 1) (v := .ref (ad w 62)) kd_61 (by decide) rfl (in_61 hS) hinX9 (by decide) fl_X9_7 rfl rfl dX9_person_83 ?_
          refine g_iconst C (v := 4) dX9_person_86 rfl ?_
          refine g_aload_n C dX9_person_87 rfl 0 rfl ?_
          refine g_get C (R := RX9) (T := TX9) (N := 48) (k := 0) (v := .int (rI s6 61 0)) kd_61 (by decide) rfl (in_61 hS) hinX9 (by decide) fl_X9_89 rfl rfl dX9_person_88 ?_
          refine g_imul C dX9_person_91 ?_
          refine g_iconst C (v := 3) dX9_person_92 rfl ?_
          refine g_iadd C dX9_person_93 ?_
          refine g_bipush C (v := (-9)) dX9_person_94 (by decide) ?_
          refine g_iast C kd_62 ln_62 (in_62 hS) dX9_person_96 hf (fun hf => ?_)
          refine g_nameS hf (fun s7 hf => ?_)
          refine g_aload_n C dX9_person_97 rfl 0 rfl ?_
          refine g_dup C dX9_person_98 rfl ?_
          refine g_get C (R := RX9) (T := TX9) (N := 48) (k := 0) (v := .int (rI s7 61 0)) kd_61 (by decide) rfl (in_61 hS) hinX9 (by decide) fl_X9_89 rfl rfl dX9_person_99 ?_
          refine g_iconst C (v := 1) dX9_person_102 rfl ?_
          refine g_iadd C dX9_person_103 ?_
          refine g_putI C (R := RX9) (T := TX9) (N := 48) (k := 0) (ty := .int) tyX9 tyX9_ok nmX9 kd_61 (by decide) rfl (in_61 hS) hinX9 (by decide) fl_X9_89 rfl rfl rfl rfl rfl (Nat.le_of_ble_eq_true rfl) fs_9_0 dX9_person_104 ?_
          refine g_nameS hf (fun s8 hf => ?_)
          refine g_aload_n C dX9_person_107 rfl 0 rfl ?_
          refine g_get C (R := RX9) (T := TX9) (N := 48) (k := 0) (v := .int (rI s8 61 0)) kd_61 (by decide) rfl (in_61 hS) hinX9 (by decide) fl_X9_89 rfl rfl dX9_person_108 ?_
          refine g_iconst C (v := 1) dX9_person_111 rfl ?_
          refine g_isub C dX9_person_112 ?_
          exact g_iret C dX9_person_113 hf
        · refine g_bipush C (v := (-2)) dX9_person_39 (by decide) ?_
          exact g_iret C dX9_person_41 hf
      · refine g_iconst C (v := (-1)) dX9_person_28 rfl ?_
        exact g_iret C dX9_person_29 hf

set_option maxHeartbeats 4000000 in
set_option maxRecDepth 100000 in
theorem c_X9_papersOf (l : Launch) (N : Nat) (w : WX) (hS : SS w = Sm) (a1 : Int32) {s s' : Mem} {r : Int32} (hf : f_X9_papersOf N a1 s = some (r, s')) : CI l yX9_papersOf (wz yX9_papersOf cX9_papersOf 4 (some .int)) ({ frames := 0, cells := 0, slots := 0, locals := 0 } : Room) [.ref (ad w 61), .int a1] w s r s' := by
  refine met_startI (cc := cX9_papersOf) (ret := (some .int)) (own := RX9) (maxL := 4) (by decide) rfl (Nat.le_of_ble_eq_true rfl) (fun x C hR hl => ?_)
  have j31 : ∀ (k4 : Int32 → Int32 → Int32 → Mem → Option (Int32 × Mem)), (∀ (v1 : Int32) (v2 : Int32) (v3 : Int32) (s : Mem), k4 v1 v2 v3 s = some (r, s') → G x (QI x w r s') 4 w 4 [(0, .ref (ad w 61)), (1, .int v1), (2, .int v2), (3, .int v3)] [] s) → ∀ (v1 : Int32) (v3 : Int32) (p0 : Bool) (p1 : Int32) (s : Mem), f_X9_papersOf_j31 N k4 v1 v3 p0 p1 s = some (r, s') → G x (QI x w r s') 4 w 31 [(0, .ref (ad w 61)), (1, .int v1), (3, .int v3)] [.int (bI p0), .int p1] s := by
    intro k4 q4 v1 v3 p0 p1 s hf
    unfold f_X9_papersOf_j31 at hf
    refine g_iadd C dX9_papersOf_31 ?_
    refine g_istore_n (lv' := [(2, .int (p1 + (bI p0))), (0, .ref (ad w 61)), (1, .int v1), (3, .int v3)]) C dX9_papersOf_32 rfl (by decide) rfl ?_
    refine g_iinc (v' := v3 + 1) (lv' := [(3, .int (v3 + 1)), (2, .int (p1 + (bI p0))), (0, .ref (ad w 61)), (1, .int v1)]) C dX9_papersOf_33 3 rfl rfl (by decide) rfl ?_
    refine g_goto (tgt := 4) C dX9_papersOf_36 (by decide) ?_
    refine g_sub [2, 3, 1, 0] rfl ?_
    exact q4 _ _ _ _ hf
  have j4 : ∀ (n : Nat), ∀ (v1 : Int32) (v2 : Int32) (v3 : Int32) (s : Mem), f_X9_papersOf_L4 N n v1 v2 v3 s = some (r, s') → G x (QI x w r s') 4 w 4 [(0, .ref (ad w 61)), (1, .int v1), (2, .int v2), (3, .int v3)] [] s := by
    intro n
    induction n with
    | zero => intro v1 v2 v3 s hf; cases hf
    | succ n ih =>
      intro v1 v2 v3 s hf
      unfold f_X9_papersOf_L4 at hf
      refine g_iload_n C dX9_papersOf_4 rfl 3 rfl ?_
      refine g_aload_n C dX9_papersOf_5 rfl 0 rfl ?_
      refine g_get C (R := RX9) (T := TX9) (N := 48) (k := 2) (v := .int (rI s 61 2)) kd_61 (by decide) rfl (in_61 hS) hinX9 (by decide) fl_X9_97 rfl rfl dX9_papersOf_6 ?_
      refine g_icmp_ge (tgt := 39) C dX9_papersOf_9 (by decide) hf (fun hf => ?_) (fun hf => ?_)
      · refine g_iload_n C dX9_papersOf_39 rfl 2 rfl ?_
        exact g_iret C dX9_papersOf_40 hf
      · refine g_iload_n C dX9_papersOf_12 rfl 2 rfl ?_
        refine g_aload_n C dX9_papersOf_13 rfl 0 rfl ?_
        refine g_get C (R := RX9) (T := TX9) (N := 48) (k := 3) (v := .ref (ad w 63)) kd_61 (by decide) rfl (in_61 hS) hinX9 (by decide) fl_X9_13 rfl rfl dX9_papersOf_14 ?_
        refine g_bipush C (v := 6) dX9_papersOf_17 (by decide) ?_
        refine g_iload_n C dX9_papersOf_19 rfl 3 rfl ?_
        refine g_imul C dX9_papersOf_20 ?_
        refine g_iald C kd_63 ln_63 (in_63 hS) dX9_papersOf_21 hf (fun hf => ?_)
        refine g_iload_n C dX9_papersOf_22 rfl 1 rfl ?_
        refine g_icmp_ne (tgt := 30) C dX9_papersOf_23 (by decide) hf (fun hf => ?_) (fun hf => ?_)
        · refine g_iconst C (v := 0) dX9_papersOf_30 rfl ?_
          refine g_sub [0, 1, 3] rfl ?_
          exact j31 (f_X9_papersOf_L4 N n) ih _ _ _ _ _ hf
        · refine g_iconst C (v := 1) dX9_papersOf_26 rfl ?_
          refine g_goto (tgt := 31) C dX9_papersOf_27 (by decide) ?_
          refine g_sub [0, 1, 3] rfl ?_
          exact j31 (f_X9_papersOf_L4 N n) ih _ _ _ _ _ hf
  refine g_lv (lv' := [(0, .ref (ad w 61)), (1, .int a1)]) rfl ?_
  unfold f_X9_papersOf at hf
  refine g_iconst C (v := 0) dX9_papersOf_0 rfl ?_
  refine g_istore_n (lv' := [(2, .int 0), (0, .ref (ad w 61)), (1, .int a1)]) C dX9_papersOf_1 rfl (by decide) rfl ?_
  refine g_iconst C (v := 0) dX9_papersOf_2 rfl ?_
  refine g_istore_n (lv' := [(3, .int 0), (2, .int 0), (0, .ref (ad w 61)), (1, .int a1)]) C dX9_papersOf_3 rfl (by decide) rfl ?_
  refine g_sub [2, 3, 1, 0] rfl ?_
  exact j4 N _ _ _ _ hf

set_option maxHeartbeats 4000000 in
set_option maxRecDepth 100000 in
theorem c_X9_seenOf (l : Launch) (N : Nat) (w : WX) (hS : SS w = Sm) (a1 : Int32) {s s' : Mem} {r : Int32} (hf : f_X9_seenOf N a1 s = some (r, s')) : CI l yX9_seenOf (wz yX9_seenOf cX9_seenOf 5 (some .int)) ({ frames := 0, cells := 0, slots := 0, locals := 0 } : Room) [.ref (ad w 61), .int a1] w s r s' := by
  refine met_startI (cc := cX9_seenOf) (ret := (some .int)) (own := RX9) (maxL := 5) (by decide) rfl (Nat.le_of_ble_eq_true rfl) (fun x C hR hl => ?_)
  have j83 : ∀ (k4 : Int32 → Int32 → Int32 → Mem → Option (Int32 × Mem)), (∀ (v1 : Int32) (v2 : Int32) (v3 : Int32) (s : Mem), k4 v1 v2 v3 s = some (r, s') → G x (QI x w r s') 5 w 4 [(0, .ref (ad w 61)), (1, .int v1), (2, .int v2), (3, .int v3)] [] s) → ∀ (v1 : Int32) (v3 : Int32) (p0 : Int32) (s : Mem), f_X9_seenOf_j83 N k4 v1 v3 p0 s = some (r, s') → G x (QI x w r s') 5 w 83 [(0, .ref (ad w 61)), (1, .int v1), (3, .int v3)] [.int p0] s := by
    intro k4 q4 v1 v3 p0 s hf
    unfold f_X9_seenOf_j83 at hf
    refine g_istore_n (lv' := [(2, .int p0), (0, .ref (ad w 61)), (1, .int v1), (3, .int v3)]) C dX9_seenOf_83 rfl (by decide) rfl ?_
    refine g_iinc (v' := v3 + 1) (lv' := [(3, .int (v3 + 1)), (2, .int p0), (0, .ref (ad w 61)), (1, .int v1)]) C dX9_seenOf_84 3 rfl rfl (by decide) rfl ?_
    refine g_goto (tgt := 4) C dX9_seenOf_87 (by decide) ?_
    refine g_sub [2, 3, 1, 0] rfl ?_
    exact q4 _ _ _ _ hf
  have j61 : ∀ (k4 : Int32 → Int32 → Int32 → Mem → Option (Int32 × Mem)), (∀ (v1 : Int32) (v2 : Int32) (v3 : Int32) (s : Mem), k4 v1 v2 v3 s = some (r, s') → G x (QI x w r s') 5 w 4 [(0, .ref (ad w 61)), (1, .int v1), (2, .int v2), (3, .int v3)] [] s) → ∀ (v1 : Int32) (v2 : Int32) (v3 : Int32) (p0 : Bool) (s : Mem), f_X9_seenOf_j61 N k4 v1 v2 v3 p0 s = some (r, s') → G x (QI x w r s') 5 w 61 [(0, .ref (ad w 61)), (1, .int v1), (2, .int v2), (3, .int v3)] [.int (bI p0)] s := by
    intro k4 q4 v1 v2 v3 p0 s hf
    unfold f_X9_seenOf_j61 at hf
    refine g_istore (lv' := [(4, .int (bI p0)), (0, .ref (ad w 61)), (1, .int v1), (2, .int v2), (3, .int v3)]) C dX9_seenOf_61 (by decide) rfl ?_
    refine g_iload C dX9_seenOf_63 0 rfl ?_
    refine g_ifeqB (tgt := 82) C dX9_seenOf_65 (by decide) hf (fun hf => ?_) (fun hf => ?_)
    · refine g_iload_n C dX9_seenOf_82 rfl 3 rfl ?_
      refine g_sub [1, 2, 4] rfl ?_
      exact j83 k4 q4 _ _ _ _ hf
    · refine g_aload_n C dX9_seenOf_68 rfl 1 rfl ?_
      refine g_get C (R := RX9) (T := TX9) (N := 48) (k := 3) (v := .ref (ad w 63)) kd_61 (by decide) rfl (in_61 hS) hinX9 (by decide) fl_X9_13 rfl rfl dX9_seenOf_69 ?_
      refine g_bipush C (v := 6) dX9_seenOf_72 (by decide) ?_
      refine g_iload_n C dX9_seenOf_74 rfl 4 rfl ?_
      refine g_imul C dX9_seenOf_75 ?_
      refine g_iconst C (v := 2) dX9_seenOf_76 rfl ?_
      refine g_iadd C dX9_seenOf_77 ?_
      refine g_iald C kd_63 ln_63 (in_63 hS) dX9_seenOf_78 hf (fun hf => ?_)
      refine g_goto (tgt := 83) C dX9_seenOf_79 (by decide) ?_
      refine g_sub [1, 2, 4] rfl ?_
      exact j83 k4 q4 _ _ _ _ hf
  have j60 : ∀ (k4 : Int32 → Int32 → Int32 → Mem → Option (Int32 × Mem)), (∀ (v1 : Int32) (v2 : Int32) (v3 : Int32) (s : Mem), k4 v1 v2 v3 s = some (r, s') → G x (QI x w r s') 5 w 4 [(0, .ref (ad w 61)), (1, .int v1), (2, .int v2), (3, .int v3)] [] s) → ∀ (v1 : Int32) (v2 : Int32) (v3 : Int32) (s : Mem), f_X9_seenOf_j60 N k4 v1 v2 v3 s = some (r, s') → G x (QI x w r s') 5 w 60 [(0, .ref (ad w 61)), (1, .int v1), (2, .int v2), (3, .int v3)] [] s := by
    intro k4 q4 v1 v2 v3 s hf
    unfold f_X9_seenOf_j60 at hf
    refine g_iconst C (v := 0) dX9_seenOf_60 rfl ?_
    exact j61 k4 q4 _ _ _ _ _ hf
  have j4 : ∀ (n : Nat), ∀ (v1 : Int32) (v2 : Int32) (v3 : Int32) (s : Mem), f_X9_seenOf_L4 N n v1 v2 v3 s = some (r, s') → G x (QI x w r s') 5 w 4 [(0, .ref (ad w 61)), (1, .int v1), (2, .int v2), (3, .int v3)] [] s := by
    intro n
    induction n with
    | zero => intro v1 v2 v3 s hf; cases hf
    | succ n ih =>
      intro v1 v2 v3 s hf
      unfold f_X9_seenOf_L4 at hf
      refine g_iload_n C dX9_seenOf_4 rfl 3 rfl ?_
      refine g_aload_n C dX9_seenOf_5 rfl 0 rfl ?_
      refine g_get C (R := RX9) (T := TX9) (N := 48) (k := 2) (v := .int (rI s 61 2)) kd_61 (by decide) rfl (in_61 hS) hinX9 (by decide) fl_X9_97 rfl rfl dX9_seenOf_6 ?_
      refine g_icmp_ge (tgt := 90) C dX9_seenOf_9 (by decide) hf (fun hf => ?_) (fun hf => ?_)
      · refine g_iload_n C dX9_seenOf_90 rfl 2 rfl ?_
        exact g_iret C dX9_seenOf_91 hf
      · refine g_aload_n C dX9_seenOf_12 rfl 0 rfl ?_
        refine g_get C (R := RX9) (T := TX9) (N := 48) (k := 3) (v := .ref (ad w 63)) kd_61 (by decide) rfl (in_61 hS) hinX9 (by decide) fl_X9_13 rfl rfl dX9_seenOf_13 ?_
        refine g_bipush C (v := 6) dX9_seenOf_16 (by decide) ?_
        refine g_iload_n C dX9_seenOf_18 rfl 3 rfl ?_
        refine g_imul C dX9_seenOf_19 ?_
        refine g_iald C kd_63 ln_63 (in_63 hS) dX9_seenOf_20 hf (fun hf => ?_)
        refine g_iload_n C dX9_seenOf_21 rfl 1 rfl ?_
        refine g_icmp_ne (tgt := 60) C dX9_seenOf_22 (by decide) hf (fun hf => ?_) (fun hf => ?_)
        · exact j60 (f_X9_seenOf_L4 N n) ih _ _ _ _ hf
        · refine g_aload_n C dX9_seenOf_25 rfl 0 rfl ?_
          refine g_get C (R := RX9) (T := TX9) (N := 48) (k := 3) (v := .ref (ad w 63)) kd_61 (by decide) rfl (in_61 hS) hinX9 (by decide) fl_X9_13 rfl rfl dX9_seenOf_26 ?_
          refine g_bipush C (v := 6) dX9_seenOf_29 (by decide) ?_
          refine g_iload_n C dX9_seenOf_31 rfl 3 rfl ?_
          refine g_imul C dX9_seenOf_32 ?_
          refine g_iconst C (v := 1) dX9_seenOf_33 rfl ?_
          refine g_iadd C dX9_seenOf_34 ?_
          refine g_iald C kd_63 ln_63 (in_63 hS) dX9_seenOf_35 hf (fun hf => ?_)
          refine g_bipush C (v := 6) dX9_seenOf_36 (by decide) ?_
          refine g_icmp_eq (tgt := 60) C dX9_seenOf_38 (by decide) hf (fun hf => ?_) (fun hf => ?_)
          · exact j60 (f_X9_seenOf_L4 N n) ih _ _ _ _ hf
          · refine g_aload_n C dX9_seenOf_41 rfl 0 rfl ?_
            refine g_get C (R := RX9) (T := TX9) (N := 48) (k := 3) (v := .ref (ad w 63)) kd_61 (by decide) rfl (in_61 hS) hinX9 (by decide) fl_X9_13 rfl rfl dX9_seenOf_42 ?_
            refine g_bipush C (v := 6) dX9_seenOf_45 (by decide) ?_
            refine g_iload_n C dX9_seenOf_47 rfl 3 rfl ?_
            refine g_imul C dX9_seenOf_48 ?_
            refine g_iconst C (v := 2) dX9_seenOf_49 rfl ?_
            refine g_iadd C dX9_seenOf_50 ?_
            refine g_iald C kd_63 ln_63 (in_63 hS) dX9_seenOf_51 hf (fun hf => ?_)
            refine g_iload_n C dX9_seenOf_52 rfl 2 rfl ?_
            refine g_icmp_le (tgt := 60) C dX9_seenOf_53 (by decide) hf (fun hf => ?_) (fun hf => ?_)
            · exact j60 (f_X9_seenOf_L4 N n) ih _ _ _ _ hf
            · refine g_iconst C (v := 1) dX9_seenOf_56 rfl ?_
              refine g_goto (tgt := 61) C dX9_seenOf_57 (by decide) ?_
              exact j61 (f_X9_seenOf_L4 N n) ih _ _ _ _ _ hf
  refine g_lv (lv' := [(0, .ref (ad w 61)), (1, .int a1)]) rfl ?_
  unfold f_X9_seenOf at hf
  refine g_iconst C (v := 0) dX9_seenOf_0 rfl ?_
  refine g_istore_n (lv' := [(2, .int 0), (0, .ref (ad w 61)), (1, .int a1)]) C dX9_seenOf_1 rfl (by decide) rfl ?_
  refine g_iconst C (v := 0) dX9_seenOf_2 rfl ?_
  refine g_istore_n (lv' := [(3, .int 0), (2, .int 0), (0, .ref (ad w 61)), (1, .int a1)]) C dX9_seenOf_3 rfl (by decide) rfl ?_
  refine g_sub [2, 3, 1, 0] rfl ?_
  exact j4 N _ _ _ _ hf

set_option maxHeartbeats 4000000 in
set_option maxRecDepth 100000 in
theorem c_X9_personOf (l : Launch) (N : Nat) (w : WX) (hS : SS w = Sm) (a1 : Int32) (a2 : Int32) {s s' : Mem} {r : Int32} (hf : f_X9_personOf N a1 a2 s = some (r, s')) : CI l yX9_personOf (wz yX9_personOf cX9_personOf 3 (some .int)) ({ frames := 2, cells := 0, slots := 0, locals := 43 } : Room) [.ref (ad w 61), .int a1, .int a2] w s r s' := by
  refine met_startI (cc := cX9_personOf) (ret := (some .int)) (own := RX9) (maxL := 3) (by decide) rfl (Nat.le_of_ble_eq_true rfl) (fun x C hR hl => ?_)
  refine g_lv (lv' := [(0, .ref (ad w 61)), (1, .int a1), (2, .int a2)]) rfl ?_
  unfold f_X9_personOf at hf
  refine g_aload_n C dX9_personOf_0 rfl 0 rfl ?_
  refine g_iload_n C dX9_personOf_1 rfl 1 rfl ?_
  refine g_callVB C (R := RX9) (T := TX9) (N := 48) [.int a1] (fun _ _ h => c_X9_isPerson (kl x) N w hS _ h) (g_cwV C hR ml_X9_100 im_X9_isPerson sl_X9_isPerson ini_X9 cd_X9_isPerson hd_X9_isPerson (by decide)) kd_61 (by decide) rfl (in_61 hS) rfl _ rfl (Nat.le_of_ble_eq_true rfl) dX9_personOf_2 hf (fun r1 s1 hf => ?_)
  refine g_ifeqB (tgt := 17) C dX9_personOf_5 (by decide) hf (fun hf => ?_) (fun hf => ?_)
  · refine g_iconst C (v := (-1)) dX9_personOf_17 rfl ?_
    exact g_iret C dX9_personOf_18 hf
  · refine g_iload_n C dX9_personOf_8 rfl 2 rfl ?_
    refine g_iconst C (v := 0) dX9_personOf_9 rfl ?_
    refine g_iconst C (v := 5) dX9_personOf_10 rfl ?_
    refine g_callSB C [.int a2, .int 0, .int 5] (fun _ _ h => c_X9_in (kl x) N w _ _ _ h) (g_cwS C hR ml_X9_93 sm_X9_in ini_X9 cd_X9_in hd_X9_in (by decide)) rfl _ rfl (Nat.le_of_ble_eq_true rfl) dX9_personOf_11 hf (fun r2 s2 hf => ?_)
    refine g_ifneB (tgt := 19) C dX9_personOf_14 (by decide) hf (fun hf => ?_) (fun hf => ?_)
    · refine g_iload_n C dX9_personOf_19 rfl 2 rfl ?_
      refine g_iconst C (v := 3) dX9_personOf_20 rfl ?_
      refine g_icmp_ge (tgt := 37) C dX9_personOf_21 (by decide) hf (fun hf => ?_) (fun hf => ?_)
      · refine g_iload_n C dX9_personOf_37 rfl 2 rfl ?_
        refine g_iconst C (v := 3) dX9_personOf_38 rfl ?_
        refine g_icmp_ne (tgt := 50) C dX9_personOf_39 (by decide) hf (fun hf => ?_) (fun hf => ?_)
        · refine g_iload_n C dX9_personOf_50 rfl 2 rfl ?_
          refine g_iconst C (v := 4) dX9_personOf_51 rfl ?_
          refine g_icmp_ne (tgt := 63) C dX9_personOf_52 (by decide) hf (fun hf => ?_) (fun hf => ?_)
          · refine g_aload_n C dX9_personOf_63 rfl 0 rfl ?_
            refine g_get C (R := RX9) (T := TX9) (N := 48) (k := 1) (v := .ref (ad w 62)) kd_61 (by decide) rfl (in_61 hS) hinX9 (by decide) fl_X9_7 rfl rfl dX9_personOf_64 ?_
            refine g_iconst C (v := 4) dX9_personOf_67 rfl ?_
            refine g_iload_n C dX9_personOf_68 rfl 1 rfl ?_
            refine g_imul C dX9_personOf_69 ?_
            refine g_iconst C (v := 3) dX9_personOf_70 rfl ?_
            refine g_iadd C dX9_personOf_71 ?_
            refine g_iald C kd_62 ln_62 (in_62 hS) dX9_personOf_72 hf (fun hf => ?_)
            exact g_iret C dX9_personOf_73 hf
          · refine g_aload_n C dX9_personOf_55 rfl 0 rfl ?_
            refine g_iload_n C dX9_personOf_56 rfl 1 rfl ?_
            refine g_callVI C (R := RX9) (T := TX9) (N := 48) [.int a1] (fun _ _ h => c_X9_papersOf (kl x) N w hS _ h) (g_cwV C hR ml_X9_108 im_X9_papersOf sl_X9_papersOf ini_X9 cd_X9_papersOf hd_X9_papersOf (by decide)) kd_61 (by decide) rfl (in_61 hS) rfl _ rfl (Nat.le_of_ble_eq_true rfl) dX9_personOf_57 hf (fun r3 s3 hf => ?_)
            refine g_goto (tgt := 73) C dX9_personOf_60 (by decide) ?_
            exact g_iret C dX9_personOf_73 hf
        · refine g_aload_n C dX9_personOf_42 rfl 0 rfl ?_
          refine g_iload_n C dX9_personOf_43 rfl 1 rfl ?_
          refine g_callVI C (R := RX9) (T := TX9) (N := 48) [.int a1] (fun _ _ h => c_X9_seenOf (kl x) N w hS _ h) (g_cwV C hR ml_X9_104 im_X9_seenOf sl_X9_seenOf ini_X9 cd_X9_seenOf hd_X9_seenOf (by decide)) kd_61 (by decide) rfl (in_61 hS) rfl _ rfl (Nat.le_of_ble_eq_true rfl) dX9_personOf_44 hf (fun r4 s4 hf => ?_)
          refine g_goto (tgt := 73) C dX9_personOf_47 (by decide) ?_
          exact g_iret C dX9_personOf_73 hf
      · refine g_aload_n C dX9_personOf_24 rfl 0 rfl ?_
        refine g_get C (R := RX9) (T := TX9) (N := 48) (k := 1) (v := .ref (ad w 62)) kd_61 (by decide) rfl (in_61 hS) hinX9 (by decide) fl_X9_7 rfl rfl dX9_personOf_25 ?_
        refine g_iconst C (v := 4) dX9_personOf_28 rfl ?_
        refine g_iload_n C dX9_personOf_29 rfl 1 rfl ?_
        refine g_imul C dX9_personOf_30 ?_
        refine g_iload_n C dX9_personOf_31 rfl 2 rfl ?_
        refine g_iadd C dX9_personOf_32 ?_
        refine g_iald C kd_62 ln_62 (in_62 hS) dX9_personOf_33 hf (fun hf => ?_)
        refine g_goto (tgt := 73) C dX9_personOf_34 (by decide) ?_
        exact g_iret C dX9_personOf_73 hf
    · refine g_iconst C (v := (-1)) dX9_personOf_17 rfl ?_
      exact g_iret C dX9_personOf_18 hf

set_option maxHeartbeats 4000000 in
set_option maxRecDepth 100000 in
theorem c_X9_paper (l : Launch) (N : Nat) (w : WX) (hS : SS w = Sm) (a1 : Int32) (a2 : Int32) (a3 : Int32) (a4 : Int32) (a5 : Int32) (a6 : Int32) {s s' : Mem} {r : Int32} (hf : f_X9_paper N a1 a2 a3 a4 a5 a6 s = some (r, s')) : CI l yX9_paper (wz yX9_paper cX9_paper 8 (some .int)) ({ frames := 2, cells := 0, slots := 0, locals := 43 } : Room) [.ref (ad w 61), .int a1, .int a2, .int a3, .int a4, .int a5, .int a6] w s r s' := by
  refine met_startI (cc := cX9_paper) (ret := (some .int)) (own := RX9) (maxL := 8) (by decide) rfl (Nat.le_of_ble_eq_true rfl) (fun x C hR hl => ?_)
  have j161 : ∀ (p0 : Int32) (p1 : Int32) (s : Mem), f_X9_paper_j161 N p0 p1 s = some (r, s') → G x (QI x w r s') 8 w 161 [(0, .ref (ad w 61))] [.int p0, .int p1, .ref (ad w 63)] s := by
    intro p0 p1 s hf
    unfold f_X9_paper_j161 at hf
    refine g_iast C kd_63 ln_63 (in_63 hS) dX9_paper_161 hf (fun hf => ?_)
    refine g_nameS hf (fun s1 hf => ?_)
    refine g_aload_n C dX9_paper_162 rfl 0 rfl ?_
    refine g_dup C dX9_paper_163 rfl ?_
    refine g_get C (R := RX9) (T := TX9) (N := 48) (k := 2) (v := .int (rI s1 61 2)) kd_61 (by decide) rfl (in_61 hS) hinX9 (by decide) fl_X9_97 rfl rfl dX9_paper_164 ?_
    refine g_iconst C (v := 1) dX9_paper_167 rfl ?_
    refine g_iadd C dX9_paper_168 ?_
    refine g_putI C (R := RX9) (T := TX9) (N := 48) (k := 2) (ty := .int) tyX9 tyX9_ok nmX9 kd_61 (by decide) rfl (in_61 hS) hinX9 (by decide) fl_X9_97 rfl rfl rfl rfl rfl (Nat.le_of_ble_eq_true rfl) fs_9_2 dX9_paper_169 ?_
    refine g_nameS hf (fun s2 hf => ?_)
    refine g_aload_n C dX9_paper_172 rfl 0 rfl ?_
    refine g_get C (R := RX9) (T := TX9) (N := 48) (k := 2) (v := .int (rI s2 61 2)) kd_61 (by decide) rfl (in_61 hS) hinX9 (by decide) fl_X9_97 rfl rfl dX9_paper_173 ?_
    refine g_iconst C (v := 1) dX9_paper_176 rfl ?_
    refine g_isub C dX9_paper_177 ?_
    exact g_iret C dX9_paper_178 hf
  have j60 : ∀ (v1 : Int32) (v2 : Int32) (v3 : Int32) (v4 : Int32) (v5 : Int32) (v6 : Int32) (s : Mem), f_X9_paper_j60 N v1 v2 v3 v4 v5 v6 s = some (r, s') → G x (QI x w r s') 8 w 60 [(0, .ref (ad w 61)), (1, .int v1), (2, .int v2), (3, .int v3), (4, .int v4), (5, .int v5), (6, .int v6)] [] s := by
    intro v1 v2 v3 v4 v5 v6 s hf
    unfold f_X9_paper_j60 at hf
    refine g_aload_n C dX9_paper_60 rfl 0 rfl ?_
    refine g_get C (R := RX9) (T := TX9) (N := 48) (k := 2) (v := .int (rI s 61 2)) kd_61 (by decide) rfl (in_61 hS) hinX9 (by decide) fl_X9_97 rfl rfl dX9_paper_61 ?_
    refine g_bipush C (v := 30) dX9_paper_64 (by decide) ?_
    refine g_icmp_eq (tgt := 79) C dX9_paper_66 (by decide) hf (fun hf => ?_) (fun hf => ?_)
    · refine g_bipush C (v := (-2)) dX9_paper_79 (by decide) ?_
      exact g_iret C dX9_paper_81 hf
    · refine g_aload_n C dX9_paper_69 rfl 0 rfl ?_
      refine g_iload_n C dX9_paper_70 rfl 1 rfl ?_
      refine g_callVI C (R := RX9) (T := TX9) (N := 48) [.int v1] (fun _ _ h => c_X9_papersOf (kl x) N w hS _ h) (g_cwV C hR ml_X9_108 im_X9_papersOf sl_X9_papersOf ini_X9 cd_X9_papersOf hd_X9_papersOf (by decide)) kd_61 (by decide) rfl (in_61 hS) rfl _ rfl (Nat.le_of_ble_eq_true rfl) dX9_paper_71 hf (fun r1 s1 hf => ?_)
      refine g_bipush C (v := 6) dX9_paper_74 (by decide) ?_
      refine g_icmp_ne (tgt := 82) C dX9_paper_76 (by decide) hf (fun hf => ?_) (fun hf => ?_)
      · refine g_bipush C (v := 6) dX9_paper_82 (by decide) ?_
        refine g_aload_n C dX9_paper_84 rfl 0 rfl ?_
        refine g_get C (R := RX9) (T := TX9) (N := 48) (k := 2) (v := .int (rI s1 61 2)) kd_61 (by decide) rfl (in_61 hS) hinX9 (by decide) fl_X9_97 rfl rfl dX9_paper_85 ?_
        refine g_imul C dX9_paper_88 ?_
        refine g_istore (lv' := [(7, .int (6 * (rI s1 61 2))), (0, .ref (ad w 61)), (1, .int v1), (2, .int v2), (3, .int v3), (4, .int v4), (5, .int v5), (6, .int v6)]) C dX9_paper_89 (by decide) rfl ?_
        refine g_aload_n C dX9_paper_91 rfl 1 rfl ?_
        refine g_get C (R := RX9) (T := TX9) (N := 48) (k := 3) (v := .ref (ad w 63)) kd_61 (by decide) rfl (in_61 hS) hinX9 (by decide) fl_X9_13 rfl rfl dX9_paper_92 ?_
        refine g_iload C dX9_paper_95 0 rfl ?_
        refine g_iload_n C dX9_paper_97 rfl 2 rfl ?_
        refine g_iast C kd_63 ln_63 (in_63 hS) dX9_paper_98 hf (fun hf => ?_)
        refine g_nameS hf (fun s2 hf => ?_)
        refine g_aload_n C dX9_paper_99 rfl 1 rfl ?_
        refine g_get C (R := RX9) (T := TX9) (N := 48) (k := 3) (v := .ref (ad w 63)) kd_61 (by decide) rfl (in_61 hS) hinX9 (by decide) fl_X9_13 rfl rfl dX9_paper_100 ?_
        refine g_iload C dX9_paper_103 0 rfl ?_
        refine g_iconst C (v := 1) dX9_paper_105 rfl ?_
        refine g_iadd C dX9_paper_106 ?_
        refine g_iload_n C dX9_paper_107 rfl 3 rfl ?_
        refine g_iast C kd_63 ln_63 (in_63 hS) dX9_paper_108 hf (fun hf => ?_)
        refine g_nameS hf (fun s3 hf => ?_)
        refine g_aload_n C dX9_paper_109 rfl 1 rfl ?_
        refine g_get C (R := RX9) (T := TX9) (N := 48) (k := 3) (v := .ref (ad w 63)) kd_61 (by decide) rfl (in_61 hS) hinX9 (by decide) fl_X9_13 rfl rfl dX9_paper_110 ?_
        refine g_iload C dX9_paper_113 0 rfl ?_
        refine g_iconst C (v := 2) dX9_paper_115 rfl ?_
        refine g_iadd C dX9_paper_116 ?_
        refine g_iload_n C dX9_paper_117 rfl 4 rfl ?_
        refine g_iast C kd_63 ln_63 (in_63 hS) dX9_paper_118 hf (fun hf => ?_)
        refine g_nameS hf (fun s4 hf => ?_)
        refine g_aload_n C dX9_paper_119 rfl 1 rfl ?_
        refine g_get C (R := RX9) (T := TX9) (N := 48) (k := 3) (v := .ref (ad w 63)) kd_61 (by decide) rfl (in_61 hS) hinX9 (by decide) fl_X9_13 rfl rfl dX9_paper_120 ?_
        refine g_iload C dX9_paper_123 0 rfl ?_
        refine g_iconst C (v := 3) dX9_paper_125 rfl ?_
        refine g_iadd C dX9_paper_126 ?_
        refine g_iload C dX9_paper_127 5 rfl ?_
        refine g_iast C kd_63 ln_63 (in_63 hS) dX9_paper_129 hf (fun hf => ?_)
        refine g_nameS hf (fun s5 hf => ?_)
        refine g_aload_n C dX9_paper_130 rfl 1 rfl ?_
        refine g_get C (R := RX9) (T := TX9) (N := 48) (k := 3) (v := .ref (ad w 63)) kd_61 (by decide) rfl (in_61 hS) hinX9 (by decide) fl_X9_13 rfl rfl dX9_paper_131 ?_
        refine g_iload C dX9_paper_134 0 rfl ?_
        refine g_iconst C (v := 4) dX9_paper_136 rfl ?_
        refine g_iadd C dX9_paper_137 ?_
        refine g_iload C dX9_paper_138 6 rfl ?_
        refine g_iast C kd_63 ln_63 (in_63 hS) dX9_paper_140 hf (fun hf => ?_)
        refine g_nameS hf (fun s6 hf => ?_)
        refine g_aload_n C dX9_paper_141 rfl 1 rfl ?_
        refine g_get C (R := RX9) (T := TX9) (N := 48) (k := 3) (v := .ref (ad w 63)) kd_61 (by decide) rfl (in_61 hS) hinX9 (by decide) fl_X9_13 rfl rfl dX9_paper_142 ?_
        refine g_iload C dX9_paper_145 0 rfl ?_
        refine g_iconst C (v := 5) dX9_paper_147 rfl ?_
        refine g_iadd C dX9_paper_148 ?_
        refine g_iload_n C dX9_paper_149 rfl 3 rfl ?_
        refine g_iconst C (v := 5) dX9_paper_150 rfl ?_
        refine g_icmp_ne (tgt := 159) C dX9_paper_151 (by decide) hf (fun hf => ?_) (fun hf => ?_)
        · refine g_bipush C (v := (-9)) dX9_paper_159 (by decide) ?_
          refine g_sub [1] rfl ?_
          exact j161 _ _ _ hf
        · refine g_iload C dX9_paper_154 7 rfl ?_
          refine g_goto (tgt := 161) C dX9_paper_156 (by decide) ?_
          refine g_sub [1] rfl ?_
          exact j161 _ _ _ hf
      · refine g_bipush C (v := (-2)) dX9_paper_79 (by decide) ?_
        exact g_iret C dX9_paper_81 hf
  refine g_lv (lv' := [(0, .ref (ad w 61)), (1, .int a1), (2, .int a2), (3, .int a3), (4, .int a4), (5, .int a5), (6, .int a6)]) rfl ?_
  unfold f_X9_paper at hf
  refine g_aload_n C dX9_paper_0 rfl 0 rfl ?_
  refine g_iload_n C dX9_paper_1 rfl 1 rfl ?_
  refine g_callVB C (R := RX9) (T := TX9) (N := 48) [.int a1] (fun _ _ h => c_X9_isPerson (kl x) N w hS _ h) (g_cwV C hR ml_X9_100 im_X9_isPerson sl_X9_isPerson ini_X9 cd_X9_isPerson hd_X9_isPerson (by decide)) kd_61 (by decide) rfl (in_61 hS) rfl _ rfl (Nat.le_of_ble_eq_true rfl) dX9_paper_2 hf (fun r1 s1 hf => ?_)
  refine g_ifeqB (tgt := 58) C dX9_paper_5 (by decide) hf (fun hf => ?_) (fun hf => ?_)
  · refine g_iconst C (v := (-1)) dX9_paper_58 rfl ?_
    exact g_iret C dX9_paper_59 hf
  · refine g_iload_n C dX9_paper_8 rfl 2 rfl ?_
    refine g_iconst C (v := 1) dX9_paper_9 rfl ?_
    refine g_bipush C (v := 7) dX9_paper_10 (by decide) ?_
    refine g_callSB C [.int a2, .int 1, .int 7] (fun _ _ h => c_X9_in (kl x) N w _ _ _ h) (g_cwS C hR ml_X9_93 sm_X9_in ini_X9 cd_X9_in hd_X9_in (by decide)) rfl _ rfl (Nat.le_of_ble_eq_true rfl) dX9_paper_12 hf (fun r2 s2 hf => ?_)
    refine g_ifeqB (tgt := 58) C dX9_paper_15 (by decide) hf (fun hf => ?_) (fun hf => ?_)
    · refine g_iconst C (v := (-1)) dX9_paper_58 rfl ?_
      exact g_iret C dX9_paper_59 hf
    · refine g_iload_n C dX9_paper_18 rfl 3 rfl ?_
      refine g_callSB C [.int a3] (fun _ _ h => c_X9_isYear (kl x) N w _ h) (g_cwS C hR ml_X9_111 sm_X9_isYear ini_X9 cd_X9_isYear hd_X9_isYear (by decide)) rfl _ rfl (Nat.le_of_ble_eq_true rfl) dX9_paper_19 hf (fun r3 s3 hf => ?_)
      refine g_ifeqB (tgt := 58) C dX9_paper_22 (by decide) hf (fun hf => ?_) (fun hf => ?_)
      · refine g_iconst C (v := (-1)) dX9_paper_58 rfl ?_
        exact g_iret C dX9_paper_59 hf
      · refine g_iload C dX9_paper_25 4 rfl ?_
        refine g_callSB C [.int a4] (fun _ _ h => c_X9_isYear (kl x) N w _ h) (g_cwS C hR ml_X9_111 sm_X9_isYear ini_X9 cd_X9_isYear hd_X9_isYear (by decide)) rfl _ rfl (Nat.le_of_ble_eq_true rfl) dX9_paper_27 hf (fun r4 s4 hf => ?_)
        refine g_ifeqB (tgt := 58) C dX9_paper_30 (by decide) hf (fun hf => ?_) (fun hf => ?_)
        · refine g_iconst C (v := (-1)) dX9_paper_58 rfl ?_
          exact g_iret C dX9_paper_59 hf
        · refine g_iload C dX9_paper_33 5 rfl ?_
          refine g_iconst C (v := 0) dX9_paper_35 rfl ?_
          refine g_bipush C (v := 99) dX9_paper_36 (by decide) ?_
          refine g_callSB C [.int a5, .int 0, .int 99] (fun _ _ h => c_X9_in (kl x) N w _ _ _ h) (g_cwS C hR ml_X9_93 sm_X9_in ini_X9 cd_X9_in hd_X9_in (by decide)) rfl _ rfl (Nat.le_of_ble_eq_true rfl) dX9_paper_38 hf (fun r5 s5 hf => ?_)
          refine g_ifeqB (tgt := 58) C dX9_paper_41 (by decide) hf (fun hf => ?_) (fun hf => ?_)
          · refine g_iconst C (v := (-1)) dX9_paper_58 rfl ?_
            exact g_iret C dX9_paper_59 hf
          · refine g_iload_n C dX9_paper_44 rfl 2 rfl ?_
            refine g_iconst C (v := 5) dX9_paper_45 rfl ?_
            refine g_icmp_ne (tgt := 60) C dX9_paper_46 (by decide) hf (fun hf => ?_) (fun hf => ?_)
            · exact j60 _ _ _ _ _ _ _ hf
            · refine g_aload_n C dX9_paper_49 rfl 0 rfl ?_
              refine g_iload C dX9_paper_50 6 rfl ?_
              refine g_callVB C (R := RX9) (T := TX9) (N := 48) [.int a6] (fun _ _ h => c_X9_isPaper (kl x) N w hS _ h) (g_cwV C hR ml_X9_114 im_X9_isPaper sl_X9_isPaper ini_X9 cd_X9_isPaper hd_X9_isPaper (by decide)) kd_61 (by decide) rfl (in_61 hS) rfl _ rfl (Nat.le_of_ble_eq_true rfl) dX9_paper_52 hf (fun r6 s6 hf => ?_)
              refine g_ifneB (tgt := 60) C dX9_paper_55 (by decide) hf (fun hf => ?_) (fun hf => ?_)
              · exact j60 _ _ _ _ _ _ _ hf
              · refine g_iconst C (v := (-1)) dX9_paper_58 rfl ?_
                exact g_iret C dX9_paper_59 hf

set_option maxHeartbeats 4000000 in
set_option maxRecDepth 100000 in
theorem c_X9_paperOf (l : Launch) (N : Nat) (w : WX) (hS : SS w = Sm) (a1 : Int32) (a2 : Int32) {s s' : Mem} {r : Int32} (hf : f_X9_paperOf N a1 a2 s = some (r, s')) : CI l yX9_paperOf (wz yX9_paperOf cX9_paperOf 3 (some .int)) ({ frames := 2, cells := 0, slots := 0, locals := 43 } : Room) [.ref (ad w 61), .int a1, .int a2] w s r s' := by
  refine met_startI (cc := cX9_paperOf) (ret := (some .int)) (own := RX9) (maxL := 3) (by decide) rfl (Nat.le_of_ble_eq_true rfl) (fun x C hR hl => ?_)
  refine g_lv (lv' := [(0, .ref (ad w 61)), (1, .int a1), (2, .int a2)]) rfl ?_
  unfold f_X9_paperOf at hf
  refine g_aload_n C dX9_paperOf_0 rfl 0 rfl ?_
  refine g_iload_n C dX9_paperOf_1 rfl 1 rfl ?_
  refine g_callVB C (R := RX9) (T := TX9) (N := 48) [.int a1] (fun _ _ h => c_X9_isPaper (kl x) N w hS _ h) (g_cwV C hR ml_X9_114 im_X9_isPaper sl_X9_isPaper ini_X9 cd_X9_isPaper hd_X9_isPaper (by decide)) kd_61 (by decide) rfl (in_61 hS) rfl _ rfl (Nat.le_of_ble_eq_true rfl) dX9_paperOf_2 hf (fun r1 s1 hf => ?_)
  refine g_ifeqB (tgt := 31) C dX9_paperOf_5 (by decide) hf (fun hf => ?_) (fun hf => ?_)
  · refine g_iconst C (v := (-1)) dX9_paperOf_31 rfl ?_
    exact g_iret C dX9_paperOf_32 hf
  · refine g_iload_n C dX9_paperOf_8 rfl 2 rfl ?_
    refine g_iconst C (v := 0) dX9_paperOf_9 rfl ?_
    refine g_iconst C (v := 5) dX9_paperOf_10 rfl ?_
    refine g_callSB C [.int a2, .int 0, .int 5] (fun _ _ h => c_X9_in (kl x) N w _ _ _ h) (g_cwS C hR ml_X9_93 sm_X9_in ini_X9 cd_X9_in hd_X9_in (by decide)) rfl _ rfl (Nat.le_of_ble_eq_true rfl) dX9_paperOf_11 hf (fun r2 s2 hf => ?_)
    refine g_ifeqB (tgt := 31) C dX9_paperOf_14 (by decide) hf (fun hf => ?_) (fun hf => ?_)
    · refine g_iconst C (v := (-1)) dX9_paperOf_31 rfl ?_
      exact g_iret C dX9_paperOf_32 hf
    · refine g_aload_n C dX9_paperOf_17 rfl 0 rfl ?_
      refine g_get C (R := RX9) (T := TX9) (N := 48) (k := 3) (v := .ref (ad w 63)) kd_61 (by decide) rfl (in_61 hS) hinX9 (by decide) fl_X9_13 rfl rfl dX9_paperOf_18 ?_
      refine g_bipush C (v := 6) dX9_paperOf_21 (by decide) ?_
      refine g_iload_n C dX9_paperOf_23 rfl 1 rfl ?_
      refine g_imul C dX9_paperOf_24 ?_
      refine g_iload_n C dX9_paperOf_25 rfl 2 rfl ?_
      refine g_iadd C dX9_paperOf_26 ?_
      refine g_iald C kd_63 ln_63 (in_63 hS) dX9_paperOf_27 hf (fun hf => ?_)
      refine g_goto (tgt := 32) C dX9_paperOf_28 (by decide) ?_
      exact g_iret C dX9_paperOf_32 hf

set_option maxHeartbeats 4000000 in
set_option maxRecDepth 100000 in
theorem c_X9_correct (l : Launch) (N : Nat) (w : WX) (hS : SS w = Sm) (a1 : Int32) (a2 : Int32) {s s' : Mem} {r : Int32} (hf : f_X9_correct N a1 a2 s = some (r, s')) : CI l yX9_correct (wz yX9_correct cX9_correct 4 (some .int)) ({ frames := 2, cells := 0, slots := 0, locals := 43 } : Room) [.ref (ad w 61), .int a1, .int a2] w s r s' := by
  refine met_startI (cc := cX9_correct) (ret := (some .int)) (own := RX9) (maxL := 4) (by decide) rfl (Nat.le_of_ble_eq_true rfl) (fun x C hR hl => ?_)
  refine g_lv (lv' := [(0, .ref (ad w 61)), (1, .int a1), (2, .int a2)]) rfl ?_
  unfold f_X9_correct at hf
  refine g_aload_n C dX9_correct_0 rfl 0 rfl ?_
  refine g_iload_n C dX9_correct_1 rfl 1 rfl ?_
  refine g_callVB C (R := RX9) (T := TX9) (N := 48) [.int a1] (fun _ _ h => c_X9_isPaper (kl x) N w hS _ h) (g_cwV C hR ml_X9_114 im_X9_isPaper sl_X9_isPaper ini_X9 cd_X9_isPaper hd_X9_isPaper (by decide)) kd_61 (by decide) rfl (in_61 hS) rfl _ rfl (Nat.le_of_ble_eq_true rfl) dX9_correct_2 hf (fun r1 s1 hf => ?_)
  refine g_ifeqB (tgt := 15) C dX9_correct_5 (by decide) hf (fun hf => ?_) (fun hf => ?_)
  · refine g_iconst C (v := (-1)) dX9_correct_15 rfl ?_
    exact g_iret C dX9_correct_16 hf
  · refine g_iload_n C dX9_correct_8 rfl 2 rfl ?_
    refine g_callSB C [.int a2] (fun _ _ h => c_X9_isYear (kl x) N w _ h) (g_cwS C hR ml_X9_111 sm_X9_isYear ini_X9 cd_X9_isYear hd_X9_isYear (by decide)) rfl _ rfl (Nat.le_of_ble_eq_true rfl) dX9_correct_9 hf (fun r2 s2 hf => ?_)
    refine g_ifneB (tgt := 17) C dX9_correct_12 (by decide) hf (fun hf => ?_) (fun hf => ?_)
    · refine g_aload_n C dX9_correct_17 rfl 0 rfl ?_
      refine g_get C (R := RX9) (T := TX9) (N := 48) (k := 3) (v := .ref (ad w 63)) kd_61 (by decide) rfl (in_61 hS) hinX9 (by decide) fl_X9_13 rfl rfl dX9_correct_18 ?_
      refine g_bipush C (v := 6) dX9_correct_21 (by decide) ?_
      refine g_iload_n C dX9_correct_23 rfl 1 rfl ?_
      refine g_imul C dX9_correct_24 ?_
      refine g_iconst C (v := 3) dX9_correct_25 rfl ?_
      refine g_iadd C dX9_correct_26 ?_
      refine g_iald C kd_63 ln_63 (in_63 hS) dX9_correct_27 hf (fun hf => ?_)
      refine g_istore_nN (lv' := fun x3 => [(3, .int x3), (0, .ref (ad w 61)), (1, .int a1), (2, .int a2)]) C dX9_correct_28 rfl (by decide) (fun _ => rfl) hf (fun x3 hf => ?_)
      refine g_aload_n C dX9_correct_29 rfl 1 rfl ?_
      refine g_get C (R := RX9) (T := TX9) (N := 48) (k := 3) (v := .ref (ad w 63)) kd_61 (by decide) rfl (in_61 hS) hinX9 (by decide) fl_X9_13 rfl rfl dX9_correct_30 ?_
      refine g_bipush C (v := 6) dX9_correct_33 (by decide) ?_
      refine g_iload_n C dX9_correct_35 rfl 2 rfl ?_
      refine g_imul C dX9_correct_36 ?_
      refine g_iconst C (v := 3) dX9_correct_37 rfl ?_
      refine g_iadd C dX9_correct_38 ?_
      refine g_iload_n C dX9_correct_39 rfl 3 rfl ?_
      refine g_iast C kd_63 ln_63 (in_63 hS) dX9_correct_40 hf (fun hf => ?_)
      refine g_nameS hf (fun s4 hf => ?_)
      refine g_iload_n C dX9_correct_41 rfl 0 rfl ?_
      exact g_iret C dX9_correct_42 hf
    · refine g_iconst C (v := (-1)) dX9_correct_15 rfl ?_
      exact g_iret C dX9_correct_16 hf

set_option maxHeartbeats 4000000 in
set_option maxRecDepth 100000 in
theorem c_X9_unlike (l : Launch) (N : Nat) (w : WX) (a0 : Int32) (a1 : Int32) {s s' : Mem} {r : Int32} (hf : f_X9_unlike N a0 a1 s = some (r, s')) : CI l yX9_unlike (wz yX9_unlike cX9_unlike 2 (some .int)) ({ frames := 0, cells := 0, slots := 0, locals := 0 } : Room) [.int a0, .int a1] w s r s' := by
  refine met_startI (cc := cX9_unlike) (ret := (some .int)) (own := RX9) (maxL := 2) (by decide) rfl (Nat.le_of_ble_eq_true rfl) (fun x C hR hl => ?_)
  have j38 : ∀ (v0 : Int32) (v1 : Int32) (p0 : Bool) (p1 : Bool) (s : Mem), f_X9_unlike_j38 N v0 v1 p0 p1 s = some (r, s') → G x (QI x w r s') 2 w 38 [(0, .int v0), (1, .int v1)] [.int (bI p0), .int (bI p1)] s := by
    intro v0 v1 p0 p1 s hf
    unfold f_X9_unlike_j38 at hf
    refine g_iadd C dX9_unlike_38 ?_
    refine g_iload_n C dX9_unlike_39 rfl 0 rfl ?_
    refine g_bipush C (v := 10) dX9_unlike_40 (by decide) ?_
    refine g_iremK C dX9_unlike_42 (by decide) ?_
    refine g_iload_n C dX9_unlike_43 rfl 1 rfl ?_
    refine g_bipush C (v := 10) dX9_unlike_44 (by decide) ?_
    refine g_iremK C dX9_unlike_46 (by decide) ?_
    refine g_icmp_ne (tgt := 54) C dX9_unlike_47 (by decide) hf (fun hf => ?_) (fun hf => ?_)
    · refine g_iconst C (v := 1) dX9_unlike_54 rfl ?_
      refine g_iadd C dX9_unlike_55 ?_
      exact g_iret C dX9_unlike_56 hf
    · refine g_iconst C (v := 0) dX9_unlike_50 rfl ?_
      refine g_goto (tgt := 55) C dX9_unlike_51 (by decide) ?_
      refine g_iadd C dX9_unlike_55 ?_
      exact g_iret C dX9_unlike_56 hf
  have j16 : ∀ (v0 : Int32) (v1 : Int32) (p0 : Bool) (s : Mem), f_X9_unlike_j16 N v0 v1 p0 s = some (r, s') → G x (QI x w r s') 2 w 16 [(0, .int v0), (1, .int v1)] [.int (bI p0)] s := by
    intro v0 v1 p0 s hf
    unfold f_X9_unlike_j16 at hf
    refine g_iload_n C dX9_unlike_16 rfl 0 rfl ?_
    refine g_bipush C (v := 10) dX9_unlike_17 (by decide) ?_
    refine g_idivK C dX9_unlike_19 (by decide) ?_
    refine g_bipush C (v := 10) dX9_unlike_20 (by decide) ?_
    refine g_iremK C dX9_unlike_22 (by decide) ?_
    refine g_iload_n C dX9_unlike_23 rfl 1 rfl ?_
    refine g_bipush C (v := 10) dX9_unlike_24 (by decide) ?_
    refine g_idivK C dX9_unlike_26 (by decide) ?_
    refine g_bipush C (v := 10) dX9_unlike_27 (by decide) ?_
    refine g_iremK C dX9_unlike_29 (by decide) ?_
    refine g_icmp_ne (tgt := 37) C dX9_unlike_30 (by decide) hf (fun hf => ?_) (fun hf => ?_)
    · refine g_iconst C (v := 1) dX9_unlike_37 rfl ?_
      exact j38 _ _ _ _ _ hf
    · refine g_iconst C (v := 0) dX9_unlike_33 rfl ?_
      refine g_goto (tgt := 38) C dX9_unlike_34 (by decide) ?_
      exact j38 _ _ _ _ _ hf
  refine g_lv (lv' := [(0, .int a0), (1, .int a1)]) rfl ?_
  unfold f_X9_unlike at hf
  refine g_iload_n C dX9_unlike_0 rfl 0 rfl ?_
  refine g_bipush C (v := 100) dX9_unlike_1 (by decide) ?_
  refine g_idivK C dX9_unlike_3 (by decide) ?_
  refine g_iload_n C dX9_unlike_4 rfl 1 rfl ?_
  refine g_bipush C (v := 100) dX9_unlike_5 (by decide) ?_
  refine g_idivK C dX9_unlike_7 (by decide) ?_
  refine g_icmp_ne (tgt := 15) C dX9_unlike_8 (by decide) hf (fun hf => ?_) (fun hf => ?_)
  · refine g_iconst C (v := 1) dX9_unlike_15 rfl ?_
    exact j16 _ _ _ _ hf
  · refine g_iconst C (v := 0) dX9_unlike_11 rfl ?_
    refine g_goto (tgt := 16) C dX9_unlike_12 (by decide) ?_
    exact j16 _ _ _ _ hf

set_option maxHeartbeats 4000000 in
set_option maxRecDepth 100000 in
theorem c_X9_spans (l : Launch) (N : Nat) (w : WX) (hS : SS w = Sm) (a1 : Int32) (a2 : Int32) {s s' : Mem} {r : Bool} (hf : f_X9_spans N a1 a2 s = some (r, s')) : CB l yX9_spans (wz yX9_spans cX9_spans 7 (some .boolean)) ({ frames := 1, cells := 0, slots := 0, locals := 22 } : Room) [.ref (ad w 61), .int a1, .int a2] w s r s' := by
  refine met_startB (cc := cX9_spans) (ret := (some .boolean)) (own := RX9) (maxL := 7) (by decide) rfl (Nat.le_of_ble_eq_true rfl) (fun x C hR hl => ?_)
  have j139 : ∀ (v2 : Int32) (v5 : Int32) (p0 : Int32) (s : Mem), f_X9_spans_j139 N v2 v5 p0 s = some (r, s') → G x (QB x w r s') 7 w 139 [(2, .int v2), (5, .int v5)] [.int p0] s := by
    intro v2 v5 p0 s hf
    unfold f_X9_spans_j139 at hf
    refine g_istore (lv' := [(6, .int p0), (2, .int v2), (5, .int v5)]) C dX9_spans_139 (by decide) rfl ?_
    refine g_iload_n C dX9_spans_141 rfl 1 rfl ?_
    refine g_iload C dX9_spans_142 2 rfl ?_
    refine g_iload C dX9_spans_144 0 rfl ?_
    refine g_isub C dX9_spans_146 ?_
    refine g_iload C dX9_spans_147 2 rfl ?_
    refine g_iload C dX9_spans_149 0 rfl ?_
    refine g_iadd C dX9_spans_151 ?_
    refine g_callSB C [.int v2, .int (v5 - p0), .int (v5 + p0)] (fun _ _ h => c_X9_in (kl x) N w _ _ _ h) (g_cwS C hR ml_X9_93 sm_X9_in ini_X9 cd_X9_in hd_X9_in (by decide)) rfl _ rfl (Nat.le_of_ble_eq_true rfl) dX9_spans_152 hf (fun r1 s1 hf => ?_)
    exact g_zret C dX9_spans_155 hf
  refine g_lv (lv' := [(0, .ref (ad w 61)), (1, .int a1), (2, .int a2)]) rfl ?_
  unfold f_X9_spans at hf
  refine g_aload_n C dX9_spans_0 rfl 0 rfl ?_
  refine g_get C (R := RX9) (T := TX9) (N := 48) (k := 3) (v := .ref (ad w 63)) kd_61 (by decide) rfl (in_61 hS) hinX9 (by decide) fl_X9_13 rfl rfl dX9_spans_1 ?_
  refine g_bipush C (v := 6) dX9_spans_4 (by decide) ?_
  refine g_iload_n C dX9_spans_6 rfl 1 rfl ?_
  refine g_imul C dX9_spans_7 ?_
  refine g_iconst C (v := 2) dX9_spans_8 rfl ?_
  refine g_iadd C dX9_spans_9 ?_
  refine g_iald C kd_63 ln_63 (in_63 hS) dX9_spans_10 hf (fun hf => ?_)
  refine g_istore_nN (lv' := fun x1 => [(3, .int x1), (0, .ref (ad w 61)), (1, .int a1), (2, .int a2)]) C dX9_spans_11 rfl (by decide) (fun _ => rfl) hf (fun x1 hf => ?_)
  refine g_aload_n C dX9_spans_12 rfl 1 rfl ?_
  refine g_get C (R := RX9) (T := TX9) (N := 48) (k := 3) (v := .ref (ad w 63)) kd_61 (by decide) rfl (in_61 hS) hinX9 (by decide) fl_X9_13 rfl rfl dX9_spans_13 ?_
  refine g_bipush C (v := 6) dX9_spans_16 (by decide) ?_
  refine g_iload_n C dX9_spans_18 rfl 2 rfl ?_
  refine g_imul C dX9_spans_19 ?_
  refine g_iconst C (v := 3) dX9_spans_20 rfl ?_
  refine g_iadd C dX9_spans_21 ?_
  refine g_iald C kd_63 ln_63 (in_63 hS) dX9_spans_22 hf (fun hf => ?_)
  refine g_istoreN (lv' := fun x2 => [(4, .int x2), (3, .int x1), (0, .ref (ad w 61)), (1, .int a1), (2, .int a2)]) C dX9_spans_23 (by decide) (fun _ => rfl) hf (fun x2 hf => ?_)
  refine g_iload_n C dX9_spans_25 rfl 1 rfl ?_
  refine g_iload C dX9_spans_26 0 rfl ?_
  refine g_isub C dX9_spans_28 ?_
  refine g_istore (lv' := [(5, .int (x1 - x2)), (4, .int x2), (3, .int x1), (0, .ref (ad w 61)), (1, .int a1), (2, .int a2)]) C dX9_spans_29 (by decide) rfl ?_
  refine g_iload_n C dX9_spans_31 rfl 5 rfl ?_
  refine g_iload_n C dX9_spans_32 rfl 2 rfl ?_
  refine g_icmp_le (tgt := 38) C dX9_spans_33 (by decide) hf (fun hf => ?_) (fun hf => ?_)
  · refine g_aload_n C dX9_spans_38 rfl 3 rfl ?_
    refine g_get C (R := RX9) (T := TX9) (N := 48) (k := 3) (v := .ref (ad w 63)) kd_61 (by decide) rfl (in_61 hS) hinX9 (by decide) fl_X9_13 rfl rfl dX9_spans_39 ?_
    refine g_bipush C (v := 6) dX9_spans_42 (by decide) ?_
    refine g_iload_n C dX9_spans_44 rfl 4 rfl ?_
    refine g_imul C dX9_spans_45 ?_
    refine g_iconst C (v := 1) dX9_spans_46 rfl ?_
    refine g_iadd C dX9_spans_47 ?_
    refine g_iald C kd_63 ln_63 (in_63 hS) dX9_spans_48 hf (fun hf => ?_)
    rcases ite_some hf with ⟨e1, hf⟩ | ⟨n1, hf⟩
    · refine g_tabIn (k := 1) (tgt := 88) C dX9_spans_49 e1 (by decide) (by decide) rfl (by decide) ?_
      refine g_iload_n C dX9_spans_88 rfl 5 rfl ?_
      refine g_iload C dX9_spans_89 1 rfl ?_
      refine g_icmp_ne (tgt := 98) C dX9_spans_91 (by decide) hf (fun hf => ?_) (fun hf => ?_)
      · refine g_iconst C (v := 0) dX9_spans_98 rfl ?_
        exact g_zret (v := false) C dX9_spans_99 hf
      · refine g_iconst C (v := 1) dX9_spans_94 rfl ?_
        refine g_goto (tgt := 99) C dX9_spans_95 (by decide) ?_
        exact g_zret (v := true) C dX9_spans_99 hf
    rcases ite_some hf with ⟨e2, hf⟩ | ⟨n2, hf⟩
    · refine g_tabIn (k := 2) (tgt := 100) C dX9_spans_49 e2 (by decide) (by decide) rfl (by decide) ?_
      refine g_iload_n C dX9_spans_100 rfl 5 rfl ?_
      refine g_iload C dX9_spans_101 1 rfl ?_
      refine g_iconst C (v := 1) dX9_spans_103 rfl ?_
      refine g_isub C dX9_spans_104 ?_
      refine g_iload C dX9_spans_105 1 rfl ?_
      refine g_iconst C (v := 1) dX9_spans_107 rfl ?_
      refine g_iadd C dX9_spans_108 ?_
      refine g_callSB C [.int a2, .int (x2 - 1), .int (x2 + 1)] (fun _ _ h => c_X9_in (kl x) N w _ _ _ h) (g_cwS C hR ml_X9_93 sm_X9_in ini_X9 cd_X9_in hd_X9_in (by decide)) rfl _ rfl (Nat.le_of_ble_eq_true rfl) dX9_spans_109 hf (fun r3 s3 hf => ?_)
      exact g_zret C dX9_spans_112 hf
    rcases ite_some hf with ⟨e3, hf⟩ | ⟨n3, hf⟩
    · refine g_tabIn (k := 3) (tgt := 113) C dX9_spans_49 e3 (by decide) (by decide) rfl (by decide) ?_
      refine g_iload C dX9_spans_113 1 rfl ?_
      refine g_bipush C (v := 10) dX9_spans_115 (by decide) ?_
      refine g_iremK C dX9_spans_117 (by decide) ?_
      refine g_if_ne (tgt := 125) C dX9_spans_118 (by decide) hf (fun hf => ?_) (fun hf => ?_)
      · refine g_iload C dX9_spans_125 1 rfl ?_
        refine g_bipush C (v := 10) dX9_spans_127 (by decide) ?_
        refine g_iremK C dX9_spans_129 (by decide) ?_
        refine g_iconst C (v := 5) dX9_spans_130 rfl ?_
        refine g_icmp_ne (tgt := 138) C dX9_spans_131 (by decide) hf (fun hf => ?_) (fun hf => ?_)
        · refine g_iconst C (v := 1) dX9_spans_138 rfl ?_
          refine g_sub [5, 0] rfl ?_
          exact j139 _ _ _ _ hf
        · refine g_iconst C (v := 2) dX9_spans_134 rfl ?_
          refine g_goto (tgt := 139) C dX9_spans_135 (by decide) ?_
          refine g_sub [5, 0] rfl ?_
          exact j139 _ _ _ _ hf
      · refine g_iconst C (v := 5) dX9_spans_121 rfl ?_
        refine g_goto (tgt := 139) C dX9_spans_122 (by decide) ?_
        refine g_sub [5, 0] rfl ?_
        exact j139 _ _ _ _ hf
    rcases ite_some hf with ⟨e4, hf⟩ | ⟨n4, hf⟩
    · refine g_tabIn (k := 4) (tgt := 156) C dX9_spans_49 e4 (by decide) (by decide) rfl (by decide) ?_
      refine g_iload_n C dX9_spans_156 rfl 5 rfl ?_
      refine g_iload C dX9_spans_157 0 rfl ?_
      refine g_iconst C (v := 1) dX9_spans_159 rfl ?_
      refine g_isub C dX9_spans_160 ?_
      refine g_iload C dX9_spans_161 0 rfl ?_
      refine g_callSB C [.int a2, .int ((x1 - x2) - 1), .int (x1 - x2)] (fun _ _ h => c_X9_in (kl x) N w _ _ _ h) (g_cwS C hR ml_X9_93 sm_X9_in ini_X9 cd_X9_in hd_X9_in (by decide)) rfl _ rfl (Nat.le_of_ble_eq_true rfl) dX9_spans_163 hf (fun r4 s4 hf => ?_)
      exact g_zret C dX9_spans_166 hf
    rcases ite_some hf with ⟨e5, hf⟩ | ⟨n5, hf⟩
    · refine g_tabIn (k := 5) (tgt := 167) C dX9_spans_49 e5 (by decide) (by decide) rfl (by decide) ?_
      refine g_iload_n C dX9_spans_167 rfl 5 rfl ?_
      refine g_iload C dX9_spans_168 1 rfl ?_
      refine g_callSI C [.int a2, .int x2] (fun _ _ h => c_X9_unlike (kl x) N w _ _ h) (g_cwS C hR ml_X9_117 sm_X9_unlike ini_X9 cd_X9_unlike hd_X9_unlike (by decide)) rfl _ rfl (Nat.le_of_ble_eq_true rfl) dX9_spans_170 hf (fun r5 s5 hf => ?_)
      refine g_iconst C (v := 1) dX9_spans_173 rfl ?_
      refine g_icmp_gt (tgt := 181) C dX9_spans_174 (by decide) hf (fun hf => ?_) (fun hf => ?_)
      · refine g_iconst C (v := 0) dX9_spans_181 rfl ?_
        exact g_zret (v := false) C dX9_spans_182 hf
      · refine g_iconst C (v := 1) dX9_spans_177 rfl ?_
        refine g_goto (tgt := 182) C dX9_spans_178 (by decide) ?_
        exact g_zret (v := true) C dX9_spans_182 hf
    rcases ite_some hf with ⟨e6, hf⟩ | ⟨n6, hf⟩
    · refine g_tabIn (k := 6) (tgt := 183) C dX9_spans_49 e6 (by decide) (by decide) rfl (by decide) ?_
      refine g_iload_n C dX9_spans_183 rfl 5 rfl ?_
      refine g_iload C dX9_spans_184 0 rfl ?_
      refine g_icmp_gt (tgt := 193) C dX9_spans_186 (by decide) hf (fun hf => ?_) (fun hf => ?_)
      · refine g_iconst C (v := 0) dX9_spans_193 rfl ?_
        exact g_zret (v := false) C dX9_spans_194 hf
      · refine g_iconst C (v := 1) dX9_spans_189 rfl ?_
        refine g_goto (tgt := 194) C dX9_spans_190 (by decide) ?_
        exact g_zret (v := true) C dX9_spans_194 hf
    refine g_tabOut (tgt := 195) C dX9_spans_49 (by have z1 := lv_neT n1 (a := 1) (by decide); have z2 := lv_neT n2 (a := 2) (by decide); have z3 := lv_neT n3 (a := 3) (by decide); have z4 := lv_neT n4 (a := 4) (by decide); have z5 := lv_neT n5 (a := 5) (by decide); have z6 := lv_neT n6 (a := 6) (by decide); omega) (by decide) ?_
    refine g_iload_n C dX9_spans_195 rfl 5 rfl ?_
    refine g_iload C dX9_spans_196 1 rfl ?_
    refine g_iconst C (v := 5) dX9_spans_198 rfl ?_
    refine g_isub C dX9_spans_199 ?_
    refine g_icmp_gt (tgt := 207) C dX9_spans_200 (by decide) hf (fun hf => ?_) (fun hf => ?_)
    · refine g_iconst C (v := 0) dX9_spans_207 rfl ?_
      exact g_zret (v := false) C dX9_spans_208 hf
    · refine g_iconst C (v := 1) dX9_spans_203 rfl ?_
      refine g_goto (tgt := 208) C dX9_spans_204 (by decide) ?_
      exact g_zret (v := true) C dX9_spans_208 hf
  · refine g_iconst C (v := 0) dX9_spans_36 rfl ?_
    exact g_zret (v := false) C dX9_spans_37 hf

set_option maxHeartbeats 4000000 in
set_option maxRecDepth 100000 in
theorem c_X9_span (l : Launch) (N : Nat) (w : WX) (hS : SS w = Sm) (a1 : Int32) (a2 : Int32) {s s' : Mem} {r : Int32} (hf : f_X9_span N a1 a2 s = some (r, s')) : CI l yX9_span (wz yX9_span cX9_span 3 (some .int)) ({ frames := 2, cells := 0, slots := 0, locals := 48 } : Room) [.ref (ad w 61), .int a1, .int a2] w s r s' := by
  refine met_startI (cc := cX9_span) (ret := (some .int)) (own := RX9) (maxL := 3) (by decide) rfl (Nat.le_of_ble_eq_true rfl) (fun x C hR hl => ?_)
  have j15 : ∀ (s : Mem), f_X9_span_j15 N s = some (r, s') → G x (QI x w r s') 3 w 15 [] [] s := by
    intro s hf
    unfold f_X9_span_j15 at hf
    refine g_iconst C (v := (-1)) dX9_span_15 rfl ?_
    refine g_goto (tgt := 33) C dX9_span_16 (by decide) ?_
    exact g_iret C dX9_span_33 hf
  refine g_lv (lv' := [(0, .ref (ad w 61)), (1, .int a1), (2, .int a2)]) rfl ?_
  unfold f_X9_span at hf
  refine g_aload_n C dX9_span_0 rfl 0 rfl ?_
  refine g_iload_n C dX9_span_1 rfl 1 rfl ?_
  refine g_callVB C (R := RX9) (T := TX9) (N := 48) [.int a1] (fun _ _ h => c_X9_isPaper (kl x) N w hS _ h) (g_cwV C hR ml_X9_114 im_X9_isPaper sl_X9_isPaper ini_X9 cd_X9_isPaper hd_X9_isPaper (by decide)) kd_61 (by decide) rfl (in_61 hS) rfl _ rfl (Nat.le_of_ble_eq_true rfl) dX9_span_2 hf (fun r1 s1 hf => ?_)
  refine g_ifeqB (tgt := 15) C dX9_span_5 (by decide) hf (fun hf => ?_) (fun hf => ?_)
  · refine g_sub [] rfl ?_
    exact j15 _ hf
  · refine g_iload_n C dX9_span_8 rfl 2 rfl ?_
    refine g_callSB C [.int a2] (fun _ _ h => c_X9_isYear (kl x) N w _ h) (g_cwS C hR ml_X9_111 sm_X9_isYear ini_X9 cd_X9_isYear hd_X9_isYear (by decide)) rfl _ rfl (Nat.le_of_ble_eq_true rfl) dX9_span_9 hf (fun r2 s2 hf => ?_)
    refine g_ifneB (tgt := 19) C dX9_span_12 (by decide) hf (fun hf => ?_) (fun hf => ?_)
    · refine g_aload_n C dX9_span_19 rfl 0 rfl ?_
      refine g_iload_n C dX9_span_20 rfl 1 rfl ?_
      refine g_iload_n C dX9_span_21 rfl 2 rfl ?_
      refine g_callVB C (R := RX9) (T := TX9) (N := 48) [.int a1, .int a2] (fun _ _ h => c_X9_spans (kl x) N w hS _ _ h) (g_cwV C hR ml_X9_121 im_X9_spans sl_X9_spans ini_X9 cd_X9_spans hd_X9_spans (by decide)) kd_61 (by decide) rfl (in_61 hS) rfl _ rfl (Nat.le_of_ble_eq_true rfl) dX9_span_22 hf (fun r3 s3 hf => ?_)
      refine g_ifeqB (tgt := 32) C dX9_span_25 (by decide) hf (fun hf => ?_) (fun hf => ?_)
      · refine g_iconst C (v := 0) dX9_span_32 rfl ?_
        exact g_iret C dX9_span_33 hf
      · refine g_iconst C (v := 1) dX9_span_28 rfl ?_
        refine g_goto (tgt := 33) C dX9_span_29 (by decide) ?_
        exact g_iret C dX9_span_33 hf
    · refine g_sub [] rfl ?_
      exact j15 _ hf

set_option maxHeartbeats 4000000 in
set_option maxRecDepth 100000 in
theorem c_X9_isShelf (l : Launch) (N : Nat) (w : WX) (a0 : Int32) {s s' : Mem} {r : Bool} (hf : f_X9_isShelf N a0 s = some (r, s')) : CB l yX9_isShelf (wz yX9_isShelf cX9_isShelf 1 (some .boolean)) ({ frames := 1, cells := 0, slots := 0, locals := 22 } : Room) [.int a0] w s r s' := by
  refine met_startB (cc := cX9_isShelf) (ret := (some .boolean)) (own := RX9) (maxL := 1) (by decide) rfl (Nat.le_of_ble_eq_true rfl) (fun x C hR hl => ?_)
  refine g_lv (lv' := [(0, .int a0)]) rfl ?_
  unfold f_X9_isShelf at hf
  refine g_iload_n C dX9_isShelf_0 rfl 0 rfl ?_
  refine g_iconst C (v := 0) dX9_isShelf_1 rfl ?_
  refine g_iconst C (v := 3) dX9_isShelf_2 rfl ?_
  refine g_callSB C [.int a0, .int 0, .int 3] (fun _ _ h => c_X9_in (kl x) N w _ _ _ h) (g_cwS C hR ml_X9_93 sm_X9_in ini_X9 cd_X9_in hd_X9_in (by decide)) rfl _ rfl (Nat.le_of_ble_eq_true rfl) dX9_isShelf_3 hf (fun r1 s1 hf => ?_)
  exact g_zret C dX9_isShelf_6 hf

set_option maxHeartbeats 4000000 in
set_option maxRecDepth 100000 in
theorem c_X9_lacksSort (l : Launch) (N : Nat) (w : WX) (hS : SS w = Sm) (a1 : Int32) (a2 : Int32) {s s' : Mem} {r : Int32} (hf : f_X9_lacksSort N a1 a2 s = some (r, s')) : CI l yX9_lacksSort (wz yX9_lacksSort cX9_lacksSort 3 (some .int)) ({ frames := 0, cells := 0, slots := 0, locals := 0 } : Room) [.ref (ad w 61), .int a1, .int a2] w s r s' := by
  refine met_startI (cc := cX9_lacksSort) (ret := (some .int)) (own := RX9) (maxL := 3) (by decide) rfl (Nat.le_of_ble_eq_true rfl) (fun x C hR hl => ?_)
  refine g_lv (lv' := [(0, .ref (ad w 61)), (1, .int a1), (2, .int a2)]) rfl ?_
  unfold f_X9_lacksSort at hf
  refine g_aload_n C dX9_lacksSort_0 rfl 0 rfl ?_
  refine g_get C (R := RX9) (T := TX9) (N := 48) (k := 32) (v := .ref (ad w 79)) kd_61 (by decide) rfl (in_61 hS) hinX9 (by decide) fl_X9_61 rfl rfl dX9_lacksSort_1 ?_
  refine g_iload_n C dX9_lacksSort_4 rfl 1 rfl ?_
  refine g_iald C kd_79 ln_79 (in_79 hS) dX9_lacksSort_5 hf (fun hf => ?_)
  refine g_if_ge (tgt := 14) C dX9_lacksSort_6 (by decide) hf (fun hf => ?_) (fun hf => ?_)
  · refine g_aload_n C dX9_lacksSort_14 rfl 0 rfl ?_
    refine g_get C (R := RX9) (T := TX9) (N := 48) (k := 32) (v := .ref (ad w 79)) kd_61 (by decide) rfl (in_61 hS) hinX9 (by decide) fl_X9_61 rfl rfl dX9_lacksSort_15 ?_
    refine g_iload_n C dX9_lacksSort_18 rfl 1 rfl ?_
    refine g_iald C kd_79 ln_79 (in_79 hS) dX9_lacksSort_19 hf (fun hf => ?_)
    refine g_iload_n C dX9_lacksSort_20 rfl 2 rfl ?_
    refine g_icmp_eq (tgt := 29) C dX9_lacksSort_21 (by decide) hf (fun hf => ?_) (fun hf => ?_)
    · refine g_iconst C (v := 0) dX9_lacksSort_29 rfl ?_
      exact g_iret C dX9_lacksSort_30 hf
    · refine g_bipush C (v := (-13)) dX9_lacksSort_24 (by decide) ?_
      refine g_goto (tgt := 30) C dX9_lacksSort_26 (by decide) ?_
      exact g_iret C dX9_lacksSort_30 hf
  · refine g_bipush C (v := (-11)) dX9_lacksSort_9 (by decide) ?_
    refine g_goto (tgt := 30) C dX9_lacksSort_11 (by decide) ?_
    exact g_iret C dX9_lacksSort_30 hf

set_option maxHeartbeats 4000000 in
set_option maxRecDepth 100000 in
theorem c_X9_life (l : Launch) (N : Nat) (w : WX) (hS : SS w = Sm) (a1 : Int32) {s s' : Mem} {r : Int32} (hf : f_X9_life N a1 s = some (r, s')) : CI l yX9_life (wz yX9_life cX9_life 5 (some .int)) ({ frames := 2, cells := 0, slots := 0, locals := 42 } : Room) [.ref (ad w 61), .int a1] w s r s' := by
  refine met_startI (cc := cX9_life) (ret := (some .int)) (own := RX9) (maxL := 5) (by decide) rfl (Nat.le_of_ble_eq_true rfl) (fun x C hR hl => ?_)
  have j111 : ∀ (n : Nat), ∀ (v1 : Int32) (v4 : Int32) (s : Mem), f_X9_life_L111 N n v1 v4 s = some (r, s') → G x (QI x w r s') 5 w 111 [(0, .ref (ad w 61)), (1, .int v1), (4, .int v4)] [] s := by
    intro n
    induction n with
    | zero => intro v1 v4 s hf; cases hf
    | succ n ih =>
      intro v1 v4 s hf
      unfold f_X9_life_L111 at hf
      refine g_iload C dX9_life_111 2 rfl ?_
      refine g_bipush C (v := 17) dX9_life_113 (by decide) ?_
      refine g_icmp_ge (tgt := 144) C dX9_life_115 (by decide) hf (fun hf => ?_) (fun hf => ?_)
      · refine g_iconst C (v := 1) dX9_life_144 rfl ?_
        exact g_iret C dX9_life_145 hf
      · refine g_aload_n C dX9_life_118 rfl 0 rfl ?_
        refine g_get C (R := RX9) (T := TX9) (N := 48) (k := 4) (v := .ref (ad w 64)) kd_61 (by decide) rfl (in_61 hS) hinX9 (by decide) fl_X9_16 rfl rfl dX9_life_119 ?_
        refine g_iload C dX9_life_122 2 rfl ?_
        refine g_aload_n C dX9_life_124 rfl 0 rfl ?_
        refine g_get C (R := RX9) (T := TX9) (N := 48) (k := 34) (v := .ref (ad w 81)) kd_61 (by decide) rfl (in_61 hS) hinX9 (by decide) fl_X9_67 rfl rfl dX9_life_125 ?_
        refine g_bipush C (v := 40) dX9_life_128 (by decide) ?_
        refine g_iload_n C dX9_life_130 rfl 1 rfl ?_
        refine g_imul C dX9_life_131 ?_
        refine g_iload C dX9_life_132 2 rfl ?_
        refine g_iadd C dX9_life_134 ?_
        refine g_lald C kd_81 ln_81 (in_81 hS) dX9_life_135 hf (fun hf => ?_)
        refine g_l2i C dX9_life_136 ?_
        refine g_iast C kd_64 ln_64 (in_64 hS) dX9_life_137 hf (fun hf => ?_)
        refine g_nameS hf (fun s1 hf => ?_)
        refine g_iinc (v' := v4 + 1) (lv' := [(4, .int (v4 + 1)), (0, .ref (ad w 61)), (1, .int v1)]) C dX9_life_138 2 rfl rfl (by decide) rfl ?_
        refine g_goto (tgt := 111) C dX9_life_141 (by decide) ?_
        refine g_sub [1, 2, 0] rfl ?_
        exact ih _ _ _ hf
  have j101 : ∀ (v1 : Int32) (v3 : Bool) (s : Mem), f_X9_life_j101 N v1 v3 s = some (r, s') → G x (QI x w r s') 5 w 101 [(0, .ref (ad w 61)), (1, .int v1), (3, .int (bI v3))] [] s := by
    intro v1 v3 s hf
    unfold f_X9_life_j101 at hf
    refine g_iload_n C dX9_life_101 rfl 2 rfl ?_
    refine g_ifneB (tgt := 108) C dX9_life_102 (by decide) hf (fun hf => ?_) (fun hf => ?_)
    · refine g_iconst C (v := 0) dX9_life_108 rfl ?_
      refine g_istore (lv' := [(4, .int 0), (0, .ref (ad w 61)), (1, .int v1), (3, .int (bI v3))]) C dX9_life_109 (by decide) rfl ?_
      refine g_sub [1, 2, 0] rfl ?_
      exact j111 N _ _ _ hf
    · refine g_bipush C (v := (-4)) dX9_life_105 (by decide) ?_
      exact g_iret C dX9_life_107 hf
  have j94 : ∀ (k42 : Int32 → Bool → Int32 → Mem → Option (Int32 × Mem)) (k101 : Int32 → Bool → Mem → Option (Int32 × Mem)), (∀ (v1 : Int32) (v3 : Bool) (v4 : Int32) (s : Mem), k42 v1 v3 v4 s = some (r, s') → G x (QI x w r s') 5 w 42 [(0, .ref (ad w 61)), (1, .int v1), (3, .int (bI v3)), (4, .int v4)] [] s) → (∀ (v1 : Int32) (v3 : Bool) (s : Mem), k101 v1 v3 s = some (r, s') → G x (QI x w r s') 5 w 101 [(0, .ref (ad w 61)), (1, .int v1), (3, .int (bI v3))] [] s) → ∀ (v1 : Int32) (v4 : Int32) (p0 : Bool) (s : Mem), f_X9_life_j94 N k42 k101 v1 v4 p0 s = some (r, s') → G x (QI x w r s') 5 w 94 [(0, .ref (ad w 61)), (1, .int v1), (4, .int v4)] [.int (bI p0)] s := by
    intro k42 k101 q42 q101 v1 v4 p0 s hf
    unfold f_X9_life_j94 at hf
    refine g_istore_n (lv' := [(3, .int (bI p0)), (0, .ref (ad w 61)), (1, .int v1), (4, .int v4)]) C dX9_life_94 rfl (by decide) rfl ?_
    refine g_iinc (v' := v4 + 1) (lv' := [(4, .int (v4 + 1)), (3, .int (bI p0)), (0, .ref (ad w 61)), (1, .int v1)]) C dX9_life_95 3 rfl rfl (by decide) rfl ?_
    refine g_goto (tgt := 42) C dX9_life_98 (by decide) ?_
    refine g_sub [2, 3, 1, 0] rfl ?_
    exact q42 _ _ _ _ hf
  have j93 : ∀ (k42 : Int32 → Bool → Int32 → Mem → Option (Int32 × Mem)) (k101 : Int32 → Bool → Mem → Option (Int32 × Mem)), (∀ (v1 : Int32) (v3 : Bool) (v4 : Int32) (s : Mem), k42 v1 v3 v4 s = some (r, s') → G x (QI x w r s') 5 w 42 [(0, .ref (ad w 61)), (1, .int v1), (3, .int (bI v3)), (4, .int v4)] [] s) → (∀ (v1 : Int32) (v3 : Bool) (s : Mem), k101 v1 v3 s = some (r, s') → G x (QI x w r s') 5 w 101 [(0, .ref (ad w 61)), (1, .int v1), (3, .int (bI v3))] [] s) → ∀ (v1 : Int32) (v4 : Int32) (s : Mem), f_X9_life_j93 N k42 k101 v1 v4 s = some (r, s') → G x (QI x w r s') 5 w 93 [(0, .ref (ad w 61)), (1, .int v1), (4, .int v4)] [] s := by
    intro k42 k101 q42 q101 v1 v4 s hf
    unfold f_X9_life_j93 at hf
    refine g_iconst C (v := 0) dX9_life_93 rfl ?_
    exact j94 k42 k101 q42 q101 _ _ _ _ hf
  have j42 : ∀ (k101 : Int32 → Bool → Mem → Option (Int32 × Mem)), (∀ (v1 : Int32) (v3 : Bool) (s : Mem), k101 v1 v3 s = some (r, s') → G x (QI x w r s') 5 w 101 [(0, .ref (ad w 61)), (1, .int v1), (3, .int (bI v3))] [] s) → ∀ (n : Nat), ∀ (v1 : Int32) (v3 : Bool) (v4 : Int32) (s : Mem), f_X9_life_L42 N k101 n v1 v3 v4 s = some (r, s') → G x (QI x w r s') 5 w 42 [(0, .ref (ad w 61)), (1, .int v1), (3, .int (bI v3)), (4, .int v4)] [] s := by
    intro k101 q101 n
    induction n with
    | zero => intro v1 v3 v4 s hf; cases hf
    | succ n ih =>
      intro v1 v3 v4 s hf
      unfold f_X9_life_L42 at hf
      refine g_iload C dX9_life_42 3 rfl ?_
      refine g_bipush C (v := 17) dX9_life_44 (by decide) ?_
      refine g_icmp_ge (tgt := 101) C dX9_life_46 (by decide) hf (fun hf => ?_) (fun hf => ?_)
      · refine g_sub [0, 1, 2] rfl ?_
        exact q101 _ _ _ hf
      · refine g_iload_n C dX9_life_49 rfl 2 rfl ?_
        refine g_ifeqB (tgt := 93) C dX9_life_50 (by decide) hf (fun hf => ?_) (fun hf => ?_)
        · refine g_sub [0, 1, 3] rfl ?_
          exact j93 (f_X9_life_L42 N k101 n) k101 ih q101 _ _ _ hf
        · refine g_aload_n C dX9_life_53 rfl 0 rfl ?_
          refine g_get C (R := RX9) (T := TX9) (N := 48) (k := 34) (v := .ref (ad w 81)) kd_61 (by decide) rfl (in_61 hS) hinX9 (by decide) fl_X9_67 rfl rfl dX9_life_54 ?_
          refine g_bipush C (v := 40) dX9_life_57 (by decide) ?_
          refine g_iload_n C dX9_life_59 rfl 1 rfl ?_
          refine g_imul C dX9_life_60 ?_
          refine g_iload C dX9_life_61 3 rfl ?_
          refine g_iadd C dX9_life_63 ?_
          refine g_lald C kd_81 ln_81 (in_81 hS) dX9_life_64 hf (fun hf => ?_)
          refine g_lconst C (v := 0) dX9_life_65 rfl ?_
          refine g_lcmp_lt (tgt := 93) C dX9_life_66 dX9_life_67 (by decide) hf (fun hf => ?_) (fun hf => ?_)
          · refine g_sub [0, 1, 3] rfl ?_
            exact j93 (f_X9_life_L42 N k101 n) k101 ih q101 _ _ _ hf
          · refine g_aload_n C dX9_life_70 rfl 0 rfl ?_
            refine g_get C (R := RX9) (T := TX9) (N := 48) (k := 34) (v := .ref (ad w 81)) kd_61 (by decide) rfl (in_61 hS) hinX9 (by decide) fl_X9_67 rfl rfl dX9_life_71 ?_
            refine g_bipush C (v := 40) dX9_life_74 (by decide) ?_
            refine g_iload_n C dX9_life_76 rfl 1 rfl ?_
            refine g_imul C dX9_life_77 ?_
            refine g_iload C dX9_life_78 3 rfl ?_
            refine g_iadd C dX9_life_80 ?_
            refine g_lald C kd_81 ln_81 (in_81 hS) dX9_life_81 hf (fun hf => ?_)
            refine g_ldc2 C (v := 100) dX9_life_82 kL_X9_131 ?_
            refine g_lcmp_gt (tgt := 93) C dX9_life_85 dX9_life_86 (by decide) hf (fun hf => ?_) (fun hf => ?_)
            · refine g_sub [0, 1, 3] rfl ?_
              exact j93 (f_X9_life_L42 N k101 n) k101 ih q101 _ _ _ hf
            · refine g_iconst C (v := 1) dX9_life_89 rfl ?_
              refine g_goto (tgt := 94) C dX9_life_90 (by decide) ?_
              refine g_sub [0, 1, 3] rfl ?_
              exact j94 (f_X9_life_L42 N k101 n) k101 ih q101 _ _ _ _ hf
  have j38 : ∀ (v1 : Int32) (p0 : Bool) (s : Mem), f_X9_life_j38 N v1 p0 s = some (r, s') → G x (QI x w r s') 5 w 38 [(0, .ref (ad w 61)), (1, .int v1)] [.int (bI p0)] s := by
    intro v1 p0 s hf
    unfold f_X9_life_j38 at hf
    refine g_istore_n (lv' := [(3, .int (bI p0)), (0, .ref (ad w 61)), (1, .int v1)]) C dX9_life_38 rfl (by decide) rfl ?_
    refine g_iconst C (v := 0) dX9_life_39 rfl ?_
    refine g_istore (lv' := [(4, .int 0), (3, .int (bI p0)), (0, .ref (ad w 61)), (1, .int v1)]) C dX9_life_40 (by decide) rfl ?_
    refine g_sub [2, 3, 1, 0] rfl ?_
    exact j42 (f_X9_life_j101 N) j101 N _ _ _ _ hf
  refine g_lv (lv' := [(0, .ref (ad w 61)), (1, .int a1)]) rfl ?_
  unfold f_X9_life at hf
  refine g_iload_n C dX9_life_0 rfl 1 rfl ?_
  refine g_callSB C [.int a1] (fun _ _ h => c_X9_isShelf (kl x) N w _ h) (g_cwS C hR ml_X9_125 sm_X9_isShelf ini_X9 cd_X9_isShelf hd_X9_isShelf (by decide)) rfl _ rfl (Nat.le_of_ble_eq_true rfl) dX9_life_1 hf (fun r1 s1 hf => ?_)
  refine g_ifneB (tgt := 9) C dX9_life_4 (by decide) hf (fun hf => ?_) (fun hf => ?_)
  · refine g_aload_n C dX9_life_9 rfl 0 rfl ?_
    refine g_iload_n C dX9_life_10 rfl 1 rfl ?_
    refine g_iconst C (v := 1) dX9_life_11 rfl ?_
    refine g_callVI C (R := RX9) (T := TX9) (N := 48) [.int a1, .int 1] (fun _ _ h => c_X9_lacksSort (kl x) N w hS _ _ h) (g_cwV C hR ml_X9_128 im_X9_lacksSort sl_X9_lacksSort ini_X9 cd_X9_lacksSort hd_X9_lacksSort (by decide)) kd_61 (by decide) rfl (in_61 hS) rfl _ rfl (Nat.le_of_ble_eq_true rfl) dX9_life_12 hf (fun r2 s2 hf => ?_)
    refine g_istore_n (lv' := [(2, .int r2), (0, .ref (ad w 61)), (1, .int a1)]) C dX9_life_15 rfl (by decide) rfl ?_
    refine g_iload_n C dX9_life_16 rfl 0 rfl ?_
    refine g_if_eq (tgt := 22) C dX9_life_17 (by decide) hf (fun hf => ?_) (fun hf => ?_)
    · refine g_aload_n C dX9_life_22 rfl 1 rfl ?_
      refine g_get C (R := RX9) (T := TX9) (N := 48) (k := 33) (v := .ref (ad w 80)) kd_61 (by decide) rfl (in_61 hS) hinX9 (by decide) fl_X9_64 rfl rfl dX9_life_23 ?_
      refine g_iload_n C dX9_life_26 rfl 2 rfl ?_
      refine g_iald C kd_80 ln_80 (in_80 hS) dX9_life_27 hf (fun hf => ?_)
      refine g_bipush C (v := 17) dX9_life_28 (by decide) ?_
      refine g_icmp_ne (tgt := 37) C dX9_life_30 (by decide) hf (fun hf => ?_) (fun hf => ?_)
      · refine g_iconst C (v := 0) dX9_life_37 rfl ?_
        refine g_sub [1, 2] rfl ?_
        exact j38 _ _ _ hf
      · refine g_iconst C (v := 1) dX9_life_33 rfl ?_
        refine g_goto (tgt := 38) C dX9_life_34 (by decide) ?_
        refine g_sub [1, 2] rfl ?_
        exact j38 _ _ _ hf
    · refine g_iload_n C dX9_life_20 rfl 0 rfl ?_
      exact g_iret C dX9_life_21 hf
  · refine g_iconst C (v := (-1)) dX9_life_7 rfl ?_
    exact g_iret C dX9_life_8 hf

set_option maxHeartbeats 4000000 in
set_option maxRecDepth 100000 in
theorem c_X9_isLeftOut (l : Launch) (N : Nat) (w : WX) (hS : SS w = Sm) (a1 : Int32) (a2 : Int32) {s s' : Mem} {r : Bool} (hf : f_X9_isLeftOut N a1 a2 s = some (r, s')) : CB l yX9_isLeftOut (wz yX9_isLeftOut cX9_isLeftOut 6 (some .boolean)) ({ frames := 0, cells := 0, slots := 0, locals := 0 } : Room) [.ref (ad w 61), .int a1, .int a2] w s r s' := by
  refine met_startB (cc := cX9_isLeftOut) (ret := (some .boolean)) (own := RX9) (maxL := 6) (by decide) rfl (Nat.le_of_ble_eq_true rfl) (fun x C hR hl => ?_)
  have j95 : ∀ (k5 : Int32 → Int32 → Bool → Int32 → Mem → Option (Bool × Mem)), (∀ (v1 : Int32) (v2 : Int32) (v3 : Bool) (v4 : Int32) (s : Mem), k5 v1 v2 v3 v4 s = some (r, s') → G x (QB x w r s') 6 w 5 [(0, .ref (ad w 61)), (1, .int v1), (2, .int v2), (3, .int (bI v3)), (4, .int v4)] [] s) → ∀ (v1 : Int32) (v2 : Int32) (v4 : Int32) (p0 : Bool) (s : Mem), f_X9_isLeftOut_j95 N k5 v1 v2 v4 p0 s = some (r, s') → G x (QB x w r s') 6 w 95 [(0, .ref (ad w 61)), (1, .int v1), (2, .int v2), (4, .int v4)] [.int (bI p0)] s := by
    intro k5 q5 v1 v2 v4 p0 s hf
    unfold f_X9_isLeftOut_j95 at hf
    refine g_istore_n (lv' := [(3, .int (bI p0)), (0, .ref (ad w 61)), (1, .int v1), (2, .int v2), (4, .int v4)]) C dX9_isLeftOut_95 rfl (by decide) rfl ?_
    refine g_iinc (v' := v4 + 1) (lv' := [(4, .int (v4 + 1)), (3, .int (bI p0)), (0, .ref (ad w 61)), (1, .int v1), (2, .int v2)]) C dX9_isLeftOut_96 4 rfl rfl (by decide) rfl ?_
    refine g_goto (tgt := 5) C dX9_isLeftOut_99 (by decide) ?_
    refine g_sub [2, 3, 4, 1, 0] rfl ?_
    exact q5 _ _ _ _ _ hf
  have j90 : ∀ (k5 : Int32 → Int32 → Bool → Int32 → Mem → Option (Bool × Mem)), (∀ (v1 : Int32) (v2 : Int32) (v3 : Bool) (v4 : Int32) (s : Mem), k5 v1 v2 v3 v4 s = some (r, s') → G x (QB x w r s') 6 w 5 [(0, .ref (ad w 61)), (1, .int v1), (2, .int v2), (3, .int (bI v3)), (4, .int v4)] [] s) → ∀ (v1 : Int32) (v2 : Int32) (v4 : Int32) (s : Mem), f_X9_isLeftOut_j90 N k5 v1 v2 v4 s = some (r, s') → G x (QB x w r s') 6 w 90 [(0, .ref (ad w 61)), (1, .int v1), (2, .int v2), (4, .int v4)] [] s := by
    intro k5 q5 v1 v2 v4 s hf
    unfold f_X9_isLeftOut_j90 at hf
    refine g_iconst C (v := 1) dX9_isLeftOut_90 rfl ?_
    refine g_goto (tgt := 95) C dX9_isLeftOut_91 (by decide) ?_
    exact j95 k5 q5 _ _ _ _ _ hf
  have j94 : ∀ (k5 : Int32 → Int32 → Bool → Int32 → Mem → Option (Bool × Mem)), (∀ (v1 : Int32) (v2 : Int32) (v3 : Bool) (v4 : Int32) (s : Mem), k5 v1 v2 v3 v4 s = some (r, s') → G x (QB x w r s') 6 w 5 [(0, .ref (ad w 61)), (1, .int v1), (2, .int v2), (3, .int (bI v3)), (4, .int v4)] [] s) → ∀ (v1 : Int32) (v2 : Int32) (v4 : Int32) (s : Mem), f_X9_isLeftOut_j94 N k5 v1 v2 v4 s = some (r, s') → G x (QB x w r s') 6 w 94 [(0, .ref (ad w 61)), (1, .int v1), (2, .int v2), (4, .int v4)] [] s := by
    intro k5 q5 v1 v2 v4 s hf
    unfold f_X9_isLeftOut_j94 at hf
    refine g_iconst C (v := 0) dX9_isLeftOut_94 rfl ?_
    exact j95 k5 q5 _ _ _ _ _ hf
  have j69 : ∀ (k5 : Int32 → Int32 → Bool → Int32 → Mem → Option (Bool × Mem)), (∀ (v1 : Int32) (v2 : Int32) (v3 : Bool) (v4 : Int32) (s : Mem), k5 v1 v2 v3 v4 s = some (r, s') → G x (QB x w r s') 6 w 5 [(0, .ref (ad w 61)), (1, .int v1), (2, .int v2), (3, .int (bI v3)), (4, .int v4)] [] s) → ∀ (v1 : Int32) (v2 : Int32) (v4 : Int32) (v5 : Int32) (s : Mem), f_X9_isLeftOut_j69 N k5 v1 v2 v4 v5 s = some (r, s') → G x (QB x w r s') 6 w 69 [(0, .ref (ad w 61)), (1, .int v1), (2, .int v2), (4, .int v4), (5, .int v5)] [] s := by
    intro k5 q5 v1 v2 v4 v5 s hf
    unfold f_X9_isLeftOut_j69 at hf
    refine g_iload C dX9_isLeftOut_69 4 rfl ?_
    refine g_iconst C (v := 2) dX9_isLeftOut_71 rfl ?_
    refine g_icmp_ne (tgt := 94) C dX9_isLeftOut_72 (by decide) hf (fun hf => ?_) (fun hf => ?_)
    · refine g_sub [0, 1, 2, 3] rfl ?_
      exact j94 k5 q5 _ _ _ _ hf
    · refine g_iload_n C dX9_isLeftOut_75 rfl 2 rfl ?_
      refine g_aload_n C dX9_isLeftOut_76 rfl 0 rfl ?_
      refine g_get C (R := RX9) (T := TX9) (N := 48) (k := 10) (v := .ref (ad w 67)) kd_61 (by decide) rfl (in_61 hS) hinX9 (by decide) fl_X9_25 rfl rfl dX9_isLeftOut_77 ?_
      refine g_iconst C (v := 4) dX9_isLeftOut_80 rfl ?_
      refine g_iload C dX9_isLeftOut_81 3 rfl ?_
      refine g_imul C dX9_isLeftOut_83 ?_
      refine g_iconst C (v := 1) dX9_isLeftOut_84 rfl ?_
      refine g_iadd C dX9_isLeftOut_85 ?_
      refine g_iald C kd_67 ln_67 (in_67 hS) dX9_isLeftOut_86 hf (fun hf => ?_)
      refine g_icmp_gt (tgt := 94) C dX9_isLeftOut_87 (by decide) hf (fun hf => ?_) (fun hf => ?_)
      · refine g_sub [0, 1, 2, 3] rfl ?_
        exact j94 k5 q5 _ _ _ _ hf
      · refine g_sub [0, 1, 2, 3] rfl ?_
        exact j90 k5 q5 _ _ _ _ hf
  have j42 : ∀ (k5 : Int32 → Int32 → Bool → Int32 → Mem → Option (Bool × Mem)), (∀ (v1 : Int32) (v2 : Int32) (v3 : Bool) (v4 : Int32) (s : Mem), k5 v1 v2 v3 v4 s = some (r, s') → G x (QB x w r s') 6 w 5 [(0, .ref (ad w 61)), (1, .int v1), (2, .int v2), (3, .int (bI v3)), (4, .int v4)] [] s) → ∀ (v1 : Int32) (v2 : Int32) (v3 : Bool) (v4 : Int32) (p0 : Int32) (s : Mem), f_X9_isLeftOut_j42 N k5 v1 v2 v3 v4 p0 s = some (r, s') → G x (QB x w r s') 6 w 42 [(0, .ref (ad w 61)), (1, .int v1), (2, .int v2), (3, .int (bI v3)), (4, .int v4)] [.int p0] s := by
    intro k5 q5 v1 v2 v3 v4 p0 s hf
    unfold f_X9_isLeftOut_j42 at hf
    refine g_istore (lv' := [(5, .int p0), (0, .ref (ad w 61)), (1, .int v1), (2, .int v2), (3, .int (bI v3)), (4, .int v4)]) C dX9_isLeftOut_42 (by decide) rfl ?_
    refine g_iload_n C dX9_isLeftOut_44 rfl 4 rfl ?_
    refine g_ifneB (tgt := 90) C dX9_isLeftOut_45 (by decide) hf (fun hf => ?_) (fun hf => ?_)
    · refine g_sub [1, 2, 3, 5] rfl ?_
      exact j90 k5 q5 _ _ _ _ hf
    · refine g_iload C dX9_isLeftOut_48 0 rfl ?_
      refine g_iconst C (v := 1) dX9_isLeftOut_50 rfl ?_
      refine g_icmp_ne (tgt := 69) C dX9_isLeftOut_51 (by decide) hf (fun hf => ?_) (fun hf => ?_)
      · refine g_sub [1, 2, 3, 5, 0] rfl ?_
        exact j69 k5 q5 _ _ _ _ _ hf
      · refine g_iload_n C dX9_isLeftOut_54 rfl 3 rfl ?_
        refine g_aload_n C dX9_isLeftOut_55 rfl 1 rfl ?_
        refine g_get C (R := RX9) (T := TX9) (N := 48) (k := 10) (v := .ref (ad w 67)) kd_61 (by decide) rfl (in_61 hS) hinX9 (by decide) fl_X9_25 rfl rfl dX9_isLeftOut_56 ?_
        refine g_iconst C (v := 4) dX9_isLeftOut_59 rfl ?_
        refine g_iload C dX9_isLeftOut_60 5 rfl ?_
        refine g_imul C dX9_isLeftOut_62 ?_
        refine g_iconst C (v := 1) dX9_isLeftOut_63 rfl ?_
        refine g_iadd C dX9_isLeftOut_64 ?_
        refine g_iald C kd_67 ln_67 (in_67 hS) dX9_isLeftOut_65 hf (fun hf => ?_)
        refine g_icmp_gt (tgt := 90) C dX9_isLeftOut_66 (by decide) hf (fun hf => ?_) (fun hf => ?_)
        · refine g_sub [1, 2, 3, 5] rfl ?_
          exact j90 k5 q5 _ _ _ _ hf
        · refine g_sub [1, 2, 3, 5, 0] rfl ?_
          exact j69 k5 q5 _ _ _ _ _ hf
  have j5 : ∀ (n : Nat), ∀ (v1 : Int32) (v2 : Int32) (v3 : Bool) (v4 : Int32) (s : Mem), f_X9_isLeftOut_L5 N n v1 v2 v3 v4 s = some (r, s') → G x (QB x w r s') 6 w 5 [(0, .ref (ad w 61)), (1, .int v1), (2, .int v2), (3, .int (bI v3)), (4, .int v4)] [] s := by
    intro n
    induction n with
    | zero => intro v1 v2 v3 v4 s hf; cases hf
    | succ n ih =>
      intro v1 v2 v3 v4 s hf
      unfold f_X9_isLeftOut_L5 at hf
      refine g_iload C dX9_isLeftOut_5 4 rfl ?_
      refine g_aload_n C dX9_isLeftOut_7 rfl 0 rfl ?_
      refine g_get C (R := RX9) (T := TX9) (N := 48) (k := 9) (v := .int (rI s 61 9)) kd_61 (by decide) rfl (in_61 hS) hinX9 (by decide) fl_X9_133 rfl rfl dX9_isLeftOut_8 ?_
      refine g_icmp_ge (tgt := 102) C dX9_isLeftOut_11 (by decide) hf (fun hf => ?_) (fun hf => ?_)
      · refine g_iload_n C dX9_isLeftOut_102 rfl 3 rfl ?_
        exact g_zret C dX9_isLeftOut_103 hf
      · refine g_aload_n C dX9_isLeftOut_14 rfl 0 rfl ?_
        refine g_get C (R := RX9) (T := TX9) (N := 48) (k := 10) (v := .ref (ad w 67)) kd_61 (by decide) rfl (in_61 hS) hinX9 (by decide) fl_X9_25 rfl rfl dX9_isLeftOut_15 ?_
        refine g_iconst C (v := 4) dX9_isLeftOut_18 rfl ?_
        refine g_iload C dX9_isLeftOut_19 4 rfl ?_
        refine g_imul C dX9_isLeftOut_21 ?_
        refine g_iald C kd_67 ln_67 (in_67 hS) dX9_isLeftOut_22 hf (fun hf => ?_)
        refine g_iload_n C dX9_isLeftOut_23 rfl 1 rfl ?_
        refine g_icmp_ne (tgt := 41) C dX9_isLeftOut_24 (by decide) hf (fun hf => ?_) (fun hf => ?_)
        · refine g_iconst C (v := 0) dX9_isLeftOut_41 rfl ?_
          exact j42 (f_X9_isLeftOut_L5 N n) ih _ _ _ _ _ _ hf
        · refine g_aload_n C dX9_isLeftOut_27 rfl 0 rfl ?_
          refine g_get C (R := RX9) (T := TX9) (N := 48) (k := 10) (v := .ref (ad w 67)) kd_61 (by decide) rfl (in_61 hS) hinX9 (by decide) fl_X9_25 rfl rfl dX9_isLeftOut_28 ?_
          refine g_iconst C (v := 4) dX9_isLeftOut_31 rfl ?_
          refine g_iload C dX9_isLeftOut_32 4 rfl ?_
          refine g_imul C dX9_isLeftOut_34 ?_
          refine g_iconst C (v := 3) dX9_isLeftOut_35 rfl ?_
          refine g_iadd C dX9_isLeftOut_36 ?_
          refine g_iald C kd_67 ln_67 (in_67 hS) dX9_isLeftOut_37 hf (fun hf => ?_)
          refine g_goto (tgt := 42) C dX9_isLeftOut_38 (by decide) ?_
          exact j42 (f_X9_isLeftOut_L5 N n) ih _ _ _ _ _ _ hf
  refine g_lv (lv' := [(0, .ref (ad w 61)), (1, .int a1), (2, .int a2)]) rfl ?_
  unfold f_X9_isLeftOut at hf
  refine g_iconst C (v := 0) dX9_isLeftOut_0 rfl ?_
  refine g_istore_n (lv' := [(3, .int 0), (0, .ref (ad w 61)), (1, .int a1), (2, .int a2)]) C dX9_isLeftOut_1 rfl (by decide) rfl ?_
  refine g_iconst C (v := 0) dX9_isLeftOut_2 rfl ?_
  refine g_istore (lv' := [(4, .int 0), (3, .int 0), (0, .ref (ad w 61)), (1, .int a1), (2, .int a2)]) C dX9_isLeftOut_3 (by decide) rfl ?_
  refine g_sub [2, 3, 4, 1, 0] rfl ?_
  exact j5 N _ _ _ _ _ hf

set_option maxHeartbeats 4000000 in
set_option maxRecDepth 100000 in
theorem c_X9_weightOf (l : Launch) (N : Nat) (w : WX) (hS : SS w = Sm) (a1 : Int32) (a2 : Int32) {s s' : Mem} {r : Int64} (hf : f_X9_weightOf N a1 a2 s = some (r, s')) : CL l yX9_weightOf (wz yX9_weightOf cX9_weightOf 7 (some .long)) ({ frames := 2, cells := 0, slots := 0, locals := 48 } : Room) [.ref (ad w 61), .int a1, .int a2] w s r s' := by
  refine met_startL (cc := cX9_weightOf) (ret := (some .long)) (own := RX9) (maxL := 7) (by decide) rfl (Nat.le_of_ble_eq_true rfl) (fun x C hR hl => ?_)
  have j109 : ∀ (k39 : Int32 → Int32 → Int64 → Int32 → Mem → Option (Int64 × Mem)), (∀ (v1 : Int32) (v2 : Int32) (v4 : Int64) (v6 : Int32) (s : Mem), k39 v1 v2 v4 v6 s = some (r, s') → G x (QL x w r s') 7 w 39 [(0, .ref (ad w 61)), (1, .int v1), (2, .int v2), (4, .long v4), (6, .int v6)] [] s) → ∀ (v1 : Int32) (v2 : Int32) (v4 : Int64) (v6 : Int32) (s : Mem), f_X9_weightOf_j109 N k39 v1 v2 v4 v6 s = some (r, s') → G x (QL x w r s') 7 w 109 [(0, .ref (ad w 61)), (1, .int v1), (2, .int v2), (4, .long v4), (6, .int v6)] [] s := by
    intro k39 q39 v1 v2 v4 v6 s hf
    unfold f_X9_weightOf_j109 at hf
    refine g_iinc (v' := v6 + 1) (lv' := [(6, .int (v6 + 1)), (0, .ref (ad w 61)), (1, .int v1), (2, .int v2), (4, .long v4)]) C dX9_weightOf_109 4 rfl rfl (by decide) rfl ?_
    refine g_goto (tgt := 39) C dX9_weightOf_112 (by decide) ?_
    refine g_sub [1, 2, 3, 4, 0] rfl ?_
    exact q39 _ _ _ _ _ hf
  have j106 : ∀ (k39 : Int32 → Int32 → Int64 → Int32 → Mem → Option (Int64 × Mem)), (∀ (v1 : Int32) (v2 : Int32) (v4 : Int64) (v6 : Int32) (s : Mem), k39 v1 v2 v4 v6 s = some (r, s') → G x (QL x w r s') 7 w 39 [(0, .ref (ad w 61)), (1, .int v1), (2, .int v2), (4, .long v4), (6, .int v6)] [] s) → ∀ (v1 : Int32) (v2 : Int32) (v6 : Int32) (p0 : Int64) (p1 : Int64) (s : Mem), f_X9_weightOf_j106 N k39 v1 v2 v6 p0 p1 s = some (r, s') → G x (QL x w r s') 7 w 106 [(0, .ref (ad w 61)), (1, .int v1), (2, .int v2), (6, .int v6)] [.long p0, .long p1] s := by
    intro k39 q39 v1 v2 v6 p0 p1 s hf
    unfold f_X9_weightOf_j106 at hf
    refine g_lmul C dX9_weightOf_106 ?_
    refine g_lstore (lv' := [(4, .long (p1 * p0)), (0, .ref (ad w 61)), (1, .int v1), (2, .int v2), (6, .int v6)]) C dX9_weightOf_107 (by decide) rfl ?_
    refine g_sub [1, 2, 3, 0, 4] rfl ?_
    exact j109 k39 q39 _ _ _ _ _ hf
  have j39 : ∀ (n : Nat), ∀ (v1 : Int32) (v2 : Int32) (v4 : Int64) (v6 : Int32) (s : Mem), f_X9_weightOf_L39 N n v1 v2 v4 v6 s = some (r, s') → G x (QL x w r s') 7 w 39 [(0, .ref (ad w 61)), (1, .int v1), (2, .int v2), (4, .long v4), (6, .int v6)] [] s := by
    intro n
    induction n with
    | zero => intro v1 v2 v4 v6 s hf; cases hf
    | succ n ih =>
      intro v1 v2 v4 v6 s hf
      unfold f_X9_weightOf_L39 at hf
      refine g_iload C dX9_weightOf_39 4 rfl ?_
      refine g_aload_n C dX9_weightOf_41 rfl 0 rfl ?_
      refine g_get C (R := RX9) (T := TX9) (N := 48) (k := 2) (v := .int (rI s 61 2)) kd_61 (by decide) rfl (in_61 hS) hinX9 (by decide) fl_X9_97 rfl rfl dX9_weightOf_42 ?_
      refine g_icmp_ge (tgt := 115) C dX9_weightOf_45 (by decide) hf (fun hf => ?_) (fun hf => ?_)
      · refine g_lload C dX9_weightOf_115 3 rfl ?_
        exact g_lret C dX9_weightOf_117 hf
      · refine g_aload_n C dX9_weightOf_48 rfl 0 rfl ?_
        refine g_get C (R := RX9) (T := TX9) (N := 48) (k := 3) (v := .ref (ad w 63)) kd_61 (by decide) rfl (in_61 hS) hinX9 (by decide) fl_X9_13 rfl rfl dX9_weightOf_49 ?_
        refine g_bipush C (v := 6) dX9_weightOf_52 (by decide) ?_
        refine g_iload C dX9_weightOf_54 4 rfl ?_
        refine g_imul C dX9_weightOf_56 ?_
        refine g_iald C kd_63 ln_63 (in_63 hS) dX9_weightOf_57 hf (fun hf => ?_)
        refine g_iload_n C dX9_weightOf_58 rfl 1 rfl ?_
        refine g_icmp_ne (tgt := 109) C dX9_weightOf_59 (by decide) hf (fun hf => ?_) (fun hf => ?_)
        · exact j109 (f_X9_weightOf_L39 N n) ih _ _ _ _ _ hf
        · refine g_lload C dX9_weightOf_62 3 rfl ?_
          refine g_aload_n C dX9_weightOf_64 rfl 0 rfl ?_
          refine g_iload C dX9_weightOf_65 4 rfl ?_
          refine g_iload_n C dX9_weightOf_67 rfl 2 rfl ?_
          refine g_callVB C (R := RX9) (T := TX9) (N := 48) [.int v6, .int v2] (fun _ _ h => c_X9_spans (kl x) N w hS _ _ h) (g_cwV C hR ml_X9_121 im_X9_spans sl_X9_spans ini_X9 cd_X9_spans hd_X9_spans (by decide)) kd_61 (by decide) rfl (in_61 hS) rfl _ rfl (Nat.le_of_ble_eq_true rfl) dX9_weightOf_68 hf (fun r1 s1 hf => ?_)
          refine g_ifeqB (tgt := 93) C dX9_weightOf_71 (by decide) hf (fun hf => ?_) (fun hf => ?_)
          · refine g_aload_n C dX9_weightOf_93 rfl 0 rfl ?_
            refine g_get C (R := RX9) (T := TX9) (N := 48) (k := 3) (v := .ref (ad w 63)) kd_61 (by decide) rfl (in_61 hS) hinX9 (by decide) fl_X9_13 rfl rfl dX9_weightOf_94 ?_
            refine g_bipush C (v := 6) dX9_weightOf_97 (by decide) ?_
            refine g_iload C dX9_weightOf_99 4 rfl ?_
            refine g_imul C dX9_weightOf_101 ?_
            refine g_iconst C (v := 4) dX9_weightOf_102 rfl ?_
            refine g_iadd C dX9_weightOf_103 ?_
            refine g_iald C kd_63 ln_63 (in_63 hS) dX9_weightOf_104 hf (fun hf => ?_)
            refine g_i2l C dX9_weightOf_105 ?_
            refine g_sub [0, 1, 2, 4] rfl ?_
            exact j106 (f_X9_weightOf_L39 N n) ih _ _ _ _ _ _ hf
          · refine g_bipush C (v := 100) dX9_weightOf_74 (by decide) ?_
            refine g_aload_n C dX9_weightOf_76 rfl 0 rfl ?_
            refine g_get C (R := RX9) (T := TX9) (N := 48) (k := 3) (v := .ref (ad w 63)) kd_61 (by decide) rfl (in_61 hS) hinX9 (by decide) fl_X9_13 rfl rfl dX9_weightOf_77 ?_
            refine g_bipush C (v := 6) dX9_weightOf_80 (by decide) ?_
            refine g_iload C dX9_weightOf_82 4 rfl ?_
            refine g_imul C dX9_weightOf_84 ?_
            refine g_iconst C (v := 4) dX9_weightOf_85 rfl ?_
            refine g_iadd C dX9_weightOf_86 ?_
            refine g_iald C kd_63 ln_63 (in_63 hS) dX9_weightOf_87 hf (fun hf => ?_)
            refine g_isub C dX9_weightOf_88 ?_
            refine g_i2l C dX9_weightOf_89 ?_
            refine g_goto (tgt := 106) C dX9_weightOf_90 (by decide) ?_
            refine g_sub [0, 1, 2, 4] rfl ?_
            exact j106 (f_X9_weightOf_L39 N n) ih _ _ _ _ _ _ hf
  refine g_lv (lv' := [(0, .ref (ad w 61)), (1, .int a1), (2, .int a2)]) rfl ?_
  unfold f_X9_weightOf at hf
  refine g_aload_n C dX9_weightOf_0 rfl 0 rfl ?_
  refine g_iload_n C dX9_weightOf_1 rfl 1 rfl ?_
  refine g_callVI C (R := RX9) (T := TX9) (N := 48) [.int a1] (fun _ _ h => c_X9_seenOf (kl x) N w hS _ h) (g_cwV C hR ml_X9_104 im_X9_seenOf sl_X9_seenOf ini_X9 cd_X9_seenOf hd_X9_seenOf (by decide)) kd_61 (by decide) rfl (in_61 hS) rfl _ rfl (Nat.le_of_ble_eq_true rfl) dX9_weightOf_2 hf (fun r1 s1 hf => ?_)
  refine g_istore_n (lv' := [(3, .int r1), (0, .ref (ad w 61)), (1, .int a1), (2, .int a2)]) C dX9_weightOf_5 rfl (by decide) rfl ?_
  refine g_iload_n C dX9_weightOf_6 rfl 3 rfl ?_
  refine g_iload_n C dX9_weightOf_7 rfl 0 rfl ?_
  refine g_icmp_gt (tgt := 20) C dX9_weightOf_8 (by decide) hf (fun hf => ?_) (fun hf => ?_)
  · refine g_lconst C (v := 0) dX9_weightOf_20 rfl ?_
    exact g_lret C dX9_weightOf_21 hf
  · refine g_aload_n C dX9_weightOf_11 rfl 1 rfl ?_
    refine g_iload_n C dX9_weightOf_12 rfl 2 rfl ?_
    refine g_iload_n C dX9_weightOf_13 rfl 3 rfl ?_
    refine g_callVB C (R := RX9) (T := TX9) (N := 48) [.int a1, .int a2] (fun _ _ h => c_X9_isLeftOut (kl x) N w hS _ _ h) (g_cwV C hR ml_X9_136 im_X9_isLeftOut sl_X9_isLeftOut ini_X9 cd_X9_isLeftOut hd_X9_isLeftOut (by decide)) kd_61 (by decide) rfl (in_61 hS) rfl _ rfl (Nat.le_of_ble_eq_true rfl) dX9_weightOf_14 hf (fun r2 s2 hf => ?_)
    refine g_ifeqB (tgt := 22) C dX9_weightOf_17 (by decide) hf (fun hf => ?_) (fun hf => ?_)
    · refine g_aload_n C dX9_weightOf_22 rfl 1 rfl ?_
      refine g_get C (R := RX9) (T := TX9) (N := 48) (k := 4) (v := .ref (ad w 64)) kd_61 (by decide) rfl (in_61 hS) hinX9 (by decide) fl_X9_16 rfl rfl dX9_weightOf_23 ?_
      refine g_iload_n C dX9_weightOf_26 rfl 0 rfl ?_
      refine g_iload_n C dX9_weightOf_27 rfl 3 rfl ?_
      refine g_isub C dX9_weightOf_28 ?_
      refine g_bipush C (v := 10) dX9_weightOf_29 (by decide) ?_
      refine g_idivK C dX9_weightOf_31 (by decide) ?_
      refine g_iald C kd_64 ln_64 (in_64 hS) dX9_weightOf_32 hf (fun hf => ?_)
      refine g_i2l C dX9_weightOf_33 ?_
      refine g_lstore (lv' := [(4, .long ((rI s2 64 ((r1 - a2) / 10).toNatClampNeg).toInt64)), (3, .int r1), (0, .ref (ad w 61)), (1, .int a1), (2, .int a2)]) C dX9_weightOf_34 (by decide) rfl ?_
      refine g_iconst C (v := 0) dX9_weightOf_36 rfl ?_
      refine g_istore (lv' := [(6, .int 0), (4, .long ((rI s2 64 ((r1 - a2) / 10).toNatClampNeg).toInt64)), (3, .int r1), (0, .ref (ad w 61)), (1, .int a1), (2, .int a2)]) C dX9_weightOf_37 (by decide) rfl ?_
      refine g_sub [3, 4, 5, 1, 0] rfl ?_
      exact j39 N _ _ _ _ _ hf
    · refine g_lconst C (v := 0) dX9_weightOf_20 rfl ?_
      exact g_lret C dX9_weightOf_21 hf

set_option maxHeartbeats 4000000 in
set_option maxRecDepth 100000 in
theorem c_X9_sumOf (l : Launch) (N : Nat) (w : WX) (hS : SS w = Sm) (a1 : Int32) (a2 : Int32) (a3 : Int32) {s s' : Mem} {r : Int64} (hf : f_X9_sumOf N a1 a2 a3 s = some (r, s')) : CL l yX9_sumOf (wz yX9_sumOf cX9_sumOf 7 (some .long)) ({ frames := 3, cells := 0, slots := 0, locals := 74 } : Room) [.ref (ad w 61), .int a1, .int a2, .int a3] w s r s' := by
  refine met_startL (cc := cX9_sumOf) (ret := (some .long)) (own := RX9) (maxL := 7) (by decide) rfl (Nat.le_of_ble_eq_true rfl) (fun x C hR hl => ?_)
  have j6 : ∀ (n : Nat), ∀ (v1 : Int32) (v3 : Int32) (v4 : Int64) (v6 : Int32) (s : Mem), f_X9_sumOf_L6 N n v1 v3 v4 v6 s = some (r, s') → G x (QL x w r s') 7 w 6 [(0, .ref (ad w 61)), (1, .int v1), (3, .int v3), (4, .long v4), (6, .int v6)] [] s := by
    intro n
    induction n with
    | zero => intro v1 v3 v4 v6 s hf; cases hf
    | succ n ih =>
      intro v1 v3 v4 v6 s hf
      unfold f_X9_sumOf_L6 at hf
      refine g_iload C dX9_sumOf_6 4 rfl ?_
      refine g_iload_n C dX9_sumOf_8 rfl 2 rfl ?_
      refine g_icmp_gt (tgt := 30) C dX9_sumOf_9 (by decide) hf (fun hf => ?_) (fun hf => ?_)
      · refine g_lload C dX9_sumOf_30 3 rfl ?_
        exact g_lret C dX9_sumOf_32 hf
      · refine g_lload C dX9_sumOf_12 3 rfl ?_
        refine g_aload_n C dX9_sumOf_14 rfl 0 rfl ?_
        refine g_iload_n C dX9_sumOf_15 rfl 1 rfl ?_
        refine g_iload C dX9_sumOf_16 4 rfl ?_
        refine g_callVL C (R := RX9) (T := TX9) (N := 48) [.int v1, .int v6] (fun _ _ h => c_X9_weightOf (kl x) N w hS _ _ h) (g_cwV C hR ml_X9_139 im_X9_weightOf sl_X9_weightOf ini_X9 cd_X9_weightOf hd_X9_weightOf (by decide)) kd_61 (by decide) rfl (in_61 hS) rfl _ rfl (Nat.le_of_ble_eq_true rfl) dX9_sumOf_18 hf (fun r1 s1 hf => ?_)
        refine g_ladd C dX9_sumOf_21 ?_
        refine g_lstore (lv' := [(4, .long (v4 + r1)), (0, .ref (ad w 61)), (1, .int v1), (3, .int v3), (6, .int v6)]) C dX9_sumOf_22 (by decide) rfl ?_
        refine g_iinc (v' := v6 + 1) (lv' := [(6, .int (v6 + 1)), (4, .long (v4 + r1)), (0, .ref (ad w 61)), (1, .int v1), (3, .int v3)]) C dX9_sumOf_24 4 rfl rfl (by decide) rfl ?_
        refine g_goto (tgt := 6) C dX9_sumOf_27 (by decide) ?_
        refine g_sub [2, 3, 4, 1, 0] rfl ?_
        exact ih _ _ _ _ _ hf
  refine g_lv (lv' := [(0, .ref (ad w 61)), (1, .int a1), (2, .int a2), (3, .int a3)]) rfl ?_
  unfold f_X9_sumOf at hf
  refine g_lconst C (v := 0) dX9_sumOf_0 rfl ?_
  refine g_lstore (lv' := [(4, .long 0), (0, .ref (ad w 61)), (1, .int a1), (2, .int a2), (3, .int a3)]) C dX9_sumOf_1 (by decide) rfl ?_
  refine g_iload_n C dX9_sumOf_3 rfl 3 rfl ?_
  refine g_istore (lv' := [(6, .int a2), (4, .long 0), (0, .ref (ad w 61)), (1, .int a1), (2, .int a2), (3, .int a3)]) C dX9_sumOf_4 (by decide) rfl ?_
  refine g_sub [2, 3, 5, 1, 0] rfl ?_
  exact j6 N _ _ _ _ _ hf

set_option maxHeartbeats 4000000 in
set_option maxRecDepth 100000 in
theorem c_X9_allOf (l : Launch) (N : Nat) (w : WX) (hS : SS w = Sm) (a1 : Int32) {s s' : Mem} {r : Int64} (hf : f_X9_allOf N a1 s = some (r, s')) : CL l yX9_allOf (wz yX9_allOf cX9_allOf 2 (some .long)) ({ frames := 4, cells := 0, slots := 0, locals := 100 } : Room) [.ref (ad w 61), .int a1] w s r s' := by
  refine met_startL (cc := cX9_allOf) (ret := (some .long)) (own := RX9) (maxL := 2) (by decide) rfl (Nat.le_of_ble_eq_true rfl) (fun x C hR hl => ?_)
  refine g_lv (lv' := [(0, .ref (ad w 61)), (1, .int a1)]) rfl ?_
  unfold f_X9_allOf at hf
  refine g_aload_n C dX9_allOf_0 rfl 0 rfl ?_
  refine g_iload_n C dX9_allOf_1 rfl 1 rfl ?_
  refine g_iconst C (v := 0) dX9_allOf_2 rfl ?_
  refine g_sipush C (v := 160) dX9_allOf_3 (by decide) ?_
  refine g_callVL C (R := RX9) (T := TX9) (N := 48) [.int a1, .int 0, .int 160] (fun _ _ h => c_X9_sumOf (kl x) N w hS _ _ _ h) (g_cwV C hR ml_X9_143 im_X9_sumOf sl_X9_sumOf ini_X9 cd_X9_sumOf hd_X9_sumOf (by decide)) kd_61 (by decide) rfl (in_61 hS) rfl _ rfl (Nat.le_of_ble_eq_true rfl) dX9_allOf_6 hf (fun r1 s1 hf => ?_)
  exact g_lret C dX9_allOf_9 hf

set_option maxHeartbeats 4000000 in
set_option maxRecDepth 100000 in
theorem c_X9_weight (l : Launch) (N : Nat) (w : WX) (hS : SS w = Sm) (a1 : Int32) (a2 : Int32) {s s' : Mem} {r : Int64} (hf : f_X9_weight N a1 a2 s = some (r, s')) : CL l yX9_weight (wz yX9_weight cX9_weight 3 (some .long)) ({ frames := 3, cells := 0, slots := 0, locals := 74 } : Room) [.ref (ad w 61), .int a1, .int a2] w s r s' := by
  refine met_startL (cc := cX9_weight) (ret := (some .long)) (own := RX9) (maxL := 3) (by decide) rfl (Nat.le_of_ble_eq_true rfl) (fun x C hR hl => ?_)
  refine g_lv (lv' := [(0, .ref (ad w 61)), (1, .int a1), (2, .int a2)]) rfl ?_
  unfold f_X9_weight at hf
  refine g_aload_n C dX9_weight_0 rfl 0 rfl ?_
  refine g_iload_n C dX9_weight_1 rfl 1 rfl ?_
  refine g_callVB C (R := RX9) (T := TX9) (N := 48) [.int a1] (fun _ _ h => c_X9_isPerson (kl x) N w hS _ h) (g_cwV C hR ml_X9_100 im_X9_isPerson sl_X9_isPerson ini_X9 cd_X9_isPerson hd_X9_isPerson (by decide)) kd_61 (by decide) rfl (in_61 hS) rfl _ rfl (Nat.le_of_ble_eq_true rfl) dX9_weight_2 hf (fun r1 s1 hf => ?_)
  refine g_ifeqB (tgt := 24) C dX9_weight_5 (by decide) hf (fun hf => ?_) (fun hf => ?_)
  · refine g_ldc2 C (v := (-1)) dX9_weight_24 kL_X9_147 ?_
    exact g_lret C dX9_weight_27 hf
  · refine g_iload_n C dX9_weight_8 rfl 2 rfl ?_
    refine g_callSB C [.int a2] (fun _ _ h => c_X9_isYear (kl x) N w _ h) (g_cwS C hR ml_X9_111 sm_X9_isYear ini_X9 cd_X9_isYear hd_X9_isYear (by decide)) rfl _ rfl (Nat.le_of_ble_eq_true rfl) dX9_weight_9 hf (fun r2 s2 hf => ?_)
    refine g_ifeqB (tgt := 24) C dX9_weight_12 (by decide) hf (fun hf => ?_) (fun hf => ?_)
    · refine g_ldc2 C (v := (-1)) dX9_weight_24 kL_X9_147 ?_
      exact g_lret C dX9_weight_27 hf
    · refine g_aload_n C dX9_weight_15 rfl 0 rfl ?_
      refine g_iload_n C dX9_weight_16 rfl 1 rfl ?_
      refine g_iload_n C dX9_weight_17 rfl 2 rfl ?_
      refine g_callVL C (R := RX9) (T := TX9) (N := 48) [.int a1, .int a2] (fun _ _ h => c_X9_weightOf (kl x) N w hS _ _ h) (g_cwV C hR ml_X9_139 im_X9_weightOf sl_X9_weightOf ini_X9 cd_X9_weightOf hd_X9_weightOf (by decide)) kd_61 (by decide) rfl (in_61 hS) rfl _ rfl (Nat.le_of_ble_eq_true rfl) dX9_weight_18 hf (fun r3 s3 hf => ?_)
      refine g_goto (tgt := 27) C dX9_weight_21 (by decide) ?_
      exact g_lret C dX9_weight_27 hf

set_option maxHeartbeats 4000000 in
set_option maxRecDepth 100000 in
theorem c_X9_all (l : Launch) (N : Nat) (w : WX) (hS : SS w = Sm) (a1 : Int32) {s s' : Mem} {r : Int64} (hf : f_X9_all N a1 s = some (r, s')) : CL l yX9_all (wz yX9_all cX9_all 2 (some .long)) ({ frames := 5, cells := 0, slots := 0, locals := 121 } : Room) [.ref (ad w 61), .int a1] w s r s' := by
  refine met_startL (cc := cX9_all) (ret := (some .long)) (own := RX9) (maxL := 2) (by decide) rfl (Nat.le_of_ble_eq_true rfl) (fun x C hR hl => ?_)
  refine g_lv (lv' := [(0, .ref (ad w 61)), (1, .int a1)]) rfl ?_
  unfold f_X9_all at hf
  refine g_aload_n C dX9_all_0 rfl 0 rfl ?_
  refine g_iload_n C dX9_all_1 rfl 1 rfl ?_
  refine g_callVB C (R := RX9) (T := TX9) (N := 48) [.int a1] (fun _ _ h => c_X9_isPerson (kl x) N w hS _ h) (g_cwV C hR ml_X9_100 im_X9_isPerson sl_X9_isPerson ini_X9 cd_X9_isPerson hd_X9_isPerson (by decide)) kd_61 (by decide) rfl (in_61 hS) rfl _ rfl (Nat.le_of_ble_eq_true rfl) dX9_all_2 hf (fun r1 s1 hf => ?_)
  refine g_ifeqB (tgt := 16) C dX9_all_5 (by decide) hf (fun hf => ?_) (fun hf => ?_)
  · refine g_ldc2 C (v := (-1)) dX9_all_16 kL_X9_147 ?_
    exact g_lret C dX9_all_19 hf
  · refine g_aload_n C dX9_all_8 rfl 0 rfl ?_
    refine g_iload_n C dX9_all_9 rfl 1 rfl ?_
    refine g_callVL C (R := RX9) (T := TX9) (N := 48) [.int a1] (fun _ _ h => c_X9_allOf (kl x) N w hS _ h) (g_cwV C hR ml_X9_149 im_X9_allOf sl_X9_allOf ini_X9 cd_X9_allOf hd_X9_allOf (by decide)) kd_61 (by decide) rfl (in_61 hS) rfl _ rfl (Nat.le_of_ble_eq_true rfl) dX9_all_10 hf (fun r2 s2 hf => ?_)
    refine g_goto (tgt := 19) C dX9_all_13 (by decide) ?_
    exact g_lret C dX9_all_19 hf

set_option maxHeartbeats 4000000 in
set_option maxRecDepth 100000 in
theorem c_X9_bestOf (l : Launch) (N : Nat) (w : WX) (hS : SS w = Sm) (a1 : Int32) {s s' : Mem} {r : Int32} (hf : f_X9_bestOf N a1 s = some (r, s')) : CI l yX9_bestOf (wz yX9_bestOf cX9_bestOf 8 (some .int)) ({ frames := 3, cells := 0, slots := 0, locals := 74 } : Room) [.ref (ad w 61), .int a1] w s r s' := by
  refine met_startI (cc := cX9_bestOf) (ret := (some .int)) (own := RX9) (maxL := 8) (by decide) rfl (Nat.le_of_ble_eq_true rfl) (fun x C hR hl => ?_)
  have j37 : ∀ (k7 : Int32 → Int32 → Int64 → Int32 → Mem → Option (Int32 × Mem)), (∀ (v1 : Int32) (v2 : Int32) (v3 : Int64) (v5 : Int32) (s : Mem), k7 v1 v2 v3 v5 s = some (r, s') → G x (QI x w r s') 8 w 7 [(0, .ref (ad w 61)), (1, .int v1), (2, .int v2), (3, .long v3), (5, .int v5)] [] s) → ∀ (v1 : Int32) (v2 : Int32) (v3 : Int64) (v5 : Int32) (s : Mem), f_X9_bestOf_j37 N k7 v1 v2 v3 v5 s = some (r, s') → G x (QI x w r s') 8 w 37 [(0, .ref (ad w 61)), (1, .int v1), (2, .int v2), (3, .long v3), (5, .int v5)] [] s := by
    intro k7 q7 v1 v2 v3 v5 s hf
    unfold f_X9_bestOf_j37 at hf
    refine g_iinc (v' := v5 + 1) (lv' := [(5, .int (v5 + 1)), (0, .ref (ad w 61)), (1, .int v1), (2, .int v2), (3, .long v3)]) C dX9_bestOf_37 4 rfl rfl (by decide) rfl ?_
    refine g_goto (tgt := 7) C dX9_bestOf_40 (by decide) ?_
    refine g_sub [1, 2, 3, 4, 0] rfl ?_
    exact q7 _ _ _ _ _ hf
  have j7 : ∀ (n : Nat), ∀ (v1 : Int32) (v2 : Int32) (v3 : Int64) (v5 : Int32) (s : Mem), f_X9_bestOf_L7 N n v1 v2 v3 v5 s = some (r, s') → G x (QI x w r s') 8 w 7 [(0, .ref (ad w 61)), (1, .int v1), (2, .int v2), (3, .long v3), (5, .int v5)] [] s := by
    intro n
    induction n with
    | zero => intro v1 v2 v3 v5 s hf; cases hf
    | succ n ih =>
      intro v1 v2 v3 v5 s hf
      unfold f_X9_bestOf_L7 at hf
      refine g_iload C dX9_bestOf_7 4 rfl ?_
      refine g_sipush C (v := 161) dX9_bestOf_9 (by decide) ?_
      refine g_icmp_ge (tgt := 43) C dX9_bestOf_12 (by decide) hf (fun hf => ?_) (fun hf => ?_)
      · refine g_iload_n C dX9_bestOf_43 rfl 2 rfl ?_
        exact g_iret C dX9_bestOf_44 hf
      · refine g_aload_n C dX9_bestOf_15 rfl 0 rfl ?_
        refine g_iload_n C dX9_bestOf_16 rfl 1 rfl ?_
        refine g_iload C dX9_bestOf_17 4 rfl ?_
        refine g_callVL C (R := RX9) (T := TX9) (N := 48) [.int v1, .int v5] (fun _ _ h => c_X9_weightOf (kl x) N w hS _ _ h) (g_cwV C hR ml_X9_139 im_X9_weightOf sl_X9_weightOf ini_X9 cd_X9_weightOf hd_X9_weightOf (by decide)) kd_61 (by decide) rfl (in_61 hS) rfl _ rfl (Nat.le_of_ble_eq_true rfl) dX9_bestOf_19 hf (fun r1 s1 hf => ?_)
        refine g_lstore (lv' := [(6, .long r1), (0, .ref (ad w 61)), (1, .int v1), (2, .int v2), (3, .long v3), (5, .int v5)]) C dX9_bestOf_22 (by decide) rfl ?_
        refine g_lload C dX9_bestOf_24 0 rfl ?_
        refine g_lload_n C dX9_bestOf_26 rfl 4 rfl ?_
        refine g_lcmp_le (tgt := 37) C dX9_bestOf_27 dX9_bestOf_28 (by decide) hf (fun hf => ?_) (fun hf => ?_)
        · refine g_sub [1, 2, 3, 4, 5] rfl ?_
          exact j37 (f_X9_bestOf_L7 N n) ih _ _ _ _ _ hf
        · refine g_lload C dX9_bestOf_31 0 rfl ?_
          refine g_lstore_n (lv' := [(3, .long r1), (6, .long r1), (0, .ref (ad w 61)), (1, .int v1), (2, .int v2), (5, .int v5)]) C dX9_bestOf_33 rfl (by decide) rfl ?_
          refine g_iload C dX9_bestOf_34 5 rfl ?_
          refine g_istore_n (lv' := [(2, .int v5), (3, .long r1), (6, .long r1), (0, .ref (ad w 61)), (1, .int v1), (5, .int v5)]) C dX9_bestOf_36 rfl (by decide) rfl ?_
          refine g_sub [3, 4, 0, 1, 5] rfl ?_
          exact j37 (f_X9_bestOf_L7 N n) ih _ _ _ _ _ hf
  refine g_lv (lv' := [(0, .ref (ad w 61)), (1, .int a1)]) rfl ?_
  unfold f_X9_bestOf at hf
  refine g_iconst C (v := (-1)) dX9_bestOf_0 rfl ?_
  refine g_istore_n (lv' := [(2, .int (-1)), (0, .ref (ad w 61)), (1, .int a1)]) C dX9_bestOf_1 rfl (by decide) rfl ?_
  refine g_lconst C (v := 0) dX9_bestOf_2 rfl ?_
  refine g_lstore_n (lv' := [(3, .long 0), (2, .int (-1)), (0, .ref (ad w 61)), (1, .int a1)]) C dX9_bestOf_3 rfl (by decide) rfl ?_
  refine g_iconst C (v := 0) dX9_bestOf_4 rfl ?_
  refine g_istore (lv' := [(5, .int 0), (3, .long 0), (2, .int (-1)), (0, .ref (ad w 61)), (1, .int a1)]) C dX9_bestOf_5 (by decide) rfl ?_
  refine g_sub [3, 4, 2, 1, 0] rfl ?_
  exact j7 N _ _ _ _ _ hf

set_option maxHeartbeats 4000000 in
set_option maxRecDepth 100000 in
theorem c_X9_best (l : Launch) (N : Nat) (w : WX) (hS : SS w = Sm) (a1 : Int32) {s s' : Mem} {r : Int32} (hf : f_X9_best N a1 s = some (r, s')) : CI l yX9_best (wz yX9_best cX9_best 3 (some .int)) ({ frames := 4, cells := 0, slots := 0, locals := 101 } : Room) [.ref (ad w 61), .int a1] w s r s' := by
  refine met_startI (cc := cX9_best) (ret := (some .int)) (own := RX9) (maxL := 3) (by decide) rfl (Nat.le_of_ble_eq_true rfl) (fun x C hR hl => ?_)
  refine g_lv (lv' := [(0, .ref (ad w 61)), (1, .int a1)]) rfl ?_
  unfold f_X9_best at hf
  refine g_aload_n C dX9_best_0 rfl 0 rfl ?_
  refine g_iload_n C dX9_best_1 rfl 1 rfl ?_
  refine g_callVB C (R := RX9) (T := TX9) (N := 48) [.int a1] (fun _ _ h => c_X9_isPerson (kl x) N w hS _ h) (g_cwV C hR ml_X9_100 im_X9_isPerson sl_X9_isPerson ini_X9 cd_X9_isPerson hd_X9_isPerson (by decide)) kd_61 (by decide) rfl (in_61 hS) rfl _ rfl (Nat.le_of_ble_eq_true rfl) dX9_best_2 hf (fun r1 s1 hf => ?_)
  refine g_ifneB (tgt := 10) C dX9_best_5 (by decide) hf (fun hf => ?_) (fun hf => ?_)
  · refine g_aload_n C dX9_best_10 rfl 0 rfl ?_
    refine g_iload_n C dX9_best_11 rfl 1 rfl ?_
    refine g_callVI C (R := RX9) (T := TX9) (N := 48) [.int a1] (fun _ _ h => c_X9_bestOf (kl x) N w hS _ h) (g_cwV C hR ml_X9_153 im_X9_bestOf sl_X9_bestOf ini_X9 cd_X9_bestOf hd_X9_bestOf (by decide)) kd_61 (by decide) rfl (in_61 hS) rfl _ rfl (Nat.le_of_ble_eq_true rfl) dX9_best_12 hf (fun r2 s2 hf => ?_)
    refine g_istore_n (lv' := [(2, .int r2), (0, .ref (ad w 61)), (1, .int a1)]) C dX9_best_15 rfl (by decide) rfl ?_
    refine g_iload_n C dX9_best_16 rfl 0 rfl ?_
    refine g_if_ge (tgt := 25) C dX9_best_17 (by decide) hf (fun hf => ?_) (fun hf => ?_)
    · refine g_iload_n C dX9_best_25 rfl 0 rfl ?_
      exact g_iret C dX9_best_26 hf
    · refine g_bipush C (v := (-3)) dX9_best_20 (by decide) ?_
      refine g_goto (tgt := 26) C dX9_best_22 (by decide) ?_
      exact g_iret C dX9_best_26 hf
  · refine g_iconst C (v := (-1)) dX9_best_8 rfl ?_
    exact g_iret C dX9_best_9 hf

set_option maxHeartbeats 4000000 in
set_option maxRecDepth 100000 in
theorem c_X9_partOf (l : Launch) (N : Nat) (w : WX) (hS : SS w = Sm) (a1 : Int32) (a2 : Int32) {s s' : Mem} {r : Int64} (hf : f_X9_partOf N a1 a2 s = some (r, s')) : CL l yX9_partOf (wz yX9_partOf cX9_partOf 3 (some .long)) ({ frames := 4, cells := 0, slots := 0, locals := 100 } : Room) [.ref (ad w 61), .int a1, .int a2] w s r s' := by
  refine met_startL (cc := cX9_partOf) (ret := (some .long)) (own := RX9) (maxL := 3) (by decide) rfl (Nat.le_of_ble_eq_true rfl) (fun x C hR hl => ?_)
  refine g_lv (lv' := [(0, .ref (ad w 61)), (1, .int a1), (2, .int a2)]) rfl ?_
  unfold f_X9_partOf at hf
  refine g_aload_n C dX9_partOf_0 rfl 0 rfl ?_
  refine g_iload_n C dX9_partOf_1 rfl 1 rfl ?_
  refine g_iconst C (v := 0) dX9_partOf_2 rfl ?_
  refine g_aload_n C dX9_partOf_3 rfl 0 rfl ?_
  refine g_iload_n C dX9_partOf_4 rfl 1 rfl ?_
  refine g_callVI C (R := RX9) (T := TX9) (N := 48) [.int a1] (fun _ _ h => c_X9_seenOf (kl x) N w hS _ h) (g_cwV C hR ml_X9_104 im_X9_seenOf sl_X9_seenOf ini_X9 cd_X9_seenOf hd_X9_seenOf (by decide)) kd_61 (by decide) rfl (in_61 hS) rfl _ rfl (Nat.le_of_ble_eq_true rfl) dX9_partOf_5 hf (fun r1 s1 hf => ?_)
  refine g_iload_n C dX9_partOf_8 rfl 2 rfl ?_
  refine g_isub C dX9_partOf_9 ?_
  refine g_callVL C (R := RX9) (T := TX9) (N := 48) [.int a1, .int 0, .int (r1 - a2)] (fun _ _ h => c_X9_sumOf (kl x) N w hS _ _ _ h) (g_cwV C hR ml_X9_143 im_X9_sumOf sl_X9_sumOf ini_X9 cd_X9_sumOf hd_X9_sumOf (by decide)) kd_61 (by decide) rfl (in_61 hS) rfl _ rfl (Nat.le_of_ble_eq_true rfl) dX9_partOf_10 hf (fun r2 s2 hf => ?_)
  exact g_lret C dX9_partOf_13 hf

set_option maxHeartbeats 4000000 in
set_option maxRecDepth 100000 in
theorem c_X9_divisor (l : Launch) (N : Nat) (w : WX) (a0 : Int64) (a2 : Int64) {s s' : Mem} {r : Int64} (hf : f_X9_divisor N a0 a2 s = some (r, s')) : CL l yX9_divisor (wz yX9_divisor cX9_divisor 10 (some .long)) ({ frames := 0, cells := 0, slots := 0, locals := 0 } : Room) [.long a0, .long a2] w s r s' := by
  refine met_startL (cc := cX9_divisor) (ret := (some .long)) (own := RX9) (maxL := 10) (by decide) rfl (Nat.le_of_ble_eq_true rfl) (fun x C hR hl => ?_)
  have j6 : ∀ (n : Nat), ∀ (v4 : Int64) (v6 : Int64) (s : Mem), f_X9_divisor_L6 N n v4 v6 s = some (r, s') → G x (QL x w r s') 10 w 6 [(4, .long v4), (6, .long v6)] [] s := by
    intro n
    induction n with
    | zero => intro v4 v6 s hf; cases hf
    | succ n ih =>
      intro v4 v6 s hf
      unfold f_X9_divisor_L6 at hf
      refine g_lload C dX9_divisor_6 1 rfl ?_
      refine g_lconst C (v := 0) dX9_divisor_8 rfl ?_
      refine g_lcmp_eq (tgt := 31) C dX9_divisor_9 dX9_divisor_10 (by decide) hf (fun hf => ?_) (fun hf => ?_)
      · refine g_lload C dX9_divisor_31 0 rfl ?_
        exact g_lret C dX9_divisor_33 hf
      · refine g_lload C dX9_divisor_13 0 rfl ?_
        refine g_lload C dX9_divisor_15 1 rfl ?_
        refine g_lrem C dX9_divisor_17 hf (fun hf => ?_)
        refine g_lstore (lv' := [(8, .long (v4 - v4 / v6 * v6)), (4, .long v4), (6, .long v6)]) C dX9_divisor_18 (by decide) rfl ?_
        refine g_lload C dX9_divisor_20 2 rfl ?_
        refine g_lstore (lv' := [(4, .long v6), (8, .long (v4 - v4 / v6 * v6)), (6, .long v6)]) C dX9_divisor_22 (by decide) rfl ?_
        refine g_lload C dX9_divisor_24 1 rfl ?_
        refine g_lstore (lv' := [(6, .long (v4 - v4 / v6 * v6)), (4, .long v6), (8, .long (v4 - v4 / v6 * v6))]) C dX9_divisor_26 (by decide) rfl ?_
        refine g_goto (tgt := 6) C dX9_divisor_28 (by decide) ?_
        refine g_sub [1, 0] rfl ?_
        exact ih _ _ _ hf
  refine g_lv (lv' := [(0, .long a0), (2, .long a2)]) rfl ?_
  unfold f_X9_divisor at hf
  refine g_lload_n C dX9_divisor_0 rfl 0 rfl ?_
  refine g_lstore (lv' := [(4, .long a0), (0, .long a0), (2, .long a2)]) C dX9_divisor_1 (by decide) rfl ?_
  refine g_lload_n C dX9_divisor_3 rfl 2 rfl ?_
  refine g_lstore (lv' := [(6, .long a2), (4, .long a0), (0, .long a0), (2, .long a2)]) C dX9_divisor_4 (by decide) rfl ?_
  refine g_sub [1, 0] rfl ?_
  exact j6 N _ _ _ hf

set_option maxHeartbeats 4000000 in
set_option maxRecDepth 100000 in
theorem c_X9_share (l : Launch) (N : Nat) (w : WX) (hS : SS w = Sm) (a1 : Int32) (a2 : Int32) (a3 : Int32) {s s' : Mem} {r : Int64} (hf : f_X9_share N a1 a2 a3 s = some (r, s')) : CL l yX9_share (wz yX9_share cX9_share 10 (some .long)) ({ frames := 5, cells := 0, slots := 0, locals := 122 } : Room) [.ref (ad w 61), .int a1, .int a2, .int a3] w s r s' := by
  refine met_startL (cc := cX9_share) (ret := (some .long)) (own := RX9) (maxL := 10) (by decide) rfl (Nat.le_of_ble_eq_true rfl) (fun x C hR hl => ?_)
  refine g_lv (lv' := [(0, .ref (ad w 61)), (1, .int a1), (2, .int a2), (3, .int a3)]) rfl ?_
  unfold f_X9_share at hf
  refine g_aload_n C dX9_share_0 rfl 0 rfl ?_
  refine g_iload_n C dX9_share_1 rfl 1 rfl ?_
  refine g_callVB C (R := RX9) (T := TX9) (N := 48) [.int a1] (fun _ _ h => c_X9_isPerson (kl x) N w hS _ h) (g_cwV C hR ml_X9_100 im_X9_isPerson sl_X9_isPerson ini_X9 cd_X9_isPerson hd_X9_isPerson (by decide)) kd_61 (by decide) rfl (in_61 hS) rfl _ rfl (Nat.le_of_ble_eq_true rfl) dX9_share_2 hf (fun r1 s1 hf => ?_)
  refine g_ifeqB (tgt := 24) C dX9_share_5 (by decide) hf (fun hf => ?_) (fun hf => ?_)
  · refine g_ldc2 C (v := (-1)) dX9_share_24 kL_X9_147 ?_
    exact g_lret C dX9_share_27 hf
  · refine g_iload_n C dX9_share_8 rfl 2 rfl ?_
    refine g_callSB C [.int a2] (fun _ _ h => c_X9_isYear (kl x) N w _ h) (g_cwS C hR ml_X9_111 sm_X9_isYear ini_X9 cd_X9_isYear hd_X9_isYear (by decide)) rfl _ rfl (Nat.le_of_ble_eq_true rfl) dX9_share_9 hf (fun r2 s2 hf => ?_)
    refine g_ifeqB (tgt := 24) C dX9_share_12 (by decide) hf (fun hf => ?_) (fun hf => ?_)
    · refine g_ldc2 C (v := (-1)) dX9_share_24 kL_X9_147 ?_
      exact g_lret C dX9_share_27 hf
    · refine g_iload_n C dX9_share_15 rfl 3 rfl ?_
      refine g_iconst C (v := 0) dX9_share_16 rfl ?_
      refine g_iconst C (v := 1) dX9_share_17 rfl ?_
      refine g_callSB C [.int a3, .int 0, .int 1] (fun _ _ h => c_X9_in (kl x) N w _ _ _ h) (g_cwS C hR ml_X9_93 sm_X9_in ini_X9 cd_X9_in hd_X9_in (by decide)) rfl _ rfl (Nat.le_of_ble_eq_true rfl) dX9_share_18 hf (fun r3 s3 hf => ?_)
      refine g_ifneB (tgt := 28) C dX9_share_21 (by decide) hf (fun hf => ?_) (fun hf => ?_)
      · refine g_aload_n C dX9_share_28 rfl 0 rfl ?_
        refine g_iload_n C dX9_share_29 rfl 1 rfl ?_
        refine g_callVL C (R := RX9) (T := TX9) (N := 48) [.int a1] (fun _ _ h => c_X9_allOf (kl x) N w hS _ h) (g_cwV C hR ml_X9_149 im_X9_allOf sl_X9_allOf ini_X9 cd_X9_allOf hd_X9_allOf (by decide)) kd_61 (by decide) rfl (in_61 hS) rfl _ rfl (Nat.le_of_ble_eq_true rfl) dX9_share_30 hf (fun r4 s4 hf => ?_)
        refine g_lstore (lv' := [(4, .long r4), (0, .ref (ad w 61)), (1, .int a1), (2, .int a2), (3, .int a3)]) C dX9_share_33 (by decide) rfl ?_
        refine g_lload C dX9_share_35 0 rfl ?_
        refine g_lconst C (v := 0) dX9_share_37 rfl ?_
        refine g_lcmp_ne (tgt := 46) C dX9_share_38 dX9_share_39 (by decide) hf (fun hf => ?_) (fun hf => ?_)
        · refine g_aload_n C dX9_share_46 rfl 1 rfl ?_
          refine g_iload_n C dX9_share_47 rfl 2 rfl ?_
          refine g_iload_n C dX9_share_48 rfl 3 rfl ?_
          refine g_callVL C (R := RX9) (T := TX9) (N := 48) [.int a1, .int a2] (fun _ _ h => c_X9_partOf (kl x) N w hS _ _ h) (g_cwV C hR ml_X9_158 im_X9_partOf sl_X9_partOf ini_X9 cd_X9_partOf hd_X9_partOf (by decide)) kd_61 (by decide) rfl (in_61 hS) rfl _ rfl (Nat.le_of_ble_eq_true rfl) dX9_share_49 hf (fun r5 s5 hf => ?_)
          refine g_lstore (lv' := [(6, .long r5), (4, .long r4), (0, .ref (ad w 61)), (1, .int a1), (2, .int a2), (3, .int a3)]) C dX9_share_52 (by decide) rfl ?_
          refine g_lload C dX9_share_54 0 rfl ?_
          refine g_lload C dX9_share_56 1 rfl ?_
          refine g_callSL C [.long r5, .long r4] (fun _ _ h => c_X9_divisor (kl x) N w _ _ h) (g_cwS C hR ml_X9_161 sm_X9_divisor ini_X9 cd_X9_divisor hd_X9_divisor (by decide)) rfl _ rfl (Nat.le_of_ble_eq_true rfl) dX9_share_58 hf (fun r6 s6 hf => ?_)
          refine g_lstore (lv' := [(8, .long r6), (6, .long r5), (4, .long r4), (0, .ref (ad w 61)), (1, .int a1), (2, .int a2), (3, .int a3)]) C dX9_share_61 (by decide) rfl ?_
          refine g_iload_n C dX9_share_63 rfl 6 rfl ?_
          refine g_if_ne (tgt := 75) C dX9_share_64 (by decide) hf (fun hf => ?_) (fun hf => ?_)
          · refine g_lload C dX9_share_75 2 rfl ?_
            refine g_lload C dX9_share_77 0 rfl ?_
            refine g_ldiv C dX9_share_79 hf (fun hf => ?_)
            exact g_lret C dX9_share_80 hf
          · refine g_lload C dX9_share_67 1 rfl ?_
            refine g_lload C dX9_share_69 0 rfl ?_
            refine g_ldiv C dX9_share_71 hf (fun hf => ?_)
            refine g_goto (tgt := 80) C dX9_share_72 (by decide) ?_
            exact g_lret C dX9_share_80 hf
        · refine g_ldc2 C (v := (-3)) dX9_share_42 kL_X9_156 ?_
          exact g_lret C dX9_share_45 hf
      · refine g_ldc2 C (v := (-1)) dX9_share_24 kL_X9_147 ?_
        exact g_lret C dX9_share_27 hf

set_option maxHeartbeats 4000000 in
set_option maxRecDepth 100000 in
theorem c_X9_isCommon (l : Launch) (N : Nat) (w : WX) (hS : SS w = Sm) (a1 : Int32) (a2 : Int32) {s s' : Mem} {r : Bool} (hf : f_X9_isCommon N a1 a2 s = some (r, s')) : CB l yX9_isCommon (wz yX9_isCommon cX9_isCommon 5 (some .boolean)) ({ frames := 2, cells := 0, slots := 0, locals := 48 } : Room) [.ref (ad w 61), .int a1, .int a2] w s r s' := by
  refine met_startB (cc := cX9_isCommon) (ret := (some .boolean)) (own := RX9) (maxL := 5) (by decide) rfl (Nat.le_of_ble_eq_true rfl) (fun x C hR hl => ?_)
  have j47 : ∀ (k5 : Int32 → Int32 → Bool → Int32 → Mem → Option (Bool × Mem)), (∀ (v1 : Int32) (v2 : Int32) (v3 : Bool) (v4 : Int32) (s : Mem), k5 v1 v2 v3 v4 s = some (r, s') → G x (QB x w r s') 5 w 5 [(0, .ref (ad w 61)), (1, .int v1), (2, .int v2), (3, .int (bI v3)), (4, .int v4)] [] s) → ∀ (v1 : Int32) (v2 : Int32) (v4 : Int32) (p0 : Bool) (s : Mem), f_X9_isCommon_j47 N k5 v1 v2 v4 p0 s = some (r, s') → G x (QB x w r s') 5 w 47 [(0, .ref (ad w 61)), (1, .int v1), (2, .int v2), (4, .int v4)] [.int (bI p0)] s := by
    intro k5 q5 v1 v2 v4 p0 s hf
    unfold f_X9_isCommon_j47 at hf
    refine g_istore_n (lv' := [(3, .int (bI p0)), (0, .ref (ad w 61)), (1, .int v1), (2, .int v2), (4, .int v4)]) C dX9_isCommon_47 rfl (by decide) rfl ?_
    refine g_iinc (v' := v4 + 1) (lv' := [(4, .int (v4 + 1)), (3, .int (bI p0)), (0, .ref (ad w 61)), (1, .int v1), (2, .int v2)]) C dX9_isCommon_48 4 rfl rfl (by decide) rfl ?_
    refine g_goto (tgt := 5) C dX9_isCommon_51 (by decide) ?_
    refine g_sub [2, 3, 4, 1, 0] rfl ?_
    exact q5 _ _ _ _ _ hf
  have j46 : ∀ (k5 : Int32 → Int32 → Bool → Int32 → Mem → Option (Bool × Mem)), (∀ (v1 : Int32) (v2 : Int32) (v3 : Bool) (v4 : Int32) (s : Mem), k5 v1 v2 v3 v4 s = some (r, s') → G x (QB x w r s') 5 w 5 [(0, .ref (ad w 61)), (1, .int v1), (2, .int v2), (3, .int (bI v3)), (4, .int v4)] [] s) → ∀ (v1 : Int32) (v2 : Int32) (v4 : Int32) (s : Mem), f_X9_isCommon_j46 N k5 v1 v2 v4 s = some (r, s') → G x (QB x w r s') 5 w 46 [(0, .ref (ad w 61)), (1, .int v1), (2, .int v2), (4, .int v4)] [] s := by
    intro k5 q5 v1 v2 v4 s hf
    unfold f_X9_isCommon_j46 at hf
    refine g_iconst C (v := 0) dX9_isCommon_46 rfl ?_
    exact j47 k5 q5 _ _ _ _ _ hf
  have j42 : ∀ (k5 : Int32 → Int32 → Bool → Int32 → Mem → Option (Bool × Mem)), (∀ (v1 : Int32) (v2 : Int32) (v3 : Bool) (v4 : Int32) (s : Mem), k5 v1 v2 v3 v4 s = some (r, s') → G x (QB x w r s') 5 w 5 [(0, .ref (ad w 61)), (1, .int v1), (2, .int v2), (3, .int (bI v3)), (4, .int v4)] [] s) → ∀ (v1 : Int32) (v2 : Int32) (v4 : Int32) (s : Mem), f_X9_isCommon_j42 N k5 v1 v2 v4 s = some (r, s') → G x (QB x w r s') 5 w 42 [(0, .ref (ad w 61)), (1, .int v1), (2, .int v2), (4, .int v4)] [] s := by
    intro k5 q5 v1 v2 v4 s hf
    unfold f_X9_isCommon_j42 at hf
    refine g_iconst C (v := 1) dX9_isCommon_42 rfl ?_
    refine g_goto (tgt := 47) C dX9_isCommon_43 (by decide) ?_
    exact j47 k5 q5 _ _ _ _ _ hf
  have j5 : ∀ (n : Nat), ∀ (v1 : Int32) (v2 : Int32) (v3 : Bool) (v4 : Int32) (s : Mem), f_X9_isCommon_L5 N n v1 v2 v3 v4 s = some (r, s') → G x (QB x w r s') 5 w 5 [(0, .ref (ad w 61)), (1, .int v1), (2, .int v2), (3, .int (bI v3)), (4, .int v4)] [] s := by
    intro n
    induction n with
    | zero => intro v1 v2 v3 v4 s hf; cases hf
    | succ n ih =>
      intro v1 v2 v3 v4 s hf
      unfold f_X9_isCommon_L5 at hf
      refine g_iload C dX9_isCommon_5 4 rfl ?_
      refine g_aload_n C dX9_isCommon_7 rfl 0 rfl ?_
      refine g_get C (R := RX9) (T := TX9) (N := 48) (k := 2) (v := .int (rI s 61 2)) kd_61 (by decide) rfl (in_61 hS) hinX9 (by decide) fl_X9_97 rfl rfl dX9_isCommon_8 ?_
      refine g_icmp_ge (tgt := 54) C dX9_isCommon_11 (by decide) hf (fun hf => ?_) (fun hf => ?_)
      · refine g_iload_n C dX9_isCommon_54 rfl 3 rfl ?_
        exact g_zret C dX9_isCommon_55 hf
      · refine g_iload_n C dX9_isCommon_14 rfl 3 rfl ?_
        refine g_ifeqB (tgt := 46) C dX9_isCommon_15 (by decide) hf (fun hf => ?_) (fun hf => ?_)
        · refine g_sub [0, 1, 2, 4] rfl ?_
          exact j46 (f_X9_isCommon_L5 N n) ih _ _ _ _ hf
        · refine g_aload_n C dX9_isCommon_18 rfl 0 rfl ?_
          refine g_get C (R := RX9) (T := TX9) (N := 48) (k := 3) (v := .ref (ad w 63)) kd_61 (by decide) rfl (in_61 hS) hinX9 (by decide) fl_X9_13 rfl rfl dX9_isCommon_19 ?_
          refine g_bipush C (v := 6) dX9_isCommon_22 (by decide) ?_
          refine g_iload C dX9_isCommon_24 4 rfl ?_
          refine g_imul C dX9_isCommon_26 ?_
          refine g_iald C kd_63 ln_63 (in_63 hS) dX9_isCommon_27 hf (fun hf => ?_)
          refine g_iload_n C dX9_isCommon_28 rfl 1 rfl ?_
          refine g_icmp_ne (tgt := 42) C dX9_isCommon_29 (by decide) hf (fun hf => ?_) (fun hf => ?_)
          · refine g_sub [0, 1, 2, 4] rfl ?_
            exact j42 (f_X9_isCommon_L5 N n) ih _ _ _ _ hf
          · refine g_aload_n C dX9_isCommon_32 rfl 0 rfl ?_
            refine g_iload C dX9_isCommon_33 4 rfl ?_
            refine g_iload_n C dX9_isCommon_35 rfl 2 rfl ?_
            refine g_callVB C (R := RX9) (T := TX9) (N := 48) [.int v4, .int v2] (fun _ _ h => c_X9_spans (kl x) N w hS _ _ h) (g_cwV C hR ml_X9_121 im_X9_spans sl_X9_spans ini_X9 cd_X9_spans hd_X9_spans (by decide)) kd_61 (by decide) rfl (in_61 hS) rfl _ rfl (Nat.le_of_ble_eq_true rfl) dX9_isCommon_36 hf (fun r1 s1 hf => ?_)
            refine g_ifeqB (tgt := 46) C dX9_isCommon_39 (by decide) hf (fun hf => ?_) (fun hf => ?_)
            · refine g_sub [0, 1, 2, 4] rfl ?_
              exact j46 (f_X9_isCommon_L5 N n) ih _ _ _ _ hf
            · refine g_sub [0, 1, 2, 4] rfl ?_
              exact j42 (f_X9_isCommon_L5 N n) ih _ _ _ _ hf
  refine g_lv (lv' := [(0, .ref (ad w 61)), (1, .int a1), (2, .int a2)]) rfl ?_
  unfold f_X9_isCommon at hf
  refine g_iconst C (v := 1) dX9_isCommon_0 rfl ?_
  refine g_istore_n (lv' := [(3, .int 1), (0, .ref (ad w 61)), (1, .int a1), (2, .int a2)]) C dX9_isCommon_1 rfl (by decide) rfl ?_
  refine g_iconst C (v := 0) dX9_isCommon_2 rfl ?_
  refine g_istore (lv' := [(4, .int 0), (3, .int 1), (0, .ref (ad w 61)), (1, .int a1), (2, .int a2)]) C dX9_isCommon_3 (by decide) rfl ?_
  refine g_sub [2, 3, 4, 1, 0] rfl ?_
  exact j5 N _ _ _ _ _ hf

set_option maxHeartbeats 4000000 in
set_option maxRecDepth 100000 in
theorem c_X9_commonOf (l : Launch) (N : Nat) (w : WX) (hS : SS w = Sm) (a1 : Int32) (a2 : Int32) {s s' : Mem} {r : Int32} (hf : f_X9_commonOf N a1 a2 s = some (r, s')) : CI l yX9_commonOf (wz yX9_commonOf cX9_commonOf 5 (some .int)) ({ frames := 3, cells := 0, slots := 0, locals := 72 } : Room) [.ref (ad w 61), .int a1, .int a2] w s r s' := by
  refine met_startI (cc := cX9_commonOf) (ret := (some .int)) (own := RX9) (maxL := 5) (by decide) rfl (Nat.le_of_ble_eq_true rfl) (fun x C hR hl => ?_)
  have j39 : ∀ (k5 : Int32 → Int32 → Int32 → Int32 → Mem → Option (Int32 × Mem)), (∀ (v1 : Int32) (v2 : Int32) (v3 : Int32) (v4 : Int32) (s : Mem), k5 v1 v2 v3 v4 s = some (r, s') → G x (QI x w r s') 5 w 5 [(0, .ref (ad w 61)), (1, .int v1), (2, .int v2), (3, .int v3), (4, .int v4)] [] s) → ∀ (v1 : Int32) (v2 : Int32) (v4 : Int32) (p0 : Bool) (p1 : Int32) (s : Mem), f_X9_commonOf_j39 N k5 v1 v2 v4 p0 p1 s = some (r, s') → G x (QI x w r s') 5 w 39 [(0, .ref (ad w 61)), (1, .int v1), (2, .int v2), (4, .int v4)] [.int (bI p0), .int p1] s := by
    intro k5 q5 v1 v2 v4 p0 p1 s hf
    unfold f_X9_commonOf_j39 at hf
    refine g_iadd C dX9_commonOf_39 ?_
    refine g_istore_n (lv' := [(3, .int (p1 + (bI p0))), (0, .ref (ad w 61)), (1, .int v1), (2, .int v2), (4, .int v4)]) C dX9_commonOf_40 rfl (by decide) rfl ?_
    refine g_iinc (v' := v4 + 1) (lv' := [(4, .int (v4 + 1)), (3, .int (p1 + (bI p0))), (0, .ref (ad w 61)), (1, .int v1), (2, .int v2)]) C dX9_commonOf_41 4 rfl rfl (by decide) rfl ?_
    refine g_goto (tgt := 5) C dX9_commonOf_44 (by decide) ?_
    refine g_sub [2, 3, 4, 1, 0] rfl ?_
    exact q5 _ _ _ _ _ hf
  have j38 : ∀ (k5 : Int32 → Int32 → Int32 → Int32 → Mem → Option (Int32 × Mem)), (∀ (v1 : Int32) (v2 : Int32) (v3 : Int32) (v4 : Int32) (s : Mem), k5 v1 v2 v3 v4 s = some (r, s') → G x (QI x w r s') 5 w 5 [(0, .ref (ad w 61)), (1, .int v1), (2, .int v2), (3, .int v3), (4, .int v4)] [] s) → ∀ (v1 : Int32) (v2 : Int32) (v4 : Int32) (p0 : Int32) (s : Mem), f_X9_commonOf_j38 N k5 v1 v2 v4 p0 s = some (r, s') → G x (QI x w r s') 5 w 38 [(0, .ref (ad w 61)), (1, .int v1), (2, .int v2), (4, .int v4)] [.int p0] s := by
    intro k5 q5 v1 v2 v4 p0 s hf
    unfold f_X9_commonOf_j38 at hf
    refine g_iconst C (v := 0) dX9_commonOf_38 rfl ?_
    exact j39 k5 q5 _ _ _ _ _ _ hf
  have j5 : ∀ (n : Nat), ∀ (v1 : Int32) (v2 : Int32) (v3 : Int32) (v4 : Int32) (s : Mem), f_X9_commonOf_L5 N n v1 v2 v3 v4 s = some (r, s') → G x (QI x w r s') 5 w 5 [(0, .ref (ad w 61)), (1, .int v1), (2, .int v2), (3, .int v3), (4, .int v4)] [] s := by
    intro n
    induction n with
    | zero => intro v1 v2 v3 v4 s hf; cases hf
    | succ n ih =>
      intro v1 v2 v3 v4 s hf
      unfold f_X9_commonOf_L5 at hf
      refine g_iload C dX9_commonOf_5 4 rfl ?_
      refine g_sipush C (v := 161) dX9_commonOf_7 (by decide) ?_
      refine g_icmp_ge (tgt := 47) C dX9_commonOf_10 (by decide) hf (fun hf => ?_) (fun hf => ?_)
      · refine g_iload_n C dX9_commonOf_47 rfl 3 rfl ?_
        exact g_iret C dX9_commonOf_48 hf
      · refine g_iload_n C dX9_commonOf_13 rfl 3 rfl ?_
        refine g_aload_n C dX9_commonOf_14 rfl 0 rfl ?_
        refine g_iload_n C dX9_commonOf_15 rfl 1 rfl ?_
        refine g_iload C dX9_commonOf_16 4 rfl ?_
        refine g_callVB C (R := RX9) (T := TX9) (N := 48) [.int v1, .int v4] (fun _ _ h => c_X9_isCommon (kl x) N w hS _ _ h) (g_cwV C hR ml_X9_165 im_X9_isCommon sl_X9_isCommon ini_X9 cd_X9_isCommon hd_X9_isCommon (by decide)) kd_61 (by decide) rfl (in_61 hS) rfl _ rfl (Nat.le_of_ble_eq_true rfl) dX9_commonOf_18 hf (fun r1 s1 hf => ?_)
        refine g_ifeqB (tgt := 38) C dX9_commonOf_21 (by decide) hf (fun hf => ?_) (fun hf => ?_)
        · refine g_sub [0, 1, 2, 4] rfl ?_
          exact j38 (f_X9_commonOf_L5 N n) ih _ _ _ _ _ hf
        · refine g_aload_n C dX9_commonOf_24 rfl 0 rfl ?_
          refine g_iload_n C dX9_commonOf_25 rfl 2 rfl ?_
          refine g_iload C dX9_commonOf_26 4 rfl ?_
          refine g_callVB C (R := RX9) (T := TX9) (N := 48) [.int v2, .int v4] (fun _ _ h => c_X9_isCommon (kl x) N w hS _ _ h) (g_cwV C hR ml_X9_165 im_X9_isCommon sl_X9_isCommon ini_X9 cd_X9_isCommon hd_X9_isCommon (by decide)) kd_61 (by decide) rfl (in_61 hS) rfl _ rfl (Nat.le_of_ble_eq_true rfl) dX9_commonOf_28 hf (fun r2 s2 hf => ?_)
          refine g_ifeqB (tgt := 38) C dX9_commonOf_31 (by decide) hf (fun hf => ?_) (fun hf => ?_)
          · refine g_sub [0, 1, 2, 4] rfl ?_
            exact j38 (f_X9_commonOf_L5 N n) ih _ _ _ _ _ hf
          · refine g_iconst C (v := 1) dX9_commonOf_34 rfl ?_
            refine g_goto (tgt := 39) C dX9_commonOf_35 (by decide) ?_
            refine g_sub [0, 1, 2, 4] rfl ?_
            exact j39 (f_X9_commonOf_L5 N n) ih _ _ _ _ _ _ hf
  refine g_lv (lv' := [(0, .ref (ad w 61)), (1, .int a1), (2, .int a2)]) rfl ?_
  unfold f_X9_commonOf at hf
  refine g_iconst C (v := 0) dX9_commonOf_0 rfl ?_
  refine g_istore_n (lv' := [(3, .int 0), (0, .ref (ad w 61)), (1, .int a1), (2, .int a2)]) C dX9_commonOf_1 rfl (by decide) rfl ?_
  refine g_iconst C (v := 0) dX9_commonOf_2 rfl ?_
  refine g_istore (lv' := [(4, .int 0), (3, .int 0), (0, .ref (ad w 61)), (1, .int a1), (2, .int a2)]) C dX9_commonOf_3 (by decide) rfl ?_
  refine g_sub [2, 3, 4, 1, 0] rfl ?_
  exact j5 N _ _ _ _ _ hf

set_option maxHeartbeats 4000000 in
set_option maxRecDepth 100000 in
theorem c_X9_common (l : Launch) (N : Nat) (w : WX) (hS : SS w = Sm) (a1 : Int32) (a2 : Int32) {s s' : Mem} {r : Int32} (hf : f_X9_common N a1 a2 s = some (r, s')) : CI l yX9_common (wz yX9_common cX9_common 3 (some .int)) ({ frames := 4, cells := 0, slots := 0, locals := 96 } : Room) [.ref (ad w 61), .int a1, .int a2] w s r s' := by
  refine met_startI (cc := cX9_common) (ret := (some .int)) (own := RX9) (maxL := 3) (by decide) rfl (Nat.le_of_ble_eq_true rfl) (fun x C hR hl => ?_)
  refine g_lv (lv' := [(0, .ref (ad w 61)), (1, .int a1), (2, .int a2)]) rfl ?_
  unfold f_X9_common at hf
  refine g_aload_n C dX9_common_0 rfl 0 rfl ?_
  refine g_iload_n C dX9_common_1 rfl 1 rfl ?_
  refine g_callVB C (R := RX9) (T := TX9) (N := 48) [.int a1] (fun _ _ h => c_X9_isPerson (kl x) N w hS _ h) (g_cwV C hR ml_X9_100 im_X9_isPerson sl_X9_isPerson ini_X9 cd_X9_isPerson hd_X9_isPerson (by decide)) kd_61 (by decide) rfl (in_61 hS) rfl _ rfl (Nat.le_of_ble_eq_true rfl) dX9_common_2 hf (fun r1 s1 hf => ?_)
  refine g_ifeqB (tgt := 25) C dX9_common_5 (by decide) hf (fun hf => ?_) (fun hf => ?_)
  · refine g_iconst C (v := (-1)) dX9_common_25 rfl ?_
    exact g_iret C dX9_common_26 hf
  · refine g_aload_n C dX9_common_8 rfl 0 rfl ?_
    refine g_iload_n C dX9_common_9 rfl 2 rfl ?_
    refine g_callVB C (R := RX9) (T := TX9) (N := 48) [.int a2] (fun _ _ h => c_X9_isPerson (kl x) N w hS _ h) (g_cwV C hR ml_X9_100 im_X9_isPerson sl_X9_isPerson ini_X9 cd_X9_isPerson hd_X9_isPerson (by decide)) kd_61 (by decide) rfl (in_61 hS) rfl _ rfl (Nat.le_of_ble_eq_true rfl) dX9_common_10 hf (fun r2 s2 hf => ?_)
    refine g_ifeqB (tgt := 25) C dX9_common_13 (by decide) hf (fun hf => ?_) (fun hf => ?_)
    · refine g_iconst C (v := (-1)) dX9_common_25 rfl ?_
      exact g_iret C dX9_common_26 hf
    · refine g_aload_n C dX9_common_16 rfl 0 rfl ?_
      refine g_iload_n C dX9_common_17 rfl 1 rfl ?_
      refine g_iload_n C dX9_common_18 rfl 2 rfl ?_
      refine g_callVI C (R := RX9) (T := TX9) (N := 48) [.int a1, .int a2] (fun _ _ h => c_X9_commonOf (kl x) N w hS _ _ h) (g_cwV C hR ml_X9_168 im_X9_commonOf sl_X9_commonOf ini_X9 cd_X9_commonOf hd_X9_commonOf (by decide)) kd_61 (by decide) rfl (in_61 hS) rfl _ rfl (Nat.le_of_ble_eq_true rfl) dX9_common_19 hf (fun r3 s3 hf => ?_)
      refine g_goto (tgt := 26) C dX9_common_22 (by decide) ?_
      exact g_iret C dX9_common_26 hf

set_option maxHeartbeats 4000000 in
set_option maxRecDepth 100000 in
theorem c_X9_one (l : Launch) (N : Nat) (w : WX) (hS : SS w = Sm) (a1 : Int32) (a2 : Int32) {s s' : Mem} {r : Int32} (hf : f_X9_one N a1 a2 s = some (r, s')) : CI l yX9_one (wz yX9_one cX9_one 4 (some .int)) ({ frames := 4, cells := 0, slots := 0, locals := 96 } : Room) [.ref (ad w 61), .int a1, .int a2] w s r s' := by
  refine met_startI (cc := cX9_one) (ret := (some .int)) (own := RX9) (maxL := 4) (by decide) rfl (Nat.le_of_ble_eq_true rfl) (fun x C hR hl => ?_)
  have j93 : ∀ (v1 : Int32) (v2 : Int32) (p0 : Bool) (s : Mem), f_X9_one_j93 N v1 v2 p0 s = some (r, s') → G x (QI x w r s') 4 w 93 [(0, .ref (ad w 61)), (1, .int v1), (2, .int v2)] [.int (bI p0)] s := by
    intro v1 v2 p0 s hf
    unfold f_X9_one_j93 at hf
    refine g_istore_n (lv' := [(3, .int (bI p0)), (0, .ref (ad w 61)), (1, .int v1), (2, .int v2)]) C dX9_one_93 rfl (by decide) rfl ?_
    refine g_iload_n C dX9_one_94 rfl 0 rfl ?_
    refine g_ifeqB (tgt := 111) C dX9_one_95 (by decide) hf (fun hf => ?_) (fun hf => ?_)
    · refine g_iconst C (v := 0) dX9_one_111 rfl ?_
      exact g_iret C dX9_one_112 hf
    · refine g_aload_n C dX9_one_98 rfl 1 rfl ?_
      refine g_iload_n C dX9_one_99 rfl 2 rfl ?_
      refine g_iload_n C dX9_one_100 rfl 3 rfl ?_
      refine g_callVI C (R := RX9) (T := TX9) (N := 48) [.int v1, .int v2] (fun _ _ h => c_X9_commonOf (kl x) N w hS _ _ h) (g_cwV C hR ml_X9_168 im_X9_commonOf sl_X9_commonOf ini_X9 cd_X9_commonOf hd_X9_commonOf (by decide)) kd_61 (by decide) rfl (in_61 hS) rfl _ rfl (Nat.le_of_ble_eq_true rfl) dX9_one_101 hf (fun r1 s1 hf => ?_)
      refine g_if_le (tgt := 111) C dX9_one_104 (by decide) hf (fun hf => ?_) (fun hf => ?_)
      · refine g_iconst C (v := 0) dX9_one_111 rfl ?_
        exact g_iret C dX9_one_112 hf
      · refine g_iconst C (v := 1) dX9_one_107 rfl ?_
        refine g_goto (tgt := 112) C dX9_one_108 (by decide) ?_
        exact g_iret C dX9_one_112 hf
  have j92 : ∀ (v1 : Int32) (v2 : Int32) (s : Mem), f_X9_one_j92 N v1 v2 s = some (r, s') → G x (QI x w r s') 4 w 92 [(0, .ref (ad w 61)), (1, .int v1), (2, .int v2)] [] s := by
    intro v1 v2 s hf
    unfold f_X9_one_j92 at hf
    refine g_iconst C (v := 0) dX9_one_92 rfl ?_
    exact j93 _ _ _ _ hf
  have j88 : ∀ (v1 : Int32) (v2 : Int32) (s : Mem), f_X9_one_j88 N v1 v2 s = some (r, s') → G x (QI x w r s') 4 w 88 [(0, .ref (ad w 61)), (1, .int v1), (2, .int v2)] [] s := by
    intro v1 v2 s hf
    unfold f_X9_one_j88 at hf
    refine g_iconst C (v := 1) dX9_one_88 rfl ?_
    refine g_goto (tgt := 93) C dX9_one_89 (by decide) ?_
    exact j93 _ _ _ _ hf
  refine g_lv (lv' := [(0, .ref (ad w 61)), (1, .int a1), (2, .int a2)]) rfl ?_
  unfold f_X9_one at hf
  refine g_aload_n C dX9_one_0 rfl 0 rfl ?_
  refine g_iload_n C dX9_one_1 rfl 1 rfl ?_
  refine g_callVB C (R := RX9) (T := TX9) (N := 48) [.int a1] (fun _ _ h => c_X9_isPerson (kl x) N w hS _ h) (g_cwV C hR ml_X9_100 im_X9_isPerson sl_X9_isPerson ini_X9 cd_X9_isPerson hd_X9_isPerson (by decide)) kd_61 (by decide) rfl (in_61 hS) rfl _ rfl (Nat.le_of_ble_eq_true rfl) dX9_one_2 hf (fun r1 s1 hf => ?_)
  refine g_ifeqB (tgt := 21) C dX9_one_5 (by decide) hf (fun hf => ?_) (fun hf => ?_)
  · refine g_iconst C (v := (-1)) dX9_one_21 rfl ?_
    exact g_iret C dX9_one_22 hf
  · refine g_aload_n C dX9_one_8 rfl 0 rfl ?_
    refine g_iload_n C dX9_one_9 rfl 2 rfl ?_
    refine g_callVB C (R := RX9) (T := TX9) (N := 48) [.int a2] (fun _ _ h => c_X9_isPerson (kl x) N w hS _ h) (g_cwV C hR ml_X9_100 im_X9_isPerson sl_X9_isPerson ini_X9 cd_X9_isPerson hd_X9_isPerson (by decide)) kd_61 (by decide) rfl (in_61 hS) rfl _ rfl (Nat.le_of_ble_eq_true rfl) dX9_one_10 hf (fun r2 s2 hf => ?_)
    refine g_ifeqB (tgt := 21) C dX9_one_13 (by decide) hf (fun hf => ?_) (fun hf => ?_)
    · refine g_iconst C (v := (-1)) dX9_one_21 rfl ?_
      exact g_iret C dX9_one_22 hf
    · refine g_iload_n C dX9_one_16 rfl 1 rfl ?_
      refine g_iload_n C dX9_one_17 rfl 2 rfl ?_
      refine g_icmp_ne (tgt := 23) C dX9_one_18 (by decide) hf (fun hf => ?_) (fun hf => ?_)
      · refine g_aload_n C dX9_one_23 rfl 0 rfl ?_
        refine g_get C (R := RX9) (T := TX9) (N := 48) (k := 1) (v := .ref (ad w 62)) kd_61 (by decide) rfl (in_61 hS) hinX9 (by decide) fl_X9_7 rfl rfl dX9_one_24 ?_
        refine g_iconst C (v := 4) dX9_one_27 rfl ?_
        refine g_iload_n C dX9_one_28 rfl 1 rfl ?_
        refine g_imul C dX9_one_29 ?_
        refine g_iconst C (v := 2) dX9_one_30 rfl ?_
        refine g_iadd C dX9_one_31 ?_
        refine g_iald C kd_62 ln_62 (in_62 hS) dX9_one_32 hf (fun hf => ?_)
        refine g_aload_n C dX9_one_33 rfl 0 rfl ?_
        refine g_get C (R := RX9) (T := TX9) (N := 48) (k := 1) (v := .ref (ad w 62)) kd_61 (by decide) rfl (in_61 hS) hinX9 (by decide) fl_X9_7 rfl rfl dX9_one_34 ?_
        refine g_iconst C (v := 4) dX9_one_37 rfl ?_
        refine g_iload_n C dX9_one_38 rfl 2 rfl ?_
        refine g_imul C dX9_one_39 ?_
        refine g_iconst C (v := 2) dX9_one_40 rfl ?_
        refine g_iadd C dX9_one_41 ?_
        refine g_iald C kd_62 ln_62 (in_62 hS) dX9_one_42 hf (fun hf => ?_)
        refine g_icmp_ne (tgt := 92) C dX9_one_43 (by decide) hf (fun hf => ?_) (fun hf => ?_)
        · exact j92 _ _ _ hf
        · refine g_aload_n C dX9_one_46 rfl 0 rfl ?_
          refine g_get C (R := RX9) (T := TX9) (N := 48) (k := 1) (v := .ref (ad w 62)) kd_61 (by decide) rfl (in_61 hS) hinX9 (by decide) fl_X9_7 rfl rfl dX9_one_47 ?_
          refine g_iconst C (v := 4) dX9_one_50 rfl ?_
          refine g_iload_n C dX9_one_51 rfl 1 rfl ?_
          refine g_imul C dX9_one_52 ?_
          refine g_iald C kd_62 ln_62 (in_62 hS) dX9_one_53 hf (fun hf => ?_)
          refine g_aload_n C dX9_one_54 rfl 0 rfl ?_
          refine g_get C (R := RX9) (T := TX9) (N := 48) (k := 1) (v := .ref (ad w 62)) kd_61 (by decide) rfl (in_61 hS) hinX9 (by decide) fl_X9_7 rfl rfl dX9_one_55 ?_
          refine g_iconst C (v := 4) dX9_one_58 rfl ?_
          refine g_iload_n C dX9_one_59 rfl 2 rfl ?_
          refine g_imul C dX9_one_60 ?_
          refine g_iald C kd_62 ln_62 (in_62 hS) dX9_one_61 hf (fun hf => ?_)
          refine g_icmp_eq (tgt := 88) C dX9_one_62 (by decide) hf (fun hf => ?_) (fun hf => ?_)
          · exact j88 _ _ _ hf
          · refine g_aload_n C dX9_one_65 rfl 0 rfl ?_
            refine g_get C (R := RX9) (T := TX9) (N := 48) (k := 1) (v := .ref (ad w 62)) kd_61 (by decide) rfl (in_61 hS) hinX9 (by decide) fl_X9_7 rfl rfl dX9_one_66 ?_
            refine g_iconst C (v := 4) dX9_one_69 rfl ?_
            refine g_iload_n C dX9_one_70 rfl 1 rfl ?_
            refine g_imul C dX9_one_71 ?_
            refine g_iconst C (v := 1) dX9_one_72 rfl ?_
            refine g_iadd C dX9_one_73 ?_
            refine g_iald C kd_62 ln_62 (in_62 hS) dX9_one_74 hf (fun hf => ?_)
            refine g_aload_n C dX9_one_75 rfl 0 rfl ?_
            refine g_get C (R := RX9) (T := TX9) (N := 48) (k := 1) (v := .ref (ad w 62)) kd_61 (by decide) rfl (in_61 hS) hinX9 (by decide) fl_X9_7 rfl rfl dX9_one_76 ?_
            refine g_iconst C (v := 4) dX9_one_79 rfl ?_
            refine g_iload_n C dX9_one_80 rfl 2 rfl ?_
            refine g_imul C dX9_one_81 ?_
            refine g_iconst C (v := 1) dX9_one_82 rfl ?_
            refine g_iadd C dX9_one_83 ?_
            refine g_iald C kd_62 ln_62 (in_62 hS) dX9_one_84 hf (fun hf => ?_)
            refine g_icmp_ne (tgt := 92) C dX9_one_85 (by decide) hf (fun hf => ?_) (fun hf => ?_)
            · exact j92 _ _ _ hf
            · exact j88 _ _ _ hf
      · refine g_iconst C (v := (-1)) dX9_one_21 rfl ?_
        exact g_iret C dX9_one_22 hf

set_option maxHeartbeats 4000000 in
set_option maxRecDepth 100000 in
theorem c_X9_orderOf (l : Launch) (N : Nat) (w : WX) (hS : SS w = Sm) (a1 : Int32) {s s' : Mem} {r : Int32} (hf : f_X9_orderOf N a1 s = some (r, s')) : CI l yX9_orderOf (wz yX9_orderOf cX9_orderOf 5 (some .int)) ({ frames := 0, cells := 0, slots := 0, locals := 0 } : Room) [.ref (ad w 61), .int a1] w s r s' := by
  refine met_startI (cc := cX9_orderOf) (ret := (some .int)) (own := RX9) (maxL := 5) (by decide) rfl (Nat.le_of_ble_eq_true rfl) (fun x C hR hl => ?_)
  have j99 : ∀ (k4 : Int32 → Int32 → Int32 → Mem → Option (Int32 × Mem)), (∀ (v1 : Int32) (v2 : Int32) (v3 : Int32) (s : Mem), k4 v1 v2 v3 s = some (r, s') → G x (QI x w r s') 5 w 4 [(0, .ref (ad w 61)), (1, .int v1), (2, .int v2), (3, .int v3)] [] s) → ∀ (v1 : Int32) (v2 : Int32) (v3 : Int32) (s : Mem), f_X9_orderOf_j99 N k4 v1 v2 v3 s = some (r, s') → G x (QI x w r s') 5 w 99 [(0, .ref (ad w 61)), (1, .int v1), (2, .int v2), (3, .int v3)] [] s := by
    intro k4 q4 v1 v2 v3 s hf
    unfold f_X9_orderOf_j99 at hf
    refine g_iinc (v' := v3 + 1) (lv' := [(3, .int (v3 + 1)), (0, .ref (ad w 61)), (1, .int v1), (2, .int v2)]) C dX9_orderOf_99 3 rfl rfl (by decide) rfl ?_
    refine g_goto (tgt := 4) C dX9_orderOf_102 (by decide) ?_
    refine g_sub [1, 2, 3, 0] rfl ?_
    exact q4 _ _ _ _ hf
  have j88 : ∀ (k4 : Int32 → Int32 → Int32 → Mem → Option (Int32 × Mem)), (∀ (v1 : Int32) (v2 : Int32) (v3 : Int32) (s : Mem), k4 v1 v2 v3 s = some (r, s') → G x (QI x w r s') 5 w 4 [(0, .ref (ad w 61)), (1, .int v1), (2, .int v2), (3, .int v3)] [] s) → ∀ (v1 : Int32) (v2 : Int32) (v3 : Int32) (v4 : Int32) (s : Mem), f_X9_orderOf_j88 N k4 v1 v2 v3 v4 s = some (r, s') → G x (QI x w r s') 5 w 88 [(0, .ref (ad w 61)), (1, .int v1), (2, .int v2), (3, .int v3), (4, .int v4)] [] s := by
    intro k4 q4 v1 v2 v3 v4 s hf
    unfold f_X9_orderOf_j88 at hf
    refine g_aload_n C dX9_orderOf_88 rfl 0 rfl ?_
    refine g_get C (R := RX9) (T := TX9) (N := 48) (k := 15) (v := .ref (ad w 71)) kd_61 (by decide) rfl (in_61 hS) hinX9 (by decide) fl_X9_37 rfl rfl dX9_orderOf_89 ?_
    refine g_iload C dX9_orderOf_92 4 rfl ?_
    refine g_iload_n C dX9_orderOf_94 rfl 3 rfl ?_
    refine g_iast C kd_71 ln_71 (in_71 hS) dX9_orderOf_95 hf (fun hf => ?_)
    refine g_nameS hf (fun s1 hf => ?_)
    refine g_iinc (v' := v2 + 1) (lv' := [(2, .int (v2 + 1)), (0, .ref (ad w 61)), (1, .int v1), (3, .int v3), (4, .int v4)]) C dX9_orderOf_96 2 rfl rfl (by decide) rfl ?_
    refine g_sub [1, 2, 0, 3] rfl ?_
    exact j99 k4 q4 _ _ _ _ hf
  have j28 : ∀ (k88 : Int32 → Int32 → Int32 → Int32 → Mem → Option (Int32 × Mem)), (∀ (v1 : Int32) (v2 : Int32) (v3 : Int32) (v4 : Int32) (s : Mem), k88 v1 v2 v3 v4 s = some (r, s') → G x (QI x w r s') 5 w 88 [(0, .ref (ad w 61)), (1, .int v1), (2, .int v2), (3, .int v3), (4, .int v4)] [] s) → ∀ (n : Nat), ∀ (v1 : Int32) (v2 : Int32) (v3 : Int32) (v4 : Int32) (s : Mem), f_X9_orderOf_L28 N k88 n v1 v2 v3 v4 s = some (r, s') → G x (QI x w r s') 5 w 28 [(0, .ref (ad w 61)), (1, .int v1), (2, .int v2), (3, .int v3), (4, .int v4)] [] s := by
    intro k88 q88 n
    induction n with
    | zero => intro v1 v2 v3 v4 s hf; cases hf
    | succ n ih =>
      intro v1 v2 v3 v4 s hf
      unfold f_X9_orderOf_L28 at hf
      refine g_iload C dX9_orderOf_28 4 rfl ?_
      refine g_if_le (tgt := 88) C dX9_orderOf_30 (by decide) hf (fun hf => ?_) (fun hf => ?_)
      · exact q88 _ _ _ _ _ hf
      · refine g_aload_n C dX9_orderOf_33 rfl 0 rfl ?_
        refine g_get C (R := RX9) (T := TX9) (N := 48) (k := 3) (v := .ref (ad w 63)) kd_61 (by decide) rfl (in_61 hS) hinX9 (by decide) fl_X9_13 rfl rfl dX9_orderOf_34 ?_
        refine g_bipush C (v := 6) dX9_orderOf_37 (by decide) ?_
        refine g_aload_n C dX9_orderOf_39 rfl 0 rfl ?_
        refine g_get C (R := RX9) (T := TX9) (N := 48) (k := 15) (v := .ref (ad w 71)) kd_61 (by decide) rfl (in_61 hS) hinX9 (by decide) fl_X9_37 rfl rfl dX9_orderOf_40 ?_
        refine g_iload C dX9_orderOf_43 4 rfl ?_
        refine g_iconst C (v := 1) dX9_orderOf_45 rfl ?_
        refine g_isub C dX9_orderOf_46 ?_
        refine g_iald C kd_71 ln_71 (in_71 hS) dX9_orderOf_47 hf (fun hf => ?_)
        refine g_imul C dX9_orderOf_48 ?_
        refine g_iconst C (v := 2) dX9_orderOf_49 rfl ?_
        refine g_iadd C dX9_orderOf_50 ?_
        refine g_iald C kd_63 ln_63 (in_63 hS) dX9_orderOf_51 hf (fun hf => ?_)
        refine g_aload_n C dX9_orderOf_52 rfl 0 rfl ?_
        refine g_get C (R := RX9) (T := TX9) (N := 48) (k := 3) (v := .ref (ad w 63)) kd_61 (by decide) rfl (in_61 hS) hinX9 (by decide) fl_X9_13 rfl rfl dX9_orderOf_53 ?_
        refine g_bipush C (v := 6) dX9_orderOf_56 (by decide) ?_
        refine g_iload_n C dX9_orderOf_58 rfl 3 rfl ?_
        refine g_imul C dX9_orderOf_59 ?_
        refine g_iconst C (v := 2) dX9_orderOf_60 rfl ?_
        refine g_iadd C dX9_orderOf_61 ?_
        refine g_iald C kd_63 ln_63 (in_63 hS) dX9_orderOf_62 hf (fun hf => ?_)
        refine g_icmp_le (tgt := 88) C dX9_orderOf_63 (by decide) hf (fun hf => ?_) (fun hf => ?_)
        · exact q88 _ _ _ _ _ hf
        · refine g_aload_n C dX9_orderOf_66 rfl 0 rfl ?_
          refine g_get C (R := RX9) (T := TX9) (N := 48) (k := 15) (v := .ref (ad w 71)) kd_61 (by decide) rfl (in_61 hS) hinX9 (by decide) fl_X9_37 rfl rfl dX9_orderOf_67 ?_
          refine g_iload C dX9_orderOf_70 4 rfl ?_
          refine g_aload_n C dX9_orderOf_72 rfl 0 rfl ?_
          refine g_get C (R := RX9) (T := TX9) (N := 48) (k := 15) (v := .ref (ad w 71)) kd_61 (by decide) rfl (in_61 hS) hinX9 (by decide) fl_X9_37 rfl rfl dX9_orderOf_73 ?_
          refine g_iload C dX9_orderOf_76 4 rfl ?_
          refine g_iconst C (v := 1) dX9_orderOf_78 rfl ?_
          refine g_isub C dX9_orderOf_79 ?_
          refine g_iald C kd_71 ln_71 (in_71 hS) dX9_orderOf_80 hf (fun hf => ?_)
          refine g_iast C kd_71 ln_71 (in_71 hS) dX9_orderOf_81 hf (fun hf => ?_)
          refine g_nameS hf (fun s1 hf => ?_)
          refine g_iinc (v' := v4 + (-1)) (lv' := [(4, .int (v4 + (-1))), (0, .ref (ad w 61)), (1, .int v1), (2, .int v2), (3, .int v3)]) C dX9_orderOf_82 4 rfl rfl (by decide) rfl ?_
          refine g_goto (tgt := 28) C dX9_orderOf_85 (by decide) ?_
          refine g_sub [1, 2, 3, 4, 0] rfl ?_
          exact ih _ _ _ _ _ hf
  have j4 : ∀ (n : Nat), ∀ (v1 : Int32) (v2 : Int32) (v3 : Int32) (s : Mem), f_X9_orderOf_L4 N n v1 v2 v3 s = some (r, s') → G x (QI x w r s') 5 w 4 [(0, .ref (ad w 61)), (1, .int v1), (2, .int v2), (3, .int v3)] [] s := by
    intro n
    induction n with
    | zero => intro v1 v2 v3 s hf; cases hf
    | succ n ih =>
      intro v1 v2 v3 s hf
      unfold f_X9_orderOf_L4 at hf
      refine g_iload_n C dX9_orderOf_4 rfl 3 rfl ?_
      refine g_aload_n C dX9_orderOf_5 rfl 0 rfl ?_
      refine g_get C (R := RX9) (T := TX9) (N := 48) (k := 2) (v := .int (rI s 61 2)) kd_61 (by decide) rfl (in_61 hS) hinX9 (by decide) fl_X9_97 rfl rfl dX9_orderOf_6 ?_
      refine g_icmp_ge (tgt := 105) C dX9_orderOf_9 (by decide) hf (fun hf => ?_) (fun hf => ?_)
      · refine g_iload_n C dX9_orderOf_105 rfl 2 rfl ?_
        exact g_iret C dX9_orderOf_106 hf
      · refine g_aload_n C dX9_orderOf_12 rfl 0 rfl ?_
        refine g_get C (R := RX9) (T := TX9) (N := 48) (k := 3) (v := .ref (ad w 63)) kd_61 (by decide) rfl (in_61 hS) hinX9 (by decide) fl_X9_13 rfl rfl dX9_orderOf_13 ?_
        refine g_bipush C (v := 6) dX9_orderOf_16 (by decide) ?_
        refine g_iload_n C dX9_orderOf_18 rfl 3 rfl ?_
        refine g_imul C dX9_orderOf_19 ?_
        refine g_iald C kd_63 ln_63 (in_63 hS) dX9_orderOf_20 hf (fun hf => ?_)
        refine g_iload_n C dX9_orderOf_21 rfl 1 rfl ?_
        refine g_icmp_ne (tgt := 99) C dX9_orderOf_22 (by decide) hf (fun hf => ?_) (fun hf => ?_)
        · exact j99 (f_X9_orderOf_L4 N n) ih _ _ _ _ hf
        · refine g_iload_n C dX9_orderOf_25 rfl 2 rfl ?_
          refine g_istore (lv' := [(4, .int v2), (0, .ref (ad w 61)), (1, .int v1), (2, .int v2), (3, .int v3)]) C dX9_orderOf_26 (by decide) rfl ?_
          refine g_sub [1, 2, 3, 4, 0] rfl ?_
          exact j28 (f_X9_orderOf_j88 N (f_X9_orderOf_L4 N n)) (j88 (f_X9_orderOf_L4 N n) ih) N _ _ _ _ _ hf
  refine g_lv (lv' := [(0, .ref (ad w 61)), (1, .int a1)]) rfl ?_
  unfold f_X9_orderOf at hf
  refine g_iconst C (v := 0) dX9_orderOf_0 rfl ?_
  refine g_istore_n (lv' := [(2, .int 0), (0, .ref (ad w 61)), (1, .int a1)]) C dX9_orderOf_1 rfl (by decide) rfl ?_
  refine g_iconst C (v := 0) dX9_orderOf_2 rfl ?_
  refine g_istore_n (lv' := [(3, .int 0), (2, .int 0), (0, .ref (ad w 61)), (1, .int a1)]) C dX9_orderOf_3 rfl (by decide) rfl ?_
  refine g_sub [2, 3, 1, 0] rfl ?_
  exact j4 N _ _ _ _ hf

set_option maxHeartbeats 4000000 in
set_option maxRecDepth 100000 in
theorem c_X9_agree (l : Launch) (N : Nat) (w : WX) (hS : SS w = Sm) (a1 : Int32) (a2 : Int32) {s s' : Mem} {r : Bool} (hf : f_X9_agree N a1 a2 s = some (r, s')) : CB l yX9_agree (wz yX9_agree cX9_agree 6 (some .boolean)) ({ frames := 2, cells := 0, slots := 0, locals := 48 } : Room) [.ref (ad w 61), .int a1, .int a2] w s r s' := by
  refine met_startB (cc := cX9_agree) (ret := (some .boolean)) (own := RX9) (maxL := 6) (by decide) rfl (Nat.le_of_ble_eq_true rfl) (fun x C hR hl => ?_)
  have j54 : ∀ (k2 : Int32 → Int32 → Int32 → Mem → Option (Bool × Mem)), (∀ (v1 : Int32) (v2 : Int32) (v3 : Int32) (s : Mem), k2 v1 v2 v3 s = some (r, s') → G x (QB x w r s') 6 w 2 [(0, .ref (ad w 61)), (1, .int v1), (2, .int v2), (3, .int v3)] [] s) → ∀ (v1 : Int32) (v2 : Int32) (v3 : Int32) (v4 : Bool) (s : Mem), f_X9_agree_j54 N k2 v1 v2 v3 v4 s = some (r, s') → G x (QB x w r s') 6 w 54 [(0, .ref (ad w 61)), (1, .int v1), (2, .int v2), (3, .int v3), (4, .int (bI v4))] [] s := by
    intro k2 q2 v1 v2 v3 v4 s hf
    unfold f_X9_agree_j54 at hf
    refine g_iload C dX9_agree_54 4 rfl ?_
    refine g_ifeqB (tgt := 61) C dX9_agree_56 (by decide) hf (fun hf => ?_) (fun hf => ?_)
    · refine g_iinc (v' := v3 + 1) (lv' := [(3, .int (v3 + 1)), (0, .ref (ad w 61)), (1, .int v1), (2, .int v2), (4, .int (bI v4))]) C dX9_agree_61 3 rfl rfl (by decide) rfl ?_
      refine g_goto (tgt := 2) C dX9_agree_64 (by decide) ?_
      refine g_sub [1, 2, 3, 0] rfl ?_
      exact q2 _ _ _ _ hf
    · refine g_iconst C (v := 1) dX9_agree_59 rfl ?_
      exact g_zret (v := true) C dX9_agree_60 hf
  have j46 : ∀ (k15 : Int32 → Int32 → Int32 → Bool → Int32 → Mem → Option (Bool × Mem)) (k54 : Int32 → Int32 → Int32 → Bool → Mem → Option (Bool × Mem)), (∀ (v1 : Int32) (v2 : Int32) (v3 : Int32) (v4 : Bool) (v5 : Int32) (s : Mem), k15 v1 v2 v3 v4 v5 s = some (r, s') → G x (QB x w r s') 6 w 15 [(0, .ref (ad w 61)), (1, .int v1), (2, .int v2), (3, .int v3), (4, .int (bI v4)), (5, .int v5)] [] s) → (∀ (v1 : Int32) (v2 : Int32) (v3 : Int32) (v4 : Bool) (s : Mem), k54 v1 v2 v3 v4 s = some (r, s') → G x (QB x w r s') 6 w 54 [(0, .ref (ad w 61)), (1, .int v1), (2, .int v2), (3, .int v3), (4, .int (bI v4))] [] s) → ∀ (v1 : Int32) (v2 : Int32) (v3 : Int32) (v5 : Int32) (p0 : Bool) (s : Mem), f_X9_agree_j46 N k15 k54 v1 v2 v3 v5 p0 s = some (r, s') → G x (QB x w r s') 6 w 46 [(0, .ref (ad w 61)), (1, .int v1), (2, .int v2), (3, .int v3), (5, .int v5)] [.int (bI p0)] s := by
    intro k15 k54 q15 q54 v1 v2 v3 v5 p0 s hf
    unfold f_X9_agree_j46 at hf
    refine g_istore (lv' := [(4, .int (bI p0)), (0, .ref (ad w 61)), (1, .int v1), (2, .int v2), (3, .int v3), (5, .int v5)]) C dX9_agree_46 (by decide) rfl ?_
    refine g_iinc (v' := v5 + 1) (lv' := [(5, .int (v5 + 1)), (4, .int (bI p0)), (0, .ref (ad w 61)), (1, .int v1), (2, .int v2), (3, .int v3)]) C dX9_agree_48 5 rfl rfl (by decide) rfl ?_
    refine g_goto (tgt := 15) C dX9_agree_51 (by decide) ?_
    refine g_sub [2, 3, 4, 5, 1, 0] rfl ?_
    exact q15 _ _ _ _ _ _ hf
  have j45 : ∀ (k15 : Int32 → Int32 → Int32 → Bool → Int32 → Mem → Option (Bool × Mem)) (k54 : Int32 → Int32 → Int32 → Bool → Mem → Option (Bool × Mem)), (∀ (v1 : Int32) (v2 : Int32) (v3 : Int32) (v4 : Bool) (v5 : Int32) (s : Mem), k15 v1 v2 v3 v4 v5 s = some (r, s') → G x (QB x w r s') 6 w 15 [(0, .ref (ad w 61)), (1, .int v1), (2, .int v2), (3, .int v3), (4, .int (bI v4)), (5, .int v5)] [] s) → (∀ (v1 : Int32) (v2 : Int32) (v3 : Int32) (v4 : Bool) (s : Mem), k54 v1 v2 v3 v4 s = some (r, s') → G x (QB x w r s') 6 w 54 [(0, .ref (ad w 61)), (1, .int v1), (2, .int v2), (3, .int v3), (4, .int (bI v4))] [] s) → ∀ (v1 : Int32) (v2 : Int32) (v3 : Int32) (v5 : Int32) (s : Mem), f_X9_agree_j45 N k15 k54 v1 v2 v3 v5 s = some (r, s') → G x (QB x w r s') 6 w 45 [(0, .ref (ad w 61)), (1, .int v1), (2, .int v2), (3, .int v3), (5, .int v5)] [] s := by
    intro k15 k54 q15 q54 v1 v2 v3 v5 s hf
    unfold f_X9_agree_j45 at hf
    refine g_iconst C (v := 0) dX9_agree_45 rfl ?_
    exact j46 k15 k54 q15 q54 _ _ _ _ _ _ hf
  have j15 : ∀ (k54 : Int32 → Int32 → Int32 → Bool → Mem → Option (Bool × Mem)), (∀ (v1 : Int32) (v2 : Int32) (v3 : Int32) (v4 : Bool) (s : Mem), k54 v1 v2 v3 v4 s = some (r, s') → G x (QB x w r s') 6 w 54 [(0, .ref (ad w 61)), (1, .int v1), (2, .int v2), (3, .int v3), (4, .int (bI v4))] [] s) → ∀ (n : Nat), ∀ (v1 : Int32) (v2 : Int32) (v3 : Int32) (v4 : Bool) (v5 : Int32) (s : Mem), f_X9_agree_L15 N k54 n v1 v2 v3 v4 v5 s = some (r, s') → G x (QB x w r s') 6 w 15 [(0, .ref (ad w 61)), (1, .int v1), (2, .int v2), (3, .int v3), (4, .int (bI v4)), (5, .int v5)] [] s := by
    intro k54 q54 n
    induction n with
    | zero => intro v1 v2 v3 v4 v5 s hf; cases hf
    | succ n ih =>
      intro v1 v2 v3 v4 v5 s hf
      unfold f_X9_agree_L15 at hf
      refine g_iload C dX9_agree_15 5 rfl ?_
      refine g_iload_n C dX9_agree_17 rfl 2 rfl ?_
      refine g_icmp_ge (tgt := 54) C dX9_agree_18 (by decide) hf (fun hf => ?_) (fun hf => ?_)
      · refine g_sub [0, 1, 2, 3, 4] rfl ?_
        exact q54 _ _ _ _ _ hf
      · refine g_iload C dX9_agree_21 4 rfl ?_
        refine g_ifeqB (tgt := 45) C dX9_agree_23 (by decide) hf (fun hf => ?_) (fun hf => ?_)
        · refine g_sub [0, 1, 2, 3, 5] rfl ?_
          exact j45 (f_X9_agree_L15 N k54 n) k54 ih q54 _ _ _ _ _ hf
        · refine g_aload_n C dX9_agree_26 rfl 0 rfl ?_
          refine g_aload_n C dX9_agree_27 rfl 0 rfl ?_
          refine g_get C (R := RX9) (T := TX9) (N := 48) (k := 15) (v := .ref (ad w 71)) kd_61 (by decide) rfl (in_61 hS) hinX9 (by decide) fl_X9_37 rfl rfl dX9_agree_28 ?_
          refine g_iload C dX9_agree_31 5 rfl ?_
          refine g_iald C kd_71 ln_71 (in_71 hS) dX9_agree_33 hf (fun hf => ?_)
          refine g_iload_n C dX9_agree_34 rfl 3 rfl ?_
          refine g_callVB C (R := RX9) (T := TX9) (N := 48) [.int (rI s 71 v5.toNatClampNeg), .int v3] (fun _ _ h => c_X9_spans (kl x) N w hS _ _ h) (g_cwV C hR ml_X9_121 im_X9_spans sl_X9_spans ini_X9 cd_X9_spans hd_X9_spans (by decide)) kd_61 (by decide) rfl (in_61 hS) rfl _ rfl (Nat.le_of_ble_eq_true rfl) dX9_agree_35 hf (fun r1 s1 hf => ?_)
          refine g_ifeqB (tgt := 45) C dX9_agree_38 (by decide) hf (fun hf => ?_) (fun hf => ?_)
          · refine g_sub [0, 1, 2, 3, 5] rfl ?_
            exact j45 (f_X9_agree_L15 N k54 n) k54 ih q54 _ _ _ _ _ hf
          · refine g_iconst C (v := 1) dX9_agree_41 rfl ?_
            refine g_goto (tgt := 46) C dX9_agree_42 (by decide) ?_
            refine g_sub [0, 1, 2, 3, 5] rfl ?_
            exact j46 (f_X9_agree_L15 N k54 n) k54 ih q54 _ _ _ _ _ _ hf
  have j2 : ∀ (n : Nat), ∀ (v1 : Int32) (v2 : Int32) (v3 : Int32) (s : Mem), f_X9_agree_L2 N n v1 v2 v3 s = some (r, s') → G x (QB x w r s') 6 w 2 [(0, .ref (ad w 61)), (1, .int v1), (2, .int v2), (3, .int v3)] [] s := by
    intro n
    induction n with
    | zero => intro v1 v2 v3 s hf; cases hf
    | succ n ih =>
      intro v1 v2 v3 s hf
      unfold f_X9_agree_L2 at hf
      refine g_iload_n C dX9_agree_2 rfl 3 rfl ?_
      refine g_sipush C (v := 161) dX9_agree_3 (by decide) ?_
      refine g_icmp_ge (tgt := 67) C dX9_agree_6 (by decide) hf (fun hf => ?_) (fun hf => ?_)
      · refine g_iconst C (v := 0) dX9_agree_67 rfl ?_
        exact g_zret (v := false) C dX9_agree_68 hf
      · refine g_iconst C (v := 1) dX9_agree_9 rfl ?_
        refine g_istore (lv' := [(4, .int 1), (0, .ref (ad w 61)), (1, .int v1), (2, .int v2), (3, .int v3)]) C dX9_agree_10 (by decide) rfl ?_
        refine g_iload_n C dX9_agree_12 rfl 2 rfl ?_
        refine g_istore (lv' := [(5, .int v1), (4, .int 1), (0, .ref (ad w 61)), (1, .int v1), (2, .int v2), (3, .int v3)]) C dX9_agree_13 (by decide) rfl ?_
        refine g_sub [2, 3, 4, 5, 1, 0] rfl ?_
        exact j15 (f_X9_agree_j54 N (f_X9_agree_L2 N n)) (j54 (f_X9_agree_L2 N n) ih) N _ _ _ _ _ _ hf
  refine g_lv (lv' := [(0, .ref (ad w 61)), (1, .int a1), (2, .int a2)]) rfl ?_
  unfold f_X9_agree at hf
  refine g_iconst C (v := 0) dX9_agree_0 rfl ?_
  refine g_istore_n (lv' := [(3, .int 0), (0, .ref (ad w 61)), (1, .int a1), (2, .int a2)]) C dX9_agree_1 rfl (by decide) rfl ?_
  refine g_sub [1, 2, 3, 0] rfl ?_
  exact j2 N _ _ _ _ hf

set_option maxHeartbeats 4000000 in
set_option maxRecDepth 100000 in
theorem c_X9_cut (l : Launch) (N : Nat) (w : WX) (hS : SS w = Sm) (a1 : Int32) {s s' : Mem} {r : Int32} (hf : f_X9_cut N a1 s = some (r, s')) : CI l yX9_cut (wz yX9_cut cX9_cut 4 (some .int)) ({ frames := 3, cells := 0, slots := 0, locals := 73 } : Room) [.ref (ad w 61), .int a1] w s r s' := by
  refine met_startI (cc := cX9_cut) (ret := (some .int)) (own := RX9) (maxL := 4) (by decide) rfl (Nat.le_of_ble_eq_true rfl) (fun x C hR hl => ?_)
  have j47 : ∀ (k18 : Int32 → Int32 → Mem → Option (Int32 × Mem)), (∀ (v2 : Int32) (v3 : Int32) (s : Mem), k18 v2 v3 s = some (r, s') → G x (QI x w r s') 4 w 18 [(0, .ref (ad w 61)), (2, .int v2), (3, .int v3)] [] s) → ∀ (v2 : Int32) (v3 : Int32) (s : Mem), f_X9_cut_j47 N k18 v2 v3 s = some (r, s') → G x (QI x w r s') 4 w 47 [(0, .ref (ad w 61)), (2, .int v2), (3, .int v3)] [] s := by
    intro k18 q18 v2 v3 s hf
    unfold f_X9_cut_j47 at hf
    refine g_iinc (v' := v3 + 1) (lv' := [(3, .int (v3 + 1)), (0, .ref (ad w 61)), (2, .int v2)]) C dX9_cut_47 2 rfl rfl (by decide) rfl ?_
    refine g_goto (tgt := 18) C dX9_cut_50 (by decide) ?_
    refine g_sub [1, 2, 0] rfl ?_
    exact q18 _ _ _ hf
  have j18 : ∀ (n : Nat), ∀ (v2 : Int32) (v3 : Int32) (s : Mem), f_X9_cut_L18 N n v2 v3 s = some (r, s') → G x (QI x w r s') 4 w 18 [(0, .ref (ad w 61)), (2, .int v2), (3, .int v3)] [] s := by
    intro n
    induction n with
    | zero => intro v2 v3 s hf; cases hf
    | succ n ih =>
      intro v2 v3 s hf
      unfold f_X9_cut_L18 at hf
      refine g_iload_n C dX9_cut_18 rfl 2 rfl ?_
      refine g_iload_n C dX9_cut_19 rfl 1 rfl ?_
      refine g_icmp_ge (tgt := 53) C dX9_cut_20 (by decide) hf (fun hf => ?_) (fun hf => ?_)
      · refine g_bipush C (v := (-3)) dX9_cut_53 (by decide) ?_
        exact g_iret C dX9_cut_55 hf
      · refine g_aload_n C dX9_cut_23 rfl 0 rfl ?_
        refine g_iload_n C dX9_cut_24 rfl 2 rfl ?_
        refine g_iload_n C dX9_cut_25 rfl 1 rfl ?_
        refine g_callVB C (R := RX9) (T := TX9) (N := 48) [.int v3, .int v2] (fun _ _ h => c_X9_agree (kl x) N w hS _ _ h) (g_cwV C hR ml_X9_174 im_X9_agree sl_X9_agree ini_X9 cd_X9_agree hd_X9_agree (by decide)) kd_61 (by decide) rfl (in_61 hS) rfl _ rfl (Nat.le_of_ble_eq_true rfl) dX9_cut_26 hf (fun r1 s1 hf => ?_)
        refine g_ifeqB (tgt := 47) C dX9_cut_29 (by decide) hf (fun hf => ?_) (fun hf => ?_)
        · exact j47 (f_X9_cut_L18 N n) ih _ _ _ hf
        · refine g_iload_n C dX9_cut_32 rfl 2 rfl ?_
          refine g_if_eq (tgt := 45) C dX9_cut_33 (by decide) hf (fun hf => ?_) (fun hf => ?_)
          · refine g_iload_n C dX9_cut_45 rfl 2 rfl ?_
            exact g_iret C dX9_cut_46 hf
          · refine g_aload_n C dX9_cut_36 rfl 0 rfl ?_
            refine g_iconst C (v := 0) dX9_cut_37 rfl ?_
            refine g_iload_n C dX9_cut_38 rfl 2 rfl ?_
            refine g_callVB C (R := RX9) (T := TX9) (N := 48) [.int 0, .int v3] (fun _ _ h => c_X9_agree (kl x) N w hS _ _ h) (g_cwV C hR ml_X9_174 im_X9_agree sl_X9_agree ini_X9 cd_X9_agree hd_X9_agree (by decide)) kd_61 (by decide) rfl (in_61 hS) rfl _ rfl (Nat.le_of_ble_eq_true rfl) dX9_cut_39 hf (fun r2 s2 hf => ?_)
            refine g_ifeqB (tgt := 47) C dX9_cut_42 (by decide) hf (fun hf => ?_) (fun hf => ?_)
            · exact j47 (f_X9_cut_L18 N n) ih _ _ _ hf
            · refine g_iload_n C dX9_cut_45 rfl 2 rfl ?_
              exact g_iret C dX9_cut_46 hf
  refine g_lv (lv' := [(0, .ref (ad w 61)), (1, .int a1)]) rfl ?_
  unfold f_X9_cut at hf
  refine g_aload_n C dX9_cut_0 rfl 0 rfl ?_
  refine g_iload_n C dX9_cut_1 rfl 1 rfl ?_
  refine g_callVB C (R := RX9) (T := TX9) (N := 48) [.int a1] (fun _ _ h => c_X9_isPerson (kl x) N w hS _ h) (g_cwV C hR ml_X9_100 im_X9_isPerson sl_X9_isPerson ini_X9 cd_X9_isPerson hd_X9_isPerson (by decide)) kd_61 (by decide) rfl (in_61 hS) rfl _ rfl (Nat.le_of_ble_eq_true rfl) dX9_cut_2 hf (fun r1 s1 hf => ?_)
  refine g_ifneB (tgt := 10) C dX9_cut_5 (by decide) hf (fun hf => ?_) (fun hf => ?_)
  · refine g_aload_n C dX9_cut_10 rfl 0 rfl ?_
    refine g_iload_n C dX9_cut_11 rfl 1 rfl ?_
    refine g_callVI C (R := RX9) (T := TX9) (N := 48) [.int a1] (fun _ _ h => c_X9_orderOf (kl x) N w hS _ h) (g_cwV C hR ml_X9_171 im_X9_orderOf sl_X9_orderOf ini_X9 cd_X9_orderOf hd_X9_orderOf (by decide)) kd_61 (by decide) rfl (in_61 hS) rfl _ rfl (Nat.le_of_ble_eq_true rfl) dX9_cut_12 hf (fun r2 s2 hf => ?_)
    refine g_istore_n (lv' := [(2, .int r2), (0, .ref (ad w 61)), (1, .int a1)]) C dX9_cut_15 rfl (by decide) rfl ?_
    refine g_iconst C (v := 0) dX9_cut_16 rfl ?_
    refine g_istore_n (lv' := [(3, .int 0), (2, .int r2), (0, .ref (ad w 61)), (1, .int a1)]) C dX9_cut_17 rfl (by decide) rfl ?_
    refine g_sub [2, 1, 0] rfl ?_
    exact j18 N _ _ _ hf
  · refine g_iconst C (v := (-1)) dX9_cut_8 rfl ?_
    exact g_iret C dX9_cut_9 hf

set_option maxHeartbeats 4000000 in
set_option maxRecDepth 100000 in
theorem c_X9_rest (l : Launch) (N : Nat) (w : WX) (hS : SS w = Sm) (a1 : Int32) (a2 : Int32) {s s' : Mem} {r : Int32} (hf : f_X9_rest N a1 a2 s = some (r, s')) : CI l yX9_rest (wz yX9_rest cX9_rest 4 (some .int)) ({ frames := 2, cells := 0, slots := 0, locals := 43 } : Room) [.ref (ad w 61), .int a1, .int a2] w s r s' := by
  refine met_startI (cc := cX9_rest) (ret := (some .int)) (own := RX9) (maxL := 4) (by decide) rfl (Nat.le_of_ble_eq_true rfl) (fun x C hR hl => ?_)
  have j68 : ∀ (v1 : Int32) (v2 : Int32) (s : Mem), f_X9_rest_j68 N v1 v2 s = some (r, s') → G x (QI x w r s') 4 w 68 [(0, .ref (ad w 61)), (1, .int v1), (2, .int v2)] [] s := by
    intro v1 v2 s hf
    unfold f_X9_rest_j68 at hf
    refine g_aload_n C dX9_rest_68 rfl 0 rfl ?_
    refine g_get C (R := RX9) (T := TX9) (N := 48) (k := 5) (v := .int (rI s 61 5)) kd_61 (by decide) rfl (in_61 hS) hinX9 (by decide) fl_X9_177 rfl rfl dX9_rest_69 ?_
    refine g_bipush C (v := 40) dX9_rest_72 (by decide) ?_
    refine g_icmp_ne (tgt := 80) C dX9_rest_74 (by decide) hf (fun hf => ?_) (fun hf => ?_)
    · refine g_aload_n C dX9_rest_80 rfl 0 rfl ?_
      refine g_get C (R := RX9) (T := TX9) (N := 48) (k := 6) (v := .ref (ad w 65)) kd_61 (by decide) rfl (in_61 hS) hinX9 (by decide) fl_X9_19 rfl rfl dX9_rest_81 ?_
      refine g_iconst C (v := 2) dX9_rest_84 rfl ?_
      refine g_aload_n C dX9_rest_85 rfl 0 rfl ?_
      refine g_get C (R := RX9) (T := TX9) (N := 48) (k := 5) (v := .int (rI s 61 5)) kd_61 (by decide) rfl (in_61 hS) hinX9 (by decide) fl_X9_177 rfl rfl dX9_rest_86 ?_
      refine g_imul C dX9_rest_89 ?_
      refine g_iload_n C dX9_rest_90 rfl 1 rfl ?_
      refine g_iast C kd_65 ln_65 (in_65 hS) dX9_rest_91 hf (fun hf => ?_)
      refine g_nameS hf (fun s1 hf => ?_)
      refine g_aload_n C dX9_rest_92 rfl 0 rfl ?_
      refine g_get C (R := RX9) (T := TX9) (N := 48) (k := 6) (v := .ref (ad w 65)) kd_61 (by decide) rfl (in_61 hS) hinX9 (by decide) fl_X9_19 rfl rfl dX9_rest_93 ?_
      refine g_iconst C (v := 2) dX9_rest_96 rfl ?_
      refine g_aload_n C dX9_rest_97 rfl 0 rfl ?_
      refine g_get C (R := RX9) (T := TX9) (N := 48) (k := 5) (v := .int (rI s1 61 5)) kd_61 (by decide) rfl (in_61 hS) hinX9 (by decide) fl_X9_177 rfl rfl dX9_rest_98 ?_
      refine g_imul C dX9_rest_101 ?_
      refine g_iconst C (v := 1) dX9_rest_102 rfl ?_
      refine g_iadd C dX9_rest_103 ?_
      refine g_iload_n C dX9_rest_104 rfl 2 rfl ?_
      refine g_iast C kd_65 ln_65 (in_65 hS) dX9_rest_105 hf (fun hf => ?_)
      refine g_nameS hf (fun s2 hf => ?_)
      refine g_aload_n C dX9_rest_106 rfl 0 rfl ?_
      refine g_dup C dX9_rest_107 rfl ?_
      refine g_get C (R := RX9) (T := TX9) (N := 48) (k := 5) (v := .int (rI s2 61 5)) kd_61 (by decide) rfl (in_61 hS) hinX9 (by decide) fl_X9_177 rfl rfl dX9_rest_108 ?_
      refine g_iconst C (v := 1) dX9_rest_111 rfl ?_
      refine g_iadd C dX9_rest_112 ?_
      refine g_putI C (R := RX9) (T := TX9) (N := 48) (k := 5) (ty := .int) tyX9 tyX9_ok nmX9 kd_61 (by decide) rfl (in_61 hS) hinX9 (by decide) fl_X9_177 rfl rfl rfl rfl rfl (Nat.le_of_ble_eq_true rfl) fs_9_5 dX9_rest_113 ?_
      refine g_nameS hf (fun s3 hf => ?_)
      refine g_aload_n C dX9_rest_116 rfl 0 rfl ?_
      refine g_get C (R := RX9) (T := TX9) (N := 48) (k := 5) (v := .int (rI s3 61 5)) kd_61 (by decide) rfl (in_61 hS) hinX9 (by decide) fl_X9_177 rfl rfl dX9_rest_117 ?_
      exact g_iret C dX9_rest_120 hf
    · refine g_bipush C (v := (-2)) dX9_rest_77 (by decide) ?_
      exact g_iret C dX9_rest_79 hf
  have j62 : ∀ (k25 : Int32 → Int32 → Int32 → Mem → Option (Int32 × Mem)) (k68 : Int32 → Int32 → Mem → Option (Int32 × Mem)), (∀ (v1 : Int32) (v2 : Int32) (v3 : Int32) (s : Mem), k25 v1 v2 v3 s = some (r, s') → G x (QI x w r s') 4 w 25 [(0, .ref (ad w 61)), (1, .int v1), (2, .int v2), (3, .int v3)] [] s) → (∀ (v1 : Int32) (v2 : Int32) (s : Mem), k68 v1 v2 s = some (r, s') → G x (QI x w r s') 4 w 68 [(0, .ref (ad w 61)), (1, .int v1), (2, .int v2)] [] s) → ∀ (v1 : Int32) (v2 : Int32) (v3 : Int32) (s : Mem), f_X9_rest_j62 N k25 k68 v1 v2 v3 s = some (r, s') → G x (QI x w r s') 4 w 62 [(0, .ref (ad w 61)), (1, .int v1), (2, .int v2), (3, .int v3)] [] s := by
    intro k25 k68 q25 q68 v1 v2 v3 s hf
    unfold f_X9_rest_j62 at hf
    refine g_iinc (v' := v3 + 1) (lv' := [(3, .int (v3 + 1)), (0, .ref (ad w 61)), (1, .int v1), (2, .int v2)]) C dX9_rest_62 3 rfl rfl (by decide) rfl ?_
    refine g_goto (tgt := 25) C dX9_rest_65 (by decide) ?_
    refine g_sub [1, 2, 3, 0] rfl ?_
    exact q25 _ _ _ _ hf
  have j25 : ∀ (k68 : Int32 → Int32 → Mem → Option (Int32 × Mem)), (∀ (v1 : Int32) (v2 : Int32) (s : Mem), k68 v1 v2 s = some (r, s') → G x (QI x w r s') 4 w 68 [(0, .ref (ad w 61)), (1, .int v1), (2, .int v2)] [] s) → ∀ (n : Nat), ∀ (v1 : Int32) (v2 : Int32) (v3 : Int32) (s : Mem), f_X9_rest_L25 N k68 n v1 v2 v3 s = some (r, s') → G x (QI x w r s') 4 w 25 [(0, .ref (ad w 61)), (1, .int v1), (2, .int v2), (3, .int v3)] [] s := by
    intro k68 q68 n
    induction n with
    | zero => intro v1 v2 v3 s hf; cases hf
    | succ n ih =>
      intro v1 v2 v3 s hf
      unfold f_X9_rest_L25 at hf
      refine g_iload_n C dX9_rest_25 rfl 3 rfl ?_
      refine g_aload_n C dX9_rest_26 rfl 0 rfl ?_
      refine g_get C (R := RX9) (T := TX9) (N := 48) (k := 5) (v := .int (rI s 61 5)) kd_61 (by decide) rfl (in_61 hS) hinX9 (by decide) fl_X9_177 rfl rfl dX9_rest_27 ?_
      refine g_icmp_ge (tgt := 68) C dX9_rest_30 (by decide) hf (fun hf => ?_) (fun hf => ?_)
      · refine g_sub [0, 1, 2] rfl ?_
        exact q68 _ _ _ hf
      · refine g_aload_n C dX9_rest_33 rfl 0 rfl ?_
        refine g_get C (R := RX9) (T := TX9) (N := 48) (k := 6) (v := .ref (ad w 65)) kd_61 (by decide) rfl (in_61 hS) hinX9 (by decide) fl_X9_19 rfl rfl dX9_rest_34 ?_
        refine g_iconst C (v := 2) dX9_rest_37 rfl ?_
        refine g_iload_n C dX9_rest_38 rfl 3 rfl ?_
        refine g_imul C dX9_rest_39 ?_
        refine g_iald C kd_65 ln_65 (in_65 hS) dX9_rest_40 hf (fun hf => ?_)
        refine g_iload_n C dX9_rest_41 rfl 1 rfl ?_
        refine g_icmp_ne (tgt := 62) C dX9_rest_42 (by decide) hf (fun hf => ?_) (fun hf => ?_)
        · exact j62 (f_X9_rest_L25 N k68 n) k68 ih q68 _ _ _ _ hf
        · refine g_aload_n C dX9_rest_45 rfl 0 rfl ?_
          refine g_get C (R := RX9) (T := TX9) (N := 48) (k := 6) (v := .ref (ad w 65)) kd_61 (by decide) rfl (in_61 hS) hinX9 (by decide) fl_X9_19 rfl rfl dX9_rest_46 ?_
          refine g_iconst C (v := 2) dX9_rest_49 rfl ?_
          refine g_iload_n C dX9_rest_50 rfl 3 rfl ?_
          refine g_imul C dX9_rest_51 ?_
          refine g_iconst C (v := 1) dX9_rest_52 rfl ?_
          refine g_iadd C dX9_rest_53 ?_
          refine g_iald C kd_65 ln_65 (in_65 hS) dX9_rest_54 hf (fun hf => ?_)
          refine g_iload_n C dX9_rest_55 rfl 2 rfl ?_
          refine g_icmp_ne (tgt := 62) C dX9_rest_56 (by decide) hf (fun hf => ?_) (fun hf => ?_)
          · exact j62 (f_X9_rest_L25 N k68 n) k68 ih q68 _ _ _ _ hf
          · refine g_bipush C (v := (-4)) dX9_rest_59 (by decide) ?_
            exact g_iret C dX9_rest_61 hf
  refine g_lv (lv' := [(0, .ref (ad w 61)), (1, .int a1), (2, .int a2)]) rfl ?_
  unfold f_X9_rest at hf
  refine g_aload_n C dX9_rest_0 rfl 0 rfl ?_
  refine g_iload_n C dX9_rest_1 rfl 1 rfl ?_
  refine g_callVB C (R := RX9) (T := TX9) (N := 48) [.int a1] (fun _ _ h => c_X9_isPaper (kl x) N w hS _ h) (g_cwV C hR ml_X9_114 im_X9_isPaper sl_X9_isPaper ini_X9 cd_X9_isPaper hd_X9_isPaper (by decide)) kd_61 (by decide) rfl (in_61 hS) rfl _ rfl (Nat.le_of_ble_eq_true rfl) dX9_rest_2 hf (fun r1 s1 hf => ?_)
  refine g_ifeqB (tgt := 21) C dX9_rest_5 (by decide) hf (fun hf => ?_) (fun hf => ?_)
  · refine g_iconst C (v := (-1)) dX9_rest_21 rfl ?_
    exact g_iret C dX9_rest_22 hf
  · refine g_aload_n C dX9_rest_8 rfl 0 rfl ?_
    refine g_iload_n C dX9_rest_9 rfl 2 rfl ?_
    refine g_callVB C (R := RX9) (T := TX9) (N := 48) [.int a2] (fun _ _ h => c_X9_isPaper (kl x) N w hS _ h) (g_cwV C hR ml_X9_114 im_X9_isPaper sl_X9_isPaper ini_X9 cd_X9_isPaper hd_X9_isPaper (by decide)) kd_61 (by decide) rfl (in_61 hS) rfl _ rfl (Nat.le_of_ble_eq_true rfl) dX9_rest_10 hf (fun r2 s2 hf => ?_)
    refine g_ifeqB (tgt := 21) C dX9_rest_13 (by decide) hf (fun hf => ?_) (fun hf => ?_)
    · refine g_iconst C (v := (-1)) dX9_rest_21 rfl ?_
      exact g_iret C dX9_rest_22 hf
    · refine g_iload_n C dX9_rest_16 rfl 1 rfl ?_
      refine g_iload_n C dX9_rest_17 rfl 2 rfl ?_
      refine g_icmp_ne (tgt := 23) C dX9_rest_18 (by decide) hf (fun hf => ?_) (fun hf => ?_)
      · refine g_iconst C (v := 0) dX9_rest_23 rfl ?_
        refine g_istore_n (lv' := [(3, .int 0), (0, .ref (ad w 61)), (1, .int a1), (2, .int a2)]) C dX9_rest_24 rfl (by decide) rfl ?_
        refine g_sub [1, 2, 3, 0] rfl ?_
        exact j25 (f_X9_rest_j68 N) j68 N _ _ _ _ hf
      · refine g_iconst C (v := (-1)) dX9_rest_21 rfl ?_
        exact g_iret C dX9_rest_22 hf

set_option maxHeartbeats 4000000 in
set_option maxRecDepth 100000 in
theorem c_X9_under (l : Launch) (N : Nat) (w : WX) (hS : SS w = Sm) (a1 : Int32) {s s' : Mem} {r : Int32} (hf : f_X9_under N a1 s = some (r, s')) : CI l yX9_under (wz yX9_under cX9_under 4 (some .int)) ({ frames := 0, cells := 0, slots := 0, locals := 0 } : Room) [.ref (ad w 61), .int a1] w s r s' := by
  refine met_startI (cc := cX9_under) (ret := (some .int)) (own := RX9) (maxL := 4) (by decide) rfl (Nat.le_of_ble_eq_true rfl) (fun x C hR hl => ?_)
  have j71 : ∀ (k34 : Int32 → Int32 → Int32 → Mem → Option (Int32 × Mem)), (∀ (v1 : Int32) (v2 : Int32) (v3 : Int32) (s : Mem), k34 v1 v2 v3 s = some (r, s') → G x (QI x w r s') 4 w 34 [(0, .ref (ad w 61)), (1, .int v1), (2, .int v2), (3, .int v3)] [] s) → ∀ (v1 : Int32) (v3 : Int32) (p0 : Int32) (p1 : Int32) (s : Mem), f_X9_under_j71 N k34 v1 v3 p0 p1 s = some (r, s') → G x (QI x w r s') 4 w 71 [(0, .ref (ad w 61)), (1, .int v1), (3, .int v3)] [.int p0, .int p1] s := by
    intro k34 q34 v1 v3 p0 p1 s hf
    unfold f_X9_under_j71 at hf
    refine g_ior C dX9_under_71 ?_
    refine g_istore_n (lv' := [(2, .int (p1 ||| p0)), (0, .ref (ad w 61)), (1, .int v1), (3, .int v3)]) C dX9_under_72 rfl (by decide) rfl ?_
    refine g_iinc (v' := v3 + 1) (lv' := [(3, .int (v3 + 1)), (2, .int (p1 ||| p0)), (0, .ref (ad w 61)), (1, .int v1)]) C dX9_under_73 3 rfl rfl (by decide) rfl ?_
    refine g_goto (tgt := 34) C dX9_under_76 (by decide) ?_
    refine g_sub [2, 3, 1, 0] rfl ?_
    exact q34 _ _ _ _ hf
  have j34 : ∀ (n : Nat), ∀ (v1 : Int32) (v2 : Int32) (v3 : Int32) (s : Mem), f_X9_under_L34 N n v1 v2 v3 s = some (r, s') → G x (QI x w r s') 4 w 34 [(0, .ref (ad w 61)), (1, .int v1), (2, .int v2), (3, .int v3)] [] s := by
    intro n
    induction n with
    | zero => intro v1 v2 v3 s hf; cases hf
    | succ n ih =>
      intro v1 v2 v3 s hf
      unfold f_X9_under_L34 at hf
      refine g_iload_n C dX9_under_34 rfl 3 rfl ?_
      refine g_aload_n C dX9_under_35 rfl 0 rfl ?_
      refine g_get C (R := RX9) (T := TX9) (N := 48) (k := 5) (v := .int (rI s 61 5)) kd_61 (by decide) rfl (in_61 hS) hinX9 (by decide) fl_X9_177 rfl rfl dX9_under_36 ?_
      refine g_icmp_ge (tgt := 79) C dX9_under_39 (by decide) hf (fun hf => ?_) (fun hf => ?_)
      · refine g_iload_n C dX9_under_79 rfl 2 rfl ?_
        exact g_iret C dX9_under_80 hf
      · refine g_iload_n C dX9_under_42 rfl 2 rfl ?_
        refine g_aload_n C dX9_under_43 rfl 0 rfl ?_
        refine g_get C (R := RX9) (T := TX9) (N := 48) (k := 6) (v := .ref (ad w 65)) kd_61 (by decide) rfl (in_61 hS) hinX9 (by decide) fl_X9_19 rfl rfl dX9_under_44 ?_
        refine g_iconst C (v := 2) dX9_under_47 rfl ?_
        refine g_iload_n C dX9_under_48 rfl 3 rfl ?_
        refine g_imul C dX9_under_49 ?_
        refine g_iald C kd_65 ln_65 (in_65 hS) dX9_under_50 hf (fun hf => ?_)
        refine g_iload_n C dX9_under_51 rfl 1 rfl ?_
        refine g_icmp_ne (tgt := 70) C dX9_under_52 (by decide) hf (fun hf => ?_) (fun hf => ?_)
        · refine g_iconst C (v := 0) dX9_under_70 rfl ?_
          refine g_sub [0, 1, 3] rfl ?_
          exact j71 (f_X9_under_L34 N n) ih _ _ _ _ _ hf
        · refine g_iconst C (v := 1) dX9_under_55 rfl ?_
          refine g_aload_n C dX9_under_56 rfl 0 rfl ?_
          refine g_get C (R := RX9) (T := TX9) (N := 48) (k := 6) (v := .ref (ad w 65)) kd_61 (by decide) rfl (in_61 hS) hinX9 (by decide) fl_X9_19 rfl rfl dX9_under_57 ?_
          refine g_iconst C (v := 2) dX9_under_60 rfl ?_
          refine g_iload_n C dX9_under_61 rfl 3 rfl ?_
          refine g_imul C dX9_under_62 ?_
          refine g_iconst C (v := 1) dX9_under_63 rfl ?_
          refine g_iadd C dX9_under_64 ?_
          refine g_iald C kd_65 ln_65 (in_65 hS) dX9_under_65 hf (fun hf => ?_)
          refine g_ishl C dX9_under_66 ?_
          refine g_goto (tgt := 71) C dX9_under_67 (by decide) ?_
          refine g_sub [0, 1, 3] rfl ?_
          exact j71 (f_X9_under_L34 N n) ih _ _ _ _ _ hf
  have j31 : ∀ (v1 : Int32) (p0 : Int32) (s : Mem), f_X9_under_j31 N v1 p0 s = some (r, s') → G x (QI x w r s') 4 w 31 [(0, .ref (ad w 61)), (1, .int v1)] [.int p0] s := by
    intro v1 p0 s hf
    unfold f_X9_under_j31 at hf
    refine g_istore_n (lv' := [(2, .int p0), (0, .ref (ad w 61)), (1, .int v1)]) C dX9_under_31 rfl (by decide) rfl ?_
    refine g_iconst C (v := 0) dX9_under_32 rfl ?_
    refine g_istore_n (lv' := [(3, .int 0), (2, .int p0), (0, .ref (ad w 61)), (1, .int v1)]) C dX9_under_33 rfl (by decide) rfl ?_
    refine g_sub [2, 3, 1, 0] rfl ?_
    exact j34 N _ _ _ _ hf
  refine g_lv (lv' := [(0, .ref (ad w 61)), (1, .int a1)]) rfl ?_
  unfold f_X9_under at hf
  refine g_aload_n C dX9_under_0 rfl 0 rfl ?_
  refine g_get C (R := RX9) (T := TX9) (N := 48) (k := 3) (v := .ref (ad w 63)) kd_61 (by decide) rfl (in_61 hS) hinX9 (by decide) fl_X9_13 rfl rfl dX9_under_1 ?_
  refine g_bipush C (v := 6) dX9_under_4 (by decide) ?_
  refine g_iload_n C dX9_under_6 rfl 1 rfl ?_
  refine g_imul C dX9_under_7 ?_
  refine g_iconst C (v := 5) dX9_under_8 rfl ?_
  refine g_iadd C dX9_under_9 ?_
  refine g_iald C kd_63 ln_63 (in_63 hS) dX9_under_10 hf (fun hf => ?_)
  refine g_if_lt (tgt := 30) C dX9_under_11 (by decide) hf (fun hf => ?_) (fun hf => ?_)
  · refine g_iconst C (v := 0) dX9_under_30 rfl ?_
    exact j31 _ _ _ hf
  · refine g_iconst C (v := 1) dX9_under_14 rfl ?_
    refine g_aload_n C dX9_under_15 rfl 0 rfl ?_
    refine g_get C (R := RX9) (T := TX9) (N := 48) (k := 3) (v := .ref (ad w 63)) kd_61 (by decide) rfl (in_61 hS) hinX9 (by decide) fl_X9_13 rfl rfl dX9_under_16 ?_
    refine g_bipush C (v := 6) dX9_under_19 (by decide) ?_
    refine g_iload_n C dX9_under_21 rfl 1 rfl ?_
    refine g_imul C dX9_under_22 ?_
    refine g_iconst C (v := 5) dX9_under_23 rfl ?_
    refine g_iadd C dX9_under_24 ?_
    refine g_iald C kd_63 ln_63 (in_63 hS) dX9_under_25 hf (fun hf => ?_)
    refine g_ishl C dX9_under_26 ?_
    refine g_goto (tgt := 31) C dX9_under_27 (by decide) ?_
    exact j31 _ _ _ hf

set_option maxHeartbeats 4000000 in
set_option maxRecDepth 100000 in
theorem c_X9_standing (l : Launch) (N : Nat) (w : WX) (hS : SS w = Sm) {s s' : Mem} {r : Int32} (hf : f_X9_standing N s = some (r, s')) : CI l yX9_standing (wz yX9_standing cX9_standing 5 (some .int)) ({ frames := 1, cells := 0, slots := 0, locals := 23 } : Room) [.ref (ad w 61)] w s r s' := by
  refine met_startI (cc := cX9_standing) (ret := (some .int)) (own := RX9) (maxL := 5) (by decide) rfl (Nat.le_of_ble_eq_true rfl) (fun x C hR hl => ?_)
  have j55 : ∀ (k4 : Int32 → Bool → Mem → Option (Int32 × Mem)) (k12 : Int32 → Bool → Int32 → Mem → Option (Int32 × Mem)), (∀ (v1 : Int32) (v2 : Bool) (s : Mem), k4 v1 v2 s = some (r, s') → G x (QI x w r s') 5 w 4 [(0, .ref (ad w 61)), (1, .int v1), (2, .int (bI v2))] [] s) → (∀ (v1 : Int32) (v2 : Bool) (v3 : Int32) (s : Mem), k12 v1 v2 v3 s = some (r, s') → G x (QI x w r s') 5 w 12 [(0, .ref (ad w 61)), (1, .int v1), (2, .int (bI v2)), (3, .int v3)] [] s) → ∀ (v1 : Int32) (v2 : Bool) (v3 : Int32) (s : Mem), f_X9_standing_j55 N k4 k12 v1 v2 v3 s = some (r, s') → G x (QI x w r s') 5 w 55 [(0, .ref (ad w 61)), (1, .int v1), (2, .int (bI v2)), (3, .int v3)] [] s := by
    intro k4 k12 q4 q12 v1 v2 v3 s hf
    unfold f_X9_standing_j55 at hf
    refine g_iinc (v' := v3 + 1) (lv' := [(3, .int (v3 + 1)), (0, .ref (ad w 61)), (1, .int v1), (2, .int (bI v2))]) C dX9_standing_55 3 rfl rfl (by decide) rfl ?_
    refine g_goto (tgt := 12) C dX9_standing_58 (by decide) ?_
    refine g_sub [1, 2, 3, 0] rfl ?_
    exact q12 _ _ _ _ hf
  have j47 : ∀ (k4 : Int32 → Bool → Mem → Option (Int32 × Mem)) (k12 : Int32 → Bool → Int32 → Mem → Option (Int32 × Mem)), (∀ (v1 : Int32) (v2 : Bool) (s : Mem), k4 v1 v2 s = some (r, s') → G x (QI x w r s') 5 w 4 [(0, .ref (ad w 61)), (1, .int v1), (2, .int (bI v2))] [] s) → (∀ (v1 : Int32) (v2 : Bool) (v3 : Int32) (s : Mem), k12 v1 v2 v3 s = some (r, s') → G x (QI x w r s') 5 w 12 [(0, .ref (ad w 61)), (1, .int v1), (2, .int (bI v2)), (3, .int v3)] [] s) → ∀ (v1 : Int32) (v3 : Int32) (s : Mem), f_X9_standing_j47 N k4 k12 v1 v3 s = some (r, s') → G x (QI x w r s') 5 w 47 [(0, .ref (ad w 61)), (1, .int v1), (3, .int v3)] [] s := by
    intro k4 k12 q4 q12 v1 v3 s hf
    unfold f_X9_standing_j47 at hf
    refine g_iload_n C dX9_standing_47 rfl 1 rfl ?_
    refine g_iconst C (v := 1) dX9_standing_48 rfl ?_
    refine g_iload_n C dX9_standing_49 rfl 2 rfl ?_
    refine g_ishl C dX9_standing_50 ?_
    refine g_ior C dX9_standing_51 ?_
    refine g_istore_nN (lv' := fun x1 => [(1, .int x1), (0, .ref (ad w 61)), (3, .int v3)]) C dX9_standing_52 rfl (by decide) (fun _ => rfl) hf (fun x1 hf => ?_)
    refine g_iconst C (v := 1) dX9_standing_53 rfl ?_
    refine g_istore_n (lv' := [(2, .int 1), (1, .int x1), (0, .ref (ad w 61)), (3, .int v3)]) C dX9_standing_54 rfl (by decide) rfl ?_
    refine g_sub [2, 1, 0, 3] rfl ?_
    exact j55 k4 k12 q4 q12 _ _ _ _ hf
  have j12 : ∀ (k4 : Int32 → Bool → Mem → Option (Int32 × Mem)), (∀ (v1 : Int32) (v2 : Bool) (s : Mem), k4 v1 v2 s = some (r, s') → G x (QI x w r s') 5 w 4 [(0, .ref (ad w 61)), (1, .int v1), (2, .int (bI v2))] [] s) → ∀ (n : Nat), ∀ (v1 : Int32) (v2 : Bool) (v3 : Int32) (s : Mem), f_X9_standing_L12 N k4 n v1 v2 v3 s = some (r, s') → G x (QI x w r s') 5 w 12 [(0, .ref (ad w 61)), (1, .int v1), (2, .int (bI v2)), (3, .int v3)] [] s := by
    intro k4 q4 n
    induction n with
    | zero => intro v1 v2 v3 s hf; cases hf
    | succ n ih =>
      intro v1 v2 v3 s hf
      unfold f_X9_standing_L12 at hf
      refine g_iload_n C dX9_standing_12 rfl 3 rfl ?_
      refine g_aload_n C dX9_standing_13 rfl 0 rfl ?_
      refine g_get C (R := RX9) (T := TX9) (N := 48) (k := 2) (v := .int (rI s 61 2)) kd_61 (by decide) rfl (in_61 hS) hinX9 (by decide) fl_X9_97 rfl rfl dX9_standing_14 ?_
      refine g_icmp_ge (tgt := 61) C dX9_standing_17 (by decide) hf (fun hf => ?_) (fun hf => ?_)
      · refine g_goto (tgt := 4) C dX9_standing_61 (by decide) ?_
        refine g_sub [0, 1, 2] rfl ?_
        exact q4 _ _ _ hf
      · refine g_aload_n C dX9_standing_20 rfl 0 rfl ?_
        refine g_iload_n C dX9_standing_21 rfl 3 rfl ?_
        refine g_callVI C (R := RX9) (T := TX9) (N := 48) [.int v3] (fun _ _ h => c_X9_under (kl x) N w hS _ h) (g_cwV C hR ml_X9_180 im_X9_under sl_X9_under ini_X9 cd_X9_under hd_X9_under (by decide)) kd_61 (by decide) rfl (in_61 hS) rfl _ rfl (Nat.le_of_ble_eq_true rfl) dX9_standing_22 hf (fun r1 s1 hf => ?_)
        refine g_istore (lv' := [(4, .int r1), (0, .ref (ad w 61)), (1, .int v1), (2, .int (bI v2)), (3, .int v3)]) C dX9_standing_25 (by decide) rfl ?_
        refine g_iload_n C dX9_standing_27 rfl 2 rfl ?_
        refine g_iload_n C dX9_standing_28 rfl 4 rfl ?_
        refine g_ishr C dX9_standing_29 ?_
        refine g_iconst C (v := 1) dX9_standing_30 rfl ?_
        refine g_iand C dX9_standing_31 ?_
        refine g_if_ne (tgt := 55) C dX9_standing_32 (by decide) hf (fun hf => ?_) (fun hf => ?_)
        · refine g_sub [1, 2, 3, 4] rfl ?_
          exact j55 k4 (f_X9_standing_L12 N k4 n) q4 ih _ _ _ _ hf
        · refine g_iload C dX9_standing_35 0 rfl ?_
          refine g_if_eq (tgt := 47) C dX9_standing_37 (by decide) hf (fun hf => ?_) (fun hf => ?_)
          · refine g_sub [1, 2, 4] rfl ?_
            exact j47 k4 (f_X9_standing_L12 N k4 n) q4 ih _ _ _ hf
          · refine g_iload C dX9_standing_40 0 rfl ?_
            refine g_iload_n C dX9_standing_42 rfl 2 rfl ?_
            refine g_iand C dX9_standing_43 ?_
            refine g_if_eq (tgt := 55) C dX9_standing_44 (by decide) hf (fun hf => ?_) (fun hf => ?_)
            · refine g_sub [1, 2, 3, 4] rfl ?_
              exact j55 k4 (f_X9_standing_L12 N k4 n) q4 ih _ _ _ _ hf
            · refine g_sub [1, 2, 4] rfl ?_
              exact j47 k4 (f_X9_standing_L12 N k4 n) q4 ih _ _ _ hf
  have j4 : ∀ (n : Nat), ∀ (v1 : Int32) (v2 : Bool) (s : Mem), f_X9_standing_L4 N n v1 v2 s = some (r, s') → G x (QI x w r s') 5 w 4 [(0, .ref (ad w 61)), (1, .int v1), (2, .int (bI v2))] [] s := by
    intro n
    induction n with
    | zero => intro v1 v2 s hf; cases hf
    | succ n ih =>
      intro v1 v2 s hf
      unfold f_X9_standing_L4 at hf
      refine g_iload_n C dX9_standing_4 rfl 2 rfl ?_
      refine g_ifeqB (tgt := 64) C dX9_standing_5 (by decide) hf (fun hf => ?_) (fun hf => ?_)
      · refine g_iload_n C dX9_standing_64 rfl 1 rfl ?_
        exact g_iret C dX9_standing_65 hf
      · refine g_iconst C (v := 0) dX9_standing_8 rfl ?_
        refine g_istore_n (lv' := [(2, .int 0), (0, .ref (ad w 61)), (1, .int v1)]) C dX9_standing_9 rfl (by decide) rfl ?_
        refine g_iconst C (v := 0) dX9_standing_10 rfl ?_
        refine g_istore_n (lv' := [(3, .int 0), (2, .int 0), (0, .ref (ad w 61)), (1, .int v1)]) C dX9_standing_11 rfl (by decide) rfl ?_
        refine g_sub [2, 3, 1, 0] rfl ?_
        exact j12 (f_X9_standing_L4 N n) ih N _ _ _ _ hf
  refine g_lv (lv' := [(0, .ref (ad w 61))]) rfl ?_
  unfold f_X9_standing at hf
  refine g_iconst C (v := 0) dX9_standing_0 rfl ?_
  refine g_istore_n (lv' := [(1, .int 0), (0, .ref (ad w 61))]) C dX9_standing_1 rfl (by decide) rfl ?_
  refine g_iconst C (v := 1) dX9_standing_2 rfl ?_
  refine g_istore_n (lv' := [(2, .int 1), (1, .int 0), (0, .ref (ad w 61))]) C dX9_standing_3 rfl (by decide) rfl ?_
  refine g_sub [2, 1, 0] rfl ?_
  exact j4 N _ _ _ hf

set_option maxHeartbeats 4000000 in
set_option maxRecDepth 100000 in
theorem c_X9_stands (l : Launch) (N : Nat) (w : WX) (hS : SS w = Sm) {s s' : Mem} {r : Int32} (hf : f_X9_stands N s = some (r, s')) : CI l yX9_stands (wz yX9_stands cX9_stands 1 (some .int)) ({ frames := 2, cells := 0, slots := 0, locals := 47 } : Room) [.ref (ad w 61)] w s r s' := by
  refine met_startI (cc := cX9_stands) (ret := (some .int)) (own := RX9) (maxL := 1) (by decide) rfl (Nat.le_of_ble_eq_true rfl) (fun x C hR hl => ?_)
  refine g_lv (lv' := [(0, .ref (ad w 61))]) rfl ?_
  unfold f_X9_stands at hf
  refine g_aload_n C dX9_stands_0 rfl 0 rfl ?_
  refine g_callVI C (R := RX9) (T := TX9) (N := 48) [] (fun _ _ h => c_X9_standing (kl x) N w hS h) (g_cwV C hR ml_X9_183 im_X9_standing sl_X9_standing ini_X9 cd_X9_standing hd_X9_standing (by decide)) kd_61 (by decide) rfl (in_61 hS) rfl _ rfl (Nat.le_of_ble_eq_true rfl) dX9_stands_1 hf (fun r1 s1 hf => ?_)
  exact g_iret C dX9_stands_4 hf

set_option maxHeartbeats 4000000 in
set_option maxRecDepth 100000 in
theorem c_X9_below (l : Launch) (N : Nat) (w : WX) (hS : SS w = Sm) (a1 : Int32) {s s' : Mem} {r : Int32} (hf : f_X9_below N a1 s = some (r, s')) : CI l yX9_below (wz yX9_below cX9_below 6 (some .int)) ({ frames := 1, cells := 0, slots := 0, locals := 23 } : Room) [.ref (ad w 61), .int a1] w s r s' := by
  refine met_startI (cc := cX9_below) (ret := (some .int)) (own := RX9) (maxL := 6) (by decide) rfl (Nat.le_of_ble_eq_true rfl) (fun x C hR hl => ?_)
  have j67 : ∀ (k8 : Int32 → Bool → Mem → Option (Int32 × Mem)), (∀ (v2 : Int32) (v3 : Bool) (s : Mem), k8 v2 v3 s = some (r, s') → G x (QI x w r s') 6 w 8 [(0, .ref (ad w 61)), (2, .int v2), (3, .int (bI v3))] [] s) → ∀ (v2 : Int32) (p0 : Bool) (s : Mem), f_X9_below_j67 N k8 v2 p0 s = some (r, s') → G x (QI x w r s') 6 w 67 [(0, .ref (ad w 61)), (2, .int v2)] [.int (bI p0)] s := by
    intro k8 q8 v2 p0 s hf
    unfold f_X9_below_j67 at hf
    refine g_istore_n (lv' := [(3, .int (bI p0)), (0, .ref (ad w 61)), (2, .int v2)]) C dX9_below_67 rfl (by decide) rfl ?_
    refine g_goto (tgt := 8) C dX9_below_68 (by decide) ?_
    refine g_sub [1, 2, 0] rfl ?_
    exact q8 _ _ _ hf
  have j56 : ∀ (k8 : Int32 → Bool → Mem → Option (Int32 × Mem)), (∀ (v2 : Int32) (v3 : Bool) (s : Mem), k8 v2 v3 s = some (r, s') → G x (QI x w r s') 6 w 8 [(0, .ref (ad w 61)), (2, .int v2), (3, .int (bI v3))] [] s) → ∀ (v2 : Int32) (v4 : Int32) (s : Mem), f_X9_below_j56 N k8 v2 v4 s = some (r, s') → G x (QI x w r s') 6 w 56 [(0, .ref (ad w 61)), (2, .int v2), (4, .int v4)] [] s := by
    intro k8 q8 v2 v4 s hf
    unfold f_X9_below_j56 at hf
    refine g_iload_n C dX9_below_56 rfl 1 rfl ?_
    refine g_iload C dX9_below_57 2 rfl ?_
    refine g_icmp_eq (tgt := 66) C dX9_below_59 (by decide) hf (fun hf => ?_) (fun hf => ?_)
    · refine g_iconst C (v := 0) dX9_below_66 rfl ?_
      refine g_sub [0, 1] rfl ?_
      exact j67 k8 q8 _ _ _ hf
    · refine g_iconst C (v := 1) dX9_below_62 rfl ?_
      refine g_goto (tgt := 67) C dX9_below_63 (by decide) ?_
      refine g_sub [0, 1] rfl ?_
      exact j67 k8 q8 _ _ _ hf
  have j48 : ∀ (k18 : Int32 → Int32 → Int32 → Mem → Option (Int32 × Mem)) (k56 : Int32 → Int32 → Mem → Option (Int32 × Mem)), (∀ (v2 : Int32) (v4 : Int32) (v5 : Int32) (s : Mem), k18 v2 v4 v5 s = some (r, s') → G x (QI x w r s') 6 w 18 [(0, .ref (ad w 61)), (2, .int v2), (4, .int v4), (5, .int v5)] [] s) → (∀ (v2 : Int32) (v4 : Int32) (s : Mem), k56 v2 v4 s = some (r, s') → G x (QI x w r s') 6 w 56 [(0, .ref (ad w 61)), (2, .int v2), (4, .int v4)] [] s) → ∀ (v4 : Int32) (v5 : Int32) (p0 : Int32) (p1 : Int32) (s : Mem), f_X9_below_j48 N k18 k56 v4 v5 p0 p1 s = some (r, s') → G x (QI x w r s') 6 w 48 [(0, .ref (ad w 61)), (4, .int v4), (5, .int v5)] [.int p0, .int p1] s := by
    intro k18 k56 q18 q56 v4 v5 p0 p1 s hf
    unfold f_X9_below_j48 at hf
    refine g_ior C dX9_below_48 ?_
    refine g_istore_n (lv' := [(2, .int (p1 ||| p0)), (0, .ref (ad w 61)), (4, .int v4), (5, .int v5)]) C dX9_below_49 rfl (by decide) rfl ?_
    refine g_iinc (v' := v5 + 1) (lv' := [(5, .int (v5 + 1)), (2, .int (p1 ||| p0)), (0, .ref (ad w 61)), (4, .int v4)]) C dX9_below_50 3 rfl rfl (by decide) rfl ?_
    refine g_goto (tgt := 18) C dX9_below_53 (by decide) ?_
    refine g_sub [2, 1, 3, 0] rfl ?_
    exact q18 _ _ _ _ hf
  have j18 : ∀ (k56 : Int32 → Int32 → Mem → Option (Int32 × Mem)), (∀ (v2 : Int32) (v4 : Int32) (s : Mem), k56 v2 v4 s = some (r, s') → G x (QI x w r s') 6 w 56 [(0, .ref (ad w 61)), (2, .int v2), (4, .int v4)] [] s) → ∀ (n : Nat), ∀ (v2 : Int32) (v4 : Int32) (v5 : Int32) (s : Mem), f_X9_below_L18 N k56 n v2 v4 v5 s = some (r, s') → G x (QI x w r s') 6 w 18 [(0, .ref (ad w 61)), (2, .int v2), (4, .int v4), (5, .int v5)] [] s := by
    intro k56 q56 n
    induction n with
    | zero => intro v2 v4 v5 s hf; cases hf
    | succ n ih =>
      intro v2 v4 v5 s hf
      unfold f_X9_below_L18 at hf
      refine g_iload C dX9_below_18 3 rfl ?_
      refine g_aload_n C dX9_below_20 rfl 0 rfl ?_
      refine g_get C (R := RX9) (T := TX9) (N := 48) (k := 2) (v := .int (rI s 61 2)) kd_61 (by decide) rfl (in_61 hS) hinX9 (by decide) fl_X9_97 rfl rfl dX9_below_21 ?_
      refine g_icmp_ge (tgt := 56) C dX9_below_24 (by decide) hf (fun hf => ?_) (fun hf => ?_)
      · refine g_sub [0, 1, 2] rfl ?_
        exact q56 _ _ _ hf
      · refine g_iload_n C dX9_below_27 rfl 1 rfl ?_
        refine g_iload_n C dX9_below_28 rfl 1 rfl ?_
        refine g_iload C dX9_below_29 3 rfl ?_
        refine g_ishr C dX9_below_31 ?_
        refine g_iconst C (v := 1) dX9_below_32 rfl ?_
        refine g_iand C dX9_below_33 ?_
        refine g_iconst C (v := 1) dX9_below_34 rfl ?_
        refine g_icmp_ne (tgt := 47) C dX9_below_35 (by decide) hf (fun hf => ?_) (fun hf => ?_)
        · refine g_iconst C (v := 0) dX9_below_47 rfl ?_
          refine g_sub [0, 2, 3] rfl ?_
          exact j48 (f_X9_below_L18 N k56 n) k56 ih q56 _ _ _ _ _ hf
        · refine g_aload_n C dX9_below_38 rfl 0 rfl ?_
          refine g_iload C dX9_below_39 3 rfl ?_
          refine g_callVI C (R := RX9) (T := TX9) (N := 48) [.int v5] (fun _ _ h => c_X9_under (kl x) N w hS _ h) (g_cwV C hR ml_X9_180 im_X9_under sl_X9_under ini_X9 cd_X9_under hd_X9_under (by decide)) kd_61 (by decide) rfl (in_61 hS) rfl _ rfl (Nat.le_of_ble_eq_true rfl) dX9_below_41 hf (fun r1 s1 hf => ?_)
          refine g_goto (tgt := 48) C dX9_below_44 (by decide) ?_
          refine g_sub [0, 2, 3] rfl ?_
          exact j48 (f_X9_below_L18 N k56 n) k56 ih q56 _ _ _ _ _ hf
  have j8 : ∀ (n : Nat), ∀ (v2 : Int32) (v3 : Bool) (s : Mem), f_X9_below_L8 N n v2 v3 s = some (r, s') → G x (QI x w r s') 6 w 8 [(0, .ref (ad w 61)), (2, .int v2), (3, .int (bI v3))] [] s := by
    intro n
    induction n with
    | zero => intro v2 v3 s hf; cases hf
    | succ n ih =>
      intro v2 v3 s hf
      unfold f_X9_below_L8 at hf
      refine g_iload_n C dX9_below_8 rfl 2 rfl ?_
      refine g_ifeqB (tgt := 71) C dX9_below_9 (by decide) hf (fun hf => ?_) (fun hf => ?_)
      · refine g_iload_n C dX9_below_71 rfl 1 rfl ?_
        exact g_iret C dX9_below_72 hf
      · refine g_iload_n C dX9_below_12 rfl 1 rfl ?_
        refine g_istore (lv' := [(4, .int v2), (0, .ref (ad w 61)), (2, .int v2), (3, .int (bI v3))]) C dX9_below_13 (by decide) rfl ?_
        refine g_iconst C (v := 0) dX9_below_15 rfl ?_
        refine g_istore (lv' := [(5, .int 0), (4, .int v2), (0, .ref (ad w 61)), (2, .int v2), (3, .int (bI v3))]) C dX9_below_16 (by decide) rfl ?_
        refine g_sub [2, 3, 1, 0] rfl ?_
        exact j18 (f_X9_below_j56 N (f_X9_below_L8 N n)) (j56 (f_X9_below_L8 N n) ih) N _ _ _ _ hf
  refine g_lv (lv' := [(0, .ref (ad w 61)), (1, .int a1)]) rfl ?_
  unfold f_X9_below at hf
  refine g_aload_n C dX9_below_0 rfl 0 rfl ?_
  refine g_iload_n C dX9_below_1 rfl 1 rfl ?_
  refine g_callVI C (R := RX9) (T := TX9) (N := 48) [.int a1] (fun _ _ h => c_X9_under (kl x) N w hS _ h) (g_cwV C hR ml_X9_180 im_X9_under sl_X9_under ini_X9 cd_X9_under hd_X9_under (by decide)) kd_61 (by decide) rfl (in_61 hS) rfl _ rfl (Nat.le_of_ble_eq_true rfl) dX9_below_2 hf (fun r1 s1 hf => ?_)
  refine g_istore_n (lv' := [(2, .int r1), (0, .ref (ad w 61)), (1, .int a1)]) C dX9_below_5 rfl (by decide) rfl ?_
  refine g_iconst C (v := 1) dX9_below_6 rfl ?_
  refine g_istore_n (lv' := [(3, .int 1), (2, .int r1), (0, .ref (ad w 61)), (1, .int a1)]) C dX9_below_7 rfl (by decide) rfl ?_
  refine g_sub [2, 1, 0] rfl ?_
  exact j8 N _ _ _ hf

set_option maxHeartbeats 4000000 in
set_option maxRecDepth 100000 in
theorem c_X9_round (l : Launch) (N : Nat) (w : WX) (hS : SS w = Sm) (a1 : Int32) {s s' : Mem} {r : Int32} (hf : f_X9_round N a1 s = some (r, s')) : CI l yX9_round (wz yX9_round cX9_round 2 (some .int)) ({ frames := 2, cells := 0, slots := 0, locals := 48 } : Room) [.ref (ad w 61), .int a1] w s r s' := by
  refine met_startI (cc := cX9_round) (ret := (some .int)) (own := RX9) (maxL := 2) (by decide) rfl (Nat.le_of_ble_eq_true rfl) (fun x C hR hl => ?_)
  refine g_lv (lv' := [(0, .ref (ad w 61)), (1, .int a1)]) rfl ?_
  unfold f_X9_round at hf
  refine g_aload_n C dX9_round_0 rfl 0 rfl ?_
  refine g_iload_n C dX9_round_1 rfl 1 rfl ?_
  refine g_callVB C (R := RX9) (T := TX9) (N := 48) [.int a1] (fun _ _ h => c_X9_isPaper (kl x) N w hS _ h) (g_cwV C hR ml_X9_114 im_X9_isPaper sl_X9_isPaper ini_X9 cd_X9_isPaper hd_X9_isPaper (by decide)) kd_61 (by decide) rfl (in_61 hS) rfl _ rfl (Nat.le_of_ble_eq_true rfl) dX9_round_2 hf (fun r1 s1 hf => ?_)
  refine g_ifeqB (tgt := 20) C dX9_round_5 (by decide) hf (fun hf => ?_) (fun hf => ?_)
  · refine g_iconst C (v := (-1)) dX9_round_20 rfl ?_
    exact g_iret C dX9_round_21 hf
  · refine g_aload_n C dX9_round_8 rfl 0 rfl ?_
    refine g_iload_n C dX9_round_9 rfl 1 rfl ?_
    refine g_callVI C (R := RX9) (T := TX9) (N := 48) [.int a1] (fun _ _ h => c_X9_below (kl x) N w hS _ h) (g_cwV C hR ml_X9_187 im_X9_below sl_X9_below ini_X9 cd_X9_below hd_X9_below (by decide)) kd_61 (by decide) rfl (in_61 hS) rfl _ rfl (Nat.le_of_ble_eq_true rfl) dX9_round_10 hf (fun r2 s2 hf => ?_)
    refine g_iload_n C dX9_round_13 rfl 1 rfl ?_
    refine g_ishr C dX9_round_14 ?_
    refine g_iconst C (v := 1) dX9_round_15 rfl ?_
    refine g_iand C dX9_round_16 ?_
    refine g_goto (tgt := 21) C dX9_round_17 (by decide) ?_
    exact g_iret C dX9_round_21 hf

set_option maxHeartbeats 4000000 in
set_option maxRecDepth 100000 in
theorem c_X9_roots (l : Launch) (N : Nat) (w : WX) (hS : SS w = Sm) (a1 : Int32) {s s' : Mem} {r : Int32} (hf : f_X9_roots N a1 s = some (r, s')) : CI l yX9_roots (wz yX9_roots cX9_roots 5 (some .int)) ({ frames := 2, cells := 0, slots := 0, locals := 48 } : Room) [.ref (ad w 61), .int a1] w s r s' := by
  refine met_startI (cc := cX9_roots) (ret := (some .int)) (own := RX9) (maxL := 5) (by decide) rfl (Nat.le_of_ble_eq_true rfl) (fun x C hR hl => ?_)
  have j62 : ∀ (k25 : Int32 → Int32 → Int32 → Mem → Option (Int32 × Mem)), (∀ (v2 : Int32) (v3 : Int32) (v4 : Int32) (s : Mem), k25 v2 v3 v4 s = some (r, s') → G x (QI x w r s') 5 w 25 [(0, .ref (ad w 61)), (2, .int v2), (3, .int v3), (4, .int v4)] [] s) → ∀ (v2 : Int32) (v4 : Int32) (p0 : Int32) (p1 : Int32) (s : Mem), f_X9_roots_j62 N k25 v2 v4 p0 p1 s = some (r, s') → G x (QI x w r s') 5 w 62 [(0, .ref (ad w 61)), (2, .int v2), (4, .int v4)] [.int p0, .int p1] s := by
    intro k25 q25 v2 v4 p0 p1 s hf
    unfold f_X9_roots_j62 at hf
    refine g_ior C dX9_roots_62 ?_
    refine g_istore_n (lv' := [(3, .int (p1 ||| p0)), (0, .ref (ad w 61)), (2, .int v2), (4, .int v4)]) C dX9_roots_63 rfl (by decide) rfl ?_
    refine g_iinc (v' := v4 + 1) (lv' := [(4, .int (v4 + 1)), (3, .int (p1 ||| p0)), (0, .ref (ad w 61)), (2, .int v2)]) C dX9_roots_64 3 rfl rfl (by decide) rfl ?_
    refine g_goto (tgt := 25) C dX9_roots_67 (by decide) ?_
    refine g_sub [2, 3, 1, 0] rfl ?_
    exact q25 _ _ _ _ hf
  have j61 : ∀ (k25 : Int32 → Int32 → Int32 → Mem → Option (Int32 × Mem)), (∀ (v2 : Int32) (v3 : Int32) (v4 : Int32) (s : Mem), k25 v2 v3 v4 s = some (r, s') → G x (QI x w r s') 5 w 25 [(0, .ref (ad w 61)), (2, .int v2), (3, .int v3), (4, .int v4)] [] s) → ∀ (v2 : Int32) (v4 : Int32) (p0 : Int32) (s : Mem), f_X9_roots_j61 N k25 v2 v4 p0 s = some (r, s') → G x (QI x w r s') 5 w 61 [(0, .ref (ad w 61)), (2, .int v2), (4, .int v4)] [.int p0] s := by
    intro k25 q25 v2 v4 p0 s hf
    unfold f_X9_roots_j61 at hf
    refine g_iconst C (v := 0) dX9_roots_61 rfl ?_
    exact j62 k25 q25 _ _ _ _ _ hf
  have j25 : ∀ (n : Nat), ∀ (v2 : Int32) (v3 : Int32) (v4 : Int32) (s : Mem), f_X9_roots_L25 N n v2 v3 v4 s = some (r, s') → G x (QI x w r s') 5 w 25 [(0, .ref (ad w 61)), (2, .int v2), (3, .int v3), (4, .int v4)] [] s := by
    intro n
    induction n with
    | zero => intro v2 v3 v4 s hf; cases hf
    | succ n ih =>
      intro v2 v3 v4 s hf
      unfold f_X9_roots_L25 at hf
      refine g_iload C dX9_roots_25 3 rfl ?_
      refine g_aload_n C dX9_roots_27 rfl 0 rfl ?_
      refine g_get C (R := RX9) (T := TX9) (N := 48) (k := 2) (v := .int (rI s 61 2)) kd_61 (by decide) rfl (in_61 hS) hinX9 (by decide) fl_X9_97 rfl rfl dX9_roots_28 ?_
      refine g_icmp_ge (tgt := 70) C dX9_roots_31 (by decide) hf (fun hf => ?_) (fun hf => ?_)
      · refine g_iload_n C dX9_roots_70 rfl 2 rfl ?_
        exact g_iret C dX9_roots_71 hf
      · refine g_iload_n C dX9_roots_34 rfl 2 rfl ?_
        refine g_iload_n C dX9_roots_35 rfl 1 rfl ?_
        refine g_iload C dX9_roots_36 3 rfl ?_
        refine g_ishr C dX9_roots_38 ?_
        refine g_iconst C (v := 1) dX9_roots_39 rfl ?_
        refine g_iand C dX9_roots_40 ?_
        refine g_iconst C (v := 1) dX9_roots_41 rfl ?_
        refine g_icmp_ne (tgt := 61) C dX9_roots_42 (by decide) hf (fun hf => ?_) (fun hf => ?_)
        · refine g_sub [0, 1, 3] rfl ?_
          exact j61 (f_X9_roots_L25 N n) ih _ _ _ _ hf
        · refine g_aload_n C dX9_roots_45 rfl 0 rfl ?_
          refine g_iload C dX9_roots_46 3 rfl ?_
          refine g_callVI C (R := RX9) (T := TX9) (N := 48) [.int v4] (fun _ _ h => c_X9_under (kl x) N w hS _ h) (g_cwV C hR ml_X9_180 im_X9_under sl_X9_under ini_X9 cd_X9_under hd_X9_under (by decide)) kd_61 (by decide) rfl (in_61 hS) rfl _ rfl (Nat.le_of_ble_eq_true rfl) dX9_roots_48 hf (fun r1 s1 hf => ?_)
          refine g_if_ne (tgt := 61) C dX9_roots_51 (by decide) hf (fun hf => ?_) (fun hf => ?_)
          · refine g_sub [0, 1, 3] rfl ?_
            exact j61 (f_X9_roots_L25 N n) ih _ _ _ _ hf
          · refine g_iconst C (v := 1) dX9_roots_54 rfl ?_
            refine g_iload C dX9_roots_55 3 rfl ?_
            refine g_ishl C dX9_roots_57 ?_
            refine g_goto (tgt := 62) C dX9_roots_58 (by decide) ?_
            refine g_sub [0, 1, 3] rfl ?_
            exact j62 (f_X9_roots_L25 N n) ih _ _ _ _ _ hf
  refine g_lv (lv' := [(0, .ref (ad w 61)), (1, .int a1)]) rfl ?_
  unfold f_X9_roots at hf
  refine g_aload_n C dX9_roots_0 rfl 0 rfl ?_
  refine g_iload_n C dX9_roots_1 rfl 1 rfl ?_
  refine g_callVB C (R := RX9) (T := TX9) (N := 48) [.int a1] (fun _ _ h => c_X9_isPaper (kl x) N w hS _ h) (g_cwV C hR ml_X9_114 im_X9_isPaper sl_X9_isPaper ini_X9 cd_X9_isPaper hd_X9_isPaper (by decide)) kd_61 (by decide) rfl (in_61 hS) rfl _ rfl (Nat.le_of_ble_eq_true rfl) dX9_roots_2 hf (fun r1 s1 hf => ?_)
  refine g_ifneB (tgt := 10) C dX9_roots_5 (by decide) hf (fun hf => ?_) (fun hf => ?_)
  · refine g_aload_n C dX9_roots_10 rfl 0 rfl ?_
    refine g_iload_n C dX9_roots_11 rfl 1 rfl ?_
    refine g_callVI C (R := RX9) (T := TX9) (N := 48) [.int a1] (fun _ _ h => c_X9_below (kl x) N w hS _ h) (g_cwV C hR ml_X9_187 im_X9_below sl_X9_below ini_X9 cd_X9_below hd_X9_below (by decide)) kd_61 (by decide) rfl (in_61 hS) rfl _ rfl (Nat.le_of_ble_eq_true rfl) dX9_roots_12 hf (fun r2 s2 hf => ?_)
    refine g_iconst C (v := 1) dX9_roots_15 rfl ?_
    refine g_iload_n C dX9_roots_16 rfl 1 rfl ?_
    refine g_ishl C dX9_roots_17 ?_
    refine g_ior C dX9_roots_18 ?_
    refine g_istore_nN (lv' := fun x3 => [(2, .int x3), (0, .ref (ad w 61)), (1, .int a1)]) C dX9_roots_19 rfl (by decide) (fun _ => rfl) hf (fun x3 hf => ?_)
    refine g_iconst C (v := 0) dX9_roots_20 rfl ?_
    refine g_istore_n (lv' := [(3, .int 0), (2, .int x3), (0, .ref (ad w 61)), (1, .int a1)]) C dX9_roots_21 rfl (by decide) rfl ?_
    refine g_iconst C (v := 0) dX9_roots_22 rfl ?_
    refine g_istore (lv' := [(4, .int 0), (3, .int 0), (2, .int x3), (0, .ref (ad w 61)), (1, .int a1)]) C dX9_roots_23 (by decide) rfl ?_
    refine g_sub [3, 2, 1, 0] rfl ?_
    exact j25 N _ _ _ _ hf
  · refine g_iconst C (v := (-1)) dX9_roots_8 rfl ?_
    exact g_iret C dX9_roots_9 hf

set_option maxHeartbeats 4000000 in
set_option maxRecDepth 100000 in
theorem c_X9_feed (l : Launch) (N : Nat) (w : WX) (hS : SS w = Sm) (a1 : Int64) (a3 : Int32) {s s' : Mem} {r : Int32} (hf : f_X9_feed N a1 a3 s = some (r, s')) : CI l yX9_feed (wz yX9_feed cX9_feed 5 (some .int)) ({ frames := 1, cells := 0, slots := 0, locals := 22 } : Room) [.ref (ad w 61), .long a1, .int a3] w s r s' := by
  refine met_startI (cc := cX9_feed) (ret := (some .int)) (own := RX9) (maxL := 5) (by decide) rfl (Nat.le_of_ble_eq_true rfl) (fun x C hR hl => ?_)
  have j30 : ∀ (n : Nat), ∀ (v1 : Int64) (v3 : Int32) (v4 : Int32) (s : Mem), f_X9_feed_L30 N n v1 v3 v4 s = some (r, s') → G x (QI x w r s') 5 w 30 [(0, .ref (ad w 61)), (1, .long v1), (3, .int v3), (4, .int v4)] [] s := by
    intro n
    induction n with
    | zero => intro v1 v3 v4 s hf; cases hf
    | succ n ih =>
      intro v1 v3 v4 s hf
      unfold f_X9_feed_L30 at hf
      refine g_iload C dX9_feed_30 3 rfl ?_
      refine g_iload_n C dX9_feed_32 rfl 2 rfl ?_
      refine g_icmp_ge (tgt := 73) C dX9_feed_33 (by decide) hf (fun hf => ?_) (fun hf => ?_)
      · refine g_aload_n C dX9_feed_73 rfl 0 rfl ?_
        refine g_get C (R := RX9) (T := TX9) (N := 48) (k := 17) (v := .int (rI s 61 17)) kd_61 (by decide) rfl (in_61 hS) hinX9 (by decide) fl_X9_190 rfl rfl dX9_feed_74 ?_
        exact g_iret C dX9_feed_77 hf
      · refine g_aload_n C dX9_feed_36 rfl 0 rfl ?_
        refine g_get C (R := RX9) (T := TX9) (N := 48) (k := 16) (v := .ref (ad w 72)) kd_61 (by decide) rfl (in_61 hS) hinX9 (by decide) fl_X9_40 rfl rfl dX9_feed_37 ?_
        refine g_aload_n C dX9_feed_40 rfl 0 rfl ?_
        refine g_get C (R := RX9) (T := TX9) (N := 48) (k := 17) (v := .int (rI s 61 17)) kd_61 (by decide) rfl (in_61 hS) hinX9 (by decide) fl_X9_190 rfl rfl dX9_feed_41 ?_
        refine g_lload_n C dX9_feed_44 rfl 1 rfl ?_
        refine g_bipush C (v := 8) dX9_feed_45 (by decide) ?_
        refine g_iload C dX9_feed_47 3 rfl ?_
        refine g_imul C dX9_feed_49 ?_
        refine g_lushr C dX9_feed_50 ?_
        refine g_ldc2 C (v := 255) dX9_feed_51 kL_X9_193 ?_
        refine g_land C dX9_feed_54 ?_
        refine g_l2i C dX9_feed_55 ?_
        refine g_iast C kd_72 ln_72 (in_72 hS) dX9_feed_56 hf (fun hf => ?_)
        refine g_nameS hf (fun s1 hf => ?_)
        refine g_aload_n C dX9_feed_57 rfl 0 rfl ?_
        refine g_dup C dX9_feed_58 rfl ?_
        refine g_get C (R := RX9) (T := TX9) (N := 48) (k := 17) (v := .int (rI s1 61 17)) kd_61 (by decide) rfl (in_61 hS) hinX9 (by decide) fl_X9_190 rfl rfl dX9_feed_59 ?_
        refine g_iconst C (v := 1) dX9_feed_62 rfl ?_
        refine g_iadd C dX9_feed_63 ?_
        refine g_putI C (R := RX9) (T := TX9) (N := 48) (k := 17) (ty := .int) tyX9 tyX9_ok nmX9 kd_61 (by decide) rfl (in_61 hS) hinX9 (by decide) fl_X9_190 rfl rfl rfl rfl rfl (Nat.le_of_ble_eq_true rfl) fs_9_17 dX9_feed_64 ?_
        refine g_nameS hf (fun s2 hf => ?_)
        refine g_iinc (v' := v4 + 1) (lv' := [(4, .int (v4 + 1)), (0, .ref (ad w 61)), (1, .long v1), (3, .int v3)]) C dX9_feed_67 3 rfl rfl (by decide) rfl ?_
        refine g_goto (tgt := 30) C dX9_feed_70 (by decide) ?_
        refine g_sub [1, 2, 3, 0] rfl ?_
        exact ih _ _ _ _ hf
  refine g_lv (lv' := [(0, .ref (ad w 61)), (1, .long a1), (3, .int a3)]) rfl ?_
  unfold f_X9_feed at hf
  refine g_iload_n C dX9_feed_0 rfl 2 rfl ?_
  refine g_iconst C (v := 1) dX9_feed_1 rfl ?_
  refine g_bipush C (v := 8) dX9_feed_2 (by decide) ?_
  refine g_callSB C [.int a3, .int 1, .int 8] (fun _ _ h => c_X9_in (kl x) N w _ _ _ h) (g_cwS C hR ml_X9_93 sm_X9_in ini_X9 cd_X9_in hd_X9_in (by decide)) rfl _ rfl (Nat.le_of_ble_eq_true rfl) dX9_feed_4 hf (fun r1 s1 hf => ?_)
  refine g_ifneB (tgt := 12) C dX9_feed_7 (by decide) hf (fun hf => ?_) (fun hf => ?_)
  · refine g_aload_n C dX9_feed_12 rfl 0 rfl ?_
    refine g_get C (R := RX9) (T := TX9) (N := 48) (k := 17) (v := .int (rI s1 61 17)) kd_61 (by decide) rfl (in_61 hS) hinX9 (by decide) fl_X9_190 rfl rfl dX9_feed_13 ?_
    refine g_iload_n C dX9_feed_16 rfl 2 rfl ?_
    refine g_iadd C dX9_feed_17 ?_
    refine g_sipush C (v := 200) dX9_feed_18 (by decide) ?_
    refine g_icmp_le (tgt := 27) C dX9_feed_21 (by decide) hf (fun hf => ?_) (fun hf => ?_)
    · refine g_iconst C (v := 0) dX9_feed_27 rfl ?_
      refine g_istore (lv' := [(4, .int 0), (0, .ref (ad w 61)), (1, .long a1), (3, .int a3)]) C dX9_feed_28 (by decide) rfl ?_
      refine g_sub [1, 2, 3, 0] rfl ?_
      exact j30 N _ _ _ _ hf
    · refine g_bipush C (v := (-2)) dX9_feed_24 (by decide) ?_
      exact g_iret C dX9_feed_26 hf
  · refine g_iconst C (v := (-1)) dX9_feed_10 rfl ?_
    exact g_iret C dX9_feed_11 hf

set_option maxHeartbeats 4000000 in
set_option maxRecDepth 100000 in
theorem c_X9_isLetter (l : Launch) (N : Nat) (w : WX) (a0 : Int32) {s s' : Mem} {r : Bool} (hf : f_X9_isLetter N a0 s = some (r, s')) : CB l yX9_isLetter (wz yX9_isLetter cX9_isLetter 1 (some .boolean)) ({ frames := 0, cells := 0, slots := 0, locals := 0 } : Room) [.int a0] w s r s' := by
  refine met_startB (cc := cX9_isLetter) (ret := (some .boolean)) (own := RX9) (maxL := 1) (by decide) rfl (Nat.le_of_ble_eq_true rfl) (fun x C hR hl => ?_)
  refine g_lv (lv' := [(0, .int a0)]) rfl ?_
  unfold f_X9_isLetter at hf
  refine g_iload_n C dX9_isLetter_0 rfl 0 rfl ?_
  refine g_bipush C (v := 97) dX9_isLetter_1 (by decide) ?_
  refine g_icmp_lt (tgt := 16) C dX9_isLetter_3 (by decide) hf (fun hf => ?_) (fun hf => ?_)
  · refine g_iconst C (v := 0) dX9_isLetter_16 rfl ?_
    exact g_zret (v := false) C dX9_isLetter_17 hf
  · refine g_iload_n C dX9_isLetter_6 rfl 0 rfl ?_
    refine g_bipush C (v := 122) dX9_isLetter_7 (by decide) ?_
    refine g_icmp_gt (tgt := 16) C dX9_isLetter_9 (by decide) hf (fun hf => ?_) (fun hf => ?_)
    · refine g_iconst C (v := 0) dX9_isLetter_16 rfl ?_
      exact g_zret (v := false) C dX9_isLetter_17 hf
    · refine g_iconst C (v := 1) dX9_isLetter_12 rfl ?_
      refine g_goto (tgt := 17) C dX9_isLetter_13 (by decide) ?_
      exact g_zret (v := true) C dX9_isLetter_17 hf

set_option maxHeartbeats 4000000 in
set_option maxRecDepth 100000 in
theorem c_X9_isDigit (l : Launch) (N : Nat) (w : WX) (a0 : Int32) {s s' : Mem} {r : Bool} (hf : f_X9_isDigit N a0 s = some (r, s')) : CB l yX9_isDigit (wz yX9_isDigit cX9_isDigit 1 (some .boolean)) ({ frames := 0, cells := 0, slots := 0, locals := 0 } : Room) [.int a0] w s r s' := by
  refine met_startB (cc := cX9_isDigit) (ret := (some .boolean)) (own := RX9) (maxL := 1) (by decide) rfl (Nat.le_of_ble_eq_true rfl) (fun x C hR hl => ?_)
  refine g_lv (lv' := [(0, .int a0)]) rfl ?_
  unfold f_X9_isDigit at hf
  refine g_iload_n C dX9_isDigit_0 rfl 0 rfl ?_
  refine g_bipush C (v := 48) dX9_isDigit_1 (by decide) ?_
  refine g_icmp_lt (tgt := 16) C dX9_isDigit_3 (by decide) hf (fun hf => ?_) (fun hf => ?_)
  · refine g_iconst C (v := 0) dX9_isDigit_16 rfl ?_
    exact g_zret (v := false) C dX9_isDigit_17 hf
  · refine g_iload_n C dX9_isDigit_6 rfl 0 rfl ?_
    refine g_bipush C (v := 57) dX9_isDigit_7 (by decide) ?_
    refine g_icmp_gt (tgt := 16) C dX9_isDigit_9 (by decide) hf (fun hf => ?_) (fun hf => ?_)
    · refine g_iconst C (v := 0) dX9_isDigit_16 rfl ?_
      exact g_zret (v := false) C dX9_isDigit_17 hf
    · refine g_iconst C (v := 1) dX9_isDigit_12 rfl ?_
      refine g_goto (tgt := 17) C dX9_isDigit_13 (by decide) ?_
      exact g_zret (v := true) C dX9_isDigit_17 hf

set_option maxHeartbeats 4000000 in
set_option maxRecDepth 100000 in
theorem c_X9_advance (l : Launch) (N : Nat) (w : WX) (hS : SS w = Sm) {s s' : Mem} (hf : f_X9_advance N s = some ((), s')) : CV l yX9_advance (wz yX9_advance cX9_advance 2 none) ({ frames := 1, cells := 0, slots := 0, locals := 20 } : Room) [.ref (ad w 61)] w s s' := by
  refine met_startV (cc := cX9_advance) (ret := none) (own := RX9) (maxL := 2) (by decide) rfl (Nat.le_of_ble_eq_true rfl) (fun x C hR hl => ?_)
  have j239 : ∀ (k181 : Int32 → Mem → Option (Unit × Mem)), (∀ (v1 : Int32) (s : Mem), k181 v1 s = some ((), s') → G x (QV x w s') 2 w 181 [(0, .ref (ad w 61)), (1, .int v1)] [] s) → ∀ (v1 : Int32) (p0 : Int64) (s : Mem), f_X9_advance_j239 N k181 v1 p0 s = some ((), s') → G x (QV x w s') 2 w 239 [(0, .ref (ad w 61)), (1, .int v1)] [.long p0, .ref (ad w 61)] s := by
    intro k181 q181 v1 p0 s hf
    unfold f_X9_advance_j239 at hf
    refine g_putL C (R := RX9) (T := TX9) (N := 48) (k := 21) tyX9 tyX9_ok nmX9 kd_61 (by decide) rfl (in_61 hS) hinX9 (by decide) fl_X9_201 rfl rfl rfl (Nat.le_of_ble_eq_true rfl) fs_9_21 dX9_advance_239 ?_
    refine g_nameS hf (fun s1 hf => ?_)
    refine g_iinc (v' := v1 + 1) (lv' := [(1, .int (v1 + 1)), (0, .ref (ad w 61))]) C dX9_advance_242 1 rfl rfl (by decide) rfl ?_
    refine g_goto (tgt := 181) C dX9_advance_245 (by decide) ?_
    refine g_sub [1, 0] rfl ?_
    exact q181 _ _ hf
  have j181 : ∀ (n : Nat), ∀ (v1 : Int32) (s : Mem), f_X9_advance_L181 N n v1 s = some ((), s') → G x (QV x w s') 2 w 181 [(0, .ref (ad w 61)), (1, .int v1)] [] s := by
    intro n
    induction n with
    | zero => intro v1 s hf; cases hf
    | succ n ih =>
      intro v1 s hf
      unfold f_X9_advance_L181 at hf
      refine g_iload_n C dX9_advance_181 rfl 1 rfl ?_
      refine g_aload_n C dX9_advance_182 rfl 0 rfl ?_
      refine g_get C (R := RX9) (T := TX9) (N := 48) (k := 17) (v := .int (rI s 61 17)) kd_61 (by decide) rfl (in_61 hS) hinX9 (by decide) fl_X9_190 rfl rfl dX9_advance_183 ?_
      refine g_icmp_ge (tgt := 267) C dX9_advance_186 (by decide) hf (fun hf => ?_) (fun hf => ?_)
      · refine g_aload_n C dX9_advance_267 rfl 0 rfl ?_
        refine g_iload_n C dX9_advance_268 rfl 1 rfl ?_
        refine g_putI C (R := RX9) (T := TX9) (N := 48) (k := 20) (ty := .int) tyX9 tyX9_ok nmX9 kd_61 (by decide) rfl (in_61 hS) hinX9 (by decide) fl_X9_195 rfl rfl rfl rfl rfl (Nat.le_of_ble_eq_true rfl) fs_9_20 dX9_advance_269 ?_
        refine g_nameS hf (fun s1 hf => ?_)
        exact g_vret C dX9_advance_272 hf
      · refine g_aload_n C dX9_advance_189 rfl 0 rfl ?_
        refine g_get C (R := RX9) (T := TX9) (N := 48) (k := 16) (v := .ref (ad w 72)) kd_61 (by decide) rfl (in_61 hS) hinX9 (by decide) fl_X9_40 rfl rfl dX9_advance_190 ?_
        refine g_iload_n C dX9_advance_193 rfl 1 rfl ?_
        refine g_iald C kd_72 ln_72 (in_72 hS) dX9_advance_194 hf (fun hf => ?_)
        refine g_callSB C [.int (rI s 72 v1.toNatClampNeg)] (fun _ _ h => c_X9_isDigit (kl x) N w _ h) (g_cwS C hR ml_X9_215 sm_X9_isDigit ini_X9 cd_X9_isDigit hd_X9_isDigit (by decide)) rfl _ rfl (Nat.le_of_ble_eq_true rfl) dX9_advance_195 hf (fun r2 s2 hf => ?_)
        refine g_ifeqB (tgt := 267) C dX9_advance_198 (by decide) hf (fun hf => ?_) (fun hf => ?_)
        · refine g_aload_n C dX9_advance_267 rfl 0 rfl ?_
          refine g_iload_n C dX9_advance_268 rfl 1 rfl ?_
          refine g_putI C (R := RX9) (T := TX9) (N := 48) (k := 20) (ty := .int) tyX9 tyX9_ok nmX9 kd_61 (by decide) rfl (in_61 hS) hinX9 (by decide) fl_X9_195 rfl rfl rfl rfl rfl (Nat.le_of_ble_eq_true rfl) fs_9_20 dX9_advance_269 ?_
          refine g_nameS hf (fun s3 hf => ?_)
          exact g_vret C dX9_advance_272 hf
        · refine g_aload_n C dX9_advance_201 rfl 0 rfl ?_
          refine g_iload_n C dX9_advance_202 rfl 1 rfl ?_
          refine g_aload_n C dX9_advance_203 rfl 0 rfl ?_
          refine g_get C (R := RX9) (T := TX9) (N := 48) (k := 19) (v := .int (rI s2 61 19)) kd_61 (by decide) rfl (in_61 hS) hinX9 (by decide) fl_X9_198 rfl rfl dX9_advance_204 ?_
          refine g_isub C dX9_advance_207 ?_
          refine g_iconst C (v := 3) dX9_advance_208 rfl ?_
          refine g_icmp_ge (tgt := 235) C dX9_advance_209 (by decide) hf (fun hf => ?_) (fun hf => ?_)
          · refine g_aload_n C dX9_advance_235 rfl 0 rfl ?_
            refine g_get C (R := RX9) (T := TX9) (N := 48) (k := 21) (v := .long (rL s2 61 21)) kd_61 (by decide) rfl (in_61 hS) hinX9 (by decide) fl_X9_201 rfl rfl dX9_advance_236 ?_
            exact j239 (f_X9_advance_L181 N n) ih _ _ _ hf
          · refine g_ldc2 C (v := 10) dX9_advance_212 kL_X9_218 ?_
            refine g_aload_n C dX9_advance_215 rfl 0 rfl ?_
            refine g_get C (R := RX9) (T := TX9) (N := 48) (k := 21) (v := .long (rL s2 61 21)) kd_61 (by decide) rfl (in_61 hS) hinX9 (by decide) fl_X9_201 rfl rfl dX9_advance_216 ?_
            refine g_lmul C dX9_advance_219 ?_
            refine g_aload_n C dX9_advance_220 rfl 0 rfl ?_
            refine g_get C (R := RX9) (T := TX9) (N := 48) (k := 16) (v := .ref (ad w 72)) kd_61 (by decide) rfl (in_61 hS) hinX9 (by decide) fl_X9_40 rfl rfl dX9_advance_221 ?_
            refine g_iload_n C dX9_advance_224 rfl 1 rfl ?_
            refine g_iald C kd_72 ln_72 (in_72 hS) dX9_advance_225 hf (fun hf => ?_)
            refine g_i2l C dX9_advance_226 ?_
            refine g_ladd C dX9_advance_227 ?_
            refine g_ldc2 C (v := 48) dX9_advance_228 kL_X9_220 ?_
            refine g_lsub C dX9_advance_231 ?_
            refine g_goto (tgt := 239) C dX9_advance_232 (by decide) ?_
            exact j239 (f_X9_advance_L181 N n) ih _ _ _ hf
  have j158 : ∀ (v1 : Int32) (p0 : Int64) (s : Mem), f_X9_advance_j158 N v1 p0 s = some ((), s') → G x (QV x w s') 2 w 158 [(0, .ref (ad w 61)), (1, .int v1)] [.long p0, .ref (ad w 61)] s := by
    intro v1 p0 s hf
    unfold f_X9_advance_j158 at hf
    refine g_putL C (R := RX9) (T := TX9) (N := 48) (k := 21) tyX9 tyX9_ok nmX9 kd_61 (by decide) rfl (in_61 hS) hinX9 (by decide) fl_X9_201 rfl rfl rfl (Nat.le_of_ble_eq_true rfl) fs_9_21 dX9_advance_158 ?_
    refine g_nameS hf (fun s1 hf => ?_)
    refine g_goto (tgt := 267) C dX9_advance_161 (by decide) ?_
    refine g_aload_n C dX9_advance_267 rfl 0 rfl ?_
    refine g_iload_n C dX9_advance_268 rfl 1 rfl ?_
    refine g_putI C (R := RX9) (T := TX9) (N := 48) (k := 20) (ty := .int) tyX9 tyX9_ok nmX9 kd_61 (by decide) rfl (in_61 hS) hinX9 (by decide) fl_X9_195 rfl rfl rfl rfl rfl (Nat.le_of_ble_eq_true rfl) fs_9_20 dX9_advance_269 ?_
    refine g_nameS hf (fun s2 hf => ?_)
    exact g_vret C dX9_advance_272 hf
  have j138 : ∀ (v1 : Int32) (s : Mem), f_X9_advance_j138 N v1 s = some ((), s') → G x (QV x w s') 2 w 138 [(0, .ref (ad w 61)), (1, .int v1)] [] s := by
    intro v1 s hf
    unfold f_X9_advance_j138 at hf
    refine g_aload_n C dX9_advance_138 rfl 0 rfl ?_
    refine g_iload_n C dX9_advance_139 rfl 1 rfl ?_
    refine g_aload_n C dX9_advance_140 rfl 0 rfl ?_
    refine g_get C (R := RX9) (T := TX9) (N := 48) (k := 19) (v := .int (rI s 61 19)) kd_61 (by decide) rfl (in_61 hS) hinX9 (by decide) fl_X9_198 rfl rfl dX9_advance_141 ?_
    refine g_isub C dX9_advance_144 ?_
    refine g_bipush C (v := 8) dX9_advance_145 (by decide) ?_
    refine g_icmp_le (tgt := 154) C dX9_advance_147 (by decide) hf (fun hf => ?_) (fun hf => ?_)
    · refine g_aload_n C dX9_advance_154 rfl 0 rfl ?_
      refine g_get C (R := RX9) (T := TX9) (N := 48) (k := 21) (v := .long (rL s 61 21)) kd_61 (by decide) rfl (in_61 hS) hinX9 (by decide) fl_X9_201 rfl rfl dX9_advance_155 ?_
      exact j158 _ _ _ hf
    · refine g_lconst C (v := 0) dX9_advance_150 rfl ?_
      refine g_goto (tgt := 158) C dX9_advance_151 (by decide) ?_
      exact j158 _ _ _ hf
  have j129 : ∀ (k73 : Int32 → Mem → Option (Unit × Mem)) (k138 : Int32 → Mem → Option (Unit × Mem)), (∀ (v1 : Int32) (s : Mem), k73 v1 s = some ((), s') → G x (QV x w s') 2 w 73 [(0, .ref (ad w 61)), (1, .int v1)] [] s) → (∀ (v1 : Int32) (s : Mem), k138 v1 s = some ((), s') → G x (QV x w s') 2 w 138 [(0, .ref (ad w 61)), (1, .int v1)] [] s) → ∀ (v1 : Int32) (p0 : Int64) (s : Mem), f_X9_advance_j129 N k73 k138 v1 p0 s = some ((), s') → G x (QV x w s') 2 w 129 [(0, .ref (ad w 61)), (1, .int v1)] [.long p0, .ref (ad w 61)] s := by
    intro k73 k138 q73 q138 v1 p0 s hf
    unfold f_X9_advance_j129 at hf
    refine g_putL C (R := RX9) (T := TX9) (N := 48) (k := 21) tyX9 tyX9_ok nmX9 kd_61 (by decide) rfl (in_61 hS) hinX9 (by decide) fl_X9_201 rfl rfl rfl (Nat.le_of_ble_eq_true rfl) fs_9_21 dX9_advance_129 ?_
    refine g_nameS hf (fun s1 hf => ?_)
    refine g_iinc (v' := v1 + 1) (lv' := [(1, .int (v1 + 1)), (0, .ref (ad w 61))]) C dX9_advance_132 1 rfl rfl (by decide) rfl ?_
    refine g_goto (tgt := 73) C dX9_advance_135 (by decide) ?_
    refine g_sub [1, 0] rfl ?_
    exact q73 _ _ hf
  have j73 : ∀ (k138 : Int32 → Mem → Option (Unit × Mem)), (∀ (v1 : Int32) (s : Mem), k138 v1 s = some ((), s') → G x (QV x w s') 2 w 138 [(0, .ref (ad w 61)), (1, .int v1)] [] s) → ∀ (n : Nat), ∀ (v1 : Int32) (s : Mem), f_X9_advance_L73 N k138 n v1 s = some ((), s') → G x (QV x w s') 2 w 73 [(0, .ref (ad w 61)), (1, .int v1)] [] s := by
    intro k138 q138 n
    induction n with
    | zero => intro v1 s hf; cases hf
    | succ n ih =>
      intro v1 s hf
      unfold f_X9_advance_L73 at hf
      refine g_iload_n C dX9_advance_73 rfl 1 rfl ?_
      refine g_aload_n C dX9_advance_74 rfl 0 rfl ?_
      refine g_get C (R := RX9) (T := TX9) (N := 48) (k := 17) (v := .int (rI s 61 17)) kd_61 (by decide) rfl (in_61 hS) hinX9 (by decide) fl_X9_190 rfl rfl dX9_advance_75 ?_
      refine g_icmp_ge (tgt := 138) C dX9_advance_78 (by decide) hf (fun hf => ?_) (fun hf => ?_)
      · exact q138 _ _ hf
      · refine g_aload_n C dX9_advance_81 rfl 0 rfl ?_
        refine g_get C (R := RX9) (T := TX9) (N := 48) (k := 16) (v := .ref (ad w 72)) kd_61 (by decide) rfl (in_61 hS) hinX9 (by decide) fl_X9_40 rfl rfl dX9_advance_82 ?_
        refine g_iload_n C dX9_advance_85 rfl 1 rfl ?_
        refine g_iald C kd_72 ln_72 (in_72 hS) dX9_advance_86 hf (fun hf => ?_)
        refine g_callSB C [.int (rI s 72 v1.toNatClampNeg)] (fun _ _ h => c_X9_isLetter (kl x) N w _ h) (g_cwS C hR ml_X9_208 sm_X9_isLetter ini_X9 cd_X9_isLetter hd_X9_isLetter (by decide)) rfl _ rfl (Nat.le_of_ble_eq_true rfl) dX9_advance_87 hf (fun r1 s1 hf => ?_)
        refine g_ifeqB (tgt := 138) C dX9_advance_90 (by decide) hf (fun hf => ?_) (fun hf => ?_)
        · exact q138 _ _ hf
        · refine g_aload_n C dX9_advance_93 rfl 0 rfl ?_
          refine g_iload_n C dX9_advance_94 rfl 1 rfl ?_
          refine g_aload_n C dX9_advance_95 rfl 0 rfl ?_
          refine g_get C (R := RX9) (T := TX9) (N := 48) (k := 19) (v := .int (rI s1 61 19)) kd_61 (by decide) rfl (in_61 hS) hinX9 (by decide) fl_X9_198 rfl rfl dX9_advance_96 ?_
          refine g_isub C dX9_advance_99 ?_
          refine g_bipush C (v := 8) dX9_advance_100 (by decide) ?_
          refine g_icmp_ge (tgt := 128) C dX9_advance_102 (by decide) hf (fun hf => ?_) (fun hf => ?_)
          · refine g_lconst C (v := 0) dX9_advance_128 rfl ?_
            exact j129 (f_X9_advance_L73 N k138 n) k138 ih q138 _ _ _ hf
          · refine g_ldc2 C (v := 27) dX9_advance_105 kL_X9_211 ?_
            refine g_aload_n C dX9_advance_108 rfl 0 rfl ?_
            refine g_get C (R := RX9) (T := TX9) (N := 48) (k := 21) (v := .long (rL s1 61 21)) kd_61 (by decide) rfl (in_61 hS) hinX9 (by decide) fl_X9_201 rfl rfl dX9_advance_109 ?_
            refine g_lmul C dX9_advance_112 ?_
            refine g_aload_n C dX9_advance_113 rfl 0 rfl ?_
            refine g_get C (R := RX9) (T := TX9) (N := 48) (k := 16) (v := .ref (ad w 72)) kd_61 (by decide) rfl (in_61 hS) hinX9 (by decide) fl_X9_40 rfl rfl dX9_advance_114 ?_
            refine g_iload_n C dX9_advance_117 rfl 1 rfl ?_
            refine g_iald C kd_72 ln_72 (in_72 hS) dX9_advance_118 hf (fun hf => ?_)
            refine g_i2l C dX9_advance_119 ?_
            refine g_ladd C dX9_advance_120 ?_
            refine g_ldc2 C (v := 96) dX9_advance_121 kL_X9_213 ?_
            refine g_lsub C dX9_advance_124 ?_
            refine g_goto (tgt := 129) C dX9_advance_125 (by decide) ?_
            exact j129 (f_X9_advance_L73 N k138 n) k138 ih q138 _ _ _ hf
  have j30 : ∀ (v1 : Int32) (s : Mem), f_X9_advance_j30 N v1 s = some ((), s') → G x (QV x w s') 2 w 30 [(0, .ref (ad w 61)), (1, .int v1)] [] s := by
    intro v1 s hf
    unfold f_X9_advance_j30 at hf
    refine g_aload_n C dX9_advance_30 rfl 0 rfl ?_
    refine g_iload_n C dX9_advance_31 rfl 1 rfl ?_
    refine g_putI C (R := RX9) (T := TX9) (N := 48) (k := 19) (ty := .int) tyX9 tyX9_ok nmX9 kd_61 (by decide) rfl (in_61 hS) hinX9 (by decide) fl_X9_198 rfl rfl rfl rfl rfl (Nat.le_of_ble_eq_true rfl) fs_9_19 dX9_advance_32 ?_
    refine g_nameS hf (fun s1 hf => ?_)
    refine g_aload_n C dX9_advance_35 rfl 0 rfl ?_
    refine g_lconst C (v := 0) dX9_advance_36 rfl ?_
    refine g_putL C (R := RX9) (T := TX9) (N := 48) (k := 21) tyX9 tyX9_ok nmX9 kd_61 (by decide) rfl (in_61 hS) hinX9 (by decide) fl_X9_201 rfl rfl rfl (Nat.le_of_ble_eq_true rfl) fs_9_21 dX9_advance_37 ?_
    refine g_nameS hf (fun s2 hf => ?_)
    refine g_iload_n C dX9_advance_40 rfl 1 rfl ?_
    refine g_aload_n C dX9_advance_41 rfl 0 rfl ?_
    refine g_get C (R := RX9) (T := TX9) (N := 48) (k := 17) (v := .int (rI s2 61 17)) kd_61 (by decide) rfl (in_61 hS) hinX9 (by decide) fl_X9_190 rfl rfl dX9_advance_42 ?_
    refine g_icmp_ne (tgt := 56) C dX9_advance_45 (by decide) hf (fun hf => ?_) (fun hf => ?_)
    · refine g_aload_n C dX9_advance_56 rfl 0 rfl ?_
      refine g_get C (R := RX9) (T := TX9) (N := 48) (k := 16) (v := .ref (ad w 72)) kd_61 (by decide) rfl (in_61 hS) hinX9 (by decide) fl_X9_40 rfl rfl dX9_advance_57 ?_
      refine g_iload_n C dX9_advance_60 rfl 1 rfl ?_
      refine g_iald C kd_72 ln_72 (in_72 hS) dX9_advance_61 hf (fun hf => ?_)
      refine g_callSB C [.int (rI s2 72 v1.toNatClampNeg)] (fun _ _ h => c_X9_isLetter (kl x) N w _ h) (g_cwS C hR ml_X9_208 sm_X9_isLetter ini_X9 cd_X9_isLetter hd_X9_isLetter (by decide)) rfl _ rfl (Nat.le_of_ble_eq_true rfl) dX9_advance_62 hf (fun r3 s3 hf => ?_)
      refine g_ifeqB (tgt := 164) C dX9_advance_65 (by decide) hf (fun hf => ?_) (fun hf => ?_)
      · refine g_aload_n C dX9_advance_164 rfl 0 rfl ?_
        refine g_get C (R := RX9) (T := TX9) (N := 48) (k := 16) (v := .ref (ad w 72)) kd_61 (by decide) rfl (in_61 hS) hinX9 (by decide) fl_X9_40 rfl rfl dX9_advance_165 ?_
        refine g_iload_n C dX9_advance_168 rfl 1 rfl ?_
        refine g_iald C kd_72 ln_72 (in_72 hS) dX9_advance_169 hf (fun hf => ?_)
        refine g_callSB C [.int (rI s3 72 v1.toNatClampNeg)] (fun _ _ h => c_X9_isDigit (kl x) N w _ h) (g_cwS C hR ml_X9_215 sm_X9_isDigit ini_X9 cd_X9_isDigit hd_X9_isDigit (by decide)) rfl _ rfl (Nat.le_of_ble_eq_true rfl) dX9_advance_170 hf (fun r4 s4 hf => ?_)
        refine g_ifeqB (tgt := 248) C dX9_advance_173 (by decide) hf (fun hf => ?_) (fun hf => ?_)
        · refine g_aload_n C dX9_advance_248 rfl 0 rfl ?_
          refine g_iconst C (v := 3) dX9_advance_249 rfl ?_
          refine g_putI C (R := RX9) (T := TX9) (N := 48) (k := 18) (ty := .int) tyX9 tyX9_ok nmX9 kd_61 (by decide) rfl (in_61 hS) hinX9 (by decide) fl_X9_205 rfl rfl rfl rfl rfl (Nat.le_of_ble_eq_true rfl) fs_9_18 dX9_advance_250 ?_
          refine g_nameS hf (fun s5 hf => ?_)
          refine g_aload_n C dX9_advance_253 rfl 0 rfl ?_
          refine g_aload_n C dX9_advance_254 rfl 0 rfl ?_
          refine g_get C (R := RX9) (T := TX9) (N := 48) (k := 16) (v := .ref (ad w 72)) kd_61 (by decide) rfl (in_61 hS) hinX9 (by decide) fl_X9_40 rfl rfl dX9_advance_255 ?_
          refine g_iload_n C dX9_advance_258 rfl 1 rfl ?_
          refine g_iald C kd_72 ln_72 (in_72 hS) dX9_advance_259 hf (fun hf => ?_)
          refine g_i2l C dX9_advance_260 ?_
          refine g_putL C (R := RX9) (T := TX9) (N := 48) (k := 21) tyX9 tyX9_ok nmX9 kd_61 (by decide) rfl (in_61 hS) hinX9 (by decide) fl_X9_201 rfl rfl rfl (Nat.le_of_ble_eq_true rfl) fs_9_21 dX9_advance_261 ?_
          refine g_nameS hf (fun s6 hf => ?_)
          refine g_iinc (v' := v1 + 1) (lv' := [(1, .int (v1 + 1)), (0, .ref (ad w 61))]) C dX9_advance_264 1 rfl rfl (by decide) rfl ?_
          refine g_aload_n C dX9_advance_267 rfl 1 rfl ?_
          refine g_iload_n C dX9_advance_268 rfl 0 rfl ?_
          refine g_putI C (R := RX9) (T := TX9) (N := 48) (k := 20) (ty := .int) tyX9 tyX9_ok nmX9 kd_61 (by decide) rfl (in_61 hS) hinX9 (by decide) fl_X9_195 rfl rfl rfl rfl rfl (Nat.le_of_ble_eq_true rfl) fs_9_20 dX9_advance_269 ?_
          refine g_nameS hf (fun s7 hf => ?_)
          exact g_vret C dX9_advance_272 hf
        · refine g_aload_n C dX9_advance_176 rfl 0 rfl ?_
          refine g_iconst C (v := 2) dX9_advance_177 rfl ?_
          refine g_putI C (R := RX9) (T := TX9) (N := 48) (k := 18) (ty := .int) tyX9 tyX9_ok nmX9 kd_61 (by decide) rfl (in_61 hS) hinX9 (by decide) fl_X9_205 rfl rfl rfl rfl rfl (Nat.le_of_ble_eq_true rfl) fs_9_18 dX9_advance_178 ?_
          refine g_nameS hf (fun s8 hf => ?_)
          exact j181 N _ _ hf
      · refine g_aload_n C dX9_advance_68 rfl 0 rfl ?_
        refine g_iconst C (v := 1) dX9_advance_69 rfl ?_
        refine g_putI C (R := RX9) (T := TX9) (N := 48) (k := 18) (ty := .int) tyX9 tyX9_ok nmX9 kd_61 (by decide) rfl (in_61 hS) hinX9 (by decide) fl_X9_205 rfl rfl rfl rfl rfl (Nat.le_of_ble_eq_true rfl) fs_9_18 dX9_advance_70 ?_
        refine g_nameS hf (fun s9 hf => ?_)
        exact j73 (f_X9_advance_j138 N) j138 N _ _ hf
    · refine g_aload_n C dX9_advance_48 rfl 0 rfl ?_
      refine g_iconst C (v := 0) dX9_advance_49 rfl ?_
      refine g_putI C (R := RX9) (T := TX9) (N := 48) (k := 18) (ty := .int) tyX9 tyX9_ok nmX9 kd_61 (by decide) rfl (in_61 hS) hinX9 (by decide) fl_X9_205 rfl rfl rfl rfl rfl (Nat.le_of_ble_eq_true rfl) fs_9_18 dX9_advance_50 ?_
      refine g_nameS hf (fun s10 hf => ?_)
      refine g_goto (tgt := 267) C dX9_advance_53 (by decide) ?_
      refine g_aload_n C dX9_advance_267 rfl 0 rfl ?_
      refine g_iload_n C dX9_advance_268 rfl 1 rfl ?_
      refine g_putI C (R := RX9) (T := TX9) (N := 48) (k := 20) (ty := .int) tyX9 tyX9_ok nmX9 kd_61 (by decide) rfl (in_61 hS) hinX9 (by decide) fl_X9_195 rfl rfl rfl rfl rfl (Nat.le_of_ble_eq_true rfl) fs_9_20 dX9_advance_269 ?_
      refine g_nameS hf (fun s11 hf => ?_)
      exact g_vret C dX9_advance_272 hf
  have j5 : ∀ (k30 : Int32 → Mem → Option (Unit × Mem)), (∀ (v1 : Int32) (s : Mem), k30 v1 s = some ((), s') → G x (QV x w s') 2 w 30 [(0, .ref (ad w 61)), (1, .int v1)] [] s) → ∀ (n : Nat), ∀ (v1 : Int32) (s : Mem), f_X9_advance_L5 N k30 n v1 s = some ((), s') → G x (QV x w s') 2 w 5 [(0, .ref (ad w 61)), (1, .int v1)] [] s := by
    intro k30 q30 n
    induction n with
    | zero => intro v1 s hf; cases hf
    | succ n ih =>
      intro v1 s hf
      unfold f_X9_advance_L5 at hf
      refine g_iload_n C dX9_advance_5 rfl 1 rfl ?_
      refine g_aload_n C dX9_advance_6 rfl 0 rfl ?_
      refine g_get C (R := RX9) (T := TX9) (N := 48) (k := 17) (v := .int (rI s 61 17)) kd_61 (by decide) rfl (in_61 hS) hinX9 (by decide) fl_X9_190 rfl rfl dX9_advance_7 ?_
      refine g_icmp_ge (tgt := 30) C dX9_advance_10 (by decide) hf (fun hf => ?_) (fun hf => ?_)
      · exact q30 _ _ hf
      · refine g_aload_n C dX9_advance_13 rfl 0 rfl ?_
        refine g_get C (R := RX9) (T := TX9) (N := 48) (k := 16) (v := .ref (ad w 72)) kd_61 (by decide) rfl (in_61 hS) hinX9 (by decide) fl_X9_40 rfl rfl dX9_advance_14 ?_
        refine g_iload_n C dX9_advance_17 rfl 1 rfl ?_
        refine g_iald C kd_72 ln_72 (in_72 hS) dX9_advance_18 hf (fun hf => ?_)
        refine g_bipush C (v := 32) dX9_advance_19 (by decide) ?_
        refine g_icmp_ne (tgt := 30) C dX9_advance_21 (by decide) hf (fun hf => ?_) (fun hf => ?_)
        · exact q30 _ _ hf
        · refine g_iinc (v' := v1 + 1) (lv' := [(1, .int (v1 + 1)), (0, .ref (ad w 61))]) C dX9_advance_24 1 rfl rfl (by decide) rfl ?_
          refine g_goto (tgt := 5) C dX9_advance_27 (by decide) ?_
          refine g_sub [1, 0] rfl ?_
          exact ih _ _ hf
  refine g_lv (lv' := [(0, .ref (ad w 61))]) rfl ?_
  unfold f_X9_advance at hf
  refine g_aload_n C dX9_advance_0 rfl 0 rfl ?_
  refine g_get C (R := RX9) (T := TX9) (N := 48) (k := 20) (v := .int (rI s 61 20)) kd_61 (by decide) rfl (in_61 hS) hinX9 (by decide) fl_X9_195 rfl rfl dX9_advance_1 ?_
  refine g_istore_n (lv' := [(1, .int (rI s 61 20)), (0, .ref (ad w 61))]) C dX9_advance_4 rfl (by decide) rfl ?_
  refine g_sub [1, 0] rfl ?_
  exact j5 (f_X9_advance_j30 N) j30 N _ _ hf

set_option maxHeartbeats 4000000 in
set_option maxRecDepth 100000 in
theorem c_X9_isGood (l : Launch) (N : Nat) (w : WX) (hS : SS w = Sm) {s s' : Mem} {r : Bool} (hf : f_X9_isGood N s = some (r, s')) : CB l yX9_isGood (wz yX9_isGood cX9_isGood 1 (some .boolean)) ({ frames := 0, cells := 0, slots := 0, locals := 0 } : Room) [.ref (ad w 61)] w s r s' := by
  refine met_startB (cc := cX9_isGood) (ret := (some .boolean)) (own := RX9) (maxL := 1) (by decide) rfl (Nat.le_of_ble_eq_true rfl) (fun x C hR hl => ?_)
  refine g_lv (lv' := [(0, .ref (ad w 61))]) rfl ?_
  unfold f_X9_isGood at hf
  refine g_aload_n C dX9_isGood_0 rfl 0 rfl ?_
  refine g_get C (R := RX9) (T := TX9) (N := 48) (k := 22) (v := .int (rI s 61 22)) kd_61 (by decide) rfl (in_61 hS) hinX9 (by decide) fl_X9_222 rfl rfl dX9_isGood_1 ?_
  refine g_if_ge (tgt := 11) C dX9_isGood_4 (by decide) hf (fun hf => ?_) (fun hf => ?_)
  · refine g_iconst C (v := 0) dX9_isGood_11 rfl ?_
    exact g_zret (v := false) C dX9_isGood_12 hf
  · refine g_iconst C (v := 1) dX9_isGood_7 rfl ?_
    refine g_goto (tgt := 12) C dX9_isGood_8 (by decide) ?_
    exact g_zret (v := true) C dX9_isGood_12 hf

set_option maxHeartbeats 4000000 in
set_option maxRecDepth 100000 in
theorem c_X9_faulty (l : Launch) (N : Nat) (w : WX) (hS : SS w = Sm) {s s' : Mem} (hf : f_X9_faulty N s = some ((), s')) : CV l yX9_faulty (wz yX9_faulty cX9_faulty 1 none) ({ frames := 0, cells := 0, slots := 0, locals := 0 } : Room) [.ref (ad w 61)] w s s' := by
  refine met_startV (cc := cX9_faulty) (ret := none) (own := RX9) (maxL := 1) (by decide) rfl (Nat.le_of_ble_eq_true rfl) (fun x C hR hl => ?_)
  refine g_lv (lv' := [(0, .ref (ad w 61))]) rfl ?_
  unfold f_X9_faulty at hf
  refine g_aload_n C dX9_faulty_0 rfl 0 rfl ?_
  refine g_aload_n C dX9_faulty_1 rfl 0 rfl ?_
  refine g_get C (R := RX9) (T := TX9) (N := 48) (k := 22) (v := .int (rI s 61 22)) kd_61 (by decide) rfl (in_61 hS) hinX9 (by decide) fl_X9_222 rfl rfl dX9_faulty_2 ?_
  refine g_if_ge (tgt := 15) C dX9_faulty_5 (by decide) hf (fun hf => ?_) (fun hf => ?_)
  · refine g_aload_n C dX9_faulty_15 rfl 0 rfl ?_
    refine g_get C (R := RX9) (T := TX9) (N := 48) (k := 22) (v := .int (rI s 61 22)) kd_61 (by decide) rfl (in_61 hS) hinX9 (by decide) fl_X9_222 rfl rfl dX9_faulty_16 ?_
    refine g_putI C (R := RX9) (T := TX9) (N := 48) (k := 22) (ty := .int) tyX9 tyX9_ok nmX9 kd_61 (by decide) rfl (in_61 hS) hinX9 (by decide) fl_X9_222 rfl rfl rfl rfl rfl (Nat.le_of_ble_eq_true rfl) fs_9_22 dX9_faulty_19 ?_
    refine g_nameS hf (fun s1 hf => ?_)
    exact g_vret C dX9_faulty_22 hf
  · refine g_aload_n C dX9_faulty_8 rfl 0 rfl ?_
    refine g_get C (R := RX9) (T := TX9) (N := 48) (k := 19) (v := .int (rI s 61 19)) kd_61 (by decide) rfl (in_61 hS) hinX9 (by decide) fl_X9_198 rfl rfl dX9_faulty_9 ?_
    refine g_goto (tgt := 19) C dX9_faulty_12 (by decide) ?_
    refine g_putI C (R := RX9) (T := TX9) (N := 48) (k := 22) (ty := .int) tyX9 tyX9_ok nmX9 kd_61 (by decide) rfl (in_61 hS) hinX9 (by decide) fl_X9_222 rfl rfl rfl rfl rfl (Nat.le_of_ble_eq_true rfl) fs_9_22 dX9_faulty_19 ?_
    refine g_nameS hf (fun s2 hf => ?_)
    exact g_vret C dX9_faulty_22 hf

set_option maxHeartbeats 4000000 in
set_option maxRecDepth 100000 in
theorem c_X9_isWord (l : Launch) (N : Nat) (w : WX) (hS : SS w = Sm) (a1 : Int64) {s s' : Mem} {r : Bool} (hf : f_X9_isWord N a1 s = some (r, s')) : CB l yX9_isWord (wz yX9_isWord cX9_isWord 3 (some .boolean)) ({ frames := 0, cells := 0, slots := 0, locals := 0 } : Room) [.ref (ad w 61), .long a1] w s r s' := by
  refine met_startB (cc := cX9_isWord) (ret := (some .boolean)) (own := RX9) (maxL := 3) (by decide) rfl (Nat.le_of_ble_eq_true rfl) (fun x C hR hl => ?_)
  refine g_lv (lv' := [(0, .ref (ad w 61)), (1, .long a1)]) rfl ?_
  unfold f_X9_isWord at hf
  refine g_aload_n C dX9_isWord_0 rfl 0 rfl ?_
  refine g_get C (R := RX9) (T := TX9) (N := 48) (k := 18) (v := .int (rI s 61 18)) kd_61 (by decide) rfl (in_61 hS) hinX9 (by decide) fl_X9_205 rfl rfl dX9_isWord_1 ?_
  refine g_iconst C (v := 1) dX9_isWord_4 rfl ?_
  refine g_icmp_ne (tgt := 21) C dX9_isWord_5 (by decide) hf (fun hf => ?_) (fun hf => ?_)
  · refine g_iconst C (v := 0) dX9_isWord_21 rfl ?_
    exact g_zret (v := false) C dX9_isWord_22 hf
  · refine g_aload_n C dX9_isWord_8 rfl 0 rfl ?_
    refine g_get C (R := RX9) (T := TX9) (N := 48) (k := 21) (v := .long (rL s 61 21)) kd_61 (by decide) rfl (in_61 hS) hinX9 (by decide) fl_X9_201 rfl rfl dX9_isWord_9 ?_
    refine g_lload_n C dX9_isWord_12 rfl 1 rfl ?_
    refine g_lcmp_ne (tgt := 21) C dX9_isWord_13 dX9_isWord_14 (by decide) hf (fun hf => ?_) (fun hf => ?_)
    · refine g_iconst C (v := 0) dX9_isWord_21 rfl ?_
      exact g_zret (v := false) C dX9_isWord_22 hf
    · refine g_iconst C (v := 1) dX9_isWord_17 rfl ?_
      refine g_goto (tgt := 22) C dX9_isWord_18 (by decide) ?_
      exact g_zret (v := true) C dX9_isWord_22 hf

set_option maxHeartbeats 4000000 in
set_option maxRecDepth 100000 in
theorem c_X9_isMark (l : Launch) (N : Nat) (w : WX) (hS : SS w = Sm) (a1 : Int32) {s s' : Mem} {r : Bool} (hf : f_X9_isMark N a1 s = some (r, s')) : CB l yX9_isMark (wz yX9_isMark cX9_isMark 2 (some .boolean)) ({ frames := 0, cells := 0, slots := 0, locals := 0 } : Room) [.ref (ad w 61), .int a1] w s r s' := by
  refine met_startB (cc := cX9_isMark) (ret := (some .boolean)) (own := RX9) (maxL := 2) (by decide) rfl (Nat.le_of_ble_eq_true rfl) (fun x C hR hl => ?_)
  refine g_lv (lv' := [(0, .ref (ad w 61)), (1, .int a1)]) rfl ?_
  unfold f_X9_isMark at hf
  refine g_aload_n C dX9_isMark_0 rfl 0 rfl ?_
  refine g_get C (R := RX9) (T := TX9) (N := 48) (k := 18) (v := .int (rI s 61 18)) kd_61 (by decide) rfl (in_61 hS) hinX9 (by decide) fl_X9_205 rfl rfl dX9_isMark_1 ?_
  refine g_iconst C (v := 3) dX9_isMark_4 rfl ?_
  refine g_icmp_ne (tgt := 22) C dX9_isMark_5 (by decide) hf (fun hf => ?_) (fun hf => ?_)
  · refine g_iconst C (v := 0) dX9_isMark_22 rfl ?_
    exact g_zret (v := false) C dX9_isMark_23 hf
  · refine g_aload_n C dX9_isMark_8 rfl 0 rfl ?_
    refine g_get C (R := RX9) (T := TX9) (N := 48) (k := 21) (v := .long (rL s 61 21)) kd_61 (by decide) rfl (in_61 hS) hinX9 (by decide) fl_X9_201 rfl rfl dX9_isMark_9 ?_
    refine g_iload_n C dX9_isMark_12 rfl 1 rfl ?_
    refine g_i2l C dX9_isMark_13 ?_
    refine g_lcmp_ne (tgt := 22) C dX9_isMark_14 dX9_isMark_15 (by decide) hf (fun hf => ?_) (fun hf => ?_)
    · refine g_iconst C (v := 0) dX9_isMark_22 rfl ?_
      exact g_zret (v := false) C dX9_isMark_23 hf
    · refine g_iconst C (v := 1) dX9_isMark_18 rfl ?_
      refine g_goto (tgt := 23) C dX9_isMark_19 (by decide) ?_
      exact g_zret (v := true) C dX9_isMark_23 hf

set_option maxHeartbeats 4000000 in
set_option maxRecDepth 100000 in
theorem c_X9_want (l : Launch) (N : Nat) (w : WX) (hS : SS w = Sm) (a1 : Bool) {s s' : Mem} (hf : f_X9_want N a1 s = some ((), s')) : CV l yX9_want (wz yX9_want cX9_want 2 none) ({ frames := 2, cells := 0, slots := 0, locals := 41 } : Room) [.ref (ad w 61), .int (bI a1)] w s s' := by
  refine met_startV (cc := cX9_want) (ret := none) (own := RX9) (maxL := 2) (by decide) rfl (Nat.le_of_ble_eq_true rfl) (fun x C hR hl => ?_)
  refine g_lv (lv' := [(0, .ref (ad w 61)), (1, .int (bI a1))]) rfl ?_
  unfold f_X9_want at hf
  refine g_aload_n C dX9_want_0 rfl 0 rfl ?_
  refine g_callVB C (R := RX9) (T := TX9) (N := 48) [] (fun _ _ h => c_X9_isGood (kl x) N w hS h) (g_cwV C hR ml_X9_225 im_X9_isGood sl_X9_isGood ini_X9 cd_X9_isGood hd_X9_isGood (by decide)) kd_61 (by decide) rfl (in_61 hS) rfl _ rfl (Nat.le_of_ble_eq_true rfl) dX9_want_1 hf (fun r1 s1 hf => ?_)
  refine g_ifeqB (tgt := 22) C dX9_want_4 (by decide) hf (fun hf => ?_) (fun hf => ?_)
  · exact g_vret C dX9_want_22 hf
  · refine g_iload_n C dX9_want_7 rfl 1 rfl ?_
    refine g_ifeqB (tgt := 18) C dX9_want_8 (by decide) hf (fun hf => ?_) (fun hf => ?_)
    · refine g_aload_n C dX9_want_18 rfl 0 rfl ?_
      refine g_callVV C (R := RX9) (T := TX9) (N := 48) [] (fun _ h => c_X9_faulty (kl x) N w hS h) (g_cwV C hR ml_X9_232 im_X9_faulty sl_X9_faulty ini_X9 cd_X9_faulty hd_X9_faulty (by decide)) kd_61 (by decide) rfl (in_61 hS) rfl _ rfl (Nat.le_of_ble_eq_true rfl) dX9_want_19 hf (fun s2 hf => ?_)
      exact g_vret C dX9_want_22 hf
    · refine g_aload_n C dX9_want_11 rfl 0 rfl ?_
      refine g_callVV C (R := RX9) (T := TX9) (N := 48) [] (fun _ h => c_X9_advance (kl x) N w hS h) (g_cwV C hR ml_X9_229 im_X9_advance sl_X9_advance ini_X9 cd_X9_advance hd_X9_advance (by decide)) kd_61 (by decide) rfl (in_61 hS) rfl _ rfl (Nat.le_of_ble_eq_true rfl) dX9_want_12 hf (fun s3 hf => ?_)
      refine g_goto (tgt := 22) C dX9_want_15 (by decide) ?_
      exact g_vret C dX9_want_22 hf

set_option maxHeartbeats 4000000 in
set_option maxRecDepth 100000 in
theorem c_X9_wantNumber (l : Launch) (N : Nat) (w : WX) (hS : SS w = Sm) {s s' : Mem} {r : Int32} (hf : f_X9_wantNumber N s = some (r, s')) : CI l yX9_wantNumber (wz yX9_wantNumber cX9_wantNumber 2 (some .int)) ({ frames := 3, cells := 0, slots := 0, locals := 62 } : Room) [.ref (ad w 61)] w s r s' := by
  refine met_startI (cc := cX9_wantNumber) (ret := (some .int)) (own := RX9) (maxL := 2) (by decide) rfl (Nat.le_of_ble_eq_true rfl) (fun x C hR hl => ?_)
  have j33 : ∀ (v1 : Int32) (p0 : Bool) (s : Mem), f_X9_wantNumber_j33 N v1 p0 s = some (r, s') → G x (QI x w r s') 2 w 33 [(1, .int v1)] [.int (bI p0), .ref (ad w 61)] s := by
    intro v1 p0 s hf
    unfold f_X9_wantNumber_j33 at hf
    refine g_callVV C (R := RX9) (T := TX9) (N := 48) [.int (bI p0)] (fun _ h => c_X9_want (kl x) N w hS _ h) (g_cwV C hR ml_X9_235 im_X9_want sl_X9_want ini_X9 cd_X9_want hd_X9_want (by decide)) kd_61 (by decide) rfl (in_61 hS) rfl _ rfl (Nat.le_of_ble_eq_true rfl) dX9_wantNumber_33 hf (fun s1 hf => ?_)
    refine g_iload_n C dX9_wantNumber_36 rfl 0 rfl ?_
    exact g_iret C dX9_wantNumber_37 hf
  have j32 : ∀ (v1 : Int32) (s : Mem), f_X9_wantNumber_j32 N v1 s = some (r, s') → G x (QI x w r s') 2 w 32 [(1, .int v1)] [.ref (ad w 61)] s := by
    intro v1 s hf
    unfold f_X9_wantNumber_j32 at hf
    refine g_iconst C (v := 0) dX9_wantNumber_32 rfl ?_
    exact j33 _ _ _ hf
  refine g_lv (lv' := [(0, .ref (ad w 61))]) rfl ?_
  unfold f_X9_wantNumber at hf
  refine g_aload_n C dX9_wantNumber_0 rfl 0 rfl ?_
  refine g_get C (R := RX9) (T := TX9) (N := 48) (k := 21) (v := .long (rL s 61 21)) kd_61 (by decide) rfl (in_61 hS) hinX9 (by decide) fl_X9_201 rfl rfl dX9_wantNumber_1 ?_
  refine g_l2i C dX9_wantNumber_4 ?_
  refine g_istore_n (lv' := [(1, .int ((rL s 61 21).toInt32)), (0, .ref (ad w 61))]) C dX9_wantNumber_5 rfl (by decide) rfl ?_
  refine g_aload_n C dX9_wantNumber_6 rfl 1 rfl ?_
  refine g_aload_n C dX9_wantNumber_7 rfl 1 rfl ?_
  refine g_get C (R := RX9) (T := TX9) (N := 48) (k := 18) (v := .int (rI s 61 18)) kd_61 (by decide) rfl (in_61 hS) hinX9 (by decide) fl_X9_205 rfl rfl dX9_wantNumber_8 ?_
  refine g_iconst C (v := 2) dX9_wantNumber_11 rfl ?_
  refine g_icmp_ne (tgt := 32) C dX9_wantNumber_12 (by decide) hf (fun hf => ?_) (fun hf => ?_)
  · refine g_sub [0] rfl ?_
    exact j32 _ _ hf
  · refine g_aload_n C dX9_wantNumber_15 rfl 1 rfl ?_
    refine g_get C (R := RX9) (T := TX9) (N := 48) (k := 20) (v := .int (rI s 61 20)) kd_61 (by decide) rfl (in_61 hS) hinX9 (by decide) fl_X9_195 rfl rfl dX9_wantNumber_16 ?_
    refine g_aload_n C dX9_wantNumber_19 rfl 1 rfl ?_
    refine g_get C (R := RX9) (T := TX9) (N := 48) (k := 19) (v := .int (rI s 61 19)) kd_61 (by decide) rfl (in_61 hS) hinX9 (by decide) fl_X9_198 rfl rfl dX9_wantNumber_20 ?_
    refine g_isub C dX9_wantNumber_23 ?_
    refine g_iconst C (v := 3) dX9_wantNumber_24 rfl ?_
    refine g_icmp_gt (tgt := 32) C dX9_wantNumber_25 (by decide) hf (fun hf => ?_) (fun hf => ?_)
    · refine g_sub [0] rfl ?_
      exact j32 _ _ hf
    · refine g_iconst C (v := 1) dX9_wantNumber_28 rfl ?_
      refine g_goto (tgt := 33) C dX9_wantNumber_29 (by decide) ?_
      refine g_sub [0] rfl ?_
      exact j33 _ _ _ hf

set_option maxHeartbeats 4000000 in
set_option maxRecDepth 100000 in
theorem c_X9_emit (l : Launch) (N : Nat) (w : WX) (hS : SS w = Sm) (a1 : Int32) {s s' : Mem} (hf : f_X9_emit N a1 s = some ((), s')) : CV l yX9_emit (wz yX9_emit cX9_emit 2 none) ({ frames := 0, cells := 0, slots := 0, locals := 0 } : Room) [.ref (ad w 61), .int a1] w s s' := by
  refine met_startV (cc := cX9_emit) (ret := none) (own := RX9) (maxL := 2) (by decide) rfl (Nat.le_of_ble_eq_true rfl) (fun x C hR hl => ?_)
  refine g_lv (lv' := [(0, .ref (ad w 61)), (1, .int a1)]) rfl ?_
  unfold f_X9_emit at hf
  refine g_aload_n C dX9_emit_0 rfl 0 rfl ?_
  refine g_get C (R := RX9) (T := TX9) (N := 48) (k := 23) (v := .ref (ad w 73)) kd_61 (by decide) rfl (in_61 hS) hinX9 (by decide) fl_X9_43 rfl rfl dX9_emit_1 ?_
  refine g_aload_n C dX9_emit_4 rfl 0 rfl ?_
  refine g_get C (R := RX9) (T := TX9) (N := 48) (k := 27) (v := .int (rI s 61 27)) kd_61 (by decide) rfl (in_61 hS) hinX9 (by decide) fl_X9_239 rfl rfl dX9_emit_5 ?_
  refine g_iload_n C dX9_emit_8 rfl 1 rfl ?_
  refine g_iast C kd_73 ln_73 (in_73 hS) dX9_emit_9 hf (fun hf => ?_)
  refine g_nameS hf (fun s1 hf => ?_)
  refine g_aload_n C dX9_emit_10 rfl 0 rfl ?_
  refine g_dup C dX9_emit_11 rfl ?_
  refine g_get C (R := RX9) (T := TX9) (N := 48) (k := 27) (v := .int (rI s1 61 27)) kd_61 (by decide) rfl (in_61 hS) hinX9 (by decide) fl_X9_239 rfl rfl dX9_emit_12 ?_
  refine g_iconst C (v := 1) dX9_emit_15 rfl ?_
  refine g_iadd C dX9_emit_16 ?_
  refine g_putI C (R := RX9) (T := TX9) (N := 48) (k := 27) (ty := .int) tyX9 tyX9_ok nmX9 kd_61 (by decide) rfl (in_61 hS) hinX9 (by decide) fl_X9_239 rfl rfl rfl rfl rfl (Nat.le_of_ble_eq_true rfl) fs_9_27 dX9_emit_17 ?_
  refine g_nameS hf (fun s2 hf => ?_)
  exact g_vret C dX9_emit_20 hf

set_option maxHeartbeats 4000000 in
set_option maxRecDepth 100000 in
theorem c_X9_settle (l : Launch) (N : Nat) (w : WX) (hS : SS w = Sm) (a1 : Int32) {s s' : Mem} (hf : f_X9_settle N a1 s = some ((), s')) : CV l yX9_settle (wz yX9_settle cX9_settle 2 none) ({ frames := 1, cells := 0, slots := 0, locals := 21 } : Room) [.ref (ad w 61), .int a1] w s s' := by
  refine met_startV (cc := cX9_settle) (ret := none) (own := RX9) (maxL := 2) (by decide) rfl (Nat.le_of_ble_eq_true rfl) (fun x C hR hl => ?_)
  have j0 : ∀ (n : Nat), ∀ (v1 : Int32) (s : Mem), f_X9_settle_L0 N n v1 s = some ((), s') → G x (QV x w s') 2 w 0 [(0, .ref (ad w 61)), (1, .int v1)] [] s := by
    intro n
    induction n with
    | zero => intro v1 s hf; cases hf
    | succ n ih =>
      intro v1 s hf
      unfold f_X9_settle_L0 at hf
      refine g_aload_n C dX9_settle_0 rfl 0 rfl ?_
      refine g_get C (R := RX9) (T := TX9) (N := 48) (k := 28) (v := .int (rI s 61 28)) kd_61 (by decide) rfl (in_61 hS) hinX9 (by decide) fl_X9_242 rfl rfl dX9_settle_1 ?_
      refine g_if_le (tgt := 64) C dX9_settle_4 (by decide) hf (fun hf => ?_) (fun hf => ?_)
      · exact g_vret C dX9_settle_64 hf
      · refine g_aload_n C dX9_settle_7 rfl 0 rfl ?_
        refine g_get C (R := RX9) (T := TX9) (N := 48) (k := 24) (v := .ref (ad w 74)) kd_61 (by decide) rfl (in_61 hS) hinX9 (by decide) fl_X9_46 rfl rfl dX9_settle_8 ?_
        refine g_aload_n C dX9_settle_11 rfl 0 rfl ?_
        refine g_get C (R := RX9) (T := TX9) (N := 48) (k := 28) (v := .int (rI s 61 28)) kd_61 (by decide) rfl (in_61 hS) hinX9 (by decide) fl_X9_242 rfl rfl dX9_settle_12 ?_
        refine g_iconst C (v := 1) dX9_settle_15 rfl ?_
        refine g_isub C dX9_settle_16 ?_
        refine g_iald C kd_74 ln_74 (in_74 hS) dX9_settle_17 hf (fun hf => ?_)
        refine g_bipush C (v := 10) dX9_settle_18 (by decide) ?_
        refine g_icmp_eq (tgt := 64) C dX9_settle_20 (by decide) hf (fun hf => ?_) (fun hf => ?_)
        · exact g_vret C dX9_settle_64 hf
        · refine g_aload_n C dX9_settle_23 rfl 0 rfl ?_
          refine g_get C (R := RX9) (T := TX9) (N := 48) (k := 24) (v := .ref (ad w 74)) kd_61 (by decide) rfl (in_61 hS) hinX9 (by decide) fl_X9_46 rfl rfl dX9_settle_24 ?_
          refine g_aload_n C dX9_settle_27 rfl 0 rfl ?_
          refine g_get C (R := RX9) (T := TX9) (N := 48) (k := 28) (v := .int (rI s 61 28)) kd_61 (by decide) rfl (in_61 hS) hinX9 (by decide) fl_X9_242 rfl rfl dX9_settle_28 ?_
          refine g_iconst C (v := 1) dX9_settle_31 rfl ?_
          refine g_isub C dX9_settle_32 ?_
          refine g_iald C kd_74 ln_74 (in_74 hS) dX9_settle_33 hf (fun hf => ?_)
          refine g_iload_n C dX9_settle_34 rfl 1 rfl ?_
          refine g_icmp_gt (tgt := 64) C dX9_settle_35 (by decide) hf (fun hf => ?_) (fun hf => ?_)
          · exact g_vret C dX9_settle_64 hf
          · refine g_aload_n C dX9_settle_38 rfl 0 rfl ?_
            refine g_dup C dX9_settle_39 rfl ?_
            refine g_get C (R := RX9) (T := TX9) (N := 48) (k := 28) (v := .int (rI s 61 28)) kd_61 (by decide) rfl (in_61 hS) hinX9 (by decide) fl_X9_242 rfl rfl dX9_settle_40 ?_
            refine g_iconst C (v := 1) dX9_settle_43 rfl ?_
            refine g_isub C dX9_settle_44 ?_
            refine g_putI C (R := RX9) (T := TX9) (N := 48) (k := 28) (ty := .int) tyX9 tyX9_ok nmX9 kd_61 (by decide) rfl (in_61 hS) hinX9 (by decide) fl_X9_242 rfl rfl rfl rfl rfl (Nat.le_of_ble_eq_true rfl) fs_9_28 dX9_settle_45 ?_
            refine g_nameS hf (fun s1 hf => ?_)
            refine g_aload_n C dX9_settle_48 rfl 0 rfl ?_
            refine g_aload_n C dX9_settle_49 rfl 0 rfl ?_
            refine g_get C (R := RX9) (T := TX9) (N := 48) (k := 24) (v := .ref (ad w 74)) kd_61 (by decide) rfl (in_61 hS) hinX9 (by decide) fl_X9_46 rfl rfl dX9_settle_50 ?_
            refine g_aload_n C dX9_settle_53 rfl 0 rfl ?_
            refine g_get C (R := RX9) (T := TX9) (N := 48) (k := 28) (v := .int (rI s1 61 28)) kd_61 (by decide) rfl (in_61 hS) hinX9 (by decide) fl_X9_242 rfl rfl dX9_settle_54 ?_
            refine g_iald C kd_74 ln_74 (in_74 hS) dX9_settle_57 hf (fun hf => ?_)
            refine g_callVV C (R := RX9) (T := TX9) (N := 48) [.int (rI s1 74 (rI s1 61 28).toNatClampNeg)] (fun _ h => c_X9_emit (kl x) N w hS _ h) (g_cwV C hR ml_X9_245 im_X9_emit sl_X9_emit ini_X9 cd_X9_emit hd_X9_emit (by decide)) kd_61 (by decide) rfl (in_61 hS) rfl _ rfl (Nat.le_of_ble_eq_true rfl) dX9_settle_58 hf (fun s2 hf => ?_)
            refine g_goto (tgt := 0) C dX9_settle_61 (by decide) ?_
            exact ih _ _ hf
  refine g_lv (lv' := [(0, .ref (ad w 61)), (1, .int a1)]) rfl ?_
  unfold f_X9_settle at hf
  exact j0 N _ _ hf

set_option maxHeartbeats 4000000 in
set_option maxRecDepth 100000 in
theorem c_X9_hold (l : Launch) (N : Nat) (w : WX) (hS : SS w = Sm) (a1 : Int32) {s s' : Mem} (hf : f_X9_hold N a1 s = some ((), s')) : CV l yX9_hold (wz yX9_hold cX9_hold 2 none) ({ frames := 2, cells := 0, slots := 0, locals := 41 } : Room) [.ref (ad w 61), .int a1] w s s' := by
  refine met_startV (cc := cX9_hold) (ret := none) (own := RX9) (maxL := 2) (by decide) rfl (Nat.le_of_ble_eq_true rfl) (fun x C hR hl => ?_)
  refine g_lv (lv' := [(0, .ref (ad w 61)), (1, .int a1)]) rfl ?_
  unfold f_X9_hold at hf
  refine g_aload_n C dX9_hold_0 rfl 0 rfl ?_
  refine g_get C (R := RX9) (T := TX9) (N := 48) (k := 24) (v := .ref (ad w 74)) kd_61 (by decide) rfl (in_61 hS) hinX9 (by decide) fl_X9_46 rfl rfl dX9_hold_1 ?_
  refine g_aload_n C dX9_hold_4 rfl 0 rfl ?_
  refine g_get C (R := RX9) (T := TX9) (N := 48) (k := 28) (v := .int (rI s 61 28)) kd_61 (by decide) rfl (in_61 hS) hinX9 (by decide) fl_X9_242 rfl rfl dX9_hold_5 ?_
  refine g_iload_n C dX9_hold_8 rfl 1 rfl ?_
  refine g_iast C kd_74 ln_74 (in_74 hS) dX9_hold_9 hf (fun hf => ?_)
  refine g_nameS hf (fun s1 hf => ?_)
  refine g_aload_n C dX9_hold_10 rfl 0 rfl ?_
  refine g_dup C dX9_hold_11 rfl ?_
  refine g_get C (R := RX9) (T := TX9) (N := 48) (k := 28) (v := .int (rI s1 61 28)) kd_61 (by decide) rfl (in_61 hS) hinX9 (by decide) fl_X9_242 rfl rfl dX9_hold_12 ?_
  refine g_iconst C (v := 1) dX9_hold_15 rfl ?_
  refine g_iadd C dX9_hold_16 ?_
  refine g_putI C (R := RX9) (T := TX9) (N := 48) (k := 28) (ty := .int) tyX9 tyX9_ok nmX9 kd_61 (by decide) rfl (in_61 hS) hinX9 (by decide) fl_X9_242 rfl rfl rfl rfl rfl (Nat.le_of_ble_eq_true rfl) fs_9_28 dX9_hold_17 ?_
  refine g_nameS hf (fun s2 hf => ?_)
  refine g_aload_n C dX9_hold_20 rfl 0 rfl ?_
  refine g_callVV C (R := RX9) (T := TX9) (N := 48) [] (fun _ h => c_X9_advance (kl x) N w hS h) (g_cwV C hR ml_X9_229 im_X9_advance sl_X9_advance ini_X9 cd_X9_advance hd_X9_advance (by decide)) kd_61 (by decide) rfl (in_61 hS) rfl _ rfl (Nat.le_of_ble_eq_true rfl) dX9_hold_21 hf (fun s3 hf => ?_)
  exact g_vret C dX9_hold_24 hf

set_option maxHeartbeats 4000000 in
set_option maxRecDepth 100000 in
theorem c_X9_wordHere (l : Launch) (N : Nat) (w : WX) (hS : SS w = Sm) {s s' : Mem} {r : Int32} (hf : f_X9_wordHere N s = some (r, s')) : CI l yX9_wordHere (wz yX9_wordHere cX9_wordHere 1 (some .int)) ({ frames := 1, cells := 0, slots := 0, locals := 22 } : Room) [.ref (ad w 61)] w s r s' := by
  refine met_startI (cc := cX9_wordHere) (ret := (some .int)) (own := RX9) (maxL := 1) (by decide) rfl (Nat.le_of_ble_eq_true rfl) (fun x C hR hl => ?_)
  refine g_lv (lv' := [(0, .ref (ad w 61))]) rfl ?_
  unfold f_X9_wordHere at hf
  refine g_aload_n C dX9_wordHere_0 rfl 0 rfl ?_
  refine g_ldc2 C (v := 230433031) dX9_wordHere_1 kL_X9_249 ?_
  refine g_callVB C (R := RX9) (T := TX9) (N := 48) [.long 230433031] (fun _ _ h => c_X9_isWord (kl x) N w hS _ h) (g_cwV C hR ml_X9_251 im_X9_isWord sl_X9_isWord ini_X9 cd_X9_isWord hd_X9_isWord (by decide)) kd_61 (by decide) rfl (in_61 hS) rfl _ rfl (Nat.le_of_ble_eq_true rfl) dX9_wordHere_4 hf (fun r1 s1 hf => ?_)
  refine g_ifeqB (tgt := 15) C dX9_wordHere_7 (by decide) hf (fun hf => ?_) (fun hf => ?_)
  · refine g_aload_n C dX9_wordHere_15 rfl 0 rfl ?_
    refine g_ldc2 C (v := 283288069) dX9_wordHere_16 kL_X9_255 ?_
    refine g_callVB C (R := RX9) (T := TX9) (N := 48) [.long 283288069] (fun _ _ h => c_X9_isWord (kl x) N w hS _ h) (g_cwV C hR ml_X9_251 im_X9_isWord sl_X9_isWord ini_X9 cd_X9_isWord hd_X9_isWord (by decide)) kd_61 (by decide) rfl (in_61 hS) rfl _ rfl (Nat.le_of_ble_eq_true rfl) dX9_wordHere_19 hf (fun r2 s2 hf => ?_)
    refine g_ifeqB (tgt := 30) C dX9_wordHere_22 (by decide) hf (fun hf => ?_) (fun hf => ?_)
    · refine g_aload_n C dX9_wordHere_30 rfl 0 rfl ?_
      refine g_ldc2 C (v := 923) dX9_wordHere_31 kL_X9_257 ?_
      refine g_callVB C (R := RX9) (T := TX9) (N := 48) [.long 923] (fun _ _ h => c_X9_isWord (kl x) N w hS _ h) (g_cwV C hR ml_X9_251 im_X9_isWord sl_X9_isWord ini_X9 cd_X9_isWord hd_X9_isWord (by decide)) kd_61 (by decide) rfl (in_61 hS) rfl _ rfl (Nat.le_of_ble_eq_true rfl) dX9_wordHere_34 hf (fun r3 s3 hf => ?_)
      refine g_ifeqB (tgt := 45) C dX9_wordHere_37 (by decide) hf (fun hf => ?_) (fun hf => ?_)
      · refine g_aload_n C dX9_wordHere_45 rfl 0 rfl ?_
        refine g_ldc2 C (v := 377771) dX9_wordHere_46 kL_X9_259 ?_
        refine g_callVB C (R := RX9) (T := TX9) (N := 48) [.long 377771] (fun _ _ h => c_X9_isWord (kl x) N w hS _ h) (g_cwV C hR ml_X9_251 im_X9_isWord sl_X9_isWord ini_X9 cd_X9_isWord hd_X9_isWord (by decide)) kd_61 (by decide) rfl (in_61 hS) rfl _ rfl (Nat.le_of_ble_eq_true rfl) dX9_wordHere_49 hf (fun r4 s4 hf => ?_)
        refine g_ifeqB (tgt := 60) C dX9_wordHere_52 (by decide) hf (fun hf => ?_) (fun hf => ?_)
        · refine g_aload_n C dX9_wordHere_60 rfl 0 rfl ?_
          refine g_ldc2 C (v := 4562600) dX9_wordHere_61 kL_X9_261 ?_
          refine g_callVB C (R := RX9) (T := TX9) (N := 48) [.long 4562600] (fun _ _ h => c_X9_isWord (kl x) N w hS _ h) (g_cwV C hR ml_X9_251 im_X9_isWord sl_X9_isWord ini_X9 cd_X9_isWord hd_X9_isWord (by decide)) kd_61 (by decide) rfl (in_61 hS) rfl _ rfl (Nat.le_of_ble_eq_true rfl) dX9_wordHere_64 hf (fun r5 s5 hf => ?_)
          refine g_ifeqB (tgt := 75) C dX9_wordHere_67 (by decide) hf (fun hf => ?_) (fun hf => ?_)
          · refine g_aload_n C dX9_wordHere_75 rfl 0 rfl ?_
            refine g_ldc2 C (v := 12588757) dX9_wordHere_76 kL_X9_263 ?_
            refine g_callVB C (R := RX9) (T := TX9) (N := 48) [.long 12588757] (fun _ _ h => c_X9_isWord (kl x) N w hS _ h) (g_cwV C hR ml_X9_251 im_X9_isWord sl_X9_isWord ini_X9 cd_X9_isWord hd_X9_isWord (by decide)) kd_61 (by decide) rfl (in_61 hS) rfl _ rfl (Nat.le_of_ble_eq_true rfl) dX9_wordHere_79 hf (fun r6 s6 hf => ?_)
            refine g_ifeqB (tgt := 90) C dX9_wordHere_82 (by decide) hf (fun hf => ?_) (fun hf => ?_)
            · refine g_iconst C (v := 0) dX9_wordHere_90 rfl ?_
              exact g_iret C dX9_wordHere_91 hf
            · refine g_bipush C (v := 105) dX9_wordHere_85 (by decide) ?_
              refine g_goto (tgt := 91) C dX9_wordHere_87 (by decide) ?_
              exact g_iret C dX9_wordHere_91 hf
          · refine g_bipush C (v := 104) dX9_wordHere_70 (by decide) ?_
            refine g_goto (tgt := 91) C dX9_wordHere_72 (by decide) ?_
            exact g_iret C dX9_wordHere_91 hf
        · refine g_bipush C (v := 103) dX9_wordHere_55 (by decide) ?_
          refine g_goto (tgt := 91) C dX9_wordHere_57 (by decide) ?_
          exact g_iret C dX9_wordHere_91 hf
      · refine g_bipush C (v := 102) dX9_wordHere_40 (by decide) ?_
        refine g_goto (tgt := 91) C dX9_wordHere_42 (by decide) ?_
        exact g_iret C dX9_wordHere_91 hf
    · refine g_bipush C (v := 101) dX9_wordHere_25 (by decide) ?_
      refine g_goto (tgt := 91) C dX9_wordHere_27 (by decide) ?_
      exact g_iret C dX9_wordHere_91 hf
  · refine g_bipush C (v := 100) dX9_wordHere_10 (by decide) ?_
    refine g_goto (tgt := 91) C dX9_wordHere_12 (by decide) ?_
    exact g_iret C dX9_wordHere_91 hf

set_option maxHeartbeats 4000000 in
set_option maxRecDepth 100000 in
theorem c_X9_wantValue (l : Launch) (N : Nat) (w : WX) (hS : SS w = Sm) {s s' : Mem} (hf : f_X9_wantValue N s = some ((), s')) : CV l yX9_wantValue (wz yX9_wantValue cX9_wantValue 3 none) ({ frames := 4, cells := 0, slots := 0, locals := 83 } : Room) [.ref (ad w 61)] w s s' := by
  refine met_startV (cc := cX9_wantValue) (ret := none) (own := RX9) (maxL := 3) (by decide) rfl (Nat.le_of_ble_eq_true rfl) (fun x C hR hl => ?_)
  refine g_lv (lv' := [(0, .ref (ad w 61))]) rfl ?_
  unfold f_X9_wantValue at hf
  refine g_aload_n C dX9_wantValue_0 rfl 0 rfl ?_
  refine g_callVI C (R := RX9) (T := TX9) (N := 48) [] (fun _ _ h => c_X9_wordHere (kl x) N w hS h) (g_cwV C hR ml_X9_265 im_X9_wordHere sl_X9_wordHere ini_X9 cd_X9_wordHere hd_X9_wordHere (by decide)) kd_61 (by decide) rfl (in_61 hS) rfl _ rfl (Nat.le_of_ble_eq_true rfl) dX9_wantValue_1 hf (fun r1 s1 hf => ?_)
  refine g_istore_n (lv' := [(1, .int r1), (0, .ref (ad w 61))]) C dX9_wantValue_4 rfl (by decide) rfl ?_
  refine g_iload_n C dX9_wantValue_5 rfl 0 rfl ?_
  refine g_if_le (tgt := 21) C dX9_wantValue_6 (by decide) hf (fun hf => ?_) (fun hf => ?_)
  · refine g_aload_n C dX9_wantValue_21 rfl 1 rfl ?_
    refine g_ldc2 C (v := 10256063) dX9_wantValue_22 kL_X9_268 ?_
    refine g_callVB C (R := RX9) (T := TX9) (N := 48) [.long 10256063] (fun _ _ h => c_X9_isWord (kl x) N w hS _ h) (g_cwV C hR ml_X9_251 im_X9_isWord sl_X9_isWord ini_X9 cd_X9_isWord hd_X9_isWord (by decide)) kd_61 (by decide) rfl (in_61 hS) rfl _ rfl (Nat.le_of_ble_eq_true rfl) dX9_wantValue_25 hf (fun r2 s2 hf => ?_)
    refine g_ifeqB (tgt := 52) C dX9_wantValue_28 (by decide) hf (fun hf => ?_) (fun hf => ?_)
    · refine g_aload_n C dX9_wantValue_52 rfl 1 rfl ?_
      refine g_callVI C (R := RX9) (T := TX9) (N := 48) [] (fun _ _ h => c_X9_wantNumber (kl x) N w hS h) (g_cwV C hR ml_X9_270 im_X9_wantNumber sl_X9_wantNumber ini_X9 cd_X9_wantNumber hd_X9_wantNumber (by decide)) kd_61 (by decide) rfl (in_61 hS) rfl _ rfl (Nat.le_of_ble_eq_true rfl) dX9_wantValue_53 hf (fun r3 s3 hf => ?_)
      refine g_istore_n (lv' := [(2, .int r3), (1, .int r1), (0, .ref (ad w 61))]) C dX9_wantValue_56 rfl (by decide) rfl ?_
      refine g_aload_n C dX9_wantValue_57 rfl 2 rfl ?_
      refine g_sipush C (v := 3000) dX9_wantValue_58 (by decide) ?_
      refine g_iload_n C dX9_wantValue_61 rfl 0 rfl ?_
      refine g_iadd C dX9_wantValue_62 ?_
      refine g_callVV C (R := RX9) (T := TX9) (N := 48) [.int (3000 + r3)] (fun _ h => c_X9_emit (kl x) N w hS _ h) (g_cwV C hR ml_X9_245 im_X9_emit sl_X9_emit ini_X9 cd_X9_emit hd_X9_emit (by decide)) kd_61 (by decide) rfl (in_61 hS) rfl _ rfl (Nat.le_of_ble_eq_true rfl) dX9_wantValue_63 hf (fun s4 hf => ?_)
      exact g_vret C dX9_wantValue_66 hf
    · refine g_aload_n C dX9_wantValue_31 rfl 1 rfl ?_
      refine g_callVV C (R := RX9) (T := TX9) (N := 48) [] (fun _ h => c_X9_advance (kl x) N w hS h) (g_cwV C hR ml_X9_229 im_X9_advance sl_X9_advance ini_X9 cd_X9_advance hd_X9_advance (by decide)) kd_61 (by decide) rfl (in_61 hS) rfl _ rfl (Nat.le_of_ble_eq_true rfl) dX9_wantValue_32 hf (fun s5 hf => ?_)
      refine g_aload_n C dX9_wantValue_35 rfl 1 rfl ?_
      refine g_callVI C (R := RX9) (T := TX9) (N := 48) [] (fun _ _ h => c_X9_wantNumber (kl x) N w hS h) (g_cwV C hR ml_X9_270 im_X9_wantNumber sl_X9_wantNumber ini_X9 cd_X9_wantNumber hd_X9_wantNumber (by decide)) kd_61 (by decide) rfl (in_61 hS) rfl _ rfl (Nat.le_of_ble_eq_true rfl) dX9_wantValue_36 hf (fun r6 s6 hf => ?_)
      refine g_istore_n (lv' := [(2, .int r6), (1, .int r1), (0, .ref (ad w 61))]) C dX9_wantValue_39 rfl (by decide) rfl ?_
      refine g_aload_n C dX9_wantValue_40 rfl 2 rfl ?_
      refine g_sipush C (v := 1000) dX9_wantValue_41 (by decide) ?_
      refine g_iload_n C dX9_wantValue_44 rfl 0 rfl ?_
      refine g_iadd C dX9_wantValue_45 ?_
      refine g_callVV C (R := RX9) (T := TX9) (N := 48) [.int (1000 + r6)] (fun _ h => c_X9_emit (kl x) N w hS _ h) (g_cwV C hR ml_X9_245 im_X9_emit sl_X9_emit ini_X9 cd_X9_emit hd_X9_emit (by decide)) kd_61 (by decide) rfl (in_61 hS) rfl _ rfl (Nat.le_of_ble_eq_true rfl) dX9_wantValue_46 hf (fun s7 hf => ?_)
      refine g_goto (tgt := 66) C dX9_wantValue_49 (by decide) ?_
      exact g_vret C dX9_wantValue_66 hf
  · refine g_aload_n C dX9_wantValue_9 rfl 1 rfl ?_
    refine g_iload_n C dX9_wantValue_10 rfl 0 rfl ?_
    refine g_callVV C (R := RX9) (T := TX9) (N := 48) [.int r1] (fun _ h => c_X9_emit (kl x) N w hS _ h) (g_cwV C hR ml_X9_245 im_X9_emit sl_X9_emit ini_X9 cd_X9_emit hd_X9_emit (by decide)) kd_61 (by decide) rfl (in_61 hS) rfl _ rfl (Nat.le_of_ble_eq_true rfl) dX9_wantValue_11 hf (fun s8 hf => ?_)
    refine g_aload_n C dX9_wantValue_14 rfl 1 rfl ?_
    refine g_callVV C (R := RX9) (T := TX9) (N := 48) [] (fun _ h => c_X9_advance (kl x) N w hS h) (g_cwV C hR ml_X9_229 im_X9_advance sl_X9_advance ini_X9 cd_X9_advance hd_X9_advance (by decide)) kd_61 (by decide) rfl (in_61 hS) rfl _ rfl (Nat.le_of_ble_eq_true rfl) dX9_wantValue_15 hf (fun s9 hf => ?_)
    refine g_goto (tgt := 66) C dX9_wantValue_18 (by decide) ?_
    exact g_vret C dX9_wantValue_66 hf

set_option maxHeartbeats 4000000 in
set_option maxRecDepth 100000 in
theorem c_X9_wantAsk (l : Launch) (N : Nat) (w : WX) (hS : SS w = Sm) {s s' : Mem} (hf : f_X9_wantAsk N s = some ((), s')) : CV l yX9_wantAsk (wz yX9_wantAsk cX9_wantAsk 2 none) ({ frames := 5, cells := 0, slots := 0, locals := 105 } : Room) [.ref (ad w 61)] w s s' := by
  refine met_startV (cc := cX9_wantAsk) (ret := none) (own := RX9) (maxL := 2) (by decide) rfl (Nat.le_of_ble_eq_true rfl) (fun x C hR hl => ?_)
  have j58 : ∀ (v1 : Int32) (p0 : Bool) (s : Mem), f_X9_wantAsk_j58 N v1 p0 s = some ((), s') → G x (QV x w s') 2 w 58 [(0, .ref (ad w 61)), (1, .int v1)] [.int (bI p0), .ref (ad w 61)] s := by
    intro v1 p0 s hf
    unfold f_X9_wantAsk_j58 at hf
    refine g_callVV C (R := RX9) (T := TX9) (N := 48) [.int (bI p0)] (fun _ h => c_X9_want (kl x) N w hS _ h) (g_cwV C hR ml_X9_235 im_X9_want sl_X9_want ini_X9 cd_X9_want hd_X9_want (by decide)) kd_61 (by decide) rfl (in_61 hS) rfl _ rfl (Nat.le_of_ble_eq_true rfl) dX9_wantAsk_58 hf (fun s1 hf => ?_)
    refine g_aload_n C dX9_wantAsk_61 rfl 0 rfl ?_
    refine g_callVB C (R := RX9) (T := TX9) (N := 48) [] (fun _ _ h => c_X9_isGood (kl x) N w hS h) (g_cwV C hR ml_X9_225 im_X9_isGood sl_X9_isGood ini_X9 cd_X9_isGood hd_X9_isGood (by decide)) kd_61 (by decide) rfl (in_61 hS) rfl _ rfl (Nat.le_of_ble_eq_true rfl) dX9_wantAsk_62 hf (fun r2 s2 hf => ?_)
    refine g_ifeqB (tgt := 77) C dX9_wantAsk_65 (by decide) hf (fun hf => ?_) (fun hf => ?_)
    · exact g_vret C dX9_wantAsk_77 hf
    · refine g_aload_n C dX9_wantAsk_68 rfl 0 rfl ?_
      refine g_callVV C (R := RX9) (T := TX9) (N := 48) [] (fun _ h => c_X9_wantValue (kl x) N w hS h) (g_cwV C hR ml_X9_273 im_X9_wantValue sl_X9_wantValue ini_X9 cd_X9_wantValue hd_X9_wantValue (by decide)) kd_61 (by decide) rfl (in_61 hS) rfl _ rfl (Nat.le_of_ble_eq_true rfl) dX9_wantAsk_69 hf (fun s3 hf => ?_)
      refine g_aload_n C dX9_wantAsk_72 rfl 0 rfl ?_
      refine g_iload_n C dX9_wantAsk_73 rfl 1 rfl ?_
      refine g_callVV C (R := RX9) (T := TX9) (N := 48) [.int v1] (fun _ h => c_X9_emit (kl x) N w hS _ h) (g_cwV C hR ml_X9_245 im_X9_emit sl_X9_emit ini_X9 cd_X9_emit hd_X9_emit (by decide)) kd_61 (by decide) rfl (in_61 hS) rfl _ rfl (Nat.le_of_ble_eq_true rfl) dX9_wantAsk_74 hf (fun s4 hf => ?_)
      exact g_vret C dX9_wantAsk_77 hf
  have j47 : ∀ (p0 : Int32) (s : Mem), f_X9_wantAsk_j47 N p0 s = some ((), s') → G x (QV x w s') 2 w 47 [(0, .ref (ad w 61))] [.int p0] s := by
    intro p0 s hf
    unfold f_X9_wantAsk_j47 at hf
    refine g_istore_n (lv' := [(1, .int p0), (0, .ref (ad w 61))]) C dX9_wantAsk_47 rfl (by decide) rfl ?_
    refine g_aload_n C dX9_wantAsk_48 rfl 1 rfl ?_
    refine g_iload_n C dX9_wantAsk_49 rfl 0 rfl ?_
    refine g_if_le (tgt := 57) C dX9_wantAsk_50 (by decide) hf (fun hf => ?_) (fun hf => ?_)
    · refine g_iconst C (v := 0) dX9_wantAsk_57 rfl ?_
      refine g_sub [1, 0] rfl ?_
      exact j58 _ _ _ hf
    · refine g_iconst C (v := 1) dX9_wantAsk_53 rfl ?_
      refine g_goto (tgt := 58) C dX9_wantAsk_54 (by decide) ?_
      refine g_sub [1, 0] rfl ?_
      exact j58 _ _ _ hf
  refine g_lv (lv' := [(0, .ref (ad w 61))]) rfl ?_
  unfold f_X9_wantAsk at hf
  refine g_aload_n C dX9_wantAsk_0 rfl 0 rfl ?_
  refine g_callVV C (R := RX9) (T := TX9) (N := 48) [] (fun _ h => c_X9_wantValue (kl x) N w hS h) (g_cwV C hR ml_X9_273 im_X9_wantValue sl_X9_wantValue ini_X9 cd_X9_wantValue hd_X9_wantValue (by decide)) kd_61 (by decide) rfl (in_61 hS) rfl _ rfl (Nat.le_of_ble_eq_true rfl) dX9_wantAsk_1 hf (fun s1 hf => ?_)
  refine g_aload_n C dX9_wantAsk_4 rfl 0 rfl ?_
  refine g_bipush C (v := 60) dX9_wantAsk_5 (by decide) ?_
  refine g_callVB C (R := RX9) (T := TX9) (N := 48) [.int 60] (fun _ _ h => c_X9_isMark (kl x) N w hS _ h) (g_cwV C hR ml_X9_276 im_X9_isMark sl_X9_isMark ini_X9 cd_X9_isMark hd_X9_isMark (by decide)) kd_61 (by decide) rfl (in_61 hS) rfl _ rfl (Nat.le_of_ble_eq_true rfl) dX9_wantAsk_7 hf (fun r2 s2 hf => ?_)
  refine g_ifeqB (tgt := 18) C dX9_wantAsk_10 (by decide) hf (fun hf => ?_) (fun hf => ?_)
  · refine g_aload_n C dX9_wantAsk_18 rfl 0 rfl ?_
    refine g_bipush C (v := 61) dX9_wantAsk_19 (by decide) ?_
    refine g_callVB C (R := RX9) (T := TX9) (N := 48) [.int 61] (fun _ _ h => c_X9_isMark (kl x) N w hS _ h) (g_cwV C hR ml_X9_276 im_X9_isMark sl_X9_isMark ini_X9 cd_X9_isMark hd_X9_isMark (by decide)) kd_61 (by decide) rfl (in_61 hS) rfl _ rfl (Nat.le_of_ble_eq_true rfl) dX9_wantAsk_21 hf (fun r3 s3 hf => ?_)
    refine g_ifeqB (tgt := 32) C dX9_wantAsk_24 (by decide) hf (fun hf => ?_) (fun hf => ?_)
    · refine g_aload_n C dX9_wantAsk_32 rfl 0 rfl ?_
      refine g_bipush C (v := 62) dX9_wantAsk_33 (by decide) ?_
      refine g_callVB C (R := RX9) (T := TX9) (N := 48) [.int 62] (fun _ _ h => c_X9_isMark (kl x) N w hS _ h) (g_cwV C hR ml_X9_276 im_X9_isMark sl_X9_isMark ini_X9 cd_X9_isMark hd_X9_isMark (by decide)) kd_61 (by decide) rfl (in_61 hS) rfl _ rfl (Nat.le_of_ble_eq_true rfl) dX9_wantAsk_35 hf (fun r4 s4 hf => ?_)
      refine g_ifeqB (tgt := 46) C dX9_wantAsk_38 (by decide) hf (fun hf => ?_) (fun hf => ?_)
      · refine g_iconst C (v := 0) dX9_wantAsk_46 rfl ?_
        exact j47 _ _ hf
      · refine g_bipush C (v := 17) dX9_wantAsk_41 (by decide) ?_
        refine g_goto (tgt := 47) C dX9_wantAsk_43 (by decide) ?_
        exact j47 _ _ hf
    · refine g_bipush C (v := 16) dX9_wantAsk_27 (by decide) ?_
      refine g_goto (tgt := 47) C dX9_wantAsk_29 (by decide) ?_
      exact j47 _ _ hf
  · refine g_bipush C (v := 15) dX9_wantAsk_13 (by decide) ?_
    refine g_goto (tgt := 47) C dX9_wantAsk_15 (by decide) ?_
    exact j47 _ _ hf

set_option maxHeartbeats 4000000 in
set_option maxRecDepth 100000 in
theorem c_X9_wantCond (l : Launch) (N : Nat) (w : WX) (hS : SS w = Sm) {s s' : Mem} (hf : f_X9_wantCond N s = some ((), s')) : CV l yX9_wantCond (wz yX9_wantCond cX9_wantCond 5 none) ({ frames := 6, cells := 0, slots := 0, locals := 126 } : Room) [.ref (ad w 61)] w s s' := by
  refine met_startV (cc := cX9_wantCond) (ret := none) (own := RX9) (maxL := 5) (by decide) rfl (Nat.le_of_ble_eq_true rfl) (fun x C hR hl => ?_)
  have j196 : ∀ (s : Mem), f_X9_wantCond_j196 N s = some ((), s') → G x (QV x w s') 5 w 196 [(0, .ref (ad w 61))] [] s := by
    intro s hf
    unfold f_X9_wantCond_j196 at hf
    refine g_aload_n C dX9_wantCond_196 rfl 0 rfl ?_
    refine g_bipush C (v := 9) dX9_wantCond_197 (by decide) ?_
    refine g_callVV C (R := RX9) (T := TX9) (N := 48) [.int 9] (fun _ h => c_X9_settle (kl x) N w hS _ h) (g_cwV C hR ml_X9_287 im_X9_settle sl_X9_settle ini_X9 cd_X9_settle hd_X9_settle (by decide)) kd_61 (by decide) rfl (in_61 hS) rfl _ rfl (Nat.le_of_ble_eq_true rfl) dX9_wantCond_199 hf (fun s1 hf => ?_)
    exact g_vret C dX9_wantCond_202 hf
  have j130 : ∀ (k11 : Int32 → Bool → Bool → Mem → Option (Unit × Mem)) (k196 : Mem → Option (Unit × Mem)), (∀ (v1 : Int32) (v2 : Bool) (v3 : Bool) (s : Mem), k11 v1 v2 v3 s = some ((), s') → G x (QV x w s') 5 w 11 [(0, .ref (ad w 61)), (1, .int v1), (2, .int (bI v2)), (3, .int (bI v3))] [] s) → (∀ (s : Mem), k196 s = some ((), s') → G x (QV x w s') 5 w 196 [(0, .ref (ad w 61))] [] s) → ∀ (v1 : Int32) (v3 : Bool) (p0 : Int32) (s : Mem), f_X9_wantCond_j130 N k11 k196 v1 v3 p0 s = some ((), s') → G x (QV x w s') 5 w 130 [(0, .ref (ad w 61)), (1, .int v1), (3, .int (bI v3))] [.int p0] s := by
    intro k11 k196 q11 q196 v1 v3 p0 s hf
    unfold f_X9_wantCond_j130 at hf
    refine g_istore (lv' := [(4, .int p0), (0, .ref (ad w 61)), (1, .int v1), (3, .int (bI v3))]) C dX9_wantCond_130 (by decide) rfl ?_
    refine g_aload_n C dX9_wantCond_132 rfl 1 rfl ?_
    refine g_iload C dX9_wantCond_133 0 rfl ?_
    refine g_callVV C (R := RX9) (T := TX9) (N := 48) [.int p0] (fun _ h => c_X9_settle (kl x) N w hS _ h) (g_cwV C hR ml_X9_287 im_X9_settle sl_X9_settle ini_X9 cd_X9_settle hd_X9_settle (by decide)) kd_61 (by decide) rfl (in_61 hS) rfl _ rfl (Nat.le_of_ble_eq_true rfl) dX9_wantCond_135 hf (fun s1 hf => ?_)
    refine g_aload_n C dX9_wantCond_138 rfl 1 rfl ?_
    refine g_iload C dX9_wantCond_139 0 rfl ?_
    refine g_callVV C (R := RX9) (T := TX9) (N := 48) [.int p0] (fun _ h => c_X9_hold (kl x) N w hS _ h) (g_cwV C hR ml_X9_281 im_X9_hold sl_X9_hold ini_X9 cd_X9_hold hd_X9_hold (by decide)) kd_61 (by decide) rfl (in_61 hS) rfl _ rfl (Nat.le_of_ble_eq_true rfl) dX9_wantCond_141 hf (fun s2 hf => ?_)
    refine g_iconst C (v := 1) dX9_wantCond_144 rfl ?_
    refine g_istore_n (lv' := [(2, .int 1), (4, .int p0), (0, .ref (ad w 61)), (1, .int v1), (3, .int (bI v3))]) C dX9_wantCond_145 rfl (by decide) rfl ?_
    refine g_goto (tgt := 11) C dX9_wantCond_146 (by decide) ?_
    refine g_sub [2, 3, 0, 4] rfl ?_
    exact q11 _ _ _ _ hf
  have j113 : ∀ (k11 : Int32 → Bool → Bool → Mem → Option (Unit × Mem)) (k196 : Mem → Option (Unit × Mem)), (∀ (v1 : Int32) (v2 : Bool) (v3 : Bool) (s : Mem), k11 v1 v2 v3 s = some ((), s') → G x (QV x w s') 5 w 11 [(0, .ref (ad w 61)), (1, .int v1), (2, .int (bI v2)), (3, .int (bI v3))] [] s) → (∀ (s : Mem), k196 s = some ((), s') → G x (QV x w s') 5 w 196 [(0, .ref (ad w 61))] [] s) → ∀ (v1 : Int32) (v3 : Bool) (s : Mem), f_X9_wantCond_j113 N k11 k196 v1 v3 s = some ((), s') → G x (QV x w s') 5 w 113 [(0, .ref (ad w 61)), (1, .int v1), (3, .int (bI v3))] [] s := by
    intro k11 k196 q11 q196 v1 v3 s hf
    unfold f_X9_wantCond_j113 at hf
    refine g_aload_n C dX9_wantCond_113 rfl 0 rfl ?_
    refine g_ldc2 C (v := 1111) dX9_wantCond_114 kL_X9_290 ?_
    refine g_callVB C (R := RX9) (T := TX9) (N := 48) [.long 1111] (fun _ _ h => c_X9_isWord (kl x) N w hS _ h) (g_cwV C hR ml_X9_251 im_X9_isWord sl_X9_isWord ini_X9 cd_X9_isWord hd_X9_isWord (by decide)) kd_61 (by decide) rfl (in_61 hS) rfl _ rfl (Nat.le_of_ble_eq_true rfl) dX9_wantCond_117 hf (fun r1 s1 hf => ?_)
    refine g_ifeqB (tgt := 128) C dX9_wantCond_120 (by decide) hf (fun hf => ?_) (fun hf => ?_)
    · refine g_bipush C (v := 9) dX9_wantCond_128 (by decide) ?_
      exact j130 k11 k196 q11 q196 _ _ _ _ hf
    · refine g_bipush C (v := 8) dX9_wantCond_123 (by decide) ?_
      refine g_goto (tgt := 130) C dX9_wantCond_125 (by decide) ?_
      exact j130 k11 k196 q11 q196 _ _ _ _ hf
  have j11 : ∀ (k196 : Mem → Option (Unit × Mem)), (∀ (s : Mem), k196 s = some ((), s') → G x (QV x w s') 5 w 196 [(0, .ref (ad w 61))] [] s) → ∀ (n : Nat), ∀ (v1 : Int32) (v2 : Bool) (v3 : Bool) (s : Mem), f_X9_wantCond_L11 N k196 n v1 v2 v3 s = some ((), s') → G x (QV x w s') 5 w 11 [(0, .ref (ad w 61)), (1, .int v1), (2, .int (bI v2)), (3, .int (bI v3))] [] s := by
    intro k196 q196 n
    induction n with
    | zero => intro v1 v2 v3 s hf; cases hf
    | succ n ih =>
      intro v1 v2 v3 s hf
      unfold f_X9_wantCond_L11 at hf
      refine g_iload_n C dX9_wantCond_11 rfl 3 rfl ?_
      refine g_ifeqB (tgt := 196) C dX9_wantCond_12 (by decide) hf (fun hf => ?_) (fun hf => ?_)
      · refine g_sub [0] rfl ?_
        exact q196 _ hf
      · refine g_aload_n C dX9_wantCond_15 rfl 0 rfl ?_
        refine g_callVB C (R := RX9) (T := TX9) (N := 48) [] (fun _ _ h => c_X9_isGood (kl x) N w hS h) (g_cwV C hR ml_X9_225 im_X9_isGood sl_X9_isGood ini_X9 cd_X9_isGood hd_X9_isGood (by decide)) kd_61 (by decide) rfl (in_61 hS) rfl _ rfl (Nat.le_of_ble_eq_true rfl) dX9_wantCond_16 hf (fun r1 s1 hf => ?_)
        refine g_ifeqB (tgt := 196) C dX9_wantCond_19 (by decide) hf (fun hf => ?_) (fun hf => ?_)
        · refine g_sub [0] rfl ?_
          exact q196 _ hf
        · refine g_iload_n C dX9_wantCond_22 rfl 2 rfl ?_
          refine g_ifeqB (tgt := 93) C dX9_wantCond_23 (by decide) hf (fun hf => ?_) (fun hf => ?_)
          · refine g_aload_n C dX9_wantCond_93 rfl 0 rfl ?_
            refine g_ldc2 C (v := 1111) dX9_wantCond_94 kL_X9_290 ?_
            refine g_callVB C (R := RX9) (T := TX9) (N := 48) [.long 1111] (fun _ _ h => c_X9_isWord (kl x) N w hS _ h) (g_cwV C hR ml_X9_251 im_X9_isWord sl_X9_isWord ini_X9 cd_X9_isWord hd_X9_isWord (by decide)) kd_61 (by decide) rfl (in_61 hS) rfl _ rfl (Nat.le_of_ble_eq_true rfl) dX9_wantCond_97 hf (fun r2 s2 hf => ?_)
            refine g_ifneB (tgt := 113) C dX9_wantCond_100 (by decide) hf (fun hf => ?_) (fun hf => ?_)
            · refine g_sub [0, 1, 3] rfl ?_
              exact j113 (f_X9_wantCond_L11 N k196 n) k196 ih q196 _ _ _ hf
            · refine g_aload_n C dX9_wantCond_103 rfl 0 rfl ?_
              refine g_ldc2 C (v := 423) dX9_wantCond_104 kL_X9_292 ?_
              refine g_callVB C (R := RX9) (T := TX9) (N := 48) [.long 423] (fun _ _ h => c_X9_isWord (kl x) N w hS _ h) (g_cwV C hR ml_X9_251 im_X9_isWord sl_X9_isWord ini_X9 cd_X9_isWord hd_X9_isWord (by decide)) kd_61 (by decide) rfl (in_61 hS) rfl _ rfl (Nat.le_of_ble_eq_true rfl) dX9_wantCond_107 hf (fun r3 s3 hf => ?_)
              refine g_ifeqB (tgt := 149) C dX9_wantCond_110 (by decide) hf (fun hf => ?_) (fun hf => ?_)
              · refine g_iload_n C dX9_wantCond_149 rfl 1 rfl ?_
                refine g_if_le (tgt := 191) C dX9_wantCond_150 (by decide) hf (fun hf => ?_) (fun hf => ?_)
                · refine g_iconst C (v := 0) dX9_wantCond_191 rfl ?_
                  refine g_istore_n (lv' := [(3, .int 0), (0, .ref (ad w 61)), (1, .int v1), (2, .int (bI v2))]) C dX9_wantCond_192 rfl (by decide) rfl ?_
                  refine g_goto (tgt := 11) C dX9_wantCond_193 (by decide) ?_
                  refine g_sub [1, 2, 3, 0] rfl ?_
                  exact ih _ _ _ _ hf
                · refine g_aload_n C dX9_wantCond_153 rfl 0 rfl ?_
                  refine g_bipush C (v := 9) dX9_wantCond_154 (by decide) ?_
                  refine g_callVV C (R := RX9) (T := TX9) (N := 48) [.int 9] (fun _ h => c_X9_settle (kl x) N w hS _ h) (g_cwV C hR ml_X9_287 im_X9_settle sl_X9_settle ini_X9 cd_X9_settle hd_X9_settle (by decide)) kd_61 (by decide) rfl (in_61 hS) rfl _ rfl (Nat.le_of_ble_eq_true rfl) dX9_wantCond_156 hf (fun s4 hf => ?_)
                  refine g_aload_n C dX9_wantCond_159 rfl 0 rfl ?_
                  refine g_dup C dX9_wantCond_160 rfl ?_
                  refine g_get C (R := RX9) (T := TX9) (N := 48) (k := 28) (v := .int (rI s4 61 28)) kd_61 (by decide) rfl (in_61 hS) hinX9 (by decide) fl_X9_242 rfl rfl dX9_wantCond_161 ?_
                  refine g_iconst C (v := 1) dX9_wantCond_164 rfl ?_
                  refine g_isub C dX9_wantCond_165 ?_
                  refine g_putI C (R := RX9) (T := TX9) (N := 48) (k := 28) (ty := .int) tyX9 tyX9_ok nmX9 kd_61 (by decide) rfl (in_61 hS) hinX9 (by decide) fl_X9_242 rfl rfl rfl rfl rfl (Nat.le_of_ble_eq_true rfl) fs_9_28 dX9_wantCond_166 ?_
                  refine g_nameS hf (fun s5 hf => ?_)
                  refine g_iinc (v' := v1 + (-1)) (lv' := [(1, .int (v1 + (-1))), (0, .ref (ad w 61)), (2, .int (bI v2)), (3, .int (bI v3))]) C dX9_wantCond_169 1 rfl rfl (by decide) rfl ?_
                  refine g_aload_n C dX9_wantCond_172 rfl 1 rfl ?_
                  refine g_aload_n C dX9_wantCond_173 rfl 1 rfl ?_
                  refine g_bipush C (v := 41) dX9_wantCond_174 (by decide) ?_
                  refine g_callVB C (R := RX9) (T := TX9) (N := 48) [.int 41] (fun _ _ h => c_X9_isMark (kl x) N w hS _ h) (g_cwV C hR ml_X9_276 im_X9_isMark sl_X9_isMark ini_X9 cd_X9_isMark hd_X9_isMark (by decide)) kd_61 (by decide) rfl (in_61 hS) rfl _ rfl (Nat.le_of_ble_eq_true rfl) dX9_wantCond_176 hf (fun r6 s6 hf => ?_)
                  refine g_callVV C (R := RX9) (T := TX9) (N := 48) [.int (bI r6)] (fun _ h => c_X9_want (kl x) N w hS _ h) (g_cwV C hR ml_X9_235 im_X9_want sl_X9_want ini_X9 cd_X9_want hd_X9_want (by decide)) kd_61 (by decide) rfl (in_61 hS) rfl _ rfl (Nat.le_of_ble_eq_true rfl) dX9_wantCond_179 hf (fun s7 hf => ?_)
                  refine g_aload_n C dX9_wantCond_182 rfl 1 rfl ?_
                  refine g_bipush C (v := 7) dX9_wantCond_183 (by decide) ?_
                  refine g_callVV C (R := RX9) (T := TX9) (N := 48) [.int 7] (fun _ h => c_X9_settle (kl x) N w hS _ h) (g_cwV C hR ml_X9_287 im_X9_settle sl_X9_settle ini_X9 cd_X9_settle hd_X9_settle (by decide)) kd_61 (by decide) rfl (in_61 hS) rfl _ rfl (Nat.le_of_ble_eq_true rfl) dX9_wantCond_185 hf (fun s8 hf => ?_)
                  refine g_goto (tgt := 11) C dX9_wantCond_188 (by decide) ?_
                  refine g_sub [1, 0, 2, 3] rfl ?_
                  exact ih _ _ _ _ hf
              · refine g_sub [0, 1, 3] rfl ?_
                exact j113 (f_X9_wantCond_L11 N k196 n) k196 ih q196 _ _ _ hf
          · refine g_aload_n C dX9_wantCond_26 rfl 0 rfl ?_
            refine g_ldc2 C (v := 10631) dX9_wantCond_27 kL_X9_279 ?_
            refine g_callVB C (R := RX9) (T := TX9) (N := 48) [.long 10631] (fun _ _ h => c_X9_isWord (kl x) N w hS _ h) (g_cwV C hR ml_X9_251 im_X9_isWord sl_X9_isWord ini_X9 cd_X9_isWord hd_X9_isWord (by decide)) kd_61 (by decide) rfl (in_61 hS) rfl _ rfl (Nat.le_of_ble_eq_true rfl) dX9_wantCond_30 hf (fun r9 s9 hf => ?_)
            refine g_ifeqB (tgt := 45) C dX9_wantCond_33 (by decide) hf (fun hf => ?_) (fun hf => ?_)
            · refine g_aload_n C dX9_wantCond_45 rfl 0 rfl ?_
              refine g_bipush C (v := 40) dX9_wantCond_46 (by decide) ?_
              refine g_callVB C (R := RX9) (T := TX9) (N := 48) [.int 40] (fun _ _ h => c_X9_isMark (kl x) N w hS _ h) (g_cwV C hR ml_X9_276 im_X9_isMark sl_X9_isMark ini_X9 cd_X9_isMark hd_X9_isMark (by decide)) kd_61 (by decide) rfl (in_61 hS) rfl _ rfl (Nat.le_of_ble_eq_true rfl) dX9_wantCond_48 hf (fun r10 s10 hf => ?_)
              refine g_ifeqB (tgt := 78) C dX9_wantCond_51 (by decide) hf (fun hf => ?_) (fun hf => ?_)
              · refine g_aload_n C dX9_wantCond_78 rfl 0 rfl ?_
                refine g_callVV C (R := RX9) (T := TX9) (N := 48) [] (fun _ h => c_X9_wantAsk (kl x) N w hS h) (g_cwV C hR ml_X9_284 im_X9_wantAsk sl_X9_wantAsk ini_X9 cd_X9_wantAsk hd_X9_wantAsk (by decide)) kd_61 (by decide) rfl (in_61 hS) rfl _ rfl (Nat.le_of_ble_eq_true rfl) dX9_wantCond_79 hf (fun s11 hf => ?_)
                refine g_aload_n C dX9_wantCond_82 rfl 0 rfl ?_
                refine g_bipush C (v := 7) dX9_wantCond_83 (by decide) ?_
                refine g_callVV C (R := RX9) (T := TX9) (N := 48) [.int 7] (fun _ h => c_X9_settle (kl x) N w hS _ h) (g_cwV C hR ml_X9_287 im_X9_settle sl_X9_settle ini_X9 cd_X9_settle hd_X9_settle (by decide)) kd_61 (by decide) rfl (in_61 hS) rfl _ rfl (Nat.le_of_ble_eq_true rfl) dX9_wantCond_85 hf (fun s12 hf => ?_)
                refine g_iconst C (v := 0) dX9_wantCond_88 rfl ?_
                refine g_istore_n (lv' := [(2, .int 0), (0, .ref (ad w 61)), (1, .int v1), (3, .int (bI v3))]) C dX9_wantCond_89 rfl (by decide) rfl ?_
                refine g_goto (tgt := 11) C dX9_wantCond_90 (by decide) ?_
                refine g_sub [1, 2, 0, 3] rfl ?_
                exact ih _ _ _ _ hf
              · refine g_iload_n C dX9_wantCond_54 rfl 1 rfl ?_
                refine g_iconst C (v := 3) dX9_wantCond_55 rfl ?_
                refine g_icmp_ne (tgt := 66) C dX9_wantCond_56 (by decide) hf (fun hf => ?_) (fun hf => ?_)
                · refine g_aload_n C dX9_wantCond_66 rfl 0 rfl ?_
                  refine g_bipush C (v := 10) dX9_wantCond_67 (by decide) ?_
                  refine g_callVV C (R := RX9) (T := TX9) (N := 48) [.int 10] (fun _ h => c_X9_hold (kl x) N w hS _ h) (g_cwV C hR ml_X9_281 im_X9_hold sl_X9_hold ini_X9 cd_X9_hold hd_X9_hold (by decide)) kd_61 (by decide) rfl (in_61 hS) rfl _ rfl (Nat.le_of_ble_eq_true rfl) dX9_wantCond_69 hf (fun s13 hf => ?_)
                  refine g_iinc (v' := v1 + 1) (lv' := [(1, .int (v1 + 1)), (0, .ref (ad w 61)), (2, .int (bI v2)), (3, .int (bI v3))]) C dX9_wantCond_72 1 rfl rfl (by decide) rfl ?_
                  refine g_goto (tgt := 11) C dX9_wantCond_75 (by decide) ?_
                  refine g_sub [1, 0, 2, 3] rfl ?_
                  exact ih _ _ _ _ hf
                · refine g_aload_n C dX9_wantCond_59 rfl 0 rfl ?_
                  refine g_callVV C (R := RX9) (T := TX9) (N := 48) [] (fun _ h => c_X9_faulty (kl x) N w hS h) (g_cwV C hR ml_X9_232 im_X9_faulty sl_X9_faulty ini_X9 cd_X9_faulty hd_X9_faulty (by decide)) kd_61 (by decide) rfl (in_61 hS) rfl _ rfl (Nat.le_of_ble_eq_true rfl) dX9_wantCond_60 hf (fun s14 hf => ?_)
                  refine g_goto (tgt := 11) C dX9_wantCond_63 (by decide) ?_
                  exact ih _ _ _ _ hf
            · refine g_aload_n C dX9_wantCond_36 rfl 0 rfl ?_
              refine g_bipush C (v := 7) dX9_wantCond_37 (by decide) ?_
              refine g_callVV C (R := RX9) (T := TX9) (N := 48) [.int 7] (fun _ h => c_X9_hold (kl x) N w hS _ h) (g_cwV C hR ml_X9_281 im_X9_hold sl_X9_hold ini_X9 cd_X9_hold hd_X9_hold (by decide)) kd_61 (by decide) rfl (in_61 hS) rfl _ rfl (Nat.le_of_ble_eq_true rfl) dX9_wantCond_39 hf (fun s15 hf => ?_)
              refine g_goto (tgt := 11) C dX9_wantCond_42 (by decide) ?_
              exact ih _ _ _ _ hf
  refine g_lv (lv' := [(0, .ref (ad w 61))]) rfl ?_
  unfold f_X9_wantCond at hf
  refine g_iconst C (v := 0) dX9_wantCond_0 rfl ?_
  refine g_istore_n (lv' := [(1, .int 0), (0, .ref (ad w 61))]) C dX9_wantCond_1 rfl (by decide) rfl ?_
  refine g_iconst C (v := 1) dX9_wantCond_2 rfl ?_
  refine g_istore_n (lv' := [(2, .int 1), (1, .int 0), (0, .ref (ad w 61))]) C dX9_wantCond_3 rfl (by decide) rfl ?_
  refine g_iconst C (v := 1) dX9_wantCond_4 rfl ?_
  refine g_istore_n (lv' := [(3, .int 1), (2, .int 1), (1, .int 0), (0, .ref (ad w 61))]) C dX9_wantCond_5 rfl (by decide) rfl ?_
  refine g_aload_n C dX9_wantCond_6 rfl 3 rfl ?_
  refine g_iconst C (v := 0) dX9_wantCond_7 rfl ?_
  refine g_putI C (R := RX9) (T := TX9) (N := 48) (k := 28) (ty := .int) tyX9 tyX9_ok nmX9 kd_61 (by decide) rfl (in_61 hS) hinX9 (by decide) fl_X9_242 rfl rfl rfl rfl rfl (Nat.le_of_ble_eq_true rfl) fs_9_28 dX9_wantCond_8 ?_
  refine g_nameS hf (fun s1 hf => ?_)
  refine g_sub [3, 2, 1, 0] rfl ?_
  exact j11 (f_X9_wantCond_j196 N) j196 N _ _ _ _ hf

set_option maxHeartbeats 4000000 in
set_option maxRecDepth 100000 in
theorem c_X9_read (l : Launch) (N : Nat) (w : WX) (hS : SS w = Sm) {s s' : Mem} {r : Int32} (hf : f_X9_read N s = some (r, s')) : CI l yX9_read (wz yX9_read cX9_read 3 (some .int)) ({ frames := 7, cells := 0, slots := 0, locals := 150 } : Room) [.ref (ad w 61)] w s r s' := by
  refine met_startI (cc := cX9_read) (ret := (some .int)) (own := RX9) (maxL := 3) (by decide) rfl (Nat.le_of_ble_eq_true rfl) (fun x C hR hl => ?_)
  have j195 : ∀ (n : Nat), ∀ (v1 : Int32) (v2 : Int32) (s : Mem), f_X9_read_L195 N n v1 v2 s = some (r, s') → G x (QI x w r s') 3 w 195 [(0, .ref (ad w 61)), (1, .int v1), (2, .int v2)] [] s := by
    intro n
    induction n with
    | zero => intro v1 v2 s hf; cases hf
    | succ n ih =>
      intro v1 v2 s hf
      unfold f_X9_read_L195 at hf
      refine g_iload_n C dX9_read_195 rfl 2 rfl ?_
      refine g_aload_n C dX9_read_196 rfl 0 rfl ?_
      refine g_get C (R := RX9) (T := TX9) (N := 48) (k := 27) (v := .int (rI s 61 27)) kd_61 (by decide) rfl (in_61 hS) hinX9 (by decide) fl_X9_239 rfl rfl dX9_read_197 ?_
      refine g_icmp_ge (tgt := 221) C dX9_read_200 (by decide) hf (fun hf => ?_) (fun hf => ?_)
      · refine g_iload_n C dX9_read_221 rfl 1 rfl ?_
        exact g_iret C dX9_read_222 hf
      · refine g_aload_n C dX9_read_203 rfl 0 rfl ?_
        refine g_get C (R := RX9) (T := TX9) (N := 48) (k := 14) (v := .ref (ad w 70)) kd_61 (by decide) rfl (in_61 hS) hinX9 (by decide) fl_X9_34 rfl rfl dX9_read_204 ?_
        refine g_iload_n C dX9_read_207 rfl 2 rfl ?_
        refine g_aload_n C dX9_read_208 rfl 0 rfl ?_
        refine g_get C (R := RX9) (T := TX9) (N := 48) (k := 23) (v := .ref (ad w 73)) kd_61 (by decide) rfl (in_61 hS) hinX9 (by decide) fl_X9_43 rfl rfl dX9_read_209 ?_
        refine g_iload_n C dX9_read_212 rfl 2 rfl ?_
        refine g_iald C kd_73 ln_73 (in_73 hS) dX9_read_213 hf (fun hf => ?_)
        refine g_iast C kd_70 ln_70 (in_70 hS) dX9_read_214 hf (fun hf => ?_)
        refine g_nameS hf (fun s1 hf => ?_)
        refine g_iinc (v' := v2 + 1) (lv' := [(2, .int (v2 + 1)), (0, .ref (ad w 61)), (1, .int v1)]) C dX9_read_215 2 rfl rfl (by decide) rfl ?_
        refine g_goto (tgt := 195) C dX9_read_218 (by decide) ?_
        refine g_sub [1, 2, 0] rfl ?_
        exact ih _ _ _ hf
  have j193 : ∀ (v1 : Int32) (s : Mem), f_X9_read_j193 N v1 s = some (r, s') → G x (QI x w r s') 3 w 193 [(0, .ref (ad w 61)), (1, .int v1)] [] s := by
    intro v1 s hf
    unfold f_X9_read_j193 at hf
    refine g_iconst C (v := 0) dX9_read_193 rfl ?_
    refine g_istore_n (lv' := [(2, .int 0), (0, .ref (ad w 61)), (1, .int v1)]) C dX9_read_194 rfl (by decide) rfl ?_
    refine g_sub [1, 2, 0] rfl ?_
    exact j195 N _ _ _ hf
  have j158 : ∀ (k193 : Int32 → Mem → Option (Int32 × Mem)), (∀ (v1 : Int32) (s : Mem), k193 v1 s = some (r, s') → G x (QI x w r s') 3 w 193 [(0, .ref (ad w 61)), (1, .int v1)] [] s) → ∀ (n : Nat), ∀ (v1 : Int32) (v2 : Int32) (s : Mem), f_X9_read_L158 N k193 n v1 v2 s = some (r, s') → G x (QI x w r s') 3 w 158 [(0, .ref (ad w 61)), (1, .int v1), (2, .int v2)] [] s := by
    intro k193 q193 n
    induction n with
    | zero => intro v1 v2 s hf; cases hf
    | succ n ih =>
      intro v1 v2 s hf
      unfold f_X9_read_L158 at hf
      refine g_iload_n C dX9_read_158 rfl 2 rfl ?_
      refine g_iload_n C dX9_read_159 rfl 1 rfl ?_
      refine g_icmp_ge (tgt := 193) C dX9_read_160 (by decide) hf (fun hf => ?_) (fun hf => ?_)
      · refine g_sub [0, 1] rfl ?_
        exact q193 _ _ hf
      · refine g_aload_n C dX9_read_163 rfl 0 rfl ?_
        refine g_get C (R := RX9) (T := TX9) (N := 48) (k := 12) (v := .ref (ad w 68)) kd_61 (by decide) rfl (in_61 hS) hinX9 (by decide) fl_X9_28 rfl rfl dX9_read_164 ?_
        refine g_iload_n C dX9_read_167 rfl 2 rfl ?_
        refine g_aload_n C dX9_read_168 rfl 0 rfl ?_
        refine g_get C (R := RX9) (T := TX9) (N := 48) (k := 25) (v := .ref (ad w 75)) kd_61 (by decide) rfl (in_61 hS) hinX9 (by decide) fl_X9_49 rfl rfl dX9_read_169 ?_
        refine g_iload_n C dX9_read_172 rfl 2 rfl ?_
        refine g_iald C kd_75 ln_75 (in_75 hS) dX9_read_173 hf (fun hf => ?_)
        refine g_iast C kd_68 ln_68 (in_68 hS) dX9_read_174 hf (fun hf => ?_)
        refine g_nameS hf (fun s1 hf => ?_)
        refine g_aload_n C dX9_read_175 rfl 0 rfl ?_
        refine g_get C (R := RX9) (T := TX9) (N := 48) (k := 13) (v := .ref (ad w 69)) kd_61 (by decide) rfl (in_61 hS) hinX9 (by decide) fl_X9_31 rfl rfl dX9_read_176 ?_
        refine g_iload_n C dX9_read_179 rfl 2 rfl ?_
        refine g_aload_n C dX9_read_180 rfl 0 rfl ?_
        refine g_get C (R := RX9) (T := TX9) (N := 48) (k := 26) (v := .ref (ad w 76)) kd_61 (by decide) rfl (in_61 hS) hinX9 (by decide) fl_X9_52 rfl rfl dX9_read_181 ?_
        refine g_iload_n C dX9_read_184 rfl 2 rfl ?_
        refine g_iald C kd_76 ln_76 (in_76 hS) dX9_read_185 hf (fun hf => ?_)
        refine g_iast C kd_69 ln_69 (in_69 hS) dX9_read_186 hf (fun hf => ?_)
        refine g_nameS hf (fun s2 hf => ?_)
        refine g_iinc (v' := v2 + 1) (lv' := [(2, .int (v2 + 1)), (0, .ref (ad w 61)), (1, .int v1)]) C dX9_read_187 2 rfl rfl (by decide) rfl ?_
        refine g_goto (tgt := 158) C dX9_read_190 (by decide) ?_
        refine g_sub [1, 2, 0] rfl ?_
        exact ih _ _ _ hf
  have j131 : ∀ (v1 : Int32) (s : Mem), f_X9_read_j131 N v1 s = some (r, s') → G x (QI x w r s') 3 w 131 [(0, .ref (ad w 61)), (1, .int v1)] [] s := by
    intro v1 s hf
    unfold f_X9_read_j131 at hf
    refine g_aload_n C dX9_read_131 rfl 0 rfl ?_
    refine g_iconst C (v := 0) dX9_read_132 rfl ?_
    refine g_putI C (R := RX9) (T := TX9) (N := 48) (k := 17) (ty := .int) tyX9 tyX9_ok nmX9 kd_61 (by decide) rfl (in_61 hS) hinX9 (by decide) fl_X9_190 rfl rfl rfl rfl rfl (Nat.le_of_ble_eq_true rfl) fs_9_17 dX9_read_133 ?_
    refine g_nameS hf (fun s1 hf => ?_)
    refine g_aload_n C dX9_read_136 rfl 0 rfl ?_
    refine g_callVB C (R := RX9) (T := TX9) (N := 48) [] (fun _ _ h => c_X9_isGood (kl x) N w hS h) (g_cwV C hR ml_X9_225 im_X9_isGood sl_X9_isGood ini_X9 cd_X9_isGood hd_X9_isGood (by decide)) kd_61 (by decide) rfl (in_61 hS) rfl _ rfl (Nat.le_of_ble_eq_true rfl) dX9_read_137 hf (fun r2 s2 hf => ?_)
    refine g_ifneB (tgt := 151) C dX9_read_140 (by decide) hf (fun hf => ?_) (fun hf => ?_)
    · refine g_aload_n C dX9_read_151 rfl 0 rfl ?_
      refine g_iload_n C dX9_read_152 rfl 1 rfl ?_
      refine g_putI C (R := RX9) (T := TX9) (N := 48) (k := 11) (ty := .int) tyX9 tyX9_ok nmX9 kd_61 (by decide) rfl (in_61 hS) hinX9 (by decide) fl_X9_301 rfl rfl rfl rfl rfl (Nat.le_of_ble_eq_true rfl) fs_9_11 dX9_read_153 ?_
      refine g_nameS hf (fun s3 hf => ?_)
      refine g_iconst C (v := 0) dX9_read_156 rfl ?_
      refine g_istore_n (lv' := [(2, .int 0), (0, .ref (ad w 61)), (1, .int v1)]) C dX9_read_157 rfl (by decide) rfl ?_
      refine g_sub [1, 2, 0] rfl ?_
      exact j158 (f_X9_read_j193 N) j193 N _ _ _ hf
    · refine g_bipush C (v := (-100)) dX9_read_143 (by decide) ?_
      refine g_aload_n C dX9_read_145 rfl 0 rfl ?_
      refine g_get C (R := RX9) (T := TX9) (N := 48) (k := 22) (v := .int (rI s2 61 22)) kd_61 (by decide) rfl (in_61 hS) hinX9 (by decide) fl_X9_222 rfl rfl dX9_read_146 ?_
      refine g_isub C dX9_read_149 ?_
      exact g_iret C dX9_read_150 hf
  have j124 : ∀ (k21 : Int32 → Mem → Option (Int32 × Mem)) (k131 : Int32 → Mem → Option (Int32 × Mem)), (∀ (v1 : Int32) (s : Mem), k21 v1 s = some (r, s') → G x (QI x w r s') 3 w 21 [(0, .ref (ad w 61)), (1, .int v1)] [] s) → (∀ (v1 : Int32) (s : Mem), k131 v1 s = some (r, s') → G x (QI x w r s') 3 w 131 [(0, .ref (ad w 61)), (1, .int v1)] [] s) → ∀ (v1 : Int32) (p0 : Bool) (p1 : Int32) (s : Mem), f_X9_read_j124 N k21 k131 v1 p0 p1 s = some (r, s') → G x (QI x w r s') 3 w 124 [(0, .ref (ad w 61)), (1, .int v1)] [.int (bI p0), .int p1, .ref (ad w 76)] s := by
    intro k21 k131 q21 q131 v1 p0 p1 s hf
    unfold f_X9_read_j124 at hf
    refine g_iast C kd_76 ln_76 (in_76 hS) dX9_read_124 hf (fun hf => ?_)
    refine g_nameS hf (fun s1 hf => ?_)
    refine g_iinc (v' := v1 + 1) (lv' := [(1, .int (v1 + 1)), (0, .ref (ad w 61))]) C dX9_read_125 1 rfl rfl (by decide) rfl ?_
    refine g_goto (tgt := 21) C dX9_read_128 (by decide) ?_
    refine g_sub [1, 0] rfl ?_
    exact q21 _ _ hf
  have j93 : ∀ (k21 : Int32 → Mem → Option (Int32 × Mem)) (k131 : Int32 → Mem → Option (Int32 × Mem)), (∀ (v1 : Int32) (s : Mem), k21 v1 s = some (r, s') → G x (QI x w r s') 3 w 21 [(0, .ref (ad w 61)), (1, .int v1)] [] s) → (∀ (v1 : Int32) (s : Mem), k131 v1 s = some (r, s') → G x (QI x w r s') 3 w 131 [(0, .ref (ad w 61)), (1, .int v1)] [] s) → ∀ (v1 : Int32) (v2 : Bool) (s : Mem), f_X9_read_j93 N k21 k131 v1 v2 s = some (r, s') → G x (QI x w r s') 3 w 93 [(0, .ref (ad w 61)), (1, .int v1), (2, .int (bI v2))] [] s := by
    intro k21 k131 q21 q131 v1 v2 s hf
    unfold f_X9_read_j93 at hf
    refine g_aload_n C dX9_read_93 rfl 0 rfl ?_
    refine g_callVB C (R := RX9) (T := TX9) (N := 48) [] (fun _ _ h => c_X9_isGood (kl x) N w hS h) (g_cwV C hR ml_X9_225 im_X9_isGood sl_X9_isGood ini_X9 cd_X9_isGood hd_X9_isGood (by decide)) kd_61 (by decide) rfl (in_61 hS) rfl _ rfl (Nat.le_of_ble_eq_true rfl) dX9_read_94 hf (fun r1 s1 hf => ?_)
    refine g_ifeqB (tgt := 128) C dX9_read_97 (by decide) hf (fun hf => ?_) (fun hf => ?_)
    · refine g_goto (tgt := 21) C dX9_read_128 (by decide) ?_
      refine g_sub [0, 1] rfl ?_
      exact q21 _ _ hf
    · refine g_aload_n C dX9_read_100 rfl 0 rfl ?_
      refine g_get C (R := RX9) (T := TX9) (N := 48) (k := 25) (v := .ref (ad w 75)) kd_61 (by decide) rfl (in_61 hS) hinX9 (by decide) fl_X9_49 rfl rfl dX9_read_101 ?_
      refine g_iload_n C dX9_read_104 rfl 1 rfl ?_
      refine g_aload_n C dX9_read_105 rfl 0 rfl ?_
      refine g_get C (R := RX9) (T := TX9) (N := 48) (k := 27) (v := .int (rI s1 61 27)) kd_61 (by decide) rfl (in_61 hS) hinX9 (by decide) fl_X9_239 rfl rfl dX9_read_106 ?_
      refine g_iast C kd_75 ln_75 (in_75 hS) dX9_read_109 hf (fun hf => ?_)
      refine g_nameS hf (fun s2 hf => ?_)
      refine g_aload_n C dX9_read_110 rfl 0 rfl ?_
      refine g_get C (R := RX9) (T := TX9) (N := 48) (k := 26) (v := .ref (ad w 76)) kd_61 (by decide) rfl (in_61 hS) hinX9 (by decide) fl_X9_52 rfl rfl dX9_read_111 ?_
      refine g_iload_n C dX9_read_114 rfl 1 rfl ?_
      refine g_iload_n C dX9_read_115 rfl 2 rfl ?_
      refine g_ifeqB (tgt := 123) C dX9_read_116 (by decide) hf (fun hf => ?_) (fun hf => ?_)
      · refine g_iconst C (v := 0) dX9_read_123 rfl ?_
        refine g_sub [0, 1] rfl ?_
        exact j124 k21 k131 q21 q131 _ _ _ _ hf
      · refine g_iconst C (v := 1) dX9_read_119 rfl ?_
        refine g_goto (tgt := 124) C dX9_read_120 (by decide) ?_
        refine g_sub [0, 1] rfl ?_
        exact j124 k21 k131 q21 q131 _ _ _ _ hf
  have j69 : ∀ (k21 : Int32 → Mem → Option (Int32 × Mem)) (k131 : Int32 → Mem → Option (Int32 × Mem)), (∀ (v1 : Int32) (s : Mem), k21 v1 s = some (r, s') → G x (QI x w r s') 3 w 21 [(0, .ref (ad w 61)), (1, .int v1)] [] s) → (∀ (v1 : Int32) (s : Mem), k131 v1 s = some (r, s') → G x (QI x w r s') 3 w 131 [(0, .ref (ad w 61)), (1, .int v1)] [] s) → ∀ (v1 : Int32) (v2 : Bool) (p0 : Bool) (s : Mem), f_X9_read_j69 N k21 k131 v1 v2 p0 s = some (r, s') → G x (QI x w r s') 3 w 69 [(0, .ref (ad w 61)), (1, .int v1), (2, .int (bI v2))] [.int (bI p0), .ref (ad w 61)] s := by
    intro k21 k131 q21 q131 v1 v2 p0 s hf
    unfold f_X9_read_j69 at hf
    refine g_callVV C (R := RX9) (T := TX9) (N := 48) [.int (bI p0)] (fun _ h => c_X9_want (kl x) N w hS _ h) (g_cwV C hR ml_X9_235 im_X9_want sl_X9_want ini_X9 cd_X9_want hd_X9_want (by decide)) kd_61 (by decide) rfl (in_61 hS) rfl _ rfl (Nat.le_of_ble_eq_true rfl) dX9_read_69 hf (fun s1 hf => ?_)
    refine g_aload_n C dX9_read_72 rfl 0 rfl ?_
    refine g_callVB C (R := RX9) (T := TX9) (N := 48) [] (fun _ _ h => c_X9_isGood (kl x) N w hS h) (g_cwV C hR ml_X9_225 im_X9_isGood sl_X9_isGood ini_X9 cd_X9_isGood hd_X9_isGood (by decide)) kd_61 (by decide) rfl (in_61 hS) rfl _ rfl (Nat.le_of_ble_eq_true rfl) dX9_read_73 hf (fun r2 s2 hf => ?_)
    refine g_ifeqB (tgt := 93) C dX9_read_76 (by decide) hf (fun hf => ?_) (fun hf => ?_)
    · exact j93 k21 k131 q21 q131 _ _ _ hf
    · refine g_aload_n C dX9_read_79 rfl 0 rfl ?_
      refine g_callVV C (R := RX9) (T := TX9) (N := 48) [] (fun _ h => c_X9_wantCond (kl x) N w hS h) (g_cwV C hR ml_X9_298 im_X9_wantCond sl_X9_wantCond ini_X9 cd_X9_wantCond hd_X9_wantCond (by decide)) kd_61 (by decide) rfl (in_61 hS) rfl _ rfl (Nat.le_of_ble_eq_true rfl) dX9_read_80 hf (fun s3 hf => ?_)
      refine g_aload_n C dX9_read_83 rfl 0 rfl ?_
      refine g_aload_n C dX9_read_84 rfl 0 rfl ?_
      refine g_bipush C (v := 59) dX9_read_85 (by decide) ?_
      refine g_callVB C (R := RX9) (T := TX9) (N := 48) [.int 59] (fun _ _ h => c_X9_isMark (kl x) N w hS _ h) (g_cwV C hR ml_X9_276 im_X9_isMark sl_X9_isMark ini_X9 cd_X9_isMark hd_X9_isMark (by decide)) kd_61 (by decide) rfl (in_61 hS) rfl _ rfl (Nat.le_of_ble_eq_true rfl) dX9_read_87 hf (fun r4 s4 hf => ?_)
      refine g_callVV C (R := RX9) (T := TX9) (N := 48) [.int (bI r4)] (fun _ h => c_X9_want (kl x) N w hS _ h) (g_cwV C hR ml_X9_235 im_X9_want sl_X9_want ini_X9 cd_X9_want hd_X9_want (by decide)) kd_61 (by decide) rfl (in_61 hS) rfl _ rfl (Nat.le_of_ble_eq_true rfl) dX9_read_90 hf (fun s5 hf => ?_)
      exact j93 k21 k131 q21 q131 _ _ _ hf
  have j68 : ∀ (k21 : Int32 → Mem → Option (Int32 × Mem)) (k131 : Int32 → Mem → Option (Int32 × Mem)), (∀ (v1 : Int32) (s : Mem), k21 v1 s = some (r, s') → G x (QI x w r s') 3 w 21 [(0, .ref (ad w 61)), (1, .int v1)] [] s) → (∀ (v1 : Int32) (s : Mem), k131 v1 s = some (r, s') → G x (QI x w r s') 3 w 131 [(0, .ref (ad w 61)), (1, .int v1)] [] s) → ∀ (v1 : Int32) (v2 : Bool) (s : Mem), f_X9_read_j68 N k21 k131 v1 v2 s = some (r, s') → G x (QI x w r s') 3 w 68 [(0, .ref (ad w 61)), (1, .int v1), (2, .int (bI v2))] [.ref (ad w 61)] s := by
    intro k21 k131 q21 q131 v1 v2 s hf
    unfold f_X9_read_j68 at hf
    refine g_iconst C (v := 0) dX9_read_68 rfl ?_
    exact j69 k21 k131 q21 q131 _ _ _ _ hf
  have j58 : ∀ (k21 : Int32 → Mem → Option (Int32 × Mem)) (k131 : Int32 → Mem → Option (Int32 × Mem)), (∀ (v1 : Int32) (s : Mem), k21 v1 s = some (r, s') → G x (QI x w r s') 3 w 21 [(0, .ref (ad w 61)), (1, .int v1)] [] s) → (∀ (v1 : Int32) (s : Mem), k131 v1 s = some (r, s') → G x (QI x w r s') 3 w 131 [(0, .ref (ad w 61)), (1, .int v1)] [] s) → ∀ (v1 : Int32) (v2 : Bool) (s : Mem), f_X9_read_j58 N k21 k131 v1 v2 s = some (r, s') → G x (QI x w r s') 3 w 58 [(0, .ref (ad w 61)), (1, .int v1), (2, .int (bI v2))] [.ref (ad w 61)] s := by
    intro k21 k131 q21 q131 v1 v2 s hf
    unfold f_X9_read_j58 at hf
    refine g_iload_n C dX9_read_58 rfl 1 rfl ?_
    refine g_bipush C (v := 6) dX9_read_59 (by decide) ?_
    refine g_icmp_ge (tgt := 68) C dX9_read_61 (by decide) hf (fun hf => ?_) (fun hf => ?_)
    · exact j68 k21 k131 q21 q131 _ _ _ hf
    · refine g_iconst C (v := 1) dX9_read_64 rfl ?_
      refine g_goto (tgt := 69) C dX9_read_65 (by decide) ?_
      exact j69 k21 k131 q21 q131 _ _ _ _ hf
  have j21 : ∀ (k131 : Int32 → Mem → Option (Int32 × Mem)), (∀ (v1 : Int32) (s : Mem), k131 v1 s = some (r, s') → G x (QI x w r s') 3 w 131 [(0, .ref (ad w 61)), (1, .int v1)] [] s) → ∀ (n : Nat), ∀ (v1 : Int32) (s : Mem), f_X9_read_L21 N k131 n v1 s = some (r, s') → G x (QI x w r s') 3 w 21 [(0, .ref (ad w 61)), (1, .int v1)] [] s := by
    intro k131 q131 n
    induction n with
    | zero => intro v1 s hf; cases hf
    | succ n ih =>
      intro v1 s hf
      unfold f_X9_read_L21 at hf
      refine g_aload_n C dX9_read_21 rfl 0 rfl ?_
      refine g_get C (R := RX9) (T := TX9) (N := 48) (k := 18) (v := .int (rI s 61 18)) kd_61 (by decide) rfl (in_61 hS) hinX9 (by decide) fl_X9_205 rfl rfl dX9_read_22 ?_
      refine g_if_eq (tgt := 131) C dX9_read_25 (by decide) hf (fun hf => ?_) (fun hf => ?_)
      · exact q131 _ _ hf
      · refine g_aload_n C dX9_read_28 rfl 0 rfl ?_
        refine g_callVB C (R := RX9) (T := TX9) (N := 48) [] (fun _ _ h => c_X9_isGood (kl x) N w hS h) (g_cwV C hR ml_X9_225 im_X9_isGood sl_X9_isGood ini_X9 cd_X9_isGood hd_X9_isGood (by decide)) kd_61 (by decide) rfl (in_61 hS) rfl _ rfl (Nat.le_of_ble_eq_true rfl) dX9_read_29 hf (fun r1 s1 hf => ?_)
        refine g_ifeqB (tgt := 131) C dX9_read_32 (by decide) hf (fun hf => ?_) (fun hf => ?_)
        · exact q131 _ _ hf
        · refine g_aload_n C dX9_read_35 rfl 0 rfl ?_
          refine g_ldc2 C (v := 394691) dX9_read_36 kL_X9_294 ?_
          refine g_callVB C (R := RX9) (T := TX9) (N := 48) [.long 394691] (fun _ _ h => c_X9_isWord (kl x) N w hS _ h) (g_cwV C hR ml_X9_251 im_X9_isWord sl_X9_isWord ini_X9 cd_X9_isWord hd_X9_isWord (by decide)) kd_61 (by decide) rfl (in_61 hS) rfl _ rfl (Nat.le_of_ble_eq_true rfl) dX9_read_39 hf (fun r2 s2 hf => ?_)
          refine g_istore_n (lv' := [(2, .int (bI r2)), (0, .ref (ad w 61)), (1, .int v1)]) C dX9_read_42 rfl (by decide) rfl ?_
          refine g_aload_n C dX9_read_43 rfl 1 rfl ?_
          refine g_iload_n C dX9_read_44 rfl 0 rfl ?_
          refine g_ifneB (tgt := 58) C dX9_read_45 (by decide) hf (fun hf => ?_) (fun hf => ?_)
          · refine g_sub [1, 2, 0] rfl ?_
            exact j58 (f_X9_read_L21 N k131 n) k131 ih q131 _ _ _ hf
          · refine g_aload_n C dX9_read_48 rfl 1 rfl ?_
            refine g_ldc2 C (v := 409469) dX9_read_49 kL_X9_296 ?_
            refine g_callVB C (R := RX9) (T := TX9) (N := 48) [.long 409469] (fun _ _ h => c_X9_isWord (kl x) N w hS _ h) (g_cwV C hR ml_X9_251 im_X9_isWord sl_X9_isWord ini_X9 cd_X9_isWord hd_X9_isWord (by decide)) kd_61 (by decide) rfl (in_61 hS) rfl _ rfl (Nat.le_of_ble_eq_true rfl) dX9_read_52 hf (fun r3 s3 hf => ?_)
            refine g_ifeqB (tgt := 68) C dX9_read_55 (by decide) hf (fun hf => ?_) (fun hf => ?_)
            · refine g_sub [1, 2, 0] rfl ?_
              exact j68 (f_X9_read_L21 N k131 n) k131 ih q131 _ _ _ hf
            · refine g_sub [1, 2, 0] rfl ?_
              exact j58 (f_X9_read_L21 N k131 n) k131 ih q131 _ _ _ hf
  refine g_lv (lv' := [(0, .ref (ad w 61))]) rfl ?_
  unfold f_X9_read at hf
  refine g_aload_n C dX9_read_0 rfl 0 rfl ?_
  refine g_iconst C (v := (-1)) dX9_read_1 rfl ?_
  refine g_putI C (R := RX9) (T := TX9) (N := 48) (k := 22) (ty := .int) tyX9 tyX9_ok nmX9 kd_61 (by decide) rfl (in_61 hS) hinX9 (by decide) fl_X9_222 rfl rfl rfl rfl rfl (Nat.le_of_ble_eq_true rfl) fs_9_22 dX9_read_2 ?_
  refine g_nameS hf (fun s1 hf => ?_)
  refine g_aload_n C dX9_read_5 rfl 0 rfl ?_
  refine g_iconst C (v := 0) dX9_read_6 rfl ?_
  refine g_putI C (R := RX9) (T := TX9) (N := 48) (k := 20) (ty := .int) tyX9 tyX9_ok nmX9 kd_61 (by decide) rfl (in_61 hS) hinX9 (by decide) fl_X9_195 rfl rfl rfl rfl rfl (Nat.le_of_ble_eq_true rfl) fs_9_20 dX9_read_7 ?_
  refine g_nameS hf (fun s2 hf => ?_)
  refine g_aload_n C dX9_read_10 rfl 0 rfl ?_
  refine g_iconst C (v := 0) dX9_read_11 rfl ?_
  refine g_putI C (R := RX9) (T := TX9) (N := 48) (k := 27) (ty := .int) tyX9 tyX9_ok nmX9 kd_61 (by decide) rfl (in_61 hS) hinX9 (by decide) fl_X9_239 rfl rfl rfl rfl rfl (Nat.le_of_ble_eq_true rfl) fs_9_27 dX9_read_12 ?_
  refine g_nameS hf (fun s3 hf => ?_)
  refine g_aload_n C dX9_read_15 rfl 0 rfl ?_
  refine g_callVV C (R := RX9) (T := TX9) (N := 48) [] (fun _ h => c_X9_advance (kl x) N w hS h) (g_cwV C hR ml_X9_229 im_X9_advance sl_X9_advance ini_X9 cd_X9_advance hd_X9_advance (by decide)) kd_61 (by decide) rfl (in_61 hS) rfl _ rfl (Nat.le_of_ble_eq_true rfl) dX9_read_16 hf (fun s4 hf => ?_)
  refine g_iconst C (v := 0) dX9_read_19 rfl ?_
  refine g_istore_n (lv' := [(1, .int 0), (0, .ref (ad w 61))]) C dX9_read_20 rfl (by decide) rfl ?_
  refine g_sub [1, 0] rfl ?_
  exact j21 (f_X9_read_j131 N) j131 N _ _ hf

set_option maxHeartbeats 4000000 in
set_option maxRecDepth 100000 in
theorem c_X9_wrongOf (l : Launch) (N : Nat) (w : WX) (hS : SS w = Sm) (a1 : Int32) (a2 : Int32) {s s' : Mem} {r : Int32} (hf : f_X9_wrongOf N a1 a2 s = some (r, s')) : CI l yX9_wrongOf (wz yX9_wrongOf cX9_wrongOf 5 (some .int)) ({ frames := 2, cells := 0, slots := 0, locals := 48 } : Room) [.ref (ad w 61), .int a1, .int a2] w s r s' := by
  refine met_startI (cc := cX9_wrongOf) (ret := (some .int)) (own := RX9) (maxL := 5) (by decide) rfl (Nat.le_of_ble_eq_true rfl) (fun x C hR hl => ?_)
  have j48 : ∀ (k5 : Int32 → Int32 → Int32 → Int32 → Mem → Option (Int32 × Mem)), (∀ (v1 : Int32) (v2 : Int32) (v3 : Int32) (v4 : Int32) (s : Mem), k5 v1 v2 v3 v4 s = some (r, s') → G x (QI x w r s') 5 w 5 [(0, .ref (ad w 61)), (1, .int v1), (2, .int v2), (3, .int v3), (4, .int v4)] [] s) → ∀ (v1 : Int32) (v2 : Int32) (v4 : Int32) (p0 : Bool) (p1 : Int32) (s : Mem), f_X9_wrongOf_j48 N k5 v1 v2 v4 p0 p1 s = some (r, s') → G x (QI x w r s') 5 w 48 [(0, .ref (ad w 61)), (1, .int v1), (2, .int v2), (4, .int v4)] [.int (bI p0), .int p1] s := by
    intro k5 q5 v1 v2 v4 p0 p1 s hf
    unfold f_X9_wrongOf_j48 at hf
    refine g_iadd C dX9_wrongOf_48 ?_
    refine g_istore_n (lv' := [(3, .int (p1 + (bI p0))), (0, .ref (ad w 61)), (1, .int v1), (2, .int v2), (4, .int v4)]) C dX9_wrongOf_49 rfl (by decide) rfl ?_
    refine g_iinc (v' := v4 + 1) (lv' := [(4, .int (v4 + 1)), (3, .int (p1 + (bI p0))), (0, .ref (ad w 61)), (1, .int v1), (2, .int v2)]) C dX9_wrongOf_50 4 rfl rfl (by decide) rfl ?_
    refine g_goto (tgt := 5) C dX9_wrongOf_53 (by decide) ?_
    refine g_sub [2, 3, 4, 1, 0] rfl ?_
    exact q5 _ _ _ _ _ hf
  have j47 : ∀ (k5 : Int32 → Int32 → Int32 → Int32 → Mem → Option (Int32 × Mem)), (∀ (v1 : Int32) (v2 : Int32) (v3 : Int32) (v4 : Int32) (s : Mem), k5 v1 v2 v3 v4 s = some (r, s') → G x (QI x w r s') 5 w 5 [(0, .ref (ad w 61)), (1, .int v1), (2, .int v2), (3, .int v3), (4, .int v4)] [] s) → ∀ (v1 : Int32) (v2 : Int32) (v4 : Int32) (p0 : Int32) (s : Mem), f_X9_wrongOf_j47 N k5 v1 v2 v4 p0 s = some (r, s') → G x (QI x w r s') 5 w 47 [(0, .ref (ad w 61)), (1, .int v1), (2, .int v2), (4, .int v4)] [.int p0] s := by
    intro k5 q5 v1 v2 v4 p0 s hf
    unfold f_X9_wrongOf_j47 at hf
    refine g_iconst C (v := 0) dX9_wrongOf_47 rfl ?_
    exact j48 k5 q5 _ _ _ _ _ _ hf
  have j5 : ∀ (n : Nat), ∀ (v1 : Int32) (v2 : Int32) (v3 : Int32) (v4 : Int32) (s : Mem), f_X9_wrongOf_L5 N n v1 v2 v3 v4 s = some (r, s') → G x (QI x w r s') 5 w 5 [(0, .ref (ad w 61)), (1, .int v1), (2, .int v2), (3, .int v3), (4, .int v4)] [] s := by
    intro n
    induction n with
    | zero => intro v1 v2 v3 v4 s hf; cases hf
    | succ n ih =>
      intro v1 v2 v3 v4 s hf
      unfold f_X9_wrongOf_L5 at hf
      refine g_iload C dX9_wrongOf_5 4 rfl ?_
      refine g_aload_n C dX9_wrongOf_7 rfl 0 rfl ?_
      refine g_get C (R := RX9) (T := TX9) (N := 48) (k := 2) (v := .int (rI s 61 2)) kd_61 (by decide) rfl (in_61 hS) hinX9 (by decide) fl_X9_97 rfl rfl dX9_wrongOf_8 ?_
      refine g_icmp_ge (tgt := 56) C dX9_wrongOf_11 (by decide) hf (fun hf => ?_) (fun hf => ?_)
      · refine g_iload_n C dX9_wrongOf_56 rfl 3 rfl ?_
        exact g_iret C dX9_wrongOf_57 hf
      · refine g_iload_n C dX9_wrongOf_14 rfl 3 rfl ?_
        refine g_aload_n C dX9_wrongOf_15 rfl 0 rfl ?_
        refine g_get C (R := RX9) (T := TX9) (N := 48) (k := 3) (v := .ref (ad w 63)) kd_61 (by decide) rfl (in_61 hS) hinX9 (by decide) fl_X9_13 rfl rfl dX9_wrongOf_16 ?_
        refine g_bipush C (v := 6) dX9_wrongOf_19 (by decide) ?_
        refine g_iload C dX9_wrongOf_21 4 rfl ?_
        refine g_imul C dX9_wrongOf_23 ?_
        refine g_iald C kd_63 ln_63 (in_63 hS) dX9_wrongOf_24 hf (fun hf => ?_)
        refine g_iload_n C dX9_wrongOf_25 rfl 1 rfl ?_
        refine g_icmp_ne (tgt := 47) C dX9_wrongOf_26 (by decide) hf (fun hf => ?_) (fun hf => ?_)
        · refine g_sub [0, 1, 2, 4] rfl ?_
          exact j47 (f_X9_wrongOf_L5 N n) ih _ _ _ _ _ hf
        · refine g_iload_n C dX9_wrongOf_29 rfl 2 rfl ?_
          refine g_if_lt (tgt := 47) C dX9_wrongOf_30 (by decide) hf (fun hf => ?_) (fun hf => ?_)
          · refine g_sub [0, 1, 2, 4] rfl ?_
            exact j47 (f_X9_wrongOf_L5 N n) ih _ _ _ _ _ hf
          · refine g_aload_n C dX9_wrongOf_33 rfl 0 rfl ?_
            refine g_iload C dX9_wrongOf_34 4 rfl ?_
            refine g_iload_n C dX9_wrongOf_36 rfl 2 rfl ?_
            refine g_callVB C (R := RX9) (T := TX9) (N := 48) [.int v4, .int v2] (fun _ _ h => c_X9_spans (kl x) N w hS _ _ h) (g_cwV C hR ml_X9_121 im_X9_spans sl_X9_spans ini_X9 cd_X9_spans hd_X9_spans (by decide)) kd_61 (by decide) rfl (in_61 hS) rfl _ rfl (Nat.le_of_ble_eq_true rfl) dX9_wrongOf_37 hf (fun r1 s1 hf => ?_)
            refine g_ifneB (tgt := 47) C dX9_wrongOf_40 (by decide) hf (fun hf => ?_) (fun hf => ?_)
            · refine g_sub [0, 1, 2, 4] rfl ?_
              exact j47 (f_X9_wrongOf_L5 N n) ih _ _ _ _ _ hf
            · refine g_iconst C (v := 1) dX9_wrongOf_43 rfl ?_
              refine g_goto (tgt := 48) C dX9_wrongOf_44 (by decide) ?_
              refine g_sub [0, 1, 2, 4] rfl ?_
              exact j48 (f_X9_wrongOf_L5 N n) ih _ _ _ _ _ _ hf
  refine g_lv (lv' := [(0, .ref (ad w 61)), (1, .int a1), (2, .int a2)]) rfl ?_
  unfold f_X9_wrongOf at hf
  refine g_iconst C (v := 0) dX9_wrongOf_0 rfl ?_
  refine g_istore_n (lv' := [(3, .int 0), (0, .ref (ad w 61)), (1, .int a1), (2, .int a2)]) C dX9_wrongOf_1 rfl (by decide) rfl ?_
  refine g_iconst C (v := 0) dX9_wrongOf_2 rfl ?_
  refine g_istore (lv' := [(4, .int 0), (3, .int 0), (0, .ref (ad w 61)), (1, .int a1), (2, .int a2)]) C dX9_wrongOf_3 (by decide) rfl ?_
  refine g_sub [2, 3, 4, 1, 0] rfl ?_
  exact j5 N _ _ _ _ _ hf

set_option maxHeartbeats 4000000 in
set_option maxRecDepth 100000 in
theorem c_X9_standingOf (l : Launch) (N : Nat) (w : WX) (hS : SS w = Sm) (a1 : Int32) {s s' : Mem} {r : Int32} (hf : f_X9_standingOf N a1 s = some (r, s')) : CI l yX9_standingOf (wz yX9_standingOf cX9_standingOf 5 (some .int)) ({ frames := 2, cells := 0, slots := 0, locals := 47 } : Room) [.ref (ad w 61), .int a1] w s r s' := by
  refine met_startI (cc := cX9_standingOf) (ret := (some .int)) (own := RX9) (maxL := 5) (by decide) rfl (Nat.le_of_ble_eq_true rfl) (fun x C hR hl => ?_)
  have j44 : ∀ (k10 : Int32 → Int32 → Int32 → Int32 → Mem → Option (Int32 × Mem)), (∀ (v1 : Int32) (v2 : Int32) (v3 : Int32) (v4 : Int32) (s : Mem), k10 v1 v2 v3 v4 s = some (r, s') → G x (QI x w r s') 5 w 10 [(0, .ref (ad w 61)), (1, .int v1), (2, .int v2), (3, .int v3), (4, .int v4)] [] s) → ∀ (v1 : Int32) (v2 : Int32) (v4 : Int32) (p0 : Int32) (p1 : Int32) (s : Mem), f_X9_standingOf_j44 N k10 v1 v2 v4 p0 p1 s = some (r, s') → G x (QI x w r s') 5 w 44 [(0, .ref (ad w 61)), (1, .int v1), (2, .int v2), (4, .int v4)] [.int p0, .int p1] s := by
    intro k10 q10 v1 v2 v4 p0 p1 s hf
    unfold f_X9_standingOf_j44 at hf
    refine g_iadd C dX9_standingOf_44 ?_
    refine g_istore_n (lv' := [(3, .int (p1 + p0)), (0, .ref (ad w 61)), (1, .int v1), (2, .int v2), (4, .int v4)]) C dX9_standingOf_45 rfl (by decide) rfl ?_
    refine g_iinc (v' := v4 + 1) (lv' := [(4, .int (v4 + 1)), (3, .int (p1 + p0)), (0, .ref (ad w 61)), (1, .int v1), (2, .int v2)]) C dX9_standingOf_46 4 rfl rfl (by decide) rfl ?_
    refine g_goto (tgt := 10) C dX9_standingOf_49 (by decide) ?_
    refine g_sub [2, 3, 4, 1, 0] rfl ?_
    exact q10 _ _ _ _ _ hf
  have j10 : ∀ (n : Nat), ∀ (v1 : Int32) (v2 : Int32) (v3 : Int32) (v4 : Int32) (s : Mem), f_X9_standingOf_L10 N n v1 v2 v3 v4 s = some (r, s') → G x (QI x w r s') 5 w 10 [(0, .ref (ad w 61)), (1, .int v1), (2, .int v2), (3, .int v3), (4, .int v4)] [] s := by
    intro n
    induction n with
    | zero => intro v1 v2 v3 v4 s hf; cases hf
    | succ n ih =>
      intro v1 v2 v3 v4 s hf
      unfold f_X9_standingOf_L10 at hf
      refine g_iload C dX9_standingOf_10 4 rfl ?_
      refine g_aload_n C dX9_standingOf_12 rfl 0 rfl ?_
      refine g_get C (R := RX9) (T := TX9) (N := 48) (k := 2) (v := .int (rI s 61 2)) kd_61 (by decide) rfl (in_61 hS) hinX9 (by decide) fl_X9_97 rfl rfl dX9_standingOf_13 ?_
      refine g_icmp_ge (tgt := 52) C dX9_standingOf_16 (by decide) hf (fun hf => ?_) (fun hf => ?_)
      · refine g_iload_n C dX9_standingOf_52 rfl 3 rfl ?_
        exact g_iret C dX9_standingOf_53 hf
      · refine g_iload_n C dX9_standingOf_19 rfl 3 rfl ?_
        refine g_aload_n C dX9_standingOf_20 rfl 0 rfl ?_
        refine g_get C (R := RX9) (T := TX9) (N := 48) (k := 3) (v := .ref (ad w 63)) kd_61 (by decide) rfl (in_61 hS) hinX9 (by decide) fl_X9_13 rfl rfl dX9_standingOf_21 ?_
        refine g_bipush C (v := 6) dX9_standingOf_24 (by decide) ?_
        refine g_iload C dX9_standingOf_26 4 rfl ?_
        refine g_imul C dX9_standingOf_28 ?_
        refine g_iald C kd_63 ln_63 (in_63 hS) dX9_standingOf_29 hf (fun hf => ?_)
        refine g_iload_n C dX9_standingOf_30 rfl 1 rfl ?_
        refine g_icmp_ne (tgt := 43) C dX9_standingOf_31 (by decide) hf (fun hf => ?_) (fun hf => ?_)
        · refine g_iconst C (v := 0) dX9_standingOf_43 rfl ?_
          refine g_sub [0, 1, 2, 4] rfl ?_
          exact j44 (f_X9_standingOf_L10 N n) ih _ _ _ _ _ _ hf
        · refine g_iload_n C dX9_standingOf_34 rfl 2 rfl ?_
          refine g_iload C dX9_standingOf_35 4 rfl ?_
          refine g_ishr C dX9_standingOf_37 ?_
          refine g_iconst C (v := 1) dX9_standingOf_38 rfl ?_
          refine g_iand C dX9_standingOf_39 ?_
          refine g_goto (tgt := 44) C dX9_standingOf_40 (by decide) ?_
          refine g_sub [0, 1, 2, 4] rfl ?_
          exact j44 (f_X9_standingOf_L10 N n) ih _ _ _ _ _ _ hf
  refine g_lv (lv' := [(0, .ref (ad w 61)), (1, .int a1)]) rfl ?_
  unfold f_X9_standingOf at hf
  refine g_aload_n C dX9_standingOf_0 rfl 0 rfl ?_
  refine g_callVI C (R := RX9) (T := TX9) (N := 48) [] (fun _ _ h => c_X9_standing (kl x) N w hS h) (g_cwV C hR ml_X9_183 im_X9_standing sl_X9_standing ini_X9 cd_X9_standing hd_X9_standing (by decide)) kd_61 (by decide) rfl (in_61 hS) rfl _ rfl (Nat.le_of_ble_eq_true rfl) dX9_standingOf_1 hf (fun r1 s1 hf => ?_)
  refine g_istore_n (lv' := [(2, .int r1), (0, .ref (ad w 61)), (1, .int a1)]) C dX9_standingOf_4 rfl (by decide) rfl ?_
  refine g_iconst C (v := 0) dX9_standingOf_5 rfl ?_
  refine g_istore_n (lv' := [(3, .int 0), (2, .int r1), (0, .ref (ad w 61)), (1, .int a1)]) C dX9_standingOf_6 rfl (by decide) rfl ?_
  refine g_iconst C (v := 0) dX9_standingOf_7 rfl ?_
  refine g_istore (lv' := [(4, .int 0), (3, .int 0), (2, .int r1), (0, .ref (ad w 61)), (1, .int a1)]) C dX9_standingOf_8 (by decide) rfl ?_
  refine g_sub [3, 4, 2, 1, 0] rfl ?_
  exact j10 N _ _ _ _ _ hf

set_option maxHeartbeats 4000000 in
set_option maxRecDepth 100000 in
theorem c_X9_hundredths (l : Launch) (N : Nat) (w : WX) (hS : SS w = Sm) (a1 : Int32) (a2 : Int32) {s s' : Mem} {r : Int32} (hf : f_X9_hundredths N a1 a2 s = some (r, s')) : CI l yX9_hundredths (wz yX9_hundredths cX9_hundredths 5 (some .int)) ({ frames := 5, cells := 0, slots := 0, locals := 122 } : Room) [.ref (ad w 61), .int a1, .int a2] w s r s' := by
  refine met_startI (cc := cX9_hundredths) (ret := (some .int)) (own := RX9) (maxL := 5) (by decide) rfl (Nat.le_of_ble_eq_true rfl) (fun x C hR hl => ?_)
  refine g_lv (lv' := [(0, .ref (ad w 61)), (1, .int a1), (2, .int a2)]) rfl ?_
  unfold f_X9_hundredths at hf
  refine g_aload_n C dX9_hundredths_0 rfl 0 rfl ?_
  refine g_iload_n C dX9_hundredths_1 rfl 1 rfl ?_
  refine g_callVL C (R := RX9) (T := TX9) (N := 48) [.int a1] (fun _ _ h => c_X9_allOf (kl x) N w hS _ h) (g_cwV C hR ml_X9_149 im_X9_allOf sl_X9_allOf ini_X9 cd_X9_allOf hd_X9_allOf (by decide)) kd_61 (by decide) rfl (in_61 hS) rfl _ rfl (Nat.le_of_ble_eq_true rfl) dX9_hundredths_2 hf (fun r1 s1 hf => ?_)
  refine g_lstore_n (lv' := [(3, .long r1), (0, .ref (ad w 61)), (1, .int a1), (2, .int a2)]) C dX9_hundredths_5 rfl (by decide) rfl ?_
  refine g_lload_n C dX9_hundredths_6 rfl 0 rfl ?_
  refine g_lconst C (v := 0) dX9_hundredths_7 rfl ?_
  refine g_lcmp_ne (tgt := 16) C dX9_hundredths_8 dX9_hundredths_9 (by decide) hf (fun hf => ?_) (fun hf => ?_)
  · refine g_ldc2 C (v := 100) dX9_hundredths_16 kL_X9_131 ?_
    refine g_aload_n C dX9_hundredths_19 rfl 1 rfl ?_
    refine g_iload_n C dX9_hundredths_20 rfl 2 rfl ?_
    refine g_iload_n C dX9_hundredths_21 rfl 3 rfl ?_
    refine g_callVL C (R := RX9) (T := TX9) (N := 48) [.int a1, .int a2] (fun _ _ h => c_X9_partOf (kl x) N w hS _ _ h) (g_cwV C hR ml_X9_158 im_X9_partOf sl_X9_partOf ini_X9 cd_X9_partOf hd_X9_partOf (by decide)) kd_61 (by decide) rfl (in_61 hS) rfl _ rfl (Nat.le_of_ble_eq_true rfl) dX9_hundredths_22 hf (fun r2 s2 hf => ?_)
    refine g_lmul C dX9_hundredths_25 ?_
    refine g_lload_n C dX9_hundredths_26 rfl 0 rfl ?_
    refine g_ldiv C dX9_hundredths_27 hf (fun hf => ?_)
    refine g_l2i C dX9_hundredths_28 ?_
    exact g_iret C dX9_hundredths_29 hf
  · refine g_iconst C (v := 0) dX9_hundredths_12 rfl ?_
    refine g_goto (tgt := 29) C dX9_hundredths_13 (by decide) ?_
    exact g_iret C dX9_hundredths_29 hf

set_option maxHeartbeats 4000000 in
set_option maxRecDepth 100000 in
theorem c_X9_valueOf (l : Launch) (N : Nat) (w : WX) (hS : SS w = Sm) (a1 : Int32) (a2 : Int32) {s s' : Mem} {r : Int32} (hf : f_X9_valueOf N a1 a2 s = some (r, s')) : CI l yX9_valueOf (wz yX9_valueOf cX9_valueOf 4 (some .int)) ({ frames := 6, cells := 0, slots := 0, locals := 146 } : Room) [.ref (ad w 61), .int a1, .int a2] w s r s' := by
  refine met_startI (cc := cX9_valueOf) (ret := (some .int)) (own := RX9) (maxL := 4) (by decide) rfl (Nat.le_of_ble_eq_true rfl) (fun x C hR hl => ?_)
  have j52 : ∀ (v1 : Int32) (v2 : Int32) (p0 : Int32) (s : Mem), f_X9_valueOf_j52 N v1 v2 p0 s = some (r, s') → G x (QI x w r s') 4 w 52 [(0, .ref (ad w 61)), (1, .int v1), (2, .int v2)] [.int p0] s := by
    intro v1 v2 p0 s hf
    unfold f_X9_valueOf_j52 at hf
    refine g_istore_n (lv' := [(3, .int p0), (0, .ref (ad w 61)), (1, .int v1), (2, .int v2)]) C dX9_valueOf_52 rfl (by decide) rfl ?_
    refine g_iload_n C dX9_valueOf_53 rfl 2 rfl ?_
    rcases ite_some hf with ⟨e100, hf⟩ | ⟨n100, hf⟩
    · refine g_tabIn (k := 100) (tgt := 88) C dX9_valueOf_54 e100 (by decide) (by decide) rfl (by decide) ?_
      refine g_aload_n C dX9_valueOf_88 rfl 1 rfl ?_
      refine g_iload_n C dX9_valueOf_89 rfl 3 rfl ?_
      refine g_callVI C (R := RX9) (T := TX9) (N := 48) [.int v2] (fun _ _ h => c_X9_papersOf (kl x) N w hS _ h) (g_cwV C hR ml_X9_108 im_X9_papersOf sl_X9_papersOf ini_X9 cd_X9_papersOf hd_X9_papersOf (by decide)) kd_61 (by decide) rfl (in_61 hS) rfl _ rfl (Nat.le_of_ble_eq_true rfl) dX9_valueOf_90 hf (fun r1 s1 hf => ?_)
      exact g_iret C dX9_valueOf_93 hf
    rcases ite_some hf with ⟨e101, hf⟩ | ⟨n101, hf⟩
    · refine g_tabIn (k := 101) (tgt := 94) C dX9_valueOf_54 e101 (by decide) (by decide) rfl (by decide) ?_
      refine g_aload_n C dX9_valueOf_94 rfl 1 rfl ?_
      refine g_iload_n C dX9_valueOf_95 rfl 3 rfl ?_
      refine g_callVI C (R := RX9) (T := TX9) (N := 48) [.int v2] (fun _ _ h => c_X9_standingOf (kl x) N w hS _ h) (g_cwV C hR ml_X9_307 im_X9_standingOf sl_X9_standingOf ini_X9 cd_X9_standingOf hd_X9_standingOf (by decide)) kd_61 (by decide) rfl (in_61 hS) rfl _ rfl (Nat.le_of_ble_eq_true rfl) dX9_valueOf_96 hf (fun r2 s2 hf => ?_)
      exact g_iret C dX9_valueOf_99 hf
    rcases ite_some hf with ⟨e102, hf⟩ | ⟨n102, hf⟩
    · refine g_tabIn (k := 102) (tgt := 100) C dX9_valueOf_54 e102 (by decide) (by decide) rfl (by decide) ?_
      refine g_iload_n C dX9_valueOf_100 rfl 0 rfl ?_
      refine g_if_ge (tgt := 108) C dX9_valueOf_101 (by decide) hf (fun hf => ?_) (fun hf => ?_)
      · refine g_aload_n C dX9_valueOf_108 rfl 1 rfl ?_
        refine g_iload_n C dX9_valueOf_109 rfl 3 rfl ?_
        refine g_callVI C (R := RX9) (T := TX9) (N := 48) [.int v2] (fun _ _ h => c_X9_seenOf (kl x) N w hS _ h) (g_cwV C hR ml_X9_104 im_X9_seenOf sl_X9_seenOf ini_X9 cd_X9_seenOf hd_X9_seenOf (by decide)) kd_61 (by decide) rfl (in_61 hS) rfl _ rfl (Nat.le_of_ble_eq_true rfl) dX9_valueOf_110 hf (fun r3 s3 hf => ?_)
        refine g_iload_n C dX9_valueOf_113 rfl 0 rfl ?_
        refine g_isub C dX9_valueOf_114 ?_
        exact g_iret C dX9_valueOf_115 hf
      · refine g_iconst C (v := 0) dX9_valueOf_104 rfl ?_
        refine g_goto (tgt := 115) C dX9_valueOf_105 (by decide) ?_
        exact g_iret C dX9_valueOf_115 hf
    rcases ite_some hf with ⟨e103, hf⟩ | ⟨n103, hf⟩
    · refine g_tabIn (k := 103) (tgt := 116) C dX9_valueOf_54 e103 (by decide) (by decide) rfl (by decide) ?_
      refine g_aload_n C dX9_valueOf_116 rfl 1 rfl ?_
      refine g_iload_n C dX9_valueOf_117 rfl 3 rfl ?_
      refine g_callVI C (R := RX9) (T := TX9) (N := 48) [.int v2] (fun _ _ h => c_X9_seenOf (kl x) N w hS _ h) (g_cwV C hR ml_X9_104 im_X9_seenOf sl_X9_seenOf ini_X9 cd_X9_seenOf hd_X9_seenOf (by decide)) kd_61 (by decide) rfl (in_61 hS) rfl _ rfl (Nat.le_of_ble_eq_true rfl) dX9_valueOf_118 hf (fun r4 s4 hf => ?_)
      exact g_iret C dX9_valueOf_121 hf
    rcases ite_some hf with ⟨e104, hf⟩ | ⟨n104, hf⟩
    · refine g_tabIn (k := 104) (tgt := 122) C dX9_valueOf_54 e104 (by decide) (by decide) rfl (by decide) ?_
      refine g_aload_n C dX9_valueOf_122 rfl 1 rfl ?_
      refine g_get C (R := RX9) (T := TX9) (N := 48) (k := 1) (v := .ref (ad w 62)) kd_61 (by decide) rfl (in_61 hS) hinX9 (by decide) fl_X9_7 rfl rfl dX9_valueOf_123 ?_
      refine g_iconst C (v := 4) dX9_valueOf_126 rfl ?_
      refine g_iload_n C dX9_valueOf_127 rfl 3 rfl ?_
      refine g_imul C dX9_valueOf_128 ?_
      refine g_iald C kd_62 ln_62 (in_62 hS) dX9_valueOf_129 hf (fun hf => ?_)
      exact g_iret C dX9_valueOf_130 hf
    refine g_tabOut (tgt := 131) C dX9_valueOf_54 (by have z100 := lv_neT n100 (a := 100) (by decide); have z101 := lv_neT n101 (a := 101) (by decide); have z102 := lv_neT n102 (a := 102) (by decide); have z103 := lv_neT n103 (a := 103) (by decide); have z104 := lv_neT n104 (a := 104) (by decide); omega) (by decide) ?_
    refine g_aload_n C dX9_valueOf_131 rfl 1 rfl ?_
    refine g_iload_n C dX9_valueOf_132 rfl 3 rfl ?_
    refine g_iload_n C dX9_valueOf_133 rfl 0 rfl ?_
    refine g_callVI C (R := RX9) (T := TX9) (N := 48) [.int v2, .int p0] (fun _ _ h => c_X9_wrongOf (kl x) N w hS _ _ h) (g_cwV C hR ml_X9_310 im_X9_wrongOf sl_X9_wrongOf ini_X9 cd_X9_wrongOf hd_X9_wrongOf (by decide)) kd_61 (by decide) rfl (in_61 hS) rfl _ rfl (Nat.le_of_ble_eq_true rfl) dX9_valueOf_134 hf (fun r5 s5 hf => ?_)
    exact g_iret C dX9_valueOf_137 hf
  have j43 : ∀ (v1 : Int32) (v2 : Int32) (s : Mem), f_X9_valueOf_j43 N v1 v2 s = some (r, s') → G x (QI x w r s') 4 w 43 [(0, .ref (ad w 61)), (1, .int v1), (2, .int v2)] [] s := by
    intro v1 v2 s hf
    unfold f_X9_valueOf_j43 at hf
    refine g_aload_n C dX9_valueOf_43 rfl 0 rfl ?_
    refine g_iload_n C dX9_valueOf_44 rfl 2 rfl ?_
    refine g_callVI C (R := RX9) (T := TX9) (N := 48) [.int v2] (fun _ _ h => c_X9_bestOf (kl x) N w hS _ h) (g_cwV C hR ml_X9_153 im_X9_bestOf sl_X9_bestOf ini_X9 cd_X9_bestOf hd_X9_bestOf (by decide)) kd_61 (by decide) rfl (in_61 hS) rfl _ rfl (Nat.le_of_ble_eq_true rfl) dX9_valueOf_45 hf (fun r1 s1 hf => ?_)
    refine g_goto (tgt := 52) C dX9_valueOf_48 (by decide) ?_
    exact j52 _ _ _ _ hf
  refine g_lv (lv' := [(0, .ref (ad w 61)), (1, .int a1), (2, .int a2)]) rfl ?_
  unfold f_X9_valueOf at hf
  refine g_iload_n C dX9_valueOf_0 rfl 1 rfl ?_
  refine g_sipush C (v := 3000) dX9_valueOf_1 (by decide) ?_
  refine g_icmp_lt (tgt := 13) C dX9_valueOf_4 (by decide) hf (fun hf => ?_) (fun hf => ?_)
  · refine g_iload_n C dX9_valueOf_13 rfl 1 rfl ?_
    refine g_sipush C (v := 1000) dX9_valueOf_14 (by decide) ?_
    refine g_icmp_lt (tgt := 31) C dX9_valueOf_17 (by decide) hf (fun hf => ?_) (fun hf => ?_)
    · refine g_iload_n C dX9_valueOf_31 rfl 1 rfl ?_
      refine g_bipush C (v := 102) dX9_valueOf_32 (by decide) ?_
      refine g_icmp_eq (tgt := 43) C dX9_valueOf_34 (by decide) hf (fun hf => ?_) (fun hf => ?_)
      · exact j43 _ _ _ hf
      · refine g_iload_n C dX9_valueOf_37 rfl 1 rfl ?_
        refine g_bipush C (v := 105) dX9_valueOf_38 (by decide) ?_
        refine g_icmp_ne (tgt := 51) C dX9_valueOf_40 (by decide) hf (fun hf => ?_) (fun hf => ?_)
        · refine g_iconst C (v := 0) dX9_valueOf_51 rfl ?_
          exact j52 _ _ _ _ hf
        · exact j43 _ _ _ hf
    · refine g_aload_n C dX9_valueOf_20 rfl 0 rfl ?_
      refine g_iload_n C dX9_valueOf_21 rfl 2 rfl ?_
      refine g_iload_n C dX9_valueOf_22 rfl 1 rfl ?_
      refine g_sipush C (v := 1000) dX9_valueOf_23 (by decide) ?_
      refine g_isub C dX9_valueOf_26 ?_
      refine g_callVI C (R := RX9) (T := TX9) (N := 48) [.int a2, .int (a1 - 1000)] (fun _ _ h => c_X9_hundredths (kl x) N w hS _ _ h) (g_cwV C hR ml_X9_304 im_X9_hundredths sl_X9_hundredths ini_X9 cd_X9_hundredths hd_X9_hundredths (by decide)) kd_61 (by decide) rfl (in_61 hS) rfl _ rfl (Nat.le_of_ble_eq_true rfl) dX9_valueOf_27 hf (fun r1 s1 hf => ?_)
      exact g_iret C dX9_valueOf_30 hf
  · refine g_iload_n C dX9_valueOf_7 rfl 1 rfl ?_
    refine g_sipush C (v := 3000) dX9_valueOf_8 (by decide) ?_
    refine g_isub C dX9_valueOf_11 ?_
    exact g_iret C dX9_valueOf_12 hf

set_option maxHeartbeats 4000000 in
set_option maxRecDepth 100000 in
theorem c_X9_joined (l : Launch) (N : Nat) (w : WX) (a0 : Int32) (a1 : Int32) (a2 : Int32) {s s' : Mem} {r : Int32} (hf : f_X9_joined N a0 a1 a2 s = some (r, s')) : CI l yX9_joined (wz yX9_joined cX9_joined 3 (some .int)) ({ frames := 0, cells := 0, slots := 0, locals := 0 } : Room) [.int a0, .int a1, .int a2] w s r s' := by
  refine met_startI (cc := cX9_joined) (ret := (some .int)) (own := RX9) (maxL := 3) (by decide) rfl (Nat.le_of_ble_eq_true rfl) (fun x C hR hl => ?_)
  refine g_lv (lv' := [(0, .int a0), (1, .int a1), (2, .int a2)]) rfl ?_
  unfold f_X9_joined at hf
  refine g_iload_n C dX9_joined_0 rfl 0 rfl ?_
  rcases ite_some hf with ⟨e8, hf⟩ | ⟨n8, hf⟩
  · refine g_tabIn (k := 8) (tgt := 52) C dX9_joined_1 e8 (by decide) (by decide) rfl (by decide) ?_
    refine g_iload_n C dX9_joined_52 rfl 1 rfl ?_
    refine g_iload_n C dX9_joined_53 rfl 2 rfl ?_
    refine g_iand C dX9_joined_54 ?_
    exact g_iret C dX9_joined_55 hf
  rcases ite_some hf with ⟨e9, hf⟩ | ⟨n9, hf⟩
  · refine g_tabIn (k := 9) (tgt := 56) C dX9_joined_1 e9 (by decide) (by decide) rfl (by decide) ?_
    refine g_iload_n C dX9_joined_56 rfl 1 rfl ?_
    refine g_iload_n C dX9_joined_57 rfl 2 rfl ?_
    refine g_ior C dX9_joined_58 ?_
    exact g_iret C dX9_joined_59 hf
  rcases ite_some hf with ⟨e10, hf⟩ | ⟨n10, hf⟩
  · refine g_tabIn (k := 10) (tgt := 82) C dX9_joined_1 e10 (by decide) (by decide) rfl (by decide) ?_
    refine g_iload_n C dX9_joined_82 rfl 1 rfl ?_
    refine g_iload_n C dX9_joined_83 rfl 2 rfl ?_
    refine g_icmp_le (tgt := 91) C dX9_joined_84 (by decide) hf (fun hf => ?_) (fun hf => ?_)
    · refine g_iconst C (v := 0) dX9_joined_91 rfl ?_
      exact g_iret C dX9_joined_92 hf
    · refine g_iconst C (v := 1) dX9_joined_87 rfl ?_
      refine g_goto (tgt := 92) C dX9_joined_88 (by decide) ?_
      exact g_iret C dX9_joined_92 hf
  rcases ite_some hf with ⟨e11, hf⟩ | ⟨n11, hf⟩
  · refine g_tabIn (k := 11) (tgt := 82) C dX9_joined_1 e11 (by decide) (by decide) rfl (by decide) ?_
    refine g_iload_n C dX9_joined_82 rfl 1 rfl ?_
    refine g_iload_n C dX9_joined_83 rfl 2 rfl ?_
    refine g_icmp_le (tgt := 91) C dX9_joined_84 (by decide) hf (fun hf => ?_) (fun hf => ?_)
    · refine g_iconst C (v := 0) dX9_joined_91 rfl ?_
      exact g_iret C dX9_joined_92 hf
    · refine g_iconst C (v := 1) dX9_joined_87 rfl ?_
      refine g_goto (tgt := 92) C dX9_joined_88 (by decide) ?_
      exact g_iret C dX9_joined_92 hf
  rcases ite_some hf with ⟨e12, hf⟩ | ⟨n12, hf⟩
  · refine g_tabIn (k := 12) (tgt := 82) C dX9_joined_1 e12 (by decide) (by decide) rfl (by decide) ?_
    refine g_iload_n C dX9_joined_82 rfl 1 rfl ?_
    refine g_iload_n C dX9_joined_83 rfl 2 rfl ?_
    refine g_icmp_le (tgt := 91) C dX9_joined_84 (by decide) hf (fun hf => ?_) (fun hf => ?_)
    · refine g_iconst C (v := 0) dX9_joined_91 rfl ?_
      exact g_iret C dX9_joined_92 hf
    · refine g_iconst C (v := 1) dX9_joined_87 rfl ?_
      refine g_goto (tgt := 92) C dX9_joined_88 (by decide) ?_
      exact g_iret C dX9_joined_92 hf
  rcases ite_some hf with ⟨e13, hf⟩ | ⟨n13, hf⟩
  · refine g_tabIn (k := 13) (tgt := 82) C dX9_joined_1 e13 (by decide) (by decide) rfl (by decide) ?_
    refine g_iload_n C dX9_joined_82 rfl 1 rfl ?_
    refine g_iload_n C dX9_joined_83 rfl 2 rfl ?_
    refine g_icmp_le (tgt := 91) C dX9_joined_84 (by decide) hf (fun hf => ?_) (fun hf => ?_)
    · refine g_iconst C (v := 0) dX9_joined_91 rfl ?_
      exact g_iret C dX9_joined_92 hf
    · refine g_iconst C (v := 1) dX9_joined_87 rfl ?_
      refine g_goto (tgt := 92) C dX9_joined_88 (by decide) ?_
      exact g_iret C dX9_joined_92 hf
  rcases ite_some hf with ⟨e14, hf⟩ | ⟨n14, hf⟩
  · refine g_tabIn (k := 14) (tgt := 82) C dX9_joined_1 e14 (by decide) (by decide) rfl (by decide) ?_
    refine g_iload_n C dX9_joined_82 rfl 1 rfl ?_
    refine g_iload_n C dX9_joined_83 rfl 2 rfl ?_
    refine g_icmp_le (tgt := 91) C dX9_joined_84 (by decide) hf (fun hf => ?_) (fun hf => ?_)
    · refine g_iconst C (v := 0) dX9_joined_91 rfl ?_
      exact g_iret C dX9_joined_92 hf
    · refine g_iconst C (v := 1) dX9_joined_87 rfl ?_
      refine g_goto (tgt := 92) C dX9_joined_88 (by decide) ?_
      exact g_iret C dX9_joined_92 hf
  rcases ite_some hf with ⟨e15, hf⟩ | ⟨n15, hf⟩
  · refine g_tabIn (k := 15) (tgt := 60) C dX9_joined_1 e15 (by decide) (by decide) rfl (by decide) ?_
    refine g_iload_n C dX9_joined_60 rfl 1 rfl ?_
    refine g_iload_n C dX9_joined_61 rfl 2 rfl ?_
    refine g_icmp_ge (tgt := 69) C dX9_joined_62 (by decide) hf (fun hf => ?_) (fun hf => ?_)
    · refine g_iconst C (v := 0) dX9_joined_69 rfl ?_
      exact g_iret C dX9_joined_70 hf
    · refine g_iconst C (v := 1) dX9_joined_65 rfl ?_
      refine g_goto (tgt := 70) C dX9_joined_66 (by decide) ?_
      exact g_iret C dX9_joined_70 hf
  rcases ite_some hf with ⟨e16, hf⟩ | ⟨n16, hf⟩
  · refine g_tabIn (k := 16) (tgt := 71) C dX9_joined_1 e16 (by decide) (by decide) rfl (by decide) ?_
    refine g_iload_n C dX9_joined_71 rfl 1 rfl ?_
    refine g_iload_n C dX9_joined_72 rfl 2 rfl ?_
    refine g_icmp_ne (tgt := 80) C dX9_joined_73 (by decide) hf (fun hf => ?_) (fun hf => ?_)
    · refine g_iconst C (v := 0) dX9_joined_80 rfl ?_
      exact g_iret C dX9_joined_81 hf
    · refine g_iconst C (v := 1) dX9_joined_76 rfl ?_
      refine g_goto (tgt := 81) C dX9_joined_77 (by decide) ?_
      exact g_iret C dX9_joined_81 hf
  refine g_tabOut (tgt := 82) C dX9_joined_1 (by have z8 := lv_neT n8 (a := 8) (by decide); have z9 := lv_neT n9 (a := 9) (by decide); have z10 := lv_neT n10 (a := 10) (by decide); have z11 := lv_neT n11 (a := 11) (by decide); have z12 := lv_neT n12 (a := 12) (by decide); have z13 := lv_neT n13 (a := 13) (by decide); have z14 := lv_neT n14 (a := 14) (by decide); have z15 := lv_neT n15 (a := 15) (by decide); have z16 := lv_neT n16 (a := 16) (by decide); omega) (by decide) ?_
  refine g_iload_n C dX9_joined_82 rfl 1 rfl ?_
  refine g_iload_n C dX9_joined_83 rfl 2 rfl ?_
  refine g_icmp_le (tgt := 91) C dX9_joined_84 (by decide) hf (fun hf => ?_) (fun hf => ?_)
  · refine g_iconst C (v := 0) dX9_joined_91 rfl ?_
    exact g_iret C dX9_joined_92 hf
  · refine g_iconst C (v := 1) dX9_joined_87 rfl ?_
    refine g_goto (tgt := 92) C dX9_joined_88 (by decide) ?_
    exact g_iret C dX9_joined_92 hf

set_option maxHeartbeats 4000000 in
set_option maxRecDepth 100000 in
theorem c_X9_holds (l : Launch) (N : Nat) (w : WX) (hS : SS w = Sm) (a1 : Int32) (a2 : Int32) {s s' : Mem} {r : Bool} (hf : f_X9_holds N a1 a2 s = some (r, s')) : CB l yX9_holds (wz yX9_holds cX9_holds 6 (some .boolean)) ({ frames := 7, cells := 0, slots := 0, locals := 169 } : Room) [.ref (ad w 61), .int a1, .int a2] w s r s' := by
  refine met_startB (cc := cX9_holds) (ret := (some .boolean)) (own := RX9) (maxL := 6) (by decide) rfl (Nat.le_of_ble_eq_true rfl) (fun x C hR hl => ?_)
  have j149 : ∀ (s : Mem), f_X9_holds_j149 N s = some (r, s') → G x (QB x w r s') 6 w 149 [(0, .ref (ad w 61))] [] s := by
    intro s hf
    unfold f_X9_holds_j149 at hf
    refine g_aload_n C dX9_holds_149 rfl 0 rfl ?_
    refine g_get C (R := RX9) (T := TX9) (N := 48) (k := 29) (v := .ref (ad w 77)) kd_61 (by decide) rfl (in_61 hS) hinX9 (by decide) fl_X9_55 rfl rfl dX9_holds_150 ?_
    refine g_iconst C (v := 0) dX9_holds_153 rfl ?_
    refine g_iald C kd_77 ln_77 (in_77 hS) dX9_holds_154 hf (fun hf => ?_)
    refine g_iconst C (v := 1) dX9_holds_155 rfl ?_
    refine g_icmp_ne (tgt := 163) C dX9_holds_156 (by decide) hf (fun hf => ?_) (fun hf => ?_)
    · refine g_iconst C (v := 0) dX9_holds_163 rfl ?_
      exact g_zret (v := false) C dX9_holds_164 hf
    · refine g_iconst C (v := 1) dX9_holds_159 rfl ?_
      refine g_goto (tgt := 164) C dX9_holds_160 (by decide) ?_
      exact g_zret (v := true) C dX9_holds_164 hf
  have j143 : ∀ (k20 : Int32 → Int32 → Int32 → Int32 → Mem → Option (Bool × Mem)) (k149 : Mem → Option (Bool × Mem)), (∀ (v1 : Int32) (v2 : Int32) (v3 : Int32) (v4 : Int32) (s : Mem), k20 v1 v2 v3 v4 s = some (r, s') → G x (QB x w r s') 6 w 20 [(0, .ref (ad w 61)), (1, .int v1), (2, .int v2), (3, .int v3), (4, .int v4)] [] s) → (∀ (s : Mem), k149 s = some (r, s') → G x (QB x w r s') 6 w 149 [(0, .ref (ad w 61))] [] s) → ∀ (v1 : Int32) (v2 : Int32) (v3 : Int32) (v4 : Int32) (s : Mem), f_X9_holds_j143 N k20 k149 v1 v2 v3 v4 s = some (r, s') → G x (QB x w r s') 6 w 143 [(0, .ref (ad w 61)), (1, .int v1), (2, .int v2), (3, .int v3), (4, .int v4)] [] s := by
    intro k20 k149 q20 q149 v1 v2 v3 v4 s hf
    unfold f_X9_holds_j143 at hf
    refine g_iinc (v' := v4 + 1) (lv' := [(4, .int (v4 + 1)), (0, .ref (ad w 61)), (1, .int v1), (2, .int v2), (3, .int v3)]) C dX9_holds_143 4 rfl rfl (by decide) rfl ?_
    refine g_goto (tgt := 20) C dX9_holds_146 (by decide) ?_
    refine g_sub [1, 2, 3, 4, 0] rfl ?_
    exact q20 _ _ _ _ _ hf
  have j94 : ∀ (k20 : Int32 → Int32 → Int32 → Int32 → Mem → Option (Bool × Mem)) (k149 : Mem → Option (Bool × Mem)), (∀ (v1 : Int32) (v2 : Int32) (v3 : Int32) (v4 : Int32) (s : Mem), k20 v1 v2 v3 v4 s = some (r, s') → G x (QB x w r s') 6 w 20 [(0, .ref (ad w 61)), (1, .int v1), (2, .int v2), (3, .int v3), (4, .int v4)] [] s) → (∀ (s : Mem), k149 s = some (r, s') → G x (QB x w r s') 6 w 149 [(0, .ref (ad w 61))] [] s) → ∀ (v1 : Int32) (v2 : Int32) (v3 : Int32) (v4 : Int32) (v5 : Int32) (s : Mem), f_X9_holds_j94 N k20 k149 v1 v2 v3 v4 v5 s = some (r, s') → G x (QB x w r s') 6 w 94 [(0, .ref (ad w 61)), (1, .int v1), (2, .int v2), (3, .int v3), (4, .int v4), (5, .int v5)] [] s := by
    intro k20 k149 q20 q149 v1 v2 v3 v4 v5 s hf
    unfold f_X9_holds_j94 at hf
    refine g_iinc (v' := v3 + (-1)) (lv' := [(3, .int (v3 + (-1))), (0, .ref (ad w 61)), (1, .int v1), (2, .int v2), (4, .int v4), (5, .int v5)]) C dX9_holds_94 3 rfl rfl (by decide) rfl ?_
    refine g_aload_n C dX9_holds_97 rfl 1 rfl ?_
    refine g_get C (R := RX9) (T := TX9) (N := 48) (k := 29) (v := .ref (ad w 77)) kd_61 (by decide) rfl (in_61 hS) hinX9 (by decide) fl_X9_55 rfl rfl dX9_holds_98 ?_
    refine g_iload_n C dX9_holds_101 rfl 0 rfl ?_
    refine g_iconst C (v := 1) dX9_holds_102 rfl ?_
    refine g_isub C dX9_holds_103 ?_
    refine g_iload C dX9_holds_104 5 rfl ?_
    refine g_aload_n C dX9_holds_106 rfl 1 rfl ?_
    refine g_get C (R := RX9) (T := TX9) (N := 48) (k := 29) (v := .ref (ad w 77)) kd_61 (by decide) rfl (in_61 hS) hinX9 (by decide) fl_X9_55 rfl rfl dX9_holds_107 ?_
    refine g_iload_n C dX9_holds_110 rfl 0 rfl ?_
    refine g_iconst C (v := 1) dX9_holds_111 rfl ?_
    refine g_isub C dX9_holds_112 ?_
    refine g_iald C kd_77 ln_77 (in_77 hS) dX9_holds_113 hf (fun hf => ?_)
    refine g_aload_n C dX9_holds_114 rfl 1 rfl ?_
    refine g_get C (R := RX9) (T := TX9) (N := 48) (k := 29) (v := .ref (ad w 77)) kd_61 (by decide) rfl (in_61 hS) hinX9 (by decide) fl_X9_55 rfl rfl dX9_holds_115 ?_
    refine g_iload_n C dX9_holds_118 rfl 0 rfl ?_
    refine g_iald C kd_77 ln_77 (in_77 hS) dX9_holds_119 hf (fun hf => ?_)
    refine g_callSI C [.int v5, .int (rI s 77 ((v3 + (-1)) - 1).toNatClampNeg), .int (rI s 77 (v3 + (-1)).toNatClampNeg)] (fun _ _ h => c_X9_joined (kl x) N w _ _ _ h) (g_cwS C hR ml_X9_313 sm_X9_joined ini_X9 cd_X9_joined hd_X9_joined (by decide)) rfl _ rfl (Nat.le_of_ble_eq_true rfl) dX9_holds_120 hf (fun r1 s1 hf => ?_)
    refine g_iast C kd_77 ln_77 (in_77 hS) dX9_holds_123 hf (fun hf => ?_)
    refine g_nameS hf (fun s2 hf => ?_)
    refine g_goto (tgt := 143) C dX9_holds_124 (by decide) ?_
    refine g_sub [1, 2, 3, 0, 4] rfl ?_
    exact j143 k20 k149 q20 q149 _ _ _ _ _ hf
  have j20 : ∀ (k149 : Mem → Option (Bool × Mem)), (∀ (s : Mem), k149 s = some (r, s') → G x (QB x w r s') 6 w 149 [(0, .ref (ad w 61))] [] s) → ∀ (n : Nat), ∀ (v1 : Int32) (v2 : Int32) (v3 : Int32) (v4 : Int32) (s : Mem), f_X9_holds_L20 N k149 n v1 v2 v3 v4 s = some (r, s') → G x (QB x w r s') 6 w 20 [(0, .ref (ad w 61)), (1, .int v1), (2, .int v2), (3, .int v3), (4, .int v4)] [] s := by
    intro k149 q149 n
    induction n with
    | zero => intro v1 v2 v3 v4 s hf; cases hf
    | succ n ih =>
      intro v1 v2 v3 v4 s hf
      unfold f_X9_holds_L20 at hf
      refine g_iload C dX9_holds_20 4 rfl ?_
      refine g_aload_n C dX9_holds_22 rfl 0 rfl ?_
      refine g_get C (R := RX9) (T := TX9) (N := 48) (k := 12) (v := .ref (ad w 68)) kd_61 (by decide) rfl (in_61 hS) hinX9 (by decide) fl_X9_28 rfl rfl dX9_holds_23 ?_
      refine g_iload_n C dX9_holds_26 rfl 1 rfl ?_
      refine g_iald C kd_68 ln_68 (in_68 hS) dX9_holds_27 hf (fun hf => ?_)
      refine g_icmp_ge (tgt := 149) C dX9_holds_28 (by decide) hf (fun hf => ?_) (fun hf => ?_)
      · refine g_sub [0] rfl ?_
        exact q149 _ hf
      · refine g_aload_n C dX9_holds_31 rfl 0 rfl ?_
        refine g_get C (R := RX9) (T := TX9) (N := 48) (k := 14) (v := .ref (ad w 70)) kd_61 (by decide) rfl (in_61 hS) hinX9 (by decide) fl_X9_34 rfl rfl dX9_holds_32 ?_
        refine g_iload C dX9_holds_35 4 rfl ?_
        refine g_iald C kd_70 ln_70 (in_70 hS) dX9_holds_37 hf (fun hf => ?_)
        refine g_istore (lv' := [(5, .int (rI s 70 v4.toNatClampNeg)), (0, .ref (ad w 61)), (1, .int v1), (2, .int v2), (3, .int v3), (4, .int v4)]) C dX9_holds_38 (by decide) rfl ?_
        refine g_iload C dX9_holds_40 0 rfl ?_
        refine g_bipush C (v := 7) dX9_holds_42 (by decide) ?_
        refine g_icmp_ne (tgt := 68) C dX9_holds_44 (by decide) hf (fun hf => ?_) (fun hf => ?_)
        · refine g_iload C dX9_holds_68 0 rfl ?_
          refine g_bipush C (v := 8) dX9_holds_70 (by decide) ?_
          refine g_icmp_eq (tgt := 94) C dX9_holds_72 (by decide) hf (fun hf => ?_) (fun hf => ?_)
          · refine g_sub [1, 2, 3, 4, 5, 0] rfl ?_
            exact j94 (f_X9_holds_L20 N k149 n) k149 ih q149 _ _ _ _ _ _ hf
          · refine g_iload C dX9_holds_75 0 rfl ?_
            refine g_bipush C (v := 9) dX9_holds_77 (by decide) ?_
            refine g_icmp_eq (tgt := 94) C dX9_holds_79 (by decide) hf (fun hf => ?_) (fun hf => ?_)
            · refine g_sub [1, 2, 3, 4, 5, 0] rfl ?_
              exact j94 (f_X9_holds_L20 N k149 n) k149 ih q149 _ _ _ _ _ _ hf
            · refine g_iload C dX9_holds_82 0 rfl ?_
              refine g_bipush C (v := 15) dX9_holds_84 (by decide) ?_
              refine g_bipush C (v := 17) dX9_holds_86 (by decide) ?_
              refine g_callSB C [.int (rI s 70 v4.toNatClampNeg), .int 15, .int 17] (fun _ _ h => c_X9_in (kl x) N w _ _ _ h) (g_cwS C hR ml_X9_93 sm_X9_in ini_X9 cd_X9_in hd_X9_in (by decide)) rfl _ rfl (Nat.le_of_ble_eq_true rfl) dX9_holds_88 hf (fun r1 s1 hf => ?_)
              refine g_ifeqB (tgt := 127) C dX9_holds_91 (by decide) hf (fun hf => ?_) (fun hf => ?_)
              · refine g_aload_n C dX9_holds_127 rfl 1 rfl ?_
                refine g_get C (R := RX9) (T := TX9) (N := 48) (k := 29) (v := .ref (ad w 77)) kd_61 (by decide) rfl (in_61 hS) hinX9 (by decide) fl_X9_55 rfl rfl dX9_holds_128 ?_
                refine g_iload_n C dX9_holds_131 rfl 4 rfl ?_
                refine g_aload_n C dX9_holds_132 rfl 1 rfl ?_
                refine g_iload C dX9_holds_133 0 rfl ?_
                refine g_iload_n C dX9_holds_135 rfl 3 rfl ?_
                refine g_callVI C (R := RX9) (T := TX9) (N := 48) [.int (rI s 70 v4.toNatClampNeg), .int v2] (fun _ _ h => c_X9_valueOf (kl x) N w hS _ _ h) (g_cwV C hR ml_X9_317 im_X9_valueOf sl_X9_valueOf ini_X9 cd_X9_valueOf hd_X9_valueOf (by decide)) kd_61 (by decide) rfl (in_61 hS) rfl _ rfl (Nat.le_of_ble_eq_true rfl) dX9_holds_136 hf (fun r2 s2 hf => ?_)
                refine g_iast C kd_77 ln_77 (in_77 hS) dX9_holds_139 hf (fun hf => ?_)
                refine g_nameS hf (fun s3 hf => ?_)
                refine g_iinc (v' := v3 + 1) (lv' := [(3, .int (v3 + 1)), (5, .int (rI s 70 v4.toNatClampNeg)), (0, .ref (ad w 61)), (1, .int v1), (2, .int v2), (4, .int v4)]) C dX9_holds_140 4 rfl rfl (by decide) rfl ?_
                refine g_sub [2, 3, 4, 0, 5] rfl ?_
                exact j143 (f_X9_holds_L20 N k149 n) k149 ih q149 _ _ _ _ _ hf
              · refine g_sub [1, 2, 3, 4, 5, 0] rfl ?_
                exact j94 (f_X9_holds_L20 N k149 n) k149 ih q149 _ _ _ _ _ _ hf
        · refine g_aload_n C dX9_holds_47 rfl 1 rfl ?_
          refine g_get C (R := RX9) (T := TX9) (N := 48) (k := 29) (v := .ref (ad w 77)) kd_61 (by decide) rfl (in_61 hS) hinX9 (by decide) fl_X9_55 rfl rfl dX9_holds_48 ?_
          refine g_iload_n C dX9_holds_51 rfl 4 rfl ?_
          refine g_iconst C (v := 1) dX9_holds_52 rfl ?_
          refine g_isub C dX9_holds_53 ?_
          refine g_iconst C (v := 1) dX9_holds_54 rfl ?_
          refine g_aload_n C dX9_holds_55 rfl 1 rfl ?_
          refine g_get C (R := RX9) (T := TX9) (N := 48) (k := 29) (v := .ref (ad w 77)) kd_61 (by decide) rfl (in_61 hS) hinX9 (by decide) fl_X9_55 rfl rfl dX9_holds_56 ?_
          refine g_iload_n C dX9_holds_59 rfl 4 rfl ?_
          refine g_iconst C (v := 1) dX9_holds_60 rfl ?_
          refine g_isub C dX9_holds_61 ?_
          refine g_iald C kd_77 ln_77 (in_77 hS) dX9_holds_62 hf (fun hf => ?_)
          refine g_isub C dX9_holds_63 ?_
          refine g_iast C kd_77 ln_77 (in_77 hS) dX9_holds_64 hf (fun hf => ?_)
          refine g_nameS hf (fun s4 hf => ?_)
          refine g_goto (tgt := 143) C dX9_holds_65 (by decide) ?_
          refine g_sub [1, 2, 3, 4, 5] rfl ?_
          exact j143 (f_X9_holds_L20 N k149 n) k149 ih q149 _ _ _ _ _ hf
  have j18 : ∀ (v1 : Int32) (v2 : Int32) (v3 : Bool) (p0 : Int32) (s : Mem), f_X9_holds_j18 N v1 v2 v3 p0 s = some (r, s') → G x (QB x w r s') 6 w 18 [(0, .ref (ad w 61)), (1, .int v1), (2, .int v2), (3, .int (bI v3))] [.int p0] s := by
    intro v1 v2 v3 p0 s hf
    unfold f_X9_holds_j18 at hf
    refine g_istore (lv' := [(4, .int p0), (0, .ref (ad w 61)), (1, .int v1), (2, .int v2), (3, .int (bI v3))]) C dX9_holds_18 (by decide) rfl ?_
    refine g_sub [1, 2, 3, 4, 0] rfl ?_
    exact j20 (f_X9_holds_j149 N) j149 N _ _ _ _ _ hf
  refine g_lv (lv' := [(0, .ref (ad w 61)), (1, .int a1), (2, .int a2)]) rfl ?_
  unfold f_X9_holds at hf
  refine g_iconst C (v := 0) dX9_holds_0 rfl ?_
  refine g_istore_n (lv' := [(3, .int 0), (0, .ref (ad w 61)), (1, .int a1), (2, .int a2)]) C dX9_holds_1 rfl (by decide) rfl ?_
  refine g_iload_n C dX9_holds_2 rfl 2 rfl ?_
  refine g_if_ne (tgt := 10) C dX9_holds_3 (by decide) hf (fun hf => ?_) (fun hf => ?_)
  · refine g_aload_n C dX9_holds_10 rfl 1 rfl ?_
    refine g_get C (R := RX9) (T := TX9) (N := 48) (k := 12) (v := .ref (ad w 68)) kd_61 (by decide) rfl (in_61 hS) hinX9 (by decide) fl_X9_28 rfl rfl dX9_holds_11 ?_
    refine g_iload_n C dX9_holds_14 rfl 2 rfl ?_
    refine g_iconst C (v := 1) dX9_holds_15 rfl ?_
    refine g_isub C dX9_holds_16 ?_
    refine g_iald C kd_68 ln_68 (in_68 hS) dX9_holds_17 hf (fun hf => ?_)
    refine g_sub [1, 2, 3, 0] rfl ?_
    exact j18 _ _ _ _ _ hf
  · refine g_iconst C (v := 0) dX9_holds_6 rfl ?_
    refine g_goto (tgt := 18) C dX9_holds_7 (by decide) ?_
    refine g_sub [1, 2, 3, 0] rfl ?_
    exact j18 _ _ _ _ _ hf

set_option maxHeartbeats 4000000 in
set_option maxRecDepth 100000 in
theorem c_X9_clauseOf (l : Launch) (N : Nat) (w : WX) (hS : SS w = Sm) (a1 : Int32) {s s' : Mem} {r : Int32} (hf : f_X9_clauseOf N a1 s = some (r, s')) : CI l yX9_clauseOf (wz yX9_clauseOf cX9_clauseOf 3 (some .int)) ({ frames := 8, cells := 0, slots := 0, locals := 194 } : Room) [.ref (ad w 61), .int a1] w s r s' := by
  refine met_startI (cc := cX9_clauseOf) (ret := (some .int)) (own := RX9) (maxL := 3) (by decide) rfl (Nat.le_of_ble_eq_true rfl) (fun x C hR hl => ?_)
  have j2 : ∀ (n : Nat), ∀ (v1 : Int32) (v2 : Int32) (s : Mem), f_X9_clauseOf_L2 N n v1 v2 s = some (r, s') → G x (QI x w r s') 3 w 2 [(0, .ref (ad w 61)), (1, .int v1), (2, .int v2)] [] s := by
    intro n
    induction n with
    | zero => intro v1 v2 s hf; cases hf
    | succ n ih =>
      intro v1 v2 s hf
      unfold f_X9_clauseOf_L2 at hf
      refine g_iload_n C dX9_clauseOf_2 rfl 2 rfl ?_
      refine g_aload_n C dX9_clauseOf_3 rfl 0 rfl ?_
      refine g_get C (R := RX9) (T := TX9) (N := 48) (k := 11) (v := .int (rI s 61 11)) kd_61 (by decide) rfl (in_61 hS) hinX9 (by decide) fl_X9_301 rfl rfl dX9_clauseOf_4 ?_
      refine g_icmp_ge (tgt := 27) C dX9_clauseOf_7 (by decide) hf (fun hf => ?_) (fun hf => ?_)
      · refine g_iconst C (v := (-1)) dX9_clauseOf_27 rfl ?_
        exact g_iret C dX9_clauseOf_28 hf
      · refine g_aload_n C dX9_clauseOf_10 rfl 0 rfl ?_
        refine g_iload_n C dX9_clauseOf_11 rfl 2 rfl ?_
        refine g_iload_n C dX9_clauseOf_12 rfl 1 rfl ?_
        refine g_callVB C (R := RX9) (T := TX9) (N := 48) [.int v2, .int v1] (fun _ _ h => c_X9_holds (kl x) N w hS _ _ h) (g_cwV C hR ml_X9_320 im_X9_holds sl_X9_holds ini_X9 cd_X9_holds hd_X9_holds (by decide)) kd_61 (by decide) rfl (in_61 hS) rfl _ rfl (Nat.le_of_ble_eq_true rfl) dX9_clauseOf_13 hf (fun r1 s1 hf => ?_)
        refine g_ifeqB (tgt := 21) C dX9_clauseOf_16 (by decide) hf (fun hf => ?_) (fun hf => ?_)
        · refine g_iinc (v' := v2 + 1) (lv' := [(2, .int (v2 + 1)), (0, .ref (ad w 61)), (1, .int v1)]) C dX9_clauseOf_21 2 rfl rfl (by decide) rfl ?_
          refine g_goto (tgt := 2) C dX9_clauseOf_24 (by decide) ?_
          refine g_sub [1, 2, 0] rfl ?_
          exact ih _ _ _ hf
        · refine g_iload_n C dX9_clauseOf_19 rfl 2 rfl ?_
          exact g_iret C dX9_clauseOf_20 hf
  refine g_lv (lv' := [(0, .ref (ad w 61)), (1, .int a1)]) rfl ?_
  unfold f_X9_clauseOf at hf
  refine g_iconst C (v := 0) dX9_clauseOf_0 rfl ?_
  refine g_istore_n (lv' := [(2, .int 0), (0, .ref (ad w 61)), (1, .int a1)]) C dX9_clauseOf_1 rfl (by decide) rfl ?_
  refine g_sub [1, 2, 0] rfl ?_
  exact j2 N _ _ _ hf

set_option maxHeartbeats 4000000 in
set_option maxRecDepth 100000 in
theorem c_X9_isTaken (l : Launch) (N : Nat) (w : WX) (hS : SS w = Sm) (a1 : Int32) {s s' : Mem} {r : Bool} (hf : f_X9_isTaken N a1 s = some (r, s')) : CB l yX9_isTaken (wz yX9_isTaken cX9_isTaken 3 (some .boolean)) ({ frames := 9, cells := 0, slots := 0, locals := 216 } : Room) [.ref (ad w 61), .int a1] w s r s' := by
  refine met_startB (cc := cX9_isTaken) (ret := (some .boolean)) (own := RX9) (maxL := 3) (by decide) rfl (Nat.le_of_ble_eq_true rfl) (fun x C hR hl => ?_)
  refine g_lv (lv' := [(0, .ref (ad w 61)), (1, .int a1)]) rfl ?_
  unfold f_X9_isTaken at hf
  refine g_aload_n C dX9_isTaken_0 rfl 0 rfl ?_
  refine g_iload_n C dX9_isTaken_1 rfl 1 rfl ?_
  refine g_callVI C (R := RX9) (T := TX9) (N := 48) [.int a1] (fun _ _ h => c_X9_clauseOf (kl x) N w hS _ h) (g_cwV C hR ml_X9_323 im_X9_clauseOf sl_X9_clauseOf ini_X9 cd_X9_clauseOf hd_X9_clauseOf (by decide)) kd_61 (by decide) rfl (in_61 hS) rfl _ rfl (Nat.le_of_ble_eq_true rfl) dX9_isTaken_2 hf (fun r1 s1 hf => ?_)
  refine g_istore_n (lv' := [(2, .int r1), (0, .ref (ad w 61)), (1, .int a1)]) C dX9_isTaken_5 rfl (by decide) rfl ?_
  refine g_iload_n C dX9_isTaken_6 rfl 0 rfl ?_
  refine g_if_lt (tgt := 24) C dX9_isTaken_7 (by decide) hf (fun hf => ?_) (fun hf => ?_)
  · refine g_iconst C (v := 0) dX9_isTaken_24 rfl ?_
    exact g_zret (v := false) C dX9_isTaken_25 hf
  · refine g_aload_n C dX9_isTaken_10 rfl 1 rfl ?_
    refine g_get C (R := RX9) (T := TX9) (N := 48) (k := 13) (v := .ref (ad w 69)) kd_61 (by decide) rfl (in_61 hS) hinX9 (by decide) fl_X9_31 rfl rfl dX9_isTaken_11 ?_
    refine g_iload_n C dX9_isTaken_14 rfl 0 rfl ?_
    refine g_iald C kd_69 ln_69 (in_69 hS) dX9_isTaken_15 hf (fun hf => ?_)
    refine g_iconst C (v := 1) dX9_isTaken_16 rfl ?_
    refine g_icmp_ne (tgt := 24) C dX9_isTaken_17 (by decide) hf (fun hf => ?_) (fun hf => ?_)
    · refine g_iconst C (v := 0) dX9_isTaken_24 rfl ?_
      exact g_zret (v := false) C dX9_isTaken_25 hf
    · refine g_iconst C (v := 1) dX9_isTaken_20 rfl ?_
      refine g_goto (tgt := 25) C dX9_isTaken_21 (by decide) ?_
      exact g_zret (v := true) C dX9_isTaken_25 hf

set_option maxHeartbeats 4000000 in
set_option maxRecDepth 100000 in
theorem c_X9_takes (l : Launch) (N : Nat) (w : WX) (hS : SS w = Sm) (a1 : Int32) {s s' : Mem} {r : Int32} (hf : f_X9_takes N a1 s = some (r, s')) : CI l yX9_takes (wz yX9_takes cX9_takes 2 (some .int)) ({ frames := 10, cells := 0, slots := 0, locals := 238 } : Room) [.ref (ad w 61), .int a1] w s r s' := by
  refine met_startI (cc := cX9_takes) (ret := (some .int)) (own := RX9) (maxL := 2) (by decide) rfl (Nat.le_of_ble_eq_true rfl) (fun x C hR hl => ?_)
  refine g_lv (lv' := [(0, .ref (ad w 61)), (1, .int a1)]) rfl ?_
  unfold f_X9_takes at hf
  refine g_aload_n C dX9_takes_0 rfl 0 rfl ?_
  refine g_iload_n C dX9_takes_1 rfl 1 rfl ?_
  refine g_callVB C (R := RX9) (T := TX9) (N := 48) [.int a1] (fun _ _ h => c_X9_isPerson (kl x) N w hS _ h) (g_cwV C hR ml_X9_100 im_X9_isPerson sl_X9_isPerson ini_X9 cd_X9_isPerson hd_X9_isPerson (by decide)) kd_61 (by decide) rfl (in_61 hS) rfl _ rfl (Nat.le_of_ble_eq_true rfl) dX9_takes_2 hf (fun r1 s1 hf => ?_)
  refine g_ifneB (tgt := 12) C dX9_takes_5 (by decide) hf (fun hf => ?_) (fun hf => ?_)
  · refine g_aload_n C dX9_takes_12 rfl 0 rfl ?_
    refine g_iload_n C dX9_takes_13 rfl 1 rfl ?_
    refine g_callVB C (R := RX9) (T := TX9) (N := 48) [.int a1] (fun _ _ h => c_X9_isTaken (kl x) N w hS _ h) (g_cwV C hR ml_X9_326 im_X9_isTaken sl_X9_isTaken ini_X9 cd_X9_isTaken hd_X9_isTaken (by decide)) kd_61 (by decide) rfl (in_61 hS) rfl _ rfl (Nat.le_of_ble_eq_true rfl) dX9_takes_14 hf (fun r2 s2 hf => ?_)
    refine g_ifeqB (tgt := 24) C dX9_takes_17 (by decide) hf (fun hf => ?_) (fun hf => ?_)
    · refine g_iconst C (v := 0) dX9_takes_24 rfl ?_
      exact g_iret C dX9_takes_25 hf
    · refine g_iconst C (v := 1) dX9_takes_20 rfl ?_
      refine g_goto (tgt := 25) C dX9_takes_21 (by decide) ?_
      exact g_iret C dX9_takes_25 hf
  · refine g_iconst C (v := (-1)) dX9_takes_8 rfl ?_
    refine g_goto (tgt := 25) C dX9_takes_9 (by decide) ?_
    exact g_iret C dX9_takes_25 hf

set_option maxHeartbeats 4000000 in
set_option maxRecDepth 100000 in
theorem c_X9_clause (l : Launch) (N : Nat) (w : WX) (hS : SS w = Sm) (a1 : Int32) {s s' : Mem} {r : Int32} (hf : f_X9_clause N a1 s = some (r, s')) : CI l yX9_clause (wz yX9_clause cX9_clause 3 (some .int)) ({ frames := 9, cells := 0, slots := 0, locals := 216 } : Room) [.ref (ad w 61), .int a1] w s r s' := by
  refine met_startI (cc := cX9_clause) (ret := (some .int)) (own := RX9) (maxL := 3) (by decide) rfl (Nat.le_of_ble_eq_true rfl) (fun x C hR hl => ?_)
  refine g_lv (lv' := [(0, .ref (ad w 61)), (1, .int a1)]) rfl ?_
  unfold f_X9_clause at hf
  refine g_aload_n C dX9_clause_0 rfl 0 rfl ?_
  refine g_iload_n C dX9_clause_1 rfl 1 rfl ?_
  refine g_callVB C (R := RX9) (T := TX9) (N := 48) [.int a1] (fun _ _ h => c_X9_isPerson (kl x) N w hS _ h) (g_cwV C hR ml_X9_100 im_X9_isPerson sl_X9_isPerson ini_X9 cd_X9_isPerson hd_X9_isPerson (by decide)) kd_61 (by decide) rfl (in_61 hS) rfl _ rfl (Nat.le_of_ble_eq_true rfl) dX9_clause_2 hf (fun r1 s1 hf => ?_)
  refine g_ifneB (tgt := 10) C dX9_clause_5 (by decide) hf (fun hf => ?_) (fun hf => ?_)
  · refine g_aload_n C dX9_clause_10 rfl 0 rfl ?_
    refine g_iload_n C dX9_clause_11 rfl 1 rfl ?_
    refine g_callVI C (R := RX9) (T := TX9) (N := 48) [.int a1] (fun _ _ h => c_X9_clauseOf (kl x) N w hS _ h) (g_cwV C hR ml_X9_323 im_X9_clauseOf sl_X9_clauseOf ini_X9 cd_X9_clauseOf hd_X9_clauseOf (by decide)) kd_61 (by decide) rfl (in_61 hS) rfl _ rfl (Nat.le_of_ble_eq_true rfl) dX9_clause_12 hf (fun r2 s2 hf => ?_)
    refine g_istore_n (lv' := [(2, .int r2), (0, .ref (ad w 61)), (1, .int a1)]) C dX9_clause_15 rfl (by decide) rfl ?_
    refine g_iload_n C dX9_clause_16 rfl 0 rfl ?_
    refine g_if_ge (tgt := 25) C dX9_clause_17 (by decide) hf (fun hf => ?_) (fun hf => ?_)
    · refine g_iload_n C dX9_clause_25 rfl 0 rfl ?_
      exact g_iret C dX9_clause_26 hf
    · refine g_bipush C (v := (-3)) dX9_clause_20 (by decide) ?_
      refine g_goto (tgt := 26) C dX9_clause_22 (by decide) ?_
      exact g_iret C dX9_clause_26 hf
  · refine g_iconst C (v := (-1)) dX9_clause_8 rfl ?_
    exact g_iret C dX9_clause_9 hf

set_option maxHeartbeats 4000000 in
set_option maxRecDepth 100000 in
theorem c_X9_truth (l : Launch) (N : Nat) (w : WX) (hS : SS w = Sm) (a1 : Int32) (a2 : Int32) {s s' : Mem} {r : Int32} (hf : f_X9_truth N a1 a2 s = some (r, s')) : CI l yX9_truth (wz yX9_truth cX9_truth 3 (some .int)) ({ frames := 2, cells := 0, slots := 0, locals := 43 } : Room) [.ref (ad w 61), .int a1, .int a2] w s r s' := by
  refine met_startI (cc := cX9_truth) (ret := (some .int)) (own := RX9) (maxL := 3) (by decide) rfl (Nat.le_of_ble_eq_true rfl) (fun x C hR hl => ?_)
  refine g_lv (lv' := [(0, .ref (ad w 61)), (1, .int a1), (2, .int a2)]) rfl ?_
  unfold f_X9_truth at hf
  refine g_aload_n C dX9_truth_0 rfl 0 rfl ?_
  refine g_iload_n C dX9_truth_1 rfl 1 rfl ?_
  refine g_callVB C (R := RX9) (T := TX9) (N := 48) [.int a1] (fun _ _ h => c_X9_isPerson (kl x) N w hS _ h) (g_cwV C hR ml_X9_100 im_X9_isPerson sl_X9_isPerson ini_X9 cd_X9_isPerson hd_X9_isPerson (by decide)) kd_61 (by decide) rfl (in_61 hS) rfl _ rfl (Nat.le_of_ble_eq_true rfl) dX9_truth_2 hf (fun r1 s1 hf => ?_)
  refine g_ifeqB (tgt := 19) C dX9_truth_5 (by decide) hf (fun hf => ?_) (fun hf => ?_)
  · refine g_iconst C (v := (-1)) dX9_truth_19 rfl ?_
    exact g_iret C dX9_truth_20 hf
  · refine g_iload_n C dX9_truth_8 rfl 2 rfl ?_
    refine g_iconst C (v := (-1)) dX9_truth_9 rfl ?_
    refine g_sipush C (v := 160) dX9_truth_10 (by decide) ?_
    refine g_callSB C [.int a2, .int (-1), .int 160] (fun _ _ h => c_X9_in (kl x) N w _ _ _ h) (g_cwS C hR ml_X9_93 sm_X9_in ini_X9 cd_X9_in hd_X9_in (by decide)) rfl _ rfl (Nat.le_of_ble_eq_true rfl) dX9_truth_13 hf (fun r2 s2 hf => ?_)
    refine g_ifneB (tgt := 21) C dX9_truth_16 (by decide) hf (fun hf => ?_) (fun hf => ?_)
    · refine g_aload_n C dX9_truth_21 rfl 0 rfl ?_
      refine g_get C (R := RX9) (T := TX9) (N := 48) (k := 1) (v := .ref (ad w 62)) kd_61 (by decide) rfl (in_61 hS) hinX9 (by decide) fl_X9_7 rfl rfl dX9_truth_22 ?_
      refine g_iconst C (v := 4) dX9_truth_25 rfl ?_
      refine g_iload_n C dX9_truth_26 rfl 1 rfl ?_
      refine g_imul C dX9_truth_27 ?_
      refine g_iconst C (v := 3) dX9_truth_28 rfl ?_
      refine g_iadd C dX9_truth_29 ?_
      refine g_iload_n C dX9_truth_30 rfl 2 rfl ?_
      refine g_if_ge (tgt := 39) C dX9_truth_31 (by decide) hf (fun hf => ?_) (fun hf => ?_)
      · refine g_iload_n C dX9_truth_39 rfl 2 rfl ?_
        refine g_iast C kd_62 ln_62 (in_62 hS) dX9_truth_40 hf (fun hf => ?_)
        refine g_nameS hf (fun s3 hf => ?_)
        refine g_iconst C (v := 1) dX9_truth_41 rfl ?_
        exact g_iret C dX9_truth_42 hf
      · refine g_bipush C (v := (-9)) dX9_truth_34 (by decide) ?_
        refine g_goto (tgt := 40) C dX9_truth_36 (by decide) ?_
        refine g_iast C kd_62 ln_62 (in_62 hS) dX9_truth_40 hf (fun hf => ?_)
        refine g_nameS hf (fun s4 hf => ?_)
        refine g_iconst C (v := 1) dX9_truth_41 rfl ?_
        exact g_iret C dX9_truth_42 hf
    · refine g_iconst C (v := (-1)) dX9_truth_19 rfl ?_
      exact g_iret C dX9_truth_20 hf

set_option maxHeartbeats 4000000 in
set_option maxRecDepth 100000 in
theorem c_X9_errs (l : Launch) (N : Nat) (w : WX) (hS : SS w = Sm) (a1 : Int32) (a2 : Int32) {s s' : Mem} {r : Int32} (hf : f_X9_errs N a1 a2 s = some (r, s')) : CI l yX9_errs (wz yX9_errs cX9_errs 7 (some .int)) ({ frames := 10, cells := 0, slots := 0, locals := 238 } : Room) [.ref (ad w 61), .int a1, .int a2] w s r s' := by
  refine met_startI (cc := cX9_errs) (ret := (some .int)) (own := RX9) (maxL := 7) (by decide) rfl (Nat.le_of_ble_eq_true rfl) (fun x C hR hl => ?_)
  have j104 : ∀ (k23 : Int32 → Int32 → Int32 → Int32 → Mem → Option (Int32 × Mem)), (∀ (v1 : Int32) (v2 : Int32) (v3 : Int32) (v4 : Int32) (s : Mem), k23 v1 v2 v3 v4 s = some (r, s') → G x (QI x w r s') 7 w 23 [(0, .ref (ad w 61)), (1, .int v1), (2, .int v2), (3, .int v3), (4, .int v4)] [] s) → ∀ (v1 : Int32) (v2 : Int32) (v3 : Int32) (v4 : Int32) (s : Mem), f_X9_errs_j104 N k23 v1 v2 v3 v4 s = some (r, s') → G x (QI x w r s') 7 w 104 [(0, .ref (ad w 61)), (1, .int v1), (2, .int v2), (3, .int v3), (4, .int v4)] [] s := by
    intro k23 q23 v1 v2 v3 v4 s hf
    unfold f_X9_errs_j104 at hf
    refine g_iinc (v' := v4 + 1) (lv' := [(4, .int (v4 + 1)), (0, .ref (ad w 61)), (1, .int v1), (2, .int v2), (3, .int v3)]) C dX9_errs_104 4 rfl rfl (by decide) rfl ?_
    refine g_goto (tgt := 23) C dX9_errs_107 (by decide) ?_
    refine g_sub [1, 2, 3, 4, 0] rfl ?_
    exact q23 _ _ _ _ _ hf
  have j102 : ∀ (k23 : Int32 → Int32 → Int32 → Int32 → Mem → Option (Int32 × Mem)), (∀ (v1 : Int32) (v2 : Int32) (v3 : Int32) (v4 : Int32) (s : Mem), k23 v1 v2 v3 v4 s = some (r, s') → G x (QI x w r s') 7 w 23 [(0, .ref (ad w 61)), (1, .int v1), (2, .int v2), (3, .int v3), (4, .int v4)] [] s) → ∀ (v1 : Int32) (v2 : Int32) (v4 : Int32) (p0 : Bool) (p1 : Int32) (s : Mem), f_X9_errs_j102 N k23 v1 v2 v4 p0 p1 s = some (r, s') → G x (QI x w r s') 7 w 102 [(0, .ref (ad w 61)), (1, .int v1), (2, .int v2), (4, .int v4)] [.int (bI p0), .int p1] s := by
    intro k23 q23 v1 v2 v4 p0 p1 s hf
    unfold f_X9_errs_j102 at hf
    refine g_iadd C dX9_errs_102 ?_
    refine g_istore_n (lv' := [(3, .int (p1 + (bI p0))), (0, .ref (ad w 61)), (1, .int v1), (2, .int v2), (4, .int v4)]) C dX9_errs_103 rfl (by decide) rfl ?_
    refine g_sub [1, 2, 3, 0, 4] rfl ?_
    exact j104 k23 q23 _ _ _ _ _ hf
  have j101 : ∀ (k23 : Int32 → Int32 → Int32 → Int32 → Mem → Option (Int32 × Mem)), (∀ (v1 : Int32) (v2 : Int32) (v3 : Int32) (v4 : Int32) (s : Mem), k23 v1 v2 v3 v4 s = some (r, s') → G x (QI x w r s') 7 w 23 [(0, .ref (ad w 61)), (1, .int v1), (2, .int v2), (3, .int v3), (4, .int v4)] [] s) → ∀ (v1 : Int32) (v2 : Int32) (v4 : Int32) (p0 : Int32) (s : Mem), f_X9_errs_j101 N k23 v1 v2 v4 p0 s = some (r, s') → G x (QI x w r s') 7 w 101 [(0, .ref (ad w 61)), (1, .int v1), (2, .int v2), (4, .int v4)] [.int p0] s := by
    intro k23 q23 v1 v2 v4 p0 s hf
    unfold f_X9_errs_j101 at hf
    refine g_iconst C (v := 0) dX9_errs_101 rfl ?_
    exact j102 k23 q23 _ _ _ _ _ _ hf
  have j83 : ∀ (k23 : Int32 → Int32 → Int32 → Int32 → Mem → Option (Int32 × Mem)), (∀ (v1 : Int32) (v2 : Int32) (v3 : Int32) (v4 : Int32) (s : Mem), k23 v1 v2 v3 v4 s = some (r, s') → G x (QI x w r s') 7 w 23 [(0, .ref (ad w 61)), (1, .int v1), (2, .int v2), (3, .int v3), (4, .int v4)] [] s) → ∀ (v1 : Int32) (v2 : Int32) (v4 : Int32) (v6 : Bool) (p0 : Bool) (p1 : Bool) (p2 : Int32) (s : Mem), f_X9_errs_j83 N k23 v1 v2 v4 v6 p0 p1 p2 s = some (r, s') → G x (QI x w r s') 7 w 83 [(0, .ref (ad w 61)), (1, .int v1), (2, .int v2), (4, .int v4), (6, .int (bI v6))] [.int (bI p0), .int (bI p1), .int p2] s := by
    intro k23 q23 v1 v2 v4 v6 p0 p1 p2 s hf
    unfold f_X9_errs_j83 at hf
    refine g_icmp_ne (tgt := 101) C dX9_errs_83 (by decide) hf (fun hf => ?_) (fun hf => ?_)
    · refine g_sub [0, 1, 2, 3] rfl ?_
      exact j101 k23 q23 _ _ _ _ _ hf
    · refine g_aload_n C dX9_errs_86 rfl 0 rfl ?_
      refine g_iload C dX9_errs_87 3 rfl ?_
      refine g_callVB C (R := RX9) (T := TX9) (N := 48) [.int v4] (fun _ _ h => c_X9_isTaken (kl x) N w hS _ h) (g_cwV C hR ml_X9_326 im_X9_isTaken sl_X9_isTaken ini_X9 cd_X9_isTaken hd_X9_isTaken (by decide)) kd_61 (by decide) rfl (in_61 hS) rfl _ rfl (Nat.le_of_ble_eq_true rfl) dX9_errs_89 hf (fun r1 s1 hf => ?_)
      refine g_iload C dX9_errs_92 4 rfl ?_
      refine g_icmp_eq (tgt := 101) C dX9_errs_94 (by decide) hf (fun hf => ?_) (fun hf => ?_)
      · refine g_sub [0, 1, 2, 3] rfl ?_
        exact j101 k23 q23 _ _ _ _ _ hf
      · refine g_iconst C (v := 1) dX9_errs_97 rfl ?_
        refine g_goto (tgt := 102) C dX9_errs_98 (by decide) ?_
        refine g_sub [0, 1, 2, 3] rfl ?_
        exact j102 k23 q23 _ _ _ _ _ _ hf
  have j68 : ∀ (k23 : Int32 → Int32 → Int32 → Int32 → Mem → Option (Int32 × Mem)), (∀ (v1 : Int32) (v2 : Int32) (v3 : Int32) (v4 : Int32) (s : Mem), k23 v1 v2 v3 v4 s = some (r, s') → G x (QI x w r s') 7 w 23 [(0, .ref (ad w 61)), (1, .int v1), (2, .int v2), (3, .int v3), (4, .int v4)] [] s) → ∀ (v1 : Int32) (v2 : Int32) (v3 : Int32) (v4 : Int32) (p0 : Bool) (s : Mem), f_X9_errs_j68 N k23 v1 v2 v3 v4 p0 s = some (r, s') → G x (QI x w r s') 7 w 68 [(0, .ref (ad w 61)), (1, .int v1), (2, .int v2), (3, .int v3), (4, .int v4)] [.int (bI p0)] s := by
    intro k23 q23 v1 v2 v3 v4 p0 s hf
    unfold f_X9_errs_j68 at hf
    refine g_istore (lv' := [(6, .int (bI p0)), (0, .ref (ad w 61)), (1, .int v1), (2, .int v2), (3, .int v3), (4, .int v4)]) C dX9_errs_68 (by decide) rfl ?_
    refine g_iload_n C dX9_errs_70 rfl 4 rfl ?_
    refine g_iload C dX9_errs_71 0 rfl ?_
    refine g_iload_n C dX9_errs_73 rfl 3 rfl ?_
    refine g_iconst C (v := 1) dX9_errs_74 rfl ?_
    refine g_icmp_ne (tgt := 82) C dX9_errs_75 (by decide) hf (fun hf => ?_) (fun hf => ?_)
    · refine g_iconst C (v := 0) dX9_errs_82 rfl ?_
      refine g_sub [1, 2, 3, 5, 0] rfl ?_
      exact j83 k23 q23 _ _ _ _ _ _ _ _ hf
    · refine g_iconst C (v := 1) dX9_errs_78 rfl ?_
      refine g_goto (tgt := 83) C dX9_errs_79 (by decide) ?_
      refine g_sub [1, 2, 3, 5, 0] rfl ?_
      exact j83 k23 q23 _ _ _ _ _ _ _ _ hf
  have j23 : ∀ (n : Nat), ∀ (v1 : Int32) (v2 : Int32) (v3 : Int32) (v4 : Int32) (s : Mem), f_X9_errs_L23 N n v1 v2 v3 v4 s = some (r, s') → G x (QI x w r s') 7 w 23 [(0, .ref (ad w 61)), (1, .int v1), (2, .int v2), (3, .int v3), (4, .int v4)] [] s := by
    intro n
    induction n with
    | zero => intro v1 v2 v3 v4 s hf; cases hf
    | succ n ih =>
      intro v1 v2 v3 v4 s hf
      unfold f_X9_errs_L23 at hf
      refine g_iload C dX9_errs_23 4 rfl ?_
      refine g_aload_n C dX9_errs_25 rfl 0 rfl ?_
      refine g_get C (R := RX9) (T := TX9) (N := 48) (k := 0) (v := .int (rI s 61 0)) kd_61 (by decide) rfl (in_61 hS) hinX9 (by decide) fl_X9_89 rfl rfl dX9_errs_26 ?_
      refine g_icmp_ge (tgt := 110) C dX9_errs_29 (by decide) hf (fun hf => ?_) (fun hf => ?_)
      · refine g_iload_n C dX9_errs_110 rfl 3 rfl ?_
        exact g_iret C dX9_errs_111 hf
      · refine g_aload_n C dX9_errs_32 rfl 0 rfl ?_
        refine g_get C (R := RX9) (T := TX9) (N := 48) (k := 1) (v := .ref (ad w 62)) kd_61 (by decide) rfl (in_61 hS) hinX9 (by decide) fl_X9_7 rfl rfl dX9_errs_33 ?_
        refine g_iconst C (v := 4) dX9_errs_36 rfl ?_
        refine g_iload C dX9_errs_37 4 rfl ?_
        refine g_imul C dX9_errs_39 ?_
        refine g_iconst C (v := 3) dX9_errs_40 rfl ?_
        refine g_iadd C dX9_errs_41 ?_
        refine g_iald C kd_62 ln_62 (in_62 hS) dX9_errs_42 hf (fun hf => ?_)
        refine g_istoreN (lv' := fun x1 => [(5, .int x1), (0, .ref (ad w 61)), (1, .int v1), (2, .int v2), (3, .int v3), (4, .int v4)]) C dX9_errs_43 (by decide) (fun _ => rfl) hf (fun x1 hf => ?_)
        refine g_iload C dX9_errs_45 0 rfl ?_
        refine g_if_lt (tgt := 104) C dX9_errs_47 (by decide) hf (fun hf => ?_) (fun hf => ?_)
        · refine g_sub [1, 2, 3, 4, 5] rfl ?_
          exact j104 (f_X9_errs_L23 N n) ih _ _ _ _ _ hf
        · refine g_aload_n C dX9_errs_50 rfl 1 rfl ?_
          refine g_iload C dX9_errs_51 5 rfl ?_
          refine g_callVI C (R := RX9) (T := TX9) (N := 48) [.int v4] (fun _ _ h => c_X9_seenOf (kl x) N w hS _ h) (g_cwV C hR ml_X9_104 im_X9_seenOf sl_X9_seenOf ini_X9 cd_X9_seenOf hd_X9_seenOf (by decide)) kd_61 (by decide) rfl (in_61 hS) rfl _ rfl (Nat.le_of_ble_eq_true rfl) dX9_errs_53 hf (fun r2 s2 hf => ?_)
          refine g_iload C dX9_errs_56 0 rfl ?_
          refine g_isub C dX9_errs_58 ?_
          refine g_iload_n C dX9_errs_59 rfl 2 rfl ?_
          refine g_icmp_lt (tgt := 67) C dX9_errs_60 (by decide) hf (fun hf => ?_) (fun hf => ?_)
          · refine g_iconst C (v := 0) dX9_errs_67 rfl ?_
            refine g_sub [1, 2, 3, 4, 5] rfl ?_
            exact j68 (f_X9_errs_L23 N n) ih _ _ _ _ _ _ hf
          · refine g_iconst C (v := 1) dX9_errs_63 rfl ?_
            refine g_goto (tgt := 68) C dX9_errs_64 (by decide) ?_
            refine g_sub [1, 2, 3, 4, 5] rfl ?_
            exact j68 (f_X9_errs_L23 N n) ih _ _ _ _ _ _ hf
  refine g_lv (lv' := [(0, .ref (ad w 61)), (1, .int a1), (2, .int a2)]) rfl ?_
  unfold f_X9_errs at hf
  refine g_iload_n C dX9_errs_0 rfl 1 rfl ?_
  refine g_callSB C [.int a1] (fun _ _ h => c_X9_isYear (kl x) N w _ h) (g_cwS C hR ml_X9_111 sm_X9_isYear ini_X9 cd_X9_isYear hd_X9_isYear (by decide)) rfl _ rfl (Nat.le_of_ble_eq_true rfl) dX9_errs_1 hf (fun r1 s1 hf => ?_)
  refine g_ifeqB (tgt := 16) C dX9_errs_4 (by decide) hf (fun hf => ?_) (fun hf => ?_)
  · refine g_iconst C (v := (-1)) dX9_errs_16 rfl ?_
    exact g_iret C dX9_errs_17 hf
  · refine g_iload_n C dX9_errs_7 rfl 2 rfl ?_
    refine g_iconst C (v := 0) dX9_errs_8 rfl ?_
    refine g_iconst C (v := 1) dX9_errs_9 rfl ?_
    refine g_callSB C [.int a2, .int 0, .int 1] (fun _ _ h => c_X9_in (kl x) N w _ _ _ h) (g_cwS C hR ml_X9_93 sm_X9_in ini_X9 cd_X9_in hd_X9_in (by decide)) rfl _ rfl (Nat.le_of_ble_eq_true rfl) dX9_errs_10 hf (fun r2 s2 hf => ?_)
    refine g_ifneB (tgt := 18) C dX9_errs_13 (by decide) hf (fun hf => ?_) (fun hf => ?_)
    · refine g_iconst C (v := 0) dX9_errs_18 rfl ?_
      refine g_istore_n (lv' := [(3, .int 0), (0, .ref (ad w 61)), (1, .int a1), (2, .int a2)]) C dX9_errs_19 rfl (by decide) rfl ?_
      refine g_iconst C (v := 0) dX9_errs_20 rfl ?_
      refine g_istore (lv' := [(4, .int 0), (3, .int 0), (0, .ref (ad w 61)), (1, .int a1), (2, .int a2)]) C dX9_errs_21 (by decide) rfl ?_
      refine g_sub [2, 3, 4, 1, 0] rfl ?_
      exact j23 N _ _ _ _ _ hf
    · refine g_iconst C (v := (-1)) dX9_errs_16 rfl ?_
      exact g_iret C dX9_errs_17 hf

set_option maxHeartbeats 4000000 in
set_option maxRecDepth 100000 in
theorem c_X9_draw (l : Launch) (N : Nat) (w : WX) (hS : SS w = Sm) (a1 : Int32) (a2 : Int32) (a3 : Int32) (a4 : Int32) {s s' : Mem} {r : Int32} (hf : f_X9_draw N a1 a2 a3 a4 s = some (r, s')) : CI l yX9_draw (wz yX9_draw cX9_draw 5 (some .int)) ({ frames := 2, cells := 0, slots := 0, locals := 43 } : Room) [.ref (ad w 61), .int a1, .int a2, .int a3, .int a4] w s r s' := by
  refine met_startI (cc := cX9_draw) (ret := (some .int)) (own := RX9) (maxL := 5) (by decide) rfl (Nat.le_of_ble_eq_true rfl) (fun x C hR hl => ?_)
  refine g_lv (lv' := [(0, .ref (ad w 61)), (1, .int a1), (2, .int a2), (3, .int a3), (4, .int a4)]) rfl ?_
  unfold f_X9_draw at hf
  refine g_aload_n C dX9_draw_0 rfl 0 rfl ?_
  refine g_iload_n C dX9_draw_1 rfl 1 rfl ?_
  refine g_callVB C (R := RX9) (T := TX9) (N := 48) [.int a1] (fun _ _ h => c_X9_isPerson (kl x) N w hS _ h) (g_cwV C hR ml_X9_100 im_X9_isPerson sl_X9_isPerson ini_X9 cd_X9_isPerson hd_X9_isPerson (by decide)) kd_61 (by decide) rfl (in_61 hS) rfl _ rfl (Nat.le_of_ble_eq_true rfl) dX9_draw_2 hf (fun r1 s1 hf => ?_)
  refine g_ifeqB (tgt := 38) C dX9_draw_5 (by decide) hf (fun hf => ?_) (fun hf => ?_)
  · refine g_iconst C (v := (-1)) dX9_draw_38 rfl ?_
    exact g_iret C dX9_draw_39 hf
  · refine g_iload_n C dX9_draw_8 rfl 2 rfl ?_
    refine g_callSB C [.int a2] (fun _ _ h => c_X9_isYear (kl x) N w _ h) (g_cwS C hR ml_X9_111 sm_X9_isYear ini_X9 cd_X9_isYear hd_X9_isYear (by decide)) rfl _ rfl (Nat.le_of_ble_eq_true rfl) dX9_draw_9 hf (fun r2 s2 hf => ?_)
    refine g_ifeqB (tgt := 38) C dX9_draw_12 (by decide) hf (fun hf => ?_) (fun hf => ?_)
    · refine g_iconst C (v := (-1)) dX9_draw_38 rfl ?_
      exact g_iret C dX9_draw_39 hf
    · refine g_iload_n C dX9_draw_15 rfl 3 rfl ?_
      refine g_callSB C [.int a3] (fun _ _ h => c_X9_isYear (kl x) N w _ h) (g_cwS C hR ml_X9_111 sm_X9_isYear ini_X9 cd_X9_isYear hd_X9_isYear (by decide)) rfl _ rfl (Nat.le_of_ble_eq_true rfl) dX9_draw_16 hf (fun r3 s3 hf => ?_)
      refine g_ifeqB (tgt := 38) C dX9_draw_19 (by decide) hf (fun hf => ?_) (fun hf => ?_)
      · refine g_iconst C (v := (-1)) dX9_draw_38 rfl ?_
        exact g_iret C dX9_draw_39 hf
      · refine g_iload_n C dX9_draw_22 rfl 2 rfl ?_
        refine g_iload_n C dX9_draw_23 rfl 3 rfl ?_
        refine g_icmp_gt (tgt := 38) C dX9_draw_24 (by decide) hf (fun hf => ?_) (fun hf => ?_)
        · refine g_iconst C (v := (-1)) dX9_draw_38 rfl ?_
          exact g_iret C dX9_draw_39 hf
        · refine g_iload C dX9_draw_27 4 rfl ?_
          refine g_iconst C (v := 1) dX9_draw_29 rfl ?_
          refine g_bipush C (v := 99) dX9_draw_30 (by decide) ?_
          refine g_callSB C [.int a4, .int 1, .int 99] (fun _ _ h => c_X9_in (kl x) N w _ _ _ h) (g_cwS C hR ml_X9_93 sm_X9_in ini_X9 cd_X9_in hd_X9_in (by decide)) rfl _ rfl (Nat.le_of_ble_eq_true rfl) dX9_draw_32 hf (fun r4 s4 hf => ?_)
          refine g_ifneB (tgt := 40) C dX9_draw_35 (by decide) hf (fun hf => ?_) (fun hf => ?_)
          · refine g_aload_n C dX9_draw_40 rfl 0 rfl ?_
            refine g_get C (R := RX9) (T := TX9) (N := 48) (k := 7) (v := .int (rI s4 61 7)) kd_61 (by decide) rfl (in_61 hS) hinX9 (by decide) fl_X9_329 rfl rfl dX9_draw_41 ?_
            refine g_bipush C (v := 20) dX9_draw_44 (by decide) ?_
            refine g_icmp_ne (tgt := 52) C dX9_draw_46 (by decide) hf (fun hf => ?_) (fun hf => ?_)
            · refine g_aload_n C dX9_draw_52 rfl 0 rfl ?_
              refine g_get C (R := RX9) (T := TX9) (N := 48) (k := 8) (v := .ref (ad w 66)) kd_61 (by decide) rfl (in_61 hS) hinX9 (by decide) fl_X9_22 rfl rfl dX9_draw_53 ?_
              refine g_iconst C (v := 4) dX9_draw_56 rfl ?_
              refine g_aload_n C dX9_draw_57 rfl 0 rfl ?_
              refine g_get C (R := RX9) (T := TX9) (N := 48) (k := 7) (v := .int (rI s4 61 7)) kd_61 (by decide) rfl (in_61 hS) hinX9 (by decide) fl_X9_329 rfl rfl dX9_draw_58 ?_
              refine g_imul C dX9_draw_61 ?_
              refine g_iload_n C dX9_draw_62 rfl 1 rfl ?_
              refine g_iast C kd_66 ln_66 (in_66 hS) dX9_draw_63 hf (fun hf => ?_)
              refine g_nameS hf (fun s5 hf => ?_)
              refine g_aload_n C dX9_draw_64 rfl 0 rfl ?_
              refine g_get C (R := RX9) (T := TX9) (N := 48) (k := 8) (v := .ref (ad w 66)) kd_61 (by decide) rfl (in_61 hS) hinX9 (by decide) fl_X9_22 rfl rfl dX9_draw_65 ?_
              refine g_iconst C (v := 4) dX9_draw_68 rfl ?_
              refine g_aload_n C dX9_draw_69 rfl 0 rfl ?_
              refine g_get C (R := RX9) (T := TX9) (N := 48) (k := 7) (v := .int (rI s5 61 7)) kd_61 (by decide) rfl (in_61 hS) hinX9 (by decide) fl_X9_329 rfl rfl dX9_draw_70 ?_
              refine g_imul C dX9_draw_73 ?_
              refine g_iconst C (v := 1) dX9_draw_74 rfl ?_
              refine g_iadd C dX9_draw_75 ?_
              refine g_iload_n C dX9_draw_76 rfl 2 rfl ?_
              refine g_iast C kd_66 ln_66 (in_66 hS) dX9_draw_77 hf (fun hf => ?_)
              refine g_nameS hf (fun s6 hf => ?_)
              refine g_aload_n C dX9_draw_78 rfl 0 rfl ?_
              refine g_get C (R := RX9) (T := TX9) (N := 48) (k := 8) (v := .ref (ad w 66)) kd_61 (by decide) rfl (in_61 hS) hinX9 (by decide) fl_X9_22 rfl rfl dX9_draw_79 ?_
              refine g_iconst C (v := 4) dX9_draw_82 rfl ?_
              refine g_aload_n C dX9_draw_83 rfl 0 rfl ?_
              refine g_get C (R := RX9) (T := TX9) (N := 48) (k := 7) (v := .int (rI s6 61 7)) kd_61 (by decide) rfl (in_61 hS) hinX9 (by decide) fl_X9_329 rfl rfl dX9_draw_84 ?_
              refine g_imul C dX9_draw_87 ?_
              refine g_iconst C (v := 2) dX9_draw_88 rfl ?_
              refine g_iadd C dX9_draw_89 ?_
              refine g_iload_n C dX9_draw_90 rfl 3 rfl ?_
              refine g_iast C kd_66 ln_66 (in_66 hS) dX9_draw_91 hf (fun hf => ?_)
              refine g_nameS hf (fun s7 hf => ?_)
              refine g_aload_n C dX9_draw_92 rfl 0 rfl ?_
              refine g_get C (R := RX9) (T := TX9) (N := 48) (k := 8) (v := .ref (ad w 66)) kd_61 (by decide) rfl (in_61 hS) hinX9 (by decide) fl_X9_22 rfl rfl dX9_draw_93 ?_
              refine g_iconst C (v := 4) dX9_draw_96 rfl ?_
              refine g_aload_n C dX9_draw_97 rfl 0 rfl ?_
              refine g_get C (R := RX9) (T := TX9) (N := 48) (k := 7) (v := .int (rI s7 61 7)) kd_61 (by decide) rfl (in_61 hS) hinX9 (by decide) fl_X9_329 rfl rfl dX9_draw_98 ?_
              refine g_imul C dX9_draw_101 ?_
              refine g_iconst C (v := 3) dX9_draw_102 rfl ?_
              refine g_iadd C dX9_draw_103 ?_
              refine g_iload C dX9_draw_104 4 rfl ?_
              refine g_iast C kd_66 ln_66 (in_66 hS) dX9_draw_106 hf (fun hf => ?_)
              refine g_nameS hf (fun s8 hf => ?_)
              refine g_aload_n C dX9_draw_107 rfl 0 rfl ?_
              refine g_dup C dX9_draw_108 rfl ?_
              refine g_get C (R := RX9) (T := TX9) (N := 48) (k := 7) (v := .int (rI s8 61 7)) kd_61 (by decide) rfl (in_61 hS) hinX9 (by decide) fl_X9_329 rfl rfl dX9_draw_109 ?_
              refine g_iconst C (v := 1) dX9_draw_112 rfl ?_
              refine g_iadd C dX9_draw_113 ?_
              refine g_putI C (R := RX9) (T := TX9) (N := 48) (k := 7) (ty := .int) tyX9 tyX9_ok nmX9 kd_61 (by decide) rfl (in_61 hS) hinX9 (by decide) fl_X9_329 rfl rfl rfl rfl rfl (Nat.le_of_ble_eq_true rfl) fs_9_7 dX9_draw_114 ?_
              refine g_nameS hf (fun s9 hf => ?_)
              refine g_aload_n C dX9_draw_117 rfl 0 rfl ?_
              refine g_get C (R := RX9) (T := TX9) (N := 48) (k := 7) (v := .int (rI s9 61 7)) kd_61 (by decide) rfl (in_61 hS) hinX9 (by decide) fl_X9_329 rfl rfl dX9_draw_118 ?_
              refine g_iconst C (v := 1) dX9_draw_121 rfl ?_
              refine g_isub C dX9_draw_122 ?_
              exact g_iret C dX9_draw_123 hf
            · refine g_bipush C (v := (-2)) dX9_draw_49 (by decide) ?_
              exact g_iret C dX9_draw_51 hf
          · refine g_iconst C (v := (-1)) dX9_draw_38 rfl ?_
            exact g_iret C dX9_draw_39 hf

set_option maxHeartbeats 4000000 in
set_option maxRecDepth 100000 in
theorem c_X9_behindOf (l : Launch) (N : Nat) (w : WX) (hS : SS w = Sm) (a1 : Int32) {s s' : Mem} {r : Int32} (hf : f_X9_behindOf N a1 s = some (r, s')) : CI l yX9_behindOf (wz yX9_behindOf cX9_behindOf 7 (some .int)) ({ frames := 1, cells := 0, slots := 0, locals := 24 } : Room) [.ref (ad w 61), .int a1] w s r s' := by
  refine met_startI (cc := cX9_behindOf) (ret := (some .int)) (own := RX9) (maxL := 7) (by decide) rfl (Nat.le_of_ble_eq_true rfl) (fun x C hR hl => ?_)
  have j109 : ∀ (k11 : Int32 → Int32 → Int32 → Int32 → Mem → Option (Int32 × Mem)), (∀ (v1 : Int32) (v2 : Int32) (v3 : Int32) (v4 : Int32) (s : Mem), k11 v1 v2 v3 v4 s = some (r, s') → G x (QI x w r s') 7 w 11 [(0, .ref (ad w 61)), (1, .int v1), (2, .int v2), (3, .int v3), (4, .int v4)] [] s) → ∀ (v1 : Int32) (v2 : Int32) (v4 : Int32) (p0 : Int32) (p1 : Int32) (s : Mem), f_X9_behindOf_j109 N k11 v1 v2 v4 p0 p1 s = some (r, s') → G x (QI x w r s') 7 w 109 [(0, .ref (ad w 61)), (1, .int v1), (2, .int v2), (4, .int v4)] [.int p0, .int p1] s := by
    intro k11 q11 v1 v2 v4 p0 p1 s hf
    unfold f_X9_behindOf_j109 at hf
    refine g_iadd C dX9_behindOf_109 ?_
    refine g_istore_n (lv' := [(3, .int (p1 + p0)), (0, .ref (ad w 61)), (1, .int v1), (2, .int v2), (4, .int v4)]) C dX9_behindOf_110 rfl (by decide) rfl ?_
    refine g_iinc (v' := v4 + 1) (lv' := [(4, .int (v4 + 1)), (3, .int (p1 + p0)), (0, .ref (ad w 61)), (1, .int v1), (2, .int v2)]) C dX9_behindOf_111 4 rfl rfl (by decide) rfl ?_
    refine g_goto (tgt := 11) C dX9_behindOf_114 (by decide) ?_
    refine g_sub [2, 3, 4, 1, 0] rfl ?_
    exact q11 _ _ _ _ _ hf
  have j108 : ∀ (k11 : Int32 → Int32 → Int32 → Int32 → Mem → Option (Int32 × Mem)), (∀ (v1 : Int32) (v2 : Int32) (v3 : Int32) (v4 : Int32) (s : Mem), k11 v1 v2 v3 v4 s = some (r, s') → G x (QI x w r s') 7 w 11 [(0, .ref (ad w 61)), (1, .int v1), (2, .int v2), (3, .int v3), (4, .int v4)] [] s) → ∀ (v1 : Int32) (v2 : Int32) (v4 : Int32) (p0 : Int32) (s : Mem), f_X9_behindOf_j108 N k11 v1 v2 v4 p0 s = some (r, s') → G x (QI x w r s') 7 w 108 [(0, .ref (ad w 61)), (1, .int v1), (2, .int v2), (4, .int v4)] [.int p0] s := by
    intro k11 q11 v1 v2 v4 p0 s hf
    unfold f_X9_behindOf_j108 at hf
    refine g_iconst C (v := 0) dX9_behindOf_108 rfl ?_
    exact j109 k11 q11 _ _ _ _ _ _ hf
  have j52 : ∀ (k11 : Int32 → Int32 → Int32 → Int32 → Mem → Option (Int32 × Mem)), (∀ (v1 : Int32) (v2 : Int32) (v3 : Int32) (v4 : Int32) (s : Mem), k11 v1 v2 v3 v4 s = some (r, s') → G x (QI x w r s') 7 w 11 [(0, .ref (ad w 61)), (1, .int v1), (2, .int v2), (3, .int v3), (4, .int v4)] [] s) → ∀ (v1 : Int32) (v2 : Int32) (v3 : Int32) (v4 : Int32) (p0 : Int32) (s : Mem), f_X9_behindOf_j52 N k11 v1 v2 v3 v4 p0 s = some (r, s') → G x (QI x w r s') 7 w 52 [(0, .ref (ad w 61)), (1, .int v1), (2, .int v2), (3, .int v3), (4, .int v4)] [.int p0] s := by
    intro k11 q11 v1 v2 v3 v4 p0 s hf
    unfold f_X9_behindOf_j52 at hf
    refine g_istore (lv' := [(5, .int p0), (0, .ref (ad w 61)), (1, .int v1), (2, .int v2), (3, .int v3), (4, .int v4)]) C dX9_behindOf_52 (by decide) rfl ?_
    refine g_aload_n C dX9_behindOf_54 rfl 1 rfl ?_
    refine g_get C (R := RX9) (T := TX9) (N := 48) (k := 8) (v := .ref (ad w 66)) kd_61 (by decide) rfl (in_61 hS) hinX9 (by decide) fl_X9_22 rfl rfl dX9_behindOf_55 ?_
    refine g_iconst C (v := 4) dX9_behindOf_58 rfl ?_
    refine g_iload C dX9_behindOf_59 5 rfl ?_
    refine g_imul C dX9_behindOf_61 ?_
    refine g_iconst C (v := 2) dX9_behindOf_62 rfl ?_
    refine g_iadd C dX9_behindOf_63 ?_
    refine g_iald C kd_66 ln_66 (in_66 hS) dX9_behindOf_64 hf (fun hf => ?_)
    refine g_iload C dX9_behindOf_65 0 rfl ?_
    refine g_isub C dX9_behindOf_67 ?_
    refine g_iconst C (v := 1) dX9_behindOf_68 rfl ?_
    refine g_iadd C dX9_behindOf_69 ?_
    refine g_istoreN (lv' := fun x1 => [(6, .int x1), (5, .int p0), (0, .ref (ad w 61)), (1, .int v1), (2, .int v2), (3, .int v3), (4, .int v4)]) C dX9_behindOf_70 (by decide) (fun _ => rfl) hf (fun x1 hf => ?_)
    refine g_iload_n C dX9_behindOf_72 rfl 5 rfl ?_
    refine g_aload_n C dX9_behindOf_73 rfl 2 rfl ?_
    refine g_get C (R := RX9) (T := TX9) (N := 48) (k := 8) (v := .ref (ad w 66)) kd_61 (by decide) rfl (in_61 hS) hinX9 (by decide) fl_X9_22 rfl rfl dX9_behindOf_74 ?_
    refine g_iconst C (v := 4) dX9_behindOf_77 rfl ?_
    refine g_iload C dX9_behindOf_78 6 rfl ?_
    refine g_imul C dX9_behindOf_80 ?_
    refine g_iald C kd_66 ln_66 (in_66 hS) dX9_behindOf_81 hf (fun hf => ?_)
    refine g_iload_n C dX9_behindOf_82 rfl 3 rfl ?_
    refine g_icmp_ne (tgt := 108) C dX9_behindOf_83 (by decide) hf (fun hf => ?_) (fun hf => ?_)
    · refine g_sub [2, 3, 4, 6] rfl ?_
      exact j108 k11 q11 _ _ _ _ _ hf
    · refine g_iload C dX9_behindOf_86 0 rfl ?_
      refine g_if_le (tgt := 108) C dX9_behindOf_88 (by decide) hf (fun hf => ?_) (fun hf => ?_)
      · refine g_sub [2, 3, 4, 6] rfl ?_
        exact j108 k11 q11 _ _ _ _ _ hf
      · refine g_iload C dX9_behindOf_91 0 rfl ?_
        refine g_aload_n C dX9_behindOf_93 rfl 2 rfl ?_
        refine g_get C (R := RX9) (T := TX9) (N := 48) (k := 8) (v := .ref (ad w 66)) kd_61 (by decide) rfl (in_61 hS) hinX9 (by decide) fl_X9_22 rfl rfl dX9_behindOf_94 ?_
        refine g_iconst C (v := 4) dX9_behindOf_97 rfl ?_
        refine g_iload C dX9_behindOf_98 6 rfl ?_
        refine g_imul C dX9_behindOf_100 ?_
        refine g_iconst C (v := 3) dX9_behindOf_101 rfl ?_
        refine g_iadd C dX9_behindOf_102 ?_
        refine g_iald C kd_66 ln_66 (in_66 hS) dX9_behindOf_103 hf (fun hf => ?_)
        refine g_imul C dX9_behindOf_104 ?_
        refine g_goto (tgt := 109) C dX9_behindOf_105 (by decide) ?_
        refine g_sub [2, 3, 4, 6] rfl ?_
        exact j109 k11 q11 _ _ _ _ _ _ hf
  have j11 : ∀ (n : Nat), ∀ (v1 : Int32) (v2 : Int32) (v3 : Int32) (v4 : Int32) (s : Mem), f_X9_behindOf_L11 N n v1 v2 v3 v4 s = some (r, s') → G x (QI x w r s') 7 w 11 [(0, .ref (ad w 61)), (1, .int v1), (2, .int v2), (3, .int v3), (4, .int v4)] [] s := by
    intro n
    induction n with
    | zero => intro v1 v2 v3 v4 s hf; cases hf
    | succ n ih =>
      intro v1 v2 v3 v4 s hf
      unfold f_X9_behindOf_L11 at hf
      refine g_iload C dX9_behindOf_11 4 rfl ?_
      refine g_aload_n C dX9_behindOf_13 rfl 0 rfl ?_
      refine g_get C (R := RX9) (T := TX9) (N := 48) (k := 7) (v := .int (rI s 61 7)) kd_61 (by decide) rfl (in_61 hS) hinX9 (by decide) fl_X9_329 rfl rfl dX9_behindOf_14 ?_
      refine g_icmp_ge (tgt := 117) C dX9_behindOf_17 (by decide) hf (fun hf => ?_) (fun hf => ?_)
      · refine g_iload_n C dX9_behindOf_117 rfl 3 rfl ?_
        exact g_iret C dX9_behindOf_118 hf
      · refine g_aload_n C dX9_behindOf_20 rfl 0 rfl ?_
        refine g_get C (R := RX9) (T := TX9) (N := 48) (k := 8) (v := .ref (ad w 66)) kd_61 (by decide) rfl (in_61 hS) hinX9 (by decide) fl_X9_22 rfl rfl dX9_behindOf_21 ?_
        refine g_iconst C (v := 4) dX9_behindOf_24 rfl ?_
        refine g_iload C dX9_behindOf_25 4 rfl ?_
        refine g_imul C dX9_behindOf_27 ?_
        refine g_iconst C (v := 1) dX9_behindOf_28 rfl ?_
        refine g_iadd C dX9_behindOf_29 ?_
        refine g_iald C kd_66 ln_66 (in_66 hS) dX9_behindOf_30 hf (fun hf => ?_)
        refine g_iload_n C dX9_behindOf_31 rfl 2 rfl ?_
        refine g_icmp_le (tgt := 49) C dX9_behindOf_32 (by decide) hf (fun hf => ?_) (fun hf => ?_)
        · refine g_iload_n C dX9_behindOf_49 rfl 2 rfl ?_
          refine g_iconst C (v := 1) dX9_behindOf_50 rfl ?_
          refine g_iadd C dX9_behindOf_51 ?_
          exact j52 (f_X9_behindOf_L11 N n) ih _ _ _ _ _ _ hf
        · refine g_aload_n C dX9_behindOf_35 rfl 0 rfl ?_
          refine g_get C (R := RX9) (T := TX9) (N := 48) (k := 8) (v := .ref (ad w 66)) kd_61 (by decide) rfl (in_61 hS) hinX9 (by decide) fl_X9_22 rfl rfl dX9_behindOf_36 ?_
          refine g_iconst C (v := 4) dX9_behindOf_39 rfl ?_
          refine g_iload C dX9_behindOf_40 4 rfl ?_
          refine g_imul C dX9_behindOf_42 ?_
          refine g_iconst C (v := 1) dX9_behindOf_43 rfl ?_
          refine g_iadd C dX9_behindOf_44 ?_
          refine g_iald C kd_66 ln_66 (in_66 hS) dX9_behindOf_45 hf (fun hf => ?_)
          refine g_goto (tgt := 52) C dX9_behindOf_46 (by decide) ?_
          exact j52 (f_X9_behindOf_L11 N n) ih _ _ _ _ _ _ hf
  refine g_lv (lv' := [(0, .ref (ad w 61)), (1, .int a1)]) rfl ?_
  unfold f_X9_behindOf at hf
  refine g_aload_n C dX9_behindOf_0 rfl 0 rfl ?_
  refine g_iload_n C dX9_behindOf_1 rfl 1 rfl ?_
  refine g_callVI C (R := RX9) (T := TX9) (N := 48) [.int a1] (fun _ _ h => c_X9_seenOf (kl x) N w hS _ h) (g_cwV C hR ml_X9_104 im_X9_seenOf sl_X9_seenOf ini_X9 cd_X9_seenOf hd_X9_seenOf (by decide)) kd_61 (by decide) rfl (in_61 hS) rfl _ rfl (Nat.le_of_ble_eq_true rfl) dX9_behindOf_2 hf (fun r1 s1 hf => ?_)
  refine g_istore_n (lv' := [(2, .int r1), (0, .ref (ad w 61)), (1, .int a1)]) C dX9_behindOf_5 rfl (by decide) rfl ?_
  refine g_iconst C (v := 0) dX9_behindOf_6 rfl ?_
  refine g_istore_n (lv' := [(3, .int 0), (2, .int r1), (0, .ref (ad w 61)), (1, .int a1)]) C dX9_behindOf_7 rfl (by decide) rfl ?_
  refine g_iconst C (v := 0) dX9_behindOf_8 rfl ?_
  refine g_istore (lv' := [(4, .int 0), (3, .int 0), (2, .int r1), (0, .ref (ad w 61)), (1, .int a1)]) C dX9_behindOf_9 (by decide) rfl ?_
  refine g_sub [3, 4, 2, 1, 0] rfl ?_
  exact j11 N _ _ _ _ _ hf

set_option maxHeartbeats 4000000 in
set_option maxRecDepth 100000 in
theorem c_X9_behind (l : Launch) (N : Nat) (w : WX) (hS : SS w = Sm) (a1 : Int32) {s s' : Mem} {r : Int32} (hf : f_X9_behind N a1 s = some (r, s')) : CI l yX9_behind (wz yX9_behind cX9_behind 2 (some .int)) ({ frames := 2, cells := 0, slots := 0, locals := 50 } : Room) [.ref (ad w 61), .int a1] w s r s' := by
  refine met_startI (cc := cX9_behind) (ret := (some .int)) (own := RX9) (maxL := 2) (by decide) rfl (Nat.le_of_ble_eq_true rfl) (fun x C hR hl => ?_)
  refine g_lv (lv' := [(0, .ref (ad w 61)), (1, .int a1)]) rfl ?_
  unfold f_X9_behind at hf
  refine g_aload_n C dX9_behind_0 rfl 0 rfl ?_
  refine g_iload_n C dX9_behind_1 rfl 1 rfl ?_
  refine g_callVB C (R := RX9) (T := TX9) (N := 48) [.int a1] (fun _ _ h => c_X9_isPerson (kl x) N w hS _ h) (g_cwV C hR ml_X9_100 im_X9_isPerson sl_X9_isPerson ini_X9 cd_X9_isPerson hd_X9_isPerson (by decide)) kd_61 (by decide) rfl (in_61 hS) rfl _ rfl (Nat.le_of_ble_eq_true rfl) dX9_behind_2 hf (fun r1 s1 hf => ?_)
  refine g_ifeqB (tgt := 16) C dX9_behind_5 (by decide) hf (fun hf => ?_) (fun hf => ?_)
  · refine g_iconst C (v := (-1)) dX9_behind_16 rfl ?_
    exact g_iret C dX9_behind_17 hf
  · refine g_aload_n C dX9_behind_8 rfl 0 rfl ?_
    refine g_iload_n C dX9_behind_9 rfl 1 rfl ?_
    refine g_callVI C (R := RX9) (T := TX9) (N := 48) [.int a1] (fun _ _ h => c_X9_behindOf (kl x) N w hS _ h) (g_cwV C hR ml_X9_332 im_X9_behindOf sl_X9_behindOf ini_X9 cd_X9_behindOf hd_X9_behindOf (by decide)) kd_61 (by decide) rfl (in_61 hS) rfl _ rfl (Nat.le_of_ble_eq_true rfl) dX9_behind_10 hf (fun r2 s2 hf => ?_)
    refine g_goto (tgt := 17) C dX9_behind_13 (by decide) ?_
    exact g_iret C dX9_behind_17 hf

set_option maxHeartbeats 4000000 in
set_option maxRecDepth 100000 in
theorem c_X9_suspect (l : Launch) (N : Nat) (w : WX) (hS : SS w = Sm) (a1 : Int32) {s s' : Mem} {r : Int32} (hf : f_X9_suspect N a1 s = some (r, s')) : CI l yX9_suspect (wz yX9_suspect cX9_suspect 7 (some .int)) ({ frames := 2, cells := 0, slots := 0, locals := 50 } : Room) [.ref (ad w 61), .int a1] w s r s' := by
  refine met_startI (cc := cX9_suspect) (ret := (some .int)) (own := RX9) (maxL := 7) (by decide) rfl (Nat.le_of_ble_eq_true rfl) (fun x C hR hl => ?_)
  have j85 : ∀ (k2 : Int32 → Int32 → Mem → Option (Int32 × Mem)), (∀ (v1 : Int32) (v2 : Int32) (s : Mem), k2 v1 v2 s = some (r, s') → G x (QI x w r s') 7 w 2 [(0, .ref (ad w 61)), (1, .int v1), (2, .int v2)] [] s) → ∀ (v1 : Int32) (v2 : Int32) (s : Mem), f_X9_suspect_j85 N k2 v1 v2 s = some (r, s') → G x (QI x w r s') 7 w 85 [(0, .ref (ad w 61)), (1, .int v1), (2, .int v2)] [] s := by
    intro k2 q2 v1 v2 s hf
    unfold f_X9_suspect_j85 at hf
    refine g_iinc (v' := v2 + 1) (lv' := [(2, .int (v2 + 1)), (0, .ref (ad w 61)), (1, .int v1)]) C dX9_suspect_85 2 rfl rfl (by decide) rfl ?_
    refine g_goto (tgt := 2) C dX9_suspect_88 (by decide) ?_
    refine g_sub [1, 2, 0] rfl ?_
    exact q2 _ _ _ hf
  have j73 : ∀ (k2 : Int32 → Int32 → Mem → Option (Int32 × Mem)), (∀ (v1 : Int32) (v2 : Int32) (s : Mem), k2 v1 v2 s = some (r, s') → G x (QI x w r s') 7 w 2 [(0, .ref (ad w 61)), (1, .int v1), (2, .int v2)] [] s) → ∀ (v1 : Int32) (v2 : Int32) (v3 : Int32) (v4 : Int32) (s : Mem), f_X9_suspect_j73 N k2 v1 v2 v3 v4 s = some (r, s') → G x (QI x w r s') 7 w 73 [(0, .ref (ad w 61)), (1, .int v1), (2, .int v2), (3, .int v3), (4, .int v4)] [] s := by
    intro k2 q2 v1 v2 v3 v4 s hf
    unfold f_X9_suspect_j73 at hf
    refine g_iload_n C dX9_suspect_73 rfl 3 rfl ?_
    refine g_if_le (tgt := 85) C dX9_suspect_74 (by decide) hf (fun hf => ?_) (fun hf => ?_)
    · refine g_sub [0, 1, 2] rfl ?_
      exact j85 k2 q2 _ _ _ hf
    · refine g_iload C dX9_suspect_77 4 rfl ?_
      refine g_iload_n C dX9_suspect_79 rfl 1 rfl ?_
      refine g_icmp_ne (tgt := 85) C dX9_suspect_80 (by decide) hf (fun hf => ?_) (fun hf => ?_)
      · refine g_sub [0, 1, 2] rfl ?_
        exact j85 k2 q2 _ _ _ hf
      · refine g_iload_n C dX9_suspect_83 rfl 2 rfl ?_
        exact g_iret C dX9_suspect_84 hf
  have j64 : ∀ (k22 : Int32 → Int32 → Int32 → Int32 → Int32 → Mem → Option (Int32 × Mem)) (k73 : Int32 → Int32 → Int32 → Int32 → Mem → Option (Int32 × Mem)), (∀ (v1 : Int32) (v2 : Int32) (v3 : Int32) (v4 : Int32) (v5 : Int32) (s : Mem), k22 v1 v2 v3 v4 v5 s = some (r, s') → G x (QI x w r s') 7 w 22 [(0, .ref (ad w 61)), (1, .int v1), (2, .int v2), (3, .int v3), (4, .int v4), (5, .int v5)] [] s) → (∀ (v1 : Int32) (v2 : Int32) (v3 : Int32) (v4 : Int32) (s : Mem), k73 v1 v2 v3 v4 s = some (r, s') → G x (QI x w r s') 7 w 73 [(0, .ref (ad w 61)), (1, .int v1), (2, .int v2), (3, .int v3), (4, .int v4)] [] s) → ∀ (v1 : Int32) (v2 : Int32) (v3 : Int32) (v5 : Int32) (p0 : Bool) (p1 : Int32) (s : Mem), f_X9_suspect_j64 N k22 k73 v1 v2 v3 v5 p0 p1 s = some (r, s') → G x (QI x w r s') 7 w 64 [(0, .ref (ad w 61)), (1, .int v1), (2, .int v2), (3, .int v3), (5, .int v5)] [.int (bI p0), .int p1] s := by
    intro k22 k73 q22 q73 v1 v2 v3 v5 p0 p1 s hf
    unfold f_X9_suspect_j64 at hf
    refine g_iadd C dX9_suspect_64 ?_
    refine g_istore (lv' := [(4, .int (p1 + (bI p0))), (0, .ref (ad w 61)), (1, .int v1), (2, .int v2), (3, .int v3), (5, .int v5)]) C dX9_suspect_65 (by decide) rfl ?_
    refine g_iinc (v' := v5 + 1) (lv' := [(5, .int (v5 + 1)), (4, .int (p1 + (bI p0))), (0, .ref (ad w 61)), (1, .int v1), (2, .int v2), (3, .int v3)]) C dX9_suspect_67 5 rfl rfl (by decide) rfl ?_
    refine g_goto (tgt := 22) C dX9_suspect_70 (by decide) ?_
    refine g_sub [2, 3, 4, 5, 1, 0] rfl ?_
    exact q22 _ _ _ _ _ _ hf
  have j63 : ∀ (k22 : Int32 → Int32 → Int32 → Int32 → Int32 → Mem → Option (Int32 × Mem)) (k73 : Int32 → Int32 → Int32 → Int32 → Mem → Option (Int32 × Mem)), (∀ (v1 : Int32) (v2 : Int32) (v3 : Int32) (v4 : Int32) (v5 : Int32) (s : Mem), k22 v1 v2 v3 v4 v5 s = some (r, s') → G x (QI x w r s') 7 w 22 [(0, .ref (ad w 61)), (1, .int v1), (2, .int v2), (3, .int v3), (4, .int v4), (5, .int v5)] [] s) → (∀ (v1 : Int32) (v2 : Int32) (v3 : Int32) (v4 : Int32) (s : Mem), k73 v1 v2 v3 v4 s = some (r, s') → G x (QI x w r s') 7 w 73 [(0, .ref (ad w 61)), (1, .int v1), (2, .int v2), (3, .int v3), (4, .int v4)] [] s) → ∀ (v1 : Int32) (v2 : Int32) (v3 : Int32) (v5 : Int32) (p0 : Int32) (s : Mem), f_X9_suspect_j63 N k22 k73 v1 v2 v3 v5 p0 s = some (r, s') → G x (QI x w r s') 7 w 63 [(0, .ref (ad w 61)), (1, .int v1), (2, .int v2), (3, .int v3), (5, .int v5)] [.int p0] s := by
    intro k22 k73 q22 q73 v1 v2 v3 v5 p0 s hf
    unfold f_X9_suspect_j63 at hf
    refine g_iconst C (v := 0) dX9_suspect_63 rfl ?_
    exact j64 k22 k73 q22 q73 _ _ _ _ _ _ _ hf
  have j59 : ∀ (k22 : Int32 → Int32 → Int32 → Int32 → Int32 → Mem → Option (Int32 × Mem)) (k73 : Int32 → Int32 → Int32 → Int32 → Mem → Option (Int32 × Mem)), (∀ (v1 : Int32) (v2 : Int32) (v3 : Int32) (v4 : Int32) (v5 : Int32) (s : Mem), k22 v1 v2 v3 v4 v5 s = some (r, s') → G x (QI x w r s') 7 w 22 [(0, .ref (ad w 61)), (1, .int v1), (2, .int v2), (3, .int v3), (4, .int v4), (5, .int v5)] [] s) → (∀ (v1 : Int32) (v2 : Int32) (v3 : Int32) (v4 : Int32) (s : Mem), k73 v1 v2 v3 v4 s = some (r, s') → G x (QI x w r s') 7 w 73 [(0, .ref (ad w 61)), (1, .int v1), (2, .int v2), (3, .int v3), (4, .int v4)] [] s) → ∀ (v1 : Int32) (v2 : Int32) (v3 : Int32) (v5 : Int32) (p0 : Int32) (s : Mem), f_X9_suspect_j59 N k22 k73 v1 v2 v3 v5 p0 s = some (r, s') → G x (QI x w r s') 7 w 59 [(0, .ref (ad w 61)), (1, .int v1), (2, .int v2), (3, .int v3), (5, .int v5)] [.int p0] s := by
    intro k22 k73 q22 q73 v1 v2 v3 v5 p0 s hf
    unfold f_X9_suspect_j59 at hf
    refine g_iconst C (v := 1) dX9_suspect_59 rfl ?_
    refine g_goto (tgt := 64) C dX9_suspect_60 (by decide) ?_
    exact j64 k22 k73 q22 q73 _ _ _ _ _ _ _ hf
  have j22 : ∀ (k73 : Int32 → Int32 → Int32 → Int32 → Mem → Option (Int32 × Mem)), (∀ (v1 : Int32) (v2 : Int32) (v3 : Int32) (v4 : Int32) (s : Mem), k73 v1 v2 v3 v4 s = some (r, s') → G x (QI x w r s') 7 w 73 [(0, .ref (ad w 61)), (1, .int v1), (2, .int v2), (3, .int v3), (4, .int v4)] [] s) → ∀ (n : Nat), ∀ (v1 : Int32) (v2 : Int32) (v3 : Int32) (v4 : Int32) (v5 : Int32) (s : Mem), f_X9_suspect_L22 N k73 n v1 v2 v3 v4 v5 s = some (r, s') → G x (QI x w r s') 7 w 22 [(0, .ref (ad w 61)), (1, .int v1), (2, .int v2), (3, .int v3), (4, .int v4), (5, .int v5)] [] s := by
    intro k73 q73 n
    induction n with
    | zero => intro v1 v2 v3 v4 v5 s hf; cases hf
    | succ n ih =>
      intro v1 v2 v3 v4 v5 s hf
      unfold f_X9_suspect_L22 at hf
      refine g_iload C dX9_suspect_22 5 rfl ?_
      refine g_aload_n C dX9_suspect_24 rfl 0 rfl ?_
      refine g_get C (R := RX9) (T := TX9) (N := 48) (k := 0) (v := .int (rI s 61 0)) kd_61 (by decide) rfl (in_61 hS) hinX9 (by decide) fl_X9_89 rfl rfl dX9_suspect_25 ?_
      refine g_icmp_ge (tgt := 73) C dX9_suspect_28 (by decide) hf (fun hf => ?_) (fun hf => ?_)
      · refine g_sub [0, 1, 2, 3, 4] rfl ?_
        exact q73 _ _ _ _ _ hf
      · refine g_aload_n C dX9_suspect_31 rfl 0 rfl ?_
        refine g_iload C dX9_suspect_32 5 rfl ?_
        refine g_callVI C (R := RX9) (T := TX9) (N := 48) [.int v5] (fun _ _ h => c_X9_behindOf (kl x) N w hS _ h) (g_cwV C hR ml_X9_332 im_X9_behindOf sl_X9_behindOf ini_X9 cd_X9_behindOf hd_X9_behindOf (by decide)) kd_61 (by decide) rfl (in_61 hS) rfl _ rfl (Nat.le_of_ble_eq_true rfl) dX9_suspect_34 hf (fun r1 s1 hf => ?_)
        refine g_istore (lv' := [(6, .int r1), (0, .ref (ad w 61)), (1, .int v1), (2, .int v2), (3, .int v3), (4, .int v4), (5, .int v5)]) C dX9_suspect_37 (by decide) rfl ?_
        refine g_iload C dX9_suspect_39 5 rfl ?_
        refine g_iload C dX9_suspect_41 0 rfl ?_
        refine g_iload_n C dX9_suspect_43 rfl 4 rfl ?_
        refine g_icmp_gt (tgt := 59) C dX9_suspect_44 (by decide) hf (fun hf => ?_) (fun hf => ?_)
        · refine g_sub [1, 2, 3, 4, 6] rfl ?_
          exact j59 (f_X9_suspect_L22 N k73 n) k73 ih q73 _ _ _ _ _ _ hf
        · refine g_iload C dX9_suspect_47 0 rfl ?_
          refine g_iload_n C dX9_suspect_49 rfl 4 rfl ?_
          refine g_icmp_ne (tgt := 63) C dX9_suspect_50 (by decide) hf (fun hf => ?_) (fun hf => ?_)
          · refine g_sub [1, 2, 3, 4, 6] rfl ?_
            exact j63 (f_X9_suspect_L22 N k73 n) k73 ih q73 _ _ _ _ _ _ hf
          · refine g_iload C dX9_suspect_53 6 rfl ?_
            refine g_iload_n C dX9_suspect_55 rfl 3 rfl ?_
            refine g_icmp_ge (tgt := 63) C dX9_suspect_56 (by decide) hf (fun hf => ?_) (fun hf => ?_)
            · refine g_sub [1, 2, 3, 4, 6] rfl ?_
              exact j63 (f_X9_suspect_L22 N k73 n) k73 ih q73 _ _ _ _ _ _ hf
            · refine g_sub [1, 2, 3, 4, 6] rfl ?_
              exact j59 (f_X9_suspect_L22 N k73 n) k73 ih q73 _ _ _ _ _ _ hf
  have j2 : ∀ (n : Nat), ∀ (v1 : Int32) (v2 : Int32) (s : Mem), f_X9_suspect_L2 N n v1 v2 s = some (r, s') → G x (QI x w r s') 7 w 2 [(0, .ref (ad w 61)), (1, .int v1), (2, .int v2)] [] s := by
    intro n
    induction n with
    | zero => intro v1 v2 s hf; cases hf
    | succ n ih =>
      intro v1 v2 s hf
      unfold f_X9_suspect_L2 at hf
      refine g_iload_n C dX9_suspect_2 rfl 2 rfl ?_
      refine g_aload_n C dX9_suspect_3 rfl 0 rfl ?_
      refine g_get C (R := RX9) (T := TX9) (N := 48) (k := 0) (v := .int (rI s 61 0)) kd_61 (by decide) rfl (in_61 hS) hinX9 (by decide) fl_X9_89 rfl rfl dX9_suspect_4 ?_
      refine g_icmp_ge (tgt := 91) C dX9_suspect_7 (by decide) hf (fun hf => ?_) (fun hf => ?_)
      · refine g_bipush C (v := (-3)) dX9_suspect_91 (by decide) ?_
        exact g_iret C dX9_suspect_93 hf
      · refine g_aload_n C dX9_suspect_10 rfl 0 rfl ?_
        refine g_iload_n C dX9_suspect_11 rfl 2 rfl ?_
        refine g_callVI C (R := RX9) (T := TX9) (N := 48) [.int v2] (fun _ _ h => c_X9_behindOf (kl x) N w hS _ h) (g_cwV C hR ml_X9_332 im_X9_behindOf sl_X9_behindOf ini_X9 cd_X9_behindOf hd_X9_behindOf (by decide)) kd_61 (by decide) rfl (in_61 hS) rfl _ rfl (Nat.le_of_ble_eq_true rfl) dX9_suspect_12 hf (fun r1 s1 hf => ?_)
        refine g_istore_n (lv' := [(3, .int r1), (0, .ref (ad w 61)), (1, .int v1), (2, .int v2)]) C dX9_suspect_15 rfl (by decide) rfl ?_
        refine g_iconst C (v := 0) dX9_suspect_16 rfl ?_
        refine g_istore (lv' := [(4, .int 0), (3, .int r1), (0, .ref (ad w 61)), (1, .int v1), (2, .int v2)]) C dX9_suspect_17 (by decide) rfl ?_
        refine g_iconst C (v := 0) dX9_suspect_19 rfl ?_
        refine g_istore (lv' := [(5, .int 0), (4, .int 0), (3, .int r1), (0, .ref (ad w 61)), (1, .int v1), (2, .int v2)]) C dX9_suspect_20 (by decide) rfl ?_
        refine g_sub [3, 4, 5, 2, 1, 0] rfl ?_
        exact j22 (f_X9_suspect_j73 N (f_X9_suspect_L2 N n)) (j73 (f_X9_suspect_L2 N n) ih) N _ _ _ _ _ _ hf
  refine g_lv (lv' := [(0, .ref (ad w 61)), (1, .int a1)]) rfl ?_
  unfold f_X9_suspect at hf
  refine g_iconst C (v := 0) dX9_suspect_0 rfl ?_
  refine g_istore_n (lv' := [(2, .int 0), (0, .ref (ad w 61)), (1, .int a1)]) C dX9_suspect_1 rfl (by decide) rfl ?_
  refine g_sub [1, 2, 0] rfl ?_
  exact j2 N _ _ _ hf

set_option maxHeartbeats 4000000 in
set_option maxRecDepth 100000 in
theorem c_X9_heap (l : Launch) (N : Nat) (w : WX) (hS : SS w = Sm) (a1 : Int32) {s s' : Mem} {r : Int32} (hf : f_X9_heap N a1 s = some (r, s')) : CI l yX9_heap (wz yX9_heap cX9_heap 7 (some .int)) ({ frames := 1, cells := 0, slots := 0, locals := 22 } : Room) [.ref (ad w 61), .int a1] w s r s' := by
  refine met_startI (cc := cX9_heap) (ret := (some .int)) (own := RX9) (maxL := 7) (by decide) rfl (Nat.le_of_ble_eq_true rfl) (fun x C hR hl => ?_)
  have j121 : ∀ (v1 : Int32) (v2 : Int32) (v3 : Int32) (v4 : Int32) (s : Mem), f_X9_heap_j121 N v1 v2 v3 v4 s = some (r, s') → G x (QI x w r s') 7 w 121 [(1, .int v1), (2, .int v2), (3, .int v3), (4, .int v4)] [] s := by
    intro v1 v2 v3 v4 s hf
    unfold f_X9_heap_j121 at hf
    refine g_iload_n C dX9_heap_121 rfl 1 rfl ?_
    refine g_iload_n C dX9_heap_122 rfl 2 rfl ?_
    refine g_iadd C dX9_heap_123 ?_
    refine g_iload C dX9_heap_124 3 rfl ?_
    refine g_iadd C dX9_heap_126 ?_
    refine g_istore (lv' := [(5, .int ((v2 + v3) + v4)), (1, .int v1), (2, .int v2), (3, .int v3), (4, .int v4)]) C dX9_heap_127 (by decide) rfl ?_
    refine g_iload_n C dX9_heap_129 rfl 1 rfl ?_
    refine g_if_ne (tgt := 137) C dX9_heap_130 (by decide) hf (fun hf => ?_) (fun hf => ?_)
    · refine g_iload_n C dX9_heap_137 rfl 1 rfl ?_
      refine g_iconst C (v := 1) dX9_heap_138 rfl ?_
      refine g_icmp_ne (tgt := 146) C dX9_heap_139 (by decide) hf (fun hf => ?_) (fun hf => ?_)
      · refine g_iload_n C dX9_heap_146 rfl 1 rfl ?_
        refine g_iconst C (v := 2) dX9_heap_147 rfl ?_
        refine g_icmp_ne (tgt := 156) C dX9_heap_148 (by decide) hf (fun hf => ?_) (fun hf => ?_)
        · refine g_iload C dX9_heap_156 0 rfl ?_
          refine g_if_ne (tgt := 165) C dX9_heap_158 (by decide) hf (fun hf => ?_) (fun hf => ?_)
          · refine g_sipush C (v := 500) dX9_heap_165 (by decide) ?_
            refine g_iload_n C dX9_heap_168 rfl 2 rfl ?_
            refine g_iload_n C dX9_heap_169 rfl 3 rfl ?_
            refine g_iadd C dX9_heap_170 ?_
            refine g_imul C dX9_heap_171 ?_
            refine g_iload C dX9_heap_172 0 rfl ?_
            refine g_idiv C dX9_heap_174 hf (fun hf => ?_)
            exact g_iret C dX9_heap_175 hf
          · refine g_iconst C (v := 0) dX9_heap_161 rfl ?_
            refine g_goto (tgt := 175) C dX9_heap_162 (by decide) ?_
            exact g_iret C dX9_heap_175 hf
        · refine g_iload C dX9_heap_151 4 rfl ?_
          refine g_goto (tgt := 175) C dX9_heap_153 (by decide) ?_
          exact g_iret C dX9_heap_175 hf
      · refine g_iload_n C dX9_heap_142 rfl 3 rfl ?_
        refine g_goto (tgt := 175) C dX9_heap_143 (by decide) ?_
        exact g_iret C dX9_heap_175 hf
    · refine g_iload_n C dX9_heap_133 rfl 2 rfl ?_
      refine g_goto (tgt := 175) C dX9_heap_134 (by decide) ?_
      exact g_iret C dX9_heap_175 hf
  have j112 : ∀ (k21 : Int32 → Int32 → Int32 → Int32 → Int32 → Mem → Option (Int32 × Mem)) (k121 : Int32 → Int32 → Int32 → Int32 → Mem → Option (Int32 × Mem)), (∀ (v1 : Int32) (v2 : Int32) (v3 : Int32) (v4 : Int32) (v5 : Int32) (s : Mem), k21 v1 v2 v3 v4 v5 s = some (r, s') → G x (QI x w r s') 7 w 21 [(0, .ref (ad w 61)), (1, .int v1), (2, .int v2), (3, .int v3), (4, .int v4), (5, .int v5)] [] s) → (∀ (v1 : Int32) (v2 : Int32) (v3 : Int32) (v4 : Int32) (s : Mem), k121 v1 v2 v3 v4 s = some (r, s') → G x (QI x w r s') 7 w 121 [(1, .int v1), (2, .int v2), (3, .int v3), (4, .int v4)] [] s) → ∀ (v1 : Int32) (v2 : Int32) (v3 : Int32) (v5 : Int32) (p0 : Bool) (p1 : Int32) (s : Mem), f_X9_heap_j112 N k21 k121 v1 v2 v3 v5 p0 p1 s = some (r, s') → G x (QI x w r s') 7 w 112 [(0, .ref (ad w 61)), (1, .int v1), (2, .int v2), (3, .int v3), (5, .int v5)] [.int (bI p0), .int p1] s := by
    intro k21 k121 q21 q121 v1 v2 v3 v5 p0 p1 s hf
    unfold f_X9_heap_j112 at hf
    refine g_iadd C dX9_heap_112 ?_
    refine g_istore (lv' := [(4, .int (p1 + (bI p0))), (0, .ref (ad w 61)), (1, .int v1), (2, .int v2), (3, .int v3), (5, .int v5)]) C dX9_heap_113 (by decide) rfl ?_
    refine g_iinc (v' := v5 + 1) (lv' := [(5, .int (v5 + 1)), (4, .int (p1 + (bI p0))), (0, .ref (ad w 61)), (1, .int v1), (2, .int v2), (3, .int v3)]) C dX9_heap_115 5 rfl rfl (by decide) rfl ?_
    refine g_goto (tgt := 21) C dX9_heap_118 (by decide) ?_
    refine g_sub [2, 3, 4, 5, 1, 0] rfl ?_
    exact q21 _ _ _ _ _ _ hf
  have j111 : ∀ (k21 : Int32 → Int32 → Int32 → Int32 → Int32 → Mem → Option (Int32 × Mem)) (k121 : Int32 → Int32 → Int32 → Int32 → Mem → Option (Int32 × Mem)), (∀ (v1 : Int32) (v2 : Int32) (v3 : Int32) (v4 : Int32) (v5 : Int32) (s : Mem), k21 v1 v2 v3 v4 v5 s = some (r, s') → G x (QI x w r s') 7 w 21 [(0, .ref (ad w 61)), (1, .int v1), (2, .int v2), (3, .int v3), (4, .int v4), (5, .int v5)] [] s) → (∀ (v1 : Int32) (v2 : Int32) (v3 : Int32) (v4 : Int32) (s : Mem), k121 v1 v2 v3 v4 s = some (r, s') → G x (QI x w r s') 7 w 121 [(1, .int v1), (2, .int v2), (3, .int v3), (4, .int v4)] [] s) → ∀ (v1 : Int32) (v2 : Int32) (v3 : Int32) (v5 : Int32) (p0 : Int32) (s : Mem), f_X9_heap_j111 N k21 k121 v1 v2 v3 v5 p0 s = some (r, s') → G x (QI x w r s') 7 w 111 [(0, .ref (ad w 61)), (1, .int v1), (2, .int v2), (3, .int v3), (5, .int v5)] [.int p0] s := by
    intro k21 k121 q21 q121 v1 v2 v3 v5 p0 s hf
    unfold f_X9_heap_j111 at hf
    refine g_iconst C (v := 0) dX9_heap_111 rfl ?_
    exact j112 k21 k121 q21 q121 _ _ _ _ _ _ _ hf
  have j92 : ∀ (k21 : Int32 → Int32 → Int32 → Int32 → Int32 → Mem → Option (Int32 × Mem)) (k121 : Int32 → Int32 → Int32 → Int32 → Mem → Option (Int32 × Mem)), (∀ (v1 : Int32) (v2 : Int32) (v3 : Int32) (v4 : Int32) (v5 : Int32) (s : Mem), k21 v1 v2 v3 v4 v5 s = some (r, s') → G x (QI x w r s') 7 w 21 [(0, .ref (ad w 61)), (1, .int v1), (2, .int v2), (3, .int v3), (4, .int v4), (5, .int v5)] [] s) → (∀ (v1 : Int32) (v2 : Int32) (v3 : Int32) (v4 : Int32) (s : Mem), k121 v1 v2 v3 v4 s = some (r, s') → G x (QI x w r s') 7 w 121 [(1, .int v1), (2, .int v2), (3, .int v3), (4, .int v4)] [] s) → ∀ (v1 : Int32) (v2 : Int32) (v4 : Int32) (v5 : Int32) (v6 : Int32) (p0 : Bool) (p1 : Int32) (s : Mem), f_X9_heap_j92 N k21 k121 v1 v2 v4 v5 v6 p0 p1 s = some (r, s') → G x (QI x w r s') 7 w 92 [(0, .ref (ad w 61)), (1, .int v1), (2, .int v2), (4, .int v4), (5, .int v5), (6, .int v6)] [.int (bI p0), .int p1] s := by
    intro k21 k121 q21 q121 v1 v2 v4 v5 v6 p0 p1 s hf
    unfold f_X9_heap_j92 at hf
    refine g_iadd C dX9_heap_92 ?_
    refine g_istore_n (lv' := [(3, .int (p1 + (bI p0))), (0, .ref (ad w 61)), (1, .int v1), (2, .int v2), (4, .int v4), (5, .int v5), (6, .int v6)]) C dX9_heap_93 rfl (by decide) rfl ?_
    refine g_iload C dX9_heap_94 4 rfl ?_
    refine g_iload C dX9_heap_96 6 rfl ?_
    refine g_if_le (tgt := 111) C dX9_heap_98 (by decide) hf (fun hf => ?_) (fun hf => ?_)
    · refine g_sub [1, 2, 3, 0, 5] rfl ?_
      exact j111 k21 k121 q21 q121 _ _ _ _ _ _ hf
    · refine g_iload C dX9_heap_101 6 rfl ?_
      refine g_iconst C (v := 5) dX9_heap_103 rfl ?_
      refine g_icmp_eq (tgt := 111) C dX9_heap_104 (by decide) hf (fun hf => ?_) (fun hf => ?_)
      · refine g_sub [1, 2, 3, 0, 5] rfl ?_
        exact j111 k21 k121 q21 q121 _ _ _ _ _ _ hf
      · refine g_iconst C (v := 1) dX9_heap_107 rfl ?_
        refine g_goto (tgt := 112) C dX9_heap_108 (by decide) ?_
        refine g_sub [1, 2, 3, 0, 5] rfl ?_
        exact j112 k21 k121 q21 q121 _ _ _ _ _ _ _ hf
  have j78 : ∀ (k21 : Int32 → Int32 → Int32 → Int32 → Int32 → Mem → Option (Int32 × Mem)) (k121 : Int32 → Int32 → Int32 → Int32 → Mem → Option (Int32 × Mem)), (∀ (v1 : Int32) (v2 : Int32) (v3 : Int32) (v4 : Int32) (v5 : Int32) (s : Mem), k21 v1 v2 v3 v4 v5 s = some (r, s') → G x (QI x w r s') 7 w 21 [(0, .ref (ad w 61)), (1, .int v1), (2, .int v2), (3, .int v3), (4, .int v4), (5, .int v5)] [] s) → (∀ (v1 : Int32) (v2 : Int32) (v3 : Int32) (v4 : Int32) (s : Mem), k121 v1 v2 v3 v4 s = some (r, s') → G x (QI x w r s') 7 w 121 [(1, .int v1), (2, .int v2), (3, .int v3), (4, .int v4)] [] s) → ∀ (v1 : Int32) (v3 : Int32) (v4 : Int32) (v5 : Int32) (v6 : Int32) (p0 : Bool) (p1 : Int32) (s : Mem), f_X9_heap_j78 N k21 k121 v1 v3 v4 v5 v6 p0 p1 s = some (r, s') → G x (QI x w r s') 7 w 78 [(0, .ref (ad w 61)), (1, .int v1), (3, .int v3), (4, .int v4), (5, .int v5), (6, .int v6)] [.int (bI p0), .int p1] s := by
    intro k21 k121 q21 q121 v1 v3 v4 v5 v6 p0 p1 s hf
    unfold f_X9_heap_j78 at hf
    refine g_iadd C dX9_heap_78 ?_
    refine g_istore_n (lv' := [(2, .int (p1 + (bI p0))), (0, .ref (ad w 61)), (1, .int v1), (3, .int v3), (4, .int v4), (5, .int v5), (6, .int v6)]) C dX9_heap_79 rfl (by decide) rfl ?_
    refine g_iload_n C dX9_heap_80 rfl 3 rfl ?_
    refine g_iload C dX9_heap_81 6 rfl ?_
    refine g_iconst C (v := 5) dX9_heap_83 rfl ?_
    refine g_icmp_ne (tgt := 91) C dX9_heap_84 (by decide) hf (fun hf => ?_) (fun hf => ?_)
    · refine g_iconst C (v := 0) dX9_heap_91 rfl ?_
      refine g_sub [1, 2, 0, 4, 5, 6] rfl ?_
      exact j92 k21 k121 q21 q121 _ _ _ _ _ _ _ _ hf
    · refine g_iconst C (v := 1) dX9_heap_87 rfl ?_
      refine g_goto (tgt := 92) C dX9_heap_88 (by decide) ?_
      refine g_sub [1, 2, 0, 4, 5, 6] rfl ?_
      exact j92 k21 k121 q21 q121 _ _ _ _ _ _ _ _ hf
  have j65 : ∀ (k21 : Int32 → Int32 → Int32 → Int32 → Int32 → Mem → Option (Int32 × Mem)) (k121 : Int32 → Int32 → Int32 → Int32 → Mem → Option (Int32 × Mem)), (∀ (v1 : Int32) (v2 : Int32) (v3 : Int32) (v4 : Int32) (v5 : Int32) (s : Mem), k21 v1 v2 v3 v4 v5 s = some (r, s') → G x (QI x w r s') 7 w 21 [(0, .ref (ad w 61)), (1, .int v1), (2, .int v2), (3, .int v3), (4, .int v4), (5, .int v5)] [] s) → (∀ (v1 : Int32) (v2 : Int32) (v3 : Int32) (v4 : Int32) (s : Mem), k121 v1 v2 v3 v4 s = some (r, s') → G x (QI x w r s') 7 w 121 [(1, .int v1), (2, .int v2), (3, .int v3), (4, .int v4)] [] s) → ∀ (v1 : Int32) (v2 : Int32) (v3 : Int32) (v4 : Int32) (v5 : Int32) (p0 : Int32) (s : Mem), f_X9_heap_j65 N k21 k121 v1 v2 v3 v4 v5 p0 s = some (r, s') → G x (QI x w r s') 7 w 65 [(0, .ref (ad w 61)), (1, .int v1), (2, .int v2), (3, .int v3), (4, .int v4), (5, .int v5)] [.int p0] s := by
    intro k21 k121 q21 q121 v1 v2 v3 v4 v5 p0 s hf
    unfold f_X9_heap_j65 at hf
    refine g_istore (lv' := [(6, .int p0), (0, .ref (ad w 61)), (1, .int v1), (2, .int v2), (3, .int v3), (4, .int v4), (5, .int v5)]) C dX9_heap_65 (by decide) rfl ?_
    refine g_iload_n C dX9_heap_67 rfl 3 rfl ?_
    refine g_iload C dX9_heap_68 0 rfl ?_
    refine g_if_ne (tgt := 77) C dX9_heap_70 (by decide) hf (fun hf => ?_) (fun hf => ?_)
    · refine g_iconst C (v := 0) dX9_heap_77 rfl ?_
      refine g_sub [1, 2, 4, 5, 6, 0] rfl ?_
      exact j78 k21 k121 q21 q121 _ _ _ _ _ _ _ _ hf
    · refine g_iconst C (v := 1) dX9_heap_73 rfl ?_
      refine g_goto (tgt := 78) C dX9_heap_74 (by decide) ?_
      refine g_sub [1, 2, 4, 5, 6, 0] rfl ?_
      exact j78 k21 k121 q21 q121 _ _ _ _ _ _ _ _ hf
  have j21 : ∀ (k121 : Int32 → Int32 → Int32 → Int32 → Mem → Option (Int32 × Mem)), (∀ (v1 : Int32) (v2 : Int32) (v3 : Int32) (v4 : Int32) (s : Mem), k121 v1 v2 v3 v4 s = some (r, s') → G x (QI x w r s') 7 w 121 [(1, .int v1), (2, .int v2), (3, .int v3), (4, .int v4)] [] s) → ∀ (n : Nat), ∀ (v1 : Int32) (v2 : Int32) (v3 : Int32) (v4 : Int32) (v5 : Int32) (s : Mem), f_X9_heap_L21 N k121 n v1 v2 v3 v4 v5 s = some (r, s') → G x (QI x w r s') 7 w 21 [(0, .ref (ad w 61)), (1, .int v1), (2, .int v2), (3, .int v3), (4, .int v4), (5, .int v5)] [] s := by
    intro k121 q121 n
    induction n with
    | zero => intro v1 v2 v3 v4 v5 s hf; cases hf
    | succ n ih =>
      intro v1 v2 v3 v4 v5 s hf
      unfold f_X9_heap_L21 at hf
      refine g_iload C dX9_heap_21 5 rfl ?_
      refine g_aload_n C dX9_heap_23 rfl 0 rfl ?_
      refine g_get C (R := RX9) (T := TX9) (N := 48) (k := 2) (v := .int (rI s 61 2)) kd_61 (by decide) rfl (in_61 hS) hinX9 (by decide) fl_X9_97 rfl rfl dX9_heap_24 ?_
      refine g_icmp_ge (tgt := 121) C dX9_heap_27 (by decide) hf (fun hf => ?_) (fun hf => ?_)
      · refine g_sub [1, 2, 3, 4] rfl ?_
        exact q121 _ _ _ _ _ hf
      · refine g_aload_n C dX9_heap_30 rfl 0 rfl ?_
        refine g_get C (R := RX9) (T := TX9) (N := 48) (k := 3) (v := .ref (ad w 63)) kd_61 (by decide) rfl (in_61 hS) hinX9 (by decide) fl_X9_13 rfl rfl dX9_heap_31 ?_
        refine g_bipush C (v := 6) dX9_heap_34 (by decide) ?_
        refine g_iload C dX9_heap_36 5 rfl ?_
        refine g_imul C dX9_heap_38 ?_
        refine g_iconst C (v := 1) dX9_heap_39 rfl ?_
        refine g_iadd C dX9_heap_40 ?_
        refine g_iald C kd_63 ln_63 (in_63 hS) dX9_heap_41 hf (fun hf => ?_)
        refine g_iconst C (v := 3) dX9_heap_42 rfl ?_
        refine g_icmp_ne (tgt := 64) C dX9_heap_43 (by decide) hf (fun hf => ?_) (fun hf => ?_)
        · refine g_iconst C (v := (-1)) dX9_heap_64 rfl ?_
          exact j65 (f_X9_heap_L21 N k121 n) k121 ih q121 _ _ _ _ _ _ _ hf
        · refine g_aload_n C dX9_heap_46 rfl 0 rfl ?_
          refine g_get C (R := RX9) (T := TX9) (N := 48) (k := 3) (v := .ref (ad w 63)) kd_61 (by decide) rfl (in_61 hS) hinX9 (by decide) fl_X9_13 rfl rfl dX9_heap_47 ?_
          refine g_bipush C (v := 6) dX9_heap_50 (by decide) ?_
          refine g_iload C dX9_heap_52 5 rfl ?_
          refine g_imul C dX9_heap_54 ?_
          refine g_iconst C (v := 3) dX9_heap_55 rfl ?_
          refine g_iadd C dX9_heap_56 ?_
          refine g_iald C kd_63 ln_63 (in_63 hS) dX9_heap_57 hf (fun hf => ?_)
          refine g_bipush C (v := 10) dX9_heap_58 (by decide) ?_
          refine g_iremK C dX9_heap_60 (by decide) ?_
          refine g_goto (tgt := 65) C dX9_heap_61 (by decide) ?_
          exact j65 (f_X9_heap_L21 N k121 n) k121 ih q121 _ _ _ _ _ _ _ hf
  refine g_lv (lv' := [(0, .ref (ad w 61)), (1, .int a1)]) rfl ?_
  unfold f_X9_heap at hf
  refine g_iload_n C dX9_heap_0 rfl 1 rfl ?_
  refine g_iconst C (v := 0) dX9_heap_1 rfl ?_
  refine g_iconst C (v := 3) dX9_heap_2 rfl ?_
  refine g_callSB C [.int a1, .int 0, .int 3] (fun _ _ h => c_X9_in (kl x) N w _ _ _ h) (g_cwS C hR ml_X9_93 sm_X9_in ini_X9 cd_X9_in hd_X9_in (by decide)) rfl _ rfl (Nat.le_of_ble_eq_true rfl) dX9_heap_3 hf (fun r1 s1 hf => ?_)
  refine g_ifneB (tgt := 11) C dX9_heap_6 (by decide) hf (fun hf => ?_) (fun hf => ?_)
  · refine g_iconst C (v := 0) dX9_heap_11 rfl ?_
    refine g_istore_n (lv' := [(2, .int 0), (0, .ref (ad w 61)), (1, .int a1)]) C dX9_heap_12 rfl (by decide) rfl ?_
    refine g_iconst C (v := 0) dX9_heap_13 rfl ?_
    refine g_istore_n (lv' := [(3, .int 0), (2, .int 0), (0, .ref (ad w 61)), (1, .int a1)]) C dX9_heap_14 rfl (by decide) rfl ?_
    refine g_iconst C (v := 0) dX9_heap_15 rfl ?_
    refine g_istore (lv' := [(4, .int 0), (3, .int 0), (2, .int 0), (0, .ref (ad w 61)), (1, .int a1)]) C dX9_heap_16 (by decide) rfl ?_
    refine g_iconst C (v := 0) dX9_heap_18 rfl ?_
    refine g_istore (lv' := [(5, .int 0), (4, .int 0), (3, .int 0), (2, .int 0), (0, .ref (ad w 61)), (1, .int a1)]) C dX9_heap_19 (by decide) rfl ?_
    refine g_sub [4, 5, 3, 2, 1, 0] rfl ?_
    exact j21 (f_X9_heap_j121 N) j121 N _ _ _ _ _ _ hf
  · refine g_iconst C (v := (-1)) dX9_heap_9 rfl ?_
    exact g_iret C dX9_heap_10 hf

set_option maxHeartbeats 4000000 in
set_option maxRecDepth 100000 in
theorem c_X9_valley (l : Launch) (N : Nat) (w : WX) (hS : SS w = Sm) (a1 : Int32) (a2 : Int32) (a3 : Int32) {s s' : Mem} {r : Int32} (hf : f_X9_valley N a1 a2 a3 s = some (r, s')) : CI l yX9_valley (wz yX9_valley cX9_valley 12 (some .int)) ({ frames := 5, cells := 0, slots := 0, locals := 122 } : Room) [.ref (ad w 61), .int a1, .int a2, .int a3] w s r s' := by
  refine met_startI (cc := cX9_valley) (ret := (some .int)) (own := RX9) (maxL := 12) (by decide) rfl (Nat.le_of_ble_eq_true rfl) (fun x C hR hl => ?_)
  have j167 : ∀ (k33 : Int32 → Int32 → Int32 → Int32 → Int32 → Mem → Option (Int32 × Mem)), (∀ (v1 : Int32) (v2 : Int32) (v3 : Int32) (v4 : Int32) (v5 : Int32) (s : Mem), k33 v1 v2 v3 v4 v5 s = some (r, s') → G x (QI x w r s') 12 w 33 [(0, .ref (ad w 61)), (1, .int v1), (2, .int v2), (3, .int v3), (4, .int v4), (5, .int v5)] [] s) → ∀ (v1 : Int32) (v2 : Int32) (v3 : Int32) (v4 : Int32) (v5 : Int32) (s : Mem), f_X9_valley_j167 N k33 v1 v2 v3 v4 v5 s = some (r, s') → G x (QI x w r s') 12 w 167 [(0, .ref (ad w 61)), (1, .int v1), (2, .int v2), (3, .int v3), (4, .int v4), (5, .int v5)] [] s := by
    intro k33 q33 v1 v2 v3 v4 v5 s hf
    unfold f_X9_valley_j167 at hf
    refine g_iinc (v' := v5 + 1) (lv' := [(5, .int (v5 + 1)), (0, .ref (ad w 61)), (1, .int v1), (2, .int v2), (3, .int v3), (4, .int v4)]) C dX9_valley_167 5 rfl rfl (by decide) rfl ?_
    refine g_goto (tgt := 33) C dX9_valley_170 (by decide) ?_
    refine g_sub [1, 2, 3, 4, 5, 0] rfl ?_
    exact q33 _ _ _ _ _ _ hf
  have j164 : ∀ (k33 : Int32 → Int32 → Int32 → Int32 → Int32 → Mem → Option (Int32 × Mem)), (∀ (v1 : Int32) (v2 : Int32) (v3 : Int32) (v4 : Int32) (v5 : Int32) (s : Mem), k33 v1 v2 v3 v4 v5 s = some (r, s') → G x (QI x w r s') 12 w 33 [(0, .ref (ad w 61)), (1, .int v1), (2, .int v2), (3, .int v3), (4, .int v4), (5, .int v5)] [] s) → ∀ (v1 : Int32) (v2 : Int32) (v3 : Int32) (v5 : Int32) (p0 : Bool) (p1 : Int32) (s : Mem), f_X9_valley_j164 N k33 v1 v2 v3 v5 p0 p1 s = some (r, s') → G x (QI x w r s') 12 w 164 [(0, .ref (ad w 61)), (1, .int v1), (2, .int v2), (3, .int v3), (5, .int v5)] [.int (bI p0), .int p1] s := by
    intro k33 q33 v1 v2 v3 v5 p0 p1 s hf
    unfold f_X9_valley_j164 at hf
    refine g_iadd C dX9_valley_164 ?_
    refine g_istore (lv' := [(4, .int (p1 + (bI p0))), (0, .ref (ad w 61)), (1, .int v1), (2, .int v2), (3, .int v3), (5, .int v5)]) C dX9_valley_165 (by decide) rfl ?_
    refine g_sub [1, 2, 3, 4, 0, 5] rfl ?_
    exact j167 k33 q33 _ _ _ _ _ _ hf
  have j150 : ∀ (k33 : Int32 → Int32 → Int32 → Int32 → Int32 → Mem → Option (Int32 × Mem)), (∀ (v1 : Int32) (v2 : Int32) (v3 : Int32) (v4 : Int32) (v5 : Int32) (s : Mem), k33 v1 v2 v3 v4 v5 s = some (r, s') → G x (QI x w r s') 12 w 33 [(0, .ref (ad w 61)), (1, .int v1), (2, .int v2), (3, .int v3), (4, .int v4), (5, .int v5)] [] s) → ∀ (v1 : Int32) (v2 : Int32) (v3 : Int32) (v4 : Int32) (v5 : Int32) (p0 : Bool) (s : Mem), f_X9_valley_j150 N k33 v1 v2 v3 v4 v5 p0 s = some (r, s') → G x (QI x w r s') 12 w 150 [(0, .ref (ad w 61)), (1, .int v1), (2, .int v2), (3, .int v3), (4, .int v4), (5, .int v5)] [.int (bI p0)] s := by
    intro k33 q33 v1 v2 v3 v4 v5 p0 s hf
    unfold f_X9_valley_j150 at hf
    refine g_istore (lv' := [(11, .int (bI p0)), (0, .ref (ad w 61)), (1, .int v1), (2, .int v2), (3, .int v3), (4, .int v4), (5, .int v5)]) C dX9_valley_150 (by decide) rfl ?_
    refine g_iload C dX9_valley_152 5 rfl ?_
    refine g_iload C dX9_valley_154 0 rfl ?_
    refine g_ifeqB (tgt := 163) C dX9_valley_156 (by decide) hf (fun hf => ?_) (fun hf => ?_)
    · refine g_iconst C (v := 0) dX9_valley_163 rfl ?_
      refine g_sub [1, 2, 3, 4, 6] rfl ?_
      exact j164 k33 q33 _ _ _ _ _ _ _ hf
    · refine g_iconst C (v := 1) dX9_valley_159 rfl ?_
      refine g_goto (tgt := 164) C dX9_valley_160 (by decide) ?_
      refine g_sub [1, 2, 3, 4, 6] rfl ?_
      exact j164 k33 q33 _ _ _ _ _ _ _ hf
  have j103 : ∀ (k33 : Int32 → Int32 → Int32 → Int32 → Int32 → Mem → Option (Int32 × Mem)), (∀ (v1 : Int32) (v2 : Int32) (v3 : Int32) (v4 : Int32) (v5 : Int32) (s : Mem), k33 v1 v2 v3 v4 v5 s = some (r, s') → G x (QI x w r s') 12 w 33 [(0, .ref (ad w 61)), (1, .int v1), (2, .int v2), (3, .int v3), (4, .int v4), (5, .int v5)] [] s) → ∀ (v1 : Int32) (v2 : Int32) (v3 : Int32) (v4 : Int32) (v5 : Int32) (s : Mem), f_X9_valley_j103 N k33 v1 v2 v3 v4 v5 s = some (r, s') → G x (QI x w r s') 12 w 103 [(0, .ref (ad w 61)), (1, .int v1), (2, .int v2), (3, .int v3), (4, .int v4), (5, .int v5)] [] s := by
    intro k33 q33 v1 v2 v3 v4 v5 s hf
    unfold f_X9_valley_j103 at hf
    refine g_iconst C (v := 0) dX9_valley_103 rfl ?_
    refine g_goto (tgt := 150) C dX9_valley_104 (by decide) ?_
    exact j150 k33 q33 _ _ _ _ _ _ _ hf
  have j134 : ∀ (k33 : Int32 → Int32 → Int32 → Int32 → Int32 → Mem → Option (Int32 × Mem)), (∀ (v1 : Int32) (v2 : Int32) (v3 : Int32) (v4 : Int32) (v5 : Int32) (s : Mem), k33 v1 v2 v3 v4 v5 s = some (r, s') → G x (QI x w r s') 12 w 33 [(0, .ref (ad w 61)), (1, .int v1), (2, .int v2), (3, .int v3), (4, .int v4), (5, .int v5)] [] s) → ∀ (v1 : Int32) (v2 : Int32) (v3 : Int32) (v4 : Int32) (v5 : Int32) (s : Mem), f_X9_valley_j134 N k33 v1 v2 v3 v4 v5 s = some (r, s') → G x (QI x w r s') 12 w 134 [(0, .ref (ad w 61)), (1, .int v1), (2, .int v2), (3, .int v3), (4, .int v4), (5, .int v5)] [] s := by
    intro k33 q33 v1 v2 v3 v4 v5 s hf
    unfold f_X9_valley_j134 at hf
    refine g_iconst C (v := 0) dX9_valley_134 rfl ?_
    refine g_goto (tgt := 150) C dX9_valley_135 (by decide) ?_
    exact j150 k33 q33 _ _ _ _ _ _ _ hf
  have j33 : ∀ (n : Nat), ∀ (v1 : Int32) (v2 : Int32) (v3 : Int32) (v4 : Int32) (v5 : Int32) (s : Mem), f_X9_valley_L33 N n v1 v2 v3 v4 v5 s = some (r, s') → G x (QI x w r s') 12 w 33 [(0, .ref (ad w 61)), (1, .int v1), (2, .int v2), (3, .int v3), (4, .int v4), (5, .int v5)] [] s := by
    intro n
    induction n with
    | zero => intro v1 v2 v3 v4 v5 s hf; cases hf
    | succ n ih =>
      intro v1 v2 v3 v4 v5 s hf
      unfold f_X9_valley_L33 at hf
      refine g_iload C dX9_valley_33 5 rfl ?_
      refine g_aload_n C dX9_valley_35 rfl 0 rfl ?_
      refine g_get C (R := RX9) (T := TX9) (N := 48) (k := 0) (v := .int (rI s 61 0)) kd_61 (by decide) rfl (in_61 hS) hinX9 (by decide) fl_X9_89 rfl rfl dX9_valley_36 ?_
      refine g_icmp_ge (tgt := 173) C dX9_valley_39 (by decide) hf (fun hf => ?_) (fun hf => ?_)
      · refine g_iload C dX9_valley_173 4 rfl ?_
        exact g_iret C dX9_valley_175 hf
      · refine g_aload_n C dX9_valley_42 rfl 0 rfl ?_
        refine g_get C (R := RX9) (T := TX9) (N := 48) (k := 1) (v := .ref (ad w 62)) kd_61 (by decide) rfl (in_61 hS) hinX9 (by decide) fl_X9_7 rfl rfl dX9_valley_43 ?_
        refine g_iconst C (v := 4) dX9_valley_46 rfl ?_
        refine g_iload C dX9_valley_47 5 rfl ?_
        refine g_imul C dX9_valley_49 ?_
        refine g_iald C kd_62 ln_62 (in_62 hS) dX9_valley_50 hf (fun hf => ?_)
        refine g_iload_n C dX9_valley_51 rfl 1 rfl ?_
        refine g_icmp_ne (tgt := 167) C dX9_valley_52 (by decide) hf (fun hf => ?_) (fun hf => ?_)
        · exact j167 (f_X9_valley_L33 N n) ih _ _ _ _ _ _ hf
        · refine g_aload_n C dX9_valley_55 rfl 0 rfl ?_
          refine g_iload C dX9_valley_56 5 rfl ?_
          refine g_callVL C (R := RX9) (T := TX9) (N := 48) [.int v5] (fun _ _ h => c_X9_allOf (kl x) N w hS _ h) (g_cwV C hR ml_X9_149 im_X9_allOf sl_X9_allOf ini_X9 cd_X9_allOf hd_X9_allOf (by decide)) kd_61 (by decide) rfl (in_61 hS) rfl _ rfl (Nat.le_of_ble_eq_true rfl) dX9_valley_58 hf (fun r1 s1 hf => ?_)
          refine g_lstore (lv' := [(6, .long r1), (0, .ref (ad w 61)), (1, .int v1), (2, .int v2), (3, .int v3), (4, .int v4), (5, .int v5)]) C dX9_valley_61 (by decide) rfl ?_
          refine g_aload_n C dX9_valley_63 rfl 1 rfl ?_
          refine g_iload C dX9_valley_64 6 rfl ?_
          refine g_iload_n C dX9_valley_66 rfl 3 rfl ?_
          refine g_callVL C (R := RX9) (T := TX9) (N := 48) [.int v5, .int v2] (fun _ _ h => c_X9_partOf (kl x) N w hS _ _ h) (g_cwV C hR ml_X9_158 im_X9_partOf sl_X9_partOf ini_X9 cd_X9_partOf hd_X9_partOf (by decide)) kd_61 (by decide) rfl (in_61 hS) rfl _ rfl (Nat.le_of_ble_eq_true rfl) dX9_valley_67 hf (fun r2 s2 hf => ?_)
          refine g_lstore (lv' := [(8, .long r2), (6, .long r1), (0, .ref (ad w 61)), (1, .int v1), (2, .int v2), (3, .int v3), (4, .int v4), (5, .int v5)]) C dX9_valley_70 (by decide) rfl ?_
          refine g_aload_n C dX9_valley_72 rfl 2 rfl ?_
          refine g_iload C dX9_valley_73 7 rfl ?_
          refine g_callVI C (R := RX9) (T := TX9) (N := 48) [.int v5] (fun _ _ h => c_X9_bestOf (kl x) N w hS _ h) (g_cwV C hR ml_X9_153 im_X9_bestOf sl_X9_bestOf ini_X9 cd_X9_bestOf hd_X9_bestOf (by decide)) kd_61 (by decide) rfl (in_61 hS) rfl _ rfl (Nat.le_of_ble_eq_true rfl) dX9_valley_75 hf (fun r3 s3 hf => ?_)
          refine g_istore (lv' := [(10, .int r3), (8, .long r2), (6, .long r1), (0, .ref (ad w 61)), (1, .int v1), (2, .int v2), (3, .int v3), (4, .int v4), (5, .int v5)]) C dX9_valley_78 (by decide) rfl ?_
          refine g_iload_n C dX9_valley_80 rfl 6 rfl ?_
          refine g_if_ne (tgt := 107) C dX9_valley_81 (by decide) hf (fun hf => ?_) (fun hf => ?_)
          · refine g_iload_n C dX9_valley_107 rfl 6 rfl ?_
            refine g_iconst C (v := 1) dX9_valley_108 rfl ?_
            refine g_icmp_ne (tgt := 138) C dX9_valley_109 (by decide) hf (fun hf => ?_) (fun hf => ?_)
            · refine g_lload C dX9_valley_138 1 rfl ?_
              refine g_lconst C (v := 0) dX9_valley_140 rfl ?_
              refine g_lcmp_le (tgt := 149) C dX9_valley_141 dX9_valley_142 (by decide) hf (fun hf => ?_) (fun hf => ?_)
              · refine g_iconst C (v := 0) dX9_valley_149 rfl ?_
                refine g_sub [3, 4, 5, 6, 7, 8] rfl ?_
                exact j150 (f_X9_valley_L33 N n) ih _ _ _ _ _ _ _ hf
              · refine g_iconst C (v := 1) dX9_valley_145 rfl ?_
                refine g_goto (tgt := 150) C dX9_valley_146 (by decide) ?_
                refine g_sub [3, 4, 5, 6, 7, 8] rfl ?_
                exact j150 (f_X9_valley_L33 N n) ih _ _ _ _ _ _ _ hf
            · refine g_iload C dX9_valley_112 0 rfl ?_
              refine g_if_lt (tgt := 134) C dX9_valley_114 (by decide) hf (fun hf => ?_) (fun hf => ?_)
              · refine g_sub [3, 4, 5, 6, 7, 8] rfl ?_
                exact j134 (f_X9_valley_L33 N n) ih _ _ _ _ _ _ hf
              · refine g_aload_n C dX9_valley_117 rfl 3 rfl ?_
                refine g_iload C dX9_valley_118 8 rfl ?_
                refine g_callVI C (R := RX9) (T := TX9) (N := 48) [.int v5] (fun _ _ h => c_X9_seenOf (kl x) N w hS _ h) (g_cwV C hR ml_X9_104 im_X9_seenOf sl_X9_seenOf ini_X9 cd_X9_seenOf hd_X9_seenOf (by decide)) kd_61 (by decide) rfl (in_61 hS) rfl _ rfl (Nat.le_of_ble_eq_true rfl) dX9_valley_120 hf (fun r4 s4 hf => ?_)
                refine g_iload C dX9_valley_123 0 rfl ?_
                refine g_isub C dX9_valley_125 ?_
                refine g_iload_n C dX9_valley_126 rfl 5 rfl ?_
                refine g_icmp_lt (tgt := 134) C dX9_valley_127 (by decide) hf (fun hf => ?_) (fun hf => ?_)
                · refine g_sub [3, 4, 5, 6, 7, 8] rfl ?_
                  exact j134 (f_X9_valley_L33 N n) ih _ _ _ _ _ _ hf
                · refine g_iconst C (v := 1) dX9_valley_130 rfl ?_
                  refine g_goto (tgt := 150) C dX9_valley_131 (by decide) ?_
                  refine g_sub [3, 4, 5, 6, 7, 8] rfl ?_
                  exact j150 (f_X9_valley_L33 N n) ih _ _ _ _ _ _ _ hf
          · refine g_lload C dX9_valley_84 2 rfl ?_
            refine g_lconst C (v := 0) dX9_valley_86 rfl ?_
            refine g_lcmp_le (tgt := 103) C dX9_valley_87 dX9_valley_88 (by decide) hf (fun hf => ?_) (fun hf => ?_)
            · refine g_sub [3, 4, 5, 6, 7, 8] rfl ?_
              exact j103 (f_X9_valley_L33 N n) ih _ _ _ _ _ _ hf
            · refine g_lload C dX9_valley_91 1 rfl ?_
              refine g_lload C dX9_valley_93 2 rfl ?_
              refine g_lcmp_ne (tgt := 103) C dX9_valley_95 dX9_valley_96 (by decide) hf (fun hf => ?_) (fun hf => ?_)
              · refine g_sub [3, 4, 5, 6, 7, 8] rfl ?_
                exact j103 (f_X9_valley_L33 N n) ih _ _ _ _ _ _ hf
              · refine g_iconst C (v := 1) dX9_valley_99 rfl ?_
                refine g_goto (tgt := 150) C dX9_valley_100 (by decide) ?_
                refine g_sub [3, 4, 5, 6, 7, 8] rfl ?_
                exact j150 (f_X9_valley_L33 N n) ih _ _ _ _ _ _ _ hf
  refine g_lv (lv' := [(0, .ref (ad w 61)), (1, .int a1), (2, .int a2), (3, .int a3)]) rfl ?_
  unfold f_X9_valley at hf
  refine g_iload_n C dX9_valley_0 rfl 1 rfl ?_
  refine g_iconst C (v := 0) dX9_valley_1 rfl ?_
  refine g_iconst C (v := 5) dX9_valley_2 rfl ?_
  refine g_callSB C [.int a1, .int 0, .int 5] (fun _ _ h => c_X9_in (kl x) N w _ _ _ h) (g_cwS C hR ml_X9_93 sm_X9_in ini_X9 cd_X9_in hd_X9_in (by decide)) rfl _ rfl (Nat.le_of_ble_eq_true rfl) dX9_valley_3 hf (fun r1 s1 hf => ?_)
  refine g_ifeqB (tgt := 25) C dX9_valley_6 (by decide) hf (fun hf => ?_) (fun hf => ?_)
  · refine g_iconst C (v := (-1)) dX9_valley_25 rfl ?_
    exact g_iret C dX9_valley_26 hf
  · refine g_iload_n C dX9_valley_9 rfl 2 rfl ?_
    refine g_callSB C [.int a2] (fun _ _ h => c_X9_isYear (kl x) N w _ h) (g_cwS C hR ml_X9_111 sm_X9_isYear ini_X9 cd_X9_isYear hd_X9_isYear (by decide)) rfl _ rfl (Nat.le_of_ble_eq_true rfl) dX9_valley_10 hf (fun r2 s2 hf => ?_)
    refine g_ifeqB (tgt := 25) C dX9_valley_13 (by decide) hf (fun hf => ?_) (fun hf => ?_)
    · refine g_iconst C (v := (-1)) dX9_valley_25 rfl ?_
      exact g_iret C dX9_valley_26 hf
    · refine g_iload_n C dX9_valley_16 rfl 3 rfl ?_
      refine g_iconst C (v := 0) dX9_valley_17 rfl ?_
      refine g_iconst C (v := 2) dX9_valley_18 rfl ?_
      refine g_callSB C [.int a3, .int 0, .int 2] (fun _ _ h => c_X9_in (kl x) N w _ _ _ h) (g_cwS C hR ml_X9_93 sm_X9_in ini_X9 cd_X9_in hd_X9_in (by decide)) rfl _ rfl (Nat.le_of_ble_eq_true rfl) dX9_valley_19 hf (fun r3 s3 hf => ?_)
      refine g_ifneB (tgt := 27) C dX9_valley_22 (by decide) hf (fun hf => ?_) (fun hf => ?_)
      · refine g_iconst C (v := 0) dX9_valley_27 rfl ?_
        refine g_istore (lv' := [(4, .int 0), (0, .ref (ad w 61)), (1, .int a1), (2, .int a2), (3, .int a3)]) C dX9_valley_28 (by decide) rfl ?_
        refine g_iconst C (v := 0) dX9_valley_30 rfl ?_
        refine g_istore (lv' := [(5, .int 0), (4, .int 0), (0, .ref (ad w 61)), (1, .int a1), (2, .int a2), (3, .int a3)]) C dX9_valley_31 (by decide) rfl ?_
        refine g_sub [2, 3, 4, 5, 1, 0] rfl ?_
        exact j33 N _ _ _ _ _ _ hf
      · refine g_iconst C (v := (-1)) dX9_valley_25 rfl ?_
        exact g_iret C dX9_valley_26 hf

set_option maxHeartbeats 4000000 in
set_option maxRecDepth 100000 in
theorem c_X9_question (l : Launch) (N : Nat) (w : WX) (hS : SS w = Sm) (a1 : Int32) (a2 : Int32) (a3 : Int32) {s s' : Mem} {r : Int32} (hf : f_X9_question N a1 a2 a3 s = some (r, s')) : CI l yX9_question (wz yX9_question cX9_question 4 (some .int)) ({ frames := 2, cells := 0, slots := 0, locals := 43 } : Room) [.ref (ad w 61), .int a1, .int a2, .int a3] w s r s' := by
  refine met_startI (cc := cX9_question) (ret := (some .int)) (own := RX9) (maxL := 4) (by decide) rfl (Nat.le_of_ble_eq_true rfl) (fun x C hR hl => ?_)
  refine g_lv (lv' := [(0, .ref (ad w 61)), (1, .int a1), (2, .int a2), (3, .int a3)]) rfl ?_
  unfold f_X9_question at hf
  refine g_aload_n C dX9_question_0 rfl 0 rfl ?_
  refine g_iload_n C dX9_question_1 rfl 1 rfl ?_
  refine g_callVB C (R := RX9) (T := TX9) (N := 48) [.int a1] (fun _ _ h => c_X9_isPerson (kl x) N w hS _ h) (g_cwV C hR ml_X9_100 im_X9_isPerson sl_X9_isPerson ini_X9 cd_X9_isPerson hd_X9_isPerson (by decide)) kd_61 (by decide) rfl (in_61 hS) rfl _ rfl (Nat.le_of_ble_eq_true rfl) dX9_question_2 hf (fun r1 s1 hf => ?_)
  refine g_ifeqB (tgt := 25) C dX9_question_5 (by decide) hf (fun hf => ?_) (fun hf => ?_)
  · refine g_iconst C (v := (-1)) dX9_question_25 rfl ?_
    exact g_iret C dX9_question_26 hf
  · refine g_iload_n C dX9_question_8 rfl 2 rfl ?_
    refine g_callSB C [.int a2] (fun _ _ h => c_X9_isYear (kl x) N w _ h) (g_cwS C hR ml_X9_111 sm_X9_isYear ini_X9 cd_X9_isYear hd_X9_isYear (by decide)) rfl _ rfl (Nat.le_of_ble_eq_true rfl) dX9_question_9 hf (fun r2 s2 hf => ?_)
    refine g_ifeqB (tgt := 25) C dX9_question_12 (by decide) hf (fun hf => ?_) (fun hf => ?_)
    · refine g_iconst C (v := (-1)) dX9_question_25 rfl ?_
      exact g_iret C dX9_question_26 hf
    · refine g_iload_n C dX9_question_15 rfl 3 rfl ?_
      refine g_iconst C (v := 1) dX9_question_16 rfl ?_
      refine g_bipush C (v := 99) dX9_question_17 (by decide) ?_
      refine g_callSB C [.int a3, .int 1, .int 99] (fun _ _ h => c_X9_in (kl x) N w _ _ _ h) (g_cwS C hR ml_X9_93 sm_X9_in ini_X9 cd_X9_in hd_X9_in (by decide)) rfl _ rfl (Nat.le_of_ble_eq_true rfl) dX9_question_19 hf (fun r3 s3 hf => ?_)
      refine g_ifneB (tgt := 27) C dX9_question_22 (by decide) hf (fun hf => ?_) (fun hf => ?_)
      · refine g_aload_n C dX9_question_27 rfl 0 rfl ?_
        refine g_get C (R := RX9) (T := TX9) (N := 48) (k := 9) (v := .int (rI s3 61 9)) kd_61 (by decide) rfl (in_61 hS) hinX9 (by decide) fl_X9_133 rfl rfl dX9_question_28 ?_
        refine g_bipush C (v := 8) dX9_question_31 (by decide) ?_
        refine g_icmp_ne (tgt := 39) C dX9_question_33 (by decide) hf (fun hf => ?_) (fun hf => ?_)
        · refine g_aload_n C dX9_question_39 rfl 0 rfl ?_
          refine g_get C (R := RX9) (T := TX9) (N := 48) (k := 10) (v := .ref (ad w 67)) kd_61 (by decide) rfl (in_61 hS) hinX9 (by decide) fl_X9_25 rfl rfl dX9_question_40 ?_
          refine g_iconst C (v := 4) dX9_question_43 rfl ?_
          refine g_aload_n C dX9_question_44 rfl 0 rfl ?_
          refine g_get C (R := RX9) (T := TX9) (N := 48) (k := 9) (v := .int (rI s3 61 9)) kd_61 (by decide) rfl (in_61 hS) hinX9 (by decide) fl_X9_133 rfl rfl dX9_question_45 ?_
          refine g_imul C dX9_question_48 ?_
          refine g_iload_n C dX9_question_49 rfl 1 rfl ?_
          refine g_iast C kd_67 ln_67 (in_67 hS) dX9_question_50 hf (fun hf => ?_)
          refine g_nameS hf (fun s4 hf => ?_)
          refine g_aload_n C dX9_question_51 rfl 0 rfl ?_
          refine g_get C (R := RX9) (T := TX9) (N := 48) (k := 10) (v := .ref (ad w 67)) kd_61 (by decide) rfl (in_61 hS) hinX9 (by decide) fl_X9_25 rfl rfl dX9_question_52 ?_
          refine g_iconst C (v := 4) dX9_question_55 rfl ?_
          refine g_aload_n C dX9_question_56 rfl 0 rfl ?_
          refine g_get C (R := RX9) (T := TX9) (N := 48) (k := 9) (v := .int (rI s4 61 9)) kd_61 (by decide) rfl (in_61 hS) hinX9 (by decide) fl_X9_133 rfl rfl dX9_question_57 ?_
          refine g_imul C dX9_question_60 ?_
          refine g_iconst C (v := 1) dX9_question_61 rfl ?_
          refine g_iadd C dX9_question_62 ?_
          refine g_iload_n C dX9_question_63 rfl 2 rfl ?_
          refine g_iast C kd_67 ln_67 (in_67 hS) dX9_question_64 hf (fun hf => ?_)
          refine g_nameS hf (fun s5 hf => ?_)
          refine g_aload_n C dX9_question_65 rfl 0 rfl ?_
          refine g_get C (R := RX9) (T := TX9) (N := 48) (k := 10) (v := .ref (ad w 67)) kd_61 (by decide) rfl (in_61 hS) hinX9 (by decide) fl_X9_25 rfl rfl dX9_question_66 ?_
          refine g_iconst C (v := 4) dX9_question_69 rfl ?_
          refine g_aload_n C dX9_question_70 rfl 0 rfl ?_
          refine g_get C (R := RX9) (T := TX9) (N := 48) (k := 9) (v := .int (rI s5 61 9)) kd_61 (by decide) rfl (in_61 hS) hinX9 (by decide) fl_X9_133 rfl rfl dX9_question_71 ?_
          refine g_imul C dX9_question_74 ?_
          refine g_iconst C (v := 2) dX9_question_75 rfl ?_
          refine g_iadd C dX9_question_76 ?_
          refine g_iload_n C dX9_question_77 rfl 3 rfl ?_
          refine g_iast C kd_67 ln_67 (in_67 hS) dX9_question_78 hf (fun hf => ?_)
          refine g_nameS hf (fun s6 hf => ?_)
          refine g_aload_n C dX9_question_79 rfl 0 rfl ?_
          refine g_get C (R := RX9) (T := TX9) (N := 48) (k := 10) (v := .ref (ad w 67)) kd_61 (by decide) rfl (in_61 hS) hinX9 (by decide) fl_X9_25 rfl rfl dX9_question_80 ?_
          refine g_iconst C (v := 4) dX9_question_83 rfl ?_
          refine g_aload_n C dX9_question_84 rfl 0 rfl ?_
          refine g_get C (R := RX9) (T := TX9) (N := 48) (k := 9) (v := .int (rI s6 61 9)) kd_61 (by decide) rfl (in_61 hS) hinX9 (by decide) fl_X9_133 rfl rfl dX9_question_85 ?_
          refine g_imul C dX9_question_88 ?_
          refine g_iconst C (v := 3) dX9_question_89 rfl ?_
          refine g_iadd C dX9_question_90 ?_
          refine g_iconst C (v := 0) dX9_question_91 rfl ?_
          refine g_iast C kd_67 ln_67 (in_67 hS) dX9_question_92 hf (fun hf => ?_)
          refine g_nameS hf (fun s7 hf => ?_)
          refine g_aload_n C dX9_question_93 rfl 0 rfl ?_
          refine g_dup C dX9_question_94 rfl ?_
          refine g_get C (R := RX9) (T := TX9) (N := 48) (k := 9) (v := .int (rI s7 61 9)) kd_61 (by decide) rfl (in_61 hS) hinX9 (by decide) fl_X9_133 rfl rfl dX9_question_95 ?_
          refine g_iconst C (v := 1) dX9_question_98 rfl ?_
          refine g_iadd C dX9_question_99 ?_
          refine g_putI C (R := RX9) (T := TX9) (N := 48) (k := 9) (ty := .int) tyX9 tyX9_ok nmX9 kd_61 (by decide) rfl (in_61 hS) hinX9 (by decide) fl_X9_133 rfl rfl rfl rfl rfl (Nat.le_of_ble_eq_true rfl) fs_9_9 dX9_question_100 ?_
          refine g_nameS hf (fun s8 hf => ?_)
          refine g_aload_n C dX9_question_103 rfl 0 rfl ?_
          refine g_get C (R := RX9) (T := TX9) (N := 48) (k := 9) (v := .int (rI s8 61 9)) kd_61 (by decide) rfl (in_61 hS) hinX9 (by decide) fl_X9_133 rfl rfl dX9_question_104 ?_
          refine g_iconst C (v := 1) dX9_question_107 rfl ?_
          refine g_isub C dX9_question_108 ?_
          exact g_iret C dX9_question_109 hf
        · refine g_bipush C (v := (-2)) dX9_question_36 (by decide) ?_
          exact g_iret C dX9_question_38 hf
      · refine g_iconst C (v := (-1)) dX9_question_25 rfl ?_
        exact g_iret C dX9_question_26 hf

set_option maxHeartbeats 4000000 in
set_option maxRecDepth 100000 in
theorem c_X9_answered (l : Launch) (N : Nat) (w : WX) (hS : SS w = Sm) {s s' : Mem} {r : Int32} (hf : f_X9_answered N s = some (r, s')) : CI l yX9_answered (wz yX9_answered cX9_answered 3 (some .int)) ({ frames := 0, cells := 0, slots := 0, locals := 0 } : Room) [.ref (ad w 61)] w s r s' := by
  refine met_startI (cc := cX9_answered) (ret := (some .int)) (own := RX9) (maxL := 3) (by decide) rfl (Nat.le_of_ble_eq_true rfl) (fun x C hR hl => ?_)
  have j31 : ∀ (k4 : Int32 → Int32 → Mem → Option (Int32 × Mem)), (∀ (v1 : Int32) (v2 : Int32) (s : Mem), k4 v1 v2 s = some (r, s') → G x (QI x w r s') 3 w 4 [(0, .ref (ad w 61)), (1, .int v1), (2, .int v2)] [] s) → ∀ (v2 : Int32) (p0 : Bool) (p1 : Int32) (s : Mem), f_X9_answered_j31 N k4 v2 p0 p1 s = some (r, s') → G x (QI x w r s') 3 w 31 [(0, .ref (ad w 61)), (2, .int v2)] [.int (bI p0), .int p1] s := by
    intro k4 q4 v2 p0 p1 s hf
    unfold f_X9_answered_j31 at hf
    refine g_iadd C dX9_answered_31 ?_
    refine g_istore_n (lv' := [(1, .int (p1 + (bI p0))), (0, .ref (ad w 61)), (2, .int v2)]) C dX9_answered_32 rfl (by decide) rfl ?_
    refine g_iinc (v' := v2 + 1) (lv' := [(2, .int (v2 + 1)), (1, .int (p1 + (bI p0))), (0, .ref (ad w 61))]) C dX9_answered_33 2 rfl rfl (by decide) rfl ?_
    refine g_goto (tgt := 4) C dX9_answered_36 (by decide) ?_
    refine g_sub [2, 1, 0] rfl ?_
    exact q4 _ _ _ hf
  have j4 : ∀ (n : Nat), ∀ (v1 : Int32) (v2 : Int32) (s : Mem), f_X9_answered_L4 N n v1 v2 s = some (r, s') → G x (QI x w r s') 3 w 4 [(0, .ref (ad w 61)), (1, .int v1), (2, .int v2)] [] s := by
    intro n
    induction n with
    | zero => intro v1 v2 s hf; cases hf
    | succ n ih =>
      intro v1 v2 s hf
      unfold f_X9_answered_L4 at hf
      refine g_iload_n C dX9_answered_4 rfl 2 rfl ?_
      refine g_aload_n C dX9_answered_5 rfl 0 rfl ?_
      refine g_get C (R := RX9) (T := TX9) (N := 48) (k := 9) (v := .int (rI s 61 9)) kd_61 (by decide) rfl (in_61 hS) hinX9 (by decide) fl_X9_133 rfl rfl dX9_answered_6 ?_
      refine g_icmp_ge (tgt := 39) C dX9_answered_9 (by decide) hf (fun hf => ?_) (fun hf => ?_)
      · refine g_iload_n C dX9_answered_39 rfl 1 rfl ?_
        exact g_iret C dX9_answered_40 hf
      · refine g_iload_n C dX9_answered_12 rfl 1 rfl ?_
        refine g_aload_n C dX9_answered_13 rfl 0 rfl ?_
        refine g_get C (R := RX9) (T := TX9) (N := 48) (k := 10) (v := .ref (ad w 67)) kd_61 (by decide) rfl (in_61 hS) hinX9 (by decide) fl_X9_25 rfl rfl dX9_answered_14 ?_
        refine g_iconst C (v := 4) dX9_answered_17 rfl ?_
        refine g_iload_n C dX9_answered_18 rfl 2 rfl ?_
        refine g_imul C dX9_answered_19 ?_
        refine g_iconst C (v := 3) dX9_answered_20 rfl ?_
        refine g_iadd C dX9_answered_21 ?_
        refine g_iald C kd_67 ln_67 (in_67 hS) dX9_answered_22 hf (fun hf => ?_)
        refine g_if_le (tgt := 30) C dX9_answered_23 (by decide) hf (fun hf => ?_) (fun hf => ?_)
        · refine g_iconst C (v := 0) dX9_answered_30 rfl ?_
          refine g_sub [0, 2] rfl ?_
          exact j31 (f_X9_answered_L4 N n) ih _ _ _ _ hf
        · refine g_iconst C (v := 1) dX9_answered_26 rfl ?_
          refine g_goto (tgt := 31) C dX9_answered_27 (by decide) ?_
          refine g_sub [0, 2] rfl ?_
          exact j31 (f_X9_answered_L4 N n) ih _ _ _ _ hf
  refine g_lv (lv' := [(0, .ref (ad w 61))]) rfl ?_
  unfold f_X9_answered at hf
  refine g_iconst C (v := 0) dX9_answered_0 rfl ?_
  refine g_istore_n (lv' := [(1, .int 0), (0, .ref (ad w 61))]) C dX9_answered_1 rfl (by decide) rfl ?_
  refine g_iconst C (v := 0) dX9_answered_2 rfl ?_
  refine g_istore_n (lv' := [(2, .int 0), (1, .int 0), (0, .ref (ad w 61))]) C dX9_answered_3 rfl (by decide) rfl ?_
  refine g_sub [2, 1, 0] rfl ?_
  exact j4 N _ _ _ hf

set_option maxHeartbeats 4000000 in
set_option maxRecDepth 100000 in
theorem c_X9_answer (l : Launch) (N : Nat) (w : WX) (hS : SS w = Sm) (a1 : Int32) (a2 : Bool) {s s' : Mem} {r : Int32} (hf : f_X9_answer N a1 a2 s = some (r, s')) : CI l yX9_answer (wz yX9_answer cX9_answer 3 (some .int)) ({ frames := 1, cells := 0, slots := 0, locals := 22 } : Room) [.ref (ad w 61), .int a1, .int (bI a2)] w s r s' := by
  refine met_startI (cc := cX9_answer) (ret := (some .int)) (own := RX9) (maxL := 3) (by decide) rfl (Nat.le_of_ble_eq_true rfl) (fun x C hR hl => ?_)
  have j50 : ∀ (p0 : Int32) (p1 : Int32) (s : Mem), f_X9_answer_j50 N p0 p1 s = some (r, s') → G x (QI x w r s') 3 w 50 [(0, .ref (ad w 61))] [.int p0, .int p1, .ref (ad w 67)] s := by
    intro p0 p1 s hf
    unfold f_X9_answer_j50 at hf
    refine g_iast C kd_67 ln_67 (in_67 hS) dX9_answer_50 hf (fun hf => ?_)
    refine g_nameS hf (fun s1 hf => ?_)
    refine g_aload_n C dX9_answer_51 rfl 0 rfl ?_
    refine g_callVI C (R := RX9) (T := TX9) (N := 48) [] (fun _ _ h => c_X9_answered (kl x) N w hS h) (g_cwV C hR ml_X9_335 im_X9_answered sl_X9_answered ini_X9 cd_X9_answered hd_X9_answered (by decide)) kd_61 (by decide) rfl (in_61 hS) rfl _ rfl (Nat.le_of_ble_eq_true rfl) dX9_answer_52 hf (fun r2 s2 hf => ?_)
    exact g_iret C dX9_answer_55 hf
  refine g_lv (lv' := [(0, .ref (ad w 61)), (1, .int a1), (2, .int (bI a2))]) rfl ?_
  unfold f_X9_answer at hf
  refine g_iload_n C dX9_answer_0 rfl 1 rfl ?_
  refine g_iconst C (v := 0) dX9_answer_1 rfl ?_
  refine g_aload_n C dX9_answer_2 rfl 0 rfl ?_
  refine g_get C (R := RX9) (T := TX9) (N := 48) (k := 9) (v := .int (rI s 61 9)) kd_61 (by decide) rfl (in_61 hS) hinX9 (by decide) fl_X9_133 rfl rfl dX9_answer_3 ?_
  refine g_iconst C (v := 1) dX9_answer_6 rfl ?_
  refine g_isub C dX9_answer_7 ?_
  refine g_callSB C [.int a1, .int 0, .int ((rI s 61 9) - 1)] (fun _ _ h => c_X9_in (kl x) N w _ _ _ h) (g_cwS C hR ml_X9_93 sm_X9_in ini_X9 cd_X9_in hd_X9_in (by decide)) rfl _ rfl (Nat.le_of_ble_eq_true rfl) dX9_answer_8 hf (fun r1 s1 hf => ?_)
  refine g_ifneB (tgt := 16) C dX9_answer_11 (by decide) hf (fun hf => ?_) (fun hf => ?_)
  · refine g_aload_n C dX9_answer_16 rfl 0 rfl ?_
    refine g_get C (R := RX9) (T := TX9) (N := 48) (k := 10) (v := .ref (ad w 67)) kd_61 (by decide) rfl (in_61 hS) hinX9 (by decide) fl_X9_25 rfl rfl dX9_answer_17 ?_
    refine g_iconst C (v := 4) dX9_answer_20 rfl ?_
    refine g_iload_n C dX9_answer_21 rfl 1 rfl ?_
    refine g_imul C dX9_answer_22 ?_
    refine g_iconst C (v := 3) dX9_answer_23 rfl ?_
    refine g_iadd C dX9_answer_24 ?_
    refine g_iald C kd_67 ln_67 (in_67 hS) dX9_answer_25 hf (fun hf => ?_)
    refine g_if_le (tgt := 32) C dX9_answer_26 (by decide) hf (fun hf => ?_) (fun hf => ?_)
    · refine g_aload_n C dX9_answer_32 rfl 0 rfl ?_
      refine g_get C (R := RX9) (T := TX9) (N := 48) (k := 10) (v := .ref (ad w 67)) kd_61 (by decide) rfl (in_61 hS) hinX9 (by decide) fl_X9_25 rfl rfl dX9_answer_33 ?_
      refine g_iconst C (v := 4) dX9_answer_36 rfl ?_
      refine g_iload_n C dX9_answer_37 rfl 1 rfl ?_
      refine g_imul C dX9_answer_38 ?_
      refine g_iconst C (v := 3) dX9_answer_39 rfl ?_
      refine g_iadd C dX9_answer_40 ?_
      refine g_iload_n C dX9_answer_41 rfl 2 rfl ?_
      refine g_ifeqB (tgt := 49) C dX9_answer_42 (by decide) hf (fun hf => ?_) (fun hf => ?_)
      · refine g_iconst C (v := 2) dX9_answer_49 rfl ?_
        refine g_sub [0] rfl ?_
        exact j50 _ _ _ hf
      · refine g_iconst C (v := 1) dX9_answer_45 rfl ?_
        refine g_goto (tgt := 50) C dX9_answer_46 (by decide) ?_
        refine g_sub [0] rfl ?_
        exact j50 _ _ _ hf
    · refine g_bipush C (v := (-4)) dX9_answer_29 (by decide) ?_
      exact g_iret C dX9_answer_31 hf
  · refine g_iconst C (v := (-1)) dX9_answer_14 rfl ?_
    exact g_iret C dX9_answer_15 hf

set_option maxHeartbeats 4000000 in
set_option maxRecDepth 100000 in
theorem c_X9_next (l : Launch) (N : Nat) (w : WX) (hS : SS w = Sm) (a1 : Int32) {s s' : Mem} {r : Int32} (hf : f_X9_next N a1 s = some (r, s')) : CI l yX9_next (wz yX9_next cX9_next 12 (some .int)) ({ frames := 4, cells := 0, slots := 0, locals := 100 } : Room) [.ref (ad w 61), .int a1] w s r s' := by
  refine met_startI (cc := cX9_next) (ret := (some .int)) (own := RX9) (maxL := 12) (by decide) rfl (Nat.le_of_ble_eq_true rfl) (fun x C hR hl => ?_)
  have j143 : ∀ (k18 : Int32 → Int32 → Int64 → Int32 → Mem → Option (Int32 × Mem)), (∀ (v1 : Int32) (v2 : Int32) (v3 : Int64) (v5 : Int32) (s : Mem), k18 v1 v2 v3 v5 s = some (r, s') → G x (QI x w r s') 12 w 18 [(0, .ref (ad w 61)), (1, .int v1), (2, .int v2), (3, .long v3), (5, .int v5)] [] s) → ∀ (v1 : Int32) (v2 : Int32) (v3 : Int64) (v5 : Int32) (s : Mem), f_X9_next_j143 N k18 v1 v2 v3 v5 s = some (r, s') → G x (QI x w r s') 12 w 143 [(0, .ref (ad w 61)), (1, .int v1), (2, .int v2), (3, .long v3), (5, .int v5)] [] s := by
    intro k18 q18 v1 v2 v3 v5 s hf
    unfold f_X9_next_j143 at hf
    refine g_iinc (v' := v5 + 1) (lv' := [(5, .int (v5 + 1)), (0, .ref (ad w 61)), (1, .int v1), (2, .int v2), (3, .long v3)]) C dX9_next_143 4 rfl rfl (by decide) rfl ?_
    refine g_goto (tgt := 18) C dX9_next_146 (by decide) ?_
    refine g_sub [1, 2, 3, 4, 0] rfl ?_
    exact q18 _ _ _ _ _ hf
  have j137 : ∀ (k18 : Int32 → Int32 → Int64 → Int32 → Mem → Option (Int32 × Mem)), (∀ (v1 : Int32) (v2 : Int32) (v3 : Int64) (v5 : Int32) (s : Mem), k18 v1 v2 v3 v5 s = some (r, s') → G x (QI x w r s') 12 w 18 [(0, .ref (ad w 61)), (1, .int v1), (2, .int v2), (3, .long v3), (5, .int v5)] [] s) → ∀ (v1 : Int32) (v5 : Int32) (v10 : Int64) (s : Mem), f_X9_next_j137 N k18 v1 v5 v10 s = some (r, s') → G x (QI x w r s') 12 w 137 [(0, .ref (ad w 61)), (1, .int v1), (5, .int v5), (10, .long v10)] [] s := by
    intro k18 q18 v1 v5 v10 s hf
    unfold f_X9_next_j137 at hf
    refine g_iload C dX9_next_137 2 rfl ?_
    refine g_istore_n (lv' := [(2, .int v5), (0, .ref (ad w 61)), (1, .int v1), (5, .int v5), (10, .long v10)]) C dX9_next_139 rfl (by decide) rfl ?_
    refine g_lload C dX9_next_140 4 rfl ?_
    refine g_lstore_n (lv' := [(3, .long v10), (2, .int v5), (0, .ref (ad w 61)), (1, .int v1), (5, .int v5), (10, .long v10)]) C dX9_next_142 rfl (by decide) rfl ?_
    refine g_sub [2, 3, 1, 0, 4] rfl ?_
    exact j143 k18 q18 _ _ _ _ _ hf
  have j123 : ∀ (k18 : Int32 → Int32 → Int64 → Int32 → Mem → Option (Int32 × Mem)), (∀ (v1 : Int32) (v2 : Int32) (v3 : Int64) (v5 : Int32) (s : Mem), k18 v1 v2 v3 v5 s = some (r, s') → G x (QI x w r s') 12 w 18 [(0, .ref (ad w 61)), (1, .int v1), (2, .int v2), (3, .long v3), (5, .int v5)] [] s) → ∀ (v1 : Int32) (v2 : Int32) (v3 : Int64) (v5 : Int32) (p0 : Int64) (p1 : Int64) (s : Mem), f_X9_next_j123 N k18 v1 v2 v3 v5 p0 p1 s = some (r, s') → G x (QI x w r s') 12 w 123 [(0, .ref (ad w 61)), (1, .int v1), (2, .int v2), (3, .long v3), (5, .int v5)] [.long p0, .long p1] s := by
    intro k18 q18 v1 v2 v3 v5 p0 p1 s hf
    unfold f_X9_next_j123 at hf
    refine g_lmul C dX9_next_123 ?_
    refine g_lstore (lv' := [(10, .long (p1 * p0)), (0, .ref (ad w 61)), (1, .int v1), (2, .int v2), (3, .long v3), (5, .int v5)]) C dX9_next_124 (by decide) rfl ?_
    refine g_iload_n C dX9_next_126 rfl 3 rfl ?_
    refine g_if_lt (tgt := 137) C dX9_next_127 (by decide) hf (fun hf => ?_) (fun hf => ?_)
    · refine g_sub [1, 2, 5, 0] rfl ?_
      exact j137 k18 q18 _ _ _ _ hf
    · refine g_lload C dX9_next_130 0 rfl ?_
      refine g_lload_n C dX9_next_132 rfl 4 rfl ?_
      refine g_lcmp_ge (tgt := 143) C dX9_next_133 dX9_next_134 (by decide) hf (fun hf => ?_) (fun hf => ?_)
      · refine g_sub [1, 2, 3, 4, 5] rfl ?_
        exact j143 k18 q18 _ _ _ _ _ hf
      · refine g_sub [1, 2, 5, 0] rfl ?_
        exact j137 k18 q18 _ _ _ _ hf
  have j18 : ∀ (n : Nat), ∀ (v1 : Int32) (v2 : Int32) (v3 : Int64) (v5 : Int32) (s : Mem), f_X9_next_L18 N n v1 v2 v3 v5 s = some (r, s') → G x (QI x w r s') 12 w 18 [(0, .ref (ad w 61)), (1, .int v1), (2, .int v2), (3, .long v3), (5, .int v5)] [] s := by
    intro n
    induction n with
    | zero => intro v1 v2 v3 v5 s hf; cases hf
    | succ n ih =>
      intro v1 v2 v3 v5 s hf
      unfold f_X9_next_L18 at hf
      refine g_iload C dX9_next_18 4 rfl ?_
      refine g_aload_n C dX9_next_20 rfl 0 rfl ?_
      refine g_get C (R := RX9) (T := TX9) (N := 48) (k := 9) (v := .int (rI s 61 9)) kd_61 (by decide) rfl (in_61 hS) hinX9 (by decide) fl_X9_133 rfl rfl dX9_next_21 ?_
      refine g_icmp_ge (tgt := 149) C dX9_next_24 (by decide) hf (fun hf => ?_) (fun hf => ?_)
      · refine g_iload_n C dX9_next_149 rfl 2 rfl ?_
        exact g_iret C dX9_next_150 hf
      · refine g_aload_n C dX9_next_27 rfl 0 rfl ?_
        refine g_get C (R := RX9) (T := TX9) (N := 48) (k := 10) (v := .ref (ad w 67)) kd_61 (by decide) rfl (in_61 hS) hinX9 (by decide) fl_X9_25 rfl rfl dX9_next_28 ?_
        refine g_iconst C (v := 4) dX9_next_31 rfl ?_
        refine g_iload C dX9_next_32 4 rfl ?_
        refine g_imul C dX9_next_34 ?_
        refine g_iald C kd_67 ln_67 (in_67 hS) dX9_next_35 hf (fun hf => ?_)
        refine g_iload_n C dX9_next_36 rfl 1 rfl ?_
        refine g_icmp_ne (tgt := 143) C dX9_next_37 (by decide) hf (fun hf => ?_) (fun hf => ?_)
        · exact j143 (f_X9_next_L18 N n) ih _ _ _ _ _ hf
        · refine g_aload_n C dX9_next_40 rfl 0 rfl ?_
          refine g_get C (R := RX9) (T := TX9) (N := 48) (k := 10) (v := .ref (ad w 67)) kd_61 (by decide) rfl (in_61 hS) hinX9 (by decide) fl_X9_25 rfl rfl dX9_next_41 ?_
          refine g_iconst C (v := 4) dX9_next_44 rfl ?_
          refine g_iload C dX9_next_45 4 rfl ?_
          refine g_imul C dX9_next_47 ?_
          refine g_iconst C (v := 3) dX9_next_48 rfl ?_
          refine g_iadd C dX9_next_49 ?_
          refine g_iald C kd_67 ln_67 (in_67 hS) dX9_next_50 hf (fun hf => ?_)
          refine g_if_ne (tgt := 143) C dX9_next_51 (by decide) hf (fun hf => ?_) (fun hf => ?_)
          · exact j143 (f_X9_next_L18 N n) ih _ _ _ _ _ hf
          · refine g_aload_n C dX9_next_54 rfl 0 rfl ?_
            refine g_iload_n C dX9_next_55 rfl 1 rfl ?_
            refine g_iconst C (v := 0) dX9_next_56 rfl ?_
            refine g_aload_n C dX9_next_57 rfl 0 rfl ?_
            refine g_get C (R := RX9) (T := TX9) (N := 48) (k := 10) (v := .ref (ad w 67)) kd_61 (by decide) rfl (in_61 hS) hinX9 (by decide) fl_X9_25 rfl rfl dX9_next_58 ?_
            refine g_iconst C (v := 4) dX9_next_61 rfl ?_
            refine g_iload C dX9_next_62 4 rfl ?_
            refine g_imul C dX9_next_64 ?_
            refine g_iconst C (v := 1) dX9_next_65 rfl ?_
            refine g_iadd C dX9_next_66 ?_
            refine g_iald C kd_67 ln_67 (in_67 hS) dX9_next_67 hf (fun hf => ?_)
            refine g_callVL C (R := RX9) (T := TX9) (N := 48) [.int v1, .int 0, .int (rI s 67 ((4 * v5) + 1).toNatClampNeg)] (fun _ _ h => c_X9_sumOf (kl x) N w hS _ _ _ h) (g_cwV C hR ml_X9_143 im_X9_sumOf sl_X9_sumOf ini_X9 cd_X9_sumOf hd_X9_sumOf (by decide)) kd_61 (by decide) rfl (in_61 hS) rfl _ rfl (Nat.le_of_ble_eq_true rfl) dX9_next_68 hf (fun r1 s1 hf => ?_)
            refine g_lstore (lv' := [(6, .long r1), (0, .ref (ad w 61)), (1, .int v1), (2, .int v2), (3, .long v3), (5, .int v5)]) C dX9_next_71 (by decide) rfl ?_
            refine g_aload_n C dX9_next_73 rfl 1 rfl ?_
            refine g_iload_n C dX9_next_74 rfl 2 rfl ?_
            refine g_aload_n C dX9_next_75 rfl 1 rfl ?_
            refine g_get C (R := RX9) (T := TX9) (N := 48) (k := 10) (v := .ref (ad w 67)) kd_61 (by decide) rfl (in_61 hS) hinX9 (by decide) fl_X9_25 rfl rfl dX9_next_76 ?_
            refine g_iconst C (v := 4) dX9_next_79 rfl ?_
            refine g_iload C dX9_next_80 5 rfl ?_
            refine g_imul C dX9_next_82 ?_
            refine g_iconst C (v := 1) dX9_next_83 rfl ?_
            refine g_iadd C dX9_next_84 ?_
            refine g_iald C kd_67 ln_67 (in_67 hS) dX9_next_85 hf (fun hf => ?_)
            refine g_iconst C (v := 1) dX9_next_86 rfl ?_
            refine g_iadd C dX9_next_87 ?_
            refine g_sipush C (v := 160) dX9_next_88 (by decide) ?_
            refine g_callVL C (R := RX9) (T := TX9) (N := 48) [.int v1, .int ((rI s1 67 ((4 * v5) + 1).toNatClampNeg) + 1), .int 160] (fun _ _ h => c_X9_sumOf (kl x) N w hS _ _ _ h) (g_cwV C hR ml_X9_143 im_X9_sumOf sl_X9_sumOf ini_X9 cd_X9_sumOf hd_X9_sumOf (by decide)) kd_61 (by decide) rfl (in_61 hS) rfl _ rfl (Nat.le_of_ble_eq_true rfl) dX9_next_91 hf (fun r2 s2 hf => ?_)
            refine g_lstore (lv' := [(8, .long r2), (6, .long r1), (0, .ref (ad w 61)), (1, .int v1), (2, .int v2), (3, .long v3), (5, .int v5)]) C dX9_next_94 (by decide) rfl ?_
            refine g_aload_n C dX9_next_96 rfl 2 rfl ?_
            refine g_get C (R := RX9) (T := TX9) (N := 48) (k := 10) (v := .ref (ad w 67)) kd_61 (by decide) rfl (in_61 hS) hinX9 (by decide) fl_X9_25 rfl rfl dX9_next_97 ?_
            refine g_iconst C (v := 4) dX9_next_100 rfl ?_
            refine g_iload C dX9_next_101 6 rfl ?_
            refine g_imul C dX9_next_103 ?_
            refine g_iconst C (v := 2) dX9_next_104 rfl ?_
            refine g_iadd C dX9_next_105 ?_
            refine g_iald C kd_67 ln_67 (in_67 hS) dX9_next_106 hf (fun hf => ?_)
            refine g_i2l C dX9_next_107 ?_
            refine g_lload C dX9_next_108 1 rfl ?_
            refine g_lload C dX9_next_110 0 rfl ?_
            refine g_lcmp_le (tgt := 121) C dX9_next_112 dX9_next_113 (by decide) hf (fun hf => ?_) (fun hf => ?_)
            · refine g_lload C dX9_next_121 0 rfl ?_
              refine g_sub [2, 3, 4, 5, 6] rfl ?_
              exact j123 (f_X9_next_L18 N n) ih _ _ _ _ _ _ _ hf
            · refine g_lload C dX9_next_116 1 rfl ?_
              refine g_goto (tgt := 123) C dX9_next_118 (by decide) ?_
              refine g_sub [2, 3, 4, 5, 6] rfl ?_
              exact j123 (f_X9_next_L18 N n) ih _ _ _ _ _ _ _ hf
  refine g_lv (lv' := [(0, .ref (ad w 61)), (1, .int a1)]) rfl ?_
  unfold f_X9_next at hf
  refine g_aload_n C dX9_next_0 rfl 0 rfl ?_
  refine g_iload_n C dX9_next_1 rfl 1 rfl ?_
  refine g_callVB C (R := RX9) (T := TX9) (N := 48) [.int a1] (fun _ _ h => c_X9_isPerson (kl x) N w hS _ h) (g_cwV C hR ml_X9_100 im_X9_isPerson sl_X9_isPerson ini_X9 cd_X9_isPerson hd_X9_isPerson (by decide)) kd_61 (by decide) rfl (in_61 hS) rfl _ rfl (Nat.le_of_ble_eq_true rfl) dX9_next_2 hf (fun r1 s1 hf => ?_)
  refine g_ifneB (tgt := 10) C dX9_next_5 (by decide) hf (fun hf => ?_) (fun hf => ?_)
  · refine g_bipush C (v := (-3)) dX9_next_10 (by decide) ?_
    refine g_istore_n (lv' := [(2, .int (-3)), (0, .ref (ad w 61)), (1, .int a1)]) C dX9_next_12 rfl (by decide) rfl ?_
    refine g_lconst C (v := 0) dX9_next_13 rfl ?_
    refine g_lstore_n (lv' := [(3, .long 0), (2, .int (-3)), (0, .ref (ad w 61)), (1, .int a1)]) C dX9_next_14 rfl (by decide) rfl ?_
    refine g_iconst C (v := 0) dX9_next_15 rfl ?_
    refine g_istore (lv' := [(5, .int 0), (3, .long 0), (2, .int (-3)), (0, .ref (ad w 61)), (1, .int a1)]) C dX9_next_16 (by decide) rfl ?_
    refine g_sub [3, 4, 2, 1, 0] rfl ?_
    exact j18 N _ _ _ _ _ hf
  · refine g_iconst C (v := (-1)) dX9_next_8 rfl ?_
    exact g_iret C dX9_next_9 hf

set_option maxHeartbeats 4000000 in
set_option maxRecDepth 100000 in
theorem c_X9_prove (l : Launch) (N : Nat) (w : WX) (hS : SS w = Sm) (a1 : Int32) {s s' : Mem} {r : Int32} (hf : f_X9_prove N a1 s = some (r, s')) : CI l yX9_prove (wz yX9_prove cX9_prove 4 (some .int)) ({ frames := 4, cells := 0, slots := 0, locals := 101 } : Room) [.ref (ad w 61), .int a1] w s r s' := by
  refine met_startI (cc := cX9_prove) (ret := (some .int)) (own := RX9) (maxL := 4) (by decide) rfl (Nat.le_of_ble_eq_true rfl) (fun x C hR hl => ?_)
  have j114 : ∀ (k44 : Int32 → Int32 → Int32 → Mem → Option (Int32 × Mem)), (∀ (v1 : Int32) (v2 : Int32) (v3 : Int32) (s : Mem), k44 v1 v2 v3 s = some (r, s') → G x (QI x w r s') 4 w 44 [(0, .ref (ad w 61)), (1, .int v1), (2, .int v2), (3, .int v3)] [] s) → ∀ (v1 : Int32) (v2 : Int32) (v3 : Int32) (s : Mem), f_X9_prove_j114 N k44 v1 v2 v3 s = some (r, s') → G x (QI x w r s') 4 w 114 [(0, .ref (ad w 61)), (1, .int v1), (2, .int v2), (3, .int v3)] [] s := by
    intro k44 q44 v1 v2 v3 s hf
    unfold f_X9_prove_j114 at hf
    refine g_iinc (v' := v3 + 1) (lv' := [(3, .int (v3 + 1)), (0, .ref (ad w 61)), (1, .int v1), (2, .int v2)]) C dX9_prove_114 3 rfl rfl (by decide) rfl ?_
    refine g_goto (tgt := 44) C dX9_prove_117 (by decide) ?_
    refine g_sub [1, 2, 3, 0] rfl ?_
    exact q44 _ _ _ _ hf
  have j103 : ∀ (k44 : Int32 → Int32 → Int32 → Mem → Option (Int32 × Mem)), (∀ (v1 : Int32) (v2 : Int32) (v3 : Int32) (s : Mem), k44 v1 v2 v3 s = some (r, s') → G x (QI x w r s') 4 w 44 [(0, .ref (ad w 61)), (1, .int v1), (2, .int v2), (3, .int v3)] [] s) → ∀ (v1 : Int32) (v2 : Int32) (v3 : Int32) (p0 : Bool) (p1 : Int32) (s : Mem), f_X9_prove_j103 N k44 v1 v2 v3 p0 p1 s = some (r, s') → G x (QI x w r s') 4 w 103 [(0, .ref (ad w 61)), (1, .int v1), (2, .int v2), (3, .int v3)] [.int (bI p0), .int p1, .ref (ad w 78)] s := by
    intro k44 q44 v1 v2 v3 p0 p1 s hf
    unfold f_X9_prove_j103 at hf
    refine g_iast C kd_78 ln_78 (in_78 hS) dX9_prove_103 hf (fun hf => ?_)
    refine g_nameS hf (fun s1 hf => ?_)
    refine g_aload_n C dX9_prove_104 rfl 0 rfl ?_
    refine g_dup C dX9_prove_105 rfl ?_
    refine g_get C (R := RX9) (T := TX9) (N := 48) (k := 31) (v := .int (rI s1 61 31)) kd_61 (by decide) rfl (in_61 hS) hinX9 (by decide) fl_X9_338 rfl rfl dX9_prove_106 ?_
    refine g_iconst C (v := 1) dX9_prove_109 rfl ?_
    refine g_iadd C dX9_prove_110 ?_
    refine g_putI C (R := RX9) (T := TX9) (N := 48) (k := 31) (ty := .int) tyX9 tyX9_ok nmX9 kd_61 (by decide) rfl (in_61 hS) hinX9 (by decide) fl_X9_338 rfl rfl rfl rfl rfl (Nat.le_of_ble_eq_true rfl) fs_9_31 dX9_prove_111 ?_
    refine g_nameS hf (fun s2 hf => ?_)
    exact j114 k44 q44 _ _ _ _ hf
  have j44 : ∀ (n : Nat), ∀ (v1 : Int32) (v2 : Int32) (v3 : Int32) (s : Mem), f_X9_prove_L44 N n v1 v2 v3 s = some (r, s') → G x (QI x w r s') 4 w 44 [(0, .ref (ad w 61)), (1, .int v1), (2, .int v2), (3, .int v3)] [] s := by
    intro n
    induction n with
    | zero => intro v1 v2 v3 s hf; cases hf
    | succ n ih =>
      intro v1 v2 v3 s hf
      unfold f_X9_prove_L44 at hf
      refine g_iload_n C dX9_prove_44 rfl 3 rfl ?_
      refine g_aload_n C dX9_prove_45 rfl 0 rfl ?_
      refine g_get C (R := RX9) (T := TX9) (N := 48) (k := 2) (v := .int (rI s 61 2)) kd_61 (by decide) rfl (in_61 hS) hinX9 (by decide) fl_X9_97 rfl rfl dX9_prove_46 ?_
      refine g_icmp_ge (tgt := 120) C dX9_prove_49 (by decide) hf (fun hf => ?_) (fun hf => ?_)
      · refine g_aload_n C dX9_prove_120 rfl 0 rfl ?_
        refine g_get C (R := RX9) (T := TX9) (N := 48) (k := 31) (v := .int (rI s 61 31)) kd_61 (by decide) rfl (in_61 hS) hinX9 (by decide) fl_X9_338 rfl rfl dX9_prove_121 ?_
        exact g_iret C dX9_prove_124 hf
      · refine g_aload_n C dX9_prove_52 rfl 0 rfl ?_
        refine g_get C (R := RX9) (T := TX9) (N := 48) (k := 3) (v := .ref (ad w 63)) kd_61 (by decide) rfl (in_61 hS) hinX9 (by decide) fl_X9_13 rfl rfl dX9_prove_53 ?_
        refine g_bipush C (v := 6) dX9_prove_56 (by decide) ?_
        refine g_iload_n C dX9_prove_58 rfl 3 rfl ?_
        refine g_imul C dX9_prove_59 ?_
        refine g_iald C kd_63 ln_63 (in_63 hS) dX9_prove_60 hf (fun hf => ?_)
        refine g_iload_n C dX9_prove_61 rfl 1 rfl ?_
        refine g_icmp_ne (tgt := 114) C dX9_prove_62 (by decide) hf (fun hf => ?_) (fun hf => ?_)
        · exact j114 (f_X9_prove_L44 N n) ih _ _ _ _ hf
        · refine g_aload_n C dX9_prove_65 rfl 0 rfl ?_
          refine g_get C (R := RX9) (T := TX9) (N := 48) (k := 30) (v := .ref (ad w 78)) kd_61 (by decide) rfl (in_61 hS) hinX9 (by decide) fl_X9_58 rfl rfl dX9_prove_66 ?_
          refine g_iconst C (v := 2) dX9_prove_69 rfl ?_
          refine g_aload_n C dX9_prove_70 rfl 0 rfl ?_
          refine g_get C (R := RX9) (T := TX9) (N := 48) (k := 31) (v := .int (rI s 61 31)) kd_61 (by decide) rfl (in_61 hS) hinX9 (by decide) fl_X9_338 rfl rfl dX9_prove_71 ?_
          refine g_imul C dX9_prove_74 ?_
          refine g_iload_n C dX9_prove_75 rfl 3 rfl ?_
          refine g_iast C kd_78 ln_78 (in_78 hS) dX9_prove_76 hf (fun hf => ?_)
          refine g_nameS hf (fun s1 hf => ?_)
          refine g_aload_n C dX9_prove_77 rfl 0 rfl ?_
          refine g_get C (R := RX9) (T := TX9) (N := 48) (k := 30) (v := .ref (ad w 78)) kd_61 (by decide) rfl (in_61 hS) hinX9 (by decide) fl_X9_58 rfl rfl dX9_prove_78 ?_
          refine g_iconst C (v := 2) dX9_prove_81 rfl ?_
          refine g_aload_n C dX9_prove_82 rfl 0 rfl ?_
          refine g_get C (R := RX9) (T := TX9) (N := 48) (k := 31) (v := .int (rI s1 61 31)) kd_61 (by decide) rfl (in_61 hS) hinX9 (by decide) fl_X9_338 rfl rfl dX9_prove_83 ?_
          refine g_imul C dX9_prove_86 ?_
          refine g_iconst C (v := 1) dX9_prove_87 rfl ?_
          refine g_iadd C dX9_prove_88 ?_
          refine g_aload_n C dX9_prove_89 rfl 0 rfl ?_
          refine g_iload_n C dX9_prove_90 rfl 3 rfl ?_
          refine g_iload_n C dX9_prove_91 rfl 2 rfl ?_
          refine g_callVB C (R := RX9) (T := TX9) (N := 48) [.int v3, .int v2] (fun _ _ h => c_X9_spans (kl x) N w hS _ _ h) (g_cwV C hR ml_X9_121 im_X9_spans sl_X9_spans ini_X9 cd_X9_spans hd_X9_spans (by decide)) kd_61 (by decide) rfl (in_61 hS) rfl _ rfl (Nat.le_of_ble_eq_true rfl) dX9_prove_92 hf (fun r2 s2 hf => ?_)
          refine g_ifeqB (tgt := 102) C dX9_prove_95 (by decide) hf (fun hf => ?_) (fun hf => ?_)
          · refine g_iconst C (v := 0) dX9_prove_102 rfl ?_
            exact j103 (f_X9_prove_L44 N n) ih _ _ _ _ _ _ hf
          · refine g_iconst C (v := 1) dX9_prove_98 rfl ?_
            refine g_goto (tgt := 103) C dX9_prove_99 (by decide) ?_
            exact j103 (f_X9_prove_L44 N n) ih _ _ _ _ _ _ hf
  refine g_lv (lv' := [(0, .ref (ad w 61)), (1, .int a1)]) rfl ?_
  unfold f_X9_prove at hf
  refine g_aload_n C dX9_prove_0 rfl 0 rfl ?_
  refine g_iload_n C dX9_prove_1 rfl 1 rfl ?_
  refine g_callVB C (R := RX9) (T := TX9) (N := 48) [.int a1] (fun _ _ h => c_X9_isPerson (kl x) N w hS _ h) (g_cwV C hR ml_X9_100 im_X9_isPerson sl_X9_isPerson ini_X9 cd_X9_isPerson hd_X9_isPerson (by decide)) kd_61 (by decide) rfl (in_61 hS) rfl _ rfl (Nat.le_of_ble_eq_true rfl) dX9_prove_2 hf (fun r1 s1 hf => ?_)
  refine g_ifneB (tgt := 10) C dX9_prove_5 (by decide) hf (fun hf => ?_) (fun hf => ?_)
  · refine g_aload_n C dX9_prove_10 rfl 0 rfl ?_
    refine g_iload_n C dX9_prove_11 rfl 1 rfl ?_
    refine g_callVI C (R := RX9) (T := TX9) (N := 48) [.int a1] (fun _ _ h => c_X9_bestOf (kl x) N w hS _ h) (g_cwV C hR ml_X9_153 im_X9_bestOf sl_X9_bestOf ini_X9 cd_X9_bestOf hd_X9_bestOf (by decide)) kd_61 (by decide) rfl (in_61 hS) rfl _ rfl (Nat.le_of_ble_eq_true rfl) dX9_prove_12 hf (fun r2 s2 hf => ?_)
    refine g_istore_n (lv' := [(2, .int r2), (0, .ref (ad w 61)), (1, .int a1)]) C dX9_prove_15 rfl (by decide) rfl ?_
    refine g_iload_n C dX9_prove_16 rfl 0 rfl ?_
    refine g_if_ge (tgt := 23) C dX9_prove_17 (by decide) hf (fun hf => ?_) (fun hf => ?_)
    · refine g_aload_n C dX9_prove_23 rfl 1 rfl ?_
      refine g_get C (R := RX9) (T := TX9) (N := 48) (k := 30) (v := .ref (ad w 78)) kd_61 (by decide) rfl (in_61 hS) hinX9 (by decide) fl_X9_58 rfl rfl dX9_prove_24 ?_
      refine g_iconst C (v := 0) dX9_prove_27 rfl ?_
      refine g_iload_n C dX9_prove_28 rfl 2 rfl ?_
      refine g_iast C kd_78 ln_78 (in_78 hS) dX9_prove_29 hf (fun hf => ?_)
      refine g_nameS hf (fun s3 hf => ?_)
      refine g_aload_n C dX9_prove_30 rfl 1 rfl ?_
      refine g_get C (R := RX9) (T := TX9) (N := 48) (k := 30) (v := .ref (ad w 78)) kd_61 (by decide) rfl (in_61 hS) hinX9 (by decide) fl_X9_58 rfl rfl dX9_prove_31 ?_
      refine g_iconst C (v := 1) dX9_prove_34 rfl ?_
      refine g_iload_n C dX9_prove_35 rfl 0 rfl ?_
      refine g_iast C kd_78 ln_78 (in_78 hS) dX9_prove_36 hf (fun hf => ?_)
      refine g_nameS hf (fun s4 hf => ?_)
      refine g_aload_n C dX9_prove_37 rfl 1 rfl ?_
      refine g_iconst C (v := 1) dX9_prove_38 rfl ?_
      refine g_putI C (R := RX9) (T := TX9) (N := 48) (k := 31) (ty := .int) tyX9 tyX9_ok nmX9 kd_61 (by decide) rfl (in_61 hS) hinX9 (by decide) fl_X9_338 rfl rfl rfl rfl rfl (Nat.le_of_ble_eq_true rfl) fs_9_31 dX9_prove_39 ?_
      refine g_nameS hf (fun s5 hf => ?_)
      refine g_iconst C (v := 0) dX9_prove_42 rfl ?_
      refine g_istore_n (lv' := [(3, .int 0), (2, .int r2), (0, .ref (ad w 61)), (1, .int a1)]) C dX9_prove_43 rfl (by decide) rfl ?_
      refine g_sub [2, 3, 1, 0] rfl ?_
      exact j44 N _ _ _ _ hf
    · refine g_bipush C (v := (-3)) dX9_prove_20 (by decide) ?_
      exact g_iret C dX9_prove_22 hf
  · refine g_iconst C (v := (-1)) dX9_prove_8 rfl ?_
    exact g_iret C dX9_prove_9 hf

set_option maxHeartbeats 4000000 in
set_option maxRecDepth 100000 in
theorem c_X9_isRow (l : Launch) (N : Nat) (w : WX) (hS : SS w = Sm) (a1 : Int32) (a2 : Int32) {s s' : Mem} {r : Bool} (hf : f_X9_isRow N a1 a2 s = some (r, s')) : CB l yX9_isRow (wz yX9_isRow cX9_isRow 3 (some .boolean)) ({ frames := 1, cells := 0, slots := 0, locals := 22 } : Room) [.ref (ad w 61), .int a1, .int a2] w s r s' := by
  refine met_startB (cc := cX9_isRow) (ret := (some .boolean)) (own := RX9) (maxL := 3) (by decide) rfl (Nat.le_of_ble_eq_true rfl) (fun x C hR hl => ?_)
  refine g_lv (lv' := [(0, .ref (ad w 61)), (1, .int a1), (2, .int a2)]) rfl ?_
  unfold f_X9_isRow at hf
  refine g_iload_n C dX9_isRow_0 rfl 1 rfl ?_
  refine g_iconst C (v := 0) dX9_isRow_1 rfl ?_
  refine g_aload_n C dX9_isRow_2 rfl 0 rfl ?_
  refine g_get C (R := RX9) (T := TX9) (N := 48) (k := 31) (v := .int (rI s 61 31)) kd_61 (by decide) rfl (in_61 hS) hinX9 (by decide) fl_X9_338 rfl rfl dX9_isRow_3 ?_
  refine g_iconst C (v := 1) dX9_isRow_6 rfl ?_
  refine g_isub C dX9_isRow_7 ?_
  refine g_callSB C [.int a1, .int 0, .int ((rI s 61 31) - 1)] (fun _ _ h => c_X9_in (kl x) N w _ _ _ h) (g_cwS C hR ml_X9_93 sm_X9_in ini_X9 cd_X9_in hd_X9_in (by decide)) rfl _ rfl (Nat.le_of_ble_eq_true rfl) dX9_isRow_8 hf (fun r1 s1 hf => ?_)
  refine g_ifeqB (tgt := 27) C dX9_isRow_11 (by decide) hf (fun hf => ?_) (fun hf => ?_)
  · refine g_iconst C (v := 0) dX9_isRow_27 rfl ?_
    exact g_zret (v := false) C dX9_isRow_28 hf
  · refine g_iload_n C dX9_isRow_14 rfl 2 rfl ?_
    refine g_iconst C (v := 0) dX9_isRow_15 rfl ?_
    refine g_iconst C (v := 1) dX9_isRow_16 rfl ?_
    refine g_callSB C [.int a2, .int 0, .int 1] (fun _ _ h => c_X9_in (kl x) N w _ _ _ h) (g_cwS C hR ml_X9_93 sm_X9_in ini_X9 cd_X9_in hd_X9_in (by decide)) rfl _ rfl (Nat.le_of_ble_eq_true rfl) dX9_isRow_17 hf (fun r2 s2 hf => ?_)
    refine g_ifeqB (tgt := 27) C dX9_isRow_20 (by decide) hf (fun hf => ?_) (fun hf => ?_)
    · refine g_iconst C (v := 0) dX9_isRow_27 rfl ?_
      exact g_zret (v := false) C dX9_isRow_28 hf
    · refine g_iconst C (v := 1) dX9_isRow_23 rfl ?_
      refine g_goto (tgt := 28) C dX9_isRow_24 (by decide) ?_
      exact g_zret (v := true) C dX9_isRow_28 hf

set_option maxHeartbeats 4000000 in
set_option maxRecDepth 100000 in
theorem c_X9_row (l : Launch) (N : Nat) (w : WX) (hS : SS w = Sm) (a1 : Int32) (a2 : Int32) {s s' : Mem} {r : Int32} (hf : f_X9_row N a1 a2 s = some (r, s')) : CI l yX9_row (wz yX9_row cX9_row 3 (some .int)) ({ frames := 2, cells := 0, slots := 0, locals := 44 } : Room) [.ref (ad w 61), .int a1, .int a2] w s r s' := by
  refine met_startI (cc := cX9_row) (ret := (some .int)) (own := RX9) (maxL := 3) (by decide) rfl (Nat.le_of_ble_eq_true rfl) (fun x C hR hl => ?_)
  refine g_lv (lv' := [(0, .ref (ad w 61)), (1, .int a1), (2, .int a2)]) rfl ?_
  unfold f_X9_row at hf
  refine g_aload_n C dX9_row_0 rfl 0 rfl ?_
  refine g_iload_n C dX9_row_1 rfl 1 rfl ?_
  refine g_iload_n C dX9_row_2 rfl 2 rfl ?_
  refine g_callVB C (R := RX9) (T := TX9) (N := 48) [.int a1, .int a2] (fun _ _ h => c_X9_isRow (kl x) N w hS _ _ h) (g_cwV C hR ml_X9_341 im_X9_isRow sl_X9_isRow ini_X9 cd_X9_isRow hd_X9_isRow (by decide)) kd_61 (by decide) rfl (in_61 hS) rfl _ rfl (Nat.le_of_ble_eq_true rfl) dX9_row_3 hf (fun r1 s1 hf => ?_)
  refine g_ifeqB (tgt := 22) C dX9_row_6 (by decide) hf (fun hf => ?_) (fun hf => ?_)
  · refine g_bipush C (v := (-9)) dX9_row_22 (by decide) ?_
    exact g_iret C dX9_row_24 hf
  · refine g_aload_n C dX9_row_9 rfl 0 rfl ?_
    refine g_get C (R := RX9) (T := TX9) (N := 48) (k := 30) (v := .ref (ad w 78)) kd_61 (by decide) rfl (in_61 hS) hinX9 (by decide) fl_X9_58 rfl rfl dX9_row_10 ?_
    refine g_iconst C (v := 2) dX9_row_13 rfl ?_
    refine g_iload_n C dX9_row_14 rfl 1 rfl ?_
    refine g_imul C dX9_row_15 ?_
    refine g_iload_n C dX9_row_16 rfl 2 rfl ?_
    refine g_iadd C dX9_row_17 ?_
    refine g_iald C kd_78 ln_78 (in_78 hS) dX9_row_18 hf (fun hf => ?_)
    refine g_goto (tgt := 24) C dX9_row_19 (by decide) ?_
    exact g_iret C dX9_row_24 hf

set_option maxHeartbeats 4000000 in
set_option maxRecDepth 100000 in
theorem c_X9_alterRow (l : Launch) (N : Nat) (w : WX) (hS : SS w = Sm) (a1 : Int32) (a2 : Int32) (a3 : Int32) {s s' : Mem} {r : Int32} (hf : f_X9_alterRow N a1 a2 a3 s = some (r, s')) : CI l yX9_alterRow (wz yX9_alterRow cX9_alterRow 5 (some .int)) ({ frames := 2, cells := 0, slots := 0, locals := 44 } : Room) [.ref (ad w 61), .int a1, .int a2, .int a3] w s r s' := by
  refine met_startI (cc := cX9_alterRow) (ret := (some .int)) (own := RX9) (maxL := 5) (by decide) rfl (Nat.le_of_ble_eq_true rfl) (fun x C hR hl => ?_)
  refine g_lv (lv' := [(0, .ref (ad w 61)), (1, .int a1), (2, .int a2), (3, .int a3)]) rfl ?_
  unfold f_X9_alterRow at hf
  refine g_aload_n C dX9_alterRow_0 rfl 0 rfl ?_
  refine g_iload_n C dX9_alterRow_1 rfl 1 rfl ?_
  refine g_iload_n C dX9_alterRow_2 rfl 2 rfl ?_
  refine g_callVB C (R := RX9) (T := TX9) (N := 48) [.int a1, .int a2] (fun _ _ h => c_X9_isRow (kl x) N w hS _ _ h) (g_cwV C hR ml_X9_341 im_X9_isRow sl_X9_isRow ini_X9 cd_X9_isRow hd_X9_isRow (by decide)) kd_61 (by decide) rfl (in_61 hS) rfl _ rfl (Nat.le_of_ble_eq_true rfl) dX9_alterRow_3 hf (fun r1 s1 hf => ?_)
  refine g_ifneB (tgt := 12) C dX9_alterRow_6 (by decide) hf (fun hf => ?_) (fun hf => ?_)
  · refine g_aload_n C dX9_alterRow_12 rfl 0 rfl ?_
    refine g_get C (R := RX9) (T := TX9) (N := 48) (k := 30) (v := .ref (ad w 78)) kd_61 (by decide) rfl (in_61 hS) hinX9 (by decide) fl_X9_58 rfl rfl dX9_alterRow_13 ?_
    refine g_iconst C (v := 2) dX9_alterRow_16 rfl ?_
    refine g_iload_n C dX9_alterRow_17 rfl 1 rfl ?_
    refine g_imul C dX9_alterRow_18 ?_
    refine g_iload_n C dX9_alterRow_19 rfl 2 rfl ?_
    refine g_iadd C dX9_alterRow_20 ?_
    refine g_iald C kd_78 ln_78 (in_78 hS) dX9_alterRow_21 hf (fun hf => ?_)
    refine g_istoreN (lv' := fun x2 => [(4, .int x2), (0, .ref (ad w 61)), (1, .int a1), (2, .int a2), (3, .int a3)]) C dX9_alterRow_22 (by decide) (fun _ => rfl) hf (fun x2 hf => ?_)
    refine g_aload_n C dX9_alterRow_24 rfl 1 rfl ?_
    refine g_get C (R := RX9) (T := TX9) (N := 48) (k := 30) (v := .ref (ad w 78)) kd_61 (by decide) rfl (in_61 hS) hinX9 (by decide) fl_X9_58 rfl rfl dX9_alterRow_25 ?_
    refine g_iconst C (v := 2) dX9_alterRow_28 rfl ?_
    refine g_iload_n C dX9_alterRow_29 rfl 2 rfl ?_
    refine g_imul C dX9_alterRow_30 ?_
    refine g_iload_n C dX9_alterRow_31 rfl 3 rfl ?_
    refine g_iadd C dX9_alterRow_32 ?_
    refine g_iload_n C dX9_alterRow_33 rfl 4 rfl ?_
    refine g_iast C kd_78 ln_78 (in_78 hS) dX9_alterRow_34 hf (fun hf => ?_)
    refine g_nameS hf (fun s3 hf => ?_)
    refine g_iload C dX9_alterRow_35 0 rfl ?_
    exact g_iret C dX9_alterRow_37 hf
  · refine g_bipush C (v := (-9)) dX9_alterRow_9 (by decide) ?_
    exact g_iret C dX9_alterRow_11 hf

set_option maxHeartbeats 4000000 in
set_option maxRecDepth 100000 in
theorem c_X9_paperFrom (l : Launch) (N : Nat) (w : WX) (hS : SS w = Sm) (a1 : Int32) (a2 : Int32) {s s' : Mem} {r : Int32} (hf : f_X9_paperFrom N a1 a2 s = some (r, s')) : CI l yX9_paperFrom (wz yX9_paperFrom cX9_paperFrom 4 (some .int)) ({ frames := 0, cells := 0, slots := 0, locals := 0 } : Room) [.ref (ad w 61), .int a1, .int a2] w s r s' := by
  refine met_startI (cc := cX9_paperFrom) (ret := (some .int)) (own := RX9) (maxL := 4) (by decide) rfl (Nat.le_of_ble_eq_true rfl) (fun x C hR hl => ?_)
  have j2 : ∀ (n : Nat), ∀ (v1 : Int32) (v3 : Int32) (s : Mem), f_X9_paperFrom_L2 N n v1 v3 s = some (r, s') → G x (QI x w r s') 4 w 2 [(0, .ref (ad w 61)), (1, .int v1), (3, .int v3)] [] s := by
    intro n
    induction n with
    | zero => intro v1 v3 s hf; cases hf
    | succ n ih =>
      intro v1 v3 s hf
      unfold f_X9_paperFrom_L2 at hf
      refine g_iload_n C dX9_paperFrom_2 rfl 2 rfl ?_
      refine g_aload_n C dX9_paperFrom_3 rfl 0 rfl ?_
      refine g_get C (R := RX9) (T := TX9) (N := 48) (k := 2) (v := .int (rI s 61 2)) kd_61 (by decide) rfl (in_61 hS) hinX9 (by decide) fl_X9_97 rfl rfl dX9_paperFrom_4 ?_
      refine g_icmp_ge (tgt := 31) C dX9_paperFrom_7 (by decide) hf (fun hf => ?_) (fun hf => ?_)
      · refine g_iconst C (v := (-1)) dX9_paperFrom_31 rfl ?_
        exact g_iret C dX9_paperFrom_32 hf
      · refine g_aload_n C dX9_paperFrom_10 rfl 0 rfl ?_
        refine g_get C (R := RX9) (T := TX9) (N := 48) (k := 3) (v := .ref (ad w 63)) kd_61 (by decide) rfl (in_61 hS) hinX9 (by decide) fl_X9_13 rfl rfl dX9_paperFrom_11 ?_
        refine g_bipush C (v := 6) dX9_paperFrom_14 (by decide) ?_
        refine g_iload_n C dX9_paperFrom_16 rfl 2 rfl ?_
        refine g_imul C dX9_paperFrom_17 ?_
        refine g_iald C kd_63 ln_63 (in_63 hS) dX9_paperFrom_18 hf (fun hf => ?_)
        refine g_iload_n C dX9_paperFrom_19 rfl 1 rfl ?_
        refine g_icmp_ne (tgt := 25) C dX9_paperFrom_20 (by decide) hf (fun hf => ?_) (fun hf => ?_)
        · refine g_iinc (v' := v3 + 1) (lv' := [(3, .int (v3 + 1)), (0, .ref (ad w 61)), (1, .int v1)]) C dX9_paperFrom_25 2 rfl rfl (by decide) rfl ?_
          refine g_goto (tgt := 2) C dX9_paperFrom_28 (by decide) ?_
          refine g_sub [1, 2, 0] rfl ?_
          exact ih _ _ _ hf
        · refine g_iload_n C dX9_paperFrom_23 rfl 2 rfl ?_
          exact g_iret C dX9_paperFrom_24 hf
  refine g_lv (lv' := [(0, .ref (ad w 61)), (1, .int a1), (2, .int a2)]) rfl ?_
  unfold f_X9_paperFrom at hf
  refine g_iload_n C dX9_paperFrom_0 rfl 2 rfl ?_
  refine g_istore_n (lv' := [(3, .int a2), (0, .ref (ad w 61)), (1, .int a1), (2, .int a2)]) C dX9_paperFrom_1 rfl (by decide) rfl ?_
  refine g_sub [1, 2, 0] rfl ?_
  exact j2 N _ _ _ hf

set_option maxHeartbeats 4000000 in
set_option maxRecDepth 100000 in
theorem c_X9_judge (l : Launch) (N : Nat) (w : WX) (hS : SS w = Sm) {s s' : Mem} {r : Int32} (hf : f_X9_judge N s = some (r, s')) : CI l yX9_judge (wz yX9_judge cX9_judge 5 (some .int)) ({ frames := 4, cells := 0, slots := 0, locals := 101 } : Room) [.ref (ad w 61)] w s r s' := by
  refine met_startI (cc := cX9_judge) (ret := (some .int)) (own := RX9) (maxL := 5) (by decide) rfl (Nat.le_of_ble_eq_true rfl) (fun x C hR hl => ?_)
  have j135 : ∀ (v1 : Int32) (v2 : Int32) (s : Mem), f_X9_judge_j135 N v1 v2 s = some (r, s') → G x (QI x w r s') 5 w 135 [(0, .ref (ad w 61)), (1, .int v1), (2, .int v2)] [] s := by
    intro v1 v2 s hf
    unfold f_X9_judge_j135 at hf
    refine g_aload_n C dX9_judge_135 rfl 0 rfl ?_
    refine g_iload_n C dX9_judge_136 rfl 1 rfl ?_
    refine g_iload_n C dX9_judge_137 rfl 2 rfl ?_
    refine g_callVI C (R := RX9) (T := TX9) (N := 48) [.int v1, .int v2] (fun _ _ h => c_X9_paperFrom (kl x) N w hS _ _ h) (g_cwV C hR ml_X9_344 im_X9_paperFrom sl_X9_paperFrom ini_X9 cd_X9_paperFrom hd_X9_paperFrom (by decide)) kd_61 (by decide) rfl (in_61 hS) rfl _ rfl (Nat.le_of_ble_eq_true rfl) dX9_judge_138 hf (fun r1 s1 hf => ?_)
    refine g_if_ge (tgt := 148) C dX9_judge_141 (by decide) hf (fun hf => ?_) (fun hf => ?_)
    · refine g_bipush C (v := 20) dX9_judge_148 (by decide) ?_
      exact g_iret C dX9_judge_150 hf
    · refine g_iconst C (v := 0) dX9_judge_144 rfl ?_
      refine g_goto (tgt := 150) C dX9_judge_145 (by decide) ?_
      exact g_iret C dX9_judge_150 hf
  have j117 : ∀ (k53 : Int32 → Int32 → Int32 → Mem → Option (Int32 × Mem)) (k135 : Int32 → Int32 → Mem → Option (Int32 × Mem)), (∀ (v1 : Int32) (v2 : Int32) (v3 : Int32) (s : Mem), k53 v1 v2 v3 s = some (r, s') → G x (QI x w r s') 5 w 53 [(0, .ref (ad w 61)), (1, .int v1), (2, .int v2), (3, .int v3)] [] s) → (∀ (v1 : Int32) (v2 : Int32) (s : Mem), k135 v1 v2 s = some (r, s') → G x (QI x w r s') 5 w 135 [(0, .ref (ad w 61)), (1, .int v1), (2, .int v2)] [] s) → ∀ (v1 : Int32) (v3 : Int32) (v4 : Int32) (p0 : Bool) (p1 : Int32) (s : Mem), f_X9_judge_j117 N k53 k135 v1 v3 v4 p0 p1 s = some (r, s') → G x (QI x w r s') 5 w 117 [(0, .ref (ad w 61)), (1, .int v1), (3, .int v3), (4, .int v4)] [.int (bI p0), .int p1] s := by
    intro k53 k135 q53 q135 v1 v3 v4 p0 p1 s hf
    unfold f_X9_judge_j117 at hf
    refine g_icmp_eq (tgt := 124) C dX9_judge_117 (by decide) hf (fun hf => ?_) (fun hf => ?_)
    · refine g_iload C dX9_judge_124 3 rfl ?_
      refine g_iconst C (v := 1) dX9_judge_126 rfl ?_
      refine g_iadd C dX9_judge_127 ?_
      refine g_istore_n (lv' := [(2, .int (v4 + 1)), (0, .ref (ad w 61)), (1, .int v1), (3, .int v3), (4, .int v4)]) C dX9_judge_128 rfl (by decide) rfl ?_
      refine g_iinc (v' := v3 + 1) (lv' := [(3, .int (v3 + 1)), (2, .int (v4 + 1)), (0, .ref (ad w 61)), (1, .int v1), (4, .int v4)]) C dX9_judge_129 3 rfl rfl (by decide) rfl ?_
      refine g_goto (tgt := 53) C dX9_judge_132 (by decide) ?_
      refine g_sub [2, 3, 1, 0] rfl ?_
      exact q53 _ _ _ _ hf
    · refine g_iload_n C dX9_judge_120 rfl 2 rfl ?_
      refine g_iconst C (v := 1) dX9_judge_121 rfl ?_
      refine g_iadd C dX9_judge_122 ?_
      exact g_iret C dX9_judge_123 hf
  have j53 : ∀ (k135 : Int32 → Int32 → Mem → Option (Int32 × Mem)), (∀ (v1 : Int32) (v2 : Int32) (s : Mem), k135 v1 v2 s = some (r, s') → G x (QI x w r s') 5 w 135 [(0, .ref (ad w 61)), (1, .int v1), (2, .int v2)] [] s) → ∀ (n : Nat), ∀ (v1 : Int32) (v2 : Int32) (v3 : Int32) (s : Mem), f_X9_judge_L53 N k135 n v1 v2 v3 s = some (r, s') → G x (QI x w r s') 5 w 53 [(0, .ref (ad w 61)), (1, .int v1), (2, .int v2), (3, .int v3)] [] s := by
    intro k135 q135 n
    induction n with
    | zero => intro v1 v2 v3 s hf; cases hf
    | succ n ih =>
      intro v1 v2 v3 s hf
      unfold f_X9_judge_L53 at hf
      refine g_iload_n C dX9_judge_53 rfl 3 rfl ?_
      refine g_aload_n C dX9_judge_54 rfl 0 rfl ?_
      refine g_get C (R := RX9) (T := TX9) (N := 48) (k := 31) (v := .int (rI s 61 31)) kd_61 (by decide) rfl (in_61 hS) hinX9 (by decide) fl_X9_338 rfl rfl dX9_judge_55 ?_
      refine g_icmp_ge (tgt := 135) C dX9_judge_58 (by decide) hf (fun hf => ?_) (fun hf => ?_)
      · refine g_sub [0, 1, 2] rfl ?_
        exact q135 _ _ _ hf
      · refine g_aload_n C dX9_judge_61 rfl 0 rfl ?_
        refine g_iload_n C dX9_judge_62 rfl 1 rfl ?_
        refine g_iload_n C dX9_judge_63 rfl 2 rfl ?_
        refine g_callVI C (R := RX9) (T := TX9) (N := 48) [.int v1, .int v2] (fun _ _ h => c_X9_paperFrom (kl x) N w hS _ _ h) (g_cwV C hR ml_X9_344 im_X9_paperFrom sl_X9_paperFrom ini_X9 cd_X9_paperFrom hd_X9_paperFrom (by decide)) kd_61 (by decide) rfl (in_61 hS) rfl _ rfl (Nat.le_of_ble_eq_true rfl) dX9_judge_64 hf (fun r1 s1 hf => ?_)
        refine g_istore (lv' := [(4, .int r1), (0, .ref (ad w 61)), (1, .int v1), (2, .int v2), (3, .int v3)]) C dX9_judge_67 (by decide) rfl ?_
        refine g_iload C dX9_judge_69 0 rfl ?_
        refine g_if_lt (tgt := 120) C dX9_judge_71 (by decide) hf (fun hf => ?_) (fun hf => ?_)
        · refine g_iload_n C dX9_judge_120 rfl 4 rfl ?_
          refine g_iconst C (v := 1) dX9_judge_121 rfl ?_
          refine g_iadd C dX9_judge_122 ?_
          exact g_iret C dX9_judge_123 hf
        · refine g_aload_n C dX9_judge_74 rfl 1 rfl ?_
          refine g_get C (R := RX9) (T := TX9) (N := 48) (k := 30) (v := .ref (ad w 78)) kd_61 (by decide) rfl (in_61 hS) hinX9 (by decide) fl_X9_58 rfl rfl dX9_judge_75 ?_
          refine g_iconst C (v := 2) dX9_judge_78 rfl ?_
          refine g_iload_n C dX9_judge_79 rfl 4 rfl ?_
          refine g_imul C dX9_judge_80 ?_
          refine g_iald C kd_78 ln_78 (in_78 hS) dX9_judge_81 hf (fun hf => ?_)
          refine g_iload C dX9_judge_82 0 rfl ?_
          refine g_icmp_ne (tgt := 120) C dX9_judge_84 (by decide) hf (fun hf => ?_) (fun hf => ?_)
          · refine g_iload_n C dX9_judge_120 rfl 4 rfl ?_
            refine g_iconst C (v := 1) dX9_judge_121 rfl ?_
            refine g_iadd C dX9_judge_122 ?_
            exact g_iret C dX9_judge_123 hf
          · refine g_aload_n C dX9_judge_87 rfl 1 rfl ?_
            refine g_get C (R := RX9) (T := TX9) (N := 48) (k := 30) (v := .ref (ad w 78)) kd_61 (by decide) rfl (in_61 hS) hinX9 (by decide) fl_X9_58 rfl rfl dX9_judge_88 ?_
            refine g_iconst C (v := 2) dX9_judge_91 rfl ?_
            refine g_iload_n C dX9_judge_92 rfl 4 rfl ?_
            refine g_imul C dX9_judge_93 ?_
            refine g_iconst C (v := 1) dX9_judge_94 rfl ?_
            refine g_iadd C dX9_judge_95 ?_
            refine g_iald C kd_78 ln_78 (in_78 hS) dX9_judge_96 hf (fun hf => ?_)
            refine g_aload_n C dX9_judge_97 rfl 1 rfl ?_
            refine g_iload C dX9_judge_98 0 rfl ?_
            refine g_aload_n C dX9_judge_100 rfl 1 rfl ?_
            refine g_get C (R := RX9) (T := TX9) (N := 48) (k := 30) (v := .ref (ad w 78)) kd_61 (by decide) rfl (in_61 hS) hinX9 (by decide) fl_X9_58 rfl rfl dX9_judge_101 ?_
            refine g_iconst C (v := 1) dX9_judge_104 rfl ?_
            refine g_iald C kd_78 ln_78 (in_78 hS) dX9_judge_105 hf (fun hf => ?_)
            refine g_callVB C (R := RX9) (T := TX9) (N := 48) [.int r1, .int (rI s1 78 (1 : Int32).toNatClampNeg)] (fun _ _ h => c_X9_spans (kl x) N w hS _ _ h) (g_cwV C hR ml_X9_121 im_X9_spans sl_X9_spans ini_X9 cd_X9_spans hd_X9_spans (by decide)) kd_61 (by decide) rfl (in_61 hS) rfl _ rfl (Nat.le_of_ble_eq_true rfl) dX9_judge_106 hf (fun r2 s2 hf => ?_)
            refine g_ifeqB (tgt := 116) C dX9_judge_109 (by decide) hf (fun hf => ?_) (fun hf => ?_)
            · refine g_iconst C (v := 0) dX9_judge_116 rfl ?_
              refine g_sub [1, 2, 4, 0] rfl ?_
              exact j117 (f_X9_judge_L53 N k135 n) k135 ih q135 _ _ _ _ _ _ hf
            · refine g_iconst C (v := 1) dX9_judge_112 rfl ?_
              refine g_goto (tgt := 117) C dX9_judge_113 (by decide) ?_
              refine g_sub [1, 2, 4, 0] rfl ?_
              exact j117 (f_X9_judge_L53 N k135 n) k135 ih q135 _ _ _ _ _ _ hf
  refine g_lv (lv' := [(0, .ref (ad w 61))]) rfl ?_
  unfold f_X9_judge at hf
  refine g_aload_n C dX9_judge_0 rfl 0 rfl ?_
  refine g_get C (R := RX9) (T := TX9) (N := 48) (k := 31) (v := .int (rI s 61 31)) kd_61 (by decide) rfl (in_61 hS) hinX9 (by decide) fl_X9_338 rfl rfl dX9_judge_1 ?_
  refine g_if_ne (tgt := 10) C dX9_judge_4 (by decide) hf (fun hf => ?_) (fun hf => ?_)
  · refine g_aload_n C dX9_judge_10 rfl 0 rfl ?_
    refine g_get C (R := RX9) (T := TX9) (N := 48) (k := 30) (v := .ref (ad w 78)) kd_61 (by decide) rfl (in_61 hS) hinX9 (by decide) fl_X9_58 rfl rfl dX9_judge_11 ?_
    refine g_iconst C (v := 0) dX9_judge_14 rfl ?_
    refine g_iald C kd_78 ln_78 (in_78 hS) dX9_judge_15 hf (fun hf => ?_)
    refine g_istore_nN (lv' := fun x1 => [(1, .int x1), (0, .ref (ad w 61))]) C dX9_judge_16 rfl (by decide) (fun _ => rfl) hf (fun x1 hf => ?_)
    refine g_aload_n C dX9_judge_17 rfl 1 rfl ?_
    refine g_iload_n C dX9_judge_18 rfl 0 rfl ?_
    refine g_callVB C (R := RX9) (T := TX9) (N := 48) [.int x1] (fun _ _ h => c_X9_isPerson (kl x) N w hS _ h) (g_cwV C hR ml_X9_100 im_X9_isPerson sl_X9_isPerson ini_X9 cd_X9_isPerson hd_X9_isPerson (by decide)) kd_61 (by decide) rfl (in_61 hS) rfl _ rfl (Nat.le_of_ble_eq_true rfl) dX9_judge_19 hf (fun r2 s2 hf => ?_)
    refine g_ifeqB (tgt := 47) C dX9_judge_22 (by decide) hf (fun hf => ?_) (fun hf => ?_)
    · refine g_iconst C (v := 1) dX9_judge_47 rfl ?_
      exact g_iret C dX9_judge_48 hf
    · refine g_aload_n C dX9_judge_25 rfl 1 rfl ?_
      refine g_iload_n C dX9_judge_26 rfl 0 rfl ?_
      refine g_callVI C (R := RX9) (T := TX9) (N := 48) [.int x1] (fun _ _ h => c_X9_bestOf (kl x) N w hS _ h) (g_cwV C hR ml_X9_153 im_X9_bestOf sl_X9_bestOf ini_X9 cd_X9_bestOf hd_X9_bestOf (by decide)) kd_61 (by decide) rfl (in_61 hS) rfl _ rfl (Nat.le_of_ble_eq_true rfl) dX9_judge_27 hf (fun r3 s3 hf => ?_)
      refine g_if_lt (tgt := 47) C dX9_judge_30 (by decide) hf (fun hf => ?_) (fun hf => ?_)
      · refine g_iconst C (v := 1) dX9_judge_47 rfl ?_
        exact g_iret C dX9_judge_48 hf
      · refine g_aload_n C dX9_judge_33 rfl 1 rfl ?_
        refine g_iload_n C dX9_judge_34 rfl 0 rfl ?_
        refine g_callVI C (R := RX9) (T := TX9) (N := 48) [.int x1] (fun _ _ h => c_X9_bestOf (kl x) N w hS _ h) (g_cwV C hR ml_X9_153 im_X9_bestOf sl_X9_bestOf ini_X9 cd_X9_bestOf hd_X9_bestOf (by decide)) kd_61 (by decide) rfl (in_61 hS) rfl _ rfl (Nat.le_of_ble_eq_true rfl) dX9_judge_35 hf (fun r4 s4 hf => ?_)
        refine g_aload_n C dX9_judge_38 rfl 1 rfl ?_
        refine g_get C (R := RX9) (T := TX9) (N := 48) (k := 30) (v := .ref (ad w 78)) kd_61 (by decide) rfl (in_61 hS) hinX9 (by decide) fl_X9_58 rfl rfl dX9_judge_39 ?_
        refine g_iconst C (v := 1) dX9_judge_42 rfl ?_
        refine g_iald C kd_78 ln_78 (in_78 hS) dX9_judge_43 hf (fun hf => ?_)
        refine g_icmp_eq (tgt := 49) C dX9_judge_44 (by decide) hf (fun hf => ?_) (fun hf => ?_)
        · refine g_iconst C (v := 0) dX9_judge_49 rfl ?_
          refine g_istore_n (lv' := [(2, .int 0), (1, .int x1), (0, .ref (ad w 61))]) C dX9_judge_50 rfl (by decide) rfl ?_
          refine g_iconst C (v := 1) dX9_judge_51 rfl ?_
          refine g_istore_n (lv' := [(3, .int 1), (2, .int 0), (1, .int x1), (0, .ref (ad w 61))]) C dX9_judge_52 rfl (by decide) rfl ?_
          refine g_sub [3, 2, 1, 0] rfl ?_
          exact j53 (f_X9_judge_j135 N) j135 N _ _ _ _ hf
        · refine g_iconst C (v := 1) dX9_judge_47 rfl ?_
          exact g_iret C dX9_judge_48 hf
  · refine g_bipush C (v := 30) dX9_judge_7 (by decide) ?_
    exact g_iret C dX9_judge_9 hf

set_option maxHeartbeats 4000000 in
set_option maxRecDepth 100000 in
theorem c_X9_sheet (l : Launch) (N : Nat) (w : WX) (hS : SS w = Sm) (a1 : Int32) (a2 : Int32) (a3 : Int32) {s s' : Mem} {r : Int32} (hf : f_X9_sheet N a1 a2 a3 s = some (r, s')) : CI l yX9_sheet (wz yX9_sheet cX9_sheet 5 (some .int)) ({ frames := 2, cells := 0, slots := 0, locals := 42 } : Room) [.ref (ad w 61), .int a1, .int a2, .int a3] w s r s' := by
  refine met_startI (cc := cX9_sheet) (ret := (some .int)) (own := RX9) (maxL := 5) (by decide) rfl (Nat.le_of_ble_eq_true rfl) (fun x C hR hl => ?_)
  have j64 : ∀ (n : Nat), ∀ (v1 : Int32) (v4 : Int32) (s : Mem), f_X9_sheet_L64 N n v1 v4 s = some (r, s') → G x (QI x w r s') 5 w 64 [(0, .ref (ad w 61)), (1, .int v1), (4, .int v4)] [] s := by
    intro n
    induction n with
    | zero => intro v1 v4 s hf; cases hf
    | succ n ih =>
      intro v1 v4 s hf
      unfold f_X9_sheet_L64 at hf
      refine g_iload C dX9_sheet_64 2 rfl ?_
      refine g_bipush C (v := 40) dX9_sheet_66 (by decide) ?_
      refine g_icmp_ge (tgt := 90) C dX9_sheet_68 (by decide) hf (fun hf => ?_) (fun hf => ?_)
      · refine g_iconst C (v := 1) dX9_sheet_90 rfl ?_
        exact g_iret C dX9_sheet_91 hf
      · refine g_aload_n C dX9_sheet_71 rfl 0 rfl ?_
        refine g_get C (R := RX9) (T := TX9) (N := 48) (k := 34) (v := .ref (ad w 81)) kd_61 (by decide) rfl (in_61 hS) hinX9 (by decide) fl_X9_67 rfl rfl dX9_sheet_72 ?_
        refine g_bipush C (v := 40) dX9_sheet_75 (by decide) ?_
        refine g_iload_n C dX9_sheet_77 rfl 1 rfl ?_
        refine g_imul C dX9_sheet_78 ?_
        refine g_iload C dX9_sheet_79 2 rfl ?_
        refine g_iadd C dX9_sheet_81 ?_
        refine g_lconst C (v := 0) dX9_sheet_82 rfl ?_
        refine g_last C kd_81 ln_81 (in_81 hS) dX9_sheet_83 hf (fun hf => ?_)
        refine g_nameS hf (fun s1 hf => ?_)
        refine g_iinc (v' := v4 + 1) (lv' := [(4, .int (v4 + 1)), (0, .ref (ad w 61)), (1, .int v1)]) C dX9_sheet_84 2 rfl rfl (by decide) rfl ?_
        refine g_goto (tgt := 64) C dX9_sheet_87 (by decide) ?_
        refine g_sub [1, 2, 0] rfl ?_
        exact ih _ _ _ hf
  have j60 : ∀ (v1 : Int32) (p0 : Int32) (p1 : Int32) (s : Mem), f_X9_sheet_j60 N v1 p0 p1 s = some (r, s') → G x (QI x w r s') 5 w 60 [(0, .ref (ad w 61)), (1, .int v1)] [.int p0, .int p1, .ref (ad w 80)] s := by
    intro v1 p0 p1 s hf
    unfold f_X9_sheet_j60 at hf
    refine g_iast C kd_80 ln_80 (in_80 hS) dX9_sheet_60 hf (fun hf => ?_)
    refine g_nameS hf (fun s1 hf => ?_)
    refine g_iconst C (v := 0) dX9_sheet_61 rfl ?_
    refine g_istore (lv' := [(4, .int 0), (0, .ref (ad w 61)), (1, .int v1)]) C dX9_sheet_62 (by decide) rfl ?_
    refine g_sub [1, 2, 0] rfl ?_
    exact j64 N _ _ _ hf
  have j39 : ∀ (v1 : Int32) (v2 : Int32) (v3 : Int32) (s : Mem), f_X9_sheet_j39 N v1 v2 v3 s = some (r, s') → G x (QI x w r s') 5 w 39 [(0, .ref (ad w 61)), (1, .int v1), (2, .int v2), (3, .int v3)] [] s := by
    intro v1 v2 v3 s hf
    unfold f_X9_sheet_j39 at hf
    refine g_aload_n C dX9_sheet_39 rfl 0 rfl ?_
    refine g_get C (R := RX9) (T := TX9) (N := 48) (k := 32) (v := .ref (ad w 79)) kd_61 (by decide) rfl (in_61 hS) hinX9 (by decide) fl_X9_61 rfl rfl dX9_sheet_40 ?_
    refine g_iload_n C dX9_sheet_43 rfl 1 rfl ?_
    refine g_iload_n C dX9_sheet_44 rfl 2 rfl ?_
    refine g_iast C kd_79 ln_79 (in_79 hS) dX9_sheet_45 hf (fun hf => ?_)
    refine g_nameS hf (fun s1 hf => ?_)
    refine g_aload_n C dX9_sheet_46 rfl 0 rfl ?_
    refine g_get C (R := RX9) (T := TX9) (N := 48) (k := 33) (v := .ref (ad w 80)) kd_61 (by decide) rfl (in_61 hS) hinX9 (by decide) fl_X9_64 rfl rfl dX9_sheet_47 ?_
    refine g_iload_n C dX9_sheet_50 rfl 1 rfl ?_
    refine g_iload_n C dX9_sheet_51 rfl 2 rfl ?_
    refine g_if_ge (tgt := 59) C dX9_sheet_52 (by decide) hf (fun hf => ?_) (fun hf => ?_)
    · refine g_iload_n C dX9_sheet_59 rfl 3 rfl ?_
      refine g_sub [0, 1] rfl ?_
      exact j60 _ _ _ _ hf
    · refine g_iconst C (v := 0) dX9_sheet_55 rfl ?_
      refine g_goto (tgt := 60) C dX9_sheet_56 (by decide) ?_
      refine g_sub [0, 1] rfl ?_
      exact j60 _ _ _ _ hf
  have j28 : ∀ (v1 : Int32) (v2 : Int32) (v3 : Int32) (s : Mem), f_X9_sheet_j28 N v1 v2 v3 s = some (r, s') → G x (QI x w r s') 5 w 28 [(0, .ref (ad w 61)), (1, .int v1), (2, .int v2), (3, .int v3)] [] s := by
    intro v1 v2 v3 s hf
    unfold f_X9_sheet_j28 at hf
    refine g_iload_n C dX9_sheet_28 rfl 2 rfl ?_
    refine g_if_lt (tgt := 39) C dX9_sheet_29 (by decide) hf (fun hf => ?_) (fun hf => ?_)
    · exact j39 _ _ _ _ hf
    · refine g_iload_n C dX9_sheet_32 rfl 3 rfl ?_
      refine g_if_ge (tgt := 39) C dX9_sheet_33 (by decide) hf (fun hf => ?_) (fun hf => ?_)
      · exact j39 _ _ _ _ hf
      · refine g_bipush C (v := (-14)) dX9_sheet_36 (by decide) ?_
        exact g_iret C dX9_sheet_38 hf
  refine g_lv (lv' := [(0, .ref (ad w 61)), (1, .int a1), (2, .int a2), (3, .int a3)]) rfl ?_
  unfold f_X9_sheet at hf
  refine g_iload_n C dX9_sheet_0 rfl 1 rfl ?_
  refine g_callSB C [.int a1] (fun _ _ h => c_X9_isShelf (kl x) N w _ h) (g_cwS C hR ml_X9_125 sm_X9_isShelf ini_X9 cd_X9_isShelf hd_X9_isShelf (by decide)) rfl _ rfl (Nat.le_of_ble_eq_true rfl) dX9_sheet_1 hf (fun r1 s1 hf => ?_)
  refine g_ifeqB (tgt := 26) C dX9_sheet_4 (by decide) hf (fun hf => ?_) (fun hf => ?_)
  · refine g_iconst C (v := (-1)) dX9_sheet_26 rfl ?_
    exact g_iret C dX9_sheet_27 hf
  · refine g_iload_n C dX9_sheet_7 rfl 2 rfl ?_
    refine g_iconst C (v := (-1)) dX9_sheet_8 rfl ?_
    refine g_iconst C (v := 3) dX9_sheet_9 rfl ?_
    refine g_callSB C [.int a2, .int (-1), .int 3] (fun _ _ h => c_X9_in (kl x) N w _ _ _ h) (g_cwS C hR ml_X9_93 sm_X9_in ini_X9 cd_X9_in hd_X9_in (by decide)) rfl _ rfl (Nat.le_of_ble_eq_true rfl) dX9_sheet_10 hf (fun r2 s2 hf => ?_)
    refine g_ifeqB (tgt := 26) C dX9_sheet_13 (by decide) hf (fun hf => ?_) (fun hf => ?_)
    · refine g_iconst C (v := (-1)) dX9_sheet_26 rfl ?_
      exact g_iret C dX9_sheet_27 hf
    · refine g_iload_n C dX9_sheet_16 rfl 2 rfl ?_
      refine g_if_lt (tgt := 28) C dX9_sheet_17 (by decide) hf (fun hf => ?_) (fun hf => ?_)
      · exact j28 _ _ _ _ hf
      · refine g_iload_n C dX9_sheet_20 rfl 3 rfl ?_
        refine g_bipush C (v := 40) dX9_sheet_21 (by decide) ?_
        refine g_icmp_le (tgt := 28) C dX9_sheet_23 (by decide) hf (fun hf => ?_) (fun hf => ?_)
        · exact j28 _ _ _ _ hf
        · refine g_iconst C (v := (-1)) dX9_sheet_26 rfl ?_
          exact g_iret C dX9_sheet_27 hf

set_option maxHeartbeats 4000000 in
set_option maxRecDepth 100000 in
theorem c_X9_put (l : Launch) (N : Nat) (w : WX) (hS : SS w = Sm) (a1 : Int32) (a2 : Int32) (a3 : Int32) {s s' : Mem} {r : Int32} (hf : f_X9_put N a1 a2 a3 s = some (r, s')) : CI l yX9_put (wz yX9_put cX9_put 4 (some .int)) ({ frames := 2, cells := 0, slots := 0, locals := 42 } : Room) [.ref (ad w 61), .int a1, .int a2, .int a3] w s r s' := by
  refine met_startI (cc := cX9_put) (ret := (some .int)) (own := RX9) (maxL := 4) (by decide) rfl (Nat.le_of_ble_eq_true rfl) (fun x C hR hl => ?_)
  refine g_lv (lv' := [(0, .ref (ad w 61)), (1, .int a1), (2, .int a2), (3, .int a3)]) rfl ?_
  unfold f_X9_put at hf
  refine g_iload_n C dX9_put_0 rfl 1 rfl ?_
  refine g_callSB C [.int a1] (fun _ _ h => c_X9_isShelf (kl x) N w _ h) (g_cwS C hR ml_X9_125 sm_X9_isShelf ini_X9 cd_X9_isShelf hd_X9_isShelf (by decide)) rfl _ rfl (Nat.le_of_ble_eq_true rfl) dX9_put_1 hf (fun r1 s1 hf => ?_)
  refine g_ifneB (tgt := 9) C dX9_put_4 (by decide) hf (fun hf => ?_) (fun hf => ?_)
  · refine g_aload_n C dX9_put_9 rfl 0 rfl ?_
    refine g_get C (R := RX9) (T := TX9) (N := 48) (k := 32) (v := .ref (ad w 79)) kd_61 (by decide) rfl (in_61 hS) hinX9 (by decide) fl_X9_61 rfl rfl dX9_put_10 ?_
    refine g_iload_n C dX9_put_13 rfl 1 rfl ?_
    refine g_iald C kd_79 ln_79 (in_79 hS) dX9_put_14 hf (fun hf => ?_)
    refine g_if_ge (tgt := 21) C dX9_put_15 (by decide) hf (fun hf => ?_) (fun hf => ?_)
    · refine g_iload_n C dX9_put_21 rfl 2 rfl ?_
      refine g_iconst C (v := 0) dX9_put_22 rfl ?_
      refine g_aload_n C dX9_put_23 rfl 0 rfl ?_
      refine g_get C (R := RX9) (T := TX9) (N := 48) (k := 33) (v := .ref (ad w 80)) kd_61 (by decide) rfl (in_61 hS) hinX9 (by decide) fl_X9_64 rfl rfl dX9_put_24 ?_
      refine g_iload_n C dX9_put_27 rfl 1 rfl ?_
      refine g_iald C kd_80 ln_80 (in_80 hS) dX9_put_28 hf (fun hf => ?_)
      refine g_iconst C (v := 1) dX9_put_29 rfl ?_
      refine g_isub C dX9_put_30 ?_
      refine g_callSB C [.int a2, .int 0, .int ((rI s1 80 a1.toNatClampNeg) - 1)] (fun _ _ h => c_X9_in (kl x) N w _ _ _ h) (g_cwS C hR ml_X9_93 sm_X9_in ini_X9 cd_X9_in hd_X9_in (by decide)) rfl _ rfl (Nat.le_of_ble_eq_true rfl) dX9_put_31 hf (fun r2 s2 hf => ?_)
      refine g_ifneB (tgt := 40) C dX9_put_34 (by decide) hf (fun hf => ?_) (fun hf => ?_)
      · refine g_aload_n C dX9_put_40 rfl 0 rfl ?_
        refine g_get C (R := RX9) (T := TX9) (N := 48) (k := 34) (v := .ref (ad w 81)) kd_61 (by decide) rfl (in_61 hS) hinX9 (by decide) fl_X9_67 rfl rfl dX9_put_41 ?_
        refine g_bipush C (v := 40) dX9_put_44 (by decide) ?_
        refine g_iload_n C dX9_put_46 rfl 1 rfl ?_
        refine g_imul C dX9_put_47 ?_
        refine g_iload_n C dX9_put_48 rfl 2 rfl ?_
        refine g_iadd C dX9_put_49 ?_
        refine g_aload_n C dX9_put_50 rfl 0 rfl ?_
        refine g_get C (R := RX9) (T := TX9) (N := 48) (k := 32) (v := .ref (ad w 79)) kd_61 (by decide) rfl (in_61 hS) hinX9 (by decide) fl_X9_61 rfl rfl dX9_put_51 ?_
        refine g_iload_n C dX9_put_54 rfl 1 rfl ?_
        refine g_iald C kd_79 ln_79 (in_79 hS) dX9_put_55 hf (fun hf => ?_)
        refine g_if_ne (tgt := 65) C dX9_put_56 (by decide) hf (fun hf => ?_) (fun hf => ?_)
        · refine g_aload_n C dX9_put_65 rfl 0 rfl ?_
          refine g_get C (R := RX9) (T := TX9) (N := 48) (k := 32) (v := .ref (ad w 79)) kd_61 (by decide) rfl (in_61 hS) hinX9 (by decide) fl_X9_61 rfl rfl dX9_put_66 ?_
          refine g_iload_n C dX9_put_69 rfl 1 rfl ?_
          refine g_iald C kd_79 ln_79 (in_79 hS) dX9_put_70 hf (fun hf => ?_)
          refine g_iconst C (v := 1) dX9_put_71 rfl ?_
          refine g_icmp_ne (tgt := 81) C dX9_put_72 (by decide) hf (fun hf => ?_) (fun hf => ?_)
          · refine g_iload_n C dX9_put_81 rfl 3 rfl ?_
            refine g_i2l C dX9_put_82 ?_
            refine g_last C kd_81 ln_81 (in_81 hS) dX9_put_83 hf (fun hf => ?_)
            refine g_nameS hf (fun s3 hf => ?_)
            refine g_iconst C (v := 1) dX9_put_84 rfl ?_
            exact g_iret C dX9_put_85 hf
          · refine g_iload_n C dX9_put_75 rfl 3 rfl ?_
            refine g_i2s C dX9_put_76 ?_
            refine g_i2l C dX9_put_77 ?_
            refine g_goto (tgt := 83) C dX9_put_78 (by decide) ?_
            refine g_last C kd_81 ln_81 (in_81 hS) dX9_put_83 hf (fun hf => ?_)
            refine g_nameS hf (fun s4 hf => ?_)
            refine g_iconst C (v := 1) dX9_put_84 rfl ?_
            exact g_iret C dX9_put_85 hf
        · refine g_iload_n C dX9_put_59 rfl 3 rfl ?_
          refine g_i2b C dX9_put_60 ?_
          refine g_i2l C dX9_put_61 ?_
          refine g_goto (tgt := 83) C dX9_put_62 (by decide) ?_
          refine g_last C kd_81 ln_81 (in_81 hS) dX9_put_83 hf (fun hf => ?_)
          refine g_nameS hf (fun s5 hf => ?_)
          refine g_iconst C (v := 1) dX9_put_84 rfl ?_
          exact g_iret C dX9_put_85 hf
      · refine g_bipush C (v := (-12)) dX9_put_37 (by decide) ?_
        exact g_iret C dX9_put_39 hf
    · refine g_bipush C (v := (-11)) dX9_put_18 (by decide) ?_
      exact g_iret C dX9_put_20 hf
  · refine g_iconst C (v := (-1)) dX9_put_7 rfl ?_
    exact g_iret C dX9_put_8 hf

set_option maxHeartbeats 4000000 in
set_option maxRecDepth 100000 in
theorem c_X9_item (l : Launch) (N : Nat) (w : WX) (hS : SS w = Sm) (a1 : Int32) (a2 : Int32) (a3 : Int32) {s s' : Mem} {r : Int32} (hf : f_X9_item N a1 a2 a3 s = some (r, s')) : CI l yX9_item (wz yX9_item cX9_item 5 (some .int)) ({ frames := 2, cells := 0, slots := 0, locals := 42 } : Room) [.ref (ad w 61), .int a1, .int a2, .int a3] w s r s' := by
  refine met_startI (cc := cX9_item) (ret := (some .int)) (own := RX9) (maxL := 5) (by decide) rfl (Nat.le_of_ble_eq_true rfl) (fun x C hR hl => ?_)
  refine g_lv (lv' := [(0, .ref (ad w 61)), (1, .int a1), (2, .int a2), (3, .int a3)]) rfl ?_
  unfold f_X9_item at hf
  refine g_iload_n C dX9_item_0 rfl 1 rfl ?_
  refine g_callSB C [.int a1] (fun _ _ h => c_X9_isShelf (kl x) N w _ h) (g_cwS C hR ml_X9_125 sm_X9_isShelf ini_X9 cd_X9_isShelf hd_X9_isShelf (by decide)) rfl _ rfl (Nat.le_of_ble_eq_true rfl) dX9_item_1 hf (fun r1 s1 hf => ?_)
  refine g_ifeqB (tgt := 16) C dX9_item_4 (by decide) hf (fun hf => ?_) (fun hf => ?_)
  · refine g_iconst C (v := (-1)) dX9_item_16 rfl ?_
    exact g_iret C dX9_item_17 hf
  · refine g_iload_n C dX9_item_7 rfl 2 rfl ?_
    refine g_iconst C (v := 0) dX9_item_8 rfl ?_
    refine g_iconst C (v := 3) dX9_item_9 rfl ?_
    refine g_callSB C [.int a2, .int 0, .int 3] (fun _ _ h => c_X9_in (kl x) N w _ _ _ h) (g_cwS C hR ml_X9_93 sm_X9_in ini_X9 cd_X9_in hd_X9_in (by decide)) rfl _ rfl (Nat.le_of_ble_eq_true rfl) dX9_item_10 hf (fun r2 s2 hf => ?_)
    refine g_ifneB (tgt := 18) C dX9_item_13 (by decide) hf (fun hf => ?_) (fun hf => ?_)
    · refine g_aload_n C dX9_item_18 rfl 0 rfl ?_
      refine g_iload_n C dX9_item_19 rfl 1 rfl ?_
      refine g_iload_n C dX9_item_20 rfl 2 rfl ?_
      refine g_callVI C (R := RX9) (T := TX9) (N := 48) [.int a1, .int a2] (fun _ _ h => c_X9_lacksSort (kl x) N w hS _ _ h) (g_cwV C hR ml_X9_128 im_X9_lacksSort sl_X9_lacksSort ini_X9 cd_X9_lacksSort hd_X9_lacksSort (by decide)) kd_61 (by decide) rfl (in_61 hS) rfl _ rfl (Nat.le_of_ble_eq_true rfl) dX9_item_21 hf (fun r3 s3 hf => ?_)
      refine g_istore (lv' := [(4, .int r3), (0, .ref (ad w 61)), (1, .int a1), (2, .int a2), (3, .int a3)]) C dX9_item_24 (by decide) rfl ?_
      refine g_iload C dX9_item_26 0 rfl ?_
      refine g_if_eq (tgt := 34) C dX9_item_28 (by decide) hf (fun hf => ?_) (fun hf => ?_)
      · refine g_iload_n C dX9_item_34 rfl 4 rfl ?_
        refine g_iconst C (v := 0) dX9_item_35 rfl ?_
        refine g_aload_n C dX9_item_36 rfl 1 rfl ?_
        refine g_get C (R := RX9) (T := TX9) (N := 48) (k := 33) (v := .ref (ad w 80)) kd_61 (by decide) rfl (in_61 hS) hinX9 (by decide) fl_X9_64 rfl rfl dX9_item_37 ?_
        refine g_iload_n C dX9_item_40 rfl 2 rfl ?_
        refine g_iald C kd_80 ln_80 (in_80 hS) dX9_item_41 hf (fun hf => ?_)
        refine g_iconst C (v := 1) dX9_item_42 rfl ?_
        refine g_isub C dX9_item_43 ?_
        refine g_callSB C [.int a3, .int 0, .int ((rI s3 80 a1.toNatClampNeg) - 1)] (fun _ _ h => c_X9_in (kl x) N w _ _ _ h) (g_cwS C hR ml_X9_93 sm_X9_in ini_X9 cd_X9_in hd_X9_in (by decide)) rfl _ rfl (Nat.le_of_ble_eq_true rfl) dX9_item_44 hf (fun r4 s4 hf => ?_)
        refine g_ifeqB (tgt := 65) C dX9_item_47 (by decide) hf (fun hf => ?_) (fun hf => ?_)
        · refine g_bipush C (v := (-12)) dX9_item_65 (by decide) ?_
          exact g_iret C dX9_item_67 hf
        · refine g_aload_n C dX9_item_50 rfl 1 rfl ?_
          refine g_get C (R := RX9) (T := TX9) (N := 48) (k := 34) (v := .ref (ad w 81)) kd_61 (by decide) rfl (in_61 hS) hinX9 (by decide) fl_X9_67 rfl rfl dX9_item_51 ?_
          refine g_bipush C (v := 40) dX9_item_54 (by decide) ?_
          refine g_iload_n C dX9_item_56 rfl 2 rfl ?_
          refine g_imul C dX9_item_57 ?_
          refine g_iload_n C dX9_item_58 rfl 4 rfl ?_
          refine g_iadd C dX9_item_59 ?_
          refine g_lald C kd_81 ln_81 (in_81 hS) dX9_item_60 hf (fun hf => ?_)
          refine g_l2i C dX9_item_61 ?_
          refine g_goto (tgt := 67) C dX9_item_62 (by decide) ?_
          exact g_iret C dX9_item_67 hf
      · refine g_iload C dX9_item_31 0 rfl ?_
        exact g_iret C dX9_item_33 hf
    · refine g_iconst C (v := (-1)) dX9_item_16 rfl ?_
      exact g_iret C dX9_item_17 hf

set_option maxHeartbeats 4000000 in
set_option maxRecDepth 100000 in
theorem c_X9_register (l : Launch) (N : Nat) (w : WX) (hS : SS w = Sm) (a1 : Int32) (a2 : Int32) (a3 : Int32) (a4 : Int32) {s s' : Mem} {r : Int32} (hf : f_X9_register N a1 a2 a3 a4 s = some (r, s')) : CI l yX9_register (wz yX9_register cX9_register 10 (some .int)) ({ frames := 3, cells := 0, slots := 0, locals := 70 } : Room) [.ref (ad w 61), .int a1, .int a2, .int a3, .int a4] w s r s' := by
  refine met_startI (cc := cX9_register) (ret := (some .int)) (own := RX9) (maxL := 10) (by decide) rfl (Nat.le_of_ble_eq_true rfl) (fun x C hR hl => ?_)
  have j144 : ∀ (k50 : Int32 → Int32 → Int32 → Int32 → Int32 → Int32 → Mem → Option (Int32 × Mem)), (∀ (v1 : Int32) (v2 : Int32) (v3 : Int32) (v4 : Int32) (v6 : Int32) (v7 : Int32) (s : Mem), k50 v1 v2 v3 v4 v6 v7 s = some (r, s') → G x (QI x w r s') 10 w 50 [(0, .ref (ad w 61)), (1, .int v1), (2, .int v2), (3, .int v3), (4, .int v4), (6, .int v6), (7, .int v7)] [] s) → ∀ (v1 : Int32) (v2 : Int32) (v3 : Int32) (v4 : Int32) (v7 : Int32) (p0 : Bool) (p1 : Int32) (s : Mem), f_X9_register_j144 N k50 v1 v2 v3 v4 v7 p0 p1 s = some (r, s') → G x (QI x w r s') 10 w 144 [(0, .ref (ad w 61)), (1, .int v1), (2, .int v2), (3, .int v3), (4, .int v4), (7, .int v7)] [.int (bI p0), .int p1] s := by
    intro k50 q50 v1 v2 v3 v4 v7 p0 p1 s hf
    unfold f_X9_register_j144 at hf
    refine g_iadd C dX9_register_144 ?_
    refine g_istore (lv' := [(6, .int (p1 + (bI p0))), (0, .ref (ad w 61)), (1, .int v1), (2, .int v2), (3, .int v3), (4, .int v4), (7, .int v7)]) C dX9_register_145 (by decide) rfl ?_
    refine g_iinc (v' := v7 + 1) (lv' := [(7, .int (v7 + 1)), (6, .int (p1 + (bI p0))), (0, .ref (ad w 61)), (1, .int v1), (2, .int v2), (3, .int v3), (4, .int v4)]) C dX9_register_147 6 rfl rfl (by decide) rfl ?_
    refine g_goto (tgt := 50) C dX9_register_150 (by decide) ?_
    refine g_sub [2, 3, 4, 5, 6, 1, 0] rfl ?_
    exact q50 _ _ _ _ _ _ _ hf
  have j50 : ∀ (n : Nat), ∀ (v1 : Int32) (v2 : Int32) (v3 : Int32) (v4 : Int32) (v6 : Int32) (v7 : Int32) (s : Mem), f_X9_register_L50 N n v1 v2 v3 v4 v6 v7 s = some (r, s') → G x (QI x w r s') 10 w 50 [(0, .ref (ad w 61)), (1, .int v1), (2, .int v2), (3, .int v3), (4, .int v4), (6, .int v6), (7, .int v7)] [] s := by
    intro n
    induction n with
    | zero => intro v1 v2 v3 v4 v6 v7 s hf; cases hf
    | succ n ih =>
      intro v1 v2 v3 v4 v6 v7 s hf
      unfold f_X9_register_L50 at hf
      refine g_iload C dX9_register_50 6 rfl ?_
      refine g_iload C dX9_register_52 4 rfl ?_
      refine g_icmp_ge (tgt := 153) C dX9_register_54 (by decide) hf (fun hf => ?_) (fun hf => ?_)
      · refine g_iload C dX9_register_153 5 rfl ?_
        exact g_iret C dX9_register_155 hf
      · refine g_iload_n C dX9_register_57 rfl 3 rfl ?_
        refine g_if_lt (tgt := 78) C dX9_register_58 (by decide) hf (fun hf => ?_) (fun hf => ?_)
        · refine g_bipush C (v := (-12)) dX9_register_78 (by decide) ?_
          exact g_iret C dX9_register_80 hf
        · refine g_iload_n C dX9_register_61 rfl 3 rfl ?_
          refine g_aload_n C dX9_register_62 rfl 0 rfl ?_
          refine g_get C (R := RX9) (T := TX9) (N := 48) (k := 33) (v := .ref (ad w 80)) kd_61 (by decide) rfl (in_61 hS) hinX9 (by decide) fl_X9_64 rfl rfl dX9_register_63 ?_
          refine g_iload_n C dX9_register_66 rfl 2 rfl ?_
          refine g_iald C kd_80 ln_80 (in_80 hS) dX9_register_67 hf (fun hf => ?_)
          refine g_iconst C (v := 2) dX9_register_68 rfl ?_
          refine g_isub C dX9_register_69 ?_
          refine g_iconst C (v := 2) dX9_register_70 rfl ?_
          refine g_iload C dX9_register_71 6 rfl ?_
          refine g_imul C dX9_register_73 ?_
          refine g_isub C dX9_register_74 ?_
          refine g_icmp_le (tgt := 81) C dX9_register_75 (by decide) hf (fun hf => ?_) (fun hf => ?_)
          · refine g_aload_n C dX9_register_81 rfl 0 rfl ?_
            refine g_get C (R := RX9) (T := TX9) (N := 48) (k := 34) (v := .ref (ad w 81)) kd_61 (by decide) rfl (in_61 hS) hinX9 (by decide) fl_X9_67 rfl rfl dX9_register_82 ?_
            refine g_bipush C (v := 40) dX9_register_85 (by decide) ?_
            refine g_iload_n C dX9_register_87 rfl 2 rfl ?_
            refine g_imul C dX9_register_88 ?_
            refine g_iload_n C dX9_register_89 rfl 3 rfl ?_
            refine g_iadd C dX9_register_90 ?_
            refine g_iconst C (v := 2) dX9_register_91 rfl ?_
            refine g_iload C dX9_register_92 6 rfl ?_
            refine g_imul C dX9_register_94 ?_
            refine g_iadd C dX9_register_95 ?_
            refine g_lald C kd_81 ln_81 (in_81 hS) dX9_register_96 hf (fun hf => ?_)
            refine g_l2i C dX9_register_97 ?_
            refine g_istoreN (lv' := fun x1 => [(8, .int x1), (0, .ref (ad w 61)), (1, .int v1), (2, .int v2), (3, .int v3), (4, .int v4), (6, .int v6), (7, .int v7)]) C dX9_register_98 (by decide) (fun _ => rfl) hf (fun x1 hf => ?_)
            refine g_aload_n C dX9_register_100 rfl 1 rfl ?_
            refine g_get C (R := RX9) (T := TX9) (N := 48) (k := 34) (v := .ref (ad w 81)) kd_61 (by decide) rfl (in_61 hS) hinX9 (by decide) fl_X9_67 rfl rfl dX9_register_101 ?_
            refine g_bipush C (v := 40) dX9_register_104 (by decide) ?_
            refine g_iload_n C dX9_register_106 rfl 3 rfl ?_
            refine g_imul C dX9_register_107 ?_
            refine g_iload_n C dX9_register_108 rfl 4 rfl ?_
            refine g_iadd C dX9_register_109 ?_
            refine g_iconst C (v := 2) dX9_register_110 rfl ?_
            refine g_iload C dX9_register_111 7 rfl ?_
            refine g_imul C dX9_register_113 ?_
            refine g_iadd C dX9_register_114 ?_
            refine g_iconst C (v := 1) dX9_register_115 rfl ?_
            refine g_iadd C dX9_register_116 ?_
            refine g_lald C kd_81 ln_81 (in_81 hS) dX9_register_117 hf (fun hf => ?_)
            refine g_l2i C dX9_register_118 ?_
            refine g_istoreN (lv' := fun x2 => [(9, .int x2), (8, .int x1), (0, .ref (ad w 61)), (1, .int v1), (2, .int v2), (3, .int v3), (4, .int v4), (6, .int v6), (7, .int v7)]) C dX9_register_119 (by decide) (fun _ => rfl) hf (fun x2 hf => ?_)
            refine g_iload C dX9_register_121 7 rfl ?_
            refine g_aload_n C dX9_register_123 rfl 2 rfl ?_
            refine g_iload_n C dX9_register_124 rfl 3 rfl ?_
            refine g_iconst C (v := 3) dX9_register_125 rfl ?_
            refine g_iload C dX9_register_126 1 rfl ?_
            refine g_iload C dX9_register_128 0 rfl ?_
            refine g_bipush C (v := 10) dX9_register_130 (by decide) ?_
            refine g_iconst C (v := 0) dX9_register_132 rfl ?_
            refine g_callVI C (R := RX9) (T := TX9) (N := 48) [.int v1, .int 3, .int x1, .int x2, .int 10, .int 0] (fun _ _ h => c_X9_paper (kl x) N w hS _ _ _ _ _ _ h) (g_cwV C hR ml_X9_347 im_X9_paper sl_X9_paper ini_X9 cd_X9_paper hd_X9_paper (by decide)) kd_61 (by decide) rfl (in_61 hS) rfl _ rfl (Nat.le_of_ble_eq_true rfl) dX9_register_133 hf (fun r3 s3 hf => ?_)
            refine g_if_lt (tgt := 143) C dX9_register_136 (by decide) hf (fun hf => ?_) (fun hf => ?_)
            · refine g_iconst C (v := 0) dX9_register_143 rfl ?_
              refine g_sub [2, 3, 4, 5, 6, 8] rfl ?_
              exact j144 (f_X9_register_L50 N n) ih _ _ _ _ _ _ _ _ hf
            · refine g_iconst C (v := 1) dX9_register_139 rfl ?_
              refine g_goto (tgt := 144) C dX9_register_140 (by decide) ?_
              refine g_sub [2, 3, 4, 5, 6, 8] rfl ?_
              exact j144 (f_X9_register_L50 N n) ih _ _ _ _ _ _ _ _ hf
          · refine g_bipush C (v := (-12)) dX9_register_78 (by decide) ?_
            exact g_iret C dX9_register_80 hf
  refine g_lv (lv' := [(0, .ref (ad w 61)), (1, .int a1), (2, .int a2), (3, .int a3), (4, .int a4)]) rfl ?_
  unfold f_X9_register at hf
  refine g_aload_n C dX9_register_0 rfl 0 rfl ?_
  refine g_iload_n C dX9_register_1 rfl 1 rfl ?_
  refine g_callVB C (R := RX9) (T := TX9) (N := 48) [.int a1] (fun _ _ h => c_X9_isPerson (kl x) N w hS _ h) (g_cwV C hR ml_X9_100 im_X9_isPerson sl_X9_isPerson ini_X9 cd_X9_isPerson hd_X9_isPerson (by decide)) kd_61 (by decide) rfl (in_61 hS) rfl _ rfl (Nat.le_of_ble_eq_true rfl) dX9_register_2 hf (fun r1 s1 hf => ?_)
  refine g_ifeqB (tgt := 26) C dX9_register_5 (by decide) hf (fun hf => ?_) (fun hf => ?_)
  · refine g_iconst C (v := (-1)) dX9_register_26 rfl ?_
    exact g_iret C dX9_register_27 hf
  · refine g_iload_n C dX9_register_8 rfl 2 rfl ?_
    refine g_callSB C [.int a2] (fun _ _ h => c_X9_isShelf (kl x) N w _ h) (g_cwS C hR ml_X9_125 sm_X9_isShelf ini_X9 cd_X9_isShelf hd_X9_isShelf (by decide)) rfl _ rfl (Nat.le_of_ble_eq_true rfl) dX9_register_9 hf (fun r2 s2 hf => ?_)
    refine g_ifeqB (tgt := 26) C dX9_register_12 (by decide) hf (fun hf => ?_) (fun hf => ?_)
    · refine g_iconst C (v := (-1)) dX9_register_26 rfl ?_
      exact g_iret C dX9_register_27 hf
    · refine g_iload C dX9_register_15 4 rfl ?_
      refine g_iconst C (v := 0) dX9_register_17 rfl ?_
      refine g_bipush C (v := 10) dX9_register_18 (by decide) ?_
      refine g_callSB C [.int a4, .int 0, .int 10] (fun _ _ h => c_X9_in (kl x) N w _ _ _ h) (g_cwS C hR ml_X9_93 sm_X9_in ini_X9 cd_X9_in hd_X9_in (by decide)) rfl _ rfl (Nat.le_of_ble_eq_true rfl) dX9_register_20 hf (fun r3 s3 hf => ?_)
      refine g_ifneB (tgt := 28) C dX9_register_23 (by decide) hf (fun hf => ?_) (fun hf => ?_)
      · refine g_aload_n C dX9_register_28 rfl 0 rfl ?_
        refine g_iload_n C dX9_register_29 rfl 2 rfl ?_
        refine g_iconst C (v := 0) dX9_register_30 rfl ?_
        refine g_callVI C (R := RX9) (T := TX9) (N := 48) [.int a2, .int 0] (fun _ _ h => c_X9_lacksSort (kl x) N w hS _ _ h) (g_cwV C hR ml_X9_128 im_X9_lacksSort sl_X9_lacksSort ini_X9 cd_X9_lacksSort hd_X9_lacksSort (by decide)) kd_61 (by decide) rfl (in_61 hS) rfl _ rfl (Nat.le_of_ble_eq_true rfl) dX9_register_31 hf (fun r4 s4 hf => ?_)
        refine g_istore (lv' := [(5, .int r4), (0, .ref (ad w 61)), (1, .int a1), (2, .int a2), (3, .int a3), (4, .int a4)]) C dX9_register_34 (by decide) rfl ?_
        refine g_iload C dX9_register_36 0 rfl ?_
        refine g_if_eq (tgt := 44) C dX9_register_38 (by decide) hf (fun hf => ?_) (fun hf => ?_)
        · refine g_iconst C (v := 0) dX9_register_44 rfl ?_
          refine g_istore (lv' := [(6, .int 0), (5, .int r4), (0, .ref (ad w 61)), (1, .int a1), (2, .int a2), (3, .int a3), (4, .int a4)]) C dX9_register_45 (by decide) rfl ?_
          refine g_iconst C (v := 0) dX9_register_47 rfl ?_
          refine g_istore (lv' := [(7, .int 0), (6, .int 0), (5, .int r4), (0, .ref (ad w 61)), (1, .int a1), (2, .int a2), (3, .int a3), (4, .int a4)]) C dX9_register_48 (by decide) rfl ?_
          refine g_sub [3, 4, 5, 6, 7, 1, 0] rfl ?_
          exact j50 N _ _ _ _ _ _ _ hf
        · refine g_iload C dX9_register_41 0 rfl ?_
          exact g_iret C dX9_register_43 hf
      · refine g_iconst C (v := (-1)) dX9_register_26 rfl ?_
        exact g_iret C dX9_register_27 hf

set_option maxHeartbeats 4000000 in
set_option maxRecDepth 100000 in
theorem c_X9_isThing (l : Launch) (N : Nat) (w : WX) (hS : SS w = Sm) (a1 : Int32) (a2 : Int32) {s s' : Mem} {r : Bool} (hf : f_X9_isThing N a1 a2 s = some (r, s')) : CB l yX9_isThing (wz yX9_isThing cX9_isThing 3 (some .boolean)) ({ frames := 2, cells := 0, slots := 0, locals := 43 } : Room) [.ref (ad w 61), .int a1, .int a2] w s r s' := by
  refine met_startB (cc := cX9_isThing) (ret := (some .boolean)) (own := RX9) (maxL := 3) (by decide) rfl (Nat.le_of_ble_eq_true rfl) (fun x C hR hl => ?_)
  refine g_lv (lv' := [(0, .ref (ad w 61)), (1, .int a1), (2, .int a2)]) rfl ?_
  unfold f_X9_isThing at hf
  refine g_iload_n C dX9_isThing_0 rfl 1 rfl ?_
  refine g_if_ne (tgt := 12) C dX9_isThing_1 (by decide) hf (fun hf => ?_) (fun hf => ?_)
  · refine g_iload_n C dX9_isThing_12 rfl 1 rfl ?_
    refine g_iconst C (v := 1) dX9_isThing_13 rfl ?_
    refine g_icmp_ne (tgt := 25) C dX9_isThing_14 (by decide) hf (fun hf => ?_) (fun hf => ?_)
    · refine g_iload_n C dX9_isThing_25 rfl 1 rfl ?_
      refine g_iconst C (v := 2) dX9_isThing_26 rfl ?_
      refine g_icmp_ne (tgt := 37) C dX9_isThing_27 (by decide) hf (fun hf => ?_) (fun hf => ?_)
      · refine g_iload_n C dX9_isThing_37 rfl 1 rfl ?_
        refine g_iconst C (v := 3) dX9_isThing_38 rfl ?_
        refine g_icmp_ne (tgt := 46) C dX9_isThing_39 (by decide) hf (fun hf => ?_) (fun hf => ?_)
        · refine g_iconst C (v := 0) dX9_isThing_46 rfl ?_
          exact g_zret (v := false) C dX9_isThing_47 hf
        · refine g_iconst C (v := 1) dX9_isThing_42 rfl ?_
          refine g_goto (tgt := 47) C dX9_isThing_43 (by decide) ?_
          exact g_zret (v := true) C dX9_isThing_47 hf
      · refine g_iload_n C dX9_isThing_30 rfl 2 rfl ?_
        refine g_callSB C [.int a2] (fun _ _ h => c_X9_isShelf (kl x) N w _ h) (g_cwS C hR ml_X9_125 sm_X9_isShelf ini_X9 cd_X9_isShelf hd_X9_isShelf (by decide)) rfl _ rfl (Nat.le_of_ble_eq_true rfl) dX9_isThing_31 hf (fun r1 s1 hf => ?_)
        refine g_goto (tgt := 47) C dX9_isThing_34 (by decide) ?_
        exact g_zret C dX9_isThing_47 hf
    · refine g_aload_n C dX9_isThing_17 rfl 0 rfl ?_
      refine g_iload_n C dX9_isThing_18 rfl 2 rfl ?_
      refine g_callVB C (R := RX9) (T := TX9) (N := 48) [.int a2] (fun _ _ h => c_X9_isPerson (kl x) N w hS _ h) (g_cwV C hR ml_X9_100 im_X9_isPerson sl_X9_isPerson ini_X9 cd_X9_isPerson hd_X9_isPerson (by decide)) kd_61 (by decide) rfl (in_61 hS) rfl _ rfl (Nat.le_of_ble_eq_true rfl) dX9_isThing_19 hf (fun r2 s2 hf => ?_)
      refine g_goto (tgt := 47) C dX9_isThing_22 (by decide) ?_
      exact g_zret C dX9_isThing_47 hf
  · refine g_aload_n C dX9_isThing_4 rfl 0 rfl ?_
    refine g_iload_n C dX9_isThing_5 rfl 2 rfl ?_
    refine g_callVB C (R := RX9) (T := TX9) (N := 48) [.int a2] (fun _ _ h => c_X9_isPaper (kl x) N w hS _ h) (g_cwV C hR ml_X9_114 im_X9_isPaper sl_X9_isPaper ini_X9 cd_X9_isPaper hd_X9_isPaper (by decide)) kd_61 (by decide) rfl (in_61 hS) rfl _ rfl (Nat.le_of_ble_eq_true rfl) dX9_isThing_6 hf (fun r3 s3 hf => ?_)
    refine g_goto (tgt := 47) C dX9_isThing_9 (by decide) ?_
    exact g_zret C dX9_isThing_47 hf

set_option maxHeartbeats 4000000 in
set_option maxRecDepth 100000 in
theorem c_X9_shelf (l : Launch) (N : Nat) (w : WX) (hS : SS w = Sm) (a1 : Int32) (a2 : Int32) (a3 : Int32) {s s' : Mem} {r : Int32} (hf : f_X9_shelf N a1 a2 a3 s = some (r, s')) : CI l yX9_shelf (wz yX9_shelf cX9_shelf 4 (some .int)) ({ frames := 3, cells := 0, slots := 0, locals := 65 } : Room) [.ref (ad w 61), .int a1, .int a2, .int a3] w s r s' := by
  refine met_startI (cc := cX9_shelf) (ret := (some .int)) (own := RX9) (maxL := 4) (by decide) rfl (Nat.le_of_ble_eq_true rfl) (fun x C hR hl => ?_)
  have j68 : ∀ (v1 : Int32) (v2 : Int32) (v3 : Int32) (p0 : Int32) (p1 : Int32) (s : Mem), f_X9_shelf_j68 N v1 v2 v3 p0 p1 s = some (r, s') → G x (QI x w r s') 4 w 68 [(0, .ref (ad w 61)), (1, .int v1), (2, .int v2), (3, .int v3)] [.int p0, .int p1, .ref (ad w 83)] s := by
    intro v1 v2 v3 p0 p1 s hf
    unfold f_X9_shelf_j68 at hf
    refine g_iast C kd_83 ln_83 (in_83 hS) dX9_shelf_68 hf (fun hf => ?_)
    refine g_nameS hf (fun s1 hf => ?_)
    refine g_aload_n C dX9_shelf_69 rfl 0 rfl ?_
    refine g_get C (R := RX9) (T := TX9) (N := 48) (k := 37) (v := .ref (ad w 84)) kd_61 (by decide) rfl (in_61 hS) hinX9 (by decide) fl_X9_77 rfl rfl dX9_shelf_70 ?_
    refine g_iload_n C dX9_shelf_73 rfl 1 rfl ?_
    refine g_iload_n C dX9_shelf_74 rfl 2 rfl ?_
    refine g_iconst C (v := 2) dX9_shelf_75 rfl ?_
    refine g_icmp_ne (tgt := 88) C dX9_shelf_76 (by decide) hf (fun hf => ?_) (fun hf => ?_)
    · refine g_iconst C (v := 0) dX9_shelf_88 rfl ?_
      refine g_iast C kd_84 ln_84 (in_84 hS) dX9_shelf_89 hf (fun hf => ?_)
      refine g_nameS hf (fun s2 hf => ?_)
      refine g_iconst C (v := 1) dX9_shelf_90 rfl ?_
      exact g_iret C dX9_shelf_91 hf
    · refine g_aload_n C dX9_shelf_79 rfl 0 rfl ?_
      refine g_get C (R := RX9) (T := TX9) (N := 48) (k := 33) (v := .ref (ad w 80)) kd_61 (by decide) rfl (in_61 hS) hinX9 (by decide) fl_X9_64 rfl rfl dX9_shelf_80 ?_
      refine g_iload_n C dX9_shelf_83 rfl 3 rfl ?_
      refine g_iald C kd_80 ln_80 (in_80 hS) dX9_shelf_84 hf (fun hf => ?_)
      refine g_goto (tgt := 89) C dX9_shelf_85 (by decide) ?_
      refine g_iast C kd_84 ln_84 (in_84 hS) dX9_shelf_89 hf (fun hf => ?_)
      refine g_nameS hf (fun s3 hf => ?_)
      refine g_iconst C (v := 1) dX9_shelf_90 rfl ?_
      exact g_iret C dX9_shelf_91 hf
  have j47 : ∀ (v1 : Int32) (v2 : Int32) (v3 : Int32) (p0 : Int32) (p1 : Int32) (s : Mem), f_X9_shelf_j47 N v1 v2 v3 p0 p1 s = some (r, s') → G x (QI x w r s') 4 w 47 [(0, .ref (ad w 61)), (1, .int v1), (2, .int v2), (3, .int v3)] [.int p0, .int p1, .ref (ad w 82)] s := by
    intro v1 v2 v3 p0 p1 s hf
    unfold f_X9_shelf_j47 at hf
    refine g_iast C kd_82 ln_82 (in_82 hS) dX9_shelf_47 hf (fun hf => ?_)
    refine g_nameS hf (fun s1 hf => ?_)
    refine g_aload_n C dX9_shelf_48 rfl 0 rfl ?_
    refine g_get C (R := RX9) (T := TX9) (N := 48) (k := 36) (v := .ref (ad w 83)) kd_61 (by decide) rfl (in_61 hS) hinX9 (by decide) fl_X9_74 rfl rfl dX9_shelf_49 ?_
    refine g_iload_n C dX9_shelf_52 rfl 1 rfl ?_
    refine g_iload_n C dX9_shelf_53 rfl 2 rfl ?_
    refine g_iconst C (v := 2) dX9_shelf_54 rfl ?_
    refine g_icmp_ne (tgt := 67) C dX9_shelf_55 (by decide) hf (fun hf => ?_) (fun hf => ?_)
    · refine g_iload_n C dX9_shelf_67 rfl 3 rfl ?_
      exact j68 _ _ _ _ _ _ hf
    · refine g_aload_n C dX9_shelf_58 rfl 0 rfl ?_
      refine g_get C (R := RX9) (T := TX9) (N := 48) (k := 32) (v := .ref (ad w 79)) kd_61 (by decide) rfl (in_61 hS) hinX9 (by decide) fl_X9_61 rfl rfl dX9_shelf_59 ?_
      refine g_iload_n C dX9_shelf_62 rfl 3 rfl ?_
      refine g_iald C kd_79 ln_79 (in_79 hS) dX9_shelf_63 hf (fun hf => ?_)
      refine g_goto (tgt := 68) C dX9_shelf_64 (by decide) ?_
      exact j68 _ _ _ _ _ _ hf
  have j46 : ∀ (v1 : Int32) (v2 : Int32) (v3 : Int32) (p0 : Int32) (s : Mem), f_X9_shelf_j46 N v1 v2 v3 p0 s = some (r, s') → G x (QI x w r s') 4 w 46 [(0, .ref (ad w 61)), (1, .int v1), (2, .int v2), (3, .int v3)] [.int p0, .ref (ad w 82)] s := by
    intro v1 v2 v3 p0 s hf
    unfold f_X9_shelf_j46 at hf
    refine g_iload_n C dX9_shelf_46 rfl 2 rfl ?_
    exact j47 _ _ _ _ _ _ hf
  have j42 : ∀ (v1 : Int32) (v2 : Int32) (v3 : Int32) (p0 : Int32) (s : Mem), f_X9_shelf_j42 N v1 v2 v3 p0 s = some (r, s') → G x (QI x w r s') 4 w 42 [(0, .ref (ad w 61)), (1, .int v1), (2, .int v2), (3, .int v3)] [.int p0, .ref (ad w 82)] s := by
    intro v1 v2 v3 p0 s hf
    unfold f_X9_shelf_j42 at hf
    refine g_iconst C (v := (-1)) dX9_shelf_42 rfl ?_
    refine g_goto (tgt := 47) C dX9_shelf_43 (by decide) ?_
    exact j47 _ _ _ _ _ _ hf
  refine g_lv (lv' := [(0, .ref (ad w 61)), (1, .int a1), (2, .int a2), (3, .int a3)]) rfl ?_
  unfold f_X9_shelf at hf
  refine g_iload_n C dX9_shelf_0 rfl 1 rfl ?_
  refine g_callSB C [.int a1] (fun _ _ h => c_X9_isShelf (kl x) N w _ h) (g_cwS C hR ml_X9_125 sm_X9_isShelf ini_X9 cd_X9_isShelf hd_X9_isShelf (by decide)) rfl _ rfl (Nat.le_of_ble_eq_true rfl) dX9_shelf_1 hf (fun r1 s1 hf => ?_)
  refine g_ifeqB (tgt := 16) C dX9_shelf_4 (by decide) hf (fun hf => ?_) (fun hf => ?_)
  · refine g_iconst C (v := (-1)) dX9_shelf_16 rfl ?_
    exact g_iret C dX9_shelf_17 hf
  · refine g_aload_n C dX9_shelf_7 rfl 0 rfl ?_
    refine g_iload_n C dX9_shelf_8 rfl 2 rfl ?_
    refine g_iload_n C dX9_shelf_9 rfl 3 rfl ?_
    refine g_callVB C (R := RX9) (T := TX9) (N := 48) [.int a2, .int a3] (fun _ _ h => c_X9_isThing (kl x) N w hS _ _ h) (g_cwV C hR ml_X9_350 im_X9_isThing sl_X9_isThing ini_X9 cd_X9_isThing hd_X9_isThing (by decide)) kd_61 (by decide) rfl (in_61 hS) rfl _ rfl (Nat.le_of_ble_eq_true rfl) dX9_shelf_10 hf (fun r2 s2 hf => ?_)
    refine g_ifneB (tgt := 18) C dX9_shelf_13 (by decide) hf (fun hf => ?_) (fun hf => ?_)
    · refine g_aload_n C dX9_shelf_18 rfl 0 rfl ?_
      refine g_get C (R := RX9) (T := TX9) (N := 48) (k := 35) (v := .ref (ad w 82)) kd_61 (by decide) rfl (in_61 hS) hinX9 (by decide) fl_X9_71 rfl rfl dX9_shelf_19 ?_
      refine g_iload_n C dX9_shelf_22 rfl 1 rfl ?_
      refine g_iload_n C dX9_shelf_23 rfl 2 rfl ?_
      refine g_iconst C (v := 3) dX9_shelf_24 rfl ?_
      refine g_icmp_eq (tgt := 42) C dX9_shelf_25 (by decide) hf (fun hf => ?_) (fun hf => ?_)
      · exact j42 _ _ _ _ _ hf
      · refine g_iload_n C dX9_shelf_28 rfl 2 rfl ?_
        refine g_iconst C (v := 2) dX9_shelf_29 rfl ?_
        refine g_icmp_ne (tgt := 46) C dX9_shelf_30 (by decide) hf (fun hf => ?_) (fun hf => ?_)
        · exact j46 _ _ _ _ _ hf
        · refine g_aload_n C dX9_shelf_33 rfl 0 rfl ?_
          refine g_get C (R := RX9) (T := TX9) (N := 48) (k := 32) (v := .ref (ad w 79)) kd_61 (by decide) rfl (in_61 hS) hinX9 (by decide) fl_X9_61 rfl rfl dX9_shelf_34 ?_
          refine g_iload_n C dX9_shelf_37 rfl 3 rfl ?_
          refine g_iald C kd_79 ln_79 (in_79 hS) dX9_shelf_38 hf (fun hf => ?_)
          refine g_if_ge (tgt := 46) C dX9_shelf_39 (by decide) hf (fun hf => ?_) (fun hf => ?_)
          · exact j46 _ _ _ _ _ hf
          · exact j42 _ _ _ _ _ hf
    · refine g_iconst C (v := (-1)) dX9_shelf_16 rfl ?_
      exact g_iret C dX9_shelf_17 hf

set_option maxHeartbeats 4000000 in
set_option maxRecDepth 100000 in
theorem c_X9_kindOn (l : Launch) (N : Nat) (w : WX) (hS : SS w = Sm) (a1 : Int32) {s s' : Mem} {r : Int32} (hf : f_X9_kindOn N a1 s = some (r, s')) : CI l yX9_kindOn (wz yX9_kindOn cX9_kindOn 4 (some .int)) ({ frames := 3, cells := 0, slots := 0, locals := 65 } : Room) [.ref (ad w 61), .int a1] w s r s' := by
  refine met_startI (cc := cX9_kindOn) (ret := (some .int)) (own := RX9) (maxL := 4) (by decide) rfl (Nat.le_of_ble_eq_true rfl) (fun x C hR hl => ?_)
  have j16 : ∀ (v2 : Int32) (s : Mem), f_X9_kindOn_j16 N v2 s = some (r, s') → G x (QI x w r s') 4 w 16 [(2, .int v2)] [] s := by
    intro v2 s hf
    unfold f_X9_kindOn_j16 at hf
    refine g_iload_n C dX9_kindOn_16 rfl 0 rfl ?_
    refine g_if_ge (tgt := 24) C dX9_kindOn_17 (by decide) hf (fun hf => ?_) (fun hf => ?_)
    · refine g_bipush C (v := 9) dX9_kindOn_24 (by decide) ?_
      exact g_iret C dX9_kindOn_26 hf
    · refine g_iconst C (v := (-1)) dX9_kindOn_20 rfl ?_
      refine g_goto (tgt := 26) C dX9_kindOn_21 (by decide) ?_
      exact g_iret C dX9_kindOn_26 hf
  refine g_lv (lv' := [(0, .ref (ad w 61)), (1, .int a1)]) rfl ?_
  unfold f_X9_kindOn at hf
  refine g_aload_n C dX9_kindOn_0 rfl 0 rfl ?_
  refine g_get C (R := RX9) (T := TX9) (N := 48) (k := 35) (v := .ref (ad w 82)) kd_61 (by decide) rfl (in_61 hS) hinX9 (by decide) fl_X9_71 rfl rfl dX9_kindOn_1 ?_
  refine g_iload_n C dX9_kindOn_4 rfl 1 rfl ?_
  refine g_iald C kd_82 ln_82 (in_82 hS) dX9_kindOn_5 hf (fun hf => ?_)
  refine g_istore_n (lv' := [(2, .int (rI s 82 a1.toNatClampNeg)), (0, .ref (ad w 61)), (1, .int a1)]) C dX9_kindOn_6 rfl (by decide) rfl ?_
  refine g_iload_n C dX9_kindOn_7 rfl 0 rfl ?_
  refine g_if_lt (tgt := 16) C dX9_kindOn_8 (by decide) hf (fun hf => ?_) (fun hf => ?_)
  · refine g_sub [0] rfl ?_
    exact j16 _ _ hf
  · refine g_iload_n C dX9_kindOn_11 rfl 0 rfl ?_
    refine g_iconst C (v := 2) dX9_kindOn_12 rfl ?_
    refine g_icmp_ne (tgt := 27) C dX9_kindOn_13 (by decide) hf (fun hf => ?_) (fun hf => ?_)
    · refine g_aload_n C dX9_kindOn_27 rfl 1 rfl ?_
      refine g_get C (R := RX9) (T := TX9) (N := 48) (k := 36) (v := .ref (ad w 83)) kd_61 (by decide) rfl (in_61 hS) hinX9 (by decide) fl_X9_74 rfl rfl dX9_kindOn_28 ?_
      refine g_iload_n C dX9_kindOn_31 rfl 2 rfl ?_
      refine g_iald C kd_83 ln_83 (in_83 hS) dX9_kindOn_32 hf (fun hf => ?_)
      refine g_istore_n (lv' := [(3, .int (rI s 83 a1.toNatClampNeg)), (2, .int (rI s 82 a1.toNatClampNeg)), (0, .ref (ad w 61)), (1, .int a1)]) C dX9_kindOn_33 rfl (by decide) rfl ?_
      refine g_aload_n C dX9_kindOn_34 rfl 2 rfl ?_
      refine g_iload_n C dX9_kindOn_35 rfl 1 rfl ?_
      refine g_iload_n C dX9_kindOn_36 rfl 0 rfl ?_
      refine g_callVB C (R := RX9) (T := TX9) (N := 48) [.int (rI s 82 a1.toNatClampNeg), .int (rI s 83 a1.toNatClampNeg)] (fun _ _ h => c_X9_isThing (kl x) N w hS _ _ h) (g_cwV C hR ml_X9_350 im_X9_isThing sl_X9_isThing ini_X9 cd_X9_isThing hd_X9_isThing (by decide)) kd_61 (by decide) rfl (in_61 hS) rfl _ rfl (Nat.le_of_ble_eq_true rfl) dX9_kindOn_37 hf (fun r1 s1 hf => ?_)
      refine g_ifneB (tgt := 47) C dX9_kindOn_40 (by decide) hf (fun hf => ?_) (fun hf => ?_)
      · refine g_iload_n C dX9_kindOn_47 rfl 1 rfl ?_
        refine g_iconst C (v := 1) dX9_kindOn_48 rfl ?_
        refine g_icmp_ne (tgt := 57) C dX9_kindOn_49 (by decide) hf (fun hf => ?_) (fun hf => ?_)
        · refine g_aload_n C dX9_kindOn_57 rfl 2 rfl ?_
          refine g_get C (R := RX9) (T := TX9) (N := 48) (k := 3) (v := .ref (ad w 63)) kd_61 (by decide) rfl (in_61 hS) hinX9 (by decide) fl_X9_13 rfl rfl dX9_kindOn_58 ?_
          refine g_bipush C (v := 6) dX9_kindOn_61 (by decide) ?_
          refine g_iload_n C dX9_kindOn_63 rfl 0 rfl ?_
          refine g_imul C dX9_kindOn_64 ?_
          refine g_iconst C (v := 1) dX9_kindOn_65 rfl ?_
          refine g_iadd C dX9_kindOn_66 ?_
          refine g_iald C kd_63 ln_63 (in_63 hS) dX9_kindOn_67 hf (fun hf => ?_)
          exact g_iret C dX9_kindOn_68 hf
        · refine g_bipush C (v := 8) dX9_kindOn_52 (by decide) ?_
          refine g_goto (tgt := 68) C dX9_kindOn_54 (by decide) ?_
          exact g_iret C dX9_kindOn_68 hf
      · refine g_iconst C (v := (-1)) dX9_kindOn_43 rfl ?_
        refine g_goto (tgt := 68) C dX9_kindOn_44 (by decide) ?_
        exact g_iret C dX9_kindOn_68 hf
    · refine g_sub [0] rfl ?_
      exact j16 _ _ hf

set_option maxHeartbeats 4000000 in
set_option maxRecDepth 100000 in
theorem c_X9_isUnder (l : Launch) (N : Nat) (w : WX) (a0 : Int32) (a1 : Int32) {s s' : Mem} {r : Bool} (hf : f_X9_isUnder N a0 a1 s = some (r, s')) : CB l yX9_isUnder (wz yX9_isUnder cX9_isUnder 2 (some .boolean)) ({ frames := 0, cells := 0, slots := 0, locals := 0 } : Room) [.int a0, .int a1] w s r s' := by
  refine met_startB (cc := cX9_isUnder) (ret := (some .boolean)) (own := RX9) (maxL := 2) (by decide) rfl (Nat.le_of_ble_eq_true rfl) (fun x C hR hl => ?_)
  have j118 : ∀ (s : Mem), f_X9_isUnder_j118 N s = some (r, s') → G x (QB x w r s') 2 w 118 [] [] s := by
    intro s hf
    unfold f_X9_isUnder_j118 at hf
    refine g_iconst C (v := 1) dX9_isUnder_118 rfl ?_
    refine g_goto (tgt := 123) C dX9_isUnder_119 (by decide) ?_
    exact g_zret (v := true) C dX9_isUnder_123 hf
  have j101 : ∀ (s : Mem), f_X9_isUnder_j101 N s = some (r, s') → G x (QB x w r s') 2 w 101 [] [] s := by
    intro s hf
    unfold f_X9_isUnder_j101 at hf
    refine g_iconst C (v := 1) dX9_isUnder_101 rfl ?_
    refine g_goto (tgt := 106) C dX9_isUnder_102 (by decide) ?_
    exact g_zret (v := true) C dX9_isUnder_106 hf
  have j84 : ∀ (s : Mem), f_X9_isUnder_j84 N s = some (r, s') → G x (QB x w r s') 2 w 84 [] [] s := by
    intro s hf
    unfold f_X9_isUnder_j84 at hf
    refine g_iconst C (v := 1) dX9_isUnder_84 rfl ?_
    refine g_goto (tgt := 89) C dX9_isUnder_85 (by decide) ?_
    exact g_zret (v := true) C dX9_isUnder_89 hf
  have j62 : ∀ (s : Mem), f_X9_isUnder_j62 N s = some (r, s') → G x (QB x w r s') 2 w 62 [] [] s := by
    intro s hf
    unfold f_X9_isUnder_j62 at hf
    refine g_iconst C (v := 1) dX9_isUnder_62 rfl ?_
    refine g_goto (tgt := 67) C dX9_isUnder_63 (by decide) ?_
    exact g_zret (v := true) C dX9_isUnder_67 hf
  refine g_lv (lv' := [(0, .int a0), (1, .int a1)]) rfl ?_
  unfold f_X9_isUnder at hf
  refine g_iload_n C dX9_isUnder_0 rfl 1 rfl ?_
  rcases ite_some hf with ⟨e0, hf⟩ | ⟨n0, hf⟩
  · refine g_tabIn (k := 0) (tgt := 40) C dX9_isUnder_1 e0 (by decide) (by decide) rfl (by decide) ?_
    refine g_iload_n C dX9_isUnder_40 rfl 0 rfl ?_
    refine g_bipush C (v := 8) dX9_isUnder_41 (by decide) ?_
    refine g_icmp_ge (tgt := 50) C dX9_isUnder_43 (by decide) hf (fun hf => ?_) (fun hf => ?_)
    · refine g_iconst C (v := 0) dX9_isUnder_50 rfl ?_
      exact g_zret (v := false) C dX9_isUnder_51 hf
    · refine g_iconst C (v := 1) dX9_isUnder_46 rfl ?_
      refine g_goto (tgt := 51) C dX9_isUnder_47 (by decide) ?_
      exact g_zret (v := true) C dX9_isUnder_51 hf
  rcases ite_some hf with ⟨e1, hf⟩ | ⟨n1, hf⟩
  · refine g_tabIn (k := 1) (tgt := 52) C dX9_isUnder_1 e1 (by decide) (by decide) rfl (by decide) ?_
    refine g_iload_n C dX9_isUnder_52 rfl 0 rfl ?_
    refine g_iconst C (v := 1) dX9_isUnder_53 rfl ?_
    refine g_icmp_eq (tgt := 62) C dX9_isUnder_54 (by decide) hf (fun hf => ?_) (fun hf => ?_)
    · refine g_sub [] rfl ?_
      exact j62 _ hf
    · refine g_iload_n C dX9_isUnder_57 rfl 0 rfl ?_
      refine g_iconst C (v := 4) dX9_isUnder_58 rfl ?_
      refine g_icmp_ne (tgt := 66) C dX9_isUnder_59 (by decide) hf (fun hf => ?_) (fun hf => ?_)
      · refine g_iconst C (v := 0) dX9_isUnder_66 rfl ?_
        exact g_zret (v := false) C dX9_isUnder_67 hf
      · refine g_sub [] rfl ?_
        exact j62 _ hf
  rcases ite_some hf with ⟨e2, hf⟩ | ⟨n2, hf⟩
  · refine g_tabIn (k := 2) (tgt := 68) C dX9_isUnder_1 e2 (by decide) (by decide) rfl (by decide) ?_
    refine g_iload_n C dX9_isUnder_68 rfl 0 rfl ?_
    refine g_iconst C (v := 2) dX9_isUnder_69 rfl ?_
    refine g_icmp_eq (tgt := 84) C dX9_isUnder_70 (by decide) hf (fun hf => ?_) (fun hf => ?_)
    · refine g_sub [] rfl ?_
      exact j84 _ hf
    · refine g_iload_n C dX9_isUnder_73 rfl 0 rfl ?_
      refine g_iconst C (v := 5) dX9_isUnder_74 rfl ?_
      refine g_icmp_eq (tgt := 84) C dX9_isUnder_75 (by decide) hf (fun hf => ?_) (fun hf => ?_)
      · refine g_sub [] rfl ?_
        exact j84 _ hf
      · refine g_iload_n C dX9_isUnder_78 rfl 0 rfl ?_
        refine g_bipush C (v := 7) dX9_isUnder_79 (by decide) ?_
        refine g_icmp_ne (tgt := 88) C dX9_isUnder_81 (by decide) hf (fun hf => ?_) (fun hf => ?_)
        · refine g_iconst C (v := 0) dX9_isUnder_88 rfl ?_
          exact g_zret (v := false) C dX9_isUnder_89 hf
        · refine g_sub [] rfl ?_
          exact j84 _ hf
  rcases ite_some hf with ⟨e3, hf⟩ | ⟨n3, hf⟩
  · refine g_tabIn (k := 3) (tgt := 90) C dX9_isUnder_1 e3 (by decide) (by decide) rfl (by decide) ?_
    refine g_iload_n C dX9_isUnder_90 rfl 0 rfl ?_
    refine g_iconst C (v := 3) dX9_isUnder_91 rfl ?_
    refine g_icmp_eq (tgt := 101) C dX9_isUnder_92 (by decide) hf (fun hf => ?_) (fun hf => ?_)
    · refine g_sub [] rfl ?_
      exact j101 _ hf
    · refine g_iload_n C dX9_isUnder_95 rfl 0 rfl ?_
      refine g_bipush C (v := 6) dX9_isUnder_96 (by decide) ?_
      refine g_icmp_ne (tgt := 105) C dX9_isUnder_98 (by decide) hf (fun hf => ?_) (fun hf => ?_)
      · refine g_iconst C (v := 0) dX9_isUnder_105 rfl ?_
        exact g_zret (v := false) C dX9_isUnder_106 hf
      · refine g_sub [] rfl ?_
        exact j101 _ hf
  rcases ite_some hf with ⟨e4, hf⟩ | ⟨n4, hf⟩
  · refine g_tabIn (k := 4) (tgt := 124) C dX9_isUnder_1 e4 (by decide) (by decide) rfl (by decide) ?_
    refine g_iload_n C dX9_isUnder_124 rfl 0 rfl ?_
    refine g_iload_n C dX9_isUnder_125 rfl 1 rfl ?_
    refine g_icmp_ne (tgt := 133) C dX9_isUnder_126 (by decide) hf (fun hf => ?_) (fun hf => ?_)
    · refine g_iconst C (v := 0) dX9_isUnder_133 rfl ?_
      exact g_zret (v := false) C dX9_isUnder_134 hf
    · refine g_iconst C (v := 1) dX9_isUnder_129 rfl ?_
      refine g_goto (tgt := 134) C dX9_isUnder_130 (by decide) ?_
      exact g_zret (v := true) C dX9_isUnder_134 hf
  rcases ite_some hf with ⟨e5, hf⟩ | ⟨n5, hf⟩
  · refine g_tabIn (k := 5) (tgt := 107) C dX9_isUnder_1 e5 (by decide) (by decide) rfl (by decide) ?_
    refine g_iload_n C dX9_isUnder_107 rfl 0 rfl ?_
    refine g_iconst C (v := 5) dX9_isUnder_108 rfl ?_
    refine g_icmp_eq (tgt := 118) C dX9_isUnder_109 (by decide) hf (fun hf => ?_) (fun hf => ?_)
    · refine g_sub [] rfl ?_
      exact j118 _ hf
    · refine g_iload_n C dX9_isUnder_112 rfl 0 rfl ?_
      refine g_bipush C (v := 7) dX9_isUnder_113 (by decide) ?_
      refine g_icmp_ne (tgt := 122) C dX9_isUnder_115 (by decide) hf (fun hf => ?_) (fun hf => ?_)
      · refine g_iconst C (v := 0) dX9_isUnder_122 rfl ?_
        exact g_zret (v := false) C dX9_isUnder_123 hf
      · refine g_sub [] rfl ?_
        exact j118 _ hf
  refine g_tabOut (tgt := 124) C dX9_isUnder_1 (by have z0 := lv_neT n0 (a := 0) (by decide); have z1 := lv_neT n1 (a := 1) (by decide); have z2 := lv_neT n2 (a := 2) (by decide); have z3 := lv_neT n3 (a := 3) (by decide); have z4 := lv_neT n4 (a := 4) (by decide); have z5 := lv_neT n5 (a := 5) (by decide); omega) (by decide) ?_
  refine g_iload_n C dX9_isUnder_124 rfl 0 rfl ?_
  refine g_iload_n C dX9_isUnder_125 rfl 1 rfl ?_
  refine g_icmp_ne (tgt := 133) C dX9_isUnder_126 (by decide) hf (fun hf => ?_) (fun hf => ?_)
  · refine g_iconst C (v := 0) dX9_isUnder_133 rfl ?_
    exact g_zret (v := false) C dX9_isUnder_134 hf
  · refine g_iconst C (v := 1) dX9_isUnder_129 rfl ?_
    refine g_goto (tgt := 134) C dX9_isUnder_130 (by decide) ?_
    exact g_zret (v := true) C dX9_isUnder_134 hf

set_option maxHeartbeats 4000000 in
set_option maxRecDepth 100000 in
theorem c_X9_taken (l : Launch) (N : Nat) (w : WX) (hS : SS w = Sm) (a1 : Int32) (a2 : Int32) {s s' : Mem} {r : Int32} (hf : f_X9_taken N a1 a2 s = some (r, s')) : CI l yX9_taken (wz yX9_taken cX9_taken 4 (some .int)) ({ frames := 4, cells := 0, slots := 0, locals := 88 } : Room) [.ref (ad w 61), .int a1, .int a2] w s r s' := by
  refine met_startI (cc := cX9_taken) (ret := (some .int)) (own := RX9) (maxL := 4) (by decide) rfl (Nat.le_of_ble_eq_true rfl) (fun x C hR hl => ?_)
  have j30 : ∀ (v1 : Int32) (v2 : Int32) (s : Mem), f_X9_taken_j30 N v1 v2 s = some (r, s') → G x (QI x w r s') 4 w 30 [(0, .ref (ad w 61)), (1, .int v1), (2, .int v2)] [] s := by
    intro v1 v2 s hf
    unfold f_X9_taken_j30 at hf
    refine g_aload_n C dX9_taken_30 rfl 0 rfl ?_
    refine g_iload_n C dX9_taken_31 rfl 1 rfl ?_
    refine g_callVI C (R := RX9) (T := TX9) (N := 48) [.int v1] (fun _ _ h => c_X9_kindOn (kl x) N w hS _ h) (g_cwV C hR ml_X9_353 im_X9_kindOn sl_X9_kindOn ini_X9 cd_X9_kindOn hd_X9_kindOn (by decide)) kd_61 (by decide) rfl (in_61 hS) rfl _ rfl (Nat.le_of_ble_eq_true rfl) dX9_taken_32 hf (fun r1 s1 hf => ?_)
    refine g_istore_n (lv' := [(3, .int r1), (0, .ref (ad w 61)), (1, .int v1), (2, .int v2)]) C dX9_taken_35 rfl (by decide) rfl ?_
    refine g_iload_n C dX9_taken_36 rfl 0 rfl ?_
    refine g_if_ge (tgt := 43) C dX9_taken_37 (by decide) hf (fun hf => ?_) (fun hf => ?_)
    · refine g_iload_n C dX9_taken_43 rfl 0 rfl ?_
      refine g_bipush C (v := 9) dX9_taken_44 (by decide) ?_
      refine g_icmp_ne (tgt := 74) C dX9_taken_46 (by decide) hf (fun hf => ?_) (fun hf => ?_)
      · refine g_iload_n C dX9_taken_74 rfl 3 rfl ?_
        refine g_bipush C (v := 10) dX9_taken_75 (by decide) ?_
        refine g_icmp_ge (tgt := 97) C dX9_taken_77 (by decide) hf (fun hf => ?_) (fun hf => ?_)
        · refine g_bipush C (v := (-13)) dX9_taken_97 (by decide) ?_
          exact g_iret C dX9_taken_99 hf
        · refine g_iload_n C dX9_taken_80 rfl 0 rfl ?_
          refine g_iload_n C dX9_taken_81 rfl 3 rfl ?_
          refine g_callSB C [.int r1, .int v2] (fun _ _ h => c_X9_isUnder (kl x) N w _ _ h) (g_cwS C hR ml_X9_356 sm_X9_isUnder ini_X9 cd_X9_isUnder hd_X9_isUnder (by decide)) rfl _ rfl (Nat.le_of_ble_eq_true rfl) dX9_taken_82 hf (fun r2 s2 hf => ?_)
          refine g_ifeqB (tgt := 97) C dX9_taken_85 (by decide) hf (fun hf => ?_) (fun hf => ?_)
          · refine g_bipush C (v := (-13)) dX9_taken_97 (by decide) ?_
            exact g_iret C dX9_taken_99 hf
          · refine g_aload_n C dX9_taken_88 rfl 1 rfl ?_
            refine g_get C (R := RX9) (T := TX9) (N := 48) (k := 36) (v := .ref (ad w 83)) kd_61 (by decide) rfl (in_61 hS) hinX9 (by decide) fl_X9_74 rfl rfl dX9_taken_89 ?_
            refine g_iload_n C dX9_taken_92 rfl 2 rfl ?_
            refine g_iald C kd_83 ln_83 (in_83 hS) dX9_taken_93 hf (fun hf => ?_)
            refine g_goto (tgt := 99) C dX9_taken_94 (by decide) ?_
            exact g_iret C dX9_taken_99 hf
      · refine g_iload_n C dX9_taken_49 rfl 3 rfl ?_
        refine g_bipush C (v := 10) dX9_taken_50 (by decide) ?_
        refine g_aload_n C dX9_taken_52 rfl 1 rfl ?_
        refine g_get C (R := RX9) (T := TX9) (N := 48) (k := 36) (v := .ref (ad w 83)) kd_61 (by decide) rfl (in_61 hS) hinX9 (by decide) fl_X9_74 rfl rfl dX9_taken_53 ?_
        refine g_iload_n C dX9_taken_56 rfl 2 rfl ?_
        refine g_iald C kd_83 ln_83 (in_83 hS) dX9_taken_57 hf (fun hf => ?_)
        refine g_iadd C dX9_taken_58 ?_
        refine g_icmp_ne (tgt := 71) C dX9_taken_59 (by decide) hf (fun hf => ?_) (fun hf => ?_)
        · refine g_bipush C (v := (-13)) dX9_taken_71 (by decide) ?_
          exact g_iret C dX9_taken_73 hf
        · refine g_aload_n C dX9_taken_62 rfl 1 rfl ?_
          refine g_get C (R := RX9) (T := TX9) (N := 48) (k := 37) (v := .ref (ad w 84)) kd_61 (by decide) rfl (in_61 hS) hinX9 (by decide) fl_X9_77 rfl rfl dX9_taken_63 ?_
          refine g_iload_n C dX9_taken_66 rfl 2 rfl ?_
          refine g_iald C kd_84 ln_84 (in_84 hS) dX9_taken_67 hf (fun hf => ?_)
          refine g_goto (tgt := 73) C dX9_taken_68 (by decide) ?_
          exact g_iret C dX9_taken_73 hf
    · refine g_bipush C (v := (-11)) dX9_taken_40 (by decide) ?_
      exact g_iret C dX9_taken_42 hf
  refine g_lv (lv' := [(0, .ref (ad w 61)), (1, .int a1), (2, .int a2)]) rfl ?_
  unfold f_X9_taken at hf
  refine g_iload_n C dX9_taken_0 rfl 1 rfl ?_
  refine g_callSB C [.int a1] (fun _ _ h => c_X9_isShelf (kl x) N w _ h) (g_cwS C hR ml_X9_125 sm_X9_isShelf ini_X9 cd_X9_isShelf hd_X9_isShelf (by decide)) rfl _ rfl (Nat.le_of_ble_eq_true rfl) dX9_taken_1 hf (fun r1 s1 hf => ?_)
  refine g_ifeqB (tgt := 28) C dX9_taken_4 (by decide) hf (fun hf => ?_) (fun hf => ?_)
  · refine g_iconst C (v := (-1)) dX9_taken_28 rfl ?_
    exact g_iret C dX9_taken_29 hf
  · refine g_iload_n C dX9_taken_7 rfl 2 rfl ?_
    refine g_iconst C (v := 0) dX9_taken_8 rfl ?_
    refine g_bipush C (v := 8) dX9_taken_9 (by decide) ?_
    refine g_callSB C [.int a2, .int 0, .int 8] (fun _ _ h => c_X9_in (kl x) N w _ _ _ h) (g_cwS C hR ml_X9_93 sm_X9_in ini_X9 cd_X9_in hd_X9_in (by decide)) rfl _ rfl (Nat.le_of_ble_eq_true rfl) dX9_taken_11 hf (fun r2 s2 hf => ?_)
    refine g_ifneB (tgt := 30) C dX9_taken_14 (by decide) hf (fun hf => ?_) (fun hf => ?_)
    · exact j30 _ _ _ hf
    · refine g_iload_n C dX9_taken_17 rfl 2 rfl ?_
      refine g_bipush C (v := 10) dX9_taken_18 (by decide) ?_
      refine g_bipush C (v := 13) dX9_taken_20 (by decide) ?_
      refine g_callSB C [.int a2, .int 10, .int 13] (fun _ _ h => c_X9_in (kl x) N w _ _ _ h) (g_cwS C hR ml_X9_93 sm_X9_in ini_X9 cd_X9_in hd_X9_in (by decide)) rfl _ rfl (Nat.le_of_ble_eq_true rfl) dX9_taken_22 hf (fun r3 s3 hf => ?_)
      refine g_ifneB (tgt := 30) C dX9_taken_25 (by decide) hf (fun hf => ?_) (fun hf => ?_)
      · exact j30 _ _ _ hf
      · refine g_iconst C (v := (-1)) dX9_taken_28 rfl ?_
        exact g_iret C dX9_taken_29 hf

set_option maxHeartbeats 4000000 in
set_option maxRecDepth 100000 in
theorem c_X9_ran (l : Launch) (N : Nat) (w : WX) (hS : SS w = Sm) (a1 : Int32) {s s' : Mem} (hf : f_X9_ran N a1 s = some ((), s')) : CV l yX9_ran (wz yX9_ran cX9_ran 2 none) ({ frames := 0, cells := 0, slots := 0, locals := 0 } : Room) [.ref (ad w 61), .int a1] w s s' := by
  refine met_startV (cc := cX9_ran) (ret := none) (own := RX9) (maxL := 2) (by decide) rfl (Nat.le_of_ble_eq_true rfl) (fun x C hR hl => ?_)
  refine g_lv (lv' := [(0, .ref (ad w 61)), (1, .int a1)]) rfl ?_
  unfold f_X9_ran at hf
  refine g_aload_n C dX9_ran_0 rfl 0 rfl ?_
  refine g_get C (R := RX9) (T := TX9) (N := 48) (k := 42) (v := .int (rI s 61 42)) kd_61 (by decide) rfl (in_61 hS) hinX9 (by decide) fl_X9_359 rfl rfl dX9_ran_1 ?_
  refine g_bipush C (v := 30) dX9_ran_4 (by decide) ?_
  refine g_icmp_ge (tgt := 29) C dX9_ran_6 (by decide) hf (fun hf => ?_) (fun hf => ?_)
  · exact g_vret C dX9_ran_29 hf
  · refine g_aload_n C dX9_ran_9 rfl 0 rfl ?_
    refine g_get C (R := RX9) (T := TX9) (N := 48) (k := 41) (v := .ref (ad w 85)) kd_61 (by decide) rfl (in_61 hS) hinX9 (by decide) fl_X9_80 rfl rfl dX9_ran_10 ?_
    refine g_aload_n C dX9_ran_13 rfl 0 rfl ?_
    refine g_get C (R := RX9) (T := TX9) (N := 48) (k := 42) (v := .int (rI s 61 42)) kd_61 (by decide) rfl (in_61 hS) hinX9 (by decide) fl_X9_359 rfl rfl dX9_ran_14 ?_
    refine g_iload_n C dX9_ran_17 rfl 1 rfl ?_
    refine g_iast C kd_85 ln_85 (in_85 hS) dX9_ran_18 hf (fun hf => ?_)
    refine g_nameS hf (fun s1 hf => ?_)
    refine g_aload_n C dX9_ran_19 rfl 0 rfl ?_
    refine g_dup C dX9_ran_20 rfl ?_
    refine g_get C (R := RX9) (T := TX9) (N := 48) (k := 42) (v := .int (rI s1 61 42)) kd_61 (by decide) rfl (in_61 hS) hinX9 (by decide) fl_X9_359 rfl rfl dX9_ran_21 ?_
    refine g_iconst C (v := 1) dX9_ran_24 rfl ?_
    refine g_iadd C dX9_ran_25 ?_
    refine g_putI C (R := RX9) (T := TX9) (N := 48) (k := 42) (ty := .int) tyX9 tyX9_ok nmX9 kd_61 (by decide) rfl (in_61 hS) hinX9 (by decide) fl_X9_359 rfl rfl rfl rfl rfl (Nat.le_of_ble_eq_true rfl) fs_9_42 dX9_ran_26 ?_
    refine g_nameS hf (fun s2 hf => ?_)
    exact g_vret C dX9_ran_29 hf

set_option maxHeartbeats 4000000 in
set_option maxRecDepth 100000 in
theorem c_X9_saysIt (l : Launch) (N : Nat) (w : WX) (hS : SS w = Sm) (a1 : Int32) {s s' : Mem} {r : Int32} (hf : f_X9_saysIt N a1 s = some (r, s')) : CI l yX9_saysIt (wz yX9_saysIt cX9_saysIt 4 (some .int)) ({ frames := 1, cells := 0, slots := 0, locals := 21 } : Room) [.ref (ad w 61), .int a1] w s r s' := by
  refine met_startI (cc := cX9_saysIt) (ret := (some .int)) (own := RX9) (maxL := 4) (by decide) rfl (Nat.le_of_ble_eq_true rfl) (fun x C hR hl => ?_)
  have j141 : ∀ (p0 : Int32) (s : Mem), f_X9_saysIt_j141 N p0 s = some (r, s') → G x (QI x w r s') 4 w 141 [(0, .ref (ad w 61))] [.int p0] s := by
    intro p0 s hf
    unfold f_X9_saysIt_j141 at hf
    refine g_istore_n (lv' := [(3, .int p0), (0, .ref (ad w 61))]) C dX9_saysIt_141 rfl (by decide) rfl ?_
    refine g_aload_n C dX9_saysIt_142 rfl 1 rfl ?_
    refine g_get C (R := RX9) (T := TX9) (N := 48) (k := 38) (v := .int (rI s 61 38)) kd_61 (by decide) rfl (in_61 hS) hinX9 (by decide) fl_X9_362 rfl rfl dX9_saysIt_143 ?_
    refine g_bipush C (v := 7) dX9_saysIt_146 (by decide) ?_
    refine g_icmp_ne (tgt := 157) C dX9_saysIt_148 (by decide) hf (fun hf => ?_) (fun hf => ?_)
    · refine g_iload_n C dX9_saysIt_157 rfl 0 rfl ?_
      exact g_iret C dX9_saysIt_158 hf
    · refine g_iload_n C dX9_saysIt_151 rfl 0 rfl ?_
      refine g_iconst C (v := 5) dX9_saysIt_152 rfl ?_
      refine g_imul C dX9_saysIt_153 ?_
      refine g_goto (tgt := 158) C dX9_saysIt_154 (by decide) ?_
      exact g_iret C dX9_saysIt_158 hf
  have j140 : ∀ (v3 : Int32) (s : Mem), f_X9_saysIt_j140 N v3 s = some (r, s') → G x (QI x w r s') 4 w 140 [(0, .ref (ad w 61)), (3, .int v3)] [] s := by
    intro v3 s hf
    unfold f_X9_saysIt_j140 at hf
    refine g_iload_n C dX9_saysIt_140 rfl 1 rfl ?_
    refine g_sub [0] rfl ?_
    exact j141 _ _ hf
  have j117 : ∀ (v2 : Bool) (p0 : Bool) (p1 : Int32) (s : Mem), f_X9_saysIt_j117 N v2 p0 p1 s = some (r, s') → G x (QI x w r s') 4 w 117 [(0, .ref (ad w 61)), (2, .int (bI v2))] [.int (bI p0), .int p1] s := by
    intro v2 p0 p1 s hf
    unfold f_X9_saysIt_j117 at hf
    refine g_isub C dX9_saysIt_117 ?_
    refine g_istore_n (lv' := [(3, .int (p1 - (bI p0))), (0, .ref (ad w 61)), (2, .int (bI v2))]) C dX9_saysIt_118 rfl (by decide) rfl ?_
    refine g_iload_n C dX9_saysIt_119 rfl 2 rfl ?_
    refine g_ifeqB (tgt := 140) C dX9_saysIt_120 (by decide) hf (fun hf => ?_) (fun hf => ?_)
    · refine g_sub [1, 0] rfl ?_
      exact j140 _ _ hf
    · refine g_aload_n C dX9_saysIt_123 rfl 1 rfl ?_
      refine g_get C (R := RX9) (T := TX9) (N := 48) (k := 38) (v := .int (rI s 61 38)) kd_61 (by decide) rfl (in_61 hS) hinX9 (by decide) fl_X9_362 rfl rfl dX9_saysIt_124 ?_
      refine g_iconst C (v := 2) dX9_saysIt_127 rfl ?_
      refine g_icmp_eq (tgt := 140) C dX9_saysIt_128 (by decide) hf (fun hf => ?_) (fun hf => ?_)
      · refine g_sub [1, 0] rfl ?_
        exact j140 _ _ hf
      · refine g_iload_n C dX9_saysIt_131 rfl 0 rfl ?_
        refine g_aload_n C dX9_saysIt_132 rfl 1 rfl ?_
        refine g_get C (R := RX9) (T := TX9) (N := 48) (k := 40) (v := .int (rI s 61 40)) kd_61 (by decide) rfl (in_61 hS) hinX9 (by decide) fl_X9_368 rfl rfl dX9_saysIt_133 ?_
        refine g_ixor C dX9_saysIt_136 ?_
        refine g_goto (tgt := 141) C dX9_saysIt_137 (by decide) ?_
        refine g_sub [1] rfl ?_
        exact j141 _ _ hf
  have j96 : ∀ (v1 : Int32) (v2 : Bool) (s : Mem), f_X9_saysIt_j96 N v1 v2 s = some (r, s') → G x (QI x w r s') 4 w 96 [(0, .ref (ad w 61)), (1, .int v1), (2, .int (bI v2))] [] s := by
    intro v1 v2 s hf
    unfold f_X9_saysIt_j96 at hf
    refine g_aload_n C dX9_saysIt_96 rfl 0 rfl ?_
    refine g_bipush C (v := 10) dX9_saysIt_97 (by decide) ?_
    refine g_callVV C (R := RX9) (T := TX9) (N := 48) [.int 10] (fun _ h => c_X9_ran (kl x) N w hS _ h) (g_cwV C hR ml_X9_365 im_X9_ran sl_X9_ran ini_X9 cd_X9_ran hd_X9_ran (by decide)) kd_61 (by decide) rfl (in_61 hS) rfl _ rfl (Nat.le_of_ble_eq_true rfl) dX9_saysIt_99 hf (fun s1 hf => ?_)
    refine g_iload_n C dX9_saysIt_102 rfl 1 rfl ?_
    refine g_aload_n C dX9_saysIt_103 rfl 0 rfl ?_
    refine g_get C (R := RX9) (T := TX9) (N := 48) (k := 40) (v := .int (rI s1 61 40)) kd_61 (by decide) rfl (in_61 hS) hinX9 (by decide) fl_X9_368 rfl rfl dX9_saysIt_104 ?_
    refine g_iadd C dX9_saysIt_107 ?_
    refine g_iload_n C dX9_saysIt_108 rfl 2 rfl ?_
    refine g_ifeqB (tgt := 116) C dX9_saysIt_109 (by decide) hf (fun hf => ?_) (fun hf => ?_)
    · refine g_iconst C (v := 0) dX9_saysIt_116 rfl ?_
      refine g_sub [0, 2] rfl ?_
      exact j117 _ _ _ _ hf
    · refine g_iconst C (v := 1) dX9_saysIt_112 rfl ?_
      refine g_goto (tgt := 117) C dX9_saysIt_113 (by decide) ?_
      refine g_sub [0, 2] rfl ?_
      exact j117 _ _ _ _ hf
  have j86 : ∀ (v1 : Int32) (v2 : Bool) (s : Mem), f_X9_saysIt_j86 N v1 v2 s = some (r, s') → G x (QI x w r s') 4 w 86 [(0, .ref (ad w 61)), (1, .int v1), (2, .int (bI v2))] [] s := by
    intro v1 v2 s hf
    unfold f_X9_saysIt_j86 at hf
    refine g_iload_n C dX9_saysIt_86 rfl 2 rfl ?_
    refine g_ifeqB (tgt := 96) C dX9_saysIt_87 (by decide) hf (fun hf => ?_) (fun hf => ?_)
    · exact j96 _ _ _ hf
    · refine g_aload_n C dX9_saysIt_90 rfl 0 rfl ?_
      refine g_bipush C (v := 20) dX9_saysIt_91 (by decide) ?_
      refine g_callVV C (R := RX9) (T := TX9) (N := 48) [.int 20] (fun _ h => c_X9_ran (kl x) N w hS _ h) (g_cwV C hR ml_X9_365 im_X9_ran sl_X9_ran ini_X9 cd_X9_ran hd_X9_ran (by decide)) kd_61 (by decide) rfl (in_61 hS) rfl _ rfl (Nat.le_of_ble_eq_true rfl) dX9_saysIt_93 hf (fun s1 hf => ?_)
      exact j96 _ _ _ hf
  have j68 : ∀ (v1 : Int32) (v2 : Bool) (s : Mem), f_X9_saysIt_j68 N v1 v2 s = some (r, s') → G x (QI x w r s') 4 w 68 [(0, .ref (ad w 61)), (1, .int v1), (2, .int (bI v2))] [] s := by
    intro v1 v2 s hf
    unfold f_X9_saysIt_j68 at hf
    refine g_iload_n C dX9_saysIt_68 rfl 2 rfl ?_
    refine g_ifeqB (tgt := 86) C dX9_saysIt_69 (by decide) hf (fun hf => ?_) (fun hf => ?_)
    · exact j86 _ _ _ hf
    · refine g_aload_n C dX9_saysIt_72 rfl 0 rfl ?_
      refine g_get C (R := RX9) (T := TX9) (N := 48) (k := 38) (v := .int (rI s 61 38)) kd_61 (by decide) rfl (in_61 hS) hinX9 (by decide) fl_X9_362 rfl rfl dX9_saysIt_73 ?_
      refine g_iconst C (v := 2) dX9_saysIt_76 rfl ?_
      refine g_icmp_eq (tgt := 86) C dX9_saysIt_77 (by decide) hf (fun hf => ?_) (fun hf => ?_)
      · exact j86 _ _ _ hf
      · refine g_aload_n C dX9_saysIt_80 rfl 0 rfl ?_
        refine g_bipush C (v := 50) dX9_saysIt_81 (by decide) ?_
        refine g_callVV C (R := RX9) (T := TX9) (N := 48) [.int 50] (fun _ h => c_X9_ran (kl x) N w hS _ h) (g_cwV C hR ml_X9_365 im_X9_ran sl_X9_ran ini_X9 cd_X9_ran hd_X9_ran (by decide)) kd_61 (by decide) rfl (in_61 hS) rfl _ rfl (Nat.le_of_ble_eq_true rfl) dX9_saysIt_83 hf (fun s1 hf => ?_)
        exact j86 _ _ _ hf
  have j52 : ∀ (v1 : Int32) (p0 : Bool) (s : Mem), f_X9_saysIt_j52 N v1 p0 s = some (r, s') → G x (QI x w r s') 4 w 52 [(0, .ref (ad w 61)), (1, .int v1)] [.int (bI p0)] s := by
    intro v1 p0 s hf
    unfold f_X9_saysIt_j52 at hf
    refine g_istore_n (lv' := [(2, .int (bI p0)), (0, .ref (ad w 61)), (1, .int v1)]) C dX9_saysIt_52 rfl (by decide) rfl ?_
    refine g_aload_n C dX9_saysIt_53 rfl 1 rfl ?_
    refine g_get C (R := RX9) (T := TX9) (N := 48) (k := 38) (v := .int (rI s 61 38)) kd_61 (by decide) rfl (in_61 hS) hinX9 (by decide) fl_X9_362 rfl rfl dX9_saysIt_54 ?_
    refine g_bipush C (v := 7) dX9_saysIt_57 (by decide) ?_
    refine g_icmp_ne (tgt := 68) C dX9_saysIt_59 (by decide) hf (fun hf => ?_) (fun hf => ?_)
    · refine g_sub [1, 2, 0] rfl ?_
      exact j68 _ _ _ hf
    · refine g_aload_n C dX9_saysIt_62 rfl 1 rfl ?_
      refine g_bipush C (v := 70) dX9_saysIt_63 (by decide) ?_
      refine g_callVV C (R := RX9) (T := TX9) (N := 48) [.int 70] (fun _ h => c_X9_ran (kl x) N w hS _ h) (g_cwV C hR ml_X9_365 im_X9_ran sl_X9_ran ini_X9 cd_X9_ran hd_X9_ran (by decide)) kd_61 (by decide) rfl (in_61 hS) rfl _ rfl (Nat.le_of_ble_eq_true rfl) dX9_saysIt_65 hf (fun s1 hf => ?_)
      refine g_sub [1, 2, 0] rfl ?_
      exact j68 _ _ _ hf
  have j47 : ∀ (v1 : Int32) (s : Mem), f_X9_saysIt_j47 N v1 s = some (r, s') → G x (QI x w r s') 4 w 47 [(0, .ref (ad w 61)), (1, .int v1)] [] s := by
    intro v1 s hf
    unfold f_X9_saysIt_j47 at hf
    refine g_iconst C (v := 1) dX9_saysIt_47 rfl ?_
    refine g_goto (tgt := 52) C dX9_saysIt_48 (by decide) ?_
    exact j52 _ _ _ hf
  refine g_lv (lv' := [(0, .ref (ad w 61)), (1, .int a1)]) rfl ?_
  unfold f_X9_saysIt at hf
  refine g_aload_n C dX9_saysIt_0 rfl 0 rfl ?_
  refine g_get C (R := RX9) (T := TX9) (N := 48) (k := 38) (v := .int (rI s 61 38)) kd_61 (by decide) rfl (in_61 hS) hinX9 (by decide) fl_X9_362 rfl rfl dX9_saysIt_1 ?_
  refine g_bipush C (v := 8) dX9_saysIt_4 (by decide) ?_
  refine g_icmp_ne (tgt := 22) C dX9_saysIt_6 (by decide) hf (fun hf => ?_) (fun hf => ?_)
  · refine g_aload_n C dX9_saysIt_22 rfl 0 rfl ?_
    refine g_get C (R := RX9) (T := TX9) (N := 48) (k := 38) (v := .int (rI s 61 38)) kd_61 (by decide) rfl (in_61 hS) hinX9 (by decide) fl_X9_362 rfl rfl dX9_saysIt_23 ?_
    refine g_iconst C (v := 2) dX9_saysIt_26 rfl ?_
    refine g_icmp_eq (tgt := 47) C dX9_saysIt_27 (by decide) hf (fun hf => ?_) (fun hf => ?_)
    · exact j47 _ _ hf
    · refine g_aload_n C dX9_saysIt_30 rfl 0 rfl ?_
      refine g_get C (R := RX9) (T := TX9) (N := 48) (k := 38) (v := .int (rI s 61 38)) kd_61 (by decide) rfl (in_61 hS) hinX9 (by decide) fl_X9_362 rfl rfl dX9_saysIt_31 ?_
      refine g_iconst C (v := 5) dX9_saysIt_34 rfl ?_
      refine g_icmp_eq (tgt := 47) C dX9_saysIt_35 (by decide) hf (fun hf => ?_) (fun hf => ?_)
      · exact j47 _ _ hf
      · refine g_aload_n C dX9_saysIt_38 rfl 0 rfl ?_
        refine g_get C (R := RX9) (T := TX9) (N := 48) (k := 38) (v := .int (rI s 61 38)) kd_61 (by decide) rfl (in_61 hS) hinX9 (by decide) fl_X9_362 rfl rfl dX9_saysIt_39 ?_
        refine g_bipush C (v := 7) dX9_saysIt_42 (by decide) ?_
        refine g_icmp_ne (tgt := 51) C dX9_saysIt_44 (by decide) hf (fun hf => ?_) (fun hf => ?_)
        · refine g_iconst C (v := 0) dX9_saysIt_51 rfl ?_
          exact j52 _ _ _ hf
        · exact j47 _ _ hf
  · refine g_aload_n C dX9_saysIt_9 rfl 0 rfl ?_
    refine g_bipush C (v := 80) dX9_saysIt_10 (by decide) ?_
    refine g_callVV C (R := RX9) (T := TX9) (N := 48) [.int 80] (fun _ h => c_X9_ran (kl x) N w hS _ h) (g_cwV C hR ml_X9_365 im_X9_ran sl_X9_ran ini_X9 cd_X9_ran hd_X9_ran (by decide)) kd_61 (by decide) rfl (in_61 hS) rfl _ rfl (Nat.le_of_ble_eq_true rfl) dX9_saysIt_12 hf (fun s1 hf => ?_)
    refine g_aload_n C dX9_saysIt_15 rfl 0 rfl ?_
    refine g_get C (R := RX9) (T := TX9) (N := 48) (k := 40) (v := .int (rI s1 61 40)) kd_61 (by decide) rfl (in_61 hS) hinX9 (by decide) fl_X9_368 rfl rfl dX9_saysIt_16 ?_
    refine g_iload_n C dX9_saysIt_19 rfl 1 rfl ?_
    refine g_isub C dX9_saysIt_20 ?_
    exact g_iret C dX9_saysIt_21 hf

set_option maxHeartbeats 4000000 in
set_option maxRecDepth 100000 in
theorem c_X9_paperLeans (l : Launch) (N : Nat) (w : WX) (hS : SS w = Sm) (a1 : Int32) {s s' : Mem} {r : Int32} (hf : f_X9_paperLeans N a1 s = some (r, s')) : CI l yX9_paperLeans (wz yX9_paperLeans cX9_paperLeans 2 (some .int)) ({ frames := 2, cells := 0, slots := 0, locals := 44 } : Room) [.ref (ad w 61), .int a1] w s r s' := by
  refine met_startI (cc := cX9_paperLeans) (ret := (some .int)) (own := RX9) (maxL := 2) (by decide) rfl (Nat.le_of_ble_eq_true rfl) (fun x C hR hl => ?_)
  refine g_lv (lv' := [(0, .ref (ad w 61)), (1, .int a1)]) rfl ?_
  unfold f_X9_paperLeans at hf
  refine g_aload_n C dX9_paperLeans_0 rfl 0 rfl ?_
  refine g_bipush C (v := 11) dX9_paperLeans_1 (by decide) ?_
  refine g_callVV C (R := RX9) (T := TX9) (N := 48) [.int 11] (fun _ h => c_X9_ran (kl x) N w hS _ h) (g_cwV C hR ml_X9_365 im_X9_ran sl_X9_ran ini_X9 cd_X9_ran hd_X9_ran (by decide)) kd_61 (by decide) rfl (in_61 hS) rfl _ rfl (Nat.le_of_ble_eq_true rfl) dX9_paperLeans_3 hf (fun s1 hf => ?_)
  refine g_aload_n C dX9_paperLeans_6 rfl 0 rfl ?_
  refine g_iload_n C dX9_paperLeans_7 rfl 1 rfl ?_
  refine g_callVI C (R := RX9) (T := TX9) (N := 48) [.int a1] (fun _ _ h => c_X9_saysIt (kl x) N w hS _ h) (g_cwV C hR ml_X9_371 im_X9_saysIt sl_X9_saysIt ini_X9 cd_X9_saysIt hd_X9_saysIt (by decide)) kd_61 (by decide) rfl (in_61 hS) rfl _ rfl (Nat.le_of_ble_eq_true rfl) dX9_paperLeans_8 hf (fun r2 s2 hf => ?_)
  refine g_iconst C (v := 2) dX9_paperLeans_11 rfl ?_
  refine g_imul C dX9_paperLeans_12 ?_
  exact g_iret C dX9_paperLeans_13 hf

set_option maxHeartbeats 4000000 in
set_option maxRecDepth 100000 in
theorem c_X9_countLeans (l : Launch) (N : Nat) (w : WX) (hS : SS w = Sm) (a1 : Int32) {s s' : Mem} {r : Int32} (hf : f_X9_countLeans N a1 s = some (r, s')) : CI l yX9_countLeans (wz yX9_countLeans cX9_countLeans 3 (some .int)) ({ frames := 3, cells := 0, slots := 0, locals := 65 } : Room) [.ref (ad w 61), .int a1] w s r s' := by
  refine met_startI (cc := cX9_countLeans) (ret := (some .int)) (own := RX9) (maxL := 3) (by decide) rfl (Nat.le_of_ble_eq_true rfl) (fun x C hR hl => ?_)
  refine g_lv (lv' := [(0, .ref (ad w 61)), (1, .int a1)]) rfl ?_
  unfold f_X9_countLeans at hf
  refine g_aload_n C dX9_countLeans_0 rfl 0 rfl ?_
  refine g_bipush C (v := 30) dX9_countLeans_1 (by decide) ?_
  refine g_callVV C (R := RX9) (T := TX9) (N := 48) [.int 30] (fun _ h => c_X9_ran (kl x) N w hS _ h) (g_cwV C hR ml_X9_365 im_X9_ran sl_X9_ran ini_X9 cd_X9_ran hd_X9_ran (by decide)) kd_61 (by decide) rfl (in_61 hS) rfl _ rfl (Nat.le_of_ble_eq_true rfl) dX9_countLeans_3 hf (fun s1 hf => ?_)
  refine g_aload_n C dX9_countLeans_6 rfl 0 rfl ?_
  refine g_iload_n C dX9_countLeans_7 rfl 1 rfl ?_
  refine g_callVI C (R := RX9) (T := TX9) (N := 48) [.int a1] (fun _ _ h => c_X9_paperLeans (kl x) N w hS _ h) (g_cwV C hR ml_X9_374 im_X9_paperLeans sl_X9_paperLeans ini_X9 cd_X9_paperLeans hd_X9_paperLeans (by decide)) kd_61 (by decide) rfl (in_61 hS) rfl _ rfl (Nat.le_of_ble_eq_true rfl) dX9_countLeans_8 hf (fun r2 s2 hf => ?_)
  refine g_istore_n (lv' := [(2, .int r2), (0, .ref (ad w 61)), (1, .int a1)]) C dX9_countLeans_11 rfl (by decide) rfl ?_
  refine g_iload_n C dX9_countLeans_12 rfl 0 rfl ?_
  refine g_aload_n C dX9_countLeans_13 rfl 1 rfl ?_
  refine g_aload_n C dX9_countLeans_14 rfl 1 rfl ?_
  refine g_get C (R := RX9) (T := TX9) (N := 48) (k := 39) (v := .int (rI s2 61 39)) kd_61 (by decide) rfl (in_61 hS) hinX9 (by decide) fl_X9_377 rfl rfl dX9_countLeans_15 ?_
  refine g_callVI C (R := RX9) (T := TX9) (N := 48) [.int (rI s2 61 39)] (fun _ _ h => c_X9_saysIt (kl x) N w hS _ h) (g_cwV C hR ml_X9_371 im_X9_saysIt sl_X9_saysIt ini_X9 cd_X9_saysIt hd_X9_saysIt (by decide)) kd_61 (by decide) rfl (in_61 hS) rfl _ rfl (Nat.le_of_ble_eq_true rfl) dX9_countLeans_18 hf (fun r3 s3 hf => ?_)
  refine g_iadd C dX9_countLeans_21 ?_
  exact g_iret C dX9_countLeans_22 hf

set_option maxHeartbeats 4000000 in
set_option maxRecDepth 100000 in
theorem c_X9_leansIt (l : Launch) (N : Nat) (w : WX) (hS : SS w = Sm) (a1 : Int32) {s s' : Mem} {r : Int32} (hf : f_X9_leansIt N a1 s = some (r, s')) : CI l yX9_leansIt (wz yX9_leansIt cX9_leansIt 2 (some .int)) ({ frames := 4, cells := 0, slots := 0, locals := 87 } : Room) [.ref (ad w 61), .int a1] w s r s' := by
  refine met_startI (cc := cX9_leansIt) (ret := (some .int)) (own := RX9) (maxL := 2) (by decide) rfl (Nat.le_of_ble_eq_true rfl) (fun x C hR hl => ?_)
  refine g_lv (lv' := [(0, .ref (ad w 61)), (1, .int a1)]) rfl ?_
  unfold f_X9_leansIt at hf
  refine g_aload_n C dX9_leansIt_0 rfl 0 rfl ?_
  refine g_get C (R := RX9) (T := TX9) (N := 48) (k := 38) (v := .int (rI s 61 38)) kd_61 (by decide) rfl (in_61 hS) hinX9 (by decide) fl_X9_362 rfl rfl dX9_leansIt_1 ?_
  refine g_bipush C (v := 8) dX9_leansIt_4 (by decide) ?_
  refine g_icmp_ne (tgt := 22) C dX9_leansIt_6 (by decide) hf (fun hf => ?_) (fun hf => ?_)
  · refine g_aload_n C dX9_leansIt_22 rfl 0 rfl ?_
    refine g_get C (R := RX9) (T := TX9) (N := 48) (k := 38) (v := .int (rI s 61 38)) kd_61 (by decide) rfl (in_61 hS) hinX9 (by decide) fl_X9_362 rfl rfl dX9_leansIt_23 ?_
    refine g_bipush C (v := 6) dX9_leansIt_26 (by decide) ?_
    refine g_icmp_ne (tgt := 44) C dX9_leansIt_28 (by decide) hf (fun hf => ?_) (fun hf => ?_)
    · refine g_aload_n C dX9_leansIt_44 rfl 0 rfl ?_
      refine g_get C (R := RX9) (T := TX9) (N := 48) (k := 38) (v := .int (rI s 61 38)) kd_61 (by decide) rfl (in_61 hS) hinX9 (by decide) fl_X9_362 rfl rfl dX9_leansIt_45 ?_
      refine g_iconst C (v := 3) dX9_leansIt_48 rfl ?_
      refine g_icmp_ne (tgt := 60) C dX9_leansIt_49 (by decide) hf (fun hf => ?_) (fun hf => ?_)
      · refine g_aload_n C dX9_leansIt_60 rfl 0 rfl ?_
        refine g_iload_n C dX9_leansIt_61 rfl 1 rfl ?_
        refine g_callVI C (R := RX9) (T := TX9) (N := 48) [.int a1] (fun _ _ h => c_X9_paperLeans (kl x) N w hS _ h) (g_cwV C hR ml_X9_374 im_X9_paperLeans sl_X9_paperLeans ini_X9 cd_X9_paperLeans hd_X9_paperLeans (by decide)) kd_61 (by decide) rfl (in_61 hS) rfl _ rfl (Nat.le_of_ble_eq_true rfl) dX9_leansIt_62 hf (fun r1 s1 hf => ?_)
        exact g_iret C dX9_leansIt_65 hf
      · refine g_aload_n C dX9_leansIt_52 rfl 0 rfl ?_
        refine g_iload_n C dX9_leansIt_53 rfl 1 rfl ?_
        refine g_callVI C (R := RX9) (T := TX9) (N := 48) [.int a1] (fun _ _ h => c_X9_countLeans (kl x) N w hS _ h) (g_cwV C hR ml_X9_380 im_X9_countLeans sl_X9_countLeans ini_X9 cd_X9_countLeans hd_X9_countLeans (by decide)) kd_61 (by decide) rfl (in_61 hS) rfl _ rfl (Nat.le_of_ble_eq_true rfl) dX9_leansIt_54 hf (fun r2 s2 hf => ?_)
        refine g_goto (tgt := 65) C dX9_leansIt_57 (by decide) ?_
        exact g_iret C dX9_leansIt_65 hf
    · refine g_aload_n C dX9_leansIt_31 rfl 0 rfl ?_
      refine g_bipush C (v := 60) dX9_leansIt_32 (by decide) ?_
      refine g_callVV C (R := RX9) (T := TX9) (N := 48) [.int 60] (fun _ h => c_X9_ran (kl x) N w hS _ h) (g_cwV C hR ml_X9_365 im_X9_ran sl_X9_ran ini_X9 cd_X9_ran hd_X9_ran (by decide)) kd_61 (by decide) rfl (in_61 hS) rfl _ rfl (Nat.le_of_ble_eq_true rfl) dX9_leansIt_34 hf (fun s3 hf => ?_)
      refine g_aload_n C dX9_leansIt_37 rfl 0 rfl ?_
      refine g_iload_n C dX9_leansIt_38 rfl 1 rfl ?_
      refine g_callVI C (R := RX9) (T := TX9) (N := 48) [.int a1] (fun _ _ h => c_X9_countLeans (kl x) N w hS _ h) (g_cwV C hR ml_X9_380 im_X9_countLeans sl_X9_countLeans ini_X9 cd_X9_countLeans hd_X9_countLeans (by decide)) kd_61 (by decide) rfl (in_61 hS) rfl _ rfl (Nat.le_of_ble_eq_true rfl) dX9_leansIt_39 hf (fun r4 s4 hf => ?_)
      refine g_ineg C dX9_leansIt_42 ?_
      exact g_iret C dX9_leansIt_43 hf
  · refine g_aload_n C dX9_leansIt_9 rfl 0 rfl ?_
    refine g_bipush C (v := 81) dX9_leansIt_10 (by decide) ?_
    refine g_callVV C (R := RX9) (T := TX9) (N := 48) [.int 81] (fun _ h => c_X9_ran (kl x) N w hS _ h) (g_cwV C hR ml_X9_365 im_X9_ran sl_X9_ran ini_X9 cd_X9_ran hd_X9_ran (by decide)) kd_61 (by decide) rfl (in_61 hS) rfl _ rfl (Nat.le_of_ble_eq_true rfl) dX9_leansIt_12 hf (fun s5 hf => ?_)
    refine g_iload_n C dX9_leansIt_15 rfl 1 rfl ?_
    refine g_aload_n C dX9_leansIt_16 rfl 0 rfl ?_
    refine g_get C (R := RX9) (T := TX9) (N := 48) (k := 39) (v := .int (rI s5 61 39)) kd_61 (by decide) rfl (in_61 hS) hinX9 (by decide) fl_X9_377 rfl rfl dX9_leansIt_17 ?_
    refine g_iadd C dX9_leansIt_20 ?_
    exact g_iret C dX9_leansIt_21 hf

set_option maxHeartbeats 4000000 in
set_option maxRecDepth 100000 in
theorem c_X9_fitsIt (l : Launch) (N : Nat) (w : WX) (hS : SS w = Sm) (a1 : Int32) {s s' : Mem} {r : Int32} (hf : f_X9_fitsIt N a1 s = some (r, s')) : CI l yX9_fitsIt (wz yX9_fitsIt cX9_fitsIt 3 (some .int)) ({ frames := 1, cells := 0, slots := 0, locals := 21 } : Room) [.ref (ad w 61), .int a1] w s r s' := by
  refine met_startI (cc := cX9_fitsIt) (ret := (some .int)) (own := RX9) (maxL := 3) (by decide) rfl (Nat.le_of_ble_eq_true rfl) (fun x C hR hl => ?_)
  have j51 : ∀ (v2 : Int32) (s : Mem), f_X9_fitsIt_j51 N v2 s = some (r, s') → G x (QI x w r s') 3 w 51 [(0, .ref (ad w 61)), (2, .int v2)] [] s := by
    intro v2 s hf
    unfold f_X9_fitsIt_j51 at hf
    refine g_aload_n C dX9_fitsIt_51 rfl 0 rfl ?_
    refine g_bipush C (v := 12) dX9_fitsIt_52 (by decide) ?_
    refine g_callVV C (R := RX9) (T := TX9) (N := 48) [.int 12] (fun _ h => c_X9_ran (kl x) N w hS _ h) (g_cwV C hR ml_X9_365 im_X9_ran sl_X9_ran ini_X9 cd_X9_ran hd_X9_ran (by decide)) kd_61 (by decide) rfl (in_61 hS) rfl _ rfl (Nat.le_of_ble_eq_true rfl) dX9_fitsIt_54 hf (fun s1 hf => ?_)
    refine g_aload_n C dX9_fitsIt_57 rfl 0 rfl ?_
    refine g_get C (R := RX9) (T := TX9) (N := 48) (k := 40) (v := .int (rI s1 61 40)) kd_61 (by decide) rfl (in_61 hS) hinX9 (by decide) fl_X9_368 rfl rfl dX9_fitsIt_58 ?_
    refine g_aload_n C dX9_fitsIt_61 rfl 0 rfl ?_
    refine g_get C (R := RX9) (T := TX9) (N := 48) (k := 39) (v := .int (rI s1 61 39)) kd_61 (by decide) rfl (in_61 hS) hinX9 (by decide) fl_X9_377 rfl rfl dX9_fitsIt_62 ?_
    refine g_icmp_ne (tgt := 75) C dX9_fitsIt_65 (by decide) hf (fun hf => ?_) (fun hf => ?_)
    · refine g_iload_n C dX9_fitsIt_75 rfl 1 rfl ?_
      refine g_aload_n C dX9_fitsIt_76 rfl 0 rfl ?_
      refine g_get C (R := RX9) (T := TX9) (N := 48) (k := 40) (v := .int (rI s1 61 40)) kd_61 (by decide) rfl (in_61 hS) hinX9 (by decide) fl_X9_368 rfl rfl dX9_fitsIt_77 ?_
      refine g_aload_n C dX9_fitsIt_80 rfl 0 rfl ?_
      refine g_get C (R := RX9) (T := TX9) (N := 48) (k := 39) (v := .int (rI s1 61 39)) kd_61 (by decide) rfl (in_61 hS) hinX9 (by decide) fl_X9_377 rfl rfl dX9_fitsIt_81 ?_
      refine g_isub C dX9_fitsIt_84 ?_
      refine g_idiv C dX9_fitsIt_85 hf (fun hf => ?_)
      exact g_iret C dX9_fitsIt_86 hf
    · refine g_aload_n C dX9_fitsIt_68 rfl 0 rfl ?_
      refine g_iconst C (v := 1) dX9_fitsIt_69 rfl ?_
      refine g_putI C (R := RX9) (T := TX9) (N := 48) (k := 43) (ty := .boolean) tyX9 tyX9_ok nmX9 kd_61 (by decide) rfl (in_61 hS) hinX9 (by decide) fl_X9_383 rfl rfl rfl rfl rfl (Nat.le_of_ble_eq_true rfl) fs_9_43 dX9_fitsIt_70 ?_
      refine g_nameS hf (fun s2 hf => ?_)
      refine g_iconst C (v := 0) dX9_fitsIt_73 rfl ?_
      exact g_iret C dX9_fitsIt_74 hf
  have j41 : ∀ (v1 : Int32) (s : Mem), f_X9_fitsIt_j41 N v1 s = some (r, s') → G x (QI x w r s') 3 w 41 [(0, .ref (ad w 61)), (1, .int v1)] [] s := by
    intro v1 s hf
    unfold f_X9_fitsIt_j41 at hf
    refine g_aload_n C dX9_fitsIt_41 rfl 0 rfl ?_
    refine g_bipush C (v := 51) dX9_fitsIt_42 (by decide) ?_
    refine g_callVV C (R := RX9) (T := TX9) (N := 48) [.int 51] (fun _ h => c_X9_ran (kl x) N w hS _ h) (g_cwV C hR ml_X9_365 im_X9_ran sl_X9_ran ini_X9 cd_X9_ran hd_X9_ran (by decide)) kd_61 (by decide) rfl (in_61 hS) rfl _ rfl (Nat.le_of_ble_eq_true rfl) dX9_fitsIt_44 hf (fun s1 hf => ?_)
    refine g_iload_n C dX9_fitsIt_47 rfl 1 rfl ?_
    refine g_iconst C (v := 1) dX9_fitsIt_48 rfl ?_
    refine g_iadd C dX9_fitsIt_49 ?_
    refine g_istore_n (lv' := [(2, .int (v1 + 1)), (0, .ref (ad w 61)), (1, .int v1)]) C dX9_fitsIt_50 rfl (by decide) rfl ?_
    refine g_sub [1, 0] rfl ?_
    exact j51 _ _ hf
  refine g_lv (lv' := [(0, .ref (ad w 61)), (1, .int a1)]) rfl ?_
  unfold f_X9_fitsIt at hf
  refine g_aload_n C dX9_fitsIt_0 rfl 0 rfl ?_
  refine g_get C (R := RX9) (T := TX9) (N := 48) (k := 38) (v := .int (rI s 61 38)) kd_61 (by decide) rfl (in_61 hS) hinX9 (by decide) fl_X9_362 rfl rfl dX9_fitsIt_1 ?_
  refine g_bipush C (v := 8) dX9_fitsIt_4 (by decide) ?_
  refine g_icmp_ne (tgt := 22) C dX9_fitsIt_6 (by decide) hf (fun hf => ?_) (fun hf => ?_)
  · refine g_iload_n C dX9_fitsIt_22 rfl 1 rfl ?_
    refine g_istore_n (lv' := [(2, .int a1), (0, .ref (ad w 61)), (1, .int a1)]) C dX9_fitsIt_23 rfl (by decide) rfl ?_
    refine g_aload_n C dX9_fitsIt_24 rfl 1 rfl ?_
    refine g_get C (R := RX9) (T := TX9) (N := 48) (k := 38) (v := .int (rI s 61 38)) kd_61 (by decide) rfl (in_61 hS) hinX9 (by decide) fl_X9_362 rfl rfl dX9_fitsIt_25 ?_
    refine g_iconst C (v := 5) dX9_fitsIt_28 rfl ?_
    refine g_icmp_eq (tgt := 41) C dX9_fitsIt_29 (by decide) hf (fun hf => ?_) (fun hf => ?_)
    · refine g_sub [1, 2] rfl ?_
      exact j41 _ _ hf
    · refine g_aload_n C dX9_fitsIt_32 rfl 1 rfl ?_
      refine g_get C (R := RX9) (T := TX9) (N := 48) (k := 38) (v := .int (rI s 61 38)) kd_61 (by decide) rfl (in_61 hS) hinX9 (by decide) fl_X9_362 rfl rfl dX9_fitsIt_33 ?_
      refine g_bipush C (v := 7) dX9_fitsIt_36 (by decide) ?_
      refine g_icmp_ne (tgt := 51) C dX9_fitsIt_38 (by decide) hf (fun hf => ?_) (fun hf => ?_)
      · refine g_sub [1, 0] rfl ?_
        exact j51 _ _ hf
      · refine g_sub [1, 2] rfl ?_
        exact j41 _ _ hf
  · refine g_aload_n C dX9_fitsIt_9 rfl 0 rfl ?_
    refine g_bipush C (v := 82) dX9_fitsIt_10 (by decide) ?_
    refine g_callVV C (R := RX9) (T := TX9) (N := 48) [.int 82] (fun _ h => c_X9_ran (kl x) N w hS _ h) (g_cwV C hR ml_X9_365 im_X9_ran sl_X9_ran ini_X9 cd_X9_ran hd_X9_ran (by decide)) kd_61 (by decide) rfl (in_61 hS) rfl _ rfl (Nat.le_of_ble_eq_true rfl) dX9_fitsIt_12 hf (fun s1 hf => ?_)
    refine g_iload_n C dX9_fitsIt_15 rfl 1 rfl ?_
    refine g_aload_n C dX9_fitsIt_16 rfl 0 rfl ?_
    refine g_get C (R := RX9) (T := TX9) (N := 48) (k := 40) (v := .int (rI s1 61 40)) kd_61 (by decide) rfl (in_61 hS) hinX9 (by decide) fl_X9_368 rfl rfl dX9_fitsIt_17 ?_
    refine g_iand C dX9_fitsIt_20 ?_
    exact g_iret C dX9_fitsIt_21 hf

set_option maxHeartbeats 4000000 in
set_option maxRecDepth 100000 in
theorem c_X9_paperTells (l : Launch) (N : Nat) (w : WX) (hS : SS w = Sm) (a1 : Int32) {s s' : Mem} {r : Int32} (hf : f_X9_paperTells N a1 s = some (r, s')) : CI l yX9_paperTells (wz yX9_paperTells cX9_paperTells 2 (some .int)) ({ frames := 5, cells := 0, slots := 0, locals := 108 } : Room) [.ref (ad w 61), .int a1] w s r s' := by
  refine met_startI (cc := cX9_paperTells) (ret := (some .int)) (own := RX9) (maxL := 2) (by decide) rfl (Nat.le_of_ble_eq_true rfl) (fun x C hR hl => ?_)
  refine g_lv (lv' := [(0, .ref (ad w 61)), (1, .int a1)]) rfl ?_
  unfold f_X9_paperTells at hf
  refine g_aload_n C dX9_paperTells_0 rfl 0 rfl ?_
  refine g_bipush C (v := 13) dX9_paperTells_1 (by decide) ?_
  refine g_callVV C (R := RX9) (T := TX9) (N := 48) [.int 13] (fun _ h => c_X9_ran (kl x) N w hS _ h) (g_cwV C hR ml_X9_365 im_X9_ran sl_X9_ran ini_X9 cd_X9_ran hd_X9_ran (by decide)) kd_61 (by decide) rfl (in_61 hS) rfl _ rfl (Nat.le_of_ble_eq_true rfl) dX9_paperTells_3 hf (fun s1 hf => ?_)
  refine g_aload_n C dX9_paperTells_6 rfl 0 rfl ?_
  refine g_iload_n C dX9_paperTells_7 rfl 1 rfl ?_
  refine g_callVI C (R := RX9) (T := TX9) (N := 48) [.int a1] (fun _ _ h => c_X9_leansIt (kl x) N w hS _ h) (g_cwV C hR ml_X9_387 im_X9_leansIt sl_X9_leansIt ini_X9 cd_X9_leansIt hd_X9_leansIt (by decide)) kd_61 (by decide) rfl (in_61 hS) rfl _ rfl (Nat.le_of_ble_eq_true rfl) dX9_paperTells_8 hf (fun r2 s2 hf => ?_)
  refine g_aload_n C dX9_paperTells_11 rfl 0 rfl ?_
  refine g_get C (R := RX9) (T := TX9) (N := 48) (k := 39) (v := .int (rI s2 61 39)) kd_61 (by decide) rfl (in_61 hS) hinX9 (by decide) fl_X9_377 rfl rfl dX9_paperTells_12 ?_
  refine g_ixor C dX9_paperTells_15 ?_
  exact g_iret C dX9_paperTells_16 hf

set_option maxHeartbeats 4000000 in
set_option maxRecDepth 100000 in
theorem c_X9_tellsIt (l : Launch) (N : Nat) (w : WX) (hS : SS w = Sm) (a1 : Int32) {s s' : Mem} {r : Int32} (hf : f_X9_tellsIt N a1 s = some (r, s')) : CI l yX9_tellsIt (wz yX9_tellsIt cX9_tellsIt 3 (some .int)) ({ frames := 6, cells := 0, slots := 0, locals := 129 } : Room) [.ref (ad w 61), .int a1] w s r s' := by
  refine met_startI (cc := cX9_tellsIt) (ret := (some .int)) (own := RX9) (maxL := 3) (by decide) rfl (Nat.le_of_ble_eq_true rfl) (fun x C hR hl => ?_)
  refine g_lv (lv' := [(0, .ref (ad w 61)), (1, .int a1)]) rfl ?_
  unfold f_X9_tellsIt at hf
  refine g_aload_n C dX9_tellsIt_0 rfl 0 rfl ?_
  refine g_get C (R := RX9) (T := TX9) (N := 48) (k := 38) (v := .int (rI s 61 38)) kd_61 (by decide) rfl (in_61 hS) hinX9 (by decide) fl_X9_362 rfl rfl dX9_tellsIt_1 ?_
  refine g_bipush C (v := 8) dX9_tellsIt_4 (by decide) ?_
  refine g_icmp_ne (tgt := 29) C dX9_tellsIt_6 (by decide) hf (fun hf => ?_) (fun hf => ?_)
  · refine g_aload_n C dX9_tellsIt_29 rfl 0 rfl ?_
    refine g_get C (R := RX9) (T := TX9) (N := 48) (k := 38) (v := .int (rI s 61 38)) kd_61 (by decide) rfl (in_61 hS) hinX9 (by decide) fl_X9_362 rfl rfl dX9_tellsIt_30 ?_
    refine g_iconst C (v := 4) dX9_tellsIt_33 rfl ?_
    refine g_icmp_ne (tgt := 51) C dX9_tellsIt_34 (by decide) hf (fun hf => ?_) (fun hf => ?_)
    · refine g_aload_n C dX9_tellsIt_51 rfl 0 rfl ?_
      refine g_get C (R := RX9) (T := TX9) (N := 48) (k := 38) (v := .int (rI s 61 38)) kd_61 (by decide) rfl (in_61 hS) hinX9 (by decide) fl_X9_362 rfl rfl dX9_tellsIt_52 ?_
      refine g_bipush C (v := 6) dX9_tellsIt_55 (by decide) ?_
      refine g_icmp_ne (tgt := 83) C dX9_tellsIt_57 (by decide) hf (fun hf => ?_) (fun hf => ?_)
      · refine g_aload_n C dX9_tellsIt_83 rfl 0 rfl ?_
        refine g_iload_n C dX9_tellsIt_84 rfl 1 rfl ?_
        refine g_callVI C (R := RX9) (T := TX9) (N := 48) [.int a1] (fun _ _ h => c_X9_paperTells (kl x) N w hS _ h) (g_cwV C hR ml_X9_390 im_X9_paperTells sl_X9_paperTells ini_X9 cd_X9_paperTells hd_X9_paperTells (by decide)) kd_61 (by decide) rfl (in_61 hS) rfl _ rfl (Nat.le_of_ble_eq_true rfl) dX9_tellsIt_85 hf (fun r1 s1 hf => ?_)
        exact g_iret C dX9_tellsIt_88 hf
      · refine g_aload_n C dX9_tellsIt_60 rfl 0 rfl ?_
        refine g_bipush C (v := 61) dX9_tellsIt_61 (by decide) ?_
        refine g_callVV C (R := RX9) (T := TX9) (N := 48) [.int 61] (fun _ h => c_X9_ran (kl x) N w hS _ h) (g_cwV C hR ml_X9_365 im_X9_ran sl_X9_ran ini_X9 cd_X9_ran hd_X9_ran (by decide)) kd_61 (by decide) rfl (in_61 hS) rfl _ rfl (Nat.le_of_ble_eq_true rfl) dX9_tellsIt_63 hf (fun s2 hf => ?_)
        refine g_aload_n C dX9_tellsIt_66 rfl 0 rfl ?_
        refine g_iload_n C dX9_tellsIt_67 rfl 1 rfl ?_
        refine g_callVI C (R := RX9) (T := TX9) (N := 48) [.int a1] (fun _ _ h => c_X9_paperTells (kl x) N w hS _ h) (g_cwV C hR ml_X9_390 im_X9_paperTells sl_X9_paperTells ini_X9 cd_X9_paperTells hd_X9_paperTells (by decide)) kd_61 (by decide) rfl (in_61 hS) rfl _ rfl (Nat.le_of_ble_eq_true rfl) dX9_tellsIt_68 hf (fun r3 s3 hf => ?_)
        refine g_istore_n (lv' := [(2, .int r3), (0, .ref (ad w 61)), (1, .int a1)]) C dX9_tellsIt_71 rfl (by decide) rfl ?_
        refine g_iload_n C dX9_tellsIt_72 rfl 0 rfl ?_
        refine g_aload_n C dX9_tellsIt_73 rfl 1 rfl ?_
        refine g_aload_n C dX9_tellsIt_74 rfl 1 rfl ?_
        refine g_get C (R := RX9) (T := TX9) (N := 48) (k := 39) (v := .int (rI s3 61 39)) kd_61 (by decide) rfl (in_61 hS) hinX9 (by decide) fl_X9_377 rfl rfl dX9_tellsIt_75 ?_
        refine g_callVI C (R := RX9) (T := TX9) (N := 48) [.int (rI s3 61 39)] (fun _ _ h => c_X9_fitsIt (kl x) N w hS _ h) (g_cwV C hR ml_X9_393 im_X9_fitsIt sl_X9_fitsIt ini_X9 cd_X9_fitsIt hd_X9_fitsIt (by decide)) kd_61 (by decide) rfl (in_61 hS) rfl _ rfl (Nat.le_of_ble_eq_true rfl) dX9_tellsIt_78 hf (fun r4 s4 hf => ?_)
        refine g_iadd C dX9_tellsIt_81 ?_
        exact g_iret C dX9_tellsIt_82 hf
    · refine g_aload_n C dX9_tellsIt_37 rfl 0 rfl ?_
      refine g_bipush C (v := 40) dX9_tellsIt_38 (by decide) ?_
      refine g_callVV C (R := RX9) (T := TX9) (N := 48) [.int 40] (fun _ h => c_X9_ran (kl x) N w hS _ h) (g_cwV C hR ml_X9_365 im_X9_ran sl_X9_ran ini_X9 cd_X9_ran hd_X9_ran (by decide)) kd_61 (by decide) rfl (in_61 hS) rfl _ rfl (Nat.le_of_ble_eq_true rfl) dX9_tellsIt_40 hf (fun s5 hf => ?_)
      refine g_aload_n C dX9_tellsIt_43 rfl 0 rfl ?_
      refine g_iload_n C dX9_tellsIt_44 rfl 1 rfl ?_
      refine g_callVI C (R := RX9) (T := TX9) (N := 48) [.int a1] (fun _ _ h => c_X9_paperTells (kl x) N w hS _ h) (g_cwV C hR ml_X9_390 im_X9_paperTells sl_X9_paperTells ini_X9 cd_X9_paperTells hd_X9_paperTells (by decide)) kd_61 (by decide) rfl (in_61 hS) rfl _ rfl (Nat.le_of_ble_eq_true rfl) dX9_tellsIt_45 hf (fun r6 s6 hf => ?_)
      refine g_iconst C (v := 3) dX9_tellsIt_48 rfl ?_
      refine g_imul C dX9_tellsIt_49 ?_
      exact g_iret C dX9_tellsIt_50 hf
  · refine g_aload_n C dX9_tellsIt_9 rfl 0 rfl ?_
    refine g_bipush C (v := 83) dX9_tellsIt_10 (by decide) ?_
    refine g_callVV C (R := RX9) (T := TX9) (N := 48) [.int 83] (fun _ h => c_X9_ran (kl x) N w hS _ h) (g_cwV C hR ml_X9_365 im_X9_ran sl_X9_ran ini_X9 cd_X9_ran hd_X9_ran (by decide)) kd_61 (by decide) rfl (in_61 hS) rfl _ rfl (Nat.le_of_ble_eq_true rfl) dX9_tellsIt_12 hf (fun s7 hf => ?_)
    refine g_aload_n C dX9_tellsIt_15 rfl 0 rfl ?_
    refine g_iload_n C dX9_tellsIt_16 rfl 1 rfl ?_
    refine g_callVI C (R := RX9) (T := TX9) (N := 48) [.int a1] (fun _ _ h => c_X9_saysIt (kl x) N w hS _ h) (g_cwV C hR ml_X9_371 im_X9_saysIt sl_X9_saysIt ini_X9 cd_X9_saysIt hd_X9_saysIt (by decide)) kd_61 (by decide) rfl (in_61 hS) rfl _ rfl (Nat.le_of_ble_eq_true rfl) dX9_tellsIt_17 hf (fun r8 s8 hf => ?_)
    refine g_istore_n (lv' := [(2, .int r8), (0, .ref (ad w 61)), (1, .int a1)]) C dX9_tellsIt_20 rfl (by decide) rfl ?_
    refine g_iload_n C dX9_tellsIt_21 rfl 0 rfl ?_
    refine g_aload_n C dX9_tellsIt_22 rfl 1 rfl ?_
    refine g_iload_n C dX9_tellsIt_23 rfl 2 rfl ?_
    refine g_callVI C (R := RX9) (T := TX9) (N := 48) [.int a1] (fun _ _ h => c_X9_leansIt (kl x) N w hS _ h) (g_cwV C hR ml_X9_387 im_X9_leansIt sl_X9_leansIt ini_X9 cd_X9_leansIt hd_X9_leansIt (by decide)) kd_61 (by decide) rfl (in_61 hS) rfl _ rfl (Nat.le_of_ble_eq_true rfl) dX9_tellsIt_24 hf (fun r9 s9 hf => ?_)
    refine g_iadd C dX9_tellsIt_27 ?_
    exact g_iret C dX9_tellsIt_28 hf

set_option maxHeartbeats 4000000 in
set_option maxRecDepth 100000 in
theorem c_X9_act (l : Launch) (N : Nat) (w : WX) (hS : SS w = Sm) (a1 : Int32) (a2 : Int32) (a3 : Int32) {s s' : Mem} {r : Int32} (hf : f_X9_act N a1 a2 a3 s = some (r, s')) : CI l yX9_act (wz yX9_act cX9_act 5 (some .int)) ({ frames := 7, cells := 0, slots := 0, locals := 151 } : Room) [.ref (ad w 61), .int a1, .int a2, .int a3] w s r s' := by
  refine met_startI (cc := cX9_act) (ret := (some .int)) (own := RX9) (maxL := 5) (by decide) rfl (Nat.le_of_ble_eq_true rfl) (fun x C hR hl => ?_)
  have j142 : ∀ (p0 : Int32) (s : Mem), f_X9_act_j142 N p0 s = some (r, s') → G x (QI x w r s') 5 w 142 [(0, .ref (ad w 61))] [.int p0] s := by
    intro p0 s hf
    unfold f_X9_act_j142 at hf
    refine g_istore (lv' := [(4, .int p0), (0, .ref (ad w 61))]) C dX9_act_142 (by decide) rfl ?_
    refine g_aload_n C dX9_act_144 rfl 1 rfl ?_
    refine g_get C (R := RX9) (T := TX9) (N := 48) (k := 43) (v := .int (rI s 61 43)) kd_61 (by decide) rfl (in_61 hS) hinX9 (by decide) fl_X9_383 rfl rfl dX9_act_145 ?_
    refine g_if_eq (tgt := 156) C dX9_act_148 (by decide) hf (fun hf => ?_) (fun hf => ?_)
    · refine g_iload C dX9_act_156 0 rfl ?_
      exact g_iret C dX9_act_158 hf
    · refine g_bipush C (v := (-15)) dX9_act_151 (by decide) ?_
      refine g_goto (tgt := 158) C dX9_act_153 (by decide) ?_
      exact g_iret C dX9_act_158 hf
  have j91 : ∀ (v2 : Int32) (v3 : Int32) (p0 : Int32) (s : Mem), f_X9_act_j91 N v2 v3 p0 s = some (r, s') → G x (QI x w r s') 5 w 91 [(0, .ref (ad w 61)), (2, .int v2), (3, .int v3)] [.int p0, .ref (ad w 61)] s := by
    intro v2 v3 p0 s hf
    unfold f_X9_act_j91 at hf
    refine g_putI C (R := RX9) (T := TX9) (N := 48) (k := 40) (ty := .int) tyX9 tyX9_ok nmX9 kd_61 (by decide) rfl (in_61 hS) hinX9 (by decide) fl_X9_368 rfl rfl rfl rfl rfl (Nat.le_of_ble_eq_true rfl) fs_9_40 dX9_act_91 ?_
    refine g_nameS hf (fun s1 hf => ?_)
    refine g_aload_n C dX9_act_94 rfl 0 rfl ?_
    refine g_iconst C (v := 0) dX9_act_95 rfl ?_
    refine g_putI C (R := RX9) (T := TX9) (N := 48) (k := 43) (ty := .boolean) tyX9 tyX9_ok nmX9 kd_61 (by decide) rfl (in_61 hS) hinX9 (by decide) fl_X9_383 rfl rfl rfl rfl rfl (Nat.le_of_ble_eq_true rfl) fs_9_43 dX9_act_96 ?_
    refine g_nameS hf (fun s2 hf => ?_)
    refine g_iload_n C dX9_act_99 rfl 1 rfl ?_
    refine g_if_ne (tgt := 111) C dX9_act_100 (by decide) hf (fun hf => ?_) (fun hf => ?_)
    · refine g_iload_n C dX9_act_111 rfl 1 rfl ?_
      refine g_iconst C (v := 1) dX9_act_112 rfl ?_
      refine g_icmp_ne (tgt := 124) C dX9_act_113 (by decide) hf (fun hf => ?_) (fun hf => ?_)
      · refine g_iload_n C dX9_act_124 rfl 1 rfl ?_
        refine g_iconst C (v := 2) dX9_act_125 rfl ?_
        refine g_icmp_ne (tgt := 137) C dX9_act_126 (by decide) hf (fun hf => ?_) (fun hf => ?_)
        · refine g_aload_n C dX9_act_137 rfl 0 rfl ?_
          refine g_iload_n C dX9_act_138 rfl 2 rfl ?_
          refine g_callVI C (R := RX9) (T := TX9) (N := 48) [.int v3] (fun _ _ h => c_X9_tellsIt (kl x) N w hS _ h) (g_cwV C hR ml_X9_396 im_X9_tellsIt sl_X9_tellsIt ini_X9 cd_X9_tellsIt hd_X9_tellsIt (by decide)) kd_61 (by decide) rfl (in_61 hS) rfl _ rfl (Nat.le_of_ble_eq_true rfl) dX9_act_139 hf (fun r3 s3 hf => ?_)
          refine g_sub [0] rfl ?_
          exact j142 _ _ hf
        · refine g_aload_n C dX9_act_129 rfl 0 rfl ?_
          refine g_iload_n C dX9_act_130 rfl 2 rfl ?_
          refine g_callVI C (R := RX9) (T := TX9) (N := 48) [.int v3] (fun _ _ h => c_X9_fitsIt (kl x) N w hS _ h) (g_cwV C hR ml_X9_393 im_X9_fitsIt sl_X9_fitsIt ini_X9 cd_X9_fitsIt hd_X9_fitsIt (by decide)) kd_61 (by decide) rfl (in_61 hS) rfl _ rfl (Nat.le_of_ble_eq_true rfl) dX9_act_131 hf (fun r4 s4 hf => ?_)
          refine g_goto (tgt := 142) C dX9_act_134 (by decide) ?_
          refine g_sub [0] rfl ?_
          exact j142 _ _ hf
      · refine g_aload_n C dX9_act_116 rfl 0 rfl ?_
        refine g_iload_n C dX9_act_117 rfl 2 rfl ?_
        refine g_callVI C (R := RX9) (T := TX9) (N := 48) [.int v3] (fun _ _ h => c_X9_leansIt (kl x) N w hS _ h) (g_cwV C hR ml_X9_387 im_X9_leansIt sl_X9_leansIt ini_X9 cd_X9_leansIt hd_X9_leansIt (by decide)) kd_61 (by decide) rfl (in_61 hS) rfl _ rfl (Nat.le_of_ble_eq_true rfl) dX9_act_118 hf (fun r5 s5 hf => ?_)
        refine g_goto (tgt := 142) C dX9_act_121 (by decide) ?_
        refine g_sub [0] rfl ?_
        exact j142 _ _ hf
    · refine g_aload_n C dX9_act_103 rfl 0 rfl ?_
      refine g_iload_n C dX9_act_104 rfl 2 rfl ?_
      refine g_callVI C (R := RX9) (T := TX9) (N := 48) [.int v3] (fun _ _ h => c_X9_saysIt (kl x) N w hS _ h) (g_cwV C hR ml_X9_371 im_X9_saysIt sl_X9_saysIt ini_X9 cd_X9_saysIt hd_X9_saysIt (by decide)) kd_61 (by decide) rfl (in_61 hS) rfl _ rfl (Nat.le_of_ble_eq_true rfl) dX9_act_105 hf (fun r6 s6 hf => ?_)
      refine g_goto (tgt := 142) C dX9_act_108 (by decide) ?_
      refine g_sub [0] rfl ?_
      exact j142 _ _ hf
  refine g_lv (lv' := [(0, .ref (ad w 61)), (1, .int a1), (2, .int a2), (3, .int a3)]) rfl ?_
  unfold f_X9_act at hf
  refine g_aload_n C dX9_act_0 rfl 0 rfl ?_
  refine g_iconst C (v := 0) dX9_act_1 rfl ?_
  refine g_putI C (R := RX9) (T := TX9) (N := 48) (k := 42) (ty := .int) tyX9 tyX9_ok nmX9 kd_61 (by decide) rfl (in_61 hS) hinX9 (by decide) fl_X9_359 rfl rfl rfl rfl rfl (Nat.le_of_ble_eq_true rfl) fs_9_42 dX9_act_2 ?_
  refine g_nameS hf (fun s1 hf => ?_)
  refine g_iload_n C dX9_act_5 rfl 1 rfl ?_
  refine g_callSB C [.int a1] (fun _ _ h => c_X9_isShelf (kl x) N w _ h) (g_cwS C hR ml_X9_125 sm_X9_isShelf ini_X9 cd_X9_isShelf hd_X9_isShelf (by decide)) rfl _ rfl (Nat.le_of_ble_eq_true rfl) dX9_act_6 hf (fun r2 s2 hf => ?_)
  refine g_ifeqB (tgt := 35) C dX9_act_9 (by decide) hf (fun hf => ?_) (fun hf => ?_)
  · refine g_iconst C (v := 0) dX9_act_35 rfl ?_
    exact g_iret C dX9_act_36 hf
  · refine g_iload_n C dX9_act_12 rfl 2 rfl ?_
    refine g_iconst C (v := 0) dX9_act_13 rfl ?_
    refine g_iconst C (v := 3) dX9_act_14 rfl ?_
    refine g_callSB C [.int a2, .int 0, .int 3] (fun _ _ h => c_X9_in (kl x) N w _ _ _ h) (g_cwS C hR ml_X9_93 sm_X9_in ini_X9 cd_X9_in hd_X9_in (by decide)) rfl _ rfl (Nat.le_of_ble_eq_true rfl) dX9_act_15 hf (fun r3 s3 hf => ?_)
    refine g_ifeqB (tgt := 35) C dX9_act_18 (by decide) hf (fun hf => ?_) (fun hf => ?_)
    · refine g_iconst C (v := 0) dX9_act_35 rfl ?_
      exact g_iret C dX9_act_36 hf
    · refine g_aload_n C dX9_act_21 rfl 0 rfl ?_
      refine g_iload_n C dX9_act_22 rfl 1 rfl ?_
      refine g_callVI C (R := RX9) (T := TX9) (N := 48) [.int a1] (fun _ _ h => c_X9_kindOn (kl x) N w hS _ h) (g_cwV C hR ml_X9_353 im_X9_kindOn sl_X9_kindOn ini_X9 cd_X9_kindOn hd_X9_kindOn (by decide)) kd_61 (by decide) rfl (in_61 hS) rfl _ rfl (Nat.le_of_ble_eq_true rfl) dX9_act_23 hf (fun r4 s4 hf => ?_)
      refine g_iconst C (v := 1) dX9_act_26 rfl ?_
      refine g_bipush C (v := 8) dX9_act_27 (by decide) ?_
      refine g_callSB C [.int r4, .int 1, .int 8] (fun _ _ h => c_X9_in (kl x) N w _ _ _ h) (g_cwS C hR ml_X9_93 sm_X9_in ini_X9 cd_X9_in hd_X9_in (by decide)) rfl _ rfl (Nat.le_of_ble_eq_true rfl) dX9_act_29 hf (fun r5 s5 hf => ?_)
      refine g_ifneB (tgt := 37) C dX9_act_32 (by decide) hf (fun hf => ?_) (fun hf => ?_)
      · refine g_aload_n C dX9_act_37 rfl 0 rfl ?_
        refine g_aload_n C dX9_act_38 rfl 0 rfl ?_
        refine g_iload_n C dX9_act_39 rfl 1 rfl ?_
        refine g_callVI C (R := RX9) (T := TX9) (N := 48) [.int a1] (fun _ _ h => c_X9_kindOn (kl x) N w hS _ h) (g_cwV C hR ml_X9_353 im_X9_kindOn sl_X9_kindOn ini_X9 cd_X9_kindOn hd_X9_kindOn (by decide)) kd_61 (by decide) rfl (in_61 hS) rfl _ rfl (Nat.le_of_ble_eq_true rfl) dX9_act_40 hf (fun r6 s6 hf => ?_)
        refine g_putI C (R := RX9) (T := TX9) (N := 48) (k := 38) (ty := .int) tyX9 tyX9_ok nmX9 kd_61 (by decide) rfl (in_61 hS) hinX9 (by decide) fl_X9_362 rfl rfl rfl rfl rfl (Nat.le_of_ble_eq_true rfl) fs_9_38 dX9_act_43 ?_
        refine g_nameS hf (fun s7 hf => ?_)
        refine g_aload_n C dX9_act_46 rfl 0 rfl ?_
        refine g_aload_n C dX9_act_47 rfl 0 rfl ?_
        refine g_get C (R := RX9) (T := TX9) (N := 48) (k := 36) (v := .ref (ad w 83)) kd_61 (by decide) rfl (in_61 hS) hinX9 (by decide) fl_X9_74 rfl rfl dX9_act_48 ?_
        refine g_iload_n C dX9_act_51 rfl 1 rfl ?_
        refine g_iald C kd_83 ln_83 (in_83 hS) dX9_act_52 hf (fun hf => ?_)
        refine g_putI C (R := RX9) (T := TX9) (N := 48) (k := 39) (ty := .int) tyX9 tyX9_ok nmX9 kd_61 (by decide) rfl (in_61 hS) hinX9 (by decide) fl_X9_377 rfl rfl rfl rfl rfl (Nat.le_of_ble_eq_true rfl) fs_9_39 dX9_act_53 ?_
        refine g_nameS hf (fun s8 hf => ?_)
        refine g_aload_n C dX9_act_56 rfl 0 rfl ?_
        refine g_aload_n C dX9_act_57 rfl 0 rfl ?_
        refine g_get C (R := RX9) (T := TX9) (N := 48) (k := 38) (v := .int (rI s8 61 38)) kd_61 (by decide) rfl (in_61 hS) hinX9 (by decide) fl_X9_362 rfl rfl dX9_act_58 ?_
        refine g_bipush C (v := 8) dX9_act_61 (by decide) ?_
        refine g_icmp_ne (tgt := 77) C dX9_act_63 (by decide) hf (fun hf => ?_) (fun hf => ?_)
        · refine g_aload_n C dX9_act_77 rfl 0 rfl ?_
          refine g_get C (R := RX9) (T := TX9) (N := 48) (k := 3) (v := .ref (ad w 63)) kd_61 (by decide) rfl (in_61 hS) hinX9 (by decide) fl_X9_13 rfl rfl dX9_act_78 ?_
          refine g_bipush C (v := 6) dX9_act_81 (by decide) ?_
          refine g_aload_n C dX9_act_83 rfl 0 rfl ?_
          refine g_get C (R := RX9) (T := TX9) (N := 48) (k := 39) (v := .int (rI s8 61 39)) kd_61 (by decide) rfl (in_61 hS) hinX9 (by decide) fl_X9_377 rfl rfl dX9_act_84 ?_
          refine g_imul C dX9_act_87 ?_
          refine g_iconst C (v := 3) dX9_act_88 rfl ?_
          refine g_iadd C dX9_act_89 ?_
          refine g_iald C kd_63 ln_63 (in_63 hS) dX9_act_90 hf (fun hf => ?_)
          refine g_sub [0, 2, 3] rfl ?_
          exact j91 _ _ _ _ hf
        · refine g_aload_n C dX9_act_66 rfl 0 rfl ?_
          refine g_aload_n C dX9_act_67 rfl 0 rfl ?_
          refine g_get C (R := RX9) (T := TX9) (N := 48) (k := 39) (v := .int (rI s8 61 39)) kd_61 (by decide) rfl (in_61 hS) hinX9 (by decide) fl_X9_377 rfl rfl dX9_act_68 ?_
          refine g_callVI C (R := RX9) (T := TX9) (N := 48) [.int (rI s8 61 39)] (fun _ _ h => c_X9_seenOf (kl x) N w hS _ h) (g_cwV C hR ml_X9_104 im_X9_seenOf sl_X9_seenOf ini_X9 cd_X9_seenOf hd_X9_seenOf (by decide)) kd_61 (by decide) rfl (in_61 hS) rfl _ rfl (Nat.le_of_ble_eq_true rfl) dX9_act_71 hf (fun r9 s9 hf => ?_)
          refine g_goto (tgt := 91) C dX9_act_74 (by decide) ?_
          refine g_sub [0, 2, 3] rfl ?_
          exact j91 _ _ _ _ hf
      · refine g_iconst C (v := 0) dX9_act_35 rfl ?_
        exact g_iret C dX9_act_36 hf

set_option maxHeartbeats 4000000 in
set_option maxRecDepth 100000 in
theorem c_X9_trace (l : Launch) (N : Nat) (w : WX) (hS : SS w = Sm) (a1 : Int32) {s s' : Mem} {r : Int32} (hf : f_X9_trace N a1 s = some (r, s')) : CI l yX9_trace (wz yX9_trace cX9_trace 2 (some .int)) ({ frames := 1, cells := 0, slots := 0, locals := 22 } : Room) [.ref (ad w 61), .int a1] w s r s' := by
  refine met_startI (cc := cX9_trace) (ret := (some .int)) (own := RX9) (maxL := 2) (by decide) rfl (Nat.le_of_ble_eq_true rfl) (fun x C hR hl => ?_)
  refine g_lv (lv' := [(0, .ref (ad w 61)), (1, .int a1)]) rfl ?_
  unfold f_X9_trace at hf
  refine g_iload_n C dX9_trace_0 rfl 1 rfl ?_
  refine g_iconst C (v := 0) dX9_trace_1 rfl ?_
  refine g_aload_n C dX9_trace_2 rfl 0 rfl ?_
  refine g_get C (R := RX9) (T := TX9) (N := 48) (k := 42) (v := .int (rI s 61 42)) kd_61 (by decide) rfl (in_61 hS) hinX9 (by decide) fl_X9_359 rfl rfl dX9_trace_3 ?_
  refine g_iconst C (v := 1) dX9_trace_6 rfl ?_
  refine g_isub C dX9_trace_7 ?_
  refine g_callSB C [.int a1, .int 0, .int ((rI s 61 42) - 1)] (fun _ _ h => c_X9_in (kl x) N w _ _ _ h) (g_cwS C hR ml_X9_93 sm_X9_in ini_X9 cd_X9_in hd_X9_in (by decide)) rfl _ rfl (Nat.le_of_ble_eq_true rfl) dX9_trace_8 hf (fun r1 s1 hf => ?_)
  refine g_ifeqB (tgt := 23) C dX9_trace_11 (by decide) hf (fun hf => ?_) (fun hf => ?_)
  · refine g_bipush C (v := (-3)) dX9_trace_23 (by decide) ?_
    exact g_iret C dX9_trace_25 hf
  · refine g_aload_n C dX9_trace_14 rfl 0 rfl ?_
    refine g_get C (R := RX9) (T := TX9) (N := 48) (k := 41) (v := .ref (ad w 85)) kd_61 (by decide) rfl (in_61 hS) hinX9 (by decide) fl_X9_80 rfl rfl dX9_trace_15 ?_
    refine g_iload_n C dX9_trace_18 rfl 1 rfl ?_
    refine g_iald C kd_85 ln_85 (in_85 hS) dX9_trace_19 hf (fun hf => ?_)
    refine g_goto (tgt := 25) C dX9_trace_20 (by decide) ?_
    exact g_iret C dX9_trace_25 hf

set_option maxHeartbeats 4000000 in
set_option maxRecDepth 100000 in
theorem c_X9_many (l : Launch) (N : Nat) (w : WX) (hS : SS w = Sm) (a1 : Int32) {s s' : Mem} {r : Int32} (hf : f_X9_many N a1 s = some (r, s')) : CI l yX9_many (wz yX9_many cX9_many 2 (some .int)) ({ frames := 1, cells := 0, slots := 0, locals := 22 } : Room) [.ref (ad w 61), .int a1] w s r s' := by
  refine met_startI (cc := cX9_many) (ret := (some .int)) (own := RX9) (maxL := 2) (by decide) rfl (Nat.le_of_ble_eq_true rfl) (fun x C hR hl => ?_)
  refine g_lv (lv' := [(0, .ref (ad w 61)), (1, .int a1)]) rfl ?_
  unfold f_X9_many at hf
  refine g_iload_n C dX9_many_0 rfl 1 rfl ?_
  rcases ite_some hf with ⟨e0, hf⟩ | ⟨n0, hf⟩
  · refine g_tabIn (k := 0) (tgt := 56) C dX9_many_1 e0 (by decide) (by decide) rfl (by decide) ?_
    refine g_aload_n C dX9_many_56 rfl 0 rfl ?_
    refine g_get C (R := RX9) (T := TX9) (N := 48) (k := 0) (v := .int (rI s 61 0)) kd_61 (by decide) rfl (in_61 hS) hinX9 (by decide) fl_X9_89 rfl rfl dX9_many_57 ?_
    exact g_iret C dX9_many_60 hf
  rcases ite_some hf with ⟨e1, hf⟩ | ⟨n1, hf⟩
  · refine g_tabIn (k := 1) (tgt := 61) C dX9_many_1 e1 (by decide) (by decide) rfl (by decide) ?_
    refine g_aload_n C dX9_many_61 rfl 0 rfl ?_
    refine g_get C (R := RX9) (T := TX9) (N := 48) (k := 2) (v := .int (rI s 61 2)) kd_61 (by decide) rfl (in_61 hS) hinX9 (by decide) fl_X9_97 rfl rfl dX9_many_62 ?_
    exact g_iret C dX9_many_65 hf
  rcases ite_some hf with ⟨e2, hf⟩ | ⟨n2, hf⟩
  · refine g_tabIn (k := 2) (tgt := 66) C dX9_many_1 e2 (by decide) (by decide) rfl (by decide) ?_
    refine g_aload_n C dX9_many_66 rfl 0 rfl ?_
    refine g_get C (R := RX9) (T := TX9) (N := 48) (k := 11) (v := .int (rI s 61 11)) kd_61 (by decide) rfl (in_61 hS) hinX9 (by decide) fl_X9_301 rfl rfl dX9_many_67 ?_
    exact g_iret C dX9_many_70 hf
  rcases ite_some hf with ⟨e3, hf⟩ | ⟨n3, hf⟩
  · refine g_tabIn (k := 3) (tgt := 71) C dX9_many_1 e3 (by decide) (by decide) rfl (by decide) ?_
    refine g_aload_n C dX9_many_71 rfl 0 rfl ?_
    refine g_get C (R := RX9) (T := TX9) (N := 48) (k := 5) (v := .int (rI s 61 5)) kd_61 (by decide) rfl (in_61 hS) hinX9 (by decide) fl_X9_177 rfl rfl dX9_many_72 ?_
    exact g_iret C dX9_many_75 hf
  rcases ite_some hf with ⟨e4, hf⟩ | ⟨n4, hf⟩
  · refine g_tabIn (k := 4) (tgt := 76) C dX9_many_1 e4 (by decide) (by decide) rfl (by decide) ?_
    refine g_aload_n C dX9_many_76 rfl 0 rfl ?_
    refine g_get C (R := RX9) (T := TX9) (N := 48) (k := 7) (v := .int (rI s 61 7)) kd_61 (by decide) rfl (in_61 hS) hinX9 (by decide) fl_X9_329 rfl rfl dX9_many_77 ?_
    exact g_iret C dX9_many_80 hf
  rcases ite_some hf with ⟨e5, hf⟩ | ⟨n5, hf⟩
  · refine g_tabIn (k := 5) (tgt := 81) C dX9_many_1 e5 (by decide) (by decide) rfl (by decide) ?_
    refine g_aload_n C dX9_many_81 rfl 0 rfl ?_
    refine g_get C (R := RX9) (T := TX9) (N := 48) (k := 9) (v := .int (rI s 61 9)) kd_61 (by decide) rfl (in_61 hS) hinX9 (by decide) fl_X9_133 rfl rfl dX9_many_82 ?_
    exact g_iret C dX9_many_85 hf
  rcases ite_some hf with ⟨e6, hf⟩ | ⟨n6, hf⟩
  · refine g_tabIn (k := 6) (tgt := 86) C dX9_many_1 e6 (by decide) (by decide) rfl (by decide) ?_
    refine g_aload_n C dX9_many_86 rfl 0 rfl ?_
    refine g_callVI C (R := RX9) (T := TX9) (N := 48) [] (fun _ _ h => c_X9_answered (kl x) N w hS h) (g_cwV C hR ml_X9_335 im_X9_answered sl_X9_answered ini_X9 cd_X9_answered hd_X9_answered (by decide)) kd_61 (by decide) rfl (in_61 hS) rfl _ rfl (Nat.le_of_ble_eq_true rfl) dX9_many_87 hf (fun r1 s1 hf => ?_)
    exact g_iret C dX9_many_90 hf
  rcases ite_some hf with ⟨e7, hf⟩ | ⟨n7, hf⟩
  · refine g_tabIn (k := 7) (tgt := 91) C dX9_many_1 e7 (by decide) (by decide) rfl (by decide) ?_
    refine g_aload_n C dX9_many_91 rfl 0 rfl ?_
    refine g_get C (R := RX9) (T := TX9) (N := 48) (k := 31) (v := .int (rI s 61 31)) kd_61 (by decide) rfl (in_61 hS) hinX9 (by decide) fl_X9_338 rfl rfl dX9_many_92 ?_
    exact g_iret C dX9_many_95 hf
  rcases ite_some hf with ⟨e8, hf⟩ | ⟨n8, hf⟩
  · refine g_tabIn (k := 8) (tgt := 96) C dX9_many_1 e8 (by decide) (by decide) rfl (by decide) ?_
    refine g_aload_n C dX9_many_96 rfl 0 rfl ?_
    refine g_get C (R := RX9) (T := TX9) (N := 48) (k := 17) (v := .int (rI s 61 17)) kd_61 (by decide) rfl (in_61 hS) hinX9 (by decide) fl_X9_190 rfl rfl dX9_many_97 ?_
    exact g_iret C dX9_many_100 hf
  rcases ite_some hf with ⟨e9, hf⟩ | ⟨n9, hf⟩
  · refine g_tabIn (k := 9) (tgt := 101) C dX9_many_1 e9 (by decide) (by decide) rfl (by decide) ?_
    refine g_aload_n C dX9_many_101 rfl 0 rfl ?_
    refine g_get C (R := RX9) (T := TX9) (N := 48) (k := 42) (v := .int (rI s 61 42)) kd_61 (by decide) rfl (in_61 hS) hinX9 (by decide) fl_X9_359 rfl rfl dX9_many_102 ?_
    exact g_iret C dX9_many_105 hf
  refine g_tabOut (tgt := 106) C dX9_many_1 (by have z0 := lv_neT n0 (a := 0) (by decide); have z1 := lv_neT n1 (a := 1) (by decide); have z2 := lv_neT n2 (a := 2) (by decide); have z3 := lv_neT n3 (a := 3) (by decide); have z4 := lv_neT n4 (a := 4) (by decide); have z5 := lv_neT n5 (a := 5) (by decide); have z6 := lv_neT n6 (a := 6) (by decide); have z7 := lv_neT n7 (a := 7) (by decide); have z8 := lv_neT n8 (a := 8) (by decide); have z9 := lv_neT n9 (a := 9) (by decide); omega) (by decide) ?_
  refine g_iconst C (v := (-1)) dX9_many_106 rfl ?_
  exact g_iret C dX9_many_107 hf

set_option maxHeartbeats 4000000 in
set_option maxRecDepth 100000 in
theorem c_X9_move (l : Launch) (N : Nat) (w : WX) (hS : SS w = Sm) {ar : Nat} (h_ar : ar ∈ SS w ∧ kd ar = 20) (a2 : Int32) (a3 : Bool) {s s' : Mem} (hf : f_X9_move N ar a2 a3 s = some ((), s')) : CV l yX9_move (wz yX9_move cX9_move 5 none) ({ frames := 0, cells := 0, slots := 0, locals := 0 } : Room) [.ref (ad w 61), .ref (ad w ar), .int a2, .int (bI a3)] w s s' := by
  refine met_startV (cc := cX9_move) (ret := none) (own := RX9) (maxL := 5) (by decide) rfl (Nat.le_of_ble_eq_true rfl) (fun x C hR hl => ?_)
  have j42 : ∀ (k3 : Int32 → Bool → Int32 → Mem → Option (Unit × Mem)), (∀ (v2 : Int32) (v3 : Bool) (v4 : Int32) (s : Mem), k3 v2 v3 v4 s = some ((), s') → G x (QV x w s') 5 w 3 [(0, .ref (ad w 61)), (1, .ref (ad w ar)), (2, .int v2), (3, .int (bI v3)), (4, .int v4)] [] s) → ∀ (v2 : Int32) (v3 : Bool) (v4 : Int32) (s : Mem), f_X9_move_j42 N ar k3 v2 v3 v4 s = some ((), s') → G x (QV x w s') 5 w 42 [(0, .ref (ad w 61)), (1, .ref (ad w ar)), (2, .int v2), (3, .int (bI v3)), (4, .int v4)] [] s := by
    intro k3 q3 v2 v3 v4 s hf
    unfold f_X9_move_j42 at hf
    refine g_aload_n C dX9_move_42 rfl 0 rfl ?_
    refine g_dup C dX9_move_43 rfl ?_
    refine g_get C (R := RX9) (T := TX9) (N := 48) (k := 46) (v := .int (rI s 61 46)) kd_61 (by decide) rfl (in_61 hS) hinX9 (by decide) fl_X9_399 rfl rfl dX9_move_44 ?_
    refine g_iconst C (v := 1) dX9_move_47 rfl ?_
    refine g_iadd C dX9_move_48 ?_
    refine g_putI C (R := RX9) (T := TX9) (N := 48) (k := 46) (ty := .int) tyX9 tyX9_ok nmX9 kd_61 (by decide) rfl (in_61 hS) hinX9 (by decide) fl_X9_399 rfl rfl rfl rfl rfl (Nat.le_of_ble_eq_true rfl) fs_9_46 dX9_move_49 ?_
    refine g_nameS hf (fun s1 hf => ?_)
    refine g_iinc (v' := v4 + 1) (lv' := [(4, .int (v4 + 1)), (0, .ref (ad w 61)), (1, .ref (ad w ar)), (2, .int v2), (3, .int (bI v3))]) C dX9_move_52 4 rfl rfl (by decide) rfl ?_
    refine g_goto (tgt := 3) C dX9_move_55 (by decide) ?_
    refine g_sub [1, 2, 3, 4, 0] rfl ?_
    exact q3 _ _ _ _ hf
  have j3 : ∀ (n : Nat), ∀ (v2 : Int32) (v3 : Bool) (v4 : Int32) (s : Mem), f_X9_move_L3 N ar n v2 v3 v4 s = some ((), s') → G x (QV x w s') 5 w 3 [(0, .ref (ad w 61)), (1, .ref (ad w ar)), (2, .int v2), (3, .int (bI v3)), (4, .int v4)] [] s := by
    intro n
    induction n with
    | zero => intro v2 v3 v4 s hf; cases hf
    | succ n ih =>
      intro v2 v3 v4 s hf
      unfold f_X9_move_L3 at hf
      refine g_iload C dX9_move_3 4 rfl ?_
      refine g_iload_n C dX9_move_5 rfl 2 rfl ?_
      refine g_icmp_ge (tgt := 58) C dX9_move_6 (by decide) hf (fun hf => ?_) (fun hf => ?_)
      · exact g_vret C dX9_move_58 hf
      · refine g_iload_n C dX9_move_9 rfl 3 rfl ?_
        refine g_ifeqB (tgt := 29) C dX9_move_10 (by decide) hf (fun hf => ?_) (fun hf => ?_)
        · refine g_aload_n C dX9_move_29 rfl 1 rfl ?_
          refine g_iload C dX9_move_30 4 rfl ?_
          refine g_aload_n C dX9_move_32 rfl 0 rfl ?_
          refine g_get C (R := RX9) (T := TX9) (N := 48) (k := 45) (v := .ref (ad w 86)) kd_61 (by decide) rfl (in_61 hS) hinX9 (by decide) fl_X9_83 rfl rfl dX9_move_33 ?_
          refine g_aload_n C dX9_move_36 rfl 0 rfl ?_
          refine g_get C (R := RX9) (T := TX9) (N := 48) (k := 46) (v := .int (rI s 61 46)) kd_61 (by decide) rfl (in_61 hS) hinX9 (by decide) fl_X9_399 rfl rfl dX9_move_37 ?_
          refine g_iald C kd_86 ln_86 (in_86 hS) dX9_move_40 hf (fun hf => ?_)
          refine g_iast C h_ar.2 rfl h_ar.1 dX9_move_41 hf (fun hf => ?_)
          refine g_nameS hf (fun s1 hf => ?_)
          exact j42 (f_X9_move_L3 N ar n) ih _ _ _ _ hf
        · refine g_aload_n C dX9_move_13 rfl 0 rfl ?_
          refine g_get C (R := RX9) (T := TX9) (N := 48) (k := 45) (v := .ref (ad w 86)) kd_61 (by decide) rfl (in_61 hS) hinX9 (by decide) fl_X9_83 rfl rfl dX9_move_14 ?_
          refine g_aload_n C dX9_move_17 rfl 0 rfl ?_
          refine g_get C (R := RX9) (T := TX9) (N := 48) (k := 46) (v := .int (rI s 61 46)) kd_61 (by decide) rfl (in_61 hS) hinX9 (by decide) fl_X9_399 rfl rfl dX9_move_18 ?_
          refine g_aload_n C dX9_move_21 rfl 1 rfl ?_
          refine g_iload C dX9_move_22 4 rfl ?_
          refine g_iald C h_ar.2 rfl h_ar.1 dX9_move_24 hf (fun hf => ?_)
          refine g_iast C kd_86 ln_86 (in_86 hS) dX9_move_25 hf (fun hf => ?_)
          refine g_nameS hf (fun s2 hf => ?_)
          refine g_goto (tgt := 42) C dX9_move_26 (by decide) ?_
          exact j42 (f_X9_move_L3 N ar n) ih _ _ _ _ hf
  refine g_lv (lv' := [(0, .ref (ad w 61)), (1, .ref (ad w ar)), (2, .int a2), (3, .int (bI a3))]) rfl ?_
  unfold f_X9_move at hf
  refine g_iconst C (v := 0) dX9_move_0 rfl ?_
  refine g_istore (lv' := [(4, .int 0), (0, .ref (ad w 61)), (1, .ref (ad w ar)), (2, .int a2), (3, .int (bI a3))]) C dX9_move_1 (by decide) rfl ?_
  refine g_sub [1, 2, 3, 4, 0] rfl ?_
  exact j3 N _ _ _ _ hf

set_option maxHeartbeats 4000000 in
set_option maxRecDepth 100000 in
theorem c_X9_moveAll (l : Launch) (N : Nat) (w : WX) (hS : SS w = Sm) (a1 : Bool) {s s' : Mem} (hf : f_X9_moveAll N a1 s = some ((), s')) : CV l yX9_moveAll (wz yX9_moveAll cX9_moveAll 2 none) ({ frames := 1, cells := 0, slots := 0, locals := 24 } : Room) [.ref (ad w 61), .int (bI a1)] w s s' := by
  refine met_startV (cc := cX9_moveAll) (ret := none) (own := RX9) (maxL := 2) (by decide) rfl (Nat.le_of_ble_eq_true rfl) (fun x C hR hl => ?_)
  refine g_lv (lv' := [(0, .ref (ad w 61)), (1, .int (bI a1))]) rfl ?_
  unfold f_X9_moveAll at hf
  refine g_aload_n C dX9_moveAll_0 rfl 0 rfl ?_
  refine g_iconst C (v := 0) dX9_moveAll_1 rfl ?_
  refine g_putI C (R := RX9) (T := TX9) (N := 48) (k := 46) (ty := .int) tyX9 tyX9_ok nmX9 kd_61 (by decide) rfl (in_61 hS) hinX9 (by decide) fl_X9_399 rfl rfl rfl rfl rfl (Nat.le_of_ble_eq_true rfl) fs_9_46 dX9_moveAll_2 ?_
  refine g_nameS hf (fun s1 hf => ?_)
  refine g_aload_n C dX9_moveAll_5 rfl 0 rfl ?_
  refine g_get C (R := RX9) (T := TX9) (N := 48) (k := 47) (v := .ref (ad w 87)) kd_61 (by decide) rfl (in_61 hS) hinX9 (by decide) fl_X9_86 rfl rfl dX9_moveAll_6 ?_
  refine g_iconst C (v := 0) dX9_moveAll_9 rfl ?_
  refine g_aload_n C dX9_moveAll_10 rfl 0 rfl ?_
  refine g_get C (R := RX9) (T := TX9) (N := 48) (k := 0) (v := .int (rI s1 61 0)) kd_61 (by decide) rfl (in_61 hS) hinX9 (by decide) fl_X9_89 rfl rfl dX9_moveAll_11 ?_
  refine g_iast C kd_87 ln_87 (in_87 hS) dX9_moveAll_14 hf (fun hf => ?_)
  refine g_nameS hf (fun s2 hf => ?_)
  refine g_aload_n C dX9_moveAll_15 rfl 0 rfl ?_
  refine g_get C (R := RX9) (T := TX9) (N := 48) (k := 47) (v := .ref (ad w 87)) kd_61 (by decide) rfl (in_61 hS) hinX9 (by decide) fl_X9_86 rfl rfl dX9_moveAll_16 ?_
  refine g_iconst C (v := 1) dX9_moveAll_19 rfl ?_
  refine g_aload_n C dX9_moveAll_20 rfl 0 rfl ?_
  refine g_get C (R := RX9) (T := TX9) (N := 48) (k := 2) (v := .int (rI s2 61 2)) kd_61 (by decide) rfl (in_61 hS) hinX9 (by decide) fl_X9_97 rfl rfl dX9_moveAll_21 ?_
  refine g_iast C kd_87 ln_87 (in_87 hS) dX9_moveAll_24 hf (fun hf => ?_)
  refine g_nameS hf (fun s3 hf => ?_)
  refine g_aload_n C dX9_moveAll_25 rfl 0 rfl ?_
  refine g_get C (R := RX9) (T := TX9) (N := 48) (k := 47) (v := .ref (ad w 87)) kd_61 (by decide) rfl (in_61 hS) hinX9 (by decide) fl_X9_86 rfl rfl dX9_moveAll_26 ?_
  refine g_iconst C (v := 2) dX9_moveAll_29 rfl ?_
  refine g_aload_n C dX9_moveAll_30 rfl 0 rfl ?_
  refine g_get C (R := RX9) (T := TX9) (N := 48) (k := 5) (v := .int (rI s3 61 5)) kd_61 (by decide) rfl (in_61 hS) hinX9 (by decide) fl_X9_177 rfl rfl dX9_moveAll_31 ?_
  refine g_iast C kd_87 ln_87 (in_87 hS) dX9_moveAll_34 hf (fun hf => ?_)
  refine g_nameS hf (fun s4 hf => ?_)
  refine g_aload_n C dX9_moveAll_35 rfl 0 rfl ?_
  refine g_get C (R := RX9) (T := TX9) (N := 48) (k := 47) (v := .ref (ad w 87)) kd_61 (by decide) rfl (in_61 hS) hinX9 (by decide) fl_X9_86 rfl rfl dX9_moveAll_36 ?_
  refine g_iconst C (v := 3) dX9_moveAll_39 rfl ?_
  refine g_aload_n C dX9_moveAll_40 rfl 0 rfl ?_
  refine g_get C (R := RX9) (T := TX9) (N := 48) (k := 7) (v := .int (rI s4 61 7)) kd_61 (by decide) rfl (in_61 hS) hinX9 (by decide) fl_X9_329 rfl rfl dX9_moveAll_41 ?_
  refine g_iast C kd_87 ln_87 (in_87 hS) dX9_moveAll_44 hf (fun hf => ?_)
  refine g_nameS hf (fun s5 hf => ?_)
  refine g_aload_n C dX9_moveAll_45 rfl 0 rfl ?_
  refine g_get C (R := RX9) (T := TX9) (N := 48) (k := 47) (v := .ref (ad w 87)) kd_61 (by decide) rfl (in_61 hS) hinX9 (by decide) fl_X9_86 rfl rfl dX9_moveAll_46 ?_
  refine g_iconst C (v := 4) dX9_moveAll_49 rfl ?_
  refine g_aload_n C dX9_moveAll_50 rfl 0 rfl ?_
  refine g_get C (R := RX9) (T := TX9) (N := 48) (k := 9) (v := .int (rI s5 61 9)) kd_61 (by decide) rfl (in_61 hS) hinX9 (by decide) fl_X9_133 rfl rfl dX9_moveAll_51 ?_
  refine g_iast C kd_87 ln_87 (in_87 hS) dX9_moveAll_54 hf (fun hf => ?_)
  refine g_nameS hf (fun s6 hf => ?_)
  refine g_aload_n C dX9_moveAll_55 rfl 0 rfl ?_
  refine g_get C (R := RX9) (T := TX9) (N := 48) (k := 47) (v := .ref (ad w 87)) kd_61 (by decide) rfl (in_61 hS) hinX9 (by decide) fl_X9_86 rfl rfl dX9_moveAll_56 ?_
  refine g_iconst C (v := 5) dX9_moveAll_59 rfl ?_
  refine g_aload_n C dX9_moveAll_60 rfl 0 rfl ?_
  refine g_get C (R := RX9) (T := TX9) (N := 48) (k := 11) (v := .int (rI s6 61 11)) kd_61 (by decide) rfl (in_61 hS) hinX9 (by decide) fl_X9_301 rfl rfl dX9_moveAll_61 ?_
  refine g_iast C kd_87 ln_87 (in_87 hS) dX9_moveAll_64 hf (fun hf => ?_)
  refine g_nameS hf (fun s7 hf => ?_)
  refine g_aload_n C dX9_moveAll_65 rfl 0 rfl ?_
  refine g_aload_n C dX9_moveAll_66 rfl 0 rfl ?_
  refine g_get C (R := RX9) (T := TX9) (N := 48) (k := 47) (v := .ref (ad w 87)) kd_61 (by decide) rfl (in_61 hS) hinX9 (by decide) fl_X9_86 rfl rfl dX9_moveAll_67 ?_
  refine g_bipush C (v := 6) dX9_moveAll_70 (by decide) ?_
  refine g_iload_n C dX9_moveAll_72 rfl 1 rfl ?_
  refine g_callVV C (R := RX9) (T := TX9) (N := 48) [.ref (ad w 87), .int 6, .int (bI a1)] (fun _ h => c_X9_move (kl x) N w hS ⟨(in_87 hS), kd_87⟩ _ _ h) (g_cwV C hR ml_X9_402 im_X9_move sl_X9_move ini_X9 cd_X9_move hd_X9_move (by decide)) kd_61 (by decide) rfl (in_61 hS) rfl _ rfl (Nat.le_of_ble_eq_true rfl) dX9_moveAll_73 hf (fun s8 hf => ?_)
  refine g_aload_n C dX9_moveAll_76 rfl 0 rfl ?_
  refine g_aload_n C dX9_moveAll_77 rfl 0 rfl ?_
  refine g_get C (R := RX9) (T := TX9) (N := 48) (k := 1) (v := .ref (ad w 62)) kd_61 (by decide) rfl (in_61 hS) hinX9 (by decide) fl_X9_7 rfl rfl dX9_moveAll_78 ?_
  refine g_bipush C (v := 40) dX9_moveAll_81 (by decide) ?_
  refine g_iload_n C dX9_moveAll_83 rfl 1 rfl ?_
  refine g_callVV C (R := RX9) (T := TX9) (N := 48) [.ref (ad w 62), .int 40, .int (bI a1)] (fun _ h => c_X9_move (kl x) N w hS ⟨(in_62 hS), kd_62⟩ _ _ h) (g_cwV C hR ml_X9_402 im_X9_move sl_X9_move ini_X9 cd_X9_move hd_X9_move (by decide)) kd_61 (by decide) rfl (in_61 hS) rfl _ rfl (Nat.le_of_ble_eq_true rfl) dX9_moveAll_84 hf (fun s9 hf => ?_)
  refine g_aload_n C dX9_moveAll_87 rfl 0 rfl ?_
  refine g_aload_n C dX9_moveAll_88 rfl 0 rfl ?_
  refine g_get C (R := RX9) (T := TX9) (N := 48) (k := 3) (v := .ref (ad w 63)) kd_61 (by decide) rfl (in_61 hS) hinX9 (by decide) fl_X9_13 rfl rfl dX9_moveAll_89 ?_
  refine g_sipush C (v := 180) dX9_moveAll_92 (by decide) ?_
  refine g_iload_n C dX9_moveAll_95 rfl 1 rfl ?_
  refine g_callVV C (R := RX9) (T := TX9) (N := 48) [.ref (ad w 63), .int 180, .int (bI a1)] (fun _ h => c_X9_move (kl x) N w hS ⟨(in_63 hS), kd_63⟩ _ _ h) (g_cwV C hR ml_X9_402 im_X9_move sl_X9_move ini_X9 cd_X9_move hd_X9_move (by decide)) kd_61 (by decide) rfl (in_61 hS) rfl _ rfl (Nat.le_of_ble_eq_true rfl) dX9_moveAll_96 hf (fun s10 hf => ?_)
  refine g_aload_n C dX9_moveAll_99 rfl 0 rfl ?_
  refine g_aload_n C dX9_moveAll_100 rfl 0 rfl ?_
  refine g_get C (R := RX9) (T := TX9) (N := 48) (k := 4) (v := .ref (ad w 64)) kd_61 (by decide) rfl (in_61 hS) hinX9 (by decide) fl_X9_16 rfl rfl dX9_moveAll_101 ?_
  refine g_bipush C (v := 17) dX9_moveAll_104 (by decide) ?_
  refine g_iload_n C dX9_moveAll_106 rfl 1 rfl ?_
  refine g_callVV C (R := RX9) (T := TX9) (N := 48) [.ref (ad w 64), .int 17, .int (bI a1)] (fun _ h => c_X9_move (kl x) N w hS ⟨(in_64 hS), kd_64⟩ _ _ h) (g_cwV C hR ml_X9_402 im_X9_move sl_X9_move ini_X9 cd_X9_move hd_X9_move (by decide)) kd_61 (by decide) rfl (in_61 hS) rfl _ rfl (Nat.le_of_ble_eq_true rfl) dX9_moveAll_107 hf (fun s11 hf => ?_)
  refine g_aload_n C dX9_moveAll_110 rfl 0 rfl ?_
  refine g_aload_n C dX9_moveAll_111 rfl 0 rfl ?_
  refine g_get C (R := RX9) (T := TX9) (N := 48) (k := 6) (v := .ref (ad w 65)) kd_61 (by decide) rfl (in_61 hS) hinX9 (by decide) fl_X9_19 rfl rfl dX9_moveAll_112 ?_
  refine g_bipush C (v := 80) dX9_moveAll_115 (by decide) ?_
  refine g_iload_n C dX9_moveAll_117 rfl 1 rfl ?_
  refine g_callVV C (R := RX9) (T := TX9) (N := 48) [.ref (ad w 65), .int 80, .int (bI a1)] (fun _ h => c_X9_move (kl x) N w hS ⟨(in_65 hS), kd_65⟩ _ _ h) (g_cwV C hR ml_X9_402 im_X9_move sl_X9_move ini_X9 cd_X9_move hd_X9_move (by decide)) kd_61 (by decide) rfl (in_61 hS) rfl _ rfl (Nat.le_of_ble_eq_true rfl) dX9_moveAll_118 hf (fun s12 hf => ?_)
  refine g_aload_n C dX9_moveAll_121 rfl 0 rfl ?_
  refine g_aload_n C dX9_moveAll_122 rfl 0 rfl ?_
  refine g_get C (R := RX9) (T := TX9) (N := 48) (k := 8) (v := .ref (ad w 66)) kd_61 (by decide) rfl (in_61 hS) hinX9 (by decide) fl_X9_22 rfl rfl dX9_moveAll_123 ?_
  refine g_bipush C (v := 80) dX9_moveAll_126 (by decide) ?_
  refine g_iload_n C dX9_moveAll_128 rfl 1 rfl ?_
  refine g_callVV C (R := RX9) (T := TX9) (N := 48) [.ref (ad w 66), .int 80, .int (bI a1)] (fun _ h => c_X9_move (kl x) N w hS ⟨(in_66 hS), kd_66⟩ _ _ h) (g_cwV C hR ml_X9_402 im_X9_move sl_X9_move ini_X9 cd_X9_move hd_X9_move (by decide)) kd_61 (by decide) rfl (in_61 hS) rfl _ rfl (Nat.le_of_ble_eq_true rfl) dX9_moveAll_129 hf (fun s13 hf => ?_)
  refine g_aload_n C dX9_moveAll_132 rfl 0 rfl ?_
  refine g_aload_n C dX9_moveAll_133 rfl 0 rfl ?_
  refine g_get C (R := RX9) (T := TX9) (N := 48) (k := 10) (v := .ref (ad w 67)) kd_61 (by decide) rfl (in_61 hS) hinX9 (by decide) fl_X9_25 rfl rfl dX9_moveAll_134 ?_
  refine g_bipush C (v := 32) dX9_moveAll_137 (by decide) ?_
  refine g_iload_n C dX9_moveAll_139 rfl 1 rfl ?_
  refine g_callVV C (R := RX9) (T := TX9) (N := 48) [.ref (ad w 67), .int 32, .int (bI a1)] (fun _ h => c_X9_move (kl x) N w hS ⟨(in_67 hS), kd_67⟩ _ _ h) (g_cwV C hR ml_X9_402 im_X9_move sl_X9_move ini_X9 cd_X9_move hd_X9_move (by decide)) kd_61 (by decide) rfl (in_61 hS) rfl _ rfl (Nat.le_of_ble_eq_true rfl) dX9_moveAll_140 hf (fun s14 hf => ?_)
  refine g_aload_n C dX9_moveAll_143 rfl 0 rfl ?_
  refine g_aload_n C dX9_moveAll_144 rfl 0 rfl ?_
  refine g_get C (R := RX9) (T := TX9) (N := 48) (k := 12) (v := .ref (ad w 68)) kd_61 (by decide) rfl (in_61 hS) hinX9 (by decide) fl_X9_28 rfl rfl dX9_moveAll_145 ?_
  refine g_bipush C (v := 6) dX9_moveAll_148 (by decide) ?_
  refine g_iload_n C dX9_moveAll_150 rfl 1 rfl ?_
  refine g_callVV C (R := RX9) (T := TX9) (N := 48) [.ref (ad w 68), .int 6, .int (bI a1)] (fun _ h => c_X9_move (kl x) N w hS ⟨(in_68 hS), kd_68⟩ _ _ h) (g_cwV C hR ml_X9_402 im_X9_move sl_X9_move ini_X9 cd_X9_move hd_X9_move (by decide)) kd_61 (by decide) rfl (in_61 hS) rfl _ rfl (Nat.le_of_ble_eq_true rfl) dX9_moveAll_151 hf (fun s15 hf => ?_)
  refine g_aload_n C dX9_moveAll_154 rfl 0 rfl ?_
  refine g_aload_n C dX9_moveAll_155 rfl 0 rfl ?_
  refine g_get C (R := RX9) (T := TX9) (N := 48) (k := 13) (v := .ref (ad w 69)) kd_61 (by decide) rfl (in_61 hS) hinX9 (by decide) fl_X9_31 rfl rfl dX9_moveAll_156 ?_
  refine g_bipush C (v := 6) dX9_moveAll_159 (by decide) ?_
  refine g_iload_n C dX9_moveAll_161 rfl 1 rfl ?_
  refine g_callVV C (R := RX9) (T := TX9) (N := 48) [.ref (ad w 69), .int 6, .int (bI a1)] (fun _ h => c_X9_move (kl x) N w hS ⟨(in_69 hS), kd_69⟩ _ _ h) (g_cwV C hR ml_X9_402 im_X9_move sl_X9_move ini_X9 cd_X9_move hd_X9_move (by decide)) kd_61 (by decide) rfl (in_61 hS) rfl _ rfl (Nat.le_of_ble_eq_true rfl) dX9_moveAll_162 hf (fun s16 hf => ?_)
  refine g_aload_n C dX9_moveAll_165 rfl 0 rfl ?_
  refine g_aload_n C dX9_moveAll_166 rfl 0 rfl ?_
  refine g_get C (R := RX9) (T := TX9) (N := 48) (k := 14) (v := .ref (ad w 70)) kd_61 (by decide) rfl (in_61 hS) hinX9 (by decide) fl_X9_34 rfl rfl dX9_moveAll_167 ?_
  refine g_sipush C (v := 210) dX9_moveAll_170 (by decide) ?_
  refine g_iload_n C dX9_moveAll_173 rfl 1 rfl ?_
  refine g_callVV C (R := RX9) (T := TX9) (N := 48) [.ref (ad w 70), .int 210, .int (bI a1)] (fun _ h => c_X9_move (kl x) N w hS ⟨(in_70 hS), kd_70⟩ _ _ h) (g_cwV C hR ml_X9_402 im_X9_move sl_X9_move ini_X9 cd_X9_move hd_X9_move (by decide)) kd_61 (by decide) rfl (in_61 hS) rfl _ rfl (Nat.le_of_ble_eq_true rfl) dX9_moveAll_174 hf (fun s17 hf => ?_)
  exact g_vret C dX9_moveAll_177 hf

set_option maxHeartbeats 4000000 in
set_option maxRecDepth 100000 in
theorem c_X9_keep (l : Launch) (N : Nat) (w : WX) (hS : SS w = Sm) {s s' : Mem} {r : Int32} (hf : f_X9_keep N s = some (r, s')) : CI l yX9_keep (wz yX9_keep cX9_keep 1 (some .int)) ({ frames := 2, cells := 0, slots := 0, locals := 45 } : Room) [.ref (ad w 61)] w s r s' := by
  refine met_startI (cc := cX9_keep) (ret := (some .int)) (own := RX9) (maxL := 1) (by decide) rfl (Nat.le_of_ble_eq_true rfl) (fun x C hR hl => ?_)
  refine g_lv (lv' := [(0, .ref (ad w 61))]) rfl ?_
  unfold f_X9_keep at hf
  refine g_aload_n C dX9_keep_0 rfl 0 rfl ?_
  refine g_iconst C (v := 1) dX9_keep_1 rfl ?_
  refine g_callVV C (R := RX9) (T := TX9) (N := 48) [.int 1] (fun _ h => c_X9_moveAll (kl x) N w hS _ h) (g_cwV C hR ml_X9_406 im_X9_moveAll sl_X9_moveAll ini_X9 cd_X9_moveAll hd_X9_moveAll (by decide)) kd_61 (by decide) rfl (in_61 hS) rfl _ rfl (Nat.le_of_ble_eq_true rfl) dX9_keep_2 hf (fun s1 hf => ?_)
  refine g_aload_n C dX9_keep_5 rfl 0 rfl ?_
  refine g_iconst C (v := 1) dX9_keep_6 rfl ?_
  refine g_putI C (R := RX9) (T := TX9) (N := 48) (k := 44) (ty := .boolean) tyX9 tyX9_ok nmX9 kd_61 (by decide) rfl (in_61 hS) hinX9 (by decide) fl_X9_409 rfl rfl rfl rfl rfl (Nat.le_of_ble_eq_true rfl) fs_9_44 dX9_keep_7 ?_
  refine g_nameS hf (fun s2 hf => ?_)
  refine g_iconst C (v := 1) dX9_keep_10 rfl ?_
  exact g_iret C dX9_keep_11 hf

set_option maxHeartbeats 4000000 in
set_option maxRecDepth 100000 in
theorem c_X9_again (l : Launch) (N : Nat) (w : WX) (hS : SS w = Sm) {s s' : Mem} {r : Int32} (hf : f_X9_again N s = some (r, s')) : CI l yX9_again (wz yX9_again cX9_again 1 (some .int)) ({ frames := 2, cells := 0, slots := 0, locals := 45 } : Room) [.ref (ad w 61)] w s r s' := by
  refine met_startI (cc := cX9_again) (ret := (some .int)) (own := RX9) (maxL := 1) (by decide) rfl (Nat.le_of_ble_eq_true rfl) (fun x C hR hl => ?_)
  refine g_lv (lv' := [(0, .ref (ad w 61))]) rfl ?_
  unfold f_X9_again at hf
  refine g_aload_n C dX9_again_0 rfl 0 rfl ?_
  refine g_get C (R := RX9) (T := TX9) (N := 48) (k := 44) (v := .int (rI s 61 44)) kd_61 (by decide) rfl (in_61 hS) hinX9 (by decide) fl_X9_409 rfl rfl dX9_again_1 ?_
  refine g_if_ne (tgt := 10) C dX9_again_4 (by decide) hf (fun hf => ?_) (fun hf => ?_)
  · refine g_aload_n C dX9_again_10 rfl 0 rfl ?_
    refine g_iconst C (v := 0) dX9_again_11 rfl ?_
    refine g_callVV C (R := RX9) (T := TX9) (N := 48) [.int 0] (fun _ h => c_X9_moveAll (kl x) N w hS _ h) (g_cwV C hR ml_X9_406 im_X9_moveAll sl_X9_moveAll ini_X9 cd_X9_moveAll hd_X9_moveAll (by decide)) kd_61 (by decide) rfl (in_61 hS) rfl _ rfl (Nat.le_of_ble_eq_true rfl) dX9_again_12 hf (fun s1 hf => ?_)
    refine g_aload_n C dX9_again_15 rfl 0 rfl ?_
    refine g_aload_n C dX9_again_16 rfl 0 rfl ?_
    refine g_get C (R := RX9) (T := TX9) (N := 48) (k := 47) (v := .ref (ad w 87)) kd_61 (by decide) rfl (in_61 hS) hinX9 (by decide) fl_X9_86 rfl rfl dX9_again_17 ?_
    refine g_iconst C (v := 0) dX9_again_20 rfl ?_
    refine g_iald C kd_87 ln_87 (in_87 hS) dX9_again_21 hf (fun hf => ?_)
    refine g_putI C (R := RX9) (T := TX9) (N := 48) (k := 0) (ty := .int) tyX9 tyX9_ok nmX9 kd_61 (by decide) rfl (in_61 hS) hinX9 (by decide) fl_X9_89 rfl rfl rfl rfl rfl (Nat.le_of_ble_eq_true rfl) fs_9_0 dX9_again_22 ?_
    refine g_nameS hf (fun s2 hf => ?_)
    refine g_aload_n C dX9_again_25 rfl 0 rfl ?_
    refine g_aload_n C dX9_again_26 rfl 0 rfl ?_
    refine g_get C (R := RX9) (T := TX9) (N := 48) (k := 47) (v := .ref (ad w 87)) kd_61 (by decide) rfl (in_61 hS) hinX9 (by decide) fl_X9_86 rfl rfl dX9_again_27 ?_
    refine g_iconst C (v := 1) dX9_again_30 rfl ?_
    refine g_iald C kd_87 ln_87 (in_87 hS) dX9_again_31 hf (fun hf => ?_)
    refine g_putI C (R := RX9) (T := TX9) (N := 48) (k := 2) (ty := .int) tyX9 tyX9_ok nmX9 kd_61 (by decide) rfl (in_61 hS) hinX9 (by decide) fl_X9_97 rfl rfl rfl rfl rfl (Nat.le_of_ble_eq_true rfl) fs_9_2 dX9_again_32 ?_
    refine g_nameS hf (fun s3 hf => ?_)
    refine g_aload_n C dX9_again_35 rfl 0 rfl ?_
    refine g_aload_n C dX9_again_36 rfl 0 rfl ?_
    refine g_get C (R := RX9) (T := TX9) (N := 48) (k := 47) (v := .ref (ad w 87)) kd_61 (by decide) rfl (in_61 hS) hinX9 (by decide) fl_X9_86 rfl rfl dX9_again_37 ?_
    refine g_iconst C (v := 2) dX9_again_40 rfl ?_
    refine g_iald C kd_87 ln_87 (in_87 hS) dX9_again_41 hf (fun hf => ?_)
    refine g_putI C (R := RX9) (T := TX9) (N := 48) (k := 5) (ty := .int) tyX9 tyX9_ok nmX9 kd_61 (by decide) rfl (in_61 hS) hinX9 (by decide) fl_X9_177 rfl rfl rfl rfl rfl (Nat.le_of_ble_eq_true rfl) fs_9_5 dX9_again_42 ?_
    refine g_nameS hf (fun s4 hf => ?_)
    refine g_aload_n C dX9_again_45 rfl 0 rfl ?_
    refine g_aload_n C dX9_again_46 rfl 0 rfl ?_
    refine g_get C (R := RX9) (T := TX9) (N := 48) (k := 47) (v := .ref (ad w 87)) kd_61 (by decide) rfl (in_61 hS) hinX9 (by decide) fl_X9_86 rfl rfl dX9_again_47 ?_
    refine g_iconst C (v := 3) dX9_again_50 rfl ?_
    refine g_iald C kd_87 ln_87 (in_87 hS) dX9_again_51 hf (fun hf => ?_)
    refine g_putI C (R := RX9) (T := TX9) (N := 48) (k := 7) (ty := .int) tyX9 tyX9_ok nmX9 kd_61 (by decide) rfl (in_61 hS) hinX9 (by decide) fl_X9_329 rfl rfl rfl rfl rfl (Nat.le_of_ble_eq_true rfl) fs_9_7 dX9_again_52 ?_
    refine g_nameS hf (fun s5 hf => ?_)
    refine g_aload_n C dX9_again_55 rfl 0 rfl ?_
    refine g_aload_n C dX9_again_56 rfl 0 rfl ?_
    refine g_get C (R := RX9) (T := TX9) (N := 48) (k := 47) (v := .ref (ad w 87)) kd_61 (by decide) rfl (in_61 hS) hinX9 (by decide) fl_X9_86 rfl rfl dX9_again_57 ?_
    refine g_iconst C (v := 4) dX9_again_60 rfl ?_
    refine g_iald C kd_87 ln_87 (in_87 hS) dX9_again_61 hf (fun hf => ?_)
    refine g_putI C (R := RX9) (T := TX9) (N := 48) (k := 9) (ty := .int) tyX9 tyX9_ok nmX9 kd_61 (by decide) rfl (in_61 hS) hinX9 (by decide) fl_X9_133 rfl rfl rfl rfl rfl (Nat.le_of_ble_eq_true rfl) fs_9_9 dX9_again_62 ?_
    refine g_nameS hf (fun s6 hf => ?_)
    refine g_aload_n C dX9_again_65 rfl 0 rfl ?_
    refine g_aload_n C dX9_again_66 rfl 0 rfl ?_
    refine g_get C (R := RX9) (T := TX9) (N := 48) (k := 47) (v := .ref (ad w 87)) kd_61 (by decide) rfl (in_61 hS) hinX9 (by decide) fl_X9_86 rfl rfl dX9_again_67 ?_
    refine g_iconst C (v := 5) dX9_again_70 rfl ?_
    refine g_iald C kd_87 ln_87 (in_87 hS) dX9_again_71 hf (fun hf => ?_)
    refine g_putI C (R := RX9) (T := TX9) (N := 48) (k := 11) (ty := .int) tyX9 tyX9_ok nmX9 kd_61 (by decide) rfl (in_61 hS) hinX9 (by decide) fl_X9_301 rfl rfl rfl rfl rfl (Nat.le_of_ble_eq_true rfl) fs_9_11 dX9_again_72 ?_
    refine g_nameS hf (fun s7 hf => ?_)
    refine g_iconst C (v := 1) dX9_again_75 rfl ?_
    exact g_iret C dX9_again_76 hf
  · refine g_bipush C (v := (-3)) dX9_again_7 (by decide) ?_
    exact g_iret C dX9_again_9 hf
