-- THE LAW'S LOOP
theorem lw_room7 {L i : Nat} (hL : L ≤ 3584) (hi : i ≤ 3584) (h : ¬ nI L - 7 < nI i) : i + 7 ≤ L := by
  have e7 : (nI L - 7).toInt = (L : Int) - 7 := by
    rw [Int32.toInt_sub, nI_toInt (by omega), show (7 : Int32).toInt = 7 from rfl]
    apply Int.bmod_eq_of_le <;> omega
  rw [Int32.lt_iff_toInt_lt, e7, nI_toInt (by omega)] at h
  omega
section LAWLOOP
variable {x : KX} {w : WX} {Q : State → Prop} {a a2 : Nat → Nat} {b L i : Nat} {xs : Nat → Int32} {c m : Mem}
theorem lw_case (C0 : LWC x w) (X : Scr x b L xs) (hi : i + 7 ≤ L) (R : RR c m) (e : Int32) (kk : ∀ c' m', RR c' m' → LN x Q w a a2 b i 1768 c' m') : GN x Q 4 w 33 (lwL i b (a 0) (a2 61)) [.int e] (lwW w a a2 c m) 88 6218 := by
  have C := C0.1
  by_cases h : e.toInt < 0 ∨ 46 < e.toInt
  · exact gn_tabOut C (tgt := 1768) dL_law_33 h (by decide) (kk c m R)
  · obtain ⟨n, hn, rfl⟩ : ∃ n : Nat, n ≤ 46 ∧ e = nI n := by
      refine ⟨e.toInt.toNat, by omega, ?_⟩
      apply Int32.toInt_inj.1
      rw [nI_toInt (by omega)]
      omega
    match n, hn with
    | 0, _ => exact gn_tabIn C (v := nI 0) (off := 203) (tgt := 236) dL_law_33 rfl (by decide) (by decide) (by decide) (by decide) (lc_0 C0 X hi R kk)
    | 1, _ => exact gn_tabIn C (v := nI 1) (off := 246) (tgt := 279) dL_law_33 rfl (by decide) (by decide) (by decide) (by decide) (lc_1 C0 X hi R kk)
    | 2, _ => exact gn_tabIn C (v := nI 2) (off := 279) (tgt := 312) dL_law_33 rfl (by decide) (by decide) (by decide) (by decide) (lc_2 C0 X hi R kk)
    | 3, _ => exact gn_tabIn C (v := nI 3) (off := 354) (tgt := 387) dL_law_33 rfl (by decide) (by decide) (by decide) (by decide) (lc_3 C0 X hi R kk)
    | 4, _ => exact gn_tabIn C (v := nI 4) (off := 387) (tgt := 420) dL_law_33 rfl (by decide) (by decide) (by decide) (by decide) (lc_4 C0 X hi R kk)
    | 5, _ => exact gn_tabIn C (v := nI 5) (off := 420) (tgt := 453) dL_law_33 rfl (by decide) (by decide) (by decide) (by decide) (lc_5 C0 X hi R kk)
    | 6, _ => exact gn_tabIn C (v := nI 6) (off := 453) (tgt := 486) dL_law_33 rfl (by decide) (by decide) (by decide) (by decide) (lc_6 C0 X hi R kk)
    | 7, _ => exact gn_tabIn C (v := nI 7) (off := 476) (tgt := 509) dL_law_33 rfl (by decide) (by decide) (by decide) (by decide) (lc_7 C0 X hi R kk)
    | 8, _ => exact gn_tabIn C (v := nI 8) (off := 510) (tgt := 543) dL_law_33 rfl (by decide) (by decide) (by decide) (by decide) (lc_8 C0 X hi R kk)
    | 9, _ => exact gn_tabIn C (v := nI 9) (off := 534) (tgt := 567) dL_law_33 rfl (by decide) (by decide) (by decide) (by decide) (lc_9 C0 X hi R kk)
    | 10, _ => exact gn_tabIn C (v := nI 10) (off := 557) (tgt := 590) dL_law_33 rfl (by decide) (by decide) (by decide) (by decide) (lc_10 C0 X hi R kk)
    | 11, _ => exact gn_tabIn C (v := nI 11) (off := 601) (tgt := 634) dL_law_33 rfl (by decide) (by decide) (by decide) (by decide) (lc_11 C0 X hi R kk)
    | 12, _ => exact gn_tabIn C (v := nI 12) (off := 634) (tgt := 667) dL_law_33 rfl (by decide) (by decide) (by decide) (by decide) (lc_12 C0 X hi R kk)
    | 13, _ => exact gn_tabIn C (v := nI 13) (off := 667) (tgt := 700) dL_law_33 rfl (by decide) (by decide) (by decide) (by decide) (lc_13 C0 X hi R kk)
    | 14, _ => exact gn_tabIn C (v := nI 14) (off := 690) (tgt := 723) dL_law_33 rfl (by decide) (by decide) (by decide) (by decide) (lc_14 C0 X hi R kk)
    | 15, _ => exact gn_tabIn C (v := nI 15) (off := 723) (tgt := 756) dL_law_33 rfl (by decide) (by decide) (by decide) (by decide) (lc_15 C0 X hi R kk)
    | 16, _ => exact gn_tabIn C (v := nI 16) (off := 736) (tgt := 769) dL_law_33 rfl (by decide) (by decide) (by decide) (by decide) (lc_16 C0 X hi R kk)
    | 17, _ => exact gn_tabIn C (v := nI 17) (off := 759) (tgt := 792) dL_law_33 rfl (by decide) (by decide) (by decide) (by decide) (lc_17 C0 X hi R kk)
    | 18, _ => exact gn_tabIn C (v := nI 18) (off := 782) (tgt := 815) dL_law_33 rfl (by decide) (by decide) (by decide) (by decide) (lc_18 C0 X hi R kk)
    | 19, _ => exact gn_tabIn C (v := nI 19) (off := 845) (tgt := 878) dL_law_33 rfl (by decide) (by decide) (by decide) (by decide) (lc_19 C0 X hi R kk)
    | 20, _ => exact gn_tabIn C (v := nI 20) (off := 858) (tgt := 891) dL_law_33 rfl (by decide) (by decide) (by decide) (by decide) (lc_20 C0 X hi R kk)
    | 21, _ => exact gn_tabIn C (v := nI 21) (off := 881) (tgt := 914) dL_law_33 rfl (by decide) (by decide) (by decide) (by decide) (lc_21 C0 X hi R kk)
    | 22, _ => exact gn_tabIn C (v := nI 22) (off := 904) (tgt := 937) dL_law_33 rfl (by decide) (by decide) (by decide) (by decide) (lc_22 C0 X hi R kk)
    | 23, _ => exact gn_tabIn C (v := nI 23) (off := 937) (tgt := 970) dL_law_33 rfl (by decide) (by decide) (by decide) (by decide) (lc_23 C0 X hi R kk)
    | 24, _ => exact gn_tabIn C (v := nI 24) (off := 970) (tgt := 1003) dL_law_33 rfl (by decide) (by decide) (by decide) (by decide) (lc_24 C0 X hi R kk)
    | 25, _ => exact gn_tabIn C (v := nI 25) (off := 1023) (tgt := 1056) dL_law_33 rfl (by decide) (by decide) (by decide) (by decide) (lc_25 C0 X hi R kk)
    | 26, _ => exact gn_tabIn C (v := nI 26) (off := 1046) (tgt := 1079) dL_law_33 rfl (by decide) (by decide) (by decide) (by decide) (lc_26 C0 X hi R kk)
    | 27, _ => exact gn_tabIn C (v := nI 27) (off := 1069) (tgt := 1102) dL_law_33 rfl (by decide) (by decide) (by decide) (by decide) (lc_27 C0 X hi R kk)
    | 28, _ => exact gn_tabIn C (v := nI 28) (off := 1092) (tgt := 1125) dL_law_33 rfl (by decide) (by decide) (by decide) (by decide) (lc_28 C0 X hi R kk)
    | 29, _ => exact gn_tabIn C (v := nI 29) (off := 1135) (tgt := 1168) dL_law_33 rfl (by decide) (by decide) (by decide) (by decide) (lc_29 C0 X hi R kk)
    | 30, _ => exact gn_tabIn C (v := nI 30) (off := 1178) (tgt := 1211) dL_law_33 rfl (by decide) (by decide) (by decide) (by decide) (lc_30 C0 X hi R kk)
    | 31, _ => exact gn_tabIn C (v := nI 31) (off := 1227) (tgt := 1260) dL_law_33 rfl (by decide) (by decide) (by decide) (by decide) (lc_31 C0 X hi R kk)
    | 32, _ => exact gn_tabIn C (v := nI 32) (off := 1250) (tgt := 1283) dL_law_33 rfl (by decide) (by decide) (by decide) (by decide) (lc_32 C0 X hi R kk)
    | 33, _ => exact gn_tabIn C (v := nI 33) (off := 1273) (tgt := 1306) dL_law_33 rfl (by decide) (by decide) (by decide) (by decide) (lc_33 C0 X hi R kk)
    | 34, _ => exact gn_tabIn C (v := nI 34) (off := 1306) (tgt := 1339) dL_law_33 rfl (by decide) (by decide) (by decide) (by decide) (lc_34 C0 X hi R kk)
    | 35, _ => exact gn_tabIn C (v := nI 35) (off := 1349) (tgt := 1382) dL_law_33 rfl (by decide) (by decide) (by decide) (by decide) (lc_35 C0 X hi R kk)
    | 36, _ => exact gn_tabIn C (v := nI 36) (off := 1362) (tgt := 1395) dL_law_33 rfl (by decide) (by decide) (by decide) (by decide) (lc_36 C0 X hi R kk)
    | 37, _ => exact gn_tabIn C (v := nI 37) (off := 1405) (tgt := 1438) dL_law_33 rfl (by decide) (by decide) (by decide) (by decide) (lc_37 C0 X hi R kk)
    | 38, _ => exact gn_tabIn C (v := nI 38) (off := 1448) (tgt := 1481) dL_law_33 rfl (by decide) (by decide) (by decide) (by decide) (lc_38 C0 X hi R kk)
    | 39, _ => exact gn_tabIn C (v := nI 39) (off := 1491) (tgt := 1524) dL_law_33 rfl (by decide) (by decide) (by decide) (by decide) (lc_39 C0 X hi R kk)
    | 40, _ => exact gn_tabIn C (v := nI 40) (off := 1544) (tgt := 1577) dL_law_33 rfl (by decide) (by decide) (by decide) (by decide) (lc_40 C0 X hi R kk)
    | 41, _ => exact gn_tabIn C (v := nI 41) (off := 1587) (tgt := 1620) dL_law_33 rfl (by decide) (by decide) (by decide) (by decide) (lc_41 C0 X hi R kk)
    | 42, _ => exact gn_tabIn C (v := nI 42) (off := 1620) (tgt := 1653) dL_law_33 rfl (by decide) (by decide) (by decide) (by decide) (lc_42 C0 X hi R kk)
    | 43, _ => exact gn_tabIn C (v := nI 43) (off := 1663) (tgt := 1696) dL_law_33 rfl (by decide) (by decide) (by decide) (by decide) (lc_43 C0 X hi R kk)
    | 44, _ => exact gn_tabIn C (v := nI 44) (off := 1686) (tgt := 1719) dL_law_33 rfl (by decide) (by decide) (by decide) (by decide) (lc_44 C0 X hi R kk)
    | 45, _ => exact gn_tabIn C (v := nI 45) (off := 1709) (tgt := 1742) dL_law_33 rfl (by decide) (by decide) (by decide) (by decide) (lc_45 C0 X hi R kk)
    | 46, _ => exact gn_tabIn C (v := nI 46) (off := 1722) (tgt := 1755) dL_law_33 rfl (by decide) (by decide) (by decide) (by decide) (lc_46 C0 X hi R kk)
    | n + 47, hn => omega
theorem lw_loop (C0 : LWC x w) (X : Scr x b L xs) (fin : ∀ i c m, LN x Q w a a2 b i 1774 c m) : ∀ d i c m, L ≤ i + d → i ≤ 3584 → RR c m → LN x Q w a a2 b i 18 c m := by
  have C := C0.1
  have hL := X.2.2.2
  intro d
  induction d with
  | zero =>
    intro i c m hd hi R
    refine gn_iload_n C dL_law_18 rfl 0 rfl ?_
    refine gn_aload_n C dL_law_19 rfl 3 rfl ?_
    refine gn_slen C X dL_law_20 ?_
    refine gn_bipush C (v := 7) dL_law_21 (by decide) ?_
    refine gn_isub C dL_law_23 ?_
    refine gn_icmp_gt C (tgt := 1774) dL_law_24 (by decide) (fun _ => fin i c m) (fun h => ?_)
    have := lw_room7 hL hi h
    omega
  | succ d ih =>
    intro i c m hd hi R
    refine gn_iload_n C dL_law_18 rfl 0 rfl ?_
    refine gn_aload_n C dL_law_19 rfl 3 rfl ?_
    refine gn_slen C X dL_law_20 ?_
    refine gn_bipush C (v := 7) dL_law_21 (by decide) ?_
    refine gn_isub C dL_law_23 ?_
    refine gn_icmp_gt C (tgt := 1774) dL_law_24 (by decide) (fun _ => fin i c m) (fun h => ?_)
    have h7 := lw_room7 hL hi h
    refine gn_aload_n C dL_law_27 rfl 3 rfl ?_
    refine gn_iload_n C dL_law_28 rfl 0 rfl ?_
    refine gn_sld C X (by omega) dL_law_29 ?_
    refine gn_bipush C (v := 63) dL_law_30 (by decide) ?_
    refine gn_iand C dL_law_32 ?_
    refine lw_case C0 X h7 R _ (fun c' m' R' => ?_)
    refine gn_iinc C (v' := nI (i + 7)) (lv' := lwL (i + 7) b (a 0) (a2 61)) dL_law_1768 0 rfl (nI_add i 7) (by decide) rfl ?_
    refine gn_goto C (tgt := 18) dL_law_1771 (by decide) ?_
    exact ih (i + 7) c' m' (by omega) (by omega) R'
end LAWLOOP
theorem law_all {x : KX} {w : WX} {Q : State → Prop} {b L : Nat} {xs : Nat → Int32} (C0 : LWC x w) (X : Scr x b L xs) (fin : ∀ (a a2 : Nat → Nat) (i : Nat) (c m : Mem), LN x Q w a a2 b i 1774 c m) : GN x Q 4 w 0 [(0, .ref b)] [] [] 0 0 := by
  obtain ⟨C, hR⟩ := id C0
  refine gn_new C (R := RX8) (T := TX8) (N := 11) (ci := 8) (fs := [.null, .null, .int 0, .null, .null, .null, .null, .null, .null, .null, .null]) hinX8 tyX8 tyX8_ok cl_ElderPapersLaw_7 ib_X8 ini_X8 rfl (fun j hj => by match j, hj with
    | 0, _ => rfl
    | 1, _ => rfl
    | 2, _ => rfl
    | 3, _ => rfl
    | 4, _ => rfl
    | 5, _ => rfl
    | 6, _ => rfl
    | 7, _ => rfl
    | 8, _ => rfl
    | 9, _ => rfl
    | 10, _ => rfl
    | n + 11, hn => omega) (by rw [hR]; exact Nat.le_of_ble_eq_true rfl) (by rw [hR]; exact Nat.le_of_ble_eq_true rfl) dL_law_0 (fun q1 => ?_)
  refine gn_dup C dL_law_3 rfl ?_
  refine gn_ctor C (ws := []) [] (ct_X8 (kl x) w q1) (cn_cw C hR ml_L_9 im_X8_init ini_X8 cd_X8_init rfl hd_X8_init ⟨⟨Nat.le_of_ble_eq_true rfl, Nat.le_of_ble_eq_true rfl⟩, rfl, rfl⟩) rfl _ rfl (Nat.le_of_ble_eq_true rfl) dL_law_4 ⟨by rw [hR]; exact Nat.le_of_ble_eq_true rfl, by rw [hR]; exact Nat.le_of_ble_eq_true rfl⟩ (fun w1 hp => ?_)
  obtain ⟨a, c, rfl, hc, rfl⟩ := hp
  refine gn_astore_n C (lv' := [(1, .ref (a 0)), (0, .ref b)]) dL_law_7 rfl (by decide) rfl ?_
  refine gn_new C (R := RX9) (T := TX9) (N := 48) (ci := 9) (fs := [.int 0, .null, .int 0, .null, .null, .int 0, .null, .int 0, .null, .int 0, .null, .int 0, .null, .null, .null, .null, .null, .int 0, .int 0, .int 0, .int 0, .long 0, .int 0, .null, .null, .null, .null, .int 0, .int 0, .null, .null, .int 0, .null, .null, .null, .null, .null, .null, .int 0, .int 0, .int 0, .null, .int 0, .int 0, .int 0, .null, .int 0, .null]) hinX9 tyX9 tyX9_ok cl_ElderPapersLaw_10 ib_X9 ini_X9 rfl (fun j hj => by match j, hj with
    | 0, _ => rfl
    | 1, _ => rfl
    | 2, _ => rfl
    | 3, _ => rfl
    | 4, _ => rfl
    | 5, _ => rfl
    | 6, _ => rfl
    | 7, _ => rfl
    | 8, _ => rfl
    | 9, _ => rfl
    | 10, _ => rfl
    | 11, _ => rfl
    | 12, _ => rfl
    | 13, _ => rfl
    | 14, _ => rfl
    | 15, _ => rfl
    | 16, _ => rfl
    | 17, _ => rfl
    | 18, _ => rfl
    | 19, _ => rfl
    | 20, _ => rfl
    | 21, _ => rfl
    | 22, _ => rfl
    | 23, _ => rfl
    | 24, _ => rfl
    | 25, _ => rfl
    | 26, _ => rfl
    | 27, _ => rfl
    | 28, _ => rfl
    | 29, _ => rfl
    | 30, _ => rfl
    | 31, _ => rfl
    | 32, _ => rfl
    | 33, _ => rfl
    | 34, _ => rfl
    | 35, _ => rfl
    | 36, _ => rfl
    | 37, _ => rfl
    | 38, _ => rfl
    | 39, _ => rfl
    | 40, _ => rfl
    | 41, _ => rfl
    | 42, _ => rfl
    | 43, _ => rfl
    | 44, _ => rfl
    | 45, _ => rfl
    | 46, _ => rfl
    | 47, _ => rfl
    | n + 48, hn => omega) (by rw [hR]; exact Nat.le_of_ble_eq_true rfl) (by rw [hR]; exact Nat.le_of_ble_eq_true rfl) dL_law_8 (fun q2 => ?_)
  refine gn_dup C dL_law_11 rfl ?_
  refine gn_ctor C [] (ct_X9 (kl x) w q2) (cn_cw C hR ml_L_12 im_X9_init ini_X9 cd_X9_init rfl hd_X9_init ⟨⟨Nat.le_of_ble_eq_true rfl, Nat.le_of_ble_eq_true rfl⟩, rfl, rfl⟩) rfl _ rfl (Nat.le_of_ble_eq_true rfl) dL_law_12 ⟨by rw [hR]; exact Nat.le_of_ble_eq_true rfl, by rw [hR]; exact Nat.le_of_ble_eq_true rfl⟩ (fun w2 hp => ?_)
  obtain ⟨a2, m, rfl, hm, rfl⟩ := hp
  refine gn_ws (ws' := lwW w a a2 c m) (by simp [lwW]) ?_
  refine gn_astore_n C (lv' := [(2, .ref (a2 61)), (1, .ref (a 0)), (0, .ref b)]) dL_law_15 rfl (by decide) rfl ?_
  refine gn_iconst C (v := 0) dL_law_16 rfl ?_
  refine gn_istore_n C (lv' := lwL 0 b (a 0) (a2 61)) dL_law_17 rfl (by decide) rfl ?_
  exact lw_loop C0 X (fin a a2) L 0 c m (by omega) (by omega) ⟨v0, v0, first_R hc hm⟩
