-- the law's start: the classes' numbers and what lies outside
def lwC : List Cond := flatC (Jvm.Cond.and given_1 narrow_1)
abbrev lwS (i : Nat) : Term := .string "ElderPapers$WayReader" (stP.getD i 0)
abbrev lwKA : Term := .static "ElderPapers" "KIND_ABOVE" "[I"
theorem lwc_ka : Cond.arrayOf lwKA .int ∈ lwC ∧ Cond.eq (.length lwKA) (.int (Int32.ofNat 9)) ∈ lwC := ⟨by decide +kernel, by decide +kernel⟩
theorem lwc_kae : ∀ j : Nat, j < 9 → Cond.eq (.elem lwKA (.int (Int32.ofNat j))) (.int (kaV j)) ∈ lwC := by decide +kernel
theorem lwc_ex : ∀ i : Nat, i < stN → Cond.exactly (lwS i) "java/lang/String" ∈ lwC := by decide +kernel
theorem lwc_co : ∀ i : Nat, i < stN → Cond.eq (.field (lwS i) "java/lang/String" "coder" "B") (.int 0) ∈ lwC := by decide +kernel
theorem lwc_ar : ∀ i : Nat, i < stN → Cond.arrayOf (.field (lwS i) "java/lang/String" "value" "[B") .byte ∈ lwC := by decide +kernel
theorem lwc_le : ∀ i : Nat, i < stN → Cond.eq (.length (.field (lwS i) "java/lang/String" "value" "[B")) (.int (Int32.ofNat (stLen.getD i 0))) ∈ lwC := by decide +kernel
theorem lwc_el : ∀ i : Nat, i < stN → ∀ j : Nat, j < stLen.getD i 0 → Cond.eq (.elem (.field (lwS i) "java/lang/String" "value" "[B") (.int (Int32.ofNat j))) (.int ((stByt.getD i []).getD j 0)) ∈ lwC := by decide +kernel
theorem lwc_ne : ∀ i : Nat, i < stN → ∀ j : Nat, j < stN → i ≠ j → Cond.not (Cond.eq (lwS i) (lwS j)) ∈ lwC ∨ Cond.not (Cond.eq (lwS j) (lwS i)) ∈ lwC := by decide +kernel
theorem lwc_le31 : ∀ i : Nat, i < stN → stLen.getD i 0 < 2 ^ 31 := by decide +kernel
theorem lwc_cs : Cond.eq (.static "java/lang/String" "COMPACT_STRINGS" "Z") (.int 1) ∈ lwC ∧ Cond.isRef (.static "jdk/internal/util/Preconditions" "SIOOBE_FORMATTER" "Ljava/util/function/BiFunction;") ∈ lwC := ⟨by decide +kernel, by decide +kernel⟩
theorem lwt_st : (Cond.laysStatic "ElderPapers" "KIND_ABOVE" "[I" ∈ lw_tbl ∧ Cond.initialized "ElderPapers" ∈ lw_tbl) ∧ (Cond.laysStatic "java/lang/String" "COMPACT_STRINGS" "Z" ∈ lw_tbl ∧ Cond.initialized "java/lang/String" ∈ lw_tbl) ∧ (Cond.laysStatic "jdk/internal/util/Preconditions" "SIOOBE_FORMATTER" "Ljava/util/function/BiFunction;" ∈ lw_tbl ∧ Cond.initialized "jdk/internal/util/Preconditions" ∈ lw_tbl) := ⟨⟨by decide +kernel, by decide +kernel⟩, ⟨by decide +kernel, by decide +kernel⟩, by decide +kernel, by decide +kernel⟩
theorem lwt_ne : ∀ q ∈ nstL, Cond.methodLinkNest q.1 q.2.1 q.2.2.1 q.2.2.2 ∈ lw_tbl := by decide +kernel
theorem lwt_sr : ∀ i : Nat, i < stN → Cond.stringRef "ElderPapers$WayReader" (stP.getD i 0) (stX.getD i "") ∈ lw_tbl := by decide +kernel
theorem lwt_ao : Cond.arrayOver (.object "ElderPapers$Sheet") ∈ lw_tbl := by decide +kernel
theorem law_world {args : Array Value} {s : State} (hts : ∀ w ∈ lw_tbl, w.before args s = true) (hgv : (Jvm.Cond.and given_1 narrow_1).before args s = true) : ∃ w0 : WX, va_K (wG w0) vwCl (wT w0) s ∧ EX w0 (fun q => s.heap.size ≤ q) s := by
  have hs : ∀ c ∈ lwC, c.before args s = true := flat_of_before _ hgv
  have hG : ∀ w ∈ GW, w.before args s = true := fun w hw => hts w (GW_tbl hw)
  have hA : ∀ a : Nat, a < s.heap.size → ¬ (s.heap.size ≤ a) := fun a h1 h2 => by omega
  obtain ⟨k0, i0, u0⟩ := u_known (C := RX0) (T := TX0) (N := 8) (n := 8) hG hinX0 (hG _ ib_X0)
  obtain ⟨k1, i1, u1⟩ := u_known (C := RX1) (T := TX1) (N := 5) (n := 5) hG hinX1 (hG _ ib_X1)
  obtain ⟨k2, i2, u2⟩ := u_known (C := RX2) (T := TX2) (N := 4) (n := 4) hG hinX2 (hG _ ib_X2)
  obtain ⟨k3, i3, u3⟩ := u_known (C := RX3) (T := TX3) (N := 2) (n := 2) hG hinX3 (hG _ ib_X3)
  obtain ⟨k4, i4, u4⟩ := u_known (C := RX4) (T := TX4) (N := 3) (n := 3) hG hinX4 (hG _ ib_X4)
  obtain ⟨k5, i5, u5⟩ := u_known (C := RX5) (T := TX5) (N := 4) (n := 4) hG hinX5 (hG _ ib_X5)
  obtain ⟨k6, i6, u6⟩ := u_known (C := RX6) (T := TX6) (N := 5) (n := 5) hG hinX6 (hG _ ib_X6)
  obtain ⟨k7, i7, u7⟩ := u_known (C := RX7) (T := TX7) (N := 11) (n := 11) hG hinX7 (hG _ ib_X7)
  obtain ⟨k8, i8, u8⟩ := u_known (C := RX8) (T := TX8) (N := 11) (n := 11) hG hinX8 (hG _ ib_X8)
  obtain ⟨k9, i9, u9⟩ := u_known (C := RX9) (T := TX9) (N := 48) (n := 48) hG hinX9 (hG _ ib_X9)
  obtain ⟨cI0, kI, mI, a1, a2, a3⟩ := Cond.arrayClass_spec (hG _ ac_int)
  obtain ⟨cJ0, kJ, mJ, b1, b2, b3⟩ := Cond.arrayClass_spec (hG _ ac_long)
  obtain ⟨mR, cR0, kR0, d1, d2, d3, d4, d5⟩ := Cond.arrayOver_spec (hts _ lwt_ao)
  obtain ⟨t, ht, hT⟩ := va_Tof (tm := lwKA) (N := 9) (f := fun j => .int (kaV j)) (by decide) (hs _ lwc_ka.1) (va_eqt (hs _ lwc_ka.2)) (fun j hj => va_eqt (hs _ (lwc_kae j hj))) hA
  obtain ⟨aK, aV, hS, hSe⟩ := vk_Sof (N := stN) (tm := lwS) (len := stLen) (byt := stByt) lwc_le31 (fun i hi => hs _ (lwc_ex i hi)) (fun i hi => hs _ (lwc_co i hi)) (fun i hi => hs _ (lwc_ar i hi)) (fun i hi => hs _ (lwc_le i hi)) (fun i hi j hj => hs _ (lwc_el i hi j hj)) (fun i j hi hj h => (lwc_ne i hi j hj h).imp (hs _) (hs _)) hA
  let D : va_G := (fun c => [k0, k1, k2, k3, k4, k5, k6, k7, k8, k9].getD c 0, fun c => [i0, i1, i2, i3, i4, i5, i6, i7, i8, i9].getD c (fun _ => 0))
  refine ⟨(D, (cI0, cJ0, cR0), (fun _ => 0), [], t, aK, aV), ⟨?_, ?_⟩, ⟨fun q hq => hts _ (lwt_ne q hq), va_Zof (hts _ lwt_st.1.1) (hts _ lwt_st.1.2) ht hA, hT, hS, fun i hi => vk_R.of (hts _ (lwt_sr i hi)) (hSe i hi), va_Zof (hts _ lwt_st.2.1.1) (hts _ lwt_st.2.1.2) (va_eqi (hs _ lwc_cs.1)) hA, va_Zqof (hts _ lwt_st.2.2.1) (hts _ lwt_st.2.2.2) (hs _ lwc_cs.2) hA⟩, va_AO.of (hts _ lwt_ao)⟩
  · intro c q hq
    match c, hq with
    | 0, hq => cases hq; exact u0
    | 1, hq => cases hq; exact u1
    | 2, hq => cases hq; exact u2
    | 3, hq => cases hq; exact u3
    | 4, hq => cases hq; exact u4
    | 5, hq => cases hq; exact u5
    | 6, hq => cases hq; exact u6
    | 7, hq => cases hq; exact u7
    | 8, hq => cases hq; exact u8
    | 9, hq => cases hq; exact u9
    | n + 10, hq => cases hq
  · intro k q hq
    match k, hq with
    | 0, hq => cases hq; exact ⟨fun N z => ⟨(fun k h => by cases h), kI, a2, mI, a3⟩, a1⟩
    | 1, hq => cases hq; exact ⟨fun N z => ⟨(fun k h => by cases h), kJ, b2, mJ, b3⟩, b1⟩
    | 2, hq => cases hq; exact ⟨fun N z => ⟨(fun k h => by cases h), kR0, d3, mR, d4⟩, kR0, mR, d3, d4, d1, d5⟩
    | n + 3, hq => cases hq
