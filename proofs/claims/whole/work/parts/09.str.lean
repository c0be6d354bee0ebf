-- texts: length and charAt of the twelve
theorem vk_at {x : KX} {cc : ByteArray} {own : String} {n : Nat} {w : WX} {ret : Option FieldType} (C : Cx x cc own n w ret) : vk_S stN stLen stByt (adK w) (adV w) (kA x) (ks x) (ks x).heap := C.2.2.2.2.2.2.1.2.2.2.1
def f_ck (i m : Int32) (s : Mem) : Option (Int32 × Mem) := if i < 0 then none else if i < m then some (i, s) else none
def f_ck2 (i m : Int32) (s : Mem) : Option (Unit × Mem) := bnd (f_ck i m s) fun _ s1 => some ((), s1)
theorem hd_J3_checkIndex_8e157 : yJ3_checkIndex_8e157.cls = RJ3 ∧ yJ3_checkIndex_8e157.cls ≠ "java/lang/invoke/MethodHandle" ∧ yJ3_checkIndex_8e157.cls ≠ "java/lang/invoke/VarHandle" ∧ (parseMethodDescriptor yJ3_checkIndex_8e157.desc).map (fun d => d.parameters.length) = some 3 := by decide +kernel
theorem hd_J0_checkIndex_df160 : yJ0_checkIndex_df160.cls = RJ0 ∧ yJ0_checkIndex_df160.cls ≠ "java/lang/invoke/MethodHandle" ∧ yJ0_checkIndex_df160.cls ≠ "java/lang/invoke/VarHandle" ∧ (parseMethodDescriptor yJ0_checkIndex_df160.desc).map (fun d => d.parameters.length) = some 2 := by decide +kernel
theorem hd_J1_charAt_3b067 : yJ1_charAt_3b067.cls = RJ1 ∧ yJ1_charAt_3b067.cls ≠ "java/lang/invoke/MethodHandle" ∧ yJ1_charAt_3b067.cls ≠ "java/lang/invoke/VarHandle" ∧ (parseMethodDescriptor yJ1_charAt_3b067.desc).map (fun d => d.parameters.length) = some 2 := by decide +kernel
theorem hd_J0_isLatin1_aae02 : yJ0_isLatin1_aae02.cls = RJ0 ∧ yJ0_isLatin1_aae02.cls ≠ "java/lang/invoke/MethodHandle" ∧ yJ0_isLatin1_aae02.cls ≠ "java/lang/invoke/VarHandle" ∧ (parseMethodDescriptor yJ0_isLatin1_aae02.desc).map (fun d => d.parameters.length) = some 0 := by decide +kernel
theorem hd_J0_coder_7d493 : yJ0_coder_7d493.cls = RJ0 ∧ yJ0_coder_7d493.cls ≠ "java/lang/invoke/MethodHandle" ∧ yJ0_coder_7d493.cls ≠ "java/lang/invoke/VarHandle" ∧ (parseMethodDescriptor yJ0_coder_7d493.desc).map (fun d => d.parameters.length) = some 0 := by decide +kernel
theorem hd_J0_length_8abf5 : yJ0_length_8abf5.cls = RJ0 ∧ yJ0_length_8abf5.cls ≠ "java/lang/invoke/MethodHandle" ∧ yJ0_length_8abf5.cls ≠ "java/lang/invoke/VarHandle" ∧ (parseMethodDescriptor yJ0_length_8abf5.desc).map (fun d => d.parameters.length) = some 0 := by decide +kernel
theorem hd_J0_charAt_5068e : yJ0_charAt_5068e.cls = RJ0 ∧ yJ0_charAt_5068e.cls ≠ "java/lang/invoke/MethodHandle" ∧ yJ0_charAt_5068e.cls ≠ "java/lang/invoke/VarHandle" ∧ (parseMethodDescriptor yJ0_charAt_5068e.desc).map (fun d => d.parameters.length) = some 1 := by decide +kernel
section STRROWS
variable {x : KX} {cc : ByteArray} {own : String} {n : Nat} {w : WX} {ret : Option FieldType} {Q : State → Prop} {pc : Nat} {lv lv' : List (Nat × Value)} {st : List Value} {s : Mem} {α : Type} {X Y : Option α} {q : α}
theorem g_getCS (C : Cx x cc own n w ret) {index : Nat} (hlink : Cond.fieldLink own index "java/lang/String" "COMPACT_STRINGS" "Z" ∈ GW) (hdg : decode cc pc = .ok (.getstatic index, 3)) (kk : G x Q n w (pc + 3) lv (.int 1 :: st) s) : G x Q n w pc lv st s := fun H locs ls hP hD hS hl => va_gets C.1 C.2.1 C.2.2.2.2.2.2.1.2.2.2.2.2.1 hS C.2.2.2.1 (C.2.2.2.2.1 _ hlink) (fun _ h => h) hdg (kk H locs ls hP hD hS hl)
theorem g_getQ (C : Cx x cc own n w ret) {index : Nat} (hlink : Cond.fieldLink own index "jdk/internal/util/Preconditions" "SIOOBE_FORMATTER" "Ljava/util/function/BiFunction;" ∈ GW) (hdg : decode cc pc = .ok (.getstatic index, 3)) (kk : ∀ v : Value, (v = .null ∨ ∃ t : Nat, v = .ref t) → G x Q n w (pc + 3) lv (v :: st) s) : G x Q n w pc lv st s := by
  intro H locs ls hP hD hS hl
  rcases C.2.2.2.2.2.2.1.2.2.2.2.2.2 with h | ⟨t, h⟩
  · exact va_gets C.1 C.2.1 h hS C.2.2.2.1 (C.2.2.2.2.1 _ hlink) (fun _ h => h) hdg (kk _ (Or.inl rfl) H locs ls hP hD hS hl)
  · exact va_gets C.1 C.2.1 h hS C.2.2.2.1 (C.2.2.2.2.1 _ hlink) (fun _ h => h) hdg (kk _ (Or.inr ⟨t, rfl⟩) H locs ls hP hD hS hl)
theorem g_coder (C : Cx x cc own n w ret) {z index : Nat} (hz : z < stN) (hlink : Cond.fieldLink own index "java/lang/String" "coder" "B" ∈ GW) (hdg : decode cc pc = .ok (.getfield index, 3)) (kk : G x Q n w (pc + 3) lv (.int 0 :: st) s) : G x Q n w pc lv (.ref (adK w z) :: st) s := fun H locs ls hP hD hS hl => vk_getf C.1 C.2.1 ((vk_at C).1 z hz).2.1 hS C.2.2.2.1 (C.2.2.2.2.1 _ hlink) (fun _ h => h) hdg (kk H locs ls hP hD hS hl)
theorem g_value (C : Cx x cc own n w ret) {z index : Nat} (hz : z < stN) (hlink : Cond.fieldLink own index "java/lang/String" "value" "[B" ∈ GW) (hdg : decode cc pc = .ok (.getfield index, 3)) (kk : G x Q n w (pc + 3) lv (.ref (adV w z) :: st) s) : G x Q n w pc lv (.ref (adK w z) :: st) s := fun H locs ls hP hD hS hl => vk_getf C.1 C.2.1 ((vk_at C).1 z hz).2.2.1 hS C.2.2.2.1 (C.2.2.2.2.1 _ hlink) (fun _ h => h) hdg (kk H locs ls hP hD hS hl)
theorem g_lenV (C : Cx x cc own n w ret) {z : Nat} (hz : z < stN) (hdg : decode cc pc = .ok (.arraylength, 1)) (kk : G x Q n w (pc + 1) lv (.int (nI (stLen.getD z 0)) :: st) s) : G x Q n w pc lv (.ref (adV w z) :: st) s := fun H locs ls hP hD hS hl => va_tlen C.1 C.2.1 ((vk_at C).1 z hz).2.2.2 hS rfl hdg (kk H locs ls hP hD hS hl)
theorem g_bald (C : Cx x cc own n w ret) {z : Nat} {j : Int32} (hz : z < stN) (hj : vp_in j (stLen.getD z 0)) (hdg : decode cc pc = .ok (.baload, 1)) (kk : G x Q n w (pc + 1) lv (.int ((stByt.getD z []).getD j.toNatClampNeg 0) :: st) s) : G x Q n w pc lv (.int j :: .ref (adV w z) :: st) s := fun H locs ls hP hD hS hl => va_tb C.1 C.2.1 ((vk_at C).1 z hz).2.2.2 hS hj rfl hdg (kk H locs ls hP hD hS hl)
theorem g_i2c (C : Cx x cc own n w ret) {a v : Int32} (hdg : decode cc pc = .ok (.i2c, 1)) (hv : (a.toUInt32 % 65536).toInt32 = v) (kk : G x Q n w (pc + 1) lv (.int v :: st) s) : G x Q n w pc lv (.int a :: st) s := fun H locs ls hP hD hS hl => lv_i2c C.1 C.2.1 hdg hv (kk H locs ls hP hD hS hl)
theorem g_ifK_eq (C : Cx x cc own n w ret) {a : Int32} {off : Int} {tgt : Nat} (hdg : decode cc pc = .ok (.ifCond .eq off, 3)) (ht : (pc : Int) + off = (tgt : Int)) (h : ¬ a = 0) (kk : G x Q n w (pc + 3) lv st s) : G x Q n w pc lv (.int a :: st) s := fun H locs ls hP hD hS hl => lv_if_eq C.1 C.2.1 hdg ht (fun c => absurd c h) (fun _ => kk H locs ls hP hD hS hl)
theorem g_ifK_ne (C : Cx x cc own n w ret) {a : Int32} {off : Int} {tgt : Nat} (hdg : decode cc pc = .ok (.ifCond .ne off, 3)) (ht : (pc : Int) + off = (tgt : Int)) (h : a = 0) (kk : G x Q n w (pc + 3) lv st s) : G x Q n w pc lv (.int a :: st) s := fun H locs ls hP hD hS hl => lv_if_ne C.1 C.2.1 hdg ht (fun c => absurd h c) (fun _ => kk H locs ls hP hD hS hl)
theorem g_retN {v r : Int32} {s' : Mem} {ty : FieldType} (C : Cx x cc own n w (some ty)) (hn : narrow ty (.int v) = .int v) (hdg : decode cc pc = .ok (.ireturn, 1)) (hf : some (v, s) = some (r, s')) : G x (QI x w r s') n w pc lv [.int v] s := by
  cases hf
  intro H locs ls hP hD hS hl
  exact W.zret C.1 C.2.1 C.2.2.2.2.2.2.2.2.1 hn (fun t ht hW => ⟨⟨v, (), rfl, rfl, WP_of C.2.2.2.2.2.1 hP hD ht hW⟩, hS.F ht⟩) hS.2.2 hdg C.2.2.2.2.2.2.2.1
theorem g_callZI (C : Cx x cc own n w ret) {z : Nat} (hz : z < stN) {y : MethodName} {ws : List Cond} {bytes : ByteArray} {maxL index nA : Nat} {rt : Option FieldType} {rm : Room} (As : List Value) {f : Option (Int32 × Mem)} {K : Int32 → Mem → Option α} (hM : ∀ r s', f = some (r, s') → CI (kl x) y ws rm (.ref (adK w z) :: As) w s r s') (cw : CallW (kR x) (ks x) (kg x) own RJ0 index y bytes maxL rt ws rm 0 0 nA) (hn : As.length = nA) (st' : List Value) (hst : As.reverse ++ .ref (adK w z) :: st = st') (hr : (st.map fun v => v.category).sum ≤ 8) (hdg : decode cc pc = .ok (.invokevirtual index, 3)) (hf : bnd f K = some q)
    (kk : ∀ (r : Int32) (s' : Mem), K r s' = some q → G x Q n w (pc + 3) lv (.int r :: st) s') : G x Q n w pc lv st' s := by
  obtain ⟨r, s', h1, h2⟩ := bnd_some hf
  subst hst
  intro H locs ls hP hD hS hl
  refine va_calli (va_runV (As := As) (rest := st) C.fix (hM r s' h1) cw ⟨PC_blind _ _ _, vk_recv (vk_at C) hz hS, PC_at C hP hD hS⟩ rfl hn hl.1 rfl (lv_room hr) hdg (rm00 C)) hS (fun q _ h => C.2.2.2.2.2.2.2.2.2.1 q h) (fun q h => C.2.2.2.2.2.2.2.2.2.1 q h) (fun r' u t H1 locs1 ht hvm hw hB hz hkk hS1 => ?_)
  obtain ⟨b1, b2, b3⟩ := hB
  rw [ht] at b1
  subst hw
  exact g_wid (kk _ s' h2 H1 locs1 ls b1 (b3.weaken (fun _ _ _ h => C.2.2.2.2.2.2.2.2.2.1 _ h)) hS1 hl)
end STRROWS
set_option maxHeartbeats 4000000 in
set_option maxRecDepth 100000 in
theorem c_J3_ck (l : Launch) (w : WX) (a0 a1 : Int32) {v : Value} (hv : v = .null ∨ ∃ t : Nat, v = .ref t) {s s' : Mem} {r : Int32} (hf : f_ck a0 a1 s = some (r, s')) : CI l yJ3_checkIndex_8e157 (wz yJ3_checkIndex_8e157 cJ3_checkIndex_8e157 3 (some .int)) ({ frames := 0, cells := 0, slots := 0, locals := 0 } : Room) [.int a0, .int a1, v] w s r s' := by
  have key : ∀ v : Value, (lg_sl [.int a0, .int a1, v]).length ≤ 3 → (∀ k : Nat, (lv_args 0 [.int a0, .int a1, v])[0]? = some (0, .int a0) ∧ (lv_args 0 [.int a0, .int a1, v])[1]? = some (1, .int a1)) → CI l yJ3_checkIndex_8e157 (wz yJ3_checkIndex_8e157 cJ3_checkIndex_8e157 3 (some .int)) ({ frames := 0, cells := 0, slots := 0, locals := 0 } : Room) [.int a0, .int a1, v] w s r s' := by
    intro v hlen hlv
    refine met_startI (cc := cJ3_checkIndex_8e157) (ret := (some .int)) (own := RJ3) (maxL := 3) (by decide) rfl hlen (fun x C hR hl => ?_)
    unfold f_ck at hf
    refine g_iload_n C dJ3_checkIndex_8e157_0 rfl 0 (hlv 0).1 ?_
    refine g_if_lt (tgt := 9) C dJ3_checkIndex_8e157_1 (by decide) hf (fun hf => ?_) (fun hf => ?_)
    · cases hf
    · refine g_iload_n C dJ3_checkIndex_8e157_4 rfl 0 (hlv 0).1 ?_
      refine g_iload_n C dJ3_checkIndex_8e157_5 rfl 1 (hlv 0).2 ?_
      refine g_icmp_lt (tgt := 16) C dJ3_checkIndex_8e157_6 (by decide) hf (fun hf => ?_) (fun hf => ?_)
      · refine g_iload_n C dJ3_checkIndex_8e157_16 rfl 0 (hlv 0).1 ?_
        exact g_iret C dJ3_checkIndex_8e157_17 hf
      · cases hf
  rcases hv with rfl | ⟨t, rfl⟩
  · exact key _ (Nat.le_of_ble_eq_true rfl) (fun _ => ⟨rfl, rfl⟩)
  · exact key _ (Nat.le_of_ble_eq_true rfl) (fun _ => ⟨rfl, rfl⟩)
theorem vcat {v : Value} (hv : v = .null ∨ ∃ t : Nat, v = .ref t) : v.category = 1 := by
  rcases hv with rfl | ⟨t, rfl⟩ <;> rfl
set_option maxHeartbeats 4000000 in
set_option maxRecDepth 100000 in
theorem c_J0_ck (l : Launch) (w : WX) (a0 a1 : Int32) {s s' : Mem} (hf : f_ck2 a0 a1 s = some ((), s')) : CV l yJ0_checkIndex_df160 (wz yJ0_checkIndex_df160 cJ0_checkIndex_df160 2 none) ({ frames := 1, cells := 0, slots := 0, locals := 22 } : Room) [.int a0, .int a1] w s s' := by
  refine met_startV (cc := cJ0_checkIndex_df160) (ret := none) (own := RJ0) (maxL := 2) (by decide) rfl (Nat.le_of_ble_eq_true rfl) (fun x C hR hl => ?_)
  refine g_lv (lv' := [(0, .int a0), (1, .int a1)]) rfl ?_
  unfold f_ck2 at hf
  refine g_iload_n C dJ0_checkIndex_df160_0 rfl 0 rfl ?_
  refine g_iload_n C dJ0_checkIndex_df160_1 rfl 1 rfl ?_
  refine g_getQ C fl_J0_1053 dJ0_checkIndex_df160_2 (fun v hv => ?_)
  refine g_callSI C [.int a0, .int a1, v] (fun _ _ h => c_J3_ck (kl x) w _ _ hv h) (g_cwS C hR ml_J0_1059 sm_J3_checkIndex_8e157 ini_J3 cd_J3_checkIndex_8e157 hd_J3_checkIndex_8e157 (by decide)) rfl _ rfl (Nat.le_of_ble_eq_true rfl) dJ0_checkIndex_df160_5 hf (fun r1 s1 hf => ?_)
  refine g_pop C dJ0_checkIndex_df160_8 rfl ?_
  exact g_vret C dJ0_checkIndex_df160_9 hf
theorem st_small : ∀ z, z < stN → stLen.getD z 0 < 2 ^ 31 ∧ ∀ k, k < stLen.getD z 0 → ((stByt.getD z []).getD k 0) &&& 255 = (stByt.getD z []).getD k 0 := by decide +kernel
def f_ch1 (z : Nat) (k : Int32) (s : Mem) : Option (Int32 × Mem) := bnd (f_ck2 k (nI (stLen.getD z 0)) s) fun _ s1 => some ((stByt.getD z []).getD k.toNatClampNeg 0, s1)
theorem f_ck_in {i : Int32} {m : Nat} (hm : m < 2 ^ 31) {s s' : Mem} (h : f_ck2 i (nI m) s = some ((), s')) : vp_in i m ∧ s = s' := by
  unfold f_ck2 f_ck at h
  by_cases h0 : i < 0
  · rw [if_pos h0] at h; cases h
  · rw [if_neg h0] at h
    by_cases h1 : i < nI m
    · rw [if_pos h1] at h
      cases h
      obtain ⟨j, hj, rfl⟩ := nI_of h0
      exact ⟨vp_in_nI ((nI_ltI hj hm).mp h1) hm, rfl⟩
    · rw [if_neg h1] at h; cases h
set_option maxHeartbeats 4000000 in
set_option maxRecDepth 100000 in
theorem c_J1_ch (l : Launch) (w : WX) {z : Nat} (hz : z < stN) (a1 : Int32) {s s' : Mem} {r : Int32} (hf : f_ch1 z a1 s = some (r, s')) : CI l yJ1_charAt_3b067 (wz yJ1_charAt_3b067 cJ1_charAt_3b067 2 (some .char)) ({ frames := 2, cells := 0, slots := 0, locals := 43 } : Room) [.ref (adV w z), .int a1] w s r s' := by
  refine met_startI (cc := cJ1_charAt_3b067) (ret := (some .char)) (own := RJ1) (maxL := 2) (by decide) rfl (Nat.le_of_ble_eq_true rfl) (fun x C hR hl => ?_)
  refine g_lv (lv' := [(0, .ref (adV w z)), (1, .int a1)]) rfl ?_
  have hin : vp_in a1 (stLen.getD z 0) := by
    obtain ⟨_, s1, h1, -⟩ := bnd_some hf
    exact (f_ck_in (st_small z hz).1 h1).1
  have hlt : a1.toNatClampNeg < stLen.getD z 0 := Nat.not_le.mp fun q => hin (Or.inr q)
  have h255 := (st_small z hz).2 _ hlt
  unfold f_ch1 at hf
  refine g_iload_n C dJ1_charAt_3b067_0 rfl 1 rfl ?_
  refine g_aload_n C dJ1_charAt_3b067_1 rfl 0 rfl ?_
  refine g_lenV C hz dJ1_charAt_3b067_2 ?_
  refine g_callSV C [.int a1, .int (nI (stLen.getD z 0))] (fun _ h => c_J0_ck (kl x) w _ _ h) (g_cwS C hR ml_J1_9 sm_J0_checkIndex_df160 ini_J0 cd_J0_checkIndex_df160 hd_J0_checkIndex_df160 (by decide)) rfl _ rfl (Nat.le_of_ble_eq_true rfl) dJ1_charAt_3b067_3 hf (fun s1 hf => ?_)
  refine g_aload_n C dJ1_charAt_3b067_6 rfl 0 rfl ?_
  refine g_iload_n C dJ1_charAt_3b067_7 rfl 1 rfl ?_
  refine g_bald C hz hin dJ1_charAt_3b067_8 ?_
  refine g_sipush C (v := 255) dJ1_charAt_3b067_9 (by decide) ?_
  refine g_iand C dJ1_charAt_3b067_12 ?_
  refine g_i2c C (v := (stByt.getD z []).getD a1.toNatClampNeg 0) dJ1_charAt_3b067_13 ((sc_c2 _).trans h255) ?_
  exact g_retN C (by rw [← h255]; exact sc_nar _) dJ1_charAt_3b067_14 hf
set_option maxHeartbeats 4000000 in
set_option maxRecDepth 100000 in
theorem c_J0_lat (l : Launch) (w : WX) {z : Nat} (hz : z < stN) {s s' : Mem} {r : Int32} (hf : some ((1 : Int32), s) = some (r, s')) : CI l yJ0_isLatin1_aae02 (wz yJ0_isLatin1_aae02 cJ0_isLatin1_aae02 1 (some .boolean)) ({ frames := 0, cells := 0, slots := 0, locals := 0 } : Room) [.ref (adK w z)] w s r s' := by
  refine met_startI (cc := cJ0_isLatin1_aae02) (ret := (some .boolean)) (own := RJ0) (maxL := 1) (by decide) rfl (Nat.le_of_ble_eq_true rfl) (fun x C hR hl => ?_)
  refine g_lv (lv' := [(0, .ref (adK w z))]) rfl ?_
  refine g_getCS C fl_J0_38 dJ0_isLatin1_aae02_0 ?_
  refine g_ifK_eq (tgt := 17) C dJ0_isLatin1_aae02_3 (by decide) (by decide) ?_
  refine g_aload_n C dJ0_isLatin1_aae02_6 rfl 0 rfl ?_
  refine g_coder C hz fl_J0_15 dJ0_isLatin1_aae02_7 ?_
  refine g_ifK_ne (tgt := 17) C dJ0_isLatin1_aae02_10 (by decide) rfl ?_
  refine g_iconst C (v := 1) dJ0_isLatin1_aae02_13 rfl ?_
  refine g_goto (tgt := 18) C dJ0_isLatin1_aae02_14 (by decide) ?_
  exact g_retN C rfl dJ0_isLatin1_aae02_18 hf
set_option maxHeartbeats 4000000 in
set_option maxRecDepth 100000 in
theorem c_J0_cod (l : Launch) (w : WX) {z : Nat} (hz : z < stN) {s s' : Mem} {r : Int32} (hf : some ((0 : Int32), s) = some (r, s')) : CI l yJ0_coder_7d493 (wz yJ0_coder_7d493 cJ0_coder_7d493 1 (some .byte)) ({ frames := 0, cells := 0, slots := 0, locals := 0 } : Room) [.ref (adK w z)] w s r s' := by
  refine met_startI (cc := cJ0_coder_7d493) (ret := (some .byte)) (own := RJ0) (maxL := 1) (by decide) rfl (Nat.le_of_ble_eq_true rfl) (fun x C hR hl => ?_)
  refine g_lv (lv' := [(0, .ref (adK w z))]) rfl ?_
  refine g_getCS C fl_J0_38 dJ0_coder_7d493_0 ?_
  refine g_ifK_eq (tgt := 13) C dJ0_coder_7d493_3 (by decide) (by decide) ?_
  refine g_aload_n C dJ0_coder_7d493_6 rfl 0 rfl ?_
  refine g_coder C hz fl_J0_15 dJ0_coder_7d493_7 ?_
  refine g_goto (tgt := 14) C dJ0_coder_7d493_10 (by decide) ?_
  exact g_retN C rfl dJ0_coder_7d493_14 hf
set_option maxHeartbeats 4000000 in
set_option maxRecDepth 100000 in
theorem c_len (l : Launch) (w : WX) {z : Nat} (hz : z < stN) {s s' : Mem} {r : Int32} (hf : f_len z s = some (r, s')) : CI l yJ0_length_8abf5 (wz yJ0_length_8abf5 cJ0_length_8abf5 1 (some .int)) ({ frames := 1, cells := 0, slots := 0, locals := 20 } : Room) [.ref (adK w z)] w s r s' := by
  refine met_startI (cc := cJ0_length_8abf5) (ret := (some .int)) (own := RJ0) (maxL := 1) (by decide) rfl (Nat.le_of_ble_eq_true rfl) (fun x C hR hl => ?_)
  refine g_lv (lv' := [(0, .ref (adK w z))]) rfl ?_
  have hf : bnd (some ((0 : Int32), s)) (fun r1 s1 => some (nI (stLen.getD z 0) >>> (r1 &&& 31), s1)) = some (r, s') := by
    rw [← hf, f_len]
    show some (nI (stLen.getD z 0) >>> ((0 : Int32) &&& 31), s) = _
    rw [sc_shr0 (st_small z hz).1]
  refine g_aload_n C dJ0_length_8abf5_0 rfl 0 rfl ?_
  refine g_value C hz fl_J0_9 dJ0_length_8abf5_1 ?_
  refine g_lenV C hz dJ0_length_8abf5_4 ?_
  refine g_aload_n C dJ0_length_8abf5_5 rfl 0 rfl ?_
  refine g_callZI C hz [] (fun _ _ h => c_J0_cod (kl x) w hz h) (g_cwV C hR ml_J0_335 im_J0_coder_7d493 sl_J0_coder_7d493 ini_J0 cd_J0_coder_7d493 hd_J0_coder_7d493 (by decide)) rfl _ rfl (Nat.le_of_ble_eq_true rfl) dJ0_length_8abf5_6 hf (fun r1 s1 hf => ?_)
  refine g_ishr C dJ0_length_8abf5_9 ?_
  exact g_iret C dJ0_length_8abf5_10 hf
set_option maxHeartbeats 4000000 in
set_option maxRecDepth 100000 in
theorem c_chr (l : Launch) (w : WX) {z : Nat} (hz : z < stN) (a1 : Int32) {s s' : Mem} {r : Int32} (hf : f_chr z a1 s = some (r, s')) : CI l yJ0_charAt_5068e (wz yJ0_charAt_5068e cJ0_charAt_5068e 2 (some .char)) ({ frames := 3, cells := 0, slots := 0, locals := 64 } : Room) [.ref (adK w z), .int a1] w s r s' := by
  refine met_startI (cc := cJ0_charAt_5068e) (ret := (some .char)) (own := RJ0) (maxL := 2) (by decide) rfl (Nat.le_of_ble_eq_true rfl) (fun x C hR hl => ?_)
  refine g_lv (lv' := [(0, .ref (adK w z)), (1, .int a1)]) rfl ?_
  obtain ⟨hin, hf0⟩ := gin_some hf
  have hlt : a1.toNatClampNeg < stLen.getD z 0 := Nat.not_le.mp fun q => hin (Or.inr q)
  have h255 := (st_small z hz).2 _ hlt
  have hck : f_ch1 z a1 s = some ((stByt.getD z []).getD a1.toNatClampNeg 0, s) := by
    unfold f_ch1 f_ck2 f_ck
    obtain ⟨j, hj, rfl⟩ := vp_in_of hin (st_small z hz).1
    rw [if_neg (nI_pos (Nat.lt_trans hj (st_small z hz).1)), if_pos (nI_lt hj (st_small z hz).1)]
    rfl
  have hf : bnd (some ((1 : Int32), s)) (fun _ s1 => bnd (f_ch1 z a1 s1) (fun r2 s2 => some (r2, s2))) = some (r, s') := by
    rw [← hf0]
    show bnd (f_ch1 z a1 s) (fun r2 s2 => some (r2, s2)) = _
    rw [hck]
    rfl
  have hr : narrow .char (.int r) = .int r := by
    cases hf0
    rw [← h255]
    exact sc_nar _
  refine g_aload_n C dJ0_charAt_5068e_0 rfl 0 rfl ?_
  obtain ⟨r0, s0, e0, hf⟩ := bnd_some hf
  refine g_callZI C hz [] (fun _ _ h => c_J0_lat (kl x) w hz h) (g_cwV C hR ml_J0_492 im_J0_isLatin1_aae02 sl_J0_isLatin1_aae02 ini_J0 cd_J0_isLatin1_aae02 hd_J0_isLatin1_aae02 (by decide)) rfl _ rfl (Nat.le_of_ble_eq_true rfl) dJ0_charAt_5068e_1 (K := fun r1 s1 => if r1 = 0 then none else bnd (f_ch1 z a1 s1) (fun r2 s2 => some (r2, s2))) (q := (r, s')) (by cases e0; exact hf) (fun r1 s1 hf => ?_)
  refine g_if_eq (tgt := 16) C dJ0_charAt_5068e_4 (by decide) hf (fun hf => ?_) (fun hf => ?_)
  · cases hf
  · refine g_aload_n C dJ0_charAt_5068e_7 rfl 0 rfl ?_
    refine g_value C hz fl_J0_9 dJ0_charAt_5068e_8 ?_
    refine g_iload_n C dJ0_charAt_5068e_11 rfl 1 rfl ?_
    refine g_callSI C [.ref (adV w z), .int a1] (fun _ _ h => c_J1_ch (kl x) w hz _ h) (g_cwS C hR ml_J0_495 sm_J1_charAt_3b067 ini_J1 cd_J1_charAt_3b067 hd_J1_charAt_3b067 (by decide)) rfl _ rfl (Nat.le_of_ble_eq_true rfl) dJ0_charAt_5068e_12 hf (fun r2 s2 hf => ?_)
    cases hf
    exact g_retN C hr dJ0_charAt_5068e_15 rfl
section STRROWS2
variable {x : KX} {cc : ByteArray} {n : Nat} {w : WX} {ret : Option FieldType} {Q : State → Prop} {pc : Nat} {lv lv' : List (Nat × Value)} {st : List Value} {s : Mem} {α : Type} {X Y : Option α} {q : α}
theorem g_strlen (C : Cx x cc RX7 n w ret) {rm0 : Room} (hR : kR x = rm0) {z : Nat} (hz : z < stN) {K : Int32 → Mem → Option α} (hr : (2 ≤ rm0.frames ∧ 40 ≤ rm0.locals) ∧ (st.map fun v => v.category).sum ≤ 8) (hdg : decode cc pc = .ok (.invokevirtual 122, 3)) (hf : bnd (f_len z s) K = some q)
    (kk : ∀ (r : Int32) (s' : Mem), K r s' = some q → G x Q n w (pc + 3) lv (.int r :: st) s') : G x Q n w pc lv (.ref (adK w z) :: st) s :=
  g_callZI C hz [] (fun _ _ h => c_len (kl x) w hz h) (g_cwV C hR ml_X7_122 im_J0_length_8abf5 sl_J0_length_8abf5 ini_J0 cd_J0_length_8abf5 hd_J0_length_8abf5 ⟨hr.1, rfl, rfl⟩) rfl _ rfl hr.2 hdg hf kk
theorem g_strchar (C : Cx x cc RX7 n w ret) {rm0 : Room} (hR : kR x = rm0) {z : Nat} (hz : z < stN) {a : Int32} {K : Int32 → Mem → Option α} (hr : (4 ≤ rm0.frames ∧ 85 ≤ rm0.locals) ∧ (st.map fun v => v.category).sum ≤ 8) (hdg : decode cc pc = .ok (.invokevirtual 127, 3)) (hf : bnd (f_chr z a s) K = some q)
    (kk : ∀ (r : Int32) (s' : Mem), K r s' = some q → G x Q n w (pc + 3) lv (.int r :: st) s') : G x Q n w pc lv (.int a :: .ref (adK w z) :: st) s :=
  g_callZI C hz [.int a] (fun _ _ h => c_chr (kl x) w hz _ h) (g_cwV C hR ml_X7_127 im_J0_charAt_5068e sl_J0_charAt_5068e ini_J0 cd_J0_charAt_5068e hd_J0_charAt_5068e ⟨hr.1, rfl, rfl⟩) rfl _ rfl hr.2 hdg hf kk
end STRROWS2
