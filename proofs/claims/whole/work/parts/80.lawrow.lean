-- THE LAW'S ROWS: two worlds side by side, the script
def lwW (w : WX) (a a2 : Nat → Nat) (c m : Mem) : va_W := wl (mkW w a Sc) c ++ (wl (mkW w a2 Sm) m ++ [])
section LAWROWS
variable {x : KX} {cc : ByteArray} {own : String} {n : Nat} {w : WX} {ret : Option FieldType} {Q : State → Prop} {pc : Nat} {lv lv' : List (Nat × Value)} {st : List Value} {ws : va_W} {k sl : Nat}
theorem gn_iadd (C : Cn x cc own n w ret) {a b : Int32} (hdg : decode cc pc = .ok (.iadd, 1)) (kk : GN x Q n w (pc + 1) lv (.int (a + b) :: st) ws k sl) : GN x Q n w pc lv (.int b :: .int a :: st) ws k sl := fun H locs ls hP hD hS hl => lv_iadd C.1 C.2.1 hdg (kk H locs ls hP hD hS hl)
theorem gn_isub (C : Cn x cc own n w ret) {a b : Int32} (hdg : decode cc pc = .ok (.isub, 1)) (kk : GN x Q n w (pc + 1) lv (.int (a - b) :: st) ws k sl) : GN x Q n w pc lv (.int b :: .int a :: st) ws k sl := fun H locs ls hP hD hS hl => lv_isub C.1 C.2.1 hdg (kk H locs ls hP hD hS hl)
theorem gn_iand (C : Cn x cc own n w ret) {a b : Int32} (hdg : decode cc pc = .ok (.iand, 1)) (kk : GN x Q n w (pc + 1) lv (.int (a &&& b) :: st) ws k sl) : GN x Q n w pc lv (.int b :: .int a :: st) ws k sl := fun H locs ls hP hD hS hl => lv_iand C.1 C.2.1 hdg (kk H locs ls hP hD hS hl)
theorem gn_land (C : Cn x cc own n w ret) {a b : Int64} (hdg : decode cc pc = .ok (.land, 1)) (kk : GN x Q n w (pc + 1) lv (.long (a &&& b) :: st) ws k sl) : GN x Q n w pc lv (.long b :: .long a :: st) ws k sl := fun H locs ls hP hD hS hl => lv_land C.1 C.2.1 hdg (kk H locs ls hP hD hS hl)
theorem gn_lor (C : Cn x cc own n w ret) {a b : Int64} (hdg : decode cc pc = .ok (.lor, 1)) (kk : GN x Q n w (pc + 1) lv (.long (a ||| b) :: st) ws k sl) : GN x Q n w pc lv (.long b :: .long a :: st) ws k sl := fun H locs ls hP hD hS hl => lv_lor C.1 C.2.1 hdg (kk H locs ls hP hD hS hl)
theorem gn_i2l (C : Cn x cc own n w ret) {a : Int32} (hdg : decode cc pc = .ok (.i2l, 1)) (kk : GN x Q n w (pc + 1) lv (.long a.toInt64 :: st) ws k sl) : GN x Q n w pc lv (.int a :: st) ws k sl := fun H locs ls hP hD hS hl => lv_i2l C.1 C.2.1 hdg rfl (kk H locs ls hP hD hS hl)
theorem gn_lshl (C : Cn x cc own n w ret) {a : Int64} {b : Int32} (hdg : decode cc pc = .ok (.lshl, 1)) (kk : GN x Q n w (pc + 1) lv (.long (a <<< (b.toInt64 &&& 63)) :: st) ws k sl) : GN x Q n w pc lv (.int b :: .long a :: st) ws k sl := fun H locs ls hP hD hS hl => lv_lshl C.1 C.2.1 hdg rfl (kk H locs ls hP hD hS hl)
theorem gn_ldc2 (C : Cn x cc own n w ret) {index : Nat} {v : Int64} (hdg : decode cc pc = .ok (.ldc2_w index, 3)) (hc : Jvm.Cond.constantLong own index v ∈ GW) (kk : GN x Q n w (pc + 3) lv (.long v :: st) ws k sl) : GN x Q n w pc lv st ws k sl := fun H locs ls hP hD hS hl => lv_ldc2 C.1 C.2.1 C.2.2.2.1 (C.2.2.2.2.1 _ hc) hdg (kk H locs ls hP hD hS hl)
theorem gn_icmp_gt (C : Cn x cc own n w ret) {a b : Int32} {off : Int} {tgt : Nat} (hdg : decode cc pc = .ok (.if_icmp .gt off, 3)) (ht : (pc : Int) + off = (tgt : Int)) (kt : b < a → GN x Q n w tgt lv st ws k sl) (kf : ¬ b < a → GN x Q n w (pc + 3) lv st ws k sl) : GN x Q n w pc lv (.int b :: .int a :: st) ws k sl := fun H locs ls hP hD hS hl => lv_icmp_gt C.1 C.2.1 hdg ht (fun c => kt c H locs ls hP hD hS hl) (fun c => kf c H locs ls hP hD hS hl)
theorem gn_icmp_same (C : Cn x cc own n w ret) {a : Int32} {off : Int} {tgt : Nat} (hdg : decode cc pc = .ok (.if_icmp .eq off, 3)) (ht : (pc : Int) + off = (tgt : Int)) (kk : GN x Q n w tgt lv st ws k sl) : GN x Q n w pc lv (.int a :: .int a :: st) ws k sl := fun H locs ls hP hD hS hl => lv_icmp_eq C.1 C.2.1 hdg ht (fun _ => kk H locs ls hP hD hS hl) (fun c => absurd rfl c)
theorem gn_lcmp_same (C : Cn x cc own n w ret) {a : Int64} {off : Int} {tgt : Nat} (hd0 : decode cc pc = .ok (.lcmp, 1)) (hdg : decode cc (pc + 1) = .ok (.ifCond .eq off, 3)) (ht : ((pc + 1 : Nat) : Int) + off = (tgt : Int)) (kk : GN x Q n w tgt lv st ws k sl) : GN x Q n w pc lv (.long a :: .long a :: st) ws k sl := fun H locs ls hP hD hS hl => W.lcmp C.1 C.2.1 hd0 (lv_if_eq C.1 C.2.1 hdg ht (fun _ => kk H locs ls hP hD hS hl) (fun c => absurd ((lg_cmp_eq a a).mpr rfl) c))
theorem gn_if_eq (C : Cn x cc own n w ret) {a : Int32} {off : Int} {tgt : Nat} (hdg : decode cc pc = .ok (.ifCond .eq off, 3)) (ht : (pc : Int) + off = (tgt : Int)) (kt : a = 0 → GN x Q n w tgt lv st ws k sl) (kf : ¬ a = 0 → GN x Q n w (pc + 3) lv st ws k sl) : GN x Q n w pc lv (.int a :: st) ws k sl := fun H locs ls hP hD hS hl => lv_if_eq C.1 C.2.1 hdg ht (fun c => kt c H locs ls hP hD hS hl) (fun c => kf c H locs ls hP hD hS hl)
theorem gn_tabIn (C : Cn x cc own n w ret) {dflt lo hi off : Int} {offs : Array Int} {len : Nat} {e v : Int32} {tgt : Nat} (hdg : decode cc pc = .ok (.tableswitch dflt lo hi offs, len)) (he : e = v) (h1 : ¬ v.toInt < lo) (h2 : ¬ hi < v.toInt) (ho : offs[(v.toInt - lo).toNat]? = some off) (ht : (pc : Int) + off = (tgt : Int)) (kk : GN x Q n w tgt lv st ws k sl) : GN x Q n w pc lv (.int e :: st) ws k sl := by
  subst he
  exact fun H locs ls hP hD hS hl => lv_tableIn C.1 C.2.1 hdg h1 h2 ho ht (kk H locs ls hP hD hS hl)
theorem gn_tabOut (C : Cn x cc own n w ret) {dflt lo hi : Int} {offs : Array Int} {len : Nat} {e : Int32} {tgt : Nat} (hdg : decode cc pc = .ok (.tableswitch dflt lo hi offs, len)) (h : e.toInt < lo ∨ hi < e.toInt) (ht : (pc : Int) + dflt = (tgt : Int)) (kk : GN x Q n w tgt lv st ws k sl) : GN x Q n w pc lv (.int e :: st) ws k sl := fun H locs ls hP hD hS hl => lv_tableOut C.1 C.2.1 hdg h ht (kk H locs ls hP hD hS hl)
/-- the script -/
def Scr (x : KX) (b L : Nat) (xs : Nat → Int32) : Prop := va_X b L xs (ks x) (ks x).heap ∧ b < (ks x).heap.size ∧ ¬ kA x b ∧ L ≤ 3584
theorem gn_slen (C : Cn x cc own n w ret) {b L : Nat} {xs : Nat → Int32} (X : Scr x b L xs) (hdg : decode cc pc = .ok (.arraylength, 1)) (kk : GN x Q n w (pc + 1) lv (.int (nI L) :: st) ws k sl) : GN x Q n w pc lv (.ref b :: st) ws k sl := fun H locs ls hP hD hS hl => va_slen C.1 C.2.1 X.1 X.2.1 X.2.2.1 hS hdg (kk H locs ls hP hD hS hl)
theorem gn_sld (C : Cn x cc own n w ret) {b L j : Nat} {xs : Nat → Int32} (X : Scr x b L xs) (hj : j < L) (hdg : decode cc pc = .ok (.iaload, 1)) (kk : GN x Q n w (pc + 1) lv (.int (xs j) :: st) ws k sl) : GN x Q n w pc lv (.int (nI j) :: .ref b :: st) ws k sl := fun H locs ls hP hD hS hl => by
  have hL := X.2.2.2
  have kk' := kk H locs ls hP hD hS hl
  rw [← nI_clamp (n := j) (by omega)] at kk'
  exact va_sld C.1 C.2.1 X.1 X.2.1 X.2.2.1 hS (vp_in_nI hj (by omega)) hdg kk'
abbrev lwL (i b q1 q2 : Nat) : List (Nat × Value) := [(3, .int (nI i)), (2, .ref q2), (1, .ref q1), (0, .ref b)]
/-- script[i + j] by the five instructions of it (the third one byte wide) -/
theorem gn_arg (C : Cn x cc own n w ret) {b L i q1 q2 : Nat} {xs : Nat → Int32} (X : Scr x b L xs) {j : Nat} {z : Int} (hz : Int32.ofInt z = nI j) (hj : i + j < L) (h0 : decode cc pc = .ok (.aload_n 0, 1)) (h1 : decode cc (pc + 1) = .ok (.iload_n 3, 1)) (h2 : decode cc (pc + 2) = .ok (.iconst z, 1)) (h3 : decode cc (pc + 3) = .ok (.iadd, 1)) (h4 : decode cc (pc + 4) = .ok (.iaload, 1)) (kk : GN x Q n w (pc + 5) (lwL i b q1 q2) (.int (xs (i + j)) :: st) ws k sl) : GN x Q n w pc (lwL i b q1 q2) st ws k sl := by
  refine gn_aload_n C h0 rfl 3 rfl ?_
  refine gn_iload_n C h1 rfl 0 rfl ?_
  refine gn_iconst C h2 hz ?_
  refine gn_iadd C h3 ?_
  rw [nI_add]
  exact gn_sld C X hj h4 kk
theorem gn_arg6 (C : Cn x cc own n w ret) {b L i q1 q2 : Nat} {xs : Nat → Int32} (X : Scr x b L xs) {j : Nat} {z : Int} (hz : (Int8.ofInt z).toInt32 = nI j) (hj : i + j < L) (h0 : decode cc pc = .ok (.aload_n 0, 1)) (h1 : decode cc (pc + 1) = .ok (.iload_n 3, 1)) (h2 : decode cc (pc + 2) = .ok (.bipush z, 2)) (h3 : decode cc (pc + 4) = .ok (.iadd, 1)) (h4 : decode cc (pc + 5) = .ok (.iaload, 1)) (kk : GN x Q n w (pc + 6) (lwL i b q1 q2) (.int (xs (i + j)) :: st) ws k sl) : GN x Q n w pc (lwL i b q1 q2) st ws k sl := by
  refine gn_aload_n C h0 rfl 3 rfl ?_
  refine gn_iload_n C h1 rfl 0 rfl ?_
  refine gn_bipush C h2 hz ?_
  refine gn_iadd C h3 ?_
  rw [nI_add]
  exact gn_sld C X hj h4 kk
/-- x != 0, as the compiler has it -/
theorem gn_bool (C : Cn x cc own n w ret) {v : Int32} {o1 o2 : Int} (h0 : decode cc pc = .ok (.ifCond .eq o1, 3)) (h1 : decode cc (pc + 3) = .ok (.iconst 1, 1)) (h2 : decode cc (pc + 4) = .ok (.goto o2, 3)) (h3 : decode cc (pc + 7) = .ok (.iconst 0, 1)) (e1 : (pc : Int) + o1 = ((pc + 7 : Nat) : Int)) (e2 : ((pc + 4 : Nat) : Int) + o2 = ((pc + 8 : Nat) : Int)) (kk : GN x Q n w (pc + 8) lv (.int (bI (decide (v ≠ 0))) :: st) ws k sl) : GN x Q n w pc lv (.int v :: st) ws k sl := by
  refine gn_if_eq C h0 e1 (fun c => ?_) (fun c => ?_)
  · rw [show decide (v ≠ 0) = false by simpa using c] at kk
    exact gn_iconst C h3 rfl kk
  · rw [show decide (v ≠ 0) = true by simpa using c] at kk
    exact gn_iconst C h1 rfl (gn_goto C h2 e2 kk)
-- one of the worlds changes, what lies beside it stays
theorem wl_fst (w : WX) (s s' : Mem) : (wl w s').map Prod.fst = (wl w s).map Prod.fst := by simp [wl, Function.comp_def]
theorem va_D_fst {A : Nat → Prop} {w1 w2 : va_W} (h : va_D A w1) (e : w2.map Prod.fst = w1.map Prod.fst) : va_D A w2 := by
  have g : ∀ (i : Nat) (p : Nat × va_E), w2[i]? = some p → ∃ p', w1[i]? = some p' ∧ p'.1 = p.1 := by
    intro i p hp
    have h1 : (w2.map Prod.fst)[i]? = some p.1 := by rw [List.getElem?_map, hp]; rfl
    rw [e, List.getElem?_map] at h1
    cases h2 : w1[i]? with
    | none => rw [h2] at h1; cases h1
    | some p' => rw [h2] at h1; exact ⟨p', rfl, Option.some.inj h1⟩
  refine ⟨fun i j p q hi hj e => ?_, fun k q hk => ?_⟩
  · obtain ⟨p', a1, a2⟩ := g i p hi
    obtain ⟨q', b1, b2⟩ := g j q hj
    exact h.1 i j p' q' a1 b1 (by rw [a2, b2, e])
  · obtain ⟨q', b1, b2⟩ := g k q hk
    rw [← b2]
    exact h.2 k q' b1
theorem mid_at {W1 V W2 : va_W} {i : Nat} {p : Nat × va_E} (h : V[i]? = some p) : (W1 ++ (V ++ W2))[W1.length + i]? = some p := by
  rw [List.getElem?_append_right (by omega), show W1.length + i - W1.length = i by omega, List.getElem?_append_left (List.getElem?_eq_some_iff.mp h).1]
  exact h
theorem lft_at {W1 V : va_W} {i : Nat} {p : Nat × va_E} (h : W1[i]? = some p) : (W1 ++ V)[i]? = some p := by
  rw [List.getElem?_append_left (List.getElem?_eq_some_iff.mp h).1]
  exact h
theorem rgt_at {W1 V W2 : va_W} {i : Nat} {p : Nat × va_E} (h : W2[i]? = some p) : (W1 ++ (V ++ W2))[W1.length + (V.length + i)]? = some p := by
  rw [List.getElem?_append_right (by omega), show W1.length + (V.length + i) - W1.length = V.length + i by omega, List.getElem?_append_right (by omega), show V.length + i - V.length = i by omega]
  exact h
theorem law_keep {D : va_G} {W1 W2 : va_W} {v : WX} {s s' : Mem} {H H1 : Heap} {A : Nat → Prop} (hP : va_P D vwCl (W1 ++ (wl v s ++ W2)) H) (hD : va_D A (W1 ++ (wl v s ++ W2))) (hk : ∀ q : Nat, q < H.size → ¬ wA v q → H1[q]? = H[q]?) (hP1 : va_P D vwCl (wl v s') H1) : va_P D vwCl (W1 ++ (wl v s' ++ W2)) H1 ∧ va_D A (W1 ++ (wl v s' ++ W2)) := by
  refine ⟨va_P.app (fun i q hq => ?_) (va_P.app hP1 (fun i q hq => ?_)), va_D_fst hD (by simp only [List.map_append, wl_fst v s s'])⟩
  · have h0 := hP i q (lft_at hq)
    refine h0.kept (hk q.1 h0.lt (fun hw => ?_))
    obtain ⟨j, hj, e⟩ := hw
    obtain ⟨p, h1, h2⟩ := wl_at (w := v) (s := s) hj
    have := hD.1 i (W1.length + p) q _ (lft_at hq) (mid_at h2) e.symm
    have := (List.getElem?_eq_some_iff.mp hq).1
    omega
  · have h0 := hP _ q (rgt_at hq)
    refine h0.kept (hk q.1 h0.lt (fun hw => ?_))
    obtain ⟨j, hj, e⟩ := hw
    obtain ⟨p, h1, h2⟩ := wl_at (w := v) (s := s) hj
    have := hD.1 _ (W1.length + p) q _ (rgt_at hq) (mid_at h2) e.symm
    have := (List.getElem?_eq_some_iff.mp h2).1
    omega
theorem law_cw (C : Cn x cc own n w ret) {rm0 rm' : Room} (hR : kR x = rm0) {R : String} {index maxL nA : Nat} {y : MethodName} {bytes : ByteArray} {rt : Option FieldType} (h1 : Cond.methodLink own index y ∈ GW) (h2 : Cond.instanceMethod y ∈ GW) (h3 : Cond.selects R y y ∈ GW) (h4 : Cond.initialized R ∈ GW) (h5 : Cond.code y bytes maxL rt ∈ GW) (hd : y.cls = R ∧ y.cls ≠ "java/lang/invoke/MethodHandle" ∧ y.cls ≠ "java/lang/invoke/VarHandle" ∧ (parseMethodDescriptor y.desc).map (fun d => d.parameters.length) = some nA) (hr : (rm'.frames + 1 ≤ rm0.frames ∧ 8 + (maxL + 11) + rm'.locals ≤ rm0.locals) ∧ rm'.cells = 0 ∧ rm'.slots = 0) : CallW (kR x) (ks x) (kg x) own R index y bytes maxL rt (wz y bytes maxL rt) rm' 0 0 nA := cwV nA C.2.2.2.2.1 (gi_V h1 h2 h3 h4 h5) rfl hr.2.1 hr.2.2 hd (by rw [hR]; exact hr.1)
theorem law_callI (C : Cn x cc own n w ret) {W1 W2 : va_W} {a : Nat → Nat} {S : List Nat} {s s' : Mem} {r : Int32} {i c N : Nat} {R : String} {T : u_T} {y : MethodName} {wds : List Cond} {bytes : ByteArray} {maxL index nA : Nat} {rt : Option FieldType} {rm : Room} (As : List Value) (hM : CI (kl x) y wds rm (.ref (a i) :: As) (mkW w a S) s r s') (cw : CallW (kR x) (ks x) (kg x) own R index y bytes maxL rt wds rm 0 0 nA) (hk : kd i = c) (hc : c < 20) (hcl : vwCl[c]? = some (R, T, N)) (hi : i ∈ S) (hn : As.length = nA) (st' : List Value) (hst : As.reverse ++ .ref (a i) :: st = st') (hr : (st.map fun v => v.category).sum ≤ 8) (hdg : decode cc pc = .ok (.invokevirtual index, 3)) (hf : k ≤ (kR x).cells ∧ sl ≤ (kR x).slots)
    (kk : GN x Q n w (pc + 3) lv (.int r :: st) (W1 ++ (wl (mkW w a S) s' ++ W2)) k sl) : GN x Q n w pc lv st' (W1 ++ (wl (mkW w a S) s ++ W2)) k sl := by
  subst hst
  intro H locs ls hP hD hS hl
  have hP0 : va_P (wG w) vwCl (wl (mkW w a S) s) H := fun i q hq => hP _ q (mid_at hq)
  have hD0 : va_D (kA x) (wl (mkW w a S) s) := ⟨fun i j p q h1 h2 e => by have := hD.1 _ _ p q (mid_at h1) (mid_at h2) e; omega, fun i q hq => hD.2 _ q (mid_at hq)⟩
  have C1 : Cx (kxs x k sl) cc own n (mkW w a S) ret := cx_of C hD0 hf
  obtain ⟨q0, g1, g2⟩ := wl_at (w := mkW w a S) (s := s) hi
  rw [cell_O hk hc] at g2
  refine va_calli (va_runV (As := As) (rest := st) C.fix hM cw ⟨PC_blind _ _ _, va_recv C.2.2.2.2.2.1 hP0 hcl g2, PC_at (x := kxs x k sl) C1 hP0 hD0 hS⟩ rfl hn hl.1 rfl (lv_room hr) hdg hf) hS (fun q _ h => C1.2.2.2.2.2.2.2.2.2.1 q h) (fun q h => C1.2.2.2.2.2.2.2.2.2.1 q h) (fun r' u t H1 locs1 ht hvm hw hB hz hkk hS1 => ?_)
  obtain ⟨b1, b2, b3⟩ := hB
  rw [ht] at b1
  subst hw
  obtain ⟨j1, j2⟩ := law_keep hP hD hkk b1
  exact kk H1 locs1 ls j1 j2 hS1 hl
theorem law_callL (C : Cn x cc own n w ret) {W1 W2 : va_W} {a : Nat → Nat} {S : List Nat} {s s' : Mem} {r : Int64} {i c N : Nat} {R : String} {T : u_T} {y : MethodName} {wds : List Cond} {bytes : ByteArray} {maxL index nA : Nat} {rt : Option FieldType} {rm : Room} (As : List Value) (hM : CL (kl x) y wds rm (.ref (a i) :: As) (mkW w a S) s r s') (cw : CallW (kR x) (ks x) (kg x) own R index y bytes maxL rt wds rm 0 0 nA) (hk : kd i = c) (hc : c < 20) (hcl : vwCl[c]? = some (R, T, N)) (hi : i ∈ S) (hn : As.length = nA) (st' : List Value) (hst : As.reverse ++ .ref (a i) :: st = st') (hr : (st.map fun v => v.category).sum ≤ 8) (hdg : decode cc pc = .ok (.invokevirtual index, 3)) (hf : k ≤ (kR x).cells ∧ sl ≤ (kR x).slots)
    (kk : GN x Q n w (pc + 3) lv (.long r :: st) (W1 ++ (wl (mkW w a S) s' ++ W2)) k sl) : GN x Q n w pc lv st' (W1 ++ (wl (mkW w a S) s ++ W2)) k sl := by
  subst hst
  intro H locs ls hP hD hS hl
  have hP0 : va_P (wG w) vwCl (wl (mkW w a S) s) H := fun i q hq => hP _ q (mid_at hq)
  have hD0 : va_D (kA x) (wl (mkW w a S) s) := ⟨fun i j p q h1 h2 e => by have := hD.1 _ _ p q (mid_at h1) (mid_at h2) e; omega, fun i q hq => hD.2 _ q (mid_at hq)⟩
  have C1 : Cx (kxs x k sl) cc own n (mkW w a S) ret := cx_of C hD0 hf
  obtain ⟨q0, g1, g2⟩ := wl_at (w := mkW w a S) (s := s) hi
  rw [cell_O hk hc] at g2
  refine va_calll (va_runV (As := As) (rest := st) C.fix hM cw ⟨PC_blind _ _ _, va_recv C.2.2.2.2.2.1 hP0 hcl g2, PC_at (x := kxs x k sl) C1 hP0 hD0 hS⟩ rfl hn hl.1 rfl (lv_room hr) hdg hf) hS (fun q _ h => C1.2.2.2.2.2.2.2.2.2.1 q h) (fun q h => C1.2.2.2.2.2.2.2.2.2.1 q h) (fun r' u t H1 locs1 ht hvm hw hB hz hkk hS1 => ?_)
  obtain ⟨b1, b2, b3⟩ := hB
  rw [ht] at b1
  subst hw
  obtain ⟨j1, j2⟩ := law_keep hP hD hkk b1
  exact kk H1 locs1 ls j1 j2 hS1 hl
end LAWROWS
