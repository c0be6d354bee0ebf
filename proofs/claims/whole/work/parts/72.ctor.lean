-- THE LAYER OF CONSTRUCTORS: worlds as lists of cells; one row an instruction
def EX (w : WX) (A : Nat → Prop) (U : State) : Prop := ST w A U ∧ va_AO "ElderPapers$Sheet" U
def GN (x : KX) (Q : State → Prop) (n : Nat) (w : WX) (pc : Nat) (lv : List (Nat × Value)) (st : List Value) (ws : va_W) (k sl : Nat) : Prop :=
  ∀ (H : Heap) (locs : List Loc) (ls : Array Slot), va_P (wG w) vwCl ws H → va_D (kA x) ws → va_S (kA x) (ks x).heap H locs → lv_has ls n lv → W (kp x) (kl x) (ke x) (kR x) (ks x) (km x) (kg x) (kb x) (kh x) (kc x) H locs k sl Q (F0 (km x) pc ls st)
def Cn (x : KX) (cc : ByteArray) (own : String) (n : Nat) (w : WX) (ret : Option FieldType) : Prop :=
  (kp x).tables.exec = Jvm.exec ∧ (kc x).code = cc ∧ (kc x).maxLocals = n ∧ (ks x).vm.findClass own = some (km x).cls ∧ (∀ c ∈ GW, c.before (kg x) (ks x) = true) ∧ va_K (wG w) vwCl (wT w) (ks x) ∧ EX w (kA x) (ks x) ∧ (kh x).locks = false ∧ (kh x).sig.returnType = ret ∧ (∀ q, (ks x).heap.size ≤ q → kA x q)
theorem EX.go {w : WX} {A : Nat → Prop} {s U : State} (h : EX w A s) (hW : s.WarmedH U.vm) (hq : ∀ a : Nat, a < s.heap.size → ¬ A a → U.heap[a]? = s.heap[a]?) : EX w A U := ⟨h.1.go hW hq, va_AO.moved hW.alike h.2⟩
theorem EX.narrow {w : WX} {A B : Nat → Prop} {U : State} (h : EX w A U) (hAB : ∀ q, B q → A q) : EX w B U := ⟨h.1.narrow hAB, h.2⟩
theorem wT_at {D : va_G} {cl : List vw_C} {s : State} {w : WX} {cA : ClassId} {ty : FieldType} (h1 : va_K D cl (wT w) s) (h2 : va_K D cl (wT w ++ [(cA, ty)]) s) {i : Nat} {c0 : ClassId} (hi : (wT w)[i]? = some (c0, ty)) : cA = c0 := by
  have a1 := (h1.2 i _ hi).2
  have a2 := (h2.2 3 (cA, ty) rfl).2
  cases ty with
  | object C =>
    obtain ⟨-, -, -, -, -, e1⟩ := a1
    obtain ⟨-, -, -, -, -, e2⟩ := a2
    exact Option.some.inj (e2.symm.trans e1)
  | _ => exact Option.some.inj (Eq.trans (Eq.symm a2) a1)
section CTOR
variable {x : KX} {cc : ByteArray} {own : String} {n : Nat} {w : WX} {ret : Option FieldType} {Q : State → Prop} {pc : Nat} {lv lv' : List (Nat × Value)} {st : List Value} {ws : va_W} {k sl : Nat}
theorem Cn.fix (C : Cn x cc own n w ret) : CallFix (kp x) (km x) (kc x) cc n (ks x) (kg x) GW own := ⟨C.1, C.2.1, C.2.2.1, C.2.2.2.1, C.2.2.2.2.1⟩
theorem gn_ws {ws' : va_W} (h : ws = ws') (kk : GN x Q n w pc lv st ws' k sl) : GN x Q n w pc lv st ws k sl := by rw [h]; exact kk
theorem gn_lv (h : lv = lv') (kk : GN x Q n w pc lv' st ws k sl) : GN x Q n w pc lv st ws k sl := by rw [h]; exact kk
theorem gn_aload_n (C : Cn x cc own n w ret) {f : Fin 4} {i : Nat} {v : Nat} (hdg : decode cc pc = .ok (.aload_n f, 1)) (hi : (f : Nat) = i) (j : Nat) (hj : lv[j]? = some (i, .ref v)) (kk : GN x Q n w (pc + 1) lv (.ref v :: st) ws k sl) : GN x Q n w pc lv st ws k sl := fun H locs ls hP hD hS hl => lv_aload_n C.1 C.2.1 hdg hi (lv_at hl j hj) (kk H locs ls hP hD hS hl)
theorem gn_iload_n (C : Cn x cc own n w ret) {f : Fin 4} {i : Nat} {v : Int32} (hdg : decode cc pc = .ok (.iload_n f, 1)) (hi : (f : Nat) = i) (j : Nat) (hj : lv[j]? = some (i, .int v)) (kk : GN x Q n w (pc + 1) lv (.int v :: st) ws k sl) : GN x Q n w pc lv st ws k sl := fun H locs ls hP hD hS hl => lv_iload_n C.1 C.2.1 hdg hi (lv_at hl j hj) (kk H locs ls hP hD hS hl)
theorem gn_iconst (C : Cn x cc own n w ret) {i : Int} {v : Int32} (hdg : decode cc pc = .ok (.iconst i, 1)) (hv : Int32.ofInt i = v) (kk : GN x Q n w (pc + 1) lv (.int v :: st) ws k sl) : GN x Q n w pc lv st ws k sl := fun H locs ls hP hD hS hl => lv_iconst C.1 C.2.1 hdg hv (kk H locs ls hP hD hS hl)
theorem gn_bipush (C : Cn x cc own n w ret) {i : Int} {v : Int32} (hdg : decode cc pc = .ok (.bipush i, 2)) (hv : (Int8.ofInt i).toInt32 = v) (kk : GN x Q n w (pc + 2) lv (.int v :: st) ws k sl) : GN x Q n w pc lv st ws k sl := fun H locs ls hP hD hS hl => lv_bipush C.1 C.2.1 hdg hv (kk H locs ls hP hD hS hl)
theorem gn_sipush (C : Cn x cc own n w ret) {i : Int} {v : Int32} (hdg : decode cc pc = .ok (.sipush i, 3)) (hv : (Int16.ofInt i).toInt32 = v) (kk : GN x Q n w (pc + 3) lv (.int v :: st) ws k sl) : GN x Q n w pc lv st ws k sl := fun H locs ls hP hD hS hl => lv_sipush C.1 C.2.1 hdg hv (kk H locs ls hP hD hS hl)
theorem gn_lconst (C : Cn x cc own n w ret) {i : Fin 2} {v : Int64} (hdg : decode cc pc = .ok (.lconst i, 1)) (hv : Int64.ofNat (i : Nat) = v) (kk : GN x Q n w (pc + 1) lv (.long v :: st) ws k sl) : GN x Q n w pc lv st ws k sl := fun H locs ls hP hD hS hl => lv_lconst C.1 C.2.1 hdg hv (kk H locs ls hP hD hS hl)
theorem gn_null (C : Cn x cc own n w ret) (hdg : decode cc pc = .ok (.aconst_null, 1)) (kk : GN x Q n w (pc + 1) lv (.null :: st) ws k sl) : GN x Q n w pc lv st ws k sl := fun H locs ls hP hD hS hl => lv_null C.1 C.2.1 hdg (kk H locs ls hP hD hS hl)
theorem gn_dup (C : Cn x cc own n w ret) {v : Value} (hdg : decode cc pc = .ok (.dup, 1)) (hv : v.category = 1) (kk : GN x Q n w (pc + 1) lv (v :: v :: st) ws k sl) : GN x Q n w pc lv (v :: st) ws k sl := fun H locs ls hP hD hS hl => lv_dup C.1 C.2.1 hdg hv (kk H locs ls hP hD hS hl)
theorem gn_imul (C : Cn x cc own n w ret) {a b : Int32} (hdg : decode cc pc = .ok (.imul, 1)) (kk : GN x Q n w (pc + 1) lv (.int (a * b) :: st) ws k sl) : GN x Q n w pc lv (.int b :: .int a :: st) ws k sl := fun H locs ls hP hD hS hl => lv_imul C.1 C.2.1 hdg (kk H locs ls hP hD hS hl)
theorem gn_istore_n (C : Cn x cc own n w ret) {f : Fin 4} {i : Nat} {v : Int32} (hdg : decode cc pc = .ok (.istore_n f, 1)) (hi : (f : Nat) = i) (hn : i < n) (hl : (i, Value.int v) :: lv.filter (fun q => !(q.1 == i) && !(q.1 + 1 == i && q.2.category == 2)) = lv') (kk : GN x Q n w (pc + 1) lv' st ws k sl) : GN x Q n w pc lv (.int v :: st) ws k sl := fun H locs ls hP hD hS h => lv_istore_n C.1 C.2.1 hdg hi h hn hl (fun ls' h' => kk H locs ls' hP hD hS h')
theorem gn_astore_n (C : Cn x cc own n w ret) {f : Fin 4} {i : Nat} {v : Nat} (hdg : decode cc pc = .ok (.astore_n f, 1)) (hi : (f : Nat) = i) (hn : i < n) (hl : (i, Value.ref v) :: lv.filter (fun q => !(q.1 == i) && !(q.1 + 1 == i && q.2.category == 2)) = lv') (kk : GN x Q n w (pc + 1) lv' st ws k sl) : GN x Q n w pc lv (.ref v :: st) ws k sl := fun H locs ls hP hD hS h => lv_astore_n C.1 C.2.1 hdg hi h hn hl (fun ls' h' => kk H locs ls' hP hD hS h')
theorem gn_goto (C : Cn x cc own n w ret) {off : Int} {tgt : Nat} (hdg : decode cc pc = .ok (.goto off, 3)) (ht : (pc : Int) + off = (tgt : Int)) (kk : GN x Q n w tgt lv st ws k sl) : GN x Q n w pc lv st ws k sl := fun H locs ls hP hD hS hl => lv_goto C.1 C.2.1 hdg ht (kk H locs ls hP hD hS hl)
theorem gn_icmp_ge (C : Cn x cc own n w ret) {a b : Int32} {off : Int} {tgt : Nat} (hdg : decode cc pc = .ok (.if_icmp .ge off, 3)) (ht : (pc : Int) + off = (tgt : Int)) (kt : b ≤ a → GN x Q n w tgt lv st ws k sl) (kf : ¬ b ≤ a → GN x Q n w (pc + 3) lv st ws k sl) : GN x Q n w pc lv (.int b :: .int a :: st) ws k sl := fun H locs ls hP hD hS hl => lv_icmp_ge C.1 C.2.1 hdg ht (fun c => kt c H locs ls hP hD hS hl) (fun c => kf c H locs ls hP hD hS hl)
theorem gn_imax (C : Cn x cc own n w ret) {index : Nat} {a b : Int32} (hf : 1 ≤ (kR x).frames) (hlo : (st.map fun v => v.category).sum + 13 ≤ (kR x).locals) (hk : k ≤ (kR x).cells) (hs : sl ≤ (kR x).slots) (h1 : Cond.methodLink own index Lib.Math.max.name ∈ GW) (h2 : Cond.static Lib.Math.max.name ∈ GW) (h3 : Cond.initialized "java/lang/Math" ∈ GW) (h4 : Cond.code Lib.Math.max.name Lib.Math.max.code 2 (some .int) ∈ GW) {r : Int32} (hr : (if a < b then b else a) = r) (hdg : decode cc pc = .ok (.invokestatic index, 3)) (kk : GN x Q n w (pc + 3) lv (.int r :: st) ws k sl) : GN x Q n w pc lv (.int b :: .int a :: st) ws k sl := by
  subst hr
  exact fun H locs ls hP hD hS hl => va_mmax C.1 C.2.1 (C.2.2.1.trans hl.1.symm) C.2.2.2.1 (C.2.2.2.2.1 _ h1) (C.2.2.2.2.1 _ h2) (C.2.2.2.2.1 _ h3) (C.2.2.2.2.1 _ h4) hf hlo hk hs hdg (kk H locs ls hP hD hS hl)
theorem gn_obj (C : Cn x cc own n w ret) {idx a : Nat} (hlink : Cond.methodLink own idx objectInit ∈ GW) (hd : decode cc pc = .ok (.invokespecial idx, 3)) (hframes : 1 ≤ (kR x).frames) (hlocals : 2 * 0 + (st.map fun v => v.category).sum + 12 ≤ (kR x).locals) (kk : GN x Q n w (pc + 3) lv st ws k sl) : GN x Q n w pc lv (.ref a :: st) ws k sl := fun H locs ls hP hD hS hl => W.objInit C.1 C.2.1 C.2.2.2.1 (C.2.2.2.2.1 _ hlink) (C.2.2.2.2.1 _ im_objectInit) (C.2.2.2.2.1 _ cd_objectInit) rfl (by rw [C.2.2.1]; exact hl.1) rfl hd hframes hlocals (W.eq (g2 := F0 (km x) (pc + 3) ls st) rfl (kk H locs ls hP hD hS hl))
theorem gn_new (C : Cn x cc own n w ret) {R : String} {T : u_T} {N ci index : Nat} (hin : ∀ u ∈ u_ws R T N, u ∈ GW) (ty : Nat → FieldType) (hty : ∀ k, k < N → parseFieldDescriptor (T k).2.2.1 = some (ty k)) (h1 : Cond.classLink own index R ∈ GW) (h2 : Cond.instantiable R N ∈ GW) (h3 : Cond.initialized R ∈ GW) (hc : vwCl[ci]? = some (R, T, N)) {fs : List Value} (hfs : ∀ j, j < N → defaultValue (ty j) = vp_V fs j) (hcells : k + 1 ≤ (kR x).cells) (hslots : sl + N ≤ (kR x).slots) (hdg : decode cc pc = .ok (.new index, 3)) (kk : ∀ q, GN x Q n w (pc + 3) lv (.ref q :: st) (ws ++ [(q, .inr (ci, fs))]) (k + 1) (sl + N)) : GN x Q n w pc lv st ws k sl :=
  fun H locs ls hP hD hS hl => va_new C.1 C.2.1 C.2.2.2.2.1 hin ty hty C.2.2.2.1 (C.2.2.2.2.1 _ h1) (C.2.2.2.2.1 _ h2) (C.2.2.2.2.1 _ h3) C.2.2.2.2.2.1 hP hD hS C.2.2.2.2.2.2.2.2.2 hc hfs hcells hslots hdg (fun q H1 hP1 hD1 hS1 => kk q H1 locs ls hP1 hD1 hS1 hl)
theorem gn_newI (C : Cn x cc own n w ret) {m : Int32} {N : Nat} (hn : ¬ m < 0) (hN : m.toNatClampNeg = N) (hb : N * 4 ≤ 536870912) (hcells : k + 1 ≤ (kR x).cells) (hslots : sl + N ≤ (kR x).slots) (hdg : decode cc pc = .ok (.newarray .int, 2)) (kk : ∀ q, GN x Q n w (pc + 2) lv (.ref q :: st) (ws ++ [(q, .inl (cI w, N, .inl (fun _ => 0)))]) (k + 1) (sl + N)) : GN x Q n w pc lv (.int m :: st) ws k sl := by
  intro H locs ls hP hD hS hl
  refine va_newa C.1 C.2.1 (atype := .int) (C.2.2.2.2.1 _ ac_int) (ty := .int) rfl C.2.2.2.2.2.1 hP hD hS C.2.2.2.2.2.2.2.2.2 (a0 := (N, .inl (fun _ => 0))) (fun _ => rfl) hn hN hb hcells hslots hdg (fun q cA H1 hK1 hP1 hD1 hS1 => ?_)
  have e : cA = cI w := wT_at C.2.2.2.2.2.1 hK1 (i := 0) rfl
  rw [e] at hP1 hD1
  exact kk q H1 locs ls hP1 hD1 hS1 hl
theorem gn_newJ (C : Cn x cc own n w ret) {m : Int32} {N : Nat} (hn : ¬ m < 0) (hN : m.toNatClampNeg = N) (hb : N * 8 ≤ 536870912) (hcells : k + 1 ≤ (kR x).cells) (hslots : sl + N ≤ (kR x).slots) (hdg : decode cc pc = .ok (.newarray .long, 2)) (kk : ∀ q, GN x Q n w (pc + 2) lv (.ref q :: st) (ws ++ [(q, .inl (cJ w, N, .inr (.inl (fun _ => 0))))]) (k + 1) (sl + N)) : GN x Q n w pc lv (.int m :: st) ws k sl := by
  intro H locs ls hP hD hS hl
  refine va_newa C.1 C.2.1 (atype := .long) (C.2.2.2.2.1 _ ac_long) (ty := .long) rfl C.2.2.2.2.2.1 hP hD hS C.2.2.2.2.2.2.2.2.2 (a0 := (N, .inr (.inl (fun _ => 0)))) (fun _ => rfl) hn hN hb hcells hslots hdg (fun q cA H1 hK1 hP1 hD1 hS1 => ?_)
  have e : cA = cJ w := wT_at C.2.2.2.2.2.1 hK1 (i := 1) rfl
  rw [e] at hP1 hD1
  exact kk q H1 locs ls hP1 hD1 hS1 hl
theorem gn_newR (C : Cn x cc own n w ret) {m : Int32} {N index : Nat} (h1 : Cond.classLink own index "ElderPapers$Sheet" ∈ GW) (hn : ¬ m < 0) (hN : m.toNatClampNeg = N) (hb : N * 4 ≤ 536870912) (hcells : k + 1 ≤ (kR x).cells) (hslots : sl + N ≤ (kR x).slots) (hdg : decode cc pc = .ok (.anewarray index, 3)) (kk : ∀ q, GN x Q n w (pc + 3) lv (.ref q :: st) (ws ++ [(q, .inl (cR w, N, .inr (.inr (.inr (.inr (fun _ => none))))))]) (k + 1) (sl + N)) : GN x Q n w pc lv (.int m :: st) ws k sl := by
  intro H locs ls hP hD hS hl
  refine va_newq C.1 C.2.1 C.2.2.2.1 (C.2.2.2.2.1 _ h1) C.2.2.2.2.2.2.1.2 C.2.2.2.2.2.1 hP hD hS C.2.2.2.2.2.2.2.2.2 hn hN hb hcells hslots hdg (fun q cA H1 hK1 hP1 hD1 hS1 => ?_)
  have e : cA = cR w := wT_at C.2.2.2.2.2.1 hK1 (i := 2) rfl
  rw [e] at hP1 hD1
  exact kk q H1 locs ls hP1 hD1 hS1 hl
theorem gn_put (C : Cn x cc own n w ret) {ref R : String} {T : u_T} {N ci f index a : Nat} {v : Value} {ty : FieldType} (ty0 : Nat → FieldType) (hty : ∀ k, k < N → parseFieldDescriptor (T k).2.2.1 = some (ty0 k)) (hnm : ∀ a, a < N → ∀ b, b < N → a ≠ b → (T a).2.1 ≠ (T b).2.1) (hcl : vwCl[ci]? = some (R, T, N)) (hin : ∀ u ∈ u_ws R T N, u ∈ GW) (q0 : Nat) {fs : List Value} (he : ws[q0]? = some (a, .inr (ci, fs))) (hf : f < N) (hlink : Cond.fieldLink own index ref (T f).2.1 (T f).2.2.1 ∈ GW) (hr : (T f).1 = ref) (hfin : (T f).2.2.2 = false ∨ (T f).2.2.2 = true ∧ (kh x).name = "<init>" ∧ (T f).1 = own) (ht : ty0 f = ty) (hn : narrow ty v = v) (hfit : fits ty v = true) (hl9 : f < fs.length) (hdg : decode cc pc = .ok (.putfield index, 3)) (kk : GN x Q n w (pc + 3) lv st (ws.set q0 (a, .inr (ci, fs.set f v))) k sl) : GN x Q n w pc lv (v :: .ref a :: st) ws k sl := by
  intro H locs ls hP hD hS hl
  rcases hfin with hfin | ⟨hfin, hnm2, hdecl⟩
  · exact va_put C.1 C.2.1 C.2.2.2.2.1 hin ty0 hty hnm C.2.2.2.1 C.2.2.2.2.2.1 hP hD hS q0 he hcl f hf (C.2.2.2.2.1 _ hlink) (fun z hz => by rw [← hr]; exact hz) hfin (ty := ty) (by rw [hty f hf, ht]) hn hfit hl9 hdg (fun H1 locs1 hP1 hD1 hS1 => kk H1 locs1 ls hP1 hD1 hS1 hl)
  · exact va_putF C.1 C.2.1 C.2.2.2.2.1 hin ty0 hty hnm C.2.2.2.1 C.2.2.2.2.2.1 hP hD hS q0 he hcl f hf (C.2.2.2.2.1 _ hlink) (fun z hz => by rw [← hr]; exact hz) hfin hnm2 hdecl (ty := ty) (by rw [hty f hf, ht]) hn hfit hl9 hdg (fun H1 locs1 hP1 hD1 hS1 => kk H1 locs1 ls hP1 hD1 hS1 hl)
theorem gn_get (C : Cn x cc own n w ret) {ref R : String} {T : u_T} {N ci f index a : Nat} {v : Value} (hcl : vwCl[ci]? = some (R, T, N)) (hin : ∀ u ∈ u_ws R T N, u ∈ GW) (q0 : Nat) {fs : List Value} (he : ws[q0]? = some (a, .inr (ci, fs))) (hf : f < N) (hlink : Cond.fieldLink own index ref (T f).2.1 (T f).2.2.1 ∈ GW) (hr : (T f).1 = ref) (hv : fs[f]? = some v) (hdg : decode cc pc = .ok (.getfield index, 3)) (kk : GN x Q n w (pc + 3) lv (v :: st) ws k sl) : GN x Q n w pc lv (.ref a :: st) ws k sl := fun H locs ls hP hD hS hl => va_get C.1 C.2.1 C.2.2.2.2.1 hin C.2.2.2.1 C.2.2.2.2.2.1 hP q0 he hcl f hf (C.2.2.2.2.1 _ hlink) (fun z hz => by rw [← hr]; exact hz) hv hdg (kk H locs ls hP hD hS hl)
theorem gn_iast (C : Cn x cc own n w ret) {a N : Nat} {f : Nat → Int32} {i v : Int32} (q0 : Nat) (he : ws[q0]? = some (a, .inl (cI w, N, .inl f))) (hi : vp_in i N) (hdg : decode cc pc = .ok (.iastore, 1)) (kk : GN x Q n w (pc + 1) lv st (ws.set q0 (a, .inl (cI w, N, .inl (upd f i.toNatClampNeg v)))) k sl) : GN x Q n w pc lv (.int v :: .int i :: .ref a :: st) ws k sl := fun H locs ls hP hD hS hl => va_iast C.1 C.2.1 C.2.2.2.2.2.1 hP hD hS q0 0 he rfl hi hdg (fun H1 locs1 hP1 hD1 hS1 => kk H1 locs1 ls hP1 hD1 hS1 hl)
theorem gn_astq (C : Cn x cc own n w ret) {a N v : Nat} {f : Nat → Option Nat} {i : Int32} {vs : List Value} (q0 qk : Nat) (he : ws[q0]? = some (a, .inl (cR w, N, .inr (.inr (.inr (.inr f)))))) (hv : ws[qk]? = some (v, .inr (4, vs))) (hi : vp_in i N) (hdg : decode cc pc = .ok (.aastore, 1)) (kk : GN x Q n w (pc + 1) lv st (ws.set q0 (a, .inl (cR w, N, .inr (.inr (.inr (.inr (va_up f i.toNatClampNeg (some v)))))))) k sl) : GN x Q n w pc lv (.ref v :: .int i :: .ref a :: st) ws k sl := fun H locs ls hP hD hS hl => va_astq C.1 C.2.1 C.2.2.2.2.2.1 hP hD hS q0 2 qk 4 (r := (RX4, TX4, 3)) he rfl hv rfl hi hdg (fun H1 locs1 hP1 hD1 hS1 => kk H1 locs1 ls hP1 hD1 hS1 hl)
/-- a constructor's contract: from the blank object, the cells that there are then -/
def CTb (b ci : Nat) (fs : List Value) : va_W := [(b, .inr (ci, fs))]
abbrev PN0 (args : List Value) (w : WX) (b ci : Nat) (fs : List Value) (sz : Nat) : Array Value → State → Prop := va_Pc args (fun U => U.heap.size = sz ∧ va_P (wG w) vwCl (CTb b ci fs) U.heap ∧ va_K (wG w) vwCl (wT w) U ∧ EX w (va_A (CTb b ci fs) sz) U)
abbrev QN0 (w : WX) (Post : va_W → Prop) (A : Nat → Prop) : Array Value → State → Outcome → State → Prop := va_Qv (fun (_ : Unit) => True) (fun _ t => ∃ w1, Post w1 ∧ va_P (wG w) vwCl w1 t.heap ∧ va_D A w1) A
def CT (l : Launch) (y : MethodName) (wds : List Cond) (rm : Room) (As : List Value) (w : WX) (b ci : Nat) (fs : List Value) (Post : va_W → Prop) (mc ms : Nat) : Prop :=
  ∀ sz, Met l y wds rm (PN0 (.ref b :: As) w b ci fs sz) (QN0 w Post (va_A (CTb b ci fs) sz)) mc ms (va_A (CTb b ci fs) sz)
theorem PN0_blind (args : List Value) (w : WX) (b ci : Nat) (fs : List Value) (sz : Nat) : FrameBlind (PN0 args w b ci fs sz) := by
  intro a U g mk h
  obtain ⟨h1, hz, hP, hK, ⟨z0, z1, z2, z3, z4, z5, z6⟩, hO⟩ := h
  exact ⟨h1, hz, hP, va_K.moved (u := U) (U := U.calling g mk a) (Vm.Alike.refl U.vm) hK, ⟨fun q hq => va_Nw.same (u := U) (U := U.calling g mk a) rfl rfl (z0 q hq), va_Z.moved (u := U) (U := U.calling g mk a) (Vm.Alike.refl U.vm) z1, va_T.moved (u := U) (U := U.calling g mk a) (Vm.Alike.refl U.vm) z2, vk_S.moved (u := U) (U := U.calling g mk a) (Vm.Alike.refl U.vm) z3, fun i hi => vk_R.same (u := U) (U := U.calling g mk a) rfl (z4 i hi), va_Z.moved (u := U) (U := U.calling g mk a) (Vm.Alike.refl U.vm) z5, va_Zq.moved (u := U) (U := U.calling g mk a) (Vm.Alike.refl U.vm) z6⟩, va_AO.moved (u := U) (U := U.calling g mk a) (Vm.Alike.refl U.vm) hO⟩
theorem PN0_at {args : List Value} {H : Heap} {locs : List Loc} {b ci : Nat} {fs : List Value} (C : Cn x cc own n w ret) (hP : va_P (wG w) vwCl (ws ++ [(b, .inr (ci, fs))]) H) (hF : ∀ q, va_A (CTb b ci fs) H.size q → kA x q) (hS : va_S (kA x) (ks x).heap H locs) (U : State) (hU : U.heap = H) (hW : (ks x).WarmedH U.vm) : PN0 args w b ci fs H.size args.toArray U := by
  refine ⟨rfl, by rw [hU], ?_, va_K.moved hW.alike C.2.2.2.2.2.1, (C.2.2.2.2.2.2.1.go hW (fun a h1 h2 => by rw [hU]; exact hS.2.1 a h1 h2)).narrow hF⟩
  rw [hU]
  intro k q hk
  have hl : k < 1 := (List.getElem?_eq_some_iff.mp hk).1
  obtain rfl : k = 0 := by omega
  refine hP ws.length q ?_
  rw [List.getElem?_append_right (Nat.le_refl _), Nat.sub_self]
  exact hk
/-- behind a constructor: what was there, and its cells -/
theorem CT_join {b ci : Nat} {fs : List Value} {H H1 : Heap} {w1 : va_W} {A0 : Nat → Prop} (hP : va_P (wG w) vwCl (ws ++ [(b, .inr (ci, fs))]) H) (hD : va_D A0 (ws ++ [(b, .inr (ci, fs))])) (hF : ∀ q, va_A (CTb b ci fs) H.size q → A0 q) (hk : ∀ q : Nat, q < H.size → ¬ va_A (CTb b ci fs) H.size q → H1[q]? = H[q]?) (hP1 : va_P (wG w) vwCl w1 H1) (hD1 : va_D (va_A (CTb b ci fs) H.size) w1) : va_P (wG w) vwCl (ws ++ w1) H1 ∧ va_D A0 (ws ++ w1) := by
  have lft : ∀ (i : Nat) (q : Nat × va_E), ws[i]? = some q → (ws ++ [(b, .inr (ci, fs))])[i]? = some q := fun i q h => by
    rw [List.getElem?_append_left (List.getElem?_eq_some_iff.mp h).1]; exact h
  have lst : (ws ++ [(b, .inr (ci, fs))] : va_W)[ws.length]? = some (b, .inr (ci, fs)) := by
    rw [List.getElem?_append_right (Nat.le_refl _), Nat.sub_self]; rfl
  have apart : ∀ (i : Nat) (q : Nat × va_E), ws[i]? = some q → q.1 < H.size ∧ ¬ va_A (CTb b ci fs) H.size q.1 := by
    intro i q hq
    have hl := (hP i q (lft i q hq)).lt
    refine ⟨hl, fun h => ?_⟩
    rcases h with ⟨k2, e, h⟩ | h
    · have hl2 : k2 < 1 := (List.getElem?_eq_some_iff.mp h).1
      obtain rfl : k2 = 0 := by omega
      have e0 : (b, Sum.inr (ci, fs)) = (q.1, e) := Option.some.inj h
      have := hD.1 i ws.length q _ (lft i q hq) lst (congrArg Prod.fst e0).symm
      have := (List.getElem?_eq_some_iff.mp hq).1
      omega
    · omega
  refine ⟨va_P.app (fun i q hq => ?_) hP1, va_D.app ⟨fun i j p q hi hj e => hD.1 i j p q (lft i p hi) (lft j q hj) e, fun i q hq => hD.2 i q (lft i q hq)⟩ (hD1.weaken (fun i q _ h => hF q.1 h)) (fun i j p q hp hq e => ?_)⟩
  · obtain ⟨g1, g2⟩ := apart i q hq
    exact (hP i q (lft i q hq)).kept (hk q.1 g1 g2)
  · exact (apart i p hp).2 (by rw [e]; exact hD1.2 j q hq)
theorem CT_free {b ci : Nat} {fs : List Value} {H : Heap} {locs : List Loc} (C : Cn x cc own n w ret) (hD : va_D (kA x) (ws ++ [(b, .inr (ci, fs))])) (hS : va_S (kA x) (ks x).heap H locs) : ∀ q, va_A (CTb b ci fs) H.size q → kA x q := by
  intro q h
  rcases h with ⟨k2, e, h⟩ | h
  · have hl2 : k2 < 1 := (List.getElem?_eq_some_iff.mp h).1
    obtain rfl : k2 = 0 := by omega
    have e0 : (b, Sum.inr (ci, fs)) = (q, e) := Option.some.inj h
    have := hD.2 ws.length (b, .inr (ci, fs)) (by rw [List.getElem?_append_right (Nat.le_refl _), Nat.sub_self]; rfl)
    have e1 : b = q := congrArg Prod.fst e0
    rw [← e1]
    exact this
  · exact C.2.2.2.2.2.2.2.2.2 q (Nat.le_trans hS.1 h)
theorem gn_ctor (C : Cn x cc own n w ret) {y : MethodName} {wds : List Cond} {bytes : ByteArray} {maxL index nA b ci mc ms : Nat} {fs : List Value} {rm : Room} {Post : va_W → Prop} (As : List Value) (hM : CT (kl x) y wds rm As w b ci fs Post mc ms) (cw : CallB (kR x) (ks x) (kg x) own index y bytes maxL none wds rm mc ms nA ∧ y.name = "<init>" ∧ (Cond.instanceMethod y).before (kg x) (ks x) = true) (hn : As.length = nA) (st' : List Value) (hst : As.reverse ++ .ref b :: st = st') (hr : (st.map fun v => v.category).sum ≤ 8) (hdg : decode cc pc = .ok (.invokespecial index, 3)) (hf : k + mc ≤ (kR x).cells ∧ sl + ms ≤ (kR x).slots) (kk : ∀ w1, Post w1 → GN x Q n w (pc + 3) lv st (ws ++ w1) (k + mc) (sl + ms)) : GN x Q n w pc lv st' (ws ++ [(b, .inr (ci, fs))]) k sl := by
  subst hst
  intro H locs ls hP hD hS hl
  have hF := CT_free C hD hS
  refine va_callv (va_runI (As := As) (rest := st) C.fix (hM H.size) cw ⟨PN0_blind _ _ _ _ _ _, PN0_at C hP hF hS⟩ rfl hn hl.1 rfl (lv_room hr) hdg hf) hS (fun q _ h => hF q h) hF (fun u t H1 locs1 ht hvm hw hB hz hkk hS1 => ?_)
  obtain ⟨w1, b1, b2, b3⟩ := hB
  rw [ht] at b2
  obtain ⟨j1, j2⟩ := CT_join hP hD hF hkk b2 b3
  exact kk w1 b1 H1 locs1 ls j1 j2 hS1 hl
theorem gn_ctorN (C : Cn x cc own n w ret) {y : MethodName} {host : String} {wds : List Cond} {bytes : ByteArray} {maxL index nA b ci mc ms : Nat} {fs : List Value} {rm : Room} {Post : va_W → Prop} (As : List Value) (hM : CT (kl x) y wds rm As w b ci fs Post mc ms) (cw : va_CN (kR x) (ks x) (kg x) own index y host bytes maxL none wds rm mc ms nA ∧ y.name = "<init>" ∧ (Cond.instanceMethod y).before (kg x) (ks x) = true) (hn : As.length = nA) (st' : List Value) (hst : As.reverse ++ .ref b :: st = st') (hr : (st.map fun v => v.category).sum ≤ 8) (hdg : decode cc pc = .ok (.invokespecial index, 3)) (hf : k + mc ≤ (kR x).cells ∧ sl + ms ≤ (kR x).slots) (kk : ∀ w1, Post w1 → GN x Q n w (pc + 3) lv st (ws ++ w1) (k + mc) (sl + ms)) : GN x Q n w pc lv st' (ws ++ [(b, .inr (ci, fs))]) k sl := by
  subst hst
  intro H locs ls hP hD hS hl
  have hF := CT_free C hD hS
  refine va_callv (va_runIN (As := As) (rest := st) C.fix (hM H.size) cw ⟨PN0_blind _ _ _ _ _ _, PN0_at C hP hF hS⟩ rfl hn hl.1 rfl (lv_room hr) hdg hf) hS (fun q _ h => hF q h) hF (fun u t H1 locs1 ht hvm hw hB hz hkk hS1 => ?_)
  obtain ⟨w1, b1, b2, b3⟩ := hB
  rw [ht] at b2
  obtain ⟨j1, j2⟩ := CT_join hP hD hF hkk b2 b3
  exact kk w1 b1 H1 locs1 ls j1 j2 hS1 hl
/-- words of a constructor that is called -/
theorem cn_cw (C : Cn x cc own n w ret) {rm0 rm' : Room} (hR : kR x = rm0) {index maxL nA mc ms : Nat} {y : MethodName} {bytes : ByteArray} (h1 : Cond.methodLink own index y ∈ GW) (h2 : Cond.instanceMethod y ∈ GW) (h4 : Cond.initialized y.cls ∈ GW) (h5 : Cond.code y bytes maxL none ∈ GW) (hy : y.name = "<init>") (hd : y.cls ≠ "java/lang/invoke/MethodHandle" ∧ y.cls ≠ "java/lang/invoke/VarHandle" ∧ (parseMethodDescriptor y.desc).map (fun d => d.parameters.length) = some nA) (hr : (rm'.frames + 1 ≤ rm0.frames ∧ 8 + (maxL + 11) + rm'.locals ≤ rm0.locals) ∧ rm'.cells = mc ∧ rm'.slots = ms) : CallB (kR x) (ks x) (kg x) own index y bytes maxL none (wz y bytes maxL none) rm' mc ms nA ∧ y.name = "<init>" ∧ (Cond.instanceMethod y).before (kg x) (ks x) = true :=
  cwI nA C.2.2.2.2.1 (gi_N h5) rfl hr.2.1 hr.2.2 (C.2.2.2.2.1 _ h4) (C.2.2.2.2.1 _ h1) (C.2.2.2.2.1 _ h2) hy hd (by rw [hR]; exact hr.1)
theorem cn_cwN (C : Cn x cc own n w ret) {rm0 rm' : Room} (hR : kR x = rm0) {host : String} {index maxL nA mc ms : Nat} {y : MethodName} {bytes : ByteArray} (hq : (own, index, y, host) ∈ nstL) (h2 : Cond.instanceMethod y ∈ GW) (h4 : Cond.initialized y.cls ∈ GW) (h5 : Cond.code y bytes maxL none ∈ GW) (hy : y.name = "<init>") (hd : y.cls ≠ "java/lang/invoke/MethodHandle" ∧ y.cls ≠ "java/lang/invoke/VarHandle" ∧ (parseMethodDescriptor y.desc).map (fun d => d.parameters.length) = some nA) (hr : (rm'.frames + 1 ≤ rm0.frames ∧ 8 + (maxL + 11) + rm'.locals ≤ rm0.locals) ∧ rm'.cells = mc ∧ rm'.slots = ms) : va_CN (kR x) (ks x) (kg x) own index y host bytes maxL none (wz y bytes maxL none) rm' mc ms nA ∧ y.name = "<init>" ∧ (Cond.instanceMethod y).before (kg x) (ks x) = true :=
  ⟨va_cnB nA C.2.2.2.2.1 (gi_N h5) rfl hr.2.1 hr.2.2 (C.2.2.2.2.2.2.1.1.1 _ hq) (C.2.2.2.2.1 _ h4) hd (by rw [hR]; exact hr.1), hy, C.2.2.2.2.1 _ h2⟩
abbrev QNm (x : KX) (w : WX) (Post : va_W → Prop) (mc ms : Nat) : State → Prop := MQ (kb x) (QN0 w Post (kA x)) (kg x) (ks x) mc ms (kA x)
theorem gn_ret {Post : va_W → Prop} (C : Cn x cc own n w none) (hdg : decode cc pc = .ok (.return_, 1)) (hp : Post ws) : GN x (QNm x w Post k sl) n w pc lv [] ws k sl := fun H locs ls hP hD hS hl => W.vret C.1 C.2.1 C.2.2.2.2.2.2.2.2.1 (fun t ht hW => ⟨⟨(), rfl, trivial, ws, hp, by rw [ht]; exact hP, hD⟩, hS.F ht⟩) hS.2.2 hdg C.2.2.2.2.2.2.2.1
end CTOR
theorem ctor_start {l : Launch} {y : MethodName} {cc : ByteArray} {own : String} {w : WX} {rm : Room} {maxL b ci mc ms : Nat} {fs : List Value} {As : List Value} {Post : va_W → Prop} (hy : plainName y.cls = true) (hyc : y.cls = own) (hyn : y.name = "<init>") (hlen : (lg_sl (.ref b :: As)).length ≤ maxL)
    (body : ∀ x : KX, Cn x cc own maxL w none → kR x = rm → kl x = l → (kh x).name = "<init>" → GN x (QNm x w Post mc ms) maxL w 0 (lv_args 0 (.ref b :: As)) [] (CTb b ci fs) 0 0) : CT l y (wz y cc maxL none) rm As w b ci fs Post mc ms := by
  intro sz
  refine Met.ofW (cc := cc) (maxL := maxL) (ret := none) hy rfl ?_
  intro p e s0 m as below meth c s₁ B hml hv
  obtain ⟨rfl, hsz, hP, hK, hZ⟩ := hv
  subst hsz
  have hts0 := atoms_spec (ws := wz y cc maxL none) B.pre
  have hts : ∀ c ∈ GW, c.before (Value.ref b :: As).toArray s0 = true := fun c hc => hts0 c (List.mem_cons_of_mem _ hc)
  have hown : s0.vm.findClass own = some m.cls := hyc ▸ findClass_of_methodNamed B.named
  have hin : meth.name = "<init>" := hyn ▸ (name_of_methodNamed B.named B.method).1
  have hl := lv_entry (.ref b :: As) (n := maxL) hlen
  rw [lg_entry_eq]
  have hD : va_D (va_A (CTb b ci fs) s0.heap.size) (CTb b ci fs) := by
    refine ⟨fun i j p q hi hj _ => ?_, fun k q hk => va_A.in hk⟩
    have h1 : i < 1 := (List.getElem?_eq_some_iff.mp hi).1
    have h2 : j < 1 := (List.getElem?_eq_some_iff.mp hj).1
    omega
  exact body (p, l, e, rm, s0, m, (Value.ref b :: As).toArray, below, meth, c, 0, 0, va_A (CTb b ci fs) s0.heap.size) ⟨B.exec, B.bytes, hml, hown, hts, hK, hZ, B.notSynchronized, B.returns, fun _ h => Or.inr h⟩ rfl rfl hin s0.heap [] _ hP hD va_S.rf hl
