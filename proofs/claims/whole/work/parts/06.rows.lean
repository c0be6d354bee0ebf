-- one method's walk: x is where it stands, C what holds there
abbrev KX : Type := Program × Launch × Env × Room × State × MethodId × Array Value × List Frame × Method × Code × Nat × Nat × (Nat → Prop)
abbrev kp (x : KX) : Program := x.1
abbrev kl (x : KX) : Launch := x.2.1
abbrev ke (x : KX) : Env := x.2.2.1
abbrev kR (x : KX) : Room := x.2.2.2.1
abbrev ks (x : KX) : State := x.2.2.2.2.1
abbrev km (x : KX) : MethodId := x.2.2.2.2.2.1
abbrev kg (x : KX) : Array Value := x.2.2.2.2.2.2.1
abbrev kb (x : KX) : List Frame := x.2.2.2.2.2.2.2.1
abbrev kh (x : KX) : Method := x.2.2.2.2.2.2.2.2.1
abbrev kc (x : KX) : Code := x.2.2.2.2.2.2.2.2.2.1
abbrev kcl (x : KX) : Nat := x.2.2.2.2.2.2.2.2.2.2.1
abbrev ksl (x : KX) : Nat := x.2.2.2.2.2.2.2.2.2.2.2.1
abbrev kA (x : KX) : Nat → Prop := x.2.2.2.2.2.2.2.2.2.2.2.2
abbrev WK (x : KX) (H : Heap) (locs : List Loc) (Q : State → Prop) (g : JFrame) : Prop := W (kp x) (kl x) (ke x) (kR x) (ks x) (km x) (kg x) (kb x) (kh x) (kc x) H locs (kcl x) (ksl x) Q g
def G (x : KX) (Q : State → Prop) (n : Nat) (w : WX) (pc : Nat) (lv : List (Nat × Value)) (st : List Value) (s : Mem) : Prop :=
  ∀ (H : Heap) (locs : List Loc) (ls : Array Slot), va_P (wG w) vwCl (wl w s) H → va_D (kA x) (wl w s) → va_S (kA x) (ks x).heap H locs → lv_has ls n lv → WK x H locs Q (F0 (km x) pc ls st)
def Cx (x : KX) (cc : ByteArray) (own : String) (n : Nat) (w : WX) (ret : Option FieldType) : Prop :=
  (kp x).tables.exec = Jvm.exec ∧ (kc x).code = cc ∧ (kc x).maxLocals = n ∧ (ks x).vm.findClass own = some (km x).cls ∧ (∀ c ∈ GW, c.before (kg x) (ks x) = true) ∧ va_K (wG w) vwCl (wT w) (ks x) ∧ ST w (kA x) (ks x) ∧ (kh x).locks = false ∧ (kh x).sig.returnType = ret ∧ (∀ q, wA w q → kA x q) ∧ kcl x ≤ (kR x).cells ∧ ksl x ≤ (kR x).slots
theorem Cx.fix {x : KX} {cc : ByteArray} {own : String} {n : Nat} {w : WX} {ret : Option FieldType} (C : Cx x cc own n w ret) : CallFix (kp x) (km x) (kc x) cc n (ks x) (kg x) GW own := ⟨C.1, C.2.1, C.2.2.1, C.2.2.2.1, C.2.2.2.2.1⟩
def wz (y : MethodName) (b : ByteArray) (n : Nat) (r : Option FieldType) : List Cond := .code y b n r :: GW
theorem gi_N {y : MethodName} {b : ByteArray} {n : Nat} {r : Option FieldType} (h5 : Cond.code y b n r ∈ GW) : GoodIn GW (wz y b n r) := fun w hw => by
  rcases List.mem_cons.mp hw with h | h
  · subst h; exact ⟨h5, GW_good h5⟩
  · exact ⟨h, GW_good h⟩
theorem gi_V {own R : String} {i : Nat} {y : MethodName} {b : ByteArray} {n : Nat} {r : Option FieldType} (h1 : Cond.methodLink own i y ∈ GW) (h2 : Cond.instanceMethod y ∈ GW) (h3 : Cond.selects R y y ∈ GW) (h4 : Cond.initialized R ∈ GW) (h5 : Cond.code y b n r ∈ GW) : GoodIn GW (wsV own i R y (wz y b n r)) := fun w hw => by
  rcases List.mem_append.mp hw with h | h
  · have hm : w ∈ GW := by
      simp only [List.mem_cons, List.not_mem_nil, or_false] at h
      rcases h with rfl | rfl | rfl | rfl <;> assumption
    exact ⟨hm, GW_good hm⟩
  · exact gi_N h5 w h
theorem gi_S {own : String} {i : Nat} {y : MethodName} {b : ByteArray} {n : Nat} {r : Option FieldType} (h1 : Cond.methodLink own i y ∈ GW) (h2 : Cond.static y ∈ GW) (h4 : Cond.initialized y.cls ∈ GW) (h5 : Cond.code y b n r ∈ GW) : GoodIn GW (va_wsS own i y (wz y b n r)) := fun w hw => by
  rcases List.mem_append.mp hw with h | h
  · have hm : w ∈ GW := by
      simp only [List.mem_cons, List.not_mem_nil, or_false] at h
      rcases h with rfl | rfl | rfl <;> assumption
    exact ⟨hm, GW_good hm⟩
  · exact gi_N h5 w h
def imax (a b : Int32) : Int32 := if a < b then b else a
def imin (a b : Int32) : Int32 := if b < a then b else a
def lmax (a b : Int64) : Int64 := if b < a then a else b
section ROWS
variable {x : KX} {cc : ByteArray} {own : String} {n : Nat} {w : WX} {ret : Option FieldType} {Q : State → Prop} {pc : Nat} {lv lv' : List (Nat × Value)} {st : List Value} {s : Mem} {α : Type} {X Y : Option α} {q : α}
theorem g_sub (ps : List Nat) (hl : lv_pick lv ps = lv') (k : G x Q n w pc lv' st s) : G x Q n w pc lv st s := fun H locs ls hP hD hS hl' => k H locs ls hP hD hS (lv_sub hl' ps hl)
theorem g_iconst (C : Cx x cc own n w ret) {i : Int} {v : Int32} (hdg : decode cc pc = .ok (.iconst i, 1)) (hv : Int32.ofInt i = v) (k : G x Q n w (pc + 1) lv (.int v :: st) s) : G x Q n w pc lv st s := fun H locs ls hP hD hS hl => lv_iconst C.1 C.2.1 hdg hv (k H locs ls hP hD hS hl)
theorem g_bipush (C : Cx x cc own n w ret) {i : Int} {v : Int32} (hdg : decode cc pc = .ok (.bipush i, 2)) (hv : (Int8.ofInt i).toInt32 = v) (k : G x Q n w (pc + 2) lv (.int v :: st) s) : G x Q n w pc lv st s := fun H locs ls hP hD hS hl => lv_bipush C.1 C.2.1 hdg hv (k H locs ls hP hD hS hl)
theorem g_sipush (C : Cx x cc own n w ret) {i : Int} {v : Int32} (hdg : decode cc pc = .ok (.sipush i, 3)) (hv : (Int16.ofInt i).toInt32 = v) (k : G x Q n w (pc + 3) lv (.int v :: st) s) : G x Q n w pc lv st s := fun H locs ls hP hD hS hl => lv_sipush C.1 C.2.1 hdg hv (k H locs ls hP hD hS hl)
theorem g_lconst (C : Cx x cc own n w ret) {i : Fin 2} {v : Int64} (hdg : decode cc pc = .ok (.lconst i, 1)) (hv : Int64.ofNat (i : Nat) = v) (k : G x Q n w (pc + 1) lv (.long v :: st) s) : G x Q n w pc lv st s := fun H locs ls hP hD hS hl => lv_lconst C.1 C.2.1 hdg hv (k H locs ls hP hD hS hl)
theorem g_ldc (C : Cx x cc own n w ret) {index : Nat} {v : Int32} (hdg : decode cc pc = .ok (.ldc index, 2)) (hc : Jvm.Cond.constant own index v ∈ GW) (k : G x Q n w (pc + 2) lv (.int v :: st) s) : G x Q n w pc lv st s := fun H locs ls hP hD hS hl => lv_ldc C.1 C.2.1 C.2.2.2.1 (C.2.2.2.2.1 _ hc) hdg (k H locs ls hP hD hS hl)
theorem g_ldcw (C : Cx x cc own n w ret) {index : Nat} {v : Int32} (hdg : decode cc pc = .ok (.ldc_w index, 3)) (hc : Jvm.Cond.constant own index v ∈ GW) (k : G x Q n w (pc + 3) lv (.int v :: st) s) : G x Q n w pc lv st s := fun H locs ls hP hD hS hl => lv_ldcw C.1 C.2.1 C.2.2.2.1 (C.2.2.2.2.1 _ hc) hdg (k H locs ls hP hD hS hl)
theorem g_ldc2 (C : Cx x cc own n w ret) {index : Nat} {v : Int64} (hdg : decode cc pc = .ok (.ldc2_w index, 3)) (hc : Jvm.Cond.constantLong own index v ∈ GW) (k : G x Q n w (pc + 3) lv (.long v :: st) s) : G x Q n w pc lv st s := fun H locs ls hP hD hS hl => lv_ldc2 C.1 C.2.1 C.2.2.2.1 (C.2.2.2.2.1 _ hc) hdg (k H locs ls hP hD hS hl)
theorem g_iload_n (C : Cx x cc own n w ret) {k : Fin 4} {i : Nat} {v : Int32} (hdg : decode cc pc = .ok (.iload_n k, 1)) (hi : (k : Nat) = i) (j : Nat) (hj : lv[j]? = some (i, .int v)) (kk : G x Q n w (pc + 1) lv (.int v :: st) s) : G x Q n w pc lv st s := fun H locs ls hP hD hS hl => lv_iload_n C.1 C.2.1 hdg hi (lv_at hl j hj) (kk H locs ls hP hD hS hl)
theorem g_iload (C : Cx x cc own n w ret) {i : Nat} {v : Int32} (hdg : decode cc pc = .ok (.iload i, 2)) (j : Nat) (hj : lv[j]? = some (i, .int v)) (kk : G x Q n w (pc + 2) lv (.int v :: st) s) : G x Q n w pc lv st s := fun H locs ls hP hD hS hl => lv_iload C.1 C.2.1 hdg (lv_at hl j hj) (kk H locs ls hP hD hS hl)
theorem g_lload_n (C : Cx x cc own n w ret) {k : Fin 4} {i : Nat} {v : Int64} (hdg : decode cc pc = .ok (.lload_n k, 1)) (hi : (k : Nat) = i) (j : Nat) (hj : lv[j]? = some (i, .long v)) (kk : G x Q n w (pc + 1) lv (.long v :: st) s) : G x Q n w pc lv st s := fun H locs ls hP hD hS hl => lv_lload_n C.1 C.2.1 hdg hi (lv_at hl j hj) (kk H locs ls hP hD hS hl)
theorem g_lload (C : Cx x cc own n w ret) {i : Nat} {v : Int64} (hdg : decode cc pc = .ok (.lload i, 2)) (j : Nat) (hj : lv[j]? = some (i, .long v)) (kk : G x Q n w (pc + 2) lv (.long v :: st) s) : G x Q n w pc lv st s := fun H locs ls hP hD hS hl => lv_lload C.1 C.2.1 hdg (lv_at hl j hj) (kk H locs ls hP hD hS hl)
theorem g_aload_n (C : Cx x cc own n w ret) {k : Fin 4} {i : Nat} {v : Nat} (hdg : decode cc pc = .ok (.aload_n k, 1)) (hi : (k : Nat) = i) (j : Nat) (hj : lv[j]? = some (i, .ref v)) (kk : G x Q n w (pc + 1) lv (.ref v :: st) s) : G x Q n w pc lv st s := fun H locs ls hP hD hS hl => lv_aload_n C.1 C.2.1 hdg hi (lv_at hl j hj) (kk H locs ls hP hD hS hl)
theorem g_aload (C : Cx x cc own n w ret) {i : Nat} {v : Nat} (hdg : decode cc pc = .ok (.aload i, 2)) (j : Nat) (hj : lv[j]? = some (i, .ref v)) (kk : G x Q n w (pc + 2) lv (.ref v :: st) s) : G x Q n w pc lv st s := fun H locs ls hP hD hS hl => lv_aload C.1 C.2.1 hdg (lv_at hl j hj) (kk H locs ls hP hD hS hl)
theorem g_istore_n (C : Cx x cc own n w ret) {k : Fin 4} {i : Nat} {v : Int32} (hdg : decode cc pc = .ok (.istore_n k, 1)) (hi : (k : Nat) = i) (hn : i < n) (hl : (i, Value.int v) :: lv.filter (fun q => !(q.1 == i) && !(q.1 + 1 == i && q.2.category == 2)) = lv') (kk : G x Q n w (pc + 1) lv' st s) : G x Q n w pc lv (.int v :: st) s := fun H locs ls hP hD hS h => lv_istore_n C.1 C.2.1 hdg hi h hn hl (fun ls' h' => kk H locs ls' hP hD hS h')
theorem g_istore (C : Cx x cc own n w ret) {i : Nat} {v : Int32} (hdg : decode cc pc = .ok (.istore i, 2)) (hn : i < n) (hl : (i, Value.int v) :: lv.filter (fun q => !(q.1 == i) && !(q.1 + 1 == i && q.2.category == 2)) = lv') (kk : G x Q n w (pc + 2) lv' st s) : G x Q n w pc lv (.int v :: st) s := fun H locs ls hP hD hS h => lv_istore C.1 C.2.1 hdg h hn hl (fun ls' h' => kk H locs ls' hP hD hS h')
theorem g_astore_n (C : Cx x cc own n w ret) {k : Fin 4} {i : Nat} {v : Nat} (hdg : decode cc pc = .ok (.astore_n k, 1)) (hi : (k : Nat) = i) (hn : i < n) (hl : (i, Value.ref v) :: lv.filter (fun q => !(q.1 == i) && !(q.1 + 1 == i && q.2.category == 2)) = lv') (kk : G x Q n w (pc + 1) lv' st s) : G x Q n w pc lv (.ref v :: st) s := fun H locs ls hP hD hS h => lv_astore_n C.1 C.2.1 hdg hi h hn hl (fun ls' h' => kk H locs ls' hP hD hS h')
theorem g_astore (C : Cx x cc own n w ret) {i : Nat} {v : Nat} (hdg : decode cc pc = .ok (.astore i, 2)) (hn : i < n) (hl : (i, Value.ref v) :: lv.filter (fun q => !(q.1 == i) && !(q.1 + 1 == i && q.2.category == 2)) = lv') (kk : G x Q n w (pc + 2) lv' st s) : G x Q n w pc lv (.ref v :: st) s := fun H locs ls hP hD hS h => lv_astore C.1 C.2.1 hdg h hn hl (fun ls' h' => kk H locs ls' hP hD hS h')
theorem g_lstore_n (C : Cx x cc own n w ret) {k : Fin 4} {i : Nat} {v : Int64} (hdg : decode cc pc = .ok (.lstore_n k, 1)) (hi : (k : Nat) = i) (hn : i + 1 < n) (hl : (i, Value.long v) :: lv.filter (fun q => !(q.1 == i) && (!(q.1 == i + 1) && !(q.1 + 1 == i && q.2.category == 2))) = lv') (kk : G x Q n w (pc + 1) lv' st s) : G x Q n w pc lv (.long v :: st) s := fun H locs ls hP hD hS h => lv_lstore_n C.1 C.2.1 hdg hi h hn hl (fun ls' h' => kk H locs ls' hP hD hS h')
theorem g_lstore (C : Cx x cc own n w ret) {i : Nat} {v : Int64} (hdg : decode cc pc = .ok (.lstore i, 2)) (hn : i + 1 < n) (hl : (i, Value.long v) :: lv.filter (fun q => !(q.1 == i) && (!(q.1 == i + 1) && !(q.1 + 1 == i && q.2.category == 2))) = lv') (kk : G x Q n w (pc + 2) lv' st s) : G x Q n w pc lv (.long v :: st) s := fun H locs ls hP hD hS h => lv_lstore C.1 C.2.1 hdg h hn hl (fun ls' h' => kk H locs ls' hP hD hS h')
theorem g_iinc (C : Cx x cc own n w ret) {i : Nat} {z : Int} {v v' : Int32} (hdg : decode cc pc = .ok (.iinc i z, 3)) (j : Nat) (hj : lv[j]? = some (i, .int v)) (hv : v + Int32.ofInt z = v') (hn : i < n) (hl : (i, Value.int v') :: lv.filter (fun q => !(q.1 == i) && !(q.1 + 1 == i && q.2.category == 2)) = lv') (kk : G x Q n w (pc + 3) lv' st s) : G x Q n w pc lv st s := fun H locs ls hP hD hS h => lv_iinc C.1 C.2.1 hdg h hj hv hn hl (fun ls' h' => kk H locs ls' hP hD hS h')
theorem g_iadd (C : Cx x cc own n w ret) {a b : Int32} (hdg : decode cc pc = .ok (.iadd, 1)) (kk : G x Q n w (pc + 1) lv (.int (a + b) :: st) s) : G x Q n w pc lv (.int b :: .int a :: st) s := fun H locs ls hP hD hS hl => lv_iadd C.1 C.2.1 hdg (kk H locs ls hP hD hS hl)
theorem g_isub (C : Cx x cc own n w ret) {a b : Int32} (hdg : decode cc pc = .ok (.isub, 1)) (kk : G x Q n w (pc + 1) lv (.int (a - b) :: st) s) : G x Q n w pc lv (.int b :: .int a :: st) s := fun H locs ls hP hD hS hl => lv_isub C.1 C.2.1 hdg (kk H locs ls hP hD hS hl)
theorem g_imul (C : Cx x cc own n w ret) {a b : Int32} (hdg : decode cc pc = .ok (.imul, 1)) (kk : G x Q n w (pc + 1) lv (.int (a * b) :: st) s) : G x Q n w pc lv (.int b :: .int a :: st) s := fun H locs ls hP hD hS hl => lv_imul C.1 C.2.1 hdg (kk H locs ls hP hD hS hl)
theorem g_iand (C : Cx x cc own n w ret) {a b : Int32} (hdg : decode cc pc = .ok (.iand, 1)) (kk : G x Q n w (pc + 1) lv (.int (a &&& b) :: st) s) : G x Q n w pc lv (.int b :: .int a :: st) s := fun H locs ls hP hD hS hl => lv_iand C.1 C.2.1 hdg (kk H locs ls hP hD hS hl)
theorem g_ior (C : Cx x cc own n w ret) {a b : Int32} (hdg : decode cc pc = .ok (.ior, 1)) (kk : G x Q n w (pc + 1) lv (.int (a ||| b) :: st) s) : G x Q n w pc lv (.int b :: .int a :: st) s := fun H locs ls hP hD hS hl => lv_ior C.1 C.2.1 hdg (kk H locs ls hP hD hS hl)
theorem g_ixor (C : Cx x cc own n w ret) {a b : Int32} (hdg : decode cc pc = .ok (.ixor, 1)) (kk : G x Q n w (pc + 1) lv (.int (a ^^^ b) :: st) s) : G x Q n w pc lv (.int b :: .int a :: st) s := fun H locs ls hP hD hS hl => lv_ixor C.1 C.2.1 hdg (kk H locs ls hP hD hS hl)
theorem g_ishl (C : Cx x cc own n w ret) {a b : Int32} (hdg : decode cc pc = .ok (.ishl, 1)) (kk : G x Q n w (pc + 1) lv (.int (a <<< (b &&& 31)) :: st) s) : G x Q n w pc lv (.int b :: .int a :: st) s := fun H locs ls hP hD hS hl => lv_ishl C.1 C.2.1 hdg (kk H locs ls hP hD hS hl)
theorem g_ishr (C : Cx x cc own n w ret) {a b : Int32} (hdg : decode cc pc = .ok (.ishr, 1)) (kk : G x Q n w (pc + 1) lv (.int (a >>> (b &&& 31)) :: st) s) : G x Q n w pc lv (.int b :: .int a :: st) s := fun H locs ls hP hD hS hl => lv_ishr C.1 C.2.1 hdg (kk H locs ls hP hD hS hl)
theorem g_ladd (C : Cx x cc own n w ret) {a b : Int64} (hdg : decode cc pc = .ok (.ladd, 1)) (kk : G x Q n w (pc + 1) lv (.long (a + b) :: st) s) : G x Q n w pc lv (.long b :: .long a :: st) s := fun H locs ls hP hD hS hl => lv_ladd C.1 C.2.1 hdg (kk H locs ls hP hD hS hl)
theorem g_lsub (C : Cx x cc own n w ret) {a b : Int64} (hdg : decode cc pc = .ok (.lsub, 1)) (kk : G x Q n w (pc + 1) lv (.long (a - b) :: st) s) : G x Q n w pc lv (.long b :: .long a :: st) s := fun H locs ls hP hD hS hl => lv_lsub C.1 C.2.1 hdg (kk H locs ls hP hD hS hl)
theorem g_lmul (C : Cx x cc own n w ret) {a b : Int64} (hdg : decode cc pc = .ok (.lmul, 1)) (kk : G x Q n w (pc + 1) lv (.long (a * b) :: st) s) : G x Q n w pc lv (.long b :: .long a :: st) s := fun H locs ls hP hD hS hl => lv_lmul C.1 C.2.1 hdg (kk H locs ls hP hD hS hl)
theorem g_land (C : Cx x cc own n w ret) {a b : Int64} (hdg : decode cc pc = .ok (.land, 1)) (kk : G x Q n w (pc + 1) lv (.long (a &&& b) :: st) s) : G x Q n w pc lv (.long b :: .long a :: st) s := fun H locs ls hP hD hS hl => lv_land C.1 C.2.1 hdg (kk H locs ls hP hD hS hl)
theorem g_lor (C : Cx x cc own n w ret) {a b : Int64} (hdg : decode cc pc = .ok (.lor, 1)) (kk : G x Q n w (pc + 1) lv (.long (a ||| b) :: st) s) : G x Q n w pc lv (.long b :: .long a :: st) s := fun H locs ls hP hD hS hl => lv_lor C.1 C.2.1 hdg (kk H locs ls hP hD hS hl)
theorem g_idiv (C : Cx x cc own n w ret) {a b : Int32} (hdg : decode cc pc = .ok (.idiv, 1)) (hf : gnz b X = some q) (kk : X = some q → G x Q n w (pc + 1) lv (.int (a / b) :: st) s) : G x Q n w pc lv (.int b :: .int a :: st) s := fun H locs ls hP hD hS hl => lv_idiv C.1 C.2.1 hdg (gnz_some hf).1 (kk (gnz_some hf).2 H locs ls hP hD hS hl)
theorem g_irem (C : Cx x cc own n w ret) {a b : Int32} (hdg : decode cc pc = .ok (.irem, 1)) (hf : gnz b X = some q) (kk : X = some q → G x Q n w (pc + 1) lv (.int (a - a / b * b) :: st) s) : G x Q n w pc lv (.int b :: .int a :: st) s := fun H locs ls hP hD hS hl => lv_irem C.1 C.2.1 hdg (gnz_some hf).1 (kk (gnz_some hf).2 H locs ls hP hD hS hl)
theorem g_idivK (C : Cx x cc own n w ret) {a b : Int32} (hdg : decode cc pc = .ok (.idiv, 1)) (hb : ¬ b = 0) (kk : G x Q n w (pc + 1) lv (.int (a / b) :: st) s) : G x Q n w pc lv (.int b :: .int a :: st) s := fun H locs ls hP hD hS hl => lv_idiv C.1 C.2.1 hdg hb (kk H locs ls hP hD hS hl)
theorem g_iremK (C : Cx x cc own n w ret) {a b : Int32} (hdg : decode cc pc = .ok (.irem, 1)) (hb : ¬ b = 0) (kk : G x Q n w (pc + 1) lv (.int (a - a / b * b) :: st) s) : G x Q n w pc lv (.int b :: .int a :: st) s := fun H locs ls hP hD hS hl => lv_irem C.1 C.2.1 hdg hb (kk H locs ls hP hD hS hl)
theorem g_ldiv (C : Cx x cc own n w ret) {a b : Int64} (hdg : decode cc pc = .ok (.ldiv, 1)) (hf : gnzL b X = some q) (kk : X = some q → G x Q n w (pc + 1) lv (.long (a / b) :: st) s) : G x Q n w pc lv (.long b :: .long a :: st) s := fun H locs ls hP hD hS hl => lv_ldiv C.1 C.2.1 hdg (gnzL_some hf).1 (kk (gnzL_some hf).2 H locs ls hP hD hS hl)
theorem g_lrem (C : Cx x cc own n w ret) {a b : Int64} (hdg : decode cc pc = .ok (.lrem, 1)) (hf : gnzL b X = some q) (kk : X = some q → G x Q n w (pc + 1) lv (.long (a - a / b * b) :: st) s) : G x Q n w pc lv (.long b :: .long a :: st) s := fun H locs ls hP hD hS hl => lv_lrem C.1 C.2.1 hdg (gnzL_some hf).1 (kk (gnzL_some hf).2 H locs ls hP hD hS hl)
theorem g_ineg (C : Cx x cc own n w ret) {a : Int32} (hdg : decode cc pc = .ok (.ineg, 1)) (kk : G x Q n w (pc + 1) lv (.int (-a) :: st) s) : G x Q n w pc lv (.int a :: st) s := fun H locs ls hP hD hS hl => lv_ineg C.1 C.2.1 hdg (kk H locs ls hP hD hS hl)
theorem g_i2l (C : Cx x cc own n w ret) {a : Int32} (hdg : decode cc pc = .ok (.i2l, 1)) (kk : G x Q n w (pc + 1) lv (.long a.toInt64 :: st) s) : G x Q n w pc lv (.int a :: st) s := fun H locs ls hP hD hS hl => lv_i2l C.1 C.2.1 hdg rfl (kk H locs ls hP hD hS hl)
theorem g_l2i (C : Cx x cc own n w ret) {a : Int64} (hdg : decode cc pc = .ok (.l2i, 1)) (kk : G x Q n w (pc + 1) lv (.int a.toInt32 :: st) s) : G x Q n w pc lv (.long a :: st) s := fun H locs ls hP hD hS hl => lv_l2i C.1 C.2.1 hdg rfl (kk H locs ls hP hD hS hl)
theorem g_i2b (C : Cx x cc own n w ret) {a : Int32} (hdg : decode cc pc = .ok (.i2b, 1)) (kk : G x Q n w (pc + 1) lv (.int a.toInt8.toInt32 :: st) s) : G x Q n w pc lv (.int a :: st) s := fun H locs ls hP hD hS hl => lv_i2b C.1 C.2.1 hdg rfl (kk H locs ls hP hD hS hl)
theorem g_i2s (C : Cx x cc own n w ret) {a : Int32} (hdg : decode cc pc = .ok (.i2s, 1)) (kk : G x Q n w (pc + 1) lv (.int a.toInt16.toInt32 :: st) s) : G x Q n w pc lv (.int a :: st) s := fun H locs ls hP hD hS hl => lv_i2s C.1 C.2.1 hdg rfl (kk H locs ls hP hD hS hl)
theorem g_iushr (C : Cx x cc own n w ret) {a b : Int32} (hdg : decode cc pc = .ok (.iushr, 1)) (kk : G x Q n w (pc + 1) lv (.int (a.toUInt32 >>> (b.toUInt32 &&& Int32.toUInt32 31)).toInt32 :: st) s) : G x Q n w pc lv (.int b :: .int a :: st) s := fun H locs ls hP hD hS hl => lv_iushr C.1 C.2.1 hdg rfl (kk H locs ls hP hD hS hl)
theorem g_lshl (C : Cx x cc own n w ret) {a : Int64} {b : Int32} (hdg : decode cc pc = .ok (.lshl, 1)) (kk : G x Q n w (pc + 1) lv (.long (a <<< (b.toInt64 &&& 63)) :: st) s) : G x Q n w pc lv (.int b :: .long a :: st) s := fun H locs ls hP hD hS hl => lv_lshl C.1 C.2.1 hdg rfl (kk H locs ls hP hD hS hl)
theorem g_lshr (C : Cx x cc own n w ret) {a : Int64} {b : Int32} (hdg : decode cc pc = .ok (.lshr, 1)) (kk : G x Q n w (pc + 1) lv (.long (a >>> (b.toInt64 &&& 63)) :: st) s) : G x Q n w pc lv (.int b :: .long a :: st) s := fun H locs ls hP hD hS hl => lv_lshr C.1 C.2.1 hdg rfl (kk H locs ls hP hD hS hl)
theorem g_lushr (C : Cx x cc own n w ret) {a : Int64} {b : Int32} (hdg : decode cc pc = .ok (.lushr, 1)) (kk : G x Q n w (pc + 1) lv (.long (a.toUInt64 >>> (b.toInt64.toUInt64 &&& Int64.toUInt64 63)).toInt64 :: st) s) : G x Q n w pc lv (.int b :: .long a :: st) s := fun H locs ls hP hD hS hl => lv_lushr C.1 C.2.1 hdg rfl (kk H locs ls hP hD hS hl)
theorem g_dup (C : Cx x cc own n w ret) {v : Value} (hdg : decode cc pc = .ok (.dup, 1)) (hv : v.category = 1) (kk : G x Q n w (pc + 1) lv (v :: v :: st) s) : G x Q n w pc lv (v :: st) s := fun H locs ls hP hD hS hl => lv_dup C.1 C.2.1 hdg hv (kk H locs ls hP hD hS hl)
theorem g_pop (C : Cx x cc own n w ret) {v : Value} (hdg : decode cc pc = .ok (.pop, 1)) (hv : v.category = 1) (kk : G x Q n w (pc + 1) lv st s) : G x Q n w pc lv (v :: st) s := fun H locs ls hP hD hS hl => lv_pop C.1 C.2.1 hdg hv (kk H locs ls hP hD hS hl)
theorem g_dup2 (C : Cx x cc own n w ret) {v u : Value} (hdg : decode cc pc = .ok (.dup2, 1)) (hv : v.category = 1) (hu : u.category = 1) (kk : G x Q n w (pc + 1) lv (v :: u :: v :: u :: st) s) : G x Q n w pc lv (v :: u :: st) s := fun H locs ls hP hD hS hl => lv_dup2_11 C.1 C.2.1 hdg hv hu (kk H locs ls hP hD hS hl)
theorem g_goto (C : Cx x cc own n w ret) {off : Int} {tgt : Nat} (hdg : decode cc pc = .ok (.goto off, 3)) (ht : (pc : Int) + off = (tgt : Int)) (kk : G x Q n w tgt lv st s) : G x Q n w pc lv st s := fun H locs ls hP hD hS hl => lv_goto C.1 C.2.1 hdg ht (kk H locs ls hP hD hS hl)
theorem ite_some {c : Prop} [Decidable c] (hf : (if c then X else Y) = some q) : (c ∧ X = some q) ∨ (¬ c ∧ Y = some q) := by
  by_cases h : c
  · rw [if_pos h] at hf; exact Or.inl ⟨h, hf⟩
  · rw [if_neg h] at hf; exact Or.inr ⟨h, hf⟩
theorem ite_t {c : Prop} [Decidable c] (hf : (if c then X else Y) = some q) (h : c) : X = some q := by rw [if_pos h] at hf; exact hf
theorem ite_f {c : Prop} [Decidable c] (hf : (if c then X else Y) = some q) (h : ¬ c) : Y = some q := by rw [if_neg h] at hf; exact hf
-- branches: X where the test holds (the jump, but for ne), Y else
theorem g_if_eq (C : Cx x cc own n w ret) {a : Int32} {off : Int} {tgt : Nat} (hdg : decode cc pc = .ok (.ifCond .eq off, 3)) (ht : (pc : Int) + off = (tgt : Int)) (hf : (if a = 0 then X else Y) = some q) (kt : X = some q → G x Q n w tgt lv st s) (kf : Y = some q → G x Q n w (pc + 3) lv st s) : G x Q n w pc lv (.int a :: st) s := fun H locs ls hP hD hS hl => lv_if_eq C.1 C.2.1 hdg ht (fun c => kt (ite_t hf c) H locs ls hP hD hS hl) (fun c => kf (ite_f hf c) H locs ls hP hD hS hl)
theorem g_icmp_eq (C : Cx x cc own n w ret) {a b : Int32} {off : Int} {tgt : Nat} (hdg : decode cc pc = .ok (.if_icmp .eq off, 3)) (ht : (pc : Int) + off = (tgt : Int)) (hf : (if a = b then X else Y) = some q) (kt : X = some q → G x Q n w tgt lv st s) (kf : Y = some q → G x Q n w (pc + 3) lv st s) : G x Q n w pc lv (.int b :: .int a :: st) s := fun H locs ls hP hD hS hl => lv_icmp_eq C.1 C.2.1 hdg ht (fun c => kt (ite_t hf c) H locs ls hP hD hS hl) (fun c => kf (ite_f hf c) H locs ls hP hD hS hl)
theorem g_lcmp_eq (C : Cx x cc own n w ret) {a b : Int64} {off : Int} {tgt : Nat} (hd0 : decode cc pc = .ok (.lcmp, 1)) (hdg : decode cc (pc + 1) = .ok (.ifCond .eq off, 3)) (ht : ((pc + 1 : Nat) : Int) + off = (tgt : Int)) (hf : (if a = b then X else Y) = some q) (kt : X = some q → G x Q n w tgt lv st s) (kf : Y = some q → G x Q n w (pc + 1 + 3) lv st s) : G x Q n w pc lv (.long b :: .long a :: st) s := fun H locs ls hP hD hS hl => W.lcmp C.1 C.2.1 hd0 (lv_if_eq C.1 C.2.1 hdg ht (fun c => kt (ite_t hf ((lg_cmp_eq a b).mp c)) H locs ls hP hD hS hl) (fun c => kf (ite_f hf (fun z => c ((lg_cmp_eq a b).mpr z))) H locs ls hP hD hS hl))
theorem g_if_ne (C : Cx x cc own n w ret) {a : Int32} {off : Int} {tgt : Nat} (hdg : decode cc pc = .ok (.ifCond .ne off, 3)) (ht : (pc : Int) + off = (tgt : Int)) (hf : (if a = 0 then X else Y) = some q) (kt : Y = some q → G x Q n w tgt lv st s) (kf : X = some q → G x Q n w (pc + 3) lv st s) : G x Q n w pc lv (.int a :: st) s := fun H locs ls hP hD hS hl => lv_if_ne C.1 C.2.1 hdg ht (fun c => kt (ite_f hf c) H locs ls hP hD hS hl) (fun c => kf (ite_t hf c) H locs ls hP hD hS hl)
theorem g_icmp_ne (C : Cx x cc own n w ret) {a b : Int32} {off : Int} {tgt : Nat} (hdg : decode cc pc = .ok (.if_icmp .ne off, 3)) (ht : (pc : Int) + off = (tgt : Int)) (hf : (if a = b then X else Y) = some q) (kt : Y = some q → G x Q n w tgt lv st s) (kf : X = some q → G x Q n w (pc + 3) lv st s) : G x Q n w pc lv (.int b :: .int a :: st) s := fun H locs ls hP hD hS hl => lv_icmp_ne C.1 C.2.1 hdg ht (fun c => kt (ite_f hf c) H locs ls hP hD hS hl) (fun c => kf (ite_t hf c) H locs ls hP hD hS hl)
theorem g_lcmp_ne (C : Cx x cc own n w ret) {a b : Int64} {off : Int} {tgt : Nat} (hd0 : decode cc pc = .ok (.lcmp, 1)) (hdg : decode cc (pc + 1) = .ok (.ifCond .ne off, 3)) (ht : ((pc + 1 : Nat) : Int) + off = (tgt : Int)) (hf : (if a = b then X else Y) = some q) (kt : Y = some q → G x Q n w tgt lv st s) (kf : X = some q → G x Q n w (pc + 1 + 3) lv st s) : G x Q n w pc lv (.long b :: .long a :: st) s := fun H locs ls hP hD hS hl => W.lcmp C.1 C.2.1 hd0 (lv_if_ne C.1 C.2.1 hdg ht (fun c => kt (ite_f hf (fun z => c ((lg_cmp_eq a b).mpr z))) H locs ls hP hD hS hl) (fun c => kf (ite_t hf ((lg_cmp_eq a b).mp c)) H locs ls hP hD hS hl))
theorem g_if_lt (C : Cx x cc own n w ret) {a : Int32} {off : Int} {tgt : Nat} (hdg : decode cc pc = .ok (.ifCond .lt off, 3)) (ht : (pc : Int) + off = (tgt : Int)) (hf : (if a < 0 then X else Y) = some q) (kt : X = some q → G x Q n w tgt lv st s) (kf : Y = some q → G x Q n w (pc + 3) lv st s) : G x Q n w pc lv (.int a :: st) s := fun H locs ls hP hD hS hl => lv_if_lt C.1 C.2.1 hdg ht (fun c => kt (ite_t hf c) H locs ls hP hD hS hl) (fun c => kf (ite_f hf c) H locs ls hP hD hS hl)
theorem g_icmp_lt (C : Cx x cc own n w ret) {a b : Int32} {off : Int} {tgt : Nat} (hdg : decode cc pc = .ok (.if_icmp .lt off, 3)) (ht : (pc : Int) + off = (tgt : Int)) (hf : (if a < b then X else Y) = some q) (kt : X = some q → G x Q n w tgt lv st s) (kf : Y = some q → G x Q n w (pc + 3) lv st s) : G x Q n w pc lv (.int b :: .int a :: st) s := fun H locs ls hP hD hS hl => lv_icmp_lt C.1 C.2.1 hdg ht (fun c => kt (ite_t hf c) H locs ls hP hD hS hl) (fun c => kf (ite_f hf c) H locs ls hP hD hS hl)
theorem g_lcmp_lt (C : Cx x cc own n w ret) {a b : Int64} {off : Int} {tgt : Nat} (hd0 : decode cc pc = .ok (.lcmp, 1)) (hdg : decode cc (pc + 1) = .ok (.ifCond .lt off, 3)) (ht : ((pc + 1 : Nat) : Int) + off = (tgt : Int)) (hf : (if a < b then X else Y) = some q) (kt : X = some q → G x Q n w tgt lv st s) (kf : Y = some q → G x Q n w (pc + 1 + 3) lv st s) : G x Q n w pc lv (.long b :: .long a :: st) s := fun H locs ls hP hD hS hl => W.lcmp C.1 C.2.1 hd0 (lv_if_lt C.1 C.2.1 hdg ht (fun c => kt (ite_t hf ((lg_cmp_lt a b).mp c)) H locs ls hP hD hS hl) (fun c => kf (ite_f hf (fun z => c ((lg_cmp_lt a b).mpr z))) H locs ls hP hD hS hl))
theorem g_if_ge (C : Cx x cc own n w ret) {a : Int32} {off : Int} {tgt : Nat} (hdg : decode cc pc = .ok (.ifCond .ge off, 3)) (ht : (pc : Int) + off = (tgt : Int)) (hf : (if 0 ≤ a then X else Y) = some q) (kt : X = some q → G x Q n w tgt lv st s) (kf : Y = some q → G x Q n w (pc + 3) lv st s) : G x Q n w pc lv (.int a :: st) s := fun H locs ls hP hD hS hl => lv_if_ge C.1 C.2.1 hdg ht (fun c => kt (ite_t hf c) H locs ls hP hD hS hl) (fun c => kf (ite_f hf c) H locs ls hP hD hS hl)
theorem g_icmp_ge (C : Cx x cc own n w ret) {a b : Int32} {off : Int} {tgt : Nat} (hdg : decode cc pc = .ok (.if_icmp .ge off, 3)) (ht : (pc : Int) + off = (tgt : Int)) (hf : (if b ≤ a then X else Y) = some q) (kt : X = some q → G x Q n w tgt lv st s) (kf : Y = some q → G x Q n w (pc + 3) lv st s) : G x Q n w pc lv (.int b :: .int a :: st) s := fun H locs ls hP hD hS hl => lv_icmp_ge C.1 C.2.1 hdg ht (fun c => kt (ite_t hf c) H locs ls hP hD hS hl) (fun c => kf (ite_f hf c) H locs ls hP hD hS hl)
theorem g_lcmp_ge (C : Cx x cc own n w ret) {a b : Int64} {off : Int} {tgt : Nat} (hd0 : decode cc pc = .ok (.lcmp, 1)) (hdg : decode cc (pc + 1) = .ok (.ifCond .ge off, 3)) (ht : ((pc + 1 : Nat) : Int) + off = (tgt : Int)) (hf : (if b ≤ a then X else Y) = some q) (kt : X = some q → G x Q n w tgt lv st s) (kf : Y = some q → G x Q n w (pc + 1 + 3) lv st s) : G x Q n w pc lv (.long b :: .long a :: st) s := fun H locs ls hP hD hS hl => W.lcmp C.1 C.2.1 hd0 (lv_if_ge C.1 C.2.1 hdg ht (fun c => kt (ite_t hf ((lg_cmp_ge a b).mp c)) H locs ls hP hD hS hl) (fun c => kf (ite_f hf (fun z => c ((lg_cmp_ge a b).mpr z))) H locs ls hP hD hS hl))
theorem g_if_gt (C : Cx x cc own n w ret) {a : Int32} {off : Int} {tgt : Nat} (hdg : decode cc pc = .ok (.ifCond .gt off, 3)) (ht : (pc : Int) + off = (tgt : Int)) (hf : (if 0 < a then X else Y) = some q) (kt : X = some q → G x Q n w tgt lv st s) (kf : Y = some q → G x Q n w (pc + 3) lv st s) : G x Q n w pc lv (.int a :: st) s := fun H locs ls hP hD hS hl => lv_if_gt C.1 C.2.1 hdg ht (fun c => kt (ite_t hf c) H locs ls hP hD hS hl) (fun c => kf (ite_f hf c) H locs ls hP hD hS hl)
theorem g_icmp_gt (C : Cx x cc own n w ret) {a b : Int32} {off : Int} {tgt : Nat} (hdg : decode cc pc = .ok (.if_icmp .gt off, 3)) (ht : (pc : Int) + off = (tgt : Int)) (hf : (if b < a then X else Y) = some q) (kt : X = some q → G x Q n w tgt lv st s) (kf : Y = some q → G x Q n w (pc + 3) lv st s) : G x Q n w pc lv (.int b :: .int a :: st) s := fun H locs ls hP hD hS hl => lv_icmp_gt C.1 C.2.1 hdg ht (fun c => kt (ite_t hf c) H locs ls hP hD hS hl) (fun c => kf (ite_f hf c) H locs ls hP hD hS hl)
theorem g_lcmp_gt (C : Cx x cc own n w ret) {a b : Int64} {off : Int} {tgt : Nat} (hd0 : decode cc pc = .ok (.lcmp, 1)) (hdg : decode cc (pc + 1) = .ok (.ifCond .gt off, 3)) (ht : ((pc + 1 : Nat) : Int) + off = (tgt : Int)) (hf : (if b < a then X else Y) = some q) (kt : X = some q → G x Q n w tgt lv st s) (kf : Y = some q → G x Q n w (pc + 1 + 3) lv st s) : G x Q n w pc lv (.long b :: .long a :: st) s := fun H locs ls hP hD hS hl => W.lcmp C.1 C.2.1 hd0 (lv_if_gt C.1 C.2.1 hdg ht (fun c => kt (ite_t hf ((lg_cmp_gt a b).mp c)) H locs ls hP hD hS hl) (fun c => kf (ite_f hf (fun z => c ((lg_cmp_gt a b).mpr z))) H locs ls hP hD hS hl))
theorem g_if_le (C : Cx x cc own n w ret) {a : Int32} {off : Int} {tgt : Nat} (hdg : decode cc pc = .ok (.ifCond .le off, 3)) (ht : (pc : Int) + off = (tgt : Int)) (hf : (if a ≤ 0 then X else Y) = some q) (kt : X = some q → G x Q n w tgt lv st s) (kf : Y = some q → G x Q n w (pc + 3) lv st s) : G x Q n w pc lv (.int a :: st) s := fun H locs ls hP hD hS hl => lv_if_le C.1 C.2.1 hdg ht (fun c => kt (ite_t hf c) H locs ls hP hD hS hl) (fun c => kf (ite_f hf c) H locs ls hP hD hS hl)
theorem g_icmp_le (C : Cx x cc own n w ret) {a b : Int32} {off : Int} {tgt : Nat} (hdg : decode cc pc = .ok (.if_icmp .le off, 3)) (ht : (pc : Int) + off = (tgt : Int)) (hf : (if a ≤ b then X else Y) = some q) (kt : X = some q → G x Q n w tgt lv st s) (kf : Y = some q → G x Q n w (pc + 3) lv st s) : G x Q n w pc lv (.int b :: .int a :: st) s := fun H locs ls hP hD hS hl => lv_icmp_le C.1 C.2.1 hdg ht (fun c => kt (ite_t hf c) H locs ls hP hD hS hl) (fun c => kf (ite_f hf c) H locs ls hP hD hS hl)
theorem g_lcmp_le (C : Cx x cc own n w ret) {a b : Int64} {off : Int} {tgt : Nat} (hd0 : decode cc pc = .ok (.lcmp, 1)) (hdg : decode cc (pc + 1) = .ok (.ifCond .le off, 3)) (ht : ((pc + 1 : Nat) : Int) + off = (tgt : Int)) (hf : (if a ≤ b then X else Y) = some q) (kt : X = some q → G x Q n w tgt lv st s) (kf : Y = some q → G x Q n w (pc + 1 + 3) lv st s) : G x Q n w pc lv (.long b :: .long a :: st) s := fun H locs ls hP hD hS hl => W.lcmp C.1 C.2.1 hd0 (lv_if_le C.1 C.2.1 hdg ht (fun c => kt (ite_t hf ((lg_cmp_le a b).mp c)) H locs ls hP hD hS hl) (fun c => kf (ite_f hf (fun z => c ((lg_cmp_le a b).mpr z))) H locs ls hP hD hS hl))
theorem g_ifeqB (C : Cx x cc own n w ret) {b : Bool} {off : Int} {tgt : Nat} (hdg : decode cc pc = .ok (.ifCond .eq off, 3)) (ht : (pc : Int) + off = (tgt : Int)) (hf : (if b = true then X else Y) = some q) (kt : Y = some q → G x Q n w tgt lv st s) (kf : X = some q → G x Q n w (pc + 3) lv st s) : G x Q n w pc lv (.int (bI b) :: st) s := fun H locs ls hP hD hS hl => lv_if_eq C.1 C.2.1 hdg ht (fun c => kt (ite_f hf (by cases b <;> simp [bI] at c ⊢)) H locs ls hP hD hS hl) (fun c => kf (ite_t hf (by cases b <;> simp [bI] at c ⊢)) H locs ls hP hD hS hl)
theorem g_ifneB (C : Cx x cc own n w ret) {b : Bool} {off : Int} {tgt : Nat} (hdg : decode cc pc = .ok (.ifCond .ne off, 3)) (ht : (pc : Int) + off = (tgt : Int)) (hf : (if b = true then X else Y) = some q) (kt : X = some q → G x Q n w tgt lv st s) (kf : Y = some q → G x Q n w (pc + 3) lv st s) : G x Q n w pc lv (.int (bI b) :: st) s := fun H locs ls hP hD hS hl => lv_if_ne C.1 C.2.1 hdg ht (fun c => kt (ite_t hf (by cases b <;> simp [bI] at c ⊢)) H locs ls hP hD hS hl) (fun c => kf (ite_f hf (by cases b <;> simp [bI] at c ⊢)) H locs ls hP hD hS hl)
-- returns
abbrev QI (x : KX) (w : WX) (r : Int32) (s : Mem) : State → Prop := MQ (kb x) (va_Qi (fun (r' : Int32) (_ : Unit) => r' = r) (fun _ t => WP w s t) (kA x)) (kg x) (ks x) (kcl x) (ksl x) (kA x)
abbrev QB (x : KX) (w : WX) (r : Bool) (s : Mem) : State → Prop := MQ (kb x) (va_Qi (fun (r' : Int32) (_ : Unit) => r' = bI r) (fun _ t => WP w s t) (kA x)) (kg x) (ks x) (kcl x) (ksl x) (kA x)
abbrev QL (x : KX) (w : WX) (r : Int64) (s : Mem) : State → Prop := MQ (kb x) (va_Ql (fun (r' : Int64) (_ : Unit) => r' = r) (fun _ t => WP w s t) (kA x)) (kg x) (ks x) (kcl x) (ksl x) (kA x)
abbrev QV (x : KX) (w : WX) (s : Mem) : State → Prop := MQ (kb x) (va_Qv (fun (_ : Unit) => True) (fun _ t => WP w s t) (kA x)) (kg x) (ks x) (kcl x) (ksl x) (kA x)
theorem WP_of {H : Heap} {t : State} (hK : va_K (wG w) vwCl (wT w) (ks x)) (hP : va_P (wG w) vwCl (wl w s) H) (hD : va_D (kA x) (wl w s)) (ht : t.heap = H) (hW : (ks x).WarmedH t.vm) : WP w s t := ⟨by rw [ht]; exact hP, va_K.moved hW.alike hK, wD_of hD⟩
theorem g_iret {v r : Int32} {s' : Mem} (C : Cx x cc own n w (some .int)) (hdg : decode cc pc = .ok (.ireturn, 1)) (hf : some (v, s) = some (r, s')) : G x (QI x w r s') n w pc lv [.int v] s := by
  cases hf
  intro H locs ls hP hD hS hl
  exact W.iret C.1 C.2.1 C.2.2.2.2.2.2.2.2.1 (fun t ht hW => ⟨⟨v, (), rfl, rfl, WP_of C.2.2.2.2.2.1 hP hD ht hW⟩, hS.F ht⟩) hS.2.2 hdg C.2.2.2.2.2.2.2.1
theorem g_zret {v r : Bool} {s' : Mem} (C : Cx x cc own n w (some .boolean)) (hdg : decode cc pc = .ok (.ireturn, 1)) (hf : some (v, s) = some (r, s')) : G x (QB x w r s') n w pc lv [.int (bI v)] s := by
  cases hf
  intro H locs ls hP hD hS hl
  exact W.zret C.1 C.2.1 C.2.2.2.2.2.2.2.2.1 (bI_nar v) (fun t ht hW => ⟨⟨bI v, (), rfl, rfl, WP_of C.2.2.2.2.2.1 hP hD ht hW⟩, hS.F ht⟩) hS.2.2 hdg C.2.2.2.2.2.2.2.1
theorem g_lret {v r : Int64} {s' : Mem} (C : Cx x cc own n w (some .long)) (hdg : decode cc pc = .ok (.lreturn, 1)) (hf : some (v, s) = some (r, s')) : G x (QL x w r s') n w pc lv [.long v] s := by
  cases hf
  intro H locs ls hP hD hS hl
  exact W.lret C.1 C.2.1 C.2.2.2.2.2.2.2.2.1 (fun t ht hW => ⟨⟨v, (), rfl, rfl, WP_of C.2.2.2.2.2.1 hP hD ht hW⟩, hS.F ht⟩) hS.2.2 hdg C.2.2.2.2.2.2.2.1
theorem g_vret {s' : Mem} (C : Cx x cc own n w none) (hdg : decode cc pc = .ok (.return_, 1)) (hf : some ((), s) = some ((), s')) : G x (QV x w s') n w pc lv [] s := by
  cases hf
  intro H locs ls hP hD hS hl
  exact W.vret C.1 C.2.1 C.2.2.2.2.2.2.2.2.1 (fun t ht hW => ⟨⟨(), rfl, trivial, WP_of C.2.2.2.2.2.1 hP hD ht hW⟩, hS.F ht⟩) hS.2.2 hdg C.2.2.2.2.2.2.2.1
-- fields
theorem g_get (C : Cx x cc own n w ret) {ref R : String} {T : u_T} {N c k index i : Nat} {v : Value} (hk : kd i = c) (hc : c < 20) (hcl : vwCl[c]? = some (R, T, N)) (hi : i ∈ SS w) (hin : ∀ u ∈ u_ws R T N, u ∈ GW) (hkN : k < N) (hlink : Cond.fieldLink own index ref (T k).2.1 (T k).2.2.1 ∈ GW) (hr : (T k).1 = ref) (hv : (fsOf w s i c)[k]? = some v) (hdg : decode cc pc = .ok (.getfield index, 3))
    (kk : G x Q n w (pc + 3) lv (v :: st) s) : G x Q n w pc lv (.ref (ad w i) :: st) s := by
  intro H locs ls hP hD hS hl
  obtain ⟨q0, h1, h2⟩ := wl_at (s := s) hi
  rw [cell_O hk hc] at h2
  exact va_get C.1 C.2.1 C.2.2.2.2.1 hin C.2.2.2.1 C.2.2.2.2.2.1 hP q0 h2 hcl k hkN (C.2.2.2.2.1 _ hlink) (fun z hz => by rw [← hr]; exact hz) hv hdg (kk H locs ls hP hD hS hl)
theorem g_putI (C : Cx x cc own n w ret) {ref R : String} {T : u_T} {N c k index i : Nat} {v : Int32} {ty : FieldType} (ty0 : Nat → FieldType) (hty : ∀ k, k < N → parseFieldDescriptor (T k).2.2.1 = some (ty0 k)) (hnm : ∀ a, a < N → ∀ b, b < N → a ≠ b → (T a).2.1 ≠ (T b).2.1) (hk : kd i = c) (hc : c < 20) (hcl : vwCl[c]? = some (R, T, N)) (hi : i ∈ SS w) (hin : ∀ u ∈ u_ws R T N, u ∈ GW) (hkN : k < N) (hlink : Cond.fieldLink own index ref (T k).2.1 (T k).2.2.1 ∈ GW) (hr : (T k).1 = ref) (hfin : (T k).2.2.2 = false) (ht : ty0 k = ty) (hn : narrow ty (.int v) = .int v) (hfit : fits ty (.int v) = true) (hl9 : k < (fsOf w s i c).length) (hset : (fsOf w s i c).set k (.int v) = fsOf w (wI s i k v) i c) (hdg : decode cc pc = .ok (.putfield index, 3))
    (kk : G x Q n w (pc + 3) lv st (wI s i k v)) : G x Q n w pc lv (.int v :: .ref (ad w i) :: st) s := by
  intro H locs ls hP hD hS hl
  obtain ⟨q0, h1, h2⟩ := wl_at (s := s) hi
  rw [cell_O hk hc] at h2
  refine va_put C.1 C.2.1 C.2.2.2.2.1 hin ty0 hty hnm C.2.2.2.1 C.2.2.2.2.2.1 hP hD hS q0 h2 hcl k hkN (C.2.2.2.2.1 _ hlink) (fun z hz => by rw [← hr]; exact hz) hfin (ty := ty) (by rw [hty k hkN, ht]) hn hfit hl9 hdg (fun H1 locs1 hP1 hD1 hS1 => ?_)
  rw [hset, ← cell_O (w := w) (s := wI s i k v) hk hc, wl_set hD h1 (fun j hj => cell_wI hj)] at hP1 hD1
  exact kk H1 locs1 ls hP1 hD1 hS1 hl
theorem g_putL (C : Cx x cc own n w ret) {ref R : String} {T : u_T} {N c k index i : Nat} {v : Int64} (ty0 : Nat → FieldType) (hty : ∀ k, k < N → parseFieldDescriptor (T k).2.2.1 = some (ty0 k)) (hnm : ∀ a, a < N → ∀ b, b < N → a ≠ b → (T a).2.1 ≠ (T b).2.1) (hk : kd i = c) (hc : c < 20) (hcl : vwCl[c]? = some (R, T, N)) (hi : i ∈ SS w) (hin : ∀ u ∈ u_ws R T N, u ∈ GW) (hkN : k < N) (hlink : Cond.fieldLink own index ref (T k).2.1 (T k).2.2.1 ∈ GW) (hr : (T k).1 = ref) (hfin : (T k).2.2.2 = false) (ht : ty0 k = .long) (hl9 : k < (fsOf w s i c).length) (hset : (fsOf w s i c).set k (.long v) = fsOf w (wL s i k v) i c) (hdg : decode cc pc = .ok (.putfield index, 3))
    (kk : G x Q n w (pc + 3) lv st (wL s i k v)) : G x Q n w pc lv (.long v :: .ref (ad w i) :: st) s := by
  intro H locs ls hP hD hS hl
  obtain ⟨q0, h1, h2⟩ := wl_at (s := s) hi
  rw [cell_O hk hc] at h2
  refine va_put C.1 C.2.1 C.2.2.2.2.1 hin ty0 hty hnm C.2.2.2.1 C.2.2.2.2.2.1 hP hD hS q0 h2 hcl k hkN (C.2.2.2.2.1 _ hlink) (fun z hz => by rw [← hr]; exact hz) hfin (ty := .long) (by rw [hty k hkN, ht]) rfl rfl hl9 hdg (fun H1 locs1 hP1 hD1 hS1 => ?_)
  rw [hset, ← cell_O (w := w) (s := wL s i k v) hk hc, wl_set hD h1 (fun j hj => cell_wL hj)] at hP1 hD1
  exact kk H1 locs1 ls hP1 hD1 hS1 hl
-- arrays
theorem g_alenI (C : Cx x cc own n w ret) {i N : Nat} {v : Int32} (hk : kd i = 20) (hn : ln i = N) (hi : i ∈ SS w) (hv : Int32.ofNat N = v) (hdg : decode cc pc = .ok (.arraylength, 1)) (kk : G x Q n w (pc + 1) lv (.int v :: st) s) : G x Q n w pc lv (.ref (ad w i) :: st) s := by
  intro H locs ls hP hD hS hl
  obtain ⟨q0, h1, h2⟩ := wl_at (s := s) hi
  rw [cell_I hk hn] at h2
  exact va_alen C.1 C.2.1 C.2.2.2.2.2.1 hP q0 0 h2 (ty := .int) rfl hv hdg (kk H locs ls hP hD hS hl)
theorem g_alenJ (C : Cx x cc own n w ret) {i N : Nat} {v : Int32} (hk : kd i = 21) (hn : ln i = N) (hi : i ∈ SS w) (hv : Int32.ofNat N = v) (hdg : decode cc pc = .ok (.arraylength, 1)) (kk : G x Q n w (pc + 1) lv (.int v :: st) s) : G x Q n w pc lv (.ref (ad w i) :: st) s := by
  intro H locs ls hP hD hS hl
  obtain ⟨q0, h1, h2⟩ := wl_at (s := s) hi
  rw [cell_J hk hn] at h2
  exact va_alen C.1 C.2.1 C.2.2.2.2.2.1 hP q0 1 h2 (ty := .long) rfl hv hdg (kk H locs ls hP hD hS hl)
theorem g_iald (C : Cx x cc own n w ret) {i N : Nat} {j : Int32} (hk : kd i = 20) (hn : ln i = N) (hi : i ∈ SS w) (hdg : decode cc pc = .ok (.iaload, 1)) (hf : gin j N X = some q) (kk : X = some q → G x Q n w (pc + 1) lv (.int (rI s i j.toNatClampNeg) :: st) s) : G x Q n w pc lv (.int j :: .ref (ad w i) :: st) s := by
  intro H locs ls hP hD hS hl
  obtain ⟨q0, h1, h2⟩ := wl_at (s := s) hi
  rw [cell_I hk hn] at h2
  exact va_iald C.1 C.2.1 C.2.2.2.2.2.1 hP q0 0 h2 rfl (gin_some hf).1 hdg (kk (gin_some hf).2 H locs ls hP hD hS hl)
theorem g_lald (C : Cx x cc own n w ret) {i N : Nat} {j : Int32} (hk : kd i = 21) (hn : ln i = N) (hi : i ∈ SS w) (hdg : decode cc pc = .ok (.laload, 1)) (hf : gin j N X = some q) (kk : X = some q → G x Q n w (pc + 1) lv (.long (rL s i j.toNatClampNeg) :: st) s) : G x Q n w pc lv (.int j :: .ref (ad w i) :: st) s := by
  intro H locs ls hP hD hS hl
  obtain ⟨q0, h1, h2⟩ := wl_at (s := s) hi
  rw [cell_J hk hn] at h2
  exact va_lald C.1 C.2.1 C.2.2.2.2.2.1 hP q0 1 h2 rfl (gin_some hf).1 hdg (kk (gin_some hf).2 H locs ls hP hD hS hl)
theorem g_aald (C : Cx x cc own n w ret) {i N : Nat} {j : Int32} (hk : kd i = 22) (hn : ln i = N) (hi : i ∈ SS w) (hdg : decode cc pc = .ok (.aaload, 1)) (hf : gin j N X = some q) (kk : vp_in j N → X = some q → G x Q n w (pc + 1) lv (.ref (ad w (i + 1 + 2 * j.toNatClampNeg)) :: st) s) : G x Q n w pc lv (.int j :: .ref (ad w i) :: st) s := by
  intro H locs ls hP hD hS hl
  obtain ⟨q0, h1, h2⟩ := wl_at (s := s) hi
  rw [cell_R hk hn] at h2
  exact va_aldq C.1 C.2.1 C.2.2.2.2.2.1 hP q0 2 h2 rfl (gin_some hf).1 hdg (kk (gin_some hf).1 (gin_some hf).2 H locs ls hP hD hS hl)
theorem upd_w {s : Mem} {i j : Nat} {v : Int32} : upd (fun m => rI s i m) j v = fun m => rI (wI s i j v) i m := by
  funext m
  by_cases h : m = j <;> simp [upd, rI, wI, h]
theorem updL_w {s : Mem} {i j : Nat} {v : Int64} : vp_updL (fun m => rL s i m) j v = fun m => rL (wL s i j v) i m := by
  funext m
  by_cases h : m = j <;> simp [vp_updL, rL, wL, h]
theorem g_iast (C : Cx x cc own n w ret) {i N : Nat} {j v : Int32} (hk : kd i = 20) (hn : ln i = N) (hi : i ∈ SS w) (hdg : decode cc pc = .ok (.iastore, 1)) (hf : gin j N X = some q) (kk : X = some q → G x Q n w (pc + 1) lv st (wI s i j.toNatClampNeg v)) : G x Q n w pc lv (.int v :: .int j :: .ref (ad w i) :: st) s := by
  intro H locs ls hP hD hS hl
  obtain ⟨q0, h1, h2⟩ := wl_at (s := s) hi
  rw [cell_I hk hn] at h2
  refine va_iast C.1 C.2.1 C.2.2.2.2.2.1 hP hD hS q0 0 h2 rfl (gin_some hf).1 hdg (fun H1 locs1 hP1 hD1 hS1 => ?_)
  rw [upd_w, ← cell_I (w := w) (s := wI s i j.toNatClampNeg v) hk hn, wl_set hD h1 (fun j hj => cell_wI hj)] at hP1 hD1
  exact kk (gin_some hf).2 H1 locs1 ls hP1 hD1 hS1 hl
theorem g_last (C : Cx x cc own n w ret) {i N : Nat} {j : Int32} {v : Int64} (hk : kd i = 21) (hn : ln i = N) (hi : i ∈ SS w) (hdg : decode cc pc = .ok (.lastore, 1)) (hf : gin j N X = some q) (kk : X = some q → G x Q n w (pc + 1) lv st (wL s i j.toNatClampNeg v)) : G x Q n w pc lv (.long v :: .int j :: .ref (ad w i) :: st) s := by
  intro H locs ls hP hD hS hl
  obtain ⟨q0, h1, h2⟩ := wl_at (s := s) hi
  rw [cell_J hk hn] at h2
  refine va_last C.1 C.2.1 C.2.2.2.2.2.1 hP hD hS q0 1 h2 rfl (gin_some hf).1 hdg (fun H1 locs1 hP1 hD1 hS1 => ?_)
  rw [updL_w, ← cell_J (w := w) (s := wL s i j.toNatClampNeg v) hk hn, wl_set hD h1 (fun j hj => cell_wL hj)] at hP1 hD1
  exact kk (gin_some hf).2 H1 locs1 ls hP1 hD1 hS1 hl
-- calls
abbrev PC (args : List Value) (w : WX) (s : Mem) : Array Value → State → Prop := va_Pc args (fun U => WB w s U)
theorem PC_blind (args : List Value) (w : WX) (s : Mem) : FrameBlind (PC args w s) := by
  intro a U g mk h
  obtain ⟨h1, ⟨hP, hK, hD⟩, hZ⟩ := h
  obtain ⟨z0, z1, z2, z3, z4, z5, z6⟩ := hZ
  exact ⟨h1, ⟨hP, va_K.moved (u := U) (U := U.calling g mk a) (Vm.Alike.refl U.vm) hK, hD⟩, fun q hq => va_Nw.same (u := U) (U := U.calling g mk a) rfl rfl (z0 q hq), va_Z.moved (u := U) (U := U.calling g mk a) (Vm.Alike.refl U.vm) z1, va_T.moved (u := U) (U := U.calling g mk a) (Vm.Alike.refl U.vm) z2, vk_S.moved (u := U) (U := U.calling g mk a) (Vm.Alike.refl U.vm) z3, fun i hi => vk_R.same (u := U) (U := U.calling g mk a) rfl (z4 i hi), va_Z.moved (u := U) (U := U.calling g mk a) (Vm.Alike.refl U.vm) z5, va_Zq.moved (u := U) (U := U.calling g mk a) (Vm.Alike.refl U.vm) z6⟩
theorem PC_at {args : List Value} {H : Heap} {locs : List Loc} (C : Cx x cc own n w ret) (hP : va_P (wG w) vwCl (wl w s) H) (hD : va_D (kA x) (wl w s)) (hS : va_S (kA x) (ks x).heap H locs) (U : State) (hU : U.heap = H) (hW : (ks x).WarmedH U.vm) : PC args w s args.toArray U :=
  ⟨rfl, ⟨by rw [hU]; exact hP, va_K.moved hW.alike C.2.2.2.2.2.1, wD_of hD⟩, (C.2.2.2.2.2.2.1.go hW (fun a h1 h2 => by rw [hU]; exact hS.2.1 a h1 h2)).narrow C.2.2.2.2.2.2.2.2.2.1⟩
abbrev CI (l : Launch) (y : MethodName) (ws : List Cond) (rm : Room) (args : List Value) (w : WX) (s : Mem) (r : Int32) (s' : Mem) : Prop := Met l y ws rm (PC args w s) (va_Qi (fun (r' : Int32) (_ : Unit) => r' = r) (fun _ t => WP w s' t) (wA w)) 0 0 (wA w)
abbrev CB (l : Launch) (y : MethodName) (ws : List Cond) (rm : Room) (args : List Value) (w : WX) (s : Mem) (r : Bool) (s' : Mem) : Prop := Met l y ws rm (PC args w s) (va_Qi (fun (r' : Int32) (_ : Unit) => r' = bI r) (fun _ t => WP w s' t) (wA w)) 0 0 (wA w)
abbrev CL (l : Launch) (y : MethodName) (ws : List Cond) (rm : Room) (args : List Value) (w : WX) (s : Mem) (r : Int64) (s' : Mem) : Prop := Met l y ws rm (PC args w s) (va_Ql (fun (r' : Int64) (_ : Unit) => r' = r) (fun _ t => WP w s' t) (wA w)) 0 0 (wA w)
abbrev CV (l : Launch) (y : MethodName) (ws : List Cond) (rm : Room) (args : List Value) (w : WX) (s : Mem) (s' : Mem) : Prop := Met l y ws rm (PC args w s) (va_Qv (fun (_ : Unit) => True) (fun _ t => WP w s' t) (wA w)) 0 0 (wA w)
theorem rm00 (C : Cx x cc own n w ret) : kcl x + 0 ≤ (kR x).cells ∧ ksl x + 0 ≤ (kR x).slots := C.2.2.2.2.2.2.2.2.2.2
theorem g_wid {H : Heap} {locs : List Loc} {g : JFrame} (k : WK x H locs Q g) : W (kp x) (kl x) (ke x) (kR x) (ks x) (km x) (kg x) (kb x) (kh x) (kc x) H locs (kcl x + 0) (ksl x + 0) Q g := k
theorem g_callVI (C : Cx x cc own n w ret) {i c N : Nat} {R : String} {T : u_T} {y : MethodName} {ws : List Cond} {bytes : ByteArray} {maxL index nA : Nat} {rt : Option FieldType} {rm : Room} (As : List Value) {f : Option (Int32 × Mem)} {K : Int32 → Mem → Option α} (hM : ∀ r s', f = some (r, s') → CI (kl x) y ws rm (.ref (ad w i) :: As) w s r s') (cw : CallW (kR x) (ks x) (kg x) own R index y bytes maxL rt ws rm 0 0 nA) (hk : kd i = c) (hc : c < 20) (hcl : vwCl[c]? = some (R, T, N)) (hi : i ∈ SS w) (hn : As.length = nA) (st' : List Value) (hst : As.reverse ++ .ref (ad w i) :: st = st') (hr : (st.map fun v => v.category).sum ≤ 8) (hdg : decode cc pc = .ok (.invokevirtual index, 3)) (hf : bnd f K = some q)
    (kk : ∀ (r : Int32) (s' : Mem), K r s' = some q → G x Q n w (pc + 3) lv (.int r :: st) s') : G x Q n w pc lv st' s := by
  obtain ⟨r, s', h1, h2⟩ := bnd_some hf
  subst hst
  intro H locs ls hP hD hS hl
  obtain ⟨q0, g1, g2⟩ := wl_at (s := s) hi
  rw [cell_O hk hc] at g2
  refine va_calli (va_runV (As := As) (rest := st) C.fix (hM r s' h1) cw ⟨PC_blind _ _ _, va_recv C.2.2.2.2.2.1 hP hcl g2, PC_at C hP hD hS⟩ rfl hn hl.1 rfl (lv_room hr) hdg (rm00 C)) hS (fun q _ h => C.2.2.2.2.2.2.2.2.2.1 q h) (fun q h => C.2.2.2.2.2.2.2.2.2.1 q h) (fun r' u t H1 locs1 ht hvm hw hB hz hkk hS1 => ?_)
  obtain ⟨b1, b2, b3⟩ := hB
  rw [ht] at b1
  subst hw
  exact g_wid (kk _ s' h2 H1 locs1 ls b1 (b3.weaken (fun _ _ _ h => C.2.2.2.2.2.2.2.2.2.1 _ h)) hS1 hl)
theorem g_callVB (C : Cx x cc own n w ret) {i c N : Nat} {R : String} {T : u_T} {y : MethodName} {ws : List Cond} {bytes : ByteArray} {maxL index nA : Nat} {rt : Option FieldType} {rm : Room} (As : List Value) {f : Option (Bool × Mem)} {K : Bool → Mem → Option α} (hM : ∀ r s', f = some (r, s') → CB (kl x) y ws rm (.ref (ad w i) :: As) w s r s') (cw : CallW (kR x) (ks x) (kg x) own R index y bytes maxL rt ws rm 0 0 nA) (hk : kd i = c) (hc : c < 20) (hcl : vwCl[c]? = some (R, T, N)) (hi : i ∈ SS w) (hn : As.length = nA) (st' : List Value) (hst : As.reverse ++ .ref (ad w i) :: st = st') (hr : (st.map fun v => v.category).sum ≤ 8) (hdg : decode cc pc = .ok (.invokevirtual index, 3)) (hf : bnd f K = some q)
    (kk : ∀ (r : Bool) (s' : Mem), K r s' = some q → G x Q n w (pc + 3) lv (.int (bI r) :: st) s') : G x Q n w pc lv st' s := by
  obtain ⟨r, s', h1, h2⟩ := bnd_some hf
  subst hst
  intro H locs ls hP hD hS hl
  obtain ⟨q0, g1, g2⟩ := wl_at (s := s) hi
  rw [cell_O hk hc] at g2
  refine va_calli (va_runV (As := As) (rest := st) C.fix (hM r s' h1) cw ⟨PC_blind _ _ _, va_recv C.2.2.2.2.2.1 hP hcl g2, PC_at C hP hD hS⟩ rfl hn hl.1 rfl (lv_room hr) hdg (rm00 C)) hS (fun q _ h => C.2.2.2.2.2.2.2.2.2.1 q h) (fun q h => C.2.2.2.2.2.2.2.2.2.1 q h) (fun r' u t H1 locs1 ht hvm hw hB hz hkk hS1 => ?_)
  obtain ⟨b1, b2, b3⟩ := hB
  rw [ht] at b1
  subst hw
  exact g_wid (kk _ s' h2 H1 locs1 ls b1 (b3.weaken (fun _ _ _ h => C.2.2.2.2.2.2.2.2.2.1 _ h)) hS1 hl)
theorem g_callVL (C : Cx x cc own n w ret) {i c N : Nat} {R : String} {T : u_T} {y : MethodName} {ws : List Cond} {bytes : ByteArray} {maxL index nA : Nat} {rt : Option FieldType} {rm : Room} (As : List Value) {f : Option (Int64 × Mem)} {K : Int64 → Mem → Option α} (hM : ∀ r s', f = some (r, s') → CL (kl x) y ws rm (.ref (ad w i) :: As) w s r s') (cw : CallW (kR x) (ks x) (kg x) own R index y bytes maxL rt ws rm 0 0 nA) (hk : kd i = c) (hc : c < 20) (hcl : vwCl[c]? = some (R, T, N)) (hi : i ∈ SS w) (hn : As.length = nA) (st' : List Value) (hst : As.reverse ++ .ref (ad w i) :: st = st') (hr : (st.map fun v => v.category).sum ≤ 8) (hdg : decode cc pc = .ok (.invokevirtual index, 3)) (hf : bnd f K = some q)
    (kk : ∀ (r : Int64) (s' : Mem), K r s' = some q → G x Q n w (pc + 3) lv (.long r :: st) s') : G x Q n w pc lv st' s := by
  obtain ⟨r, s', h1, h2⟩ := bnd_some hf
  subst hst
  intro H locs ls hP hD hS hl
  obtain ⟨q0, g1, g2⟩ := wl_at (s := s) hi
  rw [cell_O hk hc] at g2
  refine va_calll (va_runV (As := As) (rest := st) C.fix (hM r s' h1) cw ⟨PC_blind _ _ _, va_recv C.2.2.2.2.2.1 hP hcl g2, PC_at C hP hD hS⟩ rfl hn hl.1 rfl (lv_room hr) hdg (rm00 C)) hS (fun q _ h => C.2.2.2.2.2.2.2.2.2.1 q h) (fun q h => C.2.2.2.2.2.2.2.2.2.1 q h) (fun r' u t H1 locs1 ht hvm hw hB hz hkk hS1 => ?_)
  obtain ⟨b1, b2, b3⟩ := hB
  rw [ht] at b1
  subst hw
  exact g_wid (kk _ s' h2 H1 locs1 ls b1 (b3.weaken (fun _ _ _ h => C.2.2.2.2.2.2.2.2.2.1 _ h)) hS1 hl)
theorem g_callVV (C : Cx x cc own n w ret) {i c N : Nat} {R : String} {T : u_T} {y : MethodName} {ws : List Cond} {bytes : ByteArray} {maxL index nA : Nat} {rt : Option FieldType} {rm : Room} (As : List Value) {f : Option (Unit × Mem)} {K : Unit → Mem → Option α} (hM : ∀ s', f = some ((), s') → CV (kl x) y ws rm (.ref (ad w i) :: As) w s s') (cw : CallW (kR x) (ks x) (kg x) own R index y bytes maxL rt ws rm 0 0 nA) (hk : kd i = c) (hc : c < 20) (hcl : vwCl[c]? = some (R, T, N)) (hi : i ∈ SS w) (hn : As.length = nA) (st' : List Value) (hst : As.reverse ++ .ref (ad w i) :: st = st') (hr : (st.map fun v => v.category).sum ≤ 8) (hdg : decode cc pc = .ok (.invokevirtual index, 3)) (hf : bnd f K = some q)
    (kk : ∀ (s' : Mem), K () s' = some q → G x Q n w (pc + 3) lv st s') : G x Q n w pc lv st' s := by
  obtain ⟨r, s', h1, h2⟩ := bnd_some hf
  subst hst
  intro H locs ls hP hD hS hl
  obtain ⟨q0, g1, g2⟩ := wl_at (s := s) hi
  rw [cell_O hk hc] at g2
  refine va_callv (va_runV (As := As) (rest := st) C.fix (hM s' h1) cw ⟨PC_blind _ _ _, va_recv C.2.2.2.2.2.1 hP hcl g2, PC_at C hP hD hS⟩ rfl hn hl.1 rfl (lv_room hr) hdg (rm00 C)) hS (fun q _ h => C.2.2.2.2.2.2.2.2.2.1 q h) (fun q h => C.2.2.2.2.2.2.2.2.2.1 q h) (fun u t H1 locs1 ht hvm hw hB hz hkk hS1 => ?_)
  obtain ⟨b1, b2, b3⟩ := hB
  rw [ht] at b1
  exact g_wid (kk s' h2 H1 locs1 ls b1 (b3.weaken (fun _ _ _ h => C.2.2.2.2.2.2.2.2.2.1 _ h)) hS1 hl)
theorem g_callSI (C : Cx x cc own n w ret) {y : MethodName} {ws : List Cond} {bytes : ByteArray} {maxL index nA : Nat} {rt : Option FieldType} {rm : Room} (As : List Value) {f : Option (Int32 × Mem)} {K : Int32 → Mem → Option α} (hM : ∀ r s', f = some (r, s') → CI (kl x) y ws rm As w s r s') (cw : CallB (kR x) (ks x) (kg x) own index y bytes maxL rt ws rm 0 0 nA ∧ (Cond.static y).before (kg x) (ks x) = true) (hn : As.length = nA) (st' : List Value) (hst : As.reverse ++ st = st') (hr : (st.map fun v => v.category).sum ≤ 8) (hdg : decode cc pc = .ok (.invokestatic index, 3)) (hf : bnd f K = some q)
    (kk : ∀ (r : Int32) (s' : Mem), K r s' = some q → G x Q n w (pc + 3) lv (.int r :: st) s') : G x Q n w pc lv st' s := by
  obtain ⟨r, s', h1, h2⟩ := bnd_some hf
  subst hst
  intro H locs ls hP hD hS hl
  refine va_calli (va_runS (As := As) (rest := st) C.fix (hM r s' h1) cw ⟨PC_blind _ _ _, PC_at C hP hD hS⟩ rfl hn hl.1 rfl (lv_room hr) hdg (rm00 C)) hS (fun q _ h => C.2.2.2.2.2.2.2.2.2.1 q h) (fun q h => C.2.2.2.2.2.2.2.2.2.1 q h) (fun r' u t H1 locs1 ht hvm hw hB hz hkk hS1 => ?_)
  obtain ⟨b1, b2, b3⟩ := hB
  rw [ht] at b1
  subst hw
  exact g_wid (kk _ s' h2 H1 locs1 ls b1 (b3.weaken (fun _ _ _ h => C.2.2.2.2.2.2.2.2.2.1 _ h)) hS1 hl)
theorem g_callSB (C : Cx x cc own n w ret) {y : MethodName} {ws : List Cond} {bytes : ByteArray} {maxL index nA : Nat} {rt : Option FieldType} {rm : Room} (As : List Value) {f : Option (Bool × Mem)} {K : Bool → Mem → Option α} (hM : ∀ r s', f = some (r, s') → CB (kl x) y ws rm As w s r s') (cw : CallB (kR x) (ks x) (kg x) own index y bytes maxL rt ws rm 0 0 nA ∧ (Cond.static y).before (kg x) (ks x) = true) (hn : As.length = nA) (st' : List Value) (hst : As.reverse ++ st = st') (hr : (st.map fun v => v.category).sum ≤ 8) (hdg : decode cc pc = .ok (.invokestatic index, 3)) (hf : bnd f K = some q)
    (kk : ∀ (r : Bool) (s' : Mem), K r s' = some q → G x Q n w (pc + 3) lv (.int (bI r) :: st) s') : G x Q n w pc lv st' s := by
  obtain ⟨r, s', h1, h2⟩ := bnd_some hf
  subst hst
  intro H locs ls hP hD hS hl
  refine va_calli (va_runS (As := As) (rest := st) C.fix (hM r s' h1) cw ⟨PC_blind _ _ _, PC_at C hP hD hS⟩ rfl hn hl.1 rfl (lv_room hr) hdg (rm00 C)) hS (fun q _ h => C.2.2.2.2.2.2.2.2.2.1 q h) (fun q h => C.2.2.2.2.2.2.2.2.2.1 q h) (fun r' u t H1 locs1 ht hvm hw hB hz hkk hS1 => ?_)
  obtain ⟨b1, b2, b3⟩ := hB
  rw [ht] at b1
  subst hw
  exact g_wid (kk _ s' h2 H1 locs1 ls b1 (b3.weaken (fun _ _ _ h => C.2.2.2.2.2.2.2.2.2.1 _ h)) hS1 hl)
theorem g_callSL (C : Cx x cc own n w ret) {y : MethodName} {ws : List Cond} {bytes : ByteArray} {maxL index nA : Nat} {rt : Option FieldType} {rm : Room} (As : List Value) {f : Option (Int64 × Mem)} {K : Int64 → Mem → Option α} (hM : ∀ r s', f = some (r, s') → CL (kl x) y ws rm As w s r s') (cw : CallB (kR x) (ks x) (kg x) own index y bytes maxL rt ws rm 0 0 nA ∧ (Cond.static y).before (kg x) (ks x) = true) (hn : As.length = nA) (st' : List Value) (hst : As.reverse ++ st = st') (hr : (st.map fun v => v.category).sum ≤ 8) (hdg : decode cc pc = .ok (.invokestatic index, 3)) (hf : bnd f K = some q)
    (kk : ∀ (r : Int64) (s' : Mem), K r s' = some q → G x Q n w (pc + 3) lv (.long r :: st) s') : G x Q n w pc lv st' s := by
  obtain ⟨r, s', h1, h2⟩ := bnd_some hf
  subst hst
  intro H locs ls hP hD hS hl
  refine va_calll (va_runS (As := As) (rest := st) C.fix (hM r s' h1) cw ⟨PC_blind _ _ _, PC_at C hP hD hS⟩ rfl hn hl.1 rfl (lv_room hr) hdg (rm00 C)) hS (fun q _ h => C.2.2.2.2.2.2.2.2.2.1 q h) (fun q h => C.2.2.2.2.2.2.2.2.2.1 q h) (fun r' u t H1 locs1 ht hvm hw hB hz hkk hS1 => ?_)
  obtain ⟨b1, b2, b3⟩ := hB
  rw [ht] at b1
  subst hw
  exact g_wid (kk _ s' h2 H1 locs1 ls b1 (b3.weaken (fun _ _ _ h => C.2.2.2.2.2.2.2.2.2.1 _ h)) hS1 hl)
theorem g_lv (h : lv = lv') (k : G x Q n w pc lv' st s) : G x Q n w pc lv st s := by rw [h]; exact k
-- switches
theorem g_tabIn (C : Cx x cc own n w ret) {dflt lo hi off : Int} {offs : Array Int} {len : Nat} {e k : Int32} {tgt : Nat} (hdg : decode cc pc = .ok (.tableswitch dflt lo hi offs, len)) (he : e = k) (h1 : ¬ k.toInt < lo) (h2 : ¬ hi < k.toInt) (ho : offs[(k.toInt - lo).toNat]? = some off) (ht : (pc : Int) + off = (tgt : Int)) (kk : G x Q n w tgt lv st s) : G x Q n w pc lv (.int e :: st) s := by
  subst he
  exact fun H locs ls hP hD hS hl => lv_tableIn C.1 C.2.1 hdg h1 h2 ho ht (kk H locs ls hP hD hS hl)
theorem g_tabOut (C : Cx x cc own n w ret) {dflt lo hi : Int} {offs : Array Int} {len : Nat} {e : Int32} {tgt : Nat} (hdg : decode cc pc = .ok (.tableswitch dflt lo hi offs, len)) (h : e.toInt < lo ∨ hi < e.toInt) (ht : (pc : Int) + dflt = (tgt : Int)) (kk : G x Q n w tgt lv st s) : G x Q n w pc lv (.int e :: st) s := fun H locs ls hP hD hS hl => lv_tableOut C.1 C.2.1 hdg h ht (kk H locs ls hP hD hS hl)
theorem g_lookIn (C : Cx x cc own n w ret) {dflt off : Int} {ps : Array (Int × Int)} {len : Nat} {e k : Int32} {tgt : Nat} (hdg : decode cc pc = .ok (.lookupswitch dflt ps, len)) (he : e = k) (hp : (ps.toList.zip (ps.toList.drop 1)).all (fun (a, next) => a.1 < next.1) = true) (ho : Op.lookupswitch.offset ps.toList dflt k.toInt = off) (ht : (pc : Int) + off = (tgt : Int)) (kk : G x Q n w tgt lv st s) : G x Q n w pc lv (.int e :: st) s := by
  subst he
  exact fun H locs ls hP hD hS hl => lv_lookup C.1 C.2.1 hdg hp ho ht (kk H locs ls hP hD hS hl)
theorem g_lookOut (C : Cx x cc own n w ret) {dflt off : Int} {ps : Array (Int × Int)} {len : Nat} {e : Int32} {tgt : Nat} (hdg : decode cc pc = .ok (.lookupswitch dflt ps, len)) (hp : (ps.toList.zip (ps.toList.drop 1)).all (fun (a, next) => a.1 < next.1) = true) (ho : Op.lookupswitch.offset ps.toList dflt e.toInt = off) (ht : (pc : Int) + off = (tgt : Int)) (kk : G x Q n w tgt lv st s) : G x Q n w pc lv (.int e :: st) s := fun H locs ls hP hD hS hl => lv_lookup C.1 C.2.1 hdg hp ho ht (kk H locs ls hP hD hS hl)
-- Math
theorem g_imax (C : Cx x cc own n w ret) {index : Nat} {a b : Int32} (hR : 1 ≤ (kR x).frames ∧ 21 ≤ (kR x).locals) (h1 : Cond.methodLink own index Lib.Math.max.name ∈ GW) (h2 : Cond.static Lib.Math.max.name ∈ GW) (h3 : Cond.initialized "java/lang/Math" ∈ GW) (h4 : Cond.code Lib.Math.max.name Lib.Math.max.code 2 (some .int) ∈ GW) (hr : (st.map fun v => v.category).sum ≤ 8) (hdg : decode cc pc = .ok (.invokestatic index, 3)) (kk : G x Q n w (pc + 3) lv (.int (imax a b) :: st) s) : G x Q n w pc lv (.int b :: .int a :: st) s := fun H locs ls hP hD hS hl => va_mmax C.1 C.2.1 (C.2.2.1.trans hl.1.symm) C.2.2.2.1 (C.2.2.2.2.1 _ h1) (C.2.2.2.2.1 _ h2) (C.2.2.2.2.1 _ h3) (C.2.2.2.2.1 _ h4) hR.1 (by omega) (rm00 C).1 (rm00 C).2 hdg (kk H locs ls hP hD hS hl)
theorem g_imin (C : Cx x cc own n w ret) {index : Nat} {a b : Int32} (hR : 1 ≤ (kR x).frames ∧ 21 ≤ (kR x).locals) (h1 : Cond.methodLink own index Lib.Math.min.name ∈ GW) (h2 : Cond.static Lib.Math.min.name ∈ GW) (h3 : Cond.initialized "java/lang/Math" ∈ GW) (h4 : Cond.code Lib.Math.min.name Lib.Math.min.code 2 (some .int) ∈ GW) (hr : (st.map fun v => v.category).sum ≤ 8) (hdg : decode cc pc = .ok (.invokestatic index, 3)) (kk : G x Q n w (pc + 3) lv (.int (imin a b) :: st) s) : G x Q n w pc lv (.int b :: .int a :: st) s := fun H locs ls hP hD hS hl => va_mmin C.1 C.2.1 (C.2.2.1.trans hl.1.symm) C.2.2.2.1 (C.2.2.2.2.1 _ h1) (C.2.2.2.2.1 _ h2) (C.2.2.2.2.1 _ h3) (C.2.2.2.2.1 _ h4) hR.1 (by omega) (rm00 C).1 (rm00 C).2 hdg (kk H locs ls hP hD hS hl)
theorem g_lmax (C : Cx x cc own n w ret) {index : Nat} {a b : Int64} (hR : 1 ≤ (kR x).frames ∧ 23 ≤ (kR x).locals) (h1 : Cond.methodLink own index Lib.MathLoose.max_long.x ∈ GW) (h2 : Cond.static Lib.MathLoose.max_long.x ∈ GW) (h3 : Cond.initialized "java/lang/Math" ∈ GW) (h4 : Cond.code Lib.MathLoose.max_long.x Lib.MathLoose.max_long.code 4 (some .long) ∈ GW) (hr : (st.map fun v => v.category).sum ≤ 8) (hdg : decode cc pc = .ok (.invokestatic index, 3)) (kk : G x Q n w (pc + 3) lv (.long (lmax a b) :: st) s) : G x Q n w pc lv (.long b :: .long a :: st) s := fun H locs ls hP hD hS hl => va_mmax_long C.1 C.2.1 (C.2.2.1.trans hl.1.symm) C.2.2.2.1 (C.2.2.2.2.1 _ h1) (C.2.2.2.2.1 _ h2) (C.2.2.2.2.1 _ h3) (C.2.2.2.2.1 _ h4) hR.1 (by omega) (rm00 C).1 (rm00 C).2 hdg (kk H locs ls hP hD hS hl)
-- null
theorem g_ifnonnull (C : Cx x cc own n w ret) {a : Nat} {off : Int} {tgt : Nat} (hdg : decode cc pc = .ok (.ifnonnull off, 3)) (ht : (pc : Int) + off = (tgt : Int)) (kk : G x Q n w tgt lv st s) : G x Q n w pc lv (.ref a :: st) s := fun H locs ls hP hD hS hl => lv_ifnonnull C.1 C.2.1 hdg ht (kk H locs ls hP hD hS hl)
theorem g_ifnonnullN (C : Cx x cc own n w ret) {off : Int} (hdg : decode cc pc = .ok (.ifnonnull off, 3)) (kk : G x Q n w (pc + 3) lv st s) : G x Q n w pc lv (.null :: st) s := fun H locs ls hP hD hS hl => lv_ifnonnullN C.1 C.2.1 hdg (kk H locs ls hP hD hS hl)
-- the reader's tape: not there at first
theorem g_getT (C : Cx x cc own n w ret) {index : Nat} (hi : 36 ∈ SS w) (hin : ∀ u ∈ u_ws RX7 TX7 11, u ∈ GW) (hlink : Cond.fieldLink own index "ElderPapers$WayReader" "tape" "LElderPapers$Pile;" ∈ GW) (hdg : decode cc pc = .ok (.getfield index, 3)) (hf : (if rI s 36 3 = 0 then X else Y) = some q)
    (k0 : X = some q → G x Q n w (pc + 3) lv (.null :: st) s) (k1 : Y = some q → G x Q n w (pc + 3) lv (.ref (ad w 43) :: st) s) : G x Q n w pc lv (.ref (ad w 36) :: st) s := by
  by_cases h : rI s 36 3 = 0
  · exact g_get C (R := RX7) (T := TX7) (N := 11) (k := 3) (v := .null) kd_36 (by decide) rfl hi hin (by decide) hlink rfl (by simp [fsOf, h]) hdg (k0 (ite_t hf h))
  · exact g_get C (R := RX7) (T := TX7) (N := 11) (k := 3) (v := .ref (ad w 43)) kd_36 (by decide) rfl hi hin (by decide) hlink rfl (by simp [fsOf, h]) hdg (k1 (ite_f hf h))
theorem fs_7_3 : (fsOf w s 36 7).set 3 (.ref (ad w 43)) = fsOf w (wI s 36 3 1) 36 7 := by simp [fsOf, rI_w]
theorem g_putT (C : Cx x cc own n w ret) {index : Nat} (hi : 36 ∈ SS w) (hin : ∀ u ∈ u_ws RX7 TX7 11, u ∈ GW) (hlink : Cond.fieldLink own index "ElderPapers$WayReader" "tape" "LElderPapers$Pile;" ∈ GW) (hdg : decode cc pc = .ok (.putfield index, 3))
    (kk : G x Q n w (pc + 3) lv st (wI s 36 3 1)) : G x Q n w pc lv (.ref (ad w 43) :: .ref (ad w 36) :: st) s := by
  intro H locs ls hP hD hS hl
  obtain ⟨q0, h1, h2⟩ := wl_at (s := s) hi
  rw [cell_O kd_36 (by decide)] at h2
  refine va_put C.1 C.2.1 C.2.2.2.2.1 hin tyX7 tyX7_ok nmX7 C.2.2.2.1 C.2.2.2.2.2.1 hP hD hS q0 h2 rfl 3 (by decide) (C.2.2.2.2.1 _ hlink) (fun z hz => hz) rfl (ty := .object "ElderPapers$Pile") (tyX7_ok 3 (by decide)) rfl rfl (by simp [fsOf]) hdg (fun H1 locs1 hP1 hD1 hS1 => ?_)
  rw [fs_7_3, ← cell_O (w := w) (s := wI s 36 3 1) kd_36 (by decide), wl_set hD h1 (fun j hj => cell_wI hj)] at hP1 hD1
  exact kk H1 locs1 ls hP1 hD1 hS1 hl
-- the table outside
theorem g_getK (C : Cx x cc own n w ret) {index : Nat} (hlink : Cond.fieldLink own index "ElderPapers" "KIND_ABOVE" "[I" ∈ GW) (hdg : decode cc pc = .ok (.getstatic index, 3)) (kk : G x Q n w (pc + 3) lv (.ref (ka w) :: st) s) : G x Q n w pc lv st s := fun H locs ls hP hD hS hl => va_gets C.1 C.2.1 C.2.2.2.2.2.2.1.2.1 hS C.2.2.2.1 (C.2.2.2.2.1 _ hlink) (fun _ h => h) hdg (kk H locs ls hP hD hS hl)
theorem g_lenK (C : Cx x cc own n w ret) (hdg : decode cc pc = .ok (.arraylength, 1)) (kk : G x Q n w (pc + 1) lv (.int 9 :: st) s) : G x Q n w pc lv (.ref (ka w) :: st) s := fun H locs ls hP hD hS hl => va_tlen C.1 C.2.1 C.2.2.2.2.2.2.1.2.2.1 hS rfl hdg (kk H locs ls hP hD hS hl)
theorem g_ialdK (C : Cx x cc own n w ret) {j : Int32} (hdg : decode cc pc = .ok (.iaload, 1)) (hf : gin j 9 X = some q) (kk : X = some q → G x Q n w (pc + 1) lv (.int (kaV j.toNatClampNeg) :: st) s) : G x Q n w pc lv (.int j :: .ref (ka w) :: st) s := fun H locs ls hP hD hS hl => va_ti C.1 C.2.1 C.2.2.2.2.2.2.1.2.2.1 hS (gin_some hf).1 rfl hdg (kk (gin_some hf).2 H locs ls hP hD hS hl)
-- nest mates
theorem g_cwN (C : Cx x cc own n w ret) {rm0 rm' : Room} (hR : kR x = rm0) {host R : String} {index maxL nA : Nat} {y : MethodName} {bytes : ByteArray} {rt : Option FieldType} (hq : (own, index, y, host) ∈ nstL) (h2 : Cond.static y ∈ GW) (h4 : Cond.initialized R ∈ GW) (h5 : Cond.code y bytes maxL rt ∈ GW) (hd : y.cls = R ∧ y.cls ≠ "java/lang/invoke/MethodHandle" ∧ y.cls ≠ "java/lang/invoke/VarHandle" ∧ (parseMethodDescriptor y.desc).map (fun d => d.parameters.length) = some nA) (hr : (rm'.frames + 1 ≤ rm0.frames ∧ 8 + (maxL + 11) + rm'.locals ≤ rm0.locals) ∧ rm'.cells = 0 ∧ rm'.slots = 0) : va_CN (kR x) (ks x) (kg x) own index y host bytes maxL rt (wz y bytes maxL rt) rm' 0 0 nA ∧ (Cond.static y).before (kg x) (ks x) = true ∧ True :=
  ⟨va_cnB nA C.2.2.2.2.1 (gi_N h5) rfl hr.2.1 hr.2.2 (C.2.2.2.2.2.2.1.1 _ hq) (C.2.2.2.2.1 _ (by rw [hd.1]; exact h4)) hd.2 (by rw [hR]; exact hr.1), C.2.2.2.2.1 _ h2, trivial⟩
theorem g_callNI (C : Cx x cc own n w ret) {y : MethodName} {host : String} {ws : List Cond} {bytes : ByteArray} {maxL index nA : Nat} {rt : Option FieldType} {rm : Room} (As : List Value) {f : Option (Int32 × Mem)} {K : Int32 → Mem → Option α} (hM : ∀ r s', f = some (r, s') → CI (kl x) y ws rm As w s r s') (cw : va_CN (kR x) (ks x) (kg x) own index y host bytes maxL rt ws rm 0 0 nA ∧ (Cond.static y).before (kg x) (ks x) = true ∧ True) (hn : As.length = nA) (st' : List Value) (hst : As.reverse ++ st = st') (hr : (st.map fun v => v.category).sum ≤ 8) (hdg : decode cc pc = .ok (.invokestatic index, 3)) (hf : bnd f K = some q)
    (kk : ∀ (r : Int32) (s' : Mem), K r s' = some q → G x Q n w (pc + 3) lv (.int r :: st) s') : G x Q n w pc lv st' s := by
  obtain ⟨r, s', h1, h2⟩ := bnd_some hf
  subst hst
  intro H locs ls hP hD hS hl
  refine va_calli (va_runSN (As := As) (rest := st) C.fix (hM r s' h1) cw ⟨PC_blind _ _ _, PC_at C hP hD hS⟩ rfl hn hl.1 rfl (lv_room hr) hdg (rm00 C)) hS (fun q _ h => C.2.2.2.2.2.2.2.2.2.1 q h) (fun q h => C.2.2.2.2.2.2.2.2.2.1 q h) (fun r' u t H1 locs1 ht hvm hw hB hz hkk hS1 => ?_)
  obtain ⟨b1, b2, b3⟩ := hB
  rw [ht] at b1
  subst hw
  exact g_wid (kk _ s' h2 H1 locs1 ls b1 (b3.weaken (fun _ _ _ h => C.2.2.2.2.2.2.2.2.2.1 _ h)) hS1 hl)
theorem g_callNB (C : Cx x cc own n w ret) {y : MethodName} {host : String} {ws : List Cond} {bytes : ByteArray} {maxL index nA : Nat} {rt : Option FieldType} {rm : Room} (As : List Value) {f : Option (Bool × Mem)} {K : Bool → Mem → Option α} (hM : ∀ r s', f = some (r, s') → CB (kl x) y ws rm As w s r s') (cw : va_CN (kR x) (ks x) (kg x) own index y host bytes maxL rt ws rm 0 0 nA ∧ (Cond.static y).before (kg x) (ks x) = true ∧ True) (hn : As.length = nA) (st' : List Value) (hst : As.reverse ++ st = st') (hr : (st.map fun v => v.category).sum ≤ 8) (hdg : decode cc pc = .ok (.invokestatic index, 3)) (hf : bnd f K = some q)
    (kk : ∀ (r : Bool) (s' : Mem), K r s' = some q → G x Q n w (pc + 3) lv (.int (bI r) :: st) s') : G x Q n w pc lv st' s := by
  obtain ⟨r, s', h1, h2⟩ := bnd_some hf
  subst hst
  intro H locs ls hP hD hS hl
  refine va_calli (va_runSN (As := As) (rest := st) C.fix (hM r s' h1) cw ⟨PC_blind _ _ _, PC_at C hP hD hS⟩ rfl hn hl.1 rfl (lv_room hr) hdg (rm00 C)) hS (fun q _ h => C.2.2.2.2.2.2.2.2.2.1 q h) (fun q h => C.2.2.2.2.2.2.2.2.2.1 q h) (fun r' u t H1 locs1 ht hvm hw hB hz hkk hS1 => ?_)
  obtain ⟨b1, b2, b3⟩ := hB
  rw [ht] at b1
  subst hw
  exact g_wid (kk _ s' h2 H1 locs1 ls b1 (b3.weaken (fun _ _ _ h => C.2.2.2.2.2.2.2.2.2.1 _ h)) hS1 hl)
theorem g_callSV (C : Cx x cc own n w ret) {y : MethodName} {ws : List Cond} {bytes : ByteArray} {maxL index nA : Nat} {rt : Option FieldType} {rm : Room} (As : List Value) {f : Option (Unit × Mem)} {K : Unit → Mem → Option α} (hM : ∀ s', f = some ((), s') → CV (kl x) y ws rm As w s s') (cw : CallB (kR x) (ks x) (kg x) own index y bytes maxL rt ws rm 0 0 nA ∧ (Cond.static y).before (kg x) (ks x) = true) (hn : As.length = nA) (st' : List Value) (hst : As.reverse ++ st = st') (hr : (st.map fun v => v.category).sum ≤ 8) (hdg : decode cc pc = .ok (.invokestatic index, 3)) (hf : bnd f K = some q)
    (kk : ∀ (s' : Mem), K () s' = some q → G x Q n w (pc + 3) lv st s') : G x Q n w pc lv st' s := by
  obtain ⟨r, s', h1, h2⟩ := bnd_some hf
  subst hst
  intro H locs ls hP hD hS hl
  refine va_callv (va_runS (As := As) (rest := st) C.fix (hM s' h1) cw ⟨PC_blind _ _ _, PC_at C hP hD hS⟩ rfl hn hl.1 rfl (lv_room hr) hdg (rm00 C)) hS (fun q _ h => C.2.2.2.2.2.2.2.2.2.1 q h) (fun q h => C.2.2.2.2.2.2.2.2.2.1 q h) (fun u t H1 locs1 ht hvm hw hB hz hkk hS1 => ?_)
  obtain ⟨b1, b2, b3⟩ := hB
  rw [ht] at b1
  exact g_wid (kk s' h2 H1 locs1 ls b1 (b3.weaken (fun _ _ _ h => C.2.2.2.2.2.2.2.2.2.1 _ h)) hS1 hl)
theorem g_cwV (C : Cx x cc own n w ret) {rm0 rm' : Room} (hR : kR x = rm0) {R : String} {index maxL nA : Nat} {y : MethodName} {bytes : ByteArray} {rt : Option FieldType} (h1 : Cond.methodLink own index y ∈ GW) (h2 : Cond.instanceMethod y ∈ GW) (h3 : Cond.selects R y y ∈ GW) (h4 : Cond.initialized R ∈ GW) (h5 : Cond.code y bytes maxL rt ∈ GW) (hd : y.cls = R ∧ y.cls ≠ "java/lang/invoke/MethodHandle" ∧ y.cls ≠ "java/lang/invoke/VarHandle" ∧ (parseMethodDescriptor y.desc).map (fun d => d.parameters.length) = some nA) (hr : (rm'.frames + 1 ≤ rm0.frames ∧ 8 + (maxL + 11) + rm'.locals ≤ rm0.locals) ∧ rm'.cells = 0 ∧ rm'.slots = 0) : CallW (kR x) (ks x) (kg x) own R index y bytes maxL rt (wz y bytes maxL rt) rm' 0 0 nA := cwV nA C.2.2.2.2.1 (gi_V h1 h2 h3 h4 h5) rfl hr.2.1 hr.2.2 hd (by rw [hR]; exact hr.1)
theorem g_cwS (C : Cx x cc own n w ret) {rm0 rm' : Room} (hR : kR x = rm0) {R : String} {index maxL nA : Nat} {y : MethodName} {bytes : ByteArray} {rt : Option FieldType} (h1 : Cond.methodLink own index y ∈ GW) (h2 : Cond.static y ∈ GW) (h4 : Cond.initialized R ∈ GW) (h5 : Cond.code y bytes maxL rt ∈ GW) (hd : y.cls = R ∧ y.cls ≠ "java/lang/invoke/MethodHandle" ∧ y.cls ≠ "java/lang/invoke/VarHandle" ∧ (parseMethodDescriptor y.desc).map (fun d => d.parameters.length) = some nA) (hr : (rm'.frames + 1 ≤ rm0.frames ∧ 8 + (maxL + 11) + rm'.locals ≤ rm0.locals) ∧ rm'.cells = 0 ∧ rm'.slots = 0) : CallB (kR x) (ks x) (kg x) own index y bytes maxL rt (wz y bytes maxL rt) rm' 0 0 nA ∧ (Cond.static y).before (kg x) (ks x) = true := va_cwS nA C.2.2.2.2.1 (gi_S h1 h2 (by rw [hd.1]; exact h4) h5) rfl hr.2.1 hr.2.2 hd.2 (by rw [hR]; exact hr.1)
theorem g_copy (C : Cx x cc own n w ret) {index so d ns nd : Nat} {sp dp m : Int32} (hR : 1 ≤ (kR x).frames ∧ 40 ≤ (kR x).locals) (k1 : kd so = 20) (n1 : ln so = ns) (i1 : so ∈ SS w) (k2 : kd d = 20) (n2 : ln d = nd) (i2 : d ∈ SS w) (h1 : Cond.methodLink own index arraycopyName ∈ GW) (hr : (st.map fun v => v.category).sum ≤ 8) (hdg : decode cc pc = .ok (.invokestatic index, 3)) (hf : gcp sp ns dp nd m X = some q)
    (kk : X = some q → G x Q n w (pc + 3) lv st (cpI s so sp.toNatClampNeg d dp.toNatClampNeg m.toNatClampNeg)) : G x Q n w pc lv (.int m :: .int dp :: .ref (ad w d) :: .int sp :: .ref (ad w so) :: st) s := by
  unfold gcp at hf
  split at hf
  · next hc =>
    obtain ⟨⟨c1, c2, c3⟩, c4, c5⟩ := hc
    intro H locs ls hP hD hS hl
    obtain ⟨q0, g1, g2⟩ := wl_at (s := s) i1
    obtain ⟨q1, e1, e2⟩ := wl_at (s := s) i2
    rw [cell_I k1 n1] at g2
    rw [cell_I k2 n2] at e2
    refine va_copyi C.1 C.2.1 (C.2.2.1.trans hl.1.symm) C.2.2.2.1 (C.2.2.2.2.1 _ h1) (C.2.2.2.2.1 _ nv_arraycopyName) (C.2.2.2.2.1 _ sm_arraycopyName) (C.2.2.2.2.1 _ ini_J10) C.2.2.2.2.2.1 hP hD hS q0 q1 0 0 g2 e2 rfl rfl rfl c1 c2 c3 c4 c5 (fun _ _ => rfl) hR.1 (Nat.le_trans (Nat.add_le_add_right hr _) (Nat.le_trans (by decide) hR.2)) hdg (fun H1 locs1 hP1 hD1 hS1 => ?_)
    have hcell : (Sum.inl (cI w, nd, Sum.inl (va_cpy (fun j => rI s so j) (fun j => rI s d j) sp.toNatClampNeg dp.toNatClampNeg m.toNatClampNeg)) : va_E) = cellOf w (cpI s so sp.toNatClampNeg d dp.toNatClampNeg m.toNatClampNeg) d := by
      rw [cell_I k2 n2]
      congr 4
      funext j
      simp [rI, cpI]
    have ho : ∀ j, j ≠ d → cellOf w (cpI s so sp.toNatClampNeg d dp.toNatClampNeg m.toNatClampNeg) j = cellOf w s j := fun j hj => cellOf_congr (fun z => by simp [rI, cpI, hj]) (fun z => rfl)
    rw [hcell, wl_set hD e1 ho] at hP1 hD1
    exact kk hf H1 locs1 ls hP1 hD1 hS1 hl
  · cases hf
theorem g_ldcS (C : Cx x cc RX7 n w ret) {index z : Nat} (hz : z < stN) (hx : stP.getD z 0 = index) (hdg : decode cc pc = .ok (.ldc index, 2)) (kk : G x Q n w (pc + 2) lv (.ref (adK w z) :: st) s) : G x Q n w pc lv st s := by
  subst hx
  exact fun H locs ls hP hD hS hl => va_ldcS C.1 C.2.1 C.2.2.2.1 (C.2.2.2.2.2.2.1.2.2.2.2.1 z hz) hdg (kk H locs ls hP hD hS hl)
theorem g_nameS {v : Mem} {K : Mem → Option α} (hf : lt v K = some q) (kk : ∀ s', K s' = some q → G x Q n w pc lv st s') : G x Q n w pc lv st v := kk v hf
theorem g_istoreN (C : Cx x cc own n w ret) {i : Nat} {v : Int32} {K : Int32 → Option α} {lv' : Int32 → List (Nat × Value)} (hdg : decode cc pc = .ok (.istore i, 2)) (hn : i < n) (hl : ∀ y, (i, Value.int y) :: lv.filter (fun q => !(q.1 == i) && !(q.1 + 1 == i && q.2.category == 2)) = lv' y) (hf : lt v K = some q) (kk : ∀ y, K y = some q → G x Q n w (pc + 2) (lv' y) st s) : G x Q n w pc lv (.int v :: st) s := g_istore C hdg hn (hl v) (kk v hf)
theorem g_istore_nN (C : Cx x cc own n w ret) {k : Fin 4} {i : Nat} {v : Int32} {K : Int32 → Option α} {lv' : Int32 → List (Nat × Value)} (hdg : decode cc pc = .ok (.istore_n k, 1)) (hi : (k : Nat) = i) (hn : i < n) (hl : ∀ y, (i, Value.int y) :: lv.filter (fun q => !(q.1 == i) && !(q.1 + 1 == i && q.2.category == 2)) = lv' y) (hf : lt v K = some q) (kk : ∀ y, K y = some q → G x Q n w (pc + 1) (lv' y) st s) : G x Q n w pc lv (.int v :: st) s := g_istore_n C hdg hi hn (hl v) (kk v hf)
theorem kR_of {rm0 : Room} {a b : Nat} (hR : kR x = rm0) (h : a ≤ rm0.frames ∧ b ≤ rm0.locals) : a ≤ (kR x).frames ∧ b ≤ (kR x).locals := by rw [hR]; exact h
-- a method's head
theorem met_startI {l : Launch} {y : MethodName} {rm : Room} {maxL : Nat} {args : List Value} {s' : Mem} {r : Int32} (hy : plainName y.cls = true) (hyc : y.cls = own) (hlen : (lg_sl args).length ≤ maxL)
    (body : ∀ x : KX, Cx x cc own maxL w ret → kR x = rm → kl x = l → G x (QI x w r s') maxL w 0 (lv_args 0 args) [] s) : Met l y (wz y cc maxL ret) rm (PC args w s) (va_Qi (fun (r' : Int32) (_ : Unit) => r' = r) (fun _ t => WP w s' t) (wA w)) 0 0 (wA w) := by
  refine Met.ofW (cc := cc) (maxL := maxL) (ret := ret) hy rfl ?_
  intro p e s0 m as below meth c s₁ B hml hv
  obtain ⟨rfl, ⟨hP, hK, hD⟩, hZ⟩ := hv
  have hts0 := atoms_spec (ws := wz y cc maxL ret) B.pre
  have hts : ∀ c ∈ GW, c.before args.toArray s0 = true := fun c hc => hts0 c (List.mem_cons_of_mem _ hc)
  have hown : s0.vm.findClass own = some m.cls := hyc ▸ findClass_of_methodNamed B.named
  have hl := lv_entry args (n := maxL) hlen
  rw [lg_entry_eq]
  exact body (p, l, e, rm, s0, m, args.toArray, below, meth, c, 0, 0, wA w) ⟨B.exec, B.bytes, hml, hown, hts, hK, hZ, B.notSynchronized, B.returns, fun _ h => h, Nat.zero_le _, Nat.zero_le _⟩ rfl rfl s0.heap [] _ hP hD va_S.rf hl
theorem met_startB {l : Launch} {y : MethodName} {rm : Room} {maxL : Nat} {args : List Value} {s' : Mem} {r : Bool} (hy : plainName y.cls = true) (hyc : y.cls = own) (hlen : (lg_sl args).length ≤ maxL)
    (body : ∀ x : KX, Cx x cc own maxL w ret → kR x = rm → kl x = l → G x (QB x w r s') maxL w 0 (lv_args 0 args) [] s) : Met l y (wz y cc maxL ret) rm (PC args w s) (va_Qi (fun (r' : Int32) (_ : Unit) => r' = bI r) (fun _ t => WP w s' t) (wA w)) 0 0 (wA w) := by
  refine Met.ofW (cc := cc) (maxL := maxL) (ret := ret) hy rfl ?_
  intro p e s0 m as below meth c s₁ B hml hv
  obtain ⟨rfl, ⟨hP, hK, hD⟩, hZ⟩ := hv
  have hts0 := atoms_spec (ws := wz y cc maxL ret) B.pre
  have hts : ∀ c ∈ GW, c.before args.toArray s0 = true := fun c hc => hts0 c (List.mem_cons_of_mem _ hc)
  have hown : s0.vm.findClass own = some m.cls := hyc ▸ findClass_of_methodNamed B.named
  have hl := lv_entry args (n := maxL) hlen
  rw [lg_entry_eq]
  exact body (p, l, e, rm, s0, m, args.toArray, below, meth, c, 0, 0, wA w) ⟨B.exec, B.bytes, hml, hown, hts, hK, hZ, B.notSynchronized, B.returns, fun _ h => h, Nat.zero_le _, Nat.zero_le _⟩ rfl rfl s0.heap [] _ hP hD va_S.rf hl
theorem met_startL {l : Launch} {y : MethodName} {rm : Room} {maxL : Nat} {args : List Value} {s' : Mem} {r : Int64} (hy : plainName y.cls = true) (hyc : y.cls = own) (hlen : (lg_sl args).length ≤ maxL)
    (body : ∀ x : KX, Cx x cc own maxL w ret → kR x = rm → kl x = l → G x (QL x w r s') maxL w 0 (lv_args 0 args) [] s) : Met l y (wz y cc maxL ret) rm (PC args w s) (va_Ql (fun (r' : Int64) (_ : Unit) => r' = r) (fun _ t => WP w s' t) (wA w)) 0 0 (wA w) := by
  refine Met.ofW (cc := cc) (maxL := maxL) (ret := ret) hy rfl ?_
  intro p e s0 m as below meth c s₁ B hml hv
  obtain ⟨rfl, ⟨hP, hK, hD⟩, hZ⟩ := hv
  have hts0 := atoms_spec (ws := wz y cc maxL ret) B.pre
  have hts : ∀ c ∈ GW, c.before args.toArray s0 = true := fun c hc => hts0 c (List.mem_cons_of_mem _ hc)
  have hown : s0.vm.findClass own = some m.cls := hyc ▸ findClass_of_methodNamed B.named
  have hl := lv_entry args (n := maxL) hlen
  rw [lg_entry_eq]
  exact body (p, l, e, rm, s0, m, args.toArray, below, meth, c, 0, 0, wA w) ⟨B.exec, B.bytes, hml, hown, hts, hK, hZ, B.notSynchronized, B.returns, fun _ h => h, Nat.zero_le _, Nat.zero_le _⟩ rfl rfl s0.heap [] _ hP hD va_S.rf hl
theorem met_startV {l : Launch} {y : MethodName} {rm : Room} {maxL : Nat} {args : List Value} {s' : Mem} (hy : plainName y.cls = true) (hyc : y.cls = own) (hlen : (lg_sl args).length ≤ maxL)
    (body : ∀ x : KX, Cx x cc own maxL w ret → kR x = rm → kl x = l → G x (QV x w s') maxL w 0 (lv_args 0 args) [] s) : Met l y (wz y cc maxL ret) rm (PC args w s) (va_Qv (fun (_ : Unit) => True) (fun _ t => WP w s' t) (wA w)) 0 0 (wA w) := by
  refine Met.ofW (cc := cc) (maxL := maxL) (ret := ret) hy rfl ?_
  intro p e s0 m as below meth c s₁ B hml hv
  obtain ⟨rfl, ⟨hP, hK, hD⟩, hZ⟩ := hv
  have hts0 := atoms_spec (ws := wz y cc maxL ret) B.pre
  have hts : ∀ c ∈ GW, c.before args.toArray s0 = true := fun c hc => hts0 c (List.mem_cons_of_mem _ hc)
  have hown : s0.vm.findClass own = some m.cls := hyc ▸ findClass_of_methodNamed B.named
  have hl := lv_entry args (n := maxL) hlen
  rw [lg_entry_eq]
  exact body (p, l, e, rm, s0, m, args.toArray, below, meth, c, 0, 0, wA w) ⟨B.exec, B.bytes, hml, hown, hts, hK, hZ, B.notSynchronized, B.returns, fun _ h => h, Nat.zero_le _, Nat.zero_le _⟩ rfl rfl s0.heap [] _ hP hD va_S.rf hl
end ROWS
