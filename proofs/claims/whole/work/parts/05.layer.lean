-- THE LAYER: the memory of ints and longs by the number of an object, the world made of it, one row an instruction
abbrev Mem : Type := (Nat → Nat → Int32) × (Nat → Nat → Int64)
def rI (s : Mem) (o k : Nat) : Int32 := s.1 o k
def rL (s : Mem) (o k : Nat) : Int64 := s.2 o k
def wI (s : Mem) (o k : Nat) (v : Int32) : Mem := (fun a j => if a = o then (if j = k then v else s.1 a j) else s.1 a j, s.2)
def wL (s : Mem) (o k : Nat) (v : Int64) : Mem := (s.1, fun a j => if a = o then (if j = k then v else s.2 a j) else s.2 a j)
def bI (b : Bool) : Int32 := if b then 1 else 0
def gin {α : Type} (i : Int32) (n : Nat) (k : Option α) : Option α := if i < 0 ∨ n ≤ i.toNatClampNeg then none else k
def gnz {α : Type} (y : Int32) (k : Option α) : Option α := if y = 0 then none else k
def gnzL {α : Type} (y : Int64) (k : Option α) : Option α := if y = 0 then none else k
def lt {α β : Type} (a : α) (k : α → β) : β := k a
def bnd {α β : Type} (m : Option (α × Mem)) (k : α → Mem → Option β) : Option β := match m with
  | none => none
  | some q => k q.1 q.2
theorem gin_some {α : Type} {i : Int32} {n : Nat} {k : Option α} {q : α} (h : gin i n k = some q) : vp_in i n ∧ k = some q := by
  unfold gin at h
  split at h
  · cases h
  · exact ⟨by assumption, h⟩
theorem gnz_some {α : Type} {y : Int32} {k : Option α} {q : α} (h : gnz y k = some q) : ¬ y = 0 ∧ k = some q := by
  unfold gnz at h
  split at h
  · cases h
  · exact ⟨by assumption, h⟩
theorem gnzL_some {α : Type} {y : Int64} {k : Option α} {q : α} (h : gnzL y k = some q) : ¬ y = 0 ∧ k = some q := by
  unfold gnzL at h
  split at h
  · cases h
  · exact ⟨by assumption, h⟩
theorem bnd_some {α β : Type} {m : Option (α × Mem)} {k : α → Mem → Option β} {q : β} (h : bnd m k = some q) : ∃ r s, m = some (r, s) ∧ k r s = some q := by
  cases m with
  | none => cases h
  | some z => exact ⟨z.1, z.2, rfl, h⟩
theorem bI_t : bI true = 1 := rfl
theorem bI_f : bI false = 0 := rfl
theorem bI_nar (b : Bool) : narrow .boolean (.int (bI b)) = .int (bI b) := by cases b <;> rfl
theorem bI_fit (b : Bool) : fits .boolean (.int (bI b)) = true := by cases b <;> rfl
/-- kinds of the objects by number: 0 to 9 the classes, 20 ints, 21 longs, 22 references -/
def kdL : List Nat := [8, 0, 5, 20, 5, 20, 5, 20, 5, 20, 5, 20, 5, 20, 5, 20, 0, 5, 20, 5, 20, 5, 20, 5, 20, 5, 20, 5, 20, 5, 20, 2, 21, 1, 3, 20, 7, 5, 20, 5, 20, 3, 20, 3, 20, 5, 20, 22, 4, 20, 4, 20, 4, 20, 4, 20, 5, 20, 6, 3, 20, 9, 20, 20, 20, 20, 20, 20, 20, 20, 20, 20, 20, 20, 20, 20, 20, 20, 20, 20, 20, 21, 20, 20, 20, 20, 20, 20]
def lnL : List Nat := [0, 0, 0, 40, 0, 210, 0, 17, 0, 80, 0, 32, 0, 18, 0, 600, 0, 0, 40, 0, 210, 0, 17, 0, 80, 0, 32, 0, 18, 0, 600, 0, 161, 0, 0, 200, 0, 0, 18, 0, 600, 0, 200, 0, 200, 0, 14, 4, 0, 40, 0, 40, 0, 40, 0, 40, 0, 16, 0, 0, 30, 0, 40, 180, 17, 80, 80, 32, 6, 6, 210, 6, 200, 210, 210, 6, 6, 210, 14, 4, 4, 160, 4, 4, 4, 30, 700, 6]
def kd (i : Nat) : Nat := kdL.getD i 99
def ln (i : Nat) : Nat := lnL.getD i 0
/-- a world: the numbers of the kinds, the three array kinds, where each object lies, which there are, and what lies outside -/
abbrev WX : Type := va_G × (ClassId × ClassId × ClassId) × (Nat → Nat) × List Nat × Nat × (Nat → Nat) × (Nat → Nat)
abbrev wG (w : WX) : va_G := w.1
abbrev cI (w : WX) : ClassId := w.2.1.1
abbrev cJ (w : WX) : ClassId := w.2.1.2.1
abbrev cR (w : WX) : ClassId := w.2.1.2.2
abbrev ad (w : WX) : Nat → Nat := w.2.2.1
abbrev SS (w : WX) : List Nat := w.2.2.2.1
abbrev ka (w : WX) : Nat := w.2.2.2.2.1
abbrev adK (w : WX) : Nat → Nat := w.2.2.2.2.2.1
abbrev adV (w : WX) : Nat → Nat := w.2.2.2.2.2.2
def fsOf (w : WX) (s : Mem) (i : Nat) : Nat → List Value
  | 0 => [.ref (ad w (i + 1)), .ref (ad w (i + 3)), .ref (ad w (i + 5)), .ref (ad w (i + 7)), .ref (ad w (i + 9)), .ref (ad w (i + 11)), .ref (ad w (i + 13)), .int (rI s i 7)]
  | 1 => [.ref (ad w 34), .int (rI s i 1), .int (rI s i 2), .int (rI s i 3), .int (rI s i 4)]
  | 2 => [.ref (ad w 32), .int (rI s i 1), .long (rL s i 2), .int (rI s i 3)]
  | 3 => [.ref (ad w (i + 1)), .int (rI s i 1)]
  | 4 => [.ref (ad w (i + 1)), .int (rI s i 1), .int (rI s i 2)]
  | 5 => [.int (rI s i 0), .int (rI s i 1), .ref (ad w (i + 1)), .int (rI s i 3)]
  | 6 => [.ref (ad w 59), .int (rI s i 1), .int (rI s i 2), .int (rI s i 3), .int (rI s i 4)]
  | 7 => [.ref (ad w 37), .ref (ad w 39), .ref (ad w 41), if rI s i 3 = 0 then .null else .ref (ad w 43), .int (rI s i 4), .int (rI s i 5), .int (rI s i 6), .int (rI s i 7), .int (rI s i 8), .int (rI s i 9), .int (rI s i 10)]
  | 8 => [.ref (ad w 1), .ref (ad w 16), .int (rI s i 2), .ref (ad w 31), .ref (ad w 33), .ref (ad w 36), .ref (ad w 43), .ref (ad w 45), .ref (ad w 47), .ref (ad w 56), .ref (ad w 58)]
  | 9 => [.int (rI s i 0), .ref (ad w 62), .int (rI s i 2), .ref (ad w 63), .ref (ad w 64), .int (rI s i 5), .ref (ad w 65), .int (rI s i 7), .ref (ad w 66), .int (rI s i 9), .ref (ad w 67), .int (rI s i 11), .ref (ad w 68), .ref (ad w 69), .ref (ad w 70), .ref (ad w 71), .ref (ad w 72), .int (rI s i 17), .int (rI s i 18), .int (rI s i 19), .int (rI s i 20), .long (rL s i 21), .int (rI s i 22), .ref (ad w 73), .ref (ad w 74), .ref (ad w 75), .ref (ad w 76), .int (rI s i 27), .int (rI s i 28), .ref (ad w 77), .ref (ad w 78), .int (rI s i 31), .ref (ad w 79), .ref (ad w 80), .ref (ad w 81), .ref (ad w 82), .ref (ad w 83), .ref (ad w 84), .int (rI s i 38), .int (rI s i 39), .int (rI s i 40), .ref (ad w 85), .int (rI s i 42), .int (rI s i 43), .int (rI s i 44), .ref (ad w 86), .int (rI s i 46), .ref (ad w 87)]
  | _ => []
def cellOf (w : WX) (s : Mem) (i : Nat) : va_E :=
  if kd i = 20 then .inl (cI w, ln i, .inl (fun j => rI s i j))
  else if kd i = 21 then .inl (cJ w, ln i, .inr (.inl (fun j => rL s i j)))
  else if kd i = 22 then .inl (cR w, ln i, .inr (.inr (.inr (.inr (fun j => some (ad w (i + 1 + 2 * j)))))))
  else .inr (kd i, fsOf w s i (kd i))
def wl (w : WX) (s : Mem) : va_W := (SS w).map (fun i => (ad w i, cellOf w s i))
def wA (w : WX) : Nat → Prop := fun q => ∃ i, i ∈ SS w ∧ ad w i = q
abbrev wT (w : WX) : List (ClassId × FieldType) := [(cI w, .int), (cJ w, .long), (cR w, .object "ElderPapers$Sheet")]
def kaV (j : Nat) : Int32 := ([-3, 0, 0, 0, 1, 2, 3, 5, -3] : List Int32).getD j 0
def stN : Nat := 12
def stP : List Nat := [94, 100, 102, 104, 106, 108, 110, 112, 114, 116, 118, 120]
def stX : List String := ["papers", "stands", "age", "seen", "house", "wrong", "share", "take", "turn", "or", "and", "not"]
def stLen : List Nat := [6, 6, 3, 4, 5, 5, 5, 4, 4, 2, 3, 3]
def stByt : List (List Int32) := [[112, 97, 112, 101, 114, 115], [115, 116, 97, 110, 100, 115], [97, 103, 101], [115, 101, 101, 110], [104, 111, 117, 115, 101], [119, 114, 111, 110, 103], [115, 104, 97, 114, 101], [116, 97, 107, 101], [116, 117, 114, 110], [111, 114], [97, 110, 100], [110, 111, 116]]
/-- what lies outside and never changes: one array of ints, twelve texts -/
def nstL : List (String × Nat × MethodName × String) := [("ElderPapers$Book", 78, yX8_bit, "ElderPapers"), ("ElderPapers$Thing", 47, yX8_isUnder, "ElderPapers"), ("ElderPapers", 25, yX2_init, "ElderPapers"), ("ElderPapers", 32, yX1_init, "ElderPapers"), ("ElderPapers", 39, yX7_init, "ElderPapers"), ("ElderPapers", 64, yX4_init, "ElderPapers"), ("ElderPapers", 74, yX6_init, "ElderPapers")]
def ST (w : WX) (A : Nat → Prop) (U : State) : Prop := (∀ q ∈ nstL, va_Nw (.methodLinkNest q.1 q.2.1 q.2.2.1 q.2.2.2) U) ∧ va_Z "ElderPapers" "KIND_ABOVE" "[I" (.ref (ka w)) A U U.heap ∧ va_T .int (ka w) 9 (fun j => .int (kaV j)) A U U.heap ∧
  vk_S stN stLen stByt (adK w) (adV w) A U U.heap ∧ (∀ i, i < stN → vk_R "ElderPapers$WayReader" (stP.getD i 0) (stX.getD i "") (adK w i) U) ∧
  va_Z "java/lang/String" "COMPACT_STRINGS" "Z" (.int 1) A U U.heap ∧ va_Zq "jdk/internal/util/Preconditions" "SIOOBE_FORMATTER" "Ljava/util/function/BiFunction;" A U U.heap
theorem ST.go {w : WX} {A : Nat → Prop} {s U : State} (h : ST w A s) (hW : s.WarmedH U.vm) (hq : ∀ a : Nat, a < s.heap.size → ¬ A a → U.heap[a]? = s.heap[a]?) : ST w A U := by
  obtain ⟨h0, h1, h2, h3, h4, h5, h6⟩ := h
  exact ⟨fun q hq => (h0 q hq).warmM hW, va_Z.moved hW.alike (h1.kept hq), va_T.moved hW.alike (h2.kept hq), vk_S.moved hW.alike (h3.kept hq), fun i hi => (h4 i hi).warm hW, va_Z.moved hW.alike (h5.kept hq), va_Zq.moved hW.alike (h6.kept hq)⟩
theorem ST.narrow {w : WX} {A B : Nat → Prop} {U : State} (h : ST w A U) (hAB : ∀ q, B q → A q) : ST w B U := by
  obtain ⟨h0, h1, h2, h3, h4, h5, h6⟩ := h
  exact ⟨h0, h1.narrow hAB, h2.narrow hAB, h3.narrow hAB, h4, h5.narrow hAB, h6.narrow hAB⟩
/-- the world's start and end -/
def WP (w : WX) (s : Mem) (U : State) : Prop := va_P (wG w) vwCl (wl w s) U.heap ∧ va_K (wG w) vwCl (wT w) U ∧ va_D (wA w) (wl w s)
def WB (w : WX) (s : Mem) (U : State) : Prop := WP w s U ∧ ST w (wA w) U
theorem wl_at {w : WX} {s : Mem} {i : Nat} (h : i ∈ SS w) : ∃ q : Nat, (SS w)[q]? = some i ∧ (wl w s)[q]? = some (ad w i, cellOf w s i) := by
  obtain ⟨q, hq⟩ := List.getElem?_of_mem h
  exact ⟨q, hq, by simp [wl, List.getElem?_map, hq]⟩
theorem wl_set {w : WX} {A : Nat → Prop} {s s2 : Mem} {i q : Nat} (hD : va_D A (wl w s)) (hq : (SS w)[q]? = some i) (ho : ∀ j, j ≠ i → cellOf w s2 j = cellOf w s j) : (wl w s).set q (ad w i, cellOf w s2 i) = wl w s2 := by
  apply List.ext_getElem?
  intro k
  have hl : q < (wl w s).length := by
    have := (List.getElem?_eq_some_iff.mp hq).1
    simpa [wl] using this
  by_cases hk : k = q
  · subst hk
    rw [List.getElem?_set_self hl]
    simp [wl, List.getElem?_map, hq]
  · rw [List.getElem?_set_ne (Ne.symm hk)]
    simp only [wl, List.getElem?_map]
    cases hj : (SS w)[k]? with
    | none => rfl
    | some j =>
      have hne : j ≠ i := by
        intro e
        subst e
        exact hk (hD.1 k q (ad w j, cellOf w s j) (ad w j, cellOf w s j) (by simp [wl, List.getElem?_map, hj]) (by simp [wl, List.getElem?_map, hq]) rfl)
      simp [ho j hne]
theorem wD_of {w : WX} {A : Nat → Prop} {s : Mem} (hD : va_D A (wl w s)) : va_D (wA w) (wl w s) := ⟨hD.1, fun k q hk => by
  have hm := List.mem_of_getElem? hk
  obtain ⟨i, hi, rfl⟩ := List.mem_map.mp hm
  exact ⟨i, hi, rfl⟩⟩
theorem wA_in {w : WX} {i : Nat} (h : i ∈ SS w) : wA w (ad w i) := ⟨i, h, rfl⟩
theorem rI_ne {s : Mem} {o k j m : Nat} {v : Int32} (h : j ≠ o) : rI (wI s o k v) j m = rI s j m := by simp [rI, wI, h]
theorem rL_wI {s : Mem} {o k j m : Nat} {v : Int32} : rL (wI s o k v) j m = rL s j m := rfl
theorem rL_ne {s : Mem} {o k j m : Nat} {v : Int64} (h : j ≠ o) : rL (wL s o k v) j m = rL s j m := by simp [rL, wL, h]
theorem rI_wL {s : Mem} {o k j m : Nat} {v : Int64} : rI (wL s o k v) j m = rI s j m := rfl
theorem rI_w {s : Mem} {o k j m : Nat} {v : Int32} : rI (wI s o k v) j m = if j = o ∧ m = k then v else rI s j m := by
  by_cases h : j = o <;> by_cases g : m = k <;> simp [rI, wI, h, g]
theorem rL_w {s : Mem} {o k j m : Nat} {v : Int64} : rL (wL s o k v) j m = if j = o ∧ m = k then v else rL s j m := by
  by_cases h : j = o <;> by_cases g : m = k <;> simp [rL, wL, h, g]
theorem fsOf_congr {w : WX} {s s2 : Mem} {j : Nat} (hI : ∀ m, rI s2 j m = rI s j m) (hL : ∀ m, rL s2 j m = rL s j m) (c : Nat) : fsOf w s2 j c = fsOf w s j c := by
  unfold fsOf
  split <;> simp only [hI, hL]
theorem cellOf_congr {w : WX} {s s2 : Mem} {j : Nat} (hI : ∀ m, rI s2 j m = rI s j m) (hL : ∀ m, rL s2 j m = rL s j m) : cellOf w s2 j = cellOf w s j := by
  unfold cellOf
  simp only [hI, hL, fsOf_congr hI hL]
theorem cell_wI {w : WX} {s : Mem} {o k j : Nat} {v : Int32} (h : j ≠ o) : cellOf w (wI s o k v) j = cellOf w s j := cellOf_congr (fun _ => rI_ne h) (fun _ => rL_wI)
theorem cell_wL {w : WX} {s : Mem} {o k j : Nat} {v : Int64} (h : j ≠ o) : cellOf w (wL s o k v) j = cellOf w s j := cellOf_congr (fun _ => rI_wL) (fun _ => rL_ne h)
theorem cell_I {w : WX} {s : Mem} {i n : Nat} (h : kd i = 20) (hn : ln i = n) : cellOf w s i = .inl (cI w, n, .inl (fun j => rI s i j)) := by
  unfold cellOf
  rw [if_pos h, hn]
theorem cell_J {w : WX} {s : Mem} {i n : Nat} (h : kd i = 21) (hn : ln i = n) : cellOf w s i = .inl (cJ w, n, .inr (.inl (fun j => rL s i j))) := by
  unfold cellOf
  rw [if_neg (by omega), if_pos h, hn]
theorem cell_R {w : WX} {s : Mem} {i n : Nat} (h : kd i = 22) (hn : ln i = n) : cellOf w s i = .inl (cR w, n, .inr (.inr (.inr (.inr (fun j => some (ad w (i + 1 + 2 * j))))))) := by
  unfold cellOf
  rw [if_neg (by omega), if_neg (by omega), if_pos h, hn]
theorem cell_O {w : WX} {s : Mem} {i : Nat} {c : Nat} (h : kd i = c) (hc : c < 20) : cellOf w s i = .inr (c, fsOf w s i c) := by
  unfold cellOf
  rw [if_neg (by omega), if_neg (by omega), if_neg (by omega), h]
/-- an object with an array of ints behind it -/
def okO (c : Nat) (w : WX) (t : Nat) : Prop := t ∈ SS w ∧ t + 1 ∈ SS w ∧ kd t = c ∧ kd (t + 1) = 20
theorem kd_0 : kd 0 = 8 := rfl
theorem kd_1 : kd 1 = 0 := rfl
theorem kd_2 : kd 2 = 5 := rfl
theorem kd_3 : kd 3 = 20 := rfl
theorem ln_3 : ln 3 = 40 := rfl
theorem kd_4 : kd 4 = 5 := rfl
theorem kd_5 : kd 5 = 20 := rfl
theorem ln_5 : ln 5 = 210 := rfl
theorem kd_6 : kd 6 = 5 := rfl
theorem kd_7 : kd 7 = 20 := rfl
theorem ln_7 : ln 7 = 17 := rfl
theorem kd_8 : kd 8 = 5 := rfl
theorem kd_9 : kd 9 = 20 := rfl
theorem ln_9 : ln 9 = 80 := rfl
theorem kd_10 : kd 10 = 5 := rfl
theorem kd_11 : kd 11 = 20 := rfl
theorem ln_11 : ln 11 = 32 := rfl
theorem kd_12 : kd 12 = 5 := rfl
theorem kd_13 : kd 13 = 20 := rfl
theorem ln_13 : ln 13 = 18 := rfl
theorem kd_14 : kd 14 = 5 := rfl
theorem kd_15 : kd 15 = 20 := rfl
theorem ln_15 : ln 15 = 600 := rfl
theorem kd_16 : kd 16 = 0 := rfl
theorem kd_17 : kd 17 = 5 := rfl
theorem kd_18 : kd 18 = 20 := rfl
theorem ln_18 : ln 18 = 40 := rfl
theorem kd_19 : kd 19 = 5 := rfl
theorem kd_20 : kd 20 = 20 := rfl
theorem ln_20 : ln 20 = 210 := rfl
theorem kd_21 : kd 21 = 5 := rfl
theorem kd_22 : kd 22 = 20 := rfl
theorem ln_22 : ln 22 = 17 := rfl
theorem kd_23 : kd 23 = 5 := rfl
theorem kd_24 : kd 24 = 20 := rfl
theorem ln_24 : ln 24 = 80 := rfl
theorem kd_25 : kd 25 = 5 := rfl
theorem kd_26 : kd 26 = 20 := rfl
theorem ln_26 : ln 26 = 32 := rfl
theorem kd_27 : kd 27 = 5 := rfl
theorem kd_28 : kd 28 = 20 := rfl
theorem ln_28 : ln 28 = 18 := rfl
theorem kd_29 : kd 29 = 5 := rfl
theorem kd_30 : kd 30 = 20 := rfl
theorem ln_30 : ln 30 = 600 := rfl
theorem kd_31 : kd 31 = 2 := rfl
theorem kd_32 : kd 32 = 21 := rfl
theorem ln_32 : ln 32 = 161 := rfl
theorem kd_33 : kd 33 = 1 := rfl
theorem kd_34 : kd 34 = 3 := rfl
theorem kd_35 : kd 35 = 20 := rfl
theorem ln_35 : ln 35 = 200 := rfl
theorem kd_36 : kd 36 = 7 := rfl
theorem kd_37 : kd 37 = 5 := rfl
theorem kd_38 : kd 38 = 20 := rfl
theorem ln_38 : ln 38 = 18 := rfl
theorem kd_39 : kd 39 = 5 := rfl
theorem kd_40 : kd 40 = 20 := rfl
theorem ln_40 : ln 40 = 600 := rfl
theorem kd_41 : kd 41 = 3 := rfl
theorem kd_42 : kd 42 = 20 := rfl
theorem ln_42 : ln 42 = 200 := rfl
theorem kd_43 : kd 43 = 3 := rfl
theorem kd_44 : kd 44 = 20 := rfl
theorem ln_44 : ln 44 = 200 := rfl
theorem kd_45 : kd 45 = 5 := rfl
theorem kd_46 : kd 46 = 20 := rfl
theorem ln_46 : ln 46 = 14 := rfl
theorem kd_47 : kd 47 = 22 := rfl
theorem ln_47 : ln 47 = 4 := rfl
theorem kd_48 : kd 48 = 4 := rfl
theorem kd_49 : kd 49 = 20 := rfl
theorem ln_49 : ln 49 = 40 := rfl
theorem kd_50 : kd 50 = 4 := rfl
theorem kd_51 : kd 51 = 20 := rfl
theorem ln_51 : ln 51 = 40 := rfl
theorem kd_52 : kd 52 = 4 := rfl
theorem kd_53 : kd 53 = 20 := rfl
theorem ln_53 : ln 53 = 40 := rfl
theorem kd_54 : kd 54 = 4 := rfl
theorem kd_55 : kd 55 = 20 := rfl
theorem ln_55 : ln 55 = 40 := rfl
theorem kd_56 : kd 56 = 5 := rfl
theorem kd_57 : kd 57 = 20 := rfl
theorem ln_57 : ln 57 = 16 := rfl
theorem kd_58 : kd 58 = 6 := rfl
theorem kd_59 : kd 59 = 3 := rfl
theorem kd_60 : kd 60 = 20 := rfl
theorem ln_60 : ln 60 = 30 := rfl
theorem kd_61 : kd 61 = 9 := rfl
theorem kd_62 : kd 62 = 20 := rfl
theorem ln_62 : ln 62 = 40 := rfl
theorem kd_63 : kd 63 = 20 := rfl
theorem ln_63 : ln 63 = 180 := rfl
theorem kd_64 : kd 64 = 20 := rfl
theorem ln_64 : ln 64 = 17 := rfl
theorem kd_65 : kd 65 = 20 := rfl
theorem ln_65 : ln 65 = 80 := rfl
theorem kd_66 : kd 66 = 20 := rfl
theorem ln_66 : ln 66 = 80 := rfl
theorem kd_67 : kd 67 = 20 := rfl
theorem ln_67 : ln 67 = 32 := rfl
theorem kd_68 : kd 68 = 20 := rfl
theorem ln_68 : ln 68 = 6 := rfl
theorem kd_69 : kd 69 = 20 := rfl
theorem ln_69 : ln 69 = 6 := rfl
theorem kd_70 : kd 70 = 20 := rfl
theorem ln_70 : ln 70 = 210 := rfl
theorem kd_71 : kd 71 = 20 := rfl
theorem ln_71 : ln 71 = 6 := rfl
theorem kd_72 : kd 72 = 20 := rfl
theorem ln_72 : ln 72 = 200 := rfl
theorem kd_73 : kd 73 = 20 := rfl
theorem ln_73 : ln 73 = 210 := rfl
theorem kd_74 : kd 74 = 20 := rfl
theorem ln_74 : ln 74 = 210 := rfl
theorem kd_75 : kd 75 = 20 := rfl
theorem ln_75 : ln 75 = 6 := rfl
theorem kd_76 : kd 76 = 20 := rfl
theorem ln_76 : ln 76 = 6 := rfl
theorem kd_77 : kd 77 = 20 := rfl
theorem ln_77 : ln 77 = 210 := rfl
theorem kd_78 : kd 78 = 20 := rfl
theorem ln_78 : ln 78 = 14 := rfl
theorem kd_79 : kd 79 = 20 := rfl
theorem ln_79 : ln 79 = 4 := rfl
theorem kd_80 : kd 80 = 20 := rfl
theorem ln_80 : ln 80 = 4 := rfl
theorem kd_81 : kd 81 = 21 := rfl
theorem ln_81 : ln 81 = 160 := rfl
theorem kd_82 : kd 82 = 20 := rfl
theorem ln_82 : ln 82 = 4 := rfl
theorem kd_83 : kd 83 = 20 := rfl
theorem ln_83 : ln 83 = 4 := rfl
theorem kd_84 : kd 84 = 20 := rfl
theorem ln_84 : ln 84 = 4 := rfl
theorem kd_85 : kd 85 = 20 := rfl
theorem ln_85 : ln 85 = 30 := rfl
theorem kd_86 : kd 86 = 20 := rfl
theorem ln_86 : ln 86 = 700 := rfl
theorem kd_87 : kd 87 = 20 := rfl
theorem ln_87 : ln 87 = 6 := rfl
def Sc : List Nat := List.range 61
def Sm : List Nat := (List.range 27).map (fun i => 61 + i)
theorem inC {w : WX} (h : SS w = Sc) {i : Nat} (hi : i < 61) : i ∈ SS w := by rw [h]; exact List.mem_range.mpr hi
theorem inM {w : WX} (h : SS w = Sm) {i : Nat} (hi : i < 27) : 61 + i ∈ SS w := by rw [h]; exact List.mem_map.mpr ⟨i, List.mem_range.mpr hi, rfl⟩
theorem in_0 {w : WX} (h : SS w = Sc) : 0 ∈ SS w := inC h (by decide)
theorem in_1 {w : WX} (h : SS w = Sc) : 1 ∈ SS w := inC h (by decide)
theorem in_2 {w : WX} (h : SS w = Sc) : 2 ∈ SS w := inC h (by decide)
theorem in_3 {w : WX} (h : SS w = Sc) : 3 ∈ SS w := inC h (by decide)
theorem in_4 {w : WX} (h : SS w = Sc) : 4 ∈ SS w := inC h (by decide)
theorem in_5 {w : WX} (h : SS w = Sc) : 5 ∈ SS w := inC h (by decide)
theorem in_6 {w : WX} (h : SS w = Sc) : 6 ∈ SS w := inC h (by decide)
theorem in_7 {w : WX} (h : SS w = Sc) : 7 ∈ SS w := inC h (by decide)
theorem in_8 {w : WX} (h : SS w = Sc) : 8 ∈ SS w := inC h (by decide)
theorem in_9 {w : WX} (h : SS w = Sc) : 9 ∈ SS w := inC h (by decide)
theorem in_10 {w : WX} (h : SS w = Sc) : 10 ∈ SS w := inC h (by decide)
theorem in_11 {w : WX} (h : SS w = Sc) : 11 ∈ SS w := inC h (by decide)
theorem in_12 {w : WX} (h : SS w = Sc) : 12 ∈ SS w := inC h (by decide)
theorem in_13 {w : WX} (h : SS w = Sc) : 13 ∈ SS w := inC h (by decide)
theorem in_14 {w : WX} (h : SS w = Sc) : 14 ∈ SS w := inC h (by decide)
theorem in_15 {w : WX} (h : SS w = Sc) : 15 ∈ SS w := inC h (by decide)
theorem in_16 {w : WX} (h : SS w = Sc) : 16 ∈ SS w := inC h (by decide)
theorem in_17 {w : WX} (h : SS w = Sc) : 17 ∈ SS w := inC h (by decide)
theorem in_18 {w : WX} (h : SS w = Sc) : 18 ∈ SS w := inC h (by decide)
theorem in_19 {w : WX} (h : SS w = Sc) : 19 ∈ SS w := inC h (by decide)
theorem in_20 {w : WX} (h : SS w = Sc) : 20 ∈ SS w := inC h (by decide)
theorem in_21 {w : WX} (h : SS w = Sc) : 21 ∈ SS w := inC h (by decide)
theorem in_22 {w : WX} (h : SS w = Sc) : 22 ∈ SS w := inC h (by decide)
theorem in_23 {w : WX} (h : SS w = Sc) : 23 ∈ SS w := inC h (by decide)
theorem in_24 {w : WX} (h : SS w = Sc) : 24 ∈ SS w := inC h (by decide)
theorem in_25 {w : WX} (h : SS w = Sc) : 25 ∈ SS w := inC h (by decide)
theorem in_26 {w : WX} (h : SS w = Sc) : 26 ∈ SS w := inC h (by decide)
theorem in_27 {w : WX} (h : SS w = Sc) : 27 ∈ SS w := inC h (by decide)
theorem in_28 {w : WX} (h : SS w = Sc) : 28 ∈ SS w := inC h (by decide)
theorem in_29 {w : WX} (h : SS w = Sc) : 29 ∈ SS w := inC h (by decide)
theorem in_30 {w : WX} (h : SS w = Sc) : 30 ∈ SS w := inC h (by decide)
theorem in_31 {w : WX} (h : SS w = Sc) : 31 ∈ SS w := inC h (by decide)
theorem in_32 {w : WX} (h : SS w = Sc) : 32 ∈ SS w := inC h (by decide)
theorem in_33 {w : WX} (h : SS w = Sc) : 33 ∈ SS w := inC h (by decide)
theorem in_34 {w : WX} (h : SS w = Sc) : 34 ∈ SS w := inC h (by decide)
theorem in_35 {w : WX} (h : SS w = Sc) : 35 ∈ SS w := inC h (by decide)
theorem in_36 {w : WX} (h : SS w = Sc) : 36 ∈ SS w := inC h (by decide)
theorem in_37 {w : WX} (h : SS w = Sc) : 37 ∈ SS w := inC h (by decide)
theorem in_38 {w : WX} (h : SS w = Sc) : 38 ∈ SS w := inC h (by decide)
theorem in_39 {w : WX} (h : SS w = Sc) : 39 ∈ SS w := inC h (by decide)
theorem in_40 {w : WX} (h : SS w = Sc) : 40 ∈ SS w := inC h (by decide)
theorem in_41 {w : WX} (h : SS w = Sc) : 41 ∈ SS w := inC h (by decide)
theorem in_42 {w : WX} (h : SS w = Sc) : 42 ∈ SS w := inC h (by decide)
theorem in_43 {w : WX} (h : SS w = Sc) : 43 ∈ SS w := inC h (by decide)
theorem in_44 {w : WX} (h : SS w = Sc) : 44 ∈ SS w := inC h (by decide)
theorem in_45 {w : WX} (h : SS w = Sc) : 45 ∈ SS w := inC h (by decide)
theorem in_46 {w : WX} (h : SS w = Sc) : 46 ∈ SS w := inC h (by decide)
theorem in_47 {w : WX} (h : SS w = Sc) : 47 ∈ SS w := inC h (by decide)
theorem in_48 {w : WX} (h : SS w = Sc) : 48 ∈ SS w := inC h (by decide)
theorem in_49 {w : WX} (h : SS w = Sc) : 49 ∈ SS w := inC h (by decide)
theorem in_50 {w : WX} (h : SS w = Sc) : 50 ∈ SS w := inC h (by decide)
theorem in_51 {w : WX} (h : SS w = Sc) : 51 ∈ SS w := inC h (by decide)
theorem in_52 {w : WX} (h : SS w = Sc) : 52 ∈ SS w := inC h (by decide)
theorem in_53 {w : WX} (h : SS w = Sc) : 53 ∈ SS w := inC h (by decide)
theorem in_54 {w : WX} (h : SS w = Sc) : 54 ∈ SS w := inC h (by decide)
theorem in_55 {w : WX} (h : SS w = Sc) : 55 ∈ SS w := inC h (by decide)
theorem in_56 {w : WX} (h : SS w = Sc) : 56 ∈ SS w := inC h (by decide)
theorem in_57 {w : WX} (h : SS w = Sc) : 57 ∈ SS w := inC h (by decide)
theorem in_58 {w : WX} (h : SS w = Sc) : 58 ∈ SS w := inC h (by decide)
theorem in_59 {w : WX} (h : SS w = Sc) : 59 ∈ SS w := inC h (by decide)
theorem in_60 {w : WX} (h : SS w = Sc) : 60 ∈ SS w := inC h (by decide)
theorem in_61 {w : WX} (h : SS w = Sm) : 61 ∈ SS w := inM (i := 0) h (by decide)
theorem in_62 {w : WX} (h : SS w = Sm) : 62 ∈ SS w := inM (i := 1) h (by decide)
theorem in_63 {w : WX} (h : SS w = Sm) : 63 ∈ SS w := inM (i := 2) h (by decide)
theorem in_64 {w : WX} (h : SS w = Sm) : 64 ∈ SS w := inM (i := 3) h (by decide)
theorem in_65 {w : WX} (h : SS w = Sm) : 65 ∈ SS w := inM (i := 4) h (by decide)
theorem in_66 {w : WX} (h : SS w = Sm) : 66 ∈ SS w := inM (i := 5) h (by decide)
theorem in_67 {w : WX} (h : SS w = Sm) : 67 ∈ SS w := inM (i := 6) h (by decide)
theorem in_68 {w : WX} (h : SS w = Sm) : 68 ∈ SS w := inM (i := 7) h (by decide)
theorem in_69 {w : WX} (h : SS w = Sm) : 69 ∈ SS w := inM (i := 8) h (by decide)
theorem in_70 {w : WX} (h : SS w = Sm) : 70 ∈ SS w := inM (i := 9) h (by decide)
theorem in_71 {w : WX} (h : SS w = Sm) : 71 ∈ SS w := inM (i := 10) h (by decide)
theorem in_72 {w : WX} (h : SS w = Sm) : 72 ∈ SS w := inM (i := 11) h (by decide)
theorem in_73 {w : WX} (h : SS w = Sm) : 73 ∈ SS w := inM (i := 12) h (by decide)
theorem in_74 {w : WX} (h : SS w = Sm) : 74 ∈ SS w := inM (i := 13) h (by decide)
theorem in_75 {w : WX} (h : SS w = Sm) : 75 ∈ SS w := inM (i := 14) h (by decide)
theorem in_76 {w : WX} (h : SS w = Sm) : 76 ∈ SS w := inM (i := 15) h (by decide)
theorem in_77 {w : WX} (h : SS w = Sm) : 77 ∈ SS w := inM (i := 16) h (by decide)
theorem in_78 {w : WX} (h : SS w = Sm) : 78 ∈ SS w := inM (i := 17) h (by decide)
theorem in_79 {w : WX} (h : SS w = Sm) : 79 ∈ SS w := inM (i := 18) h (by decide)
theorem in_80 {w : WX} (h : SS w = Sm) : 80 ∈ SS w := inM (i := 19) h (by decide)
theorem in_81 {w : WX} (h : SS w = Sm) : 81 ∈ SS w := inM (i := 20) h (by decide)
theorem in_82 {w : WX} (h : SS w = Sm) : 82 ∈ SS w := inM (i := 21) h (by decide)
theorem in_83 {w : WX} (h : SS w = Sm) : 83 ∈ SS w := inM (i := 22) h (by decide)
theorem in_84 {w : WX} (h : SS w = Sm) : 84 ∈ SS w := inM (i := 23) h (by decide)
theorem in_85 {w : WX} (h : SS w = Sm) : 85 ∈ SS w := inM (i := 24) h (by decide)
theorem in_86 {w : WX} (h : SS w = Sm) : 86 ∈ SS w := inM (i := 25) h (by decide)
theorem in_87 {w : WX} (h : SS w = Sm) : 87 ∈ SS w := inM (i := 26) h (by decide)
theorem ok_2 {w : WX} (h : SS w = Sc) : okO 5 w 2 := ⟨in_2 h, in_3 h, kd_2, kd_3⟩
theorem ok_4 {w : WX} (h : SS w = Sc) : okO 5 w 4 := ⟨in_4 h, in_5 h, kd_4, kd_5⟩
theorem ok_6 {w : WX} (h : SS w = Sc) : okO 5 w 6 := ⟨in_6 h, in_7 h, kd_6, kd_7⟩
theorem ok_8 {w : WX} (h : SS w = Sc) : okO 5 w 8 := ⟨in_8 h, in_9 h, kd_8, kd_9⟩
theorem ok_10 {w : WX} (h : SS w = Sc) : okO 5 w 10 := ⟨in_10 h, in_11 h, kd_10, kd_11⟩
theorem ok_12 {w : WX} (h : SS w = Sc) : okO 5 w 12 := ⟨in_12 h, in_13 h, kd_12, kd_13⟩
theorem ok_14 {w : WX} (h : SS w = Sc) : okO 5 w 14 := ⟨in_14 h, in_15 h, kd_14, kd_15⟩
theorem ok_17 {w : WX} (h : SS w = Sc) : okO 5 w 17 := ⟨in_17 h, in_18 h, kd_17, kd_18⟩
theorem ok_19 {w : WX} (h : SS w = Sc) : okO 5 w 19 := ⟨in_19 h, in_20 h, kd_19, kd_20⟩
theorem ok_21 {w : WX} (h : SS w = Sc) : okO 5 w 21 := ⟨in_21 h, in_22 h, kd_21, kd_22⟩
theorem ok_23 {w : WX} (h : SS w = Sc) : okO 5 w 23 := ⟨in_23 h, in_24 h, kd_23, kd_24⟩
theorem ok_25 {w : WX} (h : SS w = Sc) : okO 5 w 25 := ⟨in_25 h, in_26 h, kd_25, kd_26⟩
theorem ok_27 {w : WX} (h : SS w = Sc) : okO 5 w 27 := ⟨in_27 h, in_28 h, kd_27, kd_28⟩
theorem ok_29 {w : WX} (h : SS w = Sc) : okO 5 w 29 := ⟨in_29 h, in_30 h, kd_29, kd_30⟩
theorem ok_34 {w : WX} (h : SS w = Sc) : okO 3 w 34 := ⟨in_34 h, in_35 h, kd_34, kd_35⟩
theorem ok_37 {w : WX} (h : SS w = Sc) : okO 5 w 37 := ⟨in_37 h, in_38 h, kd_37, kd_38⟩
theorem ok_39 {w : WX} (h : SS w = Sc) : okO 5 w 39 := ⟨in_39 h, in_40 h, kd_39, kd_40⟩
theorem ok_41 {w : WX} (h : SS w = Sc) : okO 3 w 41 := ⟨in_41 h, in_42 h, kd_41, kd_42⟩
theorem ok_43 {w : WX} (h : SS w = Sc) : okO 3 w 43 := ⟨in_43 h, in_44 h, kd_43, kd_44⟩
theorem ok_45 {w : WX} (h : SS w = Sc) : okO 5 w 45 := ⟨in_45 h, in_46 h, kd_45, kd_46⟩
theorem ok_48 {w : WX} (h : SS w = Sc) : okO 4 w 48 := ⟨in_48 h, in_49 h, kd_48, kd_49⟩
theorem ok_50 {w : WX} (h : SS w = Sc) : okO 4 w 50 := ⟨in_50 h, in_51 h, kd_50, kd_51⟩
theorem ok_52 {w : WX} (h : SS w = Sc) : okO 4 w 52 := ⟨in_52 h, in_53 h, kd_52, kd_53⟩
theorem ok_54 {w : WX} (h : SS w = Sc) : okO 4 w 54 := ⟨in_54 h, in_55 h, kd_54, kd_55⟩
theorem ok_56 {w : WX} (h : SS w = Sc) : okO 5 w 56 := ⟨in_56 h, in_57 h, kd_56, kd_57⟩
theorem ok_59 {w : WX} (h : SS w = Sc) : okO 3 w 59 := ⟨in_59 h, in_60 h, kd_59, kd_60⟩
theorem okSh {w : WX} (h : SS w = Sc) {j : Int32} (hj : vp_in j 4) : okO 4 w (47 + 1 + 2 * j.toNatClampNeg) := by
  have hlt : j.toNatClampNeg < 4 := Nat.not_le.mp fun q => hj (Or.inr q)
  generalize j.toNatClampNeg = m at hlt
  refine ⟨inC h (by omega), inC h (by omega), ?_, ?_⟩
  · match m, hlt with
    | 0, _ => rfl
    | 1, _ => rfl
    | 2, _ => rfl
    | 3, _ => rfl
  · match m, hlt with
    | 0, _ => rfl
    | 1, _ => rfl
    | 2, _ => rfl
    | 3, _ => rfl
theorem fs_0_7 {w : WX} {s : Mem} {i : Nat} {v : Int32} : (fsOf w s i 0).set 7 (.int v) = fsOf w (wI s i 7 v) i 0 := by simp [fsOf, rI_w, rL_wI]
theorem fs_1_1 {w : WX} {s : Mem} {i : Nat} {v : Int32} : (fsOf w s i 1).set 1 (.int v) = fsOf w (wI s i 1 v) i 1 := by simp [fsOf, rI_w, rL_wI]
theorem fs_1_2 {w : WX} {s : Mem} {i : Nat} {v : Int32} : (fsOf w s i 1).set 2 (.int v) = fsOf w (wI s i 2 v) i 1 := by simp [fsOf, rI_w, rL_wI]
theorem fs_1_3 {w : WX} {s : Mem} {i : Nat} {v : Int32} : (fsOf w s i 1).set 3 (.int v) = fsOf w (wI s i 3 v) i 1 := by simp [fsOf, rI_w, rL_wI]
theorem fs_1_4 {w : WX} {s : Mem} {i : Nat} {v : Int32} : (fsOf w s i 1).set 4 (.int v) = fsOf w (wI s i 4 v) i 1 := by simp [fsOf, rI_w, rL_wI]
theorem fs_2_1 {w : WX} {s : Mem} {i : Nat} {v : Int32} : (fsOf w s i 2).set 1 (.int v) = fsOf w (wI s i 1 v) i 2 := by simp [fsOf, rI_w, rL_wI]
theorem fs_2_2 {w : WX} {s : Mem} {i : Nat} {v : Int64} : (fsOf w s i 2).set 2 (.long v) = fsOf w (wL s i 2 v) i 2 := by simp [fsOf, rL_w, rI_wL]
theorem fs_2_3 {w : WX} {s : Mem} {i : Nat} {v : Int32} : (fsOf w s i 2).set 3 (.int v) = fsOf w (wI s i 3 v) i 2 := by simp [fsOf, rI_w, rL_wI]
theorem fs_3_1 {w : WX} {s : Mem} {i : Nat} {v : Int32} : (fsOf w s i 3).set 1 (.int v) = fsOf w (wI s i 1 v) i 3 := by simp [fsOf, rI_w, rL_wI]
theorem fs_4_1 {w : WX} {s : Mem} {i : Nat} {v : Int32} : (fsOf w s i 4).set 1 (.int v) = fsOf w (wI s i 1 v) i 4 := by simp [fsOf, rI_w, rL_wI]
theorem fs_4_2 {w : WX} {s : Mem} {i : Nat} {v : Int32} : (fsOf w s i 4).set 2 (.int v) = fsOf w (wI s i 2 v) i 4 := by simp [fsOf, rI_w, rL_wI]
theorem fs_5_3 {w : WX} {s : Mem} {i : Nat} {v : Int32} : (fsOf w s i 5).set 3 (.int v) = fsOf w (wI s i 3 v) i 5 := by simp [fsOf, rI_w, rL_wI]
theorem fs_6_1 {w : WX} {s : Mem} {i : Nat} {v : Int32} : (fsOf w s i 6).set 1 (.int v) = fsOf w (wI s i 1 v) i 6 := by simp [fsOf, rI_w, rL_wI]
theorem fs_6_2 {w : WX} {s : Mem} {i : Nat} {v : Int32} : (fsOf w s i 6).set 2 (.int v) = fsOf w (wI s i 2 v) i 6 := by simp [fsOf, rI_w, rL_wI]
theorem fs_6_3 {w : WX} {s : Mem} {i : Nat} {v : Int32} : (fsOf w s i 6).set 3 (.int v) = fsOf w (wI s i 3 v) i 6 := by simp [fsOf, rI_w, rL_wI]
theorem fs_6_4 {w : WX} {s : Mem} {i : Nat} {v : Int32} : (fsOf w s i 6).set 4 (.int v) = fsOf w (wI s i 4 v) i 6 := by simp [fsOf, rI_w, rL_wI]
theorem fs_7_4 {w : WX} {s : Mem} {i : Nat} {v : Int32} : (fsOf w s i 7).set 4 (.int v) = fsOf w (wI s i 4 v) i 7 := by simp [fsOf, rI_w, rL_wI]
theorem fs_7_5 {w : WX} {s : Mem} {i : Nat} {v : Int32} : (fsOf w s i 7).set 5 (.int v) = fsOf w (wI s i 5 v) i 7 := by simp [fsOf, rI_w, rL_wI]
theorem fs_7_6 {w : WX} {s : Mem} {i : Nat} {v : Int32} : (fsOf w s i 7).set 6 (.int v) = fsOf w (wI s i 6 v) i 7 := by simp [fsOf, rI_w, rL_wI]
theorem fs_7_7 {w : WX} {s : Mem} {i : Nat} {v : Int32} : (fsOf w s i 7).set 7 (.int v) = fsOf w (wI s i 7 v) i 7 := by simp [fsOf, rI_w, rL_wI]
theorem fs_7_8 {w : WX} {s : Mem} {i : Nat} {v : Int32} : (fsOf w s i 7).set 8 (.int v) = fsOf w (wI s i 8 v) i 7 := by simp [fsOf, rI_w, rL_wI]
theorem fs_7_9 {w : WX} {s : Mem} {i : Nat} {v : Int32} : (fsOf w s i 7).set 9 (.int v) = fsOf w (wI s i 9 v) i 7 := by simp [fsOf, rI_w, rL_wI]
theorem fs_7_10 {w : WX} {s : Mem} {i : Nat} {v : Int32} : (fsOf w s i 7).set 10 (.int v) = fsOf w (wI s i 10 v) i 7 := by simp [fsOf, rI_w, rL_wI]
theorem fs_8_2 {w : WX} {s : Mem} {i : Nat} {v : Int32} : (fsOf w s i 8).set 2 (.int v) = fsOf w (wI s i 2 v) i 8 := by simp [fsOf, rI_w, rL_wI]
theorem fs_9_0 {w : WX} {s : Mem} {i : Nat} {v : Int32} : (fsOf w s i 9).set 0 (.int v) = fsOf w (wI s i 0 v) i 9 := by simp [fsOf, rI_w, rL_wI]
theorem fs_9_2 {w : WX} {s : Mem} {i : Nat} {v : Int32} : (fsOf w s i 9).set 2 (.int v) = fsOf w (wI s i 2 v) i 9 := by simp [fsOf, rI_w, rL_wI]
theorem fs_9_5 {w : WX} {s : Mem} {i : Nat} {v : Int32} : (fsOf w s i 9).set 5 (.int v) = fsOf w (wI s i 5 v) i 9 := by simp [fsOf, rI_w, rL_wI]
theorem fs_9_7 {w : WX} {s : Mem} {i : Nat} {v : Int32} : (fsOf w s i 9).set 7 (.int v) = fsOf w (wI s i 7 v) i 9 := by simp [fsOf, rI_w, rL_wI]
theorem fs_9_9 {w : WX} {s : Mem} {i : Nat} {v : Int32} : (fsOf w s i 9).set 9 (.int v) = fsOf w (wI s i 9 v) i 9 := by simp [fsOf, rI_w, rL_wI]
theorem fs_9_11 {w : WX} {s : Mem} {i : Nat} {v : Int32} : (fsOf w s i 9).set 11 (.int v) = fsOf w (wI s i 11 v) i 9 := by simp [fsOf, rI_w, rL_wI]
theorem fs_9_17 {w : WX} {s : Mem} {i : Nat} {v : Int32} : (fsOf w s i 9).set 17 (.int v) = fsOf w (wI s i 17 v) i 9 := by simp [fsOf, rI_w, rL_wI]
theorem fs_9_18 {w : WX} {s : Mem} {i : Nat} {v : Int32} : (fsOf w s i 9).set 18 (.int v) = fsOf w (wI s i 18 v) i 9 := by simp [fsOf, rI_w, rL_wI]
theorem fs_9_19 {w : WX} {s : Mem} {i : Nat} {v : Int32} : (fsOf w s i 9).set 19 (.int v) = fsOf w (wI s i 19 v) i 9 := by simp [fsOf, rI_w, rL_wI]
theorem fs_9_20 {w : WX} {s : Mem} {i : Nat} {v : Int32} : (fsOf w s i 9).set 20 (.int v) = fsOf w (wI s i 20 v) i 9 := by simp [fsOf, rI_w, rL_wI]
theorem fs_9_21 {w : WX} {s : Mem} {i : Nat} {v : Int64} : (fsOf w s i 9).set 21 (.long v) = fsOf w (wL s i 21 v) i 9 := by simp [fsOf, rL_w, rI_wL]
theorem fs_9_22 {w : WX} {s : Mem} {i : Nat} {v : Int32} : (fsOf w s i 9).set 22 (.int v) = fsOf w (wI s i 22 v) i 9 := by simp [fsOf, rI_w, rL_wI]
theorem fs_9_27 {w : WX} {s : Mem} {i : Nat} {v : Int32} : (fsOf w s i 9).set 27 (.int v) = fsOf w (wI s i 27 v) i 9 := by simp [fsOf, rI_w, rL_wI]
theorem fs_9_28 {w : WX} {s : Mem} {i : Nat} {v : Int32} : (fsOf w s i 9).set 28 (.int v) = fsOf w (wI s i 28 v) i 9 := by simp [fsOf, rI_w, rL_wI]
theorem fs_9_31 {w : WX} {s : Mem} {i : Nat} {v : Int32} : (fsOf w s i 9).set 31 (.int v) = fsOf w (wI s i 31 v) i 9 := by simp [fsOf, rI_w, rL_wI]
theorem fs_9_38 {w : WX} {s : Mem} {i : Nat} {v : Int32} : (fsOf w s i 9).set 38 (.int v) = fsOf w (wI s i 38 v) i 9 := by simp [fsOf, rI_w, rL_wI]
theorem fs_9_39 {w : WX} {s : Mem} {i : Nat} {v : Int32} : (fsOf w s i 9).set 39 (.int v) = fsOf w (wI s i 39 v) i 9 := by simp [fsOf, rI_w, rL_wI]
theorem fs_9_40 {w : WX} {s : Mem} {i : Nat} {v : Int32} : (fsOf w s i 9).set 40 (.int v) = fsOf w (wI s i 40 v) i 9 := by simp [fsOf, rI_w, rL_wI]
theorem fs_9_42 {w : WX} {s : Mem} {i : Nat} {v : Int32} : (fsOf w s i 9).set 42 (.int v) = fsOf w (wI s i 42 v) i 9 := by simp [fsOf, rI_w, rL_wI]
theorem fs_9_43 {w : WX} {s : Mem} {i : Nat} {v : Int32} : (fsOf w s i 9).set 43 (.int v) = fsOf w (wI s i 43 v) i 9 := by simp [fsOf, rI_w, rL_wI]
theorem fs_9_44 {w : WX} {s : Mem} {i : Nat} {v : Int32} : (fsOf w s i 9).set 44 (.int v) = fsOf w (wI s i 44 v) i 9 := by simp [fsOf, rI_w, rL_wI]
theorem fs_9_46 {w : WX} {s : Mem} {i : Nat} {v : Int32} : (fsOf w s i 9).set 46 (.int v) = fsOf w (wI s i 46 v) i 9 := by simp [fsOf, rI_w, rL_wI]
def cpI (s : Mem) (so sp d dp m : Nat) : Mem := (fun a j => if a = d then va_cpy (fun z => s.1 so z) (fun z => s.1 d z) sp dp m j else s.1 a j, s.2)
def gcp {α : Type} (sp : Int32) (ns : Nat) (dp : Int32) (nd : Nat) (m : Int32) (k : Option α) : Option α := if (¬ sp < 0 ∧ ¬ dp < 0 ∧ ¬ m < 0) ∧ sp.toNatClampNeg + m.toNatClampNeg ≤ ns ∧ dp.toNatClampNeg + m.toNatClampNeg ≤ nd then k else none
def f_len (z : Nat) (s : Mem) : Option (Int32 × Mem) := some (nI (stLen.getD z 0), s)
def f_chr (z : Nat) (k : Int32) (s : Mem) : Option (Int32 × Mem) := gin k (stLen.getD z 0) (some ((stByt.getD z []).getD k.toNatClampNeg 0, s))
