-- pure facts: numbers
theorem bnd_s {α β : Type} (r : α) (s : Mem) (k : α → Mem → Option β) : bnd (some (r, s)) k = k r s := rfl
theorem lt_e {α β : Type} (a : α) (k : α → β) : lt a k = k a := rfl
theorem gin_t {α : Type} {i : Int32} {n : Nat} {k : Option α} (h : vp_in i n) : gin i n k = k := by unfold gin; rw [if_neg h]
theorem gin_n {α : Type} {j n : Nat} {k : Option α} (h : j < n) (hn : n < 2 ^ 31) : gin (nI j) n k = k := gin_t (vp_in_nI h hn)
theorem gnzL_t {α : Type} {y : Int64} {k : Option α} (h : ¬ y = 0) : gnzL y k = k := by unfold gnzL; rw [if_neg h]
theorem gnz_t {α : Type} {y : Int32} {k : Option α} (h : ¬ y = 0) : gnz y k = k := by unfold gnz; rw [if_neg h]
theorem i0 : (0 : Int32) = nI 0 := rfl
theorem i1 : (1 : Int32) = nI 1 := rfl
theorem i2 : (2 : Int32) = nI 2 := rfl
theorem i3 : (3 : Int32) = nI 3 := rfl
theorem i4 : (4 : Int32) = nI 4 := rfl
theorem i5 : (5 : Int32) = nI 5 := rfl
theorem i6 : (6 : Int32) = nI 6 := rfl
theorem i7 : (7 : Int32) = nI 7 := rfl
theorem i8 : (8 : Int32) = nI 8 := rfl
theorem i9 : (9 : Int32) = nI 9 := rfl
theorem i10 : (10 : Int32) = nI 10 := rfl
theorem i17 : (17 : Int32) = nI 17 := rfl
theorem i20 : (20 : Int32) = nI 20 := rfl
theorem i30 : (30 : Int32) = nI 30 := rfl
theorem i40 : (40 : Int32) = nI 40 := rfl
theorem i99 : (99 : Int32) = nI 99 := rfl
theorem i100 : (100 : Int32) = nI 100 := rfl
theorem i160 : (160 : Int32) = nI 160 := rfl
theorem i161 : (161 : Int32) = nI 161 := rfl
theorem i200 : (200 : Int32) = nI 200 := rfl
theorem nI_ge0 {n : Nat} (h : n < 2 ^ 31) : ¬ nI n < 0 := nI_pos h
section IFS
variable {α : Sort _} {X Y : α} {a b : Nat}
theorem le_t {d : Decidable (nI a ≤ nI b)} (h : a ≤ b) (hb : b < 2 ^ 31) : (@ite _ (nI a ≤ nI b) d X Y) = X := if_pos (nI_le h hb)
theorem le_f {d : Decidable (nI a ≤ nI b)} (h : b < a) (ha : a < 2 ^ 31) : (@ite _ (nI a ≤ nI b) d X Y) = Y := if_neg (nI_ge h ha)
theorem lt_t {d : Decidable (nI a < nI b)} (h : a < b) (hb : b < 2 ^ 31) : (@ite _ (nI a < nI b) d X Y) = X := if_pos (nI_lt h hb)
theorem lt_f {d : Decidable (nI a < nI b)} (h : b ≤ a) (ha : a < 2 ^ 31) : (@ite _ (nI a < nI b) d X Y) = Y := if_neg (nI_nlt h ha)
theorem lt0_f {d : Decidable (nI a < 0)} (ha : a < 2 ^ 31) : (@ite _ (nI a < 0) d X Y) = Y := if_neg (nI_pos ha)
theorem eq_t {d : Decidable (nI a = nI b)} (h : a = b) : (@ite _ (nI a = nI b) d X Y) = X := if_pos (by rw [h])
theorem eq_f {d : Decidable (nI a = nI b)} (h : a ≠ b) (ha : a < 2 ^ 31) (hb : b < 2 ^ 31) : (@ite _ (nI a = nI b) d X Y) = Y := if_neg (fun q => h ((nI_eq ha hb).mp q))
theorem ite_le {d : Decidable (nI a ≤ nI b)} (ha : a < 2 ^ 31) (hb : b < 2 ^ 31) : (@ite _ (nI a ≤ nI b) d X Y) = if a ≤ b then X else Y := by
  by_cases h : a ≤ b
  · rw [le_t h hb, if_pos h]
  · rw [le_f (by omega) ha, if_neg h]
theorem ite_lt {d : Decidable (nI a < nI b)} (ha : a < 2 ^ 31) (hb : b < 2 ^ 31) : (@ite _ (nI a < nI b) d X Y) = if a < b then X else Y := by
  by_cases h : a < b
  · rw [lt_t h hb, if_pos h]
  · rw [lt_f (by omega) ha, if_neg h]
theorem ite_eq {d : Decidable (nI a = nI b)} (ha : a < 2 ^ 31) (hb : b < 2 ^ 31) : (@ite _ (nI a = nI b) d X Y) = if a = b then X else Y := by
  by_cases h : a = b
  · rw [eq_t h, if_pos h]
  · rw [eq_f h ha hb, if_neg h]
theorem ite_T {X Y : α} : (if true = true then X else Y) = X := rfl
theorem ite_F {X Y : α} : (if false = true then X else Y) = Y := rfl
theorem ite_d {c : Prop} {d : Decidable c} {X Y : α} : (if decide c = true then X else Y) = if c then X else Y := by
  by_cases h : c <;> simp [h]
end IFS
section LITS
variable {α : Sort _} {X Y : α} {a : Nat}
theorem ek0 {d : Decidable (nI a = 0)} (ha : a < 2 ^ 31) : (@ite _ (nI a = 0) d X Y) = if a = 0 then X else Y := ite_eq (b := 0) (d := d) ha (by decide)
theorem lek0 {d : Decidable (nI a ≤ 0)} (ha : a < 2 ^ 31) : (@ite _ (nI a ≤ 0) d X Y) = if a ≤ 0 then X else Y := ite_le (b := 0) (d := d) ha (by decide)
theorem kle0 {d : Decidable (0 ≤ nI a)} (ha : a < 2 ^ 31) : (@ite _ (0 ≤ nI a) d X Y) = if 0 ≤ a then X else Y := ite_le (a := 0) (d := d) (by decide) ha
theorem ltk0 {d : Decidable (nI a < 0)} (ha : a < 2 ^ 31) : (@ite _ (nI a < 0) d X Y) = if a < 0 then X else Y := ite_lt (b := 0) (d := d) ha (by decide)
theorem klt0 {d : Decidable (0 < nI a)} (ha : a < 2 ^ 31) : (@ite _ (0 < nI a) d X Y) = if 0 < a then X else Y := ite_lt (a := 0) (d := d) (by decide) ha
theorem ek1 {d : Decidable (nI a = 1)} (ha : a < 2 ^ 31) : (@ite _ (nI a = 1) d X Y) = if a = 1 then X else Y := ite_eq (b := 1) (d := d) ha (by decide)
theorem lek1 {d : Decidable (nI a ≤ 1)} (ha : a < 2 ^ 31) : (@ite _ (nI a ≤ 1) d X Y) = if a ≤ 1 then X else Y := ite_le (b := 1) (d := d) ha (by decide)
theorem kle1 {d : Decidable (1 ≤ nI a)} (ha : a < 2 ^ 31) : (@ite _ (1 ≤ nI a) d X Y) = if 1 ≤ a then X else Y := ite_le (a := 1) (d := d) (by decide) ha
theorem ltk1 {d : Decidable (nI a < 1)} (ha : a < 2 ^ 31) : (@ite _ (nI a < 1) d X Y) = if a < 1 then X else Y := ite_lt (b := 1) (d := d) ha (by decide)
theorem klt1 {d : Decidable (1 < nI a)} (ha : a < 2 ^ 31) : (@ite _ (1 < nI a) d X Y) = if 1 < a then X else Y := ite_lt (a := 1) (d := d) (by decide) ha
theorem ek2 {d : Decidable (nI a = 2)} (ha : a < 2 ^ 31) : (@ite _ (nI a = 2) d X Y) = if a = 2 then X else Y := ite_eq (b := 2) (d := d) ha (by decide)
theorem lek2 {d : Decidable (nI a ≤ 2)} (ha : a < 2 ^ 31) : (@ite _ (nI a ≤ 2) d X Y) = if a ≤ 2 then X else Y := ite_le (b := 2) (d := d) ha (by decide)
theorem kle2 {d : Decidable (2 ≤ nI a)} (ha : a < 2 ^ 31) : (@ite _ (2 ≤ nI a) d X Y) = if 2 ≤ a then X else Y := ite_le (a := 2) (d := d) (by decide) ha
theorem ltk2 {d : Decidable (nI a < 2)} (ha : a < 2 ^ 31) : (@ite _ (nI a < 2) d X Y) = if a < 2 then X else Y := ite_lt (b := 2) (d := d) ha (by decide)
theorem klt2 {d : Decidable (2 < nI a)} (ha : a < 2 ^ 31) : (@ite _ (2 < nI a) d X Y) = if 2 < a then X else Y := ite_lt (a := 2) (d := d) (by decide) ha
theorem ek3 {d : Decidable (nI a = 3)} (ha : a < 2 ^ 31) : (@ite _ (nI a = 3) d X Y) = if a = 3 then X else Y := ite_eq (b := 3) (d := d) ha (by decide)
theorem lek3 {d : Decidable (nI a ≤ 3)} (ha : a < 2 ^ 31) : (@ite _ (nI a ≤ 3) d X Y) = if a ≤ 3 then X else Y := ite_le (b := 3) (d := d) ha (by decide)
theorem kle3 {d : Decidable (3 ≤ nI a)} (ha : a < 2 ^ 31) : (@ite _ (3 ≤ nI a) d X Y) = if 3 ≤ a then X else Y := ite_le (a := 3) (d := d) (by decide) ha
theorem ltk3 {d : Decidable (nI a < 3)} (ha : a < 2 ^ 31) : (@ite _ (nI a < 3) d X Y) = if a < 3 then X else Y := ite_lt (b := 3) (d := d) ha (by decide)
theorem klt3 {d : Decidable (3 < nI a)} (ha : a < 2 ^ 31) : (@ite _ (3 < nI a) d X Y) = if 3 < a then X else Y := ite_lt (a := 3) (d := d) (by decide) ha
theorem ek4 {d : Decidable (nI a = 4)} (ha : a < 2 ^ 31) : (@ite _ (nI a = 4) d X Y) = if a = 4 then X else Y := ite_eq (b := 4) (d := d) ha (by decide)
theorem lek4 {d : Decidable (nI a ≤ 4)} (ha : a < 2 ^ 31) : (@ite _ (nI a ≤ 4) d X Y) = if a ≤ 4 then X else Y := ite_le (b := 4) (d := d) ha (by decide)
theorem kle4 {d : Decidable (4 ≤ nI a)} (ha : a < 2 ^ 31) : (@ite _ (4 ≤ nI a) d X Y) = if 4 ≤ a then X else Y := ite_le (a := 4) (d := d) (by decide) ha
theorem ltk4 {d : Decidable (nI a < 4)} (ha : a < 2 ^ 31) : (@ite _ (nI a < 4) d X Y) = if a < 4 then X else Y := ite_lt (b := 4) (d := d) ha (by decide)
theorem klt4 {d : Decidable (4 < nI a)} (ha : a < 2 ^ 31) : (@ite _ (4 < nI a) d X Y) = if 4 < a then X else Y := ite_lt (a := 4) (d := d) (by decide) ha
theorem ek5 {d : Decidable (nI a = 5)} (ha : a < 2 ^ 31) : (@ite _ (nI a = 5) d X Y) = if a = 5 then X else Y := ite_eq (b := 5) (d := d) ha (by decide)
theorem lek5 {d : Decidable (nI a ≤ 5)} (ha : a < 2 ^ 31) : (@ite _ (nI a ≤ 5) d X Y) = if a ≤ 5 then X else Y := ite_le (b := 5) (d := d) ha (by decide)
theorem kle5 {d : Decidable (5 ≤ nI a)} (ha : a < 2 ^ 31) : (@ite _ (5 ≤ nI a) d X Y) = if 5 ≤ a then X else Y := ite_le (a := 5) (d := d) (by decide) ha
theorem ltk5 {d : Decidable (nI a < 5)} (ha : a < 2 ^ 31) : (@ite _ (nI a < 5) d X Y) = if a < 5 then X else Y := ite_lt (b := 5) (d := d) ha (by decide)
theorem klt5 {d : Decidable (5 < nI a)} (ha : a < 2 ^ 31) : (@ite _ (5 < nI a) d X Y) = if 5 < a then X else Y := ite_lt (a := 5) (d := d) (by decide) ha
theorem ek6 {d : Decidable (nI a = 6)} (ha : a < 2 ^ 31) : (@ite _ (nI a = 6) d X Y) = if a = 6 then X else Y := ite_eq (b := 6) (d := d) ha (by decide)
theorem lek6 {d : Decidable (nI a ≤ 6)} (ha : a < 2 ^ 31) : (@ite _ (nI a ≤ 6) d X Y) = if a ≤ 6 then X else Y := ite_le (b := 6) (d := d) ha (by decide)
theorem kle6 {d : Decidable (6 ≤ nI a)} (ha : a < 2 ^ 31) : (@ite _ (6 ≤ nI a) d X Y) = if 6 ≤ a then X else Y := ite_le (a := 6) (d := d) (by decide) ha
theorem ltk6 {d : Decidable (nI a < 6)} (ha : a < 2 ^ 31) : (@ite _ (nI a < 6) d X Y) = if a < 6 then X else Y := ite_lt (b := 6) (d := d) ha (by decide)
theorem klt6 {d : Decidable (6 < nI a)} (ha : a < 2 ^ 31) : (@ite _ (6 < nI a) d X Y) = if 6 < a then X else Y := ite_lt (a := 6) (d := d) (by decide) ha
theorem ek7 {d : Decidable (nI a = 7)} (ha : a < 2 ^ 31) : (@ite _ (nI a = 7) d X Y) = if a = 7 then X else Y := ite_eq (b := 7) (d := d) ha (by decide)
theorem lek7 {d : Decidable (nI a ≤ 7)} (ha : a < 2 ^ 31) : (@ite _ (nI a ≤ 7) d X Y) = if a ≤ 7 then X else Y := ite_le (b := 7) (d := d) ha (by decide)
theorem kle7 {d : Decidable (7 ≤ nI a)} (ha : a < 2 ^ 31) : (@ite _ (7 ≤ nI a) d X Y) = if 7 ≤ a then X else Y := ite_le (a := 7) (d := d) (by decide) ha
theorem ltk7 {d : Decidable (nI a < 7)} (ha : a < 2 ^ 31) : (@ite _ (nI a < 7) d X Y) = if a < 7 then X else Y := ite_lt (b := 7) (d := d) ha (by decide)
theorem klt7 {d : Decidable (7 < nI a)} (ha : a < 2 ^ 31) : (@ite _ (7 < nI a) d X Y) = if 7 < a then X else Y := ite_lt (a := 7) (d := d) (by decide) ha
theorem ek8 {d : Decidable (nI a = 8)} (ha : a < 2 ^ 31) : (@ite _ (nI a = 8) d X Y) = if a = 8 then X else Y := ite_eq (b := 8) (d := d) ha (by decide)
theorem lek8 {d : Decidable (nI a ≤ 8)} (ha : a < 2 ^ 31) : (@ite _ (nI a ≤ 8) d X Y) = if a ≤ 8 then X else Y := ite_le (b := 8) (d := d) ha (by decide)
theorem kle8 {d : Decidable (8 ≤ nI a)} (ha : a < 2 ^ 31) : (@ite _ (8 ≤ nI a) d X Y) = if 8 ≤ a then X else Y := ite_le (a := 8) (d := d) (by decide) ha
theorem ltk8 {d : Decidable (nI a < 8)} (ha : a < 2 ^ 31) : (@ite _ (nI a < 8) d X Y) = if a < 8 then X else Y := ite_lt (b := 8) (d := d) ha (by decide)
theorem klt8 {d : Decidable (8 < nI a)} (ha : a < 2 ^ 31) : (@ite _ (8 < nI a) d X Y) = if 8 < a then X else Y := ite_lt (a := 8) (d := d) (by decide) ha
theorem ek9 {d : Decidable (nI a = 9)} (ha : a < 2 ^ 31) : (@ite _ (nI a = 9) d X Y) = if a = 9 then X else Y := ite_eq (b := 9) (d := d) ha (by decide)
theorem lek9 {d : Decidable (nI a ≤ 9)} (ha : a < 2 ^ 31) : (@ite _ (nI a ≤ 9) d X Y) = if a ≤ 9 then X else Y := ite_le (b := 9) (d := d) ha (by decide)
theorem kle9 {d : Decidable (9 ≤ nI a)} (ha : a < 2 ^ 31) : (@ite _ (9 ≤ nI a) d X Y) = if 9 ≤ a then X else Y := ite_le (a := 9) (d := d) (by decide) ha
theorem ltk9 {d : Decidable (nI a < 9)} (ha : a < 2 ^ 31) : (@ite _ (nI a < 9) d X Y) = if a < 9 then X else Y := ite_lt (b := 9) (d := d) ha (by decide)
theorem klt9 {d : Decidable (9 < nI a)} (ha : a < 2 ^ 31) : (@ite _ (9 < nI a) d X Y) = if 9 < a then X else Y := ite_lt (a := 9) (d := d) (by decide) ha
theorem ek10 {d : Decidable (nI a = 10)} (ha : a < 2 ^ 31) : (@ite _ (nI a = 10) d X Y) = if a = 10 then X else Y := ite_eq (b := 10) (d := d) ha (by decide)
theorem lek10 {d : Decidable (nI a ≤ 10)} (ha : a < 2 ^ 31) : (@ite _ (nI a ≤ 10) d X Y) = if a ≤ 10 then X else Y := ite_le (b := 10) (d := d) ha (by decide)
theorem kle10 {d : Decidable (10 ≤ nI a)} (ha : a < 2 ^ 31) : (@ite _ (10 ≤ nI a) d X Y) = if 10 ≤ a then X else Y := ite_le (a := 10) (d := d) (by decide) ha
theorem ltk10 {d : Decidable (nI a < 10)} (ha : a < 2 ^ 31) : (@ite _ (nI a < 10) d X Y) = if a < 10 then X else Y := ite_lt (b := 10) (d := d) ha (by decide)
theorem klt10 {d : Decidable (10 < nI a)} (ha : a < 2 ^ 31) : (@ite _ (10 < nI a) d X Y) = if 10 < a then X else Y := ite_lt (a := 10) (d := d) (by decide) ha
theorem ek11 {d : Decidable (nI a = 11)} (ha : a < 2 ^ 31) : (@ite _ (nI a = 11) d X Y) = if a = 11 then X else Y := ite_eq (b := 11) (d := d) ha (by decide)
theorem lek11 {d : Decidable (nI a ≤ 11)} (ha : a < 2 ^ 31) : (@ite _ (nI a ≤ 11) d X Y) = if a ≤ 11 then X else Y := ite_le (b := 11) (d := d) ha (by decide)
theorem kle11 {d : Decidable (11 ≤ nI a)} (ha : a < 2 ^ 31) : (@ite _ (11 ≤ nI a) d X Y) = if 11 ≤ a then X else Y := ite_le (a := 11) (d := d) (by decide) ha
theorem ltk11 {d : Decidable (nI a < 11)} (ha : a < 2 ^ 31) : (@ite _ (nI a < 11) d X Y) = if a < 11 then X else Y := ite_lt (b := 11) (d := d) ha (by decide)
theorem klt11 {d : Decidable (11 < nI a)} (ha : a < 2 ^ 31) : (@ite _ (11 < nI a) d X Y) = if 11 < a then X else Y := ite_lt (a := 11) (d := d) (by decide) ha
theorem ek12 {d : Decidable (nI a = 12)} (ha : a < 2 ^ 31) : (@ite _ (nI a = 12) d X Y) = if a = 12 then X else Y := ite_eq (b := 12) (d := d) ha (by decide)
theorem lek12 {d : Decidable (nI a ≤ 12)} (ha : a < 2 ^ 31) : (@ite _ (nI a ≤ 12) d X Y) = if a ≤ 12 then X else Y := ite_le (b := 12) (d := d) ha (by decide)
theorem kle12 {d : Decidable (12 ≤ nI a)} (ha : a < 2 ^ 31) : (@ite _ (12 ≤ nI a) d X Y) = if 12 ≤ a then X else Y := ite_le (a := 12) (d := d) (by decide) ha
theorem ltk12 {d : Decidable (nI a < 12)} (ha : a < 2 ^ 31) : (@ite _ (nI a < 12) d X Y) = if a < 12 then X else Y := ite_lt (b := 12) (d := d) ha (by decide)
theorem klt12 {d : Decidable (12 < nI a)} (ha : a < 2 ^ 31) : (@ite _ (12 < nI a) d X Y) = if 12 < a then X else Y := ite_lt (a := 12) (d := d) (by decide) ha
theorem ek13 {d : Decidable (nI a = 13)} (ha : a < 2 ^ 31) : (@ite _ (nI a = 13) d X Y) = if a = 13 then X else Y := ite_eq (b := 13) (d := d) ha (by decide)
theorem lek13 {d : Decidable (nI a ≤ 13)} (ha : a < 2 ^ 31) : (@ite _ (nI a ≤ 13) d X Y) = if a ≤ 13 then X else Y := ite_le (b := 13) (d := d) ha (by decide)
theorem kle13 {d : Decidable (13 ≤ nI a)} (ha : a < 2 ^ 31) : (@ite _ (13 ≤ nI a) d X Y) = if 13 ≤ a then X else Y := ite_le (a := 13) (d := d) (by decide) ha
theorem ltk13 {d : Decidable (nI a < 13)} (ha : a < 2 ^ 31) : (@ite _ (nI a < 13) d X Y) = if a < 13 then X else Y := ite_lt (b := 13) (d := d) ha (by decide)
theorem klt13 {d : Decidable (13 < nI a)} (ha : a < 2 ^ 31) : (@ite _ (13 < nI a) d X Y) = if 13 < a then X else Y := ite_lt (a := 13) (d := d) (by decide) ha
theorem ek14 {d : Decidable (nI a = 14)} (ha : a < 2 ^ 31) : (@ite _ (nI a = 14) d X Y) = if a = 14 then X else Y := ite_eq (b := 14) (d := d) ha (by decide)
theorem lek14 {d : Decidable (nI a ≤ 14)} (ha : a < 2 ^ 31) : (@ite _ (nI a ≤ 14) d X Y) = if a ≤ 14 then X else Y := ite_le (b := 14) (d := d) ha (by decide)
theorem kle14 {d : Decidable (14 ≤ nI a)} (ha : a < 2 ^ 31) : (@ite _ (14 ≤ nI a) d X Y) = if 14 ≤ a then X else Y := ite_le (a := 14) (d := d) (by decide) ha
theorem ltk14 {d : Decidable (nI a < 14)} (ha : a < 2 ^ 31) : (@ite _ (nI a < 14) d X Y) = if a < 14 then X else Y := ite_lt (b := 14) (d := d) ha (by decide)
theorem klt14 {d : Decidable (14 < nI a)} (ha : a < 2 ^ 31) : (@ite _ (14 < nI a) d X Y) = if 14 < a then X else Y := ite_lt (a := 14) (d := d) (by decide) ha
theorem ek15 {d : Decidable (nI a = 15)} (ha : a < 2 ^ 31) : (@ite _ (nI a = 15) d X Y) = if a = 15 then X else Y := ite_eq (b := 15) (d := d) ha (by decide)
theorem lek15 {d : Decidable (nI a ≤ 15)} (ha : a < 2 ^ 31) : (@ite _ (nI a ≤ 15) d X Y) = if a ≤ 15 then X else Y := ite_le (b := 15) (d := d) ha (by decide)
theorem kle15 {d : Decidable (15 ≤ nI a)} (ha : a < 2 ^ 31) : (@ite _ (15 ≤ nI a) d X Y) = if 15 ≤ a then X else Y := ite_le (a := 15) (d := d) (by decide) ha
theorem ltk15 {d : Decidable (nI a < 15)} (ha : a < 2 ^ 31) : (@ite _ (nI a < 15) d X Y) = if a < 15 then X else Y := ite_lt (b := 15) (d := d) ha (by decide)
theorem klt15 {d : Decidable (15 < nI a)} (ha : a < 2 ^ 31) : (@ite _ (15 < nI a) d X Y) = if 15 < a then X else Y := ite_lt (a := 15) (d := d) (by decide) ha
theorem ek16 {d : Decidable (nI a = 16)} (ha : a < 2 ^ 31) : (@ite _ (nI a = 16) d X Y) = if a = 16 then X else Y := ite_eq (b := 16) (d := d) ha (by decide)
theorem lek16 {d : Decidable (nI a ≤ 16)} (ha : a < 2 ^ 31) : (@ite _ (nI a ≤ 16) d X Y) = if a ≤ 16 then X else Y := ite_le (b := 16) (d := d) ha (by decide)
theorem kle16 {d : Decidable (16 ≤ nI a)} (ha : a < 2 ^ 31) : (@ite _ (16 ≤ nI a) d X Y) = if 16 ≤ a then X else Y := ite_le (a := 16) (d := d) (by decide) ha
theorem ltk16 {d : Decidable (nI a < 16)} (ha : a < 2 ^ 31) : (@ite _ (nI a < 16) d X Y) = if a < 16 then X else Y := ite_lt (b := 16) (d := d) ha (by decide)
theorem klt16 {d : Decidable (16 < nI a)} (ha : a < 2 ^ 31) : (@ite _ (16 < nI a) d X Y) = if 16 < a then X else Y := ite_lt (a := 16) (d := d) (by decide) ha
theorem ek17 {d : Decidable (nI a = 17)} (ha : a < 2 ^ 31) : (@ite _ (nI a = 17) d X Y) = if a = 17 then X else Y := ite_eq (b := 17) (d := d) ha (by decide)
theorem lek17 {d : Decidable (nI a ≤ 17)} (ha : a < 2 ^ 31) : (@ite _ (nI a ≤ 17) d X Y) = if a ≤ 17 then X else Y := ite_le (b := 17) (d := d) ha (by decide)
theorem kle17 {d : Decidable (17 ≤ nI a)} (ha : a < 2 ^ 31) : (@ite _ (17 ≤ nI a) d X Y) = if 17 ≤ a then X else Y := ite_le (a := 17) (d := d) (by decide) ha
theorem ltk17 {d : Decidable (nI a < 17)} (ha : a < 2 ^ 31) : (@ite _ (nI a < 17) d X Y) = if a < 17 then X else Y := ite_lt (b := 17) (d := d) ha (by decide)
theorem klt17 {d : Decidable (17 < nI a)} (ha : a < 2 ^ 31) : (@ite _ (17 < nI a) d X Y) = if 17 < a then X else Y := ite_lt (a := 17) (d := d) (by decide) ha
theorem ek18 {d : Decidable (nI a = 18)} (ha : a < 2 ^ 31) : (@ite _ (nI a = 18) d X Y) = if a = 18 then X else Y := ite_eq (b := 18) (d := d) ha (by decide)
theorem lek18 {d : Decidable (nI a ≤ 18)} (ha : a < 2 ^ 31) : (@ite _ (nI a ≤ 18) d X Y) = if a ≤ 18 then X else Y := ite_le (b := 18) (d := d) ha (by decide)
theorem kle18 {d : Decidable (18 ≤ nI a)} (ha : a < 2 ^ 31) : (@ite _ (18 ≤ nI a) d X Y) = if 18 ≤ a then X else Y := ite_le (a := 18) (d := d) (by decide) ha
theorem ltk18 {d : Decidable (nI a < 18)} (ha : a < 2 ^ 31) : (@ite _ (nI a < 18) d X Y) = if a < 18 then X else Y := ite_lt (b := 18) (d := d) ha (by decide)
theorem klt18 {d : Decidable (18 < nI a)} (ha : a < 2 ^ 31) : (@ite _ (18 < nI a) d X Y) = if 18 < a then X else Y := ite_lt (a := 18) (d := d) (by decide) ha
theorem ek19 {d : Decidable (nI a = 19)} (ha : a < 2 ^ 31) : (@ite _ (nI a = 19) d X Y) = if a = 19 then X else Y := ite_eq (b := 19) (d := d) ha (by decide)
theorem lek19 {d : Decidable (nI a ≤ 19)} (ha : a < 2 ^ 31) : (@ite _ (nI a ≤ 19) d X Y) = if a ≤ 19 then X else Y := ite_le (b := 19) (d := d) ha (by decide)
theorem kle19 {d : Decidable (19 ≤ nI a)} (ha : a < 2 ^ 31) : (@ite _ (19 ≤ nI a) d X Y) = if 19 ≤ a then X else Y := ite_le (a := 19) (d := d) (by decide) ha
theorem ltk19 {d : Decidable (nI a < 19)} (ha : a < 2 ^ 31) : (@ite _ (nI a < 19) d X Y) = if a < 19 then X else Y := ite_lt (b := 19) (d := d) ha (by decide)
theorem klt19 {d : Decidable (19 < nI a)} (ha : a < 2 ^ 31) : (@ite _ (19 < nI a) d X Y) = if 19 < a then X else Y := ite_lt (a := 19) (d := d) (by decide) ha
theorem ek20 {d : Decidable (nI a = 20)} (ha : a < 2 ^ 31) : (@ite _ (nI a = 20) d X Y) = if a = 20 then X else Y := ite_eq (b := 20) (d := d) ha (by decide)
theorem lek20 {d : Decidable (nI a ≤ 20)} (ha : a < 2 ^ 31) : (@ite _ (nI a ≤ 20) d X Y) = if a ≤ 20 then X else Y := ite_le (b := 20) (d := d) ha (by decide)
theorem kle20 {d : Decidable (20 ≤ nI a)} (ha : a < 2 ^ 31) : (@ite _ (20 ≤ nI a) d X Y) = if 20 ≤ a then X else Y := ite_le (a := 20) (d := d) (by decide) ha
theorem ltk20 {d : Decidable (nI a < 20)} (ha : a < 2 ^ 31) : (@ite _ (nI a < 20) d X Y) = if a < 20 then X else Y := ite_lt (b := 20) (d := d) ha (by decide)
theorem klt20 {d : Decidable (20 < nI a)} (ha : a < 2 ^ 31) : (@ite _ (20 < nI a) d X Y) = if 20 < a then X else Y := ite_lt (a := 20) (d := d) (by decide) ha
theorem ek30 {d : Decidable (nI a = 30)} (ha : a < 2 ^ 31) : (@ite _ (nI a = 30) d X Y) = if a = 30 then X else Y := ite_eq (b := 30) (d := d) ha (by decide)
theorem lek30 {d : Decidable (nI a ≤ 30)} (ha : a < 2 ^ 31) : (@ite _ (nI a ≤ 30) d X Y) = if a ≤ 30 then X else Y := ite_le (b := 30) (d := d) ha (by decide)
theorem kle30 {d : Decidable (30 ≤ nI a)} (ha : a < 2 ^ 31) : (@ite _ (30 ≤ nI a) d X Y) = if 30 ≤ a then X else Y := ite_le (a := 30) (d := d) (by decide) ha
theorem ltk30 {d : Decidable (nI a < 30)} (ha : a < 2 ^ 31) : (@ite _ (nI a < 30) d X Y) = if a < 30 then X else Y := ite_lt (b := 30) (d := d) ha (by decide)
theorem klt30 {d : Decidable (30 < nI a)} (ha : a < 2 ^ 31) : (@ite _ (30 < nI a) d X Y) = if 30 < a then X else Y := ite_lt (a := 30) (d := d) (by decide) ha
theorem ek40 {d : Decidable (nI a = 40)} (ha : a < 2 ^ 31) : (@ite _ (nI a = 40) d X Y) = if a = 40 then X else Y := ite_eq (b := 40) (d := d) ha (by decide)
theorem lek40 {d : Decidable (nI a ≤ 40)} (ha : a < 2 ^ 31) : (@ite _ (nI a ≤ 40) d X Y) = if a ≤ 40 then X else Y := ite_le (b := 40) (d := d) ha (by decide)
theorem kle40 {d : Decidable (40 ≤ nI a)} (ha : a < 2 ^ 31) : (@ite _ (40 ≤ nI a) d X Y) = if 40 ≤ a then X else Y := ite_le (a := 40) (d := d) (by decide) ha
theorem ltk40 {d : Decidable (nI a < 40)} (ha : a < 2 ^ 31) : (@ite _ (nI a < 40) d X Y) = if a < 40 then X else Y := ite_lt (b := 40) (d := d) ha (by decide)
theorem klt40 {d : Decidable (40 < nI a)} (ha : a < 2 ^ 31) : (@ite _ (40 < nI a) d X Y) = if 40 < a then X else Y := ite_lt (a := 40) (d := d) (by decide) ha
theorem ek99 {d : Decidable (nI a = 99)} (ha : a < 2 ^ 31) : (@ite _ (nI a = 99) d X Y) = if a = 99 then X else Y := ite_eq (b := 99) (d := d) ha (by decide)
theorem lek99 {d : Decidable (nI a ≤ 99)} (ha : a < 2 ^ 31) : (@ite _ (nI a ≤ 99) d X Y) = if a ≤ 99 then X else Y := ite_le (b := 99) (d := d) ha (by decide)
theorem kle99 {d : Decidable (99 ≤ nI a)} (ha : a < 2 ^ 31) : (@ite _ (99 ≤ nI a) d X Y) = if 99 ≤ a then X else Y := ite_le (a := 99) (d := d) (by decide) ha
theorem ltk99 {d : Decidable (nI a < 99)} (ha : a < 2 ^ 31) : (@ite _ (nI a < 99) d X Y) = if a < 99 then X else Y := ite_lt (b := 99) (d := d) ha (by decide)
theorem klt99 {d : Decidable (99 < nI a)} (ha : a < 2 ^ 31) : (@ite _ (99 < nI a) d X Y) = if 99 < a then X else Y := ite_lt (a := 99) (d := d) (by decide) ha
theorem ek100 {d : Decidable (nI a = 100)} (ha : a < 2 ^ 31) : (@ite _ (nI a = 100) d X Y) = if a = 100 then X else Y := ite_eq (b := 100) (d := d) ha (by decide)
theorem lek100 {d : Decidable (nI a ≤ 100)} (ha : a < 2 ^ 31) : (@ite _ (nI a ≤ 100) d X Y) = if a ≤ 100 then X else Y := ite_le (b := 100) (d := d) ha (by decide)
theorem kle100 {d : Decidable (100 ≤ nI a)} (ha : a < 2 ^ 31) : (@ite _ (100 ≤ nI a) d X Y) = if 100 ≤ a then X else Y := ite_le (a := 100) (d := d) (by decide) ha
theorem ltk100 {d : Decidable (nI a < 100)} (ha : a < 2 ^ 31) : (@ite _ (nI a < 100) d X Y) = if a < 100 then X else Y := ite_lt (b := 100) (d := d) ha (by decide)
theorem klt100 {d : Decidable (100 < nI a)} (ha : a < 2 ^ 31) : (@ite _ (100 < nI a) d X Y) = if 100 < a then X else Y := ite_lt (a := 100) (d := d) (by decide) ha
theorem ek160 {d : Decidable (nI a = 160)} (ha : a < 2 ^ 31) : (@ite _ (nI a = 160) d X Y) = if a = 160 then X else Y := ite_eq (b := 160) (d := d) ha (by decide)
theorem lek160 {d : Decidable (nI a ≤ 160)} (ha : a < 2 ^ 31) : (@ite _ (nI a ≤ 160) d X Y) = if a ≤ 160 then X else Y := ite_le (b := 160) (d := d) ha (by decide)
theorem kle160 {d : Decidable (160 ≤ nI a)} (ha : a < 2 ^ 31) : (@ite _ (160 ≤ nI a) d X Y) = if 160 ≤ a then X else Y := ite_le (a := 160) (d := d) (by decide) ha
theorem ltk160 {d : Decidable (nI a < 160)} (ha : a < 2 ^ 31) : (@ite _ (nI a < 160) d X Y) = if a < 160 then X else Y := ite_lt (b := 160) (d := d) ha (by decide)
theorem klt160 {d : Decidable (160 < nI a)} (ha : a < 2 ^ 31) : (@ite _ (160 < nI a) d X Y) = if 160 < a then X else Y := ite_lt (a := 160) (d := d) (by decide) ha
theorem ek161 {d : Decidable (nI a = 161)} (ha : a < 2 ^ 31) : (@ite _ (nI a = 161) d X Y) = if a = 161 then X else Y := ite_eq (b := 161) (d := d) ha (by decide)
theorem lek161 {d : Decidable (nI a ≤ 161)} (ha : a < 2 ^ 31) : (@ite _ (nI a ≤ 161) d X Y) = if a ≤ 161 then X else Y := ite_le (b := 161) (d := d) ha (by decide)
theorem kle161 {d : Decidable (161 ≤ nI a)} (ha : a < 2 ^ 31) : (@ite _ (161 ≤ nI a) d X Y) = if 161 ≤ a then X else Y := ite_le (a := 161) (d := d) (by decide) ha
theorem ltk161 {d : Decidable (nI a < 161)} (ha : a < 2 ^ 31) : (@ite _ (nI a < 161) d X Y) = if a < 161 then X else Y := ite_lt (b := 161) (d := d) ha (by decide)
theorem klt161 {d : Decidable (161 < nI a)} (ha : a < 2 ^ 31) : (@ite _ (161 < nI a) d X Y) = if 161 < a then X else Y := ite_lt (a := 161) (d := d) (by decide) ha
theorem ek200 {d : Decidable (nI a = 200)} (ha : a < 2 ^ 31) : (@ite _ (nI a = 200) d X Y) = if a = 200 then X else Y := ite_eq (b := 200) (d := d) ha (by decide)
theorem lek200 {d : Decidable (nI a ≤ 200)} (ha : a < 2 ^ 31) : (@ite _ (nI a ≤ 200) d X Y) = if a ≤ 200 then X else Y := ite_le (b := 200) (d := d) ha (by decide)
theorem kle200 {d : Decidable (200 ≤ nI a)} (ha : a < 2 ^ 31) : (@ite _ (200 ≤ nI a) d X Y) = if 200 ≤ a then X else Y := ite_le (a := 200) (d := d) (by decide) ha
theorem ltk200 {d : Decidable (nI a < 200)} (ha : a < 2 ^ 31) : (@ite _ (nI a < 200) d X Y) = if a < 200 then X else Y := ite_lt (b := 200) (d := d) ha (by decide)
theorem klt200 {d : Decidable (200 < nI a)} (ha : a < 2 ^ 31) : (@ite _ (200 < nI a) d X Y) = if 200 < a then X else Y := ite_lt (a := 200) (d := d) (by decide) ha
end LITS
/-- an Int32 that is a place below n -/
def isI (a : Int32) (n : Nat) : Bool := decide (¬ a < 0 ∧ ¬ nI n ≤ a)
theorem isI_n {j n : Nat} (hj : j < 2 ^ 31) (hn : n < 2 ^ 31) : isI (nI j) n = decide (j < n) := by
  unfold isI
  by_cases h : j < n
  · rw [decide_eq_true h, decide_eq_true ⟨nI_pos hj, nI_ge h hn⟩]
  · rw [decide_eq_false h, decide_eq_false (fun z => z.2 (nI_le (by omega) hj))]
theorem isI_of {a : Int32} {n : Nat} (hn : n < 2 ^ 31) (h : isI a n = true) : ∃ j, j < n ∧ a = nI j := by
  unfold isI at h
  have h := of_decide_eq_true h
  obtain ⟨j, hj, rfl⟩ := nI_of h.1
  refine ⟨j, ?_, rfl⟩
  have := h.2
  rw [nI_leI hn hj] at this
  omega
/-- an Int32 between two numbers -/
theorem btw_of {a : Int32} {n : Nat} (hn : n < 2 ^ 31) (h0 : ¬ a < 0) (h1 : ¬ nI n < a) : ∃ j, j ≤ n ∧ a = nI j := by
  obtain ⟨j, hj, rfl⟩ := nI_of h0
  refine ⟨j, ?_, rfl⟩
  rw [nI_ltI hn hj] at h1
  omega
section TABLES
variable {N : Nat} {s : Mem} {t W M c : Nat}
/-- a table of W columns, M rows at most, c rows now -/
def TB (s : Mem) (t W M c : Nat) : Prop := rI s t 0 = nI W ∧ rI s t 1 = nI M ∧ rI s t 3 = nI c ∧ c ≤ M ∧ ln (t + 1) = W * M ∧ W ≤ 10 ∧ M ≤ 200
theorem TB.sz (h : TB s t W M c) {r k : Nat} (hr : r < c) (hk : k < W) : r * W + k < W * M ∧ W * M ≤ 2000 := by
  obtain ⟨-, -, -, h4, -, h6, h7⟩ := h
  constructor
  · calc r * W + k < r * W + W := by omega
      _ = (r + 1) * W := by rw [Nat.add_mul, Nat.one_mul]
      _ ≤ M * W := Nat.mul_le_mul_right W (by omega)
      _ = W * M := Nat.mul_comm _ _
  · calc W * M ≤ 10 * 200 := Nat.mul_le_mul h6 h7
      _ = 2000 := rfl
theorem th_has (h : TB s t W M c) (a : Int32) : f_X5_has N t a s = some (isI a c, s) := by
  unfold f_X5_has isI
  rw [h.2.2.1]
  by_cases h1 : a < 0
  · simp [h1]
  · by_cases h2 : nI c ≤ a <;> simp [h1, h2]
theorem th_hasN (h : TB s t W M c) {r : Nat} (hr : r < 2 ^ 31) : f_X5_has N t (nI r) s = some (decide (r < c), s) := by
  rw [th_has h, isI_n hr (by have := h.2.2.2.1; have := h.2.2.2.2.2.2; omega)]
theorem th_full (h : TB s t W M c) : f_X5_isFull N t s = some (decide (M ≤ c), s) := by
  have b1 := h.2.2.2.1
  have b2 := h.2.2.2.2.2.2
  unfold f_X5_isFull
  rw [h.2.2.1, h.2.1, ite_lt (by omega) (by omega)]
  by_cases h1 : c < M
  · rw [if_pos h1, decide_eq_false (by omega)]
  · rw [if_neg h1, decide_eq_true (by omega)]
theorem th_get (h : TB s t W M c) {r k : Nat} (hr : r < c) (hk : k < W) : f_X5_get N t (nI r) (nI k) s = some (rI s (t + 1) (r * W + k), s) := by
  obtain ⟨z1, z2⟩ := h.sz hr hk
  have b1 := h.2.2.2.1
  have b2 := h.2.2.2.2.2.2
  have b3 := h.2.2.2.2.2.1
  unfold f_X5_get
  rw [h.2.2.1, h.1, h.2.2.2.2.1, lt0_f (by omega), le_f (by omega) (by omega), lt0_f (by omega), lt_t hk (by omega), pk_mul, nI_add, le_f (by omega) (by omega), gin_n z1 (by omega), nI_clamp (by omega)]
theorem th_set (h : TB s t W M c) {r k : Nat} (hr : r < c) (hk : k < W) (v : Int32) : f_X5_set N t (nI r) (nI k) v s = some ((), wI s (t + 1) (r * W + k) v) := by
  obtain ⟨z1, z2⟩ := h.sz hr hk
  have b1 := h.2.2.2.1
  have b2 := h.2.2.2.2.2.2
  have b3 := h.2.2.2.2.2.1
  unfold f_X5_set
  rw [h.2.2.1, h.1, h.2.2.2.2.1, lt0_f (by omega), le_f (by omega) (by omega), lt0_f (by omega), lt_t hk (by omega), pk_mul, nI_add, le_f (by omega) (by omega), gin_n z1 (by omega), nI_clamp (by omega), lt_e]
theorem TB.setC (h : TB s t W M c) (k : Nat) (v : Int32) : TB (wI s (t + 1) k v) t W M c := by
  unfold TB at *
  simpa [rI_ne (show t ≠ t + 1 by omega)] using h
theorem TB.keep {s2 : Mem} (h : TB s t W M c) (hk : ∀ k, rI s2 t k = rI s t k) : TB s2 t W M c := by
  unfold TB at *
  simpa [hk] using h
/-- zeros from a place on -/
def zer (s : Mem) (o a : Nat) : Nat → Mem
  | 0 => s
  | n + 1 => zer (wI s o a 0) o (a + 1) n
theorem rI_zer (o k : Nat) : ∀ (n : Nat) (s : Mem) (t a : Nat), rI (zer s t a n) o k = if o = t ∧ a ≤ k ∧ k < a + n then 0 else rI s o k := by
  intro n
  induction n with
  | zero => intro s t a; rw [zer, if_neg (by omega)]
  | succ n ih =>
    intro s t a
    rw [zer, ih, rI_w]
    by_cases h1 : o = t
    · by_cases h2 : k = a
      · simp [h1, h2]
      · by_cases h3 : a ≤ k ∧ k < a + (n + 1)
        · rw [if_pos (by omega), if_pos (by omega)]
        · rw [if_neg (by omega), if_neg (by omega), if_neg (by omega)]
    · simp [h1]
theorem rL_zer (o k : Nat) : ∀ (n : Nat) (s : Mem) (t a : Nat), rL (zer s t a n) o k = rL s o k := by
  intro n
  induction n with
  | zero => intro s t a; rfl
  | succ n ih => intro s t a; rw [zer, ih]; rfl
theorem th_addL (hW : W ≤ 10) (hM : M ≤ 200) (hln : ln (t + 1) = W * M) (v1 : Int32) : ∀ (d a n : Nat) (s : Mem), rI s t 0 = nI W → rI s t 3 = nI (c + 1) → c < M → a + d = (c + 1) * W → d < n → f_X5_add_L43 N t n v1 (nI a) s = some (v1, zer s (t + 1) a d) := by
  have hWM : W * M ≤ 2000 := Nat.mul_le_mul hW hM
  intro d
  induction d with
  | zero =>
    intro a n s h0 h3 hc ha hn
    obtain ⟨n, rfl⟩ : ∃ m, n = m + 1 := ⟨n - 1, by omega⟩
    have hb : (c + 1) * W ≤ W * M := by rw [Nat.mul_comm W M]; exact Nat.mul_le_mul_right W (by omega)
    unfold f_X5_add_L43
    rw [h0, h3, pk_mul, le_t (by omega) (by omega)]
    rfl
  | succ d ih =>
    intro a n s h0 h3 hc ha hn
    obtain ⟨n, rfl⟩ : ∃ m, n = m + 1 := ⟨n - 1, by omega⟩
    have hb : (c + 1) * W ≤ W * M := by rw [Nat.mul_comm W M]; exact Nat.mul_le_mul_right W (by omega)
    unfold f_X5_add_L43
    rw [h0, h3, pk_mul, le_f (by omega) (by omega), hln, le_f (by omega) (by omega), gin_n (by omega) (by omega), lt_e, nI_clamp (by omega), nI_1]
    rw [ih (a + 1) n _ (by rw [rI_ne (by omega)]; exact h0) (by rw [rI_ne (by omega)]; exact h3) hc (by omega) (by omega)]
    rfl
def addM (s : Mem) (t W c : Nat) : Mem := zer (wI s t 3 (nI (c + 1))) (t + 1) (c * W) W
theorem th_add (h : TB s t W M c) (hc : c < M) (hN : 20 ≤ N) : f_X5_add N t s = some (nI c, addM s t W c) := by
  have b1 := h.2.2.2.1
  have b2 := h.2.2.2.2.2.2
  have b3 := h.2.2.2.2.2.1
  unfold f_X5_add
  rw [h.2.2.1, h.2.1, lt0_f (by omega), lt_t hc (by omega), lt_e, nI_1, rI_w, if_neg (by omega), h.1, pk_mul]
  exact th_addL b3 b2 h.2.2.2.2.1 _ W (c * W) N _ (by rw [rI_w, if_neg (by omega)]; exact h.1) (by rw [rI_w, if_pos ⟨rfl, rfl⟩]) hc (by rw [Nat.add_mul, Nat.one_mul]) (by omega)
theorem TB.addT (h : TB s t W M c) (hc : c < M) : TB (addM s t W c) t W M (c + 1) := by
  obtain ⟨h1, h2, h3, h4, h5, h6, h7⟩ := h
  refine ⟨?_, ?_, ?_, hc, h5, h6, h7⟩
  · rw [addM, rI_zer, if_neg (by omega), rI_w, if_neg (by omega), h1]
  · rw [addM, rI_zer, if_neg (by omega), rI_w, if_neg (by omega), h2]
  · rw [addM, rI_zer, if_neg (by omega), rI_w, if_pos ⟨rfl, rfl⟩]
theorem rI_addM {o k : Nat} : rI (addM s t W c) o k = if o = t + 1 ∧ c * W ≤ k ∧ k < c * W + W then 0 else if o = t ∧ k = 3 then nI (c + 1) else rI s o k := by
  rw [addM, rI_zer, rI_w]
theorem rL_addM {o k : Nat} : rL (addM s t W c) o k = rL s o k := by
  rw [addM, rL_zer]
  rfl
end TABLES
section SMALL
variable {N : Nat} {s : Mem}
theorem e_in (a b c : Int32) : f_X9_in N a b c s = some (decide (¬ a < b ∧ ¬ c < a), s) := by
  unfold f_X9_in
  by_cases h1 : a < b
  · simp [h1]
  · by_cases h2 : c < a <;> simp [h1, h2]
theorem e_within (a b c : Int32) : f_X8_isWithin N a b c s = some (decide (¬ a < b ∧ ¬ c < a), s) := by
  unfold f_X8_isWithin
  by_cases h1 : a < b
  · simp [h1]
  · by_cases h2 : c < a <;> simp [h1, h2]
theorem e_isYear (a : Int32) : f_X8_isYear N a s = some (decide (¬ a < 0 ∧ ¬ (160 : Int32) < a), s) := by
  unfold f_X8_isYear
  rw [e_within, bnd_s]
theorem e_isYearM (a : Int32) : f_X9_isYear N a s = some (decide (¬ a < 0 ∧ ¬ (160 : Int32) < a), s) := by
  unfold f_X9_isYear
  rw [e_in, bnd_s]
theorem e_isHouse (a : Int32) : f_X8_isHouse N a s = some (decide (¬ a < 0 ∧ ¬ (5 : Int32) < a), s) := by
  unfold f_X8_isHouse
  rw [e_within, bnd_s]
theorem e_isSheet (a : Int32) : f_X8_isSheet N a s = some (decide (¬ a < 0 ∧ ¬ (3 : Int32) < a), s) := by
  unfold f_X8_isSheet
  rw [e_within, bnd_s]
theorem e_isSort (a : Int32) : f_X8_isSort N a s = some (decide (¬ a < 0 ∧ ¬ (3 : Int32) < a), s) := by
  unfold f_X8_isSort
  rw [e_within, bnd_s]
theorem e_isShelf (a : Int32) : f_X9_isShelf N a s = some (decide (¬ a < 0 ∧ ¬ (3 : Int32) < a), s) := by
  unfold f_X9_isShelf
  rw [e_in, bnd_s]
theorem e_bit {k : Nat} : f_X8_bit N (nI k) s = some ((1 : Int32) <<< (nI k &&& 31), s) := rfl
theorem e_clear {t : Nat} : f_X5_clear N t s = some ((), wI s t 3 0) := rfl
end SMALL
