section NEXT2
variable {N : Nat} {c m : Mem} {q : Nat} {B : Nat → Nat}
/-- the class's token at f, and the number that it tells -/
def tokC (B : Nat → Nat) (q f : Nat) : Nat := if f = q then 0 else if isLe (B f) = true then tokW B f (tkE B q f - f) else if isDi (B f) = true then (if tkE B q f - f ≤ 3 then 1 else 20) else tokS (B f)
theorem c_sign (t : TAP c m q B) (h3 : rI c 36 3 = 1) {f : Nat} (h4 : rI c 36 4 = nI f) (hf : f < q) : f_X7_signToken N c = some (nI (tokS (B f)), c) := by
  have hb := (t.2.2.2 f hf).1
  have e40 : ∀ X Y : Option (Int32 × Mem), (if nI (B f) = 40 then X else Y) = if B f = 40 then X else Y := fun X Y => ite_eq (b := 40) (by omega) (by decide)
  have e41 : ∀ X Y : Option (Int32 × Mem), (if nI (B f) = 41 then X else Y) = if B f = 41 then X else Y := fun X Y => ite_eq (b := 41) (by omega) (by decide)
  have e59 : ∀ X Y : Option (Int32 × Mem), (if nI (B f) = 59 then X else Y) = if B f = 59 then X else Y := fun X Y => ite_eq (b := 59) (by omega) (by decide)
  have e60 : ∀ X Y : Option (Int32 × Mem), (if nI (B f) = 60 then X else Y) = if B f = 60 then X else Y := fun X Y => ite_eq (b := 60) (by omega) (by decide)
  have e61 : ∀ X Y : Option (Int32 × Mem), (if nI (B f) = 61 then X else Y) = if B f = 61 then X else Y := fun X Y => ite_eq (b := 61) (by omega) (by decide)
  have e62 : ∀ X Y : Option (Int32 × Mem), (if nI (B f) = 62 then X else Y) = if B f = 62 then X else Y := fun X Y => ite_eq (b := 62) (by omega) (by decide)
  unfold f_X7_signToken tokS
  rw [h4, e_byte t h3 hf, bnd_s, e40, e41, e59, e60, e61, e62]
  by_cases z0 : B f = 40
  · rw [if_pos z0, if_pos z0]; rfl
  · rw [if_neg z0, if_neg z0]
    by_cases z1 : B f = 41
    · rw [if_pos z1, if_pos z1]; rfl
    · rw [if_neg z1, if_neg z1]
      by_cases z2 : B f = 59
      · rw [if_pos z2, if_pos z2]; rfl
      · rw [if_neg z2, if_neg z2]
        by_cases z3 : B f = 60
        · rw [if_pos z3, if_pos z3]; rfl
        · rw [if_neg z3, if_neg z3]
          by_cases z4 : B f = 61
          · rw [if_pos z4, if_pos z4]; rfl
          · rw [if_neg z4, if_neg z4]
            by_cases z5 : B f = 62
            · rw [if_pos z5, if_pos z5]; rfl
            · rw [if_neg z5, if_neg z5]; rfl
end NEXT2
