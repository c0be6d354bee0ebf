-- both sides as they are made
def v0 : VB := (fun j => if j = 2 then 17 else 0, fun j _ _ => if j = 2 then 100 else 0)
theorem ln_b1 : ∀ j, j < 7 → ln (1 + 1 + 2 * j + 1) = Wd j * Mx j ∧ ln (16 + 1 + 2 * j + 1) = Wd j * Mx j := by decide
section FIRST
variable {c m : Mem}
theorem rcb_0 {b : Nat} {s : Mem} (k : BK s) (hb : b = 1 ∨ b = 16) (h : ∀ o i, b ≤ o → o ≤ b + 14 → rI c o i = rI s (o - (b - 1)) i) : RCb c b v0 := by
  obtain ⟨k1, k2, k3⟩ := k
  have b1 : 1 ≤ b := by omega
  refine ⟨fun j hj => ⟨?_, fun r i hr hi => ?_⟩, ?_⟩
  · have e : ∀ i, rI c (b + 1 + 2 * j) i = rI s (2 + 2 * j) i := fun i => by rw [h _ _ (by omega) (by omega), show b + 1 + 2 * j - (b - 1) = 2 + 2 * j by omega]
    have el : ln (b + 1 + 2 * j + 1) = Wd j * Mx j := by
      have := ln_b1 j hj
      rcases hb with rfl | rfl
      · exact this.1
      · exact this.2
    obtain ⟨t1, t2, t3, t4, t5, t6, t7⟩ := k1 j hj
    exact ⟨by rw [e]; exact t1, by rw [e]; exact t2, by rw [e]; exact t3, t4, el, t6, t7⟩
  · have hr' : r < (if j = 2 then 17 else 0) := hr
    by_cases z : j = 2
    · subst z
      rw [if_pos rfl] at hr'
      have hi' : i < 1 := hi
      obtain rfl : i = 0 := by omega
      show rI c (b + 1 + 2 * 2 + 1) (r * 1 + 0) = nI 100
      rw [h _ _ (by omega) (by omega), show b + 1 + 2 * 2 + 1 - (b - 1) = 7 by omega, show r * 1 + 0 = r by omega, k2 r hr']; rfl
    · rw [if_neg z] at hr'; omega
  · rw [h _ _ (by omega) (by omega), show b - (b - 1) = 1 by omega]; exact k3
theorem first_R (hc : EP c) (hm : MP m) : Rv c m v0 v0 := by
  obtain ⟨⟨s1, k1, e1⟩, ⟨s2, k2, e2⟩, ⟨sh1, sh2⟩, eC, eL⟩ := hc
  obtain ⟨p64, p79, p0, pL⟩ := hm
  have M : ∀ o k, o ≠ 64 → o ≠ 79 → o ≠ 82 → rI m o k = nI 0 := p0
  have rc := rcb_0 (c := c) (b := 1) k1 (Or.inl rfl) (fun o i h1 h2 => by rw [e1 o i h1 h2]; congr 1)
  have rk := rcb_0 (c := c) (b := 16) k2 (Or.inr rfl) (fun o i h1 h2 => e2 o i h1 h2)
  refine ⟨rc, ⟨⟨M _ _ (by decide) (by decide) (by decide), fun r hr => absurd hr (Nat.not_lt_zero _)⟩, ⟨M _ _ (by decide) (by decide) (by decide), fun r hr => absurd hr (Nat.not_lt_zero _)⟩, fun k hk => p64 k hk, ⟨M _ _ (by decide) (by decide) (by decide), fun q hq => absurd hq (Nat.not_lt_zero _), fun x y hx => absurd hx (Nat.not_lt_zero _)⟩, ⟨M _ _ (by decide) (by decide) (by decide), fun r hr => absurd hr (Nat.not_lt_zero _)⟩, ⟨M _ _ (by decide) (by decide) (by decide), fun r hr => absurd hr (Nat.not_lt_zero _)⟩, ⟨M _ _ (by decide) (by decide) (by decide), fun r hr => absurd hr (Nat.not_lt_zero _), Nat.zero_le _, fun k hk => absurd hk (Nat.not_lt_zero _), fun r hr => absurd hr (Nat.not_lt_zero _), fun k hk => absurd hk (Nat.not_lt_zero _)⟩⟩, ⟨fun r hr => absurd hr (Nat.not_lt_zero _), fun r hr => absurd hr (Nat.not_lt_zero _), ⟨rfl, fun r hr => Nat.le_refl 100⟩, fun r hr => absurd hr (Nat.not_lt_zero _), fun r hr => absurd hr (Nat.not_lt_zero _), fun p => Nat.zero_le _, Nat.zero_le _, Nat.zero_le _, Nat.zero_le _, Nat.zero_le _, Nat.zero_le _, Nat.zero_le _, Nat.zero_le _⟩, ⟨false, by rw [eC 0 2 (by omega) (by decide) (by decide)]; rfl, M _ _ (by decide) (by decide) (by decide), rk, fun h => by cases h⟩, ⟨0, Nat.zero_le _, by rw [eC 43 1 (by omega) (by decide) (by decide)]; rfl, M _ _ (by decide) (by decide) (by decide), fun k hk => absurd hk (Nat.not_lt_zero _)⟩, ⟨0, ⟨by rw [eC 45 0 (by omega) (by decide) (by decide)]; rfl, by rw [eC 45 1 (by omega) (by decide) (by decide)]; rfl, by rw [eC 45 3 (by omega) (by decide) (by decide)]; rfl, by decide, rfl, by decide, by decide⟩, M _ _ (by decide) (by decide) (by decide), fun r k hr => absurd hr (Nat.not_lt_zero _)⟩, fun j hj => ?_, ⟨sh1, fun j hj => Or.inl ⟨sh2 j hj, (p79 j hj).2⟩⟩, ⟨0, Nat.zero_le _, by rw [eC 59 1 (by omega) (by decide) (by decide)]; rfl, M _ _ (by decide) (by decide) (by decide), fun k hk => absurd hk (Nat.not_lt_zero _)⟩, by rw [eC 37 0 (by omega) (by decide) (by decide)]; rfl, by rw [eC 37 1 (by omega) (by decide) (by decide)]; rfl, by rw [eC 39 0 (by omega) (by decide) (by decide)]; rfl, by rw [eC 39 1 (by omega) (by decide) (by decide)]; rfl, 0, by decide, by rw [eC 36 6 (by omega) (by decide) (by decide)]; rfl⟩
  refine ⟨0, 0, Or.inl ⟨rfl, rfl⟩, ?_, (p79 j hj).1, ?_, M _ _ (by decide) (by decide) (by decide), fun i hi => ?_⟩
  · rw [eC (48 + 2 * j) 1 (by omega) (by omega) (by omega)]
    have cs : j = 0 ∨ j = 1 ∨ j = 2 ∨ j = 3 := by omega
    rcases cs with rfl | rfl | rfl | rfl <;> rfl
  · rw [eC (48 + 2 * j) 2 (by omega) (by omega) (by omega)]
    have cs : j = 0 ∨ j = 1 ∨ j = 2 ∨ j = 3 := by omega
    rcases cs with rfl | rfl | rfl | rfl <;> rfl
  · rw [pL, eC (48 + 2 * j + 1) i (by omega) (by omega) (by omega)]
    have cs : j = 0 ∨ j = 1 ∨ j = 2 ∨ j = 3 := by omega
    rcases cs with rfl | rfl | rfl | rfl <;> rfl
end FIRST
