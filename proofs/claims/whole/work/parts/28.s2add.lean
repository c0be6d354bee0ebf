-- new rows
theorem tb_addN (v : VB) (j k : Nat) (row : Nat → Nat) : tb (addR v j row) j (cnt v j) k = row k := by rw [tb_addR, if_pos ⟨rfl, rfl⟩]
theorem tb_addO {v : VB} {j r k : Nat} {row : Nat → Nat} (h : ¬ r = cnt v j) : tb (addR v j row) j r k = tb v j r k := by rw [tb_addR, if_neg (fun z => h z.2)]
theorem IV.addN {v : VB} (hv : IV v) {row : Nat → Nat} (h9 : cnt v 0 < 10) (hr : row 0 ≤ 5 ∧ row 1 ≤ 9 ∧ row 2 ≤ 1 ∧ row 3 ≤ 161) : IV (addR v 0 row) := by
  obtain ⟨h0, h1, h2, h3, h4, h5, h6, h7, h8⟩ := hv
  refine ⟨fun q hq => ?_, fun q hq => ?_, h2, fun q hq => ?_, fun q hq => ?_, fun p => ?_, h6, ?_, h8⟩
  · rw [cnt_addR, if_pos rfl] at hq
    by_cases z : q = cnt v 0
    · subst z; simp only [tb_addN]; exact hr
    · simp only [tb_addO z]; exact h0 q (by omega)
  · have := h1 q hq
    exact ⟨by show _ < cnt v 0 + 1; exact Nat.lt_succ_of_lt this.1, this.2⟩
  · have := h3 q hq
    exact ⟨by show _ < cnt v 0 + 1; exact Nat.lt_succ_of_lt this.1, this.2⟩
  · have := h4 q hq
    exact ⟨by show _ < cnt v 0 + 1; exact Nat.lt_succ_of_lt this.1, this.2⟩
  · show ofP _ _ (cnt v 1) ≤ 6
    rw [ofP_c (v := v) p _ (fun r _ => by rw [tb_addR, if_neg (by omega)])]; exact h5 p
  · show cnt v 0 + 1 ≤ 10; omega
theorem IV.addD {v : VB} (hv : IV v) {row : Nat → Nat} (h9 : cnt v 3 < 20) (hr : row 0 < cnt v 0 ∧ row 1 ≤ row 2 ∧ row 2 ≤ 160 ∧ 1 ≤ row 3 ∧ row 3 ≤ 99) : IV (addR v 3 row) := by
  obtain ⟨h0, h1, h2, h3, h4, h5, h6, h7, h8, h10, h11⟩ := hv
  refine ⟨h0, h1, h2, fun q hq => ?_, h4, fun p => ?_, h6, h7, h8, ?_, h11⟩
  · rw [cnt_addR, if_pos rfl] at hq
    by_cases z : q = cnt v 3
    · subst z; simp only [tb_addN]; exact hr
    · simp only [tb_addO z]; exact h3 q (by omega)
  · show ofP _ _ (cnt v 1) ≤ 6
    rw [ofP_c (v := v) p _ (fun r _ => by rw [tb_addR, if_neg (by omega)])]; exact h5 p
  · show cnt v 3 + 1 ≤ 20; omega
theorem IV.addQ {v : VB} (hv : IV v) {row : Nat → Nat} (h9 : cnt v 4 < 8) (hr : row 0 < cnt v 0 ∧ row 1 ≤ 160 ∧ (1 ≤ row 2 ∧ row 2 ≤ 99) ∧ row 3 ≤ 2) : IV (addR v 4 row) := by
  obtain ⟨h0, h1, h2, h3, h4, h5, h6, h7, h8, h10, h11, h12⟩ := hv
  refine ⟨h0, h1, h2, h3, fun q hq => ?_, fun p => ?_, h6, h7, h8, h10, ?_, h12⟩
  · rw [cnt_addR, if_pos rfl] at hq
    by_cases z : q = cnt v 4
    · subst z; simp only [tb_addN]; exact hr
    · simp only [tb_addO z]; exact h4 q (by omega)
  · show ofP _ _ (cnt v 1) ≤ 6
    rw [ofP_c (v := v) p _ (fun r _ => by rw [tb_addR, if_neg (by omega)])]; exact h5 p
  · show cnt v 4 + 1 ≤ 8; omega
theorem IV.addP {v : VB} (hv : IV v) {row : Nat → Nat} (h9 : cnt v 1 < 30) (ho : ofP v (row 0) (cnt v 1) < 6) (hr : row 0 < cnt v 0 ∧ (1 ≤ row 1 ∧ row 1 ≤ 7) ∧ row 2 ≤ 160 ∧ row 3 ≤ 160 ∧ row 4 ≤ 99 ∧ row 5 ≤ cnt v 1 ∧ row 6 = 0) : IV (addR v 1 row) := by
  obtain ⟨h0, h1, h2, h3, h4, h5, h6, h7, h8, h10⟩ := hv
  have hp : 2 ^ cnt v 1 < 2 ^ (cnt v 1 + 1) := Nat.pow_lt_pow_right (by decide) (by omega)
  refine ⟨h0, fun q hq => ?_, h2, h3, h4, fun p => ?_, h6, h7, ?_, h10⟩
  · rw [cnt_addR, if_pos rfl] at hq
    have e0 : cnt (addR v 1 row) 0 = cnt v 0 := rfl
    have e1 : cnt (addR v 1 row) 1 = cnt v 1 + 1 := rfl
    rw [e0, e1]
    by_cases z : q = cnt v 1
    · subst z; simp only [tb_addN]
      refine ⟨hr.1, hr.2.1, hr.2.2.1, hr.2.2.2.1, hr.2.2.2.2.1, by omega, by rw [hr.2.2.2.2.2.2]; exact Nat.two_pow_pos _⟩
    · simp only [tb_addO z]
      have := h1 q (by omega)
      exact ⟨this.1, this.2.1, this.2.2.1, this.2.2.2.1, this.2.2.2.2.1, by omega, Nat.lt_trans this.2.2.2.2.2.2 hp⟩
  · show ofP _ _ (cnt v 1 + 1) ≤ 6
    rw [ofP, ofP_c (v := v) p _ (fun r hr => by rw [tb_addR, if_neg (by omega)]), tb_addN]
    have := h5 p
    split
    · next e => rw [e] at ho; omega
    · omega
  · show cnt v 1 + 1 ≤ 30; omega
theorem RCb_add {c c2 : Mem} {v : VB} (h : RCb c 1 v) {j : Nat} {row : Nat → Nat} (hj : j < 7) (hf : cnt v j < Mx j) (hp : ∀ o k, rI c2 o k = if o = 1 + 1 + 2 * j + 1 ∧ cnt v j * Wd j ≤ k ∧ k < cnt v j * Wd j + Wd j then enc j (k - cnt v j * Wd j) (row (k - cnt v j * Wd j)) else if o = 1 + 1 + 2 * j ∧ k = 3 then nI (cnt v j + 1) else rI c o k) : RCb c2 1 (addR v j row) := by
  obtain ⟨t1, t2, t3, t4, t5, t6, t7⟩ := h.T hj
  refine RCb_addR h hj ⟨?_, ?_, ?_, hf, t5, t6, t7⟩ (fun k hk => ?_) (fun r k hr hk => ?_) (fun o k h1 h2 h3 h4 => ?_)
  · rw [hp, if_neg (by omega), if_neg (by omega)]; exact t1
  · rw [hp, if_neg (by omega), if_neg (by omega)]; exact t2
  · rw [hp, if_neg (by omega), if_pos ⟨rfl, rfl⟩]
  · rw [hp, if_pos ⟨rfl, by omega, by omega⟩, Nat.add_sub_cancel_left]
  · have hrw : r * Wd j + Wd j ≤ cnt v j * Wd j := by
      rw [← Nat.succ_mul]; exact Nat.mul_le_mul_right _ hr
    rw [hp, if_neg (by omega), if_neg (by omega)]
  · rw [hp, if_neg (by omega), if_neg (by omega)]
theorem hp4 {c : Mem} (t n : Nat) (e : Nat → Int32) : ∀ o k, rI (wI (wI (wI (wI (addM c t 4 n) (t + 1) (n * 4 + 0) (e 0)) (t + 1) (n * 4 + 1) (e 1)) (t + 1) (n * 4 + 2) (e 2)) (t + 1) (n * 4 + 3) (e 3)) o k = if o = t + 1 ∧ n * 4 ≤ k ∧ k < n * 4 + 4 then e (k - n * 4) else if o = t ∧ k = 3 then nI (n + 1) else rI c o k := by
  intro o k
  rw [rI_w, rI_w, rI_w, rI_w, rI_addM]
  by_cases z : o = t + 1 ∧ n * 4 ≤ k ∧ k < n * 4 + 4
  · obtain ⟨z1, z2, z3⟩ := z
    obtain ⟨i, rfl⟩ : ∃ i, k = n * 4 + i := ⟨k - n * 4, by omega⟩
    refine Eq.trans ?_ (if_pos ⟨z1, z2, z3⟩).symm
    rw [Nat.add_sub_cancel_left]
    by_cases q3 : i = 3
    · rw [if_pos (by omega), q3]
    · rw [if_neg (by omega)]
      by_cases q2 : i = 2
      · rw [if_pos (by omega), q2]
      · rw [if_neg (by omega)]
        by_cases q1 : i = 1
        · rw [if_pos (by omega), q1]
        · rw [if_neg (by omega), if_pos (by omega), show i = 0 by omega]
  · rw [if_neg (by omega), if_neg (by omega), if_neg (by omega), if_neg (by omega), if_neg z, if_neg z]
theorem hp7 {c : Mem} (t n : Nat) (e : Nat → Int32) (h6 : e 6 = 0) : ∀ o k, rI (wI (wI (wI (wI (wI (wI (addM c t 7 n) (t + 1) (n * 7 + 0) (e 0)) (t + 1) (n * 7 + 1) (e 1)) (t + 1) (n * 7 + 2) (e 2)) (t + 1) (n * 7 + 3) (e 3)) (t + 1) (n * 7 + 4) (e 4)) (t + 1) (n * 7 + 5) (e 5)) o k = if o = t + 1 ∧ n * 7 ≤ k ∧ k < n * 7 + 7 then e (k - n * 7) else if o = t ∧ k = 3 then nI (n + 1) else rI c o k := by
  intro o k
  rw [rI_w, rI_w, rI_w, rI_w, rI_w, rI_w, rI_addM]
  by_cases z : o = t + 1 ∧ n * 7 ≤ k ∧ k < n * 7 + 7
  · obtain ⟨z1, z2, z3⟩ := z
    obtain ⟨i, rfl⟩ : ∃ i, k = n * 7 + i := ⟨k - n * 7, by omega⟩
    refine Eq.trans ?_ (if_pos ⟨z1, z2, z3⟩).symm
    rw [Nat.add_sub_cancel_left]
    by_cases q5 : i = 5
    · rw [if_pos (by omega), q5]
    · rw [if_neg (by omega)]
      by_cases q4 : i = 4
      · rw [if_pos (by omega), q4]
      · rw [if_neg (by omega)]
        by_cases q3 : i = 3
        · rw [if_pos (by omega), q3]
        · rw [if_neg (by omega)]
          by_cases q2 : i = 2
          · rw [if_pos (by omega), q2]
          · rw [if_neg (by omega)]
            by_cases q1 : i = 1
            · rw [if_pos (by omega), q1]
            · rw [if_neg (by omega)]
              by_cases q0 : i = 0
              · rw [if_pos (by omega), q0]
              · rw [if_neg (by omega), show i = 6 by omega, h6]
                rw [if_pos (by omega)]
  · rw [if_neg (by omega), if_neg (by omega), if_neg (by omega), if_neg (by omega), if_neg (by omega), if_neg (by omega), if_neg z, if_neg z]
theorem K4.add {a b : Nat → Int32} {n : Int32} {c : Nat} {t u : Nat → Nat → Nat} {row : Nat → Nat} (h : K4 n a c t) (h1 : ∀ i, i < 4 * c → b i = a i) (h2 : ∀ k, k < 4 → b (4 * c + k) = nI (row k)) (h3 : ∀ r k, r < c → u r k = t r k) (h4 : ∀ k, u c k = row k) : K4 (nI (c + 1)) b (c + 1) u := by
  refine ⟨rfl, fun r hr k hk => ?_⟩
  by_cases z : r = c
  · rw [z, h2 k hk, h4]
  · rw [h1 _ (by omega), h3 _ _ (by omega)]; exact h.2 r (by omega) k hk
theorem K0.add {a b : Nat → Int32} {n : Int32} {c : Nat} {t u : Nat → Nat → Nat} {row : Nat → Nat} (h : K0 n a c t) (h1 : ∀ i, i < 4 * c → b i = a i) (h2 : ∀ k, k < 3 → b (4 * c + k) = nI (row k)) (h2' : b (4 * c + 3) = trM (row 3)) (h3 : ∀ r k, r < c → u r k = t r k) (h4 : ∀ k, u c k = row k) : K0 (nI (c + 1)) b (c + 1) u := by
  refine ⟨rfl, fun r hr => ?_⟩
  by_cases z : r = c
  · rw [z]
    exact ⟨fun k hk => by rw [h2 k hk, h4], by rw [h2', h4]⟩
  · exact ⟨fun k hk => by rw [h1 _ (by omega), h3 _ _ (by omega)]; exact (h.2 r (by omega)).1 k hk, by rw [h1 _ (by omega), h3 _ _ (by omega)]; exact (h.2 r (by omega)).2⟩
theorem K1.add {a b : Nat → Int32} {n : Int32} {c : Nat} {t u : Nat → Nat → Nat} {row : Nat → Nat} (h : K1 n a c t) (h1 : ∀ i, i < 6 * c → b i = a i) (h2 : ∀ k, k < 5 → b (6 * c + k) = nI (row k)) (h2' : b (6 * c + 5) = trM (row 5)) (h3 : ∀ r k, r < c → u r k = t r k) (h4 : ∀ k, u c k = row k) : K1 (nI (c + 1)) b (c + 1) u := by
  refine ⟨rfl, fun r hr => ?_⟩
  by_cases z : r = c
  · rw [z]
    exact ⟨fun k hk => by rw [h2 k hk, h4], by rw [h2', h4]⟩
  · exact ⟨fun k hk => by rw [h1 _ (by omega), h3 _ _ (by omega)]; exact (h.2 r (by omega)).1 k hk, by rw [h1 _ (by omega), h3 _ _ (by omega)]; exact (h.2 r (by omega)).2⟩
theorem K3.add {n : Int32} {a : Nat → Int32} {c e : Nat} {t u : Nat → Nat → Nat} (h : K3 n a c e t) (h3 : ∀ r, r < e → u r 6 = t r 6) (h4 : u e 6 = 0) : K3 n a c (e + 1) u := by
  refine ⟨h.1, fun q hq => ?_, fun x y h1 h2 => ?_⟩
  · obtain ⟨x, y, g1, g2, g3, g4, g5, g6⟩ := h.2.1 q hq
    exact ⟨x, y, by omega, by omega, g3, g4, g5, by rw [h3 x g1]; exact g6⟩
  · by_cases z : x = e
    · rw [z, h4, Nat.zero_testBit] at h2; exact absurd h2 (by decide)
    · rw [h3 x (by omega)] at h2; exact h.2.2 x y (by omega) h2
/-- a new row of four numbers at the end of an array, then the count -/
def addA (m : Mem) (o f n : Nat) (e : Nat → Int32) : Mem := wI (wI (wI (wI (wI m o (4 * n + 0) (e 0)) o (4 * n + 1) (e 1)) o (4 * n + 2) (e 2)) o (4 * n + 3) (e 3)) 61 f (nI (n + 1))
theorem rI_addA {m : Mem} {o f n : Nat} {e : Nat → Int32} (ho : o ≠ 61) (o2 k : Nat) : rI (addA m o f n e) o2 k = if o2 = o ∧ 4 * n ≤ k ∧ k < 4 * n + 4 then e (k - 4 * n) else if o2 = 61 ∧ k = f then nI (n + 1) else rI m o2 k := by
  unfold addA
  rw [rI_w, rI_w, rI_w, rI_w, rI_w]
  by_cases z : o2 = o ∧ 4 * n ≤ k ∧ k < 4 * n + 4
  · obtain ⟨z1, z2, z3⟩ := z
    obtain ⟨i, rfl⟩ : ∃ i, k = 4 * n + i := ⟨k - 4 * n, by omega⟩
    rw [if_neg (by omega), if_pos (c := o2 = o ∧ 4 * n ≤ 4 * n + i ∧ 4 * n + i < 4 * n + 4) ⟨z1, z2, z3⟩, Nat.add_sub_cancel_left]
    by_cases q3 : i = 3
    · rw [if_pos (by omega), q3]
    · rw [if_neg (by omega)]
      by_cases q2 : i = 2
      · rw [if_pos (by omega), q2]
      · rw [if_neg (by omega)]
        by_cases q1 : i = 1
        · rw [if_pos (by omega), q1]
        · rw [if_neg (by omega), if_pos (by omega), show i = 0 by omega]
  · by_cases y : o2 = 61 ∧ k = f
    · rw [if_pos y, if_neg z, if_pos y]
    · rw [if_neg y, if_neg z, if_neg y, if_neg (by omega), if_neg (by omega), if_neg (by omega), if_neg (by omega)]
theorem th_s0 {N : Nat} {s : Mem} {t W M c r : Nat} (h : TB s t W M c) (hr : r < c) (hk : 0 < W) (x : Int32) : f_X5_set N t (nI r) 0 x s = some ((), wI s (t + 1) (r * W + 0) x) := th_set h hr hk x
theorem th_s1 {N : Nat} {s : Mem} {t W M c r : Nat} (h : TB s t W M c) (hr : r < c) (hk : 1 < W) (x : Int32) : f_X5_set N t (nI r) 1 x s = some ((), wI s (t + 1) (r * W + 1) x) := th_set h hr hk x
theorem th_s2 {N : Nat} {s : Mem} {t W M c r : Nat} (h : TB s t W M c) (hr : r < c) (hk : 2 < W) (x : Int32) : f_X5_set N t (nI r) 2 x s = some ((), wI s (t + 1) (r * W + 2) x) := th_set h hr hk x
theorem th_s3 {N : Nat} {s : Mem} {t W M c r : Nat} (h : TB s t W M c) (hr : r < c) (hk : 3 < W) (x : Int32) : f_X5_set N t (nI r) 3 x s = some ((), wI s (t + 1) (r * W + 3) x) := th_set h hr hk x
theorem th_s4 {N : Nat} {s : Mem} {t W M c r : Nat} (h : TB s t W M c) (hr : r < c) (hk : 4 < W) (x : Int32) : f_X5_set N t (nI r) 4 x s = some ((), wI s (t + 1) (r * W + 4) x) := th_set h hr hk x
theorem th_s5 {N : Nat} {s : Mem} {t W M c r : Nat} (h : TB s t W M c) (hr : r < c) (hk : 5 < W) (x : Int32) : f_X5_set N t (nI r) 5 x s = some ((), wI s (t + 1) (r * W + 5) x) := th_set h hr hk x
section OPS3
variable {N : Nat} {c m : Mem} {v vk : VB}
theorem cvA {m : Mem} {o f n : Nat} {e : Nat → Int32} (ho : o ≠ 61) {j : Nat} : cvL (addA m o f n e) j = if ([0, 2, 5, 7, 9, 11] : List Nat).getD j 0 = f then nI (n + 1) else cvL m j := by
  show rI _ _ _ = _
  rw [rI_addA ho, if_neg (by omega)]
  by_cases z : ([0, 2, 5, 7, 9, 11] : List Nat).getD j 0 = f
  · rw [if_pos ⟨rfl, z⟩, if_pos z]
  · rw [if_neg (fun q => z q.2), if_neg z]; rfl
theorem avA {m : Mem} {o f n : Nat} {e : Nat → Int32} (ho : o ≠ 61) {j : Nat} (h : 62 + j ≠ o) : avL (addA m o f n e) j = avL m j := by
  funext i
  show rI _ _ _ = _
  rw [rI_addA ho, if_neg (by omega), if_neg (by omega)]; rfl
theorem avB {m : Mem} {o f n : Nat} {e : Nat → Int32} {j : Nat} (h : 62 + j = o) (i : Nat) : avL (addA m o f n e) j i = if 4 * n ≤ i ∧ i < 4 * n + 4 then e (i - 4 * n) else avL m j i := by
  show rI _ _ _ = _
  rw [rI_addA (by omega)]
  by_cases z : 4 * n ≤ i ∧ i < 4 * n + 4
  · rw [if_pos ⟨h, z⟩, if_pos z]
  · rw [if_neg (fun q => z q.2), if_neg (by omega), if_neg z]; rfl
theorem RMl_add0 (h : RMl m v) {row : Nat → Nat} {e : Nat → Int32} (he : ∀ k, k < 3 → e k = nI (row k)) (he3 : e 3 = trM (row 3)) : RMl (addA m 62 0 (cnt v 0) e) (addR v 0 row) := by
  obtain ⟨h0, h1, h2, h3, h4, h5, h6⟩ := RMl_i.mp h
  refine RMl_i.mpr ?_
  rw [cvA (j := 0) (by decide), cvA (j := 1) (by decide), cvA (j := 2) (by decide), cvA (j := 3) (by decide), cvA (j := 4) (by decide), cvA (j := 5) (by decide), avA (j := 1) (by decide) (by decide), avA (j := 2) (by decide) (by decide), avA (j := 3) (by decide) (by decide), avA (j := 4) (by decide) (by decide), avA (j := 5) (by decide) (by decide), avA (j := 6) (by decide) (by decide), avA (j := 7) (by decide) (by decide), avA (j := 8) (by decide) (by decide)]
  refine ⟨h0.add (row := row) (fun i hi => ?_) (fun k hk => ?_) ?_ (fun r k hr => ?_) (fun k => ?_), h1, h2, h3, h4, h5, h6⟩
  · rw [avB (j := 0) (o := 62) rfl, if_neg (by omega)]
  · rw [avB (j := 0) (o := 62) rfl, if_pos (by omega), Nat.add_sub_cancel_left, he k hk]
  · rw [avB (j := 0) (o := 62) rfl, if_pos (by omega), Nat.add_sub_cancel_left, he3]
  · rw [tb_addR, if_neg (by omega)]
  · rw [tb_addR, if_pos ⟨rfl, rfl⟩]
theorem RMl_add3 (h : RMl m v) {row : Nat → Nat} {e : Nat → Int32} (he : ∀ k, k < 4 → e k = nI (row k)) : RMl (addA m 66 7 (cnt v 3) e) (addR v 3 row) := by
  obtain ⟨h0, h1, h2, h3, h4, h5, h6⟩ := RMl_i.mp h
  refine RMl_i.mpr ?_
  rw [cvA (j := 0) (by decide), cvA (j := 1) (by decide), cvA (j := 2) (by decide), cvA (j := 3) (by decide), cvA (j := 4) (by decide), cvA (j := 5) (by decide), avA (j := 0) (by decide) (by decide), avA (j := 1) (by decide) (by decide), avA (j := 2) (by decide) (by decide), avA (j := 3) (by decide) (by decide), avA (j := 5) (by decide) (by decide), avA (j := 6) (by decide) (by decide), avA (j := 7) (by decide) (by decide), avA (j := 8) (by decide) (by decide)]
  refine ⟨h0, h1, h2, h3, h4.add (row := row) (fun i hi => ?_) (fun k hk => ?_) (fun r k hr => ?_) (fun k => ?_), h5, h6⟩
  · rw [avB (j := 4) (o := 66) rfl, if_neg (by omega)]
  · rw [avB (j := 4) (o := 66) rfl, if_pos (by omega), Nat.add_sub_cancel_left, he k hk]
  · rw [tb_addR, if_neg (by omega)]
  · rw [tb_addR, if_pos ⟨rfl, rfl⟩]
theorem RMl_add4 (h : RMl m v) {row : Nat → Nat} {e : Nat → Int32} (he : ∀ k, k < 4 → e k = nI (row k)) : RMl (addA m 67 9 (cnt v 4) e) (addR v 4 row) := by
  obtain ⟨h0, h1, h2, h3, h4, h5, h6⟩ := RMl_i.mp h
  refine RMl_i.mpr ?_
  rw [cvA (j := 0) (by decide), cvA (j := 1) (by decide), cvA (j := 2) (by decide), cvA (j := 3) (by decide), cvA (j := 4) (by decide), cvA (j := 5) (by decide), avA (j := 0) (by decide) (by decide), avA (j := 1) (by decide) (by decide), avA (j := 2) (by decide) (by decide), avA (j := 3) (by decide) (by decide), avA (j := 4) (by decide) (by decide), avA (j := 6) (by decide) (by decide), avA (j := 7) (by decide) (by decide), avA (j := 8) (by decide) (by decide)]
  refine ⟨h0, h1, h2, h3, h4, h5.add (row := row) (fun i hi => ?_) (fun k hk => ?_) (fun r k hr => ?_) (fun k => ?_), h6⟩
  · rw [avB (j := 5) (o := 67) rfl, if_neg (by omega)]
  · rw [avB (j := 5) (o := 67) rfl, if_pos (by omega), Nat.add_sub_cancel_left, he k hk]
  · rw [tb_addR, if_neg (by omega)]
  · rw [tb_addR, if_pos ⟨rfl, rfl⟩]
theorem r61 {s : Mem} {o k j : Nat} {x : Int32} (h : 61 ≠ o) : rI (wI s o k x) 61 j = rI s 61 j := rI_ne h
theorem b_draw (R : Rv c m v vk) (hN : 1000 ≤ N) (a1 a2 a3 a4 : Int32) : Both (f_X8_draw N a1 a2 a3 a4 c) (f_X9_draw N a1 a2 a3 a4 m) := by
  obtain ⟨h, g, hv, -⟩ := id R
  have b0 := hv.n0
  have b3 : cnt v 3 ≤ 20 := hv.2.2.2.2.2.2.2.2.2.1
  unfold f_X8_draw f_X9_draw
  rw [th_has (T0 h), bnd_s, e_isPer g hv, bnd_s]
  by_cases h1 : isI a1 (cnt v 0) = true
  · obtain ⟨p, hp, rfl⟩ := isI_of (by omega) h1
    rw [if_pos h1, if_pos h1, e_isYear, bnd_s, e_isYearM, bnd_s, ite_d, ite_d]
    by_cases h2 : ¬ a2 < 0 ∧ ¬ (160 : Int32) < a2
    · obtain ⟨x, hx, rfl⟩ := yr h2
      rw [if_pos h2, if_pos h2, e_isYear, bnd_s, e_isYearM, bnd_s, ite_d, ite_d]
      by_cases h3 : ¬ a3 < 0 ∧ ¬ (160 : Int32) < a3
      · obtain ⟨y, hy, rfl⟩ := yr h3
        rw [if_pos h3, if_pos h3, ite_le (by omega) (by omega), ite_lt (by omega) (by omega)]
        by_cases h4 : x ≤ y
        · rw [if_pos h4, if_neg (by omega), e_within, bnd_s, e_in, bnd_s, ite_d, ite_d]
          by_cases h5 : ¬ a4 < 1 ∧ ¬ (99 : Int32) < a4
          · have h5' : ¬ a4 < 0 := fun z => h5.1 (by rw [i32_lt] at z ⊢; exact Int.lt_trans z (by decide))
            obtain ⟨w, hw, rfl⟩ := btw_of (n := 99) (by decide) h5' h5.2
            have hw1 : 1 ≤ w := by
              have := h5.1
              rw [i1, nI_ltI (by omega) (by omega)] at this
              omega
            rw [if_pos h5, if_pos h5, th_full (T3 h), bnd_s, ite_d, mct3 g, ek20 (by omega)]
            by_cases h6 : cnt v 3 = 20
            · rw [if_pos (by omega), if_pos h6]
              exact both_bad R _
            · have h7 : cnt v 3 < 20 := by omega
              rw [if_neg (by omega), if_neg h6, th_add (T3 h) h7 (by omega), bnd_s]
              have t1 := (T3 h).addT h7
              rw [th_s0 t1 (r := cnt v 3) (by omega) (by decide), bnd_s,
                th_s1 (t1.setC _ _) (r := cnt v 3) (by omega) (by decide), bnd_s,
                th_s2 ((t1.setC _ _).setC _ _) (r := cnt v 3) (by omega) (by decide), bnd_s,
                th_s3 (((t1.setC _ _).setC _ _).setC _ _) (r := cnt v 3) (by omega) (by decide), bnd_s]
              simp only [lt_e, r61 (show 61 ≠ 66 by decide), mct3 g, dmg0 h7, dmg1 h7, dmg2 h7, dmg3 h7, dmn0 h7, dmn1 h7, dmn2 h7, dmn3 h7, rI_w, and_self, if_true, nI_1, nI_pred]
              exact Both.of rfl rfl (R.keepB (RCb_add (j := 3) (row := fun k => if k = 0 then p else if k = 1 then x else if k = 2 then y else w) h (by decide) h7 (hp4 8 (cnt v 3) (fun k => nI (if k = 0 then p else if k = 1 then x else if k = 2 then y else w)))) (RMl_add3 g (e := fun k => nI (if k = 0 then p else if k = 1 then x else if k = 2 then y else w)) (fun k _ => rfl)) (hv.addD h7 ⟨hp, h4, hy, hw1, hw⟩) (fun o k ho _ => (hp4 8 (cnt v 3) (fun k => nI (if k = 0 then p else if k = 1 then x else if k = 2 then y else w)) o k).trans (by rw [if_neg (by omega), if_neg (by omega)])) (fun o k ho => (rI_addA (e := fun k => nI (if k = 0 then p else if k = 1 then x else if k = 2 then y else w)) (by decide) o k).trans (by rw [if_neg (by omega), if_neg (by omega)])) (fun k => rfl))
          · rw [if_neg h5, if_neg h5]
            exact both_bad R _
        · rw [if_neg h4, if_pos (by omega)]
          exact both_bad R _
      · rw [if_neg h3, if_neg h3]
        exact both_bad R _
    · rw [if_neg h2, if_neg h2]
      exact both_bad R _
  · rw [if_neg h1, if_neg h1]
    exact both_bad R _
end OPS3
