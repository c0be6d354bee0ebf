-- feed
theorem byte_c (x : Int64) (n : Int64) {k : Nat} (hn : (n.toBitVec.smod 64).toNat = k) (hk : k ≤ 56) : (x >>> n).toInt32 &&& 255 = nI (x.toBitVec.toNat / 2 ^ k % 256) := by
  rw [pk_and _ 8 (by decide)]
  congr 1
  have h1 : (x >>> n).toInt32.toBitVec = (x.toBitVec.sshiftRight k).setWidth 32 := by
    have : (x >>> n).toBitVec = x.toBitVec.sshiftRight k := by
      show x.toBitVec.sshiftRight' (n.toBitVec.smod 64) = _
      rw [BitVec.sshiftRight', hn]
    rw [Int64.toBitVec_toInt32, this]
    rw [BitVec.signExtend_eq_setWidth_of_le _ (by decide)]
  rw [h1]
  apply Nat.eq_of_testBit_eq
  intro i
  rw [Nat.testBit_mod_two_pow, show (256 : Nat) = 2 ^ 8 from rfl, Nat.testBit_mod_two_pow, Nat.testBit_div_two_pow]
  by_cases hi : i < 8
  · rw [decide_eq_true hi, Bool.true_and, Bool.true_and, BitVec.testBit_toNat, BitVec.testBit_toNat, BitVec.getLsbD_setWidth, BitVec.getLsbD_sshiftRight]
    simp [show i < 32 by omega, show i < 64 by omega, show k + i < 64 by omega, Nat.add_comm]
  · rw [decide_eq_false hi, Bool.false_and, Bool.false_and]
theorem byte_m (x : Int64) (n : UInt64) {k : Nat} (hn : (n.toBitVec % 64).toNat = k) (hk : k ≤ 56) : ((x.toUInt64 >>> n).toInt64 &&& 255).toInt32 = nI (x.toBitVec.toNat / 2 ^ k % 256) := by
  apply Int32.toBitVec_inj.1
  have h1 : ((x.toUInt64 >>> n).toInt64 &&& 255).toInt32.toBitVec = ((x.toBitVec >>> k) &&& 255#64).setWidth 32 := by
    rw [Int64.toBitVec_toInt32, BitVec.signExtend_eq_setWidth_of_le _ (by decide)]
    congr 1
    show (x.toBitVec >>> (n.toBitVec % 64)) &&& 255#64 = _
    rw [BitVec.ushiftRight_eq', hn]
  rw [h1]
  apply BitVec.eq_of_toNat_eq
  show _ = (nI (x.toBitVec.toNat / 2 ^ k % 256)).toBitVec.toNat
  rw [pk_tn (by omega), BitVec.toNat_setWidth, BitVec.toNat_and, BitVec.toNat_ushiftRight, Nat.shiftRight_eq_div_pow]
  have : (255#64).toNat = 2 ^ 8 - 1 := rfl
  rw [this, Nat.and_two_pow_sub_one_eq_mod]
  omega
theorem sh_c : ∀ k, k < 8 → (((8 * nI k : Int32).toInt64 &&& 63).toBitVec.smod 64).toNat = 8 * k := by decide +kernel
theorem sh_m : ∀ k, k < 8 → (((8 * nI k : Int32).toInt64.toUInt64 &&& Int64.toUInt64 63).toBitVec % 64).toNat = 8 * k := by decide +kernel
section FEED
variable {N : Nat} {c m : Mem} {v vk : VB}
theorem p_push {t n : Nat} (hc : rI c t 1 = nI n) (hl : n < ln (t + 1)) (hL : ln (t + 1) < 2 ^ 31) (x : Int32) : f_X3_push N t x c = some ((), wI (wI c (t + 1) n x) t 1 (nI (n + 1))) := by
  unfold f_X3_push
  rw [hc, lt0_f (by omega), lt_t hl hL, gin_n hl hL, lt_e, nI_clamp (by omega), rI_ne (by omega), hc, lt_e, nI_1]
/-- the relation but the tape -/
def Rt (c m : Mem) (v vk : VB) : Prop := RCb c 1 v ∧ RMl m v ∧ IV v ∧ KP c m vk ∧ RO c m ∧ SHT c m ∧ SLV c m ∧ TR c m ∧ SHP c
theorem Rt.keep {c2 m2 : Mem} (h : Rt c m v vk) (hc : ∀ o k, o ≠ 43 → o ≠ 44 → rI c2 o k = rI c o k) (hm : ∀ o k, o ≠ 72 → ¬ (o = 61 ∧ k = 17) → rI m2 o k = rI m o k) (hl : ∀ k, rL m2 81 k = rL m 81 k) : Rt c2 m2 v vk := by
  obtain ⟨h1, h2, h3, h4, h6, h7, h8, h9, h10⟩ := h
  refine ⟨h1.keep (fun o k q1 q2 => hc o k (by omega) (by omega)), RMl_s h2 (fun o k ho => hm o k (by omega) (by omega)), h3, ?_, ?_, ?_, ?_, ?_, ?_⟩
  · obtain ⟨b, b1, b2, b3, b4⟩ := h4
    have ec : cvK m2 = cvK m := by funext j; exact hm _ _ (by decide) (by omega)
    have ea : avK m2 = avK m := by funext j i; exact hm _ _ (by decide) (by omega)
    exact ⟨b, by rw [hc _ _ (by omega) (by omega)]; exact b1, by rw [hm _ _ (by omega) (by omega)]; exact b2, b3.keep (fun o k q1 q2 => hc o k (by omega) (by omega)), by rw [ec, ea]; exact b4⟩
  · obtain ⟨n, n1, n2, n3⟩ := h6
    refine ⟨n, n1.keep (fun k => hc _ _ (by omega) (by omega)), by rw [hm _ _ (by omega) (by omega)]; exact n2, fun r k hr hk => ?_⟩
    rw [hc _ _ (by omega) (by omega), hm _ _ (by omega) (by omega)]; exact n3 r k hr hk
  · intro j hj
    obtain ⟨so, n, n1, n2, n3, n4, n5, n6⟩ := h7 j hj
    refine ⟨so, n, n1, by rw [hc _ _ (by omega) (by omega)]; exact n2, by rw [hm _ _ (by omega) (by omega)]; exact n3, by rw [hc _ _ (by omega) (by omega)]; exact n4, by rw [hm _ _ (by omega) (by omega)]; exact n5, fun i hi => ?_⟩
    rw [hc _ _ (by omega) (by omega), hl]; exact n6 i hi
  · refine ⟨h8.1.keep (fun k => hc _ _ (by omega) (by omega)), fun j hj => ?_⟩
    have q := h8.2 j hj
    have e2 : ∀ k, rI m2 82 k = rI m 82 k := fun k => hm 82 k (by omega) (by omega)
    have e3 : ∀ k, rI m2 83 k = rI m 83 k := fun k => hm 83 k (by omega) (by omega)
    have e4 : ∀ k, rI m2 84 k = rI m 84 k := fun k => hm 84 k (by omega) (by omega)
    simp only [hc 57 _ (by omega) (by omega), e2, e3, e4]
    exact q
  · obtain ⟨n, n1, n2, n3, n4⟩ := h9
    refine ⟨n, n1, by rw [hc _ _ (by omega) (by omega)]; exact n2, by rw [hm _ _ (by omega) (by omega)]; exact n3, fun k hk => ?_⟩
    rw [hc _ _ (by omega) (by omega), hm _ _ (by omega) (by omega)]; exact n4 k hk
  · exact h10.keep (fun o k w1 w2 => hc o k (by omega) (by omega))
theorem Rv.t (h : Rv c m v vk) : Rt c m v vk ∧ TA c m := by
  obtain ⟨h1, h2, h3, h4, h5, h6, h7, h8, h9, h10⟩ := h
  exact ⟨⟨h1, h2, h3, h4, h6, h7, h8, h9, h10⟩, h5⟩
theorem Rv.ot (h : Rt c m v vk) (g : TA c m) : Rv c m v vk := by
  obtain ⟨h1, h2, h3, h4, h6, h7, h8, h9, h10⟩ := h
  exact ⟨h1, h2, h3, h4, g, h6, h7, h8, h9, h10⟩
theorem ln44 : ln 44 = 200 := rfl
theorem b_feedL (x : Int64) (w : Nat) (hw : w ≤ 8) : ∀ d k n (c m : Mem) (q : Nat), Rt c m v vk → k + d = w → d < n → q + d ≤ 200 → rI c 43 1 = nI q → rI m 61 17 = nI q → (∀ k, k < q → ∃ b, b < 256 ∧ rI c 44 k = nI b ∧ rI m 72 k = nI b) → Both (f_X8_feed_L33 N n x (nI w) (nI k) c) (f_X9_feed_L30 N n x (nI w) (nI k) m) := by
  intro d
  induction d with
  | zero =>
    intro k n c m q R h1 h2 h3 h4 h5 h6
    obtain ⟨n, rfl⟩ := suc_of h2
    unfold f_X8_feed_L33 f_X9_feed_L30
    rw [le_t (by omega) (by omega), le_t (by omega) (by omega), h4, h5]
    exact Both.of rfl rfl (Rv.ot R ⟨q, by omega, h4, h5, h6⟩)
  | succ d ih =>
    intro k n c m q R h1 h2 h3 h4 h5 h6
    obtain ⟨n, rfl⟩ := suc_of h2
    have hk : k < 8 := by omega
    unfold f_X8_feed_L33 f_X9_feed_L30
    rw [le_f (by omega) (by omega), le_f (by omega) (by omega), byte_c x _ (sh_c k hk) (by omega), byte_m x _ (sh_m k hk) (by omega), p_push h4 (by rw [ln44]; omega) (by decide), bnd_s, h5, gin_n (by omega) (by omega), lt_e, nI_clamp (by omega), r61 (by decide), h5, lt_e, nI_1, nI_1]
    refine ih (k + 1) n _ _ (q + 1) (R.keep (fun o k q1 q2 => by rw [rI_ne q1, rI_ne q2]) (fun o k q1 q2 => by rw [rI_w, if_neg q2, rI_ne q1]) (fun k => rfl)) (by omega) (by omega) (by omega) (by rw [rI_w, if_pos ⟨rfl, rfl⟩]) (by rw [rI_w, if_pos ⟨rfl, rfl⟩]) (fun j hj => ?_)
    rw [rI_ne (by decide), rI_w, rI_ne (by decide), rI_w]
    by_cases e : j = q
    · rw [if_pos ⟨rfl, e⟩, if_pos ⟨rfl, e⟩]
      exact ⟨_, Nat.mod_lt _ (by decide), rfl, rfl⟩
    · rw [if_neg (fun z => e z.2), if_neg (fun z => e z.2)]
      exact h6 j (by omega)
theorem b_feed (R : Rv c m v vk) (hN : 1000 ≤ N) (a1 : Int64) (a3 : Int32) : Both (f_X8_feed N a1 a3 c) (f_X9_feed N a1 a3 m) := by
  obtain ⟨Q, q, q1, q2, q3, q4⟩ := R.t
  unfold f_X8_feed f_X9_feed
  rw [e_within, bnd_s, e_in, bnd_s, ite_d, ite_d]
  by_cases h5 : ¬ a3 < 1 ∧ ¬ (8 : Int32) < a3
  · have h5' : ¬ a3 < 0 := fun z => h5.1 (by rw [i32_lt] at z ⊢; exact Int.lt_trans z (by decide))
    obtain ⟨w, hw, rfl⟩ := btw_of (n := 8) (by decide) h5' h5.2
    rw [if_pos h5, if_pos h5, q2, q3, nI_add, lek200 (by omega), lek200 (by omega)]
    by_cases z : q + w ≤ 200
    · rw [if_pos z, if_pos z]
      exact b_feedL a1 w hw w 0 N c m q Q (by omega) (by omega) (by omega) q2 q3 q4
    · rw [if_neg z, if_neg z]
      exact both_bad R _
  · rw [if_neg h5, if_neg h5]
    exact both_bad R _
end FEED
