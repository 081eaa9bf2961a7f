/-! Rows on bits and bytes that the walks of the stream's methods use. -/
theorem nx_and (a b : Nat) : nI a &&& nI b = nI (a &&& b) := by
  apply Int32.toBitVec_inj.1
  show BitVec.ofNat 32 a &&& BitVec.ofNat 32 b = BitVec.ofNat 32 (a &&& b)
  apply BitVec.eq_of_getLsbD_eq
  intro i hi
  simp [hi]
theorem nx_xor (a b : Nat) : nI a ^^^ nI b = nI (a ^^^ b) := by
  apply Int32.toBitVec_inj.1
  show BitVec.ofNat 32 a ^^^ BitVec.ofNat 32 b = BitVec.ofNat 32 (a ^^^ b)
  apply BitVec.eq_of_getLsbD_eq
  intro i hi
  simp [hi]
theorem nx_or (a b : Nat) : nI a ||| nI b = nI (a ||| b) := by
  apply Int32.toBitVec_inj.1
  show BitVec.ofNat 32 a ||| BitVec.ofNat 32 b = BitVec.ofNat 32 (a ||| b)
  apply BitVec.eq_of_getLsbD_eq
  intro i hi
  simp [hi]
theorem or_hi (k a : Nat) {b p : Nat} (hp : 2 ^ k = p) (h : b < p) : nI (a * p) ||| nI b = nI (a * p + b) := by
  subst hp
  rw [nx_or, Nat.mul_comm, ← Nat.two_pow_add_eq_or_of_lt h]
theorem or_lo (k a : Nat) {b p : Nat} (hp : 2 ^ k = p) (h : b < p) : nI b ||| nI (a * p) = nI (b + a * p) := by
  rw [Int32.or_comm, or_hi k a hp h, Nat.add_comm]
theorem and24 {a : Nat} (h : a < 33554432) : a &&& 16777216 = 16777216 * (a / 16777216) := by
  apply Nat.eq_of_testBit_eq
  intro i
  rw [Nat.testBit_and, show (16777216 : Nat) = 2 ^ 24 by decide, Nat.testBit_two_pow, Nat.testBit_two_pow_mul]
  by_cases hi : i = 24
  · subst hi
    rw [Nat.testBit_eq_decide_div_mod_eq, Nat.testBit_eq_decide_div_mod_eq]
    simp
  · by_cases h2 : 24 ≤ i
    · have e : (a / 2 ^ 24).testBit (i - 24) = false := by
        refine Nat.testBit_lt_two_pow (Nat.lt_of_lt_of_le (show a / 2 ^ 24 < 2 ^ 1 by omega) (Nat.pow_le_pow_right (by decide) (by omega)))
      rw [e]
      simp
      intro _
      omega
    · simp [h2]
      intro _
      omega
noncomputable def tf (p : Prop) : Nat := if okq p = true then 1 else 0
theorem tf_1 {p : Prop} (h : p) : tf p = 1 := by unfold tf; rw [okq_t h]; rfl
theorem tf_0 {p : Prop} (h : ¬ p) : tf p = 0 := by unfold tf; rw [okq_f h]; rfl
theorem tf_lt (p : Prop) : tf p < 2 := by unfold tf; split <;> omega
theorem tf_of1 {p : Prop} (h : tf p ≠ 0) : p := Classical.byContradiction fun q => h (tf_0 q)
theorem tf_of0 {p : Prop} (h : tf p = 0) : ¬ p := fun q => by rw [tf_1 q] at h; cases h
def s4 (b : List Nat) (i : Nat) : Int32 := nI (b.getD i 0 + b.getD (i + 1) 0 * 256 + b.getD (i + 2) 0 * 65536 + b.getD (i + 3) 0 * 16777216)
def wb (x : Int32) (i : Nat) : Nat := x.toBitVec.toNat / 2 ^ (8 * i) % 256
theorem wb_lt (x : Int32) (i : Nat) : wb x i < 256 := Nat.mod_lt _ (by decide)
theorem wb_u (x : Int32) {i : Nat} (hi : i < 4) : (x.toUInt32 >>> ((nI (8 * i)).toUInt32 &&& Int32.toUInt32 31)).toInt32 &&& nI 255 = nI (wb x i) := by
  rw [pk_and _ 8 (by decide), pk_ushr x (nI (8 * i)) (8 * i) (by
    rcases (show i = 0 ∨ i = 1 ∨ i = 2 ∨ i = 3 by omega) with rfl | rfl | rfl | rfl <;> decide)]
  rfl
theorem lok_iff (bs : List Nat) (s q : Nat) : lok (bs.drop s) (q + 3) ↔ crc (bs.drop s) q = bs.getD (s + q) 0 * 65536 + bs.getD (s + q + 1) 0 * 256 + bs.getD (s + q + 2) 0 := by
  unfold lok
  rw [gd_drop, gd_drop, gd_drop, show q + 3 - 3 = q by omega, show s + (q + 3 - 2) = s + q + 1 by omega, show s + (q + 3 - 1) = s + q + 2 by omega]
  omega
theorem sok_iff (bs : List Nat) (s q : Nat) : sok (bs.drop s) (q + 4) ↔ (sx (bs.drop s) q % 256 = bs.getD (s + 2 + q) 0 ∧ sy (bs.drop s) q % 256 = bs.getD (s + 2 + q + 1) 0) := by
  unfold sok
  rw [gd_drop, gd_drop, show q + 4 - 4 = q by omega, show s + (q + 4 - 2) = s + 2 + q by omega, show s + (q + 4 - 1) = s + 2 + q + 1 by omega]
theorem clsl_no {b : List Nat} (h : (1 < b.length ∧ 0 < b.getD 1 0) ∨ (2 < b.length ∧ 90 < b.getD 2 0)) : clsl b = 1 := by
  unfold clsl frl fin; rw [if_pos h, if_pos (Or.inr rfl)]
theorem clsl_wait {b : List Nat} (h : ¬ ((1 < b.length ∧ 0 < b.getD 1 0) ∨ (2 < b.length ∧ 90 < b.getD 2 0))) (h2 : b.length < 3 ∨ b.length < 6 + b.getD 2 0) : clsl b = 0 := by
  unfold clsl frl fin; rw [if_neg h]
  by_cases h3 : 2 < b.length
  · rw [if_pos h3, if_neg (by omega), if_pos (by omega)]
  · rw [if_neg h3, if_pos (Or.inl rfl)]
theorem clsl_yes {b : List Nat} (h : ¬ ((1 < b.length ∧ 0 < b.getD 1 0) ∨ (2 < b.length ∧ 90 < b.getD 2 0))) (h2 : 3 ≤ b.length) (h3 : 6 + b.getD 2 0 ≤ b.length) (hk : lok b (6 + b.getD 2 0)) : clsl b = 6 + b.getD 2 0 := by
  have e : frl b = 6 + b.getD 2 0 := by unfold frl; rw [if_neg h, if_pos (show 2 < b.length by omega)]
  unfold clsl fin; rw [e, if_neg (by omega), if_neg (by omega), if_pos (okq_t hk)]
theorem clsl_bad {b : List Nat} (h : ¬ ((1 < b.length ∧ 0 < b.getD 1 0) ∨ (2 < b.length ∧ 90 < b.getD 2 0))) (h2 : 3 ≤ b.length) (h3 : 6 + b.getD 2 0 ≤ b.length) (hk : ¬ lok b (6 + b.getD 2 0)) : clsl b = 1 := by
  have e : frl b = 6 + b.getD 2 0 := by unfold frl; rw [if_neg h, if_pos (show 2 < b.length by omega)]
  unfold clsl fin; rw [e, if_neg (by omega), if_neg (by omega), okq_f hk]; rfl
theorem clss_no {b : List Nat} (h : (1 < b.length ∧ b.getD 1 0 ≠ 98) ∨ (4 < b.length ∧ 90 < b.getD 4 0) ∨ (5 < b.length ∧ 0 < b.getD 5 0)) : clss b = 1 := by
  unfold clss frs fin; rw [if_pos h, if_pos (Or.inr rfl)]
theorem clss_wait {b : List Nat} (h : ¬ ((1 < b.length ∧ b.getD 1 0 ≠ 98) ∨ (4 < b.length ∧ 90 < b.getD 4 0) ∨ (5 < b.length ∧ 0 < b.getD 5 0))) (h2 : b.length < 6 ∨ b.length < 8 + b.getD 4 0) : clss b = 0 := by
  unfold clss frs fin; rw [if_neg h]
  by_cases h3 : 5 < b.length
  · rw [if_pos h3, if_neg (by omega), if_pos (by omega)]
  · rw [if_neg h3, if_pos (Or.inl rfl)]
theorem clss_yes {b : List Nat} (h : ¬ ((1 < b.length ∧ b.getD 1 0 ≠ 98) ∨ (4 < b.length ∧ 90 < b.getD 4 0) ∨ (5 < b.length ∧ 0 < b.getD 5 0))) (h2 : 6 ≤ b.length) (h3 : 8 + b.getD 4 0 ≤ b.length) (hk : sok b (8 + b.getD 4 0)) : clss b = 8 + b.getD 4 0 := by
  have e : frs b = 8 + b.getD 4 0 := by unfold frs; rw [if_neg h, if_pos (show 5 < b.length by omega)]
  unfold clss fin; rw [e, if_neg (by omega), if_neg (by omega), if_pos (okq_t hk)]
theorem clss_bad {b : List Nat} (h : ¬ ((1 < b.length ∧ b.getD 1 0 ≠ 98) ∨ (4 < b.length ∧ 90 < b.getD 4 0) ∨ (5 < b.length ∧ 0 < b.getD 5 0))) (h2 : 6 ≤ b.length) (h3 : 8 + b.getD 4 0 ≤ b.length) (hk : ¬ sok b (8 + b.getD 4 0)) : clss b = 1 := by
  have e : frs b = 8 + b.getD 4 0 := by unfold frs; rw [if_neg h, if_pos (show 5 < b.length by omega)]
  unfold clss fin; rw [e, if_neg (by omega), if_neg (by omega), okq_f hk]; rfl
theorem enc_n {n : Nat} (h : 2 ≤ n) : enc n = nI n := by unfold enc; rw [if_neg (by omega)]
theorem lookup_def {x : Nat} (h : x < 2 ^ 31) (h1 : x ≠ 181 ∧ x ≠ 211) : Op.lookupswitch.offset [(181, 31), (211, 25)] 37 (nI x).toInt = 37 := by
  rw [nI_toInt h]
  have a1 : ¬ ((x : Int) = 181) := by omega
  have a2 : ¬ ((x : Int) = 211) := by omega
  simp [Op.lookupswitch.offset, a1, a2]
  omega
