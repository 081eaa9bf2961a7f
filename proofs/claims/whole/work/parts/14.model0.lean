/-! Rows on the reference's methods. -/
def Tb (tb : Nat → Int32) : Prop := ∀ i, i < 256 → tb i = nI (ckI 8 (i * 65536))
theorem xor8 {c b : Nat} (hc : c < 16777216) (hb : b < 256) : c / 65536 ^^^ b < 256 := Nat.xor_lt_two_pow (n := 8) (by omega) (by omega)
theorem tab_x {c b : Nat} (hc : c < 16777216) (hb : b < 256) : nI (c % 65536 * 256) ^^^ nI (ckI 8 ((c / 65536 ^^^ b) * 65536)) = nI (ckB c b) := (nx_xor _ _).trans (congrArg nI (ckB_tab hc hb))
theorem sub_sub' (x y z : Int32) : x - y - z = x - (y + z) := by
  apply Int32.toBitVec_inj.1
  show x.toBitVec - y.toBitVec - z.toBitVec = x.toBitVec - (y.toBitVec + z.toBitVec)
  bv_omega
theorem sub_0' (x : Int32) : x = x - nI 0 := by
  apply Int32.toBitVec_inj.1
  show x.toBitVec = x.toBitVec - 0#32
  simp
theorem sg15_num (b : List Nat) (k : Nat) : sg15 (num b k 15) = if bt b k = 1 then nI (num b (k + 1) 14) - nI 16384 else nI (num b (k + 1) 14) := by
  have h1 := num_cons b k 14
  have h2 := num_lt b (k + 1) 14
  have h3 := bt_lt b k
  have h4 := num_lt b k 15
  rw [sg15_eq h4]
  by_cases hb : bt b k = 1
  · rw [if_neg (by rw [h1, hb]; omega), if_pos hb, show num b k 15 - 16384 = num b (k + 1) 14 by rw [h1, hb]; omega]
  · rw [if_pos (by rw [h1, show bt b k = 0 by omega]; omega), if_neg hb, show num b k 15 = num b (k + 1) 14 by rw [h1, show bt b k = 0 by omega]; omega]
theorem wb_s (x : Int32) {i : Nat} (hi : i < 4) : (x >>> (nI (8 * i) &&& 31)) &&& nI 255 = nI (wb x i) := by
  rw [pk_and _ 8 (by decide)]
  unfold wb
  congr 1
  have hk : (((nI (8 * i)) &&& 31).toBitVec.smod 32).toNat = 8 * i := sl31 (8 * i) (by omega)
  have h1 := pk_shr x (nI (8 * i) &&& 31) (8 * i) hk
  rw [Int.shiftRight_eq_div_pow] at h1
  have e1 : (x >>> (nI (8 * i) &&& 31)).toInt = if (x >>> (nI (8 * i) &&& 31)).toBitVec.toNat < 2147483648 then ((x >>> (nI (8 * i) &&& 31)).toBitVec.toNat : Int) else ((x >>> (nI (8 * i) &&& 31)).toBitVec.toNat : Int) - 4294967296 := by
    show (x >>> (nI (8 * i) &&& 31)).toBitVec.toInt = _
    rw [BitVec.toInt_eq_toNat_cond]
    split <;> split <;> omega
  have e2 : x.toInt = if x.toBitVec.toNat < 2147483648 then (x.toBitVec.toNat : Int) else (x.toBitVec.toNat : Int) - 4294967296 := by
    show x.toBitVec.toInt = _
    rw [BitVec.toInt_eq_toNat_cond]
    split <;> split <;> omega
  have l1 : (x >>> (nI (8 * i) &&& 31)).toBitVec.toNat < 2 ^ 32 := BitVec.isLt _
  have l2 : x.toBitVec.toNat < 2 ^ 32 := BitVec.isLt _
  rw [e1, e2] at h1
  generalize (x >>> (nI (8 * i) &&& 31)).toBitVec.toNat = A at h1 l1 ⊢
  generalize x.toBitVec.toNat = C at h1 l2 ⊢
  rcases (show i = 0 ∨ i = 1 ∨ i = 2 ∨ i = 3 by omega) with rfl | rfl | rfl | rfl
  · simp only [Nat.mul_zero, Nat.pow_zero, Nat.div_one] at h1 ⊢
    split at h1 <;> split at h1 <;> omega
  · simp only [show 8 * 1 = 8 by decide] at h1 ⊢
    split at h1 <;> split at h1 <;> omega
  · simp only [show 8 * 2 = 16 by decide] at h1 ⊢
    split at h1 <;> split at h1 <;> omega
  · simp only [show 8 * 3 = 24 by decide] at h1 ⊢
    split at h1 <;> split at h1 <;> omega
-- what the reference's rows hold
def RpM (ep fN : Nat → Int32) (fR : Nat → UInt64) (fS : Nat → Int32) (G L : Ep) : Prop :=
  (ep 0 = nI G.1 ∧ ep 1 = G.2.1 ∧ ep 2 = G.2.2.1 ∧ ep 3 = nI G.2.2.2.2.length ∧ ep 4 = G.2.2.2.1) ∧
  (ep 8 = nI L.1 ∧ ep 9 = L.2.1 ∧ ep 10 = L.2.2.1 ∧ ep 11 = nI L.2.2.2.2.length ∧ ep 12 = L.2.2.2.1) ∧
  RpE fN fR fS G.2.2.2.2 ∧ RpE (fun i => fN (40 + i)) (fun i => fR (40 + i)) (fun i => fS (40 + i)) L.2.2.2.2 ∧ G.1 ≤ 1 ∧ L.1 ≤ 1 ∧ G.2.2.2.2.length ≤ 40 ∧ L.2.2.2.2.length ≤ 40
def RpP (po : Nat → Int32) (P : Po) : Prop := po 0 = P.2.1 ∧ po 1 = P.2.2.1 ∧ po 2 = P.2.2.2.1 ∧ po 3 = P.2.2.2.2 ∧ po 4 = P.1
theorem RpE.cong {fN gN : Nat → Int32} {fR gR : Nat → UInt64} {fS gS : Nat → Int32} {cs : List Ce} (h : RpE fN fR fS cs) (hc : cs.length ≤ 40) (he : ∀ i, i < 40 → gN i = fN i ∧ gR i = fR i ∧ gS i = fS i) : RpE gN gR gS cs := fun i hi => by
  obtain ⟨e1, e2, e3⟩ := he i (by omega)
  rw [e1, e2, e3]
  exact h i hi
def frz (b : List Nat) : Nat := if b.length = 0 then 0 else fr b
theorem frz_0 {b : List Nat} (h : frz b = 0) : cls b = 0 := by
  unfold frz at h
  by_cases hl : b.length = 0
  · exact cls_nil hl
  · rw [if_neg hl] at h
    unfold fr at h
    unfold cls
    rw [if_neg hl]
    split at h
    · rename_i h1; rw [if_pos h1]; unfold clsl fin; rw [h, if_pos (Or.inl rfl)]
    · rename_i h1
      split at h
      · rename_i h2; rw [if_neg h1, if_pos h2]; unfold clss fin; rw [h, if_pos (Or.inl rfl)]
      · cases h
theorem frz_1 {b : List Nat} (h : frz b = 1) : cls b = 1 := by
  unfold frz at h
  by_cases hl : b.length = 0
  · rw [if_pos hl] at h; cases h
  · rw [if_neg hl] at h
    unfold fr at h
    unfold cls
    rw [if_neg hl]
    split at h
    · rename_i h1; rw [if_pos h1]; unfold clsl fin; rw [h, if_pos (Or.inr rfl)]
    · rename_i h1
      split at h
      · rename_i h2; rw [if_neg h1, if_pos h2]; unfold clss fin; rw [h, if_pos (Or.inr rfl)]
      · rename_i h2; rw [if_neg h1, if_neg h2]
theorem frz_big (b : List Nat) : frz b = 0 ∨ frz b = 1 ∨ (6 ≤ frz b ∧ frz b ≤ 98 ∧ b.length ≠ 0 ∧ ((b.getD 0 0 = 211 ∧ frz b = frl b) ∨ (b.getD 0 0 = 181 ∧ frz b = frs b ∧ 8 ≤ frz b))) := by
  have h1 := frl_cases b
  have h2 := frs_cases b
  unfold frz fr
  split
  · omega
  · split
    · omega
    · split <;> omega
theorem cls_short {b : List Nat} (h0 : frz b ≠ 0) (h1 : frz b ≠ 1) (h : b.length < frz b) : cls b = 0 := by
  rcases frz_big b with q | q | ⟨q1, -, q2, ⟨q3, q4⟩ | ⟨q3, q4, -⟩⟩
  · exact absurd q h0
  · exact absurd q h1
  · unfold cls; rw [if_neg q2, if_pos q3]; unfold clsl fin; rw [← q4, if_neg (by omega), if_pos h]
  · unfold cls; rw [if_neg q2, if_neg (by omega), if_pos q3]; unfold clss fin; rw [← q4, if_neg (by omega), if_pos h]
theorem cls_long {b : List Nat} (h6 : 6 ≤ frz b) (h : frz b ≤ b.length) (h2 : b.getD 0 0 = 211) : (lok b (frz b) → cls b = frz b) ∧ (¬ lok b (frz b) → cls b = 1) := by
  have q4 : frz b = frl b := by rcases frz_big b with q | q | ⟨q1, -, q2, ⟨q3, q4⟩ | ⟨q3, q4, -⟩⟩ <;> omega
  constructor
  · intro hk; unfold cls; rw [if_neg (by omega), if_pos h2]; unfold clsl fin; rw [← q4, if_neg (by omega), if_neg (by omega), if_pos (okq_t hk)]
  · intro hk; unfold cls; rw [if_neg (by omega), if_pos h2]; unfold clsl fin; rw [← q4, if_neg (by omega), if_neg (by omega), okq_f hk]; rfl
theorem cls_shrt {b : List Nat} (h6 : 6 ≤ frz b) (h : frz b ≤ b.length) (h2 : b.getD 0 0 ≠ 211) : (sok b (frz b) → cls b = frz b) ∧ (¬ sok b (frz b) → cls b = 1) := by
  have q4 : frz b = frs b ∧ b.getD 0 0 = 181 := by rcases frz_big b with q | q | ⟨q1, -, q2, ⟨q3, q4⟩ | ⟨q3, q4, -⟩⟩ <;> omega
  constructor
  · intro hk; unfold cls; rw [if_neg (by omega), if_neg h2, if_pos q4.2]; unfold clss fin; rw [← q4.1, if_neg (by omega), if_neg (by omega), if_pos (okq_t hk)]
  · intro hk; unfold cls; rw [if_neg (by omega), if_neg h2, if_pos q4.2]; unfold clss fin; rw [← q4.1, if_neg (by omega), if_neg (by omega), okq_f hk]; rfl
theorem enc_frz0 {b : List Nat} (h : b.length = 0) : nI 0 = enc (frz b) := by unfold frz; rw [if_pos h]; rfl
theorem enc_frz1 {b : List Nat} (h : b.length ≠ 0) : enc (fr b) = enc (frz b) := by unfold frz; rw [if_neg h]
theorem frz_lt (b : List Nat) : frz b < 2 ^ 31 := by have := frz_big b; omega
