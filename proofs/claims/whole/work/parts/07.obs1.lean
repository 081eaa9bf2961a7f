/-! Rows on an observation's grid. -/
theorem narB {m : Nat} (h : m < 2) : narrow .boolean (.int (nI m)) = .int (nI m) := by
  rcases (show m = 0 ∨ m = 1 by omega) with rfl | rfl <;> rfl
theorem fitB {m : Nat} (h : m < 2) : fits .boolean (.int (nI m)) = true := by
  rcases (show m = 0 ∨ m = 1 by omega) with rfl | rfl <;> rfl
theorem ons_lt {b : List Nat} {t i w : Nat} (hi : i < w) (h : bt b (t + i) = 1) : ons b t i < ons b t w := by
  have h1 := ons_mono b t (show i + 1 ≤ w by omega)
  have h2 : ons b t (i + 1) = ons b t i + bt b (t + i) := rfl
  omega
theorem cell_eq {b : List Nat} {i j : Nat} (hi : i < 16) (h1 : bt b (55 + i) = 1) (hj : j < 4) (h2 : bt b (71 + j) = 1) : cellAt b (ons b 55 i * nG b + ons b 71 j) =
    (nI (1000 * (num b 0 12 - 1000) + 10 * (i + 1) + (j + 1)),
     reck (num b (75 + nS b * nG b + 8 * ons b 55 i) 8) (num b (75 + nS b * nG b + 8 * nS b + 10 * ons b 55 i) 10) (sg15 (num b (75 + nS b * nG b + 8 * nS b + 10 * nS b + 15 * ons b 75 (ons b 55 i * nG b + ons b 71 j)) 15)),
     nI (num b (75 + nS b * nG b + 8 * nS b + 10 * nS b + 15 * nC b + 6 * ons b 75 (ons b 55 i * nG b + ons b 71 j)) 6)) := by
  have hl : ons b 71 j < nG b := ons_lt hj h2
  have e1 : (ons b 55 i * nG b + ons b 71 j) / nG b = ons b 55 i := by
    rw [Nat.mul_comm, Nat.mul_add_div (by omega), Nat.div_eq_of_lt hl, Nat.add_zero]
  have e2 : (ons b 55 i * nG b + ons b 71 j) % nG b = ons b 71 j := by
    rw [Nat.mul_comm, Nat.mul_add_mod, Nat.mod_eq_of_lt hl]
  unfold cellAt
  rw [e1, e2, nth_at b 55 i h1 16 hi, nth_at b 71 j h2 4 hj]
theorem gath_on {b : List Nat} {cs : List Ce} {k : Nat} (h : bt b (75 + k) = 1) : gath b cs (k + 1) = addc (gath b cs k) (cellAt b k) := by
  show (if bt b (75 + k) = 1 then _ else _) = _; rw [if_pos h]
theorem gath_off {b : List Nat} {cs : List Ce} {k : Nat} (h : bt b (75 + k) ≠ 1) : gath b cs (k + 1) = gath b cs k := by
  show (if bt b (75 + k) = 1 then _ else _) = _; rw [if_neg h]
theorem addc_lt {cs : List Ce} (h : cs.length < 40) (x : Ce) : addc cs x = cs ++ [x] := by unfold addc; rw [if_pos h]
theorem addc_ge {cs : List Ce} (h : ¬ cs.length < 40) (x : Ce) : addc cs x = cs := by unfold addc; rw [if_neg h]
theorem addc_take {cs : List Ce} {j : Nat} (h : j < cs.length) (hc : cs.length ≤ 40) : addc (cs.take j) ((cs.getD j c0).1, (cs.getD j c0).2.1, (cs.getD j c0).2.2) = cs.take (j + 1) := by
  rw [addc_lt (by rw [List.length_take]; omega), take_succ_c h]
-- a payload's own row
def Pay (f : Nat → Int32) (b : List Nat) : Prop := b.length ≤ 93 ∧ ∀ i, i < 90 → f i = nI (b.getD (3 + i) 0)
theorem gd_take_lt {b : List Nat} {m i : Nat} (h : i < m) : (b.take m).getD i 0 = b.getD i 0 := by
  rw [List.getD_eq_getElem?_getD, List.getD_eq_getElem?_getD, List.getElem?_take_of_lt h]
theorem gd_take_ge {b : List Nat} {m i : Nat} (h : m ≤ i) : (b.take m).getD i 0 = 0 := gd_ge (by rw [List.length_take]; omega)
theorem By.take {b : List Nat} (h : By b) (m : Nat) : By (b.take m) := fun i => by
  by_cases hi : i < m
  · rw [gd_take_lt hi]; exact h i
  · rw [gd_take_ge (by omega)]; omega
theorem pl_lt (bs : List Nat) (f : Nat) {len i : Nat} (h : i < len) : ((bs.drop f).take (3 + len)).getD (3 + i) 0 = bs.getD (f + 3 + i) 0 := by
  rw [gd_take_lt (by omega), gd_drop, Nat.add_assoc]
theorem pl_ge (bs : List Nat) (f : Nat) {len i : Nat} (h : len ≤ i) : ((bs.drop f).take (3 + len)).getD (3 + i) 0 = 0 := gd_take_ge (by omega)
theorem pl_len (bs : List Nat) (f : Nat) {len : Nat} (h : len ≤ 90) : ((bs.drop f).take (3 + len)).length ≤ 93 := by rw [List.length_take]; omega
theorem bt_take {b : List Nat} {len j : Nat} (h : j < 8 * len) : bt (b.take (3 + len)) j = bt b j := by
  unfold bt; rw [gd_take_lt (by omega)]
theorem num_take {b : List Nat} {len k : Nat} (w : Nat) (h : k + w ≤ 8 * len) : num (b.take (3 + len)) k w = num b k w := by
  induction w with
  | zero => rfl
  | succ w ih => show 2 * num _ k w + bt _ (k + w) = 2 * num b k w + bt b (k + w); rw [ih (by omega), bt_take (by omega)]
theorem ons_take {b : List Nat} {len k : Nat} (w : Nat) (h : k + w ≤ 8 * len) : ons (b.take (3 + len)) k w = ons b k w := by
  induction w with
  | zero => rfl
  | succ w ih => show ons _ k w + bt _ (k + w) = ons b k w + bt b (k + w); rw [ih (by omega), bt_take (by omega)]
theorem nth_take {b : List Nat} {len : Nat} (t k w : Nat) (h : t + w ≤ 8 * len) : nth (b.take (3 + len)) t k w = nth b t k w := by
  induction w with
  | zero => rfl
  | succ w ih =>
    show (if bt _ (t + w) = 1 ∧ ons _ t w = k then w + 1 else nth _ t k w) = (if bt b (t + w) = 1 ∧ ons b t w = k then w + 1 else nth b t k w)
    rw [ih (by omega), bt_take (by omega), ons_take w (by omega)]
theorem sg_take {b : List Nat} {len : Nat} (h : 75 ≤ 8 * len) : nS (b.take (3 + len)) = nS b ∧ nG (b.take (3 + len)) = nG b := ⟨ons_take 16 (by omega), ons_take 4 (by omega)⟩
theorem nC_take {b : List Nat} {len : Nat} (h : 75 ≤ 8 * len) (h2 : 75 + nS b * nG b ≤ 8 * len) : nC (b.take (3 + len)) = nC b := by
  show ons (b.take (3 + len)) 75 (nS (b.take (3 + len)) * nG (b.take (3 + len))) = _
  rw [(sg_take h).1, (sg_take h).2]
  exact ons_take _ h2
theorem isObs_take (b : List Nat) (len : Nat) : isObs (b.take (3 + len)) len ↔ isObs b len := by
  unfold isObs layok
  by_cases h : 75 ≤ 8 * len
  · have hs := sg_take (b := b) h
    rw [num_take 12 (by omega), hs.1, hs.2]
    by_cases h2 : 75 + nS b * nG b ≤ 8 * len
    · rw [nC_take h h2]
    · constructor <;> intro z <;> exact absurd z.2.2.1 h2
  · constructor <;> intro z <;> exact absurd z.1 h
theorem cell_take {b : List Nat} {len k : Nat} (h : isObs b len) (hk : k < nS b * nG b) (h1 : bt b (75 + k) = 1) : cellAt (b.take (3 + len)) k = cellAt b k := by
  obtain ⟨h75, -, h2, hc, h3⟩ := h
  have hs := sg_take (b := b) h75
  have hn := nC_take h75 h2
  have hr : k / nG b < nS b := Nat.div_lt_of_lt_mul (by rw [Nat.mul_comm]; exact hk)
  have ho : ons b 75 k < nC b := ons_lt hk h1
  unfold cellAt
  rw [hs.1, hs.2, hn, num_take 12 (by omega), nth_take 55 _ 16 (by omega), nth_take 71 _ 4 (by omega), ons_take k (by omega), num_take 8 (by omega), num_take 10 (by omega), num_take 15 (by omega), num_take 6 (by omega)]
theorem gath_take {b : List Nat} {len : Nat} (h : isObs b len) (cs : List Ce) (k : Nat) (hk : k ≤ nS b * nG b) : gath (b.take (3 + len)) cs k = gath b cs k := by
  induction k with
  | zero => rfl
  | succ k ih =>
    have ih := ih (by omega)
    have h2 := h.2.2.1
    have hb : bt (b.take (3 + len)) (75 + k) = bt b (75 + k) := bt_take (by omega)
    by_cases h1 : bt b (75 + k) = 1
    · rw [gath_on h1, gath_on (hb.trans h1), ih, cell_take h (by omega) h1]
    · rw [gath_off h1, gath_off (by rw [hb]; exact h1), ih]
