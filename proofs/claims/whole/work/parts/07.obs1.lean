/-! Rows on an observation's grid. -/
theorem narB {m : Nat} (h : m < 2) : narrow .boolean (.int (nI m)) = .int (nI m) := by
  rcases (show m = 0 ∨ m = 1 by omega) with rfl | rfl <;> rfl
theorem fitB {m : Nat} (h : m < 2) : fits .boolean (.int (nI m)) = true := by
  rcases (show m = 0 ∨ m = 1 by omega) with rfl | rfl <;> rfl
theorem ons_lt {b : List Nat} {t i w : Nat} (hi : i < w) (h : bt b (t + i) = 1) : ons b t i < ons b t w := by
  have h1 := ons_mono b t (show i + 1 ≤ w by omega)
  have h2 : ons b t (i + 1) = ons b t i + bt b (t + i) := rfl
  omega
theorem cell_eq {b : List Nat} {i j : Nat} (hi : i < 16) (h1 : bt b (55 + i) = 1) (hj : j < 4) (h2 : bt b (71 + j) = 1) : cellAt b (ons b 55 i * nG b + ons b 71 j) =
    (nI (1000 * (num b 0 12 - 1000) + 10 * (i + 1) + (j + 1)),
     reck (num b (75 + nS b * nG b + 8 * ons b 55 i) 8) (num b (75 + nS b * nG b + 8 * nS b + 10 * ons b 55 i) 10) (sg15 (num b (75 + nS b * nG b + 8 * nS b + 10 * nS b + 15 * ons b 75 (ons b 55 i * nG b + ons b 71 j)) 15)),
     nI (num b (75 + nS b * nG b + 8 * nS b + 10 * nS b + 15 * nC b + 6 * ons b 75 (ons b 55 i * nG b + ons b 71 j)) 6)) := by
  have hl : ons b 71 j < nG b := ons_lt hj h2
  have e1 : (ons b 55 i * nG b + ons b 71 j) / nG b = ons b 55 i := by
    rw [Nat.mul_comm, Nat.mul_add_div (by omega), Nat.div_eq_of_lt hl, Nat.add_zero]
  have e2 : (ons b 55 i * nG b + ons b 71 j) % nG b = ons b 71 j := by
    rw [Nat.mul_comm, Nat.mul_add_mod, Nat.mod_eq_of_lt hl]
  unfold cellAt
  rw [e1, e2, nth_at b 55 i h1 16 hi, nth_at b 71 j h2 4 hj]
theorem gath_on {b : List Nat} {cs : List Ce} {k : Nat} (h : bt b (75 + k) = 1) : gath b cs (k + 1) = addc (gath b cs k) (cellAt b k) := by
  show (if bt b (75 + k) = 1 then _ else _) = _; rw [if_pos h]
theorem gath_off {b : List Nat} {cs : List Ce} {k : Nat} (h : bt b (75 + k) ≠ 1) : gath b cs (k + 1) = gath b cs k := by
  show (if bt b (75 + k) = 1 then _ else _) = _; rw [if_neg h]
theorem addc_lt {cs : List Ce} (h : cs.length < 40) (x : Ce) : addc cs x = cs ++ [x] := by unfold addc; rw [if_pos h]
theorem addc_ge {cs : List Ce} (h : ¬ cs.length < 40) (x : Ce) : addc cs x = cs := by unfold addc; rw [if_neg h]
theorem addc_take {cs : List Ce} {j : Nat} (h : j < cs.length) (hc : cs.length ≤ 40) : addc (cs.take j) ((cs.getD j c0).1, (cs.getD j c0).2.1, (cs.getD j c0).2.2) = cs.take (j + 1) := by
  rw [addc_lt (by rw [List.length_take]; omega), take_succ_c h]
