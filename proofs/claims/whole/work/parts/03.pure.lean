/-! What both sides answer, in natural numbers: bytes, bits, the two checks, the frames. -/
-- bytes
def Rp (f : Nat → Int32) (bs : List Nat) : Prop := ∀ i, i < bs.length → f i = nI (bs.getD i 0)
def By (bs : List Nat) : Prop := ∀ i, bs.getD i 0 < 256
theorem gd_ge {bs : List Nat} {i : Nat} (h : bs.length ≤ i) : bs.getD i 0 = 0 := by
  rw [List.getD_eq_getElem?_getD, List.getElem?_eq_none h]; rfl
theorem gd_drop (bs : List Nat) (k i : Nat) : (bs.drop k).getD i 0 = bs.getD (k + i) 0 := by
  rw [List.getD_eq_getElem?_getD, List.getD_eq_getElem?_getD, List.getElem?_drop]
theorem gd_app_lt {a b : List Nat} {i : Nat} (h : i < a.length) : (a ++ b).getD i 0 = a.getD i 0 := by
  rw [List.getD_eq_getElem?_getD, List.getD_eq_getElem?_getD, List.getElem?_append_left h]
theorem gd_app_ge {a b : List Nat} {i : Nat} (h : a.length ≤ i) : (a ++ b).getD i 0 = b.getD (i - a.length) 0 := by
  rw [List.getD_eq_getElem?_getD, List.getD_eq_getElem?_getD, List.getElem?_append_right h]
theorem By.drop {bs : List Nat} (h : By bs) (k : Nat) : By (bs.drop k) := fun i => by rw [gd_drop]; exact h _
theorem By.app {bs : List Nat} (h : By bs) {o : Nat} (ho : o < 256) : By (bs ++ [o]) := fun i => by
  by_cases hi : i < bs.length
  · rw [gd_app_lt hi]; exact h i
  · rw [gd_app_ge (by omega)]
    by_cases h0 : i - bs.length = 0
    · rw [h0]; exact ho
    · rw [gd_ge (by simp; omega)]; omega
theorem By.nil : By [] := fun i => by rw [gd_ge (by simp)]; omega
theorem Rp.app {f : Nat → Int32} {bs : List Nat} (h : Rp f bs) (o : Nat) : Rp (upd f bs.length (nI o)) (bs ++ [o]) := fun i hi => by
  rw [List.length_append] at hi
  simp only [List.length_cons, List.length_nil] at hi
  by_cases hl : i < bs.length
  · rw [pk_un (by omega), h i hl, gd_app_lt hl]
  · have : i = bs.length := by omega
    subst this
    rw [pk_us, gd_app_ge (Nat.le_refl _), Nat.sub_self]
    rfl
theorem Rp.drop {f g : Nat → Int32} {bs : List Nat} {k : Nat} (h : Rp f bs) (hg : ∀ i, i < bs.length - k → g i = f (k + i)) : Rp g (bs.drop k) := fun i hi => by
  rw [List.length_drop] at hi
  rw [hg i hi, h _ (by omega), gd_drop]
theorem Rp.nil (f : Nat → Int32) : Rp f [] := fun i hi => absurd hi (Nat.not_lt_zero _)
-- bits of a long frame's payload
def bt (b : List Nat) (j : Nat) : Nat := b.getD (3 + j / 8) 0 / 2 ^ (7 - j % 8) % 2
def num (b : List Nat) (k : Nat) : Nat → Nat
  | 0 => 0
  | w + 1 => 2 * num b k w + bt b (k + w)
def ons (b : List Nat) (k : Nat) : Nat → Nat
  | 0 => 0
  | w + 1 => ons b k w + bt b (k + w)
theorem bt_lt (b : List Nat) (j : Nat) : bt b j < 2 := Nat.mod_lt _ (by decide)
theorem num_lt (b : List Nat) (k w : Nat) : num b k w < 2 ^ w := by
  induction w with
  | zero => exact Nat.one_pos
  | succ w ih =>
    have h1 := bt_lt b (k + w)
    have h2 : 2 ^ (w + 1) = 2 * 2 ^ w := by rw [Nat.pow_succ, Nat.mul_comm]
    show 2 * num b k w + bt b (k + w) < _
    omega
theorem num_one (b : List Nat) (k : Nat) : num b k 1 = bt b k := by
  show 2 * 0 + bt b (k + 0) = bt b k
  rw [Nat.mul_zero, Nat.zero_add, Nat.add_zero]
theorem num_cons (b : List Nat) (k w : Nat) : num b k (w + 1) = 2 ^ w * bt b k + num b (k + 1) w := by
  induction w with
  | zero => rw [num_one]; show _ = 1 * bt b k + 0; omega
  | succ w ih =>
    have h : num b k (w + 1 + 1) = 2 * num b k (w + 1) + bt b (k + (w + 1)) := rfl
    have h3 : num b (k + 1) (w + 1) = 2 * num b (k + 1) w + bt b (k + 1 + w) := rfl
    rw [h, ih, h3, Nat.pow_succ, show k + 1 + w = k + (w + 1) by omega, Nat.mul_add, ← Nat.mul_assoc, Nat.mul_comm (2 ^ w) 2]
    omega
theorem num_bit (b : List Nat) (k w i : Nat) (h : i < w) : num b k w / 2 ^ (w - 1 - i) % 2 = bt b (k + i) := by
  induction w with
  | zero => omega
  | succ w ih =>
    show (2 * num b k w + bt b (k + w)) / 2 ^ (w + 1 - 1 - i) % 2 = _
    have hb := bt_lt b (k + w)
    by_cases hi : i = w
    · subst hi
      rw [show i + 1 - 1 - i = 0 by omega, Nat.pow_zero, Nat.div_one]
      omega
    · have e : w + 1 - 1 - i = (w - 1 - i) + 1 := by omega
      rw [e, Nat.pow_succ, Nat.mul_comm (2 ^ (w - 1 - i)) 2, ← Nat.div_div_eq_div_mul, show (2 * num b k w + bt b (k + w)) / 2 = num b k w by omega]
      exact ih (by omega)
theorem ons_le (b : List Nat) (k w : Nat) : ons b k w ≤ w := by
  induction w with
  | zero => exact Nat.le_refl _
  | succ w ih =>
    have := bt_lt b (k + w)
    show ons b k w + bt b (k + w) ≤ _
    omega
theorem ons_mono (b : List Nat) (k : Nat) {v w : Nat} (h : v ≤ w) : ons b k v ≤ ons b k w := by
  induction w with
  | zero => rw [Nat.le_zero.mp h]; exact Nat.le_refl _
  | succ w ih =>
    by_cases hv : v = w + 1
    · rw [hv]; exact Nat.le_refl _
    · have := ih (by omega)
      show _ ≤ ons b k w + bt b (k + w)
      omega
-- a long frame's check
def ckS (c : Nat) : Nat := if 16777216 ≤ 2 * c then (2 * c) ^^^ 25578747 else 2 * c
def ckI : Nat → Nat → Nat
  | 0, c => c
  | k + 1, c => ckS (ckI k c)
def ckB (c b : Nat) : Nat := ckI 8 (c ^^^ (b * 65536))
def crc (b : List Nat) : Nat → Nat
  | 0 => 0
  | k + 1 => ckB (crc b k) (b.getD k 0)
theorem lt_of_bits {x n : Nat} (h : ∀ i, n ≤ i → x.testBit i = false) : x < 2 ^ n := Nat.lt_pow_two_of_testBit x h
theorem ckS_lt {c : Nat} (h : c < 16777216) : ckS c < 16777216 := by
  unfold ckS
  split
  · rename_i h2
    refine lt_of_bits (n := 24) (fun i hi => ?_)
    rw [Nat.testBit_xor]
    by_cases h24 : i = 24
    · subst h24
      have e1 : (2 * c).testBit 24 = true := by
        rw [Nat.testBit_eq_decide_div_mod_eq]
        simp only [decide_eq_true_eq]
        omega
      rw [e1]
      decide
    · have e1 : (2 * c).testBit i = false := Nat.testBit_lt_two_pow (Nat.lt_of_lt_of_le (show 2 * c < 2 ^ 25 by omega) (Nat.pow_le_pow_right (by decide) (by omega)))
      have e2 : (25578747 : Nat).testBit i = false := Nat.testBit_lt_two_pow (Nat.lt_of_lt_of_le (show 25578747 < 2 ^ 25 by decide) (Nat.pow_le_pow_right (by decide) (by omega)))
      rw [e1, e2]
      rfl
  · omega
theorem ckI_lt (k : Nat) {c : Nat} (h : c < 16777216) : ckI k c < 16777216 := by
  induction k with
  | zero => exact h
  | succ k ih => exact ckS_lt ih
theorem xin_lt {c b : Nat} (hc : c < 16777216) (hb : b < 256) : c ^^^ (b * 65536) < 16777216 := Nat.xor_lt_two_pow (n := 24) hc (by omega)
theorem ckB_lt {c b : Nat} (hc : c < 16777216) (hb : b < 256) : ckB c b < 16777216 := ckI_lt 8 (xin_lt hc hb)
theorem crc_lt {b : List Nat} (h : By b) (k : Nat) : crc b k < 16777216 := by
  induction k with
  | zero => exact (by decide : (0 : Nat) < 16777216)
  | succ k ih => exact ckB_lt ih (h k)
theorem two_xor (x y : Nat) : 2 * (x ^^^ y) = 2 * x ^^^ 2 * y := by
  apply Nat.eq_of_testBit_eq
  intro i
  rw [Nat.testBit_xor]
  cases i with
  | zero => simp [Nat.testBit_zero]
  | succ i => rw [Nat.testBit_succ, Nat.testBit_succ, Nat.testBit_succ, Nat.mul_div_cancel_left _ (by decide), Nat.mul_div_cancel_left _ (by decide), Nat.mul_div_cancel_left _ (by decide), Nat.testBit_xor]
theorem ge24 {a : Nat} (h : a < 33554432) : (16777216 ≤ a) ↔ a.testBit 24 = true := by
  rw [Nat.testBit_eq_decide_div_mod_eq]
  simp only [decide_eq_true_eq]
  omega
theorem ckS_xor {x y : Nat} (hx : x < 16777216) (hy : y < 16777216) : ckS (x ^^^ y) = ckS x ^^^ ckS y := by
  have hz : x ^^^ y < 16777216 := Nat.xor_lt_two_pow (n := 24) hx hy
  unfold ckS
  have g1 := ge24 (a := 2 * x) (by omega)
  have g2 := ge24 (a := 2 * y) (by omega)
  have g3 := ge24 (a := 2 * (x ^^^ y)) (by omega)
  rw [two_xor, Nat.testBit_xor] at g3
  rw [two_xor]
  by_cases a1 : 16777216 ≤ 2 * x
  · by_cases a2 : 16777216 ≤ 2 * y
    · have : ¬ 16777216 ≤ 2 * x ^^^ 2 * y := fun z => by have := g3.mp z; rw [g1.mp a1, g2.mp a2] at this; cases this
      rw [if_pos a1, if_pos a2, if_neg this, Nat.xor_assoc, Nat.xor_comm 25578747 (2 * y ^^^ 25578747), Nat.xor_assoc, Nat.xor_self, Nat.xor_zero]
    · have e2 : (2 * y).testBit 24 = false := by cases h : (2 * y).testBit 24 with | false => rfl | true => exact absurd (g2.mpr h) a2
      have : 16777216 ≤ 2 * x ^^^ 2 * y := g3.mpr (by rw [g1.mp a1, e2]; rfl)
      rw [if_pos a1, if_neg a2, if_pos this, Nat.xor_assoc, Nat.xor_comm (2 * y), ← Nat.xor_assoc]
  · have e1 : (2 * x).testBit 24 = false := by cases h : (2 * x).testBit 24 with | false => rfl | true => exact absurd (g1.mpr h) a1
    by_cases a2 : 16777216 ≤ 2 * y
    · have : 16777216 ≤ 2 * x ^^^ 2 * y := g3.mpr (by rw [e1, g2.mp a2]; rfl)
      rw [if_neg a1, if_pos a2, if_pos this, Nat.xor_assoc]
    · have e2 : (2 * y).testBit 24 = false := by cases h : (2 * y).testBit 24 with | false => rfl | true => exact absurd (g2.mpr h) a2
      have : ¬ 16777216 ≤ 2 * x ^^^ 2 * y := fun z => by have := g3.mp z; rw [e1, e2] at this; cases this
      rw [if_neg a1, if_neg a2, if_neg this]
theorem ckI_xor (k : Nat) {x y : Nat} (hx : x < 16777216) (hy : y < 16777216) : ckI k (x ^^^ y) = ckI k x ^^^ ckI k y := by
  induction k with
  | zero => rfl
  | succ k ih => show ckS (ckI k (x ^^^ y)) = ckS (ckI k x) ^^^ ckS (ckI k y); rw [ih, ckS_xor (ckI_lt k hx) (ckI_lt k hy)]
theorem ckI_low (k : Nat) {x : Nat} (hk : k ≤ 8) (hx : x < 65536) : ckI k x = x * 2 ^ k := by
  induction k with
  | zero => show x = x * 1; omega
  | succ k ih =>
    show ckS (ckI k x) = _
    rw [ih (by omega)]
    have h1 : 2 ^ k * 2 ≤ 256 := by rw [← Nat.pow_succ]; exact Nat.pow_le_pow_right (show 0 < 2 by decide) hk
    have h2 : 2 * (x * 2 ^ k) = x * 2 ^ (k + 1) := by rw [Nat.pow_succ, Nat.mul_comm 2, Nat.mul_assoc]
    have h3 : x * 2 ^ (k + 1) < 16777216 := by
      rw [Nat.pow_succ]
      calc x * (2 ^ k * 2) ≤ x * 256 := Nat.mul_le_mul_left _ h1
        _ < 16777216 := by omega
    unfold ckS
    rw [h2, if_neg (by omega)]
theorem split16 (c b : Nat) : c ^^^ (b * 65536) = ((c / 65536 ^^^ b) * 65536) ^^^ (c % 65536) := by
  apply Nat.eq_of_testBit_eq
  intro i
  rw [Nat.testBit_xor, Nat.testBit_xor, show (65536 : Nat) = 2 ^ 16 by decide, Nat.testBit_mul_two_pow, Nat.testBit_mul_two_pow, Nat.testBit_xor, Nat.testBit_mod_two_pow, Nat.testBit_div_two_pow]
  by_cases hi : 16 ≤ i
  · simp [hi, show ¬ i < 16 by omega, show i - 16 + 16 = i by omega]
  · simp [hi, show i < 16 by omega]
/-- the table's road: one byte on -/
theorem ckB_tab {c b : Nat} (hc : c < 16777216) (hb : b < 256) : (c % 65536 * 256) ^^^ ckI 8 ((c / 65536 ^^^ b) * 65536) = ckB c b := by
  have h1 : c / 65536 ^^^ b < 256 := Nat.xor_lt_two_pow (n := 8) (by omega) (by omega)
  unfold ckB
  rw [split16, ckI_xor 8 (by omega) (by omega), ckI_low 8 (Nat.le_refl _) (x := c % 65536) (by omega), Nat.xor_comm]
-- a short frame's sums
def sx (b : List Nat) : Nat → Nat
  | 0 => 0
  | k + 1 => sx b k + b.getD (2 + k) 0
def sy (b : List Nat) : Nat → Nat
  | 0 => 0
  | k + 1 => sy b k + sx b (k + 1)
theorem sx_le {b : List Nat} (h : By b) (k : Nat) : sx b k ≤ 256 * k := by
  induction k with
  | zero => exact Nat.le_refl _
  | succ k ih => have := h (2 + k); show sx b k + b.getD (2 + k) 0 ≤ _; omega
theorem sy_le {b : List Nat} (h : By b) (k : Nat) : sy b k ≤ 256 * k * k := by
  induction k with
  | zero => exact Nat.le_refl _
  | succ k ih =>
    have h1 := sx_le h (k + 1)
    show sy b k + sx b (k + 1) ≤ 256 * (k + 1) * (k + 1)
    have e : 256 * (k + 1) * (k + 1) = 256 * k * k + 256 * (k + 1) + 256 * k := by
      rw [Nat.mul_add, Nat.mul_add, Nat.add_mul, Nat.mul_one]
      omega
    omega
-- frames: 0 wait, 1 none, else its size
def lok (b : List Nat) (n : Nat) : Prop := crc b (n - 3) = 65536 * b.getD (n - 3) 0 + 256 * b.getD (n - 2) 0 + b.getD (n - 1) 0
def sok (b : List Nat) (n : Nat) : Prop := sx b (n - 4) % 256 = b.getD (n - 2) 0 ∧ sy b (n - 4) % 256 = b.getD (n - 1) 0
noncomputable def okq (p : Prop) : Bool := @decide p (Classical.propDecidable p)
theorem okq_t {p : Prop} (h : p) : okq p = true := by unfold okq; exact @decide_eq_true p (Classical.propDecidable p) h
theorem okq_f {p : Prop} (h : ¬ p) : okq p = false := by unfold okq; exact @decide_eq_false p (Classical.propDecidable p) h
def frl (b : List Nat) : Nat := if (1 < b.length ∧ 0 < b.getD 1 0) ∨ (2 < b.length ∧ 90 < b.getD 2 0) then 1 else if 2 < b.length then 6 + b.getD 2 0 else 0
def frs (b : List Nat) : Nat := if (1 < b.length ∧ b.getD 1 0 ≠ 98) ∨ (4 < b.length ∧ 90 < b.getD 4 0) ∨ (5 < b.length ∧ 0 < b.getD 5 0) then 1 else if 5 < b.length then 8 + b.getD 4 0 else 0
def fr (b : List Nat) : Nat := if b.getD 0 0 = 211 then frl b else if b.getD 0 0 = 181 then frs b else 1
def enc (n : Nat) : Int32 := if n = 1 then -1 else nI n
noncomputable def fin (b : List Nat) (n : Nat) (ok : Prop) : Nat := if n = 0 ∨ n = 1 then n else if b.length < n then 0 else if okq ok = true then n else 1
noncomputable def clsl (b : List Nat) : Nat := fin b (frl b) (lok b (frl b))
noncomputable def clss (b : List Nat) : Nat := fin b (frs b) (sok b (frs b))
noncomputable def cls (b : List Nat) : Nat := if b.length = 0 then 0 else if b.getD 0 0 = 211 then clsl b else if b.getD 0 0 = 181 then clss b else 1
