/-! Rows on observations: doubles that are numbers, counts of bits, cells. -/
-- doubles
theorem vf_of {a : UInt64} (h : FP.Core.dIsNaN a = false) : vf_n64 a := by
  have h1 := (FP.Core.ne_nan a).mp ((FP.Core.notNaN_iff a).mp h)
  unfold vf_n64
  rw [UInt64.le_iff_toNat_le, UInt64.toNat_and, show (0x7fffffffffffffff : UInt64).toNat = 2 ^ 63 - 1 by decide, Nat.and_two_pow_sub_one_eq_mod]
  exact h1
theorem vf_fin {a : UInt64} (h : FP.Core.DFin a) : vf_n64 a := vf_of h.notNaN
def reck (w p : Nat) (f : Int32) : UInt64 := if w = 255 ∨ f = -16384 then 13830554455654793216 else FP.dmul (FP.dadd (FP.dadd (FP.i2d (nI w)) (FP.ddiv (FP.i2d (nI p)) 4652218415073722368)) (FP.ddiv (FP.i2d f) 4715268809856909312)) 4688894007676105654
theorem rk1 (p : Int32) : (FP.ddiv (FP.i2d p) 4652218415073722368).toNat % 2 ^ 63 < 1047 * 2 ^ 52 := FP.Core.ddiv_mag (K := 1056) (L := 1033) (FP.Core.i2d_mag p) (by decide) (by decide) (by decide) (by decide)
theorem rk2 (w p : Int32) : (FP.dadd (FP.i2d w) (FP.ddiv (FP.i2d p) 4652218415073722368)).toNat % 2 ^ 63 < 1058 * 2 ^ 52 := FP.Core.dadd_mag (K := 1056) (FP.Core.i2d_mag w) (Nat.lt_trans (rk1 p) (by decide)) (by decide)
theorem rk3 (f : Int32) : (FP.ddiv (FP.i2d f) 4715268809856909312).toNat % 2 ^ 63 < 1033 * 2 ^ 52 := FP.Core.ddiv_mag (K := 1056) (L := 1047) (FP.Core.i2d_mag f) (by decide) (by decide) (by decide) (by decide)
theorem rk4 (w p f : Int32) : (FP.dadd (FP.dadd (FP.i2d w) (FP.ddiv (FP.i2d p) 4652218415073722368)) (FP.ddiv (FP.i2d f) 4715268809856909312)).toNat % 2 ^ 63 < 1060 * 2 ^ 52 := FP.Core.dadd_mag (K := 1058) (rk2 w p) (Nat.lt_trans (rk3 f) (by decide)) (by decide)
theorem rk5 (w p f : Int32) : (FP.dmul (FP.dadd (FP.dadd (FP.i2d w) (FP.ddiv (FP.i2d p) 4652218415073722368)) (FP.ddiv (FP.i2d f) 4715268809856909312)) 4688894007676105654).toNat % 2 ^ 63 < 1080 * 2 ^ 52 := FP.Core.dmul_mag (Ka := 1060) (Kb := 1042) (rk4 w p f) (by decide) (by decide) (by decide)
theorem fn_of {a : UInt64} {K : Nat} (h : a.toNat % 2 ^ 63 < K * 2 ^ 52) (hK : K ≤ 2047) : vf_n64 a := vf_fin (FP.Core.fin_of_lt h hK)
theorem reck_fin (w p : Nat) (f : Int32) : FP.Core.DFin (reck w p f) := by
  unfold reck
  split
  · exact FP.Core.fin_of_lt (K := 1024) (by decide) (by decide)
  · exact FP.Core.fin_of_lt (rk5 _ _ _) (by decide)
-- the count of bits
def pcw : Nat → Nat → Nat
  | 0, _ => 0
  | w + 1, v => v % 2 + pcw w (v / 2)
theorem pcw_0 (w : Nat) : pcw w 0 = 0 := by
  induction w with
  | zero => rfl
  | succ w ih => show 0 % 2 + pcw w (0 / 2) = 0; rw [Nat.zero_div, ih]
theorem pcw_ext (w u v : Nat) (h : v < 2 ^ w) (hu : w ≤ u) : pcw u v = pcw w v := by
  induction w generalizing u v with
  | zero => rw [show v = 0 by simp at h; exact h, pcw_0]; rfl
  | succ w ih =>
    obtain ⟨u', rfl⟩ : ∃ u', u = u' + 1 := ⟨u - 1, by omega⟩
    show v % 2 + pcw u' (v / 2) = v % 2 + pcw w (v / 2)
    rw [ih u' (v / 2) (by rw [Nat.pow_succ] at h; omega) (by omega)]
theorem pcw_num (b : List Nat) (k w : Nat) : pcw w (num b k w) = ons b k w := by
  induction w with
  | zero => rfl
  | succ w ih =>
    have hb := bt_lt b (k + w)
    show (2 * num b k w + bt b (k + w)) % 2 + pcw w ((2 * num b k w + bt b (k + w)) / 2) = ons b k w + bt b (k + w)
    rw [show (2 * num b k w + bt b (k + w)) / 2 = num b k w by omega, ih]
    omega
def bcA (v : Nat) : Nat := v - (v / 2 &&& 1431655765)
def bcB (v : Nat) : Nat := (v &&& 858993459) + (v / 4 &&& 858993459)
def bcC (v : Nat) : Nat := (v + v / 16) &&& 252645135
def bcD (v : Nat) : Nat := v + v / 256
def bcE (v : Nat) : Nat := v + v / 65536
theorem land_split (a c : Nat) {b d : Nat} (hb : b < 256) (hd : d < 256) : (256 * a + b) &&& (256 * c + d) = 256 * (a &&& c) + (b &&& d) := by
  have hbd : b &&& d < 2 ^ 8 := Nat.lt_of_le_of_lt Nat.and_le_left hb
  apply Nat.eq_of_testBit_eq
  intro i
  rw [Nat.testBit_and, show (256 : Nat) = 2 ^ 8 by decide, Nat.testBit_two_pow_mul_add a hb, Nat.testBit_two_pow_mul_add c hd, Nat.testBit_two_pow_mul_add _ hbd]
  split
  · rw [Nat.testBit_and]
  · rw [Nat.testBit_and]
def byA (x : Nat) : Nat := x - (x / 2 &&& 85)
def byB (x : Nat) : Nat := (x &&& 51) + (x / 4 &&& 51)
theorem byA_1 : ∀ x, x < 256 → (x / 2 &&& 5592405) = (x / 2 &&& 85) ∧ (x / 2 &&& 85) ≤ x := by decide +kernel
theorem byA_2 : ∀ t, t < 2 → ∀ x, x < 256 → (128 * t + x / 2 &&& 85) = (x / 2 &&& 85) := by decide +kernel
theorem byA_lt (x : Nat) (h : x < 256) : byA x < 256 := Nat.lt_of_le_of_lt (Nat.sub_le _ _) h
theorem byB_1 : ∀ x, x < 256 → (x &&& 3355443) = (x &&& 51) ∧ (x / 4 &&& 3355443) = (x / 4 &&& 51) := by decide +kernel
theorem byB_2 : ∀ t, t < 4 → ∀ x, x < 256 → (64 * t + x / 4 &&& 51) = (x / 4 &&& 51) := by decide +kernel
theorem byC_1 : ∀ x, x < 256 → (byB (byA x) + byB (byA x) / 16 &&& 986895) = pcw 8 x ∧ byB (byA x) ≤ 68 ∧ byB (byA x) % 16 ≤ 4 := by decide +kernel
theorem byC_2 : ∀ t, t < 16 → ∀ x, x < 256 → (16 * t + (byB (byA x) + byB (byA x) / 16)) % 256 &&& 15 = pcw 8 x := by decide +kernel
theorem pcw8_le : ∀ x, x < 256 → pcw 8 x ≤ 8 := by decide +kernel
theorem bcA_s {h l : Nat} (hh : h < 256) (hl : l < 256) : bcA (256 * h + l) = 256 * byA h + byA l := by
  unfold bcA byA
  rw [show (256 * h + l) / 2 = 256 * (h / 2) + (128 * (h % 2) + l / 2) by omega, show (1431655765 : Nat) = 256 * 5592405 + 85 by decide, land_split _ _ (by omega) (by decide), byA_2 _ (by omega) l hl, (byA_1 h hh).1]
  have h1 := (byA_1 h hh).2
  have h2 := (byA_1 l hl).2
  omega
theorem bcB_s {x y : Nat} (hx : x < 256) (hy : y < 256) : bcB (256 * x + y) = 256 * byB x + byB y := by
  unfold bcB byB
  rw [show (256 * x + y) / 4 = 256 * (x / 4) + (64 * (x % 4) + y / 4) by omega, show (858993459 : Nat) = 256 * 3355443 + 51 by decide, land_split _ _ hy (by decide), land_split _ _ (by omega) (by decide), byB_2 _ (by omega) y hy, (byB_1 x hx).1, (byB_1 x hx).2]
  omega
theorem bcC_s {h l : Nat} (hh : h < 256) (hl : l < 256) : bcC (256 * byB (byA h) + byB (byA l)) = 256 * pcw 8 h + pcw 8 l := by
  have h1 := byC_1 h hh
  have h2 := byC_1 l hl
  unfold bcC
  rw [show 256 * byB (byA h) + byB (byA l) + (256 * byB (byA h) + byB (byA l)) / 16 = 256 * (byB (byA h) + byB (byA h) / 16) + (16 * (byB (byA h) % 16) + (byB (byA l) + byB (byA l) / 16)) by omega, show (252645135 : Nat) = 256 * 986895 + 15 by decide, land_split _ _ (by omega) (by decide), h1.1]
  have h3 := byC_2 (byB (byA h) % 16) (by omega) l hl
  rw [Nat.mod_eq_of_lt (by omega)] at h3
  rw [h3]
theorem pcw_split (u w v : Nat) : pcw (u + w) v = pcw u v + pcw w (v / 2 ^ u) := by
  induction u generalizing v with
  | zero => rw [Nat.zero_add, Nat.pow_zero, Nat.div_one]; show _ = 0 + _; omega
  | succ u ih =>
    rw [show u + 1 + w = (u + w) + 1 by omega]
    show v % 2 + pcw (u + w) (v / 2) = v % 2 + pcw u (v / 2) + _
    rw [ih, Nat.div_div_eq_div_mul, Nat.pow_succ, Nat.mul_comm 2]
    omega
theorem pcw_mod (u v : Nat) : pcw u (v % 2 ^ u) = pcw u v := by
  induction u generalizing v with
  | zero => rfl
  | succ u ih =>
    show v % 2 ^ (u + 1) % 2 + pcw u (v % 2 ^ (u + 1) / 2) = v % 2 + pcw u (v / 2)
    rw [← ih (v / 2), Nat.pow_succ, show v % (2 ^ u * 2) / 2 = v / 2 % 2 ^ u by rw [Nat.mul_comm, Nat.mod_mul_right_div_self], Nat.mod_mul_left_mod]
theorem bc_all {v : Nat} (h : v < 65536) : bcE (bcD (bcC (bcB (bcA v)))) % 64 = pcw 16 v := by
  have h1 := pcw8_le (v / 256) (by omega)
  have h2 := pcw8_le (v % 256) (by omega)
  have e : v = 256 * (v / 256) + v % 256 := by omega
  have e2 : pcw 16 v = pcw 8 (v % 256) + pcw 8 (v / 256) := by
    rw [show (16 : Nat) = 8 + 8 by decide, pcw_split 8 8 v, ← pcw_mod 8 v]
  rw [e2]
  have e3 : bcC (bcB (bcA v)) = 256 * pcw 8 (v / 256) + pcw 8 (v % 256) := by
    conv => lhs; rw [e]
    rw [bcA_s (by omega) (by omega), bcB_s (byA_lt _ (by omega)) (byA_lt _ (by omega)), bcC_s (by omega) (by omega)]
  rw [e3]
  unfold bcE bcD
  generalize pcw 8 (v / 256) = P at h1 ⊢
  generalize pcw 8 (v % 256) = Q at h2 ⊢
  rw [show (256 * P + Q) / 256 = P by omega, show (256 * P + Q + P) / 65536 = 0 by omega]
  omega
theorem bcA_le (v : Nat) : bcA v ≤ v := Nat.sub_le _ _
theorem bcB_le (v : Nat) : bcB v ≤ v + v / 4 := Nat.add_le_add Nat.and_le_left Nat.and_le_left
theorem bcC_le (v : Nat) : bcC v ≤ v + v / 16 := Nat.and_le_left
-- shifts by a number
theorem sl31 : ∀ n, n < 32 → ((nI n &&& 31).toBitVec.smod 32).toNat = n := by decide +kernel
theorem shr_n {v d : Nat} (hv : v < 2 ^ 31) (hd : d < 32) : nI v >>> (nI d &&& 31) = nI (v / 2 ^ d) := pk_shrN hv _ d (sl31 d hd)
theorem div_lt {v d K : Nat} (h : v < K) : v / 2 ^ d < K := Nat.lt_of_le_of_lt (Nat.div_le_self _ _) h
theorem and_1 {v : Nat} (hv : v < 2 ^ 32) : nI v &&& nI 1 = nI (v % 2) := pk_andN hv 1 (by decide)
def sg15 (v : Nat) : Int32 := nI (v * 131072) >>> (nI 17 &&& 31)
theorem sg15_eq {v : Nat} (h : v < 32768) : sg15 v = if v < 16384 then nI v else nI (v - 16384) - nI 16384 := by
  unfold sg15
  apply Int32.toInt_inj.mp
  rw [pk_shr _ _ 17 (by decide), Int.shiftRight_eq_div_pow]
  have e : (nI (v * 131072)).toInt = if v < 16384 then ((v * 131072 : Nat) : Int) else ((v * 131072 : Nat) : Int) - 4294967296 := by
    show (BitVec.ofNat 32 (v * 131072)).toInt = _
    rw [BitVec.toInt_eq_toNat_cond, BitVec.toNat_ofNat, Nat.mod_eq_of_lt (by omega)]
    split <;> split <;> omega
  rw [e]
  split
  · rw [nI_toInt (by omega)]; omega
  · rw [pk_sub_toInt (by omega) (by omega)]; omega
-- an observation
abbrev nS (b : List Nat) : Nat := ons b 55 16
abbrev nG (b : List Nat) : Nat := ons b 71 4
abbrev nC (b : List Nat) : Nat := ons b 75 (nS b * nG b)
def layok (b : List Nat) (bits : Nat) : Prop := 75 + nS b * nG b ≤ bits ∧ nC b ≤ 16 ∧ 75 + nS b * nG b + 18 * nS b + 21 * nC b ≤ bits
def isObs (b : List Nat) (len : Nat) : Prop := 75 ≤ 8 * len ∧ (1000 ≤ num b 0 12 ∧ num b 0 12 ≤ 1003) ∧ layok b (8 * len)
theorem sg_le (b : List Nat) : nS b * nG b ≤ 64 := Nat.mul_le_mul (ons_le b 55 16) (ons_le b 71 4)
-- cells
abbrev Ce : Type := Int32 × UInt64 × Int32
abbrev c0 : Ce := (0, 0, 0)
def RpE (fN : Nat → Int32) (fR : Nat → UInt64) (fS : Nat → Int32) (cs : List Ce) : Prop := ∀ i, i < cs.length → fN i = (cs.getD i c0).1 ∧ fR i = (cs.getD i c0).2.1 ∧ fS i = (cs.getD i c0).2.2
def addc (cs : List Ce) (x : Ce) : List Ce := if cs.length < 40 then cs ++ [x] else cs
theorem addc_le {cs : List Ce} (h : cs.length ≤ 40) (x : Ce) : (addc cs x).length ≤ 40 := by
  unfold addc; split
  · rw [List.length_append]; simp; omega
  · exact h
theorem RpE.nil (fN : Nat → Int32) (fR : Nat → UInt64) (fS : Nat → Int32) : RpE fN fR fS [] := fun i h => absurd h (Nat.not_lt_zero _)
theorem gc_app_lt {a b : List Ce} {i : Nat} (h : i < a.length) : (a ++ b).getD i c0 = a.getD i c0 := by
  rw [List.getD_eq_getElem?_getD, List.getD_eq_getElem?_getD, List.getElem?_append_left h]
theorem gc_app_eq {a : List Ce} {x : Ce} : (a ++ [x]).getD a.length c0 = x := by
  rw [List.getD_eq_getElem?_getD, List.getElem?_append_right (Nat.le_refl _), Nat.sub_self]; rfl
theorem vf_us {α : Type} {f : Nat → α} {k : Nat} {x : α} : vf_upd f k x k = x := if_pos rfl
theorem vf_un {α : Type} {f : Nat → α} {k j : Nat} {x : α} (h : j ≠ k) : vf_upd f k x j = f j := if_neg h
theorem RpE.add {fN : Nat → Int32} {fR : Nat → UInt64} {fS : Nat → Int32} {cs : List Ce} (h : RpE fN fR fS cs) (x : Int32) (y : UInt64) (z : Int32) : RpE (upd fN cs.length x) (vf_upd fR cs.length y) (upd fS cs.length z) (cs ++ [(x, y, z)]) := fun i hi => by
  rw [List.length_append] at hi
  simp only [List.length_cons, List.length_nil] at hi
  by_cases hl : i < cs.length
  · rw [pk_un (by omega), vf_un (by omega), pk_un (by omega), gc_app_lt hl]; exact h i hl
  · have e : i = cs.length := by omega
    subst e
    rw [pk_us, vf_us, pk_us, gc_app_eq]; exact ⟨rfl, rfl, rfl⟩
theorem take_succ_c {cs : List Ce} {j : Nat} (h : j < cs.length) : cs.take (j + 1) = cs.take j ++ [cs.getD j c0] := by
  rw [List.take_add_one, List.getD_eq_getElem?_getD, List.getElem?_eq_getElem h]; rfl
-- the k-th bit that is on
def nth (b : List Nat) (t k : Nat) : Nat → Nat
  | 0 => 0
  | w + 1 => if bt b (t + w) = 1 ∧ ons b t w = k then w + 1 else nth b t k w
theorem nth_at (b : List Nat) (t i : Nat) (h1 : bt b (t + i) = 1) : ∀ w, i < w → nth b t (ons b t i) w = i + 1
  | 0, h => absurd h (Nat.not_lt_zero _)
  | w + 1, h => by
    unfold nth
    by_cases e : i = w
    · subst e; rw [if_pos ⟨h1, rfl⟩]
    · have hm : ons b t (i + 1) ≤ ons b t w := ons_mono b t (by omega)
      have hs : ons b t (i + 1) = ons b t i + bt b (t + i) := rfl
      rw [if_neg (fun z => by omega)]
      exact nth_at b t i h1 w (by omega)
theorem nth_ex (b : List Nat) (t : Nat) : ∀ w k, k < ons b t w → ∃ i, i < w ∧ bt b (t + i) = 1 ∧ ons b t i = k
  | 0, k, h => absurd h (Nat.not_lt_zero _)
  | w + 1, k, h => by
    have hs : ons b t (w + 1) = ons b t w + bt b (t + w) := rfl
    have hb := bt_lt b (t + w)
    by_cases e : k < ons b t w
    · obtain ⟨i, a1, a2, a3⟩ := nth_ex b t w k e
      exact ⟨i, by omega, a2, a3⟩
    · exact ⟨w, by omega, by omega, by omega⟩
/-- the cell at place k of the grid, its numbers as they stand behind it -/
def cellAt (b : List Nat) (k : Nat) : Ce :=
  (nI (1000 * (num b 0 12 - 1000) + 10 * nth b 55 (k / nG b) 16 + nth b 71 (k % nG b) 4),
   reck (num b (75 + nS b * nG b + 8 * (k / nG b)) 8) (num b (75 + nS b * nG b + 8 * nS b + 10 * (k / nG b)) 10) (sg15 (num b (75 + nS b * nG b + 8 * nS b + 10 * nS b + 15 * ons b 75 k) 15)),
   nI (num b (75 + nS b * nG b + 8 * nS b + 10 * nS b + 15 * nC b + 6 * ons b 75 k) 6))
def gath (b : List Nat) (cs : List Ce) : Nat → List Ce
  | 0 => cs
  | k + 1 => if bt b (75 + k) = 1 then addc (gath b cs k) (cellAt b k) else gath b cs k
theorem gath_le (b : List Nat) {cs : List Ce} (h : cs.length ≤ 40) (k : Nat) : (gath b cs k).length ≤ 40 := by
  induction k with
  | zero => exact h
  | succ k ih => unfold gath; split
                 · exact addc_le ih _
                 · exact ih
-- means
def isM (x : UInt64) : Prop := Op.cmpValue (FP.dcmp x 13830554455654793216) .l = 0
noncomputable def mcnt (cs : List Ce) : Nat → Nat
  | 0 => 0
  | j + 1 => if okq (isM (cs.getD j c0).2.1) = true then mcnt cs j else mcnt cs j + 1
noncomputable def msum (cs : List Ce) : Nat → UInt64
  | 0 => FP.dconst0
  | j + 1 => if okq (isM (cs.getD j c0).2.1) = true then msum cs j else FP.dadd (msum cs j) (cs.getD j c0).2.1
noncomputable def mean (cs : List Ce) : UInt64 := if mcnt cs cs.length = 0 then 13830554455654793216 else FP.ddiv (msum cs cs.length) (FP.i2d (nI (mcnt cs cs.length)))
def FinC (cs : List Ce) : Prop := ∀ i, FP.Core.DFin (cs.getD i c0).2.1
theorem mcnt_le (cs : List Ce) (j : Nat) : mcnt cs j ≤ j := by
  induction j with
  | zero => exact Nat.le_refl _
  | succ j ih => unfold mcnt; split <;> omega
theorem msum_ok {cs : List Ce} (h : FinC cs) (j : Nat) : FP.Core.dIsNaN (msum cs j) = false := by
  induction j with
  | zero => exact (show FP.Core.DFin FP.dconst0 from FP.Core.fin_of_lt (K := 1) (by decide) (by decide)).notNaN
  | succ j ih => unfold msum; split
                 · exact ih
                 · exact FP.Core.dadd_out ih (h j)
theorem i2d_nz {n : Nat} (h : 0 < n) (hn : n < 2 ^ 31) : ¬ FP.Core.DZero (FP.i2d (nI n)) := fun hz => FP.Core.i2d_ne_zero (nI_ne0 h hn) ((FP.Core.zero_bits2 _).mp hz)
