/-! Rows on the class's own methods. -/
theorem enc_z {n : Nat} (h2 : n < 2 ^ 31) (h : enc n = 0) : n = 0 := by
  unfold enc at h
  split at h
  · exact absurd h (by decide)
  · exact (nI_eq h2 (by decide)).mp (h.trans nI_0.symm)
theorem enc_m1 {n : Nat} (h2 : n < 2 ^ 31) (h : enc n = -1) : n = 1 := Classical.byContradiction fun q => enc_ne1 q h2 h
def wbs (x : Int32) : Nat → List Nat
  | 0 => []
  | k + 1 => wb x k :: wbs x k
theorem wbs_len (x : Int32) (k : Nat) : (wbs x k).length = k := by
  induction k with
  | zero => rfl
  | succ k ih => show (wbs x k).length + 1 = k + 1; rw [ih]
def ckW (x : Int32) : Nat → Nat → Nat
  | 0, c => c
  | k + 1, c => ckW x k (ckB c (wb x k))
theorem ckW_lt (x : Int32) (k : Nat) {c : Nat} (h : c < 16777216) : ckW x k c < 16777216 := by
  induction k generalizing c with
  | zero => exact h
  | succ k ih => exact ih (ckB_lt h (wb_lt _ _))
theorem neg_0 {m : Nat} (hm : m < 2 ^ 30) : nI m - nI 1 < 0 → m = 0 := by
  intro h
  refine Classical.byContradiction fun q => ?_
  rw [pk_sub (by omega)] at h
  exact nI_pos (by omega) h
theorem neg_1 {m : Nat} (hm : m < 2 ^ 30) : ¬ nI m - nI 1 < 0 → 1 ≤ m := by
  intro h
  refine Classical.byContradiction fun q => h (pk_sneg (by decide) (by omega))
theorem dec_i (m : Nat) : nI m + Int32.ofInt (-1) = nI m - nI 1 := by
  rw [show Int32.ofInt (-1) = -nI 1 from by decide, ← Int32.sub_eq_add_neg]
theorem stepF_L {b : List Nat} {n : Nat} {c co : Nat → Int32} {G L Go Lo : Ep} {P : Po} (h : b.getD 0 0 = 211) (he : (co, Go, Lo) = takeL b n (c, G, L)) : stepF b n (c, G, L, P) = (co, Go, Lo, P) := by
  unfold stepF; rw [if_pos h]; show ((takeL b n (c, G, L)).1, _) = _; rw [← he]
theorem stepF_S {b : List Nat} {n : Nat} {c co : Nat → Int32} {G L : Ep} {P Po1 : Po} (h : b.getD 0 0 ≠ 211) (he : (co, Po1) = takeS b n c P) : stepF b n (c, G, L, P) = (co, G, L, Po1) := by
  unfold stepF; rw [if_neg h]; show ((takeS b n c P).1, _) = _; rw [← he]
theorem drop_drop' (bs : List Nat) (f n : Nat) : (bs.drop f).drop n = bs.drop (f + n) := by rw [List.drop_drop]
theorem drop_len (bs : List Nat) {n : Nat} (h : bs.length = n) : bs.drop n = [] := List.drop_of_length_le (by omega)
theorem fin_c1 : FP.Core.DFin 4502148214488346440 := FP.Core.fin_of_lt (K := 1024) (by decide) (by decide)
theorem fin_c2 : FP.Core.DFin 4562254508917369340 := FP.Core.fin_of_lt (K := 1024) (by decide) (by decide)
theorem vf_mul1 (x : Int32) : vf_n64 (FP.dmul (FP.i2d x) 4502148214488346440) := vf_of (FP.Core.dmul_out (FP.Core.i2d_fin _) fin_c1)
theorem vf_mul2 (x : Int32) : vf_n64 (FP.dmul (FP.i2d x) 4562254508917369340) := vf_of (FP.Core.dmul_out (FP.Core.i2d_fin _) fin_c2)
/-- a frame's payload alone decides -/
theorem takeL_pl {b pb : List Nat} {n : Nat} (e : pb = b.take (3 + (n - 6))) (σ : Sg) : takeL b n σ = takeL pb n σ := by
  subst e
  by_cases h : isObs b (n - 6)
  · have h' := (isObs_take b (n - 6)).mpr h
    have h75 := h.1
    have hs := sg_take (b := b) h75
    unfold takeL
    rw [okq_t h, okq_t h', if_pos rfl, if_pos rfl]
    unfold fin3 C1 G2 G1
    rw [num_take (k := 24) 30 (by omega), num_take (k := 12) 12 (by omega), num_take (k := 54) 1 (by omega), hs.1, hs.2, gath_take h _ _ (Nat.le_refl _)]
  · unfold takeL
    rw [okq_f h, okq_f (fun z => h ((isObs_take b (n - 6)).mp z))]
    rfl
