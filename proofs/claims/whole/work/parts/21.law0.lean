/-! What stays true of the state over all calls. -/
def IvS (G L : Ep) (P : Po) : Prop := FinC G.2.2.2.2 ∧ FinC L.2.2.2.2 ∧ (L.1 ≠ 1 → L.2.2.2.2 = []) ∧ (P = (0, 0, 0, 0, 0) ∨ 0 < P.1)
theorem fin_0 : FP.Core.DFin 0 := FP.Core.fin_of_lt (K := 1) (by decide) (by decide)
theorem FinC.nil : FinC [] := fun i => by rw [List.getD_eq_getElem?_getD]; exact fin_0
theorem FinC.add {cs : List Ce} (h : FinC cs) {x : Ce} (hx : FP.Core.DFin x.2.1) : FinC (addc cs x) := by
  unfold addc
  split
  · intro i
    by_cases hi : i < cs.length
    · rw [gc_app_lt hi]; exact h i
    · by_cases e : i = cs.length
      · subst e; rw [gc_app_eq]; exact hx
      · rw [List.getD_eq_getElem?_getD, List.getElem?_eq_none (by simp; omega)]; exact fin_0
  · exact h
theorem FinC.ga {cs : List Ce} (h : FinC cs) (b : List Nat) (k : Nat) : FinC (gath b cs k) := by
  induction k with
  | zero => exact h
  | succ k ih =>
    show FinC (if bt b (75 + k) = 1 then addc (gath b cs k) (cellAt b k) else gath b cs k)
    split
    · exact ih.add (reck_fin _ _ _)
    · exact ih
theorem pos_nI {n : Nat} (h : 0 < n) (h2 : n < 2 ^ 31) : 0 < nI n := by
  have := nI_lt h h2
  rwa [nI_0] at this
theorem takeL_inv {b : List Nat} {n : Nat} {c : Nat → Int32} {G L : Ep} {P : Po} (h : IvS G L P) : IvS (takeL b n (c, G, L)).2.1 (takeL b n (c, G, L)).2.2 P := by
  obtain ⟨h1, h2, h3, h4⟩ := h
  by_cases ho : isObs b (n - 6)
  · rw [takeL_yes ho]
    have hg : FinC (G2 b (G1 b G)).2.2.2.2 := by
      refine FinC.ga ?_ b _
      unfold G1
      split
      · exact h1
      · exact FinC.nil
    unfold fin3
    split
    · exact ⟨hg, hg, fun z => absurd rfl z, h4⟩
    · exact ⟨hg, h2, h3, h4⟩
  · rw [takeL_no ho]
    exact ⟨h1, h2, h3, h4⟩
theorem takeS_inv {b : List Nat} {n : Nat} {c : Nat → Int32} {G L : Ep} {P : Po} (h : IvS G L P) : IvS G L (takeS b n c P).2 := by
  obtain ⟨h1, h2, h3, h4⟩ := h
  by_cases ho : isPos b n
  · rw [takeS_yes ho]
    exact ⟨h1, h2, h3, Or.inr (pos_nI (by have := ho.2.1; omega) (by have := ho.2.2; omega))⟩
  · rw [takeS_no ho]
    exact ⟨h1, h2, h3, h4⟩
theorem stepF_inv {b : List Nat} {n : Nat} {σ : Fu} (h : IvS σ.2.1 σ.2.2.1 σ.2.2.2) : IvS (stepF b n σ).2.1 (stepF b n σ).2.2.1 (stepF b n σ).2.2.2 := by
  unfold stepF
  split
  · exact takeL_inv h
  · exact takeS_inv h
theorem dl_inv : ∀ (k : Nat) (b : List Nat) (t : Nat) (σ : Fu), By b → IvS σ.2.1 σ.2.2.1 σ.2.2.2 → By (dl k b t σ).1 ∧ IvS (dl k b t σ).2.2.2.1 (dl k b t σ).2.2.2.2.1 (dl k b t σ).2.2.2.2.2
  | 0, b, t, σ, hb, h => ⟨hb, h⟩
  | k + 1, b, t, σ, hb, h => by
    unfold dl
    split
    · exact ⟨hb, h⟩
    · split
      · exact dl_inv k _ _ _ (hb.drop 1) h
      · exact dl_inv k _ _ _ (hb.drop _) (stepF_inv h)
theorem fin_0' {b : List Nat} {n : Nat} {ok : Prop} (h : fin b n ok = 0) : n = 0 ∨ b.length < n := by
  unfold fin at h
  split at h
  · omega
  · split at h
    · omega
    · split at h <;> omega
theorem cls0_len {b : List Nat} (h : cls b = 0) : b.length ≤ 97 := by
  unfold cls at h
  split at h
  · omega
  · split at h
    · have h1 := fin_0' h
      have h2 := frl_cases b
      rcases h1 with h1 | h1
      · unfold frl at h1
        split at h1
        · omega
        · split at h1 <;> omega
      · omega
    · split at h
      · have h1 := fin_0' h
        have h2 := frs_cases b
        rcases h1 with h1 | h1
        · unfold frs at h1
          split at h1
          · omega
          · split at h1 <;> omega
        · omega
      · omega
theorem wbs_By (x : Int32) {bs : List Nat} (h : By bs) : ∀ k, By (bs ++ wbs x k) := by
  intro k i
  by_cases hi : i < bs.length
  · rw [gd_app_lt hi]; exact h i
  · rw [gd_app_ge (by omega)]
    generalize i - bs.length = j
    induction k generalizing j with
    | zero => exact By.nil j
    | succ k ih =>
      cases j with
      | zero => exact wb_lt x k
      | succ j => exact ih j
theorem lw_cmp {L i : Nat} (hL : L ≤ 2048) (hi : i ≤ 4096) : nI L - nI 4 < nI i ↔ L < i + 4 := by
  rw [Int32.lt_iff_toInt_lt, pk_sub_toInt (by omega) (by omega), nI_toInt (by omega)]
  omega
theorem four_ex {y : Int32} (h : nI 1 ≤ y ∧ y ≤ nI 4) : ∃ k : Nat, (1 ≤ k ∧ k ≤ 4) ∧ y = nI k := by
  have h0 : ¬ y < 0 := fun z => absurd (Int32.le_trans h.1 (Int32.le_of_lt z)) (by decide)
  obtain ⟨k, hk, rfl⟩ := nI_of h0
  exact ⟨k, ⟨(nI_leI (by decide) hk).mp h.1, (nI_leI hk (by decide)).mp h.2⟩, rfl⟩
theorem four_no {y : Int32} (h : ¬ (nI 1 ≤ y ∧ y ≤ nI 4)) : y < nI 1 ∨ nI 4 < y := by
  by_cases h1 : nI 1 ≤ y
  · exact Or.inr (Int32.not_le.mp (fun z => h ⟨h1, z⟩))
  · exact Or.inl (Int32.not_le.mp h1)
theorem mul0_1 : FP.dmul (FP.i2d 0) 4502148214488346440 = FP.dconst0 := by decide +kernel
theorem mul0_2 : FP.dmul (FP.i2d 0) 4562254508917369340 = FP.dconst0 := by decide +kernel
theorem mean_eq {ex2 : Nat} {cs2 : List Ce} (h : ex2 ≠ 1 → cs2 = []) : (if ex2 = 1 then mean cs2 else 13830554455654793216) = mean cs2 := by
  by_cases h1 : ex2 = 1
  · rw [if_pos h1]
  · rw [if_neg h1, h h1]; unfold mean; rw [if_pos (show mcnt [] ([] : List Ce).length = 0 from rfl)]
theorem place_eq {p0 p1 p2 p3 p4 : Int32} (h : (p0, p1, p2, p3, p4) = ((0, 0, 0, 0, 0) : Po) ∨ 0 < p0) (j : Nat) :
    (if p0 = 0 then FP.dconst0 else if j = 0 then FP.dmul (FP.i2d p2) 4502148214488346440 else if j = 1 then FP.dmul (FP.i2d p3) 4502148214488346440 else if j = 2 then FP.dmul (FP.i2d p4) 4562254508917369340 else FP.dconst0) =
    if j = 0 then FP.dmul (FP.i2d p2) 4502148214488346440 else if j = 1 then FP.dmul (FP.i2d p3) 4502148214488346440 else if j = 2 then FP.dmul (FP.i2d p4) 4562254508917369340 else FP.dconst0 := by
  rcases h with h | h
  · cases h
    rw [if_pos rfl, mul0_1, mul0_2]
    split
    · rfl
    · split
      · rfl
      · split <;> rfl
  · rw [if_neg (fun z => by rw [z] at h; exact absurd h (by decide))]
theorem raw_eq {p0 p1 p2 p3 p4 : Int32} (h : (p0, p1, p2, p3, p4) = ((0, 0, 0, 0, 0) : Po) ∨ 0 < p0) (j : Nat) :
    (if 0 < p0 then (if j = 0 then p1 else if j = 1 then p2 else if j = 2 then p3 else if j = 3 then p4 else nI 0) else nI 0) = if j = 0 then p1 else if j = 1 then p2 else if j = 2 then p3 else if j = 3 then p4 else nI 0 := by
  rcases h with h | h
  · cases h
    rw [if_neg (by decide)]
    split
    · rfl
    · split
      · rfl
      · split
        · rfl
        · split <;> rfl
  · rw [if_pos h]
theorem flush_inv {G L : Ep} {P : Po} (h : IvS G L P) : IvS (0, G.2) L P := h
theorem RpM.lose {ep fN : Nat → Int32} {fR : Nat → UInt64} {fS : Nat → Int32} {G L : Ep} (h : RpM ep fN fR fS G L) : RpM (upd ep 0 (nI 0)) fN fR fS (0, G.2) L := by
  obtain ⟨⟨a0, a1, a2, a3, a4⟩, ⟨b0, b1, b2, b3, b4⟩, h1, h2, h3, h4, h5, h6⟩ := h
  exact ⟨⟨rfl, a1, a2, a3, a4⟩, ⟨b0, b1, b2, b3, b4⟩, h1, h2, Nat.zero_le _, h4, h5, h6⟩
section RW4
variable {p : Program} {l : Launch} {e : Env} {R : Room} {s : State} {m : MethodId} {args : Array Value} {below : List Frame} {meth : Method} {c : Code} {H : Heap} {locs : List Loc} {cells slots : Nat} {Q : State → Prop} {cc : ByteArray} {pc : Nat} {ls : Array Slot} {rest : List Value} {A : Nat → Prop} {H0 : Heap}
theorem s_ld (hx : p.tables.exec = Jvm.exec) (hb : c.code = cc) {b L : Nat} {xs : Nat → Int32} (hX : va_X b L xs s H0) (hbl : b < H0.size) (hbA : ¬ A b) (hS : va_S A H0 H locs) {i : Nat} (hin : i < L) (hL : L < 2 ^ 31) (hdg : decode cc pc = .ok (.iaload, 1))
    (k : W p l e R s m args below meth c H locs cells slots Q (F0 m (pc + 1) ls (.int (xs i) :: rest))) : W p l e R s m args below meth c H locs cells slots Q (F0 m pc ls (.int (nI i) :: .ref b :: rest)) :=
  va_sld hx hb hX hbl hbA hS (vp_in_nI hin hL) hdg (by rw [nI_clamp (Nat.lt_trans hin hL)]; exact k)
end RW4
