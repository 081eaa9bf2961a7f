/-! What a call makes of the state, for both sides. -/
def bmp (c : Nat → Int32) (k : Nat) : Nat → Int32 := upd c k (c k + nI 1)
abbrev Ep : Type := Nat × Int32 × Int32 × Int32 × List Ce
abbrev Po : Type := Int32 × Int32 × Int32 × Int32 × Int32
abbrev Sg : Type := (Nat → Int32) × Ep × Ep
abbrev Fu : Type := (Nat → Int32) × Ep × Ep × Po
noncomputable def G1 (b : List Nat) (G : Ep) : Ep := if okq (G.1 = 1 ∧ G.2.1 = nI (num b 24 30) ∧ G.2.2.1 = nI (num b 12 12)) = true then G else (1, nI (num b 24 30), nI (num b 12 12), nI 0, [])
noncomputable def C1 (b : List Nat) (c : Nat → Int32) (G : Ep) : Nat → Int32 := if okq (G.1 = 1 ∧ G.2.1 = nI (num b 24 30) ∧ G.2.2.1 = nI (num b 12 12)) = true then c else if G.1 = 1 then bmp c 5 else c
def G2 (b : List Nat) (G : Ep) : Ep := (G.1, G.2.1, G.2.2.1, G.2.2.2.1 + nI 1, gath b G.2.2.2.2 (nS b * nG b))
def fin3 (b : List Nat) (c : Nat → Int32) (G L : Ep) : Sg := if num b 54 1 = 0 then (bmp c 4, (0, G.2), (1, G.2)) else (c, G, L)
noncomputable def takeL (b : List Nat) (n : Nat) (σ : Sg) : Sg :=
  if okq (isObs b (n - 6)) = true then fin3 b (C1 b (bmp (bmp σ.1 0) 6) σ.2.1) (G2 b (G1 b σ.2.1)) σ.2.2 else (bmp (bmp σ.1 0) 3, σ.2.1, σ.2.2)
theorem takeL_no {b : List Nat} {n : Nat} (h : ¬ isObs b (n - 6)) (c : Nat → Int32) (G L : Ep) : takeL b n (c, G, L) = (bmp (bmp c 0) 3, G, L) := by unfold takeL; rw [okq_f h]; rfl
theorem takeL_yes {b : List Nat} {n : Nat} (h : isObs b (n - 6)) (c : Nat → Int32) (G L : Ep) : takeL b n (c, G, L) = fin3 b (C1 b (bmp (bmp c 0) 6) G) (G2 b (G1 b G)) L := by unfold takeL; rw [okq_t h]; rfl
theorem GC_same {b : List Nat} {ex : Nat} {tm sn ob : Int32} {cs : List Ce} (h : ex = 1 ∧ tm = nI (num b 24 30) ∧ sn = nI (num b 12 12)) (c : Nat → Int32) : G1 b (ex, tm, sn, ob, cs) = (ex, tm, sn, ob, cs) ∧ C1 b c (ex, tm, sn, ob, cs) = c := by
  unfold G1 C1; rw [okq_t (show (ex, tm, sn, ob, cs).1 = 1 ∧ _ from h)]; exact ⟨rfl, rfl⟩
theorem GC_new {b : List Nat} {ex : Nat} {tm sn ob : Int32} {cs : List Ce} (h : ¬ (ex = 1 ∧ tm = nI (num b 24 30) ∧ sn = nI (num b 12 12))) (c : Nat → Int32) : G1 b (ex, tm, sn, ob, cs) = (1, nI (num b 24 30), nI (num b 12 12), nI 0, []) ∧ C1 b c (ex, tm, sn, ob, cs) = if ex = 1 then bmp c 5 else c := by
  unfold G1 C1; rw [okq_f (show ¬ ((ex, tm, sn, ob, cs).1 = 1 ∧ _) from h)]; exact ⟨rfl, rfl⟩
theorem fin3_done {b : List Nat} (h : num b 54 1 = 0) (c : Nat → Int32) (G L : Ep) : fin3 b c G L = (bmp c 4, (0, G.2), (1, G.2)) := by unfold fin3; rw [if_pos h]
theorem fin3_more {b : List Nat} (h : num b 54 1 ≠ 0) (c : Nat → Int32) (G L : Ep) : fin3 b c G L = (c, G, L) := by unfold fin3; rw [if_neg h]
def isPos (b : List Nat) (n : Nat) : Prop := (b.getD 2 0 = 1 ∧ b.getD 3 0 = 7 ∧ 17 ≤ n - 8) ∧ (2 ≤ b.getD 10 0 ∧ b.getD 10 0 ≤ 4)
noncomputable def takeS (b : List Nat) (n : Nat) (c : Nat → Int32) (P : Po) : (Nat → Int32) × Po := if okq (isPos b n) = true then (bmp (bmp c 1) 7, (nI (b.getD 10 0), s4 b 6, s4 b 11, s4 b 15, s4 b 19)) else (bmp (bmp c 1) 3, P)
theorem takeS_yes {b : List Nat} {n : Nat} (h : isPos b n) (c : Nat → Int32) (P : Po) : takeS b n c P = (bmp (bmp c 1) 7, (nI (b.getD 10 0), s4 b 6, s4 b 11, s4 b 15, s4 b 19)) := by unfold takeS; rw [okq_t h]; rfl
theorem takeS_no {b : List Nat} {n : Nat} (h : ¬ isPos b n) (c : Nat → Int32) (P : Po) : takeS b n c P = (bmp (bmp c 1) 3, P) := by unfold takeS; rw [okq_f h]; rfl
theorem s4_drop (bs : List Nat) (f i : Nat) : s4 (bs.drop f) i = s4 bs (f + i) := by unfold s4; rw [gd_drop, gd_drop, gd_drop, gd_drop]; rfl
noncomputable def stepF (b : List Nat) (n : Nat) (σ : Fu) : Fu :=
  if b.getD 0 0 = 211 then ((takeL b n (σ.1, σ.2.1, σ.2.2.1)).1, (takeL b n (σ.1, σ.2.1, σ.2.2.1)).2.1, (takeL b n (σ.1, σ.2.1, σ.2.2.1)).2.2, σ.2.2.2)
  else ((takeS b n σ.1 σ.2.2.2).1, σ.2.1, σ.2.2.1, (takeS b n σ.1 σ.2.2.2).2)
noncomputable def dl : Nat → List Nat → Nat → Fu → List Nat × Nat × Fu
  | 0, b, t, σ => (b, t, σ)
  | k + 1, b, t, σ => if cls b = 0 then (b, t, σ) else if cls b = 1 then dl k (b.drop 1) t (bmp σ.1 2, σ.2) else dl k (b.drop (cls b)) (t + 1) (stepF b (cls b) σ)
theorem fin_cases (b : List Nat) (n : Nat) (ok : Prop) (h2 : n = 0 ∨ n = 1 ∨ 6 ≤ n) : fin b n ok = 0 ∨ fin b n ok = 1 ∨ (6 ≤ fin b n ok ∧ fin b n ok ≤ b.length ∧ fin b n ok = n ∧ ok) := by
  unfold fin
  split
  · omega
  · split
    · omega
    · split
      · rename_i hk
        refine Or.inr (Or.inr ⟨by omega, by omega, rfl, ?_⟩)
        exact Classical.byContradiction fun q => by rw [okq_f q] at hk; cases hk
      · omega
theorem frl_cases (b : List Nat) : frl b = 0 ∨ frl b = 1 ∨ (6 ≤ frl b ∧ frl b ≤ 96) := by
  unfold frl; split
  · omega
  · split <;> omega
theorem frs_cases (b : List Nat) : frs b = 0 ∨ frs b = 1 ∨ (8 ≤ frs b ∧ frs b ≤ 98) := by
  unfold frs; split
  · omega
  · split <;> omega
theorem clsl_cases (b : List Nat) : clsl b = 0 ∨ clsl b = 1 ∨ (6 ≤ clsl b ∧ clsl b ≤ b.length ∧ clsl b ≤ 96) := by
  have h := frl_cases b
  rcases fin_cases b (frl b) (lok b (frl b)) (by omega) with h1 | h1 | ⟨h1, h2, h3, -⟩
  · exact Or.inl h1
  · exact Or.inr (Or.inl h1)
  · exact Or.inr (Or.inr ⟨h1, h2, by show fin _ _ _ ≤ 96; omega⟩)
theorem clss_cases (b : List Nat) : clss b = 0 ∨ clss b = 1 ∨ (8 ≤ clss b ∧ clss b ≤ b.length ∧ clss b ≤ 98) := by
  have h := frs_cases b
  rcases fin_cases b (frs b) (sok b (frs b)) (by omega) with h1 | h1 | ⟨h1, h2, h3, -⟩
  · exact Or.inl h1
  · exact Or.inr (Or.inl h1)
  · exact Or.inr (Or.inr ⟨by show 8 ≤ fin _ _ _; omega, h2, by show fin _ _ _ ≤ 98; omega⟩)
theorem cls_cases (b : List Nat) : cls b = 0 ∨ cls b = 1 ∨ (6 ≤ cls b ∧ cls b ≤ b.length ∧ cls b ≤ 98 ∧ ((b.getD 0 0 = 211 ∧ cls b ≤ 96) ∨ (b.getD 0 0 = 181 ∧ 8 ≤ cls b))) := by
  have h1 := clsl_cases b
  have h2 := clss_cases b
  unfold cls
  split
  · omega
  · split
    · omega
    · split <;> omega
theorem cls_nil {b : List Nat} (h : b.length = 0) : cls b = 0 := by unfold cls; rw [if_pos h]
theorem dl_more : ∀ (n : Nat) (b : List Nat) (t : Nat) (σ : Fu), b.length ≤ n → dl n b t σ = dl b.length b t σ := by
  have key : ∀ (n m : Nat) (b : List Nat) (t : Nat) (σ : Fu), b.length ≤ n → b.length ≤ m → dl n b t σ = dl m b t σ := by
    intro n
    induction n with
    | zero =>
      intro m b t σ h1 h2
      have hc := cls_nil (b := b) (by omega)
      cases m with
      | zero => rfl
      | succ m => show _ = if cls b = 0 then _ else _; rw [if_pos hc]; rfl
    | succ n ih =>
      intro m b t σ h1 h2
      cases m with
      | zero =>
        have hc := cls_nil (b := b) (by omega)
        show (if cls b = 0 then _ else _) = _; rw [if_pos hc]; rfl
      | succ m =>
        show (if cls b = 0 then (b, t, σ) else if cls b = 1 then dl n (b.drop 1) t (bmp σ.1 2, σ.2) else dl n (b.drop (cls b)) (t + 1) (stepF b (cls b) σ)) = (if cls b = 0 then (b, t, σ) else if cls b = 1 then dl m (b.drop 1) t (bmp σ.1 2, σ.2) else dl m (b.drop (cls b)) (t + 1) (stepF b (cls b) σ))
        by_cases c0 : cls b = 0
        · rw [if_pos c0, if_pos c0]
        · have hl : b.length ≠ 0 := fun z => c0 (cls_nil z)
          rw [if_neg c0, if_neg c0]
          by_cases c1 : cls b = 1
          · rw [if_pos c1, if_pos c1, ih m _ _ _ (by rw [List.length_drop]; omega) (by rw [List.length_drop]; omega)]
          · have h6 := cls_cases b
            rw [if_neg c1, if_neg c1, ih m _ _ _ (by rw [List.length_drop]; omega) (by rw [List.length_drop]; omega)]
  exact fun n b t σ h => key n b.length b t σ h (Nat.le_refl _)
theorem dl_wait {b : List Nat} (h : cls b = 0) (t : Nat) (σ : Fu) : dl b.length b t σ = (b, t, σ) := by
  rw [← dl_more (b.length + 1) b t σ (Nat.le_succ _)]
  show (if cls b = 0 then _ else _) = _; rw [if_pos h]
theorem dl_skip {b : List Nat} (h : cls b = 1) (t : Nat) (σ : Fu) : dl b.length b t σ = dl (b.drop 1).length (b.drop 1) t (bmp σ.1 2, σ.2) := by
  rw [← dl_more (b.length + 1) b t σ (Nat.le_succ _)]
  show (if cls b = 0 then _ else if cls b = 1 then _ else _) = _
  rw [if_neg (by omega), if_pos h]
  exact dl_more _ _ _ _ (by rw [List.length_drop]; omega)
theorem dl_take {b : List Nat} {n : Nat} (h : cls b = n) (h0 : 2 ≤ n) (t : Nat) (σ : Fu) : dl b.length b t σ = dl (b.drop n).length (b.drop n) (t + 1) (stepF b n σ) := by
  subst h
  rw [← dl_more (b.length + 1) b t σ (Nat.le_succ _)]
  show (if cls b = 0 then _ else if cls b = 1 then _ else _) = _
  rw [if_neg (by omega), if_neg (by omega)]
  exact dl_more _ _ _ _ (by rw [List.length_drop]; omega)
theorem enc_ne1 {n : Nat} (h : n ≠ 1) (h2 : n < 2 ^ 31) : ¬ enc n = -1 := by
  unfold enc; rw [if_neg h]
  intro z
  have h1 := nI_pos h2
  rw [z] at h1
  exact h1 (by decide)
