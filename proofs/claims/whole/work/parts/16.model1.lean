/-! Rows on the reference's epochs. -/
theorem fin_rep {ep epj fN gN : Nat → Int32} {fR gR : Nat → UInt64} {fS gS : Nat → Int32} {G L : Ep} (hM : RpM ep fN fR fS G L) (h1 : G.1 = 1) (ha : ∀ i, i < 8 → epj i = ep i) (hb : ∀ i, i < 5 → epj (8 + i) = ep i)
    (hc : ∀ i, i < 40 → gN i = fN i ∧ gR i = fR i ∧ gS i = fS i) (hd : ∀ i, i < G.2.2.2.2.length → gN (40 + i) = fN i ∧ gR (40 + i) = fR i ∧ gS (40 + i) = fS i) : RpM (upd epj 0 (nI 0)) gN gR gS (0, G.2) (1, G.2) := by
  obtain ⟨⟨a0, a1, a2, a3, a4⟩, -, hE, -, -, -, hz, -⟩ := hM
  have u : ∀ i, i ≠ 0 → upd epj 0 (nI 0) i = epj i := fun i h => pk_un h
  refine ⟨⟨pk_us, ?_, ?_, ?_, ?_⟩, ⟨?_, ?_, ?_, ?_, ?_⟩, hE.cong hz hc, fun i hi => ?_, Nat.zero_le _, Nat.le_refl _, hz, hz⟩
  · rw [u 1 (by decide), ha 1 (by decide)]; exact a1
  · rw [u 2 (by decide), ha 2 (by decide)]; exact a2
  · rw [u 3 (by decide), ha 3 (by decide)]; exact a3
  · rw [u 4 (by decide), ha 4 (by decide)]; exact a4
  · rw [u 8 (by decide), show (8 : Nat) = 8 + 0 from rfl, hb 0 (by decide), a0, h1]
  · rw [u 9 (by decide), show (9 : Nat) = 8 + 1 from rfl, hb 1 (by decide)]; exact a1
  · rw [u 10 (by decide), show (10 : Nat) = 8 + 2 from rfl, hb 2 (by decide)]; exact a2
  · rw [u 11 (by decide), show (11 : Nat) = 8 + 3 from rfl, hb 3 (by decide)]; exact a3
  · rw [u 12 (by decide), show (12 : Nat) = 8 + 4 from rfl, hb 4 (by decide)]; exact a4
  · obtain ⟨e1, e2, e3⟩ := hd i hi
    obtain ⟨q1, q2, q3⟩ := hE i hi
    exact ⟨e1.trans q1, e2.trans q2, e3.trans q3⟩
theorem new_rep {ep fN : Nat → Int32} {fR : Nat → UInt64} {fS : Nat → Int32} {G L : Ep} (hM : RpM ep fN fR fS G L) (t s : Int32) : RpM (upd (upd (upd (upd (upd ep 0 (nI 1)) 1 t) 2 s) 3 (nI 0)) 4 (nI 0)) fN fR fS (1, t, s, nI 0, []) L := by
  obtain ⟨-, ⟨b0, b1, b2, b3, b4⟩, -, hL, -, hx, -, hz⟩ := hM
  exact ⟨⟨rfl, rfl, rfl, rfl, rfl⟩, ⟨b0, b1, b2, b3, b4⟩, RpE.nil _ _ _, hL, Nat.le_refl _, hx, Nat.zero_le _, hz⟩
theorem g2_rep {ep epk fN gN : Nat → Int32} {fR gR : Nat → UInt64} {fS gS : Nat → Int32} {b : List Nat} {G L : Ep} (hM : RpM ep fN fR fS G L) (hE : RpE gN gR gS (gath b G.2.2.2.2 (nS b * nG b))) (h3 : epk 3 = nI (gath b G.2.2.2.2 (nS b * nG b)).length)
    (hi : ∀ i, i ≠ 3 → epk i = upd ep 4 (G.2.2.2.1 + nI 1) i) (hu : ∀ i, 40 ≤ i → gN i = fN i ∧ gR i = fR i ∧ gS i = fS i) : RpM epk gN gR gS (G2 b G) L := by
  obtain ⟨⟨a0, a1, a2, a3, a4⟩, ⟨b0, b1, b2, b3, b4⟩, hE0, hL, hx, hy, hz, hw⟩ := hM
  have u : ∀ i, i ≠ 3 → i ≠ 4 → epk i = ep i := fun i h h4 => by rw [hi i h, pk_un h4]
  refine ⟨⟨?_, ?_, ?_, h3, ?_⟩, ⟨?_, ?_, ?_, ?_, ?_⟩, hE, fun i h => ?_, hx, hy, gath_le b hz _, hw⟩
  · rw [u 0 (by decide) (by decide)]; exact a0
  · rw [u 1 (by decide) (by decide)]; exact a1
  · rw [u 2 (by decide) (by decide)]; exact a2
  · rw [hi 4 (by decide), pk_us]; rfl
  · rw [u 8 (by decide) (by decide)]; exact b0
  · rw [u 9 (by decide) (by decide)]; exact b1
  · rw [u 10 (by decide) (by decide)]; exact b2
  · rw [u 11 (by decide) (by decide)]; exact b3
  · rw [u 12 (by decide) (by decide)]; exact b4
  · obtain ⟨e1, e2, e3⟩ := hu (40 + i) (by omega)
    obtain ⟨q1, q2, q3⟩ := hL i h
    exact ⟨e1.trans q1, e2.trans q2, e3.trans q3⟩
theorem m1_gt {n : Nat} (h : n < 2 ^ 31) : ¬ nI n < -1 := fun z => nI_pos h (Int32.lt_trans z (by decide))
theorem mean_none {L : Ep} {j : Nat} (h9 : ¬ (L.1 = 1 ∧ j < L.2.2.2.2.length)) (hj : j ≤ L.2.2.2.2.length) (hj0 : L.1 ≠ 1 → j = 0) (h0 : mcnt L.2.2.2.2 j = 0) : (13830554455654793216 : UInt64) = if L.1 = 1 then mean L.2.2.2.2 else 13830554455654793216 := by
  by_cases h : L.1 = 1
  · have e : j = L.2.2.2.2.length := by omega
    subst e
    rw [if_pos h]
    unfold mean
    rw [if_pos h0]
  · rw [if_neg h]
