set_option maxHeartbeats 4000000 in
set_option maxRecDepth 100000 in
/-- the cells of an observation -/
theorem c_X5_gather {zl : Launch} {D : va_G} {cI cD : ClassId} (mo : Nat) (n : Nat) (vk : Nat) (vc : Nat) (vt : Nat) (vn : Nat) (vr : Nat) (vs : Nat) (ve : Nat) (vp : Nat) (f : Nat → Int32) (bs : List Nat) (fN : Nat → Int32) (fR : Nat → UInt64) (fS : Nat → Int32) (ep : Nat → Int32) (cs : List Ce) (len : Nat) (hf : Rp f bs) (hbn : bs.length = n) (hn : n ≤ 160) (hB : By bs) (hE : RpE fN fR fS cs) (he3 : ep 3 = nI cs.length) (hz : cs.length ≤ 40) (hlay : layok bs (8 * len)) (hlen : len + 6 ≤ n) (hmsg : 1000 ≤ num bs 0 12) : Cx zl yX5_gather wsX5_gather ({ frames := 2, cells := 0, slots := 0, locals := 50 }) D cI cD [.ref mo, .int (nI (1000 * (num bs 0 12 - 1000))), .int (nI (nS bs)), .int (nI (nG bs)), .int (nI (nC bs))] [(mo, .inr (5, [.int (nI n), .ref vk, .ref vc, .ref vt, .ref vn, .ref vr, .ref vs, .ref ve, .ref vp])), (vk, .inl (cI, 160, .inl f)), (vn, .inl (cI, 80, .inl fN)), (vr, .inl (cD, 80, .inr (.inr (.inr (.inl fR))))), (vs, .inl (cI, 80, .inl fS)), (ve, .inl (cI, 16, .inl ep))] (fun v w1 => ∃ (fNo : Nat → Int32), ∃ (fRo : Nat → UInt64), ∃ (fSo : Nat → Int32), ∃ (epo : Nat → Int32), w1 = [(mo, .inr (5, [.int (nI n), .ref vk, .ref vc, .ref vt, .ref vn, .ref vr, .ref vs, .ref ve, .ref vp])), (vk, .inl (cI, 160, .inl f)), (vn, .inl (cI, 80, .inl fNo)), (vr, .inl (cD, 80, .inr (.inr (.inr (.inl fRo))))), (vs, .inl (cI, 80, .inl fSo)), (ve, .inl (cI, 16, .inl epo))] ∧ v = none ∧ RpE fNo fRo fSo (gath bs cs (nS bs * nG bs)) ∧ epo 3 = nI (gath bs cs (nS bs * nG bs)).length ∧ (∀ i, i ≠ 3 → epo i = ep i) ∧ ∀ i, 40 ≤ i → fNo i = fN i ∧ fRo i = fR i ∧ fSo i = fS i) := by
  refine Met.ofW (cc := cX5_gather) (maxL := 12) (ret := none) (by decide) rfl ?_
  intro zp ze zs zm zargs zb zt zc zs₁ B hml hv
  obtain ⟨rfl, hP, hK, hD0, hN⟩ := hv
  have hx := B.exec
  have hb := B.bytes
  have hr := B.returns
  have hts := atoms_spec (ws := wsX5_gather) B.pre
  have hown : zs.vm.findClass RX5 = some zm.cls := findClass_of_methodNamed B.named
  have hlocks := B.notSynchronized
  have hD := inW_self hD0
  have hS : va_S (inW [(mo, .inr (5, [.int (nI n), .ref vk, .ref vc, .ref vt, .ref vn, .ref vr, .ref vs, .ref ve, .ref vp])), (vk, .inl (cI, 160, .inl f)), (vn, .inl (cI, 80, .inl fN)), (vr, .inl (cD, 80, .inr (.inr (.inr (.inl fR))))), (vs, .inl (cI, 80, .inl fS)), (ve, .inl (cI, 16, .inl ep))]) zs.heap zs.heap [] := va_S.rf
  have hl := lv_entry [.ref mo, .int (nI (1000 * (num bs 0 12 - 1000))), .int (nI (nS bs)), .int (nI (nG bs)), .int (nI (nC bs))] (n := 12) (Nat.le_of_ble_eq_true rfl)
  rw [lg_entry_eq]
  generalize (lg_sl [.ref mo, .int (nI (1000 * (num bs 0 12 - 1000))), .int (nI (nS bs)), .int (nI (nG bs)), .int (nI (nC bs))] ++ List.replicate (12 - (lg_sl [.ref mo, .int (nI (1000 * (num bs 0 12 - 1000))), .int (nI (nS bs)), .int (nI (nG bs)), .int (nI (nC bs))]).length) Slot.unset).toArray = ls at hl ⊢
  have hl : lv_has ls 12 [(0, .ref mo), (1, .int (nI (1000 * (num bs 0 12 - 1000)))), (2, .int (nI (nS bs))), (3, .int (nI (nG bs))), (4, .int (nI (nC bs)))] := hl
  have q55 := ons_le bs 55 16
  have q71 := ons_le bs 71 4
  have qsg := sg_le bs
  have qa : nS bs ≤ 16 := ons_le _ _ _
  have qd : nG bs ≤ 4 := ons_le _ _ _
  have qc : nC bs = ons bs 75 (nS bs * nG bs) := rfl
  have q75 := ons_le bs 75 (nS bs * nG bs)
  have q12 := num_lt bs 0 12
  have hl1 := hlay.1
  have hl2 := hlay.2.1
  have hl3 := hlay.2.2
  have cuts : ∀ fuel : Nat, (∀ (j : Nat), ∀ (fNj : Nat → Int32), ∀ (fRj : Nat → UInt64), ∀ (fSj : Nat → Int32), ∀ (epj : Nat → Int32), (j ≤ nS bs * nG bs) → (RpE fNj fRj fSj (gath bs cs j)) → (epj 3 = nI (gath bs cs j).length) → (∀ i, i ≠ 3 → epj i = ep i) → (∀ i, 40 ≤ i → fNj i = fN i ∧ fRj i = fR i ∧ fSj i = fS i) → (nS bs * nG bs - j) < fuel → ∀ (H : Heap) (locs : List Loc), va_P D vwCl [(mo, .inr (5, [.int (nI n), .ref vk, .ref vc, .ref vt, .ref vn, .ref vr, .ref vs, .ref ve, .ref vp])), (vk, .inl (cI, 160, .inl f)), (vn, .inl (cI, 80, .inl fNj)), (vr, .inl (cD, 80, .inr (.inr (.inr (.inl fRj))))), (vs, .inl (cI, 80, .inl fSj)), (ve, .inl (cI, 16, .inl epj))] H → va_D (inW [(mo, .inr (5, [.int (nI n), .ref vk, .ref vc, .ref vt, .ref vn, .ref vr, .ref vs, .ref ve, .ref vp])), (vk, .inl (cI, 160, .inl f)), (vn, .inl (cI, 80, .inl fN)), (vr, .inl (cD, 80, .inr (.inr (.inr (.inl fR))))), (vs, .inl (cI, 80, .inl fS)), (ve, .inl (cI, 16, .inl ep))]) [(mo, .inr (5, [.int (nI n), .ref vk, .ref vc, .ref vt, .ref vn, .ref vr, .ref vs, .ref ve, .ref vp])), (vk, .inl (cI, 160, .inl f)), (vn, .inl (cI, 80, .inl fNj)), (vr, .inl (cD, 80, .inr (.inr (.inr (.inl fRj))))), (vs, .inl (cI, 80, .inl fSj)), (ve, .inl (cI, 16, .inl epj))] → va_S (inW [(mo, .inr (5, [.int (nI n), .ref vk, .ref vc, .ref vt, .ref vn, .ref vr, .ref vs, .ref ve, .ref vp])), (vk, .inl (cI, 160, .inl f)), (vn, .inl (cI, 80, .inl fN)), (vr, .inl (cD, 80, .inr (.inr (.inr (.inl fR))))), (vs, .inl (cI, 80, .inl fS)), (ve, .inl (cI, 16, .inl ep))]) zs.heap H locs → ∀ (ls : Array Slot), lv_has ls 12 [(0, .ref mo), (1, .int (nI (1000 * (num bs 0 12 - 1000)))), (2, .int (nI (nS bs))), (3, .int (nI (nG bs))), (5, .int (nI (75 + nS bs * nG bs))), (6, .int (nI (75 + nS bs * nG bs + 8 * nS bs))), (7, .int (nI (75 + nS bs * nG bs + 8 * nS bs + 10 * nS bs))), (8, .int (nI (75 + nS bs * nG bs + 8 * nS bs + 10 * nS bs + 15 * nC bs))), (9, .int (nI (ons bs 75 j))), (10, .int (nI j))] → W zp zl ze ({ frames := 2, cells := 0, slots := 0, locals := 50 }) zs zm [.ref mo, .int (nI (1000 * (num bs 0 12 - 1000))), .int (nI (nS bs)), .int (nI (nG bs)), .int (nI (nC bs))].toArray zb zt zc H locs 0 0 (MQ zb (Xq D [(mo, .inr (5, [.int (nI n), .ref vk, .ref vc, .ref vt, .ref vn, .ref vr, .ref vs, .ref ve, .ref vp])), (vk, .inl (cI, 160, .inl f)), (vn, .inl (cI, 80, .inl fN)), (vr, .inl (cD, 80, .inr (.inr (.inr (.inl fR))))), (vs, .inl (cI, 80, .inl fS)), (ve, .inl (cI, 16, .inl ep))] (fun v w1 => ∃ (fNo : Nat → Int32), ∃ (fRo : Nat → UInt64), ∃ (fSo : Nat → Int32), ∃ (epo : Nat → Int32), w1 = [(mo, .inr (5, [.int (nI n), .ref vk, .ref vc, .ref vt, .ref vn, .ref vr, .ref vs, .ref ve, .ref vp])), (vk, .inl (cI, 160, .inl f)), (vn, .inl (cI, 80, .inl fNo)), (vr, .inl (cD, 80, .inr (.inr (.inr (.inl fRo))))), (vs, .inl (cI, 80, .inl fSo)), (ve, .inl (cI, 16, .inl epo))] ∧ v = none ∧ RpE fNo fRo fSo (gath bs cs (nS bs * nG bs)) ∧ epo 3 = nI (gath bs cs (nS bs * nG bs)).length ∧ (∀ i, i ≠ 3 → epo i = ep i) ∧ ∀ i, 40 ≤ i → fNo i = fN i ∧ fRo i = fR i ∧ fSo i = fS i)) [.ref mo, .int (nI (1000 * (num bs 0 12 - 1000))), .int (nI (nS bs)), .int (nI (nG bs)), .int (nI (nC bs))].toArray zs 0 0 (inW [(mo, .inr (5, [.int (nI n), .ref vk, .ref vc, .ref vt, .ref vn, .ref vr, .ref vs, .ref ve, .ref vp])), (vk, .inl (cI, 160, .inl f)), (vn, .inl (cI, 80, .inl fN)), (vr, .inl (cD, 80, .inr (.inr (.inr (.inl fR))))), (vs, .inl (cI, 80, .inl fS)), (ve, .inl (cI, 16, .inl ep))])) (F0 zm 42 ls [])) := by
    intro fuel
    induction fuel with
    | zero => exact (by intros; exact absurd (by assumption) (Nat.not_lt_zero _))
    | succ fuel ih =>
      intro j fNj fRj fSj epj hj hEj he3j hj3 hj4 hm H locs hP hD hS ls hl
      have o1 := ons_le bs 75 j
      have hb75 := bt_lt bs (75 + j)
      refine lv_iload hx hb dX5_gather_42 (lv_at hl 9 rfl) ?_
      refine lv_iload_n hx hb dX5_gather_44 rfl (lv_at hl 2 rfl) ?_
      refine lv_iload_n hx hb dX5_gather_45 rfl (lv_at hl 3 rfl) ?_
      refine lv_imul hx hb dX5_gather_46 ?_
      refine r_i (v := nI ((nS bs) * (nG bs))) (pk_mul _ _) ?_
      refine rn_ge (tgt := 169) hx hb dX5_gather_47 (by decide) (by omega) (by omega) (fun c_47 => ?_) (fun c_47 => ?_)
      · skip
        have e9 : j = nS bs * nG bs := by omega
        rw [e9] at hEj he3j
        exact W.vret hx hb hr (fun tz htz hWz => ⟨none, [(mo, .inr (5, [.int (nI n), .ref vk, .ref vc, .ref vt, .ref vn, .ref vr, .ref vs, .ref ve, .ref vp])), (vk, .inl (cI, 160, .inl f)), (vn, .inl (cI, 80, .inl fNj)), (vr, .inl (cD, 80, .inr (.inr (.inr (.inl fRj))))), (vs, .inl (cI, 80, .inl fSj)), (ve, .inl (cI, 16, .inl epj))], rfl, ⟨_, _, _, _, rfl, rfl, hEj, he3j, hj3, hj4⟩, rfl, by rw [htz]; exact hP, hS.F htz⟩) (fun q h => hS.2.2 q h) dX5_gather_169
      · skip
        refine lv_aload_n hx hb dX5_gather_50 rfl (lv_at hl 0 rfl) ?_
        refine lv_bipush (v := nI 75) hx hb dX5_gather_51 (by decide) ?_
        refine lv_iload hx hb dX5_gather_53 (lv_at hl 9 rfl) ?_
        refine lv_iadd hx hb dX5_gather_55 ?_
        refine r_i (v := nI (75 + j)) (nI_add _ _) ?_
        refine lv_iconst (v := nI 1) hx hb dX5_gather_56 (by decide) ?_
        refine r_callVi (As := [.int (nI (75 + j)), .int (nI 1)]) (rest := []) ⟨hx, hb, hml, hown, hts⟩ (c_X5_number (zl := zl) (D := D) (cI := cI) (cD := cD) mo n vk vc vt vn vr vs ve vp f bs (75 + j) 1 (by first | assumption | omega) (by first | assumption | omega) (by first | assumption | omega) (by first | assumption | omega) (by first | assumption | omega) (by omega)) (cwV 2 hts gX5_gather_X5_number rfl rfl rfl (by decide +kernel) ⟨Nat.le_of_ble_eq_true rfl, Nat.le_of_ble_eq_true rfl⟩) hK hN hP hD [0, 1] rfl rfl 0 rfl rfl rfl hl.1 rfl (Nat.le_of_ble_eq_true rfl) dX5_gather_57 ⟨Nat.le_of_ble_eq_true rfl, Nat.le_of_ble_eq_true rfl⟩ (fun r_1 h_1 => ?_)
        obtain rfl := h_1
        refine r_i (v := nI (bt bs (75 + j))) (congrArg nI (num_one _ _)) ?_
        refine lv_iconst (v := nI 1) hx hb dX5_gather_60 (by decide) ?_
        refine rn_ne (tgt := 163) hx hb dX5_gather_61 (by decide) (by omega) (by omega) (fun c_61 => ?_) (fun c_61 => ?_)
        · skip
          have el_2 : nI (ons bs 75 j) = nI (ons bs 75 (j + 1)) := congrArg nI (by show _ = ons bs 75 j + bt bs (75 + j); omega)
          have hl : lv_has ls 12 [(0, .ref mo), (1, .int (nI (1000 * (num bs 0 12 - 1000)))), (2, .int (nI (nS bs))), (3, .int (nI (nG bs))), (5, .int (nI (75 + nS bs * nG bs))), (6, .int (nI (75 + nS bs * nG bs + 8 * nS bs))), (7, .int (nI (75 + nS bs * nG bs + 8 * nS bs + 10 * nS bs))), (8, .int (nI (75 + nS bs * nG bs + 8 * nS bs + 10 * nS bs + 15 * nC bs))), (9, .int (nI (ons bs 75 (j + 1)))), (10, .int (nI j))] := by rw [← el_2]; exact hl
          refine lv_iinc (v := nI (j + 1)) (lv' := [(10, .int (nI (j + 1))), (0, .ref mo), (1, .int (nI (1000 * (num bs 0 12 - 1000)))), (2, .int (nI (nS bs))), (3, .int (nI (nG bs))), (5, .int (nI (75 + nS bs * nG bs))), (6, .int (nI (75 + nS bs * nG bs + 8 * nS bs))), (7, .int (nI (75 + nS bs * nG bs + 8 * nS bs + 10 * nS bs))), (8, .int (nI (75 + nS bs * nG bs + 8 * nS bs + 10 * nS bs + 15 * nC bs))), (9, .int (nI (ons bs 75 (j + 1))))]) hx hb dX5_gather_163 hl (k := 9) rfl (nI_add _ _) (by decide) rfl (fun ls hl => ?_)
          refine lv_goto (tgt := 42) hx hb dX5_gather_166 (by decide) ?_
          exact ih (j + 1) fNj fRj fSj epj (by first | assumption | omega) (by rw [gath_off c_61]; exact hEj) (by rw [gath_off c_61]; exact he3j) hj3 hj4 (by omega) _ _ hP hD hS ls (lv_sub hl [1, 2, 3, 4, 5, 6, 7, 8, 9, 0] rfl)
        · skip
          have hgp : 0 < nG bs := Nat.pos_of_ne_zero (fun z => by rw [z, Nat.mul_zero] at c_47; omega)
          have hjs : j / nG bs < nS bs := (Nat.div_lt_iff_lt_mul hgp).mpr c_47
          have hjm : j % nG bs < nG bs := Nat.mod_lt _ hgp
          have hcc : ons bs 75 j < nC bs := ons_lt c_47 c_61
          obtain ⟨i1, hi1, hb1, ho1⟩ := nth_ex bs 55 16 _ hjs
          obtain ⟨i2, hi2, hb2, ho2⟩ := nth_ex bs 71 4 _ hjm
          have hn1 : nth bs 55 (j / nG bs) 16 = i1 + 1 := by rw [← ho1]; exact nth_at bs 55 i1 hb1 16 hi1
          have hn2 : nth bs 71 (j % nG bs) 4 = i2 + 1 := by rw [← ho2]; exact nth_at bs 71 i2 hb2 4 hi2
          refine lv_iload hx hb dX5_gather_64 (lv_at hl 9 rfl) ?_
          refine lv_iload_n hx hb dX5_gather_66 rfl (lv_at hl 3 rfl) ?_
          refine lv_idiv hx hb dX5_gather_67 (nI_ne0 (by omega) (by omega)) ?_
          refine r_i (v := nI (j / (nG bs))) (pk_div (by omega) (by omega) (by omega)) ?_
          refine lv_istore (lv' := [(11, .int (nI (j / (nG bs)))), (0, .ref mo), (1, .int (nI (1000 * (num bs 0 12 - 1000)))), (2, .int (nI (nS bs))), (3, .int (nI (nG bs))), (5, .int (nI (75 + nS bs * nG bs))), (6, .int (nI (75 + nS bs * nG bs + 8 * nS bs))), (7, .int (nI (75 + nS bs * nG bs + 8 * nS bs + 10 * nS bs))), (8, .int (nI (75 + nS bs * nG bs + 8 * nS bs + 10 * nS bs + 15 * nC bs))), (9, .int (nI (ons bs 75 j))), (10, .int (nI j))]) hx hb dX5_gather_68 hl (by decide) rfl (fun ls hl => ?_)
          refine lv_aload_n hx hb dX5_gather_70 rfl (lv_at hl 1 rfl) ?_
          refine lv_iload_n hx hb dX5_gather_71 rfl (lv_at hl 2 rfl) ?_
          refine lv_bipush (v := nI 10) hx hb dX5_gather_72 (by decide) ?_
          refine lv_aload_n hx hb dX5_gather_74 rfl (lv_at hl 1 rfl) ?_
          refine lv_bipush (v := nI 55) hx hb dX5_gather_75 (by decide) ?_
          refine lv_iload hx hb dX5_gather_77 (lv_at hl 0 rfl) ?_
          refine r_callVi (As := [.int (nI 55), .int (nI (j / (nG bs)))]) (rest := [.int (nI 10), .int (nI (1000 * (num bs 0 12 - 1000))), .ref mo]) ⟨hx, hb, hml, hown, hts⟩ (c_X5_nth (zl := zl) (D := D) (cI := cI) (cD := cD) mo n vk vc vt vn vr vs ve vp f bs 55 (j / (nG bs)) i1 16 (by first | assumption | omega) (by first | assumption | omega) (by first | assumption | omega) (by first | assumption | omega) (⟨hi1, by decide⟩) hb1 ho1 (by omega)) (cwV 2 hts gX5_gather_X5_nth rfl rfl rfl (by decide +kernel) ⟨Nat.le_of_ble_eq_true rfl, Nat.le_of_ble_eq_true rfl⟩) hK hN hP hD [0, 1] rfl rfl 0 rfl rfl rfl hl.1 rfl (Nat.le_of_ble_eq_true rfl) dX5_gather_79 ⟨Nat.le_of_ble_eq_true rfl, Nat.le_of_ble_eq_true rfl⟩ (fun r_3 h_3 => ?_)
          obtain rfl := h_3
          refine r_i (v := nI (nth bs 55 (j / nG bs) 16)) (congrArg nI hn1.symm) ?_
          refine lv_imul hx hb dX5_gather_82 ?_
          refine r_i (v := nI (10 * (nth bs 55 (j / nG bs) 16))) (pk_mul _ _) ?_
          refine lv_iadd hx hb dX5_gather_83 ?_
          refine r_i (v := nI (1000 * (num bs 0 12 - 1000) + (10 * (nth bs 55 (j / nG bs) 16)))) (nI_add _ _) ?_
          refine lv_aload_n hx hb dX5_gather_84 rfl (lv_at hl 1 rfl) ?_
          refine lv_bipush (v := nI 71) hx hb dX5_gather_85 (by decide) ?_
          refine lv_iload hx hb dX5_gather_87 (lv_at hl 10 rfl) ?_
          refine lv_iload_n hx hb dX5_gather_89 rfl (lv_at hl 4 rfl) ?_
          refine lv_irem hx hb dX5_gather_90 (nI_ne0 (by omega) (by omega)) ?_
          refine r_i (v := nI (j % (nG bs))) (pk_rem (by omega) (by omega) (by omega)) ?_
          refine r_callVi (As := [.int (nI 71), .int (nI (j % (nG bs)))]) (rest := [.int (nI (1000 * (num bs 0 12 - 1000) + (10 * (nth bs 55 (j / nG bs) 16)))), .ref mo]) ⟨hx, hb, hml, hown, hts⟩ (c_X5_nth (zl := zl) (D := D) (cI := cI) (cD := cD) mo n vk vc vt vn vr vs ve vp f bs 71 (j % (nG bs)) i2 4 (by first | assumption | omega) (by first | assumption | omega) (by first | assumption | omega) (by first | assumption | omega) (⟨hi2, by decide⟩) hb2 ho2 (by omega)) (cwV 2 hts gX5_gather_X5_nth rfl rfl rfl (by decide +kernel) ⟨Nat.le_of_ble_eq_true rfl, Nat.le_of_ble_eq_true rfl⟩) hK hN hP hD [0, 1] rfl rfl 0 rfl rfl rfl hl.1 rfl (Nat.le_of_ble_eq_true rfl) dX5_gather_91 ⟨Nat.le_of_ble_eq_true rfl, Nat.le_of_ble_eq_true rfl⟩ (fun r_4 h_4 => ?_)
          obtain rfl := h_4
          refine r_i (v := nI (nth bs 71 (j % nG bs) 4)) (congrArg nI hn2.symm) ?_
          refine lv_iadd hx hb dX5_gather_94 ?_
          refine r_i (v := nI (1000 * (num bs 0 12 - 1000) + (10 * (nth bs 55 (j / nG bs) 16)) + (nth bs 71 (j % nG bs) 4))) (nI_add _ _) ?_
          refine lv_aload_n hx hb dX5_gather_95 rfl (lv_at hl 1 rfl) ?_
          refine lv_iload hx hb dX5_gather_96 (lv_at hl 5 rfl) ?_
          refine lv_bipush (v := nI 8) hx hb dX5_gather_98 (by decide) ?_
          refine lv_iload hx hb dX5_gather_100 (lv_at hl 0 rfl) ?_
          refine lv_imul hx hb dX5_gather_102 ?_
          refine r_i (v := nI (8 * (j / (nG bs)))) (pk_mul _ _) ?_
          refine lv_iadd hx hb dX5_gather_103 ?_
          refine r_i (v := nI (75 + nS bs * nG bs + (8 * (j / (nG bs))))) (nI_add _ _) ?_
          refine lv_bipush (v := nI 8) hx hb dX5_gather_104 (by decide) ?_
          refine r_callVi (As := [.int (nI (75 + nS bs * nG bs + (8 * (j / (nG bs))))), .int (nI 8)]) (rest := [.int (nI (1000 * (num bs 0 12 - 1000) + (10 * (nth bs 55 (j / nG bs) 16)) + (nth bs 71 (j % nG bs) 4))), .ref mo]) ⟨hx, hb, hml, hown, hts⟩ (c_X5_number (zl := zl) (D := D) (cI := cI) (cD := cD) mo n vk vc vt vn vr vs ve vp f bs (75 + nS bs * nG bs + (8 * (j / (nG bs)))) 8 (by first | assumption | omega) (by first | assumption | omega) (by first | assumption | omega) (by first | assumption | omega) (by first | assumption | omega) (by omega)) (cwV 2 hts gX5_gather_X5_number rfl rfl rfl (by decide +kernel) ⟨Nat.le_of_ble_eq_true rfl, Nat.le_of_ble_eq_true rfl⟩) hK hN hP hD [0, 1] rfl rfl 0 rfl rfl rfl hl.1 rfl (Nat.le_of_ble_eq_true rfl) dX5_gather_106 ⟨Nat.le_of_ble_eq_true rfl, Nat.le_of_ble_eq_true rfl⟩ (fun r_5 h_5 => ?_)
          obtain rfl := h_5
          refine lv_aload_n hx hb dX5_gather_109 rfl (lv_at hl 1 rfl) ?_
          refine lv_iload hx hb dX5_gather_110 (lv_at hl 6 rfl) ?_
          refine lv_bipush (v := nI 10) hx hb dX5_gather_112 (by decide) ?_
          refine lv_iload hx hb dX5_gather_114 (lv_at hl 0 rfl) ?_
          refine lv_imul hx hb dX5_gather_116 ?_
          refine r_i (v := nI (10 * (j / (nG bs)))) (pk_mul _ _) ?_
          refine lv_iadd hx hb dX5_gather_117 ?_
          refine r_i (v := nI (75 + nS bs * nG bs + 8 * nS bs + (10 * (j / (nG bs))))) (nI_add _ _) ?_
          refine lv_bipush (v := nI 10) hx hb dX5_gather_118 (by decide) ?_
          refine r_callVi (As := [.int (nI (75 + nS bs * nG bs + 8 * nS bs + (10 * (j / (nG bs))))), .int (nI 10)]) (rest := [.int (nI (num bs (75 + nS bs * nG bs + (8 * (j / (nG bs)))) 8)), .int (nI (1000 * (num bs 0 12 - 1000) + (10 * (nth bs 55 (j / nG bs) 16)) + (nth bs 71 (j % nG bs) 4))), .ref mo]) ⟨hx, hb, hml, hown, hts⟩ (c_X5_number (zl := zl) (D := D) (cI := cI) (cD := cD) mo n vk vc vt vn vr vs ve vp f bs (75 + nS bs * nG bs + 8 * nS bs + (10 * (j / (nG bs)))) 10 (by first | assumption | omega) (by first | assumption | omega) (by first | assumption | omega) (by first | assumption | omega) (by first | assumption | omega) (by omega)) (cwV 2 hts gX5_gather_X5_number rfl rfl rfl (by decide +kernel) ⟨Nat.le_of_ble_eq_true rfl, Nat.le_of_ble_eq_true rfl⟩) hK hN hP hD [0, 1] rfl rfl 0 rfl rfl rfl hl.1 rfl (Nat.le_of_ble_eq_true rfl) dX5_gather_120 ⟨Nat.le_of_ble_eq_true rfl, Nat.le_of_ble_eq_true rfl⟩ (fun r_6 h_6 => ?_)
          obtain rfl := h_6
          refine lv_aload_n hx hb dX5_gather_123 rfl (lv_at hl 1 rfl) ?_
          refine lv_iload hx hb dX5_gather_124 (lv_at hl 7 rfl) ?_
          refine lv_bipush (v := nI 15) hx hb dX5_gather_126 (by decide) ?_
          refine lv_iload hx hb dX5_gather_128 (lv_at hl 9 rfl) ?_
          refine lv_imul hx hb dX5_gather_130 ?_
          refine r_i (v := nI (15 * (ons bs 75 j))) (pk_mul _ _) ?_
          refine lv_iadd hx hb dX5_gather_131 ?_
          refine r_i (v := nI (75 + nS bs * nG bs + 8 * nS bs + 10 * nS bs + (15 * (ons bs 75 j)))) (nI_add _ _) ?_
          refine lv_bipush (v := nI 15) hx hb dX5_gather_132 (by decide) ?_
          refine r_callVi (As := [.int (nI (75 + nS bs * nG bs + 8 * nS bs + 10 * nS bs + (15 * (ons bs 75 j)))), .int (nI 15)]) (rest := [.int (nI (num bs (75 + nS bs * nG bs + 8 * nS bs + (10 * (j / (nG bs)))) 10)), .int (nI (num bs (75 + nS bs * nG bs + (8 * (j / (nG bs)))) 8)), .int (nI (1000 * (num bs 0 12 - 1000) + (10 * (nth bs 55 (j / nG bs) 16)) + (nth bs 71 (j % nG bs) 4))), .ref mo]) ⟨hx, hb, hml, hown, hts⟩ (c_X5_signed (zl := zl) (D := D) (cI := cI) (cD := cD) mo n vk vc vt vn vr vs ve vp f bs (75 + nS bs * nG bs + 8 * nS bs + 10 * nS bs + (15 * (ons bs 75 j))) (by first | assumption | omega) (by first | assumption | omega) (by first | assumption | omega) (by first | assumption | omega) (by omega)) (cwV 2 hts gX5_gather_X5_signed rfl rfl rfl (by decide +kernel) ⟨Nat.le_of_ble_eq_true rfl, Nat.le_of_ble_eq_true rfl⟩) hK hN hP hD [0, 1] rfl rfl 0 rfl rfl rfl hl.1 rfl (Nat.le_of_ble_eq_true rfl) dX5_gather_134 ⟨Nat.le_of_ble_eq_true rfl, Nat.le_of_ble_eq_true rfl⟩ (fun r_7 h_7 => ?_)
          obtain rfl := h_7
          refine r_callSd (As := [.int (nI (num bs (75 + nS bs * nG bs + (8 * (j / (nG bs)))) 8)), .int (nI (num bs (75 + nS bs * nG bs + 8 * nS bs + (10 * (j / (nG bs)))) 10)), .int (sg15 (num bs (75 + nS bs * nG bs + 8 * nS bs + 10 * nS bs + (15 * (ons bs 75 j))) 15))]) (rest := [.int (nI (1000 * (num bs 0 12 - 1000) + (10 * (nth bs 55 (j / nG bs) 16)) + (nth bs 71 (j % nG bs) 4))), .ref mo]) ⟨hx, hb, hml, hown, hts⟩ (c_X5_reckon (zl := zl) (D := D) (cI := cI) (cD := cD) (num bs (75 + nS bs * nG bs + (8 * (j / (nG bs)))) 8) (num bs (75 + nS bs * nG bs + 8 * nS bs + (10 * (j / (nG bs)))) 10) (sg15 (num bs (75 + nS bs * nG bs + 8 * nS bs + 10 * nS bs + (15 * (ons bs 75 j))) 15)) (Nat.lt_trans (num_lt _ _ _) (by decide))) (va_cwS 3 hts gX5_gather_X5_reckon rfl rfl rfl (by decide +kernel) ⟨Nat.le_of_ble_eq_true rfl, Nat.le_of_ble_eq_true rfl⟩) hK hN hP hD rfl hl.1 rfl (Nat.le_of_ble_eq_true rfl) dX5_gather_137 ⟨Nat.le_of_ble_eq_true rfl, Nat.le_of_ble_eq_true rfl⟩ (fun r_8 h_8 => ?_)
          obtain rfl := h_8
          refine lv_aload_n hx hb dX5_gather_140 rfl (lv_at hl 1 rfl) ?_
          refine lv_iload hx hb dX5_gather_141 (lv_at hl 8 rfl) ?_
          refine lv_bipush (v := nI 6) hx hb dX5_gather_143 (by decide) ?_
          refine lv_iload hx hb dX5_gather_145 (lv_at hl 9 rfl) ?_
          refine lv_imul hx hb dX5_gather_147 ?_
          refine r_i (v := nI (6 * (ons bs 75 j))) (pk_mul _ _) ?_
          refine lv_iadd hx hb dX5_gather_148 ?_
          refine r_i (v := nI (75 + nS bs * nG bs + 8 * nS bs + 10 * nS bs + 15 * nC bs + (6 * (ons bs 75 j)))) (nI_add _ _) ?_
          refine lv_bipush (v := nI 6) hx hb dX5_gather_149 (by decide) ?_
          refine r_callVi (As := [.int (nI (75 + nS bs * nG bs + 8 * nS bs + 10 * nS bs + 15 * nC bs + (6 * (ons bs 75 j)))), .int (nI 6)]) (rest := [.double (reck (num bs (75 + nS bs * nG bs + (8 * (j / (nG bs)))) 8) (num bs (75 + nS bs * nG bs + 8 * nS bs + (10 * (j / (nG bs)))) 10) (sg15 (num bs (75 + nS bs * nG bs + 8 * nS bs + 10 * nS bs + (15 * (ons bs 75 j))) 15))), .int (nI (1000 * (num bs 0 12 - 1000) + (10 * (nth bs 55 (j / nG bs) 16)) + (nth bs 71 (j % nG bs) 4))), .ref mo]) ⟨hx, hb, hml, hown, hts⟩ (c_X5_number (zl := zl) (D := D) (cI := cI) (cD := cD) mo n vk vc vt vn vr vs ve vp f bs (75 + nS bs * nG bs + 8 * nS bs + 10 * nS bs + 15 * nC bs + (6 * (ons bs 75 j))) 6 (by first | assumption | omega) (by first | assumption | omega) (by first | assumption | omega) (by first | assumption | omega) (by first | assumption | omega) (by omega)) (cwV 2 hts gX5_gather_X5_number rfl rfl rfl (by decide +kernel) ⟨Nat.le_of_ble_eq_true rfl, Nat.le_of_ble_eq_true rfl⟩) hK hN hP hD [0, 1] rfl rfl 0 rfl rfl rfl hl.1 rfl (Nat.le_of_ble_eq_true rfl) dX5_gather_151 ⟨Nat.le_of_ble_eq_true rfl, Nat.le_of_ble_eq_true rfl⟩ (fun r_9 h_9 => ?_)
          obtain rfl := h_9
          refine x_callV (As := [.int (nI (1000 * (num bs 0 12 - 1000) + (10 * (nth bs 55 (j / nG bs) 16)) + (nth bs 71 (j % nG bs) 4))), .double (reck (num bs (75 + nS bs * nG bs + (8 * (j / (nG bs)))) 8) (num bs (75 + nS bs * nG bs + 8 * nS bs + (10 * (j / (nG bs)))) 10) (sg15 (num bs (75 + nS bs * nG bs + 8 * nS bs + 10 * nS bs + (15 * (ons bs 75 j))) 15))), .int (nI (num bs (75 + nS bs * nG bs + 8 * nS bs + 10 * nS bs + 15 * nC bs + (6 * (ons bs 75 j))) 6))]) (rest := []) ⟨hx, hb, hml, hown, hts⟩ (c_X5_add (zl := zl) (D := D) (cI := cI) (cD := cD) mo n vk vc vt vn vr vs ve vp fNj fRj fSj epj (gath bs cs j) (nI (1000 * (num bs 0 12 - 1000) + (10 * (nth bs 55 (j / nG bs) 16)) + (nth bs 71 (j % nG bs) 4))) (reck (num bs (75 + nS bs * nG bs + (8 * (j / (nG bs)))) 8) (num bs (75 + nS bs * nG bs + 8 * nS bs + (10 * (j / (nG bs)))) 10) (sg15 (num bs (75 + nS bs * nG bs + 8 * nS bs + 10 * nS bs + (15 * (ons bs 75 j))) 15))) (nI (num bs (75 + nS bs * nG bs + 8 * nS bs + 10 * nS bs + 15 * nC bs + (6 * (ons bs 75 j))) 6)) hEj he3j (gath_le bs hz j)) (cwV 3 hts gX5_gather_X5_add rfl rfl rfl (by decide +kernel) ⟨Nat.le_of_ble_eq_true rfl, Nat.le_of_ble_eq_true rfl⟩) hK hN hP hD hS [0, 2, 3, 4, 5] rfl rfl 0 rfl rfl rfl hl.1 rfl (Nat.le_of_ble_eq_true rfl) dX5_gather_154 ⟨Nat.le_of_ble_eq_true rfl, Nat.le_of_ble_eq_true rfl⟩ (fun v_10 w_10 H locs hr_10 hP hD hS => ?_)
          obtain ⟨fNk, fRk, fSk, epk, rfl, rfl, hE0, he0, k3, k4⟩ := hr_10
          refine W.eq (g2 := F0 zm 157 ls []) rfl ?_
          have hP : va_P D vwCl [(mo, .inr (5, [.int (nI n), .ref vk, .ref vc, .ref vt, .ref vn, .ref vr, .ref vs, .ref ve, .ref vp])), (vk, .inl (cI, 160, .inl f)), (vn, .inl (cI, 80, .inl fNk)), (vr, .inl (cD, 80, .inr (.inr (.inr (.inl fRk))))), (vs, .inl (cI, 80, .inl fSk)), (ve, .inl (cI, 16, .inl epk))] _ := hP
          have hD : va_D (inW [(mo, .inr (5, [.int (nI n), .ref vk, .ref vc, .ref vt, .ref vn, .ref vr, .ref vs, .ref ve, .ref vp])), (vk, .inl (cI, 160, .inl f)), (vn, .inl (cI, 80, .inl fN)), (vr, .inl (cD, 80, .inr (.inr (.inr (.inl fR))))), (vs, .inl (cI, 80, .inl fS)), (ve, .inl (cI, 16, .inl ep))]) [(mo, .inr (5, [.int (nI n), .ref vk, .ref vc, .ref vt, .ref vn, .ref vr, .ref vs, .ref ve, .ref vp])), (vk, .inl (cI, 160, .inl f)), (vn, .inl (cI, 80, .inl fNk)), (vr, .inl (cD, 80, .inr (.inr (.inr (.inl fRk))))), (vs, .inl (cI, 80, .inl fSk)), (ve, .inl (cI, 16, .inl epk))] := hD
          have hEk : RpE fNk fRk fSk (gath bs cs (j + 1)) := by rw [gath_on c_61]; exact hE0
          have he3k : epk 3 = nI (gath bs cs (j + 1)).length := by rw [gath_on c_61]; exact he0
          refine lv_iload hx hb dX5_gather_157 (lv_at hl 9 rfl) ?_
          refine lv_iconst (v := nI 1) hx hb dX5_gather_159 (by decide) ?_
          refine lv_iadd hx hb dX5_gather_160 ?_
          refine r_i (v := nI (ons bs 75 j + 1)) (nI_add _ _) ?_
          refine lv_istore (lv' := [(9, .int (nI (ons bs 75 j + 1))), (11, .int (nI (j / (nG bs)))), (0, .ref mo), (1, .int (nI (1000 * (num bs 0 12 - 1000)))), (2, .int (nI (nS bs))), (3, .int (nI (nG bs))), (5, .int (nI (75 + nS bs * nG bs))), (6, .int (nI (75 + nS bs * nG bs + 8 * nS bs))), (7, .int (nI (75 + nS bs * nG bs + 8 * nS bs + 10 * nS bs))), (8, .int (nI (75 + nS bs * nG bs + 8 * nS bs + 10 * nS bs + 15 * nC bs))), (10, .int (nI j))]) hx hb dX5_gather_161 hl (by decide) rfl (fun ls hl => ?_)
          have el_11 : nI (ons bs 75 j + 1) = nI (ons bs 75 (j + 1)) := congrArg nI (by show _ = ons bs 75 j + bt bs (75 + j); omega)
          have hl : lv_has ls 12 [(9, .int (nI (ons bs 75 (j + 1)))), (11, .int (nI (j / (nG bs)))), (0, .ref mo), (1, .int (nI (1000 * (num bs 0 12 - 1000)))), (2, .int (nI (nS bs))), (3, .int (nI (nG bs))), (5, .int (nI (75 + nS bs * nG bs))), (6, .int (nI (75 + nS bs * nG bs + 8 * nS bs))), (7, .int (nI (75 + nS bs * nG bs + 8 * nS bs + 10 * nS bs))), (8, .int (nI (75 + nS bs * nG bs + 8 * nS bs + 10 * nS bs + 15 * nC bs))), (10, .int (nI j))] := by rw [← el_11]; exact hl
          refine lv_iinc (v := nI (j + 1)) (lv' := [(10, .int (nI (j + 1))), (9, .int (nI (ons bs 75 (j + 1)))), (11, .int (nI (j / (nG bs)))), (0, .ref mo), (1, .int (nI (1000 * (num bs 0 12 - 1000)))), (2, .int (nI (nS bs))), (3, .int (nI (nG bs))), (5, .int (nI (75 + nS bs * nG bs))), (6, .int (nI (75 + nS bs * nG bs + 8 * nS bs))), (7, .int (nI (75 + nS bs * nG bs + 8 * nS bs + 10 * nS bs))), (8, .int (nI (75 + nS bs * nG bs + 8 * nS bs + 10 * nS bs + 15 * nC bs)))]) hx hb dX5_gather_163 hl (k := 10) rfl (nI_add _ _) (by decide) rfl (fun ls hl => ?_)
          refine lv_goto (tgt := 42) hx hb dX5_gather_166 (by decide) ?_
          exact ih (j + 1) fNk fRk fSk epk (by first | assumption | omega) hEk he3k (fun i hi => (k3 i hi).trans (hj3 i hi)) (fun i hi => ⟨(k4 i hi).1.trans (hj4 i hi).1, (k4 i hi).2.1.trans (hj4 i hi).2.1, (k4 i hi).2.2.trans (hj4 i hi).2.2⟩) (by omega) _ _ hP hD hS ls (lv_sub hl [3, 4, 5, 6, 7, 8, 9, 10, 1, 0] rfl)
  refine lv_bipush (v := nI 75) hx hb dX5_gather_0 (by decide) ?_
  refine lv_iload_n hx hb dX5_gather_2 rfl (lv_at hl 2 rfl) ?_
  refine lv_iload_n hx hb dX5_gather_3 rfl (lv_at hl 3 rfl) ?_
  refine lv_imul hx hb dX5_gather_4 ?_
  refine r_i (v := nI ((nS bs) * (nG bs))) (pk_mul _ _) ?_
  refine lv_iadd hx hb dX5_gather_5 ?_
  refine r_i (v := nI (75 + ((nS bs) * (nG bs)))) (nI_add _ _) ?_
  refine lv_istore (lv' := [(5, .int (nI (75 + ((nS bs) * (nG bs))))), (0, .ref mo), (1, .int (nI (1000 * (num bs 0 12 - 1000)))), (2, .int (nI (nS bs))), (3, .int (nI (nG bs))), (4, .int (nI (nC bs)))]) hx hb dX5_gather_6 hl (by decide) rfl (fun ls hl => ?_)
  refine lv_iload hx hb dX5_gather_8 (lv_at hl 0 rfl) ?_
  refine lv_bipush (v := nI 8) hx hb dX5_gather_10 (by decide) ?_
  refine lv_iload_n hx hb dX5_gather_12 rfl (lv_at hl 3 rfl) ?_
  refine lv_imul hx hb dX5_gather_13 ?_
  refine r_i (v := nI (8 * (nS bs))) (pk_mul _ _) ?_
  refine lv_iadd hx hb dX5_gather_14 ?_
  refine r_i (v := nI (75 + ((nS bs) * (nG bs)) + (8 * (nS bs)))) (nI_add _ _) ?_
  refine lv_istore (lv' := [(6, .int (nI (75 + ((nS bs) * (nG bs)) + (8 * (nS bs))))), (5, .int (nI (75 + ((nS bs) * (nG bs))))), (0, .ref mo), (1, .int (nI (1000 * (num bs 0 12 - 1000)))), (2, .int (nI (nS bs))), (3, .int (nI (nG bs))), (4, .int (nI (nC bs)))]) hx hb dX5_gather_15 hl (by decide) rfl (fun ls hl => ?_)
  refine lv_iload hx hb dX5_gather_17 (lv_at hl 0 rfl) ?_
  refine lv_bipush (v := nI 10) hx hb dX5_gather_19 (by decide) ?_
  refine lv_iload_n hx hb dX5_gather_21 rfl (lv_at hl 4 rfl) ?_
  refine lv_imul hx hb dX5_gather_22 ?_
  refine r_i (v := nI (10 * (nS bs))) (pk_mul _ _) ?_
  refine lv_iadd hx hb dX5_gather_23 ?_
  refine r_i (v := nI (75 + ((nS bs) * (nG bs)) + (8 * (nS bs)) + (10 * (nS bs)))) (nI_add _ _) ?_
  refine lv_istore (lv' := [(7, .int (nI (75 + ((nS bs) * (nG bs)) + (8 * (nS bs)) + (10 * (nS bs))))), (6, .int (nI (75 + ((nS bs) * (nG bs)) + (8 * (nS bs))))), (5, .int (nI (75 + ((nS bs) * (nG bs))))), (0, .ref mo), (1, .int (nI (1000 * (num bs 0 12 - 1000)))), (2, .int (nI (nS bs))), (3, .int (nI (nG bs))), (4, .int (nI (nC bs)))]) hx hb dX5_gather_24 hl (by decide) rfl (fun ls hl => ?_)
  refine lv_iload hx hb dX5_gather_26 (lv_at hl 0 rfl) ?_
  refine lv_bipush (v := nI 15) hx hb dX5_gather_28 (by decide) ?_
  refine lv_iload hx hb dX5_gather_30 (lv_at hl 7 rfl) ?_
  refine lv_imul hx hb dX5_gather_32 ?_
  refine r_i (v := nI (15 * (nC bs))) (pk_mul _ _) ?_
  refine lv_iadd hx hb dX5_gather_33 ?_
  refine r_i (v := nI (75 + ((nS bs) * (nG bs)) + (8 * (nS bs)) + (10 * (nS bs)) + (15 * (nC bs)))) (nI_add _ _) ?_
  refine lv_istore (lv' := [(8, .int (nI (75 + ((nS bs) * (nG bs)) + (8 * (nS bs)) + (10 * (nS bs)) + (15 * (nC bs))))), (7, .int (nI (75 + ((nS bs) * (nG bs)) + (8 * (nS bs)) + (10 * (nS bs))))), (6, .int (nI (75 + ((nS bs) * (nG bs)) + (8 * (nS bs))))), (5, .int (nI (75 + ((nS bs) * (nG bs))))), (0, .ref mo), (1, .int (nI (1000 * (num bs 0 12 - 1000)))), (2, .int (nI (nS bs))), (3, .int (nI (nG bs))), (4, .int (nI (nC bs)))]) hx hb dX5_gather_34 hl (by decide) rfl (fun ls hl => ?_)
  refine lv_iconst (v := nI 0) hx hb dX5_gather_36 (by decide) ?_
  refine lv_istore (lv' := [(9, .int (nI 0)), (8, .int (nI (75 + ((nS bs) * (nG bs)) + (8 * (nS bs)) + (10 * (nS bs)) + (15 * (nC bs))))), (7, .int (nI (75 + ((nS bs) * (nG bs)) + (8 * (nS bs)) + (10 * (nS bs))))), (6, .int (nI (75 + ((nS bs) * (nG bs)) + (8 * (nS bs))))), (5, .int (nI (75 + ((nS bs) * (nG bs))))), (0, .ref mo), (1, .int (nI (1000 * (num bs 0 12 - 1000)))), (2, .int (nI (nS bs))), (3, .int (nI (nG bs))), (4, .int (nI (nC bs)))]) hx hb dX5_gather_37 hl (by decide) rfl (fun ls hl => ?_)
  refine lv_iconst (v := nI 0) hx hb dX5_gather_39 (by decide) ?_
  refine lv_istore (lv' := [(10, .int (nI 0)), (9, .int (nI 0)), (8, .int (nI (75 + ((nS bs) * (nG bs)) + (8 * (nS bs)) + (10 * (nS bs)) + (15 * (nC bs))))), (7, .int (nI (75 + ((nS bs) * (nG bs)) + (8 * (nS bs)) + (10 * (nS bs))))), (6, .int (nI (75 + ((nS bs) * (nG bs)) + (8 * (nS bs))))), (5, .int (nI (75 + ((nS bs) * (nG bs))))), (0, .ref mo), (1, .int (nI (1000 * (num bs 0 12 - 1000)))), (2, .int (nI (nS bs))), (3, .int (nI (nG bs))), (4, .int (nI (nC bs)))]) hx hb dX5_gather_40 hl (by decide) rfl (fun ls hl => ?_)
  exact (cuts _) 0 fN fR fS ep (by first | assumption | omega) hE he3 (fun _ _ => rfl) (fun _ _ => ⟨rfl, rfl, rfl⟩) (Nat.lt_succ_self _) _ _ hP hD hS ls (lv_sub hl [6, 7, 8, 9, 5, 4, 3, 2, 1, 0] rfl)
set_option maxHeartbeats 4000000 in
set_option maxRecDepth 100000 in
/-- an epoch is done -/
theorem c_X5_finish {zl : Launch} {D : va_G} {cI cD : ClassId} (mo : Nat) (n : Nat) (vk : Nat) (vc : Nat) (vt : Nat) (vn : Nat) (vr : Nat) (vs : Nat) (ve : Nat) (vp : Nat) (kc : Nat → Int32) (fN : Nat → Int32) (fR : Nat → UInt64) (fS : Nat → Int32) (ep : Nat → Int32) (G : Ep) (L : Ep) (hM : RpM ep fN fR fS G L) (hG1 : G.1 = 1) : Cx zl yX5_finish wsX5_finish ({ frames := 1, cells := 0, slots := 0, locals := 21 }) D cI cD [.ref mo] [(mo, .inr (5, [.int (nI n), .ref vk, .ref vc, .ref vt, .ref vn, .ref vr, .ref vs, .ref ve, .ref vp])), (vc, .inl (cI, 8, .inl kc)), (vn, .inl (cI, 80, .inl fN)), (vr, .inl (cD, 80, .inr (.inr (.inr (.inl fR))))), (vs, .inl (cI, 80, .inl fS)), (ve, .inl (cI, 16, .inl ep))] (fun v w1 => ∃ (fNo : Nat → Int32), ∃ (fRo : Nat → UInt64), ∃ (fSo : Nat → Int32), ∃ (epo : Nat → Int32), w1 = [(mo, .inr (5, [.int (nI n), .ref vk, .ref vc, .ref vt, .ref vn, .ref vr, .ref vs, .ref ve, .ref vp])), (vc, .inl (cI, 8, .inl (bmp kc 4))), (vn, .inl (cI, 80, .inl fNo)), (vr, .inl (cD, 80, .inr (.inr (.inr (.inl fRo))))), (vs, .inl (cI, 80, .inl fSo)), (ve, .inl (cI, 16, .inl epo))] ∧ v = none ∧ RpM epo fNo fRo fSo (0, G.2) (1, G.2)) := by
  refine Met.ofW (cc := cX5_finish) (maxL := 2) (ret := none) (by decide) rfl ?_
  intro zp ze zs zm zargs zb zt zc zs₁ B hml hv
  obtain ⟨rfl, hP, hK, hD0, hN⟩ := hv
  have hx := B.exec
  have hb := B.bytes
  have hr := B.returns
  have hts := atoms_spec (ws := wsX5_finish) B.pre
  have hown : zs.vm.findClass RX5 = some zm.cls := findClass_of_methodNamed B.named
  have hlocks := B.notSynchronized
  have hD := inW_self hD0
  have hS : va_S (inW [(mo, .inr (5, [.int (nI n), .ref vk, .ref vc, .ref vt, .ref vn, .ref vr, .ref vs, .ref ve, .ref vp])), (vc, .inl (cI, 8, .inl kc)), (vn, .inl (cI, 80, .inl fN)), (vr, .inl (cD, 80, .inr (.inr (.inr (.inl fR))))), (vs, .inl (cI, 80, .inl fS)), (ve, .inl (cI, 16, .inl ep))]) zs.heap zs.heap [] := va_S.rf
  have hl := lv_entry [.ref mo] (n := 2) (Nat.le_of_ble_eq_true rfl)
  rw [lg_entry_eq]
  generalize (lg_sl [.ref mo] ++ List.replicate (2 - (lg_sl [.ref mo]).length) Slot.unset).toArray = ls at hl ⊢
  have hl : lv_has ls 2 [(0, .ref mo)] := hl
  have hin5 : ∀ w ∈ u_ws RX5 TX5 9, w ∈ wsX5_finish := by decide +kernel
  have hz : G.2.2.2.2.length ≤ 40 := hM.2.2.2.2.2.2.1
  have cuts : ∀ fuel : Nat, (∀ (j : Nat), ∀ (fNj : Nat → Int32), ∀ (fRj : Nat → UInt64), ∀ (fSj : Nat → Int32), (j ≤ G.2.2.2.2.length) → (∀ i, i < 40 → fNj i = fN i ∧ fRj i = fR i ∧ fSj i = fS i) → (∀ i, i < j → fNj (40 + i) = fN i ∧ fRj (40 + i) = fR i ∧ fSj (40 + i) = fS i) → (G.2.2.2.2.length - j + 10) < fuel → ∀ (H : Heap) (locs : List Loc), va_P D vwCl [(mo, .inr (5, [.int (nI n), .ref vk, .ref vc, .ref vt, .ref vn, .ref vr, .ref vs, .ref ve, .ref vp])), (vc, .inl (cI, 8, .inl (bmp kc 4))), (vn, .inl (cI, 80, .inl fNj)), (vr, .inl (cD, 80, .inr (.inr (.inr (.inl fRj))))), (vs, .inl (cI, 80, .inl fSj)), (ve, .inl (cI, 16, .inl ep))] H → va_D (inW [(mo, .inr (5, [.int (nI n), .ref vk, .ref vc, .ref vt, .ref vn, .ref vr, .ref vs, .ref ve, .ref vp])), (vc, .inl (cI, 8, .inl kc)), (vn, .inl (cI, 80, .inl fN)), (vr, .inl (cD, 80, .inr (.inr (.inr (.inl fR))))), (vs, .inl (cI, 80, .inl fS)), (ve, .inl (cI, 16, .inl ep))]) [(mo, .inr (5, [.int (nI n), .ref vk, .ref vc, .ref vt, .ref vn, .ref vr, .ref vs, .ref ve, .ref vp])), (vc, .inl (cI, 8, .inl (bmp kc 4))), (vn, .inl (cI, 80, .inl fNj)), (vr, .inl (cD, 80, .inr (.inr (.inr (.inl fRj))))), (vs, .inl (cI, 80, .inl fSj)), (ve, .inl (cI, 16, .inl ep))] → va_S (inW [(mo, .inr (5, [.int (nI n), .ref vk, .ref vc, .ref vt, .ref vn, .ref vr, .ref vs, .ref ve, .ref vp])), (vc, .inl (cI, 8, .inl kc)), (vn, .inl (cI, 80, .inl fN)), (vr, .inl (cD, 80, .inr (.inr (.inr (.inl fR))))), (vs, .inl (cI, 80, .inl fS)), (ve, .inl (cI, 16, .inl ep))]) zs.heap H locs → ∀ (ls : Array Slot), lv_has ls 2 [(0, .ref mo), (1, .int (nI j))] → W zp zl ze ({ frames := 1, cells := 0, slots := 0, locals := 21 }) zs zm [.ref mo].toArray zb zt zc H locs 0 0 (MQ zb (Xq D [(mo, .inr (5, [.int (nI n), .ref vk, .ref vc, .ref vt, .ref vn, .ref vr, .ref vs, .ref ve, .ref vp])), (vc, .inl (cI, 8, .inl kc)), (vn, .inl (cI, 80, .inl fN)), (vr, .inl (cD, 80, .inr (.inr (.inr (.inl fR))))), (vs, .inl (cI, 80, .inl fS)), (ve, .inl (cI, 16, .inl ep))] (fun v w1 => ∃ (fNo : Nat → Int32), ∃ (fRo : Nat → UInt64), ∃ (fSo : Nat → Int32), ∃ (epo : Nat → Int32), w1 = [(mo, .inr (5, [.int (nI n), .ref vk, .ref vc, .ref vt, .ref vn, .ref vr, .ref vs, .ref ve, .ref vp])), (vc, .inl (cI, 8, .inl (bmp kc 4))), (vn, .inl (cI, 80, .inl fNo)), (vr, .inl (cD, 80, .inr (.inr (.inr (.inl fRo))))), (vs, .inl (cI, 80, .inl fSo)), (ve, .inl (cI, 16, .inl epo))] ∧ v = none ∧ RpM epo fNo fRo fSo (0, G.2) (1, G.2))) [.ref mo].toArray zs 0 0 (inW [(mo, .inr (5, [.int (nI n), .ref vk, .ref vc, .ref vt, .ref vn, .ref vr, .ref vs, .ref ve, .ref vp])), (vc, .inl (cI, 8, .inl kc)), (vn, .inl (cI, 80, .inl fN)), (vr, .inl (cD, 80, .inr (.inr (.inr (.inl fR))))), (vs, .inl (cI, 80, .inl fS)), (ve, .inl (cI, 16, .inl ep))])) (F0 zm 7 ls [])) ∧ (∀ (j : Nat), ∀ (fNj : Nat → Int32), ∀ (fRj : Nat → UInt64), ∀ (fSj : Nat → Int32), ∀ (epj : Nat → Int32), (j ≤ 5) → (∀ i, i < 40 → fNj i = fN i ∧ fRj i = fR i ∧ fSj i = fS i) → (∀ i, i < G.2.2.2.2.length → fNj (40 + i) = fN i ∧ fRj (40 + i) = fR i ∧ fSj (40 + i) = fS i) → (∀ i, i < 8 → epj i = ep i) → (∀ i, i < j → epj (8 + i) = ep i) → (5 - j) < fuel → ∀ (H : Heap) (locs : List Loc), va_P D vwCl [(mo, .inr (5, [.int (nI n), .ref vk, .ref vc, .ref vt, .ref vn, .ref vr, .ref vs, .ref ve, .ref vp])), (vc, .inl (cI, 8, .inl (bmp kc 4))), (vn, .inl (cI, 80, .inl fNj)), (vr, .inl (cD, 80, .inr (.inr (.inr (.inl fRj))))), (vs, .inl (cI, 80, .inl fSj)), (ve, .inl (cI, 16, .inl epj))] H → va_D (inW [(mo, .inr (5, [.int (nI n), .ref vk, .ref vc, .ref vt, .ref vn, .ref vr, .ref vs, .ref ve, .ref vp])), (vc, .inl (cI, 8, .inl kc)), (vn, .inl (cI, 80, .inl fN)), (vr, .inl (cD, 80, .inr (.inr (.inr (.inl fR))))), (vs, .inl (cI, 80, .inl fS)), (ve, .inl (cI, 16, .inl ep))]) [(mo, .inr (5, [.int (nI n), .ref vk, .ref vc, .ref vt, .ref vn, .ref vr, .ref vs, .ref ve, .ref vp])), (vc, .inl (cI, 8, .inl (bmp kc 4))), (vn, .inl (cI, 80, .inl fNj)), (vr, .inl (cD, 80, .inr (.inr (.inr (.inl fRj))))), (vs, .inl (cI, 80, .inl fSj)), (ve, .inl (cI, 16, .inl epj))] → va_S (inW [(mo, .inr (5, [.int (nI n), .ref vk, .ref vc, .ref vt, .ref vn, .ref vr, .ref vs, .ref ve, .ref vp])), (vc, .inl (cI, 8, .inl kc)), (vn, .inl (cI, 80, .inl fN)), (vr, .inl (cD, 80, .inr (.inr (.inr (.inl fR))))), (vs, .inl (cI, 80, .inl fS)), (ve, .inl (cI, 16, .inl ep))]) zs.heap H locs → ∀ (ls : Array Slot), lv_has ls 2 [(0, .ref mo), (1, .int (nI j))] → W zp zl ze ({ frames := 1, cells := 0, slots := 0, locals := 21 }) zs zm [.ref mo].toArray zb zt zc H locs 0 0 (MQ zb (Xq D [(mo, .inr (5, [.int (nI n), .ref vk, .ref vc, .ref vt, .ref vn, .ref vr, .ref vs, .ref ve, .ref vp])), (vc, .inl (cI, 8, .inl kc)), (vn, .inl (cI, 80, .inl fN)), (vr, .inl (cD, 80, .inr (.inr (.inr (.inl fR))))), (vs, .inl (cI, 80, .inl fS)), (ve, .inl (cI, 16, .inl ep))] (fun v w1 => ∃ (fNo : Nat → Int32), ∃ (fRo : Nat → UInt64), ∃ (fSo : Nat → Int32), ∃ (epo : Nat → Int32), w1 = [(mo, .inr (5, [.int (nI n), .ref vk, .ref vc, .ref vt, .ref vn, .ref vr, .ref vs, .ref ve, .ref vp])), (vc, .inl (cI, 8, .inl (bmp kc 4))), (vn, .inl (cI, 80, .inl fNo)), (vr, .inl (cD, 80, .inr (.inr (.inr (.inl fRo))))), (vs, .inl (cI, 80, .inl fSo)), (ve, .inl (cI, 16, .inl epo))] ∧ v = none ∧ RpM epo fNo fRo fSo (0, G.2) (1, G.2))) [.ref mo].toArray zs 0 0 (inW [(mo, .inr (5, [.int (nI n), .ref vk, .ref vc, .ref vt, .ref vn, .ref vr, .ref vs, .ref ve, .ref vp])), (vc, .inl (cI, 8, .inl kc)), (vn, .inl (cI, 80, .inl fN)), (vr, .inl (cD, 80, .inr (.inr (.inr (.inl fR))))), (vs, .inl (cI, 80, .inl fS)), (ve, .inl (cI, 16, .inl ep))])) (F0 zm 70 ls [])) := by
    intro fuel
    induction fuel with
    | zero => exact ⟨(by intros; exact absurd (by assumption) (Nat.not_lt_zero _)), (by intros; exact absurd (by assumption) (Nat.not_lt_zero _))⟩
    | succ fuel ih =>
      refine ⟨?_, ?_⟩
      · intro j fNj fRj fSj hj hc9 hd9 hm H locs hP hD hS ls hl
        refine lv_iload_n hx hb dX5_finish_7 rfl (lv_at hl 1 rfl) ?_
        refine lv_aload_n hx hb dX5_finish_8 rfl (lv_at hl 0 rfl) ?_
        refine va_get (D := D) (ci := 5) (v := .ref ve) (C := RX5) (T := TX5) (N := 9) hx hb hts hin5 hown hK hP 0 rfl rfl 7 (by decide) (hts (.fieldLink RX5 29 "EpochSifterModel" "epochs" "[I") (by decide +kernel)) (fun _ h9 => h9) rfl dX5_finish_9 ?_
        refine lv_iconst (v := nI 3) hx hb dX5_finish_12 (by decide) ?_
        refine a_ild (v := nI G.2.2.2.2.length) hx hb hK hP 5 0 rfl rfl (by omega) (by decide) (hM.1.2.2.2.1) dX5_finish_13 ?_
        refine rn_ge (tgt := 68) hx hb dX5_finish_14 (by decide) (by omega) (by omega) (fun c_14 => ?_) (fun c_14 => ?_)
        · skip
          refine lv_iconst (v := nI 0) hx hb dX5_finish_68 (by decide) ?_
          refine lv_istore_n (lv' := [(1, .int (nI 0)), (0, .ref mo)]) hx hb dX5_finish_69 rfl hl (by decide) rfl (fun ls hl => ?_)
          exact ih.2 0 fNj fRj fSj ep (by first | assumption | omega) (by first | assumption | omega) (fun i hi => hd9 i (by omega)) (fun _ _ => rfl) (fun i hi => absurd hi (Nat.not_lt_zero _)) (by omega) _ _ hP hD hS ls (lv_sub hl [1, 0] rfl)
        · skip
          refine lv_aload_n hx hb dX5_finish_17 rfl (lv_at hl 0 rfl) ?_
          refine va_get (D := D) (ci := 5) (v := .ref vn) (C := RX5) (T := TX5) (N := 9) hx hb hts hin5 hown hK hP 0 rfl rfl 4 (by decide) (hts (.fieldLink RX5 19 "EpochSifterModel" "names" "[I") (by decide +kernel)) (fun _ h9 => h9) rfl dX5_finish_18 ?_
          refine lv_bipush (v := nI 40) hx hb dX5_finish_21 (by decide) ?_
          refine lv_iload_n hx hb dX5_finish_23 rfl (lv_at hl 1 rfl) ?_
          refine lv_iadd hx hb dX5_finish_24 ?_
          refine r_i (v := nI (40 + j)) (nI_add _ _) ?_
          refine lv_aload_n hx hb dX5_finish_25 rfl (lv_at hl 0 rfl) ?_
          refine va_get (D := D) (ci := 5) (v := .ref vn) (C := RX5) (T := TX5) (N := 9) hx hb hts hin5 hown hK hP 0 rfl rfl 4 (by decide) (hts (.fieldLink RX5 19 "EpochSifterModel" "names" "[I") (by decide +kernel)) (fun _ h9 => h9) rfl dX5_finish_26 ?_
          refine lv_iload_n hx hb dX5_finish_29 rfl (lv_at hl 1 rfl) ?_
          refine a_ild (v := fNj j) hx hb hK hP 2 0 rfl rfl (by omega) (by decide) (rfl) dX5_finish_30 ?_
          refine a_ist hx hb hK hP hD hS 2 0 rfl rfl (by omega) (by decide) dX5_finish_31 (fun H locs hP hD hS => ?_)
          have hP : va_P D vwCl [(mo, .inr (5, [.int (nI n), .ref vk, .ref vc, .ref vt, .ref vn, .ref vr, .ref vs, .ref ve, .ref vp])), (vc, .inl (cI, 8, .inl (bmp kc 4))), (vn, .inl (cI, 80, .inl (upd fNj (40 + j) (fNj j)))), (vr, .inl (cD, 80, .inr (.inr (.inr (.inl fRj))))), (vs, .inl (cI, 80, .inl fSj)), (ve, .inl (cI, 16, .inl ep))] _ := hP
          have hD : va_D (inW [(mo, .inr (5, [.int (nI n), .ref vk, .ref vc, .ref vt, .ref vn, .ref vr, .ref vs, .ref ve, .ref vp])), (vc, .inl (cI, 8, .inl kc)), (vn, .inl (cI, 80, .inl fN)), (vr, .inl (cD, 80, .inr (.inr (.inr (.inl fR))))), (vs, .inl (cI, 80, .inl fS)), (ve, .inl (cI, 16, .inl ep))]) [(mo, .inr (5, [.int (nI n), .ref vk, .ref vc, .ref vt, .ref vn, .ref vr, .ref vs, .ref ve, .ref vp])), (vc, .inl (cI, 8, .inl (bmp kc 4))), (vn, .inl (cI, 80, .inl (upd fNj (40 + j) (fNj j)))), (vr, .inl (cD, 80, .inr (.inr (.inr (.inl fRj))))), (vs, .inl (cI, 80, .inl fSj)), (ve, .inl (cI, 16, .inl ep))] := hD
          refine lv_aload_n hx hb dX5_finish_32 rfl (lv_at hl 0 rfl) ?_
          refine va_get (D := D) (ci := 5) (v := .ref vr) (C := RX5) (T := TX5) (N := 9) hx hb hts hin5 hown hK hP 0 rfl rfl 5 (by decide) (hts (.fieldLink RX5 22 "EpochSifterModel" "ranges" "[D") (by decide +kernel)) (fun _ h9 => h9) rfl dX5_finish_33 ?_
          refine lv_bipush (v := nI 40) hx hb dX5_finish_36 (by decide) ?_
          refine lv_iload_n hx hb dX5_finish_38 rfl (lv_at hl 1 rfl) ?_
          refine lv_iadd hx hb dX5_finish_39 ?_
          refine r_i (v := nI (40 + j)) (nI_add _ _) ?_
          refine lv_aload_n hx hb dX5_finish_40 rfl (lv_at hl 0 rfl) ?_
          refine va_get (D := D) (ci := 5) (v := .ref vr) (C := RX5) (T := TX5) (N := 9) hx hb hts hin5 hown hK hP 0 rfl rfl 5 (by decide) (hts (.fieldLink RX5 22 "EpochSifterModel" "ranges" "[D") (by decide +kernel)) (fun _ h9 => h9) rfl dX5_finish_41 ?_
          refine lv_iload_n hx hb dX5_finish_44 rfl (lv_at hl 1 rfl) ?_
          refine a_dld (v := fRj j) hx hb hK hP 3 1 rfl rfl (by omega) (by decide) (rfl) dX5_finish_45 ?_
          refine a_dst hx hb hK hP hD hS 3 1 rfl rfl (by omega) (by decide) dX5_finish_46 (fun H locs hP hD hS => ?_)
          have hP : va_P D vwCl [(mo, .inr (5, [.int (nI n), .ref vk, .ref vc, .ref vt, .ref vn, .ref vr, .ref vs, .ref ve, .ref vp])), (vc, .inl (cI, 8, .inl (bmp kc 4))), (vn, .inl (cI, 80, .inl (upd fNj (40 + j) (fNj j)))), (vr, .inl (cD, 80, .inr (.inr (.inr (.inl (vf_upd fRj (40 + j) (fRj j))))))), (vs, .inl (cI, 80, .inl fSj)), (ve, .inl (cI, 16, .inl ep))] _ := hP
          have hD : va_D (inW [(mo, .inr (5, [.int (nI n), .ref vk, .ref vc, .ref vt, .ref vn, .ref vr, .ref vs, .ref ve, .ref vp])), (vc, .inl (cI, 8, .inl kc)), (vn, .inl (cI, 80, .inl fN)), (vr, .inl (cD, 80, .inr (.inr (.inr (.inl fR))))), (vs, .inl (cI, 80, .inl fS)), (ve, .inl (cI, 16, .inl ep))]) [(mo, .inr (5, [.int (nI n), .ref vk, .ref vc, .ref vt, .ref vn, .ref vr, .ref vs, .ref ve, .ref vp])), (vc, .inl (cI, 8, .inl (bmp kc 4))), (vn, .inl (cI, 80, .inl (upd fNj (40 + j) (fNj j)))), (vr, .inl (cD, 80, .inr (.inr (.inr (.inl (vf_upd fRj (40 + j) (fRj j))))))), (vs, .inl (cI, 80, .inl fSj)), (ve, .inl (cI, 16, .inl ep))] := hD
          refine lv_aload_n hx hb dX5_finish_47 rfl (lv_at hl 0 rfl) ?_
          refine va_get (D := D) (ci := 5) (v := .ref vs) (C := RX5) (T := TX5) (N := 9) hx hb hts hin5 hown hK hP 0 rfl rfl 6 (by decide) (hts (.fieldLink RX5 26 "EpochSifterModel" "strengths" "[I") (by decide +kernel)) (fun _ h9 => h9) rfl dX5_finish_48 ?_
          refine lv_bipush (v := nI 40) hx hb dX5_finish_51 (by decide) ?_
          refine lv_iload_n hx hb dX5_finish_53 rfl (lv_at hl 1 rfl) ?_
          refine lv_iadd hx hb dX5_finish_54 ?_
          refine r_i (v := nI (40 + j)) (nI_add _ _) ?_
          refine lv_aload_n hx hb dX5_finish_55 rfl (lv_at hl 0 rfl) ?_
          refine va_get (D := D) (ci := 5) (v := .ref vs) (C := RX5) (T := TX5) (N := 9) hx hb hts hin5 hown hK hP 0 rfl rfl 6 (by decide) (hts (.fieldLink RX5 26 "EpochSifterModel" "strengths" "[I") (by decide +kernel)) (fun _ h9 => h9) rfl dX5_finish_56 ?_
          refine lv_iload_n hx hb dX5_finish_59 rfl (lv_at hl 1 rfl) ?_
          refine a_ild (v := fSj j) hx hb hK hP 4 0 rfl rfl (by omega) (by decide) (rfl) dX5_finish_60 ?_
          refine a_ist hx hb hK hP hD hS 4 0 rfl rfl (by omega) (by decide) dX5_finish_61 (fun H locs hP hD hS => ?_)
          have hP : va_P D vwCl [(mo, .inr (5, [.int (nI n), .ref vk, .ref vc, .ref vt, .ref vn, .ref vr, .ref vs, .ref ve, .ref vp])), (vc, .inl (cI, 8, .inl (bmp kc 4))), (vn, .inl (cI, 80, .inl (upd fNj (40 + j) (fNj j)))), (vr, .inl (cD, 80, .inr (.inr (.inr (.inl (vf_upd fRj (40 + j) (fRj j))))))), (vs, .inl (cI, 80, .inl (upd fSj (40 + j) (fSj j)))), (ve, .inl (cI, 16, .inl ep))] _ := hP
          have hD : va_D (inW [(mo, .inr (5, [.int (nI n), .ref vk, .ref vc, .ref vt, .ref vn, .ref vr, .ref vs, .ref ve, .ref vp])), (vc, .inl (cI, 8, .inl kc)), (vn, .inl (cI, 80, .inl fN)), (vr, .inl (cD, 80, .inr (.inr (.inr (.inl fR))))), (vs, .inl (cI, 80, .inl fS)), (ve, .inl (cI, 16, .inl ep))]) [(mo, .inr (5, [.int (nI n), .ref vk, .ref vc, .ref vt, .ref vn, .ref vr, .ref vs, .ref ve, .ref vp])), (vc, .inl (cI, 8, .inl (bmp kc 4))), (vn, .inl (cI, 80, .inl (upd fNj (40 + j) (fNj j)))), (vr, .inl (cD, 80, .inr (.inr (.inr (.inl (vf_upd fRj (40 + j) (fRj j))))))), (vs, .inl (cI, 80, .inl (upd fSj (40 + j) (fSj j)))), (ve, .inl (cI, 16, .inl ep))] := hD
          refine lv_iinc (v := nI (j + 1)) (lv' := [(1, .int (nI (j + 1))), (0, .ref mo)]) hx hb dX5_finish_62 hl (k := 1) rfl (nI_add _ _) (by decide) rfl (fun ls hl => ?_)
          refine lv_goto (tgt := 7) hx hb dX5_finish_65 (by decide) ?_
          exact ih.1 (j + 1) (upd fNj (40 + j) (fNj j)) (vf_upd fRj (40 + j) (fRj j)) (upd fSj (40 + j) (fSj j)) (by first | assumption | omega) (fun i hi => by rw [pk_un (by omega), vf_un (by omega), pk_un (by omega)]; exact hc9 i hi) (fun i hi => if e : i = j then (by rw [e, pk_us, vf_us, pk_us]; exact hc9 j (by omega)) else (by rw [pk_un (by omega), vf_un (by omega), pk_un (by omega)]; exact hd9 i (by omega))) (by omega) _ _ hP hD hS ls (lv_sub hl [1, 0] rfl)
      · intro j fNj fRj fSj epj hj hc9 hd9 ha9 hb9 hm H locs hP hD hS ls hl
        refine lv_iload_n hx hb dX5_finish_70 rfl (lv_at hl 1 rfl) ?_
        refine lv_iconst (v := nI 5) hx hb dX5_finish_71 (by decide) ?_
        refine rn_ge (tgt := 96) hx hb dX5_finish_72 (by decide) (by omega) (by omega) (fun c_72 => ?_) (fun c_72 => ?_)
        · skip
          refine lv_aload_n hx hb dX5_finish_96 rfl (lv_at hl 0 rfl) ?_
          refine va_get (D := D) (ci := 5) (v := .ref ve) (C := RX5) (T := TX5) (N := 9) hx hb hts hin5 hown hK hP 0 rfl rfl 7 (by decide) (hts (.fieldLink RX5 29 "EpochSifterModel" "epochs" "[I") (by decide +kernel)) (fun _ h9 => h9) rfl dX5_finish_97 ?_
          refine lv_iconst (v := nI 0) hx hb dX5_finish_100 (by decide) ?_
          refine lv_iconst (v := nI 0) hx hb dX5_finish_101 (by decide) ?_
          refine a_ist hx hb hK hP hD hS 5 0 rfl rfl (by omega) (by decide) dX5_finish_102 (fun H locs hP hD hS => ?_)
          have hP : va_P D vwCl [(mo, .inr (5, [.int (nI n), .ref vk, .ref vc, .ref vt, .ref vn, .ref vr, .ref vs, .ref ve, .ref vp])), (vc, .inl (cI, 8, .inl (bmp kc 4))), (vn, .inl (cI, 80, .inl fNj)), (vr, .inl (cD, 80, .inr (.inr (.inr (.inl fRj))))), (vs, .inl (cI, 80, .inl fSj)), (ve, .inl (cI, 16, .inl (upd epj 0 (nI 0))))] _ := hP
          have hD : va_D (inW [(mo, .inr (5, [.int (nI n), .ref vk, .ref vc, .ref vt, .ref vn, .ref vr, .ref vs, .ref ve, .ref vp])), (vc, .inl (cI, 8, .inl kc)), (vn, .inl (cI, 80, .inl fN)), (vr, .inl (cD, 80, .inr (.inr (.inr (.inl fR))))), (vs, .inl (cI, 80, .inl fS)), (ve, .inl (cI, 16, .inl ep))]) [(mo, .inr (5, [.int (nI n), .ref vk, .ref vc, .ref vt, .ref vn, .ref vr, .ref vs, .ref ve, .ref vp])), (vc, .inl (cI, 8, .inl (bmp kc 4))), (vn, .inl (cI, 80, .inl fNj)), (vr, .inl (cD, 80, .inr (.inr (.inr (.inl fRj))))), (vs, .inl (cI, 80, .inl fSj)), (ve, .inl (cI, 16, .inl (upd epj 0 (nI 0))))] := hD
          exact W.vret hx hb hr (fun tz htz hWz => ⟨none, [(mo, .inr (5, [.int (nI n), .ref vk, .ref vc, .ref vt, .ref vn, .ref vr, .ref vs, .ref ve, .ref vp])), (vc, .inl (cI, 8, .inl (bmp kc 4))), (vn, .inl (cI, 80, .inl fNj)), (vr, .inl (cD, 80, .inr (.inr (.inr (.inl fRj))))), (vs, .inl (cI, 80, .inl fSj)), (ve, .inl (cI, 16, .inl (upd epj 0 (nI 0))))], rfl, ⟨_, _, _, _, rfl, rfl, fin_rep hM hG1 ha9 (fun i hi => hb9 i (by omega)) hc9 hd9⟩, rfl, by rw [htz]; exact hP, hS.F htz⟩) (fun q h => hS.2.2 q h) dX5_finish_103
        · skip
          refine lv_aload_n hx hb dX5_finish_75 rfl (lv_at hl 0 rfl) ?_
          refine va_get (D := D) (ci := 5) (v := .ref ve) (C := RX5) (T := TX5) (N := 9) hx hb hts hin5 hown hK hP 0 rfl rfl 7 (by decide) (hts (.fieldLink RX5 29 "EpochSifterModel" "epochs" "[I") (by decide +kernel)) (fun _ h9 => h9) rfl dX5_finish_76 ?_
          refine lv_bipush (v := nI 8) hx hb dX5_finish_79 (by decide) ?_
          refine lv_iload_n hx hb dX5_finish_81 rfl (lv_at hl 1 rfl) ?_
          refine lv_iadd hx hb dX5_finish_82 ?_
          refine r_i (v := nI (8 + j)) (nI_add _ _) ?_
          refine lv_aload_n hx hb dX5_finish_83 rfl (lv_at hl 0 rfl) ?_
          refine va_get (D := D) (ci := 5) (v := .ref ve) (C := RX5) (T := TX5) (N := 9) hx hb hts hin5 hown hK hP 0 rfl rfl 7 (by decide) (hts (.fieldLink RX5 29 "EpochSifterModel" "epochs" "[I") (by decide +kernel)) (fun _ h9 => h9) rfl dX5_finish_84 ?_
          refine lv_iload_n hx hb dX5_finish_87 rfl (lv_at hl 1 rfl) ?_
          refine a_ild (v := epj j) hx hb hK hP 5 0 rfl rfl (by omega) (by decide) (rfl) dX5_finish_88 ?_
          refine a_ist hx hb hK hP hD hS 5 0 rfl rfl (by omega) (by decide) dX5_finish_89 (fun H locs hP hD hS => ?_)
          have hP : va_P D vwCl [(mo, .inr (5, [.int (nI n), .ref vk, .ref vc, .ref vt, .ref vn, .ref vr, .ref vs, .ref ve, .ref vp])), (vc, .inl (cI, 8, .inl (bmp kc 4))), (vn, .inl (cI, 80, .inl fNj)), (vr, .inl (cD, 80, .inr (.inr (.inr (.inl fRj))))), (vs, .inl (cI, 80, .inl fSj)), (ve, .inl (cI, 16, .inl (upd epj (8 + j) (epj j))))] _ := hP
          have hD : va_D (inW [(mo, .inr (5, [.int (nI n), .ref vk, .ref vc, .ref vt, .ref vn, .ref vr, .ref vs, .ref ve, .ref vp])), (vc, .inl (cI, 8, .inl kc)), (vn, .inl (cI, 80, .inl fN)), (vr, .inl (cD, 80, .inr (.inr (.inr (.inl fR))))), (vs, .inl (cI, 80, .inl fS)), (ve, .inl (cI, 16, .inl ep))]) [(mo, .inr (5, [.int (nI n), .ref vk, .ref vc, .ref vt, .ref vn, .ref vr, .ref vs, .ref ve, .ref vp])), (vc, .inl (cI, 8, .inl (bmp kc 4))), (vn, .inl (cI, 80, .inl fNj)), (vr, .inl (cD, 80, .inr (.inr (.inr (.inl fRj))))), (vs, .inl (cI, 80, .inl fSj)), (ve, .inl (cI, 16, .inl (upd epj (8 + j) (epj j))))] := hD
          refine lv_iinc (v := nI (j + 1)) (lv' := [(1, .int (nI (j + 1))), (0, .ref mo)]) hx hb dX5_finish_90 hl (k := 1) rfl (nI_add _ _) (by decide) rfl (fun ls hl => ?_)
          refine lv_goto (tgt := 70) hx hb dX5_finish_93 (by decide) ?_
          exact ih.2 (j + 1) fNj fRj fSj (upd epj (8 + j) (epj j)) (by first | assumption | omega) (by first | assumption | omega) hd9 (fun i hi => by rw [pk_un (by omega)]; exact ha9 i hi) (fun i hi => if e : i = j then (by rw [e, pk_us]; exact ha9 j (by omega)) else (by rw [pk_un (by omega)]; exact hb9 i (by omega))) (by omega) _ _ hP hD hS ls (lv_sub hl [1, 0] rfl)
  refine lv_aload_n hx hb dX5_finish_0 rfl (lv_at hl 0 rfl) ?_
  refine lv_iconst (v := nI 4) hx hb dX5_finish_1 (by decide) ?_
  refine x_callV (As := [.int (nI 4)]) (rest := []) ⟨hx, hb, hml, hown, hts⟩ (c_X5_bump (zl := zl) (D := D) (cI := cI) (cD := cD) mo n vk vc vt vn vr vs ve vp kc 4 (by decide)) (cwV 1 hts gX5_finish_X5_bump rfl rfl rfl (by decide +kernel) ⟨Nat.le_of_ble_eq_true rfl, Nat.le_of_ble_eq_true rfl⟩) hK hN hP hD hS [0, 1] rfl rfl 0 rfl rfl rfl hl.1 rfl (Nat.le_of_ble_eq_true rfl) dX5_finish_2 ⟨Nat.le_of_ble_eq_true rfl, Nat.le_of_ble_eq_true rfl⟩ (fun v_1 w_1 H locs hr_1 hP hD hS => ?_)
  obtain ⟨rfl, rfl⟩ := hr_1
  refine W.eq (g2 := F0 zm 5 ls []) rfl ?_
  have hP : va_P D vwCl [(mo, .inr (5, [.int (nI n), .ref vk, .ref vc, .ref vt, .ref vn, .ref vr, .ref vs, .ref ve, .ref vp])), (vc, .inl (cI, 8, .inl (bmp kc 4))), (vn, .inl (cI, 80, .inl fN)), (vr, .inl (cD, 80, .inr (.inr (.inr (.inl fR))))), (vs, .inl (cI, 80, .inl fS)), (ve, .inl (cI, 16, .inl ep))] _ := hP
  have hD : va_D (inW [(mo, .inr (5, [.int (nI n), .ref vk, .ref vc, .ref vt, .ref vn, .ref vr, .ref vs, .ref ve, .ref vp])), (vc, .inl (cI, 8, .inl kc)), (vn, .inl (cI, 80, .inl fN)), (vr, .inl (cD, 80, .inr (.inr (.inr (.inl fR))))), (vs, .inl (cI, 80, .inl fS)), (ve, .inl (cI, 16, .inl ep))]) [(mo, .inr (5, [.int (nI n), .ref vk, .ref vc, .ref vt, .ref vn, .ref vr, .ref vs, .ref ve, .ref vp])), (vc, .inl (cI, 8, .inl (bmp kc 4))), (vn, .inl (cI, 80, .inl fN)), (vr, .inl (cD, 80, .inr (.inr (.inr (.inl fR))))), (vs, .inl (cI, 80, .inl fS)), (ve, .inl (cI, 16, .inl ep))] := hD
  refine lv_iconst (v := nI 0) hx hb dX5_finish_5 (by decide) ?_
  refine lv_istore_n (lv' := [(1, .int (nI 0)), (0, .ref mo)]) hx hb dX5_finish_6 rfl hl (by decide) rfl (fun ls hl => ?_)
  exact (cuts _).1 0 fN fR fS (by first | assumption | omega) (fun _ _ => ⟨rfl, rfl, rfl⟩) (fun i hi => absurd hi (Nat.not_lt_zero _)) (Nat.lt_succ_self _) _ _ hP hD hS ls (lv_sub hl [1, 0] rfl)
set_option maxHeartbeats 4000000 in
set_option maxRecDepth 100000 in
/-- a position -/
theorem c_X5_locate {zl : Launch} {D : va_G} {cI cD : ClassId} (mo : Nat) (n : Nat) (vk : Nat) (vc : Nat) (vt : Nat) (vn : Nat) (vr : Nat) (vs : Nat) (ve : Nat) (vp : Nat) (f : Nat → Int32) (bs : List Nat) (kc : Nat → Int32) (po : Nat → Int32) (len : Nat) (hf : Rp f bs) (hbn : bs.length = n) (hn : n ≤ 160) (hB : By bs) (hlen : len + 8 ≤ n) (hps : isPos bs (len + 8)) : Cx zl yX5_locate wsX5_locate ({ frames := 1, cells := 0, slots := 0, locals := 23 }) D cI cD [.ref mo, .int (nI len)] [(mo, .inr (5, [.int (nI n), .ref vk, .ref vc, .ref vt, .ref vn, .ref vr, .ref vs, .ref ve, .ref vp])), (vk, .inl (cI, 160, .inl f)), (vc, .inl (cI, 8, .inl kc)), (vp, .inl (cI, 5, .inl po))] (fun v w1 => ∃ (poo : Nat → Int32), w1 = [(mo, .inr (5, [.int (nI n), .ref vk, .ref vc, .ref vt, .ref vn, .ref vr, .ref vs, .ref ve, .ref vp])), (vk, .inl (cI, 160, .inl f)), (vc, .inl (cI, 8, .inl (bmp kc 7))), (vp, .inl (cI, 5, .inl poo))] ∧ v = none ∧ RpP poo (nI (bs.getD 10 0), s4 bs 6, s4 bs 11, s4 bs 15, s4 bs 19)) := by
  refine Met.ofW (cc := cX5_locate) (maxL := 3) (ret := none) (by decide) rfl ?_
  intro zp ze zs zm zargs zb zt zc zs₁ B hml hv
  obtain ⟨rfl, hP, hK, hD0, hN⟩ := hv
  have hx := B.exec
  have hb := B.bytes
  have hr := B.returns
  have hts := atoms_spec (ws := wsX5_locate) B.pre
  have hown : zs.vm.findClass RX5 = some zm.cls := findClass_of_methodNamed B.named
  have hlocks := B.notSynchronized
  have hD := inW_self hD0
  have hS : va_S (inW [(mo, .inr (5, [.int (nI n), .ref vk, .ref vc, .ref vt, .ref vn, .ref vr, .ref vs, .ref ve, .ref vp])), (vk, .inl (cI, 160, .inl f)), (vc, .inl (cI, 8, .inl kc)), (vp, .inl (cI, 5, .inl po))]) zs.heap zs.heap [] := va_S.rf
  have hl := lv_entry [.ref mo, .int (nI len)] (n := 3) (Nat.le_of_ble_eq_true rfl)
  rw [lg_entry_eq]
  generalize (lg_sl [.ref mo, .int (nI len)] ++ List.replicate (3 - (lg_sl [.ref mo, .int (nI len)]).length) Slot.unset).toArray = ls at hl ⊢
  have hl : lv_has ls 3 [(0, .ref mo), (1, .int (nI len))] := hl
  have hin5 : ∀ w ∈ u_ws RX5 TX5 9, w ∈ wsX5_locate := by decide +kernel
  have b10 := hB 10
  have b2 := hB 2
  have b3 := hB 3
  obtain ⟨⟨h2, h3, h17⟩, h10a, h10b⟩ := hps
  refine lv_iload_n hx hb dX5_locate_0 rfl (lv_at hl 1 rfl) ?_
  refine lv_bipush (v := nI 17) hx hb dX5_locate_1 (by decide) ?_
  refine rn_lt (tgt := 16) hx hb dX5_locate_3 (by decide) (by omega) (by omega) (fun c_3 => ?_) (fun c_3 => ?_)
  · omega
  · skip
    refine lv_aload_n hx hb dX5_locate_6 rfl (lv_at hl 0 rfl) ?_
    refine va_get (D := D) (ci := 5) (v := .ref vk) (C := RX5) (T := TX5) (N := 9) hx hb hts hin5 hown hK hP 0 rfl rfl 1 (by decide) (hts (.fieldLink RX5 7 "EpochSifterModel" "kept" "[I") (by decide +kernel)) (fun _ h9 => h9) rfl dX5_locate_7 ?_
    refine lv_bipush (v := nI 10) hx hb dX5_locate_10 (by decide) ?_
    refine a_ild (v := nI (bs.getD 10 0)) hx hb hK hP 1 0 rfl rfl (by omega) (by decide) (hf 10 (by omega)) dX5_locate_12 ?_
    refine lv_goto (tgt := 17) hx hb dX5_locate_13 (by decide) ?_
    refine lv_istore_n (lv' := [(2, .int (nI (bs.getD 10 0))), (0, .ref mo), (1, .int (nI len))]) hx hb dX5_locate_17 rfl hl (by decide) rfl (fun ls hl => ?_)
    refine lv_aload_n hx hb dX5_locate_18 rfl (lv_at hl 1 rfl) ?_
    refine va_get (D := D) (ci := 5) (v := .ref vk) (C := RX5) (T := TX5) (N := 9) hx hb hts hin5 hown hK hP 0 rfl rfl 1 (by decide) (hts (.fieldLink RX5 7 "EpochSifterModel" "kept" "[I") (by decide +kernel)) (fun _ h9 => h9) rfl dX5_locate_19 ?_
    refine lv_iconst (v := nI 2) hx hb dX5_locate_22 (by decide) ?_
    refine a_ild (v := nI (bs.getD 2 0)) hx hb hK hP 1 0 rfl rfl (by omega) (by decide) (hf 2 (by omega)) dX5_locate_23 ?_
    refine lv_iconst (v := nI 1) hx hb dX5_locate_24 (by decide) ?_
    refine rn_ne (tgt := 49) hx hb dX5_locate_25 (by decide) (by omega) (by omega) (fun c_25 => ?_) (fun c_25 => ?_)
    · omega
    · skip
      refine lv_aload_n hx hb dX5_locate_28 rfl (lv_at hl 1 rfl) ?_
      refine va_get (D := D) (ci := 5) (v := .ref vk) (C := RX5) (T := TX5) (N := 9) hx hb hts hin5 hown hK hP 0 rfl rfl 1 (by decide) (hts (.fieldLink RX5 7 "EpochSifterModel" "kept" "[I") (by decide +kernel)) (fun _ h9 => h9) rfl dX5_locate_29 ?_
      refine lv_iconst (v := nI 3) hx hb dX5_locate_32 (by decide) ?_
      refine a_ild (v := nI (bs.getD 3 0)) hx hb hK hP 1 0 rfl rfl (by omega) (by decide) (hf 3 (by omega)) dX5_locate_33 ?_
      refine lv_bipush (v := nI 7) hx hb dX5_locate_34 (by decide) ?_
      refine rn_ne (tgt := 49) hx hb dX5_locate_36 (by decide) (by omega) (by omega) (fun c_36 => ?_) (fun c_36 => ?_)
      · omega
      · skip
        refine lv_iload_n hx hb dX5_locate_39 rfl (lv_at hl 0 rfl) ?_
        refine lv_iconst (v := nI 2) hx hb dX5_locate_40 (by decide) ?_
        refine rn_lt (tgt := 49) hx hb dX5_locate_41 (by decide) (by omega) (by omega) (fun c_41 => ?_) (fun c_41 => ?_)
        · omega
        · skip
          refine lv_iload_n hx hb dX5_locate_44 rfl (lv_at hl 0 rfl) ?_
          refine lv_iconst (v := nI 4) hx hb dX5_locate_45 (by decide) ?_
          refine rn_le (tgt := 55) hx hb dX5_locate_46 (by decide) (by omega) (by omega) (fun c_46 => ?_) (fun c_46 => ?_)
          · skip
            refine lv_aload_n hx hb dX5_locate_55 rfl (lv_at hl 1 rfl) ?_
            refine lv_bipush (v := nI 7) hx hb dX5_locate_56 (by decide) ?_
            refine x_callV (As := [.int (nI 7)]) (rest := []) ⟨hx, hb, hml, hown, hts⟩ (c_X5_bump (zl := zl) (D := D) (cI := cI) (cD := cD) mo n vk vc vt vn vr vs ve vp kc 7 (by decide)) (cwV 1 hts gX5_locate_X5_bump rfl rfl rfl (by decide +kernel) ⟨Nat.le_of_ble_eq_true rfl, Nat.le_of_ble_eq_true rfl⟩) hK hN hP hD hS [0, 2] rfl rfl 0 rfl rfl rfl hl.1 rfl (Nat.le_of_ble_eq_true rfl) dX5_locate_58 ⟨Nat.le_of_ble_eq_true rfl, Nat.le_of_ble_eq_true rfl⟩ (fun v_1 w_1 H locs hr_1 hP hD hS => ?_)
            obtain ⟨rfl, rfl⟩ := hr_1
            refine W.eq (g2 := F0 zm 61 ls []) rfl ?_
            have hP : va_P D vwCl [(mo, .inr (5, [.int (nI n), .ref vk, .ref vc, .ref vt, .ref vn, .ref vr, .ref vs, .ref ve, .ref vp])), (vk, .inl (cI, 160, .inl f)), (vc, .inl (cI, 8, .inl (bmp kc 7))), (vp, .inl (cI, 5, .inl po))] _ := hP
            have hD : va_D (inW [(mo, .inr (5, [.int (nI n), .ref vk, .ref vc, .ref vt, .ref vn, .ref vr, .ref vs, .ref ve, .ref vp])), (vk, .inl (cI, 160, .inl f)), (vc, .inl (cI, 8, .inl kc)), (vp, .inl (cI, 5, .inl po))]) [(mo, .inr (5, [.int (nI n), .ref vk, .ref vc, .ref vt, .ref vn, .ref vr, .ref vs, .ref ve, .ref vp])), (vk, .inl (cI, 160, .inl f)), (vc, .inl (cI, 8, .inl (bmp kc 7))), (vp, .inl (cI, 5, .inl po))] := hD
            refine lv_aload_n hx hb dX5_locate_61 rfl (lv_at hl 1 rfl) ?_
            refine va_get (D := D) (ci := 5) (v := .ref vp) (C := RX5) (T := TX5) (N := 9) hx hb hts hin5 hown hK hP 0 rfl rfl 8 (by decide) (hts (.fieldLink RX5 32 "EpochSifterModel" "position" "[I") (by decide +kernel)) (fun _ h9 => h9) rfl dX5_locate_62 ?_
            refine lv_iconst (v := nI 0) hx hb dX5_locate_65 (by decide) ?_
            refine lv_aload_n hx hb dX5_locate_66 rfl (lv_at hl 1 rfl) ?_
            refine lv_bipush (v := nI 6) hx hb dX5_locate_67 (by decide) ?_
            refine r_callVi (As := [.int (nI 6)]) (rest := [.int (nI 0), .ref vp]) ⟨hx, hb, hml, hown, hts⟩ (c_X5_four (zl := zl) (D := D) (cI := cI) (cD := cD) mo n vk vc vt vn vr vs ve vp f bs 6 (by first | assumption | omega) (by first | assumption | omega) (by first | assumption | omega) (by first | assumption | omega) (by first | assumption | omega)) (cwV 1 hts gX5_locate_X5_four rfl rfl rfl (by decide +kernel) ⟨Nat.le_of_ble_eq_true rfl, Nat.le_of_ble_eq_true rfl⟩) hK hN hP hD [0, 1] rfl rfl 0 rfl rfl rfl hl.1 rfl (Nat.le_of_ble_eq_true rfl) dX5_locate_69 ⟨Nat.le_of_ble_eq_true rfl, Nat.le_of_ble_eq_true rfl⟩ (fun r_2 h_2 => ?_)
            obtain rfl := h_2
            refine a_ist hx hb hK hP hD hS 3 0 rfl rfl (by omega) (by decide) dX5_locate_72 (fun H locs hP hD hS => ?_)
            have hP : va_P D vwCl [(mo, .inr (5, [.int (nI n), .ref vk, .ref vc, .ref vt, .ref vn, .ref vr, .ref vs, .ref ve, .ref vp])), (vk, .inl (cI, 160, .inl f)), (vc, .inl (cI, 8, .inl (bmp kc 7))), (vp, .inl (cI, 5, .inl (upd po 0 (s4 bs 6))))] _ := hP
            have hD : va_D (inW [(mo, .inr (5, [.int (nI n), .ref vk, .ref vc, .ref vt, .ref vn, .ref vr, .ref vs, .ref ve, .ref vp])), (vk, .inl (cI, 160, .inl f)), (vc, .inl (cI, 8, .inl kc)), (vp, .inl (cI, 5, .inl po))]) [(mo, .inr (5, [.int (nI n), .ref vk, .ref vc, .ref vt, .ref vn, .ref vr, .ref vs, .ref ve, .ref vp])), (vk, .inl (cI, 160, .inl f)), (vc, .inl (cI, 8, .inl (bmp kc 7))), (vp, .inl (cI, 5, .inl (upd po 0 (s4 bs 6))))] := hD
            refine lv_aload_n hx hb dX5_locate_73 rfl (lv_at hl 1 rfl) ?_
            refine va_get (D := D) (ci := 5) (v := .ref vp) (C := RX5) (T := TX5) (N := 9) hx hb hts hin5 hown hK hP 0 rfl rfl 8 (by decide) (hts (.fieldLink RX5 32 "EpochSifterModel" "position" "[I") (by decide +kernel)) (fun _ h9 => h9) rfl dX5_locate_74 ?_
            refine lv_iconst (v := nI 1) hx hb dX5_locate_77 (by decide) ?_
            refine lv_aload_n hx hb dX5_locate_78 rfl (lv_at hl 1 rfl) ?_
            refine lv_bipush (v := nI 11) hx hb dX5_locate_79 (by decide) ?_
            refine r_callVi (As := [.int (nI 11)]) (rest := [.int (nI 1), .ref vp]) ⟨hx, hb, hml, hown, hts⟩ (c_X5_four (zl := zl) (D := D) (cI := cI) (cD := cD) mo n vk vc vt vn vr vs ve vp f bs 11 (by first | assumption | omega) (by first | assumption | omega) (by first | assumption | omega) (by first | assumption | omega) (by first | assumption | omega)) (cwV 1 hts gX5_locate_X5_four rfl rfl rfl (by decide +kernel) ⟨Nat.le_of_ble_eq_true rfl, Nat.le_of_ble_eq_true rfl⟩) hK hN hP hD [0, 1] rfl rfl 0 rfl rfl rfl hl.1 rfl (Nat.le_of_ble_eq_true rfl) dX5_locate_81 ⟨Nat.le_of_ble_eq_true rfl, Nat.le_of_ble_eq_true rfl⟩ (fun r_3 h_3 => ?_)
            obtain rfl := h_3
            refine a_ist hx hb hK hP hD hS 3 0 rfl rfl (by omega) (by decide) dX5_locate_84 (fun H locs hP hD hS => ?_)
            have hP : va_P D vwCl [(mo, .inr (5, [.int (nI n), .ref vk, .ref vc, .ref vt, .ref vn, .ref vr, .ref vs, .ref ve, .ref vp])), (vk, .inl (cI, 160, .inl f)), (vc, .inl (cI, 8, .inl (bmp kc 7))), (vp, .inl (cI, 5, .inl (upd (upd po 0 (s4 bs 6)) 1 (s4 bs 11))))] _ := hP
            have hD : va_D (inW [(mo, .inr (5, [.int (nI n), .ref vk, .ref vc, .ref vt, .ref vn, .ref vr, .ref vs, .ref ve, .ref vp])), (vk, .inl (cI, 160, .inl f)), (vc, .inl (cI, 8, .inl kc)), (vp, .inl (cI, 5, .inl po))]) [(mo, .inr (5, [.int (nI n), .ref vk, .ref vc, .ref vt, .ref vn, .ref vr, .ref vs, .ref ve, .ref vp])), (vk, .inl (cI, 160, .inl f)), (vc, .inl (cI, 8, .inl (bmp kc 7))), (vp, .inl (cI, 5, .inl (upd (upd po 0 (s4 bs 6)) 1 (s4 bs 11))))] := hD
            refine lv_aload_n hx hb dX5_locate_85 rfl (lv_at hl 1 rfl) ?_
            refine va_get (D := D) (ci := 5) (v := .ref vp) (C := RX5) (T := TX5) (N := 9) hx hb hts hin5 hown hK hP 0 rfl rfl 8 (by decide) (hts (.fieldLink RX5 32 "EpochSifterModel" "position" "[I") (by decide +kernel)) (fun _ h9 => h9) rfl dX5_locate_86 ?_
            refine lv_iconst (v := nI 2) hx hb dX5_locate_89 (by decide) ?_
            refine lv_aload_n hx hb dX5_locate_90 rfl (lv_at hl 1 rfl) ?_
            refine lv_bipush (v := nI 15) hx hb dX5_locate_91 (by decide) ?_
            refine r_callVi (As := [.int (nI 15)]) (rest := [.int (nI 2), .ref vp]) ⟨hx, hb, hml, hown, hts⟩ (c_X5_four (zl := zl) (D := D) (cI := cI) (cD := cD) mo n vk vc vt vn vr vs ve vp f bs 15 (by first | assumption | omega) (by first | assumption | omega) (by first | assumption | omega) (by first | assumption | omega) (by first | assumption | omega)) (cwV 1 hts gX5_locate_X5_four rfl rfl rfl (by decide +kernel) ⟨Nat.le_of_ble_eq_true rfl, Nat.le_of_ble_eq_true rfl⟩) hK hN hP hD [0, 1] rfl rfl 0 rfl rfl rfl hl.1 rfl (Nat.le_of_ble_eq_true rfl) dX5_locate_93 ⟨Nat.le_of_ble_eq_true rfl, Nat.le_of_ble_eq_true rfl⟩ (fun r_4 h_4 => ?_)
            obtain rfl := h_4
            refine a_ist hx hb hK hP hD hS 3 0 rfl rfl (by omega) (by decide) dX5_locate_96 (fun H locs hP hD hS => ?_)
            have hP : va_P D vwCl [(mo, .inr (5, [.int (nI n), .ref vk, .ref vc, .ref vt, .ref vn, .ref vr, .ref vs, .ref ve, .ref vp])), (vk, .inl (cI, 160, .inl f)), (vc, .inl (cI, 8, .inl (bmp kc 7))), (vp, .inl (cI, 5, .inl (upd (upd (upd po 0 (s4 bs 6)) 1 (s4 bs 11)) 2 (s4 bs 15))))] _ := hP
            have hD : va_D (inW [(mo, .inr (5, [.int (nI n), .ref vk, .ref vc, .ref vt, .ref vn, .ref vr, .ref vs, .ref ve, .ref vp])), (vk, .inl (cI, 160, .inl f)), (vc, .inl (cI, 8, .inl kc)), (vp, .inl (cI, 5, .inl po))]) [(mo, .inr (5, [.int (nI n), .ref vk, .ref vc, .ref vt, .ref vn, .ref vr, .ref vs, .ref ve, .ref vp])), (vk, .inl (cI, 160, .inl f)), (vc, .inl (cI, 8, .inl (bmp kc 7))), (vp, .inl (cI, 5, .inl (upd (upd (upd po 0 (s4 bs 6)) 1 (s4 bs 11)) 2 (s4 bs 15))))] := hD
            refine lv_aload_n hx hb dX5_locate_97 rfl (lv_at hl 1 rfl) ?_
            refine va_get (D := D) (ci := 5) (v := .ref vp) (C := RX5) (T := TX5) (N := 9) hx hb hts hin5 hown hK hP 0 rfl rfl 8 (by decide) (hts (.fieldLink RX5 32 "EpochSifterModel" "position" "[I") (by decide +kernel)) (fun _ h9 => h9) rfl dX5_locate_98 ?_
            refine lv_iconst (v := nI 3) hx hb dX5_locate_101 (by decide) ?_
            refine lv_aload_n hx hb dX5_locate_102 rfl (lv_at hl 1 rfl) ?_
            refine lv_bipush (v := nI 19) hx hb dX5_locate_103 (by decide) ?_
            refine r_callVi (As := [.int (nI 19)]) (rest := [.int (nI 3), .ref vp]) ⟨hx, hb, hml, hown, hts⟩ (c_X5_four (zl := zl) (D := D) (cI := cI) (cD := cD) mo n vk vc vt vn vr vs ve vp f bs 19 (by first | assumption | omega) (by first | assumption | omega) (by first | assumption | omega) (by first | assumption | omega) (by first | assumption | omega)) (cwV 1 hts gX5_locate_X5_four rfl rfl rfl (by decide +kernel) ⟨Nat.le_of_ble_eq_true rfl, Nat.le_of_ble_eq_true rfl⟩) hK hN hP hD [0, 1] rfl rfl 0 rfl rfl rfl hl.1 rfl (Nat.le_of_ble_eq_true rfl) dX5_locate_105 ⟨Nat.le_of_ble_eq_true rfl, Nat.le_of_ble_eq_true rfl⟩ (fun r_5 h_5 => ?_)
            obtain rfl := h_5
            refine a_ist hx hb hK hP hD hS 3 0 rfl rfl (by omega) (by decide) dX5_locate_108 (fun H locs hP hD hS => ?_)
            have hP : va_P D vwCl [(mo, .inr (5, [.int (nI n), .ref vk, .ref vc, .ref vt, .ref vn, .ref vr, .ref vs, .ref ve, .ref vp])), (vk, .inl (cI, 160, .inl f)), (vc, .inl (cI, 8, .inl (bmp kc 7))), (vp, .inl (cI, 5, .inl (upd (upd (upd (upd po 0 (s4 bs 6)) 1 (s4 bs 11)) 2 (s4 bs 15)) 3 (s4 bs 19))))] _ := hP
            have hD : va_D (inW [(mo, .inr (5, [.int (nI n), .ref vk, .ref vc, .ref vt, .ref vn, .ref vr, .ref vs, .ref ve, .ref vp])), (vk, .inl (cI, 160, .inl f)), (vc, .inl (cI, 8, .inl kc)), (vp, .inl (cI, 5, .inl po))]) [(mo, .inr (5, [.int (nI n), .ref vk, .ref vc, .ref vt, .ref vn, .ref vr, .ref vs, .ref ve, .ref vp])), (vk, .inl (cI, 160, .inl f)), (vc, .inl (cI, 8, .inl (bmp kc 7))), (vp, .inl (cI, 5, .inl (upd (upd (upd (upd po 0 (s4 bs 6)) 1 (s4 bs 11)) 2 (s4 bs 15)) 3 (s4 bs 19))))] := hD
            refine lv_aload_n hx hb dX5_locate_109 rfl (lv_at hl 1 rfl) ?_
            refine va_get (D := D) (ci := 5) (v := .ref vp) (C := RX5) (T := TX5) (N := 9) hx hb hts hin5 hown hK hP 0 rfl rfl 8 (by decide) (hts (.fieldLink RX5 32 "EpochSifterModel" "position" "[I") (by decide +kernel)) (fun _ h9 => h9) rfl dX5_locate_110 ?_
            refine lv_iconst (v := nI 4) hx hb dX5_locate_113 (by decide) ?_
            refine lv_iload_n hx hb dX5_locate_114 rfl (lv_at hl 0 rfl) ?_
            refine a_ist hx hb hK hP hD hS 3 0 rfl rfl (by omega) (by decide) dX5_locate_115 (fun H locs hP hD hS => ?_)
            have hP : va_P D vwCl [(mo, .inr (5, [.int (nI n), .ref vk, .ref vc, .ref vt, .ref vn, .ref vr, .ref vs, .ref ve, .ref vp])), (vk, .inl (cI, 160, .inl f)), (vc, .inl (cI, 8, .inl (bmp kc 7))), (vp, .inl (cI, 5, .inl (upd (upd (upd (upd (upd po 0 (s4 bs 6)) 1 (s4 bs 11)) 2 (s4 bs 15)) 3 (s4 bs 19)) 4 (nI (bs.getD 10 0)))))] _ := hP
            have hD : va_D (inW [(mo, .inr (5, [.int (nI n), .ref vk, .ref vc, .ref vt, .ref vn, .ref vr, .ref vs, .ref ve, .ref vp])), (vk, .inl (cI, 160, .inl f)), (vc, .inl (cI, 8, .inl kc)), (vp, .inl (cI, 5, .inl po))]) [(mo, .inr (5, [.int (nI n), .ref vk, .ref vc, .ref vt, .ref vn, .ref vr, .ref vs, .ref ve, .ref vp])), (vk, .inl (cI, 160, .inl f)), (vc, .inl (cI, 8, .inl (bmp kc 7))), (vp, .inl (cI, 5, .inl (upd (upd (upd (upd (upd po 0 (s4 bs 6)) 1 (s4 bs 11)) 2 (s4 bs 15)) 3 (s4 bs 19)) 4 (nI (bs.getD 10 0)))))] := hD
            exact W.vret hx hb hr (fun tz htz hWz => ⟨none, [(mo, .inr (5, [.int (nI n), .ref vk, .ref vc, .ref vt, .ref vn, .ref vr, .ref vs, .ref ve, .ref vp])), (vk, .inl (cI, 160, .inl f)), (vc, .inl (cI, 8, .inl (bmp kc 7))), (vp, .inl (cI, 5, .inl (upd (upd (upd (upd (upd po 0 (s4 bs 6)) 1 (s4 bs 11)) 2 (s4 bs 15)) 3 (s4 bs 19)) 4 (nI (bs.getD 10 0)))))], rfl, ⟨_, rfl, rfl, ⟨rfl, rfl, rfl, rfl, rfl⟩⟩, rfl, by rw [htz]; exact hP, hS.F htz⟩) (fun q h => hS.2.2 q h) dX5_locate_116
          · omega
set_option maxHeartbeats 4000000 in
set_option maxRecDepth 100000 in
/-- no position -/
theorem c_X5_locate_no {zl : Launch} {D : va_G} {cI cD : ClassId} (mo : Nat) (n : Nat) (vk : Nat) (vc : Nat) (vt : Nat) (vn : Nat) (vr : Nat) (vs : Nat) (ve : Nat) (vp : Nat) (f : Nat → Int32) (bs : List Nat) (kc : Nat → Int32) (po : Nat → Int32) (len : Nat) (hf : Rp f bs) (hbn : bs.length = n) (hn : n ≤ 160) (hB : By bs) (hlen : len + 8 ≤ n) (hps : ¬ isPos bs (len + 8)) : Cx zl yX5_locate wsX5_locate ({ frames := 1, cells := 0, slots := 0, locals := 23 }) D cI cD [.ref mo, .int (nI len)] [(mo, .inr (5, [.int (nI n), .ref vk, .ref vc, .ref vt, .ref vn, .ref vr, .ref vs, .ref ve, .ref vp])), (vk, .inl (cI, 160, .inl f)), (vc, .inl (cI, 8, .inl kc)), (vp, .inl (cI, 5, .inl po))] (fun v w1 => w1 = [(mo, .inr (5, [.int (nI n), .ref vk, .ref vc, .ref vt, .ref vn, .ref vr, .ref vs, .ref ve, .ref vp])), (vk, .inl (cI, 160, .inl f)), (vc, .inl (cI, 8, .inl (bmp kc 3))), (vp, .inl (cI, 5, .inl po))] ∧ v = none) := by
  refine Met.ofW (cc := cX5_locate) (maxL := 3) (ret := none) (by decide) rfl ?_
  intro zp ze zs zm zargs zb zt zc zs₁ B hml hv
  obtain ⟨rfl, hP, hK, hD0, hN⟩ := hv
  have hx := B.exec
  have hb := B.bytes
  have hr := B.returns
  have hts := atoms_spec (ws := wsX5_locate) B.pre
  have hown : zs.vm.findClass RX5 = some zm.cls := findClass_of_methodNamed B.named
  have hlocks := B.notSynchronized
  have hD := inW_self hD0
  have hS : va_S (inW [(mo, .inr (5, [.int (nI n), .ref vk, .ref vc, .ref vt, .ref vn, .ref vr, .ref vs, .ref ve, .ref vp])), (vk, .inl (cI, 160, .inl f)), (vc, .inl (cI, 8, .inl kc)), (vp, .inl (cI, 5, .inl po))]) zs.heap zs.heap [] := va_S.rf
  have hl := lv_entry [.ref mo, .int (nI len)] (n := 3) (Nat.le_of_ble_eq_true rfl)
  rw [lg_entry_eq]
  generalize (lg_sl [.ref mo, .int (nI len)] ++ List.replicate (3 - (lg_sl [.ref mo, .int (nI len)]).length) Slot.unset).toArray = ls at hl ⊢
  have hl : lv_has ls 3 [(0, .ref mo), (1, .int (nI len))] := hl
  have hin5 : ∀ w ∈ u_ws RX5 TX5 9, w ∈ wsX5_locate := by decide +kernel
  have b10 := hB 10
  have b2 := hB 2
  have b3 := hB 3
  refine lv_iload_n hx hb dX5_locate_0 rfl (lv_at hl 1 rfl) ?_
  refine lv_bipush (v := nI 17) hx hb dX5_locate_1 (by decide) ?_
  refine rn_lt (tgt := 16) hx hb dX5_locate_3 (by decide) (by omega) (by omega) (fun c_3 => ?_) (fun c_3 => ?_)
  · skip
    refine lv_iconst (v := nI 0) hx hb dX5_locate_16 (by decide) ?_
    refine lv_istore_n (lv' := [(2, .int (nI 0)), (0, .ref mo), (1, .int (nI len))]) hx hb dX5_locate_17 rfl hl (by decide) rfl (fun ls hl => ?_)
    refine lv_aload_n hx hb dX5_locate_18 rfl (lv_at hl 1 rfl) ?_
    refine va_get (D := D) (ci := 5) (v := .ref vk) (C := RX5) (T := TX5) (N := 9) hx hb hts hin5 hown hK hP 0 rfl rfl 1 (by decide) (hts (.fieldLink RX5 7 "EpochSifterModel" "kept" "[I") (by decide +kernel)) (fun _ h9 => h9) rfl dX5_locate_19 ?_
    refine lv_iconst (v := nI 2) hx hb dX5_locate_22 (by decide) ?_
    refine a_ild (v := nI (bs.getD 2 0)) hx hb hK hP 1 0 rfl rfl (by omega) (by decide) (hf 2 (by omega)) dX5_locate_23 ?_
    refine lv_iconst (v := nI 1) hx hb dX5_locate_24 (by decide) ?_
    refine rn_ne (tgt := 49) hx hb dX5_locate_25 (by decide) (by omega) (by omega) (fun c_25 => ?_) (fun c_25 => ?_)
    · skip
      refine lv_aload_n hx hb dX5_locate_49 rfl (lv_at hl 1 rfl) ?_
      refine lv_iconst (v := nI 3) hx hb dX5_locate_50 (by decide) ?_
      refine x_callV (As := [.int (nI 3)]) (rest := []) ⟨hx, hb, hml, hown, hts⟩ (c_X5_bump (zl := zl) (D := D) (cI := cI) (cD := cD) mo n vk vc vt vn vr vs ve vp kc 3 (by decide)) (cwV 1 hts gX5_locate_X5_bump rfl rfl rfl (by decide +kernel) ⟨Nat.le_of_ble_eq_true rfl, Nat.le_of_ble_eq_true rfl⟩) hK hN hP hD hS [0, 2] rfl rfl 0 rfl rfl rfl hl.1 rfl (Nat.le_of_ble_eq_true rfl) dX5_locate_51 ⟨Nat.le_of_ble_eq_true rfl, Nat.le_of_ble_eq_true rfl⟩ (fun v_1 w_1 H locs hr_1 hP hD hS => ?_)
      obtain ⟨rfl, rfl⟩ := hr_1
      refine W.eq (g2 := F0 zm 54 ls []) rfl ?_
      have hP : va_P D vwCl [(mo, .inr (5, [.int (nI n), .ref vk, .ref vc, .ref vt, .ref vn, .ref vr, .ref vs, .ref ve, .ref vp])), (vk, .inl (cI, 160, .inl f)), (vc, .inl (cI, 8, .inl (bmp kc 3))), (vp, .inl (cI, 5, .inl po))] _ := hP
      have hD : va_D (inW [(mo, .inr (5, [.int (nI n), .ref vk, .ref vc, .ref vt, .ref vn, .ref vr, .ref vs, .ref ve, .ref vp])), (vk, .inl (cI, 160, .inl f)), (vc, .inl (cI, 8, .inl kc)), (vp, .inl (cI, 5, .inl po))]) [(mo, .inr (5, [.int (nI n), .ref vk, .ref vc, .ref vt, .ref vn, .ref vr, .ref vs, .ref ve, .ref vp])), (vk, .inl (cI, 160, .inl f)), (vc, .inl (cI, 8, .inl (bmp kc 3))), (vp, .inl (cI, 5, .inl po))] := hD
      exact W.vret hx hb hr (fun tz htz hWz => ⟨none, [(mo, .inr (5, [.int (nI n), .ref vk, .ref vc, .ref vt, .ref vn, .ref vr, .ref vs, .ref ve, .ref vp])), (vk, .inl (cI, 160, .inl f)), (vc, .inl (cI, 8, .inl (bmp kc 3))), (vp, .inl (cI, 5, .inl po))], rfl, ⟨rfl, rfl⟩, rfl, by rw [htz]; exact hP, hS.F htz⟩) (fun q h => hS.2.2 q h) dX5_locate_54
    · skip
      refine lv_aload_n hx hb dX5_locate_28 rfl (lv_at hl 1 rfl) ?_
      refine va_get (D := D) (ci := 5) (v := .ref vk) (C := RX5) (T := TX5) (N := 9) hx hb hts hin5 hown hK hP 0 rfl rfl 1 (by decide) (hts (.fieldLink RX5 7 "EpochSifterModel" "kept" "[I") (by decide +kernel)) (fun _ h9 => h9) rfl dX5_locate_29 ?_
      refine lv_iconst (v := nI 3) hx hb dX5_locate_32 (by decide) ?_
      refine a_ild (v := nI (bs.getD 3 0)) hx hb hK hP 1 0 rfl rfl (by omega) (by decide) (hf 3 (by omega)) dX5_locate_33 ?_
      refine lv_bipush (v := nI 7) hx hb dX5_locate_34 (by decide) ?_
      refine rn_ne (tgt := 49) hx hb dX5_locate_36 (by decide) (by omega) (by omega) (fun c_36 => ?_) (fun c_36 => ?_)
      · skip
        refine lv_aload_n hx hb dX5_locate_49 rfl (lv_at hl 1 rfl) ?_
        refine lv_iconst (v := nI 3) hx hb dX5_locate_50 (by decide) ?_
        refine x_callV (As := [.int (nI 3)]) (rest := []) ⟨hx, hb, hml, hown, hts⟩ (c_X5_bump (zl := zl) (D := D) (cI := cI) (cD := cD) mo n vk vc vt vn vr vs ve vp kc 3 (by decide)) (cwV 1 hts gX5_locate_X5_bump rfl rfl rfl (by decide +kernel) ⟨Nat.le_of_ble_eq_true rfl, Nat.le_of_ble_eq_true rfl⟩) hK hN hP hD hS [0, 2] rfl rfl 0 rfl rfl rfl hl.1 rfl (Nat.le_of_ble_eq_true rfl) dX5_locate_51 ⟨Nat.le_of_ble_eq_true rfl, Nat.le_of_ble_eq_true rfl⟩ (fun v_2 w_2 H locs hr_2 hP hD hS => ?_)
        obtain ⟨rfl, rfl⟩ := hr_2
        refine W.eq (g2 := F0 zm 54 ls []) rfl ?_
        have hP : va_P D vwCl [(mo, .inr (5, [.int (nI n), .ref vk, .ref vc, .ref vt, .ref vn, .ref vr, .ref vs, .ref ve, .ref vp])), (vk, .inl (cI, 160, .inl f)), (vc, .inl (cI, 8, .inl (bmp kc 3))), (vp, .inl (cI, 5, .inl po))] _ := hP
        have hD : va_D (inW [(mo, .inr (5, [.int (nI n), .ref vk, .ref vc, .ref vt, .ref vn, .ref vr, .ref vs, .ref ve, .ref vp])), (vk, .inl (cI, 160, .inl f)), (vc, .inl (cI, 8, .inl kc)), (vp, .inl (cI, 5, .inl po))]) [(mo, .inr (5, [.int (nI n), .ref vk, .ref vc, .ref vt, .ref vn, .ref vr, .ref vs, .ref ve, .ref vp])), (vk, .inl (cI, 160, .inl f)), (vc, .inl (cI, 8, .inl (bmp kc 3))), (vp, .inl (cI, 5, .inl po))] := hD
        exact W.vret hx hb hr (fun tz htz hWz => ⟨none, [(mo, .inr (5, [.int (nI n), .ref vk, .ref vc, .ref vt, .ref vn, .ref vr, .ref vs, .ref ve, .ref vp])), (vk, .inl (cI, 160, .inl f)), (vc, .inl (cI, 8, .inl (bmp kc 3))), (vp, .inl (cI, 5, .inl po))], rfl, ⟨rfl, rfl⟩, rfl, by rw [htz]; exact hP, hS.F htz⟩) (fun q h => hS.2.2 q h) dX5_locate_54
      · skip
        refine lv_iload_n hx hb dX5_locate_39 rfl (lv_at hl 0 rfl) ?_
        refine lv_iconst (v := nI 2) hx hb dX5_locate_40 (by decide) ?_
        refine rn_lt (tgt := 49) hx hb dX5_locate_41 (by decide) (by omega) (by omega) (fun c_41 => ?_) (fun c_41 => ?_)
        · skip
          refine lv_aload_n hx hb dX5_locate_49 rfl (lv_at hl 1 rfl) ?_
          refine lv_iconst (v := nI 3) hx hb dX5_locate_50 (by decide) ?_
          refine x_callV (As := [.int (nI 3)]) (rest := []) ⟨hx, hb, hml, hown, hts⟩ (c_X5_bump (zl := zl) (D := D) (cI := cI) (cD := cD) mo n vk vc vt vn vr vs ve vp kc 3 (by decide)) (cwV 1 hts gX5_locate_X5_bump rfl rfl rfl (by decide +kernel) ⟨Nat.le_of_ble_eq_true rfl, Nat.le_of_ble_eq_true rfl⟩) hK hN hP hD hS [0, 2] rfl rfl 0 rfl rfl rfl hl.1 rfl (Nat.le_of_ble_eq_true rfl) dX5_locate_51 ⟨Nat.le_of_ble_eq_true rfl, Nat.le_of_ble_eq_true rfl⟩ (fun v_3 w_3 H locs hr_3 hP hD hS => ?_)
          obtain ⟨rfl, rfl⟩ := hr_3
          refine W.eq (g2 := F0 zm 54 ls []) rfl ?_
          have hP : va_P D vwCl [(mo, .inr (5, [.int (nI n), .ref vk, .ref vc, .ref vt, .ref vn, .ref vr, .ref vs, .ref ve, .ref vp])), (vk, .inl (cI, 160, .inl f)), (vc, .inl (cI, 8, .inl (bmp kc 3))), (vp, .inl (cI, 5, .inl po))] _ := hP
          have hD : va_D (inW [(mo, .inr (5, [.int (nI n), .ref vk, .ref vc, .ref vt, .ref vn, .ref vr, .ref vs, .ref ve, .ref vp])), (vk, .inl (cI, 160, .inl f)), (vc, .inl (cI, 8, .inl kc)), (vp, .inl (cI, 5, .inl po))]) [(mo, .inr (5, [.int (nI n), .ref vk, .ref vc, .ref vt, .ref vn, .ref vr, .ref vs, .ref ve, .ref vp])), (vk, .inl (cI, 160, .inl f)), (vc, .inl (cI, 8, .inl (bmp kc 3))), (vp, .inl (cI, 5, .inl po))] := hD
          exact W.vret hx hb hr (fun tz htz hWz => ⟨none, [(mo, .inr (5, [.int (nI n), .ref vk, .ref vc, .ref vt, .ref vn, .ref vr, .ref vs, .ref ve, .ref vp])), (vk, .inl (cI, 160, .inl f)), (vc, .inl (cI, 8, .inl (bmp kc 3))), (vp, .inl (cI, 5, .inl po))], rfl, ⟨rfl, rfl⟩, rfl, by rw [htz]; exact hP, hS.F htz⟩) (fun q h => hS.2.2 q h) dX5_locate_54
        · omega
  · skip
    refine lv_aload_n hx hb dX5_locate_6 rfl (lv_at hl 0 rfl) ?_
    refine va_get (D := D) (ci := 5) (v := .ref vk) (C := RX5) (T := TX5) (N := 9) hx hb hts hin5 hown hK hP 0 rfl rfl 1 (by decide) (hts (.fieldLink RX5 7 "EpochSifterModel" "kept" "[I") (by decide +kernel)) (fun _ h9 => h9) rfl dX5_locate_7 ?_
    refine lv_bipush (v := nI 10) hx hb dX5_locate_10 (by decide) ?_
    refine a_ild (v := nI (bs.getD 10 0)) hx hb hK hP 1 0 rfl rfl (by omega) (by decide) (hf 10 (by omega)) dX5_locate_12 ?_
    refine lv_goto (tgt := 17) hx hb dX5_locate_13 (by decide) ?_
    refine lv_istore_n (lv' := [(2, .int (nI (bs.getD 10 0))), (0, .ref mo), (1, .int (nI len))]) hx hb dX5_locate_17 rfl hl (by decide) rfl (fun ls hl => ?_)
    refine lv_aload_n hx hb dX5_locate_18 rfl (lv_at hl 1 rfl) ?_
    refine va_get (D := D) (ci := 5) (v := .ref vk) (C := RX5) (T := TX5) (N := 9) hx hb hts hin5 hown hK hP 0 rfl rfl 1 (by decide) (hts (.fieldLink RX5 7 "EpochSifterModel" "kept" "[I") (by decide +kernel)) (fun _ h9 => h9) rfl dX5_locate_19 ?_
    refine lv_iconst (v := nI 2) hx hb dX5_locate_22 (by decide) ?_
    refine a_ild (v := nI (bs.getD 2 0)) hx hb hK hP 1 0 rfl rfl (by omega) (by decide) (hf 2 (by omega)) dX5_locate_23 ?_
    refine lv_iconst (v := nI 1) hx hb dX5_locate_24 (by decide) ?_
    refine rn_ne (tgt := 49) hx hb dX5_locate_25 (by decide) (by omega) (by omega) (fun c_25 => ?_) (fun c_25 => ?_)
    · skip
      refine lv_aload_n hx hb dX5_locate_49 rfl (lv_at hl 1 rfl) ?_
      refine lv_iconst (v := nI 3) hx hb dX5_locate_50 (by decide) ?_
      refine x_callV (As := [.int (nI 3)]) (rest := []) ⟨hx, hb, hml, hown, hts⟩ (c_X5_bump (zl := zl) (D := D) (cI := cI) (cD := cD) mo n vk vc vt vn vr vs ve vp kc 3 (by decide)) (cwV 1 hts gX5_locate_X5_bump rfl rfl rfl (by decide +kernel) ⟨Nat.le_of_ble_eq_true rfl, Nat.le_of_ble_eq_true rfl⟩) hK hN hP hD hS [0, 2] rfl rfl 0 rfl rfl rfl hl.1 rfl (Nat.le_of_ble_eq_true rfl) dX5_locate_51 ⟨Nat.le_of_ble_eq_true rfl, Nat.le_of_ble_eq_true rfl⟩ (fun v_4 w_4 H locs hr_4 hP hD hS => ?_)
      obtain ⟨rfl, rfl⟩ := hr_4
      refine W.eq (g2 := F0 zm 54 ls []) rfl ?_
      have hP : va_P D vwCl [(mo, .inr (5, [.int (nI n), .ref vk, .ref vc, .ref vt, .ref vn, .ref vr, .ref vs, .ref ve, .ref vp])), (vk, .inl (cI, 160, .inl f)), (vc, .inl (cI, 8, .inl (bmp kc 3))), (vp, .inl (cI, 5, .inl po))] _ := hP
      have hD : va_D (inW [(mo, .inr (5, [.int (nI n), .ref vk, .ref vc, .ref vt, .ref vn, .ref vr, .ref vs, .ref ve, .ref vp])), (vk, .inl (cI, 160, .inl f)), (vc, .inl (cI, 8, .inl kc)), (vp, .inl (cI, 5, .inl po))]) [(mo, .inr (5, [.int (nI n), .ref vk, .ref vc, .ref vt, .ref vn, .ref vr, .ref vs, .ref ve, .ref vp])), (vk, .inl (cI, 160, .inl f)), (vc, .inl (cI, 8, .inl (bmp kc 3))), (vp, .inl (cI, 5, .inl po))] := hD
      exact W.vret hx hb hr (fun tz htz hWz => ⟨none, [(mo, .inr (5, [.int (nI n), .ref vk, .ref vc, .ref vt, .ref vn, .ref vr, .ref vs, .ref ve, .ref vp])), (vk, .inl (cI, 160, .inl f)), (vc, .inl (cI, 8, .inl (bmp kc 3))), (vp, .inl (cI, 5, .inl po))], rfl, ⟨rfl, rfl⟩, rfl, by rw [htz]; exact hP, hS.F htz⟩) (fun q h => hS.2.2 q h) dX5_locate_54
    · skip
      refine lv_aload_n hx hb dX5_locate_28 rfl (lv_at hl 1 rfl) ?_
      refine va_get (D := D) (ci := 5) (v := .ref vk) (C := RX5) (T := TX5) (N := 9) hx hb hts hin5 hown hK hP 0 rfl rfl 1 (by decide) (hts (.fieldLink RX5 7 "EpochSifterModel" "kept" "[I") (by decide +kernel)) (fun _ h9 => h9) rfl dX5_locate_29 ?_
      refine lv_iconst (v := nI 3) hx hb dX5_locate_32 (by decide) ?_
      refine a_ild (v := nI (bs.getD 3 0)) hx hb hK hP 1 0 rfl rfl (by omega) (by decide) (hf 3 (by omega)) dX5_locate_33 ?_
      refine lv_bipush (v := nI 7) hx hb dX5_locate_34 (by decide) ?_
      refine rn_ne (tgt := 49) hx hb dX5_locate_36 (by decide) (by omega) (by omega) (fun c_36 => ?_) (fun c_36 => ?_)
      · skip
        refine lv_aload_n hx hb dX5_locate_49 rfl (lv_at hl 1 rfl) ?_
        refine lv_iconst (v := nI 3) hx hb dX5_locate_50 (by decide) ?_
        refine x_callV (As := [.int (nI 3)]) (rest := []) ⟨hx, hb, hml, hown, hts⟩ (c_X5_bump (zl := zl) (D := D) (cI := cI) (cD := cD) mo n vk vc vt vn vr vs ve vp kc 3 (by decide)) (cwV 1 hts gX5_locate_X5_bump rfl rfl rfl (by decide +kernel) ⟨Nat.le_of_ble_eq_true rfl, Nat.le_of_ble_eq_true rfl⟩) hK hN hP hD hS [0, 2] rfl rfl 0 rfl rfl rfl hl.1 rfl (Nat.le_of_ble_eq_true rfl) dX5_locate_51 ⟨Nat.le_of_ble_eq_true rfl, Nat.le_of_ble_eq_true rfl⟩ (fun v_5 w_5 H locs hr_5 hP hD hS => ?_)
        obtain ⟨rfl, rfl⟩ := hr_5
        refine W.eq (g2 := F0 zm 54 ls []) rfl ?_
        have hP : va_P D vwCl [(mo, .inr (5, [.int (nI n), .ref vk, .ref vc, .ref vt, .ref vn, .ref vr, .ref vs, .ref ve, .ref vp])), (vk, .inl (cI, 160, .inl f)), (vc, .inl (cI, 8, .inl (bmp kc 3))), (vp, .inl (cI, 5, .inl po))] _ := hP
        have hD : va_D (inW [(mo, .inr (5, [.int (nI n), .ref vk, .ref vc, .ref vt, .ref vn, .ref vr, .ref vs, .ref ve, .ref vp])), (vk, .inl (cI, 160, .inl f)), (vc, .inl (cI, 8, .inl kc)), (vp, .inl (cI, 5, .inl po))]) [(mo, .inr (5, [.int (nI n), .ref vk, .ref vc, .ref vt, .ref vn, .ref vr, .ref vs, .ref ve, .ref vp])), (vk, .inl (cI, 160, .inl f)), (vc, .inl (cI, 8, .inl (bmp kc 3))), (vp, .inl (cI, 5, .inl po))] := hD
        exact W.vret hx hb hr (fun tz htz hWz => ⟨none, [(mo, .inr (5, [.int (nI n), .ref vk, .ref vc, .ref vt, .ref vn, .ref vr, .ref vs, .ref ve, .ref vp])), (vk, .inl (cI, 160, .inl f)), (vc, .inl (cI, 8, .inl (bmp kc 3))), (vp, .inl (cI, 5, .inl po))], rfl, ⟨rfl, rfl⟩, rfl, by rw [htz]; exact hP, hS.F htz⟩) (fun q h => hS.2.2 q h) dX5_locate_54
      · skip
        refine lv_iload_n hx hb dX5_locate_39 rfl (lv_at hl 0 rfl) ?_
        refine lv_iconst (v := nI 2) hx hb dX5_locate_40 (by decide) ?_
        refine rn_lt (tgt := 49) hx hb dX5_locate_41 (by decide) (by omega) (by omega) (fun c_41 => ?_) (fun c_41 => ?_)
        · skip
          refine lv_aload_n hx hb dX5_locate_49 rfl (lv_at hl 1 rfl) ?_
          refine lv_iconst (v := nI 3) hx hb dX5_locate_50 (by decide) ?_
          refine x_callV (As := [.int (nI 3)]) (rest := []) ⟨hx, hb, hml, hown, hts⟩ (c_X5_bump (zl := zl) (D := D) (cI := cI) (cD := cD) mo n vk vc vt vn vr vs ve vp kc 3 (by decide)) (cwV 1 hts gX5_locate_X5_bump rfl rfl rfl (by decide +kernel) ⟨Nat.le_of_ble_eq_true rfl, Nat.le_of_ble_eq_true rfl⟩) hK hN hP hD hS [0, 2] rfl rfl 0 rfl rfl rfl hl.1 rfl (Nat.le_of_ble_eq_true rfl) dX5_locate_51 ⟨Nat.le_of_ble_eq_true rfl, Nat.le_of_ble_eq_true rfl⟩ (fun v_6 w_6 H locs hr_6 hP hD hS => ?_)
          obtain ⟨rfl, rfl⟩ := hr_6
          refine W.eq (g2 := F0 zm 54 ls []) rfl ?_
          have hP : va_P D vwCl [(mo, .inr (5, [.int (nI n), .ref vk, .ref vc, .ref vt, .ref vn, .ref vr, .ref vs, .ref ve, .ref vp])), (vk, .inl (cI, 160, .inl f)), (vc, .inl (cI, 8, .inl (bmp kc 3))), (vp, .inl (cI, 5, .inl po))] _ := hP
          have hD : va_D (inW [(mo, .inr (5, [.int (nI n), .ref vk, .ref vc, .ref vt, .ref vn, .ref vr, .ref vs, .ref ve, .ref vp])), (vk, .inl (cI, 160, .inl f)), (vc, .inl (cI, 8, .inl kc)), (vp, .inl (cI, 5, .inl po))]) [(mo, .inr (5, [.int (nI n), .ref vk, .ref vc, .ref vt, .ref vn, .ref vr, .ref vs, .ref ve, .ref vp])), (vk, .inl (cI, 160, .inl f)), (vc, .inl (cI, 8, .inl (bmp kc 3))), (vp, .inl (cI, 5, .inl po))] := hD
          exact W.vret hx hb hr (fun tz htz hWz => ⟨none, [(mo, .inr (5, [.int (nI n), .ref vk, .ref vc, .ref vt, .ref vn, .ref vr, .ref vs, .ref ve, .ref vp])), (vk, .inl (cI, 160, .inl f)), (vc, .inl (cI, 8, .inl (bmp kc 3))), (vp, .inl (cI, 5, .inl po))], rfl, ⟨rfl, rfl⟩, rfl, by rw [htz]; exact hP, hS.F htz⟩) (fun q h => hS.2.2 q h) dX5_locate_54
        · skip
          refine lv_iload_n hx hb dX5_locate_44 rfl (lv_at hl 0 rfl) ?_
          refine lv_iconst (v := nI 4) hx hb dX5_locate_45 (by decide) ?_
          refine rn_le (tgt := 55) hx hb dX5_locate_46 (by decide) (by omega) (by omega) (fun c_46 => ?_) (fun c_46 => ?_)
          · exact absurd (show isPos bs (len + 8) from ⟨⟨by omega, by omega, by omega⟩, by omega, by omega⟩) hps
          · skip
            refine lv_aload_n hx hb dX5_locate_49 rfl (lv_at hl 1 rfl) ?_
            refine lv_iconst (v := nI 3) hx hb dX5_locate_50 (by decide) ?_
            refine x_callV (As := [.int (nI 3)]) (rest := []) ⟨hx, hb, hml, hown, hts⟩ (c_X5_bump (zl := zl) (D := D) (cI := cI) (cD := cD) mo n vk vc vt vn vr vs ve vp kc 3 (by decide)) (cwV 1 hts gX5_locate_X5_bump rfl rfl rfl (by decide +kernel) ⟨Nat.le_of_ble_eq_true rfl, Nat.le_of_ble_eq_true rfl⟩) hK hN hP hD hS [0, 2] rfl rfl 0 rfl rfl rfl hl.1 rfl (Nat.le_of_ble_eq_true rfl) dX5_locate_51 ⟨Nat.le_of_ble_eq_true rfl, Nat.le_of_ble_eq_true rfl⟩ (fun v_7 w_7 H locs hr_7 hP hD hS => ?_)
            obtain ⟨rfl, rfl⟩ := hr_7
            refine W.eq (g2 := F0 zm 54 ls []) rfl ?_
            have hP : va_P D vwCl [(mo, .inr (5, [.int (nI n), .ref vk, .ref vc, .ref vt, .ref vn, .ref vr, .ref vs, .ref ve, .ref vp])), (vk, .inl (cI, 160, .inl f)), (vc, .inl (cI, 8, .inl (bmp kc 3))), (vp, .inl (cI, 5, .inl po))] _ := hP
            have hD : va_D (inW [(mo, .inr (5, [.int (nI n), .ref vk, .ref vc, .ref vt, .ref vn, .ref vr, .ref vs, .ref ve, .ref vp])), (vk, .inl (cI, 160, .inl f)), (vc, .inl (cI, 8, .inl kc)), (vp, .inl (cI, 5, .inl po))]) [(mo, .inr (5, [.int (nI n), .ref vk, .ref vc, .ref vt, .ref vn, .ref vr, .ref vs, .ref ve, .ref vp])), (vk, .inl (cI, 160, .inl f)), (vc, .inl (cI, 8, .inl (bmp kc 3))), (vp, .inl (cI, 5, .inl po))] := hD
            exact W.vret hx hb hr (fun tz htz hWz => ⟨none, [(mo, .inr (5, [.int (nI n), .ref vk, .ref vc, .ref vt, .ref vn, .ref vr, .ref vs, .ref ve, .ref vp])), (vk, .inl (cI, 160, .inl f)), (vc, .inl (cI, 8, .inl (bmp kc 3))), (vp, .inl (cI, 5, .inl po))], rfl, ⟨rfl, rfl⟩, rfl, by rw [htz]; exact hP, hS.F htz⟩) (fun q h => hS.2.2 q h) dX5_locate_54
set_option maxHeartbeats 4000000 in
set_option maxRecDepth 100000 in
/-- an observation -/
theorem c_X5_observe {zl : Launch} {D : va_G} {cI cD : ClassId} (mo : Nat) (n : Nat) (vk : Nat) (vc : Nat) (vt : Nat) (vn : Nat) (vr : Nat) (vs : Nat) (ve : Nat) (vp : Nat) (f : Nat → Int32) (bs : List Nat) (kc : Nat → Int32) (fN : Nat → Int32) (fR : Nat → UInt64) (fS : Nat → Int32) (ep : Nat → Int32) (G : Ep) (L : Ep) (len : Nat) (hf : Rp f bs) (hbn : bs.length = n) (hn : n ≤ 160) (hB : By bs) (hM : RpM ep fN fR fS G L) (hlen : len + 6 ≤ n) (hob : isObs bs len) : Cx zl yX5_observe wsX5_observe ({ frames := 3, cells := 0, slots := 0, locals := 81 }) D cI cD [.ref mo, .int (nI len)] [(mo, .inr (5, [.int (nI n), .ref vk, .ref vc, .ref vt, .ref vn, .ref vr, .ref vs, .ref ve, .ref vp])), (vk, .inl (cI, 160, .inl f)), (vc, .inl (cI, 8, .inl kc)), (vn, .inl (cI, 80, .inl fN)), (vr, .inl (cD, 80, .inr (.inr (.inr (.inl fR))))), (vs, .inl (cI, 80, .inl fS)), (ve, .inl (cI, 16, .inl ep))] (fun v w1 => ∃ (co : Nat → Int32), ∃ (fNo : Nat → Int32), ∃ (fRo : Nat → UInt64), ∃ (fSo : Nat → Int32), ∃ (epo : Nat → Int32), ∃ (Go : Ep), ∃ (Lo : Ep), w1 = [(mo, .inr (5, [.int (nI n), .ref vk, .ref vc, .ref vt, .ref vn, .ref vr, .ref vs, .ref ve, .ref vp])), (vk, .inl (cI, 160, .inl f)), (vc, .inl (cI, 8, .inl co)), (vn, .inl (cI, 80, .inl fNo)), (vr, .inl (cD, 80, .inr (.inr (.inr (.inl fRo))))), (vs, .inl (cI, 80, .inl fSo)), (ve, .inl (cI, 16, .inl epo))] ∧ v = none ∧ (co, Go, Lo) = fin3 bs (C1 bs (bmp kc 6) G) (G2 bs (G1 bs G)) L ∧ RpM epo fNo fRo fSo Go Lo) := by
  refine Met.ofW (cc := cX5_observe) (maxL := 11) (ret := none) (by decide) rfl ?_
  intro zp ze zs zm zargs zb zt zc zs₁ B hml hv
  obtain ⟨rfl, hP, hK, hD0, hN⟩ := hv
  have hx := B.exec
  have hb := B.bytes
  have hr := B.returns
  have hts := atoms_spec (ws := wsX5_observe) B.pre
  have hown : zs.vm.findClass RX5 = some zm.cls := findClass_of_methodNamed B.named
  have hlocks := B.notSynchronized
  have hD := inW_self hD0
  have hS : va_S (inW [(mo, .inr (5, [.int (nI n), .ref vk, .ref vc, .ref vt, .ref vn, .ref vr, .ref vs, .ref ve, .ref vp])), (vk, .inl (cI, 160, .inl f)), (vc, .inl (cI, 8, .inl kc)), (vn, .inl (cI, 80, .inl fN)), (vr, .inl (cD, 80, .inr (.inr (.inr (.inl fR))))), (vs, .inl (cI, 80, .inl fS)), (ve, .inl (cI, 16, .inl ep))]) zs.heap zs.heap [] := va_S.rf
  have hl := lv_entry [.ref mo, .int (nI len)] (n := 11) (Nat.le_of_ble_eq_true rfl)
  rw [lg_entry_eq]
  generalize (lg_sl [.ref mo, .int (nI len)] ++ List.replicate (11 - (lg_sl [.ref mo, .int (nI len)]).length) Slot.unset).toArray = ls at hl ⊢
  have hl : lv_has ls 11 [(0, .ref mo), (1, .int (nI len))] := hl
  have hin5 : ∀ w ∈ u_ws RX5 TX5 9, w ∈ wsX5_observe := by decide +kernel
  have q55 := ons_le bs 55 16
  have q71 := ons_le bs 71 4
  have qsg := sg_le bs
  have qa : nS bs ≤ 16 := ons_le _ _ _
  have qd : nG bs ≤ 4 := ons_le _ _ _
  have qc : nC bs = ons bs 75 (nS bs * nG bs) := rfl
  have q75 := ons_le bs 75 (nS bs * nG bs)
  have q12 := num_lt bs 0 12
  have g0 := hob.1
  have g1 := hob.2.1.1
  have g2 := hob.2.1.2
  have g3 := hob.2.2.1
  have g4 := hob.2.2.2.1
  have g5 := hob.2.2.2.2
  have hg1 : G.1 ≤ 1 := hM.2.2.2.2.1
  have cuts : ∀ fuel : Nat, (∀ (kcj : Nat → Int32), ∀ (epj : Nat → Int32), ∀ (Gj : Ep), (Gj = G1 bs G) → (kcj = C1 bs (bmp kc 6) G) → (RpM epj fN fR fS Gj L) → (Gj.1 = 1) → 0 < fuel → ∀ (H : Heap) (locs : List Loc), va_P D vwCl [(mo, .inr (5, [.int (nI n), .ref vk, .ref vc, .ref vt, .ref vn, .ref vr, .ref vs, .ref ve, .ref vp])), (vk, .inl (cI, 160, .inl f)), (vc, .inl (cI, 8, .inl kcj)), (vn, .inl (cI, 80, .inl fN)), (vr, .inl (cD, 80, .inr (.inr (.inr (.inl fR))))), (vs, .inl (cI, 80, .inl fS)), (ve, .inl (cI, 16, .inl epj))] H → va_D (inW [(mo, .inr (5, [.int (nI n), .ref vk, .ref vc, .ref vt, .ref vn, .ref vr, .ref vs, .ref ve, .ref vp])), (vk, .inl (cI, 160, .inl f)), (vc, .inl (cI, 8, .inl kc)), (vn, .inl (cI, 80, .inl fN)), (vr, .inl (cD, 80, .inr (.inr (.inr (.inl fR))))), (vs, .inl (cI, 80, .inl fS)), (ve, .inl (cI, 16, .inl ep))]) [(mo, .inr (5, [.int (nI n), .ref vk, .ref vc, .ref vt, .ref vn, .ref vr, .ref vs, .ref ve, .ref vp])), (vk, .inl (cI, 160, .inl f)), (vc, .inl (cI, 8, .inl kcj)), (vn, .inl (cI, 80, .inl fN)), (vr, .inl (cD, 80, .inr (.inr (.inr (.inl fR))))), (vs, .inl (cI, 80, .inl fS)), (ve, .inl (cI, 16, .inl epj))] → va_S (inW [(mo, .inr (5, [.int (nI n), .ref vk, .ref vc, .ref vt, .ref vn, .ref vr, .ref vs, .ref ve, .ref vp])), (vk, .inl (cI, 160, .inl f)), (vc, .inl (cI, 8, .inl kc)), (vn, .inl (cI, 80, .inl fN)), (vr, .inl (cD, 80, .inr (.inr (.inr (.inl fR))))), (vs, .inl (cI, 80, .inl fS)), (ve, .inl (cI, 16, .inl ep))]) zs.heap H locs → ∀ (ls : Array Slot), lv_has ls 11 [(0, .ref mo), (3, .int (nI (num bs 0 12))), (4, .int (nI (nS bs))), (5, .int (nI (nG bs))), (7, .int (nI (nC bs)))] → W zp zl ze ({ frames := 3, cells := 0, slots := 0, locals := 81 }) zs zm [.ref mo, .int (nI len)].toArray zb zt zc H locs 0 0 (MQ zb (Xq D [(mo, .inr (5, [.int (nI n), .ref vk, .ref vc, .ref vt, .ref vn, .ref vr, .ref vs, .ref ve, .ref vp])), (vk, .inl (cI, 160, .inl f)), (vc, .inl (cI, 8, .inl kc)), (vn, .inl (cI, 80, .inl fN)), (vr, .inl (cD, 80, .inr (.inr (.inr (.inl fR))))), (vs, .inl (cI, 80, .inl fS)), (ve, .inl (cI, 16, .inl ep))] (fun v w1 => ∃ (co : Nat → Int32), ∃ (fNo : Nat → Int32), ∃ (fRo : Nat → UInt64), ∃ (fSo : Nat → Int32), ∃ (epo : Nat → Int32), ∃ (Go : Ep), ∃ (Lo : Ep), w1 = [(mo, .inr (5, [.int (nI n), .ref vk, .ref vc, .ref vt, .ref vn, .ref vr, .ref vs, .ref ve, .ref vp])), (vk, .inl (cI, 160, .inl f)), (vc, .inl (cI, 8, .inl co)), (vn, .inl (cI, 80, .inl fNo)), (vr, .inl (cD, 80, .inr (.inr (.inr (.inl fRo))))), (vs, .inl (cI, 80, .inl fSo)), (ve, .inl (cI, 16, .inl epo))] ∧ v = none ∧ (co, Go, Lo) = fin3 bs (C1 bs (bmp kc 6) G) (G2 bs (G1 bs G)) L ∧ RpM epo fNo fRo fSo Go Lo)) [.ref mo, .int (nI len)].toArray zs 0 0 (inW [(mo, .inr (5, [.int (nI n), .ref vk, .ref vc, .ref vt, .ref vn, .ref vr, .ref vs, .ref ve, .ref vp])), (vk, .inl (cI, 160, .inl f)), (vc, .inl (cI, 8, .inl kc)), (vn, .inl (cI, 80, .inl fN)), (vr, .inl (cD, 80, .inr (.inr (.inr (.inl fR))))), (vs, .inl (cI, 80, .inl fS)), (ve, .inl (cI, 16, .inl ep))])) (F0 zm 293 ls [])) := by
    intro fuel
    induction fuel with
    | zero => exact (by intros; exact absurd (by assumption) (Nat.not_lt_zero _))
    | succ fuel ih =>
      intro kcj epj Gj hGj hkj hMj hGj1 hm H locs hP hD hS ls hl
      have z5 := num_lt bs 54 1
      refine lv_aload_n hx hb dX5_observe_293 rfl (lv_at hl 0 rfl) ?_
      refine va_get (D := D) (ci := 5) (v := .ref ve) (C := RX5) (T := TX5) (N := 9) hx hb hts hin5 hown hK hP 0 rfl rfl 7 (by decide) (hts (.fieldLink RX5 29 "EpochSifterModel" "epochs" "[I") (by decide +kernel)) (fun _ h9 => h9) rfl dX5_observe_294 ?_
      refine lv_iconst (v := nI 4) hx hb dX5_observe_297 (by decide) ?_
      refine lv_aload_n hx hb dX5_observe_298 rfl (lv_at hl 0 rfl) ?_
      refine va_get (D := D) (ci := 5) (v := .ref ve) (C := RX5) (T := TX5) (N := 9) hx hb hts hin5 hown hK hP 0 rfl rfl 7 (by decide) (hts (.fieldLink RX5 29 "EpochSifterModel" "epochs" "[I") (by decide +kernel)) (fun _ h9 => h9) rfl dX5_observe_299 ?_
      refine lv_iconst (v := nI 4) hx hb dX5_observe_302 (by decide) ?_
      refine a_ild (v := Gj.2.2.2.1) hx hb hK hP 6 0 rfl rfl (by omega) (by decide) (hMj.1.2.2.2.2) dX5_observe_303 ?_
      refine lv_iconst (v := nI 1) hx hb dX5_observe_304 (by decide) ?_
      refine lv_iadd hx hb dX5_observe_305 ?_
      refine a_ist hx hb hK hP hD hS 6 0 rfl rfl (by omega) (by decide) dX5_observe_306 (fun H locs hP hD hS => ?_)
      have hP : va_P D vwCl [(mo, .inr (5, [.int (nI n), .ref vk, .ref vc, .ref vt, .ref vn, .ref vr, .ref vs, .ref ve, .ref vp])), (vk, .inl (cI, 160, .inl f)), (vc, .inl (cI, 8, .inl kcj)), (vn, .inl (cI, 80, .inl fN)), (vr, .inl (cD, 80, .inr (.inr (.inr (.inl fR))))), (vs, .inl (cI, 80, .inl fS)), (ve, .inl (cI, 16, .inl (upd epj 4 (Gj.2.2.2.1 + (nI 1)))))] _ := hP
      have hD : va_D (inW [(mo, .inr (5, [.int (nI n), .ref vk, .ref vc, .ref vt, .ref vn, .ref vr, .ref vs, .ref ve, .ref vp])), (vk, .inl (cI, 160, .inl f)), (vc, .inl (cI, 8, .inl kc)), (vn, .inl (cI, 80, .inl fN)), (vr, .inl (cD, 80, .inr (.inr (.inr (.inl fR))))), (vs, .inl (cI, 80, .inl fS)), (ve, .inl (cI, 16, .inl ep))]) [(mo, .inr (5, [.int (nI n), .ref vk, .ref vc, .ref vt, .ref vn, .ref vr, .ref vs, .ref ve, .ref vp])), (vk, .inl (cI, 160, .inl f)), (vc, .inl (cI, 8, .inl kcj)), (vn, .inl (cI, 80, .inl fN)), (vr, .inl (cD, 80, .inr (.inr (.inr (.inl fR))))), (vs, .inl (cI, 80, .inl fS)), (ve, .inl (cI, 16, .inl (upd epj 4 (Gj.2.2.2.1 + (nI 1)))))] := hD
      refine lv_aload_n hx hb dX5_observe_307 rfl (lv_at hl 0 rfl) ?_
      refine lv_sipush (v := nI 1000) hx hb dX5_observe_308 (by decide) ?_
      refine lv_iload_n hx hb dX5_observe_311 rfl (lv_at hl 1 rfl) ?_
      refine lv_sipush (v := nI 1000) hx hb dX5_observe_312 (by decide) ?_
      refine lv_isub hx hb dX5_observe_315 ?_
      refine r_i (v := nI (num bs 0 12 - 1000)) (pk_sub (by omega)) ?_
      refine lv_imul hx hb dX5_observe_316 ?_
      refine r_i (v := nI (1000 * (num bs 0 12 - 1000))) (pk_mul _ _) ?_
      refine lv_iload hx hb dX5_observe_317 (lv_at hl 2 rfl) ?_
      refine lv_iload hx hb dX5_observe_319 (lv_at hl 3 rfl) ?_
      refine lv_iload hx hb dX5_observe_321 (lv_at hl 4 rfl) ?_
      refine x_callV (As := [.int (nI (1000 * (num bs 0 12 - 1000))), .int (nI (nS bs)), .int (nI (nG bs)), .int (nI (nC bs))]) (rest := []) ⟨hx, hb, hml, hown, hts⟩ (c_X5_gather (zl := zl) (D := D) (cI := cI) (cD := cD) mo n vk vc vt vn vr vs ve vp f bs fN fR fS (upd epj 4 (Gj.2.2.2.1 + (nI 1))) Gj.2.2.2.2 len (by first | assumption | omega) (by first | assumption | omega) (by first | assumption | omega) (by first | assumption | omega) hMj.2.2.1 hMj.1.2.2.2.1 hMj.2.2.2.2.2.2.1 hob.2.2 (by first | assumption | omega) (by first | assumption | omega)) (cwV 4 hts gX5_observe_X5_gather rfl rfl rfl (by decide +kernel) ⟨Nat.le_of_ble_eq_true rfl, Nat.le_of_ble_eq_true rfl⟩) hK hN hP hD hS [0, 1, 3, 4, 5, 6] rfl rfl 0 rfl rfl rfl hl.1 rfl (Nat.le_of_ble_eq_true rfl) dX5_observe_323 ⟨Nat.le_of_ble_eq_true rfl, Nat.le_of_ble_eq_true rfl⟩ (fun v_1 w_1 H locs hr_1 hP hD hS => ?_)
      obtain ⟨fNk, fRk, fSk, epk, rfl, rfl, hEk, he3k, k3, k4⟩ := hr_1
      refine W.eq (g2 := F0 zm 326 ls []) rfl ?_
      have hP : va_P D vwCl [(mo, .inr (5, [.int (nI n), .ref vk, .ref vc, .ref vt, .ref vn, .ref vr, .ref vs, .ref ve, .ref vp])), (vk, .inl (cI, 160, .inl f)), (vc, .inl (cI, 8, .inl kcj)), (vn, .inl (cI, 80, .inl fNk)), (vr, .inl (cD, 80, .inr (.inr (.inr (.inl fRk))))), (vs, .inl (cI, 80, .inl fSk)), (ve, .inl (cI, 16, .inl epk))] _ := hP
      have hD : va_D (inW [(mo, .inr (5, [.int (nI n), .ref vk, .ref vc, .ref vt, .ref vn, .ref vr, .ref vs, .ref ve, .ref vp])), (vk, .inl (cI, 160, .inl f)), (vc, .inl (cI, 8, .inl kc)), (vn, .inl (cI, 80, .inl fN)), (vr, .inl (cD, 80, .inr (.inr (.inr (.inl fR))))), (vs, .inl (cI, 80, .inl fS)), (ve, .inl (cI, 16, .inl ep))]) [(mo, .inr (5, [.int (nI n), .ref vk, .ref vc, .ref vt, .ref vn, .ref vr, .ref vs, .ref ve, .ref vp])), (vk, .inl (cI, 160, .inl f)), (vc, .inl (cI, 8, .inl kcj)), (vn, .inl (cI, 80, .inl fNk)), (vr, .inl (cD, 80, .inr (.inr (.inr (.inl fRk))))), (vs, .inl (cI, 80, .inl fSk)), (ve, .inl (cI, 16, .inl epk))] := hD
      have hMk := g2_rep hMj hEk he3k k3 k4
      refine lv_aload_n hx hb dX5_observe_326 rfl (lv_at hl 0 rfl) ?_
      refine lv_bipush (v := nI 54) hx hb dX5_observe_327 (by decide) ?_
      refine lv_iconst (v := nI 1) hx hb dX5_observe_329 (by decide) ?_
      refine r_callVi (As := [.int (nI 54), .int (nI 1)]) (rest := []) ⟨hx, hb, hml, hown, hts⟩ (c_X5_number (zl := zl) (D := D) (cI := cI) (cD := cD) mo n vk vc vt vn vr vs ve vp f bs 54 1 (by first | assumption | omega) (by first | assumption | omega) (by first | assumption | omega) (by first | assumption | omega) (by first | assumption | omega) (by omega)) (cwV 2 hts gX5_observe_X5_number rfl rfl rfl (by decide +kernel) ⟨Nat.le_of_ble_eq_true rfl, Nat.le_of_ble_eq_true rfl⟩) hK hN hP hD [0, 1] rfl rfl 0 rfl rfl rfl hl.1 rfl (Nat.le_of_ble_eq_true rfl) dX5_observe_330 ⟨Nat.le_of_ble_eq_true rfl, Nat.le_of_ble_eq_true rfl⟩ (fun r_2 h_2 => ?_)
      obtain rfl := h_2
      refine rz_ne (tgt := 340) hx hb dX5_observe_333 (by decide) (by omega) (fun c_333 => ?_) (fun c_333 => ?_)
      · skip
        exact W.vret hx hb hr (fun tz htz hWz => ⟨none, [(mo, .inr (5, [.int (nI n), .ref vk, .ref vc, .ref vt, .ref vn, .ref vr, .ref vs, .ref ve, .ref vp])), (vk, .inl (cI, 160, .inl f)), (vc, .inl (cI, 8, .inl kcj)), (vn, .inl (cI, 80, .inl fNk)), (vr, .inl (cD, 80, .inr (.inr (.inr (.inl fRk))))), (vs, .inl (cI, 80, .inl fSk)), (ve, .inl (cI, 16, .inl epk))], rfl, ⟨_, _, _, _, _, G2 bs Gj, L, rfl, rfl, by rw [← hkj, ← hGj, fin3_more c_333], hMk⟩, rfl, by rw [htz]; exact hP, hS.F htz⟩) (fun q h => hS.2.2 q h) dX5_observe_340
      · skip
        refine lv_aload_n hx hb dX5_observe_336 rfl (lv_at hl 0 rfl) ?_
        refine x_callV (As := []) (rest := []) ⟨hx, hb, hml, hown, hts⟩ (c_X5_finish (zl := zl) (D := D) (cI := cI) (cD := cD) mo n vk vc vt vn vr vs ve vp kcj fNk fRk fSk epk (G2 bs Gj) L hMk hGj1) (cwV 0 hts gX5_observe_X5_finish rfl rfl rfl (by decide +kernel) ⟨Nat.le_of_ble_eq_true rfl, Nat.le_of_ble_eq_true rfl⟩) hK hN hP hD hS [0, 2, 3, 4, 5, 6] rfl rfl 0 rfl rfl rfl hl.1 rfl (Nat.le_of_ble_eq_true rfl) dX5_observe_337 ⟨Nat.le_of_ble_eq_true rfl, Nat.le_of_ble_eq_true rfl⟩ (fun v_3 w_3 H locs hr_3 hP hD hS => ?_)
        obtain ⟨fNd, fRd, fSd, epd, rfl, rfl, hMd⟩ := hr_3
        refine W.eq (g2 := F0 zm 340 ls []) rfl ?_
        have hP : va_P D vwCl [(mo, .inr (5, [.int (nI n), .ref vk, .ref vc, .ref vt, .ref vn, .ref vr, .ref vs, .ref ve, .ref vp])), (vk, .inl (cI, 160, .inl f)), (vc, .inl (cI, 8, .inl (bmp kcj 4))), (vn, .inl (cI, 80, .inl fNd)), (vr, .inl (cD, 80, .inr (.inr (.inr (.inl fRd))))), (vs, .inl (cI, 80, .inl fSd)), (ve, .inl (cI, 16, .inl epd))] _ := hP
        have hD : va_D (inW [(mo, .inr (5, [.int (nI n), .ref vk, .ref vc, .ref vt, .ref vn, .ref vr, .ref vs, .ref ve, .ref vp])), (vk, .inl (cI, 160, .inl f)), (vc, .inl (cI, 8, .inl kc)), (vn, .inl (cI, 80, .inl fN)), (vr, .inl (cD, 80, .inr (.inr (.inr (.inl fR))))), (vs, .inl (cI, 80, .inl fS)), (ve, .inl (cI, 16, .inl ep))]) [(mo, .inr (5, [.int (nI n), .ref vk, .ref vc, .ref vt, .ref vn, .ref vr, .ref vs, .ref ve, .ref vp])), (vk, .inl (cI, 160, .inl f)), (vc, .inl (cI, 8, .inl (bmp kcj 4))), (vn, .inl (cI, 80, .inl fNd)), (vr, .inl (cD, 80, .inr (.inr (.inr (.inl fRd))))), (vs, .inl (cI, 80, .inl fSd)), (ve, .inl (cI, 16, .inl epd))] := hD
        exact W.vret hx hb hr (fun tz htz hWz => ⟨none, [(mo, .inr (5, [.int (nI n), .ref vk, .ref vc, .ref vt, .ref vn, .ref vr, .ref vs, .ref ve, .ref vp])), (vk, .inl (cI, 160, .inl f)), (vc, .inl (cI, 8, .inl (bmp kcj 4))), (vn, .inl (cI, 80, .inl fNd)), (vr, .inl (cD, 80, .inr (.inr (.inr (.inl fRd))))), (vs, .inl (cI, 80, .inl fSd)), (ve, .inl (cI, 16, .inl epd))], rfl, ⟨_, _, _, _, _, (0, (G2 bs Gj).2), (1, (G2 bs Gj).2), rfl, rfl, by rw [← hkj, ← hGj, fin3_done c_333], hMd⟩, rfl, by rw [htz]; exact hP, hS.F htz⟩) (fun q h => hS.2.2 q h) dX5_observe_340
  refine lv_bipush (v := nI 8) hx hb dX5_observe_0 (by decide) ?_
  refine lv_iload_n hx hb dX5_observe_2 rfl (lv_at hl 1 rfl) ?_
  refine lv_imul hx hb dX5_observe_3 ?_
  refine r_i (v := nI (8 * len)) (pk_mul _ _) ?_
  refine lv_istore_n (lv' := [(2, .int (nI (8 * len))), (0, .ref mo), (1, .int (nI len))]) hx hb dX5_observe_4 rfl hl (by decide) rfl (fun ls hl => ?_)
  refine lv_iload_n hx hb dX5_observe_5 rfl (lv_at hl 0 rfl) ?_
  refine lv_bipush (v := nI 75) hx hb dX5_observe_6 (by decide) ?_
  refine rn_lt (tgt := 21) hx hb dX5_observe_8 (by decide) (by omega) (by omega) (fun c_8 => ?_) (fun c_8 => ?_)
  · omega
  · skip
    refine lv_aload_n hx hb dX5_observe_11 rfl (lv_at hl 1 rfl) ?_
    refine lv_iconst (v := nI 0) hx hb dX5_observe_12 (by decide) ?_
    refine lv_bipush (v := nI 12) hx hb dX5_observe_13 (by decide) ?_
    refine r_callVi (As := [.int (nI 0), .int (nI 12)]) (rest := []) ⟨hx, hb, hml, hown, hts⟩ (c_X5_number (zl := zl) (D := D) (cI := cI) (cD := cD) mo n vk vc vt vn vr vs ve vp f bs 0 12 (by first | assumption | omega) (by first | assumption | omega) (by first | assumption | omega) (by first | assumption | omega) (by first | assumption | omega) (by omega)) (cwV 2 hts gX5_observe_X5_number rfl rfl rfl (by decide +kernel) ⟨Nat.le_of_ble_eq_true rfl, Nat.le_of_ble_eq_true rfl⟩) hK hN hP hD [0, 1] rfl rfl 0 rfl rfl rfl hl.1 rfl (Nat.le_of_ble_eq_true rfl) dX5_observe_15 ⟨Nat.le_of_ble_eq_true rfl, Nat.le_of_ble_eq_true rfl⟩ (fun r_4 h_4 => ?_)
    obtain rfl := h_4
    refine lv_goto (tgt := 22) hx hb dX5_observe_18 (by decide) ?_
    refine lv_istore_n (lv' := [(3, .int (nI (num bs 0 12))), (2, .int (nI (8 * len))), (0, .ref mo), (1, .int (nI len))]) hx hb dX5_observe_22 rfl hl (by decide) rfl (fun ls hl => ?_)
    refine lv_iload_n hx hb dX5_observe_23 rfl (lv_at hl 1 rfl) ?_
    refine lv_bipush (v := nI 75) hx hb dX5_observe_24 (by decide) ?_
    refine rn_lt (tgt := 40) hx hb dX5_observe_26 (by decide) (by omega) (by omega) (fun c_26 => ?_) (fun c_26 => ?_)
    · omega
    · skip
      refine lv_aload_n hx hb dX5_observe_29 rfl (lv_at hl 2 rfl) ?_
      refine lv_bipush (v := nI 55) hx hb dX5_observe_30 (by decide) ?_
      refine lv_bipush (v := nI 16) hx hb dX5_observe_32 (by decide) ?_
      refine r_callVi (As := [.int (nI 55), .int (nI 16)]) (rest := []) ⟨hx, hb, hml, hown, hts⟩ (c_X5_ones (zl := zl) (D := D) (cI := cI) (cD := cD) mo n vk vc vt vn vr vs ve vp f bs 55 16 (by first | assumption | omega) (by first | assumption | omega) (by first | assumption | omega) (by first | assumption | omega) (by first | assumption | omega) (by omega)) (cwV 2 hts gX5_observe_X5_ones rfl rfl rfl (by decide +kernel) ⟨Nat.le_of_ble_eq_true rfl, Nat.le_of_ble_eq_true rfl⟩) hK hN hP hD [0, 1] rfl rfl 0 rfl rfl rfl hl.1 rfl (Nat.le_of_ble_eq_true rfl) dX5_observe_34 ⟨Nat.le_of_ble_eq_true rfl, Nat.le_of_ble_eq_true rfl⟩ (fun r_5 h_5 => ?_)
      obtain rfl := h_5
      refine lv_goto (tgt := 41) hx hb dX5_observe_37 (by decide) ?_
      refine r_i (v := nI (nS bs)) (rfl) ?_
      refine lv_istore (lv' := [(4, .int (nI (nS bs))), (3, .int (nI (num bs 0 12))), (2, .int (nI (8 * len))), (0, .ref mo), (1, .int (nI len))]) hx hb dX5_observe_41 hl (by decide) rfl (fun ls hl => ?_)
      refine lv_iload_n hx hb dX5_observe_43 rfl (lv_at hl 2 rfl) ?_
      refine lv_bipush (v := nI 75) hx hb dX5_observe_44 (by decide) ?_
      refine rn_lt (tgt := 59) hx hb dX5_observe_46 (by decide) (by omega) (by omega) (fun c_46 => ?_) (fun c_46 => ?_)
      · omega
      · skip
        refine lv_aload_n hx hb dX5_observe_49 rfl (lv_at hl 3 rfl) ?_
        refine lv_bipush (v := nI 71) hx hb dX5_observe_50 (by decide) ?_
        refine lv_iconst (v := nI 4) hx hb dX5_observe_52 (by decide) ?_
        refine r_callVi (As := [.int (nI 71), .int (nI 4)]) (rest := []) ⟨hx, hb, hml, hown, hts⟩ (c_X5_ones (zl := zl) (D := D) (cI := cI) (cD := cD) mo n vk vc vt vn vr vs ve vp f bs 71 4 (by first | assumption | omega) (by first | assumption | omega) (by first | assumption | omega) (by first | assumption | omega) (by first | assumption | omega) (by omega)) (cwV 2 hts gX5_observe_X5_ones rfl rfl rfl (by decide +kernel) ⟨Nat.le_of_ble_eq_true rfl, Nat.le_of_ble_eq_true rfl⟩) hK hN hP hD [0, 1] rfl rfl 0 rfl rfl rfl hl.1 rfl (Nat.le_of_ble_eq_true rfl) dX5_observe_53 ⟨Nat.le_of_ble_eq_true rfl, Nat.le_of_ble_eq_true rfl⟩ (fun r_6 h_6 => ?_)
        obtain rfl := h_6
        refine lv_goto (tgt := 60) hx hb dX5_observe_56 (by decide) ?_
        refine r_i (v := nI (nG bs)) (rfl) ?_
        refine lv_istore (lv' := [(5, .int (nI (nG bs))), (4, .int (nI (nS bs))), (3, .int (nI (num bs 0 12))), (2, .int (nI (8 * len))), (0, .ref mo), (1, .int (nI len))]) hx hb dX5_observe_60 hl (by decide) rfl (fun ls hl => ?_)
        refine lv_iload_n hx hb dX5_observe_62 rfl (lv_at hl 2 rfl) ?_
        refine lv_sipush (v := nI 1000) hx hb dX5_observe_63 (by decide) ?_
        refine rn_lt (tgt := 92) hx hb dX5_observe_66 (by decide) (by omega) (by omega) (fun c_66 => ?_) (fun c_66 => ?_)
        · omega
        · skip
          refine lv_iload_n hx hb dX5_observe_69 rfl (lv_at hl 2 rfl) ?_
          refine lv_sipush (v := nI 1003) hx hb dX5_observe_70 (by decide) ?_
          refine rn_gt (tgt := 92) hx hb dX5_observe_73 (by decide) (by omega) (by omega) (fun c_73 => ?_) (fun c_73 => ?_)
          · omega
          · skip
            refine lv_iload_n hx hb dX5_observe_76 rfl (lv_at hl 3 rfl) ?_
            refine lv_bipush (v := nI 75) hx hb dX5_observe_77 (by decide) ?_
            refine lv_iload hx hb dX5_observe_79 (lv_at hl 1 rfl) ?_
            refine lv_iload hx hb dX5_observe_81 (lv_at hl 0 rfl) ?_
            refine lv_imul hx hb dX5_observe_83 ?_
            refine r_i (v := nI ((nS bs) * (nG bs))) (pk_mul _ _) ?_
            refine lv_iadd hx hb dX5_observe_84 ?_
            refine r_i (v := nI (75 + ((nS bs) * (nG bs)))) (nI_add _ _) ?_
            refine rn_lt (tgt := 92) hx hb dX5_observe_85 (by decide) (by omega) (by omega) (fun c_85 => ?_) (fun c_85 => ?_)
            · omega
            · skip
              refine lv_iconst (v := nI 1) hx hb dX5_observe_88 (by decide) ?_
              refine lv_goto (tgt := 93) hx hb dX5_observe_89 (by decide) ?_
              refine lv_istore (lv' := [(6, .int (nI 1)), (5, .int (nI (nG bs))), (4, .int (nI (nS bs))), (3, .int (nI (num bs 0 12))), (2, .int (nI (8 * len))), (0, .ref mo), (1, .int (nI len))]) hx hb dX5_observe_93 hl (by decide) rfl (fun ls hl => ?_)
              refine lv_iload hx hb dX5_observe_95 (lv_at hl 0 rfl) ?_
              refine rz_eq (tgt := 114) hx hb dX5_observe_97 (by decide) (by omega) (fun c_97 => ?_) (fun c_97 => ?_)
              · omega
              · skip
                refine lv_aload_n hx hb dX5_observe_100 rfl (lv_at hl 5 rfl) ?_
                refine lv_bipush (v := nI 75) hx hb dX5_observe_101 (by decide) ?_
                refine lv_iload hx hb dX5_observe_103 (lv_at hl 2 rfl) ?_
                refine lv_iload hx hb dX5_observe_105 (lv_at hl 1 rfl) ?_
                refine lv_imul hx hb dX5_observe_107 ?_
                refine r_i (v := nI ((nS bs) * (nG bs))) (pk_mul _ _) ?_
                refine r_callVi (As := [.int (nI 75), .int (nI ((nS bs) * (nG bs)))]) (rest := []) ⟨hx, hb, hml, hown, hts⟩ (c_X5_ones (zl := zl) (D := D) (cI := cI) (cD := cD) mo n vk vc vt vn vr vs ve vp f bs 75 ((nS bs) * (nG bs)) (by first | assumption | omega) (by first | assumption | omega) (by first | assumption | omega) (by first | assumption | omega) (by omega) (by omega)) (cwV 2 hts gX5_observe_X5_ones rfl rfl rfl (by decide +kernel) ⟨Nat.le_of_ble_eq_true rfl, Nat.le_of_ble_eq_true rfl⟩) hK hN hP hD [0, 1] rfl rfl 0 rfl rfl rfl hl.1 rfl (Nat.le_of_ble_eq_true rfl) dX5_observe_108 ⟨Nat.le_of_ble_eq_true rfl, Nat.le_of_ble_eq_true rfl⟩ (fun r_7 h_7 => ?_)
                obtain rfl := h_7
                refine lv_goto (tgt := 115) hx hb dX5_observe_111 (by decide) ?_
                refine r_i (v := nI (nC bs)) (rfl) ?_
                refine lv_istore (lv' := [(7, .int (nI (nC bs))), (6, .int (nI 1)), (5, .int (nI (nG bs))), (4, .int (nI (nS bs))), (3, .int (nI (num bs 0 12))), (2, .int (nI (8 * len))), (0, .ref mo), (1, .int (nI len))]) hx hb dX5_observe_115 hl (by decide) rfl (fun ls hl => ?_)
                refine lv_iload hx hb dX5_observe_117 (lv_at hl 1 rfl) ?_
                refine rz_eq (tgt := 157) hx hb dX5_observe_119 (by decide) (by omega) (fun c_119 => ?_) (fun c_119 => ?_)
                · omega
                · skip
                  refine lv_iload hx hb dX5_observe_122 (lv_at hl 0 rfl) ?_
                  refine lv_bipush (v := nI 16) hx hb dX5_observe_124 (by decide) ?_
                  refine rn_gt (tgt := 157) hx hb dX5_observe_126 (by decide) (by omega) (by omega) (fun c_126 => ?_) (fun c_126 => ?_)
                  · omega
                  · skip
                    refine lv_iload_n hx hb dX5_observe_129 rfl (lv_at hl 5 rfl) ?_
                    refine lv_bipush (v := nI 75) hx hb dX5_observe_130 (by decide) ?_
                    refine lv_iload hx hb dX5_observe_132 (lv_at hl 3 rfl) ?_
                    refine lv_iload hx hb dX5_observe_134 (lv_at hl 2 rfl) ?_
                    refine lv_imul hx hb dX5_observe_136 ?_
                    refine r_i (v := nI ((nS bs) * (nG bs))) (pk_mul _ _) ?_
                    refine lv_iadd hx hb dX5_observe_137 ?_
                    refine r_i (v := nI (75 + ((nS bs) * (nG bs)))) (nI_add _ _) ?_
                    refine lv_bipush (v := nI 18) hx hb dX5_observe_138 (by decide) ?_
                    refine lv_iload hx hb dX5_observe_140 (lv_at hl 3 rfl) ?_
                    refine lv_imul hx hb dX5_observe_142 ?_
                    refine r_i (v := nI (18 * (nS bs))) (pk_mul _ _) ?_
                    refine lv_iadd hx hb dX5_observe_143 ?_
                    refine r_i (v := nI (75 + ((nS bs) * (nG bs)) + (18 * (nS bs)))) (nI_add _ _) ?_
                    refine lv_bipush (v := nI 21) hx hb dX5_observe_144 (by decide) ?_
                    refine lv_iload hx hb dX5_observe_146 (lv_at hl 0 rfl) ?_
                    refine lv_imul hx hb dX5_observe_148 ?_
                    refine r_i (v := nI (21 * (nC bs))) (pk_mul _ _) ?_
                    refine lv_iadd hx hb dX5_observe_149 ?_
                    refine r_i (v := nI (75 + ((nS bs) * (nG bs)) + (18 * (nS bs)) + (21 * (nC bs)))) (nI_add _ _) ?_
                    refine rn_lt (tgt := 157) hx hb dX5_observe_150 (by decide) (by omega) (by omega) (fun c_150 => ?_) (fun c_150 => ?_)
                    · omega
                    · skip
                      refine lv_iconst (v := nI 1) hx hb dX5_observe_153 (by decide) ?_
                      refine lv_goto (tgt := 158) hx hb dX5_observe_154 (by decide) ?_
                      refine lv_istore (lv' := [(6, .int (nI 1)), (7, .int (nI (nC bs))), (5, .int (nI (nG bs))), (4, .int (nI (nS bs))), (3, .int (nI (num bs 0 12))), (2, .int (nI (8 * len))), (0, .ref mo), (1, .int (nI len))]) hx hb dX5_observe_158 hl (by decide) rfl (fun ls hl => ?_)
                      refine lv_iload hx hb dX5_observe_160 (lv_at hl 0 rfl) ?_
                      refine rz_ne (tgt := 171) hx hb dX5_observe_162 (by decide) (by omega) (fun c_162 => ?_) (fun c_162 => ?_)
                      · skip
                        refine lv_aload_n hx hb dX5_observe_171 rfl (lv_at hl 6 rfl) ?_
                        refine lv_bipush (v := nI 6) hx hb dX5_observe_172 (by decide) ?_
                        refine x_callV (As := [.int (nI 6)]) (rest := []) ⟨hx, hb, hml, hown, hts⟩ (c_X5_bump (zl := zl) (D := D) (cI := cI) (cD := cD) mo n vk vc vt vn vr vs ve vp kc 6 (by decide)) (cwV 1 hts gX5_observe_X5_bump rfl rfl rfl (by decide +kernel) ⟨Nat.le_of_ble_eq_true rfl, Nat.le_of_ble_eq_true rfl⟩) hK hN hP hD hS [0, 2] rfl rfl 0 rfl rfl rfl hl.1 rfl (Nat.le_of_ble_eq_true rfl) dX5_observe_174 ⟨Nat.le_of_ble_eq_true rfl, Nat.le_of_ble_eq_true rfl⟩ (fun v_8 w_8 H locs hr_8 hP hD hS => ?_)
                        obtain ⟨rfl, rfl⟩ := hr_8
                        refine W.eq (g2 := F0 zm 177 ls []) rfl ?_
                        have hP : va_P D vwCl [(mo, .inr (5, [.int (nI n), .ref vk, .ref vc, .ref vt, .ref vn, .ref vr, .ref vs, .ref ve, .ref vp])), (vk, .inl (cI, 160, .inl f)), (vc, .inl (cI, 8, .inl (bmp kc 6))), (vn, .inl (cI, 80, .inl fN)), (vr, .inl (cD, 80, .inr (.inr (.inr (.inl fR))))), (vs, .inl (cI, 80, .inl fS)), (ve, .inl (cI, 16, .inl ep))] _ := hP
                        have hD : va_D (inW [(mo, .inr (5, [.int (nI n), .ref vk, .ref vc, .ref vt, .ref vn, .ref vr, .ref vs, .ref ve, .ref vp])), (vk, .inl (cI, 160, .inl f)), (vc, .inl (cI, 8, .inl kc)), (vn, .inl (cI, 80, .inl fN)), (vr, .inl (cD, 80, .inr (.inr (.inr (.inl fR))))), (vs, .inl (cI, 80, .inl fS)), (ve, .inl (cI, 16, .inl ep))]) [(mo, .inr (5, [.int (nI n), .ref vk, .ref vc, .ref vt, .ref vn, .ref vr, .ref vs, .ref ve, .ref vp])), (vk, .inl (cI, 160, .inl f)), (vc, .inl (cI, 8, .inl (bmp kc 6))), (vn, .inl (cI, 80, .inl fN)), (vr, .inl (cD, 80, .inr (.inr (.inr (.inl fR))))), (vs, .inl (cI, 80, .inl fS)), (ve, .inl (cI, 16, .inl ep))] := hD
                        refine lv_aload_n hx hb dX5_observe_177 rfl (lv_at hl 6 rfl) ?_
                        refine lv_bipush (v := nI 12) hx hb dX5_observe_178 (by decide) ?_
                        refine lv_bipush (v := nI 12) hx hb dX5_observe_180 (by decide) ?_
                        refine r_callVi (As := [.int (nI 12), .int (nI 12)]) (rest := []) ⟨hx, hb, hml, hown, hts⟩ (c_X5_number (zl := zl) (D := D) (cI := cI) (cD := cD) mo n vk vc vt vn vr vs ve vp f bs 12 12 (by first | assumption | omega) (by first | assumption | omega) (by first | assumption | omega) (by first | assumption | omega) (by first | assumption | omega) (by omega)) (cwV 2 hts gX5_observe_X5_number rfl rfl rfl (by decide +kernel) ⟨Nat.le_of_ble_eq_true rfl, Nat.le_of_ble_eq_true rfl⟩) hK hN hP hD [0, 1] rfl rfl 0 rfl rfl rfl hl.1 rfl (Nat.le_of_ble_eq_true rfl) dX5_observe_182 ⟨Nat.le_of_ble_eq_true rfl, Nat.le_of_ble_eq_true rfl⟩ (fun r_9 h_9 => ?_)
                        obtain rfl := h_9
                        refine lv_istore (lv' := [(8, .int (nI (num bs 12 12))), (6, .int (nI 1)), (7, .int (nI (nC bs))), (5, .int (nI (nG bs))), (4, .int (nI (nS bs))), (3, .int (nI (num bs 0 12))), (2, .int (nI (8 * len))), (0, .ref mo), (1, .int (nI len))]) hx hb dX5_observe_185 hl (by decide) rfl (fun ls hl => ?_)
                        refine lv_aload_n hx hb dX5_observe_187 rfl (lv_at hl 7 rfl) ?_
                        refine lv_bipush (v := nI 24) hx hb dX5_observe_188 (by decide) ?_
                        refine lv_bipush (v := nI 30) hx hb dX5_observe_190 (by decide) ?_
                        refine r_callVi (As := [.int (nI 24), .int (nI 30)]) (rest := []) ⟨hx, hb, hml, hown, hts⟩ (c_X5_number (zl := zl) (D := D) (cI := cI) (cD := cD) mo n vk vc vt vn vr vs ve vp f bs 24 30 (by first | assumption | omega) (by first | assumption | omega) (by first | assumption | omega) (by first | assumption | omega) (by first | assumption | omega) (by omega)) (cwV 2 hts gX5_observe_X5_number rfl rfl rfl (by decide +kernel) ⟨Nat.le_of_ble_eq_true rfl, Nat.le_of_ble_eq_true rfl⟩) hK hN hP hD [0, 1] rfl rfl 0 rfl rfl rfl hl.1 rfl (Nat.le_of_ble_eq_true rfl) dX5_observe_192 ⟨Nat.le_of_ble_eq_true rfl, Nat.le_of_ble_eq_true rfl⟩ (fun r_10 h_10 => ?_)
                        obtain rfl := h_10
                        refine lv_istore (lv' := [(9, .int (nI (num bs 24 30))), (8, .int (nI (num bs 12 12))), (6, .int (nI 1)), (7, .int (nI (nC bs))), (5, .int (nI (nG bs))), (4, .int (nI (nS bs))), (3, .int (nI (num bs 0 12))), (2, .int (nI (8 * len))), (0, .ref mo), (1, .int (nI len))]) hx hb dX5_observe_195 hl (by decide) rfl (fun ls hl => ?_)
                        by_cases hsm : G.1 = 1 ∧ G.2.1 = nI (num bs 24 30) ∧ G.2.2.1 = nI (num bs 12 12)
                        · skip
                          refine lv_aload_n hx hb dX5_observe_197 rfl (lv_at hl 8 rfl) ?_
                          refine va_get (D := D) (ci := 5) (v := .ref ve) (C := RX5) (T := TX5) (N := 9) hx hb hts hin5 hown hK hP 0 rfl rfl 7 (by decide) (hts (.fieldLink RX5 29 "EpochSifterModel" "epochs" "[I") (by decide +kernel)) (fun _ h9 => h9) rfl dX5_observe_198 ?_
                          refine lv_iconst (v := nI 0) hx hb dX5_observe_201 (by decide) ?_
                          refine a_ild (v := nI G.1) hx hb hK hP 6 0 rfl rfl (by omega) (by decide) (hM.1.1) dX5_observe_202 ?_
                          refine lv_iconst (v := nI 1) hx hb dX5_observe_203 (by decide) ?_
                          refine rn_ne (tgt := 233) hx hb dX5_observe_204 (by decide) (by omega) (by omega) (fun c_204 => ?_) (fun c_204 => ?_)
                          · omega
                          · skip
                            refine lv_aload_n hx hb dX5_observe_207 rfl (lv_at hl 8 rfl) ?_
                            refine va_get (D := D) (ci := 5) (v := .ref ve) (C := RX5) (T := TX5) (N := 9) hx hb hts hin5 hown hK hP 0 rfl rfl 7 (by decide) (hts (.fieldLink RX5 29 "EpochSifterModel" "epochs" "[I") (by decide +kernel)) (fun _ h9 => h9) rfl dX5_observe_208 ?_
                            refine lv_iconst (v := nI 1) hx hb dX5_observe_211 (by decide) ?_
                            refine a_ild (v := G.2.1) hx hb hK hP 6 0 rfl rfl (by omega) (by decide) (hM.1.2.1) dX5_observe_212 ?_
                            refine lv_iload hx hb dX5_observe_213 (lv_at hl 0 rfl) ?_
                            refine lv_icmp_ne (tgt := 233) hx hb dX5_observe_215 (by decide) (fun c_215 => ?_) (fun c_215 => ?_)
                            · exact absurd hsm.2.1 c_215
                            · skip
                              refine lv_aload_n hx hb dX5_observe_218 rfl (lv_at hl 8 rfl) ?_
                              refine va_get (D := D) (ci := 5) (v := .ref ve) (C := RX5) (T := TX5) (N := 9) hx hb hts hin5 hown hK hP 0 rfl rfl 7 (by decide) (hts (.fieldLink RX5 29 "EpochSifterModel" "epochs" "[I") (by decide +kernel)) (fun _ h9 => h9) rfl dX5_observe_219 ?_
                              refine lv_iconst (v := nI 2) hx hb dX5_observe_222 (by decide) ?_
                              refine a_ild (v := G.2.2.1) hx hb hK hP 6 0 rfl rfl (by omega) (by decide) (hM.1.2.2.1) dX5_observe_223 ?_
                              refine lv_iload hx hb dX5_observe_224 (lv_at hl 1 rfl) ?_
                              refine lv_icmp_ne (tgt := 233) hx hb dX5_observe_226 (by decide) (fun c_226 => ?_) (fun c_226 => ?_)
                              · exact absurd hsm.2.2 c_226
                              · skip
                                refine lv_iconst (v := nI 1) hx hb dX5_observe_229 (by decide) ?_
                                refine lv_goto (tgt := 234) hx hb dX5_observe_230 (by decide) ?_
                                refine lv_istore (lv' := [(10, .int (nI 1)), (9, .int (nI (num bs 24 30))), (8, .int (nI (num bs 12 12))), (6, .int (nI 1)), (7, .int (nI (nC bs))), (5, .int (nI (nG bs))), (4, .int (nI (nS bs))), (3, .int (nI (num bs 0 12))), (2, .int (nI (8 * len))), (0, .ref mo), (1, .int (nI len))]) hx hb dX5_observe_234 hl (by decide) rfl (fun ls hl => ?_)
                                refine lv_iload hx hb dX5_observe_236 (lv_at hl 0 rfl) ?_
                                refine rz_ne (tgt := 293) hx hb dX5_observe_238 (by decide) (by omega) (fun c_238 => ?_) (fun c_238 => ?_)
                                · skip
                                  exact (cuts _) (bmp kc 6) ep G ((GC_same (b := bs) (ob := G.2.2.2.1) (cs := G.2.2.2.2) hsm (bmp kc 6)).1.symm) ((GC_same (b := bs) (ob := G.2.2.2.1) (cs := G.2.2.2.2) hsm (bmp kc 6)).2.symm) hM hsm.1 (Nat.lt_succ_self _) _ _ hP hD hS ls (lv_sub hl [9, 7, 6, 5, 4] rfl)
                                · omega
                        · skip
                          refine lv_aload_n hx hb dX5_observe_197 rfl (lv_at hl 8 rfl) ?_
                          refine va_get (D := D) (ci := 5) (v := .ref ve) (C := RX5) (T := TX5) (N := 9) hx hb hts hin5 hown hK hP 0 rfl rfl 7 (by decide) (hts (.fieldLink RX5 29 "EpochSifterModel" "epochs" "[I") (by decide +kernel)) (fun _ h9 => h9) rfl dX5_observe_198 ?_
                          refine lv_iconst (v := nI 0) hx hb dX5_observe_201 (by decide) ?_
                          refine a_ild (v := nI G.1) hx hb hK hP 6 0 rfl rfl (by omega) (by decide) (hM.1.1) dX5_observe_202 ?_
                          refine lv_iconst (v := nI 1) hx hb dX5_observe_203 (by decide) ?_
                          refine rn_ne (tgt := 233) hx hb dX5_observe_204 (by decide) (by omega) (by omega) (fun c_204 => ?_) (fun c_204 => ?_)
                          · skip
                            refine lv_iconst (v := nI 0) hx hb dX5_observe_233 (by decide) ?_
                            refine lv_istore (lv' := [(10, .int (nI 0)), (9, .int (nI (num bs 24 30))), (8, .int (nI (num bs 12 12))), (6, .int (nI 1)), (7, .int (nI (nC bs))), (5, .int (nI (nG bs))), (4, .int (nI (nS bs))), (3, .int (nI (num bs 0 12))), (2, .int (nI (8 * len))), (0, .ref mo), (1, .int (nI len))]) hx hb dX5_observe_234 hl (by decide) rfl (fun ls hl => ?_)
                            refine lv_iload hx hb dX5_observe_236 (lv_at hl 0 rfl) ?_
                            refine rz_ne (tgt := 293) hx hb dX5_observe_238 (by decide) (by omega) (fun c_238 => ?_) (fun c_238 => ?_)
                            · omega
                            · skip
                              refine lv_aload_n hx hb dX5_observe_241 rfl (lv_at hl 9 rfl) ?_
                              refine va_get (D := D) (ci := 5) (v := .ref ve) (C := RX5) (T := TX5) (N := 9) hx hb hts hin5 hown hK hP 0 rfl rfl 7 (by decide) (hts (.fieldLink RX5 29 "EpochSifterModel" "epochs" "[I") (by decide +kernel)) (fun _ h9 => h9) rfl dX5_observe_242 ?_
                              refine lv_iconst (v := nI 0) hx hb dX5_observe_245 (by decide) ?_
                              refine a_ild (v := nI G.1) hx hb hK hP 6 0 rfl rfl (by omega) (by decide) (hM.1.1) dX5_observe_246 ?_
                              refine lv_iconst (v := nI 1) hx hb dX5_observe_247 (by decide) ?_
                              refine rn_ne (tgt := 256) hx hb dX5_observe_248 (by decide) (by omega) (by omega) (fun c_248 => ?_) (fun c_248 => ?_)
                              · skip
                                refine lv_aload_n hx hb dX5_observe_256 rfl (lv_at hl 9 rfl) ?_
                                refine va_get (D := D) (ci := 5) (v := .ref ve) (C := RX5) (T := TX5) (N := 9) hx hb hts hin5 hown hK hP 0 rfl rfl 7 (by decide) (hts (.fieldLink RX5 29 "EpochSifterModel" "epochs" "[I") (by decide +kernel)) (fun _ h9 => h9) rfl dX5_observe_257 ?_
                                refine lv_iconst (v := nI 0) hx hb dX5_observe_260 (by decide) ?_
                                refine lv_iconst (v := nI 1) hx hb dX5_observe_261 (by decide) ?_
                                refine a_ist hx hb hK hP hD hS 6 0 rfl rfl (by omega) (by decide) dX5_observe_262 (fun H locs hP hD hS => ?_)
                                have hP : va_P D vwCl [(mo, .inr (5, [.int (nI n), .ref vk, .ref vc, .ref vt, .ref vn, .ref vr, .ref vs, .ref ve, .ref vp])), (vk, .inl (cI, 160, .inl f)), (vc, .inl (cI, 8, .inl (bmp kc 6))), (vn, .inl (cI, 80, .inl fN)), (vr, .inl (cD, 80, .inr (.inr (.inr (.inl fR))))), (vs, .inl (cI, 80, .inl fS)), (ve, .inl (cI, 16, .inl (upd ep 0 (nI 1))))] _ := hP
                                have hD : va_D (inW [(mo, .inr (5, [.int (nI n), .ref vk, .ref vc, .ref vt, .ref vn, .ref vr, .ref vs, .ref ve, .ref vp])), (vk, .inl (cI, 160, .inl f)), (vc, .inl (cI, 8, .inl kc)), (vn, .inl (cI, 80, .inl fN)), (vr, .inl (cD, 80, .inr (.inr (.inr (.inl fR))))), (vs, .inl (cI, 80, .inl fS)), (ve, .inl (cI, 16, .inl ep))]) [(mo, .inr (5, [.int (nI n), .ref vk, .ref vc, .ref vt, .ref vn, .ref vr, .ref vs, .ref ve, .ref vp])), (vk, .inl (cI, 160, .inl f)), (vc, .inl (cI, 8, .inl (bmp kc 6))), (vn, .inl (cI, 80, .inl fN)), (vr, .inl (cD, 80, .inr (.inr (.inr (.inl fR))))), (vs, .inl (cI, 80, .inl fS)), (ve, .inl (cI, 16, .inl (upd ep 0 (nI 1))))] := hD
                                refine lv_aload_n hx hb dX5_observe_263 rfl (lv_at hl 9 rfl) ?_
                                refine va_get (D := D) (ci := 5) (v := .ref ve) (C := RX5) (T := TX5) (N := 9) hx hb hts hin5 hown hK hP 0 rfl rfl 7 (by decide) (hts (.fieldLink RX5 29 "EpochSifterModel" "epochs" "[I") (by decide +kernel)) (fun _ h9 => h9) rfl dX5_observe_264 ?_
                                refine lv_iconst (v := nI 1) hx hb dX5_observe_267 (by decide) ?_
                                refine lv_iload hx hb dX5_observe_268 (lv_at hl 1 rfl) ?_
                                refine a_ist hx hb hK hP hD hS 6 0 rfl rfl (by omega) (by decide) dX5_observe_270 (fun H locs hP hD hS => ?_)
                                have hP : va_P D vwCl [(mo, .inr (5, [.int (nI n), .ref vk, .ref vc, .ref vt, .ref vn, .ref vr, .ref vs, .ref ve, .ref vp])), (vk, .inl (cI, 160, .inl f)), (vc, .inl (cI, 8, .inl (bmp kc 6))), (vn, .inl (cI, 80, .inl fN)), (vr, .inl (cD, 80, .inr (.inr (.inr (.inl fR))))), (vs, .inl (cI, 80, .inl fS)), (ve, .inl (cI, 16, .inl (upd (upd ep 0 (nI 1)) 1 (nI (num bs 24 30)))))] _ := hP
                                have hD : va_D (inW [(mo, .inr (5, [.int (nI n), .ref vk, .ref vc, .ref vt, .ref vn, .ref vr, .ref vs, .ref ve, .ref vp])), (vk, .inl (cI, 160, .inl f)), (vc, .inl (cI, 8, .inl kc)), (vn, .inl (cI, 80, .inl fN)), (vr, .inl (cD, 80, .inr (.inr (.inr (.inl fR))))), (vs, .inl (cI, 80, .inl fS)), (ve, .inl (cI, 16, .inl ep))]) [(mo, .inr (5, [.int (nI n), .ref vk, .ref vc, .ref vt, .ref vn, .ref vr, .ref vs, .ref ve, .ref vp])), (vk, .inl (cI, 160, .inl f)), (vc, .inl (cI, 8, .inl (bmp kc 6))), (vn, .inl (cI, 80, .inl fN)), (vr, .inl (cD, 80, .inr (.inr (.inr (.inl fR))))), (vs, .inl (cI, 80, .inl fS)), (ve, .inl (cI, 16, .inl (upd (upd ep 0 (nI 1)) 1 (nI (num bs 24 30)))))] := hD
                                refine lv_aload_n hx hb dX5_observe_271 rfl (lv_at hl 9 rfl) ?_
                                refine va_get (D := D) (ci := 5) (v := .ref ve) (C := RX5) (T := TX5) (N := 9) hx hb hts hin5 hown hK hP 0 rfl rfl 7 (by decide) (hts (.fieldLink RX5 29 "EpochSifterModel" "epochs" "[I") (by decide +kernel)) (fun _ h9 => h9) rfl dX5_observe_272 ?_
                                refine lv_iconst (v := nI 2) hx hb dX5_observe_275 (by decide) ?_
                                refine lv_iload hx hb dX5_observe_276 (lv_at hl 2 rfl) ?_
                                refine a_ist hx hb hK hP hD hS 6 0 rfl rfl (by omega) (by decide) dX5_observe_278 (fun H locs hP hD hS => ?_)
                                have hP : va_P D vwCl [(mo, .inr (5, [.int (nI n), .ref vk, .ref vc, .ref vt, .ref vn, .ref vr, .ref vs, .ref ve, .ref vp])), (vk, .inl (cI, 160, .inl f)), (vc, .inl (cI, 8, .inl (bmp kc 6))), (vn, .inl (cI, 80, .inl fN)), (vr, .inl (cD, 80, .inr (.inr (.inr (.inl fR))))), (vs, .inl (cI, 80, .inl fS)), (ve, .inl (cI, 16, .inl (upd (upd (upd ep 0 (nI 1)) 1 (nI (num bs 24 30))) 2 (nI (num bs 12 12)))))] _ := hP
                                have hD : va_D (inW [(mo, .inr (5, [.int (nI n), .ref vk, .ref vc, .ref vt, .ref vn, .ref vr, .ref vs, .ref ve, .ref vp])), (vk, .inl (cI, 160, .inl f)), (vc, .inl (cI, 8, .inl kc)), (vn, .inl (cI, 80, .inl fN)), (vr, .inl (cD, 80, .inr (.inr (.inr (.inl fR))))), (vs, .inl (cI, 80, .inl fS)), (ve, .inl (cI, 16, .inl ep))]) [(mo, .inr (5, [.int (nI n), .ref vk, .ref vc, .ref vt, .ref vn, .ref vr, .ref vs, .ref ve, .ref vp])), (vk, .inl (cI, 160, .inl f)), (vc, .inl (cI, 8, .inl (bmp kc 6))), (vn, .inl (cI, 80, .inl fN)), (vr, .inl (cD, 80, .inr (.inr (.inr (.inl fR))))), (vs, .inl (cI, 80, .inl fS)), (ve, .inl (cI, 16, .inl (upd (upd (upd ep 0 (nI 1)) 1 (nI (num bs 24 30))) 2 (nI (num bs 12 12)))))] := hD
                                refine lv_aload_n hx hb dX5_observe_279 rfl (lv_at hl 9 rfl) ?_
                                refine va_get (D := D) (ci := 5) (v := .ref ve) (C := RX5) (T := TX5) (N := 9) hx hb hts hin5 hown hK hP 0 rfl rfl 7 (by decide) (hts (.fieldLink RX5 29 "EpochSifterModel" "epochs" "[I") (by decide +kernel)) (fun _ h9 => h9) rfl dX5_observe_280 ?_
                                refine lv_iconst (v := nI 3) hx hb dX5_observe_283 (by decide) ?_
                                refine lv_iconst (v := nI 0) hx hb dX5_observe_284 (by decide) ?_
                                refine a_ist hx hb hK hP hD hS 6 0 rfl rfl (by omega) (by decide) dX5_observe_285 (fun H locs hP hD hS => ?_)
                                have hP : va_P D vwCl [(mo, .inr (5, [.int (nI n), .ref vk, .ref vc, .ref vt, .ref vn, .ref vr, .ref vs, .ref ve, .ref vp])), (vk, .inl (cI, 160, .inl f)), (vc, .inl (cI, 8, .inl (bmp kc 6))), (vn, .inl (cI, 80, .inl fN)), (vr, .inl (cD, 80, .inr (.inr (.inr (.inl fR))))), (vs, .inl (cI, 80, .inl fS)), (ve, .inl (cI, 16, .inl (upd (upd (upd (upd ep 0 (nI 1)) 1 (nI (num bs 24 30))) 2 (nI (num bs 12 12))) 3 (nI 0))))] _ := hP
                                have hD : va_D (inW [(mo, .inr (5, [.int (nI n), .ref vk, .ref vc, .ref vt, .ref vn, .ref vr, .ref vs, .ref ve, .ref vp])), (vk, .inl (cI, 160, .inl f)), (vc, .inl (cI, 8, .inl kc)), (vn, .inl (cI, 80, .inl fN)), (vr, .inl (cD, 80, .inr (.inr (.inr (.inl fR))))), (vs, .inl (cI, 80, .inl fS)), (ve, .inl (cI, 16, .inl ep))]) [(mo, .inr (5, [.int (nI n), .ref vk, .ref vc, .ref vt, .ref vn, .ref vr, .ref vs, .ref ve, .ref vp])), (vk, .inl (cI, 160, .inl f)), (vc, .inl (cI, 8, .inl (bmp kc 6))), (vn, .inl (cI, 80, .inl fN)), (vr, .inl (cD, 80, .inr (.inr (.inr (.inl fR))))), (vs, .inl (cI, 80, .inl fS)), (ve, .inl (cI, 16, .inl (upd (upd (upd (upd ep 0 (nI 1)) 1 (nI (num bs 24 30))) 2 (nI (num bs 12 12))) 3 (nI 0))))] := hD
                                refine lv_aload_n hx hb dX5_observe_286 rfl (lv_at hl 9 rfl) ?_
                                refine va_get (D := D) (ci := 5) (v := .ref ve) (C := RX5) (T := TX5) (N := 9) hx hb hts hin5 hown hK hP 0 rfl rfl 7 (by decide) (hts (.fieldLink RX5 29 "EpochSifterModel" "epochs" "[I") (by decide +kernel)) (fun _ h9 => h9) rfl dX5_observe_287 ?_
                                refine lv_iconst (v := nI 4) hx hb dX5_observe_290 (by decide) ?_
                                refine lv_iconst (v := nI 0) hx hb dX5_observe_291 (by decide) ?_
                                refine a_ist hx hb hK hP hD hS 6 0 rfl rfl (by omega) (by decide) dX5_observe_292 (fun H locs hP hD hS => ?_)
                                have hP : va_P D vwCl [(mo, .inr (5, [.int (nI n), .ref vk, .ref vc, .ref vt, .ref vn, .ref vr, .ref vs, .ref ve, .ref vp])), (vk, .inl (cI, 160, .inl f)), (vc, .inl (cI, 8, .inl (bmp kc 6))), (vn, .inl (cI, 80, .inl fN)), (vr, .inl (cD, 80, .inr (.inr (.inr (.inl fR))))), (vs, .inl (cI, 80, .inl fS)), (ve, .inl (cI, 16, .inl (upd (upd (upd (upd (upd ep 0 (nI 1)) 1 (nI (num bs 24 30))) 2 (nI (num bs 12 12))) 3 (nI 0)) 4 (nI 0))))] _ := hP
                                have hD : va_D (inW [(mo, .inr (5, [.int (nI n), .ref vk, .ref vc, .ref vt, .ref vn, .ref vr, .ref vs, .ref ve, .ref vp])), (vk, .inl (cI, 160, .inl f)), (vc, .inl (cI, 8, .inl kc)), (vn, .inl (cI, 80, .inl fN)), (vr, .inl (cD, 80, .inr (.inr (.inr (.inl fR))))), (vs, .inl (cI, 80, .inl fS)), (ve, .inl (cI, 16, .inl ep))]) [(mo, .inr (5, [.int (nI n), .ref vk, .ref vc, .ref vt, .ref vn, .ref vr, .ref vs, .ref ve, .ref vp])), (vk, .inl (cI, 160, .inl f)), (vc, .inl (cI, 8, .inl (bmp kc 6))), (vn, .inl (cI, 80, .inl fN)), (vr, .inl (cD, 80, .inr (.inr (.inr (.inl fR))))), (vs, .inl (cI, 80, .inl fS)), (ve, .inl (cI, 16, .inl (upd (upd (upd (upd (upd ep 0 (nI 1)) 1 (nI (num bs 24 30))) 2 (nI (num bs 12 12))) 3 (nI 0)) 4 (nI 0))))] := hD
                                exact (cuts _) (bmp kc 6) (upd (upd (upd (upd (upd ep 0 (nI 1)) 1 (nI (num bs 24 30))) 2 (nI (num bs 12 12))) 3 (nI 0)) 4 (nI 0)) (1, nI (num bs 24 30), nI (num bs 12 12), nI 0, []) ((GC_new (b := bs) (ob := G.2.2.2.1) (cs := G.2.2.2.2) hsm (bmp kc 6)).1.symm) (by have h := (GC_new (b := bs) (ob := G.2.2.2.1) (cs := G.2.2.2.2) hsm (bmp kc 6)).2; rw [if_neg (by omega)] at h; exact h.symm) (new_rep hM _ _) rfl (Nat.lt_succ_self _) _ _ hP hD hS ls (lv_sub hl [9, 7, 6, 5, 4] rfl)
                              · omega
                          · skip
                            refine lv_aload_n hx hb dX5_observe_207 rfl (lv_at hl 8 rfl) ?_
                            refine va_get (D := D) (ci := 5) (v := .ref ve) (C := RX5) (T := TX5) (N := 9) hx hb hts hin5 hown hK hP 0 rfl rfl 7 (by decide) (hts (.fieldLink RX5 29 "EpochSifterModel" "epochs" "[I") (by decide +kernel)) (fun _ h9 => h9) rfl dX5_observe_208 ?_
                            refine lv_iconst (v := nI 1) hx hb dX5_observe_211 (by decide) ?_
                            refine a_ild (v := G.2.1) hx hb hK hP 6 0 rfl rfl (by omega) (by decide) (hM.1.2.1) dX5_observe_212 ?_
                            refine lv_iload hx hb dX5_observe_213 (lv_at hl 0 rfl) ?_
                            refine lv_icmp_ne (tgt := 233) hx hb dX5_observe_215 (by decide) (fun c_215 => ?_) (fun c_215 => ?_)
                            · skip
                              refine lv_iconst (v := nI 0) hx hb dX5_observe_233 (by decide) ?_
                              refine lv_istore (lv' := [(10, .int (nI 0)), (9, .int (nI (num bs 24 30))), (8, .int (nI (num bs 12 12))), (6, .int (nI 1)), (7, .int (nI (nC bs))), (5, .int (nI (nG bs))), (4, .int (nI (nS bs))), (3, .int (nI (num bs 0 12))), (2, .int (nI (8 * len))), (0, .ref mo), (1, .int (nI len))]) hx hb dX5_observe_234 hl (by decide) rfl (fun ls hl => ?_)
                              refine lv_iload hx hb dX5_observe_236 (lv_at hl 0 rfl) ?_
                              refine rz_ne (tgt := 293) hx hb dX5_observe_238 (by decide) (by omega) (fun c_238 => ?_) (fun c_238 => ?_)
                              · omega
                              · skip
                                refine lv_aload_n hx hb dX5_observe_241 rfl (lv_at hl 9 rfl) ?_
                                refine va_get (D := D) (ci := 5) (v := .ref ve) (C := RX5) (T := TX5) (N := 9) hx hb hts hin5 hown hK hP 0 rfl rfl 7 (by decide) (hts (.fieldLink RX5 29 "EpochSifterModel" "epochs" "[I") (by decide +kernel)) (fun _ h9 => h9) rfl dX5_observe_242 ?_
                                refine lv_iconst (v := nI 0) hx hb dX5_observe_245 (by decide) ?_
                                refine a_ild (v := nI G.1) hx hb hK hP 6 0 rfl rfl (by omega) (by decide) (hM.1.1) dX5_observe_246 ?_
                                refine lv_iconst (v := nI 1) hx hb dX5_observe_247 (by decide) ?_
                                refine rn_ne (tgt := 256) hx hb dX5_observe_248 (by decide) (by omega) (by omega) (fun c_248 => ?_) (fun c_248 => ?_)
                                · omega
                                · skip
                                  refine lv_aload_n hx hb dX5_observe_251 rfl (lv_at hl 9 rfl) ?_
                                  refine lv_iconst (v := nI 5) hx hb dX5_observe_252 (by decide) ?_
                                  refine x_callV (As := [.int (nI 5)]) (rest := []) ⟨hx, hb, hml, hown, hts⟩ (c_X5_bump (zl := zl) (D := D) (cI := cI) (cD := cD) mo n vk vc vt vn vr vs ve vp (bmp kc 6) 5 (by decide)) (cwV 1 hts gX5_observe_X5_bump rfl rfl rfl (by decide +kernel) ⟨Nat.le_of_ble_eq_true rfl, Nat.le_of_ble_eq_true rfl⟩) hK hN hP hD hS [0, 2] rfl rfl 0 rfl rfl rfl hl.1 rfl (Nat.le_of_ble_eq_true rfl) dX5_observe_253 ⟨Nat.le_of_ble_eq_true rfl, Nat.le_of_ble_eq_true rfl⟩ (fun v_11 w_11 H locs hr_11 hP hD hS => ?_)
                                  obtain ⟨rfl, rfl⟩ := hr_11
                                  refine W.eq (g2 := F0 zm 256 ls []) rfl ?_
                                  have hP : va_P D vwCl [(mo, .inr (5, [.int (nI n), .ref vk, .ref vc, .ref vt, .ref vn, .ref vr, .ref vs, .ref ve, .ref vp])), (vk, .inl (cI, 160, .inl f)), (vc, .inl (cI, 8, .inl (bmp (bmp kc 6) 5))), (vn, .inl (cI, 80, .inl fN)), (vr, .inl (cD, 80, .inr (.inr (.inr (.inl fR))))), (vs, .inl (cI, 80, .inl fS)), (ve, .inl (cI, 16, .inl ep))] _ := hP
                                  have hD : va_D (inW [(mo, .inr (5, [.int (nI n), .ref vk, .ref vc, .ref vt, .ref vn, .ref vr, .ref vs, .ref ve, .ref vp])), (vk, .inl (cI, 160, .inl f)), (vc, .inl (cI, 8, .inl kc)), (vn, .inl (cI, 80, .inl fN)), (vr, .inl (cD, 80, .inr (.inr (.inr (.inl fR))))), (vs, .inl (cI, 80, .inl fS)), (ve, .inl (cI, 16, .inl ep))]) [(mo, .inr (5, [.int (nI n), .ref vk, .ref vc, .ref vt, .ref vn, .ref vr, .ref vs, .ref ve, .ref vp])), (vk, .inl (cI, 160, .inl f)), (vc, .inl (cI, 8, .inl (bmp (bmp kc 6) 5))), (vn, .inl (cI, 80, .inl fN)), (vr, .inl (cD, 80, .inr (.inr (.inr (.inl fR))))), (vs, .inl (cI, 80, .inl fS)), (ve, .inl (cI, 16, .inl ep))] := hD
                                  refine lv_aload_n hx hb dX5_observe_256 rfl (lv_at hl 9 rfl) ?_
                                  refine va_get (D := D) (ci := 5) (v := .ref ve) (C := RX5) (T := TX5) (N := 9) hx hb hts hin5 hown hK hP 0 rfl rfl 7 (by decide) (hts (.fieldLink RX5 29 "EpochSifterModel" "epochs" "[I") (by decide +kernel)) (fun _ h9 => h9) rfl dX5_observe_257 ?_
                                  refine lv_iconst (v := nI 0) hx hb dX5_observe_260 (by decide) ?_
                                  refine lv_iconst (v := nI 1) hx hb dX5_observe_261 (by decide) ?_
                                  refine a_ist hx hb hK hP hD hS 6 0 rfl rfl (by omega) (by decide) dX5_observe_262 (fun H locs hP hD hS => ?_)
                                  have hP : va_P D vwCl [(mo, .inr (5, [.int (nI n), .ref vk, .ref vc, .ref vt, .ref vn, .ref vr, .ref vs, .ref ve, .ref vp])), (vk, .inl (cI, 160, .inl f)), (vc, .inl (cI, 8, .inl (bmp (bmp kc 6) 5))), (vn, .inl (cI, 80, .inl fN)), (vr, .inl (cD, 80, .inr (.inr (.inr (.inl fR))))), (vs, .inl (cI, 80, .inl fS)), (ve, .inl (cI, 16, .inl (upd ep 0 (nI 1))))] _ := hP
                                  have hD : va_D (inW [(mo, .inr (5, [.int (nI n), .ref vk, .ref vc, .ref vt, .ref vn, .ref vr, .ref vs, .ref ve, .ref vp])), (vk, .inl (cI, 160, .inl f)), (vc, .inl (cI, 8, .inl kc)), (vn, .inl (cI, 80, .inl fN)), (vr, .inl (cD, 80, .inr (.inr (.inr (.inl fR))))), (vs, .inl (cI, 80, .inl fS)), (ve, .inl (cI, 16, .inl ep))]) [(mo, .inr (5, [.int (nI n), .ref vk, .ref vc, .ref vt, .ref vn, .ref vr, .ref vs, .ref ve, .ref vp])), (vk, .inl (cI, 160, .inl f)), (vc, .inl (cI, 8, .inl (bmp (bmp kc 6) 5))), (vn, .inl (cI, 80, .inl fN)), (vr, .inl (cD, 80, .inr (.inr (.inr (.inl fR))))), (vs, .inl (cI, 80, .inl fS)), (ve, .inl (cI, 16, .inl (upd ep 0 (nI 1))))] := hD
                                  refine lv_aload_n hx hb dX5_observe_263 rfl (lv_at hl 9 rfl) ?_
                                  refine va_get (D := D) (ci := 5) (v := .ref ve) (C := RX5) (T := TX5) (N := 9) hx hb hts hin5 hown hK hP 0 rfl rfl 7 (by decide) (hts (.fieldLink RX5 29 "EpochSifterModel" "epochs" "[I") (by decide +kernel)) (fun _ h9 => h9) rfl dX5_observe_264 ?_
                                  refine lv_iconst (v := nI 1) hx hb dX5_observe_267 (by decide) ?_
                                  refine lv_iload hx hb dX5_observe_268 (lv_at hl 1 rfl) ?_
                                  refine a_ist hx hb hK hP hD hS 6 0 rfl rfl (by omega) (by decide) dX5_observe_270 (fun H locs hP hD hS => ?_)
                                  have hP : va_P D vwCl [(mo, .inr (5, [.int (nI n), .ref vk, .ref vc, .ref vt, .ref vn, .ref vr, .ref vs, .ref ve, .ref vp])), (vk, .inl (cI, 160, .inl f)), (vc, .inl (cI, 8, .inl (bmp (bmp kc 6) 5))), (vn, .inl (cI, 80, .inl fN)), (vr, .inl (cD, 80, .inr (.inr (.inr (.inl fR))))), (vs, .inl (cI, 80, .inl fS)), (ve, .inl (cI, 16, .inl (upd (upd ep 0 (nI 1)) 1 (nI (num bs 24 30)))))] _ := hP
                                  have hD : va_D (inW [(mo, .inr (5, [.int (nI n), .ref vk, .ref vc, .ref vt, .ref vn, .ref vr, .ref vs, .ref ve, .ref vp])), (vk, .inl (cI, 160, .inl f)), (vc, .inl (cI, 8, .inl kc)), (vn, .inl (cI, 80, .inl fN)), (vr, .inl (cD, 80, .inr (.inr (.inr (.inl fR))))), (vs, .inl (cI, 80, .inl fS)), (ve, .inl (cI, 16, .inl ep))]) [(mo, .inr (5, [.int (nI n), .ref vk, .ref vc, .ref vt, .ref vn, .ref vr, .ref vs, .ref ve, .ref vp])), (vk, .inl (cI, 160, .inl f)), (vc, .inl (cI, 8, .inl (bmp (bmp kc 6) 5))), (vn, .inl (cI, 80, .inl fN)), (vr, .inl (cD, 80, .inr (.inr (.inr (.inl fR))))), (vs, .inl (cI, 80, .inl fS)), (ve, .inl (cI, 16, .inl (upd (upd ep 0 (nI 1)) 1 (nI (num bs 24 30)))))] := hD
                                  refine lv_aload_n hx hb dX5_observe_271 rfl (lv_at hl 9 rfl) ?_
                                  refine va_get (D := D) (ci := 5) (v := .ref ve) (C := RX5) (T := TX5) (N := 9) hx hb hts hin5 hown hK hP 0 rfl rfl 7 (by decide) (hts (.fieldLink RX5 29 "EpochSifterModel" "epochs" "[I") (by decide +kernel)) (fun _ h9 => h9) rfl dX5_observe_272 ?_
                                  refine lv_iconst (v := nI 2) hx hb dX5_observe_275 (by decide) ?_
                                  refine lv_iload hx hb dX5_observe_276 (lv_at hl 2 rfl) ?_
                                  refine a_ist hx hb hK hP hD hS 6 0 rfl rfl (by omega) (by decide) dX5_observe_278 (fun H locs hP hD hS => ?_)
                                  have hP : va_P D vwCl [(mo, .inr (5, [.int (nI n), .ref vk, .ref vc, .ref vt, .ref vn, .ref vr, .ref vs, .ref ve, .ref vp])), (vk, .inl (cI, 160, .inl f)), (vc, .inl (cI, 8, .inl (bmp (bmp kc 6) 5))), (vn, .inl (cI, 80, .inl fN)), (vr, .inl (cD, 80, .inr (.inr (.inr (.inl fR))))), (vs, .inl (cI, 80, .inl fS)), (ve, .inl (cI, 16, .inl (upd (upd (upd ep 0 (nI 1)) 1 (nI (num bs 24 30))) 2 (nI (num bs 12 12)))))] _ := hP
                                  have hD : va_D (inW [(mo, .inr (5, [.int (nI n), .ref vk, .ref vc, .ref vt, .ref vn, .ref vr, .ref vs, .ref ve, .ref vp])), (vk, .inl (cI, 160, .inl f)), (vc, .inl (cI, 8, .inl kc)), (vn, .inl (cI, 80, .inl fN)), (vr, .inl (cD, 80, .inr (.inr (.inr (.inl fR))))), (vs, .inl (cI, 80, .inl fS)), (ve, .inl (cI, 16, .inl ep))]) [(mo, .inr (5, [.int (nI n), .ref vk, .ref vc, .ref vt, .ref vn, .ref vr, .ref vs, .ref ve, .ref vp])), (vk, .inl (cI, 160, .inl f)), (vc, .inl (cI, 8, .inl (bmp (bmp kc 6) 5))), (vn, .inl (cI, 80, .inl fN)), (vr, .inl (cD, 80, .inr (.inr (.inr (.inl fR))))), (vs, .inl (cI, 80, .inl fS)), (ve, .inl (cI, 16, .inl (upd (upd (upd ep 0 (nI 1)) 1 (nI (num bs 24 30))) 2 (nI (num bs 12 12)))))] := hD
                                  refine lv_aload_n hx hb dX5_observe_279 rfl (lv_at hl 9 rfl) ?_
                                  refine va_get (D := D) (ci := 5) (v := .ref ve) (C := RX5) (T := TX5) (N := 9) hx hb hts hin5 hown hK hP 0 rfl rfl 7 (by decide) (hts (.fieldLink RX5 29 "EpochSifterModel" "epochs" "[I") (by decide +kernel)) (fun _ h9 => h9) rfl dX5_observe_280 ?_
                                  refine lv_iconst (v := nI 3) hx hb dX5_observe_283 (by decide) ?_
                                  refine lv_iconst (v := nI 0) hx hb dX5_observe_284 (by decide) ?_
                                  refine a_ist hx hb hK hP hD hS 6 0 rfl rfl (by omega) (by decide) dX5_observe_285 (fun H locs hP hD hS => ?_)
                                  have hP : va_P D vwCl [(mo, .inr (5, [.int (nI n), .ref vk, .ref vc, .ref vt, .ref vn, .ref vr, .ref vs, .ref ve, .ref vp])), (vk, .inl (cI, 160, .inl f)), (vc, .inl (cI, 8, .inl (bmp (bmp kc 6) 5))), (vn, .inl (cI, 80, .inl fN)), (vr, .inl (cD, 80, .inr (.inr (.inr (.inl fR))))), (vs, .inl (cI, 80, .inl fS)), (ve, .inl (cI, 16, .inl (upd (upd (upd (upd ep 0 (nI 1)) 1 (nI (num bs 24 30))) 2 (nI (num bs 12 12))) 3 (nI 0))))] _ := hP
                                  have hD : va_D (inW [(mo, .inr (5, [.int (nI n), .ref vk, .ref vc, .ref vt, .ref vn, .ref vr, .ref vs, .ref ve, .ref vp])), (vk, .inl (cI, 160, .inl f)), (vc, .inl (cI, 8, .inl kc)), (vn, .inl (cI, 80, .inl fN)), (vr, .inl (cD, 80, .inr (.inr (.inr (.inl fR))))), (vs, .inl (cI, 80, .inl fS)), (ve, .inl (cI, 16, .inl ep))]) [(mo, .inr (5, [.int (nI n), .ref vk, .ref vc, .ref vt, .ref vn, .ref vr, .ref vs, .ref ve, .ref vp])), (vk, .inl (cI, 160, .inl f)), (vc, .inl (cI, 8, .inl (bmp (bmp kc 6) 5))), (vn, .inl (cI, 80, .inl fN)), (vr, .inl (cD, 80, .inr (.inr (.inr (.inl fR))))), (vs, .inl (cI, 80, .inl fS)), (ve, .inl (cI, 16, .inl (upd (upd (upd (upd ep 0 (nI 1)) 1 (nI (num bs 24 30))) 2 (nI (num bs 12 12))) 3 (nI 0))))] := hD
                                  refine lv_aload_n hx hb dX5_observe_286 rfl (lv_at hl 9 rfl) ?_
                                  refine va_get (D := D) (ci := 5) (v := .ref ve) (C := RX5) (T := TX5) (N := 9) hx hb hts hin5 hown hK hP 0 rfl rfl 7 (by decide) (hts (.fieldLink RX5 29 "EpochSifterModel" "epochs" "[I") (by decide +kernel)) (fun _ h9 => h9) rfl dX5_observe_287 ?_
                                  refine lv_iconst (v := nI 4) hx hb dX5_observe_290 (by decide) ?_
                                  refine lv_iconst (v := nI 0) hx hb dX5_observe_291 (by decide) ?_
                                  refine a_ist hx hb hK hP hD hS 6 0 rfl rfl (by omega) (by decide) dX5_observe_292 (fun H locs hP hD hS => ?_)
                                  have hP : va_P D vwCl [(mo, .inr (5, [.int (nI n), .ref vk, .ref vc, .ref vt, .ref vn, .ref vr, .ref vs, .ref ve, .ref vp])), (vk, .inl (cI, 160, .inl f)), (vc, .inl (cI, 8, .inl (bmp (bmp kc 6) 5))), (vn, .inl (cI, 80, .inl fN)), (vr, .inl (cD, 80, .inr (.inr (.inr (.inl fR))))), (vs, .inl (cI, 80, .inl fS)), (ve, .inl (cI, 16, .inl (upd (upd (upd (upd (upd ep 0 (nI 1)) 1 (nI (num bs 24 30))) 2 (nI (num bs 12 12))) 3 (nI 0)) 4 (nI 0))))] _ := hP
                                  have hD : va_D (inW [(mo, .inr (5, [.int (nI n), .ref vk, .ref vc, .ref vt, .ref vn, .ref vr, .ref vs, .ref ve, .ref vp])), (vk, .inl (cI, 160, .inl f)), (vc, .inl (cI, 8, .inl kc)), (vn, .inl (cI, 80, .inl fN)), (vr, .inl (cD, 80, .inr (.inr (.inr (.inl fR))))), (vs, .inl (cI, 80, .inl fS)), (ve, .inl (cI, 16, .inl ep))]) [(mo, .inr (5, [.int (nI n), .ref vk, .ref vc, .ref vt, .ref vn, .ref vr, .ref vs, .ref ve, .ref vp])), (vk, .inl (cI, 160, .inl f)), (vc, .inl (cI, 8, .inl (bmp (bmp kc 6) 5))), (vn, .inl (cI, 80, .inl fN)), (vr, .inl (cD, 80, .inr (.inr (.inr (.inl fR))))), (vs, .inl (cI, 80, .inl fS)), (ve, .inl (cI, 16, .inl (upd (upd (upd (upd (upd ep 0 (nI 1)) 1 (nI (num bs 24 30))) 2 (nI (num bs 12 12))) 3 (nI 0)) 4 (nI 0))))] := hD
                                  exact (cuts _) (bmp (bmp kc 6) 5) (upd (upd (upd (upd (upd ep 0 (nI 1)) 1 (nI (num bs 24 30))) 2 (nI (num bs 12 12))) 3 (nI 0)) 4 (nI 0)) (1, nI (num bs 24 30), nI (num bs 12 12), nI 0, []) ((GC_new (b := bs) (ob := G.2.2.2.1) (cs := G.2.2.2.2) hsm (bmp kc 6)).1.symm) (by have h := (GC_new (b := bs) (ob := G.2.2.2.1) (cs := G.2.2.2.2) hsm (bmp kc 6)).2; rw [if_pos (by omega)] at h; exact h.symm) (new_rep hM _ _) rfl (Nat.lt_succ_self _) _ _ hP hD hS ls (lv_sub hl [9, 7, 6, 5, 4] rfl)
                            · skip
                              refine lv_aload_n hx hb dX5_observe_218 rfl (lv_at hl 8 rfl) ?_
                              refine va_get (D := D) (ci := 5) (v := .ref ve) (C := RX5) (T := TX5) (N := 9) hx hb hts hin5 hown hK hP 0 rfl rfl 7 (by decide) (hts (.fieldLink RX5 29 "EpochSifterModel" "epochs" "[I") (by decide +kernel)) (fun _ h9 => h9) rfl dX5_observe_219 ?_
                              refine lv_iconst (v := nI 2) hx hb dX5_observe_222 (by decide) ?_
                              refine a_ild (v := G.2.2.1) hx hb hK hP 6 0 rfl rfl (by omega) (by decide) (hM.1.2.2.1) dX5_observe_223 ?_
                              refine lv_iload hx hb dX5_observe_224 (lv_at hl 1 rfl) ?_
                              refine lv_icmp_ne (tgt := 233) hx hb dX5_observe_226 (by decide) (fun c_226 => ?_) (fun c_226 => ?_)
                              · skip
                                refine lv_iconst (v := nI 0) hx hb dX5_observe_233 (by decide) ?_
                                refine lv_istore (lv' := [(10, .int (nI 0)), (9, .int (nI (num bs 24 30))), (8, .int (nI (num bs 12 12))), (6, .int (nI 1)), (7, .int (nI (nC bs))), (5, .int (nI (nG bs))), (4, .int (nI (nS bs))), (3, .int (nI (num bs 0 12))), (2, .int (nI (8 * len))), (0, .ref mo), (1, .int (nI len))]) hx hb dX5_observe_234 hl (by decide) rfl (fun ls hl => ?_)
                                refine lv_iload hx hb dX5_observe_236 (lv_at hl 0 rfl) ?_
                                refine rz_ne (tgt := 293) hx hb dX5_observe_238 (by decide) (by omega) (fun c_238 => ?_) (fun c_238 => ?_)
                                · omega
                                · skip
                                  refine lv_aload_n hx hb dX5_observe_241 rfl (lv_at hl 9 rfl) ?_
                                  refine va_get (D := D) (ci := 5) (v := .ref ve) (C := RX5) (T := TX5) (N := 9) hx hb hts hin5 hown hK hP 0 rfl rfl 7 (by decide) (hts (.fieldLink RX5 29 "EpochSifterModel" "epochs" "[I") (by decide +kernel)) (fun _ h9 => h9) rfl dX5_observe_242 ?_
                                  refine lv_iconst (v := nI 0) hx hb dX5_observe_245 (by decide) ?_
                                  refine a_ild (v := nI G.1) hx hb hK hP 6 0 rfl rfl (by omega) (by decide) (hM.1.1) dX5_observe_246 ?_
                                  refine lv_iconst (v := nI 1) hx hb dX5_observe_247 (by decide) ?_
                                  refine rn_ne (tgt := 256) hx hb dX5_observe_248 (by decide) (by omega) (by omega) (fun c_248 => ?_) (fun c_248 => ?_)
                                  · omega
                                  · skip
                                    refine lv_aload_n hx hb dX5_observe_251 rfl (lv_at hl 9 rfl) ?_
                                    refine lv_iconst (v := nI 5) hx hb dX5_observe_252 (by decide) ?_
                                    refine x_callV (As := [.int (nI 5)]) (rest := []) ⟨hx, hb, hml, hown, hts⟩ (c_X5_bump (zl := zl) (D := D) (cI := cI) (cD := cD) mo n vk vc vt vn vr vs ve vp (bmp kc 6) 5 (by decide)) (cwV 1 hts gX5_observe_X5_bump rfl rfl rfl (by decide +kernel) ⟨Nat.le_of_ble_eq_true rfl, Nat.le_of_ble_eq_true rfl⟩) hK hN hP hD hS [0, 2] rfl rfl 0 rfl rfl rfl hl.1 rfl (Nat.le_of_ble_eq_true rfl) dX5_observe_253 ⟨Nat.le_of_ble_eq_true rfl, Nat.le_of_ble_eq_true rfl⟩ (fun v_12 w_12 H locs hr_12 hP hD hS => ?_)
                                    obtain ⟨rfl, rfl⟩ := hr_12
                                    refine W.eq (g2 := F0 zm 256 ls []) rfl ?_
                                    have hP : va_P D vwCl [(mo, .inr (5, [.int (nI n), .ref vk, .ref vc, .ref vt, .ref vn, .ref vr, .ref vs, .ref ve, .ref vp])), (vk, .inl (cI, 160, .inl f)), (vc, .inl (cI, 8, .inl (bmp (bmp kc 6) 5))), (vn, .inl (cI, 80, .inl fN)), (vr, .inl (cD, 80, .inr (.inr (.inr (.inl fR))))), (vs, .inl (cI, 80, .inl fS)), (ve, .inl (cI, 16, .inl ep))] _ := hP
                                    have hD : va_D (inW [(mo, .inr (5, [.int (nI n), .ref vk, .ref vc, .ref vt, .ref vn, .ref vr, .ref vs, .ref ve, .ref vp])), (vk, .inl (cI, 160, .inl f)), (vc, .inl (cI, 8, .inl kc)), (vn, .inl (cI, 80, .inl fN)), (vr, .inl (cD, 80, .inr (.inr (.inr (.inl fR))))), (vs, .inl (cI, 80, .inl fS)), (ve, .inl (cI, 16, .inl ep))]) [(mo, .inr (5, [.int (nI n), .ref vk, .ref vc, .ref vt, .ref vn, .ref vr, .ref vs, .ref ve, .ref vp])), (vk, .inl (cI, 160, .inl f)), (vc, .inl (cI, 8, .inl (bmp (bmp kc 6) 5))), (vn, .inl (cI, 80, .inl fN)), (vr, .inl (cD, 80, .inr (.inr (.inr (.inl fR))))), (vs, .inl (cI, 80, .inl fS)), (ve, .inl (cI, 16, .inl ep))] := hD
                                    refine lv_aload_n hx hb dX5_observe_256 rfl (lv_at hl 9 rfl) ?_
                                    refine va_get (D := D) (ci := 5) (v := .ref ve) (C := RX5) (T := TX5) (N := 9) hx hb hts hin5 hown hK hP 0 rfl rfl 7 (by decide) (hts (.fieldLink RX5 29 "EpochSifterModel" "epochs" "[I") (by decide +kernel)) (fun _ h9 => h9) rfl dX5_observe_257 ?_
                                    refine lv_iconst (v := nI 0) hx hb dX5_observe_260 (by decide) ?_
                                    refine lv_iconst (v := nI 1) hx hb dX5_observe_261 (by decide) ?_
                                    refine a_ist hx hb hK hP hD hS 6 0 rfl rfl (by omega) (by decide) dX5_observe_262 (fun H locs hP hD hS => ?_)
                                    have hP : va_P D vwCl [(mo, .inr (5, [.int (nI n), .ref vk, .ref vc, .ref vt, .ref vn, .ref vr, .ref vs, .ref ve, .ref vp])), (vk, .inl (cI, 160, .inl f)), (vc, .inl (cI, 8, .inl (bmp (bmp kc 6) 5))), (vn, .inl (cI, 80, .inl fN)), (vr, .inl (cD, 80, .inr (.inr (.inr (.inl fR))))), (vs, .inl (cI, 80, .inl fS)), (ve, .inl (cI, 16, .inl (upd ep 0 (nI 1))))] _ := hP
                                    have hD : va_D (inW [(mo, .inr (5, [.int (nI n), .ref vk, .ref vc, .ref vt, .ref vn, .ref vr, .ref vs, .ref ve, .ref vp])), (vk, .inl (cI, 160, .inl f)), (vc, .inl (cI, 8, .inl kc)), (vn, .inl (cI, 80, .inl fN)), (vr, .inl (cD, 80, .inr (.inr (.inr (.inl fR))))), (vs, .inl (cI, 80, .inl fS)), (ve, .inl (cI, 16, .inl ep))]) [(mo, .inr (5, [.int (nI n), .ref vk, .ref vc, .ref vt, .ref vn, .ref vr, .ref vs, .ref ve, .ref vp])), (vk, .inl (cI, 160, .inl f)), (vc, .inl (cI, 8, .inl (bmp (bmp kc 6) 5))), (vn, .inl (cI, 80, .inl fN)), (vr, .inl (cD, 80, .inr (.inr (.inr (.inl fR))))), (vs, .inl (cI, 80, .inl fS)), (ve, .inl (cI, 16, .inl (upd ep 0 (nI 1))))] := hD
                                    refine lv_aload_n hx hb dX5_observe_263 rfl (lv_at hl 9 rfl) ?_
                                    refine va_get (D := D) (ci := 5) (v := .ref ve) (C := RX5) (T := TX5) (N := 9) hx hb hts hin5 hown hK hP 0 rfl rfl 7 (by decide) (hts (.fieldLink RX5 29 "EpochSifterModel" "epochs" "[I") (by decide +kernel)) (fun _ h9 => h9) rfl dX5_observe_264 ?_
                                    refine lv_iconst (v := nI 1) hx hb dX5_observe_267 (by decide) ?_
                                    refine lv_iload hx hb dX5_observe_268 (lv_at hl 1 rfl) ?_
                                    refine a_ist hx hb hK hP hD hS 6 0 rfl rfl (by omega) (by decide) dX5_observe_270 (fun H locs hP hD hS => ?_)
                                    have hP : va_P D vwCl [(mo, .inr (5, [.int (nI n), .ref vk, .ref vc, .ref vt, .ref vn, .ref vr, .ref vs, .ref ve, .ref vp])), (vk, .inl (cI, 160, .inl f)), (vc, .inl (cI, 8, .inl (bmp (bmp kc 6) 5))), (vn, .inl (cI, 80, .inl fN)), (vr, .inl (cD, 80, .inr (.inr (.inr (.inl fR))))), (vs, .inl (cI, 80, .inl fS)), (ve, .inl (cI, 16, .inl (upd (upd ep 0 (nI 1)) 1 (nI (num bs 24 30)))))] _ := hP
                                    have hD : va_D (inW [(mo, .inr (5, [.int (nI n), .ref vk, .ref vc, .ref vt, .ref vn, .ref vr, .ref vs, .ref ve, .ref vp])), (vk, .inl (cI, 160, .inl f)), (vc, .inl (cI, 8, .inl kc)), (vn, .inl (cI, 80, .inl fN)), (vr, .inl (cD, 80, .inr (.inr (.inr (.inl fR))))), (vs, .inl (cI, 80, .inl fS)), (ve, .inl (cI, 16, .inl ep))]) [(mo, .inr (5, [.int (nI n), .ref vk, .ref vc, .ref vt, .ref vn, .ref vr, .ref vs, .ref ve, .ref vp])), (vk, .inl (cI, 160, .inl f)), (vc, .inl (cI, 8, .inl (bmp (bmp kc 6) 5))), (vn, .inl (cI, 80, .inl fN)), (vr, .inl (cD, 80, .inr (.inr (.inr (.inl fR))))), (vs, .inl (cI, 80, .inl fS)), (ve, .inl (cI, 16, .inl (upd (upd ep 0 (nI 1)) 1 (nI (num bs 24 30)))))] := hD
                                    refine lv_aload_n hx hb dX5_observe_271 rfl (lv_at hl 9 rfl) ?_
                                    refine va_get (D := D) (ci := 5) (v := .ref ve) (C := RX5) (T := TX5) (N := 9) hx hb hts hin5 hown hK hP 0 rfl rfl 7 (by decide) (hts (.fieldLink RX5 29 "EpochSifterModel" "epochs" "[I") (by decide +kernel)) (fun _ h9 => h9) rfl dX5_observe_272 ?_
                                    refine lv_iconst (v := nI 2) hx hb dX5_observe_275 (by decide) ?_
                                    refine lv_iload hx hb dX5_observe_276 (lv_at hl 2 rfl) ?_
                                    refine a_ist hx hb hK hP hD hS 6 0 rfl rfl (by omega) (by decide) dX5_observe_278 (fun H locs hP hD hS => ?_)
                                    have hP : va_P D vwCl [(mo, .inr (5, [.int (nI n), .ref vk, .ref vc, .ref vt, .ref vn, .ref vr, .ref vs, .ref ve, .ref vp])), (vk, .inl (cI, 160, .inl f)), (vc, .inl (cI, 8, .inl (bmp (bmp kc 6) 5))), (vn, .inl (cI, 80, .inl fN)), (vr, .inl (cD, 80, .inr (.inr (.inr (.inl fR))))), (vs, .inl (cI, 80, .inl fS)), (ve, .inl (cI, 16, .inl (upd (upd (upd ep 0 (nI 1)) 1 (nI (num bs 24 30))) 2 (nI (num bs 12 12)))))] _ := hP
                                    have hD : va_D (inW [(mo, .inr (5, [.int (nI n), .ref vk, .ref vc, .ref vt, .ref vn, .ref vr, .ref vs, .ref ve, .ref vp])), (vk, .inl (cI, 160, .inl f)), (vc, .inl (cI, 8, .inl kc)), (vn, .inl (cI, 80, .inl fN)), (vr, .inl (cD, 80, .inr (.inr (.inr (.inl fR))))), (vs, .inl (cI, 80, .inl fS)), (ve, .inl (cI, 16, .inl ep))]) [(mo, .inr (5, [.int (nI n), .ref vk, .ref vc, .ref vt, .ref vn, .ref vr, .ref vs, .ref ve, .ref vp])), (vk, .inl (cI, 160, .inl f)), (vc, .inl (cI, 8, .inl (bmp (bmp kc 6) 5))), (vn, .inl (cI, 80, .inl fN)), (vr, .inl (cD, 80, .inr (.inr (.inr (.inl fR))))), (vs, .inl (cI, 80, .inl fS)), (ve, .inl (cI, 16, .inl (upd (upd (upd ep 0 (nI 1)) 1 (nI (num bs 24 30))) 2 (nI (num bs 12 12)))))] := hD
                                    refine lv_aload_n hx hb dX5_observe_279 rfl (lv_at hl 9 rfl) ?_
                                    refine va_get (D := D) (ci := 5) (v := .ref ve) (C := RX5) (T := TX5) (N := 9) hx hb hts hin5 hown hK hP 0 rfl rfl 7 (by decide) (hts (.fieldLink RX5 29 "EpochSifterModel" "epochs" "[I") (by decide +kernel)) (fun _ h9 => h9) rfl dX5_observe_280 ?_
                                    refine lv_iconst (v := nI 3) hx hb dX5_observe_283 (by decide) ?_
                                    refine lv_iconst (v := nI 0) hx hb dX5_observe_284 (by decide) ?_
                                    refine a_ist hx hb hK hP hD hS 6 0 rfl rfl (by omega) (by decide) dX5_observe_285 (fun H locs hP hD hS => ?_)
                                    have hP : va_P D vwCl [(mo, .inr (5, [.int (nI n), .ref vk, .ref vc, .ref vt, .ref vn, .ref vr, .ref vs, .ref ve, .ref vp])), (vk, .inl (cI, 160, .inl f)), (vc, .inl (cI, 8, .inl (bmp (bmp kc 6) 5))), (vn, .inl (cI, 80, .inl fN)), (vr, .inl (cD, 80, .inr (.inr (.inr (.inl fR))))), (vs, .inl (cI, 80, .inl fS)), (ve, .inl (cI, 16, .inl (upd (upd (upd (upd ep 0 (nI 1)) 1 (nI (num bs 24 30))) 2 (nI (num bs 12 12))) 3 (nI 0))))] _ := hP
                                    have hD : va_D (inW [(mo, .inr (5, [.int (nI n), .ref vk, .ref vc, .ref vt, .ref vn, .ref vr, .ref vs, .ref ve, .ref vp])), (vk, .inl (cI, 160, .inl f)), (vc, .inl (cI, 8, .inl kc)), (vn, .inl (cI, 80, .inl fN)), (vr, .inl (cD, 80, .inr (.inr (.inr (.inl fR))))), (vs, .inl (cI, 80, .inl fS)), (ve, .inl (cI, 16, .inl ep))]) [(mo, .inr (5, [.int (nI n), .ref vk, .ref vc, .ref vt, .ref vn, .ref vr, .ref vs, .ref ve, .ref vp])), (vk, .inl (cI, 160, .inl f)), (vc, .inl (cI, 8, .inl (bmp (bmp kc 6) 5))), (vn, .inl (cI, 80, .inl fN)), (vr, .inl (cD, 80, .inr (.inr (.inr (.inl fR))))), (vs, .inl (cI, 80, .inl fS)), (ve, .inl (cI, 16, .inl (upd (upd (upd (upd ep 0 (nI 1)) 1 (nI (num bs 24 30))) 2 (nI (num bs 12 12))) 3 (nI 0))))] := hD
                                    refine lv_aload_n hx hb dX5_observe_286 rfl (lv_at hl 9 rfl) ?_
                                    refine va_get (D := D) (ci := 5) (v := .ref ve) (C := RX5) (T := TX5) (N := 9) hx hb hts hin5 hown hK hP 0 rfl rfl 7 (by decide) (hts (.fieldLink RX5 29 "EpochSifterModel" "epochs" "[I") (by decide +kernel)) (fun _ h9 => h9) rfl dX5_observe_287 ?_
                                    refine lv_iconst (v := nI 4) hx hb dX5_observe_290 (by decide) ?_
                                    refine lv_iconst (v := nI 0) hx hb dX5_observe_291 (by decide) ?_
                                    refine a_ist hx hb hK hP hD hS 6 0 rfl rfl (by omega) (by decide) dX5_observe_292 (fun H locs hP hD hS => ?_)
                                    have hP : va_P D vwCl [(mo, .inr (5, [.int (nI n), .ref vk, .ref vc, .ref vt, .ref vn, .ref vr, .ref vs, .ref ve, .ref vp])), (vk, .inl (cI, 160, .inl f)), (vc, .inl (cI, 8, .inl (bmp (bmp kc 6) 5))), (vn, .inl (cI, 80, .inl fN)), (vr, .inl (cD, 80, .inr (.inr (.inr (.inl fR))))), (vs, .inl (cI, 80, .inl fS)), (ve, .inl (cI, 16, .inl (upd (upd (upd (upd (upd ep 0 (nI 1)) 1 (nI (num bs 24 30))) 2 (nI (num bs 12 12))) 3 (nI 0)) 4 (nI 0))))] _ := hP
                                    have hD : va_D (inW [(mo, .inr (5, [.int (nI n), .ref vk, .ref vc, .ref vt, .ref vn, .ref vr, .ref vs, .ref ve, .ref vp])), (vk, .inl (cI, 160, .inl f)), (vc, .inl (cI, 8, .inl kc)), (vn, .inl (cI, 80, .inl fN)), (vr, .inl (cD, 80, .inr (.inr (.inr (.inl fR))))), (vs, .inl (cI, 80, .inl fS)), (ve, .inl (cI, 16, .inl ep))]) [(mo, .inr (5, [.int (nI n), .ref vk, .ref vc, .ref vt, .ref vn, .ref vr, .ref vs, .ref ve, .ref vp])), (vk, .inl (cI, 160, .inl f)), (vc, .inl (cI, 8, .inl (bmp (bmp kc 6) 5))), (vn, .inl (cI, 80, .inl fN)), (vr, .inl (cD, 80, .inr (.inr (.inr (.inl fR))))), (vs, .inl (cI, 80, .inl fS)), (ve, .inl (cI, 16, .inl (upd (upd (upd (upd (upd ep 0 (nI 1)) 1 (nI (num bs 24 30))) 2 (nI (num bs 12 12))) 3 (nI 0)) 4 (nI 0))))] := hD
                                    exact (cuts _) (bmp (bmp kc 6) 5) (upd (upd (upd (upd (upd ep 0 (nI 1)) 1 (nI (num bs 24 30))) 2 (nI (num bs 12 12))) 3 (nI 0)) 4 (nI 0)) (1, nI (num bs 24 30), nI (num bs 12 12), nI 0, []) ((GC_new (b := bs) (ob := G.2.2.2.1) (cs := G.2.2.2.2) hsm (bmp kc 6)).1.symm) (by have h := (GC_new (b := bs) (ob := G.2.2.2.1) (cs := G.2.2.2.2) hsm (bmp kc 6)).2; rw [if_pos (by omega)] at h; exact h.symm) (new_rep hM _ _) rfl (Nat.lt_succ_self _) _ _ hP hD hS ls (lv_sub hl [9, 7, 6, 5, 4] rfl)
                              · exact absurd ⟨c_204, c_215, c_226⟩ hsm
                      · omega
set_option maxHeartbeats 4000000 in
set_option maxRecDepth 100000 in
/-- no observation -/
theorem c_X5_observe_no {zl : Launch} {D : va_G} {cI cD : ClassId} (mo : Nat) (n : Nat) (vk : Nat) (vc : Nat) (vt : Nat) (vn : Nat) (vr : Nat) (vs : Nat) (ve : Nat) (vp : Nat) (f : Nat → Int32) (bs : List Nat) (kc : Nat → Int32) (len : Nat) (hf : Rp f bs) (hbn : bs.length = n) (hn : n ≤ 160) (hB : By bs) (hlen : len + 6 ≤ n) (hob : ¬ isObs bs len) : Cx zl yX5_observe wsX5_observe ({ frames := 3, cells := 0, slots := 0, locals := 81 }) D cI cD [.ref mo, .int (nI len)] [(mo, .inr (5, [.int (nI n), .ref vk, .ref vc, .ref vt, .ref vn, .ref vr, .ref vs, .ref ve, .ref vp])), (vk, .inl (cI, 160, .inl f)), (vc, .inl (cI, 8, .inl kc))] (fun v w1 => w1 = [(mo, .inr (5, [.int (nI n), .ref vk, .ref vc, .ref vt, .ref vn, .ref vr, .ref vs, .ref ve, .ref vp])), (vk, .inl (cI, 160, .inl f)), (vc, .inl (cI, 8, .inl (bmp kc 3)))] ∧ v = none) := by
  refine Met.ofW (cc := cX5_observe) (maxL := 11) (ret := none) (by decide) rfl ?_
  intro zp ze zs zm zargs zb zt zc zs₁ B hml hv
  obtain ⟨rfl, hP, hK, hD0, hN⟩ := hv
  have hx := B.exec
  have hb := B.bytes
  have hr := B.returns
  have hts := atoms_spec (ws := wsX5_observe) B.pre
  have hown : zs.vm.findClass RX5 = some zm.cls := findClass_of_methodNamed B.named
  have hlocks := B.notSynchronized
  have hD := inW_self hD0
  have hS : va_S (inW [(mo, .inr (5, [.int (nI n), .ref vk, .ref vc, .ref vt, .ref vn, .ref vr, .ref vs, .ref ve, .ref vp])), (vk, .inl (cI, 160, .inl f)), (vc, .inl (cI, 8, .inl kc))]) zs.heap zs.heap [] := va_S.rf
  have hl := lv_entry [.ref mo, .int (nI len)] (n := 11) (Nat.le_of_ble_eq_true rfl)
  rw [lg_entry_eq]
  generalize (lg_sl [.ref mo, .int (nI len)] ++ List.replicate (11 - (lg_sl [.ref mo, .int (nI len)]).length) Slot.unset).toArray = ls at hl ⊢
  have hl : lv_has ls 11 [(0, .ref mo), (1, .int (nI len))] := hl
  have q55 := ons_le bs 55 16
  have q71 := ons_le bs 71 4
  have qsg := sg_le bs
  have qa : nS bs ≤ 16 := ons_le _ _ _
  have qd : nG bs ≤ 4 := ons_le _ _ _
  have qc : nC bs = ons bs 75 (nS bs * nG bs) := rfl
  have q75 := ons_le bs 75 (nS bs * nG bs)
  have q12 := num_lt bs 0 12
  refine lv_bipush (v := nI 8) hx hb dX5_observe_0 (by decide) ?_
  refine lv_iload_n hx hb dX5_observe_2 rfl (lv_at hl 1 rfl) ?_
  refine lv_imul hx hb dX5_observe_3 ?_
  refine r_i (v := nI (8 * len)) (pk_mul _ _) ?_
  refine lv_istore_n (lv' := [(2, .int (nI (8 * len))), (0, .ref mo), (1, .int (nI len))]) hx hb dX5_observe_4 rfl hl (by decide) rfl (fun ls hl => ?_)
  by_cases h75 : 75 ≤ 8 * len
  · skip
    refine lv_iload_n hx hb dX5_observe_5 rfl (lv_at hl 0 rfl) ?_
    refine lv_bipush (v := nI 75) hx hb dX5_observe_6 (by decide) ?_
    refine rn_lt (tgt := 21) hx hb dX5_observe_8 (by decide) (by omega) (by omega) (fun c_8 => ?_) (fun c_8 => ?_)
    · omega
    · skip
      refine lv_aload_n hx hb dX5_observe_11 rfl (lv_at hl 1 rfl) ?_
      refine lv_iconst (v := nI 0) hx hb dX5_observe_12 (by decide) ?_
      refine lv_bipush (v := nI 12) hx hb dX5_observe_13 (by decide) ?_
      refine r_callVi (As := [.int (nI 0), .int (nI 12)]) (rest := []) ⟨hx, hb, hml, hown, hts⟩ (c_X5_number (zl := zl) (D := D) (cI := cI) (cD := cD) mo n vk vc vt vn vr vs ve vp f bs 0 12 (by first | assumption | omega) (by first | assumption | omega) (by first | assumption | omega) (by first | assumption | omega) (by first | assumption | omega) (by omega)) (cwV 2 hts gX5_observe_X5_number rfl rfl rfl (by decide +kernel) ⟨Nat.le_of_ble_eq_true rfl, Nat.le_of_ble_eq_true rfl⟩) hK hN hP hD [0, 1] rfl rfl 0 rfl rfl rfl hl.1 rfl (Nat.le_of_ble_eq_true rfl) dX5_observe_15 ⟨Nat.le_of_ble_eq_true rfl, Nat.le_of_ble_eq_true rfl⟩ (fun r_1 h_1 => ?_)
      obtain rfl := h_1
      refine lv_goto (tgt := 22) hx hb dX5_observe_18 (by decide) ?_
      refine lv_istore_n (lv' := [(3, .int (nI (num bs 0 12))), (2, .int (nI (8 * len))), (0, .ref mo), (1, .int (nI len))]) hx hb dX5_observe_22 rfl hl (by decide) rfl (fun ls hl => ?_)
      refine lv_iload_n hx hb dX5_observe_23 rfl (lv_at hl 1 rfl) ?_
      refine lv_bipush (v := nI 75) hx hb dX5_observe_24 (by decide) ?_
      refine rn_lt (tgt := 40) hx hb dX5_observe_26 (by decide) (by omega) (by omega) (fun c_26 => ?_) (fun c_26 => ?_)
      · omega
      · skip
        refine lv_aload_n hx hb dX5_observe_29 rfl (lv_at hl 2 rfl) ?_
        refine lv_bipush (v := nI 55) hx hb dX5_observe_30 (by decide) ?_
        refine lv_bipush (v := nI 16) hx hb dX5_observe_32 (by decide) ?_
        refine r_callVi (As := [.int (nI 55), .int (nI 16)]) (rest := []) ⟨hx, hb, hml, hown, hts⟩ (c_X5_ones (zl := zl) (D := D) (cI := cI) (cD := cD) mo n vk vc vt vn vr vs ve vp f bs 55 16 (by first | assumption | omega) (by first | assumption | omega) (by first | assumption | omega) (by first | assumption | omega) (by first | assumption | omega) (by omega)) (cwV 2 hts gX5_observe_X5_ones rfl rfl rfl (by decide +kernel) ⟨Nat.le_of_ble_eq_true rfl, Nat.le_of_ble_eq_true rfl⟩) hK hN hP hD [0, 1] rfl rfl 0 rfl rfl rfl hl.1 rfl (Nat.le_of_ble_eq_true rfl) dX5_observe_34 ⟨Nat.le_of_ble_eq_true rfl, Nat.le_of_ble_eq_true rfl⟩ (fun r_2 h_2 => ?_)
        obtain rfl := h_2
        refine lv_goto (tgt := 41) hx hb dX5_observe_37 (by decide) ?_
        refine r_i (v := nI (nS bs)) (rfl) ?_
        refine lv_istore (lv' := [(4, .int (nI (nS bs))), (3, .int (nI (num bs 0 12))), (2, .int (nI (8 * len))), (0, .ref mo), (1, .int (nI len))]) hx hb dX5_observe_41 hl (by decide) rfl (fun ls hl => ?_)
        refine lv_iload_n hx hb dX5_observe_43 rfl (lv_at hl 2 rfl) ?_
        refine lv_bipush (v := nI 75) hx hb dX5_observe_44 (by decide) ?_
        refine rn_lt (tgt := 59) hx hb dX5_observe_46 (by decide) (by omega) (by omega) (fun c_46 => ?_) (fun c_46 => ?_)
        · omega
        · skip
          refine lv_aload_n hx hb dX5_observe_49 rfl (lv_at hl 3 rfl) ?_
          refine lv_bipush (v := nI 71) hx hb dX5_observe_50 (by decide) ?_
          refine lv_iconst (v := nI 4) hx hb dX5_observe_52 (by decide) ?_
          refine r_callVi (As := [.int (nI 71), .int (nI 4)]) (rest := []) ⟨hx, hb, hml, hown, hts⟩ (c_X5_ones (zl := zl) (D := D) (cI := cI) (cD := cD) mo n vk vc vt vn vr vs ve vp f bs 71 4 (by first | assumption | omega) (by first | assumption | omega) (by first | assumption | omega) (by first | assumption | omega) (by first | assumption | omega) (by omega)) (cwV 2 hts gX5_observe_X5_ones rfl rfl rfl (by decide +kernel) ⟨Nat.le_of_ble_eq_true rfl, Nat.le_of_ble_eq_true rfl⟩) hK hN hP hD [0, 1] rfl rfl 0 rfl rfl rfl hl.1 rfl (Nat.le_of_ble_eq_true rfl) dX5_observe_53 ⟨Nat.le_of_ble_eq_true rfl, Nat.le_of_ble_eq_true rfl⟩ (fun r_3 h_3 => ?_)
          obtain rfl := h_3
          refine lv_goto (tgt := 60) hx hb dX5_observe_56 (by decide) ?_
          refine r_i (v := nI (nG bs)) (rfl) ?_
          refine lv_istore (lv' := [(5, .int (nI (nG bs))), (4, .int (nI (nS bs))), (3, .int (nI (num bs 0 12))), (2, .int (nI (8 * len))), (0, .ref mo), (1, .int (nI len))]) hx hb dX5_observe_60 hl (by decide) rfl (fun ls hl => ?_)
          refine lv_iload_n hx hb dX5_observe_62 rfl (lv_at hl 2 rfl) ?_
          refine lv_sipush (v := nI 1000) hx hb dX5_observe_63 (by decide) ?_
          refine rn_lt (tgt := 92) hx hb dX5_observe_66 (by decide) (by omega) (by omega) (fun c_66 => ?_) (fun c_66 => ?_)
          · skip
            refine lv_iconst (v := nI 0) hx hb dX5_observe_92 (by decide) ?_
            refine lv_istore (lv' := [(6, .int (nI 0)), (5, .int (nI (nG bs))), (4, .int (nI (nS bs))), (3, .int (nI (num bs 0 12))), (2, .int (nI (8 * len))), (0, .ref mo), (1, .int (nI len))]) hx hb dX5_observe_93 hl (by decide) rfl (fun ls hl => ?_)
            refine lv_iload hx hb dX5_observe_95 (lv_at hl 0 rfl) ?_
            refine rz_eq (tgt := 114) hx hb dX5_observe_97 (by decide) (by omega) (fun c_97 => ?_) (fun c_97 => ?_)
            · skip
              refine lv_iconst (v := nI 0) hx hb dX5_observe_114 (by decide) ?_
              refine lv_istore (lv' := [(7, .int (nI 0)), (6, .int (nI 0)), (5, .int (nI (nG bs))), (4, .int (nI (nS bs))), (3, .int (nI (num bs 0 12))), (2, .int (nI (8 * len))), (0, .ref mo), (1, .int (nI len))]) hx hb dX5_observe_115 hl (by decide) rfl (fun ls hl => ?_)
              refine lv_iload hx hb dX5_observe_117 (lv_at hl 1 rfl) ?_
              refine rz_eq (tgt := 157) hx hb dX5_observe_119 (by decide) (by omega) (fun c_119 => ?_) (fun c_119 => ?_)
              · skip
                refine lv_iconst (v := nI 0) hx hb dX5_observe_157 (by decide) ?_
                refine lv_istore (lv' := [(6, .int (nI 0)), (7, .int (nI 0)), (5, .int (nI (nG bs))), (4, .int (nI (nS bs))), (3, .int (nI (num bs 0 12))), (2, .int (nI (8 * len))), (0, .ref mo), (1, .int (nI len))]) hx hb dX5_observe_158 hl (by decide) rfl (fun ls hl => ?_)
                refine lv_iload hx hb dX5_observe_160 (lv_at hl 0 rfl) ?_
                refine rz_ne (tgt := 171) hx hb dX5_observe_162 (by decide) (by omega) (fun c_162 => ?_) (fun c_162 => ?_)
                · omega
                · skip
                  refine lv_aload_n hx hb dX5_observe_165 rfl (lv_at hl 6 rfl) ?_
                  refine lv_iconst (v := nI 3) hx hb dX5_observe_166 (by decide) ?_
                  refine x_callV (As := [.int (nI 3)]) (rest := []) ⟨hx, hb, hml, hown, hts⟩ (c_X5_bump (zl := zl) (D := D) (cI := cI) (cD := cD) mo n vk vc vt vn vr vs ve vp kc 3 (by decide)) (cwV 1 hts gX5_observe_X5_bump rfl rfl rfl (by decide +kernel) ⟨Nat.le_of_ble_eq_true rfl, Nat.le_of_ble_eq_true rfl⟩) hK hN hP hD hS [0, 2] rfl rfl 0 rfl rfl rfl hl.1 rfl (Nat.le_of_ble_eq_true rfl) dX5_observe_167 ⟨Nat.le_of_ble_eq_true rfl, Nat.le_of_ble_eq_true rfl⟩ (fun v_4 w_4 H locs hr_4 hP hD hS => ?_)
                  obtain ⟨rfl, rfl⟩ := hr_4
                  refine W.eq (g2 := F0 zm 170 ls []) rfl ?_
                  have hP : va_P D vwCl [(mo, .inr (5, [.int (nI n), .ref vk, .ref vc, .ref vt, .ref vn, .ref vr, .ref vs, .ref ve, .ref vp])), (vk, .inl (cI, 160, .inl f)), (vc, .inl (cI, 8, .inl (bmp kc 3)))] _ := hP
                  have hD : va_D (inW [(mo, .inr (5, [.int (nI n), .ref vk, .ref vc, .ref vt, .ref vn, .ref vr, .ref vs, .ref ve, .ref vp])), (vk, .inl (cI, 160, .inl f)), (vc, .inl (cI, 8, .inl kc))]) [(mo, .inr (5, [.int (nI n), .ref vk, .ref vc, .ref vt, .ref vn, .ref vr, .ref vs, .ref ve, .ref vp])), (vk, .inl (cI, 160, .inl f)), (vc, .inl (cI, 8, .inl (bmp kc 3)))] := hD
                  exact W.vret hx hb hr (fun tz htz hWz => ⟨none, [(mo, .inr (5, [.int (nI n), .ref vk, .ref vc, .ref vt, .ref vn, .ref vr, .ref vs, .ref ve, .ref vp])), (vk, .inl (cI, 160, .inl f)), (vc, .inl (cI, 8, .inl (bmp kc 3)))], rfl, ⟨rfl, rfl⟩, rfl, by rw [htz]; exact hP, hS.F htz⟩) (fun q h => hS.2.2 q h) dX5_observe_170
              · omega
            · omega
          · skip
            refine lv_iload_n hx hb dX5_observe_69 rfl (lv_at hl 2 rfl) ?_
            refine lv_sipush (v := nI 1003) hx hb dX5_observe_70 (by decide) ?_
            refine rn_gt (tgt := 92) hx hb dX5_observe_73 (by decide) (by omega) (by omega) (fun c_73 => ?_) (fun c_73 => ?_)
            · skip
              refine lv_iconst (v := nI 0) hx hb dX5_observe_92 (by decide) ?_
              refine lv_istore (lv' := [(6, .int (nI 0)), (5, .int (nI (nG bs))), (4, .int (nI (nS bs))), (3, .int (nI (num bs 0 12))), (2, .int (nI (8 * len))), (0, .ref mo), (1, .int (nI len))]) hx hb dX5_observe_93 hl (by decide) rfl (fun ls hl => ?_)
              refine lv_iload hx hb dX5_observe_95 (lv_at hl 0 rfl) ?_
              refine rz_eq (tgt := 114) hx hb dX5_observe_97 (by decide) (by omega) (fun c_97 => ?_) (fun c_97 => ?_)
              · skip
                refine lv_iconst (v := nI 0) hx hb dX5_observe_114 (by decide) ?_
                refine lv_istore (lv' := [(7, .int (nI 0)), (6, .int (nI 0)), (5, .int (nI (nG bs))), (4, .int (nI (nS bs))), (3, .int (nI (num bs 0 12))), (2, .int (nI (8 * len))), (0, .ref mo), (1, .int (nI len))]) hx hb dX5_observe_115 hl (by decide) rfl (fun ls hl => ?_)
                refine lv_iload hx hb dX5_observe_117 (lv_at hl 1 rfl) ?_
                refine rz_eq (tgt := 157) hx hb dX5_observe_119 (by decide) (by omega) (fun c_119 => ?_) (fun c_119 => ?_)
                · skip
                  refine lv_iconst (v := nI 0) hx hb dX5_observe_157 (by decide) ?_
                  refine lv_istore (lv' := [(6, .int (nI 0)), (7, .int (nI 0)), (5, .int (nI (nG bs))), (4, .int (nI (nS bs))), (3, .int (nI (num bs 0 12))), (2, .int (nI (8 * len))), (0, .ref mo), (1, .int (nI len))]) hx hb dX5_observe_158 hl (by decide) rfl (fun ls hl => ?_)
                  refine lv_iload hx hb dX5_observe_160 (lv_at hl 0 rfl) ?_
                  refine rz_ne (tgt := 171) hx hb dX5_observe_162 (by decide) (by omega) (fun c_162 => ?_) (fun c_162 => ?_)
                  · omega
                  · skip
                    refine lv_aload_n hx hb dX5_observe_165 rfl (lv_at hl 6 rfl) ?_
                    refine lv_iconst (v := nI 3) hx hb dX5_observe_166 (by decide) ?_
                    refine x_callV (As := [.int (nI 3)]) (rest := []) ⟨hx, hb, hml, hown, hts⟩ (c_X5_bump (zl := zl) (D := D) (cI := cI) (cD := cD) mo n vk vc vt vn vr vs ve vp kc 3 (by decide)) (cwV 1 hts gX5_observe_X5_bump rfl rfl rfl (by decide +kernel) ⟨Nat.le_of_ble_eq_true rfl, Nat.le_of_ble_eq_true rfl⟩) hK hN hP hD hS [0, 2] rfl rfl 0 rfl rfl rfl hl.1 rfl (Nat.le_of_ble_eq_true rfl) dX5_observe_167 ⟨Nat.le_of_ble_eq_true rfl, Nat.le_of_ble_eq_true rfl⟩ (fun v_5 w_5 H locs hr_5 hP hD hS => ?_)
                    obtain ⟨rfl, rfl⟩ := hr_5
                    refine W.eq (g2 := F0 zm 170 ls []) rfl ?_
                    have hP : va_P D vwCl [(mo, .inr (5, [.int (nI n), .ref vk, .ref vc, .ref vt, .ref vn, .ref vr, .ref vs, .ref ve, .ref vp])), (vk, .inl (cI, 160, .inl f)), (vc, .inl (cI, 8, .inl (bmp kc 3)))] _ := hP
                    have hD : va_D (inW [(mo, .inr (5, [.int (nI n), .ref vk, .ref vc, .ref vt, .ref vn, .ref vr, .ref vs, .ref ve, .ref vp])), (vk, .inl (cI, 160, .inl f)), (vc, .inl (cI, 8, .inl kc))]) [(mo, .inr (5, [.int (nI n), .ref vk, .ref vc, .ref vt, .ref vn, .ref vr, .ref vs, .ref ve, .ref vp])), (vk, .inl (cI, 160, .inl f)), (vc, .inl (cI, 8, .inl (bmp kc 3)))] := hD
                    exact W.vret hx hb hr (fun tz htz hWz => ⟨none, [(mo, .inr (5, [.int (nI n), .ref vk, .ref vc, .ref vt, .ref vn, .ref vr, .ref vs, .ref ve, .ref vp])), (vk, .inl (cI, 160, .inl f)), (vc, .inl (cI, 8, .inl (bmp kc 3)))], rfl, ⟨rfl, rfl⟩, rfl, by rw [htz]; exact hP, hS.F htz⟩) (fun q h => hS.2.2 q h) dX5_observe_170
                · omega
              · omega
            · skip
              refine lv_iload_n hx hb dX5_observe_76 rfl (lv_at hl 3 rfl) ?_
              refine lv_bipush (v := nI 75) hx hb dX5_observe_77 (by decide) ?_
              refine lv_iload hx hb dX5_observe_79 (lv_at hl 1 rfl) ?_
              refine lv_iload hx hb dX5_observe_81 (lv_at hl 0 rfl) ?_
              refine lv_imul hx hb dX5_observe_83 ?_
              refine r_i (v := nI ((nS bs) * (nG bs))) (pk_mul _ _) ?_
              refine lv_iadd hx hb dX5_observe_84 ?_
              refine r_i (v := nI (75 + ((nS bs) * (nG bs)))) (nI_add _ _) ?_
              refine rn_lt (tgt := 92) hx hb dX5_observe_85 (by decide) (by omega) (by omega) (fun c_85 => ?_) (fun c_85 => ?_)
              · skip
                refine lv_iconst (v := nI 0) hx hb dX5_observe_92 (by decide) ?_
                refine lv_istore (lv' := [(6, .int (nI 0)), (5, .int (nI (nG bs))), (4, .int (nI (nS bs))), (3, .int (nI (num bs 0 12))), (2, .int (nI (8 * len))), (0, .ref mo), (1, .int (nI len))]) hx hb dX5_observe_93 hl (by decide) rfl (fun ls hl => ?_)
                refine lv_iload hx hb dX5_observe_95 (lv_at hl 0 rfl) ?_
                refine rz_eq (tgt := 114) hx hb dX5_observe_97 (by decide) (by omega) (fun c_97 => ?_) (fun c_97 => ?_)
                · skip
                  refine lv_iconst (v := nI 0) hx hb dX5_observe_114 (by decide) ?_
                  refine lv_istore (lv' := [(7, .int (nI 0)), (6, .int (nI 0)), (5, .int (nI (nG bs))), (4, .int (nI (nS bs))), (3, .int (nI (num bs 0 12))), (2, .int (nI (8 * len))), (0, .ref mo), (1, .int (nI len))]) hx hb dX5_observe_115 hl (by decide) rfl (fun ls hl => ?_)
                  refine lv_iload hx hb dX5_observe_117 (lv_at hl 1 rfl) ?_
                  refine rz_eq (tgt := 157) hx hb dX5_observe_119 (by decide) (by omega) (fun c_119 => ?_) (fun c_119 => ?_)
                  · skip
                    refine lv_iconst (v := nI 0) hx hb dX5_observe_157 (by decide) ?_
                    refine lv_istore (lv' := [(6, .int (nI 0)), (7, .int (nI 0)), (5, .int (nI (nG bs))), (4, .int (nI (nS bs))), (3, .int (nI (num bs 0 12))), (2, .int (nI (8 * len))), (0, .ref mo), (1, .int (nI len))]) hx hb dX5_observe_158 hl (by decide) rfl (fun ls hl => ?_)
                    refine lv_iload hx hb dX5_observe_160 (lv_at hl 0 rfl) ?_
                    refine rz_ne (tgt := 171) hx hb dX5_observe_162 (by decide) (by omega) (fun c_162 => ?_) (fun c_162 => ?_)
                    · omega
                    · skip
                      refine lv_aload_n hx hb dX5_observe_165 rfl (lv_at hl 6 rfl) ?_
                      refine lv_iconst (v := nI 3) hx hb dX5_observe_166 (by decide) ?_
                      refine x_callV (As := [.int (nI 3)]) (rest := []) ⟨hx, hb, hml, hown, hts⟩ (c_X5_bump (zl := zl) (D := D) (cI := cI) (cD := cD) mo n vk vc vt vn vr vs ve vp kc 3 (by decide)) (cwV 1 hts gX5_observe_X5_bump rfl rfl rfl (by decide +kernel) ⟨Nat.le_of_ble_eq_true rfl, Nat.le_of_ble_eq_true rfl⟩) hK hN hP hD hS [0, 2] rfl rfl 0 rfl rfl rfl hl.1 rfl (Nat.le_of_ble_eq_true rfl) dX5_observe_167 ⟨Nat.le_of_ble_eq_true rfl, Nat.le_of_ble_eq_true rfl⟩ (fun v_6 w_6 H locs hr_6 hP hD hS => ?_)
                      obtain ⟨rfl, rfl⟩ := hr_6
                      refine W.eq (g2 := F0 zm 170 ls []) rfl ?_
                      have hP : va_P D vwCl [(mo, .inr (5, [.int (nI n), .ref vk, .ref vc, .ref vt, .ref vn, .ref vr, .ref vs, .ref ve, .ref vp])), (vk, .inl (cI, 160, .inl f)), (vc, .inl (cI, 8, .inl (bmp kc 3)))] _ := hP
                      have hD : va_D (inW [(mo, .inr (5, [.int (nI n), .ref vk, .ref vc, .ref vt, .ref vn, .ref vr, .ref vs, .ref ve, .ref vp])), (vk, .inl (cI, 160, .inl f)), (vc, .inl (cI, 8, .inl kc))]) [(mo, .inr (5, [.int (nI n), .ref vk, .ref vc, .ref vt, .ref vn, .ref vr, .ref vs, .ref ve, .ref vp])), (vk, .inl (cI, 160, .inl f)), (vc, .inl (cI, 8, .inl (bmp kc 3)))] := hD
                      exact W.vret hx hb hr (fun tz htz hWz => ⟨none, [(mo, .inr (5, [.int (nI n), .ref vk, .ref vc, .ref vt, .ref vn, .ref vr, .ref vs, .ref ve, .ref vp])), (vk, .inl (cI, 160, .inl f)), (vc, .inl (cI, 8, .inl (bmp kc 3)))], rfl, ⟨rfl, rfl⟩, rfl, by rw [htz]; exact hP, hS.F htz⟩) (fun q h => hS.2.2 q h) dX5_observe_170
                  · omega
                · omega
              · skip
                refine lv_iconst (v := nI 1) hx hb dX5_observe_88 (by decide) ?_
                refine lv_goto (tgt := 93) hx hb dX5_observe_89 (by decide) ?_
                refine lv_istore (lv' := [(6, .int (nI 1)), (5, .int (nI (nG bs))), (4, .int (nI (nS bs))), (3, .int (nI (num bs 0 12))), (2, .int (nI (8 * len))), (0, .ref mo), (1, .int (nI len))]) hx hb dX5_observe_93 hl (by decide) rfl (fun ls hl => ?_)
                refine lv_iload hx hb dX5_observe_95 (lv_at hl 0 rfl) ?_
                refine rz_eq (tgt := 114) hx hb dX5_observe_97 (by decide) (by omega) (fun c_97 => ?_) (fun c_97 => ?_)
                · omega
                · skip
                  refine lv_aload_n hx hb dX5_observe_100 rfl (lv_at hl 5 rfl) ?_
                  refine lv_bipush (v := nI 75) hx hb dX5_observe_101 (by decide) ?_
                  refine lv_iload hx hb dX5_observe_103 (lv_at hl 2 rfl) ?_
                  refine lv_iload hx hb dX5_observe_105 (lv_at hl 1 rfl) ?_
                  refine lv_imul hx hb dX5_observe_107 ?_
                  refine r_i (v := nI ((nS bs) * (nG bs))) (pk_mul _ _) ?_
                  refine r_callVi (As := [.int (nI 75), .int (nI ((nS bs) * (nG bs)))]) (rest := []) ⟨hx, hb, hml, hown, hts⟩ (c_X5_ones (zl := zl) (D := D) (cI := cI) (cD := cD) mo n vk vc vt vn vr vs ve vp f bs 75 ((nS bs) * (nG bs)) (by first | assumption | omega) (by first | assumption | omega) (by first | assumption | omega) (by first | assumption | omega) (by omega) (by omega)) (cwV 2 hts gX5_observe_X5_ones rfl rfl rfl (by decide +kernel) ⟨Nat.le_of_ble_eq_true rfl, Nat.le_of_ble_eq_true rfl⟩) hK hN hP hD [0, 1] rfl rfl 0 rfl rfl rfl hl.1 rfl (Nat.le_of_ble_eq_true rfl) dX5_observe_108 ⟨Nat.le_of_ble_eq_true rfl, Nat.le_of_ble_eq_true rfl⟩ (fun r_7 h_7 => ?_)
                  obtain rfl := h_7
                  refine lv_goto (tgt := 115) hx hb dX5_observe_111 (by decide) ?_
                  refine r_i (v := nI (nC bs)) (rfl) ?_
                  refine lv_istore (lv' := [(7, .int (nI (nC bs))), (6, .int (nI 1)), (5, .int (nI (nG bs))), (4, .int (nI (nS bs))), (3, .int (nI (num bs 0 12))), (2, .int (nI (8 * len))), (0, .ref mo), (1, .int (nI len))]) hx hb dX5_observe_115 hl (by decide) rfl (fun ls hl => ?_)
                  refine lv_iload hx hb dX5_observe_117 (lv_at hl 1 rfl) ?_
                  refine rz_eq (tgt := 157) hx hb dX5_observe_119 (by decide) (by omega) (fun c_119 => ?_) (fun c_119 => ?_)
                  · omega
                  · skip
                    refine lv_iload hx hb dX5_observe_122 (lv_at hl 0 rfl) ?_
                    refine lv_bipush (v := nI 16) hx hb dX5_observe_124 (by decide) ?_
                    refine rn_gt (tgt := 157) hx hb dX5_observe_126 (by decide) (by omega) (by omega) (fun c_126 => ?_) (fun c_126 => ?_)
                    · skip
                      refine lv_iconst (v := nI 0) hx hb dX5_observe_157 (by decide) ?_
                      refine lv_istore (lv' := [(6, .int (nI 0)), (7, .int (nI (nC bs))), (5, .int (nI (nG bs))), (4, .int (nI (nS bs))), (3, .int (nI (num bs 0 12))), (2, .int (nI (8 * len))), (0, .ref mo), (1, .int (nI len))]) hx hb dX5_observe_158 hl (by decide) rfl (fun ls hl => ?_)
                      refine lv_iload hx hb dX5_observe_160 (lv_at hl 0 rfl) ?_
                      refine rz_ne (tgt := 171) hx hb dX5_observe_162 (by decide) (by omega) (fun c_162 => ?_) (fun c_162 => ?_)
                      · omega
                      · skip
                        refine lv_aload_n hx hb dX5_observe_165 rfl (lv_at hl 6 rfl) ?_
                        refine lv_iconst (v := nI 3) hx hb dX5_observe_166 (by decide) ?_
                        refine x_callV (As := [.int (nI 3)]) (rest := []) ⟨hx, hb, hml, hown, hts⟩ (c_X5_bump (zl := zl) (D := D) (cI := cI) (cD := cD) mo n vk vc vt vn vr vs ve vp kc 3 (by decide)) (cwV 1 hts gX5_observe_X5_bump rfl rfl rfl (by decide +kernel) ⟨Nat.le_of_ble_eq_true rfl, Nat.le_of_ble_eq_true rfl⟩) hK hN hP hD hS [0, 2] rfl rfl 0 rfl rfl rfl hl.1 rfl (Nat.le_of_ble_eq_true rfl) dX5_observe_167 ⟨Nat.le_of_ble_eq_true rfl, Nat.le_of_ble_eq_true rfl⟩ (fun v_8 w_8 H locs hr_8 hP hD hS => ?_)
                        obtain ⟨rfl, rfl⟩ := hr_8
                        refine W.eq (g2 := F0 zm 170 ls []) rfl ?_
                        have hP : va_P D vwCl [(mo, .inr (5, [.int (nI n), .ref vk, .ref vc, .ref vt, .ref vn, .ref vr, .ref vs, .ref ve, .ref vp])), (vk, .inl (cI, 160, .inl f)), (vc, .inl (cI, 8, .inl (bmp kc 3)))] _ := hP
                        have hD : va_D (inW [(mo, .inr (5, [.int (nI n), .ref vk, .ref vc, .ref vt, .ref vn, .ref vr, .ref vs, .ref ve, .ref vp])), (vk, .inl (cI, 160, .inl f)), (vc, .inl (cI, 8, .inl kc))]) [(mo, .inr (5, [.int (nI n), .ref vk, .ref vc, .ref vt, .ref vn, .ref vr, .ref vs, .ref ve, .ref vp])), (vk, .inl (cI, 160, .inl f)), (vc, .inl (cI, 8, .inl (bmp kc 3)))] := hD
                        exact W.vret hx hb hr (fun tz htz hWz => ⟨none, [(mo, .inr (5, [.int (nI n), .ref vk, .ref vc, .ref vt, .ref vn, .ref vr, .ref vs, .ref ve, .ref vp])), (vk, .inl (cI, 160, .inl f)), (vc, .inl (cI, 8, .inl (bmp kc 3)))], rfl, ⟨rfl, rfl⟩, rfl, by rw [htz]; exact hP, hS.F htz⟩) (fun q h => hS.2.2 q h) dX5_observe_170
                    · skip
                      refine lv_iload_n hx hb dX5_observe_129 rfl (lv_at hl 5 rfl) ?_
                      refine lv_bipush (v := nI 75) hx hb dX5_observe_130 (by decide) ?_
                      refine lv_iload hx hb dX5_observe_132 (lv_at hl 3 rfl) ?_
                      refine lv_iload hx hb dX5_observe_134 (lv_at hl 2 rfl) ?_
                      refine lv_imul hx hb dX5_observe_136 ?_
                      refine r_i (v := nI ((nS bs) * (nG bs))) (pk_mul _ _) ?_
                      refine lv_iadd hx hb dX5_observe_137 ?_
                      refine r_i (v := nI (75 + ((nS bs) * (nG bs)))) (nI_add _ _) ?_
                      refine lv_bipush (v := nI 18) hx hb dX5_observe_138 (by decide) ?_
                      refine lv_iload hx hb dX5_observe_140 (lv_at hl 3 rfl) ?_
                      refine lv_imul hx hb dX5_observe_142 ?_
                      refine r_i (v := nI (18 * (nS bs))) (pk_mul _ _) ?_
                      refine lv_iadd hx hb dX5_observe_143 ?_
                      refine r_i (v := nI (75 + ((nS bs) * (nG bs)) + (18 * (nS bs)))) (nI_add _ _) ?_
                      refine lv_bipush (v := nI 21) hx hb dX5_observe_144 (by decide) ?_
                      refine lv_iload hx hb dX5_observe_146 (lv_at hl 0 rfl) ?_
                      refine lv_imul hx hb dX5_observe_148 ?_
                      refine r_i (v := nI (21 * (nC bs))) (pk_mul _ _) ?_
                      refine lv_iadd hx hb dX5_observe_149 ?_
                      refine r_i (v := nI (75 + ((nS bs) * (nG bs)) + (18 * (nS bs)) + (21 * (nC bs)))) (nI_add _ _) ?_
                      refine rn_lt (tgt := 157) hx hb dX5_observe_150 (by decide) (by omega) (by omega) (fun c_150 => ?_) (fun c_150 => ?_)
                      · skip
                        refine lv_iconst (v := nI 0) hx hb dX5_observe_157 (by decide) ?_
                        refine lv_istore (lv' := [(6, .int (nI 0)), (7, .int (nI (nC bs))), (5, .int (nI (nG bs))), (4, .int (nI (nS bs))), (3, .int (nI (num bs 0 12))), (2, .int (nI (8 * len))), (0, .ref mo), (1, .int (nI len))]) hx hb dX5_observe_158 hl (by decide) rfl (fun ls hl => ?_)
                        refine lv_iload hx hb dX5_observe_160 (lv_at hl 0 rfl) ?_
                        refine rz_ne (tgt := 171) hx hb dX5_observe_162 (by decide) (by omega) (fun c_162 => ?_) (fun c_162 => ?_)
                        · omega
                        · skip
                          refine lv_aload_n hx hb dX5_observe_165 rfl (lv_at hl 6 rfl) ?_
                          refine lv_iconst (v := nI 3) hx hb dX5_observe_166 (by decide) ?_
                          refine x_callV (As := [.int (nI 3)]) (rest := []) ⟨hx, hb, hml, hown, hts⟩ (c_X5_bump (zl := zl) (D := D) (cI := cI) (cD := cD) mo n vk vc vt vn vr vs ve vp kc 3 (by decide)) (cwV 1 hts gX5_observe_X5_bump rfl rfl rfl (by decide +kernel) ⟨Nat.le_of_ble_eq_true rfl, Nat.le_of_ble_eq_true rfl⟩) hK hN hP hD hS [0, 2] rfl rfl 0 rfl rfl rfl hl.1 rfl (Nat.le_of_ble_eq_true rfl) dX5_observe_167 ⟨Nat.le_of_ble_eq_true rfl, Nat.le_of_ble_eq_true rfl⟩ (fun v_9 w_9 H locs hr_9 hP hD hS => ?_)
                          obtain ⟨rfl, rfl⟩ := hr_9
                          refine W.eq (g2 := F0 zm 170 ls []) rfl ?_
                          have hP : va_P D vwCl [(mo, .inr (5, [.int (nI n), .ref vk, .ref vc, .ref vt, .ref vn, .ref vr, .ref vs, .ref ve, .ref vp])), (vk, .inl (cI, 160, .inl f)), (vc, .inl (cI, 8, .inl (bmp kc 3)))] _ := hP
                          have hD : va_D (inW [(mo, .inr (5, [.int (nI n), .ref vk, .ref vc, .ref vt, .ref vn, .ref vr, .ref vs, .ref ve, .ref vp])), (vk, .inl (cI, 160, .inl f)), (vc, .inl (cI, 8, .inl kc))]) [(mo, .inr (5, [.int (nI n), .ref vk, .ref vc, .ref vt, .ref vn, .ref vr, .ref vs, .ref ve, .ref vp])), (vk, .inl (cI, 160, .inl f)), (vc, .inl (cI, 8, .inl (bmp kc 3)))] := hD
                          exact W.vret hx hb hr (fun tz htz hWz => ⟨none, [(mo, .inr (5, [.int (nI n), .ref vk, .ref vc, .ref vt, .ref vn, .ref vr, .ref vs, .ref ve, .ref vp])), (vk, .inl (cI, 160, .inl f)), (vc, .inl (cI, 8, .inl (bmp kc 3)))], rfl, ⟨rfl, rfl⟩, rfl, by rw [htz]; exact hP, hS.F htz⟩) (fun q h => hS.2.2 q h) dX5_observe_170
                      · exact absurd (show isObs bs len from ⟨by omega, ⟨by omega, by omega⟩, by omega, by omega, by omega⟩) hob
  · skip
    refine lv_iload_n hx hb dX5_observe_5 rfl (lv_at hl 0 rfl) ?_
    refine lv_bipush (v := nI 75) hx hb dX5_observe_6 (by decide) ?_
    refine rn_lt (tgt := 21) hx hb dX5_observe_8 (by decide) (by omega) (by omega) (fun c_8 => ?_) (fun c_8 => ?_)
    · skip
      refine lv_iconst (v := nI 0) hx hb dX5_observe_21 (by decide) ?_
      refine lv_istore_n (lv' := [(3, .int (nI 0)), (2, .int (nI (8 * len))), (0, .ref mo), (1, .int (nI len))]) hx hb dX5_observe_22 rfl hl (by decide) rfl (fun ls hl => ?_)
      refine lv_iload_n hx hb dX5_observe_23 rfl (lv_at hl 1 rfl) ?_
      refine lv_bipush (v := nI 75) hx hb dX5_observe_24 (by decide) ?_
      refine rn_lt (tgt := 40) hx hb dX5_observe_26 (by decide) (by omega) (by omega) (fun c_26 => ?_) (fun c_26 => ?_)
      · skip
        refine lv_iconst (v := nI 0) hx hb dX5_observe_40 (by decide) ?_
        refine lv_istore (lv' := [(4, .int (nI 0)), (3, .int (nI 0)), (2, .int (nI (8 * len))), (0, .ref mo), (1, .int (nI len))]) hx hb dX5_observe_41 hl (by decide) rfl (fun ls hl => ?_)
        refine lv_iload_n hx hb dX5_observe_43 rfl (lv_at hl 2 rfl) ?_
        refine lv_bipush (v := nI 75) hx hb dX5_observe_44 (by decide) ?_
        refine rn_lt (tgt := 59) hx hb dX5_observe_46 (by decide) (by omega) (by omega) (fun c_46 => ?_) (fun c_46 => ?_)
        · skip
          refine lv_iconst (v := nI 0) hx hb dX5_observe_59 (by decide) ?_
          refine lv_istore (lv' := [(5, .int (nI 0)), (4, .int (nI 0)), (3, .int (nI 0)), (2, .int (nI (8 * len))), (0, .ref mo), (1, .int (nI len))]) hx hb dX5_observe_60 hl (by decide) rfl (fun ls hl => ?_)
          refine lv_iload_n hx hb dX5_observe_62 rfl (lv_at hl 2 rfl) ?_
          refine lv_sipush (v := nI 1000) hx hb dX5_observe_63 (by decide) ?_
          refine rn_lt (tgt := 92) hx hb dX5_observe_66 (by decide) (by omega) (by omega) (fun c_66 => ?_) (fun c_66 => ?_)
          · skip
            refine lv_iconst (v := nI 0) hx hb dX5_observe_92 (by decide) ?_
            refine lv_istore (lv' := [(6, .int (nI 0)), (5, .int (nI 0)), (4, .int (nI 0)), (3, .int (nI 0)), (2, .int (nI (8 * len))), (0, .ref mo), (1, .int (nI len))]) hx hb dX5_observe_93 hl (by decide) rfl (fun ls hl => ?_)
            refine lv_iload hx hb dX5_observe_95 (lv_at hl 0 rfl) ?_
            refine rz_eq (tgt := 114) hx hb dX5_observe_97 (by decide) (by omega) (fun c_97 => ?_) (fun c_97 => ?_)
            · skip
              refine lv_iconst (v := nI 0) hx hb dX5_observe_114 (by decide) ?_
              refine lv_istore (lv' := [(7, .int (nI 0)), (6, .int (nI 0)), (5, .int (nI 0)), (4, .int (nI 0)), (3, .int (nI 0)), (2, .int (nI (8 * len))), (0, .ref mo), (1, .int (nI len))]) hx hb dX5_observe_115 hl (by decide) rfl (fun ls hl => ?_)
              refine lv_iload hx hb dX5_observe_117 (lv_at hl 1 rfl) ?_
              refine rz_eq (tgt := 157) hx hb dX5_observe_119 (by decide) (by omega) (fun c_119 => ?_) (fun c_119 => ?_)
              · skip
                refine lv_iconst (v := nI 0) hx hb dX5_observe_157 (by decide) ?_
                refine lv_istore (lv' := [(6, .int (nI 0)), (7, .int (nI 0)), (5, .int (nI 0)), (4, .int (nI 0)), (3, .int (nI 0)), (2, .int (nI (8 * len))), (0, .ref mo), (1, .int (nI len))]) hx hb dX5_observe_158 hl (by decide) rfl (fun ls hl => ?_)
                refine lv_iload hx hb dX5_observe_160 (lv_at hl 0 rfl) ?_
                refine rz_ne (tgt := 171) hx hb dX5_observe_162 (by decide) (by omega) (fun c_162 => ?_) (fun c_162 => ?_)
                · omega
                · skip
                  refine lv_aload_n hx hb dX5_observe_165 rfl (lv_at hl 6 rfl) ?_
                  refine lv_iconst (v := nI 3) hx hb dX5_observe_166 (by decide) ?_
                  refine x_callV (As := [.int (nI 3)]) (rest := []) ⟨hx, hb, hml, hown, hts⟩ (c_X5_bump (zl := zl) (D := D) (cI := cI) (cD := cD) mo n vk vc vt vn vr vs ve vp kc 3 (by decide)) (cwV 1 hts gX5_observe_X5_bump rfl rfl rfl (by decide +kernel) ⟨Nat.le_of_ble_eq_true rfl, Nat.le_of_ble_eq_true rfl⟩) hK hN hP hD hS [0, 2] rfl rfl 0 rfl rfl rfl hl.1 rfl (Nat.le_of_ble_eq_true rfl) dX5_observe_167 ⟨Nat.le_of_ble_eq_true rfl, Nat.le_of_ble_eq_true rfl⟩ (fun v_10 w_10 H locs hr_10 hP hD hS => ?_)
                  obtain ⟨rfl, rfl⟩ := hr_10
                  refine W.eq (g2 := F0 zm 170 ls []) rfl ?_
                  have hP : va_P D vwCl [(mo, .inr (5, [.int (nI n), .ref vk, .ref vc, .ref vt, .ref vn, .ref vr, .ref vs, .ref ve, .ref vp])), (vk, .inl (cI, 160, .inl f)), (vc, .inl (cI, 8, .inl (bmp kc 3)))] _ := hP
                  have hD : va_D (inW [(mo, .inr (5, [.int (nI n), .ref vk, .ref vc, .ref vt, .ref vn, .ref vr, .ref vs, .ref ve, .ref vp])), (vk, .inl (cI, 160, .inl f)), (vc, .inl (cI, 8, .inl kc))]) [(mo, .inr (5, [.int (nI n), .ref vk, .ref vc, .ref vt, .ref vn, .ref vr, .ref vs, .ref ve, .ref vp])), (vk, .inl (cI, 160, .inl f)), (vc, .inl (cI, 8, .inl (bmp kc 3)))] := hD
                  exact W.vret hx hb hr (fun tz htz hWz => ⟨none, [(mo, .inr (5, [.int (nI n), .ref vk, .ref vc, .ref vt, .ref vn, .ref vr, .ref vs, .ref ve, .ref vp])), (vk, .inl (cI, 160, .inl f)), (vc, .inl (cI, 8, .inl (bmp kc 3)))], rfl, ⟨rfl, rfl⟩, rfl, by rw [htz]; exact hP, hS.F htz⟩) (fun q h => hS.2.2 q h) dX5_observe_170
              · omega
            · omega
          · omega
        · omega
      · omega
    · omega
