set_option maxHeartbeats 4000000 in
set_option maxRecDepth 100000 in
/-- one byte on, by the table -/
theorem c_X5_longer {zl : Launch} {D : va_G} {cI cD : ClassId} (mo : Nat) (n : Nat) (vk : Nat) (vc : Nat) (vt : Nat) (vn : Nat) (vr : Nat) (vs : Nat) (ve : Nat) (vp : Nat) (tb : Nat → Int32) (c : Nat) (b : Nat) (hT : Tb tb) (hc : c < 16777216) (hb0 : b < 256) : Ci zl yX5_longer wsX5_longer ({ frames := 0, cells := 0, slots := 0, locals := 0 }) D cI cD [.ref mo, .int (nI c), .int (nI b)] [(mo, .inr (5, [.int (nI n), .ref vk, .ref vc, .ref vt, .ref vn, .ref vr, .ref vs, .ref ve, .ref vp])), (vt, .inl (cI, 256, .inl tb))] (fun r => r = nI (ckB c b)) := by
  refine Met.ofW (cc := cX5_longer) (maxL := 3) (ret := (some .int)) (by decide) rfl ?_
  intro zp ze zs zm zargs zb zt zc zs₁ B hml hv
  obtain ⟨rfl, hP, hK, hD0, hN⟩ := hv
  have hx := B.exec
  have hb := B.bytes
  have hr := B.returns
  have hts := atoms_spec (ws := wsX5_longer) B.pre
  have hown : zs.vm.findClass RX5 = some zm.cls := findClass_of_methodNamed B.named
  have hlocks := B.notSynchronized
  have hD := inW_self hD0
  have hS : va_S (inW [(mo, .inr (5, [.int (nI n), .ref vk, .ref vc, .ref vt, .ref vn, .ref vr, .ref vs, .ref ve, .ref vp])), (vt, .inl (cI, 256, .inl tb))]) zs.heap zs.heap [] := va_S.rf
  have hl := lv_entry [.ref mo, .int (nI c), .int (nI b)] (n := 3) (Nat.le_of_ble_eq_true rfl)
  rw [lg_entry_eq]
  generalize (lg_sl [.ref mo, .int (nI c), .int (nI b)] ++ List.replicate (3 - (lg_sl [.ref mo, .int (nI c), .int (nI b)]).length) Slot.unset).toArray = ls at hl ⊢
  have hl : lv_has ls 3 [(0, .ref mo), (1, .int (nI c)), (2, .int (nI b))] := hl
  have hin5 : ∀ w ∈ u_ws RX5 TX5 9, w ∈ wsX5_longer := by decide +kernel
  have hx8 := xor8 hc hb0
  refine lv_iload_n hx hb dX5_longer_0 rfl (lv_at hl 1 rfl) ?_
  refine lv_ldc (v := 65536) hx hb hown (hts (.constant RX5 35 (65536)) (by decide +kernel)) dX5_longer_1 ?_
  refine r_i (v := nI 65536) (by decide) ?_
  refine lv_irem hx hb dX5_longer_3 (nI_ne0 (by omega) (by omega)) ?_
  refine r_i (v := nI (c % 65536)) (pk_rem (by omega) (by omega) (by omega)) ?_
  refine lv_sipush (v := nI 256) hx hb dX5_longer_4 (by decide) ?_
  refine lv_imul hx hb dX5_longer_7 ?_
  refine r_i (v := nI ((c % 65536) * 256)) (pk_mul _ _) ?_
  refine lv_aload_n hx hb dX5_longer_8 rfl (lv_at hl 0 rfl) ?_
  refine va_get (D := D) (ci := 5) (v := .ref vt) (C := RX5) (T := TX5) (N := 9) hx hb hts hin5 hown hK hP 0 rfl rfl 3 (by decide) (hts (.fieldLink RX5 16 "EpochSifterModel" "table" "[I") (by decide +kernel)) (fun _ h9 => h9) rfl dX5_longer_9 ?_
  refine lv_iload_n hx hb dX5_longer_12 rfl (lv_at hl 1 rfl) ?_
  refine lv_ldc (v := 65536) hx hb hown (hts (.constant RX5 35 (65536)) (by decide +kernel)) dX5_longer_13 ?_
  refine r_i (v := nI 65536) (by decide) ?_
  refine lv_idiv hx hb dX5_longer_15 (nI_ne0 (by omega) (by omega)) ?_
  refine r_i (v := nI (c / 65536)) (pk_div (by omega) (by omega) (by omega)) ?_
  refine lv_iload_n hx hb dX5_longer_16 rfl (lv_at hl 2 rfl) ?_
  refine lv_ixor hx hb dX5_longer_17 ?_
  refine r_i (v := nI (c / 65536 ^^^ b)) (nx_xor _ _) ?_
  refine a_ild (v := nI (ckI 8 ((c / 65536 ^^^ b) * 65536))) hx hb hK hP 1 0 rfl rfl (hx8) (by decide) (hT _ hx8) dX5_longer_18 ?_
  refine lv_ixor hx hb dX5_longer_19 ?_
  refine r_i (v := nI (ckB c b)) (tab_x hc hb0) ?_
  exact W.iret (v := nI (ckB c b)) hx hb hr (fun tz htz hWz => ⟨_, rfl, by first | rfl | assumption | omega | simp_all, htz⟩) (fun _ h => absurd h List.not_mem_nil) dX5_longer_20
set_option maxHeartbeats 4000000 in
set_option maxRecDepth 100000 in
/-- a long frame's check -/
theorem c_X5_isLongRight {zl : Launch} {D : va_G} {cI cD : ClassId} (mo : Nat) (n : Nat) (vk : Nat) (vc : Nat) (vt : Nat) (vn : Nat) (vr : Nat) (vs : Nat) (ve : Nat) (vp : Nat) (f : Nat → Int32) (tb : Nat → Int32) (bs : List Nat) (m : Nat) (hf : Rp f bs) (hbn : bs.length = n) (hn : n ≤ 160) (hB : By bs) (hT : Tb tb) (hm : 6 ≤ m ∧ m ≤ n) : Ci zl yX5_isLongRight wsX5_isLongRight ({ frames := 1, cells := 0, slots := 0, locals := 22 }) D cI cD [.ref mo, .int (nI m)] [(mo, .inr (5, [.int (nI n), .ref vk, .ref vc, .ref vt, .ref vn, .ref vr, .ref vs, .ref ve, .ref vp])), (vk, .inl (cI, 160, .inl f)), (vt, .inl (cI, 256, .inl tb))] (fun r => r = nI (tf (lok bs m))) := by
  refine Met.ofW (cc := cX5_isLongRight) (maxL := 4) (ret := (some .boolean)) (by decide) rfl ?_
  intro zp ze zs zm zargs zb zt zc zs₁ B hml hv
  obtain ⟨rfl, hP, hK, hD0, hN⟩ := hv
  have hx := B.exec
  have hb := B.bytes
  have hr := B.returns
  have hts := atoms_spec (ws := wsX5_isLongRight) B.pre
  have hown : zs.vm.findClass RX5 = some zm.cls := findClass_of_methodNamed B.named
  have hlocks := B.notSynchronized
  have hD := inW_self hD0
  have hS : va_S (inW [(mo, .inr (5, [.int (nI n), .ref vk, .ref vc, .ref vt, .ref vn, .ref vr, .ref vs, .ref ve, .ref vp])), (vk, .inl (cI, 160, .inl f)), (vt, .inl (cI, 256, .inl tb))]) zs.heap zs.heap [] := va_S.rf
  have hl := lv_entry [.ref mo, .int (nI m)] (n := 4) (Nat.le_of_ble_eq_true rfl)
  rw [lg_entry_eq]
  generalize (lg_sl [.ref mo, .int (nI m)] ++ List.replicate (4 - (lg_sl [.ref mo, .int (nI m)]).length) Slot.unset).toArray = ls at hl ⊢
  have hl : lv_has ls 4 [(0, .ref mo), (1, .int (nI m))] := hl
  have hin5 : ∀ w ∈ u_ws RX5 TX5 9, w ∈ wsX5_isLongRight := by decide +kernel
  have b0 := hB (m - 3)
  have b1 := hB (m - 2)
  have b2 := hB (m - 1)
  have cuts : ∀ fuel : Nat, (∀ (j : Nat), (j ≤ m - 3) → (m - j) < fuel → ∀ (ls : Array Slot), lv_has ls 4 [(0, .ref mo), (1, .int (nI m)), (2, .int (nI (crc bs j))), (3, .int (nI j))] → W zp zl ze ({ frames := 1, cells := 0, slots := 0, locals := 22 }) zs zm [.ref mo, .int (nI m)].toArray zb zt zc zs.heap [] 0 0 (MQ zb (vp_Si (fun r => r = nI (tf (lok bs m)))) [.ref mo, .int (nI m)].toArray zs 0 0 (fun _ => False)) (F0 zm 4 ls [])) := by
    intro fuel
    induction fuel with
    | zero => exact (by intros; exact absurd (by assumption) (Nat.not_lt_zero _))
    | succ fuel ih =>
      intro j hj hm ls hl
      have hz := crc_lt hB j
      refine lv_iload_n hx hb dX5_isLongRight_4 rfl (lv_at hl 3 rfl) ?_
      refine lv_iload_n hx hb dX5_isLongRight_5 rfl (lv_at hl 1 rfl) ?_
      refine lv_iconst (v := nI 3) hx hb dX5_isLongRight_6 (by decide) ?_
      refine lv_isub hx hb dX5_isLongRight_7 ?_
      refine r_i (v := nI (m - 3)) (pk_sub (by omega)) ?_
      refine rn_ge (tgt := 29) hx hb dX5_isLongRight_8 (by decide) (by omega) (by omega) (fun c_8 => ?_) (fun c_8 => ?_)
      · skip
        obtain rfl : j = m - 3 := by omega
        refine lv_iload_n hx hb dX5_isLongRight_29 rfl (lv_at hl 2 rfl) ?_
        refine lv_ldc (v := 65536) hx hb hown (hts (.constant RX5 35 (65536)) (by decide +kernel)) dX5_isLongRight_30 ?_
        refine r_i (v := nI 65536) (by decide) ?_
        refine lv_aload_n hx hb dX5_isLongRight_32 rfl (lv_at hl 0 rfl) ?_
        refine va_get (D := D) (ci := 5) (v := .ref vk) (C := RX5) (T := TX5) (N := 9) hx hb hts hin5 hown hK hP 0 rfl rfl 1 (by decide) (hts (.fieldLink RX5 7 "EpochSifterModel" "kept" "[I") (by decide +kernel)) (fun _ h9 => h9) rfl dX5_isLongRight_33 ?_
        refine lv_iload_n hx hb dX5_isLongRight_36 rfl (lv_at hl 1 rfl) ?_
        refine lv_iconst (v := nI 3) hx hb dX5_isLongRight_37 (by decide) ?_
        refine lv_isub hx hb dX5_isLongRight_38 ?_
        refine r_i (v := nI (m - 3)) (pk_sub (by omega)) ?_
        refine a_ild (v := nI (bs.getD (m - 3) 0)) hx hb hK hP 1 0 rfl rfl (by omega) (by decide) (hf (m - 3) (by omega)) dX5_isLongRight_39 ?_
        refine lv_imul hx hb dX5_isLongRight_40 ?_
        refine r_i (v := nI (65536 * (bs.getD (m - 3) 0))) (pk_mul _ _) ?_
        refine lv_sipush (v := nI 256) hx hb dX5_isLongRight_41 (by decide) ?_
        refine lv_aload_n hx hb dX5_isLongRight_44 rfl (lv_at hl 0 rfl) ?_
        refine va_get (D := D) (ci := 5) (v := .ref vk) (C := RX5) (T := TX5) (N := 9) hx hb hts hin5 hown hK hP 0 rfl rfl 1 (by decide) (hts (.fieldLink RX5 7 "EpochSifterModel" "kept" "[I") (by decide +kernel)) (fun _ h9 => h9) rfl dX5_isLongRight_45 ?_
        refine lv_iload_n hx hb dX5_isLongRight_48 rfl (lv_at hl 1 rfl) ?_
        refine lv_iconst (v := nI 2) hx hb dX5_isLongRight_49 (by decide) ?_
        refine lv_isub hx hb dX5_isLongRight_50 ?_
        refine r_i (v := nI (m - 2)) (pk_sub (by omega)) ?_
        refine a_ild (v := nI (bs.getD (m - 2) 0)) hx hb hK hP 1 0 rfl rfl (by omega) (by decide) (hf (m - 2) (by omega)) dX5_isLongRight_51 ?_
        refine lv_imul hx hb dX5_isLongRight_52 ?_
        refine r_i (v := nI (256 * (bs.getD (m - 2) 0))) (pk_mul _ _) ?_
        refine lv_iadd hx hb dX5_isLongRight_53 ?_
        refine r_i (v := nI (65536 * (bs.getD (m - 3) 0) + (256 * (bs.getD (m - 2) 0)))) (nI_add _ _) ?_
        refine lv_aload_n hx hb dX5_isLongRight_54 rfl (lv_at hl 0 rfl) ?_
        refine va_get (D := D) (ci := 5) (v := .ref vk) (C := RX5) (T := TX5) (N := 9) hx hb hts hin5 hown hK hP 0 rfl rfl 1 (by decide) (hts (.fieldLink RX5 7 "EpochSifterModel" "kept" "[I") (by decide +kernel)) (fun _ h9 => h9) rfl dX5_isLongRight_55 ?_
        refine lv_iload_n hx hb dX5_isLongRight_58 rfl (lv_at hl 1 rfl) ?_
        refine lv_iconst (v := nI 1) hx hb dX5_isLongRight_59 (by decide) ?_
        refine lv_isub hx hb dX5_isLongRight_60 ?_
        refine r_i (v := nI (m - 1)) (pk_sub (by omega)) ?_
        refine a_ild (v := nI (bs.getD (m - 1) 0)) hx hb hK hP 1 0 rfl rfl (by omega) (by decide) (hf (m - 1) (by omega)) dX5_isLongRight_61 ?_
        refine lv_iadd hx hb dX5_isLongRight_62 ?_
        refine r_i (v := nI (65536 * (bs.getD (m - 3) 0) + (256 * (bs.getD (m - 2) 0)) + (bs.getD (m - 1) 0))) (nI_add _ _) ?_
        refine rn_ne (tgt := 70) hx hb dX5_isLongRight_63 (by decide) (by omega) (by omega) (fun c_63 => ?_) (fun c_63 => ?_)
        · skip
          refine lv_iconst (v := nI 0) hx hb dX5_isLongRight_70 (by decide) ?_
          exact W.zret (v := nI 0) hx hb hr (rfl) (fun tz htz hWz => ⟨_, rfl, by rw [tf_0 (show ¬ lok bs m from c_63)], htz⟩) (fun _ h => absurd h List.not_mem_nil) dX5_isLongRight_71
        · skip
          refine lv_iconst (v := nI 1) hx hb dX5_isLongRight_66 (by decide) ?_
          refine lv_goto (tgt := 71) hx hb dX5_isLongRight_67 (by decide) ?_
          exact W.zret (v := nI 1) hx hb hr (rfl) (fun tz htz hWz => ⟨_, rfl, by rw [tf_1 (show lok bs m from c_63)], htz⟩) (fun _ h => absurd h List.not_mem_nil) dX5_isLongRight_71
      · skip
        refine lv_aload_n hx hb dX5_isLongRight_11 rfl (lv_at hl 0 rfl) ?_
        refine lv_iload_n hx hb dX5_isLongRight_12 rfl (lv_at hl 2 rfl) ?_
        refine lv_aload_n hx hb dX5_isLongRight_13 rfl (lv_at hl 0 rfl) ?_
        refine va_get (D := D) (ci := 5) (v := .ref vk) (C := RX5) (T := TX5) (N := 9) hx hb hts hin5 hown hK hP 0 rfl rfl 1 (by decide) (hts (.fieldLink RX5 7 "EpochSifterModel" "kept" "[I") (by decide +kernel)) (fun _ h9 => h9) rfl dX5_isLongRight_14 ?_
        refine lv_iload_n hx hb dX5_isLongRight_17 rfl (lv_at hl 3 rfl) ?_
        refine a_ild (v := nI (bs.getD j 0)) hx hb hK hP 1 0 rfl rfl (by omega) (by decide) (hf j (by omega)) dX5_isLongRight_18 ?_
        refine r_callVi (As := [.int (nI (crc bs j)), .int (nI (bs.getD j 0))]) (rest := []) ⟨hx, hb, hml, hown, hts⟩ (c_X5_longer (zl := zl) (D := D) (cI := cI) (cD := cD) mo n vk vc vt vn vr vs ve vp tb (crc bs j) (bs.getD j 0) (by first | assumption | omega) hz (hB j)) (cwV 2 hts gX5_isLongRight_X5_longer rfl rfl rfl (by decide +kernel) ⟨Nat.le_of_ble_eq_true rfl, Nat.le_of_ble_eq_true rfl⟩) hK hN hP hD [0, 2] rfl rfl 0 rfl rfl rfl hl.1 rfl (Nat.le_of_ble_eq_true rfl) dX5_isLongRight_19 ⟨Nat.le_of_ble_eq_true rfl, Nat.le_of_ble_eq_true rfl⟩ (fun r_1 h_1 => ?_)
        obtain rfl := h_1
        refine r_i (v := nI (crc bs (j + 1))) (rfl) ?_
        refine lv_istore_n (lv' := [(2, .int (nI (crc bs (j + 1)))), (0, .ref mo), (1, .int (nI m)), (3, .int (nI j))]) hx hb dX5_isLongRight_22 rfl hl (by decide) rfl (fun ls hl => ?_)
        refine lv_iinc (v := nI (j + 1)) (lv' := [(3, .int (nI (j + 1))), (2, .int (nI (crc bs (j + 1)))), (0, .ref mo), (1, .int (nI m))]) hx hb dX5_isLongRight_23 hl (k := 3) rfl (nI_add _ _) (by decide) rfl (fun ls hl => ?_)
        refine lv_goto (tgt := 4) hx hb dX5_isLongRight_26 (by decide) ?_
        exact ih (j + 1) (by first | assumption | omega) (by omega) ls (lv_sub hl [2, 3, 1, 0] rfl)
  refine lv_iconst (v := nI 0) hx hb dX5_isLongRight_0 (by decide) ?_
  refine lv_istore_n (lv' := [(2, .int (nI 0)), (0, .ref mo), (1, .int (nI m))]) hx hb dX5_isLongRight_1 rfl hl (by decide) rfl (fun ls hl => ?_)
  refine lv_iconst (v := nI 0) hx hb dX5_isLongRight_2 (by decide) ?_
  refine lv_istore_n (lv' := [(3, .int (nI 0)), (2, .int (nI 0)), (0, .ref mo), (1, .int (nI m))]) hx hb dX5_isLongRight_3 rfl hl (by decide) rfl (fun ls hl => ?_)
  exact (cuts _) 0 (by first | assumption | omega) (Nat.lt_succ_self _) ls (lv_sub hl [2, 3, 1, 0] rfl)
set_option maxHeartbeats 4000000 in
set_option maxRecDepth 100000 in
/-- a short frame's sums -/
theorem c_X5_isShortRight {zl : Launch} {D : va_G} {cI cD : ClassId} (mo : Nat) (n : Nat) (vk : Nat) (vc : Nat) (vt : Nat) (vn : Nat) (vr : Nat) (vs : Nat) (ve : Nat) (vp : Nat) (f : Nat → Int32) (bs : List Nat) (m : Nat) (hf : Rp f bs) (hbn : bs.length = n) (hn : n ≤ 160) (hB : By bs) (hm : 8 ≤ m ∧ m ≤ n) : Ci zl yX5_isShortRight wsX5_isShortRight ({ frames := 0, cells := 0, slots := 0, locals := 0 }) D cI cD [.ref mo, .int (nI m)] [(mo, .inr (5, [.int (nI n), .ref vk, .ref vc, .ref vt, .ref vn, .ref vr, .ref vs, .ref ve, .ref vp])), (vk, .inl (cI, 160, .inl f))] (fun r => r = nI (tf (sok bs m))) := by
  refine Met.ofW (cc := cX5_isShortRight) (maxL := 5) (ret := (some .boolean)) (by decide) rfl ?_
  intro zp ze zs zm zargs zb zt zc zs₁ B hml hv
  obtain ⟨rfl, hP, hK, hD0, hN⟩ := hv
  have hx := B.exec
  have hb := B.bytes
  have hr := B.returns
  have hts := atoms_spec (ws := wsX5_isShortRight) B.pre
  have hown : zs.vm.findClass RX5 = some zm.cls := findClass_of_methodNamed B.named
  have hlocks := B.notSynchronized
  have hD := inW_self hD0
  have hS : va_S (inW [(mo, .inr (5, [.int (nI n), .ref vk, .ref vc, .ref vt, .ref vn, .ref vr, .ref vs, .ref ve, .ref vp])), (vk, .inl (cI, 160, .inl f))]) zs.heap zs.heap [] := va_S.rf
  have hl := lv_entry [.ref mo, .int (nI m)] (n := 5) (Nat.le_of_ble_eq_true rfl)
  rw [lg_entry_eq]
  generalize (lg_sl [.ref mo, .int (nI m)] ++ List.replicate (5 - (lg_sl [.ref mo, .int (nI m)]).length) Slot.unset).toArray = ls at hl ⊢
  have hl : lv_has ls 5 [(0, .ref mo), (1, .int (nI m))] := hl
  have hin5 : ∀ w ∈ u_ws RX5 TX5 9, w ∈ wsX5_isShortRight := by decide +kernel
  have b1 := hB (m - 2)
  have b2 := hB (m - 1)
  have cuts : ∀ fuel : Nat, (∀ (j : Nat), (j ≤ m - 4) → (m - j) < fuel → ∀ (ls : Array Slot), lv_has ls 5 [(0, .ref mo), (1, .int (nI m)), (2, .int (nI (sx bs j))), (3, .int (nI (sy bs j))), (4, .int (nI (2 + j)))] → W zp zl ze ({ frames := 0, cells := 0, slots := 0, locals := 0 }) zs zm [.ref mo, .int (nI m)].toArray zb zt zc zs.heap [] 0 0 (MQ zb (vp_Si (fun r => r = nI (tf (sok bs m)))) [.ref mo, .int (nI m)].toArray zs 0 0 (fun _ => False)) (F0 zm 7 ls [])) := by
    intro fuel
    induction fuel with
    | zero => exact (by intros; exact absurd (by assumption) (Nat.not_lt_zero _))
    | succ fuel ih =>
      intro j hj hm ls hl
      have hz1 := sx_le hB j
      have hz2 := sy_le hB j
      have hz3 : 256 * j * j ≤ 256 * 200 * 200 := Nat.mul_le_mul (Nat.mul_le_mul_left _ (by omega)) (by omega)
      have hz4 := sx_le hB (j + 1)
      refine lv_iload hx hb dX5_isShortRight_7 (lv_at hl 4 rfl) ?_
      refine lv_iload_n hx hb dX5_isShortRight_9 rfl (lv_at hl 1 rfl) ?_
      refine lv_iconst (v := nI 2) hx hb dX5_isShortRight_10 (by decide) ?_
      refine lv_isub hx hb dX5_isShortRight_11 ?_
      refine r_i (v := nI (m - 2)) (pk_sub (by omega)) ?_
      refine rn_ge (tgt := 35) hx hb dX5_isShortRight_12 (by decide) (by omega) (by omega) (fun c_12 => ?_) (fun c_12 => ?_)
      · skip
        obtain rfl : j = m - 4 := by omega
        refine lv_iload_n hx hb dX5_isShortRight_35 rfl (lv_at hl 2 rfl) ?_
        refine lv_sipush (v := nI 256) hx hb dX5_isShortRight_36 (by decide) ?_
        refine lv_irem hx hb dX5_isShortRight_39 (nI_ne0 (by omega) (by omega)) ?_
        refine r_i (v := nI ((sx bs (m - 4)) % 256)) (pk_rem (by omega) (by omega) (by omega)) ?_
        refine lv_aload_n hx hb dX5_isShortRight_40 rfl (lv_at hl 0 rfl) ?_
        refine va_get (D := D) (ci := 5) (v := .ref vk) (C := RX5) (T := TX5) (N := 9) hx hb hts hin5 hown hK hP 0 rfl rfl 1 (by decide) (hts (.fieldLink RX5 7 "EpochSifterModel" "kept" "[I") (by decide +kernel)) (fun _ h9 => h9) rfl dX5_isShortRight_41 ?_
        refine lv_iload_n hx hb dX5_isShortRight_44 rfl (lv_at hl 1 rfl) ?_
        refine lv_iconst (v := nI 2) hx hb dX5_isShortRight_45 (by decide) ?_
        refine lv_isub hx hb dX5_isShortRight_46 ?_
        refine r_i (v := nI (m - 2)) (pk_sub (by omega)) ?_
        refine a_ild (v := nI (bs.getD (m - 2) 0)) hx hb hK hP 1 0 rfl rfl (by omega) (by decide) (hf (m - 2) (by omega)) dX5_isShortRight_47 ?_
        refine rn_ne (tgt := 71) hx hb dX5_isShortRight_48 (by decide) (by omega) (by omega) (fun c_48 => ?_) (fun c_48 => ?_)
        · skip
          refine lv_iconst (v := nI 0) hx hb dX5_isShortRight_71 (by decide) ?_
          exact W.zret (v := nI 0) hx hb hr (rfl) (fun tz htz hWz => ⟨_, rfl, by rw [tf_0 (fun z => by first | exact c_48 z.1 | exact c_64 z.2)], htz⟩) (fun _ h => absurd h List.not_mem_nil) dX5_isShortRight_72
        · skip
          refine lv_iload_n hx hb dX5_isShortRight_51 rfl (lv_at hl 3 rfl) ?_
          refine lv_sipush (v := nI 256) hx hb dX5_isShortRight_52 (by decide) ?_
          refine lv_irem hx hb dX5_isShortRight_55 (nI_ne0 (by omega) (by omega)) ?_
          refine r_i (v := nI ((sy bs (m - 4)) % 256)) (pk_rem (by omega) (by omega) (by omega)) ?_
          refine lv_aload_n hx hb dX5_isShortRight_56 rfl (lv_at hl 0 rfl) ?_
          refine va_get (D := D) (ci := 5) (v := .ref vk) (C := RX5) (T := TX5) (N := 9) hx hb hts hin5 hown hK hP 0 rfl rfl 1 (by decide) (hts (.fieldLink RX5 7 "EpochSifterModel" "kept" "[I") (by decide +kernel)) (fun _ h9 => h9) rfl dX5_isShortRight_57 ?_
          refine lv_iload_n hx hb dX5_isShortRight_60 rfl (lv_at hl 1 rfl) ?_
          refine lv_iconst (v := nI 1) hx hb dX5_isShortRight_61 (by decide) ?_
          refine lv_isub hx hb dX5_isShortRight_62 ?_
          refine r_i (v := nI (m - 1)) (pk_sub (by omega)) ?_
          refine a_ild (v := nI (bs.getD (m - 1) 0)) hx hb hK hP 1 0 rfl rfl (by omega) (by decide) (hf (m - 1) (by omega)) dX5_isShortRight_63 ?_
          refine rn_ne (tgt := 71) hx hb dX5_isShortRight_64 (by decide) (by omega) (by omega) (fun c_64 => ?_) (fun c_64 => ?_)
          · skip
            refine lv_iconst (v := nI 0) hx hb dX5_isShortRight_71 (by decide) ?_
            exact W.zret (v := nI 0) hx hb hr (rfl) (fun tz htz hWz => ⟨_, rfl, by rw [tf_0 (fun z => by first | exact c_48 z.1 | exact c_64 z.2)], htz⟩) (fun _ h => absurd h List.not_mem_nil) dX5_isShortRight_72
          · skip
            refine lv_iconst (v := nI 1) hx hb dX5_isShortRight_67 (by decide) ?_
            refine lv_goto (tgt := 72) hx hb dX5_isShortRight_68 (by decide) ?_
            exact W.zret (v := nI 1) hx hb hr (rfl) (fun tz htz hWz => ⟨_, rfl, by rw [tf_1 ⟨c_48, c_64⟩], htz⟩) (fun _ h => absurd h List.not_mem_nil) dX5_isShortRight_72
      · skip
        refine lv_iload_n hx hb dX5_isShortRight_15 rfl (lv_at hl 2 rfl) ?_
        refine lv_aload_n hx hb dX5_isShortRight_16 rfl (lv_at hl 0 rfl) ?_
        refine va_get (D := D) (ci := 5) (v := .ref vk) (C := RX5) (T := TX5) (N := 9) hx hb hts hin5 hown hK hP 0 rfl rfl 1 (by decide) (hts (.fieldLink RX5 7 "EpochSifterModel" "kept" "[I") (by decide +kernel)) (fun _ h9 => h9) rfl dX5_isShortRight_17 ?_
        refine lv_iload hx hb dX5_isShortRight_20 (lv_at hl 4 rfl) ?_
        refine a_ild (v := nI (bs.getD (2 + j) 0)) hx hb hK hP 1 0 rfl rfl (by omega) (by decide) (hf (2 + j) (by omega)) dX5_isShortRight_22 ?_
        refine lv_iadd hx hb dX5_isShortRight_23 ?_
        refine r_i (v := nI (sx bs j + (bs.getD (2 + j) 0))) (nI_add _ _) ?_
        refine r_i (v := nI (sx bs (j + 1))) (rfl) ?_
        refine lv_istore_n (lv' := [(2, .int (nI (sx bs (j + 1)))), (0, .ref mo), (1, .int (nI m)), (3, .int (nI (sy bs j))), (4, .int (nI (2 + j)))]) hx hb dX5_isShortRight_24 rfl hl (by decide) rfl (fun ls hl => ?_)
        refine lv_iload_n hx hb dX5_isShortRight_25 rfl (lv_at hl 3 rfl) ?_
        refine lv_iload_n hx hb dX5_isShortRight_26 rfl (lv_at hl 0 rfl) ?_
        refine lv_iadd hx hb dX5_isShortRight_27 ?_
        refine r_i (v := nI (sy bs j + (sx bs (j + 1)))) (nI_add _ _) ?_
        refine r_i (v := nI (sy bs (j + 1))) (rfl) ?_
        refine lv_istore_n (lv' := [(3, .int (nI (sy bs (j + 1)))), (2, .int (nI (sx bs (j + 1)))), (0, .ref mo), (1, .int (nI m)), (4, .int (nI (2 + j)))]) hx hb dX5_isShortRight_28 rfl hl (by decide) rfl (fun ls hl => ?_)
        refine lv_iinc (v := nI (2 + (j + 1))) (lv' := [(4, .int (nI (2 + (j + 1)))), (3, .int (nI (sy bs (j + 1)))), (2, .int (nI (sx bs (j + 1)))), (0, .ref mo), (1, .int (nI m))]) hx hb dX5_isShortRight_29 hl (k := 4) rfl (nI_add _ _) (by decide) rfl (fun ls hl => ?_)
        refine lv_goto (tgt := 7) hx hb dX5_isShortRight_32 (by decide) ?_
        exact ih (j + 1) (by first | assumption | omega) (by omega) ls (lv_sub hl [3, 4, 2, 1, 0] rfl)
  refine lv_iconst (v := nI 0) hx hb dX5_isShortRight_0 (by decide) ?_
  refine lv_istore_n (lv' := [(2, .int (nI 0)), (0, .ref mo), (1, .int (nI m))]) hx hb dX5_isShortRight_1 rfl hl (by decide) rfl (fun ls hl => ?_)
  refine lv_iconst (v := nI 0) hx hb dX5_isShortRight_2 (by decide) ?_
  refine lv_istore_n (lv' := [(3, .int (nI 0)), (2, .int (nI 0)), (0, .ref mo), (1, .int (nI m))]) hx hb dX5_isShortRight_3 rfl hl (by decide) rfl (fun ls hl => ?_)
  refine lv_iconst (v := nI 2) hx hb dX5_isShortRight_4 (by decide) ?_
  refine lv_istore (lv' := [(4, .int (nI 2)), (3, .int (nI 0)), (2, .int (nI 0)), (0, .ref mo), (1, .int (nI m))]) hx hb dX5_isShortRight_5 hl (by decide) rfl (fun ls hl => ?_)
  exact (cuts _) 0 (by first | assumption | omega) (Nat.lt_succ_self _) ls (lv_sub hl [3, 4, 2, 1, 0] rfl)
set_option maxHeartbeats 4000000 in
set_option maxRecDepth 100000 in
/-- what begins here -/
theorem c_X5_frame {zl : Launch} {D : va_G} {cI cD : ClassId} (mo : Nat) (n : Nat) (vk : Nat) (vc : Nat) (vt : Nat) (vn : Nat) (vr : Nat) (vs : Nat) (ve : Nat) (vp : Nat) (f : Nat → Int32) (bs : List Nat) (hf : Rp f bs) (hbn : bs.length = n) (hn : n ≤ 160) (hB : By bs) (hn1 : 1 ≤ n) : Ci zl yX5_frame wsX5_frame ({ frames := 0, cells := 0, slots := 0, locals := 0 }) D cI cD [.ref mo] [(mo, .inr (5, [.int (nI n), .ref vk, .ref vc, .ref vt, .ref vn, .ref vr, .ref vs, .ref ve, .ref vp])), (vk, .inl (cI, 160, .inl f))] (fun r => r = enc (fr bs)) := by
  refine Met.ofW (cc := cX5_frame) (maxL := 2) (ret := (some .int)) (by decide) rfl ?_
  intro zp ze zs zm zargs zb zt zc zs₁ B hml hv
  obtain ⟨rfl, hP, hK, hD0, hN⟩ := hv
  have hx := B.exec
  have hb := B.bytes
  have hr := B.returns
  have hts := atoms_spec (ws := wsX5_frame) B.pre
  have hown : zs.vm.findClass RX5 = some zm.cls := findClass_of_methodNamed B.named
  have hlocks := B.notSynchronized
  have hD := inW_self hD0
  have hS : va_S (inW [(mo, .inr (5, [.int (nI n), .ref vk, .ref vc, .ref vt, .ref vn, .ref vr, .ref vs, .ref ve, .ref vp])), (vk, .inl (cI, 160, .inl f))]) zs.heap zs.heap [] := va_S.rf
  have hl := lv_entry [.ref mo] (n := 2) (Nat.le_of_ble_eq_true rfl)
  rw [lg_entry_eq]
  generalize (lg_sl [.ref mo] ++ List.replicate (2 - (lg_sl [.ref mo]).length) Slot.unset).toArray = ls at hl ⊢
  have hl : lv_has ls 2 [(0, .ref mo)] := hl
  have hin5 : ∀ w ∈ u_ws RX5 TX5 9, w ∈ wsX5_frame := by decide +kernel
  have b0 := hB 0
  have b1 := hB 1
  have b2 := hB 2
  have b4 := hB 4
  have b5 := hB 5
  have cuts : ∀ fuel : Nat, (∀ (q : Nat), (bs.getD 0 0 = 211) → ((q = 1 ∧ ((1 < n ∧ 0 < bs.getD 1 0) ∨ (2 < n ∧ 90 < bs.getD 2 0))) ∨ (q = 0 ∧ ¬ ((1 < n ∧ 0 < bs.getD 1 0) ∨ (2 < n ∧ 90 < bs.getD 2 0)))) → 0 < fuel → ∀ (ls : Array Slot), lv_has ls 2 [(0, .ref mo)] → W zp zl ze ({ frames := 0, cells := 0, slots := 0, locals := 0 }) zs zm [.ref mo].toArray zb zt zc zs.heap [] 0 0 (MQ zb (vp_Si (fun r => r = enc (fr bs))) [.ref mo].toArray zs 0 0 (fun _ => False)) (F0 zm 53 ls [.int (nI q)])) ∧ (∀ (q : Nat), (bs.getD 0 0 = 181) → ((q = 1 ∧ ((1 < n ∧ bs.getD 1 0 ≠ 98) ∨ (4 < n ∧ 90 < bs.getD 4 0) ∨ (5 < n ∧ 0 < bs.getD 5 0))) ∨ (q = 0 ∧ ¬ ((1 < n ∧ bs.getD 1 0 ≠ 98) ∨ (4 < n ∧ 90 < bs.getD 4 0) ∨ (5 < n ∧ 0 < bs.getD 5 0)))) → 0 < fuel → ∀ (ls : Array Slot), lv_has ls 2 [(0, .ref mo)] → W zp zl ze ({ frames := 0, cells := 0, slots := 0, locals := 0 }) zs zm [.ref mo].toArray zb zt zc zs.heap [] 0 0 (MQ zb (vp_Si (fun r => r = enc (fr bs))) [.ref mo].toArray zs 0 0 (fun _ => False)) (F0 zm 158 ls [.int (nI q)])) := by
    intro fuel
    induction fuel with
    | zero => exact ⟨(by intros; exact absurd (by assumption) (Nat.not_lt_zero _)), (by intros; exact absurd (by assumption) (Nat.not_lt_zero _))⟩
    | succ fuel ih =>
      refine ⟨?_, ?_⟩
      · intro q h0 hq hm ls hl
        refine lv_istore_n (lv' := [(1, .int (nI q)), (0, .ref mo)]) hx hb dX5_frame_53 rfl hl (by decide) rfl (fun ls hl => ?_)
        refine lv_iload_n hx hb dX5_frame_54 rfl (lv_at hl 0 rfl) ?_
        refine rz_eq (tgt := 62) hx hb dX5_frame_55 (by decide) (by omega) (fun c_55 => ?_) (fun c_55 => ?_)
        · skip
          refine lv_aload_n hx hb dX5_frame_62 rfl (lv_at hl 1 rfl) ?_
          refine va_get (D := D) (ci := 5) (v := .int (nI n)) (C := RX5) (T := TX5) (N := 9) hx hb hts hin5 hown hK hP 0 rfl rfl 0 (by decide) (hts (.fieldLink RX5 42 "EpochSifterModel" "size" "I") (by decide +kernel)) (fun _ h9 => h9) rfl dX5_frame_63 ?_
          refine lv_iconst (v := nI 2) hx hb dX5_frame_66 (by decide) ?_
          refine rn_le (tgt := 82) hx hb dX5_frame_67 (by decide) (by omega) (by omega) (fun c_67 => ?_) (fun c_67 => ?_)
          · skip
            refine lv_iconst (v := nI 0) hx hb dX5_frame_82 (by decide) ?_
            exact W.iret (v := nI 0) hx hb hr (fun tz htz hWz => ⟨_, rfl, by unfold fr frl; rw [if_pos h0, hbn, if_neg (by omega), if_neg (by omega)]; rfl, htz⟩) (fun _ h => absurd h List.not_mem_nil) dX5_frame_83
          · skip
            refine lv_bipush (v := nI 6) hx hb dX5_frame_70 (by decide) ?_
            refine lv_aload_n hx hb dX5_frame_72 rfl (lv_at hl 1 rfl) ?_
            refine va_get (D := D) (ci := 5) (v := .ref vk) (C := RX5) (T := TX5) (N := 9) hx hb hts hin5 hown hK hP 0 rfl rfl 1 (by decide) (hts (.fieldLink RX5 7 "EpochSifterModel" "kept" "[I") (by decide +kernel)) (fun _ h9 => h9) rfl dX5_frame_73 ?_
            refine lv_iconst (v := nI 2) hx hb dX5_frame_76 (by decide) ?_
            refine a_ild (v := nI (bs.getD 2 0)) hx hb hK hP 1 0 rfl rfl (by omega) (by decide) (hf 2 (by omega)) dX5_frame_77 ?_
            refine lv_iadd hx hb dX5_frame_78 ?_
            refine r_i (v := nI (6 + (bs.getD 2 0))) (nI_add _ _) ?_
            refine lv_goto (tgt := 83) hx hb dX5_frame_79 (by decide) ?_
            exact W.iret (v := nI (6 + (bs.getD 2 0))) hx hb hr (fun tz htz hWz => ⟨_, rfl, by unfold fr frl; rw [if_pos h0, hbn, if_neg (by omega), if_pos (by omega), enc_n (by omega)], htz⟩) (fun _ h => absurd h List.not_mem_nil) dX5_frame_83
        · skip
          refine lv_iconst (v := (-1)) hx hb dX5_frame_58 (by decide) ?_
          refine lv_goto (tgt := 83) hx hb dX5_frame_59 (by decide) ?_
          exact W.iret (v := -1) hx hb hr (fun tz htz hWz => ⟨_, rfl, by unfold fr frl; rw [if_pos h0, hbn, if_pos (by omega)]; rfl, htz⟩) (fun _ h => absurd h List.not_mem_nil) dX5_frame_83
      · intro q h0 hq hm ls hl
        refine lv_istore_n (lv' := [(1, .int (nI q)), (0, .ref mo)]) hx hb dX5_frame_158 rfl hl (by decide) rfl (fun ls hl => ?_)
        refine lv_iload_n hx hb dX5_frame_159 rfl (lv_at hl 0 rfl) ?_
        refine rz_eq (tgt := 167) hx hb dX5_frame_160 (by decide) (by omega) (fun c_160 => ?_) (fun c_160 => ?_)
        · skip
          refine lv_aload_n hx hb dX5_frame_167 rfl (lv_at hl 1 rfl) ?_
          refine va_get (D := D) (ci := 5) (v := .int (nI n)) (C := RX5) (T := TX5) (N := 9) hx hb hts hin5 hown hK hP 0 rfl rfl 0 (by decide) (hts (.fieldLink RX5 42 "EpochSifterModel" "size" "I") (by decide +kernel)) (fun _ h9 => h9) rfl dX5_frame_168 ?_
          refine lv_iconst (v := nI 5) hx hb dX5_frame_171 (by decide) ?_
          refine rn_le (tgt := 187) hx hb dX5_frame_172 (by decide) (by omega) (by omega) (fun c_172 => ?_) (fun c_172 => ?_)
          · skip
            refine lv_iconst (v := nI 0) hx hb dX5_frame_187 (by decide) ?_
            exact W.iret (v := nI 0) hx hb hr (fun tz htz hWz => ⟨_, rfl, by unfold fr frs; rw [if_neg (by omega), if_pos h0, hbn, if_neg (by omega), if_neg (by omega)]; rfl, htz⟩) (fun _ h => absurd h List.not_mem_nil) dX5_frame_188
          · skip
            refine lv_bipush (v := nI 8) hx hb dX5_frame_175 (by decide) ?_
            refine lv_aload_n hx hb dX5_frame_177 rfl (lv_at hl 1 rfl) ?_
            refine va_get (D := D) (ci := 5) (v := .ref vk) (C := RX5) (T := TX5) (N := 9) hx hb hts hin5 hown hK hP 0 rfl rfl 1 (by decide) (hts (.fieldLink RX5 7 "EpochSifterModel" "kept" "[I") (by decide +kernel)) (fun _ h9 => h9) rfl dX5_frame_178 ?_
            refine lv_iconst (v := nI 4) hx hb dX5_frame_181 (by decide) ?_
            refine a_ild (v := nI (bs.getD 4 0)) hx hb hK hP 1 0 rfl rfl (by omega) (by decide) (hf 4 (by omega)) dX5_frame_182 ?_
            refine lv_iadd hx hb dX5_frame_183 ?_
            refine r_i (v := nI (8 + (bs.getD 4 0))) (nI_add _ _) ?_
            refine lv_goto (tgt := 188) hx hb dX5_frame_184 (by decide) ?_
            exact W.iret (v := nI (8 + (bs.getD 4 0))) hx hb hr (fun tz htz hWz => ⟨_, rfl, by unfold fr frs; rw [if_neg (by omega), if_pos h0, hbn, if_neg (by omega), if_pos (by omega), enc_n (by omega)], htz⟩) (fun _ h => absurd h List.not_mem_nil) dX5_frame_188
        · skip
          refine lv_iconst (v := (-1)) hx hb dX5_frame_163 (by decide) ?_
          refine lv_goto (tgt := 188) hx hb dX5_frame_164 (by decide) ?_
          exact W.iret (v := -1) hx hb hr (fun tz htz hWz => ⟨_, rfl, by unfold fr frs; rw [if_neg (by omega), if_pos h0, hbn, if_pos (by omega)]; rfl, htz⟩) (fun _ h => absurd h List.not_mem_nil) dX5_frame_188
  refine lv_aload_n hx hb dX5_frame_0 rfl (lv_at hl 0 rfl) ?_
  refine va_get (D := D) (ci := 5) (v := .ref vk) (C := RX5) (T := TX5) (N := 9) hx hb hts hin5 hown hK hP 0 rfl rfl 1 (by decide) (hts (.fieldLink RX5 7 "EpochSifterModel" "kept" "[I") (by decide +kernel)) (fun _ h9 => h9) rfl dX5_frame_1 ?_
  refine lv_iconst (v := nI 0) hx hb dX5_frame_4 (by decide) ?_
  refine a_ild (v := nI (bs.getD 0 0)) hx hb hK hP 1 0 rfl rfl (by omega) (by decide) (hf 0 (by omega)) dX5_frame_5 ?_
  refine lv_sipush (v := nI 211) hx hb dX5_frame_6 (by decide) ?_
  refine rn_ne (tgt := 84) hx hb dX5_frame_9 (by decide) (by omega) (by omega) (fun c_9 => ?_) (fun c_9 => ?_)
  · skip
    refine lv_aload_n hx hb dX5_frame_84 rfl (lv_at hl 0 rfl) ?_
    refine va_get (D := D) (ci := 5) (v := .ref vk) (C := RX5) (T := TX5) (N := 9) hx hb hts hin5 hown hK hP 0 rfl rfl 1 (by decide) (hts (.fieldLink RX5 7 "EpochSifterModel" "kept" "[I") (by decide +kernel)) (fun _ h9 => h9) rfl dX5_frame_85 ?_
    refine lv_iconst (v := nI 0) hx hb dX5_frame_88 (by decide) ?_
    refine a_ild (v := nI (bs.getD 0 0)) hx hb hK hP 1 0 rfl rfl (by omega) (by decide) (hf 0 (by omega)) dX5_frame_89 ?_
    refine lv_sipush (v := nI 181) hx hb dX5_frame_90 (by decide) ?_
    refine rn_eq (tgt := 98) hx hb dX5_frame_93 (by decide) (by omega) (by omega) (fun c_93 => ?_) (fun c_93 => ?_)
    · skip
      refine lv_aload_n hx hb dX5_frame_98 rfl (lv_at hl 0 rfl) ?_
      refine va_get (D := D) (ci := 5) (v := .int (nI n)) (C := RX5) (T := TX5) (N := 9) hx hb hts hin5 hown hK hP 0 rfl rfl 0 (by decide) (hts (.fieldLink RX5 42 "EpochSifterModel" "size" "I") (by decide +kernel)) (fun _ h9 => h9) rfl dX5_frame_99 ?_
      refine lv_iconst (v := nI 1) hx hb dX5_frame_102 (by decide) ?_
      refine rn_le (tgt := 117) hx hb dX5_frame_103 (by decide) (by omega) (by omega) (fun c_103 => ?_) (fun c_103 => ?_)
      · skip
        refine lv_aload_n hx hb dX5_frame_117 rfl (lv_at hl 0 rfl) ?_
        refine va_get (D := D) (ci := 5) (v := .int (nI n)) (C := RX5) (T := TX5) (N := 9) hx hb hts hin5 hown hK hP 0 rfl rfl 0 (by decide) (hts (.fieldLink RX5 42 "EpochSifterModel" "size" "I") (by decide +kernel)) (fun _ h9 => h9) rfl dX5_frame_118 ?_
        refine lv_iconst (v := nI 4) hx hb dX5_frame_121 (by decide) ?_
        refine rn_le (tgt := 136) hx hb dX5_frame_122 (by decide) (by omega) (by omega) (fun c_122 => ?_) (fun c_122 => ?_)
        · skip
          refine lv_aload_n hx hb dX5_frame_136 rfl (lv_at hl 0 rfl) ?_
          refine va_get (D := D) (ci := 5) (v := .int (nI n)) (C := RX5) (T := TX5) (N := 9) hx hb hts hin5 hown hK hP 0 rfl rfl 0 (by decide) (hts (.fieldLink RX5 42 "EpochSifterModel" "size" "I") (by decide +kernel)) (fun _ h9 => h9) rfl dX5_frame_137 ?_
          refine lv_iconst (v := nI 5) hx hb dX5_frame_140 (by decide) ?_
          refine rn_le (tgt := 157) hx hb dX5_frame_141 (by decide) (by omega) (by omega) (fun c_141 => ?_) (fun c_141 => ?_)
          · skip
            refine lv_iconst (v := nI 0) hx hb dX5_frame_157 (by decide) ?_
            exact (cuts _).2 0 (by first | assumption | omega) (by omega) (Nat.lt_succ_self _) ls (lv_sub hl [0] rfl)
          · skip
            refine lv_aload_n hx hb dX5_frame_144 rfl (lv_at hl 0 rfl) ?_
            refine va_get (D := D) (ci := 5) (v := .ref vk) (C := RX5) (T := TX5) (N := 9) hx hb hts hin5 hown hK hP 0 rfl rfl 1 (by decide) (hts (.fieldLink RX5 7 "EpochSifterModel" "kept" "[I") (by decide +kernel)) (fun _ h9 => h9) rfl dX5_frame_145 ?_
            refine lv_iconst (v := nI 5) hx hb dX5_frame_148 (by decide) ?_
            refine a_ild (v := nI (bs.getD 5 0)) hx hb hK hP 1 0 rfl rfl (by omega) (by decide) (hf 5 (by omega)) dX5_frame_149 ?_
            refine rz_le (tgt := 157) hx hb dX5_frame_150 (by decide) (by omega) (fun c_150 => ?_) (fun c_150 => ?_)
            · skip
              refine lv_iconst (v := nI 0) hx hb dX5_frame_157 (by decide) ?_
              exact (cuts _).2 0 (by first | assumption | omega) (by omega) (Nat.lt_succ_self _) ls (lv_sub hl [0] rfl)
            · skip
              refine lv_iconst (v := nI 1) hx hb dX5_frame_153 (by decide) ?_
              refine lv_goto (tgt := 158) hx hb dX5_frame_154 (by decide) ?_
              exact (cuts _).2 1 (by first | assumption | omega) (by omega) (Nat.lt_succ_self _) ls (lv_sub hl [0] rfl)
        · skip
          refine lv_aload_n hx hb dX5_frame_125 rfl (lv_at hl 0 rfl) ?_
          refine va_get (D := D) (ci := 5) (v := .ref vk) (C := RX5) (T := TX5) (N := 9) hx hb hts hin5 hown hK hP 0 rfl rfl 1 (by decide) (hts (.fieldLink RX5 7 "EpochSifterModel" "kept" "[I") (by decide +kernel)) (fun _ h9 => h9) rfl dX5_frame_126 ?_
          refine lv_iconst (v := nI 4) hx hb dX5_frame_129 (by decide) ?_
          refine a_ild (v := nI (bs.getD 4 0)) hx hb hK hP 1 0 rfl rfl (by omega) (by decide) (hf 4 (by omega)) dX5_frame_130 ?_
          refine lv_bipush (v := nI 90) hx hb dX5_frame_131 (by decide) ?_
          refine rn_gt (tgt := 153) hx hb dX5_frame_133 (by decide) (by omega) (by omega) (fun c_133 => ?_) (fun c_133 => ?_)
          · skip
            refine lv_iconst (v := nI 1) hx hb dX5_frame_153 (by decide) ?_
            refine lv_goto (tgt := 158) hx hb dX5_frame_154 (by decide) ?_
            exact (cuts _).2 1 (by first | assumption | omega) (by omega) (Nat.lt_succ_self _) ls (lv_sub hl [0] rfl)
          · skip
            refine lv_aload_n hx hb dX5_frame_136 rfl (lv_at hl 0 rfl) ?_
            refine va_get (D := D) (ci := 5) (v := .int (nI n)) (C := RX5) (T := TX5) (N := 9) hx hb hts hin5 hown hK hP 0 rfl rfl 0 (by decide) (hts (.fieldLink RX5 42 "EpochSifterModel" "size" "I") (by decide +kernel)) (fun _ h9 => h9) rfl dX5_frame_137 ?_
            refine lv_iconst (v := nI 5) hx hb dX5_frame_140 (by decide) ?_
            refine rn_le (tgt := 157) hx hb dX5_frame_141 (by decide) (by omega) (by omega) (fun c_141 => ?_) (fun c_141 => ?_)
            · skip
              refine lv_iconst (v := nI 0) hx hb dX5_frame_157 (by decide) ?_
              exact (cuts _).2 0 (by first | assumption | omega) (by omega) (Nat.lt_succ_self _) ls (lv_sub hl [0] rfl)
            · skip
              refine lv_aload_n hx hb dX5_frame_144 rfl (lv_at hl 0 rfl) ?_
              refine va_get (D := D) (ci := 5) (v := .ref vk) (C := RX5) (T := TX5) (N := 9) hx hb hts hin5 hown hK hP 0 rfl rfl 1 (by decide) (hts (.fieldLink RX5 7 "EpochSifterModel" "kept" "[I") (by decide +kernel)) (fun _ h9 => h9) rfl dX5_frame_145 ?_
              refine lv_iconst (v := nI 5) hx hb dX5_frame_148 (by decide) ?_
              refine a_ild (v := nI (bs.getD 5 0)) hx hb hK hP 1 0 rfl rfl (by omega) (by decide) (hf 5 (by omega)) dX5_frame_149 ?_
              refine rz_le (tgt := 157) hx hb dX5_frame_150 (by decide) (by omega) (fun c_150 => ?_) (fun c_150 => ?_)
              · skip
                refine lv_iconst (v := nI 0) hx hb dX5_frame_157 (by decide) ?_
                exact (cuts _).2 0 (by first | assumption | omega) (by omega) (Nat.lt_succ_self _) ls (lv_sub hl [0] rfl)
              · skip
                refine lv_iconst (v := nI 1) hx hb dX5_frame_153 (by decide) ?_
                refine lv_goto (tgt := 158) hx hb dX5_frame_154 (by decide) ?_
                exact (cuts _).2 1 (by first | assumption | omega) (by omega) (Nat.lt_succ_self _) ls (lv_sub hl [0] rfl)
      · skip
        refine lv_aload_n hx hb dX5_frame_106 rfl (lv_at hl 0 rfl) ?_
        refine va_get (D := D) (ci := 5) (v := .ref vk) (C := RX5) (T := TX5) (N := 9) hx hb hts hin5 hown hK hP 0 rfl rfl 1 (by decide) (hts (.fieldLink RX5 7 "EpochSifterModel" "kept" "[I") (by decide +kernel)) (fun _ h9 => h9) rfl dX5_frame_107 ?_
        refine lv_iconst (v := nI 1) hx hb dX5_frame_110 (by decide) ?_
        refine a_ild (v := nI (bs.getD 1 0)) hx hb hK hP 1 0 rfl rfl (by omega) (by decide) (hf 1 (by omega)) dX5_frame_111 ?_
        refine lv_bipush (v := nI 98) hx hb dX5_frame_112 (by decide) ?_
        refine rn_ne (tgt := 153) hx hb dX5_frame_114 (by decide) (by omega) (by omega) (fun c_114 => ?_) (fun c_114 => ?_)
        · skip
          refine lv_iconst (v := nI 1) hx hb dX5_frame_153 (by decide) ?_
          refine lv_goto (tgt := 158) hx hb dX5_frame_154 (by decide) ?_
          exact (cuts _).2 1 (by first | assumption | omega) (by omega) (Nat.lt_succ_self _) ls (lv_sub hl [0] rfl)
        · skip
          refine lv_aload_n hx hb dX5_frame_117 rfl (lv_at hl 0 rfl) ?_
          refine va_get (D := D) (ci := 5) (v := .int (nI n)) (C := RX5) (T := TX5) (N := 9) hx hb hts hin5 hown hK hP 0 rfl rfl 0 (by decide) (hts (.fieldLink RX5 42 "EpochSifterModel" "size" "I") (by decide +kernel)) (fun _ h9 => h9) rfl dX5_frame_118 ?_
          refine lv_iconst (v := nI 4) hx hb dX5_frame_121 (by decide) ?_
          refine rn_le (tgt := 136) hx hb dX5_frame_122 (by decide) (by omega) (by omega) (fun c_122 => ?_) (fun c_122 => ?_)
          · skip
            refine lv_aload_n hx hb dX5_frame_136 rfl (lv_at hl 0 rfl) ?_
            refine va_get (D := D) (ci := 5) (v := .int (nI n)) (C := RX5) (T := TX5) (N := 9) hx hb hts hin5 hown hK hP 0 rfl rfl 0 (by decide) (hts (.fieldLink RX5 42 "EpochSifterModel" "size" "I") (by decide +kernel)) (fun _ h9 => h9) rfl dX5_frame_137 ?_
            refine lv_iconst (v := nI 5) hx hb dX5_frame_140 (by decide) ?_
            refine rn_le (tgt := 157) hx hb dX5_frame_141 (by decide) (by omega) (by omega) (fun c_141 => ?_) (fun c_141 => ?_)
            · skip
              refine lv_iconst (v := nI 0) hx hb dX5_frame_157 (by decide) ?_
              exact (cuts _).2 0 (by first | assumption | omega) (by omega) (Nat.lt_succ_self _) ls (lv_sub hl [0] rfl)
            · skip
              refine lv_aload_n hx hb dX5_frame_144 rfl (lv_at hl 0 rfl) ?_
              refine va_get (D := D) (ci := 5) (v := .ref vk) (C := RX5) (T := TX5) (N := 9) hx hb hts hin5 hown hK hP 0 rfl rfl 1 (by decide) (hts (.fieldLink RX5 7 "EpochSifterModel" "kept" "[I") (by decide +kernel)) (fun _ h9 => h9) rfl dX5_frame_145 ?_
              refine lv_iconst (v := nI 5) hx hb dX5_frame_148 (by decide) ?_
              refine a_ild (v := nI (bs.getD 5 0)) hx hb hK hP 1 0 rfl rfl (by omega) (by decide) (hf 5 (by omega)) dX5_frame_149 ?_
              refine rz_le (tgt := 157) hx hb dX5_frame_150 (by decide) (by omega) (fun c_150 => ?_) (fun c_150 => ?_)
              · skip
                refine lv_iconst (v := nI 0) hx hb dX5_frame_157 (by decide) ?_
                exact (cuts _).2 0 (by first | assumption | omega) (by omega) (Nat.lt_succ_self _) ls (lv_sub hl [0] rfl)
              · skip
                refine lv_iconst (v := nI 1) hx hb dX5_frame_153 (by decide) ?_
                refine lv_goto (tgt := 158) hx hb dX5_frame_154 (by decide) ?_
                exact (cuts _).2 1 (by first | assumption | omega) (by omega) (Nat.lt_succ_self _) ls (lv_sub hl [0] rfl)
          · skip
            refine lv_aload_n hx hb dX5_frame_125 rfl (lv_at hl 0 rfl) ?_
            refine va_get (D := D) (ci := 5) (v := .ref vk) (C := RX5) (T := TX5) (N := 9) hx hb hts hin5 hown hK hP 0 rfl rfl 1 (by decide) (hts (.fieldLink RX5 7 "EpochSifterModel" "kept" "[I") (by decide +kernel)) (fun _ h9 => h9) rfl dX5_frame_126 ?_
            refine lv_iconst (v := nI 4) hx hb dX5_frame_129 (by decide) ?_
            refine a_ild (v := nI (bs.getD 4 0)) hx hb hK hP 1 0 rfl rfl (by omega) (by decide) (hf 4 (by omega)) dX5_frame_130 ?_
            refine lv_bipush (v := nI 90) hx hb dX5_frame_131 (by decide) ?_
            refine rn_gt (tgt := 153) hx hb dX5_frame_133 (by decide) (by omega) (by omega) (fun c_133 => ?_) (fun c_133 => ?_)
            · skip
              refine lv_iconst (v := nI 1) hx hb dX5_frame_153 (by decide) ?_
              refine lv_goto (tgt := 158) hx hb dX5_frame_154 (by decide) ?_
              exact (cuts _).2 1 (by first | assumption | omega) (by omega) (Nat.lt_succ_self _) ls (lv_sub hl [0] rfl)
            · skip
              refine lv_aload_n hx hb dX5_frame_136 rfl (lv_at hl 0 rfl) ?_
              refine va_get (D := D) (ci := 5) (v := .int (nI n)) (C := RX5) (T := TX5) (N := 9) hx hb hts hin5 hown hK hP 0 rfl rfl 0 (by decide) (hts (.fieldLink RX5 42 "EpochSifterModel" "size" "I") (by decide +kernel)) (fun _ h9 => h9) rfl dX5_frame_137 ?_
              refine lv_iconst (v := nI 5) hx hb dX5_frame_140 (by decide) ?_
              refine rn_le (tgt := 157) hx hb dX5_frame_141 (by decide) (by omega) (by omega) (fun c_141 => ?_) (fun c_141 => ?_)
              · skip
                refine lv_iconst (v := nI 0) hx hb dX5_frame_157 (by decide) ?_
                exact (cuts _).2 0 (by first | assumption | omega) (by omega) (Nat.lt_succ_self _) ls (lv_sub hl [0] rfl)
              · skip
                refine lv_aload_n hx hb dX5_frame_144 rfl (lv_at hl 0 rfl) ?_
                refine va_get (D := D) (ci := 5) (v := .ref vk) (C := RX5) (T := TX5) (N := 9) hx hb hts hin5 hown hK hP 0 rfl rfl 1 (by decide) (hts (.fieldLink RX5 7 "EpochSifterModel" "kept" "[I") (by decide +kernel)) (fun _ h9 => h9) rfl dX5_frame_145 ?_
                refine lv_iconst (v := nI 5) hx hb dX5_frame_148 (by decide) ?_
                refine a_ild (v := nI (bs.getD 5 0)) hx hb hK hP 1 0 rfl rfl (by omega) (by decide) (hf 5 (by omega)) dX5_frame_149 ?_
                refine rz_le (tgt := 157) hx hb dX5_frame_150 (by decide) (by omega) (fun c_150 => ?_) (fun c_150 => ?_)
                · skip
                  refine lv_iconst (v := nI 0) hx hb dX5_frame_157 (by decide) ?_
                  exact (cuts _).2 0 (by first | assumption | omega) (by omega) (Nat.lt_succ_self _) ls (lv_sub hl [0] rfl)
                · skip
                  refine lv_iconst (v := nI 1) hx hb dX5_frame_153 (by decide) ?_
                  refine lv_goto (tgt := 158) hx hb dX5_frame_154 (by decide) ?_
                  exact (cuts _).2 1 (by first | assumption | omega) (by omega) (Nat.lt_succ_self _) ls (lv_sub hl [0] rfl)
    · skip
      refine lv_iconst (v := (-1)) hx hb dX5_frame_96 (by decide) ?_
      exact W.iret (v := -1) hx hb hr (fun tz htz hWz => ⟨_, rfl, by unfold fr; rw [if_neg (by omega), if_neg (by omega)]; rfl, htz⟩) (fun _ h => absurd h List.not_mem_nil) dX5_frame_97
  · skip
    refine lv_aload_n hx hb dX5_frame_12 rfl (lv_at hl 0 rfl) ?_
    refine va_get (D := D) (ci := 5) (v := .int (nI n)) (C := RX5) (T := TX5) (N := 9) hx hb hts hin5 hown hK hP 0 rfl rfl 0 (by decide) (hts (.fieldLink RX5 42 "EpochSifterModel" "size" "I") (by decide +kernel)) (fun _ h9 => h9) rfl dX5_frame_13 ?_
    refine lv_iconst (v := nI 1) hx hb dX5_frame_16 (by decide) ?_
    refine rn_le (tgt := 29) hx hb dX5_frame_17 (by decide) (by omega) (by omega) (fun c_17 => ?_) (fun c_17 => ?_)
    · skip
      refine lv_aload_n hx hb dX5_frame_29 rfl (lv_at hl 0 rfl) ?_
      refine va_get (D := D) (ci := 5) (v := .int (nI n)) (C := RX5) (T := TX5) (N := 9) hx hb hts hin5 hown hK hP 0 rfl rfl 0 (by decide) (hts (.fieldLink RX5 42 "EpochSifterModel" "size" "I") (by decide +kernel)) (fun _ h9 => h9) rfl dX5_frame_30 ?_
      refine lv_iconst (v := nI 2) hx hb dX5_frame_33 (by decide) ?_
      refine rn_le (tgt := 52) hx hb dX5_frame_34 (by decide) (by omega) (by omega) (fun c_34 => ?_) (fun c_34 => ?_)
      · skip
        refine lv_iconst (v := nI 0) hx hb dX5_frame_52 (by decide) ?_
        exact (cuts _).1 0 (by first | assumption | omega) (by omega) (Nat.lt_succ_self _) ls (lv_sub hl [0] rfl)
      · skip
        refine lv_aload_n hx hb dX5_frame_37 rfl (lv_at hl 0 rfl) ?_
        refine va_get (D := D) (ci := 5) (v := .ref vk) (C := RX5) (T := TX5) (N := 9) hx hb hts hin5 hown hK hP 0 rfl rfl 1 (by decide) (hts (.fieldLink RX5 7 "EpochSifterModel" "kept" "[I") (by decide +kernel)) (fun _ h9 => h9) rfl dX5_frame_38 ?_
        refine lv_iconst (v := nI 2) hx hb dX5_frame_41 (by decide) ?_
        refine a_ild (v := nI (bs.getD 2 0)) hx hb hK hP 1 0 rfl rfl (by omega) (by decide) (hf 2 (by omega)) dX5_frame_42 ?_
        refine lv_bipush (v := nI 90) hx hb dX5_frame_43 (by decide) ?_
        refine rn_le (tgt := 52) hx hb dX5_frame_45 (by decide) (by omega) (by omega) (fun c_45 => ?_) (fun c_45 => ?_)
        · skip
          refine lv_iconst (v := nI 0) hx hb dX5_frame_52 (by decide) ?_
          exact (cuts _).1 0 (by first | assumption | omega) (by omega) (Nat.lt_succ_self _) ls (lv_sub hl [0] rfl)
        · skip
          refine lv_iconst (v := nI 1) hx hb dX5_frame_48 (by decide) ?_
          refine lv_goto (tgt := 53) hx hb dX5_frame_49 (by decide) ?_
          exact (cuts _).1 1 (by first | assumption | omega) (by omega) (Nat.lt_succ_self _) ls (lv_sub hl [0] rfl)
    · skip
      refine lv_aload_n hx hb dX5_frame_20 rfl (lv_at hl 0 rfl) ?_
      refine va_get (D := D) (ci := 5) (v := .ref vk) (C := RX5) (T := TX5) (N := 9) hx hb hts hin5 hown hK hP 0 rfl rfl 1 (by decide) (hts (.fieldLink RX5 7 "EpochSifterModel" "kept" "[I") (by decide +kernel)) (fun _ h9 => h9) rfl dX5_frame_21 ?_
      refine lv_iconst (v := nI 1) hx hb dX5_frame_24 (by decide) ?_
      refine a_ild (v := nI (bs.getD 1 0)) hx hb hK hP 1 0 rfl rfl (by omega) (by decide) (hf 1 (by omega)) dX5_frame_25 ?_
      refine rz_gt (tgt := 48) hx hb dX5_frame_26 (by decide) (by omega) (fun c_26 => ?_) (fun c_26 => ?_)
      · skip
        refine lv_iconst (v := nI 1) hx hb dX5_frame_48 (by decide) ?_
        refine lv_goto (tgt := 53) hx hb dX5_frame_49 (by decide) ?_
        exact (cuts _).1 1 (by first | assumption | omega) (by omega) (Nat.lt_succ_self _) ls (lv_sub hl [0] rfl)
      · skip
        refine lv_aload_n hx hb dX5_frame_29 rfl (lv_at hl 0 rfl) ?_
        refine va_get (D := D) (ci := 5) (v := .int (nI n)) (C := RX5) (T := TX5) (N := 9) hx hb hts hin5 hown hK hP 0 rfl rfl 0 (by decide) (hts (.fieldLink RX5 42 "EpochSifterModel" "size" "I") (by decide +kernel)) (fun _ h9 => h9) rfl dX5_frame_30 ?_
        refine lv_iconst (v := nI 2) hx hb dX5_frame_33 (by decide) ?_
        refine rn_le (tgt := 52) hx hb dX5_frame_34 (by decide) (by omega) (by omega) (fun c_34 => ?_) (fun c_34 => ?_)
        · skip
          refine lv_iconst (v := nI 0) hx hb dX5_frame_52 (by decide) ?_
          exact (cuts _).1 0 (by first | assumption | omega) (by omega) (Nat.lt_succ_self _) ls (lv_sub hl [0] rfl)
        · skip
          refine lv_aload_n hx hb dX5_frame_37 rfl (lv_at hl 0 rfl) ?_
          refine va_get (D := D) (ci := 5) (v := .ref vk) (C := RX5) (T := TX5) (N := 9) hx hb hts hin5 hown hK hP 0 rfl rfl 1 (by decide) (hts (.fieldLink RX5 7 "EpochSifterModel" "kept" "[I") (by decide +kernel)) (fun _ h9 => h9) rfl dX5_frame_38 ?_
          refine lv_iconst (v := nI 2) hx hb dX5_frame_41 (by decide) ?_
          refine a_ild (v := nI (bs.getD 2 0)) hx hb hK hP 1 0 rfl rfl (by omega) (by decide) (hf 2 (by omega)) dX5_frame_42 ?_
          refine lv_bipush (v := nI 90) hx hb dX5_frame_43 (by decide) ?_
          refine rn_le (tgt := 52) hx hb dX5_frame_45 (by decide) (by omega) (by omega) (fun c_45 => ?_) (fun c_45 => ?_)
          · skip
            refine lv_iconst (v := nI 0) hx hb dX5_frame_52 (by decide) ?_
            exact (cuts _).1 0 (by first | assumption | omega) (by omega) (Nat.lt_succ_self _) ls (lv_sub hl [0] rfl)
          · skip
            refine lv_iconst (v := nI 1) hx hb dX5_frame_48 (by decide) ?_
            refine lv_goto (tgt := 53) hx hb dX5_frame_49 (by decide) ?_
            exact (cuts _).1 1 (by first | assumption | omega) (by omega) (Nat.lt_succ_self _) ls (lv_sub hl [0] rfl)
set_option maxHeartbeats 4000000 in
set_option maxRecDepth 100000 in
/-- the first k bytes go -/
theorem c_X5_drop {zl : Launch} {D : va_G} {cI cD : ClassId} (mo : Nat) (n : Nat) (vk : Nat) (vc : Nat) (vt : Nat) (vn : Nat) (vr : Nat) (vs : Nat) (ve : Nat) (vp : Nat) (f : Nat → Int32) (bs : List Nat) (k : Nat) (hf : Rp f bs) (hbn : bs.length = n) (hn : n ≤ 160) (hB : By bs) (hk : k ≤ n) : Cx zl yX5_drop wsX5_drop ({ frames := 0, cells := 0, slots := 0, locals := 0 }) D cI cD [.ref mo, .int (nI k)] [(mo, .inr (5, [.int (nI n), .ref vk, .ref vc, .ref vt, .ref vn, .ref vr, .ref vs, .ref ve, .ref vp])), (vk, .inl (cI, 160, .inl f))] (fun v w1 => ∃ (fo : Nat → Int32), w1 = [(mo, .inr (5, [.int (nI (n - k)), .ref vk, .ref vc, .ref vt, .ref vn, .ref vr, .ref vs, .ref ve, .ref vp])), (vk, .inl (cI, 160, .inl fo))] ∧ v = none ∧ Rp fo (bs.drop k)) := by
  refine Met.ofW (cc := cX5_drop) (maxL := 3) (ret := none) (by decide) rfl ?_
  intro zp ze zs zm zargs zb zt zc zs₁ B hml hv
  obtain ⟨rfl, hP, hK, hD0, hN⟩ := hv
  have hx := B.exec
  have hb := B.bytes
  have hr := B.returns
  have hts := atoms_spec (ws := wsX5_drop) B.pre
  have hown : zs.vm.findClass RX5 = some zm.cls := findClass_of_methodNamed B.named
  have hlocks := B.notSynchronized
  have hD := inW_self hD0
  have hS : va_S (inW [(mo, .inr (5, [.int (nI n), .ref vk, .ref vc, .ref vt, .ref vn, .ref vr, .ref vs, .ref ve, .ref vp])), (vk, .inl (cI, 160, .inl f))]) zs.heap zs.heap [] := va_S.rf
  have hl := lv_entry [.ref mo, .int (nI k)] (n := 3) (Nat.le_of_ble_eq_true rfl)
  rw [lg_entry_eq]
  generalize (lg_sl [.ref mo, .int (nI k)] ++ List.replicate (3 - (lg_sl [.ref mo, .int (nI k)]).length) Slot.unset).toArray = ls at hl ⊢
  have hl : lv_has ls 3 [(0, .ref mo), (1, .int (nI k))] := hl
  have hin5 : ∀ w ∈ u_ws RX5 TX5 9, w ∈ wsX5_drop := by decide +kernel
  have cuts : ∀ fuel : Nat, (∀ (j : Nat), ∀ (fj : Nat → Int32), (j ≤ n - k) → (∀ i, i < j → fj i = f (k + i)) → (∀ i, j ≤ i → fj i = f i) → (n - j) < fuel → ∀ (H : Heap) (locs : List Loc), va_P D vwCl [(mo, .inr (5, [.int (nI (n - k)), .ref vk, .ref vc, .ref vt, .ref vn, .ref vr, .ref vs, .ref ve, .ref vp])), (vk, .inl (cI, 160, .inl fj))] H → va_D (inW [(mo, .inr (5, [.int (nI n), .ref vk, .ref vc, .ref vt, .ref vn, .ref vr, .ref vs, .ref ve, .ref vp])), (vk, .inl (cI, 160, .inl f))]) [(mo, .inr (5, [.int (nI (n - k)), .ref vk, .ref vc, .ref vt, .ref vn, .ref vr, .ref vs, .ref ve, .ref vp])), (vk, .inl (cI, 160, .inl fj))] → va_S (inW [(mo, .inr (5, [.int (nI n), .ref vk, .ref vc, .ref vt, .ref vn, .ref vr, .ref vs, .ref ve, .ref vp])), (vk, .inl (cI, 160, .inl f))]) zs.heap H locs → ∀ (ls : Array Slot), lv_has ls 3 [(0, .ref mo), (1, .int (nI k)), (2, .int (nI j))] → W zp zl ze ({ frames := 0, cells := 0, slots := 0, locals := 0 }) zs zm [.ref mo, .int (nI k)].toArray zb zt zc H locs 0 0 (MQ zb (Xq D [(mo, .inr (5, [.int (nI n), .ref vk, .ref vc, .ref vt, .ref vn, .ref vr, .ref vs, .ref ve, .ref vp])), (vk, .inl (cI, 160, .inl f))] (fun v w1 => ∃ (fo : Nat → Int32), w1 = [(mo, .inr (5, [.int (nI (n - k)), .ref vk, .ref vc, .ref vt, .ref vn, .ref vr, .ref vs, .ref ve, .ref vp])), (vk, .inl (cI, 160, .inl fo))] ∧ v = none ∧ Rp fo (bs.drop k))) [.ref mo, .int (nI k)].toArray zs 0 0 (inW [(mo, .inr (5, [.int (nI n), .ref vk, .ref vc, .ref vt, .ref vn, .ref vr, .ref vs, .ref ve, .ref vp])), (vk, .inl (cI, 160, .inl f))])) (F0 zm 12 ls [])) := by
    intro fuel
    induction fuel with
    | zero => exact (by intros; exact absurd (by assumption) (Nat.not_lt_zero _))
    | succ fuel ih =>
      intro j fj hj hj1 hj2 hm H locs hP hD hS ls hl
      refine lv_iload_n hx hb dX5_drop_12 rfl (lv_at hl 2 rfl) ?_
      refine lv_aload_n hx hb dX5_drop_13 rfl (lv_at hl 0 rfl) ?_
      refine va_get (D := D) (ci := 5) (v := .int (nI (n - k))) (C := RX5) (T := TX5) (N := 9) hx hb hts hin5 hown hK hP 0 rfl rfl 0 (by decide) (hts (.fieldLink RX5 42 "EpochSifterModel" "size" "I") (by decide +kernel)) (fun _ h9 => h9) rfl dX5_drop_14 ?_
      refine rn_ge (tgt := 40) hx hb dX5_drop_17 (by decide) (by omega) (by omega) (fun c_17 => ?_) (fun c_17 => ?_)
      · skip
        exact W.vret hx hb hr (fun tz htz hWz => ⟨none, [(mo, .inr (5, [.int (nI (n - k)), .ref vk, .ref vc, .ref vt, .ref vn, .ref vr, .ref vs, .ref ve, .ref vp])), (vk, .inl (cI, 160, .inl fj))], rfl, ⟨_, rfl, rfl, Rp.drop hf (fun i hi => hj1 i (by omega))⟩, rfl, by rw [htz]; exact hP, hS.F htz⟩) (fun q h => hS.2.2 q h) dX5_drop_40
      · skip
        refine lv_aload_n hx hb dX5_drop_20 rfl (lv_at hl 0 rfl) ?_
        refine va_get (D := D) (ci := 5) (v := .ref vk) (C := RX5) (T := TX5) (N := 9) hx hb hts hin5 hown hK hP 0 rfl rfl 1 (by decide) (hts (.fieldLink RX5 7 "EpochSifterModel" "kept" "[I") (by decide +kernel)) (fun _ h9 => h9) rfl dX5_drop_21 ?_
        refine lv_iload_n hx hb dX5_drop_24 rfl (lv_at hl 2 rfl) ?_
        refine lv_aload_n hx hb dX5_drop_25 rfl (lv_at hl 0 rfl) ?_
        refine va_get (D := D) (ci := 5) (v := .ref vk) (C := RX5) (T := TX5) (N := 9) hx hb hts hin5 hown hK hP 0 rfl rfl 1 (by decide) (hts (.fieldLink RX5 7 "EpochSifterModel" "kept" "[I") (by decide +kernel)) (fun _ h9 => h9) rfl dX5_drop_26 ?_
        refine lv_iload_n hx hb dX5_drop_29 rfl (lv_at hl 2 rfl) ?_
        refine lv_iload_n hx hb dX5_drop_30 rfl (lv_at hl 1 rfl) ?_
        refine lv_iadd hx hb dX5_drop_31 ?_
        refine r_i (v := nI (j + k)) (nI_add _ _) ?_
        refine a_ild (v := fj (j + k)) hx hb hK hP 1 0 rfl rfl (by omega) (by decide) (rfl) dX5_drop_32 ?_
        refine a_ist hx hb hK hP hD hS 1 0 rfl rfl (by omega) (by decide) dX5_drop_33 (fun H locs hP hD hS => ?_)
        have hP : va_P D vwCl [(mo, .inr (5, [.int (nI (n - k)), .ref vk, .ref vc, .ref vt, .ref vn, .ref vr, .ref vs, .ref ve, .ref vp])), (vk, .inl (cI, 160, .inl (upd fj j (fj (j + k)))))] _ := hP
        have hD : va_D (inW [(mo, .inr (5, [.int (nI n), .ref vk, .ref vc, .ref vt, .ref vn, .ref vr, .ref vs, .ref ve, .ref vp])), (vk, .inl (cI, 160, .inl f))]) [(mo, .inr (5, [.int (nI (n - k)), .ref vk, .ref vc, .ref vt, .ref vn, .ref vr, .ref vs, .ref ve, .ref vp])), (vk, .inl (cI, 160, .inl (upd fj j (fj (j + k)))))] := hD
        refine lv_iinc (v := nI (j + 1)) (lv' := [(2, .int (nI (j + 1))), (0, .ref mo), (1, .int (nI k))]) hx hb dX5_drop_34 hl (k := 2) rfl (nI_add _ _) (by decide) rfl (fun ls hl => ?_)
        refine lv_goto (tgt := 12) hx hb dX5_drop_37 (by decide) ?_
        exact ih (j + 1) (upd fj j (fj (j + k))) (by first | assumption | omega) (fun i hi => if e : i = j then (by rw [e, pk_us, hj2 _ (by omega), Nat.add_comm]) else (by rw [pk_un e]; exact hj1 i (by omega))) (fun i hi => by rw [pk_un (by omega)]; exact hj2 i (by omega)) (by omega) _ _ hP hD hS ls (lv_sub hl [1, 2, 0] rfl)
  refine lv_aload_n hx hb dX5_drop_0 rfl (lv_at hl 0 rfl) ?_
  refine lv_aload_n hx hb dX5_drop_1 rfl (lv_at hl 0 rfl) ?_
  refine va_get (D := D) (ci := 5) (v := .int (nI n)) (C := RX5) (T := TX5) (N := 9) hx hb hts hin5 hown hK hP 0 rfl rfl 0 (by decide) (hts (.fieldLink RX5 42 "EpochSifterModel" "size" "I") (by decide +kernel)) (fun _ h9 => h9) rfl dX5_drop_2 ?_
  refine lv_iload_n hx hb dX5_drop_5 rfl (lv_at hl 1 rfl) ?_
  refine lv_isub hx hb dX5_drop_6 ?_
  refine r_i (v := nI (n - k)) (pk_sub (by omega)) ?_
  refine va_put (D := D) (ci := 5) (v := .int (nI (n - k))) (ty := .int) (C := RX5) (T := TX5) (N := 9) hx hb hts hin5 tyX5 tyX5_ok nmX5 hown hK hP hD hS 0 rfl rfl 0 (by decide) (hts (.fieldLink RX5 42 "EpochSifterModel" "size" "I") (by decide +kernel)) (fun _ h9 => h9) rfl (by decide +kernel) (rfl) (rfl) (Nat.le_of_ble_eq_true rfl) dX5_drop_7 (fun H locs hP hD hS => ?_)
  have hP : va_P D vwCl [(mo, .inr (5, [.int (nI (n - k)), .ref vk, .ref vc, .ref vt, .ref vn, .ref vr, .ref vs, .ref ve, .ref vp])), (vk, .inl (cI, 160, .inl f))] _ := hP
  have hD : va_D (inW [(mo, .inr (5, [.int (nI n), .ref vk, .ref vc, .ref vt, .ref vn, .ref vr, .ref vs, .ref ve, .ref vp])), (vk, .inl (cI, 160, .inl f))]) [(mo, .inr (5, [.int (nI (n - k)), .ref vk, .ref vc, .ref vt, .ref vn, .ref vr, .ref vs, .ref ve, .ref vp])), (vk, .inl (cI, 160, .inl f))] := hD
  refine lv_iconst (v := nI 0) hx hb dX5_drop_10 (by decide) ?_
  refine lv_istore_n (lv' := [(2, .int (nI 0)), (0, .ref mo), (1, .int (nI k))]) hx hb dX5_drop_11 rfl hl (by decide) rfl (fun ls hl => ?_)
  exact (cuts _) 0 f (by first | assumption | omega) (fun i hi => absurd hi (Nat.not_lt_zero _)) (fun _ _ => rfl) (Nat.lt_succ_self _) _ _ hP hD hS ls (lv_sub hl [1, 2, 0] rfl)
set_option maxHeartbeats 4000000 in
set_option maxRecDepth 100000 in
/-- w bits from bit k on -/
theorem c_X5_number {zl : Launch} {D : va_G} {cI cD : ClassId} (mo : Nat) (n : Nat) (vk : Nat) (vc : Nat) (vt : Nat) (vn : Nat) (vr : Nat) (vs : Nat) (ve : Nat) (vp : Nat) (f : Nat → Int32) (bs : List Nat) (k : Nat) (w : Nat) (hf : Rp f bs) (hbn : bs.length = n) (hn : n ≤ 160) (hB : By bs) (hw : w ≤ 30) (hkw : 3 ≤ n ∧ k + w ≤ 8 * (n - 3)) : Ci zl yX5_number wsX5_number ({ frames := 0, cells := 0, slots := 0, locals := 0 }) D cI cD [.ref mo, .int (nI k), .int (nI w)] [(mo, .inr (5, [.int (nI n), .ref vk, .ref vc, .ref vt, .ref vn, .ref vr, .ref vs, .ref ve, .ref vp])), (vk, .inl (cI, 160, .inl f))] (fun r => r = nI (num bs k w)) := by
  refine Met.ofW (cc := cX5_number) (maxL := 7) (ret := (some .int)) (by decide) rfl ?_
  intro zp ze zs zm zargs zb zt zc zs₁ B hml hv
  obtain ⟨rfl, hP, hK, hD0, hN⟩ := hv
  have hx := B.exec
  have hb := B.bytes
  have hr := B.returns
  have hts := atoms_spec (ws := wsX5_number) B.pre
  have hown : zs.vm.findClass RX5 = some zm.cls := findClass_of_methodNamed B.named
  have hlocks := B.notSynchronized
  have hD := inW_self hD0
  have hS : va_S (inW [(mo, .inr (5, [.int (nI n), .ref vk, .ref vc, .ref vt, .ref vn, .ref vr, .ref vs, .ref ve, .ref vp])), (vk, .inl (cI, 160, .inl f))]) zs.heap zs.heap [] := va_S.rf
  have hl := lv_entry [.ref mo, .int (nI k), .int (nI w)] (n := 7) (Nat.le_of_ble_eq_true rfl)
  rw [lg_entry_eq]
  generalize (lg_sl [.ref mo, .int (nI k), .int (nI w)] ++ List.replicate (7 - (lg_sl [.ref mo, .int (nI k), .int (nI w)]).length) Slot.unset).toArray = ls at hl ⊢
  have hl : lv_has ls 7 [(0, .ref mo), (1, .int (nI k)), (2, .int (nI w))] := hl
  have hin5 : ∀ w ∈ u_ws RX5 TX5 9, w ∈ wsX5_number := by decide +kernel
  have cuts : ∀ fuel : Nat, (∀ (j : Nat), (j ≤ w) → (10 * (w - j)) < fuel → ∀ (ls : Array Slot), lv_has ls 7 [(0, .ref mo), (1, .int (nI k)), (2, .int (nI w)), (3, .int (nI (num bs k j))), (4, .int (nI (k + j)))] → W zp zl ze ({ frames := 0, cells := 0, slots := 0, locals := 0 }) zs zm [.ref mo, .int (nI k), .int (nI w)].toArray zb zt zc zs.heap [] 0 0 (MQ zb (vp_Si (fun r => r = nI (num bs k w))) [.ref mo, .int (nI k), .int (nI w)].toArray zs 0 0 (fun _ => False)) (F0 zm 5 ls [])) ∧ (∀ (j : Nat), ∀ (i : Nat), (j < w) → ((k + j) % 8 + i ≤ 7) → (10 * (w - j - 1) + (8 - i)) < fuel → ∀ (ls : Array Slot), lv_has ls 7 [(0, .ref mo), (1, .int (nI k)), (2, .int (nI w)), (3, .int (nI (num bs k j))), (4, .int (nI (k + j))), (5, .int (nI (bs.getD (3 + (k + j) / 8) 0 / 2 ^ i))), (6, .int (nI ((k + j) % 8 + i)))] → W zp zl ze ({ frames := 0, cells := 0, slots := 0, locals := 0 }) zs zm [.ref mo, .int (nI k), .int (nI w)].toArray zb zt zc zs.heap [] 0 0 (MQ zb (vp_Si (fun r => r = nI (num bs k w))) [.ref mo, .int (nI k), .int (nI w)].toArray zs 0 0 (fun _ => False)) (F0 zm 34 ls [])) := by
    intro fuel
    induction fuel with
    | zero => exact ⟨(by intros; exact absurd (by assumption) (Nat.not_lt_zero _)), (by intros; exact absurd (by assumption) (Nat.not_lt_zero _))⟩
    | succ fuel ih =>
      refine ⟨?_, ?_⟩
      · intro j hj hm ls hl
        have hy := hB (3 + (k + j) / 8)
        refine lv_iload hx hb dX5_number_5 (lv_at hl 4 rfl) ?_
        refine lv_iload_n hx hb dX5_number_7 rfl (lv_at hl 1 rfl) ?_
        refine lv_iload_n hx hb dX5_number_8 rfl (lv_at hl 2 rfl) ?_
        refine lv_iadd hx hb dX5_number_9 ?_
        refine r_i (v := nI (k + w)) (nI_add _ _) ?_
        refine rn_ge (tgt := 68) hx hb dX5_number_10 (by decide) (by omega) (by omega) (fun c_10 => ?_) (fun c_10 => ?_)
        · skip
          refine lv_iload_n hx hb dX5_number_68 rfl (lv_at hl 3 rfl) ?_
          exact W.iret (v := nI (num bs k j)) hx hb hr (fun tz htz hWz => ⟨_, rfl, by have e : j = w := (by omega); rw [e], htz⟩) (fun _ h => absurd h List.not_mem_nil) dX5_number_69
        · skip
          refine lv_aload_n hx hb dX5_number_13 rfl (lv_at hl 0 rfl) ?_
          refine va_get (D := D) (ci := 5) (v := .ref vk) (C := RX5) (T := TX5) (N := 9) hx hb hts hin5 hown hK hP 0 rfl rfl 1 (by decide) (hts (.fieldLink RX5 7 "EpochSifterModel" "kept" "[I") (by decide +kernel)) (fun _ h9 => h9) rfl dX5_number_14 ?_
          refine lv_iconst (v := nI 3) hx hb dX5_number_17 (by decide) ?_
          refine lv_iload hx hb dX5_number_18 (lv_at hl 4 rfl) ?_
          refine lv_bipush (v := nI 8) hx hb dX5_number_20 (by decide) ?_
          refine lv_idiv hx hb dX5_number_22 (nI_ne0 (by omega) (by omega)) ?_
          refine r_i (v := nI ((k + j) / 8)) (pk_div (by omega) (by omega) (by omega)) ?_
          refine lv_iadd hx hb dX5_number_23 ?_
          refine r_i (v := nI (3 + ((k + j) / 8))) (nI_add _ _) ?_
          refine a_ild (v := nI (bs.getD (3 + (k + j) / 8) 0)) hx hb hK hP 1 0 rfl rfl (by omega) (by decide) (hf (3 + (k + j) / 8) (by omega)) dX5_number_24 ?_
          refine lv_istore (lv' := [(5, .int (nI (bs.getD (3 + (k + j) / 8) 0))), (0, .ref mo), (1, .int (nI k)), (2, .int (nI w)), (3, .int (nI (num bs k j))), (4, .int (nI (k + j)))]) hx hb dX5_number_25 hl (by decide) rfl (fun ls hl => ?_)
          refine lv_iload hx hb dX5_number_27 (lv_at hl 5 rfl) ?_
          refine lv_bipush (v := nI 8) hx hb dX5_number_29 (by decide) ?_
          refine lv_irem hx hb dX5_number_31 (nI_ne0 (by omega) (by omega)) ?_
          refine r_i (v := nI ((k + j) % 8)) (pk_rem (by omega) (by omega) (by omega)) ?_
          refine lv_istore (lv' := [(6, .int (nI ((k + j) % 8))), (5, .int (nI (bs.getD (3 + (k + j) / 8) 0))), (0, .ref mo), (1, .int (nI k)), (2, .int (nI w)), (3, .int (nI (num bs k j))), (4, .int (nI (k + j)))]) hx hb dX5_number_32 hl (by decide) rfl (fun ls hl => ?_)
          have hl : lv_has ls 7 [(6, .int (nI ((k + j) % 8 + 0))), (5, .int (nI (bs.getD (3 + (k + j) / 8) 0 / 2 ^ 0))), (0, .ref mo), (1, .int (nI k)), (2, .int (nI w)), (3, .int (nI (num bs k j))), (4, .int (nI (k + j)))] := by rw [Nat.pow_zero, Nat.div_one]; exact hl
          exact ih.2 j 0 (by first | assumption | omega) (by omega) (by omega) ls (lv_sub hl [2, 3, 4, 5, 6, 1, 0] rfl)
      · intro j i hj hi hm ls hl
        have hy := hB (3 + (k + j) / 8)
        refine lv_iload hx hb dX5_number_34 (lv_at hl 6 rfl) ?_
        refine lv_bipush (v := nI 7) hx hb dX5_number_36 (by decide) ?_
        refine rn_ge (tgt := 53) hx hb dX5_number_38 (by decide) (by omega) (by omega) (fun c_38 => ?_) (fun c_38 => ?_)
        · skip
          refine lv_iconst (v := nI 2) hx hb dX5_number_53 (by decide) ?_
          refine lv_iload_n hx hb dX5_number_54 rfl (lv_at hl 3 rfl) ?_
          refine lv_imul hx hb dX5_number_55 ?_
          refine r_i (v := nI (2 * (num bs k j))) (pk_mul _ _) ?_
          refine lv_iload hx hb dX5_number_56 (lv_at hl 5 rfl) ?_
          refine lv_iconst (v := nI 2) hx hb dX5_number_58 (by decide) ?_
          refine lv_irem hx hb dX5_number_59 (nI_ne0 (by omega) (by omega)) ?_
          refine r_i (v := nI (bt bs (k + j))) ((pk_rem (div_lt (by omega)) (by omega) (by omega)).trans (congrArg nI (by unfold bt; rw [show i = 7 - (k + j) % 8 by omega]))) ?_
          refine lv_iadd hx hb dX5_number_60 ?_
          refine r_i (v := nI (2 * (num bs k j) + (bt bs (k + j)))) (nI_add _ _) ?_
          refine r_i (v := nI (num bs k (j + 1))) (rfl) ?_
          refine lv_istore_n (lv' := [(3, .int (nI (num bs k (j + 1)))), (0, .ref mo), (1, .int (nI k)), (2, .int (nI w)), (4, .int (nI (k + j))), (5, .int (nI (bs.getD (3 + (k + j) / 8) 0 / 2 ^ i))), (6, .int (nI ((k + j) % 8 + i)))]) hx hb dX5_number_61 rfl hl (by decide) rfl (fun ls hl => ?_)
          refine lv_iinc (v := nI (k + (j + 1))) (lv' := [(4, .int (nI (k + (j + 1)))), (3, .int (nI (num bs k (j + 1)))), (0, .ref mo), (1, .int (nI k)), (2, .int (nI w)), (5, .int (nI (bs.getD (3 + (k + j) / 8) 0 / 2 ^ i))), (6, .int (nI ((k + j) % 8 + i)))]) hx hb dX5_number_62 hl (k := 4) rfl (nI_add _ _) (by decide) rfl (fun ls hl => ?_)
          refine lv_goto (tgt := 5) hx hb dX5_number_65 (by decide) ?_
          exact ih.1 (j + 1) (by first | assumption | omega) (by omega) ls (lv_sub hl [2, 3, 4, 1, 0] rfl)
        · skip
          refine lv_iload hx hb dX5_number_41 (lv_at hl 5 rfl) ?_
          refine lv_iconst (v := nI 2) hx hb dX5_number_43 (by decide) ?_
          refine lv_idiv hx hb dX5_number_44 (nI_ne0 (by omega) (by omega)) ?_
          refine r_i (v := nI (bs.getD (3 + (k + j) / 8) 0 / 2 ^ (i + 1))) ((pk_div (div_lt (by omega)) (by omega) (by omega)).trans (congrArg nI (by rw [Nat.div_div_eq_div_mul, ← Nat.pow_succ]))) ?_
          refine lv_istore (lv' := [(5, .int (nI (bs.getD (3 + (k + j) / 8) 0 / 2 ^ (i + 1)))), (0, .ref mo), (1, .int (nI k)), (2, .int (nI w)), (3, .int (nI (num bs k j))), (4, .int (nI (k + j))), (6, .int (nI ((k + j) % 8 + i)))]) hx hb dX5_number_45 hl (by decide) rfl (fun ls hl => ?_)
          refine lv_iinc (v := nI ((k + j) % 8 + (i + 1))) (lv' := [(6, .int (nI ((k + j) % 8 + (i + 1)))), (5, .int (nI (bs.getD (3 + (k + j) / 8) 0 / 2 ^ (i + 1)))), (0, .ref mo), (1, .int (nI k)), (2, .int (nI w)), (3, .int (nI (num bs k j))), (4, .int (nI (k + j)))]) hx hb dX5_number_47 hl (k := 6) rfl (nI_add _ _) (by decide) rfl (fun ls hl => ?_)
          refine lv_goto (tgt := 34) hx hb dX5_number_50 (by decide) ?_
          exact ih.2 j (i + 1) (by first | assumption | omega) (by omega) (by omega) ls (lv_sub hl [2, 3, 4, 5, 6, 1, 0] rfl)
  refine lv_iconst (v := nI 0) hx hb dX5_number_0 (by decide) ?_
  refine lv_istore_n (lv' := [(3, .int (nI 0)), (0, .ref mo), (1, .int (nI k)), (2, .int (nI w))]) hx hb dX5_number_1 rfl hl (by decide) rfl (fun ls hl => ?_)
  refine lv_iload_n hx hb dX5_number_2 rfl (lv_at hl 2 rfl) ?_
  refine lv_istore (lv' := [(4, .int (nI k)), (3, .int (nI 0)), (0, .ref mo), (1, .int (nI k)), (2, .int (nI w))]) hx hb dX5_number_3 hl (by decide) rfl (fun ls hl => ?_)
  exact (cuts _).1 0 (by first | assumption | omega) (Nat.lt_succ_self _) ls (lv_sub hl [2, 3, 4, 1, 0] rfl)
set_option maxHeartbeats 4000000 in
set_option maxRecDepth 100000 in
/-- 15 bits with their sign -/
theorem c_X5_signed {zl : Launch} {D : va_G} {cI cD : ClassId} (mo : Nat) (n : Nat) (vk : Nat) (vc : Nat) (vt : Nat) (vn : Nat) (vr : Nat) (vs : Nat) (ve : Nat) (vp : Nat) (f : Nat → Int32) (bs : List Nat) (k : Nat) (hf : Rp f bs) (hbn : bs.length = n) (hn : n ≤ 160) (hB : By bs) (hkw : 3 ≤ n ∧ k + 15 ≤ 8 * (n - 3)) : Ci zl yX5_signed wsX5_signed ({ frames := 1, cells := 0, slots := 0, locals := 26 }) D cI cD [.ref mo, .int (nI k), .int (nI 15)] [(mo, .inr (5, [.int (nI n), .ref vk, .ref vc, .ref vt, .ref vn, .ref vr, .ref vs, .ref ve, .ref vp])), (vk, .inl (cI, 160, .inl f))] (fun r => r = sg15 (num bs k 15)) := by
  refine Met.ofW (cc := cX5_signed) (maxL := 4) (ret := (some .int)) (by decide) rfl ?_
  intro zp ze zs zm zargs zb zt zc zs₁ B hml hv
  obtain ⟨rfl, hP, hK, hD0, hN⟩ := hv
  have hx := B.exec
  have hb := B.bytes
  have hr := B.returns
  have hts := atoms_spec (ws := wsX5_signed) B.pre
  have hown : zs.vm.findClass RX5 = some zm.cls := findClass_of_methodNamed B.named
  have hlocks := B.notSynchronized
  have hD := inW_self hD0
  have hS : va_S (inW [(mo, .inr (5, [.int (nI n), .ref vk, .ref vc, .ref vt, .ref vn, .ref vr, .ref vs, .ref ve, .ref vp])), (vk, .inl (cI, 160, .inl f))]) zs.heap zs.heap [] := va_S.rf
  have hl := lv_entry [.ref mo, .int (nI k), .int (nI 15)] (n := 4) (Nat.le_of_ble_eq_true rfl)
  rw [lg_entry_eq]
  generalize (lg_sl [.ref mo, .int (nI k), .int (nI 15)] ++ List.replicate (4 - (lg_sl [.ref mo, .int (nI k), .int (nI 15)]).length) Slot.unset).toArray = ls at hl ⊢
  have hl : lv_has ls 4 [(0, .ref mo), (1, .int (nI k)), (2, .int (nI 15))] := hl
  have z1 := bt_lt bs k
  refine lv_aload_n hx hb dX5_signed_0 rfl (lv_at hl 0 rfl) ?_
  refine lv_iload_n hx hb dX5_signed_1 rfl (lv_at hl 1 rfl) ?_
  refine lv_iconst (v := nI 1) hx hb dX5_signed_2 (by decide) ?_
  refine lv_iadd hx hb dX5_signed_3 ?_
  refine r_i (v := nI (k + 1)) (nI_add _ _) ?_
  refine lv_iload_n hx hb dX5_signed_4 rfl (lv_at hl 2 rfl) ?_
  refine lv_iconst (v := nI 1) hx hb dX5_signed_5 (by decide) ?_
  refine lv_isub hx hb dX5_signed_6 ?_
  refine r_i (v := nI 14) (by decide) ?_
  refine r_callVi (As := [.int (nI (k + 1)), .int (nI 14)]) (rest := []) ⟨hx, hb, hml, hown, hts⟩ (c_X5_number (zl := zl) (D := D) (cI := cI) (cD := cD) mo n vk vc vt vn vr vs ve vp f bs (k + 1) 14 (by first | assumption | omega) (by first | assumption | omega) (by first | assumption | omega) (by first | assumption | omega) (by first | assumption | omega) (by first | assumption | omega)) (cwV 2 hts gX5_signed_X5_number rfl rfl rfl (by decide +kernel) ⟨Nat.le_of_ble_eq_true rfl, Nat.le_of_ble_eq_true rfl⟩) hK hN hP hD [0, 1] rfl rfl 0 rfl rfl rfl hl.1 rfl (Nat.le_of_ble_eq_true rfl) dX5_signed_7 ⟨Nat.le_of_ble_eq_true rfl, Nat.le_of_ble_eq_true rfl⟩ (fun r_1 h_1 => ?_)
  obtain rfl := h_1
  refine lv_istore_n (lv' := [(3, .int (nI (num bs (k + 1) 14))), (0, .ref mo), (1, .int (nI k)), (2, .int (nI 15))]) hx hb dX5_signed_10 rfl hl (by decide) rfl (fun ls hl => ?_)
  refine lv_aload_n hx hb dX5_signed_11 rfl (lv_at hl 1 rfl) ?_
  refine lv_iload_n hx hb dX5_signed_12 rfl (lv_at hl 2 rfl) ?_
  refine lv_iconst (v := nI 1) hx hb dX5_signed_13 (by decide) ?_
  refine r_callVi (As := [.int (nI k), .int (nI 1)]) (rest := []) ⟨hx, hb, hml, hown, hts⟩ (c_X5_number (zl := zl) (D := D) (cI := cI) (cD := cD) mo n vk vc vt vn vr vs ve vp f bs k 1 (by first | assumption | omega) (by first | assumption | omega) (by first | assumption | omega) (by first | assumption | omega) (by first | assumption | omega) (by first | assumption | omega)) (cwV 2 hts gX5_signed_X5_number rfl rfl rfl (by decide +kernel) ⟨Nat.le_of_ble_eq_true rfl, Nat.le_of_ble_eq_true rfl⟩) hK hN hP hD [0, 1] rfl rfl 0 rfl rfl rfl hl.1 rfl (Nat.le_of_ble_eq_true rfl) dX5_signed_14 ⟨Nat.le_of_ble_eq_true rfl, Nat.le_of_ble_eq_true rfl⟩ (fun r_2 h_2 => ?_)
  obtain rfl := h_2
  refine r_i (v := nI (bt bs k)) (congrArg nI (num_one _ _)) ?_
  refine lv_iconst (v := nI 1) hx hb dX5_signed_17 (by decide) ?_
  refine rn_ne (tgt := 31) hx hb dX5_signed_18 (by decide) (by omega) (by omega) (fun c_18 => ?_) (fun c_18 => ?_)
  · skip
    refine lv_iload_n hx hb dX5_signed_31 rfl (lv_at hl 0 rfl) ?_
    exact W.iret (v := nI (num bs (k + 1) 14)) hx hb hr (fun tz htz hWz => ⟨_, rfl, by rw [sg15_num, if_neg c_18], htz⟩) (fun _ h => absurd h List.not_mem_nil) dX5_signed_32
  · skip
    refine lv_iload_n hx hb dX5_signed_21 rfl (lv_at hl 0 rfl) ?_
    refine lv_iconst (v := nI 1) hx hb dX5_signed_22 (by decide) ?_
    refine lv_iload_n hx hb dX5_signed_23 rfl (lv_at hl 3 rfl) ?_
    refine lv_iconst (v := nI 1) hx hb dX5_signed_24 (by decide) ?_
    refine lv_isub hx hb dX5_signed_25 ?_
    refine r_i (v := nI 14) (by decide) ?_
    refine lv_ishl hx hb dX5_signed_26 ?_
    refine r_i (v := nI (1 * 16384)) (pk_shlN _ 14 (by decide) (by omega)) ?_
    refine lv_isub hx hb dX5_signed_27 ?_
    refine r_i (v := nI (num bs (k + 1) 14) - nI 16384) (rfl) ?_
    refine lv_goto (tgt := 32) hx hb dX5_signed_28 (by decide) ?_
    exact W.iret (v := nI (num bs (k + 1) 14) - nI 16384) hx hb hr (fun tz htz hWz => ⟨_, rfl, by rw [sg15_num, if_pos c_18], htz⟩) (fun _ h => absurd h List.not_mem_nil) dX5_signed_32
set_option maxHeartbeats 4000000 in
set_option maxRecDepth 100000 in
/-- how many bits are on -/
theorem c_X5_ones {zl : Launch} {D : va_G} {cI cD : ClassId} (mo : Nat) (n : Nat) (vk : Nat) (vc : Nat) (vt : Nat) (vn : Nat) (vr : Nat) (vs : Nat) (ve : Nat) (vp : Nat) (f : Nat → Int32) (bs : List Nat) (k : Nat) (w : Nat) (hf : Rp f bs) (hbn : bs.length = n) (hn : n ≤ 160) (hB : By bs) (hw : w ≤ 200) (hkw : 3 ≤ n ∧ k + w ≤ 8 * (n - 3)) : Ci zl yX5_ones wsX5_ones ({ frames := 1, cells := 0, slots := 0, locals := 26 }) D cI cD [.ref mo, .int (nI k), .int (nI w)] [(mo, .inr (5, [.int (nI n), .ref vk, .ref vc, .ref vt, .ref vn, .ref vr, .ref vs, .ref ve, .ref vp])), (vk, .inl (cI, 160, .inl f))] (fun r => r = nI (ons bs k w)) := by
  refine Met.ofW (cc := cX5_ones) (maxL := 5) (ret := (some .int)) (by decide) rfl ?_
  intro zp ze zs zm zargs zb zt zc zs₁ B hml hv
  obtain ⟨rfl, hP, hK, hD0, hN⟩ := hv
  have hx := B.exec
  have hb := B.bytes
  have hr := B.returns
  have hts := atoms_spec (ws := wsX5_ones) B.pre
  have hown : zs.vm.findClass RX5 = some zm.cls := findClass_of_methodNamed B.named
  have hlocks := B.notSynchronized
  have hD := inW_self hD0
  have hS : va_S (inW [(mo, .inr (5, [.int (nI n), .ref vk, .ref vc, .ref vt, .ref vn, .ref vr, .ref vs, .ref ve, .ref vp])), (vk, .inl (cI, 160, .inl f))]) zs.heap zs.heap [] := va_S.rf
  have hl := lv_entry [.ref mo, .int (nI k), .int (nI w)] (n := 5) (Nat.le_of_ble_eq_true rfl)
  rw [lg_entry_eq]
  generalize (lg_sl [.ref mo, .int (nI k), .int (nI w)] ++ List.replicate (5 - (lg_sl [.ref mo, .int (nI k), .int (nI w)]).length) Slot.unset).toArray = ls at hl ⊢
  have hl : lv_has ls 5 [(0, .ref mo), (1, .int (nI k)), (2, .int (nI w))] := hl
  have cuts : ∀ fuel : Nat, (∀ (j : Nat), (j ≤ w) → (w - j) < fuel → ∀ (ls : Array Slot), lv_has ls 5 [(0, .ref mo), (1, .int (nI k)), (2, .int (nI w)), (3, .int (nI (ons bs k j))), (4, .int (nI (k + j)))] → W zp zl ze ({ frames := 1, cells := 0, slots := 0, locals := 26 }) zs zm [.ref mo, .int (nI k), .int (nI w)].toArray zb zt zc zs.heap [] 0 0 (MQ zb (vp_Si (fun r => r = nI (ons bs k w))) [.ref mo, .int (nI k), .int (nI w)].toArray zs 0 0 (fun _ => False)) (F0 zm 5 ls [])) := by
    intro fuel
    induction fuel with
    | zero => exact (by intros; exact absurd (by assumption) (Nat.not_lt_zero _))
    | succ fuel ih =>
      intro j hj hm ls hl
      refine lv_iload hx hb dX5_ones_5 (lv_at hl 4 rfl) ?_
      refine lv_iload_n hx hb dX5_ones_7 rfl (lv_at hl 1 rfl) ?_
      refine lv_iload_n hx hb dX5_ones_8 rfl (lv_at hl 2 rfl) ?_
      refine lv_iadd hx hb dX5_ones_9 ?_
      refine r_i (v := nI (k + w)) (nI_add _ _) ?_
      refine rn_ge (tgt := 29) hx hb dX5_ones_10 (by decide) (by omega) (by omega) (fun c_10 => ?_) (fun c_10 => ?_)
      · skip
        refine lv_iload_n hx hb dX5_ones_29 rfl (lv_at hl 3 rfl) ?_
        exact W.iret (v := nI (ons bs k j)) hx hb hr (fun tz htz hWz => ⟨_, rfl, by have e : j = w := (by omega); rw [e], htz⟩) (fun _ h => absurd h List.not_mem_nil) dX5_ones_30
      · skip
        refine lv_iload_n hx hb dX5_ones_13 rfl (lv_at hl 3 rfl) ?_
        refine lv_aload_n hx hb dX5_ones_14 rfl (lv_at hl 0 rfl) ?_
        refine lv_iload hx hb dX5_ones_15 (lv_at hl 4 rfl) ?_
        refine lv_iconst (v := nI 1) hx hb dX5_ones_17 (by decide) ?_
        refine r_callVi (As := [.int (nI (k + j)), .int (nI 1)]) (rest := [.int (nI (ons bs k j))]) ⟨hx, hb, hml, hown, hts⟩ (c_X5_number (zl := zl) (D := D) (cI := cI) (cD := cD) mo n vk vc vt vn vr vs ve vp f bs (k + j) 1 (by first | assumption | omega) (by first | assumption | omega) (by first | assumption | omega) (by first | assumption | omega) (by first | assumption | omega) (by first | assumption | omega)) (cwV 2 hts gX5_ones_X5_number rfl rfl rfl (by decide +kernel) ⟨Nat.le_of_ble_eq_true rfl, Nat.le_of_ble_eq_true rfl⟩) hK hN hP hD [0, 1] rfl rfl 0 rfl rfl rfl hl.1 rfl (Nat.le_of_ble_eq_true rfl) dX5_ones_18 ⟨Nat.le_of_ble_eq_true rfl, Nat.le_of_ble_eq_true rfl⟩ (fun r_1 h_1 => ?_)
        obtain rfl := h_1
        refine r_i (v := nI (bt bs (k + j))) (congrArg nI (num_one _ _)) ?_
        refine lv_iadd hx hb dX5_ones_21 ?_
        refine r_i (v := nI (ons bs k j + (bt bs (k + j)))) (nI_add _ _) ?_
        refine r_i (v := nI (ons bs k (j + 1))) (rfl) ?_
        refine lv_istore_n (lv' := [(3, .int (nI (ons bs k (j + 1)))), (0, .ref mo), (1, .int (nI k)), (2, .int (nI w)), (4, .int (nI (k + j)))]) hx hb dX5_ones_22 rfl hl (by decide) rfl (fun ls hl => ?_)
        refine lv_iinc (v := nI (k + (j + 1))) (lv' := [(4, .int (nI (k + (j + 1)))), (3, .int (nI (ons bs k (j + 1)))), (0, .ref mo), (1, .int (nI k)), (2, .int (nI w))]) hx hb dX5_ones_23 hl (k := 4) rfl (nI_add _ _) (by decide) rfl (fun ls hl => ?_)
        refine lv_goto (tgt := 5) hx hb dX5_ones_26 (by decide) ?_
        exact ih (j + 1) (by first | assumption | omega) (by omega) ls (lv_sub hl [2, 3, 4, 1, 0] rfl)
  refine lv_iconst (v := nI 0) hx hb dX5_ones_0 (by decide) ?_
  refine lv_istore_n (lv' := [(3, .int (nI 0)), (0, .ref mo), (1, .int (nI k)), (2, .int (nI w))]) hx hb dX5_ones_1 rfl hl (by decide) rfl (fun ls hl => ?_)
  refine lv_iload_n hx hb dX5_ones_2 rfl (lv_at hl 2 rfl) ?_
  refine lv_istore (lv' := [(4, .int (nI k)), (3, .int (nI 0)), (0, .ref mo), (1, .int (nI k)), (2, .int (nI w))]) hx hb dX5_ones_3 hl (by decide) rfl (fun ls hl => ?_)
  exact (cuts _) 0 (by first | assumption | omega) (Nat.lt_succ_self _) ls (lv_sub hl [2, 3, 4, 1, 0] rfl)
set_option maxHeartbeats 4000000 in
set_option maxRecDepth 100000 in
/-- a counter grows -/
theorem c_X5_bump {zl : Launch} {D : va_G} {cI cD : ClassId} (mo : Nat) (n : Nat) (vk : Nat) (vc : Nat) (vt : Nat) (vn : Nat) (vr : Nat) (vs : Nat) (ve : Nat) (vp : Nat) (kc : Nat → Int32) (k : Nat) (hk : k < 8) : Cx zl yX5_bump wsX5_bump ({ frames := 0, cells := 0, slots := 0, locals := 0 }) D cI cD [.ref mo, .int (nI k)] [(mo, .inr (5, [.int (nI n), .ref vk, .ref vc, .ref vt, .ref vn, .ref vr, .ref vs, .ref ve, .ref vp])), (vc, .inl (cI, 8, .inl kc))] (fun v w1 => w1 = [(mo, .inr (5, [.int (nI n), .ref vk, .ref vc, .ref vt, .ref vn, .ref vr, .ref vs, .ref ve, .ref vp])), (vc, .inl (cI, 8, .inl (bmp kc k)))] ∧ v = none) := by
  refine Met.ofW (cc := cX5_bump) (maxL := 2) (ret := none) (by decide) rfl ?_
  intro zp ze zs zm zargs zb zt zc zs₁ B hml hv
  obtain ⟨rfl, hP, hK, hD0, hN⟩ := hv
  have hx := B.exec
  have hb := B.bytes
  have hr := B.returns
  have hts := atoms_spec (ws := wsX5_bump) B.pre
  have hown : zs.vm.findClass RX5 = some zm.cls := findClass_of_methodNamed B.named
  have hlocks := B.notSynchronized
  have hD := inW_self hD0
  have hS : va_S (inW [(mo, .inr (5, [.int (nI n), .ref vk, .ref vc, .ref vt, .ref vn, .ref vr, .ref vs, .ref ve, .ref vp])), (vc, .inl (cI, 8, .inl kc))]) zs.heap zs.heap [] := va_S.rf
  have hl := lv_entry [.ref mo, .int (nI k)] (n := 2) (Nat.le_of_ble_eq_true rfl)
  rw [lg_entry_eq]
  generalize (lg_sl [.ref mo, .int (nI k)] ++ List.replicate (2 - (lg_sl [.ref mo, .int (nI k)]).length) Slot.unset).toArray = ls at hl ⊢
  have hl : lv_has ls 2 [(0, .ref mo), (1, .int (nI k))] := hl
  have hin5 : ∀ w ∈ u_ws RX5 TX5 9, w ∈ wsX5_bump := by decide +kernel
  refine lv_aload_n hx hb dX5_bump_0 rfl (lv_at hl 0 rfl) ?_
  refine va_get (D := D) (ci := 5) (v := .ref vc) (C := RX5) (T := TX5) (N := 9) hx hb hts hin5 hown hK hP 0 rfl rfl 2 (by decide) (hts (.fieldLink RX5 13 "EpochSifterModel" "counts" "[I") (by decide +kernel)) (fun _ h9 => h9) rfl dX5_bump_1 ?_
  refine lv_iload_n hx hb dX5_bump_4 rfl (lv_at hl 1 rfl) ?_
  refine lv_aload_n hx hb dX5_bump_5 rfl (lv_at hl 0 rfl) ?_
  refine va_get (D := D) (ci := 5) (v := .ref vc) (C := RX5) (T := TX5) (N := 9) hx hb hts hin5 hown hK hP 0 rfl rfl 2 (by decide) (hts (.fieldLink RX5 13 "EpochSifterModel" "counts" "[I") (by decide +kernel)) (fun _ h9 => h9) rfl dX5_bump_6 ?_
  refine lv_iload_n hx hb dX5_bump_9 rfl (lv_at hl 1 rfl) ?_
  refine a_ild (v := kc k) hx hb hK hP 1 0 rfl rfl (by omega) (by decide) (rfl) dX5_bump_10 ?_
  refine lv_iconst (v := nI 1) hx hb dX5_bump_11 (by decide) ?_
  refine lv_iadd hx hb dX5_bump_12 ?_
  refine a_ist hx hb hK hP hD hS 1 0 rfl rfl (by omega) (by decide) dX5_bump_13 (fun H locs hP hD hS => ?_)
  have hP : va_P D vwCl [(mo, .inr (5, [.int (nI n), .ref vk, .ref vc, .ref vt, .ref vn, .ref vr, .ref vs, .ref ve, .ref vp])), (vc, .inl (cI, 8, .inl (bmp kc k)))] _ := hP
  have hD : va_D (inW [(mo, .inr (5, [.int (nI n), .ref vk, .ref vc, .ref vt, .ref vn, .ref vr, .ref vs, .ref ve, .ref vp])), (vc, .inl (cI, 8, .inl kc))]) [(mo, .inr (5, [.int (nI n), .ref vk, .ref vc, .ref vt, .ref vn, .ref vr, .ref vs, .ref ve, .ref vp])), (vc, .inl (cI, 8, .inl (bmp kc k)))] := hD
  exact W.vret hx hb hr (fun tz htz hWz => ⟨none, [(mo, .inr (5, [.int (nI n), .ref vk, .ref vc, .ref vt, .ref vn, .ref vr, .ref vs, .ref ve, .ref vp])), (vc, .inl (cI, 8, .inl (bmp kc k)))], rfl, ⟨rfl, rfl⟩, rfl, by rw [htz]; exact hP, hS.F htz⟩) (fun q h => hS.2.2 q h) dX5_bump_14
set_option maxHeartbeats 4000000 in
set_option maxRecDepth 100000 in
/-- the k-th bit that is on -/
theorem c_X5_nth {zl : Launch} {D : va_G} {cI cD : ClassId} (mo : Nat) (n : Nat) (vk : Nat) (vc : Nat) (vt : Nat) (vn : Nat) (vr : Nat) (vs : Nat) (ve : Nat) (vp : Nat) (f : Nat → Int32) (bs : List Nat) (t : Nat) (k : Nat) (i : Nat) (w : Nat) (hf : Rp f bs) (hbn : bs.length = n) (hn : n ≤ 160) (hB : By bs) (hi : i < w ∧ w ≤ 16) (hbi : bt bs (t + i) = 1) (hoi : ons bs t i = k) (hkw : 3 ≤ n ∧ t + w ≤ 8 * (n - 3)) : Ci zl yX5_nth wsX5_nth ({ frames := 1, cells := 0, slots := 0, locals := 26 }) D cI cD [.ref mo, .int (nI t), .int (nI k)] [(mo, .inr (5, [.int (nI n), .ref vk, .ref vc, .ref vt, .ref vn, .ref vr, .ref vs, .ref ve, .ref vp])), (vk, .inl (cI, 160, .inl f))] (fun r => r = nI (i + 1)) := by
  refine Met.ofW (cc := cX5_nth) (maxL := 5) (ret := (some .int)) (by decide) rfl ?_
  intro zp ze zs zm zargs zb zt zc zs₁ B hml hv
  obtain ⟨rfl, hP, hK, hD0, hN⟩ := hv
  have hx := B.exec
  have hb := B.bytes
  have hr := B.returns
  have hts := atoms_spec (ws := wsX5_nth) B.pre
  have hown : zs.vm.findClass RX5 = some zm.cls := findClass_of_methodNamed B.named
  have hlocks := B.notSynchronized
  have hD := inW_self hD0
  have hS : va_S (inW [(mo, .inr (5, [.int (nI n), .ref vk, .ref vc, .ref vt, .ref vn, .ref vr, .ref vs, .ref ve, .ref vp])), (vk, .inl (cI, 160, .inl f))]) zs.heap zs.heap [] := va_S.rf
  have hl := lv_entry [.ref mo, .int (nI t), .int (nI k)] (n := 5) (Nat.le_of_ble_eq_true rfl)
  rw [lg_entry_eq]
  generalize (lg_sl [.ref mo, .int (nI t), .int (nI k)] ++ List.replicate (5 - (lg_sl [.ref mo, .int (nI t), .int (nI k)]).length) Slot.unset).toArray = ls at hl ⊢
  have hl : lv_has ls 5 [(0, .ref mo), (1, .int (nI t)), (2, .int (nI k))] := hl
  have cuts : ∀ fuel : Nat, (∀ (j : Nat), (j ≤ i + 1) → (17 - j) < fuel → ∀ (ls : Array Slot), lv_has ls 5 [(0, .ref mo), (1, .int (nI t)), (3, .int (nI k - nI (ons bs t j))), (4, .int (nI j))] → W zp zl ze ({ frames := 1, cells := 0, slots := 0, locals := 26 }) zs zm [.ref mo, .int (nI t), .int (nI k)].toArray zb zt zc zs.heap [] 0 0 (MQ zb (vp_Si (fun r => r = nI (i + 1))) [.ref mo, .int (nI t), .int (nI k)].toArray zs 0 0 (fun _ => False)) (F0 zm 5 ls [])) := by
    intro fuel
    induction fuel with
    | zero => exact (by intros; exact absurd (by assumption) (Nat.not_lt_zero _))
    | succ fuel ih =>
      intro j hj hm ls hl
      have o1 := ons_le bs t i
      have o2 := ons_le bs t j
      have o3 : ons bs t (i + 1) = ons bs t i + bt bs (t + i) := rfl
      have o4 : j ≤ i → ons bs t j ≤ ons bs t i := fun h => ons_mono bs t h
      refine lv_iload_n hx hb dX5_nth_5 rfl (lv_at hl 2 rfl) ?_
      refine lv_if_lt (tgt := 30) hx hb dX5_nth_6 (by decide) (fun c_6 => ?_) (fun c_6 => ?_)
      · skip
        have hj9 : j = i + 1 := by (refine Classical.byContradiction fun q => ?_); rw [pk_sub (by omega)] at c_6; exact nI_pos (by omega) c_6
        refine lv_iload hx hb dX5_nth_30 (lv_at hl 3 rfl) ?_
        exact W.iret (v := nI j) hx hb hr (fun tz htz hWz => ⟨_, rfl, by rw [hj9], htz⟩) (fun _ h => absurd h List.not_mem_nil) dX5_nth_32
      · skip
        have hj9 : j ≤ i := by (refine Classical.byContradiction fun q => ?_); obtain rfl : j = i + 1 := (by omega); exact c_6 (pk_sneg (by omega) (by omega))
        refine lv_iload_n hx hb dX5_nth_9 rfl (lv_at hl 2 rfl) ?_
        refine lv_aload_n hx hb dX5_nth_10 rfl (lv_at hl 0 rfl) ?_
        refine lv_iload_n hx hb dX5_nth_11 rfl (lv_at hl 1 rfl) ?_
        refine lv_iload hx hb dX5_nth_12 (lv_at hl 3 rfl) ?_
        refine lv_iadd hx hb dX5_nth_14 ?_
        refine r_i (v := nI (t + j)) (nI_add _ _) ?_
        refine lv_iconst (v := nI 1) hx hb dX5_nth_15 (by decide) ?_
        refine r_callVi (As := [.int (nI (t + j)), .int (nI 1)]) (rest := [.int (nI k - nI (ons bs t j))]) ⟨hx, hb, hml, hown, hts⟩ (c_X5_number (zl := zl) (D := D) (cI := cI) (cD := cD) mo n vk vc vt vn vr vs ve vp f bs (t + j) 1 (by first | assumption | omega) (by first | assumption | omega) (by first | assumption | omega) (by first | assumption | omega) (by first | assumption | omega) (by first | assumption | omega)) (cwV 2 hts gX5_nth_X5_number rfl rfl rfl (by decide +kernel) ⟨Nat.le_of_ble_eq_true rfl, Nat.le_of_ble_eq_true rfl⟩) hK hN hP hD [0, 1] rfl rfl 0 rfl rfl rfl hl.1 rfl (Nat.le_of_ble_eq_true rfl) dX5_nth_16 ⟨Nat.le_of_ble_eq_true rfl, Nat.le_of_ble_eq_true rfl⟩ (fun r_1 h_1 => ?_)
        obtain rfl := h_1
        refine lv_isub hx hb dX5_nth_19 ?_
        refine r_i (v := nI k - nI (ons bs t (j + 1))) (by rw [num_one, sub_sub', nI_add]; rfl) ?_
        refine lv_istore_n (lv' := [(3, .int (nI k - nI (ons bs t (j + 1)))), (0, .ref mo), (1, .int (nI t)), (4, .int (nI j))]) hx hb dX5_nth_20 rfl hl (by decide) rfl (fun ls hl => ?_)
        refine lv_iload hx hb dX5_nth_21 (lv_at hl 3 rfl) ?_
        refine lv_iconst (v := nI 1) hx hb dX5_nth_23 (by decide) ?_
        refine lv_iadd hx hb dX5_nth_24 ?_
        refine r_i (v := nI (j + 1)) (nI_add _ _) ?_
        refine lv_istore (lv' := [(4, .int (nI (j + 1))), (3, .int (nI k - nI (ons bs t (j + 1)))), (0, .ref mo), (1, .int (nI t))]) hx hb dX5_nth_25 hl (by decide) rfl (fun ls hl => ?_)
        refine lv_goto (tgt := 5) hx hb dX5_nth_27 (by decide) ?_
        exact ih (j + 1) (by first | assumption | omega) (by omega) ls (lv_sub hl [2, 3, 1, 0] rfl)
  refine lv_iload_n hx hb dX5_nth_0 rfl (lv_at hl 2 rfl) ?_
  refine r_i (v := nI k - nI (ons bs t 0)) (sub_0' _) ?_
  refine lv_istore_n (lv' := [(3, .int (nI k - nI (ons bs t 0))), (0, .ref mo), (1, .int (nI t)), (2, .int (nI k))]) hx hb dX5_nth_1 rfl hl (by decide) rfl (fun ls hl => ?_)
  refine lv_iconst (v := nI 0) hx hb dX5_nth_2 (by decide) ?_
  refine lv_istore (lv' := [(4, .int (nI 0)), (3, .int (nI k - nI (ons bs t 0))), (0, .ref mo), (1, .int (nI t)), (2, .int (nI k))]) hx hb dX5_nth_3 hl (by decide) rfl (fun ls hl => ?_)
  exact (cuts _) 0 (by first | assumption | omega) (Nat.lt_succ_self _) ls (lv_sub hl [2, 3, 1, 0] rfl)
set_option maxHeartbeats 4000000 in
set_option maxRecDepth 100000 in
/-- a range -/
theorem c_X5_reckon {zl : Launch} {D : va_G} {cI cD : ClassId} (a0 : Nat) (a1 : Nat) (a2 : Int32) (h0 : a0 < 2 ^ 31) : Cd zl yX5_reckon wsX5_reckon ({ frames := 0, cells := 0, slots := 0, locals := 0 }) D cI cD [.int (nI a0), .int (nI a1), .int a2] [] (fun r => r = reck a0 a1 a2) := by
  refine Met.ofW (cc := cX5_reckon) (maxL := 5) (ret := (some .double)) (by decide) rfl ?_
  intro zp ze zs zm zargs zb zt zc zs₁ B hml hv
  obtain ⟨rfl, hP, hK, hD0, hN⟩ := hv
  have hx := B.exec
  have hb := B.bytes
  have hr := B.returns
  have hts := atoms_spec (ws := wsX5_reckon) B.pre
  have hown : zs.vm.findClass RX5 = some zm.cls := findClass_of_methodNamed B.named
  have hlocks := B.notSynchronized
  have hD := inW_self hD0
  have hS : va_S (inW []) zs.heap zs.heap [] := va_S.rf
  have hl := lv_entry [.int (nI a0), .int (nI a1), .int a2] (n := 5) (Nat.le_of_ble_eq_true rfl)
  rw [lg_entry_eq]
  generalize (lg_sl [.int (nI a0), .int (nI a1), .int a2] ++ List.replicate (5 - (lg_sl [.int (nI a0), .int (nI a1), .int a2]).length) Slot.unset).toArray = ls at hl ⊢
  have hl : lv_has ls 5 [(0, .int (nI a0)), (1, .int (nI a1)), (2, .int a2)] := hl
  refine lv_iload_n hx hb dX5_reckon_0 rfl (lv_at hl 0 rfl) ?_
  refine lv_sipush (v := nI 255) hx hb dX5_reckon_1 (by decide) ?_
  refine rn_eq (tgt := 14) hx hb dX5_reckon_4 (by decide) (by omega) (by omega) (fun c_4 => ?_) (fun c_4 => ?_)
  · skip
    refine lv_ldc2d (v := 13830554455654793216) hx hb hown (hts (.constantDouble RX5 77 (13830554455654793216)) (by decide +kernel)) dX5_reckon_14 ?_
    exact W.dret (v := 13830554455654793216) hx hb hr (fun tz htz hWz => ⟨_, rfl, by unfold reck; rw [if_pos (by first | exact Or.inl c_4 | exact Or.inr c_11)], htz⟩) (fun _ h => absurd h List.not_mem_nil) dX5_reckon_17
  · skip
    refine lv_iload_n hx hb dX5_reckon_7 rfl (lv_at hl 2 rfl) ?_
    refine lv_sipush (v := (-16384)) hx hb dX5_reckon_8 (by decide) ?_
    refine lv_icmp_ne (tgt := 18) hx hb dX5_reckon_11 (by decide) (fun c_11 => ?_) (fun c_11 => ?_)
    · skip
      refine lv_iload_n hx hb dX5_reckon_18 rfl (lv_at hl 0 rfl) ?_
      refine lv_i2d hx hb dX5_reckon_19 ?_
      refine lv_iload_n hx hb dX5_reckon_20 rfl (lv_at hl 1 rfl) ?_
      refine lv_i2d hx hb dX5_reckon_21 ?_
      refine lv_ldc2d (v := 4652218415073722368) hx hb hown (hts (.constantDouble RX5 79 (4652218415073722368)) (by decide +kernel)) dX5_reckon_22 ?_
      refine lv_ddiv hx hb dX5_reckon_25 (fn_of (rk1 _) (by decide)) ?_
      refine lv_dadd hx hb dX5_reckon_26 (fn_of (rk2 _ _) (by decide)) ?_
      refine lv_dstore_n (lv' := [(3, .double (FP.dadd (FP.i2d (nI a0)) (FP.ddiv (FP.i2d (nI a1)) 4652218415073722368))), (0, .int (nI a0)), (1, .int (nI a1)), (2, .int a2)]) hx hb dX5_reckon_27 rfl hl (by decide) rfl (fun ls hl => ?_)
      refine lv_dload_n hx hb dX5_reckon_28 rfl (lv_at hl 0 rfl) ?_
      refine lv_iload_n hx hb dX5_reckon_29 rfl (lv_at hl 3 rfl) ?_
      refine lv_i2d hx hb dX5_reckon_30 ?_
      refine lv_ldc2d (v := 4715268809856909312) hx hb hown (hts (.constantDouble RX5 81 (4715268809856909312)) (by decide +kernel)) dX5_reckon_31 ?_
      refine lv_ddiv hx hb dX5_reckon_34 (fn_of (rk3 _) (by decide)) ?_
      refine lv_dadd hx hb dX5_reckon_35 (fn_of (rk4 _ _ _) (by decide)) ?_
      refine lv_dstore_n (lv' := [(3, .double (FP.dadd (FP.dadd (FP.i2d (nI a0)) (FP.ddiv (FP.i2d (nI a1)) 4652218415073722368)) (FP.ddiv (FP.i2d a2) 4715268809856909312))), (0, .int (nI a0)), (1, .int (nI a1)), (2, .int a2)]) hx hb dX5_reckon_36 rfl hl (by decide) rfl (fun ls hl => ?_)
      refine lv_dload_n hx hb dX5_reckon_37 rfl (lv_at hl 0 rfl) ?_
      refine lv_ldc2d (v := 4688894007676105654) hx hb hown (hts (.constantDouble RX5 83 (4688894007676105654)) (by decide +kernel)) dX5_reckon_38 ?_
      refine lv_dmul hx hb dX5_reckon_41 (fn_of (rk5 _ _ _) (by decide)) ?_
      exact W.dret (v := FP.dmul (FP.dadd (FP.dadd (FP.i2d (nI a0)) (FP.ddiv (FP.i2d (nI a1)) 4652218415073722368)) (FP.ddiv (FP.i2d a2) 4715268809856909312)) 4688894007676105654) hx hb hr (fun tz htz hWz => ⟨_, rfl, by unfold reck; rw [if_neg (fun z => z.elim c_4 c_11)], htz⟩) (fun _ h => absurd h List.not_mem_nil) dX5_reckon_42
    · skip
      refine lv_ldc2d (v := 13830554455654793216) hx hb hown (hts (.constantDouble RX5 77 (13830554455654793216)) (by decide +kernel)) dX5_reckon_14 ?_
      exact W.dret (v := 13830554455654793216) hx hb hr (fun tz htz hWz => ⟨_, rfl, by unfold reck; rw [if_pos (by first | exact Or.inl c_4 | exact Or.inr c_11)], htz⟩) (fun _ h => absurd h List.not_mem_nil) dX5_reckon_17
set_option maxHeartbeats 4000000 in
set_option maxRecDepth 100000 in
/-- a cell comes -/
theorem c_X5_add {zl : Launch} {D : va_G} {cI cD : ClassId} (mo : Nat) (n : Nat) (vk : Nat) (vc : Nat) (vt : Nat) (vn : Nat) (vr : Nat) (vs : Nat) (ve : Nat) (vp : Nat) (fN : Nat → Int32) (fR : Nat → UInt64) (fS : Nat → Int32) (ep : Nat → Int32) (cs : List Ce) (nm : Int32) (rg : UInt64) (sg : Int32) (hE : RpE fN fR fS cs) (he3 : ep 3 = nI cs.length) (hz : cs.length ≤ 40) : Cx zl yX5_add wsX5_add ({ frames := 0, cells := 0, slots := 0, locals := 0 }) D cI cD [.ref mo, .int nm, .double rg, .int sg] [(mo, .inr (5, [.int (nI n), .ref vk, .ref vc, .ref vt, .ref vn, .ref vr, .ref vs, .ref ve, .ref vp])), (vn, .inl (cI, 80, .inl fN)), (vr, .inl (cD, 80, .inr (.inr (.inr (.inl fR))))), (vs, .inl (cI, 80, .inl fS)), (ve, .inl (cI, 16, .inl ep))] (fun v w1 => ∃ (fNo : Nat → Int32), ∃ (fRo : Nat → UInt64), ∃ (fSo : Nat → Int32), ∃ (epo : Nat → Int32), w1 = [(mo, .inr (5, [.int (nI n), .ref vk, .ref vc, .ref vt, .ref vn, .ref vr, .ref vs, .ref ve, .ref vp])), (vn, .inl (cI, 80, .inl fNo)), (vr, .inl (cD, 80, .inr (.inr (.inr (.inl fRo))))), (vs, .inl (cI, 80, .inl fSo)), (ve, .inl (cI, 16, .inl epo))] ∧ v = none ∧ RpE fNo fRo fSo (addc cs (nm, rg, sg)) ∧ epo 3 = nI (addc cs (nm, rg, sg)).length ∧ (∀ i, i ≠ 3 → epo i = ep i) ∧ ∀ i, 40 ≤ i → fNo i = fN i ∧ fRo i = fR i ∧ fSo i = fS i) := by
  refine Met.ofW (cc := cX5_add) (maxL := 6) (ret := none) (by decide) rfl ?_
  intro zp ze zs zm zargs zb zt zc zs₁ B hml hv
  obtain ⟨rfl, hP, hK, hD0, hN⟩ := hv
  have hx := B.exec
  have hb := B.bytes
  have hr := B.returns
  have hts := atoms_spec (ws := wsX5_add) B.pre
  have hown : zs.vm.findClass RX5 = some zm.cls := findClass_of_methodNamed B.named
  have hlocks := B.notSynchronized
  have hD := inW_self hD0
  have hS : va_S (inW [(mo, .inr (5, [.int (nI n), .ref vk, .ref vc, .ref vt, .ref vn, .ref vr, .ref vs, .ref ve, .ref vp])), (vn, .inl (cI, 80, .inl fN)), (vr, .inl (cD, 80, .inr (.inr (.inr (.inl fR))))), (vs, .inl (cI, 80, .inl fS)), (ve, .inl (cI, 16, .inl ep))]) zs.heap zs.heap [] := va_S.rf
  have hl := lv_entry [.ref mo, .int nm, .double rg, .int sg] (n := 6) (Nat.le_of_ble_eq_true rfl)
  rw [lg_entry_eq]
  generalize (lg_sl [.ref mo, .int nm, .double rg, .int sg] ++ List.replicate (6 - (lg_sl [.ref mo, .int nm, .double rg, .int sg]).length) Slot.unset).toArray = ls at hl ⊢
  have hl : lv_has ls 6 [(0, .ref mo), (1, .int nm), (2, .double rg), (4, .int sg)] := hl
  have hin5 : ∀ w ∈ u_ws RX5 TX5 9, w ∈ wsX5_add := by decide +kernel
  refine lv_aload_n hx hb dX5_add_0 rfl (lv_at hl 0 rfl) ?_
  refine va_get (D := D) (ci := 5) (v := .ref ve) (C := RX5) (T := TX5) (N := 9) hx hb hts hin5 hown hK hP 0 rfl rfl 7 (by decide) (hts (.fieldLink RX5 29 "EpochSifterModel" "epochs" "[I") (by decide +kernel)) (fun _ h9 => h9) rfl dX5_add_1 ?_
  refine lv_iconst (v := nI 3) hx hb dX5_add_4 (by decide) ?_
  refine a_ild (v := nI cs.length) hx hb hK hP 4 0 rfl rfl (by omega) (by decide) (he3) dX5_add_5 ?_
  refine lv_istore (lv' := [(5, .int (nI cs.length)), (0, .ref mo), (1, .int nm), (2, .double rg), (4, .int sg)]) hx hb dX5_add_6 hl (by decide) rfl (fun ls hl => ?_)
  refine lv_iload hx hb dX5_add_8 (lv_at hl 0 rfl) ?_
  refine lv_bipush (v := nI 40) hx hb dX5_add_10 (by decide) ?_
  refine rn_lt (tgt := 16) hx hb dX5_add_12 (by decide) (by omega) (by omega) (fun c_12 => ?_) (fun c_12 => ?_)
  · skip
    refine lv_aload_n hx hb dX5_add_16 rfl (lv_at hl 1 rfl) ?_
    refine va_get (D := D) (ci := 5) (v := .ref vn) (C := RX5) (T := TX5) (N := 9) hx hb hts hin5 hown hK hP 0 rfl rfl 4 (by decide) (hts (.fieldLink RX5 19 "EpochSifterModel" "names" "[I") (by decide +kernel)) (fun _ h9 => h9) rfl dX5_add_17 ?_
    refine lv_iload hx hb dX5_add_20 (lv_at hl 0 rfl) ?_
    refine lv_iload_n hx hb dX5_add_22 rfl (lv_at hl 2 rfl) ?_
    refine a_ist hx hb hK hP hD hS 1 0 rfl rfl (by omega) (by decide) dX5_add_23 (fun H locs hP hD hS => ?_)
    have hP : va_P D vwCl [(mo, .inr (5, [.int (nI n), .ref vk, .ref vc, .ref vt, .ref vn, .ref vr, .ref vs, .ref ve, .ref vp])), (vn, .inl (cI, 80, .inl (upd fN cs.length nm))), (vr, .inl (cD, 80, .inr (.inr (.inr (.inl fR))))), (vs, .inl (cI, 80, .inl fS)), (ve, .inl (cI, 16, .inl ep))] _ := hP
    have hD : va_D (inW [(mo, .inr (5, [.int (nI n), .ref vk, .ref vc, .ref vt, .ref vn, .ref vr, .ref vs, .ref ve, .ref vp])), (vn, .inl (cI, 80, .inl fN)), (vr, .inl (cD, 80, .inr (.inr (.inr (.inl fR))))), (vs, .inl (cI, 80, .inl fS)), (ve, .inl (cI, 16, .inl ep))]) [(mo, .inr (5, [.int (nI n), .ref vk, .ref vc, .ref vt, .ref vn, .ref vr, .ref vs, .ref ve, .ref vp])), (vn, .inl (cI, 80, .inl (upd fN cs.length nm))), (vr, .inl (cD, 80, .inr (.inr (.inr (.inl fR))))), (vs, .inl (cI, 80, .inl fS)), (ve, .inl (cI, 16, .inl ep))] := hD
    refine lv_aload_n hx hb dX5_add_24 rfl (lv_at hl 1 rfl) ?_
    refine va_get (D := D) (ci := 5) (v := .ref vr) (C := RX5) (T := TX5) (N := 9) hx hb hts hin5 hown hK hP 0 rfl rfl 5 (by decide) (hts (.fieldLink RX5 22 "EpochSifterModel" "ranges" "[D") (by decide +kernel)) (fun _ h9 => h9) rfl dX5_add_25 ?_
    refine lv_iload hx hb dX5_add_28 (lv_at hl 0 rfl) ?_
    refine lv_dload_n hx hb dX5_add_30 rfl (lv_at hl 3 rfl) ?_
    refine a_dst hx hb hK hP hD hS 2 1 rfl rfl (by omega) (by decide) dX5_add_31 (fun H locs hP hD hS => ?_)
    have hP : va_P D vwCl [(mo, .inr (5, [.int (nI n), .ref vk, .ref vc, .ref vt, .ref vn, .ref vr, .ref vs, .ref ve, .ref vp])), (vn, .inl (cI, 80, .inl (upd fN cs.length nm))), (vr, .inl (cD, 80, .inr (.inr (.inr (.inl (vf_upd fR cs.length rg)))))), (vs, .inl (cI, 80, .inl fS)), (ve, .inl (cI, 16, .inl ep))] _ := hP
    have hD : va_D (inW [(mo, .inr (5, [.int (nI n), .ref vk, .ref vc, .ref vt, .ref vn, .ref vr, .ref vs, .ref ve, .ref vp])), (vn, .inl (cI, 80, .inl fN)), (vr, .inl (cD, 80, .inr (.inr (.inr (.inl fR))))), (vs, .inl (cI, 80, .inl fS)), (ve, .inl (cI, 16, .inl ep))]) [(mo, .inr (5, [.int (nI n), .ref vk, .ref vc, .ref vt, .ref vn, .ref vr, .ref vs, .ref ve, .ref vp])), (vn, .inl (cI, 80, .inl (upd fN cs.length nm))), (vr, .inl (cD, 80, .inr (.inr (.inr (.inl (vf_upd fR cs.length rg)))))), (vs, .inl (cI, 80, .inl fS)), (ve, .inl (cI, 16, .inl ep))] := hD
    refine lv_aload_n hx hb dX5_add_32 rfl (lv_at hl 1 rfl) ?_
    refine va_get (D := D) (ci := 5) (v := .ref vs) (C := RX5) (T := TX5) (N := 9) hx hb hts hin5 hown hK hP 0 rfl rfl 6 (by decide) (hts (.fieldLink RX5 26 "EpochSifterModel" "strengths" "[I") (by decide +kernel)) (fun _ h9 => h9) rfl dX5_add_33 ?_
    refine lv_iload hx hb dX5_add_36 (lv_at hl 0 rfl) ?_
    refine lv_iload hx hb dX5_add_38 (lv_at hl 4 rfl) ?_
    refine a_ist hx hb hK hP hD hS 3 0 rfl rfl (by omega) (by decide) dX5_add_40 (fun H locs hP hD hS => ?_)
    have hP : va_P D vwCl [(mo, .inr (5, [.int (nI n), .ref vk, .ref vc, .ref vt, .ref vn, .ref vr, .ref vs, .ref ve, .ref vp])), (vn, .inl (cI, 80, .inl (upd fN cs.length nm))), (vr, .inl (cD, 80, .inr (.inr (.inr (.inl (vf_upd fR cs.length rg)))))), (vs, .inl (cI, 80, .inl (upd fS cs.length sg))), (ve, .inl (cI, 16, .inl ep))] _ := hP
    have hD : va_D (inW [(mo, .inr (5, [.int (nI n), .ref vk, .ref vc, .ref vt, .ref vn, .ref vr, .ref vs, .ref ve, .ref vp])), (vn, .inl (cI, 80, .inl fN)), (vr, .inl (cD, 80, .inr (.inr (.inr (.inl fR))))), (vs, .inl (cI, 80, .inl fS)), (ve, .inl (cI, 16, .inl ep))]) [(mo, .inr (5, [.int (nI n), .ref vk, .ref vc, .ref vt, .ref vn, .ref vr, .ref vs, .ref ve, .ref vp])), (vn, .inl (cI, 80, .inl (upd fN cs.length nm))), (vr, .inl (cD, 80, .inr (.inr (.inr (.inl (vf_upd fR cs.length rg)))))), (vs, .inl (cI, 80, .inl (upd fS cs.length sg))), (ve, .inl (cI, 16, .inl ep))] := hD
    refine lv_aload_n hx hb dX5_add_41 rfl (lv_at hl 1 rfl) ?_
    refine va_get (D := D) (ci := 5) (v := .ref ve) (C := RX5) (T := TX5) (N := 9) hx hb hts hin5 hown hK hP 0 rfl rfl 7 (by decide) (hts (.fieldLink RX5 29 "EpochSifterModel" "epochs" "[I") (by decide +kernel)) (fun _ h9 => h9) rfl dX5_add_42 ?_
    refine lv_iconst (v := nI 3) hx hb dX5_add_45 (by decide) ?_
    refine lv_iload hx hb dX5_add_46 (lv_at hl 0 rfl) ?_
    refine lv_iconst (v := nI 1) hx hb dX5_add_48 (by decide) ?_
    refine lv_iadd hx hb dX5_add_49 ?_
    refine r_i (v := nI (cs.length + 1)) (nI_add _ _) ?_
    refine a_ist hx hb hK hP hD hS 4 0 rfl rfl (by omega) (by decide) dX5_add_50 (fun H locs hP hD hS => ?_)
    have hP : va_P D vwCl [(mo, .inr (5, [.int (nI n), .ref vk, .ref vc, .ref vt, .ref vn, .ref vr, .ref vs, .ref ve, .ref vp])), (vn, .inl (cI, 80, .inl (upd fN cs.length nm))), (vr, .inl (cD, 80, .inr (.inr (.inr (.inl (vf_upd fR cs.length rg)))))), (vs, .inl (cI, 80, .inl (upd fS cs.length sg))), (ve, .inl (cI, 16, .inl (upd ep 3 (nI (cs.length + 1)))))] _ := hP
    have hD : va_D (inW [(mo, .inr (5, [.int (nI n), .ref vk, .ref vc, .ref vt, .ref vn, .ref vr, .ref vs, .ref ve, .ref vp])), (vn, .inl (cI, 80, .inl fN)), (vr, .inl (cD, 80, .inr (.inr (.inr (.inl fR))))), (vs, .inl (cI, 80, .inl fS)), (ve, .inl (cI, 16, .inl ep))]) [(mo, .inr (5, [.int (nI n), .ref vk, .ref vc, .ref vt, .ref vn, .ref vr, .ref vs, .ref ve, .ref vp])), (vn, .inl (cI, 80, .inl (upd fN cs.length nm))), (vr, .inl (cD, 80, .inr (.inr (.inr (.inl (vf_upd fR cs.length rg)))))), (vs, .inl (cI, 80, .inl (upd fS cs.length sg))), (ve, .inl (cI, 16, .inl (upd ep 3 (nI (cs.length + 1)))))] := hD
    exact W.vret hx hb hr (fun tz htz hWz => ⟨none, [(mo, .inr (5, [.int (nI n), .ref vk, .ref vc, .ref vt, .ref vn, .ref vr, .ref vs, .ref ve, .ref vp])), (vn, .inl (cI, 80, .inl (upd fN cs.length nm))), (vr, .inl (cD, 80, .inr (.inr (.inr (.inl (vf_upd fR cs.length rg)))))), (vs, .inl (cI, 80, .inl (upd fS cs.length sg))), (ve, .inl (cI, 16, .inl (upd ep 3 (nI (cs.length + 1)))))], rfl, ⟨_, _, _, _, rfl, rfl, by rw [addc_lt c_12]; exact RpE.add hE nm rg sg, by rw [addc_lt c_12, pk_us, List.length_append]; rfl, fun i hi => pk_un hi, fun i hi => ⟨pk_un (by omega), vf_un (by omega), pk_un (by omega)⟩⟩, rfl, by rw [htz]; exact hP, hS.F htz⟩) (fun q h => hS.2.2 q h) dX5_add_51
  · skip
    exact W.vret hx hb hr (fun tz htz hWz => ⟨none, [(mo, .inr (5, [.int (nI n), .ref vk, .ref vc, .ref vt, .ref vn, .ref vr, .ref vs, .ref ve, .ref vp])), (vn, .inl (cI, 80, .inl fN)), (vr, .inl (cD, 80, .inr (.inr (.inr (.inl fR))))), (vs, .inl (cI, 80, .inl fS)), (ve, .inl (cI, 16, .inl ep))], rfl, ⟨_, _, _, _, rfl, rfl, by rw [addc_ge (by omega)]; exact hE, by rw [addc_ge (by omega)]; exact he3, fun _ _ => rfl, fun _ _ => ⟨rfl, rfl, rfl⟩⟩, rfl, by rw [htz]; exact hP, hS.F htz⟩) (fun q h => hS.2.2 q h) dX5_add_15
set_option maxHeartbeats 4000000 in
set_option maxRecDepth 100000 in
/-- four bytes, the lowest first -/
theorem c_X5_four {zl : Launch} {D : va_G} {cI cD : ClassId} (mo : Nat) (n : Nat) (vk : Nat) (vc : Nat) (vt : Nat) (vn : Nat) (vr : Nat) (vs : Nat) (ve : Nat) (vp : Nat) (f : Nat → Int32) (bs : List Nat) (t : Nat) (hf : Rp f bs) (hbn : bs.length = n) (hn : n ≤ 160) (hB : By bs) (ht : t + 4 ≤ n) : Ci zl yX5_four wsX5_four ({ frames := 0, cells := 0, slots := 0, locals := 0 }) D cI cD [.ref mo, .int (nI t)] [(mo, .inr (5, [.int (nI n), .ref vk, .ref vc, .ref vt, .ref vn, .ref vr, .ref vs, .ref ve, .ref vp])), (vk, .inl (cI, 160, .inl f))] (fun r => r = s4 bs t) := by
  refine Met.ofW (cc := cX5_four) (maxL := 4) (ret := (some .int)) (by decide) rfl ?_
  intro zp ze zs zm zargs zb zt zc zs₁ B hml hv
  obtain ⟨rfl, hP, hK, hD0, hN⟩ := hv
  have hx := B.exec
  have hb := B.bytes
  have hr := B.returns
  have hts := atoms_spec (ws := wsX5_four) B.pre
  have hown : zs.vm.findClass RX5 = some zm.cls := findClass_of_methodNamed B.named
  have hlocks := B.notSynchronized
  have hD := inW_self hD0
  have hS : va_S (inW [(mo, .inr (5, [.int (nI n), .ref vk, .ref vc, .ref vt, .ref vn, .ref vr, .ref vs, .ref ve, .ref vp])), (vk, .inl (cI, 160, .inl f))]) zs.heap zs.heap [] := va_S.rf
  have hl := lv_entry [.ref mo, .int (nI t)] (n := 4) (Nat.le_of_ble_eq_true rfl)
  rw [lg_entry_eq]
  generalize (lg_sl [.ref mo, .int (nI t)] ++ List.replicate (4 - (lg_sl [.ref mo, .int (nI t)]).length) Slot.unset).toArray = ls at hl ⊢
  have hl : lv_has ls 4 [(0, .ref mo), (1, .int (nI t))] := hl
  have hin5 : ∀ w ∈ u_ws RX5 TX5 9, w ∈ wsX5_four := by decide +kernel
  refine lv_iconst (v := nI 0) hx hb dX5_four_0 (by decide) ?_
  refine lv_istore_n (lv' := [(2, .int (nI 0)), (0, .ref mo), (1, .int (nI t))]) hx hb dX5_four_1 rfl hl (by decide) rfl (fun ls hl => ?_)
  refine lv_iconst (v := nI 3) hx hb dX5_four_2 (by decide) ?_
  refine lv_istore_n (lv' := [(3, .int (nI 3)), (2, .int (nI 0)), (0, .ref mo), (1, .int (nI t))]) hx hb dX5_four_3 rfl hl (by decide) rfl (fun ls hl => ?_)
  refine lv_iload_n hx hb dX5_four_4 rfl (lv_at hl 0 rfl) ?_
  refine rz_lt (tgt := 29) hx hb dX5_four_5 (by decide) (by omega) ?_
  refine lv_sipush (v := nI 256) hx hb dX5_four_8 (by decide) ?_
  refine lv_iload_n hx hb dX5_four_11 rfl (lv_at hl 1 rfl) ?_
  refine lv_imul hx hb dX5_four_12 ?_
  refine r_i (v := nI 0) (by decide) ?_
  refine lv_aload_n hx hb dX5_four_13 rfl (lv_at hl 2 rfl) ?_
  refine va_get (D := D) (ci := 5) (v := .ref vk) (C := RX5) (T := TX5) (N := 9) hx hb hts hin5 hown hK hP 0 rfl rfl 1 (by decide) (hts (.fieldLink RX5 7 "EpochSifterModel" "kept" "[I") (by decide +kernel)) (fun _ h9 => h9) rfl dX5_four_14 ?_
  refine lv_iload_n hx hb dX5_four_17 rfl (lv_at hl 3 rfl) ?_
  refine lv_iload_n hx hb dX5_four_18 rfl (lv_at hl 0 rfl) ?_
  refine lv_iadd hx hb dX5_four_19 ?_
  refine r_i (v := nI (t + 3)) (nI_add _ _) ?_
  refine a_ild (v := nI (bs.getD (t + 3) 0)) hx hb hK hP 1 0 rfl rfl (by omega) (by decide) (hf (t + 3) (by omega)) dX5_four_20 ?_
  refine lv_iadd hx hb dX5_four_21 ?_
  refine r_i (v := nI (0 + (bs.getD (t + 3) 0))) (nI_add _ _) ?_
  refine lv_istore_n (lv' := [(2, .int (nI (0 + (bs.getD (t + 3) 0)))), (3, .int (nI 3)), (0, .ref mo), (1, .int (nI t))]) hx hb dX5_four_22 rfl hl (by decide) rfl (fun ls hl => ?_)
  refine lv_iinc (v := nI 2) (lv' := [(3, .int (nI 2)), (2, .int (nI (0 + (bs.getD (t + 3) 0)))), (0, .ref mo), (1, .int (nI t))]) hx hb dX5_four_23 hl (k := 1) rfl (by decide) (by decide) rfl (fun ls hl => ?_)
  refine lv_goto (tgt := 4) hx hb dX5_four_26 (by decide) ?_
  refine lv_iload_n hx hb dX5_four_4 rfl (lv_at hl 0 rfl) ?_
  refine rz_lt (tgt := 29) hx hb dX5_four_5 (by decide) (by omega) ?_
  refine lv_sipush (v := nI 256) hx hb dX5_four_8 (by decide) ?_
  refine lv_iload_n hx hb dX5_four_11 rfl (lv_at hl 1 rfl) ?_
  refine lv_imul hx hb dX5_four_12 ?_
  refine r_i (v := nI (256 * (0 + (bs.getD (t + 3) 0)))) (pk_mul _ _) ?_
  refine lv_aload_n hx hb dX5_four_13 rfl (lv_at hl 2 rfl) ?_
  refine va_get (D := D) (ci := 5) (v := .ref vk) (C := RX5) (T := TX5) (N := 9) hx hb hts hin5 hown hK hP 0 rfl rfl 1 (by decide) (hts (.fieldLink RX5 7 "EpochSifterModel" "kept" "[I") (by decide +kernel)) (fun _ h9 => h9) rfl dX5_four_14 ?_
  refine lv_iload_n hx hb dX5_four_17 rfl (lv_at hl 3 rfl) ?_
  refine lv_iload_n hx hb dX5_four_18 rfl (lv_at hl 0 rfl) ?_
  refine lv_iadd hx hb dX5_four_19 ?_
  refine r_i (v := nI (t + 2)) (nI_add _ _) ?_
  refine a_ild (v := nI (bs.getD (t + 2) 0)) hx hb hK hP 1 0 rfl rfl (by omega) (by decide) (hf (t + 2) (by omega)) dX5_four_20 ?_
  refine lv_iadd hx hb dX5_four_21 ?_
  refine r_i (v := nI (256 * (0 + (bs.getD (t + 3) 0)) + (bs.getD (t + 2) 0))) (nI_add _ _) ?_
  refine lv_istore_n (lv' := [(2, .int (nI (256 * (0 + (bs.getD (t + 3) 0)) + (bs.getD (t + 2) 0)))), (3, .int (nI 2)), (0, .ref mo), (1, .int (nI t))]) hx hb dX5_four_22 rfl hl (by decide) rfl (fun ls hl => ?_)
  refine lv_iinc (v := nI 1) (lv' := [(3, .int (nI 1)), (2, .int (nI (256 * (0 + (bs.getD (t + 3) 0)) + (bs.getD (t + 2) 0)))), (0, .ref mo), (1, .int (nI t))]) hx hb dX5_four_23 hl (k := 1) rfl (by decide) (by decide) rfl (fun ls hl => ?_)
  refine lv_goto (tgt := 4) hx hb dX5_four_26 (by decide) ?_
  refine lv_iload_n hx hb dX5_four_4 rfl (lv_at hl 0 rfl) ?_
  refine rz_lt (tgt := 29) hx hb dX5_four_5 (by decide) (by omega) ?_
  refine lv_sipush (v := nI 256) hx hb dX5_four_8 (by decide) ?_
  refine lv_iload_n hx hb dX5_four_11 rfl (lv_at hl 1 rfl) ?_
  refine lv_imul hx hb dX5_four_12 ?_
  refine r_i (v := nI (256 * (256 * (0 + (bs.getD (t + 3) 0)) + (bs.getD (t + 2) 0)))) (pk_mul _ _) ?_
  refine lv_aload_n hx hb dX5_four_13 rfl (lv_at hl 2 rfl) ?_
  refine va_get (D := D) (ci := 5) (v := .ref vk) (C := RX5) (T := TX5) (N := 9) hx hb hts hin5 hown hK hP 0 rfl rfl 1 (by decide) (hts (.fieldLink RX5 7 "EpochSifterModel" "kept" "[I") (by decide +kernel)) (fun _ h9 => h9) rfl dX5_four_14 ?_
  refine lv_iload_n hx hb dX5_four_17 rfl (lv_at hl 3 rfl) ?_
  refine lv_iload_n hx hb dX5_four_18 rfl (lv_at hl 0 rfl) ?_
  refine lv_iadd hx hb dX5_four_19 ?_
  refine r_i (v := nI (t + 1)) (nI_add _ _) ?_
  refine a_ild (v := nI (bs.getD (t + 1) 0)) hx hb hK hP 1 0 rfl rfl (by omega) (by decide) (hf (t + 1) (by omega)) dX5_four_20 ?_
  refine lv_iadd hx hb dX5_four_21 ?_
  refine r_i (v := nI (256 * (256 * (0 + (bs.getD (t + 3) 0)) + (bs.getD (t + 2) 0)) + (bs.getD (t + 1) 0))) (nI_add _ _) ?_
  refine lv_istore_n (lv' := [(2, .int (nI (256 * (256 * (0 + (bs.getD (t + 3) 0)) + (bs.getD (t + 2) 0)) + (bs.getD (t + 1) 0)))), (3, .int (nI 1)), (0, .ref mo), (1, .int (nI t))]) hx hb dX5_four_22 rfl hl (by decide) rfl (fun ls hl => ?_)
  refine lv_iinc (v := nI 0) (lv' := [(3, .int (nI 0)), (2, .int (nI (256 * (256 * (0 + (bs.getD (t + 3) 0)) + (bs.getD (t + 2) 0)) + (bs.getD (t + 1) 0)))), (0, .ref mo), (1, .int (nI t))]) hx hb dX5_four_23 hl (k := 1) rfl (by decide) (by decide) rfl (fun ls hl => ?_)
  refine lv_goto (tgt := 4) hx hb dX5_four_26 (by decide) ?_
  refine lv_iload_n hx hb dX5_four_4 rfl (lv_at hl 0 rfl) ?_
  refine rz_lt (tgt := 29) hx hb dX5_four_5 (by decide) (by omega) ?_
  refine lv_sipush (v := nI 256) hx hb dX5_four_8 (by decide) ?_
  refine lv_iload_n hx hb dX5_four_11 rfl (lv_at hl 1 rfl) ?_
  refine lv_imul hx hb dX5_four_12 ?_
  refine r_i (v := nI (256 * (256 * (256 * (0 + (bs.getD (t + 3) 0)) + (bs.getD (t + 2) 0)) + (bs.getD (t + 1) 0)))) (pk_mul _ _) ?_
  refine lv_aload_n hx hb dX5_four_13 rfl (lv_at hl 2 rfl) ?_
  refine va_get (D := D) (ci := 5) (v := .ref vk) (C := RX5) (T := TX5) (N := 9) hx hb hts hin5 hown hK hP 0 rfl rfl 1 (by decide) (hts (.fieldLink RX5 7 "EpochSifterModel" "kept" "[I") (by decide +kernel)) (fun _ h9 => h9) rfl dX5_four_14 ?_
  refine lv_iload_n hx hb dX5_four_17 rfl (lv_at hl 3 rfl) ?_
  refine lv_iload_n hx hb dX5_four_18 rfl (lv_at hl 0 rfl) ?_
  refine lv_iadd hx hb dX5_four_19 ?_
  refine r_i (v := nI (t + 0)) (nI_add _ _) ?_
  refine a_ild (v := nI (bs.getD (t + 0) 0)) hx hb hK hP 1 0 rfl rfl (by omega) (by decide) (hf (t + 0) (by omega)) dX5_four_20 ?_
  refine lv_iadd hx hb dX5_four_21 ?_
  refine r_i (v := nI (256 * (256 * (256 * (0 + (bs.getD (t + 3) 0)) + (bs.getD (t + 2) 0)) + (bs.getD (t + 1) 0)) + (bs.getD (t + 0) 0))) (nI_add _ _) ?_
  refine lv_istore_n (lv' := [(2, .int (nI (256 * (256 * (256 * (0 + (bs.getD (t + 3) 0)) + (bs.getD (t + 2) 0)) + (bs.getD (t + 1) 0)) + (bs.getD (t + 0) 0)))), (3, .int (nI 0)), (0, .ref mo), (1, .int (nI t))]) hx hb dX5_four_22 rfl hl (by decide) rfl (fun ls hl => ?_)
  refine lv_iinc (v := -1) (lv' := [(3, .int (-1)), (2, .int (nI (256 * (256 * (256 * (0 + (bs.getD (t + 3) 0)) + (bs.getD (t + 2) 0)) + (bs.getD (t + 1) 0)) + (bs.getD (t + 0) 0)))), (0, .ref mo), (1, .int (nI t))]) hx hb dX5_four_23 hl (k := 1) rfl (by decide) (by decide) rfl (fun ls hl => ?_)
  refine lv_goto (tgt := 4) hx hb dX5_four_26 (by decide) ?_
  refine lv_iload_n hx hb dX5_four_4 rfl (lv_at hl 0 rfl) ?_
  refine lv_if_lt (tgt := 29) hx hb dX5_four_5 (by decide) (fun _ => ?_) (fun z => absurd (by decide) z)
  refine lv_iload_n hx hb dX5_four_29 rfl (lv_at hl 1 rfl) ?_
  exact W.iret (v := nI (256 * (256 * (256 * (0 + (bs.getD (t + 3) 0)) + (bs.getD (t + 2) 0)) + (bs.getD (t + 1) 0)) + (bs.getD (t + 0) 0))) hx hb hr (fun tz htz hWz => ⟨_, rfl, congrArg nI (by rw [show t + 0 = t from rfl]; omega), htz⟩) (fun _ h => absurd h List.not_mem_nil) dX5_four_30
