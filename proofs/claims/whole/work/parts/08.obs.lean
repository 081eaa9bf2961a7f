set_option maxHeartbeats 4000000 in
set_option maxRecDepth 100000 in
/-- the JDK's count of bits -/
theorem c_J6_bitCount_0f7a4 {zl : Launch} {D : va_G} {cI cD : ClassId} (v : Nat) (hv : v < 65536) : Ci zl yJ6_bitCount_0f7a4 wsJ6_bitCount_0f7a4 ({ frames := 0, cells := 0, slots := 0, locals := 0 }) D cI cD [.int (nI v)] [] (fun r => r = nI (pcw 16 v)) := by
  refine Met.ofW (cc := cJ6_bitCount_0f7a4) (maxL := 1) (ret := (some .int)) (by decide) rfl ?_
  intro zp ze zs zm zargs zb zt zc zs₁ B hml hv
  obtain ⟨rfl, hP, hK, hD0, hN⟩ := hv
  have hx := B.exec
  have hb := B.bytes
  have hr := B.returns
  have hts := atoms_spec (ws := wsJ6_bitCount_0f7a4) B.pre
  have hown : zs.vm.findClass RJ6 = some zm.cls := findClass_of_methodNamed B.named
  have hlocks := B.notSynchronized
  have hD := inW_self hD0
  have hS : va_S (inW []) zs.heap zs.heap [] := va_S.rf
  have hl := lv_entry [.int (nI v)] (n := 1) (Nat.le_of_ble_eq_true rfl)
  rw [lg_entry_eq]
  generalize (lg_sl [.int (nI v)] ++ List.replicate (1 - (lg_sl [.int (nI v)]).length) Slot.unset).toArray = ls at hl ⊢
  have hl : lv_has ls 1 [(0, .int (nI v))] := hl
  have a1 := bcA_le v
  have a2 := bcB_le (bcA v)
  have a3 := bcC_le (bcB (bcA v))
  refine lv_iload_n hx hb dJ6_bitCount_0f7a4_0 rfl (lv_at hl 0 rfl) ?_
  refine lv_iload_n hx hb dJ6_bitCount_0f7a4_1 rfl (lv_at hl 0 rfl) ?_
  refine lv_iconst (v := nI 1) hx hb dJ6_bitCount_0f7a4_2 (by decide) ?_
  refine lv_iushr (v := nI (v / 2)) hx hb dJ6_bitCount_0f7a4_3 (pk_ushrN (by omega) _ 1 (by decide)) ?_
  refine lv_ldcw (v := 1431655765) hx hb hown (hts (.constant RJ6 265 (1431655765)) (by decide +kernel)) dJ6_bitCount_0f7a4_4 ?_
  refine r_i (v := nI 1431655765) (by decide) ?_
  refine lv_iand hx hb dJ6_bitCount_0f7a4_7 ?_
  refine r_i (v := nI (v / 2 &&& 1431655765)) (nx_and _ _) ?_
  refine lv_isub hx hb dJ6_bitCount_0f7a4_8 ?_
  refine r_i (v := nI (bcA v)) (pk_sub (Nat.le_trans Nat.and_le_left (by omega))) ?_
  refine lv_istore_n (lv' := [(0, .int (nI (bcA v)))]) hx hb dJ6_bitCount_0f7a4_9 rfl hl (by decide) rfl (fun ls hl => ?_)
  refine lv_iload_n hx hb dJ6_bitCount_0f7a4_10 rfl (lv_at hl 0 rfl) ?_
  refine lv_ldcw (v := 858993459) hx hb hown (hts (.constant RJ6 266 (858993459)) (by decide +kernel)) dJ6_bitCount_0f7a4_11 ?_
  refine r_i (v := nI 858993459) (by decide) ?_
  refine lv_iand hx hb dJ6_bitCount_0f7a4_14 ?_
  refine r_i (v := nI (bcA v &&& 858993459)) (nx_and _ _) ?_
  refine lv_iload_n hx hb dJ6_bitCount_0f7a4_15 rfl (lv_at hl 0 rfl) ?_
  refine lv_iconst (v := nI 2) hx hb dJ6_bitCount_0f7a4_16 (by decide) ?_
  refine lv_iushr (v := nI (bcA v / 4)) hx hb dJ6_bitCount_0f7a4_17 (pk_ushrN (by omega) _ 2 (by decide)) ?_
  refine lv_ldcw (v := 858993459) hx hb hown (hts (.constant RJ6 266 (858993459)) (by decide +kernel)) dJ6_bitCount_0f7a4_18 ?_
  refine r_i (v := nI 858993459) (by decide) ?_
  refine lv_iand hx hb dJ6_bitCount_0f7a4_21 ?_
  refine r_i (v := nI (bcA v / 4 &&& 858993459)) (nx_and _ _) ?_
  refine lv_iadd hx hb dJ6_bitCount_0f7a4_22 ?_
  refine r_i (v := nI (bcB (bcA v))) (nI_add _ _) ?_
  refine lv_istore_n (lv' := [(0, .int (nI (bcB (bcA v))))]) hx hb dJ6_bitCount_0f7a4_23 rfl hl (by decide) rfl (fun ls hl => ?_)
  refine lv_iload_n hx hb dJ6_bitCount_0f7a4_24 rfl (lv_at hl 0 rfl) ?_
  refine lv_iload_n hx hb dJ6_bitCount_0f7a4_25 rfl (lv_at hl 0 rfl) ?_
  refine lv_iconst (v := nI 4) hx hb dJ6_bitCount_0f7a4_26 (by decide) ?_
  refine lv_iushr (v := nI (bcB (bcA v) / 16)) hx hb dJ6_bitCount_0f7a4_27 (pk_ushrN (by omega) _ 4 (by decide)) ?_
  refine lv_iadd hx hb dJ6_bitCount_0f7a4_28 ?_
  refine r_i (v := nI (bcB (bcA v) + (bcB (bcA v) / 16))) (nI_add _ _) ?_
  refine lv_ldcw (v := 252645135) hx hb hown (hts (.constant RJ6 267 (252645135)) (by decide +kernel)) dJ6_bitCount_0f7a4_29 ?_
  refine r_i (v := nI 252645135) (by decide) ?_
  refine lv_iand hx hb dJ6_bitCount_0f7a4_32 ?_
  refine r_i (v := nI (bcC (bcB (bcA v)))) (nx_and _ _) ?_
  refine lv_istore_n (lv' := [(0, .int (nI (bcC (bcB (bcA v)))))]) hx hb dJ6_bitCount_0f7a4_33 rfl hl (by decide) rfl (fun ls hl => ?_)
  refine lv_iload_n hx hb dJ6_bitCount_0f7a4_34 rfl (lv_at hl 0 rfl) ?_
  refine lv_iload_n hx hb dJ6_bitCount_0f7a4_35 rfl (lv_at hl 0 rfl) ?_
  refine lv_bipush (v := nI 8) hx hb dJ6_bitCount_0f7a4_36 (by decide) ?_
  refine lv_iushr (v := nI (bcC (bcB (bcA v)) / 256)) hx hb dJ6_bitCount_0f7a4_38 (pk_ushrN (by omega) _ 8 (by decide)) ?_
  refine lv_iadd hx hb dJ6_bitCount_0f7a4_39 ?_
  refine r_i (v := nI (bcD (bcC (bcB (bcA v))))) (nI_add _ _) ?_
  refine lv_istore_n (lv' := [(0, .int (nI (bcD (bcC (bcB (bcA v))))))]) hx hb dJ6_bitCount_0f7a4_40 rfl hl (by decide) rfl (fun ls hl => ?_)
  refine lv_iload_n hx hb dJ6_bitCount_0f7a4_41 rfl (lv_at hl 0 rfl) ?_
  refine lv_iload_n hx hb dJ6_bitCount_0f7a4_42 rfl (lv_at hl 0 rfl) ?_
  refine lv_bipush (v := nI 16) hx hb dJ6_bitCount_0f7a4_43 (by decide) ?_
  refine lv_iushr (v := nI (bcD (bcC (bcB (bcA v))) / 65536)) hx hb dJ6_bitCount_0f7a4_45 (pk_ushrN (by unfold bcD; omega) _ 16 (by decide)) ?_
  refine lv_iadd hx hb dJ6_bitCount_0f7a4_46 ?_
  refine r_i (v := nI (bcE (bcD (bcC (bcB (bcA v)))))) (nI_add _ _) ?_
  refine lv_istore_n (lv' := [(0, .int (nI (bcE (bcD (bcC (bcB (bcA v)))))))]) hx hb dJ6_bitCount_0f7a4_47 rfl hl (by decide) rfl (fun ls hl => ?_)
  refine lv_iload_n hx hb dJ6_bitCount_0f7a4_48 rfl (lv_at hl 0 rfl) ?_
  refine lv_bipush (v := nI 63) hx hb dJ6_bitCount_0f7a4_49 (by decide) ?_
  refine lv_iand hx hb dJ6_bitCount_0f7a4_51 ?_
  refine r_i (v := nI (bcE (bcD (bcC (bcB (bcA v)))) % 64)) (pk_andN (by unfold bcE bcD; omega) 6 (by decide)) ?_
  exact W.iret (v := nI (bcE (bcD (bcC (bcB (bcA v)))) % 64)) hx hb hr (fun tz htz hWz => ⟨_, rfl, congrArg nI (bc_all hv), htz⟩) (fun _ h => absurd h List.not_mem_nil) dJ6_bitCount_0f7a4_52
set_option maxHeartbeats 4000000 in
set_option maxRecDepth 100000 in
/-- bit k of the payload -/
theorem c_X1_bitAt {zl : Launch} {D : va_G} {cI cD : ClassId} (o : Nat) (oy : Nat) (x1 : Int32) (x2 : Int32) (x3 : Int32) (x4 : Int32) (x5 : Int32) (x6 : Int32) (x7 : Int32) (x8 : Int32) (x9 : Int32) (x10 : Int32) (fy : Nat → Int32) (pb : List Nat) (k : Nat) (hpy : Pay fy pb) (hpB : By pb) (hk : k < 2 ^ 21) : Ci zl yX1_bitAt wsX1_bitAt ({ frames := 0, cells := 0, slots := 0, locals := 0 }) D cI cD [.ref o, .int (nI k)] [(o, .inr (1, [.ref oy, .int x1, .int x2, .int x3, .int x4, .int x5, .int x6, .int x7, .int x8, .int x9, .int x10])), (oy, .inl (cI, 90, .inl fy))] (fun r => r = nI (bt pb k)) := by
  refine Met.ofW (cc := cX1_bitAt) (maxL := 4) (ret := (some .int)) (by decide) rfl ?_
  intro zp ze zs zm zargs zb zt zc zs₁ B hml hv
  obtain ⟨rfl, hP, hK, hD0, hN⟩ := hv
  have hx := B.exec
  have hb := B.bytes
  have hr := B.returns
  have hts := atoms_spec (ws := wsX1_bitAt) B.pre
  have hown : zs.vm.findClass RX1 = some zm.cls := findClass_of_methodNamed B.named
  have hlocks := B.notSynchronized
  have hD := inW_self hD0
  have hS : va_S (inW [(o, .inr (1, [.ref oy, .int x1, .int x2, .int x3, .int x4, .int x5, .int x6, .int x7, .int x8, .int x9, .int x10])), (oy, .inl (cI, 90, .inl fy))]) zs.heap zs.heap [] := va_S.rf
  have hl := lv_entry [.ref o, .int (nI k)] (n := 4) (Nat.le_of_ble_eq_true rfl)
  rw [lg_entry_eq]
  generalize (lg_sl [.ref o, .int (nI k)] ++ List.replicate (4 - (lg_sl [.ref o, .int (nI k)]).length) Slot.unset).toArray = ls at hl ⊢
  have hl : lv_has ls 4 [(0, .ref o), (1, .int (nI k))] := hl
  have hin1 : ∀ w ∈ u_ws RX1 TX1 11, w ∈ wsX1_bitAt := by decide +kernel
  have hpl := hpy.1
  have hy := hpB (3 + k / 8)
  refine lv_iload_n hx hb dX1_bitAt_0 rfl (lv_at hl 1 rfl) ?_
  refine lv_iconst (v := nI 3) hx hb dX1_bitAt_1 (by decide) ?_
  refine lv_ishr hx hb dX1_bitAt_2 ?_
  refine r_i (v := nI (k / 8)) (pk_shrN (by omega) _ 3 (by decide)) ?_
  refine lv_istore_n (lv' := [(2, .int (nI (k / 8))), (0, .ref o), (1, .int (nI k))]) hx hb dX1_bitAt_3 rfl hl (by decide) rfl (fun ls hl => ?_)
  refine lv_iload_n hx hb dX1_bitAt_4 rfl (lv_at hl 0 rfl) ?_
  refine rz_lt (tgt := 26) hx hb dX1_bitAt_5 (by decide) (by omega) ?_
  refine lv_iload_n hx hb dX1_bitAt_8 rfl (lv_at hl 0 rfl) ?_
  refine lv_aload_n hx hb dX1_bitAt_9 rfl (lv_at hl 1 rfl) ?_
  refine va_get (D := D) (ci := 1) (v := .ref oy) (C := RX1) (T := TX1) (N := 11) hx hb hts hin1 hown hK hP 0 rfl rfl 0 (by decide) (hts (.fieldLink RX1 9 "EpochSifter$Observation" "payload" "[I") (by decide +kernel)) (fun _ h9 => h9) rfl dX1_bitAt_10 ?_
  refine va_alen (v := nI 90) hx hb hK hP 1 0 rfl rfl rfl dX1_bitAt_13 ?_
  refine rn_ge (tgt := 26) hx hb dX1_bitAt_14 (by decide) (by omega) (by omega) (fun c_14 => ?_) (fun c_14 => ?_)
  · skip
    refine lv_iconst (v := nI 0) hx hb dX1_bitAt_26 (by decide) ?_
    refine r_i (v := nI (pb.getD (3 + k / 8) 0)) (congrArg nI (gd_ge (by omega)).symm) ?_
    refine lv_istore_n (lv' := [(3, .int (nI (pb.getD (3 + k / 8) 0))), (2, .int (nI (k / 8))), (0, .ref o), (1, .int (nI k))]) hx hb dX1_bitAt_27 rfl hl (by decide) rfl (fun ls hl => ?_)
    refine lv_iload_n hx hb dX1_bitAt_28 rfl (lv_at hl 0 rfl) ?_
    refine lv_bipush (v := nI 7) hx hb dX1_bitAt_29 (by decide) ?_
    refine lv_iload_n hx hb dX1_bitAt_31 rfl (lv_at hl 3 rfl) ?_
    refine lv_bipush (v := nI 7) hx hb dX1_bitAt_32 (by decide) ?_
    refine lv_iand hx hb dX1_bitAt_34 ?_
    refine r_i (v := nI (k % 8)) (pk_andN (by omega) 3 (by decide)) ?_
    refine lv_isub hx hb dX1_bitAt_35 ?_
    refine r_i (v := nI (7 - (k % 8))) (pk_sub (by omega)) ?_
    refine lv_ishr hx hb dX1_bitAt_36 ?_
    refine r_i (v := nI (pb.getD (3 + k / 8) 0 / 2 ^ (7 - k % 8))) (shr_n (by omega) (by omega)) ?_
    refine lv_iconst (v := nI 1) hx hb dX1_bitAt_37 (by decide) ?_
    refine lv_iand hx hb dX1_bitAt_38 ?_
    refine r_i (v := nI (bt pb k)) (and_1 (div_lt (by omega))) ?_
    exact W.iret (v := nI (bt pb k)) hx hb hr (fun tz htz hWz => ⟨_, rfl, by first | rfl | assumption | omega | simp_all, htz⟩) (fun _ h => absurd h List.not_mem_nil) dX1_bitAt_39
  · skip
    refine lv_aload_n hx hb dX1_bitAt_17 rfl (lv_at hl 1 rfl) ?_
    refine va_get (D := D) (ci := 1) (v := .ref oy) (C := RX1) (T := TX1) (N := 11) hx hb hts hin1 hown hK hP 0 rfl rfl 0 (by decide) (hts (.fieldLink RX1 9 "EpochSifter$Observation" "payload" "[I") (by decide +kernel)) (fun _ h9 => h9) rfl dX1_bitAt_18 ?_
    refine lv_iload_n hx hb dX1_bitAt_21 rfl (lv_at hl 0 rfl) ?_
    refine a_ild (v := nI (pb.getD (3 + k / 8) 0)) hx hb hK hP 1 0 rfl rfl (by omega) (by decide) (hpy.2 _ (by omega)) dX1_bitAt_22 ?_
    refine lv_goto (tgt := 27) hx hb dX1_bitAt_23 (by decide) ?_
    refine lv_istore_n (lv' := [(3, .int (nI (pb.getD (3 + k / 8) 0))), (2, .int (nI (k / 8))), (0, .ref o), (1, .int (nI k))]) hx hb dX1_bitAt_27 rfl hl (by decide) rfl (fun ls hl => ?_)
    refine lv_iload_n hx hb dX1_bitAt_28 rfl (lv_at hl 0 rfl) ?_
    refine lv_bipush (v := nI 7) hx hb dX1_bitAt_29 (by decide) ?_
    refine lv_iload_n hx hb dX1_bitAt_31 rfl (lv_at hl 3 rfl) ?_
    refine lv_bipush (v := nI 7) hx hb dX1_bitAt_32 (by decide) ?_
    refine lv_iand hx hb dX1_bitAt_34 ?_
    refine r_i (v := nI (k % 8)) (pk_andN (by omega) 3 (by decide)) ?_
    refine lv_isub hx hb dX1_bitAt_35 ?_
    refine r_i (v := nI (7 - (k % 8))) (pk_sub (by omega)) ?_
    refine lv_ishr hx hb dX1_bitAt_36 ?_
    refine r_i (v := nI (pb.getD (3 + k / 8) 0 / 2 ^ (7 - k % 8))) (shr_n (by omega) (by omega)) ?_
    refine lv_iconst (v := nI 1) hx hb dX1_bitAt_37 (by decide) ?_
    refine lv_iand hx hb dX1_bitAt_38 ?_
    refine r_i (v := nI (bt pb k)) (and_1 (div_lt (by omega))) ?_
    exact W.iret (v := nI (bt pb k)) hx hb hr (fun tz htz hWz => ⟨_, rfl, by first | rfl | assumption | omega | simp_all, htz⟩) (fun _ h => absurd h List.not_mem_nil) dX1_bitAt_39
set_option maxHeartbeats 4000000 in
set_option maxRecDepth 100000 in
/-- w bits from bit k on -/
theorem c_X1_number {zl : Launch} {D : va_G} {cI cD : ClassId} (o : Nat) (oy : Nat) (x1 : Int32) (x2 : Int32) (x3 : Int32) (x4 : Int32) (x5 : Int32) (x6 : Int32) (x7 : Int32) (x8 : Int32) (x9 : Int32) (x10 : Int32) (fy : Nat → Int32) (pb : List Nat) (k : Nat) (w : Nat) (hpy : Pay fy pb) (hpB : By pb) (hk : k < 2 ^ 20) (hw : w ≤ 30) : Ci zl yX1_number wsX1_number ({ frames := 1, cells := 0, slots := 0, locals := 23 }) D cI cD [.ref o, .int (nI k), .int (nI w)] [(o, .inr (1, [.ref oy, .int x1, .int x2, .int x3, .int x4, .int x5, .int x6, .int x7, .int x8, .int x9, .int x10])), (oy, .inl (cI, 90, .inl fy))] (fun r => r = nI (num pb k w)) := by
  refine Met.ofW (cc := cX1_number) (maxL := 5) (ret := (some .int)) (by decide) rfl ?_
  intro zp ze zs zm zargs zb zt zc zs₁ B hml hv
  obtain ⟨rfl, hP, hK, hD0, hN⟩ := hv
  have hx := B.exec
  have hb := B.bytes
  have hr := B.returns
  have hts := atoms_spec (ws := wsX1_number) B.pre
  have hown : zs.vm.findClass RX1 = some zm.cls := findClass_of_methodNamed B.named
  have hlocks := B.notSynchronized
  have hD := inW_self hD0
  have hS : va_S (inW [(o, .inr (1, [.ref oy, .int x1, .int x2, .int x3, .int x4, .int x5, .int x6, .int x7, .int x8, .int x9, .int x10])), (oy, .inl (cI, 90, .inl fy))]) zs.heap zs.heap [] := va_S.rf
  have hl := lv_entry [.ref o, .int (nI k), .int (nI w)] (n := 5) (Nat.le_of_ble_eq_true rfl)
  rw [lg_entry_eq]
  generalize (lg_sl [.ref o, .int (nI k), .int (nI w)] ++ List.replicate (5 - (lg_sl [.ref o, .int (nI k), .int (nI w)]).length) Slot.unset).toArray = ls at hl ⊢
  have hl : lv_has ls 5 [(0, .ref o), (1, .int (nI k)), (2, .int (nI w))] := hl
  have cuts : ∀ fuel : Nat, (∀ (j : Nat), (j ≤ w) → (w - j) < fuel → ∀ (ls : Array Slot), lv_has ls 5 [(0, .ref o), (1, .int (nI k)), (2, .int (nI w)), (3, .int (nI (num pb k j))), (4, .int (nI (k + j)))] → W zp zl ze ({ frames := 1, cells := 0, slots := 0, locals := 23 }) zs zm [.ref o, .int (nI k), .int (nI w)].toArray zb zt zc zs.heap [] 0 0 (MQ zb (vp_Si (fun r => r = nI (num pb k w))) [.ref o, .int (nI k), .int (nI w)].toArray zs 0 0 (fun _ => False)) (F0 zm 5 ls [])) := by
    intro fuel
    induction fuel with
    | zero => exact (by intros; exact absurd (by assumption) (Nat.not_lt_zero _))
    | succ fuel ih =>
      intro j hj hm ls hl
      have hz : num pb k j < 2 ^ 30 := Nat.lt_of_lt_of_le (num_lt _ _ _) (Nat.pow_le_pow_right (by decide) (by omega))
      have hb1 := bt_lt pb (k + j)
      refine lv_iload hx hb dX1_number_5 (lv_at hl 4 rfl) ?_
      refine lv_iload_n hx hb dX1_number_7 rfl (lv_at hl 1 rfl) ?_
      refine lv_iload_n hx hb dX1_number_8 rfl (lv_at hl 2 rfl) ?_
      refine lv_iadd hx hb dX1_number_9 ?_
      refine r_i (v := nI (k + w)) (nI_add _ _) ?_
      refine rn_ge (tgt := 30) hx hb dX1_number_10 (by decide) (by omega) (by omega) (fun c_10 => ?_) (fun c_10 => ?_)
      · skip
        refine lv_iload_n hx hb dX1_number_30 rfl (lv_at hl 3 rfl) ?_
        exact W.iret (v := nI (num pb k j)) hx hb hr (fun tz htz hWz => ⟨_, rfl, by have e : j = w := (by omega); rw [e], htz⟩) (fun _ h => absurd h List.not_mem_nil) dX1_number_31
      · skip
        refine lv_iload_n hx hb dX1_number_13 rfl (lv_at hl 3 rfl) ?_
        refine lv_iconst (v := nI 1) hx hb dX1_number_14 (by decide) ?_
        refine lv_ishl hx hb dX1_number_15 ?_
        refine r_i (v := nI ((num pb k j) * 2)) (pk_shlN _ 1 (by decide) (by omega)) ?_
        refine lv_aload_n hx hb dX1_number_16 rfl (lv_at hl 0 rfl) ?_
        refine lv_iload hx hb dX1_number_17 (lv_at hl 4 rfl) ?_
        refine r_callVi (As := [.int (nI (k + j))]) (rest := [.int (nI ((num pb k j) * 2))]) ⟨hx, hb, hml, hown, hts⟩ (c_X1_bitAt (zl := zl) (D := D) (cI := cI) (cD := cD) o oy x1 x2 x3 x4 x5 x6 x7 x8 x9 x10 fy pb (k + j) (by first | assumption | omega) (by first | assumption | omega) (by omega)) (cwV 1 hts gX1_number_X1_bitAt rfl rfl rfl (by decide +kernel) ⟨Nat.le_of_ble_eq_true rfl, Nat.le_of_ble_eq_true rfl⟩) hK hN hP hD [0, 1] rfl rfl 0 rfl rfl rfl hl.1 rfl (Nat.le_of_ble_eq_true rfl) dX1_number_19 ⟨Nat.le_of_ble_eq_true rfl, Nat.le_of_ble_eq_true rfl⟩ (fun r_1 h_1 => ?_)
        obtain rfl := h_1
        refine lv_ior hx hb dX1_number_22 ?_
        refine r_i (v := nI (num pb k j * 2 + bt pb (k + j))) (or_hi 1 _ rfl (by omega)) ?_
        refine r_i (v := nI (num pb k (j + 1))) (congrArg nI (by show _ = 2 * num pb k j + bt pb (k + j); omega)) ?_
        refine lv_istore_n (lv' := [(3, .int (nI (num pb k (j + 1)))), (0, .ref o), (1, .int (nI k)), (2, .int (nI w)), (4, .int (nI (k + j)))]) hx hb dX1_number_23 rfl hl (by decide) rfl (fun ls hl => ?_)
        refine lv_iinc (v := nI (k + (j + 1))) (lv' := [(4, .int (nI (k + (j + 1)))), (3, .int (nI (num pb k (j + 1)))), (0, .ref o), (1, .int (nI k)), (2, .int (nI w))]) hx hb dX1_number_24 hl (k := 4) rfl (nI_add _ _) (by decide) rfl (fun ls hl => ?_)
        refine lv_goto (tgt := 5) hx hb dX1_number_27 (by decide) ?_
        exact ih (j + 1) (by first | assumption | omega) (by omega) ls (lv_sub hl [2, 3, 4, 1, 0] rfl)
  refine lv_iconst (v := nI 0) hx hb dX1_number_0 (by decide) ?_
  refine lv_istore_n (lv' := [(3, .int (nI 0)), (0, .ref o), (1, .int (nI k)), (2, .int (nI w))]) hx hb dX1_number_1 rfl hl (by decide) rfl (fun ls hl => ?_)
  refine lv_iload_n hx hb dX1_number_2 rfl (lv_at hl 2 rfl) ?_
  refine lv_istore (lv' := [(4, .int (nI k)), (3, .int (nI 0)), (0, .ref o), (1, .int (nI k)), (2, .int (nI w))]) hx hb dX1_number_3 hl (by decide) rfl (fun ls hl => ?_)
  exact (cuts _) 0 (by first | assumption | omega) (Nat.lt_succ_self _) ls (lv_sub hl [2, 3, 4, 1, 0] rfl)
set_option maxHeartbeats 4000000 in
set_option maxRecDepth 100000 in
/-- the payload comes to a row of its own -/
theorem c_X1_fill {zl : Launch} {D : va_G} {cI cD : ClassId} (o : Nat) (oy : Nat) (x1 : Int32) (x2 : Int32) (x3 : Int32) (x4 : Int32) (x5 : Int32) (x6 : Int32) (x7 : Int32) (x8 : Int32) (x9 : Int32) (x10 : Int32) (fy : Nat → Int32) (a : Nat) (b : Nat) (n : Nat) (f : Nat → Int32) (bs : List Nat) (fr : Nat) (len : Nat) (hf : Rp f bs) (hbn : bs.length = n) (hn : n ≤ 140) (hfr : fr < 2 ^ 20) (hlen : len ≤ 90) : Cx zl yX1_fill wsX1_fill ({ frames := 1, cells := 0, slots := 0, locals := 21 }) D cI cD [.ref o, .ref a, .int (nI (fr + 3)), .int (nI len)] [(o, .inr (1, [.ref oy, .int x1, .int x2, .int x3, .int x4, .int x5, .int x6, .int x7, .int x8, .int x9, .int x10])), (oy, .inl (cI, 90, .inl fy)), (a, .inr (3, [.ref b, .int (nI n)])), (b, .inl (cI, 140, .inl f))] (fun v w1 => ∃ (fyo : Nat → Int32), w1 = [(o, .inr (1, [.ref oy, .int x1, .int x2, .int x3, .int x4, .int x5, .int x6, .int x7, .int x8, .int x9, .int x10])), (oy, .inl (cI, 90, .inl fyo)), (a, .inr (3, [.ref b, .int (nI n)])), (b, .inl (cI, 140, .inl f))] ∧ v = none ∧ Pay fyo ((bs.drop fr).take (3 + len))) := by
  refine Met.ofW (cc := cX1_fill) (maxL := 5) (ret := none) (by decide) rfl ?_
  intro zp ze zs zm zargs zb zt zc zs₁ B hml hv
  obtain ⟨rfl, hP, hK, hD0, hN⟩ := hv
  have hx := B.exec
  have hb := B.bytes
  have hr := B.returns
  have hts := atoms_spec (ws := wsX1_fill) B.pre
  have hown : zs.vm.findClass RX1 = some zm.cls := findClass_of_methodNamed B.named
  have hlocks := B.notSynchronized
  have hD := inW_self hD0
  have hS : va_S (inW [(o, .inr (1, [.ref oy, .int x1, .int x2, .int x3, .int x4, .int x5, .int x6, .int x7, .int x8, .int x9, .int x10])), (oy, .inl (cI, 90, .inl fy)), (a, .inr (3, [.ref b, .int (nI n)])), (b, .inl (cI, 140, .inl f))]) zs.heap zs.heap [] := va_S.rf
  have hl := lv_entry [.ref o, .ref a, .int (nI (fr + 3)), .int (nI len)] (n := 5) (Nat.le_of_ble_eq_true rfl)
  rw [lg_entry_eq]
  generalize (lg_sl [.ref o, .ref a, .int (nI (fr + 3)), .int (nI len)] ++ List.replicate (5 - (lg_sl [.ref o, .ref a, .int (nI (fr + 3)), .int (nI len)]).length) Slot.unset).toArray = ls at hl ⊢
  have hl : lv_has ls 5 [(0, .ref o), (1, .ref a), (2, .int (nI (fr + 3))), (3, .int (nI len))] := hl
  have hin1 : ∀ w ∈ u_ws RX1 TX1 11, w ∈ wsX1_fill := by decide +kernel
  have cuts : ∀ fuel : Nat, (∀ (i : Nat), ∀ (fyj : Nat → Int32), (i ≤ 90) → (∀ q, q < i → fyj q = nI (((bs.drop fr).take (3 + len)).getD (3 + q) 0)) → (90 - i) < fuel → ∀ (H : Heap) (locs : List Loc), va_P D vwCl [(o, .inr (1, [.ref oy, .int x1, .int x2, .int x3, .int x4, .int x5, .int x6, .int x7, .int x8, .int x9, .int x10])), (oy, .inl (cI, 90, .inl fyj)), (a, .inr (3, [.ref b, .int (nI n)])), (b, .inl (cI, 140, .inl f))] H → va_D (inW [(o, .inr (1, [.ref oy, .int x1, .int x2, .int x3, .int x4, .int x5, .int x6, .int x7, .int x8, .int x9, .int x10])), (oy, .inl (cI, 90, .inl fy)), (a, .inr (3, [.ref b, .int (nI n)])), (b, .inl (cI, 140, .inl f))]) [(o, .inr (1, [.ref oy, .int x1, .int x2, .int x3, .int x4, .int x5, .int x6, .int x7, .int x8, .int x9, .int x10])), (oy, .inl (cI, 90, .inl fyj)), (a, .inr (3, [.ref b, .int (nI n)])), (b, .inl (cI, 140, .inl f))] → va_S (inW [(o, .inr (1, [.ref oy, .int x1, .int x2, .int x3, .int x4, .int x5, .int x6, .int x7, .int x8, .int x9, .int x10])), (oy, .inl (cI, 90, .inl fy)), (a, .inr (3, [.ref b, .int (nI n)])), (b, .inl (cI, 140, .inl f))]) zs.heap H locs → ∀ (ls : Array Slot), lv_has ls 5 [(0, .ref o), (1, .ref a), (2, .int (nI (fr + 3))), (3, .int (nI len)), (4, .int (nI i))] → W zp zl ze ({ frames := 1, cells := 0, slots := 0, locals := 21 }) zs zm [.ref o, .ref a, .int (nI (fr + 3)), .int (nI len)].toArray zb zt zc H locs 0 0 (MQ zb (Xq D [(o, .inr (1, [.ref oy, .int x1, .int x2, .int x3, .int x4, .int x5, .int x6, .int x7, .int x8, .int x9, .int x10])), (oy, .inl (cI, 90, .inl fy)), (a, .inr (3, [.ref b, .int (nI n)])), (b, .inl (cI, 140, .inl f))] (fun v w1 => ∃ (fyo : Nat → Int32), w1 = [(o, .inr (1, [.ref oy, .int x1, .int x2, .int x3, .int x4, .int x5, .int x6, .int x7, .int x8, .int x9, .int x10])), (oy, .inl (cI, 90, .inl fyo)), (a, .inr (3, [.ref b, .int (nI n)])), (b, .inl (cI, 140, .inl f))] ∧ v = none ∧ Pay fyo ((bs.drop fr).take (3 + len)))) [.ref o, .ref a, .int (nI (fr + 3)), .int (nI len)].toArray zs 0 0 (inW [(o, .inr (1, [.ref oy, .int x1, .int x2, .int x3, .int x4, .int x5, .int x6, .int x7, .int x8, .int x9, .int x10])), (oy, .inl (cI, 90, .inl fy)), (a, .inr (3, [.ref b, .int (nI n)])), (b, .inl (cI, 140, .inl f))])) (F0 zm 3 ls [])) := by
    intro fuel
    induction fuel with
    | zero => exact (by intros; exact absurd (by assumption) (Nat.not_lt_zero _))
    | succ fuel ih =>
      intro i fyj hi hfy hm H locs hP hD hS ls hl
      refine lv_iload hx hb dX1_fill_3 (lv_at hl 4 rfl) ?_
      refine lv_aload_n hx hb dX1_fill_5 rfl (lv_at hl 0 rfl) ?_
      refine va_get (D := D) (ci := 1) (v := .ref oy) (C := RX1) (T := TX1) (N := 11) hx hb hts hin1 hown hK hP 0 rfl rfl 0 (by decide) (hts (.fieldLink RX1 9 "EpochSifter$Observation" "payload" "[I") (by decide +kernel)) (fun _ h9 => h9) rfl dX1_fill_6 ?_
      refine va_alen (v := nI 90) hx hb hK hP 1 0 rfl rfl rfl dX1_fill_9 ?_
      refine rn_ge (tgt := 44) hx hb dX1_fill_10 (by decide) (by omega) (by omega) (fun c_10 => ?_) (fun c_10 => ?_)
      · skip
        exact W.vret hx hb hr (fun tz htz hWz => ⟨none, [(o, .inr (1, [.ref oy, .int x1, .int x2, .int x3, .int x4, .int x5, .int x6, .int x7, .int x8, .int x9, .int x10])), (oy, .inl (cI, 90, .inl fyj)), (a, .inr (3, [.ref b, .int (nI n)])), (b, .inl (cI, 140, .inl f))], rfl, ⟨_, rfl, rfl, ⟨pl_len bs fr hlen, fun q hq => hfy q (by omega)⟩⟩, rfl, by rw [htz]; exact hP, hS.F htz⟩) (fun q h => hS.2.2 q h) dX1_fill_44
      · skip
        refine lv_aload_n hx hb dX1_fill_13 rfl (lv_at hl 0 rfl) ?_
        refine va_get (D := D) (ci := 1) (v := .ref oy) (C := RX1) (T := TX1) (N := 11) hx hb hts hin1 hown hK hP 0 rfl rfl 0 (by decide) (hts (.fieldLink RX1 9 "EpochSifter$Observation" "payload" "[I") (by decide +kernel)) (fun _ h9 => h9) rfl dX1_fill_14 ?_
        refine lv_iload hx hb dX1_fill_17 (lv_at hl 4 rfl) ?_
        refine lv_iload hx hb dX1_fill_19 (lv_at hl 4 rfl) ?_
        refine lv_iload_n hx hb dX1_fill_21 rfl (lv_at hl 3 rfl) ?_
        refine rn_ge (tgt := 36) hx hb dX1_fill_22 (by decide) (by omega) (by omega) (fun c_22 => ?_) (fun c_22 => ?_)
        · skip
          refine lv_iconst (v := nI 0) hx hb dX1_fill_36 (by decide) ?_
          refine r_i (v := nI (((bs.drop fr).take (3 + len)).getD (3 + i) 0)) (congrArg nI (pl_ge bs fr (by omega)).symm) ?_
          refine a_ist hx hb hK hP hD hS 1 0 rfl rfl (by omega) (by decide) dX1_fill_37 (fun H locs hP hD hS => ?_)
          have hP : va_P D vwCl [(o, .inr (1, [.ref oy, .int x1, .int x2, .int x3, .int x4, .int x5, .int x6, .int x7, .int x8, .int x9, .int x10])), (oy, .inl (cI, 90, .inl (upd fyj i (nI (((bs.drop fr).take (3 + len)).getD (3 + i) 0))))), (a, .inr (3, [.ref b, .int (nI n)])), (b, .inl (cI, 140, .inl f))] _ := hP
          have hD : va_D (inW [(o, .inr (1, [.ref oy, .int x1, .int x2, .int x3, .int x4, .int x5, .int x6, .int x7, .int x8, .int x9, .int x10])), (oy, .inl (cI, 90, .inl fy)), (a, .inr (3, [.ref b, .int (nI n)])), (b, .inl (cI, 140, .inl f))]) [(o, .inr (1, [.ref oy, .int x1, .int x2, .int x3, .int x4, .int x5, .int x6, .int x7, .int x8, .int x9, .int x10])), (oy, .inl (cI, 90, .inl (upd fyj i (nI (((bs.drop fr).take (3 + len)).getD (3 + i) 0))))), (a, .inr (3, [.ref b, .int (nI n)])), (b, .inl (cI, 140, .inl f))] := hD
          refine lv_iinc (v := nI (i + 1)) (lv' := [(4, .int (nI (i + 1))), (0, .ref o), (1, .ref a), (2, .int (nI (fr + 3))), (3, .int (nI len))]) hx hb dX1_fill_38 hl (k := 4) rfl (nI_add _ _) (by decide) rfl (fun ls hl => ?_)
          refine lv_goto (tgt := 3) hx hb dX1_fill_41 (by decide) ?_
          exact ih (i + 1) (upd fyj i (nI (((bs.drop fr).take (3 + len)).getD (3 + i) 0))) (by first | assumption | omega) (fun q hq => if e : q = i then (by rw [e, pk_us]) else (by rw [pk_un e]; exact hfy q (by omega))) (by omega) _ _ hP hD hS ls (lv_sub hl [1, 2, 3, 4, 0] rfl)
        · skip
          refine lv_aload_n hx hb dX1_fill_25 rfl (lv_at hl 1 rfl) ?_
          refine lv_iload_n hx hb dX1_fill_26 rfl (lv_at hl 2 rfl) ?_
          refine lv_iload hx hb dX1_fill_27 (lv_at hl 4 rfl) ?_
          refine lv_iadd hx hb dX1_fill_29 ?_
          refine r_i (v := nI (fr + 3 + i)) (nI_add _ _) ?_
          refine r_callVi (As := [.int (nI (fr + 3 + i))]) (rest := [.int (nI i), .ref oy]) ⟨hx, hb, hml, hown, hts⟩ (c_X3_at (zl := zl) (D := D) (cI := cI) (cD := cD) a b n f bs (fr + 3 + i) (by first | assumption | omega) (by first | assumption | omega) (by first | assumption | omega) (by omega)) (cwV 1 hts gX1_fill_X3_at rfl rfl rfl (by decide +kernel) ⟨Nat.le_of_ble_eq_true rfl, Nat.le_of_ble_eq_true rfl⟩) hK hN hP hD [2, 3] rfl rfl 2 rfl rfl rfl hl.1 rfl (Nat.le_of_ble_eq_true rfl) dX1_fill_30 ⟨Nat.le_of_ble_eq_true rfl, Nat.le_of_ble_eq_true rfl⟩ (fun r_1 h_1 => ?_)
          obtain rfl := h_1
          refine lv_goto (tgt := 37) hx hb dX1_fill_33 (by decide) ?_
          refine r_i (v := nI (((bs.drop fr).take (3 + len)).getD (3 + i) 0)) (congrArg nI (pl_lt bs fr (by omega)).symm) ?_
          refine a_ist hx hb hK hP hD hS 1 0 rfl rfl (by omega) (by decide) dX1_fill_37 (fun H locs hP hD hS => ?_)
          have hP : va_P D vwCl [(o, .inr (1, [.ref oy, .int x1, .int x2, .int x3, .int x4, .int x5, .int x6, .int x7, .int x8, .int x9, .int x10])), (oy, .inl (cI, 90, .inl (upd fyj i (nI (((bs.drop fr).take (3 + len)).getD (3 + i) 0))))), (a, .inr (3, [.ref b, .int (nI n)])), (b, .inl (cI, 140, .inl f))] _ := hP
          have hD : va_D (inW [(o, .inr (1, [.ref oy, .int x1, .int x2, .int x3, .int x4, .int x5, .int x6, .int x7, .int x8, .int x9, .int x10])), (oy, .inl (cI, 90, .inl fy)), (a, .inr (3, [.ref b, .int (nI n)])), (b, .inl (cI, 140, .inl f))]) [(o, .inr (1, [.ref oy, .int x1, .int x2, .int x3, .int x4, .int x5, .int x6, .int x7, .int x8, .int x9, .int x10])), (oy, .inl (cI, 90, .inl (upd fyj i (nI (((bs.drop fr).take (3 + len)).getD (3 + i) 0))))), (a, .inr (3, [.ref b, .int (nI n)])), (b, .inl (cI, 140, .inl f))] := hD
          refine lv_iinc (v := nI (i + 1)) (lv' := [(4, .int (nI (i + 1))), (0, .ref o), (1, .ref a), (2, .int (nI (fr + 3))), (3, .int (nI len))]) hx hb dX1_fill_38 hl (k := 4) rfl (nI_add _ _) (by decide) rfl (fun ls hl => ?_)
          refine lv_goto (tgt := 3) hx hb dX1_fill_41 (by decide) ?_
          exact ih (i + 1) (upd fyj i (nI (((bs.drop fr).take (3 + len)).getD (3 + i) 0))) (by first | assumption | omega) (fun q hq => if e : q = i then (by rw [e, pk_us]) else (by rw [pk_un e]; exact hfy q (by omega))) (by omega) _ _ hP hD hS ls (lv_sub hl [1, 2, 3, 4, 0] rfl)
  refine lv_iconst (v := nI 0) hx hb dX1_fill_0 (by decide) ?_
  refine lv_istore (lv' := [(4, .int (nI 0)), (0, .ref o), (1, .ref a), (2, .int (nI (fr + 3))), (3, .int (nI len))]) hx hb dX1_fill_1 hl (by decide) rfl (fun ls hl => ?_)
  exact (cuts _) 0 fy (by first | assumption | omega) (fun q hq => absurd hq (Nat.not_lt_zero _)) (Nat.lt_succ_self _) _ _ hP hD hS ls (lv_sub hl [1, 2, 3, 4, 0] rfl)
set_option maxHeartbeats 4000000 in
set_option maxRecDepth 100000 in
/-- 15 bits with their sign -/
theorem c_X1_signed {zl : Launch} {D : va_G} {cI cD : ClassId} (v : Nat) (hv : v < 32768) : Ci zl yX1_signed wsX1_signed ({ frames := 0, cells := 0, slots := 0, locals := 0 }) D cI cD [.int (nI v), .int (nI 15)] [] (fun r => r = sg15 v) := by
  refine Met.ofW (cc := cX1_signed) (maxL := 3) (ret := (some .int)) (by decide) rfl ?_
  intro zp ze zs zm zargs zb zt zc zs₁ B hml hv
  obtain ⟨rfl, hP, hK, hD0, hN⟩ := hv
  have hx := B.exec
  have hb := B.bytes
  have hr := B.returns
  have hts := atoms_spec (ws := wsX1_signed) B.pre
  have hown : zs.vm.findClass RX1 = some zm.cls := findClass_of_methodNamed B.named
  have hlocks := B.notSynchronized
  have hD := inW_self hD0
  have hS : va_S (inW []) zs.heap zs.heap [] := va_S.rf
  have hl := lv_entry [.int (nI v), .int (nI 15)] (n := 3) (Nat.le_of_ble_eq_true rfl)
  rw [lg_entry_eq]
  generalize (lg_sl [.int (nI v), .int (nI 15)] ++ List.replicate (3 - (lg_sl [.int (nI v), .int (nI 15)]).length) Slot.unset).toArray = ls at hl ⊢
  have hl : lv_has ls 3 [(0, .int (nI v)), (1, .int (nI 15))] := hl
  refine lv_bipush (v := nI 32) hx hb dX1_signed_0 (by decide) ?_
  refine lv_iload_n hx hb dX1_signed_2 rfl (lv_at hl 1 rfl) ?_
  refine lv_isub hx hb dX1_signed_3 ?_
  refine r_i (v := nI 17) (by decide) ?_
  refine lv_istore_n (lv' := [(2, .int (nI 17)), (0, .int (nI v)), (1, .int (nI 15))]) hx hb dX1_signed_4 rfl hl (by decide) rfl (fun ls hl => ?_)
  refine lv_iload_n hx hb dX1_signed_5 rfl (lv_at hl 1 rfl) ?_
  refine lv_iload_n hx hb dX1_signed_6 rfl (lv_at hl 0 rfl) ?_
  refine lv_ishl hx hb dX1_signed_7 ?_
  refine r_i (v := nI (v * 131072)) (pk_shlN _ 17 (by decide) (by omega)) ?_
  refine lv_iload_n hx hb dX1_signed_8 rfl (lv_at hl 0 rfl) ?_
  refine lv_ishr hx hb dX1_signed_9 ?_
  refine r_i (v := sg15 v) (rfl) ?_
  exact W.iret (v := sg15 v) hx hb hr (fun tz htz hWz => ⟨_, rfl, by first | rfl | assumption | omega | simp_all, htz⟩) (fun _ h => absurd h List.not_mem_nil) dX1_signed_10
set_option maxHeartbeats 4000000 in
set_option maxRecDepth 100000 in
/-- bit i of a mask -/
theorem c_X1_isOn {zl : Launch} {D : va_G} {cI cD : ClassId} (v : Nat) (i : Nat) (hv : v < 65536) (hi : i < 16) : Ci zl yX1_isOn wsX1_isOn ({ frames := 0, cells := 0, slots := 0, locals := 0 }) D cI cD [.int (nI v), .int (nI i)] [] (fun r => r = nI (v / 2 ^ i % 2)) := by
  refine Met.ofW (cc := cX1_isOn) (maxL := 2) (ret := (some .boolean)) (by decide) rfl ?_
  intro zp ze zs zm zargs zb zt zc zs₁ B hml hv
  obtain ⟨rfl, hP, hK, hD0, hN⟩ := hv
  have hx := B.exec
  have hb := B.bytes
  have hr := B.returns
  have hts := atoms_spec (ws := wsX1_isOn) B.pre
  have hown : zs.vm.findClass RX1 = some zm.cls := findClass_of_methodNamed B.named
  have hlocks := B.notSynchronized
  have hD := inW_self hD0
  have hS : va_S (inW []) zs.heap zs.heap [] := va_S.rf
  have hl := lv_entry [.int (nI v), .int (nI i)] (n := 2) (Nat.le_of_ble_eq_true rfl)
  rw [lg_entry_eq]
  generalize (lg_sl [.int (nI v), .int (nI i)] ++ List.replicate (2 - (lg_sl [.int (nI v), .int (nI i)]).length) Slot.unset).toArray = ls at hl ⊢
  have hl : lv_has ls 2 [(0, .int (nI v)), (1, .int (nI i))] := hl
  refine lv_iload_n hx hb dX1_isOn_0 rfl (lv_at hl 0 rfl) ?_
  refine lv_iload_n hx hb dX1_isOn_1 rfl (lv_at hl 1 rfl) ?_
  refine lv_ishr hx hb dX1_isOn_2 ?_
  refine r_i (v := nI (v / 2 ^ i)) (shr_n (by omega) (by omega)) ?_
  refine lv_iconst (v := nI 1) hx hb dX1_isOn_3 (by decide) ?_
  refine lv_iand hx hb dX1_isOn_4 ?_
  refine r_i (v := nI (v / 2 ^ i % 2)) (and_1 (div_lt (by omega))) ?_
  refine lv_iconst (v := nI 1) hx hb dX1_isOn_5 (by decide) ?_
  refine rn_ne (tgt := 13) hx hb dX1_isOn_6 (by decide) (by omega) (by omega) (fun c_6 => ?_) (fun c_6 => ?_)
  · skip
    refine lv_iconst (v := nI 0) hx hb dX1_isOn_13 (by decide) ?_
    exact W.zret (v := nI 0) hx hb hr (rfl) (fun tz htz hWz => ⟨_, rfl, congrArg nI (by omega), htz⟩) (fun _ h => absurd h List.not_mem_nil) dX1_isOn_14
  · skip
    refine lv_iconst (v := nI 1) hx hb dX1_isOn_9 (by decide) ?_
    refine lv_goto (tgt := 14) hx hb dX1_isOn_10 (by decide) ?_
    exact W.zret (v := nI 1) hx hb hr (rfl) (fun tz htz hWz => ⟨_, rfl, congrArg nI (by omega), htz⟩) (fun _ h => absurd h List.not_mem_nil) dX1_isOn_14
set_option maxHeartbeats 4000000 in
set_option maxRecDepth 100000 in
/-- a cell's strength -/
theorem c_X1_strengthOf {zl : Launch} {D : va_G} {cI cD : ClassId} (o : Nat) (oy : Nat) (x1 : Int32) (x2 : Int32) (x3 : Int32) (x4 : Int32) (x5 : Int32) (x6 : Int32) (x7 : Int32) (x8 : Int32) (x9 : Int32) (fy : Nat → Int32) (pb : List Nat) (sA : Nat) (q : Nat) (hpy : Pay fy pb) (hpB : By pb) (hs : sA < 2 ^ 18) (hq : q < 2 ^ 10) : Ci zl yX1_strengthOf wsX1_strengthOf ({ frames := 2, cells := 0, slots := 0, locals := 47 }) D cI cD [.ref o, .int (nI q)] [(o, .inr (1, [.ref oy, .int x1, .int x2, .int x3, .int x4, .int x5, .int x6, .int x7, .int x8, .int x9, .int (nI sA)])), (oy, .inl (cI, 90, .inl fy))] (fun r => r = nI (num pb (sA + 6 * q) 6)) := by
  refine Met.ofW (cc := cX1_strengthOf) (maxL := 2) (ret := (some .int)) (by decide) rfl ?_
  intro zp ze zs zm zargs zb zt zc zs₁ B hml hv
  obtain ⟨rfl, hP, hK, hD0, hN⟩ := hv
  have hx := B.exec
  have hb := B.bytes
  have hr := B.returns
  have hts := atoms_spec (ws := wsX1_strengthOf) B.pre
  have hown : zs.vm.findClass RX1 = some zm.cls := findClass_of_methodNamed B.named
  have hlocks := B.notSynchronized
  have hD := inW_self hD0
  have hS : va_S (inW [(o, .inr (1, [.ref oy, .int x1, .int x2, .int x3, .int x4, .int x5, .int x6, .int x7, .int x8, .int x9, .int (nI sA)])), (oy, .inl (cI, 90, .inl fy))]) zs.heap zs.heap [] := va_S.rf
  have hl := lv_entry [.ref o, .int (nI q)] (n := 2) (Nat.le_of_ble_eq_true rfl)
  rw [lg_entry_eq]
  generalize (lg_sl [.ref o, .int (nI q)] ++ List.replicate (2 - (lg_sl [.ref o, .int (nI q)]).length) Slot.unset).toArray = ls at hl ⊢
  have hl : lv_has ls 2 [(0, .ref o), (1, .int (nI q))] := hl
  have hin1 : ∀ w ∈ u_ws RX1 TX1 11, w ∈ wsX1_strengthOf := by decide +kernel
  refine lv_aload_n hx hb dX1_strengthOf_0 rfl (lv_at hl 0 rfl) ?_
  refine lv_aload_n hx hb dX1_strengthOf_1 rfl (lv_at hl 0 rfl) ?_
  refine va_get (D := D) (ci := 1) (v := .int (nI sA)) (C := RX1) (T := TX1) (N := 11) hx hb hts hin1 hown hK hP 0 rfl rfl 10 (by decide) (hts (.fieldLink RX1 65 "EpochSifter$Observation" "strengthsAt" "I") (by decide +kernel)) (fun _ h9 => h9) rfl dX1_strengthOf_2 ?_
  refine lv_bipush (v := nI 6) hx hb dX1_strengthOf_5 (by decide) ?_
  refine lv_iload_n hx hb dX1_strengthOf_7 rfl (lv_at hl 1 rfl) ?_
  refine lv_imul hx hb dX1_strengthOf_8 ?_
  refine r_i (v := nI (6 * q)) (pk_mul _ _) ?_
  refine lv_iadd hx hb dX1_strengthOf_9 ?_
  refine r_i (v := nI (sA + (6 * q))) (nI_add _ _) ?_
  refine lv_bipush (v := nI 6) hx hb dX1_strengthOf_10 (by decide) ?_
  refine r_callVi (As := [.int (nI (sA + (6 * q))), .int (nI 6)]) (rest := []) ⟨hx, hb, hml, hown, hts⟩ (c_X1_number (zl := zl) (D := D) (cI := cI) (cD := cD) o oy x1 x2 x3 x4 x5 x6 x7 x8 x9 (nI sA) fy pb (sA + (6 * q)) 6 (by first | assumption | omega) (by first | assumption | omega) (by first | assumption | omega) (by first | assumption | omega)) (cwV 2 hts gX1_strengthOf_X1_number rfl rfl rfl (by decide +kernel) ⟨Nat.le_of_ble_eq_true rfl, Nat.le_of_ble_eq_true rfl⟩) hK hN hP hD [0, 1] rfl rfl 0 rfl rfl rfl hl.1 rfl (Nat.le_of_ble_eq_true rfl) dX1_strengthOf_12 ⟨Nat.le_of_ble_eq_true rfl, Nat.le_of_ble_eq_true rfl⟩ (fun r_1 h_1 => ?_)
  obtain rfl := h_1
  exact W.iret (v := nI (num pb (sA + (6 * q)) 6)) hx hb hr (fun tz htz hWz => ⟨_, rfl, by first | rfl | assumption | omega | simp_all, htz⟩) (fun _ h => absurd h List.not_mem_nil) dX1_strengthOf_15
set_option maxHeartbeats 4000000 in
set_option maxRecDepth 100000 in
/-- a cell's range -/
theorem c_X1_rangeOf {zl : Launch} {D : va_G} {cI cD : ClassId} (o : Nat) (oy : Nat) (x1 : Int32) (x2 : Int32) (x3 : Int32) (x4 : Int32) (x5 : Int32) (x6 : Int32) (x10 : Int32) (fy : Nat → Int32) (pb : List Nat) (wA : Nat) (pA : Nat) (fA : Nat) (rw : Nat) (q : Nat) (hpy : Pay fy pb) (hpB : By pb) (hA : wA < 2 ^ 18 ∧ pA < 2 ^ 18 ∧ fA < 2 ^ 18) (hr : rw < 2 ^ 10) (hq : q < 2 ^ 10) : Cd zl yX1_rangeOf wsX1_rangeOf ({ frames := 2, cells := 0, slots := 0, locals := 47 }) D cI cD [.ref o, .int (nI rw), .int (nI q)] [(o, .inr (1, [.ref oy, .int x1, .int x2, .int x3, .int x4, .int x5, .int x6, .int (nI wA), .int (nI pA), .int (nI fA), .int x10])), (oy, .inl (cI, 90, .inl fy))] (fun r => r = reck (num pb (wA + 8 * rw) 8) (num pb (pA + 10 * rw) 10) (sg15 (num pb (fA + 15 * q) 15))) := by
  refine Met.ofW (cc := cX1_rangeOf) (maxL := 8) (ret := (some .double)) (by decide) rfl ?_
  intro zp ze zs zm zargs zb zt zc zs₁ B hml hv
  obtain ⟨rfl, hP, hK, hD0, hN⟩ := hv
  have hx := B.exec
  have hb := B.bytes
  have hr := B.returns
  have hts := atoms_spec (ws := wsX1_rangeOf) B.pre
  have hown : zs.vm.findClass RX1 = some zm.cls := findClass_of_methodNamed B.named
  have hlocks := B.notSynchronized
  have hD := inW_self hD0
  have hS : va_S (inW [(o, .inr (1, [.ref oy, .int x1, .int x2, .int x3, .int x4, .int x5, .int x6, .int (nI wA), .int (nI pA), .int (nI fA), .int x10])), (oy, .inl (cI, 90, .inl fy))]) zs.heap zs.heap [] := va_S.rf
  have hl := lv_entry [.ref o, .int (nI rw), .int (nI q)] (n := 8) (Nat.le_of_ble_eq_true rfl)
  rw [lg_entry_eq]
  generalize (lg_sl [.ref o, .int (nI rw), .int (nI q)] ++ List.replicate (8 - (lg_sl [.ref o, .int (nI rw), .int (nI q)]).length) Slot.unset).toArray = ls at hl ⊢
  have hl : lv_has ls 8 [(0, .ref o), (1, .int (nI rw)), (2, .int (nI q))] := hl
  have hin1 : ∀ w ∈ u_ws RX1 TX1 11, w ∈ wsX1_rangeOf := by decide +kernel
  have z1 := num_lt pb (wA + 8 * rw) 8
  have z3 := num_lt pb (fA + 15 * q) 15
  refine lv_aload_n hx hb dX1_rangeOf_0 rfl (lv_at hl 0 rfl) ?_
  refine lv_aload_n hx hb dX1_rangeOf_1 rfl (lv_at hl 0 rfl) ?_
  refine va_get (D := D) (ci := 1) (v := .int (nI wA)) (C := RX1) (T := TX1) (N := 11) hx hb hts hin1 hown hK hP 0 rfl rfl 7 (by decide) (hts (.fieldLink RX1 56 "EpochSifter$Observation" "wholesAt" "I") (by decide +kernel)) (fun _ h9 => h9) rfl dX1_rangeOf_2 ?_
  refine lv_bipush (v := nI 8) hx hb dX1_rangeOf_5 (by decide) ?_
  refine lv_iload_n hx hb dX1_rangeOf_7 rfl (lv_at hl 1 rfl) ?_
  refine lv_imul hx hb dX1_rangeOf_8 ?_
  refine r_i (v := nI (8 * rw)) (pk_mul _ _) ?_
  refine lv_iadd hx hb dX1_rangeOf_9 ?_
  refine r_i (v := nI (wA + (8 * rw))) (nI_add _ _) ?_
  refine lv_bipush (v := nI 8) hx hb dX1_rangeOf_10 (by decide) ?_
  refine r_callVi (As := [.int (nI (wA + (8 * rw))), .int (nI 8)]) (rest := []) ⟨hx, hb, hml, hown, hts⟩ (c_X1_number (zl := zl) (D := D) (cI := cI) (cD := cD) o oy x1 x2 x3 x4 x5 x6 (nI wA) (nI pA) (nI fA) x10 fy pb (wA + (8 * rw)) 8 (by first | assumption | omega) (by first | assumption | omega) (by first | assumption | omega) (by first | assumption | omega)) (cwV 2 hts gX1_rangeOf_X1_number rfl rfl rfl (by decide +kernel) ⟨Nat.le_of_ble_eq_true rfl, Nat.le_of_ble_eq_true rfl⟩) hK hN hP hD [0, 1] rfl rfl 0 rfl rfl rfl hl.1 rfl (Nat.le_of_ble_eq_true rfl) dX1_rangeOf_12 ⟨Nat.le_of_ble_eq_true rfl, Nat.le_of_ble_eq_true rfl⟩ (fun r_1 h_1 => ?_)
  obtain rfl := h_1
  refine lv_istore_n (lv' := [(3, .int (nI (num pb (wA + (8 * rw)) 8))), (0, .ref o), (1, .int (nI rw)), (2, .int (nI q))]) hx hb dX1_rangeOf_15 rfl hl (by decide) rfl (fun ls hl => ?_)
  refine lv_aload_n hx hb dX1_rangeOf_16 rfl (lv_at hl 1 rfl) ?_
  refine lv_aload_n hx hb dX1_rangeOf_17 rfl (lv_at hl 1 rfl) ?_
  refine va_get (D := D) (ci := 1) (v := .int (nI pA)) (C := RX1) (T := TX1) (N := 11) hx hb hts hin1 hown hK hP 0 rfl rfl 8 (by decide) (hts (.fieldLink RX1 59 "EpochSifter$Observation" "partsAt" "I") (by decide +kernel)) (fun _ h9 => h9) rfl dX1_rangeOf_18 ?_
  refine lv_bipush (v := nI 10) hx hb dX1_rangeOf_21 (by decide) ?_
  refine lv_iload_n hx hb dX1_rangeOf_23 rfl (lv_at hl 2 rfl) ?_
  refine lv_imul hx hb dX1_rangeOf_24 ?_
  refine r_i (v := nI (10 * rw)) (pk_mul _ _) ?_
  refine lv_iadd hx hb dX1_rangeOf_25 ?_
  refine r_i (v := nI (pA + (10 * rw))) (nI_add _ _) ?_
  refine lv_bipush (v := nI 10) hx hb dX1_rangeOf_26 (by decide) ?_
  refine r_callVi (As := [.int (nI (pA + (10 * rw))), .int (nI 10)]) (rest := []) ⟨hx, hb, hml, hown, hts⟩ (c_X1_number (zl := zl) (D := D) (cI := cI) (cD := cD) o oy x1 x2 x3 x4 x5 x6 (nI wA) (nI pA) (nI fA) x10 fy pb (pA + (10 * rw)) 10 (by first | assumption | omega) (by first | assumption | omega) (by first | assumption | omega) (by first | assumption | omega)) (cwV 2 hts gX1_rangeOf_X1_number rfl rfl rfl (by decide +kernel) ⟨Nat.le_of_ble_eq_true rfl, Nat.le_of_ble_eq_true rfl⟩) hK hN hP hD [0, 1] rfl rfl 0 rfl rfl rfl hl.1 rfl (Nat.le_of_ble_eq_true rfl) dX1_rangeOf_28 ⟨Nat.le_of_ble_eq_true rfl, Nat.le_of_ble_eq_true rfl⟩ (fun r_2 h_2 => ?_)
  obtain rfl := h_2
  refine lv_istore (lv' := [(4, .int (nI (num pb (pA + (10 * rw)) 10))), (3, .int (nI (num pb (wA + (8 * rw)) 8))), (0, .ref o), (1, .int (nI rw)), (2, .int (nI q))]) hx hb dX1_rangeOf_31 hl (by decide) rfl (fun ls hl => ?_)
  refine lv_aload_n hx hb dX1_rangeOf_33 rfl (lv_at hl 2 rfl) ?_
  refine lv_aload_n hx hb dX1_rangeOf_34 rfl (lv_at hl 2 rfl) ?_
  refine va_get (D := D) (ci := 1) (v := .int (nI fA)) (C := RX1) (T := TX1) (N := 11) hx hb hts hin1 hown hK hP 0 rfl rfl 9 (by decide) (hts (.fieldLink RX1 62 "EpochSifter$Observation" "finesAt" "I") (by decide +kernel)) (fun _ h9 => h9) rfl dX1_rangeOf_35 ?_
  refine lv_bipush (v := nI 15) hx hb dX1_rangeOf_38 (by decide) ?_
  refine lv_iload_n hx hb dX1_rangeOf_40 rfl (lv_at hl 4 rfl) ?_
  refine lv_imul hx hb dX1_rangeOf_41 ?_
  refine r_i (v := nI (15 * q)) (pk_mul _ _) ?_
  refine lv_iadd hx hb dX1_rangeOf_42 ?_
  refine r_i (v := nI (fA + (15 * q))) (nI_add _ _) ?_
  refine lv_bipush (v := nI 15) hx hb dX1_rangeOf_43 (by decide) ?_
  refine r_callVi (As := [.int (nI (fA + (15 * q))), .int (nI 15)]) (rest := []) ⟨hx, hb, hml, hown, hts⟩ (c_X1_number (zl := zl) (D := D) (cI := cI) (cD := cD) o oy x1 x2 x3 x4 x5 x6 (nI wA) (nI pA) (nI fA) x10 fy pb (fA + (15 * q)) 15 (by first | assumption | omega) (by first | assumption | omega) (by first | assumption | omega) (by first | assumption | omega)) (cwV 2 hts gX1_rangeOf_X1_number rfl rfl rfl (by decide +kernel) ⟨Nat.le_of_ble_eq_true rfl, Nat.le_of_ble_eq_true rfl⟩) hK hN hP hD [0, 1] rfl rfl 0 rfl rfl rfl hl.1 rfl (Nat.le_of_ble_eq_true rfl) dX1_rangeOf_45 ⟨Nat.le_of_ble_eq_true rfl, Nat.le_of_ble_eq_true rfl⟩ (fun r_3 h_3 => ?_)
  obtain rfl := h_3
  refine lv_bipush (v := nI 15) hx hb dX1_rangeOf_48 (by decide) ?_
  refine r_callSi (As := [.int (nI (num pb (fA + (15 * q)) 15)), .int (nI 15)]) (rest := []) ⟨hx, hb, hml, hown, hts⟩ (c_X1_signed (zl := zl) (D := D) (cI := cI) (cD := cD) (num pb (fA + (15 * q)) 15) (by omega)) (va_cwS 2 hts gX1_rangeOf_X1_signed rfl rfl rfl (by decide +kernel) ⟨Nat.le_of_ble_eq_true rfl, Nat.le_of_ble_eq_true rfl⟩) hK hN hP hD rfl hl.1 rfl (Nat.le_of_ble_eq_true rfl) dX1_rangeOf_50 ⟨Nat.le_of_ble_eq_true rfl, Nat.le_of_ble_eq_true rfl⟩ (fun r_4 h_4 => ?_)
  obtain rfl := h_4
  refine lv_istore (lv' := [(5, .int (sg15 (num pb (fA + (15 * q)) 15))), (4, .int (nI (num pb (pA + (10 * rw)) 10))), (3, .int (nI (num pb (wA + (8 * rw)) 8))), (0, .ref o), (1, .int (nI rw)), (2, .int (nI q))]) hx hb dX1_rangeOf_53 hl (by decide) rfl (fun ls hl => ?_)
  refine lv_iload_n hx hb dX1_rangeOf_55 rfl (lv_at hl 2 rfl) ?_
  refine lv_sipush (v := nI 255) hx hb dX1_rangeOf_56 (by decide) ?_
  refine rn_eq (tgt := 70) hx hb dX1_rangeOf_59 (by decide) (by omega) (by omega) (fun c_59 => ?_) (fun c_59 => ?_)
  · skip
    refine lv_ldc2d (v := 13830554455654793216) hx hb hown (hts (.constantDouble RX1 91 (13830554455654793216)) (by decide +kernel)) dX1_rangeOf_70 ?_
    exact W.dret (v := 13830554455654793216) hx hb hr (fun tz htz hWz => ⟨_, rfl, by unfold reck; rw [if_pos (by first | exact Or.inl c_59 | exact Or.inr c_67)], htz⟩) (fun _ h => absurd h List.not_mem_nil) dX1_rangeOf_73
  · skip
    refine lv_iload hx hb dX1_rangeOf_62 (lv_at hl 0 rfl) ?_
    refine lv_sipush (v := (-16384)) hx hb dX1_rangeOf_64 (by decide) ?_
    refine lv_icmp_ne (tgt := 74) hx hb dX1_rangeOf_67 (by decide) (fun c_67 => ?_) (fun c_67 => ?_)
    · skip
      refine lv_iload_n hx hb dX1_rangeOf_74 rfl (lv_at hl 2 rfl) ?_
      refine lv_i2d hx hb dX1_rangeOf_75 ?_
      refine lv_iload hx hb dX1_rangeOf_76 (lv_at hl 1 rfl) ?_
      refine lv_i2d hx hb dX1_rangeOf_78 ?_
      refine lv_ldc2d (v := 4652218415073722368) hx hb hown (hts (.constantDouble RX1 93 (4652218415073722368)) (by decide +kernel)) dX1_rangeOf_79 ?_
      refine lv_ddiv hx hb dX1_rangeOf_82 (fn_of (rk1 _) (by decide)) ?_
      refine lv_dadd hx hb dX1_rangeOf_83 (fn_of (rk2 _ _) (by decide)) ?_
      refine lv_iload hx hb dX1_rangeOf_84 (lv_at hl 0 rfl) ?_
      refine lv_i2d hx hb dX1_rangeOf_86 ?_
      refine lv_ldc2d (v := 4715268809856909312) hx hb hown (hts (.constantDouble RX1 95 (4715268809856909312)) (by decide +kernel)) dX1_rangeOf_87 ?_
      refine lv_ddiv hx hb dX1_rangeOf_90 (fn_of (rk3 _) (by decide)) ?_
      refine lv_dadd hx hb dX1_rangeOf_91 (fn_of (rk4 _ _ _) (by decide)) ?_
      refine lv_dstore (lv' := [(6, .double (FP.dadd (FP.dadd (FP.i2d (nI (num pb (wA + (8 * rw)) 8))) (FP.ddiv (FP.i2d (nI (num pb (pA + (10 * rw)) 10))) 4652218415073722368)) (FP.ddiv (FP.i2d (sg15 (num pb (fA + (15 * q)) 15))) 4715268809856909312))), (5, .int (sg15 (num pb (fA + (15 * q)) 15))), (4, .int (nI (num pb (pA + (10 * rw)) 10))), (3, .int (nI (num pb (wA + (8 * rw)) 8))), (0, .ref o), (1, .int (nI rw)), (2, .int (nI q))]) hx hb dX1_rangeOf_92 hl (by decide) rfl (fun ls hl => ?_)
      refine lv_dload hx hb dX1_rangeOf_94 (lv_at hl 0 rfl) ?_
      refine lv_ldc2d (v := 4688894007676105654) hx hb hown (hts (.constantDouble RX1 97 (4688894007676105654)) (by decide +kernel)) dX1_rangeOf_96 ?_
      refine lv_dmul hx hb dX1_rangeOf_99 (fn_of (rk5 _ _ _) (by decide)) ?_
      exact W.dret (v := FP.dmul (FP.dadd (FP.dadd (FP.i2d (nI (num pb (wA + (8 * rw)) 8))) (FP.ddiv (FP.i2d (nI (num pb (pA + (10 * rw)) 10))) 4652218415073722368)) (FP.ddiv (FP.i2d (sg15 (num pb (fA + (15 * q)) 15))) 4715268809856909312)) 4688894007676105654) hx hb hr (fun tz htz hWz => ⟨_, rfl, by unfold reck; rw [if_neg (fun z => z.elim c_59 c_67)], htz⟩) (fun _ h => absurd h List.not_mem_nil) dX1_rangeOf_100
    · skip
      refine lv_ldc2d (v := 13830554455654793216) hx hb hown (hts (.constantDouble RX1 91 (13830554455654793216)) (by decide +kernel)) dX1_rangeOf_70 ?_
      exact W.dret (v := 13830554455654793216) hx hb hr (fun tz htz hWz => ⟨_, rfl, by unfold reck; rw [if_pos (by first | exact Or.inl c_59 | exact Or.inr c_67)], htz⟩) (fun _ h => absurd h List.not_mem_nil) dX1_rangeOf_73
set_option maxHeartbeats 4000000 in
set_option maxRecDepth 100000 in
/-- where the rows of numbers begin -/
theorem c_X1_layOut {zl : Launch} {D : va_G} {cI cD : ClassId} (o : Nat) (oy : Nat) (x1 : Int32) (x2 : Int32) (x3 : Int32) (x4 : Int32) (x7 : Int32) (x8 : Int32) (x9 : Int32) (x10 : Int32) (fy : Nat → Int32) (pb : List Nat) (bits : Nat) (hpy : Pay fy pb) (hpB : By pb) (hbits : bits < 2 ^ 20) (hl0 : layok pb bits) : Cx zl yX1_layOut wsX1_layOut ({ frames := 2, cells := 0, slots := 0, locals := 47 }) D cI cD [.ref o, .int (nI bits)] [(o, .inr (1, [.ref oy, .int x1, .int x2, .int x3, .int x4, .int (nI (num pb 55 16)), .int (nI (num pb 71 4)), .int x7, .int x8, .int x9, .int x10])), (oy, .inl (cI, 90, .inl fy))] (fun v w1 => w1 = [(o, .inr (1, [.ref oy, .int x1, .int x2, .int x3, .int x4, .int (nI (num pb 55 16)), .int (nI (num pb 71 4)), .int (nI (75 + nS pb * nG pb)), .int (nI (75 + nS pb * nG pb + 8 * nS pb)), .int (nI (75 + nS pb * nG pb + 8 * nS pb + 10 * nS pb)), .int (nI (75 + nS pb * nG pb + 8 * nS pb + 10 * nS pb + 15 * nC pb))])), (oy, .inl (cI, 90, .inl fy))] ∧ v = some (.int (nI 1))) := by
  refine Met.ofW (cc := cX1_layOut) (maxL := 5) (ret := (some .boolean)) (by decide) rfl ?_
  intro zp ze zs zm zargs zb zt zc zs₁ B hml hv
  obtain ⟨rfl, hP, hK, hD0, hN⟩ := hv
  have hx := B.exec
  have hb := B.bytes
  have hr := B.returns
  have hts := atoms_spec (ws := wsX1_layOut) B.pre
  have hown : zs.vm.findClass RX1 = some zm.cls := findClass_of_methodNamed B.named
  have hlocks := B.notSynchronized
  have hD := inW_self hD0
  have hS : va_S (inW [(o, .inr (1, [.ref oy, .int x1, .int x2, .int x3, .int x4, .int (nI (num pb 55 16)), .int (nI (num pb 71 4)), .int x7, .int x8, .int x9, .int x10])), (oy, .inl (cI, 90, .inl fy))]) zs.heap zs.heap [] := va_S.rf
  have hl := lv_entry [.ref o, .int (nI bits)] (n := 5) (Nat.le_of_ble_eq_true rfl)
  rw [lg_entry_eq]
  generalize (lg_sl [.ref o, .int (nI bits)] ++ List.replicate (5 - (lg_sl [.ref o, .int (nI bits)]).length) Slot.unset).toArray = ls at hl ⊢
  have hl : lv_has ls 5 [(0, .ref o), (1, .int (nI bits))] := hl
  have hin1 : ∀ w ∈ u_ws RX1 TX1 11, w ∈ wsX1_layOut := by decide +kernel
  have z6 := num_lt pb 55 16
  have z7 := num_lt pb 71 4
  have q55 := ons_le pb 55 16
  have q71 := ons_le pb 71 4
  have qsg := sg_le pb
  have qa : nS pb ≤ 16 := ons_le _ _ _
  have qd : nG pb ≤ 4 := ons_le _ _ _
  have qc : nC pb = ons pb 75 (nS pb * nG pb) := rfl
  have q75 := ons_le pb 75 (nS pb * nG pb)
  have hl1 := hl0.1
  have hl2 := hl0.2.1
  have hl3 := hl0.2.2
  have cuts : ∀ fuel : Nat, (∀ (j : Nat), (j ≤ nS pb * nG pb) → (nS pb * nG pb - j) < fuel → ∀ (H : Heap) (locs : List Loc), va_P D vwCl [(o, .inr (1, [.ref oy, .int x1, .int x2, .int x3, .int x4, .int (nI (num pb 55 16)), .int (nI (num pb 71 4)), .int (nI (75 + nS pb * nG pb)), .int x8, .int x9, .int x10])), (oy, .inl (cI, 90, .inl fy))] H → va_D (inW [(o, .inr (1, [.ref oy, .int x1, .int x2, .int x3, .int x4, .int (nI (num pb 55 16)), .int (nI (num pb 71 4)), .int x7, .int x8, .int x9, .int x10])), (oy, .inl (cI, 90, .inl fy))]) [(o, .inr (1, [.ref oy, .int x1, .int x2, .int x3, .int x4, .int (nI (num pb 55 16)), .int (nI (num pb 71 4)), .int (nI (75 + nS pb * nG pb)), .int x8, .int x9, .int x10])), (oy, .inl (cI, 90, .inl fy))] → va_S (inW [(o, .inr (1, [.ref oy, .int x1, .int x2, .int x3, .int x4, .int (nI (num pb 55 16)), .int (nI (num pb 71 4)), .int x7, .int x8, .int x9, .int x10])), (oy, .inl (cI, 90, .inl fy))]) zs.heap H locs → ∀ (ls : Array Slot), lv_has ls 5 [(0, .ref o), (1, .int (nI bits)), (2, .int (nI (nS pb))), (3, .int (nI (ons pb 75 j))), (4, .int (nI (75 + j)))] → W zp zl ze ({ frames := 2, cells := 0, slots := 0, locals := 47 }) zs zm [.ref o, .int (nI bits)].toArray zb zt zc H locs 0 0 (MQ zb (Xq D [(o, .inr (1, [.ref oy, .int x1, .int x2, .int x3, .int x4, .int (nI (num pb 55 16)), .int (nI (num pb 71 4)), .int x7, .int x8, .int x9, .int x10])), (oy, .inl (cI, 90, .inl fy))] (fun v w1 => w1 = [(o, .inr (1, [.ref oy, .int x1, .int x2, .int x3, .int x4, .int (nI (num pb 55 16)), .int (nI (num pb 71 4)), .int (nI (75 + nS pb * nG pb)), .int (nI (75 + nS pb * nG pb + 8 * nS pb)), .int (nI (75 + nS pb * nG pb + 8 * nS pb + 10 * nS pb)), .int (nI (75 + nS pb * nG pb + 8 * nS pb + 10 * nS pb + 15 * nC pb))])), (oy, .inl (cI, 90, .inl fy))] ∧ v = some (.int (nI 1)))) [.ref o, .int (nI bits)].toArray zs 0 0 (inW [(o, .inr (1, [.ref oy, .int x1, .int x2, .int x3, .int x4, .int (nI (num pb 55 16)), .int (nI (num pb 71 4)), .int x7, .int x8, .int x9, .int x10])), (oy, .inl (cI, 90, .inl fy))])) (F0 zm 30 ls [])) := by
    intro fuel
    induction fuel with
    | zero => exact (by intros; exact absurd (by assumption) (Nat.not_lt_zero _))
    | succ fuel ih =>
      intro j hj hm H locs hP hD hS ls hl
      have zj := ons_le pb 75 j
      have hb1 := bt_lt pb (75 + j)
      refine lv_iload hx hb dX1_layOut_30 (lv_at hl 4 rfl) ?_
      refine lv_aload_n hx hb dX1_layOut_32 rfl (lv_at hl 0 rfl) ?_
      refine va_get (D := D) (ci := 1) (v := .int (nI (75 + nS pb * nG pb))) (C := RX1) (T := TX1) (N := 11) hx hb hts hin1 hown hK hP 0 rfl rfl 7 (by decide) (hts (.fieldLink RX1 56 "EpochSifter$Observation" "wholesAt" "I") (by decide +kernel)) (fun _ h9 => h9) rfl dX1_layOut_33 ?_
      refine rn_ge (tgt := 55) hx hb dX1_layOut_36 (by decide) (by omega) (by omega) (fun c_36 => ?_) (fun c_36 => ?_)
      · skip
        obtain rfl : j = nS pb * nG pb := by omega
        refine lv_aload_n hx hb dX1_layOut_55 rfl (lv_at hl 0 rfl) ?_
        refine lv_aload_n hx hb dX1_layOut_56 rfl (lv_at hl 0 rfl) ?_
        refine va_get (D := D) (ci := 1) (v := .int (nI (75 + nS pb * nG pb))) (C := RX1) (T := TX1) (N := 11) hx hb hts hin1 hown hK hP 0 rfl rfl 7 (by decide) (hts (.fieldLink RX1 56 "EpochSifter$Observation" "wholesAt" "I") (by decide +kernel)) (fun _ h9 => h9) rfl dX1_layOut_57 ?_
        refine lv_bipush (v := nI 8) hx hb dX1_layOut_60 (by decide) ?_
        refine lv_iload_n hx hb dX1_layOut_62 rfl (lv_at hl 2 rfl) ?_
        refine lv_imul hx hb dX1_layOut_63 ?_
        refine r_i (v := nI (8 * (nS pb))) (pk_mul _ _) ?_
        refine lv_iadd hx hb dX1_layOut_64 ?_
        refine r_i (v := nI (75 + nS pb * nG pb + (8 * (nS pb)))) (nI_add _ _) ?_
        refine va_put (D := D) (ci := 1) (v := .int (nI (75 + nS pb * nG pb + (8 * (nS pb))))) (ty := .int) (C := RX1) (T := TX1) (N := 11) hx hb hts hin1 tyX1 tyX1_ok nmX1 hown hK hP hD hS 0 rfl rfl 8 (by decide) (hts (.fieldLink RX1 59 "EpochSifter$Observation" "partsAt" "I") (by decide +kernel)) (fun _ h9 => h9) rfl (by decide +kernel) (rfl) (rfl) (Nat.le_of_ble_eq_true rfl) dX1_layOut_65 (fun H locs hP hD hS => ?_)
        have hP : va_P D vwCl [(o, .inr (1, [.ref oy, .int x1, .int x2, .int x3, .int x4, .int (nI (num pb 55 16)), .int (nI (num pb 71 4)), .int (nI (75 + nS pb * nG pb)), .int (nI (75 + nS pb * nG pb + (8 * (nS pb)))), .int x9, .int x10])), (oy, .inl (cI, 90, .inl fy))] _ := hP
        have hD : va_D (inW [(o, .inr (1, [.ref oy, .int x1, .int x2, .int x3, .int x4, .int (nI (num pb 55 16)), .int (nI (num pb 71 4)), .int x7, .int x8, .int x9, .int x10])), (oy, .inl (cI, 90, .inl fy))]) [(o, .inr (1, [.ref oy, .int x1, .int x2, .int x3, .int x4, .int (nI (num pb 55 16)), .int (nI (num pb 71 4)), .int (nI (75 + nS pb * nG pb)), .int (nI (75 + nS pb * nG pb + (8 * (nS pb)))), .int x9, .int x10])), (oy, .inl (cI, 90, .inl fy))] := hD
        refine lv_aload_n hx hb dX1_layOut_68 rfl (lv_at hl 0 rfl) ?_
        refine lv_aload_n hx hb dX1_layOut_69 rfl (lv_at hl 0 rfl) ?_
        refine va_get (D := D) (ci := 1) (v := .int (nI (75 + nS pb * nG pb + (8 * (nS pb))))) (C := RX1) (T := TX1) (N := 11) hx hb hts hin1 hown hK hP 0 rfl rfl 8 (by decide) (hts (.fieldLink RX1 59 "EpochSifter$Observation" "partsAt" "I") (by decide +kernel)) (fun _ h9 => h9) rfl dX1_layOut_70 ?_
        refine lv_bipush (v := nI 10) hx hb dX1_layOut_73 (by decide) ?_
        refine lv_iload_n hx hb dX1_layOut_75 rfl (lv_at hl 2 rfl) ?_
        refine lv_imul hx hb dX1_layOut_76 ?_
        refine r_i (v := nI (10 * (nS pb))) (pk_mul _ _) ?_
        refine lv_iadd hx hb dX1_layOut_77 ?_
        refine r_i (v := nI (75 + nS pb * nG pb + (8 * (nS pb)) + (10 * (nS pb)))) (nI_add _ _) ?_
        refine va_put (D := D) (ci := 1) (v := .int (nI (75 + nS pb * nG pb + (8 * (nS pb)) + (10 * (nS pb))))) (ty := .int) (C := RX1) (T := TX1) (N := 11) hx hb hts hin1 tyX1 tyX1_ok nmX1 hown hK hP hD hS 0 rfl rfl 9 (by decide) (hts (.fieldLink RX1 62 "EpochSifter$Observation" "finesAt" "I") (by decide +kernel)) (fun _ h9 => h9) rfl (by decide +kernel) (rfl) (rfl) (Nat.le_of_ble_eq_true rfl) dX1_layOut_78 (fun H locs hP hD hS => ?_)
        have hP : va_P D vwCl [(o, .inr (1, [.ref oy, .int x1, .int x2, .int x3, .int x4, .int (nI (num pb 55 16)), .int (nI (num pb 71 4)), .int (nI (75 + nS pb * nG pb)), .int (nI (75 + nS pb * nG pb + (8 * (nS pb)))), .int (nI (75 + nS pb * nG pb + (8 * (nS pb)) + (10 * (nS pb)))), .int x10])), (oy, .inl (cI, 90, .inl fy))] _ := hP
        have hD : va_D (inW [(o, .inr (1, [.ref oy, .int x1, .int x2, .int x3, .int x4, .int (nI (num pb 55 16)), .int (nI (num pb 71 4)), .int x7, .int x8, .int x9, .int x10])), (oy, .inl (cI, 90, .inl fy))]) [(o, .inr (1, [.ref oy, .int x1, .int x2, .int x3, .int x4, .int (nI (num pb 55 16)), .int (nI (num pb 71 4)), .int (nI (75 + nS pb * nG pb)), .int (nI (75 + nS pb * nG pb + (8 * (nS pb)))), .int (nI (75 + nS pb * nG pb + (8 * (nS pb)) + (10 * (nS pb)))), .int x10])), (oy, .inl (cI, 90, .inl fy))] := hD
        refine lv_aload_n hx hb dX1_layOut_81 rfl (lv_at hl 0 rfl) ?_
        refine lv_aload_n hx hb dX1_layOut_82 rfl (lv_at hl 0 rfl) ?_
        refine va_get (D := D) (ci := 1) (v := .int (nI (75 + nS pb * nG pb + (8 * (nS pb)) + (10 * (nS pb))))) (C := RX1) (T := TX1) (N := 11) hx hb hts hin1 hown hK hP 0 rfl rfl 9 (by decide) (hts (.fieldLink RX1 62 "EpochSifter$Observation" "finesAt" "I") (by decide +kernel)) (fun _ h9 => h9) rfl dX1_layOut_83 ?_
        refine lv_bipush (v := nI 15) hx hb dX1_layOut_86 (by decide) ?_
        refine lv_iload_n hx hb dX1_layOut_88 rfl (lv_at hl 3 rfl) ?_
        refine lv_imul hx hb dX1_layOut_89 ?_
        refine r_i (v := nI (15 * (ons pb 75 (nS pb * nG pb)))) (pk_mul _ _) ?_
        refine lv_iadd hx hb dX1_layOut_90 ?_
        refine r_i (v := nI (75 + nS pb * nG pb + (8 * (nS pb)) + (10 * (nS pb)) + (15 * (ons pb 75 (nS pb * nG pb))))) (nI_add _ _) ?_
        refine va_put (D := D) (ci := 1) (v := .int (nI (75 + nS pb * nG pb + (8 * (nS pb)) + (10 * (nS pb)) + (15 * (ons pb 75 (nS pb * nG pb)))))) (ty := .int) (C := RX1) (T := TX1) (N := 11) hx hb hts hin1 tyX1 tyX1_ok nmX1 hown hK hP hD hS 0 rfl rfl 10 (by decide) (hts (.fieldLink RX1 65 "EpochSifter$Observation" "strengthsAt" "I") (by decide +kernel)) (fun _ h9 => h9) rfl (by decide +kernel) (rfl) (rfl) (Nat.le_of_ble_eq_true rfl) dX1_layOut_91 (fun H locs hP hD hS => ?_)
        have hP : va_P D vwCl [(o, .inr (1, [.ref oy, .int x1, .int x2, .int x3, .int x4, .int (nI (num pb 55 16)), .int (nI (num pb 71 4)), .int (nI (75 + nS pb * nG pb)), .int (nI (75 + nS pb * nG pb + (8 * (nS pb)))), .int (nI (75 + nS pb * nG pb + (8 * (nS pb)) + (10 * (nS pb)))), .int (nI (75 + nS pb * nG pb + (8 * (nS pb)) + (10 * (nS pb)) + (15 * (ons pb 75 (nS pb * nG pb)))))])), (oy, .inl (cI, 90, .inl fy))] _ := hP
        have hD : va_D (inW [(o, .inr (1, [.ref oy, .int x1, .int x2, .int x3, .int x4, .int (nI (num pb 55 16)), .int (nI (num pb 71 4)), .int x7, .int x8, .int x9, .int x10])), (oy, .inl (cI, 90, .inl fy))]) [(o, .inr (1, [.ref oy, .int x1, .int x2, .int x3, .int x4, .int (nI (num pb 55 16)), .int (nI (num pb 71 4)), .int (nI (75 + nS pb * nG pb)), .int (nI (75 + nS pb * nG pb + (8 * (nS pb)))), .int (nI (75 + nS pb * nG pb + (8 * (nS pb)) + (10 * (nS pb)))), .int (nI (75 + nS pb * nG pb + (8 * (nS pb)) + (10 * (nS pb)) + (15 * (ons pb 75 (nS pb * nG pb)))))])), (oy, .inl (cI, 90, .inl fy))] := hD
        refine lv_iload_n hx hb dX1_layOut_94 rfl (lv_at hl 3 rfl) ?_
        refine lv_bipush (v := nI 16) hx hb dX1_layOut_95 (by decide) ?_
        refine rn_gt (tgt := 117) hx hb dX1_layOut_97 (by decide) (by omega) (by omega) (fun c_97 => ?_) (fun c_97 => ?_)
        · omega
        · skip
          refine lv_aload_n hx hb dX1_layOut_100 rfl (lv_at hl 0 rfl) ?_
          refine va_get (D := D) (ci := 1) (v := .int (nI (75 + nS pb * nG pb + (8 * (nS pb)) + (10 * (nS pb)) + (15 * (ons pb 75 (nS pb * nG pb)))))) (C := RX1) (T := TX1) (N := 11) hx hb hts hin1 hown hK hP 0 rfl rfl 10 (by decide) (hts (.fieldLink RX1 65 "EpochSifter$Observation" "strengthsAt" "I") (by decide +kernel)) (fun _ h9 => h9) rfl dX1_layOut_101 ?_
          refine lv_bipush (v := nI 6) hx hb dX1_layOut_104 (by decide) ?_
          refine lv_iload_n hx hb dX1_layOut_106 rfl (lv_at hl 3 rfl) ?_
          refine lv_imul hx hb dX1_layOut_107 ?_
          refine r_i (v := nI (6 * (ons pb 75 (nS pb * nG pb)))) (pk_mul _ _) ?_
          refine lv_iadd hx hb dX1_layOut_108 ?_
          refine r_i (v := nI (75 + nS pb * nG pb + (8 * (nS pb)) + (10 * (nS pb)) + (15 * (ons pb 75 (nS pb * nG pb))) + (6 * (ons pb 75 (nS pb * nG pb))))) (nI_add _ _) ?_
          refine lv_iload_n hx hb dX1_layOut_109 rfl (lv_at hl 1 rfl) ?_
          refine rn_gt (tgt := 117) hx hb dX1_layOut_110 (by decide) (by omega) (by omega) (fun c_110 => ?_) (fun c_110 => ?_)
          · omega
          · skip
            refine lv_iconst (v := nI 1) hx hb dX1_layOut_113 (by decide) ?_
            refine lv_goto (tgt := 118) hx hb dX1_layOut_114 (by decide) ?_
            exact W.zret (v := nI 1) hx hb hr (rfl) (fun tz htz hWz => ⟨some (.int (nI 1)), [(o, .inr (1, [.ref oy, .int x1, .int x2, .int x3, .int x4, .int (nI (num pb 55 16)), .int (nI (num pb 71 4)), .int (nI (75 + nS pb * nG pb)), .int (nI (75 + nS pb * nG pb + (8 * (nS pb)))), .int (nI (75 + nS pb * nG pb + (8 * (nS pb)) + (10 * (nS pb)))), .int (nI (75 + nS pb * nG pb + (8 * (nS pb)) + (10 * (nS pb)) + (15 * (ons pb 75 (nS pb * nG pb)))))])), (oy, .inl (cI, 90, .inl fy))], rfl, ⟨rfl, rfl⟩, rfl, by rw [htz]; exact hP, hS.F htz⟩) (fun q h => hS.2.2 q h) dX1_layOut_118
      · skip
        refine lv_iload_n hx hb dX1_layOut_39 rfl (lv_at hl 3 rfl) ?_
        refine lv_aload_n hx hb dX1_layOut_40 rfl (lv_at hl 0 rfl) ?_
        refine lv_iload hx hb dX1_layOut_41 (lv_at hl 4 rfl) ?_
        refine lv_iconst (v := nI 1) hx hb dX1_layOut_43 (by decide) ?_
        refine r_callVi (As := [.int (nI (75 + j)), .int (nI 1)]) (rest := [.int (nI (ons pb 75 j))]) ⟨hx, hb, hml, hown, hts⟩ (c_X1_number (zl := zl) (D := D) (cI := cI) (cD := cD) o oy x1 x2 x3 x4 (nI (num pb 55 16)) (nI (num pb 71 4)) (nI (75 + nS pb * nG pb)) x8 x9 x10 fy pb (75 + j) 1 (by first | assumption | omega) (by first | assumption | omega) (by omega) (by first | assumption | omega)) (cwV 2 hts gX1_layOut_X1_number rfl rfl rfl (by decide +kernel) ⟨Nat.le_of_ble_eq_true rfl, Nat.le_of_ble_eq_true rfl⟩) hK hN hP hD [0, 1] rfl rfl 0 rfl rfl rfl hl.1 rfl (Nat.le_of_ble_eq_true rfl) dX1_layOut_44 ⟨Nat.le_of_ble_eq_true rfl, Nat.le_of_ble_eq_true rfl⟩ (fun r_1 h_1 => ?_)
        obtain rfl := h_1
        refine r_i (v := nI (bt pb (75 + j))) (congrArg nI (num_one _ _)) ?_
        refine lv_iadd hx hb dX1_layOut_47 ?_
        refine r_i (v := nI (ons pb 75 j + (bt pb (75 + j)))) (nI_add _ _) ?_
        refine r_i (v := nI (ons pb 75 (j + 1))) (rfl) ?_
        refine lv_istore_n (lv' := [(3, .int (nI (ons pb 75 (j + 1)))), (0, .ref o), (1, .int (nI bits)), (2, .int (nI (nS pb))), (4, .int (nI (75 + j)))]) hx hb dX1_layOut_48 rfl hl (by decide) rfl (fun ls hl => ?_)
        refine lv_iinc (v := nI (75 + (j + 1))) (lv' := [(4, .int (nI (75 + (j + 1)))), (3, .int (nI (ons pb 75 (j + 1)))), (0, .ref o), (1, .int (nI bits)), (2, .int (nI (nS pb)))]) hx hb dX1_layOut_49 hl (k := 4) rfl (nI_add _ _) (by decide) rfl (fun ls hl => ?_)
        refine lv_goto (tgt := 30) hx hb dX1_layOut_52 (by decide) ?_
        exact ih (j + 1) (by omega) (by omega) _ _ hP hD hS ls (lv_sub hl [2, 3, 4, 1, 0] rfl)
  refine lv_aload_n hx hb dX1_layOut_0 rfl (lv_at hl 0 rfl) ?_
  refine va_get (D := D) (ci := 1) (v := .int (nI (num pb 55 16))) (C := RX1) (T := TX1) (N := 11) hx hb hts hin1 hown hK hP 0 rfl rfl 5 (by decide) (hts (.fieldLink RX1 37 "EpochSifter$Observation" "satelliteMask" "I") (by decide +kernel)) (fun _ h9 => h9) rfl dX1_layOut_1 ?_
  refine r_callSi (As := [.int (nI (num pb 55 16))]) (rest := []) ⟨hx, hb, hml, hown, hts⟩ (c_J6_bitCount_0f7a4 (zl := zl) (D := D) (cI := cI) (cD := cD) (num pb 55 16) (by first | assumption | omega)) (va_cwS 1 hts gX1_layOut_J6_bitCount_0f7a4 rfl rfl rfl (by decide +kernel) ⟨Nat.le_of_ble_eq_true rfl, Nat.le_of_ble_eq_true rfl⟩) hK hN hP hD rfl hl.1 rfl (Nat.le_of_ble_eq_true rfl) dX1_layOut_4 ⟨Nat.le_of_ble_eq_true rfl, Nat.le_of_ble_eq_true rfl⟩ (fun r_2 h_2 => ?_)
  obtain rfl := h_2
  refine r_i (v := nI (nS pb)) (congrArg nI (pcw_num _ _ _)) ?_
  refine lv_istore_n (lv' := [(2, .int (nI (nS pb))), (0, .ref o), (1, .int (nI bits))]) hx hb dX1_layOut_7 rfl hl (by decide) rfl (fun ls hl => ?_)
  refine lv_aload_n hx hb dX1_layOut_8 rfl (lv_at hl 1 rfl) ?_
  refine lv_bipush (v := nI 75) hx hb dX1_layOut_9 (by decide) ?_
  refine lv_iload_n hx hb dX1_layOut_11 rfl (lv_at hl 0 rfl) ?_
  refine lv_aload_n hx hb dX1_layOut_12 rfl (lv_at hl 1 rfl) ?_
  refine va_get (D := D) (ci := 1) (v := .int (nI (num pb 71 4))) (C := RX1) (T := TX1) (N := 11) hx hb hts hin1 hown hK hP 0 rfl rfl 6 (by decide) (hts (.fieldLink RX1 40 "EpochSifter$Observation" "signalMask" "I") (by decide +kernel)) (fun _ h9 => h9) rfl dX1_layOut_13 ?_
  refine r_callSi (As := [.int (nI (num pb 71 4))]) (rest := [.int (nI (nS pb)), .int (nI 75), .ref o]) ⟨hx, hb, hml, hown, hts⟩ (c_J6_bitCount_0f7a4 (zl := zl) (D := D) (cI := cI) (cD := cD) (num pb 71 4) (by first | assumption | omega)) (va_cwS 1 hts gX1_layOut_J6_bitCount_0f7a4 rfl rfl rfl (by decide +kernel) ⟨Nat.le_of_ble_eq_true rfl, Nat.le_of_ble_eq_true rfl⟩) hK hN hP hD rfl hl.1 rfl (Nat.le_of_ble_eq_true rfl) dX1_layOut_16 ⟨Nat.le_of_ble_eq_true rfl, Nat.le_of_ble_eq_true rfl⟩ (fun r_3 h_3 => ?_)
  obtain rfl := h_3
  refine r_i (v := nI (nG pb)) (congrArg nI ((pcw_ext 4 16 _ z7 (by decide)).trans (pcw_num _ _ _))) ?_
  refine lv_imul hx hb dX1_layOut_19 ?_
  refine r_i (v := nI ((nS pb) * (nG pb))) (pk_mul _ _) ?_
  refine lv_iadd hx hb dX1_layOut_20 ?_
  refine r_i (v := nI (75 + ((nS pb) * (nG pb)))) (nI_add _ _) ?_
  refine va_put (D := D) (ci := 1) (v := .int (nI (75 + ((nS pb) * (nG pb))))) (ty := .int) (C := RX1) (T := TX1) (N := 11) hx hb hts hin1 tyX1 tyX1_ok nmX1 hown hK hP hD hS 0 rfl rfl 7 (by decide) (hts (.fieldLink RX1 56 "EpochSifter$Observation" "wholesAt" "I") (by decide +kernel)) (fun _ h9 => h9) rfl (by decide +kernel) (rfl) (rfl) (Nat.le_of_ble_eq_true rfl) dX1_layOut_21 (fun H locs hP hD hS => ?_)
  have hP : va_P D vwCl [(o, .inr (1, [.ref oy, .int x1, .int x2, .int x3, .int x4, .int (nI (num pb 55 16)), .int (nI (num pb 71 4)), .int (nI (75 + ((nS pb) * (nG pb)))), .int x8, .int x9, .int x10])), (oy, .inl (cI, 90, .inl fy))] _ := hP
  have hD : va_D (inW [(o, .inr (1, [.ref oy, .int x1, .int x2, .int x3, .int x4, .int (nI (num pb 55 16)), .int (nI (num pb 71 4)), .int x7, .int x8, .int x9, .int x10])), (oy, .inl (cI, 90, .inl fy))]) [(o, .inr (1, [.ref oy, .int x1, .int x2, .int x3, .int x4, .int (nI (num pb 55 16)), .int (nI (num pb 71 4)), .int (nI (75 + ((nS pb) * (nG pb)))), .int x8, .int x9, .int x10])), (oy, .inl (cI, 90, .inl fy))] := hD
  refine lv_iconst (v := nI 0) hx hb dX1_layOut_24 (by decide) ?_
  refine lv_istore_n (lv' := [(3, .int (nI 0)), (2, .int (nI (nS pb))), (0, .ref o), (1, .int (nI bits))]) hx hb dX1_layOut_25 rfl hl (by decide) rfl (fun ls hl => ?_)
  refine lv_bipush (v := nI 75) hx hb dX1_layOut_26 (by decide) ?_
  refine lv_istore (lv' := [(4, .int (nI 75)), (3, .int (nI 0)), (2, .int (nI (nS pb))), (0, .ref o), (1, .int (nI bits))]) hx hb dX1_layOut_28 hl (by decide) rfl (fun ls hl => ?_)
  exact (cuts _) 0 (by first | assumption | omega) (Nat.lt_succ_self _) _ _ hP hD hS ls (lv_sub hl [3, 4, 2, 1, 0] rfl)
set_option maxHeartbeats 4000000 in
set_option maxRecDepth 100000 in
/-- where the rows of numbers begin (they do not fit) -/
theorem c_X1_layOut_no {zl : Launch} {D : va_G} {cI cD : ClassId} (o : Nat) (oy : Nat) (x1 : Int32) (x2 : Int32) (x3 : Int32) (x4 : Int32) (x7 : Int32) (x8 : Int32) (x9 : Int32) (x10 : Int32) (fy : Nat → Int32) (pb : List Nat) (bits : Nat) (hpy : Pay fy pb) (hpB : By pb) (hbits : bits < 2 ^ 20) (hl0 : ¬ layok pb bits) : Cx zl yX1_layOut wsX1_layOut ({ frames := 2, cells := 0, slots := 0, locals := 47 }) D cI cD [.ref o, .int (nI bits)] [(o, .inr (1, [.ref oy, .int x1, .int x2, .int x3, .int x4, .int (nI (num pb 55 16)), .int (nI (num pb 71 4)), .int x7, .int x8, .int x9, .int x10])), (oy, .inl (cI, 90, .inl fy))] (fun v w1 => ∃ (y7 : Int32), ∃ (y8 : Int32), ∃ (y9 : Int32), ∃ (y10 : Int32), w1 = [(o, .inr (1, [.ref oy, .int x1, .int x2, .int x3, .int x4, .int (nI (num pb 55 16)), .int (nI (num pb 71 4)), .int y7, .int y8, .int y9, .int y10])), (oy, .inl (cI, 90, .inl fy))] ∧ v = some (.int (nI 0))) := by
  refine Met.ofW (cc := cX1_layOut) (maxL := 5) (ret := (some .boolean)) (by decide) rfl ?_
  intro zp ze zs zm zargs zb zt zc zs₁ B hml hv
  obtain ⟨rfl, hP, hK, hD0, hN⟩ := hv
  have hx := B.exec
  have hb := B.bytes
  have hr := B.returns
  have hts := atoms_spec (ws := wsX1_layOut) B.pre
  have hown : zs.vm.findClass RX1 = some zm.cls := findClass_of_methodNamed B.named
  have hlocks := B.notSynchronized
  have hD := inW_self hD0
  have hS : va_S (inW [(o, .inr (1, [.ref oy, .int x1, .int x2, .int x3, .int x4, .int (nI (num pb 55 16)), .int (nI (num pb 71 4)), .int x7, .int x8, .int x9, .int x10])), (oy, .inl (cI, 90, .inl fy))]) zs.heap zs.heap [] := va_S.rf
  have hl := lv_entry [.ref o, .int (nI bits)] (n := 5) (Nat.le_of_ble_eq_true rfl)
  rw [lg_entry_eq]
  generalize (lg_sl [.ref o, .int (nI bits)] ++ List.replicate (5 - (lg_sl [.ref o, .int (nI bits)]).length) Slot.unset).toArray = ls at hl ⊢
  have hl : lv_has ls 5 [(0, .ref o), (1, .int (nI bits))] := hl
  have hin1 : ∀ w ∈ u_ws RX1 TX1 11, w ∈ wsX1_layOut := by decide +kernel
  have z6 := num_lt pb 55 16
  have z7 := num_lt pb 71 4
  have q55 := ons_le pb 55 16
  have q71 := ons_le pb 71 4
  have qsg := sg_le pb
  have qa : nS pb ≤ 16 := ons_le _ _ _
  have qd : nG pb ≤ 4 := ons_le _ _ _
  have qc : nC pb = ons pb 75 (nS pb * nG pb) := rfl
  have q75 := ons_le pb 75 (nS pb * nG pb)
  have cuts : ∀ fuel : Nat, (∀ (j : Nat), (j ≤ nS pb * nG pb) → (nS pb * nG pb - j) < fuel → ∀ (H : Heap) (locs : List Loc), va_P D vwCl [(o, .inr (1, [.ref oy, .int x1, .int x2, .int x3, .int x4, .int (nI (num pb 55 16)), .int (nI (num pb 71 4)), .int (nI (75 + nS pb * nG pb)), .int x8, .int x9, .int x10])), (oy, .inl (cI, 90, .inl fy))] H → va_D (inW [(o, .inr (1, [.ref oy, .int x1, .int x2, .int x3, .int x4, .int (nI (num pb 55 16)), .int (nI (num pb 71 4)), .int x7, .int x8, .int x9, .int x10])), (oy, .inl (cI, 90, .inl fy))]) [(o, .inr (1, [.ref oy, .int x1, .int x2, .int x3, .int x4, .int (nI (num pb 55 16)), .int (nI (num pb 71 4)), .int (nI (75 + nS pb * nG pb)), .int x8, .int x9, .int x10])), (oy, .inl (cI, 90, .inl fy))] → va_S (inW [(o, .inr (1, [.ref oy, .int x1, .int x2, .int x3, .int x4, .int (nI (num pb 55 16)), .int (nI (num pb 71 4)), .int x7, .int x8, .int x9, .int x10])), (oy, .inl (cI, 90, .inl fy))]) zs.heap H locs → ∀ (ls : Array Slot), lv_has ls 5 [(0, .ref o), (1, .int (nI bits)), (2, .int (nI (nS pb))), (3, .int (nI (ons pb 75 j))), (4, .int (nI (75 + j)))] → W zp zl ze ({ frames := 2, cells := 0, slots := 0, locals := 47 }) zs zm [.ref o, .int (nI bits)].toArray zb zt zc H locs 0 0 (MQ zb (Xq D [(o, .inr (1, [.ref oy, .int x1, .int x2, .int x3, .int x4, .int (nI (num pb 55 16)), .int (nI (num pb 71 4)), .int x7, .int x8, .int x9, .int x10])), (oy, .inl (cI, 90, .inl fy))] (fun v w1 => ∃ (y7 : Int32), ∃ (y8 : Int32), ∃ (y9 : Int32), ∃ (y10 : Int32), w1 = [(o, .inr (1, [.ref oy, .int x1, .int x2, .int x3, .int x4, .int (nI (num pb 55 16)), .int (nI (num pb 71 4)), .int y7, .int y8, .int y9, .int y10])), (oy, .inl (cI, 90, .inl fy))] ∧ v = some (.int (nI 0)))) [.ref o, .int (nI bits)].toArray zs 0 0 (inW [(o, .inr (1, [.ref oy, .int x1, .int x2, .int x3, .int x4, .int (nI (num pb 55 16)), .int (nI (num pb 71 4)), .int x7, .int x8, .int x9, .int x10])), (oy, .inl (cI, 90, .inl fy))])) (F0 zm 30 ls [])) := by
    intro fuel
    induction fuel with
    | zero => exact (by intros; exact absurd (by assumption) (Nat.not_lt_zero _))
    | succ fuel ih =>
      intro j hj hm H locs hP hD hS ls hl
      have zj := ons_le pb 75 j
      have hb1 := bt_lt pb (75 + j)
      refine lv_iload hx hb dX1_layOut_30 (lv_at hl 4 rfl) ?_
      refine lv_aload_n hx hb dX1_layOut_32 rfl (lv_at hl 0 rfl) ?_
      refine va_get (D := D) (ci := 1) (v := .int (nI (75 + nS pb * nG pb))) (C := RX1) (T := TX1) (N := 11) hx hb hts hin1 hown hK hP 0 rfl rfl 7 (by decide) (hts (.fieldLink RX1 56 "EpochSifter$Observation" "wholesAt" "I") (by decide +kernel)) (fun _ h9 => h9) rfl dX1_layOut_33 ?_
      refine rn_ge (tgt := 55) hx hb dX1_layOut_36 (by decide) (by omega) (by omega) (fun c_36 => ?_) (fun c_36 => ?_)
      · skip
        obtain rfl : j = nS pb * nG pb := by omega
        refine lv_aload_n hx hb dX1_layOut_55 rfl (lv_at hl 0 rfl) ?_
        refine lv_aload_n hx hb dX1_layOut_56 rfl (lv_at hl 0 rfl) ?_
        refine va_get (D := D) (ci := 1) (v := .int (nI (75 + nS pb * nG pb))) (C := RX1) (T := TX1) (N := 11) hx hb hts hin1 hown hK hP 0 rfl rfl 7 (by decide) (hts (.fieldLink RX1 56 "EpochSifter$Observation" "wholesAt" "I") (by decide +kernel)) (fun _ h9 => h9) rfl dX1_layOut_57 ?_
        refine lv_bipush (v := nI 8) hx hb dX1_layOut_60 (by decide) ?_
        refine lv_iload_n hx hb dX1_layOut_62 rfl (lv_at hl 2 rfl) ?_
        refine lv_imul hx hb dX1_layOut_63 ?_
        refine r_i (v := nI (8 * (nS pb))) (pk_mul _ _) ?_
        refine lv_iadd hx hb dX1_layOut_64 ?_
        refine r_i (v := nI (75 + nS pb * nG pb + (8 * (nS pb)))) (nI_add _ _) ?_
        refine va_put (D := D) (ci := 1) (v := .int (nI (75 + nS pb * nG pb + (8 * (nS pb))))) (ty := .int) (C := RX1) (T := TX1) (N := 11) hx hb hts hin1 tyX1 tyX1_ok nmX1 hown hK hP hD hS 0 rfl rfl 8 (by decide) (hts (.fieldLink RX1 59 "EpochSifter$Observation" "partsAt" "I") (by decide +kernel)) (fun _ h9 => h9) rfl (by decide +kernel) (rfl) (rfl) (Nat.le_of_ble_eq_true rfl) dX1_layOut_65 (fun H locs hP hD hS => ?_)
        have hP : va_P D vwCl [(o, .inr (1, [.ref oy, .int x1, .int x2, .int x3, .int x4, .int (nI (num pb 55 16)), .int (nI (num pb 71 4)), .int (nI (75 + nS pb * nG pb)), .int (nI (75 + nS pb * nG pb + (8 * (nS pb)))), .int x9, .int x10])), (oy, .inl (cI, 90, .inl fy))] _ := hP
        have hD : va_D (inW [(o, .inr (1, [.ref oy, .int x1, .int x2, .int x3, .int x4, .int (nI (num pb 55 16)), .int (nI (num pb 71 4)), .int x7, .int x8, .int x9, .int x10])), (oy, .inl (cI, 90, .inl fy))]) [(o, .inr (1, [.ref oy, .int x1, .int x2, .int x3, .int x4, .int (nI (num pb 55 16)), .int (nI (num pb 71 4)), .int (nI (75 + nS pb * nG pb)), .int (nI (75 + nS pb * nG pb + (8 * (nS pb)))), .int x9, .int x10])), (oy, .inl (cI, 90, .inl fy))] := hD
        refine lv_aload_n hx hb dX1_layOut_68 rfl (lv_at hl 0 rfl) ?_
        refine lv_aload_n hx hb dX1_layOut_69 rfl (lv_at hl 0 rfl) ?_
        refine va_get (D := D) (ci := 1) (v := .int (nI (75 + nS pb * nG pb + (8 * (nS pb))))) (C := RX1) (T := TX1) (N := 11) hx hb hts hin1 hown hK hP 0 rfl rfl 8 (by decide) (hts (.fieldLink RX1 59 "EpochSifter$Observation" "partsAt" "I") (by decide +kernel)) (fun _ h9 => h9) rfl dX1_layOut_70 ?_
        refine lv_bipush (v := nI 10) hx hb dX1_layOut_73 (by decide) ?_
        refine lv_iload_n hx hb dX1_layOut_75 rfl (lv_at hl 2 rfl) ?_
        refine lv_imul hx hb dX1_layOut_76 ?_
        refine r_i (v := nI (10 * (nS pb))) (pk_mul _ _) ?_
        refine lv_iadd hx hb dX1_layOut_77 ?_
        refine r_i (v := nI (75 + nS pb * nG pb + (8 * (nS pb)) + (10 * (nS pb)))) (nI_add _ _) ?_
        refine va_put (D := D) (ci := 1) (v := .int (nI (75 + nS pb * nG pb + (8 * (nS pb)) + (10 * (nS pb))))) (ty := .int) (C := RX1) (T := TX1) (N := 11) hx hb hts hin1 tyX1 tyX1_ok nmX1 hown hK hP hD hS 0 rfl rfl 9 (by decide) (hts (.fieldLink RX1 62 "EpochSifter$Observation" "finesAt" "I") (by decide +kernel)) (fun _ h9 => h9) rfl (by decide +kernel) (rfl) (rfl) (Nat.le_of_ble_eq_true rfl) dX1_layOut_78 (fun H locs hP hD hS => ?_)
        have hP : va_P D vwCl [(o, .inr (1, [.ref oy, .int x1, .int x2, .int x3, .int x4, .int (nI (num pb 55 16)), .int (nI (num pb 71 4)), .int (nI (75 + nS pb * nG pb)), .int (nI (75 + nS pb * nG pb + (8 * (nS pb)))), .int (nI (75 + nS pb * nG pb + (8 * (nS pb)) + (10 * (nS pb)))), .int x10])), (oy, .inl (cI, 90, .inl fy))] _ := hP
        have hD : va_D (inW [(o, .inr (1, [.ref oy, .int x1, .int x2, .int x3, .int x4, .int (nI (num pb 55 16)), .int (nI (num pb 71 4)), .int x7, .int x8, .int x9, .int x10])), (oy, .inl (cI, 90, .inl fy))]) [(o, .inr (1, [.ref oy, .int x1, .int x2, .int x3, .int x4, .int (nI (num pb 55 16)), .int (nI (num pb 71 4)), .int (nI (75 + nS pb * nG pb)), .int (nI (75 + nS pb * nG pb + (8 * (nS pb)))), .int (nI (75 + nS pb * nG pb + (8 * (nS pb)) + (10 * (nS pb)))), .int x10])), (oy, .inl (cI, 90, .inl fy))] := hD
        refine lv_aload_n hx hb dX1_layOut_81 rfl (lv_at hl 0 rfl) ?_
        refine lv_aload_n hx hb dX1_layOut_82 rfl (lv_at hl 0 rfl) ?_
        refine va_get (D := D) (ci := 1) (v := .int (nI (75 + nS pb * nG pb + (8 * (nS pb)) + (10 * (nS pb))))) (C := RX1) (T := TX1) (N := 11) hx hb hts hin1 hown hK hP 0 rfl rfl 9 (by decide) (hts (.fieldLink RX1 62 "EpochSifter$Observation" "finesAt" "I") (by decide +kernel)) (fun _ h9 => h9) rfl dX1_layOut_83 ?_
        refine lv_bipush (v := nI 15) hx hb dX1_layOut_86 (by decide) ?_
        refine lv_iload_n hx hb dX1_layOut_88 rfl (lv_at hl 3 rfl) ?_
        refine lv_imul hx hb dX1_layOut_89 ?_
        refine r_i (v := nI (15 * (ons pb 75 (nS pb * nG pb)))) (pk_mul _ _) ?_
        refine lv_iadd hx hb dX1_layOut_90 ?_
        refine r_i (v := nI (75 + nS pb * nG pb + (8 * (nS pb)) + (10 * (nS pb)) + (15 * (ons pb 75 (nS pb * nG pb))))) (nI_add _ _) ?_
        refine va_put (D := D) (ci := 1) (v := .int (nI (75 + nS pb * nG pb + (8 * (nS pb)) + (10 * (nS pb)) + (15 * (ons pb 75 (nS pb * nG pb)))))) (ty := .int) (C := RX1) (T := TX1) (N := 11) hx hb hts hin1 tyX1 tyX1_ok nmX1 hown hK hP hD hS 0 rfl rfl 10 (by decide) (hts (.fieldLink RX1 65 "EpochSifter$Observation" "strengthsAt" "I") (by decide +kernel)) (fun _ h9 => h9) rfl (by decide +kernel) (rfl) (rfl) (Nat.le_of_ble_eq_true rfl) dX1_layOut_91 (fun H locs hP hD hS => ?_)
        have hP : va_P D vwCl [(o, .inr (1, [.ref oy, .int x1, .int x2, .int x3, .int x4, .int (nI (num pb 55 16)), .int (nI (num pb 71 4)), .int (nI (75 + nS pb * nG pb)), .int (nI (75 + nS pb * nG pb + (8 * (nS pb)))), .int (nI (75 + nS pb * nG pb + (8 * (nS pb)) + (10 * (nS pb)))), .int (nI (75 + nS pb * nG pb + (8 * (nS pb)) + (10 * (nS pb)) + (15 * (ons pb 75 (nS pb * nG pb)))))])), (oy, .inl (cI, 90, .inl fy))] _ := hP
        have hD : va_D (inW [(o, .inr (1, [.ref oy, .int x1, .int x2, .int x3, .int x4, .int (nI (num pb 55 16)), .int (nI (num pb 71 4)), .int x7, .int x8, .int x9, .int x10])), (oy, .inl (cI, 90, .inl fy))]) [(o, .inr (1, [.ref oy, .int x1, .int x2, .int x3, .int x4, .int (nI (num pb 55 16)), .int (nI (num pb 71 4)), .int (nI (75 + nS pb * nG pb)), .int (nI (75 + nS pb * nG pb + (8 * (nS pb)))), .int (nI (75 + nS pb * nG pb + (8 * (nS pb)) + (10 * (nS pb)))), .int (nI (75 + nS pb * nG pb + (8 * (nS pb)) + (10 * (nS pb)) + (15 * (ons pb 75 (nS pb * nG pb)))))])), (oy, .inl (cI, 90, .inl fy))] := hD
        refine lv_iload_n hx hb dX1_layOut_94 rfl (lv_at hl 3 rfl) ?_
        refine lv_bipush (v := nI 16) hx hb dX1_layOut_95 (by decide) ?_
        refine rn_gt (tgt := 117) hx hb dX1_layOut_97 (by decide) (by omega) (by omega) (fun c_97 => ?_) (fun c_97 => ?_)
        · skip
          refine lv_iconst (v := nI 0) hx hb dX1_layOut_117 (by decide) ?_
          exact W.zret (v := nI 0) hx hb hr (rfl) (fun tz htz hWz => ⟨some (.int (nI 0)), [(o, .inr (1, [.ref oy, .int x1, .int x2, .int x3, .int x4, .int (nI (num pb 55 16)), .int (nI (num pb 71 4)), .int (nI (75 + nS pb * nG pb)), .int (nI (75 + nS pb * nG pb + (8 * (nS pb)))), .int (nI (75 + nS pb * nG pb + (8 * (nS pb)) + (10 * (nS pb)))), .int (nI (75 + nS pb * nG pb + (8 * (nS pb)) + (10 * (nS pb)) + (15 * (ons pb 75 (nS pb * nG pb)))))])), (oy, .inl (cI, 90, .inl fy))], rfl, ⟨_, _, _, _, rfl, rfl⟩, rfl, by rw [htz]; exact hP, hS.F htz⟩) (fun q h => hS.2.2 q h) dX1_layOut_118
        · skip
          refine lv_aload_n hx hb dX1_layOut_100 rfl (lv_at hl 0 rfl) ?_
          refine va_get (D := D) (ci := 1) (v := .int (nI (75 + nS pb * nG pb + (8 * (nS pb)) + (10 * (nS pb)) + (15 * (ons pb 75 (nS pb * nG pb)))))) (C := RX1) (T := TX1) (N := 11) hx hb hts hin1 hown hK hP 0 rfl rfl 10 (by decide) (hts (.fieldLink RX1 65 "EpochSifter$Observation" "strengthsAt" "I") (by decide +kernel)) (fun _ h9 => h9) rfl dX1_layOut_101 ?_
          refine lv_bipush (v := nI 6) hx hb dX1_layOut_104 (by decide) ?_
          refine lv_iload_n hx hb dX1_layOut_106 rfl (lv_at hl 3 rfl) ?_
          refine lv_imul hx hb dX1_layOut_107 ?_
          refine r_i (v := nI (6 * (ons pb 75 (nS pb * nG pb)))) (pk_mul _ _) ?_
          refine lv_iadd hx hb dX1_layOut_108 ?_
          refine r_i (v := nI (75 + nS pb * nG pb + (8 * (nS pb)) + (10 * (nS pb)) + (15 * (ons pb 75 (nS pb * nG pb))) + (6 * (ons pb 75 (nS pb * nG pb))))) (nI_add _ _) ?_
          refine lv_iload_n hx hb dX1_layOut_109 rfl (lv_at hl 1 rfl) ?_
          refine rn_gt (tgt := 117) hx hb dX1_layOut_110 (by decide) (by omega) (by omega) (fun c_110 => ?_) (fun c_110 => ?_)
          · skip
            refine lv_iconst (v := nI 0) hx hb dX1_layOut_117 (by decide) ?_
            exact W.zret (v := nI 0) hx hb hr (rfl) (fun tz htz hWz => ⟨some (.int (nI 0)), [(o, .inr (1, [.ref oy, .int x1, .int x2, .int x3, .int x4, .int (nI (num pb 55 16)), .int (nI (num pb 71 4)), .int (nI (75 + nS pb * nG pb)), .int (nI (75 + nS pb * nG pb + (8 * (nS pb)))), .int (nI (75 + nS pb * nG pb + (8 * (nS pb)) + (10 * (nS pb)))), .int (nI (75 + nS pb * nG pb + (8 * (nS pb)) + (10 * (nS pb)) + (15 * (ons pb 75 (nS pb * nG pb)))))])), (oy, .inl (cI, 90, .inl fy))], rfl, ⟨_, _, _, _, rfl, rfl⟩, rfl, by rw [htz]; exact hP, hS.F htz⟩) (fun q h => hS.2.2 q h) dX1_layOut_118
          · exact absurd ⟨by omega, by omega, by omega⟩ hl0
      · skip
        refine lv_iload_n hx hb dX1_layOut_39 rfl (lv_at hl 3 rfl) ?_
        refine lv_aload_n hx hb dX1_layOut_40 rfl (lv_at hl 0 rfl) ?_
        refine lv_iload hx hb dX1_layOut_41 (lv_at hl 4 rfl) ?_
        refine lv_iconst (v := nI 1) hx hb dX1_layOut_43 (by decide) ?_
        refine r_callVi (As := [.int (nI (75 + j)), .int (nI 1)]) (rest := [.int (nI (ons pb 75 j))]) ⟨hx, hb, hml, hown, hts⟩ (c_X1_number (zl := zl) (D := D) (cI := cI) (cD := cD) o oy x1 x2 x3 x4 (nI (num pb 55 16)) (nI (num pb 71 4)) (nI (75 + nS pb * nG pb)) x8 x9 x10 fy pb (75 + j) 1 (by first | assumption | omega) (by first | assumption | omega) (by omega) (by first | assumption | omega)) (cwV 2 hts gX1_layOut_X1_number rfl rfl rfl (by decide +kernel) ⟨Nat.le_of_ble_eq_true rfl, Nat.le_of_ble_eq_true rfl⟩) hK hN hP hD [0, 1] rfl rfl 0 rfl rfl rfl hl.1 rfl (Nat.le_of_ble_eq_true rfl) dX1_layOut_44 ⟨Nat.le_of_ble_eq_true rfl, Nat.le_of_ble_eq_true rfl⟩ (fun r_1 h_1 => ?_)
        obtain rfl := h_1
        refine r_i (v := nI (bt pb (75 + j))) (congrArg nI (num_one _ _)) ?_
        refine lv_iadd hx hb dX1_layOut_47 ?_
        refine r_i (v := nI (ons pb 75 j + (bt pb (75 + j)))) (nI_add _ _) ?_
        refine r_i (v := nI (ons pb 75 (j + 1))) (rfl) ?_
        refine lv_istore_n (lv' := [(3, .int (nI (ons pb 75 (j + 1)))), (0, .ref o), (1, .int (nI bits)), (2, .int (nI (nS pb))), (4, .int (nI (75 + j)))]) hx hb dX1_layOut_48 rfl hl (by decide) rfl (fun ls hl => ?_)
        refine lv_iinc (v := nI (75 + (j + 1))) (lv' := [(4, .int (nI (75 + (j + 1)))), (3, .int (nI (ons pb 75 (j + 1)))), (0, .ref o), (1, .int (nI bits)), (2, .int (nI (nS pb)))]) hx hb dX1_layOut_49 hl (k := 4) rfl (nI_add _ _) (by decide) rfl (fun ls hl => ?_)
        refine lv_goto (tgt := 30) hx hb dX1_layOut_52 (by decide) ?_
        exact ih (j + 1) (by omega) (by omega) _ _ hP hD hS ls (lv_sub hl [2, 3, 4, 1, 0] rfl)
  refine lv_aload_n hx hb dX1_layOut_0 rfl (lv_at hl 0 rfl) ?_
  refine va_get (D := D) (ci := 1) (v := .int (nI (num pb 55 16))) (C := RX1) (T := TX1) (N := 11) hx hb hts hin1 hown hK hP 0 rfl rfl 5 (by decide) (hts (.fieldLink RX1 37 "EpochSifter$Observation" "satelliteMask" "I") (by decide +kernel)) (fun _ h9 => h9) rfl dX1_layOut_1 ?_
  refine r_callSi (As := [.int (nI (num pb 55 16))]) (rest := []) ⟨hx, hb, hml, hown, hts⟩ (c_J6_bitCount_0f7a4 (zl := zl) (D := D) (cI := cI) (cD := cD) (num pb 55 16) (by first | assumption | omega)) (va_cwS 1 hts gX1_layOut_J6_bitCount_0f7a4 rfl rfl rfl (by decide +kernel) ⟨Nat.le_of_ble_eq_true rfl, Nat.le_of_ble_eq_true rfl⟩) hK hN hP hD rfl hl.1 rfl (Nat.le_of_ble_eq_true rfl) dX1_layOut_4 ⟨Nat.le_of_ble_eq_true rfl, Nat.le_of_ble_eq_true rfl⟩ (fun r_2 h_2 => ?_)
  obtain rfl := h_2
  refine r_i (v := nI (nS pb)) (congrArg nI (pcw_num _ _ _)) ?_
  refine lv_istore_n (lv' := [(2, .int (nI (nS pb))), (0, .ref o), (1, .int (nI bits))]) hx hb dX1_layOut_7 rfl hl (by decide) rfl (fun ls hl => ?_)
  refine lv_aload_n hx hb dX1_layOut_8 rfl (lv_at hl 1 rfl) ?_
  refine lv_bipush (v := nI 75) hx hb dX1_layOut_9 (by decide) ?_
  refine lv_iload_n hx hb dX1_layOut_11 rfl (lv_at hl 0 rfl) ?_
  refine lv_aload_n hx hb dX1_layOut_12 rfl (lv_at hl 1 rfl) ?_
  refine va_get (D := D) (ci := 1) (v := .int (nI (num pb 71 4))) (C := RX1) (T := TX1) (N := 11) hx hb hts hin1 hown hK hP 0 rfl rfl 6 (by decide) (hts (.fieldLink RX1 40 "EpochSifter$Observation" "signalMask" "I") (by decide +kernel)) (fun _ h9 => h9) rfl dX1_layOut_13 ?_
  refine r_callSi (As := [.int (nI (num pb 71 4))]) (rest := [.int (nI (nS pb)), .int (nI 75), .ref o]) ⟨hx, hb, hml, hown, hts⟩ (c_J6_bitCount_0f7a4 (zl := zl) (D := D) (cI := cI) (cD := cD) (num pb 71 4) (by first | assumption | omega)) (va_cwS 1 hts gX1_layOut_J6_bitCount_0f7a4 rfl rfl rfl (by decide +kernel) ⟨Nat.le_of_ble_eq_true rfl, Nat.le_of_ble_eq_true rfl⟩) hK hN hP hD rfl hl.1 rfl (Nat.le_of_ble_eq_true rfl) dX1_layOut_16 ⟨Nat.le_of_ble_eq_true rfl, Nat.le_of_ble_eq_true rfl⟩ (fun r_3 h_3 => ?_)
  obtain rfl := h_3
  refine r_i (v := nI (nG pb)) (congrArg nI ((pcw_ext 4 16 _ z7 (by decide)).trans (pcw_num _ _ _))) ?_
  refine lv_imul hx hb dX1_layOut_19 ?_
  refine r_i (v := nI ((nS pb) * (nG pb))) (pk_mul _ _) ?_
  refine lv_iadd hx hb dX1_layOut_20 ?_
  refine r_i (v := nI (75 + ((nS pb) * (nG pb)))) (nI_add _ _) ?_
  refine va_put (D := D) (ci := 1) (v := .int (nI (75 + ((nS pb) * (nG pb))))) (ty := .int) (C := RX1) (T := TX1) (N := 11) hx hb hts hin1 tyX1 tyX1_ok nmX1 hown hK hP hD hS 0 rfl rfl 7 (by decide) (hts (.fieldLink RX1 56 "EpochSifter$Observation" "wholesAt" "I") (by decide +kernel)) (fun _ h9 => h9) rfl (by decide +kernel) (rfl) (rfl) (Nat.le_of_ble_eq_true rfl) dX1_layOut_21 (fun H locs hP hD hS => ?_)
  have hP : va_P D vwCl [(o, .inr (1, [.ref oy, .int x1, .int x2, .int x3, .int x4, .int (nI (num pb 55 16)), .int (nI (num pb 71 4)), .int (nI (75 + ((nS pb) * (nG pb)))), .int x8, .int x9, .int x10])), (oy, .inl (cI, 90, .inl fy))] _ := hP
  have hD : va_D (inW [(o, .inr (1, [.ref oy, .int x1, .int x2, .int x3, .int x4, .int (nI (num pb 55 16)), .int (nI (num pb 71 4)), .int x7, .int x8, .int x9, .int x10])), (oy, .inl (cI, 90, .inl fy))]) [(o, .inr (1, [.ref oy, .int x1, .int x2, .int x3, .int x4, .int (nI (num pb 55 16)), .int (nI (num pb 71 4)), .int (nI (75 + ((nS pb) * (nG pb)))), .int x8, .int x9, .int x10])), (oy, .inl (cI, 90, .inl fy))] := hD
  refine lv_iconst (v := nI 0) hx hb dX1_layOut_24 (by decide) ?_
  refine lv_istore_n (lv' := [(3, .int (nI 0)), (2, .int (nI (nS pb))), (0, .ref o), (1, .int (nI bits))]) hx hb dX1_layOut_25 rfl hl (by decide) rfl (fun ls hl => ?_)
  refine lv_bipush (v := nI 75) hx hb dX1_layOut_26 (by decide) ?_
  refine lv_istore (lv' := [(4, .int (nI 75)), (3, .int (nI 0)), (2, .int (nI (nS pb))), (0, .ref o), (1, .int (nI bits))]) hx hb dX1_layOut_28 hl (by decide) rfl (fun ls hl => ?_)
  exact (cuts _) 0 (by first | assumption | omega) (Nat.lt_succ_self _) _ _ hP hD hS ls (lv_sub hl [3, 4, 2, 1, 0] rfl)
set_option maxHeartbeats 4000000 in
set_option maxRecDepth 100000 in
/-- a payload is read -/
theorem c_X1_read {zl : Launch} {D : va_G} {cI cD : ClassId} (o : Nat) (oy : Nat) (x1 : Int32) (x2 : Int32) (x3 : Int32) (x4 : Int32) (x5 : Int32) (x6 : Int32) (x7 : Int32) (x8 : Int32) (x9 : Int32) (x10 : Int32) (fy : Nat → Int32) (a : Nat) (b : Nat) (n : Nat) (f : Nat → Int32) (bs : List Nat) (fr : Nat) (len : Nat) (pb : List Nat) (hf : Rp f bs) (hbn : bs.length = n) (hn : n ≤ 140) (hB : By bs) (hfr : fr < 2 ^ 20) (hlen : len ≤ 90) (hpb : pb = ((bs.drop fr).take (3 + len))) (hl0 : isObs pb len) : Cx zl yX1_read wsX1_read ({ frames := 3, cells := 0, slots := 0, locals := 71 }) D cI cD [.ref o, .ref a, .int (nI (fr + 3)), .int (nI len)] [(o, .inr (1, [.ref oy, .int x1, .int x2, .int x3, .int x4, .int x5, .int x6, .int x7, .int x8, .int x9, .int x10])), (oy, .inl (cI, 90, .inl fy)), (a, .inr (3, [.ref b, .int (nI n)])), (b, .inl (cI, 140, .inl f))] (fun v w1 => ∃ (fyo : Nat → Int32), w1 = [(o, .inr (1, [.ref oy, .int (nI (num pb 0 12 - 1000)), .int (nI (num pb 12 12)), .int (nI (num pb 24 30)), .int (nI (num pb 54 1)), .int (nI (num pb 55 16)), .int (nI (num pb 71 4)), .int (nI (75 + nS pb * nG pb)), .int (nI (75 + nS pb * nG pb + 8 * nS pb)), .int (nI (75 + nS pb * nG pb + 8 * nS pb + 10 * nS pb)), .int (nI (75 + nS pb * nG pb + 8 * nS pb + 10 * nS pb + 15 * nC pb))])), (oy, .inl (cI, 90, .inl fyo)), (a, .inr (3, [.ref b, .int (nI n)])), (b, .inl (cI, 140, .inl f))] ∧ v = some (.int (nI 1)) ∧ Pay fyo pb) := by
  refine Met.ofW (cc := cX1_read) (maxL := 5) (ret := (some .boolean)) (by decide) rfl ?_
  intro zp ze zs zm zargs zb zt zc zs₁ B hml hv
  obtain ⟨rfl, hP, hK, hD0, hN⟩ := hv
  have hx := B.exec
  have hb := B.bytes
  have hr := B.returns
  have hts := atoms_spec (ws := wsX1_read) B.pre
  have hown : zs.vm.findClass RX1 = some zm.cls := findClass_of_methodNamed B.named
  have hlocks := B.notSynchronized
  have hD := inW_self hD0
  have hS : va_S (inW [(o, .inr (1, [.ref oy, .int x1, .int x2, .int x3, .int x4, .int x5, .int x6, .int x7, .int x8, .int x9, .int x10])), (oy, .inl (cI, 90, .inl fy)), (a, .inr (3, [.ref b, .int (nI n)])), (b, .inl (cI, 140, .inl f))]) zs.heap zs.heap [] := va_S.rf
  have hl := lv_entry [.ref o, .ref a, .int (nI (fr + 3)), .int (nI len)] (n := 5) (Nat.le_of_ble_eq_true rfl)
  rw [lg_entry_eq]
  generalize (lg_sl [.ref o, .ref a, .int (nI (fr + 3)), .int (nI len)] ++ List.replicate (5 - (lg_sl [.ref o, .ref a, .int (nI (fr + 3)), .int (nI len)]).length) Slot.unset).toArray = ls at hl ⊢
  have hl : lv_has ls 5 [(0, .ref o), (1, .ref a), (2, .int (nI (fr + 3))), (3, .int (nI len))] := hl
  have hin1 : ∀ w ∈ u_ws RX1 TX1 11, w ∈ wsX1_read := by decide +kernel
  have hpB : By pb := by rw [hpb]; exact (hB.drop fr).take _
  have z1 := num_lt pb 0 12
  have z5 := num_lt pb 54 1
  have hl1 := hl0.1
  have hl2 := hl0.2.1
  have hl3 := hl0.2.2
  have cuts : ∀ fuel : Nat, (∀ (mm : Nat), ∀ (fyc : Nat → Int32), (mm = num pb 54 1) → (Pay fyc pb) → (1000 ≤ num pb 0 12 ∧ num pb 0 12 ≤ 1003) → 0 < fuel → ∀ (H : Heap) (locs : List Loc), va_P D vwCl [(o, .inr (1, [.ref oy, .int (nI (num pb 0 12 - 1000)), .int (nI (num pb 12 12)), .int (nI (num pb 24 30)), .int x4, .int x5, .int x6, .int x7, .int x8, .int x9, .int x10])), (oy, .inl (cI, 90, .inl fyc)), (a, .inr (3, [.ref b, .int (nI n)])), (b, .inl (cI, 140, .inl f))] H → va_D (inW [(o, .inr (1, [.ref oy, .int x1, .int x2, .int x3, .int x4, .int x5, .int x6, .int x7, .int x8, .int x9, .int x10])), (oy, .inl (cI, 90, .inl fy)), (a, .inr (3, [.ref b, .int (nI n)])), (b, .inl (cI, 140, .inl f))]) [(o, .inr (1, [.ref oy, .int (nI (num pb 0 12 - 1000)), .int (nI (num pb 12 12)), .int (nI (num pb 24 30)), .int x4, .int x5, .int x6, .int x7, .int x8, .int x9, .int x10])), (oy, .inl (cI, 90, .inl fyc)), (a, .inr (3, [.ref b, .int (nI n)])), (b, .inl (cI, 140, .inl f))] → va_S (inW [(o, .inr (1, [.ref oy, .int x1, .int x2, .int x3, .int x4, .int x5, .int x6, .int x7, .int x8, .int x9, .int x10])), (oy, .inl (cI, 90, .inl fy)), (a, .inr (3, [.ref b, .int (nI n)])), (b, .inl (cI, 140, .inl f))]) zs.heap H locs → ∀ (ls : Array Slot), lv_has ls 5 [(0, .ref o), (3, .int (nI len))] → W zp zl ze ({ frames := 3, cells := 0, slots := 0, locals := 71 }) zs zm [.ref o, .ref a, .int (nI (fr + 3)), .int (nI len)].toArray zb zt zc H locs 0 0 (MQ zb (Xq D [(o, .inr (1, [.ref oy, .int x1, .int x2, .int x3, .int x4, .int x5, .int x6, .int x7, .int x8, .int x9, .int x10])), (oy, .inl (cI, 90, .inl fy)), (a, .inr (3, [.ref b, .int (nI n)])), (b, .inl (cI, 140, .inl f))] (fun v w1 => ∃ (fyo : Nat → Int32), w1 = [(o, .inr (1, [.ref oy, .int (nI (num pb 0 12 - 1000)), .int (nI (num pb 12 12)), .int (nI (num pb 24 30)), .int (nI (num pb 54 1)), .int (nI (num pb 55 16)), .int (nI (num pb 71 4)), .int (nI (75 + nS pb * nG pb)), .int (nI (75 + nS pb * nG pb + 8 * nS pb)), .int (nI (75 + nS pb * nG pb + 8 * nS pb + 10 * nS pb)), .int (nI (75 + nS pb * nG pb + 8 * nS pb + 10 * nS pb + 15 * nC pb))])), (oy, .inl (cI, 90, .inl fyo)), (a, .inr (3, [.ref b, .int (nI n)])), (b, .inl (cI, 140, .inl f))] ∧ v = some (.int (nI 1)) ∧ Pay fyo pb)) [.ref o, .ref a, .int (nI (fr + 3)), .int (nI len)].toArray zs 0 0 (inW [(o, .inr (1, [.ref oy, .int x1, .int x2, .int x3, .int x4, .int x5, .int x6, .int x7, .int x8, .int x9, .int x10])), (oy, .inl (cI, 90, .inl fy)), (a, .inr (3, [.ref b, .int (nI n)])), (b, .inl (cI, 140, .inl f))])) (F0 zm 85 ls [.int (nI mm), .ref o])) := by
    intro fuel
    induction fuel with
    | zero => exact (by intros; exact absurd (by assumption) (Nat.not_lt_zero _))
    | succ fuel ih =>
      intro mm fyc hmm hpy hm9 hm H locs hP hD hS ls hl
      obtain rfl := hmm
      refine va_put (D := D) (ci := 1) (v := .int (nI (num pb 54 1))) (ty := .boolean) (C := RX1) (T := TX1) (N := 11) hx hb hts hin1 tyX1 tyX1_ok nmX1 hown hK hP hD hS 0 rfl rfl 4 (by decide) (hts (.fieldLink RX1 33 "EpochSifter$Observation" "more" "Z") (by decide +kernel)) (fun _ h9 => h9) rfl (by decide +kernel) (narB (by omega)) (fitB (by omega)) (Nat.le_of_ble_eq_true rfl) dX1_read_85 (fun H locs hP hD hS => ?_)
      have hP : va_P D vwCl [(o, .inr (1, [.ref oy, .int (nI (num pb 0 12 - 1000)), .int (nI (num pb 12 12)), .int (nI (num pb 24 30)), .int (nI (num pb 54 1)), .int x5, .int x6, .int x7, .int x8, .int x9, .int x10])), (oy, .inl (cI, 90, .inl fyc)), (a, .inr (3, [.ref b, .int (nI n)])), (b, .inl (cI, 140, .inl f))] _ := hP
      have hD : va_D (inW [(o, .inr (1, [.ref oy, .int x1, .int x2, .int x3, .int x4, .int x5, .int x6, .int x7, .int x8, .int x9, .int x10])), (oy, .inl (cI, 90, .inl fy)), (a, .inr (3, [.ref b, .int (nI n)])), (b, .inl (cI, 140, .inl f))]) [(o, .inr (1, [.ref oy, .int (nI (num pb 0 12 - 1000)), .int (nI (num pb 12 12)), .int (nI (num pb 24 30)), .int (nI (num pb 54 1)), .int x5, .int x6, .int x7, .int x8, .int x9, .int x10])), (oy, .inl (cI, 90, .inl fyc)), (a, .inr (3, [.ref b, .int (nI n)])), (b, .inl (cI, 140, .inl f))] := hD
      refine lv_aload_n hx hb dX1_read_88 rfl (lv_at hl 0 rfl) ?_
      refine lv_aload_n hx hb dX1_read_89 rfl (lv_at hl 0 rfl) ?_
      refine lv_bipush (v := nI 55) hx hb dX1_read_90 (by decide) ?_
      refine lv_bipush (v := nI 16) hx hb dX1_read_92 (by decide) ?_
      refine r_callVi (As := [.int (nI 55), .int (nI 16)]) (rest := [.ref o]) ⟨hx, hb, hml, hown, hts⟩ (c_X1_number (zl := zl) (D := D) (cI := cI) (cD := cD) o oy (nI (num pb 0 12 - 1000)) (nI (num pb 12 12)) (nI (num pb 24 30)) (nI (num pb 54 1)) x5 x6 x7 x8 x9 x10 fyc pb 55 16 (by first | assumption | omega) (by first | assumption | omega) (by first | assumption | omega) (by first | assumption | omega)) (cwV 2 hts gX1_read_X1_number rfl rfl rfl (by decide +kernel) ⟨Nat.le_of_ble_eq_true rfl, Nat.le_of_ble_eq_true rfl⟩) hK hN hP hD [0, 1] rfl rfl 0 rfl rfl rfl hl.1 rfl (Nat.le_of_ble_eq_true rfl) dX1_read_94 ⟨Nat.le_of_ble_eq_true rfl, Nat.le_of_ble_eq_true rfl⟩ (fun r_1 h_1 => ?_)
      obtain rfl := h_1
      refine va_put (D := D) (ci := 1) (v := .int (nI (num pb 55 16))) (ty := .int) (C := RX1) (T := TX1) (N := 11) hx hb hts hin1 tyX1 tyX1_ok nmX1 hown hK hP hD hS 0 rfl rfl 5 (by decide) (hts (.fieldLink RX1 37 "EpochSifter$Observation" "satelliteMask" "I") (by decide +kernel)) (fun _ h9 => h9) rfl (by decide +kernel) (rfl) (rfl) (Nat.le_of_ble_eq_true rfl) dX1_read_97 (fun H locs hP hD hS => ?_)
      have hP : va_P D vwCl [(o, .inr (1, [.ref oy, .int (nI (num pb 0 12 - 1000)), .int (nI (num pb 12 12)), .int (nI (num pb 24 30)), .int (nI (num pb 54 1)), .int (nI (num pb 55 16)), .int x6, .int x7, .int x8, .int x9, .int x10])), (oy, .inl (cI, 90, .inl fyc)), (a, .inr (3, [.ref b, .int (nI n)])), (b, .inl (cI, 140, .inl f))] _ := hP
      have hD : va_D (inW [(o, .inr (1, [.ref oy, .int x1, .int x2, .int x3, .int x4, .int x5, .int x6, .int x7, .int x8, .int x9, .int x10])), (oy, .inl (cI, 90, .inl fy)), (a, .inr (3, [.ref b, .int (nI n)])), (b, .inl (cI, 140, .inl f))]) [(o, .inr (1, [.ref oy, .int (nI (num pb 0 12 - 1000)), .int (nI (num pb 12 12)), .int (nI (num pb 24 30)), .int (nI (num pb 54 1)), .int (nI (num pb 55 16)), .int x6, .int x7, .int x8, .int x9, .int x10])), (oy, .inl (cI, 90, .inl fyc)), (a, .inr (3, [.ref b, .int (nI n)])), (b, .inl (cI, 140, .inl f))] := hD
      refine lv_aload_n hx hb dX1_read_100 rfl (lv_at hl 0 rfl) ?_
      refine lv_aload_n hx hb dX1_read_101 rfl (lv_at hl 0 rfl) ?_
      refine lv_bipush (v := nI 71) hx hb dX1_read_102 (by decide) ?_
      refine lv_iconst (v := nI 4) hx hb dX1_read_104 (by decide) ?_
      refine r_callVi (As := [.int (nI 71), .int (nI 4)]) (rest := [.ref o]) ⟨hx, hb, hml, hown, hts⟩ (c_X1_number (zl := zl) (D := D) (cI := cI) (cD := cD) o oy (nI (num pb 0 12 - 1000)) (nI (num pb 12 12)) (nI (num pb 24 30)) (nI (num pb 54 1)) (nI (num pb 55 16)) x6 x7 x8 x9 x10 fyc pb 71 4 (by first | assumption | omega) (by first | assumption | omega) (by first | assumption | omega) (by first | assumption | omega)) (cwV 2 hts gX1_read_X1_number rfl rfl rfl (by decide +kernel) ⟨Nat.le_of_ble_eq_true rfl, Nat.le_of_ble_eq_true rfl⟩) hK hN hP hD [0, 1] rfl rfl 0 rfl rfl rfl hl.1 rfl (Nat.le_of_ble_eq_true rfl) dX1_read_105 ⟨Nat.le_of_ble_eq_true rfl, Nat.le_of_ble_eq_true rfl⟩ (fun r_2 h_2 => ?_)
      obtain rfl := h_2
      refine va_put (D := D) (ci := 1) (v := .int (nI (num pb 71 4))) (ty := .int) (C := RX1) (T := TX1) (N := 11) hx hb hts hin1 tyX1 tyX1_ok nmX1 hown hK hP hD hS 0 rfl rfl 6 (by decide) (hts (.fieldLink RX1 40 "EpochSifter$Observation" "signalMask" "I") (by decide +kernel)) (fun _ h9 => h9) rfl (by decide +kernel) (rfl) (rfl) (Nat.le_of_ble_eq_true rfl) dX1_read_108 (fun H locs hP hD hS => ?_)
      have hP : va_P D vwCl [(o, .inr (1, [.ref oy, .int (nI (num pb 0 12 - 1000)), .int (nI (num pb 12 12)), .int (nI (num pb 24 30)), .int (nI (num pb 54 1)), .int (nI (num pb 55 16)), .int (nI (num pb 71 4)), .int x7, .int x8, .int x9, .int x10])), (oy, .inl (cI, 90, .inl fyc)), (a, .inr (3, [.ref b, .int (nI n)])), (b, .inl (cI, 140, .inl f))] _ := hP
      have hD : va_D (inW [(o, .inr (1, [.ref oy, .int x1, .int x2, .int x3, .int x4, .int x5, .int x6, .int x7, .int x8, .int x9, .int x10])), (oy, .inl (cI, 90, .inl fy)), (a, .inr (3, [.ref b, .int (nI n)])), (b, .inl (cI, 140, .inl f))]) [(o, .inr (1, [.ref oy, .int (nI (num pb 0 12 - 1000)), .int (nI (num pb 12 12)), .int (nI (num pb 24 30)), .int (nI (num pb 54 1)), .int (nI (num pb 55 16)), .int (nI (num pb 71 4)), .int x7, .int x8, .int x9, .int x10])), (oy, .inl (cI, 90, .inl fyc)), (a, .inr (3, [.ref b, .int (nI n)])), (b, .inl (cI, 140, .inl f))] := hD
      refine lv_aload_n hx hb dX1_read_111 rfl (lv_at hl 0 rfl) ?_
      refine lv_bipush (v := nI 8) hx hb dX1_read_112 (by decide) ?_
      refine lv_iload_n hx hb dX1_read_114 rfl (lv_at hl 1 rfl) ?_
      refine lv_imul hx hb dX1_read_115 ?_
      refine r_i (v := nI (8 * len)) (pk_mul _ _) ?_
      refine x_callV (As := [.int (nI (8 * len))]) (rest := []) ⟨hx, hb, hml, hown, hts⟩ (c_X1_layOut (zl := zl) (D := D) (cI := cI) (cD := cD) o oy (nI (num pb 0 12 - 1000)) (nI (num pb 12 12)) (nI (num pb 24 30)) (nI (num pb 54 1)) x7 x8 x9 x10 fyc pb (8 * len) (by first | assumption | omega) (by first | assumption | omega) (by omega) hl3) (cwV 1 hts gX1_read_X1_layOut rfl rfl rfl (by decide +kernel) ⟨Nat.le_of_ble_eq_true rfl, Nat.le_of_ble_eq_true rfl⟩) hK hN hP hD hS [0, 1] rfl rfl 0 rfl rfl rfl hl.1 rfl (Nat.le_of_ble_eq_true rfl) dX1_read_116 ⟨Nat.le_of_ble_eq_true rfl, Nat.le_of_ble_eq_true rfl⟩ (fun v_3 w_3 H locs hr_3 hP hD hS => ?_)
      obtain ⟨rfl, rfl⟩ := hr_3
      refine W.eq (g2 := F0 zm 119 ls [.int (nI 1)]) rfl ?_
      have hP : va_P D vwCl [(o, .inr (1, [.ref oy, .int (nI (num pb 0 12 - 1000)), .int (nI (num pb 12 12)), .int (nI (num pb 24 30)), .int (nI (num pb 54 1)), .int (nI (num pb 55 16)), .int (nI (num pb 71 4)), .int (nI (75 + nS pb * nG pb)), .int (nI (75 + nS pb * nG pb + 8 * nS pb)), .int (nI (75 + nS pb * nG pb + 8 * nS pb + 10 * nS pb)), .int (nI (75 + nS pb * nG pb + 8 * nS pb + 10 * nS pb + 15 * nC pb))])), (oy, .inl (cI, 90, .inl fyc)), (a, .inr (3, [.ref b, .int (nI n)])), (b, .inl (cI, 140, .inl f))] _ := hP
      have hD : va_D (inW [(o, .inr (1, [.ref oy, .int x1, .int x2, .int x3, .int x4, .int x5, .int x6, .int x7, .int x8, .int x9, .int x10])), (oy, .inl (cI, 90, .inl fy)), (a, .inr (3, [.ref b, .int (nI n)])), (b, .inl (cI, 140, .inl f))]) [(o, .inr (1, [.ref oy, .int (nI (num pb 0 12 - 1000)), .int (nI (num pb 12 12)), .int (nI (num pb 24 30)), .int (nI (num pb 54 1)), .int (nI (num pb 55 16)), .int (nI (num pb 71 4)), .int (nI (75 + nS pb * nG pb)), .int (nI (75 + nS pb * nG pb + 8 * nS pb)), .int (nI (75 + nS pb * nG pb + 8 * nS pb + 10 * nS pb)), .int (nI (75 + nS pb * nG pb + 8 * nS pb + 10 * nS pb + 15 * nC pb))])), (oy, .inl (cI, 90, .inl fyc)), (a, .inr (3, [.ref b, .int (nI n)])), (b, .inl (cI, 140, .inl f))] := hD
      exact W.zret (v := nI 1) hx hb hr (rfl) (fun tz htz hWz => ⟨some (.int (nI 1)), [(o, .inr (1, [.ref oy, .int (nI (num pb 0 12 - 1000)), .int (nI (num pb 12 12)), .int (nI (num pb 24 30)), .int (nI (num pb 54 1)), .int (nI (num pb 55 16)), .int (nI (num pb 71 4)), .int (nI (75 + nS pb * nG pb)), .int (nI (75 + nS pb * nG pb + 8 * nS pb)), .int (nI (75 + nS pb * nG pb + 8 * nS pb + 10 * nS pb)), .int (nI (75 + nS pb * nG pb + 8 * nS pb + 10 * nS pb + 15 * nC pb))])), (oy, .inl (cI, 90, .inl fyc)), (a, .inr (3, [.ref b, .int (nI n)])), (b, .inl (cI, 140, .inl f))], rfl, ⟨_, rfl, rfl, by first | assumption | omega⟩, rfl, by rw [htz]; exact hP, hS.F htz⟩) (fun q h => hS.2.2 q h) dX1_read_119
  refine lv_aload_n hx hb dX1_read_0 rfl (lv_at hl 0 rfl) ?_
  refine lv_aload_n hx hb dX1_read_1 rfl (lv_at hl 1 rfl) ?_
  refine lv_iload_n hx hb dX1_read_2 rfl (lv_at hl 2 rfl) ?_
  refine lv_iload_n hx hb dX1_read_3 rfl (lv_at hl 3 rfl) ?_
  refine x_callV (As := [.ref a, .int (nI (fr + 3)), .int (nI len)]) (rest := []) ⟨hx, hb, hml, hown, hts⟩ (c_X1_fill (zl := zl) (D := D) (cI := cI) (cD := cD) o oy x1 x2 x3 x4 x5 x6 x7 x8 x9 x10 fy a b n f bs fr len (by first | assumption | omega) (by first | assumption | omega) (by first | assumption | omega) (by first | assumption | omega) (by first | assumption | omega)) (cwV 3 hts gX1_read_X1_fill rfl rfl rfl (by decide +kernel) ⟨Nat.le_of_ble_eq_true rfl, Nat.le_of_ble_eq_true rfl⟩) hK hN hP hD hS [0, 1, 2, 3] rfl rfl 0 rfl rfl rfl hl.1 rfl (Nat.le_of_ble_eq_true rfl) dX1_read_4 ⟨Nat.le_of_ble_eq_true rfl, Nat.le_of_ble_eq_true rfl⟩ (fun v_4 w_4 H locs hr_4 hP hD hS => ?_)
  obtain ⟨fyk, rfl, rfl, hpy⟩ := hr_4
  refine W.eq (g2 := F0 zm 7 ls []) rfl ?_
  have hP : va_P D vwCl [(o, .inr (1, [.ref oy, .int x1, .int x2, .int x3, .int x4, .int x5, .int x6, .int x7, .int x8, .int x9, .int x10])), (oy, .inl (cI, 90, .inl fyk)), (a, .inr (3, [.ref b, .int (nI n)])), (b, .inl (cI, 140, .inl f))] _ := hP
  have hD : va_D (inW [(o, .inr (1, [.ref oy, .int x1, .int x2, .int x3, .int x4, .int x5, .int x6, .int x7, .int x8, .int x9, .int x10])), (oy, .inl (cI, 90, .inl fy)), (a, .inr (3, [.ref b, .int (nI n)])), (b, .inl (cI, 140, .inl f))]) [(o, .inr (1, [.ref oy, .int x1, .int x2, .int x3, .int x4, .int x5, .int x6, .int x7, .int x8, .int x9, .int x10])), (oy, .inl (cI, 90, .inl fyk)), (a, .inr (3, [.ref b, .int (nI n)])), (b, .inl (cI, 140, .inl f))] := hD
  rw [← hpb] at hpy
  refine lv_aload_n hx hb dX1_read_7 rfl (lv_at hl 0 rfl) ?_
  refine lv_iconst (v := nI 0) hx hb dX1_read_8 (by decide) ?_
  refine lv_bipush (v := nI 12) hx hb dX1_read_9 (by decide) ?_
  refine r_callVi (As := [.int (nI 0), .int (nI 12)]) (rest := []) ⟨hx, hb, hml, hown, hts⟩ (c_X1_number (zl := zl) (D := D) (cI := cI) (cD := cD) o oy x1 x2 x3 x4 x5 x6 x7 x8 x9 x10 fyk pb 0 12 (by first | assumption | omega) (by first | assumption | omega) (by first | assumption | omega) (by first | assumption | omega)) (cwV 2 hts gX1_read_X1_number rfl rfl rfl (by decide +kernel) ⟨Nat.le_of_ble_eq_true rfl, Nat.le_of_ble_eq_true rfl⟩) hK hN hP hD [0, 1] rfl rfl 0 rfl rfl rfl hl.1 rfl (Nat.le_of_ble_eq_true rfl) dX1_read_11 ⟨Nat.le_of_ble_eq_true rfl, Nat.le_of_ble_eq_true rfl⟩ (fun r_5 h_5 => ?_)
  obtain rfl := h_5
  refine lv_istore (lv' := [(4, .int (nI (num pb 0 12))), (0, .ref o), (1, .ref a), (2, .int (nI (fr + 3))), (3, .int (nI len))]) hx hb dX1_read_14 hl (by decide) rfl (fun ls hl => ?_)
  refine lv_iload hx hb dX1_read_16 (lv_at hl 0 rfl) ?_
  refine lv_sipush (v := nI 1000) hx hb dX1_read_18 (by decide) ?_
  refine rn_lt (tgt := 32) hx hb dX1_read_21 (by decide) (by omega) (by omega) (fun c_21 => ?_) (fun c_21 => ?_)
  · omega
  · skip
    refine lv_iload hx hb dX1_read_24 (lv_at hl 0 rfl) ?_
    refine lv_sipush (v := nI 1003) hx hb dX1_read_26 (by decide) ?_
    refine rn_le (tgt := 34) hx hb dX1_read_29 (by decide) (by omega) (by omega) (fun c_29 => ?_) (fun c_29 => ?_)
    · skip
      refine lv_aload_n hx hb dX1_read_34 rfl (lv_at hl 1 rfl) ?_
      refine lv_iload hx hb dX1_read_35 (lv_at hl 0 rfl) ?_
      refine lv_sipush (v := nI 1000) hx hb dX1_read_37 (by decide) ?_
      refine lv_isub hx hb dX1_read_40 ?_
      refine r_i (v := nI (num pb 0 12 - 1000)) (pk_sub (by omega)) ?_
      refine va_put (D := D) (ci := 1) (v := .int (nI (num pb 0 12 - 1000))) (ty := .int) (C := RX1) (T := TX1) (N := 11) hx hb hts hin1 tyX1 tyX1_ok nmX1 hown hK hP hD hS 0 rfl rfl 1 (by decide) (hts (.fieldLink RX1 23 "EpochSifter$Observation" "system" "I") (by decide +kernel)) (fun _ h9 => h9) rfl (by decide +kernel) (rfl) (rfl) (Nat.le_of_ble_eq_true rfl) dX1_read_41 (fun H locs hP hD hS => ?_)
      have hP : va_P D vwCl [(o, .inr (1, [.ref oy, .int (nI (num pb 0 12 - 1000)), .int x2, .int x3, .int x4, .int x5, .int x6, .int x7, .int x8, .int x9, .int x10])), (oy, .inl (cI, 90, .inl fyk)), (a, .inr (3, [.ref b, .int (nI n)])), (b, .inl (cI, 140, .inl f))] _ := hP
      have hD : va_D (inW [(o, .inr (1, [.ref oy, .int x1, .int x2, .int x3, .int x4, .int x5, .int x6, .int x7, .int x8, .int x9, .int x10])), (oy, .inl (cI, 90, .inl fy)), (a, .inr (3, [.ref b, .int (nI n)])), (b, .inl (cI, 140, .inl f))]) [(o, .inr (1, [.ref oy, .int (nI (num pb 0 12 - 1000)), .int x2, .int x3, .int x4, .int x5, .int x6, .int x7, .int x8, .int x9, .int x10])), (oy, .inl (cI, 90, .inl fyk)), (a, .inr (3, [.ref b, .int (nI n)])), (b, .inl (cI, 140, .inl f))] := hD
      refine lv_aload_n hx hb dX1_read_44 rfl (lv_at hl 1 rfl) ?_
      refine lv_aload_n hx hb dX1_read_45 rfl (lv_at hl 1 rfl) ?_
      refine lv_bipush (v := nI 12) hx hb dX1_read_46 (by decide) ?_
      refine lv_bipush (v := nI 12) hx hb dX1_read_48 (by decide) ?_
      refine r_callVi (As := [.int (nI 12), .int (nI 12)]) (rest := [.ref o]) ⟨hx, hb, hml, hown, hts⟩ (c_X1_number (zl := zl) (D := D) (cI := cI) (cD := cD) o oy (nI (num pb 0 12 - 1000)) x2 x3 x4 x5 x6 x7 x8 x9 x10 fyk pb 12 12 (by first | assumption | omega) (by first | assumption | omega) (by first | assumption | omega) (by first | assumption | omega)) (cwV 2 hts gX1_read_X1_number rfl rfl rfl (by decide +kernel) ⟨Nat.le_of_ble_eq_true rfl, Nat.le_of_ble_eq_true rfl⟩) hK hN hP hD [0, 1] rfl rfl 0 rfl rfl rfl hl.1 rfl (Nat.le_of_ble_eq_true rfl) dX1_read_50 ⟨Nat.le_of_ble_eq_true rfl, Nat.le_of_ble_eq_true rfl⟩ (fun r_6 h_6 => ?_)
      obtain rfl := h_6
      refine va_put (D := D) (ci := 1) (v := .int (nI (num pb 12 12))) (ty := .int) (C := RX1) (T := TX1) (N := 11) hx hb hts hin1 tyX1 tyX1_ok nmX1 hown hK hP hD hS 0 rfl rfl 2 (by decide) (hts (.fieldLink RX1 27 "EpochSifter$Observation" "station" "I") (by decide +kernel)) (fun _ h9 => h9) rfl (by decide +kernel) (rfl) (rfl) (Nat.le_of_ble_eq_true rfl) dX1_read_53 (fun H locs hP hD hS => ?_)
      have hP : va_P D vwCl [(o, .inr (1, [.ref oy, .int (nI (num pb 0 12 - 1000)), .int (nI (num pb 12 12)), .int x3, .int x4, .int x5, .int x6, .int x7, .int x8, .int x9, .int x10])), (oy, .inl (cI, 90, .inl fyk)), (a, .inr (3, [.ref b, .int (nI n)])), (b, .inl (cI, 140, .inl f))] _ := hP
      have hD : va_D (inW [(o, .inr (1, [.ref oy, .int x1, .int x2, .int x3, .int x4, .int x5, .int x6, .int x7, .int x8, .int x9, .int x10])), (oy, .inl (cI, 90, .inl fy)), (a, .inr (3, [.ref b, .int (nI n)])), (b, .inl (cI, 140, .inl f))]) [(o, .inr (1, [.ref oy, .int (nI (num pb 0 12 - 1000)), .int (nI (num pb 12 12)), .int x3, .int x4, .int x5, .int x6, .int x7, .int x8, .int x9, .int x10])), (oy, .inl (cI, 90, .inl fyk)), (a, .inr (3, [.ref b, .int (nI n)])), (b, .inl (cI, 140, .inl f))] := hD
      refine lv_aload_n hx hb dX1_read_56 rfl (lv_at hl 1 rfl) ?_
      refine lv_aload_n hx hb dX1_read_57 rfl (lv_at hl 1 rfl) ?_
      refine lv_bipush (v := nI 24) hx hb dX1_read_58 (by decide) ?_
      refine lv_bipush (v := nI 30) hx hb dX1_read_60 (by decide) ?_
      refine r_callVi (As := [.int (nI 24), .int (nI 30)]) (rest := [.ref o]) ⟨hx, hb, hml, hown, hts⟩ (c_X1_number (zl := zl) (D := D) (cI := cI) (cD := cD) o oy (nI (num pb 0 12 - 1000)) (nI (num pb 12 12)) x3 x4 x5 x6 x7 x8 x9 x10 fyk pb 24 30 (by first | assumption | omega) (by first | assumption | omega) (by first | assumption | omega) (by first | assumption | omega)) (cwV 2 hts gX1_read_X1_number rfl rfl rfl (by decide +kernel) ⟨Nat.le_of_ble_eq_true rfl, Nat.le_of_ble_eq_true rfl⟩) hK hN hP hD [0, 1] rfl rfl 0 rfl rfl rfl hl.1 rfl (Nat.le_of_ble_eq_true rfl) dX1_read_62 ⟨Nat.le_of_ble_eq_true rfl, Nat.le_of_ble_eq_true rfl⟩ (fun r_7 h_7 => ?_)
      obtain rfl := h_7
      refine va_put (D := D) (ci := 1) (v := .int (nI (num pb 24 30))) (ty := .int) (C := RX1) (T := TX1) (N := 11) hx hb hts hin1 tyX1 tyX1_ok nmX1 hown hK hP hD hS 0 rfl rfl 3 (by decide) (hts (.fieldLink RX1 30 "EpochSifter$Observation" "time" "I") (by decide +kernel)) (fun _ h9 => h9) rfl (by decide +kernel) (rfl) (rfl) (Nat.le_of_ble_eq_true rfl) dX1_read_65 (fun H locs hP hD hS => ?_)
      have hP : va_P D vwCl [(o, .inr (1, [.ref oy, .int (nI (num pb 0 12 - 1000)), .int (nI (num pb 12 12)), .int (nI (num pb 24 30)), .int x4, .int x5, .int x6, .int x7, .int x8, .int x9, .int x10])), (oy, .inl (cI, 90, .inl fyk)), (a, .inr (3, [.ref b, .int (nI n)])), (b, .inl (cI, 140, .inl f))] _ := hP
      have hD : va_D (inW [(o, .inr (1, [.ref oy, .int x1, .int x2, .int x3, .int x4, .int x5, .int x6, .int x7, .int x8, .int x9, .int x10])), (oy, .inl (cI, 90, .inl fy)), (a, .inr (3, [.ref b, .int (nI n)])), (b, .inl (cI, 140, .inl f))]) [(o, .inr (1, [.ref oy, .int (nI (num pb 0 12 - 1000)), .int (nI (num pb 12 12)), .int (nI (num pb 24 30)), .int x4, .int x5, .int x6, .int x7, .int x8, .int x9, .int x10])), (oy, .inl (cI, 90, .inl fyk)), (a, .inr (3, [.ref b, .int (nI n)])), (b, .inl (cI, 140, .inl f))] := hD
      refine lv_aload_n hx hb dX1_read_68 rfl (lv_at hl 1 rfl) ?_
      refine lv_aload_n hx hb dX1_read_69 rfl (lv_at hl 1 rfl) ?_
      refine lv_bipush (v := nI 54) hx hb dX1_read_70 (by decide) ?_
      refine lv_iconst (v := nI 1) hx hb dX1_read_72 (by decide) ?_
      refine r_callVi (As := [.int (nI 54), .int (nI 1)]) (rest := [.ref o]) ⟨hx, hb, hml, hown, hts⟩ (c_X1_number (zl := zl) (D := D) (cI := cI) (cD := cD) o oy (nI (num pb 0 12 - 1000)) (nI (num pb 12 12)) (nI (num pb 24 30)) x4 x5 x6 x7 x8 x9 x10 fyk pb 54 1 (by first | assumption | omega) (by first | assumption | omega) (by first | assumption | omega) (by first | assumption | omega)) (cwV 2 hts gX1_read_X1_number rfl rfl rfl (by decide +kernel) ⟨Nat.le_of_ble_eq_true rfl, Nat.le_of_ble_eq_true rfl⟩) hK hN hP hD [0, 1] rfl rfl 0 rfl rfl rfl hl.1 rfl (Nat.le_of_ble_eq_true rfl) dX1_read_73 ⟨Nat.le_of_ble_eq_true rfl, Nat.le_of_ble_eq_true rfl⟩ (fun r_8 h_8 => ?_)
      obtain rfl := h_8
      refine lv_iconst (v := nI 1) hx hb dX1_read_76 (by decide) ?_
      refine rn_ne (tgt := 84) hx hb dX1_read_77 (by decide) (by omega) (by omega) (fun c_77 => ?_) (fun c_77 => ?_)
      · skip
        refine lv_iconst (v := nI 0) hx hb dX1_read_84 (by decide) ?_
        exact (cuts _) 0 fyk (by omega) (by first | assumption | omega) (by omega) (Nat.lt_succ_self _) _ _ hP hD hS ls (lv_sub hl [1, 4] rfl)
      · skip
        refine lv_iconst (v := nI 1) hx hb dX1_read_80 (by decide) ?_
        refine lv_goto (tgt := 85) hx hb dX1_read_81 (by decide) ?_
        exact (cuts _) 1 fyk (by omega) (by first | assumption | omega) (by omega) (Nat.lt_succ_self _) _ _ hP hD hS ls (lv_sub hl [1, 4] rfl)
    · omega
set_option maxHeartbeats 4000000 in
set_option maxRecDepth 100000 in
/-- a payload is read that is no observation -/
theorem c_X1_read_no {zl : Launch} {D : va_G} {cI cD : ClassId} (o : Nat) (oy : Nat) (x1 : Int32) (x2 : Int32) (x3 : Int32) (x4 : Int32) (x5 : Int32) (x6 : Int32) (x7 : Int32) (x8 : Int32) (x9 : Int32) (x10 : Int32) (fy : Nat → Int32) (a : Nat) (b : Nat) (n : Nat) (f : Nat → Int32) (bs : List Nat) (fr : Nat) (len : Nat) (pb : List Nat) (hf : Rp f bs) (hbn : bs.length = n) (hn : n ≤ 140) (hB : By bs) (hfr : fr < 2 ^ 20) (hlen : len ≤ 90) (hpb : pb = ((bs.drop fr).take (3 + len))) (hl0 : ¬ isObs pb len) : Cx zl yX1_read wsX1_read ({ frames := 3, cells := 0, slots := 0, locals := 71 }) D cI cD [.ref o, .ref a, .int (nI (fr + 3)), .int (nI len)] [(o, .inr (1, [.ref oy, .int x1, .int x2, .int x3, .int x4, .int x5, .int x6, .int x7, .int x8, .int x9, .int x10])), (oy, .inl (cI, 90, .inl fy)), (a, .inr (3, [.ref b, .int (nI n)])), (b, .inl (cI, 140, .inl f))] (fun v w1 => ∃ (y1 : Int32), ∃ (y2 : Int32), ∃ (y3 : Int32), ∃ (y4 : Int32), ∃ (y5 : Int32), ∃ (y6 : Int32), ∃ (y7 : Int32), ∃ (y8 : Int32), ∃ (y9 : Int32), ∃ (y10 : Int32), ∃ (fyo : Nat → Int32), w1 = [(o, .inr (1, [.ref oy, .int y1, .int y2, .int y3, .int y4, .int y5, .int y6, .int y7, .int y8, .int y9, .int y10])), (oy, .inl (cI, 90, .inl fyo)), (a, .inr (3, [.ref b, .int (nI n)])), (b, .inl (cI, 140, .inl f))] ∧ v = some (.int (nI 0))) := by
  refine Met.ofW (cc := cX1_read) (maxL := 5) (ret := (some .boolean)) (by decide) rfl ?_
  intro zp ze zs zm zargs zb zt zc zs₁ B hml hv
  obtain ⟨rfl, hP, hK, hD0, hN⟩ := hv
  have hx := B.exec
  have hb := B.bytes
  have hr := B.returns
  have hts := atoms_spec (ws := wsX1_read) B.pre
  have hown : zs.vm.findClass RX1 = some zm.cls := findClass_of_methodNamed B.named
  have hlocks := B.notSynchronized
  have hD := inW_self hD0
  have hS : va_S (inW [(o, .inr (1, [.ref oy, .int x1, .int x2, .int x3, .int x4, .int x5, .int x6, .int x7, .int x8, .int x9, .int x10])), (oy, .inl (cI, 90, .inl fy)), (a, .inr (3, [.ref b, .int (nI n)])), (b, .inl (cI, 140, .inl f))]) zs.heap zs.heap [] := va_S.rf
  have hl := lv_entry [.ref o, .ref a, .int (nI (fr + 3)), .int (nI len)] (n := 5) (Nat.le_of_ble_eq_true rfl)
  rw [lg_entry_eq]
  generalize (lg_sl [.ref o, .ref a, .int (nI (fr + 3)), .int (nI len)] ++ List.replicate (5 - (lg_sl [.ref o, .ref a, .int (nI (fr + 3)), .int (nI len)]).length) Slot.unset).toArray = ls at hl ⊢
  have hl : lv_has ls 5 [(0, .ref o), (1, .ref a), (2, .int (nI (fr + 3))), (3, .int (nI len))] := hl
  have hin1 : ∀ w ∈ u_ws RX1 TX1 11, w ∈ wsX1_read := by decide +kernel
  have hpB : By pb := by rw [hpb]; exact (hB.drop fr).take _
  have z1 := num_lt pb 0 12
  have z5 := num_lt pb 54 1
  have cuts : ∀ fuel : Nat, (∀ (mm : Nat), ∀ (fyc : Nat → Int32), (mm = num pb 54 1) → (Pay fyc pb) → (1000 ≤ num pb 0 12 ∧ num pb 0 12 ≤ 1003) → 0 < fuel → ∀ (H : Heap) (locs : List Loc), va_P D vwCl [(o, .inr (1, [.ref oy, .int (nI (num pb 0 12 - 1000)), .int (nI (num pb 12 12)), .int (nI (num pb 24 30)), .int x4, .int x5, .int x6, .int x7, .int x8, .int x9, .int x10])), (oy, .inl (cI, 90, .inl fyc)), (a, .inr (3, [.ref b, .int (nI n)])), (b, .inl (cI, 140, .inl f))] H → va_D (inW [(o, .inr (1, [.ref oy, .int x1, .int x2, .int x3, .int x4, .int x5, .int x6, .int x7, .int x8, .int x9, .int x10])), (oy, .inl (cI, 90, .inl fy)), (a, .inr (3, [.ref b, .int (nI n)])), (b, .inl (cI, 140, .inl f))]) [(o, .inr (1, [.ref oy, .int (nI (num pb 0 12 - 1000)), .int (nI (num pb 12 12)), .int (nI (num pb 24 30)), .int x4, .int x5, .int x6, .int x7, .int x8, .int x9, .int x10])), (oy, .inl (cI, 90, .inl fyc)), (a, .inr (3, [.ref b, .int (nI n)])), (b, .inl (cI, 140, .inl f))] → va_S (inW [(o, .inr (1, [.ref oy, .int x1, .int x2, .int x3, .int x4, .int x5, .int x6, .int x7, .int x8, .int x9, .int x10])), (oy, .inl (cI, 90, .inl fy)), (a, .inr (3, [.ref b, .int (nI n)])), (b, .inl (cI, 140, .inl f))]) zs.heap H locs → ∀ (ls : Array Slot), lv_has ls 5 [(0, .ref o), (3, .int (nI len))] → W zp zl ze ({ frames := 3, cells := 0, slots := 0, locals := 71 }) zs zm [.ref o, .ref a, .int (nI (fr + 3)), .int (nI len)].toArray zb zt zc H locs 0 0 (MQ zb (Xq D [(o, .inr (1, [.ref oy, .int x1, .int x2, .int x3, .int x4, .int x5, .int x6, .int x7, .int x8, .int x9, .int x10])), (oy, .inl (cI, 90, .inl fy)), (a, .inr (3, [.ref b, .int (nI n)])), (b, .inl (cI, 140, .inl f))] (fun v w1 => ∃ (y1 : Int32), ∃ (y2 : Int32), ∃ (y3 : Int32), ∃ (y4 : Int32), ∃ (y5 : Int32), ∃ (y6 : Int32), ∃ (y7 : Int32), ∃ (y8 : Int32), ∃ (y9 : Int32), ∃ (y10 : Int32), ∃ (fyo : Nat → Int32), w1 = [(o, .inr (1, [.ref oy, .int y1, .int y2, .int y3, .int y4, .int y5, .int y6, .int y7, .int y8, .int y9, .int y10])), (oy, .inl (cI, 90, .inl fyo)), (a, .inr (3, [.ref b, .int (nI n)])), (b, .inl (cI, 140, .inl f))] ∧ v = some (.int (nI 0)))) [.ref o, .ref a, .int (nI (fr + 3)), .int (nI len)].toArray zs 0 0 (inW [(o, .inr (1, [.ref oy, .int x1, .int x2, .int x3, .int x4, .int x5, .int x6, .int x7, .int x8, .int x9, .int x10])), (oy, .inl (cI, 90, .inl fy)), (a, .inr (3, [.ref b, .int (nI n)])), (b, .inl (cI, 140, .inl f))])) (F0 zm 85 ls [.int (nI mm), .ref o])) := by
    intro fuel
    induction fuel with
    | zero => exact (by intros; exact absurd (by assumption) (Nat.not_lt_zero _))
    | succ fuel ih =>
      intro mm fyc hmm hpy hm9 hm H locs hP hD hS ls hl
      obtain rfl := hmm
      refine va_put (D := D) (ci := 1) (v := .int (nI (num pb 54 1))) (ty := .boolean) (C := RX1) (T := TX1) (N := 11) hx hb hts hin1 tyX1 tyX1_ok nmX1 hown hK hP hD hS 0 rfl rfl 4 (by decide) (hts (.fieldLink RX1 33 "EpochSifter$Observation" "more" "Z") (by decide +kernel)) (fun _ h9 => h9) rfl (by decide +kernel) (narB (by omega)) (fitB (by omega)) (Nat.le_of_ble_eq_true rfl) dX1_read_85 (fun H locs hP hD hS => ?_)
      have hP : va_P D vwCl [(o, .inr (1, [.ref oy, .int (nI (num pb 0 12 - 1000)), .int (nI (num pb 12 12)), .int (nI (num pb 24 30)), .int (nI (num pb 54 1)), .int x5, .int x6, .int x7, .int x8, .int x9, .int x10])), (oy, .inl (cI, 90, .inl fyc)), (a, .inr (3, [.ref b, .int (nI n)])), (b, .inl (cI, 140, .inl f))] _ := hP
      have hD : va_D (inW [(o, .inr (1, [.ref oy, .int x1, .int x2, .int x3, .int x4, .int x5, .int x6, .int x7, .int x8, .int x9, .int x10])), (oy, .inl (cI, 90, .inl fy)), (a, .inr (3, [.ref b, .int (nI n)])), (b, .inl (cI, 140, .inl f))]) [(o, .inr (1, [.ref oy, .int (nI (num pb 0 12 - 1000)), .int (nI (num pb 12 12)), .int (nI (num pb 24 30)), .int (nI (num pb 54 1)), .int x5, .int x6, .int x7, .int x8, .int x9, .int x10])), (oy, .inl (cI, 90, .inl fyc)), (a, .inr (3, [.ref b, .int (nI n)])), (b, .inl (cI, 140, .inl f))] := hD
      refine lv_aload_n hx hb dX1_read_88 rfl (lv_at hl 0 rfl) ?_
      refine lv_aload_n hx hb dX1_read_89 rfl (lv_at hl 0 rfl) ?_
      refine lv_bipush (v := nI 55) hx hb dX1_read_90 (by decide) ?_
      refine lv_bipush (v := nI 16) hx hb dX1_read_92 (by decide) ?_
      refine r_callVi (As := [.int (nI 55), .int (nI 16)]) (rest := [.ref o]) ⟨hx, hb, hml, hown, hts⟩ (c_X1_number (zl := zl) (D := D) (cI := cI) (cD := cD) o oy (nI (num pb 0 12 - 1000)) (nI (num pb 12 12)) (nI (num pb 24 30)) (nI (num pb 54 1)) x5 x6 x7 x8 x9 x10 fyc pb 55 16 (by first | assumption | omega) (by first | assumption | omega) (by first | assumption | omega) (by first | assumption | omega)) (cwV 2 hts gX1_read_X1_number rfl rfl rfl (by decide +kernel) ⟨Nat.le_of_ble_eq_true rfl, Nat.le_of_ble_eq_true rfl⟩) hK hN hP hD [0, 1] rfl rfl 0 rfl rfl rfl hl.1 rfl (Nat.le_of_ble_eq_true rfl) dX1_read_94 ⟨Nat.le_of_ble_eq_true rfl, Nat.le_of_ble_eq_true rfl⟩ (fun r_1 h_1 => ?_)
      obtain rfl := h_1
      refine va_put (D := D) (ci := 1) (v := .int (nI (num pb 55 16))) (ty := .int) (C := RX1) (T := TX1) (N := 11) hx hb hts hin1 tyX1 tyX1_ok nmX1 hown hK hP hD hS 0 rfl rfl 5 (by decide) (hts (.fieldLink RX1 37 "EpochSifter$Observation" "satelliteMask" "I") (by decide +kernel)) (fun _ h9 => h9) rfl (by decide +kernel) (rfl) (rfl) (Nat.le_of_ble_eq_true rfl) dX1_read_97 (fun H locs hP hD hS => ?_)
      have hP : va_P D vwCl [(o, .inr (1, [.ref oy, .int (nI (num pb 0 12 - 1000)), .int (nI (num pb 12 12)), .int (nI (num pb 24 30)), .int (nI (num pb 54 1)), .int (nI (num pb 55 16)), .int x6, .int x7, .int x8, .int x9, .int x10])), (oy, .inl (cI, 90, .inl fyc)), (a, .inr (3, [.ref b, .int (nI n)])), (b, .inl (cI, 140, .inl f))] _ := hP
      have hD : va_D (inW [(o, .inr (1, [.ref oy, .int x1, .int x2, .int x3, .int x4, .int x5, .int x6, .int x7, .int x8, .int x9, .int x10])), (oy, .inl (cI, 90, .inl fy)), (a, .inr (3, [.ref b, .int (nI n)])), (b, .inl (cI, 140, .inl f))]) [(o, .inr (1, [.ref oy, .int (nI (num pb 0 12 - 1000)), .int (nI (num pb 12 12)), .int (nI (num pb 24 30)), .int (nI (num pb 54 1)), .int (nI (num pb 55 16)), .int x6, .int x7, .int x8, .int x9, .int x10])), (oy, .inl (cI, 90, .inl fyc)), (a, .inr (3, [.ref b, .int (nI n)])), (b, .inl (cI, 140, .inl f))] := hD
      refine lv_aload_n hx hb dX1_read_100 rfl (lv_at hl 0 rfl) ?_
      refine lv_aload_n hx hb dX1_read_101 rfl (lv_at hl 0 rfl) ?_
      refine lv_bipush (v := nI 71) hx hb dX1_read_102 (by decide) ?_
      refine lv_iconst (v := nI 4) hx hb dX1_read_104 (by decide) ?_
      refine r_callVi (As := [.int (nI 71), .int (nI 4)]) (rest := [.ref o]) ⟨hx, hb, hml, hown, hts⟩ (c_X1_number (zl := zl) (D := D) (cI := cI) (cD := cD) o oy (nI (num pb 0 12 - 1000)) (nI (num pb 12 12)) (nI (num pb 24 30)) (nI (num pb 54 1)) (nI (num pb 55 16)) x6 x7 x8 x9 x10 fyc pb 71 4 (by first | assumption | omega) (by first | assumption | omega) (by first | assumption | omega) (by first | assumption | omega)) (cwV 2 hts gX1_read_X1_number rfl rfl rfl (by decide +kernel) ⟨Nat.le_of_ble_eq_true rfl, Nat.le_of_ble_eq_true rfl⟩) hK hN hP hD [0, 1] rfl rfl 0 rfl rfl rfl hl.1 rfl (Nat.le_of_ble_eq_true rfl) dX1_read_105 ⟨Nat.le_of_ble_eq_true rfl, Nat.le_of_ble_eq_true rfl⟩ (fun r_2 h_2 => ?_)
      obtain rfl := h_2
      refine va_put (D := D) (ci := 1) (v := .int (nI (num pb 71 4))) (ty := .int) (C := RX1) (T := TX1) (N := 11) hx hb hts hin1 tyX1 tyX1_ok nmX1 hown hK hP hD hS 0 rfl rfl 6 (by decide) (hts (.fieldLink RX1 40 "EpochSifter$Observation" "signalMask" "I") (by decide +kernel)) (fun _ h9 => h9) rfl (by decide +kernel) (rfl) (rfl) (Nat.le_of_ble_eq_true rfl) dX1_read_108 (fun H locs hP hD hS => ?_)
      have hP : va_P D vwCl [(o, .inr (1, [.ref oy, .int (nI (num pb 0 12 - 1000)), .int (nI (num pb 12 12)), .int (nI (num pb 24 30)), .int (nI (num pb 54 1)), .int (nI (num pb 55 16)), .int (nI (num pb 71 4)), .int x7, .int x8, .int x9, .int x10])), (oy, .inl (cI, 90, .inl fyc)), (a, .inr (3, [.ref b, .int (nI n)])), (b, .inl (cI, 140, .inl f))] _ := hP
      have hD : va_D (inW [(o, .inr (1, [.ref oy, .int x1, .int x2, .int x3, .int x4, .int x5, .int x6, .int x7, .int x8, .int x9, .int x10])), (oy, .inl (cI, 90, .inl fy)), (a, .inr (3, [.ref b, .int (nI n)])), (b, .inl (cI, 140, .inl f))]) [(o, .inr (1, [.ref oy, .int (nI (num pb 0 12 - 1000)), .int (nI (num pb 12 12)), .int (nI (num pb 24 30)), .int (nI (num pb 54 1)), .int (nI (num pb 55 16)), .int (nI (num pb 71 4)), .int x7, .int x8, .int x9, .int x10])), (oy, .inl (cI, 90, .inl fyc)), (a, .inr (3, [.ref b, .int (nI n)])), (b, .inl (cI, 140, .inl f))] := hD
      refine lv_aload_n hx hb dX1_read_111 rfl (lv_at hl 0 rfl) ?_
      refine lv_bipush (v := nI 8) hx hb dX1_read_112 (by decide) ?_
      refine lv_iload_n hx hb dX1_read_114 rfl (lv_at hl 1 rfl) ?_
      refine lv_imul hx hb dX1_read_115 ?_
      refine r_i (v := nI (8 * len)) (pk_mul _ _) ?_
      refine x_callV (As := [.int (nI (8 * len))]) (rest := []) ⟨hx, hb, hml, hown, hts⟩ (c_X1_layOut_no (zl := zl) (D := D) (cI := cI) (cD := cD) o oy (nI (num pb 0 12 - 1000)) (nI (num pb 12 12)) (nI (num pb 24 30)) (nI (num pb 54 1)) x7 x8 x9 x10 fyc pb (8 * len) (by first | assumption | omega) (by first | assumption | omega) (by omega) (fun z => hl0 ⟨by have := z.1; omega, hm9, z⟩)) (cwV 1 hts gX1_read_X1_layOut rfl rfl rfl (by decide +kernel) ⟨Nat.le_of_ble_eq_true rfl, Nat.le_of_ble_eq_true rfl⟩) hK hN hP hD hS [0, 1] rfl rfl 0 rfl rfl rfl hl.1 rfl (Nat.le_of_ble_eq_true rfl) dX1_read_116 ⟨Nat.le_of_ble_eq_true rfl, Nat.le_of_ble_eq_true rfl⟩ (fun v_3 w_3 H locs hr_3 hP hD hS => ?_)
      obtain ⟨y7_3, y8_3, y9_3, y10_3, rfl, rfl⟩ := hr_3
      refine W.eq (g2 := F0 zm 119 ls [.int (nI 0)]) rfl ?_
      have hP : va_P D vwCl [(o, .inr (1, [.ref oy, .int (nI (num pb 0 12 - 1000)), .int (nI (num pb 12 12)), .int (nI (num pb 24 30)), .int (nI (num pb 54 1)), .int (nI (num pb 55 16)), .int (nI (num pb 71 4)), .int y7_3, .int y8_3, .int y9_3, .int y10_3])), (oy, .inl (cI, 90, .inl fyc)), (a, .inr (3, [.ref b, .int (nI n)])), (b, .inl (cI, 140, .inl f))] _ := hP
      have hD : va_D (inW [(o, .inr (1, [.ref oy, .int x1, .int x2, .int x3, .int x4, .int x5, .int x6, .int x7, .int x8, .int x9, .int x10])), (oy, .inl (cI, 90, .inl fy)), (a, .inr (3, [.ref b, .int (nI n)])), (b, .inl (cI, 140, .inl f))]) [(o, .inr (1, [.ref oy, .int (nI (num pb 0 12 - 1000)), .int (nI (num pb 12 12)), .int (nI (num pb 24 30)), .int (nI (num pb 54 1)), .int (nI (num pb 55 16)), .int (nI (num pb 71 4)), .int y7_3, .int y8_3, .int y9_3, .int y10_3])), (oy, .inl (cI, 90, .inl fyc)), (a, .inr (3, [.ref b, .int (nI n)])), (b, .inl (cI, 140, .inl f))] := hD
      exact W.zret (v := nI 0) hx hb hr (rfl) (fun tz htz hWz => ⟨some (.int (nI 0)), [(o, .inr (1, [.ref oy, .int (nI (num pb 0 12 - 1000)), .int (nI (num pb 12 12)), .int (nI (num pb 24 30)), .int (nI (num pb 54 1)), .int (nI (num pb 55 16)), .int (nI (num pb 71 4)), .int y7_3, .int y8_3, .int y9_3, .int y10_3])), (oy, .inl (cI, 90, .inl fyc)), (a, .inr (3, [.ref b, .int (nI n)])), (b, .inl (cI, 140, .inl f))], rfl, ⟨_, _, _, _, _, _, _, _, _, _, _, rfl, rfl⟩, rfl, by rw [htz]; exact hP, hS.F htz⟩) (fun q h => hS.2.2 q h) dX1_read_119
  refine lv_aload_n hx hb dX1_read_0 rfl (lv_at hl 0 rfl) ?_
  refine lv_aload_n hx hb dX1_read_1 rfl (lv_at hl 1 rfl) ?_
  refine lv_iload_n hx hb dX1_read_2 rfl (lv_at hl 2 rfl) ?_
  refine lv_iload_n hx hb dX1_read_3 rfl (lv_at hl 3 rfl) ?_
  refine x_callV (As := [.ref a, .int (nI (fr + 3)), .int (nI len)]) (rest := []) ⟨hx, hb, hml, hown, hts⟩ (c_X1_fill (zl := zl) (D := D) (cI := cI) (cD := cD) o oy x1 x2 x3 x4 x5 x6 x7 x8 x9 x10 fy a b n f bs fr len (by first | assumption | omega) (by first | assumption | omega) (by first | assumption | omega) (by first | assumption | omega) (by first | assumption | omega)) (cwV 3 hts gX1_read_X1_fill rfl rfl rfl (by decide +kernel) ⟨Nat.le_of_ble_eq_true rfl, Nat.le_of_ble_eq_true rfl⟩) hK hN hP hD hS [0, 1, 2, 3] rfl rfl 0 rfl rfl rfl hl.1 rfl (Nat.le_of_ble_eq_true rfl) dX1_read_4 ⟨Nat.le_of_ble_eq_true rfl, Nat.le_of_ble_eq_true rfl⟩ (fun v_4 w_4 H locs hr_4 hP hD hS => ?_)
  obtain ⟨fyk, rfl, rfl, hpy⟩ := hr_4
  refine W.eq (g2 := F0 zm 7 ls []) rfl ?_
  have hP : va_P D vwCl [(o, .inr (1, [.ref oy, .int x1, .int x2, .int x3, .int x4, .int x5, .int x6, .int x7, .int x8, .int x9, .int x10])), (oy, .inl (cI, 90, .inl fyk)), (a, .inr (3, [.ref b, .int (nI n)])), (b, .inl (cI, 140, .inl f))] _ := hP
  have hD : va_D (inW [(o, .inr (1, [.ref oy, .int x1, .int x2, .int x3, .int x4, .int x5, .int x6, .int x7, .int x8, .int x9, .int x10])), (oy, .inl (cI, 90, .inl fy)), (a, .inr (3, [.ref b, .int (nI n)])), (b, .inl (cI, 140, .inl f))]) [(o, .inr (1, [.ref oy, .int x1, .int x2, .int x3, .int x4, .int x5, .int x6, .int x7, .int x8, .int x9, .int x10])), (oy, .inl (cI, 90, .inl fyk)), (a, .inr (3, [.ref b, .int (nI n)])), (b, .inl (cI, 140, .inl f))] := hD
  rw [← hpb] at hpy
  refine lv_aload_n hx hb dX1_read_7 rfl (lv_at hl 0 rfl) ?_
  refine lv_iconst (v := nI 0) hx hb dX1_read_8 (by decide) ?_
  refine lv_bipush (v := nI 12) hx hb dX1_read_9 (by decide) ?_
  refine r_callVi (As := [.int (nI 0), .int (nI 12)]) (rest := []) ⟨hx, hb, hml, hown, hts⟩ (c_X1_number (zl := zl) (D := D) (cI := cI) (cD := cD) o oy x1 x2 x3 x4 x5 x6 x7 x8 x9 x10 fyk pb 0 12 (by first | assumption | omega) (by first | assumption | omega) (by first | assumption | omega) (by first | assumption | omega)) (cwV 2 hts gX1_read_X1_number rfl rfl rfl (by decide +kernel) ⟨Nat.le_of_ble_eq_true rfl, Nat.le_of_ble_eq_true rfl⟩) hK hN hP hD [0, 1] rfl rfl 0 rfl rfl rfl hl.1 rfl (Nat.le_of_ble_eq_true rfl) dX1_read_11 ⟨Nat.le_of_ble_eq_true rfl, Nat.le_of_ble_eq_true rfl⟩ (fun r_5 h_5 => ?_)
  obtain rfl := h_5
  refine lv_istore (lv' := [(4, .int (nI (num pb 0 12))), (0, .ref o), (1, .ref a), (2, .int (nI (fr + 3))), (3, .int (nI len))]) hx hb dX1_read_14 hl (by decide) rfl (fun ls hl => ?_)
  refine lv_iload hx hb dX1_read_16 (lv_at hl 0 rfl) ?_
  refine lv_sipush (v := nI 1000) hx hb dX1_read_18 (by decide) ?_
  refine rn_lt (tgt := 32) hx hb dX1_read_21 (by decide) (by omega) (by omega) (fun c_21 => ?_) (fun c_21 => ?_)
  · skip
    refine lv_iconst (v := nI 0) hx hb dX1_read_32 (by decide) ?_
    exact W.zret (v := nI 0) hx hb hr (rfl) (fun tz htz hWz => ⟨some (.int (nI 0)), [(o, .inr (1, [.ref oy, .int x1, .int x2, .int x3, .int x4, .int x5, .int x6, .int x7, .int x8, .int x9, .int x10])), (oy, .inl (cI, 90, .inl fyk)), (a, .inr (3, [.ref b, .int (nI n)])), (b, .inl (cI, 140, .inl f))], rfl, ⟨_, _, _, _, _, _, _, _, _, _, _, rfl, rfl⟩, rfl, by rw [htz]; exact hP, hS.F htz⟩) (fun q h => hS.2.2 q h) dX1_read_33
  · skip
    refine lv_iload hx hb dX1_read_24 (lv_at hl 0 rfl) ?_
    refine lv_sipush (v := nI 1003) hx hb dX1_read_26 (by decide) ?_
    refine rn_le (tgt := 34) hx hb dX1_read_29 (by decide) (by omega) (by omega) (fun c_29 => ?_) (fun c_29 => ?_)
    · skip
      refine lv_aload_n hx hb dX1_read_34 rfl (lv_at hl 1 rfl) ?_
      refine lv_iload hx hb dX1_read_35 (lv_at hl 0 rfl) ?_
      refine lv_sipush (v := nI 1000) hx hb dX1_read_37 (by decide) ?_
      refine lv_isub hx hb dX1_read_40 ?_
      refine r_i (v := nI (num pb 0 12 - 1000)) (pk_sub (by omega)) ?_
      refine va_put (D := D) (ci := 1) (v := .int (nI (num pb 0 12 - 1000))) (ty := .int) (C := RX1) (T := TX1) (N := 11) hx hb hts hin1 tyX1 tyX1_ok nmX1 hown hK hP hD hS 0 rfl rfl 1 (by decide) (hts (.fieldLink RX1 23 "EpochSifter$Observation" "system" "I") (by decide +kernel)) (fun _ h9 => h9) rfl (by decide +kernel) (rfl) (rfl) (Nat.le_of_ble_eq_true rfl) dX1_read_41 (fun H locs hP hD hS => ?_)
      have hP : va_P D vwCl [(o, .inr (1, [.ref oy, .int (nI (num pb 0 12 - 1000)), .int x2, .int x3, .int x4, .int x5, .int x6, .int x7, .int x8, .int x9, .int x10])), (oy, .inl (cI, 90, .inl fyk)), (a, .inr (3, [.ref b, .int (nI n)])), (b, .inl (cI, 140, .inl f))] _ := hP
      have hD : va_D (inW [(o, .inr (1, [.ref oy, .int x1, .int x2, .int x3, .int x4, .int x5, .int x6, .int x7, .int x8, .int x9, .int x10])), (oy, .inl (cI, 90, .inl fy)), (a, .inr (3, [.ref b, .int (nI n)])), (b, .inl (cI, 140, .inl f))]) [(o, .inr (1, [.ref oy, .int (nI (num pb 0 12 - 1000)), .int x2, .int x3, .int x4, .int x5, .int x6, .int x7, .int x8, .int x9, .int x10])), (oy, .inl (cI, 90, .inl fyk)), (a, .inr (3, [.ref b, .int (nI n)])), (b, .inl (cI, 140, .inl f))] := hD
      refine lv_aload_n hx hb dX1_read_44 rfl (lv_at hl 1 rfl) ?_
      refine lv_aload_n hx hb dX1_read_45 rfl (lv_at hl 1 rfl) ?_
      refine lv_bipush (v := nI 12) hx hb dX1_read_46 (by decide) ?_
      refine lv_bipush (v := nI 12) hx hb dX1_read_48 (by decide) ?_
      refine r_callVi (As := [.int (nI 12), .int (nI 12)]) (rest := [.ref o]) ⟨hx, hb, hml, hown, hts⟩ (c_X1_number (zl := zl) (D := D) (cI := cI) (cD := cD) o oy (nI (num pb 0 12 - 1000)) x2 x3 x4 x5 x6 x7 x8 x9 x10 fyk pb 12 12 (by first | assumption | omega) (by first | assumption | omega) (by first | assumption | omega) (by first | assumption | omega)) (cwV 2 hts gX1_read_X1_number rfl rfl rfl (by decide +kernel) ⟨Nat.le_of_ble_eq_true rfl, Nat.le_of_ble_eq_true rfl⟩) hK hN hP hD [0, 1] rfl rfl 0 rfl rfl rfl hl.1 rfl (Nat.le_of_ble_eq_true rfl) dX1_read_50 ⟨Nat.le_of_ble_eq_true rfl, Nat.le_of_ble_eq_true rfl⟩ (fun r_6 h_6 => ?_)
      obtain rfl := h_6
      refine va_put (D := D) (ci := 1) (v := .int (nI (num pb 12 12))) (ty := .int) (C := RX1) (T := TX1) (N := 11) hx hb hts hin1 tyX1 tyX1_ok nmX1 hown hK hP hD hS 0 rfl rfl 2 (by decide) (hts (.fieldLink RX1 27 "EpochSifter$Observation" "station" "I") (by decide +kernel)) (fun _ h9 => h9) rfl (by decide +kernel) (rfl) (rfl) (Nat.le_of_ble_eq_true rfl) dX1_read_53 (fun H locs hP hD hS => ?_)
      have hP : va_P D vwCl [(o, .inr (1, [.ref oy, .int (nI (num pb 0 12 - 1000)), .int (nI (num pb 12 12)), .int x3, .int x4, .int x5, .int x6, .int x7, .int x8, .int x9, .int x10])), (oy, .inl (cI, 90, .inl fyk)), (a, .inr (3, [.ref b, .int (nI n)])), (b, .inl (cI, 140, .inl f))] _ := hP
      have hD : va_D (inW [(o, .inr (1, [.ref oy, .int x1, .int x2, .int x3, .int x4, .int x5, .int x6, .int x7, .int x8, .int x9, .int x10])), (oy, .inl (cI, 90, .inl fy)), (a, .inr (3, [.ref b, .int (nI n)])), (b, .inl (cI, 140, .inl f))]) [(o, .inr (1, [.ref oy, .int (nI (num pb 0 12 - 1000)), .int (nI (num pb 12 12)), .int x3, .int x4, .int x5, .int x6, .int x7, .int x8, .int x9, .int x10])), (oy, .inl (cI, 90, .inl fyk)), (a, .inr (3, [.ref b, .int (nI n)])), (b, .inl (cI, 140, .inl f))] := hD
      refine lv_aload_n hx hb dX1_read_56 rfl (lv_at hl 1 rfl) ?_
      refine lv_aload_n hx hb dX1_read_57 rfl (lv_at hl 1 rfl) ?_
      refine lv_bipush (v := nI 24) hx hb dX1_read_58 (by decide) ?_
      refine lv_bipush (v := nI 30) hx hb dX1_read_60 (by decide) ?_
      refine r_callVi (As := [.int (nI 24), .int (nI 30)]) (rest := [.ref o]) ⟨hx, hb, hml, hown, hts⟩ (c_X1_number (zl := zl) (D := D) (cI := cI) (cD := cD) o oy (nI (num pb 0 12 - 1000)) (nI (num pb 12 12)) x3 x4 x5 x6 x7 x8 x9 x10 fyk pb 24 30 (by first | assumption | omega) (by first | assumption | omega) (by first | assumption | omega) (by first | assumption | omega)) (cwV 2 hts gX1_read_X1_number rfl rfl rfl (by decide +kernel) ⟨Nat.le_of_ble_eq_true rfl, Nat.le_of_ble_eq_true rfl⟩) hK hN hP hD [0, 1] rfl rfl 0 rfl rfl rfl hl.1 rfl (Nat.le_of_ble_eq_true rfl) dX1_read_62 ⟨Nat.le_of_ble_eq_true rfl, Nat.le_of_ble_eq_true rfl⟩ (fun r_7 h_7 => ?_)
      obtain rfl := h_7
      refine va_put (D := D) (ci := 1) (v := .int (nI (num pb 24 30))) (ty := .int) (C := RX1) (T := TX1) (N := 11) hx hb hts hin1 tyX1 tyX1_ok nmX1 hown hK hP hD hS 0 rfl rfl 3 (by decide) (hts (.fieldLink RX1 30 "EpochSifter$Observation" "time" "I") (by decide +kernel)) (fun _ h9 => h9) rfl (by decide +kernel) (rfl) (rfl) (Nat.le_of_ble_eq_true rfl) dX1_read_65 (fun H locs hP hD hS => ?_)
      have hP : va_P D vwCl [(o, .inr (1, [.ref oy, .int (nI (num pb 0 12 - 1000)), .int (nI (num pb 12 12)), .int (nI (num pb 24 30)), .int x4, .int x5, .int x6, .int x7, .int x8, .int x9, .int x10])), (oy, .inl (cI, 90, .inl fyk)), (a, .inr (3, [.ref b, .int (nI n)])), (b, .inl (cI, 140, .inl f))] _ := hP
      have hD : va_D (inW [(o, .inr (1, [.ref oy, .int x1, .int x2, .int x3, .int x4, .int x5, .int x6, .int x7, .int x8, .int x9, .int x10])), (oy, .inl (cI, 90, .inl fy)), (a, .inr (3, [.ref b, .int (nI n)])), (b, .inl (cI, 140, .inl f))]) [(o, .inr (1, [.ref oy, .int (nI (num pb 0 12 - 1000)), .int (nI (num pb 12 12)), .int (nI (num pb 24 30)), .int x4, .int x5, .int x6, .int x7, .int x8, .int x9, .int x10])), (oy, .inl (cI, 90, .inl fyk)), (a, .inr (3, [.ref b, .int (nI n)])), (b, .inl (cI, 140, .inl f))] := hD
      refine lv_aload_n hx hb dX1_read_68 rfl (lv_at hl 1 rfl) ?_
      refine lv_aload_n hx hb dX1_read_69 rfl (lv_at hl 1 rfl) ?_
      refine lv_bipush (v := nI 54) hx hb dX1_read_70 (by decide) ?_
      refine lv_iconst (v := nI 1) hx hb dX1_read_72 (by decide) ?_
      refine r_callVi (As := [.int (nI 54), .int (nI 1)]) (rest := [.ref o]) ⟨hx, hb, hml, hown, hts⟩ (c_X1_number (zl := zl) (D := D) (cI := cI) (cD := cD) o oy (nI (num pb 0 12 - 1000)) (nI (num pb 12 12)) (nI (num pb 24 30)) x4 x5 x6 x7 x8 x9 x10 fyk pb 54 1 (by first | assumption | omega) (by first | assumption | omega) (by first | assumption | omega) (by first | assumption | omega)) (cwV 2 hts gX1_read_X1_number rfl rfl rfl (by decide +kernel) ⟨Nat.le_of_ble_eq_true rfl, Nat.le_of_ble_eq_true rfl⟩) hK hN hP hD [0, 1] rfl rfl 0 rfl rfl rfl hl.1 rfl (Nat.le_of_ble_eq_true rfl) dX1_read_73 ⟨Nat.le_of_ble_eq_true rfl, Nat.le_of_ble_eq_true rfl⟩ (fun r_8 h_8 => ?_)
      obtain rfl := h_8
      refine lv_iconst (v := nI 1) hx hb dX1_read_76 (by decide) ?_
      refine rn_ne (tgt := 84) hx hb dX1_read_77 (by decide) (by omega) (by omega) (fun c_77 => ?_) (fun c_77 => ?_)
      · skip
        refine lv_iconst (v := nI 0) hx hb dX1_read_84 (by decide) ?_
        exact (cuts _) 0 fyk (by omega) (by first | assumption | omega) (by omega) (Nat.lt_succ_self _) _ _ hP hD hS ls (lv_sub hl [1, 4] rfl)
      · skip
        refine lv_iconst (v := nI 1) hx hb dX1_read_80 (by decide) ?_
        refine lv_goto (tgt := 85) hx hb dX1_read_81 (by decide) ?_
        exact (cuts _) 1 fyk (by omega) (by first | assumption | omega) (by omega) (Nat.lt_succ_self _) _ _ hP hD hS ls (lv_sub hl [1, 4] rfl)
    · skip
      refine lv_iconst (v := nI 0) hx hb dX1_read_32 (by decide) ?_
      exact W.zret (v := nI 0) hx hb hr (rfl) (fun tz htz hWz => ⟨some (.int (nI 0)), [(o, .inr (1, [.ref oy, .int x1, .int x2, .int x3, .int x4, .int x5, .int x6, .int x7, .int x8, .int x9, .int x10])), (oy, .inl (cI, 90, .inl fyk)), (a, .inr (3, [.ref b, .int (nI n)])), (b, .inl (cI, 140, .inl f))], rfl, ⟨_, _, _, _, _, _, _, _, _, _, _, rfl, rfl⟩, rfl, by rw [htz]; exact hP, hS.F htz⟩) (fun q h => hS.2.2 q h) dX1_read_33
set_option maxHeartbeats 4000000 in
set_option maxRecDepth 100000 in
/-- the epoch of this time and station -/
theorem c_X0_isOf {zl : Launch} {D : va_G} {cI cD : ClassId} (e : Nat) (en : Nat) (er : Nat) (es : Nat) (ex : Nat) (tm : Int32) (sn : Int32) (z : Nat) (ob : Int32) (t : Int32) (s : Int32) (hex : ex ≤ 1) : Ci zl yX0_isOf wsX0_isOf ({ frames := 0, cells := 0, slots := 0, locals := 0 }) D cI cD [.ref e, .int t, .int s] [(e, .inr (0, [.ref en, .ref er, .ref es, .int (nI ex), .int tm, .int sn, .int (nI z), .int ob]))] (fun r => r = nI (tf (ex = 1 ∧ tm = t ∧ sn = s))) := by
  refine Met.ofW (cc := cX0_isOf) (maxL := 3) (ret := (some .boolean)) (by decide) rfl ?_
  intro zp ze zs zm zargs zb zt zc zs₁ B hml hv
  obtain ⟨rfl, hP, hK, hD0, hN⟩ := hv
  have hx := B.exec
  have hb := B.bytes
  have hr := B.returns
  have hts := atoms_spec (ws := wsX0_isOf) B.pre
  have hown : zs.vm.findClass RX0 = some zm.cls := findClass_of_methodNamed B.named
  have hlocks := B.notSynchronized
  have hD := inW_self hD0
  have hS : va_S (inW [(e, .inr (0, [.ref en, .ref er, .ref es, .int (nI ex), .int tm, .int sn, .int (nI z), .int ob]))]) zs.heap zs.heap [] := va_S.rf
  have hl := lv_entry [.ref e, .int t, .int s] (n := 3) (Nat.le_of_ble_eq_true rfl)
  rw [lg_entry_eq]
  generalize (lg_sl [.ref e, .int t, .int s] ++ List.replicate (3 - (lg_sl [.ref e, .int t, .int s]).length) Slot.unset).toArray = ls at hl ⊢
  have hl : lv_has ls 3 [(0, .ref e), (1, .int t), (2, .int s)] := hl
  have hin0 : ∀ w ∈ u_ws RX0 TX0 8, w ∈ wsX0_isOf := by decide +kernel
  refine lv_aload_n hx hb dX0_isOf_0 rfl (lv_at hl 0 rfl) ?_
  refine va_get (D := D) (ci := 0) (v := .int (nI ex)) (C := RX0) (T := TX0) (N := 8) hx hb hts hin0 hown hK hP 0 rfl rfl 3 (by decide) (hts (.fieldLink RX0 20 "EpochSifter$Epoch" "exists" "Z") (by decide +kernel)) (fun _ h9 => h9) rfl dX0_isOf_1 ?_
  refine rz_eq (tgt := 27) hx hb dX0_isOf_4 (by decide) (by omega) (fun c_4 => ?_) (fun c_4 => ?_)
  · skip
    refine lv_iconst (v := nI 0) hx hb dX0_isOf_27 (by decide) ?_
    exact W.zret (v := nI 0) hx hb hr (rfl) (fun tz htz hWz => ⟨_, rfl, by rw [tf_0 (fun z => by first | omega | exact c_12 z.2.1 | exact c_20 z.2.2)], htz⟩) (fun _ h => absurd h List.not_mem_nil) dX0_isOf_28
  · skip
    refine lv_aload_n hx hb dX0_isOf_7 rfl (lv_at hl 0 rfl) ?_
    refine va_get (D := D) (ci := 0) (v := .int tm) (C := RX0) (T := TX0) (N := 8) hx hb hts hin0 hown hK hP 0 rfl rfl 4 (by decide) (hts (.fieldLink RX0 24 "EpochSifter$Epoch" "time" "I") (by decide +kernel)) (fun _ h9 => h9) rfl dX0_isOf_8 ?_
    refine lv_iload_n hx hb dX0_isOf_11 rfl (lv_at hl 1 rfl) ?_
    refine lv_icmp_ne (tgt := 27) hx hb dX0_isOf_12 (by decide) (fun c_12 => ?_) (fun c_12 => ?_)
    · skip
      refine lv_iconst (v := nI 0) hx hb dX0_isOf_27 (by decide) ?_
      exact W.zret (v := nI 0) hx hb hr (rfl) (fun tz htz hWz => ⟨_, rfl, by rw [tf_0 (fun z => by first | omega | exact c_12 z.2.1 | exact c_20 z.2.2)], htz⟩) (fun _ h => absurd h List.not_mem_nil) dX0_isOf_28
    · skip
      refine lv_aload_n hx hb dX0_isOf_15 rfl (lv_at hl 0 rfl) ?_
      refine va_get (D := D) (ci := 0) (v := .int sn) (C := RX0) (T := TX0) (N := 8) hx hb hts hin0 hown hK hP 0 rfl rfl 5 (by decide) (hts (.fieldLink RX0 28 "EpochSifter$Epoch" "station" "I") (by decide +kernel)) (fun _ h9 => h9) rfl dX0_isOf_16 ?_
      refine lv_iload_n hx hb dX0_isOf_19 rfl (lv_at hl 2 rfl) ?_
      refine lv_icmp_ne (tgt := 27) hx hb dX0_isOf_20 (by decide) (fun c_20 => ?_) (fun c_20 => ?_)
      · skip
        refine lv_iconst (v := nI 0) hx hb dX0_isOf_27 (by decide) ?_
        exact W.zret (v := nI 0) hx hb hr (rfl) (fun tz htz hWz => ⟨_, rfl, by rw [tf_0 (fun z => by first | omega | exact c_12 z.2.1 | exact c_20 z.2.2)], htz⟩) (fun _ h => absurd h List.not_mem_nil) dX0_isOf_28
      · skip
        refine lv_iconst (v := nI 1) hx hb dX0_isOf_23 (by decide) ?_
        refine lv_goto (tgt := 28) hx hb dX0_isOf_24 (by decide) ?_
        exact W.zret (v := nI 1) hx hb hr (rfl) (fun tz htz hWz => ⟨_, rfl, by rw [tf_1 ⟨by omega, c_12, c_20⟩], htz⟩) (fun _ h => absurd h List.not_mem_nil) dX0_isOf_28
set_option maxHeartbeats 4000000 in
set_option maxRecDepth 100000 in
/-- an epoch begins -/
theorem c_X0_begin {zl : Launch} {D : va_G} {cI cD : ClassId} (e : Nat) (en : Nat) (er : Nat) (es : Nat) (ex : Nat) (tm : Int32) (sn : Int32) (z : Nat) (ob : Int32) (t : Int32) (s : Int32) : Cx zl yX0_begin wsX0_begin ({ frames := 0, cells := 0, slots := 0, locals := 0 }) D cI cD [.ref e, .int t, .int s] [(e, .inr (0, [.ref en, .ref er, .ref es, .int (nI ex), .int tm, .int sn, .int (nI z), .int ob]))] (fun v w1 => w1 = [(e, .inr (0, [.ref en, .ref er, .ref es, .int (nI 1), .int t, .int s, .int (nI 0), .int (nI 0)]))] ∧ v = none) := by
  refine Met.ofW (cc := cX0_begin) (maxL := 3) (ret := none) (by decide) rfl ?_
  intro zp ze zs zm zargs zb zt zc zs₁ B hml hv
  obtain ⟨rfl, hP, hK, hD0, hN⟩ := hv
  have hx := B.exec
  have hb := B.bytes
  have hr := B.returns
  have hts := atoms_spec (ws := wsX0_begin) B.pre
  have hown : zs.vm.findClass RX0 = some zm.cls := findClass_of_methodNamed B.named
  have hlocks := B.notSynchronized
  have hD := inW_self hD0
  have hS : va_S (inW [(e, .inr (0, [.ref en, .ref er, .ref es, .int (nI ex), .int tm, .int sn, .int (nI z), .int ob]))]) zs.heap zs.heap [] := va_S.rf
  have hl := lv_entry [.ref e, .int t, .int s] (n := 3) (Nat.le_of_ble_eq_true rfl)
  rw [lg_entry_eq]
  generalize (lg_sl [.ref e, .int t, .int s] ++ List.replicate (3 - (lg_sl [.ref e, .int t, .int s]).length) Slot.unset).toArray = ls at hl ⊢
  have hl : lv_has ls 3 [(0, .ref e), (1, .int t), (2, .int s)] := hl
  have hin0 : ∀ w ∈ u_ws RX0 TX0 8, w ∈ wsX0_begin := by decide +kernel
  refine lv_aload_n hx hb dX0_begin_0 rfl (lv_at hl 0 rfl) ?_
  refine lv_iconst (v := nI 1) hx hb dX0_begin_1 (by decide) ?_
  refine va_put (D := D) (ci := 0) (v := .int (nI 1)) (ty := .boolean) (C := RX0) (T := TX0) (N := 8) hx hb hts hin0 tyX0 tyX0_ok nmX0 hown hK hP hD hS 0 rfl rfl 3 (by decide) (hts (.fieldLink RX0 20 "EpochSifter$Epoch" "exists" "Z") (by decide +kernel)) (fun _ h9 => h9) rfl (by decide +kernel) (rfl) (rfl) (Nat.le_of_ble_eq_true rfl) dX0_begin_2 (fun H locs hP hD hS => ?_)
  have hP : va_P D vwCl [(e, .inr (0, [.ref en, .ref er, .ref es, .int (nI 1), .int tm, .int sn, .int (nI z), .int ob]))] _ := hP
  have hD : va_D (inW [(e, .inr (0, [.ref en, .ref er, .ref es, .int (nI ex), .int tm, .int sn, .int (nI z), .int ob]))]) [(e, .inr (0, [.ref en, .ref er, .ref es, .int (nI 1), .int tm, .int sn, .int (nI z), .int ob]))] := hD
  refine lv_aload_n hx hb dX0_begin_5 rfl (lv_at hl 0 rfl) ?_
  refine lv_iload_n hx hb dX0_begin_6 rfl (lv_at hl 1 rfl) ?_
  refine va_put (D := D) (ci := 0) (v := .int t) (ty := .int) (C := RX0) (T := TX0) (N := 8) hx hb hts hin0 tyX0 tyX0_ok nmX0 hown hK hP hD hS 0 rfl rfl 4 (by decide) (hts (.fieldLink RX0 24 "EpochSifter$Epoch" "time" "I") (by decide +kernel)) (fun _ h9 => h9) rfl (by decide +kernel) (rfl) (rfl) (Nat.le_of_ble_eq_true rfl) dX0_begin_7 (fun H locs hP hD hS => ?_)
  have hP : va_P D vwCl [(e, .inr (0, [.ref en, .ref er, .ref es, .int (nI 1), .int t, .int sn, .int (nI z), .int ob]))] _ := hP
  have hD : va_D (inW [(e, .inr (0, [.ref en, .ref er, .ref es, .int (nI ex), .int tm, .int sn, .int (nI z), .int ob]))]) [(e, .inr (0, [.ref en, .ref er, .ref es, .int (nI 1), .int t, .int sn, .int (nI z), .int ob]))] := hD
  refine lv_aload_n hx hb dX0_begin_10 rfl (lv_at hl 0 rfl) ?_
  refine lv_iload_n hx hb dX0_begin_11 rfl (lv_at hl 2 rfl) ?_
  refine va_put (D := D) (ci := 0) (v := .int s) (ty := .int) (C := RX0) (T := TX0) (N := 8) hx hb hts hin0 tyX0 tyX0_ok nmX0 hown hK hP hD hS 0 rfl rfl 5 (by decide) (hts (.fieldLink RX0 28 "EpochSifter$Epoch" "station" "I") (by decide +kernel)) (fun _ h9 => h9) rfl (by decide +kernel) (rfl) (rfl) (Nat.le_of_ble_eq_true rfl) dX0_begin_12 (fun H locs hP hD hS => ?_)
  have hP : va_P D vwCl [(e, .inr (0, [.ref en, .ref er, .ref es, .int (nI 1), .int t, .int s, .int (nI z), .int ob]))] _ := hP
  have hD : va_D (inW [(e, .inr (0, [.ref en, .ref er, .ref es, .int (nI ex), .int tm, .int sn, .int (nI z), .int ob]))]) [(e, .inr (0, [.ref en, .ref er, .ref es, .int (nI 1), .int t, .int s, .int (nI z), .int ob]))] := hD
  refine lv_aload_n hx hb dX0_begin_15 rfl (lv_at hl 0 rfl) ?_
  refine lv_iconst (v := nI 0) hx hb dX0_begin_16 (by decide) ?_
  refine va_put (D := D) (ci := 0) (v := .int (nI 0)) (ty := .int) (C := RX0) (T := TX0) (N := 8) hx hb hts hin0 tyX0 tyX0_ok nmX0 hown hK hP hD hS 0 rfl rfl 6 (by decide) (hts (.fieldLink RX0 31 "EpochSifter$Epoch" "size" "I") (by decide +kernel)) (fun _ h9 => h9) rfl (by decide +kernel) (rfl) (rfl) (Nat.le_of_ble_eq_true rfl) dX0_begin_17 (fun H locs hP hD hS => ?_)
  have hP : va_P D vwCl [(e, .inr (0, [.ref en, .ref er, .ref es, .int (nI 1), .int t, .int s, .int (nI 0), .int ob]))] _ := hP
  have hD : va_D (inW [(e, .inr (0, [.ref en, .ref er, .ref es, .int (nI ex), .int tm, .int sn, .int (nI z), .int ob]))]) [(e, .inr (0, [.ref en, .ref er, .ref es, .int (nI 1), .int t, .int s, .int (nI 0), .int ob]))] := hD
  refine lv_aload_n hx hb dX0_begin_20 rfl (lv_at hl 0 rfl) ?_
  refine lv_iconst (v := nI 0) hx hb dX0_begin_21 (by decide) ?_
  refine va_put (D := D) (ci := 0) (v := .int (nI 0)) (ty := .int) (C := RX0) (T := TX0) (N := 8) hx hb hts hin0 tyX0 tyX0_ok nmX0 hown hK hP hD hS 0 rfl rfl 7 (by decide) (hts (.fieldLink RX0 34 "EpochSifter$Epoch" "observations" "I") (by decide +kernel)) (fun _ h9 => h9) rfl (by decide +kernel) (rfl) (rfl) (Nat.le_of_ble_eq_true rfl) dX0_begin_22 (fun H locs hP hD hS => ?_)
  have hP : va_P D vwCl [(e, .inr (0, [.ref en, .ref er, .ref es, .int (nI 1), .int t, .int s, .int (nI 0), .int (nI 0)]))] _ := hP
  have hD : va_D (inW [(e, .inr (0, [.ref en, .ref er, .ref es, .int (nI ex), .int tm, .int sn, .int (nI z), .int ob]))]) [(e, .inr (0, [.ref en, .ref er, .ref es, .int (nI 1), .int t, .int s, .int (nI 0), .int (nI 0)]))] := hD
  exact W.vret hx hb hr (fun tz htz hWz => ⟨none, [(e, .inr (0, [.ref en, .ref er, .ref es, .int (nI 1), .int t, .int s, .int (nI 0), .int (nI 0)]))], rfl, ⟨rfl, rfl⟩, rfl, by rw [htz]; exact hP, hS.F htz⟩) (fun q h => hS.2.2 q h) dX0_begin_25
set_option maxHeartbeats 4000000 in
set_option maxRecDepth 100000 in
/-- a cell comes to an epoch -/
theorem c_X0_add {zl : Launch} {D : va_G} {cI cD : ClassId} (e : Nat) (en : Nat) (er : Nat) (es : Nat) (ex : Nat) (tm : Int32) (sn : Int32) (z : Nat) (ob : Int32) (fN : Nat → Int32) (fR : Nat → UInt64) (fS : Nat → Int32) (cs : List Ce) (nm : Int32) (rg : UInt64) (sg : Int32) (hE : RpE fN fR fS cs) (hz : cs.length = z) (hz40 : z ≤ 40) : Cx zl yX0_add wsX0_add ({ frames := 0, cells := 0, slots := 0, locals := 0 }) D cI cD [.ref e, .int nm, .double rg, .int sg] [(e, .inr (0, [.ref en, .ref er, .ref es, .int (nI ex), .int tm, .int sn, .int (nI z), .int ob])), (en, .inl (cI, 40, .inl fN)), (er, .inl (cD, 40, .inr (.inr (.inr (.inl fR))))), (es, .inl (cI, 40, .inl fS))] (fun v w1 => ∃ (zo : Nat), ∃ (fNo : Nat → Int32), ∃ (fRo : Nat → UInt64), ∃ (fSo : Nat → Int32), w1 = [(e, .inr (0, [.ref en, .ref er, .ref es, .int (nI ex), .int tm, .int sn, .int (nI zo), .int ob])), (en, .inl (cI, 40, .inl fNo)), (er, .inl (cD, 40, .inr (.inr (.inr (.inl fRo))))), (es, .inl (cI, 40, .inl fSo))] ∧ v = none ∧ RpE fNo fRo fSo (addc cs (nm, rg, sg)) ∧ (addc cs (nm, rg, sg)).length = zo) := by
  refine Met.ofW (cc := cX0_add) (maxL := 5) (ret := none) (by decide) rfl ?_
  intro zp ze zs zm zargs zb zt zc zs₁ B hml hv
  obtain ⟨rfl, hP, hK, hD0, hN⟩ := hv
  have hx := B.exec
  have hb := B.bytes
  have hr := B.returns
  have hts := atoms_spec (ws := wsX0_add) B.pre
  have hown : zs.vm.findClass RX0 = some zm.cls := findClass_of_methodNamed B.named
  have hlocks := B.notSynchronized
  have hD := inW_self hD0
  have hS : va_S (inW [(e, .inr (0, [.ref en, .ref er, .ref es, .int (nI ex), .int tm, .int sn, .int (nI z), .int ob])), (en, .inl (cI, 40, .inl fN)), (er, .inl (cD, 40, .inr (.inr (.inr (.inl fR))))), (es, .inl (cI, 40, .inl fS))]) zs.heap zs.heap [] := va_S.rf
  have hl := lv_entry [.ref e, .int nm, .double rg, .int sg] (n := 5) (Nat.le_of_ble_eq_true rfl)
  rw [lg_entry_eq]
  generalize (lg_sl [.ref e, .int nm, .double rg, .int sg] ++ List.replicate (5 - (lg_sl [.ref e, .int nm, .double rg, .int sg]).length) Slot.unset).toArray = ls at hl ⊢
  have hl : lv_has ls 5 [(0, .ref e), (1, .int nm), (2, .double rg), (4, .int sg)] := hl
  have hin0 : ∀ w ∈ u_ws RX0 TX0 8, w ∈ wsX0_add := by decide +kernel
  refine lv_aload_n hx hb dX0_add_0 rfl (lv_at hl 0 rfl) ?_
  refine va_get (D := D) (ci := 0) (v := .int (nI z)) (C := RX0) (T := TX0) (N := 8) hx hb hts hin0 hown hK hP 0 rfl rfl 6 (by decide) (hts (.fieldLink RX0 31 "EpochSifter$Epoch" "size" "I") (by decide +kernel)) (fun _ h9 => h9) rfl dX0_add_1 ?_
  refine lv_bipush (v := nI 40) hx hb dX0_add_4 (by decide) ?_
  refine rn_ge (tgt := 50) hx hb dX0_add_6 (by decide) (by omega) (by omega) (fun c_6 => ?_) (fun c_6 => ?_)
  · skip
    exact W.vret hx hb hr (fun tz htz hWz => ⟨none, [(e, .inr (0, [.ref en, .ref er, .ref es, .int (nI ex), .int tm, .int sn, .int (nI z), .int ob])), (en, .inl (cI, 40, .inl fN)), (er, .inl (cD, 40, .inr (.inr (.inr (.inl fR))))), (es, .inl (cI, 40, .inl fS))], rfl, ⟨_, _, _, _, rfl, rfl, by rw [addc_ge (by omega)]; exact hE, by rw [addc_ge (by omega)]; exact hz⟩, rfl, by rw [htz]; exact hP, hS.F htz⟩) (fun q h => hS.2.2 q h) dX0_add_50
  · skip
    refine lv_aload_n hx hb dX0_add_9 rfl (lv_at hl 0 rfl) ?_
    refine va_get (D := D) (ci := 0) (v := .ref en) (C := RX0) (T := TX0) (N := 8) hx hb hts hin0 hown hK hP 0 rfl rfl 0 (by decide) (hts (.fieldLink RX0 9 "EpochSifter$Epoch" "names" "[I") (by decide +kernel)) (fun _ h9 => h9) rfl dX0_add_10 ?_
    refine lv_aload_n hx hb dX0_add_13 rfl (lv_at hl 0 rfl) ?_
    refine va_get (D := D) (ci := 0) (v := .int (nI z)) (C := RX0) (T := TX0) (N := 8) hx hb hts hin0 hown hK hP 0 rfl rfl 6 (by decide) (hts (.fieldLink RX0 31 "EpochSifter$Epoch" "size" "I") (by decide +kernel)) (fun _ h9 => h9) rfl dX0_add_14 ?_
    refine lv_iload_n hx hb dX0_add_17 rfl (lv_at hl 1 rfl) ?_
    refine a_ist hx hb hK hP hD hS 1 0 rfl rfl (by omega) (by decide) dX0_add_18 (fun H locs hP hD hS => ?_)
    have hP : va_P D vwCl [(e, .inr (0, [.ref en, .ref er, .ref es, .int (nI ex), .int tm, .int sn, .int (nI z), .int ob])), (en, .inl (cI, 40, .inl (upd fN z nm))), (er, .inl (cD, 40, .inr (.inr (.inr (.inl fR))))), (es, .inl (cI, 40, .inl fS))] _ := hP
    have hD : va_D (inW [(e, .inr (0, [.ref en, .ref er, .ref es, .int (nI ex), .int tm, .int sn, .int (nI z), .int ob])), (en, .inl (cI, 40, .inl fN)), (er, .inl (cD, 40, .inr (.inr (.inr (.inl fR))))), (es, .inl (cI, 40, .inl fS))]) [(e, .inr (0, [.ref en, .ref er, .ref es, .int (nI ex), .int tm, .int sn, .int (nI z), .int ob])), (en, .inl (cI, 40, .inl (upd fN z nm))), (er, .inl (cD, 40, .inr (.inr (.inr (.inl fR))))), (es, .inl (cI, 40, .inl fS))] := hD
    refine lv_aload_n hx hb dX0_add_19 rfl (lv_at hl 0 rfl) ?_
    refine va_get (D := D) (ci := 0) (v := .ref er) (C := RX0) (T := TX0) (N := 8) hx hb hts hin0 hown hK hP 0 rfl rfl 1 (by decide) (hts (.fieldLink RX0 13 "EpochSifter$Epoch" "ranges" "[D") (by decide +kernel)) (fun _ h9 => h9) rfl dX0_add_20 ?_
    refine lv_aload_n hx hb dX0_add_23 rfl (lv_at hl 0 rfl) ?_
    refine va_get (D := D) (ci := 0) (v := .int (nI z)) (C := RX0) (T := TX0) (N := 8) hx hb hts hin0 hown hK hP 0 rfl rfl 6 (by decide) (hts (.fieldLink RX0 31 "EpochSifter$Epoch" "size" "I") (by decide +kernel)) (fun _ h9 => h9) rfl dX0_add_24 ?_
    refine lv_dload_n hx hb dX0_add_27 rfl (lv_at hl 2 rfl) ?_
    refine a_dst hx hb hK hP hD hS 2 1 rfl rfl (by omega) (by decide) dX0_add_28 (fun H locs hP hD hS => ?_)
    have hP : va_P D vwCl [(e, .inr (0, [.ref en, .ref er, .ref es, .int (nI ex), .int tm, .int sn, .int (nI z), .int ob])), (en, .inl (cI, 40, .inl (upd fN z nm))), (er, .inl (cD, 40, .inr (.inr (.inr (.inl (vf_upd fR z rg)))))), (es, .inl (cI, 40, .inl fS))] _ := hP
    have hD : va_D (inW [(e, .inr (0, [.ref en, .ref er, .ref es, .int (nI ex), .int tm, .int sn, .int (nI z), .int ob])), (en, .inl (cI, 40, .inl fN)), (er, .inl (cD, 40, .inr (.inr (.inr (.inl fR))))), (es, .inl (cI, 40, .inl fS))]) [(e, .inr (0, [.ref en, .ref er, .ref es, .int (nI ex), .int tm, .int sn, .int (nI z), .int ob])), (en, .inl (cI, 40, .inl (upd fN z nm))), (er, .inl (cD, 40, .inr (.inr (.inr (.inl (vf_upd fR z rg)))))), (es, .inl (cI, 40, .inl fS))] := hD
    refine lv_aload_n hx hb dX0_add_29 rfl (lv_at hl 0 rfl) ?_
    refine va_get (D := D) (ci := 0) (v := .ref es) (C := RX0) (T := TX0) (N := 8) hx hb hts hin0 hown hK hP 0 rfl rfl 2 (by decide) (hts (.fieldLink RX0 17 "EpochSifter$Epoch" "strengths" "[I") (by decide +kernel)) (fun _ h9 => h9) rfl dX0_add_30 ?_
    refine lv_aload_n hx hb dX0_add_33 rfl (lv_at hl 0 rfl) ?_
    refine va_get (D := D) (ci := 0) (v := .int (nI z)) (C := RX0) (T := TX0) (N := 8) hx hb hts hin0 hown hK hP 0 rfl rfl 6 (by decide) (hts (.fieldLink RX0 31 "EpochSifter$Epoch" "size" "I") (by decide +kernel)) (fun _ h9 => h9) rfl dX0_add_34 ?_
    refine lv_iload hx hb dX0_add_37 (lv_at hl 3 rfl) ?_
    refine a_ist hx hb hK hP hD hS 3 0 rfl rfl (by omega) (by decide) dX0_add_39 (fun H locs hP hD hS => ?_)
    have hP : va_P D vwCl [(e, .inr (0, [.ref en, .ref er, .ref es, .int (nI ex), .int tm, .int sn, .int (nI z), .int ob])), (en, .inl (cI, 40, .inl (upd fN z nm))), (er, .inl (cD, 40, .inr (.inr (.inr (.inl (vf_upd fR z rg)))))), (es, .inl (cI, 40, .inl (upd fS z sg)))] _ := hP
    have hD : va_D (inW [(e, .inr (0, [.ref en, .ref er, .ref es, .int (nI ex), .int tm, .int sn, .int (nI z), .int ob])), (en, .inl (cI, 40, .inl fN)), (er, .inl (cD, 40, .inr (.inr (.inr (.inl fR))))), (es, .inl (cI, 40, .inl fS))]) [(e, .inr (0, [.ref en, .ref er, .ref es, .int (nI ex), .int tm, .int sn, .int (nI z), .int ob])), (en, .inl (cI, 40, .inl (upd fN z nm))), (er, .inl (cD, 40, .inr (.inr (.inr (.inl (vf_upd fR z rg)))))), (es, .inl (cI, 40, .inl (upd fS z sg)))] := hD
    refine lv_aload_n hx hb dX0_add_40 rfl (lv_at hl 0 rfl) ?_
    refine lv_dup hx hb dX0_add_41 rfl ?_
    refine va_get (D := D) (ci := 0) (v := .int (nI z)) (C := RX0) (T := TX0) (N := 8) hx hb hts hin0 hown hK hP 0 rfl rfl 6 (by decide) (hts (.fieldLink RX0 31 "EpochSifter$Epoch" "size" "I") (by decide +kernel)) (fun _ h9 => h9) rfl dX0_add_42 ?_
    refine lv_iconst (v := nI 1) hx hb dX0_add_45 (by decide) ?_
    refine lv_iadd hx hb dX0_add_46 ?_
    refine r_i (v := nI (z + 1)) (nI_add _ _) ?_
    refine va_put (D := D) (ci := 0) (v := .int (nI (z + 1))) (ty := .int) (C := RX0) (T := TX0) (N := 8) hx hb hts hin0 tyX0 tyX0_ok nmX0 hown hK hP hD hS 0 rfl rfl 6 (by decide) (hts (.fieldLink RX0 31 "EpochSifter$Epoch" "size" "I") (by decide +kernel)) (fun _ h9 => h9) rfl (by decide +kernel) (rfl) (rfl) (Nat.le_of_ble_eq_true rfl) dX0_add_47 (fun H locs hP hD hS => ?_)
    have hP : va_P D vwCl [(e, .inr (0, [.ref en, .ref er, .ref es, .int (nI ex), .int tm, .int sn, .int (nI (z + 1)), .int ob])), (en, .inl (cI, 40, .inl (upd fN z nm))), (er, .inl (cD, 40, .inr (.inr (.inr (.inl (vf_upd fR z rg)))))), (es, .inl (cI, 40, .inl (upd fS z sg)))] _ := hP
    have hD : va_D (inW [(e, .inr (0, [.ref en, .ref er, .ref es, .int (nI ex), .int tm, .int sn, .int (nI z), .int ob])), (en, .inl (cI, 40, .inl fN)), (er, .inl (cD, 40, .inr (.inr (.inr (.inl fR))))), (es, .inl (cI, 40, .inl fS))]) [(e, .inr (0, [.ref en, .ref er, .ref es, .int (nI ex), .int tm, .int sn, .int (nI (z + 1)), .int ob])), (en, .inl (cI, 40, .inl (upd fN z nm))), (er, .inl (cD, 40, .inr (.inr (.inr (.inl (vf_upd fR z rg)))))), (es, .inl (cI, 40, .inl (upd fS z sg)))] := hD
    exact W.vret hx hb hr (fun tz htz hWz => ⟨none, [(e, .inr (0, [.ref en, .ref er, .ref es, .int (nI ex), .int tm, .int sn, .int (nI (z + 1)), .int ob])), (en, .inl (cI, 40, .inl (upd fN z nm))), (er, .inl (cD, 40, .inr (.inr (.inr (.inl (vf_upd fR z rg)))))), (es, .inl (cI, 40, .inl (upd fS z sg)))], rfl, ⟨_, _, _, _, rfl, rfl, by rw [addc_lt (by omega)]; have h := RpE.add hE nm rg sg; rw [hz] at h; exact h, by rw [addc_lt (by omega), List.length_append, hz]; rfl⟩, rfl, by rw [htz]; exact hP, hS.F htz⟩) (fun q h => hS.2.2 q h) dX0_add_50
set_option maxHeartbeats 4000000 in
set_option maxRecDepth 100000 in
/-- the latest epoch becomes the gathered one -/
theorem c_X0_become {zl : Launch} {D : va_G} {cI cD : ClassId} (e : Nat) (en : Nat) (er : Nat) (es : Nat) (ex : Nat) (tm : Int32) (sn : Int32) (z : Nat) (ob : Int32) (fN : Nat → Int32) (fR : Nat → UInt64) (fS : Nat → Int32) (e2 : Nat) (en2 : Nat) (er2 : Nat) (es2 : Nat) (ex2 : Nat) (tm2 : Int32) (sn2 : Int32) (z2 : Nat) (ob2 : Int32) (fN2 : Nat → Int32) (fR2 : Nat → UInt64) (fS2 : Nat → Int32) (cs2 : List Ce) (hE2 : RpE fN2 fR2 fS2 cs2) (hz2 : cs2.length = z2) (hz402 : z2 ≤ 40) : Cx zl yX0_become wsX0_become ({ frames := 1, cells := 0, slots := 0, locals := 24 }) D cI cD [.ref e, .ref e2] [(e, .inr (0, [.ref en, .ref er, .ref es, .int (nI ex), .int tm, .int sn, .int (nI z), .int ob])), (en, .inl (cI, 40, .inl fN)), (er, .inl (cD, 40, .inr (.inr (.inr (.inl fR))))), (es, .inl (cI, 40, .inl fS)), (e2, .inr (0, [.ref en2, .ref er2, .ref es2, .int (nI ex2), .int tm2, .int sn2, .int (nI z2), .int ob2])), (en2, .inl (cI, 40, .inl fN2)), (er2, .inl (cD, 40, .inr (.inr (.inr (.inl fR2))))), (es2, .inl (cI, 40, .inl fS2))] (fun v w1 => ∃ (fNo : Nat → Int32), ∃ (fRo : Nat → UInt64), ∃ (fSo : Nat → Int32), w1 = [(e, .inr (0, [.ref en, .ref er, .ref es, .int (nI 1), .int tm2, .int sn2, .int (nI z2), .int ob2])), (en, .inl (cI, 40, .inl fNo)), (er, .inl (cD, 40, .inr (.inr (.inr (.inl fRo))))), (es, .inl (cI, 40, .inl fSo)), (e2, .inr (0, [.ref en2, .ref er2, .ref es2, .int (nI ex2), .int tm2, .int sn2, .int (nI z2), .int ob2])), (en2, .inl (cI, 40, .inl fN2)), (er2, .inl (cD, 40, .inr (.inr (.inr (.inl fR2))))), (es2, .inl (cI, 40, .inl fS2))] ∧ v = none ∧ RpE fNo fRo fSo cs2) := by
  refine Met.ofW (cc := cX0_become) (maxL := 3) (ret := none) (by decide) rfl ?_
  intro zp ze zs zm zargs zb zt zc zs₁ B hml hv
  obtain ⟨rfl, hP, hK, hD0, hN⟩ := hv
  have hx := B.exec
  have hb := B.bytes
  have hr := B.returns
  have hts := atoms_spec (ws := wsX0_become) B.pre
  have hown : zs.vm.findClass RX0 = some zm.cls := findClass_of_methodNamed B.named
  have hlocks := B.notSynchronized
  have hD := inW_self hD0
  have hS : va_S (inW [(e, .inr (0, [.ref en, .ref er, .ref es, .int (nI ex), .int tm, .int sn, .int (nI z), .int ob])), (en, .inl (cI, 40, .inl fN)), (er, .inl (cD, 40, .inr (.inr (.inr (.inl fR))))), (es, .inl (cI, 40, .inl fS)), (e2, .inr (0, [.ref en2, .ref er2, .ref es2, .int (nI ex2), .int tm2, .int sn2, .int (nI z2), .int ob2])), (en2, .inl (cI, 40, .inl fN2)), (er2, .inl (cD, 40, .inr (.inr (.inr (.inl fR2))))), (es2, .inl (cI, 40, .inl fS2))]) zs.heap zs.heap [] := va_S.rf
  have hl := lv_entry [.ref e, .ref e2] (n := 3) (Nat.le_of_ble_eq_true rfl)
  rw [lg_entry_eq]
  generalize (lg_sl [.ref e, .ref e2] ++ List.replicate (3 - (lg_sl [.ref e, .ref e2]).length) Slot.unset).toArray = ls at hl ⊢
  have hl : lv_has ls 3 [(0, .ref e), (1, .ref e2)] := hl
  have hin0 : ∀ w ∈ u_ws RX0 TX0 8, w ∈ wsX0_become := by decide +kernel
  have cuts : ∀ fuel : Nat, (∀ (j : Nat), ∀ (fNj : Nat → Int32), ∀ (fRj : Nat → UInt64), ∀ (fSj : Nat → Int32), (j ≤ z2) → (RpE fNj fRj fSj (cs2.take j)) → (z2 - j) < fuel → ∀ (H : Heap) (locs : List Loc), va_P D vwCl [(e, .inr (0, [.ref en, .ref er, .ref es, .int (nI 1), .int tm2, .int sn2, .int (nI j), .int ob2])), (en, .inl (cI, 40, .inl fNj)), (er, .inl (cD, 40, .inr (.inr (.inr (.inl fRj))))), (es, .inl (cI, 40, .inl fSj)), (e2, .inr (0, [.ref en2, .ref er2, .ref es2, .int (nI ex2), .int tm2, .int sn2, .int (nI z2), .int ob2])), (en2, .inl (cI, 40, .inl fN2)), (er2, .inl (cD, 40, .inr (.inr (.inr (.inl fR2))))), (es2, .inl (cI, 40, .inl fS2))] H → va_D (inW [(e, .inr (0, [.ref en, .ref er, .ref es, .int (nI ex), .int tm, .int sn, .int (nI z), .int ob])), (en, .inl (cI, 40, .inl fN)), (er, .inl (cD, 40, .inr (.inr (.inr (.inl fR))))), (es, .inl (cI, 40, .inl fS)), (e2, .inr (0, [.ref en2, .ref er2, .ref es2, .int (nI ex2), .int tm2, .int sn2, .int (nI z2), .int ob2])), (en2, .inl (cI, 40, .inl fN2)), (er2, .inl (cD, 40, .inr (.inr (.inr (.inl fR2))))), (es2, .inl (cI, 40, .inl fS2))]) [(e, .inr (0, [.ref en, .ref er, .ref es, .int (nI 1), .int tm2, .int sn2, .int (nI j), .int ob2])), (en, .inl (cI, 40, .inl fNj)), (er, .inl (cD, 40, .inr (.inr (.inr (.inl fRj))))), (es, .inl (cI, 40, .inl fSj)), (e2, .inr (0, [.ref en2, .ref er2, .ref es2, .int (nI ex2), .int tm2, .int sn2, .int (nI z2), .int ob2])), (en2, .inl (cI, 40, .inl fN2)), (er2, .inl (cD, 40, .inr (.inr (.inr (.inl fR2))))), (es2, .inl (cI, 40, .inl fS2))] → va_S (inW [(e, .inr (0, [.ref en, .ref er, .ref es, .int (nI ex), .int tm, .int sn, .int (nI z), .int ob])), (en, .inl (cI, 40, .inl fN)), (er, .inl (cD, 40, .inr (.inr (.inr (.inl fR))))), (es, .inl (cI, 40, .inl fS)), (e2, .inr (0, [.ref en2, .ref er2, .ref es2, .int (nI ex2), .int tm2, .int sn2, .int (nI z2), .int ob2])), (en2, .inl (cI, 40, .inl fN2)), (er2, .inl (cD, 40, .inr (.inr (.inr (.inl fR2))))), (es2, .inl (cI, 40, .inl fS2))]) zs.heap H locs → ∀ (ls : Array Slot), lv_has ls 3 [(0, .ref e), (1, .ref e2), (2, .int (nI j))] → W zp zl ze ({ frames := 1, cells := 0, slots := 0, locals := 24 }) zs zm [.ref e, .ref e2].toArray zb zt zc H locs 0 0 (MQ zb (Xq D [(e, .inr (0, [.ref en, .ref er, .ref es, .int (nI ex), .int tm, .int sn, .int (nI z), .int ob])), (en, .inl (cI, 40, .inl fN)), (er, .inl (cD, 40, .inr (.inr (.inr (.inl fR))))), (es, .inl (cI, 40, .inl fS)), (e2, .inr (0, [.ref en2, .ref er2, .ref es2, .int (nI ex2), .int tm2, .int sn2, .int (nI z2), .int ob2])), (en2, .inl (cI, 40, .inl fN2)), (er2, .inl (cD, 40, .inr (.inr (.inr (.inl fR2))))), (es2, .inl (cI, 40, .inl fS2))] (fun v w1 => ∃ (fNo : Nat → Int32), ∃ (fRo : Nat → UInt64), ∃ (fSo : Nat → Int32), w1 = [(e, .inr (0, [.ref en, .ref er, .ref es, .int (nI 1), .int tm2, .int sn2, .int (nI z2), .int ob2])), (en, .inl (cI, 40, .inl fNo)), (er, .inl (cD, 40, .inr (.inr (.inr (.inl fRo))))), (es, .inl (cI, 40, .inl fSo)), (e2, .inr (0, [.ref en2, .ref er2, .ref es2, .int (nI ex2), .int tm2, .int sn2, .int (nI z2), .int ob2])), (en2, .inl (cI, 40, .inl fN2)), (er2, .inl (cD, 40, .inr (.inr (.inr (.inl fR2))))), (es2, .inl (cI, 40, .inl fS2))] ∧ v = none ∧ RpE fNo fRo fSo cs2)) [.ref e, .ref e2].toArray zs 0 0 (inW [(e, .inr (0, [.ref en, .ref er, .ref es, .int (nI ex), .int tm, .int sn, .int (nI z), .int ob])), (en, .inl (cI, 40, .inl fN)), (er, .inl (cD, 40, .inr (.inr (.inr (.inl fR))))), (es, .inl (cI, 40, .inl fS)), (e2, .inr (0, [.ref en2, .ref er2, .ref es2, .int (nI ex2), .int tm2, .int sn2, .int (nI z2), .int ob2])), (en2, .inl (cI, 40, .inl fN2)), (er2, .inl (cD, 40, .inr (.inr (.inr (.inl fR2))))), (es2, .inl (cI, 40, .inl fS2))])) (F0 zm 22 ls [])) := by
    intro fuel
    induction fuel with
    | zero => exact (by intros; exact absurd (by assumption) (Nat.not_lt_zero _))
    | succ fuel ih =>
      intro j fNj fRj fSj hj hEj hm H locs hP hD hS ls hl
      refine lv_iload_n hx hb dX0_become_22 rfl (lv_at hl 2 rfl) ?_
      refine lv_aload_n hx hb dX0_become_23 rfl (lv_at hl 1 rfl) ?_
      refine va_get (D := D) (ci := 0) (v := .int (nI z2)) (C := RX0) (T := TX0) (N := 8) hx hb hts hin0 hown hK hP 4 rfl rfl 6 (by decide) (hts (.fieldLink RX0 31 "EpochSifter$Epoch" "size" "I") (by decide +kernel)) (fun _ h9 => h9) rfl dX0_become_24 ?_
      refine rn_ge (tgt := 58) hx hb dX0_become_27 (by decide) (by omega) (by omega) (fun c_27 => ?_) (fun c_27 => ?_)
      · skip
        obtain rfl : j = z2 := by omega
        exact W.vret hx hb hr (fun tz htz hWz => ⟨none, [(e, .inr (0, [.ref en, .ref er, .ref es, .int (nI 1), .int tm2, .int sn2, .int (nI j), .int ob2])), (en, .inl (cI, 40, .inl fNj)), (er, .inl (cD, 40, .inr (.inr (.inr (.inl fRj))))), (es, .inl (cI, 40, .inl fSj)), (e2, .inr (0, [.ref en2, .ref er2, .ref es2, .int (nI ex2), .int tm2, .int sn2, .int (nI j), .int ob2])), (en2, .inl (cI, 40, .inl fN2)), (er2, .inl (cD, 40, .inr (.inr (.inr (.inl fR2))))), (es2, .inl (cI, 40, .inl fS2))], rfl, ⟨_, _, _, rfl, rfl, by have h := hEj; rw [List.take_of_length_le (by omega)] at h; exact h⟩, rfl, by rw [htz]; exact hP, hS.F htz⟩) (fun q h => hS.2.2 q h) dX0_become_58
      · skip
        refine lv_aload_n hx hb dX0_become_30 rfl (lv_at hl 0 rfl) ?_
        refine lv_aload_n hx hb dX0_become_31 rfl (lv_at hl 1 rfl) ?_
        refine va_get (D := D) (ci := 0) (v := .ref en2) (C := RX0) (T := TX0) (N := 8) hx hb hts hin0 hown hK hP 4 rfl rfl 0 (by decide) (hts (.fieldLink RX0 9 "EpochSifter$Epoch" "names" "[I") (by decide +kernel)) (fun _ h9 => h9) rfl dX0_become_32 ?_
        refine lv_iload_n hx hb dX0_become_35 rfl (lv_at hl 2 rfl) ?_
        refine a_ild (v := (cs2.getD j c0).1) hx hb hK hP 5 0 rfl rfl (by omega) (by decide) ((hE2 j (by omega)).1) dX0_become_36 ?_
        refine lv_aload_n hx hb dX0_become_37 rfl (lv_at hl 1 rfl) ?_
        refine va_get (D := D) (ci := 0) (v := .ref er2) (C := RX0) (T := TX0) (N := 8) hx hb hts hin0 hown hK hP 4 rfl rfl 1 (by decide) (hts (.fieldLink RX0 13 "EpochSifter$Epoch" "ranges" "[D") (by decide +kernel)) (fun _ h9 => h9) rfl dX0_become_38 ?_
        refine lv_iload_n hx hb dX0_become_41 rfl (lv_at hl 2 rfl) ?_
        refine a_dld (v := (cs2.getD j c0).2.1) hx hb hK hP 6 1 rfl rfl (by omega) (by decide) ((hE2 j (by omega)).2.1) dX0_become_42 ?_
        refine lv_aload_n hx hb dX0_become_43 rfl (lv_at hl 1 rfl) ?_
        refine va_get (D := D) (ci := 0) (v := .ref es2) (C := RX0) (T := TX0) (N := 8) hx hb hts hin0 hown hK hP 4 rfl rfl 2 (by decide) (hts (.fieldLink RX0 17 "EpochSifter$Epoch" "strengths" "[I") (by decide +kernel)) (fun _ h9 => h9) rfl dX0_become_44 ?_
        refine lv_iload_n hx hb dX0_become_47 rfl (lv_at hl 2 rfl) ?_
        refine a_ild (v := (cs2.getD j c0).2.2) hx hb hK hP 7 0 rfl rfl (by omega) (by decide) ((hE2 j (by omega)).2.2) dX0_become_48 ?_
        refine x_callV (As := [.int ((cs2.getD j c0).1), .double ((cs2.getD j c0).2.1), .int ((cs2.getD j c0).2.2)]) (rest := []) ⟨hx, hb, hml, hown, hts⟩ (c_X0_add (zl := zl) (D := D) (cI := cI) (cD := cD) e en er es 1 tm2 sn2 j ob2 fNj fRj fSj (cs2.take j) ((cs2.getD j c0).1) ((cs2.getD j c0).2.1) ((cs2.getD j c0).2.2) hEj (by rw [List.length_take]; omega) (by omega)) (cwV 3 hts gX0_become_X0_add rfl rfl rfl (by decide +kernel) ⟨Nat.le_of_ble_eq_true rfl, Nat.le_of_ble_eq_true rfl⟩) hK hN hP hD hS [0, 1, 2, 3] rfl rfl 0 rfl rfl rfl hl.1 rfl (Nat.le_of_ble_eq_true rfl) dX0_become_49 ⟨Nat.le_of_ble_eq_true rfl, Nat.le_of_ble_eq_true rfl⟩ (fun v_1 w_1 H locs hr_1 hP hD hS => ?_)
        obtain ⟨zk, fNk, fRk, fSk, rfl, rfl, hEk, hzk⟩ := hr_1
        refine W.eq (g2 := F0 zm 52 ls []) rfl ?_
        have hP : va_P D vwCl [(e, .inr (0, [.ref en, .ref er, .ref es, .int (nI 1), .int tm2, .int sn2, .int (nI zk), .int ob2])), (en, .inl (cI, 40, .inl fNk)), (er, .inl (cD, 40, .inr (.inr (.inr (.inl fRk))))), (es, .inl (cI, 40, .inl fSk)), (e2, .inr (0, [.ref en2, .ref er2, .ref es2, .int (nI ex2), .int tm2, .int sn2, .int (nI z2), .int ob2])), (en2, .inl (cI, 40, .inl fN2)), (er2, .inl (cD, 40, .inr (.inr (.inr (.inl fR2))))), (es2, .inl (cI, 40, .inl fS2))] _ := hP
        have hD : va_D (inW [(e, .inr (0, [.ref en, .ref er, .ref es, .int (nI ex), .int tm, .int sn, .int (nI z), .int ob])), (en, .inl (cI, 40, .inl fN)), (er, .inl (cD, 40, .inr (.inr (.inr (.inl fR))))), (es, .inl (cI, 40, .inl fS)), (e2, .inr (0, [.ref en2, .ref er2, .ref es2, .int (nI ex2), .int tm2, .int sn2, .int (nI z2), .int ob2])), (en2, .inl (cI, 40, .inl fN2)), (er2, .inl (cD, 40, .inr (.inr (.inr (.inl fR2))))), (es2, .inl (cI, 40, .inl fS2))]) [(e, .inr (0, [.ref en, .ref er, .ref es, .int (nI 1), .int tm2, .int sn2, .int (nI zk), .int ob2])), (en, .inl (cI, 40, .inl fNk)), (er, .inl (cD, 40, .inr (.inr (.inr (.inl fRk))))), (es, .inl (cI, 40, .inl fSk)), (e2, .inr (0, [.ref en2, .ref er2, .ref es2, .int (nI ex2), .int tm2, .int sn2, .int (nI z2), .int ob2])), (en2, .inl (cI, 40, .inl fN2)), (er2, .inl (cD, 40, .inr (.inr (.inr (.inl fR2))))), (es2, .inl (cI, 40, .inl fS2))] := hD
        rw [addc_take (by omega) (by omega)] at hEk hzk
        obtain rfl : j + 1 = zk := by rw [← hzk, List.length_take]; omega
        refine lv_iinc (v := nI (j + 1)) (lv' := [(2, .int (nI (j + 1))), (0, .ref e), (1, .ref e2)]) hx hb dX0_become_52 hl (k := 2) rfl (nI_add _ _) (by decide) rfl (fun ls hl => ?_)
        refine lv_goto (tgt := 22) hx hb dX0_become_55 (by decide) ?_
        exact ih (j + 1) fNk fRk fSk (by first | assumption | omega) hEk (by omega) _ _ hP hD hS ls (lv_sub hl [1, 2, 0] rfl)
  refine lv_aload_n hx hb dX0_become_0 rfl (lv_at hl 0 rfl) ?_
  refine lv_aload_n hx hb dX0_become_1 rfl (lv_at hl 1 rfl) ?_
  refine va_get (D := D) (ci := 0) (v := .int tm2) (C := RX0) (T := TX0) (N := 8) hx hb hts hin0 hown hK hP 4 rfl rfl 4 (by decide) (hts (.fieldLink RX0 24 "EpochSifter$Epoch" "time" "I") (by decide +kernel)) (fun _ h9 => h9) rfl dX0_become_2 ?_
  refine lv_aload_n hx hb dX0_become_5 rfl (lv_at hl 1 rfl) ?_
  refine va_get (D := D) (ci := 0) (v := .int sn2) (C := RX0) (T := TX0) (N := 8) hx hb hts hin0 hown hK hP 4 rfl rfl 5 (by decide) (hts (.fieldLink RX0 28 "EpochSifter$Epoch" "station" "I") (by decide +kernel)) (fun _ h9 => h9) rfl dX0_become_6 ?_
  refine x_callV (As := [.int tm2, .int sn2]) (rest := []) ⟨hx, hb, hml, hown, hts⟩ (c_X0_begin (zl := zl) (D := D) (cI := cI) (cD := cD) e en er es ex tm sn z ob tm2 sn2) (cwV 2 hts gX0_become_X0_begin rfl rfl rfl (by decide +kernel) ⟨Nat.le_of_ble_eq_true rfl, Nat.le_of_ble_eq_true rfl⟩) hK hN hP hD hS [0] rfl rfl 0 rfl rfl rfl hl.1 rfl (Nat.le_of_ble_eq_true rfl) dX0_become_9 ⟨Nat.le_of_ble_eq_true rfl, Nat.le_of_ble_eq_true rfl⟩ (fun v_2 w_2 H locs hr_2 hP hD hS => ?_)
  obtain ⟨rfl, rfl⟩ := hr_2
  refine W.eq (g2 := F0 zm 12 ls []) rfl ?_
  have hP : va_P D vwCl [(e, .inr (0, [.ref en, .ref er, .ref es, .int (nI 1), .int tm2, .int sn2, .int (nI 0), .int (nI 0)])), (en, .inl (cI, 40, .inl fN)), (er, .inl (cD, 40, .inr (.inr (.inr (.inl fR))))), (es, .inl (cI, 40, .inl fS)), (e2, .inr (0, [.ref en2, .ref er2, .ref es2, .int (nI ex2), .int tm2, .int sn2, .int (nI z2), .int ob2])), (en2, .inl (cI, 40, .inl fN2)), (er2, .inl (cD, 40, .inr (.inr (.inr (.inl fR2))))), (es2, .inl (cI, 40, .inl fS2))] _ := hP
  have hD : va_D (inW [(e, .inr (0, [.ref en, .ref er, .ref es, .int (nI ex), .int tm, .int sn, .int (nI z), .int ob])), (en, .inl (cI, 40, .inl fN)), (er, .inl (cD, 40, .inr (.inr (.inr (.inl fR))))), (es, .inl (cI, 40, .inl fS)), (e2, .inr (0, [.ref en2, .ref er2, .ref es2, .int (nI ex2), .int tm2, .int sn2, .int (nI z2), .int ob2])), (en2, .inl (cI, 40, .inl fN2)), (er2, .inl (cD, 40, .inr (.inr (.inr (.inl fR2))))), (es2, .inl (cI, 40, .inl fS2))]) [(e, .inr (0, [.ref en, .ref er, .ref es, .int (nI 1), .int tm2, .int sn2, .int (nI 0), .int (nI 0)])), (en, .inl (cI, 40, .inl fN)), (er, .inl (cD, 40, .inr (.inr (.inr (.inl fR))))), (es, .inl (cI, 40, .inl fS)), (e2, .inr (0, [.ref en2, .ref er2, .ref es2, .int (nI ex2), .int tm2, .int sn2, .int (nI z2), .int ob2])), (en2, .inl (cI, 40, .inl fN2)), (er2, .inl (cD, 40, .inr (.inr (.inr (.inl fR2))))), (es2, .inl (cI, 40, .inl fS2))] := hD
  refine lv_aload_n hx hb dX0_become_12 rfl (lv_at hl 0 rfl) ?_
  refine lv_aload_n hx hb dX0_become_13 rfl (lv_at hl 1 rfl) ?_
  refine va_get (D := D) (ci := 0) (v := .int ob2) (C := RX0) (T := TX0) (N := 8) hx hb hts hin0 hown hK hP 4 rfl rfl 7 (by decide) (hts (.fieldLink RX0 34 "EpochSifter$Epoch" "observations" "I") (by decide +kernel)) (fun _ h9 => h9) rfl dX0_become_14 ?_
  refine va_put (D := D) (ci := 0) (v := .int ob2) (ty := .int) (C := RX0) (T := TX0) (N := 8) hx hb hts hin0 tyX0 tyX0_ok nmX0 hown hK hP hD hS 0 rfl rfl 7 (by decide) (hts (.fieldLink RX0 34 "EpochSifter$Epoch" "observations" "I") (by decide +kernel)) (fun _ h9 => h9) rfl (by decide +kernel) (rfl) (rfl) (Nat.le_of_ble_eq_true rfl) dX0_become_17 (fun H locs hP hD hS => ?_)
  have hP : va_P D vwCl [(e, .inr (0, [.ref en, .ref er, .ref es, .int (nI 1), .int tm2, .int sn2, .int (nI 0), .int ob2])), (en, .inl (cI, 40, .inl fN)), (er, .inl (cD, 40, .inr (.inr (.inr (.inl fR))))), (es, .inl (cI, 40, .inl fS)), (e2, .inr (0, [.ref en2, .ref er2, .ref es2, .int (nI ex2), .int tm2, .int sn2, .int (nI z2), .int ob2])), (en2, .inl (cI, 40, .inl fN2)), (er2, .inl (cD, 40, .inr (.inr (.inr (.inl fR2))))), (es2, .inl (cI, 40, .inl fS2))] _ := hP
  have hD : va_D (inW [(e, .inr (0, [.ref en, .ref er, .ref es, .int (nI ex), .int tm, .int sn, .int (nI z), .int ob])), (en, .inl (cI, 40, .inl fN)), (er, .inl (cD, 40, .inr (.inr (.inr (.inl fR))))), (es, .inl (cI, 40, .inl fS)), (e2, .inr (0, [.ref en2, .ref er2, .ref es2, .int (nI ex2), .int tm2, .int sn2, .int (nI z2), .int ob2])), (en2, .inl (cI, 40, .inl fN2)), (er2, .inl (cD, 40, .inr (.inr (.inr (.inl fR2))))), (es2, .inl (cI, 40, .inl fS2))]) [(e, .inr (0, [.ref en, .ref er, .ref es, .int (nI 1), .int tm2, .int sn2, .int (nI 0), .int ob2])), (en, .inl (cI, 40, .inl fN)), (er, .inl (cD, 40, .inr (.inr (.inr (.inl fR))))), (es, .inl (cI, 40, .inl fS)), (e2, .inr (0, [.ref en2, .ref er2, .ref es2, .int (nI ex2), .int tm2, .int sn2, .int (nI z2), .int ob2])), (en2, .inl (cI, 40, .inl fN2)), (er2, .inl (cD, 40, .inr (.inr (.inr (.inl fR2))))), (es2, .inl (cI, 40, .inl fS2))] := hD
  refine lv_iconst (v := nI 0) hx hb dX0_become_20 (by decide) ?_
  refine lv_istore_n (lv' := [(2, .int (nI 0)), (0, .ref e), (1, .ref e2)]) hx hb dX0_become_21 rfl hl (by decide) rfl (fun ls hl => ?_)
  exact (cuts _) 0 fN fR fS (by first | assumption | omega) (RpE.nil _ _ _) (Nat.lt_succ_self _) _ _ hP hD hS ls (lv_sub hl [1, 2, 0] rfl)
set_option maxHeartbeats 4000000 in
set_option maxRecDepth 100000 in
/-- a cell of an epoch -/
theorem c_X0_holds {zl : Launch} {D : va_G} {cI cD : ClassId} (e : Nat) (en : Nat) (er : Nat) (es : Nat) (ex : Nat) (tm : Int32) (sn : Int32) (z : Nat) (ob : Int32) (k : Nat) (hz : z ≤ 40) (hk : k < 2 ^ 31) (hex : ex ≤ 1) : Ci zl yX0_holds wsX0_holds ({ frames := 0, cells := 0, slots := 0, locals := 0 }) D cI cD [.ref e, .int (nI k)] [(e, .inr (0, [.ref en, .ref er, .ref es, .int (nI ex), .int tm, .int sn, .int (nI z), .int ob]))] (fun r => r = nI (tf (ex = 1 ∧ k < z))) := by
  refine Met.ofW (cc := cX0_holds) (maxL := 2) (ret := (some .boolean)) (by decide) rfl ?_
  intro zp ze zs zm zargs zb zt zc zs₁ B hml hv
  obtain ⟨rfl, hP, hK, hD0, hN⟩ := hv
  have hx := B.exec
  have hb := B.bytes
  have hr := B.returns
  have hts := atoms_spec (ws := wsX0_holds) B.pre
  have hown : zs.vm.findClass RX0 = some zm.cls := findClass_of_methodNamed B.named
  have hlocks := B.notSynchronized
  have hD := inW_self hD0
  have hS : va_S (inW [(e, .inr (0, [.ref en, .ref er, .ref es, .int (nI ex), .int tm, .int sn, .int (nI z), .int ob]))]) zs.heap zs.heap [] := va_S.rf
  have hl := lv_entry [.ref e, .int (nI k)] (n := 2) (Nat.le_of_ble_eq_true rfl)
  rw [lg_entry_eq]
  generalize (lg_sl [.ref e, .int (nI k)] ++ List.replicate (2 - (lg_sl [.ref e, .int (nI k)]).length) Slot.unset).toArray = ls at hl ⊢
  have hl : lv_has ls 2 [(0, .ref e), (1, .int (nI k))] := hl
  have hin0 : ∀ w ∈ u_ws RX0 TX0 8, w ∈ wsX0_holds := by decide +kernel
  refine lv_aload_n hx hb dX0_holds_0 rfl (lv_at hl 0 rfl) ?_
  refine va_get (D := D) (ci := 0) (v := .int (nI ex)) (C := RX0) (T := TX0) (N := 8) hx hb hts hin0 hown hK hP 0 rfl rfl 3 (by decide) (hts (.fieldLink RX0 20 "EpochSifter$Epoch" "exists" "Z") (by decide +kernel)) (fun _ h9 => h9) rfl dX0_holds_1 ?_
  refine rz_eq (tgt := 23) hx hb dX0_holds_4 (by decide) (by omega) (fun c_4 => ?_) (fun c_4 => ?_)
  · skip
    refine lv_iconst (v := nI 0) hx hb dX0_holds_23 (by decide) ?_
    exact W.zret (v := nI 0) hx hb hr (rfl) (fun tz htz hWz => ⟨_, rfl, by rw [tf_0 (by omega)], htz⟩) (fun _ h => absurd h List.not_mem_nil) dX0_holds_24
  · skip
    refine lv_iload_n hx hb dX0_holds_7 rfl (lv_at hl 1 rfl) ?_
    refine rz_lt (tgt := 23) hx hb dX0_holds_8 (by decide) (by omega) ?_
    refine lv_iload_n hx hb dX0_holds_11 rfl (lv_at hl 1 rfl) ?_
    refine lv_aload_n hx hb dX0_holds_12 rfl (lv_at hl 0 rfl) ?_
    refine va_get (D := D) (ci := 0) (v := .int (nI z)) (C := RX0) (T := TX0) (N := 8) hx hb hts hin0 hown hK hP 0 rfl rfl 6 (by decide) (hts (.fieldLink RX0 31 "EpochSifter$Epoch" "size" "I") (by decide +kernel)) (fun _ h9 => h9) rfl dX0_holds_13 ?_
    refine rn_ge (tgt := 23) hx hb dX0_holds_16 (by decide) (by omega) (by omega) (fun c_16 => ?_) (fun c_16 => ?_)
    · skip
      refine lv_iconst (v := nI 0) hx hb dX0_holds_23 (by decide) ?_
      exact W.zret (v := nI 0) hx hb hr (rfl) (fun tz htz hWz => ⟨_, rfl, by rw [tf_0 (by omega)], htz⟩) (fun _ h => absurd h List.not_mem_nil) dX0_holds_24
    · skip
      refine lv_iconst (v := nI 1) hx hb dX0_holds_19 (by decide) ?_
      refine lv_goto (tgt := 24) hx hb dX0_holds_20 (by decide) ?_
      exact W.zret (v := nI 1) hx hb hr (rfl) (fun tz htz hWz => ⟨_, rfl, by rw [tf_1 ⟨by omega, by omega⟩], htz⟩) (fun _ h => absurd h List.not_mem_nil) dX0_holds_24
set_option maxHeartbeats 4000000 in
set_option maxRecDepth 100000 in
/-- no cell of an epoch -/
theorem c_X0_holds_no {zl : Launch} {D : va_G} {cI cD : ClassId} (e : Nat) (en : Nat) (er : Nat) (es : Nat) (ex : Nat) (tm : Int32) (sn : Int32) (z : Nat) (ob : Int32) (k : Int32) (hk : k < 0) : Ci zl yX0_holds wsX0_holds ({ frames := 0, cells := 0, slots := 0, locals := 0 }) D cI cD [.ref e, .int k] [(e, .inr (0, [.ref en, .ref er, .ref es, .int (nI ex), .int tm, .int sn, .int (nI z), .int ob]))] (fun r => r = nI 0) := by
  refine Met.ofW (cc := cX0_holds) (maxL := 2) (ret := (some .boolean)) (by decide) rfl ?_
  intro zp ze zs zm zargs zb zt zc zs₁ B hml hv
  obtain ⟨rfl, hP, hK, hD0, hN⟩ := hv
  have hx := B.exec
  have hb := B.bytes
  have hr := B.returns
  have hts := atoms_spec (ws := wsX0_holds) B.pre
  have hown : zs.vm.findClass RX0 = some zm.cls := findClass_of_methodNamed B.named
  have hlocks := B.notSynchronized
  have hD := inW_self hD0
  have hS : va_S (inW [(e, .inr (0, [.ref en, .ref er, .ref es, .int (nI ex), .int tm, .int sn, .int (nI z), .int ob]))]) zs.heap zs.heap [] := va_S.rf
  have hl := lv_entry [.ref e, .int k] (n := 2) (Nat.le_of_ble_eq_true rfl)
  rw [lg_entry_eq]
  generalize (lg_sl [.ref e, .int k] ++ List.replicate (2 - (lg_sl [.ref e, .int k]).length) Slot.unset).toArray = ls at hl ⊢
  have hl : lv_has ls 2 [(0, .ref e), (1, .int k)] := hl
  have hin0 : ∀ w ∈ u_ws RX0 TX0 8, w ∈ wsX0_holds := by decide +kernel
  refine lv_aload_n hx hb dX0_holds_0 rfl (lv_at hl 0 rfl) ?_
  refine va_get (D := D) (ci := 0) (v := .int (nI ex)) (C := RX0) (T := TX0) (N := 8) hx hb hts hin0 hown hK hP 0 rfl rfl 3 (by decide) (hts (.fieldLink RX0 20 "EpochSifter$Epoch" "exists" "Z") (by decide +kernel)) (fun _ h9 => h9) rfl dX0_holds_1 ?_
  refine lv_if_eq (tgt := 23) hx hb dX0_holds_4 (by decide) (fun c_4 => ?_) (fun c_4 => ?_)
  · skip
    refine lv_iconst (v := nI 0) hx hb dX0_holds_23 (by decide) ?_
    exact W.zret (v := nI 0) hx hb hr (rfl) (fun tz htz hWz => ⟨_, rfl, by first | rfl | assumption | omega | simp_all, htz⟩) (fun _ h => absurd h List.not_mem_nil) dX0_holds_24
  · skip
    refine lv_iload_n hx hb dX0_holds_7 rfl (lv_at hl 1 rfl) ?_
    refine lv_if_lt (tgt := 23) hx hb dX0_holds_8 (by decide) (fun c_8 => ?_) (fun c_8 => ?_)
    · skip
      refine lv_iconst (v := nI 0) hx hb dX0_holds_23 (by decide) ?_
      exact W.zret (v := nI 0) hx hb hr (rfl) (fun tz htz hWz => ⟨_, rfl, by first | rfl | assumption | omega | simp_all, htz⟩) (fun _ h => absurd h List.not_mem_nil) dX0_holds_24
    · exact absurd hk c_8
set_option maxHeartbeats 4000000 in
set_option maxRecDepth 100000 in
/-- the mean -/
theorem c_X0_meanRange {zl : Launch} {D : va_G} {cI cD : ClassId} (e : Nat) (en : Nat) (er : Nat) (es : Nat) (ex : Nat) (tm : Int32) (sn : Int32) (z : Nat) (ob : Int32) (fN : Nat → Int32) (fR : Nat → UInt64) (fS : Nat → Int32) (cs : List Ce) (hE : RpE fN fR fS cs) (hz : cs.length = z) (hz40 : z ≤ 40) (hF : FinC cs) : Cd zl yX0_meanRange wsX0_meanRange ({ frames := 0, cells := 0, slots := 0, locals := 0 }) D cI cD [.ref e] [(e, .inr (0, [.ref en, .ref er, .ref es, .int (nI ex), .int tm, .int sn, .int (nI z), .int ob])), (en, .inl (cI, 40, .inl fN)), (er, .inl (cD, 40, .inr (.inr (.inr (.inl fR))))), (es, .inl (cI, 40, .inl fS))] (fun r => r = mean cs) := by
  refine Met.ofW (cc := cX0_meanRange) (maxL := 5) (ret := (some .double)) (by decide) rfl ?_
  intro zp ze zs zm zargs zb zt zc zs₁ B hml hv
  obtain ⟨rfl, hP, hK, hD0, hN⟩ := hv
  have hx := B.exec
  have hb := B.bytes
  have hr := B.returns
  have hts := atoms_spec (ws := wsX0_meanRange) B.pre
  have hown : zs.vm.findClass RX0 = some zm.cls := findClass_of_methodNamed B.named
  have hlocks := B.notSynchronized
  have hD := inW_self hD0
  have hS : va_S (inW [(e, .inr (0, [.ref en, .ref er, .ref es, .int (nI ex), .int tm, .int sn, .int (nI z), .int ob])), (en, .inl (cI, 40, .inl fN)), (er, .inl (cD, 40, .inr (.inr (.inr (.inl fR))))), (es, .inl (cI, 40, .inl fS))]) zs.heap zs.heap [] := va_S.rf
  have hl := lv_entry [.ref e] (n := 5) (Nat.le_of_ble_eq_true rfl)
  rw [lg_entry_eq]
  generalize (lg_sl [.ref e] ++ List.replicate (5 - (lg_sl [.ref e]).length) Slot.unset).toArray = ls at hl ⊢
  have hl : lv_has ls 5 [(0, .ref e)] := hl
  have hin0 : ∀ w ∈ u_ws RX0 TX0 8, w ∈ wsX0_meanRange := by decide +kernel
  have cuts : ∀ fuel : Nat, (∀ (j : Nat), (j ≤ z) → (z - j) < fuel → ∀ (ls : Array Slot), lv_has ls 5 [(0, .ref e), (1, .double (msum cs j)), (3, .int (nI (mcnt cs j))), (4, .int (nI j))] → W zp zl ze ({ frames := 0, cells := 0, slots := 0, locals := 0 }) zs zm [.ref e].toArray zb zt zc zs.heap [] 0 0 (MQ zb (vp_Sd (fun r => r = mean cs)) [.ref e].toArray zs 0 0 (fun _ => False)) (F0 zm 7 ls [])) := by
    intro fuel
    induction fuel with
    | zero => exact (by intros; exact absurd (by assumption) (Nat.not_lt_zero _))
    | succ fuel ih =>
      intro j hj hm ls hl
      have qm := mcnt_le cs j
      refine lv_iload hx hb dX0_meanRange_7 (lv_at hl 3 rfl) ?_
      refine lv_aload_n hx hb dX0_meanRange_9 rfl (lv_at hl 0 rfl) ?_
      refine va_get (D := D) (ci := 0) (v := .int (nI z)) (C := RX0) (T := TX0) (N := 8) hx hb hts hin0 hown hK hP 0 rfl rfl 6 (by decide) (hts (.fieldLink RX0 31 "EpochSifter$Epoch" "size" "I") (by decide +kernel)) (fun _ h9 => h9) rfl dX0_meanRange_10 ?_
      refine rn_ge (tgt := 49) hx hb dX0_meanRange_13 (by decide) (by omega) (by omega) (fun c_13 => ?_) (fun c_13 => ?_)
      · skip
        obtain rfl : j = z := by omega
        refine lv_iload_n hx hb dX0_meanRange_49 rfl (lv_at hl 2 rfl) ?_
        refine rz_ne (tgt := 59) hx hb dX0_meanRange_50 (by decide) (by omega) (fun c_50 => ?_) (fun c_50 => ?_)
        · skip
          refine lv_dload_n hx hb dX0_meanRange_59 rfl (lv_at hl 1 rfl) ?_
          refine lv_iload_n hx hb dX0_meanRange_60 rfl (lv_at hl 2 rfl) ?_
          refine lv_i2d hx hb dX0_meanRange_61 ?_
          refine lv_ddiv hx hb dX0_meanRange_62 (vf_of (FP.Core.ddiv_out (msum_ok hF _) (FP.Core.i2d_fin _) (i2d_nz (by omega) (by omega)))) ?_
          exact W.dret (v := FP.ddiv (msum cs j) (FP.i2d (nI (mcnt cs j)))) hx hb hr (fun tz htz hWz => ⟨_, rfl, by unfold mean; rw [hz, if_neg c_50], htz⟩) (fun _ h => absurd h List.not_mem_nil) dX0_meanRange_63
        · skip
          refine lv_ldc2d (v := 13830554455654793216) hx hb hown (hts (.constantDouble RX0 45 (13830554455654793216)) (by decide +kernel)) dX0_meanRange_53 ?_
          refine lv_goto (tgt := 63) hx hb dX0_meanRange_56 (by decide) ?_
          exact W.dret (v := 13830554455654793216) hx hb hr (fun tz htz hWz => ⟨_, rfl, by unfold mean; rw [hz, if_pos c_50], htz⟩) (fun _ h => absurd h List.not_mem_nil) dX0_meanRange_63
      · skip
        refine lv_aload_n hx hb dX0_meanRange_16 rfl (lv_at hl 0 rfl) ?_
        refine va_get (D := D) (ci := 0) (v := .ref er) (C := RX0) (T := TX0) (N := 8) hx hb hts hin0 hown hK hP 0 rfl rfl 1 (by decide) (hts (.fieldLink RX0 13 "EpochSifter$Epoch" "ranges" "[D") (by decide +kernel)) (fun _ h9 => h9) rfl dX0_meanRange_17 ?_
        refine lv_iload hx hb dX0_meanRange_20 (lv_at hl 3 rfl) ?_
        refine a_dld (v := (cs.getD j c0).2.1) hx hb hK hP 2 1 rfl rfl (by omega) (by decide) ((hE j (by omega)).2.1) dX0_meanRange_22 ?_
        refine lv_ldc2d (v := 13830554455654793216) hx hb hown (hts (.constantDouble RX0 45 (13830554455654793216)) (by decide +kernel)) dX0_meanRange_23 ?_
        refine lv_dcmp hx hb dX0_meanRange_26 ?_
        refine lv_if_eq (tgt := 43) hx hb dX0_meanRange_27 (by decide) (fun c_27 => ?_) (fun c_27 => ?_)
        · skip
          have em : msum cs (j + 1) = msum cs j := by show (if okq _ = true then _ else _) = _; rw [okq_t (show isM _ from c_27)]; rfl
          have ec : mcnt cs (j + 1) = mcnt cs j := by show (if okq _ = true then _ else _) = _; rw [okq_t (show isM _ from c_27)]; rfl
          have el_1 : msum cs j = msum cs (j + 1) := em.symm
          have hl : lv_has ls 5 [(0, .ref e), (1, .double (msum cs (j + 1))), (3, .int (nI (mcnt cs j))), (4, .int (nI j))] := by rw [← el_1]; exact hl
          have el_2 : nI (mcnt cs j) = nI (mcnt cs (j + 1)) := by rw [ec]
          have hl : lv_has ls 5 [(0, .ref e), (1, .double (msum cs (j + 1))), (3, .int (nI (mcnt cs (j + 1)))), (4, .int (nI j))] := by rw [← el_2]; exact hl
          refine lv_iinc (v := nI (j + 1)) (lv' := [(4, .int (nI (j + 1))), (0, .ref e), (1, .double (msum cs (j + 1))), (3, .int (nI (mcnt cs (j + 1))))]) hx hb dX0_meanRange_43 hl (k := 3) rfl (nI_add _ _) (by decide) rfl (fun ls hl => ?_)
          refine lv_goto (tgt := 7) hx hb dX0_meanRange_46 (by decide) ?_
          exact ih (j + 1) (by first | assumption | omega) (by omega) ls (lv_sub hl [1, 2, 3, 0] rfl)
        · skip
          refine lv_dload_n hx hb dX0_meanRange_30 rfl (lv_at hl 1 rfl) ?_
          refine lv_aload_n hx hb dX0_meanRange_31 rfl (lv_at hl 0 rfl) ?_
          refine va_get (D := D) (ci := 0) (v := .ref er) (C := RX0) (T := TX0) (N := 8) hx hb hts hin0 hown hK hP 0 rfl rfl 1 (by decide) (hts (.fieldLink RX0 13 "EpochSifter$Epoch" "ranges" "[D") (by decide +kernel)) (fun _ h9 => h9) rfl dX0_meanRange_32 ?_
          refine lv_iload hx hb dX0_meanRange_35 (lv_at hl 3 rfl) ?_
          refine a_dld (v := (cs.getD j c0).2.1) hx hb hK hP 2 1 rfl rfl (by omega) (by decide) ((hE j (by omega)).2.1) dX0_meanRange_37 ?_
          refine lv_dadd hx hb dX0_meanRange_38 (vf_of (FP.Core.dadd_out (msum_ok hF j) (hF j))) ?_
          refine r_d (v := msum cs (j + 1)) (by show _ = if okq _ = true then _ else _; rw [okq_f (show ¬ isM _ from c_27)]; rfl) ?_
          refine lv_dstore_n (lv' := [(1, .double (msum cs (j + 1))), (0, .ref e), (3, .int (nI (mcnt cs j))), (4, .int (nI j))]) hx hb dX0_meanRange_39 rfl hl (by decide) rfl (fun ls hl => ?_)
          refine lv_iinc (v := nI (mcnt cs (j + 1))) (lv' := [(3, .int (nI (mcnt cs (j + 1)))), (1, .double (msum cs (j + 1))), (0, .ref e), (4, .int (nI j))]) hx hb dX0_meanRange_40 hl (k := 2) rfl (by rw [show mcnt cs (j + 1) = mcnt cs j + 1 from (by show (if okq _ = true then _ else _) = _; rw [okq_f (show ¬ isM _ from c_27)]; rfl)]; exact nI_add _ _) (by decide) rfl (fun ls hl => ?_)
          refine lv_iinc (v := nI (j + 1)) (lv' := [(4, .int (nI (j + 1))), (3, .int (nI (mcnt cs (j + 1)))), (1, .double (msum cs (j + 1))), (0, .ref e)]) hx hb dX0_meanRange_43 hl (k := 3) rfl (nI_add _ _) (by decide) rfl (fun ls hl => ?_)
          refine lv_goto (tgt := 7) hx hb dX0_meanRange_46 (by decide) ?_
          exact ih (j + 1) (by first | assumption | omega) (by omega) ls (lv_sub hl [3, 2, 1, 0] rfl)
  refine lv_dconst0 hx hb dX0_meanRange_0 ?_
  refine lv_dstore_n (lv' := [(1, .double FP.dconst0), (0, .ref e)]) hx hb dX0_meanRange_1 rfl hl (by decide) rfl (fun ls hl => ?_)
  refine lv_iconst (v := nI 0) hx hb dX0_meanRange_2 (by decide) ?_
  refine lv_istore_n (lv' := [(3, .int (nI 0)), (1, .double FP.dconst0), (0, .ref e)]) hx hb dX0_meanRange_3 rfl hl (by decide) rfl (fun ls hl => ?_)
  refine lv_iconst (v := nI 0) hx hb dX0_meanRange_4 (by decide) ?_
  refine lv_istore (lv' := [(4, .int (nI 0)), (3, .int (nI 0)), (1, .double FP.dconst0), (0, .ref e)]) hx hb dX0_meanRange_5 hl (by decide) rfl (fun ls hl => ?_)
  exact (cuts _) 0 (by first | assumption | omega) (Nat.lt_succ_self _) ls (lv_sub hl [3, 2, 1, 0] rfl)
set_option maxHeartbeats 4000000 in
set_option maxRecDepth 100000 in
/-- a position is read -/
theorem c_X2_read {zl : Launch} {D : va_G} {cI cD : ClassId} (q : Nat) (p0 : Int32) (p1 : Int32) (p2 : Int32) (p3 : Int32) (p4 : Int32) (a : Nat) (b : Nat) (n : Nat) (f : Nat → Int32) (bs : List Nat) (st : Nat) (hf : Rp f bs) (hbn : bs.length = n) (hn : n ≤ 140) (hB : By bs) (hst : st < 2 ^ 20) (hfx : 2 ≤ bs.getD (st + 4) 0 ∧ bs.getD (st + 4) 0 ≤ 4) : Cx zl yX2_read wsX2_read ({ frames := 2, cells := 0, slots := 0, locals := 42 }) D cI cD [.ref q, .ref a, .int (nI st)] [(q, .inr (2, [.int p0, .int p1, .int p2, .int p3, .int p4])), (a, .inr (3, [.ref b, .int (nI n)])), (b, .inl (cI, 140, .inl f))] (fun v w1 => w1 = [(q, .inr (2, [.int (nI (bs.getD (st + 4) 0)), .int (s4 bs st), .int (s4 bs (st + 5)), .int (s4 bs (st + 9)), .int (s4 bs (st + 13))])), (a, .inr (3, [.ref b, .int (nI n)])), (b, .inl (cI, 140, .inl f))] ∧ v = some (.int (nI 1))) := by
  refine Met.ofW (cc := cX2_read) (maxL := 4) (ret := (some .boolean)) (by decide) rfl ?_
  intro zp ze zs zm zargs zb zt zc zs₁ B hml hv
  obtain ⟨rfl, hP, hK, hD0, hN⟩ := hv
  have hx := B.exec
  have hb := B.bytes
  have hr := B.returns
  have hts := atoms_spec (ws := wsX2_read) B.pre
  have hown : zs.vm.findClass RX2 = some zm.cls := findClass_of_methodNamed B.named
  have hlocks := B.notSynchronized
  have hD := inW_self hD0
  have hS : va_S (inW [(q, .inr (2, [.int p0, .int p1, .int p2, .int p3, .int p4])), (a, .inr (3, [.ref b, .int (nI n)])), (b, .inl (cI, 140, .inl f))]) zs.heap zs.heap [] := va_S.rf
  have hl := lv_entry [.ref q, .ref a, .int (nI st)] (n := 4) (Nat.le_of_ble_eq_true rfl)
  rw [lg_entry_eq]
  generalize (lg_sl [.ref q, .ref a, .int (nI st)] ++ List.replicate (4 - (lg_sl [.ref q, .ref a, .int (nI st)]).length) Slot.unset).toArray = ls at hl ⊢
  have hl : lv_has ls 4 [(0, .ref q), (1, .ref a), (2, .int (nI st))] := hl
  have hin2 : ∀ w ∈ u_ws RX2 TX2 5, w ∈ wsX2_read := by decide +kernel
  refine lv_aload_n hx hb dX2_read_0 rfl (lv_at hl 1 rfl) ?_
  refine lv_iload_n hx hb dX2_read_1 rfl (lv_at hl 2 rfl) ?_
  refine lv_iconst (v := nI 4) hx hb dX2_read_2 (by decide) ?_
  refine lv_iadd hx hb dX2_read_3 ?_
  refine r_i (v := nI (st + 4)) (nI_add _ _) ?_
  refine r_callVi (As := [.int (nI (st + 4))]) (rest := []) ⟨hx, hb, hml, hown, hts⟩ (c_X3_at (zl := zl) (D := D) (cI := cI) (cD := cD) a b n f bs (st + 4) (by first | assumption | omega) (by first | assumption | omega) (by first | assumption | omega) (by first | assumption | omega)) (cwV 1 hts gX2_read_X3_at rfl rfl rfl (by decide +kernel) ⟨Nat.le_of_ble_eq_true rfl, Nat.le_of_ble_eq_true rfl⟩) hK hN hP hD [1, 2] rfl rfl 1 rfl rfl rfl hl.1 rfl (Nat.le_of_ble_eq_true rfl) dX2_read_4 ⟨Nat.le_of_ble_eq_true rfl, Nat.le_of_ble_eq_true rfl⟩ (fun r_1 h_1 => ?_)
  obtain rfl := h_1
  refine lv_istore_n (lv' := [(3, .int (nI (bs.getD (st + 4) 0))), (0, .ref q), (1, .ref a), (2, .int (nI st))]) hx hb dX2_read_7 rfl hl (by decide) rfl (fun ls hl => ?_)
  refine lv_iload_n hx hb dX2_read_8 rfl (lv_at hl 0 rfl) ?_
  refine lv_iconst (v := nI 2) hx hb dX2_read_9 (by decide) ?_
  refine rn_lt (tgt := 18) hx hb dX2_read_10 (by decide) (by omega) (by omega) (fun c_10 => ?_) (fun c_10 => ?_)
  · omega
  · skip
    refine lv_iload_n hx hb dX2_read_13 rfl (lv_at hl 0 rfl) ?_
    refine lv_iconst (v := nI 4) hx hb dX2_read_14 (by decide) ?_
    refine rn_le (tgt := 20) hx hb dX2_read_15 (by decide) (by omega) (by omega) (fun c_15 => ?_) (fun c_15 => ?_)
    · skip
      refine lv_aload_n hx hb dX2_read_20 rfl (lv_at hl 1 rfl) ?_
      refine lv_iload_n hx hb dX2_read_21 rfl (lv_at hl 0 rfl) ?_
      refine va_put (D := D) (ci := 2) (v := .int (nI (bs.getD (st + 4) 0))) (ty := .int) (C := RX2) (T := TX2) (N := 5) hx hb hts hin2 tyX2 tyX2_ok nmX2 hown hK hP hD hS 0 rfl rfl 0 (by decide) (hts (.fieldLink RX2 15 "EpochSifter$Position" "quality" "I") (by decide +kernel)) (fun _ h9 => h9) rfl (by decide +kernel) (rfl) (rfl) (Nat.le_of_ble_eq_true rfl) dX2_read_22 (fun H locs hP hD hS => ?_)
      have hP : va_P D vwCl [(q, .inr (2, [.int (nI (bs.getD (st + 4) 0)), .int p1, .int p2, .int p3, .int p4])), (a, .inr (3, [.ref b, .int (nI n)])), (b, .inl (cI, 140, .inl f))] _ := hP
      have hD : va_D (inW [(q, .inr (2, [.int p0, .int p1, .int p2, .int p3, .int p4])), (a, .inr (3, [.ref b, .int (nI n)])), (b, .inl (cI, 140, .inl f))]) [(q, .inr (2, [.int (nI (bs.getD (st + 4) 0)), .int p1, .int p2, .int p3, .int p4])), (a, .inr (3, [.ref b, .int (nI n)])), (b, .inl (cI, 140, .inl f))] := hD
      refine lv_aload_n hx hb dX2_read_25 rfl (lv_at hl 1 rfl) ?_
      refine lv_aload_n hx hb dX2_read_26 rfl (lv_at hl 2 rfl) ?_
      refine lv_iload_n hx hb dX2_read_27 rfl (lv_at hl 3 rfl) ?_
      refine r_callVi (As := [.int (nI st)]) (rest := [.ref q]) ⟨hx, hb, hml, hown, hts⟩ (c_X3_signedAt (zl := zl) (D := D) (cI := cI) (cD := cD) a b n f bs st (by first | assumption | omega) (by first | assumption | omega) (by first | assumption | omega) (by first | assumption | omega) (by first | assumption | omega)) (cwV 1 hts gX2_read_X3_signedAt rfl rfl rfl (by decide +kernel) ⟨Nat.le_of_ble_eq_true rfl, Nat.le_of_ble_eq_true rfl⟩) hK hN hP hD [1, 2] rfl rfl 1 rfl rfl rfl hl.1 rfl (Nat.le_of_ble_eq_true rfl) dX2_read_28 ⟨Nat.le_of_ble_eq_true rfl, Nat.le_of_ble_eq_true rfl⟩ (fun r_2 h_2 => ?_)
      obtain rfl := h_2
      refine va_put (D := D) (ci := 2) (v := .int (s4 bs st)) (ty := .int) (C := RX2) (T := TX2) (N := 5) hx hb hts hin2 tyX2 tyX2_ok nmX2 hown hK hP hD hS 0 rfl rfl 1 (by decide) (hts (.fieldLink RX2 22 "EpochSifter$Position" "time" "I") (by decide +kernel)) (fun _ h9 => h9) rfl (by decide +kernel) (rfl) (rfl) (Nat.le_of_ble_eq_true rfl) dX2_read_31 (fun H locs hP hD hS => ?_)
      have hP : va_P D vwCl [(q, .inr (2, [.int (nI (bs.getD (st + 4) 0)), .int (s4 bs st), .int p2, .int p3, .int p4])), (a, .inr (3, [.ref b, .int (nI n)])), (b, .inl (cI, 140, .inl f))] _ := hP
      have hD : va_D (inW [(q, .inr (2, [.int p0, .int p1, .int p2, .int p3, .int p4])), (a, .inr (3, [.ref b, .int (nI n)])), (b, .inl (cI, 140, .inl f))]) [(q, .inr (2, [.int (nI (bs.getD (st + 4) 0)), .int (s4 bs st), .int p2, .int p3, .int p4])), (a, .inr (3, [.ref b, .int (nI n)])), (b, .inl (cI, 140, .inl f))] := hD
      refine lv_aload_n hx hb dX2_read_34 rfl (lv_at hl 1 rfl) ?_
      refine lv_aload_n hx hb dX2_read_35 rfl (lv_at hl 2 rfl) ?_
      refine lv_iload_n hx hb dX2_read_36 rfl (lv_at hl 3 rfl) ?_
      refine lv_iconst (v := nI 5) hx hb dX2_read_37 (by decide) ?_
      refine lv_iadd hx hb dX2_read_38 ?_
      refine r_i (v := nI (st + 5)) (nI_add _ _) ?_
      refine r_callVi (As := [.int (nI (st + 5))]) (rest := [.ref q]) ⟨hx, hb, hml, hown, hts⟩ (c_X3_signedAt (zl := zl) (D := D) (cI := cI) (cD := cD) a b n f bs (st + 5) (by first | assumption | omega) (by first | assumption | omega) (by first | assumption | omega) (by first | assumption | omega) (by first | assumption | omega)) (cwV 1 hts gX2_read_X3_signedAt rfl rfl rfl (by decide +kernel) ⟨Nat.le_of_ble_eq_true rfl, Nat.le_of_ble_eq_true rfl⟩) hK hN hP hD [1, 2] rfl rfl 1 rfl rfl rfl hl.1 rfl (Nat.le_of_ble_eq_true rfl) dX2_read_39 ⟨Nat.le_of_ble_eq_true rfl, Nat.le_of_ble_eq_true rfl⟩ (fun r_3 h_3 => ?_)
      obtain rfl := h_3
      refine va_put (D := D) (ci := 2) (v := .int (s4 bs (st + 5))) (ty := .int) (C := RX2) (T := TX2) (N := 5) hx hb hts hin2 tyX2 tyX2_ok nmX2 hown hK hP hD hS 0 rfl rfl 2 (by decide) (hts (.fieldLink RX2 25 "EpochSifter$Position" "latitude" "I") (by decide +kernel)) (fun _ h9 => h9) rfl (by decide +kernel) (rfl) (rfl) (Nat.le_of_ble_eq_true rfl) dX2_read_42 (fun H locs hP hD hS => ?_)
      have hP : va_P D vwCl [(q, .inr (2, [.int (nI (bs.getD (st + 4) 0)), .int (s4 bs st), .int (s4 bs (st + 5)), .int p3, .int p4])), (a, .inr (3, [.ref b, .int (nI n)])), (b, .inl (cI, 140, .inl f))] _ := hP
      have hD : va_D (inW [(q, .inr (2, [.int p0, .int p1, .int p2, .int p3, .int p4])), (a, .inr (3, [.ref b, .int (nI n)])), (b, .inl (cI, 140, .inl f))]) [(q, .inr (2, [.int (nI (bs.getD (st + 4) 0)), .int (s4 bs st), .int (s4 bs (st + 5)), .int p3, .int p4])), (a, .inr (3, [.ref b, .int (nI n)])), (b, .inl (cI, 140, .inl f))] := hD
      refine lv_aload_n hx hb dX2_read_45 rfl (lv_at hl 1 rfl) ?_
      refine lv_aload_n hx hb dX2_read_46 rfl (lv_at hl 2 rfl) ?_
      refine lv_iload_n hx hb dX2_read_47 rfl (lv_at hl 3 rfl) ?_
      refine lv_bipush (v := nI 9) hx hb dX2_read_48 (by decide) ?_
      refine lv_iadd hx hb dX2_read_50 ?_
      refine r_i (v := nI (st + 9)) (nI_add _ _) ?_
      refine r_callVi (As := [.int (nI (st + 9))]) (rest := [.ref q]) ⟨hx, hb, hml, hown, hts⟩ (c_X3_signedAt (zl := zl) (D := D) (cI := cI) (cD := cD) a b n f bs (st + 9) (by first | assumption | omega) (by first | assumption | omega) (by first | assumption | omega) (by first | assumption | omega) (by first | assumption | omega)) (cwV 1 hts gX2_read_X3_signedAt rfl rfl rfl (by decide +kernel) ⟨Nat.le_of_ble_eq_true rfl, Nat.le_of_ble_eq_true rfl⟩) hK hN hP hD [1, 2] rfl rfl 1 rfl rfl rfl hl.1 rfl (Nat.le_of_ble_eq_true rfl) dX2_read_51 ⟨Nat.le_of_ble_eq_true rfl, Nat.le_of_ble_eq_true rfl⟩ (fun r_4 h_4 => ?_)
      obtain rfl := h_4
      refine va_put (D := D) (ci := 2) (v := .int (s4 bs (st + 9))) (ty := .int) (C := RX2) (T := TX2) (N := 5) hx hb hts hin2 tyX2 tyX2_ok nmX2 hown hK hP hD hS 0 rfl rfl 3 (by decide) (hts (.fieldLink RX2 28 "EpochSifter$Position" "longitude" "I") (by decide +kernel)) (fun _ h9 => h9) rfl (by decide +kernel) (rfl) (rfl) (Nat.le_of_ble_eq_true rfl) dX2_read_54 (fun H locs hP hD hS => ?_)
      have hP : va_P D vwCl [(q, .inr (2, [.int (nI (bs.getD (st + 4) 0)), .int (s4 bs st), .int (s4 bs (st + 5)), .int (s4 bs (st + 9)), .int p4])), (a, .inr (3, [.ref b, .int (nI n)])), (b, .inl (cI, 140, .inl f))] _ := hP
      have hD : va_D (inW [(q, .inr (2, [.int p0, .int p1, .int p2, .int p3, .int p4])), (a, .inr (3, [.ref b, .int (nI n)])), (b, .inl (cI, 140, .inl f))]) [(q, .inr (2, [.int (nI (bs.getD (st + 4) 0)), .int (s4 bs st), .int (s4 bs (st + 5)), .int (s4 bs (st + 9)), .int p4])), (a, .inr (3, [.ref b, .int (nI n)])), (b, .inl (cI, 140, .inl f))] := hD
      refine lv_aload_n hx hb dX2_read_57 rfl (lv_at hl 1 rfl) ?_
      refine lv_aload_n hx hb dX2_read_58 rfl (lv_at hl 2 rfl) ?_
      refine lv_iload_n hx hb dX2_read_59 rfl (lv_at hl 3 rfl) ?_
      refine lv_bipush (v := nI 13) hx hb dX2_read_60 (by decide) ?_
      refine lv_iadd hx hb dX2_read_62 ?_
      refine r_i (v := nI (st + 13)) (nI_add _ _) ?_
      refine r_callVi (As := [.int (nI (st + 13))]) (rest := [.ref q]) ⟨hx, hb, hml, hown, hts⟩ (c_X3_signedAt (zl := zl) (D := D) (cI := cI) (cD := cD) a b n f bs (st + 13) (by first | assumption | omega) (by first | assumption | omega) (by first | assumption | omega) (by first | assumption | omega) (by first | assumption | omega)) (cwV 1 hts gX2_read_X3_signedAt rfl rfl rfl (by decide +kernel) ⟨Nat.le_of_ble_eq_true rfl, Nat.le_of_ble_eq_true rfl⟩) hK hN hP hD [1, 2] rfl rfl 1 rfl rfl rfl hl.1 rfl (Nat.le_of_ble_eq_true rfl) dX2_read_63 ⟨Nat.le_of_ble_eq_true rfl, Nat.le_of_ble_eq_true rfl⟩ (fun r_5 h_5 => ?_)
      obtain rfl := h_5
      refine va_put (D := D) (ci := 2) (v := .int (s4 bs (st + 13))) (ty := .int) (C := RX2) (T := TX2) (N := 5) hx hb hts hin2 tyX2 tyX2_ok nmX2 hown hK hP hD hS 0 rfl rfl 4 (by decide) (hts (.fieldLink RX2 31 "EpochSifter$Position" "height" "I") (by decide +kernel)) (fun _ h9 => h9) rfl (by decide +kernel) (rfl) (rfl) (Nat.le_of_ble_eq_true rfl) dX2_read_66 (fun H locs hP hD hS => ?_)
      have hP : va_P D vwCl [(q, .inr (2, [.int (nI (bs.getD (st + 4) 0)), .int (s4 bs st), .int (s4 bs (st + 5)), .int (s4 bs (st + 9)), .int (s4 bs (st + 13))])), (a, .inr (3, [.ref b, .int (nI n)])), (b, .inl (cI, 140, .inl f))] _ := hP
      have hD : va_D (inW [(q, .inr (2, [.int p0, .int p1, .int p2, .int p3, .int p4])), (a, .inr (3, [.ref b, .int (nI n)])), (b, .inl (cI, 140, .inl f))]) [(q, .inr (2, [.int (nI (bs.getD (st + 4) 0)), .int (s4 bs st), .int (s4 bs (st + 5)), .int (s4 bs (st + 9)), .int (s4 bs (st + 13))])), (a, .inr (3, [.ref b, .int (nI n)])), (b, .inl (cI, 140, .inl f))] := hD
      refine lv_iconst (v := nI 1) hx hb dX2_read_69 (by decide) ?_
      exact W.zret (v := nI 1) hx hb hr (rfl) (fun tz htz hWz => ⟨some (.int (nI 1)), [(q, .inr (2, [.int (nI (bs.getD (st + 4) 0)), .int (s4 bs st), .int (s4 bs (st + 5)), .int (s4 bs (st + 9)), .int (s4 bs (st + 13))])), (a, .inr (3, [.ref b, .int (nI n)])), (b, .inl (cI, 140, .inl f))], rfl, ⟨rfl, rfl⟩, rfl, by rw [htz]; exact hP, hS.F htz⟩) (fun q h => hS.2.2 q h) dX2_read_70
    · omega
set_option maxHeartbeats 4000000 in
set_option maxRecDepth 100000 in
/-- no position -/
theorem c_X2_read_no {zl : Launch} {D : va_G} {cI cD : ClassId} (q : Nat) (p0 : Int32) (p1 : Int32) (p2 : Int32) (p3 : Int32) (p4 : Int32) (a : Nat) (b : Nat) (n : Nat) (f : Nat → Int32) (bs : List Nat) (st : Nat) (hf : Rp f bs) (hbn : bs.length = n) (hn : n ≤ 140) (hB : By bs) (hst : st < 2 ^ 20) (hfx : ¬ (2 ≤ bs.getD (st + 4) 0 ∧ bs.getD (st + 4) 0 ≤ 4)) : Cx zl yX2_read wsX2_read ({ frames := 2, cells := 0, slots := 0, locals := 42 }) D cI cD [.ref q, .ref a, .int (nI st)] [(q, .inr (2, [.int p0, .int p1, .int p2, .int p3, .int p4])), (a, .inr (3, [.ref b, .int (nI n)])), (b, .inl (cI, 140, .inl f))] (fun v w1 => w1 = [(q, .inr (2, [.int p0, .int p1, .int p2, .int p3, .int p4])), (a, .inr (3, [.ref b, .int (nI n)])), (b, .inl (cI, 140, .inl f))] ∧ v = some (.int (nI 0))) := by
  refine Met.ofW (cc := cX2_read) (maxL := 4) (ret := (some .boolean)) (by decide) rfl ?_
  intro zp ze zs zm zargs zb zt zc zs₁ B hml hv
  obtain ⟨rfl, hP, hK, hD0, hN⟩ := hv
  have hx := B.exec
  have hb := B.bytes
  have hr := B.returns
  have hts := atoms_spec (ws := wsX2_read) B.pre
  have hown : zs.vm.findClass RX2 = some zm.cls := findClass_of_methodNamed B.named
  have hlocks := B.notSynchronized
  have hD := inW_self hD0
  have hS : va_S (inW [(q, .inr (2, [.int p0, .int p1, .int p2, .int p3, .int p4])), (a, .inr (3, [.ref b, .int (nI n)])), (b, .inl (cI, 140, .inl f))]) zs.heap zs.heap [] := va_S.rf
  have hl := lv_entry [.ref q, .ref a, .int (nI st)] (n := 4) (Nat.le_of_ble_eq_true rfl)
  rw [lg_entry_eq]
  generalize (lg_sl [.ref q, .ref a, .int (nI st)] ++ List.replicate (4 - (lg_sl [.ref q, .ref a, .int (nI st)]).length) Slot.unset).toArray = ls at hl ⊢
  have hl : lv_has ls 4 [(0, .ref q), (1, .ref a), (2, .int (nI st))] := hl
  have z9 := hB (st + 4)
  refine lv_aload_n hx hb dX2_read_0 rfl (lv_at hl 1 rfl) ?_
  refine lv_iload_n hx hb dX2_read_1 rfl (lv_at hl 2 rfl) ?_
  refine lv_iconst (v := nI 4) hx hb dX2_read_2 (by decide) ?_
  refine lv_iadd hx hb dX2_read_3 ?_
  refine r_i (v := nI (st + 4)) (nI_add _ _) ?_
  refine r_callVi (As := [.int (nI (st + 4))]) (rest := []) ⟨hx, hb, hml, hown, hts⟩ (c_X3_at (zl := zl) (D := D) (cI := cI) (cD := cD) a b n f bs (st + 4) (by first | assumption | omega) (by first | assumption | omega) (by first | assumption | omega) (by first | assumption | omega)) (cwV 1 hts gX2_read_X3_at rfl rfl rfl (by decide +kernel) ⟨Nat.le_of_ble_eq_true rfl, Nat.le_of_ble_eq_true rfl⟩) hK hN hP hD [1, 2] rfl rfl 1 rfl rfl rfl hl.1 rfl (Nat.le_of_ble_eq_true rfl) dX2_read_4 ⟨Nat.le_of_ble_eq_true rfl, Nat.le_of_ble_eq_true rfl⟩ (fun r_1 h_1 => ?_)
  obtain rfl := h_1
  refine lv_istore_n (lv' := [(3, .int (nI (bs.getD (st + 4) 0))), (0, .ref q), (1, .ref a), (2, .int (nI st))]) hx hb dX2_read_7 rfl hl (by decide) rfl (fun ls hl => ?_)
  refine lv_iload_n hx hb dX2_read_8 rfl (lv_at hl 0 rfl) ?_
  refine lv_iconst (v := nI 2) hx hb dX2_read_9 (by decide) ?_
  refine rn_lt (tgt := 18) hx hb dX2_read_10 (by decide) (by omega) (by omega) (fun c_10 => ?_) (fun c_10 => ?_)
  · skip
    refine lv_iconst (v := nI 0) hx hb dX2_read_18 (by decide) ?_
    exact W.zret (v := nI 0) hx hb hr (rfl) (fun tz htz hWz => ⟨some (.int (nI 0)), [(q, .inr (2, [.int p0, .int p1, .int p2, .int p3, .int p4])), (a, .inr (3, [.ref b, .int (nI n)])), (b, .inl (cI, 140, .inl f))], rfl, ⟨rfl, rfl⟩, rfl, by rw [htz]; exact hP, hS.F htz⟩) (fun q h => hS.2.2 q h) dX2_read_19
  · skip
    refine lv_iload_n hx hb dX2_read_13 rfl (lv_at hl 0 rfl) ?_
    refine lv_iconst (v := nI 4) hx hb dX2_read_14 (by decide) ?_
    refine rn_le (tgt := 20) hx hb dX2_read_15 (by decide) (by omega) (by omega) (fun c_15 => ?_) (fun c_15 => ?_)
    · omega
    · skip
      refine lv_iconst (v := nI 0) hx hb dX2_read_18 (by decide) ?_
      exact W.zret (v := nI 0) hx hb hr (rfl) (fun tz htz hWz => ⟨some (.int (nI 0)), [(q, .inr (2, [.int p0, .int p1, .int p2, .int p3, .int p4])), (a, .inr (3, [.ref b, .int (nI n)])), (b, .inl (cI, 140, .inl f))], rfl, ⟨rfl, rfl⟩, rfl, by rw [htz]; exact hP, hS.F htz⟩) (fun q h => hS.2.2 q h) dX2_read_19
