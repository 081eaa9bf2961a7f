set_option maxHeartbeats 4000000 in
set_option maxRecDepth 100000 in
/-- one byte on in a long frame's check -/
theorem c_X4_checkAfter {zl : Launch} {D : va_G} {cI cD : ClassId} (c : Nat) (o : Nat) (hc : c < 16777216) (ho : o < 256) : Ci zl yX4_checkAfter wsX4_checkAfter ({ frames := 0, cells := 0, slots := 0, locals := 0 }) D cI cD [.int (nI c), .int (nI o)] [] (fun r => r = nI (ckB c o)) := by
  refine Met.ofW (cc := cX4_checkAfter) (maxL := 4) (ret := (some .int)) (by decide) rfl ?_
  intro zp ze zs zm zargs zb zt zc zs₁ B hml hv
  obtain ⟨rfl, hP, hK, hD0, hN⟩ := hv
  have hx := B.exec
  have hb := B.bytes
  have hr := B.returns
  have hts := atoms_spec (ws := wsX4_checkAfter) B.pre
  have hown : zs.vm.findClass RX4 = some zm.cls := findClass_of_methodNamed B.named
  have hlocks := B.notSynchronized
  have hD := inW_self hD0
  have hS : va_S (inW []) zs.heap zs.heap [] := va_S.rf
  have hl := lv_entry [.int (nI c), .int (nI o)] (n := 4) (Nat.le_of_ble_eq_true rfl)
  rw [lg_entry_eq]
  generalize (lg_sl [.int (nI c), .int (nI o)] ++ List.replicate (4 - (lg_sl [.int (nI c), .int (nI o)]).length) Slot.unset).toArray = ls at hl ⊢
  have hl : lv_has ls 4 [(0, .int (nI c)), (1, .int (nI o))] := hl
  have cuts : ∀ fuel : Nat, (∀ (k : Nat), (k ≤ 8) → (8 - k) < fuel → ∀ (ls : Array Slot), lv_has ls 4 [(2, .int (nI (ckI k (c ^^^ (o * 65536))))), (3, .int (nI k))] → W zp zl ze ({ frames := 0, cells := 0, slots := 0, locals := 0 }) zs zm [.int (nI c), .int (nI o)].toArray zb zt zc zs.heap [] 0 0 (MQ zb (vp_Si (fun r => r = nI (ckB c o))) [.int (nI c), .int (nI o)].toArray zs 0 0 (fun _ => False)) (F0 zm 9 ls [])) := by
    intro fuel
    induction fuel with
    | zero => exact (by intros; exact absurd (by assumption) (Nat.not_lt_zero _))
    | succ fuel ih =>
      intro k hk hm ls hl
      have hz : ckI k (c ^^^ (o * 65536)) < 16777216 := ckI_lt k (xin_lt hc ho)
      refine lv_iload_n hx hb dX4_checkAfter_9 rfl (lv_at hl 1 rfl) ?_
      refine lv_bipush (v := nI 8) hx hb dX4_checkAfter_10 (by decide) ?_
      refine rn_ge (tgt := 37) hx hb dX4_checkAfter_12 (by decide) (by omega) (by omega) (fun c_12 => ?_) (fun c_12 => ?_)
      · skip
        refine lv_iload_n hx hb dX4_checkAfter_37 rfl (lv_at hl 0 rfl) ?_
        exact W.iret (v := nI (ckI k (c ^^^ (o * 65536)))) hx hb hr (fun tz htz hWz => ⟨_, rfl, by have e : k = 8 := (by omega); subst e; rfl, htz⟩) (fun _ h => absurd h List.not_mem_nil) dX4_checkAfter_38
      · skip
        refine lv_iconst (v := nI 2) hx hb dX4_checkAfter_15 (by decide) ?_
        refine lv_iload_n hx hb dX4_checkAfter_16 rfl (lv_at hl 0 rfl) ?_
        refine lv_imul hx hb dX4_checkAfter_17 ?_
        refine r_i (v := nI (2 * (ckI k (c ^^^ (o * 65536))))) (pk_mul _ _) ?_
        refine lv_istore_n (lv' := [(2, .int (nI (2 * (ckI k (c ^^^ (o * 65536)))))), (3, .int (nI k))]) hx hb dX4_checkAfter_18 rfl hl (by decide) rfl (fun ls hl => ?_)
        refine lv_iload_n hx hb dX4_checkAfter_19 rfl (lv_at hl 0 rfl) ?_
        refine lv_ldc (v := 16777216) hx hb hown (hts (.constant RX4 126 (16777216)) (by decide +kernel)) dX4_checkAfter_20 ?_
        refine r_i (v := nI 16777216) (by decide) ?_
        refine lv_iand hx hb dX4_checkAfter_22 ?_
        refine r_i (v := nI (16777216 * (2 * (ckI k (c ^^^ (o * 65536))) / 16777216))) ((nx_and _ _).trans (congrArg nI (and24 (by omega)))) ?_
        refine rz_eq (tgt := 31) hx hb dX4_checkAfter_23 (by decide) (by omega) (fun c_23 => ?_) (fun c_23 => ?_)
        · skip
          have el_1 : nI (2 * (ckI k (c ^^^ (o * 65536)))) = nI (ckI (k + 1) (c ^^^ (o * 65536))) := congrArg nI (by show _ = ckS _; unfold ckS; rw [if_neg (by omega)])
          have hl : lv_has ls 4 [(2, .int (nI (ckI (k + 1) (c ^^^ (o * 65536))))), (3, .int (nI k))] := by rw [← el_1]; exact hl
          refine lv_iinc (v := nI (k + 1)) (lv' := [(3, .int (nI (k + 1))), (2, .int (nI (ckI (k + 1) (c ^^^ (o * 65536)))))]) hx hb dX4_checkAfter_31 hl (k := 1) rfl (nI_add _ _) (by decide) rfl (fun ls hl => ?_)
          refine lv_goto (tgt := 9) hx hb dX4_checkAfter_34 (by decide) ?_
          exact ih (k + 1) (by omega) (by omega) ls (lv_sub hl [1, 0] rfl)
        · skip
          refine lv_iload_n hx hb dX4_checkAfter_26 rfl (lv_at hl 0 rfl) ?_
          refine lv_ldc (v := 25578747) hx hb hown (hts (.constant RX4 127 (25578747)) (by decide +kernel)) dX4_checkAfter_27 ?_
          refine r_i (v := nI 25578747) (by decide) ?_
          refine lv_ixor hx hb dX4_checkAfter_29 ?_
          refine r_i (v := nI ((2 * (ckI k (c ^^^ (o * 65536)))) ^^^ 25578747)) (nx_xor _ _) ?_
          refine r_i (v := nI (ckI (k + 1) (c ^^^ (o * 65536)))) (congrArg nI (by show _ = ckS _; unfold ckS; rw [if_pos (by omega)])) ?_
          refine lv_istore_n (lv' := [(2, .int (nI (ckI (k + 1) (c ^^^ (o * 65536))))), (3, .int (nI k))]) hx hb dX4_checkAfter_30 rfl hl (by decide) rfl (fun ls hl => ?_)
          refine lv_iinc (v := nI (k + 1)) (lv' := [(3, .int (nI (k + 1))), (2, .int (nI (ckI (k + 1) (c ^^^ (o * 65536)))))]) hx hb dX4_checkAfter_31 hl (k := 1) rfl (nI_add _ _) (by decide) rfl (fun ls hl => ?_)
          refine lv_goto (tgt := 9) hx hb dX4_checkAfter_34 (by decide) ?_
          exact ih (k + 1) (by omega) (by omega) ls (lv_sub hl [1, 0] rfl)
  refine lv_iload_n hx hb dX4_checkAfter_0 rfl (lv_at hl 0 rfl) ?_
  refine lv_iload_n hx hb dX4_checkAfter_1 rfl (lv_at hl 1 rfl) ?_
  refine lv_bipush (v := nI 16) hx hb dX4_checkAfter_2 (by decide) ?_
  refine lv_ishl hx hb dX4_checkAfter_4 ?_
  refine r_i (v := nI (o * 65536)) (pk_shlN _ 16 (by decide) (by omega)) ?_
  refine lv_ixor hx hb dX4_checkAfter_5 ?_
  refine r_i (v := nI (c ^^^ (o * 65536))) (nx_xor _ _) ?_
  refine lv_istore_n (lv' := [(2, .int (nI (c ^^^ (o * 65536)))), (0, .int (nI c)), (1, .int (nI o))]) hx hb dX4_checkAfter_6 rfl hl (by decide) rfl (fun ls hl => ?_)
  refine lv_iconst (v := nI 0) hx hb dX4_checkAfter_7 (by decide) ?_
  refine lv_istore_n (lv' := [(3, .int (nI 0)), (2, .int (nI (c ^^^ (o * 65536)))), (0, .int (nI c)), (1, .int (nI o))]) hx hb dX4_checkAfter_8 rfl hl (by decide) rfl (fun ls hl => ?_)
  exact (cuts _) 0 (by omega) (Nat.lt_succ_self _) ls (lv_sub hl [1, 0] rfl)
set_option maxHeartbeats 4000000 in
set_option maxRecDepth 100000 in
/-- a right number of bytes -/
theorem c_X4_isByteCount {zl : Launch} {D : va_G} {cI cD : ClassId} (k : Nat) (hk : 1 ≤ k ∧ k ≤ 4) : Ci zl yX4_isByteCount wsX4_isByteCount ({ frames := 0, cells := 0, slots := 0, locals := 0 }) D cI cD [.int (nI k)] [] (fun r => r = nI 1) := by
  refine Met.ofW (cc := cX4_isByteCount) (maxL := 1) (ret := (some .boolean)) (by decide) rfl ?_
  intro zp ze zs zm zargs zb zt zc zs₁ B hml hv
  obtain ⟨rfl, hP, hK, hD0, hN⟩ := hv
  have hx := B.exec
  have hb := B.bytes
  have hr := B.returns
  have hts := atoms_spec (ws := wsX4_isByteCount) B.pre
  have hown : zs.vm.findClass RX4 = some zm.cls := findClass_of_methodNamed B.named
  have hlocks := B.notSynchronized
  have hD := inW_self hD0
  have hS : va_S (inW []) zs.heap zs.heap [] := va_S.rf
  have hl := lv_entry [.int (nI k)] (n := 1) (Nat.le_of_ble_eq_true rfl)
  rw [lg_entry_eq]
  generalize (lg_sl [.int (nI k)] ++ List.replicate (1 - (lg_sl [.int (nI k)]).length) Slot.unset).toArray = ls at hl ⊢
  have hl : lv_has ls 1 [(0, .int (nI k))] := hl
  refine lv_iload_n hx hb dX4_isByteCount_0 rfl (lv_at hl 0 rfl) ?_
  refine lv_iconst (v := nI 1) hx hb dX4_isByteCount_1 (by decide) ?_
  refine rn_lt (tgt := 14) hx hb dX4_isByteCount_2 (by decide) (by omega) (by omega) (fun c_2 => ?_) (fun c_2 => ?_)
  · omega
  · skip
    refine lv_iload_n hx hb dX4_isByteCount_5 rfl (lv_at hl 0 rfl) ?_
    refine lv_iconst (v := nI 4) hx hb dX4_isByteCount_6 (by decide) ?_
    refine rn_gt (tgt := 14) hx hb dX4_isByteCount_7 (by decide) (by omega) (by omega) (fun c_7 => ?_) (fun c_7 => ?_)
    · omega
    · skip
      refine lv_iconst (v := nI 1) hx hb dX4_isByteCount_10 (by decide) ?_
      refine lv_goto (tgt := 15) hx hb dX4_isByteCount_11 (by decide) ?_
      exact W.zret (v := nI 1) hx hb hr (rfl) (fun tz htz hWz => ⟨_, rfl, by first | rfl | assumption | omega | simp_all, htz⟩) (fun _ h => absurd h List.not_mem_nil) dX4_isByteCount_15
set_option maxHeartbeats 4000000 in
set_option maxRecDepth 100000 in
/-- a wrong number of bytes -/
theorem c_X4_isByteCount_no {zl : Launch} {D : va_G} {cI cD : ClassId} (n : Int32) (hn : n < nI 1 ∨ nI 4 < n) : Ci zl yX4_isByteCount wsX4_isByteCount ({ frames := 0, cells := 0, slots := 0, locals := 0 }) D cI cD [.int n] [] (fun r => r = nI 0) := by
  refine Met.ofW (cc := cX4_isByteCount) (maxL := 1) (ret := (some .boolean)) (by decide) rfl ?_
  intro zp ze zs zm zargs zb zt zc zs₁ B hml hv
  obtain ⟨rfl, hP, hK, hD0, hN⟩ := hv
  have hx := B.exec
  have hb := B.bytes
  have hr := B.returns
  have hts := atoms_spec (ws := wsX4_isByteCount) B.pre
  have hown : zs.vm.findClass RX4 = some zm.cls := findClass_of_methodNamed B.named
  have hlocks := B.notSynchronized
  have hD := inW_self hD0
  have hS : va_S (inW []) zs.heap zs.heap [] := va_S.rf
  have hl := lv_entry [.int n] (n := 1) (Nat.le_of_ble_eq_true rfl)
  rw [lg_entry_eq]
  generalize (lg_sl [.int n] ++ List.replicate (1 - (lg_sl [.int n]).length) Slot.unset).toArray = ls at hl ⊢
  have hl : lv_has ls 1 [(0, .int n)] := hl
  refine lv_iload_n hx hb dX4_isByteCount_0 rfl (lv_at hl 0 rfl) ?_
  refine lv_iconst (v := nI 1) hx hb dX4_isByteCount_1 (by decide) ?_
  refine lv_icmp_lt (tgt := 14) hx hb dX4_isByteCount_2 (by decide) (fun c_2 => ?_) (fun c_2 => ?_)
  · skip
    refine lv_iconst (v := nI 0) hx hb dX4_isByteCount_14 (by decide) ?_
    exact W.zret (v := nI 0) hx hb hr (rfl) (fun tz htz hWz => ⟨_, rfl, by first | rfl | assumption | omega | simp_all, htz⟩) (fun _ h => absurd h List.not_mem_nil) dX4_isByteCount_15
  · skip
    refine lv_iload_n hx hb dX4_isByteCount_5 rfl (lv_at hl 0 rfl) ?_
    refine lv_iconst (v := nI 4) hx hb dX4_isByteCount_6 (by decide) ?_
    refine lv_icmp_gt (tgt := 14) hx hb dX4_isByteCount_7 (by decide) (fun c_7 => ?_) (fun c_7 => ?_)
    · skip
      refine lv_iconst (v := nI 0) hx hb dX4_isByteCount_14 (by decide) ?_
      exact W.zret (v := nI 0) hx hb hr (rfl) (fun tz htz hWz => ⟨_, rfl, by first | rfl | assumption | omega | simp_all, htz⟩) (fun _ h => absurd h List.not_mem_nil) dX4_isByteCount_15
    · exact absurd hn (fun z => z.elim c_2 c_7)
set_option maxHeartbeats 4000000 in
set_option maxRecDepth 100000 in
/-- byte i of a word -/
theorem c_X4_byteOf {zl : Launch} {D : va_G} {cI cD : ClassId} (x : Int32) (i : Nat) (hi : i < 4) : Ci zl yX4_byteOf wsX4_byteOf ({ frames := 0, cells := 0, slots := 0, locals := 0 }) D cI cD [.int x, .int (nI i)] [] (fun r => r = nI (wb x i)) := by
  refine Met.ofW (cc := cX4_byteOf) (maxL := 2) (ret := (some .int)) (by decide) rfl ?_
  intro zp ze zs zm zargs zb zt zc zs₁ B hml hv
  obtain ⟨rfl, hP, hK, hD0, hN⟩ := hv
  have hx := B.exec
  have hb := B.bytes
  have hr := B.returns
  have hts := atoms_spec (ws := wsX4_byteOf) B.pre
  have hown : zs.vm.findClass RX4 = some zm.cls := findClass_of_methodNamed B.named
  have hlocks := B.notSynchronized
  have hD := inW_self hD0
  have hS : va_S (inW []) zs.heap zs.heap [] := va_S.rf
  have hl := lv_entry [.int x, .int (nI i)] (n := 2) (Nat.le_of_ble_eq_true rfl)
  rw [lg_entry_eq]
  generalize (lg_sl [.int x, .int (nI i)] ++ List.replicate (2 - (lg_sl [.int x, .int (nI i)]).length) Slot.unset).toArray = ls at hl ⊢
  have hl : lv_has ls 2 [(0, .int x), (1, .int (nI i))] := hl
  refine lv_iload_n hx hb dX4_byteOf_0 rfl (lv_at hl 0 rfl) ?_
  refine lv_bipush (v := nI 8) hx hb dX4_byteOf_1 (by decide) ?_
  refine lv_iload_n hx hb dX4_byteOf_3 rfl (lv_at hl 1 rfl) ?_
  refine lv_imul hx hb dX4_byteOf_4 ?_
  refine r_i (v := nI (8 * i)) (pk_mul _ _) ?_
  refine lv_iushr (v := (x.toUInt32 >>> ((nI (8 * i)).toUInt32 &&& Int32.toUInt32 31)).toInt32) hx hb dX4_byteOf_5 (rfl) ?_
  refine lv_sipush (v := nI 255) hx hb dX4_byteOf_6 (by decide) ?_
  refine lv_iand hx hb dX4_byteOf_9 ?_
  refine r_i (v := nI (wb x i)) (wb_u x hi) ?_
  exact W.iret (v := nI (wb x i)) hx hb hr (fun tz htz hWz => ⟨_, rfl, by first | rfl | assumption | omega | simp_all, htz⟩) (fun _ h => absurd h List.not_mem_nil) dX4_byteOf_10
set_option maxHeartbeats 4000000 in
set_option maxRecDepth 100000 in
/-- one byte more -/
theorem c_X3_append {zl : Launch} {D : va_G} {cI cD : ClassId} (a : Nat) (b : Nat) (n : Nat) (f : Nat → Int32) (bs : List Nat) (o : Nat) (hf : Rp f bs) (hbn : bs.length = n) (hn : n < 140) : Cx zl yX3_append wsX3_append ({ frames := 0, cells := 0, slots := 0, locals := 0 }) D cI cD [.ref a, .int (nI o)] [(a, .inr (3, [.ref b, .int (nI n)])), (b, .inl (cI, 140, .inl f))] (fun v w1 => ∃ (fo : Nat → Int32), w1 = [(a, .inr (3, [.ref b, .int (nI (n + 1))])), (b, .inl (cI, 140, .inl fo))] ∧ v = none ∧ Rp fo (bs ++ [o])) := by
  refine Met.ofW (cc := cX3_append) (maxL := 2) (ret := none) (by decide) rfl ?_
  intro zp ze zs zm zargs zb zt zc zs₁ B hml hv
  obtain ⟨rfl, hP, hK, hD0, hN⟩ := hv
  have hx := B.exec
  have hb := B.bytes
  have hr := B.returns
  have hts := atoms_spec (ws := wsX3_append) B.pre
  have hown : zs.vm.findClass RX3 = some zm.cls := findClass_of_methodNamed B.named
  have hlocks := B.notSynchronized
  have hD := inW_self hD0
  have hS : va_S (inW [(a, .inr (3, [.ref b, .int (nI n)])), (b, .inl (cI, 140, .inl f))]) zs.heap zs.heap [] := va_S.rf
  have hl := lv_entry [.ref a, .int (nI o)] (n := 2) (Nat.le_of_ble_eq_true rfl)
  rw [lg_entry_eq]
  generalize (lg_sl [.ref a, .int (nI o)] ++ List.replicate (2 - (lg_sl [.ref a, .int (nI o)]).length) Slot.unset).toArray = ls at hl ⊢
  have hl : lv_has ls 2 [(0, .ref a), (1, .int (nI o))] := hl
  have hin3 : ∀ w ∈ u_ws RX3 TX3 2, w ∈ wsX3_append := by decide +kernel
  refine lv_aload_n hx hb dX3_append_0 rfl (lv_at hl 0 rfl) ?_
  refine va_get (D := D) (ci := 3) (v := .int (nI n)) (C := RX3) (T := TX3) (N := 2) hx hb hts hin3 hown hK hP 0 rfl rfl 1 (by decide) (hts (.fieldLink RX3 13 "EpochSifter$Stream" "kept" "I") (by decide +kernel)) (fun _ h9 => h9) rfl dX3_append_1 ?_
  refine lv_sipush (v := nI 140) hx hb dX3_append_4 (by decide) ?_
  refine rn_ge (tgt := 30) hx hb dX3_append_7 (by decide) (by omega) (by omega) (fun c_7 => ?_) (fun c_7 => ?_)
  · omega
  · skip
    refine lv_aload_n hx hb dX3_append_10 rfl (lv_at hl 0 rfl) ?_
    refine va_get (D := D) (ci := 3) (v := .ref b) (C := RX3) (T := TX3) (N := 2) hx hb hts hin3 hown hK hP 0 rfl rfl 0 (by decide) (hts (.fieldLink RX3 9 "EpochSifter$Stream" "bytes" "[I") (by decide +kernel)) (fun _ h9 => h9) rfl dX3_append_11 ?_
    refine lv_aload_n hx hb dX3_append_14 rfl (lv_at hl 0 rfl) ?_
    refine va_get (D := D) (ci := 3) (v := .int (nI n)) (C := RX3) (T := TX3) (N := 2) hx hb hts hin3 hown hK hP 0 rfl rfl 1 (by decide) (hts (.fieldLink RX3 13 "EpochSifter$Stream" "kept" "I") (by decide +kernel)) (fun _ h9 => h9) rfl dX3_append_15 ?_
    refine lv_iload_n hx hb dX3_append_18 rfl (lv_at hl 1 rfl) ?_
    refine a_ist hx hb hK hP hD hS 1 0 rfl rfl (by omega) (by decide) dX3_append_19 (fun H locs hP hD hS => ?_)
    have hP : va_P D vwCl [(a, .inr (3, [.ref b, .int (nI n)])), (b, .inl (cI, 140, .inl (upd f n (nI o))))] _ := hP
    have hD : va_D (inW [(a, .inr (3, [.ref b, .int (nI n)])), (b, .inl (cI, 140, .inl f))]) [(a, .inr (3, [.ref b, .int (nI n)])), (b, .inl (cI, 140, .inl (upd f n (nI o))))] := hD
    refine lv_aload_n hx hb dX3_append_20 rfl (lv_at hl 0 rfl) ?_
    refine lv_dup hx hb dX3_append_21 rfl ?_
    refine va_get (D := D) (ci := 3) (v := .int (nI n)) (C := RX3) (T := TX3) (N := 2) hx hb hts hin3 hown hK hP 0 rfl rfl 1 (by decide) (hts (.fieldLink RX3 13 "EpochSifter$Stream" "kept" "I") (by decide +kernel)) (fun _ h9 => h9) rfl dX3_append_22 ?_
    refine lv_iconst (v := nI 1) hx hb dX3_append_25 (by decide) ?_
    refine lv_iadd hx hb dX3_append_26 ?_
    refine r_i (v := nI (n + 1)) (nI_add _ _) ?_
    refine va_put (D := D) (ci := 3) (v := .int (nI (n + 1))) (ty := .int) (C := RX3) (T := TX3) (N := 2) hx hb hts hin3 tyX3 tyX3_ok nmX3 hown hK hP hD hS 0 rfl rfl 1 (by decide) (hts (.fieldLink RX3 13 "EpochSifter$Stream" "kept" "I") (by decide +kernel)) (fun _ h9 => h9) rfl (by decide +kernel) (rfl) (rfl) (Nat.le_of_ble_eq_true rfl) dX3_append_27 (fun H locs hP hD hS => ?_)
    have hP : va_P D vwCl [(a, .inr (3, [.ref b, .int (nI (n + 1))])), (b, .inl (cI, 140, .inl (upd f n (nI o))))] _ := hP
    have hD : va_D (inW [(a, .inr (3, [.ref b, .int (nI n)])), (b, .inl (cI, 140, .inl f))]) [(a, .inr (3, [.ref b, .int (nI (n + 1))])), (b, .inl (cI, 140, .inl (upd f n (nI o))))] := hD
    exact W.vret hx hb hr (fun tz htz hWz => ⟨none, [(a, .inr (3, [.ref b, .int (nI (n + 1))])), (b, .inl (cI, 140, .inl (upd f n (nI o))))], rfl, ⟨_, rfl, rfl, by have h := Rp.app hf o; rw [hbn] at h; exact h⟩, rfl, by rw [htz]; exact hP, hS.F htz⟩) (fun q h => hS.2.2 q h) dX3_append_30
set_option maxHeartbeats 4000000 in
set_option maxRecDepth 100000 in
/-- byte i, 0 where there is none -/
theorem c_X3_at {zl : Launch} {D : va_G} {cI cD : ClassId} (a : Nat) (b : Nat) (n : Nat) (f : Nat → Int32) (bs : List Nat) (i : Nat) (hf : Rp f bs) (hbn : bs.length = n) (hn : n ≤ 140) (hi : i < 2 ^ 31) : Ci zl yX3_at wsX3_at ({ frames := 0, cells := 0, slots := 0, locals := 0 }) D cI cD [.ref a, .int (nI i)] [(a, .inr (3, [.ref b, .int (nI n)])), (b, .inl (cI, 140, .inl f))] (fun r => r = nI (bs.getD i 0)) := by
  refine Met.ofW (cc := cX3_at) (maxL := 2) (ret := (some .int)) (by decide) rfl ?_
  intro zp ze zs zm zargs zb zt zc zs₁ B hml hv
  obtain ⟨rfl, hP, hK, hD0, hN⟩ := hv
  have hx := B.exec
  have hb := B.bytes
  have hr := B.returns
  have hts := atoms_spec (ws := wsX3_at) B.pre
  have hown : zs.vm.findClass RX3 = some zm.cls := findClass_of_methodNamed B.named
  have hlocks := B.notSynchronized
  have hD := inW_self hD0
  have hS : va_S (inW [(a, .inr (3, [.ref b, .int (nI n)])), (b, .inl (cI, 140, .inl f))]) zs.heap zs.heap [] := va_S.rf
  have hl := lv_entry [.ref a, .int (nI i)] (n := 2) (Nat.le_of_ble_eq_true rfl)
  rw [lg_entry_eq]
  generalize (lg_sl [.ref a, .int (nI i)] ++ List.replicate (2 - (lg_sl [.ref a, .int (nI i)]).length) Slot.unset).toArray = ls at hl ⊢
  have hl : lv_has ls 2 [(0, .ref a), (1, .int (nI i))] := hl
  have hin3 : ∀ w ∈ u_ws RX3 TX3 2, w ∈ wsX3_at := by decide +kernel
  refine lv_iload_n hx hb dX3_at_0 rfl (lv_at hl 1 rfl) ?_
  refine rz_lt (tgt := 21) hx hb dX3_at_1 (by decide) (by omega) ?_
  refine lv_iload_n hx hb dX3_at_4 rfl (lv_at hl 1 rfl) ?_
  refine lv_aload_n hx hb dX3_at_5 rfl (lv_at hl 0 rfl) ?_
  refine va_get (D := D) (ci := 3) (v := .int (nI n)) (C := RX3) (T := TX3) (N := 2) hx hb hts hin3 hown hK hP 0 rfl rfl 1 (by decide) (hts (.fieldLink RX3 13 "EpochSifter$Stream" "kept" "I") (by decide +kernel)) (fun _ h9 => h9) rfl dX3_at_6 ?_
  refine rn_ge (tgt := 21) hx hb dX3_at_9 (by decide) (by omega) (by omega) (fun c_9 => ?_) (fun c_9 => ?_)
  · skip
    refine lv_iconst (v := nI 0) hx hb dX3_at_21 (by decide) ?_
    exact W.iret (v := nI 0) hx hb hr (fun tz htz hWz => ⟨_, rfl, by rw [gd_ge (by omega)], htz⟩) (fun _ h => absurd h List.not_mem_nil) dX3_at_22
  · skip
    refine lv_aload_n hx hb dX3_at_12 rfl (lv_at hl 0 rfl) ?_
    refine va_get (D := D) (ci := 3) (v := .ref b) (C := RX3) (T := TX3) (N := 2) hx hb hts hin3 hown hK hP 0 rfl rfl 0 (by decide) (hts (.fieldLink RX3 9 "EpochSifter$Stream" "bytes" "[I") (by decide +kernel)) (fun _ h9 => h9) rfl dX3_at_13 ?_
    refine lv_iload_n hx hb dX3_at_16 rfl (lv_at hl 1 rfl) ?_
    refine a_ild (v := nI (bs.getD i 0)) hx hb hK hP 1 0 rfl rfl (by omega) (by decide) (hf i (by omega)) dX3_at_17 ?_
    refine lv_goto (tgt := 22) hx hb dX3_at_18 (by decide) ?_
    exact W.iret (v := nI (bs.getD i 0)) hx hb hr (fun tz htz hWz => ⟨_, rfl, rfl, htz⟩) (fun _ h => absurd h List.not_mem_nil) dX3_at_22
set_option maxHeartbeats 4000000 in
set_option maxRecDepth 100000 in
/-- the first k bytes go -/
theorem c_X3_drop {zl : Launch} {D : va_G} {cI cD : ClassId} (a : Nat) (b : Nat) (n : Nat) (f : Nat → Int32) (bs : List Nat) (k : Nat) (hf : Rp f bs) (hbn : bs.length = n) (hn : n ≤ 140) (hk : k ≤ n) : Cx zl yX3_drop wsX3_drop ({ frames := 1, cells := 0, slots := 0, locals := 40 }) D cI cD [.ref a, .int (nI k)] [(a, .inr (3, [.ref b, .int (nI n)])), (b, .inl (cI, 140, .inl f))] (fun v w1 => ∃ (fo : Nat → Int32), w1 = [(a, .inr (3, [.ref b, .int (nI (n - k))])), (b, .inl (cI, 140, .inl fo))] ∧ v = none ∧ Rp fo (bs.drop k)) := by
  refine Met.ofW (cc := cX3_drop) (maxL := 2) (ret := none) (by decide) rfl ?_
  intro zp ze zs zm zargs zb zt zc zs₁ B hml hv
  obtain ⟨rfl, hP, hK, hD0, hN⟩ := hv
  have hx := B.exec
  have hb := B.bytes
  have hr := B.returns
  have hts := atoms_spec (ws := wsX3_drop) B.pre
  have hown : zs.vm.findClass RX3 = some zm.cls := findClass_of_methodNamed B.named
  have hlocks := B.notSynchronized
  have hD := inW_self hD0
  have hS : va_S (inW [(a, .inr (3, [.ref b, .int (nI n)])), (b, .inl (cI, 140, .inl f))]) zs.heap zs.heap [] := va_S.rf
  have hl := lv_entry [.ref a, .int (nI k)] (n := 2) (Nat.le_of_ble_eq_true rfl)
  rw [lg_entry_eq]
  generalize (lg_sl [.ref a, .int (nI k)] ++ List.replicate (2 - (lg_sl [.ref a, .int (nI k)]).length) Slot.unset).toArray = ls at hl ⊢
  have hl : lv_has ls 2 [(0, .ref a), (1, .int (nI k))] := hl
  have hin3 : ∀ w ∈ u_ws RX3 TX3 2, w ∈ wsX3_drop := by decide +kernel
  refine lv_iload_n hx hb dX3_drop_0 rfl (lv_at hl 1 rfl) ?_
  refine rz_le (tgt := 12) hx hb dX3_drop_1 (by decide) (by omega) (fun c_1 => ?_) (fun c_1 => ?_)
  · skip
    subst c_1
    exact W.vret hx hb hr (fun tz htz hWz => ⟨none, [(a, .inr (3, [.ref b, .int (nI n)])), (b, .inl (cI, 140, .inl f))], rfl, ⟨_, rfl, rfl, hf⟩, rfl, by rw [htz]; exact hP, hS.F htz⟩) (fun q h => hS.2.2 q h) dX3_drop_12
  · skip
    refine lv_iload_n hx hb dX3_drop_4 rfl (lv_at hl 1 rfl) ?_
    refine lv_aload_n hx hb dX3_drop_5 rfl (lv_at hl 0 rfl) ?_
    refine va_get (D := D) (ci := 3) (v := .int (nI n)) (C := RX3) (T := TX3) (N := 2) hx hb hts hin3 hown hK hP 0 rfl rfl 1 (by decide) (hts (.fieldLink RX3 13 "EpochSifter$Stream" "kept" "I") (by decide +kernel)) (fun _ h9 => h9) rfl dX3_drop_6 ?_
    refine rn_le (tgt := 13) hx hb dX3_drop_9 (by decide) (by omega) (by omega) (fun c_9 => ?_) (fun c_9 => ?_)
    · skip
      refine lv_aload_n hx hb dX3_drop_13 rfl (lv_at hl 0 rfl) ?_
      refine lv_dup hx hb dX3_drop_14 rfl ?_
      refine va_get (D := D) (ci := 3) (v := .int (nI n)) (C := RX3) (T := TX3) (N := 2) hx hb hts hin3 hown hK hP 0 rfl rfl 1 (by decide) (hts (.fieldLink RX3 13 "EpochSifter$Stream" "kept" "I") (by decide +kernel)) (fun _ h9 => h9) rfl dX3_drop_15 ?_
      refine lv_iload_n hx hb dX3_drop_18 rfl (lv_at hl 1 rfl) ?_
      refine lv_isub hx hb dX3_drop_19 ?_
      refine r_i (v := nI (n - k)) (pk_sub (by omega)) ?_
      refine va_put (D := D) (ci := 3) (v := .int (nI (n - k))) (ty := .int) (C := RX3) (T := TX3) (N := 2) hx hb hts hin3 tyX3 tyX3_ok nmX3 hown hK hP hD hS 0 rfl rfl 1 (by decide) (hts (.fieldLink RX3 13 "EpochSifter$Stream" "kept" "I") (by decide +kernel)) (fun _ h9 => h9) rfl (by decide +kernel) (rfl) (rfl) (Nat.le_of_ble_eq_true rfl) dX3_drop_20 (fun H locs hP hD hS => ?_)
      have hP : va_P D vwCl [(a, .inr (3, [.ref b, .int (nI (n - k))])), (b, .inl (cI, 140, .inl f))] _ := hP
      have hD : va_D (inW [(a, .inr (3, [.ref b, .int (nI n)])), (b, .inl (cI, 140, .inl f))]) [(a, .inr (3, [.ref b, .int (nI (n - k))])), (b, .inl (cI, 140, .inl f))] := hD
      refine lv_aload_n hx hb dX3_drop_23 rfl (lv_at hl 0 rfl) ?_
      refine va_get (D := D) (ci := 3) (v := .ref b) (C := RX3) (T := TX3) (N := 2) hx hb hts hin3 hown hK hP 0 rfl rfl 0 (by decide) (hts (.fieldLink RX3 9 "EpochSifter$Stream" "bytes" "[I") (by decide +kernel)) (fun _ h9 => h9) rfl dX3_drop_24 ?_
      refine lv_iload_n hx hb dX3_drop_27 rfl (lv_at hl 1 rfl) ?_
      refine lv_aload_n hx hb dX3_drop_28 rfl (lv_at hl 0 rfl) ?_
      refine va_get (D := D) (ci := 3) (v := .ref b) (C := RX3) (T := TX3) (N := 2) hx hb hts hin3 hown hK hP 0 rfl rfl 0 (by decide) (hts (.fieldLink RX3 9 "EpochSifter$Stream" "bytes" "[I") (by decide +kernel)) (fun _ h9 => h9) rfl dX3_drop_29 ?_
      refine lv_iconst (v := nI 0) hx hb dX3_drop_32 (by decide) ?_
      refine lv_aload_n hx hb dX3_drop_33 rfl (lv_at hl 0 rfl) ?_
      refine va_get (D := D) (ci := 3) (v := .int (nI (n - k))) (C := RX3) (T := TX3) (N := 2) hx hb hts hin3 hown hK hP 0 rfl rfl 1 (by decide) (hts (.fieldLink RX3 13 "EpochSifter$Stream" "kept" "I") (by decide +kernel)) (fun _ h9 => h9) rfl dX3_drop_34 ?_
      refine va_copyi hx hb (by rw [hml]; exact hl.1.symm) hown (hts (.methodLink RX3 17 arraycopyName) (by decide +kernel)) (hts (.native arraycopyName) (by decide +kernel)) (hts (.static arraycopyName) (by decide +kernel)) (hts (.initialized "java/lang/System") (by decide +kernel)) hK hP hD hS 1 1 0 0 rfl rfl rfl rfl rfl (nI_pos (by omega)) (nI_pos (by omega)) (nI_pos (by omega)) (by rw [nI_clamp (by omega), nI_clamp (by omega)]; omega) (by rw [nI_clamp (by omega), nI_clamp (by omega)]; omega) (fun _ _ => rfl) (Nat.le_of_ble_eq_true rfl) (Nat.le_of_ble_eq_true rfl) dX3_drop_37 (fun H locs hP hD hS => ?_)
      have hP : va_P D vwCl [(a, .inr (3, [.ref b, .int (nI (n - k))])), (b, .inl (cI, 140, .inl (va_cpy f f (nI k).toNatClampNeg (nI 0).toNatClampNeg (nI (n - k)).toNatClampNeg)))] _ := hP
      have hD : va_D (inW [(a, .inr (3, [.ref b, .int (nI n)])), (b, .inl (cI, 140, .inl f))]) [(a, .inr (3, [.ref b, .int (nI (n - k))])), (b, .inl (cI, 140, .inl (va_cpy f f (nI k).toNatClampNeg (nI 0).toNatClampNeg (nI (n - k)).toNatClampNeg)))] := hD
      exact W.vret hx hb hr (fun tz htz hWz => ⟨none, [(a, .inr (3, [.ref b, .int (nI (n - k))])), (b, .inl (cI, 140, .inl (va_cpy f f (nI k).toNatClampNeg (nI 0).toNatClampNeg (nI (n - k)).toNatClampNeg)))], rfl, ⟨_, rfl, rfl, Rp.drop hf (fun i hi => by rw [nI_clamp (by omega), nI_clamp (by omega), nI_clamp (by omega), pk_cpy_in (by omega) (by omega)]; rfl)⟩, rfl, by rw [htz]; exact hP, hS.F htz⟩) (fun q h => hS.2.2 q h) dX3_drop_40
    · omega
set_option maxHeartbeats 4000000 in
set_option maxRecDepth 100000 in
/-- the check of a long frame that begins at s -/
theorem c_X3_longCheckHolds {zl : Launch} {D : va_G} {cI cD : ClassId} (a : Nat) (b : Nat) (n : Nat) (f : Nat → Int32) (bs : List Nat) (s : Nat) (t : Nat) (q : Nat) (hf : Rp f bs) (hbn : bs.length = n) (hn : n ≤ 140) (hB : By bs) (ht : t = s + q) (ht2 : t < 2 ^ 30) : Ci zl yX3_longCheckHolds wsX3_longCheckHolds ({ frames := 1, cells := 0, slots := 0, locals := 23 }) D cI cD [.ref a, .int (nI s), .int (nI t)] [(a, .inr (3, [.ref b, .int (nI n)])), (b, .inl (cI, 140, .inl f))] (fun r => r = nI (tf (lok (bs.drop s) (q + 3)))) := by
  refine Met.ofW (cc := cX3_longCheckHolds) (maxL := 5) (ret := (some .boolean)) (by decide) rfl ?_
  intro zp ze zs zm zargs zb zt zc zs₁ B hml hv
  obtain ⟨rfl, hP, hK, hD0, hN⟩ := hv
  have hx := B.exec
  have hb := B.bytes
  have hr := B.returns
  have hts := atoms_spec (ws := wsX3_longCheckHolds) B.pre
  have hown : zs.vm.findClass RX3 = some zm.cls := findClass_of_methodNamed B.named
  have hlocks := B.notSynchronized
  have hD := inW_self hD0
  have hS : va_S (inW [(a, .inr (3, [.ref b, .int (nI n)])), (b, .inl (cI, 140, .inl f))]) zs.heap zs.heap [] := va_S.rf
  have hl := lv_entry [.ref a, .int (nI s), .int (nI t)] (n := 5) (Nat.le_of_ble_eq_true rfl)
  rw [lg_entry_eq]
  generalize (lg_sl [.ref a, .int (nI s), .int (nI t)] ++ List.replicate (5 - (lg_sl [.ref a, .int (nI s), .int (nI t)]).length) Slot.unset).toArray = ls at hl ⊢
  have hl : lv_has ls 5 [(0, .ref a), (1, .int (nI s)), (2, .int (nI t))] := hl
  have b0 := hB t
  have b1 := hB (t + 1)
  have b2 := hB (t + 2)
  have cuts : ∀ fuel : Nat, (∀ (j : Nat), (j ≤ q) → (q - j) < fuel → ∀ (ls : Array Slot), lv_has ls 5 [(0, .ref a), (1, .int (nI s)), (2, .int (nI t)), (3, .int (nI (crc (bs.drop s) j))), (4, .int (nI (s + j)))] → W zp zl ze ({ frames := 1, cells := 0, slots := 0, locals := 23 }) zs zm [.ref a, .int (nI s), .int (nI t)].toArray zb zt zc zs.heap [] 0 0 (MQ zb (vp_Si (fun r => r = nI (tf (lok (bs.drop s) (q + 3))))) [.ref a, .int (nI s), .int (nI t)].toArray zs 0 0 (fun _ => False)) (F0 zm 5 ls [])) := by
    intro fuel
    induction fuel with
    | zero => exact (by intros; exact absurd (by assumption) (Nat.not_lt_zero _))
    | succ fuel ih =>
      intro j hj hm ls hl
      refine lv_iload hx hb dX3_longCheckHolds_5 (lv_at hl 4 rfl) ?_
      refine lv_iload_n hx hb dX3_longCheckHolds_7 rfl (lv_at hl 2 rfl) ?_
      refine rn_ge (tgt := 28) hx hb dX3_longCheckHolds_8 (by decide) (by omega) (by omega) (fun c_8 => ?_) (fun c_8 => ?_)
      · skip
        obtain rfl : j = q := by omega
        have hz := crc_lt (hB.drop s) j
        refine lv_iload_n hx hb dX3_longCheckHolds_28 rfl (lv_at hl 3 rfl) ?_
        refine lv_aload_n hx hb dX3_longCheckHolds_29 rfl (lv_at hl 0 rfl) ?_
        refine lv_iload_n hx hb dX3_longCheckHolds_30 rfl (lv_at hl 2 rfl) ?_
        refine r_callVi (As := [.int (nI t)]) (rest := [.int (nI (crc (bs.drop s) j))]) ⟨hx, hb, hml, hown, hts⟩ (c_X3_at (zl := zl) (D := D) (cI := cI) (cD := cD) a b n f bs t (by first | assumption | omega) (by first | assumption | omega) (by first | assumption | omega) (by first | assumption | omega)) (cwV 1 hts gX3_longCheckHolds_X3_at rfl rfl rfl (by decide +kernel) ⟨Nat.le_of_ble_eq_true rfl, Nat.le_of_ble_eq_true rfl⟩) hK hN hP hD [0, 1] rfl rfl 0 rfl rfl rfl hl.1 rfl (Nat.le_of_ble_eq_true rfl) dX3_longCheckHolds_31 ⟨Nat.le_of_ble_eq_true rfl, Nat.le_of_ble_eq_true rfl⟩ (fun r_1 h_1 => ?_)
        obtain rfl := h_1
        refine lv_bipush (v := nI 16) hx hb dX3_longCheckHolds_34 (by decide) ?_
        refine lv_ishl hx hb dX3_longCheckHolds_36 ?_
        refine r_i (v := nI ((bs.getD t 0) * 65536)) (pk_shlN _ 16 (by decide) (by omega)) ?_
        refine lv_aload_n hx hb dX3_longCheckHolds_37 rfl (lv_at hl 0 rfl) ?_
        refine lv_iload_n hx hb dX3_longCheckHolds_38 rfl (lv_at hl 2 rfl) ?_
        refine lv_iconst (v := nI 1) hx hb dX3_longCheckHolds_39 (by decide) ?_
        refine lv_iadd hx hb dX3_longCheckHolds_40 ?_
        refine r_i (v := nI (t + 1)) (nI_add _ _) ?_
        refine r_callVi (As := [.int (nI (t + 1))]) (rest := [.int (nI ((bs.getD t 0) * 65536)), .int (nI (crc (bs.drop s) j))]) ⟨hx, hb, hml, hown, hts⟩ (c_X3_at (zl := zl) (D := D) (cI := cI) (cD := cD) a b n f bs (t + 1) (by first | assumption | omega) (by first | assumption | omega) (by first | assumption | omega) (by first | assumption | omega)) (cwV 1 hts gX3_longCheckHolds_X3_at rfl rfl rfl (by decide +kernel) ⟨Nat.le_of_ble_eq_true rfl, Nat.le_of_ble_eq_true rfl⟩) hK hN hP hD [0, 1] rfl rfl 0 rfl rfl rfl hl.1 rfl (Nat.le_of_ble_eq_true rfl) dX3_longCheckHolds_41 ⟨Nat.le_of_ble_eq_true rfl, Nat.le_of_ble_eq_true rfl⟩ (fun r_2 h_2 => ?_)
        obtain rfl := h_2
        refine lv_bipush (v := nI 8) hx hb dX3_longCheckHolds_44 (by decide) ?_
        refine lv_ishl hx hb dX3_longCheckHolds_46 ?_
        refine r_i (v := nI ((bs.getD (t + 1) 0) * 256)) (pk_shlN _ 8 (by decide) (by omega)) ?_
        refine lv_ior hx hb dX3_longCheckHolds_47 ?_
        refine r_i (v := nI (bs.getD t 0 * 65536 + bs.getD (t + 1) 0 * 256)) (or_hi 16 _ rfl (by omega)) ?_
        refine lv_aload_n hx hb dX3_longCheckHolds_48 rfl (lv_at hl 0 rfl) ?_
        refine lv_iload_n hx hb dX3_longCheckHolds_49 rfl (lv_at hl 2 rfl) ?_
        refine lv_iconst (v := nI 2) hx hb dX3_longCheckHolds_50 (by decide) ?_
        refine lv_iadd hx hb dX3_longCheckHolds_51 ?_
        refine r_i (v := nI (t + 2)) (nI_add _ _) ?_
        refine r_callVi (As := [.int (nI (t + 2))]) (rest := [.int (nI (bs.getD t 0 * 65536 + bs.getD (t + 1) 0 * 256)), .int (nI (crc (bs.drop s) j))]) ⟨hx, hb, hml, hown, hts⟩ (c_X3_at (zl := zl) (D := D) (cI := cI) (cD := cD) a b n f bs (t + 2) (by first | assumption | omega) (by first | assumption | omega) (by first | assumption | omega) (by first | assumption | omega)) (cwV 1 hts gX3_longCheckHolds_X3_at rfl rfl rfl (by decide +kernel) ⟨Nat.le_of_ble_eq_true rfl, Nat.le_of_ble_eq_true rfl⟩) hK hN hP hD [0, 1] rfl rfl 0 rfl rfl rfl hl.1 rfl (Nat.le_of_ble_eq_true rfl) dX3_longCheckHolds_52 ⟨Nat.le_of_ble_eq_true rfl, Nat.le_of_ble_eq_true rfl⟩ (fun r_3 h_3 => ?_)
        obtain rfl := h_3
        refine lv_ior hx hb dX3_longCheckHolds_55 ?_
        refine r_i (v := nI (bs.getD t 0 * 65536 + bs.getD (t + 1) 0 * 256 + bs.getD (t + 2) 0)) (by rw [show bs.getD t 0 * 65536 + bs.getD (t + 1) 0 * 256 = (bs.getD t 0 * 256 + bs.getD (t + 1) 0) * 256 by omega]; exact or_hi 8 _ rfl (by omega)) ?_
        refine rn_ne (tgt := 63) hx hb dX3_longCheckHolds_56 (by decide) (by omega) (by omega) (fun c_56 => ?_) (fun c_56 => ?_)
        · skip
          refine lv_iconst (v := nI 0) hx hb dX3_longCheckHolds_63 (by decide) ?_
          exact W.zret (v := nI 0) hx hb hr (rfl) (fun tz htz hWz => ⟨_, rfl, by rw [tf_0]; rw [lok_iff, ← ht]; exact c_56, htz⟩) (fun _ h => absurd h List.not_mem_nil) dX3_longCheckHolds_64
        · skip
          refine lv_iconst (v := nI 1) hx hb dX3_longCheckHolds_59 (by decide) ?_
          refine lv_goto (tgt := 64) hx hb dX3_longCheckHolds_60 (by decide) ?_
          exact W.zret (v := nI 1) hx hb hr (rfl) (fun tz htz hWz => ⟨_, rfl, by rw [tf_1]; rw [lok_iff, ← ht]; exact c_56, htz⟩) (fun _ h => absurd h List.not_mem_nil) dX3_longCheckHolds_64
      · skip
        refine lv_iload_n hx hb dX3_longCheckHolds_11 rfl (lv_at hl 3 rfl) ?_
        refine lv_aload_n hx hb dX3_longCheckHolds_12 rfl (lv_at hl 0 rfl) ?_
        refine lv_iload hx hb dX3_longCheckHolds_13 (lv_at hl 4 rfl) ?_
        refine r_callVi (As := [.int (nI (s + j))]) (rest := [.int (nI (crc (bs.drop s) j))]) ⟨hx, hb, hml, hown, hts⟩ (c_X3_at (zl := zl) (D := D) (cI := cI) (cD := cD) a b n f bs (s + j) (by first | assumption | omega) (by first | assumption | omega) (by first | assumption | omega) (by first | assumption | omega)) (cwV 1 hts gX3_longCheckHolds_X3_at rfl rfl rfl (by decide +kernel) ⟨Nat.le_of_ble_eq_true rfl, Nat.le_of_ble_eq_true rfl⟩) hK hN hP hD [0, 1] rfl rfl 0 rfl rfl rfl hl.1 rfl (Nat.le_of_ble_eq_true rfl) dX3_longCheckHolds_15 ⟨Nat.le_of_ble_eq_true rfl, Nat.le_of_ble_eq_true rfl⟩ (fun r_4 h_4 => ?_)
        obtain rfl := h_4
        refine r_callNi (As := [.int (nI (crc (bs.drop s) j)), .int (nI (bs.getD (s + j) 0))]) (rest := []) ⟨hx, hb, hml, hown, hts⟩ (c_X4_checkAfter (zl := zl) (D := D) (cI := cI) (cD := cD) (crc (bs.drop s) j) (bs.getD (s + j) 0) (crc_lt (hB.drop s) j) (hB _)) ⟨va_cnB (host := "EpochSifter") 2 hts gX3_longCheckHolds_X4_checkAfter_n37 rfl rfl rfl hN (hts (.initialized RX4) (by decide +kernel)) (by decide +kernel) ⟨Nat.le_of_ble_eq_true rfl, Nat.le_of_ble_eq_true rfl⟩, hts (.static yX4_checkAfter) (by decide +kernel), trivial⟩ hK hN hP hD rfl hl.1 rfl (Nat.le_of_ble_eq_true rfl) dX3_longCheckHolds_18 ⟨Nat.le_of_ble_eq_true rfl, Nat.le_of_ble_eq_true rfl⟩ (fun r_5 h_5 => ?_)
        obtain rfl := h_5
        refine r_i (v := nI (crc (bs.drop s) (j + 1))) (by show _ = nI (ckB _ ((bs.drop s).getD j 0)); rw [gd_drop]) ?_
        refine lv_istore_n (lv' := [(3, .int (nI (crc (bs.drop s) (j + 1)))), (0, .ref a), (1, .int (nI s)), (2, .int (nI t)), (4, .int (nI (s + j)))]) hx hb dX3_longCheckHolds_21 rfl hl (by decide) rfl (fun ls hl => ?_)
        refine lv_iinc (v := nI (s + (j + 1))) (lv' := [(4, .int (nI (s + (j + 1)))), (3, .int (nI (crc (bs.drop s) (j + 1)))), (0, .ref a), (1, .int (nI s)), (2, .int (nI t))]) hx hb dX3_longCheckHolds_22 hl (k := 4) rfl (nI_add _ _) (by decide) rfl (fun ls hl => ?_)
        refine lv_goto (tgt := 5) hx hb dX3_longCheckHolds_25 (by decide) ?_
        exact ih (j + 1) (by first | assumption | omega) (by omega) ls (lv_sub hl [2, 3, 4, 1, 0] rfl)
  refine lv_iconst (v := nI 0) hx hb dX3_longCheckHolds_0 (by decide) ?_
  refine lv_istore_n (lv' := [(3, .int (nI 0)), (0, .ref a), (1, .int (nI s)), (2, .int (nI t))]) hx hb dX3_longCheckHolds_1 rfl hl (by decide) rfl (fun ls hl => ?_)
  refine lv_iload_n hx hb dX3_longCheckHolds_2 rfl (lv_at hl 2 rfl) ?_
  refine lv_istore (lv' := [(4, .int (nI s)), (3, .int (nI 0)), (0, .ref a), (1, .int (nI s)), (2, .int (nI t))]) hx hb dX3_longCheckHolds_3 hl (by decide) rfl (fun ls hl => ?_)
  exact (cuts _) 0 (by first | assumption | omega) (Nat.lt_succ_self _) ls (lv_sub hl [2, 3, 4, 1, 0] rfl)
set_option maxHeartbeats 4000000 in
set_option maxRecDepth 100000 in
/-- the sums of a short frame that begins at s -/
theorem c_X3_shortCheckHolds {zl : Launch} {D : va_G} {cI cD : ClassId} (a : Nat) (b : Nat) (n : Nat) (f : Nat → Int32) (bs : List Nat) (s : Nat) (u : Nat) (t : Nat) (q : Nat) (hf : Rp f bs) (hbn : bs.length = n) (hn : n ≤ 140) (hB : By bs) (hu : u = s + 2) (ht : t = s + 2 + q) (ht2 : t < 2 ^ 30) : Ci zl yX3_shortCheckHolds wsX3_shortCheckHolds ({ frames := 1, cells := 0, slots := 0, locals := 21 }) D cI cD [.ref a, .int (nI u), .int (nI t)] [(a, .inr (3, [.ref b, .int (nI n)])), (b, .inl (cI, 140, .inl f))] (fun r => r = nI (tf (sok (bs.drop s) (q + 4)))) := by
  refine Met.ofW (cc := cX3_shortCheckHolds) (maxL := 6) (ret := (some .boolean)) (by decide) rfl ?_
  intro zp ze zs zm zargs zb zt zc zs₁ B hml hv
  obtain ⟨rfl, hP, hK, hD0, hN⟩ := hv
  have hx := B.exec
  have hb := B.bytes
  have hr := B.returns
  have hts := atoms_spec (ws := wsX3_shortCheckHolds) B.pre
  have hown : zs.vm.findClass RX3 = some zm.cls := findClass_of_methodNamed B.named
  have hlocks := B.notSynchronized
  have hD := inW_self hD0
  have hS : va_S (inW [(a, .inr (3, [.ref b, .int (nI n)])), (b, .inl (cI, 140, .inl f))]) zs.heap zs.heap [] := va_S.rf
  have hl := lv_entry [.ref a, .int (nI u), .int (nI t)] (n := 6) (Nat.le_of_ble_eq_true rfl)
  rw [lg_entry_eq]
  generalize (lg_sl [.ref a, .int (nI u), .int (nI t)] ++ List.replicate (6 - (lg_sl [.ref a, .int (nI u), .int (nI t)]).length) Slot.unset).toArray = ls at hl ⊢
  have hl : lv_has ls 6 [(0, .ref a), (1, .int (nI u)), (2, .int (nI t))] := hl
  have b0 := hB t
  have b1 := hB (t + 1)
  have cuts : ∀ fuel : Nat, (∀ (j : Nat), (j ≤ q) → (q - j) < fuel → ∀ (ls : Array Slot), lv_has ls 6 [(0, .ref a), (1, .int (nI u)), (2, .int (nI t)), (3, .int (nI (sx (bs.drop s) j % 256))), (4, .int (nI (sy (bs.drop s) j % 256))), (5, .int (nI (u + j)))] → W zp zl ze ({ frames := 1, cells := 0, slots := 0, locals := 21 }) zs zm [.ref a, .int (nI u), .int (nI t)].toArray zb zt zc zs.heap [] 0 0 (MQ zb (vp_Si (fun r => r = nI (tf (sok (bs.drop s) (q + 4))))) [.ref a, .int (nI u), .int (nI t)].toArray zs 0 0 (fun _ => False)) (F0 zm 8 ls [])) := by
    intro fuel
    induction fuel with
    | zero => exact (by intros; exact absurd (by assumption) (Nat.not_lt_zero _))
    | succ fuel ih =>
      intro j hj hm ls hl
      have e1 : sx (bs.drop s) (j + 1) = sx (bs.drop s) j + bs.getD (u + j) 0 := by show _ + (bs.drop s).getD (2 + j) 0 = _; rw [gd_drop, hu, Nat.add_assoc s 2 j]
      have e2 : sy (bs.drop s) (j + 1) = sy (bs.drop s) j + sx (bs.drop s) (j + 1) := rfl
      have b9 := hB (u + j)
      refine lv_iload hx hb dX3_shortCheckHolds_8 (lv_at hl 5 rfl) ?_
      refine lv_iload_n hx hb dX3_shortCheckHolds_10 rfl (lv_at hl 2 rfl) ?_
      refine rn_ge (tgt := 43) hx hb dX3_shortCheckHolds_11 (by decide) (by omega) (by omega) (fun c_11 => ?_) (fun c_11 => ?_)
      · skip
        obtain rfl : j = q := by omega
        refine lv_iload_n hx hb dX3_shortCheckHolds_43 rfl (lv_at hl 3 rfl) ?_
        refine lv_aload_n hx hb dX3_shortCheckHolds_44 rfl (lv_at hl 0 rfl) ?_
        refine lv_iload_n hx hb dX3_shortCheckHolds_45 rfl (lv_at hl 2 rfl) ?_
        refine r_callVi (As := [.int (nI t)]) (rest := [.int (nI (sx (bs.drop s) j % 256))]) ⟨hx, hb, hml, hown, hts⟩ (c_X3_at (zl := zl) (D := D) (cI := cI) (cD := cD) a b n f bs t (by first | assumption | omega) (by first | assumption | omega) (by first | assumption | omega) (by first | assumption | omega)) (cwV 1 hts gX3_shortCheckHolds_X3_at rfl rfl rfl (by decide +kernel) ⟨Nat.le_of_ble_eq_true rfl, Nat.le_of_ble_eq_true rfl⟩) hK hN hP hD [0, 1] rfl rfl 0 rfl rfl rfl hl.1 rfl (Nat.le_of_ble_eq_true rfl) dX3_shortCheckHolds_46 ⟨Nat.le_of_ble_eq_true rfl, Nat.le_of_ble_eq_true rfl⟩ (fun r_1 h_1 => ?_)
        obtain rfl := h_1
        refine rn_ne (tgt := 68) hx hb dX3_shortCheckHolds_49 (by decide) (by omega) (by omega) (fun c_49 => ?_) (fun c_49 => ?_)
        · skip
          refine lv_iconst (v := nI 0) hx hb dX3_shortCheckHolds_68 (by decide) ?_
          exact W.zret (v := nI 0) hx hb hr (rfl) (fun tz htz hWz => ⟨_, rfl, by rw [tf_0]; rw [sok_iff, ← ht]; omega, htz⟩) (fun _ h => absurd h List.not_mem_nil) dX3_shortCheckHolds_69
        · skip
          refine lv_iload hx hb dX3_shortCheckHolds_52 (lv_at hl 4 rfl) ?_
          refine lv_aload_n hx hb dX3_shortCheckHolds_54 rfl (lv_at hl 0 rfl) ?_
          refine lv_iload_n hx hb dX3_shortCheckHolds_55 rfl (lv_at hl 2 rfl) ?_
          refine lv_iconst (v := nI 1) hx hb dX3_shortCheckHolds_56 (by decide) ?_
          refine lv_iadd hx hb dX3_shortCheckHolds_57 ?_
          refine r_i (v := nI (t + 1)) (nI_add _ _) ?_
          refine r_callVi (As := [.int (nI (t + 1))]) (rest := [.int (nI (sy (bs.drop s) j % 256))]) ⟨hx, hb, hml, hown, hts⟩ (c_X3_at (zl := zl) (D := D) (cI := cI) (cD := cD) a b n f bs (t + 1) (by first | assumption | omega) (by first | assumption | omega) (by first | assumption | omega) (by first | assumption | omega)) (cwV 1 hts gX3_shortCheckHolds_X3_at rfl rfl rfl (by decide +kernel) ⟨Nat.le_of_ble_eq_true rfl, Nat.le_of_ble_eq_true rfl⟩) hK hN hP hD [0, 1] rfl rfl 0 rfl rfl rfl hl.1 rfl (Nat.le_of_ble_eq_true rfl) dX3_shortCheckHolds_58 ⟨Nat.le_of_ble_eq_true rfl, Nat.le_of_ble_eq_true rfl⟩ (fun r_2 h_2 => ?_)
          obtain rfl := h_2
          refine rn_ne (tgt := 68) hx hb dX3_shortCheckHolds_61 (by decide) (by omega) (by omega) (fun c_61 => ?_) (fun c_61 => ?_)
          · skip
            refine lv_iconst (v := nI 0) hx hb dX3_shortCheckHolds_68 (by decide) ?_
            exact W.zret (v := nI 0) hx hb hr (rfl) (fun tz htz hWz => ⟨_, rfl, by rw [tf_0]; rw [sok_iff, ← ht]; omega, htz⟩) (fun _ h => absurd h List.not_mem_nil) dX3_shortCheckHolds_69
          · skip
            refine lv_iconst (v := nI 1) hx hb dX3_shortCheckHolds_64 (by decide) ?_
            refine lv_goto (tgt := 69) hx hb dX3_shortCheckHolds_65 (by decide) ?_
            exact W.zret (v := nI 1) hx hb hr (rfl) (fun tz htz hWz => ⟨_, rfl, by rw [tf_1]; rw [sok_iff, ← ht]; exact ⟨c_49, c_61⟩, htz⟩) (fun _ h => absurd h List.not_mem_nil) dX3_shortCheckHolds_69
      · skip
        refine lv_iload_n hx hb dX3_shortCheckHolds_14 rfl (lv_at hl 3 rfl) ?_
        refine lv_aload_n hx hb dX3_shortCheckHolds_15 rfl (lv_at hl 0 rfl) ?_
        refine lv_iload hx hb dX3_shortCheckHolds_16 (lv_at hl 5 rfl) ?_
        refine r_callVi (As := [.int (nI (u + j))]) (rest := [.int (nI (sx (bs.drop s) j % 256))]) ⟨hx, hb, hml, hown, hts⟩ (c_X3_at (zl := zl) (D := D) (cI := cI) (cD := cD) a b n f bs (u + j) (by first | assumption | omega) (by first | assumption | omega) (by first | assumption | omega) (by first | assumption | omega)) (cwV 1 hts gX3_shortCheckHolds_X3_at rfl rfl rfl (by decide +kernel) ⟨Nat.le_of_ble_eq_true rfl, Nat.le_of_ble_eq_true rfl⟩) hK hN hP hD [0, 1] rfl rfl 0 rfl rfl rfl hl.1 rfl (Nat.le_of_ble_eq_true rfl) dX3_shortCheckHolds_18 ⟨Nat.le_of_ble_eq_true rfl, Nat.le_of_ble_eq_true rfl⟩ (fun r_3 h_3 => ?_)
        obtain rfl := h_3
        refine lv_iadd hx hb dX3_shortCheckHolds_21 ?_
        refine r_i (v := nI (sx (bs.drop s) j % 256 + (bs.getD (u + j) 0))) (nI_add _ _) ?_
        refine lv_sipush (v := nI 255) hx hb dX3_shortCheckHolds_22 (by decide) ?_
        refine lv_iand hx hb dX3_shortCheckHolds_25 ?_
        refine r_i (v := nI ((sx (bs.drop s) j % 256 + (bs.getD (u + j) 0)) % 256)) (pk_andN (by omega) 8 (by decide)) ?_
        refine r_i (v := nI (sx (bs.drop s) (j + 1) % 256)) (congrArg nI (by omega)) ?_
        refine lv_istore_n (lv' := [(3, .int (nI (sx (bs.drop s) (j + 1) % 256))), (0, .ref a), (1, .int (nI u)), (2, .int (nI t)), (4, .int (nI (sy (bs.drop s) j % 256))), (5, .int (nI (u + j)))]) hx hb dX3_shortCheckHolds_26 rfl hl (by decide) rfl (fun ls hl => ?_)
        refine lv_iload hx hb dX3_shortCheckHolds_27 (lv_at hl 4 rfl) ?_
        refine lv_iload_n hx hb dX3_shortCheckHolds_29 rfl (lv_at hl 0 rfl) ?_
        refine lv_iadd hx hb dX3_shortCheckHolds_30 ?_
        refine r_i (v := nI (sy (bs.drop s) j % 256 + (sx (bs.drop s) (j + 1) % 256))) (nI_add _ _) ?_
        refine lv_sipush (v := nI 255) hx hb dX3_shortCheckHolds_31 (by decide) ?_
        refine lv_iand hx hb dX3_shortCheckHolds_34 ?_
        refine r_i (v := nI ((sy (bs.drop s) j % 256 + (sx (bs.drop s) (j + 1) % 256)) % 256)) (pk_andN (by omega) 8 (by decide)) ?_
        refine r_i (v := nI (sy (bs.drop s) (j + 1) % 256)) (congrArg nI (by omega)) ?_
        refine lv_istore (lv' := [(4, .int (nI (sy (bs.drop s) (j + 1) % 256))), (3, .int (nI (sx (bs.drop s) (j + 1) % 256))), (0, .ref a), (1, .int (nI u)), (2, .int (nI t)), (5, .int (nI (u + j)))]) hx hb dX3_shortCheckHolds_35 hl (by decide) rfl (fun ls hl => ?_)
        refine lv_iinc (v := nI (u + (j + 1))) (lv' := [(5, .int (nI (u + (j + 1)))), (4, .int (nI (sy (bs.drop s) (j + 1) % 256))), (3, .int (nI (sx (bs.drop s) (j + 1) % 256))), (0, .ref a), (1, .int (nI u)), (2, .int (nI t))]) hx hb dX3_shortCheckHolds_37 hl (k := 5) rfl (nI_add _ _) (by decide) rfl (fun ls hl => ?_)
        refine lv_goto (tgt := 8) hx hb dX3_shortCheckHolds_40 (by decide) ?_
        exact ih (j + 1) (by first | assumption | omega) (by omega) ls (lv_sub hl [3, 4, 5, 2, 1, 0] rfl)
  refine lv_iconst (v := nI 0) hx hb dX3_shortCheckHolds_0 (by decide) ?_
  refine lv_istore_n (lv' := [(3, .int (nI 0)), (0, .ref a), (1, .int (nI u)), (2, .int (nI t))]) hx hb dX3_shortCheckHolds_1 rfl hl (by decide) rfl (fun ls hl => ?_)
  refine lv_iconst (v := nI 0) hx hb dX3_shortCheckHolds_2 (by decide) ?_
  refine lv_istore (lv' := [(4, .int (nI 0)), (3, .int (nI 0)), (0, .ref a), (1, .int (nI u)), (2, .int (nI t))]) hx hb dX3_shortCheckHolds_3 hl (by decide) rfl (fun ls hl => ?_)
  refine lv_iload_n hx hb dX3_shortCheckHolds_5 rfl (lv_at hl 3 rfl) ?_
  refine lv_istore (lv' := [(5, .int (nI u)), (4, .int (nI 0)), (3, .int (nI 0)), (0, .ref a), (1, .int (nI u)), (2, .int (nI t))]) hx hb dX3_shortCheckHolds_6 hl (by decide) rfl (fun ls hl => ?_)
  exact (cuts _) 0 (by first | assumption | omega) (Nat.lt_succ_self _) ls (lv_sub hl [3, 4, 5, 2, 1, 0] rfl)
set_option maxHeartbeats 4000000 in
set_option maxRecDepth 100000 in
/-- four bytes, the lowest first -/
theorem c_X3_signedAt {zl : Launch} {D : va_G} {cI cD : ClassId} (a : Nat) (b : Nat) (n : Nat) (f : Nat → Int32) (bs : List Nat) (i : Nat) (hf : Rp f bs) (hbn : bs.length = n) (hn : n ≤ 140) (hB : By bs) (hi : i < 2 ^ 30) : Ci zl yX3_signedAt wsX3_signedAt ({ frames := 1, cells := 0, slots := 0, locals := 21 }) D cI cD [.ref a, .int (nI i)] [(a, .inr (3, [.ref b, .int (nI n)])), (b, .inl (cI, 140, .inl f))] (fun r => r = s4 bs i) := by
  refine Met.ofW (cc := cX3_signedAt) (maxL := 2) (ret := (some .int)) (by decide) rfl ?_
  intro zp ze zs zm zargs zb zt zc zs₁ B hml hv
  obtain ⟨rfl, hP, hK, hD0, hN⟩ := hv
  have hx := B.exec
  have hb := B.bytes
  have hr := B.returns
  have hts := atoms_spec (ws := wsX3_signedAt) B.pre
  have hown : zs.vm.findClass RX3 = some zm.cls := findClass_of_methodNamed B.named
  have hlocks := B.notSynchronized
  have hD := inW_self hD0
  have hS : va_S (inW [(a, .inr (3, [.ref b, .int (nI n)])), (b, .inl (cI, 140, .inl f))]) zs.heap zs.heap [] := va_S.rf
  have hl := lv_entry [.ref a, .int (nI i)] (n := 2) (Nat.le_of_ble_eq_true rfl)
  rw [lg_entry_eq]
  generalize (lg_sl [.ref a, .int (nI i)] ++ List.replicate (2 - (lg_sl [.ref a, .int (nI i)]).length) Slot.unset).toArray = ls at hl ⊢
  have hl : lv_has ls 2 [(0, .ref a), (1, .int (nI i))] := hl
  have b0 := hB i
  have b1 := hB (i + 1)
  have b2 := hB (i + 2)
  have b3 := hB (i + 3)
  refine lv_aload_n hx hb dX3_signedAt_0 rfl (lv_at hl 0 rfl) ?_
  refine lv_iload_n hx hb dX3_signedAt_1 rfl (lv_at hl 1 rfl) ?_
  refine r_callVi (As := [.int (nI i)]) (rest := []) ⟨hx, hb, hml, hown, hts⟩ (c_X3_at (zl := zl) (D := D) (cI := cI) (cD := cD) a b n f bs i (by first | assumption | omega) (by first | assumption | omega) (by first | assumption | omega) (by first | assumption | omega)) (cwV 1 hts gX3_signedAt_X3_at rfl rfl rfl (by decide +kernel) ⟨Nat.le_of_ble_eq_true rfl, Nat.le_of_ble_eq_true rfl⟩) hK hN hP hD [0, 1] rfl rfl 0 rfl rfl rfl hl.1 rfl (Nat.le_of_ble_eq_true rfl) dX3_signedAt_2 ⟨Nat.le_of_ble_eq_true rfl, Nat.le_of_ble_eq_true rfl⟩ (fun r_1 h_1 => ?_)
  obtain rfl := h_1
  refine lv_aload_n hx hb dX3_signedAt_5 rfl (lv_at hl 0 rfl) ?_
  refine lv_iload_n hx hb dX3_signedAt_6 rfl (lv_at hl 1 rfl) ?_
  refine lv_iconst (v := nI 1) hx hb dX3_signedAt_7 (by decide) ?_
  refine lv_iadd hx hb dX3_signedAt_8 ?_
  refine r_i (v := nI (i + 1)) (nI_add _ _) ?_
  refine r_callVi (As := [.int (nI (i + 1))]) (rest := [.int (nI (bs.getD i 0))]) ⟨hx, hb, hml, hown, hts⟩ (c_X3_at (zl := zl) (D := D) (cI := cI) (cD := cD) a b n f bs (i + 1) (by first | assumption | omega) (by first | assumption | omega) (by first | assumption | omega) (by first | assumption | omega)) (cwV 1 hts gX3_signedAt_X3_at rfl rfl rfl (by decide +kernel) ⟨Nat.le_of_ble_eq_true rfl, Nat.le_of_ble_eq_true rfl⟩) hK hN hP hD [0, 1] rfl rfl 0 rfl rfl rfl hl.1 rfl (Nat.le_of_ble_eq_true rfl) dX3_signedAt_9 ⟨Nat.le_of_ble_eq_true rfl, Nat.le_of_ble_eq_true rfl⟩ (fun r_2 h_2 => ?_)
  obtain rfl := h_2
  refine lv_bipush (v := nI 8) hx hb dX3_signedAt_12 (by decide) ?_
  refine lv_ishl hx hb dX3_signedAt_14 ?_
  refine r_i (v := nI ((bs.getD (i + 1) 0) * 256)) (pk_shlN _ 8 (by decide) (by omega)) ?_
  refine lv_ior hx hb dX3_signedAt_15 ?_
  refine r_i (v := nI (bs.getD i 0 + bs.getD (i + 1) 0 * 256)) (or_lo 8 _ rfl (by omega)) ?_
  refine lv_aload_n hx hb dX3_signedAt_16 rfl (lv_at hl 0 rfl) ?_
  refine lv_iload_n hx hb dX3_signedAt_17 rfl (lv_at hl 1 rfl) ?_
  refine lv_iconst (v := nI 2) hx hb dX3_signedAt_18 (by decide) ?_
  refine lv_iadd hx hb dX3_signedAt_19 ?_
  refine r_i (v := nI (i + 2)) (nI_add _ _) ?_
  refine r_callVi (As := [.int (nI (i + 2))]) (rest := [.int (nI (bs.getD i 0 + bs.getD (i + 1) 0 * 256))]) ⟨hx, hb, hml, hown, hts⟩ (c_X3_at (zl := zl) (D := D) (cI := cI) (cD := cD) a b n f bs (i + 2) (by first | assumption | omega) (by first | assumption | omega) (by first | assumption | omega) (by first | assumption | omega)) (cwV 1 hts gX3_signedAt_X3_at rfl rfl rfl (by decide +kernel) ⟨Nat.le_of_ble_eq_true rfl, Nat.le_of_ble_eq_true rfl⟩) hK hN hP hD [0, 1] rfl rfl 0 rfl rfl rfl hl.1 rfl (Nat.le_of_ble_eq_true rfl) dX3_signedAt_20 ⟨Nat.le_of_ble_eq_true rfl, Nat.le_of_ble_eq_true rfl⟩ (fun r_3 h_3 => ?_)
  obtain rfl := h_3
  refine lv_bipush (v := nI 16) hx hb dX3_signedAt_23 (by decide) ?_
  refine lv_ishl hx hb dX3_signedAt_25 ?_
  refine r_i (v := nI ((bs.getD (i + 2) 0) * 65536)) (pk_shlN _ 16 (by decide) (by omega)) ?_
  refine lv_ior hx hb dX3_signedAt_26 ?_
  refine r_i (v := nI (bs.getD i 0 + bs.getD (i + 1) 0 * 256 + bs.getD (i + 2) 0 * 65536)) (or_lo 16 _ rfl (by omega)) ?_
  refine lv_aload_n hx hb dX3_signedAt_27 rfl (lv_at hl 0 rfl) ?_
  refine lv_iload_n hx hb dX3_signedAt_28 rfl (lv_at hl 1 rfl) ?_
  refine lv_iconst (v := nI 3) hx hb dX3_signedAt_29 (by decide) ?_
  refine lv_iadd hx hb dX3_signedAt_30 ?_
  refine r_i (v := nI (i + 3)) (nI_add _ _) ?_
  refine r_callVi (As := [.int (nI (i + 3))]) (rest := [.int (nI (bs.getD i 0 + bs.getD (i + 1) 0 * 256 + bs.getD (i + 2) 0 * 65536))]) ⟨hx, hb, hml, hown, hts⟩ (c_X3_at (zl := zl) (D := D) (cI := cI) (cD := cD) a b n f bs (i + 3) (by first | assumption | omega) (by first | assumption | omega) (by first | assumption | omega) (by first | assumption | omega)) (cwV 1 hts gX3_signedAt_X3_at rfl rfl rfl (by decide +kernel) ⟨Nat.le_of_ble_eq_true rfl, Nat.le_of_ble_eq_true rfl⟩) hK hN hP hD [0, 1] rfl rfl 0 rfl rfl rfl hl.1 rfl (Nat.le_of_ble_eq_true rfl) dX3_signedAt_31 ⟨Nat.le_of_ble_eq_true rfl, Nat.le_of_ble_eq_true rfl⟩ (fun r_4 h_4 => ?_)
  obtain rfl := h_4
  refine lv_bipush (v := nI 24) hx hb dX3_signedAt_34 (by decide) ?_
  refine lv_ishl hx hb dX3_signedAt_36 ?_
  refine r_i (v := nI ((bs.getD (i + 3) 0) * 16777216)) (pk_shlN _ 24 (by decide) (by omega)) ?_
  refine lv_ior hx hb dX3_signedAt_37 ?_
  refine r_i (v := nI (bs.getD i 0 + bs.getD (i + 1) 0 * 256 + bs.getD (i + 2) 0 * 65536 + bs.getD (i + 3) 0 * 16777216)) (or_lo 24 _ rfl (by omega)) ?_
  exact W.iret (v := nI (bs.getD i 0 + bs.getD (i + 1) 0 * 256 + bs.getD (i + 2) 0 * 65536 + bs.getD (i + 3) 0 * 16777216)) hx hb hr (fun tz htz hWz => ⟨_, rfl, by first | rfl | assumption | omega | simp_all, htz⟩) (fun _ h => absurd h List.not_mem_nil) dX3_signedAt_38
set_option maxHeartbeats 4000000 in
set_option maxRecDepth 100000 in
/-- a long frame at s -/
theorem c_X3_longFrameAt {zl : Launch} {D : va_G} {cI cD : ClassId} (a : Nat) (b : Nat) (n : Nat) (f : Nat → Int32) (bs : List Nat) (s : Nat) (hf : Rp f bs) (hbn : bs.length = n) (hn : n ≤ 140) (hB : By bs) (hs : s < n) : Ci zl yX3_longFrameAt wsX3_longFrameAt ({ frames := 2, cells := 0, slots := 0, locals := 47 }) D cI cD [.ref a, .int (nI s)] [(a, .inr (3, [.ref b, .int (nI n)])), (b, .inl (cI, 140, .inl f))] (fun r => r = enc (clsl (bs.drop s))) := by
  refine Met.ofW (cc := cX3_longFrameAt) (maxL := 4) (ret := (some .int)) (by decide) rfl ?_
  intro zp ze zs zm zargs zb zt zc zs₁ B hml hv
  obtain ⟨rfl, hP, hK, hD0, hN⟩ := hv
  have hx := B.exec
  have hb := B.bytes
  have hr := B.returns
  have hts := atoms_spec (ws := wsX3_longFrameAt) B.pre
  have hown : zs.vm.findClass RX3 = some zm.cls := findClass_of_methodNamed B.named
  have hlocks := B.notSynchronized
  have hD := inW_self hD0
  have hS : va_S (inW [(a, .inr (3, [.ref b, .int (nI n)])), (b, .inl (cI, 140, .inl f))]) zs.heap zs.heap [] := va_S.rf
  have hl := lv_entry [.ref a, .int (nI s)] (n := 4) (Nat.le_of_ble_eq_true rfl)
  rw [lg_entry_eq]
  generalize (lg_sl [.ref a, .int (nI s)] ++ List.replicate (4 - (lg_sl [.ref a, .int (nI s)]).length) Slot.unset).toArray = ls at hl ⊢
  have hl : lv_has ls 4 [(0, .ref a), (1, .int (nI s))] := hl
  have hin3 : ∀ w ∈ u_ws RX3 TX3 2, w ∈ wsX3_longFrameAt := by decide +kernel
  have e0 : (bs.drop s).length = n - s := by rw [List.length_drop, hbn]
  have e1 := gd_drop bs s 1
  have e2 := gd_drop bs s 2
  have e4 := gd_drop bs s 4
  have e5 := gd_drop bs s 5
  have b1 := hB (s + 1)
  have b2 := hB (s + 2)
  have b4 := hB (s + 4)
  have b5 := hB (s + 5)
  have cuts : ∀ fuel : Nat, ((¬ (1 < n - s ∧ 0 < bs.getD (s + 1) 0)) → 2 < fuel → ∀ (ls : Array Slot), lv_has ls 4 [(0, .ref a), (1, .int (nI s)), (2, .int (nI (n - s)))] → W zp zl ze ({ frames := 2, cells := 0, slots := 0, locals := 47 }) zs zm [.ref a, .int (nI s)].toArray zb zt zc zs.heap [] 0 0 (MQ zb (vp_Si (fun r => r = enc (clsl (bs.drop s)))) [.ref a, .int (nI s)].toArray zs 0 0 (fun _ => False)) (F0 zm 24 ls [])) ∧ ((¬ (1 < n - s ∧ 0 < bs.getD (s + 1) 0)) → (¬ (2 < n - s ∧ 90 < bs.getD (s + 2) 0)) → 1 < fuel → ∀ (ls : Array Slot), lv_has ls 4 [(0, .ref a), (1, .int (nI s)), (2, .int (nI (n - s)))] → W zp zl ze ({ frames := 2, cells := 0, slots := 0, locals := 47 }) zs zm [.ref a, .int (nI s)].toArray zb zt zc zs.heap [] 0 0 (MQ zb (vp_Si (fun r => r = enc (clsl (bs.drop s)))) [.ref a, .int (nI s)].toArray zs 0 0 (fun _ => False)) (F0 zm 43 ls [])) := by
    intro fuel
    induction fuel with
    | zero => exact ⟨(by intros; exact absurd (by assumption) (Nat.not_lt_zero _)), (by intros; exact absurd (by assumption) (Nat.not_lt_zero _))⟩
    | succ fuel ih =>
      refine ⟨?_, ?_⟩
      · intro h1 hm ls hl
        refine lv_iload_n hx hb dX3_longFrameAt_24 rfl (lv_at hl 2 rfl) ?_
        refine lv_iconst (v := nI 2) hx hb dX3_longFrameAt_25 (by decide) ?_
        refine rn_le (tgt := 43) hx hb dX3_longFrameAt_26 (by decide) (by omega) (by omega) (fun c_26 => ?_) (fun c_26 => ?_)
        · skip
          exact ih.2 (by first | assumption | omega) (by first | assumption | omega) (by omega) ls (lv_sub hl [0, 1, 2] rfl)
        · skip
          refine lv_aload_n hx hb dX3_longFrameAt_29 rfl (lv_at hl 0 rfl) ?_
          refine lv_iload_n hx hb dX3_longFrameAt_30 rfl (lv_at hl 1 rfl) ?_
          refine lv_iconst (v := nI 2) hx hb dX3_longFrameAt_31 (by decide) ?_
          refine lv_iadd hx hb dX3_longFrameAt_32 ?_
          refine r_i (v := nI (s + 2)) (nI_add _ _) ?_
          refine r_callVi (As := [.int (nI (s + 2))]) (rest := []) ⟨hx, hb, hml, hown, hts⟩ (c_X3_at (zl := zl) (D := D) (cI := cI) (cD := cD) a b n f bs (s + 2) (by first | assumption | omega) (by first | assumption | omega) (by first | assumption | omega) (by first | assumption | omega)) (cwV 1 hts gX3_longFrameAt_X3_at rfl rfl rfl (by decide +kernel) ⟨Nat.le_of_ble_eq_true rfl, Nat.le_of_ble_eq_true rfl⟩) hK hN hP hD [0, 1] rfl rfl 0 rfl rfl rfl hl.1 rfl (Nat.le_of_ble_eq_true rfl) dX3_longFrameAt_33 ⟨Nat.le_of_ble_eq_true rfl, Nat.le_of_ble_eq_true rfl⟩ (fun r_1 h_1 => ?_)
          obtain rfl := h_1
          refine lv_bipush (v := nI 90) hx hb dX3_longFrameAt_36 (by decide) ?_
          refine rn_le (tgt := 43) hx hb dX3_longFrameAt_38 (by decide) (by omega) (by omega) (fun c_38 => ?_) (fun c_38 => ?_)
          · skip
            exact ih.2 (by first | assumption | omega) (by first | assumption | omega) (by omega) ls (lv_sub hl [0, 1, 2] rfl)
          · skip
            refine lv_iconst (v := (-1)) hx hb dX3_longFrameAt_41 (by decide) ?_
            exact W.iret (v := -1) hx hb hr (fun tz htz hWz => ⟨_, rfl, by rw [clsl_no (by omega)]; rfl, htz⟩) (fun _ h => absurd h List.not_mem_nil) dX3_longFrameAt_42
      · intro h1 h2 hm ls hl
        refine lv_iconst (v := nI 3) hx hb dX3_longFrameAt_43 (by decide) ?_
        refine lv_aload_n hx hb dX3_longFrameAt_44 rfl (lv_at hl 0 rfl) ?_
        refine lv_iload_n hx hb dX3_longFrameAt_45 rfl (lv_at hl 1 rfl) ?_
        refine lv_iconst (v := nI 2) hx hb dX3_longFrameAt_46 (by decide) ?_
        refine lv_iadd hx hb dX3_longFrameAt_47 ?_
        refine r_i (v := nI (s + 2)) (nI_add _ _) ?_
        refine r_callVi (As := [.int (nI (s + 2))]) (rest := [.int (nI 3)]) ⟨hx, hb, hml, hown, hts⟩ (c_X3_at (zl := zl) (D := D) (cI := cI) (cD := cD) a b n f bs (s + 2) (by first | assumption | omega) (by first | assumption | omega) (by first | assumption | omega) (by first | assumption | omega)) (cwV 1 hts gX3_longFrameAt_X3_at rfl rfl rfl (by decide +kernel) ⟨Nat.le_of_ble_eq_true rfl, Nat.le_of_ble_eq_true rfl⟩) hK hN hP hD [0, 1] rfl rfl 0 rfl rfl rfl hl.1 rfl (Nat.le_of_ble_eq_true rfl) dX3_longFrameAt_48 ⟨Nat.le_of_ble_eq_true rfl, Nat.le_of_ble_eq_true rfl⟩ (fun r_2 h_2 => ?_)
        obtain rfl := h_2
        refine lv_iadd hx hb dX3_longFrameAt_51 ?_
        refine r_i (v := nI (3 + (bs.getD (s + 2) 0))) (nI_add _ _) ?_
        refine lv_iconst (v := nI 3) hx hb dX3_longFrameAt_52 (by decide) ?_
        refine lv_iadd hx hb dX3_longFrameAt_53 ?_
        refine r_i (v := nI (3 + (bs.getD (s + 2) 0) + 3)) (nI_add _ _) ?_
        refine lv_istore_n (lv' := [(3, .int (nI (3 + (bs.getD (s + 2) 0) + 3))), (0, .ref a), (1, .int (nI s)), (2, .int (nI (n - s)))]) hx hb dX3_longFrameAt_54 rfl hl (by decide) rfl (fun ls hl => ?_)
        refine lv_iload_n hx hb dX3_longFrameAt_55 rfl (lv_at hl 3 rfl) ?_
        refine lv_iconst (v := nI 3) hx hb dX3_longFrameAt_56 (by decide) ?_
        refine rn_lt (tgt := 65) hx hb dX3_longFrameAt_57 (by decide) (by omega) (by omega) (fun c_57 => ?_) (fun c_57 => ?_)
        · skip
          refine lv_iconst (v := nI 0) hx hb dX3_longFrameAt_65 (by decide) ?_
          exact W.iret (v := nI 0) hx hb hr (fun tz htz hWz => ⟨_, rfl, by rw [clsl_wait (by omega) (by omega)]; rfl, htz⟩) (fun _ h => absurd h List.not_mem_nil) dX3_longFrameAt_66
        · skip
          refine lv_iload_n hx hb dX3_longFrameAt_60 rfl (lv_at hl 3 rfl) ?_
          refine lv_iload_n hx hb dX3_longFrameAt_61 rfl (lv_at hl 0 rfl) ?_
          refine rn_ge (tgt := 67) hx hb dX3_longFrameAt_62 (by decide) (by omega) (by omega) (fun c_62 => ?_) (fun c_62 => ?_)
          · skip
            refine lv_aload_n hx hb dX3_longFrameAt_67 rfl (lv_at hl 1 rfl) ?_
            refine lv_iload_n hx hb dX3_longFrameAt_68 rfl (lv_at hl 2 rfl) ?_
            refine lv_iload_n hx hb dX3_longFrameAt_69 rfl (lv_at hl 2 rfl) ?_
            refine lv_iload_n hx hb dX3_longFrameAt_70 rfl (lv_at hl 0 rfl) ?_
            refine lv_iadd hx hb dX3_longFrameAt_71 ?_
            refine r_i (v := nI (s + (3 + (bs.getD (s + 2) 0) + 3))) (nI_add _ _) ?_
            refine lv_iconst (v := nI 3) hx hb dX3_longFrameAt_72 (by decide) ?_
            refine lv_isub hx hb dX3_longFrameAt_73 ?_
            refine r_i (v := nI (s + (3 + (bs.getD (s + 2) 0) + 3) - 3)) (pk_sub (by omega)) ?_
            refine r_callVi (As := [.int (nI s), .int (nI (s + (3 + (bs.getD (s + 2) 0) + 3) - 3))]) (rest := []) ⟨hx, hb, hml, hown, hts⟩ (c_X3_longCheckHolds (zl := zl) (D := D) (cI := cI) (cD := cD) a b n f bs s (s + (3 + (bs.getD (s + 2) 0) + 3) - 3) ((3 + bs.getD (s + 2) 0 + 3) - 3) (by first | assumption | omega) (by first | assumption | omega) (by first | assumption | omega) (by first | assumption | omega) (by omega) (by omega)) (cwV 2 hts gX3_longFrameAt_X3_longCheckHolds rfl rfl rfl (by decide +kernel) ⟨Nat.le_of_ble_eq_true rfl, Nat.le_of_ble_eq_true rfl⟩) hK hN hP hD [0, 1] rfl rfl 0 rfl rfl rfl hl.1 rfl (Nat.le_of_ble_eq_true rfl) dX3_longFrameAt_74 ⟨Nat.le_of_ble_eq_true rfl, Nat.le_of_ble_eq_true rfl⟩ (fun r_3 h_3 => ?_)
            obtain rfl := h_3
            have t9 := tf_lt (lok (bs.drop s) ((3 + bs.getD (s + 2) 0 + 3) - 3 + 3))
            refine rz_eq (tgt := 84) hx hb dX3_longFrameAt_77 (by decide) (by omega) (fun c_77 => ?_) (fun c_77 => ?_)
            · skip
              refine lv_iconst (v := (-1)) hx hb dX3_longFrameAt_84 (by decide) ?_
              exact W.iret (v := -1) hx hb hr (fun tz htz hWz => ⟨_, rfl, by rw [clsl_bad (by omega) (by omega) (by omega) (by rw [e2, show 6 + bs.getD (s + 2) 0 = (3 + bs.getD (s + 2) 0 + 3) - 3 + 3 by omega]; exact tf_of0 c_77)]; rfl, htz⟩) (fun _ h => absurd h List.not_mem_nil) dX3_longFrameAt_85
            · skip
              refine lv_iload_n hx hb dX3_longFrameAt_80 rfl (lv_at hl 0 rfl) ?_
              refine lv_goto (tgt := 85) hx hb dX3_longFrameAt_81 (by decide) ?_
              exact W.iret (v := nI (3 + (bs.getD (s + 2) 0) + 3)) hx hb hr (fun tz htz hWz => ⟨_, rfl, by rw [clsl_yes (by omega) (by omega) (by omega) (by rw [e2, show 6 + bs.getD (s + 2) 0 = (3 + bs.getD (s + 2) 0 + 3) - 3 + 3 by omega]; exact tf_of1 c_77), e2, enc_n (by omega)]; exact congrArg nI (by omega), htz⟩) (fun _ h => absurd h List.not_mem_nil) dX3_longFrameAt_85
          · skip
            refine lv_iconst (v := nI 0) hx hb dX3_longFrameAt_65 (by decide) ?_
            exact W.iret (v := nI 0) hx hb hr (fun tz htz hWz => ⟨_, rfl, by rw [clsl_wait (by omega) (by omega)]; rfl, htz⟩) (fun _ h => absurd h List.not_mem_nil) dX3_longFrameAt_66
  refine lv_aload_n hx hb dX3_longFrameAt_0 rfl (lv_at hl 0 rfl) ?_
  refine va_get (D := D) (ci := 3) (v := .int (nI n)) (C := RX3) (T := TX3) (N := 2) hx hb hts hin3 hown hK hP 0 rfl rfl 1 (by decide) (hts (.fieldLink RX3 13 "EpochSifter$Stream" "kept" "I") (by decide +kernel)) (fun _ h9 => h9) rfl dX3_longFrameAt_1 ?_
  refine lv_iload_n hx hb dX3_longFrameAt_4 rfl (lv_at hl 1 rfl) ?_
  refine lv_isub hx hb dX3_longFrameAt_5 ?_
  refine r_i (v := nI (n - s)) (pk_sub (by omega)) ?_
  refine lv_istore_n (lv' := [(2, .int (nI (n - s))), (0, .ref a), (1, .int (nI s))]) hx hb dX3_longFrameAt_6 rfl hl (by decide) rfl (fun ls hl => ?_)
  refine lv_iload_n hx hb dX3_longFrameAt_7 rfl (lv_at hl 0 rfl) ?_
  refine lv_iconst (v := nI 1) hx hb dX3_longFrameAt_8 (by decide) ?_
  refine rn_le (tgt := 24) hx hb dX3_longFrameAt_9 (by decide) (by omega) (by omega) (fun c_9 => ?_) (fun c_9 => ?_)
  · skip
    exact (cuts _).1 (by first | assumption | omega) (Nat.lt_succ_self _) ls (lv_sub hl [1, 2, 0] rfl)
  · skip
    refine lv_aload_n hx hb dX3_longFrameAt_12 rfl (lv_at hl 1 rfl) ?_
    refine lv_iload_n hx hb dX3_longFrameAt_13 rfl (lv_at hl 2 rfl) ?_
    refine lv_iconst (v := nI 1) hx hb dX3_longFrameAt_14 (by decide) ?_
    refine lv_iadd hx hb dX3_longFrameAt_15 ?_
    refine r_i (v := nI (s + 1)) (nI_add _ _) ?_
    refine r_callVi (As := [.int (nI (s + 1))]) (rest := []) ⟨hx, hb, hml, hown, hts⟩ (c_X3_at (zl := zl) (D := D) (cI := cI) (cD := cD) a b n f bs (s + 1) (by first | assumption | omega) (by first | assumption | omega) (by first | assumption | omega) (by first | assumption | omega)) (cwV 1 hts gX3_longFrameAt_X3_at rfl rfl rfl (by decide +kernel) ⟨Nat.le_of_ble_eq_true rfl, Nat.le_of_ble_eq_true rfl⟩) hK hN hP hD [0, 1] rfl rfl 0 rfl rfl rfl hl.1 rfl (Nat.le_of_ble_eq_true rfl) dX3_longFrameAt_16 ⟨Nat.le_of_ble_eq_true rfl, Nat.le_of_ble_eq_true rfl⟩ (fun r_4 h_4 => ?_)
    obtain rfl := h_4
    refine rz_eq (tgt := 24) hx hb dX3_longFrameAt_19 (by decide) (by omega) (fun c_19 => ?_) (fun c_19 => ?_)
    · skip
      exact (cuts _).1 (by first | assumption | omega) (Nat.lt_succ_self _) ls (lv_sub hl [1, 2, 0] rfl)
    · skip
      refine lv_iconst (v := (-1)) hx hb dX3_longFrameAt_22 (by decide) ?_
      exact W.iret (v := -1) hx hb hr (fun tz htz hWz => ⟨_, rfl, by rw [clsl_no (by omega)]; rfl, htz⟩) (fun _ h => absurd h List.not_mem_nil) dX3_longFrameAt_23
set_option maxHeartbeats 4000000 in
set_option maxRecDepth 100000 in
/-- a short frame at s -/
theorem c_X3_shortFrameAt {zl : Launch} {D : va_G} {cI cD : ClassId} (a : Nat) (b : Nat) (n : Nat) (f : Nat → Int32) (bs : List Nat) (s : Nat) (hf : Rp f bs) (hbn : bs.length = n) (hn : n ≤ 140) (hB : By bs) (hs : s < n) : Ci zl yX3_shortFrameAt wsX3_shortFrameAt ({ frames := 2, cells := 0, slots := 0, locals := 46 }) D cI cD [.ref a, .int (nI s)] [(a, .inr (3, [.ref b, .int (nI n)])), (b, .inl (cI, 140, .inl f))] (fun r => r = enc (clss (bs.drop s))) := by
  refine Met.ofW (cc := cX3_shortFrameAt) (maxL := 4) (ret := (some .int)) (by decide) rfl ?_
  intro zp ze zs zm zargs zb zt zc zs₁ B hml hv
  obtain ⟨rfl, hP, hK, hD0, hN⟩ := hv
  have hx := B.exec
  have hb := B.bytes
  have hr := B.returns
  have hts := atoms_spec (ws := wsX3_shortFrameAt) B.pre
  have hown : zs.vm.findClass RX3 = some zm.cls := findClass_of_methodNamed B.named
  have hlocks := B.notSynchronized
  have hD := inW_self hD0
  have hS : va_S (inW [(a, .inr (3, [.ref b, .int (nI n)])), (b, .inl (cI, 140, .inl f))]) zs.heap zs.heap [] := va_S.rf
  have hl := lv_entry [.ref a, .int (nI s)] (n := 4) (Nat.le_of_ble_eq_true rfl)
  rw [lg_entry_eq]
  generalize (lg_sl [.ref a, .int (nI s)] ++ List.replicate (4 - (lg_sl [.ref a, .int (nI s)]).length) Slot.unset).toArray = ls at hl ⊢
  have hl : lv_has ls 4 [(0, .ref a), (1, .int (nI s))] := hl
  have hin3 : ∀ w ∈ u_ws RX3 TX3 2, w ∈ wsX3_shortFrameAt := by decide +kernel
  have e0 : (bs.drop s).length = n - s := by rw [List.length_drop, hbn]
  have e1 := gd_drop bs s 1
  have e2 := gd_drop bs s 2
  have e4 := gd_drop bs s 4
  have e5 := gd_drop bs s 5
  have b1 := hB (s + 1)
  have b2 := hB (s + 2)
  have b4 := hB (s + 4)
  have b5 := hB (s + 5)
  have cuts : ∀ fuel : Nat, ((¬ (1 < n - s ∧ bs.getD (s + 1) 0 ≠ 98)) → 3 < fuel → ∀ (ls : Array Slot), lv_has ls 4 [(0, .ref a), (1, .int (nI s)), (2, .int (nI (n - s)))] → W zp zl ze ({ frames := 2, cells := 0, slots := 0, locals := 46 }) zs zm [.ref a, .int (nI s)].toArray zb zt zc zs.heap [] 0 0 (MQ zb (vp_Si (fun r => r = enc (clss (bs.drop s)))) [.ref a, .int (nI s)].toArray zs 0 0 (fun _ => False)) (F0 zm 26 ls [])) ∧ ((¬ (1 < n - s ∧ bs.getD (s + 1) 0 ≠ 98)) → (¬ (4 < n - s ∧ 90 < bs.getD (s + 4) 0)) → 2 < fuel → ∀ (ls : Array Slot), lv_has ls 4 [(0, .ref a), (1, .int (nI s)), (2, .int (nI (n - s)))] → W zp zl ze ({ frames := 2, cells := 0, slots := 0, locals := 46 }) zs zm [.ref a, .int (nI s)].toArray zb zt zc zs.heap [] 0 0 (MQ zb (vp_Si (fun r => r = enc (clss (bs.drop s)))) [.ref a, .int (nI s)].toArray zs 0 0 (fun _ => False)) (F0 zm 45 ls [])) ∧ ((¬ (1 < n - s ∧ bs.getD (s + 1) 0 ≠ 98)) → (¬ (4 < n - s ∧ 90 < bs.getD (s + 4) 0)) → (¬ (5 < n - s ∧ 0 < bs.getD (s + 5) 0)) → 1 < fuel → ∀ (ls : Array Slot), lv_has ls 4 [(0, .ref a), (1, .int (nI s)), (2, .int (nI (n - s)))] → W zp zl ze ({ frames := 2, cells := 0, slots := 0, locals := 46 }) zs zm [.ref a, .int (nI s)].toArray zb zt zc zs.heap [] 0 0 (MQ zb (vp_Si (fun r => r = enc (clss (bs.drop s)))) [.ref a, .int (nI s)].toArray zs 0 0 (fun _ => False)) (F0 zm 62 ls [])) := by
    intro fuel
    induction fuel with
    | zero => exact ⟨(by intros; exact absurd (by assumption) (Nat.not_lt_zero _)), (by intros; exact absurd (by assumption) (Nat.not_lt_zero _)), (by intros; exact absurd (by assumption) (Nat.not_lt_zero _))⟩
    | succ fuel ih =>
      refine ⟨?_, ?_, ?_⟩
      · intro h1 hm ls hl
        refine lv_iload_n hx hb dX3_shortFrameAt_26 rfl (lv_at hl 2 rfl) ?_
        refine lv_iconst (v := nI 4) hx hb dX3_shortFrameAt_27 (by decide) ?_
        refine rn_le (tgt := 45) hx hb dX3_shortFrameAt_28 (by decide) (by omega) (by omega) (fun c_28 => ?_) (fun c_28 => ?_)
        · skip
          exact ih.2.1 (by first | assumption | omega) (by first | assumption | omega) (by omega) ls (lv_sub hl [0, 1, 2] rfl)
        · skip
          refine lv_aload_n hx hb dX3_shortFrameAt_31 rfl (lv_at hl 0 rfl) ?_
          refine lv_iload_n hx hb dX3_shortFrameAt_32 rfl (lv_at hl 1 rfl) ?_
          refine lv_iconst (v := nI 4) hx hb dX3_shortFrameAt_33 (by decide) ?_
          refine lv_iadd hx hb dX3_shortFrameAt_34 ?_
          refine r_i (v := nI (s + 4)) (nI_add _ _) ?_
          refine r_callVi (As := [.int (nI (s + 4))]) (rest := []) ⟨hx, hb, hml, hown, hts⟩ (c_X3_at (zl := zl) (D := D) (cI := cI) (cD := cD) a b n f bs (s + 4) (by first | assumption | omega) (by first | assumption | omega) (by first | assumption | omega) (by first | assumption | omega)) (cwV 1 hts gX3_shortFrameAt_X3_at rfl rfl rfl (by decide +kernel) ⟨Nat.le_of_ble_eq_true rfl, Nat.le_of_ble_eq_true rfl⟩) hK hN hP hD [0, 1] rfl rfl 0 rfl rfl rfl hl.1 rfl (Nat.le_of_ble_eq_true rfl) dX3_shortFrameAt_35 ⟨Nat.le_of_ble_eq_true rfl, Nat.le_of_ble_eq_true rfl⟩ (fun r_1 h_1 => ?_)
          obtain rfl := h_1
          refine lv_bipush (v := nI 90) hx hb dX3_shortFrameAt_38 (by decide) ?_
          refine rn_le (tgt := 45) hx hb dX3_shortFrameAt_40 (by decide) (by omega) (by omega) (fun c_40 => ?_) (fun c_40 => ?_)
          · skip
            exact ih.2.1 (by first | assumption | omega) (by first | assumption | omega) (by omega) ls (lv_sub hl [0, 1, 2] rfl)
          · skip
            refine lv_iconst (v := (-1)) hx hb dX3_shortFrameAt_43 (by decide) ?_
            exact W.iret (v := -1) hx hb hr (fun tz htz hWz => ⟨_, rfl, by rw [clss_no (by omega)]; rfl, htz⟩) (fun _ h => absurd h List.not_mem_nil) dX3_shortFrameAt_44
      · intro h1 h2 hm ls hl
        refine lv_iload_n hx hb dX3_shortFrameAt_45 rfl (lv_at hl 2 rfl) ?_
        refine lv_iconst (v := nI 5) hx hb dX3_shortFrameAt_46 (by decide) ?_
        refine rn_le (tgt := 62) hx hb dX3_shortFrameAt_47 (by decide) (by omega) (by omega) (fun c_47 => ?_) (fun c_47 => ?_)
        · skip
          exact ih.2.2 (by first | assumption | omega) (by first | assumption | omega) (by first | assumption | omega) (by omega) ls (lv_sub hl [0, 1, 2] rfl)
        · skip
          refine lv_aload_n hx hb dX3_shortFrameAt_50 rfl (lv_at hl 0 rfl) ?_
          refine lv_iload_n hx hb dX3_shortFrameAt_51 rfl (lv_at hl 1 rfl) ?_
          refine lv_iconst (v := nI 5) hx hb dX3_shortFrameAt_52 (by decide) ?_
          refine lv_iadd hx hb dX3_shortFrameAt_53 ?_
          refine r_i (v := nI (s + 5)) (nI_add _ _) ?_
          refine r_callVi (As := [.int (nI (s + 5))]) (rest := []) ⟨hx, hb, hml, hown, hts⟩ (c_X3_at (zl := zl) (D := D) (cI := cI) (cD := cD) a b n f bs (s + 5) (by first | assumption | omega) (by first | assumption | omega) (by first | assumption | omega) (by first | assumption | omega)) (cwV 1 hts gX3_shortFrameAt_X3_at rfl rfl rfl (by decide +kernel) ⟨Nat.le_of_ble_eq_true rfl, Nat.le_of_ble_eq_true rfl⟩) hK hN hP hD [0, 1] rfl rfl 0 rfl rfl rfl hl.1 rfl (Nat.le_of_ble_eq_true rfl) dX3_shortFrameAt_54 ⟨Nat.le_of_ble_eq_true rfl, Nat.le_of_ble_eq_true rfl⟩ (fun r_2 h_2 => ?_)
          obtain rfl := h_2
          refine rz_eq (tgt := 62) hx hb dX3_shortFrameAt_57 (by decide) (by omega) (fun c_57 => ?_) (fun c_57 => ?_)
          · skip
            exact ih.2.2 (by first | assumption | omega) (by first | assumption | omega) (by first | assumption | omega) (by omega) ls (lv_sub hl [0, 1, 2] rfl)
          · skip
            refine lv_iconst (v := (-1)) hx hb dX3_shortFrameAt_60 (by decide) ?_
            exact W.iret (v := -1) hx hb hr (fun tz htz hWz => ⟨_, rfl, by rw [clss_no (by omega)]; rfl, htz⟩) (fun _ h => absurd h List.not_mem_nil) dX3_shortFrameAt_61
      · intro h1 h2 h3 hm ls hl
        refine lv_bipush (v := nI 6) hx hb dX3_shortFrameAt_62 (by decide) ?_
        refine lv_aload_n hx hb dX3_shortFrameAt_64 rfl (lv_at hl 0 rfl) ?_
        refine lv_iload_n hx hb dX3_shortFrameAt_65 rfl (lv_at hl 1 rfl) ?_
        refine lv_iconst (v := nI 4) hx hb dX3_shortFrameAt_66 (by decide) ?_
        refine lv_iadd hx hb dX3_shortFrameAt_67 ?_
        refine r_i (v := nI (s + 4)) (nI_add _ _) ?_
        refine r_callVi (As := [.int (nI (s + 4))]) (rest := [.int (nI 6)]) ⟨hx, hb, hml, hown, hts⟩ (c_X3_at (zl := zl) (D := D) (cI := cI) (cD := cD) a b n f bs (s + 4) (by first | assumption | omega) (by first | assumption | omega) (by first | assumption | omega) (by first | assumption | omega)) (cwV 1 hts gX3_shortFrameAt_X3_at rfl rfl rfl (by decide +kernel) ⟨Nat.le_of_ble_eq_true rfl, Nat.le_of_ble_eq_true rfl⟩) hK hN hP hD [0, 1] rfl rfl 0 rfl rfl rfl hl.1 rfl (Nat.le_of_ble_eq_true rfl) dX3_shortFrameAt_68 ⟨Nat.le_of_ble_eq_true rfl, Nat.le_of_ble_eq_true rfl⟩ (fun r_3 h_3 => ?_)
        obtain rfl := h_3
        refine lv_iadd hx hb dX3_shortFrameAt_71 ?_
        refine r_i (v := nI (6 + (bs.getD (s + 4) 0))) (nI_add _ _) ?_
        refine lv_iconst (v := nI 2) hx hb dX3_shortFrameAt_72 (by decide) ?_
        refine lv_iadd hx hb dX3_shortFrameAt_73 ?_
        refine r_i (v := nI (6 + (bs.getD (s + 4) 0) + 2)) (nI_add _ _) ?_
        refine lv_istore_n (lv' := [(3, .int (nI (6 + (bs.getD (s + 4) 0) + 2))), (0, .ref a), (1, .int (nI s)), (2, .int (nI (n - s)))]) hx hb dX3_shortFrameAt_74 rfl hl (by decide) rfl (fun ls hl => ?_)
        refine lv_iload_n hx hb dX3_shortFrameAt_75 rfl (lv_at hl 3 rfl) ?_
        refine lv_bipush (v := nI 6) hx hb dX3_shortFrameAt_76 (by decide) ?_
        refine rn_lt (tgt := 86) hx hb dX3_shortFrameAt_78 (by decide) (by omega) (by omega) (fun c_78 => ?_) (fun c_78 => ?_)
        · skip
          refine lv_iconst (v := nI 0) hx hb dX3_shortFrameAt_86 (by decide) ?_
          exact W.iret (v := nI 0) hx hb hr (fun tz htz hWz => ⟨_, rfl, by rw [clss_wait (by omega) (by omega)]; rfl, htz⟩) (fun _ h => absurd h List.not_mem_nil) dX3_shortFrameAt_87
        · skip
          refine lv_iload_n hx hb dX3_shortFrameAt_81 rfl (lv_at hl 3 rfl) ?_
          refine lv_iload_n hx hb dX3_shortFrameAt_82 rfl (lv_at hl 0 rfl) ?_
          refine rn_ge (tgt := 88) hx hb dX3_shortFrameAt_83 (by decide) (by omega) (by omega) (fun c_83 => ?_) (fun c_83 => ?_)
          · skip
            refine lv_aload_n hx hb dX3_shortFrameAt_88 rfl (lv_at hl 1 rfl) ?_
            refine lv_iload_n hx hb dX3_shortFrameAt_89 rfl (lv_at hl 2 rfl) ?_
            refine lv_iconst (v := nI 2) hx hb dX3_shortFrameAt_90 (by decide) ?_
            refine lv_iadd hx hb dX3_shortFrameAt_91 ?_
            refine r_i (v := nI (s + 2)) (nI_add _ _) ?_
            refine lv_iload_n hx hb dX3_shortFrameAt_92 rfl (lv_at hl 2 rfl) ?_
            refine lv_iload_n hx hb dX3_shortFrameAt_93 rfl (lv_at hl 0 rfl) ?_
            refine lv_iadd hx hb dX3_shortFrameAt_94 ?_
            refine r_i (v := nI (s + (6 + (bs.getD (s + 4) 0) + 2))) (nI_add _ _) ?_
            refine lv_iconst (v := nI 2) hx hb dX3_shortFrameAt_95 (by decide) ?_
            refine lv_isub hx hb dX3_shortFrameAt_96 ?_
            refine r_i (v := nI (s + (6 + (bs.getD (s + 4) 0) + 2) - 2)) (pk_sub (by omega)) ?_
            refine r_callVi (As := [.int (nI (s + 2)), .int (nI (s + (6 + (bs.getD (s + 4) 0) + 2) - 2))]) (rest := []) ⟨hx, hb, hml, hown, hts⟩ (c_X3_shortCheckHolds (zl := zl) (D := D) (cI := cI) (cD := cD) a b n f bs s (s + 2) (s + (6 + (bs.getD (s + 4) 0) + 2) - 2) ((6 + bs.getD (s + 4) 0 + 2) - 4) (by first | assumption | omega) (by first | assumption | omega) (by first | assumption | omega) (by first | assumption | omega) rfl (by omega) (by omega)) (cwV 2 hts gX3_shortFrameAt_X3_shortCheckHolds rfl rfl rfl (by decide +kernel) ⟨Nat.le_of_ble_eq_true rfl, Nat.le_of_ble_eq_true rfl⟩) hK hN hP hD [0, 1] rfl rfl 0 rfl rfl rfl hl.1 rfl (Nat.le_of_ble_eq_true rfl) dX3_shortFrameAt_97 ⟨Nat.le_of_ble_eq_true rfl, Nat.le_of_ble_eq_true rfl⟩ (fun r_4 h_4 => ?_)
            obtain rfl := h_4
            have t9 := tf_lt (sok (bs.drop s) ((6 + bs.getD (s + 4) 0 + 2) - 4 + 4))
            refine rz_eq (tgt := 107) hx hb dX3_shortFrameAt_100 (by decide) (by omega) (fun c_100 => ?_) (fun c_100 => ?_)
            · skip
              refine lv_iconst (v := (-1)) hx hb dX3_shortFrameAt_107 (by decide) ?_
              exact W.iret (v := -1) hx hb hr (fun tz htz hWz => ⟨_, rfl, by rw [clss_bad (by omega) (by omega) (by omega) (by rw [e4, show 8 + bs.getD (s + 4) 0 = (6 + bs.getD (s + 4) 0 + 2) - 4 + 4 by omega]; exact tf_of0 c_100)]; rfl, htz⟩) (fun _ h => absurd h List.not_mem_nil) dX3_shortFrameAt_108
            · skip
              refine lv_iload_n hx hb dX3_shortFrameAt_103 rfl (lv_at hl 0 rfl) ?_
              refine lv_goto (tgt := 108) hx hb dX3_shortFrameAt_104 (by decide) ?_
              exact W.iret (v := nI (6 + (bs.getD (s + 4) 0) + 2)) hx hb hr (fun tz htz hWz => ⟨_, rfl, by rw [clss_yes (by omega) (by omega) (by omega) (by rw [e4, show 8 + bs.getD (s + 4) 0 = (6 + bs.getD (s + 4) 0 + 2) - 4 + 4 by omega]; exact tf_of1 c_100), e4, enc_n (by omega)]; exact congrArg nI (by omega), htz⟩) (fun _ h => absurd h List.not_mem_nil) dX3_shortFrameAt_108
          · skip
            refine lv_iconst (v := nI 0) hx hb dX3_shortFrameAt_86 (by decide) ?_
            exact W.iret (v := nI 0) hx hb hr (fun tz htz hWz => ⟨_, rfl, by rw [clss_wait (by omega) (by omega)]; rfl, htz⟩) (fun _ h => absurd h List.not_mem_nil) dX3_shortFrameAt_87
  refine lv_aload_n hx hb dX3_shortFrameAt_0 rfl (lv_at hl 0 rfl) ?_
  refine va_get (D := D) (ci := 3) (v := .int (nI n)) (C := RX3) (T := TX3) (N := 2) hx hb hts hin3 hown hK hP 0 rfl rfl 1 (by decide) (hts (.fieldLink RX3 13 "EpochSifter$Stream" "kept" "I") (by decide +kernel)) (fun _ h9 => h9) rfl dX3_shortFrameAt_1 ?_
  refine lv_iload_n hx hb dX3_shortFrameAt_4 rfl (lv_at hl 1 rfl) ?_
  refine lv_isub hx hb dX3_shortFrameAt_5 ?_
  refine r_i (v := nI (n - s)) (pk_sub (by omega)) ?_
  refine lv_istore_n (lv' := [(2, .int (nI (n - s))), (0, .ref a), (1, .int (nI s))]) hx hb dX3_shortFrameAt_6 rfl hl (by decide) rfl (fun ls hl => ?_)
  refine lv_iload_n hx hb dX3_shortFrameAt_7 rfl (lv_at hl 0 rfl) ?_
  refine lv_iconst (v := nI 1) hx hb dX3_shortFrameAt_8 (by decide) ?_
  refine rn_le (tgt := 26) hx hb dX3_shortFrameAt_9 (by decide) (by omega) (by omega) (fun c_9 => ?_) (fun c_9 => ?_)
  · skip
    exact (cuts _).1 (by first | assumption | omega) (Nat.lt_succ_self _) ls (lv_sub hl [1, 2, 0] rfl)
  · skip
    refine lv_aload_n hx hb dX3_shortFrameAt_12 rfl (lv_at hl 1 rfl) ?_
    refine lv_iload_n hx hb dX3_shortFrameAt_13 rfl (lv_at hl 2 rfl) ?_
    refine lv_iconst (v := nI 1) hx hb dX3_shortFrameAt_14 (by decide) ?_
    refine lv_iadd hx hb dX3_shortFrameAt_15 ?_
    refine r_i (v := nI (s + 1)) (nI_add _ _) ?_
    refine r_callVi (As := [.int (nI (s + 1))]) (rest := []) ⟨hx, hb, hml, hown, hts⟩ (c_X3_at (zl := zl) (D := D) (cI := cI) (cD := cD) a b n f bs (s + 1) (by first | assumption | omega) (by first | assumption | omega) (by first | assumption | omega) (by first | assumption | omega)) (cwV 1 hts gX3_shortFrameAt_X3_at rfl rfl rfl (by decide +kernel) ⟨Nat.le_of_ble_eq_true rfl, Nat.le_of_ble_eq_true rfl⟩) hK hN hP hD [0, 1] rfl rfl 0 rfl rfl rfl hl.1 rfl (Nat.le_of_ble_eq_true rfl) dX3_shortFrameAt_16 ⟨Nat.le_of_ble_eq_true rfl, Nat.le_of_ble_eq_true rfl⟩ (fun r_5 h_5 => ?_)
    obtain rfl := h_5
    refine lv_bipush (v := nI 98) hx hb dX3_shortFrameAt_19 (by decide) ?_
    refine rn_eq (tgt := 26) hx hb dX3_shortFrameAt_21 (by decide) (by omega) (by omega) (fun c_21 => ?_) (fun c_21 => ?_)
    · skip
      exact (cuts _).1 (by first | assumption | omega) (Nat.lt_succ_self _) ls (lv_sub hl [1, 2, 0] rfl)
    · skip
      refine lv_iconst (v := (-1)) hx hb dX3_shortFrameAt_24 (by decide) ?_
      exact W.iret (v := -1) hx hb hr (fun tz htz hWz => ⟨_, rfl, by rw [clss_no (by omega)]; rfl, htz⟩) (fun _ h => absurd h List.not_mem_nil) dX3_shortFrameAt_25
set_option maxHeartbeats 4000000 in
set_option maxRecDepth 100000 in
/-- what begins at s -/
theorem c_X3_frameAt {zl : Launch} {D : va_G} {cI cD : ClassId} (a : Nat) (b : Nat) (n : Nat) (f : Nat → Int32) (bs : List Nat) (s : Nat) (hf : Rp f bs) (hbn : bs.length = n) (hn : n ≤ 140) (hB : By bs) (hs : s < 2 ^ 30) : Ci zl yX3_frameAt wsX3_frameAt ({ frames := 3, cells := 0, slots := 0, locals := 70 }) D cI cD [.ref a, .int (nI s)] [(a, .inr (3, [.ref b, .int (nI n)])), (b, .inl (cI, 140, .inl f))] (fun r => r = enc (cls (bs.drop s))) := by
  refine Met.ofW (cc := cX3_frameAt) (maxL := 2) (ret := (some .int)) (by decide) rfl ?_
  intro zp ze zs zm zargs zb zt zc zs₁ B hml hv
  obtain ⟨rfl, hP, hK, hD0, hN⟩ := hv
  have hx := B.exec
  have hb := B.bytes
  have hr := B.returns
  have hts := atoms_spec (ws := wsX3_frameAt) B.pre
  have hown : zs.vm.findClass RX3 = some zm.cls := findClass_of_methodNamed B.named
  have hlocks := B.notSynchronized
  have hD := inW_self hD0
  have hS : va_S (inW [(a, .inr (3, [.ref b, .int (nI n)])), (b, .inl (cI, 140, .inl f))]) zs.heap zs.heap [] := va_S.rf
  have hl := lv_entry [.ref a, .int (nI s)] (n := 2) (Nat.le_of_ble_eq_true rfl)
  rw [lg_entry_eq]
  generalize (lg_sl [.ref a, .int (nI s)] ++ List.replicate (2 - (lg_sl [.ref a, .int (nI s)]).length) Slot.unset).toArray = ls at hl ⊢
  have hl : lv_has ls 2 [(0, .ref a), (1, .int (nI s))] := hl
  have hin3 : ∀ w ∈ u_ws RX3 TX3 2, w ∈ wsX3_frameAt := by decide +kernel
  have e0 : (bs.drop s).length = n - s := by rw [List.length_drop, hbn]
  have e1 : (bs.drop s).getD 0 0 = bs.getD s 0 := gd_drop bs s 0
  have b0 := hB s
  refine lv_iload_n hx hb dX3_frameAt_0 rfl (lv_at hl 1 rfl) ?_
  refine lv_aload_n hx hb dX3_frameAt_1 rfl (lv_at hl 0 rfl) ?_
  refine va_get (D := D) (ci := 3) (v := .int (nI n)) (C := RX3) (T := TX3) (N := 2) hx hb hts hin3 hown hK hP 0 rfl rfl 1 (by decide) (hts (.fieldLink RX3 13 "EpochSifter$Stream" "kept" "I") (by decide +kernel)) (fun _ h9 => h9) rfl dX3_frameAt_2 ?_
  refine rn_lt (tgt := 10) hx hb dX3_frameAt_5 (by decide) (by omega) (by omega) (fun c_5 => ?_) (fun c_5 => ?_)
  · skip
    refine lv_aload_n hx hb dX3_frameAt_10 rfl (lv_at hl 0 rfl) ?_
    refine lv_iload_n hx hb dX3_frameAt_11 rfl (lv_at hl 1 rfl) ?_
    refine r_callVi (As := [.int (nI s)]) (rest := []) ⟨hx, hb, hml, hown, hts⟩ (c_X3_at (zl := zl) (D := D) (cI := cI) (cD := cD) a b n f bs s (by first | assumption | omega) (by first | assumption | omega) (by first | assumption | omega) (by first | assumption | omega)) (cwV 1 hts gX3_frameAt_X3_at rfl rfl rfl (by decide +kernel) ⟨Nat.le_of_ble_eq_true rfl, Nat.le_of_ble_eq_true rfl⟩) hK hN hP hD [0, 1] rfl rfl 0 rfl rfl rfl hl.1 rfl (Nat.le_of_ble_eq_true rfl) dX3_frameAt_12 ⟨Nat.le_of_ble_eq_true rfl, Nat.le_of_ble_eq_true rfl⟩ (fun r_1 h_1 => ?_)
    obtain rfl := h_1
    rcases (show bs.getD s 0 = 181 ∨ bs.getD s 0 = 211 ∨ (bs.getD s 0 ≠ 181 ∧ bs.getD s 0 ≠ 211) from by omega) with sw15 | sw15 | sw15
    · refine lv_lookup (tgt := 46) (off := 31) hx hb dX3_frameAt_15 (by decide) (by rw [sw15]; decide) (by decide) ?_
      refine lv_aload_n hx hb dX3_frameAt_46 rfl (lv_at hl 0 rfl) ?_
      refine lv_iload_n hx hb dX3_frameAt_47 rfl (lv_at hl 1 rfl) ?_
      refine r_callVi (As := [.int (nI s)]) (rest := []) ⟨hx, hb, hml, hown, hts⟩ (c_X3_shortFrameAt (zl := zl) (D := D) (cI := cI) (cD := cD) a b n f bs s (by first | assumption | omega) (by first | assumption | omega) (by first | assumption | omega) (by first | assumption | omega) (by first | assumption | omega)) (cwV 1 hts gX3_frameAt_X3_shortFrameAt rfl rfl rfl (by decide +kernel) ⟨Nat.le_of_ble_eq_true rfl, Nat.le_of_ble_eq_true rfl⟩) hK hN hP hD [0, 1] rfl rfl 0 rfl rfl rfl hl.1 rfl (Nat.le_of_ble_eq_true rfl) dX3_frameAt_48 ⟨Nat.le_of_ble_eq_true rfl, Nat.le_of_ble_eq_true rfl⟩ (fun r_2 h_2 => ?_)
      obtain rfl := h_2
      exact W.iret (v := enc (clss (bs.drop s))) hx hb hr (fun tz htz hWz => ⟨_, rfl, by unfold cls; rw [if_neg (by omega), if_neg (by omega), if_pos (by omega)], htz⟩) (fun _ h => absurd h List.not_mem_nil) dX3_frameAt_51
    · refine lv_lookup (tgt := 40) (off := 25) hx hb dX3_frameAt_15 (by decide) (by rw [sw15]; decide) (by decide) ?_
      refine lv_aload_n hx hb dX3_frameAt_40 rfl (lv_at hl 0 rfl) ?_
      refine lv_iload_n hx hb dX3_frameAt_41 rfl (lv_at hl 1 rfl) ?_
      refine r_callVi (As := [.int (nI s)]) (rest := []) ⟨hx, hb, hml, hown, hts⟩ (c_X3_longFrameAt (zl := zl) (D := D) (cI := cI) (cD := cD) a b n f bs s (by first | assumption | omega) (by first | assumption | omega) (by first | assumption | omega) (by first | assumption | omega) (by first | assumption | omega)) (cwV 1 hts gX3_frameAt_X3_longFrameAt rfl rfl rfl (by decide +kernel) ⟨Nat.le_of_ble_eq_true rfl, Nat.le_of_ble_eq_true rfl⟩) hK hN hP hD [0, 1] rfl rfl 0 rfl rfl rfl hl.1 rfl (Nat.le_of_ble_eq_true rfl) dX3_frameAt_42 ⟨Nat.le_of_ble_eq_true rfl, Nat.le_of_ble_eq_true rfl⟩ (fun r_3 h_3 => ?_)
      obtain rfl := h_3
      exact W.iret (v := enc (clsl (bs.drop s))) hx hb hr (fun tz htz hWz => ⟨_, rfl, by unfold cls; rw [if_neg (by omega), if_pos (by omega)], htz⟩) (fun _ h => absurd h List.not_mem_nil) dX3_frameAt_45
    · refine lv_lookup (tgt := 52) (off := 37) hx hb dX3_frameAt_15 (by decide) (lookup_def (by omega) sw15) (by decide) ?_
      refine lv_iconst (v := (-1)) hx hb dX3_frameAt_52 (by decide) ?_
      exact W.iret (v := -1) hx hb hr (fun tz htz hWz => ⟨_, rfl, by unfold cls; rw [if_neg (by omega), if_neg (by omega), if_neg (by omega)]; rfl, htz⟩) (fun _ h => absurd h List.not_mem_nil) dX3_frameAt_53
  · skip
    refine lv_iconst (v := nI 0) hx hb dX3_frameAt_8 (by decide) ?_
    exact W.iret (v := nI 0) hx hb hr (fun tz htz hWz => ⟨_, rfl, by unfold cls; rw [if_pos (by omega)]; rfl, htz⟩) (fun _ h => absurd h List.not_mem_nil) dX3_frameAt_9
