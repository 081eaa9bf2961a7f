set_option maxHeartbeats 4000000 in
set_option maxRecDepth 100000 in
/-- what is kept is dealt with -/
theorem c_X5_deal {zl : Launch} {D : va_G} {cI cD : ClassId} (mo : Nat) (n : Nat) (vk : Nat) (vc : Nat) (vt : Nat) (vn : Nat) (vr : Nat) (vs : Nat) (ve : Nat) (vp : Nat) (f : Nat → Int32) (kc : Nat → Int32) (tb : Nat → Int32) (fN : Nat → Int32) (fR : Nat → UInt64) (fS : Nat → Int32) (ep : Nat → Int32) (po : Nat → Int32) (bs : List Nat) (G : Ep) (L : Ep) (P : Po) (hf : Rp f bs) (hbn : bs.length = n) (hn : n ≤ 110) (hB : By bs) (hT : Tb tb) (hM : RpM ep fN fR fS G L) (hQ : RpP po P) : Cx zl yX5_deal wsX5_deal ({ frames := 4, cells := 0, slots := 0, locals := 111 }) D cI cD [.ref mo] [(mo, .inr (5, [.int (nI n), .ref vk, .ref vc, .ref vt, .ref vn, .ref vr, .ref vs, .ref ve, .ref vp])), (vk, .inl (cI, 160, .inl f)), (vc, .inl (cI, 8, .inl kc)), (vt, .inl (cI, 256, .inl tb)), (vn, .inl (cI, 80, .inl fN)), (vr, .inl (cD, 80, .inr (.inr (.inr (.inl fR))))), (vs, .inl (cI, 80, .inl fS)), (ve, .inl (cI, 16, .inl ep)), (vp, .inl (cI, 5, .inl po))] (fun v w1 => ∃ (no : Nat), ∃ (fo : Nat → Int32), ∃ (co : Nat → Int32), ∃ (fNo : Nat → Int32), ∃ (fRo : Nat → UInt64), ∃ (fSo : Nat → Int32), ∃ (epo : Nat → Int32), ∃ (poo : Nat → Int32), ∃ (bso : List Nat), ∃ (tko : Nat), ∃ (Go : Ep), ∃ (Lo : Ep), ∃ (Po_ : Po), w1 = [(mo, .inr (5, [.int (nI no), .ref vk, .ref vc, .ref vt, .ref vn, .ref vr, .ref vs, .ref ve, .ref vp])), (vk, .inl (cI, 160, .inl fo)), (vc, .inl (cI, 8, .inl co)), (vt, .inl (cI, 256, .inl tb)), (vn, .inl (cI, 80, .inl fNo)), (vr, .inl (cD, 80, .inr (.inr (.inr (.inl fRo))))), (vs, .inl (cI, 80, .inl fSo)), (ve, .inl (cI, 16, .inl epo)), (vp, .inl (cI, 5, .inl poo))] ∧ v = some (.int (nI tko)) ∧ (bso, tko, (co, Go, Lo, Po_)) = dl (bs).length (bs) 0 (kc, G, L, P) ∧ Rp fo bso ∧ bso.length = no ∧ RpM epo fNo fRo fSo Go Lo ∧ RpP poo Po_) := by
  refine Met.ofW (cc := cX5_deal) (maxL := 5) (ret := (some .int)) (by decide) rfl ?_
  intro zp ze zs zm zargs zb zt zc zs₁ B hml hv
  obtain ⟨rfl, hP, hK, hD0, hN⟩ := hv
  have hx := B.exec
  have hb := B.bytes
  have hr := B.returns
  have hts := atoms_spec (ws := wsX5_deal) B.pre
  have hown : zs.vm.findClass RX5 = some zm.cls := findClass_of_methodNamed B.named
  have hlocks := B.notSynchronized
  have hD := inW_self hD0
  have hS : va_S (inW [(mo, .inr (5, [.int (nI n), .ref vk, .ref vc, .ref vt, .ref vn, .ref vr, .ref vs, .ref ve, .ref vp])), (vk, .inl (cI, 160, .inl f)), (vc, .inl (cI, 8, .inl kc)), (vt, .inl (cI, 256, .inl tb)), (vn, .inl (cI, 80, .inl fN)), (vr, .inl (cD, 80, .inr (.inr (.inr (.inl fR))))), (vs, .inl (cI, 80, .inl fS)), (ve, .inl (cI, 16, .inl ep)), (vp, .inl (cI, 5, .inl po))]) zs.heap zs.heap [] := va_S.rf
  have hl := lv_entry [.ref mo] (n := 5) (Nat.le_of_ble_eq_true rfl)
  rw [lg_entry_eq]
  generalize (lg_sl [.ref mo] ++ List.replicate (5 - (lg_sl [.ref mo]).length) Slot.unset).toArray = ls at hl ⊢
  have hl : lv_has ls 5 [(0, .ref mo)] := hl
  have hin5 : ∀ w ∈ u_ws RX5 TX5 9, w ∈ wsX5_deal := by decide +kernel
  have cuts : ∀ fuel : Nat, (∀ (bj : List Nat), ∀ (nj : Nat), ∀ (fj : Nat → Int32), ∀ (tk : Nat), ∀ (kcj : Nat → Int32), ∀ (fNj : Nat → Int32), ∀ (fRj : Nat → UInt64), ∀ (fSj : Nat → Int32), ∀ (epj : Nat → Int32), ∀ (poj : Nat → Int32), ∀ (Gj : Ep), ∀ (Lj : Ep), ∀ (Pj : Po), (dl bj.length bj tk (kcj, Gj, Lj, Pj) = dl bs.length bs 0 (kc, G, L, P)) → (Rp fj bj) → (bj.length = nj) → (nj ≤ 110) → (By bj) → (RpM epj fNj fRj fSj Gj Lj) → (RpP poj Pj) → (2 * nj + 1) < fuel → ∀ (H : Heap) (locs : List Loc), va_P D vwCl [(mo, .inr (5, [.int (nI nj), .ref vk, .ref vc, .ref vt, .ref vn, .ref vr, .ref vs, .ref ve, .ref vp])), (vk, .inl (cI, 160, .inl fj)), (vc, .inl (cI, 8, .inl kcj)), (vt, .inl (cI, 256, .inl tb)), (vn, .inl (cI, 80, .inl fNj)), (vr, .inl (cD, 80, .inr (.inr (.inr (.inl fRj))))), (vs, .inl (cI, 80, .inl fSj)), (ve, .inl (cI, 16, .inl epj)), (vp, .inl (cI, 5, .inl poj))] H → va_D (inW [(mo, .inr (5, [.int (nI n), .ref vk, .ref vc, .ref vt, .ref vn, .ref vr, .ref vs, .ref ve, .ref vp])), (vk, .inl (cI, 160, .inl f)), (vc, .inl (cI, 8, .inl kc)), (vt, .inl (cI, 256, .inl tb)), (vn, .inl (cI, 80, .inl fN)), (vr, .inl (cD, 80, .inr (.inr (.inr (.inl fR))))), (vs, .inl (cI, 80, .inl fS)), (ve, .inl (cI, 16, .inl ep)), (vp, .inl (cI, 5, .inl po))]) [(mo, .inr (5, [.int (nI nj), .ref vk, .ref vc, .ref vt, .ref vn, .ref vr, .ref vs, .ref ve, .ref vp])), (vk, .inl (cI, 160, .inl fj)), (vc, .inl (cI, 8, .inl kcj)), (vt, .inl (cI, 256, .inl tb)), (vn, .inl (cI, 80, .inl fNj)), (vr, .inl (cD, 80, .inr (.inr (.inr (.inl fRj))))), (vs, .inl (cI, 80, .inl fSj)), (ve, .inl (cI, 16, .inl epj)), (vp, .inl (cI, 5, .inl poj))] → va_S (inW [(mo, .inr (5, [.int (nI n), .ref vk, .ref vc, .ref vt, .ref vn, .ref vr, .ref vs, .ref ve, .ref vp])), (vk, .inl (cI, 160, .inl f)), (vc, .inl (cI, 8, .inl kc)), (vt, .inl (cI, 256, .inl tb)), (vn, .inl (cI, 80, .inl fN)), (vr, .inl (cD, 80, .inr (.inr (.inr (.inl fR))))), (vs, .inl (cI, 80, .inl fS)), (ve, .inl (cI, 16, .inl ep)), (vp, .inl (cI, 5, .inl po))]) zs.heap H locs → ∀ (ls : Array Slot), lv_has ls 5 [(0, .ref mo), (1, .int (nI tk)), (2, .int (enc (frz bj)))] → W zp zl ze ({ frames := 4, cells := 0, slots := 0, locals := 111 }) zs zm [.ref mo].toArray zb zt zc H locs 0 0 (MQ zb (Xq D [(mo, .inr (5, [.int (nI n), .ref vk, .ref vc, .ref vt, .ref vn, .ref vr, .ref vs, .ref ve, .ref vp])), (vk, .inl (cI, 160, .inl f)), (vc, .inl (cI, 8, .inl kc)), (vt, .inl (cI, 256, .inl tb)), (vn, .inl (cI, 80, .inl fN)), (vr, .inl (cD, 80, .inr (.inr (.inr (.inl fR))))), (vs, .inl (cI, 80, .inl fS)), (ve, .inl (cI, 16, .inl ep)), (vp, .inl (cI, 5, .inl po))] (fun v w1 => ∃ (no : Nat), ∃ (fo : Nat → Int32), ∃ (co : Nat → Int32), ∃ (fNo : Nat → Int32), ∃ (fRo : Nat → UInt64), ∃ (fSo : Nat → Int32), ∃ (epo : Nat → Int32), ∃ (poo : Nat → Int32), ∃ (bso : List Nat), ∃ (tko : Nat), ∃ (Go : Ep), ∃ (Lo : Ep), ∃ (Po_ : Po), w1 = [(mo, .inr (5, [.int (nI no), .ref vk, .ref vc, .ref vt, .ref vn, .ref vr, .ref vs, .ref ve, .ref vp])), (vk, .inl (cI, 160, .inl fo)), (vc, .inl (cI, 8, .inl co)), (vt, .inl (cI, 256, .inl tb)), (vn, .inl (cI, 80, .inl fNo)), (vr, .inl (cD, 80, .inr (.inr (.inr (.inl fRo))))), (vs, .inl (cI, 80, .inl fSo)), (ve, .inl (cI, 16, .inl epo)), (vp, .inl (cI, 5, .inl poo))] ∧ v = some (.int (nI tko)) ∧ (bso, tko, (co, Go, Lo, Po_)) = dl (bs).length (bs) 0 (kc, G, L, P) ∧ Rp fo bso ∧ bso.length = no ∧ RpM epo fNo fRo fSo Go Lo ∧ RpP poo Po_)) [.ref mo].toArray zs 0 0 (inW [(mo, .inr (5, [.int (nI n), .ref vk, .ref vc, .ref vt, .ref vn, .ref vr, .ref vs, .ref ve, .ref vp])), (vk, .inl (cI, 160, .inl f)), (vc, .inl (cI, 8, .inl kc)), (vt, .inl (cI, 256, .inl tb)), (vn, .inl (cI, 80, .inl fN)), (vr, .inl (cD, 80, .inr (.inr (.inr (.inl fR))))), (vs, .inl (cI, 80, .inl fS)), (ve, .inl (cI, 16, .inl ep)), (vp, .inl (cI, 5, .inl po))])) (F0 zm 18 ls [])) ∧ (∀ (bj : List Nat), ∀ (nj : Nat), ∀ (fj : Nat → Int32), ∀ (tk : Nat), ∀ (kcj : Nat → Int32), ∀ (fNj : Nat → Int32), ∀ (fRj : Nat → UInt64), ∀ (fSj : Nat → Int32), ∀ (epj : Nat → Int32), ∀ (poj : Nat → Int32), ∀ (Gj : Ep), ∀ (Lj : Ep), ∀ (Pj : Po), (dl bj.length bj tk (kcj, Gj, Lj, Pj) = dl bs.length bs 0 (kc, G, L, P)) → (Rp fj bj) → (bj.length = nj) → (nj ≤ 110) → (By bj) → (RpM epj fNj fRj fSj Gj Lj) → (RpP poj Pj) → (2 * nj + 2) < fuel → ∀ (H : Heap) (locs : List Loc), va_P D vwCl [(mo, .inr (5, [.int (nI nj), .ref vk, .ref vc, .ref vt, .ref vn, .ref vr, .ref vs, .ref ve, .ref vp])), (vk, .inl (cI, 160, .inl fj)), (vc, .inl (cI, 8, .inl kcj)), (vt, .inl (cI, 256, .inl tb)), (vn, .inl (cI, 80, .inl fNj)), (vr, .inl (cD, 80, .inr (.inr (.inr (.inl fRj))))), (vs, .inl (cI, 80, .inl fSj)), (ve, .inl (cI, 16, .inl epj)), (vp, .inl (cI, 5, .inl poj))] H → va_D (inW [(mo, .inr (5, [.int (nI n), .ref vk, .ref vc, .ref vt, .ref vn, .ref vr, .ref vs, .ref ve, .ref vp])), (vk, .inl (cI, 160, .inl f)), (vc, .inl (cI, 8, .inl kc)), (vt, .inl (cI, 256, .inl tb)), (vn, .inl (cI, 80, .inl fN)), (vr, .inl (cD, 80, .inr (.inr (.inr (.inl fR))))), (vs, .inl (cI, 80, .inl fS)), (ve, .inl (cI, 16, .inl ep)), (vp, .inl (cI, 5, .inl po))]) [(mo, .inr (5, [.int (nI nj), .ref vk, .ref vc, .ref vt, .ref vn, .ref vr, .ref vs, .ref ve, .ref vp])), (vk, .inl (cI, 160, .inl fj)), (vc, .inl (cI, 8, .inl kcj)), (vt, .inl (cI, 256, .inl tb)), (vn, .inl (cI, 80, .inl fNj)), (vr, .inl (cD, 80, .inr (.inr (.inr (.inl fRj))))), (vs, .inl (cI, 80, .inl fSj)), (ve, .inl (cI, 16, .inl epj)), (vp, .inl (cI, 5, .inl poj))] → va_S (inW [(mo, .inr (5, [.int (nI n), .ref vk, .ref vc, .ref vt, .ref vn, .ref vr, .ref vs, .ref ve, .ref vp])), (vk, .inl (cI, 160, .inl f)), (vc, .inl (cI, 8, .inl kc)), (vt, .inl (cI, 256, .inl tb)), (vn, .inl (cI, 80, .inl fN)), (vr, .inl (cD, 80, .inr (.inr (.inr (.inl fR))))), (vs, .inl (cI, 80, .inl fS)), (ve, .inl (cI, 16, .inl ep)), (vp, .inl (cI, 5, .inl po))]) zs.heap H locs → ∀ (ls : Array Slot), lv_has ls 5 [(0, .ref mo), (1, .int (nI tk))] → W zp zl ze ({ frames := 4, cells := 0, slots := 0, locals := 111 }) zs zm [.ref mo].toArray zb zt zc H locs 0 0 (MQ zb (Xq D [(mo, .inr (5, [.int (nI n), .ref vk, .ref vc, .ref vt, .ref vn, .ref vr, .ref vs, .ref ve, .ref vp])), (vk, .inl (cI, 160, .inl f)), (vc, .inl (cI, 8, .inl kc)), (vt, .inl (cI, 256, .inl tb)), (vn, .inl (cI, 80, .inl fN)), (vr, .inl (cD, 80, .inr (.inr (.inr (.inl fR))))), (vs, .inl (cI, 80, .inl fS)), (ve, .inl (cI, 16, .inl ep)), (vp, .inl (cI, 5, .inl po))] (fun v w1 => ∃ (no : Nat), ∃ (fo : Nat → Int32), ∃ (co : Nat → Int32), ∃ (fNo : Nat → Int32), ∃ (fRo : Nat → UInt64), ∃ (fSo : Nat → Int32), ∃ (epo : Nat → Int32), ∃ (poo : Nat → Int32), ∃ (bso : List Nat), ∃ (tko : Nat), ∃ (Go : Ep), ∃ (Lo : Ep), ∃ (Po_ : Po), w1 = [(mo, .inr (5, [.int (nI no), .ref vk, .ref vc, .ref vt, .ref vn, .ref vr, .ref vs, .ref ve, .ref vp])), (vk, .inl (cI, 160, .inl fo)), (vc, .inl (cI, 8, .inl co)), (vt, .inl (cI, 256, .inl tb)), (vn, .inl (cI, 80, .inl fNo)), (vr, .inl (cD, 80, .inr (.inr (.inr (.inl fRo))))), (vs, .inl (cI, 80, .inl fSo)), (ve, .inl (cI, 16, .inl epo)), (vp, .inl (cI, 5, .inl poo))] ∧ v = some (.int (nI tko)) ∧ (bso, tko, (co, Go, Lo, Po_)) = dl (bs).length (bs) 0 (kc, G, L, P) ∧ Rp fo bso ∧ bso.length = no ∧ RpM epo fNo fRo fSo Go Lo ∧ RpP poo Po_)) [.ref mo].toArray zs 0 0 (inW [(mo, .inr (5, [.int (nI n), .ref vk, .ref vc, .ref vt, .ref vn, .ref vr, .ref vs, .ref ve, .ref vp])), (vk, .inl (cI, 160, .inl f)), (vc, .inl (cI, 8, .inl kc)), (vt, .inl (cI, 256, .inl tb)), (vn, .inl (cI, 80, .inl fN)), (vr, .inl (cD, 80, .inr (.inr (.inr (.inl fR))))), (vs, .inl (cI, 80, .inl fS)), (ve, .inl (cI, 16, .inl ep)), (vp, .inl (cI, 5, .inl po))])) (F0 zm 145 ls [])) := by
    intro fuel
    induction fuel with
    | zero => exact ⟨(by intros; exact absurd (by assumption) (Nat.not_lt_zero _)), (by intros; exact absurd (by assumption) (Nat.not_lt_zero _))⟩
    | succ fuel ih =>
      refine ⟨?_, ?_⟩
      · intro bj nj fj tk kcj fNj fRj fSj epj poj Gj Lj Pj hdl hfj hnj hnn hBj hMj hQj hm H locs hP hD hS ls hl
        have b0 := hBj 0
        have hzb := frz_big bj
        refine lv_iload_n hx hb dX5_deal_18 rfl (lv_at hl 2 rfl) ?_
        refine lv_if_eq (tgt := 164) hx hb dX5_deal_19 (by decide) (fun c_19 => ?_) (fun c_19 => ?_)
        · skip
          have hc0 : cls bj = 0 := frz_0 (enc_z (frz_lt _) c_19)
          refine lv_iload_n hx hb dX5_deal_164 rfl (lv_at hl 1 rfl) ?_
          exact W.iret (v := nI tk) hx hb hr (fun tz htz hWz => ⟨some (.int (nI tk)), [(mo, .inr (5, [.int (nI nj), .ref vk, .ref vc, .ref vt, .ref vn, .ref vr, .ref vs, .ref ve, .ref vp])), (vk, .inl (cI, 160, .inl fj)), (vc, .inl (cI, 8, .inl kcj)), (vt, .inl (cI, 256, .inl tb)), (vn, .inl (cI, 80, .inl fNj)), (vr, .inl (cD, 80, .inr (.inr (.inr (.inl fRj))))), (vs, .inl (cI, 80, .inl fSj)), (ve, .inl (cI, 16, .inl epj)), (vp, .inl (cI, 5, .inl poj))], rfl, ⟨_, _, _, _, _, _, _, _, bj, _, Gj, Lj, Pj, rfl, rfl, by rw [← hdl, dl_wait hc0], hfj, hnj, hMj, hQj⟩, rfl, by rw [htz]; exact hP, hS.F htz⟩) (fun q h => hS.2.2 q h) dX5_deal_165
        · skip
          have hz0 : frz bj ≠ 0 := fun z => c_19 (by rw [z]; rfl)
          by_cases h1 : frz bj = 1
          · skip
            have hl0 : bj.length ≠ 0 := fun z => by (unfold frz at h1); rw [if_pos z] at h1; cases h1
            have el_1 : enc (frz bj) = -1 := by rw [h1]; rfl
            have hl : lv_has ls 5 [(0, .ref mo), (1, .int (nI tk)), (2, .int (-1))] := by rw [← el_1]; exact hl
            refine lv_iload_n hx hb dX5_deal_22 rfl (lv_at hl 2 rfl) ?_
            refine lv_aload_n hx hb dX5_deal_23 rfl (lv_at hl 0 rfl) ?_
            refine va_get (D := D) (ci := 5) (v := .int (nI nj)) (C := RX5) (T := TX5) (N := 9) hx hb hts hin5 hown hK hP 0 rfl rfl 0 (by decide) (hts (.fieldLink RX5 42 "EpochSifterModel" "size" "I") (by decide +kernel)) (fun _ h9 => h9) rfl dX5_deal_24 ?_
            refine lv_icmp_gt (tgt := 164) hx hb dX5_deal_27 (by decide) (fun c_27 => ?_) (fun c_27 => ?_)
            · exact absurd c_27 (m1_gt (by omega))
            · skip
              refine lv_aload_n hx hb dX5_deal_30 rfl (lv_at hl 0 rfl) ?_
              refine va_get (D := D) (ci := 5) (v := .ref vk) (C := RX5) (T := TX5) (N := 9) hx hb hts hin5 hown hK hP 0 rfl rfl 1 (by decide) (hts (.fieldLink RX5 7 "EpochSifterModel" "kept" "[I") (by decide +kernel)) (fun _ h9 => h9) rfl dX5_deal_31 ?_
              refine lv_iconst (v := nI 0) hx hb dX5_deal_34 (by decide) ?_
              refine a_ild (v := nI (bj.getD 0 0)) hx hb hK hP 1 0 rfl rfl (by omega) (by decide) (hfj 0 (by omega)) dX5_deal_35 ?_
              refine lv_sipush (v := nI 211) hx hb dX5_deal_36 (by decide) ?_
              refine rn_ne (tgt := 46) hx hb dX5_deal_39 (by decide) (by omega) (by omega) (fun c_39 => ?_) (fun c_39 => ?_)
              · skip
                refine lv_iconst (v := nI 0) hx hb dX5_deal_46 (by decide) ?_
                refine lv_istore_n (lv' := [(3, .int (nI 0)), (0, .ref mo), (1, .int (nI tk)), (2, .int (-1))]) hx hb dX5_deal_47 rfl hl (by decide) rfl (fun ls hl => ?_)
                refine lv_iload_n hx hb dX5_deal_48 rfl (lv_at hl 3 rfl) ?_
                refine lv_if_le (tgt := 79) hx hb dX5_deal_49 (by decide) (fun c_49 => ?_) (fun c_49 => ?_)
                · skip
                  have hc1 := frz_1 h1
                  refine lv_iconst (v := nI 0) hx hb dX5_deal_79 (by decide) ?_
                  refine lv_istore (lv' := [(4, .int (nI 0)), (3, .int (nI 0)), (0, .ref mo), (1, .int (nI tk)), (2, .int (-1))]) hx hb dX5_deal_80 hl (by decide) rfl (fun ls hl => ?_)
                  refine lv_iload hx hb dX5_deal_82 (lv_at hl 0 rfl) ?_
                  refine rz_ne (tgt := 100) hx hb dX5_deal_84 (by decide) (by omega) (fun c_84 => ?_) (fun c_84 => ?_)
                  · omega
                  · skip
                    refine lv_aload_n hx hb dX5_deal_87 rfl (lv_at hl 2 rfl) ?_
                    refine lv_iconst (v := nI 2) hx hb dX5_deal_88 (by decide) ?_
                    refine x_callV (As := [.int (nI 2)]) (rest := []) ⟨hx, hb, hml, hown, hts⟩ (c_X5_bump (zl := zl) (D := D) (cI := cI) (cD := cD) mo nj vk vc vt vn vr vs ve vp kcj 2 (by decide)) (cwV 1 hts gX5_deal_X5_bump rfl rfl rfl (by decide +kernel) ⟨Nat.le_of_ble_eq_true rfl, Nat.le_of_ble_eq_true rfl⟩) hK hN hP hD hS [0, 2] rfl rfl 0 rfl rfl rfl hl.1 rfl (Nat.le_of_ble_eq_true rfl) dX5_deal_89 ⟨Nat.le_of_ble_eq_true rfl, Nat.le_of_ble_eq_true rfl⟩ (fun v_2 w_2 H locs hr_2 hP hD hS => ?_)
                    obtain ⟨rfl, rfl⟩ := hr_2
                    refine W.eq (g2 := F0 zm 92 ls []) rfl ?_
                    have hP : va_P D vwCl [(mo, .inr (5, [.int (nI nj), .ref vk, .ref vc, .ref vt, .ref vn, .ref vr, .ref vs, .ref ve, .ref vp])), (vk, .inl (cI, 160, .inl fj)), (vc, .inl (cI, 8, .inl (bmp kcj 2))), (vt, .inl (cI, 256, .inl tb)), (vn, .inl (cI, 80, .inl fNj)), (vr, .inl (cD, 80, .inr (.inr (.inr (.inl fRj))))), (vs, .inl (cI, 80, .inl fSj)), (ve, .inl (cI, 16, .inl epj)), (vp, .inl (cI, 5, .inl poj))] _ := hP
                    have hD : va_D (inW [(mo, .inr (5, [.int (nI n), .ref vk, .ref vc, .ref vt, .ref vn, .ref vr, .ref vs, .ref ve, .ref vp])), (vk, .inl (cI, 160, .inl f)), (vc, .inl (cI, 8, .inl kc)), (vt, .inl (cI, 256, .inl tb)), (vn, .inl (cI, 80, .inl fN)), (vr, .inl (cD, 80, .inr (.inr (.inr (.inl fR))))), (vs, .inl (cI, 80, .inl fS)), (ve, .inl (cI, 16, .inl ep)), (vp, .inl (cI, 5, .inl po))]) [(mo, .inr (5, [.int (nI nj), .ref vk, .ref vc, .ref vt, .ref vn, .ref vr, .ref vs, .ref ve, .ref vp])), (vk, .inl (cI, 160, .inl fj)), (vc, .inl (cI, 8, .inl (bmp kcj 2))), (vt, .inl (cI, 256, .inl tb)), (vn, .inl (cI, 80, .inl fNj)), (vr, .inl (cD, 80, .inr (.inr (.inr (.inl fRj))))), (vs, .inl (cI, 80, .inl fSj)), (ve, .inl (cI, 16, .inl epj)), (vp, .inl (cI, 5, .inl poj))] := hD
                    refine lv_aload_n hx hb dX5_deal_92 rfl (lv_at hl 2 rfl) ?_
                    refine lv_iconst (v := nI 1) hx hb dX5_deal_93 (by decide) ?_
                    refine x_callV (As := [.int (nI 1)]) (rest := []) ⟨hx, hb, hml, hown, hts⟩ (c_X5_drop (zl := zl) (D := D) (cI := cI) (cD := cD) mo nj vk vc vt vn vr vs ve vp fj bj 1 hfj hnj (by omega) hBj (by omega)) (cwV 1 hts gX5_deal_X5_drop rfl rfl rfl (by decide +kernel) ⟨Nat.le_of_ble_eq_true rfl, Nat.le_of_ble_eq_true rfl⟩) hK hN hP hD hS [0, 1] rfl rfl 0 rfl rfl rfl hl.1 rfl (Nat.le_of_ble_eq_true rfl) dX5_deal_94 ⟨Nat.le_of_ble_eq_true rfl, Nat.le_of_ble_eq_true rfl⟩ (fun v_3 w_3 H locs hr_3 hP hD hS => ?_)
                    obtain ⟨fd, rfl, rfl, hfd⟩ := hr_3
                    refine W.eq (g2 := F0 zm 97 ls []) rfl ?_
                    have hP : va_P D vwCl [(mo, .inr (5, [.int (nI (nj - 1)), .ref vk, .ref vc, .ref vt, .ref vn, .ref vr, .ref vs, .ref ve, .ref vp])), (vk, .inl (cI, 160, .inl fd)), (vc, .inl (cI, 8, .inl (bmp kcj 2))), (vt, .inl (cI, 256, .inl tb)), (vn, .inl (cI, 80, .inl fNj)), (vr, .inl (cD, 80, .inr (.inr (.inr (.inl fRj))))), (vs, .inl (cI, 80, .inl fSj)), (ve, .inl (cI, 16, .inl epj)), (vp, .inl (cI, 5, .inl poj))] _ := hP
                    have hD : va_D (inW [(mo, .inr (5, [.int (nI n), .ref vk, .ref vc, .ref vt, .ref vn, .ref vr, .ref vs, .ref ve, .ref vp])), (vk, .inl (cI, 160, .inl f)), (vc, .inl (cI, 8, .inl kc)), (vt, .inl (cI, 256, .inl tb)), (vn, .inl (cI, 80, .inl fN)), (vr, .inl (cD, 80, .inr (.inr (.inr (.inl fR))))), (vs, .inl (cI, 80, .inl fS)), (ve, .inl (cI, 16, .inl ep)), (vp, .inl (cI, 5, .inl po))]) [(mo, .inr (5, [.int (nI (nj - 1)), .ref vk, .ref vc, .ref vt, .ref vn, .ref vr, .ref vs, .ref ve, .ref vp])), (vk, .inl (cI, 160, .inl fd)), (vc, .inl (cI, 8, .inl (bmp kcj 2))), (vt, .inl (cI, 256, .inl tb)), (vn, .inl (cI, 80, .inl fNj)), (vr, .inl (cD, 80, .inr (.inr (.inr (.inl fRj))))), (vs, .inl (cI, 80, .inl fSj)), (ve, .inl (cI, 16, .inl epj)), (vp, .inl (cI, 5, .inl poj))] := hD
                    refine lv_goto (tgt := 145) hx hb dX5_deal_97 (by decide) ?_
                    exact ih.2 (bj.drop 1) (nj - 1) fd tk (bmp kcj 2) fNj fRj fSj epj poj Gj Lj Pj (by have h := hdl; rw [dl_skip (b := bj) hc1] at h; exact h) hfd (by rw [List.length_drop, hnj]) (by omega) (hBj.drop _) (by first | assumption | omega) (by first | assumption | omega) (by omega) _ _ hP hD hS ls (lv_sub hl [2, 3] rfl)
                · exact absurd (by decide) c_49
              · skip
                refine lv_iconst (v := nI 1) hx hb dX5_deal_42 (by decide) ?_
                refine lv_goto (tgt := 47) hx hb dX5_deal_43 (by decide) ?_
                refine lv_istore_n (lv' := [(3, .int (nI 1)), (0, .ref mo), (1, .int (nI tk)), (2, .int (-1))]) hx hb dX5_deal_47 rfl hl (by decide) rfl (fun ls hl => ?_)
                refine lv_iload_n hx hb dX5_deal_48 rfl (lv_at hl 3 rfl) ?_
                refine lv_if_le (tgt := 79) hx hb dX5_deal_49 (by decide) (fun c_49 => ?_) (fun c_49 => ?_)
                · skip
                  have hc1 := frz_1 h1
                  refine lv_iconst (v := nI 0) hx hb dX5_deal_79 (by decide) ?_
                  refine lv_istore (lv' := [(4, .int (nI 0)), (3, .int (nI 1)), (0, .ref mo), (1, .int (nI tk)), (2, .int (-1))]) hx hb dX5_deal_80 hl (by decide) rfl (fun ls hl => ?_)
                  refine lv_iload hx hb dX5_deal_82 (lv_at hl 0 rfl) ?_
                  refine rz_ne (tgt := 100) hx hb dX5_deal_84 (by decide) (by omega) (fun c_84 => ?_) (fun c_84 => ?_)
                  · omega
                  · skip
                    refine lv_aload_n hx hb dX5_deal_87 rfl (lv_at hl 2 rfl) ?_
                    refine lv_iconst (v := nI 2) hx hb dX5_deal_88 (by decide) ?_
                    refine x_callV (As := [.int (nI 2)]) (rest := []) ⟨hx, hb, hml, hown, hts⟩ (c_X5_bump (zl := zl) (D := D) (cI := cI) (cD := cD) mo nj vk vc vt vn vr vs ve vp kcj 2 (by decide)) (cwV 1 hts gX5_deal_X5_bump rfl rfl rfl (by decide +kernel) ⟨Nat.le_of_ble_eq_true rfl, Nat.le_of_ble_eq_true rfl⟩) hK hN hP hD hS [0, 2] rfl rfl 0 rfl rfl rfl hl.1 rfl (Nat.le_of_ble_eq_true rfl) dX5_deal_89 ⟨Nat.le_of_ble_eq_true rfl, Nat.le_of_ble_eq_true rfl⟩ (fun v_4 w_4 H locs hr_4 hP hD hS => ?_)
                    obtain ⟨rfl, rfl⟩ := hr_4
                    refine W.eq (g2 := F0 zm 92 ls []) rfl ?_
                    have hP : va_P D vwCl [(mo, .inr (5, [.int (nI nj), .ref vk, .ref vc, .ref vt, .ref vn, .ref vr, .ref vs, .ref ve, .ref vp])), (vk, .inl (cI, 160, .inl fj)), (vc, .inl (cI, 8, .inl (bmp kcj 2))), (vt, .inl (cI, 256, .inl tb)), (vn, .inl (cI, 80, .inl fNj)), (vr, .inl (cD, 80, .inr (.inr (.inr (.inl fRj))))), (vs, .inl (cI, 80, .inl fSj)), (ve, .inl (cI, 16, .inl epj)), (vp, .inl (cI, 5, .inl poj))] _ := hP
                    have hD : va_D (inW [(mo, .inr (5, [.int (nI n), .ref vk, .ref vc, .ref vt, .ref vn, .ref vr, .ref vs, .ref ve, .ref vp])), (vk, .inl (cI, 160, .inl f)), (vc, .inl (cI, 8, .inl kc)), (vt, .inl (cI, 256, .inl tb)), (vn, .inl (cI, 80, .inl fN)), (vr, .inl (cD, 80, .inr (.inr (.inr (.inl fR))))), (vs, .inl (cI, 80, .inl fS)), (ve, .inl (cI, 16, .inl ep)), (vp, .inl (cI, 5, .inl po))]) [(mo, .inr (5, [.int (nI nj), .ref vk, .ref vc, .ref vt, .ref vn, .ref vr, .ref vs, .ref ve, .ref vp])), (vk, .inl (cI, 160, .inl fj)), (vc, .inl (cI, 8, .inl (bmp kcj 2))), (vt, .inl (cI, 256, .inl tb)), (vn, .inl (cI, 80, .inl fNj)), (vr, .inl (cD, 80, .inr (.inr (.inr (.inl fRj))))), (vs, .inl (cI, 80, .inl fSj)), (ve, .inl (cI, 16, .inl epj)), (vp, .inl (cI, 5, .inl poj))] := hD
                    refine lv_aload_n hx hb dX5_deal_92 rfl (lv_at hl 2 rfl) ?_
                    refine lv_iconst (v := nI 1) hx hb dX5_deal_93 (by decide) ?_
                    refine x_callV (As := [.int (nI 1)]) (rest := []) ⟨hx, hb, hml, hown, hts⟩ (c_X5_drop (zl := zl) (D := D) (cI := cI) (cD := cD) mo nj vk vc vt vn vr vs ve vp fj bj 1 hfj hnj (by omega) hBj (by omega)) (cwV 1 hts gX5_deal_X5_drop rfl rfl rfl (by decide +kernel) ⟨Nat.le_of_ble_eq_true rfl, Nat.le_of_ble_eq_true rfl⟩) hK hN hP hD hS [0, 1] rfl rfl 0 rfl rfl rfl hl.1 rfl (Nat.le_of_ble_eq_true rfl) dX5_deal_94 ⟨Nat.le_of_ble_eq_true rfl, Nat.le_of_ble_eq_true rfl⟩ (fun v_5 w_5 H locs hr_5 hP hD hS => ?_)
                    obtain ⟨fd, rfl, rfl, hfd⟩ := hr_5
                    refine W.eq (g2 := F0 zm 97 ls []) rfl ?_
                    have hP : va_P D vwCl [(mo, .inr (5, [.int (nI (nj - 1)), .ref vk, .ref vc, .ref vt, .ref vn, .ref vr, .ref vs, .ref ve, .ref vp])), (vk, .inl (cI, 160, .inl fd)), (vc, .inl (cI, 8, .inl (bmp kcj 2))), (vt, .inl (cI, 256, .inl tb)), (vn, .inl (cI, 80, .inl fNj)), (vr, .inl (cD, 80, .inr (.inr (.inr (.inl fRj))))), (vs, .inl (cI, 80, .inl fSj)), (ve, .inl (cI, 16, .inl epj)), (vp, .inl (cI, 5, .inl poj))] _ := hP
                    have hD : va_D (inW [(mo, .inr (5, [.int (nI n), .ref vk, .ref vc, .ref vt, .ref vn, .ref vr, .ref vs, .ref ve, .ref vp])), (vk, .inl (cI, 160, .inl f)), (vc, .inl (cI, 8, .inl kc)), (vt, .inl (cI, 256, .inl tb)), (vn, .inl (cI, 80, .inl fN)), (vr, .inl (cD, 80, .inr (.inr (.inr (.inl fR))))), (vs, .inl (cI, 80, .inl fS)), (ve, .inl (cI, 16, .inl ep)), (vp, .inl (cI, 5, .inl po))]) [(mo, .inr (5, [.int (nI (nj - 1)), .ref vk, .ref vc, .ref vt, .ref vn, .ref vr, .ref vs, .ref ve, .ref vp])), (vk, .inl (cI, 160, .inl fd)), (vc, .inl (cI, 8, .inl (bmp kcj 2))), (vt, .inl (cI, 256, .inl tb)), (vn, .inl (cI, 80, .inl fNj)), (vr, .inl (cD, 80, .inr (.inr (.inr (.inl fRj))))), (vs, .inl (cI, 80, .inl fSj)), (ve, .inl (cI, 16, .inl epj)), (vp, .inl (cI, 5, .inl poj))] := hD
                    refine lv_goto (tgt := 145) hx hb dX5_deal_97 (by decide) ?_
                    exact ih.2 (bj.drop 1) (nj - 1) fd tk (bmp kcj 2) fNj fRj fSj epj poj Gj Lj Pj (by have h := hdl; rw [dl_skip (b := bj) hc1] at h; exact h) hfd (by rw [List.length_drop, hnj]) (by omega) (hBj.drop _) (by first | assumption | omega) (by first | assumption | omega) (by omega) _ _ hP hD hS ls (lv_sub hl [2, 3] rfl)
                · exact absurd (by decide) c_49
          · skip
            have hz2 := frz_big bj
            have el_6 : enc (frz bj) = nI (frz bj) := enc_n (by omega)
            have hl : lv_has ls 5 [(0, .ref mo), (1, .int (nI tk)), (2, .int (nI (frz bj)))] := by rw [← el_6]; exact hl
            refine lv_iload_n hx hb dX5_deal_22 rfl (lv_at hl 2 rfl) ?_
            refine lv_aload_n hx hb dX5_deal_23 rfl (lv_at hl 0 rfl) ?_
            refine va_get (D := D) (ci := 5) (v := .int (nI nj)) (C := RX5) (T := TX5) (N := 9) hx hb hts hin5 hown hK hP 0 rfl rfl 0 (by decide) (hts (.fieldLink RX5 42 "EpochSifterModel" "size" "I") (by decide +kernel)) (fun _ h9 => h9) rfl dX5_deal_24 ?_
            refine rn_gt (tgt := 164) hx hb dX5_deal_27 (by decide) (by omega) (by omega) (fun c_27 => ?_) (fun c_27 => ?_)
            · skip
              have hc0 : cls bj = 0 := cls_short hz0 h1 (by omega)
              refine lv_iload_n hx hb dX5_deal_164 rfl (lv_at hl 1 rfl) ?_
              exact W.iret (v := nI tk) hx hb hr (fun tz htz hWz => ⟨some (.int (nI tk)), [(mo, .inr (5, [.int (nI nj), .ref vk, .ref vc, .ref vt, .ref vn, .ref vr, .ref vs, .ref ve, .ref vp])), (vk, .inl (cI, 160, .inl fj)), (vc, .inl (cI, 8, .inl kcj)), (vt, .inl (cI, 256, .inl tb)), (vn, .inl (cI, 80, .inl fNj)), (vr, .inl (cD, 80, .inr (.inr (.inr (.inl fRj))))), (vs, .inl (cI, 80, .inl fSj)), (ve, .inl (cI, 16, .inl epj)), (vp, .inl (cI, 5, .inl poj))], rfl, ⟨_, _, _, _, _, _, _, _, bj, _, Gj, Lj, Pj, rfl, rfl, by rw [← hdl, dl_wait hc0], hfj, hnj, hMj, hQj⟩, rfl, by rw [htz]; exact hP, hS.F htz⟩) (fun q h => hS.2.2 q h) dX5_deal_165
            · skip
              refine lv_aload_n hx hb dX5_deal_30 rfl (lv_at hl 0 rfl) ?_
              refine va_get (D := D) (ci := 5) (v := .ref vk) (C := RX5) (T := TX5) (N := 9) hx hb hts hin5 hown hK hP 0 rfl rfl 1 (by decide) (hts (.fieldLink RX5 7 "EpochSifterModel" "kept" "[I") (by decide +kernel)) (fun _ h9 => h9) rfl dX5_deal_31 ?_
              refine lv_iconst (v := nI 0) hx hb dX5_deal_34 (by decide) ?_
              refine a_ild (v := nI (bj.getD 0 0)) hx hb hK hP 1 0 rfl rfl (by omega) (by decide) (hfj 0 (by omega)) dX5_deal_35 ?_
              refine lv_sipush (v := nI 211) hx hb dX5_deal_36 (by decide) ?_
              refine rn_ne (tgt := 46) hx hb dX5_deal_39 (by decide) (by omega) (by omega) (fun c_39 => ?_) (fun c_39 => ?_)
              · skip
                refine lv_iconst (v := nI 0) hx hb dX5_deal_46 (by decide) ?_
                refine lv_istore_n (lv' := [(3, .int (nI 0)), (0, .ref mo), (1, .int (nI tk)), (2, .int (nI (frz bj)))]) hx hb dX5_deal_47 rfl hl (by decide) rfl (fun ls hl => ?_)
                refine lv_iload_n hx hb dX5_deal_48 rfl (lv_at hl 3 rfl) ?_
                refine rz_le (tgt := 79) hx hb dX5_deal_49 (by decide) (by omega) (fun c_49 => ?_) (fun c_49 => ?_)
                · omega
                · skip
                  refine lv_iload_n hx hb dX5_deal_52 rfl (lv_at hl 0 rfl) ?_
                  refine rz_eq (tgt := 67) hx hb dX5_deal_53 (by decide) (by omega) (fun c_53 => ?_) (fun c_53 => ?_)
                  · skip
                    refine lv_aload_n hx hb dX5_deal_67 rfl (lv_at hl 1 rfl) ?_
                    refine lv_iload_n hx hb dX5_deal_68 rfl (lv_at hl 3 rfl) ?_
                    refine r_callVi (As := [.int (nI (frz bj))]) (rest := []) ⟨hx, hb, hml, hown, hts⟩ (c_X5_isShortRight (zl := zl) (D := D) (cI := cI) (cD := cD) mo nj vk vc vt vn vr vs ve vp fj bj (frz bj) hfj hnj (by omega) hBj (by omega)) (cwV 1 hts gX5_deal_X5_isShortRight rfl rfl rfl (by decide +kernel) ⟨Nat.le_of_ble_eq_true rfl, Nat.le_of_ble_eq_true rfl⟩) hK hN hP hD [0, 1] rfl rfl 0 rfl rfl rfl hl.1 rfl (Nat.le_of_ble_eq_true rfl) dX5_deal_69 ⟨Nat.le_of_ble_eq_true rfl, Nat.le_of_ble_eq_true rfl⟩ (fun r_7 h_7 => ?_)
                    obtain rfl := h_7
                    have t9 := tf_lt (sok bj (frz bj))
                    refine rz_eq (tgt := 79) hx hb dX5_deal_72 (by decide) (by omega) (fun c_72 => ?_) (fun c_72 => ?_)
                    · skip
                      have hc1 := (cls_shrt (b := bj) (by omega) (by omega) (by omega)).2 (tf_of0 c_72)
                      refine lv_iconst (v := nI 0) hx hb dX5_deal_79 (by decide) ?_
                      refine lv_istore (lv' := [(4, .int (nI 0)), (3, .int (nI 0)), (0, .ref mo), (1, .int (nI tk)), (2, .int (nI (frz bj)))]) hx hb dX5_deal_80 hl (by decide) rfl (fun ls hl => ?_)
                      refine lv_iload hx hb dX5_deal_82 (lv_at hl 0 rfl) ?_
                      refine rz_ne (tgt := 100) hx hb dX5_deal_84 (by decide) (by omega) (fun c_84 => ?_) (fun c_84 => ?_)
                      · omega
                      · skip
                        refine lv_aload_n hx hb dX5_deal_87 rfl (lv_at hl 2 rfl) ?_
                        refine lv_iconst (v := nI 2) hx hb dX5_deal_88 (by decide) ?_
                        refine x_callV (As := [.int (nI 2)]) (rest := []) ⟨hx, hb, hml, hown, hts⟩ (c_X5_bump (zl := zl) (D := D) (cI := cI) (cD := cD) mo nj vk vc vt vn vr vs ve vp kcj 2 (by decide)) (cwV 1 hts gX5_deal_X5_bump rfl rfl rfl (by decide +kernel) ⟨Nat.le_of_ble_eq_true rfl, Nat.le_of_ble_eq_true rfl⟩) hK hN hP hD hS [0, 2] rfl rfl 0 rfl rfl rfl hl.1 rfl (Nat.le_of_ble_eq_true rfl) dX5_deal_89 ⟨Nat.le_of_ble_eq_true rfl, Nat.le_of_ble_eq_true rfl⟩ (fun v_8 w_8 H locs hr_8 hP hD hS => ?_)
                        obtain ⟨rfl, rfl⟩ := hr_8
                        refine W.eq (g2 := F0 zm 92 ls []) rfl ?_
                        have hP : va_P D vwCl [(mo, .inr (5, [.int (nI nj), .ref vk, .ref vc, .ref vt, .ref vn, .ref vr, .ref vs, .ref ve, .ref vp])), (vk, .inl (cI, 160, .inl fj)), (vc, .inl (cI, 8, .inl (bmp kcj 2))), (vt, .inl (cI, 256, .inl tb)), (vn, .inl (cI, 80, .inl fNj)), (vr, .inl (cD, 80, .inr (.inr (.inr (.inl fRj))))), (vs, .inl (cI, 80, .inl fSj)), (ve, .inl (cI, 16, .inl epj)), (vp, .inl (cI, 5, .inl poj))] _ := hP
                        have hD : va_D (inW [(mo, .inr (5, [.int (nI n), .ref vk, .ref vc, .ref vt, .ref vn, .ref vr, .ref vs, .ref ve, .ref vp])), (vk, .inl (cI, 160, .inl f)), (vc, .inl (cI, 8, .inl kc)), (vt, .inl (cI, 256, .inl tb)), (vn, .inl (cI, 80, .inl fN)), (vr, .inl (cD, 80, .inr (.inr (.inr (.inl fR))))), (vs, .inl (cI, 80, .inl fS)), (ve, .inl (cI, 16, .inl ep)), (vp, .inl (cI, 5, .inl po))]) [(mo, .inr (5, [.int (nI nj), .ref vk, .ref vc, .ref vt, .ref vn, .ref vr, .ref vs, .ref ve, .ref vp])), (vk, .inl (cI, 160, .inl fj)), (vc, .inl (cI, 8, .inl (bmp kcj 2))), (vt, .inl (cI, 256, .inl tb)), (vn, .inl (cI, 80, .inl fNj)), (vr, .inl (cD, 80, .inr (.inr (.inr (.inl fRj))))), (vs, .inl (cI, 80, .inl fSj)), (ve, .inl (cI, 16, .inl epj)), (vp, .inl (cI, 5, .inl poj))] := hD
                        refine lv_aload_n hx hb dX5_deal_92 rfl (lv_at hl 2 rfl) ?_
                        refine lv_iconst (v := nI 1) hx hb dX5_deal_93 (by decide) ?_
                        refine x_callV (As := [.int (nI 1)]) (rest := []) ⟨hx, hb, hml, hown, hts⟩ (c_X5_drop (zl := zl) (D := D) (cI := cI) (cD := cD) mo nj vk vc vt vn vr vs ve vp fj bj 1 hfj hnj (by omega) hBj (by omega)) (cwV 1 hts gX5_deal_X5_drop rfl rfl rfl (by decide +kernel) ⟨Nat.le_of_ble_eq_true rfl, Nat.le_of_ble_eq_true rfl⟩) hK hN hP hD hS [0, 1] rfl rfl 0 rfl rfl rfl hl.1 rfl (Nat.le_of_ble_eq_true rfl) dX5_deal_94 ⟨Nat.le_of_ble_eq_true rfl, Nat.le_of_ble_eq_true rfl⟩ (fun v_9 w_9 H locs hr_9 hP hD hS => ?_)
                        obtain ⟨fd, rfl, rfl, hfd⟩ := hr_9
                        refine W.eq (g2 := F0 zm 97 ls []) rfl ?_
                        have hP : va_P D vwCl [(mo, .inr (5, [.int (nI (nj - 1)), .ref vk, .ref vc, .ref vt, .ref vn, .ref vr, .ref vs, .ref ve, .ref vp])), (vk, .inl (cI, 160, .inl fd)), (vc, .inl (cI, 8, .inl (bmp kcj 2))), (vt, .inl (cI, 256, .inl tb)), (vn, .inl (cI, 80, .inl fNj)), (vr, .inl (cD, 80, .inr (.inr (.inr (.inl fRj))))), (vs, .inl (cI, 80, .inl fSj)), (ve, .inl (cI, 16, .inl epj)), (vp, .inl (cI, 5, .inl poj))] _ := hP
                        have hD : va_D (inW [(mo, .inr (5, [.int (nI n), .ref vk, .ref vc, .ref vt, .ref vn, .ref vr, .ref vs, .ref ve, .ref vp])), (vk, .inl (cI, 160, .inl f)), (vc, .inl (cI, 8, .inl kc)), (vt, .inl (cI, 256, .inl tb)), (vn, .inl (cI, 80, .inl fN)), (vr, .inl (cD, 80, .inr (.inr (.inr (.inl fR))))), (vs, .inl (cI, 80, .inl fS)), (ve, .inl (cI, 16, .inl ep)), (vp, .inl (cI, 5, .inl po))]) [(mo, .inr (5, [.int (nI (nj - 1)), .ref vk, .ref vc, .ref vt, .ref vn, .ref vr, .ref vs, .ref ve, .ref vp])), (vk, .inl (cI, 160, .inl fd)), (vc, .inl (cI, 8, .inl (bmp kcj 2))), (vt, .inl (cI, 256, .inl tb)), (vn, .inl (cI, 80, .inl fNj)), (vr, .inl (cD, 80, .inr (.inr (.inr (.inl fRj))))), (vs, .inl (cI, 80, .inl fSj)), (ve, .inl (cI, 16, .inl epj)), (vp, .inl (cI, 5, .inl poj))] := hD
                        refine lv_goto (tgt := 145) hx hb dX5_deal_97 (by decide) ?_
                        exact ih.2 (bj.drop 1) (nj - 1) fd tk (bmp kcj 2) fNj fRj fSj epj poj Gj Lj Pj (by have h := hdl; rw [dl_skip (b := bj) hc1] at h; exact h) hfd (by rw [List.length_drop, hnj]) (by omega) (hBj.drop _) (by first | assumption | omega) (by first | assumption | omega) (by omega) _ _ hP hD hS ls (lv_sub hl [2, 3] rfl)
                    · skip
                      have hck := (cls_shrt (b := bj) (by omega) (by omega) (by omega)).1 (tf_of1 c_72)
                      refine lv_iconst (v := nI 1) hx hb dX5_deal_75 (by decide) ?_
                      refine lv_goto (tgt := 80) hx hb dX5_deal_76 (by decide) ?_
                      refine lv_istore (lv' := [(4, .int (nI 1)), (3, .int (nI 0)), (0, .ref mo), (1, .int (nI tk)), (2, .int (nI (frz bj)))]) hx hb dX5_deal_80 hl (by decide) rfl (fun ls hl => ?_)
                      refine lv_iload hx hb dX5_deal_82 (lv_at hl 0 rfl) ?_
                      refine rz_ne (tgt := 100) hx hb dX5_deal_84 (by decide) (by omega) (fun c_84 => ?_) (fun c_84 => ?_)
                      · skip
                        refine lv_iload_n hx hb dX5_deal_100 rfl (lv_at hl 3 rfl) ?_
                        refine lv_iconst (v := nI 1) hx hb dX5_deal_101 (by decide) ?_
                        refine lv_iadd hx hb dX5_deal_102 ?_
                        refine r_i (v := nI (tk + 1)) (nI_add _ _) ?_
                        refine lv_istore_n (lv' := [(1, .int (nI (tk + 1))), (4, .int (nI 1)), (3, .int (nI 0)), (0, .ref mo), (2, .int (nI (frz bj)))]) hx hb dX5_deal_103 rfl hl (by decide) rfl (fun ls hl => ?_)
                        refine lv_aload_n hx hb dX5_deal_104 rfl (lv_at hl 3 rfl) ?_
                        refine lv_iload_n hx hb dX5_deal_105 rfl (lv_at hl 2 rfl) ?_
                        refine rz_eq (tgt := 113) hx hb dX5_deal_106 (by decide) (by omega) (fun c_106 => ?_) (fun c_106 => ?_)
                        · skip
                          refine lv_iconst (v := nI 1) hx hb dX5_deal_113 (by decide) ?_
                          refine x_callV (As := [.int (nI 1)]) (rest := []) ⟨hx, hb, hml, hown, hts⟩ (c_X5_bump (zl := zl) (D := D) (cI := cI) (cD := cD) mo nj vk vc vt vn vr vs ve vp kcj 1 (by decide)) (cwV 1 hts gX5_deal_X5_bump rfl rfl rfl (by decide +kernel) ⟨Nat.le_of_ble_eq_true rfl, Nat.le_of_ble_eq_true rfl⟩) hK hN hP hD hS [0, 2] rfl rfl 0 rfl rfl rfl hl.1 rfl (Nat.le_of_ble_eq_true rfl) dX5_deal_114 ⟨Nat.le_of_ble_eq_true rfl, Nat.le_of_ble_eq_true rfl⟩ (fun v_10 w_10 H locs hr_10 hP hD hS => ?_)
                          obtain ⟨rfl, rfl⟩ := hr_10
                          refine W.eq (g2 := F0 zm 117 ls []) rfl ?_
                          have hP : va_P D vwCl [(mo, .inr (5, [.int (nI nj), .ref vk, .ref vc, .ref vt, .ref vn, .ref vr, .ref vs, .ref ve, .ref vp])), (vk, .inl (cI, 160, .inl fj)), (vc, .inl (cI, 8, .inl (bmp kcj 1))), (vt, .inl (cI, 256, .inl tb)), (vn, .inl (cI, 80, .inl fNj)), (vr, .inl (cD, 80, .inr (.inr (.inr (.inl fRj))))), (vs, .inl (cI, 80, .inl fSj)), (ve, .inl (cI, 16, .inl epj)), (vp, .inl (cI, 5, .inl poj))] _ := hP
                          have hD : va_D (inW [(mo, .inr (5, [.int (nI n), .ref vk, .ref vc, .ref vt, .ref vn, .ref vr, .ref vs, .ref ve, .ref vp])), (vk, .inl (cI, 160, .inl f)), (vc, .inl (cI, 8, .inl kc)), (vt, .inl (cI, 256, .inl tb)), (vn, .inl (cI, 80, .inl fN)), (vr, .inl (cD, 80, .inr (.inr (.inr (.inl fR))))), (vs, .inl (cI, 80, .inl fS)), (ve, .inl (cI, 16, .inl ep)), (vp, .inl (cI, 5, .inl po))]) [(mo, .inr (5, [.int (nI nj), .ref vk, .ref vc, .ref vt, .ref vn, .ref vr, .ref vs, .ref ve, .ref vp])), (vk, .inl (cI, 160, .inl fj)), (vc, .inl (cI, 8, .inl (bmp kcj 1))), (vt, .inl (cI, 256, .inl tb)), (vn, .inl (cI, 80, .inl fNj)), (vr, .inl (cD, 80, .inr (.inr (.inr (.inl fRj))))), (vs, .inl (cI, 80, .inl fSj)), (ve, .inl (cI, 16, .inl epj)), (vp, .inl (cI, 5, .inl poj))] := hD
                          refine lv_iload_n hx hb dX5_deal_117 rfl (lv_at hl 2 rfl) ?_
                          refine rz_eq (tgt := 132) hx hb dX5_deal_118 (by decide) (by omega) (fun c_118 => ?_) (fun c_118 => ?_)
                          · skip
                            refine lv_aload_n hx hb dX5_deal_132 rfl (lv_at hl 3 rfl) ?_
                            refine lv_iload_n hx hb dX5_deal_133 rfl (lv_at hl 4 rfl) ?_
                            refine lv_bipush (v := nI 8) hx hb dX5_deal_134 (by decide) ?_
                            refine lv_isub hx hb dX5_deal_136 ?_
                            refine r_i (v := nI (frz bj - 8)) (pk_sub (by omega)) ?_
                            by_cases hps : isPos bj (frz bj)
                            · skip
                              refine x_callV (As := [.int (nI (frz bj - 8))]) (rest := []) ⟨hx, hb, hml, hown, hts⟩ (c_X5_locate (zl := zl) (D := D) (cI := cI) (cD := cD) mo nj vk vc vt vn vr vs ve vp fj bj (bmp kcj 1) poj (frz bj - 8) hfj hnj (by omega) hBj (by omega) (by rw [show frz bj - 8 + 8 = frz bj by omega]; exact hps)) (cwV 1 hts gX5_deal_X5_locate rfl rfl rfl (by decide +kernel) ⟨Nat.le_of_ble_eq_true rfl, Nat.le_of_ble_eq_true rfl⟩) hK hN hP hD hS [0, 1, 2, 8] rfl rfl 0 rfl rfl rfl hl.1 rfl (Nat.le_of_ble_eq_true rfl) dX5_deal_137 ⟨Nat.le_of_ble_eq_true rfl, Nat.le_of_ble_eq_true rfl⟩ (fun v_11 w_11 H locs hr_11 hP hD hS => ?_)
                              obtain ⟨pot, rfl, rfl, hQt⟩ := hr_11
                              refine W.eq (g2 := F0 zm 140 ls []) rfl ?_
                              have hP : va_P D vwCl [(mo, .inr (5, [.int (nI nj), .ref vk, .ref vc, .ref vt, .ref vn, .ref vr, .ref vs, .ref ve, .ref vp])), (vk, .inl (cI, 160, .inl fj)), (vc, .inl (cI, 8, .inl (bmp (bmp kcj 1) 7))), (vt, .inl (cI, 256, .inl tb)), (vn, .inl (cI, 80, .inl fNj)), (vr, .inl (cD, 80, .inr (.inr (.inr (.inl fRj))))), (vs, .inl (cI, 80, .inl fSj)), (ve, .inl (cI, 16, .inl epj)), (vp, .inl (cI, 5, .inl pot))] _ := hP
                              have hD : va_D (inW [(mo, .inr (5, [.int (nI n), .ref vk, .ref vc, .ref vt, .ref vn, .ref vr, .ref vs, .ref ve, .ref vp])), (vk, .inl (cI, 160, .inl f)), (vc, .inl (cI, 8, .inl kc)), (vt, .inl (cI, 256, .inl tb)), (vn, .inl (cI, 80, .inl fN)), (vr, .inl (cD, 80, .inr (.inr (.inr (.inl fR))))), (vs, .inl (cI, 80, .inl fS)), (ve, .inl (cI, 16, .inl ep)), (vp, .inl (cI, 5, .inl po))]) [(mo, .inr (5, [.int (nI nj), .ref vk, .ref vc, .ref vt, .ref vn, .ref vr, .ref vs, .ref ve, .ref vp])), (vk, .inl (cI, 160, .inl fj)), (vc, .inl (cI, 8, .inl (bmp (bmp kcj 1) 7))), (vt, .inl (cI, 256, .inl tb)), (vn, .inl (cI, 80, .inl fNj)), (vr, .inl (cD, 80, .inr (.inr (.inr (.inl fRj))))), (vs, .inl (cI, 80, .inl fSj)), (ve, .inl (cI, 16, .inl epj)), (vp, .inl (cI, 5, .inl pot))] := hD
                              refine lv_aload_n hx hb dX5_deal_140 rfl (lv_at hl 3 rfl) ?_
                              refine lv_iload_n hx hb dX5_deal_141 rfl (lv_at hl 4 rfl) ?_
                              refine x_callV (As := [.int (nI (frz bj))]) (rest := []) ⟨hx, hb, hml, hown, hts⟩ (c_X5_drop (zl := zl) (D := D) (cI := cI) (cD := cD) mo nj vk vc vt vn vr vs ve vp fj bj (frz bj) hfj hnj (by omega) hBj (by omega)) (cwV 1 hts gX5_deal_X5_drop rfl rfl rfl (by decide +kernel) ⟨Nat.le_of_ble_eq_true rfl, Nat.le_of_ble_eq_true rfl⟩) hK hN hP hD hS [0, 1] rfl rfl 0 rfl rfl rfl hl.1 rfl (Nat.le_of_ble_eq_true rfl) dX5_deal_142 ⟨Nat.le_of_ble_eq_true rfl, Nat.le_of_ble_eq_true rfl⟩ (fun v_12 w_12 H locs hr_12 hP hD hS => ?_)
                              obtain ⟨fd, rfl, rfl, hfd⟩ := hr_12
                              refine W.eq (g2 := F0 zm 145 ls []) rfl ?_
                              have hP : va_P D vwCl [(mo, .inr (5, [.int (nI (nj - (frz bj))), .ref vk, .ref vc, .ref vt, .ref vn, .ref vr, .ref vs, .ref ve, .ref vp])), (vk, .inl (cI, 160, .inl fd)), (vc, .inl (cI, 8, .inl (bmp (bmp kcj 1) 7))), (vt, .inl (cI, 256, .inl tb)), (vn, .inl (cI, 80, .inl fNj)), (vr, .inl (cD, 80, .inr (.inr (.inr (.inl fRj))))), (vs, .inl (cI, 80, .inl fSj)), (ve, .inl (cI, 16, .inl epj)), (vp, .inl (cI, 5, .inl pot))] _ := hP
                              have hD : va_D (inW [(mo, .inr (5, [.int (nI n), .ref vk, .ref vc, .ref vt, .ref vn, .ref vr, .ref vs, .ref ve, .ref vp])), (vk, .inl (cI, 160, .inl f)), (vc, .inl (cI, 8, .inl kc)), (vt, .inl (cI, 256, .inl tb)), (vn, .inl (cI, 80, .inl fN)), (vr, .inl (cD, 80, .inr (.inr (.inr (.inl fR))))), (vs, .inl (cI, 80, .inl fS)), (ve, .inl (cI, 16, .inl ep)), (vp, .inl (cI, 5, .inl po))]) [(mo, .inr (5, [.int (nI (nj - (frz bj))), .ref vk, .ref vc, .ref vt, .ref vn, .ref vr, .ref vs, .ref ve, .ref vp])), (vk, .inl (cI, 160, .inl fd)), (vc, .inl (cI, 8, .inl (bmp (bmp kcj 1) 7))), (vt, .inl (cI, 256, .inl tb)), (vn, .inl (cI, 80, .inl fNj)), (vr, .inl (cD, 80, .inr (.inr (.inr (.inl fRj))))), (vs, .inl (cI, 80, .inl fSj)), (ve, .inl (cI, 16, .inl epj)), (vp, .inl (cI, 5, .inl pot))] := hD
                              exact ih.2 (bj.drop (frz bj)) (nj - frz bj) fd (tk + 1) (bmp (bmp kcj 1) 7) fNj fRj fSj epj pot Gj Lj (nI (bj.getD 10 0), s4 bj 6, s4 bj 11, s4 bj 15, s4 bj 19) (by have h := hdl; rw [dl_take (b := bj) hck (by omega), stepF_S (by omega) (takeS_yes hps _ _).symm] at h; exact h) hfd (by rw [List.length_drop, hnj]) (by omega) (hBj.drop _) (by first | assumption | omega) hQt (by omega) _ _ hP hD hS ls (lv_sub hl [3, 0] rfl)
                            · skip
                              refine x_callV (As := [.int (nI (frz bj - 8))]) (rest := []) ⟨hx, hb, hml, hown, hts⟩ (c_X5_locate_no (zl := zl) (D := D) (cI := cI) (cD := cD) mo nj vk vc vt vn vr vs ve vp fj bj (bmp kcj 1) poj (frz bj - 8) hfj hnj (by omega) hBj (by omega) (by rw [show frz bj - 8 + 8 = frz bj by omega]; exact hps)) (cwV 1 hts gX5_deal_X5_locate rfl rfl rfl (by decide +kernel) ⟨Nat.le_of_ble_eq_true rfl, Nat.le_of_ble_eq_true rfl⟩) hK hN hP hD hS [0, 1, 2, 8] rfl rfl 0 rfl rfl rfl hl.1 rfl (Nat.le_of_ble_eq_true rfl) dX5_deal_137 ⟨Nat.le_of_ble_eq_true rfl, Nat.le_of_ble_eq_true rfl⟩ (fun v_13 w_13 H locs hr_13 hP hD hS => ?_)
                              obtain ⟨rfl, rfl⟩ := hr_13
                              refine W.eq (g2 := F0 zm 140 ls []) rfl ?_
                              have hP : va_P D vwCl [(mo, .inr (5, [.int (nI nj), .ref vk, .ref vc, .ref vt, .ref vn, .ref vr, .ref vs, .ref ve, .ref vp])), (vk, .inl (cI, 160, .inl fj)), (vc, .inl (cI, 8, .inl (bmp (bmp kcj 1) 3))), (vt, .inl (cI, 256, .inl tb)), (vn, .inl (cI, 80, .inl fNj)), (vr, .inl (cD, 80, .inr (.inr (.inr (.inl fRj))))), (vs, .inl (cI, 80, .inl fSj)), (ve, .inl (cI, 16, .inl epj)), (vp, .inl (cI, 5, .inl poj))] _ := hP
                              have hD : va_D (inW [(mo, .inr (5, [.int (nI n), .ref vk, .ref vc, .ref vt, .ref vn, .ref vr, .ref vs, .ref ve, .ref vp])), (vk, .inl (cI, 160, .inl f)), (vc, .inl (cI, 8, .inl kc)), (vt, .inl (cI, 256, .inl tb)), (vn, .inl (cI, 80, .inl fN)), (vr, .inl (cD, 80, .inr (.inr (.inr (.inl fR))))), (vs, .inl (cI, 80, .inl fS)), (ve, .inl (cI, 16, .inl ep)), (vp, .inl (cI, 5, .inl po))]) [(mo, .inr (5, [.int (nI nj), .ref vk, .ref vc, .ref vt, .ref vn, .ref vr, .ref vs, .ref ve, .ref vp])), (vk, .inl (cI, 160, .inl fj)), (vc, .inl (cI, 8, .inl (bmp (bmp kcj 1) 3))), (vt, .inl (cI, 256, .inl tb)), (vn, .inl (cI, 80, .inl fNj)), (vr, .inl (cD, 80, .inr (.inr (.inr (.inl fRj))))), (vs, .inl (cI, 80, .inl fSj)), (ve, .inl (cI, 16, .inl epj)), (vp, .inl (cI, 5, .inl poj))] := hD
                              refine lv_aload_n hx hb dX5_deal_140 rfl (lv_at hl 3 rfl) ?_
                              refine lv_iload_n hx hb dX5_deal_141 rfl (lv_at hl 4 rfl) ?_
                              refine x_callV (As := [.int (nI (frz bj))]) (rest := []) ⟨hx, hb, hml, hown, hts⟩ (c_X5_drop (zl := zl) (D := D) (cI := cI) (cD := cD) mo nj vk vc vt vn vr vs ve vp fj bj (frz bj) hfj hnj (by omega) hBj (by omega)) (cwV 1 hts gX5_deal_X5_drop rfl rfl rfl (by decide +kernel) ⟨Nat.le_of_ble_eq_true rfl, Nat.le_of_ble_eq_true rfl⟩) hK hN hP hD hS [0, 1] rfl rfl 0 rfl rfl rfl hl.1 rfl (Nat.le_of_ble_eq_true rfl) dX5_deal_142 ⟨Nat.le_of_ble_eq_true rfl, Nat.le_of_ble_eq_true rfl⟩ (fun v_14 w_14 H locs hr_14 hP hD hS => ?_)
                              obtain ⟨fd, rfl, rfl, hfd⟩ := hr_14
                              refine W.eq (g2 := F0 zm 145 ls []) rfl ?_
                              have hP : va_P D vwCl [(mo, .inr (5, [.int (nI (nj - (frz bj))), .ref vk, .ref vc, .ref vt, .ref vn, .ref vr, .ref vs, .ref ve, .ref vp])), (vk, .inl (cI, 160, .inl fd)), (vc, .inl (cI, 8, .inl (bmp (bmp kcj 1) 3))), (vt, .inl (cI, 256, .inl tb)), (vn, .inl (cI, 80, .inl fNj)), (vr, .inl (cD, 80, .inr (.inr (.inr (.inl fRj))))), (vs, .inl (cI, 80, .inl fSj)), (ve, .inl (cI, 16, .inl epj)), (vp, .inl (cI, 5, .inl poj))] _ := hP
                              have hD : va_D (inW [(mo, .inr (5, [.int (nI n), .ref vk, .ref vc, .ref vt, .ref vn, .ref vr, .ref vs, .ref ve, .ref vp])), (vk, .inl (cI, 160, .inl f)), (vc, .inl (cI, 8, .inl kc)), (vt, .inl (cI, 256, .inl tb)), (vn, .inl (cI, 80, .inl fN)), (vr, .inl (cD, 80, .inr (.inr (.inr (.inl fR))))), (vs, .inl (cI, 80, .inl fS)), (ve, .inl (cI, 16, .inl ep)), (vp, .inl (cI, 5, .inl po))]) [(mo, .inr (5, [.int (nI (nj - (frz bj))), .ref vk, .ref vc, .ref vt, .ref vn, .ref vr, .ref vs, .ref ve, .ref vp])), (vk, .inl (cI, 160, .inl fd)), (vc, .inl (cI, 8, .inl (bmp (bmp kcj 1) 3))), (vt, .inl (cI, 256, .inl tb)), (vn, .inl (cI, 80, .inl fNj)), (vr, .inl (cD, 80, .inr (.inr (.inr (.inl fRj))))), (vs, .inl (cI, 80, .inl fSj)), (ve, .inl (cI, 16, .inl epj)), (vp, .inl (cI, 5, .inl poj))] := hD
                              exact ih.2 (bj.drop (frz bj)) (nj - frz bj) fd (tk + 1) (bmp (bmp kcj 1) 3) fNj fRj fSj epj poj Gj Lj Pj (by have h := hdl; rw [dl_take (b := bj) hck (by omega), stepF_S (by omega) (takeS_no hps _ _).symm] at h; exact h) hfd (by rw [List.length_drop, hnj]) (by omega) (hBj.drop _) (by first | assumption | omega) (by first | assumption | omega) (by omega) _ _ hP hD hS ls (lv_sub hl [3, 0] rfl)
                          · omega
                        · omega
                      · omega
                  · omega
              · skip
                refine lv_iconst (v := nI 1) hx hb dX5_deal_42 (by decide) ?_
                refine lv_goto (tgt := 47) hx hb dX5_deal_43 (by decide) ?_
                refine lv_istore_n (lv' := [(3, .int (nI 1)), (0, .ref mo), (1, .int (nI tk)), (2, .int (nI (frz bj)))]) hx hb dX5_deal_47 rfl hl (by decide) rfl (fun ls hl => ?_)
                refine lv_iload_n hx hb dX5_deal_48 rfl (lv_at hl 3 rfl) ?_
                refine rz_le (tgt := 79) hx hb dX5_deal_49 (by decide) (by omega) (fun c_49 => ?_) (fun c_49 => ?_)
                · omega
                · skip
                  refine lv_iload_n hx hb dX5_deal_52 rfl (lv_at hl 0 rfl) ?_
                  refine rz_eq (tgt := 67) hx hb dX5_deal_53 (by decide) (by omega) (fun c_53 => ?_) (fun c_53 => ?_)
                  · omega
                  · skip
                    refine lv_aload_n hx hb dX5_deal_56 rfl (lv_at hl 1 rfl) ?_
                    refine lv_iload_n hx hb dX5_deal_57 rfl (lv_at hl 3 rfl) ?_
                    refine r_callVi (As := [.int (nI (frz bj))]) (rest := []) ⟨hx, hb, hml, hown, hts⟩ (c_X5_isLongRight (zl := zl) (D := D) (cI := cI) (cD := cD) mo nj vk vc vt vn vr vs ve vp fj tb bj (frz bj) hfj hnj (by omega) hBj (by first | assumption | omega) (by omega)) (cwV 1 hts gX5_deal_X5_isLongRight rfl rfl rfl (by decide +kernel) ⟨Nat.le_of_ble_eq_true rfl, Nat.le_of_ble_eq_true rfl⟩) hK hN hP hD [0, 1, 3] rfl rfl 0 rfl rfl rfl hl.1 rfl (Nat.le_of_ble_eq_true rfl) dX5_deal_58 ⟨Nat.le_of_ble_eq_true rfl, Nat.le_of_ble_eq_true rfl⟩ (fun r_15 h_15 => ?_)
                    obtain rfl := h_15
                    have t9 := tf_lt (lok bj (frz bj))
                    refine rz_eq (tgt := 79) hx hb dX5_deal_61 (by decide) (by omega) (fun c_61 => ?_) (fun c_61 => ?_)
                    · skip
                      have hc1 := (cls_long (b := bj) (by omega) (by omega) (by omega)).2 (tf_of0 c_61)
                      refine lv_iconst (v := nI 0) hx hb dX5_deal_79 (by decide) ?_
                      refine lv_istore (lv' := [(4, .int (nI 0)), (3, .int (nI 1)), (0, .ref mo), (1, .int (nI tk)), (2, .int (nI (frz bj)))]) hx hb dX5_deal_80 hl (by decide) rfl (fun ls hl => ?_)
                      refine lv_iload hx hb dX5_deal_82 (lv_at hl 0 rfl) ?_
                      refine rz_ne (tgt := 100) hx hb dX5_deal_84 (by decide) (by omega) (fun c_84 => ?_) (fun c_84 => ?_)
                      · omega
                      · skip
                        refine lv_aload_n hx hb dX5_deal_87 rfl (lv_at hl 2 rfl) ?_
                        refine lv_iconst (v := nI 2) hx hb dX5_deal_88 (by decide) ?_
                        refine x_callV (As := [.int (nI 2)]) (rest := []) ⟨hx, hb, hml, hown, hts⟩ (c_X5_bump (zl := zl) (D := D) (cI := cI) (cD := cD) mo nj vk vc vt vn vr vs ve vp kcj 2 (by decide)) (cwV 1 hts gX5_deal_X5_bump rfl rfl rfl (by decide +kernel) ⟨Nat.le_of_ble_eq_true rfl, Nat.le_of_ble_eq_true rfl⟩) hK hN hP hD hS [0, 2] rfl rfl 0 rfl rfl rfl hl.1 rfl (Nat.le_of_ble_eq_true rfl) dX5_deal_89 ⟨Nat.le_of_ble_eq_true rfl, Nat.le_of_ble_eq_true rfl⟩ (fun v_16 w_16 H locs hr_16 hP hD hS => ?_)
                        obtain ⟨rfl, rfl⟩ := hr_16
                        refine W.eq (g2 := F0 zm 92 ls []) rfl ?_
                        have hP : va_P D vwCl [(mo, .inr (5, [.int (nI nj), .ref vk, .ref vc, .ref vt, .ref vn, .ref vr, .ref vs, .ref ve, .ref vp])), (vk, .inl (cI, 160, .inl fj)), (vc, .inl (cI, 8, .inl (bmp kcj 2))), (vt, .inl (cI, 256, .inl tb)), (vn, .inl (cI, 80, .inl fNj)), (vr, .inl (cD, 80, .inr (.inr (.inr (.inl fRj))))), (vs, .inl (cI, 80, .inl fSj)), (ve, .inl (cI, 16, .inl epj)), (vp, .inl (cI, 5, .inl poj))] _ := hP
                        have hD : va_D (inW [(mo, .inr (5, [.int (nI n), .ref vk, .ref vc, .ref vt, .ref vn, .ref vr, .ref vs, .ref ve, .ref vp])), (vk, .inl (cI, 160, .inl f)), (vc, .inl (cI, 8, .inl kc)), (vt, .inl (cI, 256, .inl tb)), (vn, .inl (cI, 80, .inl fN)), (vr, .inl (cD, 80, .inr (.inr (.inr (.inl fR))))), (vs, .inl (cI, 80, .inl fS)), (ve, .inl (cI, 16, .inl ep)), (vp, .inl (cI, 5, .inl po))]) [(mo, .inr (5, [.int (nI nj), .ref vk, .ref vc, .ref vt, .ref vn, .ref vr, .ref vs, .ref ve, .ref vp])), (vk, .inl (cI, 160, .inl fj)), (vc, .inl (cI, 8, .inl (bmp kcj 2))), (vt, .inl (cI, 256, .inl tb)), (vn, .inl (cI, 80, .inl fNj)), (vr, .inl (cD, 80, .inr (.inr (.inr (.inl fRj))))), (vs, .inl (cI, 80, .inl fSj)), (ve, .inl (cI, 16, .inl epj)), (vp, .inl (cI, 5, .inl poj))] := hD
                        refine lv_aload_n hx hb dX5_deal_92 rfl (lv_at hl 2 rfl) ?_
                        refine lv_iconst (v := nI 1) hx hb dX5_deal_93 (by decide) ?_
                        refine x_callV (As := [.int (nI 1)]) (rest := []) ⟨hx, hb, hml, hown, hts⟩ (c_X5_drop (zl := zl) (D := D) (cI := cI) (cD := cD) mo nj vk vc vt vn vr vs ve vp fj bj 1 hfj hnj (by omega) hBj (by omega)) (cwV 1 hts gX5_deal_X5_drop rfl rfl rfl (by decide +kernel) ⟨Nat.le_of_ble_eq_true rfl, Nat.le_of_ble_eq_true rfl⟩) hK hN hP hD hS [0, 1] rfl rfl 0 rfl rfl rfl hl.1 rfl (Nat.le_of_ble_eq_true rfl) dX5_deal_94 ⟨Nat.le_of_ble_eq_true rfl, Nat.le_of_ble_eq_true rfl⟩ (fun v_17 w_17 H locs hr_17 hP hD hS => ?_)
                        obtain ⟨fd, rfl, rfl, hfd⟩ := hr_17
                        refine W.eq (g2 := F0 zm 97 ls []) rfl ?_
                        have hP : va_P D vwCl [(mo, .inr (5, [.int (nI (nj - 1)), .ref vk, .ref vc, .ref vt, .ref vn, .ref vr, .ref vs, .ref ve, .ref vp])), (vk, .inl (cI, 160, .inl fd)), (vc, .inl (cI, 8, .inl (bmp kcj 2))), (vt, .inl (cI, 256, .inl tb)), (vn, .inl (cI, 80, .inl fNj)), (vr, .inl (cD, 80, .inr (.inr (.inr (.inl fRj))))), (vs, .inl (cI, 80, .inl fSj)), (ve, .inl (cI, 16, .inl epj)), (vp, .inl (cI, 5, .inl poj))] _ := hP
                        have hD : va_D (inW [(mo, .inr (5, [.int (nI n), .ref vk, .ref vc, .ref vt, .ref vn, .ref vr, .ref vs, .ref ve, .ref vp])), (vk, .inl (cI, 160, .inl f)), (vc, .inl (cI, 8, .inl kc)), (vt, .inl (cI, 256, .inl tb)), (vn, .inl (cI, 80, .inl fN)), (vr, .inl (cD, 80, .inr (.inr (.inr (.inl fR))))), (vs, .inl (cI, 80, .inl fS)), (ve, .inl (cI, 16, .inl ep)), (vp, .inl (cI, 5, .inl po))]) [(mo, .inr (5, [.int (nI (nj - 1)), .ref vk, .ref vc, .ref vt, .ref vn, .ref vr, .ref vs, .ref ve, .ref vp])), (vk, .inl (cI, 160, .inl fd)), (vc, .inl (cI, 8, .inl (bmp kcj 2))), (vt, .inl (cI, 256, .inl tb)), (vn, .inl (cI, 80, .inl fNj)), (vr, .inl (cD, 80, .inr (.inr (.inr (.inl fRj))))), (vs, .inl (cI, 80, .inl fSj)), (ve, .inl (cI, 16, .inl epj)), (vp, .inl (cI, 5, .inl poj))] := hD
                        refine lv_goto (tgt := 145) hx hb dX5_deal_97 (by decide) ?_
                        exact ih.2 (bj.drop 1) (nj - 1) fd tk (bmp kcj 2) fNj fRj fSj epj poj Gj Lj Pj (by have h := hdl; rw [dl_skip (b := bj) hc1] at h; exact h) hfd (by rw [List.length_drop, hnj]) (by omega) (hBj.drop _) (by first | assumption | omega) (by first | assumption | omega) (by omega) _ _ hP hD hS ls (lv_sub hl [2, 3] rfl)
                    · skip
                      have hck := (cls_long (b := bj) (by omega) (by omega) (by omega)).1 (tf_of1 c_61)
                      refine lv_goto (tgt := 75) hx hb dX5_deal_64 (by decide) ?_
                      refine lv_iconst (v := nI 1) hx hb dX5_deal_75 (by decide) ?_
                      refine lv_goto (tgt := 80) hx hb dX5_deal_76 (by decide) ?_
                      refine lv_istore (lv' := [(4, .int (nI 1)), (3, .int (nI 1)), (0, .ref mo), (1, .int (nI tk)), (2, .int (nI (frz bj)))]) hx hb dX5_deal_80 hl (by decide) rfl (fun ls hl => ?_)
                      refine lv_iload hx hb dX5_deal_82 (lv_at hl 0 rfl) ?_
                      refine rz_ne (tgt := 100) hx hb dX5_deal_84 (by decide) (by omega) (fun c_84 => ?_) (fun c_84 => ?_)
                      · skip
                        refine lv_iload_n hx hb dX5_deal_100 rfl (lv_at hl 3 rfl) ?_
                        refine lv_iconst (v := nI 1) hx hb dX5_deal_101 (by decide) ?_
                        refine lv_iadd hx hb dX5_deal_102 ?_
                        refine r_i (v := nI (tk + 1)) (nI_add _ _) ?_
                        refine lv_istore_n (lv' := [(1, .int (nI (tk + 1))), (4, .int (nI 1)), (3, .int (nI 1)), (0, .ref mo), (2, .int (nI (frz bj)))]) hx hb dX5_deal_103 rfl hl (by decide) rfl (fun ls hl => ?_)
                        refine lv_aload_n hx hb dX5_deal_104 rfl (lv_at hl 3 rfl) ?_
                        refine lv_iload_n hx hb dX5_deal_105 rfl (lv_at hl 2 rfl) ?_
                        refine rz_eq (tgt := 113) hx hb dX5_deal_106 (by decide) (by omega) (fun c_106 => ?_) (fun c_106 => ?_)
                        · omega
                        · skip
                          refine lv_iconst (v := nI 0) hx hb dX5_deal_109 (by decide) ?_
                          refine lv_goto (tgt := 114) hx hb dX5_deal_110 (by decide) ?_
                          refine x_callV (As := [.int (nI 0)]) (rest := []) ⟨hx, hb, hml, hown, hts⟩ (c_X5_bump (zl := zl) (D := D) (cI := cI) (cD := cD) mo nj vk vc vt vn vr vs ve vp kcj 0 (by decide)) (cwV 1 hts gX5_deal_X5_bump rfl rfl rfl (by decide +kernel) ⟨Nat.le_of_ble_eq_true rfl, Nat.le_of_ble_eq_true rfl⟩) hK hN hP hD hS [0, 2] rfl rfl 0 rfl rfl rfl hl.1 rfl (Nat.le_of_ble_eq_true rfl) dX5_deal_114 ⟨Nat.le_of_ble_eq_true rfl, Nat.le_of_ble_eq_true rfl⟩ (fun v_18 w_18 H locs hr_18 hP hD hS => ?_)
                          obtain ⟨rfl, rfl⟩ := hr_18
                          refine W.eq (g2 := F0 zm 117 ls []) rfl ?_
                          have hP : va_P D vwCl [(mo, .inr (5, [.int (nI nj), .ref vk, .ref vc, .ref vt, .ref vn, .ref vr, .ref vs, .ref ve, .ref vp])), (vk, .inl (cI, 160, .inl fj)), (vc, .inl (cI, 8, .inl (bmp kcj 0))), (vt, .inl (cI, 256, .inl tb)), (vn, .inl (cI, 80, .inl fNj)), (vr, .inl (cD, 80, .inr (.inr (.inr (.inl fRj))))), (vs, .inl (cI, 80, .inl fSj)), (ve, .inl (cI, 16, .inl epj)), (vp, .inl (cI, 5, .inl poj))] _ := hP
                          have hD : va_D (inW [(mo, .inr (5, [.int (nI n), .ref vk, .ref vc, .ref vt, .ref vn, .ref vr, .ref vs, .ref ve, .ref vp])), (vk, .inl (cI, 160, .inl f)), (vc, .inl (cI, 8, .inl kc)), (vt, .inl (cI, 256, .inl tb)), (vn, .inl (cI, 80, .inl fN)), (vr, .inl (cD, 80, .inr (.inr (.inr (.inl fR))))), (vs, .inl (cI, 80, .inl fS)), (ve, .inl (cI, 16, .inl ep)), (vp, .inl (cI, 5, .inl po))]) [(mo, .inr (5, [.int (nI nj), .ref vk, .ref vc, .ref vt, .ref vn, .ref vr, .ref vs, .ref ve, .ref vp])), (vk, .inl (cI, 160, .inl fj)), (vc, .inl (cI, 8, .inl (bmp kcj 0))), (vt, .inl (cI, 256, .inl tb)), (vn, .inl (cI, 80, .inl fNj)), (vr, .inl (cD, 80, .inr (.inr (.inr (.inl fRj))))), (vs, .inl (cI, 80, .inl fSj)), (ve, .inl (cI, 16, .inl epj)), (vp, .inl (cI, 5, .inl poj))] := hD
                          refine lv_iload_n hx hb dX5_deal_117 rfl (lv_at hl 2 rfl) ?_
                          refine rz_eq (tgt := 132) hx hb dX5_deal_118 (by decide) (by omega) (fun c_118 => ?_) (fun c_118 => ?_)
                          · omega
                          · skip
                            refine lv_aload_n hx hb dX5_deal_121 rfl (lv_at hl 3 rfl) ?_
                            refine lv_iload_n hx hb dX5_deal_122 rfl (lv_at hl 4 rfl) ?_
                            refine lv_bipush (v := nI 6) hx hb dX5_deal_123 (by decide) ?_
                            refine lv_isub hx hb dX5_deal_125 ?_
                            refine r_i (v := nI (frz bj - 6)) (pk_sub (by omega)) ?_
                            by_cases hob : isObs bj (frz bj - 6)
                            · skip
                              refine x_callV (As := [.int (nI (frz bj - 6))]) (rest := []) ⟨hx, hb, hml, hown, hts⟩ (c_X5_observe (zl := zl) (D := D) (cI := cI) (cD := cD) mo nj vk vc vt vn vr vs ve vp fj bj (bmp kcj 0) fNj fRj fSj epj Gj Lj (frz bj - 6) hfj hnj (by omega) hBj hMj (by omega) hob) (cwV 1 hts gX5_deal_X5_observe rfl rfl rfl (by decide +kernel) ⟨Nat.le_of_ble_eq_true rfl, Nat.le_of_ble_eq_true rfl⟩) hK hN hP hD hS [0, 1, 2, 4, 5, 6, 7] rfl rfl 0 rfl rfl rfl hl.1 rfl (Nat.le_of_ble_eq_true rfl) dX5_deal_126 ⟨Nat.le_of_ble_eq_true rfl, Nat.le_of_ble_eq_true rfl⟩ (fun v_19 w_19 H locs hr_19 hP hD hS => ?_)
                              obtain ⟨ct, fNt, fRt, fSt, ept, Gt, Lt, rfl, rfl, htk, hMt⟩ := hr_19
                              refine W.eq (g2 := F0 zm 129 ls []) rfl ?_
                              have hP : va_P D vwCl [(mo, .inr (5, [.int (nI nj), .ref vk, .ref vc, .ref vt, .ref vn, .ref vr, .ref vs, .ref ve, .ref vp])), (vk, .inl (cI, 160, .inl fj)), (vc, .inl (cI, 8, .inl ct)), (vt, .inl (cI, 256, .inl tb)), (vn, .inl (cI, 80, .inl fNt)), (vr, .inl (cD, 80, .inr (.inr (.inr (.inl fRt))))), (vs, .inl (cI, 80, .inl fSt)), (ve, .inl (cI, 16, .inl ept)), (vp, .inl (cI, 5, .inl poj))] _ := hP
                              have hD : va_D (inW [(mo, .inr (5, [.int (nI n), .ref vk, .ref vc, .ref vt, .ref vn, .ref vr, .ref vs, .ref ve, .ref vp])), (vk, .inl (cI, 160, .inl f)), (vc, .inl (cI, 8, .inl kc)), (vt, .inl (cI, 256, .inl tb)), (vn, .inl (cI, 80, .inl fN)), (vr, .inl (cD, 80, .inr (.inr (.inr (.inl fR))))), (vs, .inl (cI, 80, .inl fS)), (ve, .inl (cI, 16, .inl ep)), (vp, .inl (cI, 5, .inl po))]) [(mo, .inr (5, [.int (nI nj), .ref vk, .ref vc, .ref vt, .ref vn, .ref vr, .ref vs, .ref ve, .ref vp])), (vk, .inl (cI, 160, .inl fj)), (vc, .inl (cI, 8, .inl ct)), (vt, .inl (cI, 256, .inl tb)), (vn, .inl (cI, 80, .inl fNt)), (vr, .inl (cD, 80, .inr (.inr (.inr (.inl fRt))))), (vs, .inl (cI, 80, .inl fSt)), (ve, .inl (cI, 16, .inl ept)), (vp, .inl (cI, 5, .inl poj))] := hD
                              refine lv_goto (tgt := 140) hx hb dX5_deal_129 (by decide) ?_
                              refine lv_aload_n hx hb dX5_deal_140 rfl (lv_at hl 3 rfl) ?_
                              refine lv_iload_n hx hb dX5_deal_141 rfl (lv_at hl 4 rfl) ?_
                              refine x_callV (As := [.int (nI (frz bj))]) (rest := []) ⟨hx, hb, hml, hown, hts⟩ (c_X5_drop (zl := zl) (D := D) (cI := cI) (cD := cD) mo nj vk vc vt vn vr vs ve vp fj bj (frz bj) hfj hnj (by omega) hBj (by omega)) (cwV 1 hts gX5_deal_X5_drop rfl rfl rfl (by decide +kernel) ⟨Nat.le_of_ble_eq_true rfl, Nat.le_of_ble_eq_true rfl⟩) hK hN hP hD hS [0, 1] rfl rfl 0 rfl rfl rfl hl.1 rfl (Nat.le_of_ble_eq_true rfl) dX5_deal_142 ⟨Nat.le_of_ble_eq_true rfl, Nat.le_of_ble_eq_true rfl⟩ (fun v_20 w_20 H locs hr_20 hP hD hS => ?_)
                              obtain ⟨fd, rfl, rfl, hfd⟩ := hr_20
                              refine W.eq (g2 := F0 zm 145 ls []) rfl ?_
                              have hP : va_P D vwCl [(mo, .inr (5, [.int (nI (nj - (frz bj))), .ref vk, .ref vc, .ref vt, .ref vn, .ref vr, .ref vs, .ref ve, .ref vp])), (vk, .inl (cI, 160, .inl fd)), (vc, .inl (cI, 8, .inl ct)), (vt, .inl (cI, 256, .inl tb)), (vn, .inl (cI, 80, .inl fNt)), (vr, .inl (cD, 80, .inr (.inr (.inr (.inl fRt))))), (vs, .inl (cI, 80, .inl fSt)), (ve, .inl (cI, 16, .inl ept)), (vp, .inl (cI, 5, .inl poj))] _ := hP
                              have hD : va_D (inW [(mo, .inr (5, [.int (nI n), .ref vk, .ref vc, .ref vt, .ref vn, .ref vr, .ref vs, .ref ve, .ref vp])), (vk, .inl (cI, 160, .inl f)), (vc, .inl (cI, 8, .inl kc)), (vt, .inl (cI, 256, .inl tb)), (vn, .inl (cI, 80, .inl fN)), (vr, .inl (cD, 80, .inr (.inr (.inr (.inl fR))))), (vs, .inl (cI, 80, .inl fS)), (ve, .inl (cI, 16, .inl ep)), (vp, .inl (cI, 5, .inl po))]) [(mo, .inr (5, [.int (nI (nj - (frz bj))), .ref vk, .ref vc, .ref vt, .ref vn, .ref vr, .ref vs, .ref ve, .ref vp])), (vk, .inl (cI, 160, .inl fd)), (vc, .inl (cI, 8, .inl ct)), (vt, .inl (cI, 256, .inl tb)), (vn, .inl (cI, 80, .inl fNt)), (vr, .inl (cD, 80, .inr (.inr (.inr (.inl fRt))))), (vs, .inl (cI, 80, .inl fSt)), (ve, .inl (cI, 16, .inl ept)), (vp, .inl (cI, 5, .inl poj))] := hD
                              exact ih.2 (bj.drop (frz bj)) (nj - frz bj) fd (tk + 1) ct fNt fRt fSt ept poj Gt Lt Pj (by have h := hdl; rw [dl_take (b := bj) hck (by omega), stepF_L (by omega) (htk.trans (takeL_yes hob _ _ _).symm)] at h; exact h) hfd (by rw [List.length_drop, hnj]) (by omega) (hBj.drop _) hMt (by first | assumption | omega) (by omega) _ _ hP hD hS ls (lv_sub hl [3, 0] rfl)
                            · skip
                              refine x_callV (As := [.int (nI (frz bj - 6))]) (rest := []) ⟨hx, hb, hml, hown, hts⟩ (c_X5_observe_no (zl := zl) (D := D) (cI := cI) (cD := cD) mo nj vk vc vt vn vr vs ve vp fj bj (bmp kcj 0) (frz bj - 6) hfj hnj (by omega) hBj (by omega) hob) (cwV 1 hts gX5_deal_X5_observe rfl rfl rfl (by decide +kernel) ⟨Nat.le_of_ble_eq_true rfl, Nat.le_of_ble_eq_true rfl⟩) hK hN hP hD hS [0, 1, 2] rfl rfl 0 rfl rfl rfl hl.1 rfl (Nat.le_of_ble_eq_true rfl) dX5_deal_126 ⟨Nat.le_of_ble_eq_true rfl, Nat.le_of_ble_eq_true rfl⟩ (fun v_21 w_21 H locs hr_21 hP hD hS => ?_)
                              obtain ⟨rfl, rfl⟩ := hr_21
                              refine W.eq (g2 := F0 zm 129 ls []) rfl ?_
                              have hP : va_P D vwCl [(mo, .inr (5, [.int (nI nj), .ref vk, .ref vc, .ref vt, .ref vn, .ref vr, .ref vs, .ref ve, .ref vp])), (vk, .inl (cI, 160, .inl fj)), (vc, .inl (cI, 8, .inl (bmp (bmp kcj 0) 3))), (vt, .inl (cI, 256, .inl tb)), (vn, .inl (cI, 80, .inl fNj)), (vr, .inl (cD, 80, .inr (.inr (.inr (.inl fRj))))), (vs, .inl (cI, 80, .inl fSj)), (ve, .inl (cI, 16, .inl epj)), (vp, .inl (cI, 5, .inl poj))] _ := hP
                              have hD : va_D (inW [(mo, .inr (5, [.int (nI n), .ref vk, .ref vc, .ref vt, .ref vn, .ref vr, .ref vs, .ref ve, .ref vp])), (vk, .inl (cI, 160, .inl f)), (vc, .inl (cI, 8, .inl kc)), (vt, .inl (cI, 256, .inl tb)), (vn, .inl (cI, 80, .inl fN)), (vr, .inl (cD, 80, .inr (.inr (.inr (.inl fR))))), (vs, .inl (cI, 80, .inl fS)), (ve, .inl (cI, 16, .inl ep)), (vp, .inl (cI, 5, .inl po))]) [(mo, .inr (5, [.int (nI nj), .ref vk, .ref vc, .ref vt, .ref vn, .ref vr, .ref vs, .ref ve, .ref vp])), (vk, .inl (cI, 160, .inl fj)), (vc, .inl (cI, 8, .inl (bmp (bmp kcj 0) 3))), (vt, .inl (cI, 256, .inl tb)), (vn, .inl (cI, 80, .inl fNj)), (vr, .inl (cD, 80, .inr (.inr (.inr (.inl fRj))))), (vs, .inl (cI, 80, .inl fSj)), (ve, .inl (cI, 16, .inl epj)), (vp, .inl (cI, 5, .inl poj))] := hD
                              refine lv_goto (tgt := 140) hx hb dX5_deal_129 (by decide) ?_
                              refine lv_aload_n hx hb dX5_deal_140 rfl (lv_at hl 3 rfl) ?_
                              refine lv_iload_n hx hb dX5_deal_141 rfl (lv_at hl 4 rfl) ?_
                              refine x_callV (As := [.int (nI (frz bj))]) (rest := []) ⟨hx, hb, hml, hown, hts⟩ (c_X5_drop (zl := zl) (D := D) (cI := cI) (cD := cD) mo nj vk vc vt vn vr vs ve vp fj bj (frz bj) hfj hnj (by omega) hBj (by omega)) (cwV 1 hts gX5_deal_X5_drop rfl rfl rfl (by decide +kernel) ⟨Nat.le_of_ble_eq_true rfl, Nat.le_of_ble_eq_true rfl⟩) hK hN hP hD hS [0, 1] rfl rfl 0 rfl rfl rfl hl.1 rfl (Nat.le_of_ble_eq_true rfl) dX5_deal_142 ⟨Nat.le_of_ble_eq_true rfl, Nat.le_of_ble_eq_true rfl⟩ (fun v_22 w_22 H locs hr_22 hP hD hS => ?_)
                              obtain ⟨fd, rfl, rfl, hfd⟩ := hr_22
                              refine W.eq (g2 := F0 zm 145 ls []) rfl ?_
                              have hP : va_P D vwCl [(mo, .inr (5, [.int (nI (nj - (frz bj))), .ref vk, .ref vc, .ref vt, .ref vn, .ref vr, .ref vs, .ref ve, .ref vp])), (vk, .inl (cI, 160, .inl fd)), (vc, .inl (cI, 8, .inl (bmp (bmp kcj 0) 3))), (vt, .inl (cI, 256, .inl tb)), (vn, .inl (cI, 80, .inl fNj)), (vr, .inl (cD, 80, .inr (.inr (.inr (.inl fRj))))), (vs, .inl (cI, 80, .inl fSj)), (ve, .inl (cI, 16, .inl epj)), (vp, .inl (cI, 5, .inl poj))] _ := hP
                              have hD : va_D (inW [(mo, .inr (5, [.int (nI n), .ref vk, .ref vc, .ref vt, .ref vn, .ref vr, .ref vs, .ref ve, .ref vp])), (vk, .inl (cI, 160, .inl f)), (vc, .inl (cI, 8, .inl kc)), (vt, .inl (cI, 256, .inl tb)), (vn, .inl (cI, 80, .inl fN)), (vr, .inl (cD, 80, .inr (.inr (.inr (.inl fR))))), (vs, .inl (cI, 80, .inl fS)), (ve, .inl (cI, 16, .inl ep)), (vp, .inl (cI, 5, .inl po))]) [(mo, .inr (5, [.int (nI (nj - (frz bj))), .ref vk, .ref vc, .ref vt, .ref vn, .ref vr, .ref vs, .ref ve, .ref vp])), (vk, .inl (cI, 160, .inl fd)), (vc, .inl (cI, 8, .inl (bmp (bmp kcj 0) 3))), (vt, .inl (cI, 256, .inl tb)), (vn, .inl (cI, 80, .inl fNj)), (vr, .inl (cD, 80, .inr (.inr (.inr (.inl fRj))))), (vs, .inl (cI, 80, .inl fSj)), (ve, .inl (cI, 16, .inl epj)), (vp, .inl (cI, 5, .inl poj))] := hD
                              exact ih.2 (bj.drop (frz bj)) (nj - frz bj) fd (tk + 1) (bmp (bmp kcj 0) 3) fNj fRj fSj epj poj Gj Lj Pj (by have h := hdl; rw [dl_take (b := bj) hck (by omega), stepF_L (by omega) (takeL_no hob _ _ _).symm] at h; exact h) hfd (by rw [List.length_drop, hnj]) (by omega) (hBj.drop _) (by first | assumption | omega) (by first | assumption | omega) (by omega) _ _ hP hD hS ls (lv_sub hl [3, 0] rfl)
                      · omega
      · intro bj nj fj tk kcj fNj fRj fSj epj poj Gj Lj Pj hdl hfj hnj hnn hBj hMj hQj hm H locs hP hD hS ls hl
        refine lv_aload_n hx hb dX5_deal_145 rfl (lv_at hl 0 rfl) ?_
        refine va_get (D := D) (ci := 5) (v := .int (nI nj)) (C := RX5) (T := TX5) (N := 9) hx hb hts hin5 hown hK hP 0 rfl rfl 0 (by decide) (hts (.fieldLink RX5 42 "EpochSifterModel" "size" "I") (by decide +kernel)) (fun _ h9 => h9) rfl dX5_deal_146 ?_
        refine rz_ne (tgt := 156) hx hb dX5_deal_149 (by decide) (by omega) (fun c_149 => ?_) (fun c_149 => ?_)
        · skip
          refine lv_aload_n hx hb dX5_deal_156 rfl (lv_at hl 0 rfl) ?_
          refine r_callVi (As := []) (rest := []) ⟨hx, hb, hml, hown, hts⟩ (c_X5_frame (zl := zl) (D := D) (cI := cI) (cD := cD) mo nj vk vc vt vn vr vs ve vp fj bj hfj hnj (by omega) hBj (by first | assumption | omega)) (cwV 0 hts gX5_deal_X5_frame rfl rfl rfl (by decide +kernel) ⟨Nat.le_of_ble_eq_true rfl, Nat.le_of_ble_eq_true rfl⟩) hK hN hP hD [0, 1] rfl rfl 0 rfl rfl rfl hl.1 rfl (Nat.le_of_ble_eq_true rfl) dX5_deal_157 ⟨Nat.le_of_ble_eq_true rfl, Nat.le_of_ble_eq_true rfl⟩ (fun r_23 h_23 => ?_)
          obtain rfl := h_23
          refine r_i (v := enc (frz bj)) (enc_frz1 (by omega)) ?_
          refine lv_istore_n (lv' := [(2, .int (enc (frz bj))), (0, .ref mo), (1, .int (nI tk))]) hx hb dX5_deal_160 rfl hl (by decide) rfl (fun ls hl => ?_)
          refine lv_goto (tgt := 18) hx hb dX5_deal_161 (by decide) ?_
          exact ih.1 bj nj fj tk kcj fNj fRj fSj epj poj Gj Lj Pj (by first | assumption | omega) (by first | assumption | omega) (by first | assumption | omega) (by first | assumption | omega) (by first | assumption | omega) (by first | assumption | omega) (by first | assumption | omega) (by omega) _ _ hP hD hS ls (lv_sub hl [1, 2, 0] rfl)
        · skip
          refine lv_iconst (v := nI 0) hx hb dX5_deal_152 (by decide) ?_
          refine lv_goto (tgt := 160) hx hb dX5_deal_153 (by decide) ?_
          refine r_i (v := enc (frz bj)) (enc_frz0 (by omega)) ?_
          refine lv_istore_n (lv' := [(2, .int (enc (frz bj))), (0, .ref mo), (1, .int (nI tk))]) hx hb dX5_deal_160 rfl hl (by decide) rfl (fun ls hl => ?_)
          refine lv_goto (tgt := 18) hx hb dX5_deal_161 (by decide) ?_
          exact ih.1 bj nj fj tk kcj fNj fRj fSj epj poj Gj Lj Pj (by first | assumption | omega) (by first | assumption | omega) (by first | assumption | omega) (by first | assumption | omega) (by first | assumption | omega) (by first | assumption | omega) (by first | assumption | omega) (by omega) _ _ hP hD hS ls (lv_sub hl [1, 2, 0] rfl)
  refine lv_iconst (v := nI 0) hx hb dX5_deal_0 (by decide) ?_
  refine lv_istore_n (lv' := [(1, .int (nI 0)), (0, .ref mo)]) hx hb dX5_deal_1 rfl hl (by decide) rfl (fun ls hl => ?_)
  refine lv_aload_n hx hb dX5_deal_2 rfl (lv_at hl 1 rfl) ?_
  refine va_get (D := D) (ci := 5) (v := .int (nI n)) (C := RX5) (T := TX5) (N := 9) hx hb hts hin5 hown hK hP 0 rfl rfl 0 (by decide) (hts (.fieldLink RX5 42 "EpochSifterModel" "size" "I") (by decide +kernel)) (fun _ h9 => h9) rfl dX5_deal_3 ?_
  refine rz_ne (tgt := 13) hx hb dX5_deal_6 (by decide) (by omega) (fun c_6 => ?_) (fun c_6 => ?_)
  · skip
    refine lv_aload_n hx hb dX5_deal_13 rfl (lv_at hl 1 rfl) ?_
    refine r_callVi (As := []) (rest := []) ⟨hx, hb, hml, hown, hts⟩ (c_X5_frame (zl := zl) (D := D) (cI := cI) (cD := cD) mo n vk vc vt vn vr vs ve vp f bs (by first | assumption | omega) (by first | assumption | omega) (by omega) (by first | assumption | omega) (by first | assumption | omega)) (cwV 0 hts gX5_deal_X5_frame rfl rfl rfl (by decide +kernel) ⟨Nat.le_of_ble_eq_true rfl, Nat.le_of_ble_eq_true rfl⟩) hK hN hP hD [0, 1] rfl rfl 0 rfl rfl rfl hl.1 rfl (Nat.le_of_ble_eq_true rfl) dX5_deal_14 ⟨Nat.le_of_ble_eq_true rfl, Nat.le_of_ble_eq_true rfl⟩ (fun r_24 h_24 => ?_)
    obtain rfl := h_24
    refine r_i (v := enc (frz bs)) (enc_frz1 (by omega)) ?_
    refine lv_istore_n (lv' := [(2, .int (enc (frz bs))), (1, .int (nI 0)), (0, .ref mo)]) hx hb dX5_deal_17 rfl hl (by decide) rfl (fun ls hl => ?_)
    exact (cuts _).1 bs n f 0 kc fN fR fS ep po G L P rfl hf hbn hn hB hM hQ (Nat.lt_succ_self _) _ _ hP hD hS ls (lv_sub hl [2, 1, 0] rfl)
  · skip
    refine lv_iconst (v := nI 0) hx hb dX5_deal_9 (by decide) ?_
    refine lv_goto (tgt := 17) hx hb dX5_deal_10 (by decide) ?_
    refine r_i (v := enc (frz bs)) (enc_frz0 (by omega)) ?_
    refine lv_istore_n (lv' := [(2, .int (enc (frz bs))), (1, .int (nI 0)), (0, .ref mo)]) hx hb dX5_deal_17 rfl hl (by decide) rfl (fun ls hl => ?_)
    exact (cuts _).1 bs n f 0 kc fN fR fS ep po G L P rfl hf hbn hn hB hM hQ (Nat.lt_succ_self _) _ _ hP hD hS ls (lv_sub hl [2, 1, 0] rfl)
set_option maxHeartbeats 4000000 in
set_option maxRecDepth 100000 in
/-- bytes come, and are dealt with -/
theorem c_X5_put {zl : Launch} {D : va_G} {cI cD : ClassId} (mo : Nat) (n : Nat) (vk : Nat) (vc : Nat) (vt : Nat) (vn : Nat) (vr : Nat) (vs : Nat) (ve : Nat) (vp : Nat) (f : Nat → Int32) (kc : Nat → Int32) (tb : Nat → Int32) (fN : Nat → Int32) (fR : Nat → UInt64) (fS : Nat → Int32) (ep : Nat → Int32) (po : Nat → Int32) (bs : List Nat) (G : Ep) (L : Ep) (P : Po) (x : Int32) (k : Nat) (hf : Rp f bs) (hbn : bs.length = n) (hn : n ≤ 100) (hB : By bs) (hT : Tb tb) (hM : RpM ep fN fR fS G L) (hQ : RpP po P) (hk : 1 ≤ k ∧ k ≤ 4) : Cx zl yX5_put wsX5_put ({ frames := 5, cells := 0, slots := 0, locals := 135 }) D cI cD [.ref mo, .int x, .int (nI k)] [(mo, .inr (5, [.int (nI n), .ref vk, .ref vc, .ref vt, .ref vn, .ref vr, .ref vs, .ref ve, .ref vp])), (vk, .inl (cI, 160, .inl f)), (vc, .inl (cI, 8, .inl kc)), (vt, .inl (cI, 256, .inl tb)), (vn, .inl (cI, 80, .inl fN)), (vr, .inl (cD, 80, .inr (.inr (.inr (.inl fR))))), (vs, .inl (cI, 80, .inl fS)), (ve, .inl (cI, 16, .inl ep)), (vp, .inl (cI, 5, .inl po))] (fun v w1 => ∃ (no : Nat), ∃ (fo : Nat → Int32), ∃ (co : Nat → Int32), ∃ (fNo : Nat → Int32), ∃ (fRo : Nat → UInt64), ∃ (fSo : Nat → Int32), ∃ (epo : Nat → Int32), ∃ (poo : Nat → Int32), ∃ (bso : List Nat), ∃ (tko : Nat), ∃ (Go : Ep), ∃ (Lo : Ep), ∃ (Po_ : Po), w1 = [(mo, .inr (5, [.int (nI no), .ref vk, .ref vc, .ref vt, .ref vn, .ref vr, .ref vs, .ref ve, .ref vp])), (vk, .inl (cI, 160, .inl fo)), (vc, .inl (cI, 8, .inl co)), (vt, .inl (cI, 256, .inl tb)), (vn, .inl (cI, 80, .inl fNo)), (vr, .inl (cD, 80, .inr (.inr (.inr (.inl fRo))))), (vs, .inl (cI, 80, .inl fSo)), (ve, .inl (cI, 16, .inl epo)), (vp, .inl (cI, 5, .inl poo))] ∧ v = some (.int (nI tko)) ∧ (bso, tko, (co, Go, Lo, Po_)) = dl (bs ++ wbs x k).length (bs ++ wbs x k) 0 (kc, G, L, P) ∧ Rp fo bso ∧ bso.length = no ∧ RpM epo fNo fRo fSo Go Lo ∧ RpP poo Po_) := by
  refine Met.ofW (cc := cX5_put) (maxL := 4) (ret := (some .int)) (by decide) rfl ?_
  intro zp ze zs zm zargs zb zt zc zs₁ B hml hv
  obtain ⟨rfl, hP, hK, hD0, hN⟩ := hv
  have hx := B.exec
  have hb := B.bytes
  have hr := B.returns
  have hts := atoms_spec (ws := wsX5_put) B.pre
  have hown : zs.vm.findClass RX5 = some zm.cls := findClass_of_methodNamed B.named
  have hlocks := B.notSynchronized
  have hD := inW_self hD0
  have hS : va_S (inW [(mo, .inr (5, [.int (nI n), .ref vk, .ref vc, .ref vt, .ref vn, .ref vr, .ref vs, .ref ve, .ref vp])), (vk, .inl (cI, 160, .inl f)), (vc, .inl (cI, 8, .inl kc)), (vt, .inl (cI, 256, .inl tb)), (vn, .inl (cI, 80, .inl fN)), (vr, .inl (cD, 80, .inr (.inr (.inr (.inl fR))))), (vs, .inl (cI, 80, .inl fS)), (ve, .inl (cI, 16, .inl ep)), (vp, .inl (cI, 5, .inl po))]) zs.heap zs.heap [] := va_S.rf
  have hl := lv_entry [.ref mo, .int x, .int (nI k)] (n := 4) (Nat.le_of_ble_eq_true rfl)
  rw [lg_entry_eq]
  generalize (lg_sl [.ref mo, .int x, .int (nI k)] ++ List.replicate (4 - (lg_sl [.ref mo, .int x, .int (nI k)]).length) Slot.unset).toArray = ls at hl ⊢
  have hl : lv_has ls 4 [(0, .ref mo), (1, .int x), (2, .int (nI k))] := hl
  have hin5 : ∀ w ∈ u_ws RX5 TX5 9, w ∈ wsX5_put := by decide +kernel
  have cuts : ∀ fuel : Nat, (∀ (m : Nat), ∀ (bj : List Nat), ∀ (nj : Nat), ∀ (fj : Nat → Int32), (m ≤ 4) → (bj ++ wbs x m = bs ++ wbs x k) → (Rp fj bj) → (bj.length = nj) → (nj + m ≤ 104) → (By bj) → m < fuel → ∀ (H : Heap) (locs : List Loc), va_P D vwCl [(mo, .inr (5, [.int (nI nj), .ref vk, .ref vc, .ref vt, .ref vn, .ref vr, .ref vs, .ref ve, .ref vp])), (vk, .inl (cI, 160, .inl fj)), (vc, .inl (cI, 8, .inl kc)), (vt, .inl (cI, 256, .inl tb)), (vn, .inl (cI, 80, .inl fN)), (vr, .inl (cD, 80, .inr (.inr (.inr (.inl fR))))), (vs, .inl (cI, 80, .inl fS)), (ve, .inl (cI, 16, .inl ep)), (vp, .inl (cI, 5, .inl po))] H → va_D (inW [(mo, .inr (5, [.int (nI n), .ref vk, .ref vc, .ref vt, .ref vn, .ref vr, .ref vs, .ref ve, .ref vp])), (vk, .inl (cI, 160, .inl f)), (vc, .inl (cI, 8, .inl kc)), (vt, .inl (cI, 256, .inl tb)), (vn, .inl (cI, 80, .inl fN)), (vr, .inl (cD, 80, .inr (.inr (.inr (.inl fR))))), (vs, .inl (cI, 80, .inl fS)), (ve, .inl (cI, 16, .inl ep)), (vp, .inl (cI, 5, .inl po))]) [(mo, .inr (5, [.int (nI nj), .ref vk, .ref vc, .ref vt, .ref vn, .ref vr, .ref vs, .ref ve, .ref vp])), (vk, .inl (cI, 160, .inl fj)), (vc, .inl (cI, 8, .inl kc)), (vt, .inl (cI, 256, .inl tb)), (vn, .inl (cI, 80, .inl fN)), (vr, .inl (cD, 80, .inr (.inr (.inr (.inl fR))))), (vs, .inl (cI, 80, .inl fS)), (ve, .inl (cI, 16, .inl ep)), (vp, .inl (cI, 5, .inl po))] → va_S (inW [(mo, .inr (5, [.int (nI n), .ref vk, .ref vc, .ref vt, .ref vn, .ref vr, .ref vs, .ref ve, .ref vp])), (vk, .inl (cI, 160, .inl f)), (vc, .inl (cI, 8, .inl kc)), (vt, .inl (cI, 256, .inl tb)), (vn, .inl (cI, 80, .inl fN)), (vr, .inl (cD, 80, .inr (.inr (.inr (.inl fR))))), (vs, .inl (cI, 80, .inl fS)), (ve, .inl (cI, 16, .inl ep)), (vp, .inl (cI, 5, .inl po))]) zs.heap H locs → ∀ (ls : Array Slot), lv_has ls 4 [(0, .ref mo), (1, .int x), (3, .int (nI m - nI 1))] → W zp zl ze ({ frames := 5, cells := 0, slots := 0, locals := 135 }) zs zm [.ref mo, .int x, .int (nI k)].toArray zb zt zc H locs 0 0 (MQ zb (Xq D [(mo, .inr (5, [.int (nI n), .ref vk, .ref vc, .ref vt, .ref vn, .ref vr, .ref vs, .ref ve, .ref vp])), (vk, .inl (cI, 160, .inl f)), (vc, .inl (cI, 8, .inl kc)), (vt, .inl (cI, 256, .inl tb)), (vn, .inl (cI, 80, .inl fN)), (vr, .inl (cD, 80, .inr (.inr (.inr (.inl fR))))), (vs, .inl (cI, 80, .inl fS)), (ve, .inl (cI, 16, .inl ep)), (vp, .inl (cI, 5, .inl po))] (fun v w1 => ∃ (no : Nat), ∃ (fo : Nat → Int32), ∃ (co : Nat → Int32), ∃ (fNo : Nat → Int32), ∃ (fRo : Nat → UInt64), ∃ (fSo : Nat → Int32), ∃ (epo : Nat → Int32), ∃ (poo : Nat → Int32), ∃ (bso : List Nat), ∃ (tko : Nat), ∃ (Go : Ep), ∃ (Lo : Ep), ∃ (Po_ : Po), w1 = [(mo, .inr (5, [.int (nI no), .ref vk, .ref vc, .ref vt, .ref vn, .ref vr, .ref vs, .ref ve, .ref vp])), (vk, .inl (cI, 160, .inl fo)), (vc, .inl (cI, 8, .inl co)), (vt, .inl (cI, 256, .inl tb)), (vn, .inl (cI, 80, .inl fNo)), (vr, .inl (cD, 80, .inr (.inr (.inr (.inl fRo))))), (vs, .inl (cI, 80, .inl fSo)), (ve, .inl (cI, 16, .inl epo)), (vp, .inl (cI, 5, .inl poo))] ∧ v = some (.int (nI tko)) ∧ (bso, tko, (co, Go, Lo, Po_)) = dl (bs ++ wbs x k).length (bs ++ wbs x k) 0 (kc, G, L, P) ∧ Rp fo bso ∧ bso.length = no ∧ RpM epo fNo fRo fSo Go Lo ∧ RpP poo Po_)) [.ref mo, .int x, .int (nI k)].toArray zs 0 0 (inW [(mo, .inr (5, [.int (nI n), .ref vk, .ref vc, .ref vt, .ref vn, .ref vr, .ref vs, .ref ve, .ref vp])), (vk, .inl (cI, 160, .inl f)), (vc, .inl (cI, 8, .inl kc)), (vt, .inl (cI, 256, .inl tb)), (vn, .inl (cI, 80, .inl fN)), (vr, .inl (cD, 80, .inr (.inr (.inr (.inl fR))))), (vs, .inl (cI, 80, .inl fS)), (ve, .inl (cI, 16, .inl ep)), (vp, .inl (cI, 5, .inl po))])) (F0 zm 16 ls [])) := by
    intro fuel
    induction fuel with
    | zero => exact (by intros; exact absurd (by assumption) (Nat.not_lt_zero _))
    | succ fuel ih =>
      intro m bj nj fj hm1 hbj hfj hnj hnj1 hBj hm H locs hP hD hS ls hl
      refine lv_iload_n hx hb dX5_put_16 rfl (lv_at hl 2 rfl) ?_
      refine lv_if_lt (tgt := 55) hx hb dX5_put_17 (by decide) (fun c_17 => ?_) (fun c_17 => ?_)
      · skip
        obtain rfl := neg_0 (by omega) c_17
        have hbj : bj = bs ++ wbs x k := by rw [← hbj]; exact (List.append_nil bj).symm
        subst hbj
        refine lv_aload_n hx hb dX5_put_55 rfl (lv_at hl 0 rfl) ?_
        refine x_callV (As := []) (rest := []) ⟨hx, hb, hml, hown, hts⟩ (c_X5_deal (zl := zl) (D := D) (cI := cI) (cD := cD) mo nj vk vc vt vn vr vs ve vp fj kc tb fN fR fS ep po (bs ++ wbs x k) G L P hfj hnj (by omega) hBj (by first | assumption | omega) (by first | assumption | omega) (by first | assumption | omega)) (cwV 0 hts gX5_put_X5_deal rfl rfl rfl (by decide +kernel) ⟨Nat.le_of_ble_eq_true rfl, Nat.le_of_ble_eq_true rfl⟩) hK hN hP hD hS [0, 1, 2, 3, 4, 5, 6, 7, 8] rfl rfl 0 rfl rfl rfl hl.1 rfl (Nat.le_of_ble_eq_true rfl) dX5_put_56 ⟨Nat.le_of_ble_eq_true rfl, Nat.le_of_ble_eq_true rfl⟩ (fun v_1 w_1 H locs hr_1 hP hD hS => ?_)
        obtain ⟨no, fo, co, fNo, fRo, fSo, epo, poo, bso, tko, Go, Lo, Po_, rfl, rfl, d0, d1, d2, d3, d4⟩ := hr_1
        refine W.eq (g2 := F0 zm 59 ls [.int (nI tko)]) rfl ?_
        have hP : va_P D vwCl [(mo, .inr (5, [.int (nI no), .ref vk, .ref vc, .ref vt, .ref vn, .ref vr, .ref vs, .ref ve, .ref vp])), (vk, .inl (cI, 160, .inl fo)), (vc, .inl (cI, 8, .inl co)), (vt, .inl (cI, 256, .inl tb)), (vn, .inl (cI, 80, .inl fNo)), (vr, .inl (cD, 80, .inr (.inr (.inr (.inl fRo))))), (vs, .inl (cI, 80, .inl fSo)), (ve, .inl (cI, 16, .inl epo)), (vp, .inl (cI, 5, .inl poo))] _ := hP
        have hD : va_D (inW [(mo, .inr (5, [.int (nI n), .ref vk, .ref vc, .ref vt, .ref vn, .ref vr, .ref vs, .ref ve, .ref vp])), (vk, .inl (cI, 160, .inl f)), (vc, .inl (cI, 8, .inl kc)), (vt, .inl (cI, 256, .inl tb)), (vn, .inl (cI, 80, .inl fN)), (vr, .inl (cD, 80, .inr (.inr (.inr (.inl fR))))), (vs, .inl (cI, 80, .inl fS)), (ve, .inl (cI, 16, .inl ep)), (vp, .inl (cI, 5, .inl po))]) [(mo, .inr (5, [.int (nI no), .ref vk, .ref vc, .ref vt, .ref vn, .ref vr, .ref vs, .ref ve, .ref vp])), (vk, .inl (cI, 160, .inl fo)), (vc, .inl (cI, 8, .inl co)), (vt, .inl (cI, 256, .inl tb)), (vn, .inl (cI, 80, .inl fNo)), (vr, .inl (cD, 80, .inr (.inr (.inr (.inl fRo))))), (vs, .inl (cI, 80, .inl fSo)), (ve, .inl (cI, 16, .inl epo)), (vp, .inl (cI, 5, .inl poo))] := hD
        exact W.iret (v := nI tko) hx hb hr (fun tz htz hWz => ⟨some (.int (nI tko)), [(mo, .inr (5, [.int (nI no), .ref vk, .ref vc, .ref vt, .ref vn, .ref vr, .ref vs, .ref ve, .ref vp])), (vk, .inl (cI, 160, .inl fo)), (vc, .inl (cI, 8, .inl co)), (vt, .inl (cI, 256, .inl tb)), (vn, .inl (cI, 80, .inl fNo)), (vr, .inl (cD, 80, .inr (.inr (.inr (.inl fRo))))), (vs, .inl (cI, 80, .inl fSo)), (ve, .inl (cI, 16, .inl epo)), (vp, .inl (cI, 5, .inl poo))], rfl, ⟨_, _, _, _, _, _, _, _, bso, _, Go, Lo, Po_, rfl, rfl, d0, d1, d2, d3, d4⟩, rfl, by rw [htz]; exact hP, hS.F htz⟩) (fun q h => hS.2.2 q h) dX5_put_59
      · skip
        have hm2 := neg_1 (by omega) c_17
        have el_2 : nI m - nI 1 = nI (m - 1) := pk_sub (by omega)
        have hl : lv_has ls 4 [(0, .ref mo), (1, .int x), (3, .int (nI (m - 1)))] := by rw [← el_2]; exact hl
        refine lv_aload_n hx hb dX5_put_20 rfl (lv_at hl 0 rfl) ?_
        refine va_get (D := D) (ci := 5) (v := .ref vk) (C := RX5) (T := TX5) (N := 9) hx hb hts hin5 hown hK hP 0 rfl rfl 1 (by decide) (hts (.fieldLink RX5 7 "EpochSifterModel" "kept" "[I") (by decide +kernel)) (fun _ h9 => h9) rfl dX5_put_21 ?_
        refine lv_aload_n hx hb dX5_put_24 rfl (lv_at hl 0 rfl) ?_
        refine va_get (D := D) (ci := 5) (v := .int (nI nj)) (C := RX5) (T := TX5) (N := 9) hx hb hts hin5 hown hK hP 0 rfl rfl 0 (by decide) (hts (.fieldLink RX5 42 "EpochSifterModel" "size" "I") (by decide +kernel)) (fun _ h9 => h9) rfl dX5_put_25 ?_
        refine lv_iload_n hx hb dX5_put_28 rfl (lv_at hl 1 rfl) ?_
        refine lv_bipush (v := nI 8) hx hb dX5_put_29 (by decide) ?_
        refine lv_iload_n hx hb dX5_put_31 rfl (lv_at hl 2 rfl) ?_
        refine lv_imul hx hb dX5_put_32 ?_
        refine r_i (v := nI (8 * (m - 1))) (pk_mul _ _) ?_
        refine lv_ishr hx hb dX5_put_33 ?_
        refine lv_sipush (v := nI 255) hx hb dX5_put_34 (by decide) ?_
        refine lv_iand hx hb dX5_put_37 ?_
        refine r_i (v := nI (wb x (m - 1))) (wb_s x (by omega)) ?_
        refine a_ist hx hb hK hP hD hS 1 0 rfl rfl (by omega) (by decide) dX5_put_38 (fun H locs hP hD hS => ?_)
        have hP : va_P D vwCl [(mo, .inr (5, [.int (nI nj), .ref vk, .ref vc, .ref vt, .ref vn, .ref vr, .ref vs, .ref ve, .ref vp])), (vk, .inl (cI, 160, .inl (upd fj nj (nI (wb x (m - 1)))))), (vc, .inl (cI, 8, .inl kc)), (vt, .inl (cI, 256, .inl tb)), (vn, .inl (cI, 80, .inl fN)), (vr, .inl (cD, 80, .inr (.inr (.inr (.inl fR))))), (vs, .inl (cI, 80, .inl fS)), (ve, .inl (cI, 16, .inl ep)), (vp, .inl (cI, 5, .inl po))] _ := hP
        have hD : va_D (inW [(mo, .inr (5, [.int (nI n), .ref vk, .ref vc, .ref vt, .ref vn, .ref vr, .ref vs, .ref ve, .ref vp])), (vk, .inl (cI, 160, .inl f)), (vc, .inl (cI, 8, .inl kc)), (vt, .inl (cI, 256, .inl tb)), (vn, .inl (cI, 80, .inl fN)), (vr, .inl (cD, 80, .inr (.inr (.inr (.inl fR))))), (vs, .inl (cI, 80, .inl fS)), (ve, .inl (cI, 16, .inl ep)), (vp, .inl (cI, 5, .inl po))]) [(mo, .inr (5, [.int (nI nj), .ref vk, .ref vc, .ref vt, .ref vn, .ref vr, .ref vs, .ref ve, .ref vp])), (vk, .inl (cI, 160, .inl (upd fj nj (nI (wb x (m - 1)))))), (vc, .inl (cI, 8, .inl kc)), (vt, .inl (cI, 256, .inl tb)), (vn, .inl (cI, 80, .inl fN)), (vr, .inl (cD, 80, .inr (.inr (.inr (.inl fR))))), (vs, .inl (cI, 80, .inl fS)), (ve, .inl (cI, 16, .inl ep)), (vp, .inl (cI, 5, .inl po))] := hD
        refine lv_aload_n hx hb dX5_put_39 rfl (lv_at hl 0 rfl) ?_
        refine lv_aload_n hx hb dX5_put_40 rfl (lv_at hl 0 rfl) ?_
        refine va_get (D := D) (ci := 5) (v := .int (nI nj)) (C := RX5) (T := TX5) (N := 9) hx hb hts hin5 hown hK hP 0 rfl rfl 0 (by decide) (hts (.fieldLink RX5 42 "EpochSifterModel" "size" "I") (by decide +kernel)) (fun _ h9 => h9) rfl dX5_put_41 ?_
        refine lv_iconst (v := nI 1) hx hb dX5_put_44 (by decide) ?_
        refine lv_iadd hx hb dX5_put_45 ?_
        refine r_i (v := nI (nj + 1)) (nI_add _ _) ?_
        refine va_put (D := D) (ci := 5) (v := .int (nI (nj + 1))) (ty := .int) (C := RX5) (T := TX5) (N := 9) hx hb hts hin5 tyX5 tyX5_ok nmX5 hown hK hP hD hS 0 rfl rfl 0 (by decide) (hts (.fieldLink RX5 42 "EpochSifterModel" "size" "I") (by decide +kernel)) (fun _ h9 => h9) rfl (by decide +kernel) (rfl) (rfl) (Nat.le_of_ble_eq_true rfl) dX5_put_46 (fun H locs hP hD hS => ?_)
        have hP : va_P D vwCl [(mo, .inr (5, [.int (nI (nj + 1)), .ref vk, .ref vc, .ref vt, .ref vn, .ref vr, .ref vs, .ref ve, .ref vp])), (vk, .inl (cI, 160, .inl (upd fj nj (nI (wb x (m - 1)))))), (vc, .inl (cI, 8, .inl kc)), (vt, .inl (cI, 256, .inl tb)), (vn, .inl (cI, 80, .inl fN)), (vr, .inl (cD, 80, .inr (.inr (.inr (.inl fR))))), (vs, .inl (cI, 80, .inl fS)), (ve, .inl (cI, 16, .inl ep)), (vp, .inl (cI, 5, .inl po))] _ := hP
        have hD : va_D (inW [(mo, .inr (5, [.int (nI n), .ref vk, .ref vc, .ref vt, .ref vn, .ref vr, .ref vs, .ref ve, .ref vp])), (vk, .inl (cI, 160, .inl f)), (vc, .inl (cI, 8, .inl kc)), (vt, .inl (cI, 256, .inl tb)), (vn, .inl (cI, 80, .inl fN)), (vr, .inl (cD, 80, .inr (.inr (.inr (.inl fR))))), (vs, .inl (cI, 80, .inl fS)), (ve, .inl (cI, 16, .inl ep)), (vp, .inl (cI, 5, .inl po))]) [(mo, .inr (5, [.int (nI (nj + 1)), .ref vk, .ref vc, .ref vt, .ref vn, .ref vr, .ref vs, .ref ve, .ref vp])), (vk, .inl (cI, 160, .inl (upd fj nj (nI (wb x (m - 1)))))), (vc, .inl (cI, 8, .inl kc)), (vt, .inl (cI, 256, .inl tb)), (vn, .inl (cI, 80, .inl fN)), (vr, .inl (cD, 80, .inr (.inr (.inr (.inl fR))))), (vs, .inl (cI, 80, .inl fS)), (ve, .inl (cI, 16, .inl ep)), (vp, .inl (cI, 5, .inl po))] := hD
        refine lv_iinc (v := nI (m - 1) - nI 1) (lv' := [(3, .int (nI (m - 1) - nI 1)), (0, .ref mo), (1, .int x)]) hx hb dX5_put_49 hl (k := 2) rfl (dec_i _) (by decide) rfl (fun ls hl => ?_)
        refine lv_goto (tgt := 16) hx hb dX5_put_52 (by decide) ?_
        exact ih (m - 1) (bj ++ [wb x (m - 1)]) (nj + 1) (upd fj nj (nI (wb x (m - 1)))) (by first | assumption | omega) (by rw [← hbj, List.append_assoc]; obtain ⟨m, rfl⟩ : ∃ m', m = m' + 1 := ⟨m - 1, by omega⟩; rfl) (by have h := hfj.app (wb x (m - 1)); rw [hnj] at h; exact h) (by rw [List.length_append, hnj]; rfl) (by omega) (hBj.app (wb_lt _ _)) (by omega) _ _ hP hD hS ls (lv_sub hl [1, 2, 0] rfl)
  refine lv_iload_n hx hb dX5_put_0 rfl (lv_at hl 2 rfl) ?_
  refine lv_iconst (v := nI 1) hx hb dX5_put_1 (by decide) ?_
  refine rn_lt (tgt := 10) hx hb dX5_put_2 (by decide) (by omega) (by omega) (fun c_2 => ?_) (fun c_2 => ?_)
  · omega
  · skip
    refine lv_iload_n hx hb dX5_put_5 rfl (lv_at hl 2 rfl) ?_
    refine lv_iconst (v := nI 4) hx hb dX5_put_6 (by decide) ?_
    refine rn_le (tgt := 12) hx hb dX5_put_7 (by decide) (by omega) (by omega) (fun c_7 => ?_) (fun c_7 => ?_)
    · skip
      refine lv_iload_n hx hb dX5_put_12 rfl (lv_at hl 2 rfl) ?_
      refine lv_iconst (v := nI 1) hx hb dX5_put_13 (by decide) ?_
      refine lv_isub hx hb dX5_put_14 ?_
      refine r_i (v := nI k - nI 1) (rfl) ?_
      refine lv_istore_n (lv' := [(3, .int (nI k - nI 1)), (0, .ref mo), (1, .int x), (2, .int (nI k))]) hx hb dX5_put_15 rfl hl (by decide) rfl (fun ls hl => ?_)
      exact (cuts _) k bs n f (by first | assumption | omega) rfl hf hbn (by omega) hB (Nat.lt_succ_self _) _ _ hP hD hS ls (lv_sub hl [1, 2, 0] rfl)
    · omega
set_option maxHeartbeats 4000000 in
set_option maxRecDepth 100000 in
/-- a put that is refused -/
theorem c_X5_put_no {zl : Launch} {D : va_G} {cI cD : ClassId} (mo : Nat) (x : Int32) (k : Int32) (hk : k < nI 1 ∨ nI 4 < k) : Ci zl yX5_put wsX5_put ({ frames := 5, cells := 0, slots := 0, locals := 135 }) D cI cD [.ref mo, .int x, .int k] [] (fun r => r = -1) := by
  refine Met.ofW (cc := cX5_put) (maxL := 4) (ret := (some .int)) (by decide) rfl ?_
  intro zp ze zs zm zargs zb zt zc zs₁ B hml hv
  obtain ⟨rfl, hP, hK, hD0, hN⟩ := hv
  have hx := B.exec
  have hb := B.bytes
  have hr := B.returns
  have hts := atoms_spec (ws := wsX5_put) B.pre
  have hown : zs.vm.findClass RX5 = some zm.cls := findClass_of_methodNamed B.named
  have hlocks := B.notSynchronized
  have hD := inW_self hD0
  have hS : va_S (inW []) zs.heap zs.heap [] := va_S.rf
  have hl := lv_entry [.ref mo, .int x, .int k] (n := 4) (Nat.le_of_ble_eq_true rfl)
  rw [lg_entry_eq]
  generalize (lg_sl [.ref mo, .int x, .int k] ++ List.replicate (4 - (lg_sl [.ref mo, .int x, .int k]).length) Slot.unset).toArray = ls at hl ⊢
  have hl : lv_has ls 4 [(0, .ref mo), (1, .int x), (2, .int k)] := hl
  refine lv_iload_n hx hb dX5_put_0 rfl (lv_at hl 2 rfl) ?_
  refine lv_iconst (v := nI 1) hx hb dX5_put_1 (by decide) ?_
  refine lv_icmp_lt (tgt := 10) hx hb dX5_put_2 (by decide) (fun c_2 => ?_) (fun c_2 => ?_)
  · skip
    refine lv_iconst (v := (-1)) hx hb dX5_put_10 (by decide) ?_
    exact W.iret (v := -1) hx hb hr (fun tz htz hWz => ⟨_, rfl, by first | rfl | assumption | omega | simp_all, htz⟩) (fun _ h => absurd h List.not_mem_nil) dX5_put_11
  · skip
    refine lv_iload_n hx hb dX5_put_5 rfl (lv_at hl 2 rfl) ?_
    refine lv_iconst (v := nI 4) hx hb dX5_put_6 (by decide) ?_
    refine lv_icmp_le (tgt := 12) hx hb dX5_put_7 (by decide) (fun c_7 => ?_) (fun c_7 => ?_)
    · exact absurd hk (fun z => z.elim c_2 (fun q => absurd c_7 (Int32.not_le.mpr q)))
    · skip
      refine lv_iconst (v := (-1)) hx hb dX5_put_10 (by decide) ?_
      exact W.iret (v := -1) hx hb hr (fun tz htz hWz => ⟨_, rfl, by first | rfl | assumption | omega | simp_all, htz⟩) (fun _ h => absurd h List.not_mem_nil) dX5_put_11
set_option maxHeartbeats 4000000 in
set_option maxRecDepth 100000 in
/-- what is kept goes -/
theorem c_X5_flush {zl : Launch} {D : va_G} {cI cD : ClassId} (mo : Nat) (n : Nat) (vk : Nat) (vc : Nat) (vt : Nat) (vn : Nat) (vr : Nat) (vs : Nat) (ve : Nat) (vp : Nat) (kc : Nat → Int32) (ep : Nat → Int32) (ex : Nat) (he0 : ep 0 = nI ex) (hex : ex ≤ 1) (hn : n ≤ 160) : Cx zl yX5_flush wsX5_flush ({ frames := 1, cells := 0, slots := 0, locals := 21 }) D cI cD [.ref mo] [(mo, .inr (5, [.int (nI n), .ref vk, .ref vc, .ref vt, .ref vn, .ref vr, .ref vs, .ref ve, .ref vp])), (vc, .inl (cI, 8, .inl kc)), (ve, .inl (cI, 16, .inl ep))] (fun v w1 => ∃ (co : Nat → Int32), w1 = [(mo, .inr (5, [.int (nI 0), .ref vk, .ref vc, .ref vt, .ref vn, .ref vr, .ref vs, .ref ve, .ref vp])), (vc, .inl (cI, 8, .inl co)), (ve, .inl (cI, 16, .inl (upd ep 0 (nI 0))))] ∧ v = some (.int (nI n)) ∧ co = if ex = 1 then bmp kc 5 else kc) := by
  refine Met.ofW (cc := cX5_flush) (maxL := 2) (ret := (some .int)) (by decide) rfl ?_
  intro zp ze zs zm zargs zb zt zc zs₁ B hml hv
  obtain ⟨rfl, hP, hK, hD0, hN⟩ := hv
  have hx := B.exec
  have hb := B.bytes
  have hr := B.returns
  have hts := atoms_spec (ws := wsX5_flush) B.pre
  have hown : zs.vm.findClass RX5 = some zm.cls := findClass_of_methodNamed B.named
  have hlocks := B.notSynchronized
  have hD := inW_self hD0
  have hS : va_S (inW [(mo, .inr (5, [.int (nI n), .ref vk, .ref vc, .ref vt, .ref vn, .ref vr, .ref vs, .ref ve, .ref vp])), (vc, .inl (cI, 8, .inl kc)), (ve, .inl (cI, 16, .inl ep))]) zs.heap zs.heap [] := va_S.rf
  have hl := lv_entry [.ref mo] (n := 2) (Nat.le_of_ble_eq_true rfl)
  rw [lg_entry_eq]
  generalize (lg_sl [.ref mo] ++ List.replicate (2 - (lg_sl [.ref mo]).length) Slot.unset).toArray = ls at hl ⊢
  have hl : lv_has ls 2 [(0, .ref mo)] := hl
  have hin5 : ∀ w ∈ u_ws RX5 TX5 9, w ∈ wsX5_flush := by decide +kernel
  refine lv_aload_n hx hb dX5_flush_0 rfl (lv_at hl 0 rfl) ?_
  refine va_get (D := D) (ci := 5) (v := .int (nI n)) (C := RX5) (T := TX5) (N := 9) hx hb hts hin5 hown hK hP 0 rfl rfl 0 (by decide) (hts (.fieldLink RX5 42 "EpochSifterModel" "size" "I") (by decide +kernel)) (fun _ h9 => h9) rfl dX5_flush_1 ?_
  refine lv_istore_n (lv' := [(1, .int (nI n)), (0, .ref mo)]) hx hb dX5_flush_4 rfl hl (by decide) rfl (fun ls hl => ?_)
  refine lv_aload_n hx hb dX5_flush_5 rfl (lv_at hl 1 rfl) ?_
  refine lv_iconst (v := nI 0) hx hb dX5_flush_6 (by decide) ?_
  refine va_put (D := D) (ci := 5) (v := .int (nI 0)) (ty := .int) (C := RX5) (T := TX5) (N := 9) hx hb hts hin5 tyX5 tyX5_ok nmX5 hown hK hP hD hS 0 rfl rfl 0 (by decide) (hts (.fieldLink RX5 42 "EpochSifterModel" "size" "I") (by decide +kernel)) (fun _ h9 => h9) rfl (by decide +kernel) (rfl) (rfl) (Nat.le_of_ble_eq_true rfl) dX5_flush_7 (fun H locs hP hD hS => ?_)
  have hP : va_P D vwCl [(mo, .inr (5, [.int (nI 0), .ref vk, .ref vc, .ref vt, .ref vn, .ref vr, .ref vs, .ref ve, .ref vp])), (vc, .inl (cI, 8, .inl kc)), (ve, .inl (cI, 16, .inl ep))] _ := hP
  have hD : va_D (inW [(mo, .inr (5, [.int (nI n), .ref vk, .ref vc, .ref vt, .ref vn, .ref vr, .ref vs, .ref ve, .ref vp])), (vc, .inl (cI, 8, .inl kc)), (ve, .inl (cI, 16, .inl ep))]) [(mo, .inr (5, [.int (nI 0), .ref vk, .ref vc, .ref vt, .ref vn, .ref vr, .ref vs, .ref ve, .ref vp])), (vc, .inl (cI, 8, .inl kc)), (ve, .inl (cI, 16, .inl ep))] := hD
  refine lv_aload_n hx hb dX5_flush_10 rfl (lv_at hl 1 rfl) ?_
  refine va_get (D := D) (ci := 5) (v := .ref ve) (C := RX5) (T := TX5) (N := 9) hx hb hts hin5 hown hK hP 0 rfl rfl 7 (by decide) (hts (.fieldLink RX5 29 "EpochSifterModel" "epochs" "[I") (by decide +kernel)) (fun _ h9 => h9) rfl dX5_flush_11 ?_
  refine lv_iconst (v := nI 0) hx hb dX5_flush_14 (by decide) ?_
  refine a_ild (v := nI ex) hx hb hK hP 2 0 rfl rfl (by omega) (by decide) (he0) dX5_flush_15 ?_
  refine lv_iconst (v := nI 1) hx hb dX5_flush_16 (by decide) ?_
  refine rn_ne (tgt := 25) hx hb dX5_flush_17 (by decide) (by omega) (by omega) (fun c_17 => ?_) (fun c_17 => ?_)
  · skip
    refine lv_aload_n hx hb dX5_flush_25 rfl (lv_at hl 1 rfl) ?_
    refine va_get (D := D) (ci := 5) (v := .ref ve) (C := RX5) (T := TX5) (N := 9) hx hb hts hin5 hown hK hP 0 rfl rfl 7 (by decide) (hts (.fieldLink RX5 29 "EpochSifterModel" "epochs" "[I") (by decide +kernel)) (fun _ h9 => h9) rfl dX5_flush_26 ?_
    refine lv_iconst (v := nI 0) hx hb dX5_flush_29 (by decide) ?_
    refine lv_iconst (v := nI 0) hx hb dX5_flush_30 (by decide) ?_
    refine a_ist hx hb hK hP hD hS 2 0 rfl rfl (by omega) (by decide) dX5_flush_31 (fun H locs hP hD hS => ?_)
    have hP : va_P D vwCl [(mo, .inr (5, [.int (nI 0), .ref vk, .ref vc, .ref vt, .ref vn, .ref vr, .ref vs, .ref ve, .ref vp])), (vc, .inl (cI, 8, .inl kc)), (ve, .inl (cI, 16, .inl (upd ep 0 (nI 0))))] _ := hP
    have hD : va_D (inW [(mo, .inr (5, [.int (nI n), .ref vk, .ref vc, .ref vt, .ref vn, .ref vr, .ref vs, .ref ve, .ref vp])), (vc, .inl (cI, 8, .inl kc)), (ve, .inl (cI, 16, .inl ep))]) [(mo, .inr (5, [.int (nI 0), .ref vk, .ref vc, .ref vt, .ref vn, .ref vr, .ref vs, .ref ve, .ref vp])), (vc, .inl (cI, 8, .inl kc)), (ve, .inl (cI, 16, .inl (upd ep 0 (nI 0))))] := hD
    refine lv_iload_n hx hb dX5_flush_32 rfl (lv_at hl 0 rfl) ?_
    exact W.iret (v := nI n) hx hb hr (fun tz htz hWz => ⟨some (.int (nI n)), [(mo, .inr (5, [.int (nI 0), .ref vk, .ref vc, .ref vt, .ref vn, .ref vr, .ref vs, .ref ve, .ref vp])), (vc, .inl (cI, 8, .inl kc)), (ve, .inl (cI, 16, .inl (upd ep 0 (nI 0))))], rfl, ⟨_, rfl, rfl, by rw [if_neg (by omega)]⟩, rfl, by rw [htz]; exact hP, hS.F htz⟩) (fun q h => hS.2.2 q h) dX5_flush_33
  · skip
    refine lv_aload_n hx hb dX5_flush_20 rfl (lv_at hl 1 rfl) ?_
    refine lv_iconst (v := nI 5) hx hb dX5_flush_21 (by decide) ?_
    refine x_callV (As := [.int (nI 5)]) (rest := []) ⟨hx, hb, hml, hown, hts⟩ (c_X5_bump (zl := zl) (D := D) (cI := cI) (cD := cD) mo 0 vk vc vt vn vr vs ve vp kc 5 (by decide)) (cwV 1 hts gX5_flush_X5_bump rfl rfl rfl (by decide +kernel) ⟨Nat.le_of_ble_eq_true rfl, Nat.le_of_ble_eq_true rfl⟩) hK hN hP hD hS [0, 1] rfl rfl 0 rfl rfl rfl hl.1 rfl (Nat.le_of_ble_eq_true rfl) dX5_flush_22 ⟨Nat.le_of_ble_eq_true rfl, Nat.le_of_ble_eq_true rfl⟩ (fun v_1 w_1 H locs hr_1 hP hD hS => ?_)
    obtain ⟨rfl, rfl⟩ := hr_1
    refine W.eq (g2 := F0 zm 25 ls []) rfl ?_
    have hP : va_P D vwCl [(mo, .inr (5, [.int (nI 0), .ref vk, .ref vc, .ref vt, .ref vn, .ref vr, .ref vs, .ref ve, .ref vp])), (vc, .inl (cI, 8, .inl (bmp kc 5))), (ve, .inl (cI, 16, .inl ep))] _ := hP
    have hD : va_D (inW [(mo, .inr (5, [.int (nI n), .ref vk, .ref vc, .ref vt, .ref vn, .ref vr, .ref vs, .ref ve, .ref vp])), (vc, .inl (cI, 8, .inl kc)), (ve, .inl (cI, 16, .inl ep))]) [(mo, .inr (5, [.int (nI 0), .ref vk, .ref vc, .ref vt, .ref vn, .ref vr, .ref vs, .ref ve, .ref vp])), (vc, .inl (cI, 8, .inl (bmp kc 5))), (ve, .inl (cI, 16, .inl ep))] := hD
    refine lv_aload_n hx hb dX5_flush_25 rfl (lv_at hl 1 rfl) ?_
    refine va_get (D := D) (ci := 5) (v := .ref ve) (C := RX5) (T := TX5) (N := 9) hx hb hts hin5 hown hK hP 0 rfl rfl 7 (by decide) (hts (.fieldLink RX5 29 "EpochSifterModel" "epochs" "[I") (by decide +kernel)) (fun _ h9 => h9) rfl dX5_flush_26 ?_
    refine lv_iconst (v := nI 0) hx hb dX5_flush_29 (by decide) ?_
    refine lv_iconst (v := nI 0) hx hb dX5_flush_30 (by decide) ?_
    refine a_ist hx hb hK hP hD hS 2 0 rfl rfl (by omega) (by decide) dX5_flush_31 (fun H locs hP hD hS => ?_)
    have hP : va_P D vwCl [(mo, .inr (5, [.int (nI 0), .ref vk, .ref vc, .ref vt, .ref vn, .ref vr, .ref vs, .ref ve, .ref vp])), (vc, .inl (cI, 8, .inl (bmp kc 5))), (ve, .inl (cI, 16, .inl (upd ep 0 (nI 0))))] _ := hP
    have hD : va_D (inW [(mo, .inr (5, [.int (nI n), .ref vk, .ref vc, .ref vt, .ref vn, .ref vr, .ref vs, .ref ve, .ref vp])), (vc, .inl (cI, 8, .inl kc)), (ve, .inl (cI, 16, .inl ep))]) [(mo, .inr (5, [.int (nI 0), .ref vk, .ref vc, .ref vt, .ref vn, .ref vr, .ref vs, .ref ve, .ref vp])), (vc, .inl (cI, 8, .inl (bmp kc 5))), (ve, .inl (cI, 16, .inl (upd ep 0 (nI 0))))] := hD
    refine lv_iload_n hx hb dX5_flush_32 rfl (lv_at hl 0 rfl) ?_
    exact W.iret (v := nI n) hx hb hr (fun tz htz hWz => ⟨some (.int (nI n)), [(mo, .inr (5, [.int (nI 0), .ref vk, .ref vc, .ref vt, .ref vn, .ref vr, .ref vs, .ref ve, .ref vp])), (vc, .inl (cI, 8, .inl (bmp kc 5))), (ve, .inl (cI, 16, .inl (upd ep 0 (nI 0))))], rfl, ⟨_, rfl, rfl, by rw [if_pos (by omega)]⟩, rfl, by rw [htz]; exact hP, hS.F htz⟩) (fun q h => hS.2.2 q h) dX5_flush_33
set_option maxHeartbeats 4000000 in
set_option maxRecDepth 100000 in
/-- the check over a word's bytes -/
theorem c_X5_check {zl : Launch} {D : va_G} {cI cD : ClassId} (mo : Nat) (n : Nat) (vk : Nat) (vc : Nat) (vt : Nat) (vn : Nat) (vr : Nat) (vs : Nat) (ve : Nat) (vp : Nat) (tb : Nat → Int32) (c : Int32) (x : Int32) (k : Nat) (hT : Tb tb) (hk : 1 ≤ k ∧ k ≤ 4) : Ci zl yX5_check wsX5_check ({ frames := 1, cells := 0, slots := 0, locals := 22 }) D cI cD [.ref mo, .int c, .int x, .int (nI k)] [(mo, .inr (5, [.int (nI n), .ref vk, .ref vc, .ref vt, .ref vn, .ref vr, .ref vs, .ref ve, .ref vp])), (vt, .inl (cI, 256, .inl tb))] (fun r => r = nI (ckW x k (c.toBitVec.toNat % 16777216))) := by
  refine Met.ofW (cc := cX5_check) (maxL := 6) (ret := (some .int)) (by decide) rfl ?_
  intro zp ze zs zm zargs zb zt zc zs₁ B hml hv
  obtain ⟨rfl, hP, hK, hD0, hN⟩ := hv
  have hx := B.exec
  have hb := B.bytes
  have hr := B.returns
  have hts := atoms_spec (ws := wsX5_check) B.pre
  have hown : zs.vm.findClass RX5 = some zm.cls := findClass_of_methodNamed B.named
  have hlocks := B.notSynchronized
  have hD := inW_self hD0
  have hS : va_S (inW [(mo, .inr (5, [.int (nI n), .ref vk, .ref vc, .ref vt, .ref vn, .ref vr, .ref vs, .ref ve, .ref vp])), (vt, .inl (cI, 256, .inl tb))]) zs.heap zs.heap [] := va_S.rf
  have hl := lv_entry [.ref mo, .int c, .int x, .int (nI k)] (n := 6) (Nat.le_of_ble_eq_true rfl)
  rw [lg_entry_eq]
  generalize (lg_sl [.ref mo, .int c, .int x, .int (nI k)] ++ List.replicate (6 - (lg_sl [.ref mo, .int c, .int x, .int (nI k)]).length) Slot.unset).toArray = ls at hl ⊢
  have hl : lv_has ls 6 [(0, .ref mo), (1, .int c), (2, .int x), (3, .int (nI k))] := hl
  have cuts : ∀ fuel : Nat, (∀ (m : Nat), ∀ (cj : Nat), (m ≤ 4) → (ckW x m cj = ckW x k (c.toBitVec.toNat % 16777216)) → (cj < 16777216) → m < fuel → ∀ (ls : Array Slot), lv_has ls 6 [(0, .ref mo), (2, .int x), (4, .int (nI cj)), (5, .int (nI m - nI 1))] → W zp zl ze ({ frames := 1, cells := 0, slots := 0, locals := 22 }) zs zm [.ref mo, .int c, .int x, .int (nI k)].toArray zb zt zc zs.heap [] 0 0 (MQ zb (vp_Si (fun r => r = nI (ckW x k (c.toBitVec.toNat % 16777216)))) [.ref mo, .int c, .int x, .int (nI k)].toArray zs 0 0 (fun _ => False)) (F0 zm 23 ls [])) := by
    intro fuel
    induction fuel with
    | zero => exact (by intros; exact absurd (by assumption) (Nat.not_lt_zero _))
    | succ fuel ih =>
      intro m cj hm1 hcj hcl hm ls hl
      refine lv_iload hx hb dX5_check_23 (lv_at hl 3 rfl) ?_
      refine lv_if_lt (tgt := 53) hx hb dX5_check_25 (by decide) (fun c_25 => ?_) (fun c_25 => ?_)
      · skip
        obtain rfl := neg_0 (by omega) c_25
        refine lv_iload hx hb dX5_check_53 (lv_at hl 2 rfl) ?_
        exact W.iret (v := nI cj) hx hb hr (fun tz htz hWz => ⟨_, rfl, congrArg nI hcj, htz⟩) (fun _ h => absurd h List.not_mem_nil) dX5_check_55
      · skip
        have hm2 := neg_1 (by omega) c_25
        have el_1 : nI m - nI 1 = nI (m - 1) := pk_sub (by omega)
        have hl : lv_has ls 6 [(0, .ref mo), (2, .int x), (4, .int (nI cj)), (5, .int (nI (m - 1)))] := by rw [← el_1]; exact hl
        refine lv_aload_n hx hb dX5_check_28 rfl (lv_at hl 0 rfl) ?_
        refine lv_iload hx hb dX5_check_29 (lv_at hl 2 rfl) ?_
        refine lv_iload_n hx hb dX5_check_31 rfl (lv_at hl 1 rfl) ?_
        refine lv_bipush (v := nI 8) hx hb dX5_check_32 (by decide) ?_
        refine lv_iload hx hb dX5_check_34 (lv_at hl 3 rfl) ?_
        refine lv_imul hx hb dX5_check_36 ?_
        refine r_i (v := nI (8 * (m - 1))) (pk_mul _ _) ?_
        refine lv_ishr hx hb dX5_check_37 ?_
        refine lv_sipush (v := nI 255) hx hb dX5_check_38 (by decide) ?_
        refine lv_iand hx hb dX5_check_41 ?_
        refine r_i (v := nI (wb x (m - 1))) (wb_s x (by omega)) ?_
        refine r_callVi (As := [.int (nI cj), .int (nI (wb x (m - 1)))]) (rest := []) ⟨hx, hb, hml, hown, hts⟩ (c_X5_longer (zl := zl) (D := D) (cI := cI) (cD := cD) mo n vk vc vt vn vr vs ve vp tb cj (wb x (m - 1)) (by first | assumption | omega) hcl (wb_lt _ _)) (cwV 2 hts gX5_check_X5_longer rfl rfl rfl (by decide +kernel) ⟨Nat.le_of_ble_eq_true rfl, Nat.le_of_ble_eq_true rfl⟩) hK hN hP hD [0, 1] rfl rfl 0 rfl rfl rfl hl.1 rfl (Nat.le_of_ble_eq_true rfl) dX5_check_42 ⟨Nat.le_of_ble_eq_true rfl, Nat.le_of_ble_eq_true rfl⟩ (fun r_2 h_2 => ?_)
        obtain rfl := h_2
        refine lv_istore (lv' := [(4, .int (nI (ckB cj (wb x (m - 1))))), (0, .ref mo), (2, .int x), (5, .int (nI (m - 1)))]) hx hb dX5_check_45 hl (by decide) rfl (fun ls hl => ?_)
        refine lv_iinc (v := nI (m - 1) - nI 1) (lv' := [(5, .int (nI (m - 1) - nI 1)), (4, .int (nI (ckB cj (wb x (m - 1))))), (0, .ref mo), (2, .int x)]) hx hb dX5_check_47 hl (k := 3) rfl (dec_i _) (by decide) rfl (fun ls hl => ?_)
        refine lv_goto (tgt := 23) hx hb dX5_check_50 (by decide) ?_
        exact ih (m - 1) (ckB cj (wb x (m - 1))) (by omega) (by rw [← hcj]; obtain ⟨m, rfl⟩ : ∃ m', m = m' + 1 := ⟨m - 1, by omega⟩; rfl) (ckB_lt hcl (wb_lt _ _)) (by omega) ls (lv_sub hl [2, 3, 1, 0] rfl)
  refine lv_iload_n hx hb dX5_check_0 rfl (lv_at hl 3 rfl) ?_
  refine lv_iconst (v := nI 1) hx hb dX5_check_1 (by decide) ?_
  refine rn_lt (tgt := 10) hx hb dX5_check_2 (by decide) (by omega) (by omega) (fun c_2 => ?_) (fun c_2 => ?_)
  · omega
  · skip
    refine lv_iload_n hx hb dX5_check_5 rfl (lv_at hl 3 rfl) ?_
    refine lv_iconst (v := nI 4) hx hb dX5_check_6 (by decide) ?_
    refine rn_le (tgt := 12) hx hb dX5_check_7 (by decide) (by omega) (by omega) (fun c_7 => ?_) (fun c_7 => ?_)
    · skip
      refine lv_iload_n hx hb dX5_check_12 rfl (lv_at hl 1 rfl) ?_
      refine lv_ldc (v := 16777215) hx hb hown (hts (.constant RX5 119 (16777215)) (by decide +kernel)) dX5_check_13 ?_
      refine r_i (v := nI 16777215) (by decide) ?_
      refine lv_iand hx hb dX5_check_15 ?_
      refine r_i (v := nI (c.toBitVec.toNat % 16777216)) (pk_and _ 24 (by decide)) ?_
      refine lv_istore (lv' := [(4, .int (nI (c.toBitVec.toNat % 16777216))), (0, .ref mo), (1, .int c), (2, .int x), (3, .int (nI k))]) hx hb dX5_check_16 hl (by decide) rfl (fun ls hl => ?_)
      refine lv_iload_n hx hb dX5_check_18 rfl (lv_at hl 4 rfl) ?_
      refine lv_iconst (v := nI 1) hx hb dX5_check_19 (by decide) ?_
      refine lv_isub hx hb dX5_check_20 ?_
      refine r_i (v := nI k - nI 1) (rfl) ?_
      refine lv_istore (lv' := [(5, .int (nI k - nI 1)), (4, .int (nI (c.toBitVec.toNat % 16777216))), (0, .ref mo), (1, .int c), (2, .int x), (3, .int (nI k))]) hx hb dX5_check_21 hl (by decide) rfl (fun ls hl => ?_)
      exact (cuts _) k (c.toBitVec.toNat % 16777216) (by first | assumption | omega) rfl (by omega) (Nat.lt_succ_self _) ls (lv_sub hl [2, 4, 1, 0] rfl)
    · omega
set_option maxHeartbeats 4000000 in
set_option maxRecDepth 100000 in
/-- a check that is refused -/
theorem c_X5_check_no {zl : Launch} {D : va_G} {cI cD : ClassId} (mo : Nat) (c : Int32) (x : Int32) (k : Int32) (hk : k < nI 1 ∨ nI 4 < k) : Ci zl yX5_check wsX5_check ({ frames := 1, cells := 0, slots := 0, locals := 22 }) D cI cD [.ref mo, .int c, .int x, .int k] [] (fun r => r = -1) := by
  refine Met.ofW (cc := cX5_check) (maxL := 6) (ret := (some .int)) (by decide) rfl ?_
  intro zp ze zs zm zargs zb zt zc zs₁ B hml hv
  obtain ⟨rfl, hP, hK, hD0, hN⟩ := hv
  have hx := B.exec
  have hb := B.bytes
  have hr := B.returns
  have hts := atoms_spec (ws := wsX5_check) B.pre
  have hown : zs.vm.findClass RX5 = some zm.cls := findClass_of_methodNamed B.named
  have hlocks := B.notSynchronized
  have hD := inW_self hD0
  have hS : va_S (inW []) zs.heap zs.heap [] := va_S.rf
  have hl := lv_entry [.ref mo, .int c, .int x, .int k] (n := 6) (Nat.le_of_ble_eq_true rfl)
  rw [lg_entry_eq]
  generalize (lg_sl [.ref mo, .int c, .int x, .int k] ++ List.replicate (6 - (lg_sl [.ref mo, .int c, .int x, .int k]).length) Slot.unset).toArray = ls at hl ⊢
  have hl : lv_has ls 6 [(0, .ref mo), (1, .int c), (2, .int x), (3, .int k)] := hl
  refine lv_iload_n hx hb dX5_check_0 rfl (lv_at hl 3 rfl) ?_
  refine lv_iconst (v := nI 1) hx hb dX5_check_1 (by decide) ?_
  refine lv_icmp_lt (tgt := 10) hx hb dX5_check_2 (by decide) (fun c_2 => ?_) (fun c_2 => ?_)
  · skip
    refine lv_iconst (v := (-1)) hx hb dX5_check_10 (by decide) ?_
    exact W.iret (v := -1) hx hb hr (fun tz htz hWz => ⟨_, rfl, by first | rfl | assumption | omega | simp_all, htz⟩) (fun _ h => absurd h List.not_mem_nil) dX5_check_11
  · skip
    refine lv_iload_n hx hb dX5_check_5 rfl (lv_at hl 3 rfl) ?_
    refine lv_iconst (v := nI 4) hx hb dX5_check_6 (by decide) ?_
    refine lv_icmp_le (tgt := 12) hx hb dX5_check_7 (by decide) (fun c_7 => ?_) (fun c_7 => ?_)
    · exact absurd hk (fun z => z.elim c_2 (fun q => absurd c_7 (Int32.not_le.mpr q)))
    · skip
      refine lv_iconst (v := (-1)) hx hb dX5_check_10 (by decide) ?_
      exact W.iret (v := -1) hx hb hr (fun tz htz hWz => ⟨_, rfl, by first | rfl | assumption | omega | simp_all, htz⟩) (fun _ h => absurd h List.not_mem_nil) dX5_check_11
set_option maxHeartbeats 4000000 in
set_option maxRecDepth 100000 in
/-- a count -/
theorem c_X5_count {zl : Launch} {D : va_G} {cI cD : ClassId} (mo : Nat) (n : Nat) (vk : Nat) (vc : Nat) (vt : Nat) (vn : Nat) (vr : Nat) (vs : Nat) (ve : Nat) (vp : Nat) (kc : Nat → Int32) (ep : Nat → Int32) (ex : Nat) (z : Nat) (j : Nat) (he0 : ep 0 = nI ex) (hex : ex ≤ 1) (he3 : ep 3 = nI z) (hn : n ≤ 160) (hj : j < 2 ^ 31) : Ci zl yX5_count wsX5_count ({ frames := 0, cells := 0, slots := 0, locals := 0 }) D cI cD [.ref mo, .int (nI j)] [(mo, .inr (5, [.int (nI n), .ref vk, .ref vc, .ref vt, .ref vn, .ref vr, .ref vs, .ref ve, .ref vp])), (vc, .inl (cI, 8, .inl kc)), (ve, .inl (cI, 16, .inl ep))] (fun r => r = if j < 8 then kc j else if j = 8 then nI n else if j = 9 ∧ ex = 1 then nI z else -1) := by
  refine Met.ofW (cc := cX5_count) (maxL := 2) (ret := (some .int)) (by decide) rfl ?_
  intro zp ze zs zm zargs zb zt zc zs₁ B hml hv
  obtain ⟨rfl, hP, hK, hD0, hN⟩ := hv
  have hx := B.exec
  have hb := B.bytes
  have hr := B.returns
  have hts := atoms_spec (ws := wsX5_count) B.pre
  have hown : zs.vm.findClass RX5 = some zm.cls := findClass_of_methodNamed B.named
  have hlocks := B.notSynchronized
  have hD := inW_self hD0
  have hS : va_S (inW [(mo, .inr (5, [.int (nI n), .ref vk, .ref vc, .ref vt, .ref vn, .ref vr, .ref vs, .ref ve, .ref vp])), (vc, .inl (cI, 8, .inl kc)), (ve, .inl (cI, 16, .inl ep))]) zs.heap zs.heap [] := va_S.rf
  have hl := lv_entry [.ref mo, .int (nI j)] (n := 2) (Nat.le_of_ble_eq_true rfl)
  rw [lg_entry_eq]
  generalize (lg_sl [.ref mo, .int (nI j)] ++ List.replicate (2 - (lg_sl [.ref mo, .int (nI j)]).length) Slot.unset).toArray = ls at hl ⊢
  have hl : lv_has ls 2 [(0, .ref mo), (1, .int (nI j))] := hl
  have hin5 : ∀ w ∈ u_ws RX5 TX5 9, w ∈ wsX5_count := by decide +kernel
  refine lv_iload_n hx hb dX5_count_0 rfl (lv_at hl 1 rfl) ?_
  refine lv_bipush (v := nI 8) hx hb dX5_count_1 (by decide) ?_
  refine rn_ne (tgt := 11) hx hb dX5_count_3 (by decide) (by omega) (by omega) (fun c_3 => ?_) (fun c_3 => ?_)
  · skip
    refine lv_iload_n hx hb dX5_count_11 rfl (lv_at hl 1 rfl) ?_
    refine lv_bipush (v := nI 9) hx hb dX5_count_12 (by decide) ?_
    refine rn_ne (tgt := 38) hx hb dX5_count_14 (by decide) (by omega) (by omega) (fun c_14 => ?_) (fun c_14 => ?_)
    · skip
      refine lv_iload_n hx hb dX5_count_38 rfl (lv_at hl 1 rfl) ?_
      refine rz_lt (tgt := 57) hx hb dX5_count_39 (by decide) (by omega) ?_
      refine lv_iload_n hx hb dX5_count_42 rfl (lv_at hl 1 rfl) ?_
      refine lv_bipush (v := nI 8) hx hb dX5_count_43 (by decide) ?_
      refine rn_ge (tgt := 57) hx hb dX5_count_45 (by decide) (by omega) (by omega) (fun c_45 => ?_) (fun c_45 => ?_)
      · skip
        refine lv_iconst (v := (-1)) hx hb dX5_count_57 (by decide) ?_
        exact W.iret (v := -1) hx hb hr (fun tz htz hWz => ⟨_, rfl, by rw [if_neg (by omega), if_neg (by omega), if_neg (by omega)], htz⟩) (fun _ h => absurd h List.not_mem_nil) dX5_count_58
      · skip
        refine lv_aload_n hx hb dX5_count_48 rfl (lv_at hl 0 rfl) ?_
        refine va_get (D := D) (ci := 5) (v := .ref vc) (C := RX5) (T := TX5) (N := 9) hx hb hts hin5 hown hK hP 0 rfl rfl 2 (by decide) (hts (.fieldLink RX5 13 "EpochSifterModel" "counts" "[I") (by decide +kernel)) (fun _ h9 => h9) rfl dX5_count_49 ?_
        refine lv_iload_n hx hb dX5_count_52 rfl (lv_at hl 1 rfl) ?_
        refine a_ild (v := kc j) hx hb hK hP 1 0 rfl rfl (by omega) (by decide) (rfl) dX5_count_53 ?_
        refine lv_goto (tgt := 58) hx hb dX5_count_54 (by decide) ?_
        exact W.iret (v := kc j) hx hb hr (fun tz htz hWz => ⟨_, rfl, by rw [if_pos (by omega)], htz⟩) (fun _ h => absurd h List.not_mem_nil) dX5_count_58
    · skip
      refine lv_aload_n hx hb dX5_count_17 rfl (lv_at hl 0 rfl) ?_
      refine va_get (D := D) (ci := 5) (v := .ref ve) (C := RX5) (T := TX5) (N := 9) hx hb hts hin5 hown hK hP 0 rfl rfl 7 (by decide) (hts (.fieldLink RX5 29 "EpochSifterModel" "epochs" "[I") (by decide +kernel)) (fun _ h9 => h9) rfl dX5_count_18 ?_
      refine lv_iconst (v := nI 0) hx hb dX5_count_21 (by decide) ?_
      refine a_ild (v := nI ex) hx hb hK hP 2 0 rfl rfl (by omega) (by decide) (he0) dX5_count_22 ?_
      refine lv_iconst (v := nI 1) hx hb dX5_count_23 (by decide) ?_
      refine rn_ne (tgt := 36) hx hb dX5_count_24 (by decide) (by omega) (by omega) (fun c_24 => ?_) (fun c_24 => ?_)
      · skip
        refine lv_iconst (v := (-1)) hx hb dX5_count_36 (by decide) ?_
        exact W.iret (v := -1) hx hb hr (fun tz htz hWz => ⟨_, rfl, by rw [if_neg (by omega), if_neg (by omega), if_neg (by omega)], htz⟩) (fun _ h => absurd h List.not_mem_nil) dX5_count_37
      · skip
        refine lv_aload_n hx hb dX5_count_27 rfl (lv_at hl 0 rfl) ?_
        refine va_get (D := D) (ci := 5) (v := .ref ve) (C := RX5) (T := TX5) (N := 9) hx hb hts hin5 hown hK hP 0 rfl rfl 7 (by decide) (hts (.fieldLink RX5 29 "EpochSifterModel" "epochs" "[I") (by decide +kernel)) (fun _ h9 => h9) rfl dX5_count_28 ?_
        refine lv_iconst (v := nI 3) hx hb dX5_count_31 (by decide) ?_
        refine a_ild (v := nI z) hx hb hK hP 2 0 rfl rfl (by omega) (by decide) (he3) dX5_count_32 ?_
        refine lv_goto (tgt := 37) hx hb dX5_count_33 (by decide) ?_
        exact W.iret (v := nI z) hx hb hr (fun tz htz hWz => ⟨_, rfl, by rw [if_neg (by omega), if_neg (by omega), if_pos (by omega)], htz⟩) (fun _ h => absurd h List.not_mem_nil) dX5_count_37
  · skip
    refine lv_aload_n hx hb dX5_count_6 rfl (lv_at hl 0 rfl) ?_
    refine va_get (D := D) (ci := 5) (v := .int (nI n)) (C := RX5) (T := TX5) (N := 9) hx hb hts hin5 hown hK hP 0 rfl rfl 0 (by decide) (hts (.fieldLink RX5 42 "EpochSifterModel" "size" "I") (by decide +kernel)) (fun _ h9 => h9) rfl dX5_count_7 ?_
    exact W.iret (v := nI n) hx hb hr (fun tz htz hWz => ⟨_, rfl, by rw [if_neg (by omega), if_pos (by omega)], htz⟩) (fun _ h => absurd h List.not_mem_nil) dX5_count_10
set_option maxHeartbeats 4000000 in
set_option maxRecDepth 100000 in
/-- no count -/
theorem c_X5_count_no {zl : Launch} {D : va_G} {cI cD : ClassId} (mo : Nat) (j : Int32) (hj : j < 0) : Ci zl yX5_count wsX5_count ({ frames := 0, cells := 0, slots := 0, locals := 0 }) D cI cD [.ref mo, .int j] [] (fun r => r = -1) := by
  refine Met.ofW (cc := cX5_count) (maxL := 2) (ret := (some .int)) (by decide) rfl ?_
  intro zp ze zs zm zargs zb zt zc zs₁ B hml hv
  obtain ⟨rfl, hP, hK, hD0, hN⟩ := hv
  have hx := B.exec
  have hb := B.bytes
  have hr := B.returns
  have hts := atoms_spec (ws := wsX5_count) B.pre
  have hown : zs.vm.findClass RX5 = some zm.cls := findClass_of_methodNamed B.named
  have hlocks := B.notSynchronized
  have hD := inW_self hD0
  have hS : va_S (inW []) zs.heap zs.heap [] := va_S.rf
  have hl := lv_entry [.ref mo, .int j] (n := 2) (Nat.le_of_ble_eq_true rfl)
  rw [lg_entry_eq]
  generalize (lg_sl [.ref mo, .int j] ++ List.replicate (2 - (lg_sl [.ref mo, .int j]).length) Slot.unset).toArray = ls at hl ⊢
  have hl : lv_has ls 2 [(0, .ref mo), (1, .int j)] := hl
  refine lv_iload_n hx hb dX5_count_0 rfl (lv_at hl 1 rfl) ?_
  refine lv_bipush (v := nI 8) hx hb dX5_count_1 (by decide) ?_
  refine lv_icmp_ne (tgt := 11) hx hb dX5_count_3 (by decide) (fun c_3 => ?_) (fun c_3 => ?_)
  · skip
    refine lv_iload_n hx hb dX5_count_11 rfl (lv_at hl 1 rfl) ?_
    refine lv_bipush (v := nI 9) hx hb dX5_count_12 (by decide) ?_
    refine lv_icmp_ne (tgt := 38) hx hb dX5_count_14 (by decide) (fun c_14 => ?_) (fun c_14 => ?_)
    · skip
      refine lv_iload_n hx hb dX5_count_38 rfl (lv_at hl 1 rfl) ?_
      refine lv_if_lt (tgt := 57) hx hb dX5_count_39 (by decide) (fun c_39 => ?_) (fun c_39 => ?_)
      · skip
        refine lv_iconst (v := (-1)) hx hb dX5_count_57 (by decide) ?_
        exact W.iret (v := -1) hx hb hr (fun tz htz hWz => ⟨_, rfl, by first | rfl | assumption | omega | simp_all, htz⟩) (fun _ h => absurd h List.not_mem_nil) dX5_count_58
      · exact absurd hj c_39
    · exact absurd (c_14 ▸ hj) (by decide)
  · exact absurd (c_3 ▸ hj) (by decide)
set_option maxHeartbeats 4000000 in
set_option maxRecDepth 100000 in
/-- of the latest epoch -/
theorem c_X5_epoch {zl : Launch} {D : va_G} {cI cD : ClassId} (mo : Nat) (n : Nat) (vk : Nat) (vc : Nat) (vt : Nat) (vn : Nat) (vr : Nat) (vs : Nat) (ve : Nat) (vp : Nat) (ep : Nat → Int32) (L : Ep) (j : Nat) (h8 : ep 8 = nI L.1) (h9 : ep 9 = L.2.1) (h10 : ep 10 = L.2.2.1) (h11 : ep 11 = nI L.2.2.2.2.length) (h12 : ep 12 = L.2.2.2.1) (hL1 : L.1 ≤ 1) (hL40 : L.2.2.2.2.length ≤ 40) (hj : j < 2 ^ 31) : Ci zl yX5_epoch wsX5_epoch ({ frames := 0, cells := 0, slots := 0, locals := 0 }) D cI cD [.ref mo, .int (nI j)] [(mo, .inr (5, [.int (nI n), .ref vk, .ref vc, .ref vt, .ref vn, .ref vr, .ref vs, .ref ve, .ref vp])), (ve, .inl (cI, 16, .inl ep))] (fun r => r = if L.1 = 1 then (if j = 0 then L.2.1 else if j = 1 then L.2.2.1 else if j = 2 then nI L.2.2.2.2.length else if j = 3 then L.2.2.2.1 else -1) else -1) := by
  refine Met.ofW (cc := cX5_epoch) (maxL := 2) (ret := (some .int)) (by decide) rfl ?_
  intro zp ze zs zm zargs zb zt zc zs₁ B hml hv
  obtain ⟨rfl, hP, hK, hD0, hN⟩ := hv
  have hx := B.exec
  have hb := B.bytes
  have hr := B.returns
  have hts := atoms_spec (ws := wsX5_epoch) B.pre
  have hown : zs.vm.findClass RX5 = some zm.cls := findClass_of_methodNamed B.named
  have hlocks := B.notSynchronized
  have hD := inW_self hD0
  have hS : va_S (inW [(mo, .inr (5, [.int (nI n), .ref vk, .ref vc, .ref vt, .ref vn, .ref vr, .ref vs, .ref ve, .ref vp])), (ve, .inl (cI, 16, .inl ep))]) zs.heap zs.heap [] := va_S.rf
  have hl := lv_entry [.ref mo, .int (nI j)] (n := 2) (Nat.le_of_ble_eq_true rfl)
  rw [lg_entry_eq]
  generalize (lg_sl [.ref mo, .int (nI j)] ++ List.replicate (2 - (lg_sl [.ref mo, .int (nI j)]).length) Slot.unset).toArray = ls at hl ⊢
  have hl : lv_has ls 2 [(0, .ref mo), (1, .int (nI j))] := hl
  have hin5 : ∀ w ∈ u_ws RX5 TX5 9, w ∈ wsX5_epoch := by decide +kernel
  refine lv_aload_n hx hb dX5_epoch_0 rfl (lv_at hl 0 rfl) ?_
  refine va_get (D := D) (ci := 5) (v := .ref ve) (C := RX5) (T := TX5) (N := 9) hx hb hts hin5 hown hK hP 0 rfl rfl 7 (by decide) (hts (.fieldLink RX5 29 "EpochSifterModel" "epochs" "[I") (by decide +kernel)) (fun _ h9 => h9) rfl dX5_epoch_1 ?_
  refine lv_bipush (v := nI 8) hx hb dX5_epoch_4 (by decide) ?_
  refine a_ild (v := nI L.1) hx hb hK hP 1 0 rfl rfl (by omega) (by decide) (h8) dX5_epoch_6 ?_
  refine lv_iconst (v := nI 1) hx hb dX5_epoch_7 (by decide) ?_
  refine rn_ne (tgt := 32) hx hb dX5_epoch_8 (by decide) (by omega) (by omega) (fun c_8 => ?_) (fun c_8 => ?_)
  · skip
    refine lv_iconst (v := (-1)) hx hb dX5_epoch_32 (by decide) ?_
    exact W.iret (v := -1) hx hb hr (fun tz htz hWz => ⟨_, rfl, by first | rw [if_neg (by omega)] | rw [if_pos (by omega), if_neg (by omega), if_neg (by omega), if_neg (by omega), if_neg (by omega)], htz⟩) (fun _ h => absurd h List.not_mem_nil) dX5_epoch_33
  · skip
    refine lv_iload_n hx hb dX5_epoch_11 rfl (lv_at hl 1 rfl) ?_
    refine rz_lt (tgt := 32) hx hb dX5_epoch_12 (by decide) (by omega) ?_
    refine lv_iload_n hx hb dX5_epoch_15 rfl (lv_at hl 1 rfl) ?_
    refine lv_iconst (v := nI 4) hx hb dX5_epoch_16 (by decide) ?_
    refine rn_ge (tgt := 32) hx hb dX5_epoch_17 (by decide) (by omega) (by omega) (fun c_17 => ?_) (fun c_17 => ?_)
    · skip
      refine lv_iconst (v := (-1)) hx hb dX5_epoch_32 (by decide) ?_
      exact W.iret (v := -1) hx hb hr (fun tz htz hWz => ⟨_, rfl, by first | rw [if_neg (by omega)] | rw [if_pos (by omega), if_neg (by omega), if_neg (by omega), if_neg (by omega), if_neg (by omega)], htz⟩) (fun _ h => absurd h List.not_mem_nil) dX5_epoch_33
    · skip
      refine lv_aload_n hx hb dX5_epoch_20 rfl (lv_at hl 0 rfl) ?_
      refine va_get (D := D) (ci := 5) (v := .ref ve) (C := RX5) (T := TX5) (N := 9) hx hb hts hin5 hown hK hP 0 rfl rfl 7 (by decide) (hts (.fieldLink RX5 29 "EpochSifterModel" "epochs" "[I") (by decide +kernel)) (fun _ h9 => h9) rfl dX5_epoch_21 ?_
      refine lv_bipush (v := nI 9) hx hb dX5_epoch_24 (by decide) ?_
      refine lv_iload_n hx hb dX5_epoch_26 rfl (lv_at hl 1 rfl) ?_
      refine lv_iadd hx hb dX5_epoch_27 ?_
      refine r_i (v := nI (9 + j)) (nI_add _ _) ?_
      refine a_ild (v := ep (9 + j)) hx hb hK hP 1 0 rfl rfl (by omega) (by decide) (rfl) dX5_epoch_28 ?_
      refine lv_goto (tgt := 33) hx hb dX5_epoch_29 (by decide) ?_
      exact W.iret (v := ep (9 + j)) hx hb hr (fun tz htz hWz => ⟨_, rfl, by rcases (show j = 0 ∨ j = 1 ∨ j = 2 ∨ j = 3 by omega) with rfl | rfl | rfl | rfl <;> rw [if_pos (by omega)] <;> first | exact h9 | exact h10 | exact h11 | exact h12, htz⟩) (fun _ h => absurd h List.not_mem_nil) dX5_epoch_33
set_option maxHeartbeats 4000000 in
set_option maxRecDepth 100000 in
/-- of no epoch -/
theorem c_X5_epoch_no {zl : Launch} {D : va_G} {cI cD : ClassId} (mo : Nat) (n : Nat) (vk : Nat) (vc : Nat) (vt : Nat) (vn : Nat) (vr : Nat) (vs : Nat) (ve : Nat) (vp : Nat) (ep : Nat → Int32) (L : Ep) (j : Int32) (h8 : ep 8 = nI L.1) (hL1 : L.1 ≤ 1) (hj : j < 0) : Ci zl yX5_epoch wsX5_epoch ({ frames := 0, cells := 0, slots := 0, locals := 0 }) D cI cD [.ref mo, .int j] [(mo, .inr (5, [.int (nI n), .ref vk, .ref vc, .ref vt, .ref vn, .ref vr, .ref vs, .ref ve, .ref vp])), (ve, .inl (cI, 16, .inl ep))] (fun r => r = -1) := by
  refine Met.ofW (cc := cX5_epoch) (maxL := 2) (ret := (some .int)) (by decide) rfl ?_
  intro zp ze zs zm zargs zb zt zc zs₁ B hml hv
  obtain ⟨rfl, hP, hK, hD0, hN⟩ := hv
  have hx := B.exec
  have hb := B.bytes
  have hr := B.returns
  have hts := atoms_spec (ws := wsX5_epoch) B.pre
  have hown : zs.vm.findClass RX5 = some zm.cls := findClass_of_methodNamed B.named
  have hlocks := B.notSynchronized
  have hD := inW_self hD0
  have hS : va_S (inW [(mo, .inr (5, [.int (nI n), .ref vk, .ref vc, .ref vt, .ref vn, .ref vr, .ref vs, .ref ve, .ref vp])), (ve, .inl (cI, 16, .inl ep))]) zs.heap zs.heap [] := va_S.rf
  have hl := lv_entry [.ref mo, .int j] (n := 2) (Nat.le_of_ble_eq_true rfl)
  rw [lg_entry_eq]
  generalize (lg_sl [.ref mo, .int j] ++ List.replicate (2 - (lg_sl [.ref mo, .int j]).length) Slot.unset).toArray = ls at hl ⊢
  have hl : lv_has ls 2 [(0, .ref mo), (1, .int j)] := hl
  have hin5 : ∀ w ∈ u_ws RX5 TX5 9, w ∈ wsX5_epoch := by decide +kernel
  refine lv_aload_n hx hb dX5_epoch_0 rfl (lv_at hl 0 rfl) ?_
  refine va_get (D := D) (ci := 5) (v := .ref ve) (C := RX5) (T := TX5) (N := 9) hx hb hts hin5 hown hK hP 0 rfl rfl 7 (by decide) (hts (.fieldLink RX5 29 "EpochSifterModel" "epochs" "[I") (by decide +kernel)) (fun _ h9 => h9) rfl dX5_epoch_1 ?_
  refine lv_bipush (v := nI 8) hx hb dX5_epoch_4 (by decide) ?_
  refine a_ild (v := nI L.1) hx hb hK hP 1 0 rfl rfl (by omega) (by decide) (h8) dX5_epoch_6 ?_
  refine lv_iconst (v := nI 1) hx hb dX5_epoch_7 (by decide) ?_
  refine rn_ne (tgt := 32) hx hb dX5_epoch_8 (by decide) (by omega) (by omega) (fun c_8 => ?_) (fun c_8 => ?_)
  · skip
    refine lv_iconst (v := (-1)) hx hb dX5_epoch_32 (by decide) ?_
    exact W.iret (v := -1) hx hb hr (fun tz htz hWz => ⟨_, rfl, by first | rfl | assumption | omega | simp_all, htz⟩) (fun _ h => absurd h List.not_mem_nil) dX5_epoch_33
  · skip
    refine lv_iload_n hx hb dX5_epoch_11 rfl (lv_at hl 1 rfl) ?_
    refine lv_if_lt (tgt := 32) hx hb dX5_epoch_12 (by decide) (fun c_12 => ?_) (fun c_12 => ?_)
    · skip
      refine lv_iconst (v := (-1)) hx hb dX5_epoch_32 (by decide) ?_
      exact W.iret (v := -1) hx hb hr (fun tz htz hWz => ⟨_, rfl, by first | rfl | assumption | omega | simp_all, htz⟩) (fun _ h => absurd h List.not_mem_nil) dX5_epoch_33
    · exact absurd hj c_12
set_option maxHeartbeats 4000000 in
set_option maxRecDepth 100000 in
/-- a cell of the latest epoch -/
theorem c_X5_isCell {zl : Launch} {D : va_G} {cI cD : ClassId} (mo : Nat) (n : Nat) (vk : Nat) (vc : Nat) (vt : Nat) (vn : Nat) (vr : Nat) (vs : Nat) (ve : Nat) (vp : Nat) (ep : Nat → Int32) (L : Ep) (j : Nat) (h8 : ep 8 = nI L.1) (h11 : ep 11 = nI L.2.2.2.2.length) (hL1 : L.1 ≤ 1) (hL40 : L.2.2.2.2.length ≤ 40) (hj : j < 2 ^ 31) : Ci zl yX5_isCell wsX5_isCell ({ frames := 0, cells := 0, slots := 0, locals := 0 }) D cI cD [.ref mo, .int (nI j)] [(mo, .inr (5, [.int (nI n), .ref vk, .ref vc, .ref vt, .ref vn, .ref vr, .ref vs, .ref ve, .ref vp])), (ve, .inl (cI, 16, .inl ep))] (fun r => r = nI (tf (L.1 = 1 ∧ j < L.2.2.2.2.length))) := by
  refine Met.ofW (cc := cX5_isCell) (maxL := 2) (ret := (some .boolean)) (by decide) rfl ?_
  intro zp ze zs zm zargs zb zt zc zs₁ B hml hv
  obtain ⟨rfl, hP, hK, hD0, hN⟩ := hv
  have hx := B.exec
  have hb := B.bytes
  have hr := B.returns
  have hts := atoms_spec (ws := wsX5_isCell) B.pre
  have hown : zs.vm.findClass RX5 = some zm.cls := findClass_of_methodNamed B.named
  have hlocks := B.notSynchronized
  have hD := inW_self hD0
  have hS : va_S (inW [(mo, .inr (5, [.int (nI n), .ref vk, .ref vc, .ref vt, .ref vn, .ref vr, .ref vs, .ref ve, .ref vp])), (ve, .inl (cI, 16, .inl ep))]) zs.heap zs.heap [] := va_S.rf
  have hl := lv_entry [.ref mo, .int (nI j)] (n := 2) (Nat.le_of_ble_eq_true rfl)
  rw [lg_entry_eq]
  generalize (lg_sl [.ref mo, .int (nI j)] ++ List.replicate (2 - (lg_sl [.ref mo, .int (nI j)]).length) Slot.unset).toArray = ls at hl ⊢
  have hl : lv_has ls 2 [(0, .ref mo), (1, .int (nI j))] := hl
  have hin5 : ∀ w ∈ u_ws RX5 TX5 9, w ∈ wsX5_isCell := by decide +kernel
  refine lv_aload_n hx hb dX5_isCell_0 rfl (lv_at hl 0 rfl) ?_
  refine va_get (D := D) (ci := 5) (v := .ref ve) (C := RX5) (T := TX5) (N := 9) hx hb hts hin5 hown hK hP 0 rfl rfl 7 (by decide) (hts (.fieldLink RX5 29 "EpochSifterModel" "epochs" "[I") (by decide +kernel)) (fun _ h9 => h9) rfl dX5_isCell_1 ?_
  refine lv_bipush (v := nI 8) hx hb dX5_isCell_4 (by decide) ?_
  refine a_ild (v := nI L.1) hx hb hK hP 1 0 rfl rfl (by omega) (by decide) (h8) dX5_isCell_6 ?_
  refine lv_iconst (v := nI 1) hx hb dX5_isCell_7 (by decide) ?_
  refine rn_ne (tgt := 30) hx hb dX5_isCell_8 (by decide) (by omega) (by omega) (fun c_8 => ?_) (fun c_8 => ?_)
  · skip
    refine lv_iconst (v := nI 0) hx hb dX5_isCell_30 (by decide) ?_
    exact W.zret (v := nI 0) hx hb hr (rfl) (fun tz htz hWz => ⟨_, rfl, by rw [tf_0 (by omega)], htz⟩) (fun _ h => absurd h List.not_mem_nil) dX5_isCell_31
  · skip
    refine lv_iload_n hx hb dX5_isCell_11 rfl (lv_at hl 1 rfl) ?_
    refine rz_lt (tgt := 30) hx hb dX5_isCell_12 (by decide) (by omega) ?_
    refine lv_iload_n hx hb dX5_isCell_15 rfl (lv_at hl 1 rfl) ?_
    refine lv_aload_n hx hb dX5_isCell_16 rfl (lv_at hl 0 rfl) ?_
    refine va_get (D := D) (ci := 5) (v := .ref ve) (C := RX5) (T := TX5) (N := 9) hx hb hts hin5 hown hK hP 0 rfl rfl 7 (by decide) (hts (.fieldLink RX5 29 "EpochSifterModel" "epochs" "[I") (by decide +kernel)) (fun _ h9 => h9) rfl dX5_isCell_17 ?_
    refine lv_bipush (v := nI 11) hx hb dX5_isCell_20 (by decide) ?_
    refine a_ild (v := nI L.2.2.2.2.length) hx hb hK hP 1 0 rfl rfl (by omega) (by decide) (h11) dX5_isCell_22 ?_
    refine rn_ge (tgt := 30) hx hb dX5_isCell_23 (by decide) (by omega) (by omega) (fun c_23 => ?_) (fun c_23 => ?_)
    · skip
      refine lv_iconst (v := nI 0) hx hb dX5_isCell_30 (by decide) ?_
      exact W.zret (v := nI 0) hx hb hr (rfl) (fun tz htz hWz => ⟨_, rfl, by rw [tf_0 (by omega)], htz⟩) (fun _ h => absurd h List.not_mem_nil) dX5_isCell_31
    · skip
      refine lv_iconst (v := nI 1) hx hb dX5_isCell_26 (by decide) ?_
      refine lv_goto (tgt := 31) hx hb dX5_isCell_27 (by decide) ?_
      exact W.zret (v := nI 1) hx hb hr (rfl) (fun tz htz hWz => ⟨_, rfl, by rw [tf_1 ⟨by omega, by omega⟩], htz⟩) (fun _ h => absurd h List.not_mem_nil) dX5_isCell_31
set_option maxHeartbeats 4000000 in
set_option maxRecDepth 100000 in
/-- no cell -/
theorem c_X5_isCell_no {zl : Launch} {D : va_G} {cI cD : ClassId} (mo : Nat) (n : Nat) (vk : Nat) (vc : Nat) (vt : Nat) (vn : Nat) (vr : Nat) (vs : Nat) (ve : Nat) (vp : Nat) (ep : Nat → Int32) (L : Ep) (j : Int32) (h8 : ep 8 = nI L.1) (hL1 : L.1 ≤ 1) (hj : j < 0) : Ci zl yX5_isCell wsX5_isCell ({ frames := 0, cells := 0, slots := 0, locals := 0 }) D cI cD [.ref mo, .int j] [(mo, .inr (5, [.int (nI n), .ref vk, .ref vc, .ref vt, .ref vn, .ref vr, .ref vs, .ref ve, .ref vp])), (ve, .inl (cI, 16, .inl ep))] (fun r => r = nI 0) := by
  refine Met.ofW (cc := cX5_isCell) (maxL := 2) (ret := (some .boolean)) (by decide) rfl ?_
  intro zp ze zs zm zargs zb zt zc zs₁ B hml hv
  obtain ⟨rfl, hP, hK, hD0, hN⟩ := hv
  have hx := B.exec
  have hb := B.bytes
  have hr := B.returns
  have hts := atoms_spec (ws := wsX5_isCell) B.pre
  have hown : zs.vm.findClass RX5 = some zm.cls := findClass_of_methodNamed B.named
  have hlocks := B.notSynchronized
  have hD := inW_self hD0
  have hS : va_S (inW [(mo, .inr (5, [.int (nI n), .ref vk, .ref vc, .ref vt, .ref vn, .ref vr, .ref vs, .ref ve, .ref vp])), (ve, .inl (cI, 16, .inl ep))]) zs.heap zs.heap [] := va_S.rf
  have hl := lv_entry [.ref mo, .int j] (n := 2) (Nat.le_of_ble_eq_true rfl)
  rw [lg_entry_eq]
  generalize (lg_sl [.ref mo, .int j] ++ List.replicate (2 - (lg_sl [.ref mo, .int j]).length) Slot.unset).toArray = ls at hl ⊢
  have hl : lv_has ls 2 [(0, .ref mo), (1, .int j)] := hl
  have hin5 : ∀ w ∈ u_ws RX5 TX5 9, w ∈ wsX5_isCell := by decide +kernel
  refine lv_aload_n hx hb dX5_isCell_0 rfl (lv_at hl 0 rfl) ?_
  refine va_get (D := D) (ci := 5) (v := .ref ve) (C := RX5) (T := TX5) (N := 9) hx hb hts hin5 hown hK hP 0 rfl rfl 7 (by decide) (hts (.fieldLink RX5 29 "EpochSifterModel" "epochs" "[I") (by decide +kernel)) (fun _ h9 => h9) rfl dX5_isCell_1 ?_
  refine lv_bipush (v := nI 8) hx hb dX5_isCell_4 (by decide) ?_
  refine a_ild (v := nI L.1) hx hb hK hP 1 0 rfl rfl (by omega) (by decide) (h8) dX5_isCell_6 ?_
  refine lv_iconst (v := nI 1) hx hb dX5_isCell_7 (by decide) ?_
  refine rn_ne (tgt := 30) hx hb dX5_isCell_8 (by decide) (by omega) (by omega) (fun c_8 => ?_) (fun c_8 => ?_)
  · skip
    refine lv_iconst (v := nI 0) hx hb dX5_isCell_30 (by decide) ?_
    exact W.zret (v := nI 0) hx hb hr (rfl) (fun tz htz hWz => ⟨_, rfl, by first | rfl | assumption | omega | simp_all, htz⟩) (fun _ h => absurd h List.not_mem_nil) dX5_isCell_31
  · skip
    refine lv_iload_n hx hb dX5_isCell_11 rfl (lv_at hl 1 rfl) ?_
    refine lv_if_lt (tgt := 30) hx hb dX5_isCell_12 (by decide) (fun c_12 => ?_) (fun c_12 => ?_)
    · skip
      refine lv_iconst (v := nI 0) hx hb dX5_isCell_30 (by decide) ?_
      exact W.zret (v := nI 0) hx hb hr (rfl) (fun tz htz hWz => ⟨_, rfl, by first | rfl | assumption | omega | simp_all, htz⟩) (fun _ h => absurd h List.not_mem_nil) dX5_isCell_31
    · exact absurd hj c_12
set_option maxHeartbeats 4000000 in
set_option maxRecDepth 100000 in
/-- a cell's cell -/
theorem c_X5_cell {zl : Launch} {D : va_G} {cI cD : ClassId} (mo : Nat) (n : Nat) (vk : Nat) (vc : Nat) (vt : Nat) (vn : Nat) (vr : Nat) (vs : Nat) (ve : Nat) (vp : Nat) (fN : Nat → Int32) (fR : Nat → UInt64) (fS : Nat → Int32) (ep : Nat → Int32) (L : Ep) (j : Nat) (h8 : ep 8 = nI L.1) (h11 : ep 11 = nI L.2.2.2.2.length) (hL1 : L.1 ≤ 1) (hL40 : L.2.2.2.2.length ≤ 40) (hEL : RpE (fun i => fN (40 + i)) (fun i => fR (40 + i)) (fun i => fS (40 + i)) L.2.2.2.2) (hj : j < 2 ^ 31) : Ci zl yX5_cell wsX5_cell ({ frames := 1, cells := 0, slots := 0, locals := 21 }) D cI cD [.ref mo, .int (nI j)] [(mo, .inr (5, [.int (nI n), .ref vk, .ref vc, .ref vt, .ref vn, .ref vr, .ref vs, .ref ve, .ref vp])), (vn, .inl (cI, 80, .inl fN)), (ve, .inl (cI, 16, .inl ep))] (fun r => r = if L.1 = 1 ∧ j < L.2.2.2.2.length then (L.2.2.2.2.getD j c0).1 else -1) := by
  refine Met.ofW (cc := cX5_cell) (maxL := 2) (ret := (some .int)) (by decide) rfl ?_
  intro zp ze zs zm zargs zb zt zc zs₁ B hml hv
  obtain ⟨rfl, hP, hK, hD0, hN⟩ := hv
  have hx := B.exec
  have hb := B.bytes
  have hr := B.returns
  have hts := atoms_spec (ws := wsX5_cell) B.pre
  have hown : zs.vm.findClass RX5 = some zm.cls := findClass_of_methodNamed B.named
  have hlocks := B.notSynchronized
  have hD := inW_self hD0
  have hS : va_S (inW [(mo, .inr (5, [.int (nI n), .ref vk, .ref vc, .ref vt, .ref vn, .ref vr, .ref vs, .ref ve, .ref vp])), (vn, .inl (cI, 80, .inl fN)), (ve, .inl (cI, 16, .inl ep))]) zs.heap zs.heap [] := va_S.rf
  have hl := lv_entry [.ref mo, .int (nI j)] (n := 2) (Nat.le_of_ble_eq_true rfl)
  rw [lg_entry_eq]
  generalize (lg_sl [.ref mo, .int (nI j)] ++ List.replicate (2 - (lg_sl [.ref mo, .int (nI j)]).length) Slot.unset).toArray = ls at hl ⊢
  have hl : lv_has ls 2 [(0, .ref mo), (1, .int (nI j))] := hl
  have hin5 : ∀ w ∈ u_ws RX5 TX5 9, w ∈ wsX5_cell := by decide +kernel
  refine lv_aload_n hx hb dX5_cell_0 rfl (lv_at hl 0 rfl) ?_
  refine lv_iload_n hx hb dX5_cell_1 rfl (lv_at hl 1 rfl) ?_
  refine r_callVi (As := [.int (nI j)]) (rest := []) ⟨hx, hb, hml, hown, hts⟩ (c_X5_isCell (zl := zl) (D := D) (cI := cI) (cD := cD) mo n vk vc vt vn vr vs ve vp ep L j (by first | assumption | omega) (by first | assumption | omega) (by first | assumption | omega) (by first | assumption | omega) (by first | assumption | omega)) (cwV 1 hts gX5_cell_X5_isCell rfl rfl rfl (by decide +kernel) ⟨Nat.le_of_ble_eq_true rfl, Nat.le_of_ble_eq_true rfl⟩) hK hN hP hD [0, 2] rfl rfl 0 rfl rfl rfl hl.1 rfl (Nat.le_of_ble_eq_true rfl) dX5_cell_2 ⟨Nat.le_of_ble_eq_true rfl, Nat.le_of_ble_eq_true rfl⟩ (fun r_1 h_1 => ?_)
  obtain rfl := h_1
  have t9 := tf_lt (L.1 = 1 ∧ j < L.2.2.2.2.length)
  refine rz_eq (tgt := 20) hx hb dX5_cell_5 (by decide) (by omega) (fun c_5 => ?_) (fun c_5 => ?_)
  · skip
    have h9 := tf_of0 c_5
    refine lv_iconst (v := (-1)) hx hb dX5_cell_20 (by decide) ?_
    exact W.iret (v := -1) hx hb hr (fun tz htz hWz => ⟨_, rfl, by rw [if_neg h9], htz⟩) (fun _ h => absurd h List.not_mem_nil) dX5_cell_21
  · skip
    have h9 := tf_of1 c_5
    refine lv_aload_n hx hb dX5_cell_8 rfl (lv_at hl 0 rfl) ?_
    refine va_get (D := D) (ci := 5) (v := .ref vn) (C := RX5) (T := TX5) (N := 9) hx hb hts hin5 hown hK hP 0 rfl rfl 4 (by decide) (hts (.fieldLink RX5 19 "EpochSifterModel" "names" "[I") (by decide +kernel)) (fun _ h9 => h9) rfl dX5_cell_9 ?_
    refine lv_bipush (v := nI 40) hx hb dX5_cell_12 (by decide) ?_
    refine lv_iload_n hx hb dX5_cell_14 rfl (lv_at hl 1 rfl) ?_
    refine lv_iadd hx hb dX5_cell_15 ?_
    refine r_i (v := nI (40 + j)) (nI_add _ _) ?_
    refine a_ild (v := (L.2.2.2.2.getD j c0).1) hx hb hK hP 1 0 rfl rfl (by omega) (by decide) ((hEL j (by omega)).1) dX5_cell_16 ?_
    refine lv_goto (tgt := 21) hx hb dX5_cell_17 (by decide) ?_
    exact W.iret (v := (L.2.2.2.2.getD j c0).1) hx hb hr (fun tz htz hWz => ⟨_, rfl, by rw [if_pos h9], htz⟩) (fun _ h => absurd h List.not_mem_nil) dX5_cell_21
set_option maxHeartbeats 4000000 in
set_option maxRecDepth 100000 in
/-- no cell's cell -/
theorem c_X5_cell_no {zl : Launch} {D : va_G} {cI cD : ClassId} (mo : Nat) (n : Nat) (vk : Nat) (vc : Nat) (vt : Nat) (vn : Nat) (vr : Nat) (vs : Nat) (ve : Nat) (vp : Nat) (fN : Nat → Int32) (ep : Nat → Int32) (L : Ep) (j : Int32) (h8 : ep 8 = nI L.1) (hL1 : L.1 ≤ 1) (hj : j < 0) : Ci zl yX5_cell wsX5_cell ({ frames := 1, cells := 0, slots := 0, locals := 21 }) D cI cD [.ref mo, .int j] [(mo, .inr (5, [.int (nI n), .ref vk, .ref vc, .ref vt, .ref vn, .ref vr, .ref vs, .ref ve, .ref vp])), (vn, .inl (cI, 80, .inl fN)), (ve, .inl (cI, 16, .inl ep))] (fun r => r = -1) := by
  refine Met.ofW (cc := cX5_cell) (maxL := 2) (ret := (some .int)) (by decide) rfl ?_
  intro zp ze zs zm zargs zb zt zc zs₁ B hml hv
  obtain ⟨rfl, hP, hK, hD0, hN⟩ := hv
  have hx := B.exec
  have hb := B.bytes
  have hr := B.returns
  have hts := atoms_spec (ws := wsX5_cell) B.pre
  have hown : zs.vm.findClass RX5 = some zm.cls := findClass_of_methodNamed B.named
  have hlocks := B.notSynchronized
  have hD := inW_self hD0
  have hS : va_S (inW [(mo, .inr (5, [.int (nI n), .ref vk, .ref vc, .ref vt, .ref vn, .ref vr, .ref vs, .ref ve, .ref vp])), (vn, .inl (cI, 80, .inl fN)), (ve, .inl (cI, 16, .inl ep))]) zs.heap zs.heap [] := va_S.rf
  have hl := lv_entry [.ref mo, .int j] (n := 2) (Nat.le_of_ble_eq_true rfl)
  rw [lg_entry_eq]
  generalize (lg_sl [.ref mo, .int j] ++ List.replicate (2 - (lg_sl [.ref mo, .int j]).length) Slot.unset).toArray = ls at hl ⊢
  have hl : lv_has ls 2 [(0, .ref mo), (1, .int j)] := hl
  refine lv_aload_n hx hb dX5_cell_0 rfl (lv_at hl 0 rfl) ?_
  refine lv_iload_n hx hb dX5_cell_1 rfl (lv_at hl 1 rfl) ?_
  refine r_callVi (As := [.int j]) (rest := []) ⟨hx, hb, hml, hown, hts⟩ (c_X5_isCell_no (zl := zl) (D := D) (cI := cI) (cD := cD) mo n vk vc vt vn vr vs ve vp ep L j (by first | assumption | omega) (by first | assumption | omega) (by first | assumption | omega)) (cwV 1 hts gX5_cell_X5_isCell rfl rfl rfl (by decide +kernel) ⟨Nat.le_of_ble_eq_true rfl, Nat.le_of_ble_eq_true rfl⟩) hK hN hP hD [0, 2] rfl rfl 0 rfl rfl rfl hl.1 rfl (Nat.le_of_ble_eq_true rfl) dX5_cell_2 ⟨Nat.le_of_ble_eq_true rfl, Nat.le_of_ble_eq_true rfl⟩ (fun r_1 h_1 => ?_)
  obtain rfl := h_1
  refine rz_eq (tgt := 20) hx hb dX5_cell_5 (by decide) (by omega) (fun c_5 => ?_) (fun c_5 => ?_)
  · skip
    refine lv_iconst (v := (-1)) hx hb dX5_cell_20 (by decide) ?_
    exact W.iret (v := -1) hx hb hr (fun tz htz hWz => ⟨_, rfl, by first | rfl | assumption | omega | simp_all, htz⟩) (fun _ h => absurd h List.not_mem_nil) dX5_cell_21
  · omega
set_option maxHeartbeats 4000000 in
set_option maxRecDepth 100000 in
/-- a cell's range -/
theorem c_X5_range {zl : Launch} {D : va_G} {cI cD : ClassId} (mo : Nat) (n : Nat) (vk : Nat) (vc : Nat) (vt : Nat) (vn : Nat) (vr : Nat) (vs : Nat) (ve : Nat) (vp : Nat) (fN : Nat → Int32) (fR : Nat → UInt64) (fS : Nat → Int32) (ep : Nat → Int32) (L : Ep) (j : Nat) (h8 : ep 8 = nI L.1) (h11 : ep 11 = nI L.2.2.2.2.length) (hL1 : L.1 ≤ 1) (hL40 : L.2.2.2.2.length ≤ 40) (hEL : RpE (fun i => fN (40 + i)) (fun i => fR (40 + i)) (fun i => fS (40 + i)) L.2.2.2.2) (hj : j < 2 ^ 31) : Cd zl yX5_range wsX5_range ({ frames := 1, cells := 0, slots := 0, locals := 21 }) D cI cD [.ref mo, .int (nI j)] [(mo, .inr (5, [.int (nI n), .ref vk, .ref vc, .ref vt, .ref vn, .ref vr, .ref vs, .ref ve, .ref vp])), (vr, .inl (cD, 80, .inr (.inr (.inr (.inl fR))))), (ve, .inl (cI, 16, .inl ep))] (fun r => r = if L.1 = 1 ∧ j < L.2.2.2.2.length then (L.2.2.2.2.getD j c0).2.1 else 13830554455654793216) := by
  refine Met.ofW (cc := cX5_range) (maxL := 2) (ret := (some .double)) (by decide) rfl ?_
  intro zp ze zs zm zargs zb zt zc zs₁ B hml hv
  obtain ⟨rfl, hP, hK, hD0, hN⟩ := hv
  have hx := B.exec
  have hb := B.bytes
  have hr := B.returns
  have hts := atoms_spec (ws := wsX5_range) B.pre
  have hown : zs.vm.findClass RX5 = some zm.cls := findClass_of_methodNamed B.named
  have hlocks := B.notSynchronized
  have hD := inW_self hD0
  have hS : va_S (inW [(mo, .inr (5, [.int (nI n), .ref vk, .ref vc, .ref vt, .ref vn, .ref vr, .ref vs, .ref ve, .ref vp])), (vr, .inl (cD, 80, .inr (.inr (.inr (.inl fR))))), (ve, .inl (cI, 16, .inl ep))]) zs.heap zs.heap [] := va_S.rf
  have hl := lv_entry [.ref mo, .int (nI j)] (n := 2) (Nat.le_of_ble_eq_true rfl)
  rw [lg_entry_eq]
  generalize (lg_sl [.ref mo, .int (nI j)] ++ List.replicate (2 - (lg_sl [.ref mo, .int (nI j)]).length) Slot.unset).toArray = ls at hl ⊢
  have hl : lv_has ls 2 [(0, .ref mo), (1, .int (nI j))] := hl
  have hin5 : ∀ w ∈ u_ws RX5 TX5 9, w ∈ wsX5_range := by decide +kernel
  refine lv_aload_n hx hb dX5_range_0 rfl (lv_at hl 0 rfl) ?_
  refine lv_iload_n hx hb dX5_range_1 rfl (lv_at hl 1 rfl) ?_
  refine r_callVi (As := [.int (nI j)]) (rest := []) ⟨hx, hb, hml, hown, hts⟩ (c_X5_isCell (zl := zl) (D := D) (cI := cI) (cD := cD) mo n vk vc vt vn vr vs ve vp ep L j (by first | assumption | omega) (by first | assumption | omega) (by first | assumption | omega) (by first | assumption | omega) (by first | assumption | omega)) (cwV 1 hts gX5_range_X5_isCell rfl rfl rfl (by decide +kernel) ⟨Nat.le_of_ble_eq_true rfl, Nat.le_of_ble_eq_true rfl⟩) hK hN hP hD [0, 2] rfl rfl 0 rfl rfl rfl hl.1 rfl (Nat.le_of_ble_eq_true rfl) dX5_range_2 ⟨Nat.le_of_ble_eq_true rfl, Nat.le_of_ble_eq_true rfl⟩ (fun r_1 h_1 => ?_)
  obtain rfl := h_1
  have t9 := tf_lt (L.1 = 1 ∧ j < L.2.2.2.2.length)
  refine rz_eq (tgt := 20) hx hb dX5_range_5 (by decide) (by omega) (fun c_5 => ?_) (fun c_5 => ?_)
  · skip
    have h9 := tf_of0 c_5
    refine lv_ldc2d (v := 13830554455654793216) hx hb hown (hts (.constantDouble RX5 77 (13830554455654793216)) (by decide +kernel)) dX5_range_20 ?_
    exact W.dret (v := 13830554455654793216) hx hb hr (fun tz htz hWz => ⟨_, rfl, by rw [if_neg h9], htz⟩) (fun _ h => absurd h List.not_mem_nil) dX5_range_23
  · skip
    have h9 := tf_of1 c_5
    refine lv_aload_n hx hb dX5_range_8 rfl (lv_at hl 0 rfl) ?_
    refine va_get (D := D) (ci := 5) (v := .ref vr) (C := RX5) (T := TX5) (N := 9) hx hb hts hin5 hown hK hP 0 rfl rfl 5 (by decide) (hts (.fieldLink RX5 22 "EpochSifterModel" "ranges" "[D") (by decide +kernel)) (fun _ h9 => h9) rfl dX5_range_9 ?_
    refine lv_bipush (v := nI 40) hx hb dX5_range_12 (by decide) ?_
    refine lv_iload_n hx hb dX5_range_14 rfl (lv_at hl 1 rfl) ?_
    refine lv_iadd hx hb dX5_range_15 ?_
    refine r_i (v := nI (40 + j)) (nI_add _ _) ?_
    refine a_dld (v := (L.2.2.2.2.getD j c0).2.1) hx hb hK hP 1 1 rfl rfl (by omega) (by decide) ((hEL j (by omega)).2.1) dX5_range_16 ?_
    refine lv_goto (tgt := 23) hx hb dX5_range_17 (by decide) ?_
    exact W.dret (v := (L.2.2.2.2.getD j c0).2.1) hx hb hr (fun tz htz hWz => ⟨_, rfl, by rw [if_pos h9], htz⟩) (fun _ h => absurd h List.not_mem_nil) dX5_range_23
set_option maxHeartbeats 4000000 in
set_option maxRecDepth 100000 in
/-- no cell's range -/
theorem c_X5_range_no {zl : Launch} {D : va_G} {cI cD : ClassId} (mo : Nat) (n : Nat) (vk : Nat) (vc : Nat) (vt : Nat) (vn : Nat) (vr : Nat) (vs : Nat) (ve : Nat) (vp : Nat) (fR : Nat → UInt64) (ep : Nat → Int32) (L : Ep) (j : Int32) (h8 : ep 8 = nI L.1) (hL1 : L.1 ≤ 1) (hj : j < 0) : Cd zl yX5_range wsX5_range ({ frames := 1, cells := 0, slots := 0, locals := 21 }) D cI cD [.ref mo, .int j] [(mo, .inr (5, [.int (nI n), .ref vk, .ref vc, .ref vt, .ref vn, .ref vr, .ref vs, .ref ve, .ref vp])), (vr, .inl (cD, 80, .inr (.inr (.inr (.inl fR))))), (ve, .inl (cI, 16, .inl ep))] (fun r => r = 13830554455654793216) := by
  refine Met.ofW (cc := cX5_range) (maxL := 2) (ret := (some .double)) (by decide) rfl ?_
  intro zp ze zs zm zargs zb zt zc zs₁ B hml hv
  obtain ⟨rfl, hP, hK, hD0, hN⟩ := hv
  have hx := B.exec
  have hb := B.bytes
  have hr := B.returns
  have hts := atoms_spec (ws := wsX5_range) B.pre
  have hown : zs.vm.findClass RX5 = some zm.cls := findClass_of_methodNamed B.named
  have hlocks := B.notSynchronized
  have hD := inW_self hD0
  have hS : va_S (inW [(mo, .inr (5, [.int (nI n), .ref vk, .ref vc, .ref vt, .ref vn, .ref vr, .ref vs, .ref ve, .ref vp])), (vr, .inl (cD, 80, .inr (.inr (.inr (.inl fR))))), (ve, .inl (cI, 16, .inl ep))]) zs.heap zs.heap [] := va_S.rf
  have hl := lv_entry [.ref mo, .int j] (n := 2) (Nat.le_of_ble_eq_true rfl)
  rw [lg_entry_eq]
  generalize (lg_sl [.ref mo, .int j] ++ List.replicate (2 - (lg_sl [.ref mo, .int j]).length) Slot.unset).toArray = ls at hl ⊢
  have hl : lv_has ls 2 [(0, .ref mo), (1, .int j)] := hl
  refine lv_aload_n hx hb dX5_range_0 rfl (lv_at hl 0 rfl) ?_
  refine lv_iload_n hx hb dX5_range_1 rfl (lv_at hl 1 rfl) ?_
  refine r_callVi (As := [.int j]) (rest := []) ⟨hx, hb, hml, hown, hts⟩ (c_X5_isCell_no (zl := zl) (D := D) (cI := cI) (cD := cD) mo n vk vc vt vn vr vs ve vp ep L j (by first | assumption | omega) (by first | assumption | omega) (by first | assumption | omega)) (cwV 1 hts gX5_range_X5_isCell rfl rfl rfl (by decide +kernel) ⟨Nat.le_of_ble_eq_true rfl, Nat.le_of_ble_eq_true rfl⟩) hK hN hP hD [0, 2] rfl rfl 0 rfl rfl rfl hl.1 rfl (Nat.le_of_ble_eq_true rfl) dX5_range_2 ⟨Nat.le_of_ble_eq_true rfl, Nat.le_of_ble_eq_true rfl⟩ (fun r_1 h_1 => ?_)
  obtain rfl := h_1
  refine rz_eq (tgt := 20) hx hb dX5_range_5 (by decide) (by omega) (fun c_5 => ?_) (fun c_5 => ?_)
  · skip
    refine lv_ldc2d (v := 13830554455654793216) hx hb hown (hts (.constantDouble RX5 77 (13830554455654793216)) (by decide +kernel)) dX5_range_20 ?_
    exact W.dret (v := 13830554455654793216) hx hb hr (fun tz htz hWz => ⟨_, rfl, by first | rfl | assumption | omega | simp_all, htz⟩) (fun _ h => absurd h List.not_mem_nil) dX5_range_23
  · omega
set_option maxHeartbeats 4000000 in
set_option maxRecDepth 100000 in
/-- a cell's strength -/
theorem c_X5_strength {zl : Launch} {D : va_G} {cI cD : ClassId} (mo : Nat) (n : Nat) (vk : Nat) (vc : Nat) (vt : Nat) (vn : Nat) (vr : Nat) (vs : Nat) (ve : Nat) (vp : Nat) (fN : Nat → Int32) (fR : Nat → UInt64) (fS : Nat → Int32) (ep : Nat → Int32) (L : Ep) (j : Nat) (h8 : ep 8 = nI L.1) (h11 : ep 11 = nI L.2.2.2.2.length) (hL1 : L.1 ≤ 1) (hL40 : L.2.2.2.2.length ≤ 40) (hEL : RpE (fun i => fN (40 + i)) (fun i => fR (40 + i)) (fun i => fS (40 + i)) L.2.2.2.2) (hj : j < 2 ^ 31) : Ci zl yX5_strength wsX5_strength ({ frames := 1, cells := 0, slots := 0, locals := 21 }) D cI cD [.ref mo, .int (nI j)] [(mo, .inr (5, [.int (nI n), .ref vk, .ref vc, .ref vt, .ref vn, .ref vr, .ref vs, .ref ve, .ref vp])), (vs, .inl (cI, 80, .inl fS)), (ve, .inl (cI, 16, .inl ep))] (fun r => r = if L.1 = 1 ∧ j < L.2.2.2.2.length then (L.2.2.2.2.getD j c0).2.2 else -1) := by
  refine Met.ofW (cc := cX5_strength) (maxL := 2) (ret := (some .int)) (by decide) rfl ?_
  intro zp ze zs zm zargs zb zt zc zs₁ B hml hv
  obtain ⟨rfl, hP, hK, hD0, hN⟩ := hv
  have hx := B.exec
  have hb := B.bytes
  have hr := B.returns
  have hts := atoms_spec (ws := wsX5_strength) B.pre
  have hown : zs.vm.findClass RX5 = some zm.cls := findClass_of_methodNamed B.named
  have hlocks := B.notSynchronized
  have hD := inW_self hD0
  have hS : va_S (inW [(mo, .inr (5, [.int (nI n), .ref vk, .ref vc, .ref vt, .ref vn, .ref vr, .ref vs, .ref ve, .ref vp])), (vs, .inl (cI, 80, .inl fS)), (ve, .inl (cI, 16, .inl ep))]) zs.heap zs.heap [] := va_S.rf
  have hl := lv_entry [.ref mo, .int (nI j)] (n := 2) (Nat.le_of_ble_eq_true rfl)
  rw [lg_entry_eq]
  generalize (lg_sl [.ref mo, .int (nI j)] ++ List.replicate (2 - (lg_sl [.ref mo, .int (nI j)]).length) Slot.unset).toArray = ls at hl ⊢
  have hl : lv_has ls 2 [(0, .ref mo), (1, .int (nI j))] := hl
  have hin5 : ∀ w ∈ u_ws RX5 TX5 9, w ∈ wsX5_strength := by decide +kernel
  refine lv_aload_n hx hb dX5_strength_0 rfl (lv_at hl 0 rfl) ?_
  refine lv_iload_n hx hb dX5_strength_1 rfl (lv_at hl 1 rfl) ?_
  refine r_callVi (As := [.int (nI j)]) (rest := []) ⟨hx, hb, hml, hown, hts⟩ (c_X5_isCell (zl := zl) (D := D) (cI := cI) (cD := cD) mo n vk vc vt vn vr vs ve vp ep L j (by first | assumption | omega) (by first | assumption | omega) (by first | assumption | omega) (by first | assumption | omega) (by first | assumption | omega)) (cwV 1 hts gX5_strength_X5_isCell rfl rfl rfl (by decide +kernel) ⟨Nat.le_of_ble_eq_true rfl, Nat.le_of_ble_eq_true rfl⟩) hK hN hP hD [0, 2] rfl rfl 0 rfl rfl rfl hl.1 rfl (Nat.le_of_ble_eq_true rfl) dX5_strength_2 ⟨Nat.le_of_ble_eq_true rfl, Nat.le_of_ble_eq_true rfl⟩ (fun r_1 h_1 => ?_)
  obtain rfl := h_1
  have t9 := tf_lt (L.1 = 1 ∧ j < L.2.2.2.2.length)
  refine rz_eq (tgt := 20) hx hb dX5_strength_5 (by decide) (by omega) (fun c_5 => ?_) (fun c_5 => ?_)
  · skip
    have h9 := tf_of0 c_5
    refine lv_iconst (v := (-1)) hx hb dX5_strength_20 (by decide) ?_
    exact W.iret (v := -1) hx hb hr (fun tz htz hWz => ⟨_, rfl, by rw [if_neg h9], htz⟩) (fun _ h => absurd h List.not_mem_nil) dX5_strength_21
  · skip
    have h9 := tf_of1 c_5
    refine lv_aload_n hx hb dX5_strength_8 rfl (lv_at hl 0 rfl) ?_
    refine va_get (D := D) (ci := 5) (v := .ref vs) (C := RX5) (T := TX5) (N := 9) hx hb hts hin5 hown hK hP 0 rfl rfl 6 (by decide) (hts (.fieldLink RX5 26 "EpochSifterModel" "strengths" "[I") (by decide +kernel)) (fun _ h9 => h9) rfl dX5_strength_9 ?_
    refine lv_bipush (v := nI 40) hx hb dX5_strength_12 (by decide) ?_
    refine lv_iload_n hx hb dX5_strength_14 rfl (lv_at hl 1 rfl) ?_
    refine lv_iadd hx hb dX5_strength_15 ?_
    refine r_i (v := nI (40 + j)) (nI_add _ _) ?_
    refine a_ild (v := (L.2.2.2.2.getD j c0).2.2) hx hb hK hP 1 0 rfl rfl (by omega) (by decide) ((hEL j (by omega)).2.2) dX5_strength_16 ?_
    refine lv_goto (tgt := 21) hx hb dX5_strength_17 (by decide) ?_
    exact W.iret (v := (L.2.2.2.2.getD j c0).2.2) hx hb hr (fun tz htz hWz => ⟨_, rfl, by rw [if_pos h9], htz⟩) (fun _ h => absurd h List.not_mem_nil) dX5_strength_21
set_option maxHeartbeats 4000000 in
set_option maxRecDepth 100000 in
/-- no cell's strength -/
theorem c_X5_strength_no {zl : Launch} {D : va_G} {cI cD : ClassId} (mo : Nat) (n : Nat) (vk : Nat) (vc : Nat) (vt : Nat) (vn : Nat) (vr : Nat) (vs : Nat) (ve : Nat) (vp : Nat) (fS : Nat → Int32) (ep : Nat → Int32) (L : Ep) (j : Int32) (h8 : ep 8 = nI L.1) (hL1 : L.1 ≤ 1) (hj : j < 0) : Ci zl yX5_strength wsX5_strength ({ frames := 1, cells := 0, slots := 0, locals := 21 }) D cI cD [.ref mo, .int j] [(mo, .inr (5, [.int (nI n), .ref vk, .ref vc, .ref vt, .ref vn, .ref vr, .ref vs, .ref ve, .ref vp])), (vs, .inl (cI, 80, .inl fS)), (ve, .inl (cI, 16, .inl ep))] (fun r => r = -1) := by
  refine Met.ofW (cc := cX5_strength) (maxL := 2) (ret := (some .int)) (by decide) rfl ?_
  intro zp ze zs zm zargs zb zt zc zs₁ B hml hv
  obtain ⟨rfl, hP, hK, hD0, hN⟩ := hv
  have hx := B.exec
  have hb := B.bytes
  have hr := B.returns
  have hts := atoms_spec (ws := wsX5_strength) B.pre
  have hown : zs.vm.findClass RX5 = some zm.cls := findClass_of_methodNamed B.named
  have hlocks := B.notSynchronized
  have hD := inW_self hD0
  have hS : va_S (inW [(mo, .inr (5, [.int (nI n), .ref vk, .ref vc, .ref vt, .ref vn, .ref vr, .ref vs, .ref ve, .ref vp])), (vs, .inl (cI, 80, .inl fS)), (ve, .inl (cI, 16, .inl ep))]) zs.heap zs.heap [] := va_S.rf
  have hl := lv_entry [.ref mo, .int j] (n := 2) (Nat.le_of_ble_eq_true rfl)
  rw [lg_entry_eq]
  generalize (lg_sl [.ref mo, .int j] ++ List.replicate (2 - (lg_sl [.ref mo, .int j]).length) Slot.unset).toArray = ls at hl ⊢
  have hl : lv_has ls 2 [(0, .ref mo), (1, .int j)] := hl
  refine lv_aload_n hx hb dX5_strength_0 rfl (lv_at hl 0 rfl) ?_
  refine lv_iload_n hx hb dX5_strength_1 rfl (lv_at hl 1 rfl) ?_
  refine r_callVi (As := [.int j]) (rest := []) ⟨hx, hb, hml, hown, hts⟩ (c_X5_isCell_no (zl := zl) (D := D) (cI := cI) (cD := cD) mo n vk vc vt vn vr vs ve vp ep L j (by first | assumption | omega) (by first | assumption | omega) (by first | assumption | omega)) (cwV 1 hts gX5_strength_X5_isCell rfl rfl rfl (by decide +kernel) ⟨Nat.le_of_ble_eq_true rfl, Nat.le_of_ble_eq_true rfl⟩) hK hN hP hD [0, 2] rfl rfl 0 rfl rfl rfl hl.1 rfl (Nat.le_of_ble_eq_true rfl) dX5_strength_2 ⟨Nat.le_of_ble_eq_true rfl, Nat.le_of_ble_eq_true rfl⟩ (fun r_1 h_1 => ?_)
  obtain rfl := h_1
  refine rz_eq (tgt := 20) hx hb dX5_strength_5 (by decide) (by omega) (fun c_5 => ?_) (fun c_5 => ?_)
  · skip
    refine lv_iconst (v := (-1)) hx hb dX5_strength_20 (by decide) ?_
    exact W.iret (v := -1) hx hb hr (fun tz htz hWz => ⟨_, rfl, by first | rfl | assumption | omega | simp_all, htz⟩) (fun _ h => absurd h List.not_mem_nil) dX5_strength_21
  · omega
set_option maxHeartbeats 4000000 in
set_option maxRecDepth 100000 in
/-- the mean -/
theorem c_X5_mean {zl : Launch} {D : va_G} {cI cD : ClassId} (mo : Nat) (n : Nat) (vk : Nat) (vc : Nat) (vt : Nat) (vn : Nat) (vr : Nat) (vs : Nat) (ve : Nat) (vp : Nat) (fN : Nat → Int32) (fR : Nat → UInt64) (fS : Nat → Int32) (ep : Nat → Int32) (L : Ep) (h8 : ep 8 = nI L.1) (h11 : ep 11 = nI L.2.2.2.2.length) (hL1 : L.1 ≤ 1) (hL40 : L.2.2.2.2.length ≤ 40) (hEL : RpE (fun i => fN (40 + i)) (fun i => fR (40 + i)) (fun i => fS (40 + i)) L.2.2.2.2) (hF : FinC L.2.2.2.2) : Cd zl yX5_mean wsX5_mean ({ frames := 1, cells := 0, slots := 0, locals := 21 }) D cI cD [.ref mo] [(mo, .inr (5, [.int (nI n), .ref vk, .ref vc, .ref vt, .ref vn, .ref vr, .ref vs, .ref ve, .ref vp])), (vr, .inl (cD, 80, .inr (.inr (.inr (.inl fR))))), (ve, .inl (cI, 16, .inl ep))] (fun r => r = if L.1 = 1 then mean L.2.2.2.2 else 13830554455654793216) := by
  refine Met.ofW (cc := cX5_mean) (maxL := 5) (ret := (some .double)) (by decide) rfl ?_
  intro zp ze zs zm zargs zb zt zc zs₁ B hml hv
  obtain ⟨rfl, hP, hK, hD0, hN⟩ := hv
  have hx := B.exec
  have hb := B.bytes
  have hr := B.returns
  have hts := atoms_spec (ws := wsX5_mean) B.pre
  have hown : zs.vm.findClass RX5 = some zm.cls := findClass_of_methodNamed B.named
  have hlocks := B.notSynchronized
  have hD := inW_self hD0
  have hS : va_S (inW [(mo, .inr (5, [.int (nI n), .ref vk, .ref vc, .ref vt, .ref vn, .ref vr, .ref vs, .ref ve, .ref vp])), (vr, .inl (cD, 80, .inr (.inr (.inr (.inl fR))))), (ve, .inl (cI, 16, .inl ep))]) zs.heap zs.heap [] := va_S.rf
  have hl := lv_entry [.ref mo] (n := 5) (Nat.le_of_ble_eq_true rfl)
  rw [lg_entry_eq]
  generalize (lg_sl [.ref mo] ++ List.replicate (5 - (lg_sl [.ref mo]).length) Slot.unset).toArray = ls at hl ⊢
  have hl : lv_has ls 5 [(0, .ref mo)] := hl
  have hin5 : ∀ w ∈ u_ws RX5 TX5 9, w ∈ wsX5_mean := by decide +kernel
  have cuts : ∀ fuel : Nat, (∀ (j : Nat), (j ≤ L.2.2.2.2.length) → (L.1 ≠ 1 → j = 0) → (L.2.2.2.2.length - j) < fuel → ∀ (ls : Array Slot), lv_has ls 5 [(0, .ref mo), (1, .double (msum L.2.2.2.2 j)), (3, .int (nI (mcnt L.2.2.2.2 j))), (4, .int (nI (40 + j)))] → W zp zl ze ({ frames := 1, cells := 0, slots := 0, locals := 21 }) zs zm [.ref mo].toArray zb zt zc zs.heap [] 0 0 (MQ zb (vp_Sd (fun r => r = if L.1 = 1 then mean L.2.2.2.2 else 13830554455654793216)) [.ref mo].toArray zs 0 0 (fun _ => False)) (F0 zm 8 ls [])) := by
    intro fuel
    induction fuel with
    | zero => exact (by intros; exact absurd (by assumption) (Nat.not_lt_zero _))
    | succ fuel ih =>
      intro j hj hj0 hm ls hl
      have qm := mcnt_le L.2.2.2.2 j
      refine lv_aload_n hx hb dX5_mean_8 rfl (lv_at hl 0 rfl) ?_
      refine lv_iload hx hb dX5_mean_9 (lv_at hl 3 rfl) ?_
      refine lv_bipush (v := nI 40) hx hb dX5_mean_11 (by decide) ?_
      refine lv_isub hx hb dX5_mean_13 ?_
      refine r_i (v := nI (40 + j - 40)) (pk_sub (by omega)) ?_
      refine r_i (v := nI j) (congrArg nI (by omega)) ?_
      refine r_callVi (As := [.int (nI j)]) (rest := []) ⟨hx, hb, hml, hown, hts⟩ (c_X5_isCell (zl := zl) (D := D) (cI := cI) (cD := cD) mo n vk vc vt vn vr vs ve vp ep L j (by first | assumption | omega) (by first | assumption | omega) (by first | assumption | omega) (by first | assumption | omega) (by omega)) (cwV 1 hts gX5_mean_X5_isCell rfl rfl rfl (by decide +kernel) ⟨Nat.le_of_ble_eq_true rfl, Nat.le_of_ble_eq_true rfl⟩) hK hN hP hD [0, 2] rfl rfl 0 rfl rfl rfl hl.1 rfl (Nat.le_of_ble_eq_true rfl) dX5_mean_14 ⟨Nat.le_of_ble_eq_true rfl, Nat.le_of_ble_eq_true rfl⟩ (fun r_1 h_1 => ?_)
      obtain rfl := h_1
      have t9 := tf_lt (L.1 = 1 ∧ j < L.2.2.2.2.length)
      refine rz_eq (tgt := 76) hx hb dX5_mean_17 (by decide) (by omega) (fun c_17 => ?_) (fun c_17 => ?_)
      · skip
        have h9 := tf_of0 c_17
        refine lv_iload_n hx hb dX5_mean_76 rfl (lv_at hl 2 rfl) ?_
        refine rz_le (tgt := 87) hx hb dX5_mean_77 (by decide) (by omega) (fun c_77 => ?_) (fun c_77 => ?_)
        · skip
          refine lv_ldc2d (v := 13830554455654793216) hx hb hown (hts (.constantDouble RX5 77 (13830554455654793216)) (by decide +kernel)) dX5_mean_87 ?_
          exact W.dret (v := 13830554455654793216) hx hb hr (fun tz htz hWz => ⟨_, rfl, mean_none h9 hj hj0 c_77, htz⟩) (fun _ h => absurd h List.not_mem_nil) dX5_mean_90
        · skip
          refine lv_dload_n hx hb dX5_mean_80 rfl (lv_at hl 1 rfl) ?_
          refine lv_iload_n hx hb dX5_mean_81 rfl (lv_at hl 2 rfl) ?_
          refine lv_i2d hx hb dX5_mean_82 ?_
          refine lv_ddiv hx hb dX5_mean_83 (vf_of (FP.Core.ddiv_out (msum_ok hF _) (FP.Core.i2d_fin _) (i2d_nz (by omega) (by omega)))) ?_
          refine lv_goto (tgt := 90) hx hb dX5_mean_84 (by decide) ?_
          exact W.dret (v := FP.ddiv (msum L.2.2.2.2 j) (FP.i2d (nI (mcnt L.2.2.2.2 j)))) hx hb hr (fun tz htz hWz => ⟨_, rfl, by (obtain rfl : j = L.2.2.2.2.length := by omega); rw [if_pos (by omega)]; unfold mean; rw [if_neg (by omega)], htz⟩) (fun _ h => absurd h List.not_mem_nil) dX5_mean_90
      · skip
        have h9 := tf_of1 c_17
        refine lv_aload_n hx hb dX5_mean_20 rfl (lv_at hl 0 rfl) ?_
        refine va_get (D := D) (ci := 5) (v := .ref vr) (C := RX5) (T := TX5) (N := 9) hx hb hts hin5 hown hK hP 0 rfl rfl 5 (by decide) (hts (.fieldLink RX5 22 "EpochSifterModel" "ranges" "[D") (by decide +kernel)) (fun _ h9 => h9) rfl dX5_mean_21 ?_
        refine lv_iload hx hb dX5_mean_24 (lv_at hl 3 rfl) ?_
        refine a_dld (v := (L.2.2.2.2.getD j c0).2.1) hx hb hK hP 1 1 rfl rfl (by omega) (by decide) ((hEL j (by omega)).2.1) dX5_mean_26 ?_
        refine lv_ldc2d (v := 13830554455654793216) hx hb hown (hts (.constantDouble RX5 77 (13830554455654793216)) (by decide +kernel)) dX5_mean_27 ?_
        refine lv_dcmp hx hb dX5_mean_30 ?_
        refine lv_if_eq (tgt := 46) hx hb dX5_mean_31 (by decide) (fun c_31 => ?_) (fun c_31 => ?_)
        · skip
          refine lv_dload_n hx hb dX5_mean_46 rfl (lv_at hl 1 rfl) ?_
          refine r_d (v := msum L.2.2.2.2 (j + 1)) (by show _ = if okq _ = true then _ else _; rw [okq_t (show isM _ from c_31)]; rfl) ?_
          refine lv_dstore_n (lv' := [(1, .double (msum L.2.2.2.2 (j + 1))), (0, .ref mo), (3, .int (nI (mcnt L.2.2.2.2 j))), (4, .int (nI (40 + j)))]) hx hb dX5_mean_47 rfl hl (by decide) rfl (fun ls hl => ?_)
          refine lv_aload_n hx hb dX5_mean_48 rfl (lv_at hl 1 rfl) ?_
          refine va_get (D := D) (ci := 5) (v := .ref vr) (C := RX5) (T := TX5) (N := 9) hx hb hts hin5 hown hK hP 0 rfl rfl 5 (by decide) (hts (.fieldLink RX5 22 "EpochSifterModel" "ranges" "[D") (by decide +kernel)) (fun _ h9 => h9) rfl dX5_mean_49 ?_
          refine lv_iload hx hb dX5_mean_52 (lv_at hl 3 rfl) ?_
          refine a_dld (v := (L.2.2.2.2.getD j c0).2.1) hx hb hK hP 1 1 rfl rfl (by omega) (by decide) ((hEL j (by omega)).2.1) dX5_mean_54 ?_
          refine lv_ldc2d (v := 13830554455654793216) hx hb hown (hts (.constantDouble RX5 77 (13830554455654793216)) (by decide +kernel)) dX5_mean_55 ?_
          refine lv_dcmp hx hb dX5_mean_58 ?_
          refine lv_if_eq (tgt := 68) hx hb dX5_mean_59 (by decide) (fun c_59 => ?_) (fun c_59 => ?_)
          · skip
            refine lv_iload_n hx hb dX5_mean_68 rfl (lv_at hl 2 rfl) ?_
            refine r_i (v := nI (mcnt L.2.2.2.2 (j + 1))) (congrArg nI (by show _ = if okq _ = true then _ else _; rw [okq_t (show isM _ from c_31)]; rfl)) ?_
            refine lv_istore_n (lv' := [(3, .int (nI (mcnt L.2.2.2.2 (j + 1)))), (1, .double (msum L.2.2.2.2 (j + 1))), (0, .ref mo), (4, .int (nI (40 + j)))]) hx hb dX5_mean_69 rfl hl (by decide) rfl (fun ls hl => ?_)
            refine lv_iinc (v := nI (40 + (j + 1))) (lv' := [(4, .int (nI (40 + (j + 1)))), (3, .int (nI (mcnt L.2.2.2.2 (j + 1)))), (1, .double (msum L.2.2.2.2 (j + 1))), (0, .ref mo)]) hx hb dX5_mean_70 hl (k := 3) rfl (nI_add _ _) (by decide) rfl (fun ls hl => ?_)
            refine lv_goto (tgt := 8) hx hb dX5_mean_73 (by decide) ?_
            exact ih (j + 1) (by first | assumption | omega) (fun z => absurd h9.1 z) (by omega) ls (lv_sub hl [3, 2, 1, 0] rfl)
          · exact absurd c_31 c_59
        · skip
          refine lv_dload_n hx hb dX5_mean_34 rfl (lv_at hl 1 rfl) ?_
          refine lv_aload_n hx hb dX5_mean_35 rfl (lv_at hl 0 rfl) ?_
          refine va_get (D := D) (ci := 5) (v := .ref vr) (C := RX5) (T := TX5) (N := 9) hx hb hts hin5 hown hK hP 0 rfl rfl 5 (by decide) (hts (.fieldLink RX5 22 "EpochSifterModel" "ranges" "[D") (by decide +kernel)) (fun _ h9 => h9) rfl dX5_mean_36 ?_
          refine lv_iload hx hb dX5_mean_39 (lv_at hl 3 rfl) ?_
          refine a_dld (v := (L.2.2.2.2.getD j c0).2.1) hx hb hK hP 1 1 rfl rfl (by omega) (by decide) ((hEL j (by omega)).2.1) dX5_mean_41 ?_
          refine lv_dadd hx hb dX5_mean_42 (vf_of (FP.Core.dadd_out (msum_ok hF j) (hF j))) ?_
          refine lv_goto (tgt := 47) hx hb dX5_mean_43 (by decide) ?_
          refine r_d (v := msum L.2.2.2.2 (j + 1)) (by show _ = if okq _ = true then _ else _; rw [okq_f (show ¬ isM _ from c_31)]; rfl) ?_
          refine lv_dstore_n (lv' := [(1, .double (msum L.2.2.2.2 (j + 1))), (0, .ref mo), (3, .int (nI (mcnt L.2.2.2.2 j))), (4, .int (nI (40 + j)))]) hx hb dX5_mean_47 rfl hl (by decide) rfl (fun ls hl => ?_)
          refine lv_aload_n hx hb dX5_mean_48 rfl (lv_at hl 1 rfl) ?_
          refine va_get (D := D) (ci := 5) (v := .ref vr) (C := RX5) (T := TX5) (N := 9) hx hb hts hin5 hown hK hP 0 rfl rfl 5 (by decide) (hts (.fieldLink RX5 22 "EpochSifterModel" "ranges" "[D") (by decide +kernel)) (fun _ h9 => h9) rfl dX5_mean_49 ?_
          refine lv_iload hx hb dX5_mean_52 (lv_at hl 3 rfl) ?_
          refine a_dld (v := (L.2.2.2.2.getD j c0).2.1) hx hb hK hP 1 1 rfl rfl (by omega) (by decide) ((hEL j (by omega)).2.1) dX5_mean_54 ?_
          refine lv_ldc2d (v := 13830554455654793216) hx hb hown (hts (.constantDouble RX5 77 (13830554455654793216)) (by decide +kernel)) dX5_mean_55 ?_
          refine lv_dcmp hx hb dX5_mean_58 ?_
          refine lv_if_eq (tgt := 68) hx hb dX5_mean_59 (by decide) (fun c_59 => ?_) (fun c_59 => ?_)
          · exact absurd c_59 c_31
          · skip
            refine lv_iload_n hx hb dX5_mean_62 rfl (lv_at hl 2 rfl) ?_
            refine lv_iconst (v := nI 1) hx hb dX5_mean_63 (by decide) ?_
            refine lv_iadd hx hb dX5_mean_64 ?_
            refine r_i (v := nI (mcnt L.2.2.2.2 j + 1)) (nI_add _ _) ?_
            refine lv_goto (tgt := 69) hx hb dX5_mean_65 (by decide) ?_
            refine r_i (v := nI (mcnt L.2.2.2.2 (j + 1))) (congrArg nI (by show _ = if okq _ = true then _ else _; rw [okq_f (show ¬ isM _ from c_31)]; rfl)) ?_
            refine lv_istore_n (lv' := [(3, .int (nI (mcnt L.2.2.2.2 (j + 1)))), (1, .double (msum L.2.2.2.2 (j + 1))), (0, .ref mo), (4, .int (nI (40 + j)))]) hx hb dX5_mean_69 rfl hl (by decide) rfl (fun ls hl => ?_)
            refine lv_iinc (v := nI (40 + (j + 1))) (lv' := [(4, .int (nI (40 + (j + 1)))), (3, .int (nI (mcnt L.2.2.2.2 (j + 1)))), (1, .double (msum L.2.2.2.2 (j + 1))), (0, .ref mo)]) hx hb dX5_mean_70 hl (k := 3) rfl (nI_add _ _) (by decide) rfl (fun ls hl => ?_)
            refine lv_goto (tgt := 8) hx hb dX5_mean_73 (by decide) ?_
            exact ih (j + 1) (by first | assumption | omega) (fun z => absurd h9.1 z) (by omega) ls (lv_sub hl [3, 2, 1, 0] rfl)
  refine lv_dconst0 hx hb dX5_mean_0 ?_
  refine lv_dstore_n (lv' := [(1, .double FP.dconst0), (0, .ref mo)]) hx hb dX5_mean_1 rfl hl (by decide) rfl (fun ls hl => ?_)
  refine lv_iconst (v := nI 0) hx hb dX5_mean_2 (by decide) ?_
  refine lv_istore_n (lv' := [(3, .int (nI 0)), (1, .double FP.dconst0), (0, .ref mo)]) hx hb dX5_mean_3 rfl hl (by decide) rfl (fun ls hl => ?_)
  refine lv_bipush (v := nI 40) hx hb dX5_mean_4 (by decide) ?_
  refine lv_istore (lv' := [(4, .int (nI 40)), (3, .int (nI 0)), (1, .double FP.dconst0), (0, .ref mo)]) hx hb dX5_mean_6 hl (by decide) rfl (fun ls hl => ?_)
  exact (cuts _) 0 (by first | assumption | omega) (fun _ => rfl) (Nat.lt_succ_self _) ls (lv_sub hl [3, 2, 1, 0] rfl)
set_option maxHeartbeats 4000000 in
set_option maxRecDepth 100000 in
/-- the fix -/
theorem c_X5_fix {zl : Launch} {D : va_G} {cI cD : ClassId} (mo : Nat) (n : Nat) (vk : Nat) (vc : Nat) (vt : Nat) (vn : Nat) (vr : Nat) (vs : Nat) (ve : Nat) (vp : Nat) (po : Nat → Int32) (P : Po) (hQ : RpP po P) : Ci zl yX5_fix wsX5_fix ({ frames := 0, cells := 0, slots := 0, locals := 0 }) D cI cD [.ref mo] [(mo, .inr (5, [.int (nI n), .ref vk, .ref vc, .ref vt, .ref vn, .ref vr, .ref vs, .ref ve, .ref vp])), (vp, .inl (cI, 5, .inl po))] (fun r => r = P.1) := by
  refine Met.ofW (cc := cX5_fix) (maxL := 1) (ret := (some .int)) (by decide) rfl ?_
  intro zp ze zs zm zargs zb zt zc zs₁ B hml hv
  obtain ⟨rfl, hP, hK, hD0, hN⟩ := hv
  have hx := B.exec
  have hb := B.bytes
  have hr := B.returns
  have hts := atoms_spec (ws := wsX5_fix) B.pre
  have hown : zs.vm.findClass RX5 = some zm.cls := findClass_of_methodNamed B.named
  have hlocks := B.notSynchronized
  have hD := inW_self hD0
  have hS : va_S (inW [(mo, .inr (5, [.int (nI n), .ref vk, .ref vc, .ref vt, .ref vn, .ref vr, .ref vs, .ref ve, .ref vp])), (vp, .inl (cI, 5, .inl po))]) zs.heap zs.heap [] := va_S.rf
  have hl := lv_entry [.ref mo] (n := 1) (Nat.le_of_ble_eq_true rfl)
  rw [lg_entry_eq]
  generalize (lg_sl [.ref mo] ++ List.replicate (1 - (lg_sl [.ref mo]).length) Slot.unset).toArray = ls at hl ⊢
  have hl : lv_has ls 1 [(0, .ref mo)] := hl
  have hin5 : ∀ w ∈ u_ws RX5 TX5 9, w ∈ wsX5_fix := by decide +kernel
  refine lv_aload_n hx hb dX5_fix_0 rfl (lv_at hl 0 rfl) ?_
  refine va_get (D := D) (ci := 5) (v := .ref vp) (C := RX5) (T := TX5) (N := 9) hx hb hts hin5 hown hK hP 0 rfl rfl 8 (by decide) (hts (.fieldLink RX5 32 "EpochSifterModel" "position" "[I") (by decide +kernel)) (fun _ h9 => h9) rfl dX5_fix_1 ?_
  refine lv_iconst (v := nI 4) hx hb dX5_fix_4 (by decide) ?_
  refine a_ild (v := P.1) hx hb hK hP 1 0 rfl rfl (by omega) (by decide) (hQ.2.2.2.2) dX5_fix_5 ?_
  exact W.iret (v := P.1) hx hb hr (fun tz htz hWz => ⟨_, rfl, by first | rfl | assumption | omega | simp_all, htz⟩) (fun _ h => absurd h List.not_mem_nil) dX5_fix_6
set_option maxHeartbeats 4000000 in
set_option maxRecDepth 100000 in
/-- a place -/
theorem c_X5_place {zl : Launch} {D : va_G} {cI cD : ClassId} (mo : Nat) (n : Nat) (vk : Nat) (vc : Nat) (vt : Nat) (vn : Nat) (vr : Nat) (vs : Nat) (ve : Nat) (vp : Nat) (po : Nat → Int32) (P : Po) (j : Nat) (hQ : RpP po P) (hj : j < 2 ^ 31) : Cd zl yX5_place wsX5_place ({ frames := 0, cells := 0, slots := 0, locals := 0 }) D cI cD [.ref mo, .int (nI j)] [(mo, .inr (5, [.int (nI n), .ref vk, .ref vc, .ref vt, .ref vn, .ref vr, .ref vs, .ref ve, .ref vp])), (vp, .inl (cI, 5, .inl po))] (fun r => r = if P.1 = 0 then FP.dconst0 else if j = 0 then FP.dmul (FP.i2d P.2.2.1) 4502148214488346440 else if j = 1 then FP.dmul (FP.i2d P.2.2.2.1) 4502148214488346440 else if j = 2 then FP.dmul (FP.i2d P.2.2.2.2) 4562254508917369340 else FP.dconst0) := by
  refine Met.ofW (cc := cX5_place) (maxL := 2) (ret := (some .double)) (by decide) rfl ?_
  intro zp ze zs zm zargs zb zt zc zs₁ B hml hv
  obtain ⟨rfl, hP, hK, hD0, hN⟩ := hv
  have hx := B.exec
  have hb := B.bytes
  have hr := B.returns
  have hts := atoms_spec (ws := wsX5_place) B.pre
  have hown : zs.vm.findClass RX5 = some zm.cls := findClass_of_methodNamed B.named
  have hlocks := B.notSynchronized
  have hD := inW_self hD0
  have hS : va_S (inW [(mo, .inr (5, [.int (nI n), .ref vk, .ref vc, .ref vt, .ref vn, .ref vr, .ref vs, .ref ve, .ref vp])), (vp, .inl (cI, 5, .inl po))]) zs.heap zs.heap [] := va_S.rf
  have hl := lv_entry [.ref mo, .int (nI j)] (n := 2) (Nat.le_of_ble_eq_true rfl)
  rw [lg_entry_eq]
  generalize (lg_sl [.ref mo, .int (nI j)] ++ List.replicate (2 - (lg_sl [.ref mo, .int (nI j)]).length) Slot.unset).toArray = ls at hl ⊢
  have hl : lv_has ls 2 [(0, .ref mo), (1, .int (nI j))] := hl
  have hin5 : ∀ w ∈ u_ws RX5 TX5 9, w ∈ wsX5_place := by decide +kernel
  refine lv_aload_n hx hb dX5_place_0 rfl (lv_at hl 0 rfl) ?_
  refine va_get (D := D) (ci := 5) (v := .ref vp) (C := RX5) (T := TX5) (N := 9) hx hb hts hin5 hown hK hP 0 rfl rfl 8 (by decide) (hts (.fieldLink RX5 32 "EpochSifterModel" "position" "[I") (by decide +kernel)) (fun _ h9 => h9) rfl dX5_place_1 ?_
  refine lv_iconst (v := nI 4) hx hb dX5_place_4 (by decide) ?_
  refine a_ild (v := P.1) hx hb hK hP 1 0 rfl rfl (by omega) (by decide) (hQ.2.2.2.2) dX5_place_5 ?_
  refine lv_if_eq (tgt := 18) hx hb dX5_place_6 (by decide) (fun c_6 => ?_) (fun c_6 => ?_)
  · skip
    refine lv_dconst0 hx hb dX5_place_18 ?_
    exact W.dret (v := FP.dconst0) hx hb hr (fun tz htz hWz => ⟨_, rfl, by first | rw [if_pos c_6] | rw [if_neg c_6, if_neg (by omega), if_neg (by omega), if_neg (by omega)], htz⟩) (fun _ h => absurd h List.not_mem_nil) dX5_place_19
  · skip
    refine lv_iload_n hx hb dX5_place_9 rfl (lv_at hl 1 rfl) ?_
    refine rz_lt (tgt := 18) hx hb dX5_place_10 (by decide) (by omega) ?_
    refine lv_iload_n hx hb dX5_place_13 rfl (lv_at hl 1 rfl) ?_
    refine lv_iconst (v := nI 2) hx hb dX5_place_14 (by decide) ?_
    refine rn_le (tgt := 20) hx hb dX5_place_15 (by decide) (by omega) (by omega) (fun c_15 => ?_) (fun c_15 => ?_)
    · skip
      refine lv_iload_n hx hb dX5_place_20 rfl (lv_at hl 1 rfl) ?_
      refine lv_iconst (v := nI 2) hx hb dX5_place_21 (by decide) ?_
      refine rn_ge (tgt := 41) hx hb dX5_place_22 (by decide) (by omega) (by omega) (fun c_22 => ?_) (fun c_22 => ?_)
      · skip
        refine lv_aload_n hx hb dX5_place_41 rfl (lv_at hl 0 rfl) ?_
        refine va_get (D := D) (ci := 5) (v := .ref vp) (C := RX5) (T := TX5) (N := 9) hx hb hts hin5 hown hK hP 0 rfl rfl 8 (by decide) (hts (.fieldLink RX5 32 "EpochSifterModel" "position" "[I") (by decide +kernel)) (fun _ h9 => h9) rfl dX5_place_42 ?_
        refine lv_iconst (v := nI 3) hx hb dX5_place_45 (by decide) ?_
        refine a_ild (v := P.2.2.2.2) hx hb hK hP 1 0 rfl rfl (by omega) (by decide) (hQ.2.2.2.1) dX5_place_46 ?_
        refine lv_i2d hx hb dX5_place_47 ?_
        refine lv_ldc2d (v := 4562254508917369340) hx hb hown (hts (.constantDouble RX5 117 (4562254508917369340)) (by decide +kernel)) dX5_place_48 ?_
        refine lv_dmul hx hb dX5_place_51 (vf_mul2 _) ?_
        exact W.dret (v := FP.dmul (FP.i2d P.2.2.2.2) 4562254508917369340) hx hb hr (fun tz htz hWz => ⟨_, rfl, by rw [if_neg c_6, if_neg (by omega), if_neg (by omega), if_pos (by omega)], htz⟩) (fun _ h => absurd h List.not_mem_nil) dX5_place_52
      · skip
        refine lv_aload_n hx hb dX5_place_25 rfl (lv_at hl 0 rfl) ?_
        refine va_get (D := D) (ci := 5) (v := .ref vp) (C := RX5) (T := TX5) (N := 9) hx hb hts hin5 hown hK hP 0 rfl rfl 8 (by decide) (hts (.fieldLink RX5 32 "EpochSifterModel" "position" "[I") (by decide +kernel)) (fun _ h9 => h9) rfl dX5_place_26 ?_
        refine lv_iconst (v := nI 1) hx hb dX5_place_29 (by decide) ?_
        refine lv_iload_n hx hb dX5_place_30 rfl (lv_at hl 1 rfl) ?_
        refine lv_iadd hx hb dX5_place_31 ?_
        refine r_i (v := nI (1 + j)) (nI_add _ _) ?_
        refine a_ild (v := po (1 + j)) hx hb hK hP 1 0 rfl rfl (by omega) (by decide) (rfl) dX5_place_32 ?_
        refine lv_i2d hx hb dX5_place_33 ?_
        refine lv_ldc2d (v := 4502148214488346440) hx hb hown (hts (.constantDouble RX5 115 (4502148214488346440)) (by decide +kernel)) dX5_place_34 ?_
        refine lv_dmul hx hb dX5_place_37 (vf_mul1 _) ?_
        refine lv_goto (tgt := 52) hx hb dX5_place_38 (by decide) ?_
        exact W.dret (v := FP.dmul (FP.i2d (po (1 + j))) 4502148214488346440) hx hb hr (fun tz htz hWz => ⟨_, rfl, by rcases (show j = 0 ∨ j = 1 by omega) with rfl | rfl <;> rw [if_neg c_6] <;> first | (rw [if_pos rfl]; exact congrArg (fun z => FP.dmul (FP.i2d z) 4502148214488346440) hQ.2.1) | (rw [if_neg (by decide), if_pos rfl]; exact congrArg (fun z => FP.dmul (FP.i2d z) 4502148214488346440) hQ.2.2.1), htz⟩) (fun _ h => absurd h List.not_mem_nil) dX5_place_52
    · skip
      refine lv_dconst0 hx hb dX5_place_18 ?_
      exact W.dret (v := FP.dconst0) hx hb hr (fun tz htz hWz => ⟨_, rfl, by first | rw [if_pos c_6] | rw [if_neg c_6, if_neg (by omega), if_neg (by omega), if_neg (by omega)], htz⟩) (fun _ h => absurd h List.not_mem_nil) dX5_place_19
set_option maxHeartbeats 4000000 in
set_option maxRecDepth 100000 in
/-- no place -/
theorem c_X5_place_no {zl : Launch} {D : va_G} {cI cD : ClassId} (mo : Nat) (n : Nat) (vk : Nat) (vc : Nat) (vt : Nat) (vn : Nat) (vr : Nat) (vs : Nat) (ve : Nat) (vp : Nat) (po : Nat → Int32) (P : Po) (j : Int32) (hQ : RpP po P) (hj : j < 0) : Cd zl yX5_place wsX5_place ({ frames := 0, cells := 0, slots := 0, locals := 0 }) D cI cD [.ref mo, .int j] [(mo, .inr (5, [.int (nI n), .ref vk, .ref vc, .ref vt, .ref vn, .ref vr, .ref vs, .ref ve, .ref vp])), (vp, .inl (cI, 5, .inl po))] (fun r => r = FP.dconst0) := by
  refine Met.ofW (cc := cX5_place) (maxL := 2) (ret := (some .double)) (by decide) rfl ?_
  intro zp ze zs zm zargs zb zt zc zs₁ B hml hv
  obtain ⟨rfl, hP, hK, hD0, hN⟩ := hv
  have hx := B.exec
  have hb := B.bytes
  have hr := B.returns
  have hts := atoms_spec (ws := wsX5_place) B.pre
  have hown : zs.vm.findClass RX5 = some zm.cls := findClass_of_methodNamed B.named
  have hlocks := B.notSynchronized
  have hD := inW_self hD0
  have hS : va_S (inW [(mo, .inr (5, [.int (nI n), .ref vk, .ref vc, .ref vt, .ref vn, .ref vr, .ref vs, .ref ve, .ref vp])), (vp, .inl (cI, 5, .inl po))]) zs.heap zs.heap [] := va_S.rf
  have hl := lv_entry [.ref mo, .int j] (n := 2) (Nat.le_of_ble_eq_true rfl)
  rw [lg_entry_eq]
  generalize (lg_sl [.ref mo, .int j] ++ List.replicate (2 - (lg_sl [.ref mo, .int j]).length) Slot.unset).toArray = ls at hl ⊢
  have hl : lv_has ls 2 [(0, .ref mo), (1, .int j)] := hl
  have hin5 : ∀ w ∈ u_ws RX5 TX5 9, w ∈ wsX5_place := by decide +kernel
  refine lv_aload_n hx hb dX5_place_0 rfl (lv_at hl 0 rfl) ?_
  refine va_get (D := D) (ci := 5) (v := .ref vp) (C := RX5) (T := TX5) (N := 9) hx hb hts hin5 hown hK hP 0 rfl rfl 8 (by decide) (hts (.fieldLink RX5 32 "EpochSifterModel" "position" "[I") (by decide +kernel)) (fun _ h9 => h9) rfl dX5_place_1 ?_
  refine lv_iconst (v := nI 4) hx hb dX5_place_4 (by decide) ?_
  refine a_ild (v := P.1) hx hb hK hP 1 0 rfl rfl (by omega) (by decide) (hQ.2.2.2.2) dX5_place_5 ?_
  refine lv_if_eq (tgt := 18) hx hb dX5_place_6 (by decide) (fun c_6 => ?_) (fun c_6 => ?_)
  · skip
    refine lv_dconst0 hx hb dX5_place_18 ?_
    exact W.dret (v := FP.dconst0) hx hb hr (fun tz htz hWz => ⟨_, rfl, by first | rfl | assumption | omega | simp_all, htz⟩) (fun _ h => absurd h List.not_mem_nil) dX5_place_19
  · skip
    refine lv_iload_n hx hb dX5_place_9 rfl (lv_at hl 1 rfl) ?_
    refine lv_if_lt (tgt := 18) hx hb dX5_place_10 (by decide) (fun c_10 => ?_) (fun c_10 => ?_)
    · skip
      refine lv_dconst0 hx hb dX5_place_18 ?_
      exact W.dret (v := FP.dconst0) hx hb hr (fun tz htz hWz => ⟨_, rfl, by first | rfl | assumption | omega | simp_all, htz⟩) (fun _ h => absurd h List.not_mem_nil) dX5_place_19
    · exact absurd hj c_10
set_option maxHeartbeats 4000000 in
set_option maxRecDepth 100000 in
/-- a raw number -/
theorem c_X5_raw {zl : Launch} {D : va_G} {cI cD : ClassId} (mo : Nat) (n : Nat) (vk : Nat) (vc : Nat) (vt : Nat) (vn : Nat) (vr : Nat) (vs : Nat) (ve : Nat) (vp : Nat) (po : Nat → Int32) (P : Po) (j : Nat) (hQ : RpP po P) (hj : j < 2 ^ 31) : Ci zl yX5_raw wsX5_raw ({ frames := 0, cells := 0, slots := 0, locals := 0 }) D cI cD [.ref mo, .int (nI j)] [(mo, .inr (5, [.int (nI n), .ref vk, .ref vc, .ref vt, .ref vn, .ref vr, .ref vs, .ref ve, .ref vp])), (vp, .inl (cI, 5, .inl po))] (fun r => r = if 0 < P.1 then (if j = 0 then P.2.1 else if j = 1 then P.2.2.1 else if j = 2 then P.2.2.2.1 else if j = 3 then P.2.2.2.2 else nI 0) else nI 0) := by
  refine Met.ofW (cc := cX5_raw) (maxL := 2) (ret := (some .int)) (by decide) rfl ?_
  intro zp ze zs zm zargs zb zt zc zs₁ B hml hv
  obtain ⟨rfl, hP, hK, hD0, hN⟩ := hv
  have hx := B.exec
  have hb := B.bytes
  have hr := B.returns
  have hts := atoms_spec (ws := wsX5_raw) B.pre
  have hown : zs.vm.findClass RX5 = some zm.cls := findClass_of_methodNamed B.named
  have hlocks := B.notSynchronized
  have hD := inW_self hD0
  have hS : va_S (inW [(mo, .inr (5, [.int (nI n), .ref vk, .ref vc, .ref vt, .ref vn, .ref vr, .ref vs, .ref ve, .ref vp])), (vp, .inl (cI, 5, .inl po))]) zs.heap zs.heap [] := va_S.rf
  have hl := lv_entry [.ref mo, .int (nI j)] (n := 2) (Nat.le_of_ble_eq_true rfl)
  rw [lg_entry_eq]
  generalize (lg_sl [.ref mo, .int (nI j)] ++ List.replicate (2 - (lg_sl [.ref mo, .int (nI j)]).length) Slot.unset).toArray = ls at hl ⊢
  have hl : lv_has ls 2 [(0, .ref mo), (1, .int (nI j))] := hl
  have hin5 : ∀ w ∈ u_ws RX5 TX5 9, w ∈ wsX5_raw := by decide +kernel
  refine lv_aload_n hx hb dX5_raw_0 rfl (lv_at hl 0 rfl) ?_
  refine va_get (D := D) (ci := 5) (v := .ref vp) (C := RX5) (T := TX5) (N := 9) hx hb hts hin5 hown hK hP 0 rfl rfl 8 (by decide) (hts (.fieldLink RX5 32 "EpochSifterModel" "position" "[I") (by decide +kernel)) (fun _ h9 => h9) rfl dX5_raw_1 ?_
  refine lv_iconst (v := nI 4) hx hb dX5_raw_4 (by decide) ?_
  refine a_ild (v := P.1) hx hb hK hP 1 0 rfl rfl (by omega) (by decide) (hQ.2.2.2.2) dX5_raw_5 ?_
  refine lv_if_le (tgt := 27) hx hb dX5_raw_6 (by decide) (fun c_6 => ?_) (fun c_6 => ?_)
  · skip
    refine lv_iconst (v := nI 0) hx hb dX5_raw_27 (by decide) ?_
    exact W.iret (v := nI 0) hx hb hr (fun tz htz hWz => ⟨_, rfl, by first | rw [if_neg (Int32.not_lt.mpr c_6)] | rw [if_pos (Int32.not_le.mp c_6), if_neg (by omega), if_neg (by omega), if_neg (by omega), if_neg (by omega)], htz⟩) (fun _ h => absurd h List.not_mem_nil) dX5_raw_28
  · skip
    refine lv_iload_n hx hb dX5_raw_9 rfl (lv_at hl 1 rfl) ?_
    refine rz_lt (tgt := 27) hx hb dX5_raw_10 (by decide) (by omega) ?_
    refine lv_iload_n hx hb dX5_raw_13 rfl (lv_at hl 1 rfl) ?_
    refine lv_iconst (v := nI 4) hx hb dX5_raw_14 (by decide) ?_
    refine rn_ge (tgt := 27) hx hb dX5_raw_15 (by decide) (by omega) (by omega) (fun c_15 => ?_) (fun c_15 => ?_)
    · skip
      refine lv_iconst (v := nI 0) hx hb dX5_raw_27 (by decide) ?_
      exact W.iret (v := nI 0) hx hb hr (fun tz htz hWz => ⟨_, rfl, by first | rw [if_neg (Int32.not_lt.mpr c_6)] | rw [if_pos (Int32.not_le.mp c_6), if_neg (by omega), if_neg (by omega), if_neg (by omega), if_neg (by omega)], htz⟩) (fun _ h => absurd h List.not_mem_nil) dX5_raw_28
    · skip
      refine lv_aload_n hx hb dX5_raw_18 rfl (lv_at hl 0 rfl) ?_
      refine va_get (D := D) (ci := 5) (v := .ref vp) (C := RX5) (T := TX5) (N := 9) hx hb hts hin5 hown hK hP 0 rfl rfl 8 (by decide) (hts (.fieldLink RX5 32 "EpochSifterModel" "position" "[I") (by decide +kernel)) (fun _ h9 => h9) rfl dX5_raw_19 ?_
      refine lv_iload_n hx hb dX5_raw_22 rfl (lv_at hl 1 rfl) ?_
      refine a_ild (v := po j) hx hb hK hP 1 0 rfl rfl (by omega) (by decide) (rfl) dX5_raw_23 ?_
      refine lv_goto (tgt := 28) hx hb dX5_raw_24 (by decide) ?_
      exact W.iret (v := po j) hx hb hr (fun tz htz hWz => ⟨_, rfl, by rcases (show j = 0 ∨ j = 1 ∨ j = 2 ∨ j = 3 by omega) with rfl | rfl | rfl | rfl <;> rw [if_pos (Int32.not_le.mp c_6)] <;> first | exact hQ.1 | exact hQ.2.1 | exact hQ.2.2.1 | exact hQ.2.2.2.1, htz⟩) (fun _ h => absurd h List.not_mem_nil) dX5_raw_28
set_option maxHeartbeats 4000000 in
set_option maxRecDepth 100000 in
/-- no raw number -/
theorem c_X5_raw_no {zl : Launch} {D : va_G} {cI cD : ClassId} (mo : Nat) (n : Nat) (vk : Nat) (vc : Nat) (vt : Nat) (vn : Nat) (vr : Nat) (vs : Nat) (ve : Nat) (vp : Nat) (po : Nat → Int32) (P : Po) (j : Int32) (hQ : RpP po P) (hj : j < 0) : Ci zl yX5_raw wsX5_raw ({ frames := 0, cells := 0, slots := 0, locals := 0 }) D cI cD [.ref mo, .int j] [(mo, .inr (5, [.int (nI n), .ref vk, .ref vc, .ref vt, .ref vn, .ref vr, .ref vs, .ref ve, .ref vp])), (vp, .inl (cI, 5, .inl po))] (fun r => r = nI 0) := by
  refine Met.ofW (cc := cX5_raw) (maxL := 2) (ret := (some .int)) (by decide) rfl ?_
  intro zp ze zs zm zargs zb zt zc zs₁ B hml hv
  obtain ⟨rfl, hP, hK, hD0, hN⟩ := hv
  have hx := B.exec
  have hb := B.bytes
  have hr := B.returns
  have hts := atoms_spec (ws := wsX5_raw) B.pre
  have hown : zs.vm.findClass RX5 = some zm.cls := findClass_of_methodNamed B.named
  have hlocks := B.notSynchronized
  have hD := inW_self hD0
  have hS : va_S (inW [(mo, .inr (5, [.int (nI n), .ref vk, .ref vc, .ref vt, .ref vn, .ref vr, .ref vs, .ref ve, .ref vp])), (vp, .inl (cI, 5, .inl po))]) zs.heap zs.heap [] := va_S.rf
  have hl := lv_entry [.ref mo, .int j] (n := 2) (Nat.le_of_ble_eq_true rfl)
  rw [lg_entry_eq]
  generalize (lg_sl [.ref mo, .int j] ++ List.replicate (2 - (lg_sl [.ref mo, .int j]).length) Slot.unset).toArray = ls at hl ⊢
  have hl : lv_has ls 2 [(0, .ref mo), (1, .int j)] := hl
  have hin5 : ∀ w ∈ u_ws RX5 TX5 9, w ∈ wsX5_raw := by decide +kernel
  refine lv_aload_n hx hb dX5_raw_0 rfl (lv_at hl 0 rfl) ?_
  refine va_get (D := D) (ci := 5) (v := .ref vp) (C := RX5) (T := TX5) (N := 9) hx hb hts hin5 hown hK hP 0 rfl rfl 8 (by decide) (hts (.fieldLink RX5 32 "EpochSifterModel" "position" "[I") (by decide +kernel)) (fun _ h9 => h9) rfl dX5_raw_1 ?_
  refine lv_iconst (v := nI 4) hx hb dX5_raw_4 (by decide) ?_
  refine a_ild (v := P.1) hx hb hK hP 1 0 rfl rfl (by omega) (by decide) (hQ.2.2.2.2) dX5_raw_5 ?_
  refine lv_if_le (tgt := 27) hx hb dX5_raw_6 (by decide) (fun c_6 => ?_) (fun c_6 => ?_)
  · skip
    refine lv_iconst (v := nI 0) hx hb dX5_raw_27 (by decide) ?_
    exact W.iret (v := nI 0) hx hb hr (fun tz htz hWz => ⟨_, rfl, by first | rfl | assumption | omega | simp_all, htz⟩) (fun _ h => absurd h List.not_mem_nil) dX5_raw_28
  · skip
    refine lv_iload_n hx hb dX5_raw_9 rfl (lv_at hl 1 rfl) ?_
    refine lv_if_lt (tgt := 27) hx hb dX5_raw_10 (by decide) (fun c_10 => ?_) (fun c_10 => ?_)
    · skip
      refine lv_iconst (v := nI 0) hx hb dX5_raw_27 (by decide) ?_
      exact W.iret (v := nI 0) hx hb hr (fun tz htz hWz => ⟨_, rfl, by first | rfl | assumption | omega | simp_all, htz⟩) (fun _ h => absurd h List.not_mem_nil) dX5_raw_28
    · exact absurd hj c_10
