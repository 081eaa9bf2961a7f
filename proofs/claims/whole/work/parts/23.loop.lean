set_option maxHeartbeats 40000000 in
set_option maxRecDepth 100000 in
/-- THE LAW'S LOOP: both sides hold the same state -/
theorem law_loop {zp : Program} {zl : Launch} {ze : Env} {zs : State} {zm : MethodId} {zb : List Frame} {zt : Method} {zc : Code} {D : va_G} {cI cD : ClassId} {sb L : Nat} {xs : Nat → Int32} (hL : L ≤ 2048) (C0 : lw_At zp zs zm zt zc sb L xs) (hK : va_K D vwCl (tyK cI cD) zs) (hN : nestOk zs) : ∀ (fuel i : Nat), ∀ (w : Nat), ∀ (cn : Nat), ∀ (o : Nat), ∀ (oy : Nat), ∀ (a : Nat), ∀ (b : Nat), ∀ (e : Nat), ∀ (en : Nat), ∀ (er : Nat), ∀ (es : Nat), ∀ (e2 : Nat), ∀ (en2 : Nat), ∀ (er2 : Nat), ∀ (es2 : Nat), ∀ (q : Nat), ∀ (mo : Nat), ∀ (vk : Nat), ∀ (vc : Nat), ∀ (vt : Nat), ∀ (vn : Nat), ∀ (vr : Nat), ∀ (vs : Nat), ∀ (ve : Nat), ∀ (vp : Nat), ∀ (kc : Nat → Int32), ∀ (n : Nat), ∀ (f : Nat → Int32), ∀ (bs : List Nat), ∀ (x1 : Int32), ∀ (x2 : Int32), ∀ (x3 : Int32), ∀ (x4 : Int32), ∀ (x5 : Int32), ∀ (x6 : Int32), ∀ (x7 : Int32), ∀ (x8 : Int32), ∀ (x9 : Int32), ∀ (x10 : Int32), ∀ (fy : Nat → Int32), ∀ (ex : Nat), ∀ (tm : Int32), ∀ (sn : Int32), ∀ (z : Nat), ∀ (ob : Int32), ∀ (fN : Nat → Int32), ∀ (fR : Nat → UInt64), ∀ (fS : Nat → Int32), ∀ (cs : List Ce), ∀ (ex2 : Nat), ∀ (tm2 : Int32), ∀ (sn2 : Int32), ∀ (z2 : Nat), ∀ (ob2 : Int32), ∀ (fN2 : Nat → Int32), ∀ (fR2 : Nat → UInt64), ∀ (fS2 : Nat → Int32), ∀ (cs2 : List Ce), ∀ (p0 : Int32), ∀ (p1 : Int32), ∀ (p2 : Int32), ∀ (p3 : Int32), ∀ (p4 : Int32), ∀ (mf : Nat → Int32), ∀ (tb : Nat → Int32), ∀ (mN : Nat → Int32), ∀ (mR : Nat → UInt64), ∀ (mS : Nat → Int32), ∀ (ep : Nat → Int32), ∀ (po : Nat → Int32), (Rp f bs) → (Rp mf bs) → (bs.length = n) → (n ≤ 97) → (By bs) → (RpE fN fR fS cs) → (cs.length = z) → (z ≤ 40) → (ex ≤ 1) → (RpE fN2 fR2 fS2 cs2) → (cs2.length = z2) → (z2 ≤ 40) → (ex2 ≤ 1) → (Tb tb) → (RpM ep mN mR mS (ex, tm, sn, ob, cs) (ex2, tm2, sn2, ob2, cs2)) → (RpP po (p0, p1, p2, p3, p4)) → (IvS (ex, tm, sn, ob, cs) (ex2, tm2, sn2, ob2, cs2) (p0, p1, p2, p3, p4)) → i ≤ L + 4 → L + 8 - i < fuel → ∀ (H : Heap) (locs : List Loc), va_P D vwCl [(w, .inr (4, [.ref cn, .ref a, .ref o, .ref e, .ref e2, .ref q])), (cn, .inl (cI, 8, .inl kc)), (o, .inr (1, [.ref oy, .int x1, .int x2, .int x3, .int x4, .int x5, .int x6, .int x7, .int x8, .int x9, .int x10])), (oy, .inl (cI, 90, .inl fy)), (a, .inr (3, [.ref b, .int (nI n)])), (b, .inl (cI, 140, .inl f)), (e, .inr (0, [.ref en, .ref er, .ref es, .int (nI ex), .int tm, .int sn, .int (nI z), .int ob])), (en, .inl (cI, 40, .inl fN)), (er, .inl (cD, 40, .inr (.inr (.inr (.inl fR))))), (es, .inl (cI, 40, .inl fS)), (e2, .inr (0, [.ref en2, .ref er2, .ref es2, .int (nI ex2), .int tm2, .int sn2, .int (nI z2), .int ob2])), (en2, .inl (cI, 40, .inl fN2)), (er2, .inl (cD, 40, .inr (.inr (.inr (.inl fR2))))), (es2, .inl (cI, 40, .inl fS2)), (q, .inr (2, [.int p0, .int p1, .int p2, .int p3, .int p4])), (mo, .inr (5, [.int (nI n), .ref vk, .ref vc, .ref vt, .ref vn, .ref vr, .ref vs, .ref ve, .ref vp])), (vk, .inl (cI, 160, .inl mf)), (vc, .inl (cI, 8, .inl kc)), (vt, .inl (cI, 256, .inl tb)), (vn, .inl (cI, 80, .inl mN)), (vr, .inl (cD, 80, .inr (.inr (.inr (.inl mR))))), (vs, .inl (cI, 80, .inl mS)), (ve, .inl (cI, 16, .inl ep)), (vp, .inl (cI, 5, .inl po))] H → va_D (fun q : Nat => zs.heap.size ≤ q) [(w, .inr (4, [.ref cn, .ref a, .ref o, .ref e, .ref e2, .ref q])), (cn, .inl (cI, 8, .inl kc)), (o, .inr (1, [.ref oy, .int x1, .int x2, .int x3, .int x4, .int x5, .int x6, .int x7, .int x8, .int x9, .int x10])), (oy, .inl (cI, 90, .inl fy)), (a, .inr (3, [.ref b, .int (nI n)])), (b, .inl (cI, 140, .inl f)), (e, .inr (0, [.ref en, .ref er, .ref es, .int (nI ex), .int tm, .int sn, .int (nI z), .int ob])), (en, .inl (cI, 40, .inl fN)), (er, .inl (cD, 40, .inr (.inr (.inr (.inl fR))))), (es, .inl (cI, 40, .inl fS)), (e2, .inr (0, [.ref en2, .ref er2, .ref es2, .int (nI ex2), .int tm2, .int sn2, .int (nI z2), .int ob2])), (en2, .inl (cI, 40, .inl fN2)), (er2, .inl (cD, 40, .inr (.inr (.inr (.inl fR2))))), (es2, .inl (cI, 40, .inl fS2)), (q, .inr (2, [.int p0, .int p1, .int p2, .int p3, .int p4])), (mo, .inr (5, [.int (nI n), .ref vk, .ref vc, .ref vt, .ref vn, .ref vr, .ref vs, .ref ve, .ref vp])), (vk, .inl (cI, 160, .inl mf)), (vc, .inl (cI, 8, .inl kc)), (vt, .inl (cI, 256, .inl tb)), (vn, .inl (cI, 80, .inl mN)), (vr, .inl (cD, 80, .inr (.inr (.inr (.inl mR))))), (vs, .inl (cI, 80, .inl mS)), (ve, .inl (cI, 16, .inl ep)), (vp, .inl (cI, 5, .inl po))] → va_S (fun q : Nat => zs.heap.size ≤ q) zs.heap H locs → ∀ (ls : Array Slot), lv_has ls 8 [(0, .ref sb), (1, .ref w), (2, .ref mo), (3, .int (nI i))] → W zp zl ze room_1 zs zm #[Value.ref sb] zb zt zc H locs 24 1212 (lw_Z zb #[Value.ref sb] zs) (F0 zm 18 ls []) := by
  obtain ⟨hx, hb, hr, hml, hown0, hts0, hX, hbl, hlocks, hgv⟩ := C0
  have hown : zs.vm.findClass RL = some zm.cls := hown0
  have hts : ∀ w ∈ wsL_law, w.before #[Value.ref sb] zs = true := fun w h => hts0 w (wsL_law_in w h)
  have hbA : ¬ (fun q : Nat => zs.heap.size ≤ q) sb := Nat.not_le.mpr hbl
  intro fuel
  induction fuel with
  | zero => intros; exact absurd (by assumption) (Nat.not_lt_zero _)
  | succ fuel ih =>
    intro i w cn o oy a b e en er es e2 en2 er2 es2 q mo vk vc vt vn vr vs ve vp kc n f bs x1 x2 x3 x4 x5 x6 x7 x8 x9 x10 fy ex tm sn z ob fN fR fS cs ex2 tm2 sn2 z2 ob2 fN2 fR2 fS2 cs2 p0 p1 p2 p3 p4 mf tb mN mR mS ep po hf hmf hbn hn hB hE hz hz40 hex hE2 hz2 hz402 hex2 hT hM hQ hV hi hm H locs hP hD hS ls hl
    refine lv_iload_n hx hb dL_law_18 rfl (lv_at hl 3 rfl) ?_
    refine lv_aload_n hx hb dL_law_19 rfl (lv_at hl 0 rfl) ?_
    refine va_slen hx hb hX hbl hbA hS dL_law_20 ?_
    refine lv_iconst (v := nI 4) hx hb dL_law_21 (by decide) ?_
    refine lv_isub hx hb dL_law_22 ?_
    refine r_i (v := nI L - nI 4) (rfl) ?_
    refine lv_icmp_gt (tgt := 462) hx hb dL_law_23 (by decide) (fun c_23 => ?_) (fun c_23 => ?_)
    · skip
      refine lv_iconst (v := nI 1) hx hb dL_law_462 (by decide) ?_
      refine va_forget (fun q hq => hS.2.2 q hq) ?_
      exact lw_ret hx hb hr hlocks dL_law_463
    · skip
      have hi4 : i + 4 ≤ L := Nat.le_of_not_lt (fun z => c_23 ((lw_cmp hL (by omega)).mpr z))
      refine lv_aload_n hx hb dL_law_26 rfl (lv_at hl 0 rfl) ?_
      refine lv_iload_n hx hb dL_law_27 rfl (lv_at hl 3 rfl) ?_
      refine s_ld hx hb hX hbl hbA hS (by omega) (by omega) dL_law_28 ?_
      refine lv_bipush (v := nI 15) hx hb dL_law_29 (by decide) ?_
      refine lv_iand hx hb dL_law_31 ?_
      refine r_i (v := nI ((xs i).toBitVec.toNat % 16)) (pk_and _ 4 (by decide)) ?_
      have hti := nI_toInt (n := (xs i).toBitVec.toNat % 16) (by omega)
      rcases (show (nI ((xs i).toBitVec.toNat % 16)).toInt < 0 ∨ 11 < (nI ((xs i).toBitVec.toNat % 16)).toInt ∨ (nI ((xs i).toBitVec.toNat % 16)).toInt = 0 ∨ (nI ((xs i).toBitVec.toNat % 16)).toInt = 1 ∨ (nI ((xs i).toBitVec.toNat % 16)).toInt = 2 ∨ (nI ((xs i).toBitVec.toNat % 16)).toInt = 3 ∨ (nI ((xs i).toBitVec.toNat % 16)).toInt = 4 ∨ (nI ((xs i).toBitVec.toNat % 16)).toInt = 5 ∨ (nI ((xs i).toBitVec.toNat % 16)).toInt = 6 ∨ (nI ((xs i).toBitVec.toNat % 16)).toInt = 7 ∨ (nI ((xs i).toBitVec.toNat % 16)).toInt = 8 ∨ (nI ((xs i).toBitVec.toNat % 16)).toInt = 9 ∨ (nI ((xs i).toBitVec.toNat % 16)).toInt = 10 ∨ (nI ((xs i).toBitVec.toNat % 16)).toInt = 11 from by omega) with sw32 | sw32 | sw32 | sw32 | sw32 | sw32 | sw32 | sw32 | sw32 | sw32 | sw32 | sw32 | sw32 | sw32
      · refine lv_tableOut (tgt := 456) hx hb dL_law_32 (Or.inl sw32) (by decide) ?_
        refine lv_iinc (v := nI (i + 4)) (lv' := [(3, .int (nI (i + 4))), (0, .ref sb), (1, .ref w), (2, .ref mo)]) hx hb dL_law_456 hl (k := 3) rfl (nI_add _ _) (by decide) rfl (fun ls hl => ?_)
        refine lv_goto (tgt := 18) hx hb dL_law_459 (by decide) ?_
        exact ih (i + 4) w cn o oy a b e en er es e2 en2 er2 es2 q mo vk vc vt vn vr vs ve vp kc n f bs x1 x2 x3 x4 x5 x6 x7 x8 x9 x10 fy ex tm sn z ob fN fR fS cs ex2 tm2 sn2 z2 ob2 fN2 fR2 fS2 cs2 p0 p1 p2 p3 p4 mf tb mN mR mS ep po hf hmf hbn hn hB hE hz hz40 hex hE2 hz2 hz402 hex2 hT hM hQ hV (by omega) (by omega) _ _ hP hD hS ls (lv_sub hl [1, 2, 3, 0] rfl)
      · refine lv_tableOut (tgt := 456) hx hb dL_law_32 (Or.inr sw32) (by decide) ?_
        refine lv_iinc (v := nI (i + 4)) (lv' := [(3, .int (nI (i + 4))), (0, .ref sb), (1, .ref w), (2, .ref mo)]) hx hb dL_law_456 hl (k := 3) rfl (nI_add _ _) (by decide) rfl (fun ls hl => ?_)
        refine lv_goto (tgt := 18) hx hb dL_law_459 (by decide) ?_
        exact ih (i + 4) w cn o oy a b e en er es e2 en2 er2 es2 q mo vk vc vt vn vr vs ve vp kc n f bs x1 x2 x3 x4 x5 x6 x7 x8 x9 x10 fy ex tm sn z ob fN fR fS cs ex2 tm2 sn2 z2 ob2 fN2 fR2 fS2 cs2 p0 p1 p2 p3 p4 mf tb mN mR mS ep po hf hmf hbn hn hB hE hz hz40 hex hE2 hz2 hz402 hex2 hT hM hQ hV (by omega) (by omega) _ _ hP hD hS ls (lv_sub hl [1, 2, 3, 0] rfl)
      · refine lv_tableIn (tgt := 96) (off := 64) hx hb dL_law_32 (by omega) (by omega) (by rw [sw32]; rfl) (by decide) ?_
        refine lv_aload_n hx hb dL_law_96 rfl (lv_at hl 1 rfl) ?_
        refine lv_aload_n hx hb dL_law_97 rfl (lv_at hl 0 rfl) ?_
        refine lv_iload_n hx hb dL_law_98 rfl (lv_at hl 3 rfl) ?_
        refine lv_iconst (v := nI 1) hx hb dL_law_99 (by decide) ?_
        refine lv_iadd hx hb dL_law_100 ?_
        refine r_i (v := nI (i + 1)) (nI_add _ _) ?_
        refine s_ld hx hb hX hbl hbA hS (by omega) (by omega) dL_law_101 ?_
        refine lv_aload_n hx hb dL_law_102 rfl (lv_at hl 0 rfl) ?_
        refine lv_iload_n hx hb dL_law_103 rfl (lv_at hl 3 rfl) ?_
        refine lv_iconst (v := nI 2) hx hb dL_law_104 (by decide) ?_
        refine lv_iadd hx hb dL_law_105 ?_
        refine r_i (v := nI (i + 2)) (nI_add _ _) ?_
        refine s_ld hx hb hX hbl hbA hS (by omega) (by omega) dL_law_106 ?_
        by_cases hk : nI 1 ≤ xs (i + 2) ∧ xs (i + 2) ≤ nI 4
        · skip
          obtain ⟨k, hk1, hk2⟩ := four_ex hk
          refine r_i (v := nI k) (hk2) ?_
          refine x_callV (As := [.int (xs (i + 1)), .int (nI k)]) (rest := []) ⟨hx, hb, hml, hown, hts⟩ (c_X4_put (zl := zl) (D := D) (cI := cI) (cD := cD) w cn kc o oy x1 x2 x3 x4 x5 x6 x7 x8 x9 x10 fy a b n f bs e en er es ex tm sn z ob fN fR fS cs e2 en2 er2 es2 ex2 tm2 sn2 z2 ob2 fN2 fR2 fS2 cs2 q p0 p1 p2 p3 p4 (xs (i + 1)) k (by first | assumption | omega) (by first | assumption | omega) (by omega) (by first | assumption | omega) (by first | assumption | omega) (by first | assumption | omega) (by first | assumption | omega) (by first | assumption | omega) (by first | assumption | omega) (by first | assumption | omega) (by first | assumption | omega) (by first | assumption | omega) hk1) (cwV 2 hts gL_law_X4_put rfl rfl rfl (by decide +kernel) ⟨Nat.le_of_ble_eq_true rfl, Nat.le_of_ble_eq_true rfl⟩) hK hN hP hD hS [0, 1, 2, 3, 4, 5, 6, 7, 8, 9, 10, 11, 12, 13, 14] rfl rfl 0 rfl rfl rfl hl.1 rfl (Nat.le_of_ble_eq_true rfl) dL_law_107 ⟨Nat.le_of_ble_eq_true rfl, Nat.le_of_ble_eq_true rfl⟩ (fun v_1 w_1 H locs hr_1 hP hD hS => ?_)
          obtain ⟨co, exo, tmo, sno, zo, obo, fNo, fRo, fSo, cso, ex2o, tm2o, sn2o, z2o, ob2o, fN2o, fR2o, fS2o, cs2o, y1, y2, y3, y4, y5, y6, y7, y8, y9, y10, fyo, p0o, p1o, p2o, p3o, p4o, no, fo, bso, tko, rfl, rfl, d0, d1, d2, d3, d4, d5, d6, d7, d8, d9, d10, d11⟩ := hr_1
          refine W.eq (g2 := F0 zm 110 ls [.int (nI tko)]) rfl ?_
          have hP : va_P D vwCl [(w, .inr (4, [.ref cn, .ref a, .ref o, .ref e, .ref e2, .ref q])), (cn, .inl (cI, 8, .inl co)), (o, .inr (1, [.ref oy, .int y1, .int y2, .int y3, .int y4, .int y5, .int y6, .int y7, .int y8, .int y9, .int y10])), (oy, .inl (cI, 90, .inl fyo)), (a, .inr (3, [.ref b, .int (nI no)])), (b, .inl (cI, 140, .inl fo)), (e, .inr (0, [.ref en, .ref er, .ref es, .int (nI exo), .int tmo, .int sno, .int (nI zo), .int obo])), (en, .inl (cI, 40, .inl fNo)), (er, .inl (cD, 40, .inr (.inr (.inr (.inl fRo))))), (es, .inl (cI, 40, .inl fSo)), (e2, .inr (0, [.ref en2, .ref er2, .ref es2, .int (nI ex2o), .int tm2o, .int sn2o, .int (nI z2o), .int ob2o])), (en2, .inl (cI, 40, .inl fN2o)), (er2, .inl (cD, 40, .inr (.inr (.inr (.inl fR2o))))), (es2, .inl (cI, 40, .inl fS2o)), (q, .inr (2, [.int p0o, .int p1o, .int p2o, .int p3o, .int p4o])), (mo, .inr (5, [.int (nI n), .ref vk, .ref vc, .ref vt, .ref vn, .ref vr, .ref vs, .ref ve, .ref vp])), (vk, .inl (cI, 160, .inl mf)), (vc, .inl (cI, 8, .inl kc)), (vt, .inl (cI, 256, .inl tb)), (vn, .inl (cI, 80, .inl mN)), (vr, .inl (cD, 80, .inr (.inr (.inr (.inl mR))))), (vs, .inl (cI, 80, .inl mS)), (ve, .inl (cI, 16, .inl ep)), (vp, .inl (cI, 5, .inl po))] _ := hP
          have hD : va_D ((fun q : Nat => zs.heap.size ≤ q)) [(w, .inr (4, [.ref cn, .ref a, .ref o, .ref e, .ref e2, .ref q])), (cn, .inl (cI, 8, .inl co)), (o, .inr (1, [.ref oy, .int y1, .int y2, .int y3, .int y4, .int y5, .int y6, .int y7, .int y8, .int y9, .int y10])), (oy, .inl (cI, 90, .inl fyo)), (a, .inr (3, [.ref b, .int (nI no)])), (b, .inl (cI, 140, .inl fo)), (e, .inr (0, [.ref en, .ref er, .ref es, .int (nI exo), .int tmo, .int sno, .int (nI zo), .int obo])), (en, .inl (cI, 40, .inl fNo)), (er, .inl (cD, 40, .inr (.inr (.inr (.inl fRo))))), (es, .inl (cI, 40, .inl fSo)), (e2, .inr (0, [.ref en2, .ref er2, .ref es2, .int (nI ex2o), .int tm2o, .int sn2o, .int (nI z2o), .int ob2o])), (en2, .inl (cI, 40, .inl fN2o)), (er2, .inl (cD, 40, .inr (.inr (.inr (.inl fR2o))))), (es2, .inl (cI, 40, .inl fS2o)), (q, .inr (2, [.int p0o, .int p1o, .int p2o, .int p3o, .int p4o])), (mo, .inr (5, [.int (nI n), .ref vk, .ref vc, .ref vt, .ref vn, .ref vr, .ref vs, .ref ve, .ref vp])), (vk, .inl (cI, 160, .inl mf)), (vc, .inl (cI, 8, .inl kc)), (vt, .inl (cI, 256, .inl tb)), (vn, .inl (cI, 80, .inl mN)), (vr, .inl (cD, 80, .inr (.inr (.inr (.inl mR))))), (vs, .inl (cI, 80, .inl mS)), (ve, .inl (cI, 16, .inl ep)), (vp, .inl (cI, 5, .inl po))] := hD
          refine lv_aload_n hx hb dL_law_110 rfl (lv_at hl 2 rfl) ?_
          refine lv_aload_n hx hb dL_law_111 rfl (lv_at hl 0 rfl) ?_
          refine lv_iload_n hx hb dL_law_112 rfl (lv_at hl 3 rfl) ?_
          refine lv_iconst (v := nI 1) hx hb dL_law_113 (by decide) ?_
          refine lv_iadd hx hb dL_law_114 ?_
          refine r_i (v := nI (i + 1)) (nI_add _ _) ?_
          refine s_ld hx hb hX hbl hbA hS (by omega) (by omega) dL_law_115 ?_
          refine lv_aload_n hx hb dL_law_116 rfl (lv_at hl 0 rfl) ?_
          refine lv_iload_n hx hb dL_law_117 rfl (lv_at hl 3 rfl) ?_
          refine lv_iconst (v := nI 2) hx hb dL_law_118 (by decide) ?_
          refine lv_iadd hx hb dL_law_119 ?_
          refine r_i (v := nI (i + 2)) (nI_add _ _) ?_
          refine s_ld hx hb hX hbl hbA hS (by omega) (by omega) dL_law_120 ?_
          refine r_i (v := nI k) (hk2) ?_
          refine x_callV (As := [.int (xs (i + 1)), .int (nI k)]) (rest := [.int (nI tko)]) ⟨hx, hb, hml, hown, hts⟩ (c_X5_put (zl := zl) (D := D) (cI := cI) (cD := cD) mo n vk vc vt vn vr vs ve vp mf kc tb mN mR mS ep po bs (ex, tm, sn, ob, cs) (ex2, tm2, sn2, ob2, cs2) (p0, p1, p2, p3, p4) (xs (i + 1)) k hmf (by first | assumption | omega) (by omega) (by first | assumption | omega) (by first | assumption | omega) hM hQ hk1) (cwV 2 hts gL_law_X5_put rfl rfl rfl (by decide +kernel) ⟨Nat.le_of_ble_eq_true rfl, Nat.le_of_ble_eq_true rfl⟩) hK hN hP hD hS [15, 16, 17, 18, 19, 20, 21, 22, 23] rfl rfl 15 rfl rfl rfl hl.1 rfl (Nat.le_of_ble_eq_true rfl) dL_law_121 ⟨Nat.le_of_ble_eq_true rfl, Nat.le_of_ble_eq_true rfl⟩ (fun v_2 w_2 H locs hr_2 hP hD hS => ?_)
          obtain ⟨m_no, m_fo, m_co, m_fNo, m_fRo, m_fSo, m_epo, m_poo, m_bso, m_tko, m_Go, m_Lo, m_Po_, rfl, rfl, g0, g1, g2, g3, g4⟩ := hr_2
          refine W.eq (g2 := F0 zm 124 ls [.int (nI m_tko), .int (nI tko)]) rfl ?_
          have hP : va_P D vwCl [(w, .inr (4, [.ref cn, .ref a, .ref o, .ref e, .ref e2, .ref q])), (cn, .inl (cI, 8, .inl co)), (o, .inr (1, [.ref oy, .int y1, .int y2, .int y3, .int y4, .int y5, .int y6, .int y7, .int y8, .int y9, .int y10])), (oy, .inl (cI, 90, .inl fyo)), (a, .inr (3, [.ref b, .int (nI no)])), (b, .inl (cI, 140, .inl fo)), (e, .inr (0, [.ref en, .ref er, .ref es, .int (nI exo), .int tmo, .int sno, .int (nI zo), .int obo])), (en, .inl (cI, 40, .inl fNo)), (er, .inl (cD, 40, .inr (.inr (.inr (.inl fRo))))), (es, .inl (cI, 40, .inl fSo)), (e2, .inr (0, [.ref en2, .ref er2, .ref es2, .int (nI ex2o), .int tm2o, .int sn2o, .int (nI z2o), .int ob2o])), (en2, .inl (cI, 40, .inl fN2o)), (er2, .inl (cD, 40, .inr (.inr (.inr (.inl fR2o))))), (es2, .inl (cI, 40, .inl fS2o)), (q, .inr (2, [.int p0o, .int p1o, .int p2o, .int p3o, .int p4o])), (mo, .inr (5, [.int (nI m_no), .ref vk, .ref vc, .ref vt, .ref vn, .ref vr, .ref vs, .ref ve, .ref vp])), (vk, .inl (cI, 160, .inl m_fo)), (vc, .inl (cI, 8, .inl m_co)), (vt, .inl (cI, 256, .inl tb)), (vn, .inl (cI, 80, .inl m_fNo)), (vr, .inl (cD, 80, .inr (.inr (.inr (.inl m_fRo))))), (vs, .inl (cI, 80, .inl m_fSo)), (ve, .inl (cI, 16, .inl m_epo)), (vp, .inl (cI, 5, .inl m_poo))] _ := hP
          have hD : va_D ((fun q : Nat => zs.heap.size ≤ q)) [(w, .inr (4, [.ref cn, .ref a, .ref o, .ref e, .ref e2, .ref q])), (cn, .inl (cI, 8, .inl co)), (o, .inr (1, [.ref oy, .int y1, .int y2, .int y3, .int y4, .int y5, .int y6, .int y7, .int y8, .int y9, .int y10])), (oy, .inl (cI, 90, .inl fyo)), (a, .inr (3, [.ref b, .int (nI no)])), (b, .inl (cI, 140, .inl fo)), (e, .inr (0, [.ref en, .ref er, .ref es, .int (nI exo), .int tmo, .int sno, .int (nI zo), .int obo])), (en, .inl (cI, 40, .inl fNo)), (er, .inl (cD, 40, .inr (.inr (.inr (.inl fRo))))), (es, .inl (cI, 40, .inl fSo)), (e2, .inr (0, [.ref en2, .ref er2, .ref es2, .int (nI ex2o), .int tm2o, .int sn2o, .int (nI z2o), .int ob2o])), (en2, .inl (cI, 40, .inl fN2o)), (er2, .inl (cD, 40, .inr (.inr (.inr (.inl fR2o))))), (es2, .inl (cI, 40, .inl fS2o)), (q, .inr (2, [.int p0o, .int p1o, .int p2o, .int p3o, .int p4o])), (mo, .inr (5, [.int (nI m_no), .ref vk, .ref vc, .ref vt, .ref vn, .ref vr, .ref vs, .ref ve, .ref vp])), (vk, .inl (cI, 160, .inl m_fo)), (vc, .inl (cI, 8, .inl m_co)), (vt, .inl (cI, 256, .inl tb)), (vn, .inl (cI, 80, .inl m_fNo)), (vr, .inl (cD, 80, .inr (.inr (.inr (.inl m_fRo))))), (vs, .inl (cI, 80, .inl m_fSo)), (ve, .inl (cI, 16, .inl m_epo)), (vp, .inl (cI, 5, .inl m_poo))] := hD
          have heq := d0.trans g0.symm
          simp only [Prod.mk.injEq] at heq
          obtain ⟨rfl, rfl, rfl, rfl, rfl, rfl⟩ := heq
          obtain rfl : no = m_no := d2.symm.trans g2
          have hin := dl_inv (bs ++ wbs (xs (i + 1)) k).length (bs ++ wbs (xs (i + 1)) k) 0 (kc, (ex, tm, sn, ob, cs), (ex2, tm2, sn2, ob2, cs2), (p0, p1, p2, p3, p4)) (wbs_By _ hB k) hV
          rw [← d0] at hin
          refine lv_icmp_eq (tgt := 456) hx hb dL_law_124 (by decide) (fun c_124 => ?_) (fun c_124 => ?_)
          · skip
            refine lv_iinc (v := nI (i + 4)) (lv' := [(3, .int (nI (i + 4))), (0, .ref sb), (1, .ref w), (2, .ref mo)]) hx hb dL_law_456 hl (k := 3) rfl (nI_add _ _) (by decide) rfl (fun ls hl => ?_)
            refine lv_goto (tgt := 18) hx hb dL_law_459 (by decide) ?_
            exact ih (i + 4) w cn o oy a b e en er es e2 en2 er2 es2 q mo vk vc vt vn vr vs ve vp co no fo bso y1 y2 y3 y4 y5 y6 y7 y8 y9 y10 fyo exo tmo sno zo obo fNo fRo fSo cso ex2o tm2o sn2o z2o ob2o fN2o fR2o fS2o cs2o p0o p1o p2o p3o p4o m_fo tb m_fNo m_fRo m_fSo m_epo m_poo d1 g1 d2 (by have := cls0_len d3; omega) hin.1 d4 d5 d6 d7 d8 d9 d10 d11 hT g3 g4 hin.2 (by omega) (by omega) _ _ hP hD hS ls (lv_sub hl [1, 2, 3, 0] rfl)
          · exact absurd rfl c_124
        · skip
          refine r_callVi (As := [.int (xs (i + 1)), .int (xs (i + 2))]) (rest := []) ⟨hx, hb, hml, hown, hts⟩ (c_X4_put_no (zl := zl) (D := D) (cI := cI) (cD := cD) w (xs (i + 1)) (xs (i + 2)) (four_no hk)) (cwV 2 hts gL_law_X4_put rfl rfl rfl (by decide +kernel) ⟨Nat.le_of_ble_eq_true rfl, Nat.le_of_ble_eq_true rfl⟩) hK hN hP hD [] rfl rfl 0 rfl rfl rfl hl.1 rfl (Nat.le_of_ble_eq_true rfl) dL_law_107 ⟨Nat.le_of_ble_eq_true rfl, Nat.le_of_ble_eq_true rfl⟩ (fun r_3 h_3 => ?_)
          obtain rfl := h_3
          refine lv_aload_n hx hb dL_law_110 rfl (lv_at hl 2 rfl) ?_
          refine lv_aload_n hx hb dL_law_111 rfl (lv_at hl 0 rfl) ?_
          refine lv_iload_n hx hb dL_law_112 rfl (lv_at hl 3 rfl) ?_
          refine lv_iconst (v := nI 1) hx hb dL_law_113 (by decide) ?_
          refine lv_iadd hx hb dL_law_114 ?_
          refine r_i (v := nI (i + 1)) (nI_add _ _) ?_
          refine s_ld hx hb hX hbl hbA hS (by omega) (by omega) dL_law_115 ?_
          refine lv_aload_n hx hb dL_law_116 rfl (lv_at hl 0 rfl) ?_
          refine lv_iload_n hx hb dL_law_117 rfl (lv_at hl 3 rfl) ?_
          refine lv_iconst (v := nI 2) hx hb dL_law_118 (by decide) ?_
          refine lv_iadd hx hb dL_law_119 ?_
          refine r_i (v := nI (i + 2)) (nI_add _ _) ?_
          refine s_ld hx hb hX hbl hbA hS (by omega) (by omega) dL_law_120 ?_
          refine r_callVi (As := [.int (xs (i + 1)), .int (xs (i + 2))]) (rest := [.int (-1)]) ⟨hx, hb, hml, hown, hts⟩ (c_X5_put_no (zl := zl) (D := D) (cI := cI) (cD := cD) mo (xs (i + 1)) (xs (i + 2)) (four_no hk)) (cwV 2 hts gL_law_X5_put rfl rfl rfl (by decide +kernel) ⟨Nat.le_of_ble_eq_true rfl, Nat.le_of_ble_eq_true rfl⟩) hK hN hP hD [] rfl rfl 15 rfl rfl rfl hl.1 rfl (Nat.le_of_ble_eq_true rfl) dL_law_121 ⟨Nat.le_of_ble_eq_true rfl, Nat.le_of_ble_eq_true rfl⟩ (fun r_4 h_4 => ?_)
          obtain rfl := h_4
          refine lv_icmp_eq (tgt := 456) hx hb dL_law_124 (by decide) (fun c_124 => ?_) (fun c_124 => ?_)
          · skip
            refine lv_iinc (v := nI (i + 4)) (lv' := [(3, .int (nI (i + 4))), (0, .ref sb), (1, .ref w), (2, .ref mo)]) hx hb dL_law_456 hl (k := 3) rfl (nI_add _ _) (by decide) rfl (fun ls hl => ?_)
            refine lv_goto (tgt := 18) hx hb dL_law_459 (by decide) ?_
            exact ih (i + 4) w cn o oy a b e en er es e2 en2 er2 es2 q mo vk vc vt vn vr vs ve vp kc n f bs x1 x2 x3 x4 x5 x6 x7 x8 x9 x10 fy ex tm sn z ob fN fR fS cs ex2 tm2 sn2 z2 ob2 fN2 fR2 fS2 cs2 p0 p1 p2 p3 p4 mf tb mN mR mS ep po hf hmf hbn hn hB hE hz hz40 hex hE2 hz2 hz402 hex2 hT hM hQ hV (by omega) (by omega) _ _ hP hD hS ls (lv_sub hl [1, 2, 3, 0] rfl)
          · exact absurd rfl c_124
      · refine lv_tableIn (tgt := 129) (off := 97) hx hb dL_law_32 (by omega) (by omega) (by rw [sw32]; rfl) (by decide) ?_
        refine lv_aload_n hx hb dL_law_129 rfl (lv_at hl 1 rfl) ?_
        refine lv_aload_n hx hb dL_law_130 rfl (lv_at hl 0 rfl) ?_
        refine lv_iload_n hx hb dL_law_131 rfl (lv_at hl 3 rfl) ?_
        refine lv_iconst (v := nI 1) hx hb dL_law_132 (by decide) ?_
        refine lv_iadd hx hb dL_law_133 ?_
        refine r_i (v := nI (i + 1)) (nI_add _ _) ?_
        refine s_ld hx hb hX hbl hbA hS (by omega) (by omega) dL_law_134 ?_
        by_cases hj : xs (i + 1) < 0
        · skip
          refine r_callVi (As := [.int (xs (i + 1))]) (rest := []) ⟨hx, hb, hml, hown, hts⟩ (c_X4_count_no (zl := zl) (D := D) (cI := cI) (cD := cD) w (xs (i + 1)) hj) (cwV 1 hts gL_law_X4_count rfl rfl rfl (by decide +kernel) ⟨Nat.le_of_ble_eq_true rfl, Nat.le_of_ble_eq_true rfl⟩) hK hN hP hD [] rfl rfl 0 rfl rfl rfl hl.1 rfl (Nat.le_of_ble_eq_true rfl) dL_law_135 ⟨Nat.le_of_ble_eq_true rfl, Nat.le_of_ble_eq_true rfl⟩ (fun r_5 h_5 => ?_)
          obtain rfl := h_5
          refine lv_aload_n hx hb dL_law_138 rfl (lv_at hl 2 rfl) ?_
          refine lv_aload_n hx hb dL_law_139 rfl (lv_at hl 0 rfl) ?_
          refine lv_iload_n hx hb dL_law_140 rfl (lv_at hl 3 rfl) ?_
          refine lv_iconst (v := nI 1) hx hb dL_law_141 (by decide) ?_
          refine lv_iadd hx hb dL_law_142 ?_
          refine r_i (v := nI (i + 1)) (nI_add _ _) ?_
          refine s_ld hx hb hX hbl hbA hS (by omega) (by omega) dL_law_143 ?_
          refine r_callVi (As := [.int (xs (i + 1))]) (rest := [.int (-1)]) ⟨hx, hb, hml, hown, hts⟩ (c_X5_count_no (zl := zl) (D := D) (cI := cI) (cD := cD) mo (xs (i + 1)) hj) (cwV 1 hts gL_law_X5_count rfl rfl rfl (by decide +kernel) ⟨Nat.le_of_ble_eq_true rfl, Nat.le_of_ble_eq_true rfl⟩) hK hN hP hD [] rfl rfl 15 rfl rfl rfl hl.1 rfl (Nat.le_of_ble_eq_true rfl) dL_law_144 ⟨Nat.le_of_ble_eq_true rfl, Nat.le_of_ble_eq_true rfl⟩ (fun r_6 h_6 => ?_)
          obtain rfl := h_6
          refine lv_icmp_eq (tgt := 456) hx hb dL_law_147 (by decide) (fun c_147 => ?_) (fun c_147 => ?_)
          · skip
            refine lv_iinc (v := nI (i + 4)) (lv' := [(3, .int (nI (i + 4))), (0, .ref sb), (1, .ref w), (2, .ref mo)]) hx hb dL_law_456 hl (k := 3) rfl (nI_add _ _) (by decide) rfl (fun ls hl => ?_)
            refine lv_goto (tgt := 18) hx hb dL_law_459 (by decide) ?_
            exact ih (i + 4) w cn o oy a b e en er es e2 en2 er2 es2 q mo vk vc vt vn vr vs ve vp kc n f bs x1 x2 x3 x4 x5 x6 x7 x8 x9 x10 fy ex tm sn z ob fN fR fS cs ex2 tm2 sn2 z2 ob2 fN2 fR2 fS2 cs2 p0 p1 p2 p3 p4 mf tb mN mR mS ep po hf hmf hbn hn hB hE hz hz40 hex hE2 hz2 hz402 hex2 hT hM hQ hV (by omega) (by omega) _ _ hP hD hS ls (lv_sub hl [1, 2, 3, 0] rfl)
          · exact absurd rfl c_147
        · skip
          obtain ⟨j, hj1, hj2⟩ := nI_of hj
          refine r_i (v := nI j) (hj2) ?_
          refine r_callVi (As := [.int (nI j)]) (rest := []) ⟨hx, hb, hml, hown, hts⟩ (c_X4_count (zl := zl) (D := D) (cI := cI) (cD := cD) w cn kc a b n f bs o e2 q e en er es ex tm sn z ob j (by omega) (by first | assumption | omega) hj1) (cwV 1 hts gL_law_X4_count rfl rfl rfl (by decide +kernel) ⟨Nat.le_of_ble_eq_true rfl, Nat.le_of_ble_eq_true rfl⟩) hK hN hP hD [0, 1, 4, 6] rfl rfl 0 rfl rfl rfl hl.1 rfl (Nat.le_of_ble_eq_true rfl) dL_law_135 ⟨Nat.le_of_ble_eq_true rfl, Nat.le_of_ble_eq_true rfl⟩ (fun r_7 h_7 => ?_)
          obtain rfl := h_7
          refine lv_aload_n hx hb dL_law_138 rfl (lv_at hl 2 rfl) ?_
          refine lv_aload_n hx hb dL_law_139 rfl (lv_at hl 0 rfl) ?_
          refine lv_iload_n hx hb dL_law_140 rfl (lv_at hl 3 rfl) ?_
          refine lv_iconst (v := nI 1) hx hb dL_law_141 (by decide) ?_
          refine lv_iadd hx hb dL_law_142 ?_
          refine r_i (v := nI (i + 1)) (nI_add _ _) ?_
          refine s_ld hx hb hX hbl hbA hS (by omega) (by omega) dL_law_143 ?_
          refine r_i (v := nI j) (hj2) ?_
          refine r_callVi (As := [.int (nI j)]) (rest := [.int (if j < 8 then kc j else if j = 8 then nI n else if j = 9 ∧ ex = 1 then nI z else -1)]) ⟨hx, hb, hml, hown, hts⟩ (c_X5_count (zl := zl) (D := D) (cI := cI) (cD := cD) mo n vk vc vt vn vr vs ve vp kc ep ex z j hM.1.1 hex (by rw [← hz]; exact hM.1.2.2.2.1) (by omega) hj1) (cwV 1 hts gL_law_X5_count rfl rfl rfl (by decide +kernel) ⟨Nat.le_of_ble_eq_true rfl, Nat.le_of_ble_eq_true rfl⟩) hK hN hP hD [15, 17, 22] rfl rfl 15 rfl rfl rfl hl.1 rfl (Nat.le_of_ble_eq_true rfl) dL_law_144 ⟨Nat.le_of_ble_eq_true rfl, Nat.le_of_ble_eq_true rfl⟩ (fun r_8 h_8 => ?_)
          obtain rfl := h_8
          refine lv_icmp_eq (tgt := 456) hx hb dL_law_147 (by decide) (fun c_147 => ?_) (fun c_147 => ?_)
          · skip
            refine lv_iinc (v := nI (i + 4)) (lv' := [(3, .int (nI (i + 4))), (0, .ref sb), (1, .ref w), (2, .ref mo)]) hx hb dL_law_456 hl (k := 3) rfl (nI_add _ _) (by decide) rfl (fun ls hl => ?_)
            refine lv_goto (tgt := 18) hx hb dL_law_459 (by decide) ?_
            exact ih (i + 4) w cn o oy a b e en er es e2 en2 er2 es2 q mo vk vc vt vn vr vs ve vp kc n f bs x1 x2 x3 x4 x5 x6 x7 x8 x9 x10 fy ex tm sn z ob fN fR fS cs ex2 tm2 sn2 z2 ob2 fN2 fR2 fS2 cs2 p0 p1 p2 p3 p4 mf tb mN mR mS ep po hf hmf hbn hn hB hE hz hz40 hex hE2 hz2 hz402 hex2 hT hM hQ hV (by omega) (by omega) _ _ hP hD hS ls (lv_sub hl [1, 2, 3, 0] rfl)
          · exact absurd rfl c_147
      · refine lv_tableIn (tgt := 152) (off := 120) hx hb dL_law_32 (by omega) (by omega) (by rw [sw32]; rfl) (by decide) ?_
        refine lv_aload_n hx hb dL_law_152 rfl (lv_at hl 1 rfl) ?_
        refine lv_aload_n hx hb dL_law_153 rfl (lv_at hl 0 rfl) ?_
        refine lv_iload_n hx hb dL_law_154 rfl (lv_at hl 3 rfl) ?_
        refine lv_iconst (v := nI 1) hx hb dL_law_155 (by decide) ?_
        refine lv_iadd hx hb dL_law_156 ?_
        refine r_i (v := nI (i + 1)) (nI_add _ _) ?_
        refine s_ld hx hb hX hbl hbA hS (by omega) (by omega) dL_law_157 ?_
        by_cases hj : xs (i + 1) < 0
        · skip
          refine r_callVi (As := [.int (xs (i + 1))]) (rest := []) ⟨hx, hb, hml, hown, hts⟩ (c_X4_epoch_no (zl := zl) (D := D) (cI := cI) (cD := cD) w cn a o e q e2 en2 er2 es2 ex2 tm2 sn2 z2 ob2 (xs (i + 1)) hex2 hj) (cwV 1 hts gL_law_X4_epoch rfl rfl rfl (by decide +kernel) ⟨Nat.le_of_ble_eq_true rfl, Nat.le_of_ble_eq_true rfl⟩) hK hN hP hD [0, 10] rfl rfl 0 rfl rfl rfl hl.1 rfl (Nat.le_of_ble_eq_true rfl) dL_law_158 ⟨Nat.le_of_ble_eq_true rfl, Nat.le_of_ble_eq_true rfl⟩ (fun r_9 h_9 => ?_)
          obtain rfl := h_9
          refine lv_aload_n hx hb dL_law_161 rfl (lv_at hl 2 rfl) ?_
          refine lv_aload_n hx hb dL_law_162 rfl (lv_at hl 0 rfl) ?_
          refine lv_iload_n hx hb dL_law_163 rfl (lv_at hl 3 rfl) ?_
          refine lv_iconst (v := nI 1) hx hb dL_law_164 (by decide) ?_
          refine lv_iadd hx hb dL_law_165 ?_
          refine r_i (v := nI (i + 1)) (nI_add _ _) ?_
          refine s_ld hx hb hX hbl hbA hS (by omega) (by omega) dL_law_166 ?_
          refine r_callVi (As := [.int (xs (i + 1))]) (rest := [.int (-1)]) ⟨hx, hb, hml, hown, hts⟩ (c_X5_epoch_no (zl := zl) (D := D) (cI := cI) (cD := cD) mo n vk vc vt vn vr vs ve vp ep (ex2, tm2, sn2, ob2, cs2) (xs (i + 1)) hM.2.1.1 hex2 hj) (cwV 1 hts gL_law_X5_epoch rfl rfl rfl (by decide +kernel) ⟨Nat.le_of_ble_eq_true rfl, Nat.le_of_ble_eq_true rfl⟩) hK hN hP hD [15, 22] rfl rfl 15 rfl rfl rfl hl.1 rfl (Nat.le_of_ble_eq_true rfl) dL_law_167 ⟨Nat.le_of_ble_eq_true rfl, Nat.le_of_ble_eq_true rfl⟩ (fun r_10 h_10 => ?_)
          obtain rfl := h_10
          refine lv_icmp_eq (tgt := 456) hx hb dL_law_170 (by decide) (fun c_170 => ?_) (fun c_170 => ?_)
          · skip
            refine lv_iinc (v := nI (i + 4)) (lv' := [(3, .int (nI (i + 4))), (0, .ref sb), (1, .ref w), (2, .ref mo)]) hx hb dL_law_456 hl (k := 3) rfl (nI_add _ _) (by decide) rfl (fun ls hl => ?_)
            refine lv_goto (tgt := 18) hx hb dL_law_459 (by decide) ?_
            exact ih (i + 4) w cn o oy a b e en er es e2 en2 er2 es2 q mo vk vc vt vn vr vs ve vp kc n f bs x1 x2 x3 x4 x5 x6 x7 x8 x9 x10 fy ex tm sn z ob fN fR fS cs ex2 tm2 sn2 z2 ob2 fN2 fR2 fS2 cs2 p0 p1 p2 p3 p4 mf tb mN mR mS ep po hf hmf hbn hn hB hE hz hz40 hex hE2 hz2 hz402 hex2 hT hM hQ hV (by omega) (by omega) _ _ hP hD hS ls (lv_sub hl [1, 2, 3, 0] rfl)
          · exact absurd rfl c_170
        · skip
          obtain ⟨j, hj1, hj2⟩ := nI_of hj
          refine r_i (v := nI j) (hj2) ?_
          refine r_callVi (As := [.int (nI j)]) (rest := []) ⟨hx, hb, hml, hown, hts⟩ (c_X4_epoch (zl := zl) (D := D) (cI := cI) (cD := cD) w cn a o e q e2 en2 er2 es2 ex2 tm2 sn2 z2 ob2 j hex2 hj1) (cwV 1 hts gL_law_X4_epoch rfl rfl rfl (by decide +kernel) ⟨Nat.le_of_ble_eq_true rfl, Nat.le_of_ble_eq_true rfl⟩) hK hN hP hD [0, 10] rfl rfl 0 rfl rfl rfl hl.1 rfl (Nat.le_of_ble_eq_true rfl) dL_law_158 ⟨Nat.le_of_ble_eq_true rfl, Nat.le_of_ble_eq_true rfl⟩ (fun r_11 h_11 => ?_)
          obtain rfl := h_11
          refine lv_aload_n hx hb dL_law_161 rfl (lv_at hl 2 rfl) ?_
          refine lv_aload_n hx hb dL_law_162 rfl (lv_at hl 0 rfl) ?_
          refine lv_iload_n hx hb dL_law_163 rfl (lv_at hl 3 rfl) ?_
          refine lv_iconst (v := nI 1) hx hb dL_law_164 (by decide) ?_
          refine lv_iadd hx hb dL_law_165 ?_
          refine r_i (v := nI (i + 1)) (nI_add _ _) ?_
          refine s_ld hx hb hX hbl hbA hS (by omega) (by omega) dL_law_166 ?_
          refine r_i (v := nI j) (hj2) ?_
          refine r_callVi (As := [.int (nI j)]) (rest := [.int (if ex2 = 1 then (if j = 0 then tm2 else if j = 1 then sn2 else if j = 2 then nI z2 else if j = 3 then ob2 else -1) else -1)]) ⟨hx, hb, hml, hown, hts⟩ (c_X5_epoch (zl := zl) (D := D) (cI := cI) (cD := cD) mo n vk vc vt vn vr vs ve vp ep (ex2, tm2, sn2, ob2, cs2) j hM.2.1.1 hM.2.1.2.1 hM.2.1.2.2.1 hM.2.1.2.2.2.1 hM.2.1.2.2.2.2 hex2 (by show cs2.length ≤ 40; omega) hj1) (cwV 1 hts gL_law_X5_epoch rfl rfl rfl (by decide +kernel) ⟨Nat.le_of_ble_eq_true rfl, Nat.le_of_ble_eq_true rfl⟩) hK hN hP hD [15, 22] rfl rfl 15 rfl rfl rfl hl.1 rfl (Nat.le_of_ble_eq_true rfl) dL_law_167 ⟨Nat.le_of_ble_eq_true rfl, Nat.le_of_ble_eq_true rfl⟩ (fun r_12 h_12 => ?_)
          obtain rfl := h_12
          refine lv_icmp_eq (tgt := 456) hx hb dL_law_170 (by decide) (fun c_170 => ?_) (fun c_170 => ?_)
          · skip
            refine lv_iinc (v := nI (i + 4)) (lv' := [(3, .int (nI (i + 4))), (0, .ref sb), (1, .ref w), (2, .ref mo)]) hx hb dL_law_456 hl (k := 3) rfl (nI_add _ _) (by decide) rfl (fun ls hl => ?_)
            refine lv_goto (tgt := 18) hx hb dL_law_459 (by decide) ?_
            exact ih (i + 4) w cn o oy a b e en er es e2 en2 er2 es2 q mo vk vc vt vn vr vs ve vp kc n f bs x1 x2 x3 x4 x5 x6 x7 x8 x9 x10 fy ex tm sn z ob fN fR fS cs ex2 tm2 sn2 z2 ob2 fN2 fR2 fS2 cs2 p0 p1 p2 p3 p4 mf tb mN mR mS ep po hf hmf hbn hn hB hE hz hz40 hex hE2 hz2 hz402 hex2 hT hM hQ hV (by omega) (by omega) _ _ hP hD hS ls (lv_sub hl [1, 2, 3, 0] rfl)
          · exact absurd (by rw [← hz2]) c_170
      · refine lv_tableIn (tgt := 175) (off := 143) hx hb dL_law_32 (by omega) (by omega) (by rw [sw32]; rfl) (by decide) ?_
        refine lv_aload_n hx hb dL_law_175 rfl (lv_at hl 1 rfl) ?_
        refine lv_aload_n hx hb dL_law_176 rfl (lv_at hl 0 rfl) ?_
        refine lv_iload_n hx hb dL_law_177 rfl (lv_at hl 3 rfl) ?_
        refine lv_iconst (v := nI 1) hx hb dL_law_178 (by decide) ?_
        refine lv_iadd hx hb dL_law_179 ?_
        refine r_i (v := nI (i + 1)) (nI_add _ _) ?_
        refine s_ld hx hb hX hbl hbA hS (by omega) (by omega) dL_law_180 ?_
        by_cases hj : xs (i + 1) < 0
        · skip
          refine r_callVi (As := [.int (xs (i + 1))]) (rest := []) ⟨hx, hb, hml, hown, hts⟩ (c_X4_cell_no (zl := zl) (D := D) (cI := cI) (cD := cD) w cn a o e q e2 en2 er2 es2 ex2 tm2 sn2 z2 ob2 fN2 fR2 fS2 (xs (i + 1)) hj) (cwV 1 hts gL_law_X4_cell rfl rfl rfl (by decide +kernel) ⟨Nat.le_of_ble_eq_true rfl, Nat.le_of_ble_eq_true rfl⟩) hK hN hP hD [0, 10, 11] rfl rfl 0 rfl rfl rfl hl.1 rfl (Nat.le_of_ble_eq_true rfl) dL_law_181 ⟨Nat.le_of_ble_eq_true rfl, Nat.le_of_ble_eq_true rfl⟩ (fun r_13 h_13 => ?_)
          obtain rfl := h_13
          refine lv_aload_n hx hb dL_law_184 rfl (lv_at hl 2 rfl) ?_
          refine lv_aload_n hx hb dL_law_185 rfl (lv_at hl 0 rfl) ?_
          refine lv_iload_n hx hb dL_law_186 rfl (lv_at hl 3 rfl) ?_
          refine lv_iconst (v := nI 1) hx hb dL_law_187 (by decide) ?_
          refine lv_iadd hx hb dL_law_188 ?_
          refine r_i (v := nI (i + 1)) (nI_add _ _) ?_
          refine s_ld hx hb hX hbl hbA hS (by omega) (by omega) dL_law_189 ?_
          refine r_callVi (As := [.int (xs (i + 1))]) (rest := [.int (-1)]) ⟨hx, hb, hml, hown, hts⟩ (c_X5_cell_no (zl := zl) (D := D) (cI := cI) (cD := cD) mo n vk vc vt vn vr vs ve vp mN ep (ex2, tm2, sn2, ob2, cs2) (xs (i + 1)) hM.2.1.1 hex2 hj) (cwV 1 hts gL_law_X5_cell rfl rfl rfl (by decide +kernel) ⟨Nat.le_of_ble_eq_true rfl, Nat.le_of_ble_eq_true rfl⟩) hK hN hP hD [15, 19, 22] rfl rfl 15 rfl rfl rfl hl.1 rfl (Nat.le_of_ble_eq_true rfl) dL_law_190 ⟨Nat.le_of_ble_eq_true rfl, Nat.le_of_ble_eq_true rfl⟩ (fun r_14 h_14 => ?_)
          obtain rfl := h_14
          refine lv_icmp_eq (tgt := 456) hx hb dL_law_193 (by decide) (fun c_193 => ?_) (fun c_193 => ?_)
          · skip
            refine lv_iinc (v := nI (i + 4)) (lv' := [(3, .int (nI (i + 4))), (0, .ref sb), (1, .ref w), (2, .ref mo)]) hx hb dL_law_456 hl (k := 3) rfl (nI_add _ _) (by decide) rfl (fun ls hl => ?_)
            refine lv_goto (tgt := 18) hx hb dL_law_459 (by decide) ?_
            exact ih (i + 4) w cn o oy a b e en er es e2 en2 er2 es2 q mo vk vc vt vn vr vs ve vp kc n f bs x1 x2 x3 x4 x5 x6 x7 x8 x9 x10 fy ex tm sn z ob fN fR fS cs ex2 tm2 sn2 z2 ob2 fN2 fR2 fS2 cs2 p0 p1 p2 p3 p4 mf tb mN mR mS ep po hf hmf hbn hn hB hE hz hz40 hex hE2 hz2 hz402 hex2 hT hM hQ hV (by omega) (by omega) _ _ hP hD hS ls (lv_sub hl [1, 2, 3, 0] rfl)
          · exact absurd rfl c_193
        · skip
          obtain ⟨j, hj1, hj2⟩ := nI_of hj
          refine r_i (v := nI j) (hj2) ?_
          refine r_callVi (As := [.int (nI j)]) (rest := []) ⟨hx, hb, hml, hown, hts⟩ (c_X4_cell (zl := zl) (D := D) (cI := cI) (cD := cD) w cn a o e q e2 en2 er2 es2 ex2 tm2 sn2 z2 ob2 fN2 fR2 fS2 cs2 j (by first | assumption | omega) (by first | assumption | omega) (by first | assumption | omega) (by first | assumption | omega) hj1) (cwV 1 hts gL_law_X4_cell rfl rfl rfl (by decide +kernel) ⟨Nat.le_of_ble_eq_true rfl, Nat.le_of_ble_eq_true rfl⟩) hK hN hP hD [0, 10, 11] rfl rfl 0 rfl rfl rfl hl.1 rfl (Nat.le_of_ble_eq_true rfl) dL_law_181 ⟨Nat.le_of_ble_eq_true rfl, Nat.le_of_ble_eq_true rfl⟩ (fun r_15 h_15 => ?_)
          obtain rfl := h_15
          refine lv_aload_n hx hb dL_law_184 rfl (lv_at hl 2 rfl) ?_
          refine lv_aload_n hx hb dL_law_185 rfl (lv_at hl 0 rfl) ?_
          refine lv_iload_n hx hb dL_law_186 rfl (lv_at hl 3 rfl) ?_
          refine lv_iconst (v := nI 1) hx hb dL_law_187 (by decide) ?_
          refine lv_iadd hx hb dL_law_188 ?_
          refine r_i (v := nI (i + 1)) (nI_add _ _) ?_
          refine s_ld hx hb hX hbl hbA hS (by omega) (by omega) dL_law_189 ?_
          refine r_i (v := nI j) (hj2) ?_
          refine r_callVi (As := [.int (nI j)]) (rest := [.int (if ex2 = 1 ∧ j < z2 then (cs2.getD j c0).1 else -1)]) ⟨hx, hb, hml, hown, hts⟩ (c_X5_cell (zl := zl) (D := D) (cI := cI) (cD := cD) mo n vk vc vt vn vr vs ve vp mN mR mS ep (ex2, tm2, sn2, ob2, cs2) j hM.2.1.1 hM.2.1.2.2.2.1 hex2 (by show cs2.length ≤ 40; omega) hM.2.2.2.1 hj1) (cwV 1 hts gL_law_X5_cell rfl rfl rfl (by decide +kernel) ⟨Nat.le_of_ble_eq_true rfl, Nat.le_of_ble_eq_true rfl⟩) hK hN hP hD [15, 19, 22] rfl rfl 15 rfl rfl rfl hl.1 rfl (Nat.le_of_ble_eq_true rfl) dL_law_190 ⟨Nat.le_of_ble_eq_true rfl, Nat.le_of_ble_eq_true rfl⟩ (fun r_16 h_16 => ?_)
          obtain rfl := h_16
          refine lv_icmp_eq (tgt := 456) hx hb dL_law_193 (by decide) (fun c_193 => ?_) (fun c_193 => ?_)
          · skip
            refine lv_iinc (v := nI (i + 4)) (lv' := [(3, .int (nI (i + 4))), (0, .ref sb), (1, .ref w), (2, .ref mo)]) hx hb dL_law_456 hl (k := 3) rfl (nI_add _ _) (by decide) rfl (fun ls hl => ?_)
            refine lv_goto (tgt := 18) hx hb dL_law_459 (by decide) ?_
            exact ih (i + 4) w cn o oy a b e en er es e2 en2 er2 es2 q mo vk vc vt vn vr vs ve vp kc n f bs x1 x2 x3 x4 x5 x6 x7 x8 x9 x10 fy ex tm sn z ob fN fR fS cs ex2 tm2 sn2 z2 ob2 fN2 fR2 fS2 cs2 p0 p1 p2 p3 p4 mf tb mN mR mS ep po hf hmf hbn hn hB hE hz hz40 hex hE2 hz2 hz402 hex2 hT hM hQ hV (by omega) (by omega) _ _ hP hD hS ls (lv_sub hl [1, 2, 3, 0] rfl)
          · exact absurd (by rw [← hz2]) c_193
      · refine lv_tableIn (tgt := 198) (off := 166) hx hb dL_law_32 (by omega) (by omega) (by rw [sw32]; rfl) (by decide) ?_
        refine lv_aload_n hx hb dL_law_198 rfl (lv_at hl 1 rfl) ?_
        refine lv_aload_n hx hb dL_law_199 rfl (lv_at hl 0 rfl) ?_
        refine lv_iload_n hx hb dL_law_200 rfl (lv_at hl 3 rfl) ?_
        refine lv_iconst (v := nI 1) hx hb dL_law_201 (by decide) ?_
        refine lv_iadd hx hb dL_law_202 ?_
        refine r_i (v := nI (i + 1)) (nI_add _ _) ?_
        refine s_ld hx hb hX hbl hbA hS (by omega) (by omega) dL_law_203 ?_
        by_cases hj : xs (i + 1) < 0
        · skip
          refine r_callVd (As := [.int (xs (i + 1))]) (rest := []) ⟨hx, hb, hml, hown, hts⟩ (c_X4_range_no (zl := zl) (D := D) (cI := cI) (cD := cD) w cn a o e q e2 en2 er2 es2 ex2 tm2 sn2 z2 ob2 fN2 fR2 fS2 (xs (i + 1)) hj) (cwV 1 hts gL_law_X4_range rfl rfl rfl (by decide +kernel) ⟨Nat.le_of_ble_eq_true rfl, Nat.le_of_ble_eq_true rfl⟩) hK hN hP hD [0, 10, 12] rfl rfl 0 rfl rfl rfl hl.1 rfl (Nat.le_of_ble_eq_true rfl) dL_law_204 ⟨Nat.le_of_ble_eq_true rfl, Nat.le_of_ble_eq_true rfl⟩ (fun r_17 h_17 => ?_)
          obtain rfl := h_17
          refine lv_dstore (lv' := [(4, .double 13830554455654793216), (0, .ref sb), (1, .ref w), (2, .ref mo), (3, .int (nI i))]) hx hb dL_law_207 hl (by decide) rfl (fun ls hl => ?_)
          refine lv_aload_n hx hb dL_law_209 rfl (lv_at hl 3 rfl) ?_
          refine lv_aload_n hx hb dL_law_210 rfl (lv_at hl 1 rfl) ?_
          refine lv_iload_n hx hb dL_law_211 rfl (lv_at hl 4 rfl) ?_
          refine lv_iconst (v := nI 1) hx hb dL_law_212 (by decide) ?_
          refine lv_iadd hx hb dL_law_213 ?_
          refine r_i (v := nI (i + 1)) (nI_add _ _) ?_
          refine s_ld hx hb hX hbl hbA hS (by omega) (by omega) dL_law_214 ?_
          refine r_callVd (As := [.int (xs (i + 1))]) (rest := []) ⟨hx, hb, hml, hown, hts⟩ (c_X5_range_no (zl := zl) (D := D) (cI := cI) (cD := cD) mo n vk vc vt vn vr vs ve vp mR ep (ex2, tm2, sn2, ob2, cs2) (xs (i + 1)) hM.2.1.1 hex2 hj) (cwV 1 hts gL_law_X5_range rfl rfl rfl (by decide +kernel) ⟨Nat.le_of_ble_eq_true rfl, Nat.le_of_ble_eq_true rfl⟩) hK hN hP hD [15, 20, 22] rfl rfl 15 rfl rfl rfl hl.1 rfl (Nat.le_of_ble_eq_true rfl) dL_law_215 ⟨Nat.le_of_ble_eq_true rfl, Nat.le_of_ble_eq_true rfl⟩ (fun r_18 h_18 => ?_)
          obtain rfl := h_18
          refine r_d (v := 13830554455654793216) (rfl) ?_
          refine lv_dstore (lv' := [(6, .double 13830554455654793216), (4, .double 13830554455654793216), (0, .ref sb), (1, .ref w), (2, .ref mo), (3, .int (nI i))]) hx hb dL_law_218 hl (by decide) rfl (fun ls hl => ?_)
          refine lv_dload hx hb dL_law_220 (lv_at hl 1 rfl) ?_
          refine lv_dload hx hb dL_law_222 (lv_at hl 0 rfl) ?_
          refine lv_dcmp hx hb dL_law_224 ?_
          refine lv_if_eq (tgt := 246) hx hb dL_law_225 (by decide) (fun c_225 => ?_) (fun c_225 => ?_)
          · skip
            refine lv_goto (tgt := 456) hx hb dL_law_246 (by decide) ?_
            refine lv_iinc (v := nI (i + 4)) (lv' := [(3, .int (nI (i + 4))), (6, .double 13830554455654793216), (4, .double 13830554455654793216), (0, .ref sb), (1, .ref w), (2, .ref mo)]) hx hb dL_law_456 hl (k := 5) rfl (nI_add _ _) (by decide) rfl (fun ls hl => ?_)
            refine lv_goto (tgt := 18) hx hb dL_law_459 (by decide) ?_
            exact ih (i + 4) w cn o oy a b e en er es e2 en2 er2 es2 q mo vk vc vt vn vr vs ve vp kc n f bs x1 x2 x3 x4 x5 x6 x7 x8 x9 x10 fy ex tm sn z ob fN fR fS cs ex2 tm2 sn2 z2 ob2 fN2 fR2 fS2 cs2 p0 p1 p2 p3 p4 mf tb mN mR mS ep po hf hmf hbn hn hB hE hz hz40 hex hE2 hz2 hz402 hex2 hT hM hQ hV (by omega) (by omega) _ _ hP hD hS ls (lv_sub hl [3, 4, 5, 0] rfl)
          · skip
            refine lv_dload hx hb dL_law_228 (lv_at hl 1 rfl) ?_
            refine lv_dload hx hb dL_law_230 (lv_at hl 1 rfl) ?_
            refine lv_dcmp hx hb dL_law_232 ?_
            refine lv_if_eq (tgt := 244) hx hb dL_law_233 (by decide) (fun c_233 => ?_) (fun c_233 => ?_)
            · exact absurd c_233 c_225
            · skip
              refine lv_dload hx hb dL_law_236 (lv_at hl 0 rfl) ?_
              refine lv_dload hx hb dL_law_238 (lv_at hl 0 rfl) ?_
              refine lv_dcmp hx hb dL_law_240 ?_
              refine lv_if_ne (tgt := 246) hx hb dL_law_241 (by decide) (fun c_241 => ?_) (fun c_241 => ?_)
              · skip
                refine lv_goto (tgt := 456) hx hb dL_law_246 (by decide) ?_
                refine lv_iinc (v := nI (i + 4)) (lv' := [(3, .int (nI (i + 4))), (6, .double 13830554455654793216), (4, .double 13830554455654793216), (0, .ref sb), (1, .ref w), (2, .ref mo)]) hx hb dL_law_456 hl (k := 5) rfl (nI_add _ _) (by decide) rfl (fun ls hl => ?_)
                refine lv_goto (tgt := 18) hx hb dL_law_459 (by decide) ?_
                exact ih (i + 4) w cn o oy a b e en er es e2 en2 er2 es2 q mo vk vc vt vn vr vs ve vp kc n f bs x1 x2 x3 x4 x5 x6 x7 x8 x9 x10 fy ex tm sn z ob fN fR fS cs ex2 tm2 sn2 z2 ob2 fN2 fR2 fS2 cs2 p0 p1 p2 p3 p4 mf tb mN mR mS ep po hf hmf hbn hn hB hE hz hz40 hex hE2 hz2 hz402 hex2 hT hM hQ hV (by omega) (by omega) _ _ hP hD hS ls (lv_sub hl [3, 4, 5, 0] rfl)
              · exact absurd c_241 c_225
        · skip
          obtain ⟨j, hj1, hj2⟩ := nI_of hj
          refine r_i (v := nI j) (hj2) ?_
          refine r_callVd (As := [.int (nI j)]) (rest := []) ⟨hx, hb, hml, hown, hts⟩ (c_X4_range (zl := zl) (D := D) (cI := cI) (cD := cD) w cn a o e q e2 en2 er2 es2 ex2 tm2 sn2 z2 ob2 fN2 fR2 fS2 cs2 j (by first | assumption | omega) (by first | assumption | omega) (by first | assumption | omega) (by first | assumption | omega) hj1) (cwV 1 hts gL_law_X4_range rfl rfl rfl (by decide +kernel) ⟨Nat.le_of_ble_eq_true rfl, Nat.le_of_ble_eq_true rfl⟩) hK hN hP hD [0, 10, 12] rfl rfl 0 rfl rfl rfl hl.1 rfl (Nat.le_of_ble_eq_true rfl) dL_law_204 ⟨Nat.le_of_ble_eq_true rfl, Nat.le_of_ble_eq_true rfl⟩ (fun r_19 h_19 => ?_)
          obtain rfl := h_19
          refine lv_dstore (lv' := [(4, .double (if ex2 = 1 ∧ j < z2 then (cs2.getD j c0).2.1 else 13830554455654793216)), (0, .ref sb), (1, .ref w), (2, .ref mo), (3, .int (nI i))]) hx hb dL_law_207 hl (by decide) rfl (fun ls hl => ?_)
          refine lv_aload_n hx hb dL_law_209 rfl (lv_at hl 3 rfl) ?_
          refine lv_aload_n hx hb dL_law_210 rfl (lv_at hl 1 rfl) ?_
          refine lv_iload_n hx hb dL_law_211 rfl (lv_at hl 4 rfl) ?_
          refine lv_iconst (v := nI 1) hx hb dL_law_212 (by decide) ?_
          refine lv_iadd hx hb dL_law_213 ?_
          refine r_i (v := nI (i + 1)) (nI_add _ _) ?_
          refine s_ld hx hb hX hbl hbA hS (by omega) (by omega) dL_law_214 ?_
          refine r_i (v := nI j) (hj2) ?_
          refine r_callVd (As := [.int (nI j)]) (rest := []) ⟨hx, hb, hml, hown, hts⟩ (c_X5_range (zl := zl) (D := D) (cI := cI) (cD := cD) mo n vk vc vt vn vr vs ve vp mN mR mS ep (ex2, tm2, sn2, ob2, cs2) j hM.2.1.1 hM.2.1.2.2.2.1 hex2 (by show cs2.length ≤ 40; omega) hM.2.2.2.1 hj1) (cwV 1 hts gL_law_X5_range rfl rfl rfl (by decide +kernel) ⟨Nat.le_of_ble_eq_true rfl, Nat.le_of_ble_eq_true rfl⟩) hK hN hP hD [15, 20, 22] rfl rfl 15 rfl rfl rfl hl.1 rfl (Nat.le_of_ble_eq_true rfl) dL_law_215 ⟨Nat.le_of_ble_eq_true rfl, Nat.le_of_ble_eq_true rfl⟩ (fun r_20 h_20 => ?_)
          obtain rfl := h_20
          refine r_d (v := if ex2 = 1 ∧ j < z2 then (cs2.getD j c0).2.1 else 13830554455654793216) (by rw [← hz2]) ?_
          refine lv_dstore (lv' := [(6, .double (if ex2 = 1 ∧ j < z2 then (cs2.getD j c0).2.1 else 13830554455654793216)), (4, .double (if ex2 = 1 ∧ j < z2 then (cs2.getD j c0).2.1 else 13830554455654793216)), (0, .ref sb), (1, .ref w), (2, .ref mo), (3, .int (nI i))]) hx hb dL_law_218 hl (by decide) rfl (fun ls hl => ?_)
          refine lv_dload hx hb dL_law_220 (lv_at hl 1 rfl) ?_
          refine lv_dload hx hb dL_law_222 (lv_at hl 0 rfl) ?_
          refine lv_dcmp hx hb dL_law_224 ?_
          refine lv_if_eq (tgt := 246) hx hb dL_law_225 (by decide) (fun c_225 => ?_) (fun c_225 => ?_)
          · skip
            refine lv_goto (tgt := 456) hx hb dL_law_246 (by decide) ?_
            refine lv_iinc (v := nI (i + 4)) (lv' := [(3, .int (nI (i + 4))), (6, .double (if ex2 = 1 ∧ j < z2 then (cs2.getD j c0).2.1 else 13830554455654793216)), (4, .double (if ex2 = 1 ∧ j < z2 then (cs2.getD j c0).2.1 else 13830554455654793216)), (0, .ref sb), (1, .ref w), (2, .ref mo)]) hx hb dL_law_456 hl (k := 5) rfl (nI_add _ _) (by decide) rfl (fun ls hl => ?_)
            refine lv_goto (tgt := 18) hx hb dL_law_459 (by decide) ?_
            exact ih (i + 4) w cn o oy a b e en er es e2 en2 er2 es2 q mo vk vc vt vn vr vs ve vp kc n f bs x1 x2 x3 x4 x5 x6 x7 x8 x9 x10 fy ex tm sn z ob fN fR fS cs ex2 tm2 sn2 z2 ob2 fN2 fR2 fS2 cs2 p0 p1 p2 p3 p4 mf tb mN mR mS ep po hf hmf hbn hn hB hE hz hz40 hex hE2 hz2 hz402 hex2 hT hM hQ hV (by omega) (by omega) _ _ hP hD hS ls (lv_sub hl [3, 4, 5, 0] rfl)
          · skip
            refine lv_dload hx hb dL_law_228 (lv_at hl 1 rfl) ?_
            refine lv_dload hx hb dL_law_230 (lv_at hl 1 rfl) ?_
            refine lv_dcmp hx hb dL_law_232 ?_
            refine lv_if_eq (tgt := 244) hx hb dL_law_233 (by decide) (fun c_233 => ?_) (fun c_233 => ?_)
            · exact absurd c_233 c_225
            · skip
              refine lv_dload hx hb dL_law_236 (lv_at hl 0 rfl) ?_
              refine lv_dload hx hb dL_law_238 (lv_at hl 0 rfl) ?_
              refine lv_dcmp hx hb dL_law_240 ?_
              refine lv_if_ne (tgt := 246) hx hb dL_law_241 (by decide) (fun c_241 => ?_) (fun c_241 => ?_)
              · skip
                refine lv_goto (tgt := 456) hx hb dL_law_246 (by decide) ?_
                refine lv_iinc (v := nI (i + 4)) (lv' := [(3, .int (nI (i + 4))), (6, .double (if ex2 = 1 ∧ j < z2 then (cs2.getD j c0).2.1 else 13830554455654793216)), (4, .double (if ex2 = 1 ∧ j < z2 then (cs2.getD j c0).2.1 else 13830554455654793216)), (0, .ref sb), (1, .ref w), (2, .ref mo)]) hx hb dL_law_456 hl (k := 5) rfl (nI_add _ _) (by decide) rfl (fun ls hl => ?_)
                refine lv_goto (tgt := 18) hx hb dL_law_459 (by decide) ?_
                exact ih (i + 4) w cn o oy a b e en er es e2 en2 er2 es2 q mo vk vc vt vn vr vs ve vp kc n f bs x1 x2 x3 x4 x5 x6 x7 x8 x9 x10 fy ex tm sn z ob fN fR fS cs ex2 tm2 sn2 z2 ob2 fN2 fR2 fS2 cs2 p0 p1 p2 p3 p4 mf tb mN mR mS ep po hf hmf hbn hn hB hE hz hz40 hex hE2 hz2 hz402 hex2 hT hM hQ hV (by omega) (by omega) _ _ hP hD hS ls (lv_sub hl [3, 4, 5, 0] rfl)
              · exact absurd c_241 c_225
      · refine lv_tableIn (tgt := 249) (off := 217) hx hb dL_law_32 (by omega) (by omega) (by rw [sw32]; rfl) (by decide) ?_
        refine lv_aload_n hx hb dL_law_249 rfl (lv_at hl 1 rfl) ?_
        refine lv_aload_n hx hb dL_law_250 rfl (lv_at hl 0 rfl) ?_
        refine lv_iload_n hx hb dL_law_251 rfl (lv_at hl 3 rfl) ?_
        refine lv_iconst (v := nI 1) hx hb dL_law_252 (by decide) ?_
        refine lv_iadd hx hb dL_law_253 ?_
        refine r_i (v := nI (i + 1)) (nI_add _ _) ?_
        refine s_ld hx hb hX hbl hbA hS (by omega) (by omega) dL_law_254 ?_
        by_cases hj : xs (i + 1) < 0
        · skip
          refine r_callVi (As := [.int (xs (i + 1))]) (rest := []) ⟨hx, hb, hml, hown, hts⟩ (c_X4_strength_no (zl := zl) (D := D) (cI := cI) (cD := cD) w cn a o e q e2 en2 er2 es2 ex2 tm2 sn2 z2 ob2 fN2 fR2 fS2 (xs (i + 1)) hj) (cwV 1 hts gL_law_X4_strength rfl rfl rfl (by decide +kernel) ⟨Nat.le_of_ble_eq_true rfl, Nat.le_of_ble_eq_true rfl⟩) hK hN hP hD [0, 10, 13] rfl rfl 0 rfl rfl rfl hl.1 rfl (Nat.le_of_ble_eq_true rfl) dL_law_255 ⟨Nat.le_of_ble_eq_true rfl, Nat.le_of_ble_eq_true rfl⟩ (fun r_21 h_21 => ?_)
          obtain rfl := h_21
          refine lv_aload_n hx hb dL_law_258 rfl (lv_at hl 2 rfl) ?_
          refine lv_aload_n hx hb dL_law_259 rfl (lv_at hl 0 rfl) ?_
          refine lv_iload_n hx hb dL_law_260 rfl (lv_at hl 3 rfl) ?_
          refine lv_iconst (v := nI 1) hx hb dL_law_261 (by decide) ?_
          refine lv_iadd hx hb dL_law_262 ?_
          refine r_i (v := nI (i + 1)) (nI_add _ _) ?_
          refine s_ld hx hb hX hbl hbA hS (by omega) (by omega) dL_law_263 ?_
          refine r_callVi (As := [.int (xs (i + 1))]) (rest := [.int (-1)]) ⟨hx, hb, hml, hown, hts⟩ (c_X5_strength_no (zl := zl) (D := D) (cI := cI) (cD := cD) mo n vk vc vt vn vr vs ve vp mS ep (ex2, tm2, sn2, ob2, cs2) (xs (i + 1)) hM.2.1.1 hex2 hj) (cwV 1 hts gL_law_X5_strength rfl rfl rfl (by decide +kernel) ⟨Nat.le_of_ble_eq_true rfl, Nat.le_of_ble_eq_true rfl⟩) hK hN hP hD [15, 21, 22] rfl rfl 15 rfl rfl rfl hl.1 rfl (Nat.le_of_ble_eq_true rfl) dL_law_264 ⟨Nat.le_of_ble_eq_true rfl, Nat.le_of_ble_eq_true rfl⟩ (fun r_22 h_22 => ?_)
          obtain rfl := h_22
          refine lv_icmp_eq (tgt := 456) hx hb dL_law_267 (by decide) (fun c_267 => ?_) (fun c_267 => ?_)
          · skip
            refine lv_iinc (v := nI (i + 4)) (lv' := [(3, .int (nI (i + 4))), (0, .ref sb), (1, .ref w), (2, .ref mo)]) hx hb dL_law_456 hl (k := 3) rfl (nI_add _ _) (by decide) rfl (fun ls hl => ?_)
            refine lv_goto (tgt := 18) hx hb dL_law_459 (by decide) ?_
            exact ih (i + 4) w cn o oy a b e en er es e2 en2 er2 es2 q mo vk vc vt vn vr vs ve vp kc n f bs x1 x2 x3 x4 x5 x6 x7 x8 x9 x10 fy ex tm sn z ob fN fR fS cs ex2 tm2 sn2 z2 ob2 fN2 fR2 fS2 cs2 p0 p1 p2 p3 p4 mf tb mN mR mS ep po hf hmf hbn hn hB hE hz hz40 hex hE2 hz2 hz402 hex2 hT hM hQ hV (by omega) (by omega) _ _ hP hD hS ls (lv_sub hl [1, 2, 3, 0] rfl)
          · exact absurd rfl c_267
        · skip
          obtain ⟨j, hj1, hj2⟩ := nI_of hj
          refine r_i (v := nI j) (hj2) ?_
          refine r_callVi (As := [.int (nI j)]) (rest := []) ⟨hx, hb, hml, hown, hts⟩ (c_X4_strength (zl := zl) (D := D) (cI := cI) (cD := cD) w cn a o e q e2 en2 er2 es2 ex2 tm2 sn2 z2 ob2 fN2 fR2 fS2 cs2 j (by first | assumption | omega) (by first | assumption | omega) (by first | assumption | omega) (by first | assumption | omega) hj1) (cwV 1 hts gL_law_X4_strength rfl rfl rfl (by decide +kernel) ⟨Nat.le_of_ble_eq_true rfl, Nat.le_of_ble_eq_true rfl⟩) hK hN hP hD [0, 10, 13] rfl rfl 0 rfl rfl rfl hl.1 rfl (Nat.le_of_ble_eq_true rfl) dL_law_255 ⟨Nat.le_of_ble_eq_true rfl, Nat.le_of_ble_eq_true rfl⟩ (fun r_23 h_23 => ?_)
          obtain rfl := h_23
          refine lv_aload_n hx hb dL_law_258 rfl (lv_at hl 2 rfl) ?_
          refine lv_aload_n hx hb dL_law_259 rfl (lv_at hl 0 rfl) ?_
          refine lv_iload_n hx hb dL_law_260 rfl (lv_at hl 3 rfl) ?_
          refine lv_iconst (v := nI 1) hx hb dL_law_261 (by decide) ?_
          refine lv_iadd hx hb dL_law_262 ?_
          refine r_i (v := nI (i + 1)) (nI_add _ _) ?_
          refine s_ld hx hb hX hbl hbA hS (by omega) (by omega) dL_law_263 ?_
          refine r_i (v := nI j) (hj2) ?_
          refine r_callVi (As := [.int (nI j)]) (rest := [.int (if ex2 = 1 ∧ j < z2 then (cs2.getD j c0).2.2 else -1)]) ⟨hx, hb, hml, hown, hts⟩ (c_X5_strength (zl := zl) (D := D) (cI := cI) (cD := cD) mo n vk vc vt vn vr vs ve vp mN mR mS ep (ex2, tm2, sn2, ob2, cs2) j hM.2.1.1 hM.2.1.2.2.2.1 hex2 (by show cs2.length ≤ 40; omega) hM.2.2.2.1 hj1) (cwV 1 hts gL_law_X5_strength rfl rfl rfl (by decide +kernel) ⟨Nat.le_of_ble_eq_true rfl, Nat.le_of_ble_eq_true rfl⟩) hK hN hP hD [15, 21, 22] rfl rfl 15 rfl rfl rfl hl.1 rfl (Nat.le_of_ble_eq_true rfl) dL_law_264 ⟨Nat.le_of_ble_eq_true rfl, Nat.le_of_ble_eq_true rfl⟩ (fun r_24 h_24 => ?_)
          obtain rfl := h_24
          refine lv_icmp_eq (tgt := 456) hx hb dL_law_267 (by decide) (fun c_267 => ?_) (fun c_267 => ?_)
          · skip
            refine lv_iinc (v := nI (i + 4)) (lv' := [(3, .int (nI (i + 4))), (0, .ref sb), (1, .ref w), (2, .ref mo)]) hx hb dL_law_456 hl (k := 3) rfl (nI_add _ _) (by decide) rfl (fun ls hl => ?_)
            refine lv_goto (tgt := 18) hx hb dL_law_459 (by decide) ?_
            exact ih (i + 4) w cn o oy a b e en er es e2 en2 er2 es2 q mo vk vc vt vn vr vs ve vp kc n f bs x1 x2 x3 x4 x5 x6 x7 x8 x9 x10 fy ex tm sn z ob fN fR fS cs ex2 tm2 sn2 z2 ob2 fN2 fR2 fS2 cs2 p0 p1 p2 p3 p4 mf tb mN mR mS ep po hf hmf hbn hn hB hE hz hz40 hex hE2 hz2 hz402 hex2 hT hM hQ hV (by omega) (by omega) _ _ hP hD hS ls (lv_sub hl [1, 2, 3, 0] rfl)
          · exact absurd (by rw [← hz2]) c_267
      · refine lv_tableIn (tgt := 272) (off := 240) hx hb dL_law_32 (by omega) (by omega) (by rw [sw32]; rfl) (by decide) ?_
        refine lv_aload_n hx hb dL_law_272 rfl (lv_at hl 1 rfl) ?_
        refine r_callVd (As := []) (rest := []) ⟨hx, hb, hml, hown, hts⟩ (c_X4_mean (zl := zl) (D := D) (cI := cI) (cD := cD) w cn a o e q e2 en2 er2 es2 ex2 tm2 sn2 z2 ob2 fN2 fR2 fS2 cs2 (by first | assumption | omega) (by first | assumption | omega) (by first | assumption | omega) hV.2.1) (cwV 0 hts gL_law_X4_mean rfl rfl rfl (by decide +kernel) ⟨Nat.le_of_ble_eq_true rfl, Nat.le_of_ble_eq_true rfl⟩) hK hN hP hD [0, 10, 11, 12, 13] rfl rfl 0 rfl rfl rfl hl.1 rfl (Nat.le_of_ble_eq_true rfl) dL_law_273 ⟨Nat.le_of_ble_eq_true rfl, Nat.le_of_ble_eq_true rfl⟩ (fun r_25 h_25 => ?_)
        obtain rfl := h_25
        refine lv_dstore (lv' := [(4, .double (mean cs2)), (0, .ref sb), (1, .ref w), (2, .ref mo), (3, .int (nI i))]) hx hb dL_law_276 hl (by decide) rfl (fun ls hl => ?_)
        refine lv_aload_n hx hb dL_law_278 rfl (lv_at hl 3 rfl) ?_
        refine r_callVd (As := []) (rest := []) ⟨hx, hb, hml, hown, hts⟩ (c_X5_mean (zl := zl) (D := D) (cI := cI) (cD := cD) mo n vk vc vt vn vr vs ve vp mN mR mS ep (ex2, tm2, sn2, ob2, cs2) hM.2.1.1 hM.2.1.2.2.2.1 hex2 (by show cs2.length ≤ 40; omega) hM.2.2.2.1 hV.2.1) (cwV 0 hts gL_law_X5_mean rfl rfl rfl (by decide +kernel) ⟨Nat.le_of_ble_eq_true rfl, Nat.le_of_ble_eq_true rfl⟩) hK hN hP hD [15, 20, 22] rfl rfl 15 rfl rfl rfl hl.1 rfl (Nat.le_of_ble_eq_true rfl) dL_law_279 ⟨Nat.le_of_ble_eq_true rfl, Nat.le_of_ble_eq_true rfl⟩ (fun r_26 h_26 => ?_)
        obtain rfl := h_26
        refine r_d (v := mean cs2) (mean_eq hV.2.2.1) ?_
        refine lv_dstore (lv' := [(6, .double (mean cs2)), (4, .double (mean cs2)), (0, .ref sb), (1, .ref w), (2, .ref mo), (3, .int (nI i))]) hx hb dL_law_282 hl (by decide) rfl (fun ls hl => ?_)
        refine lv_dload hx hb dL_law_284 (lv_at hl 1 rfl) ?_
        refine lv_dload hx hb dL_law_286 (lv_at hl 0 rfl) ?_
        refine lv_dcmp hx hb dL_law_288 ?_
        refine lv_if_eq (tgt := 310) hx hb dL_law_289 (by decide) (fun c_289 => ?_) (fun c_289 => ?_)
        · skip
          refine lv_goto (tgt := 456) hx hb dL_law_310 (by decide) ?_
          refine lv_iinc (v := nI (i + 4)) (lv' := [(3, .int (nI (i + 4))), (6, .double (mean cs2)), (4, .double (mean cs2)), (0, .ref sb), (1, .ref w), (2, .ref mo)]) hx hb dL_law_456 hl (k := 5) rfl (nI_add _ _) (by decide) rfl (fun ls hl => ?_)
          refine lv_goto (tgt := 18) hx hb dL_law_459 (by decide) ?_
          exact ih (i + 4) w cn o oy a b e en er es e2 en2 er2 es2 q mo vk vc vt vn vr vs ve vp kc n f bs x1 x2 x3 x4 x5 x6 x7 x8 x9 x10 fy ex tm sn z ob fN fR fS cs ex2 tm2 sn2 z2 ob2 fN2 fR2 fS2 cs2 p0 p1 p2 p3 p4 mf tb mN mR mS ep po hf hmf hbn hn hB hE hz hz40 hex hE2 hz2 hz402 hex2 hT hM hQ hV (by omega) (by omega) _ _ hP hD hS ls (lv_sub hl [3, 4, 5, 0] rfl)
        · skip
          refine lv_dload hx hb dL_law_292 (lv_at hl 1 rfl) ?_
          refine lv_dload hx hb dL_law_294 (lv_at hl 1 rfl) ?_
          refine lv_dcmp hx hb dL_law_296 ?_
          refine lv_if_eq (tgt := 308) hx hb dL_law_297 (by decide) (fun c_297 => ?_) (fun c_297 => ?_)
          · exact absurd c_297 c_289
          · skip
            refine lv_dload hx hb dL_law_300 (lv_at hl 0 rfl) ?_
            refine lv_dload hx hb dL_law_302 (lv_at hl 0 rfl) ?_
            refine lv_dcmp hx hb dL_law_304 ?_
            refine lv_if_ne (tgt := 310) hx hb dL_law_305 (by decide) (fun c_305 => ?_) (fun c_305 => ?_)
            · skip
              refine lv_goto (tgt := 456) hx hb dL_law_310 (by decide) ?_
              refine lv_iinc (v := nI (i + 4)) (lv' := [(3, .int (nI (i + 4))), (6, .double (mean cs2)), (4, .double (mean cs2)), (0, .ref sb), (1, .ref w), (2, .ref mo)]) hx hb dL_law_456 hl (k := 5) rfl (nI_add _ _) (by decide) rfl (fun ls hl => ?_)
              refine lv_goto (tgt := 18) hx hb dL_law_459 (by decide) ?_
              exact ih (i + 4) w cn o oy a b e en er es e2 en2 er2 es2 q mo vk vc vt vn vr vs ve vp kc n f bs x1 x2 x3 x4 x5 x6 x7 x8 x9 x10 fy ex tm sn z ob fN fR fS cs ex2 tm2 sn2 z2 ob2 fN2 fR2 fS2 cs2 p0 p1 p2 p3 p4 mf tb mN mR mS ep po hf hmf hbn hn hB hE hz hz40 hex hE2 hz2 hz402 hex2 hT hM hQ hV (by omega) (by omega) _ _ hP hD hS ls (lv_sub hl [3, 4, 5, 0] rfl)
            · exact absurd c_305 c_289
      · refine lv_tableIn (tgt := 313) (off := 281) hx hb dL_law_32 (by omega) (by omega) (by rw [sw32]; rfl) (by decide) ?_
        refine lv_aload_n hx hb dL_law_313 rfl (lv_at hl 1 rfl) ?_
        refine r_callVi (As := []) (rest := []) ⟨hx, hb, hml, hown, hts⟩ (c_X4_fix (zl := zl) (D := D) (cI := cI) (cD := cD) w cn a o e e2 q p0 p1 p2 p3 p4) (cwV 0 hts gL_law_X4_fix rfl rfl rfl (by decide +kernel) ⟨Nat.le_of_ble_eq_true rfl, Nat.le_of_ble_eq_true rfl⟩) hK hN hP hD [0, 14] rfl rfl 0 rfl rfl rfl hl.1 rfl (Nat.le_of_ble_eq_true rfl) dL_law_314 ⟨Nat.le_of_ble_eq_true rfl, Nat.le_of_ble_eq_true rfl⟩ (fun r_27 h_27 => ?_)
        refine r_i (v := p0) h_27 ?_
        refine lv_aload_n hx hb dL_law_317 rfl (lv_at hl 2 rfl) ?_
        refine r_callVi (As := []) (rest := [.int p0]) ⟨hx, hb, hml, hown, hts⟩ (c_X5_fix (zl := zl) (D := D) (cI := cI) (cD := cD) mo n vk vc vt vn vr vs ve vp po (p0, p1, p2, p3, p4) hQ) (cwV 0 hts gL_law_X5_fix rfl rfl rfl (by decide +kernel) ⟨Nat.le_of_ble_eq_true rfl, Nat.le_of_ble_eq_true rfl⟩) hK hN hP hD [15, 23] rfl rfl 15 rfl rfl rfl hl.1 rfl (Nat.le_of_ble_eq_true rfl) dL_law_318 ⟨Nat.le_of_ble_eq_true rfl, Nat.le_of_ble_eq_true rfl⟩ (fun r_28 h_28 => ?_)
        refine r_i (v := (p0, p1, p2, p3, p4).1) h_28 ?_
        refine lv_icmp_eq (tgt := 456) hx hb dL_law_321 (by decide) (fun c_321 => ?_) (fun c_321 => ?_)
        · skip
          refine lv_iinc (v := nI (i + 4)) (lv' := [(3, .int (nI (i + 4))), (0, .ref sb), (1, .ref w), (2, .ref mo)]) hx hb dL_law_456 hl (k := 3) rfl (nI_add _ _) (by decide) rfl (fun ls hl => ?_)
          refine lv_goto (tgt := 18) hx hb dL_law_459 (by decide) ?_
          exact ih (i + 4) w cn o oy a b e en er es e2 en2 er2 es2 q mo vk vc vt vn vr vs ve vp kc n f bs x1 x2 x3 x4 x5 x6 x7 x8 x9 x10 fy ex tm sn z ob fN fR fS cs ex2 tm2 sn2 z2 ob2 fN2 fR2 fS2 cs2 p0 p1 p2 p3 p4 mf tb mN mR mS ep po hf hmf hbn hn hB hE hz hz40 hex hE2 hz2 hz402 hex2 hT hM hQ hV (by omega) (by omega) _ _ hP hD hS ls (lv_sub hl [1, 2, 3, 0] rfl)
        · exact absurd rfl c_321
      · refine lv_tableIn (tgt := 326) (off := 294) hx hb dL_law_32 (by omega) (by omega) (by rw [sw32]; rfl) (by decide) ?_
        refine lv_aload_n hx hb dL_law_326 rfl (lv_at hl 1 rfl) ?_
        refine lv_aload_n hx hb dL_law_327 rfl (lv_at hl 0 rfl) ?_
        refine lv_iload_n hx hb dL_law_328 rfl (lv_at hl 3 rfl) ?_
        refine lv_iconst (v := nI 1) hx hb dL_law_329 (by decide) ?_
        refine lv_iadd hx hb dL_law_330 ?_
        refine r_i (v := nI (i + 1)) (nI_add _ _) ?_
        refine s_ld hx hb hX hbl hbA hS (by omega) (by omega) dL_law_331 ?_
        by_cases hj : xs (i + 1) < 0
        · skip
          refine r_callVd (As := [.int (xs (i + 1))]) (rest := []) ⟨hx, hb, hml, hown, hts⟩ (c_X4_place_no (zl := zl) (D := D) (cI := cI) (cD := cD) w cn a o e e2 q p0 p1 p2 p3 p4 (xs (i + 1)) hj) (cwV 1 hts gL_law_X4_place rfl rfl rfl (by decide +kernel) ⟨Nat.le_of_ble_eq_true rfl, Nat.le_of_ble_eq_true rfl⟩) hK hN hP hD [0, 14] rfl rfl 0 rfl rfl rfl hl.1 rfl (Nat.le_of_ble_eq_true rfl) dL_law_332 ⟨Nat.le_of_ble_eq_true rfl, Nat.le_of_ble_eq_true rfl⟩ (fun r_29 h_29 => ?_)
          obtain rfl := h_29
          refine lv_dstore (lv' := [(4, .double FP.dconst0), (0, .ref sb), (1, .ref w), (2, .ref mo), (3, .int (nI i))]) hx hb dL_law_335 hl (by decide) rfl (fun ls hl => ?_)
          refine lv_aload_n hx hb dL_law_337 rfl (lv_at hl 3 rfl) ?_
          refine lv_aload_n hx hb dL_law_338 rfl (lv_at hl 1 rfl) ?_
          refine lv_iload_n hx hb dL_law_339 rfl (lv_at hl 4 rfl) ?_
          refine lv_iconst (v := nI 1) hx hb dL_law_340 (by decide) ?_
          refine lv_iadd hx hb dL_law_341 ?_
          refine r_i (v := nI (i + 1)) (nI_add _ _) ?_
          refine s_ld hx hb hX hbl hbA hS (by omega) (by omega) dL_law_342 ?_
          refine r_callVd (As := [.int (xs (i + 1))]) (rest := []) ⟨hx, hb, hml, hown, hts⟩ (c_X5_place_no (zl := zl) (D := D) (cI := cI) (cD := cD) mo n vk vc vt vn vr vs ve vp po (p0, p1, p2, p3, p4) (xs (i + 1)) hQ hj) (cwV 1 hts gL_law_X5_place rfl rfl rfl (by decide +kernel) ⟨Nat.le_of_ble_eq_true rfl, Nat.le_of_ble_eq_true rfl⟩) hK hN hP hD [15, 23] rfl rfl 15 rfl rfl rfl hl.1 rfl (Nat.le_of_ble_eq_true rfl) dL_law_343 ⟨Nat.le_of_ble_eq_true rfl, Nat.le_of_ble_eq_true rfl⟩ (fun r_30 h_30 => ?_)
          obtain rfl := h_30
          refine r_d (v := FP.dconst0) (rfl) ?_
          refine lv_dstore (lv' := [(6, .double FP.dconst0), (4, .double FP.dconst0), (0, .ref sb), (1, .ref w), (2, .ref mo), (3, .int (nI i))]) hx hb dL_law_346 hl (by decide) rfl (fun ls hl => ?_)
          refine lv_dload hx hb dL_law_348 (lv_at hl 1 rfl) ?_
          refine lv_dload hx hb dL_law_350 (lv_at hl 0 rfl) ?_
          refine lv_dcmp hx hb dL_law_352 ?_
          refine lv_if_eq (tgt := 374) hx hb dL_law_353 (by decide) (fun c_353 => ?_) (fun c_353 => ?_)
          · skip
            refine lv_goto (tgt := 456) hx hb dL_law_374 (by decide) ?_
            refine lv_iinc (v := nI (i + 4)) (lv' := [(3, .int (nI (i + 4))), (6, .double FP.dconst0), (4, .double FP.dconst0), (0, .ref sb), (1, .ref w), (2, .ref mo)]) hx hb dL_law_456 hl (k := 5) rfl (nI_add _ _) (by decide) rfl (fun ls hl => ?_)
            refine lv_goto (tgt := 18) hx hb dL_law_459 (by decide) ?_
            exact ih (i + 4) w cn o oy a b e en er es e2 en2 er2 es2 q mo vk vc vt vn vr vs ve vp kc n f bs x1 x2 x3 x4 x5 x6 x7 x8 x9 x10 fy ex tm sn z ob fN fR fS cs ex2 tm2 sn2 z2 ob2 fN2 fR2 fS2 cs2 p0 p1 p2 p3 p4 mf tb mN mR mS ep po hf hmf hbn hn hB hE hz hz40 hex hE2 hz2 hz402 hex2 hT hM hQ hV (by omega) (by omega) _ _ hP hD hS ls (lv_sub hl [3, 4, 5, 0] rfl)
          · skip
            refine lv_dload hx hb dL_law_356 (lv_at hl 1 rfl) ?_
            refine lv_dload hx hb dL_law_358 (lv_at hl 1 rfl) ?_
            refine lv_dcmp hx hb dL_law_360 ?_
            refine lv_if_eq (tgt := 372) hx hb dL_law_361 (by decide) (fun c_361 => ?_) (fun c_361 => ?_)
            · exact absurd c_361 c_353
            · skip
              refine lv_dload hx hb dL_law_364 (lv_at hl 0 rfl) ?_
              refine lv_dload hx hb dL_law_366 (lv_at hl 0 rfl) ?_
              refine lv_dcmp hx hb dL_law_368 ?_
              refine lv_if_ne (tgt := 374) hx hb dL_law_369 (by decide) (fun c_369 => ?_) (fun c_369 => ?_)
              · skip
                refine lv_goto (tgt := 456) hx hb dL_law_374 (by decide) ?_
                refine lv_iinc (v := nI (i + 4)) (lv' := [(3, .int (nI (i + 4))), (6, .double FP.dconst0), (4, .double FP.dconst0), (0, .ref sb), (1, .ref w), (2, .ref mo)]) hx hb dL_law_456 hl (k := 5) rfl (nI_add _ _) (by decide) rfl (fun ls hl => ?_)
                refine lv_goto (tgt := 18) hx hb dL_law_459 (by decide) ?_
                exact ih (i + 4) w cn o oy a b e en er es e2 en2 er2 es2 q mo vk vc vt vn vr vs ve vp kc n f bs x1 x2 x3 x4 x5 x6 x7 x8 x9 x10 fy ex tm sn z ob fN fR fS cs ex2 tm2 sn2 z2 ob2 fN2 fR2 fS2 cs2 p0 p1 p2 p3 p4 mf tb mN mR mS ep po hf hmf hbn hn hB hE hz hz40 hex hE2 hz2 hz402 hex2 hT hM hQ hV (by omega) (by omega) _ _ hP hD hS ls (lv_sub hl [3, 4, 5, 0] rfl)
              · exact absurd c_369 c_353
        · skip
          obtain ⟨j, hj1, hj2⟩ := nI_of hj
          refine r_i (v := nI j) (hj2) ?_
          refine r_callVd (As := [.int (nI j)]) (rest := []) ⟨hx, hb, hml, hown, hts⟩ (c_X4_place (zl := zl) (D := D) (cI := cI) (cD := cD) w cn a o e e2 q p0 p1 p2 p3 p4 j hj1) (cwV 1 hts gL_law_X4_place rfl rfl rfl (by decide +kernel) ⟨Nat.le_of_ble_eq_true rfl, Nat.le_of_ble_eq_true rfl⟩) hK hN hP hD [0, 14] rfl rfl 0 rfl rfl rfl hl.1 rfl (Nat.le_of_ble_eq_true rfl) dL_law_332 ⟨Nat.le_of_ble_eq_true rfl, Nat.le_of_ble_eq_true rfl⟩ (fun r_31 h_31 => ?_)
          obtain rfl := h_31
          refine lv_dstore (lv' := [(4, .double (if j = 0 then FP.dmul (FP.i2d p2) 4502148214488346440 else if j = 1 then FP.dmul (FP.i2d p3) 4502148214488346440 else if j = 2 then FP.dmul (FP.i2d p4) 4562254508917369340 else FP.dconst0)), (0, .ref sb), (1, .ref w), (2, .ref mo), (3, .int (nI i))]) hx hb dL_law_335 hl (by decide) rfl (fun ls hl => ?_)
          refine lv_aload_n hx hb dL_law_337 rfl (lv_at hl 3 rfl) ?_
          refine lv_aload_n hx hb dL_law_338 rfl (lv_at hl 1 rfl) ?_
          refine lv_iload_n hx hb dL_law_339 rfl (lv_at hl 4 rfl) ?_
          refine lv_iconst (v := nI 1) hx hb dL_law_340 (by decide) ?_
          refine lv_iadd hx hb dL_law_341 ?_
          refine r_i (v := nI (i + 1)) (nI_add _ _) ?_
          refine s_ld hx hb hX hbl hbA hS (by omega) (by omega) dL_law_342 ?_
          refine r_i (v := nI j) (hj2) ?_
          refine r_callVd (As := [.int (nI j)]) (rest := []) ⟨hx, hb, hml, hown, hts⟩ (c_X5_place (zl := zl) (D := D) (cI := cI) (cD := cD) mo n vk vc vt vn vr vs ve vp po (p0, p1, p2, p3, p4) j hQ hj1) (cwV 1 hts gL_law_X5_place rfl rfl rfl (by decide +kernel) ⟨Nat.le_of_ble_eq_true rfl, Nat.le_of_ble_eq_true rfl⟩) hK hN hP hD [15, 23] rfl rfl 15 rfl rfl rfl hl.1 rfl (Nat.le_of_ble_eq_true rfl) dL_law_343 ⟨Nat.le_of_ble_eq_true rfl, Nat.le_of_ble_eq_true rfl⟩ (fun r_32 h_32 => ?_)
          obtain rfl := h_32
          refine r_d (v := if j = 0 then FP.dmul (FP.i2d p2) 4502148214488346440 else if j = 1 then FP.dmul (FP.i2d p3) 4502148214488346440 else if j = 2 then FP.dmul (FP.i2d p4) 4562254508917369340 else FP.dconst0) (place_eq hV.2.2.2 j) ?_
          refine lv_dstore (lv' := [(6, .double (if j = 0 then FP.dmul (FP.i2d p2) 4502148214488346440 else if j = 1 then FP.dmul (FP.i2d p3) 4502148214488346440 else if j = 2 then FP.dmul (FP.i2d p4) 4562254508917369340 else FP.dconst0)), (4, .double (if j = 0 then FP.dmul (FP.i2d p2) 4502148214488346440 else if j = 1 then FP.dmul (FP.i2d p3) 4502148214488346440 else if j = 2 then FP.dmul (FP.i2d p4) 4562254508917369340 else FP.dconst0)), (0, .ref sb), (1, .ref w), (2, .ref mo), (3, .int (nI i))]) hx hb dL_law_346 hl (by decide) rfl (fun ls hl => ?_)
          refine lv_dload hx hb dL_law_348 (lv_at hl 1 rfl) ?_
          refine lv_dload hx hb dL_law_350 (lv_at hl 0 rfl) ?_
          refine lv_dcmp hx hb dL_law_352 ?_
          refine lv_if_eq (tgt := 374) hx hb dL_law_353 (by decide) (fun c_353 => ?_) (fun c_353 => ?_)
          · skip
            refine lv_goto (tgt := 456) hx hb dL_law_374 (by decide) ?_
            refine lv_iinc (v := nI (i + 4)) (lv' := [(3, .int (nI (i + 4))), (6, .double (if j = 0 then FP.dmul (FP.i2d p2) 4502148214488346440 else if j = 1 then FP.dmul (FP.i2d p3) 4502148214488346440 else if j = 2 then FP.dmul (FP.i2d p4) 4562254508917369340 else FP.dconst0)), (4, .double (if j = 0 then FP.dmul (FP.i2d p2) 4502148214488346440 else if j = 1 then FP.dmul (FP.i2d p3) 4502148214488346440 else if j = 2 then FP.dmul (FP.i2d p4) 4562254508917369340 else FP.dconst0)), (0, .ref sb), (1, .ref w), (2, .ref mo)]) hx hb dL_law_456 hl (k := 5) rfl (nI_add _ _) (by decide) rfl (fun ls hl => ?_)
            refine lv_goto (tgt := 18) hx hb dL_law_459 (by decide) ?_
            exact ih (i + 4) w cn o oy a b e en er es e2 en2 er2 es2 q mo vk vc vt vn vr vs ve vp kc n f bs x1 x2 x3 x4 x5 x6 x7 x8 x9 x10 fy ex tm sn z ob fN fR fS cs ex2 tm2 sn2 z2 ob2 fN2 fR2 fS2 cs2 p0 p1 p2 p3 p4 mf tb mN mR mS ep po hf hmf hbn hn hB hE hz hz40 hex hE2 hz2 hz402 hex2 hT hM hQ hV (by omega) (by omega) _ _ hP hD hS ls (lv_sub hl [3, 4, 5, 0] rfl)
          · skip
            refine lv_dload hx hb dL_law_356 (lv_at hl 1 rfl) ?_
            refine lv_dload hx hb dL_law_358 (lv_at hl 1 rfl) ?_
            refine lv_dcmp hx hb dL_law_360 ?_
            refine lv_if_eq (tgt := 372) hx hb dL_law_361 (by decide) (fun c_361 => ?_) (fun c_361 => ?_)
            · exact absurd c_361 c_353
            · skip
              refine lv_dload hx hb dL_law_364 (lv_at hl 0 rfl) ?_
              refine lv_dload hx hb dL_law_366 (lv_at hl 0 rfl) ?_
              refine lv_dcmp hx hb dL_law_368 ?_
              refine lv_if_ne (tgt := 374) hx hb dL_law_369 (by decide) (fun c_369 => ?_) (fun c_369 => ?_)
              · skip
                refine lv_goto (tgt := 456) hx hb dL_law_374 (by decide) ?_
                refine lv_iinc (v := nI (i + 4)) (lv' := [(3, .int (nI (i + 4))), (6, .double (if j = 0 then FP.dmul (FP.i2d p2) 4502148214488346440 else if j = 1 then FP.dmul (FP.i2d p3) 4502148214488346440 else if j = 2 then FP.dmul (FP.i2d p4) 4562254508917369340 else FP.dconst0)), (4, .double (if j = 0 then FP.dmul (FP.i2d p2) 4502148214488346440 else if j = 1 then FP.dmul (FP.i2d p3) 4502148214488346440 else if j = 2 then FP.dmul (FP.i2d p4) 4562254508917369340 else FP.dconst0)), (0, .ref sb), (1, .ref w), (2, .ref mo)]) hx hb dL_law_456 hl (k := 5) rfl (nI_add _ _) (by decide) rfl (fun ls hl => ?_)
                refine lv_goto (tgt := 18) hx hb dL_law_459 (by decide) ?_
                exact ih (i + 4) w cn o oy a b e en er es e2 en2 er2 es2 q mo vk vc vt vn vr vs ve vp kc n f bs x1 x2 x3 x4 x5 x6 x7 x8 x9 x10 fy ex tm sn z ob fN fR fS cs ex2 tm2 sn2 z2 ob2 fN2 fR2 fS2 cs2 p0 p1 p2 p3 p4 mf tb mN mR mS ep po hf hmf hbn hn hB hE hz hz40 hex hE2 hz2 hz402 hex2 hT hM hQ hV (by omega) (by omega) _ _ hP hD hS ls (lv_sub hl [3, 4, 5, 0] rfl)
              · exact absurd c_369 c_353
      · refine lv_tableIn (tgt := 377) (off := 345) hx hb dL_law_32 (by omega) (by omega) (by rw [sw32]; rfl) (by decide) ?_
        refine lv_aload_n hx hb dL_law_377 rfl (lv_at hl 1 rfl) ?_
        refine lv_aload_n hx hb dL_law_378 rfl (lv_at hl 0 rfl) ?_
        refine lv_iload_n hx hb dL_law_379 rfl (lv_at hl 3 rfl) ?_
        refine lv_iconst (v := nI 1) hx hb dL_law_380 (by decide) ?_
        refine lv_iadd hx hb dL_law_381 ?_
        refine r_i (v := nI (i + 1)) (nI_add _ _) ?_
        refine s_ld hx hb hX hbl hbA hS (by omega) (by omega) dL_law_382 ?_
        by_cases hj : xs (i + 1) < 0
        · skip
          refine r_callVi (As := [.int (xs (i + 1))]) (rest := []) ⟨hx, hb, hml, hown, hts⟩ (c_X4_raw_no (zl := zl) (D := D) (cI := cI) (cD := cD) w cn a o e e2 q p0 p1 p2 p3 p4 (xs (i + 1)) hj) (cwV 1 hts gL_law_X4_raw rfl rfl rfl (by decide +kernel) ⟨Nat.le_of_ble_eq_true rfl, Nat.le_of_ble_eq_true rfl⟩) hK hN hP hD [0, 14] rfl rfl 0 rfl rfl rfl hl.1 rfl (Nat.le_of_ble_eq_true rfl) dL_law_383 ⟨Nat.le_of_ble_eq_true rfl, Nat.le_of_ble_eq_true rfl⟩ (fun r_33 h_33 => ?_)
          obtain rfl := h_33
          refine lv_aload_n hx hb dL_law_386 rfl (lv_at hl 2 rfl) ?_
          refine lv_aload_n hx hb dL_law_387 rfl (lv_at hl 0 rfl) ?_
          refine lv_iload_n hx hb dL_law_388 rfl (lv_at hl 3 rfl) ?_
          refine lv_iconst (v := nI 1) hx hb dL_law_389 (by decide) ?_
          refine lv_iadd hx hb dL_law_390 ?_
          refine r_i (v := nI (i + 1)) (nI_add _ _) ?_
          refine s_ld hx hb hX hbl hbA hS (by omega) (by omega) dL_law_391 ?_
          refine r_callVi (As := [.int (xs (i + 1))]) (rest := [.int (nI 0)]) ⟨hx, hb, hml, hown, hts⟩ (c_X5_raw_no (zl := zl) (D := D) (cI := cI) (cD := cD) mo n vk vc vt vn vr vs ve vp po (p0, p1, p2, p3, p4) (xs (i + 1)) hQ hj) (cwV 1 hts gL_law_X5_raw rfl rfl rfl (by decide +kernel) ⟨Nat.le_of_ble_eq_true rfl, Nat.le_of_ble_eq_true rfl⟩) hK hN hP hD [15, 23] rfl rfl 15 rfl rfl rfl hl.1 rfl (Nat.le_of_ble_eq_true rfl) dL_law_392 ⟨Nat.le_of_ble_eq_true rfl, Nat.le_of_ble_eq_true rfl⟩ (fun r_34 h_34 => ?_)
          obtain rfl := h_34
          refine rn_eq (tgt := 456) hx hb dL_law_395 (by decide) (by omega) (by omega) (fun c_395 => ?_) (fun c_395 => ?_)
          · skip
            refine lv_iinc (v := nI (i + 4)) (lv' := [(3, .int (nI (i + 4))), (0, .ref sb), (1, .ref w), (2, .ref mo)]) hx hb dL_law_456 hl (k := 3) rfl (nI_add _ _) (by decide) rfl (fun ls hl => ?_)
            refine lv_goto (tgt := 18) hx hb dL_law_459 (by decide) ?_
            exact ih (i + 4) w cn o oy a b e en er es e2 en2 er2 es2 q mo vk vc vt vn vr vs ve vp kc n f bs x1 x2 x3 x4 x5 x6 x7 x8 x9 x10 fy ex tm sn z ob fN fR fS cs ex2 tm2 sn2 z2 ob2 fN2 fR2 fS2 cs2 p0 p1 p2 p3 p4 mf tb mN mR mS ep po hf hmf hbn hn hB hE hz hz40 hex hE2 hz2 hz402 hex2 hT hM hQ hV (by omega) (by omega) _ _ hP hD hS ls (lv_sub hl [1, 2, 3, 0] rfl)
          · exact absurd rfl c_395
        · skip
          obtain ⟨j, hj1, hj2⟩ := nI_of hj
          refine r_i (v := nI j) (hj2) ?_
          refine r_callVi (As := [.int (nI j)]) (rest := []) ⟨hx, hb, hml, hown, hts⟩ (c_X4_raw (zl := zl) (D := D) (cI := cI) (cD := cD) w cn a o e e2 q p0 p1 p2 p3 p4 j hj1) (cwV 1 hts gL_law_X4_raw rfl rfl rfl (by decide +kernel) ⟨Nat.le_of_ble_eq_true rfl, Nat.le_of_ble_eq_true rfl⟩) hK hN hP hD [0, 14] rfl rfl 0 rfl rfl rfl hl.1 rfl (Nat.le_of_ble_eq_true rfl) dL_law_383 ⟨Nat.le_of_ble_eq_true rfl, Nat.le_of_ble_eq_true rfl⟩ (fun r_35 h_35 => ?_)
          obtain rfl := h_35
          refine lv_aload_n hx hb dL_law_386 rfl (lv_at hl 2 rfl) ?_
          refine lv_aload_n hx hb dL_law_387 rfl (lv_at hl 0 rfl) ?_
          refine lv_iload_n hx hb dL_law_388 rfl (lv_at hl 3 rfl) ?_
          refine lv_iconst (v := nI 1) hx hb dL_law_389 (by decide) ?_
          refine lv_iadd hx hb dL_law_390 ?_
          refine r_i (v := nI (i + 1)) (nI_add _ _) ?_
          refine s_ld hx hb hX hbl hbA hS (by omega) (by omega) dL_law_391 ?_
          refine r_i (v := nI j) (hj2) ?_
          refine r_callVi (As := [.int (nI j)]) (rest := [.int (if j = 0 then p1 else if j = 1 then p2 else if j = 2 then p3 else if j = 3 then p4 else nI 0)]) ⟨hx, hb, hml, hown, hts⟩ (c_X5_raw (zl := zl) (D := D) (cI := cI) (cD := cD) mo n vk vc vt vn vr vs ve vp po (p0, p1, p2, p3, p4) j hQ hj1) (cwV 1 hts gL_law_X5_raw rfl rfl rfl (by decide +kernel) ⟨Nat.le_of_ble_eq_true rfl, Nat.le_of_ble_eq_true rfl⟩) hK hN hP hD [15, 23] rfl rfl 15 rfl rfl rfl hl.1 rfl (Nat.le_of_ble_eq_true rfl) dL_law_392 ⟨Nat.le_of_ble_eq_true rfl, Nat.le_of_ble_eq_true rfl⟩ (fun r_36 h_36 => ?_)
          obtain rfl := h_36
          refine lv_icmp_eq (tgt := 456) hx hb dL_law_395 (by decide) (fun c_395 => ?_) (fun c_395 => ?_)
          · skip
            refine lv_iinc (v := nI (i + 4)) (lv' := [(3, .int (nI (i + 4))), (0, .ref sb), (1, .ref w), (2, .ref mo)]) hx hb dL_law_456 hl (k := 3) rfl (nI_add _ _) (by decide) rfl (fun ls hl => ?_)
            refine lv_goto (tgt := 18) hx hb dL_law_459 (by decide) ?_
            exact ih (i + 4) w cn o oy a b e en er es e2 en2 er2 es2 q mo vk vc vt vn vr vs ve vp kc n f bs x1 x2 x3 x4 x5 x6 x7 x8 x9 x10 fy ex tm sn z ob fN fR fS cs ex2 tm2 sn2 z2 ob2 fN2 fR2 fS2 cs2 p0 p1 p2 p3 p4 mf tb mN mR mS ep po hf hmf hbn hn hB hE hz hz40 hex hE2 hz2 hz402 hex2 hT hM hQ hV (by omega) (by omega) _ _ hP hD hS ls (lv_sub hl [1, 2, 3, 0] rfl)
          · exact absurd (raw_eq hV.2.2.2 j).symm c_395
      · refine lv_tableIn (tgt := 400) (off := 368) hx hb dL_law_32 (by omega) (by omega) (by rw [sw32]; rfl) (by decide) ?_
        refine lv_aload_n hx hb dL_law_400 rfl (lv_at hl 1 rfl) ?_
        refine lv_aload_n hx hb dL_law_401 rfl (lv_at hl 0 rfl) ?_
        refine lv_iload_n hx hb dL_law_402 rfl (lv_at hl 3 rfl) ?_
        refine lv_iconst (v := nI 1) hx hb dL_law_403 (by decide) ?_
        refine lv_iadd hx hb dL_law_404 ?_
        refine r_i (v := nI (i + 1)) (nI_add _ _) ?_
        refine s_ld hx hb hX hbl hbA hS (by omega) (by omega) dL_law_405 ?_
        refine lv_aload_n hx hb dL_law_406 rfl (lv_at hl 0 rfl) ?_
        refine lv_iload_n hx hb dL_law_407 rfl (lv_at hl 3 rfl) ?_
        refine lv_iconst (v := nI 2) hx hb dL_law_408 (by decide) ?_
        refine lv_iadd hx hb dL_law_409 ?_
        refine r_i (v := nI (i + 2)) (nI_add _ _) ?_
        refine s_ld hx hb hX hbl hbA hS (by omega) (by omega) dL_law_410 ?_
        refine lv_aload_n hx hb dL_law_411 rfl (lv_at hl 0 rfl) ?_
        refine lv_iload_n hx hb dL_law_412 rfl (lv_at hl 3 rfl) ?_
        refine lv_iconst (v := nI 3) hx hb dL_law_413 (by decide) ?_
        refine lv_iadd hx hb dL_law_414 ?_
        refine r_i (v := nI (i + 3)) (nI_add _ _) ?_
        refine s_ld hx hb hX hbl hbA hS (by omega) (by omega) dL_law_415 ?_
        by_cases hk : nI 1 ≤ xs (i + 3) ∧ xs (i + 3) ≤ nI 4
        · skip
          obtain ⟨k, hk1, hk2⟩ := four_ex hk
          refine r_i (v := nI k) (hk2) ?_
          refine r_callVi (As := [.int (xs (i + 1)), .int (xs (i + 2)), .int (nI k)]) (rest := []) ⟨hx, hb, hml, hown, hts⟩ (c_X4_check (zl := zl) (D := D) (cI := cI) (cD := cD) w (xs (i + 1)) (xs (i + 2)) k hk1) (cwV 3 hts gL_law_X4_check rfl rfl rfl (by decide +kernel) ⟨Nat.le_of_ble_eq_true rfl, Nat.le_of_ble_eq_true rfl⟩) hK hN hP hD [] rfl rfl 0 rfl rfl rfl hl.1 rfl (Nat.le_of_ble_eq_true rfl) dL_law_416 ⟨Nat.le_of_ble_eq_true rfl, Nat.le_of_ble_eq_true rfl⟩ (fun r_37 h_37 => ?_)
          obtain rfl := h_37
          refine lv_aload_n hx hb dL_law_419 rfl (lv_at hl 2 rfl) ?_
          refine lv_aload_n hx hb dL_law_420 rfl (lv_at hl 0 rfl) ?_
          refine lv_iload_n hx hb dL_law_421 rfl (lv_at hl 3 rfl) ?_
          refine lv_iconst (v := nI 1) hx hb dL_law_422 (by decide) ?_
          refine lv_iadd hx hb dL_law_423 ?_
          refine r_i (v := nI (i + 1)) (nI_add _ _) ?_
          refine s_ld hx hb hX hbl hbA hS (by omega) (by omega) dL_law_424 ?_
          refine lv_aload_n hx hb dL_law_425 rfl (lv_at hl 0 rfl) ?_
          refine lv_iload_n hx hb dL_law_426 rfl (lv_at hl 3 rfl) ?_
          refine lv_iconst (v := nI 2) hx hb dL_law_427 (by decide) ?_
          refine lv_iadd hx hb dL_law_428 ?_
          refine r_i (v := nI (i + 2)) (nI_add _ _) ?_
          refine s_ld hx hb hX hbl hbA hS (by omega) (by omega) dL_law_429 ?_
          refine lv_aload_n hx hb dL_law_430 rfl (lv_at hl 0 rfl) ?_
          refine lv_iload_n hx hb dL_law_431 rfl (lv_at hl 3 rfl) ?_
          refine lv_iconst (v := nI 3) hx hb dL_law_432 (by decide) ?_
          refine lv_iadd hx hb dL_law_433 ?_
          refine r_i (v := nI (i + 3)) (nI_add _ _) ?_
          refine s_ld hx hb hX hbl hbA hS (by omega) (by omega) dL_law_434 ?_
          refine r_i (v := nI k) (hk2) ?_
          refine r_callVi (As := [.int (xs (i + 1)), .int (xs (i + 2)), .int (nI k)]) (rest := [.int (nI (ckW (xs (i + 2)) k ((xs (i + 1)).toBitVec.toNat % 16777216)))]) ⟨hx, hb, hml, hown, hts⟩ (c_X5_check (zl := zl) (D := D) (cI := cI) (cD := cD) mo n vk vc vt vn vr vs ve vp tb (xs (i + 1)) (xs (i + 2)) k hT hk1) (cwV 3 hts gL_law_X5_check rfl rfl rfl (by decide +kernel) ⟨Nat.le_of_ble_eq_true rfl, Nat.le_of_ble_eq_true rfl⟩) hK hN hP hD [15, 18] rfl rfl 15 rfl rfl rfl hl.1 rfl (Nat.le_of_ble_eq_true rfl) dL_law_435 ⟨Nat.le_of_ble_eq_true rfl, Nat.le_of_ble_eq_true rfl⟩ (fun r_38 h_38 => ?_)
          obtain rfl := h_38
          refine lv_icmp_eq (tgt := 456) hx hb dL_law_438 (by decide) (fun c_438 => ?_) (fun c_438 => ?_)
          · skip
            refine lv_iinc (v := nI (i + 4)) (lv' := [(3, .int (nI (i + 4))), (0, .ref sb), (1, .ref w), (2, .ref mo)]) hx hb dL_law_456 hl (k := 3) rfl (nI_add _ _) (by decide) rfl (fun ls hl => ?_)
            refine lv_goto (tgt := 18) hx hb dL_law_459 (by decide) ?_
            exact ih (i + 4) w cn o oy a b e en er es e2 en2 er2 es2 q mo vk vc vt vn vr vs ve vp kc n f bs x1 x2 x3 x4 x5 x6 x7 x8 x9 x10 fy ex tm sn z ob fN fR fS cs ex2 tm2 sn2 z2 ob2 fN2 fR2 fS2 cs2 p0 p1 p2 p3 p4 mf tb mN mR mS ep po hf hmf hbn hn hB hE hz hz40 hex hE2 hz2 hz402 hex2 hT hM hQ hV (by omega) (by omega) _ _ hP hD hS ls (lv_sub hl [1, 2, 3, 0] rfl)
          · exact absurd rfl c_438
        · skip
          refine r_callVi (As := [.int (xs (i + 1)), .int (xs (i + 2)), .int (xs (i + 3))]) (rest := []) ⟨hx, hb, hml, hown, hts⟩ (c_X4_check_no (zl := zl) (D := D) (cI := cI) (cD := cD) w (xs (i + 1)) (xs (i + 2)) (xs (i + 3)) (four_no hk)) (cwV 3 hts gL_law_X4_check rfl rfl rfl (by decide +kernel) ⟨Nat.le_of_ble_eq_true rfl, Nat.le_of_ble_eq_true rfl⟩) hK hN hP hD [] rfl rfl 0 rfl rfl rfl hl.1 rfl (Nat.le_of_ble_eq_true rfl) dL_law_416 ⟨Nat.le_of_ble_eq_true rfl, Nat.le_of_ble_eq_true rfl⟩ (fun r_39 h_39 => ?_)
          obtain rfl := h_39
          refine lv_aload_n hx hb dL_law_419 rfl (lv_at hl 2 rfl) ?_
          refine lv_aload_n hx hb dL_law_420 rfl (lv_at hl 0 rfl) ?_
          refine lv_iload_n hx hb dL_law_421 rfl (lv_at hl 3 rfl) ?_
          refine lv_iconst (v := nI 1) hx hb dL_law_422 (by decide) ?_
          refine lv_iadd hx hb dL_law_423 ?_
          refine r_i (v := nI (i + 1)) (nI_add _ _) ?_
          refine s_ld hx hb hX hbl hbA hS (by omega) (by omega) dL_law_424 ?_
          refine lv_aload_n hx hb dL_law_425 rfl (lv_at hl 0 rfl) ?_
          refine lv_iload_n hx hb dL_law_426 rfl (lv_at hl 3 rfl) ?_
          refine lv_iconst (v := nI 2) hx hb dL_law_427 (by decide) ?_
          refine lv_iadd hx hb dL_law_428 ?_
          refine r_i (v := nI (i + 2)) (nI_add _ _) ?_
          refine s_ld hx hb hX hbl hbA hS (by omega) (by omega) dL_law_429 ?_
          refine lv_aload_n hx hb dL_law_430 rfl (lv_at hl 0 rfl) ?_
          refine lv_iload_n hx hb dL_law_431 rfl (lv_at hl 3 rfl) ?_
          refine lv_iconst (v := nI 3) hx hb dL_law_432 (by decide) ?_
          refine lv_iadd hx hb dL_law_433 ?_
          refine r_i (v := nI (i + 3)) (nI_add _ _) ?_
          refine s_ld hx hb hX hbl hbA hS (by omega) (by omega) dL_law_434 ?_
          refine r_callVi (As := [.int (xs (i + 1)), .int (xs (i + 2)), .int (xs (i + 3))]) (rest := [.int (-1)]) ⟨hx, hb, hml, hown, hts⟩ (c_X5_check_no (zl := zl) (D := D) (cI := cI) (cD := cD) mo (xs (i + 1)) (xs (i + 2)) (xs (i + 3)) (four_no hk)) (cwV 3 hts gL_law_X5_check rfl rfl rfl (by decide +kernel) ⟨Nat.le_of_ble_eq_true rfl, Nat.le_of_ble_eq_true rfl⟩) hK hN hP hD [] rfl rfl 15 rfl rfl rfl hl.1 rfl (Nat.le_of_ble_eq_true rfl) dL_law_435 ⟨Nat.le_of_ble_eq_true rfl, Nat.le_of_ble_eq_true rfl⟩ (fun r_40 h_40 => ?_)
          obtain rfl := h_40
          refine lv_icmp_eq (tgt := 456) hx hb dL_law_438 (by decide) (fun c_438 => ?_) (fun c_438 => ?_)
          · skip
            refine lv_iinc (v := nI (i + 4)) (lv' := [(3, .int (nI (i + 4))), (0, .ref sb), (1, .ref w), (2, .ref mo)]) hx hb dL_law_456 hl (k := 3) rfl (nI_add _ _) (by decide) rfl (fun ls hl => ?_)
            refine lv_goto (tgt := 18) hx hb dL_law_459 (by decide) ?_
            exact ih (i + 4) w cn o oy a b e en er es e2 en2 er2 es2 q mo vk vc vt vn vr vs ve vp kc n f bs x1 x2 x3 x4 x5 x6 x7 x8 x9 x10 fy ex tm sn z ob fN fR fS cs ex2 tm2 sn2 z2 ob2 fN2 fR2 fS2 cs2 p0 p1 p2 p3 p4 mf tb mN mR mS ep po hf hmf hbn hn hB hE hz hz40 hex hE2 hz2 hz402 hex2 hT hM hQ hV (by omega) (by omega) _ _ hP hD hS ls (lv_sub hl [1, 2, 3, 0] rfl)
          · exact absurd rfl c_438
      · refine lv_tableIn (tgt := 443) (off := 411) hx hb dL_law_32 (by omega) (by omega) (by rw [sw32]; rfl) (by decide) ?_
        refine lv_aload_n hx hb dL_law_443 rfl (lv_at hl 1 rfl) ?_
        refine x_callV (As := []) (rest := []) ⟨hx, hb, hml, hown, hts⟩ (c_X4_flush (zl := zl) (D := D) (cI := cI) (cD := cD) w cn kc a b n f bs o e2 q e en er es ex tm sn z ob hf (by first | assumption | omega) (by omega) hex) (cwV 0 hts gL_law_X4_flush rfl rfl rfl (by decide +kernel) ⟨Nat.le_of_ble_eq_true rfl, Nat.le_of_ble_eq_true rfl⟩) hK hN hP hD hS [0, 1, 4, 5, 6] rfl rfl 0 rfl rfl rfl hl.1 rfl (Nat.le_of_ble_eq_true rfl) dL_law_444 ⟨Nat.le_of_ble_eq_true rfl, Nat.le_of_ble_eq_true rfl⟩ (fun v_41 w_41 H locs hr_41 hP hD hS => ?_)
        obtain ⟨co, no, fo, rfl, rfl, d0, d1⟩ := hr_41
        refine W.eq (g2 := F0 zm 447 ls [.int (nI n)]) rfl ?_
        have hP : va_P D vwCl [(w, .inr (4, [.ref cn, .ref a, .ref o, .ref e, .ref e2, .ref q])), (cn, .inl (cI, 8, .inl co)), (o, .inr (1, [.ref oy, .int x1, .int x2, .int x3, .int x4, .int x5, .int x6, .int x7, .int x8, .int x9, .int x10])), (oy, .inl (cI, 90, .inl fy)), (a, .inr (3, [.ref b, .int (nI no)])), (b, .inl (cI, 140, .inl fo)), (e, .inr (0, [.ref en, .ref er, .ref es, .int (nI 0), .int tm, .int sn, .int (nI z), .int ob])), (en, .inl (cI, 40, .inl fN)), (er, .inl (cD, 40, .inr (.inr (.inr (.inl fR))))), (es, .inl (cI, 40, .inl fS)), (e2, .inr (0, [.ref en2, .ref er2, .ref es2, .int (nI ex2), .int tm2, .int sn2, .int (nI z2), .int ob2])), (en2, .inl (cI, 40, .inl fN2)), (er2, .inl (cD, 40, .inr (.inr (.inr (.inl fR2))))), (es2, .inl (cI, 40, .inl fS2)), (q, .inr (2, [.int p0, .int p1, .int p2, .int p3, .int p4])), (mo, .inr (5, [.int (nI n), .ref vk, .ref vc, .ref vt, .ref vn, .ref vr, .ref vs, .ref ve, .ref vp])), (vk, .inl (cI, 160, .inl mf)), (vc, .inl (cI, 8, .inl kc)), (vt, .inl (cI, 256, .inl tb)), (vn, .inl (cI, 80, .inl mN)), (vr, .inl (cD, 80, .inr (.inr (.inr (.inl mR))))), (vs, .inl (cI, 80, .inl mS)), (ve, .inl (cI, 16, .inl ep)), (vp, .inl (cI, 5, .inl po))] _ := hP
        have hD : va_D ((fun q : Nat => zs.heap.size ≤ q)) [(w, .inr (4, [.ref cn, .ref a, .ref o, .ref e, .ref e2, .ref q])), (cn, .inl (cI, 8, .inl co)), (o, .inr (1, [.ref oy, .int x1, .int x2, .int x3, .int x4, .int x5, .int x6, .int x7, .int x8, .int x9, .int x10])), (oy, .inl (cI, 90, .inl fy)), (a, .inr (3, [.ref b, .int (nI no)])), (b, .inl (cI, 140, .inl fo)), (e, .inr (0, [.ref en, .ref er, .ref es, .int (nI 0), .int tm, .int sn, .int (nI z), .int ob])), (en, .inl (cI, 40, .inl fN)), (er, .inl (cD, 40, .inr (.inr (.inr (.inl fR))))), (es, .inl (cI, 40, .inl fS)), (e2, .inr (0, [.ref en2, .ref er2, .ref es2, .int (nI ex2), .int tm2, .int sn2, .int (nI z2), .int ob2])), (en2, .inl (cI, 40, .inl fN2)), (er2, .inl (cD, 40, .inr (.inr (.inr (.inl fR2))))), (es2, .inl (cI, 40, .inl fS2)), (q, .inr (2, [.int p0, .int p1, .int p2, .int p3, .int p4])), (mo, .inr (5, [.int (nI n), .ref vk, .ref vc, .ref vt, .ref vn, .ref vr, .ref vs, .ref ve, .ref vp])), (vk, .inl (cI, 160, .inl mf)), (vc, .inl (cI, 8, .inl kc)), (vt, .inl (cI, 256, .inl tb)), (vn, .inl (cI, 80, .inl mN)), (vr, .inl (cD, 80, .inr (.inr (.inr (.inl mR))))), (vs, .inl (cI, 80, .inl mS)), (ve, .inl (cI, 16, .inl ep)), (vp, .inl (cI, 5, .inl po))] := hD
        refine lv_aload_n hx hb dL_law_447 rfl (lv_at hl 2 rfl) ?_
        refine x_callV (As := []) (rest := [.int (nI n)]) ⟨hx, hb, hml, hown, hts⟩ (c_X5_flush (zl := zl) (D := D) (cI := cI) (cD := cD) mo n vk vc vt vn vr vs ve vp kc ep ex hM.1.1 hex (by omega)) (cwV 0 hts gL_law_X5_flush rfl rfl rfl (by decide +kernel) ⟨Nat.le_of_ble_eq_true rfl, Nat.le_of_ble_eq_true rfl⟩) hK hN hP hD hS [15, 17, 22] rfl rfl 15 rfl rfl rfl hl.1 rfl (Nat.le_of_ble_eq_true rfl) dL_law_448 ⟨Nat.le_of_ble_eq_true rfl, Nat.le_of_ble_eq_true rfl⟩ (fun v_42 w_42 H locs hr_42 hP hD hS => ?_)
        obtain ⟨m_co, rfl, rfl, g0⟩ := hr_42
        refine W.eq (g2 := F0 zm 451 ls [.int (nI n), .int (nI n)]) rfl ?_
        have hP : va_P D vwCl [(w, .inr (4, [.ref cn, .ref a, .ref o, .ref e, .ref e2, .ref q])), (cn, .inl (cI, 8, .inl co)), (o, .inr (1, [.ref oy, .int x1, .int x2, .int x3, .int x4, .int x5, .int x6, .int x7, .int x8, .int x9, .int x10])), (oy, .inl (cI, 90, .inl fy)), (a, .inr (3, [.ref b, .int (nI no)])), (b, .inl (cI, 140, .inl fo)), (e, .inr (0, [.ref en, .ref er, .ref es, .int (nI 0), .int tm, .int sn, .int (nI z), .int ob])), (en, .inl (cI, 40, .inl fN)), (er, .inl (cD, 40, .inr (.inr (.inr (.inl fR))))), (es, .inl (cI, 40, .inl fS)), (e2, .inr (0, [.ref en2, .ref er2, .ref es2, .int (nI ex2), .int tm2, .int sn2, .int (nI z2), .int ob2])), (en2, .inl (cI, 40, .inl fN2)), (er2, .inl (cD, 40, .inr (.inr (.inr (.inl fR2))))), (es2, .inl (cI, 40, .inl fS2)), (q, .inr (2, [.int p0, .int p1, .int p2, .int p3, .int p4])), (mo, .inr (5, [.int (nI 0), .ref vk, .ref vc, .ref vt, .ref vn, .ref vr, .ref vs, .ref ve, .ref vp])), (vk, .inl (cI, 160, .inl mf)), (vc, .inl (cI, 8, .inl m_co)), (vt, .inl (cI, 256, .inl tb)), (vn, .inl (cI, 80, .inl mN)), (vr, .inl (cD, 80, .inr (.inr (.inr (.inl mR))))), (vs, .inl (cI, 80, .inl mS)), (ve, .inl (cI, 16, .inl (upd ep 0 (nI 0)))), (vp, .inl (cI, 5, .inl po))] _ := hP
        have hD : va_D ((fun q : Nat => zs.heap.size ≤ q)) [(w, .inr (4, [.ref cn, .ref a, .ref o, .ref e, .ref e2, .ref q])), (cn, .inl (cI, 8, .inl co)), (o, .inr (1, [.ref oy, .int x1, .int x2, .int x3, .int x4, .int x5, .int x6, .int x7, .int x8, .int x9, .int x10])), (oy, .inl (cI, 90, .inl fy)), (a, .inr (3, [.ref b, .int (nI no)])), (b, .inl (cI, 140, .inl fo)), (e, .inr (0, [.ref en, .ref er, .ref es, .int (nI 0), .int tm, .int sn, .int (nI z), .int ob])), (en, .inl (cI, 40, .inl fN)), (er, .inl (cD, 40, .inr (.inr (.inr (.inl fR))))), (es, .inl (cI, 40, .inl fS)), (e2, .inr (0, [.ref en2, .ref er2, .ref es2, .int (nI ex2), .int tm2, .int sn2, .int (nI z2), .int ob2])), (en2, .inl (cI, 40, .inl fN2)), (er2, .inl (cD, 40, .inr (.inr (.inr (.inl fR2))))), (es2, .inl (cI, 40, .inl fS2)), (q, .inr (2, [.int p0, .int p1, .int p2, .int p3, .int p4])), (mo, .inr (5, [.int (nI 0), .ref vk, .ref vc, .ref vt, .ref vn, .ref vr, .ref vs, .ref ve, .ref vp])), (vk, .inl (cI, 160, .inl mf)), (vc, .inl (cI, 8, .inl m_co)), (vt, .inl (cI, 256, .inl tb)), (vn, .inl (cI, 80, .inl mN)), (vr, .inl (cD, 80, .inr (.inr (.inr (.inl mR))))), (vs, .inl (cI, 80, .inl mS)), (ve, .inl (cI, 16, .inl (upd ep 0 (nI 0)))), (vp, .inl (cI, 5, .inl po))] := hD
        obtain rfl : co = m_co := d0.trans g0.symm
        subst d1
        refine rn_eq (tgt := 456) hx hb dL_law_451 (by decide) (by omega) (by omega) (fun c_451 => ?_) (fun c_451 => ?_)
        · skip
          refine lv_iinc (v := nI (i + 4)) (lv' := [(3, .int (nI (i + 4))), (0, .ref sb), (1, .ref w), (2, .ref mo)]) hx hb dL_law_456 hl (k := 3) rfl (nI_add _ _) (by decide) rfl (fun ls hl => ?_)
          refine lv_goto (tgt := 18) hx hb dL_law_459 (by decide) ?_
          exact ih (i + 4) w cn o oy a b e en er es e2 en2 er2 es2 q mo vk vc vt vn vr vs ve vp co 0 fo ([]) x1 x2 x3 x4 x5 x6 x7 x8 x9 x10 fy 0 tm sn z ob fN fR fS cs ex2 tm2 sn2 z2 ob2 fN2 fR2 fS2 cs2 p0 p1 p2 p3 p4 mf tb mN mR mS (upd ep 0 (nI 0)) po (Rp.nil _) (Rp.nil _) rfl (by omega) By.nil hE hz hz40 (by decide) hE2 hz2 hz402 hex2 hT hM.lose hQ (flush_inv hV) (by omega) (by omega) _ _ hP hD hS ls (lv_sub hl [1, 2, 3, 0] rfl)
        · exact absurd rfl c_451
