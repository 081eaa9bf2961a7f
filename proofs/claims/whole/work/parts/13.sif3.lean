set_option maxHeartbeats 4000000 in
set_option maxRecDepth 100000 in
/-- bytes come, and are dealt with -/
theorem c_X4_put {zl : Launch} {D : va_G} {cI cD : ClassId} (w : Nat) (cn : Nat) (kc : Nat → Int32) (o : Nat) (oy : Nat) (x1 : Int32) (x2 : Int32) (x3 : Int32) (x4 : Int32) (x5 : Int32) (x6 : Int32) (x7 : Int32) (x8 : Int32) (x9 : Int32) (x10 : Int32) (fy : Nat → Int32) (a : Nat) (b : Nat) (n : Nat) (f : Nat → Int32) (bs : List Nat) (e : Nat) (en : Nat) (er : Nat) (es : Nat) (ex : Nat) (tm : Int32) (sn : Int32) (z : Nat) (ob : Int32) (fN : Nat → Int32) (fR : Nat → UInt64) (fS : Nat → Int32) (cs : List Ce) (e2 : Nat) (en2 : Nat) (er2 : Nat) (es2 : Nat) (ex2 : Nat) (tm2 : Int32) (sn2 : Int32) (z2 : Nat) (ob2 : Int32) (fN2 : Nat → Int32) (fR2 : Nat → UInt64) (fS2 : Nat → Int32) (cs2 : List Ce) (q : Nat) (p0 : Int32) (p1 : Int32) (p2 : Int32) (p3 : Int32) (p4 : Int32) (x : Int32) (k : Nat) (hf : Rp f bs) (hbn : bs.length = n) (hn : n ≤ 100) (hB : By bs) (hE : RpE fN fR fS cs) (hz : cs.length = z) (hz40 : z ≤ 40) (hE2 : RpE fN2 fR2 fS2 cs2) (hz2 : cs2.length = z2) (hz402 : z2 ≤ 40) (hex : ex ≤ 1) (hex2 : ex2 ≤ 1) (hk : 1 ≤ k ∧ k ≤ 4) : Cx zl yX4_put wsX4_put ({ frames := 6, cells := 0, slots := 0, locals := 148 }) D cI cD [.ref w, .int x, .int (nI k)] [(w, .inr (4, [.ref cn, .ref a, .ref o, .ref e, .ref e2, .ref q])), (cn, .inl (cI, 8, .inl kc)), (o, .inr (1, [.ref oy, .int x1, .int x2, .int x3, .int x4, .int x5, .int x6, .int x7, .int x8, .int x9, .int x10])), (oy, .inl (cI, 90, .inl fy)), (a, .inr (3, [.ref b, .int (nI n)])), (b, .inl (cI, 140, .inl f)), (e, .inr (0, [.ref en, .ref er, .ref es, .int (nI ex), .int tm, .int sn, .int (nI z), .int ob])), (en, .inl (cI, 40, .inl fN)), (er, .inl (cD, 40, .inr (.inr (.inr (.inl fR))))), (es, .inl (cI, 40, .inl fS)), (e2, .inr (0, [.ref en2, .ref er2, .ref es2, .int (nI ex2), .int tm2, .int sn2, .int (nI z2), .int ob2])), (en2, .inl (cI, 40, .inl fN2)), (er2, .inl (cD, 40, .inr (.inr (.inr (.inl fR2))))), (es2, .inl (cI, 40, .inl fS2)), (q, .inr (2, [.int p0, .int p1, .int p2, .int p3, .int p4]))] (fun v w1 => ∃ (co : Nat → Int32), ∃ (exo : Nat), ∃ (tmo : Int32), ∃ (sno : Int32), ∃ (zo : Nat), ∃ (obo : Int32), ∃ (fNo : Nat → Int32), ∃ (fRo : Nat → UInt64), ∃ (fSo : Nat → Int32), ∃ (cso : List Ce), ∃ (ex2o : Nat), ∃ (tm2o : Int32), ∃ (sn2o : Int32), ∃ (z2o : Nat), ∃ (ob2o : Int32), ∃ (fN2o : Nat → Int32), ∃ (fR2o : Nat → UInt64), ∃ (fS2o : Nat → Int32), ∃ (cs2o : List Ce), ∃ (y1 : Int32), ∃ (y2 : Int32), ∃ (y3 : Int32), ∃ (y4 : Int32), ∃ (y5 : Int32), ∃ (y6 : Int32), ∃ (y7 : Int32), ∃ (y8 : Int32), ∃ (y9 : Int32), ∃ (y10 : Int32), ∃ (fyo : Nat → Int32), ∃ (p0o : Int32), ∃ (p1o : Int32), ∃ (p2o : Int32), ∃ (p3o : Int32), ∃ (p4o : Int32), ∃ (no : Nat), ∃ (fo : Nat → Int32), ∃ (bso : List Nat), ∃ (tko : Nat), w1 = [(w, .inr (4, [.ref cn, .ref a, .ref o, .ref e, .ref e2, .ref q])), (cn, .inl (cI, 8, .inl co)), (o, .inr (1, [.ref oy, .int y1, .int y2, .int y3, .int y4, .int y5, .int y6, .int y7, .int y8, .int y9, .int y10])), (oy, .inl (cI, 90, .inl fyo)), (a, .inr (3, [.ref b, .int (nI no)])), (b, .inl (cI, 140, .inl fo)), (e, .inr (0, [.ref en, .ref er, .ref es, .int (nI exo), .int tmo, .int sno, .int (nI zo), .int obo])), (en, .inl (cI, 40, .inl fNo)), (er, .inl (cD, 40, .inr (.inr (.inr (.inl fRo))))), (es, .inl (cI, 40, .inl fSo)), (e2, .inr (0, [.ref en2, .ref er2, .ref es2, .int (nI ex2o), .int tm2o, .int sn2o, .int (nI z2o), .int ob2o])), (en2, .inl (cI, 40, .inl fN2o)), (er2, .inl (cD, 40, .inr (.inr (.inr (.inl fR2o))))), (es2, .inl (cI, 40, .inl fS2o)), (q, .inr (2, [.int p0o, .int p1o, .int p2o, .int p3o, .int p4o]))] ∧ v = some (.int (nI tko)) ∧ (bso, tko, (co, (exo, tmo, sno, obo, cso), (ex2o, tm2o, sn2o, ob2o, cs2o), (p0o, p1o, p2o, p3o, p4o))) = dl (bs ++ wbs x k).length (bs ++ wbs x k) 0 (kc, (ex, tm, sn, ob, cs), (ex2, tm2, sn2, ob2, cs2), (p0, p1, p2, p3, p4)) ∧ Rp fo bso ∧ bso.length = no ∧ cls bso = 0 ∧ RpE fNo fRo fSo cso ∧ cso.length = zo ∧ zo ≤ 40 ∧ exo ≤ 1 ∧ RpE fN2o fR2o fS2o cs2o ∧ cs2o.length = z2o ∧ z2o ≤ 40 ∧ ex2o ≤ 1) := by
  refine Met.ofW (cc := cX4_put) (maxL := 4) (ret := (some .int)) (by decide) rfl ?_
  intro zp ze zs zm zargs zb zt zc zs₁ B hml hv
  obtain ⟨rfl, hP, hK, hD0, hN⟩ := hv
  have hx := B.exec
  have hb := B.bytes
  have hr := B.returns
  have hts := atoms_spec (ws := wsX4_put) B.pre
  have hown : zs.vm.findClass RX4 = some zm.cls := findClass_of_methodNamed B.named
  have hlocks := B.notSynchronized
  have hD := inW_self hD0
  have hS : va_S (inW [(w, .inr (4, [.ref cn, .ref a, .ref o, .ref e, .ref e2, .ref q])), (cn, .inl (cI, 8, .inl kc)), (o, .inr (1, [.ref oy, .int x1, .int x2, .int x3, .int x4, .int x5, .int x6, .int x7, .int x8, .int x9, .int x10])), (oy, .inl (cI, 90, .inl fy)), (a, .inr (3, [.ref b, .int (nI n)])), (b, .inl (cI, 140, .inl f)), (e, .inr (0, [.ref en, .ref er, .ref es, .int (nI ex), .int tm, .int sn, .int (nI z), .int ob])), (en, .inl (cI, 40, .inl fN)), (er, .inl (cD, 40, .inr (.inr (.inr (.inl fR))))), (es, .inl (cI, 40, .inl fS)), (e2, .inr (0, [.ref en2, .ref er2, .ref es2, .int (nI ex2), .int tm2, .int sn2, .int (nI z2), .int ob2])), (en2, .inl (cI, 40, .inl fN2)), (er2, .inl (cD, 40, .inr (.inr (.inr (.inl fR2))))), (es2, .inl (cI, 40, .inl fS2)), (q, .inr (2, [.int p0, .int p1, .int p2, .int p3, .int p4]))]) zs.heap zs.heap [] := va_S.rf
  have hl := lv_entry [.ref w, .int x, .int (nI k)] (n := 4) (Nat.le_of_ble_eq_true rfl)
  rw [lg_entry_eq]
  generalize (lg_sl [.ref w, .int x, .int (nI k)] ++ List.replicate (4 - (lg_sl [.ref w, .int x, .int (nI k)]).length) Slot.unset).toArray = ls at hl ⊢
  have hl : lv_has ls 4 [(0, .ref w), (1, .int x), (2, .int (nI k))] := hl
  have hin4 : ∀ w ∈ u_ws RX4 TX4 6, w ∈ wsX4_put := by decide +kernel
  have cuts : ∀ fuel : Nat, (∀ (m : Nat), ∀ (bj : List Nat), ∀ (nj : Nat), ∀ (fj : Nat → Int32), (m ≤ 4) → (bj ++ wbs x m = bs ++ wbs x k) → (Rp fj bj) → (bj.length = nj) → (nj + m ≤ 104) → (By bj) → m < fuel → ∀ (H : Heap) (locs : List Loc), va_P D vwCl [(w, .inr (4, [.ref cn, .ref a, .ref o, .ref e, .ref e2, .ref q])), (cn, .inl (cI, 8, .inl kc)), (o, .inr (1, [.ref oy, .int x1, .int x2, .int x3, .int x4, .int x5, .int x6, .int x7, .int x8, .int x9, .int x10])), (oy, .inl (cI, 90, .inl fy)), (a, .inr (3, [.ref b, .int (nI nj)])), (b, .inl (cI, 140, .inl fj)), (e, .inr (0, [.ref en, .ref er, .ref es, .int (nI ex), .int tm, .int sn, .int (nI z), .int ob])), (en, .inl (cI, 40, .inl fN)), (er, .inl (cD, 40, .inr (.inr (.inr (.inl fR))))), (es, .inl (cI, 40, .inl fS)), (e2, .inr (0, [.ref en2, .ref er2, .ref es2, .int (nI ex2), .int tm2, .int sn2, .int (nI z2), .int ob2])), (en2, .inl (cI, 40, .inl fN2)), (er2, .inl (cD, 40, .inr (.inr (.inr (.inl fR2))))), (es2, .inl (cI, 40, .inl fS2)), (q, .inr (2, [.int p0, .int p1, .int p2, .int p3, .int p4]))] H → va_D (inW [(w, .inr (4, [.ref cn, .ref a, .ref o, .ref e, .ref e2, .ref q])), (cn, .inl (cI, 8, .inl kc)), (o, .inr (1, [.ref oy, .int x1, .int x2, .int x3, .int x4, .int x5, .int x6, .int x7, .int x8, .int x9, .int x10])), (oy, .inl (cI, 90, .inl fy)), (a, .inr (3, [.ref b, .int (nI n)])), (b, .inl (cI, 140, .inl f)), (e, .inr (0, [.ref en, .ref er, .ref es, .int (nI ex), .int tm, .int sn, .int (nI z), .int ob])), (en, .inl (cI, 40, .inl fN)), (er, .inl (cD, 40, .inr (.inr (.inr (.inl fR))))), (es, .inl (cI, 40, .inl fS)), (e2, .inr (0, [.ref en2, .ref er2, .ref es2, .int (nI ex2), .int tm2, .int sn2, .int (nI z2), .int ob2])), (en2, .inl (cI, 40, .inl fN2)), (er2, .inl (cD, 40, .inr (.inr (.inr (.inl fR2))))), (es2, .inl (cI, 40, .inl fS2)), (q, .inr (2, [.int p0, .int p1, .int p2, .int p3, .int p4]))]) [(w, .inr (4, [.ref cn, .ref a, .ref o, .ref e, .ref e2, .ref q])), (cn, .inl (cI, 8, .inl kc)), (o, .inr (1, [.ref oy, .int x1, .int x2, .int x3, .int x4, .int x5, .int x6, .int x7, .int x8, .int x9, .int x10])), (oy, .inl (cI, 90, .inl fy)), (a, .inr (3, [.ref b, .int (nI nj)])), (b, .inl (cI, 140, .inl fj)), (e, .inr (0, [.ref en, .ref er, .ref es, .int (nI ex), .int tm, .int sn, .int (nI z), .int ob])), (en, .inl (cI, 40, .inl fN)), (er, .inl (cD, 40, .inr (.inr (.inr (.inl fR))))), (es, .inl (cI, 40, .inl fS)), (e2, .inr (0, [.ref en2, .ref er2, .ref es2, .int (nI ex2), .int tm2, .int sn2, .int (nI z2), .int ob2])), (en2, .inl (cI, 40, .inl fN2)), (er2, .inl (cD, 40, .inr (.inr (.inr (.inl fR2))))), (es2, .inl (cI, 40, .inl fS2)), (q, .inr (2, [.int p0, .int p1, .int p2, .int p3, .int p4]))] → va_S (inW [(w, .inr (4, [.ref cn, .ref a, .ref o, .ref e, .ref e2, .ref q])), (cn, .inl (cI, 8, .inl kc)), (o, .inr (1, [.ref oy, .int x1, .int x2, .int x3, .int x4, .int x5, .int x6, .int x7, .int x8, .int x9, .int x10])), (oy, .inl (cI, 90, .inl fy)), (a, .inr (3, [.ref b, .int (nI n)])), (b, .inl (cI, 140, .inl f)), (e, .inr (0, [.ref en, .ref er, .ref es, .int (nI ex), .int tm, .int sn, .int (nI z), .int ob])), (en, .inl (cI, 40, .inl fN)), (er, .inl (cD, 40, .inr (.inr (.inr (.inl fR))))), (es, .inl (cI, 40, .inl fS)), (e2, .inr (0, [.ref en2, .ref er2, .ref es2, .int (nI ex2), .int tm2, .int sn2, .int (nI z2), .int ob2])), (en2, .inl (cI, 40, .inl fN2)), (er2, .inl (cD, 40, .inr (.inr (.inr (.inl fR2))))), (es2, .inl (cI, 40, .inl fS2)), (q, .inr (2, [.int p0, .int p1, .int p2, .int p3, .int p4]))]) zs.heap H locs → ∀ (ls : Array Slot), lv_has ls 4 [(0, .ref w), (1, .int x), (3, .int (nI m - nI 1))] → W zp zl ze ({ frames := 6, cells := 0, slots := 0, locals := 148 }) zs zm [.ref w, .int x, .int (nI k)].toArray zb zt zc H locs 0 0 (MQ zb (Xq D [(w, .inr (4, [.ref cn, .ref a, .ref o, .ref e, .ref e2, .ref q])), (cn, .inl (cI, 8, .inl kc)), (o, .inr (1, [.ref oy, .int x1, .int x2, .int x3, .int x4, .int x5, .int x6, .int x7, .int x8, .int x9, .int x10])), (oy, .inl (cI, 90, .inl fy)), (a, .inr (3, [.ref b, .int (nI n)])), (b, .inl (cI, 140, .inl f)), (e, .inr (0, [.ref en, .ref er, .ref es, .int (nI ex), .int tm, .int sn, .int (nI z), .int ob])), (en, .inl (cI, 40, .inl fN)), (er, .inl (cD, 40, .inr (.inr (.inr (.inl fR))))), (es, .inl (cI, 40, .inl fS)), (e2, .inr (0, [.ref en2, .ref er2, .ref es2, .int (nI ex2), .int tm2, .int sn2, .int (nI z2), .int ob2])), (en2, .inl (cI, 40, .inl fN2)), (er2, .inl (cD, 40, .inr (.inr (.inr (.inl fR2))))), (es2, .inl (cI, 40, .inl fS2)), (q, .inr (2, [.int p0, .int p1, .int p2, .int p3, .int p4]))] (fun v w1 => ∃ (co : Nat → Int32), ∃ (exo : Nat), ∃ (tmo : Int32), ∃ (sno : Int32), ∃ (zo : Nat), ∃ (obo : Int32), ∃ (fNo : Nat → Int32), ∃ (fRo : Nat → UInt64), ∃ (fSo : Nat → Int32), ∃ (cso : List Ce), ∃ (ex2o : Nat), ∃ (tm2o : Int32), ∃ (sn2o : Int32), ∃ (z2o : Nat), ∃ (ob2o : Int32), ∃ (fN2o : Nat → Int32), ∃ (fR2o : Nat → UInt64), ∃ (fS2o : Nat → Int32), ∃ (cs2o : List Ce), ∃ (y1 : Int32), ∃ (y2 : Int32), ∃ (y3 : Int32), ∃ (y4 : Int32), ∃ (y5 : Int32), ∃ (y6 : Int32), ∃ (y7 : Int32), ∃ (y8 : Int32), ∃ (y9 : Int32), ∃ (y10 : Int32), ∃ (fyo : Nat → Int32), ∃ (p0o : Int32), ∃ (p1o : Int32), ∃ (p2o : Int32), ∃ (p3o : Int32), ∃ (p4o : Int32), ∃ (no : Nat), ∃ (fo : Nat → Int32), ∃ (bso : List Nat), ∃ (tko : Nat), w1 = [(w, .inr (4, [.ref cn, .ref a, .ref o, .ref e, .ref e2, .ref q])), (cn, .inl (cI, 8, .inl co)), (o, .inr (1, [.ref oy, .int y1, .int y2, .int y3, .int y4, .int y5, .int y6, .int y7, .int y8, .int y9, .int y10])), (oy, .inl (cI, 90, .inl fyo)), (a, .inr (3, [.ref b, .int (nI no)])), (b, .inl (cI, 140, .inl fo)), (e, .inr (0, [.ref en, .ref er, .ref es, .int (nI exo), .int tmo, .int sno, .int (nI zo), .int obo])), (en, .inl (cI, 40, .inl fNo)), (er, .inl (cD, 40, .inr (.inr (.inr (.inl fRo))))), (es, .inl (cI, 40, .inl fSo)), (e2, .inr (0, [.ref en2, .ref er2, .ref es2, .int (nI ex2o), .int tm2o, .int sn2o, .int (nI z2o), .int ob2o])), (en2, .inl (cI, 40, .inl fN2o)), (er2, .inl (cD, 40, .inr (.inr (.inr (.inl fR2o))))), (es2, .inl (cI, 40, .inl fS2o)), (q, .inr (2, [.int p0o, .int p1o, .int p2o, .int p3o, .int p4o]))] ∧ v = some (.int (nI tko)) ∧ (bso, tko, (co, (exo, tmo, sno, obo, cso), (ex2o, tm2o, sn2o, ob2o, cs2o), (p0o, p1o, p2o, p3o, p4o))) = dl (bs ++ wbs x k).length (bs ++ wbs x k) 0 (kc, (ex, tm, sn, ob, cs), (ex2, tm2, sn2, ob2, cs2), (p0, p1, p2, p3, p4)) ∧ Rp fo bso ∧ bso.length = no ∧ cls bso = 0 ∧ RpE fNo fRo fSo cso ∧ cso.length = zo ∧ zo ≤ 40 ∧ exo ≤ 1 ∧ RpE fN2o fR2o fS2o cs2o ∧ cs2o.length = z2o ∧ z2o ≤ 40 ∧ ex2o ≤ 1)) [.ref w, .int x, .int (nI k)].toArray zs 0 0 (inW [(w, .inr (4, [.ref cn, .ref a, .ref o, .ref e, .ref e2, .ref q])), (cn, .inl (cI, 8, .inl kc)), (o, .inr (1, [.ref oy, .int x1, .int x2, .int x3, .int x4, .int x5, .int x6, .int x7, .int x8, .int x9, .int x10])), (oy, .inl (cI, 90, .inl fy)), (a, .inr (3, [.ref b, .int (nI n)])), (b, .inl (cI, 140, .inl f)), (e, .inr (0, [.ref en, .ref er, .ref es, .int (nI ex), .int tm, .int sn, .int (nI z), .int ob])), (en, .inl (cI, 40, .inl fN)), (er, .inl (cD, 40, .inr (.inr (.inr (.inl fR))))), (es, .inl (cI, 40, .inl fS)), (e2, .inr (0, [.ref en2, .ref er2, .ref es2, .int (nI ex2), .int tm2, .int sn2, .int (nI z2), .int ob2])), (en2, .inl (cI, 40, .inl fN2)), (er2, .inl (cD, 40, .inr (.inr (.inr (.inl fR2))))), (es2, .inl (cI, 40, .inl fS2)), (q, .inr (2, [.int p0, .int p1, .int p2, .int p3, .int p4]))])) (F0 zm 13 ls [])) := by
    intro fuel
    induction fuel with
    | zero => exact (by intros; exact absurd (by assumption) (Nat.not_lt_zero _))
    | succ fuel ih =>
      intro m bj nj fj hm1 hbj hfj hnj hnj1 hBj hm H locs hP hD hS ls hl
      refine lv_iload_n hx hb dX4_put_13 rfl (lv_at hl 2 rfl) ?_
      refine lv_if_lt (tgt := 35) hx hb dX4_put_14 (by decide) (fun c_14 => ?_) (fun c_14 => ?_)
      · skip
        obtain rfl := neg_0 (by omega) c_14
        have hbj : bj = bs ++ wbs x k := by rw [← hbj]; exact (List.append_nil bj).symm
        subst hbj
        refine lv_aload_n hx hb dX4_put_35 rfl (lv_at hl 0 rfl) ?_
        refine x_callV (As := []) (rest := []) ⟨hx, hb, hml, hown, hts⟩ (c_X4_deal (zl := zl) (D := D) (cI := cI) (cD := cD) w cn kc o oy x1 x2 x3 x4 x5 x6 x7 x8 x9 x10 fy a b nj fj (bs ++ wbs x k) e en er es ex tm sn z ob fN fR fS cs e2 en2 er2 es2 ex2 tm2 sn2 z2 ob2 fN2 fR2 fS2 cs2 q p0 p1 p2 p3 p4 hfj hnj (by omega) hBj (by first | assumption | omega) (by first | assumption | omega) (by first | assumption | omega) (by first | assumption | omega) (by first | assumption | omega) (by first | assumption | omega) (by first | assumption | omega) (by first | assumption | omega)) (cwV 0 hts gX4_put_X4_deal rfl rfl rfl (by decide +kernel) ⟨Nat.le_of_ble_eq_true rfl, Nat.le_of_ble_eq_true rfl⟩) hK hN hP hD hS [0, 1, 2, 3, 4, 5, 6, 7, 8, 9, 10, 11, 12, 13, 14] rfl rfl 0 rfl rfl rfl hl.1 rfl (Nat.le_of_ble_eq_true rfl) dX4_put_36 ⟨Nat.le_of_ble_eq_true rfl, Nat.le_of_ble_eq_true rfl⟩ (fun v_1 w_1 H locs hr_1 hP hD hS => ?_)
        obtain ⟨co, exo, tmo, sno, zo, obo, fNo, fRo, fSo, cso, ex2o, tm2o, sn2o, z2o, ob2o, fN2o, fR2o, fS2o, cs2o, y1, y2, y3, y4, y5, y6, y7, y8, y9, y10, fyo, p0o, p1o, p2o, p3o, p4o, no, fo, bso, tko, rfl, rfl, d0, d1, d2, d3, d4, d5, d6, d7, d8, d9, d10, d11⟩ := hr_1
        refine W.eq (g2 := F0 zm 39 ls [.int (nI tko)]) rfl ?_
        have hP : va_P D vwCl [(w, .inr (4, [.ref cn, .ref a, .ref o, .ref e, .ref e2, .ref q])), (cn, .inl (cI, 8, .inl co)), (o, .inr (1, [.ref oy, .int y1, .int y2, .int y3, .int y4, .int y5, .int y6, .int y7, .int y8, .int y9, .int y10])), (oy, .inl (cI, 90, .inl fyo)), (a, .inr (3, [.ref b, .int (nI no)])), (b, .inl (cI, 140, .inl fo)), (e, .inr (0, [.ref en, .ref er, .ref es, .int (nI exo), .int tmo, .int sno, .int (nI zo), .int obo])), (en, .inl (cI, 40, .inl fNo)), (er, .inl (cD, 40, .inr (.inr (.inr (.inl fRo))))), (es, .inl (cI, 40, .inl fSo)), (e2, .inr (0, [.ref en2, .ref er2, .ref es2, .int (nI ex2o), .int tm2o, .int sn2o, .int (nI z2o), .int ob2o])), (en2, .inl (cI, 40, .inl fN2o)), (er2, .inl (cD, 40, .inr (.inr (.inr (.inl fR2o))))), (es2, .inl (cI, 40, .inl fS2o)), (q, .inr (2, [.int p0o, .int p1o, .int p2o, .int p3o, .int p4o]))] _ := hP
        have hD : va_D (inW [(w, .inr (4, [.ref cn, .ref a, .ref o, .ref e, .ref e2, .ref q])), (cn, .inl (cI, 8, .inl kc)), (o, .inr (1, [.ref oy, .int x1, .int x2, .int x3, .int x4, .int x5, .int x6, .int x7, .int x8, .int x9, .int x10])), (oy, .inl (cI, 90, .inl fy)), (a, .inr (3, [.ref b, .int (nI n)])), (b, .inl (cI, 140, .inl f)), (e, .inr (0, [.ref en, .ref er, .ref es, .int (nI ex), .int tm, .int sn, .int (nI z), .int ob])), (en, .inl (cI, 40, .inl fN)), (er, .inl (cD, 40, .inr (.inr (.inr (.inl fR))))), (es, .inl (cI, 40, .inl fS)), (e2, .inr (0, [.ref en2, .ref er2, .ref es2, .int (nI ex2), .int tm2, .int sn2, .int (nI z2), .int ob2])), (en2, .inl (cI, 40, .inl fN2)), (er2, .inl (cD, 40, .inr (.inr (.inr (.inl fR2))))), (es2, .inl (cI, 40, .inl fS2)), (q, .inr (2, [.int p0, .int p1, .int p2, .int p3, .int p4]))]) [(w, .inr (4, [.ref cn, .ref a, .ref o, .ref e, .ref e2, .ref q])), (cn, .inl (cI, 8, .inl co)), (o, .inr (1, [.ref oy, .int y1, .int y2, .int y3, .int y4, .int y5, .int y6, .int y7, .int y8, .int y9, .int y10])), (oy, .inl (cI, 90, .inl fyo)), (a, .inr (3, [.ref b, .int (nI no)])), (b, .inl (cI, 140, .inl fo)), (e, .inr (0, [.ref en, .ref er, .ref es, .int (nI exo), .int tmo, .int sno, .int (nI zo), .int obo])), (en, .inl (cI, 40, .inl fNo)), (er, .inl (cD, 40, .inr (.inr (.inr (.inl fRo))))), (es, .inl (cI, 40, .inl fSo)), (e2, .inr (0, [.ref en2, .ref er2, .ref es2, .int (nI ex2o), .int tm2o, .int sn2o, .int (nI z2o), .int ob2o])), (en2, .inl (cI, 40, .inl fN2o)), (er2, .inl (cD, 40, .inr (.inr (.inr (.inl fR2o))))), (es2, .inl (cI, 40, .inl fS2o)), (q, .inr (2, [.int p0o, .int p1o, .int p2o, .int p3o, .int p4o]))] := hD
        exact W.iret (v := nI tko) hx hb hr (fun tz htz hWz => ⟨some (.int (nI tko)), [(w, .inr (4, [.ref cn, .ref a, .ref o, .ref e, .ref e2, .ref q])), (cn, .inl (cI, 8, .inl co)), (o, .inr (1, [.ref oy, .int y1, .int y2, .int y3, .int y4, .int y5, .int y6, .int y7, .int y8, .int y9, .int y10])), (oy, .inl (cI, 90, .inl fyo)), (a, .inr (3, [.ref b, .int (nI no)])), (b, .inl (cI, 140, .inl fo)), (e, .inr (0, [.ref en, .ref er, .ref es, .int (nI exo), .int tmo, .int sno, .int (nI zo), .int obo])), (en, .inl (cI, 40, .inl fNo)), (er, .inl (cD, 40, .inr (.inr (.inr (.inl fRo))))), (es, .inl (cI, 40, .inl fSo)), (e2, .inr (0, [.ref en2, .ref er2, .ref es2, .int (nI ex2o), .int tm2o, .int sn2o, .int (nI z2o), .int ob2o])), (en2, .inl (cI, 40, .inl fN2o)), (er2, .inl (cD, 40, .inr (.inr (.inr (.inl fR2o))))), (es2, .inl (cI, 40, .inl fS2o)), (q, .inr (2, [.int p0o, .int p1o, .int p2o, .int p3o, .int p4o]))], rfl, ⟨_, _, _, _, _, _, _, _, _, cso, _, _, _, _, _, _, _, _, cs2o, _, _, _, _, _, _, _, _, _, _, _, _, _, _, _, _, _, _, bso, _, rfl, rfl, d0, d1, d2, d3, d4, d5, d6, d7, d8, d9, d10, d11⟩, rfl, by rw [htz]; exact hP, hS.F htz⟩) (fun q h => hS.2.2 q h) dX4_put_39
      · skip
        have hm2 := neg_1 (by omega) c_14
        have el_2 : nI m - nI 1 = nI (m - 1) := pk_sub (by omega)
        have hl : lv_has ls 4 [(0, .ref w), (1, .int x), (3, .int (nI (m - 1)))] := by rw [← el_2]; exact hl
        refine lv_aload_n hx hb dX4_put_17 rfl (lv_at hl 0 rfl) ?_
        refine va_get (D := D) (ci := 4) (v := .ref a) (C := RX4) (T := TX4) (N := 6) hx hb hts hin4 hown hK hP 0 rfl rfl 1 (by decide) (hts (.fieldLink RX4 16 "EpochSifter" "stream" "LEpochSifter$Stream;") (by decide +kernel)) (fun _ h9 => h9) rfl dX4_put_18 ?_
        refine lv_iload_n hx hb dX4_put_21 rfl (lv_at hl 1 rfl) ?_
        refine lv_iload_n hx hb dX4_put_22 rfl (lv_at hl 2 rfl) ?_
        refine r_callSi (As := [.int x, .int (nI (m - 1))]) (rest := [.ref a]) ⟨hx, hb, hml, hown, hts⟩ (c_X4_byteOf (zl := zl) (D := D) (cI := cI) (cD := cD) x (m - 1) (by omega)) (va_cwS 2 hts gX4_put_X4_byteOf rfl rfl rfl (by decide +kernel) ⟨Nat.le_of_ble_eq_true rfl, Nat.le_of_ble_eq_true rfl⟩) hK hN hP hD rfl hl.1 rfl (Nat.le_of_ble_eq_true rfl) dX4_put_23 ⟨Nat.le_of_ble_eq_true rfl, Nat.le_of_ble_eq_true rfl⟩ (fun r_3 h_3 => ?_)
        obtain rfl := h_3
        refine x_callV (As := [.int (nI (wb x (m - 1)))]) (rest := []) ⟨hx, hb, hml, hown, hts⟩ (c_X3_append (zl := zl) (D := D) (cI := cI) (cD := cD) a b nj fj bj (wb x (m - 1)) hfj hnj (by omega)) (cwV 1 hts gX4_put_X3_append rfl rfl rfl (by decide +kernel) ⟨Nat.le_of_ble_eq_true rfl, Nat.le_of_ble_eq_true rfl⟩) hK hN hP hD hS [4, 5] rfl rfl 4 rfl rfl rfl hl.1 rfl (Nat.le_of_ble_eq_true rfl) dX4_put_26 ⟨Nat.le_of_ble_eq_true rfl, Nat.le_of_ble_eq_true rfl⟩ (fun v_4 w_4 H locs hr_4 hP hD hS => ?_)
        obtain ⟨fk, rfl, rfl, hfk⟩ := hr_4
        refine W.eq (g2 := F0 zm 29 ls []) rfl ?_
        have hP : va_P D vwCl [(w, .inr (4, [.ref cn, .ref a, .ref o, .ref e, .ref e2, .ref q])), (cn, .inl (cI, 8, .inl kc)), (o, .inr (1, [.ref oy, .int x1, .int x2, .int x3, .int x4, .int x5, .int x6, .int x7, .int x8, .int x9, .int x10])), (oy, .inl (cI, 90, .inl fy)), (a, .inr (3, [.ref b, .int (nI (nj + 1))])), (b, .inl (cI, 140, .inl fk)), (e, .inr (0, [.ref en, .ref er, .ref es, .int (nI ex), .int tm, .int sn, .int (nI z), .int ob])), (en, .inl (cI, 40, .inl fN)), (er, .inl (cD, 40, .inr (.inr (.inr (.inl fR))))), (es, .inl (cI, 40, .inl fS)), (e2, .inr (0, [.ref en2, .ref er2, .ref es2, .int (nI ex2), .int tm2, .int sn2, .int (nI z2), .int ob2])), (en2, .inl (cI, 40, .inl fN2)), (er2, .inl (cD, 40, .inr (.inr (.inr (.inl fR2))))), (es2, .inl (cI, 40, .inl fS2)), (q, .inr (2, [.int p0, .int p1, .int p2, .int p3, .int p4]))] _ := hP
        have hD : va_D (inW [(w, .inr (4, [.ref cn, .ref a, .ref o, .ref e, .ref e2, .ref q])), (cn, .inl (cI, 8, .inl kc)), (o, .inr (1, [.ref oy, .int x1, .int x2, .int x3, .int x4, .int x5, .int x6, .int x7, .int x8, .int x9, .int x10])), (oy, .inl (cI, 90, .inl fy)), (a, .inr (3, [.ref b, .int (nI n)])), (b, .inl (cI, 140, .inl f)), (e, .inr (0, [.ref en, .ref er, .ref es, .int (nI ex), .int tm, .int sn, .int (nI z), .int ob])), (en, .inl (cI, 40, .inl fN)), (er, .inl (cD, 40, .inr (.inr (.inr (.inl fR))))), (es, .inl (cI, 40, .inl fS)), (e2, .inr (0, [.ref en2, .ref er2, .ref es2, .int (nI ex2), .int tm2, .int sn2, .int (nI z2), .int ob2])), (en2, .inl (cI, 40, .inl fN2)), (er2, .inl (cD, 40, .inr (.inr (.inr (.inl fR2))))), (es2, .inl (cI, 40, .inl fS2)), (q, .inr (2, [.int p0, .int p1, .int p2, .int p3, .int p4]))]) [(w, .inr (4, [.ref cn, .ref a, .ref o, .ref e, .ref e2, .ref q])), (cn, .inl (cI, 8, .inl kc)), (o, .inr (1, [.ref oy, .int x1, .int x2, .int x3, .int x4, .int x5, .int x6, .int x7, .int x8, .int x9, .int x10])), (oy, .inl (cI, 90, .inl fy)), (a, .inr (3, [.ref b, .int (nI (nj + 1))])), (b, .inl (cI, 140, .inl fk)), (e, .inr (0, [.ref en, .ref er, .ref es, .int (nI ex), .int tm, .int sn, .int (nI z), .int ob])), (en, .inl (cI, 40, .inl fN)), (er, .inl (cD, 40, .inr (.inr (.inr (.inl fR))))), (es, .inl (cI, 40, .inl fS)), (e2, .inr (0, [.ref en2, .ref er2, .ref es2, .int (nI ex2), .int tm2, .int sn2, .int (nI z2), .int ob2])), (en2, .inl (cI, 40, .inl fN2)), (er2, .inl (cD, 40, .inr (.inr (.inr (.inl fR2))))), (es2, .inl (cI, 40, .inl fS2)), (q, .inr (2, [.int p0, .int p1, .int p2, .int p3, .int p4]))] := hD
        refine lv_iinc (v := nI (m - 1) - nI 1) (lv' := [(3, .int (nI (m - 1) - nI 1)), (0, .ref w), (1, .int x)]) hx hb dX4_put_29 hl (k := 2) rfl (dec_i _) (by decide) rfl (fun ls hl => ?_)
        refine lv_goto (tgt := 13) hx hb dX4_put_32 (by decide) ?_
        exact ih (m - 1) (bj ++ [wb x (m - 1)]) (nj + 1) fk (by first | assumption | omega) (by rw [← hbj, List.append_assoc]; obtain ⟨m, rfl⟩ : ∃ m', m = m' + 1 := ⟨m - 1, by omega⟩; rfl) hfk (by rw [List.length_append, hnj]; rfl) (by omega) (hBj.app (wb_lt _ _)) (by omega) _ _ hP hD hS ls (lv_sub hl [1, 2, 0] rfl)
  refine lv_iload_n hx hb dX4_put_0 rfl (lv_at hl 2 rfl) ?_
  refine r_callSi (As := [.int (nI k)]) (rest := []) ⟨hx, hb, hml, hown, hts⟩ (c_X4_isByteCount (zl := zl) (D := D) (cI := cI) (cD := cD) k (by first | assumption | omega)) (va_cwS 1 hts gX4_put_X4_isByteCount rfl rfl rfl (by decide +kernel) ⟨Nat.le_of_ble_eq_true rfl, Nat.le_of_ble_eq_true rfl⟩) hK hN hP hD rfl hl.1 rfl (Nat.le_of_ble_eq_true rfl) dX4_put_1 ⟨Nat.le_of_ble_eq_true rfl, Nat.le_of_ble_eq_true rfl⟩ (fun r_5 h_5 => ?_)
  obtain rfl := h_5
  refine rz_ne (tgt := 9) hx hb dX4_put_4 (by decide) (by omega) (fun c_4 => ?_) (fun c_4 => ?_)
  · skip
    refine lv_iload_n hx hb dX4_put_9 rfl (lv_at hl 2 rfl) ?_
    refine lv_iconst (v := nI 1) hx hb dX4_put_10 (by decide) ?_
    refine lv_isub hx hb dX4_put_11 ?_
    refine r_i (v := nI k - nI 1) (rfl) ?_
    refine lv_istore_n (lv' := [(3, .int (nI k - nI 1)), (0, .ref w), (1, .int x), (2, .int (nI k))]) hx hb dX4_put_12 rfl hl (by decide) rfl (fun ls hl => ?_)
    exact (cuts _) k bs n f (by first | assumption | omega) rfl hf hbn (by omega) hB (Nat.lt_succ_self _) _ _ hP hD hS ls (lv_sub hl [1, 2, 0] rfl)
  · omega
set_option maxHeartbeats 4000000 in
set_option maxRecDepth 100000 in
/-- a put that is refused -/
theorem c_X4_put_no {zl : Launch} {D : va_G} {cI cD : ClassId} (w : Nat) (x : Int32) (k : Int32) (hk : k < nI 1 ∨ nI 4 < k) : Ci zl yX4_put wsX4_put ({ frames := 6, cells := 0, slots := 0, locals := 148 }) D cI cD [.ref w, .int x, .int k] [] (fun r => r = -1) := by
  refine Met.ofW (cc := cX4_put) (maxL := 4) (ret := (some .int)) (by decide) rfl ?_
  intro zp ze zs zm zargs zb zt zc zs₁ B hml hv
  obtain ⟨rfl, hP, hK, hD0, hN⟩ := hv
  have hx := B.exec
  have hb := B.bytes
  have hr := B.returns
  have hts := atoms_spec (ws := wsX4_put) B.pre
  have hown : zs.vm.findClass RX4 = some zm.cls := findClass_of_methodNamed B.named
  have hlocks := B.notSynchronized
  have hD := inW_self hD0
  have hS : va_S (inW []) zs.heap zs.heap [] := va_S.rf
  have hl := lv_entry [.ref w, .int x, .int k] (n := 4) (Nat.le_of_ble_eq_true rfl)
  rw [lg_entry_eq]
  generalize (lg_sl [.ref w, .int x, .int k] ++ List.replicate (4 - (lg_sl [.ref w, .int x, .int k]).length) Slot.unset).toArray = ls at hl ⊢
  have hl : lv_has ls 4 [(0, .ref w), (1, .int x), (2, .int k)] := hl
  refine lv_iload_n hx hb dX4_put_0 rfl (lv_at hl 2 rfl) ?_
  refine r_callSi (As := [.int k]) (rest := []) ⟨hx, hb, hml, hown, hts⟩ (c_X4_isByteCount_no (zl := zl) (D := D) (cI := cI) (cD := cD) k hk) (va_cwS 1 hts gX4_put_X4_isByteCount rfl rfl rfl (by decide +kernel) ⟨Nat.le_of_ble_eq_true rfl, Nat.le_of_ble_eq_true rfl⟩) hK hN hP hD rfl hl.1 rfl (Nat.le_of_ble_eq_true rfl) dX4_put_1 ⟨Nat.le_of_ble_eq_true rfl, Nat.le_of_ble_eq_true rfl⟩ (fun r_1 h_1 => ?_)
  obtain rfl := h_1
  refine rz_ne (tgt := 9) hx hb dX4_put_4 (by decide) (by omega) (fun c_4 => ?_) (fun c_4 => ?_)
  · omega
  · skip
    refine lv_iconst (v := (-1)) hx hb dX4_put_7 (by decide) ?_
    exact W.iret (v := -1) hx hb hr (fun tz htz hWz => ⟨_, rfl, by first | rfl | assumption | omega | simp_all, htz⟩) (fun _ h => absurd h List.not_mem_nil) dX4_put_8
set_option maxHeartbeats 4000000 in
set_option maxRecDepth 100000 in
/-- what is kept goes -/
theorem c_X4_flush {zl : Launch} {D : va_G} {cI cD : ClassId} (w : Nat) (cn : Nat) (kc : Nat → Int32) (a : Nat) (b : Nat) (n : Nat) (f : Nat → Int32) (bs : List Nat) (o : Nat) (e2 : Nat) (q : Nat) (e : Nat) (en : Nat) (er : Nat) (es : Nat) (ex : Nat) (tm : Int32) (sn : Int32) (z : Nat) (ob : Int32) (hf : Rp f bs) (hbn : bs.length = n) (hn : n ≤ 140) (hex : ex ≤ 1) : Cx zl yX4_flush wsX4_flush ({ frames := 2, cells := 0, slots := 0, locals := 61 }) D cI cD [.ref w] [(w, .inr (4, [.ref cn, .ref a, .ref o, .ref e, .ref e2, .ref q])), (cn, .inl (cI, 8, .inl kc)), (a, .inr (3, [.ref b, .int (nI n)])), (b, .inl (cI, 140, .inl f)), (e, .inr (0, [.ref en, .ref er, .ref es, .int (nI ex), .int tm, .int sn, .int (nI z), .int ob]))] (fun v w1 => ∃ (co : Nat → Int32), ∃ (no : Nat), ∃ (fo : Nat → Int32), w1 = [(w, .inr (4, [.ref cn, .ref a, .ref o, .ref e, .ref e2, .ref q])), (cn, .inl (cI, 8, .inl co)), (a, .inr (3, [.ref b, .int (nI no)])), (b, .inl (cI, 140, .inl fo)), (e, .inr (0, [.ref en, .ref er, .ref es, .int (nI 0), .int tm, .int sn, .int (nI z), .int ob]))] ∧ v = some (.int (nI n)) ∧ (co = if ex = 1 then bmp kc 5 else kc) ∧ no = 0) := by
  refine Met.ofW (cc := cX4_flush) (maxL := 2) (ret := (some .int)) (by decide) rfl ?_
  intro zp ze zs zm zargs zb zt zc zs₁ B hml hv
  obtain ⟨rfl, hP, hK, hD0, hN⟩ := hv
  have hx := B.exec
  have hb := B.bytes
  have hr := B.returns
  have hts := atoms_spec (ws := wsX4_flush) B.pre
  have hown : zs.vm.findClass RX4 = some zm.cls := findClass_of_methodNamed B.named
  have hlocks := B.notSynchronized
  have hD := inW_self hD0
  have hS : va_S (inW [(w, .inr (4, [.ref cn, .ref a, .ref o, .ref e, .ref e2, .ref q])), (cn, .inl (cI, 8, .inl kc)), (a, .inr (3, [.ref b, .int (nI n)])), (b, .inl (cI, 140, .inl f)), (e, .inr (0, [.ref en, .ref er, .ref es, .int (nI ex), .int tm, .int sn, .int (nI z), .int ob]))]) zs.heap zs.heap [] := va_S.rf
  have hl := lv_entry [.ref w] (n := 2) (Nat.le_of_ble_eq_true rfl)
  rw [lg_entry_eq]
  generalize (lg_sl [.ref w] ++ List.replicate (2 - (lg_sl [.ref w]).length) Slot.unset).toArray = ls at hl ⊢
  have hl : lv_has ls 2 [(0, .ref w)] := hl
  have hin3 : ∀ w ∈ u_ws RX3 TX3 2, w ∈ wsX4_flush := by decide +kernel
  have hin4 : ∀ w ∈ u_ws RX4 TX4 6, w ∈ wsX4_flush := by decide +kernel
  refine lv_aload_n hx hb dX4_flush_0 rfl (lv_at hl 0 rfl) ?_
  refine va_get (D := D) (ci := 4) (v := .ref a) (C := RX4) (T := TX4) (N := 6) hx hb hts hin4 hown hK hP 0 rfl rfl 1 (by decide) (hts (.fieldLink RX4 16 "EpochSifter" "stream" "LEpochSifter$Stream;") (by decide +kernel)) (fun _ h9 => h9) rfl dX4_flush_1 ?_
  refine va_get (D := D) (ci := 3) (v := .int (nI n)) (C := RX3) (T := TX3) (N := 2) hx hb hts hin3 hown hK hP 2 rfl rfl 1 (by decide) (hts (.fieldLink RX4 60 "EpochSifter$Stream" "kept" "I") (by decide +kernel)) (fun _ h9 => h9) rfl dX4_flush_4 ?_
  refine lv_istore_n (lv' := [(1, .int (nI n)), (0, .ref w)]) hx hb dX4_flush_7 rfl hl (by decide) rfl (fun ls hl => ?_)
  refine lv_aload_n hx hb dX4_flush_8 rfl (lv_at hl 1 rfl) ?_
  refine va_get (D := D) (ci := 4) (v := .ref a) (C := RX4) (T := TX4) (N := 6) hx hb hts hin4 hown hK hP 0 rfl rfl 1 (by decide) (hts (.fieldLink RX4 16 "EpochSifter" "stream" "LEpochSifter$Stream;") (by decide +kernel)) (fun _ h9 => h9) rfl dX4_flush_9 ?_
  refine lv_iload_n hx hb dX4_flush_12 rfl (lv_at hl 0 rfl) ?_
  refine x_callV (As := [.int (nI n)]) (rest := []) ⟨hx, hb, hml, hown, hts⟩ (c_X3_drop (zl := zl) (D := D) (cI := cI) (cD := cD) a b n f bs n (by first | assumption | omega) (by first | assumption | omega) (by first | assumption | omega) (by omega)) (cwV 1 hts gX4_flush_X3_drop rfl rfl rfl (by decide +kernel) ⟨Nat.le_of_ble_eq_true rfl, Nat.le_of_ble_eq_true rfl⟩) hK hN hP hD hS [2, 3] rfl rfl 2 rfl rfl rfl hl.1 rfl (Nat.le_of_ble_eq_true rfl) dX4_flush_13 ⟨Nat.le_of_ble_eq_true rfl, Nat.le_of_ble_eq_true rfl⟩ (fun v_1 w_1 H locs hr_1 hP hD hS => ?_)
  obtain ⟨fo_1, rfl, rfl, k1_0⟩ := hr_1
  refine W.eq (g2 := F0 zm 16 ls []) rfl ?_
  have hP : va_P D vwCl [(w, .inr (4, [.ref cn, .ref a, .ref o, .ref e, .ref e2, .ref q])), (cn, .inl (cI, 8, .inl kc)), (a, .inr (3, [.ref b, .int (nI (n - n))])), (b, .inl (cI, 140, .inl fo_1)), (e, .inr (0, [.ref en, .ref er, .ref es, .int (nI ex), .int tm, .int sn, .int (nI z), .int ob]))] _ := hP
  have hD : va_D (inW [(w, .inr (4, [.ref cn, .ref a, .ref o, .ref e, .ref e2, .ref q])), (cn, .inl (cI, 8, .inl kc)), (a, .inr (3, [.ref b, .int (nI n)])), (b, .inl (cI, 140, .inl f)), (e, .inr (0, [.ref en, .ref er, .ref es, .int (nI ex), .int tm, .int sn, .int (nI z), .int ob]))]) [(w, .inr (4, [.ref cn, .ref a, .ref o, .ref e, .ref e2, .ref q])), (cn, .inl (cI, 8, .inl kc)), (a, .inr (3, [.ref b, .int (nI (n - n))])), (b, .inl (cI, 140, .inl fo_1)), (e, .inr (0, [.ref en, .ref er, .ref es, .int (nI ex), .int tm, .int sn, .int (nI z), .int ob]))] := hD
  refine lv_aload_n hx hb dX4_flush_16 rfl (lv_at hl 1 rfl) ?_
  refine x_callV (As := []) (rest := []) ⟨hx, hb, hml, hown, hts⟩ (c_X4_loseGathered (zl := zl) (D := D) (cI := cI) (cD := cD) w cn kc a o e2 q e en er es ex tm sn z ob (by first | assumption | omega)) (cwV 0 hts gX4_flush_X4_loseGathered rfl rfl rfl (by decide +kernel) ⟨Nat.le_of_ble_eq_true rfl, Nat.le_of_ble_eq_true rfl⟩) hK hN hP hD hS [0, 1, 4] rfl rfl 0 rfl rfl rfl hl.1 rfl (Nat.le_of_ble_eq_true rfl) dX4_flush_17 ⟨Nat.le_of_ble_eq_true rfl, Nat.le_of_ble_eq_true rfl⟩ (fun v_2 w_2 H locs hr_2 hP hD hS => ?_)
  obtain ⟨co1, rfl, rfl, hco⟩ := hr_2
  refine W.eq (g2 := F0 zm 20 ls []) rfl ?_
  have hP : va_P D vwCl [(w, .inr (4, [.ref cn, .ref a, .ref o, .ref e, .ref e2, .ref q])), (cn, .inl (cI, 8, .inl co1)), (a, .inr (3, [.ref b, .int (nI (n - n))])), (b, .inl (cI, 140, .inl fo_1)), (e, .inr (0, [.ref en, .ref er, .ref es, .int (nI 0), .int tm, .int sn, .int (nI z), .int ob]))] _ := hP
  have hD : va_D (inW [(w, .inr (4, [.ref cn, .ref a, .ref o, .ref e, .ref e2, .ref q])), (cn, .inl (cI, 8, .inl kc)), (a, .inr (3, [.ref b, .int (nI n)])), (b, .inl (cI, 140, .inl f)), (e, .inr (0, [.ref en, .ref er, .ref es, .int (nI ex), .int tm, .int sn, .int (nI z), .int ob]))]) [(w, .inr (4, [.ref cn, .ref a, .ref o, .ref e, .ref e2, .ref q])), (cn, .inl (cI, 8, .inl co1)), (a, .inr (3, [.ref b, .int (nI (n - n))])), (b, .inl (cI, 140, .inl fo_1)), (e, .inr (0, [.ref en, .ref er, .ref es, .int (nI 0), .int tm, .int sn, .int (nI z), .int ob]))] := hD
  refine lv_iload_n hx hb dX4_flush_20 rfl (lv_at hl 0 rfl) ?_
  exact W.iret (v := nI n) hx hb hr (fun tz htz hWz => ⟨some (.int (nI n)), [(w, .inr (4, [.ref cn, .ref a, .ref o, .ref e, .ref e2, .ref q])), (cn, .inl (cI, 8, .inl co1)), (a, .inr (3, [.ref b, .int (nI (n - n))])), (b, .inl (cI, 140, .inl fo_1)), (e, .inr (0, [.ref en, .ref er, .ref es, .int (nI 0), .int tm, .int sn, .int (nI z), .int ob]))], rfl, ⟨_, _, _, rfl, rfl, hco, by omega⟩, rfl, by rw [htz]; exact hP, hS.F htz⟩) (fun q h => hS.2.2 q h) dX4_flush_21
set_option maxHeartbeats 4000000 in
set_option maxRecDepth 100000 in
/-- the check over a word's bytes -/
theorem c_X4_check {zl : Launch} {D : va_G} {cI cD : ClassId} (w : Nat) (c : Int32) (x : Int32) (k : Nat) (hk : 1 ≤ k ∧ k ≤ 4) : Ci zl yX4_check wsX4_check ({ frames := 1, cells := 0, slots := 0, locals := 23 }) D cI cD [.ref w, .int c, .int x, .int (nI k)] [] (fun r => r = nI (ckW x k (c.toBitVec.toNat % 16777216))) := by
  refine Met.ofW (cc := cX4_check) (maxL := 6) (ret := (some .int)) (by decide) rfl ?_
  intro zp ze zs zm zargs zb zt zc zs₁ B hml hv
  obtain ⟨rfl, hP, hK, hD0, hN⟩ := hv
  have hx := B.exec
  have hb := B.bytes
  have hr := B.returns
  have hts := atoms_spec (ws := wsX4_check) B.pre
  have hown : zs.vm.findClass RX4 = some zm.cls := findClass_of_methodNamed B.named
  have hlocks := B.notSynchronized
  have hD := inW_self hD0
  have hS : va_S (inW []) zs.heap zs.heap [] := va_S.rf
  have hl := lv_entry [.ref w, .int c, .int x, .int (nI k)] (n := 6) (Nat.le_of_ble_eq_true rfl)
  rw [lg_entry_eq]
  generalize (lg_sl [.ref w, .int c, .int x, .int (nI k)] ++ List.replicate (6 - (lg_sl [.ref w, .int c, .int x, .int (nI k)]).length) Slot.unset).toArray = ls at hl ⊢
  have hl : lv_has ls 6 [(0, .ref w), (1, .int c), (2, .int x), (3, .int (nI k))] := hl
  have cuts : ∀ fuel : Nat, (∀ (m : Nat), ∀ (cj : Nat), (m ≤ 4) → (ckW x m cj = ckW x k (c.toBitVec.toNat % 16777216)) → (cj < 16777216) → m < fuel → ∀ (ls : Array Slot), lv_has ls 6 [(2, .int x), (4, .int (nI cj)), (5, .int (nI m - nI 1))] → W zp zl ze ({ frames := 1, cells := 0, slots := 0, locals := 23 }) zs zm [.ref w, .int c, .int x, .int (nI k)].toArray zb zt zc zs.heap [] 0 0 (MQ zb (vp_Si (fun r => r = nI (ckW x k (c.toBitVec.toNat % 16777216)))) [.ref w, .int c, .int x, .int (nI k)].toArray zs 0 0 (fun _ => False)) (F0 zm 20 ls [])) := by
    intro fuel
    induction fuel with
    | zero => exact (by intros; exact absurd (by assumption) (Nat.not_lt_zero _))
    | succ fuel ih =>
      intro m cj hm1 hcj hcl hm ls hl
      refine lv_iload hx hb dX4_check_20 (lv_at hl 2 rfl) ?_
      refine lv_if_lt (tgt := 44) hx hb dX4_check_22 (by decide) (fun c_22 => ?_) (fun c_22 => ?_)
      · skip
        obtain rfl := neg_0 (by omega) c_22
        refine lv_iload hx hb dX4_check_44 (lv_at hl 1 rfl) ?_
        exact W.iret (v := nI cj) hx hb hr (fun tz htz hWz => ⟨_, rfl, congrArg nI hcj, htz⟩) (fun _ h => absurd h List.not_mem_nil) dX4_check_46
      · skip
        have hm2 := neg_1 (by omega) c_22
        have el_1 : nI m - nI 1 = nI (m - 1) := pk_sub (by omega)
        have hl : lv_has ls 6 [(2, .int x), (4, .int (nI cj)), (5, .int (nI (m - 1)))] := by rw [← el_1]; exact hl
        refine lv_iload hx hb dX4_check_25 (lv_at hl 1 rfl) ?_
        refine lv_iload_n hx hb dX4_check_27 rfl (lv_at hl 0 rfl) ?_
        refine lv_iload hx hb dX4_check_28 (lv_at hl 2 rfl) ?_
        refine r_callSi (As := [.int x, .int (nI (m - 1))]) (rest := [.int (nI cj)]) ⟨hx, hb, hml, hown, hts⟩ (c_X4_byteOf (zl := zl) (D := D) (cI := cI) (cD := cD) x (m - 1) (by omega)) (va_cwS 2 hts gX4_check_X4_byteOf rfl rfl rfl (by decide +kernel) ⟨Nat.le_of_ble_eq_true rfl, Nat.le_of_ble_eq_true rfl⟩) hK hN hP hD rfl hl.1 rfl (Nat.le_of_ble_eq_true rfl) dX4_check_30 ⟨Nat.le_of_ble_eq_true rfl, Nat.le_of_ble_eq_true rfl⟩ (fun r_2 h_2 => ?_)
        obtain rfl := h_2
        refine r_callSi (As := [.int (nI cj), .int (nI (wb x (m - 1)))]) (rest := []) ⟨hx, hb, hml, hown, hts⟩ (c_X4_checkAfter (zl := zl) (D := D) (cI := cI) (cD := cD) cj (wb x (m - 1)) hcl (wb_lt _ _)) (va_cwS 2 hts gX4_check_X4_checkAfter rfl rfl rfl (by decide +kernel) ⟨Nat.le_of_ble_eq_true rfl, Nat.le_of_ble_eq_true rfl⟩) hK hN hP hD rfl hl.1 rfl (Nat.le_of_ble_eq_true rfl) dX4_check_33 ⟨Nat.le_of_ble_eq_true rfl, Nat.le_of_ble_eq_true rfl⟩ (fun r_3 h_3 => ?_)
        obtain rfl := h_3
        refine lv_istore (lv' := [(4, .int (nI (ckB cj (wb x (m - 1))))), (2, .int x), (5, .int (nI (m - 1)))]) hx hb dX4_check_36 hl (by decide) rfl (fun ls hl => ?_)
        refine lv_iinc (v := nI (m - 1) - nI 1) (lv' := [(5, .int (nI (m - 1) - nI 1)), (4, .int (nI (ckB cj (wb x (m - 1))))), (2, .int x)]) hx hb dX4_check_38 hl (k := 2) rfl (dec_i _) (by decide) rfl (fun ls hl => ?_)
        refine lv_goto (tgt := 20) hx hb dX4_check_41 (by decide) ?_
        exact ih (m - 1) (ckB cj (wb x (m - 1))) (by omega) (by rw [← hcj]; obtain ⟨m, rfl⟩ : ∃ m', m = m' + 1 := ⟨m - 1, by omega⟩; rfl) (ckB_lt hcl (wb_lt _ _)) (by omega) ls (lv_sub hl [2, 1, 0] rfl)
  refine lv_iload_n hx hb dX4_check_0 rfl (lv_at hl 3 rfl) ?_
  refine r_callSi (As := [.int (nI k)]) (rest := []) ⟨hx, hb, hml, hown, hts⟩ (c_X4_isByteCount (zl := zl) (D := D) (cI := cI) (cD := cD) k (by first | assumption | omega)) (va_cwS 1 hts gX4_check_X4_isByteCount rfl rfl rfl (by decide +kernel) ⟨Nat.le_of_ble_eq_true rfl, Nat.le_of_ble_eq_true rfl⟩) hK hN hP hD rfl hl.1 rfl (Nat.le_of_ble_eq_true rfl) dX4_check_1 ⟨Nat.le_of_ble_eq_true rfl, Nat.le_of_ble_eq_true rfl⟩ (fun r_4 h_4 => ?_)
  obtain rfl := h_4
  refine rz_ne (tgt := 9) hx hb dX4_check_4 (by decide) (by omega) (fun c_4 => ?_) (fun c_4 => ?_)
  · skip
    refine lv_iload_n hx hb dX4_check_9 rfl (lv_at hl 1 rfl) ?_
    refine lv_ldc (v := 16777215) hx hb hown (hts (.constant RX4 116 (16777215)) (by decide +kernel)) dX4_check_10 ?_
    refine r_i (v := nI 16777215) (by decide) ?_
    refine lv_iand hx hb dX4_check_12 ?_
    refine r_i (v := nI (c.toBitVec.toNat % 16777216)) (pk_and _ 24 (by decide)) ?_
    refine lv_istore (lv' := [(4, .int (nI (c.toBitVec.toNat % 16777216))), (0, .ref w), (1, .int c), (2, .int x), (3, .int (nI k))]) hx hb dX4_check_13 hl (by decide) rfl (fun ls hl => ?_)
    refine lv_iload_n hx hb dX4_check_15 rfl (lv_at hl 4 rfl) ?_
    refine lv_iconst (v := nI 1) hx hb dX4_check_16 (by decide) ?_
    refine lv_isub hx hb dX4_check_17 ?_
    refine r_i (v := nI k - nI 1) (rfl) ?_
    refine lv_istore (lv' := [(5, .int (nI k - nI 1)), (4, .int (nI (c.toBitVec.toNat % 16777216))), (0, .ref w), (1, .int c), (2, .int x), (3, .int (nI k))]) hx hb dX4_check_18 hl (by decide) rfl (fun ls hl => ?_)
    exact (cuts _) k (c.toBitVec.toNat % 16777216) (by first | assumption | omega) rfl (by omega) (Nat.lt_succ_self _) ls (lv_sub hl [4, 1, 0] rfl)
  · omega
set_option maxHeartbeats 4000000 in
set_option maxRecDepth 100000 in
/-- a check that is refused -/
theorem c_X4_check_no {zl : Launch} {D : va_G} {cI cD : ClassId} (w : Nat) (c : Int32) (x : Int32) (k : Int32) (hk : k < nI 1 ∨ nI 4 < k) : Ci zl yX4_check wsX4_check ({ frames := 1, cells := 0, slots := 0, locals := 23 }) D cI cD [.ref w, .int c, .int x, .int k] [] (fun r => r = -1) := by
  refine Met.ofW (cc := cX4_check) (maxL := 6) (ret := (some .int)) (by decide) rfl ?_
  intro zp ze zs zm zargs zb zt zc zs₁ B hml hv
  obtain ⟨rfl, hP, hK, hD0, hN⟩ := hv
  have hx := B.exec
  have hb := B.bytes
  have hr := B.returns
  have hts := atoms_spec (ws := wsX4_check) B.pre
  have hown : zs.vm.findClass RX4 = some zm.cls := findClass_of_methodNamed B.named
  have hlocks := B.notSynchronized
  have hD := inW_self hD0
  have hS : va_S (inW []) zs.heap zs.heap [] := va_S.rf
  have hl := lv_entry [.ref w, .int c, .int x, .int k] (n := 6) (Nat.le_of_ble_eq_true rfl)
  rw [lg_entry_eq]
  generalize (lg_sl [.ref w, .int c, .int x, .int k] ++ List.replicate (6 - (lg_sl [.ref w, .int c, .int x, .int k]).length) Slot.unset).toArray = ls at hl ⊢
  have hl : lv_has ls 6 [(0, .ref w), (1, .int c), (2, .int x), (3, .int k)] := hl
  refine lv_iload_n hx hb dX4_check_0 rfl (lv_at hl 3 rfl) ?_
  refine r_callSi (As := [.int k]) (rest := []) ⟨hx, hb, hml, hown, hts⟩ (c_X4_isByteCount_no (zl := zl) (D := D) (cI := cI) (cD := cD) k hk) (va_cwS 1 hts gX4_check_X4_isByteCount rfl rfl rfl (by decide +kernel) ⟨Nat.le_of_ble_eq_true rfl, Nat.le_of_ble_eq_true rfl⟩) hK hN hP hD rfl hl.1 rfl (Nat.le_of_ble_eq_true rfl) dX4_check_1 ⟨Nat.le_of_ble_eq_true rfl, Nat.le_of_ble_eq_true rfl⟩ (fun r_1 h_1 => ?_)
  obtain rfl := h_1
  refine rz_ne (tgt := 9) hx hb dX4_check_4 (by decide) (by omega) (fun c_4 => ?_) (fun c_4 => ?_)
  · omega
  · skip
    refine lv_iconst (v := (-1)) hx hb dX4_check_7 (by decide) ?_
    exact W.iret (v := -1) hx hb hr (fun tz htz hWz => ⟨_, rfl, by first | rfl | assumption | omega | simp_all, htz⟩) (fun _ h => absurd h List.not_mem_nil) dX4_check_8
set_option maxHeartbeats 4000000 in
set_option maxRecDepth 100000 in
/-- a count -/
theorem c_X4_count {zl : Launch} {D : va_G} {cI cD : ClassId} (w : Nat) (cn : Nat) (kc : Nat → Int32) (a : Nat) (b : Nat) (n : Nat) (f : Nat → Int32) (bs : List Nat) (o : Nat) (e2 : Nat) (q : Nat) (e : Nat) (en : Nat) (er : Nat) (es : Nat) (ex : Nat) (tm : Int32) (sn : Int32) (z : Nat) (ob : Int32) (j : Nat) (hn : n ≤ 140) (hex : ex ≤ 1) (hj : j < 2 ^ 31) : Ci zl yX4_count wsX4_count ({ frames := 0, cells := 0, slots := 0, locals := 0 }) D cI cD [.ref w, .int (nI j)] [(w, .inr (4, [.ref cn, .ref a, .ref o, .ref e, .ref e2, .ref q])), (cn, .inl (cI, 8, .inl kc)), (a, .inr (3, [.ref b, .int (nI n)])), (e, .inr (0, [.ref en, .ref er, .ref es, .int (nI ex), .int tm, .int sn, .int (nI z), .int ob]))] (fun r => r = if j < 8 then kc j else if j = 8 then nI n else if j = 9 ∧ ex = 1 then nI z else -1) := by
  refine Met.ofW (cc := cX4_count) (maxL := 2) (ret := (some .int)) (by decide) rfl ?_
  intro zp ze zs zm zargs zb zt zc zs₁ B hml hv
  obtain ⟨rfl, hP, hK, hD0, hN⟩ := hv
  have hx := B.exec
  have hb := B.bytes
  have hr := B.returns
  have hts := atoms_spec (ws := wsX4_count) B.pre
  have hown : zs.vm.findClass RX4 = some zm.cls := findClass_of_methodNamed B.named
  have hlocks := B.notSynchronized
  have hD := inW_self hD0
  have hS : va_S (inW [(w, .inr (4, [.ref cn, .ref a, .ref o, .ref e, .ref e2, .ref q])), (cn, .inl (cI, 8, .inl kc)), (a, .inr (3, [.ref b, .int (nI n)])), (e, .inr (0, [.ref en, .ref er, .ref es, .int (nI ex), .int tm, .int sn, .int (nI z), .int ob]))]) zs.heap zs.heap [] := va_S.rf
  have hl := lv_entry [.ref w, .int (nI j)] (n := 2) (Nat.le_of_ble_eq_true rfl)
  rw [lg_entry_eq]
  generalize (lg_sl [.ref w, .int (nI j)] ++ List.replicate (2 - (lg_sl [.ref w, .int (nI j)]).length) Slot.unset).toArray = ls at hl ⊢
  have hl : lv_has ls 2 [(0, .ref w), (1, .int (nI j))] := hl
  have hin0 : ∀ w ∈ u_ws RX0 TX0 8, w ∈ wsX4_count := by decide +kernel
  have hin3 : ∀ w ∈ u_ws RX3 TX3 2, w ∈ wsX4_count := by decide +kernel
  have hin4 : ∀ w ∈ u_ws RX4 TX4 6, w ∈ wsX4_count := by decide +kernel
  refine lv_iload_n hx hb dX4_count_0 rfl (lv_at hl 1 rfl) ?_
  refine rz_lt (tgt := 17) hx hb dX4_count_1 (by decide) (by omega) ?_
  refine lv_iload_n hx hb dX4_count_4 rfl (lv_at hl 1 rfl) ?_
  refine lv_bipush (v := nI 8) hx hb dX4_count_5 (by decide) ?_
  refine rn_ge (tgt := 17) hx hb dX4_count_7 (by decide) (by omega) (by omega) (fun c_7 => ?_) (fun c_7 => ?_)
  · skip
    refine lv_iload_n hx hb dX4_count_17 rfl (lv_at hl 1 rfl) ?_
    refine lv_bipush (v := nI 8) hx hb dX4_count_18 (by decide) ?_
    refine rn_ne (tgt := 31) hx hb dX4_count_20 (by decide) (by omega) (by omega) (fun c_20 => ?_) (fun c_20 => ?_)
    · skip
      refine lv_iload_n hx hb dX4_count_31 rfl (lv_at hl 1 rfl) ?_
      refine lv_bipush (v := nI 9) hx hb dX4_count_32 (by decide) ?_
      refine rn_ne (tgt := 55) hx hb dX4_count_34 (by decide) (by omega) (by omega) (fun c_34 => ?_) (fun c_34 => ?_)
      · skip
        refine lv_iconst (v := (-1)) hx hb dX4_count_55 (by decide) ?_
        exact W.iret (v := -1) hx hb hr (fun tz htz hWz => ⟨_, rfl, by rw [if_neg (by omega), if_neg (by omega), if_neg (by omega)], htz⟩) (fun _ h => absurd h List.not_mem_nil) dX4_count_56
      · skip
        refine lv_aload_n hx hb dX4_count_37 rfl (lv_at hl 0 rfl) ?_
        refine va_get (D := D) (ci := 4) (v := .ref e) (C := RX4) (T := TX4) (N := 6) hx hb hts hin4 hown hK hP 0 rfl rfl 3 (by decide) (hts (.fieldLink RX4 30 "EpochSifter" "gathered" "LEpochSifter$Epoch;") (by decide +kernel)) (fun _ h9 => h9) rfl dX4_count_38 ?_
        refine va_get (D := D) (ci := 0) (v := .int (nI ex)) (C := RX0) (T := TX0) (N := 8) hx hb hts hin0 hown hK hP 3 rfl rfl 3 (by decide) (hts (.fieldLink RX4 64 "EpochSifter$Epoch" "exists" "Z") (by decide +kernel)) (fun _ h9 => h9) rfl dX4_count_41 ?_
        refine rz_eq (tgt := 55) hx hb dX4_count_44 (by decide) (by omega) (fun c_44 => ?_) (fun c_44 => ?_)
        · skip
          refine lv_iconst (v := (-1)) hx hb dX4_count_55 (by decide) ?_
          exact W.iret (v := -1) hx hb hr (fun tz htz hWz => ⟨_, rfl, by rw [if_neg (by omega), if_neg (by omega), if_neg (by omega)], htz⟩) (fun _ h => absurd h List.not_mem_nil) dX4_count_56
        · skip
          refine lv_aload_n hx hb dX4_count_47 rfl (lv_at hl 0 rfl) ?_
          refine va_get (D := D) (ci := 4) (v := .ref e) (C := RX4) (T := TX4) (N := 6) hx hb hts hin4 hown hK hP 0 rfl rfl 3 (by decide) (hts (.fieldLink RX4 30 "EpochSifter" "gathered" "LEpochSifter$Epoch;") (by decide +kernel)) (fun _ h9 => h9) rfl dX4_count_48 ?_
          refine va_get (D := D) (ci := 0) (v := .int (nI z)) (C := RX0) (T := TX0) (N := 8) hx hb hts hin0 hown hK hP 3 rfl rfl 6 (by decide) (hts (.fieldLink RX4 68 "EpochSifter$Epoch" "size" "I") (by decide +kernel)) (fun _ h9 => h9) rfl dX4_count_51 ?_
          exact W.iret (v := nI z) hx hb hr (fun tz htz hWz => ⟨_, rfl, by rw [if_neg (by omega), if_neg (by omega), if_pos (by omega)], htz⟩) (fun _ h => absurd h List.not_mem_nil) dX4_count_54
    · skip
      refine lv_aload_n hx hb dX4_count_23 rfl (lv_at hl 0 rfl) ?_
      refine va_get (D := D) (ci := 4) (v := .ref a) (C := RX4) (T := TX4) (N := 6) hx hb hts hin4 hown hK hP 0 rfl rfl 1 (by decide) (hts (.fieldLink RX4 16 "EpochSifter" "stream" "LEpochSifter$Stream;") (by decide +kernel)) (fun _ h9 => h9) rfl dX4_count_24 ?_
      refine va_get (D := D) (ci := 3) (v := .int (nI n)) (C := RX3) (T := TX3) (N := 2) hx hb hts hin3 hown hK hP 2 rfl rfl 1 (by decide) (hts (.fieldLink RX4 60 "EpochSifter$Stream" "kept" "I") (by decide +kernel)) (fun _ h9 => h9) rfl dX4_count_27 ?_
      exact W.iret (v := nI n) hx hb hr (fun tz htz hWz => ⟨_, rfl, by rw [if_neg (by omega), if_pos (by omega)], htz⟩) (fun _ h => absurd h List.not_mem_nil) dX4_count_30
  · skip
    refine lv_aload_n hx hb dX4_count_10 rfl (lv_at hl 0 rfl) ?_
    refine va_get (D := D) (ci := 4) (v := .ref cn) (C := RX4) (T := TX4) (N := 6) hx hb hts hin4 hown hK hP 0 rfl rfl 0 (by decide) (hts (.fieldLink RX4 9 "EpochSifter" "counters" "[I") (by decide +kernel)) (fun _ h9 => h9) rfl dX4_count_11 ?_
    refine lv_iload_n hx hb dX4_count_14 rfl (lv_at hl 1 rfl) ?_
    refine a_ild (v := kc j) hx hb hK hP 1 0 rfl rfl (by omega) (by decide) (rfl) dX4_count_15 ?_
    exact W.iret (v := kc j) hx hb hr (fun tz htz hWz => ⟨_, rfl, by rw [if_pos (by omega)], htz⟩) (fun _ h => absurd h List.not_mem_nil) dX4_count_16
set_option maxHeartbeats 4000000 in
set_option maxRecDepth 100000 in
/-- no count -/
theorem c_X4_count_no {zl : Launch} {D : va_G} {cI cD : ClassId} (w : Nat) (j : Int32) (hj : j < 0) : Ci zl yX4_count wsX4_count ({ frames := 0, cells := 0, slots := 0, locals := 0 }) D cI cD [.ref w, .int j] [] (fun r => r = -1) := by
  refine Met.ofW (cc := cX4_count) (maxL := 2) (ret := (some .int)) (by decide) rfl ?_
  intro zp ze zs zm zargs zb zt zc zs₁ B hml hv
  obtain ⟨rfl, hP, hK, hD0, hN⟩ := hv
  have hx := B.exec
  have hb := B.bytes
  have hr := B.returns
  have hts := atoms_spec (ws := wsX4_count) B.pre
  have hown : zs.vm.findClass RX4 = some zm.cls := findClass_of_methodNamed B.named
  have hlocks := B.notSynchronized
  have hD := inW_self hD0
  have hS : va_S (inW []) zs.heap zs.heap [] := va_S.rf
  have hl := lv_entry [.ref w, .int j] (n := 2) (Nat.le_of_ble_eq_true rfl)
  rw [lg_entry_eq]
  generalize (lg_sl [.ref w, .int j] ++ List.replicate (2 - (lg_sl [.ref w, .int j]).length) Slot.unset).toArray = ls at hl ⊢
  have hl : lv_has ls 2 [(0, .ref w), (1, .int j)] := hl
  refine lv_iload_n hx hb dX4_count_0 rfl (lv_at hl 1 rfl) ?_
  refine lv_if_lt (tgt := 17) hx hb dX4_count_1 (by decide) (fun c_1 => ?_) (fun c_1 => ?_)
  · skip
    refine lv_iload_n hx hb dX4_count_17 rfl (lv_at hl 1 rfl) ?_
    refine lv_bipush (v := nI 8) hx hb dX4_count_18 (by decide) ?_
    refine lv_icmp_ne (tgt := 31) hx hb dX4_count_20 (by decide) (fun c_20 => ?_) (fun c_20 => ?_)
    · skip
      refine lv_iload_n hx hb dX4_count_31 rfl (lv_at hl 1 rfl) ?_
      refine lv_bipush (v := nI 9) hx hb dX4_count_32 (by decide) ?_
      refine lv_icmp_ne (tgt := 55) hx hb dX4_count_34 (by decide) (fun c_34 => ?_) (fun c_34 => ?_)
      · skip
        refine lv_iconst (v := (-1)) hx hb dX4_count_55 (by decide) ?_
        exact W.iret (v := -1) hx hb hr (fun tz htz hWz => ⟨_, rfl, by first | rfl | assumption | omega | simp_all, htz⟩) (fun _ h => absurd h List.not_mem_nil) dX4_count_56
      · exact absurd (c_34 ▸ hj) (by decide)
    · exact absurd (c_20 ▸ hj) (by decide)
  · exact absurd hj c_1
set_option maxHeartbeats 4000000 in
set_option maxRecDepth 100000 in
/-- of the latest epoch -/
theorem c_X4_epoch {zl : Launch} {D : va_G} {cI cD : ClassId} (w : Nat) (cn : Nat) (a : Nat) (o : Nat) (e : Nat) (q : Nat) (e2 : Nat) (en2 : Nat) (er2 : Nat) (es2 : Nat) (ex2 : Nat) (tm2 : Int32) (sn2 : Int32) (z2 : Nat) (ob2 : Int32) (j : Nat) (hex2 : ex2 ≤ 1) (hj : j < 2 ^ 31) : Ci zl yX4_epoch wsX4_epoch ({ frames := 0, cells := 0, slots := 0, locals := 0 }) D cI cD [.ref w, .int (nI j)] [(w, .inr (4, [.ref cn, .ref a, .ref o, .ref e, .ref e2, .ref q])), (e2, .inr (0, [.ref en2, .ref er2, .ref es2, .int (nI ex2), .int tm2, .int sn2, .int (nI z2), .int ob2]))] (fun r => r = if ex2 = 1 then (if j = 0 then tm2 else if j = 1 then sn2 else if j = 2 then nI z2 else if j = 3 then ob2 else -1) else -1) := by
  refine Met.ofW (cc := cX4_epoch) (maxL := 2) (ret := (some .int)) (by decide) rfl ?_
  intro zp ze zs zm zargs zb zt zc zs₁ B hml hv
  obtain ⟨rfl, hP, hK, hD0, hN⟩ := hv
  have hx := B.exec
  have hb := B.bytes
  have hr := B.returns
  have hts := atoms_spec (ws := wsX4_epoch) B.pre
  have hown : zs.vm.findClass RX4 = some zm.cls := findClass_of_methodNamed B.named
  have hlocks := B.notSynchronized
  have hD := inW_self hD0
  have hS : va_S (inW [(w, .inr (4, [.ref cn, .ref a, .ref o, .ref e, .ref e2, .ref q])), (e2, .inr (0, [.ref en2, .ref er2, .ref es2, .int (nI ex2), .int tm2, .int sn2, .int (nI z2), .int ob2]))]) zs.heap zs.heap [] := va_S.rf
  have hl := lv_entry [.ref w, .int (nI j)] (n := 2) (Nat.le_of_ble_eq_true rfl)
  rw [lg_entry_eq]
  generalize (lg_sl [.ref w, .int (nI j)] ++ List.replicate (2 - (lg_sl [.ref w, .int (nI j)]).length) Slot.unset).toArray = ls at hl ⊢
  have hl : lv_has ls 2 [(0, .ref w), (1, .int (nI j))] := hl
  have hin0 : ∀ w ∈ u_ws RX0 TX0 8, w ∈ wsX4_epoch := by decide +kernel
  have hin4 : ∀ w ∈ u_ws RX4 TX4 6, w ∈ wsX4_epoch := by decide +kernel
  have hti := nI_toInt hj
  refine lv_aload_n hx hb dX4_epoch_0 rfl (lv_at hl 0 rfl) ?_
  refine va_get (D := D) (ci := 4) (v := .ref e2) (C := RX4) (T := TX4) (N := 6) hx hb hts hin4 hown hK hP 0 rfl rfl 4 (by decide) (hts (.fieldLink RX4 34 "EpochSifter" "latest" "LEpochSifter$Epoch;") (by decide +kernel)) (fun _ h9 => h9) rfl dX4_epoch_1 ?_
  refine va_get (D := D) (ci := 0) (v := .int (nI ex2)) (C := RX0) (T := TX0) (N := 8) hx hb hts hin0 hown hK hP 1 rfl rfl 3 (by decide) (hts (.fieldLink RX4 64 "EpochSifter$Epoch" "exists" "Z") (by decide +kernel)) (fun _ h9 => h9) rfl dX4_epoch_4 ?_
  refine rz_ne (tgt := 12) hx hb dX4_epoch_7 (by decide) (by omega) (fun c_7 => ?_) (fun c_7 => ?_)
  · skip
    refine lv_iload_n hx hb dX4_epoch_12 rfl (lv_at hl 1 rfl) ?_
    rcases (show (nI j).toInt < 0 ∨ 3 < (nI j).toInt ∨ (nI j).toInt = 0 ∨ (nI j).toInt = 1 ∨ (nI j).toInt = 2 ∨ (nI j).toInt = 3 from by omega) with sw13 | sw13 | sw13 | sw13 | sw13 | sw13
    · refine lv_tableOut (tgt := 76) hx hb dX4_epoch_13 (Or.inl sw13) (by decide) ?_
      refine lv_iconst (v := (-1)) hx hb dX4_epoch_76 (by decide) ?_
      exact W.iret (v := -1) hx hb hr (fun tz htz hWz => ⟨_, rfl, by rw [if_pos (by omega), if_neg (by omega), if_neg (by omega), if_neg (by omega), if_neg (by omega)], htz⟩) (fun _ h => absurd h List.not_mem_nil) dX4_epoch_77
    · refine lv_tableOut (tgt := 76) hx hb dX4_epoch_13 (Or.inr sw13) (by decide) ?_
      refine lv_iconst (v := (-1)) hx hb dX4_epoch_76 (by decide) ?_
      exact W.iret (v := -1) hx hb hr (fun tz htz hWz => ⟨_, rfl, by rw [if_pos (by omega), if_neg (by omega), if_neg (by omega), if_neg (by omega), if_neg (by omega)], htz⟩) (fun _ h => absurd h List.not_mem_nil) dX4_epoch_77
    · refine lv_tableIn (tgt := 44) (off := 31) hx hb dX4_epoch_13 (by omega) (by omega) (by rw [sw13]; rfl) (by decide) ?_
      refine lv_aload_n hx hb dX4_epoch_44 rfl (lv_at hl 0 rfl) ?_
      refine va_get (D := D) (ci := 4) (v := .ref e2) (C := RX4) (T := TX4) (N := 6) hx hb hts hin4 hown hK hP 0 rfl rfl 4 (by decide) (hts (.fieldLink RX4 34 "EpochSifter" "latest" "LEpochSifter$Epoch;") (by decide +kernel)) (fun _ h9 => h9) rfl dX4_epoch_45 ?_
      refine va_get (D := D) (ci := 0) (v := .int tm2) (C := RX0) (T := TX0) (N := 8) hx hb hts hin0 hown hK hP 1 rfl rfl 4 (by decide) (hts (.fieldLink RX4 71 "EpochSifter$Epoch" "time" "I") (by decide +kernel)) (fun _ h9 => h9) rfl dX4_epoch_48 ?_
      exact W.iret (v := tm2) hx hb hr (fun tz htz hWz => ⟨_, rfl, by rw [if_pos (by omega), if_pos (by omega)], htz⟩) (fun _ h => absurd h List.not_mem_nil) dX4_epoch_51
    · refine lv_tableIn (tgt := 52) (off := 39) hx hb dX4_epoch_13 (by omega) (by omega) (by rw [sw13]; rfl) (by decide) ?_
      refine lv_aload_n hx hb dX4_epoch_52 rfl (lv_at hl 0 rfl) ?_
      refine va_get (D := D) (ci := 4) (v := .ref e2) (C := RX4) (T := TX4) (N := 6) hx hb hts hin4 hown hK hP 0 rfl rfl 4 (by decide) (hts (.fieldLink RX4 34 "EpochSifter" "latest" "LEpochSifter$Epoch;") (by decide +kernel)) (fun _ h9 => h9) rfl dX4_epoch_53 ?_
      refine va_get (D := D) (ci := 0) (v := .int sn2) (C := RX0) (T := TX0) (N := 8) hx hb hts hin0 hown hK hP 1 rfl rfl 5 (by decide) (hts (.fieldLink RX4 74 "EpochSifter$Epoch" "station" "I") (by decide +kernel)) (fun _ h9 => h9) rfl dX4_epoch_56 ?_
      exact W.iret (v := sn2) hx hb hr (fun tz htz hWz => ⟨_, rfl, by rw [if_pos (by omega), if_neg (by omega), if_pos (by omega)], htz⟩) (fun _ h => absurd h List.not_mem_nil) dX4_epoch_59
    · refine lv_tableIn (tgt := 60) (off := 47) hx hb dX4_epoch_13 (by omega) (by omega) (by rw [sw13]; rfl) (by decide) ?_
      refine lv_aload_n hx hb dX4_epoch_60 rfl (lv_at hl 0 rfl) ?_
      refine va_get (D := D) (ci := 4) (v := .ref e2) (C := RX4) (T := TX4) (N := 6) hx hb hts hin4 hown hK hP 0 rfl rfl 4 (by decide) (hts (.fieldLink RX4 34 "EpochSifter" "latest" "LEpochSifter$Epoch;") (by decide +kernel)) (fun _ h9 => h9) rfl dX4_epoch_61 ?_
      refine va_get (D := D) (ci := 0) (v := .int (nI z2)) (C := RX0) (T := TX0) (N := 8) hx hb hts hin0 hown hK hP 1 rfl rfl 6 (by decide) (hts (.fieldLink RX4 68 "EpochSifter$Epoch" "size" "I") (by decide +kernel)) (fun _ h9 => h9) rfl dX4_epoch_64 ?_
      exact W.iret (v := nI z2) hx hb hr (fun tz htz hWz => ⟨_, rfl, by rw [if_pos (by omega), if_neg (by omega), if_neg (by omega), if_pos (by omega)], htz⟩) (fun _ h => absurd h List.not_mem_nil) dX4_epoch_67
    · refine lv_tableIn (tgt := 68) (off := 55) hx hb dX4_epoch_13 (by omega) (by omega) (by rw [sw13]; rfl) (by decide) ?_
      refine lv_aload_n hx hb dX4_epoch_68 rfl (lv_at hl 0 rfl) ?_
      refine va_get (D := D) (ci := 4) (v := .ref e2) (C := RX4) (T := TX4) (N := 6) hx hb hts hin4 hown hK hP 0 rfl rfl 4 (by decide) (hts (.fieldLink RX4 34 "EpochSifter" "latest" "LEpochSifter$Epoch;") (by decide +kernel)) (fun _ h9 => h9) rfl dX4_epoch_69 ?_
      refine va_get (D := D) (ci := 0) (v := .int ob2) (C := RX0) (T := TX0) (N := 8) hx hb hts hin0 hown hK hP 1 rfl rfl 7 (by decide) (hts (.fieldLink RX4 77 "EpochSifter$Epoch" "observations" "I") (by decide +kernel)) (fun _ h9 => h9) rfl dX4_epoch_72 ?_
      exact W.iret (v := ob2) hx hb hr (fun tz htz hWz => ⟨_, rfl, by rw [if_pos (by omega), if_neg (by omega), if_neg (by omega), if_neg (by omega), if_pos (by omega)], htz⟩) (fun _ h => absurd h List.not_mem_nil) dX4_epoch_75
  · skip
    refine lv_iconst (v := (-1)) hx hb dX4_epoch_10 (by decide) ?_
    exact W.iret (v := -1) hx hb hr (fun tz htz hWz => ⟨_, rfl, by rw [if_neg (by omega)], htz⟩) (fun _ h => absurd h List.not_mem_nil) dX4_epoch_11
set_option maxHeartbeats 4000000 in
set_option maxRecDepth 100000 in
/-- of no epoch -/
theorem c_X4_epoch_no {zl : Launch} {D : va_G} {cI cD : ClassId} (w : Nat) (cn : Nat) (a : Nat) (o : Nat) (e : Nat) (q : Nat) (e2 : Nat) (en2 : Nat) (er2 : Nat) (es2 : Nat) (ex2 : Nat) (tm2 : Int32) (sn2 : Int32) (z2 : Nat) (ob2 : Int32) (j : Int32) (hex2 : ex2 ≤ 1) (hj : j < 0) : Ci zl yX4_epoch wsX4_epoch ({ frames := 0, cells := 0, slots := 0, locals := 0 }) D cI cD [.ref w, .int j] [(w, .inr (4, [.ref cn, .ref a, .ref o, .ref e, .ref e2, .ref q])), (e2, .inr (0, [.ref en2, .ref er2, .ref es2, .int (nI ex2), .int tm2, .int sn2, .int (nI z2), .int ob2]))] (fun r => r = -1) := by
  refine Met.ofW (cc := cX4_epoch) (maxL := 2) (ret := (some .int)) (by decide) rfl ?_
  intro zp ze zs zm zargs zb zt zc zs₁ B hml hv
  obtain ⟨rfl, hP, hK, hD0, hN⟩ := hv
  have hx := B.exec
  have hb := B.bytes
  have hr := B.returns
  have hts := atoms_spec (ws := wsX4_epoch) B.pre
  have hown : zs.vm.findClass RX4 = some zm.cls := findClass_of_methodNamed B.named
  have hlocks := B.notSynchronized
  have hD := inW_self hD0
  have hS : va_S (inW [(w, .inr (4, [.ref cn, .ref a, .ref o, .ref e, .ref e2, .ref q])), (e2, .inr (0, [.ref en2, .ref er2, .ref es2, .int (nI ex2), .int tm2, .int sn2, .int (nI z2), .int ob2]))]) zs.heap zs.heap [] := va_S.rf
  have hl := lv_entry [.ref w, .int j] (n := 2) (Nat.le_of_ble_eq_true rfl)
  rw [lg_entry_eq]
  generalize (lg_sl [.ref w, .int j] ++ List.replicate (2 - (lg_sl [.ref w, .int j]).length) Slot.unset).toArray = ls at hl ⊢
  have hl : lv_has ls 2 [(0, .ref w), (1, .int j)] := hl
  have hin0 : ∀ w ∈ u_ws RX0 TX0 8, w ∈ wsX4_epoch := by decide +kernel
  have hin4 : ∀ w ∈ u_ws RX4 TX4 6, w ∈ wsX4_epoch := by decide +kernel
  have hti : j.toInt < 0 := Int32.lt_iff_toInt_lt.mp hj
  refine lv_aload_n hx hb dX4_epoch_0 rfl (lv_at hl 0 rfl) ?_
  refine va_get (D := D) (ci := 4) (v := .ref e2) (C := RX4) (T := TX4) (N := 6) hx hb hts hin4 hown hK hP 0 rfl rfl 4 (by decide) (hts (.fieldLink RX4 34 "EpochSifter" "latest" "LEpochSifter$Epoch;") (by decide +kernel)) (fun _ h9 => h9) rfl dX4_epoch_1 ?_
  refine va_get (D := D) (ci := 0) (v := .int (nI ex2)) (C := RX0) (T := TX0) (N := 8) hx hb hts hin0 hown hK hP 1 rfl rfl 3 (by decide) (hts (.fieldLink RX4 64 "EpochSifter$Epoch" "exists" "Z") (by decide +kernel)) (fun _ h9 => h9) rfl dX4_epoch_4 ?_
  refine rz_ne (tgt := 12) hx hb dX4_epoch_7 (by decide) (by omega) (fun c_7 => ?_) (fun c_7 => ?_)
  · skip
    refine lv_iload_n hx hb dX4_epoch_12 rfl (lv_at hl 1 rfl) ?_
    rcases (show j.toInt < 0 ∨ 3 < j.toInt ∨ j.toInt = 0 ∨ j.toInt = 1 ∨ j.toInt = 2 ∨ j.toInt = 3 from by omega) with sw13 | sw13 | sw13 | sw13 | sw13 | sw13
    · refine lv_tableOut (tgt := 76) hx hb dX4_epoch_13 (Or.inl sw13) (by decide) ?_
      refine lv_iconst (v := (-1)) hx hb dX4_epoch_76 (by decide) ?_
      exact W.iret (v := -1) hx hb hr (fun tz htz hWz => ⟨_, rfl, by first | rfl | (exfalso; omega), htz⟩) (fun _ h => absurd h List.not_mem_nil) dX4_epoch_77
    · refine lv_tableOut (tgt := 76) hx hb dX4_epoch_13 (Or.inr sw13) (by decide) ?_
      refine lv_iconst (v := (-1)) hx hb dX4_epoch_76 (by decide) ?_
      exact W.iret (v := -1) hx hb hr (fun tz htz hWz => ⟨_, rfl, by first | rfl | (exfalso; omega), htz⟩) (fun _ h => absurd h List.not_mem_nil) dX4_epoch_77
    · refine lv_tableIn (tgt := 44) (off := 31) hx hb dX4_epoch_13 (by omega) (by omega) (by rw [sw13]; rfl) (by decide) ?_
      refine lv_aload_n hx hb dX4_epoch_44 rfl (lv_at hl 0 rfl) ?_
      refine va_get (D := D) (ci := 4) (v := .ref e2) (C := RX4) (T := TX4) (N := 6) hx hb hts hin4 hown hK hP 0 rfl rfl 4 (by decide) (hts (.fieldLink RX4 34 "EpochSifter" "latest" "LEpochSifter$Epoch;") (by decide +kernel)) (fun _ h9 => h9) rfl dX4_epoch_45 ?_
      refine va_get (D := D) (ci := 0) (v := .int tm2) (C := RX0) (T := TX0) (N := 8) hx hb hts hin0 hown hK hP 1 rfl rfl 4 (by decide) (hts (.fieldLink RX4 71 "EpochSifter$Epoch" "time" "I") (by decide +kernel)) (fun _ h9 => h9) rfl dX4_epoch_48 ?_
      exact W.iret (v := tm2) hx hb hr (fun tz htz hWz => ⟨_, rfl, by first | rfl | (exfalso; omega), htz⟩) (fun _ h => absurd h List.not_mem_nil) dX4_epoch_51
    · refine lv_tableIn (tgt := 52) (off := 39) hx hb dX4_epoch_13 (by omega) (by omega) (by rw [sw13]; rfl) (by decide) ?_
      refine lv_aload_n hx hb dX4_epoch_52 rfl (lv_at hl 0 rfl) ?_
      refine va_get (D := D) (ci := 4) (v := .ref e2) (C := RX4) (T := TX4) (N := 6) hx hb hts hin4 hown hK hP 0 rfl rfl 4 (by decide) (hts (.fieldLink RX4 34 "EpochSifter" "latest" "LEpochSifter$Epoch;") (by decide +kernel)) (fun _ h9 => h9) rfl dX4_epoch_53 ?_
      refine va_get (D := D) (ci := 0) (v := .int sn2) (C := RX0) (T := TX0) (N := 8) hx hb hts hin0 hown hK hP 1 rfl rfl 5 (by decide) (hts (.fieldLink RX4 74 "EpochSifter$Epoch" "station" "I") (by decide +kernel)) (fun _ h9 => h9) rfl dX4_epoch_56 ?_
      exact W.iret (v := sn2) hx hb hr (fun tz htz hWz => ⟨_, rfl, by first | rfl | (exfalso; omega), htz⟩) (fun _ h => absurd h List.not_mem_nil) dX4_epoch_59
    · refine lv_tableIn (tgt := 60) (off := 47) hx hb dX4_epoch_13 (by omega) (by omega) (by rw [sw13]; rfl) (by decide) ?_
      refine lv_aload_n hx hb dX4_epoch_60 rfl (lv_at hl 0 rfl) ?_
      refine va_get (D := D) (ci := 4) (v := .ref e2) (C := RX4) (T := TX4) (N := 6) hx hb hts hin4 hown hK hP 0 rfl rfl 4 (by decide) (hts (.fieldLink RX4 34 "EpochSifter" "latest" "LEpochSifter$Epoch;") (by decide +kernel)) (fun _ h9 => h9) rfl dX4_epoch_61 ?_
      refine va_get (D := D) (ci := 0) (v := .int (nI z2)) (C := RX0) (T := TX0) (N := 8) hx hb hts hin0 hown hK hP 1 rfl rfl 6 (by decide) (hts (.fieldLink RX4 68 "EpochSifter$Epoch" "size" "I") (by decide +kernel)) (fun _ h9 => h9) rfl dX4_epoch_64 ?_
      exact W.iret (v := nI z2) hx hb hr (fun tz htz hWz => ⟨_, rfl, by first | rfl | (exfalso; omega), htz⟩) (fun _ h => absurd h List.not_mem_nil) dX4_epoch_67
    · refine lv_tableIn (tgt := 68) (off := 55) hx hb dX4_epoch_13 (by omega) (by omega) (by rw [sw13]; rfl) (by decide) ?_
      refine lv_aload_n hx hb dX4_epoch_68 rfl (lv_at hl 0 rfl) ?_
      refine va_get (D := D) (ci := 4) (v := .ref e2) (C := RX4) (T := TX4) (N := 6) hx hb hts hin4 hown hK hP 0 rfl rfl 4 (by decide) (hts (.fieldLink RX4 34 "EpochSifter" "latest" "LEpochSifter$Epoch;") (by decide +kernel)) (fun _ h9 => h9) rfl dX4_epoch_69 ?_
      refine va_get (D := D) (ci := 0) (v := .int ob2) (C := RX0) (T := TX0) (N := 8) hx hb hts hin0 hown hK hP 1 rfl rfl 7 (by decide) (hts (.fieldLink RX4 77 "EpochSifter$Epoch" "observations" "I") (by decide +kernel)) (fun _ h9 => h9) rfl dX4_epoch_72 ?_
      exact W.iret (v := ob2) hx hb hr (fun tz htz hWz => ⟨_, rfl, by first | rfl | (exfalso; omega), htz⟩) (fun _ h => absurd h List.not_mem_nil) dX4_epoch_75
  · skip
    refine lv_iconst (v := (-1)) hx hb dX4_epoch_10 (by decide) ?_
    exact W.iret (v := -1) hx hb hr (fun tz htz hWz => ⟨_, rfl, by first | rfl | (exfalso; omega), htz⟩) (fun _ h => absurd h List.not_mem_nil) dX4_epoch_11
set_option maxHeartbeats 4000000 in
set_option maxRecDepth 100000 in
/-- a cell's cell -/
theorem c_X4_cell {zl : Launch} {D : va_G} {cI cD : ClassId} (w : Nat) (cn : Nat) (a : Nat) (o : Nat) (e : Nat) (q : Nat) (e2 : Nat) (en2 : Nat) (er2 : Nat) (es2 : Nat) (ex2 : Nat) (tm2 : Int32) (sn2 : Int32) (z2 : Nat) (ob2 : Int32) (fN2 : Nat → Int32) (fR2 : Nat → UInt64) (fS2 : Nat → Int32) (cs2 : List Ce) (j : Nat) (hE2 : RpE fN2 fR2 fS2 cs2) (hz2 : cs2.length = z2) (hz402 : z2 ≤ 40) (hex2 : ex2 ≤ 1) (hj : j < 2 ^ 31) : Ci zl yX4_cell wsX4_cell ({ frames := 1, cells := 0, slots := 0, locals := 21 }) D cI cD [.ref w, .int (nI j)] [(w, .inr (4, [.ref cn, .ref a, .ref o, .ref e, .ref e2, .ref q])), (e2, .inr (0, [.ref en2, .ref er2, .ref es2, .int (nI ex2), .int tm2, .int sn2, .int (nI z2), .int ob2])), (en2, .inl (cI, 40, .inl fN2))] (fun r => r = if ex2 = 1 ∧ j < z2 then (cs2.getD j c0).1 else -1) := by
  refine Met.ofW (cc := cX4_cell) (maxL := 2) (ret := (some .int)) (by decide) rfl ?_
  intro zp ze zs zm zargs zb zt zc zs₁ B hml hv
  obtain ⟨rfl, hP, hK, hD0, hN⟩ := hv
  have hx := B.exec
  have hb := B.bytes
  have hr := B.returns
  have hts := atoms_spec (ws := wsX4_cell) B.pre
  have hown : zs.vm.findClass RX4 = some zm.cls := findClass_of_methodNamed B.named
  have hlocks := B.notSynchronized
  have hD := inW_self hD0
  have hS : va_S (inW [(w, .inr (4, [.ref cn, .ref a, .ref o, .ref e, .ref e2, .ref q])), (e2, .inr (0, [.ref en2, .ref er2, .ref es2, .int (nI ex2), .int tm2, .int sn2, .int (nI z2), .int ob2])), (en2, .inl (cI, 40, .inl fN2))]) zs.heap zs.heap [] := va_S.rf
  have hl := lv_entry [.ref w, .int (nI j)] (n := 2) (Nat.le_of_ble_eq_true rfl)
  rw [lg_entry_eq]
  generalize (lg_sl [.ref w, .int (nI j)] ++ List.replicate (2 - (lg_sl [.ref w, .int (nI j)]).length) Slot.unset).toArray = ls at hl ⊢
  have hl : lv_has ls 2 [(0, .ref w), (1, .int (nI j))] := hl
  have hin0 : ∀ w ∈ u_ws RX0 TX0 8, w ∈ wsX4_cell := by decide +kernel
  have hin4 : ∀ w ∈ u_ws RX4 TX4 6, w ∈ wsX4_cell := by decide +kernel
  refine lv_aload_n hx hb dX4_cell_0 rfl (lv_at hl 0 rfl) ?_
  refine va_get (D := D) (ci := 4) (v := .ref e2) (C := RX4) (T := TX4) (N := 6) hx hb hts hin4 hown hK hP 0 rfl rfl 4 (by decide) (hts (.fieldLink RX4 34 "EpochSifter" "latest" "LEpochSifter$Epoch;") (by decide +kernel)) (fun _ h9 => h9) rfl dX4_cell_1 ?_
  refine lv_iload_n hx hb dX4_cell_4 rfl (lv_at hl 1 rfl) ?_
  refine r_callVi (As := [.int (nI j)]) (rest := []) ⟨hx, hb, hml, hown, hts⟩ (c_X0_holds (zl := zl) (D := D) (cI := cI) (cD := cD) e2 en2 er2 es2 ex2 tm2 sn2 z2 ob2 j (by omega) hj hex2) (cwV 1 hts gX4_cell_X0_holds rfl rfl rfl (by decide +kernel) ⟨Nat.le_of_ble_eq_true rfl, Nat.le_of_ble_eq_true rfl⟩) hK hN hP hD [1] rfl rfl 1 rfl rfl rfl hl.1 rfl (Nat.le_of_ble_eq_true rfl) dX4_cell_5 ⟨Nat.le_of_ble_eq_true rfl, Nat.le_of_ble_eq_true rfl⟩ (fun r_1 h_1 => ?_)
  obtain rfl := h_1
  have t9 := tf_lt (ex2 = 1 ∧ j < z2)
  refine rz_eq (tgt := 23) hx hb dX4_cell_8 (by decide) (by omega) (fun c_8 => ?_) (fun c_8 => ?_)
  · skip
    have h9 := tf_of0 c_8
    refine lv_iconst (v := (-1)) hx hb dX4_cell_23 (by decide) ?_
    exact W.iret (v := -1) hx hb hr (fun tz htz hWz => ⟨_, rfl, by rw [if_neg h9], htz⟩) (fun _ h => absurd h List.not_mem_nil) dX4_cell_24
  · skip
    have h9 := tf_of1 c_8
    refine lv_aload_n hx hb dX4_cell_11 rfl (lv_at hl 0 rfl) ?_
    refine va_get (D := D) (ci := 4) (v := .ref e2) (C := RX4) (T := TX4) (N := 6) hx hb hts hin4 hown hK hP 0 rfl rfl 4 (by decide) (hts (.fieldLink RX4 34 "EpochSifter" "latest" "LEpochSifter$Epoch;") (by decide +kernel)) (fun _ h9 => h9) rfl dX4_cell_12 ?_
    refine va_get (D := D) (ci := 0) (v := .ref en2) (C := RX0) (T := TX0) (N := 8) hx hb hts hin0 hown hK hP 1 rfl rfl 0 (by decide) (hts (.fieldLink RX4 83 "EpochSifter$Epoch" "names" "[I") (by decide +kernel)) (fun _ h9 => h9) rfl dX4_cell_15 ?_
    refine lv_iload_n hx hb dX4_cell_18 rfl (lv_at hl 1 rfl) ?_
    refine a_ild (v := (cs2.getD j c0).1) hx hb hK hP 2 0 rfl rfl (by omega) (by decide) ((hE2 j (by omega)).1) dX4_cell_19 ?_
    refine lv_goto (tgt := 24) hx hb dX4_cell_20 (by decide) ?_
    exact W.iret (v := (cs2.getD j c0).1) hx hb hr (fun tz htz hWz => ⟨_, rfl, by rw [if_pos h9], htz⟩) (fun _ h => absurd h List.not_mem_nil) dX4_cell_24
set_option maxHeartbeats 4000000 in
set_option maxRecDepth 100000 in
/-- no cell's cell -/
theorem c_X4_cell_no {zl : Launch} {D : va_G} {cI cD : ClassId} (w : Nat) (cn : Nat) (a : Nat) (o : Nat) (e : Nat) (q : Nat) (e2 : Nat) (en2 : Nat) (er2 : Nat) (es2 : Nat) (ex2 : Nat) (tm2 : Int32) (sn2 : Int32) (z2 : Nat) (ob2 : Int32) (fN2 : Nat → Int32) (fR2 : Nat → UInt64) (fS2 : Nat → Int32) (j : Int32) (hj : j < 0) : Ci zl yX4_cell wsX4_cell ({ frames := 1, cells := 0, slots := 0, locals := 21 }) D cI cD [.ref w, .int j] [(w, .inr (4, [.ref cn, .ref a, .ref o, .ref e, .ref e2, .ref q])), (e2, .inr (0, [.ref en2, .ref er2, .ref es2, .int (nI ex2), .int tm2, .int sn2, .int (nI z2), .int ob2])), (en2, .inl (cI, 40, .inl fN2))] (fun r => r = -1) := by
  refine Met.ofW (cc := cX4_cell) (maxL := 2) (ret := (some .int)) (by decide) rfl ?_
  intro zp ze zs zm zargs zb zt zc zs₁ B hml hv
  obtain ⟨rfl, hP, hK, hD0, hN⟩ := hv
  have hx := B.exec
  have hb := B.bytes
  have hr := B.returns
  have hts := atoms_spec (ws := wsX4_cell) B.pre
  have hown : zs.vm.findClass RX4 = some zm.cls := findClass_of_methodNamed B.named
  have hlocks := B.notSynchronized
  have hD := inW_self hD0
  have hS : va_S (inW [(w, .inr (4, [.ref cn, .ref a, .ref o, .ref e, .ref e2, .ref q])), (e2, .inr (0, [.ref en2, .ref er2, .ref es2, .int (nI ex2), .int tm2, .int sn2, .int (nI z2), .int ob2])), (en2, .inl (cI, 40, .inl fN2))]) zs.heap zs.heap [] := va_S.rf
  have hl := lv_entry [.ref w, .int j] (n := 2) (Nat.le_of_ble_eq_true rfl)
  rw [lg_entry_eq]
  generalize (lg_sl [.ref w, .int j] ++ List.replicate (2 - (lg_sl [.ref w, .int j]).length) Slot.unset).toArray = ls at hl ⊢
  have hl : lv_has ls 2 [(0, .ref w), (1, .int j)] := hl
  have hin4 : ∀ w ∈ u_ws RX4 TX4 6, w ∈ wsX4_cell := by decide +kernel
  refine lv_aload_n hx hb dX4_cell_0 rfl (lv_at hl 0 rfl) ?_
  refine va_get (D := D) (ci := 4) (v := .ref e2) (C := RX4) (T := TX4) (N := 6) hx hb hts hin4 hown hK hP 0 rfl rfl 4 (by decide) (hts (.fieldLink RX4 34 "EpochSifter" "latest" "LEpochSifter$Epoch;") (by decide +kernel)) (fun _ h9 => h9) rfl dX4_cell_1 ?_
  refine lv_iload_n hx hb dX4_cell_4 rfl (lv_at hl 1 rfl) ?_
  refine r_callVi (As := [.int j]) (rest := []) ⟨hx, hb, hml, hown, hts⟩ (c_X0_holds_no (zl := zl) (D := D) (cI := cI) (cD := cD) e2 en2 er2 es2 ex2 tm2 sn2 z2 ob2 j hj) (cwV 1 hts gX4_cell_X0_holds rfl rfl rfl (by decide +kernel) ⟨Nat.le_of_ble_eq_true rfl, Nat.le_of_ble_eq_true rfl⟩) hK hN hP hD [1] rfl rfl 1 rfl rfl rfl hl.1 rfl (Nat.le_of_ble_eq_true rfl) dX4_cell_5 ⟨Nat.le_of_ble_eq_true rfl, Nat.le_of_ble_eq_true rfl⟩ (fun r_1 h_1 => ?_)
  obtain rfl := h_1
  refine rz_eq (tgt := 23) hx hb dX4_cell_8 (by decide) (by omega) (fun c_8 => ?_) (fun c_8 => ?_)
  · skip
    refine lv_iconst (v := (-1)) hx hb dX4_cell_23 (by decide) ?_
    exact W.iret (v := -1) hx hb hr (fun tz htz hWz => ⟨_, rfl, by first | rfl | assumption | omega | simp_all, htz⟩) (fun _ h => absurd h List.not_mem_nil) dX4_cell_24
  · omega
set_option maxHeartbeats 4000000 in
set_option maxRecDepth 100000 in
/-- a cell's range -/
theorem c_X4_range {zl : Launch} {D : va_G} {cI cD : ClassId} (w : Nat) (cn : Nat) (a : Nat) (o : Nat) (e : Nat) (q : Nat) (e2 : Nat) (en2 : Nat) (er2 : Nat) (es2 : Nat) (ex2 : Nat) (tm2 : Int32) (sn2 : Int32) (z2 : Nat) (ob2 : Int32) (fN2 : Nat → Int32) (fR2 : Nat → UInt64) (fS2 : Nat → Int32) (cs2 : List Ce) (j : Nat) (hE2 : RpE fN2 fR2 fS2 cs2) (hz2 : cs2.length = z2) (hz402 : z2 ≤ 40) (hex2 : ex2 ≤ 1) (hj : j < 2 ^ 31) : Cd zl yX4_range wsX4_range ({ frames := 1, cells := 0, slots := 0, locals := 21 }) D cI cD [.ref w, .int (nI j)] [(w, .inr (4, [.ref cn, .ref a, .ref o, .ref e, .ref e2, .ref q])), (e2, .inr (0, [.ref en2, .ref er2, .ref es2, .int (nI ex2), .int tm2, .int sn2, .int (nI z2), .int ob2])), (er2, .inl (cD, 40, .inr (.inr (.inr (.inl fR2)))))] (fun r => r = if ex2 = 1 ∧ j < z2 then (cs2.getD j c0).2.1 else 13830554455654793216) := by
  refine Met.ofW (cc := cX4_range) (maxL := 2) (ret := (some .double)) (by decide) rfl ?_
  intro zp ze zs zm zargs zb zt zc zs₁ B hml hv
  obtain ⟨rfl, hP, hK, hD0, hN⟩ := hv
  have hx := B.exec
  have hb := B.bytes
  have hr := B.returns
  have hts := atoms_spec (ws := wsX4_range) B.pre
  have hown : zs.vm.findClass RX4 = some zm.cls := findClass_of_methodNamed B.named
  have hlocks := B.notSynchronized
  have hD := inW_self hD0
  have hS : va_S (inW [(w, .inr (4, [.ref cn, .ref a, .ref o, .ref e, .ref e2, .ref q])), (e2, .inr (0, [.ref en2, .ref er2, .ref es2, .int (nI ex2), .int tm2, .int sn2, .int (nI z2), .int ob2])), (er2, .inl (cD, 40, .inr (.inr (.inr (.inl fR2)))))]) zs.heap zs.heap [] := va_S.rf
  have hl := lv_entry [.ref w, .int (nI j)] (n := 2) (Nat.le_of_ble_eq_true rfl)
  rw [lg_entry_eq]
  generalize (lg_sl [.ref w, .int (nI j)] ++ List.replicate (2 - (lg_sl [.ref w, .int (nI j)]).length) Slot.unset).toArray = ls at hl ⊢
  have hl : lv_has ls 2 [(0, .ref w), (1, .int (nI j))] := hl
  have hin0 : ∀ w ∈ u_ws RX0 TX0 8, w ∈ wsX4_range := by decide +kernel
  have hin4 : ∀ w ∈ u_ws RX4 TX4 6, w ∈ wsX4_range := by decide +kernel
  refine lv_aload_n hx hb dX4_range_0 rfl (lv_at hl 0 rfl) ?_
  refine va_get (D := D) (ci := 4) (v := .ref e2) (C := RX4) (T := TX4) (N := 6) hx hb hts hin4 hown hK hP 0 rfl rfl 4 (by decide) (hts (.fieldLink RX4 34 "EpochSifter" "latest" "LEpochSifter$Epoch;") (by decide +kernel)) (fun _ h9 => h9) rfl dX4_range_1 ?_
  refine lv_iload_n hx hb dX4_range_4 rfl (lv_at hl 1 rfl) ?_
  refine r_callVi (As := [.int (nI j)]) (rest := []) ⟨hx, hb, hml, hown, hts⟩ (c_X0_holds (zl := zl) (D := D) (cI := cI) (cD := cD) e2 en2 er2 es2 ex2 tm2 sn2 z2 ob2 j (by omega) hj hex2) (cwV 1 hts gX4_range_X0_holds rfl rfl rfl (by decide +kernel) ⟨Nat.le_of_ble_eq_true rfl, Nat.le_of_ble_eq_true rfl⟩) hK hN hP hD [1] rfl rfl 1 rfl rfl rfl hl.1 rfl (Nat.le_of_ble_eq_true rfl) dX4_range_5 ⟨Nat.le_of_ble_eq_true rfl, Nat.le_of_ble_eq_true rfl⟩ (fun r_1 h_1 => ?_)
  obtain rfl := h_1
  have t9 := tf_lt (ex2 = 1 ∧ j < z2)
  refine rz_eq (tgt := 23) hx hb dX4_range_8 (by decide) (by omega) (fun c_8 => ?_) (fun c_8 => ?_)
  · skip
    have h9 := tf_of0 c_8
    refine lv_ldc2d (v := 13830554455654793216) hx hb hown (hts (.constantDouble RX4 90 (13830554455654793216)) (by decide +kernel)) dX4_range_23 ?_
    exact W.dret (v := 13830554455654793216) hx hb hr (fun tz htz hWz => ⟨_, rfl, by rw [if_neg h9], htz⟩) (fun _ h => absurd h List.not_mem_nil) dX4_range_26
  · skip
    have h9 := tf_of1 c_8
    refine lv_aload_n hx hb dX4_range_11 rfl (lv_at hl 0 rfl) ?_
    refine va_get (D := D) (ci := 4) (v := .ref e2) (C := RX4) (T := TX4) (N := 6) hx hb hts hin4 hown hK hP 0 rfl rfl 4 (by decide) (hts (.fieldLink RX4 34 "EpochSifter" "latest" "LEpochSifter$Epoch;") (by decide +kernel)) (fun _ h9 => h9) rfl dX4_range_12 ?_
    refine va_get (D := D) (ci := 0) (v := .ref er2) (C := RX0) (T := TX0) (N := 8) hx hb hts hin0 hown hK hP 1 rfl rfl 1 (by decide) (hts (.fieldLink RX4 86 "EpochSifter$Epoch" "ranges" "[D") (by decide +kernel)) (fun _ h9 => h9) rfl dX4_range_15 ?_
    refine lv_iload_n hx hb dX4_range_18 rfl (lv_at hl 1 rfl) ?_
    refine a_dld (v := (cs2.getD j c0).2.1) hx hb hK hP 2 1 rfl rfl (by omega) (by decide) ((hE2 j (by omega)).2.1) dX4_range_19 ?_
    refine lv_goto (tgt := 26) hx hb dX4_range_20 (by decide) ?_
    exact W.dret (v := (cs2.getD j c0).2.1) hx hb hr (fun tz htz hWz => ⟨_, rfl, by rw [if_pos h9], htz⟩) (fun _ h => absurd h List.not_mem_nil) dX4_range_26
set_option maxHeartbeats 4000000 in
set_option maxRecDepth 100000 in
/-- no cell's range -/
theorem c_X4_range_no {zl : Launch} {D : va_G} {cI cD : ClassId} (w : Nat) (cn : Nat) (a : Nat) (o : Nat) (e : Nat) (q : Nat) (e2 : Nat) (en2 : Nat) (er2 : Nat) (es2 : Nat) (ex2 : Nat) (tm2 : Int32) (sn2 : Int32) (z2 : Nat) (ob2 : Int32) (fN2 : Nat → Int32) (fR2 : Nat → UInt64) (fS2 : Nat → Int32) (j : Int32) (hj : j < 0) : Cd zl yX4_range wsX4_range ({ frames := 1, cells := 0, slots := 0, locals := 21 }) D cI cD [.ref w, .int j] [(w, .inr (4, [.ref cn, .ref a, .ref o, .ref e, .ref e2, .ref q])), (e2, .inr (0, [.ref en2, .ref er2, .ref es2, .int (nI ex2), .int tm2, .int sn2, .int (nI z2), .int ob2])), (er2, .inl (cD, 40, .inr (.inr (.inr (.inl fR2)))))] (fun r => r = 13830554455654793216) := by
  refine Met.ofW (cc := cX4_range) (maxL := 2) (ret := (some .double)) (by decide) rfl ?_
  intro zp ze zs zm zargs zb zt zc zs₁ B hml hv
  obtain ⟨rfl, hP, hK, hD0, hN⟩ := hv
  have hx := B.exec
  have hb := B.bytes
  have hr := B.returns
  have hts := atoms_spec (ws := wsX4_range) B.pre
  have hown : zs.vm.findClass RX4 = some zm.cls := findClass_of_methodNamed B.named
  have hlocks := B.notSynchronized
  have hD := inW_self hD0
  have hS : va_S (inW [(w, .inr (4, [.ref cn, .ref a, .ref o, .ref e, .ref e2, .ref q])), (e2, .inr (0, [.ref en2, .ref er2, .ref es2, .int (nI ex2), .int tm2, .int sn2, .int (nI z2), .int ob2])), (er2, .inl (cD, 40, .inr (.inr (.inr (.inl fR2)))))]) zs.heap zs.heap [] := va_S.rf
  have hl := lv_entry [.ref w, .int j] (n := 2) (Nat.le_of_ble_eq_true rfl)
  rw [lg_entry_eq]
  generalize (lg_sl [.ref w, .int j] ++ List.replicate (2 - (lg_sl [.ref w, .int j]).length) Slot.unset).toArray = ls at hl ⊢
  have hl : lv_has ls 2 [(0, .ref w), (1, .int j)] := hl
  have hin4 : ∀ w ∈ u_ws RX4 TX4 6, w ∈ wsX4_range := by decide +kernel
  refine lv_aload_n hx hb dX4_range_0 rfl (lv_at hl 0 rfl) ?_
  refine va_get (D := D) (ci := 4) (v := .ref e2) (C := RX4) (T := TX4) (N := 6) hx hb hts hin4 hown hK hP 0 rfl rfl 4 (by decide) (hts (.fieldLink RX4 34 "EpochSifter" "latest" "LEpochSifter$Epoch;") (by decide +kernel)) (fun _ h9 => h9) rfl dX4_range_1 ?_
  refine lv_iload_n hx hb dX4_range_4 rfl (lv_at hl 1 rfl) ?_
  refine r_callVi (As := [.int j]) (rest := []) ⟨hx, hb, hml, hown, hts⟩ (c_X0_holds_no (zl := zl) (D := D) (cI := cI) (cD := cD) e2 en2 er2 es2 ex2 tm2 sn2 z2 ob2 j hj) (cwV 1 hts gX4_range_X0_holds rfl rfl rfl (by decide +kernel) ⟨Nat.le_of_ble_eq_true rfl, Nat.le_of_ble_eq_true rfl⟩) hK hN hP hD [1] rfl rfl 1 rfl rfl rfl hl.1 rfl (Nat.le_of_ble_eq_true rfl) dX4_range_5 ⟨Nat.le_of_ble_eq_true rfl, Nat.le_of_ble_eq_true rfl⟩ (fun r_1 h_1 => ?_)
  obtain rfl := h_1
  refine rz_eq (tgt := 23) hx hb dX4_range_8 (by decide) (by omega) (fun c_8 => ?_) (fun c_8 => ?_)
  · skip
    refine lv_ldc2d (v := 13830554455654793216) hx hb hown (hts (.constantDouble RX4 90 (13830554455654793216)) (by decide +kernel)) dX4_range_23 ?_
    exact W.dret (v := 13830554455654793216) hx hb hr (fun tz htz hWz => ⟨_, rfl, by first | rfl | assumption | omega | simp_all, htz⟩) (fun _ h => absurd h List.not_mem_nil) dX4_range_26
  · omega
set_option maxHeartbeats 4000000 in
set_option maxRecDepth 100000 in
/-- a cell's strength -/
theorem c_X4_strength {zl : Launch} {D : va_G} {cI cD : ClassId} (w : Nat) (cn : Nat) (a : Nat) (o : Nat) (e : Nat) (q : Nat) (e2 : Nat) (en2 : Nat) (er2 : Nat) (es2 : Nat) (ex2 : Nat) (tm2 : Int32) (sn2 : Int32) (z2 : Nat) (ob2 : Int32) (fN2 : Nat → Int32) (fR2 : Nat → UInt64) (fS2 : Nat → Int32) (cs2 : List Ce) (j : Nat) (hE2 : RpE fN2 fR2 fS2 cs2) (hz2 : cs2.length = z2) (hz402 : z2 ≤ 40) (hex2 : ex2 ≤ 1) (hj : j < 2 ^ 31) : Ci zl yX4_strength wsX4_strength ({ frames := 1, cells := 0, slots := 0, locals := 21 }) D cI cD [.ref w, .int (nI j)] [(w, .inr (4, [.ref cn, .ref a, .ref o, .ref e, .ref e2, .ref q])), (e2, .inr (0, [.ref en2, .ref er2, .ref es2, .int (nI ex2), .int tm2, .int sn2, .int (nI z2), .int ob2])), (es2, .inl (cI, 40, .inl fS2))] (fun r => r = if ex2 = 1 ∧ j < z2 then (cs2.getD j c0).2.2 else -1) := by
  refine Met.ofW (cc := cX4_strength) (maxL := 2) (ret := (some .int)) (by decide) rfl ?_
  intro zp ze zs zm zargs zb zt zc zs₁ B hml hv
  obtain ⟨rfl, hP, hK, hD0, hN⟩ := hv
  have hx := B.exec
  have hb := B.bytes
  have hr := B.returns
  have hts := atoms_spec (ws := wsX4_strength) B.pre
  have hown : zs.vm.findClass RX4 = some zm.cls := findClass_of_methodNamed B.named
  have hlocks := B.notSynchronized
  have hD := inW_self hD0
  have hS : va_S (inW [(w, .inr (4, [.ref cn, .ref a, .ref o, .ref e, .ref e2, .ref q])), (e2, .inr (0, [.ref en2, .ref er2, .ref es2, .int (nI ex2), .int tm2, .int sn2, .int (nI z2), .int ob2])), (es2, .inl (cI, 40, .inl fS2))]) zs.heap zs.heap [] := va_S.rf
  have hl := lv_entry [.ref w, .int (nI j)] (n := 2) (Nat.le_of_ble_eq_true rfl)
  rw [lg_entry_eq]
  generalize (lg_sl [.ref w, .int (nI j)] ++ List.replicate (2 - (lg_sl [.ref w, .int (nI j)]).length) Slot.unset).toArray = ls at hl ⊢
  have hl : lv_has ls 2 [(0, .ref w), (1, .int (nI j))] := hl
  have hin0 : ∀ w ∈ u_ws RX0 TX0 8, w ∈ wsX4_strength := by decide +kernel
  have hin4 : ∀ w ∈ u_ws RX4 TX4 6, w ∈ wsX4_strength := by decide +kernel
  refine lv_aload_n hx hb dX4_strength_0 rfl (lv_at hl 0 rfl) ?_
  refine va_get (D := D) (ci := 4) (v := .ref e2) (C := RX4) (T := TX4) (N := 6) hx hb hts hin4 hown hK hP 0 rfl rfl 4 (by decide) (hts (.fieldLink RX4 34 "EpochSifter" "latest" "LEpochSifter$Epoch;") (by decide +kernel)) (fun _ h9 => h9) rfl dX4_strength_1 ?_
  refine lv_iload_n hx hb dX4_strength_4 rfl (lv_at hl 1 rfl) ?_
  refine r_callVi (As := [.int (nI j)]) (rest := []) ⟨hx, hb, hml, hown, hts⟩ (c_X0_holds (zl := zl) (D := D) (cI := cI) (cD := cD) e2 en2 er2 es2 ex2 tm2 sn2 z2 ob2 j (by omega) hj hex2) (cwV 1 hts gX4_strength_X0_holds rfl rfl rfl (by decide +kernel) ⟨Nat.le_of_ble_eq_true rfl, Nat.le_of_ble_eq_true rfl⟩) hK hN hP hD [1] rfl rfl 1 rfl rfl rfl hl.1 rfl (Nat.le_of_ble_eq_true rfl) dX4_strength_5 ⟨Nat.le_of_ble_eq_true rfl, Nat.le_of_ble_eq_true rfl⟩ (fun r_1 h_1 => ?_)
  obtain rfl := h_1
  have t9 := tf_lt (ex2 = 1 ∧ j < z2)
  refine rz_eq (tgt := 23) hx hb dX4_strength_8 (by decide) (by omega) (fun c_8 => ?_) (fun c_8 => ?_)
  · skip
    have h9 := tf_of0 c_8
    refine lv_iconst (v := (-1)) hx hb dX4_strength_23 (by decide) ?_
    exact W.iret (v := -1) hx hb hr (fun tz htz hWz => ⟨_, rfl, by rw [if_neg h9], htz⟩) (fun _ h => absurd h List.not_mem_nil) dX4_strength_24
  · skip
    have h9 := tf_of1 c_8
    refine lv_aload_n hx hb dX4_strength_11 rfl (lv_at hl 0 rfl) ?_
    refine va_get (D := D) (ci := 4) (v := .ref e2) (C := RX4) (T := TX4) (N := 6) hx hb hts hin4 hown hK hP 0 rfl rfl 4 (by decide) (hts (.fieldLink RX4 34 "EpochSifter" "latest" "LEpochSifter$Epoch;") (by decide +kernel)) (fun _ h9 => h9) rfl dX4_strength_12 ?_
    refine va_get (D := D) (ci := 0) (v := .ref es2) (C := RX0) (T := TX0) (N := 8) hx hb hts hin0 hown hK hP 1 rfl rfl 2 (by decide) (hts (.fieldLink RX4 92 "EpochSifter$Epoch" "strengths" "[I") (by decide +kernel)) (fun _ h9 => h9) rfl dX4_strength_15 ?_
    refine lv_iload_n hx hb dX4_strength_18 rfl (lv_at hl 1 rfl) ?_
    refine a_ild (v := (cs2.getD j c0).2.2) hx hb hK hP 2 0 rfl rfl (by omega) (by decide) ((hE2 j (by omega)).2.2) dX4_strength_19 ?_
    refine lv_goto (tgt := 24) hx hb dX4_strength_20 (by decide) ?_
    exact W.iret (v := (cs2.getD j c0).2.2) hx hb hr (fun tz htz hWz => ⟨_, rfl, by rw [if_pos h9], htz⟩) (fun _ h => absurd h List.not_mem_nil) dX4_strength_24
set_option maxHeartbeats 4000000 in
set_option maxRecDepth 100000 in
/-- no cell's strength -/
theorem c_X4_strength_no {zl : Launch} {D : va_G} {cI cD : ClassId} (w : Nat) (cn : Nat) (a : Nat) (o : Nat) (e : Nat) (q : Nat) (e2 : Nat) (en2 : Nat) (er2 : Nat) (es2 : Nat) (ex2 : Nat) (tm2 : Int32) (sn2 : Int32) (z2 : Nat) (ob2 : Int32) (fN2 : Nat → Int32) (fR2 : Nat → UInt64) (fS2 : Nat → Int32) (j : Int32) (hj : j < 0) : Ci zl yX4_strength wsX4_strength ({ frames := 1, cells := 0, slots := 0, locals := 21 }) D cI cD [.ref w, .int j] [(w, .inr (4, [.ref cn, .ref a, .ref o, .ref e, .ref e2, .ref q])), (e2, .inr (0, [.ref en2, .ref er2, .ref es2, .int (nI ex2), .int tm2, .int sn2, .int (nI z2), .int ob2])), (es2, .inl (cI, 40, .inl fS2))] (fun r => r = -1) := by
  refine Met.ofW (cc := cX4_strength) (maxL := 2) (ret := (some .int)) (by decide) rfl ?_
  intro zp ze zs zm zargs zb zt zc zs₁ B hml hv
  obtain ⟨rfl, hP, hK, hD0, hN⟩ := hv
  have hx := B.exec
  have hb := B.bytes
  have hr := B.returns
  have hts := atoms_spec (ws := wsX4_strength) B.pre
  have hown : zs.vm.findClass RX4 = some zm.cls := findClass_of_methodNamed B.named
  have hlocks := B.notSynchronized
  have hD := inW_self hD0
  have hS : va_S (inW [(w, .inr (4, [.ref cn, .ref a, .ref o, .ref e, .ref e2, .ref q])), (e2, .inr (0, [.ref en2, .ref er2, .ref es2, .int (nI ex2), .int tm2, .int sn2, .int (nI z2), .int ob2])), (es2, .inl (cI, 40, .inl fS2))]) zs.heap zs.heap [] := va_S.rf
  have hl := lv_entry [.ref w, .int j] (n := 2) (Nat.le_of_ble_eq_true rfl)
  rw [lg_entry_eq]
  generalize (lg_sl [.ref w, .int j] ++ List.replicate (2 - (lg_sl [.ref w, .int j]).length) Slot.unset).toArray = ls at hl ⊢
  have hl : lv_has ls 2 [(0, .ref w), (1, .int j)] := hl
  have hin4 : ∀ w ∈ u_ws RX4 TX4 6, w ∈ wsX4_strength := by decide +kernel
  refine lv_aload_n hx hb dX4_strength_0 rfl (lv_at hl 0 rfl) ?_
  refine va_get (D := D) (ci := 4) (v := .ref e2) (C := RX4) (T := TX4) (N := 6) hx hb hts hin4 hown hK hP 0 rfl rfl 4 (by decide) (hts (.fieldLink RX4 34 "EpochSifter" "latest" "LEpochSifter$Epoch;") (by decide +kernel)) (fun _ h9 => h9) rfl dX4_strength_1 ?_
  refine lv_iload_n hx hb dX4_strength_4 rfl (lv_at hl 1 rfl) ?_
  refine r_callVi (As := [.int j]) (rest := []) ⟨hx, hb, hml, hown, hts⟩ (c_X0_holds_no (zl := zl) (D := D) (cI := cI) (cD := cD) e2 en2 er2 es2 ex2 tm2 sn2 z2 ob2 j hj) (cwV 1 hts gX4_strength_X0_holds rfl rfl rfl (by decide +kernel) ⟨Nat.le_of_ble_eq_true rfl, Nat.le_of_ble_eq_true rfl⟩) hK hN hP hD [1] rfl rfl 1 rfl rfl rfl hl.1 rfl (Nat.le_of_ble_eq_true rfl) dX4_strength_5 ⟨Nat.le_of_ble_eq_true rfl, Nat.le_of_ble_eq_true rfl⟩ (fun r_1 h_1 => ?_)
  obtain rfl := h_1
  refine rz_eq (tgt := 23) hx hb dX4_strength_8 (by decide) (by omega) (fun c_8 => ?_) (fun c_8 => ?_)
  · skip
    refine lv_iconst (v := (-1)) hx hb dX4_strength_23 (by decide) ?_
    exact W.iret (v := -1) hx hb hr (fun tz htz hWz => ⟨_, rfl, by first | rfl | assumption | omega | simp_all, htz⟩) (fun _ h => absurd h List.not_mem_nil) dX4_strength_24
  · omega
set_option maxHeartbeats 4000000 in
set_option maxRecDepth 100000 in
/-- the mean -/
theorem c_X4_mean {zl : Launch} {D : va_G} {cI cD : ClassId} (w : Nat) (cn : Nat) (a : Nat) (o : Nat) (e : Nat) (q : Nat) (e2 : Nat) (en2 : Nat) (er2 : Nat) (es2 : Nat) (ex2 : Nat) (tm2 : Int32) (sn2 : Int32) (z2 : Nat) (ob2 : Int32) (fN2 : Nat → Int32) (fR2 : Nat → UInt64) (fS2 : Nat → Int32) (cs2 : List Ce) (hE2 : RpE fN2 fR2 fS2 cs2) (hz2 : cs2.length = z2) (hz402 : z2 ≤ 40) (hF : FinC cs2) : Cd zl yX4_mean wsX4_mean ({ frames := 1, cells := 0, slots := 0, locals := 24 }) D cI cD [.ref w] [(w, .inr (4, [.ref cn, .ref a, .ref o, .ref e, .ref e2, .ref q])), (e2, .inr (0, [.ref en2, .ref er2, .ref es2, .int (nI ex2), .int tm2, .int sn2, .int (nI z2), .int ob2])), (en2, .inl (cI, 40, .inl fN2)), (er2, .inl (cD, 40, .inr (.inr (.inr (.inl fR2))))), (es2, .inl (cI, 40, .inl fS2))] (fun r => r = mean cs2) := by
  refine Met.ofW (cc := cX4_mean) (maxL := 1) (ret := (some .double)) (by decide) rfl ?_
  intro zp ze zs zm zargs zb zt zc zs₁ B hml hv
  obtain ⟨rfl, hP, hK, hD0, hN⟩ := hv
  have hx := B.exec
  have hb := B.bytes
  have hr := B.returns
  have hts := atoms_spec (ws := wsX4_mean) B.pre
  have hown : zs.vm.findClass RX4 = some zm.cls := findClass_of_methodNamed B.named
  have hlocks := B.notSynchronized
  have hD := inW_self hD0
  have hS : va_S (inW [(w, .inr (4, [.ref cn, .ref a, .ref o, .ref e, .ref e2, .ref q])), (e2, .inr (0, [.ref en2, .ref er2, .ref es2, .int (nI ex2), .int tm2, .int sn2, .int (nI z2), .int ob2])), (en2, .inl (cI, 40, .inl fN2)), (er2, .inl (cD, 40, .inr (.inr (.inr (.inl fR2))))), (es2, .inl (cI, 40, .inl fS2))]) zs.heap zs.heap [] := va_S.rf
  have hl := lv_entry [.ref w] (n := 1) (Nat.le_of_ble_eq_true rfl)
  rw [lg_entry_eq]
  generalize (lg_sl [.ref w] ++ List.replicate (1 - (lg_sl [.ref w]).length) Slot.unset).toArray = ls at hl ⊢
  have hl : lv_has ls 1 [(0, .ref w)] := hl
  have hin4 : ∀ w ∈ u_ws RX4 TX4 6, w ∈ wsX4_mean := by decide +kernel
  refine lv_aload_n hx hb dX4_mean_0 rfl (lv_at hl 0 rfl) ?_
  refine va_get (D := D) (ci := 4) (v := .ref e2) (C := RX4) (T := TX4) (N := 6) hx hb hts hin4 hown hK hP 0 rfl rfl 4 (by decide) (hts (.fieldLink RX4 34 "EpochSifter" "latest" "LEpochSifter$Epoch;") (by decide +kernel)) (fun _ h9 => h9) rfl dX4_mean_1 ?_
  refine r_callVd (As := []) (rest := []) ⟨hx, hb, hml, hown, hts⟩ (c_X0_meanRange (zl := zl) (D := D) (cI := cI) (cD := cD) e2 en2 er2 es2 ex2 tm2 sn2 z2 ob2 fN2 fR2 fS2 cs2 hE2 hz2 hz402 (by first | assumption | omega)) (cwV 0 hts gX4_mean_X0_meanRange rfl rfl rfl (by decide +kernel) ⟨Nat.le_of_ble_eq_true rfl, Nat.le_of_ble_eq_true rfl⟩) hK hN hP hD [1, 2, 3, 4] rfl rfl 1 rfl rfl rfl hl.1 rfl (Nat.le_of_ble_eq_true rfl) dX4_mean_4 ⟨Nat.le_of_ble_eq_true rfl, Nat.le_of_ble_eq_true rfl⟩ (fun r_1 h_1 => ?_)
  obtain rfl := h_1
  exact W.dret (v := mean cs2) hx hb hr (fun tz htz hWz => ⟨_, rfl, by first | rfl | assumption | omega | simp_all, htz⟩) (fun _ h => absurd h List.not_mem_nil) dX4_mean_7
set_option maxHeartbeats 4000000 in
set_option maxRecDepth 100000 in
/-- the fix -/
theorem c_X4_fix {zl : Launch} {D : va_G} {cI cD : ClassId} (w : Nat) (cn : Nat) (a : Nat) (o : Nat) (e : Nat) (e2 : Nat) (q : Nat) (p0 : Int32) (p1 : Int32) (p2 : Int32) (p3 : Int32) (p4 : Int32) : Ci zl yX4_fix wsX4_fix ({ frames := 0, cells := 0, slots := 0, locals := 0 }) D cI cD [.ref w] [(w, .inr (4, [.ref cn, .ref a, .ref o, .ref e, .ref e2, .ref q])), (q, .inr (2, [.int p0, .int p1, .int p2, .int p3, .int p4]))] (fun r => r = p0) := by
  refine Met.ofW (cc := cX4_fix) (maxL := 1) (ret := (some .int)) (by decide) rfl ?_
  intro zp ze zs zm zargs zb zt zc zs₁ B hml hv
  obtain ⟨rfl, hP, hK, hD0, hN⟩ := hv
  have hx := B.exec
  have hb := B.bytes
  have hr := B.returns
  have hts := atoms_spec (ws := wsX4_fix) B.pre
  have hown : zs.vm.findClass RX4 = some zm.cls := findClass_of_methodNamed B.named
  have hlocks := B.notSynchronized
  have hD := inW_self hD0
  have hS : va_S (inW [(w, .inr (4, [.ref cn, .ref a, .ref o, .ref e, .ref e2, .ref q])), (q, .inr (2, [.int p0, .int p1, .int p2, .int p3, .int p4]))]) zs.heap zs.heap [] := va_S.rf
  have hl := lv_entry [.ref w] (n := 1) (Nat.le_of_ble_eq_true rfl)
  rw [lg_entry_eq]
  generalize (lg_sl [.ref w] ++ List.replicate (1 - (lg_sl [.ref w]).length) Slot.unset).toArray = ls at hl ⊢
  have hl : lv_has ls 1 [(0, .ref w)] := hl
  have hin2 : ∀ w ∈ u_ws RX2 TX2 5, w ∈ wsX4_fix := by decide +kernel
  have hin4 : ∀ w ∈ u_ws RX4 TX4 6, w ∈ wsX4_fix := by decide +kernel
  refine lv_aload_n hx hb dX4_fix_0 rfl (lv_at hl 0 rfl) ?_
  refine va_get (D := D) (ci := 4) (v := .ref q) (C := RX4) (T := TX4) (N := 6) hx hb hts hin4 hown hK hP 0 rfl rfl 5 (by decide) (hts (.fieldLink RX4 40 "EpochSifter" "position" "LEpochSifter$Position;") (by decide +kernel)) (fun _ h9 => h9) rfl dX4_fix_1 ?_
  refine va_get (D := D) (ci := 2) (v := .int p0) (C := RX2) (T := TX2) (N := 5) hx hb hts hin2 hown hK hP 1 rfl rfl 0 (by decide) (hts (.fieldLink RX4 99 "EpochSifter$Position" "quality" "I") (by decide +kernel)) (fun _ h9 => h9) rfl dX4_fix_4 ?_
  exact W.iret (v := p0) hx hb hr (fun tz htz hWz => ⟨_, rfl, by first | rfl | assumption | omega | simp_all, htz⟩) (fun _ h => absurd h List.not_mem_nil) dX4_fix_7
set_option maxHeartbeats 4000000 in
set_option maxRecDepth 100000 in
/-- a place -/
theorem c_X4_place {zl : Launch} {D : va_G} {cI cD : ClassId} (w : Nat) (cn : Nat) (a : Nat) (o : Nat) (e : Nat) (e2 : Nat) (q : Nat) (p0 : Int32) (p1 : Int32) (p2 : Int32) (p3 : Int32) (p4 : Int32) (j : Nat) (hj : j < 2 ^ 31) : Cd zl yX4_place wsX4_place ({ frames := 0, cells := 0, slots := 0, locals := 0 }) D cI cD [.ref w, .int (nI j)] [(w, .inr (4, [.ref cn, .ref a, .ref o, .ref e, .ref e2, .ref q])), (q, .inr (2, [.int p0, .int p1, .int p2, .int p3, .int p4]))] (fun r => r = if j = 0 then FP.dmul (FP.i2d p2) 4502148214488346440 else if j = 1 then FP.dmul (FP.i2d p3) 4502148214488346440 else if j = 2 then FP.dmul (FP.i2d p4) 4562254508917369340 else FP.dconst0) := by
  refine Met.ofW (cc := cX4_place) (maxL := 2) (ret := (some .double)) (by decide) rfl ?_
  intro zp ze zs zm zargs zb zt zc zs₁ B hml hv
  obtain ⟨rfl, hP, hK, hD0, hN⟩ := hv
  have hx := B.exec
  have hb := B.bytes
  have hr := B.returns
  have hts := atoms_spec (ws := wsX4_place) B.pre
  have hown : zs.vm.findClass RX4 = some zm.cls := findClass_of_methodNamed B.named
  have hlocks := B.notSynchronized
  have hD := inW_self hD0
  have hS : va_S (inW [(w, .inr (4, [.ref cn, .ref a, .ref o, .ref e, .ref e2, .ref q])), (q, .inr (2, [.int p0, .int p1, .int p2, .int p3, .int p4]))]) zs.heap zs.heap [] := va_S.rf
  have hl := lv_entry [.ref w, .int (nI j)] (n := 2) (Nat.le_of_ble_eq_true rfl)
  rw [lg_entry_eq]
  generalize (lg_sl [.ref w, .int (nI j)] ++ List.replicate (2 - (lg_sl [.ref w, .int (nI j)]).length) Slot.unset).toArray = ls at hl ⊢
  have hl : lv_has ls 2 [(0, .ref w), (1, .int (nI j))] := hl
  have hin2 : ∀ w ∈ u_ws RX2 TX2 5, w ∈ wsX4_place := by decide +kernel
  have hin4 : ∀ w ∈ u_ws RX4 TX4 6, w ∈ wsX4_place := by decide +kernel
  have hti := nI_toInt hj
  refine lv_iload_n hx hb dX4_place_0 rfl (lv_at hl 1 rfl) ?_
  rcases (show (nI j).toInt < 0 ∨ 2 < (nI j).toInt ∨ (nI j).toInt = 0 ∨ (nI j).toInt = 1 ∨ (nI j).toInt = 2 from by omega) with sw1 | sw1 | sw1 | sw1 | sw1
  · refine lv_tableOut (tgt := 67) hx hb dX4_place_1 (Or.inl sw1) (by decide) ?_
    refine lv_dconst0 hx hb dX4_place_67 ?_
    exact W.dret (v := FP.dconst0) hx hb hr (fun tz htz hWz => ⟨_, rfl, by rw [if_neg (by omega), if_neg (by omega), if_neg (by omega)], htz⟩) (fun _ h => absurd h List.not_mem_nil) dX4_place_68
  · refine lv_tableOut (tgt := 67) hx hb dX4_place_1 (Or.inr sw1) (by decide) ?_
    refine lv_dconst0 hx hb dX4_place_67 ?_
    exact W.dret (v := FP.dconst0) hx hb hr (fun tz htz hWz => ⟨_, rfl, by rw [if_neg (by omega), if_neg (by omega), if_neg (by omega)], htz⟩) (fun _ h => absurd h List.not_mem_nil) dX4_place_68
  · refine lv_tableIn (tgt := 28) (off := 27) hx hb dX4_place_1 (by omega) (by omega) (by rw [sw1]; rfl) (by decide) ?_
    refine lv_aload_n hx hb dX4_place_28 rfl (lv_at hl 0 rfl) ?_
    refine va_get (D := D) (ci := 4) (v := .ref q) (C := RX4) (T := TX4) (N := 6) hx hb hts hin4 hown hK hP 0 rfl rfl 5 (by decide) (hts (.fieldLink RX4 40 "EpochSifter" "position" "LEpochSifter$Position;") (by decide +kernel)) (fun _ h9 => h9) rfl dX4_place_29 ?_
    refine va_get (D := D) (ci := 2) (v := .int p2) (C := RX2) (T := TX2) (N := 5) hx hb hts hin2 hown hK hP 1 rfl rfl 2 (by decide) (hts (.fieldLink RX4 102 "EpochSifter$Position" "latitude" "I") (by decide +kernel)) (fun _ h9 => h9) rfl dX4_place_32 ?_
    refine lv_i2d hx hb dX4_place_35 ?_
    refine lv_ldc2d (v := 4502148214488346440) hx hb hown (hts (.constantDouble RX4 105 (4502148214488346440)) (by decide +kernel)) dX4_place_36 ?_
    refine lv_dmul hx hb dX4_place_39 (vf_mul1 _) ?_
    exact W.dret (v := FP.dmul (FP.i2d p2) 4502148214488346440) hx hb hr (fun tz htz hWz => ⟨_, rfl, by rw [if_pos (by omega)], htz⟩) (fun _ h => absurd h List.not_mem_nil) dX4_place_40
  · refine lv_tableIn (tgt := 41) (off := 40) hx hb dX4_place_1 (by omega) (by omega) (by rw [sw1]; rfl) (by decide) ?_
    refine lv_aload_n hx hb dX4_place_41 rfl (lv_at hl 0 rfl) ?_
    refine va_get (D := D) (ci := 4) (v := .ref q) (C := RX4) (T := TX4) (N := 6) hx hb hts hin4 hown hK hP 0 rfl rfl 5 (by decide) (hts (.fieldLink RX4 40 "EpochSifter" "position" "LEpochSifter$Position;") (by decide +kernel)) (fun _ h9 => h9) rfl dX4_place_42 ?_
    refine va_get (D := D) (ci := 2) (v := .int p3) (C := RX2) (T := TX2) (N := 5) hx hb hts hin2 hown hK hP 1 rfl rfl 3 (by decide) (hts (.fieldLink RX4 107 "EpochSifter$Position" "longitude" "I") (by decide +kernel)) (fun _ h9 => h9) rfl dX4_place_45 ?_
    refine lv_i2d hx hb dX4_place_48 ?_
    refine lv_ldc2d (v := 4502148214488346440) hx hb hown (hts (.constantDouble RX4 105 (4502148214488346440)) (by decide +kernel)) dX4_place_49 ?_
    refine lv_dmul hx hb dX4_place_52 (vf_mul1 _) ?_
    exact W.dret (v := FP.dmul (FP.i2d p3) 4502148214488346440) hx hb hr (fun tz htz hWz => ⟨_, rfl, by rw [if_neg (by omega), if_pos (by omega)], htz⟩) (fun _ h => absurd h List.not_mem_nil) dX4_place_53
  · refine lv_tableIn (tgt := 54) (off := 53) hx hb dX4_place_1 (by omega) (by omega) (by rw [sw1]; rfl) (by decide) ?_
    refine lv_aload_n hx hb dX4_place_54 rfl (lv_at hl 0 rfl) ?_
    refine va_get (D := D) (ci := 4) (v := .ref q) (C := RX4) (T := TX4) (N := 6) hx hb hts hin4 hown hK hP 0 rfl rfl 5 (by decide) (hts (.fieldLink RX4 40 "EpochSifter" "position" "LEpochSifter$Position;") (by decide +kernel)) (fun _ h9 => h9) rfl dX4_place_55 ?_
    refine va_get (D := D) (ci := 2) (v := .int p4) (C := RX2) (T := TX2) (N := 5) hx hb hts hin2 hown hK hP 1 rfl rfl 4 (by decide) (hts (.fieldLink RX4 110 "EpochSifter$Position" "height" "I") (by decide +kernel)) (fun _ h9 => h9) rfl dX4_place_58 ?_
    refine lv_i2d hx hb dX4_place_61 ?_
    refine lv_ldc2d (v := 4562254508917369340) hx hb hown (hts (.constantDouble RX4 113 (4562254508917369340)) (by decide +kernel)) dX4_place_62 ?_
    refine lv_dmul hx hb dX4_place_65 (vf_mul2 _) ?_
    exact W.dret (v := FP.dmul (FP.i2d p4) 4562254508917369340) hx hb hr (fun tz htz hWz => ⟨_, rfl, by rw [if_neg (by omega), if_neg (by omega), if_pos (by omega)], htz⟩) (fun _ h => absurd h List.not_mem_nil) dX4_place_66
set_option maxHeartbeats 4000000 in
set_option maxRecDepth 100000 in
/-- no place -/
theorem c_X4_place_no {zl : Launch} {D : va_G} {cI cD : ClassId} (w : Nat) (cn : Nat) (a : Nat) (o : Nat) (e : Nat) (e2 : Nat) (q : Nat) (p0 : Int32) (p1 : Int32) (p2 : Int32) (p3 : Int32) (p4 : Int32) (j : Int32) (hj : j < 0) : Cd zl yX4_place wsX4_place ({ frames := 0, cells := 0, slots := 0, locals := 0 }) D cI cD [.ref w, .int j] [(w, .inr (4, [.ref cn, .ref a, .ref o, .ref e, .ref e2, .ref q])), (q, .inr (2, [.int p0, .int p1, .int p2, .int p3, .int p4]))] (fun r => r = FP.dconst0) := by
  refine Met.ofW (cc := cX4_place) (maxL := 2) (ret := (some .double)) (by decide) rfl ?_
  intro zp ze zs zm zargs zb zt zc zs₁ B hml hv
  obtain ⟨rfl, hP, hK, hD0, hN⟩ := hv
  have hx := B.exec
  have hb := B.bytes
  have hr := B.returns
  have hts := atoms_spec (ws := wsX4_place) B.pre
  have hown : zs.vm.findClass RX4 = some zm.cls := findClass_of_methodNamed B.named
  have hlocks := B.notSynchronized
  have hD := inW_self hD0
  have hS : va_S (inW [(w, .inr (4, [.ref cn, .ref a, .ref o, .ref e, .ref e2, .ref q])), (q, .inr (2, [.int p0, .int p1, .int p2, .int p3, .int p4]))]) zs.heap zs.heap [] := va_S.rf
  have hl := lv_entry [.ref w, .int j] (n := 2) (Nat.le_of_ble_eq_true rfl)
  rw [lg_entry_eq]
  generalize (lg_sl [.ref w, .int j] ++ List.replicate (2 - (lg_sl [.ref w, .int j]).length) Slot.unset).toArray = ls at hl ⊢
  have hl : lv_has ls 2 [(0, .ref w), (1, .int j)] := hl
  have hin2 : ∀ w ∈ u_ws RX2 TX2 5, w ∈ wsX4_place := by decide +kernel
  have hin4 : ∀ w ∈ u_ws RX4 TX4 6, w ∈ wsX4_place := by decide +kernel
  have hti : j.toInt < 0 := Int32.lt_iff_toInt_lt.mp hj
  refine lv_iload_n hx hb dX4_place_0 rfl (lv_at hl 1 rfl) ?_
  rcases (show j.toInt < 0 ∨ 2 < j.toInt ∨ j.toInt = 0 ∨ j.toInt = 1 ∨ j.toInt = 2 from by omega) with sw1 | sw1 | sw1 | sw1 | sw1
  · refine lv_tableOut (tgt := 67) hx hb dX4_place_1 (Or.inl sw1) (by decide) ?_
    refine lv_dconst0 hx hb dX4_place_67 ?_
    exact W.dret (v := FP.dconst0) hx hb hr (fun tz htz hWz => ⟨_, rfl, by first | rfl | (exfalso; omega), htz⟩) (fun _ h => absurd h List.not_mem_nil) dX4_place_68
  · refine lv_tableOut (tgt := 67) hx hb dX4_place_1 (Or.inr sw1) (by decide) ?_
    refine lv_dconst0 hx hb dX4_place_67 ?_
    exact W.dret (v := FP.dconst0) hx hb hr (fun tz htz hWz => ⟨_, rfl, by first | rfl | (exfalso; omega), htz⟩) (fun _ h => absurd h List.not_mem_nil) dX4_place_68
  · refine lv_tableIn (tgt := 28) (off := 27) hx hb dX4_place_1 (by omega) (by omega) (by rw [sw1]; rfl) (by decide) ?_
    refine lv_aload_n hx hb dX4_place_28 rfl (lv_at hl 0 rfl) ?_
    refine va_get (D := D) (ci := 4) (v := .ref q) (C := RX4) (T := TX4) (N := 6) hx hb hts hin4 hown hK hP 0 rfl rfl 5 (by decide) (hts (.fieldLink RX4 40 "EpochSifter" "position" "LEpochSifter$Position;") (by decide +kernel)) (fun _ h9 => h9) rfl dX4_place_29 ?_
    refine va_get (D := D) (ci := 2) (v := .int p2) (C := RX2) (T := TX2) (N := 5) hx hb hts hin2 hown hK hP 1 rfl rfl 2 (by decide) (hts (.fieldLink RX4 102 "EpochSifter$Position" "latitude" "I") (by decide +kernel)) (fun _ h9 => h9) rfl dX4_place_32 ?_
    refine lv_i2d hx hb dX4_place_35 ?_
    refine lv_ldc2d (v := 4502148214488346440) hx hb hown (hts (.constantDouble RX4 105 (4502148214488346440)) (by decide +kernel)) dX4_place_36 ?_
    refine lv_dmul hx hb dX4_place_39 (vf_mul1 _) ?_
    exact W.dret (v := FP.dmul (FP.i2d p2) 4502148214488346440) hx hb hr (fun tz htz hWz => ⟨_, rfl, by first | rfl | (exfalso; omega), htz⟩) (fun _ h => absurd h List.not_mem_nil) dX4_place_40
  · refine lv_tableIn (tgt := 41) (off := 40) hx hb dX4_place_1 (by omega) (by omega) (by rw [sw1]; rfl) (by decide) ?_
    refine lv_aload_n hx hb dX4_place_41 rfl (lv_at hl 0 rfl) ?_
    refine va_get (D := D) (ci := 4) (v := .ref q) (C := RX4) (T := TX4) (N := 6) hx hb hts hin4 hown hK hP 0 rfl rfl 5 (by decide) (hts (.fieldLink RX4 40 "EpochSifter" "position" "LEpochSifter$Position;") (by decide +kernel)) (fun _ h9 => h9) rfl dX4_place_42 ?_
    refine va_get (D := D) (ci := 2) (v := .int p3) (C := RX2) (T := TX2) (N := 5) hx hb hts hin2 hown hK hP 1 rfl rfl 3 (by decide) (hts (.fieldLink RX4 107 "EpochSifter$Position" "longitude" "I") (by decide +kernel)) (fun _ h9 => h9) rfl dX4_place_45 ?_
    refine lv_i2d hx hb dX4_place_48 ?_
    refine lv_ldc2d (v := 4502148214488346440) hx hb hown (hts (.constantDouble RX4 105 (4502148214488346440)) (by decide +kernel)) dX4_place_49 ?_
    refine lv_dmul hx hb dX4_place_52 (vf_mul1 _) ?_
    exact W.dret (v := FP.dmul (FP.i2d p3) 4502148214488346440) hx hb hr (fun tz htz hWz => ⟨_, rfl, by first | rfl | (exfalso; omega), htz⟩) (fun _ h => absurd h List.not_mem_nil) dX4_place_53
  · refine lv_tableIn (tgt := 54) (off := 53) hx hb dX4_place_1 (by omega) (by omega) (by rw [sw1]; rfl) (by decide) ?_
    refine lv_aload_n hx hb dX4_place_54 rfl (lv_at hl 0 rfl) ?_
    refine va_get (D := D) (ci := 4) (v := .ref q) (C := RX4) (T := TX4) (N := 6) hx hb hts hin4 hown hK hP 0 rfl rfl 5 (by decide) (hts (.fieldLink RX4 40 "EpochSifter" "position" "LEpochSifter$Position;") (by decide +kernel)) (fun _ h9 => h9) rfl dX4_place_55 ?_
    refine va_get (D := D) (ci := 2) (v := .int p4) (C := RX2) (T := TX2) (N := 5) hx hb hts hin2 hown hK hP 1 rfl rfl 4 (by decide) (hts (.fieldLink RX4 110 "EpochSifter$Position" "height" "I") (by decide +kernel)) (fun _ h9 => h9) rfl dX4_place_58 ?_
    refine lv_i2d hx hb dX4_place_61 ?_
    refine lv_ldc2d (v := 4562254508917369340) hx hb hown (hts (.constantDouble RX4 113 (4562254508917369340)) (by decide +kernel)) dX4_place_62 ?_
    refine lv_dmul hx hb dX4_place_65 (vf_mul2 _) ?_
    exact W.dret (v := FP.dmul (FP.i2d p4) 4562254508917369340) hx hb hr (fun tz htz hWz => ⟨_, rfl, by first | rfl | (exfalso; omega), htz⟩) (fun _ h => absurd h List.not_mem_nil) dX4_place_66
set_option maxHeartbeats 4000000 in
set_option maxRecDepth 100000 in
/-- a raw number -/
theorem c_X4_raw {zl : Launch} {D : va_G} {cI cD : ClassId} (w : Nat) (cn : Nat) (a : Nat) (o : Nat) (e : Nat) (e2 : Nat) (q : Nat) (p0 : Int32) (p1 : Int32) (p2 : Int32) (p3 : Int32) (p4 : Int32) (j : Nat) (hj : j < 2 ^ 31) : Ci zl yX4_raw wsX4_raw ({ frames := 0, cells := 0, slots := 0, locals := 0 }) D cI cD [.ref w, .int (nI j)] [(w, .inr (4, [.ref cn, .ref a, .ref o, .ref e, .ref e2, .ref q])), (q, .inr (2, [.int p0, .int p1, .int p2, .int p3, .int p4]))] (fun r => r = if j = 0 then p1 else if j = 1 then p2 else if j = 2 then p3 else if j = 3 then p4 else nI 0) := by
  refine Met.ofW (cc := cX4_raw) (maxL := 2) (ret := (some .int)) (by decide) rfl ?_
  intro zp ze zs zm zargs zb zt zc zs₁ B hml hv
  obtain ⟨rfl, hP, hK, hD0, hN⟩ := hv
  have hx := B.exec
  have hb := B.bytes
  have hr := B.returns
  have hts := atoms_spec (ws := wsX4_raw) B.pre
  have hown : zs.vm.findClass RX4 = some zm.cls := findClass_of_methodNamed B.named
  have hlocks := B.notSynchronized
  have hD := inW_self hD0
  have hS : va_S (inW [(w, .inr (4, [.ref cn, .ref a, .ref o, .ref e, .ref e2, .ref q])), (q, .inr (2, [.int p0, .int p1, .int p2, .int p3, .int p4]))]) zs.heap zs.heap [] := va_S.rf
  have hl := lv_entry [.ref w, .int (nI j)] (n := 2) (Nat.le_of_ble_eq_true rfl)
  rw [lg_entry_eq]
  generalize (lg_sl [.ref w, .int (nI j)] ++ List.replicate (2 - (lg_sl [.ref w, .int (nI j)]).length) Slot.unset).toArray = ls at hl ⊢
  have hl : lv_has ls 2 [(0, .ref w), (1, .int (nI j))] := hl
  have hin2 : ∀ w ∈ u_ws RX2 TX2 5, w ∈ wsX4_raw := by decide +kernel
  have hin4 : ∀ w ∈ u_ws RX4 TX4 6, w ∈ wsX4_raw := by decide +kernel
  have hti := nI_toInt hj
  refine lv_iload_n hx hb dX4_raw_0 rfl (lv_at hl 1 rfl) ?_
  rcases (show (nI j).toInt < 0 ∨ 3 < (nI j).toInt ∨ (nI j).toInt = 0 ∨ (nI j).toInt = 1 ∨ (nI j).toInt = 2 ∨ (nI j).toInt = 3 from by omega) with sw1 | sw1 | sw1 | sw1 | sw1 | sw1
  · refine lv_tableOut (tgt := 64) hx hb dX4_raw_1 (Or.inl sw1) (by decide) ?_
    refine lv_iconst (v := nI 0) hx hb dX4_raw_64 (by decide) ?_
    exact W.iret (v := nI 0) hx hb hr (fun tz htz hWz => ⟨_, rfl, by rw [if_neg (by omega), if_neg (by omega), if_neg (by omega), if_neg (by omega)], htz⟩) (fun _ h => absurd h List.not_mem_nil) dX4_raw_65
  · refine lv_tableOut (tgt := 64) hx hb dX4_raw_1 (Or.inr sw1) (by decide) ?_
    refine lv_iconst (v := nI 0) hx hb dX4_raw_64 (by decide) ?_
    exact W.iret (v := nI 0) hx hb hr (fun tz htz hWz => ⟨_, rfl, by rw [if_neg (by omega), if_neg (by omega), if_neg (by omega), if_neg (by omega)], htz⟩) (fun _ h => absurd h List.not_mem_nil) dX4_raw_65
  · refine lv_tableIn (tgt := 32) (off := 31) hx hb dX4_raw_1 (by omega) (by omega) (by rw [sw1]; rfl) (by decide) ?_
    refine lv_aload_n hx hb dX4_raw_32 rfl (lv_at hl 0 rfl) ?_
    refine va_get (D := D) (ci := 4) (v := .ref q) (C := RX4) (T := TX4) (N := 6) hx hb hts hin4 hown hK hP 0 rfl rfl 5 (by decide) (hts (.fieldLink RX4 40 "EpochSifter" "position" "LEpochSifter$Position;") (by decide +kernel)) (fun _ h9 => h9) rfl dX4_raw_33 ?_
    refine va_get (D := D) (ci := 2) (v := .int p1) (C := RX2) (T := TX2) (N := 5) hx hb hts hin2 hown hK hP 1 rfl rfl 1 (by decide) (hts (.fieldLink RX4 115 "EpochSifter$Position" "time" "I") (by decide +kernel)) (fun _ h9 => h9) rfl dX4_raw_36 ?_
    exact W.iret (v := p1) hx hb hr (fun tz htz hWz => ⟨_, rfl, by rw [if_pos (by omega)], htz⟩) (fun _ h => absurd h List.not_mem_nil) dX4_raw_39
  · refine lv_tableIn (tgt := 40) (off := 39) hx hb dX4_raw_1 (by omega) (by omega) (by rw [sw1]; rfl) (by decide) ?_
    refine lv_aload_n hx hb dX4_raw_40 rfl (lv_at hl 0 rfl) ?_
    refine va_get (D := D) (ci := 4) (v := .ref q) (C := RX4) (T := TX4) (N := 6) hx hb hts hin4 hown hK hP 0 rfl rfl 5 (by decide) (hts (.fieldLink RX4 40 "EpochSifter" "position" "LEpochSifter$Position;") (by decide +kernel)) (fun _ h9 => h9) rfl dX4_raw_41 ?_
    refine va_get (D := D) (ci := 2) (v := .int p2) (C := RX2) (T := TX2) (N := 5) hx hb hts hin2 hown hK hP 1 rfl rfl 2 (by decide) (hts (.fieldLink RX4 102 "EpochSifter$Position" "latitude" "I") (by decide +kernel)) (fun _ h9 => h9) rfl dX4_raw_44 ?_
    exact W.iret (v := p2) hx hb hr (fun tz htz hWz => ⟨_, rfl, by rw [if_neg (by omega), if_pos (by omega)], htz⟩) (fun _ h => absurd h List.not_mem_nil) dX4_raw_47
  · refine lv_tableIn (tgt := 48) (off := 47) hx hb dX4_raw_1 (by omega) (by omega) (by rw [sw1]; rfl) (by decide) ?_
    refine lv_aload_n hx hb dX4_raw_48 rfl (lv_at hl 0 rfl) ?_
    refine va_get (D := D) (ci := 4) (v := .ref q) (C := RX4) (T := TX4) (N := 6) hx hb hts hin4 hown hK hP 0 rfl rfl 5 (by decide) (hts (.fieldLink RX4 40 "EpochSifter" "position" "LEpochSifter$Position;") (by decide +kernel)) (fun _ h9 => h9) rfl dX4_raw_49 ?_
    refine va_get (D := D) (ci := 2) (v := .int p3) (C := RX2) (T := TX2) (N := 5) hx hb hts hin2 hown hK hP 1 rfl rfl 3 (by decide) (hts (.fieldLink RX4 107 "EpochSifter$Position" "longitude" "I") (by decide +kernel)) (fun _ h9 => h9) rfl dX4_raw_52 ?_
    exact W.iret (v := p3) hx hb hr (fun tz htz hWz => ⟨_, rfl, by rw [if_neg (by omega), if_neg (by omega), if_pos (by omega)], htz⟩) (fun _ h => absurd h List.not_mem_nil) dX4_raw_55
  · refine lv_tableIn (tgt := 56) (off := 55) hx hb dX4_raw_1 (by omega) (by omega) (by rw [sw1]; rfl) (by decide) ?_
    refine lv_aload_n hx hb dX4_raw_56 rfl (lv_at hl 0 rfl) ?_
    refine va_get (D := D) (ci := 4) (v := .ref q) (C := RX4) (T := TX4) (N := 6) hx hb hts hin4 hown hK hP 0 rfl rfl 5 (by decide) (hts (.fieldLink RX4 40 "EpochSifter" "position" "LEpochSifter$Position;") (by decide +kernel)) (fun _ h9 => h9) rfl dX4_raw_57 ?_
    refine va_get (D := D) (ci := 2) (v := .int p4) (C := RX2) (T := TX2) (N := 5) hx hb hts hin2 hown hK hP 1 rfl rfl 4 (by decide) (hts (.fieldLink RX4 110 "EpochSifter$Position" "height" "I") (by decide +kernel)) (fun _ h9 => h9) rfl dX4_raw_60 ?_
    exact W.iret (v := p4) hx hb hr (fun tz htz hWz => ⟨_, rfl, by rw [if_neg (by omega), if_neg (by omega), if_neg (by omega), if_pos (by omega)], htz⟩) (fun _ h => absurd h List.not_mem_nil) dX4_raw_63
set_option maxHeartbeats 4000000 in
set_option maxRecDepth 100000 in
/-- no raw number -/
theorem c_X4_raw_no {zl : Launch} {D : va_G} {cI cD : ClassId} (w : Nat) (cn : Nat) (a : Nat) (o : Nat) (e : Nat) (e2 : Nat) (q : Nat) (p0 : Int32) (p1 : Int32) (p2 : Int32) (p3 : Int32) (p4 : Int32) (j : Int32) (hj : j < 0) : Ci zl yX4_raw wsX4_raw ({ frames := 0, cells := 0, slots := 0, locals := 0 }) D cI cD [.ref w, .int j] [(w, .inr (4, [.ref cn, .ref a, .ref o, .ref e, .ref e2, .ref q])), (q, .inr (2, [.int p0, .int p1, .int p2, .int p3, .int p4]))] (fun r => r = nI 0) := by
  refine Met.ofW (cc := cX4_raw) (maxL := 2) (ret := (some .int)) (by decide) rfl ?_
  intro zp ze zs zm zargs zb zt zc zs₁ B hml hv
  obtain ⟨rfl, hP, hK, hD0, hN⟩ := hv
  have hx := B.exec
  have hb := B.bytes
  have hr := B.returns
  have hts := atoms_spec (ws := wsX4_raw) B.pre
  have hown : zs.vm.findClass RX4 = some zm.cls := findClass_of_methodNamed B.named
  have hlocks := B.notSynchronized
  have hD := inW_self hD0
  have hS : va_S (inW [(w, .inr (4, [.ref cn, .ref a, .ref o, .ref e, .ref e2, .ref q])), (q, .inr (2, [.int p0, .int p1, .int p2, .int p3, .int p4]))]) zs.heap zs.heap [] := va_S.rf
  have hl := lv_entry [.ref w, .int j] (n := 2) (Nat.le_of_ble_eq_true rfl)
  rw [lg_entry_eq]
  generalize (lg_sl [.ref w, .int j] ++ List.replicate (2 - (lg_sl [.ref w, .int j]).length) Slot.unset).toArray = ls at hl ⊢
  have hl : lv_has ls 2 [(0, .ref w), (1, .int j)] := hl
  have hin2 : ∀ w ∈ u_ws RX2 TX2 5, w ∈ wsX4_raw := by decide +kernel
  have hin4 : ∀ w ∈ u_ws RX4 TX4 6, w ∈ wsX4_raw := by decide +kernel
  have hti : j.toInt < 0 := Int32.lt_iff_toInt_lt.mp hj
  refine lv_iload_n hx hb dX4_raw_0 rfl (lv_at hl 1 rfl) ?_
  rcases (show j.toInt < 0 ∨ 3 < j.toInt ∨ j.toInt = 0 ∨ j.toInt = 1 ∨ j.toInt = 2 ∨ j.toInt = 3 from by omega) with sw1 | sw1 | sw1 | sw1 | sw1 | sw1
  · refine lv_tableOut (tgt := 64) hx hb dX4_raw_1 (Or.inl sw1) (by decide) ?_
    refine lv_iconst (v := nI 0) hx hb dX4_raw_64 (by decide) ?_
    exact W.iret (v := nI 0) hx hb hr (fun tz htz hWz => ⟨_, rfl, by first | rfl | (exfalso; omega), htz⟩) (fun _ h => absurd h List.not_mem_nil) dX4_raw_65
  · refine lv_tableOut (tgt := 64) hx hb dX4_raw_1 (Or.inr sw1) (by decide) ?_
    refine lv_iconst (v := nI 0) hx hb dX4_raw_64 (by decide) ?_
    exact W.iret (v := nI 0) hx hb hr (fun tz htz hWz => ⟨_, rfl, by first | rfl | (exfalso; omega), htz⟩) (fun _ h => absurd h List.not_mem_nil) dX4_raw_65
  · refine lv_tableIn (tgt := 32) (off := 31) hx hb dX4_raw_1 (by omega) (by omega) (by rw [sw1]; rfl) (by decide) ?_
    refine lv_aload_n hx hb dX4_raw_32 rfl (lv_at hl 0 rfl) ?_
    refine va_get (D := D) (ci := 4) (v := .ref q) (C := RX4) (T := TX4) (N := 6) hx hb hts hin4 hown hK hP 0 rfl rfl 5 (by decide) (hts (.fieldLink RX4 40 "EpochSifter" "position" "LEpochSifter$Position;") (by decide +kernel)) (fun _ h9 => h9) rfl dX4_raw_33 ?_
    refine va_get (D := D) (ci := 2) (v := .int p1) (C := RX2) (T := TX2) (N := 5) hx hb hts hin2 hown hK hP 1 rfl rfl 1 (by decide) (hts (.fieldLink RX4 115 "EpochSifter$Position" "time" "I") (by decide +kernel)) (fun _ h9 => h9) rfl dX4_raw_36 ?_
    exact W.iret (v := p1) hx hb hr (fun tz htz hWz => ⟨_, rfl, by first | rfl | (exfalso; omega), htz⟩) (fun _ h => absurd h List.not_mem_nil) dX4_raw_39
  · refine lv_tableIn (tgt := 40) (off := 39) hx hb dX4_raw_1 (by omega) (by omega) (by rw [sw1]; rfl) (by decide) ?_
    refine lv_aload_n hx hb dX4_raw_40 rfl (lv_at hl 0 rfl) ?_
    refine va_get (D := D) (ci := 4) (v := .ref q) (C := RX4) (T := TX4) (N := 6) hx hb hts hin4 hown hK hP 0 rfl rfl 5 (by decide) (hts (.fieldLink RX4 40 "EpochSifter" "position" "LEpochSifter$Position;") (by decide +kernel)) (fun _ h9 => h9) rfl dX4_raw_41 ?_
    refine va_get (D := D) (ci := 2) (v := .int p2) (C := RX2) (T := TX2) (N := 5) hx hb hts hin2 hown hK hP 1 rfl rfl 2 (by decide) (hts (.fieldLink RX4 102 "EpochSifter$Position" "latitude" "I") (by decide +kernel)) (fun _ h9 => h9) rfl dX4_raw_44 ?_
    exact W.iret (v := p2) hx hb hr (fun tz htz hWz => ⟨_, rfl, by first | rfl | (exfalso; omega), htz⟩) (fun _ h => absurd h List.not_mem_nil) dX4_raw_47
  · refine lv_tableIn (tgt := 48) (off := 47) hx hb dX4_raw_1 (by omega) (by omega) (by rw [sw1]; rfl) (by decide) ?_
    refine lv_aload_n hx hb dX4_raw_48 rfl (lv_at hl 0 rfl) ?_
    refine va_get (D := D) (ci := 4) (v := .ref q) (C := RX4) (T := TX4) (N := 6) hx hb hts hin4 hown hK hP 0 rfl rfl 5 (by decide) (hts (.fieldLink RX4 40 "EpochSifter" "position" "LEpochSifter$Position;") (by decide +kernel)) (fun _ h9 => h9) rfl dX4_raw_49 ?_
    refine va_get (D := D) (ci := 2) (v := .int p3) (C := RX2) (T := TX2) (N := 5) hx hb hts hin2 hown hK hP 1 rfl rfl 3 (by decide) (hts (.fieldLink RX4 107 "EpochSifter$Position" "longitude" "I") (by decide +kernel)) (fun _ h9 => h9) rfl dX4_raw_52 ?_
    exact W.iret (v := p3) hx hb hr (fun tz htz hWz => ⟨_, rfl, by first | rfl | (exfalso; omega), htz⟩) (fun _ h => absurd h List.not_mem_nil) dX4_raw_55
  · refine lv_tableIn (tgt := 56) (off := 55) hx hb dX4_raw_1 (by omega) (by omega) (by rw [sw1]; rfl) (by decide) ?_
    refine lv_aload_n hx hb dX4_raw_56 rfl (lv_at hl 0 rfl) ?_
    refine va_get (D := D) (ci := 4) (v := .ref q) (C := RX4) (T := TX4) (N := 6) hx hb hts hin4 hown hK hP 0 rfl rfl 5 (by decide) (hts (.fieldLink RX4 40 "EpochSifter" "position" "LEpochSifter$Position;") (by decide +kernel)) (fun _ h9 => h9) rfl dX4_raw_57 ?_
    refine va_get (D := D) (ci := 2) (v := .int p4) (C := RX2) (T := TX2) (N := 5) hx hb hts hin2 hown hK hP 1 rfl rfl 4 (by decide) (hts (.fieldLink RX4 110 "EpochSifter$Position" "height" "I") (by decide +kernel)) (fun _ h9 => h9) rfl dX4_raw_60 ?_
    exact W.iret (v := p4) hx hb hr (fun tz htz hWz => ⟨_, rfl, by first | rfl | (exfalso; omega), htz⟩) (fun _ h => absurd h List.not_mem_nil) dX4_raw_63
