/-! Constructors: rows that make cells. -/
def nest2 (U : State) : Prop := va_Nw (.methodLinkNest RX4 39 yX2_init "EpochSifter") U
def Pn (D : va_G) (cI cD : ClassId) (w : va_W) (sz : Nat) (U : State) : Prop := Pw D cI cD w U ∧ U.heap.size = sz ∧ nest2 U
theorem Pn.blind {D : va_G} {cI cD : ClassId} {w : va_W} {sz : Nat} (av : List Value) : FrameBlind (va_Pc av (Pn D cI cD w sz)) := fun a U g mk q => by
  obtain ⟨q0, qW, qs, qN⟩ := q
  exact ⟨q0, ((Pw.blind (D := D) (cI := cI) (cD := cD) (w := w) av) a U g mk ⟨q0, qW⟩).2, qs, va_Nw.same rfl rfl qN⟩
theorem Pn.pre {D : va_G} {cI cD : ClassId} {s : State} {H : Heap} {A : Nat → Prop} {ws wc : va_W} (hP : va_P D vwCl ws H) (hK : va_K D vwCl (tyK cI cD) s) (hD : va_D A ws) (hN : nestOk s) (hN2 : nest2 s) (isC : List Nat) (hn : va_nd isC = true) (hC : isC.map (fun i => ws[i]?) = wc.map some) (av : List Value) : PreS s H (va_Pc av (Pn D cI cD wc H.size)) av :=
  ⟨Pn.blind av, fun U hU hW => ⟨rfl, ((Pw.pre hP hK hD hN isC hn hC av).2 U hU hW).2, by rw [hU], va_Nw.warmM hW hN2⟩⟩
def Nq (D : va_G) (w0 : va_W) (sz : Nat) (res : va_W → Prop) : Array Value → State → Outcome → State → Prop := fun _ st oc t => ∃ w1 : va_W, oc = .returned none ∧ res w1 ∧ va_P D vwCl w1 t.heap ∧ va_D (va_A w0 sz) w1 ∧ va_F (va_A w0 sz) st t
abbrev Cn (l : Launch) (y : MethodName) (ws : List Cond) (rm : Room) (D : va_G) (cI cD : ClassId) (av : List Value) (w0 : va_W) (sz : Nat) (res : va_W → Prop) (mc ms : Nat) : Prop := Met l y ws rm (va_Pc av (Pn D cI cD w0 sz)) (Nq D w0 sz res) mc ms (va_A w0 sz)
section RW3
variable {p : Program} {l : Launch} {e : Env} {R : Room} {s : State} {m : MethodId} {args : Array Value} {below : List Frame} {meth : Method} {c : Code} {H : Heap} {locs : List Loc} {cells slots mc ms : Nat} {Q : State → Prop} {cc : ByteArray} {pc : Nat} {ls : Array Slot} {rest st0 : List Value} {a : Array Value}
variable {D : va_G} {cI cD : ClassId} {ws wc wr : va_W} {A : Nat → Prop} {H0 : Heap}
theorem n_run {res : va_W → Prop} (hr : va_Run p l e R s m args below meth c H locs cells slots mc ms (F0 m pc ls st0) rest (Nq D wc H.size res a) (va_A wc H.size)) (hP : va_P D vwCl ws H) (hD : va_D A ws) (hS : va_S A H0 H locs) (hA : ∀ q, H0.size ≤ q → A q) (isC isR : List Nat) (hC : isC.map (fun i => ws[i]?) = wc.map some) (hR : isR.map (fun i => ws[i]?) = wr.map some) (hn : va_nd isR = true) (hdis : ∀ i ∈ isR, i ∉ isC)
    (kk : ∀ (w1 : va_W) (H1 : Heap) (locs1 : List Loc), res w1 → va_P D vwCl (wr ++ w1) H1 → va_D A (wr ++ w1) → va_S A H0 H1 locs1 → W p l e R s m args below meth c H1 locs1 (cells + mc) (slots + ms) Q (F0 m (pc + 3) ls rest)) : W p l e R s m args below meth c H locs cells slots Q (F0 m pc ls st0) := by
  have hF := va_free (wc := wc) hD hS hA isC hC
  intro T hT X
  obtain ⟨v, st₀, t, T', L, h0, X', hL, e1, e2, ⟨w1, hv, hres, hP1, hD1, hz, hk⟩, st⟩ := hr T hT X
  cases hv
  rw [h0] at hz hk
  obtain ⟨g1, g2⟩ := va_join (H1 := T'.heap) (wr := wr) (w1 := w1) hP hD isC isR hC hR hn hdis (fun q h1 h2 => by rw [e1]; exact hk q h1 h2) hF (by rw [e1]; exact hP1) hD1
  obtain ⟨t2, a1, b1⟩ := kk w1 T'.heap (locs ++ L) hres g1 g2
    ⟨Nat.le_trans hS.1 (by rw [e1]; exact hz), fun q h1 h2 => by rw [e1, hk q (Nat.lt_of_lt_of_le h1 hS.1) (fun z => h2 (hF q z))]; exact hS.2.1 q h1 h2, fun q hq => by
      rcases List.mem_append.mp hq with h | h
      · exact hS.2.2 q h
      · exact hF _ (hL q h)⟩ T' rfl X'
  exact ⟨t2, st t2 a1, b1⟩
variable {y : MethodName} {bytes : ByteArray} {maxL nL n index : Nat} {wsC Ts : List Cond} {rm : Room} {own : String} {b : Nat} {As : List Value}
theorem n_callI {res : va_W → Prop} (S : CallFix p m c cc nL s args Ts own) (hM : Cn l y wsC rm D cI cD (.ref b :: As) wc H.size res mc ms) (cw : CallB R s args own index y bytes maxL none wsC rm mc ms n ∧ y.name = "<init>" ∧ (Cond.instanceMethod y).before args s = true) (hK : va_K D vwCl (tyK cI cD) s) (hN : nestOk s) (hN2 : nest2 s) (hP : va_P D vwCl ws H) (hD : va_D A ws) (hS : va_S A H0 H locs) (hA : ∀ q, H0.size ≤ q → A q)
    (isC isR : List Nat) (hnC : va_nd isC = true) (hC : isC.map (fun i => ws[i]?) = wc.map some) (hR : isR.map (fun i => ws[i]?) = wr.map some) (hn : va_nd isR = true) (hdis : ∀ i ∈ isR, i ∉ isC) (hlen : As.length = n) (hsize : ls.size = nL) (hst : st0 = As.reverse ++ .ref b :: rest) (hW : (rest.map fun v => v.category).sum ≤ 8) (hdg : decode cc pc = .ok (.invokespecial index, 3)) (hf : cells + mc ≤ R.cells ∧ slots + ms ≤ R.slots)
    (kk : ∀ (w1 : va_W) (H1 : Heap) (locs1 : List Loc), res w1 → va_P D vwCl (wr ++ w1) H1 → va_D A (wr ++ w1) → va_S A H0 H1 locs1 → W p l e R s m args below meth c H1 locs1 (cells + mc) (slots + ms) Q (F0 m (pc + 3) ls rest)) : W p l e R s m args below meth c H locs cells slots Q (F0 m pc ls st0) :=
  n_run (va_runI (g := F0 m pc ls st0) S hM cw (Pn.pre hP hK hD hN hN2 isC hnC hC (.ref b :: As)) rfl hlen hsize hst (lv_room hW) hdg hf) hP hD hS hA isC isR hC hR hn hdis kk
theorem n_callIN {res : va_W → Prop} {host : String} (S : CallFix p m c cc nL s args Ts own) (hM : Cn l y wsC rm D cI cD (.ref b :: As) wc H.size res mc ms) (cw : va_CN R s args own index y host bytes maxL none wsC rm mc ms n ∧ y.name = "<init>" ∧ (Cond.instanceMethod y).before args s = true) (hK : va_K D vwCl (tyK cI cD) s) (hN : nestOk s) (hN2 : nest2 s) (hP : va_P D vwCl ws H) (hD : va_D A ws) (hS : va_S A H0 H locs) (hA : ∀ q, H0.size ≤ q → A q)
    (isC isR : List Nat) (hnC : va_nd isC = true) (hC : isC.map (fun i => ws[i]?) = wc.map some) (hR : isR.map (fun i => ws[i]?) = wr.map some) (hn : va_nd isR = true) (hdis : ∀ i ∈ isR, i ∉ isC) (hlen : As.length = n) (hsize : ls.size = nL) (hst : st0 = As.reverse ++ .ref b :: rest) (hW : (rest.map fun v => v.category).sum ≤ 8) (hdg : decode cc pc = .ok (.invokespecial index, 3)) (hf : cells + mc ≤ R.cells ∧ slots + ms ≤ R.slots)
    (kk : ∀ (w1 : va_W) (H1 : Heap) (locs1 : List Loc), res w1 → va_P D vwCl (wr ++ w1) H1 → va_D A (wr ++ w1) → va_S A H0 H1 locs1 → W p l e R s m args below meth c H1 locs1 (cells + mc) (slots + ms) Q (F0 m (pc + 3) ls rest)) : W p l e R s m args below meth c H locs cells slots Q (F0 m pc ls st0) :=
  n_run (va_runIN (g := F0 m pc ls st0) S hM cw (Pn.pre hP hK hD hN hN2 isC hnC hC (.ref b :: As)) rfl hlen hsize hst (lv_room hW) hdg hf) hP hD hS hA isC isR hC hR hn hdis kk
theorem n_newI (hx : p.tables.exec = Jvm.exec) (hb : c.code = cc) (harr : (Cond.arrayClass .int).before args s = true) (hK : va_K D vwCl (tyK cI cD) s) (hP : va_P D vwCl ws H) (hD : va_D A ws) (hS : va_S A H0 H locs) (hA : ∀ q, H0.size ≤ q → A q) {N : Nat} (hN : N < 2 ^ 20) (hcells : cells + 1 ≤ R.cells) (hslots : slots + N ≤ R.slots) (hdg : decode cc pc = .ok (.newarray .int, 2))
    (kk : ∀ (q : Nat) (H1 : Heap), va_P D vwCl (ws ++ [(q, .inl (cI, N, .inl (fun _ => 0)))]) H1 → va_D A (ws ++ [(q, .inl (cI, N, .inl (fun _ => 0)))]) → va_S A H0 H1 locs → W p l e R s m args below meth c H1 locs (cells + 1) (slots + N) Q (F0 m (pc + 2) ls (.ref q :: rest))) : W p l e R s m args below meth c H locs cells slots Q (F0 m pc ls (.int (nI N) :: rest)) := by
  refine va_newa (atype := .int) (ty := .int) (N' := N) (a0 := (N, .inl (fun _ => 0))) hx hb harr rfl hK hP hD hS hA (fun _ => rfl) (nI_pos (by omega)) (nI_clamp (by omega)) (by show N * 4 ≤ _; omega) hcells hslots hdg (fun q cA H1 hK1 hP1 hD1 hS1 => ?_)
  have e1 : va_RA s cA .int := (hK1.2 2 (cA, .int) rfl).2
  have e2 : va_RA s cI .int := (hK.2 0 (cI, .int) rfl).2
  have e3 : cA = cI := Option.some.inj (e1.symm.trans e2)
  subst e3
  exact kk q H1 hP1 hD1 hS1
theorem n_newD (hx : p.tables.exec = Jvm.exec) (hb : c.code = cc) (harr : (Cond.arrayClass .double).before args s = true) (hK : va_K D vwCl (tyK cI cD) s) (hP : va_P D vwCl ws H) (hD : va_D A ws) (hS : va_S A H0 H locs) (hA : ∀ q, H0.size ≤ q → A q) {N : Nat} (hN : N < 2 ^ 20) (hcells : cells + 1 ≤ R.cells) (hslots : slots + N ≤ R.slots) (hdg : decode cc pc = .ok (.newarray .double, 2))
    (kk : ∀ (q : Nat) (H1 : Heap), va_P D vwCl (ws ++ [(q, .inl (cD, N, .inr (.inr (.inr (.inl (fun _ => 0))))))]) H1 → va_D A (ws ++ [(q, .inl (cD, N, .inr (.inr (.inr (.inl (fun _ => 0))))))]) → va_S A H0 H1 locs → W p l e R s m args below meth c H1 locs (cells + 1) (slots + N) Q (F0 m (pc + 2) ls (.ref q :: rest))) : W p l e R s m args below meth c H locs cells slots Q (F0 m pc ls (.int (nI N) :: rest)) := by
  refine va_newa (atype := .double) (ty := .double) (N' := N) (a0 := (N, .inr (.inr (.inr (.inl (fun _ => 0)))))) hx hb harr rfl hK hP hD hS hA (fun _ => rfl) (nI_pos (by omega)) (nI_clamp (by omega)) (by show N * 8 ≤ _; omega) hcells hslots hdg (fun q cA H1 hK1 hP1 hD1 hS1 => ?_)
  have e1 : va_RA s cA .double := (hK1.2 2 (cA, .double) rfl).2
  have e2 : va_RA s cD .double := (hK.2 1 (cD, .double) rfl).2
  have e3 : cA = cD := Option.some.inj (e1.symm.trans e2)
  subst e3
  exact kk q H1 hP1 hD1 hS1
end RW3
theorem arr_of {args : Array Value} {s : State} (ty : FieldType) (hty : ∀ c, va_RA s c ty = (s.vm.findClass ("[" ++ ty.toString) = some c)) (h : (Cond.arrayClass ty).before args s = true) : ∃ c : ClassId, ArrOfT s c ty ∧ va_RA s c ty := by
  obtain ⟨c, k, comp, h1, h2, h3⟩ := Cond.arrayClass_spec h
  exact ⟨c, fun n z => ⟨fun k h => (by cases h), k, h2, comp, h3⟩, by rw [hty]; exact h1⟩
