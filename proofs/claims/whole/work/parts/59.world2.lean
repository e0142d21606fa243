/-! the same calls, where cells have been made before -/
section KC2
variable {p : Program} {l : Launch} {e : Env} {R : Room} {s : State} {m : MethodId} {args : Array Value} {below : List Frame} {meth : Method} {c : Code} {H : Heap} {locs : List Loc} {Q : State → Prop}
variable {D : va_G} {cy : Nat → ClassId} {A : Nat → Prop} {ws ws' wc wc1 : va_W} {y : MethodName} {wy : List Cond} {rm : Room} {bytes cc : ByteArray} {maxL nL n index : Nat} {ret : Option FieldType} {Ts : List Cond} {own C : String} {b pc : Nat} {As rest st : List Value} {ls : Array Slot}
variable {cells slots : Nat}
theorem kcVi' {r0 : Int32} (S : CallFix p m c cc nL s args Ts own) (cw : CallW R s args own C index y bytes maxL ret wy rm 0 0 n) (hM : CI l D cy y wy rm (.ref b :: As) wc r0 wc1) (hk : kK D cy s) (hP : va_P D vwCl ws H) (hD : va_D A ws) (hS : va_S A s.heap H locs) (hA : ∀ q, s.heap.size ≤ q → A q)
    (isC isR : List Nat) (hn : va_nd isC = true) (hC : isC.map (fun i => ws[i]?) = wc.map some) (hC2 : isC.filterMap (fun i => ws[i]?) = wc) (ci : Nat) {fs : List Value} {T : u_T} {N : Nat} (hrv : wc[0]? = some (b, .inr (ci, fs))) (hcl : vwCl[ci]? = some (C, T, N))
    (al : List Nat) (e0 : ws.map Prod.fst = al) (e0' : ws'.map Prod.fst = al) (e1 : isC.map (fun i => ws'[i]?) = wc1.map some) (wr : va_W) (hR : isR.map (fun i => ws[i]?) = wr.map some) (hR' : isR.map (fun i => ws'[i]?) = wr.map some) (e3 : (List.range ws.length).all (fun k => isC.contains k || isR.contains k) = true)
    (hlen : As.length = n) (hsize : ls.size = nL) (hst : st = As.reverse ++ .ref b :: rest) (hW : (rest.map fun v => v.category).sum ≤ 8) (hdg : decode cc pc = .ok (.invokevirtual index, 3)) (hcs : cells ≤ R.cells ∧ slots ≤ R.slots)
    (kk : ∀ (H1 : Heap) (locs1 : List Loc), va_P D vwCl ws' H1 → va_D A ws' → va_S A s.heap H1 locs1 → W p l e R s m args below meth c H1 locs1 cells slots Q (F0 m (pc + 3) ls (.int r0 :: rest))) : W p l e R s m args below meth c H locs cells slots Q (F0 m pc ls st) := by
  have hPc := hP.sub isC hC2
  have hDc := hD.sub isC hn hC
  have hF := va_free (wc := wc) hD hS hA isC hC
  have hp := kpre (av := .ref b :: As) hk hPc hDc
  refine va_calli (va_runV S (hM H.size) cw ⟨hp.1, va_recv hk.1 hPc hcl hrv, hp.2⟩ rfl hlen hsize hst (lv_room hW) hdg hcs) hS (fun q _ h => hF q h) hF (fun r u t H1 locs1 ht hvm hw hB hz1 hk1 hS1 => ?_)
  subst hw
  rw [ht] at hB
  exact kk H1 locs1 (kjoin hP hD isC isR hC (e0'.trans e0.symm) e1 (hR'.trans hR.symm) e3 hk1 hB) (hD.like (e0'.trans e0.symm)) hS1
theorem kcVl' {r0 : Int64} (S : CallFix p m c cc nL s args Ts own) (cw : CallW R s args own C index y bytes maxL ret wy rm 0 0 n) (hM : CL l D cy y wy rm (.ref b :: As) wc r0 wc1) (hk : kK D cy s) (hP : va_P D vwCl ws H) (hD : va_D A ws) (hS : va_S A s.heap H locs) (hA : ∀ q, s.heap.size ≤ q → A q)
    (isC isR : List Nat) (hn : va_nd isC = true) (hC : isC.map (fun i => ws[i]?) = wc.map some) (hC2 : isC.filterMap (fun i => ws[i]?) = wc) (ci : Nat) {fs : List Value} {T : u_T} {N : Nat} (hrv : wc[0]? = some (b, .inr (ci, fs))) (hcl : vwCl[ci]? = some (C, T, N))
    (al : List Nat) (e0 : ws.map Prod.fst = al) (e0' : ws'.map Prod.fst = al) (e1 : isC.map (fun i => ws'[i]?) = wc1.map some) (wr : va_W) (hR : isR.map (fun i => ws[i]?) = wr.map some) (hR' : isR.map (fun i => ws'[i]?) = wr.map some) (e3 : (List.range ws.length).all (fun k => isC.contains k || isR.contains k) = true)
    (hlen : As.length = n) (hsize : ls.size = nL) (hst : st = As.reverse ++ .ref b :: rest) (hW : (rest.map fun v => v.category).sum ≤ 8) (hdg : decode cc pc = .ok (.invokevirtual index, 3)) (hcs : cells ≤ R.cells ∧ slots ≤ R.slots)
    (kk : ∀ (H1 : Heap) (locs1 : List Loc), va_P D vwCl ws' H1 → va_D A ws' → va_S A s.heap H1 locs1 → W p l e R s m args below meth c H1 locs1 cells slots Q (F0 m (pc + 3) ls (.long r0 :: rest))) : W p l e R s m args below meth c H locs cells slots Q (F0 m pc ls st) := by
  have hPc := hP.sub isC hC2
  have hDc := hD.sub isC hn hC
  have hF := va_free (wc := wc) hD hS hA isC hC
  have hp := kpre (av := .ref b :: As) hk hPc hDc
  refine va_calll (va_runV S (hM H.size) cw ⟨hp.1, va_recv hk.1 hPc hcl hrv, hp.2⟩ rfl hlen hsize hst (lv_room hW) hdg hcs) hS (fun q _ h => hF q h) hF (fun r u t H1 locs1 ht hvm hw hB hz1 hk1 hS1 => ?_)
  subst hw
  rw [ht] at hB
  exact kk H1 locs1 (kjoin hP hD isC isR hC (e0'.trans e0.symm) e1 (hR'.trans hR.symm) e3 hk1 hB) (hD.like (e0'.trans e0.symm)) hS1
theorem kcVv' (S : CallFix p m c cc nL s args Ts own) (cw : CallW R s args own C index y bytes maxL ret wy rm 0 0 n) (hM : CV l D cy y wy rm (.ref b :: As) wc wc1) (hk : kK D cy s) (hP : va_P D vwCl ws H) (hD : va_D A ws) (hS : va_S A s.heap H locs) (hA : ∀ q, s.heap.size ≤ q → A q)
    (isC isR : List Nat) (hn : va_nd isC = true) (hC : isC.map (fun i => ws[i]?) = wc.map some) (hC2 : isC.filterMap (fun i => ws[i]?) = wc) (ci : Nat) {fs : List Value} {T : u_T} {N : Nat} (hrv : wc[0]? = some (b, .inr (ci, fs))) (hcl : vwCl[ci]? = some (C, T, N))
    (al : List Nat) (e0 : ws.map Prod.fst = al) (e0' : ws'.map Prod.fst = al) (e1 : isC.map (fun i => ws'[i]?) = wc1.map some) (wr : va_W) (hR : isR.map (fun i => ws[i]?) = wr.map some) (hR' : isR.map (fun i => ws'[i]?) = wr.map some) (e3 : (List.range ws.length).all (fun k => isC.contains k || isR.contains k) = true)
    (hlen : As.length = n) (hsize : ls.size = nL) (hst : st = As.reverse ++ .ref b :: rest) (hW : (rest.map fun v => v.category).sum ≤ 8) (hdg : decode cc pc = .ok (.invokevirtual index, 3)) (hcs : cells ≤ R.cells ∧ slots ≤ R.slots)
    (kk : ∀ (H1 : Heap) (locs1 : List Loc), va_P D vwCl ws' H1 → va_D A ws' → va_S A s.heap H1 locs1 → W p l e R s m args below meth c H1 locs1 cells slots Q (F0 m (pc + 3) ls rest)) : W p l e R s m args below meth c H locs cells slots Q (F0 m pc ls st) := by
  have hPc := hP.sub isC hC2
  have hDc := hD.sub isC hn hC
  have hF := va_free (wc := wc) hD hS hA isC hC
  have hp := kpre (av := .ref b :: As) hk hPc hDc
  refine va_callv (va_runV S (hM H.size) cw ⟨hp.1, va_recv hk.1 hPc hcl hrv, hp.2⟩ rfl hlen hsize hst (lv_room hW) hdg hcs) hS (fun q _ h => hF q h) hF (fun u t H1 locs1 ht hvm hw hB hz1 hk1 hS1 => ?_)
  rw [ht] at hB
  exact kk H1 locs1 (kjoin hP hD isC isR hC (e0'.trans e0.symm) e1 (hR'.trans hR.symm) e3 hk1 hB) (hD.like (e0'.trans e0.symm)) hS1
theorem kcSv' (S : CallFix p m c cc nL s args Ts own) (cw : CallB R s args own index y bytes maxL ret wy rm 0 0 n ∧ (Cond.static y).before args s = true) (hM : CV l D cy y wy rm As wc wc1) (hk : kK D cy s) (hP : va_P D vwCl ws H) (hD : va_D A ws) (hS : va_S A s.heap H locs) (hA : ∀ q, s.heap.size ≤ q → A q)
    (isC isR : List Nat) (hn : va_nd isC = true) (hC : isC.map (fun i => ws[i]?) = wc.map some) (hC2 : isC.filterMap (fun i => ws[i]?) = wc)
    (al : List Nat) (e0 : ws.map Prod.fst = al) (e0' : ws'.map Prod.fst = al) (e1 : isC.map (fun i => ws'[i]?) = wc1.map some) (wr : va_W) (hR : isR.map (fun i => ws[i]?) = wr.map some) (hR' : isR.map (fun i => ws'[i]?) = wr.map some) (e3 : (List.range ws.length).all (fun k => isC.contains k || isR.contains k) = true)
    (hlen : As.length = n) (hsize : ls.size = nL) (hst : st = As.reverse ++ rest) (hW : (rest.map fun v => v.category).sum ≤ 8) (hdg : decode cc pc = .ok (.invokestatic index, 3)) (hcs : cells ≤ R.cells ∧ slots ≤ R.slots)
    (kk : ∀ (H1 : Heap) (locs1 : List Loc), va_P D vwCl ws' H1 → va_D A ws' → va_S A s.heap H1 locs1 → W p l e R s m args below meth c H1 locs1 cells slots Q (F0 m (pc + 3) ls rest)) : W p l e R s m args below meth c H locs cells slots Q (F0 m pc ls st) := by
  have hPc := hP.sub isC hC2
  have hDc := hD.sub isC hn hC
  have hF := va_free (wc := wc) hD hS hA isC hC
  have hp := kpre (av := As) hk hPc hDc
  refine va_callv (va_runS S (hM H.size) cw hp rfl hlen hsize hst (lv_room hW) hdg hcs) hS (fun q _ h => hF q h) hF (fun u t H1 locs1 ht hvm hw hB hz1 hk1 hS1 => ?_)
  rw [ht] at hB
  exact kk H1 locs1 (kjoin hP hD isC isR hC (e0'.trans e0.symm) e1 (hR'.trans hR.symm) e3 hk1 hB) (hD.like (e0'.trans e0.symm)) hS1
theorem kcSi' {r0 : Int32} (S : CallFix p m c cc nL s args Ts own) (cw : CallB R s args own index y bytes maxL ret wy rm 0 0 n ∧ (Cond.static y).before args s = true) (hM : CI l D cy y wy rm As [] r0 []) (hk : kK D cy s) (hP : va_P D vwCl ws H) (hS : va_S A s.heap H locs) (hA : ∀ q, s.heap.size ≤ q → A q)
    (hlen : As.length = n) (hsize : ls.size = nL) (hst : st = As.reverse ++ rest) (hW : (rest.map fun v => v.category).sum ≤ 8) (hdg : decode cc pc = .ok (.invokestatic index, 3)) (hcs : cells ≤ R.cells ∧ slots ≤ R.slots)
    (kk : ∀ (H1 : Heap) (locs1 : List Loc), va_P D vwCl ws H1 → va_S A s.heap H1 locs1 → W p l e R s m args below meth c H1 locs1 cells slots Q (F0 m (pc + 3) ls (.int r0 :: rest))) : W p l e R s m args below meth c H locs cells slots Q (F0 m pc ls st) := by
  have hF := kfree0 hS hA
  refine va_calli (va_runS S (hM H.size) cw (kpre0 hk) rfl hlen hsize hst (lv_room hW) hdg hcs) hS (fun q _ h => hF q h) hF (fun r u t H1 locs1 ht hvm hw hB hz1 hk1 hS1 => ?_)
  subst hw
  exact kk H1 locs1 (kjoin0 hP hk1) hS1
theorem kcSl' {r0 : Int64} (S : CallFix p m c cc nL s args Ts own) (cw : CallB R s args own index y bytes maxL ret wy rm 0 0 n ∧ (Cond.static y).before args s = true) (hM : CL l D cy y wy rm As [] r0 []) (hk : kK D cy s) (hP : va_P D vwCl ws H) (hS : va_S A s.heap H locs) (hA : ∀ q, s.heap.size ≤ q → A q)
    (hlen : As.length = n) (hsize : ls.size = nL) (hst : st = As.reverse ++ rest) (hW : (rest.map fun v => v.category).sum ≤ 8) (hdg : decode cc pc = .ok (.invokestatic index, 3)) (hcs : cells ≤ R.cells ∧ slots ≤ R.slots)
    (kk : ∀ (H1 : Heap) (locs1 : List Loc), va_P D vwCl ws H1 → va_S A s.heap H1 locs1 → W p l e R s m args below meth c H1 locs1 cells slots Q (F0 m (pc + 3) ls (.long r0 :: rest))) : W p l e R s m args below meth c H locs cells slots Q (F0 m pc ls st) := by
  have hF := kfree0 hS hA
  refine va_calll (va_runS S (hM H.size) cw (kpre0 hk) rfl hlen hsize hst (lv_room hW) hdg hcs) hS (fun q _ h => hF q h) hF (fun r u t H1 locs1 ht hvm hw hB hz1 hk1 hS1 => ?_)
  subst hw
  exact kk H1 locs1 (kjoin0 hP hk1) hS1
end KC2
theorem kclsI {U : State} {a b : ClassId} (h1 : va_RA U a .int) (h2 : va_RA U b .int) : a = b := Option.some.inj ((show U.vm.findClass ("[" ++ FieldType.int.toString) = some a from h1).symm.trans h2)
theorem kclsC {U : State} {a b : ClassId} (h1 : va_RA U a .char) (h2 : va_RA U b .char) : a = b := Option.some.inj ((show U.vm.findClass ("[" ++ FieldType.char.toString) = some a from h1).symm.trans h2)
theorem kclsJ {U : State} {a b : ClassId} (h1 : va_RA U a .long) (h2 : va_RA U b .long) : a = b := Option.some.inj ((show U.vm.findClass ("[" ++ FieldType.long.toString) = some a from h1).symm.trans h2)
theorem kclsZ {U : State} {a b : ClassId} (h1 : va_RA U a .boolean) (h2 : va_RA U b .boolean) : a = b := Option.some.inj ((show U.vm.findClass ("[" ++ FieldType.boolean.toString) = some a from h1).symm.trans h2)
/-! a method that answers one of its object's references, and changes nothing -/
abbrev qR (D : va_G) (w1 : va_W) (r0 : Nat) (A : Nat → Prop) : Array Value → State → Outcome → State → Prop := va_Qr (fun (_ : Unit) => True) (fun _ a t => a = r0 ∧ va_P D vwCl w1 t.heap) A
def CR (l : Launch) (D : va_G) (cy : Nat → ClassId) (y : MethodName) (wy : List Cond) (rm : Room) (av : List Value) (ws : va_W) (r0 : Nat) : Prop := ∀ sz : Nat, Met l y wy rm (va_Pc av (kPre D cy ws sz)) (qR D ws r0 (va_A ws sz)) 0 0 (va_A ws sz)
section KR
variable {p : Program} {l : Launch} {e : Env} {R : Room} {s : State} {m : MethodId} {args : Array Value} {below : List Frame} {meth : Method} {c : Code} {H : Heap} {locs : List Loc} {Q : State → Prop}
variable {D : va_G} {cy : Nat → ClassId} {A : Nat → Prop} {ws ws' wc wc1 : va_W} {y : MethodName} {wy : List Cond} {rm : Room} {bytes cc : ByteArray} {maxL nL n index : Nat} {ret : Option FieldType} {Ts : List Cond} {own C : String} {b pc : Nat} {As rest st : List Value} {ls : Array Slot}
theorem kcVr {r0 : Nat} (S : CallFix p m c cc nL s args Ts own) (cw : CallW R s args own C index y bytes maxL ret wy rm 0 0 n) (hM : CR l D cy y wy rm (.ref b :: As) wc r0) (hk : kK D cy s) (hP : va_P D vwCl ws H) (hD : va_D A ws) (hS : va_S A s.heap H locs) (hA : ∀ q, s.heap.size ≤ q → A q)
    (isC isR : List Nat) (hn : va_nd isC = true) (hC : isC.map (fun i => ws[i]?) = wc.map some) (hC2 : isC.filterMap (fun i => ws[i]?) = wc) (ci : Nat) {fs : List Value} {T : u_T} {N : Nat} (hrv : wc[0]? = some (b, .inr (ci, fs))) (hcl : vwCl[ci]? = some (C, T, N)) (e3 : (List.range ws.length).all (fun k => isC.contains k || isR.contains k) = true)
    (hlen : As.length = n) (hsize : ls.size = nL) (hst : st = As.reverse ++ .ref b :: rest) (hW : (rest.map fun v => v.category).sum ≤ 8) (hdg : decode cc pc = .ok (.invokevirtual index, 3))
    (kk : ∀ (H1 : Heap) (locs1 : List Loc), va_P D vwCl ws H1 → va_D A ws → va_S A s.heap H1 locs1 → W p l e R s m args below meth c H1 locs1 0 0 Q (F0 m (pc + 3) ls (.ref r0 :: rest))) : W p l e R s m args below meth c H locs 0 0 Q (F0 m pc ls st) := by
  have hPc := hP.sub isC hC2
  have hDc := hD.sub isC hn hC
  have hF := va_free (wc := wc) hD hS hA isC hC
  have hp := kpre (av := .ref b :: As) hk hPc hDc
  refine va_callr (va_runV S (hM H.size) cw ⟨hp.1, va_recv hk.1 hPc hcl hrv, hp.2⟩ rfl hlen hsize hst (lv_room hW) hdg ⟨Nat.zero_le _, Nat.zero_le _⟩) hS (fun q _ h => hF q h) hF (fun u ra t H1 locs1 ht hvm hw hB hz1 hk1 hS1 => ?_)
  obtain ⟨hra, hB⟩ := hB
  subst hra
  rw [ht] at hB
  exact kk H1 locs1 (kjoin hP hD isC isR hC rfl hC rfl e3 hk1 hB) hD hS1
end KR
section KI
variable {l : Launch} {D : va_G} {cy : Nat → ClassId}
theorem eX3_imageOf : yX3_imageOf.cls ≠ "java/lang/invoke/MethodHandle" ∧ yX3_imageOf.cls ≠ "java/lang/invoke/VarHandle" ∧ (parseMethodDescriptor yX3_imageOf.desc).map (fun d => d.parameters.length) = some 1 := by decide +kernel
theorem iX3_imageOf_X3 : ∀ w ∈ u_ws RX3 TX3 8, w ∈ wsX3_imageOf := by decide +kernel
theorem mX3_imageOf_1 : Cond.fieldLink RX3 19 "LentPiles" "firstImage" "LLentPiles$Valley;" ∈ wsX3_imageOf := by decide +kernel
theorem mX3_imageOf_2 : Cond.fieldLink RX3 22 "LentPiles" "secondImage" "LLentPiles$Valley;" ∈ wsX3_imageOf := by decide +kernel
theorem c_X3_imageOf (x0 r0 r1 r2 r3 r4 r5 r6 : Nat) (kx x1 : Int32) : CR l D cy yX3_imageOf wsX3_imageOf { frames := 0, cells := 0, slots := 0, locals := 0 } [.ref x0, .int x1] (wX x0 r0 r1 r2 r3 r4 r5 r6 kx []) (if x1 = 0 then r2 else r3) := by
  intro sz
  refine Met.ofW (cc := cX3_imageOf) (maxL := 2) (ret := (some (.object "LentPiles$Valley"))) (by decide) rfl ?_
  intro p e s m args below meth c s₁ B hml hv
  obtain ⟨rfl, hsz, hP, hK, hD0⟩ := hv
  subst hsz
  have hx := B.exec
  have hb := B.bytes
  have hr := B.returns
  have hts := atoms_spec (ws := wsX3_imageOf) B.pre
  have hown : s.vm.findClass RX3 = some m.cls := findClass_of_methodNamed B.named
  have hS : va_S (va_A (wX x0 r0 r1 r2 r3 r4 r5 r6 kx []) s.heap.size) s.heap s.heap [] := va_S.rf
  have hl := lv_entry ([.ref x0, .int x1]) (n := 2) (Nat.le_of_ble_eq_true rfl)
  rw [lg_entry_eq]
  generalize (lg_sl ([.ref x0, .int x1]) ++ List.replicate (2 - (lg_sl ([.ref x0, .int x1])).length) Slot.unset).toArray = ls at hl ⊢
  have hl : lv_has ls 2 [(0, .ref x0), (1, .int x1)] := hl
  refine lv_iload_n hx hb dX3_imageOf_0 rfl (lv_at hl 1 rfl) ?_
  refine lv_if_ne (tgt := 11) hx hb dX3_imageOf_1 (by decide) (fun c1 => ?_) (fun c1 => ?_)
  · refine lv_aload_n hx hb dX3_imageOf_11 rfl (lv_at hl 0 rfl) ?_
    refine va_get (D := D) (ci := 3) (v := .ref r3) (C := RX3) (T := TX3) (N := 8) hx hb hts iX3_imageOf_X3 hown hK.1 hP 0 rfl rfl 3 (by decide) (hts _ mX3_imageOf_2) (fun _ h9 => h9) rfl dX3_imageOf_12 ?_
    rw [if_neg c1]
    exact W.aret hx hb hr (Or.inl ⟨_, rfl⟩) (Or.inr ⟨_, rfl⟩) (fun t ht hW => ⟨⟨(), r3, rfl, trivial, rfl, (show va_P D vwCl _ t.heap by rw [ht]; exact hP)⟩, hS.F ht⟩) hS.2.2 dX3_imageOf_15 B.notSynchronized
  · refine lv_aload_n hx hb dX3_imageOf_4 rfl (lv_at hl 0 rfl) ?_
    refine va_get (D := D) (ci := 3) (v := .ref r2) (C := RX3) (T := TX3) (N := 8) hx hb hts iX3_imageOf_X3 hown hK.1 hP 0 rfl rfl 2 (by decide) (hts _ mX3_imageOf_1) (fun _ h9 => h9) rfl dX3_imageOf_5 ?_
    refine lv_goto (tgt := 15) hx hb dX3_imageOf_8 (by decide) ?_
    rw [if_pos c1]
    exact W.aret hx hb hr (Or.inl ⟨_, rfl⟩) (Or.inr ⟨_, rfl⟩) (fun t ht hW => ⟨⟨(), r2, rfl, trivial, rfl, (show va_P D vwCl _ t.heap by rw [ht]; exact hP)⟩, hS.F ht⟩) hS.2.2 dX3_imageOf_15 B.notSynchronized
theorem c_X3_imageOf_0 (x0 r0 r1 r2 r3 r4 r5 r6 : Nat) (kx : Int32) {x1 : Int32} (h : x1 = 0) : CR l D cy yX3_imageOf wsX3_imageOf { frames := 0, cells := 0, slots := 0, locals := 0 } [.ref x0, .int x1] (wX x0 r0 r1 r2 r3 r4 r5 r6 kx []) r2 := by
  have q := c_X3_imageOf (l := l) (D := D) (cy := cy) x0 r0 r1 r2 r3 r4 r5 r6 kx x1
  rw [if_pos h] at q
  exact q
theorem c_X3_imageOf_1 (x0 r0 r1 r2 r3 r4 r5 r6 : Nat) (kx : Int32) {x1 : Int32} (h : ¬ x1 = 0) : CR l D cy yX3_imageOf wsX3_imageOf { frames := 0, cells := 0, slots := 0, locals := 0 } [.ref x0, .int x1] (wX x0 r0 r1 r2 r3 r4 r5 r6 kx []) r3 := by
  have q := c_X3_imageOf (l := l) (D := D) (cy := cy) x0 r0 r1 r2 r3 r4 r5 r6 kx x1
  rw [if_neg h] at q
  exact q
end KI
