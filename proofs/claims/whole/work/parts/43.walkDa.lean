/-! printed by wip/gen/gen.py: the walks -/
theorem iX0_addPart_X0 : ∀ w ∈ u_ws RX0 TX0 10, w ∈ wsX0_addPart := by decide +kernel
theorem mX0_addPart_1 : Cond.fieldLink RX0 35 "LentPiles$Pad" "parts" "I" ∈ wsX0_addPart := by decide +kernel
theorem mX0_addPart_2 : Cond.fieldLink RX0 15 "LentPiles$Pad" "kind" "[I" ∈ wsX0_addPart := by decide +kernel
theorem mX0_addPart_3 : Cond.fieldLink RX0 19 "LentPiles$Pad" "doer" "[I" ∈ wsX0_addPart := by decide +kernel
theorem mX0_addPart_4 : Cond.fieldLink RX0 22 "LentPiles$Pad" "borrower" "[I" ∈ wsX0_addPart := by decide +kernel
theorem mX0_addPart_5 : Cond.fieldLink RX0 25 "LentPiles$Pad" "pence" "[I" ∈ wsX0_addPart := by decide +kernel
set_option maxHeartbeats 4000000 in
set_option maxRecDepth 100000 in
theorem w_X0_addPart_0 {p : Program} {l : Launch} {e : Env} {s : State} {m : MethodId} {args : Array Value} {below : List Frame} {meth : Method} {c : Code} {A : Nat → Prop} {D : va_G} {cy : Nat → ClassId} {b0 : Nat → Nat} {x1 : Int32} {x2 : Int32} {x3 : Int32} {x4 : Int32} {rr : DS} (M : kM p s m args meth c cX0_addPart 5 none RX0 wsX0_addPart A D cy) {dv : DS} (h : f_X0_addPart dv x1 x2 x3 x4 = some rr) {H : Heap} {locs : List Loc} {ls : Array Slot} (hP : va_P D vwCl (wD cy b0 dv []) H) (hD : va_D A (wD cy b0 dv [])) (hS : va_S A s.heap H locs) (hl : lv_has ls 5 [(0, .ref (b0 0)), (1, .int x1), (2, .int x2), (3, .int x3), (4, .int x4)]) : W p l e { frames := 0, cells := 0, slots := 0, locals := 0 } s m args below meth c H locs 0 0 (MQ below (qV D (wD cy b0 rr []) A) args s 0 0 A) (F0 m 0 ls []) := by
  obtain ⟨hx, hb, hr, hml, hown, hts, hlk, hA, hK⟩ := id M
  unfold f_X0_addPart at h
  refine lv_aload_n hx hb dX0_addPart_0 rfl (lv_at hl 0 rfl) ?_
  refine va_get (D := D) (ci := 0) (v := .int dv.2.2.2.2.2.2.2.1) (C := RX0) (T := TX0) (N := 10) hx hb hts iX0_addPart_X0 hown hK.1 hP 0 rfl rfl 7 (by decide) (hts _ mX0_addPart_1) (fun _ h9 => h9) rfl dX0_addPart_1 ?_
  refine lv_if_lt (tgt := 16) hx hb dX0_addPart_4 (by decide) (fun c_1 => ?_) (fun c_1 => ?_)
  · replace h := it_p c_1 h
    cases h
    exact kretV hx hb hr hlk hP hS dX0_addPart_16
  · replace h := it_n c_1 h
    refine lv_aload_n hx hb dX0_addPart_7 rfl (lv_at hl 0 rfl) ?_
    refine va_get (D := D) (ci := 0) (v := .int dv.2.2.2.2.2.2.2.1) (C := RX0) (T := TX0) (N := 10) hx hb hts iX0_addPart_X0 hown hK.1 hP 0 rfl rfl 7 (by decide) (hts _ mX0_addPart_1) (fun _ h9 => h9) rfl dX0_addPart_8 ?_
    refine lv_bipush (v := 60) hx hb dX0_addPart_11 (by decide) ?_
    refine lv_icmp_lt (tgt := 17) hx hb dX0_addPart_13 (by decide) (fun c_2 => ?_) (fun c_2 => ?_)
    · replace h := it_p c_2 h
      refine lv_aload_n hx hb dX0_addPart_17 rfl (lv_at hl 0 rfl) ?_
      refine va_get (D := D) (ci := 0) (v := .ref (b0 2)) (C := RX0) (T := TX0) (N := 10) hx hb hts iX0_addPart_X0 hown hK.1 hP 0 rfl rfl 1 (by decide) (hts _ mX0_addPart_2) (fun _ h9 => h9) rfl dX0_addPart_18 ?_
      refine lv_aload_n hx hb dX0_addPart_21 rfl (lv_at hl 0 rfl) ?_
      refine va_get (D := D) (ci := 0) (v := .int dv.2.2.2.2.2.2.2.1) (C := RX0) (T := TX0) (N := 10) hx hb hts iX0_addPart_X0 hown hK.1 hP 0 rfl rfl 7 (by decide) (hts _ mX0_addPart_1) (fun _ h9 => h9) rfl dX0_addPart_22 ?_
      refine lv_iload_n hx hb dX0_addPart_25 rfl (lv_at hl 1 rfl) ?_
      obtain ⟨b_3, h⟩ := ck_s h
      refine va_iast hx hb hK.1 hP hD hS 2 1 rfl rfl b_3 dX0_addPart_26 (fun H locs hP hD hS => ?_)
      obtain ⟨dv_4, edv_4⟩ : ∃ z : DS, z = (dv.1, (upd dv.2.1 dv.2.2.2.2.2.2.2.1.toNatClampNeg x1), dv.2.2) := ⟨_, rfl⟩
      replace h := nm_s h edv_4
      have hP : va_P D vwCl (wD cy b0 dv_4 []) H := by subst edv_4; exact hP
      have hD : va_D A (wD cy b0 dv_4 []) := hD.lk [(b0 0), (b0 1), (b0 2), (b0 3), (b0 4), (b0 5), (b0 6)] rfl rfl
      refine lv_aload_n hx hb dX0_addPart_27 rfl (lv_at hl 0 rfl) ?_
      refine va_get (D := D) (ci := 0) (v := .ref (b0 3)) (C := RX0) (T := TX0) (N := 10) hx hb hts iX0_addPart_X0 hown hK.1 hP 0 rfl rfl 2 (by decide) (hts _ mX0_addPart_3) (fun _ h9 => h9) rfl dX0_addPart_28 ?_
      refine lv_aload_n hx hb dX0_addPart_31 rfl (lv_at hl 0 rfl) ?_
      refine va_get (D := D) (ci := 0) (v := .int dv_4.2.2.2.2.2.2.2.1) (C := RX0) (T := TX0) (N := 10) hx hb hts iX0_addPart_X0 hown hK.1 hP 0 rfl rfl 7 (by decide) (hts _ mX0_addPart_1) (fun _ h9 => h9) rfl dX0_addPart_32 ?_
      refine lv_iload_n hx hb dX0_addPart_35 rfl (lv_at hl 2 rfl) ?_
      obtain ⟨b_5, h⟩ := ck_s h
      refine va_iast hx hb hK.1 hP hD hS 3 1 rfl rfl b_5 dX0_addPart_36 (fun H locs hP hD hS => ?_)
      obtain ⟨dv_6, edv_6⟩ : ∃ z : DS, z = (dv_4.1, dv_4.2.1, (upd dv_4.2.2.1 dv_4.2.2.2.2.2.2.2.1.toNatClampNeg x2), dv_4.2.2.2) := ⟨_, rfl⟩
      replace h := nm_s h edv_6
      have hP : va_P D vwCl (wD cy b0 dv_6 []) H := by subst edv_6; exact hP
      have hD : va_D A (wD cy b0 dv_6 []) := hD.lk [(b0 0), (b0 1), (b0 2), (b0 3), (b0 4), (b0 5), (b0 6)] rfl rfl
      refine lv_aload_n hx hb dX0_addPart_37 rfl (lv_at hl 0 rfl) ?_
      refine va_get (D := D) (ci := 0) (v := .ref (b0 4)) (C := RX0) (T := TX0) (N := 10) hx hb hts iX0_addPart_X0 hown hK.1 hP 0 rfl rfl 3 (by decide) (hts _ mX0_addPart_4) (fun _ h9 => h9) rfl dX0_addPart_38 ?_
      refine lv_aload_n hx hb dX0_addPart_41 rfl (lv_at hl 0 rfl) ?_
      refine va_get (D := D) (ci := 0) (v := .int dv_6.2.2.2.2.2.2.2.1) (C := RX0) (T := TX0) (N := 10) hx hb hts iX0_addPart_X0 hown hK.1 hP 0 rfl rfl 7 (by decide) (hts _ mX0_addPart_1) (fun _ h9 => h9) rfl dX0_addPart_42 ?_
      refine lv_iload_n hx hb dX0_addPart_45 rfl (lv_at hl 3 rfl) ?_
      obtain ⟨b_7, h⟩ := ck_s h
      refine va_iast hx hb hK.1 hP hD hS 4 1 rfl rfl b_7 dX0_addPart_46 (fun H locs hP hD hS => ?_)
      obtain ⟨dv_8, edv_8⟩ : ∃ z : DS, z = (dv_6.1, dv_6.2.1, dv_6.2.2.1, (upd dv_6.2.2.2.1 dv_6.2.2.2.2.2.2.2.1.toNatClampNeg x3), dv_6.2.2.2.2) := ⟨_, rfl⟩
      replace h := nm_s h edv_8
      have hP : va_P D vwCl (wD cy b0 dv_8 []) H := by subst edv_8; exact hP
      have hD : va_D A (wD cy b0 dv_8 []) := hD.lk [(b0 0), (b0 1), (b0 2), (b0 3), (b0 4), (b0 5), (b0 6)] rfl rfl
      refine lv_aload_n hx hb dX0_addPart_47 rfl (lv_at hl 0 rfl) ?_
      refine va_get (D := D) (ci := 0) (v := .ref (b0 5)) (C := RX0) (T := TX0) (N := 10) hx hb hts iX0_addPart_X0 hown hK.1 hP 0 rfl rfl 4 (by decide) (hts _ mX0_addPart_5) (fun _ h9 => h9) rfl dX0_addPart_48 ?_
      refine lv_aload_n hx hb dX0_addPart_51 rfl (lv_at hl 0 rfl) ?_
      refine va_get (D := D) (ci := 0) (v := .int dv_8.2.2.2.2.2.2.2.1) (C := RX0) (T := TX0) (N := 10) hx hb hts iX0_addPart_X0 hown hK.1 hP 0 rfl rfl 7 (by decide) (hts _ mX0_addPart_1) (fun _ h9 => h9) rfl dX0_addPart_52 ?_
      refine lv_iload hx hb dX0_addPart_55 (lv_at hl 4 rfl) ?_
      obtain ⟨b_9, h⟩ := ck_s h
      refine va_iast hx hb hK.1 hP hD hS 5 1 rfl rfl b_9 dX0_addPart_57 (fun H locs hP hD hS => ?_)
      obtain ⟨dv_10, edv_10⟩ : ∃ z : DS, z = (dv_8.1, dv_8.2.1, dv_8.2.2.1, dv_8.2.2.2.1, (upd dv_8.2.2.2.2.1 dv_8.2.2.2.2.2.2.2.1.toNatClampNeg x4), dv_8.2.2.2.2.2) := ⟨_, rfl⟩
      replace h := nm_s h edv_10
      have hP : va_P D vwCl (wD cy b0 dv_10 []) H := by subst edv_10; exact hP
      have hD : va_D A (wD cy b0 dv_10 []) := hD.lk [(b0 0), (b0 1), (b0 2), (b0 3), (b0 4), (b0 5), (b0 6)] rfl rfl
      refine lv_aload_n hx hb dX0_addPart_58 rfl (lv_at hl 0 rfl) ?_
      refine lv_dup hx hb dX0_addPart_59 rfl ?_
      refine va_get (D := D) (ci := 0) (v := .int dv_10.2.2.2.2.2.2.2.1) (C := RX0) (T := TX0) (N := 10) hx hb hts iX0_addPart_X0 hown hK.1 hP 0 rfl rfl 7 (by decide) (hts _ mX0_addPart_1) (fun _ h9 => h9) rfl dX0_addPart_60 ?_
      refine lv_iconst (v := 1) hx hb dX0_addPart_63 (by decide) ?_
      refine lv_iadd hx hb dX0_addPart_64 ?_
      refine va_put (D := D) (ci := 0) (v := .int (dv_10.2.2.2.2.2.2.2.1 + (1 : Int32))) (ty := .int) (C := RX0) (T := TX0) (N := 10) hx hb hts iX0_addPart_X0 tyX0 tyX0_ok nmX0 hown hK.1 hP hD hS 0 rfl rfl 7 (by decide) (hts _ mX0_addPart_1) (fun _ h9 => h9) rfl (by decide +kernel) rfl rfl (Nat.le_of_ble_eq_true rfl) dX0_addPart_65 (fun H locs hP hD hS => ?_)
      obtain ⟨dv_11, edv_11⟩ : ∃ z : DS, z = (dv_10.1, dv_10.2.1, dv_10.2.2.1, dv_10.2.2.2.1, dv_10.2.2.2.2.1, dv_10.2.2.2.2.2.1, dv_10.2.2.2.2.2.2.1, (dv_10.2.2.2.2.2.2.2.1 + (1 : Int32)), dv_10.2.2.2.2.2.2.2.2) := ⟨_, rfl⟩
      replace h := nm_s h edv_11
      have hP : va_P D vwCl (wD cy b0 dv_11 []) H := by subst edv_11; exact hP
      have hD : va_D A (wD cy b0 dv_11 []) := hD.lk [(b0 0), (b0 1), (b0 2), (b0 3), (b0 4), (b0 5), (b0 6)] rfl rfl
      cases h
      exact kretV hx hb hr hlk hP hS dX0_addPart_68
    · replace h := it_n c_2 h
      cases h
      exact kretV hx hb hr hlk hP hS dX0_addPart_16
theorem c_X0_addPart {l : Launch} {D : va_G} {cy : Nat → ClassId} (b0 : Nat → Nat) {dv : DS} {x1 : Int32} {x2 : Int32} {x3 : Int32} {x4 : Int32} {rr : DS} (h : f_X0_addPart dv x1 x2 x3 x4 = some rr) : CV l D cy yX0_addPart wsX0_addPart { frames := 0, cells := 0, slots := 0, locals := 0 } [.ref (b0 0), .int x1, .int x2, .int x3, .int x4] (wD cy b0 dv []) (wD cy b0 rr []) := by
  refine kofV (cc := cX0_addPart) (maxL := 5) (ret := none) (by decide) rfl (Nat.le_of_ble_eq_true rfl) ?_
  intro p e s m below meth c A M ls hl hP hD hS
  exact w_X0_addPart_0 M h hP hD hS hl
theorem eX0_addPart : yX0_addPart.cls ≠ "java/lang/invoke/MethodHandle" ∧ yX0_addPart.cls ≠ "java/lang/invoke/VarHandle" ∧ (parseMethodDescriptor yX0_addPart.desc).map (fun d => d.parameters.length) = some 4 := by decide +kernel
theorem iX0_clear_X0 : ∀ w ∈ u_ws RX0 TX0 10, w ∈ wsX0_clear := by decide +kernel
theorem mX0_clear_1 : Cond.fieldLink RX0 31 "LentPiles$Pad" "length" "I" ∈ wsX0_clear := by decide +kernel
set_option maxHeartbeats 4000000 in
set_option maxRecDepth 100000 in
theorem w_X0_clear_0 {p : Program} {l : Launch} {e : Env} {s : State} {m : MethodId} {args : Array Value} {below : List Frame} {meth : Method} {c : Code} {A : Nat → Prop} {D : va_G} {cy : Nat → ClassId} {b0 : Nat → Nat} {rr : DS} (M : kM p s m args meth c cX0_clear 1 none RX0 wsX0_clear A D cy) {dv : DS} (h : f_X0_clear dv = some rr) {H : Heap} {locs : List Loc} {ls : Array Slot} (hP : va_P D vwCl (wD cy b0 dv []) H) (hD : va_D A (wD cy b0 dv [])) (hS : va_S A s.heap H locs) (hl : lv_has ls 1 [(0, .ref (b0 0))]) : W p l e { frames := 0, cells := 0, slots := 0, locals := 0 } s m args below meth c H locs 0 0 (MQ below (qV D (wD cy b0 rr []) A) args s 0 0 A) (F0 m 0 ls []) := by
  obtain ⟨hx, hb, hr, hml, hown, hts, hlk, hA, hK⟩ := id M
  unfold f_X0_clear at h
  refine lv_aload_n hx hb dX0_clear_0 rfl (lv_at hl 0 rfl) ?_
  refine lv_iconst (v := 0) hx hb dX0_clear_1 (by decide) ?_
  refine va_put (D := D) (ci := 0) (v := .int (0 : Int32)) (ty := .int) (C := RX0) (T := TX0) (N := 10) hx hb hts iX0_clear_X0 tyX0 tyX0_ok nmX0 hown hK.1 hP hD hS 0 rfl rfl 6 (by decide) (hts _ mX0_clear_1) (fun _ h9 => h9) rfl (by decide +kernel) rfl rfl (Nat.le_of_ble_eq_true rfl) dX0_clear_2 (fun H locs hP hD hS => ?_)
  obtain ⟨dv_1, edv_1⟩ : ∃ z : DS, z = (dv.1, dv.2.1, dv.2.2.1, dv.2.2.2.1, dv.2.2.2.2.1, dv.2.2.2.2.2.1, (0 : Int32), dv.2.2.2.2.2.2.2) := ⟨_, rfl⟩
  replace h := nm_s h edv_1
  have hP : va_P D vwCl (wD cy b0 dv_1 []) H := by subst edv_1; exact hP
  have hD : va_D A (wD cy b0 dv_1 []) := hD.lk [(b0 0), (b0 1), (b0 2), (b0 3), (b0 4), (b0 5), (b0 6)] rfl rfl
  cases h
  exact kretV hx hb hr hlk hP hS dX0_clear_5
theorem c_X0_clear {l : Launch} {D : va_G} {cy : Nat → ClassId} (b0 : Nat → Nat) {dv : DS} {rr : DS} (h : f_X0_clear dv = some rr) : CV l D cy yX0_clear wsX0_clear { frames := 0, cells := 0, slots := 0, locals := 0 } [.ref (b0 0)] (wD cy b0 dv []) (wD cy b0 rr []) := by
  refine kofV (cc := cX0_clear) (maxL := 1) (ret := none) (by decide) rfl (Nat.le_of_ble_eq_true rfl) ?_
  intro p e s m below meth c A M ls hl hP hD hS
  exact w_X0_clear_0 M h hP hD hS hl
theorem eX0_clear : yX0_clear.cls ≠ "java/lang/invoke/MethodHandle" ∧ yX0_clear.cls ≠ "java/lang/invoke/VarHandle" ∧ (parseMethodDescriptor yX0_clear.desc).map (fun d => d.parameters.length) = some 0 := by decide +kernel
theorem iX0_signAt_X0 : ∀ w ∈ u_ws RX0 TX0 10, w ∈ wsX0_signAt := by decide +kernel
theorem mX0_signAt_1 : Cond.fieldLink RX0 31 "LentPiles$Pad" "length" "I" ∈ wsX0_signAt := by decide +kernel
theorem mX0_signAt_2 : Cond.fieldLink RX0 9 "LentPiles$Pad" "signs" "[C" ∈ wsX0_signAt := by decide +kernel
set_option maxHeartbeats 4000000 in
set_option maxRecDepth 100000 in
theorem w_X0_signAt_0 {p : Program} {l : Launch} {e : Env} {s : State} {m : MethodId} {args : Array Value} {below : List Frame} {meth : Method} {c : Code} {A : Nat → Prop} {D : va_G} {cy : Nat → ClassId} {b0 : Nat → Nat} {dv : DS} {x1 : Int32} {rr : Int32} (M : kM p s m args meth c cX0_signAt 2 (some .char) RX0 wsX0_signAt A D cy)  (h : f_X0_signAt dv x1 = some rr) {H : Heap} {locs : List Loc} {ls : Array Slot} (hP : va_P D vwCl (wD cy b0 dv []) H) (hD : va_D A (wD cy b0 dv [])) (hS : va_S A s.heap H locs) (hl : lv_has ls 2 [(0, .ref (b0 0)), (1, .int x1)]) : W p l e { frames := 0, cells := 0, slots := 0, locals := 0 } s m args below meth c H locs 0 0 (MQ below (qI D (wD cy b0 dv []) (rr) A) args s 0 0 A) (F0 m 0 ls []) := by
  obtain ⟨hx, hb, hr, hml, hown, hts, hlk, hA, hK⟩ := id M
  unfold f_X0_signAt at h
  refine lv_iload_n hx hb dX0_signAt_0 rfl (lv_at hl 1 rfl) ?_
  refine lv_if_lt (tgt := 27) hx hb dX0_signAt_1 (by decide) (fun c_1 => ?_) (fun c_1 => ?_)
  · replace h := it_p c_1 h
    refine lv_iconst (v := 0) hx hb dX0_signAt_27 (by decide) ?_
    cases h
    exact kretZ (r0 := (0 : Int32)) (ty := .char) hx hb hr hlk hP hS (by decide) dX0_signAt_28
  · replace h := it_n c_1 h
    refine lv_iload_n hx hb dX0_signAt_4 rfl (lv_at hl 1 rfl) ?_
    refine lv_aload_n hx hb dX0_signAt_5 rfl (lv_at hl 0 rfl) ?_
    refine va_get (D := D) (ci := 0) (v := .int dv.2.2.2.2.2.2.1) (C := RX0) (T := TX0) (N := 10) hx hb hts iX0_signAt_X0 hown hK.1 hP 0 rfl rfl 6 (by decide) (hts _ mX0_signAt_1) (fun _ h9 => h9) rfl dX0_signAt_6 ?_
    refine lv_icmp_ge (tgt := 27) hx hb dX0_signAt_9 (by decide) (fun c_2 => ?_) (fun c_2 => ?_)
    · replace h := it_p c_2 h
      refine lv_iconst (v := 0) hx hb dX0_signAt_27 (by decide) ?_
      cases h
      exact kretZ (r0 := (0 : Int32)) (ty := .char) hx hb hr hlk hP hS (by decide) dX0_signAt_28
    · replace h := it_n c_2 h
      refine lv_iload_n hx hb dX0_signAt_12 rfl (lv_at hl 1 rfl) ?_
      refine lv_bipush (v := 60) hx hb dX0_signAt_13 (by decide) ?_
      refine lv_icmp_ge (tgt := 27) hx hb dX0_signAt_15 (by decide) (fun c_3 => ?_) (fun c_3 => ?_)
      · replace h := it_p c_3 h
        refine lv_iconst (v := 0) hx hb dX0_signAt_27 (by decide) ?_
        cases h
        exact kretZ (r0 := (0 : Int32)) (ty := .char) hx hb hr hlk hP hS (by decide) dX0_signAt_28
      · replace h := it_n c_3 h
        refine lv_aload_n hx hb dX0_signAt_18 rfl (lv_at hl 0 rfl) ?_
        refine va_get (D := D) (ci := 0) (v := .ref (b0 1)) (C := RX0) (T := TX0) (N := 10) hx hb hts iX0_signAt_X0 hown hK.1 hP 0 rfl rfl 0 (by decide) (hts _ mX0_signAt_2) (fun _ h9 => h9) rfl dX0_signAt_19 ?_
        refine lv_iload_n hx hb dX0_signAt_22 rfl (lv_at hl 1 rfl) ?_
        obtain ⟨b_4, h⟩ := ck_s h
        refine va_cald hx hb hK.1 hP 1 0 rfl rfl b_4 dX0_signAt_23 ?_
        refine lv_goto (tgt := 28) hx hb dX0_signAt_24 (by decide) ?_
        obtain ⟨hnr, h⟩ := bc_s h
        cases h
        exact kretZ (ty := .char) hx hb hr hlk hP hS hnr dX0_signAt_28
theorem c_X0_signAt {l : Launch} {D : va_G} {cy : Nat → ClassId} (b0 : Nat → Nat) {dv : DS} {x1 : Int32} {rr : Int32} (h : f_X0_signAt dv x1 = some rr) : CI l D cy yX0_signAt wsX0_signAt { frames := 0, cells := 0, slots := 0, locals := 0 } [.ref (b0 0), .int x1] (wD cy b0 dv []) (rr) (wD cy b0 dv []) := by
  refine kofI (cc := cX0_signAt) (maxL := 2) (ret := (some .char)) (by decide) rfl (Nat.le_of_ble_eq_true rfl) ?_
  intro p e s m below meth c A M ls hl hP hD hS
  exact w_X0_signAt_0 M h hP hD hS hl
theorem eX0_signAt : yX0_signAt.cls ≠ "java/lang/invoke/MethodHandle" ∧ yX0_signAt.cls ≠ "java/lang/invoke/VarHandle" ∧ (parseMethodDescriptor yX0_signAt.desc).map (fun d => d.parameters.length) = some 1 := by decide +kernel
set_option maxHeartbeats 4000000 in
set_option maxRecDepth 100000 in
theorem w_X0_isLetter_0 {p : Program} {l : Launch} {e : Env} {s : State} {m : MethodId} {args : Array Value} {below : List Frame} {meth : Method} {c : Code} {A : Nat → Prop} {D : va_G} {cy : Nat → ClassId} {x0 : Int32} {rr : Int32} (M : kM p s m args meth c cX0_isLetter 1 (some .boolean) RX0 wsX0_isLetter A D cy)  (h : f_X0_isLetter x0 = some rr) {H : Heap} {locs : List Loc} {ls : Array Slot} (hP : va_P D vwCl [] H) (hD : va_D A []) (hS : va_S A s.heap H locs) (hl : lv_has ls 1 [(0, .int x0)]) : W p l e { frames := 0, cells := 0, slots := 0, locals := 0 } s m args below meth c H locs 0 0 (MQ below (qI D [] (rr) A) args s 0 0 A) (F0 m 0 ls []) := by
  obtain ⟨hx, hb, hr, hml, hown, hts, hlk, hA, hK⟩ := id M
  unfold f_X0_isLetter at h
  refine lv_iload_n hx hb dX0_isLetter_0 rfl (lv_at hl 0 rfl) ?_
  refine lv_bipush (v := 65) hx hb dX0_isLetter_1 (by decide) ?_
  refine lv_icmp_lt (tgt := 16) hx hb dX0_isLetter_3 (by decide) (fun c_1 => ?_) (fun c_1 => ?_)
  · replace h := it_p c_1 h
    refine lv_iconst (v := 0) hx hb dX0_isLetter_16 (by decide) ?_
    cases h
    exact kretZ (r0 := (0 : Int32)) (ty := .boolean) hx hb hr hlk hP hS (by decide) dX0_isLetter_17
  · replace h := it_n c_1 h
    refine lv_iload_n hx hb dX0_isLetter_6 rfl (lv_at hl 0 rfl) ?_
    refine lv_bipush (v := 71) hx hb dX0_isLetter_7 (by decide) ?_
    refine lv_icmp_ge (tgt := 16) hx hb dX0_isLetter_9 (by decide) (fun c_2 => ?_) (fun c_2 => ?_)
    · replace h := it_p c_2 h
      refine lv_iconst (v := 0) hx hb dX0_isLetter_16 (by decide) ?_
      cases h
      exact kretZ (r0 := (0 : Int32)) (ty := .boolean) hx hb hr hlk hP hS (by decide) dX0_isLetter_17
    · replace h := it_n c_2 h
      refine lv_iconst (v := 1) hx hb dX0_isLetter_12 (by decide) ?_
      refine lv_goto (tgt := 17) hx hb dX0_isLetter_13 (by decide) ?_
      cases h
      exact kretZ (r0 := (1 : Int32)) (ty := .boolean) hx hb hr hlk hP hS (by decide) dX0_isLetter_17
theorem c_X0_isLetter {l : Launch} {D : va_G} {cy : Nat → ClassId}  {x0 : Int32} {rr : Int32} (h : f_X0_isLetter x0 = some rr) : CI l D cy yX0_isLetter wsX0_isLetter { frames := 0, cells := 0, slots := 0, locals := 0 } [.int x0] [] (rr) [] := by
  refine kofI (cc := cX0_isLetter) (maxL := 1) (ret := (some .boolean)) (by decide) rfl (Nat.le_of_ble_eq_true rfl) ?_
  intro p e s m below meth c A M ls hl hP hD hS
  exact w_X0_isLetter_0 M h hP hD hS hl
theorem eX0_isLetter : yX0_isLetter.cls ≠ "java/lang/invoke/MethodHandle" ∧ yX0_isLetter.cls ≠ "java/lang/invoke/VarHandle" ∧ (parseMethodDescriptor yX0_isLetter.desc).map (fun d => d.parameters.length) = some 1 := by decide +kernel
set_option maxHeartbeats 4000000 in
set_option maxRecDepth 100000 in
theorem w_X0_isDigit_0 {p : Program} {l : Launch} {e : Env} {s : State} {m : MethodId} {args : Array Value} {below : List Frame} {meth : Method} {c : Code} {A : Nat → Prop} {D : va_G} {cy : Nat → ClassId} {x0 : Int32} {rr : Int32} (M : kM p s m args meth c cX0_isDigit 1 (some .boolean) RX0 wsX0_isDigit A D cy)  (h : f_X0_isDigit x0 = some rr) {H : Heap} {locs : List Loc} {ls : Array Slot} (hP : va_P D vwCl [] H) (hD : va_D A []) (hS : va_S A s.heap H locs) (hl : lv_has ls 1 [(0, .int x0)]) : W p l e { frames := 0, cells := 0, slots := 0, locals := 0 } s m args below meth c H locs 0 0 (MQ below (qI D [] (rr) A) args s 0 0 A) (F0 m 0 ls []) := by
  obtain ⟨hx, hb, hr, hml, hown, hts, hlk, hA, hK⟩ := id M
  unfold f_X0_isDigit at h
  refine lv_iload_n hx hb dX0_isDigit_0 rfl (lv_at hl 0 rfl) ?_
  refine lv_bipush (v := 48) hx hb dX0_isDigit_1 (by decide) ?_
  refine lv_icmp_lt (tgt := 16) hx hb dX0_isDigit_3 (by decide) (fun c_1 => ?_) (fun c_1 => ?_)
  · replace h := it_p c_1 h
    refine lv_iconst (v := 0) hx hb dX0_isDigit_16 (by decide) ?_
    cases h
    exact kretZ (r0 := (0 : Int32)) (ty := .boolean) hx hb hr hlk hP hS (by decide) dX0_isDigit_17
  · replace h := it_n c_1 h
    refine lv_iload_n hx hb dX0_isDigit_6 rfl (lv_at hl 0 rfl) ?_
    refine lv_bipush (v := 57) hx hb dX0_isDigit_7 (by decide) ?_
    refine lv_icmp_gt (tgt := 16) hx hb dX0_isDigit_9 (by decide) (fun c_2 => ?_) (fun c_2 => ?_)
    · replace h := it_p c_2 h
      refine lv_iconst (v := 0) hx hb dX0_isDigit_16 (by decide) ?_
      cases h
      exact kretZ (r0 := (0 : Int32)) (ty := .boolean) hx hb hr hlk hP hS (by decide) dX0_isDigit_17
    · replace h := it_n c_2 h
      refine lv_iconst (v := 1) hx hb dX0_isDigit_12 (by decide) ?_
      refine lv_goto (tgt := 17) hx hb dX0_isDigit_13 (by decide) ?_
      cases h
      exact kretZ (r0 := (1 : Int32)) (ty := .boolean) hx hb hr hlk hP hS (by decide) dX0_isDigit_17
theorem c_X0_isDigit {l : Launch} {D : va_G} {cy : Nat → ClassId}  {x0 : Int32} {rr : Int32} (h : f_X0_isDigit x0 = some rr) : CI l D cy yX0_isDigit wsX0_isDigit { frames := 0, cells := 0, slots := 0, locals := 0 } [.int x0] [] (rr) [] := by
  refine kofI (cc := cX0_isDigit) (maxL := 1) (ret := (some .boolean)) (by decide) rfl (Nat.le_of_ble_eq_true rfl) ?_
  intro p e s m below meth c A M ls hl hP hD hS
  exact w_X0_isDigit_0 M h hP hD hS hl
theorem eX0_isDigit : yX0_isDigit.cls ≠ "java/lang/invoke/MethodHandle" ∧ yX0_isDigit.cls ≠ "java/lang/invoke/VarHandle" ∧ (parseMethodDescriptor yX0_isDigit.desc).map (fun d => d.parameters.length) = some 1 := by decide +kernel
theorem iX0_faultOfPart_X0 : ∀ w ∈ u_ws RX0 TX0 10, w ∈ wsX0_faultOfPart := by decide +kernel
theorem mX0_faultOfPart_1 : Cond.fieldLink RX0 38 "LentPiles$Pad" "asks" "I" ∈ wsX0_faultOfPart := by decide +kernel
set_option maxHeartbeats 4000000 in
set_option maxRecDepth 100000 in
theorem w_X0_faultOfPart_71 {p : Program} {l : Launch} {e : Env} {s : State} {m : MethodId} {args : Array Value} {below : List Frame} {meth : Method} {c : Code} {A : Nat → Prop} {D : va_G} {cy : Nat → ClassId} {b0 : Nat → Nat} {dv : DS} {x1 : Int32} {rr : Int32} (M : kM p s m args meth c cX0_faultOfPart 7 (some .int) RX0 wsX0_faultOfPart A D cy) {x2 : Int32} {x4 : Int32} (h : f_X0_faultOfPart_71 dv x1 x2 x4 = some rr) {H : Heap} {locs : List Loc} {ls : Array Slot} (hP : va_P D vwCl (wD cy b0 dv []) H) (hD : va_D A (wD cy b0 dv [])) (hS : va_S A s.heap H locs) (hl : lv_has ls 7 [(0, .ref (b0 0)), (1, .int x1), (2, .int x2), (4, .int x4)]) : W p l e { frames := 1, cells := 0, slots := 0, locals := 21 } s m args below meth c H locs 0 0 (MQ below (qI D (wD cy b0 dv []) (rr) A) args s 0 0 A) (F0 m 71 ls []) := by
  obtain ⟨hx, hb, hr, hml, hown, hts, hlk, hA, hK⟩ := id M
  unfold f_X0_faultOfPart_71 at h
  refine lv_iload hx hb dX0_faultOfPart_71 (lv_at hl 3 rfl) ?_
  refine lv_bipush (v := 62) hx hb dX0_faultOfPart_73 (by decide) ?_
  refine lv_icmp_eq (tgt := 82) hx hb dX0_faultOfPart_75 (by decide) (fun c_1 => ?_) (fun c_1 => ?_)
  · replace h := it_p c_1 h
    refine lv_aload_n hx hb dX0_faultOfPart_82 rfl (lv_at hl 0 rfl) ?_
    refine lv_iload_n hx hb dX0_faultOfPart_83 rfl (lv_at hl 1 rfl) ?_
    refine lv_iconst (v := 2) hx hb dX0_faultOfPart_84 (by decide) ?_
    refine lv_iadd hx hb dX0_faultOfPart_85 ?_
    obtain ⟨r_2, hr_2, h⟩ := bn_s h
    refine kcVi (As := [.int (x1 + (2 : Int32))]) (rest := []) (ws' := (wD cy b0 dv [])) ⟨hx, hb, hml, hown, hts⟩ (cwV 1 hts gX0_faultOfPart_X0_signAt rfl rfl rfl ⟨rfl, eX0_signAt⟩ ⟨Nat.le_of_ble_eq_true rfl, Nat.le_of_ble_eq_true rfl⟩) (c_X0_signAt b0 hr_2) hK hP hD hS hA [0, 1, 2, 3, 4, 5, 6] [] (by decide) rfl rfl 0 rfl rfl [(b0 0), (b0 1), (b0 2), (b0 3), (b0 4), (b0 5), (b0 6)] rfl rfl rfl [] rfl rfl rfl rfl hl.1 rfl (Nat.le_of_ble_eq_true rfl) dX0_faultOfPart_86 (fun H locs hP hD hS => ?_)
    refine lv_istore (lv' := [(5, .int r_2), (0, .ref (b0 0)), (1, .int x1), (2, .int x2), (4, .int x4)]) hx hb dX0_faultOfPart_89 hl (by decide) rfl (fun ls hl => ?_)
    refine lv_iload hx hb dX0_faultOfPart_91 (lv_at hl 0 rfl) ?_
    obtain ⟨r_3, hr_3, h⟩ := bn_s h
    refine kcSi (As := [.int r_2]) (rest := []) ⟨hx, hb, hml, hown, hts⟩ (va_cwS 1 hts gX0_faultOfPart_X0_isLetter rfl rfl rfl eX0_isLetter ⟨Nat.le_of_ble_eq_true rfl, Nat.le_of_ble_eq_true rfl⟩) (c_X0_isLetter  hr_3) hK hP hS hA rfl hl.1 rfl (Nat.le_of_ble_eq_true rfl) dX0_faultOfPart_93 (fun H locs hP hS => ?_)
    refine lv_if_eq (tgt := 105) hx hb dX0_faultOfPart_96 (by decide) (fun c_4 => ?_) (fun c_4 => ?_)
    · replace h := it_p c_4 h
      refine lv_iload_n hx hb dX0_faultOfPart_105 rfl (lv_at hl 2 rfl) ?_
      refine lv_iconst (v := 2) hx hb dX0_faultOfPart_106 (by decide) ?_
      refine lv_iadd hx hb dX0_faultOfPart_107 ?_
      cases h
      exact kretI hx hb hr hlk hP hS dX0_faultOfPart_108
    · replace h := it_n c_4 h
      refine lv_iload hx hb dX0_faultOfPart_99 (lv_at hl 0 rfl) ?_
      refine lv_iload_n hx hb dX0_faultOfPart_101 rfl (lv_at hl 3 rfl) ?_
      refine lv_icmp_ne (tgt := 109) hx hb dX0_faultOfPart_102 (by decide) (fun c_5 => ?_) (fun c_5 => ?_)
      · replace h := it_n c_5 h
        refine lv_aload_n hx hb dX0_faultOfPart_109 rfl (lv_at hl 1 rfl) ?_
        refine lv_iload_n hx hb dX0_faultOfPart_110 rfl (lv_at hl 2 rfl) ?_
        refine lv_iconst (v := 3) hx hb dX0_faultOfPart_111 (by decide) ?_
        refine lv_iadd hx hb dX0_faultOfPart_112 ?_
        obtain ⟨r_6, hr_6, h⟩ := bn_s h
        refine kcVi (As := [.int (x1 + (3 : Int32))]) (rest := []) (ws' := (wD cy b0 dv [])) ⟨hx, hb, hml, hown, hts⟩ (cwV 1 hts gX0_faultOfPart_X0_signAt rfl rfl rfl ⟨rfl, eX0_signAt⟩ ⟨Nat.le_of_ble_eq_true rfl, Nat.le_of_ble_eq_true rfl⟩) (c_X0_signAt b0 hr_6) hK hP hD hS hA [0, 1, 2, 3, 4, 5, 6] [] (by decide) rfl rfl 0 rfl rfl [(b0 0), (b0 1), (b0 2), (b0 3), (b0 4), (b0 5), (b0 6)] rfl rfl rfl [] rfl rfl rfl rfl hl.1 rfl (Nat.le_of_ble_eq_true rfl) dX0_faultOfPart_113 (fun H locs hP hD hS => ?_)
        refine lv_istore (lv' := [(6, .int r_6), (5, .int r_2), (0, .ref (b0 0)), (1, .int x1), (2, .int x2), (4, .int x4)]) hx hb dX0_faultOfPart_116 hl (by decide) rfl (fun ls hl => ?_)
        refine lv_iload hx hb dX0_faultOfPart_118 (lv_at hl 0 rfl) ?_
        obtain ⟨r_7, hr_7, h⟩ := bn_s h
        refine kcSi (As := [.int r_6]) (rest := []) ⟨hx, hb, hml, hown, hts⟩ (va_cwS 1 hts gX0_faultOfPart_X0_isDigit rfl rfl rfl eX0_isDigit ⟨Nat.le_of_ble_eq_true rfl, Nat.le_of_ble_eq_true rfl⟩) (c_X0_isDigit  hr_7) hK hP hS hA rfl hl.1 rfl (Nat.le_of_ble_eq_true rfl) dX0_faultOfPart_120 (fun H locs hP hS => ?_)
        refine lv_if_eq (tgt := 138) hx hb dX0_faultOfPart_123 (by decide) (fun c_8 => ?_) (fun c_8 => ?_)
        · replace h := it_p c_8 h
          refine lv_iload_n hx hb dX0_faultOfPart_138 rfl (lv_at hl 3 rfl) ?_
          refine lv_iconst (v := 3) hx hb dX0_faultOfPart_139 (by decide) ?_
          refine lv_iadd hx hb dX0_faultOfPart_140 ?_
          cases h
          exact kretI hx hb hr hlk hP hS dX0_faultOfPart_141
        · replace h := it_n c_8 h
          refine lv_iload hx hb dX0_faultOfPart_126 (lv_at hl 0 rfl) ?_
          refine lv_bipush (v := 48) hx hb dX0_faultOfPart_128 (by decide) ?_
          refine lv_icmp_eq (tgt := 138) hx hb dX0_faultOfPart_130 (by decide) (fun c_9 => ?_) (fun c_9 => ?_)
          · replace h := it_p c_9 h
            refine lv_iload_n hx hb dX0_faultOfPart_138 rfl (lv_at hl 3 rfl) ?_
            refine lv_iconst (v := 3) hx hb dX0_faultOfPart_139 (by decide) ?_
            refine lv_iadd hx hb dX0_faultOfPart_140 ?_
            cases h
            exact kretI hx hb hr hlk hP hS dX0_faultOfPart_141
          · replace h := it_n c_9 h
            refine lv_bipush (v := (-6)) hx hb dX0_faultOfPart_133 (by decide) ?_
            refine lv_goto (tgt := 141) hx hb dX0_faultOfPart_135 (by decide) ?_
            cases h
            exact kretI hx hb hr hlk hP hS dX0_faultOfPart_141
      · replace h := it_p c_5 h
        refine lv_iload_n hx hb dX0_faultOfPart_105 rfl (lv_at hl 2 rfl) ?_
        refine lv_iconst (v := 2) hx hb dX0_faultOfPart_106 (by decide) ?_
        refine lv_iadd hx hb dX0_faultOfPart_107 ?_
        cases h
        exact kretI hx hb hr hlk hP hS dX0_faultOfPart_108
  · replace h := it_n c_1 h
    refine lv_iload_n hx hb dX0_faultOfPart_78 rfl (lv_at hl 1 rfl) ?_
    refine lv_iconst (v := 1) hx hb dX0_faultOfPart_79 (by decide) ?_
    refine lv_iadd hx hb dX0_faultOfPart_80 ?_
    cases h
    exact kretI hx hb hr hlk hP hS dX0_faultOfPart_81
set_option maxHeartbeats 4000000 in
set_option maxRecDepth 100000 in
theorem w_X0_faultOfPart_48 {p : Program} {l : Launch} {e : Env} {s : State} {m : MethodId} {args : Array Value} {below : List Frame} {meth : Method} {c : Code} {A : Nat → Prop} {D : va_G} {cy : Nat → ClassId} {b0 : Nat → Nat} {dv : DS} {x1 : Int32} {rr : Int32} (M : kM p s m args meth c cX0_faultOfPart 7 (some .int) RX0 wsX0_faultOfPart A D cy) {x2 : Int32} {x3 : Int32} (h : f_X0_faultOfPart_48 dv x1 x2 x3 = some rr) {H : Heap} {locs : List Loc} {ls : Array Slot} (hP : va_P D vwCl (wD cy b0 dv []) H) (hD : va_D A (wD cy b0 dv [])) (hS : va_S A s.heap H locs) (hl : lv_has ls 7 [(0, .ref (b0 0)), (1, .int x1), (2, .int x2), (3, .int x3)]) : W p l e { frames := 1, cells := 0, slots := 0, locals := 21 } s m args below meth c H locs 0 0 (MQ below (qI D (wD cy b0 dv []) (rr) A) args s 0 0 A) (F0 m 48 ls []) := by
  obtain ⟨hx, hb, hr, hml, hown, hts, hlk, hA, hK⟩ := id M
  unfold f_X0_faultOfPart_48 at h
  refine lv_aload_n hx hb dX0_faultOfPart_48 rfl (lv_at hl 0 rfl) ?_
  refine lv_iload_n hx hb dX0_faultOfPart_49 rfl (lv_at hl 1 rfl) ?_
  refine lv_iconst (v := 1) hx hb dX0_faultOfPart_50 (by decide) ?_
  refine lv_iadd hx hb dX0_faultOfPart_51 ?_
  obtain ⟨r_1, hr_1, h⟩ := bn_s h
  refine kcVi (As := [.int (x1 + (1 : Int32))]) (rest := []) (ws' := (wD cy b0 dv [])) ⟨hx, hb, hml, hown, hts⟩ (cwV 1 hts gX0_faultOfPart_X0_signAt rfl rfl rfl ⟨rfl, eX0_signAt⟩ ⟨Nat.le_of_ble_eq_true rfl, Nat.le_of_ble_eq_true rfl⟩) (c_X0_signAt b0 hr_1) hK hP hD hS hA [0, 1, 2, 3, 4, 5, 6] [] (by decide) rfl rfl 0 rfl rfl [(b0 0), (b0 1), (b0 2), (b0 3), (b0 4), (b0 5), (b0 6)] rfl rfl rfl [] rfl rfl rfl rfl hl.1 rfl (Nat.le_of_ble_eq_true rfl) dX0_faultOfPart_52 (fun H locs hP hD hS => ?_)
  refine lv_istore (lv' := [(4, .int r_1), (0, .ref (b0 0)), (1, .int x1), (2, .int x2), (3, .int x3)]) hx hb dX0_faultOfPart_55 hl (by decide) rfl (fun ls hl => ?_)
  refine lv_iload hx hb dX0_faultOfPart_57 (lv_at hl 0 rfl) ?_
  refine lv_bipush (v := 33) hx hb dX0_faultOfPart_59 (by decide) ?_
  refine lv_icmp_ne (tgt := 71) hx hb dX0_faultOfPart_61 (by decide) (fun c_2 => ?_) (fun c_2 => ?_)
  · replace h := it_n c_2 h
    exact w_X0_faultOfPart_71 M h hP hD hS (lv_sub hl [1, 2, 3, 0] rfl)
  · replace h := it_p c_2 h
    refine lv_iload_n hx hb dX0_faultOfPart_64 rfl (lv_at hl 4 rfl) ?_
    refine lv_if_ne (tgt := 71) hx hb dX0_faultOfPart_65 (by decide) (fun c_3 => ?_) (fun c_3 => ?_)
    · replace h := it_n c_3 h
      exact w_X0_faultOfPart_71 M h hP hD hS (lv_sub hl [1, 2, 3, 0] rfl)
    · replace h := it_p c_3 h
      refine lv_bipush (v := (-6)) hx hb dX0_faultOfPart_68 (by decide) ?_
      cases h
      exact kretI hx hb hr hlk hP hS dX0_faultOfPart_70
set_option maxHeartbeats 4000000 in
set_option maxRecDepth 100000 in
theorem w_X0_faultOfPart_34 {p : Program} {l : Launch} {e : Env} {s : State} {m : MethodId} {args : Array Value} {below : List Frame} {meth : Method} {c : Code} {A : Nat → Prop} {D : va_G} {cy : Nat → ClassId} {b0 : Nat → Nat} {dv : DS} {x1 : Int32} {rr : Int32} (M : kM p s m args meth c cX0_faultOfPart 7 (some .int) RX0 wsX0_faultOfPart A D cy) {x2 : Int32} {t0 : Int32} (h : f_X0_faultOfPart_34 dv x1 x2 t0 = some rr) {H : Heap} {locs : List Loc} {ls : Array Slot} (hP : va_P D vwCl (wD cy b0 dv []) H) (hD : va_D A (wD cy b0 dv [])) (hS : va_S A s.heap H locs) (hl : lv_has ls 7 [(0, .ref (b0 0)), (1, .int x1), (2, .int x2)]) : W p l e { frames := 1, cells := 0, slots := 0, locals := 21 } s m args below meth c H locs 0 0 (MQ below (qI D (wD cy b0 dv []) (rr) A) args s 0 0 A) (F0 m 34 ls [.int t0]) := by
  obtain ⟨hx, hb, hr, hml, hown, hts, hlk, hA, hK⟩ := id M
  unfold f_X0_faultOfPart_34 at h
  refine lv_istore_n (lv' := [(3, .int t0), (0, .ref (b0 0)), (1, .int x1), (2, .int x2)]) hx hb dX0_faultOfPart_34 rfl hl (by decide) rfl (fun ls hl => ?_)
  refine lv_iload_n hx hb dX0_faultOfPart_35 rfl (lv_at hl 0 rfl) ?_
  refine lv_if_ne (tgt := 48) hx hb dX0_faultOfPart_36 (by decide) (fun c_1 => ?_) (fun c_1 => ?_)
  · replace h := it_n c_1 h
    exact w_X0_faultOfPart_48 M h hP hD hS (lv_sub hl [1, 2, 3, 0] rfl)
  · replace h := it_p c_1 h
    refine lv_iload_n hx hb dX0_faultOfPart_39 rfl (lv_at hl 3 rfl) ?_
    obtain ⟨r_2, hr_2, h⟩ := bn_s h
    refine kcSi (As := [.int x2]) (rest := []) ⟨hx, hb, hml, hown, hts⟩ (va_cwS 1 hts gX0_faultOfPart_X0_isLetter rfl rfl rfl eX0_isLetter ⟨Nat.le_of_ble_eq_true rfl, Nat.le_of_ble_eq_true rfl⟩) (c_X0_isLetter  hr_2) hK hP hS hA rfl hl.1 rfl (Nat.le_of_ble_eq_true rfl) dX0_faultOfPart_40 (fun H locs hP hS => ?_)
    refine lv_if_ne (tgt := 48) hx hb dX0_faultOfPart_43 (by decide) (fun c_3 => ?_) (fun c_3 => ?_)
    · replace h := it_n c_3 h
      exact w_X0_faultOfPart_48 M h hP hD hS (lv_sub hl [1, 2, 3, 0] rfl)
    · replace h := it_p c_3 h
      refine lv_iload_n hx hb dX0_faultOfPart_46 rfl (lv_at hl 2 rfl) ?_
      cases h
      exact kretI hx hb hr hlk hP hS dX0_faultOfPart_47
set_option maxHeartbeats 4000000 in
set_option maxRecDepth 100000 in
theorem w_X0_faultOfPart_0 {p : Program} {l : Launch} {e : Env} {s : State} {m : MethodId} {args : Array Value} {below : List Frame} {meth : Method} {c : Code} {A : Nat → Prop} {D : va_G} {cy : Nat → ClassId} {b0 : Nat → Nat} {dv : DS} {x1 : Int32} {rr : Int32} (M : kM p s m args meth c cX0_faultOfPart 7 (some .int) RX0 wsX0_faultOfPart A D cy)  (h : f_X0_faultOfPart dv x1 = some rr) {H : Heap} {locs : List Loc} {ls : Array Slot} (hP : va_P D vwCl (wD cy b0 dv []) H) (hD : va_D A (wD cy b0 dv [])) (hS : va_S A s.heap H locs) (hl : lv_has ls 7 [(0, .ref (b0 0)), (1, .int x1)]) : W p l e { frames := 1, cells := 0, slots := 0, locals := 21 } s m args below meth c H locs 0 0 (MQ below (qI D (wD cy b0 dv []) (rr) A) args s 0 0 A) (F0 m 0 ls []) := by
  obtain ⟨hx, hb, hr, hml, hown, hts, hlk, hA, hK⟩ := id M
  unfold f_X0_faultOfPart at h
  refine lv_aload_n hx hb dX0_faultOfPart_0 rfl (lv_at hl 0 rfl) ?_
  refine lv_iload_n hx hb dX0_faultOfPart_1 rfl (lv_at hl 1 rfl) ?_
  obtain ⟨r_1, hr_1, h⟩ := bn_s h
  refine kcVi (As := [.int x1]) (rest := []) (ws' := (wD cy b0 dv [])) ⟨hx, hb, hml, hown, hts⟩ (cwV 1 hts gX0_faultOfPart_X0_signAt rfl rfl rfl ⟨rfl, eX0_signAt⟩ ⟨Nat.le_of_ble_eq_true rfl, Nat.le_of_ble_eq_true rfl⟩) (c_X0_signAt b0 hr_1) hK hP hD hS hA [0, 1, 2, 3, 4, 5, 6] [] (by decide) rfl rfl 0 rfl rfl [(b0 0), (b0 1), (b0 2), (b0 3), (b0 4), (b0 5), (b0 6)] rfl rfl rfl [] rfl rfl rfl rfl hl.1 rfl (Nat.le_of_ble_eq_true rfl) dX0_faultOfPart_2 (fun H locs hP hD hS => ?_)
  refine lv_istore_n (lv' := [(2, .int r_1), (0, .ref (b0 0)), (1, .int x1)]) hx hb dX0_faultOfPart_5 rfl hl (by decide) rfl (fun ls hl => ?_)
  refine lv_iload_n hx hb dX0_faultOfPart_6 rfl (lv_at hl 0 rfl) ?_
  refine lv_bipush (v := 46) hx hb dX0_faultOfPart_7 (by decide) ?_
  refine lv_icmp_ne (tgt := 15) hx hb dX0_faultOfPart_9 (by decide) (fun c_2 => ?_) (fun c_2 => ?_)
  · replace h := it_n c_2 h
    refine lv_iload_n hx hb dX0_faultOfPart_15 rfl (lv_at hl 0 rfl) ?_
    refine lv_bipush (v := 63) hx hb dX0_faultOfPart_16 (by decide) ?_
    refine lv_icmp_ne (tgt := 33) hx hb dX0_faultOfPart_18 (by decide) (fun c_3 => ?_) (fun c_3 => ?_)
    · replace h := it_n c_3 h
      refine lv_iconst (v := 0) hx hb dX0_faultOfPart_33 (by decide) ?_
      exact w_X0_faultOfPart_34 M h hP hD hS (lv_sub hl [1, 2, 0] rfl)
    · replace h := it_p c_3 h
      refine lv_aload_n hx hb dX0_faultOfPart_21 rfl (lv_at hl 1 rfl) ?_
      refine va_get (D := D) (ci := 0) (v := .int dv.2.2.2.2.2.2.2.2.1) (C := RX0) (T := TX0) (N := 10) hx hb hts iX0_faultOfPart_X0 hown hK.1 hP 0 rfl rfl 8 (by decide) (hts _ mX0_faultOfPart_1) (fun _ h9 => h9) rfl dX0_faultOfPart_22 ?_
      refine lv_iconst (v := 3) hx hb dX0_faultOfPart_25 (by decide) ?_
      refine lv_icmp_ge (tgt := 33) hx hb dX0_faultOfPart_26 (by decide) (fun c_4 => ?_) (fun c_4 => ?_)
      · replace h := it_p c_4 h
        refine lv_iconst (v := 0) hx hb dX0_faultOfPart_33 (by decide) ?_
        exact w_X0_faultOfPart_34 M h hP hD hS (lv_sub hl [1, 2, 0] rfl)
      · replace h := it_n c_4 h
        refine lv_iconst (v := 1) hx hb dX0_faultOfPart_29 (by decide) ?_
        refine lv_goto (tgt := 34) hx hb dX0_faultOfPart_30 (by decide) ?_
        exact w_X0_faultOfPart_34 M h hP hD hS (lv_sub hl [1, 2, 0] rfl)
  · replace h := it_p c_2 h
    refine lv_bipush (v := (-6)) hx hb dX0_faultOfPart_12 (by decide) ?_
    cases h
    exact kretI hx hb hr hlk hP hS dX0_faultOfPart_14
theorem c_X0_faultOfPart {l : Launch} {D : va_G} {cy : Nat → ClassId} (b0 : Nat → Nat) {dv : DS} {x1 : Int32} {rr : Int32} (h : f_X0_faultOfPart dv x1 = some rr) : CI l D cy yX0_faultOfPart wsX0_faultOfPart { frames := 1, cells := 0, slots := 0, locals := 21 } [.ref (b0 0), .int x1] (wD cy b0 dv []) (rr) (wD cy b0 dv []) := by
  refine kofI (cc := cX0_faultOfPart) (maxL := 7) (ret := (some .int)) (by decide) rfl (Nat.le_of_ble_eq_true rfl) ?_
  intro p e s m below meth c A M ls hl hP hD hS
  exact w_X0_faultOfPart_0 M h hP hD hS hl
theorem eX0_faultOfPart : yX0_faultOfPart.cls ≠ "java/lang/invoke/MethodHandle" ∧ yX0_faultOfPart.cls ≠ "java/lang/invoke/VarHandle" ∧ (parseMethodDescriptor yX0_faultOfPart.desc).map (fun d => d.parameters.length) = some 1 := by decide +kernel
theorem iX0_guesses_X0 : ∀ w ∈ u_ws RX0 TX0 10, w ∈ wsX0_guesses := by decide +kernel
theorem mX0_guesses_1 : Cond.fieldLink RX0 38 "LentPiles$Pad" "asks" "I" ∈ wsX0_guesses := by decide +kernel
def I_X0_guesses (p : Program) (l : Launch) (e : Env) (s : State) (m : MethodId) (args : Array Value) (below : List Frame) (meth : Method) (c : Code) (A : Nat → Prop) (D : va_G) (cy : Nat → ClassId) (b0 : Nat → Nat) (dv : DS) (fu : Nat) (rr : Int32) : Prop := (∀ (x1 : Int32) (x2 : Int32) (H : Heap) (locs : List Loc) (ls : Array Slot), lpn (st_X0_guesses dv) fu (x1, x2) = some rr → va_P D vwCl (wD cy b0 dv []) H → va_D A (wD cy b0 dv []) → va_S A s.heap H locs → lv_has ls 3 [(0, .ref (b0 0)), (1, .int x1), (2, .int x2)] → W p l e { frames := 0, cells := 0, slots := 0, locals := 0 } s m args below meth c H locs 0 0 (MQ below (qI D (wD cy b0 dv []) (rr) A) args s 0 0 A) (F0 m 4 ls []))
set_option maxHeartbeats 4000000 in
set_option maxRecDepth 100000 in
theorem w_X0_guesses_4 {p : Program} {l : Launch} {e : Env} {s : State} {m : MethodId} {args : Array Value} {below : List Frame} {meth : Method} {c : Code} {A : Nat → Prop} {D : va_G} {cy : Nat → ClassId} {b0 : Nat → Nat} {dv : DS} {fu : Nat} {rr : Int32} (M : kM p s m args meth c cX0_guesses 3 (some .int) RX0 wsX0_guesses A D cy) (ih : I_X0_guesses p l e s m args below meth c A D cy b0 dv fu rr) {x1 : Int32} {x2 : Int32} {oo : (Int32 × Int32) ⊕ (Int32)} (h : f_X0_guesses_4 dv x1 x2 = some oo) (hm : lpo (st_X0_guesses dv) fu oo rr) {H : Heap} {locs : List Loc} {ls : Array Slot} (hP : va_P D vwCl (wD cy b0 dv []) H) (hD : va_D A (wD cy b0 dv [])) (hS : va_S A s.heap H locs) (hl : lv_has ls 3 [(0, .ref (b0 0)), (1, .int x1), (2, .int x2)]) : W p l e { frames := 0, cells := 0, slots := 0, locals := 0 } s m args below meth c H locs 0 0 (MQ below (qI D (wD cy b0 dv []) (rr) A) args s 0 0 A) (F0 m 4 ls []) := by
  obtain ⟨hx, hb, hr, hml, hown, hts, hlk, hA, hK⟩ := id M
  unfold f_X0_guesses_4 at h
  refine lv_iload_n hx hb dX0_guesses_4 rfl (lv_at hl 2 rfl) ?_
  refine lv_aload_n hx hb dX0_guesses_5 rfl (lv_at hl 0 rfl) ?_
  refine va_get (D := D) (ci := 0) (v := .int dv.2.2.2.2.2.2.2.2.1) (C := RX0) (T := TX0) (N := 10) hx hb hts iX0_guesses_X0 hown hK.1 hP 0 rfl rfl 8 (by decide) (hts _ mX0_guesses_1) (fun _ h9 => h9) rfl dX0_guesses_6 ?_
  refine lv_icmp_ge (tgt := 23) hx hb dX0_guesses_9 (by decide) (fun c_1 => ?_) (fun c_1 => ?_)
  · replace h := it_p c_1 h
    refine lv_iload_n hx hb dX0_guesses_23 rfl (lv_at hl 1 rfl) ?_
    cases h
    have hm : _ = rr := hm
    subst hm
    exact kretI hx hb hr hlk hP hS dX0_guesses_24
  · replace h := it_n c_1 h
    refine lv_iload_n hx hb dX0_guesses_12 rfl (lv_at hl 1 rfl) ?_
    refine lv_bipush (v := 6) hx hb dX0_guesses_13 (by decide) ?_
    refine lv_imul hx hb dX0_guesses_15 ?_
    refine lv_topi (fun x1_2 ex1_2 => ?_)
    replace h := nm_s h ex1_2
    refine lv_istore_n (lv' := [(1, .int x1_2), (0, .ref (b0 0)), (2, .int x2)]) hx hb dX0_guesses_16 rfl hl (by decide) rfl (fun ls hl => ?_)
    obtain ⟨x2_3, ex2_3⟩ : ∃ z : Int32, z = (x2 + (1 : Int32)) := ⟨_, rfl⟩
    replace h := nm_s h ex2_3
    refine lv_iinc (v := x2_3) (lv' := [(2, .int x2_3), (1, .int x1_2), (0, .ref (b0 0))]) hx hb dX0_guesses_17 hl (k := 2) rfl (by rw [ex2_3]; rfl) (by decide) rfl (fun ls hl => ?_)
    refine lv_goto (tgt := 4) hx hb dX0_guesses_20 (by decide) ?_
    cases h
    exact ih x1_2 x2_3 _ _ _ hm hP hD hS (lv_sub hl [2, 1, 0] rfl)
set_option maxHeartbeats 4000000 in
set_option maxRecDepth 100000 in
theorem w_X0_guesses_0 {p : Program} {l : Launch} {e : Env} {s : State} {m : MethodId} {args : Array Value} {below : List Frame} {meth : Method} {c : Code} {A : Nat → Prop} {D : va_G} {cy : Nat → ClassId} {b0 : Nat → Nat} {dv : DS} {fu : Nat} {rr : Int32} (M : kM p s m args meth c cX0_guesses 3 (some .int) RX0 wsX0_guesses A D cy) (ih : I_X0_guesses p l e s m args below meth c A D cy b0 dv fu rr)  {oo : (Int32 × Int32) ⊕ (Int32)} (h : f_X0_guesses_0 dv = some oo) (hm : lpo (st_X0_guesses dv) fu oo rr) {H : Heap} {locs : List Loc} {ls : Array Slot} (hP : va_P D vwCl (wD cy b0 dv []) H) (hD : va_D A (wD cy b0 dv [])) (hS : va_S A s.heap H locs) (hl : lv_has ls 3 [(0, .ref (b0 0))]) : W p l e { frames := 0, cells := 0, slots := 0, locals := 0 } s m args below meth c H locs 0 0 (MQ below (qI D (wD cy b0 dv []) (rr) A) args s 0 0 A) (F0 m 0 ls []) := by
  obtain ⟨hx, hb, hr, hml, hown, hts, hlk, hA, hK⟩ := id M
  unfold f_X0_guesses_0 at h
  refine lv_iconst (v := 1) hx hb dX0_guesses_0 (by decide) ?_
  refine lv_istore_n (lv' := [(1, .int (1 : Int32)), (0, .ref (b0 0))]) hx hb dX0_guesses_1 rfl hl (by decide) rfl (fun ls hl => ?_)
  refine lv_iconst (v := 0) hx hb dX0_guesses_2 (by decide) ?_
  refine lv_istore_n (lv' := [(2, .int (0 : Int32)), (1, .int (1 : Int32)), (0, .ref (b0 0))]) hx hb dX0_guesses_3 rfl hl (by decide) rfl (fun ls hl => ?_)
  cases h
  exact ih (1 : Int32) (0 : Int32) _ _ _ hm hP hD hS (lv_sub hl [2, 1, 0] rfl)
theorem wl_X0_guesses {p : Program} {l : Launch} {e : Env} {s : State} {m : MethodId} {args : Array Value} {below : List Frame} {meth : Method} {c : Code} {A : Nat → Prop} {D : va_G} {cy : Nat → ClassId} {b0 : Nat → Nat} {dv : DS} {rr : Int32} (M : kM p s m args meth c cX0_guesses 3 (some .int) RX0 wsX0_guesses A D cy) : ∀ fu : Nat, I_X0_guesses p l e s m args below meth c A D cy b0 dv fu rr := by
  intro fu
  induction fu with
  | zero => exact (fun _ _ _ _ _ h => by cases h)
  | succ fu ih =>
    exact fun x1 x2 H locs ls h hP hD hS hl => by
      obtain ⟨o1, h1, h2⟩ := lpn_s h
      exact w_X0_guesses_4 M ih h1 h2 hP hD hS hl
theorem c_X0_guesses {l : Launch} {D : va_G} {cy : Nat → ClassId} (b0 : Nat → Nat) {dv : DS} {rr : Int32} (h : f_X0_guesses dv = some rr) : CI l D cy yX0_guesses wsX0_guesses { frames := 0, cells := 0, slots := 0, locals := 0 } [.ref (b0 0)] (wD cy b0 dv []) (rr) (wD cy b0 dv []) := by
  refine kofI (cc := cX0_guesses) (maxL := 3) (ret := (some .int)) (by decide) rfl (Nat.le_of_ble_eq_true rfl) ?_
  intro p e s m below meth c A M ls hl hP hD hS
  obtain ⟨o1, fu, h1, h2⟩ := rnx_s h
  exact w_X0_guesses_0 M (wl_X0_guesses M fu) h1 h2 hP hD hS hl
theorem eX0_guesses : yX0_guesses.cls ≠ "java/lang/invoke/MethodHandle" ∧ yX0_guesses.cls ≠ "java/lang/invoke/VarHandle" ∧ (parseMethodDescriptor yX0_guesses.desc).map (fun d => d.parameters.length) = some 0 := by decide +kernel
theorem iX0_manFor_X0 : ∀ w ∈ u_ws RX0 TX0 10, w ∈ wsX0_manFor := by decide +kernel
theorem mX0_manFor_1 : Cond.fieldLink RX0 38 "LentPiles$Pad" "asks" "I" ∈ wsX0_manFor := by decide +kernel
theorem mX0_manFor_2 : Cond.fieldLink RX0 28 "LentPiles$Pad" "guess" "[I" ∈ wsX0_manFor := by decide +kernel
set_option maxHeartbeats 4000000 in
set_option maxRecDepth 100000 in
theorem w_X0_manFor_0 {p : Program} {l : Launch} {e : Env} {s : State} {m : MethodId} {args : Array Value} {below : List Frame} {meth : Method} {c : Code} {A : Nat → Prop} {D : va_G} {cy : Nat → ClassId} {b0 : Nat → Nat} {dv : DS} {x1 : Int32} {rr : Int32} (M : kM p s m args meth c cX0_manFor 2 (some .int) RX0 wsX0_manFor A D cy)  (h : f_X0_manFor dv x1 = some rr) {H : Heap} {locs : List Loc} {ls : Array Slot} (hP : va_P D vwCl (wD cy b0 dv []) H) (hD : va_D A (wD cy b0 dv [])) (hS : va_S A s.heap H locs) (hl : lv_has ls 2 [(0, .ref (b0 0)), (1, .int x1)]) : W p l e { frames := 0, cells := 0, slots := 0, locals := 0 } s m args below meth c H locs 0 0 (MQ below (qI D (wD cy b0 dv []) (rr) A) args s 0 0 A) (F0 m 0 ls []) := by
  obtain ⟨hx, hb, hr, hml, hown, hts, hlk, hA, hK⟩ := id M
  unfold f_X0_manFor at h
  refine lv_iload_n hx hb dX0_manFor_0 rfl (lv_at hl 1 rfl) ?_
  refine lv_if_lt (tgt := 26) hx hb dX0_manFor_1 (by decide) (fun c_1 => ?_) (fun c_1 => ?_)
  · replace h := it_p c_1 h
    refine lv_bipush (v := (-6)) hx hb dX0_manFor_26 (by decide) ?_
    cases h
    exact kretI hx hb hr hlk hP hS dX0_manFor_28
  · replace h := it_n c_1 h
    refine lv_iload_n hx hb dX0_manFor_4 rfl (lv_at hl 1 rfl) ?_
    refine lv_aload_n hx hb dX0_manFor_5 rfl (lv_at hl 0 rfl) ?_
    refine va_get (D := D) (ci := 0) (v := .int dv.2.2.2.2.2.2.2.2.1) (C := RX0) (T := TX0) (N := 10) hx hb hts iX0_manFor_X0 hown hK.1 hP 0 rfl rfl 8 (by decide) (hts _ mX0_manFor_1) (fun _ h9 => h9) rfl dX0_manFor_6 ?_
    refine lv_icmp_ge (tgt := 26) hx hb dX0_manFor_9 (by decide) (fun c_2 => ?_) (fun c_2 => ?_)
    · replace h := it_p c_2 h
      refine lv_bipush (v := (-6)) hx hb dX0_manFor_26 (by decide) ?_
      cases h
      exact kretI hx hb hr hlk hP hS dX0_manFor_28
    · replace h := it_n c_2 h
      refine lv_iload_n hx hb dX0_manFor_12 rfl (lv_at hl 1 rfl) ?_
      refine lv_iconst (v := 3) hx hb dX0_manFor_13 (by decide) ?_
      refine lv_icmp_ge (tgt := 26) hx hb dX0_manFor_14 (by decide) (fun c_3 => ?_) (fun c_3 => ?_)
      · replace h := it_p c_3 h
        refine lv_bipush (v := (-6)) hx hb dX0_manFor_26 (by decide) ?_
        cases h
        exact kretI hx hb hr hlk hP hS dX0_manFor_28
      · replace h := it_n c_3 h
        refine lv_aload_n hx hb dX0_manFor_17 rfl (lv_at hl 0 rfl) ?_
        refine va_get (D := D) (ci := 0) (v := .ref (b0 6)) (C := RX0) (T := TX0) (N := 10) hx hb hts iX0_manFor_X0 hown hK.1 hP 0 rfl rfl 5 (by decide) (hts _ mX0_manFor_2) (fun _ h9 => h9) rfl dX0_manFor_18 ?_
        refine lv_iload_n hx hb dX0_manFor_21 rfl (lv_at hl 1 rfl) ?_
        obtain ⟨b_4, h⟩ := ck_s h
        refine va_iald hx hb hK.1 hP 6 1 rfl rfl b_4 dX0_manFor_22 ?_
        refine lv_goto (tgt := 28) hx hb dX0_manFor_23 (by decide) ?_
        cases h
        exact kretI hx hb hr hlk hP hS dX0_manFor_28
theorem c_X0_manFor {l : Launch} {D : va_G} {cy : Nat → ClassId} (b0 : Nat → Nat) {dv : DS} {x1 : Int32} {rr : Int32} (h : f_X0_manFor dv x1 = some rr) : CI l D cy yX0_manFor wsX0_manFor { frames := 0, cells := 0, slots := 0, locals := 0 } [.ref (b0 0), .int x1] (wD cy b0 dv []) (rr) (wD cy b0 dv []) := by
  refine kofI (cc := cX0_manFor) (maxL := 2) (ret := (some .int)) (by decide) rfl (Nat.le_of_ble_eq_true rfl) ?_
  intro p e s m below meth c A M ls hl hP hD hS
  exact w_X0_manFor_0 M h hP hD hS hl
theorem eX0_manFor : yX0_manFor.cls ≠ "java/lang/invoke/MethodHandle" ∧ yX0_manFor.cls ≠ "java/lang/invoke/VarHandle" ∧ (parseMethodDescriptor yX0_manFor.desc).map (fun d => d.parameters.length) = some 1 := by decide +kernel
theorem mX0_manOf_1 : Cond.initialized RX3 ∈ wsX0_manOf := by decide +kernel
theorem mX0_manOf_2 : Cond.static yX3_isMan ∈ wsX0_manOf := by decide +kernel
set_option maxHeartbeats 4000000 in
set_option maxRecDepth 100000 in
theorem w_X0_manOf_0 {p : Program} {l : Launch} {e : Env} {s : State} {m : MethodId} {args : Array Value} {below : List Frame} {meth : Method} {c : Code} {A : Nat → Prop} {D : va_G} {cy : Nat → ClassId} {b0 : Nat → Nat} {dv : DS} {x1 : Int32} {rr : Int32} (M : kM p s m args meth c cX0_manOf 2 (some .int) RX0 wsX0_manOf A D cy)  (h : f_X0_manOf dv x1 = some rr) {H : Heap} {locs : List Loc} {ls : Array Slot} (hP : va_P D vwCl (wD cy b0 dv []) H) (hD : va_D A (wD cy b0 dv [])) (hS : va_S A s.heap H locs) (hl : lv_has ls 2 [(0, .ref (b0 0)), (1, .int x1)]) : W p l e { frames := 1, cells := 0, slots := 0, locals := 21 } s m args below meth c H locs 0 0 (MQ below (qI D (wD cy b0 dv []) (rr) A) args s 0 0 A) (F0 m 0 ls []) := by
  obtain ⟨hx, hb, hr, hml, hown, hts, hlk, hA, hK⟩ := id M
  unfold f_X0_manOf at h
  refine lv_iload_n hx hb dX0_manOf_0 rfl (lv_at hl 1 rfl) ?_
  obtain ⟨r_1, hr_1, h⟩ := bn_s h
  refine kcNi (As := [.int x1]) (rest := []) ⟨hx, hb, hml, hown, hts⟩ ⟨va_cnB 1 hts gX0_manOf_X3_isMan_n72 rfl rfl rfl (kN_RX0_72 hK.2) (hts _ mX0_manOf_1) eX3_isMan ⟨Nat.le_of_ble_eq_true rfl, Nat.le_of_ble_eq_true rfl⟩, hts _ mX0_manOf_2, trivial⟩ (c_X3_isMan  hr_1) hK hP hS hA rfl hl.1 rfl (Nat.le_of_ble_eq_true rfl) dX0_manOf_1 (fun H locs hP hS => ?_)
  refine lv_if_eq (tgt := 11) hx hb dX0_manOf_4 (by decide) (fun c_2 => ?_) (fun c_2 => ?_)
  · replace h := it_p c_2 h
    refine lv_aload_n hx hb dX0_manOf_11 rfl (lv_at hl 0 rfl) ?_
    refine lv_iload_n hx hb dX0_manOf_12 rfl (lv_at hl 1 rfl) ?_
    refine lv_bipush (v := 6) hx hb dX0_manOf_13 (by decide) ?_
    refine lv_isub hx hb dX0_manOf_15 ?_
    obtain ⟨r_3, hr_3, h⟩ := bn_s h
    refine kcVi (As := [.int (x1 - (6 : Int32))]) (rest := []) (ws' := (wD cy b0 dv [])) ⟨hx, hb, hml, hown, hts⟩ (cwV 1 hts gX0_manOf_X0_manFor rfl rfl rfl ⟨rfl, eX0_manFor⟩ ⟨Nat.le_of_ble_eq_true rfl, Nat.le_of_ble_eq_true rfl⟩) (c_X0_manFor b0 hr_3) hK hP hD hS hA [0, 1, 2, 3, 4, 5, 6] [] (by decide) rfl rfl 0 rfl rfl [(b0 0), (b0 1), (b0 2), (b0 3), (b0 4), (b0 5), (b0 6)] rfl rfl rfl [] rfl rfl rfl rfl hl.1 rfl (Nat.le_of_ble_eq_true rfl) dX0_manOf_16 (fun H locs hP hD hS => ?_)
    cases h
    exact kretI hx hb hr hlk hP hS dX0_manOf_19
  · replace h := it_n c_2 h
    refine lv_iload_n hx hb dX0_manOf_7 rfl (lv_at hl 1 rfl) ?_
    refine lv_goto (tgt := 19) hx hb dX0_manOf_8 (by decide) ?_
    cases h
    exact kretI hx hb hr hlk hP hS dX0_manOf_19
theorem c_X0_manOf {l : Launch} {D : va_G} {cy : Nat → ClassId} (b0 : Nat → Nat) {dv : DS} {x1 : Int32} {rr : Int32} (h : f_X0_manOf dv x1 = some rr) : CI l D cy yX0_manOf wsX0_manOf { frames := 1, cells := 0, slots := 0, locals := 21 } [.ref (b0 0), .int x1] (wD cy b0 dv []) (rr) (wD cy b0 dv []) := by
  refine kofI (cc := cX0_manOf) (maxL := 2) (ret := (some .int)) (by decide) rfl (Nat.le_of_ble_eq_true rfl) ?_
  intro p e s m below meth c A M ls hl hP hD hS
  exact w_X0_manOf_0 M h hP hD hS hl
theorem eX0_manOf : yX0_manOf.cls ≠ "java/lang/invoke/MethodHandle" ∧ yX0_manOf.cls ≠ "java/lang/invoke/VarHandle" ∧ (parseMethodDescriptor yX0_manOf.desc).map (fun d => d.parameters.length) = some 1 := by decide +kernel
theorem iX0_lendsToHimself_X0 : ∀ w ∈ u_ws RX0 TX0 10, w ∈ wsX0_lendsToHimself := by decide +kernel
theorem mX0_lendsToHimself_1 : Cond.fieldLink RX0 35 "LentPiles$Pad" "parts" "I" ∈ wsX0_lendsToHimself := by decide +kernel
theorem mX0_lendsToHimself_2 : Cond.fieldLink RX0 15 "LentPiles$Pad" "kind" "[I" ∈ wsX0_lendsToHimself := by decide +kernel
theorem mX0_lendsToHimself_3 : Cond.fieldLink RX0 19 "LentPiles$Pad" "doer" "[I" ∈ wsX0_lendsToHimself := by decide +kernel
theorem mX0_lendsToHimself_4 : Cond.fieldLink RX0 22 "LentPiles$Pad" "borrower" "[I" ∈ wsX0_lendsToHimself := by decide +kernel
def I_X0_lendsToHimself (p : Program) (l : Launch) (e : Env) (s : State) (m : MethodId) (args : Array Value) (below : List Frame) (meth : Method) (c : Code) (A : Nat → Prop) (D : va_G) (cy : Nat → ClassId) (b0 : Nat → Nat) (dv : DS) (fu : Nat) (rr : Int32) : Prop := (∀ (x1 : Int32) (H : Heap) (locs : List Loc) (ls : Array Slot), lpn (st_X0_lendsToHimself dv) fu x1 = some rr → va_P D vwCl (wD cy b0 dv []) H → va_D A (wD cy b0 dv []) → va_S A s.heap H locs → lv_has ls 2 [(0, .ref (b0 0)), (1, .int x1)] → W p l e { frames := 2, cells := 0, slots := 0, locals := 42 } s m args below meth c H locs 0 0 (MQ below (qI D (wD cy b0 dv []) (rr) A) args s 0 0 A) (F0 m 2 ls []))
set_option maxHeartbeats 4000000 in
set_option maxRecDepth 100000 in
theorem w_X0_lendsToHimself_2 {p : Program} {l : Launch} {e : Env} {s : State} {m : MethodId} {args : Array Value} {below : List Frame} {meth : Method} {c : Code} {A : Nat → Prop} {D : va_G} {cy : Nat → ClassId} {b0 : Nat → Nat} {dv : DS} {fu : Nat} {rr : Int32} (M : kM p s m args meth c cX0_lendsToHimself 2 (some .boolean) RX0 wsX0_lendsToHimself A D cy) (ih : I_X0_lendsToHimself p l e s m args below meth c A D cy b0 dv fu rr) {x1 : Int32} {oo : (Int32) ⊕ (Int32)} (h : f_X0_lendsToHimself_2 dv x1 = some oo) (hm : lpo (st_X0_lendsToHimself dv) fu oo rr) {H : Heap} {locs : List Loc} {ls : Array Slot} (hP : va_P D vwCl (wD cy b0 dv []) H) (hD : va_D A (wD cy b0 dv [])) (hS : va_S A s.heap H locs) (hl : lv_has ls 2 [(0, .ref (b0 0)), (1, .int x1)]) : W p l e { frames := 2, cells := 0, slots := 0, locals := 42 } s m args below meth c H locs 0 0 (MQ below (qI D (wD cy b0 dv []) (rr) A) args s 0 0 A) (F0 m 2 ls []) := by
  obtain ⟨hx, hb, hr, hml, hown, hts, hlk, hA, hK⟩ := id M
  unfold f_X0_lendsToHimself_2 at h
  refine lv_iload_n hx hb dX0_lendsToHimself_2 rfl (lv_at hl 1 rfl) ?_
  refine lv_aload_n hx hb dX0_lendsToHimself_3 rfl (lv_at hl 0 rfl) ?_
  refine va_get (D := D) (ci := 0) (v := .int dv.2.2.2.2.2.2.2.1) (C := RX0) (T := TX0) (N := 10) hx hb hts iX0_lendsToHimself_X0 hown hK.1 hP 0 rfl rfl 7 (by decide) (hts _ mX0_lendsToHimself_1) (fun _ h9 => h9) rfl dX0_lendsToHimself_4 ?_
  refine lv_icmp_ge (tgt := 52) hx hb dX0_lendsToHimself_7 (by decide) (fun c_1 => ?_) (fun c_1 => ?_)
  · replace h := it_p c_1 h
    refine lv_iconst (v := 0) hx hb dX0_lendsToHimself_52 (by decide) ?_
    cases h
    have hm : _ = rr := hm
    subst hm
    exact kretZ (r0 := (0 : Int32)) (ty := .boolean) hx hb hr hlk hP hS (by decide) dX0_lendsToHimself_53
  · replace h := it_n c_1 h
    refine lv_iload_n hx hb dX0_lendsToHimself_10 rfl (lv_at hl 1 rfl) ?_
    refine lv_bipush (v := 60) hx hb dX0_lendsToHimself_11 (by decide) ?_
    refine lv_icmp_ge (tgt := 52) hx hb dX0_lendsToHimself_13 (by decide) (fun c_2 => ?_) (fun c_2 => ?_)
    · replace h := it_p c_2 h
      refine lv_iconst (v := 0) hx hb dX0_lendsToHimself_52 (by decide) ?_
      cases h
      have hm : _ = rr := hm
      subst hm
      exact kretZ (r0 := (0 : Int32)) (ty := .boolean) hx hb hr hlk hP hS (by decide) dX0_lendsToHimself_53
    · replace h := it_n c_2 h
      refine lv_aload_n hx hb dX0_lendsToHimself_16 rfl (lv_at hl 0 rfl) ?_
      refine va_get (D := D) (ci := 0) (v := .ref (b0 2)) (C := RX0) (T := TX0) (N := 10) hx hb hts iX0_lendsToHimself_X0 hown hK.1 hP 0 rfl rfl 1 (by decide) (hts _ mX0_lendsToHimself_2) (fun _ h9 => h9) rfl dX0_lendsToHimself_17 ?_
      refine lv_iload_n hx hb dX0_lendsToHimself_20 rfl (lv_at hl 1 rfl) ?_
      obtain ⟨b_3, h⟩ := ck_s h
      refine va_iald hx hb hK.1 hP 2 1 rfl rfl b_3 dX0_lendsToHimself_21 ?_
      refine lv_if_ne (tgt := 46) hx hb dX0_lendsToHimself_22 (by decide) (fun c_4 => ?_) (fun c_4 => ?_)
      · replace h := it_n c_4 h
        obtain ⟨x1_5, ex1_5⟩ : ∃ z : Int32, z = (x1 + (1 : Int32)) := ⟨_, rfl⟩
        replace h := nm_s h ex1_5
        refine lv_iinc (v := x1_5) (lv' := [(1, .int x1_5), (0, .ref (b0 0))]) hx hb dX0_lendsToHimself_46 hl (k := 1) rfl (by rw [ex1_5]; rfl) (by decide) rfl (fun ls hl => ?_)
        refine lv_goto (tgt := 2) hx hb dX0_lendsToHimself_49 (by decide) ?_
        cases h
        exact ih x1_5 _ _ _ hm hP hD hS (lv_sub hl [1, 0] rfl)
      · replace h := it_p c_4 h
        refine lv_aload_n hx hb dX0_lendsToHimself_25 rfl (lv_at hl 0 rfl) ?_
        refine lv_aload_n hx hb dX0_lendsToHimself_26 rfl (lv_at hl 0 rfl) ?_
        refine va_get (D := D) (ci := 0) (v := .ref (b0 3)) (C := RX0) (T := TX0) (N := 10) hx hb hts iX0_lendsToHimself_X0 hown hK.1 hP 0 rfl rfl 2 (by decide) (hts _ mX0_lendsToHimself_3) (fun _ h9 => h9) rfl dX0_lendsToHimself_27 ?_
        refine lv_iload_n hx hb dX0_lendsToHimself_30 rfl (lv_at hl 1 rfl) ?_
        refine va_iald hx hb hK.1 hP 3 1 rfl rfl b_3 dX0_lendsToHimself_31 ?_
        obtain ⟨r_6, hr_6, h⟩ := bn_s h
        refine kcVi (As := [.int (dv.2.2.1 x1.toNatClampNeg)]) (rest := []) (ws' := (wD cy b0 dv [])) ⟨hx, hb, hml, hown, hts⟩ (cwV 1 hts gX0_lendsToHimself_X0_manOf rfl rfl rfl ⟨rfl, eX0_manOf⟩ ⟨Nat.le_of_ble_eq_true rfl, Nat.le_of_ble_eq_true rfl⟩) (c_X0_manOf b0 hr_6) hK hP hD hS hA [0, 1, 2, 3, 4, 5, 6] [] (by decide) rfl rfl 0 rfl rfl [(b0 0), (b0 1), (b0 2), (b0 3), (b0 4), (b0 5), (b0 6)] rfl rfl rfl [] rfl rfl rfl rfl hl.1 rfl (Nat.le_of_ble_eq_true rfl) dX0_lendsToHimself_32 (fun H locs hP hD hS => ?_)
        refine lv_aload_n hx hb dX0_lendsToHimself_35 rfl (lv_at hl 0 rfl) ?_
        refine va_get (D := D) (ci := 0) (v := .ref (b0 4)) (C := RX0) (T := TX0) (N := 10) hx hb hts iX0_lendsToHimself_X0 hown hK.1 hP 0 rfl rfl 3 (by decide) (hts _ mX0_lendsToHimself_4) (fun _ h9 => h9) rfl dX0_lendsToHimself_36 ?_
        refine lv_iload_n hx hb dX0_lendsToHimself_39 rfl (lv_at hl 1 rfl) ?_
        refine va_iald hx hb hK.1 hP 4 1 rfl rfl b_3 dX0_lendsToHimself_40 ?_
        refine lv_icmp_ne (tgt := 46) hx hb dX0_lendsToHimself_41 (by decide) (fun c_7 => ?_) (fun c_7 => ?_)
        · replace h := it_n c_7 h
          obtain ⟨x1_8, ex1_8⟩ : ∃ z : Int32, z = (x1 + (1 : Int32)) := ⟨_, rfl⟩
          replace h := nm_s h ex1_8
          refine lv_iinc (v := x1_8) (lv' := [(1, .int x1_8), (0, .ref (b0 0))]) hx hb dX0_lendsToHimself_46 hl (k := 1) rfl (by rw [ex1_8]; rfl) (by decide) rfl (fun ls hl => ?_)
          refine lv_goto (tgt := 2) hx hb dX0_lendsToHimself_49 (by decide) ?_
          cases h
          exact ih x1_8 _ _ _ hm hP hD hS (lv_sub hl [1, 0] rfl)
        · replace h := it_p c_7 h
          refine lv_iconst (v := 1) hx hb dX0_lendsToHimself_44 (by decide) ?_
          cases h
          have hm : _ = rr := hm
          subst hm
          exact kretZ (r0 := (1 : Int32)) (ty := .boolean) hx hb hr hlk hP hS (by decide) dX0_lendsToHimself_45
set_option maxHeartbeats 4000000 in
set_option maxRecDepth 100000 in
theorem w_X0_lendsToHimself_0 {p : Program} {l : Launch} {e : Env} {s : State} {m : MethodId} {args : Array Value} {below : List Frame} {meth : Method} {c : Code} {A : Nat → Prop} {D : va_G} {cy : Nat → ClassId} {b0 : Nat → Nat} {dv : DS} {fu : Nat} {rr : Int32} (M : kM p s m args meth c cX0_lendsToHimself 2 (some .boolean) RX0 wsX0_lendsToHimself A D cy) (ih : I_X0_lendsToHimself p l e s m args below meth c A D cy b0 dv fu rr)  {oo : (Int32) ⊕ (Int32)} (h : f_X0_lendsToHimself_0 dv = some oo) (hm : lpo (st_X0_lendsToHimself dv) fu oo rr) {H : Heap} {locs : List Loc} {ls : Array Slot} (hP : va_P D vwCl (wD cy b0 dv []) H) (hD : va_D A (wD cy b0 dv [])) (hS : va_S A s.heap H locs) (hl : lv_has ls 2 [(0, .ref (b0 0))]) : W p l e { frames := 2, cells := 0, slots := 0, locals := 42 } s m args below meth c H locs 0 0 (MQ below (qI D (wD cy b0 dv []) (rr) A) args s 0 0 A) (F0 m 0 ls []) := by
  obtain ⟨hx, hb, hr, hml, hown, hts, hlk, hA, hK⟩ := id M
  unfold f_X0_lendsToHimself_0 at h
  refine lv_iconst (v := 0) hx hb dX0_lendsToHimself_0 (by decide) ?_
  refine lv_istore_n (lv' := [(1, .int (0 : Int32)), (0, .ref (b0 0))]) hx hb dX0_lendsToHimself_1 rfl hl (by decide) rfl (fun ls hl => ?_)
  cases h
  exact ih (0 : Int32) _ _ _ hm hP hD hS (lv_sub hl [1, 0] rfl)
theorem wl_X0_lendsToHimself {p : Program} {l : Launch} {e : Env} {s : State} {m : MethodId} {args : Array Value} {below : List Frame} {meth : Method} {c : Code} {A : Nat → Prop} {D : va_G} {cy : Nat → ClassId} {b0 : Nat → Nat} {dv : DS} {rr : Int32} (M : kM p s m args meth c cX0_lendsToHimself 2 (some .boolean) RX0 wsX0_lendsToHimself A D cy) : ∀ fu : Nat, I_X0_lendsToHimself p l e s m args below meth c A D cy b0 dv fu rr := by
  intro fu
  induction fu with
  | zero => exact (fun _ _ _ _ h => by cases h)
  | succ fu ih =>
    exact fun x1 H locs ls h hP hD hS hl => by
      obtain ⟨o1, h1, h2⟩ := lpn_s h
      exact w_X0_lendsToHimself_2 M ih h1 h2 hP hD hS hl
theorem c_X0_lendsToHimself {l : Launch} {D : va_G} {cy : Nat → ClassId} (b0 : Nat → Nat) {dv : DS} {rr : Int32} (h : f_X0_lendsToHimself dv = some rr) : CI l D cy yX0_lendsToHimself wsX0_lendsToHimself { frames := 2, cells := 0, slots := 0, locals := 42 } [.ref (b0 0)] (wD cy b0 dv []) (rr) (wD cy b0 dv []) := by
  refine kofI (cc := cX0_lendsToHimself) (maxL := 2) (ret := (some .boolean)) (by decide) rfl (Nat.le_of_ble_eq_true rfl) ?_
  intro p e s m below meth c A M ls hl hP hD hS
  obtain ⟨o1, fu, h1, h2⟩ := rnx_s h
  exact w_X0_lendsToHimself_0 M (wl_X0_lendsToHimself M fu) h1 h2 hP hD hS hl
theorem eX0_lendsToHimself : yX0_lendsToHimself.cls ≠ "java/lang/invoke/MethodHandle" ∧ yX0_lendsToHimself.cls ≠ "java/lang/invoke/VarHandle" ∧ (parseMethodDescriptor yX0_lendsToHimself.desc).map (fun d => d.parameters.length) = some 0 := by decide +kernel
theorem iX0_performPart_X0 : ∀ w ∈ u_ws RX0 TX0 10, w ∈ wsX0_performPart := by decide +kernel
theorem mX0_performPart_1 : Cond.fieldLink RX0 15 "LentPiles$Pad" "kind" "[I" ∈ wsX0_performPart := by decide +kernel
theorem mX0_performPart_2 : Cond.fieldLink RX0 19 "LentPiles$Pad" "doer" "[I" ∈ wsX0_performPart := by decide +kernel
theorem mX0_performPart_3 : Cond.fieldLink RX0 22 "LentPiles$Pad" "borrower" "[I" ∈ wsX0_performPart := by decide +kernel
theorem mX0_performPart_4 : Cond.fieldLink RX0 25 "LentPiles$Pad" "pence" "[I" ∈ wsX0_performPart := by decide +kernel
set_option maxHeartbeats 4000000 in
set_option maxRecDepth 100000 in
theorem w_X0_performPart_0 {p : Program} {l : Launch} {e : Env} {s : State} {m : MethodId} {args : Array Value} {below : List Frame} {meth : Method} {c : Code} {A : Nat → Prop} {D : va_G} {cy : Nat → ClassId} {b0 : Nat → Nat} {b1 : Nat → Nat} {dv : DS} {x2 : Int32} {rr : Int32 × VS} (M : kM p s m args meth c cX0_performPart 4 (some .int) RX0 wsX0_performPart A D cy) {vv : VS} (h : f_X0_performPart dv vv x2 = some rr) {H : Heap} {locs : List Loc} {ls : Array Slot} (hP : va_P D vwCl (wD cy b0 dv (wV cy b1 vv [])) H) (hD : va_D A (wD cy b0 dv (wV cy b1 vv []))) (hS : va_S A s.heap H locs) (hl : lv_has ls 4 [(0, .ref (b0 0)), (1, .ref (b1 0)), (2, .int x2)]) : W p l e { frames := 4, cells := 0, slots := 0, locals := 94 } s m args below meth c H locs 0 0 (MQ below (qI D (wD cy b0 dv (wV cy b1 rr.2 [])) (rr.1) A) args s 0 0 A) (F0 m 0 ls []) := by
  obtain ⟨hx, hb, hr, hml, hown, hts, hlk, hA, hK⟩ := id M
  unfold f_X0_performPart at h
  refine lv_iload_n hx hb dX0_performPart_0 rfl (lv_at hl 2 rfl) ?_
  refine lv_if_lt (tgt := 10) hx hb dX0_performPart_1 (by decide) (fun c_1 => ?_) (fun c_1 => ?_)
  · replace h := it_p c_1 h
    refine lv_iconst (v := 0) hx hb dX0_performPart_10 (by decide) ?_
    cases h
    exact kretI hx hb hr hlk hP hS dX0_performPart_11
  · replace h := it_n c_1 h
    refine lv_iload_n hx hb dX0_performPart_4 rfl (lv_at hl 2 rfl) ?_
    refine lv_bipush (v := 60) hx hb dX0_performPart_5 (by decide) ?_
    refine lv_icmp_lt (tgt := 12) hx hb dX0_performPart_7 (by decide) (fun c_2 => ?_) (fun c_2 => ?_)
    · replace h := it_p c_2 h
      refine lv_aload_n hx hb dX0_performPart_12 rfl (lv_at hl 0 rfl) ?_
      refine va_get (D := D) (ci := 0) (v := .ref (b0 2)) (C := RX0) (T := TX0) (N := 10) hx hb hts iX0_performPart_X0 hown hK.1 hP 0 rfl rfl 1 (by decide) (hts _ mX0_performPart_1) (fun _ h9 => h9) rfl dX0_performPart_13 ?_
      refine lv_iload_n hx hb dX0_performPart_16 rfl (lv_at hl 2 rfl) ?_
      obtain ⟨b_3, h⟩ := ck_s h
      refine va_iald hx hb hK.1 hP 2 1 rfl rfl b_3 dX0_performPart_17 ?_
      refine lv_iconst (v := 2) hx hb dX0_performPart_18 (by decide) ?_
      refine lv_icmp_ne (tgt := 28) hx hb dX0_performPart_19 (by decide) (fun c_4 => ?_) (fun c_4 => ?_)
      · replace h := it_n c_4 h
        refine lv_aload_n hx hb dX0_performPart_28 rfl (lv_at hl 0 rfl) ?_
        refine lv_aload_n hx hb dX0_performPart_29 rfl (lv_at hl 0 rfl) ?_
        refine va_get (D := D) (ci := 0) (v := .ref (b0 3)) (C := RX0) (T := TX0) (N := 10) hx hb hts iX0_performPart_X0 hown hK.1 hP 0 rfl rfl 2 (by decide) (hts _ mX0_performPart_2) (fun _ h9 => h9) rfl dX0_performPart_30 ?_
        refine lv_iload_n hx hb dX0_performPart_33 rfl (lv_at hl 2 rfl) ?_
        refine va_iald hx hb hK.1 hP 3 1 rfl rfl b_3 dX0_performPart_34 ?_
        obtain ⟨r_5, hr_5, h⟩ := bn_s h
        refine kcVi (As := [.int (dv.2.2.1 x2.toNatClampNeg)]) (rest := []) (ws' := (wD cy b0 dv (wV cy b1 vv []))) ⟨hx, hb, hml, hown, hts⟩ (cwV 1 hts gX0_performPart_X0_manOf rfl rfl rfl ⟨rfl, eX0_manOf⟩ ⟨Nat.le_of_ble_eq_true rfl, Nat.le_of_ble_eq_true rfl⟩) (c_X0_manOf b0 hr_5) hK hP hD hS hA [0, 1, 2, 3, 4, 5, 6] [7, 8, 9, 10, 11, 12, 13, 14] (by decide) rfl rfl 0 rfl rfl [(b0 0), (b0 1), (b0 2), (b0 3), (b0 4), (b0 5), (b0 6), (b1 0), (b1 1), (b1 2), (b1 3), (b1 4), (b1 5), (b1 6), (b1 7)] rfl rfl rfl (wV cy b1 vv []) rfl rfl rfl rfl hl.1 rfl (Nat.le_of_ble_eq_true rfl) dX0_performPart_35 (fun H locs hP hD hS => ?_)
        refine lv_istore_n (lv' := [(3, .int r_5), (0, .ref (b0 0)), (1, .ref (b1 0)), (2, .int x2)]) hx hb dX0_performPart_38 rfl hl (by decide) rfl (fun ls hl => ?_)
        refine lv_aload_n hx hb dX0_performPart_39 rfl (lv_at hl 1 rfl) ?_
        refine va_get (D := D) (ci := 0) (v := .ref (b0 2)) (C := RX0) (T := TX0) (N := 10) hx hb hts iX0_performPart_X0 hown hK.1 hP 0 rfl rfl 1 (by decide) (hts _ mX0_performPart_1) (fun _ h9 => h9) rfl dX0_performPart_40 ?_
        refine lv_iload_n hx hb dX0_performPart_43 rfl (lv_at hl 3 rfl) ?_
        refine va_iald hx hb hK.1 hP 2 1 rfl rfl b_3 dX0_performPart_44 ?_
        refine lv_iconst (v := 1) hx hb dX0_performPart_45 (by decide) ?_
        refine lv_icmp_ne (tgt := 55) hx hb dX0_performPart_46 (by decide) (fun c_6 => ?_) (fun c_6 => ?_)
        · replace h := it_n c_6 h
          refine lv_aload_n hx hb dX0_performPart_55 rfl (lv_at hl 2 rfl) ?_
          refine lv_iload_n hx hb dX0_performPart_56 rfl (lv_at hl 0 rfl) ?_
          refine lv_aload_n hx hb dX0_performPart_57 rfl (lv_at hl 1 rfl) ?_
          refine va_get (D := D) (ci := 0) (v := .ref (b0 4)) (C := RX0) (T := TX0) (N := 10) hx hb hts iX0_performPart_X0 hown hK.1 hP 0 rfl rfl 3 (by decide) (hts _ mX0_performPart_3) (fun _ h9 => h9) rfl dX0_performPart_58 ?_
          refine lv_iload_n hx hb dX0_performPart_61 rfl (lv_at hl 3 rfl) ?_
          refine va_iald hx hb hK.1 hP 4 1 rfl rfl b_3 dX0_performPart_62 ?_
          refine lv_aload_n hx hb dX0_performPart_63 rfl (lv_at hl 1 rfl) ?_
          refine va_get (D := D) (ci := 0) (v := .ref (b0 5)) (C := RX0) (T := TX0) (N := 10) hx hb hts iX0_performPart_X0 hown hK.1 hP 0 rfl rfl 4 (by decide) (hts _ mX0_performPart_4) (fun _ h9 => h9) rfl dX0_performPart_64 ?_
          refine lv_iload_n hx hb dX0_performPart_67 rfl (lv_at hl 3 rfl) ?_
          refine va_iald hx hb hK.1 hP 5 1 rfl rfl b_3 dX0_performPart_68 ?_
          obtain ⟨r_7, hr_7, h⟩ := bn_s h
          refine kcVi (As := [.int r_5, .int (dv.2.2.2.1 x2.toNatClampNeg), .int (dv.2.2.2.2.1 x2.toNatClampNeg)]) (rest := []) (ws' := (wD cy b0 dv (wV cy b1 r_7.2 []))) ⟨hx, hb, hml, hown, hts⟩ (cwV 3 hts gX0_performPart_X2_lend rfl rfl rfl ⟨rfl, eX2_lend⟩ ⟨Nat.le_of_ble_eq_true rfl, Nat.le_of_ble_eq_true rfl⟩) (c_X2_lend b1 hr_7) hK hP hD hS hA [7, 8, 9, 10, 11, 12, 13, 14] [0, 1, 2, 3, 4, 5, 6] (by decide) rfl rfl 2 rfl rfl [(b0 0), (b0 1), (b0 2), (b0 3), (b0 4), (b0 5), (b0 6), (b1 0), (b1 1), (b1 2), (b1 3), (b1 4), (b1 5), (b1 6), (b1 7)] rfl rfl rfl (wD cy b0 dv []) rfl rfl rfl rfl hl.1 rfl (Nat.le_of_ble_eq_true rfl) dX0_performPart_69 (fun H locs hP hD hS => ?_)
          cases h
          exact kretI hx hb hr hlk hP hS dX0_performPart_72
        · replace h := it_p c_6 h
          refine lv_aload_n hx hb dX0_performPart_49 rfl (lv_at hl 2 rfl) ?_
          refine lv_iload_n hx hb dX0_performPart_50 rfl (lv_at hl 0 rfl) ?_
          obtain ⟨r_8, hr_8, h⟩ := bn_s h
          refine kcVi (As := [.int r_5]) (rest := []) (ws' := (wD cy b0 dv (wV cy b1 r_8.2 []))) ⟨hx, hb, hml, hown, hts⟩ (cwV 1 hts gX0_performPart_X2_repay rfl rfl rfl ⟨rfl, eX2_repay⟩ ⟨Nat.le_of_ble_eq_true rfl, Nat.le_of_ble_eq_true rfl⟩) (c_X2_repay b1 hr_8) hK hP hD hS hA [7, 8, 9, 10, 11, 12, 13, 14] [0, 1, 2, 3, 4, 5, 6] (by decide) rfl rfl 2 rfl rfl [(b0 0), (b0 1), (b0 2), (b0 3), (b0 4), (b0 5), (b0 6), (b1 0), (b1 1), (b1 2), (b1 3), (b1 4), (b1 5), (b1 6), (b1 7)] rfl rfl rfl (wD cy b0 dv []) rfl rfl rfl rfl hl.1 rfl (Nat.le_of_ble_eq_true rfl) dX0_performPart_51 (fun H locs hP hD hS => ?_)
          cases h
          exact kretI hx hb hr hlk hP hS dX0_performPart_54
      · replace h := it_p c_4 h
        refine lv_aload_n hx hb dX0_performPart_22 rfl (lv_at hl 1 rfl) ?_
        obtain ⟨r_9, hr_9, h⟩ := bn_s h
        refine kcVv (As := []) (rest := []) (ws' := (wD cy b0 dv (wV cy b1 r_9 []))) ⟨hx, hb, hml, hown, hts⟩ (cwV 0 hts gX0_performPart_X2_passDay rfl rfl rfl ⟨rfl, eX2_passDay⟩ ⟨Nat.le_of_ble_eq_true rfl, Nat.le_of_ble_eq_true rfl⟩) (c_X2_passDay b1 hr_9) hK hP hD hS hA [7, 8, 9, 10, 11, 12, 13, 14] [0, 1, 2, 3, 4, 5, 6] (by decide) rfl rfl 2 rfl rfl [(b0 0), (b0 1), (b0 2), (b0 3), (b0 4), (b0 5), (b0 6), (b1 0), (b1 1), (b1 2), (b1 3), (b1 4), (b1 5), (b1 6), (b1 7)] rfl rfl rfl (wD cy b0 dv []) rfl rfl rfl rfl hl.1 rfl (Nat.le_of_ble_eq_true rfl) dX0_performPart_23 (fun H locs hP hD hS => ?_)
        refine lv_iconst (v := 0) hx hb dX0_performPart_26 (by decide) ?_
        cases h
        exact kretI hx hb hr hlk hP hS dX0_performPart_27
    · replace h := it_n c_2 h
      refine lv_iconst (v := 0) hx hb dX0_performPart_10 (by decide) ?_
      cases h
      exact kretI hx hb hr hlk hP hS dX0_performPart_11
theorem c_X0_performPart {l : Launch} {D : va_G} {cy : Nat → ClassId} (b0 : Nat → Nat) (b1 : Nat → Nat) {dv : DS} {vv : VS} {x2 : Int32} {rr : Int32 × VS} (h : f_X0_performPart dv vv x2 = some rr) : CI l D cy yX0_performPart wsX0_performPart { frames := 4, cells := 0, slots := 0, locals := 94 } [.ref (b0 0), .ref (b1 0), .int x2] (wD cy b0 dv (wV cy b1 vv [])) (rr.1) (wD cy b0 dv (wV cy b1 rr.2 [])) := by
  refine kofI (cc := cX0_performPart) (maxL := 4) (ret := (some .int)) (by decide) rfl (Nat.le_of_ble_eq_true rfl) ?_
  intro p e s m below meth c A M ls hl hP hD hS
  exact w_X0_performPart_0 M h hP hD hS hl
theorem eX0_performPart : yX0_performPart.cls ≠ "java/lang/invoke/MethodHandle" ∧ yX0_performPart.cls ≠ "java/lang/invoke/VarHandle" ∧ (parseMethodDescriptor yX0_performPart.desc).map (fun d => d.parameters.length) = some 2 := by decide +kernel
theorem iX0_perform_X0 : ∀ w ∈ u_ws RX0 TX0 10, w ∈ wsX0_perform := by decide +kernel
theorem mX0_perform_1 : Cond.fieldLink RX0 35 "LentPiles$Pad" "parts" "I" ∈ wsX0_perform := by decide +kernel
theorem mX0_perform_2 : Cond.fieldLink RX0 41 "LentPiles$Pad" "why" "I" ∈ wsX0_perform := by decide +kernel
def I_X0_perform (p : Program) (l : Launch) (e : Env) (s : State) (m : MethodId) (args : Array Value) (below : List Frame) (meth : Method) (c : Code) (A : Nat → Prop) (D : va_G) (cy : Nat → ClassId) (b0 : Nat → Nat) (b1 : Nat → Nat) (b2 : Nat → Nat) (v1 : VS) (fu : Nat) (rr : Int32 × DS × VS) : Prop := (∀ (dv : DS) (v2 : VS) (x3 : Int32) (H : Heap) (locs : List Loc) (ls : Array Slot), lpn (st_X0_perform v1) fu (dv, v2, x3) = some rr → va_P D vwCl (wD cy b0 dv (wV cy b1 v1 (wV cy b2 v2 []))) H → va_D A (wD cy b0 dv (wV cy b1 v1 (wV cy b2 v2 []))) → va_S A s.heap H locs → lv_has ls 4 [(0, .ref (b0 0)), (1, .ref (b1 0)), (2, .ref (b2 0)), (3, .int x3)] → W p l e { frames := 5, cells := 0, slots := 0, locals := 117 } s m args below meth c H locs 0 0 (MQ below (qI D (wD cy b0 rr.2.1 (wV cy b1 v1 (wV cy b2 rr.2.2 []))) (rr.1) A) args s 0 0 A) (F0 m 7 ls []))
set_option maxHeartbeats 4000000 in
set_option maxRecDepth 100000 in
theorem w_X0_perform_7 {p : Program} {l : Launch} {e : Env} {s : State} {m : MethodId} {args : Array Value} {below : List Frame} {meth : Method} {c : Code} {A : Nat → Prop} {D : va_G} {cy : Nat → ClassId} {b0 : Nat → Nat} {b1 : Nat → Nat} {b2 : Nat → Nat} {v1 : VS} {fu : Nat} {rr : Int32 × DS × VS} (M : kM p s m args meth c cX0_perform 4 (some .int) RX0 wsX0_perform A D cy) (ih : I_X0_perform p l e s m args below meth c A D cy b0 b1 b2 v1 fu rr) {dv : DS} {v2 : VS} {x3 : Int32} {oo : (DS × VS × Int32) ⊕ (Int32 × DS × VS)} (h : f_X0_perform_7 v1 dv v2 x3 = some oo) (hm : lpo (st_X0_perform v1) fu oo rr) {H : Heap} {locs : List Loc} {ls : Array Slot} (hP : va_P D vwCl (wD cy b0 dv (wV cy b1 v1 (wV cy b2 v2 []))) H) (hD : va_D A (wD cy b0 dv (wV cy b1 v1 (wV cy b2 v2 [])))) (hS : va_S A s.heap H locs) (hl : lv_has ls 4 [(0, .ref (b0 0)), (1, .ref (b1 0)), (2, .ref (b2 0)), (3, .int x3)]) : W p l e { frames := 5, cells := 0, slots := 0, locals := 117 } s m args below meth c H locs 0 0 (MQ below (qI D (wD cy b0 rr.2.1 (wV cy b1 v1 (wV cy b2 rr.2.2 []))) (rr.1) A) args s 0 0 A) (F0 m 7 ls []) := by
  obtain ⟨hx, hb, hr, hml, hown, hts, hlk, hA, hK⟩ := id M
  unfold f_X0_perform_7 at h
  refine lv_iload_n hx hb dX0_perform_7 rfl (lv_at hl 3 rfl) ?_
  refine lv_aload_n hx hb dX0_perform_8 rfl (lv_at hl 0 rfl) ?_
  refine va_get (D := D) (ci := 0) (v := .int dv.2.2.2.2.2.2.2.1) (C := RX0) (T := TX0) (N := 10) hx hb hts iX0_perform_X0 hown hK.1 hP 0 rfl rfl 7 (by decide) (hts _ mX0_perform_1) (fun _ h9 => h9) rfl dX0_perform_9 ?_
  refine lv_icmp_ge (tgt := 46) hx hb dX0_perform_12 (by decide) (fun c_1 => ?_) (fun c_1 => ?_)
  · replace h := it_p c_1 h
    refine lv_bipush (v := (-6)) hx hb dX0_perform_46 (by decide) ?_
    cases h
    have hm : _ = rr := hm
    subst hm
    exact kretI hx hb hr hlk hP hS dX0_perform_48
  · replace h := it_n c_1 h
    refine lv_iload_n hx hb dX0_perform_15 rfl (lv_at hl 3 rfl) ?_
    refine lv_bipush (v := 60) hx hb dX0_perform_16 (by decide) ?_
    refine lv_icmp_ge (tgt := 46) hx hb dX0_perform_18 (by decide) (fun c_2 => ?_) (fun c_2 => ?_)
    · replace h := it_p c_2 h
      refine lv_bipush (v := (-6)) hx hb dX0_perform_46 (by decide) ?_
      cases h
      have hm : _ = rr := hm
      subst hm
      exact kretI hx hb hr hlk hP hS dX0_perform_48
    · replace h := it_n c_2 h
      refine lv_aload_n hx hb dX0_perform_21 rfl (lv_at hl 0 rfl) ?_
      refine lv_aload_n hx hb dX0_perform_22 rfl (lv_at hl 0 rfl) ?_
      refine lv_aload_n hx hb dX0_perform_23 rfl (lv_at hl 2 rfl) ?_
      refine lv_iload_n hx hb dX0_perform_24 rfl (lv_at hl 3 rfl) ?_
      obtain ⟨r_3, hr_3, h⟩ := bn_s h
      refine kcVi (As := [.ref (b2 0), .int x3]) (rest := [.ref (b0 0)]) (ws' := (wD cy b0 dv (wV cy b1 v1 (wV cy b2 r_3.2 [])))) ⟨hx, hb, hml, hown, hts⟩ (cwV 2 hts gX0_perform_X0_performPart rfl rfl rfl ⟨rfl, eX0_performPart⟩ ⟨Nat.le_of_ble_eq_true rfl, Nat.le_of_ble_eq_true rfl⟩) (c_X0_performPart b0 b2 hr_3) hK hP hD hS hA [0, 1, 2, 3, 4, 5, 6, 15, 16, 17, 18, 19, 20, 21, 22] [7, 8, 9, 10, 11, 12, 13, 14] (by decide) rfl rfl 0 rfl rfl [(b0 0), (b0 1), (b0 2), (b0 3), (b0 4), (b0 5), (b0 6), (b1 0), (b1 1), (b1 2), (b1 3), (b1 4), (b1 5), (b1 6), (b1 7), (b2 0), (b2 1), (b2 2), (b2 3), (b2 4), (b2 5), (b2 6), (b2 7)] rfl rfl rfl (wV cy b1 v1 []) rfl rfl rfl rfl hl.1 rfl (Nat.le_of_ble_eq_true rfl) dX0_perform_25 (fun H locs hP hD hS => ?_)
      refine va_put (D := D) (ci := 0) (v := .int r_3.1) (ty := .int) (C := RX0) (T := TX0) (N := 10) hx hb hts iX0_perform_X0 tyX0 tyX0_ok nmX0 hown hK.1 hP hD hS 0 rfl rfl 9 (by decide) (hts _ mX0_perform_2) (fun _ h9 => h9) rfl (by decide +kernel) rfl rfl (Nat.le_of_ble_eq_true rfl) dX0_perform_28 (fun H locs hP hD hS => ?_)
      obtain ⟨dv_4, edv_4⟩ : ∃ z : DS, z = (dv.1, dv.2.1, dv.2.2.1, dv.2.2.2.1, dv.2.2.2.2.1, dv.2.2.2.2.2.1, dv.2.2.2.2.2.2.1, dv.2.2.2.2.2.2.2.1, dv.2.2.2.2.2.2.2.2.1, r_3.1) := ⟨_, rfl⟩
      replace h := nm_s h edv_4
      have hP : va_P D vwCl (wD cy b0 dv_4 (wV cy b1 v1 (wV cy b2 r_3.2 []))) H := by subst edv_4; exact hP
      have hD : va_D A (wD cy b0 dv_4 (wV cy b1 v1 (wV cy b2 r_3.2 []))) := hD.lk [(b0 0), (b0 1), (b0 2), (b0 3), (b0 4), (b0 5), (b0 6), (b1 0), (b1 1), (b1 2), (b1 3), (b1 4), (b1 5), (b1 6), (b1 7), (b2 0), (b2 1), (b2 2), (b2 3), (b2 4), (b2 5), (b2 6), (b2 7)] rfl rfl
      refine lv_aload_n hx hb dX0_perform_31 rfl (lv_at hl 0 rfl) ?_
      refine va_get (D := D) (ci := 0) (v := .int dv_4.2.2.2.2.2.2.2.2.2) (C := RX0) (T := TX0) (N := 10) hx hb hts iX0_perform_X0 hown hK.1 hP 0 rfl rfl 9 (by decide) (hts _ mX0_perform_2) (fun _ h9 => h9) rfl dX0_perform_32 ?_
      refine lv_if_eq (tgt := 40) hx hb dX0_perform_35 (by decide) (fun c_5 => ?_) (fun c_5 => ?_)
      · replace h := it_p c_5 h
        obtain ⟨x3_6, ex3_6⟩ : ∃ z : Int32, z = (x3 + (1 : Int32)) := ⟨_, rfl⟩
        replace h := nm_s h ex3_6
        refine lv_iinc (v := x3_6) (lv' := [(3, .int x3_6), (0, .ref (b0 0)), (1, .ref (b1 0)), (2, .ref (b2 0))]) hx hb dX0_perform_40 hl (k := 3) rfl (by rw [ex3_6]; rfl) (by decide) rfl (fun ls hl => ?_)
        refine lv_goto (tgt := 7) hx hb dX0_perform_43 (by decide) ?_
        cases h
        exact ih dv_4 r_3.2 x3_6 _ _ _ hm hP hD hS (lv_sub hl [1, 2, 3, 0] rfl)
      · replace h := it_n c_5 h
        refine lv_iload_n hx hb dX0_perform_38 rfl (lv_at hl 3 rfl) ?_
        cases h
        have hm : _ = rr := hm
        subst hm
        exact kretI hx hb hr hlk hP hS dX0_perform_39
set_option maxHeartbeats 4000000 in
set_option maxRecDepth 100000 in
theorem w_X0_perform_0 {p : Program} {l : Launch} {e : Env} {s : State} {m : MethodId} {args : Array Value} {below : List Frame} {meth : Method} {c : Code} {A : Nat → Prop} {D : va_G} {cy : Nat → ClassId} {b0 : Nat → Nat} {b1 : Nat → Nat} {b2 : Nat → Nat} {v1 : VS} {fu : Nat} {rr : Int32 × DS × VS} (M : kM p s m args meth c cX0_perform 4 (some .int) RX0 wsX0_perform A D cy) (ih : I_X0_perform p l e s m args below meth c A D cy b0 b1 b2 v1 fu rr) {dv : DS} {v2 : VS} {oo : (DS × VS × Int32) ⊕ (Int32 × DS × VS)} (h : f_X0_perform_0 dv v1 v2 = some oo) (hm : lpo (st_X0_perform v1) fu oo rr) {H : Heap} {locs : List Loc} {ls : Array Slot} (hP : va_P D vwCl (wD cy b0 dv (wV cy b1 v1 (wV cy b2 v2 []))) H) (hD : va_D A (wD cy b0 dv (wV cy b1 v1 (wV cy b2 v2 [])))) (hS : va_S A s.heap H locs) (hl : lv_has ls 4 [(0, .ref (b0 0)), (1, .ref (b1 0)), (2, .ref (b2 0))]) : W p l e { frames := 5, cells := 0, slots := 0, locals := 117 } s m args below meth c H locs 0 0 (MQ below (qI D (wD cy b0 rr.2.1 (wV cy b1 v1 (wV cy b2 rr.2.2 []))) (rr.1) A) args s 0 0 A) (F0 m 0 ls []) := by
  obtain ⟨hx, hb, hr, hml, hown, hts, hlk, hA, hK⟩ := id M
  unfold f_X0_perform_0 at h
  refine lv_aload_n hx hb dX0_perform_0 rfl (lv_at hl 2 rfl) ?_
  refine lv_aload_n hx hb dX0_perform_1 rfl (lv_at hl 1 rfl) ?_
  obtain ⟨r_1, hr_1, h⟩ := bn_s h
  refine kcVv (As := [.ref (b1 0)]) (rest := []) (ws' := (wD cy b0 dv (wV cy b1 v1 (wV cy b2 r_1 [])))) ⟨hx, hb, hml, hown, hts⟩ (cwV 1 hts gX0_perform_X2_copyFrom rfl rfl rfl ⟨rfl, eX2_copyFrom⟩ ⟨Nat.le_of_ble_eq_true rfl, Nat.le_of_ble_eq_true rfl⟩) (c_X2_copyFrom b2 b1 hr_1) hK hP hD hS hA [15, 16, 17, 18, 19, 20, 21, 22, 7, 8, 9, 10, 11, 12, 13, 14] [0, 1, 2, 3, 4, 5, 6] (by decide) rfl rfl 2 rfl rfl [(b0 0), (b0 1), (b0 2), (b0 3), (b0 4), (b0 5), (b0 6), (b1 0), (b1 1), (b1 2), (b1 3), (b1 4), (b1 5), (b1 6), (b1 7), (b2 0), (b2 1), (b2 2), (b2 3), (b2 4), (b2 5), (b2 6), (b2 7)] rfl rfl rfl (wD cy b0 dv []) rfl rfl rfl rfl hl.1 rfl (Nat.le_of_ble_eq_true rfl) dX0_perform_2 (fun H locs hP hD hS => ?_)
  refine lv_iconst (v := 0) hx hb dX0_perform_5 (by decide) ?_
  refine lv_istore_n (lv' := [(3, .int (0 : Int32)), (0, .ref (b0 0)), (1, .ref (b1 0)), (2, .ref (b2 0))]) hx hb dX0_perform_6 rfl hl (by decide) rfl (fun ls hl => ?_)
  cases h
  exact ih dv r_1 (0 : Int32) _ _ _ hm hP hD hS (lv_sub hl [1, 2, 3, 0] rfl)
theorem wl_X0_perform {p : Program} {l : Launch} {e : Env} {s : State} {m : MethodId} {args : Array Value} {below : List Frame} {meth : Method} {c : Code} {A : Nat → Prop} {D : va_G} {cy : Nat → ClassId} {b0 : Nat → Nat} {b1 : Nat → Nat} {b2 : Nat → Nat} {v1 : VS} {rr : Int32 × DS × VS} (M : kM p s m args meth c cX0_perform 4 (some .int) RX0 wsX0_perform A D cy) : ∀ fu : Nat, I_X0_perform p l e s m args below meth c A D cy b0 b1 b2 v1 fu rr := by
  intro fu
  induction fu with
  | zero => exact (fun _ _ _ _ _ _ h => by cases h)
  | succ fu ih =>
    exact fun dv v2 x3 H locs ls h hP hD hS hl => by
      obtain ⟨o1, h1, h2⟩ := lpn_s h
      exact w_X0_perform_7 M ih h1 h2 hP hD hS hl
theorem c_X0_perform {l : Launch} {D : va_G} {cy : Nat → ClassId} (b0 : Nat → Nat) (b1 : Nat → Nat) (b2 : Nat → Nat) {dv : DS} {v1 : VS} {v2 : VS} {rr : Int32 × DS × VS} (h : f_X0_perform dv v1 v2 = some rr) : CI l D cy yX0_perform wsX0_perform { frames := 5, cells := 0, slots := 0, locals := 117 } [.ref (b0 0), .ref (b1 0), .ref (b2 0)] (wD cy b0 dv (wV cy b1 v1 (wV cy b2 v2 []))) (rr.1) (wD cy b0 rr.2.1 (wV cy b1 v1 (wV cy b2 rr.2.2 []))) := by
  refine kofI (cc := cX0_perform) (maxL := 4) (ret := (some .int)) (by decide) rfl (Nat.le_of_ble_eq_true rfl) ?_
  intro p e s m below meth c A M ls hl hP hD hS
  obtain ⟨o1, fu, h1, h2⟩ := rnx_s h
  exact w_X0_perform_0 M (wl_X0_perform M fu) h1 h2 hP hD hS hl
theorem eX0_perform : yX0_perform.cls ≠ "java/lang/invoke/MethodHandle" ∧ yX0_perform.cls ≠ "java/lang/invoke/VarHandle" ∧ (parseMethodDescriptor yX0_perform.desc).map (fun d => d.parameters.length) = some 2 := by decide +kernel
theorem iX0_takePart_X0 : ∀ w ∈ u_ws RX0 TX0 10, w ∈ wsX0_takePart := by decide +kernel
theorem mX0_takePart_1 : Cond.fieldLink RX0 38 "LentPiles$Pad" "asks" "I" ∈ wsX0_takePart := by decide +kernel
set_option maxHeartbeats 4000000 in
set_option maxRecDepth 100000 in
theorem w_X0_takePart_76 {p : Program} {l : Launch} {e : Env} {s : State} {m : MethodId} {args : Array Value} {below : List Frame} {meth : Method} {c : Code} {A : Nat → Prop} {D : va_G} {cy : Nat → ClassId} {b0 : Nat → Nat} {x1 : Int32} {rr : Int32 × DS} (M : kM p s m args meth c cX0_takePart 7 (some .int) RX0 wsX0_takePart A D cy) {dv : DS} {x3 : Int32} (h : f_X0_takePart_76 x1 dv x3 = some rr) {H : Heap} {locs : List Loc} {ls : Array Slot} (hP : va_P D vwCl (wD cy b0 dv []) H) (hD : va_D A (wD cy b0 dv [])) (hS : va_S A s.heap H locs) (hl : lv_has ls 7 [(0, .ref (b0 0)), (1, .int x1), (3, .int x3)]) : W p l e { frames := 1, cells := 0, slots := 0, locals := 24 } s m args below meth c H locs 0 0 (MQ below (qI D (wD cy b0 rr.2 []) (rr.1) A) args s 0 0 A) (F0 m 76 ls []) := by
  obtain ⟨hx, hb, hr, hml, hown, hts, hlk, hA, hK⟩ := id M
  unfold f_X0_takePart_76 at h
  refine lv_aload_n hx hb dX0_takePart_76 rfl (lv_at hl 0 rfl) ?_
  refine lv_iload_n hx hb dX0_takePart_77 rfl (lv_at hl 1 rfl) ?_
  refine lv_iconst (v := 2) hx hb dX0_takePart_78 (by decide) ?_
  refine lv_iadd hx hb dX0_takePart_79 ?_
  obtain ⟨r_1, hr_1, h⟩ := bn_s h
  refine kcVi (As := [.int (x1 + (2 : Int32))]) (rest := []) (ws' := (wD cy b0 dv [])) ⟨hx, hb, hml, hown, hts⟩ (cwV 1 hts gX0_takePart_X0_signAt rfl rfl rfl ⟨rfl, eX0_signAt⟩ ⟨Nat.le_of_ble_eq_true rfl, Nat.le_of_ble_eq_true rfl⟩) (c_X0_signAt b0 hr_1) hK hP hD hS hA [0, 1, 2, 3, 4, 5, 6] [] (by decide) rfl rfl 0 rfl rfl [(b0 0), (b0 1), (b0 2), (b0 3), (b0 4), (b0 5), (b0 6)] rfl rfl rfl [] rfl rfl rfl rfl hl.1 rfl (Nat.le_of_ble_eq_true rfl) dX0_takePart_80 (fun H locs hP hD hS => ?_)
  refine lv_bipush (v := 65) hx hb dX0_takePart_83 (by decide) ?_
  refine lv_isub hx hb dX0_takePart_85 ?_
  refine lv_topi (fun x4_2 ex4_2 => ?_)
  replace h := nm_s h ex4_2
  refine lv_istore (lv' := [(4, .int x4_2), (0, .ref (b0 0)), (1, .int x1), (3, .int x3)]) hx hb dX0_takePart_86 hl (by decide) rfl (fun ls hl => ?_)
  refine lv_aload_n hx hb dX0_takePart_88 rfl (lv_at hl 1 rfl) ?_
  refine lv_iload_n hx hb dX0_takePart_89 rfl (lv_at hl 2 rfl) ?_
  refine lv_iconst (v := 3) hx hb dX0_takePart_90 (by decide) ?_
  refine lv_iadd hx hb dX0_takePart_91 ?_
  obtain ⟨r_3, hr_3, h⟩ := bn_s h
  refine kcVi (As := [.int (x1 + (3 : Int32))]) (rest := []) (ws' := (wD cy b0 dv [])) ⟨hx, hb, hml, hown, hts⟩ (cwV 1 hts gX0_takePart_X0_signAt rfl rfl rfl ⟨rfl, eX0_signAt⟩ ⟨Nat.le_of_ble_eq_true rfl, Nat.le_of_ble_eq_true rfl⟩) (c_X0_signAt b0 hr_3) hK hP hD hS hA [0, 1, 2, 3, 4, 5, 6] [] (by decide) rfl rfl 0 rfl rfl [(b0 0), (b0 1), (b0 2), (b0 3), (b0 4), (b0 5), (b0 6)] rfl rfl rfl [] rfl rfl rfl rfl hl.1 rfl (Nat.le_of_ble_eq_true rfl) dX0_takePart_92 (fun H locs hP hD hS => ?_)
  refine lv_bipush (v := 48) hx hb dX0_takePart_95 (by decide) ?_
  refine lv_isub hx hb dX0_takePart_97 ?_
  refine lv_topi (fun x5_4 ex5_4 => ?_)
  replace h := nm_s h ex5_4
  refine lv_istore (lv' := [(5, .int x5_4), (4, .int x4_2), (0, .ref (b0 0)), (1, .int x1), (3, .int x3)]) hx hb dX0_takePart_98 hl (by decide) rfl (fun ls hl => ?_)
  refine lv_aload_n hx hb dX0_takePart_100 rfl (lv_at hl 2 rfl) ?_
  refine lv_iload_n hx hb dX0_takePart_101 rfl (lv_at hl 3 rfl) ?_
  refine lv_iconst (v := 4) hx hb dX0_takePart_102 (by decide) ?_
  refine lv_iadd hx hb dX0_takePart_103 ?_
  obtain ⟨r_5, hr_5, h⟩ := bn_s h
  refine kcVi (As := [.int (x1 + (4 : Int32))]) (rest := []) (ws' := (wD cy b0 dv [])) ⟨hx, hb, hml, hown, hts⟩ (cwV 1 hts gX0_takePart_X0_signAt rfl rfl rfl ⟨rfl, eX0_signAt⟩ ⟨Nat.le_of_ble_eq_true rfl, Nat.le_of_ble_eq_true rfl⟩) (c_X0_signAt b0 hr_5) hK hP hD hS hA [0, 1, 2, 3, 4, 5, 6] [] (by decide) rfl rfl 0 rfl rfl [(b0 0), (b0 1), (b0 2), (b0 3), (b0 4), (b0 5), (b0 6)] rfl rfl rfl [] rfl rfl rfl rfl hl.1 rfl (Nat.le_of_ble_eq_true rfl) dX0_takePart_104 (fun H locs hP hD hS => ?_)
  refine lv_istore (lv' := [(6, .int r_5), (5, .int x5_4), (4, .int x4_2), (0, .ref (b0 0)), (1, .int x1), (3, .int x3)]) hx hb dX0_takePart_107 hl (by decide) rfl (fun ls hl => ?_)
  refine lv_iload hx hb dX0_takePart_109 (lv_at hl 0 rfl) ?_
  obtain ⟨r_6, hr_6, h⟩ := bn_s h
  refine kcSi (As := [.int r_5]) (rest := []) ⟨hx, hb, hml, hown, hts⟩ (va_cwS 1 hts gX0_takePart_X0_isDigit rfl rfl rfl eX0_isDigit ⟨Nat.le_of_ble_eq_true rfl, Nat.le_of_ble_eq_true rfl⟩) (c_X0_isDigit  hr_6) hK hP hS hA rfl hl.1 rfl (Nat.le_of_ble_eq_true rfl) dX0_takePart_111 (fun H locs hP hS => ?_)
  refine lv_if_eq (tgt := 138) hx hb dX0_takePart_114 (by decide) (fun c_7 => ?_) (fun c_7 => ?_)
  · replace h := it_p c_7 h
    refine lv_aload_n hx hb dX0_takePart_138 rfl (lv_at hl 3 rfl) ?_
    refine lv_iconst (v := 0) hx hb dX0_takePart_139 (by decide) ?_
    refine lv_iload_n hx hb dX0_takePart_140 rfl (lv_at hl 5 rfl) ?_
    refine lv_iload hx hb dX0_takePart_141 (lv_at hl 2 rfl) ?_
    refine lv_iload hx hb dX0_takePart_143 (lv_at hl 1 rfl) ?_
    obtain ⟨r_8, hr_8, h⟩ := bn_s h
    refine kcVv (As := [.int (0 : Int32), .int x3, .int x4_2, .int x5_4]) (rest := []) (ws' := (wD cy b0 r_8 [])) ⟨hx, hb, hml, hown, hts⟩ (cwV 4 hts gX0_takePart_X0_addPart rfl rfl rfl ⟨rfl, eX0_addPart⟩ ⟨Nat.le_of_ble_eq_true rfl, Nat.le_of_ble_eq_true rfl⟩) (c_X0_addPart b0 hr_8) hK hP hD hS hA [0, 1, 2, 3, 4, 5, 6] [] (by decide) rfl rfl 0 rfl rfl [(b0 0), (b0 1), (b0 2), (b0 3), (b0 4), (b0 5), (b0 6)] rfl rfl rfl [] rfl rfl rfl rfl hl.1 rfl (Nat.le_of_ble_eq_true rfl) dX0_takePart_145 (fun H locs hP hD hS => ?_)
    refine lv_iconst (v := 4) hx hb dX0_takePart_148 (by decide) ?_
    cases h
    exact kretI hx hb hr hlk hP hS dX0_takePart_149
  · replace h := it_n c_7 h
    refine lv_aload_n hx hb dX0_takePart_117 rfl (lv_at hl 3 rfl) ?_
    refine lv_iconst (v := 0) hx hb dX0_takePart_118 (by decide) ?_
    refine lv_iload_n hx hb dX0_takePart_119 rfl (lv_at hl 5 rfl) ?_
    refine lv_iload hx hb dX0_takePart_120 (lv_at hl 2 rfl) ?_
    refine lv_iload hx hb dX0_takePart_122 (lv_at hl 1 rfl) ?_
    refine lv_bipush (v := 10) hx hb dX0_takePart_124 (by decide) ?_
    refine lv_imul hx hb dX0_takePart_126 ?_
    refine lv_iload hx hb dX0_takePart_127 (lv_at hl 0 rfl) ?_
    refine lv_iadd hx hb dX0_takePart_129 ?_
    refine lv_bipush (v := 48) hx hb dX0_takePart_130 (by decide) ?_
    refine lv_isub hx hb dX0_takePart_132 ?_
    obtain ⟨r_9, hr_9, h⟩ := bn_s h
    refine kcVv (As := [.int (0 : Int32), .int x3, .int x4_2, .int (((x5_4 * (10 : Int32)) + r_5) - (48 : Int32))]) (rest := []) (ws' := (wD cy b0 r_9 [])) ⟨hx, hb, hml, hown, hts⟩ (cwV 4 hts gX0_takePart_X0_addPart rfl rfl rfl ⟨rfl, eX0_addPart⟩ ⟨Nat.le_of_ble_eq_true rfl, Nat.le_of_ble_eq_true rfl⟩) (c_X0_addPart b0 hr_9) hK hP hD hS hA [0, 1, 2, 3, 4, 5, 6] [] (by decide) rfl rfl 0 rfl rfl [(b0 0), (b0 1), (b0 2), (b0 3), (b0 4), (b0 5), (b0 6)] rfl rfl rfl [] rfl rfl rfl rfl hl.1 rfl (Nat.le_of_ble_eq_true rfl) dX0_takePart_133 (fun H locs hP hD hS => ?_)
    refine lv_iconst (v := 5) hx hb dX0_takePart_136 (by decide) ?_
    cases h
    exact kretI hx hb hr hlk hP hS dX0_takePart_137
set_option maxHeartbeats 4000000 in
set_option maxRecDepth 100000 in
theorem w_X0_takePart_0 {p : Program} {l : Launch} {e : Env} {s : State} {m : MethodId} {args : Array Value} {below : List Frame} {meth : Method} {c : Code} {A : Nat → Prop} {D : va_G} {cy : Nat → ClassId} {b0 : Nat → Nat} {x1 : Int32} {rr : Int32 × DS} (M : kM p s m args meth c cX0_takePart 7 (some .int) RX0 wsX0_takePart A D cy) {dv : DS} (h : f_X0_takePart dv x1 = some rr) {H : Heap} {locs : List Loc} {ls : Array Slot} (hP : va_P D vwCl (wD cy b0 dv []) H) (hD : va_D A (wD cy b0 dv [])) (hS : va_S A s.heap H locs) (hl : lv_has ls 7 [(0, .ref (b0 0)), (1, .int x1)]) : W p l e { frames := 1, cells := 0, slots := 0, locals := 24 } s m args below meth c H locs 0 0 (MQ below (qI D (wD cy b0 rr.2 []) (rr.1) A) args s 0 0 A) (F0 m 0 ls []) := by
  obtain ⟨hx, hb, hr, hml, hown, hts, hlk, hA, hK⟩ := id M
  unfold f_X0_takePart at h
  refine lv_aload_n hx hb dX0_takePart_0 rfl (lv_at hl 0 rfl) ?_
  refine lv_iload_n hx hb dX0_takePart_1 rfl (lv_at hl 1 rfl) ?_
  obtain ⟨r_1, hr_1, h⟩ := bn_s h
  refine kcVi (As := [.int x1]) (rest := []) (ws' := (wD cy b0 dv [])) ⟨hx, hb, hml, hown, hts⟩ (cwV 1 hts gX0_takePart_X0_signAt rfl rfl rfl ⟨rfl, eX0_signAt⟩ ⟨Nat.le_of_ble_eq_true rfl, Nat.le_of_ble_eq_true rfl⟩) (c_X0_signAt b0 hr_1) hK hP hD hS hA [0, 1, 2, 3, 4, 5, 6] [] (by decide) rfl rfl 0 rfl rfl [(b0 0), (b0 1), (b0 2), (b0 3), (b0 4), (b0 5), (b0 6)] rfl rfl rfl [] rfl rfl rfl rfl hl.1 rfl (Nat.le_of_ble_eq_true rfl) dX0_takePart_2 (fun H locs hP hD hS => ?_)
  refine lv_istore_n (lv' := [(2, .int r_1), (0, .ref (b0 0)), (1, .int x1)]) hx hb dX0_takePart_5 rfl hl (by decide) rfl (fun ls hl => ?_)
  refine lv_iload_n hx hb dX0_takePart_6 rfl (lv_at hl 0 rfl) ?_
  refine lv_bipush (v := 46) hx hb dX0_takePart_7 (by decide) ?_
  refine lv_icmp_ne (tgt := 22) hx hb dX0_takePart_9 (by decide) (fun c_2 => ?_) (fun c_2 => ?_)
  · replace h := it_n c_2 h
    refine lv_aload_n hx hb dX0_takePart_22 rfl (lv_at hl 1 rfl) ?_
    refine lv_iload_n hx hb dX0_takePart_23 rfl (lv_at hl 2 rfl) ?_
    refine lv_iconst (v := 1) hx hb dX0_takePart_24 (by decide) ?_
    refine lv_iadd hx hb dX0_takePart_25 ?_
    obtain ⟨r_3, hr_3, h⟩ := bn_s h
    refine kcVi (As := [.int (x1 + (1 : Int32))]) (rest := []) (ws' := (wD cy b0 dv [])) ⟨hx, hb, hml, hown, hts⟩ (cwV 1 hts gX0_takePart_X0_signAt rfl rfl rfl ⟨rfl, eX0_signAt⟩ ⟨Nat.le_of_ble_eq_true rfl, Nat.le_of_ble_eq_true rfl⟩) (c_X0_signAt b0 hr_3) hK hP hD hS hA [0, 1, 2, 3, 4, 5, 6] [] (by decide) rfl rfl 0 rfl rfl [(b0 0), (b0 1), (b0 2), (b0 3), (b0 4), (b0 5), (b0 6)] rfl rfl rfl [] rfl rfl rfl rfl hl.1 rfl (Nat.le_of_ble_eq_true rfl) dX0_takePart_26 (fun H locs hP hD hS => ?_)
    refine lv_bipush (v := 33) hx hb dX0_takePart_29 (by decide) ?_
    refine lv_icmp_ne (tgt := 47) hx hb dX0_takePart_31 (by decide) (fun c_4 => ?_) (fun c_4 => ?_)
    · replace h := it_n c_4 h
      refine lv_iload_n hx hb dX0_takePart_47 rfl (lv_at hl 0 rfl) ?_
      refine lv_bipush (v := 65) hx hb dX0_takePart_48 (by decide) ?_
      refine lv_isub hx hb dX0_takePart_50 ?_
      refine lv_topi (fun x3_5 ex3_5 => ?_)
      replace h := nm_s h ex3_5
      refine lv_istore_n (lv' := [(3, .int x3_5), (2, .int r_1), (0, .ref (b0 0)), (1, .int x1)]) hx hb dX0_takePart_51 rfl hl (by decide) rfl (fun ls hl => ?_)
      refine lv_iload_n hx hb dX0_takePart_52 rfl (lv_at hl 1 rfl) ?_
      refine lv_bipush (v := 63) hx hb dX0_takePart_53 (by decide) ?_
      refine lv_icmp_ne (tgt := 76) hx hb dX0_takePart_55 (by decide) (fun c_6 => ?_) (fun c_6 => ?_)
      · replace h := it_n c_6 h
        exact w_X0_takePart_76 M h hP hD hS (lv_sub hl [2, 3, 0] rfl)
      · replace h := it_p c_6 h
        refine lv_bipush (v := 6) hx hb dX0_takePart_58 (by decide) ?_
        refine lv_aload_n hx hb dX0_takePart_60 rfl (lv_at hl 2 rfl) ?_
        refine va_get (D := D) (ci := 0) (v := .int dv.2.2.2.2.2.2.2.2.1) (C := RX0) (T := TX0) (N := 10) hx hb hts iX0_takePart_X0 hown hK.1 hP 0 rfl rfl 8 (by decide) (hts _ mX0_takePart_1) (fun _ h9 => h9) rfl dX0_takePart_61 ?_
        refine lv_iadd hx hb dX0_takePart_64 ?_
        refine lv_topi (fun x3_7 ex3_7 => ?_)
        replace h := nm_s h ex3_7
        refine lv_istore_n (lv' := [(3, .int x3_7), (2, .int r_1), (0, .ref (b0 0)), (1, .int x1)]) hx hb dX0_takePart_65 rfl hl (by decide) rfl (fun ls hl => ?_)
        refine lv_aload_n hx hb dX0_takePart_66 rfl (lv_at hl 2 rfl) ?_
        refine lv_dup hx hb dX0_takePart_67 rfl ?_
        refine va_get (D := D) (ci := 0) (v := .int dv.2.2.2.2.2.2.2.2.1) (C := RX0) (T := TX0) (N := 10) hx hb hts iX0_takePart_X0 hown hK.1 hP 0 rfl rfl 8 (by decide) (hts _ mX0_takePart_1) (fun _ h9 => h9) rfl dX0_takePart_68 ?_
        refine lv_iconst (v := 1) hx hb dX0_takePart_71 (by decide) ?_
        refine lv_iadd hx hb dX0_takePart_72 ?_
        refine va_put (D := D) (ci := 0) (v := .int (dv.2.2.2.2.2.2.2.2.1 + (1 : Int32))) (ty := .int) (C := RX0) (T := TX0) (N := 10) hx hb hts iX0_takePart_X0 tyX0 tyX0_ok nmX0 hown hK.1 hP hD hS 0 rfl rfl 8 (by decide) (hts _ mX0_takePart_1) (fun _ h9 => h9) rfl (by decide +kernel) rfl rfl (Nat.le_of_ble_eq_true rfl) dX0_takePart_73 (fun H locs hP hD hS => ?_)
        obtain ⟨dv_8, edv_8⟩ : ∃ z : DS, z = (dv.1, dv.2.1, dv.2.2.1, dv.2.2.2.1, dv.2.2.2.2.1, dv.2.2.2.2.2.1, dv.2.2.2.2.2.2.1, dv.2.2.2.2.2.2.2.1, (dv.2.2.2.2.2.2.2.2.1 + (1 : Int32)), dv.2.2.2.2.2.2.2.2.2) := ⟨_, rfl⟩
        replace h := nm_s h edv_8
        have hP : va_P D vwCl (wD cy b0 dv_8 []) H := by subst edv_8; exact hP
        have hD : va_D A (wD cy b0 dv_8 []) := hD.lk [(b0 0), (b0 1), (b0 2), (b0 3), (b0 4), (b0 5), (b0 6)] rfl rfl
        exact w_X0_takePart_76 M h hP hD hS (lv_sub hl [2, 3, 0] rfl)
    · replace h := it_p c_4 h
      refine lv_aload_n hx hb dX0_takePart_34 rfl (lv_at hl 1 rfl) ?_
      refine lv_iconst (v := 1) hx hb dX0_takePart_35 (by decide) ?_
      refine lv_iload_n hx hb dX0_takePart_36 rfl (lv_at hl 0 rfl) ?_
      refine lv_bipush (v := 65) hx hb dX0_takePart_37 (by decide) ?_
      refine lv_isub hx hb dX0_takePart_39 ?_
      refine lv_iconst (v := 0) hx hb dX0_takePart_40 (by decide) ?_
      refine lv_iconst (v := 0) hx hb dX0_takePart_41 (by decide) ?_
      obtain ⟨r_9, hr_9, h⟩ := bn_s h
      refine kcVv (As := [.int (1 : Int32), .int (r_1 - (65 : Int32)), .int (0 : Int32), .int (0 : Int32)]) (rest := []) (ws' := (wD cy b0 r_9 [])) ⟨hx, hb, hml, hown, hts⟩ (cwV 4 hts gX0_takePart_X0_addPart rfl rfl rfl ⟨rfl, eX0_addPart⟩ ⟨Nat.le_of_ble_eq_true rfl, Nat.le_of_ble_eq_true rfl⟩) (c_X0_addPart b0 hr_9) hK hP hD hS hA [0, 1, 2, 3, 4, 5, 6] [] (by decide) rfl rfl 0 rfl rfl [(b0 0), (b0 1), (b0 2), (b0 3), (b0 4), (b0 5), (b0 6)] rfl rfl rfl [] rfl rfl rfl rfl hl.1 rfl (Nat.le_of_ble_eq_true rfl) dX0_takePart_42 (fun H locs hP hD hS => ?_)
      refine lv_iconst (v := 2) hx hb dX0_takePart_45 (by decide) ?_
      cases h
      exact kretI hx hb hr hlk hP hS dX0_takePart_46
  · replace h := it_p c_2 h
    refine lv_aload_n hx hb dX0_takePart_12 rfl (lv_at hl 1 rfl) ?_
    refine lv_iconst (v := 2) hx hb dX0_takePart_13 (by decide) ?_
    refine lv_iconst (v := 0) hx hb dX0_takePart_14 (by decide) ?_
    refine lv_iconst (v := 0) hx hb dX0_takePart_15 (by decide) ?_
    refine lv_iconst (v := 0) hx hb dX0_takePart_16 (by decide) ?_
    obtain ⟨r_10, hr_10, h⟩ := bn_s h
    refine kcVv (As := [.int (2 : Int32), .int (0 : Int32), .int (0 : Int32), .int (0 : Int32)]) (rest := []) (ws' := (wD cy b0 r_10 [])) ⟨hx, hb, hml, hown, hts⟩ (cwV 4 hts gX0_takePart_X0_addPart rfl rfl rfl ⟨rfl, eX0_addPart⟩ ⟨Nat.le_of_ble_eq_true rfl, Nat.le_of_ble_eq_true rfl⟩) (c_X0_addPart b0 hr_10) hK hP hD hS hA [0, 1, 2, 3, 4, 5, 6] [] (by decide) rfl rfl 0 rfl rfl [(b0 0), (b0 1), (b0 2), (b0 3), (b0 4), (b0 5), (b0 6)] rfl rfl rfl [] rfl rfl rfl rfl hl.1 rfl (Nat.le_of_ble_eq_true rfl) dX0_takePart_17 (fun H locs hP hD hS => ?_)
    refine lv_iconst (v := 1) hx hb dX0_takePart_20 (by decide) ?_
    cases h
    exact kretI hx hb hr hlk hP hS dX0_takePart_21
theorem c_X0_takePart {l : Launch} {D : va_G} {cy : Nat → ClassId} (b0 : Nat → Nat) {dv : DS} {x1 : Int32} {rr : Int32 × DS} (h : f_X0_takePart dv x1 = some rr) : CI l D cy yX0_takePart wsX0_takePart { frames := 1, cells := 0, slots := 0, locals := 24 } [.ref (b0 0), .int x1] (wD cy b0 dv []) (rr.1) (wD cy b0 rr.2 []) := by
  refine kofI (cc := cX0_takePart) (maxL := 7) (ret := (some .int)) (by decide) rfl (Nat.le_of_ble_eq_true rfl) ?_
  intro p e s m below meth c A M ls hl hP hD hS
  exact w_X0_takePart_0 M h hP hD hS hl
theorem eX0_takePart : yX0_takePart.cls ≠ "java/lang/invoke/MethodHandle" ∧ yX0_takePart.cls ≠ "java/lang/invoke/VarHandle" ∧ (parseMethodDescriptor yX0_takePart.desc).map (fun d => d.parameters.length) = some 1 := by decide +kernel
theorem iX0_read_X0 : ∀ w ∈ u_ws RX0 TX0 10, w ∈ wsX0_read := by decide +kernel
theorem mX0_read_1 : Cond.fieldLink RX0 35 "LentPiles$Pad" "parts" "I" ∈ wsX0_read := by decide +kernel
theorem mX0_read_2 : Cond.fieldLink RX0 38 "LentPiles$Pad" "asks" "I" ∈ wsX0_read := by decide +kernel
theorem mX0_read_3 : Cond.fieldLink RX0 31 "LentPiles$Pad" "length" "I" ∈ wsX0_read := by decide +kernel
def I_X0_read (p : Program) (l : Launch) (e : Env) (s : State) (m : MethodId) (args : Array Value) (below : List Frame) (meth : Method) (c : Code) (A : Nat → Prop) (D : va_G) (cy : Nat → ClassId) (b0 : Nat → Nat) (fu : Nat) (rr : Int32 × DS) : Prop := (∀ (dv : DS) (x1 : Int32) (x2 : Int32) (H : Heap) (locs : List Loc) (ls : Array Slot), lpn (st_X0_read ) fu (dv, x1, x2) = some rr → va_P D vwCl (wD cy b0 dv []) H → va_D A (wD cy b0 dv []) → va_S A s.heap H locs → lv_has ls 4 [(0, .ref (b0 0)), (1, .int x1), (2, .int x2)] → W p l e { frames := 2, cells := 0, slots := 0, locals := 50 } s m args below meth c H locs 0 0 (MQ below (qI D (wD cy b0 rr.2 []) (rr.1) A) args s 0 0 A) (F0 m 14 ls []))
set_option maxHeartbeats 4000000 in
set_option maxRecDepth 100000 in
theorem w_X0_read_14 {p : Program} {l : Launch} {e : Env} {s : State} {m : MethodId} {args : Array Value} {below : List Frame} {meth : Method} {c : Code} {A : Nat → Prop} {D : va_G} {cy : Nat → ClassId} {b0 : Nat → Nat} {fu : Nat} {rr : Int32 × DS} (M : kM p s m args meth c cX0_read 4 (some .int) RX0 wsX0_read A D cy) (ih : I_X0_read p l e s m args below meth c A D cy b0 fu rr) {dv : DS} {x1 : Int32} {x2 : Int32} {oo : (DS × Int32 × Int32) ⊕ (Int32 × DS)} (h : f_X0_read_14 dv x1 x2 = some oo) (hm : lpo (st_X0_read ) fu oo rr) {H : Heap} {locs : List Loc} {ls : Array Slot} (hP : va_P D vwCl (wD cy b0 dv []) H) (hD : va_D A (wD cy b0 dv [])) (hS : va_S A s.heap H locs) (hl : lv_has ls 4 [(0, .ref (b0 0)), (1, .int x1), (2, .int x2)]) : W p l e { frames := 2, cells := 0, slots := 0, locals := 50 } s m args below meth c H locs 0 0 (MQ below (qI D (wD cy b0 rr.2 []) (rr.1) A) args s 0 0 A) (F0 m 14 ls []) := by
  obtain ⟨hx, hb, hr, hml, hown, hts, hlk, hA, hK⟩ := id M
  unfold f_X0_read_14 at h
  refine lv_iload_n hx hb dX0_read_14 rfl (lv_at hl 2 rfl) ?_
  refine lv_bipush (v := 60) hx hb dX0_read_15 (by decide) ?_
  refine lv_icmp_ge (tgt := 56) hx hb dX0_read_17 (by decide) (fun c_1 => ?_) (fun c_1 => ?_)
  · replace h := it_p c_1 h
    refine lv_bipush (v := (-6)) hx hb dX0_read_56 (by decide) ?_
    cases h
    have hm : _ = rr := hm
    subst hm
    exact kretI hx hb hr hlk hP hS dX0_read_58
  · replace h := it_n c_1 h
    refine lv_iload_n hx hb dX0_read_20 rfl (lv_at hl 1 rfl) ?_
    refine lv_aload_n hx hb dX0_read_21 rfl (lv_at hl 0 rfl) ?_
    refine va_get (D := D) (ci := 0) (v := .int dv.2.2.2.2.2.2.1) (C := RX0) (T := TX0) (N := 10) hx hb hts iX0_read_X0 hown hK.1 hP 0 rfl rfl 6 (by decide) (hts _ mX0_read_3) (fun _ h9 => h9) rfl dX0_read_22 ?_
    refine lv_icmp_ge (tgt := 56) hx hb dX0_read_25 (by decide) (fun c_2 => ?_) (fun c_2 => ?_)
    · replace h := it_p c_2 h
      refine lv_bipush (v := (-6)) hx hb dX0_read_56 (by decide) ?_
      cases h
      have hm : _ = rr := hm
      subst hm
      exact kretI hx hb hr hlk hP hS dX0_read_58
    · replace h := it_n c_2 h
      refine lv_aload_n hx hb dX0_read_28 rfl (lv_at hl 0 rfl) ?_
      refine lv_iload_n hx hb dX0_read_29 rfl (lv_at hl 1 rfl) ?_
      obtain ⟨r_3, hr_3, h⟩ := bn_s h
      refine kcVi (As := [.int x1]) (rest := []) (ws' := (wD cy b0 dv [])) ⟨hx, hb, hml, hown, hts⟩ (cwV 1 hts gX0_read_X0_faultOfPart rfl rfl rfl ⟨rfl, eX0_faultOfPart⟩ ⟨Nat.le_of_ble_eq_true rfl, Nat.le_of_ble_eq_true rfl⟩) (c_X0_faultOfPart b0 hr_3) hK hP hD hS hA [0, 1, 2, 3, 4, 5, 6] [] (by decide) rfl rfl 0 rfl rfl [(b0 0), (b0 1), (b0 2), (b0 3), (b0 4), (b0 5), (b0 6)] rfl rfl rfl [] rfl rfl rfl rfl hl.1 rfl (Nat.le_of_ble_eq_true rfl) dX0_read_30 (fun H locs hP hD hS => ?_)
      refine lv_istore_n (lv' := [(3, .int r_3), (0, .ref (b0 0)), (1, .int x1), (2, .int x2)]) hx hb dX0_read_33 rfl hl (by decide) rfl (fun ls hl => ?_)
      refine lv_iload_n hx hb dX0_read_34 rfl (lv_at hl 0 rfl) ?_
      refine lv_bipush (v := (-6)) hx hb dX0_read_35 (by decide) ?_
      refine lv_icmp_eq (tgt := 42) hx hb dX0_read_37 (by decide) (fun c_4 => ?_) (fun c_4 => ?_)
      · replace h := it_p c_4 h
        refine lv_iload_n hx hb dX0_read_42 rfl (lv_at hl 2 rfl) ?_
        refine lv_aload_n hx hb dX0_read_43 rfl (lv_at hl 1 rfl) ?_
        refine lv_iload_n hx hb dX0_read_44 rfl (lv_at hl 2 rfl) ?_
        obtain ⟨r_5, hr_5, h⟩ := bn_s h
        refine kcVi (As := [.int x1]) (rest := [.int x1]) (ws' := (wD cy b0 r_5.2 [])) ⟨hx, hb, hml, hown, hts⟩ (cwV 1 hts gX0_read_X0_takePart rfl rfl rfl ⟨rfl, eX0_takePart⟩ ⟨Nat.le_of_ble_eq_true rfl, Nat.le_of_ble_eq_true rfl⟩) (c_X0_takePart b0 hr_5) hK hP hD hS hA [0, 1, 2, 3, 4, 5, 6] [] (by decide) rfl rfl 0 rfl rfl [(b0 0), (b0 1), (b0 2), (b0 3), (b0 4), (b0 5), (b0 6)] rfl rfl rfl [] rfl rfl rfl rfl hl.1 rfl (Nat.le_of_ble_eq_true rfl) dX0_read_45 (fun H locs hP hD hS => ?_)
        refine lv_iadd hx hb dX0_read_48 ?_
        refine lv_topi (fun x1_6 ex1_6 => ?_)
        replace h := nm_s h ex1_6
        refine lv_istore_n (lv' := [(1, .int x1_6), (3, .int r_3), (0, .ref (b0 0)), (2, .int x2)]) hx hb dX0_read_49 rfl hl (by decide) rfl (fun ls hl => ?_)
        obtain ⟨x2_7, ex2_7⟩ : ∃ z : Int32, z = (x2 + (1 : Int32)) := ⟨_, rfl⟩
        replace h := nm_s h ex2_7
        refine lv_iinc (v := x2_7) (lv' := [(2, .int x2_7), (1, .int x1_6), (3, .int r_3), (0, .ref (b0 0))]) hx hb dX0_read_50 hl (k := 3) rfl (by rw [ex2_7]; rfl) (by decide) rfl (fun ls hl => ?_)
        refine lv_goto (tgt := 14) hx hb dX0_read_53 (by decide) ?_
        cases h
        exact ih r_5.2 x1_6 x2_7 _ _ _ hm hP hD hS (lv_sub hl [3, 1, 0] rfl)
      · replace h := it_n c_4 h
        refine lv_iload_n hx hb dX0_read_40 rfl (lv_at hl 0 rfl) ?_
        cases h
        have hm : _ = rr := hm
        subst hm
        exact kretI hx hb hr hlk hP hS dX0_read_41
set_option maxHeartbeats 4000000 in
set_option maxRecDepth 100000 in
theorem w_X0_read_0 {p : Program} {l : Launch} {e : Env} {s : State} {m : MethodId} {args : Array Value} {below : List Frame} {meth : Method} {c : Code} {A : Nat → Prop} {D : va_G} {cy : Nat → ClassId} {b0 : Nat → Nat} {fu : Nat} {rr : Int32 × DS} (M : kM p s m args meth c cX0_read 4 (some .int) RX0 wsX0_read A D cy) (ih : I_X0_read p l e s m args below meth c A D cy b0 fu rr) {dv : DS} {oo : (DS × Int32 × Int32) ⊕ (Int32 × DS)} (h : f_X0_read_0 dv = some oo) (hm : lpo (st_X0_read ) fu oo rr) {H : Heap} {locs : List Loc} {ls : Array Slot} (hP : va_P D vwCl (wD cy b0 dv []) H) (hD : va_D A (wD cy b0 dv [])) (hS : va_S A s.heap H locs) (hl : lv_has ls 4 [(0, .ref (b0 0))]) : W p l e { frames := 2, cells := 0, slots := 0, locals := 50 } s m args below meth c H locs 0 0 (MQ below (qI D (wD cy b0 rr.2 []) (rr.1) A) args s 0 0 A) (F0 m 0 ls []) := by
  obtain ⟨hx, hb, hr, hml, hown, hts, hlk, hA, hK⟩ := id M
  unfold f_X0_read_0 at h
  refine lv_aload_n hx hb dX0_read_0 rfl (lv_at hl 0 rfl) ?_
  refine lv_iconst (v := 0) hx hb dX0_read_1 (by decide) ?_
  refine va_put (D := D) (ci := 0) (v := .int (0 : Int32)) (ty := .int) (C := RX0) (T := TX0) (N := 10) hx hb hts iX0_read_X0 tyX0 tyX0_ok nmX0 hown hK.1 hP hD hS 0 rfl rfl 7 (by decide) (hts _ mX0_read_1) (fun _ h9 => h9) rfl (by decide +kernel) rfl rfl (Nat.le_of_ble_eq_true rfl) dX0_read_2 (fun H locs hP hD hS => ?_)
  obtain ⟨dv_1, edv_1⟩ : ∃ z : DS, z = (dv.1, dv.2.1, dv.2.2.1, dv.2.2.2.1, dv.2.2.2.2.1, dv.2.2.2.2.2.1, dv.2.2.2.2.2.2.1, (0 : Int32), dv.2.2.2.2.2.2.2.2) := ⟨_, rfl⟩
  replace h := nm_s h edv_1
  have hP : va_P D vwCl (wD cy b0 dv_1 []) H := by subst edv_1; exact hP
  have hD : va_D A (wD cy b0 dv_1 []) := hD.lk [(b0 0), (b0 1), (b0 2), (b0 3), (b0 4), (b0 5), (b0 6)] rfl rfl
  refine lv_aload_n hx hb dX0_read_5 rfl (lv_at hl 0 rfl) ?_
  refine lv_iconst (v := 0) hx hb dX0_read_6 (by decide) ?_
  refine va_put (D := D) (ci := 0) (v := .int (0 : Int32)) (ty := .int) (C := RX0) (T := TX0) (N := 10) hx hb hts iX0_read_X0 tyX0 tyX0_ok nmX0 hown hK.1 hP hD hS 0 rfl rfl 8 (by decide) (hts _ mX0_read_2) (fun _ h9 => h9) rfl (by decide +kernel) rfl rfl (Nat.le_of_ble_eq_true rfl) dX0_read_7 (fun H locs hP hD hS => ?_)
  obtain ⟨dv_2, edv_2⟩ : ∃ z : DS, z = (dv_1.1, dv_1.2.1, dv_1.2.2.1, dv_1.2.2.2.1, dv_1.2.2.2.2.1, dv_1.2.2.2.2.2.1, dv_1.2.2.2.2.2.2.1, dv_1.2.2.2.2.2.2.2.1, (0 : Int32), dv_1.2.2.2.2.2.2.2.2.2) := ⟨_, rfl⟩
  replace h := nm_s h edv_2
  have hP : va_P D vwCl (wD cy b0 dv_2 []) H := by subst edv_2; exact hP
  have hD : va_D A (wD cy b0 dv_2 []) := hD.lk [(b0 0), (b0 1), (b0 2), (b0 3), (b0 4), (b0 5), (b0 6)] rfl rfl
  refine lv_iconst (v := 0) hx hb dX0_read_10 (by decide) ?_
  refine lv_istore_n (lv' := [(1, .int (0 : Int32)), (0, .ref (b0 0))]) hx hb dX0_read_11 rfl hl (by decide) rfl (fun ls hl => ?_)
  refine lv_iconst (v := 0) hx hb dX0_read_12 (by decide) ?_
  refine lv_istore_n (lv' := [(2, .int (0 : Int32)), (1, .int (0 : Int32)), (0, .ref (b0 0))]) hx hb dX0_read_13 rfl hl (by decide) rfl (fun ls hl => ?_)
  cases h
  exact ih dv_2 (0 : Int32) (0 : Int32) _ _ _ hm hP hD hS (lv_sub hl [2, 1, 0] rfl)
theorem wl_X0_read {p : Program} {l : Launch} {e : Env} {s : State} {m : MethodId} {args : Array Value} {below : List Frame} {meth : Method} {c : Code} {A : Nat → Prop} {D : va_G} {cy : Nat → ClassId} {b0 : Nat → Nat} {rr : Int32 × DS} (M : kM p s m args meth c cX0_read 4 (some .int) RX0 wsX0_read A D cy) : ∀ fu : Nat, I_X0_read p l e s m args below meth c A D cy b0 fu rr := by
  intro fu
  induction fu with
  | zero => exact (fun _ _ _ _ _ _ h => by cases h)
  | succ fu ih =>
    exact fun dv x1 x2 H locs ls h hP hD hS hl => by
      obtain ⟨o1, h1, h2⟩ := lpn_s h
      exact w_X0_read_14 M ih h1 h2 hP hD hS hl
theorem c_X0_read {l : Launch} {D : va_G} {cy : Nat → ClassId} (b0 : Nat → Nat) {dv : DS} {rr : Int32 × DS} (h : f_X0_read dv = some rr) : CI l D cy yX0_read wsX0_read { frames := 2, cells := 0, slots := 0, locals := 50 } [.ref (b0 0)] (wD cy b0 dv []) (rr.1) (wD cy b0 rr.2 []) := by
  refine kofI (cc := cX0_read) (maxL := 4) (ret := (some .int)) (by decide) rfl (Nat.le_of_ble_eq_true rfl) ?_
  intro p e s m below meth c A M ls hl hP hD hS
  obtain ⟨o1, fu, h1, h2⟩ := rnx_s h
  exact w_X0_read_0 M (wl_X0_read M fu) h1 h2 hP hD hS hl
theorem eX0_read : yX0_read.cls ≠ "java/lang/invoke/MethodHandle" ∧ yX0_read.cls ≠ "java/lang/invoke/VarHandle" ∧ (parseMethodDescriptor yX0_read.desc).map (fun d => d.parameters.length) = some 0 := by decide +kernel
theorem iX0_write_X0 : ∀ w ∈ u_ws RX0 TX0 10, w ∈ wsX0_write := by decide +kernel
theorem mX0_write_1 : Cond.fieldLink RX0 31 "LentPiles$Pad" "length" "I" ∈ wsX0_write := by decide +kernel
theorem mX0_write_2 : Cond.fieldLink RX0 9 "LentPiles$Pad" "signs" "[C" ∈ wsX0_write := by decide +kernel
set_option maxHeartbeats 4000000 in
set_option maxRecDepth 100000 in
theorem w_X0_write_0 {p : Program} {l : Launch} {e : Env} {s : State} {m : MethodId} {args : Array Value} {below : List Frame} {meth : Method} {c : Code} {A : Nat → Prop} {D : va_G} {cy : Nat → ClassId} {b0 : Nat → Nat} {x1 : Int32} {rr : Int32 × DS} (M : kM p s m args meth c cX0_write 2 (some .boolean) RX0 wsX0_write A D cy) {dv : DS} (h : f_X0_write dv x1 = some rr) {H : Heap} {locs : List Loc} {ls : Array Slot} (hP : va_P D vwCl (wD cy b0 dv []) H) (hD : va_D A (wD cy b0 dv [])) (hS : va_S A s.heap H locs) (hl : lv_has ls 2 [(0, .ref (b0 0)), (1, .int x1)]) : W p l e { frames := 0, cells := 0, slots := 0, locals := 0 } s m args below meth c H locs 0 0 (MQ below (qI D (wD cy b0 rr.2 []) (rr.1) A) args s 0 0 A) (F0 m 0 ls []) := by
  obtain ⟨hx, hb, hr, hml, hown, hts, hlk, hA, hK⟩ := id M
  unfold f_X0_write at h
  refine lv_aload_n hx hb dX0_write_0 rfl (lv_at hl 0 rfl) ?_
  refine va_get (D := D) (ci := 0) (v := .int dv.2.2.2.2.2.2.1) (C := RX0) (T := TX0) (N := 10) hx hb hts iX0_write_X0 hown hK.1 hP 0 rfl rfl 6 (by decide) (hts _ mX0_write_1) (fun _ h9 => h9) rfl dX0_write_1 ?_
  refine lv_if_lt (tgt := 16) hx hb dX0_write_4 (by decide) (fun c_1 => ?_) (fun c_1 => ?_)
  · replace h := it_p c_1 h
    refine lv_iconst (v := 0) hx hb dX0_write_16 (by decide) ?_
    cases h
    exact kretZ (r0 := (0 : Int32)) (ty := .boolean) hx hb hr hlk hP hS (by decide) dX0_write_17
  · replace h := it_n c_1 h
    refine lv_aload_n hx hb dX0_write_7 rfl (lv_at hl 0 rfl) ?_
    refine va_get (D := D) (ci := 0) (v := .int dv.2.2.2.2.2.2.1) (C := RX0) (T := TX0) (N := 10) hx hb hts iX0_write_X0 hown hK.1 hP 0 rfl rfl 6 (by decide) (hts _ mX0_write_1) (fun _ h9 => h9) rfl dX0_write_8 ?_
    refine lv_bipush (v := 60) hx hb dX0_write_11 (by decide) ?_
    refine lv_icmp_lt (tgt := 18) hx hb dX0_write_13 (by decide) (fun c_2 => ?_) (fun c_2 => ?_)
    · replace h := it_p c_2 h
      refine lv_aload_n hx hb dX0_write_18 rfl (lv_at hl 0 rfl) ?_
      refine va_get (D := D) (ci := 0) (v := .ref (b0 1)) (C := RX0) (T := TX0) (N := 10) hx hb hts iX0_write_X0 hown hK.1 hP 0 rfl rfl 0 (by decide) (hts _ mX0_write_2) (fun _ h9 => h9) rfl dX0_write_19 ?_
      refine lv_aload_n hx hb dX0_write_22 rfl (lv_at hl 0 rfl) ?_
      refine va_get (D := D) (ci := 0) (v := .int dv.2.2.2.2.2.2.1) (C := RX0) (T := TX0) (N := 10) hx hb hts iX0_write_X0 hown hK.1 hP 0 rfl rfl 6 (by decide) (hts _ mX0_write_1) (fun _ h9 => h9) rfl dX0_write_23 ?_
      refine lv_iload_n hx hb dX0_write_26 rfl (lv_at hl 1 rfl) ?_
      obtain ⟨b_3, h⟩ := ck_s h
      refine va_cast hx hb hK.1 hP hD hS 1 0 rfl rfl b_3 dX0_write_27 (fun H locs hP hD hS => ?_)
      obtain ⟨dv_4, edv_4⟩ : ∃ z : DS, z = ((upd dv.1 dv.2.2.2.2.2.2.1.toNatClampNeg (vp_nar .char x1)), dv.2) := ⟨_, rfl⟩
      replace h := nm_s h edv_4
      have hP : va_P D vwCl (wD cy b0 dv_4 []) H := by subst edv_4; exact hP
      have hD : va_D A (wD cy b0 dv_4 []) := hD.lk [(b0 0), (b0 1), (b0 2), (b0 3), (b0 4), (b0 5), (b0 6)] rfl rfl
      refine lv_aload_n hx hb dX0_write_28 rfl (lv_at hl 0 rfl) ?_
      refine lv_dup hx hb dX0_write_29 rfl ?_
      refine va_get (D := D) (ci := 0) (v := .int dv_4.2.2.2.2.2.2.1) (C := RX0) (T := TX0) (N := 10) hx hb hts iX0_write_X0 hown hK.1 hP 0 rfl rfl 6 (by decide) (hts _ mX0_write_1) (fun _ h9 => h9) rfl dX0_write_30 ?_
      refine lv_iconst (v := 1) hx hb dX0_write_33 (by decide) ?_
      refine lv_iadd hx hb dX0_write_34 ?_
      refine va_put (D := D) (ci := 0) (v := .int (dv_4.2.2.2.2.2.2.1 + (1 : Int32))) (ty := .int) (C := RX0) (T := TX0) (N := 10) hx hb hts iX0_write_X0 tyX0 tyX0_ok nmX0 hown hK.1 hP hD hS 0 rfl rfl 6 (by decide) (hts _ mX0_write_1) (fun _ h9 => h9) rfl (by decide +kernel) rfl rfl (Nat.le_of_ble_eq_true rfl) dX0_write_35 (fun H locs hP hD hS => ?_)
      obtain ⟨dv_5, edv_5⟩ : ∃ z : DS, z = (dv_4.1, dv_4.2.1, dv_4.2.2.1, dv_4.2.2.2.1, dv_4.2.2.2.2.1, dv_4.2.2.2.2.2.1, (dv_4.2.2.2.2.2.2.1 + (1 : Int32)), dv_4.2.2.2.2.2.2.2) := ⟨_, rfl⟩
      replace h := nm_s h edv_5
      have hP : va_P D vwCl (wD cy b0 dv_5 []) H := by subst edv_5; exact hP
      have hD : va_D A (wD cy b0 dv_5 []) := hD.lk [(b0 0), (b0 1), (b0 2), (b0 3), (b0 4), (b0 5), (b0 6)] rfl rfl
      refine lv_iconst (v := 1) hx hb dX0_write_38 (by decide) ?_
      cases h
      exact kretZ (r0 := (1 : Int32)) (ty := .boolean) hx hb hr hlk hP hS (by decide) dX0_write_39
    · replace h := it_n c_2 h
      refine lv_iconst (v := 0) hx hb dX0_write_16 (by decide) ?_
      cases h
      exact kretZ (r0 := (0 : Int32)) (ty := .boolean) hx hb hr hlk hP hS (by decide) dX0_write_17
theorem c_X0_write {l : Launch} {D : va_G} {cy : Nat → ClassId} (b0 : Nat → Nat) {dv : DS} {x1 : Int32} {rr : Int32 × DS} (h : f_X0_write dv x1 = some rr) : CI l D cy yX0_write wsX0_write { frames := 0, cells := 0, slots := 0, locals := 0 } [.ref (b0 0), .int x1] (wD cy b0 dv []) (rr.1) (wD cy b0 rr.2 []) := by
  refine kofI (cc := cX0_write) (maxL := 2) (ret := (some .boolean)) (by decide) rfl (Nat.le_of_ble_eq_true rfl) ?_
  intro p e s m below meth c A M ls hl hP hD hS
  exact w_X0_write_0 M h hP hD hS hl
theorem eX0_write : yX0_write.cls ≠ "java/lang/invoke/MethodHandle" ∧ yX0_write.cls ≠ "java/lang/invoke/VarHandle" ∧ (parseMethodDescriptor yX0_write.desc).map (fun d => d.parameters.length) = some 1 := by decide +kernel
theorem iX0_writeMen_X0 : ∀ w ∈ u_ws RX0 TX0 10, w ∈ wsX0_writeMen := by decide +kernel
theorem mX0_writeMen_1 : Cond.fieldLink RX0 38 "LentPiles$Pad" "asks" "I" ∈ wsX0_writeMen := by decide +kernel
theorem mX0_writeMen_2 : Cond.methodLink RX0 66 Lib.Math.min.name ∈ wsX0_writeMen := by decide +kernel
theorem mX0_writeMen_3 : Cond.static Lib.Math.min.name ∈ wsX0_writeMen := by decide +kernel
theorem mX0_writeMen_4 : Cond.initialized "java/lang/Math" ∈ wsX0_writeMen := by decide +kernel
theorem mX0_writeMen_5 : Cond.code Lib.Math.min.name Lib.Math.min.code 2 (some .int) ∈ wsX0_writeMen := by decide +kernel
theorem mX0_writeMen_6 : Cond.fieldLink RX0 28 "LentPiles$Pad" "guess" "[I" ∈ wsX0_writeMen := by decide +kernel
def I_X0_writeMen (p : Program) (l : Launch) (e : Env) (s : State) (m : MethodId) (args : Array Value) (below : List Frame) (meth : Method) (c : Code) (A : Nat → Prop) (D : va_G) (cy : Nat → ClassId) (b0 : Nat → Nat) (x1 : Int32) (fu : Nat) (rr : DS) : Prop := (∀ (dv : DS) (x2 : Int32) (x3 : Int32) (H : Heap) (locs : List Loc) (ls : Array Slot), lpn (st_X0_writeMen x1) fu (dv, x2, x3) = some rr → va_P D vwCl (wD cy b0 dv []) H → va_D A (wD cy b0 dv []) → va_S A s.heap H locs → lv_has ls 4 [(0, .ref (b0 0)), (1, .int x1), (2, .int x2), (3, .int x3)] → W p l e { frames := 1, cells := 0, slots := 0, locals := 21 } s m args below meth c H locs 0 0 (MQ below (qV D (wD cy b0 rr []) A) args s 0 0 A) (F0 m 13 ls []))
set_option maxHeartbeats 4000000 in
set_option maxRecDepth 100000 in
theorem w_X0_writeMen_13 {p : Program} {l : Launch} {e : Env} {s : State} {m : MethodId} {args : Array Value} {below : List Frame} {meth : Method} {c : Code} {A : Nat → Prop} {D : va_G} {cy : Nat → ClassId} {b0 : Nat → Nat} {x1 : Int32} {fu : Nat} {rr : DS} (M : kM p s m args meth c cX0_writeMen 4 none RX0 wsX0_writeMen A D cy) (ih : I_X0_writeMen p l e s m args below meth c A D cy b0 x1 fu rr) {dv : DS} {x2 : Int32} {x3 : Int32} {oo : (DS × Int32 × Int32) ⊕ (DS)} (h : f_X0_writeMen_13 x1 dv x2 x3 = some oo) (hm : lpo (st_X0_writeMen x1) fu oo rr) {H : Heap} {locs : List Loc} {ls : Array Slot} (hP : va_P D vwCl (wD cy b0 dv []) H) (hD : va_D A (wD cy b0 dv [])) (hS : va_S A s.heap H locs) (hl : lv_has ls 4 [(0, .ref (b0 0)), (1, .int x1), (2, .int x2), (3, .int x3)]) : W p l e { frames := 1, cells := 0, slots := 0, locals := 21 } s m args below meth c H locs 0 0 (MQ below (qV D (wD cy b0 rr []) A) args s 0 0 A) (F0 m 13 ls []) := by
  obtain ⟨hx, hb, hr, hml, hown, hts, hlk, hA, hK⟩ := id M
  unfold f_X0_writeMen_13 at h
  refine lv_iload_n hx hb dX0_writeMen_13 rfl (lv_at hl 3 rfl) ?_
  refine lv_if_lt (tgt := 38) hx hb dX0_writeMen_14 (by decide) (fun c_1 => ?_) (fun c_1 => ?_)
  · replace h := it_p c_1 h
    cases h
    have hm : _ = rr := hm
    subst hm
    exact kretV hx hb hr hlk hP hS dX0_writeMen_38
  · replace h := it_n c_1 h
    refine lv_aload_n hx hb dX0_writeMen_17 rfl (lv_at hl 0 rfl) ?_
    refine va_get (D := D) (ci := 0) (v := .ref (b0 6)) (C := RX0) (T := TX0) (N := 10) hx hb hts iX0_writeMen_X0 hown hK.1 hP 0 rfl rfl 5 (by decide) (hts _ mX0_writeMen_6) (fun _ h9 => h9) rfl dX0_writeMen_18 ?_
    refine lv_iload_n hx hb dX0_writeMen_21 rfl (lv_at hl 3 rfl) ?_
    refine lv_iload_n hx hb dX0_writeMen_22 rfl (lv_at hl 2 rfl) ?_
    refine lv_bipush (v := 6) hx hb dX0_writeMen_23 (by decide) ?_
    refine lv_irem hx hb dX0_writeMen_25 (by decide) ?_
    obtain ⟨b_2, h⟩ := ck_s h
    refine va_iast hx hb hK.1 hP hD hS 6 1 rfl rfl b_2 dX0_writeMen_26 (fun H locs hP hD hS => ?_)
    obtain ⟨dv_3, edv_3⟩ : ∃ z : DS, z = (dv.1, dv.2.1, dv.2.2.1, dv.2.2.2.1, dv.2.2.2.2.1, (upd dv.2.2.2.2.2.1 x3.toNatClampNeg (x2 - x2 / (6 : Int32) * (6 : Int32))), dv.2.2.2.2.2.2) := ⟨_, rfl⟩
    replace h := nm_s h edv_3
    have hP : va_P D vwCl (wD cy b0 dv_3 []) H := by subst edv_3; exact hP
    have hD : va_D A (wD cy b0 dv_3 []) := hD.lk [(b0 0), (b0 1), (b0 2), (b0 3), (b0 4), (b0 5), (b0 6)] rfl rfl
    refine lv_iload_n hx hb dX0_writeMen_27 rfl (lv_at hl 2 rfl) ?_
    refine lv_bipush (v := 6) hx hb dX0_writeMen_28 (by decide) ?_
    refine lv_idiv hx hb dX0_writeMen_30 (by decide) ?_
    refine lv_topi (fun x2_4 ex2_4 => ?_)
    replace h := nm_s h ex2_4
    refine lv_istore_n (lv' := [(2, .int x2_4), (0, .ref (b0 0)), (1, .int x1), (3, .int x3)]) hx hb dX0_writeMen_31 rfl hl (by decide) rfl (fun ls hl => ?_)
    obtain ⟨x3_5, ex3_5⟩ : ∃ z : Int32, z = (x3 + (-1 : Int32)) := ⟨_, rfl⟩
    replace h := nm_s h ex3_5
    refine lv_iinc (v := x3_5) (lv' := [(3, .int x3_5), (2, .int x2_4), (0, .ref (b0 0)), (1, .int x1)]) hx hb dX0_writeMen_32 hl (k := 3) rfl (by rw [ex3_5]; rfl) (by decide) rfl (fun ls hl => ?_)
    refine lv_goto (tgt := 13) hx hb dX0_writeMen_35 (by decide) ?_
    cases h
    exact ih dv_3 x2_4 x3_5 _ _ _ hm hP hD hS (lv_sub hl [2, 3, 1, 0] rfl)
set_option maxHeartbeats 4000000 in
set_option maxRecDepth 100000 in
theorem w_X0_writeMen_0 {p : Program} {l : Launch} {e : Env} {s : State} {m : MethodId} {args : Array Value} {below : List Frame} {meth : Method} {c : Code} {A : Nat → Prop} {D : va_G} {cy : Nat → ClassId} {b0 : Nat → Nat} {x1 : Int32} {fu : Nat} {rr : DS} (M : kM p s m args meth c cX0_writeMen 4 none RX0 wsX0_writeMen A D cy) (ih : I_X0_writeMen p l e s m args below meth c A D cy b0 x1 fu rr) {dv : DS} {oo : (DS × Int32 × Int32) ⊕ (DS)} (h : f_X0_writeMen_0 dv x1 = some oo) (hm : lpo (st_X0_writeMen x1) fu oo rr) {H : Heap} {locs : List Loc} {ls : Array Slot} (hP : va_P D vwCl (wD cy b0 dv []) H) (hD : va_D A (wD cy b0 dv [])) (hS : va_S A s.heap H locs) (hl : lv_has ls 4 [(0, .ref (b0 0)), (1, .int x1)]) : W p l e { frames := 1, cells := 0, slots := 0, locals := 21 } s m args below meth c H locs 0 0 (MQ below (qV D (wD cy b0 rr []) A) args s 0 0 A) (F0 m 0 ls []) := by
  obtain ⟨hx, hb, hr, hml, hown, hts, hlk, hA, hK⟩ := id M
  unfold f_X0_writeMen_0 at h
  refine lv_iload_n hx hb dX0_writeMen_0 rfl (lv_at hl 1 rfl) ?_
  refine lv_istore_n (lv' := [(2, .int x1), (0, .ref (b0 0)), (1, .int x1)]) hx hb dX0_writeMen_1 rfl hl (by decide) rfl (fun ls hl => ?_)
  refine lv_aload_n hx hb dX0_writeMen_2 rfl (lv_at hl 1 rfl) ?_
  refine va_get (D := D) (ci := 0) (v := .int dv.2.2.2.2.2.2.2.2.1) (C := RX0) (T := TX0) (N := 10) hx hb hts iX0_writeMen_X0 hown hK.1 hP 0 rfl rfl 8 (by decide) (hts _ mX0_writeMen_1) (fun _ h9 => h9) rfl dX0_writeMen_3 ?_
  refine lv_iconst (v := 3) hx hb dX0_writeMen_6 (by decide) ?_
  refine va_mmin hx hb (hml.trans hl.1.symm) hown (hts _ mX0_writeMen_2) (hts _ mX0_writeMen_3) (hts _ mX0_writeMen_4) (hts _ mX0_writeMen_5) (Nat.le_of_ble_eq_true rfl) (Nat.le_of_ble_eq_true rfl) (Nat.zero_le _) (Nat.zero_le _) dX0_writeMen_7 ?_
  refine lv_topi (fun t_1 et_1 => ?_)
  replace h := nm_s h et_1
  refine lv_iconst (v := 1) hx hb dX0_writeMen_10 (by decide) ?_
  refine lv_isub hx hb dX0_writeMen_11 ?_
  refine lv_topi (fun x3_2 ex3_2 => ?_)
  replace h := nm_s h ex3_2
  refine lv_istore_n (lv' := [(3, .int x3_2), (2, .int x1), (0, .ref (b0 0)), (1, .int x1)]) hx hb dX0_writeMen_12 rfl hl (by decide) rfl (fun ls hl => ?_)
  cases h
  exact ih dv x1 x3_2 _ _ _ hm hP hD hS (lv_sub hl [2, 3, 1, 0] rfl)
theorem wl_X0_writeMen {p : Program} {l : Launch} {e : Env} {s : State} {m : MethodId} {args : Array Value} {below : List Frame} {meth : Method} {c : Code} {A : Nat → Prop} {D : va_G} {cy : Nat → ClassId} {b0 : Nat → Nat} {x1 : Int32} {rr : DS} (M : kM p s m args meth c cX0_writeMen 4 none RX0 wsX0_writeMen A D cy) : ∀ fu : Nat, I_X0_writeMen p l e s m args below meth c A D cy b0 x1 fu rr := by
  intro fu
  induction fu with
  | zero => exact (fun _ _ _ _ _ _ h => by cases h)
  | succ fu ih =>
    exact fun dv x2 x3 H locs ls h hP hD hS hl => by
      obtain ⟨o1, h1, h2⟩ := lpn_s h
      exact w_X0_writeMen_13 M ih h1 h2 hP hD hS hl
theorem c_X0_writeMen {l : Launch} {D : va_G} {cy : Nat → ClassId} (b0 : Nat → Nat) {dv : DS} {x1 : Int32} {rr : DS} (h : f_X0_writeMen dv x1 = some rr) : CV l D cy yX0_writeMen wsX0_writeMen { frames := 1, cells := 0, slots := 0, locals := 21 } [.ref (b0 0), .int x1] (wD cy b0 dv []) (wD cy b0 rr []) := by
  refine kofV (cc := cX0_writeMen) (maxL := 4) (ret := none) (by decide) rfl (Nat.le_of_ble_eq_true rfl) ?_
  intro p e s m below meth c A M ls hl hP hD hS
  obtain ⟨o1, fu, h1, h2⟩ := rnx_s h
  exact w_X0_writeMen_0 M (wl_X0_writeMen M fu) h1 h2 hP hD hS hl
theorem eX0_writeMen : yX0_writeMen.cls ≠ "java/lang/invoke/MethodHandle" ∧ yX0_writeMen.cls ≠ "java/lang/invoke/VarHandle" ∧ (parseMethodDescriptor yX0_writeMen.desc).map (fun d => d.parameters.length) = some 1 := by decide +kernel
