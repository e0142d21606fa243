/-! printed by wip/gen/gen.py: the walks -/
theorem iX3_ring_X3 : ∀ w ∈ u_ws RX3 TX3 8, w ∈ wsX3_ring := by decide +kernel
theorem mX3_ring_1 : Cond.fieldLink RX3 12 "LentPiles" "now" "LLentPiles$Valley;" ∈ wsX3_ring := by decide +kernel
set_option maxHeartbeats 4000000 in
set_option maxRecDepth 100000 in
theorem w_X3_ring_0 {p : Program} {l : Launch} {e : Env} {s : State} {m : MethodId} {args : Array Value} {below : List Frame} {meth : Method} {c : Code} {A : Nat → Prop} {D : va_G} {cy : Nat → ClassId} {x0 : Nat} {r1 : Nat} {r2 : Nat} {r3 : Nat} {r4 : Nat} {r5 : Nat} {r6 : Nat} {b1 : Nat → Nat} {kx : Int32} {vv : VS} {x1 : Int32} {rr : Int32} (M : kM p s m args meth c cX3_ring 2 (some .int) RX3 wsX3_ring A D cy)  (h : f_X3_ring vv x1 = some rr) {H : Heap} {locs : List Loc} {ls : Array Slot} (hP : va_P D vwCl (wX x0 (b1 0) r1 r2 r3 r4 r5 r6 kx (wV cy b1 vv [])) H) (hD : va_D A (wX x0 (b1 0) r1 r2 r3 r4 r5 r6 kx (wV cy b1 vv []))) (hS : va_S A s.heap H locs) (hl : lv_has ls 2 [(0, .ref x0), (1, .int x1)]) : W p l e { frames := 4, cells := 0, slots := 0, locals := 94 } s m args below meth c H locs 0 0 (MQ below (qI D (wX x0 (b1 0) r1 r2 r3 r4 r5 r6 kx (wV cy b1 vv [])) (rr) A) args s 0 0 A) (F0 m 0 ls []) := by
  obtain ⟨hx, hb, hr, hml, hown, hts, hlk, hA, hK⟩ := id M
  unfold f_X3_ring at h
  refine lv_iload_n hx hb dX3_ring_0 rfl (lv_at hl 1 rfl) ?_
  obtain ⟨r_1, hr_1, h⟩ := bn_s h
  refine kcSi (As := [.int x1]) (rest := []) ⟨hx, hb, hml, hown, hts⟩ (va_cwS 1 hts gX3_ring_X3_isMan rfl rfl rfl eX3_isMan ⟨Nat.le_of_ble_eq_true rfl, Nat.le_of_ble_eq_true rfl⟩) (c_X3_isMan  hr_1) hK hP hS hA rfl hl.1 rfl (Nat.le_of_ble_eq_true rfl) dX3_ring_1 (fun H locs hP hS => ?_)
  refine lv_if_eq (tgt := 18) hx hb dX3_ring_4 (by decide) (fun c_2 => ?_) (fun c_2 => ?_)
  · replace h := it_p c_2 h
    refine lv_iconst (v := (-1)) hx hb dX3_ring_18 (by decide) ?_
    cases h
    exact kretI hx hb hr hlk hP hS dX3_ring_19
  · replace h := it_n c_2 h
    refine lv_aload_n hx hb dX3_ring_7 rfl (lv_at hl 0 rfl) ?_
    refine va_get (D := D) (ci := 3) (v := .ref (b1 0)) (C := RX3) (T := TX3) (N := 8) hx hb hts iX3_ring_X3 hown hK.1 hP 0 rfl rfl 0 (by decide) (hts _ mX3_ring_1) (fun _ h9 => h9) rfl dX3_ring_8 ?_
    refine lv_iload_n hx hb dX3_ring_11 rfl (lv_at hl 1 rfl) ?_
    obtain ⟨r_3, hr_3, h⟩ := bn_s h
    refine kcVi (As := [.int x1]) (rest := []) (ws' := (wX x0 (b1 0) r1 r2 r3 r4 r5 r6 kx (wV cy b1 vv []))) ⟨hx, hb, hml, hown, hts⟩ (cwV 1 hts gX3_ring_X2_ringOf rfl rfl rfl ⟨rfl, eX2_ringOf⟩ ⟨Nat.le_of_ble_eq_true rfl, Nat.le_of_ble_eq_true rfl⟩) (c_X2_ringOf b1 hr_3) hK hP hD hS hA [1, 2, 3, 4, 5, 6, 7, 8] [0] (by decide) rfl rfl 2 rfl rfl [x0, (b1 0), (b1 1), (b1 2), (b1 3), (b1 4), (b1 5), (b1 6), (b1 7)] rfl rfl rfl (wX x0 (b1 0) r1 r2 r3 r4 r5 r6 kx []) rfl rfl rfl rfl hl.1 rfl (Nat.le_of_ble_eq_true rfl) dX3_ring_12 (fun H locs hP hD hS => ?_)
    refine lv_goto (tgt := 19) hx hb dX3_ring_15 (by decide) ?_
    cases h
    exact kretI hx hb hr hlk hP hS dX3_ring_19
theorem c_X3_ring {l : Launch} {D : va_G} {cy : Nat → ClassId} (x0 : Nat) (r1 : Nat) (r2 : Nat) (r3 : Nat) (r4 : Nat) (r5 : Nat) (r6 : Nat) (b1 : Nat → Nat) (kx : Int32) {vv : VS} {x1 : Int32} {rr : Int32} (h : f_X3_ring vv x1 = some rr) : CI l D cy yX3_ring wsX3_ring { frames := 4, cells := 0, slots := 0, locals := 94 } [.ref x0, .int x1] (wX x0 (b1 0) r1 r2 r3 r4 r5 r6 kx (wV cy b1 vv [])) (rr) (wX x0 (b1 0) r1 r2 r3 r4 r5 r6 kx (wV cy b1 vv [])) := by
  refine kofI (cc := cX3_ring) (maxL := 2) (ret := (some .int)) (by decide) rfl (Nat.le_of_ble_eq_true rfl) ?_
  intro p e s m below meth c A M ls hl hP hD hS
  exact w_X3_ring_0 M h hP hD hS hl
theorem eX3_ring : yX3_ring.cls ≠ "java/lang/invoke/MethodHandle" ∧ yX3_ring.cls ≠ "java/lang/invoke/VarHandle" ∧ (parseMethodDescriptor yX3_ring.desc).map (fun d => d.parameters.length) = some 1 := by decide +kernel
theorem iX3_say_X3 : ∀ w ∈ u_ws RX3 TX3 8, w ∈ wsX3_say := by decide +kernel
theorem iX3_say_X0 : ∀ w ∈ u_ws RX0 TX0 10, w ∈ wsX3_say := by decide +kernel
theorem mX3_say_1 : Cond.fieldLink RX3 28 "LentPiles" "pad" "LLentPiles$Pad;" ∈ wsX3_say := by decide +kernel
set_option maxHeartbeats 4000000 in
set_option maxRecDepth 100000 in
theorem w_X3_say_0 {p : Program} {l : Launch} {e : Env} {s : State} {m : MethodId} {args : Array Value} {below : List Frame} {meth : Method} {c : Code} {A : Nat → Prop} {D : va_G} {cy : Nat → ClassId} {x0 : Nat} {r0 : Nat} {r1 : Nat} {r2 : Nat} {r3 : Nat} {r5 : Nat} {r6 : Nat} {b1 : Nat → Nat} {kx : Int32} {x1 : Int32} {rr : Int32 × DS} (M : kM p s m args meth c cX3_say 2 (some .int) RX3 wsX3_say A D cy) {dv : DS} (h : f_X3_say dv x1 = some rr) {H : Heap} {locs : List Loc} {ls : Array Slot} (hP : va_P D vwCl (wX x0 r0 r1 r2 r3 (b1 0) r5 r6 kx (wD cy b1 dv [])) H) (hD : va_D A (wX x0 r0 r1 r2 r3 (b1 0) r5 r6 kx (wD cy b1 dv []))) (hS : va_S A s.heap H locs) (hl : lv_has ls 2 [(0, .ref x0), (1, .int x1)]) : W p l e { frames := 1, cells := 0, slots := 0, locals := 22 } s m args below meth c H locs 0 0 (MQ below (qI D (wX x0 r0 r1 r2 r3 (b1 0) r5 r6 kx (wD cy b1 rr.2 [])) (rr.1) A) args s 0 0 A) (F0 m 0 ls []) := by
  obtain ⟨hx, hb, hr, hml, hown, hts, hlk, hA, hK⟩ := id M
  unfold f_X3_say at h
  refine lv_iload_n hx hb dX3_say_0 rfl (lv_at hl 1 rfl) ?_
  refine lv_bipush (v := 33) hx hb dX3_say_1 (by decide) ?_
  refine lv_bipush (v := 126) hx hb dX3_say_3 (by decide) ?_
  obtain ⟨r_1, hr_1, h⟩ := bn_s h
  refine kcSi (As := [.int x1, .int (33 : Int32), .int (126 : Int32)]) (rest := []) ⟨hx, hb, hml, hown, hts⟩ (va_cwS 3 hts gX3_say_X3_isWithin rfl rfl rfl eX3_isWithin ⟨Nat.le_of_ble_eq_true rfl, Nat.le_of_ble_eq_true rfl⟩) (c_X3_isWithin  hr_1) hK hP hS hA rfl hl.1 rfl (Nat.le_of_ble_eq_true rfl) dX3_say_5 (fun H locs hP hS => ?_)
  refine lv_if_ne (tgt := 14) hx hb dX3_say_8 (by decide) (fun c_2 => ?_) (fun c_2 => ?_)
  · replace h := it_n c_2 h
    refine lv_aload_n hx hb dX3_say_14 rfl (lv_at hl 0 rfl) ?_
    refine va_get (D := D) (ci := 3) (v := .ref (b1 0)) (C := RX3) (T := TX3) (N := 8) hx hb hts iX3_say_X3 hown hK.1 hP 0 rfl rfl 4 (by decide) (hts _ mX3_say_1) (fun _ h9 => h9) rfl dX3_say_15 ?_
    refine lv_iload_n hx hb dX3_say_18 rfl (lv_at hl 1 rfl) ?_
    refine lv_i2c hx hb dX3_say_19 rfl ?_
    obtain ⟨r_3, hr_3, h⟩ := bn_s h
    refine kcVi (As := [.int ((x1.toUInt32 % 65536).toInt32)]) (rest := []) (ws' := (wX x0 r0 r1 r2 r3 (b1 0) r5 r6 kx (wD cy b1 r_3.2 []))) ⟨hx, hb, hml, hown, hts⟩ (cwV 1 hts gX3_say_X0_write rfl rfl rfl ⟨rfl, eX0_write⟩ ⟨Nat.le_of_ble_eq_true rfl, Nat.le_of_ble_eq_true rfl⟩) (c_X0_write b1 hr_3) hK hP hD hS hA [1, 2, 3, 4, 5, 6, 7] [0] (by decide) rfl rfl 0 rfl rfl [x0, (b1 0), (b1 1), (b1 2), (b1 3), (b1 4), (b1 5), (b1 6)] rfl rfl rfl (wX x0 r0 r1 r2 r3 (b1 0) r5 r6 kx []) rfl rfl rfl rfl hl.1 rfl (Nat.le_of_ble_eq_true rfl) dX3_say_20 (fun H locs hP hD hS => ?_)
    refine lv_if_eq (tgt := 36) hx hb dX3_say_23 (by decide) (fun c_4 => ?_) (fun c_4 => ?_)
    · replace h := it_p c_4 h
      refine lv_bipush (v := (-4)) hx hb dX3_say_36 (by decide) ?_
      cases h
      exact kretI hx hb hr hlk hP hS dX3_say_38
    · replace h := it_n c_4 h
      refine lv_aload_n hx hb dX3_say_26 rfl (lv_at hl 0 rfl) ?_
      refine va_get (D := D) (ci := 3) (v := .ref (b1 0)) (C := RX3) (T := TX3) (N := 8) hx hb hts iX3_say_X3 hown hK.1 hP 0 rfl rfl 4 (by decide) (hts _ mX3_say_1) (fun _ h9 => h9) rfl dX3_say_27 ?_
      refine va_getN (D := D) (ci := 0) (v := .int r_3.2.2.2.2.2.2.2.1) (C := RX0) (T := TX0) (N := 10) hx hb hts iX3_say_X0 hown hK.1 hP 1 rfl rfl 6 (by decide) (va_Nw.use rfl (kN_73 hK.2)) (fun _ h9 => h9) rfl dX3_say_30 ?_
      refine lv_goto (tgt := 38) hx hb dX3_say_33 (by decide) ?_
      cases h
      exact kretI hx hb hr hlk hP hS dX3_say_38
  · replace h := it_p c_2 h
    refine lv_bipush (v := (-2)) hx hb dX3_say_11 (by decide) ?_
    cases h
    exact kretI hx hb hr hlk hP hS dX3_say_13
theorem c_X3_say {l : Launch} {D : va_G} {cy : Nat → ClassId} (x0 : Nat) (r0 : Nat) (r1 : Nat) (r2 : Nat) (r3 : Nat) (r5 : Nat) (r6 : Nat) (b1 : Nat → Nat) (kx : Int32) {dv : DS} {x1 : Int32} {rr : Int32 × DS} (h : f_X3_say dv x1 = some rr) : CI l D cy yX3_say wsX3_say { frames := 1, cells := 0, slots := 0, locals := 22 } [.ref x0, .int x1] (wX x0 r0 r1 r2 r3 (b1 0) r5 r6 kx (wD cy b1 dv [])) (rr.1) (wX x0 r0 r1 r2 r3 (b1 0) r5 r6 kx (wD cy b1 rr.2 [])) := by
  refine kofI (cc := cX3_say) (maxL := 2) (ret := (some .int)) (by decide) rfl (Nat.le_of_ble_eq_true rfl) ?_
  intro p e s m below meth c A M ls hl hP hD hS
  exact w_X3_say_0 M h hP hD hS hl
theorem eX3_say : yX3_say.cls ≠ "java/lang/invoke/MethodHandle" ∧ yX3_say.cls ≠ "java/lang/invoke/VarHandle" ∧ (parseMethodDescriptor yX3_say.desc).map (fun d => d.parameters.length) = some 1 := by decide +kernel
theorem iX3_seen_X3 : ∀ w ∈ u_ws RX3 TX3 8, w ∈ wsX3_seen := by decide +kernel
theorem iX3_seen_X2 : ∀ w ∈ u_ws RX2 TX2 11, w ∈ wsX3_seen := by decide +kernel
theorem mX3_seen_1 : Cond.fieldLink RX3 12 "LentPiles" "now" "LLentPiles$Valley;" ∈ wsX3_seen := by decide +kernel
set_option maxHeartbeats 4000000 in
set_option maxRecDepth 100000 in
theorem w_X3_seen_0 {p : Program} {l : Launch} {e : Env} {s : State} {m : MethodId} {args : Array Value} {below : List Frame} {meth : Method} {c : Code} {A : Nat → Prop} {D : va_G} {cy : Nat → ClassId} {x0 : Nat} {r1 : Nat} {r2 : Nat} {r3 : Nat} {r4 : Nat} {r5 : Nat} {r6 : Nat} {b1 : Nat → Nat} {kx : Int32} {x1 : Int32} {x2 : Int32} {rr : Int32 × VS} (M : kM p s m args meth c cX3_seen 3 (some .int) RX3 wsX3_seen A D cy) {vv : VS} (h : f_X3_seen vv x1 x2 = some rr) {H : Heap} {locs : List Loc} {ls : Array Slot} (hP : va_P D vwCl (wX x0 (b1 0) r1 r2 r3 r4 r5 r6 kx (wV cy b1 vv [])) H) (hD : va_D A (wX x0 (b1 0) r1 r2 r3 r4 r5 r6 kx (wV cy b1 vv []))) (hS : va_S A s.heap H locs) (hl : lv_has ls 3 [(0, .ref x0), (1, .int x1), (2, .int x2)]) : W p l e { frames := 1, cells := 0, slots := 0, locals := 22 } s m args below meth c H locs 0 0 (MQ below (qI D (wX x0 (b1 0) r1 r2 r3 r4 r5 r6 kx (wV cy b1 rr.2 [])) (rr.1) A) args s 0 0 A) (F0 m 0 ls []) := by
  obtain ⟨hx, hb, hr, hml, hown, hts, hlk, hA, hK⟩ := id M
  unfold f_X3_seen at h
  refine lv_iload_n hx hb dX3_seen_0 rfl (lv_at hl 1 rfl) ?_
  obtain ⟨r_1, hr_1, h⟩ := bn_s h
  refine kcSi (As := [.int x1]) (rest := []) ⟨hx, hb, hml, hown, hts⟩ (va_cwS 1 hts gX3_seen_X3_isMan rfl rfl rfl eX3_isMan ⟨Nat.le_of_ble_eq_true rfl, Nat.le_of_ble_eq_true rfl⟩) (c_X3_isMan  hr_1) hK hP hS hA rfl hl.1 rfl (Nat.le_of_ble_eq_true rfl) dX3_seen_1 (fun H locs hP hS => ?_)
  refine lv_if_ne (tgt := 9) hx hb dX3_seen_4 (by decide) (fun c_2 => ?_) (fun c_2 => ?_)
  · replace h := it_n c_2 h
    refine lv_iload_n hx hb dX3_seen_9 rfl (lv_at hl 2 rfl) ?_
    refine lv_iconst (v := 0) hx hb dX3_seen_10 (by decide) ?_
    refine lv_sipush (v := 9999) hx hb dX3_seen_11 (by decide) ?_
    obtain ⟨r_3, hr_3, h⟩ := bn_s h
    refine kcSi (As := [.int x2, .int (0 : Int32), .int (9999 : Int32)]) (rest := []) ⟨hx, hb, hml, hown, hts⟩ (va_cwS 3 hts gX3_seen_X3_isWithin rfl rfl rfl eX3_isWithin ⟨Nat.le_of_ble_eq_true rfl, Nat.le_of_ble_eq_true rfl⟩) (c_X3_isWithin  hr_3) hK hP hS hA rfl hl.1 rfl (Nat.le_of_ble_eq_true rfl) dX3_seen_14 (fun H locs hP hS => ?_)
    refine lv_if_ne (tgt := 23) hx hb dX3_seen_17 (by decide) (fun c_4 => ?_) (fun c_4 => ?_)
    · replace h := it_n c_4 h
      refine lv_aload_n hx hb dX3_seen_23 rfl (lv_at hl 0 rfl) ?_
      refine va_get (D := D) (ci := 3) (v := .ref (b1 0)) (C := RX3) (T := TX3) (N := 8) hx hb hts iX3_seen_X3 hown hK.1 hP 0 rfl rfl 0 (by decide) (hts _ mX3_seen_1) (fun _ h9 => h9) rfl dX3_seen_24 ?_
      refine lv_iload_n hx hb dX3_seen_27 rfl (lv_at hl 1 rfl) ?_
      refine lv_iload_n hx hb dX3_seen_28 rfl (lv_at hl 2 rfl) ?_
      obtain ⟨r_5, hr_5, h⟩ := bn_s h
      refine kcVi (As := [.int x1, .int x2]) (rest := []) (ws' := (wX x0 (b1 0) r1 r2 r3 r4 r5 r6 kx (wV cy b1 r_5.2 []))) ⟨hx, hb, hml, hown, hts⟩ (cwV 2 hts gX3_seen_X2_addSight rfl rfl rfl ⟨rfl, eX2_addSight⟩ ⟨Nat.le_of_ble_eq_true rfl, Nat.le_of_ble_eq_true rfl⟩) (c_X2_addSight b1 hr_5) hK hP hD hS hA [1, 2, 3, 4, 5, 6, 7, 8] [0] (by decide) rfl rfl 2 rfl rfl [x0, (b1 0), (b1 1), (b1 2), (b1 3), (b1 4), (b1 5), (b1 6), (b1 7)] rfl rfl rfl (wX x0 (b1 0) r1 r2 r3 r4 r5 r6 kx []) rfl rfl rfl rfl hl.1 rfl (Nat.le_of_ble_eq_true rfl) dX3_seen_29 (fun H locs hP hD hS => ?_)
      refine lv_if_eq (tgt := 45) hx hb dX3_seen_32 (by decide) (fun c_6 => ?_) (fun c_6 => ?_)
      · replace h := it_p c_6 h
        refine lv_bipush (v := (-4)) hx hb dX3_seen_45 (by decide) ?_
        cases h
        exact kretI hx hb hr hlk hP hS dX3_seen_47
      · replace h := it_n c_6 h
        refine lv_aload_n hx hb dX3_seen_35 rfl (lv_at hl 0 rfl) ?_
        refine va_get (D := D) (ci := 3) (v := .ref (b1 0)) (C := RX3) (T := TX3) (N := 8) hx hb hts iX3_seen_X3 hown hK.1 hP 0 rfl rfl 0 (by decide) (hts _ mX3_seen_1) (fun _ h9 => h9) rfl dX3_seen_36 ?_
        refine va_getN (D := D) (ci := 2) (v := .int r_5.2.2.2.2.2.2.2.2.1) (C := RX2) (T := TX2) (N := 11) hx hb hts iX3_seen_X2 hown hK.1 hP 1 rfl rfl 7 (by decide) (va_Nw.use rfl (kN_123 hK.2)) (fun _ h9 => h9) rfl dX3_seen_39 ?_
        refine lv_goto (tgt := 47) hx hb dX3_seen_42 (by decide) ?_
        cases h
        exact kretI hx hb hr hlk hP hS dX3_seen_47
    · replace h := it_p c_4 h
      refine lv_bipush (v := (-2)) hx hb dX3_seen_20 (by decide) ?_
      cases h
      exact kretI hx hb hr hlk hP hS dX3_seen_22
  · replace h := it_p c_2 h
    refine lv_iconst (v := (-1)) hx hb dX3_seen_7 (by decide) ?_
    cases h
    exact kretI hx hb hr hlk hP hS dX3_seen_8
theorem c_X3_seen {l : Launch} {D : va_G} {cy : Nat → ClassId} (x0 : Nat) (r1 : Nat) (r2 : Nat) (r3 : Nat) (r4 : Nat) (r5 : Nat) (r6 : Nat) (b1 : Nat → Nat) (kx : Int32) {vv : VS} {x1 : Int32} {x2 : Int32} {rr : Int32 × VS} (h : f_X3_seen vv x1 x2 = some rr) : CI l D cy yX3_seen wsX3_seen { frames := 1, cells := 0, slots := 0, locals := 22 } [.ref x0, .int x1, .int x2] (wX x0 (b1 0) r1 r2 r3 r4 r5 r6 kx (wV cy b1 vv [])) (rr.1) (wX x0 (b1 0) r1 r2 r3 r4 r5 r6 kx (wV cy b1 rr.2 [])) := by
  refine kofI (cc := cX3_seen) (maxL := 3) (ret := (some .int)) (by decide) rfl (Nat.le_of_ble_eq_true rfl) ?_
  intro p e s m below meth c A M ls hl hP hD hS
  exact w_X3_seen_0 M h hP hD hS hl
theorem eX3_seen : yX3_seen.cls ≠ "java/lang/invoke/MethodHandle" ∧ yX3_seen.cls ≠ "java/lang/invoke/VarHandle" ∧ (parseMethodDescriptor yX3_seen.desc).map (fun d => d.parameters.length) = some 2 := by decide +kernel
theorem iX3_set_X3 : ∀ w ∈ u_ws RX3 TX3 8, w ∈ wsX3_set := by decide +kernel
theorem iX3_set_X2 : ∀ w ∈ u_ws RX2 TX2 11, w ∈ wsX3_set := by decide +kernel
theorem mX3_set_1 : Cond.fieldLink RX3 12 "LentPiles" "now" "LLentPiles$Valley;" ∈ wsX3_set := by decide +kernel
set_option maxHeartbeats 4000000 in
set_option maxRecDepth 100000 in
theorem w_X3_set_31 {p : Program} {l : Launch} {e : Env} {s : State} {m : MethodId} {args : Array Value} {below : List Frame} {meth : Method} {c : Code} {A : Nat → Prop} {D : va_G} {cy : Nat → ClassId} {x0 : Nat} {r1 : Nat} {r2 : Nat} {r3 : Nat} {r4 : Nat} {r5 : Nat} {r6 : Nat} {b1 : Nat → Nat} {kx : Int32} {x1 : Int32} {x2 : Int32} {rr : Int32 × VS} (M : kM p s m args meth c cX3_set 4 (some .int) RX3 wsX3_set A D cy) {vv : VS} (h : f_X3_set_31 x1 x2 vv = some rr) {H : Heap} {locs : List Loc} {ls : Array Slot} (hP : va_P D vwCl (wX x0 (b1 0) r1 r2 r3 r4 r5 r6 kx (wV cy b1 vv [])) H) (hD : va_D A (wX x0 (b1 0) r1 r2 r3 r4 r5 r6 kx (wV cy b1 vv []))) (hS : va_S A s.heap H locs) (hl : lv_has ls 4 [(0, .ref x0), (1, .int x1), (2, .int x2)]) : W p l e { frames := 1, cells := 0, slots := 0, locals := 22 } s m args below meth c H locs 0 0 (MQ below (qI D (wX x0 (b1 0) r1 r2 r3 r4 r5 r6 kx (wV cy b1 rr.2 [])) (rr.1) A) args s 0 0 A) (F0 m 31 ls []) := by
  obtain ⟨hx, hb, hr, hml, hown, hts, hlk, hA, hK⟩ := id M
  unfold f_X3_set_31 at h
  refine lv_iload_n hx hb dX3_set_31 rfl (lv_at hl 1 rfl) ?_
  refine lv_iconst (v := 1) hx hb dX3_set_32 (by decide) ?_
  refine lv_icmp_ne (tgt := 64) hx hb dX3_set_33 (by decide) (fun c_1 => ?_) (fun c_1 => ?_)
  · replace h := it_n c_1 h
    refine lv_bipush (v := (-2)) hx hb dX3_set_64 (by decide) ?_
    cases h
    exact kretI hx hb hr hlk hP hS dX3_set_66
  · replace h := it_p c_1 h
    refine lv_iload_n hx hb dX3_set_36 rfl (lv_at hl 2 rfl) ?_
    refine lv_iconst (v := 0) hx hb dX3_set_37 (by decide) ?_
    refine lv_bipush (v := 9) hx hb dX3_set_38 (by decide) ?_
    obtain ⟨r_2, hr_2, h⟩ := bn_s h
    refine kcSi (As := [.int x2, .int (0 : Int32), .int (9 : Int32)]) (rest := []) ⟨hx, hb, hml, hown, hts⟩ (va_cwS 3 hts gX3_set_X3_isWithin rfl rfl rfl eX3_isWithin ⟨Nat.le_of_ble_eq_true rfl, Nat.le_of_ble_eq_true rfl⟩) (c_X3_isWithin  hr_2) hK hP hS hA rfl hl.1 rfl (Nat.le_of_ble_eq_true rfl) dX3_set_40 (fun H locs hP hS => ?_)
    refine lv_if_eq (tgt := 64) hx hb dX3_set_43 (by decide) (fun c_3 => ?_) (fun c_3 => ?_)
    · replace h := it_p c_3 h
      refine lv_bipush (v := (-2)) hx hb dX3_set_64 (by decide) ?_
      cases h
      exact kretI hx hb hr hlk hP hS dX3_set_66
    · replace h := it_n c_3 h
      refine lv_aload_n hx hb dX3_set_46 rfl (lv_at hl 0 rfl) ?_
      refine va_get (D := D) (ci := 3) (v := .ref (b1 0)) (C := RX3) (T := TX3) (N := 8) hx hb hts iX3_set_X3 hown hK.1 hP 0 rfl rfl 0 (by decide) (hts _ mX3_set_1) (fun _ h9 => h9) rfl dX3_set_47 ?_
      refine va_getN (D := D) (ci := 2) (v := .int vv.2.2.2.2.2.2.2.2.2.2) (C := RX2) (T := TX2) (N := 11) hx hb hts iX3_set_X2 hown hK.1 hP 1 rfl rfl 10 (by decide) (va_Nw.use rfl (kN_66 hK.2)) (fun _ h9 => h9) rfl dX3_set_50 ?_
      refine lv_topi (fun x3_4 ex3_4 => ?_)
      replace h := nm_s h ex3_4
      refine lv_istore_n (lv' := [(3, .int x3_4), (0, .ref x0), (1, .int x1), (2, .int x2)]) hx hb dX3_set_53 rfl hl (by decide) rfl (fun ls hl => ?_)
      refine lv_aload_n hx hb dX3_set_54 rfl (lv_at hl 1 rfl) ?_
      refine va_get (D := D) (ci := 3) (v := .ref (b1 0)) (C := RX3) (T := TX3) (N := 8) hx hb hts iX3_set_X3 hown hK.1 hP 0 rfl rfl 0 (by decide) (hts _ mX3_set_1) (fun _ h9 => h9) rfl dX3_set_55 ?_
      refine lv_iload_n hx hb dX3_set_58 rfl (lv_at hl 3 rfl) ?_
      refine va_putN (D := D) (ci := 2) (v := .int x2) (ty := .int) (C := RX2) (T := TX2) (N := 11) hx hb hts iX3_set_X2 tyX2 tyX2_ok nmX2 hown hK.1 hP hD hS 1 rfl rfl 10 (by decide) (va_Nw.use rfl (kN_66 hK.2)) (fun _ h9 => h9) rfl (by decide +kernel) rfl rfl (Nat.le_of_ble_eq_true rfl) dX3_set_59 (fun H locs hP hD hS => ?_)
      obtain ⟨vv_5, evv_5⟩ : ∃ z : VS, z = (vv.1, vv.2.1, vv.2.2.1, vv.2.2.2.1, vv.2.2.2.2.1, vv.2.2.2.2.2.1, vv.2.2.2.2.2.2.1, vv.2.2.2.2.2.2.2.1, vv.2.2.2.2.2.2.2.2.1, vv.2.2.2.2.2.2.2.2.2.1, x2) := ⟨_, rfl⟩
      replace h := nm_s h evv_5
      have hP : va_P D vwCl (wX x0 (b1 0) r1 r2 r3 r4 r5 r6 kx (wV cy b1 vv_5 [])) H := by subst evv_5; exact hP
      have hD : va_D A (wX x0 (b1 0) r1 r2 r3 r4 r5 r6 kx (wV cy b1 vv_5 [])) := hD.lk [x0, (b1 0), (b1 1), (b1 2), (b1 3), (b1 4), (b1 5), (b1 6), (b1 7)] rfl rfl
      refine lv_iload_n hx hb dX3_set_62 rfl (lv_at hl 0 rfl) ?_
      cases h
      exact kretI hx hb hr hlk hP hS dX3_set_63
set_option maxHeartbeats 4000000 in
set_option maxRecDepth 100000 in
theorem w_X3_set_0 {p : Program} {l : Launch} {e : Env} {s : State} {m : MethodId} {args : Array Value} {below : List Frame} {meth : Method} {c : Code} {A : Nat → Prop} {D : va_G} {cy : Nat → ClassId} {x0 : Nat} {r1 : Nat} {r2 : Nat} {r3 : Nat} {r4 : Nat} {r5 : Nat} {r6 : Nat} {b1 : Nat → Nat} {kx : Int32} {x1 : Int32} {x2 : Int32} {rr : Int32 × VS} (M : kM p s m args meth c cX3_set 4 (some .int) RX3 wsX3_set A D cy) {vv : VS} (h : f_X3_set vv x1 x2 = some rr) {H : Heap} {locs : List Loc} {ls : Array Slot} (hP : va_P D vwCl (wX x0 (b1 0) r1 r2 r3 r4 r5 r6 kx (wV cy b1 vv [])) H) (hD : va_D A (wX x0 (b1 0) r1 r2 r3 r4 r5 r6 kx (wV cy b1 vv []))) (hS : va_S A s.heap H locs) (hl : lv_has ls 4 [(0, .ref x0), (1, .int x1), (2, .int x2)]) : W p l e { frames := 1, cells := 0, slots := 0, locals := 22 } s m args below meth c H locs 0 0 (MQ below (qI D (wX x0 (b1 0) r1 r2 r3 r4 r5 r6 kx (wV cy b1 rr.2 [])) (rr.1) A) args s 0 0 A) (F0 m 0 ls []) := by
  obtain ⟨hx, hb, hr, hml, hown, hts, hlk, hA, hK⟩ := id M
  unfold f_X3_set at h
  refine lv_iload_n hx hb dX3_set_0 rfl (lv_at hl 1 rfl) ?_
  refine lv_if_ne (tgt := 31) hx hb dX3_set_1 (by decide) (fun c_1 => ?_) (fun c_1 => ?_)
  · replace h := it_n c_1 h
    exact w_X3_set_31 M h hP hD hS hl
  · replace h := it_p c_1 h
    refine lv_iload_n hx hb dX3_set_4 rfl (lv_at hl 2 rfl) ?_
    refine lv_iconst (v := 0) hx hb dX3_set_5 (by decide) ?_
    refine lv_iconst (v := 2) hx hb dX3_set_6 (by decide) ?_
    obtain ⟨r_2, hr_2, h⟩ := bn_s h
    refine kcSi (As := [.int x2, .int (0 : Int32), .int (2 : Int32)]) (rest := []) ⟨hx, hb, hml, hown, hts⟩ (va_cwS 3 hts gX3_set_X3_isWithin rfl rfl rfl eX3_isWithin ⟨Nat.le_of_ble_eq_true rfl, Nat.le_of_ble_eq_true rfl⟩) (c_X3_isWithin  hr_2) hK hP hS hA rfl hl.1 rfl (Nat.le_of_ble_eq_true rfl) dX3_set_7 (fun H locs hP hS => ?_)
    refine lv_if_eq (tgt := 31) hx hb dX3_set_10 (by decide) (fun c_3 => ?_) (fun c_3 => ?_)
    · replace h := it_p c_3 h
      exact w_X3_set_31 M h hP hD hS hl
    · replace h := it_n c_3 h
      refine lv_aload_n hx hb dX3_set_13 rfl (lv_at hl 0 rfl) ?_
      refine va_get (D := D) (ci := 3) (v := .ref (b1 0)) (C := RX3) (T := TX3) (N := 8) hx hb hts iX3_set_X3 hown hK.1 hP 0 rfl rfl 0 (by decide) (hts _ mX3_set_1) (fun _ h9 => h9) rfl dX3_set_14 ?_
      refine va_getN (D := D) (ci := 2) (v := .int vv.2.2.2.2.2.2.2.2.2.1) (C := RX2) (T := TX2) (N := 11) hx hb hts iX3_set_X2 hown hK.1 hP 1 rfl rfl 9 (by decide) (va_Nw.use rfl (kN_63 hK.2)) (fun _ h9 => h9) rfl dX3_set_17 ?_
      refine lv_topi (fun x3_4 ex3_4 => ?_)
      replace h := nm_s h ex3_4
      refine lv_istore_n (lv' := [(3, .int x3_4), (0, .ref x0), (1, .int x1), (2, .int x2)]) hx hb dX3_set_20 rfl hl (by decide) rfl (fun ls hl => ?_)
      refine lv_aload_n hx hb dX3_set_21 rfl (lv_at hl 1 rfl) ?_
      refine va_get (D := D) (ci := 3) (v := .ref (b1 0)) (C := RX3) (T := TX3) (N := 8) hx hb hts iX3_set_X3 hown hK.1 hP 0 rfl rfl 0 (by decide) (hts _ mX3_set_1) (fun _ h9 => h9) rfl dX3_set_22 ?_
      refine lv_iload_n hx hb dX3_set_25 rfl (lv_at hl 3 rfl) ?_
      refine va_putN (D := D) (ci := 2) (v := .int x2) (ty := .int) (C := RX2) (T := TX2) (N := 11) hx hb hts iX3_set_X2 tyX2 tyX2_ok nmX2 hown hK.1 hP hD hS 1 rfl rfl 9 (by decide) (va_Nw.use rfl (kN_63 hK.2)) (fun _ h9 => h9) rfl (by decide +kernel) rfl rfl (Nat.le_of_ble_eq_true rfl) dX3_set_26 (fun H locs hP hD hS => ?_)
      obtain ⟨vv_5, evv_5⟩ : ∃ z : VS, z = (vv.1, vv.2.1, vv.2.2.1, vv.2.2.2.1, vv.2.2.2.2.1, vv.2.2.2.2.2.1, vv.2.2.2.2.2.2.1, vv.2.2.2.2.2.2.2.1, vv.2.2.2.2.2.2.2.2.1, x2, vv.2.2.2.2.2.2.2.2.2.2) := ⟨_, rfl⟩
      replace h := nm_s h evv_5
      have hP : va_P D vwCl (wX x0 (b1 0) r1 r2 r3 r4 r5 r6 kx (wV cy b1 vv_5 [])) H := by subst evv_5; exact hP
      have hD : va_D A (wX x0 (b1 0) r1 r2 r3 r4 r5 r6 kx (wV cy b1 vv_5 [])) := hD.lk [x0, (b1 0), (b1 1), (b1 2), (b1 3), (b1 4), (b1 5), (b1 6), (b1 7)] rfl rfl
      refine lv_iload_n hx hb dX3_set_29 rfl (lv_at hl 0 rfl) ?_
      cases h
      exact kretI hx hb hr hlk hP hS dX3_set_30
theorem c_X3_set {l : Launch} {D : va_G} {cy : Nat → ClassId} (x0 : Nat) (r1 : Nat) (r2 : Nat) (r3 : Nat) (r4 : Nat) (r5 : Nat) (r6 : Nat) (b1 : Nat → Nat) (kx : Int32) {vv : VS} {x1 : Int32} {x2 : Int32} {rr : Int32 × VS} (h : f_X3_set vv x1 x2 = some rr) : CI l D cy yX3_set wsX3_set { frames := 1, cells := 0, slots := 0, locals := 22 } [.ref x0, .int x1, .int x2] (wX x0 (b1 0) r1 r2 r3 r4 r5 r6 kx (wV cy b1 vv [])) (rr.1) (wX x0 (b1 0) r1 r2 r3 r4 r5 r6 kx (wV cy b1 rr.2 [])) := by
  refine kofI (cc := cX3_set) (maxL := 4) (ret := (some .int)) (by decide) rfl (Nat.le_of_ble_eq_true rfl) ?_
  intro p e s m below meth c A M ls hl hP hD hS
  exact w_X3_set_0 M h hP hD hS hl
theorem eX3_set : yX3_set.cls ≠ "java/lang/invoke/MethodHandle" ∧ yX3_set.cls ≠ "java/lang/invoke/VarHandle" ∧ (parseMethodDescriptor yX3_set.desc).map (fun d => d.parameters.length) = some 2 := by decide +kernel
theorem iX3_setOff_X3 : ∀ w ∈ u_ws RX3 TX3 8, w ∈ wsX3_setOff := by decide +kernel
theorem mX3_setOff_1 : Cond.fieldLink RX3 12 "LentPiles" "now" "LLentPiles$Valley;" ∈ wsX3_setOff := by decide +kernel
set_option maxHeartbeats 4000000 in
set_option maxRecDepth 100000 in
theorem w_X3_setOff_0 {p : Program} {l : Launch} {e : Env} {s : State} {m : MethodId} {args : Array Value} {below : List Frame} {meth : Method} {c : Code} {A : Nat → Prop} {D : va_G} {cy : Nat → ClassId} {x0 : Nat} {r1 : Nat} {r2 : Nat} {r3 : Nat} {r4 : Nat} {r5 : Nat} {r6 : Nat} {b1 : Nat → Nat} {kx : Int32} {x1 : Int32} {rr : Int32 × VS} (M : kM p s m args meth c cX3_setOff 3 (some .int) RX3 wsX3_setOff A D cy) {vv : VS} (h : f_X3_setOff vv x1 = some rr) {H : Heap} {locs : List Loc} {ls : Array Slot} (hP : va_P D vwCl (wX x0 (b1 0) r1 r2 r3 r4 r5 r6 kx (wV cy b1 vv [])) H) (hD : va_D A (wX x0 (b1 0) r1 r2 r3 r4 r5 r6 kx (wV cy b1 vv []))) (hS : va_S A s.heap H locs) (hl : lv_has ls 3 [(0, .ref x0), (1, .int x1)]) : W p l e { frames := 4, cells := 0, slots := 0, locals := 94 } s m args below meth c H locs 0 0 (MQ below (qI D (wX x0 (b1 0) r1 r2 r3 r4 r5 r6 kx (wV cy b1 rr.2 [])) (rr.1) A) args s 0 0 A) (F0 m 0 ls []) := by
  obtain ⟨hx, hb, hr, hml, hown, hts, hlk, hA, hK⟩ := id M
  unfold f_X3_setOff at h
  refine lv_iload_n hx hb dX3_setOff_0 rfl (lv_at hl 1 rfl) ?_
  obtain ⟨r_1, hr_1, h⟩ := bn_s h
  refine kcSi (As := [.int x1]) (rest := []) ⟨hx, hb, hml, hown, hts⟩ (va_cwS 1 hts gX3_setOff_X3_isMan rfl rfl rfl eX3_isMan ⟨Nat.le_of_ble_eq_true rfl, Nat.le_of_ble_eq_true rfl⟩) (c_X3_isMan  hr_1) hK hP hS hA rfl hl.1 rfl (Nat.le_of_ble_eq_true rfl) dX3_setOff_1 (fun H locs hP hS => ?_)
  refine lv_if_ne (tgt := 9) hx hb dX3_setOff_4 (by decide) (fun c_2 => ?_) (fun c_2 => ?_)
  · replace h := it_n c_2 h
    refine lv_aload_n hx hb dX3_setOff_9 rfl (lv_at hl 0 rfl) ?_
    refine va_get (D := D) (ci := 3) (v := .ref (b1 0)) (C := RX3) (T := TX3) (N := 8) hx hb hts iX3_setOff_X3 hown hK.1 hP 0 rfl rfl 0 (by decide) (hts _ mX3_setOff_1) (fun _ h9 => h9) rfl dX3_setOff_10 ?_
    refine lv_iload_n hx hb dX3_setOff_13 rfl (lv_at hl 1 rfl) ?_
    obtain ⟨r_3, hr_3, h⟩ := bn_s h
    refine kcVi (As := [.int x1]) (rest := []) (ws' := (wX x0 (b1 0) r1 r2 r3 r4 r5 r6 kx (wV cy b1 vv []))) ⟨hx, hb, hml, hown, hts⟩ (cwV 1 hts gX3_setOff_X2_ringOf rfl rfl rfl ⟨rfl, eX2_ringOf⟩ ⟨Nat.le_of_ble_eq_true rfl, Nat.le_of_ble_eq_true rfl⟩) (c_X2_ringOf b1 hr_3) hK hP hD hS hA [1, 2, 3, 4, 5, 6, 7, 8] [0] (by decide) rfl rfl 2 rfl rfl [x0, (b1 0), (b1 1), (b1 2), (b1 3), (b1 4), (b1 5), (b1 6), (b1 7)] rfl rfl rfl (wX x0 (b1 0) r1 r2 r3 r4 r5 r6 kx []) rfl rfl rfl rfl hl.1 rfl (Nat.le_of_ble_eq_true rfl) dX3_setOff_14 (fun H locs hP hD hS => ?_)
    refine lv_istore_n (lv' := [(2, .int r_3), (0, .ref x0), (1, .int x1)]) hx hb dX3_setOff_17 rfl hl (by decide) rfl (fun ls hl => ?_)
    refine lv_iload_n hx hb dX3_setOff_18 rfl (lv_at hl 0 rfl) ?_
    refine lv_bipush (v := (-6)) hx hb dX3_setOff_19 (by decide) ?_
    refine lv_icmp_ne (tgt := 27) hx hb dX3_setOff_21 (by decide) (fun c_4 => ?_) (fun c_4 => ?_)
    · replace h := it_n c_4 h
      refine lv_aload_n hx hb dX3_setOff_27 rfl (lv_at hl 1 rfl) ?_
      refine va_get (D := D) (ci := 3) (v := .ref (b1 0)) (C := RX3) (T := TX3) (N := 8) hx hb hts iX3_setOff_X3 hown hK.1 hP 0 rfl rfl 0 (by decide) (hts _ mX3_setOff_1) (fun _ h9 => h9) rfl dX3_setOff_28 ?_
      refine lv_iload_n hx hb dX3_setOff_31 rfl (lv_at hl 0 rfl) ?_
      obtain ⟨r_5, hr_5, h⟩ := bn_s h
      refine kcVi (As := [.int r_3]) (rest := []) (ws' := (wX x0 (b1 0) r1 r2 r3 r4 r5 r6 kx (wV cy b1 r_5.2 []))) ⟨hx, hb, hml, hown, hts⟩ (cwV 1 hts gX3_setOff_X2_setOffDues rfl rfl rfl ⟨rfl, eX2_setOffDues⟩ ⟨Nat.le_of_ble_eq_true rfl, Nat.le_of_ble_eq_true rfl⟩) (c_X2_setOffDues b1 hr_5) hK hP hD hS hA [1, 2, 3, 4, 5, 6, 7, 8] [0] (by decide) rfl rfl 2 rfl rfl [x0, (b1 0), (b1 1), (b1 2), (b1 3), (b1 4), (b1 5), (b1 6), (b1 7)] rfl rfl rfl (wX x0 (b1 0) r1 r2 r3 r4 r5 r6 kx []) rfl rfl rfl rfl hl.1 rfl (Nat.le_of_ble_eq_true rfl) dX3_setOff_32 (fun H locs hP hD hS => ?_)
      cases h
      exact kretI hx hb hr hlk hP hS dX3_setOff_35
    · replace h := it_p c_4 h
      refine lv_bipush (v := (-3)) hx hb dX3_setOff_24 (by decide) ?_
      cases h
      exact kretI hx hb hr hlk hP hS dX3_setOff_26
  · replace h := it_p c_2 h
    refine lv_iconst (v := (-1)) hx hb dX3_setOff_7 (by decide) ?_
    cases h
    exact kretI hx hb hr hlk hP hS dX3_setOff_8
theorem c_X3_setOff {l : Launch} {D : va_G} {cy : Nat → ClassId} (x0 : Nat) (r1 : Nat) (r2 : Nat) (r3 : Nat) (r4 : Nat) (r5 : Nat) (r6 : Nat) (b1 : Nat → Nat) (kx : Int32) {vv : VS} {x1 : Int32} {rr : Int32 × VS} (h : f_X3_setOff vv x1 = some rr) : CI l D cy yX3_setOff wsX3_setOff { frames := 4, cells := 0, slots := 0, locals := 94 } [.ref x0, .int x1] (wX x0 (b1 0) r1 r2 r3 r4 r5 r6 kx (wV cy b1 vv [])) (rr.1) (wX x0 (b1 0) r1 r2 r3 r4 r5 r6 kx (wV cy b1 rr.2 [])) := by
  refine kofI (cc := cX3_setOff) (maxL := 3) (ret := (some .int)) (by decide) rfl (Nat.le_of_ble_eq_true rfl) ?_
  intro p e s m below meth c A M ls hl hP hD hS
  exact w_X3_setOff_0 M h hP hD hS hl
theorem eX3_setOff : yX3_setOff.cls ≠ "java/lang/invoke/MethodHandle" ∧ yX3_setOff.cls ≠ "java/lang/invoke/VarHandle" ∧ (parseMethodDescriptor yX3_setOff.desc).map (fun d => d.parameters.length) = some 1 := by decide +kernel
theorem iX3_soon_X3 : ∀ w ∈ u_ws RX3 TX3 8, w ∈ wsX3_soon := by decide +kernel
theorem mX3_soon_1 : Cond.fieldLink RX3 12 "LentPiles" "now" "LLentPiles$Valley;" ∈ wsX3_soon := by decide +kernel
theorem mX3_soon_2 : Cond.fieldLink RX3 35 "LentPiles" "payings" "LLentPiles$Payings;" ∈ wsX3_soon := by decide +kernel
set_option maxHeartbeats 4000000 in
set_option maxRecDepth 100000 in
theorem w_X3_soon_0 {p : Program} {l : Launch} {e : Env} {s : State} {m : MethodId} {args : Array Value} {below : List Frame} {meth : Method} {c : Code} {A : Nat → Prop} {D : va_G} {cy : Nat → ClassId} {x0 : Nat} {r1 : Nat} {r2 : Nat} {r3 : Nat} {r4 : Nat} {r6 : Nat} {b1 : Nat → Nat} {b2 : Nat → Nat} {kx : Int32} {vv : VS} {x1 : Int32} {x2 : Int32} {rr : Int32 × YS} (M : kM p s m args meth c cX3_soon 3 (some .int) RX3 wsX3_soon A D cy) {yv : YS} (h : f_X3_soon vv yv x1 x2 = some rr) {H : Heap} {locs : List Loc} {ls : Array Slot} (hP : va_P D vwCl (wX x0 (b1 0) r1 r2 r3 r4 (b2 0) r6 kx (wV cy b1 vv (wY cy b2 yv []))) H) (hD : va_D A (wX x0 (b1 0) r1 r2 r3 r4 (b2 0) r6 kx (wV cy b1 vv (wY cy b2 yv [])))) (hS : va_S A s.heap H locs) (hl : lv_has ls 3 [(0, .ref x0), (1, .int x1), (2, .int x2)]) : W p l e { frames := 6, cells := 0, slots := 0, locals := 143 } s m args below meth c H locs 0 0 (MQ below (qI D (wX x0 (b1 0) r1 r2 r3 r4 (b2 0) r6 kx (wV cy b1 vv (wY cy b2 rr.2 []))) (rr.1) A) args s 0 0 A) (F0 m 0 ls []) := by
  obtain ⟨hx, hb, hr, hml, hown, hts, hlk, hA, hK⟩ := id M
  unfold f_X3_soon at h
  refine lv_aload_n hx hb dX3_soon_0 rfl (lv_at hl 0 rfl) ?_
  refine va_get (D := D) (ci := 3) (v := .ref (b1 0)) (C := RX3) (T := TX3) (N := 8) hx hb hts iX3_soon_X3 hown hK.1 hP 0 rfl rfl 0 (by decide) (hts _ mX3_soon_1) (fun _ h9 => h9) rfl dX3_soon_1 ?_
  refine lv_iload_n hx hb dX3_soon_4 rfl (lv_at hl 1 rfl) ?_
  refine lv_iload_n hx hb dX3_soon_5 rfl (lv_at hl 2 rfl) ?_
  obtain ⟨r_1, hr_1, h⟩ := bn_s h
  refine kcVi (As := [.int x1, .int x2]) (rest := []) (ws' := (wX x0 (b1 0) r1 r2 r3 r4 (b2 0) r6 kx (wV cy b1 vv (wY cy b2 yv [])))) ⟨hx, hb, hml, hown, hts⟩ (cwV 2 hts gX3_soon_X2_hasDebt rfl rfl rfl ⟨rfl, eX2_hasDebt⟩ ⟨Nat.le_of_ble_eq_true rfl, Nat.le_of_ble_eq_true rfl⟩) (c_X2_hasDebt b1 hr_1) hK hP hD hS hA [1, 2, 3, 4, 5, 6, 7, 8] [0, 9, 10, 11, 12, 13, 14, 15, 16, 17, 18] (by decide) rfl rfl 2 rfl rfl [x0, (b1 0), (b1 1), (b1 2), (b1 3), (b1 4), (b1 5), (b1 6), (b1 7), (b2 0), (b2 1), (b2 2), (b2 3), (b2 4), (b2 5), (b2 6), (b2 7), (b2 8), (b2 9)] rfl rfl rfl (wX x0 (b1 0) r1 r2 r3 r4 (b2 0) r6 kx (wY cy b2 yv [])) rfl rfl rfl rfl hl.1 rfl (Nat.le_of_ble_eq_true rfl) dX3_soon_6 (fun H locs hP hD hS => ?_)
  refine lv_if_ne (tgt := 14) hx hb dX3_soon_9 (by decide) (fun c_2 => ?_) (fun c_2 => ?_)
  · replace h := it_n c_2 h
    refine lv_aload_n hx hb dX3_soon_14 rfl (lv_at hl 0 rfl) ?_
    refine va_get (D := D) (ci := 3) (v := .ref (b2 0)) (C := RX3) (T := TX3) (N := 8) hx hb hts iX3_soon_X3 hown hK.1 hP 0 rfl rfl 5 (by decide) (hts _ mX3_soon_2) (fun _ h9 => h9) rfl dX3_soon_15 ?_
    refine lv_aload_n hx hb dX3_soon_18 rfl (lv_at hl 0 rfl) ?_
    refine va_get (D := D) (ci := 3) (v := .ref (b1 0)) (C := RX3) (T := TX3) (N := 8) hx hb hts iX3_soon_X3 hown hK.1 hP 0 rfl rfl 0 (by decide) (hts _ mX3_soon_1) (fun _ h9 => h9) rfl dX3_soon_19 ?_
    obtain ⟨r_3, hr_3, h⟩ := bn_s h
    refine kcVv (As := [.ref (b1 0)]) (rest := []) (ws' := (wX x0 (b1 0) r1 r2 r3 r4 (b2 0) r6 kx (wV cy b1 vv (wY cy b2 r_3 [])))) ⟨hx, hb, hml, hown, hts⟩ (cwV 1 hts gX3_soon_X1_load rfl rfl rfl ⟨rfl, eX1_load⟩ ⟨Nat.le_of_ble_eq_true rfl, Nat.le_of_ble_eq_true rfl⟩) (c_X1_load b2 b1 hr_3) hK hP hD hS hA [9, 10, 11, 12, 13, 14, 15, 16, 17, 18, 1, 2, 3, 4, 5, 6, 7, 8] [0] (by decide) rfl rfl 1 rfl rfl [x0, (b1 0), (b1 1), (b1 2), (b1 3), (b1 4), (b1 5), (b1 6), (b1 7), (b2 0), (b2 1), (b2 2), (b2 3), (b2 4), (b2 5), (b2 6), (b2 7), (b2 8), (b2 9)] rfl rfl rfl (wX x0 (b1 0) r1 r2 r3 r4 (b2 0) r6 kx []) rfl rfl rfl rfl hl.1 rfl (Nat.le_of_ble_eq_true rfl) dX3_soon_22 (fun H locs hP hD hS => ?_)
    refine lv_aload_n hx hb dX3_soon_25 rfl (lv_at hl 0 rfl) ?_
    refine va_get (D := D) (ci := 3) (v := .ref (b2 0)) (C := RX3) (T := TX3) (N := 8) hx hb hts iX3_soon_X3 hown hK.1 hP 0 rfl rfl 5 (by decide) (hts _ mX3_soon_2) (fun _ h9 => h9) rfl dX3_soon_26 ?_
    refine lv_iload_n hx hb dX3_soon_29 rfl (lv_at hl 1 rfl) ?_
    refine lv_aload_n hx hb dX3_soon_30 rfl (lv_at hl 0 rfl) ?_
    refine va_get (D := D) (ci := 3) (v := .ref (b1 0)) (C := RX3) (T := TX3) (N := 8) hx hb hts iX3_soon_X3 hown hK.1 hP 0 rfl rfl 0 (by decide) (hts _ mX3_soon_1) (fun _ h9 => h9) rfl dX3_soon_31 ?_
    refine lv_iload_n hx hb dX3_soon_34 rfl (lv_at hl 1 rfl) ?_
    refine lv_iload_n hx hb dX3_soon_35 rfl (lv_at hl 2 rfl) ?_
    obtain ⟨r_4, hr_4, h⟩ := bn_s h
    refine kcVi (As := [.int x1, .int x2]) (rest := [.int x1, .ref (b2 0)]) (ws' := (wX x0 (b1 0) r1 r2 r3 r4 (b2 0) r6 kx (wV cy b1 vv (wY cy b2 r_3 [])))) ⟨hx, hb, hml, hown, hts⟩ (cwV 2 hts gX3_soon_X2_turnOf rfl rfl rfl ⟨rfl, eX2_turnOf⟩ ⟨Nat.le_of_ble_eq_true rfl, Nat.le_of_ble_eq_true rfl⟩) (c_X2_turnOf b1 hr_4) hK hP hD hS hA [1, 2, 3, 4, 5, 6, 7, 8] [0, 9, 10, 11, 12, 13, 14, 15, 16, 17, 18] (by decide) rfl rfl 2 rfl rfl [x0, (b1 0), (b1 1), (b1 2), (b1 3), (b1 4), (b1 5), (b1 6), (b1 7), (b2 0), (b2 1), (b2 2), (b2 3), (b2 4), (b2 5), (b2 6), (b2 7), (b2 8), (b2 9)] rfl rfl rfl (wX x0 (b1 0) r1 r2 r3 r4 (b2 0) r6 kx (wY cy b2 r_3 [])) rfl rfl rfl rfl hl.1 rfl (Nat.le_of_ble_eq_true rfl) dX3_soon_36 (fun H locs hP hD hS => ?_)
    obtain ⟨r_5, hr_5, h⟩ := bn_s h
    refine kcVi (As := [.int x1, .int r_4]) (rest := []) (ws' := (wX x0 (b1 0) r1 r2 r3 r4 (b2 0) r6 kx (wV cy b1 vv (wY cy b2 r_5.2 [])))) ⟨hx, hb, hml, hown, hts⟩ (cwV 2 hts gX3_soon_X1_fewest rfl rfl rfl ⟨rfl, eX1_fewest⟩ ⟨Nat.le_of_ble_eq_true rfl, Nat.le_of_ble_eq_true rfl⟩) (c_X1_fewest b2 hr_5) hK hP hD hS hA [9, 10, 11, 12, 13, 14, 15, 16, 17, 18] [0, 1, 2, 3, 4, 5, 6, 7, 8] (by decide) rfl rfl 1 rfl rfl [x0, (b1 0), (b1 1), (b1 2), (b1 3), (b1 4), (b1 5), (b1 6), (b1 7), (b2 0), (b2 1), (b2 2), (b2 3), (b2 4), (b2 5), (b2 6), (b2 7), (b2 8), (b2 9)] rfl rfl rfl (wX x0 (b1 0) r1 r2 r3 r4 (b2 0) r6 kx (wV cy b1 vv [])) rfl rfl rfl rfl hl.1 rfl (Nat.le_of_ble_eq_true rfl) dX3_soon_39 (fun H locs hP hD hS => ?_)
    cases h
    exact kretI hx hb hr hlk hP hS dX3_soon_42
  · replace h := it_p c_2 h
    refine lv_iconst (v := (-1)) hx hb dX3_soon_12 (by decide) ?_
    cases h
    exact kretI hx hb hr hlk hP hS dX3_soon_13
theorem c_X3_soon {l : Launch} {D : va_G} {cy : Nat → ClassId} (x0 : Nat) (r1 : Nat) (r2 : Nat) (r3 : Nat) (r4 : Nat) (r6 : Nat) (b1 : Nat → Nat) (b2 : Nat → Nat) (kx : Int32) {vv : VS} {yv : YS} {x1 : Int32} {x2 : Int32} {rr : Int32 × YS} (h : f_X3_soon vv yv x1 x2 = some rr) : CI l D cy yX3_soon wsX3_soon { frames := 6, cells := 0, slots := 0, locals := 143 } [.ref x0, .int x1, .int x2] (wX x0 (b1 0) r1 r2 r3 r4 (b2 0) r6 kx (wV cy b1 vv (wY cy b2 yv []))) (rr.1) (wX x0 (b1 0) r1 r2 r3 r4 (b2 0) r6 kx (wV cy b1 vv (wY cy b2 rr.2 []))) := by
  refine kofI (cc := cX3_soon) (maxL := 3) (ret := (some .int)) (by decide) rfl (Nat.le_of_ble_eq_true rfl) ?_
  intro p e s m below meth c A M ls hl hP hD hS
  exact w_X3_soon_0 M h hP hD hS hl
theorem eX3_soon : yX3_soon.cls ≠ "java/lang/invoke/MethodHandle" ∧ yX3_soon.cls ≠ "java/lang/invoke/VarHandle" ∧ (parseMethodDescriptor yX3_soon.desc).map (fun d => d.parameters.length) = some 2 := by decide +kernel
theorem iX3_told_X3 : ∀ w ∈ u_ws RX3 TX3 8, w ∈ wsX3_told := by decide +kernel
theorem iX3_told_X0 : ∀ w ∈ u_ws RX0 TX0 10, w ∈ wsX3_told := by decide +kernel
theorem iX3_told_X2 : ∀ w ∈ u_ws RX2 TX2 11, w ∈ wsX3_told := by decide +kernel
theorem mX3_told_1 : Cond.fieldLink RX3 28 "LentPiles" "pad" "LLentPiles$Pad;" ∈ wsX3_told := by decide +kernel
theorem mX3_told_2 : Cond.fieldLink RX3 12 "LentPiles" "now" "LLentPiles$Valley;" ∈ wsX3_told := by decide +kernel
set_option maxHeartbeats 4000000 in
set_option maxRecDepth 100000 in
theorem w_X3_told_0 {p : Program} {l : Launch} {e : Env} {s : State} {m : MethodId} {args : Array Value} {below : List Frame} {meth : Method} {c : Code} {A : Nat → Prop} {D : va_G} {cy : Nat → ClassId} {x0 : Nat} {r1 : Nat} {r2 : Nat} {r3 : Nat} {r5 : Nat} {r6 : Nat} {b1 : Nat → Nat} {b2 : Nat → Nat} {kx : Int32} {vv : VS} {dv : DS} {x1 : Int32} {rr : Int32} (M : kM p s m args meth c cX3_told 2 (some .int) RX3 wsX3_told A D cy)  (h : f_X3_told vv dv x1 = some rr) {H : Heap} {locs : List Loc} {ls : Array Slot} (hP : va_P D vwCl (wX x0 (b1 0) r1 r2 r3 (b2 0) r5 r6 kx (wV cy b1 vv (wD cy b2 dv []))) H) (hD : va_D A (wX x0 (b1 0) r1 r2 r3 (b2 0) r5 r6 kx (wV cy b1 vv (wD cy b2 dv [])))) (hS : va_S A s.heap H locs) (hl : lv_has ls 2 [(0, .ref x0), (1, .int x1)]) : W p l e { frames := 2, cells := 0, slots := 0, locals := 41 } s m args below meth c H locs 0 0 (MQ below (qI D (wX x0 (b1 0) r1 r2 r3 (b2 0) r5 r6 kx (wV cy b1 vv (wD cy b2 dv []))) (rr) A) args s 0 0 A) (F0 m 0 ls []) := by
  obtain ⟨hx, hb, hr, hml, hown, hts, hlk, hA, hK⟩ := id M
  unfold f_X3_told at h
  refine lv_iload_n hx hb dX3_told_0 rfl (lv_at hl 1 rfl) ?_
  refine lv_bipush (v := 10) hx hb dX3_told_1 (by decide) ?_
  refine lv_isub hx hb dX3_told_3 ?_
  obtain ⟨r_1, hr_1, h⟩ := bn_s h
  refine kcSi (As := [.int (x1 - (10 : Int32))]) (rest := []) ⟨hx, hb, hml, hown, hts⟩ (va_cwS 1 hts gX3_told_X3_isMan rfl rfl rfl eX3_isMan ⟨Nat.le_of_ble_eq_true rfl, Nat.le_of_ble_eq_true rfl⟩) (c_X3_isMan  hr_1) hK hP hS hA rfl hl.1 rfl (Nat.le_of_ble_eq_true rfl) dX3_told_4 (fun H locs hP hS => ?_)
  refine lv_if_eq (tgt := 22) hx hb dX3_told_7 (by decide) (fun c_2 => ?_) (fun c_2 => ?_)
  · replace h := it_p c_2 h
    refine lv_iload_n hx hb dX3_told_22 rfl (lv_at hl 1 rfl) ?_
    refine lv_bipush (v := 20) hx hb dX3_told_23 (by decide) ?_
    refine lv_isub hx hb dX3_told_25 ?_
    obtain ⟨r_3, hr_3, h⟩ := bn_s h
    refine kcSi (As := [.int (x1 - (20 : Int32))]) (rest := []) ⟨hx, hb, hml, hown, hts⟩ (va_cwS 1 hts gX3_told_X3_isMan rfl rfl rfl eX3_isMan ⟨Nat.le_of_ble_eq_true rfl, Nat.le_of_ble_eq_true rfl⟩) (c_X3_isMan  hr_3) hK hP hS hA rfl hl.1 rfl (Nat.le_of_ble_eq_true rfl) dX3_told_26 (fun H locs hP hS => ?_)
    refine lv_if_eq (tgt := 44) hx hb dX3_told_29 (by decide) (fun c_4 => ?_) (fun c_4 => ?_)
    · replace h := it_p c_4 h
      refine lv_iload_n hx hb dX3_told_44 rfl (lv_at hl 1 rfl) ?_
      by_cases c_5 : x1 = (0 : Int32)
      · replace h := it_p c_5 h
        refine lv_tableIn (off := 35) (tgt := 80) hx hb dX3_told_45 (by rw [c_5]; decide) (by rw [c_5]; decide) (by rw [c_5]; rfl) (by decide) ?_
        refine lv_aload_n hx hb dX3_told_80 rfl (lv_at hl 0 rfl) ?_
        refine va_get (D := D) (ci := 3) (v := .ref (b2 0)) (C := RX3) (T := TX3) (N := 8) hx hb hts iX3_told_X3 hown hK.1 hP 0 rfl rfl 4 (by decide) (hts _ mX3_told_1) (fun _ h9 => h9) rfl dX3_told_81 ?_
        refine va_getN (D := D) (ci := 0) (v := .int dv.2.2.2.2.2.2.1) (C := RX0) (T := TX0) (N := 10) hx hb hts iX3_told_X0 hown hK.1 hP 9 rfl rfl 6 (by decide) (va_Nw.use rfl (kN_73 hK.2)) (fun _ h9 => h9) rfl dX3_told_84 ?_
        cases h
        exact kretI hx hb hr hlk hP hS dX3_told_87
      · replace h := it_n c_5 h
        by_cases c_6 : x1 = (1 : Int32)
        · replace h := it_p c_6 h
          refine lv_tableIn (off := 43) (tgt := 88) hx hb dX3_told_45 (by rw [c_6]; decide) (by rw [c_6]; decide) (by rw [c_6]; rfl) (by decide) ?_
          refine lv_aload_n hx hb dX3_told_88 rfl (lv_at hl 0 rfl) ?_
          refine va_get (D := D) (ci := 3) (v := .ref (b1 0)) (C := RX3) (T := TX3) (N := 8) hx hb hts iX3_told_X3 hown hK.1 hP 0 rfl rfl 0 (by decide) (hts _ mX3_told_2) (fun _ h9 => h9) rfl dX3_told_89 ?_
          refine va_getN (D := D) (ci := 2) (v := .int vv.2.2.2.2.2.2.2.2.1) (C := RX2) (T := TX2) (N := 11) hx hb hts iX3_told_X2 hown hK.1 hP 1 rfl rfl 8 (by decide) (va_Nw.use rfl (kN_211 hK.2)) (fun _ h9 => h9) rfl dX3_told_92 ?_
          cases h
          exact kretI hx hb hr hlk hP hS dX3_told_95
        · replace h := it_n c_6 h
          by_cases c_7 : x1 = (2 : Int32)
          · replace h := it_p c_7 h
            refine lv_tableIn (off := 51) (tgt := 96) hx hb dX3_told_45 (by rw [c_7]; decide) (by rw [c_7]; decide) (by rw [c_7]; rfl) (by decide) ?_
            refine lv_aload_n hx hb dX3_told_96 rfl (lv_at hl 0 rfl) ?_
            refine va_get (D := D) (ci := 3) (v := .ref (b1 0)) (C := RX3) (T := TX3) (N := 8) hx hb hts iX3_told_X3 hown hK.1 hP 0 rfl rfl 0 (by decide) (hts _ mX3_told_2) (fun _ h9 => h9) rfl dX3_told_97 ?_
            refine va_getN (D := D) (ci := 2) (v := .int vv.2.2.2.2.2.2.2.2.2.1) (C := RX2) (T := TX2) (N := 11) hx hb hts iX3_told_X2 hown hK.1 hP 1 rfl rfl 9 (by decide) (va_Nw.use rfl (kN_63 hK.2)) (fun _ h9 => h9) rfl dX3_told_100 ?_
            cases h
            exact kretI hx hb hr hlk hP hS dX3_told_103
          · replace h := it_n c_7 h
            by_cases c_8 : x1 = (3 : Int32)
            · replace h := it_p c_8 h
              refine lv_tableIn (off := 59) (tgt := 104) hx hb dX3_told_45 (by rw [c_8]; decide) (by rw [c_8]; decide) (by rw [c_8]; rfl) (by decide) ?_
              refine lv_aload_n hx hb dX3_told_104 rfl (lv_at hl 0 rfl) ?_
              refine va_get (D := D) (ci := 3) (v := .ref (b1 0)) (C := RX3) (T := TX3) (N := 8) hx hb hts iX3_told_X3 hown hK.1 hP 0 rfl rfl 0 (by decide) (hts _ mX3_told_2) (fun _ h9 => h9) rfl dX3_told_105 ?_
              refine va_getN (D := D) (ci := 2) (v := .int vv.2.2.2.2.2.2.2.2.2.2) (C := RX2) (T := TX2) (N := 11) hx hb hts iX3_told_X2 hown hK.1 hP 1 rfl rfl 10 (by decide) (va_Nw.use rfl (kN_66 hK.2)) (fun _ h9 => h9) rfl dX3_told_108 ?_
              cases h
              exact kretI hx hb hr hlk hP hS dX3_told_111
            · replace h := it_n c_8 h
              by_cases c_9 : x1 = (4 : Int32)
              · replace h := it_p c_9 h
                refine lv_tableIn (off := 67) (tgt := 112) hx hb dX3_told_45 (by rw [c_9]; decide) (by rw [c_9]; decide) (by rw [c_9]; rfl) (by decide) ?_
                refine lv_aload_n hx hb dX3_told_112 rfl (lv_at hl 0 rfl) ?_
                refine va_get (D := D) (ci := 3) (v := .ref (b1 0)) (C := RX3) (T := TX3) (N := 8) hx hb hts iX3_told_X3 hown hK.1 hP 0 rfl rfl 0 (by decide) (hts _ mX3_told_2) (fun _ h9 => h9) rfl dX3_told_113 ?_
                refine va_getN (D := D) (ci := 2) (v := .int vv.2.2.2.2.2.2.2.1) (C := RX2) (T := TX2) (N := 11) hx hb hts iX3_told_X2 hown hK.1 hP 1 rfl rfl 7 (by decide) (va_Nw.use rfl (kN_123 hK.2)) (fun _ h9 => h9) rfl dX3_told_116 ?_
                cases h
                exact kretI hx hb hr hlk hP hS dX3_told_119
              · replace h := it_n c_9 h
                have hsw : (x1).toInt < 0 ∨ 4 < (x1).toInt := sw_out4 c_5 c_6 c_7 c_8 c_9
                refine lv_tableOut (tgt := 120) hx hb dX3_told_45 hsw (by decide) ?_
                refine lv_bipush (v := (-2)) hx hb dX3_told_120 (by decide) ?_
                cases h
                exact kretI hx hb hr hlk hP hS dX3_told_122
    · replace h := it_n c_4 h
      refine lv_aload_n hx hb dX3_told_32 rfl (lv_at hl 0 rfl) ?_
      refine va_get (D := D) (ci := 3) (v := .ref (b1 0)) (C := RX3) (T := TX3) (N := 8) hx hb hts iX3_told_X3 hown hK.1 hP 0 rfl rfl 0 (by decide) (hts _ mX3_told_2) (fun _ h9 => h9) rfl dX3_told_33 ?_
      refine lv_iload_n hx hb dX3_told_36 rfl (lv_at hl 1 rfl) ?_
      refine lv_bipush (v := 20) hx hb dX3_told_37 (by decide) ?_
      refine lv_isub hx hb dX3_told_39 ?_
      obtain ⟨r_10, hr_10, h⟩ := bn_s h
      refine kcVi (As := [.int (x1 - (20 : Int32))]) (rest := []) (ws' := (wX x0 (b1 0) r1 r2 r3 (b2 0) r5 r6 kx (wV cy b1 vv (wD cy b2 dv [])))) ⟨hx, hb, hml, hown, hts⟩ (cwV 1 hts gX3_told_X2_debtsOf rfl rfl rfl ⟨rfl, eX2_debtsOf⟩ ⟨Nat.le_of_ble_eq_true rfl, Nat.le_of_ble_eq_true rfl⟩) (c_X2_debtsOf b1 hr_10) hK hP hD hS hA [1, 2, 3, 4, 5, 6, 7, 8] [0, 9, 10, 11, 12, 13, 14, 15] (by decide) rfl rfl 2 rfl rfl [x0, (b1 0), (b1 1), (b1 2), (b1 3), (b1 4), (b1 5), (b1 6), (b1 7), (b2 0), (b2 1), (b2 2), (b2 3), (b2 4), (b2 5), (b2 6)] rfl rfl rfl (wX x0 (b1 0) r1 r2 r3 (b2 0) r5 r6 kx (wD cy b2 dv [])) rfl rfl rfl rfl hl.1 rfl (Nat.le_of_ble_eq_true rfl) dX3_told_40 (fun H locs hP hD hS => ?_)
      cases h
      exact kretI hx hb hr hlk hP hS dX3_told_43
  · replace h := it_n c_2 h
    refine lv_aload_n hx hb dX3_told_10 rfl (lv_at hl 0 rfl) ?_
    refine va_get (D := D) (ci := 3) (v := .ref (b1 0)) (C := RX3) (T := TX3) (N := 8) hx hb hts iX3_told_X3 hown hK.1 hP 0 rfl rfl 0 (by decide) (hts _ mX3_told_2) (fun _ h9 => h9) rfl dX3_told_11 ?_
    refine lv_iload_n hx hb dX3_told_14 rfl (lv_at hl 1 rfl) ?_
    refine lv_bipush (v := 10) hx hb dX3_told_15 (by decide) ?_
    refine lv_isub hx hb dX3_told_17 ?_
    obtain ⟨r_11, hr_11, h⟩ := bn_s h
    refine kcVi (As := [.int (x1 - (10 : Int32))]) (rest := []) (ws' := (wX x0 (b1 0) r1 r2 r3 (b2 0) r5 r6 kx (wV cy b1 vv (wD cy b2 dv [])))) ⟨hx, hb, hml, hown, hts⟩ (cwV 1 hts gX3_told_X2_purseOf rfl rfl rfl ⟨rfl, eX2_purseOf⟩ ⟨Nat.le_of_ble_eq_true rfl, Nat.le_of_ble_eq_true rfl⟩) (c_X2_purseOf b1 hr_11) hK hP hD hS hA [1, 2, 3, 4, 5, 6, 7, 8] [0, 9, 10, 11, 12, 13, 14, 15] (by decide) rfl rfl 2 rfl rfl [x0, (b1 0), (b1 1), (b1 2), (b1 3), (b1 4), (b1 5), (b1 6), (b1 7), (b2 0), (b2 1), (b2 2), (b2 3), (b2 4), (b2 5), (b2 6)] rfl rfl rfl (wX x0 (b1 0) r1 r2 r3 (b2 0) r5 r6 kx (wD cy b2 dv [])) rfl rfl rfl rfl hl.1 rfl (Nat.le_of_ble_eq_true rfl) dX3_told_18 (fun H locs hP hD hS => ?_)
    cases h
    exact kretI hx hb hr hlk hP hS dX3_told_21
theorem c_X3_told {l : Launch} {D : va_G} {cy : Nat → ClassId} (x0 : Nat) (r1 : Nat) (r2 : Nat) (r3 : Nat) (r5 : Nat) (r6 : Nat) (b1 : Nat → Nat) (b2 : Nat → Nat) (kx : Int32) {vv : VS} {dv : DS} {x1 : Int32} {rr : Int32} (h : f_X3_told vv dv x1 = some rr) : CI l D cy yX3_told wsX3_told { frames := 2, cells := 0, slots := 0, locals := 41 } [.ref x0, .int x1] (wX x0 (b1 0) r1 r2 r3 (b2 0) r5 r6 kx (wV cy b1 vv (wD cy b2 dv []))) (rr) (wX x0 (b1 0) r1 r2 r3 (b2 0) r5 r6 kx (wV cy b1 vv (wD cy b2 dv []))) := by
  refine kofI (cc := cX3_told) (maxL := 2) (ret := (some .int)) (by decide) rfl (Nat.le_of_ble_eq_true rfl) ?_
  intro p e s m below meth c A M ls hl hP hD hS
  exact w_X3_told_0 M h hP hD hS hl
theorem eX3_told : yX3_told.cls ≠ "java/lang/invoke/MethodHandle" ∧ yX3_told.cls ≠ "java/lang/invoke/VarHandle" ∧ (parseMethodDescriptor yX3_told.desc).map (fun d => d.parameters.length) = some 1 := by decide +kernel
def I_X3_whom (p : Program) (l : Launch) (e : Env) (s : State) (m : MethodId) (args : Array Value) (below : List Frame) (meth : Method) (c : Code) (A : Nat → Prop) (D : va_G) (cy : Nat → ClassId) (x0 : Nat) (r1 : Nat) (r2 : Nat) (r3 : Nat) (r4 : Nat) (r6 : Nat) (b1 : Nat → Nat) (b2 : Nat → Nat) (kx : Int32) (vv : VS) (fu : Nat) (rr : Int32 × YS) : Prop := (∀ (yv : YS) (x1 : Int32) (x2 : Int32) (x3 : Int32) (H : Heap) (locs : List Loc) (ls : Array Slot), lpn (st_X3_whom vv) fu (yv, x1, x2, x3) = some rr → va_P D vwCl (wX x0 (b1 0) r1 r2 r3 r4 (b2 0) r6 kx (wV cy b1 vv (wY cy b2 yv []))) H → va_D A (wX x0 (b1 0) r1 r2 r3 r4 (b2 0) r6 kx (wV cy b1 vv (wY cy b2 yv []))) → va_S A s.heap H locs → lv_has ls 5 [(0, .ref x0), (1, .int x1), (2, .int x2), (3, .int x3)] → W p l e { frames := 5, cells := 0, slots := 0, locals := 117 } s m args below meth c H locs 0 0 (MQ below (qI D (wX x0 (b1 0) r1 r2 r3 r4 (b2 0) r6 kx (wV cy b1 vv (wY cy b2 rr.2 []))) (rr.1) A) args s 0 0 A) (F0 m 8 ls []))
set_option maxHeartbeats 4000000 in
set_option maxRecDepth 100000 in
theorem w_X3_whom_8 {p : Program} {l : Launch} {e : Env} {s : State} {m : MethodId} {args : Array Value} {below : List Frame} {meth : Method} {c : Code} {A : Nat → Prop} {D : va_G} {cy : Nat → ClassId} {x0 : Nat} {r1 : Nat} {r2 : Nat} {r3 : Nat} {r4 : Nat} {r6 : Nat} {b1 : Nat → Nat} {b2 : Nat → Nat} {kx : Int32} {vv : VS} {fu : Nat} {rr : Int32 × YS} (M : kM p s m args meth c cX3_whom 5 (some .int) RX3 wsX3_whom A D cy) (ih : I_X3_whom p l e s m args below meth c A D cy x0 r1 r2 r3 r4 r6 b1 b2 kx vv fu rr) {yv : YS} {x1 : Int32} {x2 : Int32} {x3 : Int32} {oo : (YS × Int32 × Int32 × Int32) ⊕ (Int32 × YS)} (h : f_X3_whom_8 vv yv x1 x2 x3 = some oo) (hm : lpo (st_X3_whom vv) fu oo rr) {H : Heap} {locs : List Loc} {ls : Array Slot} (hP : va_P D vwCl (wX x0 (b1 0) r1 r2 r3 r4 (b2 0) r6 kx (wV cy b1 vv (wY cy b2 yv []))) H) (hD : va_D A (wX x0 (b1 0) r1 r2 r3 r4 (b2 0) r6 kx (wV cy b1 vv (wY cy b2 yv [])))) (hS : va_S A s.heap H locs) (hl : lv_has ls 5 [(0, .ref x0), (1, .int x1), (2, .int x2), (3, .int x3)]) : W p l e { frames := 5, cells := 0, slots := 0, locals := 117 } s m args below meth c H locs 0 0 (MQ below (qI D (wX x0 (b1 0) r1 r2 r3 r4 (b2 0) r6 kx (wV cy b1 vv (wY cy b2 rr.2 []))) (rr.1) A) args s 0 0 A) (F0 m 8 ls []) := by
  obtain ⟨hx, hb, hr, hml, hown, hts, hlk, hA, hK⟩ := id M
  unfold f_X3_whom_8 at h
  refine lv_iload_n hx hb dX3_whom_8 rfl (lv_at hl 3 rfl) ?_
  refine lv_bipush (v := 6) hx hb dX3_whom_9 (by decide) ?_
  refine lv_icmp_ge (tgt := 51) hx hb dX3_whom_11 (by decide) (fun c_1 => ?_) (fun c_1 => ?_)
  · replace h := it_p c_1 h
    refine lv_iload_n hx hb dX3_whom_51 rfl (lv_at hl 1 rfl) ?_
    cases h
    have hm : _ = rr := hm
    subst hm
    exact kretI hx hb hr hlk hP hS dX3_whom_52
  · replace h := it_n c_1 h
    refine lv_aload_n hx hb dX3_whom_14 rfl (lv_at hl 0 rfl) ?_
    refine lv_iload_n hx hb dX3_whom_15 rfl (lv_at hl 3 rfl) ?_
    obtain ⟨r_2, hr_2, h⟩ := bn_s h
    refine kcVi (As := [.int x3]) (rest := []) (ws' := (wX x0 (b1 0) r1 r2 r3 r4 (b2 0) r6 kx (wV cy b1 vv (wY cy b2 r_2.2 [])))) ⟨hx, hb, hml, hown, hts⟩ (cwV 1 hts gX3_whom_X3_leastHelp rfl rfl rfl ⟨rfl, eX3_leastHelp⟩ ⟨Nat.le_of_ble_eq_true rfl, Nat.le_of_ble_eq_true rfl⟩) (c_X3_leastHelp x0 r1 r2 r3 r4 r6 b1 b2 kx hr_2) hK hP hD hS hA [0, 1, 2, 3, 4, 5, 6, 7, 8, 9, 10, 11, 12, 13, 14, 15, 16, 17, 18] [] (by decide) rfl rfl 3 rfl rfl [x0, (b1 0), (b1 1), (b1 2), (b1 3), (b1 4), (b1 5), (b1 6), (b1 7), (b2 0), (b2 1), (b2 2), (b2 3), (b2 4), (b2 5), (b2 6), (b2 7), (b2 8), (b2 9)] rfl rfl rfl [] rfl rfl rfl rfl hl.1 rfl (Nat.le_of_ble_eq_true rfl) dX3_whom_16 (fun H locs hP hD hS => ?_)
    refine lv_topi (fun x4_3 ex4_3 => ?_)
    replace h := nm_s h ex4_3
    refine lv_istore (lv' := [(4, .int x4_3), (0, .ref x0), (1, .int x1), (2, .int x2), (3, .int x3)]) hx hb dX3_whom_19 hl (by decide) rfl (fun ls hl => ?_)
    refine lv_iload hx hb dX3_whom_21 (lv_at hl 0 rfl) ?_
    refine lv_bipush (v := (-6)) hx hb dX3_whom_23 (by decide) ?_
    refine lv_icmp_eq (tgt := 45) hx hb dX3_whom_25 (by decide) (fun c_4 => ?_) (fun c_4 => ?_)
    · replace h := it_p c_4 h
      obtain ⟨x3_5, ex3_5⟩ : ∃ z : Int32, z = (x3 + (1 : Int32)) := ⟨_, rfl⟩
      replace h := nm_s h ex3_5
      refine lv_iinc (v := x3_5) (lv' := [(3, .int x3_5), (4, .int x4_3), (0, .ref x0), (1, .int x1), (2, .int x2)]) hx hb dX3_whom_45 hl (k := 4) rfl (by rw [ex3_5]; rfl) (by decide) rfl (fun ls hl => ?_)
      refine lv_goto (tgt := 8) hx hb dX3_whom_48 (by decide) ?_
      cases h
      exact ih r_2.2 x1 x2 x3_5 _ _ _ hm hP hD hS (lv_sub hl [2, 3, 4, 0] rfl)
    · replace h := it_n c_4 h
      refine lv_iload_n hx hb dX3_whom_28 rfl (lv_at hl 2 rfl) ?_
      refine lv_bipush (v := (-6)) hx hb dX3_whom_29 (by decide) ?_
      refine lv_icmp_eq (tgt := 40) hx hb dX3_whom_31 (by decide) (fun c_6 => ?_) (fun c_6 => ?_)
      · replace h := it_p c_6 h
        refine lv_iload_n hx hb dX3_whom_40 rfl (lv_at hl 4 rfl) ?_
        refine lv_istore_n (lv' := [(1, .int x3), (4, .int x4_3), (0, .ref x0), (2, .int x2), (3, .int x3)]) hx hb dX3_whom_41 rfl hl (by decide) rfl (fun ls hl => ?_)
        refine lv_iload hx hb dX3_whom_42 (lv_at hl 1 rfl) ?_
        refine lv_istore_n (lv' := [(2, .int x4_3), (1, .int x3), (4, .int x4_3), (0, .ref x0), (3, .int x3)]) hx hb dX3_whom_44 rfl hl (by decide) rfl (fun ls hl => ?_)
        obtain ⟨x3_7, ex3_7⟩ : ∃ z : Int32, z = (x3 + (1 : Int32)) := ⟨_, rfl⟩
        replace h := nm_s h ex3_7
        refine lv_iinc (v := x3_7) (lv' := [(3, .int x3_7), (2, .int x4_3), (1, .int x3), (4, .int x4_3), (0, .ref x0)]) hx hb dX3_whom_45 hl (k := 4) rfl (by rw [ex3_7]; rfl) (by decide) rfl (fun ls hl => ?_)
        refine lv_goto (tgt := 8) hx hb dX3_whom_48 (by decide) ?_
        cases h
        exact ih r_2.2 x3 x4_3 x3_7 _ _ _ hm hP hD hS (lv_sub hl [4, 2, 1, 0] rfl)
      · replace h := it_n c_6 h
        refine lv_iload hx hb dX3_whom_34 (lv_at hl 0 rfl) ?_
        refine lv_iload_n hx hb dX3_whom_36 rfl (lv_at hl 3 rfl) ?_
        refine lv_icmp_ge (tgt := 45) hx hb dX3_whom_37 (by decide) (fun c_8 => ?_) (fun c_8 => ?_)
        · replace h := it_p c_8 h
          obtain ⟨x3_9, ex3_9⟩ : ∃ z : Int32, z = (x3 + (1 : Int32)) := ⟨_, rfl⟩
          replace h := nm_s h ex3_9
          refine lv_iinc (v := x3_9) (lv' := [(3, .int x3_9), (4, .int x4_3), (0, .ref x0), (1, .int x1), (2, .int x2)]) hx hb dX3_whom_45 hl (k := 4) rfl (by rw [ex3_9]; rfl) (by decide) rfl (fun ls hl => ?_)
          refine lv_goto (tgt := 8) hx hb dX3_whom_48 (by decide) ?_
          cases h
          exact ih r_2.2 x1 x2 x3_9 _ _ _ hm hP hD hS (lv_sub hl [2, 3, 4, 0] rfl)
        · replace h := it_n c_8 h
          refine lv_iload_n hx hb dX3_whom_40 rfl (lv_at hl 4 rfl) ?_
          refine lv_istore_n (lv' := [(1, .int x3), (4, .int x4_3), (0, .ref x0), (2, .int x2), (3, .int x3)]) hx hb dX3_whom_41 rfl hl (by decide) rfl (fun ls hl => ?_)
          refine lv_iload hx hb dX3_whom_42 (lv_at hl 1 rfl) ?_
          refine lv_istore_n (lv' := [(2, .int x4_3), (1, .int x3), (4, .int x4_3), (0, .ref x0), (3, .int x3)]) hx hb dX3_whom_44 rfl hl (by decide) rfl (fun ls hl => ?_)
          obtain ⟨x3_10, ex3_10⟩ : ∃ z : Int32, z = (x3 + (1 : Int32)) := ⟨_, rfl⟩
          replace h := nm_s h ex3_10
          refine lv_iinc (v := x3_10) (lv' := [(3, .int x3_10), (2, .int x4_3), (1, .int x3), (4, .int x4_3), (0, .ref x0)]) hx hb dX3_whom_45 hl (k := 4) rfl (by rw [ex3_10]; rfl) (by decide) rfl (fun ls hl => ?_)
          refine lv_goto (tgt := 8) hx hb dX3_whom_48 (by decide) ?_
          cases h
          exact ih r_2.2 x3 x4_3 x3_10 _ _ _ hm hP hD hS (lv_sub hl [4, 2, 1, 0] rfl)
set_option maxHeartbeats 4000000 in
set_option maxRecDepth 100000 in
theorem w_X3_whom_0 {p : Program} {l : Launch} {e : Env} {s : State} {m : MethodId} {args : Array Value} {below : List Frame} {meth : Method} {c : Code} {A : Nat → Prop} {D : va_G} {cy : Nat → ClassId} {x0 : Nat} {r1 : Nat} {r2 : Nat} {r3 : Nat} {r4 : Nat} {r6 : Nat} {b1 : Nat → Nat} {b2 : Nat → Nat} {kx : Int32} {vv : VS} {fu : Nat} {rr : Int32 × YS} (M : kM p s m args meth c cX3_whom 5 (some .int) RX3 wsX3_whom A D cy) (ih : I_X3_whom p l e s m args below meth c A D cy x0 r1 r2 r3 r4 r6 b1 b2 kx vv fu rr) {yv : YS} {oo : (YS × Int32 × Int32 × Int32) ⊕ (Int32 × YS)} (h : f_X3_whom_0 vv yv = some oo) (hm : lpo (st_X3_whom vv) fu oo rr) {H : Heap} {locs : List Loc} {ls : Array Slot} (hP : va_P D vwCl (wX x0 (b1 0) r1 r2 r3 r4 (b2 0) r6 kx (wV cy b1 vv (wY cy b2 yv []))) H) (hD : va_D A (wX x0 (b1 0) r1 r2 r3 r4 (b2 0) r6 kx (wV cy b1 vv (wY cy b2 yv [])))) (hS : va_S A s.heap H locs) (hl : lv_has ls 5 [(0, .ref x0)]) : W p l e { frames := 5, cells := 0, slots := 0, locals := 117 } s m args below meth c H locs 0 0 (MQ below (qI D (wX x0 (b1 0) r1 r2 r3 r4 (b2 0) r6 kx (wV cy b1 vv (wY cy b2 rr.2 []))) (rr.1) A) args s 0 0 A) (F0 m 0 ls []) := by
  obtain ⟨hx, hb, hr, hml, hown, hts, hlk, hA, hK⟩ := id M
  unfold f_X3_whom_0 at h
  refine lv_bipush (v := (-6)) hx hb dX3_whom_0 (by decide) ?_
  refine lv_istore_n (lv' := [(1, .int (-6 : Int32)), (0, .ref x0)]) hx hb dX3_whom_2 rfl hl (by decide) rfl (fun ls hl => ?_)
  refine lv_bipush (v := (-6)) hx hb dX3_whom_3 (by decide) ?_
  refine lv_istore_n (lv' := [(2, .int (-6 : Int32)), (1, .int (-6 : Int32)), (0, .ref x0)]) hx hb dX3_whom_5 rfl hl (by decide) rfl (fun ls hl => ?_)
  refine lv_iconst (v := 0) hx hb dX3_whom_6 (by decide) ?_
  refine lv_istore_n (lv' := [(3, .int (0 : Int32)), (2, .int (-6 : Int32)), (1, .int (-6 : Int32)), (0, .ref x0)]) hx hb dX3_whom_7 rfl hl (by decide) rfl (fun ls hl => ?_)
  cases h
  exact ih yv (-6 : Int32) (-6 : Int32) (0 : Int32) _ _ _ hm hP hD hS (lv_sub hl [3, 2, 1, 0] rfl)
theorem wl_X3_whom {p : Program} {l : Launch} {e : Env} {s : State} {m : MethodId} {args : Array Value} {below : List Frame} {meth : Method} {c : Code} {A : Nat → Prop} {D : va_G} {cy : Nat → ClassId} {x0 : Nat} {r1 : Nat} {r2 : Nat} {r3 : Nat} {r4 : Nat} {r6 : Nat} {b1 : Nat → Nat} {b2 : Nat → Nat} {kx : Int32} {vv : VS} {rr : Int32 × YS} (M : kM p s m args meth c cX3_whom 5 (some .int) RX3 wsX3_whom A D cy) : ∀ fu : Nat, I_X3_whom p l e s m args below meth c A D cy x0 r1 r2 r3 r4 r6 b1 b2 kx vv fu rr := by
  intro fu
  induction fu with
  | zero => exact (fun _ _ _ _ _ _ _ h => by cases h)
  | succ fu ih =>
    exact fun yv x1 x2 x3 H locs ls h hP hD hS hl => by
      obtain ⟨o1, h1, h2⟩ := lpn_s h
      exact w_X3_whom_8 M ih h1 h2 hP hD hS hl
theorem c_X3_whom {l : Launch} {D : va_G} {cy : Nat → ClassId} (x0 : Nat) (r1 : Nat) (r2 : Nat) (r3 : Nat) (r4 : Nat) (r6 : Nat) (b1 : Nat → Nat) (b2 : Nat → Nat) (kx : Int32) {vv : VS} {yv : YS} {rr : Int32 × YS} (h : f_X3_whom vv yv = some rr) : CI l D cy yX3_whom wsX3_whom { frames := 5, cells := 0, slots := 0, locals := 117 } [.ref x0] (wX x0 (b1 0) r1 r2 r3 r4 (b2 0) r6 kx (wV cy b1 vv (wY cy b2 yv []))) (rr.1) (wX x0 (b1 0) r1 r2 r3 r4 (b2 0) r6 kx (wV cy b1 vv (wY cy b2 rr.2 []))) := by
  refine kofI (cc := cX3_whom) (maxL := 5) (ret := (some .int)) (by decide) rfl (Nat.le_of_ble_eq_true rfl) ?_
  intro p e s m below meth c A M ls hl hP hD hS
  obtain ⟨o1, fu, h1, h2⟩ := rnx_s h
  exact w_X3_whom_0 M (wl_X3_whom M fu) h1 h2 hP hD hS hl
theorem eX3_whom : yX3_whom.cls ≠ "java/lang/invoke/MethodHandle" ∧ yX3_whom.cls ≠ "java/lang/invoke/VarHandle" ∧ (parseMethodDescriptor yX3_whom.desc).map (fun d => d.parameters.length) = some 0 := by decide +kernel
theorem iX3_wipe_X3 : ∀ w ∈ u_ws RX3 TX3 8, w ∈ wsX3_wipe := by decide +kernel
theorem iX3_wipe_X0 : ∀ w ∈ u_ws RX0 TX0 10, w ∈ wsX3_wipe := by decide +kernel
theorem mX3_wipe_1 : Cond.fieldLink RX3 28 "LentPiles" "pad" "LLentPiles$Pad;" ∈ wsX3_wipe := by decide +kernel
set_option maxHeartbeats 4000000 in
set_option maxRecDepth 100000 in
theorem w_X3_wipe_0 {p : Program} {l : Launch} {e : Env} {s : State} {m : MethodId} {args : Array Value} {below : List Frame} {meth : Method} {c : Code} {A : Nat → Prop} {D : va_G} {cy : Nat → ClassId} {x0 : Nat} {r0 : Nat} {r1 : Nat} {r2 : Nat} {r3 : Nat} {r5 : Nat} {r6 : Nat} {b1 : Nat → Nat} {kx : Int32} {rr : Int32 × DS} (M : kM p s m args meth c cX3_wipe 2 (some .int) RX3 wsX3_wipe A D cy) {dv : DS} (h : f_X3_wipe dv = some rr) {H : Heap} {locs : List Loc} {ls : Array Slot} (hP : va_P D vwCl (wX x0 r0 r1 r2 r3 (b1 0) r5 r6 kx (wD cy b1 dv [])) H) (hD : va_D A (wX x0 r0 r1 r2 r3 (b1 0) r5 r6 kx (wD cy b1 dv []))) (hS : va_S A s.heap H locs) (hl : lv_has ls 2 [(0, .ref x0)]) : W p l e { frames := 1, cells := 0, slots := 0, locals := 20 } s m args below meth c H locs 0 0 (MQ below (qI D (wX x0 r0 r1 r2 r3 (b1 0) r5 r6 kx (wD cy b1 rr.2 [])) (rr.1) A) args s 0 0 A) (F0 m 0 ls []) := by
  obtain ⟨hx, hb, hr, hml, hown, hts, hlk, hA, hK⟩ := id M
  unfold f_X3_wipe at h
  refine lv_aload_n hx hb dX3_wipe_0 rfl (lv_at hl 0 rfl) ?_
  refine va_get (D := D) (ci := 3) (v := .ref (b1 0)) (C := RX3) (T := TX3) (N := 8) hx hb hts iX3_wipe_X3 hown hK.1 hP 0 rfl rfl 4 (by decide) (hts _ mX3_wipe_1) (fun _ h9 => h9) rfl dX3_wipe_1 ?_
  refine va_getN (D := D) (ci := 0) (v := .int dv.2.2.2.2.2.2.1) (C := RX0) (T := TX0) (N := 10) hx hb hts iX3_wipe_X0 hown hK.1 hP 1 rfl rfl 6 (by decide) (va_Nw.use rfl (kN_73 hK.2)) (fun _ h9 => h9) rfl dX3_wipe_4 ?_
  refine lv_topi (fun x1_1 ex1_1 => ?_)
  replace h := nm_s h ex1_1
  refine lv_istore_n (lv' := [(1, .int x1_1), (0, .ref x0)]) hx hb dX3_wipe_7 rfl hl (by decide) rfl (fun ls hl => ?_)
  refine lv_aload_n hx hb dX3_wipe_8 rfl (lv_at hl 1 rfl) ?_
  refine va_get (D := D) (ci := 3) (v := .ref (b1 0)) (C := RX3) (T := TX3) (N := 8) hx hb hts iX3_wipe_X3 hown hK.1 hP 0 rfl rfl 4 (by decide) (hts _ mX3_wipe_1) (fun _ h9 => h9) rfl dX3_wipe_9 ?_
  obtain ⟨r_2, hr_2, h⟩ := bn_s h
  refine kcVv (As := []) (rest := []) (ws' := (wX x0 r0 r1 r2 r3 (b1 0) r5 r6 kx (wD cy b1 r_2 []))) ⟨hx, hb, hml, hown, hts⟩ (cwV 0 hts gX3_wipe_X0_clear rfl rfl rfl ⟨rfl, eX0_clear⟩ ⟨Nat.le_of_ble_eq_true rfl, Nat.le_of_ble_eq_true rfl⟩) (c_X0_clear b1 hr_2) hK hP hD hS hA [1, 2, 3, 4, 5, 6, 7] [0] (by decide) rfl rfl 0 rfl rfl [x0, (b1 0), (b1 1), (b1 2), (b1 3), (b1 4), (b1 5), (b1 6)] rfl rfl rfl (wX x0 r0 r1 r2 r3 (b1 0) r5 r6 kx []) rfl rfl rfl rfl hl.1 rfl (Nat.le_of_ble_eq_true rfl) dX3_wipe_12 (fun H locs hP hD hS => ?_)
  refine lv_iload_n hx hb dX3_wipe_15 rfl (lv_at hl 0 rfl) ?_
  cases h
  exact kretI hx hb hr hlk hP hS dX3_wipe_16
theorem c_X3_wipe {l : Launch} {D : va_G} {cy : Nat → ClassId} (x0 : Nat) (r0 : Nat) (r1 : Nat) (r2 : Nat) (r3 : Nat) (r5 : Nat) (r6 : Nat) (b1 : Nat → Nat) (kx : Int32) {dv : DS} {rr : Int32 × DS} (h : f_X3_wipe dv = some rr) : CI l D cy yX3_wipe wsX3_wipe { frames := 1, cells := 0, slots := 0, locals := 20 } [.ref x0] (wX x0 r0 r1 r2 r3 (b1 0) r5 r6 kx (wD cy b1 dv [])) (rr.1) (wX x0 r0 r1 r2 r3 (b1 0) r5 r6 kx (wD cy b1 rr.2 [])) := by
  refine kofI (cc := cX3_wipe) (maxL := 2) (ret := (some .int)) (by decide) rfl (Nat.le_of_ble_eq_true rfl) ?_
  intro p e s m below meth c A M ls hl hP hD hS
  exact w_X3_wipe_0 M h hP hD hS hl
theorem eX3_wipe : yX3_wipe.cls ≠ "java/lang/invoke/MethodHandle" ∧ yX3_wipe.cls ≠ "java/lang/invoke/VarHandle" ∧ (parseMethodDescriptor yX3_wipe.desc).map (fun d => d.parameters.length) = some 0 := by decide +kernel
theorem iX3_year_X3 : ∀ w ∈ u_ws RX3 TX3 8, w ∈ wsX3_year := by decide +kernel
theorem mX3_year_1 : Cond.fieldLink RX3 16 "LentPiles" "trial" "LLentPiles$Valley;" ∈ wsX3_year := by decide +kernel
theorem mX3_year_2 : Cond.fieldLink RX3 12 "LentPiles" "now" "LLentPiles$Valley;" ∈ wsX3_year := by decide +kernel
set_option maxHeartbeats 4000000 in
set_option maxRecDepth 100000 in
theorem w_X3_year_0 {p : Program} {l : Launch} {e : Env} {s : State} {m : MethodId} {args : Array Value} {below : List Frame} {meth : Method} {c : Code} {A : Nat → Prop} {D : va_G} {cy : Nat → ClassId} {x0 : Nat} {r2 : Nat} {r3 : Nat} {r4 : Nat} {r5 : Nat} {r6 : Nat} {b1 : Nat → Nat} {b2 : Nat → Nat} {kx : Int32} {v1 : VS} {x1 : Int32} {x2 : Int32} {x3 : Int32} {rr : Int32 × VS} (M : kM p s m args meth c cX3_year 5 (some .int) RX3 wsX3_year A D cy) {v2 : VS} (h : f_X3_year v1 v2 x1 x2 x3 = some rr) {H : Heap} {locs : List Loc} {ls : Array Slot} (hP : va_P D vwCl (wX x0 (b1 0) (b2 0) r2 r3 r4 r5 r6 kx (wV cy b1 v1 (wV cy b2 v2 []))) H) (hD : va_D A (wX x0 (b1 0) (b2 0) r2 r3 r4 r5 r6 kx (wV cy b1 v1 (wV cy b2 v2 [])))) (hS : va_S A s.heap H locs) (hl : lv_has ls 5 [(0, .ref x0), (1, .int x1), (2, .int x2), (3, .int x3)]) : W p l e { frames := 5, cells := 0, slots := 0, locals := 121 } s m args below meth c H locs 0 0 (MQ below (qI D (wX x0 (b1 0) (b2 0) r2 r3 r4 r5 r6 kx (wV cy b1 v1 (wV cy b2 rr.2 []))) (rr.1) A) args s 0 0 A) (F0 m 0 ls []) := by
  obtain ⟨hx, hb, hr, hml, hown, hts, hlk, hA, hK⟩ := id M
  unfold f_X3_year at h
  refine lv_iload_n hx hb dX3_year_0 rfl (lv_at hl 1 rfl) ?_
  refine lv_iconst (v := 0) hx hb dX3_year_1 (by decide) ?_
  refine lv_sipush (v := 9999) hx hb dX3_year_2 (by decide) ?_
  obtain ⟨r_1, hr_1, h⟩ := bn_s h
  refine kcSi (As := [.int x1, .int (0 : Int32), .int (9999 : Int32)]) (rest := []) ⟨hx, hb, hml, hown, hts⟩ (va_cwS 3 hts gX3_year_X3_isWithin rfl rfl rfl eX3_isWithin ⟨Nat.le_of_ble_eq_true rfl, Nat.le_of_ble_eq_true rfl⟩) (c_X3_isWithin  hr_1) hK hP hS hA rfl hl.1 rfl (Nat.le_of_ble_eq_true rfl) dX3_year_5 (fun H locs hP hS => ?_)
  refine lv_if_eq (tgt := 30) hx hb dX3_year_8 (by decide) (fun c_2 => ?_) (fun c_2 => ?_)
  · replace h := it_p c_2 h
    refine lv_bipush (v := (-2)) hx hb dX3_year_30 (by decide) ?_
    cases h
    exact kretI hx hb hr hlk hP hS dX3_year_32
  · replace h := it_n c_2 h
    refine lv_iload_n hx hb dX3_year_11 rfl (lv_at hl 2 rfl) ?_
    refine lv_iconst (v := 1) hx hb dX3_year_12 (by decide) ?_
    refine lv_bipush (v := 99) hx hb dX3_year_13 (by decide) ?_
    obtain ⟨r_3, hr_3, h⟩ := bn_s h
    refine kcSi (As := [.int x2, .int (1 : Int32), .int (99 : Int32)]) (rest := []) ⟨hx, hb, hml, hown, hts⟩ (va_cwS 3 hts gX3_year_X3_isWithin rfl rfl rfl eX3_isWithin ⟨Nat.le_of_ble_eq_true rfl, Nat.le_of_ble_eq_true rfl⟩) (c_X3_isWithin  hr_3) hK hP hS hA rfl hl.1 rfl (Nat.le_of_ble_eq_true rfl) dX3_year_15 (fun H locs hP hS => ?_)
    refine lv_if_eq (tgt := 30) hx hb dX3_year_18 (by decide) (fun c_4 => ?_) (fun c_4 => ?_)
    · replace h := it_p c_4 h
      refine lv_bipush (v := (-2)) hx hb dX3_year_30 (by decide) ?_
      cases h
      exact kretI hx hb hr hlk hP hS dX3_year_32
    · replace h := it_n c_4 h
      refine lv_iload_n hx hb dX3_year_21 rfl (lv_at hl 3 rfl) ?_
      refine lv_iconst (v := 0) hx hb dX3_year_22 (by decide) ?_
      refine lv_iconst (v := 2) hx hb dX3_year_23 (by decide) ?_
      obtain ⟨r_5, hr_5, h⟩ := bn_s h
      refine kcSi (As := [.int x3, .int (0 : Int32), .int (2 : Int32)]) (rest := []) ⟨hx, hb, hml, hown, hts⟩ (va_cwS 3 hts gX3_year_X3_isWithin rfl rfl rfl eX3_isWithin ⟨Nat.le_of_ble_eq_true rfl, Nat.le_of_ble_eq_true rfl⟩) (c_X3_isWithin  hr_5) hK hP hS hA rfl hl.1 rfl (Nat.le_of_ble_eq_true rfl) dX3_year_24 (fun H locs hP hS => ?_)
      refine lv_if_ne (tgt := 33) hx hb dX3_year_27 (by decide) (fun c_6 => ?_) (fun c_6 => ?_)
      · replace h := it_n c_6 h
        refine lv_aload_n hx hb dX3_year_33 rfl (lv_at hl 0 rfl) ?_
        refine va_get (D := D) (ci := 3) (v := .ref (b2 0)) (C := RX3) (T := TX3) (N := 8) hx hb hts iX3_year_X3 hown hK.1 hP 0 rfl rfl 1 (by decide) (hts _ mX3_year_1) (fun _ h9 => h9) rfl dX3_year_34 ?_
        refine lv_aload_n hx hb dX3_year_37 rfl (lv_at hl 0 rfl) ?_
        refine va_get (D := D) (ci := 3) (v := .ref (b1 0)) (C := RX3) (T := TX3) (N := 8) hx hb hts iX3_year_X3 hown hK.1 hP 0 rfl rfl 0 (by decide) (hts _ mX3_year_2) (fun _ h9 => h9) rfl dX3_year_38 ?_
        obtain ⟨r_7, hr_7, h⟩ := bn_s h
        refine kcVv (As := [.ref (b1 0)]) (rest := []) (ws' := (wX x0 (b1 0) (b2 0) r2 r3 r4 r5 r6 kx (wV cy b1 v1 (wV cy b2 r_7 [])))) ⟨hx, hb, hml, hown, hts⟩ (cwV 1 hts gX3_year_X2_copyFrom rfl rfl rfl ⟨rfl, eX2_copyFrom⟩ ⟨Nat.le_of_ble_eq_true rfl, Nat.le_of_ble_eq_true rfl⟩) (c_X2_copyFrom b2 b1 hr_7) hK hP hD hS hA [9, 10, 11, 12, 13, 14, 15, 16, 1, 2, 3, 4, 5, 6, 7, 8] [0] (by decide) rfl rfl 2 rfl rfl [x0, (b1 0), (b1 1), (b1 2), (b1 3), (b1 4), (b1 5), (b1 6), (b1 7), (b2 0), (b2 1), (b2 2), (b2 3), (b2 4), (b2 5), (b2 6), (b2 7)] rfl rfl rfl (wX x0 (b1 0) (b2 0) r2 r3 r4 r5 r6 kx []) rfl rfl rfl rfl hl.1 rfl (Nat.le_of_ble_eq_true rfl) dX3_year_41 (fun H locs hP hD hS => ?_)
        refine lv_aload_n hx hb dX3_year_44 rfl (lv_at hl 0 rfl) ?_
        refine lv_iload_n hx hb dX3_year_45 rfl (lv_at hl 1 rfl) ?_
        refine lv_iload_n hx hb dX3_year_46 rfl (lv_at hl 2 rfl) ?_
        obtain ⟨r_8, hr_8, h⟩ := bn_s h
        refine kcVi (As := [.int x1, .int x2]) (rest := []) (ws' := (wX x0 (b1 0) (b2 0) r2 r3 r4 r5 r6 kx (wV cy b1 v1 (wV cy b2 r_8.2 [])))) ⟨hx, hb, hml, hown, hts⟩ (cwV 2 hts gX3_year_X3_liveYear rfl rfl rfl ⟨rfl, eX3_liveYear⟩ ⟨Nat.le_of_ble_eq_true rfl, Nat.le_of_ble_eq_true rfl⟩) (c_X3_liveYear x0 (b1 0) r2 r3 r4 r5 r6 b2 kx hr_8) hK hP hD hS hA [0, 9, 10, 11, 12, 13, 14, 15, 16] [1, 2, 3, 4, 5, 6, 7, 8] (by decide) rfl rfl 3 rfl rfl [x0, (b1 0), (b1 1), (b1 2), (b1 3), (b1 4), (b1 5), (b1 6), (b1 7), (b2 0), (b2 1), (b2 2), (b2 3), (b2 4), (b2 5), (b2 6), (b2 7)] rfl rfl rfl (wV cy b1 v1 []) rfl rfl rfl rfl hl.1 rfl (Nat.le_of_ble_eq_true rfl) dX3_year_47 (fun H locs hP hD hS => ?_)
        refine lv_topi (fun x4_9 ex4_9 => ?_)
        replace h := nm_s h ex4_9
        refine lv_istore (lv' := [(4, .int x4_9), (0, .ref x0), (1, .int x1), (2, .int x2), (3, .int x3)]) hx hb dX3_year_50 hl (by decide) rfl (fun ls hl => ?_)
        refine lv_iload_n hx hb dX3_year_52 rfl (lv_at hl 4 rfl) ?_
        refine lv_if_ne (tgt := 59) hx hb dX3_year_53 (by decide) (fun c_10 => ?_) (fun c_10 => ?_)
        · replace h := it_n c_10 h
          refine lv_iload_n hx hb dX3_year_59 rfl (lv_at hl 4 rfl) ?_
          refine lv_iconst (v := 1) hx hb dX3_year_60 (by decide) ?_
          refine lv_icmp_ne (tgt := 74) hx hb dX3_year_61 (by decide) (fun c_11 => ?_) (fun c_11 => ?_)
          · replace h := it_n c_11 h
            refine lv_aload_n hx hb dX3_year_74 rfl (lv_at hl 1 rfl) ?_
            refine va_get (D := D) (ci := 3) (v := .ref (b2 0)) (C := RX3) (T := TX3) (N := 8) hx hb hts iX3_year_X3 hown hK.1 hP 0 rfl rfl 1 (by decide) (hts _ mX3_year_1) (fun _ h9 => h9) rfl dX3_year_75 ?_
            obtain ⟨r_12, hr_12, h⟩ := bn_s h
            refine kcVi (As := []) (rest := []) (ws' := (wX x0 (b1 0) (b2 0) r2 r3 r4 r5 r6 kx (wV cy b1 v1 (wV cy b2 r_8.2 [])))) ⟨hx, hb, hml, hown, hts⟩ (cwV 0 hts gX3_year_X2_allPence rfl rfl rfl ⟨rfl, eX2_allPence⟩ ⟨Nat.le_of_ble_eq_true rfl, Nat.le_of_ble_eq_true rfl⟩) (c_X2_allPence b2 hr_12) hK hP hD hS hA [9, 10, 11, 12, 13, 14, 15, 16] [0, 1, 2, 3, 4, 5, 6, 7, 8] (by decide) rfl rfl 2 rfl rfl [x0, (b1 0), (b1 1), (b1 2), (b1 3), (b1 4), (b1 5), (b1 6), (b1 7), (b2 0), (b2 1), (b2 2), (b2 3), (b2 4), (b2 5), (b2 6), (b2 7)] rfl rfl rfl (wX x0 (b1 0) (b2 0) r2 r3 r4 r5 r6 kx (wV cy b1 v1 [])) rfl rfl rfl rfl hl.1 rfl (Nat.le_of_ble_eq_true rfl) dX3_year_78 (fun H locs hP hD hS => ?_)
            cases h
            exact kretI hx hb hr hlk hP hS dX3_year_81
          · replace h := it_p c_11 h
            refine lv_aload_n hx hb dX3_year_64 rfl (lv_at hl 1 rfl) ?_
            refine va_get (D := D) (ci := 3) (v := .ref (b2 0)) (C := RX3) (T := TX3) (N := 8) hx hb hts iX3_year_X3 hown hK.1 hP 0 rfl rfl 1 (by decide) (hts _ mX3_year_1) (fun _ h9 => h9) rfl dX3_year_65 ?_
            obtain ⟨r_13, hr_13, h⟩ := bn_s h
            refine kcVi (As := []) (rest := []) (ws' := (wX x0 (b1 0) (b2 0) r2 r3 r4 r5 r6 kx (wV cy b1 v1 (wV cy b2 r_8.2 [])))) ⟨hx, hb, hml, hown, hts⟩ (cwV 0 hts gX3_year_X2_allDebts rfl rfl rfl ⟨rfl, eX2_allDebts⟩ ⟨Nat.le_of_ble_eq_true rfl, Nat.le_of_ble_eq_true rfl⟩) (c_X2_allDebts b2 hr_13) hK hP hD hS hA [9, 10, 11, 12, 13, 14, 15, 16] [0, 1, 2, 3, 4, 5, 6, 7, 8] (by decide) rfl rfl 2 rfl rfl [x0, (b1 0), (b1 1), (b1 2), (b1 3), (b1 4), (b1 5), (b1 6), (b1 7), (b2 0), (b2 1), (b2 2), (b2 3), (b2 4), (b2 5), (b2 6), (b2 7)] rfl rfl rfl (wX x0 (b1 0) (b2 0) r2 r3 r4 r5 r6 kx (wV cy b1 v1 [])) rfl rfl rfl rfl hl.1 rfl (Nat.le_of_ble_eq_true rfl) dX3_year_68 (fun H locs hP hD hS => ?_)
            refine lv_goto (tgt := 81) hx hb dX3_year_71 (by decide) ?_
            cases h
            exact kretI hx hb hr hlk hP hS dX3_year_81
        · replace h := it_p c_10 h
          refine lv_iload hx hb dX3_year_56 (lv_at hl 0 rfl) ?_
          cases h
          exact kretI hx hb hr hlk hP hS dX3_year_58
      · replace h := it_p c_6 h
        refine lv_bipush (v := (-2)) hx hb dX3_year_30 (by decide) ?_
        cases h
        exact kretI hx hb hr hlk hP hS dX3_year_32
theorem c_X3_year {l : Launch} {D : va_G} {cy : Nat → ClassId} (x0 : Nat) (r2 : Nat) (r3 : Nat) (r4 : Nat) (r5 : Nat) (r6 : Nat) (b1 : Nat → Nat) (b2 : Nat → Nat) (kx : Int32) {v1 : VS} {v2 : VS} {x1 : Int32} {x2 : Int32} {x3 : Int32} {rr : Int32 × VS} (h : f_X3_year v1 v2 x1 x2 x3 = some rr) : CI l D cy yX3_year wsX3_year { frames := 5, cells := 0, slots := 0, locals := 121 } [.ref x0, .int x1, .int x2, .int x3] (wX x0 (b1 0) (b2 0) r2 r3 r4 r5 r6 kx (wV cy b1 v1 (wV cy b2 v2 []))) (rr.1) (wX x0 (b1 0) (b2 0) r2 r3 r4 r5 r6 kx (wV cy b1 v1 (wV cy b2 rr.2 []))) := by
  refine kofI (cc := cX3_year) (maxL := 5) (ret := (some .int)) (by decide) rfl (Nat.le_of_ble_eq_true rfl) ?_
  intro p e s m below meth c A M ls hl hP hD hS
  exact w_X3_year_0 M h hP hD hS hl
theorem eX3_year : yX3_year.cls ≠ "java/lang/invoke/MethodHandle" ∧ yX3_year.cls ≠ "java/lang/invoke/VarHandle" ∧ (parseMethodDescriptor yX3_year.desc).map (fun d => d.parameters.length) = some 3 := by decide +kernel
