/-! printed by wip/gen/gen.py: the walks -/
theorem iX3_image_X3 : ∀ w ∈ u_ws RX3 TX3 8, w ∈ wsX3_image := by decide +kernel
theorem mX3_image_1 : Cond.fieldLink RX3 12 "LentPiles" "now" "LLentPiles$Valley;" ∈ wsX3_image := by decide +kernel
theorem mX3_image_2 : Cond.fieldLink RX3 43 "LentPiles" "imagesKept" "I" ∈ wsX3_image := by decide +kernel
set_option maxHeartbeats 4000000 in
set_option maxRecDepth 100000 in
theorem w_X3_image_0 {p : Program} {l : Launch} {e : Env} {s : State} {m : MethodId} {args : Array Value} {below : List Frame} {meth : Method} {c : Code} {A : Nat → Prop} {D : va_G} {cy : Nat → ClassId} {x0 : Nat} {r1 : Nat} {r4 : Nat} {r5 : Nat} {r6 : Nat} {b1 : Nat → Nat} {b2 : Nat → Nat} {b3 : Nat → Nat} {v1 : VS} {x1 : Int32} {rr : Int32 × Int32 × VS × VS} (M : kM p s m args meth c cX3_image 2 (some .int) RX3 wsX3_image A D cy) {kx : Int32} {v2 : VS} {v3 : VS} (h : f_X3_image kx v1 v2 v3 x1 = some rr) {H : Heap} {locs : List Loc} {ls : Array Slot} (hP : va_P D vwCl (wX x0 (b1 0) r1 (b2 0) (b3 0) r4 r5 r6 kx (wV cy b1 v1 (wV cy b2 v2 (wV cy b3 v3 [])))) H) (hD : va_D A (wX x0 (b1 0) r1 (b2 0) (b3 0) r4 r5 r6 kx (wV cy b1 v1 (wV cy b2 v2 (wV cy b3 v3 []))))) (hS : va_S A s.heap H locs) (hl : lv_has ls 2 [(0, .ref x0), (1, .int x1)]) : W p l e { frames := 2, cells := 0, slots := 0, locals := 61 } s m args below meth c H locs 0 0 (MQ below (qI D (wX x0 (b1 0) r1 (b2 0) (b3 0) r4 r5 r6 rr.2.1 (wV cy b1 v1 (wV cy b2 rr.2.2.1 (wV cy b3 rr.2.2.2 [])))) (rr.1) A) args s 0 0 A) (F0 m 0 ls []) := by
  obtain ⟨hx, hb, hr, hml, hown, hts, hlk, hA, hK⟩ := id M
  unfold f_X3_image at h
  refine lv_iload_n hx hb dX3_image_0 rfl (lv_at hl 1 rfl) ?_
  refine lv_iconst (v := 0) hx hb dX3_image_1 (by decide) ?_
  refine lv_iconst (v := 1) hx hb dX3_image_2 (by decide) ?_
  obtain ⟨r_1, hr_1, h⟩ := bn_s h
  refine kcSi (As := [.int x1, .int (0 : Int32), .int (1 : Int32)]) (rest := []) ⟨hx, hb, hml, hown, hts⟩ (va_cwS 3 hts gX3_image_X3_isWithin rfl rfl rfl eX3_isWithin ⟨Nat.le_of_ble_eq_true rfl, Nat.le_of_ble_eq_true rfl⟩) (c_X3_isWithin  hr_1) hK hP hS hA rfl hl.1 rfl (Nat.le_of_ble_eq_true rfl) dX3_image_3 (fun H locs hP hS => ?_)
  refine lv_if_ne (tgt := 12) hx hb dX3_image_6 (by decide) (fun c_2 => ?_) (fun c_2 => ?_)
  · replace h := it_n c_2 h
    refine lv_aload_n hx hb dX3_image_12 rfl (lv_at hl 0 rfl) ?_
    refine lv_iload_n hx hb dX3_image_13 rfl (lv_at hl 1 rfl) ?_
    by_cases c_3 : x1 = (0 : Int32)
    · replace h := it_p c_3 h
      refine kcVr (As := [.int x1]) (rest := []) ⟨hx, hb, hml, hown, hts⟩ (cwV 1 hts gX3_image_X3_imageOf rfl rfl rfl ⟨rfl, eX3_imageOf⟩ ⟨Nat.le_of_ble_eq_true rfl, Nat.le_of_ble_eq_true rfl⟩) (c_X3_imageOf_0 x0 (b1 0) r1 (b2 0) (b3 0) r4 r5 r6 kx c_3) hK hP hD hS hA [0] [1, 2, 3, 4, 5, 6, 7, 8, 9, 10, 11, 12, 13, 14, 15, 16, 17, 18, 19, 20, 21, 22, 23, 24] (by decide) rfl rfl 3 rfl rfl rfl rfl hl.1 rfl (Nat.le_of_ble_eq_true rfl) dX3_image_14 (fun H locs hP hD hS => ?_)
      refine lv_aload_n hx hb dX3_image_17 rfl (lv_at hl 0 rfl) ?_
      refine va_get (D := D) (ci := 3) (v := .ref (b1 0)) (C := RX3) (T := TX3) (N := 8) hx hb hts iX3_image_X3 hown hK.1 hP 0 rfl rfl 0 (by decide) (hts _ mX3_image_1) (fun _ h9 => h9) rfl dX3_image_18 ?_
      obtain ⟨r_4, hr_4, h⟩ := bn_s h
      refine kcVv (As := [.ref (b1 0)]) (rest := []) (ws' := (wX x0 (b1 0) r1 (b2 0) (b3 0) r4 r5 r6 kx (wV cy b1 v1 (wV cy b2 r_4 (wV cy b3 v3 []))))) ⟨hx, hb, hml, hown, hts⟩ (cwV 1 hts gX3_image_X2_copyFrom rfl rfl rfl ⟨rfl, eX2_copyFrom⟩ ⟨Nat.le_of_ble_eq_true rfl, Nat.le_of_ble_eq_true rfl⟩) (c_X2_copyFrom b2 b1 hr_4) hK hP hD hS hA [9, 10, 11, 12, 13, 14, 15, 16, 1, 2, 3, 4, 5, 6, 7, 8] [0, 17, 18, 19, 20, 21, 22, 23, 24] (by decide) rfl rfl 2 rfl rfl [x0, (b1 0), (b1 1), (b1 2), (b1 3), (b1 4), (b1 5), (b1 6), (b1 7), (b2 0), (b2 1), (b2 2), (b2 3), (b2 4), (b2 5), (b2 6), (b2 7), (b3 0), (b3 1), (b3 2), (b3 3), (b3 4), (b3 5), (b3 6), (b3 7)] rfl rfl rfl (wX x0 (b1 0) r1 (b2 0) (b3 0) r4 r5 r6 kx (wV cy b3 v3 [])) rfl rfl rfl rfl hl.1 rfl (Nat.le_of_ble_eq_true rfl) dX3_image_21 (fun H locs hP hD hS => ?_)
      refine lv_aload_n hx hb dX3_image_24 rfl (lv_at hl 0 rfl) ?_
      refine lv_dup hx hb dX3_image_25 rfl ?_
      refine va_get (D := D) (ci := 3) (v := .int kx) (C := RX3) (T := TX3) (N := 8) hx hb hts iX3_image_X3 hown hK.1 hP 0 rfl rfl 7 (by decide) (hts _ mX3_image_2) (fun _ h9 => h9) rfl dX3_image_26 ?_
      refine lv_iconst (v := 1) hx hb dX3_image_29 (by decide) ?_
      refine lv_iload_n hx hb dX3_image_30 rfl (lv_at hl 1 rfl) ?_
      refine lv_ishl hx hb dX3_image_31 ?_
      refine lv_ior hx hb dX3_image_32 ?_
      refine va_put (D := D) (ci := 3) (v := .int (kx ||| ((1 : Int32) <<< (x1 &&& 31)))) (ty := .int) (C := RX3) (T := TX3) (N := 8) hx hb hts iX3_image_X3 tyX3 tyX3_ok nmX3 hown hK.1 hP hD hS 0 rfl rfl 7 (by decide) (hts _ mX3_image_2) (fun _ h9 => h9) rfl (by decide +kernel) rfl rfl (Nat.le_of_ble_eq_true rfl) dX3_image_33 (fun H locs hP hD hS => ?_)
      obtain ⟨kx_5, ekx_5⟩ : ∃ z : Int32, z = (kx ||| ((1 : Int32) <<< (x1 &&& 31))) := ⟨_, rfl⟩
      replace h := nm_s h ekx_5
      have hP : va_P D vwCl (wX x0 (b1 0) r1 (b2 0) (b3 0) r4 r5 r6 kx_5 (wV cy b1 v1 (wV cy b2 r_4 (wV cy b3 v3 [])))) H := by subst ekx_5; exact hP
      have hD : va_D A (wX x0 (b1 0) r1 (b2 0) (b3 0) r4 r5 r6 kx_5 (wV cy b1 v1 (wV cy b2 r_4 (wV cy b3 v3 [])))) := hD.lk [x0, (b1 0), (b1 1), (b1 2), (b1 3), (b1 4), (b1 5), (b1 6), (b1 7), (b2 0), (b2 1), (b2 2), (b2 3), (b2 4), (b2 5), (b2 6), (b2 7), (b3 0), (b3 1), (b3 2), (b3 3), (b3 4), (b3 5), (b3 6), (b3 7)] rfl rfl
      refine lv_iconst (v := 1) hx hb dX3_image_36 (by decide) ?_
      cases h
      exact kretI hx hb hr hlk hP hS dX3_image_37
    · replace h := it_n c_3 h
      refine kcVr (As := [.int x1]) (rest := []) ⟨hx, hb, hml, hown, hts⟩ (cwV 1 hts gX3_image_X3_imageOf rfl rfl rfl ⟨rfl, eX3_imageOf⟩ ⟨Nat.le_of_ble_eq_true rfl, Nat.le_of_ble_eq_true rfl⟩) (c_X3_imageOf_1 x0 (b1 0) r1 (b2 0) (b3 0) r4 r5 r6 kx c_3) hK hP hD hS hA [0] [1, 2, 3, 4, 5, 6, 7, 8, 9, 10, 11, 12, 13, 14, 15, 16, 17, 18, 19, 20, 21, 22, 23, 24] (by decide) rfl rfl 3 rfl rfl rfl rfl hl.1 rfl (Nat.le_of_ble_eq_true rfl) dX3_image_14 (fun H locs hP hD hS => ?_)
      refine lv_aload_n hx hb dX3_image_17 rfl (lv_at hl 0 rfl) ?_
      refine va_get (D := D) (ci := 3) (v := .ref (b1 0)) (C := RX3) (T := TX3) (N := 8) hx hb hts iX3_image_X3 hown hK.1 hP 0 rfl rfl 0 (by decide) (hts _ mX3_image_1) (fun _ h9 => h9) rfl dX3_image_18 ?_
      obtain ⟨r_6, hr_6, h⟩ := bn_s h
      refine kcVv (As := [.ref (b1 0)]) (rest := []) (ws' := (wX x0 (b1 0) r1 (b2 0) (b3 0) r4 r5 r6 kx (wV cy b1 v1 (wV cy b2 v2 (wV cy b3 r_6 []))))) ⟨hx, hb, hml, hown, hts⟩ (cwV 1 hts gX3_image_X2_copyFrom rfl rfl rfl ⟨rfl, eX2_copyFrom⟩ ⟨Nat.le_of_ble_eq_true rfl, Nat.le_of_ble_eq_true rfl⟩) (c_X2_copyFrom b3 b1 hr_6) hK hP hD hS hA [17, 18, 19, 20, 21, 22, 23, 24, 1, 2, 3, 4, 5, 6, 7, 8] [0, 9, 10, 11, 12, 13, 14, 15, 16] (by decide) rfl rfl 2 rfl rfl [x0, (b1 0), (b1 1), (b1 2), (b1 3), (b1 4), (b1 5), (b1 6), (b1 7), (b2 0), (b2 1), (b2 2), (b2 3), (b2 4), (b2 5), (b2 6), (b2 7), (b3 0), (b3 1), (b3 2), (b3 3), (b3 4), (b3 5), (b3 6), (b3 7)] rfl rfl rfl (wX x0 (b1 0) r1 (b2 0) (b3 0) r4 r5 r6 kx (wV cy b2 v2 [])) rfl rfl rfl rfl hl.1 rfl (Nat.le_of_ble_eq_true rfl) dX3_image_21 (fun H locs hP hD hS => ?_)
      refine lv_aload_n hx hb dX3_image_24 rfl (lv_at hl 0 rfl) ?_
      refine lv_dup hx hb dX3_image_25 rfl ?_
      refine va_get (D := D) (ci := 3) (v := .int kx) (C := RX3) (T := TX3) (N := 8) hx hb hts iX3_image_X3 hown hK.1 hP 0 rfl rfl 7 (by decide) (hts _ mX3_image_2) (fun _ h9 => h9) rfl dX3_image_26 ?_
      refine lv_iconst (v := 1) hx hb dX3_image_29 (by decide) ?_
      refine lv_iload_n hx hb dX3_image_30 rfl (lv_at hl 1 rfl) ?_
      refine lv_ishl hx hb dX3_image_31 ?_
      refine lv_ior hx hb dX3_image_32 ?_
      refine va_put (D := D) (ci := 3) (v := .int (kx ||| ((1 : Int32) <<< (x1 &&& 31)))) (ty := .int) (C := RX3) (T := TX3) (N := 8) hx hb hts iX3_image_X3 tyX3 tyX3_ok nmX3 hown hK.1 hP hD hS 0 rfl rfl 7 (by decide) (hts _ mX3_image_2) (fun _ h9 => h9) rfl (by decide +kernel) rfl rfl (Nat.le_of_ble_eq_true rfl) dX3_image_33 (fun H locs hP hD hS => ?_)
      obtain ⟨kx_7, ekx_7⟩ : ∃ z : Int32, z = (kx ||| ((1 : Int32) <<< (x1 &&& 31))) := ⟨_, rfl⟩
      replace h := nm_s h ekx_7
      have hP : va_P D vwCl (wX x0 (b1 0) r1 (b2 0) (b3 0) r4 r5 r6 kx_7 (wV cy b1 v1 (wV cy b2 v2 (wV cy b3 r_6 [])))) H := by subst ekx_7; exact hP
      have hD : va_D A (wX x0 (b1 0) r1 (b2 0) (b3 0) r4 r5 r6 kx_7 (wV cy b1 v1 (wV cy b2 v2 (wV cy b3 r_6 [])))) := hD.lk [x0, (b1 0), (b1 1), (b1 2), (b1 3), (b1 4), (b1 5), (b1 6), (b1 7), (b2 0), (b2 1), (b2 2), (b2 3), (b2 4), (b2 5), (b2 6), (b2 7), (b3 0), (b3 1), (b3 2), (b3 3), (b3 4), (b3 5), (b3 6), (b3 7)] rfl rfl
      refine lv_iconst (v := 1) hx hb dX3_image_36 (by decide) ?_
      cases h
      exact kretI hx hb hr hlk hP hS dX3_image_37
  · replace h := it_p c_2 h
    refine lv_bipush (v := (-2)) hx hb dX3_image_9 (by decide) ?_
    cases h
    exact kretI hx hb hr hlk hP hS dX3_image_11
theorem c_X3_image {l : Launch} {D : va_G} {cy : Nat → ClassId} (x0 : Nat) (r1 : Nat) (r4 : Nat) (r5 : Nat) (r6 : Nat) (b1 : Nat → Nat) (b2 : Nat → Nat) (b3 : Nat → Nat) {kx : Int32} {v1 : VS} {v2 : VS} {v3 : VS} {x1 : Int32} {rr : Int32 × Int32 × VS × VS} (h : f_X3_image kx v1 v2 v3 x1 = some rr) : CI l D cy yX3_image wsX3_image { frames := 2, cells := 0, slots := 0, locals := 61 } [.ref x0, .int x1] (wX x0 (b1 0) r1 (b2 0) (b3 0) r4 r5 r6 kx (wV cy b1 v1 (wV cy b2 v2 (wV cy b3 v3 [])))) (rr.1) (wX x0 (b1 0) r1 (b2 0) (b3 0) r4 r5 r6 rr.2.1 (wV cy b1 v1 (wV cy b2 rr.2.2.1 (wV cy b3 rr.2.2.2 [])))) := by
  refine kofI (cc := cX3_image) (maxL := 2) (ret := (some .int)) (by decide) rfl (Nat.le_of_ble_eq_true rfl) ?_
  intro p e s m below meth c A M ls hl hP hD hS
  exact w_X3_image_0 M h hP hD hS hl
theorem eX3_image : yX3_image.cls ≠ "java/lang/invoke/MethodHandle" ∧ yX3_image.cls ≠ "java/lang/invoke/VarHandle" ∧ (parseMethodDescriptor yX3_image.desc).map (fun d => d.parameters.length) = some 1 := by decide +kernel
theorem iX3_restore_X3 : ∀ w ∈ u_ws RX3 TX3 8, w ∈ wsX3_restore := by decide +kernel
theorem mX3_restore_1 : Cond.fieldLink RX3 43 "LentPiles" "imagesKept" "I" ∈ wsX3_restore := by decide +kernel
theorem mX3_restore_2 : Cond.fieldLink RX3 12 "LentPiles" "now" "LLentPiles$Valley;" ∈ wsX3_restore := by decide +kernel
set_option maxHeartbeats 4000000 in
set_option maxRecDepth 100000 in
theorem w_X3_restore_0 {p : Program} {l : Launch} {e : Env} {s : State} {m : MethodId} {args : Array Value} {below : List Frame} {meth : Method} {c : Code} {A : Nat → Prop} {D : va_G} {cy : Nat → ClassId} {x0 : Nat} {r1 : Nat} {r4 : Nat} {r5 : Nat} {r6 : Nat} {b1 : Nat → Nat} {b2 : Nat → Nat} {b3 : Nat → Nat} {kx : Int32} {v2 : VS} {v3 : VS} {x1 : Int32} {rr : Int32 × VS} (M : kM p s m args meth c cX3_restore 2 (some .int) RX3 wsX3_restore A D cy) {v1 : VS} (h : f_X3_restore kx v1 v2 v3 x1 = some rr) {H : Heap} {locs : List Loc} {ls : Array Slot} (hP : va_P D vwCl (wX x0 (b1 0) r1 (b2 0) (b3 0) r4 r5 r6 kx (wV cy b1 v1 (wV cy b2 v2 (wV cy b3 v3 [])))) H) (hD : va_D A (wX x0 (b1 0) r1 (b2 0) (b3 0) r4 r5 r6 kx (wV cy b1 v1 (wV cy b2 v2 (wV cy b3 v3 []))))) (hS : va_S A s.heap H locs) (hl : lv_has ls 2 [(0, .ref x0), (1, .int x1)]) : W p l e { frames := 2, cells := 0, slots := 0, locals := 61 } s m args below meth c H locs 0 0 (MQ below (qI D (wX x0 (b1 0) r1 (b2 0) (b3 0) r4 r5 r6 kx (wV cy b1 rr.2 (wV cy b2 v2 (wV cy b3 v3 [])))) (rr.1) A) args s 0 0 A) (F0 m 0 ls []) := by
  obtain ⟨hx, hb, hr, hml, hown, hts, hlk, hA, hK⟩ := id M
  unfold f_X3_restore at h
  refine lv_iload_n hx hb dX3_restore_0 rfl (lv_at hl 1 rfl) ?_
  refine lv_iconst (v := 0) hx hb dX3_restore_1 (by decide) ?_
  refine lv_iconst (v := 1) hx hb dX3_restore_2 (by decide) ?_
  obtain ⟨r_1, hr_1, h⟩ := bn_s h
  refine kcSi (As := [.int x1, .int (0 : Int32), .int (1 : Int32)]) (rest := []) ⟨hx, hb, hml, hown, hts⟩ (va_cwS 3 hts gX3_restore_X3_isWithin rfl rfl rfl eX3_isWithin ⟨Nat.le_of_ble_eq_true rfl, Nat.le_of_ble_eq_true rfl⟩) (c_X3_isWithin  hr_1) hK hP hS hA rfl hl.1 rfl (Nat.le_of_ble_eq_true rfl) dX3_restore_3 (fun H locs hP hS => ?_)
  refine lv_if_ne (tgt := 12) hx hb dX3_restore_6 (by decide) (fun c_2 => ?_) (fun c_2 => ?_)
  · replace h := it_n c_2 h
    refine lv_aload_n hx hb dX3_restore_12 rfl (lv_at hl 0 rfl) ?_
    refine va_get (D := D) (ci := 3) (v := .int kx) (C := RX3) (T := TX3) (N := 8) hx hb hts iX3_restore_X3 hown hK.1 hP 0 rfl rfl 7 (by decide) (hts _ mX3_restore_1) (fun _ h9 => h9) rfl dX3_restore_13 ?_
    refine lv_iconst (v := 1) hx hb dX3_restore_16 (by decide) ?_
    refine lv_iload_n hx hb dX3_restore_17 rfl (lv_at hl 1 rfl) ?_
    refine lv_ishl hx hb dX3_restore_18 ?_
    refine lv_iand hx hb dX3_restore_19 ?_
    refine lv_if_ne (tgt := 26) hx hb dX3_restore_20 (by decide) (fun c_3 => ?_) (fun c_3 => ?_)
    · replace h := it_n c_3 h
      refine lv_aload_n hx hb dX3_restore_26 rfl (lv_at hl 0 rfl) ?_
      refine va_get (D := D) (ci := 3) (v := .ref (b1 0)) (C := RX3) (T := TX3) (N := 8) hx hb hts iX3_restore_X3 hown hK.1 hP 0 rfl rfl 0 (by decide) (hts _ mX3_restore_2) (fun _ h9 => h9) rfl dX3_restore_27 ?_
      refine lv_aload_n hx hb dX3_restore_30 rfl (lv_at hl 0 rfl) ?_
      refine lv_iload_n hx hb dX3_restore_31 rfl (lv_at hl 1 rfl) ?_
      by_cases c_4 : x1 = (0 : Int32)
      · replace h := it_p c_4 h
        refine kcVr (As := [.int x1]) (rest := [.ref (b1 0)]) ⟨hx, hb, hml, hown, hts⟩ (cwV 1 hts gX3_restore_X3_imageOf rfl rfl rfl ⟨rfl, eX3_imageOf⟩ ⟨Nat.le_of_ble_eq_true rfl, Nat.le_of_ble_eq_true rfl⟩) (c_X3_imageOf_0 x0 (b1 0) r1 (b2 0) (b3 0) r4 r5 r6 kx c_4) hK hP hD hS hA [0] [1, 2, 3, 4, 5, 6, 7, 8, 9, 10, 11, 12, 13, 14, 15, 16, 17, 18, 19, 20, 21, 22, 23, 24] (by decide) rfl rfl 3 rfl rfl rfl rfl hl.1 rfl (Nat.le_of_ble_eq_true rfl) dX3_restore_32 (fun H locs hP hD hS => ?_)
        obtain ⟨r_5, hr_5, h⟩ := bn_s h
        refine kcVv (As := [.ref (b2 0)]) (rest := []) (ws' := (wX x0 (b1 0) r1 (b2 0) (b3 0) r4 r5 r6 kx (wV cy b1 r_5 (wV cy b2 v2 (wV cy b3 v3 []))))) ⟨hx, hb, hml, hown, hts⟩ (cwV 1 hts gX3_restore_X2_copyFrom rfl rfl rfl ⟨rfl, eX2_copyFrom⟩ ⟨Nat.le_of_ble_eq_true rfl, Nat.le_of_ble_eq_true rfl⟩) (c_X2_copyFrom b1 b2 hr_5) hK hP hD hS hA [1, 2, 3, 4, 5, 6, 7, 8, 9, 10, 11, 12, 13, 14, 15, 16] [0, 17, 18, 19, 20, 21, 22, 23, 24] (by decide) rfl rfl 2 rfl rfl [x0, (b1 0), (b1 1), (b1 2), (b1 3), (b1 4), (b1 5), (b1 6), (b1 7), (b2 0), (b2 1), (b2 2), (b2 3), (b2 4), (b2 5), (b2 6), (b2 7), (b3 0), (b3 1), (b3 2), (b3 3), (b3 4), (b3 5), (b3 6), (b3 7)] rfl rfl rfl (wX x0 (b1 0) r1 (b2 0) (b3 0) r4 r5 r6 kx (wV cy b3 v3 [])) rfl rfl rfl rfl hl.1 rfl (Nat.le_of_ble_eq_true rfl) dX3_restore_35 (fun H locs hP hD hS => ?_)
        refine lv_iconst (v := 1) hx hb dX3_restore_38 (by decide) ?_
        cases h
        exact kretI hx hb hr hlk hP hS dX3_restore_39
      · replace h := it_n c_4 h
        refine kcVr (As := [.int x1]) (rest := [.ref (b1 0)]) ⟨hx, hb, hml, hown, hts⟩ (cwV 1 hts gX3_restore_X3_imageOf rfl rfl rfl ⟨rfl, eX3_imageOf⟩ ⟨Nat.le_of_ble_eq_true rfl, Nat.le_of_ble_eq_true rfl⟩) (c_X3_imageOf_1 x0 (b1 0) r1 (b2 0) (b3 0) r4 r5 r6 kx c_4) hK hP hD hS hA [0] [1, 2, 3, 4, 5, 6, 7, 8, 9, 10, 11, 12, 13, 14, 15, 16, 17, 18, 19, 20, 21, 22, 23, 24] (by decide) rfl rfl 3 rfl rfl rfl rfl hl.1 rfl (Nat.le_of_ble_eq_true rfl) dX3_restore_32 (fun H locs hP hD hS => ?_)
        obtain ⟨r_6, hr_6, h⟩ := bn_s h
        refine kcVv (As := [.ref (b3 0)]) (rest := []) (ws' := (wX x0 (b1 0) r1 (b2 0) (b3 0) r4 r5 r6 kx (wV cy b1 r_6 (wV cy b2 v2 (wV cy b3 v3 []))))) ⟨hx, hb, hml, hown, hts⟩ (cwV 1 hts gX3_restore_X2_copyFrom rfl rfl rfl ⟨rfl, eX2_copyFrom⟩ ⟨Nat.le_of_ble_eq_true rfl, Nat.le_of_ble_eq_true rfl⟩) (c_X2_copyFrom b1 b3 hr_6) hK hP hD hS hA [1, 2, 3, 4, 5, 6, 7, 8, 17, 18, 19, 20, 21, 22, 23, 24] [0, 9, 10, 11, 12, 13, 14, 15, 16] (by decide) rfl rfl 2 rfl rfl [x0, (b1 0), (b1 1), (b1 2), (b1 3), (b1 4), (b1 5), (b1 6), (b1 7), (b2 0), (b2 1), (b2 2), (b2 3), (b2 4), (b2 5), (b2 6), (b2 7), (b3 0), (b3 1), (b3 2), (b3 3), (b3 4), (b3 5), (b3 6), (b3 7)] rfl rfl rfl (wX x0 (b1 0) r1 (b2 0) (b3 0) r4 r5 r6 kx (wV cy b2 v2 [])) rfl rfl rfl rfl hl.1 rfl (Nat.le_of_ble_eq_true rfl) dX3_restore_35 (fun H locs hP hD hS => ?_)
        refine lv_iconst (v := 1) hx hb dX3_restore_38 (by decide) ?_
        cases h
        exact kretI hx hb hr hlk hP hS dX3_restore_39
    · replace h := it_p c_3 h
      refine lv_bipush (v := (-3)) hx hb dX3_restore_23 (by decide) ?_
      cases h
      exact kretI hx hb hr hlk hP hS dX3_restore_25
  · replace h := it_p c_2 h
    refine lv_bipush (v := (-2)) hx hb dX3_restore_9 (by decide) ?_
    cases h
    exact kretI hx hb hr hlk hP hS dX3_restore_11
theorem c_X3_restore {l : Launch} {D : va_G} {cy : Nat → ClassId} (x0 : Nat) (r1 : Nat) (r4 : Nat) (r5 : Nat) (r6 : Nat) (b1 : Nat → Nat) (b2 : Nat → Nat) (b3 : Nat → Nat) {kx : Int32} {v1 : VS} {v2 : VS} {v3 : VS} {x1 : Int32} {rr : Int32 × VS} (h : f_X3_restore kx v1 v2 v3 x1 = some rr) : CI l D cy yX3_restore wsX3_restore { frames := 2, cells := 0, slots := 0, locals := 61 } [.ref x0, .int x1] (wX x0 (b1 0) r1 (b2 0) (b3 0) r4 r5 r6 kx (wV cy b1 v1 (wV cy b2 v2 (wV cy b3 v3 [])))) (rr.1) (wX x0 (b1 0) r1 (b2 0) (b3 0) r4 r5 r6 kx (wV cy b1 rr.2 (wV cy b2 v2 (wV cy b3 v3 [])))) := by
  refine kofI (cc := cX3_restore) (maxL := 2) (ret := (some .int)) (by decide) rfl (Nat.le_of_ble_eq_true rfl) ?_
  intro p e s m below meth c A M ls hl hP hD hS
  exact w_X3_restore_0 M h hP hD hS hl
theorem eX3_restore : yX3_restore.cls ≠ "java/lang/invoke/MethodHandle" ∧ yX3_restore.cls ≠ "java/lang/invoke/VarHandle" ∧ (parseMethodDescriptor yX3_restore.desc).map (fun d => d.parameters.length) = some 1 := by decide +kernel
