/-! printed by wip/gen/gen.py: the walks -/
theorem iX4_goText_X4 : ∀ w ∈ u_ws RX4 TX4 21, w ∈ wsX4_goText := by decide +kernel
theorem mX4_goText_1 : Cond.fieldLink RX4 97 "LentPilesModel" "parts" "I" ∈ wsX4_goText := by decide +kernel
theorem mX4_goText_2 : Cond.fieldLink RX4 100 "LentPilesModel" "reason" "I" ∈ wsX4_goText := by decide +kernel
theorem mX4_goText_3 : Cond.fieldLink RX4 66 "LentPilesModel" "signs" "I" ∈ wsX4_goText := by decide +kernel
theorem mX4_goText_4 : Cond.fieldLink RX4 22 "LentPilesModel" "pad" "[I" ∈ wsX4_goText := by decide +kernel
theorem mX4_goText_5 : Cond.fieldLink RX4 25 "LentPilesModel" "nowMoney" "[I" ∈ wsX4_goText := by decide +kernel
theorem mX4_goText_6 : Cond.fieldLink RX4 28 "LentPilesModel" "nowSize" "[I" ∈ wsX4_goText := by decide +kernel
theorem mX4_goText_7 : Cond.fieldLink RX4 31 "LentPilesModel" "nowPile" "[I" ∈ wsX4_goText := by decide +kernel
theorem mX4_goText_8 : Cond.fieldLink RX4 76 "LentPilesModel" "nowDays" "I" ∈ wsX4_goText := by decide +kernel
def I_X4_goText (p : Program) (l : Launch) (e : Env) (s : State) (m : MethodId) (args : Array Value) (below : List Frame) (meth : Method) (c : Code) (A : Nat → Prop) (D : va_G) (cy : Nat → ClassId) (b0 : Nat → Nat) (x1 : Int32) (fu : Nat) (rr : Int32 × MS) : Prop := (∀ (uv : MS) (x2 : Int32) (x3 : Int32) (H : Heap) (locs : List Loc) (ls : Array Slot), lpn (st_X4_goText x1) fu (.inl (uv, x2, x3)) = some rr → va_P D vwCl (wM cy b0 uv []) H → va_D A (wM cy b0 uv []) → va_S A s.heap H locs → lv_has ls 8 [(0, .ref (b0 0)), (1, .int x1), (2, .int x2), (3, .int x3)] → W p l e { frames := 4, cells := 0, slots := 0, locals := 89 } s m args below meth c H locs 0 0 (MQ below (qI D (wM cy b0 rr.2 []) (rr.1) A) args s 0 0 A) (F0 m 18 ls [])) ∧ (∀ (uv : MS) (x2 : Int32) (x3 : Int32) (H : Heap) (locs : List Loc) (ls : Array Slot), lpn (st_X4_goText x1) fu (.inr (uv, x2, x3)) = some rr → va_P D vwCl (wM cy b0 uv []) H → va_D A (wM cy b0 uv []) → va_S A s.heap H locs → lv_has ls 8 [(0, .ref (b0 0)), (1, .int x1), (2, .int x2), (3, .int x3)] → W p l e { frames := 4, cells := 0, slots := 0, locals := 89 } s m args below meth c H locs 0 0 (MQ below (qI D (wM cy b0 rr.2 []) (rr.1) A) args s 0 0 A) (F0 m 39 ls []))
set_option maxHeartbeats 4000000 in
set_option maxRecDepth 100000 in
theorem w_X4_goText_408 {p : Program} {l : Launch} {e : Env} {s : State} {m : MethodId} {args : Array Value} {below : List Frame} {meth : Method} {c : Code} {A : Nat → Prop} {D : va_G} {cy : Nat → ClassId} {b0 : Nat → Nat} {x1 : Int32} {fu : Nat} {rr : Int32 × MS} (M : kM p s m args meth c cX4_goText 8 (some .int) RX4 wsX4_goText A D cy) (ih : I_X4_goText p l e s m args below meth c A D cy b0 x1 fu rr) {uv : MS} {x2 : Int32} {x3 : Int32} {oo : ((MS × Int32 × Int32) ⊕ (MS × Int32 × Int32)) ⊕ (Int32 × MS)} (h : f_X4_goText_408 x1 uv x2 x3 = some oo) (hm : lpo (st_X4_goText x1) fu oo rr) {H : Heap} {locs : List Loc} {ls : Array Slot} (hP : va_P D vwCl (wM cy b0 uv []) H) (hD : va_D A (wM cy b0 uv [])) (hS : va_S A s.heap H locs) (hl : lv_has ls 8 [(0, .ref (b0 0)), (1, .int x1), (2, .int x2), (3, .int x3)]) : W p l e { frames := 4, cells := 0, slots := 0, locals := 89 } s m args below meth c H locs 0 0 (MQ below (qI D (wM cy b0 rr.2 []) (rr.1) A) args s 0 0 A) (F0 m 408 ls []) := by
  obtain ⟨hx, hb, hr, hml, hown, hts, hlk, hA, hK⟩ := id M
  unfold f_X4_goText_408 at h
  refine lv_aload_n hx hb dX4_goText_408 rfl (lv_at hl 0 rfl) ?_
  refine va_get (D := D) (ci := 4) (v := .int uv.2.2.2.2.2.2.2.2.2.2.2.2.2.2.2.1) (C := RX4) (T := TX4) (N := 21) hx hb hts iX4_goText_X4 hown hK.1 hP 0 rfl rfl 15 (by decide) (hts _ mX4_goText_2) (fun _ h9 => h9) rfl dX4_goText_409 ?_
  refine lv_if_le (tgt := 420) hx hb dX4_goText_412 (by decide) (fun c_1 => ?_) (fun c_1 => ?_)
  · replace h := it_p c_1 h
    refine lv_aload_n hx hb dX4_goText_420 rfl (lv_at hl 0 rfl) ?_
    refine lv_dup hx hb dX4_goText_421 rfl ?_
    refine va_get (D := D) (ci := 4) (v := .int uv.2.2.2.2.2.2.2.2.2.2.2.2.2.2.1) (C := RX4) (T := TX4) (N := 21) hx hb hts iX4_goText_X4 hown hK.1 hP 0 rfl rfl 14 (by decide) (hts _ mX4_goText_1) (fun _ h9 => h9) rfl dX4_goText_422 ?_
    refine lv_iconst (v := 1) hx hb dX4_goText_425 (by decide) ?_
    refine lv_iadd hx hb dX4_goText_426 ?_
    refine va_put (D := D) (ci := 4) (v := .int (uv.2.2.2.2.2.2.2.2.2.2.2.2.2.2.1 + (1 : Int32))) (ty := .int) (C := RX4) (T := TX4) (N := 21) hx hb hts iX4_goText_X4 tyX4 tyX4_ok nmX4 hown hK.1 hP hD hS 0 rfl rfl 14 (by decide) (hts _ mX4_goText_1) (fun _ h9 => h9) rfl (by decide +kernel) rfl rfl (Nat.le_of_ble_eq_true rfl) dX4_goText_427 (fun H locs hP hD hS => ?_)
    obtain ⟨uv_2, euv_2⟩ : ∃ z : MS, z = (uv.1, uv.2.1, uv.2.2.1, uv.2.2.2.1, uv.2.2.2.2.1, uv.2.2.2.2.2.1, uv.2.2.2.2.2.2.1, uv.2.2.2.2.2.2.2.1, uv.2.2.2.2.2.2.2.2.1, uv.2.2.2.2.2.2.2.2.2.1, uv.2.2.2.2.2.2.2.2.2.2.1, uv.2.2.2.2.2.2.2.2.2.2.2.1, uv.2.2.2.2.2.2.2.2.2.2.2.2.1, uv.2.2.2.2.2.2.2.2.2.2.2.2.2.1, (uv.2.2.2.2.2.2.2.2.2.2.2.2.2.2.1 + (1 : Int32)), uv.2.2.2.2.2.2.2.2.2.2.2.2.2.2.2) := ⟨_, rfl⟩
    replace h := nm_s h euv_2
    have hP : va_P D vwCl (wM cy b0 uv_2 []) H := by subst euv_2; exact hP
    have hD : va_D A (wM cy b0 uv_2 []) := hD.lk [(b0 0), (b0 1), (b0 2), (b0 3), (b0 4), (b0 5), (b0 6), (b0 7), (b0 8), (b0 9), (b0 10), (b0 11), (b0 12), (b0 13)] rfl rfl
    refine lv_goto (tgt := 39) hx hb dX4_goText_430 (by decide) ?_
    cases h
    exact ih.2 uv_2 x2 x3 _ _ _ hm hP hD hS hl
  · replace h := it_n c_1 h
    refine lv_aload_n hx hb dX4_goText_415 rfl (lv_at hl 0 rfl) ?_
    refine va_get (D := D) (ci := 4) (v := .int uv.2.2.2.2.2.2.2.2.2.2.2.2.2.2.1) (C := RX4) (T := TX4) (N := 21) hx hb hts iX4_goText_X4 hown hK.1 hP 0 rfl rfl 14 (by decide) (hts _ mX4_goText_1) (fun _ h9 => h9) rfl dX4_goText_416 ?_
    cases h
    have hm : _ = rr := hm
    subst hm
    exact kretI hx hb hr hlk hP hS dX4_goText_419
set_option maxHeartbeats 4000000 in
set_option maxRecDepth 100000 in
theorem w_X4_goText_316 {p : Program} {l : Launch} {e : Env} {s : State} {m : MethodId} {args : Array Value} {below : List Frame} {meth : Method} {c : Code} {A : Nat → Prop} {D : va_G} {cy : Nat → ClassId} {b0 : Nat → Nat} {x1 : Int32} {fu : Nat} {rr : Int32 × MS} (M : kM p s m args meth c cX4_goText 8 (some .int) RX4 wsX4_goText A D cy) (ih : I_X4_goText p l e s m args below meth c A D cy b0 x1 fu rr) {uv : MS} {x2 : Int32} {x3 : Int32} {x4 : Int32} {x5 : Int32} {x6 : Int32} {t1 : Int32} {oo : ((MS × Int32 × Int32) ⊕ (MS × Int32 × Int32)) ⊕ (Int32 × MS)} (h : f_X4_goText_316 x1 uv x2 x3 x4 x5 x6 t1 = some oo) (hm : lpo (st_X4_goText x1) fu oo rr) {H : Heap} {locs : List Loc} {ls : Array Slot} (hP : va_P D vwCl (wM cy b0 uv []) H) (hD : va_D A (wM cy b0 uv [])) (hS : va_S A s.heap H locs) (hl : lv_has ls 8 [(0, .ref (b0 0)), (1, .int x1), (2, .int x2), (3, .int x3), (4, .int x4), (5, .int x5), (6, .int x6)]) : W p l e { frames := 4, cells := 0, slots := 0, locals := 89 } s m args below meth c H locs 0 0 (MQ below (qI D (wM cy b0 rr.2 []) (rr.1) A) args s 0 0 A) (F0 m 316 ls [.int t1, .ref (b0 0)]) := by
  obtain ⟨hx, hb, hr, hml, hown, hts, hlk, hA, hK⟩ := id M
  unfold f_X4_goText_316 at h
  refine va_put (D := D) (ci := 4) (v := .int t1) (ty := .int) (C := RX4) (T := TX4) (N := 21) hx hb hts iX4_goText_X4 tyX4 tyX4_ok nmX4 hown hK.1 hP hD hS 0 rfl rfl 15 (by decide) (hts _ mX4_goText_2) (fun _ h9 => h9) rfl (by decide +kernel) rfl rfl (Nat.le_of_ble_eq_true rfl) dX4_goText_316 (fun H locs hP hD hS => ?_)
  obtain ⟨uv_1, euv_1⟩ : ∃ z : MS, z = (uv.1, uv.2.1, uv.2.2.1, uv.2.2.2.1, uv.2.2.2.2.1, uv.2.2.2.2.2.1, uv.2.2.2.2.2.2.1, uv.2.2.2.2.2.2.2.1, uv.2.2.2.2.2.2.2.2.1, uv.2.2.2.2.2.2.2.2.2.1, uv.2.2.2.2.2.2.2.2.2.2.1, uv.2.2.2.2.2.2.2.2.2.2.2.1, uv.2.2.2.2.2.2.2.2.2.2.2.2.1, uv.2.2.2.2.2.2.2.2.2.2.2.2.2.1, uv.2.2.2.2.2.2.2.2.2.2.2.2.2.2.1, t1, uv.2.2.2.2.2.2.2.2.2.2.2.2.2.2.2.2) := ⟨_, rfl⟩
  replace h := nm_s h euv_1
  have hP : va_P D vwCl (wM cy b0 uv_1 []) H := by subst euv_1; exact hP
  have hD : va_D A (wM cy b0 uv_1 []) := hD.lk [(b0 0), (b0 1), (b0 2), (b0 3), (b0 4), (b0 5), (b0 6), (b0 7), (b0 8), (b0 9), (b0 10), (b0 11), (b0 12), (b0 13)] rfl rfl
  refine lv_aload_n hx hb dX4_goText_319 rfl (lv_at hl 0 rfl) ?_
  refine va_get (D := D) (ci := 4) (v := .int uv_1.2.2.2.2.2.2.2.2.2.2.2.2.2.2.2.1) (C := RX4) (T := TX4) (N := 21) hx hb hts iX4_goText_X4 hown hK.1 hP 0 rfl rfl 15 (by decide) (hts _ mX4_goText_2) (fun _ h9 => h9) rfl dX4_goText_320 ?_
  refine lv_if_ne (tgt := 408) hx hb dX4_goText_323 (by decide) (fun c_2 => ?_) (fun c_2 => ?_)
  · replace h := it_n c_2 h
    exact w_X4_goText_408 M ih h hm hP hD hS (lv_sub hl [0, 1, 2, 3] rfl)
  · replace h := it_p c_2 h
    refine lv_iload hx hb dX4_goText_326 (lv_at hl 5 rfl) ?_
    refine lv_aload_n hx hb dX4_goText_328 rfl (lv_at hl 0 rfl) ?_
    refine va_get (D := D) (ci := 4) (v := .ref (b0 7)) (C := RX4) (T := TX4) (N := 21) hx hb hts iX4_goText_X4 hown hK.1 hP 0 rfl rfl 12 (by decide) (hts _ mX4_goText_6) (fun _ h9 => h9) rfl dX4_goText_329 ?_
    refine lv_iload hx hb dX4_goText_332 (lv_at hl 5 rfl) ?_
    obtain ⟨b_3, h⟩ := ck_s h
    refine va_iald hx hb hK.1 hP 7 1 rfl rfl b_3 dX4_goText_334 ?_
    obtain ⟨r_4, hr_4, h⟩ := bn_s h
    refine kcSi (As := [.int x5, .int (uv_1.2.2.2.2.2.2.2.2.2.2.2.2.1 x5.toNatClampNeg)]) (rest := []) ⟨hx, hb, hml, hown, hts⟩ (va_cwS 2 hts gX4_goText_X4_at rfl rfl rfl eX4_at ⟨Nat.le_of_ble_eq_true rfl, Nat.le_of_ble_eq_true rfl⟩) (c_X4_at  hr_4) hK hP hS hA rfl hl.1 rfl (Nat.le_of_ble_eq_true rfl) dX4_goText_335 (fun H locs hP hS => ?_)
    refine lv_istore (lv' := [(7, .int r_4), (0, .ref (b0 0)), (1, .int x1), (2, .int x2), (3, .int x3), (4, .int x4), (5, .int x5), (6, .int x6)]) hx hb dX4_goText_338 hl (by decide) rfl (fun ls hl => ?_)
    refine lv_aload_n hx hb dX4_goText_340 rfl (lv_at hl 1 rfl) ?_
    refine va_get (D := D) (ci := 4) (v := .ref (b0 8)) (C := RX4) (T := TX4) (N := 21) hx hb hts iX4_goText_X4 hown hK.1 hP 0 rfl rfl 13 (by decide) (hts _ mX4_goText_7) (fun _ h9 => h9) rfl dX4_goText_341 ?_
    refine lv_iload hx hb dX4_goText_344 (lv_at hl 0 rfl) ?_
    refine lv_iload hx hb dX4_goText_346 (lv_at hl 5 rfl) ?_
    obtain ⟨b_5, h⟩ := ck_s h
    refine va_iast hx hb hK.1 hP hD hS 8 1 rfl rfl b_5 dX4_goText_348 (fun H locs hP hD hS => ?_)
    obtain ⟨uv_6, euv_6⟩ : ∃ z : MS, z = (uv_1.1, uv_1.2.1, uv_1.2.2.1, uv_1.2.2.2.1, uv_1.2.2.2.2.1, uv_1.2.2.2.2.2.1, uv_1.2.2.2.2.2.2.1, uv_1.2.2.2.2.2.2.2.1, uv_1.2.2.2.2.2.2.2.2.1, uv_1.2.2.2.2.2.2.2.2.2.1, uv_1.2.2.2.2.2.2.2.2.2.2.1, uv_1.2.2.2.2.2.2.2.2.2.2.2.1, uv_1.2.2.2.2.2.2.2.2.2.2.2.2.1, (upd uv_1.2.2.2.2.2.2.2.2.2.2.2.2.2.1 r_4.toNatClampNeg x4), uv_1.2.2.2.2.2.2.2.2.2.2.2.2.2.2) := ⟨_, rfl⟩
    replace h := nm_s h euv_6
    have hP : va_P D vwCl (wM cy b0 uv_6 []) H := by subst euv_6; exact hP
    have hD : va_D A (wM cy b0 uv_6 []) := hD.lk [(b0 0), (b0 1), (b0 2), (b0 3), (b0 4), (b0 5), (b0 6), (b0 7), (b0 8), (b0 9), (b0 10), (b0 11), (b0 12), (b0 13)] rfl rfl
    refine lv_aload_n hx hb dX4_goText_349 rfl (lv_at hl 1 rfl) ?_
    refine va_get (D := D) (ci := 4) (v := .ref (b0 8)) (C := RX4) (T := TX4) (N := 21) hx hb hts iX4_goText_X4 hown hK.1 hP 0 rfl rfl 13 (by decide) (hts _ mX4_goText_7) (fun _ h9 => h9) rfl dX4_goText_350 ?_
    refine lv_iload hx hb dX4_goText_353 (lv_at hl 0 rfl) ?_
    refine lv_iconst (v := 1) hx hb dX4_goText_355 (by decide) ?_
    refine lv_iadd hx hb dX4_goText_356 ?_
    refine lv_iload hx hb dX4_goText_357 (lv_at hl 7 rfl) ?_
    obtain ⟨b_7, h⟩ := ck_s h
    refine va_iast hx hb hK.1 hP hD hS 8 1 rfl rfl b_7 dX4_goText_359 (fun H locs hP hD hS => ?_)
    obtain ⟨uv_8, euv_8⟩ : ∃ z : MS, z = (uv_6.1, uv_6.2.1, uv_6.2.2.1, uv_6.2.2.2.1, uv_6.2.2.2.2.1, uv_6.2.2.2.2.2.1, uv_6.2.2.2.2.2.2.1, uv_6.2.2.2.2.2.2.2.1, uv_6.2.2.2.2.2.2.2.2.1, uv_6.2.2.2.2.2.2.2.2.2.1, uv_6.2.2.2.2.2.2.2.2.2.2.1, uv_6.2.2.2.2.2.2.2.2.2.2.2.1, uv_6.2.2.2.2.2.2.2.2.2.2.2.2.1, (upd uv_6.2.2.2.2.2.2.2.2.2.2.2.2.2.1 (r_4 + (1 : Int32)).toNatClampNeg x6), uv_6.2.2.2.2.2.2.2.2.2.2.2.2.2.2) := ⟨_, rfl⟩
    replace h := nm_s h euv_8
    have hP : va_P D vwCl (wM cy b0 uv_8 []) H := by subst euv_8; exact hP
    have hD : va_D A (wM cy b0 uv_8 []) := hD.lk [(b0 0), (b0 1), (b0 2), (b0 3), (b0 4), (b0 5), (b0 6), (b0 7), (b0 8), (b0 9), (b0 10), (b0 11), (b0 12), (b0 13)] rfl rfl
    refine lv_aload_n hx hb dX4_goText_360 rfl (lv_at hl 1 rfl) ?_
    refine va_get (D := D) (ci := 4) (v := .ref (b0 8)) (C := RX4) (T := TX4) (N := 21) hx hb hts iX4_goText_X4 hown hK.1 hP 0 rfl rfl 13 (by decide) (hts _ mX4_goText_7) (fun _ h9 => h9) rfl dX4_goText_361 ?_
    refine lv_iload hx hb dX4_goText_364 (lv_at hl 0 rfl) ?_
    refine lv_iconst (v := 2) hx hb dX4_goText_366 (by decide) ?_
    refine lv_iadd hx hb dX4_goText_367 ?_
    refine lv_aload_n hx hb dX4_goText_368 rfl (lv_at hl 1 rfl) ?_
    refine va_get (D := D) (ci := 4) (v := .int uv_8.2.2.2.2.2.2.2.2.2.2.1) (C := RX4) (T := TX4) (N := 21) hx hb hts iX4_goText_X4 hown hK.1 hP 0 rfl rfl 10 (by decide) (hts _ mX4_goText_8) (fun _ h9 => h9) rfl dX4_goText_369 ?_
    obtain ⟨b_9, h⟩ := ck_s h
    refine va_iast hx hb hK.1 hP hD hS 8 1 rfl rfl b_9 dX4_goText_372 (fun H locs hP hD hS => ?_)
    obtain ⟨uv_10, euv_10⟩ : ∃ z : MS, z = (uv_8.1, uv_8.2.1, uv_8.2.2.1, uv_8.2.2.2.1, uv_8.2.2.2.2.1, uv_8.2.2.2.2.2.1, uv_8.2.2.2.2.2.2.1, uv_8.2.2.2.2.2.2.2.1, uv_8.2.2.2.2.2.2.2.2.1, uv_8.2.2.2.2.2.2.2.2.2.1, uv_8.2.2.2.2.2.2.2.2.2.2.1, uv_8.2.2.2.2.2.2.2.2.2.2.2.1, uv_8.2.2.2.2.2.2.2.2.2.2.2.2.1, (upd uv_8.2.2.2.2.2.2.2.2.2.2.2.2.2.1 (r_4 + (2 : Int32)).toNatClampNeg uv_8.2.2.2.2.2.2.2.2.2.2.1), uv_8.2.2.2.2.2.2.2.2.2.2.2.2.2.2) := ⟨_, rfl⟩
    replace h := nm_s h euv_10
    have hP : va_P D vwCl (wM cy b0 uv_10 []) H := by subst euv_10; exact hP
    have hD : va_D A (wM cy b0 uv_10 []) := hD.lk [(b0 0), (b0 1), (b0 2), (b0 3), (b0 4), (b0 5), (b0 6), (b0 7), (b0 8), (b0 9), (b0 10), (b0 11), (b0 12), (b0 13)] rfl rfl
    refine lv_aload_n hx hb dX4_goText_373 rfl (lv_at hl 1 rfl) ?_
    refine va_get (D := D) (ci := 4) (v := .ref (b0 7)) (C := RX4) (T := TX4) (N := 21) hx hb hts iX4_goText_X4 hown hK.1 hP 0 rfl rfl 12 (by decide) (hts _ mX4_goText_6) (fun _ h9 => h9) rfl dX4_goText_374 ?_
    refine lv_iload hx hb dX4_goText_377 (lv_at hl 6 rfl) ?_
    refine lv_dup2_11 hx hb dX4_goText_379 rfl rfl ?_
    refine va_iald hx hb hK.1 hP 7 1 rfl rfl b_3 dX4_goText_380 ?_
    refine lv_iconst (v := 1) hx hb dX4_goText_381 (by decide) ?_
    refine lv_iadd hx hb dX4_goText_382 ?_
    refine va_iast hx hb hK.1 hP hD hS 7 1 rfl rfl b_3 dX4_goText_383 (fun H locs hP hD hS => ?_)
    obtain ⟨uv_11, euv_11⟩ : ∃ z : MS, z = (uv_10.1, uv_10.2.1, uv_10.2.2.1, uv_10.2.2.2.1, uv_10.2.2.2.2.1, uv_10.2.2.2.2.2.1, uv_10.2.2.2.2.2.2.1, uv_10.2.2.2.2.2.2.2.1, uv_10.2.2.2.2.2.2.2.2.1, uv_10.2.2.2.2.2.2.2.2.2.1, uv_10.2.2.2.2.2.2.2.2.2.2.1, uv_10.2.2.2.2.2.2.2.2.2.2.2.1, (upd uv_10.2.2.2.2.2.2.2.2.2.2.2.2.1 x5.toNatClampNeg ((uv_10.2.2.2.2.2.2.2.2.2.2.2.2.1 x5.toNatClampNeg) + (1 : Int32))), uv_10.2.2.2.2.2.2.2.2.2.2.2.2.2) := ⟨_, rfl⟩
    replace h := nm_s h euv_11
    have hP : va_P D vwCl (wM cy b0 uv_11 []) H := by subst euv_11; exact hP
    have hD : va_D A (wM cy b0 uv_11 []) := hD.lk [(b0 0), (b0 1), (b0 2), (b0 3), (b0 4), (b0 5), (b0 6), (b0 7), (b0 8), (b0 9), (b0 10), (b0 11), (b0 12), (b0 13)] rfl rfl
    refine lv_aload_n hx hb dX4_goText_384 rfl (lv_at hl 1 rfl) ?_
    refine va_get (D := D) (ci := 4) (v := .ref (b0 6)) (C := RX4) (T := TX4) (N := 21) hx hb hts iX4_goText_X4 hown hK.1 hP 0 rfl rfl 11 (by decide) (hts _ mX4_goText_5) (fun _ h9 => h9) rfl dX4_goText_385 ?_
    refine lv_iload hx hb dX4_goText_388 (lv_at hl 5 rfl) ?_
    refine lv_dup2_11 hx hb dX4_goText_390 rfl rfl ?_
    obtain ⟨b_12, h⟩ := ck_s h
    refine va_iald hx hb hK.1 hP 6 1 rfl rfl b_12 dX4_goText_391 ?_
    refine lv_iload hx hb dX4_goText_392 (lv_at hl 7 rfl) ?_
    refine lv_isub hx hb dX4_goText_394 ?_
    refine va_iast hx hb hK.1 hP hD hS 6 1 rfl rfl b_12 dX4_goText_395 (fun H locs hP hD hS => ?_)
    obtain ⟨uv_13, euv_13⟩ : ∃ z : MS, z = (uv_11.1, uv_11.2.1, uv_11.2.2.1, uv_11.2.2.2.1, uv_11.2.2.2.2.1, uv_11.2.2.2.2.2.1, uv_11.2.2.2.2.2.2.1, uv_11.2.2.2.2.2.2.2.1, uv_11.2.2.2.2.2.2.2.2.1, uv_11.2.2.2.2.2.2.2.2.2.1, uv_11.2.2.2.2.2.2.2.2.2.2.1, (upd uv_11.2.2.2.2.2.2.2.2.2.2.2.1 x4.toNatClampNeg ((uv_11.2.2.2.2.2.2.2.2.2.2.2.1 x4.toNatClampNeg) - x6)), uv_11.2.2.2.2.2.2.2.2.2.2.2.2) := ⟨_, rfl⟩
    replace h := nm_s h euv_13
    have hP : va_P D vwCl (wM cy b0 uv_13 []) H := by subst euv_13; exact hP
    have hD : va_D A (wM cy b0 uv_13 []) := hD.lk [(b0 0), (b0 1), (b0 2), (b0 3), (b0 4), (b0 5), (b0 6), (b0 7), (b0 8), (b0 9), (b0 10), (b0 11), (b0 12), (b0 13)] rfl rfl
    refine lv_aload_n hx hb dX4_goText_396 rfl (lv_at hl 1 rfl) ?_
    refine va_get (D := D) (ci := 4) (v := .ref (b0 6)) (C := RX4) (T := TX4) (N := 21) hx hb hts iX4_goText_X4 hown hK.1 hP 0 rfl rfl 11 (by decide) (hts _ mX4_goText_5) (fun _ h9 => h9) rfl dX4_goText_397 ?_
    refine lv_iload hx hb dX4_goText_400 (lv_at hl 6 rfl) ?_
    refine lv_dup2_11 hx hb dX4_goText_402 rfl rfl ?_
    refine va_iald hx hb hK.1 hP 6 1 rfl rfl b_3 dX4_goText_403 ?_
    refine lv_iload hx hb dX4_goText_404 (lv_at hl 7 rfl) ?_
    refine lv_iadd hx hb dX4_goText_406 ?_
    refine va_iast hx hb hK.1 hP hD hS 6 1 rfl rfl b_3 dX4_goText_407 (fun H locs hP hD hS => ?_)
    obtain ⟨uv_14, euv_14⟩ : ∃ z : MS, z = (uv_13.1, uv_13.2.1, uv_13.2.2.1, uv_13.2.2.2.1, uv_13.2.2.2.2.1, uv_13.2.2.2.2.2.1, uv_13.2.2.2.2.2.2.1, uv_13.2.2.2.2.2.2.2.1, uv_13.2.2.2.2.2.2.2.2.1, uv_13.2.2.2.2.2.2.2.2.2.1, uv_13.2.2.2.2.2.2.2.2.2.2.1, (upd uv_13.2.2.2.2.2.2.2.2.2.2.2.1 x5.toNatClampNeg ((uv_13.2.2.2.2.2.2.2.2.2.2.2.1 x5.toNatClampNeg) + x6)), uv_13.2.2.2.2.2.2.2.2.2.2.2.2) := ⟨_, rfl⟩
    replace h := nm_s h euv_14
    have hP : va_P D vwCl (wM cy b0 uv_14 []) H := by subst euv_14; exact hP
    have hD : va_D A (wM cy b0 uv_14 []) := hD.lk [(b0 0), (b0 1), (b0 2), (b0 3), (b0 4), (b0 5), (b0 6), (b0 7), (b0 8), (b0 9), (b0 10), (b0 11), (b0 12), (b0 13)] rfl rfl
    exact w_X4_goText_408 M ih h hm hP hD hS (lv_sub hl [1, 2, 3, 4] rfl)
set_option maxHeartbeats 4000000 in
set_option maxRecDepth 100000 in
theorem w_X4_goText_271 {p : Program} {l : Launch} {e : Env} {s : State} {m : MethodId} {args : Array Value} {below : List Frame} {meth : Method} {c : Code} {A : Nat → Prop} {D : va_G} {cy : Nat → ClassId} {b0 : Nat → Nat} {x1 : Int32} {fu : Nat} {rr : Int32 × MS} (M : kM p s m args meth c cX4_goText 8 (some .int) RX4 wsX4_goText A D cy) (ih : I_X4_goText p l e s m args below meth c A D cy b0 x1 fu rr) {uv : MS} {x2 : Int32} {x3 : Int32} {x4 : Int32} {x5 : Int32} {x6 : Int32} {oo : ((MS × Int32 × Int32) ⊕ (MS × Int32 × Int32)) ⊕ (Int32 × MS)} (h : f_X4_goText_271 x1 uv x2 x3 x4 x5 x6 = some oo) (hm : lpo (st_X4_goText x1) fu oo rr) {H : Heap} {locs : List Loc} {ls : Array Slot} (hP : va_P D vwCl (wM cy b0 uv []) H) (hD : va_D A (wM cy b0 uv [])) (hS : va_S A s.heap H locs) (hl : lv_has ls 8 [(0, .ref (b0 0)), (1, .int x1), (2, .int x2), (3, .int x3), (4, .int x4), (5, .int x5), (6, .int x6)]) : W p l e { frames := 4, cells := 0, slots := 0, locals := 89 } s m args below meth c H locs 0 0 (MQ below (qI D (wM cy b0 rr.2 []) (rr.1) A) args s 0 0 A) (F0 m 271 ls []) := by
  obtain ⟨hx, hb, hr, hml, hown, hts, hlk, hA, hK⟩ := id M
  unfold f_X4_goText_271 at h
  refine lv_aload_n hx hb dX4_goText_271 rfl (lv_at hl 0 rfl) ?_
  refine lv_iload hx hb dX4_goText_272 (lv_at hl 4 rfl) ?_
  refine lv_iload hx hb dX4_goText_274 (lv_at hl 5 rfl) ?_
  refine lv_icmp_ne (tgt := 284) hx hb dX4_goText_276 (by decide) (fun c_1 => ?_) (fun c_1 => ?_)
  · replace h := it_n c_1 h
    refine lv_aload_n hx hb dX4_goText_284 rfl (lv_at hl 0 rfl) ?_
    refine va_get (D := D) (ci := 4) (v := .ref (b0 6)) (C := RX4) (T := TX4) (N := 21) hx hb hts iX4_goText_X4 hown hK.1 hP 0 rfl rfl 11 (by decide) (hts _ mX4_goText_5) (fun _ h9 => h9) rfl dX4_goText_285 ?_
    refine lv_iload hx hb dX4_goText_288 (lv_at hl 4 rfl) ?_
    obtain ⟨b_2, h⟩ := ck_s h
    refine va_iald hx hb hK.1 hP 6 1 rfl rfl b_2 dX4_goText_290 ?_
    refine lv_iload hx hb dX4_goText_291 (lv_at hl 6 rfl) ?_
    refine lv_icmp_ge (tgt := 300) hx hb dX4_goText_293 (by decide) (fun c_3 => ?_) (fun c_3 => ?_)
    · replace h := it_p c_3 h
      refine lv_aload_n hx hb dX4_goText_300 rfl (lv_at hl 0 rfl) ?_
      refine va_get (D := D) (ci := 4) (v := .ref (b0 7)) (C := RX4) (T := TX4) (N := 21) hx hb hts iX4_goText_X4 hown hK.1 hP 0 rfl rfl 12 (by decide) (hts _ mX4_goText_6) (fun _ h9 => h9) rfl dX4_goText_301 ?_
      refine lv_iload hx hb dX4_goText_304 (lv_at hl 5 rfl) ?_
      obtain ⟨b_4, h⟩ := ck_s h
      refine va_iald hx hb hK.1 hP 7 1 rfl rfl b_4 dX4_goText_306 ?_
      refine lv_iconst (v := 5) hx hb dX4_goText_307 (by decide) ?_
      refine lv_icmp_ne (tgt := 315) hx hb dX4_goText_308 (by decide) (fun c_5 => ?_) (fun c_5 => ?_)
      · replace h := it_n c_5 h
        refine lv_iconst (v := 0) hx hb dX4_goText_315 (by decide) ?_
        exact w_X4_goText_316 M ih h hm hP hD hS hl
      · replace h := it_p c_5 h
        refine lv_iconst (v := 2) hx hb dX4_goText_311 (by decide) ?_
        refine lv_goto (tgt := 316) hx hb dX4_goText_312 (by decide) ?_
        exact w_X4_goText_316 M ih h hm hP hD hS hl
    · replace h := it_n c_3 h
      refine lv_iconst (v := 1) hx hb dX4_goText_296 (by decide) ?_
      refine lv_goto (tgt := 316) hx hb dX4_goText_297 (by decide) ?_
      exact w_X4_goText_316 M ih h hm hP hD hS hl
  · replace h := it_p c_1 h
    refine lv_bipush (v := 9) hx hb dX4_goText_279 (by decide) ?_
    refine lv_goto (tgt := 316) hx hb dX4_goText_281 (by decide) ?_
    exact w_X4_goText_316 M ih h hm hP hD hS hl
set_option maxHeartbeats 4000000 in
set_option maxRecDepth 100000 in
theorem w_X4_goText_197 {p : Program} {l : Launch} {e : Env} {s : State} {m : MethodId} {args : Array Value} {below : List Frame} {meth : Method} {c : Code} {A : Nat → Prop} {D : va_G} {cy : Nat → ClassId} {b0 : Nat → Nat} {x1 : Int32} {fu : Nat} {rr : Int32 × MS} (M : kM p s m args meth c cX4_goText 8 (some .int) RX4 wsX4_goText A D cy) (ih : I_X4_goText p l e s m args below meth c A D cy b0 x1 fu rr) {uv : MS} {x3 : Int32} {x4 : Int32} {t0 : Int32} {oo : ((MS × Int32 × Int32) ⊕ (MS × Int32 × Int32)) ⊕ (Int32 × MS)} (h : f_X4_goText_197 x1 uv x3 x4 t0 = some oo) (hm : lpo (st_X4_goText x1) fu oo rr) {H : Heap} {locs : List Loc} {ls : Array Slot} (hP : va_P D vwCl (wM cy b0 uv []) H) (hD : va_D A (wM cy b0 uv [])) (hS : va_S A s.heap H locs) (hl : lv_has ls 8 [(0, .ref (b0 0)), (1, .int x1), (3, .int x3), (4, .int x4)]) : W p l e { frames := 4, cells := 0, slots := 0, locals := 89 } s m args below meth c H locs 0 0 (MQ below (qI D (wM cy b0 rr.2 []) (rr.1) A) args s 0 0 A) (F0 m 197 ls [.int t0]) := by
  obtain ⟨hx, hb, hr, hml, hown, hts, hlk, hA, hK⟩ := id M
  unfold f_X4_goText_197 at h
  refine lv_istore_n (lv' := [(2, .int t0), (0, .ref (b0 0)), (1, .int x1), (3, .int x3), (4, .int x4)]) hx hb dX4_goText_197 rfl hl (by decide) rfl (fun ls hl => ?_)
  refine lv_aload_n hx hb dX4_goText_198 rfl (lv_at hl 1 rfl) ?_
  refine va_get (D := D) (ci := 4) (v := .ref (b0 5)) (C := RX4) (T := TX4) (N := 21) hx hb hts iX4_goText_X4 hown hK.1 hP 0 rfl rfl 9 (by decide) (hts _ mX4_goText_4) (fun _ h9 => h9) rfl dX4_goText_199 ?_
  refine lv_iload_n hx hb dX4_goText_202 rfl (lv_at hl 3 rfl) ?_
  refine lv_iconst (v := 2) hx hb dX4_goText_203 (by decide) ?_
  refine lv_iadd hx hb dX4_goText_204 ?_
  obtain ⟨b_1, h⟩ := ck_s h
  refine va_iald hx hb hK.1 hP 5 1 rfl rfl b_1 dX4_goText_205 ?_
  refine lv_bipush (v := 65) hx hb dX4_goText_206 (by decide) ?_
  refine lv_isub hx hb dX4_goText_208 ?_
  refine lv_topi (fun x5_2 ex5_2 => ?_)
  replace h := nm_s h ex5_2
  refine lv_istore (lv' := [(5, .int x5_2), (2, .int t0), (0, .ref (b0 0)), (1, .int x1), (3, .int x3), (4, .int x4)]) hx hb dX4_goText_209 hl (by decide) rfl (fun ls hl => ?_)
  refine lv_aload_n hx hb dX4_goText_211 rfl (lv_at hl 2 rfl) ?_
  refine va_get (D := D) (ci := 4) (v := .ref (b0 5)) (C := RX4) (T := TX4) (N := 21) hx hb hts iX4_goText_X4 hown hK.1 hP 0 rfl rfl 9 (by decide) (hts _ mX4_goText_4) (fun _ h9 => h9) rfl dX4_goText_212 ?_
  refine lv_iload_n hx hb dX4_goText_215 rfl (lv_at hl 4 rfl) ?_
  refine lv_iconst (v := 3) hx hb dX4_goText_216 (by decide) ?_
  refine lv_iadd hx hb dX4_goText_217 ?_
  obtain ⟨b_3, h⟩ := ck_s h
  refine va_iald hx hb hK.1 hP 5 1 rfl rfl b_3 dX4_goText_218 ?_
  refine lv_bipush (v := 48) hx hb dX4_goText_219 (by decide) ?_
  refine lv_isub hx hb dX4_goText_221 ?_
  refine lv_topi (fun x6_4 ex6_4 => ?_)
  replace h := nm_s h ex6_4
  refine lv_istore (lv' := [(6, .int x6_4), (5, .int x5_2), (2, .int t0), (0, .ref (b0 0)), (1, .int x1), (3, .int x3), (4, .int x4)]) hx hb dX4_goText_222 hl (by decide) rfl (fun ls hl => ?_)
  obtain ⟨x3_5, ex3_5⟩ : ∃ z : Int32, z = (x3 + (4 : Int32)) := ⟨_, rfl⟩
  replace h := nm_s h ex3_5
  refine lv_iinc (v := x3_5) (lv' := [(3, .int x3_5), (6, .int x6_4), (5, .int x5_2), (2, .int t0), (0, .ref (b0 0)), (1, .int x1), (4, .int x4)]) hx hb dX4_goText_224 hl (k := 5) rfl (by rw [ex3_5]; rfl) (by decide) rfl (fun ls hl => ?_)
  refine lv_iload_n hx hb dX4_goText_227 rfl (lv_at hl 0 rfl) ?_
  refine lv_aload_n hx hb dX4_goText_228 rfl (lv_at hl 4 rfl) ?_
  refine va_get (D := D) (ci := 4) (v := .int uv.2.2.2.2.2.2.2.2.1) (C := RX4) (T := TX4) (N := 21) hx hb hts iX4_goText_X4 hown hK.1 hP 0 rfl rfl 8 (by decide) (hts _ mX4_goText_3) (fun _ h9 => h9) rfl dX4_goText_229 ?_
  refine lv_icmp_ge (tgt := 271) hx hb dX4_goText_232 (by decide) (fun c_6 => ?_) (fun c_6 => ?_)
  · replace h := it_p c_6 h
    exact w_X4_goText_271 M ih h hm hP hD hS (lv_sub hl [4, 5, 3, 0, 6, 2, 1] rfl)
  · replace h := it_n c_6 h
    refine lv_aload_n hx hb dX4_goText_235 rfl (lv_at hl 4 rfl) ?_
    refine va_get (D := D) (ci := 4) (v := .ref (b0 5)) (C := RX4) (T := TX4) (N := 21) hx hb hts iX4_goText_X4 hown hK.1 hP 0 rfl rfl 9 (by decide) (hts _ mX4_goText_4) (fun _ h9 => h9) rfl dX4_goText_236 ?_
    refine lv_iload_n hx hb dX4_goText_239 rfl (lv_at hl 0 rfl) ?_
    obtain ⟨b_7, h⟩ := ck_s h
    refine va_iald hx hb hK.1 hP 5 1 rfl rfl b_7 dX4_goText_240 ?_
    refine lv_bipush (v := 48) hx hb dX4_goText_241 (by decide) ?_
    refine lv_bipush (v := 57) hx hb dX4_goText_243 (by decide) ?_
    obtain ⟨r_8, hr_8, h⟩ := bn_s h
    refine kcSi (As := [.int (uv.2.2.2.2.2.2.2.2.2.1 x3_5.toNatClampNeg), .int (48 : Int32), .int (57 : Int32)]) (rest := []) ⟨hx, hb, hml, hown, hts⟩ (va_cwS 3 hts gX4_goText_X4_in rfl rfl rfl eX4_in ⟨Nat.le_of_ble_eq_true rfl, Nat.le_of_ble_eq_true rfl⟩) (c_X4_in  hr_8) hK hP hS hA rfl hl.1 rfl (Nat.le_of_ble_eq_true rfl) dX4_goText_245 (fun H locs hP hS => ?_)
    refine lv_if_eq (tgt := 271) hx hb dX4_goText_248 (by decide) (fun c_9 => ?_) (fun c_9 => ?_)
    · replace h := it_p c_9 h
      exact w_X4_goText_271 M ih h hm hP hD hS (lv_sub hl [4, 5, 3, 0, 6, 2, 1] rfl)
    · replace h := it_n c_9 h
      refine lv_bipush (v := 10) hx hb dX4_goText_251 (by decide) ?_
      refine lv_iload hx hb dX4_goText_253 (lv_at hl 1 rfl) ?_
      refine lv_imul hx hb dX4_goText_255 ?_
      refine lv_aload_n hx hb dX4_goText_256 rfl (lv_at hl 4 rfl) ?_
      refine va_get (D := D) (ci := 4) (v := .ref (b0 5)) (C := RX4) (T := TX4) (N := 21) hx hb hts iX4_goText_X4 hown hK.1 hP 0 rfl rfl 9 (by decide) (hts _ mX4_goText_4) (fun _ h9 => h9) rfl dX4_goText_257 ?_
      refine lv_iload_n hx hb dX4_goText_260 rfl (lv_at hl 0 rfl) ?_
      refine va_iald hx hb hK.1 hP 5 1 rfl rfl b_7 dX4_goText_261 ?_
      refine lv_iadd hx hb dX4_goText_262 ?_
      refine lv_bipush (v := 48) hx hb dX4_goText_263 (by decide) ?_
      refine lv_isub hx hb dX4_goText_265 ?_
      refine lv_topi (fun x6_10 ex6_10 => ?_)
      replace h := nm_s h ex6_10
      refine lv_istore (lv' := [(6, .int x6_10), (3, .int x3_5), (5, .int x5_2), (2, .int t0), (0, .ref (b0 0)), (1, .int x1), (4, .int x4)]) hx hb dX4_goText_266 hl (by decide) rfl (fun ls hl => ?_)
      obtain ⟨x3_11, ex3_11⟩ : ∃ z : Int32, z = (x3_5 + (1 : Int32)) := ⟨_, rfl⟩
      replace h := nm_s h ex3_11
      refine lv_iinc (v := x3_11) (lv' := [(3, .int x3_11), (6, .int x6_10), (5, .int x5_2), (2, .int t0), (0, .ref (b0 0)), (1, .int x1), (4, .int x4)]) hx hb dX4_goText_268 hl (k := 1) rfl (by rw [ex3_11]; rfl) (by decide) rfl (fun ls hl => ?_)
      exact w_X4_goText_271 M ih h hm hP hD hS (lv_sub hl [4, 5, 3, 0, 6, 2, 1] rfl)
set_option maxHeartbeats 4000000 in
set_option maxRecDepth 100000 in
theorem w_X4_goText_171 {p : Program} {l : Launch} {e : Env} {s : State} {m : MethodId} {args : Array Value} {below : List Frame} {meth : Method} {c : Code} {A : Nat → Prop} {D : va_G} {cy : Nat → ClassId} {b0 : Nat → Nat} {x1 : Int32} {fu : Nat} {rr : Int32 × MS} (M : kM p s m args meth c cX4_goText 8 (some .int) RX4 wsX4_goText A D cy) (ih : I_X4_goText p l e s m args below meth c A D cy b0 x1 fu rr) {uv : MS} {x2 : Int32} {x3 : Int32} {t0 : Int32} {oo : ((MS × Int32 × Int32) ⊕ (MS × Int32 × Int32)) ⊕ (Int32 × MS)} (h : f_X4_goText_171 x1 uv x2 x3 t0 = some oo) (hm : lpo (st_X4_goText x1) fu oo rr) {H : Heap} {locs : List Loc} {ls : Array Slot} (hP : va_P D vwCl (wM cy b0 uv []) H) (hD : va_D A (wM cy b0 uv [])) (hS : va_S A s.heap H locs) (hl : lv_has ls 8 [(0, .ref (b0 0)), (1, .int x1), (2, .int x2), (3, .int x3)]) : W p l e { frames := 4, cells := 0, slots := 0, locals := 89 } s m args below meth c H locs 0 0 (MQ below (qI D (wM cy b0 rr.2 []) (rr.1) A) args s 0 0 A) (F0 m 171 ls [.int t0]) := by
  obtain ⟨hx, hb, hr, hml, hown, hts, hlk, hA, hK⟩ := id M
  unfold f_X4_goText_171 at h
  refine lv_istore (lv' := [(4, .int t0), (0, .ref (b0 0)), (1, .int x1), (2, .int x2), (3, .int x3)]) hx hb dX4_goText_171 hl (by decide) rfl (fun ls hl => ?_)
  refine lv_aload_n hx hb dX4_goText_173 rfl (lv_at hl 1 rfl) ?_
  refine va_get (D := D) (ci := 4) (v := .ref (b0 5)) (C := RX4) (T := TX4) (N := 21) hx hb hts iX4_goText_X4 hown hK.1 hP 0 rfl rfl 9 (by decide) (hts _ mX4_goText_4) (fun _ h9 => h9) rfl dX4_goText_174 ?_
  refine lv_iload_n hx hb dX4_goText_177 rfl (lv_at hl 4 rfl) ?_
  obtain ⟨b_1, h⟩ := ck_s h
  refine va_iald hx hb hK.1 hP 5 1 rfl rfl b_1 dX4_goText_178 ?_
  refine lv_bipush (v := 63) hx hb dX4_goText_179 (by decide) ?_
  refine lv_icmp_ne (tgt := 196) hx hb dX4_goText_181 (by decide) (fun c_2 => ?_) (fun c_2 => ?_)
  · replace h := it_n c_2 h
    refine lv_iload_n hx hb dX4_goText_196 rfl (lv_at hl 3 rfl) ?_
    exact w_X4_goText_197 M ih h hm hP hD hS (lv_sub hl [1, 2, 4, 0] rfl)
  · replace h := it_p c_2 h
    refine lv_iload_n hx hb dX4_goText_184 rfl (lv_at hl 3 rfl) ?_
    refine lv_iconst (v := 1) hx hb dX4_goText_185 (by decide) ?_
    refine lv_icmp_le (tgt := 196) hx hb dX4_goText_186 (by decide) (fun c_3 => ?_) (fun c_3 => ?_)
    · replace h := it_p c_3 h
      refine lv_iload_n hx hb dX4_goText_196 rfl (lv_at hl 3 rfl) ?_
      exact w_X4_goText_197 M ih h hm hP hD hS (lv_sub hl [1, 2, 4, 0] rfl)
    · replace h := it_n c_3 h
      refine lv_iload_n hx hb dX4_goText_189 rfl (lv_at hl 3 rfl) ?_
      refine lv_bipush (v := 6) hx hb dX4_goText_190 (by decide) ?_
      refine lv_idiv hx hb dX4_goText_192 (by decide) ?_
      refine lv_goto (tgt := 197) hx hb dX4_goText_193 (by decide) ?_
      exact w_X4_goText_197 M ih h hm hP hD hS (lv_sub hl [1, 2, 4, 0] rfl)
set_option maxHeartbeats 4000000 in
set_option maxRecDepth 100000 in
theorem w_X4_goText_120 {p : Program} {l : Launch} {e : Env} {s : State} {m : MethodId} {args : Array Value} {below : List Frame} {meth : Method} {c : Code} {A : Nat → Prop} {D : va_G} {cy : Nat → ClassId} {b0 : Nat → Nat} {x1 : Int32} {fu : Nat} {rr : Int32 × MS} (M : kM p s m args meth c cX4_goText 8 (some .int) RX4 wsX4_goText A D cy) (ih : I_X4_goText p l e s m args below meth c A D cy b0 x1 fu rr) {uv : MS} {x2 : Int32} {x3 : Int32} {x4 : Int32} {t1 : Int32} {oo : ((MS × Int32 × Int32) ⊕ (MS × Int32 × Int32)) ⊕ (Int32 × MS)} (h : f_X4_goText_120 x1 uv x2 x3 x4 t1 = some oo) (hm : lpo (st_X4_goText x1) fu oo rr) {H : Heap} {locs : List Loc} {ls : Array Slot} (hP : va_P D vwCl (wM cy b0 uv []) H) (hD : va_D A (wM cy b0 uv [])) (hS : va_S A s.heap H locs) (hl : lv_has ls 8 [(0, .ref (b0 0)), (1, .int x1), (2, .int x2), (3, .int x3), (4, .int x4)]) : W p l e { frames := 4, cells := 0, slots := 0, locals := 89 } s m args below meth c H locs 0 0 (MQ below (qI D (wM cy b0 rr.2 []) (rr.1) A) args s 0 0 A) (F0 m 120 ls [.int t1, .ref (b0 0)]) := by
  obtain ⟨hx, hb, hr, hml, hown, hts, hlk, hA, hK⟩ := id M
  unfold f_X4_goText_120 at h
  refine va_put (D := D) (ci := 4) (v := .int t1) (ty := .int) (C := RX4) (T := TX4) (N := 21) hx hb hts iX4_goText_X4 tyX4 tyX4_ok nmX4 hown hK.1 hP hD hS 0 rfl rfl 15 (by decide) (hts _ mX4_goText_2) (fun _ h9 => h9) rfl (by decide +kernel) rfl rfl (Nat.le_of_ble_eq_true rfl) dX4_goText_120 (fun H locs hP hD hS => ?_)
  obtain ⟨uv_1, euv_1⟩ : ∃ z : MS, z = (uv.1, uv.2.1, uv.2.2.1, uv.2.2.2.1, uv.2.2.2.2.1, uv.2.2.2.2.2.1, uv.2.2.2.2.2.2.1, uv.2.2.2.2.2.2.2.1, uv.2.2.2.2.2.2.2.2.1, uv.2.2.2.2.2.2.2.2.2.1, uv.2.2.2.2.2.2.2.2.2.2.1, uv.2.2.2.2.2.2.2.2.2.2.2.1, uv.2.2.2.2.2.2.2.2.2.2.2.2.1, uv.2.2.2.2.2.2.2.2.2.2.2.2.2.1, uv.2.2.2.2.2.2.2.2.2.2.2.2.2.2.1, t1, uv.2.2.2.2.2.2.2.2.2.2.2.2.2.2.2.2) := ⟨_, rfl⟩
  replace h := nm_s h euv_1
  have hP : va_P D vwCl (wM cy b0 uv_1 []) H := by subst euv_1; exact hP
  have hD : va_D A (wM cy b0 uv_1 []) := hD.lk [(b0 0), (b0 1), (b0 2), (b0 3), (b0 4), (b0 5), (b0 6), (b0 7), (b0 8), (b0 9), (b0 10), (b0 11), (b0 12), (b0 13)] rfl rfl
  refine lv_aload_n hx hb dX4_goText_123 rfl (lv_at hl 0 rfl) ?_
  refine va_get (D := D) (ci := 4) (v := .int uv_1.2.2.2.2.2.2.2.2.2.2.2.2.2.2.2.1) (C := RX4) (T := TX4) (N := 21) hx hb hts iX4_goText_X4 hown hK.1 hP 0 rfl rfl 15 (by decide) (hts _ mX4_goText_2) (fun _ h9 => h9) rfl dX4_goText_124 ?_
  refine lv_if_ne (tgt := 136) hx hb dX4_goText_127 (by decide) (fun c_2 => ?_) (fun c_2 => ?_)
  · replace h := it_n c_2 h
    obtain ⟨x3_3, ex3_3⟩ : ∃ z : Int32, z = (x3 + (2 : Int32)) := ⟨_, rfl⟩
    replace h := nm_s h ex3_3
    refine lv_iinc (v := x3_3) (lv' := [(3, .int x3_3), (0, .ref (b0 0)), (1, .int x1), (2, .int x2), (4, .int x4)]) hx hb dX4_goText_136 hl (k := 3) rfl (by rw [ex3_3]; rfl) (by decide) rfl (fun ls hl => ?_)
    refine lv_goto (tgt := 408) hx hb dX4_goText_139 (by decide) ?_
    exact w_X4_goText_408 M ih h hm hP hD hS (lv_sub hl [1, 2, 3, 0] rfl)
  · replace h := it_p c_2 h
    refine lv_aload_n hx hb dX4_goText_130 rfl (lv_at hl 0 rfl) ?_
    refine lv_iload hx hb dX4_goText_131 (lv_at hl 4 rfl) ?_
    obtain ⟨r_4, hr_4, h⟩ := bn_s h
    refine kcVv (As := [.int x4]) (rest := []) (ws' := (wM cy b0 r_4 [])) ⟨hx, hb, hml, hown, hts⟩ (cwV 1 hts gX4_goText_X4_pay rfl rfl rfl ⟨rfl, eX4_pay⟩ ⟨Nat.le_of_ble_eq_true rfl, Nat.le_of_ble_eq_true rfl⟩) (c_X4_pay b0 hr_4) hK hP hD hS hA [0, 1, 2, 3, 4, 5, 6, 7, 8, 9, 10, 11, 12, 13] [] (by decide) rfl rfl 4 rfl rfl [(b0 0), (b0 1), (b0 2), (b0 3), (b0 4), (b0 5), (b0 6), (b0 7), (b0 8), (b0 9), (b0 10), (b0 11), (b0 12), (b0 13)] rfl rfl rfl [] rfl rfl rfl rfl hl.1 rfl (Nat.le_of_ble_eq_true rfl) dX4_goText_133 (fun H locs hP hD hS => ?_)
    obtain ⟨x3_5, ex3_5⟩ : ∃ z : Int32, z = (x3 + (2 : Int32)) := ⟨_, rfl⟩
    replace h := nm_s h ex3_5
    refine lv_iinc (v := x3_5) (lv' := [(3, .int x3_5), (0, .ref (b0 0)), (1, .int x1), (2, .int x2), (4, .int x4)]) hx hb dX4_goText_136 hl (k := 3) rfl (by rw [ex3_5]; rfl) (by decide) rfl (fun ls hl => ?_)
    refine lv_goto (tgt := 408) hx hb dX4_goText_139 (by decide) ?_
    exact w_X4_goText_408 M ih h hm hP hD hS (lv_sub hl [1, 2, 3, 0] rfl)
set_option maxHeartbeats 4000000 in
set_option maxRecDepth 100000 in
theorem w_X4_goText_39 {p : Program} {l : Launch} {e : Env} {s : State} {m : MethodId} {args : Array Value} {below : List Frame} {meth : Method} {c : Code} {A : Nat → Prop} {D : va_G} {cy : Nat → ClassId} {b0 : Nat → Nat} {x1 : Int32} {fu : Nat} {rr : Int32 × MS} (M : kM p s m args meth c cX4_goText 8 (some .int) RX4 wsX4_goText A D cy) (ih : I_X4_goText p l e s m args below meth c A D cy b0 x1 fu rr) {uv : MS} {x2 : Int32} {x3 : Int32} {oo : ((MS × Int32 × Int32) ⊕ (MS × Int32 × Int32)) ⊕ (Int32 × MS)} (h : f_X4_goText_39 x1 uv x2 x3 = some oo) (hm : lpo (st_X4_goText x1) fu oo rr) {H : Heap} {locs : List Loc} {ls : Array Slot} (hP : va_P D vwCl (wM cy b0 uv []) H) (hD : va_D A (wM cy b0 uv [])) (hS : va_S A s.heap H locs) (hl : lv_has ls 8 [(0, .ref (b0 0)), (1, .int x1), (2, .int x2), (3, .int x3)]) : W p l e { frames := 4, cells := 0, slots := 0, locals := 89 } s m args below meth c H locs 0 0 (MQ below (qI D (wM cy b0 rr.2 []) (rr.1) A) args s 0 0 A) (F0 m 39 ls []) := by
  obtain ⟨hx, hb, hr, hml, hown, hts, hlk, hA, hK⟩ := id M
  unfold f_X4_goText_39 at h
  refine lv_iload_n hx hb dX4_goText_39 rfl (lv_at hl 3 rfl) ?_
  refine lv_aload_n hx hb dX4_goText_40 rfl (lv_at hl 0 rfl) ?_
  refine va_get (D := D) (ci := 4) (v := .int uv.2.2.2.2.2.2.2.2.1) (C := RX4) (T := TX4) (N := 21) hx hb hts iX4_goText_X4 hown hK.1 hP 0 rfl rfl 8 (by decide) (hts _ mX4_goText_3) (fun _ h9 => h9) rfl dX4_goText_41 ?_
  refine lv_icmp_ge (tgt := 433) hx hb dX4_goText_44 (by decide) (fun c_1 => ?_) (fun c_1 => ?_)
  · replace h := it_p c_1 h
    refine lv_bipush (v := (-6)) hx hb dX4_goText_433 (by decide) ?_
    cases h
    have hm : _ = rr := hm
    subst hm
    exact kretI hx hb hr hlk hP hS dX4_goText_435
  · replace h := it_n c_1 h
    refine lv_aload_n hx hb dX4_goText_47 rfl (lv_at hl 0 rfl) ?_
    refine va_get (D := D) (ci := 4) (v := .ref (b0 5)) (C := RX4) (T := TX4) (N := 21) hx hb hts iX4_goText_X4 hown hK.1 hP 0 rfl rfl 9 (by decide) (hts _ mX4_goText_4) (fun _ h9 => h9) rfl dX4_goText_48 ?_
    refine lv_iload_n hx hb dX4_goText_51 rfl (lv_at hl 3 rfl) ?_
    obtain ⟨b_2, h⟩ := ck_s h
    refine va_iald hx hb hK.1 hP 5 1 rfl rfl b_2 dX4_goText_52 ?_
    refine lv_bipush (v := 46) hx hb dX4_goText_53 (by decide) ?_
    refine lv_icmp_ne (tgt := 68) hx hb dX4_goText_55 (by decide) (fun c_3 => ?_) (fun c_3 => ?_)
    · replace h := it_n c_3 h
      refine lv_aload_n hx hb dX4_goText_68 rfl (lv_at hl 0 rfl) ?_
      refine va_get (D := D) (ci := 4) (v := .ref (b0 5)) (C := RX4) (T := TX4) (N := 21) hx hb hts iX4_goText_X4 hown hK.1 hP 0 rfl rfl 9 (by decide) (hts _ mX4_goText_4) (fun _ h9 => h9) rfl dX4_goText_69 ?_
      refine lv_iload_n hx hb dX4_goText_72 rfl (lv_at hl 3 rfl) ?_
      refine lv_iconst (v := 1) hx hb dX4_goText_73 (by decide) ?_
      refine lv_iadd hx hb dX4_goText_74 ?_
      obtain ⟨b_4, h⟩ := ck_s h
      refine va_iald hx hb hK.1 hP 5 1 rfl rfl b_4 dX4_goText_75 ?_
      refine lv_bipush (v := 33) hx hb dX4_goText_76 (by decide) ?_
      refine lv_icmp_ne (tgt := 142) hx hb dX4_goText_78 (by decide) (fun c_5 => ?_) (fun c_5 => ?_)
      · replace h := it_n c_5 h
        refine lv_aload_n hx hb dX4_goText_142 rfl (lv_at hl 0 rfl) ?_
        refine va_get (D := D) (ci := 4) (v := .ref (b0 5)) (C := RX4) (T := TX4) (N := 21) hx hb hts iX4_goText_X4 hown hK.1 hP 0 rfl rfl 9 (by decide) (hts _ mX4_goText_4) (fun _ h9 => h9) rfl dX4_goText_143 ?_
        refine lv_iload_n hx hb dX4_goText_146 rfl (lv_at hl 3 rfl) ?_
        refine va_iald hx hb hK.1 hP 5 1 rfl rfl b_2 dX4_goText_147 ?_
        refine lv_bipush (v := 63) hx hb dX4_goText_148 (by decide) ?_
        refine lv_icmp_ne (tgt := 162) hx hb dX4_goText_150 (by decide) (fun c_6 => ?_) (fun c_6 => ?_)
        · replace h := it_n c_6 h
          refine lv_aload_n hx hb dX4_goText_162 rfl (lv_at hl 0 rfl) ?_
          refine va_get (D := D) (ci := 4) (v := .ref (b0 5)) (C := RX4) (T := TX4) (N := 21) hx hb hts iX4_goText_X4 hown hK.1 hP 0 rfl rfl 9 (by decide) (hts _ mX4_goText_4) (fun _ h9 => h9) rfl dX4_goText_163 ?_
          refine lv_iload_n hx hb dX4_goText_166 rfl (lv_at hl 3 rfl) ?_
          refine va_iald hx hb hK.1 hP 5 1 rfl rfl b_2 dX4_goText_167 ?_
          refine lv_bipush (v := 65) hx hb dX4_goText_168 (by decide) ?_
          refine lv_isub hx hb dX4_goText_170 ?_
          exact w_X4_goText_171 M ih h hm hP hD hS hl
        · replace h := it_p c_6 h
          refine lv_iload_n hx hb dX4_goText_153 rfl (lv_at hl 1 rfl) ?_
          refine lv_iload_n hx hb dX4_goText_154 rfl (lv_at hl 2 rfl) ?_
          obtain ⟨z_7, h⟩ := dz_s h
          refine lv_idiv hx hb dX4_goText_155 z_7 ?_
          refine lv_bipush (v := 6) hx hb dX4_goText_156 (by decide) ?_
          refine lv_irem hx hb dX4_goText_158 (by decide) ?_
          refine lv_goto (tgt := 171) hx hb dX4_goText_159 (by decide) ?_
          exact w_X4_goText_171 M ih h hm hP hD hS hl
      · replace h := it_p c_5 h
        refine lv_aload_n hx hb dX4_goText_81 rfl (lv_at hl 0 rfl) ?_
        refine va_get (D := D) (ci := 4) (v := .ref (b0 5)) (C := RX4) (T := TX4) (N := 21) hx hb hts iX4_goText_X4 hown hK.1 hP 0 rfl rfl 9 (by decide) (hts _ mX4_goText_4) (fun _ h9 => h9) rfl dX4_goText_82 ?_
        refine lv_iload_n hx hb dX4_goText_85 rfl (lv_at hl 3 rfl) ?_
        refine va_iald hx hb hK.1 hP 5 1 rfl rfl b_2 dX4_goText_86 ?_
        refine lv_bipush (v := 65) hx hb dX4_goText_87 (by decide) ?_
        refine lv_isub hx hb dX4_goText_89 ?_
        refine lv_topi (fun x4_8 ex4_8 => ?_)
        replace h := nm_s h ex4_8
        refine lv_istore (lv' := [(4, .int x4_8), (0, .ref (b0 0)), (1, .int x1), (2, .int x2), (3, .int x3)]) hx hb dX4_goText_90 hl (by decide) rfl (fun ls hl => ?_)
        refine lv_aload_n hx hb dX4_goText_92 rfl (lv_at hl 1 rfl) ?_
        refine lv_aload_n hx hb dX4_goText_93 rfl (lv_at hl 1 rfl) ?_
        refine lv_iload hx hb dX4_goText_94 (lv_at hl 0 rfl) ?_
        obtain ⟨r_9, hr_9, h⟩ := bn_s h
        refine kcVi (As := [.int x4_8]) (rest := [.ref (b0 0)]) (ws' := (wM cy b0 uv [])) ⟨hx, hb, hml, hown, hts⟩ (cwV 1 hts gX4_goText_X4_dueNow rfl rfl rfl ⟨rfl, eX4_dueNow⟩ ⟨Nat.le_of_ble_eq_true rfl, Nat.le_of_ble_eq_true rfl⟩) (c_X4_dueNow b0 hr_9) hK hP hD hS hA [0, 1, 2, 3, 4, 5, 6, 7, 8, 9, 10, 11, 12, 13] [] (by decide) rfl rfl 4 rfl rfl [(b0 0), (b0 1), (b0 2), (b0 3), (b0 4), (b0 5), (b0 6), (b0 7), (b0 8), (b0 9), (b0 10), (b0 11), (b0 12), (b0 13)] rfl rfl rfl [] rfl rfl rfl rfl hl.1 rfl (Nat.le_of_ble_eq_true rfl) dX4_goText_96 (fun H locs hP hD hS => ?_)
        refine lv_if_ge (tgt := 106) hx hb dX4_goText_99 (by decide) (fun c_10 => ?_) (fun c_10 => ?_)
        · replace h := it_p c_10 h
          refine lv_aload_n hx hb dX4_goText_106 rfl (lv_at hl 1 rfl) ?_
          refine lv_iload hx hb dX4_goText_107 (lv_at hl 0 rfl) ?_
          obtain ⟨r_11, hr_11, h⟩ := bn_s h
          refine kcVi (As := [.int x4_8]) (rest := [.ref (b0 0)]) (ws' := (wM cy b0 uv [])) ⟨hx, hb, hml, hown, hts⟩ (cwV 1 hts gX4_goText_X4_canPay rfl rfl rfl ⟨rfl, eX4_canPay⟩ ⟨Nat.le_of_ble_eq_true rfl, Nat.le_of_ble_eq_true rfl⟩) (c_X4_canPay b0 hr_11) hK hP hD hS hA [0, 1, 2, 3, 4, 5, 6, 7, 8, 9, 10, 11, 12, 13] [] (by decide) rfl rfl 4 rfl rfl [(b0 0), (b0 1), (b0 2), (b0 3), (b0 4), (b0 5), (b0 6), (b0 7), (b0 8), (b0 9), (b0 10), (b0 11), (b0 12), (b0 13)] rfl rfl rfl [] rfl rfl rfl rfl hl.1 rfl (Nat.le_of_ble_eq_true rfl) dX4_goText_109 (fun H locs hP hD hS => ?_)
          refine lv_if_eq (tgt := 119) hx hb dX4_goText_112 (by decide) (fun c_12 => ?_) (fun c_12 => ?_)
          · replace h := it_p c_12 h
            refine lv_iconst (v := 4) hx hb dX4_goText_119 (by decide) ?_
            exact w_X4_goText_120 M ih h hm hP hD hS (lv_sub hl [1, 2, 3, 4, 0] rfl)
          · replace h := it_n c_12 h
            refine lv_iconst (v := 0) hx hb dX4_goText_115 (by decide) ?_
            refine lv_goto (tgt := 120) hx hb dX4_goText_116 (by decide) ?_
            exact w_X4_goText_120 M ih h hm hP hD hS (lv_sub hl [1, 2, 3, 4, 0] rfl)
        · replace h := it_n c_10 h
          refine lv_iconst (v := 3) hx hb dX4_goText_102 (by decide) ?_
          refine lv_goto (tgt := 120) hx hb dX4_goText_103 (by decide) ?_
          exact w_X4_goText_120 M ih h hm hP hD hS (lv_sub hl [1, 2, 3, 4, 0] rfl)
    · replace h := it_p c_3 h
      refine lv_aload_n hx hb dX4_goText_58 rfl (lv_at hl 0 rfl) ?_
      obtain ⟨r_13, hr_13, h⟩ := bn_s h
      refine kcVv (As := []) (rest := []) (ws' := (wM cy b0 r_13 [])) ⟨hx, hb, hml, hown, hts⟩ (cwV 0 hts gX4_goText_X4_pass rfl rfl rfl ⟨rfl, eX4_pass⟩ ⟨Nat.le_of_ble_eq_true rfl, Nat.le_of_ble_eq_true rfl⟩) (c_X4_pass b0 hr_13) hK hP hD hS hA [0, 1, 2, 3, 4, 5, 6, 7, 8, 9, 10, 11, 12, 13] [] (by decide) rfl rfl 4 rfl rfl [(b0 0), (b0 1), (b0 2), (b0 3), (b0 4), (b0 5), (b0 6), (b0 7), (b0 8), (b0 9), (b0 10), (b0 11), (b0 12), (b0 13)] rfl rfl rfl [] rfl rfl rfl rfl hl.1 rfl (Nat.le_of_ble_eq_true rfl) dX4_goText_59 (fun H locs hP hD hS => ?_)
      obtain ⟨x3_14, ex3_14⟩ : ∃ z : Int32, z = (x3 + (1 : Int32)) := ⟨_, rfl⟩
      replace h := nm_s h ex3_14
      refine lv_iinc (v := x3_14) (lv' := [(3, .int x3_14), (0, .ref (b0 0)), (1, .int x1), (2, .int x2)]) hx hb dX4_goText_62 hl (k := 3) rfl (by rw [ex3_14]; rfl) (by decide) rfl (fun ls hl => ?_)
      refine lv_goto (tgt := 408) hx hb dX4_goText_65 (by decide) ?_
      exact w_X4_goText_408 M ih h hm hP hD hS (lv_sub hl [1, 2, 3, 0] rfl)
set_option maxHeartbeats 4000000 in
set_option maxRecDepth 100000 in
theorem w_X4_goText_18 {p : Program} {l : Launch} {e : Env} {s : State} {m : MethodId} {args : Array Value} {below : List Frame} {meth : Method} {c : Code} {A : Nat → Prop} {D : va_G} {cy : Nat → ClassId} {b0 : Nat → Nat} {x1 : Int32} {fu : Nat} {rr : Int32 × MS} (M : kM p s m args meth c cX4_goText 8 (some .int) RX4 wsX4_goText A D cy) (ih : I_X4_goText p l e s m args below meth c A D cy b0 x1 fu rr) {uv : MS} {x2 : Int32} {x3 : Int32} {oo : ((MS × Int32 × Int32) ⊕ (MS × Int32 × Int32)) ⊕ (Int32 × MS)} (h : f_X4_goText_18 x1 uv x2 x3 = some oo) (hm : lpo (st_X4_goText x1) fu oo rr) {H : Heap} {locs : List Loc} {ls : Array Slot} (hP : va_P D vwCl (wM cy b0 uv []) H) (hD : va_D A (wM cy b0 uv [])) (hS : va_S A s.heap H locs) (hl : lv_has ls 8 [(0, .ref (b0 0)), (1, .int x1), (2, .int x2), (3, .int x3)]) : W p l e { frames := 4, cells := 0, slots := 0, locals := 89 } s m args below meth c H locs 0 0 (MQ below (qI D (wM cy b0 rr.2 []) (rr.1) A) args s 0 0 A) (F0 m 18 ls []) := by
  obtain ⟨hx, hb, hr, hml, hown, hts, hlk, hA, hK⟩ := id M
  unfold f_X4_goText_18 at h
  refine lv_iload_n hx hb dX4_goText_18 rfl (lv_at hl 3 rfl) ?_
  refine lv_aload_n hx hb dX4_goText_19 rfl (lv_at hl 0 rfl) ?_
  obtain ⟨r_1, hr_1, h⟩ := bn_s h
  refine kcVi (As := []) (rest := [.int x3]) (ws' := (wM cy b0 uv [])) ⟨hx, hb, hml, hown, hts⟩ (cwV 0 hts gX4_goText_X4_opens rfl rfl rfl ⟨rfl, eX4_opens⟩ ⟨Nat.le_of_ble_eq_true rfl, Nat.le_of_ble_eq_true rfl⟩) (c_X4_opens b0 hr_1) hK hP hD hS hA [0, 1, 2, 3, 4, 5, 6, 7, 8, 9, 10, 11, 12, 13] [] (by decide) rfl rfl 4 rfl rfl [(b0 0), (b0 1), (b0 2), (b0 3), (b0 4), (b0 5), (b0 6), (b0 7), (b0 8), (b0 9), (b0 10), (b0 11), (b0 12), (b0 13)] rfl rfl rfl [] rfl rfl rfl rfl hl.1 rfl (Nat.le_of_ble_eq_true rfl) dX4_goText_20 (fun H locs hP hD hS => ?_)
  refine lv_icmp_ge (tgt := 37) hx hb dX4_goText_23 (by decide) (fun c_2 => ?_) (fun c_2 => ?_)
  · replace h := it_p c_2 h
    refine lv_iconst (v := 0) hx hb dX4_goText_37 (by decide) ?_
    refine lv_istore_n (lv' := [(3, .int (0 : Int32)), (0, .ref (b0 0)), (1, .int x1), (2, .int x2)]) hx hb dX4_goText_38 rfl hl (by decide) rfl (fun ls hl => ?_)
    cases h
    exact ih.2 uv x2 (0 : Int32) _ _ _ hm hP hD hS (lv_sub hl [1, 2, 3, 0] rfl)
  · replace h := it_n c_2 h
    refine lv_iload_n hx hb dX4_goText_26 rfl (lv_at hl 2 rfl) ?_
    refine lv_bipush (v := 6) hx hb dX4_goText_27 (by decide) ?_
    refine lv_imul hx hb dX4_goText_29 ?_
    refine lv_topi (fun x2_3 ex2_3 => ?_)
    replace h := nm_s h ex2_3
    refine lv_istore_n (lv' := [(2, .int x2_3), (0, .ref (b0 0)), (1, .int x1), (3, .int x3)]) hx hb dX4_goText_30 rfl hl (by decide) rfl (fun ls hl => ?_)
    obtain ⟨x3_4, ex3_4⟩ : ∃ z : Int32, z = (x3 + (1 : Int32)) := ⟨_, rfl⟩
    replace h := nm_s h ex3_4
    refine lv_iinc (v := x3_4) (lv' := [(3, .int x3_4), (2, .int x2_3), (0, .ref (b0 0)), (1, .int x1)]) hx hb dX4_goText_31 hl (k := 3) rfl (by rw [ex3_4]; rfl) (by decide) rfl (fun ls hl => ?_)
    refine lv_goto (tgt := 18) hx hb dX4_goText_34 (by decide) ?_
    cases h
    exact ih.1 uv x2_3 x3_4 _ _ _ hm hP hD hS (lv_sub hl [2, 3, 1, 0] rfl)
set_option maxHeartbeats 4000000 in
set_option maxRecDepth 100000 in
theorem w_X4_goText_0 {p : Program} {l : Launch} {e : Env} {s : State} {m : MethodId} {args : Array Value} {below : List Frame} {meth : Method} {c : Code} {A : Nat → Prop} {D : va_G} {cy : Nat → ClassId} {b0 : Nat → Nat} {x1 : Int32} {fu : Nat} {rr : Int32 × MS} (M : kM p s m args meth c cX4_goText 8 (some .int) RX4 wsX4_goText A D cy) (ih : I_X4_goText p l e s m args below meth c A D cy b0 x1 fu rr) {uv : MS} {oo : ((MS × Int32 × Int32) ⊕ (MS × Int32 × Int32)) ⊕ (Int32 × MS)} (h : f_X4_goText_0 uv x1 = some oo) (hm : lpo (st_X4_goText x1) fu oo rr) {H : Heap} {locs : List Loc} {ls : Array Slot} (hP : va_P D vwCl (wM cy b0 uv []) H) (hD : va_D A (wM cy b0 uv [])) (hS : va_S A s.heap H locs) (hl : lv_has ls 8 [(0, .ref (b0 0)), (1, .int x1)]) : W p l e { frames := 4, cells := 0, slots := 0, locals := 89 } s m args below meth c H locs 0 0 (MQ below (qI D (wM cy b0 rr.2 []) (rr.1) A) args s 0 0 A) (F0 m 0 ls []) := by
  obtain ⟨hx, hb, hr, hml, hown, hts, hlk, hA, hK⟩ := id M
  unfold f_X4_goText_0 at h
  refine lv_aload_n hx hb dX4_goText_0 rfl (lv_at hl 0 rfl) ?_
  obtain ⟨r_1, hr_1, h⟩ := bn_s h
  refine kcVv (As := []) (rest := []) (ws' := (wM cy b0 r_1 [])) ⟨hx, hb, hml, hown, hts⟩ (cwV 0 hts gX4_goText_X4_asNow rfl rfl rfl ⟨rfl, eX4_asNow⟩ ⟨Nat.le_of_ble_eq_true rfl, Nat.le_of_ble_eq_true rfl⟩) (c_X4_asNow b0 hr_1) hK hP hD hS hA [0, 1, 2, 3, 4, 5, 6, 7, 8, 9, 10, 11, 12, 13] [] (by decide) rfl rfl 4 rfl rfl [(b0 0), (b0 1), (b0 2), (b0 3), (b0 4), (b0 5), (b0 6), (b0 7), (b0 8), (b0 9), (b0 10), (b0 11), (b0 12), (b0 13)] rfl rfl rfl [] rfl rfl rfl rfl hl.1 rfl (Nat.le_of_ble_eq_true rfl) dX4_goText_1 (fun H locs hP hD hS => ?_)
  refine lv_aload_n hx hb dX4_goText_4 rfl (lv_at hl 0 rfl) ?_
  refine lv_iconst (v := 0) hx hb dX4_goText_5 (by decide) ?_
  refine va_put (D := D) (ci := 4) (v := .int (0 : Int32)) (ty := .int) (C := RX4) (T := TX4) (N := 21) hx hb hts iX4_goText_X4 tyX4 tyX4_ok nmX4 hown hK.1 hP hD hS 0 rfl rfl 14 (by decide) (hts _ mX4_goText_1) (fun _ h9 => h9) rfl (by decide +kernel) rfl rfl (Nat.le_of_ble_eq_true rfl) dX4_goText_6 (fun H locs hP hD hS => ?_)
  obtain ⟨uv_2, euv_2⟩ : ∃ z : MS, z = (r_1.1, r_1.2.1, r_1.2.2.1, r_1.2.2.2.1, r_1.2.2.2.2.1, r_1.2.2.2.2.2.1, r_1.2.2.2.2.2.2.1, r_1.2.2.2.2.2.2.2.1, r_1.2.2.2.2.2.2.2.2.1, r_1.2.2.2.2.2.2.2.2.2.1, r_1.2.2.2.2.2.2.2.2.2.2.1, r_1.2.2.2.2.2.2.2.2.2.2.2.1, r_1.2.2.2.2.2.2.2.2.2.2.2.2.1, r_1.2.2.2.2.2.2.2.2.2.2.2.2.2.1, (0 : Int32), r_1.2.2.2.2.2.2.2.2.2.2.2.2.2.2.2) := ⟨_, rfl⟩
  replace h := nm_s h euv_2
  have hP : va_P D vwCl (wM cy b0 uv_2 []) H := by subst euv_2; exact hP
  have hD : va_D A (wM cy b0 uv_2 []) := hD.lk [(b0 0), (b0 1), (b0 2), (b0 3), (b0 4), (b0 5), (b0 6), (b0 7), (b0 8), (b0 9), (b0 10), (b0 11), (b0 12), (b0 13)] rfl rfl
  refine lv_aload_n hx hb dX4_goText_9 rfl (lv_at hl 0 rfl) ?_
  refine lv_iconst (v := 0) hx hb dX4_goText_10 (by decide) ?_
  refine va_put (D := D) (ci := 4) (v := .int (0 : Int32)) (ty := .int) (C := RX4) (T := TX4) (N := 21) hx hb hts iX4_goText_X4 tyX4 tyX4_ok nmX4 hown hK.1 hP hD hS 0 rfl rfl 15 (by decide) (hts _ mX4_goText_2) (fun _ h9 => h9) rfl (by decide +kernel) rfl rfl (Nat.le_of_ble_eq_true rfl) dX4_goText_11 (fun H locs hP hD hS => ?_)
  obtain ⟨uv_3, euv_3⟩ : ∃ z : MS, z = (uv_2.1, uv_2.2.1, uv_2.2.2.1, uv_2.2.2.2.1, uv_2.2.2.2.2.1, uv_2.2.2.2.2.2.1, uv_2.2.2.2.2.2.2.1, uv_2.2.2.2.2.2.2.2.1, uv_2.2.2.2.2.2.2.2.2.1, uv_2.2.2.2.2.2.2.2.2.2.1, uv_2.2.2.2.2.2.2.2.2.2.2.1, uv_2.2.2.2.2.2.2.2.2.2.2.2.1, uv_2.2.2.2.2.2.2.2.2.2.2.2.2.1, uv_2.2.2.2.2.2.2.2.2.2.2.2.2.2.1, uv_2.2.2.2.2.2.2.2.2.2.2.2.2.2.2.1, (0 : Int32), uv_2.2.2.2.2.2.2.2.2.2.2.2.2.2.2.2.2) := ⟨_, rfl⟩
  replace h := nm_s h euv_3
  have hP : va_P D vwCl (wM cy b0 uv_3 []) H := by subst euv_3; exact hP
  have hD : va_D A (wM cy b0 uv_3 []) := hD.lk [(b0 0), (b0 1), (b0 2), (b0 3), (b0 4), (b0 5), (b0 6), (b0 7), (b0 8), (b0 9), (b0 10), (b0 11), (b0 12), (b0 13)] rfl rfl
  refine lv_iconst (v := 1) hx hb dX4_goText_14 (by decide) ?_
  refine lv_istore_n (lv' := [(2, .int (1 : Int32)), (0, .ref (b0 0)), (1, .int x1)]) hx hb dX4_goText_15 rfl hl (by decide) rfl (fun ls hl => ?_)
  refine lv_iconst (v := 1) hx hb dX4_goText_16 (by decide) ?_
  refine lv_istore_n (lv' := [(3, .int (1 : Int32)), (2, .int (1 : Int32)), (0, .ref (b0 0)), (1, .int x1)]) hx hb dX4_goText_17 rfl hl (by decide) rfl (fun ls hl => ?_)
  cases h
  exact ih.1 uv_3 (1 : Int32) (1 : Int32) _ _ _ hm hP hD hS (lv_sub hl [2, 3, 1, 0] rfl)
theorem wl_X4_goText {p : Program} {l : Launch} {e : Env} {s : State} {m : MethodId} {args : Array Value} {below : List Frame} {meth : Method} {c : Code} {A : Nat → Prop} {D : va_G} {cy : Nat → ClassId} {b0 : Nat → Nat} {x1 : Int32} {rr : Int32 × MS} (M : kM p s m args meth c cX4_goText 8 (some .int) RX4 wsX4_goText A D cy) : ∀ fu : Nat, I_X4_goText p l e s m args below meth c A D cy b0 x1 fu rr := by
  intro fu
  induction fu with
  | zero => exact ⟨(fun _ _ _ _ _ _ h => by cases h), (fun _ _ _ _ _ _ h => by cases h)⟩
  | succ fu ih =>
    refine ⟨?_, ?_⟩
    · intro uv x2 x3 H locs ls h hP hD hS hl
      obtain ⟨o1, h1, h2⟩ := lpn_s h
      exact w_X4_goText_18 M ih h1 h2 hP hD hS hl
    · intro uv x2 x3 H locs ls h hP hD hS hl
      obtain ⟨o1, h1, h2⟩ := lpn_s h
      exact w_X4_goText_39 M ih h1 h2 hP hD hS hl
theorem c_X4_goText {l : Launch} {D : va_G} {cy : Nat → ClassId} (b0 : Nat → Nat) {uv : MS} {x1 : Int32} {rr : Int32 × MS} (h : f_X4_goText uv x1 = some rr) : CI l D cy yX4_goText wsX4_goText { frames := 4, cells := 0, slots := 0, locals := 89 } [.ref (b0 0), .int x1] (wM cy b0 uv []) (rr.1) (wM cy b0 rr.2 []) := by
  refine kofI (cc := cX4_goText) (maxL := 8) (ret := (some .int)) (by decide) rfl (Nat.le_of_ble_eq_true rfl) ?_
  intro p e s m below meth c A M ls hl hP hD hS
  obtain ⟨o1, fu, h1, h2⟩ := rnx_s h
  exact w_X4_goText_0 M (wl_X4_goText M fu) h1 h2 hP hD hS hl
theorem eX4_goText : yX4_goText.cls ≠ "java/lang/invoke/MethodHandle" ∧ yX4_goText.cls ≠ "java/lang/invoke/VarHandle" ∧ (parseMethodDescriptor yX4_goText.desc).map (fun d => d.parameters.length) = some 1 := by decide +kernel
theorem iX4_keepNow_X4 : ∀ w ∈ u_ws RX4 TX4 21, w ∈ wsX4_keepNow := by decide +kernel
theorem mX4_keepNow_1 : Cond.fieldLink RX4 76 "LentPilesModel" "nowDays" "I" ∈ wsX4_keepNow := by decide +kernel
theorem mX4_keepNow_2 : Cond.fieldLink RX4 73 "LentPilesModel" "days" "I" ∈ wsX4_keepNow := by decide +kernel
theorem mX4_keepNow_3 : Cond.fieldLink RX4 7 "LentPilesModel" "money" "[I" ∈ wsX4_keepNow := by decide +kernel
theorem mX4_keepNow_4 : Cond.fieldLink RX4 25 "LentPilesModel" "nowMoney" "[I" ∈ wsX4_keepNow := by decide +kernel
theorem mX4_keepNow_5 : Cond.fieldLink RX4 13 "LentPilesModel" "size" "[I" ∈ wsX4_keepNow := by decide +kernel
theorem mX4_keepNow_6 : Cond.fieldLink RX4 28 "LentPilesModel" "nowSize" "[I" ∈ wsX4_keepNow := by decide +kernel
theorem mX4_keepNow_7 : Cond.fieldLink RX4 16 "LentPilesModel" "pile" "[I" ∈ wsX4_keepNow := by decide +kernel
theorem mX4_keepNow_8 : Cond.fieldLink RX4 31 "LentPilesModel" "nowPile" "[I" ∈ wsX4_keepNow := by decide +kernel
def I_X4_keepNow (p : Program) (l : Launch) (e : Env) (s : State) (m : MethodId) (args : Array Value) (below : List Frame) (meth : Method) (c : Code) (A : Nat → Prop) (D : va_G) (cy : Nat → ClassId) (b0 : Nat → Nat) (fu : Nat) (rr : MS) : Prop := (∀ (uv : MS) (x1 : Int32) (H : Heap) (locs : List Loc) (ls : Array Slot), lpn (st_X4_keepNow ) fu (.inl (uv, x1)) = some rr → va_P D vwCl (wM cy b0 uv []) H → va_D A (wM cy b0 uv []) → va_S A s.heap H locs → lv_has ls 2 [(0, .ref (b0 0)), (1, .int x1)] → W p l e { frames := 0, cells := 0, slots := 0, locals := 0 } s m args below meth c H locs 0 0 (MQ below (qV D (wM cy b0 rr []) A) args s 0 0 A) (F0 m 10 ls [])) ∧ (∀ (uv : MS) (x1 : Int32) (H : Heap) (locs : List Loc) (ls : Array Slot), lpn (st_X4_keepNow ) fu (.inr (uv, x1)) = some rr → va_P D vwCl (wM cy b0 uv []) H → va_D A (wM cy b0 uv []) → va_S A s.heap H locs → lv_has ls 2 [(0, .ref (b0 0)), (1, .int x1)] → W p l e { frames := 0, cells := 0, slots := 0, locals := 0 } s m args below meth c H locs 0 0 (MQ below (qV D (wM cy b0 rr []) A) args s 0 0 A) (F0 m 48 ls []))
set_option maxHeartbeats 4000000 in
set_option maxRecDepth 100000 in
theorem w_X4_keepNow_48 {p : Program} {l : Launch} {e : Env} {s : State} {m : MethodId} {args : Array Value} {below : List Frame} {meth : Method} {c : Code} {A : Nat → Prop} {D : va_G} {cy : Nat → ClassId} {b0 : Nat → Nat} {fu : Nat} {rr : MS} (M : kM p s m args meth c cX4_keepNow 2 none RX4 wsX4_keepNow A D cy) (ih : I_X4_keepNow p l e s m args below meth c A D cy b0 fu rr) {uv : MS} {x1 : Int32} {oo : ((MS × Int32) ⊕ (MS × Int32)) ⊕ (MS)} (h : f_X4_keepNow_48 uv x1 = some oo) (hm : lpo (st_X4_keepNow ) fu oo rr) {H : Heap} {locs : List Loc} {ls : Array Slot} (hP : va_P D vwCl (wM cy b0 uv []) H) (hD : va_D A (wM cy b0 uv [])) (hS : va_S A s.heap H locs) (hl : lv_has ls 2 [(0, .ref (b0 0)), (1, .int x1)]) : W p l e { frames := 0, cells := 0, slots := 0, locals := 0 } s m args below meth c H locs 0 0 (MQ below (qV D (wM cy b0 rr []) A) args s 0 0 A) (F0 m 48 ls []) := by
  obtain ⟨hx, hb, hr, hml, hown, hts, hlk, hA, hK⟩ := id M
  unfold f_X4_keepNow_48 at h
  refine lv_iload_n hx hb dX4_keepNow_48 rfl (lv_at hl 1 rfl) ?_
  refine lv_bipush (v := 90) hx hb dX4_keepNow_49 (by decide) ?_
  refine lv_icmp_ge (tgt := 72) hx hb dX4_keepNow_51 (by decide) (fun c_1 => ?_) (fun c_1 => ?_)
  · replace h := it_p c_1 h
    cases h
    have hm : _ = rr := hm
    subst hm
    exact kretV hx hb hr hlk hP hS dX4_keepNow_72
  · replace h := it_n c_1 h
    refine lv_aload_n hx hb dX4_keepNow_54 rfl (lv_at hl 0 rfl) ?_
    refine va_get (D := D) (ci := 4) (v := .ref (b0 3)) (C := RX4) (T := TX4) (N := 21) hx hb hts iX4_keepNow_X4 hown hK.1 hP 0 rfl rfl 5 (by decide) (hts _ mX4_keepNow_7) (fun _ h9 => h9) rfl dX4_keepNow_55 ?_
    refine lv_iload_n hx hb dX4_keepNow_58 rfl (lv_at hl 1 rfl) ?_
    refine lv_aload_n hx hb dX4_keepNow_59 rfl (lv_at hl 0 rfl) ?_
    refine va_get (D := D) (ci := 4) (v := .ref (b0 8)) (C := RX4) (T := TX4) (N := 21) hx hb hts iX4_keepNow_X4 hown hK.1 hP 0 rfl rfl 13 (by decide) (hts _ mX4_keepNow_8) (fun _ h9 => h9) rfl dX4_keepNow_60 ?_
    refine lv_iload_n hx hb dX4_keepNow_63 rfl (lv_at hl 1 rfl) ?_
    obtain ⟨b_2, h⟩ := ck_s h
    refine va_iald hx hb hK.1 hP 8 1 rfl rfl b_2 dX4_keepNow_64 ?_
    refine va_iast hx hb hK.1 hP hD hS 3 1 rfl rfl b_2 dX4_keepNow_65 (fun H locs hP hD hS => ?_)
    obtain ⟨uv_3, euv_3⟩ : ∃ z : MS, z = (uv.1, uv.2.1, uv.2.2.1, uv.2.2.2.1, uv.2.2.2.2.1, (upd uv.2.2.2.2.2.1 x1.toNatClampNeg (uv.2.2.2.2.2.2.2.2.2.2.2.2.2.1 x1.toNatClampNeg)), uv.2.2.2.2.2.2) := ⟨_, rfl⟩
    replace h := nm_s h euv_3
    have hP : va_P D vwCl (wM cy b0 uv_3 []) H := by subst euv_3; exact hP
    have hD : va_D A (wM cy b0 uv_3 []) := hD.lk [(b0 0), (b0 1), (b0 2), (b0 3), (b0 4), (b0 5), (b0 6), (b0 7), (b0 8), (b0 9), (b0 10), (b0 11), (b0 12), (b0 13)] rfl rfl
    obtain ⟨x1_4, ex1_4⟩ : ∃ z : Int32, z = (x1 + (1 : Int32)) := ⟨_, rfl⟩
    replace h := nm_s h ex1_4
    refine lv_iinc (v := x1_4) (lv' := [(1, .int x1_4), (0, .ref (b0 0))]) hx hb dX4_keepNow_66 hl (k := 1) rfl (by rw [ex1_4]; rfl) (by decide) rfl (fun ls hl => ?_)
    refine lv_goto (tgt := 48) hx hb dX4_keepNow_69 (by decide) ?_
    cases h
    exact ih.2 uv_3 x1_4 _ _ _ hm hP hD hS (lv_sub hl [1, 0] rfl)
set_option maxHeartbeats 4000000 in
set_option maxRecDepth 100000 in
theorem w_X4_keepNow_10 {p : Program} {l : Launch} {e : Env} {s : State} {m : MethodId} {args : Array Value} {below : List Frame} {meth : Method} {c : Code} {A : Nat → Prop} {D : va_G} {cy : Nat → ClassId} {b0 : Nat → Nat} {fu : Nat} {rr : MS} (M : kM p s m args meth c cX4_keepNow 2 none RX4 wsX4_keepNow A D cy) (ih : I_X4_keepNow p l e s m args below meth c A D cy b0 fu rr) {uv : MS} {x1 : Int32} {oo : ((MS × Int32) ⊕ (MS × Int32)) ⊕ (MS)} (h : f_X4_keepNow_10 uv x1 = some oo) (hm : lpo (st_X4_keepNow ) fu oo rr) {H : Heap} {locs : List Loc} {ls : Array Slot} (hP : va_P D vwCl (wM cy b0 uv []) H) (hD : va_D A (wM cy b0 uv [])) (hS : va_S A s.heap H locs) (hl : lv_has ls 2 [(0, .ref (b0 0)), (1, .int x1)]) : W p l e { frames := 0, cells := 0, slots := 0, locals := 0 } s m args below meth c H locs 0 0 (MQ below (qV D (wM cy b0 rr []) A) args s 0 0 A) (F0 m 10 ls []) := by
  obtain ⟨hx, hb, hr, hml, hown, hts, hlk, hA, hK⟩ := id M
  unfold f_X4_keepNow_10 at h
  refine lv_iload_n hx hb dX4_keepNow_10 rfl (lv_at hl 1 rfl) ?_
  refine lv_bipush (v := 6) hx hb dX4_keepNow_11 (by decide) ?_
  refine lv_icmp_ge (tgt := 46) hx hb dX4_keepNow_13 (by decide) (fun c_1 => ?_) (fun c_1 => ?_)
  · replace h := it_p c_1 h
    refine lv_iconst (v := 0) hx hb dX4_keepNow_46 (by decide) ?_
    refine lv_istore_n (lv' := [(1, .int (0 : Int32)), (0, .ref (b0 0))]) hx hb dX4_keepNow_47 rfl hl (by decide) rfl (fun ls hl => ?_)
    cases h
    exact ih.2 uv (0 : Int32) _ _ _ hm hP hD hS (lv_sub hl [1, 0] rfl)
  · replace h := it_n c_1 h
    refine lv_aload_n hx hb dX4_keepNow_16 rfl (lv_at hl 0 rfl) ?_
    refine va_get (D := D) (ci := 4) (v := .ref (b0 1)) (C := RX4) (T := TX4) (N := 21) hx hb hts iX4_keepNow_X4 hown hK.1 hP 0 rfl rfl 3 (by decide) (hts _ mX4_keepNow_3) (fun _ h9 => h9) rfl dX4_keepNow_17 ?_
    refine lv_iload_n hx hb dX4_keepNow_20 rfl (lv_at hl 1 rfl) ?_
    refine lv_aload_n hx hb dX4_keepNow_21 rfl (lv_at hl 0 rfl) ?_
    refine va_get (D := D) (ci := 4) (v := .ref (b0 6)) (C := RX4) (T := TX4) (N := 21) hx hb hts iX4_keepNow_X4 hown hK.1 hP 0 rfl rfl 11 (by decide) (hts _ mX4_keepNow_4) (fun _ h9 => h9) rfl dX4_keepNow_22 ?_
    refine lv_iload_n hx hb dX4_keepNow_25 rfl (lv_at hl 1 rfl) ?_
    obtain ⟨b_2, h⟩ := ck_s h
    refine va_iald hx hb hK.1 hP 6 1 rfl rfl b_2 dX4_keepNow_26 ?_
    refine va_iast hx hb hK.1 hP hD hS 1 1 rfl rfl b_2 dX4_keepNow_27 (fun H locs hP hD hS => ?_)
    obtain ⟨uv_3, euv_3⟩ : ∃ z : MS, z = (uv.1, uv.2.1, uv.2.2.1, (upd uv.2.2.2.1 x1.toNatClampNeg (uv.2.2.2.2.2.2.2.2.2.2.2.1 x1.toNatClampNeg)), uv.2.2.2.2) := ⟨_, rfl⟩
    replace h := nm_s h euv_3
    have hP : va_P D vwCl (wM cy b0 uv_3 []) H := by subst euv_3; exact hP
    have hD : va_D A (wM cy b0 uv_3 []) := hD.lk [(b0 0), (b0 1), (b0 2), (b0 3), (b0 4), (b0 5), (b0 6), (b0 7), (b0 8), (b0 9), (b0 10), (b0 11), (b0 12), (b0 13)] rfl rfl
    refine lv_aload_n hx hb dX4_keepNow_28 rfl (lv_at hl 0 rfl) ?_
    refine va_get (D := D) (ci := 4) (v := .ref (b0 2)) (C := RX4) (T := TX4) (N := 21) hx hb hts iX4_keepNow_X4 hown hK.1 hP 0 rfl rfl 4 (by decide) (hts _ mX4_keepNow_5) (fun _ h9 => h9) rfl dX4_keepNow_29 ?_
    refine lv_iload_n hx hb dX4_keepNow_32 rfl (lv_at hl 1 rfl) ?_
    refine lv_aload_n hx hb dX4_keepNow_33 rfl (lv_at hl 0 rfl) ?_
    refine va_get (D := D) (ci := 4) (v := .ref (b0 7)) (C := RX4) (T := TX4) (N := 21) hx hb hts iX4_keepNow_X4 hown hK.1 hP 0 rfl rfl 12 (by decide) (hts _ mX4_keepNow_6) (fun _ h9 => h9) rfl dX4_keepNow_34 ?_
    refine lv_iload_n hx hb dX4_keepNow_37 rfl (lv_at hl 1 rfl) ?_
    refine va_iald hx hb hK.1 hP 7 1 rfl rfl b_2 dX4_keepNow_38 ?_
    refine va_iast hx hb hK.1 hP hD hS 2 1 rfl rfl b_2 dX4_keepNow_39 (fun H locs hP hD hS => ?_)
    obtain ⟨uv_4, euv_4⟩ : ∃ z : MS, z = (uv_3.1, uv_3.2.1, uv_3.2.2.1, uv_3.2.2.2.1, (upd uv_3.2.2.2.2.1 x1.toNatClampNeg (uv_3.2.2.2.2.2.2.2.2.2.2.2.2.1 x1.toNatClampNeg)), uv_3.2.2.2.2.2) := ⟨_, rfl⟩
    replace h := nm_s h euv_4
    have hP : va_P D vwCl (wM cy b0 uv_4 []) H := by subst euv_4; exact hP
    have hD : va_D A (wM cy b0 uv_4 []) := hD.lk [(b0 0), (b0 1), (b0 2), (b0 3), (b0 4), (b0 5), (b0 6), (b0 7), (b0 8), (b0 9), (b0 10), (b0 11), (b0 12), (b0 13)] rfl rfl
    obtain ⟨x1_5, ex1_5⟩ : ∃ z : Int32, z = (x1 + (1 : Int32)) := ⟨_, rfl⟩
    replace h := nm_s h ex1_5
    refine lv_iinc (v := x1_5) (lv' := [(1, .int x1_5), (0, .ref (b0 0))]) hx hb dX4_keepNow_40 hl (k := 1) rfl (by rw [ex1_5]; rfl) (by decide) rfl (fun ls hl => ?_)
    refine lv_goto (tgt := 10) hx hb dX4_keepNow_43 (by decide) ?_
    cases h
    exact ih.1 uv_4 x1_5 _ _ _ hm hP hD hS (lv_sub hl [1, 0] rfl)
set_option maxHeartbeats 4000000 in
set_option maxRecDepth 100000 in
theorem w_X4_keepNow_0 {p : Program} {l : Launch} {e : Env} {s : State} {m : MethodId} {args : Array Value} {below : List Frame} {meth : Method} {c : Code} {A : Nat → Prop} {D : va_G} {cy : Nat → ClassId} {b0 : Nat → Nat} {fu : Nat} {rr : MS} (M : kM p s m args meth c cX4_keepNow 2 none RX4 wsX4_keepNow A D cy) (ih : I_X4_keepNow p l e s m args below meth c A D cy b0 fu rr) {uv : MS} {oo : ((MS × Int32) ⊕ (MS × Int32)) ⊕ (MS)} (h : f_X4_keepNow_0 uv = some oo) (hm : lpo (st_X4_keepNow ) fu oo rr) {H : Heap} {locs : List Loc} {ls : Array Slot} (hP : va_P D vwCl (wM cy b0 uv []) H) (hD : va_D A (wM cy b0 uv [])) (hS : va_S A s.heap H locs) (hl : lv_has ls 2 [(0, .ref (b0 0))]) : W p l e { frames := 0, cells := 0, slots := 0, locals := 0 } s m args below meth c H locs 0 0 (MQ below (qV D (wM cy b0 rr []) A) args s 0 0 A) (F0 m 0 ls []) := by
  obtain ⟨hx, hb, hr, hml, hown, hts, hlk, hA, hK⟩ := id M
  unfold f_X4_keepNow_0 at h
  refine lv_aload_n hx hb dX4_keepNow_0 rfl (lv_at hl 0 rfl) ?_
  refine lv_aload_n hx hb dX4_keepNow_1 rfl (lv_at hl 0 rfl) ?_
  refine va_get (D := D) (ci := 4) (v := .int uv.2.2.2.2.2.2.2.2.2.2.1) (C := RX4) (T := TX4) (N := 21) hx hb hts iX4_keepNow_X4 hown hK.1 hP 0 rfl rfl 10 (by decide) (hts _ mX4_keepNow_1) (fun _ h9 => h9) rfl dX4_keepNow_2 ?_
  refine va_put (D := D) (ci := 4) (v := .int uv.2.2.2.2.2.2.2.2.2.2.1) (ty := .int) (C := RX4) (T := TX4) (N := 21) hx hb hts iX4_keepNow_X4 tyX4 tyX4_ok nmX4 hown hK.1 hP hD hS 0 rfl rfl 2 (by decide) (hts _ mX4_keepNow_2) (fun _ h9 => h9) rfl (by decide +kernel) rfl rfl (Nat.le_of_ble_eq_true rfl) dX4_keepNow_5 (fun H locs hP hD hS => ?_)
  obtain ⟨uv_1, euv_1⟩ : ∃ z : MS, z = (uv.1, uv.2.1, uv.2.2.2.2.2.2.2.2.2.2.1, uv.2.2.2) := ⟨_, rfl⟩
  replace h := nm_s h euv_1
  have hP : va_P D vwCl (wM cy b0 uv_1 []) H := by subst euv_1; exact hP
  have hD : va_D A (wM cy b0 uv_1 []) := hD.lk [(b0 0), (b0 1), (b0 2), (b0 3), (b0 4), (b0 5), (b0 6), (b0 7), (b0 8), (b0 9), (b0 10), (b0 11), (b0 12), (b0 13)] rfl rfl
  refine lv_iconst (v := 0) hx hb dX4_keepNow_8 (by decide) ?_
  refine lv_istore_n (lv' := [(1, .int (0 : Int32)), (0, .ref (b0 0))]) hx hb dX4_keepNow_9 rfl hl (by decide) rfl (fun ls hl => ?_)
  cases h
  exact ih.1 uv_1 (0 : Int32) _ _ _ hm hP hD hS (lv_sub hl [1, 0] rfl)
theorem wl_X4_keepNow {p : Program} {l : Launch} {e : Env} {s : State} {m : MethodId} {args : Array Value} {below : List Frame} {meth : Method} {c : Code} {A : Nat → Prop} {D : va_G} {cy : Nat → ClassId} {b0 : Nat → Nat} {rr : MS} (M : kM p s m args meth c cX4_keepNow 2 none RX4 wsX4_keepNow A D cy) : ∀ fu : Nat, I_X4_keepNow p l e s m args below meth c A D cy b0 fu rr := by
  intro fu
  induction fu with
  | zero => exact ⟨(fun _ _ _ _ _ h => by cases h), (fun _ _ _ _ _ h => by cases h)⟩
  | succ fu ih =>
    refine ⟨?_, ?_⟩
    · intro uv x1 H locs ls h hP hD hS hl
      obtain ⟨o1, h1, h2⟩ := lpn_s h
      exact w_X4_keepNow_10 M ih h1 h2 hP hD hS hl
    · intro uv x1 H locs ls h hP hD hS hl
      obtain ⟨o1, h1, h2⟩ := lpn_s h
      exact w_X4_keepNow_48 M ih h1 h2 hP hD hS hl
theorem c_X4_keepNow {l : Launch} {D : va_G} {cy : Nat → ClassId} (b0 : Nat → Nat) {uv : MS} {rr : MS} (h : f_X4_keepNow uv = some rr) : CV l D cy yX4_keepNow wsX4_keepNow { frames := 0, cells := 0, slots := 0, locals := 0 } [.ref (b0 0)] (wM cy b0 uv []) (wM cy b0 rr []) := by
  refine kofV (cc := cX4_keepNow) (maxL := 2) (ret := none) (by decide) rfl (Nat.le_of_ble_eq_true rfl) ?_
  intro p e s m below meth c A M ls hl hP hD hS
  obtain ⟨o1, fu, h1, h2⟩ := rnx_s h
  exact w_X4_keepNow_0 M (wl_X4_keepNow M fu) h1 h2 hP hD hS hl
theorem eX4_keepNow : yX4_keepNow.cls ≠ "java/lang/invoke/MethodHandle" ∧ yX4_keepNow.cls ≠ "java/lang/invoke/VarHandle" ∧ (parseMethodDescriptor yX4_keepNow.desc).map (fun d => d.parameters.length) = some 0 := by decide +kernel
theorem iX4_done_X4 : ∀ w ∈ u_ws RX4 TX4 21, w ∈ wsX4_done := by decide +kernel
theorem mX4_done_1 : Cond.fieldLink RX4 66 "LentPilesModel" "signs" "I" ∈ wsX4_done := by decide +kernel
theorem mX4_done_2 : Cond.fieldLink RX4 97 "LentPilesModel" "parts" "I" ∈ wsX4_done := by decide +kernel
set_option maxHeartbeats 4000000 in
set_option maxRecDepth 100000 in
theorem w_X4_done_0 {p : Program} {l : Launch} {e : Env} {s : State} {m : MethodId} {args : Array Value} {below : List Frame} {meth : Method} {c : Code} {A : Nat → Prop} {D : va_G} {cy : Nat → ClassId} {b0 : Nat → Nat} {rr : Int32 × MS} (M : kM p s m args meth c cX4_done 1 (some .int) RX4 wsX4_done A D cy) {uv : MS} (h : f_X4_done uv = some rr) {H : Heap} {locs : List Loc} {ls : Array Slot} (hP : va_P D vwCl (wM cy b0 uv []) H) (hD : va_D A (wM cy b0 uv [])) (hS : va_S A s.heap H locs) (hl : lv_has ls 1 [(0, .ref (b0 0))]) : W p l e { frames := 5, cells := 0, slots := 0, locals := 116 } s m args below meth c H locs 0 0 (MQ below (qI D (wM cy b0 rr.2 []) (rr.1) A) args s 0 0 A) (F0 m 0 ls []) := by
  obtain ⟨hx, hb, hr, hml, hown, hts, hlk, hA, hK⟩ := id M
  unfold f_X4_done at h
  refine lv_aload_n hx hb dX4_done_0 rfl (lv_at hl 0 rfl) ?_
  obtain ⟨r_1, hr_1, h⟩ := bn_s h
  refine kcVi (As := []) (rest := []) (ws' := (wM cy b0 uv [])) ⟨hx, hb, hml, hown, hts⟩ (cwV 0 hts gX4_done_X4_faultOf rfl rfl rfl ⟨rfl, eX4_faultOf⟩ ⟨Nat.le_of_ble_eq_true rfl, Nat.le_of_ble_eq_true rfl⟩) (c_X4_faultOf b0 hr_1) hK hP hD hS hA [0, 1, 2, 3, 4, 5, 6, 7, 8, 9, 10, 11, 12, 13] [] (by decide) rfl rfl 4 rfl rfl [(b0 0), (b0 1), (b0 2), (b0 3), (b0 4), (b0 5), (b0 6), (b0 7), (b0 8), (b0 9), (b0 10), (b0 11), (b0 12), (b0 13)] rfl rfl rfl [] rfl rfl rfl rfl hl.1 rfl (Nat.le_of_ble_eq_true rfl) dX4_done_1 (fun H locs hP hD hS => ?_)
  refine lv_if_lt (tgt := 10) hx hb dX4_done_4 (by decide) (fun c_2 => ?_) (fun c_2 => ?_)
  · replace h := it_p c_2 h
    refine lv_aload_n hx hb dX4_done_10 rfl (lv_at hl 0 rfl) ?_
    obtain ⟨r_3, hr_3, h⟩ := bn_s h
    refine kcVi (As := []) (rest := []) (ws' := (wM cy b0 uv [])) ⟨hx, hb, hml, hown, hts⟩ (cwV 0 hts gX4_done_X4_opens rfl rfl rfl ⟨rfl, eX4_opens⟩ ⟨Nat.le_of_ble_eq_true rfl, Nat.le_of_ble_eq_true rfl⟩) (c_X4_opens b0 hr_3) hK hP hD hS hA [0, 1, 2, 3, 4, 5, 6, 7, 8, 9, 10, 11, 12, 13] [] (by decide) rfl rfl 4 rfl rfl [(b0 0), (b0 1), (b0 2), (b0 3), (b0 4), (b0 5), (b0 6), (b0 7), (b0 8), (b0 9), (b0 10), (b0 11), (b0 12), (b0 13)] rfl rfl rfl [] rfl rfl rfl rfl hl.1 rfl (Nat.le_of_ble_eq_true rfl) dX4_done_11 (fun H locs hP hD hS => ?_)
    refine lv_if_le (tgt := 20) hx hb dX4_done_14 (by decide) (fun c_4 => ?_) (fun c_4 => ?_)
    · replace h := it_p c_4 h
      refine lv_aload_n hx hb dX4_done_20 rfl (lv_at hl 0 rfl) ?_
      refine lv_iconst (v := 0) hx hb dX4_done_21 (by decide) ?_
      obtain ⟨r_5, hr_5, h⟩ := bn_s h
      refine kcVi (As := [.int (0 : Int32)]) (rest := []) (ws' := (wM cy b0 r_5.2 [])) ⟨hx, hb, hml, hown, hts⟩ (cwV 1 hts gX4_done_X4_goText rfl rfl rfl ⟨rfl, eX4_goText⟩ ⟨Nat.le_of_ble_eq_true rfl, Nat.le_of_ble_eq_true rfl⟩) (c_X4_goText b0 hr_5) hK hP hD hS hA [0, 1, 2, 3, 4, 5, 6, 7, 8, 9, 10, 11, 12, 13] [] (by decide) rfl rfl 4 rfl rfl [(b0 0), (b0 1), (b0 2), (b0 3), (b0 4), (b0 5), (b0 6), (b0 7), (b0 8), (b0 9), (b0 10), (b0 11), (b0 12), (b0 13)] rfl rfl rfl [] rfl rfl rfl rfl hl.1 rfl (Nat.le_of_ble_eq_true rfl) dX4_done_22 (fun H locs hP hD hS => ?_)
      refine lv_if_lt (tgt := 31) hx hb dX4_done_25 (by decide) (fun c_6 => ?_) (fun c_6 => ?_)
      · replace h := it_p c_6 h
        refine lv_aload_n hx hb dX4_done_31 rfl (lv_at hl 0 rfl) ?_
        obtain ⟨r_7, hr_7, h⟩ := bn_s h
        refine kcVv (As := []) (rest := []) (ws' := (wM cy b0 r_7 [])) ⟨hx, hb, hml, hown, hts⟩ (cwV 0 hts gX4_done_X4_keepNow rfl rfl rfl ⟨rfl, eX4_keepNow⟩ ⟨Nat.le_of_ble_eq_true rfl, Nat.le_of_ble_eq_true rfl⟩) (c_X4_keepNow b0 hr_7) hK hP hD hS hA [0, 1, 2, 3, 4, 5, 6, 7, 8, 9, 10, 11, 12, 13] [] (by decide) rfl rfl 4 rfl rfl [(b0 0), (b0 1), (b0 2), (b0 3), (b0 4), (b0 5), (b0 6), (b0 7), (b0 8), (b0 9), (b0 10), (b0 11), (b0 12), (b0 13)] rfl rfl rfl [] rfl rfl rfl rfl hl.1 rfl (Nat.le_of_ble_eq_true rfl) dX4_done_32 (fun H locs hP hD hS => ?_)
        refine lv_aload_n hx hb dX4_done_35 rfl (lv_at hl 0 rfl) ?_
        refine lv_iconst (v := 0) hx hb dX4_done_36 (by decide) ?_
        refine va_put (D := D) (ci := 4) (v := .int (0 : Int32)) (ty := .int) (C := RX4) (T := TX4) (N := 21) hx hb hts iX4_done_X4 tyX4 tyX4_ok nmX4 hown hK.1 hP hD hS 0 rfl rfl 8 (by decide) (hts _ mX4_done_1) (fun _ h9 => h9) rfl (by decide +kernel) rfl rfl (Nat.le_of_ble_eq_true rfl) dX4_done_37 (fun H locs hP hD hS => ?_)
        obtain ⟨uv_8, euv_8⟩ : ∃ z : MS, z = (r_7.1, r_7.2.1, r_7.2.2.1, r_7.2.2.2.1, r_7.2.2.2.2.1, r_7.2.2.2.2.2.1, r_7.2.2.2.2.2.2.1, r_7.2.2.2.2.2.2.2.1, (0 : Int32), r_7.2.2.2.2.2.2.2.2.2) := ⟨_, rfl⟩
        replace h := nm_s h euv_8
        have hP : va_P D vwCl (wM cy b0 uv_8 []) H := by subst euv_8; exact hP
        have hD : va_D A (wM cy b0 uv_8 []) := hD.lk [(b0 0), (b0 1), (b0 2), (b0 3), (b0 4), (b0 5), (b0 6), (b0 7), (b0 8), (b0 9), (b0 10), (b0 11), (b0 12), (b0 13)] rfl rfl
        refine lv_aload_n hx hb dX4_done_40 rfl (lv_at hl 0 rfl) ?_
        refine va_get (D := D) (ci := 4) (v := .int uv_8.2.2.2.2.2.2.2.2.2.2.2.2.2.2.1) (C := RX4) (T := TX4) (N := 21) hx hb hts iX4_done_X4 hown hK.1 hP 0 rfl rfl 14 (by decide) (hts _ mX4_done_2) (fun _ h9 => h9) rfl dX4_done_41 ?_
        cases h
        exact kretI hx hb hr hlk hP hS dX4_done_44
      · replace h := it_n c_6 h
        refine lv_bipush (v := (-5)) hx hb dX4_done_28 (by decide) ?_
        cases h
        exact kretI hx hb hr hlk hP hS dX4_done_30
    · replace h := it_n c_4 h
      refine lv_bipush (v := (-3)) hx hb dX4_done_17 (by decide) ?_
      cases h
      exact kretI hx hb hr hlk hP hS dX4_done_19
  · replace h := it_n c_2 h
    refine lv_bipush (v := (-5)) hx hb dX4_done_7 (by decide) ?_
    cases h
    exact kretI hx hb hr hlk hP hS dX4_done_9
theorem c_X4_done {l : Launch} {D : va_G} {cy : Nat → ClassId} (b0 : Nat → Nat) {uv : MS} {rr : Int32 × MS} (h : f_X4_done uv = some rr) : CI l D cy yX4_done wsX4_done { frames := 5, cells := 0, slots := 0, locals := 116 } [.ref (b0 0)] (wM cy b0 uv []) (rr.1) (wM cy b0 rr.2 []) := by
  refine kofI (cc := cX4_done) (maxL := 1) (ret := (some .int)) (by decide) rfl (Nat.le_of_ble_eq_true rfl) ?_
  intro p e s m below meth c A M ls hl hP hD hS
  exact w_X4_done_0 M h hP hD hS hl
theorem eX4_done : yX4_done.cls ≠ "java/lang/invoke/MethodHandle" ∧ yX4_done.cls ≠ "java/lang/invoke/VarHandle" ∧ (parseMethodDescriptor yX4_done.desc).map (fun d => d.parameters.length) = some 0 := by decide +kernel
set_option maxHeartbeats 4000000 in
set_option maxRecDepth 100000 in
theorem w_X4_due_0 {p : Program} {l : Launch} {e : Env} {s : State} {m : MethodId} {args : Array Value} {below : List Frame} {meth : Method} {c : Code} {A : Nat → Prop} {D : va_G} {cy : Nat → ClassId} {b0 : Nat → Nat} {x1 : Int32} {rr : Int32 × MS} (M : kM p s m args meth c cX4_due 2 (some .int) RX4 wsX4_due A D cy) {uv : MS} (h : f_X4_due uv x1 = some rr) {H : Heap} {locs : List Loc} {ls : Array Slot} (hP : va_P D vwCl (wM cy b0 uv []) H) (hD : va_D A (wM cy b0 uv [])) (hS : va_S A s.heap H locs) (hl : lv_has ls 2 [(0, .ref (b0 0)), (1, .int x1)]) : W p l e { frames := 2, cells := 0, slots := 0, locals := 45 } s m args below meth c H locs 0 0 (MQ below (qI D (wM cy b0 rr.2 []) (rr.1) A) args s 0 0 A) (F0 m 0 ls []) := by
  obtain ⟨hx, hb, hr, hml, hown, hts, hlk, hA, hK⟩ := id M
  unfold f_X4_due at h
  refine lv_iload_n hx hb dX4_due_0 rfl (lv_at hl 1 rfl) ?_
  obtain ⟨r_1, hr_1, h⟩ := bn_s h
  refine kcSi (As := [.int x1]) (rest := []) ⟨hx, hb, hml, hown, hts⟩ (va_cwS 1 hts gX4_due_X4_isMan rfl rfl rfl eX4_isMan ⟨Nat.le_of_ble_eq_true rfl, Nat.le_of_ble_eq_true rfl⟩) (c_X4_isMan  hr_1) hK hP hS hA rfl hl.1 rfl (Nat.le_of_ble_eq_true rfl) dX4_due_1 (fun H locs hP hS => ?_)
  refine lv_if_ne (tgt := 9) hx hb dX4_due_4 (by decide) (fun c_2 => ?_) (fun c_2 => ?_)
  · replace h := it_n c_2 h
    refine lv_aload_n hx hb dX4_due_9 rfl (lv_at hl 0 rfl) ?_
    obtain ⟨r_3, hr_3, h⟩ := bn_s h
    refine kcVv (As := []) (rest := []) (ws' := (wM cy b0 r_3 [])) ⟨hx, hb, hml, hown, hts⟩ (cwV 0 hts gX4_due_X4_asNow rfl rfl rfl ⟨rfl, eX4_asNow⟩ ⟨Nat.le_of_ble_eq_true rfl, Nat.le_of_ble_eq_true rfl⟩) (c_X4_asNow b0 hr_3) hK hP hD hS hA [0, 1, 2, 3, 4, 5, 6, 7, 8, 9, 10, 11, 12, 13] [] (by decide) rfl rfl 4 rfl rfl [(b0 0), (b0 1), (b0 2), (b0 3), (b0 4), (b0 5), (b0 6), (b0 7), (b0 8), (b0 9), (b0 10), (b0 11), (b0 12), (b0 13)] rfl rfl rfl [] rfl rfl rfl rfl hl.1 rfl (Nat.le_of_ble_eq_true rfl) dX4_due_10 (fun H locs hP hD hS => ?_)
    refine lv_aload_n hx hb dX4_due_13 rfl (lv_at hl 0 rfl) ?_
    refine lv_iload_n hx hb dX4_due_14 rfl (lv_at hl 1 rfl) ?_
    obtain ⟨r_4, hr_4, h⟩ := bn_s h
    refine kcVi (As := [.int x1]) (rest := []) (ws' := (wM cy b0 r_3 [])) ⟨hx, hb, hml, hown, hts⟩ (cwV 1 hts gX4_due_X4_dueNow rfl rfl rfl ⟨rfl, eX4_dueNow⟩ ⟨Nat.le_of_ble_eq_true rfl, Nat.le_of_ble_eq_true rfl⟩) (c_X4_dueNow b0 hr_4) hK hP hD hS hA [0, 1, 2, 3, 4, 5, 6, 7, 8, 9, 10, 11, 12, 13] [] (by decide) rfl rfl 4 rfl rfl [(b0 0), (b0 1), (b0 2), (b0 3), (b0 4), (b0 5), (b0 6), (b0 7), (b0 8), (b0 9), (b0 10), (b0 11), (b0 12), (b0 13)] rfl rfl rfl [] rfl rfl rfl rfl hl.1 rfl (Nat.le_of_ble_eq_true rfl) dX4_due_15 (fun H locs hP hD hS => ?_)
    cases h
    exact kretI hx hb hr hlk hP hS dX4_due_18
  · replace h := it_p c_2 h
    refine lv_iconst (v := (-1)) hx hb dX4_due_7 (by decide) ?_
    cases h
    exact kretI hx hb hr hlk hP hS dX4_due_8
theorem c_X4_due {l : Launch} {D : va_G} {cy : Nat → ClassId} (b0 : Nat → Nat) {uv : MS} {x1 : Int32} {rr : Int32 × MS} (h : f_X4_due uv x1 = some rr) : CI l D cy yX4_due wsX4_due { frames := 2, cells := 0, slots := 0, locals := 45 } [.ref (b0 0), .int x1] (wM cy b0 uv []) (rr.1) (wM cy b0 rr.2 []) := by
  refine kofI (cc := cX4_due) (maxL := 2) (ret := (some .int)) (by decide) rfl (Nat.le_of_ble_eq_true rfl) ?_
  intro p e s m below meth c A M ls hl hP hD hS
  exact w_X4_due_0 M h hP hD hS hl
theorem eX4_due : yX4_due.cls ≠ "java/lang/invoke/MethodHandle" ∧ yX4_due.cls ≠ "java/lang/invoke/VarHandle" ∧ (parseMethodDescriptor yX4_due.desc).map (fun d => d.parameters.length) = some 1 := by decide +kernel
set_option maxHeartbeats 4000000 in
set_option maxRecDepth 100000 in
theorem w_X4_fault_0 {p : Program} {l : Launch} {e : Env} {s : State} {m : MethodId} {args : Array Value} {below : List Frame} {meth : Method} {c : Code} {A : Nat → Prop} {D : va_G} {cy : Nat → ClassId} {b0 : Nat → Nat} {uv : MS} {rr : Int32} (M : kM p s m args meth c cX4_fault 1 (some .int) RX4 wsX4_fault A D cy)  (h : f_X4_fault uv = some rr) {H : Heap} {locs : List Loc} {ls : Array Slot} (hP : va_P D vwCl (wM cy b0 uv []) H) (hD : va_D A (wM cy b0 uv [])) (hS : va_S A s.heap H locs) (hl : lv_has ls 1 [(0, .ref (b0 0))]) : W p l e { frames := 2, cells := 0, slots := 0, locals := 49 } s m args below meth c H locs 0 0 (MQ below (qI D (wM cy b0 uv []) (rr) A) args s 0 0 A) (F0 m 0 ls []) := by
  obtain ⟨hx, hb, hr, hml, hown, hts, hlk, hA, hK⟩ := id M
  unfold f_X4_fault at h
  refine lv_aload_n hx hb dX4_fault_0 rfl (lv_at hl 0 rfl) ?_
  obtain ⟨r_1, hr_1, h⟩ := bn_s h
  refine kcVi (As := []) (rest := []) (ws' := (wM cy b0 uv [])) ⟨hx, hb, hml, hown, hts⟩ (cwV 0 hts gX4_fault_X4_faultOf rfl rfl rfl ⟨rfl, eX4_faultOf⟩ ⟨Nat.le_of_ble_eq_true rfl, Nat.le_of_ble_eq_true rfl⟩) (c_X4_faultOf b0 hr_1) hK hP hD hS hA [0, 1, 2, 3, 4, 5, 6, 7, 8, 9, 10, 11, 12, 13] [] (by decide) rfl rfl 4 rfl rfl [(b0 0), (b0 1), (b0 2), (b0 3), (b0 4), (b0 5), (b0 6), (b0 7), (b0 8), (b0 9), (b0 10), (b0 11), (b0 12), (b0 13)] rfl rfl rfl [] rfl rfl rfl rfl hl.1 rfl (Nat.le_of_ble_eq_true rfl) dX4_fault_1 (fun H locs hP hD hS => ?_)
  cases h
  exact kretI hx hb hr hlk hP hS dX4_fault_4
theorem c_X4_fault {l : Launch} {D : va_G} {cy : Nat → ClassId} (b0 : Nat → Nat) {uv : MS} {rr : Int32} (h : f_X4_fault uv = some rr) : CI l D cy yX4_fault wsX4_fault { frames := 2, cells := 0, slots := 0, locals := 49 } [.ref (b0 0)] (wM cy b0 uv []) (rr) (wM cy b0 uv []) := by
  refine kofI (cc := cX4_fault) (maxL := 1) (ret := (some .int)) (by decide) rfl (Nat.le_of_ble_eq_true rfl) ?_
  intro p e s m below meth c A M ls hl hP hD hS
  exact w_X4_fault_0 M h hP hD hS hl
theorem eX4_fault : yX4_fault.cls ≠ "java/lang/invoke/MethodHandle" ∧ yX4_fault.cls ≠ "java/lang/invoke/VarHandle" ∧ (parseMethodDescriptor yX4_fault.desc).map (fun d => d.parameters.length) = some 0 := by decide +kernel
theorem iX4_isFit_X4 : ∀ w ∈ u_ws RX4 TX4 21, w ∈ wsX4_isFit := by decide +kernel
theorem mX4_isFit_1 : Cond.fieldLink RX4 126 "LentPilesModel" "sights" "I" ∈ wsX4_isFit := by decide +kernel
theorem mX4_isFit_2 : Cond.fieldLink RX4 25 "LentPilesModel" "nowMoney" "[I" ∈ wsX4_isFit := by decide +kernel
theorem mX4_isFit_3 : Cond.fieldLink RX4 19 "LentPilesModel" "sight" "[I" ∈ wsX4_isFit := by decide +kernel
def I_X4_isFit (p : Program) (l : Launch) (e : Env) (s : State) (m : MethodId) (args : Array Value) (below : List Frame) (meth : Method) (c : Code) (A : Nat → Prop) (D : va_G) (cy : Nat → ClassId) (b0 : Nat → Nat) (x1 : Int32) (fu : Nat) (rr : Int32 × MS) : Prop := (∀ (uv : MS) (x2 : Int32) (x3 : Int32) (H : Heap) (locs : List Loc) (ls : Array Slot), lpn (st_X4_isFit x1) fu (uv, x2, x3) = some rr → va_P D vwCl (wM cy b0 uv []) H → va_D A (wM cy b0 uv []) → va_S A s.heap H locs → lv_has ls 4 [(0, .ref (b0 0)), (1, .int x1), (2, .int x2), (3, .int x3)] → W p l e { frames := 5, cells := 0, slots := 0, locals := 116 } s m args below meth c H locs 0 0 (MQ below (qI D (wM cy b0 rr.2 []) (rr.1) A) args s 0 0 A) (F0 m 16 ls []))
set_option maxHeartbeats 4000000 in
set_option maxRecDepth 100000 in
theorem w_X4_isFit_16 {p : Program} {l : Launch} {e : Env} {s : State} {m : MethodId} {args : Array Value} {below : List Frame} {meth : Method} {c : Code} {A : Nat → Prop} {D : va_G} {cy : Nat → ClassId} {b0 : Nat → Nat} {x1 : Int32} {fu : Nat} {rr : Int32 × MS} (M : kM p s m args meth c cX4_isFit 4 (some .boolean) RX4 wsX4_isFit A D cy) (ih : I_X4_isFit p l e s m args below meth c A D cy b0 x1 fu rr) {uv : MS} {x2 : Int32} {x3 : Int32} {oo : (MS × Int32 × Int32) ⊕ (Int32 × MS)} (h : f_X4_isFit_16 x1 uv x2 x3 = some oo) (hm : lpo (st_X4_isFit x1) fu oo rr) {H : Heap} {locs : List Loc} {ls : Array Slot} (hP : va_P D vwCl (wM cy b0 uv []) H) (hD : va_D A (wM cy b0 uv [])) (hS : va_S A s.heap H locs) (hl : lv_has ls 4 [(0, .ref (b0 0)), (1, .int x1), (2, .int x2), (3, .int x3)]) : W p l e { frames := 5, cells := 0, slots := 0, locals := 116 } s m args below meth c H locs 0 0 (MQ below (qI D (wM cy b0 rr.2 []) (rr.1) A) args s 0 0 A) (F0 m 16 ls []) := by
  obtain ⟨hx, hb, hr, hml, hown, hts, hlk, hA, hK⟩ := id M
  unfold f_X4_isFit_16 at h
  refine lv_iload_n hx hb dX4_isFit_16 rfl (lv_at hl 3 rfl) ?_
  refine lv_aload_n hx hb dX4_isFit_17 rfl (lv_at hl 0 rfl) ?_
  refine va_get (D := D) (ci := 4) (v := .int uv.2.2.2.2.2.2.1) (C := RX4) (T := TX4) (N := 21) hx hb hts iX4_isFit_X4 hown hK.1 hP 0 rfl rfl 6 (by decide) (hts _ mX4_isFit_1) (fun _ h9 => h9) rfl dX4_isFit_18 ?_
  refine lv_icmp_ge (tgt := 66) hx hb dX4_isFit_21 (by decide) (fun c_1 => ?_) (fun c_1 => ?_)
  · replace h := it_p c_1 h
    refine lv_iload_n hx hb dX4_isFit_66 rfl (lv_at hl 2 rfl) ?_
    obtain ⟨hnr, h⟩ := bz_s h
    cases h
    have hm : _ = rr := hm
    subst hm
    exact kretZ (ty := .boolean) hx hb hr hlk hP hS hnr dX4_isFit_67
  · replace h := it_n c_1 h
    refine lv_iload_n hx hb dX4_isFit_24 rfl (lv_at hl 2 rfl) ?_
    refine lv_if_eq (tgt := 66) hx hb dX4_isFit_25 (by decide) (fun c_2 => ?_) (fun c_2 => ?_)
    · replace h := it_p c_2 h
      refine lv_iload_n hx hb dX4_isFit_66 rfl (lv_at hl 2 rfl) ?_
      obtain ⟨hnr, h⟩ := bz_s h
      cases h
      have hm : _ = rr := hm
      subst hm
      exact kretZ (ty := .boolean) hx hb hr hlk hP hS hnr dX4_isFit_67
    · replace h := it_n c_2 h
      refine lv_aload_n hx hb dX4_isFit_28 rfl (lv_at hl 0 rfl) ?_
      refine va_get (D := D) (ci := 4) (v := .ref (b0 6)) (C := RX4) (T := TX4) (N := 21) hx hb hts iX4_isFit_X4 hown hK.1 hP 0 rfl rfl 11 (by decide) (hts _ mX4_isFit_2) (fun _ h9 => h9) rfl dX4_isFit_29 ?_
      refine lv_aload_n hx hb dX4_isFit_32 rfl (lv_at hl 0 rfl) ?_
      refine va_get (D := D) (ci := 4) (v := .ref (b0 4)) (C := RX4) (T := TX4) (N := 21) hx hb hts iX4_isFit_X4 hown hK.1 hP 0 rfl rfl 7 (by decide) (hts _ mX4_isFit_3) (fun _ h9 => h9) rfl dX4_isFit_33 ?_
      refine lv_iconst (v := 2) hx hb dX4_isFit_36 (by decide) ?_
      refine lv_iload_n hx hb dX4_isFit_37 rfl (lv_at hl 3 rfl) ?_
      refine lv_imul hx hb dX4_isFit_38 ?_
      obtain ⟨b_3, h⟩ := ck_s h
      refine va_iald hx hb hK.1 hP 4 1 rfl rfl b_3 dX4_isFit_39 ?_
      obtain ⟨b_4, h⟩ := ck_s h
      refine va_iald hx hb hK.1 hP 6 1 rfl rfl b_4 dX4_isFit_40 ?_
      refine lv_aload_n hx hb dX4_isFit_41 rfl (lv_at hl 0 rfl) ?_
      refine va_get (D := D) (ci := 4) (v := .ref (b0 4)) (C := RX4) (T := TX4) (N := 21) hx hb hts iX4_isFit_X4 hown hK.1 hP 0 rfl rfl 7 (by decide) (hts _ mX4_isFit_3) (fun _ h9 => h9) rfl dX4_isFit_42 ?_
      refine lv_iconst (v := 2) hx hb dX4_isFit_45 (by decide) ?_
      refine lv_iload_n hx hb dX4_isFit_46 rfl (lv_at hl 3 rfl) ?_
      refine lv_imul hx hb dX4_isFit_47 ?_
      refine lv_iconst (v := 1) hx hb dX4_isFit_48 (by decide) ?_
      refine lv_iadd hx hb dX4_isFit_49 ?_
      obtain ⟨b_5, h⟩ := ck_s h
      refine va_iald hx hb hK.1 hP 4 1 rfl rfl b_5 dX4_isFit_50 ?_
      refine lv_icmp_ne (tgt := 58) hx hb dX4_isFit_51 (by decide) (fun c_6 => ?_) (fun c_6 => ?_)
      · replace h := it_n c_6 h
        refine lv_iconst (v := 0) hx hb dX4_isFit_58 (by decide) ?_
        refine lv_istore_n (lv' := [(2, .int (0 : Int32)), (0, .ref (b0 0)), (1, .int x1), (3, .int x3)]) hx hb dX4_isFit_59 rfl hl (by decide) rfl (fun ls hl => ?_)
        obtain ⟨x3_7, ex3_7⟩ : ∃ z : Int32, z = (x3 + (1 : Int32)) := ⟨_, rfl⟩
        replace h := nm_s h ex3_7
        refine lv_iinc (v := x3_7) (lv' := [(3, .int x3_7), (2, .int (0 : Int32)), (0, .ref (b0 0)), (1, .int x1)]) hx hb dX4_isFit_60 hl (k := 3) rfl (by rw [ex3_7]; rfl) (by decide) rfl (fun ls hl => ?_)
        refine lv_goto (tgt := 16) hx hb dX4_isFit_63 (by decide) ?_
        cases h
        exact ih uv (0 : Int32) x3_7 _ _ _ hm hP hD hS (lv_sub hl [2, 3, 1, 0] rfl)
      · replace h := it_p c_6 h
        refine lv_iconst (v := 1) hx hb dX4_isFit_54 (by decide) ?_
        refine lv_goto (tgt := 59) hx hb dX4_isFit_55 (by decide) ?_
        refine lv_istore_n (lv' := [(2, .int (1 : Int32)), (0, .ref (b0 0)), (1, .int x1), (3, .int x3)]) hx hb dX4_isFit_59 rfl hl (by decide) rfl (fun ls hl => ?_)
        obtain ⟨x3_8, ex3_8⟩ : ∃ z : Int32, z = (x3 + (1 : Int32)) := ⟨_, rfl⟩
        replace h := nm_s h ex3_8
        refine lv_iinc (v := x3_8) (lv' := [(3, .int x3_8), (2, .int (1 : Int32)), (0, .ref (b0 0)), (1, .int x1)]) hx hb dX4_isFit_60 hl (k := 3) rfl (by rw [ex3_8]; rfl) (by decide) rfl (fun ls hl => ?_)
        refine lv_goto (tgt := 16) hx hb dX4_isFit_63 (by decide) ?_
        cases h
        exact ih uv (1 : Int32) x3_8 _ _ _ hm hP hD hS (lv_sub hl [2, 3, 1, 0] rfl)
set_option maxHeartbeats 4000000 in
set_option maxRecDepth 100000 in
theorem w_X4_isFit_0 {p : Program} {l : Launch} {e : Env} {s : State} {m : MethodId} {args : Array Value} {below : List Frame} {meth : Method} {c : Code} {A : Nat → Prop} {D : va_G} {cy : Nat → ClassId} {b0 : Nat → Nat} {x1 : Int32} {fu : Nat} {rr : Int32 × MS} (M : kM p s m args meth c cX4_isFit 4 (some .boolean) RX4 wsX4_isFit A D cy) (ih : I_X4_isFit p l e s m args below meth c A D cy b0 x1 fu rr) {uv : MS} {oo : (MS × Int32 × Int32) ⊕ (Int32 × MS)} (h : f_X4_isFit_0 uv x1 = some oo) (hm : lpo (st_X4_isFit x1) fu oo rr) {H : Heap} {locs : List Loc} {ls : Array Slot} (hP : va_P D vwCl (wM cy b0 uv []) H) (hD : va_D A (wM cy b0 uv [])) (hS : va_S A s.heap H locs) (hl : lv_has ls 4 [(0, .ref (b0 0)), (1, .int x1)]) : W p l e { frames := 5, cells := 0, slots := 0, locals := 116 } s m args below meth c H locs 0 0 (MQ below (qI D (wM cy b0 rr.2 []) (rr.1) A) args s 0 0 A) (F0 m 0 ls []) := by
  obtain ⟨hx, hb, hr, hml, hown, hts, hlk, hA, hK⟩ := id M
  unfold f_X4_isFit_0 at h
  refine lv_aload_n hx hb dX4_isFit_0 rfl (lv_at hl 0 rfl) ?_
  refine lv_iload_n hx hb dX4_isFit_1 rfl (lv_at hl 1 rfl) ?_
  obtain ⟨r_1, hr_1, h⟩ := bn_s h
  refine kcVi (As := [.int x1]) (rest := []) (ws' := (wM cy b0 r_1.2 [])) ⟨hx, hb, hml, hown, hts⟩ (cwV 1 hts gX4_isFit_X4_goText rfl rfl rfl ⟨rfl, eX4_goText⟩ ⟨Nat.le_of_ble_eq_true rfl, Nat.le_of_ble_eq_true rfl⟩) (c_X4_goText b0 hr_1) hK hP hD hS hA [0, 1, 2, 3, 4, 5, 6, 7, 8, 9, 10, 11, 12, 13] [] (by decide) rfl rfl 4 rfl rfl [(b0 0), (b0 1), (b0 2), (b0 3), (b0 4), (b0 5), (b0 6), (b0 7), (b0 8), (b0 9), (b0 10), (b0 11), (b0 12), (b0 13)] rfl rfl rfl [] rfl rfl rfl rfl hl.1 rfl (Nat.le_of_ble_eq_true rfl) dX4_isFit_2 (fun H locs hP hD hS => ?_)
  refine lv_if_ge (tgt := 12) hx hb dX4_isFit_5 (by decide) (fun c_2 => ?_) (fun c_2 => ?_)
  · replace h := it_p c_2 h
    refine lv_iconst (v := 0) hx hb dX4_isFit_12 (by decide) ?_
    refine lv_istore_n (lv' := [(2, .int (0 : Int32)), (0, .ref (b0 0)), (1, .int x1)]) hx hb dX4_isFit_13 rfl hl (by decide) rfl (fun ls hl => ?_)
    refine lv_iconst (v := 0) hx hb dX4_isFit_14 (by decide) ?_
    refine lv_istore_n (lv' := [(3, .int (0 : Int32)), (2, .int (0 : Int32)), (0, .ref (b0 0)), (1, .int x1)]) hx hb dX4_isFit_15 rfl hl (by decide) rfl (fun ls hl => ?_)
    cases h
    exact ih r_1.2 (0 : Int32) (0 : Int32) _ _ _ hm hP hD hS (lv_sub hl [2, 3, 1, 0] rfl)
  · replace h := it_n c_2 h
    refine lv_iconst (v := 1) hx hb dX4_isFit_8 (by decide) ?_
    refine lv_goto (tgt := 13) hx hb dX4_isFit_9 (by decide) ?_
    refine lv_istore_n (lv' := [(2, .int (1 : Int32)), (0, .ref (b0 0)), (1, .int x1)]) hx hb dX4_isFit_13 rfl hl (by decide) rfl (fun ls hl => ?_)
    refine lv_iconst (v := 0) hx hb dX4_isFit_14 (by decide) ?_
    refine lv_istore_n (lv' := [(3, .int (0 : Int32)), (2, .int (1 : Int32)), (0, .ref (b0 0)), (1, .int x1)]) hx hb dX4_isFit_15 rfl hl (by decide) rfl (fun ls hl => ?_)
    cases h
    exact ih r_1.2 (1 : Int32) (0 : Int32) _ _ _ hm hP hD hS (lv_sub hl [2, 3, 1, 0] rfl)
theorem wl_X4_isFit {p : Program} {l : Launch} {e : Env} {s : State} {m : MethodId} {args : Array Value} {below : List Frame} {meth : Method} {c : Code} {A : Nat → Prop} {D : va_G} {cy : Nat → ClassId} {b0 : Nat → Nat} {x1 : Int32} {rr : Int32 × MS} (M : kM p s m args meth c cX4_isFit 4 (some .boolean) RX4 wsX4_isFit A D cy) : ∀ fu : Nat, I_X4_isFit p l e s m args below meth c A D cy b0 x1 fu rr := by
  intro fu
  induction fu with
  | zero => exact (fun _ _ _ _ _ _ h => by cases h)
  | succ fu ih =>
    exact fun uv x2 x3 H locs ls h hP hD hS hl => by
      obtain ⟨o1, h1, h2⟩ := lpn_s h
      exact w_X4_isFit_16 M ih h1 h2 hP hD hS hl
theorem c_X4_isFit {l : Launch} {D : va_G} {cy : Nat → ClassId} (b0 : Nat → Nat) {uv : MS} {x1 : Int32} {rr : Int32 × MS} (h : f_X4_isFit uv x1 = some rr) : CI l D cy yX4_isFit wsX4_isFit { frames := 5, cells := 0, slots := 0, locals := 116 } [.ref (b0 0), .int x1] (wM cy b0 uv []) (rr.1) (wM cy b0 rr.2 []) := by
  refine kofI (cc := cX4_isFit) (maxL := 4) (ret := (some .boolean)) (by decide) rfl (Nat.le_of_ble_eq_true rfl) ?_
  intro p e s m below meth c A M ls hl hP hD hS
  obtain ⟨o1, fu, h1, h2⟩ := rnx_s h
  exact w_X4_isFit_0 M (wl_X4_isFit M fu) h1 h2 hP hD hS hl
theorem eX4_isFit : yX4_isFit.cls ≠ "java/lang/invoke/MethodHandle" ∧ yX4_isFit.cls ≠ "java/lang/invoke/VarHandle" ∧ (parseMethodDescriptor yX4_isFit.desc).map (fun d => d.parameters.length) = some 1 := by decide +kernel
def I_X4_filled (p : Program) (l : Launch) (e : Env) (s : State) (m : MethodId) (args : Array Value) (below : List Frame) (meth : Method) (c : Code) (A : Nat → Prop) (D : va_G) (cy : Nat → ClassId) (b0 : Nat → Nat) (x1 : Int32) (fu : Nat) (rr : Int32 × MS) : Prop := (∀ (uv : MS) (x2 : Int32) (x3 : Int32) (H : Heap) (locs : List Loc) (ls : Array Slot), lpn (st_X4_filled x1) fu (.inl (uv, x2, x3)) = some rr → va_P D vwCl (wM cy b0 uv []) H → va_D A (wM cy b0 uv []) → va_S A s.heap H locs → lv_has ls 7 [(0, .ref (b0 0)), (1, .int x1), (2, .int x2), (3, .int x3)] → W p l e { frames := 6, cells := 0, slots := 0, locals := 139 } s m args below meth c H locs 0 0 (MQ below (qI D (wM cy b0 rr.2 []) (rr.1) A) args s 0 0 A) (F0 m 14 ls [])) ∧ (∀ (uv : MS) (x2 : Int32) (x3 : Int32) (x4 : Int32) (x5 : Int32) (H : Heap) (locs : List Loc) (ls : Array Slot), lpn (st_X4_filled x1) fu (.inr (.inl (uv, x2, x3, x4, x5))) = some rr → va_P D vwCl (wM cy b0 uv []) H → va_D A (wM cy b0 uv []) → va_S A s.heap H locs → lv_has ls 7 [(0, .ref (b0 0)), (1, .int x1), (2, .int x2), (3, .int x3), (4, .int x4), (5, .int x5)] → W p l e { frames := 6, cells := 0, slots := 0, locals := 139 } s m args below meth c H locs 0 0 (MQ below (qI D (wM cy b0 rr.2 []) (rr.1) A) args s 0 0 A) (F0 m 42 ls [])) ∧ (∀ (uv : MS) (x5 : Int32) (x6 : Int32) (H : Heap) (locs : List Loc) (ls : Array Slot), lpn (st_X4_filled x1) fu (.inr (.inr (uv, x5, x6))) = some rr → va_P D vwCl (wM cy b0 uv []) H → va_D A (wM cy b0 uv []) → va_S A s.heap H locs → lv_has ls 7 [(0, .ref (b0 0)), (1, .int x1), (5, .int x5), (6, .int x6)] → W p l e { frames := 6, cells := 0, slots := 0, locals := 139 } s m args below meth c H locs 0 0 (MQ below (qI D (wM cy b0 rr.2 []) (rr.1) A) args s 0 0 A) (F0 m 121 ls []))
set_option maxHeartbeats 4000000 in
set_option maxRecDepth 100000 in
theorem w_X4_filled_121 {p : Program} {l : Launch} {e : Env} {s : State} {m : MethodId} {args : Array Value} {below : List Frame} {meth : Method} {c : Code} {A : Nat → Prop} {D : va_G} {cy : Nat → ClassId} {b0 : Nat → Nat} {x1 : Int32} {fu : Nat} {rr : Int32 × MS} (M : kM p s m args meth c cX4_filled 7 (some .int) RX4 wsX4_filled A D cy) (ih : I_X4_filled p l e s m args below meth c A D cy b0 x1 fu rr) {uv : MS} {x5 : Int32} {x6 : Int32} {oo : ((MS × Int32 × Int32) ⊕ (MS × Int32 × Int32 × Int32 × Int32) ⊕ (MS × Int32 × Int32)) ⊕ (Int32 × MS)} (h : f_X4_filled_121 x1 uv x5 x6 = some oo) (hm : lpo (st_X4_filled x1) fu oo rr) {H : Heap} {locs : List Loc} {ls : Array Slot} (hP : va_P D vwCl (wM cy b0 uv []) H) (hD : va_D A (wM cy b0 uv [])) (hS : va_S A s.heap H locs) (hl : lv_has ls 7 [(0, .ref (b0 0)), (1, .int x1), (5, .int x5), (6, .int x6)]) : W p l e { frames := 6, cells := 0, slots := 0, locals := 139 } s m args below meth c H locs 0 0 (MQ below (qI D (wM cy b0 rr.2 []) (rr.1) A) args s 0 0 A) (F0 m 121 ls []) := by
  obtain ⟨hx, hb, hr, hml, hown, hts, hlk, hA, hK⟩ := id M
  unfold f_X4_filled_121 at h
  refine lv_iload hx hb dX4_filled_121 (lv_at hl 3 rfl) ?_
  refine lv_iload_n hx hb dX4_filled_123 rfl (lv_at hl 1 rfl) ?_
  refine lv_icmp_le (tgt := 140) hx hb dX4_filled_124 (by decide) (fun c_1 => ?_) (fun c_1 => ?_)
  · replace h := it_p c_1 h
    refine lv_iload hx hb dX4_filled_140 (lv_at hl 2 rfl) ?_
    refine lv_bipush (v := 6) hx hb dX4_filled_142 (by decide) ?_
    refine lv_irem hx hb dX4_filled_144 (by decide) ?_
    cases h
    have hm : _ = rr := hm
    subst hm
    exact kretI hx hb hr hlk hP hS dX4_filled_145
  · replace h := it_n c_1 h
    refine lv_iload hx hb dX4_filled_127 (lv_at hl 2 rfl) ?_
    refine lv_bipush (v := 6) hx hb dX4_filled_129 (by decide) ?_
    refine lv_idiv hx hb dX4_filled_131 (by decide) ?_
    refine lv_topi (fun x5_2 ex5_2 => ?_)
    replace h := nm_s h ex5_2
    refine lv_istore (lv' := [(5, .int x5_2), (0, .ref (b0 0)), (1, .int x1), (6, .int x6)]) hx hb dX4_filled_132 hl (by decide) rfl (fun ls hl => ?_)
    obtain ⟨x6_3, ex6_3⟩ : ∃ z : Int32, z = (x6 + (-1 : Int32)) := ⟨_, rfl⟩
    replace h := nm_s h ex6_3
    refine lv_iinc (v := x6_3) (lv' := [(6, .int x6_3), (5, .int x5_2), (0, .ref (b0 0)), (1, .int x1)]) hx hb dX4_filled_134 hl (k := 3) rfl (by rw [ex6_3]; rfl) (by decide) rfl (fun ls hl => ?_)
    refine lv_goto (tgt := 121) hx hb dX4_filled_137 (by decide) ?_
    cases h
    exact ih.2.2 uv x5_2 x6_3 _ _ _ hm hP hD hS (lv_sub hl [2, 3, 1, 0] rfl)
set_option maxHeartbeats 4000000 in
set_option maxRecDepth 100000 in
theorem w_X4_filled_42 {p : Program} {l : Launch} {e : Env} {s : State} {m : MethodId} {args : Array Value} {below : List Frame} {meth : Method} {c : Code} {A : Nat → Prop} {D : va_G} {cy : Nat → ClassId} {b0 : Nat → Nat} {x1 : Int32} {fu : Nat} {rr : Int32 × MS} (M : kM p s m args meth c cX4_filled 7 (some .int) RX4 wsX4_filled A D cy) (ih : I_X4_filled p l e s m args below meth c A D cy b0 x1 fu rr) {uv : MS} {x2 : Int32} {x3 : Int32} {x4 : Int32} {x5 : Int32} {oo : ((MS × Int32 × Int32) ⊕ (MS × Int32 × Int32 × Int32 × Int32) ⊕ (MS × Int32 × Int32)) ⊕ (Int32 × MS)} (h : f_X4_filled_42 x1 uv x2 x3 x4 x5 = some oo) (hm : lpo (st_X4_filled x1) fu oo rr) {H : Heap} {locs : List Loc} {ls : Array Slot} (hP : va_P D vwCl (wM cy b0 uv []) H) (hD : va_D A (wM cy b0 uv [])) (hS : va_S A s.heap H locs) (hl : lv_has ls 7 [(0, .ref (b0 0)), (1, .int x1), (2, .int x2), (3, .int x3), (4, .int x4), (5, .int x5)]) : W p l e { frames := 6, cells := 0, slots := 0, locals := 139 } s m args below meth c H locs 0 0 (MQ below (qI D (wM cy b0 rr.2 []) (rr.1) A) args s 0 0 A) (F0 m 42 ls []) := by
  obtain ⟨hx, hb, hr, hml, hown, hts, hlk, hA, hK⟩ := id M
  unfold f_X4_filled_42 at h
  refine lv_iload hx hb dX4_filled_42 (lv_at hl 5 rfl) ?_
  refine lv_iload_n hx hb dX4_filled_44 rfl (lv_at hl 2 rfl) ?_
  refine lv_icmp_ge (tgt := 80) hx hb dX4_filled_45 (by decide) (fun c_1 => ?_) (fun c_1 => ?_)
  · replace h := it_p c_1 h
    refine lv_iload_n hx hb dX4_filled_80 rfl (lv_at hl 1 rfl) ?_
    refine lv_iconst (v := (-1)) hx hb dX4_filled_81 (by decide) ?_
    refine lv_icmp_ne (tgt := 87) hx hb dX4_filled_82 (by decide) (fun c_2 => ?_) (fun c_2 => ?_)
    · replace h := it_n c_2 h
      refine lv_iload hx hb dX4_filled_87 (lv_at hl 4 rfl) ?_
      refine lv_if_lt (tgt := 106) hx hb dX4_filled_89 (by decide) (fun c_3 => ?_) (fun c_3 => ?_)
      · replace h := it_p c_3 h
        refine lv_bipush (v := (-6)) hx hb dX4_filled_106 (by decide) ?_
        cases h
        have hm : _ = rr := hm
        subst hm
        exact kretI hx hb hr hlk hP hS dX4_filled_108
      · replace h := it_n c_3 h
        refine lv_iload_n hx hb dX4_filled_92 rfl (lv_at hl 1 rfl) ?_
        refine lv_iconst (v := 0) hx hb dX4_filled_93 (by decide) ?_
        refine lv_aload_n hx hb dX4_filled_94 rfl (lv_at hl 0 rfl) ?_
        obtain ⟨r_4, hr_4, h⟩ := bn_s h
        refine kcVi (As := []) (rest := [.int (0 : Int32), .int x1]) (ws' := (wM cy b0 uv [])) ⟨hx, hb, hml, hown, hts⟩ (cwV 0 hts gX4_filled_X4_opens rfl rfl rfl ⟨rfl, eX4_opens⟩ ⟨Nat.le_of_ble_eq_true rfl, Nat.le_of_ble_eq_true rfl⟩) (c_X4_opens b0 hr_4) hK hP hD hS hA [0, 1, 2, 3, 4, 5, 6, 7, 8, 9, 10, 11, 12, 13] [] (by decide) rfl rfl 4 rfl rfl [(b0 0), (b0 1), (b0 2), (b0 3), (b0 4), (b0 5), (b0 6), (b0 7), (b0 8), (b0 9), (b0 10), (b0 11), (b0 12), (b0 13)] rfl rfl rfl [] rfl rfl rfl rfl hl.1 rfl (Nat.le_of_ble_eq_true rfl) dX4_filled_95 (fun H locs hP hD hS => ?_)
        refine lv_iconst (v := 1) hx hb dX4_filled_98 (by decide) ?_
        refine lv_isub hx hb dX4_filled_99 ?_
        obtain ⟨r_5, hr_5, h⟩ := bn_s h
        refine kcSi (As := [.int x1, .int (0 : Int32), .int (r_4 - (1 : Int32))]) (rest := []) ⟨hx, hb, hml, hown, hts⟩ (va_cwS 3 hts gX4_filled_X4_in rfl rfl rfl eX4_in ⟨Nat.le_of_ble_eq_true rfl, Nat.le_of_ble_eq_true rfl⟩) (c_X4_in  hr_5) hK hP hS hA rfl hl.1 rfl (Nat.le_of_ble_eq_true rfl) dX4_filled_100 (fun H locs hP hS => ?_)
        refine lv_if_ne (tgt := 109) hx hb dX4_filled_103 (by decide) (fun c_6 => ?_) (fun c_6 => ?_)
        · replace h := it_n c_6 h
          refine lv_iload hx hb dX4_filled_109 (lv_at hl 4 rfl) ?_
          refine lv_istore (lv' := [(5, .int x4), (0, .ref (b0 0)), (1, .int x1), (2, .int x2), (3, .int x3), (4, .int x4)]) hx hb dX4_filled_111 hl (by decide) rfl (fun ls hl => ?_)
          refine lv_aload_n hx hb dX4_filled_113 rfl (lv_at hl 1 rfl) ?_
          obtain ⟨r_7, hr_7, h⟩ := bn_s h
          refine kcVi (As := []) (rest := []) (ws' := (wM cy b0 uv [])) ⟨hx, hb, hml, hown, hts⟩ (cwV 0 hts gX4_filled_X4_opens rfl rfl rfl ⟨rfl, eX4_opens⟩ ⟨Nat.le_of_ble_eq_true rfl, Nat.le_of_ble_eq_true rfl⟩) (c_X4_opens b0 hr_7) hK hP hD hS hA [0, 1, 2, 3, 4, 5, 6, 7, 8, 9, 10, 11, 12, 13] [] (by decide) rfl rfl 4 rfl rfl [(b0 0), (b0 1), (b0 2), (b0 3), (b0 4), (b0 5), (b0 6), (b0 7), (b0 8), (b0 9), (b0 10), (b0 11), (b0 12), (b0 13)] rfl rfl rfl [] rfl rfl rfl rfl hl.1 rfl (Nat.le_of_ble_eq_true rfl) dX4_filled_114 (fun H locs hP hD hS => ?_)
          refine lv_iconst (v := 1) hx hb dX4_filled_117 (by decide) ?_
          refine lv_isub hx hb dX4_filled_118 ?_
          refine lv_topi (fun x6_8 ex6_8 => ?_)
          replace h := nm_s h ex6_8
          refine lv_istore (lv' := [(6, .int x6_8), (5, .int x4), (0, .ref (b0 0)), (1, .int x1), (2, .int x2), (3, .int x3), (4, .int x4)]) hx hb dX4_filled_119 hl (by decide) rfl (fun ls hl => ?_)
          cases h
          exact ih.2.2 uv x4 x6_8 _ _ _ hm hP hD hS (lv_sub hl [2, 3, 1, 0] rfl)
        · replace h := it_p c_6 h
          refine lv_bipush (v := (-6)) hx hb dX4_filled_106 (by decide) ?_
          cases h
          have hm : _ = rr := hm
          subst hm
          exact kretI hx hb hr hlk hP hS dX4_filled_108
    · replace h := it_p c_2 h
      refine lv_iload_n hx hb dX4_filled_85 rfl (lv_at hl 3 rfl) ?_
      cases h
      have hm : _ = rr := hm
      subst hm
      exact kretI hx hb hr hlk hP hS dX4_filled_86
  · replace h := it_n c_1 h
    refine lv_aload_n hx hb dX4_filled_48 rfl (lv_at hl 0 rfl) ?_
    refine lv_iload hx hb dX4_filled_49 (lv_at hl 5 rfl) ?_
    obtain ⟨r_9, hr_9, h⟩ := bn_s h
    refine kcVi (As := [.int x5]) (rest := []) (ws' := (wM cy b0 r_9.2 [])) ⟨hx, hb, hml, hown, hts⟩ (cwV 1 hts gX4_filled_X4_isFit rfl rfl rfl ⟨rfl, eX4_isFit⟩ ⟨Nat.le_of_ble_eq_true rfl, Nat.le_of_ble_eq_true rfl⟩) (c_X4_isFit b0 hr_9) hK hP hD hS hA [0, 1, 2, 3, 4, 5, 6, 7, 8, 9, 10, 11, 12, 13] [] (by decide) rfl rfl 4 rfl rfl [(b0 0), (b0 1), (b0 2), (b0 3), (b0 4), (b0 5), (b0 6), (b0 7), (b0 8), (b0 9), (b0 10), (b0 11), (b0 12), (b0 13)] rfl rfl rfl [] rfl rfl rfl rfl hl.1 rfl (Nat.le_of_ble_eq_true rfl) dX4_filled_51 (fun H locs hP hD hS => ?_)
    refine lv_if_eq (tgt := 74) hx hb dX4_filled_54 (by decide) (fun c_10 => ?_) (fun c_10 => ?_)
    · replace h := it_p c_10 h
      obtain ⟨x5_11, ex5_11⟩ : ∃ z : Int32, z = (x5 + (1 : Int32)) := ⟨_, rfl⟩
      replace h := nm_s h ex5_11
      refine lv_iinc (v := x5_11) (lv' := [(5, .int x5_11), (0, .ref (b0 0)), (1, .int x1), (2, .int x2), (3, .int x3), (4, .int x4)]) hx hb dX4_filled_74 hl (k := 5) rfl (by rw [ex5_11]; rfl) (by decide) rfl (fun ls hl => ?_)
      refine lv_goto (tgt := 42) hx hb dX4_filled_77 (by decide) ?_
      cases h
      exact ih.2.1 r_9.2 x2 x3 x4 x5_11 _ _ _ hm hP hD hS (lv_sub hl [1, 2, 3, 4, 5, 0] rfl)
    · replace h := it_n c_10 h
      refine lv_iload hx hb dX4_filled_57 (lv_at hl 4 rfl) ?_
      refine lv_if_ge (tgt := 67) hx hb dX4_filled_59 (by decide) (fun c_12 => ?_) (fun c_12 => ?_)
      · replace h := it_p c_12 h
        refine lv_iload hx hb dX4_filled_67 (lv_at hl 4 rfl) ?_
        refine lv_istore (lv' := [(4, .int x4), (0, .ref (b0 0)), (1, .int x1), (2, .int x2), (3, .int x3), (5, .int x5)]) hx hb dX4_filled_69 hl (by decide) rfl (fun ls hl => ?_)
        obtain ⟨x3_13, ex3_13⟩ : ∃ z : Int32, z = (x3 + (1 : Int32)) := ⟨_, rfl⟩
        replace h := nm_s h ex3_13
        refine lv_iinc (v := x3_13) (lv' := [(3, .int x3_13), (4, .int x4), (0, .ref (b0 0)), (1, .int x1), (2, .int x2), (5, .int x5)]) hx hb dX4_filled_71 hl (k := 4) rfl (by rw [ex3_13]; rfl) (by decide) rfl (fun ls hl => ?_)
        obtain ⟨x5_14, ex5_14⟩ : ∃ z : Int32, z = (x5 + (1 : Int32)) := ⟨_, rfl⟩
        replace h := nm_s h ex5_14
        refine lv_iinc (v := x5_14) (lv' := [(5, .int x5_14), (3, .int x3_13), (4, .int x4), (0, .ref (b0 0)), (1, .int x1), (2, .int x2)]) hx hb dX4_filled_74 hl (k := 5) rfl (by rw [ex5_14]; rfl) (by decide) rfl (fun ls hl => ?_)
        refine lv_goto (tgt := 42) hx hb dX4_filled_77 (by decide) ?_
        cases h
        exact ih.2.1 r_9.2 x2 x3_13 x4 x5_14 _ _ _ hm hP hD hS (lv_sub hl [3, 4, 5, 1, 2, 0] rfl)
      · replace h := it_n c_12 h
        refine lv_iload hx hb dX4_filled_62 (lv_at hl 5 rfl) ?_
        refine lv_goto (tgt := 69) hx hb dX4_filled_64 (by decide) ?_
        refine lv_istore (lv' := [(4, .int x5), (0, .ref (b0 0)), (1, .int x1), (2, .int x2), (3, .int x3), (5, .int x5)]) hx hb dX4_filled_69 hl (by decide) rfl (fun ls hl => ?_)
        obtain ⟨x3_15, ex3_15⟩ : ∃ z : Int32, z = (x3 + (1 : Int32)) := ⟨_, rfl⟩
        replace h := nm_s h ex3_15
        refine lv_iinc (v := x3_15) (lv' := [(3, .int x3_15), (4, .int x5), (0, .ref (b0 0)), (1, .int x1), (2, .int x2), (5, .int x5)]) hx hb dX4_filled_71 hl (k := 4) rfl (by rw [ex3_15]; rfl) (by decide) rfl (fun ls hl => ?_)
        obtain ⟨x5_16, ex5_16⟩ : ∃ z : Int32, z = (x5 + (1 : Int32)) := ⟨_, rfl⟩
        replace h := nm_s h ex5_16
        refine lv_iinc (v := x5_16) (lv' := [(5, .int x5_16), (3, .int x3_15), (4, .int x5), (0, .ref (b0 0)), (1, .int x1), (2, .int x2)]) hx hb dX4_filled_74 hl (k := 5) rfl (by rw [ex5_16]; rfl) (by decide) rfl (fun ls hl => ?_)
        refine lv_goto (tgt := 42) hx hb dX4_filled_77 (by decide) ?_
        cases h
        exact ih.2.1 r_9.2 x2 x3_15 x5 x5_16 _ _ _ hm hP hD hS (lv_sub hl [3, 4, 5, 1, 2, 0] rfl)
set_option maxHeartbeats 4000000 in
set_option maxRecDepth 100000 in
theorem w_X4_filled_14 {p : Program} {l : Launch} {e : Env} {s : State} {m : MethodId} {args : Array Value} {below : List Frame} {meth : Method} {c : Code} {A : Nat → Prop} {D : va_G} {cy : Nat → ClassId} {b0 : Nat → Nat} {x1 : Int32} {fu : Nat} {rr : Int32 × MS} (M : kM p s m args meth c cX4_filled 7 (some .int) RX4 wsX4_filled A D cy) (ih : I_X4_filled p l e s m args below meth c A D cy b0 x1 fu rr) {uv : MS} {x2 : Int32} {x3 : Int32} {oo : ((MS × Int32 × Int32) ⊕ (MS × Int32 × Int32 × Int32 × Int32) ⊕ (MS × Int32 × Int32)) ⊕ (Int32 × MS)} (h : f_X4_filled_14 x1 uv x2 x3 = some oo) (hm : lpo (st_X4_filled x1) fu oo rr) {H : Heap} {locs : List Loc} {ls : Array Slot} (hP : va_P D vwCl (wM cy b0 uv []) H) (hD : va_D A (wM cy b0 uv [])) (hS : va_S A s.heap H locs) (hl : lv_has ls 7 [(0, .ref (b0 0)), (1, .int x1), (2, .int x2), (3, .int x3)]) : W p l e { frames := 6, cells := 0, slots := 0, locals := 139 } s m args below meth c H locs 0 0 (MQ below (qI D (wM cy b0 rr.2 []) (rr.1) A) args s 0 0 A) (F0 m 14 ls []) := by
  obtain ⟨hx, hb, hr, hml, hown, hts, hlk, hA, hK⟩ := id M
  unfold f_X4_filled_14 at h
  refine lv_iload_n hx hb dX4_filled_14 rfl (lv_at hl 3 rfl) ?_
  refine lv_aload_n hx hb dX4_filled_15 rfl (lv_at hl 0 rfl) ?_
  obtain ⟨r_1, hr_1, h⟩ := bn_s h
  refine kcVi (As := []) (rest := [.int x3]) (ws' := (wM cy b0 uv [])) ⟨hx, hb, hml, hown, hts⟩ (cwV 0 hts gX4_filled_X4_opens rfl rfl rfl ⟨rfl, eX4_opens⟩ ⟨Nat.le_of_ble_eq_true rfl, Nat.le_of_ble_eq_true rfl⟩) (c_X4_opens b0 hr_1) hK hP hD hS hA [0, 1, 2, 3, 4, 5, 6, 7, 8, 9, 10, 11, 12, 13] [] (by decide) rfl rfl 4 rfl rfl [(b0 0), (b0 1), (b0 2), (b0 3), (b0 4), (b0 5), (b0 6), (b0 7), (b0 8), (b0 9), (b0 10), (b0 11), (b0 12), (b0 13)] rfl rfl rfl [] rfl rfl rfl rfl hl.1 rfl (Nat.le_of_ble_eq_true rfl) dX4_filled_16 (fun H locs hP hD hS => ?_)
  refine lv_icmp_ge (tgt := 33) hx hb dX4_filled_19 (by decide) (fun c_2 => ?_) (fun c_2 => ?_)
  · replace h := it_p c_2 h
    refine lv_iconst (v := 0) hx hb dX4_filled_33 (by decide) ?_
    refine lv_istore_n (lv' := [(3, .int (0 : Int32)), (0, .ref (b0 0)), (1, .int x1), (2, .int x2)]) hx hb dX4_filled_34 rfl hl (by decide) rfl (fun ls hl => ?_)
    refine lv_bipush (v := (-6)) hx hb dX4_filled_35 (by decide) ?_
    refine lv_istore (lv' := [(4, .int (-6 : Int32)), (3, .int (0 : Int32)), (0, .ref (b0 0)), (1, .int x1), (2, .int x2)]) hx hb dX4_filled_37 hl (by decide) rfl (fun ls hl => ?_)
    refine lv_iconst (v := 0) hx hb dX4_filled_39 (by decide) ?_
    refine lv_istore (lv' := [(5, .int (0 : Int32)), (4, .int (-6 : Int32)), (3, .int (0 : Int32)), (0, .ref (b0 0)), (1, .int x1), (2, .int x2)]) hx hb dX4_filled_40 hl (by decide) rfl (fun ls hl => ?_)
    cases h
    exact ih.2.1 uv x2 (0 : Int32) (-6 : Int32) (0 : Int32) _ _ _ hm hP hD hS (lv_sub hl [3, 4, 5, 2, 1, 0] rfl)
  · replace h := it_n c_2 h
    refine lv_iload_n hx hb dX4_filled_22 rfl (lv_at hl 2 rfl) ?_
    refine lv_bipush (v := 6) hx hb dX4_filled_23 (by decide) ?_
    refine lv_imul hx hb dX4_filled_25 ?_
    refine lv_topi (fun x2_3 ex2_3 => ?_)
    replace h := nm_s h ex2_3
    refine lv_istore_n (lv' := [(2, .int x2_3), (0, .ref (b0 0)), (1, .int x1), (3, .int x3)]) hx hb dX4_filled_26 rfl hl (by decide) rfl (fun ls hl => ?_)
    obtain ⟨x3_4, ex3_4⟩ : ∃ z : Int32, z = (x3 + (1 : Int32)) := ⟨_, rfl⟩
    replace h := nm_s h ex3_4
    refine lv_iinc (v := x3_4) (lv' := [(3, .int x3_4), (2, .int x2_3), (0, .ref (b0 0)), (1, .int x1)]) hx hb dX4_filled_27 hl (k := 3) rfl (by rw [ex3_4]; rfl) (by decide) rfl (fun ls hl => ?_)
    refine lv_goto (tgt := 14) hx hb dX4_filled_30 (by decide) ?_
    cases h
    exact ih.1 uv x2_3 x3_4 _ _ _ hm hP hD hS (lv_sub hl [2, 3, 1, 0] rfl)
set_option maxHeartbeats 4000000 in
set_option maxRecDepth 100000 in
theorem w_X4_filled_0 {p : Program} {l : Launch} {e : Env} {s : State} {m : MethodId} {args : Array Value} {below : List Frame} {meth : Method} {c : Code} {A : Nat → Prop} {D : va_G} {cy : Nat → ClassId} {b0 : Nat → Nat} {x1 : Int32} {fu : Nat} {rr : Int32 × MS} (M : kM p s m args meth c cX4_filled 7 (some .int) RX4 wsX4_filled A D cy) (ih : I_X4_filled p l e s m args below meth c A D cy b0 x1 fu rr) {uv : MS} {oo : ((MS × Int32 × Int32) ⊕ (MS × Int32 × Int32 × Int32 × Int32) ⊕ (MS × Int32 × Int32)) ⊕ (Int32 × MS)} (h : f_X4_filled_0 uv x1 = some oo) (hm : lpo (st_X4_filled x1) fu oo rr) {H : Heap} {locs : List Loc} {ls : Array Slot} (hP : va_P D vwCl (wM cy b0 uv []) H) (hD : va_D A (wM cy b0 uv [])) (hS : va_S A s.heap H locs) (hl : lv_has ls 7 [(0, .ref (b0 0)), (1, .int x1)]) : W p l e { frames := 6, cells := 0, slots := 0, locals := 139 } s m args below meth c H locs 0 0 (MQ below (qI D (wM cy b0 rr.2 []) (rr.1) A) args s 0 0 A) (F0 m 0 ls []) := by
  obtain ⟨hx, hb, hr, hml, hown, hts, hlk, hA, hK⟩ := id M
  unfold f_X4_filled_0 at h
  refine lv_aload_n hx hb dX4_filled_0 rfl (lv_at hl 0 rfl) ?_
  obtain ⟨r_1, hr_1, h⟩ := bn_s h
  refine kcVi (As := []) (rest := []) (ws' := (wM cy b0 uv [])) ⟨hx, hb, hml, hown, hts⟩ (cwV 0 hts gX4_filled_X4_faultOf rfl rfl rfl ⟨rfl, eX4_faultOf⟩ ⟨Nat.le_of_ble_eq_true rfl, Nat.le_of_ble_eq_true rfl⟩) (c_X4_faultOf b0 hr_1) hK hP hD hS hA [0, 1, 2, 3, 4, 5, 6, 7, 8, 9, 10, 11, 12, 13] [] (by decide) rfl rfl 4 rfl rfl [(b0 0), (b0 1), (b0 2), (b0 3), (b0 4), (b0 5), (b0 6), (b0 7), (b0 8), (b0 9), (b0 10), (b0 11), (b0 12), (b0 13)] rfl rfl rfl [] rfl rfl rfl rfl hl.1 rfl (Nat.le_of_ble_eq_true rfl) dX4_filled_1 (fun H locs hP hD hS => ?_)
  refine lv_if_lt (tgt := 10) hx hb dX4_filled_4 (by decide) (fun c_2 => ?_) (fun c_2 => ?_)
  · replace h := it_p c_2 h
    refine lv_iconst (v := 1) hx hb dX4_filled_10 (by decide) ?_
    refine lv_istore_n (lv' := [(2, .int (1 : Int32)), (0, .ref (b0 0)), (1, .int x1)]) hx hb dX4_filled_11 rfl hl (by decide) rfl (fun ls hl => ?_)
    refine lv_iconst (v := 0) hx hb dX4_filled_12 (by decide) ?_
    refine lv_istore_n (lv' := [(3, .int (0 : Int32)), (2, .int (1 : Int32)), (0, .ref (b0 0)), (1, .int x1)]) hx hb dX4_filled_13 rfl hl (by decide) rfl (fun ls hl => ?_)
    cases h
    exact ih.1 uv (1 : Int32) (0 : Int32) _ _ _ hm hP hD hS (lv_sub hl [2, 3, 1, 0] rfl)
  · replace h := it_n c_2 h
    refine lv_bipush (v := (-5)) hx hb dX4_filled_7 (by decide) ?_
    cases h
    have hm : _ = rr := hm
    subst hm
    exact kretI hx hb hr hlk hP hS dX4_filled_9
theorem wl_X4_filled {p : Program} {l : Launch} {e : Env} {s : State} {m : MethodId} {args : Array Value} {below : List Frame} {meth : Method} {c : Code} {A : Nat → Prop} {D : va_G} {cy : Nat → ClassId} {b0 : Nat → Nat} {x1 : Int32} {rr : Int32 × MS} (M : kM p s m args meth c cX4_filled 7 (some .int) RX4 wsX4_filled A D cy) : ∀ fu : Nat, I_X4_filled p l e s m args below meth c A D cy b0 x1 fu rr := by
  intro fu
  induction fu with
  | zero => exact ⟨(fun _ _ _ _ _ _ h => by cases h), (fun _ _ _ _ _ _ _ _ h => by cases h), (fun _ _ _ _ _ _ h => by cases h)⟩
  | succ fu ih =>
    refine ⟨?_, ?_, ?_⟩
    · intro uv x2 x3 H locs ls h hP hD hS hl
      obtain ⟨o1, h1, h2⟩ := lpn_s h
      exact w_X4_filled_14 M ih h1 h2 hP hD hS hl
    · intro uv x2 x3 x4 x5 H locs ls h hP hD hS hl
      obtain ⟨o1, h1, h2⟩ := lpn_s h
      exact w_X4_filled_42 M ih h1 h2 hP hD hS hl
    · intro uv x5 x6 H locs ls h hP hD hS hl
      obtain ⟨o1, h1, h2⟩ := lpn_s h
      exact w_X4_filled_121 M ih h1 h2 hP hD hS hl
theorem c_X4_filled {l : Launch} {D : va_G} {cy : Nat → ClassId} (b0 : Nat → Nat) {uv : MS} {x1 : Int32} {rr : Int32 × MS} (h : f_X4_filled uv x1 = some rr) : CI l D cy yX4_filled wsX4_filled { frames := 6, cells := 0, slots := 0, locals := 139 } [.ref (b0 0), .int x1] (wM cy b0 uv []) (rr.1) (wM cy b0 rr.2 []) := by
  refine kofI (cc := cX4_filled) (maxL := 7) (ret := (some .int)) (by decide) rfl (Nat.le_of_ble_eq_true rfl) ?_
  intro p e s m below meth c A M ls hl hP hD hS
  obtain ⟨o1, fu, h1, h2⟩ := rnx_s h
  exact w_X4_filled_0 M (wl_X4_filled M fu) h1 h2 hP hD hS hl
theorem eX4_filled : yX4_filled.cls ≠ "java/lang/invoke/MethodHandle" ∧ yX4_filled.cls ≠ "java/lang/invoke/VarHandle" ∧ (parseMethodDescriptor yX4_filled.desc).map (fun d => d.parameters.length) = some 1 := by decide +kernel
theorem iX4_forget_X4 : ∀ w ∈ u_ws RX4 TX4 21, w ∈ wsX4_forget := by decide +kernel
theorem mX4_forget_1 : Cond.fieldLink RX4 126 "LentPilesModel" "sights" "I" ∈ wsX4_forget := by decide +kernel
set_option maxHeartbeats 4000000 in
set_option maxRecDepth 100000 in
theorem w_X4_forget_0 {p : Program} {l : Launch} {e : Env} {s : State} {m : MethodId} {args : Array Value} {below : List Frame} {meth : Method} {c : Code} {A : Nat → Prop} {D : va_G} {cy : Nat → ClassId} {b0 : Nat → Nat} {rr : Int32 × MS} (M : kM p s m args meth c cX4_forget 2 (some .int) RX4 wsX4_forget A D cy) {uv : MS} (h : f_X4_forget uv = some rr) {H : Heap} {locs : List Loc} {ls : Array Slot} (hP : va_P D vwCl (wM cy b0 uv []) H) (hD : va_D A (wM cy b0 uv [])) (hS : va_S A s.heap H locs) (hl : lv_has ls 2 [(0, .ref (b0 0))]) : W p l e { frames := 0, cells := 0, slots := 0, locals := 0 } s m args below meth c H locs 0 0 (MQ below (qI D (wM cy b0 rr.2 []) (rr.1) A) args s 0 0 A) (F0 m 0 ls []) := by
  obtain ⟨hx, hb, hr, hml, hown, hts, hlk, hA, hK⟩ := id M
  unfold f_X4_forget at h
  refine lv_aload_n hx hb dX4_forget_0 rfl (lv_at hl 0 rfl) ?_
  refine va_get (D := D) (ci := 4) (v := .int uv.2.2.2.2.2.2.1) (C := RX4) (T := TX4) (N := 21) hx hb hts iX4_forget_X4 hown hK.1 hP 0 rfl rfl 6 (by decide) (hts _ mX4_forget_1) (fun _ h9 => h9) rfl dX4_forget_1 ?_
  refine lv_topi (fun x1_1 ex1_1 => ?_)
  replace h := nm_s h ex1_1
  refine lv_istore_n (lv' := [(1, .int x1_1), (0, .ref (b0 0))]) hx hb dX4_forget_4 rfl hl (by decide) rfl (fun ls hl => ?_)
  refine lv_aload_n hx hb dX4_forget_5 rfl (lv_at hl 1 rfl) ?_
  refine lv_iconst (v := 0) hx hb dX4_forget_6 (by decide) ?_
  refine va_put (D := D) (ci := 4) (v := .int (0 : Int32)) (ty := .int) (C := RX4) (T := TX4) (N := 21) hx hb hts iX4_forget_X4 tyX4 tyX4_ok nmX4 hown hK.1 hP hD hS 0 rfl rfl 6 (by decide) (hts _ mX4_forget_1) (fun _ h9 => h9) rfl (by decide +kernel) rfl rfl (Nat.le_of_ble_eq_true rfl) dX4_forget_7 (fun H locs hP hD hS => ?_)
  obtain ⟨uv_2, euv_2⟩ : ∃ z : MS, z = (uv.1, uv.2.1, uv.2.2.1, uv.2.2.2.1, uv.2.2.2.2.1, uv.2.2.2.2.2.1, (0 : Int32), uv.2.2.2.2.2.2.2) := ⟨_, rfl⟩
  replace h := nm_s h euv_2
  have hP : va_P D vwCl (wM cy b0 uv_2 []) H := by subst euv_2; exact hP
  have hD : va_D A (wM cy b0 uv_2 []) := hD.lk [(b0 0), (b0 1), (b0 2), (b0 3), (b0 4), (b0 5), (b0 6), (b0 7), (b0 8), (b0 9), (b0 10), (b0 11), (b0 12), (b0 13)] rfl rfl
  refine lv_iload_n hx hb dX4_forget_10 rfl (lv_at hl 0 rfl) ?_
  cases h
  exact kretI hx hb hr hlk hP hS dX4_forget_11
theorem c_X4_forget {l : Launch} {D : va_G} {cy : Nat → ClassId} (b0 : Nat → Nat) {uv : MS} {rr : Int32 × MS} (h : f_X4_forget uv = some rr) : CI l D cy yX4_forget wsX4_forget { frames := 0, cells := 0, slots := 0, locals := 0 } [.ref (b0 0)] (wM cy b0 uv []) (rr.1) (wM cy b0 rr.2 []) := by
  refine kofI (cc := cX4_forget) (maxL := 2) (ret := (some .int)) (by decide) rfl (Nat.le_of_ble_eq_true rfl) ?_
  intro p e s m below meth c A M ls hl hP hD hS
  exact w_X4_forget_0 M h hP hD hS hl
theorem eX4_forget : yX4_forget.cls ≠ "java/lang/invoke/MethodHandle" ∧ yX4_forget.cls ≠ "java/lang/invoke/VarHandle" ∧ (parseMethodDescriptor yX4_forget.desc).map (fun d => d.parameters.length) = some 0 := by decide +kernel
theorem iX4_give_X4 : ∀ w ∈ u_ws RX4 TX4 21, w ∈ wsX4_give := by decide +kernel
theorem mX4_give_1 : Cond.fieldLink RX4 16 "LentPilesModel" "pile" "[I" ∈ wsX4_give := by decide +kernel
set_option maxHeartbeats 4000000 in
set_option maxRecDepth 100000 in
theorem w_X4_give_0 {p : Program} {l : Launch} {e : Env} {s : State} {m : MethodId} {args : Array Value} {below : List Frame} {meth : Method} {c : Code} {A : Nat → Prop} {D : va_G} {cy : Nat → ClassId} {b0 : Nat → Nat} {x1 : Int32} {x2 : Int32} {x3 : Int32} {rr : Int32 × MS} (M : kM p s m args meth c cX4_give 5 (some .int) RX4 wsX4_give A D cy) {uv : MS} (h : f_X4_give uv x1 x2 x3 = some rr) {H : Heap} {locs : List Loc} {ls : Array Slot} (hP : va_P D vwCl (wM cy b0 uv []) H) (hD : va_D A (wM cy b0 uv [])) (hS : va_S A s.heap H locs) (hl : lv_has ls 5 [(0, .ref (b0 0)), (1, .int x1), (2, .int x2), (3, .int x3)]) : W p l e { frames := 3, cells := 0, slots := 0, locals := 64 } s m args below meth c H locs 0 0 (MQ below (qI D (wM cy b0 rr.2 []) (rr.1) A) args s 0 0 A) (F0 m 0 ls []) := by
  obtain ⟨hx, hb, hr, hml, hown, hts, hlk, hA, hK⟩ := id M
  unfold f_X4_give at h
  refine lv_aload_n hx hb dX4_give_0 rfl (lv_at hl 0 rfl) ?_
  refine lv_iload_n hx hb dX4_give_1 rfl (lv_at hl 1 rfl) ?_
  refine lv_iload_n hx hb dX4_give_2 rfl (lv_at hl 2 rfl) ?_
  obtain ⟨r_1, hr_1, h⟩ := bn_s h
  refine kcVi (As := [.int x1, .int x2]) (rest := []) (ws' := (wM cy b0 uv [])) ⟨hx, hb, hml, hown, hts⟩ (cwV 2 hts gX4_give_X4_isDebt rfl rfl rfl ⟨rfl, eX4_isDebt⟩ ⟨Nat.le_of_ble_eq_true rfl, Nat.le_of_ble_eq_true rfl⟩) (c_X4_isDebt b0 hr_1) hK hP hD hS hA [0, 1, 2, 3, 4, 5, 6, 7, 8, 9, 10, 11, 12, 13] [] (by decide) rfl rfl 4 rfl rfl [(b0 0), (b0 1), (b0 2), (b0 3), (b0 4), (b0 5), (b0 6), (b0 7), (b0 8), (b0 9), (b0 10), (b0 11), (b0 12), (b0 13)] rfl rfl rfl [] rfl rfl rfl rfl hl.1 rfl (Nat.le_of_ble_eq_true rfl) dX4_give_3 (fun H locs hP hD hS => ?_)
  refine lv_if_eq (tgt := 21) hx hb dX4_give_6 (by decide) (fun c_2 => ?_) (fun c_2 => ?_)
  · replace h := it_p c_2 h
    refine lv_iconst (v := (-1)) hx hb dX4_give_21 (by decide) ?_
    cases h
    exact kretI hx hb hr hlk hP hS dX4_give_22
  · replace h := it_n c_2 h
    refine lv_iload_n hx hb dX4_give_9 rfl (lv_at hl 3 rfl) ?_
    obtain ⟨r_3, hr_3, h⟩ := bn_s h
    refine kcSi (As := [.int x3]) (rest := []) ⟨hx, hb, hml, hown, hts⟩ (va_cwS 1 hts gX4_give_X4_isMan rfl rfl rfl eX4_isMan ⟨Nat.le_of_ble_eq_true rfl, Nat.le_of_ble_eq_true rfl⟩) (c_X4_isMan  hr_3) hK hP hS hA rfl hl.1 rfl (Nat.le_of_ble_eq_true rfl) dX4_give_10 (fun H locs hP hS => ?_)
    refine lv_if_eq (tgt := 21) hx hb dX4_give_13 (by decide) (fun c_4 => ?_) (fun c_4 => ?_)
    · replace h := it_p c_4 h
      refine lv_iconst (v := (-1)) hx hb dX4_give_21 (by decide) ?_
      cases h
      exact kretI hx hb hr hlk hP hS dX4_give_22
    · replace h := it_n c_4 h
      refine lv_iload_n hx hb dX4_give_16 rfl (lv_at hl 3 rfl) ?_
      refine lv_iload_n hx hb dX4_give_17 rfl (lv_at hl 1 rfl) ?_
      refine lv_icmp_ne (tgt := 23) hx hb dX4_give_18 (by decide) (fun c_5 => ?_) (fun c_5 => ?_)
      · replace h := it_n c_5 h
        refine lv_aload_n hx hb dX4_give_23 rfl (lv_at hl 0 rfl) ?_
        refine va_get (D := D) (ci := 4) (v := .ref (b0 3)) (C := RX4) (T := TX4) (N := 21) hx hb hts iX4_give_X4 hown hK.1 hP 0 rfl rfl 5 (by decide) (hts _ mX4_give_1) (fun _ h9 => h9) rfl dX4_give_24 ?_
        refine lv_iload_n hx hb dX4_give_27 rfl (lv_at hl 1 rfl) ?_
        refine lv_iload_n hx hb dX4_give_28 rfl (lv_at hl 2 rfl) ?_
        obtain ⟨r_6, hr_6, h⟩ := bn_s h
        refine kcSi (As := [.int x1, .int x2]) (rest := [.ref (b0 3)]) ⟨hx, hb, hml, hown, hts⟩ (va_cwS 2 hts gX4_give_X4_at rfl rfl rfl eX4_at ⟨Nat.le_of_ble_eq_true rfl, Nat.le_of_ble_eq_true rfl⟩) (c_X4_at  hr_6) hK hP hS hA rfl hl.1 rfl (Nat.le_of_ble_eq_true rfl) dX4_give_29 (fun H locs hP hS => ?_)
        obtain ⟨b_7, h⟩ := ck_s h
        refine va_iald hx hb hK.1 hP 3 1 rfl rfl b_7 dX4_give_32 ?_
        refine lv_topi (fun x4_8 ex4_8 => ?_)
        replace h := nm_s h ex4_8
        refine lv_istore (lv' := [(4, .int x4_8), (0, .ref (b0 0)), (1, .int x1), (2, .int x2), (3, .int x3)]) hx hb dX4_give_33 hl (by decide) rfl (fun ls hl => ?_)
        refine lv_aload_n hx hb dX4_give_35 rfl (lv_at hl 1 rfl) ?_
        refine va_get (D := D) (ci := 4) (v := .ref (b0 3)) (C := RX4) (T := TX4) (N := 21) hx hb hts iX4_give_X4 hown hK.1 hP 0 rfl rfl 5 (by decide) (hts _ mX4_give_1) (fun _ h9 => h9) rfl dX4_give_36 ?_
        refine lv_iload_n hx hb dX4_give_39 rfl (lv_at hl 2 rfl) ?_
        refine lv_iload_n hx hb dX4_give_40 rfl (lv_at hl 3 rfl) ?_
        obtain ⟨r_9, hr_9, h⟩ := bn_s h
        refine kcSi (As := [.int x1, .int x2]) (rest := [.ref (b0 3)]) ⟨hx, hb, hml, hown, hts⟩ (va_cwS 2 hts gX4_give_X4_at rfl rfl rfl eX4_at ⟨Nat.le_of_ble_eq_true rfl, Nat.le_of_ble_eq_true rfl⟩) (c_X4_at  hr_9) hK hP hS hA rfl hl.1 rfl (Nat.le_of_ble_eq_true rfl) dX4_give_41 (fun H locs hP hS => ?_)
        refine lv_iload_n hx hb dX4_give_44 rfl (lv_at hl 4 rfl) ?_
        obtain ⟨b_10, h⟩ := ck_s h
        refine va_iast hx hb hK.1 hP hD hS 3 1 rfl rfl b_10 dX4_give_45 (fun H locs hP hD hS => ?_)
        obtain ⟨uv_11, euv_11⟩ : ∃ z : MS, z = (uv.1, uv.2.1, uv.2.2.1, uv.2.2.2.1, uv.2.2.2.2.1, (upd uv.2.2.2.2.2.1 r_9.toNatClampNeg x3), uv.2.2.2.2.2.2) := ⟨_, rfl⟩
        replace h := nm_s h euv_11
        have hP : va_P D vwCl (wM cy b0 uv_11 []) H := by subst euv_11; exact hP
        have hD : va_D A (wM cy b0 uv_11 []) := hD.lk [(b0 0), (b0 1), (b0 2), (b0 3), (b0 4), (b0 5), (b0 6), (b0 7), (b0 8), (b0 9), (b0 10), (b0 11), (b0 12), (b0 13)] rfl rfl
        refine lv_iload hx hb dX4_give_46 (lv_at hl 0 rfl) ?_
        cases h
        exact kretI hx hb hr hlk hP hS dX4_give_48
      · replace h := it_p c_5 h
        refine lv_iconst (v := (-1)) hx hb dX4_give_21 (by decide) ?_
        cases h
        exact kretI hx hb hr hlk hP hS dX4_give_22
theorem c_X4_give {l : Launch} {D : va_G} {cy : Nat → ClassId} (b0 : Nat → Nat) {uv : MS} {x1 : Int32} {x2 : Int32} {x3 : Int32} {rr : Int32 × MS} (h : f_X4_give uv x1 x2 x3 = some rr) : CI l D cy yX4_give wsX4_give { frames := 3, cells := 0, slots := 0, locals := 64 } [.ref (b0 0), .int x1, .int x2, .int x3] (wM cy b0 uv []) (rr.1) (wM cy b0 rr.2 []) := by
  refine kofI (cc := cX4_give) (maxL := 5) (ret := (some .int)) (by decide) rfl (Nat.le_of_ble_eq_true rfl) ?_
  intro p e s m below meth c A M ls hl hP hD hS
  exact w_X4_give_0 M h hP hD hS hl
theorem eX4_give : yX4_give.cls ≠ "java/lang/invoke/MethodHandle" ∧ yX4_give.cls ≠ "java/lang/invoke/VarHandle" ∧ (parseMethodDescriptor yX4_give.desc).map (fun d => d.parameters.length) = some 3 := by decide +kernel
set_option maxHeartbeats 4000000 in
set_option maxRecDepth 100000 in
theorem w_X4_has_0 {p : Program} {l : Launch} {e : Env} {s : State} {m : MethodId} {args : Array Value} {below : List Frame} {meth : Method} {c : Code} {A : Nat → Prop} {D : va_G} {cy : Nat → ClassId} {x0 : Int32} {x1 : Int32} {rr : Int32} (M : kM p s m args meth c cX4_has 2 (some .boolean) RX4 wsX4_has A D cy)  (h : f_X4_has x0 x1 = some rr) {H : Heap} {locs : List Loc} {ls : Array Slot} (hP : va_P D vwCl [] H) (hD : va_D A []) (hS : va_S A s.heap H locs) (hl : lv_has ls 2 [(0, .int x0), (1, .int x1)]) : W p l e { frames := 0, cells := 0, slots := 0, locals := 0 } s m args below meth c H locs 0 0 (MQ below (qI D [] (rr) A) args s 0 0 A) (F0 m 0 ls []) := by
  obtain ⟨hx, hb, hr, hml, hown, hts, hlk, hA, hK⟩ := id M
  unfold f_X4_has at h
  refine lv_iload_n hx hb dX4_has_0 rfl (lv_at hl 0 rfl) ?_
  refine lv_iload_n hx hb dX4_has_1 rfl (lv_at hl 1 rfl) ?_
  refine lv_ishr hx hb dX4_has_2 ?_
  refine lv_iconst (v := 1) hx hb dX4_has_3 (by decide) ?_
  refine lv_iand hx hb dX4_has_4 ?_
  refine lv_iconst (v := 1) hx hb dX4_has_5 (by decide) ?_
  refine lv_icmp_ne (tgt := 13) hx hb dX4_has_6 (by decide) (fun c_1 => ?_) (fun c_1 => ?_)
  · replace h := it_n c_1 h
    refine lv_iconst (v := 0) hx hb dX4_has_13 (by decide) ?_
    cases h
    exact kretZ (r0 := (0 : Int32)) (ty := .boolean) hx hb hr hlk hP hS (by decide) dX4_has_14
  · replace h := it_p c_1 h
    refine lv_iconst (v := 1) hx hb dX4_has_9 (by decide) ?_
    refine lv_goto (tgt := 14) hx hb dX4_has_10 (by decide) ?_
    cases h
    exact kretZ (r0 := (1 : Int32)) (ty := .boolean) hx hb hr hlk hP hS (by decide) dX4_has_14
theorem c_X4_has {l : Launch} {D : va_G} {cy : Nat → ClassId}  {x0 : Int32} {x1 : Int32} {rr : Int32} (h : f_X4_has x0 x1 = some rr) : CI l D cy yX4_has wsX4_has { frames := 0, cells := 0, slots := 0, locals := 0 } [.int x0, .int x1] [] (rr) [] := by
  refine kofI (cc := cX4_has) (maxL := 2) (ret := (some .boolean)) (by decide) rfl (Nat.le_of_ble_eq_true rfl) ?_
  intro p e s m below meth c A M ls hl hP hD hS
  exact w_X4_has_0 M h hP hD hS hl
theorem eX4_has : yX4_has.cls ≠ "java/lang/invoke/MethodHandle" ∧ yX4_has.cls ≠ "java/lang/invoke/VarHandle" ∧ (parseMethodDescriptor yX4_has.desc).map (fun d => d.parameters.length) = some 2 := by decide +kernel
theorem iX4_isEnough_X4 : ∀ w ∈ u_ws RX4 TX4 21, w ∈ wsX4_isEnough := by decide +kernel
theorem mX4_isEnough_1 : Cond.fieldLink RX4 25 "LentPilesModel" "nowMoney" "[I" ∈ wsX4_isEnough := by decide +kernel
set_option maxHeartbeats 4000000 in
set_option maxRecDepth 100000 in
theorem w_X4_isEnough_0 {p : Program} {l : Launch} {e : Env} {s : State} {m : MethodId} {args : Array Value} {below : List Frame} {meth : Method} {c : Code} {A : Nat → Prop} {D : va_G} {cy : Nat → ClassId} {b0 : Nat → Nat} {x1 : Int32} {x2 : Int32} {rr : Int32 × MS} (M : kM p s m args meth c cX4_isEnough 3 (some .boolean) RX4 wsX4_isEnough A D cy) {uv : MS} (h : f_X4_isEnough uv x1 x2 = some rr) {H : Heap} {locs : List Loc} {ls : Array Slot} (hP : va_P D vwCl (wM cy b0 uv []) H) (hD : va_D A (wM cy b0 uv [])) (hS : va_S A s.heap H locs) (hl : lv_has ls 3 [(0, .ref (b0 0)), (1, .int x1), (2, .int x2)]) : W p l e { frames := 5, cells := 0, slots := 0, locals := 111 } s m args below meth c H locs 0 0 (MQ below (qI D (wM cy b0 rr.2 []) (rr.1) A) args s 0 0 A) (F0 m 0 ls []) := by
  obtain ⟨hx, hb, hr, hml, hown, hts, hlk, hA, hK⟩ := id M
  unfold f_X4_isEnough at h
  refine lv_aload_n hx hb dX4_isEnough_0 rfl (lv_at hl 0 rfl) ?_
  obtain ⟨r_1, hr_1, h⟩ := bn_s h
  refine kcVv (As := []) (rest := []) (ws' := (wM cy b0 r_1 [])) ⟨hx, hb, hml, hown, hts⟩ (cwV 0 hts gX4_isEnough_X4_asNow rfl rfl rfl ⟨rfl, eX4_asNow⟩ ⟨Nat.le_of_ble_eq_true rfl, Nat.le_of_ble_eq_true rfl⟩) (c_X4_asNow b0 hr_1) hK hP hD hS hA [0, 1, 2, 3, 4, 5, 6, 7, 8, 9, 10, 11, 12, 13] [] (by decide) rfl rfl 4 rfl rfl [(b0 0), (b0 1), (b0 2), (b0 3), (b0 4), (b0 5), (b0 6), (b0 7), (b0 8), (b0 9), (b0 10), (b0 11), (b0 12), (b0 13)] rfl rfl rfl [] rfl rfl rfl rfl hl.1 rfl (Nat.le_of_ble_eq_true rfl) dX4_isEnough_1 (fun H locs hP hD hS => ?_)
  refine lv_aload_n hx hb dX4_isEnough_4 rfl (lv_at hl 0 rfl) ?_
  refine va_get (D := D) (ci := 4) (v := .ref (b0 6)) (C := RX4) (T := TX4) (N := 21) hx hb hts iX4_isEnough_X4 hown hK.1 hP 0 rfl rfl 11 (by decide) (hts _ mX4_isEnough_1) (fun _ h9 => h9) rfl dX4_isEnough_5 ?_
  refine lv_iload_n hx hb dX4_isEnough_8 rfl (lv_at hl 1 rfl) ?_
  refine lv_dup2_11 hx hb dX4_isEnough_9 rfl rfl ?_
  obtain ⟨b_2, h⟩ := ck_s h
  refine va_iald hx hb hK.1 hP 6 1 rfl rfl b_2 dX4_isEnough_10 ?_
  refine lv_iload_n hx hb dX4_isEnough_11 rfl (lv_at hl 2 rfl) ?_
  refine lv_iadd hx hb dX4_isEnough_12 ?_
  refine va_iast hx hb hK.1 hP hD hS 6 1 rfl rfl b_2 dX4_isEnough_13 (fun H locs hP hD hS => ?_)
  obtain ⟨uv_3, euv_3⟩ : ∃ z : MS, z = (r_1.1, r_1.2.1, r_1.2.2.1, r_1.2.2.2.1, r_1.2.2.2.2.1, r_1.2.2.2.2.2.1, r_1.2.2.2.2.2.2.1, r_1.2.2.2.2.2.2.2.1, r_1.2.2.2.2.2.2.2.2.1, r_1.2.2.2.2.2.2.2.2.2.1, r_1.2.2.2.2.2.2.2.2.2.2.1, (upd r_1.2.2.2.2.2.2.2.2.2.2.2.1 x1.toNatClampNeg ((r_1.2.2.2.2.2.2.2.2.2.2.2.1 x1.toNatClampNeg) + x2)), r_1.2.2.2.2.2.2.2.2.2.2.2.2) := ⟨_, rfl⟩
  replace h := nm_s h euv_3
  have hP : va_P D vwCl (wM cy b0 uv_3 []) H := by subst euv_3; exact hP
  have hD : va_D A (wM cy b0 uv_3 []) := hD.lk [(b0 0), (b0 1), (b0 2), (b0 3), (b0 4), (b0 5), (b0 6), (b0 7), (b0 8), (b0 9), (b0 10), (b0 11), (b0 12), (b0 13)] rfl rfl
  refine lv_aload_n hx hb dX4_isEnough_14 rfl (lv_at hl 0 rfl) ?_
  obtain ⟨r_4, hr_4, h⟩ := bn_s h
  refine kcVv (As := []) (rest := []) (ws' := (wM cy b0 r_4 [])) ⟨hx, hb, hml, hown, hts⟩ (cwV 0 hts gX4_isEnough_X4_payAll rfl rfl rfl ⟨rfl, eX4_payAll⟩ ⟨Nat.le_of_ble_eq_true rfl, Nat.le_of_ble_eq_true rfl⟩) (c_X4_payAll b0 hr_4) hK hP hD hS hA [0, 1, 2, 3, 4, 5, 6, 7, 8, 9, 10, 11, 12, 13] [] (by decide) rfl rfl 4 rfl rfl [(b0 0), (b0 1), (b0 2), (b0 3), (b0 4), (b0 5), (b0 6), (b0 7), (b0 8), (b0 9), (b0 10), (b0 11), (b0 12), (b0 13)] rfl rfl rfl [] rfl rfl rfl rfl hl.1 rfl (Nat.le_of_ble_eq_true rfl) dX4_isEnough_15 (fun H locs hP hD hS => ?_)
  refine lv_aload_n hx hb dX4_isEnough_18 rfl (lv_at hl 0 rfl) ?_
  obtain ⟨r_5, hr_5, h⟩ := bn_s h
  refine kcVi (As := []) (rest := []) (ws' := (wM cy b0 r_4 [])) ⟨hx, hb, hml, hown, hts⟩ (cwV 0 hts gX4_isEnough_X4_leftNow rfl rfl rfl ⟨rfl, eX4_leftNow⟩ ⟨Nat.le_of_ble_eq_true rfl, Nat.le_of_ble_eq_true rfl⟩) (c_X4_leftNow b0 hr_5) hK hP hD hS hA [0, 1, 2, 3, 4, 5, 6, 7, 8, 9, 10, 11, 12, 13] [] (by decide) rfl rfl 4 rfl rfl [(b0 0), (b0 1), (b0 2), (b0 3), (b0 4), (b0 5), (b0 6), (b0 7), (b0 8), (b0 9), (b0 10), (b0 11), (b0 12), (b0 13)] rfl rfl rfl [] rfl rfl rfl rfl hl.1 rfl (Nat.le_of_ble_eq_true rfl) dX4_isEnough_19 (fun H locs hP hD hS => ?_)
  refine lv_if_ne (tgt := 29) hx hb dX4_isEnough_22 (by decide) (fun c_6 => ?_) (fun c_6 => ?_)
  · replace h := it_n c_6 h
    refine lv_iconst (v := 0) hx hb dX4_isEnough_29 (by decide) ?_
    cases h
    exact kretZ (r0 := (0 : Int32)) (ty := .boolean) hx hb hr hlk hP hS (by decide) dX4_isEnough_30
  · replace h := it_p c_6 h
    refine lv_iconst (v := 1) hx hb dX4_isEnough_25 (by decide) ?_
    refine lv_goto (tgt := 30) hx hb dX4_isEnough_26 (by decide) ?_
    cases h
    exact kretZ (r0 := (1 : Int32)) (ty := .boolean) hx hb hr hlk hP hS (by decide) dX4_isEnough_30
theorem c_X4_isEnough {l : Launch} {D : va_G} {cy : Nat → ClassId} (b0 : Nat → Nat) {uv : MS} {x1 : Int32} {x2 : Int32} {rr : Int32 × MS} (h : f_X4_isEnough uv x1 x2 = some rr) : CI l D cy yX4_isEnough wsX4_isEnough { frames := 5, cells := 0, slots := 0, locals := 111 } [.ref (b0 0), .int x1, .int x2] (wM cy b0 uv []) (rr.1) (wM cy b0 rr.2 []) := by
  refine kofI (cc := cX4_isEnough) (maxL := 3) (ret := (some .boolean)) (by decide) rfl (Nat.le_of_ble_eq_true rfl) ?_
  intro p e s m below meth c A M ls hl hP hD hS
  exact w_X4_isEnough_0 M h hP hD hS hl
theorem eX4_isEnough : yX4_isEnough.cls ≠ "java/lang/invoke/MethodHandle" ∧ yX4_isEnough.cls ≠ "java/lang/invoke/VarHandle" ∧ (parseMethodDescriptor yX4_isEnough.desc).map (fun d => d.parameters.length) = some 2 := by decide +kernel
theorem mX4_helpOf_1 : Cond.constant RX4 141 (1000000) ∈ wsX4_helpOf := by decide +kernel
def I_X4_helpOf (p : Program) (l : Launch) (e : Env) (s : State) (m : MethodId) (args : Array Value) (below : List Frame) (meth : Method) (c : Code) (A : Nat → Prop) (D : va_G) (cy : Nat → ClassId) (b0 : Nat → Nat) (x1 : Int32) (fu : Nat) (rr : Int32 × MS) : Prop := (∀ (uv : MS) (x2 : Int32) (x3 : Int32) (H : Heap) (locs : List Loc) (ls : Array Slot), lpn (st_X4_helpOf x1) fu (uv, x2, x3) = some rr → va_P D vwCl (wM cy b0 uv []) H → va_D A (wM cy b0 uv []) → va_S A s.heap H locs → lv_has ls 5 [(0, .ref (b0 0)), (1, .int x1), (2, .int x2), (3, .int x3)] → W p l e { frames := 6, cells := 0, slots := 0, locals := 133 } s m args below meth c H locs 0 0 (MQ below (qI D (wM cy b0 rr.2 []) (rr.1) A) args s 0 0 A) (F0 m 17 ls []))
set_option maxHeartbeats 4000000 in
set_option maxRecDepth 100000 in
theorem w_X4_helpOf_17 {p : Program} {l : Launch} {e : Env} {s : State} {m : MethodId} {args : Array Value} {below : List Frame} {meth : Method} {c : Code} {A : Nat → Prop} {D : va_G} {cy : Nat → ClassId} {b0 : Nat → Nat} {x1 : Int32} {fu : Nat} {rr : Int32 × MS} (M : kM p s m args meth c cX4_helpOf 5 (some .int) RX4 wsX4_helpOf A D cy) (ih : I_X4_helpOf p l e s m args below meth c A D cy b0 x1 fu rr) {uv : MS} {x2 : Int32} {x3 : Int32} {oo : (MS × Int32 × Int32) ⊕ (Int32 × MS)} (h : f_X4_helpOf_17 x1 uv x2 x3 = some oo) (hm : lpo (st_X4_helpOf x1) fu oo rr) {H : Heap} {locs : List Loc} {ls : Array Slot} (hP : va_P D vwCl (wM cy b0 uv []) H) (hD : va_D A (wM cy b0 uv [])) (hS : va_S A s.heap H locs) (hl : lv_has ls 5 [(0, .ref (b0 0)), (1, .int x1), (2, .int x2), (3, .int x3)]) : W p l e { frames := 6, cells := 0, slots := 0, locals := 133 } s m args below meth c H locs 0 0 (MQ below (qI D (wM cy b0 rr.2 []) (rr.1) A) args s 0 0 A) (F0 m 17 ls []) := by
  obtain ⟨hx, hb, hr, hml, hown, hts, hlk, hA, hK⟩ := id M
  unfold f_X4_helpOf_17 at h
  refine lv_iload_n hx hb dX4_helpOf_17 rfl (lv_at hl 3 rfl) ?_
  refine lv_iconst (v := 1) hx hb dX4_helpOf_18 (by decide) ?_
  refine lv_iadd hx hb dX4_helpOf_19 ?_
  refine lv_iload_n hx hb dX4_helpOf_20 rfl (lv_at hl 2 rfl) ?_
  refine lv_icmp_ge (tgt := 53) hx hb dX4_helpOf_21 (by decide) (fun c_1 => ?_) (fun c_1 => ?_)
  · replace h := it_p c_1 h
    refine lv_iload_n hx hb dX4_helpOf_53 rfl (lv_at hl 2 rfl) ?_
    cases h
    have hm : _ = rr := hm
    subst hm
    exact kretI hx hb hr hlk hP hS dX4_helpOf_54
  · replace h := it_n c_1 h
    refine lv_iload_n hx hb dX4_helpOf_24 rfl (lv_at hl 3 rfl) ?_
    refine lv_iload_n hx hb dX4_helpOf_25 rfl (lv_at hl 2 rfl) ?_
    refine lv_iadd hx hb dX4_helpOf_26 ?_
    refine lv_iconst (v := 2) hx hb dX4_helpOf_27 (by decide) ?_
    refine lv_idiv hx hb dX4_helpOf_28 (by decide) ?_
    refine lv_topi (fun x4_2 ex4_2 => ?_)
    replace h := nm_s h ex4_2
    refine lv_istore (lv' := [(4, .int x4_2), (0, .ref (b0 0)), (1, .int x1), (2, .int x2), (3, .int x3)]) hx hb dX4_helpOf_29 hl (by decide) rfl (fun ls hl => ?_)
    refine lv_aload_n hx hb dX4_helpOf_31 rfl (lv_at hl 1 rfl) ?_
    refine lv_iload_n hx hb dX4_helpOf_32 rfl (lv_at hl 2 rfl) ?_
    refine lv_iload hx hb dX4_helpOf_33 (lv_at hl 0 rfl) ?_
    obtain ⟨r_3, hr_3, h⟩ := bn_s h
    refine kcVi (As := [.int x1, .int x4_2]) (rest := []) (ws' := (wM cy b0 r_3.2 [])) ⟨hx, hb, hml, hown, hts⟩ (cwV 2 hts gX4_helpOf_X4_isEnough rfl rfl rfl ⟨rfl, eX4_isEnough⟩ ⟨Nat.le_of_ble_eq_true rfl, Nat.le_of_ble_eq_true rfl⟩) (c_X4_isEnough b0 hr_3) hK hP hD hS hA [0, 1, 2, 3, 4, 5, 6, 7, 8, 9, 10, 11, 12, 13] [] (by decide) rfl rfl 4 rfl rfl [(b0 0), (b0 1), (b0 2), (b0 3), (b0 4), (b0 5), (b0 6), (b0 7), (b0 8), (b0 9), (b0 10), (b0 11), (b0 12), (b0 13)] rfl rfl rfl [] rfl rfl rfl rfl hl.1 rfl (Nat.le_of_ble_eq_true rfl) dX4_helpOf_35 (fun H locs hP hD hS => ?_)
    refine lv_if_eq (tgt := 47) hx hb dX4_helpOf_38 (by decide) (fun c_4 => ?_) (fun c_4 => ?_)
    · replace h := it_p c_4 h
      refine lv_iload hx hb dX4_helpOf_47 (lv_at hl 0 rfl) ?_
      refine lv_istore_n (lv' := [(3, .int x4_2), (4, .int x4_2), (0, .ref (b0 0)), (1, .int x1), (2, .int x2)]) hx hb dX4_helpOf_49 rfl hl (by decide) rfl (fun ls hl => ?_)
      refine lv_goto (tgt := 17) hx hb dX4_helpOf_50 (by decide) ?_
      cases h
      exact ih r_3.2 x2 x4_2 _ _ _ hm hP hD hS (lv_sub hl [2, 3, 4, 0] rfl)
    · replace h := it_n c_4 h
      refine lv_iload hx hb dX4_helpOf_41 (lv_at hl 0 rfl) ?_
      refine lv_istore_n (lv' := [(2, .int x4_2), (4, .int x4_2), (0, .ref (b0 0)), (1, .int x1), (3, .int x3)]) hx hb dX4_helpOf_43 rfl hl (by decide) rfl (fun ls hl => ?_)
      refine lv_goto (tgt := 50) hx hb dX4_helpOf_44 (by decide) ?_
      refine lv_goto (tgt := 17) hx hb dX4_helpOf_50 (by decide) ?_
      cases h
      exact ih r_3.2 x4_2 x3 _ _ _ hm hP hD hS (lv_sub hl [2, 3, 0, 4] rfl)
set_option maxHeartbeats 4000000 in
set_option maxRecDepth 100000 in
theorem w_X4_helpOf_0 {p : Program} {l : Launch} {e : Env} {s : State} {m : MethodId} {args : Array Value} {below : List Frame} {meth : Method} {c : Code} {A : Nat → Prop} {D : va_G} {cy : Nat → ClassId} {b0 : Nat → Nat} {x1 : Int32} {fu : Nat} {rr : Int32 × MS} (M : kM p s m args meth c cX4_helpOf 5 (some .int) RX4 wsX4_helpOf A D cy) (ih : I_X4_helpOf p l e s m args below meth c A D cy b0 x1 fu rr) {uv : MS} {oo : (MS × Int32 × Int32) ⊕ (Int32 × MS)} (h : f_X4_helpOf_0 uv x1 = some oo) (hm : lpo (st_X4_helpOf x1) fu oo rr) {H : Heap} {locs : List Loc} {ls : Array Slot} (hP : va_P D vwCl (wM cy b0 uv []) H) (hD : va_D A (wM cy b0 uv [])) (hS : va_S A s.heap H locs) (hl : lv_has ls 5 [(0, .ref (b0 0)), (1, .int x1)]) : W p l e { frames := 6, cells := 0, slots := 0, locals := 133 } s m args below meth c H locs 0 0 (MQ below (qI D (wM cy b0 rr.2 []) (rr.1) A) args s 0 0 A) (F0 m 0 ls []) := by
  obtain ⟨hx, hb, hr, hml, hown, hts, hlk, hA, hK⟩ := id M
  unfold f_X4_helpOf_0 at h
  refine lv_ldc (v := 1000000) hx hb hown (hts _ mX4_helpOf_1) dX4_helpOf_0 ?_
  refine lv_istore_n (lv' := [(2, .int (1000000 : Int32)), (0, .ref (b0 0)), (1, .int x1)]) hx hb dX4_helpOf_2 rfl hl (by decide) rfl (fun ls hl => ?_)
  refine lv_aload_n hx hb dX4_helpOf_3 rfl (lv_at hl 1 rfl) ?_
  refine lv_iload_n hx hb dX4_helpOf_4 rfl (lv_at hl 2 rfl) ?_
  refine lv_iload_n hx hb dX4_helpOf_5 rfl (lv_at hl 0 rfl) ?_
  obtain ⟨r_1, hr_1, h⟩ := bn_s h
  refine kcVi (As := [.int x1, .int (1000000 : Int32)]) (rest := []) (ws' := (wM cy b0 r_1.2 [])) ⟨hx, hb, hml, hown, hts⟩ (cwV 2 hts gX4_helpOf_X4_isEnough rfl rfl rfl ⟨rfl, eX4_isEnough⟩ ⟨Nat.le_of_ble_eq_true rfl, Nat.le_of_ble_eq_true rfl⟩) (c_X4_isEnough b0 hr_1) hK hP hD hS hA [0, 1, 2, 3, 4, 5, 6, 7, 8, 9, 10, 11, 12, 13] [] (by decide) rfl rfl 4 rfl rfl [(b0 0), (b0 1), (b0 2), (b0 3), (b0 4), (b0 5), (b0 6), (b0 7), (b0 8), (b0 9), (b0 10), (b0 11), (b0 12), (b0 13)] rfl rfl rfl [] rfl rfl rfl rfl hl.1 rfl (Nat.le_of_ble_eq_true rfl) dX4_helpOf_6 (fun H locs hP hD hS => ?_)
  refine lv_if_ne (tgt := 15) hx hb dX4_helpOf_9 (by decide) (fun c_2 => ?_) (fun c_2 => ?_)
  · replace h := it_n c_2 h
    refine lv_iconst (v := (-1)) hx hb dX4_helpOf_15 (by decide) ?_
    refine lv_istore_n (lv' := [(3, .int (-1 : Int32)), (2, .int (1000000 : Int32)), (0, .ref (b0 0)), (1, .int x1)]) hx hb dX4_helpOf_16 rfl hl (by decide) rfl (fun ls hl => ?_)
    cases h
    exact ih r_1.2 (1000000 : Int32) (-1 : Int32) _ _ _ hm hP hD hS (lv_sub hl [2, 3, 1, 0] rfl)
  · replace h := it_p c_2 h
    refine lv_bipush (v := (-6)) hx hb dX4_helpOf_12 (by decide) ?_
    cases h
    have hm : _ = rr := hm
    subst hm
    exact kretI hx hb hr hlk hP hS dX4_helpOf_14
theorem wl_X4_helpOf {p : Program} {l : Launch} {e : Env} {s : State} {m : MethodId} {args : Array Value} {below : List Frame} {meth : Method} {c : Code} {A : Nat → Prop} {D : va_G} {cy : Nat → ClassId} {b0 : Nat → Nat} {x1 : Int32} {rr : Int32 × MS} (M : kM p s m args meth c cX4_helpOf 5 (some .int) RX4 wsX4_helpOf A D cy) : ∀ fu : Nat, I_X4_helpOf p l e s m args below meth c A D cy b0 x1 fu rr := by
  intro fu
  induction fu with
  | zero => exact (fun _ _ _ _ _ _ h => by cases h)
  | succ fu ih =>
    exact fun uv x2 x3 H locs ls h hP hD hS hl => by
      obtain ⟨o1, h1, h2⟩ := lpn_s h
      exact w_X4_helpOf_17 M ih h1 h2 hP hD hS hl
theorem c_X4_helpOf {l : Launch} {D : va_G} {cy : Nat → ClassId} (b0 : Nat → Nat) {uv : MS} {x1 : Int32} {rr : Int32 × MS} (h : f_X4_helpOf uv x1 = some rr) : CI l D cy yX4_helpOf wsX4_helpOf { frames := 6, cells := 0, slots := 0, locals := 133 } [.ref (b0 0), .int x1] (wM cy b0 uv []) (rr.1) (wM cy b0 rr.2 []) := by
  refine kofI (cc := cX4_helpOf) (maxL := 5) (ret := (some .int)) (by decide) rfl (Nat.le_of_ble_eq_true rfl) ?_
  intro p e s m below meth c A M ls hl hP hD hS
  obtain ⟨o1, fu, h1, h2⟩ := rnx_s h
  exact w_X4_helpOf_0 M (wl_X4_helpOf M fu) h1 h2 hP hD hS hl
theorem eX4_helpOf : yX4_helpOf.cls ≠ "java/lang/invoke/MethodHandle" ∧ yX4_helpOf.cls ≠ "java/lang/invoke/VarHandle" ∧ (parseMethodDescriptor yX4_helpOf.desc).map (fun d => d.parameters.length) = some 1 := by decide +kernel
set_option maxHeartbeats 4000000 in
set_option maxRecDepth 100000 in
theorem w_X4_help_0 {p : Program} {l : Launch} {e : Env} {s : State} {m : MethodId} {args : Array Value} {below : List Frame} {meth : Method} {c : Code} {A : Nat → Prop} {D : va_G} {cy : Nat → ClassId} {b0 : Nat → Nat} {x1 : Int32} {rr : Int32 × MS} (M : kM p s m args meth c cX4_help 2 (some .int) RX4 wsX4_help A D cy) {uv : MS} (h : f_X4_help uv x1 = some rr) {H : Heap} {locs : List Loc} {ls : Array Slot} (hP : va_P D vwCl (wM cy b0 uv []) H) (hD : va_D A (wM cy b0 uv [])) (hS : va_S A s.heap H locs) (hl : lv_has ls 2 [(0, .ref (b0 0)), (1, .int x1)]) : W p l e { frames := 7, cells := 0, slots := 0, locals := 157 } s m args below meth c H locs 0 0 (MQ below (qI D (wM cy b0 rr.2 []) (rr.1) A) args s 0 0 A) (F0 m 0 ls []) := by
  obtain ⟨hx, hb, hr, hml, hown, hts, hlk, hA, hK⟩ := id M
  unfold f_X4_help at h
  refine lv_iload_n hx hb dX4_help_0 rfl (lv_at hl 1 rfl) ?_
  obtain ⟨r_1, hr_1, h⟩ := bn_s h
  refine kcSi (As := [.int x1]) (rest := []) ⟨hx, hb, hml, hown, hts⟩ (va_cwS 1 hts gX4_help_X4_isMan rfl rfl rfl eX4_isMan ⟨Nat.le_of_ble_eq_true rfl, Nat.le_of_ble_eq_true rfl⟩) (c_X4_isMan  hr_1) hK hP hS hA rfl hl.1 rfl (Nat.le_of_ble_eq_true rfl) dX4_help_1 (fun H locs hP hS => ?_)
  refine lv_if_eq (tgt := 15) hx hb dX4_help_4 (by decide) (fun c_2 => ?_) (fun c_2 => ?_)
  · replace h := it_p c_2 h
    refine lv_iconst (v := (-1)) hx hb dX4_help_15 (by decide) ?_
    cases h
    exact kretI hx hb hr hlk hP hS dX4_help_16
  · replace h := it_n c_2 h
    refine lv_aload_n hx hb dX4_help_7 rfl (lv_at hl 0 rfl) ?_
    refine lv_iload_n hx hb dX4_help_8 rfl (lv_at hl 1 rfl) ?_
    obtain ⟨r_3, hr_3, h⟩ := bn_s h
    refine kcVi (As := [.int x1]) (rest := []) (ws' := (wM cy b0 r_3.2 [])) ⟨hx, hb, hml, hown, hts⟩ (cwV 1 hts gX4_help_X4_helpOf rfl rfl rfl ⟨rfl, eX4_helpOf⟩ ⟨Nat.le_of_ble_eq_true rfl, Nat.le_of_ble_eq_true rfl⟩) (c_X4_helpOf b0 hr_3) hK hP hD hS hA [0, 1, 2, 3, 4, 5, 6, 7, 8, 9, 10, 11, 12, 13] [] (by decide) rfl rfl 4 rfl rfl [(b0 0), (b0 1), (b0 2), (b0 3), (b0 4), (b0 5), (b0 6), (b0 7), (b0 8), (b0 9), (b0 10), (b0 11), (b0 12), (b0 13)] rfl rfl rfl [] rfl rfl rfl rfl hl.1 rfl (Nat.le_of_ble_eq_true rfl) dX4_help_9 (fun H locs hP hD hS => ?_)
    refine lv_goto (tgt := 16) hx hb dX4_help_12 (by decide) ?_
    cases h
    exact kretI hx hb hr hlk hP hS dX4_help_16
theorem c_X4_help {l : Launch} {D : va_G} {cy : Nat → ClassId} (b0 : Nat → Nat) {uv : MS} {x1 : Int32} {rr : Int32 × MS} (h : f_X4_help uv x1 = some rr) : CI l D cy yX4_help wsX4_help { frames := 7, cells := 0, slots := 0, locals := 157 } [.ref (b0 0), .int x1] (wM cy b0 uv []) (rr.1) (wM cy b0 rr.2 []) := by
  refine kofI (cc := cX4_help) (maxL := 2) (ret := (some .int)) (by decide) rfl (Nat.le_of_ble_eq_true rfl) ?_
  intro p e s m below meth c A M ls hl hP hD hS
  exact w_X4_help_0 M h hP hD hS hl
theorem eX4_help : yX4_help.cls ≠ "java/lang/invoke/MethodHandle" ∧ yX4_help.cls ≠ "java/lang/invoke/VarHandle" ∧ (parseMethodDescriptor yX4_help.desc).map (fun d => d.parameters.length) = some 1 := by decide +kernel
