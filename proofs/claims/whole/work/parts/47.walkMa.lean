/-! printed by wip/gen/gen.py: the walks -/
theorem iX4_asNow_X4 : ∀ w ∈ u_ws RX4 TX4 21, w ∈ wsX4_asNow := by decide +kernel
theorem mX4_asNow_1 : Cond.fieldLink RX4 73 "LentPilesModel" "days" "I" ∈ wsX4_asNow := by decide +kernel
theorem mX4_asNow_2 : Cond.fieldLink RX4 76 "LentPilesModel" "nowDays" "I" ∈ wsX4_asNow := by decide +kernel
theorem mX4_asNow_3 : Cond.fieldLink RX4 25 "LentPilesModel" "nowMoney" "[I" ∈ wsX4_asNow := by decide +kernel
theorem mX4_asNow_4 : Cond.fieldLink RX4 7 "LentPilesModel" "money" "[I" ∈ wsX4_asNow := by decide +kernel
theorem mX4_asNow_5 : Cond.fieldLink RX4 28 "LentPilesModel" "nowSize" "[I" ∈ wsX4_asNow := by decide +kernel
theorem mX4_asNow_6 : Cond.fieldLink RX4 13 "LentPilesModel" "size" "[I" ∈ wsX4_asNow := by decide +kernel
theorem mX4_asNow_7 : Cond.fieldLink RX4 31 "LentPilesModel" "nowPile" "[I" ∈ wsX4_asNow := by decide +kernel
theorem mX4_asNow_8 : Cond.fieldLink RX4 16 "LentPilesModel" "pile" "[I" ∈ wsX4_asNow := by decide +kernel
def I_X4_asNow (p : Program) (l : Launch) (e : Env) (s : State) (m : MethodId) (args : Array Value) (below : List Frame) (meth : Method) (c : Code) (A : Nat → Prop) (D : va_G) (cy : Nat → ClassId) (b0 : Nat → Nat) (fu : Nat) (rr : MS) : Prop := (∀ (uv : MS) (x1 : Int32) (H : Heap) (locs : List Loc) (ls : Array Slot), lpn (st_X4_asNow ) fu (.inl (uv, x1)) = some rr → va_P D vwCl (wM cy b0 uv []) H → va_D A (wM cy b0 uv []) → va_S A s.heap H locs → lv_has ls 2 [(0, .ref (b0 0)), (1, .int x1)] → W p l e { frames := 0, cells := 0, slots := 0, locals := 0 } s m args below meth c H locs 0 0 (MQ below (qV D (wM cy b0 rr []) A) args s 0 0 A) (F0 m 10 ls [])) ∧ (∀ (uv : MS) (x1 : Int32) (H : Heap) (locs : List Loc) (ls : Array Slot), lpn (st_X4_asNow ) fu (.inr (uv, x1)) = some rr → va_P D vwCl (wM cy b0 uv []) H → va_D A (wM cy b0 uv []) → va_S A s.heap H locs → lv_has ls 2 [(0, .ref (b0 0)), (1, .int x1)] → W p l e { frames := 0, cells := 0, slots := 0, locals := 0 } s m args below meth c H locs 0 0 (MQ below (qV D (wM cy b0 rr []) A) args s 0 0 A) (F0 m 48 ls []))
set_option maxHeartbeats 4000000 in
set_option maxRecDepth 100000 in
theorem w_X4_asNow_48 {p : Program} {l : Launch} {e : Env} {s : State} {m : MethodId} {args : Array Value} {below : List Frame} {meth : Method} {c : Code} {A : Nat → Prop} {D : va_G} {cy : Nat → ClassId} {b0 : Nat → Nat} {fu : Nat} {rr : MS} (M : kM p s m args meth c cX4_asNow 2 none RX4 wsX4_asNow A D cy) (ih : I_X4_asNow p l e s m args below meth c A D cy b0 fu rr) {uv : MS} {x1 : Int32} {oo : ((MS × Int32) ⊕ (MS × Int32)) ⊕ (MS)} (h : f_X4_asNow_48 uv x1 = some oo) (hm : lpo (st_X4_asNow ) fu oo rr) {H : Heap} {locs : List Loc} {ls : Array Slot} (hP : va_P D vwCl (wM cy b0 uv []) H) (hD : va_D A (wM cy b0 uv [])) (hS : va_S A s.heap H locs) (hl : lv_has ls 2 [(0, .ref (b0 0)), (1, .int x1)]) : W p l e { frames := 0, cells := 0, slots := 0, locals := 0 } s m args below meth c H locs 0 0 (MQ below (qV D (wM cy b0 rr []) A) args s 0 0 A) (F0 m 48 ls []) := by
  obtain ⟨hx, hb, hr, hml, hown, hts, hlk, hA, hK⟩ := id M
  unfold f_X4_asNow_48 at h
  refine lv_iload_n hx hb dX4_asNow_48 rfl (lv_at hl 1 rfl) ?_
  refine lv_bipush (v := 90) hx hb dX4_asNow_49 (by decide) ?_
  refine lv_icmp_ge (tgt := 72) hx hb dX4_asNow_51 (by decide) (fun c_1 => ?_) (fun c_1 => ?_)
  · replace h := it_p c_1 h
    cases h
    have hm : _ = rr := hm
    subst hm
    exact kretV hx hb hr hlk hP hS dX4_asNow_72
  · replace h := it_n c_1 h
    refine lv_aload_n hx hb dX4_asNow_54 rfl (lv_at hl 0 rfl) ?_
    refine va_get (D := D) (ci := 4) (v := .ref (b0 8)) (C := RX4) (T := TX4) (N := 21) hx hb hts iX4_asNow_X4 hown hK.1 hP 0 rfl rfl 13 (by decide) (hts _ mX4_asNow_7) (fun _ h9 => h9) rfl dX4_asNow_55 ?_
    refine lv_iload_n hx hb dX4_asNow_58 rfl (lv_at hl 1 rfl) ?_
    refine lv_aload_n hx hb dX4_asNow_59 rfl (lv_at hl 0 rfl) ?_
    refine va_get (D := D) (ci := 4) (v := .ref (b0 3)) (C := RX4) (T := TX4) (N := 21) hx hb hts iX4_asNow_X4 hown hK.1 hP 0 rfl rfl 5 (by decide) (hts _ mX4_asNow_8) (fun _ h9 => h9) rfl dX4_asNow_60 ?_
    refine lv_iload_n hx hb dX4_asNow_63 rfl (lv_at hl 1 rfl) ?_
    obtain ⟨b_2, h⟩ := ck_s h
    refine va_iald hx hb hK.1 hP 3 1 rfl rfl b_2 dX4_asNow_64 ?_
    refine va_iast hx hb hK.1 hP hD hS 8 1 rfl rfl b_2 dX4_asNow_65 (fun H locs hP hD hS => ?_)
    obtain ⟨uv_3, euv_3⟩ : ∃ z : MS, z = (uv.1, uv.2.1, uv.2.2.1, uv.2.2.2.1, uv.2.2.2.2.1, uv.2.2.2.2.2.1, uv.2.2.2.2.2.2.1, uv.2.2.2.2.2.2.2.1, uv.2.2.2.2.2.2.2.2.1, uv.2.2.2.2.2.2.2.2.2.1, uv.2.2.2.2.2.2.2.2.2.2.1, uv.2.2.2.2.2.2.2.2.2.2.2.1, uv.2.2.2.2.2.2.2.2.2.2.2.2.1, (upd uv.2.2.2.2.2.2.2.2.2.2.2.2.2.1 x1.toNatClampNeg (uv.2.2.2.2.2.1 x1.toNatClampNeg)), uv.2.2.2.2.2.2.2.2.2.2.2.2.2.2) := ⟨_, rfl⟩
    replace h := nm_s h euv_3
    have hP : va_P D vwCl (wM cy b0 uv_3 []) H := by subst euv_3; exact hP
    have hD : va_D A (wM cy b0 uv_3 []) := hD.lk [(b0 0), (b0 1), (b0 2), (b0 3), (b0 4), (b0 5), (b0 6), (b0 7), (b0 8), (b0 9), (b0 10), (b0 11), (b0 12), (b0 13)] rfl rfl
    obtain ⟨x1_4, ex1_4⟩ : ∃ z : Int32, z = (x1 + (1 : Int32)) := ⟨_, rfl⟩
    replace h := nm_s h ex1_4
    refine lv_iinc (v := x1_4) (lv' := [(1, .int x1_4), (0, .ref (b0 0))]) hx hb dX4_asNow_66 hl (k := 1) rfl (by rw [ex1_4]; rfl) (by decide) rfl (fun ls hl => ?_)
    refine lv_goto (tgt := 48) hx hb dX4_asNow_69 (by decide) ?_
    cases h
    exact ih.2 uv_3 x1_4 _ _ _ hm hP hD hS (lv_sub hl [1, 0] rfl)
set_option maxHeartbeats 4000000 in
set_option maxRecDepth 100000 in
theorem w_X4_asNow_10 {p : Program} {l : Launch} {e : Env} {s : State} {m : MethodId} {args : Array Value} {below : List Frame} {meth : Method} {c : Code} {A : Nat → Prop} {D : va_G} {cy : Nat → ClassId} {b0 : Nat → Nat} {fu : Nat} {rr : MS} (M : kM p s m args meth c cX4_asNow 2 none RX4 wsX4_asNow A D cy) (ih : I_X4_asNow p l e s m args below meth c A D cy b0 fu rr) {uv : MS} {x1 : Int32} {oo : ((MS × Int32) ⊕ (MS × Int32)) ⊕ (MS)} (h : f_X4_asNow_10 uv x1 = some oo) (hm : lpo (st_X4_asNow ) fu oo rr) {H : Heap} {locs : List Loc} {ls : Array Slot} (hP : va_P D vwCl (wM cy b0 uv []) H) (hD : va_D A (wM cy b0 uv [])) (hS : va_S A s.heap H locs) (hl : lv_has ls 2 [(0, .ref (b0 0)), (1, .int x1)]) : W p l e { frames := 0, cells := 0, slots := 0, locals := 0 } s m args below meth c H locs 0 0 (MQ below (qV D (wM cy b0 rr []) A) args s 0 0 A) (F0 m 10 ls []) := by
  obtain ⟨hx, hb, hr, hml, hown, hts, hlk, hA, hK⟩ := id M
  unfold f_X4_asNow_10 at h
  refine lv_iload_n hx hb dX4_asNow_10 rfl (lv_at hl 1 rfl) ?_
  refine lv_bipush (v := 6) hx hb dX4_asNow_11 (by decide) ?_
  refine lv_icmp_ge (tgt := 46) hx hb dX4_asNow_13 (by decide) (fun c_1 => ?_) (fun c_1 => ?_)
  · replace h := it_p c_1 h
    refine lv_iconst (v := 0) hx hb dX4_asNow_46 (by decide) ?_
    refine lv_istore_n (lv' := [(1, .int (0 : Int32)), (0, .ref (b0 0))]) hx hb dX4_asNow_47 rfl hl (by decide) rfl (fun ls hl => ?_)
    cases h
    exact ih.2 uv (0 : Int32) _ _ _ hm hP hD hS (lv_sub hl [1, 0] rfl)
  · replace h := it_n c_1 h
    refine lv_aload_n hx hb dX4_asNow_16 rfl (lv_at hl 0 rfl) ?_
    refine va_get (D := D) (ci := 4) (v := .ref (b0 6)) (C := RX4) (T := TX4) (N := 21) hx hb hts iX4_asNow_X4 hown hK.1 hP 0 rfl rfl 11 (by decide) (hts _ mX4_asNow_3) (fun _ h9 => h9) rfl dX4_asNow_17 ?_
    refine lv_iload_n hx hb dX4_asNow_20 rfl (lv_at hl 1 rfl) ?_
    refine lv_aload_n hx hb dX4_asNow_21 rfl (lv_at hl 0 rfl) ?_
    refine va_get (D := D) (ci := 4) (v := .ref (b0 1)) (C := RX4) (T := TX4) (N := 21) hx hb hts iX4_asNow_X4 hown hK.1 hP 0 rfl rfl 3 (by decide) (hts _ mX4_asNow_4) (fun _ h9 => h9) rfl dX4_asNow_22 ?_
    refine lv_iload_n hx hb dX4_asNow_25 rfl (lv_at hl 1 rfl) ?_
    obtain ⟨b_2, h⟩ := ck_s h
    refine va_iald hx hb hK.1 hP 1 1 rfl rfl b_2 dX4_asNow_26 ?_
    refine va_iast hx hb hK.1 hP hD hS 6 1 rfl rfl b_2 dX4_asNow_27 (fun H locs hP hD hS => ?_)
    obtain ⟨uv_3, euv_3⟩ : ∃ z : MS, z = (uv.1, uv.2.1, uv.2.2.1, uv.2.2.2.1, uv.2.2.2.2.1, uv.2.2.2.2.2.1, uv.2.2.2.2.2.2.1, uv.2.2.2.2.2.2.2.1, uv.2.2.2.2.2.2.2.2.1, uv.2.2.2.2.2.2.2.2.2.1, uv.2.2.2.2.2.2.2.2.2.2.1, (upd uv.2.2.2.2.2.2.2.2.2.2.2.1 x1.toNatClampNeg (uv.2.2.2.1 x1.toNatClampNeg)), uv.2.2.2.2.2.2.2.2.2.2.2.2) := ⟨_, rfl⟩
    replace h := nm_s h euv_3
    have hP : va_P D vwCl (wM cy b0 uv_3 []) H := by subst euv_3; exact hP
    have hD : va_D A (wM cy b0 uv_3 []) := hD.lk [(b0 0), (b0 1), (b0 2), (b0 3), (b0 4), (b0 5), (b0 6), (b0 7), (b0 8), (b0 9), (b0 10), (b0 11), (b0 12), (b0 13)] rfl rfl
    refine lv_aload_n hx hb dX4_asNow_28 rfl (lv_at hl 0 rfl) ?_
    refine va_get (D := D) (ci := 4) (v := .ref (b0 7)) (C := RX4) (T := TX4) (N := 21) hx hb hts iX4_asNow_X4 hown hK.1 hP 0 rfl rfl 12 (by decide) (hts _ mX4_asNow_5) (fun _ h9 => h9) rfl dX4_asNow_29 ?_
    refine lv_iload_n hx hb dX4_asNow_32 rfl (lv_at hl 1 rfl) ?_
    refine lv_aload_n hx hb dX4_asNow_33 rfl (lv_at hl 0 rfl) ?_
    refine va_get (D := D) (ci := 4) (v := .ref (b0 2)) (C := RX4) (T := TX4) (N := 21) hx hb hts iX4_asNow_X4 hown hK.1 hP 0 rfl rfl 4 (by decide) (hts _ mX4_asNow_6) (fun _ h9 => h9) rfl dX4_asNow_34 ?_
    refine lv_iload_n hx hb dX4_asNow_37 rfl (lv_at hl 1 rfl) ?_
    refine va_iald hx hb hK.1 hP 2 1 rfl rfl b_2 dX4_asNow_38 ?_
    refine va_iast hx hb hK.1 hP hD hS 7 1 rfl rfl b_2 dX4_asNow_39 (fun H locs hP hD hS => ?_)
    obtain ⟨uv_4, euv_4⟩ : ∃ z : MS, z = (uv_3.1, uv_3.2.1, uv_3.2.2.1, uv_3.2.2.2.1, uv_3.2.2.2.2.1, uv_3.2.2.2.2.2.1, uv_3.2.2.2.2.2.2.1, uv_3.2.2.2.2.2.2.2.1, uv_3.2.2.2.2.2.2.2.2.1, uv_3.2.2.2.2.2.2.2.2.2.1, uv_3.2.2.2.2.2.2.2.2.2.2.1, uv_3.2.2.2.2.2.2.2.2.2.2.2.1, (upd uv_3.2.2.2.2.2.2.2.2.2.2.2.2.1 x1.toNatClampNeg (uv_3.2.2.2.2.1 x1.toNatClampNeg)), uv_3.2.2.2.2.2.2.2.2.2.2.2.2.2) := ⟨_, rfl⟩
    replace h := nm_s h euv_4
    have hP : va_P D vwCl (wM cy b0 uv_4 []) H := by subst euv_4; exact hP
    have hD : va_D A (wM cy b0 uv_4 []) := hD.lk [(b0 0), (b0 1), (b0 2), (b0 3), (b0 4), (b0 5), (b0 6), (b0 7), (b0 8), (b0 9), (b0 10), (b0 11), (b0 12), (b0 13)] rfl rfl
    obtain ⟨x1_5, ex1_5⟩ : ∃ z : Int32, z = (x1 + (1 : Int32)) := ⟨_, rfl⟩
    replace h := nm_s h ex1_5
    refine lv_iinc (v := x1_5) (lv' := [(1, .int x1_5), (0, .ref (b0 0))]) hx hb dX4_asNow_40 hl (k := 1) rfl (by rw [ex1_5]; rfl) (by decide) rfl (fun ls hl => ?_)
    refine lv_goto (tgt := 10) hx hb dX4_asNow_43 (by decide) ?_
    cases h
    exact ih.1 uv_4 x1_5 _ _ _ hm hP hD hS (lv_sub hl [1, 0] rfl)
set_option maxHeartbeats 4000000 in
set_option maxRecDepth 100000 in
theorem w_X4_asNow_0 {p : Program} {l : Launch} {e : Env} {s : State} {m : MethodId} {args : Array Value} {below : List Frame} {meth : Method} {c : Code} {A : Nat → Prop} {D : va_G} {cy : Nat → ClassId} {b0 : Nat → Nat} {fu : Nat} {rr : MS} (M : kM p s m args meth c cX4_asNow 2 none RX4 wsX4_asNow A D cy) (ih : I_X4_asNow p l e s m args below meth c A D cy b0 fu rr) {uv : MS} {oo : ((MS × Int32) ⊕ (MS × Int32)) ⊕ (MS)} (h : f_X4_asNow_0 uv = some oo) (hm : lpo (st_X4_asNow ) fu oo rr) {H : Heap} {locs : List Loc} {ls : Array Slot} (hP : va_P D vwCl (wM cy b0 uv []) H) (hD : va_D A (wM cy b0 uv [])) (hS : va_S A s.heap H locs) (hl : lv_has ls 2 [(0, .ref (b0 0))]) : W p l e { frames := 0, cells := 0, slots := 0, locals := 0 } s m args below meth c H locs 0 0 (MQ below (qV D (wM cy b0 rr []) A) args s 0 0 A) (F0 m 0 ls []) := by
  obtain ⟨hx, hb, hr, hml, hown, hts, hlk, hA, hK⟩ := id M
  unfold f_X4_asNow_0 at h
  refine lv_aload_n hx hb dX4_asNow_0 rfl (lv_at hl 0 rfl) ?_
  refine lv_aload_n hx hb dX4_asNow_1 rfl (lv_at hl 0 rfl) ?_
  refine va_get (D := D) (ci := 4) (v := .int uv.2.2.1) (C := RX4) (T := TX4) (N := 21) hx hb hts iX4_asNow_X4 hown hK.1 hP 0 rfl rfl 2 (by decide) (hts _ mX4_asNow_1) (fun _ h9 => h9) rfl dX4_asNow_2 ?_
  refine va_put (D := D) (ci := 4) (v := .int uv.2.2.1) (ty := .int) (C := RX4) (T := TX4) (N := 21) hx hb hts iX4_asNow_X4 tyX4 tyX4_ok nmX4 hown hK.1 hP hD hS 0 rfl rfl 10 (by decide) (hts _ mX4_asNow_2) (fun _ h9 => h9) rfl (by decide +kernel) rfl rfl (Nat.le_of_ble_eq_true rfl) dX4_asNow_5 (fun H locs hP hD hS => ?_)
  obtain ⟨uv_1, euv_1⟩ : ∃ z : MS, z = (uv.1, uv.2.1, uv.2.2.1, uv.2.2.2.1, uv.2.2.2.2.1, uv.2.2.2.2.2.1, uv.2.2.2.2.2.2.1, uv.2.2.2.2.2.2.2.1, uv.2.2.2.2.2.2.2.2.1, uv.2.2.2.2.2.2.2.2.2.1, uv.2.2.1, uv.2.2.2.2.2.2.2.2.2.2.2) := ⟨_, rfl⟩
  replace h := nm_s h euv_1
  have hP : va_P D vwCl (wM cy b0 uv_1 []) H := by subst euv_1; exact hP
  have hD : va_D A (wM cy b0 uv_1 []) := hD.lk [(b0 0), (b0 1), (b0 2), (b0 3), (b0 4), (b0 5), (b0 6), (b0 7), (b0 8), (b0 9), (b0 10), (b0 11), (b0 12), (b0 13)] rfl rfl
  refine lv_iconst (v := 0) hx hb dX4_asNow_8 (by decide) ?_
  refine lv_istore_n (lv' := [(1, .int (0 : Int32)), (0, .ref (b0 0))]) hx hb dX4_asNow_9 rfl hl (by decide) rfl (fun ls hl => ?_)
  cases h
  exact ih.1 uv_1 (0 : Int32) _ _ _ hm hP hD hS (lv_sub hl [1, 0] rfl)
theorem wl_X4_asNow {p : Program} {l : Launch} {e : Env} {s : State} {m : MethodId} {args : Array Value} {below : List Frame} {meth : Method} {c : Code} {A : Nat → Prop} {D : va_G} {cy : Nat → ClassId} {b0 : Nat → Nat} {rr : MS} (M : kM p s m args meth c cX4_asNow 2 none RX4 wsX4_asNow A D cy) : ∀ fu : Nat, I_X4_asNow p l e s m args below meth c A D cy b0 fu rr := by
  intro fu
  induction fu with
  | zero => exact ⟨(fun _ _ _ _ _ h => by cases h), (fun _ _ _ _ _ h => by cases h)⟩
  | succ fu ih =>
    refine ⟨?_, ?_⟩
    · intro uv x1 H locs ls h hP hD hS hl
      obtain ⟨o1, h1, h2⟩ := lpn_s h
      exact w_X4_asNow_10 M ih h1 h2 hP hD hS hl
    · intro uv x1 H locs ls h hP hD hS hl
      obtain ⟨o1, h1, h2⟩ := lpn_s h
      exact w_X4_asNow_48 M ih h1 h2 hP hD hS hl
theorem c_X4_asNow {l : Launch} {D : va_G} {cy : Nat → ClassId} (b0 : Nat → Nat) {uv : MS} {rr : MS} (h : f_X4_asNow uv = some rr) : CV l D cy yX4_asNow wsX4_asNow { frames := 0, cells := 0, slots := 0, locals := 0 } [.ref (b0 0)] (wM cy b0 uv []) (wM cy b0 rr []) := by
  refine kofV (cc := cX4_asNow) (maxL := 2) (ret := none) (by decide) rfl (Nat.le_of_ble_eq_true rfl) ?_
  intro p e s m below meth c A M ls hl hP hD hS
  obtain ⟨o1, fu, h1, h2⟩ := rnx_s h
  exact w_X4_asNow_0 M (wl_X4_asNow M fu) h1 h2 hP hD hS hl
theorem eX4_asNow : yX4_asNow.cls ≠ "java/lang/invoke/MethodHandle" ∧ yX4_asNow.cls ≠ "java/lang/invoke/VarHandle" ∧ (parseMethodDescriptor yX4_asNow.desc).map (fun d => d.parameters.length) = some 0 := by decide +kernel
set_option maxHeartbeats 4000000 in
set_option maxRecDepth 100000 in
theorem w_X4_at_0 {p : Program} {l : Launch} {e : Env} {s : State} {m : MethodId} {args : Array Value} {below : List Frame} {meth : Method} {c : Code} {A : Nat → Prop} {D : va_G} {cy : Nat → ClassId} {x0 : Int32} {x1 : Int32} {rr : Int32} (M : kM p s m args meth c cX4_at 2 (some .int) RX4 wsX4_at A D cy)  (h : f_X4_at x0 x1 = some rr) {H : Heap} {locs : List Loc} {ls : Array Slot} (hP : va_P D vwCl [] H) (hD : va_D A []) (hS : va_S A s.heap H locs) (hl : lv_has ls 2 [(0, .int x0), (1, .int x1)]) : W p l e { frames := 0, cells := 0, slots := 0, locals := 0 } s m args below meth c H locs 0 0 (MQ below (qI D [] (rr) A) args s 0 0 A) (F0 m 0 ls []) := by
  obtain ⟨hx, hb, hr, hml, hown, hts, hlk, hA, hK⟩ := id M
  unfold f_X4_at at h
  refine lv_bipush (v := 15) hx hb dX4_at_0 (by decide) ?_
  refine lv_iload_n hx hb dX4_at_2 rfl (lv_at hl 0 rfl) ?_
  refine lv_imul hx hb dX4_at_3 ?_
  refine lv_iconst (v := 3) hx hb dX4_at_4 (by decide) ?_
  refine lv_iload_n hx hb dX4_at_5 rfl (lv_at hl 1 rfl) ?_
  refine lv_imul hx hb dX4_at_6 ?_
  refine lv_iadd hx hb dX4_at_7 ?_
  cases h
  exact kretI hx hb hr hlk hP hS dX4_at_8
theorem c_X4_at {l : Launch} {D : va_G} {cy : Nat → ClassId}  {x0 : Int32} {x1 : Int32} {rr : Int32} (h : f_X4_at x0 x1 = some rr) : CI l D cy yX4_at wsX4_at { frames := 0, cells := 0, slots := 0, locals := 0 } [.int x0, .int x1] [] (rr) [] := by
  refine kofI (cc := cX4_at) (maxL := 2) (ret := (some .int)) (by decide) rfl (Nat.le_of_ble_eq_true rfl) ?_
  intro p e s m below meth c A M ls hl hP hD hS
  exact w_X4_at_0 M h hP hD hS hl
theorem eX4_at : yX4_at.cls ≠ "java/lang/invoke/MethodHandle" ∧ yX4_at.cls ≠ "java/lang/invoke/VarHandle" ∧ (parseMethodDescriptor yX4_at.desc).map (fun d => d.parameters.length) = some 2 := by decide +kernel
theorem iX4_dueNow_X4 : ∀ w ∈ u_ws RX4 TX4 21, w ∈ wsX4_dueNow := by decide +kernel
theorem mX4_dueNow_1 : Cond.fieldLink RX4 28 "LentPilesModel" "nowSize" "[I" ∈ wsX4_dueNow := by decide +kernel
theorem mX4_dueNow_2 : Cond.fieldLink RX4 59 "LentPilesModel" "law" "I" ∈ wsX4_dueNow := by decide +kernel
theorem mX4_dueNow_3 : Cond.fieldLink RX4 31 "LentPilesModel" "nowPile" "[I" ∈ wsX4_dueNow := by decide +kernel
def I_X4_dueNow (p : Program) (l : Launch) (e : Env) (s : State) (m : MethodId) (args : Array Value) (below : List Frame) (meth : Method) (c : Code) (A : Nat → Prop) (D : va_G) (cy : Nat → ClassId) (b0 : Nat → Nat) (uv : MS) (x1 : Int32) (fu : Nat) (rr : Int32) : Prop := (∀ (x3 : Int32) (x4 : Int32) (H : Heap) (locs : List Loc) (ls : Array Slot), lpn (st_X4_dueNow uv x1) fu (x3, x4) = some rr → va_P D vwCl (wM cy b0 uv []) H → va_D A (wM cy b0 uv []) → va_S A s.heap H locs → lv_has ls 5 [(0, .ref (b0 0)), (1, .int x1), (3, .int x3), (4, .int x4)] → W p l e { frames := 1, cells := 0, slots := 0, locals := 21 } s m args below meth c H locs 0 0 (MQ below (qI D (wM cy b0 uv []) (rr) A) args s 0 0 A) (F0 m 39 ls []))
set_option maxHeartbeats 4000000 in
set_option maxRecDepth 100000 in
theorem w_X4_dueNow_39 {p : Program} {l : Launch} {e : Env} {s : State} {m : MethodId} {args : Array Value} {below : List Frame} {meth : Method} {c : Code} {A : Nat → Prop} {D : va_G} {cy : Nat → ClassId} {b0 : Nat → Nat} {uv : MS} {x1 : Int32} {fu : Nat} {rr : Int32} (M : kM p s m args meth c cX4_dueNow 5 (some .int) RX4 wsX4_dueNow A D cy) (ih : I_X4_dueNow p l e s m args below meth c A D cy b0 uv x1 fu rr) {x3 : Int32} {x4 : Int32} {oo : (Int32 × Int32) ⊕ (Int32)} (h : f_X4_dueNow_39 uv x1 x3 x4 = some oo) (hm : lpo (st_X4_dueNow uv x1) fu oo rr) {H : Heap} {locs : List Loc} {ls : Array Slot} (hP : va_P D vwCl (wM cy b0 uv []) H) (hD : va_D A (wM cy b0 uv [])) (hS : va_S A s.heap H locs) (hl : lv_has ls 5 [(0, .ref (b0 0)), (1, .int x1), (3, .int x3), (4, .int x4)]) : W p l e { frames := 1, cells := 0, slots := 0, locals := 21 } s m args below meth c H locs 0 0 (MQ below (qI D (wM cy b0 uv []) (rr) A) args s 0 0 A) (F0 m 39 ls []) := by
  obtain ⟨hx, hb, hr, hml, hown, hts, hlk, hA, hK⟩ := id M
  unfold f_X4_dueNow_39 at h
  refine lv_iload hx hb dX4_dueNow_39 (lv_at hl 3 rfl) ?_
  refine lv_if_lt (tgt := 93) hx hb dX4_dueNow_41 (by decide) (fun c_1 => ?_) (fun c_1 => ?_)
  · replace h := it_p c_1 h
    refine lv_iload_n hx hb dX4_dueNow_93 rfl (lv_at hl 2 rfl) ?_
    cases h
    have hm : _ = rr := hm
    subst hm
    exact kretI hx hb hr hlk hP hS dX4_dueNow_94
  · replace h := it_n c_1 h
    refine lv_aload_n hx hb dX4_dueNow_44 rfl (lv_at hl 0 rfl) ?_
    refine va_get (D := D) (ci := 4) (v := .int uv.1) (C := RX4) (T := TX4) (N := 21) hx hb hts iX4_dueNow_X4 hown hK.1 hP 0 rfl rfl 0 (by decide) (hts _ mX4_dueNow_2) (fun _ h9 => h9) rfl dX4_dueNow_45 ?_
    refine lv_iconst (v := 2) hx hb dX4_dueNow_48 (by decide) ?_
    refine lv_icmp_ne (tgt := 93) hx hb dX4_dueNow_49 (by decide) (fun c_2 => ?_) (fun c_2 => ?_)
    · replace h := it_n c_2 h
      refine lv_iload_n hx hb dX4_dueNow_93 rfl (lv_at hl 2 rfl) ?_
      cases h
      have hm : _ = rr := hm
      subst hm
      exact kretI hx hb hr hlk hP hS dX4_dueNow_94
    · replace h := it_p c_2 h
      refine lv_aload_n hx hb dX4_dueNow_52 rfl (lv_at hl 0 rfl) ?_
      refine va_get (D := D) (ci := 4) (v := .ref (b0 8)) (C := RX4) (T := TX4) (N := 21) hx hb hts iX4_dueNow_X4 hown hK.1 hP 0 rfl rfl 13 (by decide) (hts _ mX4_dueNow_3) (fun _ h9 => h9) rfl dX4_dueNow_53 ?_
      refine lv_iload_n hx hb dX4_dueNow_56 rfl (lv_at hl 1 rfl) ?_
      refine lv_iload hx hb dX4_dueNow_57 (lv_at hl 3 rfl) ?_
      obtain ⟨r_3, hr_3, h⟩ := bn_s h
      refine kcSi (As := [.int x1, .int x4]) (rest := [.ref (b0 8)]) ⟨hx, hb, hml, hown, hts⟩ (va_cwS 2 hts gX4_dueNow_X4_at rfl rfl rfl eX4_at ⟨Nat.le_of_ble_eq_true rfl, Nat.le_of_ble_eq_true rfl⟩) (c_X4_at  hr_3) hK hP hS hA rfl hl.1 rfl (Nat.le_of_ble_eq_true rfl) dX4_dueNow_59 (fun H locs hP hS => ?_)
      refine lv_iconst (v := 1) hx hb dX4_dueNow_62 (by decide) ?_
      refine lv_iadd hx hb dX4_dueNow_63 ?_
      obtain ⟨b_4, h⟩ := ck_s h
      refine va_iald hx hb hK.1 hP 8 1 rfl rfl b_4 dX4_dueNow_64 ?_
      refine lv_aload_n hx hb dX4_dueNow_65 rfl (lv_at hl 0 rfl) ?_
      refine va_get (D := D) (ci := 4) (v := .ref (b0 8)) (C := RX4) (T := TX4) (N := 21) hx hb hts iX4_dueNow_X4 hown hK.1 hP 0 rfl rfl 13 (by decide) (hts _ mX4_dueNow_3) (fun _ h9 => h9) rfl dX4_dueNow_66 ?_
      refine lv_iload_n hx hb dX4_dueNow_69 rfl (lv_at hl 1 rfl) ?_
      refine lv_iload_n hx hb dX4_dueNow_70 rfl (lv_at hl 2 rfl) ?_
      obtain ⟨r_5, hr_5, h⟩ := bn_s h
      refine kcSi (As := [.int x1, .int x3]) (rest := [.ref (b0 8), .int (uv.2.2.2.2.2.2.2.2.2.2.2.2.2.1 (r_3 + (1 : Int32)).toNatClampNeg)]) ⟨hx, hb, hml, hown, hts⟩ (va_cwS 2 hts gX4_dueNow_X4_at rfl rfl rfl eX4_at ⟨Nat.le_of_ble_eq_true rfl, Nat.le_of_ble_eq_true rfl⟩) (c_X4_at  hr_5) hK hP hS hA rfl hl.1 rfl (Nat.le_of_ble_eq_true rfl) dX4_dueNow_71 (fun H locs hP hS => ?_)
      refine lv_iconst (v := 1) hx hb dX4_dueNow_74 (by decide) ?_
      refine lv_iadd hx hb dX4_dueNow_75 ?_
      obtain ⟨b_6, h⟩ := ck_s h
      refine va_iald hx hb hK.1 hP 8 1 rfl rfl b_6 dX4_dueNow_76 ?_
      refine lv_icmp_le (tgt := 85) hx hb dX4_dueNow_77 (by decide) (fun c_7 => ?_) (fun c_7 => ?_)
      · replace h := it_p c_7 h
        refine lv_iload_n hx hb dX4_dueNow_85 rfl (lv_at hl 2 rfl) ?_
        refine lv_istore_n (lv' := [(3, .int x3), (0, .ref (b0 0)), (1, .int x1), (4, .int x4)]) hx hb dX4_dueNow_86 rfl hl (by decide) rfl (fun ls hl => ?_)
        obtain ⟨x4_8, ex4_8⟩ : ∃ z : Int32, z = (x4 + (-1 : Int32)) := ⟨_, rfl⟩
        replace h := nm_s h ex4_8
        refine lv_iinc (v := x4_8) (lv' := [(4, .int x4_8), (3, .int x3), (0, .ref (b0 0)), (1, .int x1)]) hx hb dX4_dueNow_87 hl (k := 3) rfl (by rw [ex4_8]; rfl) (by decide) rfl (fun ls hl => ?_)
        refine lv_goto (tgt := 39) hx hb dX4_dueNow_90 (by decide) ?_
        cases h
        exact ih x3 x4_8 _ _ _ hm hP hD hS (lv_sub hl [2, 3, 1, 0] rfl)
      · replace h := it_n c_7 h
        refine lv_iload hx hb dX4_dueNow_80 (lv_at hl 3 rfl) ?_
        refine lv_goto (tgt := 86) hx hb dX4_dueNow_82 (by decide) ?_
        refine lv_istore_n (lv' := [(3, .int x4), (0, .ref (b0 0)), (1, .int x1), (4, .int x4)]) hx hb dX4_dueNow_86 rfl hl (by decide) rfl (fun ls hl => ?_)
        obtain ⟨x4_9, ex4_9⟩ : ∃ z : Int32, z = (x4 + (-1 : Int32)) := ⟨_, rfl⟩
        replace h := nm_s h ex4_9
        refine lv_iinc (v := x4_9) (lv' := [(4, .int x4_9), (3, .int x4), (0, .ref (b0 0)), (1, .int x1)]) hx hb dX4_dueNow_87 hl (k := 3) rfl (by rw [ex4_9]; rfl) (by decide) rfl (fun ls hl => ?_)
        refine lv_goto (tgt := 39) hx hb dX4_dueNow_90 (by decide) ?_
        cases h
        exact ih x4 x4_9 _ _ _ hm hP hD hS (lv_sub hl [2, 3, 1, 0] rfl)
set_option maxHeartbeats 4000000 in
set_option maxRecDepth 100000 in
theorem w_X4_dueNow_19 {p : Program} {l : Launch} {e : Env} {s : State} {m : MethodId} {args : Array Value} {below : List Frame} {meth : Method} {c : Code} {A : Nat → Prop} {D : va_G} {cy : Nat → ClassId} {b0 : Nat → Nat} {uv : MS} {x1 : Int32} {fu : Nat} {rr : Int32} (M : kM p s m args meth c cX4_dueNow 5 (some .int) RX4 wsX4_dueNow A D cy) (ih : I_X4_dueNow p l e s m args below meth c A D cy b0 uv x1 fu rr) {x2 : Int32} {oo : (Int32 × Int32) ⊕ (Int32)} (h : f_X4_dueNow_19 uv x1 x2 = some oo) (hm : lpo (st_X4_dueNow uv x1) fu oo rr) {H : Heap} {locs : List Loc} {ls : Array Slot} (hP : va_P D vwCl (wM cy b0 uv []) H) (hD : va_D A (wM cy b0 uv [])) (hS : va_S A s.heap H locs) (hl : lv_has ls 5 [(0, .ref (b0 0)), (1, .int x1), (2, .int x2)]) : W p l e { frames := 1, cells := 0, slots := 0, locals := 21 } s m args below meth c H locs 0 0 (MQ below (qI D (wM cy b0 uv []) (rr) A) args s 0 0 A) (F0 m 19 ls []) := by
  obtain ⟨hx, hb, hr, hml, hown, hts, hlk, hA, hK⟩ := id M
  unfold f_X4_dueNow_19 at h
  refine lv_iload_n hx hb dX4_dueNow_19 rfl (lv_at hl 2 rfl) ?_
  refine lv_if_ne (tgt := 28) hx hb dX4_dueNow_20 (by decide) (fun c_1 => ?_) (fun c_1 => ?_)
  · replace h := it_n c_1 h
    refine lv_iconst (v := 0) hx hb dX4_dueNow_28 (by decide) ?_
    cases h
    have hm : _ = rr := hm
    subst hm
    exact kretI hx hb hr hlk hP hS dX4_dueNow_29
  · replace h := it_p c_1 h
    refine lv_bipush (v := (-6)) hx hb dX4_dueNow_23 (by decide) ?_
    refine lv_goto (tgt := 29) hx hb dX4_dueNow_25 (by decide) ?_
    cases h
    have hm : _ = rr := hm
    subst hm
    exact kretI hx hb hr hlk hP hS dX4_dueNow_29
set_option maxHeartbeats 4000000 in
set_option maxRecDepth 100000 in
theorem w_X4_dueNow_0 {p : Program} {l : Launch} {e : Env} {s : State} {m : MethodId} {args : Array Value} {below : List Frame} {meth : Method} {c : Code} {A : Nat → Prop} {D : va_G} {cy : Nat → ClassId} {b0 : Nat → Nat} {uv : MS} {x1 : Int32} {fu : Nat} {rr : Int32} (M : kM p s m args meth c cX4_dueNow 5 (some .int) RX4 wsX4_dueNow A D cy) (ih : I_X4_dueNow p l e s m args below meth c A D cy b0 uv x1 fu rr)  {oo : (Int32 × Int32) ⊕ (Int32)} (h : f_X4_dueNow_0 uv x1 = some oo) (hm : lpo (st_X4_dueNow uv x1) fu oo rr) {H : Heap} {locs : List Loc} {ls : Array Slot} (hP : va_P D vwCl (wM cy b0 uv []) H) (hD : va_D A (wM cy b0 uv [])) (hS : va_S A s.heap H locs) (hl : lv_has ls 5 [(0, .ref (b0 0)), (1, .int x1)]) : W p l e { frames := 1, cells := 0, slots := 0, locals := 21 } s m args below meth c H locs 0 0 (MQ below (qI D (wM cy b0 uv []) (rr) A) args s 0 0 A) (F0 m 0 ls []) := by
  obtain ⟨hx, hb, hr, hml, hown, hts, hlk, hA, hK⟩ := id M
  unfold f_X4_dueNow_0 at h
  refine lv_aload_n hx hb dX4_dueNow_0 rfl (lv_at hl 0 rfl) ?_
  refine va_get (D := D) (ci := 4) (v := .ref (b0 7)) (C := RX4) (T := TX4) (N := 21) hx hb hts iX4_dueNow_X4 hown hK.1 hP 0 rfl rfl 12 (by decide) (hts _ mX4_dueNow_1) (fun _ h9 => h9) rfl dX4_dueNow_1 ?_
  refine lv_iload_n hx hb dX4_dueNow_4 rfl (lv_at hl 1 rfl) ?_
  obtain ⟨b_1, h⟩ := ck_s h
  refine va_iald hx hb hK.1 hP 7 1 rfl rfl b_1 dX4_dueNow_5 ?_
  refine lv_topi (fun x2_2 ex2_2 => ?_)
  replace h := nm_s h ex2_2
  refine lv_istore_n (lv' := [(2, .int x2_2), (0, .ref (b0 0)), (1, .int x1)]) hx hb dX4_dueNow_6 rfl hl (by decide) rfl (fun ls hl => ?_)
  refine lv_iload_n hx hb dX4_dueNow_7 rfl (lv_at hl 0 rfl) ?_
  refine lv_if_eq (tgt := 19) hx hb dX4_dueNow_8 (by decide) (fun c_3 => ?_) (fun c_3 => ?_)
  · replace h := it_p c_3 h
    exact w_X4_dueNow_19 M ih h hm hP hD hS (lv_sub hl [1, 2, 0] rfl)
  · replace h := it_n c_3 h
    refine lv_aload_n hx hb dX4_dueNow_11 rfl (lv_at hl 1 rfl) ?_
    refine va_get (D := D) (ci := 4) (v := .int uv.1) (C := RX4) (T := TX4) (N := 21) hx hb hts iX4_dueNow_X4 hown hK.1 hP 0 rfl rfl 0 (by decide) (hts _ mX4_dueNow_2) (fun _ h9 => h9) rfl dX4_dueNow_12 ?_
    refine lv_iconst (v := 1) hx hb dX4_dueNow_15 (by decide) ?_
    refine lv_icmp_ne (tgt := 30) hx hb dX4_dueNow_16 (by decide) (fun c_4 => ?_) (fun c_4 => ?_)
    · replace h := it_n c_4 h
      refine lv_iload_n hx hb dX4_dueNow_30 rfl (lv_at hl 0 rfl) ?_
      refine lv_iconst (v := 1) hx hb dX4_dueNow_31 (by decide) ?_
      refine lv_isub hx hb dX4_dueNow_32 ?_
      refine lv_topi (fun x3_5 ex3_5 => ?_)
      replace h := nm_s h ex3_5
      refine lv_istore_n (lv' := [(3, .int x3_5), (2, .int x2_2), (0, .ref (b0 0)), (1, .int x1)]) hx hb dX4_dueNow_33 rfl hl (by decide) rfl (fun ls hl => ?_)
      refine lv_iload_n hx hb dX4_dueNow_34 rfl (lv_at hl 1 rfl) ?_
      refine lv_iconst (v := 2) hx hb dX4_dueNow_35 (by decide) ?_
      refine lv_isub hx hb dX4_dueNow_36 ?_
      refine lv_topi (fun x4_6 ex4_6 => ?_)
      replace h := nm_s h ex4_6
      refine lv_istore (lv' := [(4, .int x4_6), (3, .int x3_5), (2, .int x2_2), (0, .ref (b0 0)), (1, .int x1)]) hx hb dX4_dueNow_37 hl (by decide) rfl (fun ls hl => ?_)
      cases h
      exact ih x3_5 x4_6 _ _ _ hm hP hD hS (lv_sub hl [3, 4, 1, 0] rfl)
    · replace h := it_p c_4 h
      exact w_X4_dueNow_19 M ih h hm hP hD hS (lv_sub hl [1, 2, 0] rfl)
theorem wl_X4_dueNow {p : Program} {l : Launch} {e : Env} {s : State} {m : MethodId} {args : Array Value} {below : List Frame} {meth : Method} {c : Code} {A : Nat → Prop} {D : va_G} {cy : Nat → ClassId} {b0 : Nat → Nat} {uv : MS} {x1 : Int32} {rr : Int32} (M : kM p s m args meth c cX4_dueNow 5 (some .int) RX4 wsX4_dueNow A D cy) : ∀ fu : Nat, I_X4_dueNow p l e s m args below meth c A D cy b0 uv x1 fu rr := by
  intro fu
  induction fu with
  | zero => exact (fun _ _ _ _ _ h => by cases h)
  | succ fu ih =>
    exact fun x3 x4 H locs ls h hP hD hS hl => by
      obtain ⟨o1, h1, h2⟩ := lpn_s h
      exact w_X4_dueNow_39 M ih h1 h2 hP hD hS hl
theorem c_X4_dueNow {l : Launch} {D : va_G} {cy : Nat → ClassId} (b0 : Nat → Nat) {uv : MS} {x1 : Int32} {rr : Int32} (h : f_X4_dueNow uv x1 = some rr) : CI l D cy yX4_dueNow wsX4_dueNow { frames := 1, cells := 0, slots := 0, locals := 21 } [.ref (b0 0), .int x1] (wM cy b0 uv []) (rr) (wM cy b0 uv []) := by
  refine kofI (cc := cX4_dueNow) (maxL := 5) (ret := (some .int)) (by decide) rfl (Nat.le_of_ble_eq_true rfl) ?_
  intro p e s m below meth c A M ls hl hP hD hS
  obtain ⟨o1, fu, h1, h2⟩ := rnx_s h
  exact w_X4_dueNow_0 M (wl_X4_dueNow M fu) h1 h2 hP hD hS hl
theorem eX4_dueNow : yX4_dueNow.cls ≠ "java/lang/invoke/MethodHandle" ∧ yX4_dueNow.cls ≠ "java/lang/invoke/VarHandle" ∧ (parseMethodDescriptor yX4_dueNow.desc).map (fun d => d.parameters.length) = some 1 := by decide +kernel
theorem iX4_penceDue_X4 : ∀ w ∈ u_ws RX4 TX4 21, w ∈ wsX4_penceDue := by decide +kernel
theorem mX4_penceDue_1 : Cond.fieldLink RX4 31 "LentPilesModel" "nowPile" "[I" ∈ wsX4_penceDue := by decide +kernel
set_option maxHeartbeats 4000000 in
set_option maxRecDepth 100000 in
theorem w_X4_penceDue_0 {p : Program} {l : Launch} {e : Env} {s : State} {m : MethodId} {args : Array Value} {below : List Frame} {meth : Method} {c : Code} {A : Nat → Prop} {D : va_G} {cy : Nat → ClassId} {b0 : Nat → Nat} {uv : MS} {x1 : Int32} {rr : Int32} (M : kM p s m args meth c cX4_penceDue 3 (some .int) RX4 wsX4_penceDue A D cy)  (h : f_X4_penceDue uv x1 = some rr) {H : Heap} {locs : List Loc} {ls : Array Slot} (hP : va_P D vwCl (wM cy b0 uv []) H) (hD : va_D A (wM cy b0 uv [])) (hS : va_S A s.heap H locs) (hl : lv_has ls 3 [(0, .ref (b0 0)), (1, .int x1)]) : W p l e { frames := 2, cells := 0, slots := 0, locals := 45 } s m args below meth c H locs 0 0 (MQ below (qI D (wM cy b0 uv []) (rr) A) args s 0 0 A) (F0 m 0 ls []) := by
  obtain ⟨hx, hb, hr, hml, hown, hts, hlk, hA, hK⟩ := id M
  unfold f_X4_penceDue at h
  refine lv_aload_n hx hb dX4_penceDue_0 rfl (lv_at hl 0 rfl) ?_
  refine lv_iload_n hx hb dX4_penceDue_1 rfl (lv_at hl 1 rfl) ?_
  obtain ⟨r_1, hr_1, h⟩ := bn_s h
  refine kcVi (As := [.int x1]) (rest := []) (ws' := (wM cy b0 uv [])) ⟨hx, hb, hml, hown, hts⟩ (cwV 1 hts gX4_penceDue_X4_dueNow rfl rfl rfl ⟨rfl, eX4_dueNow⟩ ⟨Nat.le_of_ble_eq_true rfl, Nat.le_of_ble_eq_true rfl⟩) (c_X4_dueNow b0 hr_1) hK hP hD hS hA [0, 1, 2, 3, 4, 5, 6, 7, 8, 9, 10, 11, 12, 13] [] (by decide) rfl rfl 4 rfl rfl [(b0 0), (b0 1), (b0 2), (b0 3), (b0 4), (b0 5), (b0 6), (b0 7), (b0 8), (b0 9), (b0 10), (b0 11), (b0 12), (b0 13)] rfl rfl rfl [] rfl rfl rfl rfl hl.1 rfl (Nat.le_of_ble_eq_true rfl) dX4_penceDue_2 (fun H locs hP hD hS => ?_)
  refine lv_istore_n (lv' := [(2, .int r_1), (0, .ref (b0 0)), (1, .int x1)]) hx hb dX4_penceDue_5 rfl hl (by decide) rfl (fun ls hl => ?_)
  refine lv_iload_n hx hb dX4_penceDue_6 rfl (lv_at hl 0 rfl) ?_
  refine lv_if_ge (tgt := 15) hx hb dX4_penceDue_7 (by decide) (fun c_2 => ?_) (fun c_2 => ?_)
  · replace h := it_p c_2 h
    refine lv_aload_n hx hb dX4_penceDue_15 rfl (lv_at hl 1 rfl) ?_
    refine va_get (D := D) (ci := 4) (v := .ref (b0 8)) (C := RX4) (T := TX4) (N := 21) hx hb hts iX4_penceDue_X4 hown hK.1 hP 0 rfl rfl 13 (by decide) (hts _ mX4_penceDue_1) (fun _ h9 => h9) rfl dX4_penceDue_16 ?_
    refine lv_iload_n hx hb dX4_penceDue_19 rfl (lv_at hl 2 rfl) ?_
    refine lv_iload_n hx hb dX4_penceDue_20 rfl (lv_at hl 0 rfl) ?_
    obtain ⟨r_3, hr_3, h⟩ := bn_s h
    refine kcSi (As := [.int x1, .int r_1]) (rest := [.ref (b0 8)]) ⟨hx, hb, hml, hown, hts⟩ (va_cwS 2 hts gX4_penceDue_X4_at rfl rfl rfl eX4_at ⟨Nat.le_of_ble_eq_true rfl, Nat.le_of_ble_eq_true rfl⟩) (c_X4_at  hr_3) hK hP hS hA rfl hl.1 rfl (Nat.le_of_ble_eq_true rfl) dX4_penceDue_21 (fun H locs hP hS => ?_)
    refine lv_iconst (v := 1) hx hb dX4_penceDue_24 (by decide) ?_
    refine lv_iadd hx hb dX4_penceDue_25 ?_
    obtain ⟨b_4, h⟩ := ck_s h
    refine va_iald hx hb hK.1 hP 8 1 rfl rfl b_4 dX4_penceDue_26 ?_
    cases h
    exact kretI hx hb hr hlk hP hS dX4_penceDue_27
  · replace h := it_n c_2 h
    refine lv_bipush (v := (-6)) hx hb dX4_penceDue_10 (by decide) ?_
    refine lv_goto (tgt := 27) hx hb dX4_penceDue_12 (by decide) ?_
    cases h
    exact kretI hx hb hr hlk hP hS dX4_penceDue_27
theorem c_X4_penceDue {l : Launch} {D : va_G} {cy : Nat → ClassId} (b0 : Nat → Nat) {uv : MS} {x1 : Int32} {rr : Int32} (h : f_X4_penceDue uv x1 = some rr) : CI l D cy yX4_penceDue wsX4_penceDue { frames := 2, cells := 0, slots := 0, locals := 45 } [.ref (b0 0), .int x1] (wM cy b0 uv []) (rr) (wM cy b0 uv []) := by
  refine kofI (cc := cX4_penceDue) (maxL := 3) (ret := (some .int)) (by decide) rfl (Nat.le_of_ble_eq_true rfl) ?_
  intro p e s m below meth c A M ls hl hP hD hS
  exact w_X4_penceDue_0 M h hP hD hS hl
theorem eX4_penceDue : yX4_penceDue.cls ≠ "java/lang/invoke/MethodHandle" ∧ yX4_penceDue.cls ≠ "java/lang/invoke/VarHandle" ∧ (parseMethodDescriptor yX4_penceDue.desc).map (fun d => d.parameters.length) = some 1 := by decide +kernel
theorem iX4_canPay_X4 : ∀ w ∈ u_ws RX4 TX4 21, w ∈ wsX4_canPay := by decide +kernel
theorem mX4_canPay_1 : Cond.fieldLink RX4 25 "LentPilesModel" "nowMoney" "[I" ∈ wsX4_canPay := by decide +kernel
set_option maxHeartbeats 4000000 in
set_option maxRecDepth 100000 in
theorem w_X4_canPay_0 {p : Program} {l : Launch} {e : Env} {s : State} {m : MethodId} {args : Array Value} {below : List Frame} {meth : Method} {c : Code} {A : Nat → Prop} {D : va_G} {cy : Nat → ClassId} {b0 : Nat → Nat} {uv : MS} {x1 : Int32} {rr : Int32} (M : kM p s m args meth c cX4_canPay 3 (some .boolean) RX4 wsX4_canPay A D cy)  (h : f_X4_canPay uv x1 = some rr) {H : Heap} {locs : List Loc} {ls : Array Slot} (hP : va_P D vwCl (wM cy b0 uv []) H) (hD : va_D A (wM cy b0 uv [])) (hS : va_S A s.heap H locs) (hl : lv_has ls 3 [(0, .ref (b0 0)), (1, .int x1)]) : W p l e { frames := 3, cells := 0, slots := 0, locals := 67 } s m args below meth c H locs 0 0 (MQ below (qI D (wM cy b0 uv []) (rr) A) args s 0 0 A) (F0 m 0 ls []) := by
  obtain ⟨hx, hb, hr, hml, hown, hts, hlk, hA, hK⟩ := id M
  unfold f_X4_canPay at h
  refine lv_aload_n hx hb dX4_canPay_0 rfl (lv_at hl 0 rfl) ?_
  refine lv_iload_n hx hb dX4_canPay_1 rfl (lv_at hl 1 rfl) ?_
  obtain ⟨r_1, hr_1, h⟩ := bn_s h
  refine kcVi (As := [.int x1]) (rest := []) (ws' := (wM cy b0 uv [])) ⟨hx, hb, hml, hown, hts⟩ (cwV 1 hts gX4_canPay_X4_penceDue rfl rfl rfl ⟨rfl, eX4_penceDue⟩ ⟨Nat.le_of_ble_eq_true rfl, Nat.le_of_ble_eq_true rfl⟩) (c_X4_penceDue b0 hr_1) hK hP hD hS hA [0, 1, 2, 3, 4, 5, 6, 7, 8, 9, 10, 11, 12, 13] [] (by decide) rfl rfl 4 rfl rfl [(b0 0), (b0 1), (b0 2), (b0 3), (b0 4), (b0 5), (b0 6), (b0 7), (b0 8), (b0 9), (b0 10), (b0 11), (b0 12), (b0 13)] rfl rfl rfl [] rfl rfl rfl rfl hl.1 rfl (Nat.le_of_ble_eq_true rfl) dX4_canPay_2 (fun H locs hP hD hS => ?_)
  refine lv_istore_n (lv' := [(2, .int r_1), (0, .ref (b0 0)), (1, .int x1)]) hx hb dX4_canPay_5 rfl hl (by decide) rfl (fun ls hl => ?_)
  refine lv_iload_n hx hb dX4_canPay_6 rfl (lv_at hl 0 rfl) ?_
  refine lv_if_lt (tgt := 24) hx hb dX4_canPay_7 (by decide) (fun c_2 => ?_) (fun c_2 => ?_)
  · replace h := it_p c_2 h
    refine lv_iconst (v := 0) hx hb dX4_canPay_24 (by decide) ?_
    cases h
    exact kretZ (r0 := (0 : Int32)) (ty := .boolean) hx hb hr hlk hP hS (by decide) dX4_canPay_25
  · replace h := it_n c_2 h
    refine lv_aload_n hx hb dX4_canPay_10 rfl (lv_at hl 1 rfl) ?_
    refine va_get (D := D) (ci := 4) (v := .ref (b0 6)) (C := RX4) (T := TX4) (N := 21) hx hb hts iX4_canPay_X4 hown hK.1 hP 0 rfl rfl 11 (by decide) (hts _ mX4_canPay_1) (fun _ h9 => h9) rfl dX4_canPay_11 ?_
    refine lv_iload_n hx hb dX4_canPay_14 rfl (lv_at hl 2 rfl) ?_
    obtain ⟨b_3, h⟩ := ck_s h
    refine va_iald hx hb hK.1 hP 6 1 rfl rfl b_3 dX4_canPay_15 ?_
    refine lv_iload_n hx hb dX4_canPay_16 rfl (lv_at hl 0 rfl) ?_
    refine lv_icmp_lt (tgt := 24) hx hb dX4_canPay_17 (by decide) (fun c_4 => ?_) (fun c_4 => ?_)
    · replace h := it_p c_4 h
      refine lv_iconst (v := 0) hx hb dX4_canPay_24 (by decide) ?_
      cases h
      exact kretZ (r0 := (0 : Int32)) (ty := .boolean) hx hb hr hlk hP hS (by decide) dX4_canPay_25
    · replace h := it_n c_4 h
      refine lv_iconst (v := 1) hx hb dX4_canPay_20 (by decide) ?_
      refine lv_goto (tgt := 25) hx hb dX4_canPay_21 (by decide) ?_
      cases h
      exact kretZ (r0 := (1 : Int32)) (ty := .boolean) hx hb hr hlk hP hS (by decide) dX4_canPay_25
theorem c_X4_canPay {l : Launch} {D : va_G} {cy : Nat → ClassId} (b0 : Nat → Nat) {uv : MS} {x1 : Int32} {rr : Int32} (h : f_X4_canPay uv x1 = some rr) : CI l D cy yX4_canPay wsX4_canPay { frames := 3, cells := 0, slots := 0, locals := 67 } [.ref (b0 0), .int x1] (wM cy b0 uv []) (rr) (wM cy b0 uv []) := by
  refine kofI (cc := cX4_canPay) (maxL := 3) (ret := (some .boolean)) (by decide) rfl (Nat.le_of_ble_eq_true rfl) ?_
  intro p e s m below meth c A M ls hl hP hD hS
  exact w_X4_canPay_0 M h hP hD hS hl
theorem eX4_canPay : yX4_canPay.cls ≠ "java/lang/invoke/MethodHandle" ∧ yX4_canPay.cls ≠ "java/lang/invoke/VarHandle" ∧ (parseMethodDescriptor yX4_canPay.desc).map (fun d => d.parameters.length) = some 1 := by decide +kernel
theorem iX4_takeOut_X4 : ∀ w ∈ u_ws RX4 TX4 21, w ∈ wsX4_takeOut := by decide +kernel
theorem mX4_takeOut_1 : Cond.fieldLink RX4 28 "LentPilesModel" "nowSize" "[I" ∈ wsX4_takeOut := by decide +kernel
theorem mX4_takeOut_2 : Cond.fieldLink RX4 31 "LentPilesModel" "nowPile" "[I" ∈ wsX4_takeOut := by decide +kernel
def I_X4_takeOut (p : Program) (l : Launch) (e : Env) (s : State) (m : MethodId) (args : Array Value) (below : List Frame) (meth : Method) (c : Code) (A : Nat → Prop) (D : va_G) (cy : Nat → ClassId) (b0 : Nat → Nat) (x1 : Int32) (x2 : Int32) (fu : Nat) (rr : MS) : Prop := (∀ (uv : MS) (x3 : Int32) (H : Heap) (locs : List Loc) (ls : Array Slot), lpn (st_X4_takeOut x1 x2) fu (uv, x3) = some rr → va_P D vwCl (wM cy b0 uv []) H → va_D A (wM cy b0 uv []) → va_S A s.heap H locs → lv_has ls 4 [(0, .ref (b0 0)), (1, .int x1), (2, .int x2), (3, .int x3)] → W p l e { frames := 1, cells := 0, slots := 0, locals := 21 } s m args below meth c H locs 0 0 (MQ below (qV D (wM cy b0 rr []) A) args s 0 0 A) (F0 m 6 ls []))
set_option maxHeartbeats 4000000 in
set_option maxRecDepth 100000 in
theorem w_X4_takeOut_6 {p : Program} {l : Launch} {e : Env} {s : State} {m : MethodId} {args : Array Value} {below : List Frame} {meth : Method} {c : Code} {A : Nat → Prop} {D : va_G} {cy : Nat → ClassId} {b0 : Nat → Nat} {x1 : Int32} {x2 : Int32} {fu : Nat} {rr : MS} (M : kM p s m args meth c cX4_takeOut 4 none RX4 wsX4_takeOut A D cy) (ih : I_X4_takeOut p l e s m args below meth c A D cy b0 x1 x2 fu rr) {uv : MS} {x3 : Int32} {oo : (MS × Int32) ⊕ (MS)} (h : f_X4_takeOut_6 x1 x2 uv x3 = some oo) (hm : lpo (st_X4_takeOut x1 x2) fu oo rr) {H : Heap} {locs : List Loc} {ls : Array Slot} (hP : va_P D vwCl (wM cy b0 uv []) H) (hD : va_D A (wM cy b0 uv [])) (hS : va_S A s.heap H locs) (hl : lv_has ls 4 [(0, .ref (b0 0)), (1, .int x1), (2, .int x2), (3, .int x3)]) : W p l e { frames := 1, cells := 0, slots := 0, locals := 21 } s m args below meth c H locs 0 0 (MQ below (qV D (wM cy b0 rr []) A) args s 0 0 A) (F0 m 6 ls []) := by
  obtain ⟨hx, hb, hr, hml, hown, hts, hlk, hA, hK⟩ := id M
  unfold f_X4_takeOut_6 at h
  refine lv_iload_n hx hb dX4_takeOut_6 rfl (lv_at hl 3 rfl) ?_
  refine lv_iload_n hx hb dX4_takeOut_7 rfl (lv_at hl 1 rfl) ?_
  refine lv_aload_n hx hb dX4_takeOut_8 rfl (lv_at hl 0 rfl) ?_
  refine va_get (D := D) (ci := 4) (v := .ref (b0 7)) (C := RX4) (T := TX4) (N := 21) hx hb hts iX4_takeOut_X4 hown hK.1 hP 0 rfl rfl 12 (by decide) (hts _ mX4_takeOut_1) (fun _ h9 => h9) rfl dX4_takeOut_9 ?_
  refine lv_iload_n hx hb dX4_takeOut_12 rfl (lv_at hl 1 rfl) ?_
  obtain ⟨b_1, h⟩ := ck_s h
  refine va_iald hx hb hK.1 hP 7 1 rfl rfl b_1 dX4_takeOut_13 ?_
  refine lv_iconst (v := 1) hx hb dX4_takeOut_14 (by decide) ?_
  refine lv_isub hx hb dX4_takeOut_15 ?_
  obtain ⟨r_2, hr_2, h⟩ := bn_s h
  refine kcSi (As := [.int x1, .int ((uv.2.2.2.2.2.2.2.2.2.2.2.2.1 x1.toNatClampNeg) - (1 : Int32))]) (rest := [.int x3]) ⟨hx, hb, hml, hown, hts⟩ (va_cwS 2 hts gX4_takeOut_X4_at rfl rfl rfl eX4_at ⟨Nat.le_of_ble_eq_true rfl, Nat.le_of_ble_eq_true rfl⟩) (c_X4_at  hr_2) hK hP hS hA rfl hl.1 rfl (Nat.le_of_ble_eq_true rfl) dX4_takeOut_16 (fun H locs hP hS => ?_)
  refine lv_icmp_ge (tgt := 42) hx hb dX4_takeOut_19 (by decide) (fun c_3 => ?_) (fun c_3 => ?_)
  · replace h := it_p c_3 h
    refine lv_aload_n hx hb dX4_takeOut_42 rfl (lv_at hl 0 rfl) ?_
    refine va_get (D := D) (ci := 4) (v := .ref (b0 7)) (C := RX4) (T := TX4) (N := 21) hx hb hts iX4_takeOut_X4 hown hK.1 hP 0 rfl rfl 12 (by decide) (hts _ mX4_takeOut_1) (fun _ h9 => h9) rfl dX4_takeOut_43 ?_
    refine lv_iload_n hx hb dX4_takeOut_46 rfl (lv_at hl 1 rfl) ?_
    refine lv_dup2_11 hx hb dX4_takeOut_47 rfl rfl ?_
    refine va_iald hx hb hK.1 hP 7 1 rfl rfl b_1 dX4_takeOut_48 ?_
    refine lv_iconst (v := 1) hx hb dX4_takeOut_49 (by decide) ?_
    refine lv_isub hx hb dX4_takeOut_50 ?_
    refine va_iast hx hb hK.1 hP hD hS 7 1 rfl rfl b_1 dX4_takeOut_51 (fun H locs hP hD hS => ?_)
    obtain ⟨uv_4, euv_4⟩ : ∃ z : MS, z = (uv.1, uv.2.1, uv.2.2.1, uv.2.2.2.1, uv.2.2.2.2.1, uv.2.2.2.2.2.1, uv.2.2.2.2.2.2.1, uv.2.2.2.2.2.2.2.1, uv.2.2.2.2.2.2.2.2.1, uv.2.2.2.2.2.2.2.2.2.1, uv.2.2.2.2.2.2.2.2.2.2.1, uv.2.2.2.2.2.2.2.2.2.2.2.1, (upd uv.2.2.2.2.2.2.2.2.2.2.2.2.1 x1.toNatClampNeg ((uv.2.2.2.2.2.2.2.2.2.2.2.2.1 x1.toNatClampNeg) - (1 : Int32))), uv.2.2.2.2.2.2.2.2.2.2.2.2.2) := ⟨_, rfl⟩
    replace h := nm_s h euv_4
    have hP : va_P D vwCl (wM cy b0 uv_4 []) H := by subst euv_4; exact hP
    have hD : va_D A (wM cy b0 uv_4 []) := hD.lk [(b0 0), (b0 1), (b0 2), (b0 3), (b0 4), (b0 5), (b0 6), (b0 7), (b0 8), (b0 9), (b0 10), (b0 11), (b0 12), (b0 13)] rfl rfl
    cases h
    have hm : _ = rr := hm
    subst hm
    exact kretV hx hb hr hlk hP hS dX4_takeOut_52
  · replace h := it_n c_3 h
    refine lv_aload_n hx hb dX4_takeOut_22 rfl (lv_at hl 0 rfl) ?_
    refine va_get (D := D) (ci := 4) (v := .ref (b0 8)) (C := RX4) (T := TX4) (N := 21) hx hb hts iX4_takeOut_X4 hown hK.1 hP 0 rfl rfl 13 (by decide) (hts _ mX4_takeOut_2) (fun _ h9 => h9) rfl dX4_takeOut_23 ?_
    refine lv_iload_n hx hb dX4_takeOut_26 rfl (lv_at hl 3 rfl) ?_
    refine lv_aload_n hx hb dX4_takeOut_27 rfl (lv_at hl 0 rfl) ?_
    refine va_get (D := D) (ci := 4) (v := .ref (b0 8)) (C := RX4) (T := TX4) (N := 21) hx hb hts iX4_takeOut_X4 hown hK.1 hP 0 rfl rfl 13 (by decide) (hts _ mX4_takeOut_2) (fun _ h9 => h9) rfl dX4_takeOut_28 ?_
    refine lv_iload_n hx hb dX4_takeOut_31 rfl (lv_at hl 3 rfl) ?_
    refine lv_iconst (v := 3) hx hb dX4_takeOut_32 (by decide) ?_
    refine lv_iadd hx hb dX4_takeOut_33 ?_
    obtain ⟨b_5, h⟩ := ck_s h
    refine va_iald hx hb hK.1 hP 8 1 rfl rfl b_5 dX4_takeOut_34 ?_
    obtain ⟨b_6, h⟩ := ck_s h
    refine va_iast hx hb hK.1 hP hD hS 8 1 rfl rfl b_6 dX4_takeOut_35 (fun H locs hP hD hS => ?_)
    obtain ⟨uv_7, euv_7⟩ : ∃ z : MS, z = (uv.1, uv.2.1, uv.2.2.1, uv.2.2.2.1, uv.2.2.2.2.1, uv.2.2.2.2.2.1, uv.2.2.2.2.2.2.1, uv.2.2.2.2.2.2.2.1, uv.2.2.2.2.2.2.2.2.1, uv.2.2.2.2.2.2.2.2.2.1, uv.2.2.2.2.2.2.2.2.2.2.1, uv.2.2.2.2.2.2.2.2.2.2.2.1, uv.2.2.2.2.2.2.2.2.2.2.2.2.1, (upd uv.2.2.2.2.2.2.2.2.2.2.2.2.2.1 x3.toNatClampNeg (uv.2.2.2.2.2.2.2.2.2.2.2.2.2.1 (x3 + (3 : Int32)).toNatClampNeg)), uv.2.2.2.2.2.2.2.2.2.2.2.2.2.2) := ⟨_, rfl⟩
    replace h := nm_s h euv_7
    have hP : va_P D vwCl (wM cy b0 uv_7 []) H := by subst euv_7; exact hP
    have hD : va_D A (wM cy b0 uv_7 []) := hD.lk [(b0 0), (b0 1), (b0 2), (b0 3), (b0 4), (b0 5), (b0 6), (b0 7), (b0 8), (b0 9), (b0 10), (b0 11), (b0 12), (b0 13)] rfl rfl
    obtain ⟨x3_8, ex3_8⟩ : ∃ z : Int32, z = (x3 + (1 : Int32)) := ⟨_, rfl⟩
    replace h := nm_s h ex3_8
    refine lv_iinc (v := x3_8) (lv' := [(3, .int x3_8), (0, .ref (b0 0)), (1, .int x1), (2, .int x2)]) hx hb dX4_takeOut_36 hl (k := 3) rfl (by rw [ex3_8]; rfl) (by decide) rfl (fun ls hl => ?_)
    refine lv_goto (tgt := 6) hx hb dX4_takeOut_39 (by decide) ?_
    cases h
    exact ih uv_7 x3_8 _ _ _ hm hP hD hS (lv_sub hl [1, 2, 3, 0] rfl)
set_option maxHeartbeats 4000000 in
set_option maxRecDepth 100000 in
theorem w_X4_takeOut_0 {p : Program} {l : Launch} {e : Env} {s : State} {m : MethodId} {args : Array Value} {below : List Frame} {meth : Method} {c : Code} {A : Nat → Prop} {D : va_G} {cy : Nat → ClassId} {b0 : Nat → Nat} {x1 : Int32} {x2 : Int32} {fu : Nat} {rr : MS} (M : kM p s m args meth c cX4_takeOut 4 none RX4 wsX4_takeOut A D cy) (ih : I_X4_takeOut p l e s m args below meth c A D cy b0 x1 x2 fu rr) {uv : MS} {oo : (MS × Int32) ⊕ (MS)} (h : f_X4_takeOut_0 uv x1 x2 = some oo) (hm : lpo (st_X4_takeOut x1 x2) fu oo rr) {H : Heap} {locs : List Loc} {ls : Array Slot} (hP : va_P D vwCl (wM cy b0 uv []) H) (hD : va_D A (wM cy b0 uv [])) (hS : va_S A s.heap H locs) (hl : lv_has ls 4 [(0, .ref (b0 0)), (1, .int x1), (2, .int x2)]) : W p l e { frames := 1, cells := 0, slots := 0, locals := 21 } s m args below meth c H locs 0 0 (MQ below (qV D (wM cy b0 rr []) A) args s 0 0 A) (F0 m 0 ls []) := by
  obtain ⟨hx, hb, hr, hml, hown, hts, hlk, hA, hK⟩ := id M
  unfold f_X4_takeOut_0 at h
  refine lv_iload_n hx hb dX4_takeOut_0 rfl (lv_at hl 1 rfl) ?_
  refine lv_iload_n hx hb dX4_takeOut_1 rfl (lv_at hl 2 rfl) ?_
  obtain ⟨r_1, hr_1, h⟩ := bn_s h
  refine kcSi (As := [.int x1, .int x2]) (rest := []) ⟨hx, hb, hml, hown, hts⟩ (va_cwS 2 hts gX4_takeOut_X4_at rfl rfl rfl eX4_at ⟨Nat.le_of_ble_eq_true rfl, Nat.le_of_ble_eq_true rfl⟩) (c_X4_at  hr_1) hK hP hS hA rfl hl.1 rfl (Nat.le_of_ble_eq_true rfl) dX4_takeOut_2 (fun H locs hP hS => ?_)
  refine lv_istore_n (lv' := [(3, .int r_1), (0, .ref (b0 0)), (1, .int x1), (2, .int x2)]) hx hb dX4_takeOut_5 rfl hl (by decide) rfl (fun ls hl => ?_)
  cases h
  exact ih uv r_1 _ _ _ hm hP hD hS (lv_sub hl [1, 2, 3, 0] rfl)
theorem wl_X4_takeOut {p : Program} {l : Launch} {e : Env} {s : State} {m : MethodId} {args : Array Value} {below : List Frame} {meth : Method} {c : Code} {A : Nat → Prop} {D : va_G} {cy : Nat → ClassId} {b0 : Nat → Nat} {x1 : Int32} {x2 : Int32} {rr : MS} (M : kM p s m args meth c cX4_takeOut 4 none RX4 wsX4_takeOut A D cy) : ∀ fu : Nat, I_X4_takeOut p l e s m args below meth c A D cy b0 x1 x2 fu rr := by
  intro fu
  induction fu with
  | zero => exact (fun _ _ _ _ _ h => by cases h)
  | succ fu ih =>
    exact fun uv x3 H locs ls h hP hD hS hl => by
      obtain ⟨o1, h1, h2⟩ := lpn_s h
      exact w_X4_takeOut_6 M ih h1 h2 hP hD hS hl
theorem c_X4_takeOut {l : Launch} {D : va_G} {cy : Nat → ClassId} (b0 : Nat → Nat) {uv : MS} {x1 : Int32} {x2 : Int32} {rr : MS} (h : f_X4_takeOut uv x1 x2 = some rr) : CV l D cy yX4_takeOut wsX4_takeOut { frames := 1, cells := 0, slots := 0, locals := 21 } [.ref (b0 0), .int x1, .int x2] (wM cy b0 uv []) (wM cy b0 rr []) := by
  refine kofV (cc := cX4_takeOut) (maxL := 4) (ret := none) (by decide) rfl (Nat.le_of_ble_eq_true rfl) ?_
  intro p e s m below meth c A M ls hl hP hD hS
  obtain ⟨o1, fu, h1, h2⟩ := rnx_s h
  exact w_X4_takeOut_0 M (wl_X4_takeOut M fu) h1 h2 hP hD hS hl
theorem eX4_takeOut : yX4_takeOut.cls ≠ "java/lang/invoke/MethodHandle" ∧ yX4_takeOut.cls ≠ "java/lang/invoke/VarHandle" ∧ (parseMethodDescriptor yX4_takeOut.desc).map (fun d => d.parameters.length) = some 2 := by decide +kernel
theorem iX4_pay_X4 : ∀ w ∈ u_ws RX4 TX4 21, w ∈ wsX4_pay := by decide +kernel
theorem mX4_pay_1 : Cond.fieldLink RX4 25 "LentPilesModel" "nowMoney" "[I" ∈ wsX4_pay := by decide +kernel
theorem mX4_pay_2 : Cond.fieldLink RX4 31 "LentPilesModel" "nowPile" "[I" ∈ wsX4_pay := by decide +kernel
set_option maxHeartbeats 4000000 in
set_option maxRecDepth 100000 in
theorem w_X4_pay_0 {p : Program} {l : Launch} {e : Env} {s : State} {m : MethodId} {args : Array Value} {below : List Frame} {meth : Method} {c : Code} {A : Nat → Prop} {D : va_G} {cy : Nat → ClassId} {b0 : Nat → Nat} {x1 : Int32} {rr : MS} (M : kM p s m args meth c cX4_pay 4 none RX4 wsX4_pay A D cy) {uv : MS} (h : f_X4_pay uv x1 = some rr) {H : Heap} {locs : List Loc} {ls : Array Slot} (hP : va_P D vwCl (wM cy b0 uv []) H) (hD : va_D A (wM cy b0 uv [])) (hS : va_S A s.heap H locs) (hl : lv_has ls 4 [(0, .ref (b0 0)), (1, .int x1)]) : W p l e { frames := 2, cells := 0, slots := 0, locals := 45 } s m args below meth c H locs 0 0 (MQ below (qV D (wM cy b0 rr []) A) args s 0 0 A) (F0 m 0 ls []) := by
  obtain ⟨hx, hb, hr, hml, hown, hts, hlk, hA, hK⟩ := id M
  unfold f_X4_pay at h
  refine lv_aload_n hx hb dX4_pay_0 rfl (lv_at hl 0 rfl) ?_
  refine lv_iload_n hx hb dX4_pay_1 rfl (lv_at hl 1 rfl) ?_
  obtain ⟨r_1, hr_1, h⟩ := bn_s h
  refine kcVi (As := [.int x1]) (rest := []) (ws' := (wM cy b0 uv [])) ⟨hx, hb, hml, hown, hts⟩ (cwV 1 hts gX4_pay_X4_dueNow rfl rfl rfl ⟨rfl, eX4_dueNow⟩ ⟨Nat.le_of_ble_eq_true rfl, Nat.le_of_ble_eq_true rfl⟩) (c_X4_dueNow b0 hr_1) hK hP hD hS hA [0, 1, 2, 3, 4, 5, 6, 7, 8, 9, 10, 11, 12, 13] [] (by decide) rfl rfl 4 rfl rfl [(b0 0), (b0 1), (b0 2), (b0 3), (b0 4), (b0 5), (b0 6), (b0 7), (b0 8), (b0 9), (b0 10), (b0 11), (b0 12), (b0 13)] rfl rfl rfl [] rfl rfl rfl rfl hl.1 rfl (Nat.le_of_ble_eq_true rfl) dX4_pay_2 (fun H locs hP hD hS => ?_)
  refine lv_istore_n (lv' := [(2, .int r_1), (0, .ref (b0 0)), (1, .int x1)]) hx hb dX4_pay_5 rfl hl (by decide) rfl (fun ls hl => ?_)
  refine lv_iload_n hx hb dX4_pay_6 rfl (lv_at hl 2 rfl) ?_
  refine lv_iload_n hx hb dX4_pay_7 rfl (lv_at hl 0 rfl) ?_
  obtain ⟨r_2, hr_2, h⟩ := bn_s h
  refine kcSi (As := [.int x1, .int r_1]) (rest := []) ⟨hx, hb, hml, hown, hts⟩ (va_cwS 2 hts gX4_pay_X4_at rfl rfl rfl eX4_at ⟨Nat.le_of_ble_eq_true rfl, Nat.le_of_ble_eq_true rfl⟩) (c_X4_at  hr_2) hK hP hS hA rfl hl.1 rfl (Nat.le_of_ble_eq_true rfl) dX4_pay_8 (fun H locs hP hS => ?_)
  refine lv_istore_n (lv' := [(3, .int r_2), (2, .int r_1), (0, .ref (b0 0)), (1, .int x1)]) hx hb dX4_pay_11 rfl hl (by decide) rfl (fun ls hl => ?_)
  refine lv_aload_n hx hb dX4_pay_12 rfl (lv_at hl 2 rfl) ?_
  refine va_get (D := D) (ci := 4) (v := .ref (b0 6)) (C := RX4) (T := TX4) (N := 21) hx hb hts iX4_pay_X4 hown hK.1 hP 0 rfl rfl 11 (by decide) (hts _ mX4_pay_1) (fun _ h9 => h9) rfl dX4_pay_13 ?_
  refine lv_iload_n hx hb dX4_pay_16 rfl (lv_at hl 3 rfl) ?_
  refine lv_dup2_11 hx hb dX4_pay_17 rfl rfl ?_
  obtain ⟨b_3, h⟩ := ck_s h
  refine va_iald hx hb hK.1 hP 6 1 rfl rfl b_3 dX4_pay_18 ?_
  refine lv_aload_n hx hb dX4_pay_19 rfl (lv_at hl 2 rfl) ?_
  refine va_get (D := D) (ci := 4) (v := .ref (b0 8)) (C := RX4) (T := TX4) (N := 21) hx hb hts iX4_pay_X4 hown hK.1 hP 0 rfl rfl 13 (by decide) (hts _ mX4_pay_2) (fun _ h9 => h9) rfl dX4_pay_20 ?_
  refine lv_iload_n hx hb dX4_pay_23 rfl (lv_at hl 0 rfl) ?_
  refine lv_iconst (v := 1) hx hb dX4_pay_24 (by decide) ?_
  refine lv_iadd hx hb dX4_pay_25 ?_
  obtain ⟨b_4, h⟩ := ck_s h
  refine va_iald hx hb hK.1 hP 8 1 rfl rfl b_4 dX4_pay_26 ?_
  refine lv_isub hx hb dX4_pay_27 ?_
  refine va_iast hx hb hK.1 hP hD hS 6 1 rfl rfl b_3 dX4_pay_28 (fun H locs hP hD hS => ?_)
  obtain ⟨uv_5, euv_5⟩ : ∃ z : MS, z = (uv.1, uv.2.1, uv.2.2.1, uv.2.2.2.1, uv.2.2.2.2.1, uv.2.2.2.2.2.1, uv.2.2.2.2.2.2.1, uv.2.2.2.2.2.2.2.1, uv.2.2.2.2.2.2.2.2.1, uv.2.2.2.2.2.2.2.2.2.1, uv.2.2.2.2.2.2.2.2.2.2.1, (upd uv.2.2.2.2.2.2.2.2.2.2.2.1 x1.toNatClampNeg ((uv.2.2.2.2.2.2.2.2.2.2.2.1 x1.toNatClampNeg) - (uv.2.2.2.2.2.2.2.2.2.2.2.2.2.1 (r_2 + (1 : Int32)).toNatClampNeg))), uv.2.2.2.2.2.2.2.2.2.2.2.2) := ⟨_, rfl⟩
  replace h := nm_s h euv_5
  have hP : va_P D vwCl (wM cy b0 uv_5 []) H := by subst euv_5; exact hP
  have hD : va_D A (wM cy b0 uv_5 []) := hD.lk [(b0 0), (b0 1), (b0 2), (b0 3), (b0 4), (b0 5), (b0 6), (b0 7), (b0 8), (b0 9), (b0 10), (b0 11), (b0 12), (b0 13)] rfl rfl
  refine lv_aload_n hx hb dX4_pay_29 rfl (lv_at hl 2 rfl) ?_
  refine va_get (D := D) (ci := 4) (v := .ref (b0 6)) (C := RX4) (T := TX4) (N := 21) hx hb hts iX4_pay_X4 hown hK.1 hP 0 rfl rfl 11 (by decide) (hts _ mX4_pay_1) (fun _ h9 => h9) rfl dX4_pay_30 ?_
  refine lv_aload_n hx hb dX4_pay_33 rfl (lv_at hl 2 rfl) ?_
  refine va_get (D := D) (ci := 4) (v := .ref (b0 8)) (C := RX4) (T := TX4) (N := 21) hx hb hts iX4_pay_X4 hown hK.1 hP 0 rfl rfl 13 (by decide) (hts _ mX4_pay_2) (fun _ h9 => h9) rfl dX4_pay_34 ?_
  refine lv_iload_n hx hb dX4_pay_37 rfl (lv_at hl 0 rfl) ?_
  obtain ⟨b_6, h⟩ := ck_s h
  refine va_iald hx hb hK.1 hP 8 1 rfl rfl b_6 dX4_pay_38 ?_
  refine lv_dup2_11 hx hb dX4_pay_39 rfl rfl ?_
  obtain ⟨b_7, h⟩ := ck_s h
  refine va_iald hx hb hK.1 hP 6 1 rfl rfl b_7 dX4_pay_40 ?_
  refine lv_aload_n hx hb dX4_pay_41 rfl (lv_at hl 2 rfl) ?_
  refine va_get (D := D) (ci := 4) (v := .ref (b0 8)) (C := RX4) (T := TX4) (N := 21) hx hb hts iX4_pay_X4 hown hK.1 hP 0 rfl rfl 13 (by decide) (hts _ mX4_pay_2) (fun _ h9 => h9) rfl dX4_pay_42 ?_
  refine lv_iload_n hx hb dX4_pay_45 rfl (lv_at hl 0 rfl) ?_
  refine lv_iconst (v := 1) hx hb dX4_pay_46 (by decide) ?_
  refine lv_iadd hx hb dX4_pay_47 ?_
  refine va_iald hx hb hK.1 hP 8 1 rfl rfl b_4 dX4_pay_48 ?_
  refine lv_iadd hx hb dX4_pay_49 ?_
  refine va_iast hx hb hK.1 hP hD hS 6 1 rfl rfl b_7 dX4_pay_50 (fun H locs hP hD hS => ?_)
  obtain ⟨uv_8, euv_8⟩ : ∃ z : MS, z = (uv_5.1, uv_5.2.1, uv_5.2.2.1, uv_5.2.2.2.1, uv_5.2.2.2.2.1, uv_5.2.2.2.2.2.1, uv_5.2.2.2.2.2.2.1, uv_5.2.2.2.2.2.2.2.1, uv_5.2.2.2.2.2.2.2.2.1, uv_5.2.2.2.2.2.2.2.2.2.1, uv_5.2.2.2.2.2.2.2.2.2.2.1, (upd uv_5.2.2.2.2.2.2.2.2.2.2.2.1 (uv_5.2.2.2.2.2.2.2.2.2.2.2.2.2.1 r_2.toNatClampNeg).toNatClampNeg ((uv_5.2.2.2.2.2.2.2.2.2.2.2.1 (uv_5.2.2.2.2.2.2.2.2.2.2.2.2.2.1 r_2.toNatClampNeg).toNatClampNeg) + (uv_5.2.2.2.2.2.2.2.2.2.2.2.2.2.1 (r_2 + (1 : Int32)).toNatClampNeg))), uv_5.2.2.2.2.2.2.2.2.2.2.2.2) := ⟨_, rfl⟩
  replace h := nm_s h euv_8
  have hP : va_P D vwCl (wM cy b0 uv_8 []) H := by subst euv_8; exact hP
  have hD : va_D A (wM cy b0 uv_8 []) := hD.lk [(b0 0), (b0 1), (b0 2), (b0 3), (b0 4), (b0 5), (b0 6), (b0 7), (b0 8), (b0 9), (b0 10), (b0 11), (b0 12), (b0 13)] rfl rfl
  refine lv_aload_n hx hb dX4_pay_51 rfl (lv_at hl 2 rfl) ?_
  refine lv_iload_n hx hb dX4_pay_52 rfl (lv_at hl 3 rfl) ?_
  refine lv_iload_n hx hb dX4_pay_53 rfl (lv_at hl 1 rfl) ?_
  obtain ⟨r_9, hr_9, h⟩ := bn_s h
  refine kcVv (As := [.int x1, .int r_1]) (rest := []) (ws' := (wM cy b0 r_9 [])) ⟨hx, hb, hml, hown, hts⟩ (cwV 2 hts gX4_pay_X4_takeOut rfl rfl rfl ⟨rfl, eX4_takeOut⟩ ⟨Nat.le_of_ble_eq_true rfl, Nat.le_of_ble_eq_true rfl⟩) (c_X4_takeOut b0 hr_9) hK hP hD hS hA [0, 1, 2, 3, 4, 5, 6, 7, 8, 9, 10, 11, 12, 13] [] (by decide) rfl rfl 4 rfl rfl [(b0 0), (b0 1), (b0 2), (b0 3), (b0 4), (b0 5), (b0 6), (b0 7), (b0 8), (b0 9), (b0 10), (b0 11), (b0 12), (b0 13)] rfl rfl rfl [] rfl rfl rfl rfl hl.1 rfl (Nat.le_of_ble_eq_true rfl) dX4_pay_54 (fun H locs hP hD hS => ?_)
  cases h
  exact kretV hx hb hr hlk hP hS dX4_pay_57
theorem c_X4_pay {l : Launch} {D : va_G} {cy : Nat → ClassId} (b0 : Nat → Nat) {uv : MS} {x1 : Int32} {rr : MS} (h : f_X4_pay uv x1 = some rr) : CV l D cy yX4_pay wsX4_pay { frames := 2, cells := 0, slots := 0, locals := 45 } [.ref (b0 0), .int x1] (wM cy b0 uv []) (wM cy b0 rr []) := by
  refine kofV (cc := cX4_pay) (maxL := 4) (ret := none) (by decide) rfl (Nat.le_of_ble_eq_true rfl) ?_
  intro p e s m below meth c A M ls hl hP hD hS
  exact w_X4_pay_0 M h hP hD hS hl
theorem eX4_pay : yX4_pay.cls ≠ "java/lang/invoke/MethodHandle" ∧ yX4_pay.cls ≠ "java/lang/invoke/VarHandle" ∧ (parseMethodDescriptor yX4_pay.desc).map (fun d => d.parameters.length) = some 1 := by decide +kernel
def I_X4_payAll (p : Program) (l : Launch) (e : Env) (s : State) (m : MethodId) (args : Array Value) (below : List Frame) (meth : Method) (c : Code) (A : Nat → Prop) (D : va_G) (cy : Nat → ClassId) (b0 : Nat → Nat) (fu : Nat) (rr : MS) : Prop := (∀ (uv : MS) (x1 : Int32) (H : Heap) (locs : List Loc) (ls : Array Slot), lpn (st_X4_payAll ) fu (.inl (uv, x1)) = some rr → va_P D vwCl (wM cy b0 uv []) H → va_D A (wM cy b0 uv []) → va_S A s.heap H locs → lv_has ls 3 [(0, .ref (b0 0)), (1, .int x1)] → W p l e { frames := 4, cells := 0, slots := 0, locals := 89 } s m args below meth c H locs 0 0 (MQ below (qV D (wM cy b0 rr []) A) args s 0 0 A) (F0 m 2 ls [])) ∧ (∀ (uv : MS) (x1 : Int32) (x2 : Int32) (H : Heap) (locs : List Loc) (ls : Array Slot), lpn (st_X4_payAll ) fu (.inr (.inl (uv, x1, x2))) = some rr → va_P D vwCl (wM cy b0 uv []) H → va_D A (wM cy b0 uv []) → va_S A s.heap H locs → lv_has ls 3 [(0, .ref (b0 0)), (1, .int x1), (2, .int x2)] → W p l e { frames := 4, cells := 0, slots := 0, locals := 89 } s m args below meth c H locs 0 0 (MQ below (qV D (wM cy b0 rr []) A) args s 0 0 A) (F0 m 10 ls [])) ∧ (∀ (uv : MS) (x1 : Int32) (x2 : Int32) (H : Heap) (locs : List Loc) (ls : Array Slot), lpn (st_X4_payAll ) fu (.inr (.inr (uv, x1, x2))) = some rr → va_P D vwCl (wM cy b0 uv []) H → va_D A (wM cy b0 uv []) → va_S A s.heap H locs → lv_has ls 3 [(0, .ref (b0 0)), (1, .int x1), (2, .int x2)] → W p l e { frames := 4, cells := 0, slots := 0, locals := 89 } s m args below meth c H locs 0 0 (MQ below (qV D (wM cy b0 rr []) A) args s 0 0 A) (F0 m 16 ls []))
set_option maxHeartbeats 4000000 in
set_option maxRecDepth 100000 in
theorem w_X4_payAll_16 {p : Program} {l : Launch} {e : Env} {s : State} {m : MethodId} {args : Array Value} {below : List Frame} {meth : Method} {c : Code} {A : Nat → Prop} {D : va_G} {cy : Nat → ClassId} {b0 : Nat → Nat} {fu : Nat} {rr : MS} (M : kM p s m args meth c cX4_payAll 3 none RX4 wsX4_payAll A D cy) (ih : I_X4_payAll p l e s m args below meth c A D cy b0 fu rr) {uv : MS} {x1 : Int32} {x2 : Int32} {oo : ((MS × Int32) ⊕ (MS × Int32 × Int32) ⊕ (MS × Int32 × Int32)) ⊕ (MS)} (h : f_X4_payAll_16 uv x1 x2 = some oo) (hm : lpo (st_X4_payAll ) fu oo rr) {H : Heap} {locs : List Loc} {ls : Array Slot} (hP : va_P D vwCl (wM cy b0 uv []) H) (hD : va_D A (wM cy b0 uv [])) (hS : va_S A s.heap H locs) (hl : lv_has ls 3 [(0, .ref (b0 0)), (1, .int x1), (2, .int x2)]) : W p l e { frames := 4, cells := 0, slots := 0, locals := 89 } s m args below meth c H locs 0 0 (MQ below (qV D (wM cy b0 rr []) A) args s 0 0 A) (F0 m 16 ls []) := by
  obtain ⟨hx, hb, hr, hml, hown, hts, hlk, hA, hK⟩ := id M
  unfold f_X4_payAll_16 at h
  refine lv_aload_n hx hb dX4_payAll_16 rfl (lv_at hl 0 rfl) ?_
  refine lv_iload_n hx hb dX4_payAll_17 rfl (lv_at hl 2 rfl) ?_
  obtain ⟨r_1, hr_1, h⟩ := bn_s h
  refine kcVi (As := [.int x2]) (rest := []) (ws' := (wM cy b0 uv [])) ⟨hx, hb, hml, hown, hts⟩ (cwV 1 hts gX4_payAll_X4_canPay rfl rfl rfl ⟨rfl, eX4_canPay⟩ ⟨Nat.le_of_ble_eq_true rfl, Nat.le_of_ble_eq_true rfl⟩) (c_X4_canPay b0 hr_1) hK hP hD hS hA [0, 1, 2, 3, 4, 5, 6, 7, 8, 9, 10, 11, 12, 13] [] (by decide) rfl rfl 4 rfl rfl [(b0 0), (b0 1), (b0 2), (b0 3), (b0 4), (b0 5), (b0 6), (b0 7), (b0 8), (b0 9), (b0 10), (b0 11), (b0 12), (b0 13)] rfl rfl rfl [] rfl rfl rfl rfl hl.1 rfl (Nat.le_of_ble_eq_true rfl) dX4_payAll_18 (fun H locs hP hD hS => ?_)
  refine lv_if_eq (tgt := 34) hx hb dX4_payAll_21 (by decide) (fun c_2 => ?_) (fun c_2 => ?_)
  · replace h := it_p c_2 h
    obtain ⟨x2_3, ex2_3⟩ : ∃ z : Int32, z = (x2 + (1 : Int32)) := ⟨_, rfl⟩
    replace h := nm_s h ex2_3
    refine lv_iinc (v := x2_3) (lv' := [(2, .int x2_3), (0, .ref (b0 0)), (1, .int x1)]) hx hb dX4_payAll_34 hl (k := 2) rfl (by rw [ex2_3]; rfl) (by decide) rfl (fun ls hl => ?_)
    refine lv_goto (tgt := 10) hx hb dX4_payAll_37 (by decide) ?_
    cases h
    exact ih.2.1 uv x1 x2_3 _ _ _ hm hP hD hS (lv_sub hl [1, 2, 0] rfl)
  · replace h := it_n c_2 h
    refine lv_aload_n hx hb dX4_payAll_24 rfl (lv_at hl 0 rfl) ?_
    refine lv_iload_n hx hb dX4_payAll_25 rfl (lv_at hl 2 rfl) ?_
    obtain ⟨r_4, hr_4, h⟩ := bn_s h
    refine kcVv (As := [.int x2]) (rest := []) (ws' := (wM cy b0 r_4 [])) ⟨hx, hb, hml, hown, hts⟩ (cwV 1 hts gX4_payAll_X4_pay rfl rfl rfl ⟨rfl, eX4_pay⟩ ⟨Nat.le_of_ble_eq_true rfl, Nat.le_of_ble_eq_true rfl⟩) (c_X4_pay b0 hr_4) hK hP hD hS hA [0, 1, 2, 3, 4, 5, 6, 7, 8, 9, 10, 11, 12, 13] [] (by decide) rfl rfl 4 rfl rfl [(b0 0), (b0 1), (b0 2), (b0 3), (b0 4), (b0 5), (b0 6), (b0 7), (b0 8), (b0 9), (b0 10), (b0 11), (b0 12), (b0 13)] rfl rfl rfl [] rfl rfl rfl rfl hl.1 rfl (Nat.le_of_ble_eq_true rfl) dX4_payAll_26 (fun H locs hP hD hS => ?_)
    refine lv_iconst (v := 1) hx hb dX4_payAll_29 (by decide) ?_
    refine lv_istore_n (lv' := [(1, .int (1 : Int32)), (0, .ref (b0 0)), (2, .int x2)]) hx hb dX4_payAll_30 rfl hl (by decide) rfl (fun ls hl => ?_)
    refine lv_goto (tgt := 16) hx hb dX4_payAll_31 (by decide) ?_
    cases h
    exact ih.2.2 r_4 (1 : Int32) x2 _ _ _ hm hP hD hS (lv_sub hl [1, 0, 2] rfl)
set_option maxHeartbeats 4000000 in
set_option maxRecDepth 100000 in
theorem w_X4_payAll_10 {p : Program} {l : Launch} {e : Env} {s : State} {m : MethodId} {args : Array Value} {below : List Frame} {meth : Method} {c : Code} {A : Nat → Prop} {D : va_G} {cy : Nat → ClassId} {b0 : Nat → Nat} {fu : Nat} {rr : MS} (M : kM p s m args meth c cX4_payAll 3 none RX4 wsX4_payAll A D cy) (ih : I_X4_payAll p l e s m args below meth c A D cy b0 fu rr) {uv : MS} {x1 : Int32} {x2 : Int32} {oo : ((MS × Int32) ⊕ (MS × Int32 × Int32) ⊕ (MS × Int32 × Int32)) ⊕ (MS)} (h : f_X4_payAll_10 uv x1 x2 = some oo) (hm : lpo (st_X4_payAll ) fu oo rr) {H : Heap} {locs : List Loc} {ls : Array Slot} (hP : va_P D vwCl (wM cy b0 uv []) H) (hD : va_D A (wM cy b0 uv [])) (hS : va_S A s.heap H locs) (hl : lv_has ls 3 [(0, .ref (b0 0)), (1, .int x1), (2, .int x2)]) : W p l e { frames := 4, cells := 0, slots := 0, locals := 89 } s m args below meth c H locs 0 0 (MQ below (qV D (wM cy b0 rr []) A) args s 0 0 A) (F0 m 10 ls []) := by
  obtain ⟨hx, hb, hr, hml, hown, hts, hlk, hA, hK⟩ := id M
  unfold f_X4_payAll_10 at h
  refine lv_iload_n hx hb dX4_payAll_10 rfl (lv_at hl 2 rfl) ?_
  refine lv_bipush (v := 6) hx hb dX4_payAll_11 (by decide) ?_
  refine lv_icmp_ge (tgt := 40) hx hb dX4_payAll_13 (by decide) (fun c_1 => ?_) (fun c_1 => ?_)
  · replace h := it_p c_1 h
    refine lv_goto (tgt := 2) hx hb dX4_payAll_40 (by decide) ?_
    cases h
    exact ih.1 uv x1 _ _ _ hm hP hD hS (lv_sub hl [0, 1] rfl)
  · replace h := it_n c_1 h
    cases h
    exact ih.2.2 uv x1 x2 _ _ _ hm hP hD hS hl
set_option maxHeartbeats 4000000 in
set_option maxRecDepth 100000 in
theorem w_X4_payAll_2 {p : Program} {l : Launch} {e : Env} {s : State} {m : MethodId} {args : Array Value} {below : List Frame} {meth : Method} {c : Code} {A : Nat → Prop} {D : va_G} {cy : Nat → ClassId} {b0 : Nat → Nat} {fu : Nat} {rr : MS} (M : kM p s m args meth c cX4_payAll 3 none RX4 wsX4_payAll A D cy) (ih : I_X4_payAll p l e s m args below meth c A D cy b0 fu rr) {uv : MS} {x1 : Int32} {oo : ((MS × Int32) ⊕ (MS × Int32 × Int32) ⊕ (MS × Int32 × Int32)) ⊕ (MS)} (h : f_X4_payAll_2 uv x1 = some oo) (hm : lpo (st_X4_payAll ) fu oo rr) {H : Heap} {locs : List Loc} {ls : Array Slot} (hP : va_P D vwCl (wM cy b0 uv []) H) (hD : va_D A (wM cy b0 uv [])) (hS : va_S A s.heap H locs) (hl : lv_has ls 3 [(0, .ref (b0 0)), (1, .int x1)]) : W p l e { frames := 4, cells := 0, slots := 0, locals := 89 } s m args below meth c H locs 0 0 (MQ below (qV D (wM cy b0 rr []) A) args s 0 0 A) (F0 m 2 ls []) := by
  obtain ⟨hx, hb, hr, hml, hown, hts, hlk, hA, hK⟩ := id M
  unfold f_X4_payAll_2 at h
  refine lv_iload_n hx hb dX4_payAll_2 rfl (lv_at hl 1 rfl) ?_
  refine lv_if_eq (tgt := 43) hx hb dX4_payAll_3 (by decide) (fun c_1 => ?_) (fun c_1 => ?_)
  · replace h := it_p c_1 h
    cases h
    have hm : _ = rr := hm
    subst hm
    exact kretV hx hb hr hlk hP hS dX4_payAll_43
  · replace h := it_n c_1 h
    refine lv_iconst (v := 0) hx hb dX4_payAll_6 (by decide) ?_
    refine lv_istore_n (lv' := [(1, .int (0 : Int32)), (0, .ref (b0 0))]) hx hb dX4_payAll_7 rfl hl (by decide) rfl (fun ls hl => ?_)
    refine lv_iconst (v := 0) hx hb dX4_payAll_8 (by decide) ?_
    refine lv_istore_n (lv' := [(2, .int (0 : Int32)), (1, .int (0 : Int32)), (0, .ref (b0 0))]) hx hb dX4_payAll_9 rfl hl (by decide) rfl (fun ls hl => ?_)
    cases h
    exact ih.2.1 uv (0 : Int32) (0 : Int32) _ _ _ hm hP hD hS (lv_sub hl [2, 1, 0] rfl)
set_option maxHeartbeats 4000000 in
set_option maxRecDepth 100000 in
theorem w_X4_payAll_0 {p : Program} {l : Launch} {e : Env} {s : State} {m : MethodId} {args : Array Value} {below : List Frame} {meth : Method} {c : Code} {A : Nat → Prop} {D : va_G} {cy : Nat → ClassId} {b0 : Nat → Nat} {fu : Nat} {rr : MS} (M : kM p s m args meth c cX4_payAll 3 none RX4 wsX4_payAll A D cy) (ih : I_X4_payAll p l e s m args below meth c A D cy b0 fu rr) {uv : MS} {oo : ((MS × Int32) ⊕ (MS × Int32 × Int32) ⊕ (MS × Int32 × Int32)) ⊕ (MS)} (h : f_X4_payAll_0 uv = some oo) (hm : lpo (st_X4_payAll ) fu oo rr) {H : Heap} {locs : List Loc} {ls : Array Slot} (hP : va_P D vwCl (wM cy b0 uv []) H) (hD : va_D A (wM cy b0 uv [])) (hS : va_S A s.heap H locs) (hl : lv_has ls 3 [(0, .ref (b0 0))]) : W p l e { frames := 4, cells := 0, slots := 0, locals := 89 } s m args below meth c H locs 0 0 (MQ below (qV D (wM cy b0 rr []) A) args s 0 0 A) (F0 m 0 ls []) := by
  obtain ⟨hx, hb, hr, hml, hown, hts, hlk, hA, hK⟩ := id M
  unfold f_X4_payAll_0 at h
  refine lv_iconst (v := 1) hx hb dX4_payAll_0 (by decide) ?_
  refine lv_istore_n (lv' := [(1, .int (1 : Int32)), (0, .ref (b0 0))]) hx hb dX4_payAll_1 rfl hl (by decide) rfl (fun ls hl => ?_)
  cases h
  exact ih.1 uv (1 : Int32) _ _ _ hm hP hD hS (lv_sub hl [1, 0] rfl)
theorem wl_X4_payAll {p : Program} {l : Launch} {e : Env} {s : State} {m : MethodId} {args : Array Value} {below : List Frame} {meth : Method} {c : Code} {A : Nat → Prop} {D : va_G} {cy : Nat → ClassId} {b0 : Nat → Nat} {rr : MS} (M : kM p s m args meth c cX4_payAll 3 none RX4 wsX4_payAll A D cy) : ∀ fu : Nat, I_X4_payAll p l e s m args below meth c A D cy b0 fu rr := by
  intro fu
  induction fu with
  | zero => exact ⟨(fun _ _ _ _ _ h => by cases h), (fun _ _ _ _ _ _ h => by cases h), (fun _ _ _ _ _ _ h => by cases h)⟩
  | succ fu ih =>
    refine ⟨?_, ?_, ?_⟩
    · intro uv x1 H locs ls h hP hD hS hl
      obtain ⟨o1, h1, h2⟩ := lpn_s h
      exact w_X4_payAll_2 M ih h1 h2 hP hD hS hl
    · intro uv x1 x2 H locs ls h hP hD hS hl
      obtain ⟨o1, h1, h2⟩ := lpn_s h
      exact w_X4_payAll_10 M ih h1 h2 hP hD hS hl
    · intro uv x1 x2 H locs ls h hP hD hS hl
      obtain ⟨o1, h1, h2⟩ := lpn_s h
      exact w_X4_payAll_16 M ih h1 h2 hP hD hS hl
theorem c_X4_payAll {l : Launch} {D : va_G} {cy : Nat → ClassId} (b0 : Nat → Nat) {uv : MS} {rr : MS} (h : f_X4_payAll uv = some rr) : CV l D cy yX4_payAll wsX4_payAll { frames := 4, cells := 0, slots := 0, locals := 89 } [.ref (b0 0)] (wM cy b0 uv []) (wM cy b0 rr []) := by
  refine kofV (cc := cX4_payAll) (maxL := 3) (ret := none) (by decide) rfl (Nat.le_of_ble_eq_true rfl) ?_
  intro p e s m below meth c A M ls hl hP hD hS
  obtain ⟨o1, fu, h1, h2⟩ := rnx_s h
  exact w_X4_payAll_0 M (wl_X4_payAll M fu) h1 h2 hP hD hS hl
theorem eX4_payAll : yX4_payAll.cls ≠ "java/lang/invoke/MethodHandle" ∧ yX4_payAll.cls ≠ "java/lang/invoke/VarHandle" ∧ (parseMethodDescriptor yX4_payAll.desc).map (fun d => d.parameters.length) = some 0 := by decide +kernel
theorem iX4_leftNow_X4 : ∀ w ∈ u_ws RX4 TX4 21, w ∈ wsX4_leftNow := by decide +kernel
theorem mX4_leftNow_1 : Cond.fieldLink RX4 28 "LentPilesModel" "nowSize" "[I" ∈ wsX4_leftNow := by decide +kernel
def I_X4_leftNow (p : Program) (l : Launch) (e : Env) (s : State) (m : MethodId) (args : Array Value) (below : List Frame) (meth : Method) (c : Code) (A : Nat → Prop) (D : va_G) (cy : Nat → ClassId) (b0 : Nat → Nat) (uv : MS) (fu : Nat) (rr : Int32) : Prop := (∀ (x1 : Int32) (x2 : Int32) (H : Heap) (locs : List Loc) (ls : Array Slot), lpn (st_X4_leftNow uv) fu (x1, x2) = some rr → va_P D vwCl (wM cy b0 uv []) H → va_D A (wM cy b0 uv []) → va_S A s.heap H locs → lv_has ls 3 [(0, .ref (b0 0)), (1, .int x1), (2, .int x2)] → W p l e { frames := 0, cells := 0, slots := 0, locals := 0 } s m args below meth c H locs 0 0 (MQ below (qI D (wM cy b0 uv []) (rr) A) args s 0 0 A) (F0 m 4 ls []))
set_option maxHeartbeats 4000000 in
set_option maxRecDepth 100000 in
theorem w_X4_leftNow_4 {p : Program} {l : Launch} {e : Env} {s : State} {m : MethodId} {args : Array Value} {below : List Frame} {meth : Method} {c : Code} {A : Nat → Prop} {D : va_G} {cy : Nat → ClassId} {b0 : Nat → Nat} {uv : MS} {fu : Nat} {rr : Int32} (M : kM p s m args meth c cX4_leftNow 3 (some .int) RX4 wsX4_leftNow A D cy) (ih : I_X4_leftNow p l e s m args below meth c A D cy b0 uv fu rr) {x1 : Int32} {x2 : Int32} {oo : (Int32 × Int32) ⊕ (Int32)} (h : f_X4_leftNow_4 uv x1 x2 = some oo) (hm : lpo (st_X4_leftNow uv) fu oo rr) {H : Heap} {locs : List Loc} {ls : Array Slot} (hP : va_P D vwCl (wM cy b0 uv []) H) (hD : va_D A (wM cy b0 uv [])) (hS : va_S A s.heap H locs) (hl : lv_has ls 3 [(0, .ref (b0 0)), (1, .int x1), (2, .int x2)]) : W p l e { frames := 0, cells := 0, slots := 0, locals := 0 } s m args below meth c H locs 0 0 (MQ below (qI D (wM cy b0 uv []) (rr) A) args s 0 0 A) (F0 m 4 ls []) := by
  obtain ⟨hx, hb, hr, hml, hown, hts, hlk, hA, hK⟩ := id M
  unfold f_X4_leftNow_4 at h
  refine lv_iload_n hx hb dX4_leftNow_4 rfl (lv_at hl 2 rfl) ?_
  refine lv_bipush (v := 6) hx hb dX4_leftNow_5 (by decide) ?_
  refine lv_icmp_ge (tgt := 35) hx hb dX4_leftNow_7 (by decide) (fun c_1 => ?_) (fun c_1 => ?_)
  · replace h := it_p c_1 h
    refine lv_iload_n hx hb dX4_leftNow_35 rfl (lv_at hl 1 rfl) ?_
    cases h
    have hm : _ = rr := hm
    subst hm
    exact kretI hx hb hr hlk hP hS dX4_leftNow_36
  · replace h := it_n c_1 h
    refine lv_iload_n hx hb dX4_leftNow_10 rfl (lv_at hl 1 rfl) ?_
    refine lv_aload_n hx hb dX4_leftNow_11 rfl (lv_at hl 0 rfl) ?_
    refine va_get (D := D) (ci := 4) (v := .ref (b0 7)) (C := RX4) (T := TX4) (N := 21) hx hb hts iX4_leftNow_X4 hown hK.1 hP 0 rfl rfl 12 (by decide) (hts _ mX4_leftNow_1) (fun _ h9 => h9) rfl dX4_leftNow_12 ?_
    refine lv_iload_n hx hb dX4_leftNow_15 rfl (lv_at hl 2 rfl) ?_
    obtain ⟨b_2, h⟩ := ck_s h
    refine va_iald hx hb hK.1 hP 7 1 rfl rfl b_2 dX4_leftNow_16 ?_
    refine lv_if_le (tgt := 26) hx hb dX4_leftNow_17 (by decide) (fun c_3 => ?_) (fun c_3 => ?_)
    · replace h := it_p c_3 h
      refine lv_iconst (v := 0) hx hb dX4_leftNow_26 (by decide) ?_
      refine lv_ior hx hb dX4_leftNow_27 ?_
      refine lv_topi (fun x1_4 ex1_4 => ?_)
      replace h := nm_s h ex1_4
      refine lv_istore_n (lv' := [(1, .int x1_4), (0, .ref (b0 0)), (2, .int x2)]) hx hb dX4_leftNow_28 rfl hl (by decide) rfl (fun ls hl => ?_)
      obtain ⟨x2_5, ex2_5⟩ : ∃ z : Int32, z = (x2 + (1 : Int32)) := ⟨_, rfl⟩
      replace h := nm_s h ex2_5
      refine lv_iinc (v := x2_5) (lv' := [(2, .int x2_5), (1, .int x1_4), (0, .ref (b0 0))]) hx hb dX4_leftNow_29 hl (k := 2) rfl (by rw [ex2_5]; rfl) (by decide) rfl (fun ls hl => ?_)
      refine lv_goto (tgt := 4) hx hb dX4_leftNow_32 (by decide) ?_
      cases h
      exact ih x1_4 x2_5 _ _ _ hm hP hD hS (lv_sub hl [2, 1, 0] rfl)
    · replace h := it_n c_3 h
      refine lv_iconst (v := 1) hx hb dX4_leftNow_20 (by decide) ?_
      refine lv_iload_n hx hb dX4_leftNow_21 rfl (lv_at hl 2 rfl) ?_
      refine lv_ishl hx hb dX4_leftNow_22 ?_
      refine lv_goto (tgt := 27) hx hb dX4_leftNow_23 (by decide) ?_
      refine lv_ior hx hb dX4_leftNow_27 ?_
      refine lv_topi (fun x1_6 ex1_6 => ?_)
      replace h := nm_s h ex1_6
      refine lv_istore_n (lv' := [(1, .int x1_6), (0, .ref (b0 0)), (2, .int x2)]) hx hb dX4_leftNow_28 rfl hl (by decide) rfl (fun ls hl => ?_)
      obtain ⟨x2_7, ex2_7⟩ : ∃ z : Int32, z = (x2 + (1 : Int32)) := ⟨_, rfl⟩
      replace h := nm_s h ex2_7
      refine lv_iinc (v := x2_7) (lv' := [(2, .int x2_7), (1, .int x1_6), (0, .ref (b0 0))]) hx hb dX4_leftNow_29 hl (k := 2) rfl (by rw [ex2_7]; rfl) (by decide) rfl (fun ls hl => ?_)
      refine lv_goto (tgt := 4) hx hb dX4_leftNow_32 (by decide) ?_
      cases h
      exact ih x1_6 x2_7 _ _ _ hm hP hD hS (lv_sub hl [2, 1, 0] rfl)
set_option maxHeartbeats 4000000 in
set_option maxRecDepth 100000 in
theorem w_X4_leftNow_0 {p : Program} {l : Launch} {e : Env} {s : State} {m : MethodId} {args : Array Value} {below : List Frame} {meth : Method} {c : Code} {A : Nat → Prop} {D : va_G} {cy : Nat → ClassId} {b0 : Nat → Nat} {uv : MS} {fu : Nat} {rr : Int32} (M : kM p s m args meth c cX4_leftNow 3 (some .int) RX4 wsX4_leftNow A D cy) (ih : I_X4_leftNow p l e s m args below meth c A D cy b0 uv fu rr)  {oo : (Int32 × Int32) ⊕ (Int32)} (h : f_X4_leftNow_0 uv = some oo) (hm : lpo (st_X4_leftNow uv) fu oo rr) {H : Heap} {locs : List Loc} {ls : Array Slot} (hP : va_P D vwCl (wM cy b0 uv []) H) (hD : va_D A (wM cy b0 uv [])) (hS : va_S A s.heap H locs) (hl : lv_has ls 3 [(0, .ref (b0 0))]) : W p l e { frames := 0, cells := 0, slots := 0, locals := 0 } s m args below meth c H locs 0 0 (MQ below (qI D (wM cy b0 uv []) (rr) A) args s 0 0 A) (F0 m 0 ls []) := by
  obtain ⟨hx, hb, hr, hml, hown, hts, hlk, hA, hK⟩ := id M
  unfold f_X4_leftNow_0 at h
  refine lv_iconst (v := 0) hx hb dX4_leftNow_0 (by decide) ?_
  refine lv_istore_n (lv' := [(1, .int (0 : Int32)), (0, .ref (b0 0))]) hx hb dX4_leftNow_1 rfl hl (by decide) rfl (fun ls hl => ?_)
  refine lv_iconst (v := 0) hx hb dX4_leftNow_2 (by decide) ?_
  refine lv_istore_n (lv' := [(2, .int (0 : Int32)), (1, .int (0 : Int32)), (0, .ref (b0 0))]) hx hb dX4_leftNow_3 rfl hl (by decide) rfl (fun ls hl => ?_)
  cases h
  exact ih (0 : Int32) (0 : Int32) _ _ _ hm hP hD hS (lv_sub hl [2, 1, 0] rfl)
theorem wl_X4_leftNow {p : Program} {l : Launch} {e : Env} {s : State} {m : MethodId} {args : Array Value} {below : List Frame} {meth : Method} {c : Code} {A : Nat → Prop} {D : va_G} {cy : Nat → ClassId} {b0 : Nat → Nat} {uv : MS} {rr : Int32} (M : kM p s m args meth c cX4_leftNow 3 (some .int) RX4 wsX4_leftNow A D cy) : ∀ fu : Nat, I_X4_leftNow p l e s m args below meth c A D cy b0 uv fu rr := by
  intro fu
  induction fu with
  | zero => exact (fun _ _ _ _ _ h => by cases h)
  | succ fu ih =>
    exact fun x1 x2 H locs ls h hP hD hS hl => by
      obtain ⟨o1, h1, h2⟩ := lpn_s h
      exact w_X4_leftNow_4 M ih h1 h2 hP hD hS hl
theorem c_X4_leftNow {l : Launch} {D : va_G} {cy : Nat → ClassId} (b0 : Nat → Nat) {uv : MS} {rr : Int32} (h : f_X4_leftNow uv = some rr) : CI l D cy yX4_leftNow wsX4_leftNow { frames := 0, cells := 0, slots := 0, locals := 0 } [.ref (b0 0)] (wM cy b0 uv []) (rr) (wM cy b0 uv []) := by
  refine kofI (cc := cX4_leftNow) (maxL := 3) (ret := (some .int)) (by decide) rfl (Nat.le_of_ble_eq_true rfl) ?_
  intro p e s m below meth c A M ls hl hP hD hS
  obtain ⟨o1, fu, h1, h2⟩ := rnx_s h
  exact w_X4_leftNow_0 M (wl_X4_leftNow M fu) h1 h2 hP hD hS hl
theorem eX4_leftNow : yX4_leftNow.cls ≠ "java/lang/invoke/MethodHandle" ∧ yX4_leftNow.cls ≠ "java/lang/invoke/VarHandle" ∧ (parseMethodDescriptor yX4_leftNow.desc).map (fun d => d.parameters.length) = some 0 := by decide +kernel
set_option maxHeartbeats 4000000 in
set_option maxRecDepth 100000 in
theorem w_X4_barred_0 {p : Program} {l : Launch} {e : Env} {s : State} {m : MethodId} {args : Array Value} {below : List Frame} {meth : Method} {c : Code} {A : Nat → Prop} {D : va_G} {cy : Nat → ClassId} {b0 : Nat → Nat} {rr : Int32 × MS} (M : kM p s m args meth c cX4_barred 1 (some .int) RX4 wsX4_barred A D cy) {uv : MS} (h : f_X4_barred uv = some rr) {H : Heap} {locs : List Loc} {ls : Array Slot} (hP : va_P D vwCl (wM cy b0 uv []) H) (hD : va_D A (wM cy b0 uv [])) (hS : va_S A s.heap H locs) (hl : lv_has ls 1 [(0, .ref (b0 0))]) : W p l e { frames := 5, cells := 0, slots := 0, locals := 111 } s m args below meth c H locs 0 0 (MQ below (qI D (wM cy b0 rr.2 []) (rr.1) A) args s 0 0 A) (F0 m 0 ls []) := by
  obtain ⟨hx, hb, hr, hml, hown, hts, hlk, hA, hK⟩ := id M
  unfold f_X4_barred at h
  refine lv_aload_n hx hb dX4_barred_0 rfl (lv_at hl 0 rfl) ?_
  obtain ⟨r_1, hr_1, h⟩ := bn_s h
  refine kcVv (As := []) (rest := []) (ws' := (wM cy b0 r_1 [])) ⟨hx, hb, hml, hown, hts⟩ (cwV 0 hts gX4_barred_X4_asNow rfl rfl rfl ⟨rfl, eX4_asNow⟩ ⟨Nat.le_of_ble_eq_true rfl, Nat.le_of_ble_eq_true rfl⟩) (c_X4_asNow b0 hr_1) hK hP hD hS hA [0, 1, 2, 3, 4, 5, 6, 7, 8, 9, 10, 11, 12, 13] [] (by decide) rfl rfl 4 rfl rfl [(b0 0), (b0 1), (b0 2), (b0 3), (b0 4), (b0 5), (b0 6), (b0 7), (b0 8), (b0 9), (b0 10), (b0 11), (b0 12), (b0 13)] rfl rfl rfl [] rfl rfl rfl rfl hl.1 rfl (Nat.le_of_ble_eq_true rfl) dX4_barred_1 (fun H locs hP hD hS => ?_)
  refine lv_aload_n hx hb dX4_barred_4 rfl (lv_at hl 0 rfl) ?_
  obtain ⟨r_2, hr_2, h⟩ := bn_s h
  refine kcVv (As := []) (rest := []) (ws' := (wM cy b0 r_2 [])) ⟨hx, hb, hml, hown, hts⟩ (cwV 0 hts gX4_barred_X4_payAll rfl rfl rfl ⟨rfl, eX4_payAll⟩ ⟨Nat.le_of_ble_eq_true rfl, Nat.le_of_ble_eq_true rfl⟩) (c_X4_payAll b0 hr_2) hK hP hD hS hA [0, 1, 2, 3, 4, 5, 6, 7, 8, 9, 10, 11, 12, 13] [] (by decide) rfl rfl 4 rfl rfl [(b0 0), (b0 1), (b0 2), (b0 3), (b0 4), (b0 5), (b0 6), (b0 7), (b0 8), (b0 9), (b0 10), (b0 11), (b0 12), (b0 13)] rfl rfl rfl [] rfl rfl rfl rfl hl.1 rfl (Nat.le_of_ble_eq_true rfl) dX4_barred_5 (fun H locs hP hD hS => ?_)
  refine lv_aload_n hx hb dX4_barred_8 rfl (lv_at hl 0 rfl) ?_
  obtain ⟨r_3, hr_3, h⟩ := bn_s h
  refine kcVi (As := []) (rest := []) (ws' := (wM cy b0 r_2 [])) ⟨hx, hb, hml, hown, hts⟩ (cwV 0 hts gX4_barred_X4_leftNow rfl rfl rfl ⟨rfl, eX4_leftNow⟩ ⟨Nat.le_of_ble_eq_true rfl, Nat.le_of_ble_eq_true rfl⟩) (c_X4_leftNow b0 hr_3) hK hP hD hS hA [0, 1, 2, 3, 4, 5, 6, 7, 8, 9, 10, 11, 12, 13] [] (by decide) rfl rfl 4 rfl rfl [(b0 0), (b0 1), (b0 2), (b0 3), (b0 4), (b0 5), (b0 6), (b0 7), (b0 8), (b0 9), (b0 10), (b0 11), (b0 12), (b0 13)] rfl rfl rfl [] rfl rfl rfl rfl hl.1 rfl (Nat.le_of_ble_eq_true rfl) dX4_barred_9 (fun H locs hP hD hS => ?_)
  cases h
  exact kretI hx hb hr hlk hP hS dX4_barred_12
theorem c_X4_barred {l : Launch} {D : va_G} {cy : Nat → ClassId} (b0 : Nat → Nat) {uv : MS} {rr : Int32 × MS} (h : f_X4_barred uv = some rr) : CI l D cy yX4_barred wsX4_barred { frames := 5, cells := 0, slots := 0, locals := 111 } [.ref (b0 0)] (wM cy b0 uv []) (rr.1) (wM cy b0 rr.2 []) := by
  refine kofI (cc := cX4_barred) (maxL := 1) (ret := (some .int)) (by decide) rfl (Nat.le_of_ble_eq_true rfl) ?_
  intro p e s m below meth c A M ls hl hP hD hS
  exact w_X4_barred_0 M h hP hD hS hl
theorem eX4_barred : yX4_barred.cls ≠ "java/lang/invoke/MethodHandle" ∧ yX4_barred.cls ≠ "java/lang/invoke/VarHandle" ∧ (parseMethodDescriptor yX4_barred.desc).map (fun d => d.parameters.length) = some 0 := by decide +kernel
def I_X4_choose (p : Program) (l : Launch) (e : Env) (s : State) (m : MethodId) (args : Array Value) (below : List Frame) (meth : Method) (c : Code) (A : Nat → Prop) (D : va_G) (cy : Nat → ClassId) (x0 : Int32) (x1 : Int32) (fu : Nat) (rr : Int64) : Prop := (∀ (x2 : Int64) (x4 : Int32) (H : Heap) (locs : List Loc) (ls : Array Slot), lpn (st_X4_choose x0 x1) fu (x2, x4) = some rr → va_P D vwCl [] H → va_D A [] → va_S A s.heap H locs → lv_has ls 5 [(0, .int x0), (1, .int x1), (2, .long x2), (4, .int x4)] → W p l e { frames := 0, cells := 0, slots := 0, locals := 0 } s m args below meth c H locs 0 0 (MQ below (qL D [] (rr) A) args s 0 0 A) (F0 m 5 ls []))
set_option maxHeartbeats 4000000 in
set_option maxRecDepth 100000 in
theorem w_X4_choose_5 {p : Program} {l : Launch} {e : Env} {s : State} {m : MethodId} {args : Array Value} {below : List Frame} {meth : Method} {c : Code} {A : Nat → Prop} {D : va_G} {cy : Nat → ClassId} {x0 : Int32} {x1 : Int32} {fu : Nat} {rr : Int64} (M : kM p s m args meth c cX4_choose 5 (some .long) RX4 wsX4_choose A D cy) (ih : I_X4_choose p l e s m args below meth c A D cy x0 x1 fu rr) {x2 : Int64} {x4 : Int32} {oo : (Int64 × Int32) ⊕ (Int64)} (h : f_X4_choose_5 x0 x1 x2 x4 = some oo) (hm : lpo (st_X4_choose x0 x1) fu oo rr) {H : Heap} {locs : List Loc} {ls : Array Slot} (hP : va_P D vwCl [] H) (hD : va_D A []) (hS : va_S A s.heap H locs) (hl : lv_has ls 5 [(0, .int x0), (1, .int x1), (2, .long x2), (4, .int x4)]) : W p l e { frames := 0, cells := 0, slots := 0, locals := 0 } s m args below meth c H locs 0 0 (MQ below (qL D [] (rr) A) args s 0 0 A) (F0 m 5 ls []) := by
  obtain ⟨hx, hb, hr, hml, hown, hts, hlk, hA, hK⟩ := id M
  unfold f_X4_choose_5 at h
  refine lv_iload hx hb dX4_choose_5 (lv_at hl 3 rfl) ?_
  refine lv_iload_n hx hb dX4_choose_7 rfl (lv_at hl 1 rfl) ?_
  refine lv_icmp_ge (tgt := 31) hx hb dX4_choose_8 (by decide) (fun c_1 => ?_) (fun c_1 => ?_)
  · replace h := it_p c_1 h
    refine lv_lload_n hx hb dX4_choose_31 rfl (lv_at hl 2 rfl) ?_
    cases h
    have hm : _ = rr := hm
    subst hm
    exact kretL hx hb hr hlk hP hS dX4_choose_32
  · replace h := it_n c_1 h
    refine lv_lload_n hx hb dX4_choose_11 rfl (lv_at hl 2 rfl) ?_
    refine lv_iload_n hx hb dX4_choose_12 rfl (lv_at hl 0 rfl) ?_
    refine lv_iload hx hb dX4_choose_13 (lv_at hl 3 rfl) ?_
    refine lv_isub hx hb dX4_choose_15 ?_
    refine lv_i2l hx hb dX4_choose_16 rfl ?_
    refine lv_lmul hx hb dX4_choose_17 ?_
    refine lv_iload hx hb dX4_choose_18 (lv_at hl 3 rfl) ?_
    refine lv_iconst (v := 1) hx hb dX4_choose_20 (by decide) ?_
    refine lv_iadd hx hb dX4_choose_21 ?_
    refine lv_i2l hx hb dX4_choose_22 rfl ?_
    obtain ⟨z_2, h⟩ := dzl_s h
    refine lv_ldiv hx hb dX4_choose_23 z_2 ?_
    refine lv_topl (fun x2_3 ex2_3 => ?_)
    replace h := nm_s h ex2_3
    refine lv_lstore_n (lv' := [(2, .long x2_3), (0, .int x0), (1, .int x1), (4, .int x4)]) hx hb dX4_choose_24 rfl hl (by decide) rfl (fun ls hl => ?_)
    obtain ⟨x4_4, ex4_4⟩ : ∃ z : Int32, z = (x4 + (1 : Int32)) := ⟨_, rfl⟩
    replace h := nm_s h ex4_4
    refine lv_iinc (v := x4_4) (lv' := [(4, .int x4_4), (2, .long x2_3), (0, .int x0), (1, .int x1)]) hx hb dX4_choose_25 hl (k := 3) rfl (by rw [ex4_4]; rfl) (by decide) rfl (fun ls hl => ?_)
    refine lv_goto (tgt := 5) hx hb dX4_choose_28 (by decide) ?_
    cases h
    exact ih x2_3 x4_4 _ _ _ hm hP hD hS (lv_sub hl [2, 3, 1, 0] rfl)
set_option maxHeartbeats 4000000 in
set_option maxRecDepth 100000 in
theorem w_X4_choose_0 {p : Program} {l : Launch} {e : Env} {s : State} {m : MethodId} {args : Array Value} {below : List Frame} {meth : Method} {c : Code} {A : Nat → Prop} {D : va_G} {cy : Nat → ClassId} {x0 : Int32} {x1 : Int32} {fu : Nat} {rr : Int64} (M : kM p s m args meth c cX4_choose 5 (some .long) RX4 wsX4_choose A D cy) (ih : I_X4_choose p l e s m args below meth c A D cy x0 x1 fu rr)  {oo : (Int64 × Int32) ⊕ (Int64)} (h : f_X4_choose_0 x0 x1 = some oo) (hm : lpo (st_X4_choose x0 x1) fu oo rr) {H : Heap} {locs : List Loc} {ls : Array Slot} (hP : va_P D vwCl [] H) (hD : va_D A []) (hS : va_S A s.heap H locs) (hl : lv_has ls 5 [(0, .int x0), (1, .int x1)]) : W p l e { frames := 0, cells := 0, slots := 0, locals := 0 } s m args below meth c H locs 0 0 (MQ below (qL D [] (rr) A) args s 0 0 A) (F0 m 0 ls []) := by
  obtain ⟨hx, hb, hr, hml, hown, hts, hlk, hA, hK⟩ := id M
  unfold f_X4_choose_0 at h
  refine lv_lconst (v := 1) hx hb dX4_choose_0 (by decide) ?_
  refine lv_lstore_n (lv' := [(2, .long (1 : Int64)), (0, .int x0), (1, .int x1)]) hx hb dX4_choose_1 rfl hl (by decide) rfl (fun ls hl => ?_)
  refine lv_iconst (v := 0) hx hb dX4_choose_2 (by decide) ?_
  refine lv_istore (lv' := [(4, .int (0 : Int32)), (2, .long (1 : Int64)), (0, .int x0), (1, .int x1)]) hx hb dX4_choose_3 hl (by decide) rfl (fun ls hl => ?_)
  cases h
  exact ih (1 : Int64) (0 : Int32) _ _ _ hm hP hD hS (lv_sub hl [2, 3, 1, 0] rfl)
theorem wl_X4_choose {p : Program} {l : Launch} {e : Env} {s : State} {m : MethodId} {args : Array Value} {below : List Frame} {meth : Method} {c : Code} {A : Nat → Prop} {D : va_G} {cy : Nat → ClassId} {x0 : Int32} {x1 : Int32} {rr : Int64} (M : kM p s m args meth c cX4_choose 5 (some .long) RX4 wsX4_choose A D cy) : ∀ fu : Nat, I_X4_choose p l e s m args below meth c A D cy x0 x1 fu rr := by
  intro fu
  induction fu with
  | zero => exact (fun _ _ _ _ _ h => by cases h)
  | succ fu ih =>
    exact fun x2 x4 H locs ls h hP hD hS hl => by
      obtain ⟨o1, h1, h2⟩ := lpn_s h
      exact w_X4_choose_5 M ih h1 h2 hP hD hS hl
theorem c_X4_choose {l : Launch} {D : va_G} {cy : Nat → ClassId}  {x0 : Int32} {x1 : Int32} {rr : Int64} (h : f_X4_choose x0 x1 = some rr) : CL l D cy yX4_choose wsX4_choose { frames := 0, cells := 0, slots := 0, locals := 0 } [.int x0, .int x1] [] (rr) [] := by
  refine kofL (cc := cX4_choose) (maxL := 5) (ret := (some .long)) (by decide) rfl (Nat.le_of_ble_eq_true rfl) ?_
  intro p e s m below meth c A M ls hl hP hD hS
  obtain ⟨o1, fu, h1, h2⟩ := rnx_s h
  exact w_X4_choose_0 M (wl_X4_choose M fu) h1 h2 hP hD hS hl
theorem eX4_choose : yX4_choose.cls ≠ "java/lang/invoke/MethodHandle" ∧ yX4_choose.cls ≠ "java/lang/invoke/VarHandle" ∧ (parseMethodDescriptor yX4_choose.desc).map (fun d => d.parameters.length) = some 2 := by decide +kernel
set_option maxHeartbeats 4000000 in
set_option maxRecDepth 100000 in
theorem w_X4_in_0 {p : Program} {l : Launch} {e : Env} {s : State} {m : MethodId} {args : Array Value} {below : List Frame} {meth : Method} {c : Code} {A : Nat → Prop} {D : va_G} {cy : Nat → ClassId} {x0 : Int32} {x1 : Int32} {x2 : Int32} {rr : Int32} (M : kM p s m args meth c cX4_in 3 (some .boolean) RX4 wsX4_in A D cy)  (h : f_X4_in x0 x1 x2 = some rr) {H : Heap} {locs : List Loc} {ls : Array Slot} (hP : va_P D vwCl [] H) (hD : va_D A []) (hS : va_S A s.heap H locs) (hl : lv_has ls 3 [(0, .int x0), (1, .int x1), (2, .int x2)]) : W p l e { frames := 0, cells := 0, slots := 0, locals := 0 } s m args below meth c H locs 0 0 (MQ below (qI D [] (rr) A) args s 0 0 A) (F0 m 0 ls []) := by
  obtain ⟨hx, hb, hr, hml, hown, hts, hlk, hA, hK⟩ := id M
  unfold f_X4_in at h
  refine lv_iload_n hx hb dX4_in_0 rfl (lv_at hl 0 rfl) ?_
  refine lv_iload_n hx hb dX4_in_1 rfl (lv_at hl 1 rfl) ?_
  refine lv_icmp_lt (tgt := 14) hx hb dX4_in_2 (by decide) (fun c_1 => ?_) (fun c_1 => ?_)
  · replace h := it_p c_1 h
    refine lv_iconst (v := 0) hx hb dX4_in_14 (by decide) ?_
    cases h
    exact kretZ (r0 := (0 : Int32)) (ty := .boolean) hx hb hr hlk hP hS (by decide) dX4_in_15
  · replace h := it_n c_1 h
    refine lv_iload_n hx hb dX4_in_5 rfl (lv_at hl 0 rfl) ?_
    refine lv_iload_n hx hb dX4_in_6 rfl (lv_at hl 2 rfl) ?_
    refine lv_icmp_gt (tgt := 14) hx hb dX4_in_7 (by decide) (fun c_2 => ?_) (fun c_2 => ?_)
    · replace h := it_p c_2 h
      refine lv_iconst (v := 0) hx hb dX4_in_14 (by decide) ?_
      cases h
      exact kretZ (r0 := (0 : Int32)) (ty := .boolean) hx hb hr hlk hP hS (by decide) dX4_in_15
    · replace h := it_n c_2 h
      refine lv_iconst (v := 1) hx hb dX4_in_10 (by decide) ?_
      refine lv_goto (tgt := 15) hx hb dX4_in_11 (by decide) ?_
      cases h
      exact kretZ (r0 := (1 : Int32)) (ty := .boolean) hx hb hr hlk hP hS (by decide) dX4_in_15
theorem c_X4_in {l : Launch} {D : va_G} {cy : Nat → ClassId}  {x0 : Int32} {x1 : Int32} {x2 : Int32} {rr : Int32} (h : f_X4_in x0 x1 x2 = some rr) : CI l D cy yX4_in wsX4_in { frames := 0, cells := 0, slots := 0, locals := 0 } [.int x0, .int x1, .int x2] [] (rr) [] := by
  refine kofI (cc := cX4_in) (maxL := 3) (ret := (some .boolean)) (by decide) rfl (Nat.le_of_ble_eq_true rfl) ?_
  intro p e s m below meth c A M ls hl hP hD hS
  exact w_X4_in_0 M h hP hD hS hl
theorem eX4_in : yX4_in.cls ≠ "java/lang/invoke/MethodHandle" ∧ yX4_in.cls ≠ "java/lang/invoke/VarHandle" ∧ (parseMethodDescriptor yX4_in.desc).map (fun d => d.parameters.length) = some 3 := by decide +kernel
set_option maxHeartbeats 4000000 in
set_option maxRecDepth 100000 in
theorem w_X4_isMan_0 {p : Program} {l : Launch} {e : Env} {s : State} {m : MethodId} {args : Array Value} {below : List Frame} {meth : Method} {c : Code} {A : Nat → Prop} {D : va_G} {cy : Nat → ClassId} {x0 : Int32} {rr : Int32} (M : kM p s m args meth c cX4_isMan 1 (some .boolean) RX4 wsX4_isMan A D cy)  (h : f_X4_isMan x0 = some rr) {H : Heap} {locs : List Loc} {ls : Array Slot} (hP : va_P D vwCl [] H) (hD : va_D A []) (hS : va_S A s.heap H locs) (hl : lv_has ls 1 [(0, .int x0)]) : W p l e { frames := 1, cells := 0, slots := 0, locals := 22 } s m args below meth c H locs 0 0 (MQ below (qI D [] (rr) A) args s 0 0 A) (F0 m 0 ls []) := by
  obtain ⟨hx, hb, hr, hml, hown, hts, hlk, hA, hK⟩ := id M
  unfold f_X4_isMan at h
  refine lv_iload_n hx hb dX4_isMan_0 rfl (lv_at hl 0 rfl) ?_
  refine lv_iconst (v := 0) hx hb dX4_isMan_1 (by decide) ?_
  refine lv_iconst (v := 5) hx hb dX4_isMan_2 (by decide) ?_
  obtain ⟨r_1, hr_1, h⟩ := bn_s h
  refine kcSi (As := [.int x0, .int (0 : Int32), .int (5 : Int32)]) (rest := []) ⟨hx, hb, hml, hown, hts⟩ (va_cwS 3 hts gX4_isMan_X4_in rfl rfl rfl eX4_in ⟨Nat.le_of_ble_eq_true rfl, Nat.le_of_ble_eq_true rfl⟩) (c_X4_in  hr_1) hK hP hS hA rfl hl.1 rfl (Nat.le_of_ble_eq_true rfl) dX4_isMan_3 (fun H locs hP hS => ?_)
  obtain ⟨hnr, h⟩ := bz_s h
  cases h
  exact kretZ (ty := .boolean) hx hb hr hlk hP hS hnr dX4_isMan_6
theorem c_X4_isMan {l : Launch} {D : va_G} {cy : Nat → ClassId}  {x0 : Int32} {rr : Int32} (h : f_X4_isMan x0 = some rr) : CI l D cy yX4_isMan wsX4_isMan { frames := 1, cells := 0, slots := 0, locals := 22 } [.int x0] [] (rr) [] := by
  refine kofI (cc := cX4_isMan) (maxL := 1) (ret := (some .boolean)) (by decide) rfl (Nat.le_of_ble_eq_true rfl) ?_
  intro p e s m below meth c A M ls hl hP hD hS
  exact w_X4_isMan_0 M h hP hD hS hl
theorem eX4_isMan : yX4_isMan.cls ≠ "java/lang/invoke/MethodHandle" ∧ yX4_isMan.cls ≠ "java/lang/invoke/VarHandle" ∧ (parseMethodDescriptor yX4_isMan.desc).map (fun d => d.parameters.length) = some 1 := by decide +kernel
theorem iX4_isDebt_X4 : ∀ w ∈ u_ws RX4 TX4 21, w ∈ wsX4_isDebt := by decide +kernel
theorem mX4_isDebt_1 : Cond.fieldLink RX4 13 "LentPilesModel" "size" "[I" ∈ wsX4_isDebt := by decide +kernel
set_option maxHeartbeats 4000000 in
set_option maxRecDepth 100000 in
theorem w_X4_isDebt_0 {p : Program} {l : Launch} {e : Env} {s : State} {m : MethodId} {args : Array Value} {below : List Frame} {meth : Method} {c : Code} {A : Nat → Prop} {D : va_G} {cy : Nat → ClassId} {b0 : Nat → Nat} {uv : MS} {x1 : Int32} {x2 : Int32} {rr : Int32} (M : kM p s m args meth c cX4_isDebt 3 (some .boolean) RX4 wsX4_isDebt A D cy)  (h : f_X4_isDebt uv x1 x2 = some rr) {H : Heap} {locs : List Loc} {ls : Array Slot} (hP : va_P D vwCl (wM cy b0 uv []) H) (hD : va_D A (wM cy b0 uv [])) (hS : va_S A s.heap H locs) (hl : lv_has ls 3 [(0, .ref (b0 0)), (1, .int x1), (2, .int x2)]) : W p l e { frames := 2, cells := 0, slots := 0, locals := 42 } s m args below meth c H locs 0 0 (MQ below (qI D (wM cy b0 uv []) (rr) A) args s 0 0 A) (F0 m 0 ls []) := by
  obtain ⟨hx, hb, hr, hml, hown, hts, hlk, hA, hK⟩ := id M
  unfold f_X4_isDebt at h
  refine lv_iload_n hx hb dX4_isDebt_0 rfl (lv_at hl 1 rfl) ?_
  obtain ⟨r_1, hr_1, h⟩ := bn_s h
  refine kcSi (As := [.int x1]) (rest := []) ⟨hx, hb, hml, hown, hts⟩ (va_cwS 1 hts gX4_isDebt_X4_isMan rfl rfl rfl eX4_isMan ⟨Nat.le_of_ble_eq_true rfl, Nat.le_of_ble_eq_true rfl⟩) (c_X4_isMan  hr_1) hK hP hS hA rfl hl.1 rfl (Nat.le_of_ble_eq_true rfl) dX4_isDebt_1 (fun H locs hP hS => ?_)
  refine lv_if_eq (tgt := 27) hx hb dX4_isDebt_4 (by decide) (fun c_2 => ?_) (fun c_2 => ?_)
  · replace h := it_p c_2 h
    refine lv_iconst (v := 0) hx hb dX4_isDebt_27 (by decide) ?_
    cases h
    exact kretZ (r0 := (0 : Int32)) (ty := .boolean) hx hb hr hlk hP hS (by decide) dX4_isDebt_28
  · replace h := it_n c_2 h
    refine lv_iload_n hx hb dX4_isDebt_7 rfl (lv_at hl 2 rfl) ?_
    refine lv_iconst (v := 0) hx hb dX4_isDebt_8 (by decide) ?_
    refine lv_aload_n hx hb dX4_isDebt_9 rfl (lv_at hl 0 rfl) ?_
    refine va_get (D := D) (ci := 4) (v := .ref (b0 2)) (C := RX4) (T := TX4) (N := 21) hx hb hts iX4_isDebt_X4 hown hK.1 hP 0 rfl rfl 4 (by decide) (hts _ mX4_isDebt_1) (fun _ h9 => h9) rfl dX4_isDebt_10 ?_
    refine lv_iload_n hx hb dX4_isDebt_13 rfl (lv_at hl 1 rfl) ?_
    obtain ⟨b_3, h⟩ := ck_s h
    refine va_iald hx hb hK.1 hP 2 1 rfl rfl b_3 dX4_isDebt_14 ?_
    refine lv_iconst (v := 1) hx hb dX4_isDebt_15 (by decide) ?_
    refine lv_isub hx hb dX4_isDebt_16 ?_
    obtain ⟨r_4, hr_4, h⟩ := bn_s h
    refine kcSi (As := [.int x2, .int (0 : Int32), .int ((uv.2.2.2.2.1 x1.toNatClampNeg) - (1 : Int32))]) (rest := []) ⟨hx, hb, hml, hown, hts⟩ (va_cwS 3 hts gX4_isDebt_X4_in rfl rfl rfl eX4_in ⟨Nat.le_of_ble_eq_true rfl, Nat.le_of_ble_eq_true rfl⟩) (c_X4_in  hr_4) hK hP hS hA rfl hl.1 rfl (Nat.le_of_ble_eq_true rfl) dX4_isDebt_17 (fun H locs hP hS => ?_)
    refine lv_if_eq (tgt := 27) hx hb dX4_isDebt_20 (by decide) (fun c_5 => ?_) (fun c_5 => ?_)
    · replace h := it_p c_5 h
      refine lv_iconst (v := 0) hx hb dX4_isDebt_27 (by decide) ?_
      cases h
      exact kretZ (r0 := (0 : Int32)) (ty := .boolean) hx hb hr hlk hP hS (by decide) dX4_isDebt_28
    · replace h := it_n c_5 h
      refine lv_iconst (v := 1) hx hb dX4_isDebt_23 (by decide) ?_
      refine lv_goto (tgt := 28) hx hb dX4_isDebt_24 (by decide) ?_
      cases h
      exact kretZ (r0 := (1 : Int32)) (ty := .boolean) hx hb hr hlk hP hS (by decide) dX4_isDebt_28
theorem c_X4_isDebt {l : Launch} {D : va_G} {cy : Nat → ClassId} (b0 : Nat → Nat) {uv : MS} {x1 : Int32} {x2 : Int32} {rr : Int32} (h : f_X4_isDebt uv x1 x2 = some rr) : CI l D cy yX4_isDebt wsX4_isDebt { frames := 2, cells := 0, slots := 0, locals := 42 } [.ref (b0 0), .int x1, .int x2] (wM cy b0 uv []) (rr) (wM cy b0 uv []) := by
  refine kofI (cc := cX4_isDebt) (maxL := 3) (ret := (some .boolean)) (by decide) rfl (Nat.le_of_ble_eq_true rfl) ?_
  intro p e s m below meth c A M ls hl hP hD hS
  exact w_X4_isDebt_0 M h hP hD hS hl
theorem eX4_isDebt : yX4_isDebt.cls ≠ "java/lang/invoke/MethodHandle" ∧ yX4_isDebt.cls ≠ "java/lang/invoke/VarHandle" ∧ (parseMethodDescriptor yX4_isDebt.desc).map (fun d => d.parameters.length) = some 2 := by decide +kernel
theorem iX4_debt_X4 : ∀ w ∈ u_ws RX4 TX4 21, w ∈ wsX4_debt := by decide +kernel
theorem mX4_debt_1 : Cond.fieldLink RX4 16 "LentPilesModel" "pile" "[I" ∈ wsX4_debt := by decide +kernel
set_option maxHeartbeats 4000000 in
set_option maxRecDepth 100000 in
theorem w_X4_debt_0 {p : Program} {l : Launch} {e : Env} {s : State} {m : MethodId} {args : Array Value} {below : List Frame} {meth : Method} {c : Code} {A : Nat → Prop} {D : va_G} {cy : Nat → ClassId} {b0 : Nat → Nat} {uv : MS} {x1 : Int32} {x2 : Int32} {x3 : Int32} {rr : Int32} (M : kM p s m args meth c cX4_debt 4 (some .int) RX4 wsX4_debt A D cy)  (h : f_X4_debt uv x1 x2 x3 = some rr) {H : Heap} {locs : List Loc} {ls : Array Slot} (hP : va_P D vwCl (wM cy b0 uv []) H) (hD : va_D A (wM cy b0 uv [])) (hS : va_S A s.heap H locs) (hl : lv_has ls 4 [(0, .ref (b0 0)), (1, .int x1), (2, .int x2), (3, .int x3)]) : W p l e { frames := 3, cells := 0, slots := 0, locals := 64 } s m args below meth c H locs 0 0 (MQ below (qI D (wM cy b0 uv []) (rr) A) args s 0 0 A) (F0 m 0 ls []) := by
  obtain ⟨hx, hb, hr, hml, hown, hts, hlk, hA, hK⟩ := id M
  unfold f_X4_debt at h
  refine lv_aload_n hx hb dX4_debt_0 rfl (lv_at hl 0 rfl) ?_
  refine lv_iload_n hx hb dX4_debt_1 rfl (lv_at hl 1 rfl) ?_
  refine lv_iload_n hx hb dX4_debt_2 rfl (lv_at hl 2 rfl) ?_
  obtain ⟨r_1, hr_1, h⟩ := bn_s h
  refine kcVi (As := [.int x1, .int x2]) (rest := []) (ws' := (wM cy b0 uv [])) ⟨hx, hb, hml, hown, hts⟩ (cwV 2 hts gX4_debt_X4_isDebt rfl rfl rfl ⟨rfl, eX4_isDebt⟩ ⟨Nat.le_of_ble_eq_true rfl, Nat.le_of_ble_eq_true rfl⟩) (c_X4_isDebt b0 hr_1) hK hP hD hS hA [0, 1, 2, 3, 4, 5, 6, 7, 8, 9, 10, 11, 12, 13] [] (by decide) rfl rfl 4 rfl rfl [(b0 0), (b0 1), (b0 2), (b0 3), (b0 4), (b0 5), (b0 6), (b0 7), (b0 8), (b0 9), (b0 10), (b0 11), (b0 12), (b0 13)] rfl rfl rfl [] rfl rfl rfl rfl hl.1 rfl (Nat.le_of_ble_eq_true rfl) dX4_debt_3 (fun H locs hP hD hS => ?_)
  refine lv_if_ne (tgt := 11) hx hb dX4_debt_6 (by decide) (fun c_2 => ?_) (fun c_2 => ?_)
  · replace h := it_n c_2 h
    refine lv_iload_n hx hb dX4_debt_11 rfl (lv_at hl 3 rfl) ?_
    refine lv_iconst (v := 0) hx hb dX4_debt_12 (by decide) ?_
    refine lv_iconst (v := 2) hx hb dX4_debt_13 (by decide) ?_
    obtain ⟨r_3, hr_3, h⟩ := bn_s h
    refine kcSi (As := [.int x3, .int (0 : Int32), .int (2 : Int32)]) (rest := []) ⟨hx, hb, hml, hown, hts⟩ (va_cwS 3 hts gX4_debt_X4_in rfl rfl rfl eX4_in ⟨Nat.le_of_ble_eq_true rfl, Nat.le_of_ble_eq_true rfl⟩) (c_X4_in  hr_3) hK hP hS hA rfl hl.1 rfl (Nat.le_of_ble_eq_true rfl) dX4_debt_14 (fun H locs hP hS => ?_)
    refine lv_if_eq (tgt := 35) hx hb dX4_debt_17 (by decide) (fun c_4 => ?_) (fun c_4 => ?_)
    · replace h := it_p c_4 h
      refine lv_bipush (v := (-2)) hx hb dX4_debt_35 (by decide) ?_
      cases h
      exact kretI hx hb hr hlk hP hS dX4_debt_37
    · replace h := it_n c_4 h
      refine lv_aload_n hx hb dX4_debt_20 rfl (lv_at hl 0 rfl) ?_
      refine va_get (D := D) (ci := 4) (v := .ref (b0 3)) (C := RX4) (T := TX4) (N := 21) hx hb hts iX4_debt_X4 hown hK.1 hP 0 rfl rfl 5 (by decide) (hts _ mX4_debt_1) (fun _ h9 => h9) rfl dX4_debt_21 ?_
      refine lv_iload_n hx hb dX4_debt_24 rfl (lv_at hl 1 rfl) ?_
      refine lv_iload_n hx hb dX4_debt_25 rfl (lv_at hl 2 rfl) ?_
      obtain ⟨r_5, hr_5, h⟩ := bn_s h
      refine kcSi (As := [.int x1, .int x2]) (rest := [.ref (b0 3)]) ⟨hx, hb, hml, hown, hts⟩ (va_cwS 2 hts gX4_debt_X4_at rfl rfl rfl eX4_at ⟨Nat.le_of_ble_eq_true rfl, Nat.le_of_ble_eq_true rfl⟩) (c_X4_at  hr_5) hK hP hS hA rfl hl.1 rfl (Nat.le_of_ble_eq_true rfl) dX4_debt_26 (fun H locs hP hS => ?_)
      refine lv_iload_n hx hb dX4_debt_29 rfl (lv_at hl 3 rfl) ?_
      refine lv_iadd hx hb dX4_debt_30 ?_
      obtain ⟨b_6, h⟩ := ck_s h
      refine va_iald hx hb hK.1 hP 3 1 rfl rfl b_6 dX4_debt_31 ?_
      refine lv_goto (tgt := 37) hx hb dX4_debt_32 (by decide) ?_
      cases h
      exact kretI hx hb hr hlk hP hS dX4_debt_37
  · replace h := it_p c_2 h
    refine lv_iconst (v := (-1)) hx hb dX4_debt_9 (by decide) ?_
    cases h
    exact kretI hx hb hr hlk hP hS dX4_debt_10
theorem c_X4_debt {l : Launch} {D : va_G} {cy : Nat → ClassId} (b0 : Nat → Nat) {uv : MS} {x1 : Int32} {x2 : Int32} {x3 : Int32} {rr : Int32} (h : f_X4_debt uv x1 x2 x3 = some rr) : CI l D cy yX4_debt wsX4_debt { frames := 3, cells := 0, slots := 0, locals := 64 } [.ref (b0 0), .int x1, .int x2, .int x3] (wM cy b0 uv []) (rr) (wM cy b0 uv []) := by
  refine kofI (cc := cX4_debt) (maxL := 4) (ret := (some .int)) (by decide) rfl (Nat.le_of_ble_eq_true rfl) ?_
  intro p e s m below meth c A M ls hl hP hD hS
  exact w_X4_debt_0 M h hP hD hS hl
theorem eX4_debt : yX4_debt.cls ≠ "java/lang/invoke/MethodHandle" ∧ yX4_debt.cls ≠ "java/lang/invoke/VarHandle" ∧ (parseMethodDescriptor yX4_debt.desc).map (fun d => d.parameters.length) = some 3 := by decide +kernel
theorem iX4_faultOf_X4 : ∀ w ∈ u_ws RX4 TX4 21, w ∈ wsX4_faultOf := by decide +kernel
theorem mX4_faultOf_1 : Cond.fieldLink RX4 66 "LentPilesModel" "signs" "I" ∈ wsX4_faultOf := by decide +kernel
theorem mX4_faultOf_2 : Cond.fieldLink RX4 22 "LentPilesModel" "pad" "[I" ∈ wsX4_faultOf := by decide +kernel
def I_X4_faultOf (p : Program) (l : Launch) (e : Env) (s : State) (m : MethodId) (args : Array Value) (below : List Frame) (meth : Method) (c : Code) (A : Nat → Prop) (D : va_G) (cy : Nat → ClassId) (b0 : Nat → Nat) (uv : MS) (fu : Nat) (rr : Int32) : Prop := (∀ (x1 : Int32) (x2 : Int32) (x3 : Int32) (x4 : Int32) (H : Heap) (locs : List Loc) (ls : Array Slot), lpn (st_X4_faultOf uv) fu (x1, x2, x3, x4) = some rr → va_P D vwCl (wM cy b0 uv []) H → va_D A (wM cy b0 uv []) → va_S A s.heap H locs → lv_has ls 8 [(0, .ref (b0 0)), (1, .int x1), (2, .int x2), (3, .int x3), (4, .int x4)] → W p l e { frames := 1, cells := 0, slots := 0, locals := 22 } s m args below meth c H locs 0 0 (MQ below (qI D (wM cy b0 uv []) (rr) A) args s 0 0 A) (F0 m 9 ls []))
set_option maxHeartbeats 4000000 in
set_option maxRecDepth 100000 in
theorem w_X4_faultOf_234 {p : Program} {l : Launch} {e : Env} {s : State} {m : MethodId} {args : Array Value} {below : List Frame} {meth : Method} {c : Code} {A : Nat → Prop} {D : va_G} {cy : Nat → ClassId} {b0 : Nat → Nat} {uv : MS} {fu : Nat} {rr : Int32} (M : kM p s m args meth c cX4_faultOf 8 (some .int) RX4 wsX4_faultOf A D cy) (ih : I_X4_faultOf p l e s m args below meth c A D cy b0 uv fu rr) {x1 : Int32} {x2 : Int32} {x3 : Int32} {x4 : Int32} {x7 : Int32} {oo : (Int32 × Int32 × Int32 × Int32) ⊕ (Int32)} (h : f_X4_faultOf_234 uv x1 x2 x3 x4 x7 = some oo) (hm : lpo (st_X4_faultOf uv) fu oo rr) {H : Heap} {locs : List Loc} {ls : Array Slot} (hP : va_P D vwCl (wM cy b0 uv []) H) (hD : va_D A (wM cy b0 uv [])) (hS : va_S A s.heap H locs) (hl : lv_has ls 8 [(0, .ref (b0 0)), (1, .int x1), (2, .int x2), (3, .int x3), (4, .int x4), (7, .int x7)]) : W p l e { frames := 1, cells := 0, slots := 0, locals := 22 } s m args below meth c H locs 0 0 (MQ below (qI D (wM cy b0 uv []) (rr) A) args s 0 0 A) (F0 m 234 ls []) := by
  obtain ⟨hx, hb, hr, hml, hown, hts, hlk, hA, hK⟩ := id M
  unfold f_X4_faultOf_234 at h
  refine lv_iload hx hb dX4_faultOf_234 (lv_at hl 5 rfl) ?_
  refine lv_if_ne (tgt := 242) hx hb dX4_faultOf_236 (by decide) (fun c_1 => ?_) (fun c_1 => ?_)
  · replace h := it_n c_1 h
    obtain ⟨x4_2, ex4_2⟩ : ∃ z : Int32, z = (x4 + (1 : Int32)) := ⟨_, rfl⟩
    replace h := nm_s h ex4_2
    refine lv_iinc (v := x4_2) (lv' := [(4, .int x4_2), (0, .ref (b0 0)), (1, .int x1), (2, .int x2), (3, .int x3), (7, .int x7)]) hx hb dX4_faultOf_242 hl (k := 4) rfl (by rw [ex4_2]; rfl) (by decide) rfl (fun ls hl => ?_)
    refine lv_goto (tgt := 9) hx hb dX4_faultOf_245 (by decide) ?_
    cases h
    exact ih x1 x2 x3 x4_2 _ _ _ hm hP hD hS (lv_sub hl [1, 2, 3, 4, 0] rfl)
  · replace h := it_p c_1 h
    refine lv_iload hx hb dX4_faultOf_239 (lv_at hl 4 rfl) ?_
    cases h
    have hm : _ = rr := hm
    subst hm
    exact kretI hx hb hr hlk hP hS dX4_faultOf_241
set_option maxHeartbeats 4000000 in
set_option maxRecDepth 100000 in
theorem w_X4_faultOf_175 {p : Program} {l : Launch} {e : Env} {s : State} {m : MethodId} {args : Array Value} {below : List Frame} {meth : Method} {c : Code} {A : Nat → Prop} {D : va_G} {cy : Nat → ClassId} {b0 : Nat → Nat} {uv : MS} {fu : Nat} {rr : Int32} (M : kM p s m args meth c cX4_faultOf 8 (some .int) RX4 wsX4_faultOf A D cy) (ih : I_X4_faultOf p l e s m args below meth c A D cy b0 uv fu rr) {x2 : Int32} {x3 : Int32} {x4 : Int32} {x5 : Int32} {t0 : Int32} {oo : (Int32 × Int32 × Int32 × Int32) ⊕ (Int32)} (h : f_X4_faultOf_175 uv x2 x3 x4 x5 t0 = some oo) (hm : lpo (st_X4_faultOf uv) fu oo rr) {H : Heap} {locs : List Loc} {ls : Array Slot} (hP : va_P D vwCl (wM cy b0 uv []) H) (hD : va_D A (wM cy b0 uv [])) (hS : va_S A s.heap H locs) (hl : lv_has ls 8 [(0, .ref (b0 0)), (2, .int x2), (3, .int x3), (4, .int x4), (5, .int x5)]) : W p l e { frames := 1, cells := 0, slots := 0, locals := 22 } s m args below meth c H locs 0 0 (MQ below (qI D (wM cy b0 uv []) (rr) A) args s 0 0 A) (F0 m 175 ls [.int t0]) := by
  obtain ⟨hx, hb, hr, hml, hown, hts, hlk, hA, hK⟩ := id M
  unfold f_X4_faultOf_175 at h
  refine lv_istore (lv' := [(7, .int t0), (0, .ref (b0 0)), (2, .int x2), (3, .int x3), (4, .int x4), (5, .int x5)]) hx hb dX4_faultOf_175 hl (by decide) rfl (fun ls hl => ?_)
  refine lv_iload hx hb dX4_faultOf_177 (lv_at hl 5 rfl) ?_
  refine lv_bipush (v := 62) hx hb dX4_faultOf_179 (by decide) ?_
  refine lv_icmp_ne (tgt := 188) hx hb dX4_faultOf_181 (by decide) (fun c_1 => ?_) (fun c_1 => ?_)
  · replace h := it_n c_1 h
    refine lv_iconst (v := 0) hx hb dX4_faultOf_188 (by decide) ?_
    refine lv_istore_n (lv' := [(1, .int (0 : Int32)), (7, .int t0), (0, .ref (b0 0)), (2, .int x2), (3, .int x3), (4, .int x4), (5, .int x5)]) hx hb dX4_faultOf_189 rfl hl (by decide) rfl (fun ls hl => ?_)
    refine lv_goto (tgt := 234) hx hb dX4_faultOf_190 (by decide) ?_
    exact w_X4_faultOf_234 M ih h hm hP hD hS (lv_sub hl [2, 0, 3, 4, 5, 1] rfl)
  · replace h := it_p c_1 h
    refine lv_iconst (v := 3) hx hb dX4_faultOf_184 (by decide) ?_
    refine lv_goto (tgt := 189) hx hb dX4_faultOf_185 (by decide) ?_
    refine lv_istore_n (lv' := [(1, .int (3 : Int32)), (7, .int t0), (0, .ref (b0 0)), (2, .int x2), (3, .int x3), (4, .int x4), (5, .int x5)]) hx hb dX4_faultOf_189 rfl hl (by decide) rfl (fun ls hl => ?_)
    refine lv_goto (tgt := 234) hx hb dX4_faultOf_190 (by decide) ?_
    exact w_X4_faultOf_234 M ih h hm hP hD hS (lv_sub hl [2, 0, 3, 4, 5, 1] rfl)
set_option maxHeartbeats 4000000 in
set_option maxRecDepth 100000 in
theorem w_X4_faultOf_116 {p : Program} {l : Launch} {e : Env} {s : State} {m : MethodId} {args : Array Value} {below : List Frame} {meth : Method} {c : Code} {A : Nat → Prop} {D : va_G} {cy : Nat → ClassId} {b0 : Nat → Nat} {uv : MS} {fu : Nat} {rr : Int32} (M : kM p s m args meth c cX4_faultOf 8 (some .int) RX4 wsX4_faultOf A D cy) (ih : I_X4_faultOf p l e s m args below meth c A D cy b0 uv fu rr) {x2 : Int32} {x4 : Int32} {x5 : Int32} {x6 : Int32} {t0 : Int32} {oo : (Int32 × Int32 × Int32 × Int32) ⊕ (Int32)} (h : f_X4_faultOf_116 uv x2 x4 x5 x6 t0 = some oo) (hm : lpo (st_X4_faultOf uv) fu oo rr) {H : Heap} {locs : List Loc} {ls : Array Slot} (hP : va_P D vwCl (wM cy b0 uv []) H) (hD : va_D A (wM cy b0 uv [])) (hS : va_S A s.heap H locs) (hl : lv_has ls 8 [(0, .ref (b0 0)), (2, .int x2), (4, .int x4), (5, .int x5), (6, .int x6)]) : W p l e { frames := 1, cells := 0, slots := 0, locals := 22 } s m args below meth c H locs 0 0 (MQ below (qI D (wM cy b0 uv []) (rr) A) args s 0 0 A) (F0 m 116 ls [.int t0]) := by
  obtain ⟨hx, hb, hr, hml, hown, hts, hlk, hA, hK⟩ := id M
  unfold f_X4_faultOf_116 at h
  refine lv_istore (lv' := [(7, .int t0), (0, .ref (b0 0)), (2, .int x2), (4, .int x4), (5, .int x5), (6, .int x6)]) hx hb dX4_faultOf_116 hl (by decide) rfl (fun ls hl => ?_)
  refine lv_iload hx hb dX4_faultOf_118 (lv_at hl 4 rfl) ?_
  refine lv_istore_n (lv' := [(3, .int x5), (7, .int t0), (0, .ref (b0 0)), (2, .int x2), (4, .int x4), (5, .int x5), (6, .int x6)]) hx hb dX4_faultOf_120 rfl hl (by decide) rfl (fun ls hl => ?_)
  refine lv_iload hx hb dX4_faultOf_121 (lv_at hl 6 rfl) ?_
  refine lv_if_eq (tgt := 130) hx hb dX4_faultOf_123 (by decide) (fun c_1 => ?_) (fun c_1 => ?_)
  · replace h := it_p c_1 h
    refine lv_iload hx hb dX4_faultOf_130 (lv_at hl 5 rfl) ?_
    refine lv_bipush (v := 46) hx hb dX4_faultOf_132 (by decide) ?_
    refine lv_icmp_ne (tgt := 141) hx hb dX4_faultOf_134 (by decide) (fun c_2 => ?_) (fun c_2 => ?_)
    · replace h := it_n c_2 h
      refine lv_iconst (v := 2) hx hb dX4_faultOf_141 (by decide) ?_
      refine lv_istore_n (lv' := [(1, .int (2 : Int32)), (3, .int x5), (7, .int t0), (0, .ref (b0 0)), (2, .int x2), (4, .int x4), (5, .int x5), (6, .int x6)]) hx hb dX4_faultOf_142 rfl hl (by decide) rfl (fun ls hl => ?_)
      refine lv_goto (tgt := 234) hx hb dX4_faultOf_143 (by decide) ?_
      exact w_X4_faultOf_234 M ih h hm hP hD hS (lv_sub hl [3, 0, 4, 1, 5, 2] rfl)
    · replace h := it_p c_2 h
      refine lv_iconst (v := 0) hx hb dX4_faultOf_137 (by decide) ?_
      refine lv_goto (tgt := 142) hx hb dX4_faultOf_138 (by decide) ?_
      refine lv_istore_n (lv' := [(1, .int (0 : Int32)), (3, .int x5), (7, .int t0), (0, .ref (b0 0)), (2, .int x2), (4, .int x4), (5, .int x5), (6, .int x6)]) hx hb dX4_faultOf_142 rfl hl (by decide) rfl (fun ls hl => ?_)
      refine lv_goto (tgt := 234) hx hb dX4_faultOf_143 (by decide) ?_
      exact w_X4_faultOf_234 M ih h hm hP hD hS (lv_sub hl [3, 0, 4, 1, 5, 2] rfl)
  · replace h := it_n c_1 h
    refine lv_iconst (v := 1) hx hb dX4_faultOf_126 (by decide) ?_
    refine lv_goto (tgt := 142) hx hb dX4_faultOf_127 (by decide) ?_
    refine lv_istore_n (lv' := [(1, .int (1 : Int32)), (3, .int x5), (7, .int t0), (0, .ref (b0 0)), (2, .int x2), (4, .int x4), (5, .int x5), (6, .int x6)]) hx hb dX4_faultOf_142 rfl hl (by decide) rfl (fun ls hl => ?_)
    refine lv_goto (tgt := 234) hx hb dX4_faultOf_143 (by decide) ?_
    exact w_X4_faultOf_234 M ih h hm hP hD hS (lv_sub hl [3, 0, 4, 1, 5, 2] rfl)
set_option maxHeartbeats 4000000 in
set_option maxRecDepth 100000 in
theorem w_X4_faultOf_85 {p : Program} {l : Launch} {e : Env} {s : State} {m : MethodId} {args : Array Value} {below : List Frame} {meth : Method} {c : Code} {A : Nat → Prop} {D : va_G} {cy : Nat → ClassId} {b0 : Nat → Nat} {uv : MS} {fu : Nat} {rr : Int32} (M : kM p s m args meth c cX4_faultOf 8 (some .int) RX4 wsX4_faultOf A D cy) (ih : I_X4_faultOf p l e s m args below meth c A D cy b0 uv fu rr) {x4 : Int32} {x5 : Int32} {x6 : Int32} {t0 : Int32} {t1 : Int32} {oo : (Int32 × Int32 × Int32 × Int32) ⊕ (Int32)} (h : f_X4_faultOf_85 uv x4 x5 x6 t0 t1 = some oo) (hm : lpo (st_X4_faultOf uv) fu oo rr) {H : Heap} {locs : List Loc} {ls : Array Slot} (hP : va_P D vwCl (wM cy b0 uv []) H) (hD : va_D A (wM cy b0 uv [])) (hS : va_S A s.heap H locs) (hl : lv_has ls 8 [(0, .ref (b0 0)), (4, .int x4), (5, .int x5), (6, .int x6)]) : W p l e { frames := 1, cells := 0, slots := 0, locals := 22 } s m args below meth c H locs 0 0 (MQ below (qI D (wM cy b0 uv []) (rr) A) args s 0 0 A) (F0 m 85 ls [.int t1, .int t0]) := by
  obtain ⟨hx, hb, hr, hml, hown, hts, hlk, hA, hK⟩ := id M
  unfold f_X4_faultOf_85 at h
  refine lv_iadd hx hb dX4_faultOf_85 ?_
  refine lv_topi (fun x2_1 ex2_1 => ?_)
  replace h := nm_s h ex2_1
  refine lv_istore_n (lv' := [(2, .int x2_1), (0, .ref (b0 0)), (4, .int x4), (5, .int x5), (6, .int x6)]) hx hb dX4_faultOf_86 rfl hl (by decide) rfl (fun ls hl => ?_)
  refine lv_iload hx hb dX4_faultOf_87 (lv_at hl 4 rfl) ?_
  refine lv_if_ne (tgt := 111) hx hb dX4_faultOf_89 (by decide) (fun c_2 => ?_) (fun c_2 => ?_)
  · replace h := it_n c_2 h
    refine lv_iconst (v := 1) hx hb dX4_faultOf_111 (by decide) ?_
    refine lv_goto (tgt := 116) hx hb dX4_faultOf_112 (by decide) ?_
    exact w_X4_faultOf_116 M ih h hm hP hD hS (lv_sub hl [1, 0, 2, 3, 4] rfl)
  · replace h := it_p c_2 h
    refine lv_iload hx hb dX4_faultOf_92 (lv_at hl 3 rfl) ?_
    refine lv_bipush (v := 46) hx hb dX4_faultOf_94 (by decide) ?_
    refine lv_icmp_eq (tgt := 111) hx hb dX4_faultOf_96 (by decide) (fun c_3 => ?_) (fun c_3 => ?_)
    · replace h := it_p c_3 h
      refine lv_iconst (v := 1) hx hb dX4_faultOf_111 (by decide) ?_
      refine lv_goto (tgt := 116) hx hb dX4_faultOf_112 (by decide) ?_
      exact w_X4_faultOf_116 M ih h hm hP hD hS (lv_sub hl [1, 0, 2, 3, 4] rfl)
    · replace h := it_n c_3 h
      refine lv_iload hx hb dX4_faultOf_99 (lv_at hl 3 rfl) ?_
      refine lv_bipush (v := 63) hx hb dX4_faultOf_101 (by decide) ?_
      refine lv_icmp_ne (tgt := 115) hx hb dX4_faultOf_103 (by decide) (fun c_4 => ?_) (fun c_4 => ?_)
      · replace h := it_n c_4 h
        refine lv_iconst (v := 0) hx hb dX4_faultOf_115 (by decide) ?_
        exact w_X4_faultOf_116 M ih h hm hP hD hS (lv_sub hl [1, 0, 2, 3, 4] rfl)
      · replace h := it_p c_4 h
        refine lv_iload_n hx hb dX4_faultOf_106 rfl (lv_at hl 0 rfl) ?_
        refine lv_iconst (v := 4) hx hb dX4_faultOf_107 (by decide) ?_
        refine lv_icmp_ge (tgt := 115) hx hb dX4_faultOf_108 (by decide) (fun c_5 => ?_) (fun c_5 => ?_)
        · replace h := it_p c_5 h
          refine lv_iconst (v := 0) hx hb dX4_faultOf_115 (by decide) ?_
          exact w_X4_faultOf_116 M ih h hm hP hD hS (lv_sub hl [1, 0, 2, 3, 4] rfl)
        · replace h := it_n c_5 h
          refine lv_iconst (v := 1) hx hb dX4_faultOf_111 (by decide) ?_
          refine lv_goto (tgt := 116) hx hb dX4_faultOf_112 (by decide) ?_
          exact w_X4_faultOf_116 M ih h hm hP hD hS (lv_sub hl [1, 0, 2, 3, 4] rfl)
set_option maxHeartbeats 4000000 in
set_option maxRecDepth 100000 in
theorem w_X4_faultOf_72 {p : Program} {l : Launch} {e : Env} {s : State} {m : MethodId} {args : Array Value} {below : List Frame} {meth : Method} {c : Code} {A : Nat → Prop} {D : va_G} {cy : Nat → ClassId} {b0 : Nat → Nat} {uv : MS} {fu : Nat} {rr : Int32} (M : kM p s m args meth c cX4_faultOf 8 (some .int) RX4 wsX4_faultOf A D cy) (ih : I_X4_faultOf p l e s m args below meth c A D cy b0 uv fu rr) {x2 : Int32} {x4 : Int32} {x5 : Int32} {x6 : Int32} {oo : (Int32 × Int32 × Int32 × Int32) ⊕ (Int32)} (h : f_X4_faultOf_72 uv x2 x4 x5 x6 = some oo) (hm : lpo (st_X4_faultOf uv) fu oo rr) {H : Heap} {locs : List Loc} {ls : Array Slot} (hP : va_P D vwCl (wM cy b0 uv []) H) (hD : va_D A (wM cy b0 uv [])) (hS : va_S A s.heap H locs) (hl : lv_has ls 8 [(0, .ref (b0 0)), (2, .int x2), (4, .int x4), (5, .int x5), (6, .int x6)]) : W p l e { frames := 1, cells := 0, slots := 0, locals := 22 } s m args below meth c H locs 0 0 (MQ below (qI D (wM cy b0 uv []) (rr) A) args s 0 0 A) (F0 m 72 ls []) := by
  obtain ⟨hx, hb, hr, hml, hown, hts, hlk, hA, hK⟩ := id M
  unfold f_X4_faultOf_72 at h
  refine lv_iload_n hx hb dX4_faultOf_72 rfl (lv_at hl 1 rfl) ?_
  refine lv_iload hx hb dX4_faultOf_73 (lv_at hl 3 rfl) ?_
  refine lv_bipush (v := 63) hx hb dX4_faultOf_75 (by decide) ?_
  refine lv_icmp_ne (tgt := 84) hx hb dX4_faultOf_77 (by decide) (fun c_1 => ?_) (fun c_1 => ?_)
  · replace h := it_n c_1 h
    refine lv_iconst (v := 0) hx hb dX4_faultOf_84 (by decide) ?_
    exact w_X4_faultOf_85 M ih h hm hP hD hS (lv_sub hl [0, 2, 3, 4] rfl)
  · replace h := it_p c_1 h
    refine lv_iconst (v := 1) hx hb dX4_faultOf_80 (by decide) ?_
    refine lv_goto (tgt := 85) hx hb dX4_faultOf_81 (by decide) ?_
    exact w_X4_faultOf_85 M ih h hm hP hD hS (lv_sub hl [0, 2, 3, 4] rfl)
set_option maxHeartbeats 4000000 in
set_option maxRecDepth 100000 in
theorem w_X4_faultOf_63 {p : Program} {l : Launch} {e : Env} {s : State} {m : MethodId} {args : Array Value} {below : List Frame} {meth : Method} {c : Code} {A : Nat → Prop} {D : va_G} {cy : Nat → ClassId} {b0 : Nat → Nat} {uv : MS} {fu : Nat} {rr : Int32} (M : kM p s m args meth c cX4_faultOf 8 (some .int) RX4 wsX4_faultOf A D cy) (ih : I_X4_faultOf p l e s m args below meth c A D cy b0 uv fu rr) {x1 : Int32} {x2 : Int32} {x3 : Int32} {x4 : Int32} {x5 : Int32} {x6 : Int32} {oo : (Int32 × Int32 × Int32 × Int32) ⊕ (Int32)} (h : f_X4_faultOf_63 uv x1 x2 x3 x4 x5 x6 = some oo) (hm : lpo (st_X4_faultOf uv) fu oo rr) {H : Heap} {locs : List Loc} {ls : Array Slot} (hP : va_P D vwCl (wM cy b0 uv []) H) (hD : va_D A (wM cy b0 uv [])) (hS : va_S A s.heap H locs) (hl : lv_has ls 8 [(0, .ref (b0 0)), (1, .int x1), (2, .int x2), (3, .int x3), (4, .int x4), (5, .int x5), (6, .int x6)]) : W p l e { frames := 1, cells := 0, slots := 0, locals := 22 } s m args below meth c H locs 0 0 (MQ below (qI D (wM cy b0 uv []) (rr) A) args s 0 0 A) (F0 m 63 ls []) := by
  obtain ⟨hx, hb, hr, hml, hown, hts, hlk, hA, hK⟩ := id M
  unfold f_X4_faultOf_63 at h
  refine lv_iload_n hx hb dX4_faultOf_63 rfl (lv_at hl 1 rfl) ?_
  refine lv_if_eq (tgt := 72) hx hb dX4_faultOf_64 (by decide) (fun c_1 => ?_) (fun c_1 => ?_)
  · replace h := it_p c_1 h
    exact w_X4_faultOf_72 M ih h hm hP hD hS (lv_sub hl [0, 2, 4, 5, 6] rfl)
  · replace h := it_n c_1 h
    refine lv_iload_n hx hb dX4_faultOf_67 rfl (lv_at hl 1 rfl) ?_
    refine lv_iconst (v := 5) hx hb dX4_faultOf_68 (by decide) ?_
    refine lv_icmp_ne (tgt := 146) hx hb dX4_faultOf_69 (by decide) (fun c_2 => ?_) (fun c_2 => ?_)
    · replace h := it_n c_2 h
      refine lv_iload_n hx hb dX4_faultOf_146 rfl (lv_at hl 1 rfl) ?_
      refine lv_iconst (v := 3) hx hb dX4_faultOf_147 (by decide) ?_
      refine lv_icmp_ge (tgt := 193) hx hb dX4_faultOf_148 (by decide) (fun c_3 => ?_) (fun c_3 => ?_)
      · replace h := it_p c_3 h
        refine lv_iload_n hx hb dX4_faultOf_193 rfl (lv_at hl 1 rfl) ?_
        refine lv_iconst (v := 3) hx hb dX4_faultOf_194 (by decide) ?_
        refine lv_icmp_ne (tgt := 221) hx hb dX4_faultOf_195 (by decide) (fun c_4 => ?_) (fun c_4 => ?_)
        · replace h := it_n c_4 h
          refine lv_iload hx hb dX4_faultOf_221 (lv_at hl 5 rfl) ?_
          refine lv_bipush (v := 49) hx hb dX4_faultOf_223 (by decide) ?_
          refine lv_bipush (v := 57) hx hb dX4_faultOf_225 (by decide) ?_
          obtain ⟨r_5, hr_5, h⟩ := bn_s h
          refine kcSi (As := [.int x5, .int (49 : Int32), .int (57 : Int32)]) (rest := []) ⟨hx, hb, hml, hown, hts⟩ (va_cwS 3 hts gX4_faultOf_X4_in rfl rfl rfl eX4_in ⟨Nat.le_of_ble_eq_true rfl, Nat.le_of_ble_eq_true rfl⟩) (c_X4_in  hr_5) hK hP hS hA rfl hl.1 rfl (Nat.le_of_ble_eq_true rfl) dX4_faultOf_227 (fun H locs hP hS => ?_)
          refine lv_istore (lv' := [(7, .int r_5), (0, .ref (b0 0)), (1, .int x1), (2, .int x2), (3, .int x3), (4, .int x4), (5, .int x5), (6, .int x6)]) hx hb dX4_faultOf_230 hl (by decide) rfl (fun ls hl => ?_)
          refine lv_iconst (v := 5) hx hb dX4_faultOf_232 (by decide) ?_
          refine lv_istore_n (lv' := [(1, .int (5 : Int32)), (7, .int r_5), (0, .ref (b0 0)), (2, .int x2), (3, .int x3), (4, .int x4), (5, .int x5), (6, .int x6)]) hx hb dX4_faultOf_233 rfl hl (by decide) rfl (fun ls hl => ?_)
          exact w_X4_faultOf_234 M ih h hm hP hD hS (lv_sub hl [2, 0, 3, 4, 5, 1] rfl)
        · replace h := it_p c_4 h
          refine lv_iload hx hb dX4_faultOf_198 (lv_at hl 6 rfl) ?_
          refine lv_if_eq (tgt := 213) hx hb dX4_faultOf_200 (by decide) (fun c_6 => ?_) (fun c_6 => ?_)
          · replace h := it_p c_6 h
            refine lv_iconst (v := 0) hx hb dX4_faultOf_213 (by decide) ?_
            refine lv_istore (lv' := [(7, .int (0 : Int32)), (0, .ref (b0 0)), (1, .int x1), (2, .int x2), (3, .int x3), (4, .int x4), (5, .int x5), (6, .int x6)]) hx hb dX4_faultOf_214 hl (by decide) rfl (fun ls hl => ?_)
            refine lv_iconst (v := 4) hx hb dX4_faultOf_216 (by decide) ?_
            refine lv_istore_n (lv' := [(1, .int (4 : Int32)), (7, .int (0 : Int32)), (0, .ref (b0 0)), (2, .int x2), (3, .int x3), (4, .int x4), (5, .int x5), (6, .int x6)]) hx hb dX4_faultOf_217 rfl hl (by decide) rfl (fun ls hl => ?_)
            refine lv_goto (tgt := 234) hx hb dX4_faultOf_218 (by decide) ?_
            exact w_X4_faultOf_234 M ih h hm hP hD hS (lv_sub hl [2, 0, 3, 4, 5, 1] rfl)
          · replace h := it_n c_6 h
            refine lv_iload hx hb dX4_faultOf_203 (lv_at hl 5 rfl) ?_
            refine lv_iload_n hx hb dX4_faultOf_205 rfl (lv_at hl 3 rfl) ?_
            refine lv_icmp_eq (tgt := 213) hx hb dX4_faultOf_206 (by decide) (fun c_7 => ?_) (fun c_7 => ?_)
            · replace h := it_p c_7 h
              refine lv_iconst (v := 0) hx hb dX4_faultOf_213 (by decide) ?_
              refine lv_istore (lv' := [(7, .int (0 : Int32)), (0, .ref (b0 0)), (1, .int x1), (2, .int x2), (3, .int x3), (4, .int x4), (5, .int x5), (6, .int x6)]) hx hb dX4_faultOf_214 hl (by decide) rfl (fun ls hl => ?_)
              refine lv_iconst (v := 4) hx hb dX4_faultOf_216 (by decide) ?_
              refine lv_istore_n (lv' := [(1, .int (4 : Int32)), (7, .int (0 : Int32)), (0, .ref (b0 0)), (2, .int x2), (3, .int x3), (4, .int x4), (5, .int x5), (6, .int x6)]) hx hb dX4_faultOf_217 rfl hl (by decide) rfl (fun ls hl => ?_)
              refine lv_goto (tgt := 234) hx hb dX4_faultOf_218 (by decide) ?_
              exact w_X4_faultOf_234 M ih h hm hP hD hS (lv_sub hl [2, 0, 3, 4, 5, 1] rfl)
            · replace h := it_n c_7 h
              refine lv_iconst (v := 1) hx hb dX4_faultOf_209 (by decide) ?_
              refine lv_goto (tgt := 214) hx hb dX4_faultOf_210 (by decide) ?_
              refine lv_istore (lv' := [(7, .int (1 : Int32)), (0, .ref (b0 0)), (1, .int x1), (2, .int x2), (3, .int x3), (4, .int x4), (5, .int x5), (6, .int x6)]) hx hb dX4_faultOf_214 hl (by decide) rfl (fun ls hl => ?_)
              refine lv_iconst (v := 4) hx hb dX4_faultOf_216 (by decide) ?_
              refine lv_istore_n (lv' := [(1, .int (4 : Int32)), (7, .int (1 : Int32)), (0, .ref (b0 0)), (2, .int x2), (3, .int x3), (4, .int x4), (5, .int x5), (6, .int x6)]) hx hb dX4_faultOf_217 rfl hl (by decide) rfl (fun ls hl => ?_)
              refine lv_goto (tgt := 234) hx hb dX4_faultOf_218 (by decide) ?_
              exact w_X4_faultOf_234 M ih h hm hP hD hS (lv_sub hl [2, 0, 3, 4, 5, 1] rfl)
      · replace h := it_n c_3 h
        refine lv_iload hx hb dX4_faultOf_151 (lv_at hl 5 rfl) ?_
        refine lv_bipush (v := 62) hx hb dX4_faultOf_153 (by decide) ?_
        refine lv_icmp_eq (tgt := 170) hx hb dX4_faultOf_155 (by decide) (fun c_8 => ?_) (fun c_8 => ?_)
        · replace h := it_p c_8 h
          refine lv_iconst (v := 1) hx hb dX4_faultOf_170 (by decide) ?_
          refine lv_goto (tgt := 175) hx hb dX4_faultOf_171 (by decide) ?_
          exact w_X4_faultOf_175 M ih h hm hP hD hS (lv_sub hl [0, 2, 3, 4, 5] rfl)
        · replace h := it_n c_8 h
          refine lv_iload hx hb dX4_faultOf_158 (lv_at hl 5 rfl) ?_
          refine lv_bipush (v := 33) hx hb dX4_faultOf_160 (by decide) ?_
          refine lv_icmp_ne (tgt := 174) hx hb dX4_faultOf_162 (by decide) (fun c_9 => ?_) (fun c_9 => ?_)
          · replace h := it_n c_9 h
            refine lv_iconst (v := 0) hx hb dX4_faultOf_174 (by decide) ?_
            exact w_X4_faultOf_175 M ih h hm hP hD hS (lv_sub hl [0, 2, 3, 4, 5] rfl)
          · replace h := it_p c_9 h
            refine lv_iload_n hx hb dX4_faultOf_165 rfl (lv_at hl 1 rfl) ?_
            refine lv_iconst (v := 1) hx hb dX4_faultOf_166 (by decide) ?_
            refine lv_icmp_ne (tgt := 174) hx hb dX4_faultOf_167 (by decide) (fun c_10 => ?_) (fun c_10 => ?_)
            · replace h := it_n c_10 h
              refine lv_iconst (v := 0) hx hb dX4_faultOf_174 (by decide) ?_
              exact w_X4_faultOf_175 M ih h hm hP hD hS (lv_sub hl [0, 2, 3, 4, 5] rfl)
            · replace h := it_p c_10 h
              refine lv_iconst (v := 1) hx hb dX4_faultOf_170 (by decide) ?_
              refine lv_goto (tgt := 175) hx hb dX4_faultOf_171 (by decide) ?_
              exact w_X4_faultOf_175 M ih h hm hP hD hS (lv_sub hl [0, 2, 3, 4, 5] rfl)
    · replace h := it_p c_2 h
      exact w_X4_faultOf_72 M ih h hm hP hD hS (lv_sub hl [0, 2, 4, 5, 6] rfl)
set_option maxHeartbeats 4000000 in
set_option maxRecDepth 100000 in
theorem w_X4_faultOf_9 {p : Program} {l : Launch} {e : Env} {s : State} {m : MethodId} {args : Array Value} {below : List Frame} {meth : Method} {c : Code} {A : Nat → Prop} {D : va_G} {cy : Nat → ClassId} {b0 : Nat → Nat} {uv : MS} {fu : Nat} {rr : Int32} (M : kM p s m args meth c cX4_faultOf 8 (some .int) RX4 wsX4_faultOf A D cy) (ih : I_X4_faultOf p l e s m args below meth c A D cy b0 uv fu rr) {x1 : Int32} {x2 : Int32} {x3 : Int32} {x4 : Int32} {oo : (Int32 × Int32 × Int32 × Int32) ⊕ (Int32)} (h : f_X4_faultOf_9 uv x1 x2 x3 x4 = some oo) (hm : lpo (st_X4_faultOf uv) fu oo rr) {H : Heap} {locs : List Loc} {ls : Array Slot} (hP : va_P D vwCl (wM cy b0 uv []) H) (hD : va_D A (wM cy b0 uv [])) (hS : va_S A s.heap H locs) (hl : lv_has ls 8 [(0, .ref (b0 0)), (1, .int x1), (2, .int x2), (3, .int x3), (4, .int x4)]) : W p l e { frames := 1, cells := 0, slots := 0, locals := 22 } s m args below meth c H locs 0 0 (MQ below (qI D (wM cy b0 uv []) (rr) A) args s 0 0 A) (F0 m 9 ls []) := by
  obtain ⟨hx, hb, hr, hml, hown, hts, hlk, hA, hK⟩ := id M
  unfold f_X4_faultOf_9 at h
  refine lv_iload hx hb dX4_faultOf_9 (lv_at hl 4 rfl) ?_
  refine lv_aload_n hx hb dX4_faultOf_11 rfl (lv_at hl 0 rfl) ?_
  refine va_get (D := D) (ci := 4) (v := .int uv.2.2.2.2.2.2.2.2.1) (C := RX4) (T := TX4) (N := 21) hx hb hts iX4_faultOf_X4 hown hK.1 hP 0 rfl rfl 8 (by decide) (hts _ mX4_faultOf_1) (fun _ h9 => h9) rfl dX4_faultOf_12 ?_
  refine lv_icmp_ge (tgt := 248) hx hb dX4_faultOf_15 (by decide) (fun c_1 => ?_) (fun c_1 => ?_)
  · replace h := it_p c_1 h
    refine lv_iload_n hx hb dX4_faultOf_248 rfl (lv_at hl 1 rfl) ?_
    refine lv_if_eq (tgt := 257) hx hb dX4_faultOf_249 (by decide) (fun c_2 => ?_) (fun c_2 => ?_)
    · replace h := it_p c_2 h
      refine lv_bipush (v := (-6)) hx hb dX4_faultOf_257 (by decide) ?_
      refine lv_goto (tgt := 266) hx hb dX4_faultOf_259 (by decide) ?_
      cases h
      have hm : _ = rr := hm
      subst hm
      exact kretI hx hb hr hlk hP hS dX4_faultOf_266
    · replace h := it_n c_2 h
      refine lv_iload_n hx hb dX4_faultOf_252 rfl (lv_at hl 1 rfl) ?_
      refine lv_iconst (v := 5) hx hb dX4_faultOf_253 (by decide) ?_
      refine lv_icmp_ne (tgt := 262) hx hb dX4_faultOf_254 (by decide) (fun c_3 => ?_) (fun c_3 => ?_)
      · replace h := it_n c_3 h
        refine lv_aload_n hx hb dX4_faultOf_262 rfl (lv_at hl 0 rfl) ?_
        refine va_get (D := D) (ci := 4) (v := .int uv.2.2.2.2.2.2.2.2.1) (C := RX4) (T := TX4) (N := 21) hx hb hts iX4_faultOf_X4 hown hK.1 hP 0 rfl rfl 8 (by decide) (hts _ mX4_faultOf_1) (fun _ h9 => h9) rfl dX4_faultOf_263 ?_
        cases h
        have hm : _ = rr := hm
        subst hm
        exact kretI hx hb hr hlk hP hS dX4_faultOf_266
      · replace h := it_p c_3 h
        refine lv_bipush (v := (-6)) hx hb dX4_faultOf_257 (by decide) ?_
        refine lv_goto (tgt := 266) hx hb dX4_faultOf_259 (by decide) ?_
        cases h
        have hm : _ = rr := hm
        subst hm
        exact kretI hx hb hr hlk hP hS dX4_faultOf_266
  · replace h := it_n c_1 h
    refine lv_aload_n hx hb dX4_faultOf_18 rfl (lv_at hl 0 rfl) ?_
    refine va_get (D := D) (ci := 4) (v := .ref (b0 5)) (C := RX4) (T := TX4) (N := 21) hx hb hts iX4_faultOf_X4 hown hK.1 hP 0 rfl rfl 9 (by decide) (hts _ mX4_faultOf_2) (fun _ h9 => h9) rfl dX4_faultOf_19 ?_
    refine lv_iload hx hb dX4_faultOf_22 (lv_at hl 4 rfl) ?_
    obtain ⟨b_4, h⟩ := ck_s h
    refine va_iald hx hb hK.1 hP 5 1 rfl rfl b_4 dX4_faultOf_24 ?_
    refine lv_topi (fun x5_5 ex5_5 => ?_)
    replace h := nm_s h ex5_5
    refine lv_istore (lv' := [(5, .int x5_5), (0, .ref (b0 0)), (1, .int x1), (2, .int x2), (3, .int x3), (4, .int x4)]) hx hb dX4_faultOf_25 hl (by decide) rfl (fun ls hl => ?_)
    refine lv_iload hx hb dX4_faultOf_27 (lv_at hl 0 rfl) ?_
    refine lv_bipush (v := 65) hx hb dX4_faultOf_29 (by decide) ?_
    refine lv_bipush (v := 70) hx hb dX4_faultOf_31 (by decide) ?_
    obtain ⟨r_6, hr_6, h⟩ := bn_s h
    refine kcSi (As := [.int x5_5, .int (65 : Int32), .int (70 : Int32)]) (rest := []) ⟨hx, hb, hml, hown, hts⟩ (va_cwS 3 hts gX4_faultOf_X4_in rfl rfl rfl eX4_in ⟨Nat.le_of_ble_eq_true rfl, Nat.le_of_ble_eq_true rfl⟩) (c_X4_in  hr_6) hK hP hS hA rfl hl.1 rfl (Nat.le_of_ble_eq_true rfl) dX4_faultOf_33 (fun H locs hP hS => ?_)
    refine lv_istore (lv' := [(6, .int r_6), (5, .int x5_5), (0, .ref (b0 0)), (1, .int x1), (2, .int x2), (3, .int x3), (4, .int x4)]) hx hb dX4_faultOf_36 hl (by decide) rfl (fun ls hl => ?_)
    refine lv_iload_n hx hb dX4_faultOf_38 rfl (lv_at hl 3 rfl) ?_
    refine lv_iconst (v := 5) hx hb dX4_faultOf_39 (by decide) ?_
    refine lv_icmp_ne (tgt := 63) hx hb dX4_faultOf_40 (by decide) (fun c_7 => ?_) (fun c_7 => ?_)
    · replace h := it_n c_7 h
      exact w_X4_faultOf_63 M ih h hm hP hD hS (lv_sub hl [2, 3, 4, 5, 6, 1, 0] rfl)
    · replace h := it_p c_7 h
      refine lv_iload hx hb dX4_faultOf_43 (lv_at hl 1 rfl) ?_
      refine lv_bipush (v := 48) hx hb dX4_faultOf_45 (by decide) ?_
      refine lv_bipush (v := 57) hx hb dX4_faultOf_47 (by decide) ?_
      obtain ⟨r_8, hr_8, h⟩ := bn_s h
      refine kcSi (As := [.int x5_5, .int (48 : Int32), .int (57 : Int32)]) (rest := []) ⟨hx, hb, hml, hown, hts⟩ (va_cwS 3 hts gX4_faultOf_X4_in rfl rfl rfl eX4_in ⟨Nat.le_of_ble_eq_true rfl, Nat.le_of_ble_eq_true rfl⟩) (c_X4_in  hr_8) hK hP hS hA rfl hl.1 rfl (Nat.le_of_ble_eq_true rfl) dX4_faultOf_49 (fun H locs hP hS => ?_)
      refine lv_if_eq (tgt := 63) hx hb dX4_faultOf_52 (by decide) (fun c_9 => ?_) (fun c_9 => ?_)
      · replace h := it_p c_9 h
        exact w_X4_faultOf_63 M ih h hm hP hD hS (lv_sub hl [2, 3, 4, 5, 6, 1, 0] rfl)
      · replace h := it_n c_9 h
        refine lv_iconst (v := 1) hx hb dX4_faultOf_55 (by decide) ?_
        refine lv_istore (lv' := [(7, .int (1 : Int32)), (6, .int r_6), (5, .int x5_5), (0, .ref (b0 0)), (1, .int x1), (2, .int x2), (3, .int x3), (4, .int x4)]) hx hb dX4_faultOf_56 hl (by decide) rfl (fun ls hl => ?_)
        refine lv_iconst (v := 0) hx hb dX4_faultOf_58 (by decide) ?_
        refine lv_istore_n (lv' := [(1, .int (0 : Int32)), (7, .int (1 : Int32)), (6, .int r_6), (5, .int x5_5), (0, .ref (b0 0)), (2, .int x2), (3, .int x3), (4, .int x4)]) hx hb dX4_faultOf_59 rfl hl (by decide) rfl (fun ls hl => ?_)
        refine lv_goto (tgt := 234) hx hb dX4_faultOf_60 (by decide) ?_
        exact w_X4_faultOf_234 M ih h hm hP hD hS (lv_sub hl [4, 0, 5, 6, 7, 1] rfl)
set_option maxHeartbeats 4000000 in
set_option maxRecDepth 100000 in
theorem w_X4_faultOf_0 {p : Program} {l : Launch} {e : Env} {s : State} {m : MethodId} {args : Array Value} {below : List Frame} {meth : Method} {c : Code} {A : Nat → Prop} {D : va_G} {cy : Nat → ClassId} {b0 : Nat → Nat} {uv : MS} {fu : Nat} {rr : Int32} (M : kM p s m args meth c cX4_faultOf 8 (some .int) RX4 wsX4_faultOf A D cy) (ih : I_X4_faultOf p l e s m args below meth c A D cy b0 uv fu rr)  {oo : (Int32 × Int32 × Int32 × Int32) ⊕ (Int32)} (h : f_X4_faultOf_0 uv = some oo) (hm : lpo (st_X4_faultOf uv) fu oo rr) {H : Heap} {locs : List Loc} {ls : Array Slot} (hP : va_P D vwCl (wM cy b0 uv []) H) (hD : va_D A (wM cy b0 uv [])) (hS : va_S A s.heap H locs) (hl : lv_has ls 8 [(0, .ref (b0 0))]) : W p l e { frames := 1, cells := 0, slots := 0, locals := 22 } s m args below meth c H locs 0 0 (MQ below (qI D (wM cy b0 uv []) (rr) A) args s 0 0 A) (F0 m 0 ls []) := by
  obtain ⟨hx, hb, hr, hml, hown, hts, hlk, hA, hK⟩ := id M
  unfold f_X4_faultOf_0 at h
  refine lv_iconst (v := 0) hx hb dX4_faultOf_0 (by decide) ?_
  refine lv_istore_n (lv' := [(1, .int (0 : Int32)), (0, .ref (b0 0))]) hx hb dX4_faultOf_1 rfl hl (by decide) rfl (fun ls hl => ?_)
  refine lv_iconst (v := 0) hx hb dX4_faultOf_2 (by decide) ?_
  refine lv_istore_n (lv' := [(2, .int (0 : Int32)), (1, .int (0 : Int32)), (0, .ref (b0 0))]) hx hb dX4_faultOf_3 rfl hl (by decide) rfl (fun ls hl => ?_)
  refine lv_iconst (v := 0) hx hb dX4_faultOf_4 (by decide) ?_
  refine lv_istore_n (lv' := [(3, .int (0 : Int32)), (2, .int (0 : Int32)), (1, .int (0 : Int32)), (0, .ref (b0 0))]) hx hb dX4_faultOf_5 rfl hl (by decide) rfl (fun ls hl => ?_)
  refine lv_iconst (v := 0) hx hb dX4_faultOf_6 (by decide) ?_
  refine lv_istore (lv' := [(4, .int (0 : Int32)), (3, .int (0 : Int32)), (2, .int (0 : Int32)), (1, .int (0 : Int32)), (0, .ref (b0 0))]) hx hb dX4_faultOf_7 hl (by decide) rfl (fun ls hl => ?_)
  cases h
  exact ih (0 : Int32) (0 : Int32) (0 : Int32) (0 : Int32) _ _ _ hm hP hD hS (lv_sub hl [4, 3, 2, 1, 0] rfl)
theorem wl_X4_faultOf {p : Program} {l : Launch} {e : Env} {s : State} {m : MethodId} {args : Array Value} {below : List Frame} {meth : Method} {c : Code} {A : Nat → Prop} {D : va_G} {cy : Nat → ClassId} {b0 : Nat → Nat} {uv : MS} {rr : Int32} (M : kM p s m args meth c cX4_faultOf 8 (some .int) RX4 wsX4_faultOf A D cy) : ∀ fu : Nat, I_X4_faultOf p l e s m args below meth c A D cy b0 uv fu rr := by
  intro fu
  induction fu with
  | zero => exact (fun _ _ _ _ _ _ _ h => by cases h)
  | succ fu ih =>
    exact fun x1 x2 x3 x4 H locs ls h hP hD hS hl => by
      obtain ⟨o1, h1, h2⟩ := lpn_s h
      exact w_X4_faultOf_9 M ih h1 h2 hP hD hS hl
theorem c_X4_faultOf {l : Launch} {D : va_G} {cy : Nat → ClassId} (b0 : Nat → Nat) {uv : MS} {rr : Int32} (h : f_X4_faultOf uv = some rr) : CI l D cy yX4_faultOf wsX4_faultOf { frames := 1, cells := 0, slots := 0, locals := 22 } [.ref (b0 0)] (wM cy b0 uv []) (rr) (wM cy b0 uv []) := by
  refine kofI (cc := cX4_faultOf) (maxL := 8) (ret := (some .int)) (by decide) rfl (Nat.le_of_ble_eq_true rfl) ?_
  intro p e s m below meth c A M ls hl hP hD hS
  obtain ⟨o1, fu, h1, h2⟩ := rnx_s h
  exact w_X4_faultOf_0 M (wl_X4_faultOf M fu) h1 h2 hP hD hS hl
theorem eX4_faultOf : yX4_faultOf.cls ≠ "java/lang/invoke/MethodHandle" ∧ yX4_faultOf.cls ≠ "java/lang/invoke/VarHandle" ∧ (parseMethodDescriptor yX4_faultOf.desc).map (fun d => d.parameters.length) = some 0 := by decide +kernel
theorem iX4_opens_X4 : ∀ w ∈ u_ws RX4 TX4 21, w ∈ wsX4_opens := by decide +kernel
theorem mX4_opens_1 : Cond.fieldLink RX4 66 "LentPilesModel" "signs" "I" ∈ wsX4_opens := by decide +kernel
theorem mX4_opens_2 : Cond.fieldLink RX4 22 "LentPilesModel" "pad" "[I" ∈ wsX4_opens := by decide +kernel
def I_X4_opens (p : Program) (l : Launch) (e : Env) (s : State) (m : MethodId) (args : Array Value) (below : List Frame) (meth : Method) (c : Code) (A : Nat → Prop) (D : va_G) (cy : Nat → ClassId) (b0 : Nat → Nat) (uv : MS) (fu : Nat) (rr : Int32) : Prop := (∀ (x1 : Int32) (x2 : Int32) (H : Heap) (locs : List Loc) (ls : Array Slot), lpn (st_X4_opens uv) fu (x1, x2) = some rr → va_P D vwCl (wM cy b0 uv []) H → va_D A (wM cy b0 uv []) → va_S A s.heap H locs → lv_has ls 3 [(0, .ref (b0 0)), (1, .int x1), (2, .int x2)] → W p l e { frames := 0, cells := 0, slots := 0, locals := 0 } s m args below meth c H locs 0 0 (MQ below (qI D (wM cy b0 uv []) (rr) A) args s 0 0 A) (F0 m 4 ls []))
set_option maxHeartbeats 4000000 in
set_option maxRecDepth 100000 in
theorem w_X4_opens_4 {p : Program} {l : Launch} {e : Env} {s : State} {m : MethodId} {args : Array Value} {below : List Frame} {meth : Method} {c : Code} {A : Nat → Prop} {D : va_G} {cy : Nat → ClassId} {b0 : Nat → Nat} {uv : MS} {fu : Nat} {rr : Int32} (M : kM p s m args meth c cX4_opens 3 (some .int) RX4 wsX4_opens A D cy) (ih : I_X4_opens p l e s m args below meth c A D cy b0 uv fu rr) {x1 : Int32} {x2 : Int32} {oo : (Int32 × Int32) ⊕ (Int32)} (h : f_X4_opens_4 uv x1 x2 = some oo) (hm : lpo (st_X4_opens uv) fu oo rr) {H : Heap} {locs : List Loc} {ls : Array Slot} (hP : va_P D vwCl (wM cy b0 uv []) H) (hD : va_D A (wM cy b0 uv [])) (hS : va_S A s.heap H locs) (hl : lv_has ls 3 [(0, .ref (b0 0)), (1, .int x1), (2, .int x2)]) : W p l e { frames := 0, cells := 0, slots := 0, locals := 0 } s m args below meth c H locs 0 0 (MQ below (qI D (wM cy b0 uv []) (rr) A) args s 0 0 A) (F0 m 4 ls []) := by
  obtain ⟨hx, hb, hr, hml, hown, hts, hlk, hA, hK⟩ := id M
  unfold f_X4_opens_4 at h
  refine lv_iload_n hx hb dX4_opens_4 rfl (lv_at hl 2 rfl) ?_
  refine lv_aload_n hx hb dX4_opens_5 rfl (lv_at hl 0 rfl) ?_
  refine va_get (D := D) (ci := 4) (v := .int uv.2.2.2.2.2.2.2.2.1) (C := RX4) (T := TX4) (N := 21) hx hb hts iX4_opens_X4 hown hK.1 hP 0 rfl rfl 8 (by decide) (hts _ mX4_opens_1) (fun _ h9 => h9) rfl dX4_opens_6 ?_
  refine lv_icmp_ge (tgt := 37) hx hb dX4_opens_9 (by decide) (fun c_1 => ?_) (fun c_1 => ?_)
  · replace h := it_p c_1 h
    refine lv_iload_n hx hb dX4_opens_37 rfl (lv_at hl 1 rfl) ?_
    cases h
    have hm : _ = rr := hm
    subst hm
    exact kretI hx hb hr hlk hP hS dX4_opens_38
  · replace h := it_n c_1 h
    refine lv_iload_n hx hb dX4_opens_12 rfl (lv_at hl 1 rfl) ?_
    refine lv_aload_n hx hb dX4_opens_13 rfl (lv_at hl 0 rfl) ?_
    refine va_get (D := D) (ci := 4) (v := .ref (b0 5)) (C := RX4) (T := TX4) (N := 21) hx hb hts iX4_opens_X4 hown hK.1 hP 0 rfl rfl 9 (by decide) (hts _ mX4_opens_2) (fun _ h9 => h9) rfl dX4_opens_14 ?_
    refine lv_iload_n hx hb dX4_opens_17 rfl (lv_at hl 2 rfl) ?_
    obtain ⟨b_2, h⟩ := ck_s h
    refine va_iald hx hb hK.1 hP 5 1 rfl rfl b_2 dX4_opens_18 ?_
    refine lv_bipush (v := 63) hx hb dX4_opens_19 (by decide) ?_
    refine lv_icmp_ne (tgt := 28) hx hb dX4_opens_21 (by decide) (fun c_3 => ?_) (fun c_3 => ?_)
    · replace h := it_n c_3 h
      refine lv_iconst (v := 0) hx hb dX4_opens_28 (by decide) ?_
      refine lv_iadd hx hb dX4_opens_29 ?_
      refine lv_topi (fun x1_4 ex1_4 => ?_)
      replace h := nm_s h ex1_4
      refine lv_istore_n (lv' := [(1, .int x1_4), (0, .ref (b0 0)), (2, .int x2)]) hx hb dX4_opens_30 rfl hl (by decide) rfl (fun ls hl => ?_)
      obtain ⟨x2_5, ex2_5⟩ : ∃ z : Int32, z = (x2 + (1 : Int32)) := ⟨_, rfl⟩
      replace h := nm_s h ex2_5
      refine lv_iinc (v := x2_5) (lv' := [(2, .int x2_5), (1, .int x1_4), (0, .ref (b0 0))]) hx hb dX4_opens_31 hl (k := 2) rfl (by rw [ex2_5]; rfl) (by decide) rfl (fun ls hl => ?_)
      refine lv_goto (tgt := 4) hx hb dX4_opens_34 (by decide) ?_
      cases h
      exact ih x1_4 x2_5 _ _ _ hm hP hD hS (lv_sub hl [2, 1, 0] rfl)
    · replace h := it_p c_3 h
      refine lv_iconst (v := 1) hx hb dX4_opens_24 (by decide) ?_
      refine lv_goto (tgt := 29) hx hb dX4_opens_25 (by decide) ?_
      refine lv_iadd hx hb dX4_opens_29 ?_
      refine lv_topi (fun x1_6 ex1_6 => ?_)
      replace h := nm_s h ex1_6
      refine lv_istore_n (lv' := [(1, .int x1_6), (0, .ref (b0 0)), (2, .int x2)]) hx hb dX4_opens_30 rfl hl (by decide) rfl (fun ls hl => ?_)
      obtain ⟨x2_7, ex2_7⟩ : ∃ z : Int32, z = (x2 + (1 : Int32)) := ⟨_, rfl⟩
      replace h := nm_s h ex2_7
      refine lv_iinc (v := x2_7) (lv' := [(2, .int x2_7), (1, .int x1_6), (0, .ref (b0 0))]) hx hb dX4_opens_31 hl (k := 2) rfl (by rw [ex2_7]; rfl) (by decide) rfl (fun ls hl => ?_)
      refine lv_goto (tgt := 4) hx hb dX4_opens_34 (by decide) ?_
      cases h
      exact ih x1_6 x2_7 _ _ _ hm hP hD hS (lv_sub hl [2, 1, 0] rfl)
set_option maxHeartbeats 4000000 in
set_option maxRecDepth 100000 in
theorem w_X4_opens_0 {p : Program} {l : Launch} {e : Env} {s : State} {m : MethodId} {args : Array Value} {below : List Frame} {meth : Method} {c : Code} {A : Nat → Prop} {D : va_G} {cy : Nat → ClassId} {b0 : Nat → Nat} {uv : MS} {fu : Nat} {rr : Int32} (M : kM p s m args meth c cX4_opens 3 (some .int) RX4 wsX4_opens A D cy) (ih : I_X4_opens p l e s m args below meth c A D cy b0 uv fu rr)  {oo : (Int32 × Int32) ⊕ (Int32)} (h : f_X4_opens_0 uv = some oo) (hm : lpo (st_X4_opens uv) fu oo rr) {H : Heap} {locs : List Loc} {ls : Array Slot} (hP : va_P D vwCl (wM cy b0 uv []) H) (hD : va_D A (wM cy b0 uv [])) (hS : va_S A s.heap H locs) (hl : lv_has ls 3 [(0, .ref (b0 0))]) : W p l e { frames := 0, cells := 0, slots := 0, locals := 0 } s m args below meth c H locs 0 0 (MQ below (qI D (wM cy b0 uv []) (rr) A) args s 0 0 A) (F0 m 0 ls []) := by
  obtain ⟨hx, hb, hr, hml, hown, hts, hlk, hA, hK⟩ := id M
  unfold f_X4_opens_0 at h
  refine lv_iconst (v := 0) hx hb dX4_opens_0 (by decide) ?_
  refine lv_istore_n (lv' := [(1, .int (0 : Int32)), (0, .ref (b0 0))]) hx hb dX4_opens_1 rfl hl (by decide) rfl (fun ls hl => ?_)
  refine lv_iconst (v := 0) hx hb dX4_opens_2 (by decide) ?_
  refine lv_istore_n (lv' := [(2, .int (0 : Int32)), (1, .int (0 : Int32)), (0, .ref (b0 0))]) hx hb dX4_opens_3 rfl hl (by decide) rfl (fun ls hl => ?_)
  cases h
  exact ih (0 : Int32) (0 : Int32) _ _ _ hm hP hD hS (lv_sub hl [2, 1, 0] rfl)
theorem wl_X4_opens {p : Program} {l : Launch} {e : Env} {s : State} {m : MethodId} {args : Array Value} {below : List Frame} {meth : Method} {c : Code} {A : Nat → Prop} {D : va_G} {cy : Nat → ClassId} {b0 : Nat → Nat} {uv : MS} {rr : Int32} (M : kM p s m args meth c cX4_opens 3 (some .int) RX4 wsX4_opens A D cy) : ∀ fu : Nat, I_X4_opens p l e s m args below meth c A D cy b0 uv fu rr := by
  intro fu
  induction fu with
  | zero => exact (fun _ _ _ _ _ h => by cases h)
  | succ fu ih =>
    exact fun x1 x2 H locs ls h hP hD hS hl => by
      obtain ⟨o1, h1, h2⟩ := lpn_s h
      exact w_X4_opens_4 M ih h1 h2 hP hD hS hl
theorem c_X4_opens {l : Launch} {D : va_G} {cy : Nat → ClassId} (b0 : Nat → Nat) {uv : MS} {rr : Int32} (h : f_X4_opens uv = some rr) : CI l D cy yX4_opens wsX4_opens { frames := 0, cells := 0, slots := 0, locals := 0 } [.ref (b0 0)] (wM cy b0 uv []) (rr) (wM cy b0 uv []) := by
  refine kofI (cc := cX4_opens) (maxL := 3) (ret := (some .int)) (by decide) rfl (Nat.le_of_ble_eq_true rfl) ?_
  intro p e s m below meth c A M ls hl hP hD hS
  obtain ⟨o1, fu, h1, h2⟩ := rnx_s h
  exact w_X4_opens_0 M (wl_X4_opens M fu) h1 h2 hP hD hS hl
theorem eX4_opens : yX4_opens.cls ≠ "java/lang/invoke/MethodHandle" ∧ yX4_opens.cls ≠ "java/lang/invoke/VarHandle" ∧ (parseMethodDescriptor yX4_opens.desc).map (fun d => d.parameters.length) = some 0 := by decide +kernel
theorem iX4_pass_X4 : ∀ w ∈ u_ws RX4 TX4 21, w ∈ wsX4_pass := by decide +kernel
theorem mX4_pass_1 : Cond.fieldLink RX4 76 "LentPilesModel" "nowDays" "I" ∈ wsX4_pass := by decide +kernel
theorem mX4_pass_2 : Cond.fieldLink RX4 28 "LentPilesModel" "nowSize" "[I" ∈ wsX4_pass := by decide +kernel
theorem mX4_pass_3 : Cond.fieldLink RX4 31 "LentPilesModel" "nowPile" "[I" ∈ wsX4_pass := by decide +kernel
theorem mX4_pass_4 : Cond.fieldLink RX4 63 "LentPilesModel" "rate" "I" ∈ wsX4_pass := by decide +kernel
def I_X4_pass (p : Program) (l : Launch) (e : Env) (s : State) (m : MethodId) (args : Array Value) (below : List Frame) (meth : Method) (c : Code) (A : Nat → Prop) (D : va_G) (cy : Nat → ClassId) (b0 : Nat → Nat) (fu : Nat) (rr : MS) : Prop := (∀ (uv : MS) (x1 : Int32) (H : Heap) (locs : List Loc) (ls : Array Slot), lpn (st_X4_pass ) fu (.inl (uv, x1)) = some rr → va_P D vwCl (wM cy b0 uv []) H → va_D A (wM cy b0 uv []) → va_S A s.heap H locs → lv_has ls 4 [(0, .ref (b0 0)), (1, .int x1)] → W p l e { frames := 1, cells := 0, slots := 0, locals := 21 } s m args below meth c H locs 0 0 (MQ below (qV D (wM cy b0 rr []) A) args s 0 0 A) (F0 m 12 ls [])) ∧ (∀ (uv : MS) (x1 : Int32) (x2 : Int32) (H : Heap) (locs : List Loc) (ls : Array Slot), lpn (st_X4_pass ) fu (.inr (uv, x1, x2)) = some rr → va_P D vwCl (wM cy b0 uv []) H → va_D A (wM cy b0 uv []) → va_S A s.heap H locs → lv_has ls 4 [(0, .ref (b0 0)), (1, .int x1), (2, .int x2)] → W p l e { frames := 1, cells := 0, slots := 0, locals := 21 } s m args below meth c H locs 0 0 (MQ below (qV D (wM cy b0 rr []) A) args s 0 0 A) (F0 m 20 ls []))
set_option maxHeartbeats 4000000 in
set_option maxRecDepth 100000 in
theorem w_X4_pass_20 {p : Program} {l : Launch} {e : Env} {s : State} {m : MethodId} {args : Array Value} {below : List Frame} {meth : Method} {c : Code} {A : Nat → Prop} {D : va_G} {cy : Nat → ClassId} {b0 : Nat → Nat} {fu : Nat} {rr : MS} (M : kM p s m args meth c cX4_pass 4 none RX4 wsX4_pass A D cy) (ih : I_X4_pass p l e s m args below meth c A D cy b0 fu rr) {uv : MS} {x1 : Int32} {x2 : Int32} {oo : ((MS × Int32) ⊕ (MS × Int32 × Int32)) ⊕ (MS)} (h : f_X4_pass_20 uv x1 x2 = some oo) (hm : lpo (st_X4_pass ) fu oo rr) {H : Heap} {locs : List Loc} {ls : Array Slot} (hP : va_P D vwCl (wM cy b0 uv []) H) (hD : va_D A (wM cy b0 uv [])) (hS : va_S A s.heap H locs) (hl : lv_has ls 4 [(0, .ref (b0 0)), (1, .int x1), (2, .int x2)]) : W p l e { frames := 1, cells := 0, slots := 0, locals := 21 } s m args below meth c H locs 0 0 (MQ below (qV D (wM cy b0 rr []) A) args s 0 0 A) (F0 m 20 ls []) := by
  obtain ⟨hx, hb, hr, hml, hown, hts, hlk, hA, hK⟩ := id M
  unfold f_X4_pass_20 at h
  refine lv_iload_n hx hb dX4_pass_20 rfl (lv_at hl 2 rfl) ?_
  refine lv_aload_n hx hb dX4_pass_21 rfl (lv_at hl 0 rfl) ?_
  refine va_get (D := D) (ci := 4) (v := .ref (b0 7)) (C := RX4) (T := TX4) (N := 21) hx hb hts iX4_pass_X4 hown hK.1 hP 0 rfl rfl 12 (by decide) (hts _ mX4_pass_2) (fun _ h9 => h9) rfl dX4_pass_22 ?_
  refine lv_iload_n hx hb dX4_pass_25 rfl (lv_at hl 1 rfl) ?_
  obtain ⟨b_1, h⟩ := ck_s h
  refine va_iald hx hb hK.1 hP 7 1 rfl rfl b_1 dX4_pass_26 ?_
  refine lv_icmp_ge (tgt := 84) hx hb dX4_pass_27 (by decide) (fun c_2 => ?_) (fun c_2 => ?_)
  · replace h := it_p c_2 h
    obtain ⟨x1_3, ex1_3⟩ : ∃ z : Int32, z = (x1 + (1 : Int32)) := ⟨_, rfl⟩
    replace h := nm_s h ex1_3
    refine lv_iinc (v := x1_3) (lv' := [(1, .int x1_3), (0, .ref (b0 0)), (2, .int x2)]) hx hb dX4_pass_84 hl (k := 1) rfl (by rw [ex1_3]; rfl) (by decide) rfl (fun ls hl => ?_)
    refine lv_goto (tgt := 12) hx hb dX4_pass_87 (by decide) ?_
    cases h
    exact ih.1 uv x1_3 _ _ _ hm hP hD hS (lv_sub hl [1, 0] rfl)
  · replace h := it_n c_2 h
    refine lv_iload_n hx hb dX4_pass_30 rfl (lv_at hl 1 rfl) ?_
    refine lv_iload_n hx hb dX4_pass_31 rfl (lv_at hl 2 rfl) ?_
    obtain ⟨r_4, hr_4, h⟩ := bn_s h
    refine kcSi (As := [.int x1, .int x2]) (rest := []) ⟨hx, hb, hml, hown, hts⟩ (va_cwS 2 hts gX4_pass_X4_at rfl rfl rfl eX4_at ⟨Nat.le_of_ble_eq_true rfl, Nat.le_of_ble_eq_true rfl⟩) (c_X4_at  hr_4) hK hP hS hA rfl hl.1 rfl (Nat.le_of_ble_eq_true rfl) dX4_pass_32 (fun H locs hP hS => ?_)
    refine lv_iconst (v := 1) hx hb dX4_pass_35 (by decide) ?_
    refine lv_iadd hx hb dX4_pass_36 ?_
    refine lv_topi (fun x3_5 ex3_5 => ?_)
    replace h := nm_s h ex3_5
    refine lv_istore_n (lv' := [(3, .int x3_5), (0, .ref (b0 0)), (1, .int x1), (2, .int x2)]) hx hb dX4_pass_37 rfl hl (by decide) rfl (fun ls hl => ?_)
    refine lv_aload_n hx hb dX4_pass_38 rfl (lv_at hl 1 rfl) ?_
    refine va_get (D := D) (ci := 4) (v := .ref (b0 8)) (C := RX4) (T := TX4) (N := 21) hx hb hts iX4_pass_X4 hown hK.1 hP 0 rfl rfl 13 (by decide) (hts _ mX4_pass_3) (fun _ h9 => h9) rfl dX4_pass_39 ?_
    refine lv_iload_n hx hb dX4_pass_42 rfl (lv_at hl 0 rfl) ?_
    refine lv_aload_n hx hb dX4_pass_43 rfl (lv_at hl 1 rfl) ?_
    refine va_get (D := D) (ci := 4) (v := .ref (b0 8)) (C := RX4) (T := TX4) (N := 21) hx hb hts iX4_pass_X4 hown hK.1 hP 0 rfl rfl 13 (by decide) (hts _ mX4_pass_3) (fun _ h9 => h9) rfl dX4_pass_44 ?_
    refine lv_iload_n hx hb dX4_pass_47 rfl (lv_at hl 0 rfl) ?_
    obtain ⟨b_6, h⟩ := ck_s h
    refine va_iald hx hb hK.1 hP 8 1 rfl rfl b_6 dX4_pass_48 ?_
    refine lv_aload_n hx hb dX4_pass_49 rfl (lv_at hl 1 rfl) ?_
    refine va_get (D := D) (ci := 4) (v := .int uv.2.1) (C := RX4) (T := TX4) (N := 21) hx hb hts iX4_pass_X4 hown hK.1 hP 0 rfl rfl 1 (by decide) (hts _ mX4_pass_4) (fun _ h9 => h9) rfl dX4_pass_50 ?_
    refine lv_iadd hx hb dX4_pass_53 ?_
    refine lv_sipush (v := 9999) hx hb dX4_pass_54 (by decide) ?_
    refine lv_icmp_le (tgt := 66) hx hb dX4_pass_57 (by decide) (fun c_7 => ?_) (fun c_7 => ?_)
    · replace h := it_p c_7 h
      refine lv_aload_n hx hb dX4_pass_66 rfl (lv_at hl 1 rfl) ?_
      refine va_get (D := D) (ci := 4) (v := .ref (b0 8)) (C := RX4) (T := TX4) (N := 21) hx hb hts iX4_pass_X4 hown hK.1 hP 0 rfl rfl 13 (by decide) (hts _ mX4_pass_3) (fun _ h9 => h9) rfl dX4_pass_67 ?_
      refine lv_iload_n hx hb dX4_pass_70 rfl (lv_at hl 0 rfl) ?_
      refine va_iald hx hb hK.1 hP 8 1 rfl rfl b_6 dX4_pass_71 ?_
      refine lv_aload_n hx hb dX4_pass_72 rfl (lv_at hl 1 rfl) ?_
      refine va_get (D := D) (ci := 4) (v := .int uv.2.1) (C := RX4) (T := TX4) (N := 21) hx hb hts iX4_pass_X4 hown hK.1 hP 0 rfl rfl 1 (by decide) (hts _ mX4_pass_4) (fun _ h9 => h9) rfl dX4_pass_73 ?_
      refine lv_iadd hx hb dX4_pass_76 ?_
      refine va_iast hx hb hK.1 hP hD hS 8 1 rfl rfl b_6 dX4_pass_77 (fun H locs hP hD hS => ?_)
      obtain ⟨uv_8, euv_8⟩ : ∃ z : MS, z = (uv.1, uv.2.1, uv.2.2.1, uv.2.2.2.1, uv.2.2.2.2.1, uv.2.2.2.2.2.1, uv.2.2.2.2.2.2.1, uv.2.2.2.2.2.2.2.1, uv.2.2.2.2.2.2.2.2.1, uv.2.2.2.2.2.2.2.2.2.1, uv.2.2.2.2.2.2.2.2.2.2.1, uv.2.2.2.2.2.2.2.2.2.2.2.1, uv.2.2.2.2.2.2.2.2.2.2.2.2.1, (upd uv.2.2.2.2.2.2.2.2.2.2.2.2.2.1 x3_5.toNatClampNeg ((uv.2.2.2.2.2.2.2.2.2.2.2.2.2.1 x3_5.toNatClampNeg) + uv.2.1)), uv.2.2.2.2.2.2.2.2.2.2.2.2.2.2) := ⟨_, rfl⟩
      replace h := nm_s h euv_8
      have hP : va_P D vwCl (wM cy b0 uv_8 []) H := by subst euv_8; exact hP
      have hD : va_D A (wM cy b0 uv_8 []) := hD.lk [(b0 0), (b0 1), (b0 2), (b0 3), (b0 4), (b0 5), (b0 6), (b0 7), (b0 8), (b0 9), (b0 10), (b0 11), (b0 12), (b0 13)] rfl rfl
      obtain ⟨x2_9, ex2_9⟩ : ∃ z : Int32, z = (x2 + (1 : Int32)) := ⟨_, rfl⟩
      replace h := nm_s h ex2_9
      refine lv_iinc (v := x2_9) (lv' := [(2, .int x2_9), (3, .int x3_5), (0, .ref (b0 0)), (1, .int x1)]) hx hb dX4_pass_78 hl (k := 3) rfl (by rw [ex2_9]; rfl) (by decide) rfl (fun ls hl => ?_)
      refine lv_goto (tgt := 20) hx hb dX4_pass_81 (by decide) ?_
      cases h
      exact ih.2 uv_8 x1 x2_9 _ _ _ hm hP hD hS (lv_sub hl [2, 3, 0] rfl)
    · replace h := it_n c_7 h
      refine lv_sipush (v := 9999) hx hb dX4_pass_60 (by decide) ?_
      refine lv_goto (tgt := 77) hx hb dX4_pass_63 (by decide) ?_
      refine va_iast hx hb hK.1 hP hD hS 8 1 rfl rfl b_6 dX4_pass_77 (fun H locs hP hD hS => ?_)
      obtain ⟨uv_10, euv_10⟩ : ∃ z : MS, z = (uv.1, uv.2.1, uv.2.2.1, uv.2.2.2.1, uv.2.2.2.2.1, uv.2.2.2.2.2.1, uv.2.2.2.2.2.2.1, uv.2.2.2.2.2.2.2.1, uv.2.2.2.2.2.2.2.2.1, uv.2.2.2.2.2.2.2.2.2.1, uv.2.2.2.2.2.2.2.2.2.2.1, uv.2.2.2.2.2.2.2.2.2.2.2.1, uv.2.2.2.2.2.2.2.2.2.2.2.2.1, (upd uv.2.2.2.2.2.2.2.2.2.2.2.2.2.1 x3_5.toNatClampNeg (9999 : Int32)), uv.2.2.2.2.2.2.2.2.2.2.2.2.2.2) := ⟨_, rfl⟩
      replace h := nm_s h euv_10
      have hP : va_P D vwCl (wM cy b0 uv_10 []) H := by subst euv_10; exact hP
      have hD : va_D A (wM cy b0 uv_10 []) := hD.lk [(b0 0), (b0 1), (b0 2), (b0 3), (b0 4), (b0 5), (b0 6), (b0 7), (b0 8), (b0 9), (b0 10), (b0 11), (b0 12), (b0 13)] rfl rfl
      obtain ⟨x2_11, ex2_11⟩ : ∃ z : Int32, z = (x2 + (1 : Int32)) := ⟨_, rfl⟩
      replace h := nm_s h ex2_11
      refine lv_iinc (v := x2_11) (lv' := [(2, .int x2_11), (3, .int x3_5), (0, .ref (b0 0)), (1, .int x1)]) hx hb dX4_pass_78 hl (k := 3) rfl (by rw [ex2_11]; rfl) (by decide) rfl (fun ls hl => ?_)
      refine lv_goto (tgt := 20) hx hb dX4_pass_81 (by decide) ?_
      cases h
      exact ih.2 uv_10 x1 x2_11 _ _ _ hm hP hD hS (lv_sub hl [2, 3, 0] rfl)
set_option maxHeartbeats 4000000 in
set_option maxRecDepth 100000 in
theorem w_X4_pass_12 {p : Program} {l : Launch} {e : Env} {s : State} {m : MethodId} {args : Array Value} {below : List Frame} {meth : Method} {c : Code} {A : Nat → Prop} {D : va_G} {cy : Nat → ClassId} {b0 : Nat → Nat} {fu : Nat} {rr : MS} (M : kM p s m args meth c cX4_pass 4 none RX4 wsX4_pass A D cy) (ih : I_X4_pass p l e s m args below meth c A D cy b0 fu rr) {uv : MS} {x1 : Int32} {oo : ((MS × Int32) ⊕ (MS × Int32 × Int32)) ⊕ (MS)} (h : f_X4_pass_12 uv x1 = some oo) (hm : lpo (st_X4_pass ) fu oo rr) {H : Heap} {locs : List Loc} {ls : Array Slot} (hP : va_P D vwCl (wM cy b0 uv []) H) (hD : va_D A (wM cy b0 uv [])) (hS : va_S A s.heap H locs) (hl : lv_has ls 4 [(0, .ref (b0 0)), (1, .int x1)]) : W p l e { frames := 1, cells := 0, slots := 0, locals := 21 } s m args below meth c H locs 0 0 (MQ below (qV D (wM cy b0 rr []) A) args s 0 0 A) (F0 m 12 ls []) := by
  obtain ⟨hx, hb, hr, hml, hown, hts, hlk, hA, hK⟩ := id M
  unfold f_X4_pass_12 at h
  refine lv_iload_n hx hb dX4_pass_12 rfl (lv_at hl 1 rfl) ?_
  refine lv_bipush (v := 6) hx hb dX4_pass_13 (by decide) ?_
  refine lv_icmp_ge (tgt := 90) hx hb dX4_pass_15 (by decide) (fun c_1 => ?_) (fun c_1 => ?_)
  · replace h := it_p c_1 h
    cases h
    have hm : _ = rr := hm
    subst hm
    exact kretV hx hb hr hlk hP hS dX4_pass_90
  · replace h := it_n c_1 h
    refine lv_iconst (v := 0) hx hb dX4_pass_18 (by decide) ?_
    refine lv_istore_n (lv' := [(2, .int (0 : Int32)), (0, .ref (b0 0)), (1, .int x1)]) hx hb dX4_pass_19 rfl hl (by decide) rfl (fun ls hl => ?_)
    cases h
    exact ih.2 uv x1 (0 : Int32) _ _ _ hm hP hD hS (lv_sub hl [1, 2, 0] rfl)
set_option maxHeartbeats 4000000 in
set_option maxRecDepth 100000 in
theorem w_X4_pass_0 {p : Program} {l : Launch} {e : Env} {s : State} {m : MethodId} {args : Array Value} {below : List Frame} {meth : Method} {c : Code} {A : Nat → Prop} {D : va_G} {cy : Nat → ClassId} {b0 : Nat → Nat} {fu : Nat} {rr : MS} (M : kM p s m args meth c cX4_pass 4 none RX4 wsX4_pass A D cy) (ih : I_X4_pass p l e s m args below meth c A D cy b0 fu rr) {uv : MS} {oo : ((MS × Int32) ⊕ (MS × Int32 × Int32)) ⊕ (MS)} (h : f_X4_pass_0 uv = some oo) (hm : lpo (st_X4_pass ) fu oo rr) {H : Heap} {locs : List Loc} {ls : Array Slot} (hP : va_P D vwCl (wM cy b0 uv []) H) (hD : va_D A (wM cy b0 uv [])) (hS : va_S A s.heap H locs) (hl : lv_has ls 4 [(0, .ref (b0 0))]) : W p l e { frames := 1, cells := 0, slots := 0, locals := 21 } s m args below meth c H locs 0 0 (MQ below (qV D (wM cy b0 rr []) A) args s 0 0 A) (F0 m 0 ls []) := by
  obtain ⟨hx, hb, hr, hml, hown, hts, hlk, hA, hK⟩ := id M
  unfold f_X4_pass_0 at h
  refine lv_aload_n hx hb dX4_pass_0 rfl (lv_at hl 0 rfl) ?_
  refine lv_dup hx hb dX4_pass_1 rfl ?_
  refine va_get (D := D) (ci := 4) (v := .int uv.2.2.2.2.2.2.2.2.2.2.1) (C := RX4) (T := TX4) (N := 21) hx hb hts iX4_pass_X4 hown hK.1 hP 0 rfl rfl 10 (by decide) (hts _ mX4_pass_1) (fun _ h9 => h9) rfl dX4_pass_2 ?_
  refine lv_iconst (v := 1) hx hb dX4_pass_5 (by decide) ?_
  refine lv_iadd hx hb dX4_pass_6 ?_
  refine va_put (D := D) (ci := 4) (v := .int (uv.2.2.2.2.2.2.2.2.2.2.1 + (1 : Int32))) (ty := .int) (C := RX4) (T := TX4) (N := 21) hx hb hts iX4_pass_X4 tyX4 tyX4_ok nmX4 hown hK.1 hP hD hS 0 rfl rfl 10 (by decide) (hts _ mX4_pass_1) (fun _ h9 => h9) rfl (by decide +kernel) rfl rfl (Nat.le_of_ble_eq_true rfl) dX4_pass_7 (fun H locs hP hD hS => ?_)
  obtain ⟨uv_1, euv_1⟩ : ∃ z : MS, z = (uv.1, uv.2.1, uv.2.2.1, uv.2.2.2.1, uv.2.2.2.2.1, uv.2.2.2.2.2.1, uv.2.2.2.2.2.2.1, uv.2.2.2.2.2.2.2.1, uv.2.2.2.2.2.2.2.2.1, uv.2.2.2.2.2.2.2.2.2.1, (uv.2.2.2.2.2.2.2.2.2.2.1 + (1 : Int32)), uv.2.2.2.2.2.2.2.2.2.2.2) := ⟨_, rfl⟩
  replace h := nm_s h euv_1
  have hP : va_P D vwCl (wM cy b0 uv_1 []) H := by subst euv_1; exact hP
  have hD : va_D A (wM cy b0 uv_1 []) := hD.lk [(b0 0), (b0 1), (b0 2), (b0 3), (b0 4), (b0 5), (b0 6), (b0 7), (b0 8), (b0 9), (b0 10), (b0 11), (b0 12), (b0 13)] rfl rfl
  refine lv_iconst (v := 0) hx hb dX4_pass_10 (by decide) ?_
  refine lv_istore_n (lv' := [(1, .int (0 : Int32)), (0, .ref (b0 0))]) hx hb dX4_pass_11 rfl hl (by decide) rfl (fun ls hl => ?_)
  cases h
  exact ih.1 uv_1 (0 : Int32) _ _ _ hm hP hD hS (lv_sub hl [1, 0] rfl)
theorem wl_X4_pass {p : Program} {l : Launch} {e : Env} {s : State} {m : MethodId} {args : Array Value} {below : List Frame} {meth : Method} {c : Code} {A : Nat → Prop} {D : va_G} {cy : Nat → ClassId} {b0 : Nat → Nat} {rr : MS} (M : kM p s m args meth c cX4_pass 4 none RX4 wsX4_pass A D cy) : ∀ fu : Nat, I_X4_pass p l e s m args below meth c A D cy b0 fu rr := by
  intro fu
  induction fu with
  | zero => exact ⟨(fun _ _ _ _ _ h => by cases h), (fun _ _ _ _ _ _ h => by cases h)⟩
  | succ fu ih =>
    refine ⟨?_, ?_⟩
    · intro uv x1 H locs ls h hP hD hS hl
      obtain ⟨o1, h1, h2⟩ := lpn_s h
      exact w_X4_pass_12 M ih h1 h2 hP hD hS hl
    · intro uv x1 x2 H locs ls h hP hD hS hl
      obtain ⟨o1, h1, h2⟩ := lpn_s h
      exact w_X4_pass_20 M ih h1 h2 hP hD hS hl
theorem c_X4_pass {l : Launch} {D : va_G} {cy : Nat → ClassId} (b0 : Nat → Nat) {uv : MS} {rr : MS} (h : f_X4_pass uv = some rr) : CV l D cy yX4_pass wsX4_pass { frames := 1, cells := 0, slots := 0, locals := 21 } [.ref (b0 0)] (wM cy b0 uv []) (wM cy b0 rr []) := by
  refine kofV (cc := cX4_pass) (maxL := 4) (ret := none) (by decide) rfl (Nat.le_of_ble_eq_true rfl) ?_
  intro p e s m below meth c A M ls hl hP hD hS
  obtain ⟨o1, fu, h1, h2⟩ := rnx_s h
  exact w_X4_pass_0 M (wl_X4_pass M fu) h1 h2 hP hD hS hl
theorem eX4_pass : yX4_pass.cls ≠ "java/lang/invoke/MethodHandle" ∧ yX4_pass.cls ≠ "java/lang/invoke/VarHandle" ∧ (parseMethodDescriptor yX4_pass.desc).map (fun d => d.parameters.length) = some 0 := by decide +kernel
