/-! printed by wip/gen/gen.py: the walks -/
theorem iX2_lower_X2 : ∀ w ∈ u_ws RX2 TX2 11, w ∈ wsX2_lower := by decide +kernel
theorem mX2_lower_1 : Cond.fieldLink RX2 27 "LentPiles$Valley" "pence" "[I" ∈ wsX2_lower := by decide +kernel
set_option maxHeartbeats 4000000 in
set_option maxRecDepth 100000 in
theorem w_X2_lower_0 {p : Program} {l : Launch} {e : Env} {s : State} {m : MethodId} {args : Array Value} {below : List Frame} {meth : Method} {c : Code} {A : Nat → Prop} {D : va_G} {cy : Nat → ClassId} {b0 : Nat → Nat} {x1 : Int32} {x2 : Int32} {x3 : Int32} {rr : VS} (M : kM p s m args meth c cX2_lower 5 none RX2 wsX2_lower A D cy) {vv : VS} (h : f_X2_lower vv x1 x2 x3 = some rr) {H : Heap} {locs : List Loc} {ls : Array Slot} (hP : va_P D vwCl (wV cy b0 vv []) H) (hD : va_D A (wV cy b0 vv [])) (hS : va_S A s.heap H locs) (hl : lv_has ls 5 [(0, .ref (b0 0)), (1, .int x1), (2, .int x2), (3, .int x3)]) : W p l e { frames := 2, cells := 0, slots := 0, locals := 46 } s m args below meth c H locs 0 0 (MQ below (qV D (wV cy b0 rr []) A) args s 0 0 A) (F0 m 0 ls []) := by
  obtain ⟨hx, hb, hr, hml, hown, hts, hlk, hA, hK⟩ := id M
  unfold f_X2_lower at h
  refine lv_aload_n hx hb dX2_lower_0 rfl (lv_at hl 0 rfl) ?_
  refine lv_iload_n hx hb dX2_lower_1 rfl (lv_at hl 1 rfl) ?_
  refine lv_iload_n hx hb dX2_lower_2 rfl (lv_at hl 2 rfl) ?_
  obtain ⟨r_1, hr_1, h⟩ := bn_s h
  refine kcVi (As := [.int x1, .int x2]) (rest := []) (ws' := (wV cy b0 vv [])) ⟨hx, hb, hml, hown, hts⟩ (cwV 2 hts gX2_lower_X2_hasDebt rfl rfl rfl ⟨rfl, eX2_hasDebt⟩ ⟨Nat.le_of_ble_eq_true rfl, Nat.le_of_ble_eq_true rfl⟩) (c_X2_hasDebt b0 hr_1) hK hP hD hS hA [0, 1, 2, 3, 4, 5, 6, 7] [] (by decide) rfl rfl 2 rfl rfl [(b0 0), (b0 1), (b0 2), (b0 3), (b0 4), (b0 5), (b0 6), (b0 7)] rfl rfl rfl [] rfl rfl rfl rfl hl.1 rfl (Nat.le_of_ble_eq_true rfl) dX2_lower_3 (fun H locs hP hD hS => ?_)
  refine lv_if_ne (tgt := 10) hx hb dX2_lower_6 (by decide) (fun c_2 => ?_) (fun c_2 => ?_)
  · replace h := it_n c_2 h
    refine lv_aload_n hx hb dX2_lower_10 rfl (lv_at hl 0 rfl) ?_
    refine lv_iload_n hx hb dX2_lower_11 rfl (lv_at hl 1 rfl) ?_
    refine lv_iload_n hx hb dX2_lower_12 rfl (lv_at hl 2 rfl) ?_
    obtain ⟨r_3, hr_3, h⟩ := bn_s h
    refine kcVi (As := [.int x1, .int x2]) (rest := []) (ws' := (wV cy b0 vv [])) ⟨hx, hb, hml, hown, hts⟩ (cwV 2 hts gX2_lower_X2_penceOf rfl rfl rfl ⟨rfl, eX2_penceOf⟩ ⟨Nat.le_of_ble_eq_true rfl, Nat.le_of_ble_eq_true rfl⟩) (c_X2_penceOf b0 hr_3) hK hP hD hS hA [0, 1, 2, 3, 4, 5, 6, 7] [] (by decide) rfl rfl 2 rfl rfl [(b0 0), (b0 1), (b0 2), (b0 3), (b0 4), (b0 5), (b0 6), (b0 7)] rfl rfl rfl [] rfl rfl rfl rfl hl.1 rfl (Nat.le_of_ble_eq_true rfl) dX2_lower_13 (fun H locs hP hD hS => ?_)
    refine lv_iload_n hx hb dX2_lower_16 rfl (lv_at hl 3 rfl) ?_
    refine lv_isub hx hb dX2_lower_17 ?_
    refine lv_topi (fun x4_4 ex4_4 => ?_)
    replace h := nm_s h ex4_4
    refine lv_istore (lv' := [(4, .int x4_4), (0, .ref (b0 0)), (1, .int x1), (2, .int x2), (3, .int x3)]) hx hb dX2_lower_18 hl (by decide) rfl (fun ls hl => ?_)
    refine lv_iload hx hb dX2_lower_20 (lv_at hl 0 rfl) ?_
    refine lv_if_le (tgt := 40) hx hb dX2_lower_22 (by decide) (fun c_5 => ?_) (fun c_5 => ?_)
    · replace h := it_p c_5 h
      refine lv_aload_n hx hb dX2_lower_40 rfl (lv_at hl 1 rfl) ?_
      refine lv_iload_n hx hb dX2_lower_41 rfl (lv_at hl 2 rfl) ?_
      refine lv_iload_n hx hb dX2_lower_42 rfl (lv_at hl 3 rfl) ?_
      obtain ⟨r_6, hr_6, h⟩ := bn_s h
      refine kcVv (As := [.int x1, .int x2]) (rest := []) (ws' := (wV cy b0 r_6 [])) ⟨hx, hb, hml, hown, hts⟩ (cwV 2 hts gX2_lower_X2_drop rfl rfl rfl ⟨rfl, eX2_drop⟩ ⟨Nat.le_of_ble_eq_true rfl, Nat.le_of_ble_eq_true rfl⟩) (c_X2_drop b0 hr_6) hK hP hD hS hA [0, 1, 2, 3, 4, 5, 6, 7] [] (by decide) rfl rfl 2 rfl rfl [(b0 0), (b0 1), (b0 2), (b0 3), (b0 4), (b0 5), (b0 6), (b0 7)] rfl rfl rfl [] rfl rfl rfl rfl hl.1 rfl (Nat.le_of_ble_eq_true rfl) dX2_lower_43 (fun H locs hP hD hS => ?_)
      cases h
      exact kretV hx hb hr hlk hP hS dX2_lower_46
    · replace h := it_n c_5 h
      refine lv_aload_n hx hb dX2_lower_25 rfl (lv_at hl 1 rfl) ?_
      refine va_get (D := D) (ci := 2) (v := .ref (b0 4)) (C := RX2) (T := TX2) (N := 11) hx hb hts iX2_lower_X2 hown hK.1 hP 0 rfl rfl 3 (by decide) (hts _ mX2_lower_1) (fun _ h9 => h9) rfl dX2_lower_26 ?_
      refine lv_iload_n hx hb dX2_lower_29 rfl (lv_at hl 2 rfl) ?_
      refine lv_iconst (v := 5) hx hb dX2_lower_30 (by decide) ?_
      refine lv_imul hx hb dX2_lower_31 ?_
      refine lv_iload_n hx hb dX2_lower_32 rfl (lv_at hl 3 rfl) ?_
      refine lv_iadd hx hb dX2_lower_33 ?_
      refine lv_iload hx hb dX2_lower_34 (lv_at hl 0 rfl) ?_
      obtain ⟨b_7, h⟩ := ck_s h
      refine va_iast hx hb hK.1 hP hD hS 4 1 rfl rfl b_7 dX2_lower_36 (fun H locs hP hD hS => ?_)
      obtain ⟨vv_8, evv_8⟩ : ∃ z : VS, z = (vv.1, vv.2.1, vv.2.2.1, (upd vv.2.2.2.1 ((x1 * (5 : Int32)) + x2).toNatClampNeg x4_4), vv.2.2.2.2) := ⟨_, rfl⟩
      replace h := nm_s h evv_8
      have hP : va_P D vwCl (wV cy b0 vv_8 []) H := by subst evv_8; exact hP
      have hD : va_D A (wV cy b0 vv_8 []) := hD.lk [(b0 0), (b0 1), (b0 2), (b0 3), (b0 4), (b0 5), (b0 6), (b0 7)] rfl rfl
      refine lv_goto (tgt := 46) hx hb dX2_lower_37 (by decide) ?_
      cases h
      exact kretV hx hb hr hlk hP hS dX2_lower_46
  · replace h := it_p c_2 h
    cases h
    exact kretV hx hb hr hlk hP hS dX2_lower_9
theorem c_X2_lower {l : Launch} {D : va_G} {cy : Nat → ClassId} (b0 : Nat → Nat) {vv : VS} {x1 : Int32} {x2 : Int32} {x3 : Int32} {rr : VS} (h : f_X2_lower vv x1 x2 x3 = some rr) : CV l D cy yX2_lower wsX2_lower { frames := 2, cells := 0, slots := 0, locals := 46 } [.ref (b0 0), .int x1, .int x2, .int x3] (wV cy b0 vv []) (wV cy b0 rr []) := by
  refine kofV (cc := cX2_lower) (maxL := 5) (ret := none) (by decide) rfl (Nat.le_of_ble_eq_true rfl) ?_
  intro p e s m below meth c A M ls hl hP hD hS
  exact w_X2_lower_0 M h hP hD hS hl
theorem eX2_lower : yX2_lower.cls ≠ "java/lang/invoke/MethodHandle" ∧ yX2_lower.cls ≠ "java/lang/invoke/VarHandle" ∧ (parseMethodDescriptor yX2_lower.desc).map (fun d => d.parameters.length) = some 3 := by decide +kernel
def I_X2_owedTo (p : Program) (l : Launch) (e : Env) (s : State) (m : MethodId) (args : Array Value) (below : List Frame) (meth : Method) (c : Code) (A : Nat → Prop) (D : va_G) (cy : Nat → ClassId) (b0 : Nat → Nat) (vv : VS) (x1 : Int32) (x2 : Int32) (fu : Nat) (rr : Int32) : Prop := (∀ (x3 : Int32) (x4 : Int32) (H : Heap) (locs : List Loc) (ls : Array Slot), lpn (st_X2_owedTo vv x1 x2) fu (x3, x4) = some rr → va_P D vwCl (wV cy b0 vv []) H → va_D A (wV cy b0 vv []) → va_S A s.heap H locs → lv_has ls 5 [(0, .ref (b0 0)), (1, .int x1), (2, .int x2), (3, .int x3), (4, .int x4)] → W p l e { frames := 2, cells := 0, slots := 0, locals := 44 } s m args below meth c H locs 0 0 (MQ below (qI D (wV cy b0 vv []) (rr) A) args s 0 0 A) (F0 m 5 ls []))
set_option maxHeartbeats 4000000 in
set_option maxRecDepth 100000 in
theorem w_X2_owedTo_5 {p : Program} {l : Launch} {e : Env} {s : State} {m : MethodId} {args : Array Value} {below : List Frame} {meth : Method} {c : Code} {A : Nat → Prop} {D : va_G} {cy : Nat → ClassId} {b0 : Nat → Nat} {vv : VS} {x1 : Int32} {x2 : Int32} {fu : Nat} {rr : Int32} (M : kM p s m args meth c cX2_owedTo 5 (some .int) RX2 wsX2_owedTo A D cy) (ih : I_X2_owedTo p l e s m args below meth c A D cy b0 vv x1 x2 fu rr) {x3 : Int32} {x4 : Int32} {oo : (Int32 × Int32) ⊕ (Int32)} (h : f_X2_owedTo_5 vv x1 x2 x3 x4 = some oo) (hm : lpo (st_X2_owedTo vv x1 x2) fu oo rr) {H : Heap} {locs : List Loc} {ls : Array Slot} (hP : va_P D vwCl (wV cy b0 vv []) H) (hD : va_D A (wV cy b0 vv [])) (hS : va_S A s.heap H locs) (hl : lv_has ls 5 [(0, .ref (b0 0)), (1, .int x1), (2, .int x2), (3, .int x3), (4, .int x4)]) : W p l e { frames := 2, cells := 0, slots := 0, locals := 44 } s m args below meth c H locs 0 0 (MQ below (qI D (wV cy b0 vv []) (rr) A) args s 0 0 A) (F0 m 5 ls []) := by
  obtain ⟨hx, hb, hr, hml, hown, hts, hlk, hA, hK⟩ := id M
  unfold f_X2_owedTo_5 at h
  refine lv_iload hx hb dX2_owedTo_5 (lv_at hl 4 rfl) ?_
  refine lv_aload_n hx hb dX2_owedTo_7 rfl (lv_at hl 0 rfl) ?_
  refine lv_iload_n hx hb dX2_owedTo_8 rfl (lv_at hl 1 rfl) ?_
  obtain ⟨r_1, hr_1, h⟩ := bn_s h
  refine kcVi (As := [.int x1]) (rest := [.int x4]) (ws' := (wV cy b0 vv [])) ⟨hx, hb, hml, hown, hts⟩ (cwV 1 hts gX2_owedTo_X2_debtsOf rfl rfl rfl ⟨rfl, eX2_debtsOf⟩ ⟨Nat.le_of_ble_eq_true rfl, Nat.le_of_ble_eq_true rfl⟩) (c_X2_debtsOf b0 hr_1) hK hP hD hS hA [0, 1, 2, 3, 4, 5, 6, 7] [] (by decide) rfl rfl 2 rfl rfl [(b0 0), (b0 1), (b0 2), (b0 3), (b0 4), (b0 5), (b0 6), (b0 7)] rfl rfl rfl [] rfl rfl rfl rfl hl.1 rfl (Nat.le_of_ble_eq_true rfl) dX2_owedTo_9 (fun H locs hP hD hS => ?_)
  refine lv_icmp_ge (tgt := 46) hx hb dX2_owedTo_12 (by decide) (fun c_2 => ?_) (fun c_2 => ?_)
  · replace h := it_p c_2 h
    refine lv_iload_n hx hb dX2_owedTo_46 rfl (lv_at hl 3 rfl) ?_
    cases h
    have hm : _ = rr := hm
    subst hm
    exact kretI hx hb hr hlk hP hS dX2_owedTo_47
  · replace h := it_n c_2 h
    refine lv_iload_n hx hb dX2_owedTo_15 rfl (lv_at hl 3 rfl) ?_
    refine lv_aload_n hx hb dX2_owedTo_16 rfl (lv_at hl 0 rfl) ?_
    refine lv_iload_n hx hb dX2_owedTo_17 rfl (lv_at hl 1 rfl) ?_
    refine lv_iload hx hb dX2_owedTo_18 (lv_at hl 4 rfl) ?_
    obtain ⟨r_3, hr_3, h⟩ := bn_s h
    refine kcVi (As := [.int x1, .int x4]) (rest := [.int x3]) (ws' := (wV cy b0 vv [])) ⟨hx, hb, hml, hown, hts⟩ (cwV 2 hts gX2_owedTo_X2_lenderOf rfl rfl rfl ⟨rfl, eX2_lenderOf⟩ ⟨Nat.le_of_ble_eq_true rfl, Nat.le_of_ble_eq_true rfl⟩) (c_X2_lenderOf b0 hr_3) hK hP hD hS hA [0, 1, 2, 3, 4, 5, 6, 7] [] (by decide) rfl rfl 2 rfl rfl [(b0 0), (b0 1), (b0 2), (b0 3), (b0 4), (b0 5), (b0 6), (b0 7)] rfl rfl rfl [] rfl rfl rfl rfl hl.1 rfl (Nat.le_of_ble_eq_true rfl) dX2_owedTo_20 (fun H locs hP hD hS => ?_)
    refine lv_iload_n hx hb dX2_owedTo_23 rfl (lv_at hl 2 rfl) ?_
    refine lv_icmp_ne (tgt := 37) hx hb dX2_owedTo_24 (by decide) (fun c_4 => ?_) (fun c_4 => ?_)
    · replace h := it_n c_4 h
      refine lv_iconst (v := 0) hx hb dX2_owedTo_37 (by decide) ?_
      refine lv_iadd hx hb dX2_owedTo_38 ?_
      refine lv_topi (fun x3_5 ex3_5 => ?_)
      replace h := nm_s h ex3_5
      refine lv_istore_n (lv' := [(3, .int x3_5), (0, .ref (b0 0)), (1, .int x1), (2, .int x2), (4, .int x4)]) hx hb dX2_owedTo_39 rfl hl (by decide) rfl (fun ls hl => ?_)
      obtain ⟨x4_6, ex4_6⟩ : ∃ z : Int32, z = (x4 + (1 : Int32)) := ⟨_, rfl⟩
      replace h := nm_s h ex4_6
      refine lv_iinc (v := x4_6) (lv' := [(4, .int x4_6), (3, .int x3_5), (0, .ref (b0 0)), (1, .int x1), (2, .int x2)]) hx hb dX2_owedTo_40 hl (k := 4) rfl (by rw [ex4_6]; rfl) (by decide) rfl (fun ls hl => ?_)
      refine lv_goto (tgt := 5) hx hb dX2_owedTo_43 (by decide) ?_
      cases h
      exact ih x3_5 x4_6 _ _ _ hm hP hD hS (lv_sub hl [2, 3, 4, 1, 0] rfl)
    · replace h := it_p c_4 h
      refine lv_aload_n hx hb dX2_owedTo_27 rfl (lv_at hl 0 rfl) ?_
      refine lv_iload_n hx hb dX2_owedTo_28 rfl (lv_at hl 1 rfl) ?_
      refine lv_iload hx hb dX2_owedTo_29 (lv_at hl 4 rfl) ?_
      obtain ⟨r_7, hr_7, h⟩ := bn_s h
      refine kcVi (As := [.int x1, .int x4]) (rest := [.int x3]) (ws' := (wV cy b0 vv [])) ⟨hx, hb, hml, hown, hts⟩ (cwV 2 hts gX2_owedTo_X2_penceOf rfl rfl rfl ⟨rfl, eX2_penceOf⟩ ⟨Nat.le_of_ble_eq_true rfl, Nat.le_of_ble_eq_true rfl⟩) (c_X2_penceOf b0 hr_7) hK hP hD hS hA [0, 1, 2, 3, 4, 5, 6, 7] [] (by decide) rfl rfl 2 rfl rfl [(b0 0), (b0 1), (b0 2), (b0 3), (b0 4), (b0 5), (b0 6), (b0 7)] rfl rfl rfl [] rfl rfl rfl rfl hl.1 rfl (Nat.le_of_ble_eq_true rfl) dX2_owedTo_31 (fun H locs hP hD hS => ?_)
      refine lv_goto (tgt := 38) hx hb dX2_owedTo_34 (by decide) ?_
      refine lv_iadd hx hb dX2_owedTo_38 ?_
      refine lv_topi (fun x3_8 ex3_8 => ?_)
      replace h := nm_s h ex3_8
      refine lv_istore_n (lv' := [(3, .int x3_8), (0, .ref (b0 0)), (1, .int x1), (2, .int x2), (4, .int x4)]) hx hb dX2_owedTo_39 rfl hl (by decide) rfl (fun ls hl => ?_)
      obtain ⟨x4_9, ex4_9⟩ : ∃ z : Int32, z = (x4 + (1 : Int32)) := ⟨_, rfl⟩
      replace h := nm_s h ex4_9
      refine lv_iinc (v := x4_9) (lv' := [(4, .int x4_9), (3, .int x3_8), (0, .ref (b0 0)), (1, .int x1), (2, .int x2)]) hx hb dX2_owedTo_40 hl (k := 4) rfl (by rw [ex4_9]; rfl) (by decide) rfl (fun ls hl => ?_)
      refine lv_goto (tgt := 5) hx hb dX2_owedTo_43 (by decide) ?_
      cases h
      exact ih x3_8 x4_9 _ _ _ hm hP hD hS (lv_sub hl [2, 3, 4, 1, 0] rfl)
set_option maxHeartbeats 4000000 in
set_option maxRecDepth 100000 in
theorem w_X2_owedTo_0 {p : Program} {l : Launch} {e : Env} {s : State} {m : MethodId} {args : Array Value} {below : List Frame} {meth : Method} {c : Code} {A : Nat → Prop} {D : va_G} {cy : Nat → ClassId} {b0 : Nat → Nat} {vv : VS} {x1 : Int32} {x2 : Int32} {fu : Nat} {rr : Int32} (M : kM p s m args meth c cX2_owedTo 5 (some .int) RX2 wsX2_owedTo A D cy) (ih : I_X2_owedTo p l e s m args below meth c A D cy b0 vv x1 x2 fu rr)  {oo : (Int32 × Int32) ⊕ (Int32)} (h : f_X2_owedTo_0 vv x1 x2 = some oo) (hm : lpo (st_X2_owedTo vv x1 x2) fu oo rr) {H : Heap} {locs : List Loc} {ls : Array Slot} (hP : va_P D vwCl (wV cy b0 vv []) H) (hD : va_D A (wV cy b0 vv [])) (hS : va_S A s.heap H locs) (hl : lv_has ls 5 [(0, .ref (b0 0)), (1, .int x1), (2, .int x2)]) : W p l e { frames := 2, cells := 0, slots := 0, locals := 44 } s m args below meth c H locs 0 0 (MQ below (qI D (wV cy b0 vv []) (rr) A) args s 0 0 A) (F0 m 0 ls []) := by
  obtain ⟨hx, hb, hr, hml, hown, hts, hlk, hA, hK⟩ := id M
  unfold f_X2_owedTo_0 at h
  refine lv_iconst (v := 0) hx hb dX2_owedTo_0 (by decide) ?_
  refine lv_istore_n (lv' := [(3, .int (0 : Int32)), (0, .ref (b0 0)), (1, .int x1), (2, .int x2)]) hx hb dX2_owedTo_1 rfl hl (by decide) rfl (fun ls hl => ?_)
  refine lv_iconst (v := 0) hx hb dX2_owedTo_2 (by decide) ?_
  refine lv_istore (lv' := [(4, .int (0 : Int32)), (3, .int (0 : Int32)), (0, .ref (b0 0)), (1, .int x1), (2, .int x2)]) hx hb dX2_owedTo_3 hl (by decide) rfl (fun ls hl => ?_)
  cases h
  exact ih (0 : Int32) (0 : Int32) _ _ _ hm hP hD hS (lv_sub hl [2, 3, 4, 1, 0] rfl)
theorem wl_X2_owedTo {p : Program} {l : Launch} {e : Env} {s : State} {m : MethodId} {args : Array Value} {below : List Frame} {meth : Method} {c : Code} {A : Nat → Prop} {D : va_G} {cy : Nat → ClassId} {b0 : Nat → Nat} {vv : VS} {x1 : Int32} {x2 : Int32} {rr : Int32} (M : kM p s m args meth c cX2_owedTo 5 (some .int) RX2 wsX2_owedTo A D cy) : ∀ fu : Nat, I_X2_owedTo p l e s m args below meth c A D cy b0 vv x1 x2 fu rr := by
  intro fu
  induction fu with
  | zero => exact (fun _ _ _ _ _ h => by cases h)
  | succ fu ih =>
    exact fun x3 x4 H locs ls h hP hD hS hl => by
      obtain ⟨o1, h1, h2⟩ := lpn_s h
      exact w_X2_owedTo_5 M ih h1 h2 hP hD hS hl
theorem c_X2_owedTo {l : Launch} {D : va_G} {cy : Nat → ClassId} (b0 : Nat → Nat) {vv : VS} {x1 : Int32} {x2 : Int32} {rr : Int32} (h : f_X2_owedTo vv x1 x2 = some rr) : CI l D cy yX2_owedTo wsX2_owedTo { frames := 2, cells := 0, slots := 0, locals := 44 } [.ref (b0 0), .int x1, .int x2] (wV cy b0 vv []) (rr) (wV cy b0 vv []) := by
  refine kofI (cc := cX2_owedTo) (maxL := 5) (ret := (some .int)) (by decide) rfl (Nat.le_of_ble_eq_true rfl) ?_
  intro p e s m below meth c A M ls hl hP hD hS
  obtain ⟨o1, fu, h1, h2⟩ := rnx_s h
  exact w_X2_owedTo_0 M (wl_X2_owedTo M fu) h1 h2 hP hD hS hl
theorem eX2_owedTo : yX2_owedTo.cls ≠ "java/lang/invoke/MethodHandle" ∧ yX2_owedTo.cls ≠ "java/lang/invoke/VarHandle" ∧ (parseMethodDescriptor yX2_owedTo.desc).map (fun d => d.parameters.length) = some 2 := by decide +kernel
def I_X2_penceTill (p : Program) (l : Launch) (e : Env) (s : State) (m : MethodId) (args : Array Value) (below : List Frame) (meth : Method) (c : Code) (A : Nat → Prop) (D : va_G) (cy : Nat → ClassId) (b0 : Nat → Nat) (vv : VS) (x1 : Int32) (x2 : Int32) (fu : Nat) (rr : Int32) : Prop := (∀ (x3 : Int32) (x4 : Int32) (H : Heap) (locs : List Loc) (ls : Array Slot), lpn (st_X2_penceTill vv x1 x2) fu (x3, x4) = some rr → va_P D vwCl (wV cy b0 vv []) H → va_D A (wV cy b0 vv []) → va_S A s.heap H locs → lv_has ls 5 [(0, .ref (b0 0)), (1, .int x1), (2, .int x2), (3, .int x3), (4, .int x4)] → W p l e { frames := 2, cells := 0, slots := 0, locals := 47 } s m args below meth c H locs 0 0 (MQ below (qI D (wV cy b0 vv []) (rr) A) args s 0 0 A) (F0 m 5 ls []))
set_option maxHeartbeats 4000000 in
set_option maxRecDepth 100000 in
theorem w_X2_penceTill_5 {p : Program} {l : Launch} {e : Env} {s : State} {m : MethodId} {args : Array Value} {below : List Frame} {meth : Method} {c : Code} {A : Nat → Prop} {D : va_G} {cy : Nat → ClassId} {b0 : Nat → Nat} {vv : VS} {x1 : Int32} {x2 : Int32} {fu : Nat} {rr : Int32} (M : kM p s m args meth c cX2_penceTill 5 (some .int) RX2 wsX2_penceTill A D cy) (ih : I_X2_penceTill p l e s m args below meth c A D cy b0 vv x1 x2 fu rr) {x3 : Int32} {x4 : Int32} {oo : (Int32 × Int32) ⊕ (Int32)} (h : f_X2_penceTill_5 vv x1 x2 x3 x4 = some oo) (hm : lpo (st_X2_penceTill vv x1 x2) fu oo rr) {H : Heap} {locs : List Loc} {ls : Array Slot} (hP : va_P D vwCl (wV cy b0 vv []) H) (hD : va_D A (wV cy b0 vv [])) (hS : va_S A s.heap H locs) (hl : lv_has ls 5 [(0, .ref (b0 0)), (1, .int x1), (2, .int x2), (3, .int x3), (4, .int x4)]) : W p l e { frames := 2, cells := 0, slots := 0, locals := 47 } s m args below meth c H locs 0 0 (MQ below (qI D (wV cy b0 vv []) (rr) A) args s 0 0 A) (F0 m 5 ls []) := by
  obtain ⟨hx, hb, hr, hml, hown, hts, hlk, hA, hK⟩ := id M
  unfold f_X2_penceTill_5 at h
  refine lv_iload hx hb dX2_penceTill_5 (lv_at hl 4 rfl) ?_
  refine lv_aload_n hx hb dX2_penceTill_7 rfl (lv_at hl 0 rfl) ?_
  refine lv_iload_n hx hb dX2_penceTill_8 rfl (lv_at hl 1 rfl) ?_
  obtain ⟨r_1, hr_1, h⟩ := bn_s h
  refine kcVi (As := [.int x1]) (rest := [.int x4]) (ws' := (wV cy b0 vv [])) ⟨hx, hb, hml, hown, hts⟩ (cwV 1 hts gX2_penceTill_X2_debtsOf rfl rfl rfl ⟨rfl, eX2_debtsOf⟩ ⟨Nat.le_of_ble_eq_true rfl, Nat.le_of_ble_eq_true rfl⟩) (c_X2_debtsOf b0 hr_1) hK hP hD hS hA [0, 1, 2, 3, 4, 5, 6, 7] [] (by decide) rfl rfl 2 rfl rfl [(b0 0), (b0 1), (b0 2), (b0 3), (b0 4), (b0 5), (b0 6), (b0 7)] rfl rfl rfl [] rfl rfl rfl rfl hl.1 rfl (Nat.le_of_ble_eq_true rfl) dX2_penceTill_9 (fun H locs hP hD hS => ?_)
  refine lv_icmp_ge (tgt := 46) hx hb dX2_penceTill_12 (by decide) (fun c_2 => ?_) (fun c_2 => ?_)
  · replace h := it_p c_2 h
    refine lv_iload_n hx hb dX2_penceTill_46 rfl (lv_at hl 3 rfl) ?_
    cases h
    have hm : _ = rr := hm
    subst hm
    exact kretI hx hb hr hlk hP hS dX2_penceTill_47
  · replace h := it_n c_2 h
    refine lv_iload_n hx hb dX2_penceTill_15 rfl (lv_at hl 3 rfl) ?_
    refine lv_aload_n hx hb dX2_penceTill_16 rfl (lv_at hl 0 rfl) ?_
    refine lv_iload_n hx hb dX2_penceTill_17 rfl (lv_at hl 1 rfl) ?_
    refine lv_iload hx hb dX2_penceTill_18 (lv_at hl 4 rfl) ?_
    refine lv_iload_n hx hb dX2_penceTill_20 rfl (lv_at hl 2 rfl) ?_
    obtain ⟨r_3, hr_3, h⟩ := bn_s h
    refine kcVi (As := [.int x1, .int x4, .int x2]) (rest := [.int x3]) (ws' := (wV cy b0 vv [])) ⟨hx, hb, hml, hown, hts⟩ (cwV 3 hts gX2_penceTill_X2_notLater rfl rfl rfl ⟨rfl, eX2_notLater⟩ ⟨Nat.le_of_ble_eq_true rfl, Nat.le_of_ble_eq_true rfl⟩) (c_X2_notLater b0 hr_3) hK hP hD hS hA [0, 1, 2, 3, 4, 5, 6, 7] [] (by decide) rfl rfl 2 rfl rfl [(b0 0), (b0 1), (b0 2), (b0 3), (b0 4), (b0 5), (b0 6), (b0 7)] rfl rfl rfl [] rfl rfl rfl rfl hl.1 rfl (Nat.le_of_ble_eq_true rfl) dX2_penceTill_21 (fun H locs hP hD hS => ?_)
    refine lv_if_eq (tgt := 37) hx hb dX2_penceTill_24 (by decide) (fun c_4 => ?_) (fun c_4 => ?_)
    · replace h := it_p c_4 h
      refine lv_iconst (v := 0) hx hb dX2_penceTill_37 (by decide) ?_
      refine lv_iadd hx hb dX2_penceTill_38 ?_
      refine lv_topi (fun x3_5 ex3_5 => ?_)
      replace h := nm_s h ex3_5
      refine lv_istore_n (lv' := [(3, .int x3_5), (0, .ref (b0 0)), (1, .int x1), (2, .int x2), (4, .int x4)]) hx hb dX2_penceTill_39 rfl hl (by decide) rfl (fun ls hl => ?_)
      obtain ⟨x4_6, ex4_6⟩ : ∃ z : Int32, z = (x4 + (1 : Int32)) := ⟨_, rfl⟩
      replace h := nm_s h ex4_6
      refine lv_iinc (v := x4_6) (lv' := [(4, .int x4_6), (3, .int x3_5), (0, .ref (b0 0)), (1, .int x1), (2, .int x2)]) hx hb dX2_penceTill_40 hl (k := 4) rfl (by rw [ex4_6]; rfl) (by decide) rfl (fun ls hl => ?_)
      refine lv_goto (tgt := 5) hx hb dX2_penceTill_43 (by decide) ?_
      cases h
      exact ih x3_5 x4_6 _ _ _ hm hP hD hS (lv_sub hl [2, 3, 4, 1, 0] rfl)
    · replace h := it_n c_4 h
      refine lv_aload_n hx hb dX2_penceTill_27 rfl (lv_at hl 0 rfl) ?_
      refine lv_iload_n hx hb dX2_penceTill_28 rfl (lv_at hl 1 rfl) ?_
      refine lv_iload hx hb dX2_penceTill_29 (lv_at hl 4 rfl) ?_
      obtain ⟨r_7, hr_7, h⟩ := bn_s h
      refine kcVi (As := [.int x1, .int x4]) (rest := [.int x3]) (ws' := (wV cy b0 vv [])) ⟨hx, hb, hml, hown, hts⟩ (cwV 2 hts gX2_penceTill_X2_penceOf rfl rfl rfl ⟨rfl, eX2_penceOf⟩ ⟨Nat.le_of_ble_eq_true rfl, Nat.le_of_ble_eq_true rfl⟩) (c_X2_penceOf b0 hr_7) hK hP hD hS hA [0, 1, 2, 3, 4, 5, 6, 7] [] (by decide) rfl rfl 2 rfl rfl [(b0 0), (b0 1), (b0 2), (b0 3), (b0 4), (b0 5), (b0 6), (b0 7)] rfl rfl rfl [] rfl rfl rfl rfl hl.1 rfl (Nat.le_of_ble_eq_true rfl) dX2_penceTill_31 (fun H locs hP hD hS => ?_)
      refine lv_goto (tgt := 38) hx hb dX2_penceTill_34 (by decide) ?_
      refine lv_iadd hx hb dX2_penceTill_38 ?_
      refine lv_topi (fun x3_8 ex3_8 => ?_)
      replace h := nm_s h ex3_8
      refine lv_istore_n (lv' := [(3, .int x3_8), (0, .ref (b0 0)), (1, .int x1), (2, .int x2), (4, .int x4)]) hx hb dX2_penceTill_39 rfl hl (by decide) rfl (fun ls hl => ?_)
      obtain ⟨x4_9, ex4_9⟩ : ∃ z : Int32, z = (x4 + (1 : Int32)) := ⟨_, rfl⟩
      replace h := nm_s h ex4_9
      refine lv_iinc (v := x4_9) (lv' := [(4, .int x4_9), (3, .int x3_8), (0, .ref (b0 0)), (1, .int x1), (2, .int x2)]) hx hb dX2_penceTill_40 hl (k := 4) rfl (by rw [ex4_9]; rfl) (by decide) rfl (fun ls hl => ?_)
      refine lv_goto (tgt := 5) hx hb dX2_penceTill_43 (by decide) ?_
      cases h
      exact ih x3_8 x4_9 _ _ _ hm hP hD hS (lv_sub hl [2, 3, 4, 1, 0] rfl)
set_option maxHeartbeats 4000000 in
set_option maxRecDepth 100000 in
theorem w_X2_penceTill_0 {p : Program} {l : Launch} {e : Env} {s : State} {m : MethodId} {args : Array Value} {below : List Frame} {meth : Method} {c : Code} {A : Nat → Prop} {D : va_G} {cy : Nat → ClassId} {b0 : Nat → Nat} {vv : VS} {x1 : Int32} {x2 : Int32} {fu : Nat} {rr : Int32} (M : kM p s m args meth c cX2_penceTill 5 (some .int) RX2 wsX2_penceTill A D cy) (ih : I_X2_penceTill p l e s m args below meth c A D cy b0 vv x1 x2 fu rr)  {oo : (Int32 × Int32) ⊕ (Int32)} (h : f_X2_penceTill_0 vv x1 x2 = some oo) (hm : lpo (st_X2_penceTill vv x1 x2) fu oo rr) {H : Heap} {locs : List Loc} {ls : Array Slot} (hP : va_P D vwCl (wV cy b0 vv []) H) (hD : va_D A (wV cy b0 vv [])) (hS : va_S A s.heap H locs) (hl : lv_has ls 5 [(0, .ref (b0 0)), (1, .int x1), (2, .int x2)]) : W p l e { frames := 2, cells := 0, slots := 0, locals := 47 } s m args below meth c H locs 0 0 (MQ below (qI D (wV cy b0 vv []) (rr) A) args s 0 0 A) (F0 m 0 ls []) := by
  obtain ⟨hx, hb, hr, hml, hown, hts, hlk, hA, hK⟩ := id M
  unfold f_X2_penceTill_0 at h
  refine lv_iconst (v := 0) hx hb dX2_penceTill_0 (by decide) ?_
  refine lv_istore_n (lv' := [(3, .int (0 : Int32)), (0, .ref (b0 0)), (1, .int x1), (2, .int x2)]) hx hb dX2_penceTill_1 rfl hl (by decide) rfl (fun ls hl => ?_)
  refine lv_iconst (v := 0) hx hb dX2_penceTill_2 (by decide) ?_
  refine lv_istore (lv' := [(4, .int (0 : Int32)), (3, .int (0 : Int32)), (0, .ref (b0 0)), (1, .int x1), (2, .int x2)]) hx hb dX2_penceTill_3 hl (by decide) rfl (fun ls hl => ?_)
  cases h
  exact ih (0 : Int32) (0 : Int32) _ _ _ hm hP hD hS (lv_sub hl [2, 3, 4, 1, 0] rfl)
theorem wl_X2_penceTill {p : Program} {l : Launch} {e : Env} {s : State} {m : MethodId} {args : Array Value} {below : List Frame} {meth : Method} {c : Code} {A : Nat → Prop} {D : va_G} {cy : Nat → ClassId} {b0 : Nat → Nat} {vv : VS} {x1 : Int32} {x2 : Int32} {rr : Int32} (M : kM p s m args meth c cX2_penceTill 5 (some .int) RX2 wsX2_penceTill A D cy) : ∀ fu : Nat, I_X2_penceTill p l e s m args below meth c A D cy b0 vv x1 x2 fu rr := by
  intro fu
  induction fu with
  | zero => exact (fun _ _ _ _ _ h => by cases h)
  | succ fu ih =>
    exact fun x3 x4 H locs ls h hP hD hS hl => by
      obtain ⟨o1, h1, h2⟩ := lpn_s h
      exact w_X2_penceTill_5 M ih h1 h2 hP hD hS hl
theorem c_X2_penceTill {l : Launch} {D : va_G} {cy : Nat → ClassId} (b0 : Nat → Nat) {vv : VS} {x1 : Int32} {x2 : Int32} {rr : Int32} (h : f_X2_penceTill vv x1 x2 = some rr) : CI l D cy yX2_penceTill wsX2_penceTill { frames := 2, cells := 0, slots := 0, locals := 47 } [.ref (b0 0), .int x1, .int x2] (wV cy b0 vv []) (rr) (wV cy b0 vv []) := by
  refine kofI (cc := cX2_penceTill) (maxL := 5) (ret := (some .int)) (by decide) rfl (Nat.le_of_ble_eq_true rfl) ?_
  intro p e s m below meth c A M ls hl hP hD hS
  obtain ⟨o1, fu, h1, h2⟩ := rnx_s h
  exact w_X2_penceTill_0 M (wl_X2_penceTill M fu) h1 h2 hP hD hS hl
theorem eX2_penceTill : yX2_penceTill.cls ≠ "java/lang/invoke/MethodHandle" ∧ yX2_penceTill.cls ≠ "java/lang/invoke/VarHandle" ∧ (parseMethodDescriptor yX2_penceTill.desc).map (fun d => d.parameters.length) = some 2 := by decide +kernel
theorem mX2_ringOf_1 : Cond.initialized RX3 ∈ wsX2_ringOf := by decide +kernel
theorem mX2_ringOf_2 : Cond.static yX3_isMan ∈ wsX2_ringOf := by decide +kernel
def I_X2_ringOf (p : Program) (l : Launch) (e : Env) (s : State) (m : MethodId) (args : Array Value) (below : List Frame) (meth : Method) (c : Code) (A : Nat → Prop) (D : va_G) (cy : Nat → ClassId) (b0 : Nat → Nat) (vv : VS) (x1 : Int32) (fu : Nat) (rr : Int32) : Prop := (∀ (x2 : Int32) (x3 : Int32) (x4 : Int32) (H : Heap) (locs : List Loc) (ls : Array Slot), lpn (st_X2_ringOf vv x1) fu (x2, x3, x4) = some rr → va_P D vwCl (wV cy b0 vv []) H → va_D A (wV cy b0 vv []) → va_S A s.heap H locs → lv_has ls 5 [(0, .ref (b0 0)), (1, .int x1), (2, .int x2), (3, .int x3), (4, .int x4)] → W p l e { frames := 3, cells := 0, slots := 0, locals := 70 } s m args below meth c H locs 0 0 (MQ below (qI D (wV cy b0 vv []) (rr) A) args s 0 0 A) (F0 m 7 ls []))
set_option maxHeartbeats 4000000 in
set_option maxRecDepth 100000 in
theorem w_X2_ringOf_7 {p : Program} {l : Launch} {e : Env} {s : State} {m : MethodId} {args : Array Value} {below : List Frame} {meth : Method} {c : Code} {A : Nat → Prop} {D : va_G} {cy : Nat → ClassId} {b0 : Nat → Nat} {vv : VS} {x1 : Int32} {fu : Nat} {rr : Int32} (M : kM p s m args meth c cX2_ringOf 5 (some .int) RX2 wsX2_ringOf A D cy) (ih : I_X2_ringOf p l e s m args below meth c A D cy b0 vv x1 fu rr) {x2 : Int32} {x3 : Int32} {x4 : Int32} {oo : (Int32 × Int32 × Int32) ⊕ (Int32)} (h : f_X2_ringOf_7 vv x1 x2 x3 x4 = some oo) (hm : lpo (st_X2_ringOf vv x1) fu oo rr) {H : Heap} {locs : List Loc} {ls : Array Slot} (hP : va_P D vwCl (wV cy b0 vv []) H) (hD : va_D A (wV cy b0 vv [])) (hS : va_S A s.heap H locs) (hl : lv_has ls 5 [(0, .ref (b0 0)), (1, .int x1), (2, .int x2), (3, .int x3), (4, .int x4)]) : W p l e { frames := 3, cells := 0, slots := 0, locals := 70 } s m args below meth c H locs 0 0 (MQ below (qI D (wV cy b0 vv []) (rr) A) args s 0 0 A) (F0 m 7 ls []) := by
  obtain ⟨hx, hb, hr, hml, hown, hts, hlk, hA, hK⟩ := id M
  unfold f_X2_ringOf_7 at h
  refine lv_iload hx hb dX2_ringOf_7 (lv_at hl 4 rfl) ?_
  refine lv_bipush (v := 6) hx hb dX2_ringOf_9 (by decide) ?_
  refine lv_icmp_ge (tgt := 51) hx hb dX2_ringOf_11 (by decide) (fun c_1 => ?_) (fun c_1 => ?_)
  · replace h := it_p c_1 h
    refine lv_bipush (v := (-6)) hx hb dX2_ringOf_51 (by decide) ?_
    cases h
    have hm : _ = rr := hm
    subst hm
    exact kretI hx hb hr hlk hP hS dX2_ringOf_53
  · replace h := it_n c_1 h
    refine lv_iload_n hx hb dX2_ringOf_14 rfl (lv_at hl 3 rfl) ?_
    obtain ⟨r_2, hr_2, h⟩ := bn_s h
    refine kcNi (As := [.int x3]) (rest := []) ⟨hx, hb, hml, hown, hts⟩ ⟨va_cnB 1 hts gX2_ringOf_X3_isMan_n58 rfl rfl rfl (kN_RX2_58 hK.2) (hts _ mX2_ringOf_1) eX3_isMan ⟨Nat.le_of_ble_eq_true rfl, Nat.le_of_ble_eq_true rfl⟩, hts _ mX2_ringOf_2, trivial⟩ (c_X3_isMan  hr_2) hK hP hS hA rfl hl.1 rfl (Nat.le_of_ble_eq_true rfl) dX2_ringOf_15 (fun H locs hP hS => ?_)
    refine lv_if_eq (tgt := 51) hx hb dX2_ringOf_18 (by decide) (fun c_3 => ?_) (fun c_3 => ?_)
    · replace h := it_p c_3 h
      refine lv_bipush (v := (-6)) hx hb dX2_ringOf_51 (by decide) ?_
      cases h
      have hm : _ = rr := hm
      subst hm
      exact kretI hx hb hr hlk hP hS dX2_ringOf_53
    · replace h := it_n c_3 h
      refine lv_iload_n hx hb dX2_ringOf_21 rfl (lv_at hl 2 rfl) ?_
      refine lv_iconst (v := 1) hx hb dX2_ringOf_22 (by decide) ?_
      refine lv_iload_n hx hb dX2_ringOf_23 rfl (lv_at hl 3 rfl) ?_
      refine lv_ishl hx hb dX2_ringOf_24 ?_
      refine lv_ior hx hb dX2_ringOf_25 ?_
      refine lv_topi (fun x2_4 ex2_4 => ?_)
      replace h := nm_s h ex2_4
      refine lv_istore_n (lv' := [(2, .int x2_4), (0, .ref (b0 0)), (1, .int x1), (3, .int x3), (4, .int x4)]) hx hb dX2_ringOf_26 rfl hl (by decide) rfl (fun ls hl => ?_)
      refine lv_aload_n hx hb dX2_ringOf_27 rfl (lv_at hl 1 rfl) ?_
      refine lv_iload_n hx hb dX2_ringOf_28 rfl (lv_at hl 3 rfl) ?_
      refine lv_aload_n hx hb dX2_ringOf_29 rfl (lv_at hl 1 rfl) ?_
      refine lv_iload_n hx hb dX2_ringOf_30 rfl (lv_at hl 3 rfl) ?_
      obtain ⟨r_5, hr_5, h⟩ := bn_s h
      refine kcVi (As := [.int x3]) (rest := [.int x3, .ref (b0 0)]) (ws' := (wV cy b0 vv [])) ⟨hx, hb, hml, hown, hts⟩ (cwV 1 hts gX2_ringOf_X2_dueOf rfl rfl rfl ⟨rfl, eX2_dueOf⟩ ⟨Nat.le_of_ble_eq_true rfl, Nat.le_of_ble_eq_true rfl⟩) (c_X2_dueOf b0 hr_5) hK hP hD hS hA [0, 1, 2, 3, 4, 5, 6, 7] [] (by decide) rfl rfl 2 rfl rfl [(b0 0), (b0 1), (b0 2), (b0 3), (b0 4), (b0 5), (b0 6), (b0 7)] rfl rfl rfl [] rfl rfl rfl rfl hl.1 rfl (Nat.le_of_ble_eq_true rfl) dX2_ringOf_31 (fun H locs hP hD hS => ?_)
      obtain ⟨r_6, hr_6, h⟩ := bn_s h
      refine kcVi (As := [.int x3, .int r_5]) (rest := []) (ws' := (wV cy b0 vv [])) ⟨hx, hb, hml, hown, hts⟩ (cwV 2 hts gX2_ringOf_X2_lenderOf rfl rfl rfl ⟨rfl, eX2_lenderOf⟩ ⟨Nat.le_of_ble_eq_true rfl, Nat.le_of_ble_eq_true rfl⟩) (c_X2_lenderOf b0 hr_6) hK hP hD hS hA [0, 1, 2, 3, 4, 5, 6, 7] [] (by decide) rfl rfl 2 rfl rfl [(b0 0), (b0 1), (b0 2), (b0 3), (b0 4), (b0 5), (b0 6), (b0 7)] rfl rfl rfl [] rfl rfl rfl rfl hl.1 rfl (Nat.le_of_ble_eq_true rfl) dX2_ringOf_34 (fun H locs hP hD hS => ?_)
      refine lv_istore_n (lv' := [(3, .int r_6), (2, .int x2_4), (0, .ref (b0 0)), (1, .int x1), (4, .int x4)]) hx hb dX2_ringOf_37 rfl hl (by decide) rfl (fun ls hl => ?_)
      refine lv_iload_n hx hb dX2_ringOf_38 rfl (lv_at hl 0 rfl) ?_
      refine lv_iload_n hx hb dX2_ringOf_39 rfl (lv_at hl 3 rfl) ?_
      refine lv_icmp_ne (tgt := 45) hx hb dX2_ringOf_40 (by decide) (fun c_7 => ?_) (fun c_7 => ?_)
      · replace h := it_n c_7 h
        obtain ⟨x4_8, ex4_8⟩ : ∃ z : Int32, z = (x4 + (1 : Int32)) := ⟨_, rfl⟩
        replace h := nm_s h ex4_8
        refine lv_iinc (v := x4_8) (lv' := [(4, .int x4_8), (3, .int r_6), (2, .int x2_4), (0, .ref (b0 0)), (1, .int x1)]) hx hb dX2_ringOf_45 hl (k := 4) rfl (by rw [ex4_8]; rfl) (by decide) rfl (fun ls hl => ?_)
        refine lv_goto (tgt := 7) hx hb dX2_ringOf_48 (by decide) ?_
        cases h
        exact ih x2_4 r_6 x4_8 _ _ _ hm hP hD hS (lv_sub hl [3, 4, 2, 1, 0] rfl)
      · replace h := it_p c_7 h
        refine lv_iload_n hx hb dX2_ringOf_43 rfl (lv_at hl 1 rfl) ?_
        cases h
        have hm : _ = rr := hm
        subst hm
        exact kretI hx hb hr hlk hP hS dX2_ringOf_44
set_option maxHeartbeats 4000000 in
set_option maxRecDepth 100000 in
theorem w_X2_ringOf_0 {p : Program} {l : Launch} {e : Env} {s : State} {m : MethodId} {args : Array Value} {below : List Frame} {meth : Method} {c : Code} {A : Nat → Prop} {D : va_G} {cy : Nat → ClassId} {b0 : Nat → Nat} {vv : VS} {x1 : Int32} {fu : Nat} {rr : Int32} (M : kM p s m args meth c cX2_ringOf 5 (some .int) RX2 wsX2_ringOf A D cy) (ih : I_X2_ringOf p l e s m args below meth c A D cy b0 vv x1 fu rr)  {oo : (Int32 × Int32 × Int32) ⊕ (Int32)} (h : f_X2_ringOf_0 vv x1 = some oo) (hm : lpo (st_X2_ringOf vv x1) fu oo rr) {H : Heap} {locs : List Loc} {ls : Array Slot} (hP : va_P D vwCl (wV cy b0 vv []) H) (hD : va_D A (wV cy b0 vv [])) (hS : va_S A s.heap H locs) (hl : lv_has ls 5 [(0, .ref (b0 0)), (1, .int x1)]) : W p l e { frames := 3, cells := 0, slots := 0, locals := 70 } s m args below meth c H locs 0 0 (MQ below (qI D (wV cy b0 vv []) (rr) A) args s 0 0 A) (F0 m 0 ls []) := by
  obtain ⟨hx, hb, hr, hml, hown, hts, hlk, hA, hK⟩ := id M
  unfold f_X2_ringOf_0 at h
  refine lv_iconst (v := 0) hx hb dX2_ringOf_0 (by decide) ?_
  refine lv_istore_n (lv' := [(2, .int (0 : Int32)), (0, .ref (b0 0)), (1, .int x1)]) hx hb dX2_ringOf_1 rfl hl (by decide) rfl (fun ls hl => ?_)
  refine lv_iload_n hx hb dX2_ringOf_2 rfl (lv_at hl 2 rfl) ?_
  refine lv_istore_n (lv' := [(3, .int x1), (2, .int (0 : Int32)), (0, .ref (b0 0)), (1, .int x1)]) hx hb dX2_ringOf_3 rfl hl (by decide) rfl (fun ls hl => ?_)
  refine lv_iconst (v := 0) hx hb dX2_ringOf_4 (by decide) ?_
  refine lv_istore (lv' := [(4, .int (0 : Int32)), (3, .int x1), (2, .int (0 : Int32)), (0, .ref (b0 0)), (1, .int x1)]) hx hb dX2_ringOf_5 hl (by decide) rfl (fun ls hl => ?_)
  cases h
  exact ih (0 : Int32) x1 (0 : Int32) _ _ _ hm hP hD hS (lv_sub hl [3, 4, 2, 1, 0] rfl)
theorem wl_X2_ringOf {p : Program} {l : Launch} {e : Env} {s : State} {m : MethodId} {args : Array Value} {below : List Frame} {meth : Method} {c : Code} {A : Nat → Prop} {D : va_G} {cy : Nat → ClassId} {b0 : Nat → Nat} {vv : VS} {x1 : Int32} {rr : Int32} (M : kM p s m args meth c cX2_ringOf 5 (some .int) RX2 wsX2_ringOf A D cy) : ∀ fu : Nat, I_X2_ringOf p l e s m args below meth c A D cy b0 vv x1 fu rr := by
  intro fu
  induction fu with
  | zero => exact (fun _ _ _ _ _ _ h => by cases h)
  | succ fu ih =>
    exact fun x2 x3 x4 H locs ls h hP hD hS hl => by
      obtain ⟨o1, h1, h2⟩ := lpn_s h
      exact w_X2_ringOf_7 M ih h1 h2 hP hD hS hl
theorem c_X2_ringOf {l : Launch} {D : va_G} {cy : Nat → ClassId} (b0 : Nat → Nat) {vv : VS} {x1 : Int32} {rr : Int32} (h : f_X2_ringOf vv x1 = some rr) : CI l D cy yX2_ringOf wsX2_ringOf { frames := 3, cells := 0, slots := 0, locals := 70 } [.ref (b0 0), .int x1] (wV cy b0 vv []) (rr) (wV cy b0 vv []) := by
  refine kofI (cc := cX2_ringOf) (maxL := 5) (ret := (some .int)) (by decide) rfl (Nat.le_of_ble_eq_true rfl) ?_
  intro p e s m below meth c A M ls hl hP hD hS
  obtain ⟨o1, fu, h1, h2⟩ := rnx_s h
  exact w_X2_ringOf_0 M (wl_X2_ringOf M fu) h1 h2 hP hD hS hl
theorem eX2_ringOf : yX2_ringOf.cls ≠ "java/lang/invoke/MethodHandle" ∧ yX2_ringOf.cls ≠ "java/lang/invoke/VarHandle" ∧ (parseMethodDescriptor yX2_ringOf.desc).map (fun d => d.parameters.length) = some 1 := by decide +kernel
theorem mX2_setOffDues_1 : Cond.methodLink RX2 97 Lib.Math.min.name ∈ wsX2_setOffDues := by decide +kernel
theorem mX2_setOffDues_2 : Cond.static Lib.Math.min.name ∈ wsX2_setOffDues := by decide +kernel
theorem mX2_setOffDues_3 : Cond.initialized "java/lang/Math" ∈ wsX2_setOffDues := by decide +kernel
theorem mX2_setOffDues_4 : Cond.code Lib.Math.min.name Lib.Math.min.code 2 (some .int) ∈ wsX2_setOffDues := by decide +kernel
def I_X2_setOffDues (p : Program) (l : Launch) (e : Env) (s : State) (m : MethodId) (args : Array Value) (below : List Frame) (meth : Method) (c : Code) (A : Nat → Prop) (D : va_G) (cy : Nat → ClassId) (b0 : Nat → Nat) (x1 : Int32) (fu : Nat) (rr : Int32 × VS) : Prop := (∀ (vv : VS) (x2 : Int32) (x3 : Int32) (H : Heap) (locs : List Loc) (ls : Array Slot), lpn (st_X2_setOffDues x1) fu (.inl (vv, x2, x3)) = some rr → va_P D vwCl (wV cy b0 vv []) H → va_D A (wV cy b0 vv []) → va_S A s.heap H locs → lv_has ls 4 [(0, .ref (b0 0)), (1, .int x1), (2, .int x2), (3, .int x3)] → W p l e { frames := 3, cells := 0, slots := 0, locals := 70 } s m args below meth c H locs 0 0 (MQ below (qI D (wV cy b0 rr.2 []) (rr.1) A) args s 0 0 A) (F0 m 6 ls [])) ∧ (∀ (vv : VS) (x2 : Int32) (x3 : Int32) (H : Heap) (locs : List Loc) (ls : Array Slot), lpn (st_X2_setOffDues x1) fu (.inr (vv, x2, x3)) = some rr → va_P D vwCl (wV cy b0 vv []) H → va_D A (wV cy b0 vv []) → va_S A s.heap H locs → lv_has ls 4 [(0, .ref (b0 0)), (1, .int x1), (2, .int x2), (3, .int x3)] → W p l e { frames := 3, cells := 0, slots := 0, locals := 70 } s m args below meth c H locs 0 0 (MQ below (qI D (wV cy b0 rr.2 []) (rr.1) A) args s 0 0 A) (F0 m 43 ls []))
set_option maxHeartbeats 4000000 in
set_option maxRecDepth 100000 in
theorem w_X2_setOffDues_43 {p : Program} {l : Launch} {e : Env} {s : State} {m : MethodId} {args : Array Value} {below : List Frame} {meth : Method} {c : Code} {A : Nat → Prop} {D : va_G} {cy : Nat → ClassId} {b0 : Nat → Nat} {x1 : Int32} {fu : Nat} {rr : Int32 × VS} (M : kM p s m args meth c cX2_setOffDues 4 (some .int) RX2 wsX2_setOffDues A D cy) (ih : I_X2_setOffDues p l e s m args below meth c A D cy b0 x1 fu rr) {vv : VS} {x2 : Int32} {x3 : Int32} {oo : ((VS × Int32 × Int32) ⊕ (VS × Int32 × Int32)) ⊕ (Int32 × VS)} (h : f_X2_setOffDues_43 x1 vv x2 x3 = some oo) (hm : lpo (st_X2_setOffDues x1) fu oo rr) {H : Heap} {locs : List Loc} {ls : Array Slot} (hP : va_P D vwCl (wV cy b0 vv []) H) (hD : va_D A (wV cy b0 vv [])) (hS : va_S A s.heap H locs) (hl : lv_has ls 4 [(0, .ref (b0 0)), (1, .int x1), (2, .int x2), (3, .int x3)]) : W p l e { frames := 3, cells := 0, slots := 0, locals := 70 } s m args below meth c H locs 0 0 (MQ below (qI D (wV cy b0 rr.2 []) (rr.1) A) args s 0 0 A) (F0 m 43 ls []) := by
  obtain ⟨hx, hb, hr, hml, hown, hts, hlk, hA, hK⟩ := id M
  unfold f_X2_setOffDues_43 at h
  refine lv_iload_n hx hb dX2_setOffDues_43 rfl (lv_at hl 3 rfl) ?_
  refine lv_bipush (v := 6) hx hb dX2_setOffDues_44 (by decide) ?_
  refine lv_icmp_ge (tgt := 74) hx hb dX2_setOffDues_46 (by decide) (fun c_1 => ?_) (fun c_1 => ?_)
  · replace h := it_p c_1 h
    refine lv_iload_n hx hb dX2_setOffDues_74 rfl (lv_at hl 2 rfl) ?_
    cases h
    have hm : _ = rr := hm
    subst hm
    exact kretI hx hb hr hlk hP hS dX2_setOffDues_75
  · replace h := it_n c_1 h
    refine lv_iload_n hx hb dX2_setOffDues_49 rfl (lv_at hl 1 rfl) ?_
    refine lv_iconst (v := 1) hx hb dX2_setOffDues_50 (by decide) ?_
    refine lv_iload_n hx hb dX2_setOffDues_51 rfl (lv_at hl 3 rfl) ?_
    refine lv_ishl hx hb dX2_setOffDues_52 ?_
    refine lv_iand hx hb dX2_setOffDues_53 ?_
    refine lv_if_eq (tgt := 68) hx hb dX2_setOffDues_54 (by decide) (fun c_2 => ?_) (fun c_2 => ?_)
    · replace h := it_p c_2 h
      obtain ⟨x3_3, ex3_3⟩ : ∃ z : Int32, z = (x3 + (1 : Int32)) := ⟨_, rfl⟩
      replace h := nm_s h ex3_3
      refine lv_iinc (v := x3_3) (lv' := [(3, .int x3_3), (0, .ref (b0 0)), (1, .int x1), (2, .int x2)]) hx hb dX2_setOffDues_68 hl (k := 3) rfl (by rw [ex3_3]; rfl) (by decide) rfl (fun ls hl => ?_)
      refine lv_goto (tgt := 43) hx hb dX2_setOffDues_71 (by decide) ?_
      cases h
      exact ih.2 vv x2 x3_3 _ _ _ hm hP hD hS (lv_sub hl [1, 2, 3, 0] rfl)
    · replace h := it_n c_2 h
      refine lv_aload_n hx hb dX2_setOffDues_57 rfl (lv_at hl 0 rfl) ?_
      refine lv_iload_n hx hb dX2_setOffDues_58 rfl (lv_at hl 3 rfl) ?_
      refine lv_aload_n hx hb dX2_setOffDues_59 rfl (lv_at hl 0 rfl) ?_
      refine lv_iload_n hx hb dX2_setOffDues_60 rfl (lv_at hl 3 rfl) ?_
      obtain ⟨r_4, hr_4, h⟩ := bn_s h
      refine kcVi (As := [.int x3]) (rest := [.int x3, .ref (b0 0)]) (ws' := (wV cy b0 vv [])) ⟨hx, hb, hml, hown, hts⟩ (cwV 1 hts gX2_setOffDues_X2_dueOf rfl rfl rfl ⟨rfl, eX2_dueOf⟩ ⟨Nat.le_of_ble_eq_true rfl, Nat.le_of_ble_eq_true rfl⟩) (c_X2_dueOf b0 hr_4) hK hP hD hS hA [0, 1, 2, 3, 4, 5, 6, 7] [] (by decide) rfl rfl 2 rfl rfl [(b0 0), (b0 1), (b0 2), (b0 3), (b0 4), (b0 5), (b0 6), (b0 7)] rfl rfl rfl [] rfl rfl rfl rfl hl.1 rfl (Nat.le_of_ble_eq_true rfl) dX2_setOffDues_61 (fun H locs hP hD hS => ?_)
      refine lv_iload_n hx hb dX2_setOffDues_64 rfl (lv_at hl 2 rfl) ?_
      obtain ⟨r_5, hr_5, h⟩ := bn_s h
      refine kcVv (As := [.int x3, .int r_4, .int x2]) (rest := []) (ws' := (wV cy b0 r_5 [])) ⟨hx, hb, hml, hown, hts⟩ (cwV 3 hts gX2_setOffDues_X2_lower rfl rfl rfl ⟨rfl, eX2_lower⟩ ⟨Nat.le_of_ble_eq_true rfl, Nat.le_of_ble_eq_true rfl⟩) (c_X2_lower b0 hr_5) hK hP hD hS hA [0, 1, 2, 3, 4, 5, 6, 7] [] (by decide) rfl rfl 2 rfl rfl [(b0 0), (b0 1), (b0 2), (b0 3), (b0 4), (b0 5), (b0 6), (b0 7)] rfl rfl rfl [] rfl rfl rfl rfl hl.1 rfl (Nat.le_of_ble_eq_true rfl) dX2_setOffDues_65 (fun H locs hP hD hS => ?_)
      obtain ⟨x3_6, ex3_6⟩ : ∃ z : Int32, z = (x3 + (1 : Int32)) := ⟨_, rfl⟩
      replace h := nm_s h ex3_6
      refine lv_iinc (v := x3_6) (lv' := [(3, .int x3_6), (0, .ref (b0 0)), (1, .int x1), (2, .int x2)]) hx hb dX2_setOffDues_68 hl (k := 3) rfl (by rw [ex3_6]; rfl) (by decide) rfl (fun ls hl => ?_)
      refine lv_goto (tgt := 43) hx hb dX2_setOffDues_71 (by decide) ?_
      cases h
      exact ih.2 r_5 x2 x3_6 _ _ _ hm hP hD hS (lv_sub hl [1, 2, 3, 0] rfl)
set_option maxHeartbeats 4000000 in
set_option maxRecDepth 100000 in
theorem w_X2_setOffDues_6 {p : Program} {l : Launch} {e : Env} {s : State} {m : MethodId} {args : Array Value} {below : List Frame} {meth : Method} {c : Code} {A : Nat → Prop} {D : va_G} {cy : Nat → ClassId} {b0 : Nat → Nat} {x1 : Int32} {fu : Nat} {rr : Int32 × VS} (M : kM p s m args meth c cX2_setOffDues 4 (some .int) RX2 wsX2_setOffDues A D cy) (ih : I_X2_setOffDues p l e s m args below meth c A D cy b0 x1 fu rr) {vv : VS} {x2 : Int32} {x3 : Int32} {oo : ((VS × Int32 × Int32) ⊕ (VS × Int32 × Int32)) ⊕ (Int32 × VS)} (h : f_X2_setOffDues_6 x1 vv x2 x3 = some oo) (hm : lpo (st_X2_setOffDues x1) fu oo rr) {H : Heap} {locs : List Loc} {ls : Array Slot} (hP : va_P D vwCl (wV cy b0 vv []) H) (hD : va_D A (wV cy b0 vv [])) (hS : va_S A s.heap H locs) (hl : lv_has ls 4 [(0, .ref (b0 0)), (1, .int x1), (2, .int x2), (3, .int x3)]) : W p l e { frames := 3, cells := 0, slots := 0, locals := 70 } s m args below meth c H locs 0 0 (MQ below (qI D (wV cy b0 rr.2 []) (rr.1) A) args s 0 0 A) (F0 m 6 ls []) := by
  obtain ⟨hx, hb, hr, hml, hown, hts, hlk, hA, hK⟩ := id M
  unfold f_X2_setOffDues_6 at h
  refine lv_iload_n hx hb dX2_setOffDues_6 rfl (lv_at hl 3 rfl) ?_
  refine lv_bipush (v := 6) hx hb dX2_setOffDues_7 (by decide) ?_
  refine lv_icmp_ge (tgt := 41) hx hb dX2_setOffDues_9 (by decide) (fun c_1 => ?_) (fun c_1 => ?_)
  · replace h := it_p c_1 h
    refine lv_iconst (v := 0) hx hb dX2_setOffDues_41 (by decide) ?_
    refine lv_istore_n (lv' := [(3, .int (0 : Int32)), (0, .ref (b0 0)), (1, .int x1), (2, .int x2)]) hx hb dX2_setOffDues_42 rfl hl (by decide) rfl (fun ls hl => ?_)
    cases h
    exact ih.2 vv x2 (0 : Int32) _ _ _ hm hP hD hS (lv_sub hl [1, 2, 3, 0] rfl)
  · replace h := it_n c_1 h
    refine lv_iload_n hx hb dX2_setOffDues_12 rfl (lv_at hl 1 rfl) ?_
    refine lv_iconst (v := 1) hx hb dX2_setOffDues_13 (by decide) ?_
    refine lv_iload_n hx hb dX2_setOffDues_14 rfl (lv_at hl 3 rfl) ?_
    refine lv_ishl hx hb dX2_setOffDues_15 ?_
    refine lv_iand hx hb dX2_setOffDues_16 ?_
    refine lv_if_eq (tgt := 35) hx hb dX2_setOffDues_17 (by decide) (fun c_2 => ?_) (fun c_2 => ?_)
    · replace h := it_p c_2 h
      obtain ⟨x3_3, ex3_3⟩ : ∃ z : Int32, z = (x3 + (1 : Int32)) := ⟨_, rfl⟩
      replace h := nm_s h ex3_3
      refine lv_iinc (v := x3_3) (lv' := [(3, .int x3_3), (0, .ref (b0 0)), (1, .int x1), (2, .int x2)]) hx hb dX2_setOffDues_35 hl (k := 3) rfl (by rw [ex3_3]; rfl) (by decide) rfl (fun ls hl => ?_)
      refine lv_goto (tgt := 6) hx hb dX2_setOffDues_38 (by decide) ?_
      cases h
      exact ih.1 vv x2 x3_3 _ _ _ hm hP hD hS (lv_sub hl [1, 2, 3, 0] rfl)
    · replace h := it_n c_2 h
      refine lv_iload_n hx hb dX2_setOffDues_20 rfl (lv_at hl 2 rfl) ?_
      refine lv_aload_n hx hb dX2_setOffDues_21 rfl (lv_at hl 0 rfl) ?_
      refine lv_iload_n hx hb dX2_setOffDues_22 rfl (lv_at hl 3 rfl) ?_
      refine lv_aload_n hx hb dX2_setOffDues_23 rfl (lv_at hl 0 rfl) ?_
      refine lv_iload_n hx hb dX2_setOffDues_24 rfl (lv_at hl 3 rfl) ?_
      obtain ⟨r_4, hr_4, h⟩ := bn_s h
      refine kcVi (As := [.int x3]) (rest := [.int x3, .ref (b0 0), .int x2]) (ws' := (wV cy b0 vv [])) ⟨hx, hb, hml, hown, hts⟩ (cwV 1 hts gX2_setOffDues_X2_dueOf rfl rfl rfl ⟨rfl, eX2_dueOf⟩ ⟨Nat.le_of_ble_eq_true rfl, Nat.le_of_ble_eq_true rfl⟩) (c_X2_dueOf b0 hr_4) hK hP hD hS hA [0, 1, 2, 3, 4, 5, 6, 7] [] (by decide) rfl rfl 2 rfl rfl [(b0 0), (b0 1), (b0 2), (b0 3), (b0 4), (b0 5), (b0 6), (b0 7)] rfl rfl rfl [] rfl rfl rfl rfl hl.1 rfl (Nat.le_of_ble_eq_true rfl) dX2_setOffDues_25 (fun H locs hP hD hS => ?_)
      obtain ⟨r_5, hr_5, h⟩ := bn_s h
      refine kcVi (As := [.int x3, .int r_4]) (rest := [.int x2]) (ws' := (wV cy b0 vv [])) ⟨hx, hb, hml, hown, hts⟩ (cwV 2 hts gX2_setOffDues_X2_penceOf rfl rfl rfl ⟨rfl, eX2_penceOf⟩ ⟨Nat.le_of_ble_eq_true rfl, Nat.le_of_ble_eq_true rfl⟩) (c_X2_penceOf b0 hr_5) hK hP hD hS hA [0, 1, 2, 3, 4, 5, 6, 7] [] (by decide) rfl rfl 2 rfl rfl [(b0 0), (b0 1), (b0 2), (b0 3), (b0 4), (b0 5), (b0 6), (b0 7)] rfl rfl rfl [] rfl rfl rfl rfl hl.1 rfl (Nat.le_of_ble_eq_true rfl) dX2_setOffDues_28 (fun H locs hP hD hS => ?_)
      refine va_mmin hx hb (hml.trans hl.1.symm) hown (hts _ mX2_setOffDues_1) (hts _ mX2_setOffDues_2) (hts _ mX2_setOffDues_3) (hts _ mX2_setOffDues_4) (Nat.le_of_ble_eq_true rfl) (Nat.le_of_ble_eq_true rfl) (Nat.zero_le _) (Nat.zero_le _) dX2_setOffDues_31 ?_
      refine lv_topi (fun t_6 et_6 => ?_)
      replace h := nm_s h et_6
      refine lv_istore_n (lv' := [(2, .int t_6), (0, .ref (b0 0)), (1, .int x1), (3, .int x3)]) hx hb dX2_setOffDues_34 rfl hl (by decide) rfl (fun ls hl => ?_)
      obtain ⟨x3_7, ex3_7⟩ : ∃ z : Int32, z = (x3 + (1 : Int32)) := ⟨_, rfl⟩
      replace h := nm_s h ex3_7
      refine lv_iinc (v := x3_7) (lv' := [(3, .int x3_7), (2, .int t_6), (0, .ref (b0 0)), (1, .int x1)]) hx hb dX2_setOffDues_35 hl (k := 3) rfl (by rw [ex3_7]; rfl) (by decide) rfl (fun ls hl => ?_)
      refine lv_goto (tgt := 6) hx hb dX2_setOffDues_38 (by decide) ?_
      cases h
      exact ih.1 vv t_6 x3_7 _ _ _ hm hP hD hS (lv_sub hl [2, 3, 1, 0] rfl)
set_option maxHeartbeats 4000000 in
set_option maxRecDepth 100000 in
theorem w_X2_setOffDues_0 {p : Program} {l : Launch} {e : Env} {s : State} {m : MethodId} {args : Array Value} {below : List Frame} {meth : Method} {c : Code} {A : Nat → Prop} {D : va_G} {cy : Nat → ClassId} {b0 : Nat → Nat} {x1 : Int32} {fu : Nat} {rr : Int32 × VS} (M : kM p s m args meth c cX2_setOffDues 4 (some .int) RX2 wsX2_setOffDues A D cy) (ih : I_X2_setOffDues p l e s m args below meth c A D cy b0 x1 fu rr) {vv : VS} {oo : ((VS × Int32 × Int32) ⊕ (VS × Int32 × Int32)) ⊕ (Int32 × VS)} (h : f_X2_setOffDues_0 vv x1 = some oo) (hm : lpo (st_X2_setOffDues x1) fu oo rr) {H : Heap} {locs : List Loc} {ls : Array Slot} (hP : va_P D vwCl (wV cy b0 vv []) H) (hD : va_D A (wV cy b0 vv [])) (hS : va_S A s.heap H locs) (hl : lv_has ls 4 [(0, .ref (b0 0)), (1, .int x1)]) : W p l e { frames := 3, cells := 0, slots := 0, locals := 70 } s m args below meth c H locs 0 0 (MQ below (qI D (wV cy b0 rr.2 []) (rr.1) A) args s 0 0 A) (F0 m 0 ls []) := by
  obtain ⟨hx, hb, hr, hml, hown, hts, hlk, hA, hK⟩ := id M
  unfold f_X2_setOffDues_0 at h
  refine lv_sipush (v := 9999) hx hb dX2_setOffDues_0 (by decide) ?_
  refine lv_istore_n (lv' := [(2, .int (9999 : Int32)), (0, .ref (b0 0)), (1, .int x1)]) hx hb dX2_setOffDues_3 rfl hl (by decide) rfl (fun ls hl => ?_)
  refine lv_iconst (v := 0) hx hb dX2_setOffDues_4 (by decide) ?_
  refine lv_istore_n (lv' := [(3, .int (0 : Int32)), (2, .int (9999 : Int32)), (0, .ref (b0 0)), (1, .int x1)]) hx hb dX2_setOffDues_5 rfl hl (by decide) rfl (fun ls hl => ?_)
  cases h
  exact ih.1 vv (9999 : Int32) (0 : Int32) _ _ _ hm hP hD hS (lv_sub hl [2, 3, 1, 0] rfl)
theorem wl_X2_setOffDues {p : Program} {l : Launch} {e : Env} {s : State} {m : MethodId} {args : Array Value} {below : List Frame} {meth : Method} {c : Code} {A : Nat → Prop} {D : va_G} {cy : Nat → ClassId} {b0 : Nat → Nat} {x1 : Int32} {rr : Int32 × VS} (M : kM p s m args meth c cX2_setOffDues 4 (some .int) RX2 wsX2_setOffDues A D cy) : ∀ fu : Nat, I_X2_setOffDues p l e s m args below meth c A D cy b0 x1 fu rr := by
  intro fu
  induction fu with
  | zero => exact ⟨(fun _ _ _ _ _ _ h => by cases h), (fun _ _ _ _ _ _ h => by cases h)⟩
  | succ fu ih =>
    refine ⟨?_, ?_⟩
    · intro vv x2 x3 H locs ls h hP hD hS hl
      obtain ⟨o1, h1, h2⟩ := lpn_s h
      exact w_X2_setOffDues_6 M ih h1 h2 hP hD hS hl
    · intro vv x2 x3 H locs ls h hP hD hS hl
      obtain ⟨o1, h1, h2⟩ := lpn_s h
      exact w_X2_setOffDues_43 M ih h1 h2 hP hD hS hl
theorem c_X2_setOffDues {l : Launch} {D : va_G} {cy : Nat → ClassId} (b0 : Nat → Nat) {vv : VS} {x1 : Int32} {rr : Int32 × VS} (h : f_X2_setOffDues vv x1 = some rr) : CI l D cy yX2_setOffDues wsX2_setOffDues { frames := 3, cells := 0, slots := 0, locals := 70 } [.ref (b0 0), .int x1] (wV cy b0 vv []) (rr.1) (wV cy b0 rr.2 []) := by
  refine kofI (cc := cX2_setOffDues) (maxL := 4) (ret := (some .int)) (by decide) rfl (Nat.le_of_ble_eq_true rfl) ?_
  intro p e s m below meth c A M ls hl hP hD hS
  obtain ⟨o1, fu, h1, h2⟩ := rnx_s h
  exact w_X2_setOffDues_0 M (wl_X2_setOffDues M fu) h1 h2 hP hD hS hl
theorem eX2_setOffDues : yX2_setOffDues.cls ≠ "java/lang/invoke/MethodHandle" ∧ yX2_setOffDues.cls ≠ "java/lang/invoke/VarHandle" ∧ (parseMethodDescriptor yX2_setOffDues.desc).map (fun d => d.parameters.length) = some 1 := by decide +kernel
theorem iX2_sightsHold_X2 : ∀ w ∈ u_ws RX2 TX2 11, w ∈ wsX2_sightsHold := by decide +kernel
theorem mX2_sightsHold_1 : Cond.fieldLink RX2 39 "LentPiles$Valley" "sights" "I" ∈ wsX2_sightsHold := by decide +kernel
theorem mX2_sightsHold_2 : Cond.fieldLink RX2 33 "LentPiles$Valley" "sightMan" "[I" ∈ wsX2_sightsHold := by decide +kernel
theorem mX2_sightsHold_3 : Cond.fieldLink RX2 36 "LentPiles$Valley" "sightPence" "[I" ∈ wsX2_sightsHold := by decide +kernel
def I_X2_sightsHold (p : Program) (l : Launch) (e : Env) (s : State) (m : MethodId) (args : Array Value) (below : List Frame) (meth : Method) (c : Code) (A : Nat → Prop) (D : va_G) (cy : Nat → ClassId) (b0 : Nat → Nat) (vv : VS) (fu : Nat) (rr : Int32) : Prop := (∀ (x1 : Int32) (H : Heap) (locs : List Loc) (ls : Array Slot), lpn (st_X2_sightsHold vv) fu x1 = some rr → va_P D vwCl (wV cy b0 vv []) H → va_D A (wV cy b0 vv []) → va_S A s.heap H locs → lv_has ls 2 [(0, .ref (b0 0)), (1, .int x1)] → W p l e { frames := 2, cells := 0, slots := 0, locals := 41 } s m args below meth c H locs 0 0 (MQ below (qI D (wV cy b0 vv []) (rr) A) args s 0 0 A) (F0 m 2 ls []))
set_option maxHeartbeats 4000000 in
set_option maxRecDepth 100000 in
theorem w_X2_sightsHold_2 {p : Program} {l : Launch} {e : Env} {s : State} {m : MethodId} {args : Array Value} {below : List Frame} {meth : Method} {c : Code} {A : Nat → Prop} {D : va_G} {cy : Nat → ClassId} {b0 : Nat → Nat} {vv : VS} {fu : Nat} {rr : Int32} (M : kM p s m args meth c cX2_sightsHold 2 (some .boolean) RX2 wsX2_sightsHold A D cy) (ih : I_X2_sightsHold p l e s m args below meth c A D cy b0 vv fu rr) {x1 : Int32} {oo : (Int32) ⊕ (Int32)} (h : f_X2_sightsHold_2 vv x1 = some oo) (hm : lpo (st_X2_sightsHold vv) fu oo rr) {H : Heap} {locs : List Loc} {ls : Array Slot} (hP : va_P D vwCl (wV cy b0 vv []) H) (hD : va_D A (wV cy b0 vv [])) (hS : va_S A s.heap H locs) (hl : lv_has ls 2 [(0, .ref (b0 0)), (1, .int x1)]) : W p l e { frames := 2, cells := 0, slots := 0, locals := 41 } s m args below meth c H locs 0 0 (MQ below (qI D (wV cy b0 vv []) (rr) A) args s 0 0 A) (F0 m 2 ls []) := by
  obtain ⟨hx, hb, hr, hml, hown, hts, hlk, hA, hK⟩ := id M
  unfold f_X2_sightsHold_2 at h
  refine lv_iload_n hx hb dX2_sightsHold_2 rfl (lv_at hl 1 rfl) ?_
  refine lv_aload_n hx hb dX2_sightsHold_3 rfl (lv_at hl 0 rfl) ?_
  refine va_get (D := D) (ci := 2) (v := .int vv.2.2.2.2.2.2.2.1) (C := RX2) (T := TX2) (N := 11) hx hb hts iX2_sightsHold_X2 hown hK.1 hP 0 rfl rfl 7 (by decide) (hts _ mX2_sightsHold_1) (fun _ h9 => h9) rfl dX2_sightsHold_4 ?_
  refine lv_icmp_ge (tgt := 43) hx hb dX2_sightsHold_7 (by decide) (fun c_1 => ?_) (fun c_1 => ?_)
  · replace h := it_p c_1 h
    refine lv_iconst (v := 1) hx hb dX2_sightsHold_43 (by decide) ?_
    cases h
    have hm : _ = rr := hm
    subst hm
    exact kretZ (r0 := (1 : Int32)) (ty := .boolean) hx hb hr hlk hP hS (by decide) dX2_sightsHold_44
  · replace h := it_n c_1 h
    refine lv_iload_n hx hb dX2_sightsHold_10 rfl (lv_at hl 1 rfl) ?_
    refine lv_bipush (v := 6) hx hb dX2_sightsHold_11 (by decide) ?_
    refine lv_icmp_ge (tgt := 43) hx hb dX2_sightsHold_13 (by decide) (fun c_2 => ?_) (fun c_2 => ?_)
    · replace h := it_p c_2 h
      refine lv_iconst (v := 1) hx hb dX2_sightsHold_43 (by decide) ?_
      cases h
      have hm : _ = rr := hm
      subst hm
      exact kretZ (r0 := (1 : Int32)) (ty := .boolean) hx hb hr hlk hP hS (by decide) dX2_sightsHold_44
    · replace h := it_n c_2 h
      refine lv_aload_n hx hb dX2_sightsHold_16 rfl (lv_at hl 0 rfl) ?_
      refine lv_aload_n hx hb dX2_sightsHold_17 rfl (lv_at hl 0 rfl) ?_
      refine va_get (D := D) (ci := 2) (v := .ref (b0 6)) (C := RX2) (T := TX2) (N := 11) hx hb hts iX2_sightsHold_X2 hown hK.1 hP 0 rfl rfl 5 (by decide) (hts _ mX2_sightsHold_2) (fun _ h9 => h9) rfl dX2_sightsHold_18 ?_
      refine lv_iload_n hx hb dX2_sightsHold_21 rfl (lv_at hl 1 rfl) ?_
      obtain ⟨b_3, h⟩ := ck_s h
      refine va_iald hx hb hK.1 hP 6 1 rfl rfl b_3 dX2_sightsHold_22 ?_
      obtain ⟨r_4, hr_4, h⟩ := bn_s h
      refine kcVi (As := [.int (vv.2.2.2.2.2.1 x1.toNatClampNeg)]) (rest := []) (ws' := (wV cy b0 vv [])) ⟨hx, hb, hml, hown, hts⟩ (cwV 1 hts gX2_sightsHold_X2_purseOf rfl rfl rfl ⟨rfl, eX2_purseOf⟩ ⟨Nat.le_of_ble_eq_true rfl, Nat.le_of_ble_eq_true rfl⟩) (c_X2_purseOf b0 hr_4) hK hP hD hS hA [0, 1, 2, 3, 4, 5, 6, 7] [] (by decide) rfl rfl 2 rfl rfl [(b0 0), (b0 1), (b0 2), (b0 3), (b0 4), (b0 5), (b0 6), (b0 7)] rfl rfl rfl [] rfl rfl rfl rfl hl.1 rfl (Nat.le_of_ble_eq_true rfl) dX2_sightsHold_23 (fun H locs hP hD hS => ?_)
      refine lv_aload_n hx hb dX2_sightsHold_26 rfl (lv_at hl 0 rfl) ?_
      refine va_get (D := D) (ci := 2) (v := .ref (b0 7)) (C := RX2) (T := TX2) (N := 11) hx hb hts iX2_sightsHold_X2 hown hK.1 hP 0 rfl rfl 6 (by decide) (hts _ mX2_sightsHold_3) (fun _ h9 => h9) rfl dX2_sightsHold_27 ?_
      refine lv_iload_n hx hb dX2_sightsHold_30 rfl (lv_at hl 1 rfl) ?_
      refine va_iald hx hb hK.1 hP 7 1 rfl rfl b_3 dX2_sightsHold_31 ?_
      refine lv_icmp_eq (tgt := 37) hx hb dX2_sightsHold_32 (by decide) (fun c_5 => ?_) (fun c_5 => ?_)
      · replace h := it_p c_5 h
        obtain ⟨x1_6, ex1_6⟩ : ∃ z : Int32, z = (x1 + (1 : Int32)) := ⟨_, rfl⟩
        replace h := nm_s h ex1_6
        refine lv_iinc (v := x1_6) (lv' := [(1, .int x1_6), (0, .ref (b0 0))]) hx hb dX2_sightsHold_37 hl (k := 1) rfl (by rw [ex1_6]; rfl) (by decide) rfl (fun ls hl => ?_)
        refine lv_goto (tgt := 2) hx hb dX2_sightsHold_40 (by decide) ?_
        cases h
        exact ih x1_6 _ _ _ hm hP hD hS (lv_sub hl [1, 0] rfl)
      · replace h := it_n c_5 h
        refine lv_iconst (v := 0) hx hb dX2_sightsHold_35 (by decide) ?_
        cases h
        have hm : _ = rr := hm
        subst hm
        exact kretZ (r0 := (0 : Int32)) (ty := .boolean) hx hb hr hlk hP hS (by decide) dX2_sightsHold_36
set_option maxHeartbeats 4000000 in
set_option maxRecDepth 100000 in
theorem w_X2_sightsHold_0 {p : Program} {l : Launch} {e : Env} {s : State} {m : MethodId} {args : Array Value} {below : List Frame} {meth : Method} {c : Code} {A : Nat → Prop} {D : va_G} {cy : Nat → ClassId} {b0 : Nat → Nat} {vv : VS} {fu : Nat} {rr : Int32} (M : kM p s m args meth c cX2_sightsHold 2 (some .boolean) RX2 wsX2_sightsHold A D cy) (ih : I_X2_sightsHold p l e s m args below meth c A D cy b0 vv fu rr)  {oo : (Int32) ⊕ (Int32)} (h : f_X2_sightsHold_0 vv = some oo) (hm : lpo (st_X2_sightsHold vv) fu oo rr) {H : Heap} {locs : List Loc} {ls : Array Slot} (hP : va_P D vwCl (wV cy b0 vv []) H) (hD : va_D A (wV cy b0 vv [])) (hS : va_S A s.heap H locs) (hl : lv_has ls 2 [(0, .ref (b0 0))]) : W p l e { frames := 2, cells := 0, slots := 0, locals := 41 } s m args below meth c H locs 0 0 (MQ below (qI D (wV cy b0 vv []) (rr) A) args s 0 0 A) (F0 m 0 ls []) := by
  obtain ⟨hx, hb, hr, hml, hown, hts, hlk, hA, hK⟩ := id M
  unfold f_X2_sightsHold_0 at h
  refine lv_iconst (v := 0) hx hb dX2_sightsHold_0 (by decide) ?_
  refine lv_istore_n (lv' := [(1, .int (0 : Int32)), (0, .ref (b0 0))]) hx hb dX2_sightsHold_1 rfl hl (by decide) rfl (fun ls hl => ?_)
  cases h
  exact ih (0 : Int32) _ _ _ hm hP hD hS (lv_sub hl [1, 0] rfl)
theorem wl_X2_sightsHold {p : Program} {l : Launch} {e : Env} {s : State} {m : MethodId} {args : Array Value} {below : List Frame} {meth : Method} {c : Code} {A : Nat → Prop} {D : va_G} {cy : Nat → ClassId} {b0 : Nat → Nat} {vv : VS} {rr : Int32} (M : kM p s m args meth c cX2_sightsHold 2 (some .boolean) RX2 wsX2_sightsHold A D cy) : ∀ fu : Nat, I_X2_sightsHold p l e s m args below meth c A D cy b0 vv fu rr := by
  intro fu
  induction fu with
  | zero => exact (fun _ _ _ _ h => by cases h)
  | succ fu ih =>
    exact fun x1 H locs ls h hP hD hS hl => by
      obtain ⟨o1, h1, h2⟩ := lpn_s h
      exact w_X2_sightsHold_2 M ih h1 h2 hP hD hS hl
theorem c_X2_sightsHold {l : Launch} {D : va_G} {cy : Nat → ClassId} (b0 : Nat → Nat) {vv : VS} {rr : Int32} (h : f_X2_sightsHold vv = some rr) : CI l D cy yX2_sightsHold wsX2_sightsHold { frames := 2, cells := 0, slots := 0, locals := 41 } [.ref (b0 0)] (wV cy b0 vv []) (rr) (wV cy b0 vv []) := by
  refine kofI (cc := cX2_sightsHold) (maxL := 2) (ret := (some .boolean)) (by decide) rfl (Nat.le_of_ble_eq_true rfl) ?_
  intro p e s m below meth c A M ls hl hP hD hS
  obtain ⟨o1, fu, h1, h2⟩ := rnx_s h
  exact w_X2_sightsHold_0 M (wl_X2_sightsHold M fu) h1 h2 hP hD hS hl
theorem eX2_sightsHold : yX2_sightsHold.cls ≠ "java/lang/invoke/MethodHandle" ∧ yX2_sightsHold.cls ≠ "java/lang/invoke/VarHandle" ∧ (parseMethodDescriptor yX2_sightsHold.desc).map (fun d => d.parameters.length) = some 0 := by decide +kernel
