/-! printed by wip/gen/gen.py: the walks -/
theorem iX3_barred_X3 : ∀ w ∈ u_ws RX3 TX3 8, w ∈ wsX3_barred := by decide +kernel
theorem mX3_barred_1 : Cond.fieldLink RX3 35 "LentPiles" "payings" "LLentPiles$Payings;" ∈ wsX3_barred := by decide +kernel
theorem mX3_barred_2 : Cond.fieldLink RX3 12 "LentPiles" "now" "LLentPiles$Valley;" ∈ wsX3_barred := by decide +kernel
set_option maxHeartbeats 4000000 in
set_option maxRecDepth 100000 in
theorem w_X3_barred_0 {p : Program} {l : Launch} {e : Env} {s : State} {m : MethodId} {args : Array Value} {below : List Frame} {meth : Method} {c : Code} {A : Nat → Prop} {D : va_G} {cy : Nat → ClassId} {x0 : Nat} {r1 : Nat} {r2 : Nat} {r3 : Nat} {r4 : Nat} {r6 : Nat} {b1 : Nat → Nat} {b2 : Nat → Nat} {kx : Int32} {vv : VS} {rr : Int32 × YS} (M : kM p s m args meth c cX3_barred 1 (some .int) RX3 wsX3_barred A D cy) {yv : YS} (h : f_X3_barred vv yv = some rr) {H : Heap} {locs : List Loc} {ls : Array Slot} (hP : va_P D vwCl (wX x0 (b1 0) r1 r2 r3 r4 (b2 0) r6 kx (wV cy b1 vv (wY cy b2 yv []))) H) (hD : va_D A (wX x0 (b1 0) r1 r2 r3 r4 (b2 0) r6 kx (wV cy b1 vv (wY cy b2 yv [])))) (hS : va_S A s.heap H locs) (hl : lv_has ls 1 [(0, .ref x0)]) : W p l e { frames := 4, cells := 0, slots := 0, locals := 96 } s m args below meth c H locs 0 0 (MQ below (qI D (wX x0 (b1 0) r1 r2 r3 r4 (b2 0) r6 kx (wV cy b1 vv (wY cy b2 rr.2 []))) (rr.1) A) args s 0 0 A) (F0 m 0 ls []) := by
  obtain ⟨hx, hb, hr, hml, hown, hts, hlk, hA, hK⟩ := id M
  unfold f_X3_barred at h
  refine lv_aload_n hx hb dX3_barred_0 rfl (lv_at hl 0 rfl) ?_
  refine va_get (D := D) (ci := 3) (v := .ref (b2 0)) (C := RX3) (T := TX3) (N := 8) hx hb hts iX3_barred_X3 hown hK.1 hP 0 rfl rfl 5 (by decide) (hts _ mX3_barred_1) (fun _ h9 => h9) rfl dX3_barred_1 ?_
  refine lv_aload_n hx hb dX3_barred_4 rfl (lv_at hl 0 rfl) ?_
  refine va_get (D := D) (ci := 3) (v := .ref (b1 0)) (C := RX3) (T := TX3) (N := 8) hx hb hts iX3_barred_X3 hown hK.1 hP 0 rfl rfl 0 (by decide) (hts _ mX3_barred_2) (fun _ h9 => h9) rfl dX3_barred_5 ?_
  obtain ⟨r_1, hr_1, h⟩ := bn_s h
  refine kcVv (As := [.ref (b1 0)]) (rest := []) (ws' := (wX x0 (b1 0) r1 r2 r3 r4 (b2 0) r6 kx (wV cy b1 vv (wY cy b2 r_1 [])))) ⟨hx, hb, hml, hown, hts⟩ (cwV 1 hts gX3_barred_X1_load rfl rfl rfl ⟨rfl, eX1_load⟩ ⟨Nat.le_of_ble_eq_true rfl, Nat.le_of_ble_eq_true rfl⟩) (c_X1_load b2 b1 hr_1) hK hP hD hS hA [9, 10, 11, 12, 13, 14, 15, 16, 17, 18, 1, 2, 3, 4, 5, 6, 7, 8] [0] (by decide) rfl rfl 1 rfl rfl [x0, (b1 0), (b1 1), (b1 2), (b1 3), (b1 4), (b1 5), (b1 6), (b1 7), (b2 0), (b2 1), (b2 2), (b2 3), (b2 4), (b2 5), (b2 6), (b2 7), (b2 8), (b2 9)] rfl rfl rfl (wX x0 (b1 0) r1 r2 r3 r4 (b2 0) r6 kx []) rfl rfl rfl rfl hl.1 rfl (Nat.le_of_ble_eq_true rfl) dX3_barred_8 (fun H locs hP hD hS => ?_)
  refine lv_aload_n hx hb dX3_barred_11 rfl (lv_at hl 0 rfl) ?_
  refine va_get (D := D) (ci := 3) (v := .ref (b2 0)) (C := RX3) (T := TX3) (N := 8) hx hb hts iX3_barred_X3 hown hK.1 hP 0 rfl rfl 5 (by decide) (hts _ mX3_barred_1) (fun _ h9 => h9) rfl dX3_barred_12 ?_
  obtain ⟨r_2, hr_2, h⟩ := bn_s h
  refine kcVv (As := []) (rest := []) (ws' := (wX x0 (b1 0) r1 r2 r3 r4 (b2 0) r6 kx (wV cy b1 vv (wY cy b2 r_2 [])))) ⟨hx, hb, hml, hown, hts⟩ (cwV 0 hts gX3_barred_X1_payAllThatCan rfl rfl rfl ⟨rfl, eX1_payAllThatCan⟩ ⟨Nat.le_of_ble_eq_true rfl, Nat.le_of_ble_eq_true rfl⟩) (c_X1_payAllThatCan b2 hr_2) hK hP hD hS hA [9, 10, 11, 12, 13, 14, 15, 16, 17, 18] [0, 1, 2, 3, 4, 5, 6, 7, 8] (by decide) rfl rfl 1 rfl rfl [x0, (b1 0), (b1 1), (b1 2), (b1 3), (b1 4), (b1 5), (b1 6), (b1 7), (b2 0), (b2 1), (b2 2), (b2 3), (b2 4), (b2 5), (b2 6), (b2 7), (b2 8), (b2 9)] rfl rfl rfl (wX x0 (b1 0) r1 r2 r3 r4 (b2 0) r6 kx (wV cy b1 vv [])) rfl rfl rfl rfl hl.1 rfl (Nat.le_of_ble_eq_true rfl) dX3_barred_15 (fun H locs hP hD hS => ?_)
  refine lv_aload_n hx hb dX3_barred_18 rfl (lv_at hl 0 rfl) ?_
  refine va_get (D := D) (ci := 3) (v := .ref (b2 0)) (C := RX3) (T := TX3) (N := 8) hx hb hts iX3_barred_X3 hown hK.1 hP 0 rfl rfl 5 (by decide) (hts _ mX3_barred_1) (fun _ h9 => h9) rfl dX3_barred_19 ?_
  obtain ⟨r_3, hr_3, h⟩ := bn_s h
  refine kcVi (As := []) (rest := []) (ws' := (wX x0 (b1 0) r1 r2 r3 r4 (b2 0) r6 kx (wV cy b1 vv (wY cy b2 r_2 [])))) ⟨hx, hb, hml, hown, hts⟩ (cwV 0 hts gX3_barred_X1_stillOwing rfl rfl rfl ⟨rfl, eX1_stillOwing⟩ ⟨Nat.le_of_ble_eq_true rfl, Nat.le_of_ble_eq_true rfl⟩) (c_X1_stillOwing b2 hr_3) hK hP hD hS hA [9, 10, 11, 12, 13, 14, 15, 16, 17, 18] [0, 1, 2, 3, 4, 5, 6, 7, 8] (by decide) rfl rfl 1 rfl rfl [x0, (b1 0), (b1 1), (b1 2), (b1 3), (b1 4), (b1 5), (b1 6), (b1 7), (b2 0), (b2 1), (b2 2), (b2 3), (b2 4), (b2 5), (b2 6), (b2 7), (b2 8), (b2 9)] rfl rfl rfl (wX x0 (b1 0) r1 r2 r3 r4 (b2 0) r6 kx (wV cy b1 vv [])) rfl rfl rfl rfl hl.1 rfl (Nat.le_of_ble_eq_true rfl) dX3_barred_22 (fun H locs hP hD hS => ?_)
  cases h
  exact kretI hx hb hr hlk hP hS dX3_barred_25
theorem c_X3_barred {l : Launch} {D : va_G} {cy : Nat → ClassId} (x0 : Nat) (r1 : Nat) (r2 : Nat) (r3 : Nat) (r4 : Nat) (r6 : Nat) (b1 : Nat → Nat) (b2 : Nat → Nat) (kx : Int32) {vv : VS} {yv : YS} {rr : Int32 × YS} (h : f_X3_barred vv yv = some rr) : CI l D cy yX3_barred wsX3_barred { frames := 4, cells := 0, slots := 0, locals := 96 } [.ref x0] (wX x0 (b1 0) r1 r2 r3 r4 (b2 0) r6 kx (wV cy b1 vv (wY cy b2 yv []))) (rr.1) (wX x0 (b1 0) r1 r2 r3 r4 (b2 0) r6 kx (wV cy b1 vv (wY cy b2 rr.2 []))) := by
  refine kofI (cc := cX3_barred) (maxL := 1) (ret := (some .int)) (by decide) rfl (Nat.le_of_ble_eq_true rfl) ?_
  intro p e s m below meth c A M ls hl hP hD hS
  exact w_X3_barred_0 M h hP hD hS hl
theorem eX3_barred : yX3_barred.cls ≠ "java/lang/invoke/MethodHandle" ∧ yX3_barred.cls ≠ "java/lang/invoke/VarHandle" ∧ (parseMethodDescriptor yX3_barred.desc).map (fun d => d.parameters.length) = some 0 := by decide +kernel
theorem iX3_debt_X3 : ∀ w ∈ u_ws RX3 TX3 8, w ∈ wsX3_debt := by decide +kernel
theorem mX3_debt_1 : Cond.fieldLink RX3 12 "LentPiles" "now" "LLentPiles$Valley;" ∈ wsX3_debt := by decide +kernel
set_option maxHeartbeats 4000000 in
set_option maxRecDepth 100000 in
theorem w_X3_debt_0 {p : Program} {l : Launch} {e : Env} {s : State} {m : MethodId} {args : Array Value} {below : List Frame} {meth : Method} {c : Code} {A : Nat → Prop} {D : va_G} {cy : Nat → ClassId} {x0 : Nat} {r1 : Nat} {r2 : Nat} {r3 : Nat} {r4 : Nat} {r5 : Nat} {r6 : Nat} {b1 : Nat → Nat} {kx : Int32} {vv : VS} {x1 : Int32} {x2 : Int32} {x3 : Int32} {rr : Int32} (M : kM p s m args meth c cX3_debt 4 (some .int) RX3 wsX3_debt A D cy)  (h : f_X3_debt vv x1 x2 x3 = some rr) {H : Heap} {locs : List Loc} {ls : Array Slot} (hP : va_P D vwCl (wX x0 (b1 0) r1 r2 r3 r4 r5 r6 kx (wV cy b1 vv [])) H) (hD : va_D A (wX x0 (b1 0) r1 r2 r3 r4 r5 r6 kx (wV cy b1 vv []))) (hS : va_S A s.heap H locs) (hl : lv_has ls 4 [(0, .ref x0), (1, .int x1), (2, .int x2), (3, .int x3)]) : W p l e { frames := 2, cells := 0, slots := 0, locals := 44 } s m args below meth c H locs 0 0 (MQ below (qI D (wX x0 (b1 0) r1 r2 r3 r4 r5 r6 kx (wV cy b1 vv [])) (rr) A) args s 0 0 A) (F0 m 0 ls []) := by
  obtain ⟨hx, hb, hr, hml, hown, hts, hlk, hA, hK⟩ := id M
  unfold f_X3_debt at h
  refine lv_aload_n hx hb dX3_debt_0 rfl (lv_at hl 0 rfl) ?_
  refine va_get (D := D) (ci := 3) (v := .ref (b1 0)) (C := RX3) (T := TX3) (N := 8) hx hb hts iX3_debt_X3 hown hK.1 hP 0 rfl rfl 0 (by decide) (hts _ mX3_debt_1) (fun _ h9 => h9) rfl dX3_debt_1 ?_
  refine lv_iload_n hx hb dX3_debt_4 rfl (lv_at hl 1 rfl) ?_
  refine lv_iload_n hx hb dX3_debt_5 rfl (lv_at hl 2 rfl) ?_
  obtain ⟨r_1, hr_1, h⟩ := bn_s h
  refine kcVi (As := [.int x1, .int x2]) (rest := []) (ws' := (wX x0 (b1 0) r1 r2 r3 r4 r5 r6 kx (wV cy b1 vv []))) ⟨hx, hb, hml, hown, hts⟩ (cwV 2 hts gX3_debt_X2_hasDebt rfl rfl rfl ⟨rfl, eX2_hasDebt⟩ ⟨Nat.le_of_ble_eq_true rfl, Nat.le_of_ble_eq_true rfl⟩) (c_X2_hasDebt b1 hr_1) hK hP hD hS hA [1, 2, 3, 4, 5, 6, 7, 8] [0] (by decide) rfl rfl 2 rfl rfl [x0, (b1 0), (b1 1), (b1 2), (b1 3), (b1 4), (b1 5), (b1 6), (b1 7)] rfl rfl rfl (wX x0 (b1 0) r1 r2 r3 r4 r5 r6 kx []) rfl rfl rfl rfl hl.1 rfl (Nat.le_of_ble_eq_true rfl) dX3_debt_6 (fun H locs hP hD hS => ?_)
  refine lv_if_ne (tgt := 14) hx hb dX3_debt_9 (by decide) (fun c_2 => ?_) (fun c_2 => ?_)
  · replace h := it_n c_2 h
    refine lv_iload_n hx hb dX3_debt_14 rfl (lv_at hl 3 rfl) ?_
    by_cases c_3 : x3 = (0 : Int32)
    · replace h := it_p c_3 h
      refine lv_tableIn (off := 25) (tgt := 40) hx hb dX3_debt_15 (by rw [c_3]; decide) (by rw [c_3]; decide) (by rw [c_3]; rfl) (by decide) ?_
      refine lv_aload_n hx hb dX3_debt_40 rfl (lv_at hl 0 rfl) ?_
      refine va_get (D := D) (ci := 3) (v := .ref (b1 0)) (C := RX3) (T := TX3) (N := 8) hx hb hts iX3_debt_X3 hown hK.1 hP 0 rfl rfl 0 (by decide) (hts _ mX3_debt_1) (fun _ h9 => h9) rfl dX3_debt_41 ?_
      refine lv_iload_n hx hb dX3_debt_44 rfl (lv_at hl 1 rfl) ?_
      refine lv_iload_n hx hb dX3_debt_45 rfl (lv_at hl 2 rfl) ?_
      obtain ⟨r_4, hr_4, h⟩ := bn_s h
      refine kcVi (As := [.int x1, .int x2]) (rest := []) (ws' := (wX x0 (b1 0) r1 r2 r3 r4 r5 r6 kx (wV cy b1 vv []))) ⟨hx, hb, hml, hown, hts⟩ (cwV 2 hts gX3_debt_X2_lenderOf rfl rfl rfl ⟨rfl, eX2_lenderOf⟩ ⟨Nat.le_of_ble_eq_true rfl, Nat.le_of_ble_eq_true rfl⟩) (c_X2_lenderOf b1 hr_4) hK hP hD hS hA [1, 2, 3, 4, 5, 6, 7, 8] [0] (by decide) rfl rfl 2 rfl rfl [x0, (b1 0), (b1 1), (b1 2), (b1 3), (b1 4), (b1 5), (b1 6), (b1 7)] rfl rfl rfl (wX x0 (b1 0) r1 r2 r3 r4 r5 r6 kx []) rfl rfl rfl rfl hl.1 rfl (Nat.le_of_ble_eq_true rfl) dX3_debt_46 (fun H locs hP hD hS => ?_)
      cases h
      exact kretI hx hb hr hlk hP hS dX3_debt_49
    · replace h := it_n c_3 h
      by_cases c_5 : x3 = (1 : Int32)
      · replace h := it_p c_5 h
        refine lv_tableIn (off := 35) (tgt := 50) hx hb dX3_debt_15 (by rw [c_5]; decide) (by rw [c_5]; decide) (by rw [c_5]; rfl) (by decide) ?_
        refine lv_aload_n hx hb dX3_debt_50 rfl (lv_at hl 0 rfl) ?_
        refine va_get (D := D) (ci := 3) (v := .ref (b1 0)) (C := RX3) (T := TX3) (N := 8) hx hb hts iX3_debt_X3 hown hK.1 hP 0 rfl rfl 0 (by decide) (hts _ mX3_debt_1) (fun _ h9 => h9) rfl dX3_debt_51 ?_
        refine lv_iload_n hx hb dX3_debt_54 rfl (lv_at hl 1 rfl) ?_
        refine lv_iload_n hx hb dX3_debt_55 rfl (lv_at hl 2 rfl) ?_
        obtain ⟨r_6, hr_6, h⟩ := bn_s h
        refine kcVi (As := [.int x1, .int x2]) (rest := []) (ws' := (wX x0 (b1 0) r1 r2 r3 r4 r5 r6 kx (wV cy b1 vv []))) ⟨hx, hb, hml, hown, hts⟩ (cwV 2 hts gX3_debt_X2_penceOf rfl rfl rfl ⟨rfl, eX2_penceOf⟩ ⟨Nat.le_of_ble_eq_true rfl, Nat.le_of_ble_eq_true rfl⟩) (c_X2_penceOf b1 hr_6) hK hP hD hS hA [1, 2, 3, 4, 5, 6, 7, 8] [0] (by decide) rfl rfl 2 rfl rfl [x0, (b1 0), (b1 1), (b1 2), (b1 3), (b1 4), (b1 5), (b1 6), (b1 7)] rfl rfl rfl (wX x0 (b1 0) r1 r2 r3 r4 r5 r6 kx []) rfl rfl rfl rfl hl.1 rfl (Nat.le_of_ble_eq_true rfl) dX3_debt_56 (fun H locs hP hD hS => ?_)
        cases h
        exact kretI hx hb hr hlk hP hS dX3_debt_59
      · replace h := it_n c_5 h
        by_cases c_7 : x3 = (2 : Int32)
        · replace h := it_p c_7 h
          refine lv_tableIn (off := 45) (tgt := 60) hx hb dX3_debt_15 (by rw [c_7]; decide) (by rw [c_7]; decide) (by rw [c_7]; rfl) (by decide) ?_
          refine lv_aload_n hx hb dX3_debt_60 rfl (lv_at hl 0 rfl) ?_
          refine va_get (D := D) (ci := 3) (v := .ref (b1 0)) (C := RX3) (T := TX3) (N := 8) hx hb hts iX3_debt_X3 hown hK.1 hP 0 rfl rfl 0 (by decide) (hts _ mX3_debt_1) (fun _ h9 => h9) rfl dX3_debt_61 ?_
          refine lv_iload_n hx hb dX3_debt_64 rfl (lv_at hl 1 rfl) ?_
          refine lv_iload_n hx hb dX3_debt_65 rfl (lv_at hl 2 rfl) ?_
          obtain ⟨r_8, hr_8, h⟩ := bn_s h
          refine kcVi (As := [.int x1, .int x2]) (rest := []) (ws' := (wX x0 (b1 0) r1 r2 r3 r4 r5 r6 kx (wV cy b1 vv []))) ⟨hx, hb, hml, hown, hts⟩ (cwV 2 hts gX3_debt_X2_dayOf rfl rfl rfl ⟨rfl, eX2_dayOf⟩ ⟨Nat.le_of_ble_eq_true rfl, Nat.le_of_ble_eq_true rfl⟩) (c_X2_dayOf b1 hr_8) hK hP hD hS hA [1, 2, 3, 4, 5, 6, 7, 8] [0] (by decide) rfl rfl 2 rfl rfl [x0, (b1 0), (b1 1), (b1 2), (b1 3), (b1 4), (b1 5), (b1 6), (b1 7)] rfl rfl rfl (wX x0 (b1 0) r1 r2 r3 r4 r5 r6 kx []) rfl rfl rfl rfl hl.1 rfl (Nat.le_of_ble_eq_true rfl) dX3_debt_66 (fun H locs hP hD hS => ?_)
          cases h
          exact kretI hx hb hr hlk hP hS dX3_debt_69
        · replace h := it_n c_7 h
          have hsw : (x3).toInt < 0 ∨ 2 < (x3).toInt := sw_out2 c_3 c_5 c_7
          refine lv_tableOut (tgt := 70) hx hb dX3_debt_15 hsw (by decide) ?_
          refine lv_bipush (v := (-2)) hx hb dX3_debt_70 (by decide) ?_
          cases h
          exact kretI hx hb hr hlk hP hS dX3_debt_72
  · replace h := it_p c_2 h
    refine lv_iconst (v := (-1)) hx hb dX3_debt_12 (by decide) ?_
    cases h
    exact kretI hx hb hr hlk hP hS dX3_debt_13
theorem c_X3_debt {l : Launch} {D : va_G} {cy : Nat → ClassId} (x0 : Nat) (r1 : Nat) (r2 : Nat) (r3 : Nat) (r4 : Nat) (r5 : Nat) (r6 : Nat) (b1 : Nat → Nat) (kx : Int32) {vv : VS} {x1 : Int32} {x2 : Int32} {x3 : Int32} {rr : Int32} (h : f_X3_debt vv x1 x2 x3 = some rr) : CI l D cy yX3_debt wsX3_debt { frames := 2, cells := 0, slots := 0, locals := 44 } [.ref x0, .int x1, .int x2, .int x3] (wX x0 (b1 0) r1 r2 r3 r4 r5 r6 kx (wV cy b1 vv [])) (rr) (wX x0 (b1 0) r1 r2 r3 r4 r5 r6 kx (wV cy b1 vv [])) := by
  refine kofI (cc := cX3_debt) (maxL := 4) (ret := (some .int)) (by decide) rfl (Nat.le_of_ble_eq_true rfl) ?_
  intro p e s m below meth c A M ls hl hP hD hS
  exact w_X3_debt_0 M h hP hD hS hl
theorem eX3_debt : yX3_debt.cls ≠ "java/lang/invoke/MethodHandle" ∧ yX3_debt.cls ≠ "java/lang/invoke/VarHandle" ∧ (parseMethodDescriptor yX3_debt.desc).map (fun d => d.parameters.length) = some 3 := by decide +kernel
theorem iX3_done_X3 : ∀ w ∈ u_ws RX3 TX3 8, w ∈ wsX3_done := by decide +kernel
theorem iX3_done_X0 : ∀ w ∈ u_ws RX0 TX0 10, w ∈ wsX3_done := by decide +kernel
theorem mX3_done_1 : Cond.fieldLink RX3 28 "LentPiles" "pad" "LLentPiles$Pad;" ∈ wsX3_done := by decide +kernel
theorem mX3_done_2 : Cond.fieldLink RX3 12 "LentPiles" "now" "LLentPiles$Valley;" ∈ wsX3_done := by decide +kernel
theorem mX3_done_3 : Cond.fieldLink RX3 16 "LentPiles" "trial" "LLentPiles$Valley;" ∈ wsX3_done := by decide +kernel
set_option maxHeartbeats 4000000 in
set_option maxRecDepth 100000 in
theorem w_X3_done_0 {p : Program} {l : Launch} {e : Env} {s : State} {m : MethodId} {args : Array Value} {below : List Frame} {meth : Method} {c : Code} {A : Nat → Prop} {D : va_G} {cy : Nat → ClassId} {x0 : Nat} {r2 : Nat} {r3 : Nat} {r5 : Nat} {r6 : Nat} {b1 : Nat → Nat} {b2 : Nat → Nat} {b3 : Nat → Nat} {kx : Int32} {rr : Int32 × VS × VS × DS} (M : kM p s m args meth c cX3_done 2 (some .int) RX3 wsX3_done A D cy) {v1 : VS} {v2 : VS} {dv : DS} (h : f_X3_done v1 v2 dv = some rr) {H : Heap} {locs : List Loc} {ls : Array Slot} (hP : va_P D vwCl (wX x0 (b1 0) (b2 0) r2 r3 (b3 0) r5 r6 kx (wV cy b1 v1 (wV cy b2 v2 (wD cy b3 dv [])))) H) (hD : va_D A (wX x0 (b1 0) (b2 0) r2 r3 (b3 0) r5 r6 kx (wV cy b1 v1 (wV cy b2 v2 (wD cy b3 dv []))))) (hS : va_S A s.heap H locs) (hl : lv_has ls 2 [(0, .ref x0)]) : W p l e { frames := 6, cells := 0, slots := 0, locals := 140 } s m args below meth c H locs 0 0 (MQ below (qI D (wX x0 (b1 0) (b2 0) r2 r3 (b3 0) r5 r6 kx (wV cy b1 rr.2.1 (wV cy b2 rr.2.2.1 (wD cy b3 rr.2.2.2 [])))) (rr.1) A) args s 0 0 A) (F0 m 0 ls []) := by
  obtain ⟨hx, hb, hr, hml, hown, hts, hlk, hA, hK⟩ := id M
  unfold f_X3_done at h
  refine lv_aload_n hx hb dX3_done_0 rfl (lv_at hl 0 rfl) ?_
  refine va_get (D := D) (ci := 3) (v := .ref (b3 0)) (C := RX3) (T := TX3) (N := 8) hx hb hts iX3_done_X3 hown hK.1 hP 0 rfl rfl 4 (by decide) (hts _ mX3_done_1) (fun _ h9 => h9) rfl dX3_done_1 ?_
  obtain ⟨r_1, hr_1, h⟩ := bn_s h
  refine kcVi (As := []) (rest := []) (ws' := (wX x0 (b1 0) (b2 0) r2 r3 (b3 0) r5 r6 kx (wV cy b1 v1 (wV cy b2 v2 (wD cy b3 r_1.2 []))))) ⟨hx, hb, hml, hown, hts⟩ (cwV 0 hts gX3_done_X0_read rfl rfl rfl ⟨rfl, eX0_read⟩ ⟨Nat.le_of_ble_eq_true rfl, Nat.le_of_ble_eq_true rfl⟩) (c_X0_read b3 hr_1) hK hP hD hS hA [17, 18, 19, 20, 21, 22, 23] [0, 1, 2, 3, 4, 5, 6, 7, 8, 9, 10, 11, 12, 13, 14, 15, 16] (by decide) rfl rfl 0 rfl rfl [x0, (b1 0), (b1 1), (b1 2), (b1 3), (b1 4), (b1 5), (b1 6), (b1 7), (b2 0), (b2 1), (b2 2), (b2 3), (b2 4), (b2 5), (b2 6), (b2 7), (b3 0), (b3 1), (b3 2), (b3 3), (b3 4), (b3 5), (b3 6)] rfl rfl rfl (wX x0 (b1 0) (b2 0) r2 r3 (b3 0) r5 r6 kx (wV cy b1 v1 (wV cy b2 v2 []))) rfl rfl rfl rfl hl.1 rfl (Nat.le_of_ble_eq_true rfl) dX3_done_4 (fun H locs hP hD hS => ?_)
  refine lv_bipush (v := (-6)) hx hb dX3_done_7 (by decide) ?_
  refine lv_icmp_eq (tgt := 15) hx hb dX3_done_9 (by decide) (fun c_2 => ?_) (fun c_2 => ?_)
  · replace h := it_p c_2 h
    refine lv_aload_n hx hb dX3_done_15 rfl (lv_at hl 0 rfl) ?_
    refine va_get (D := D) (ci := 3) (v := .ref (b3 0)) (C := RX3) (T := TX3) (N := 8) hx hb hts iX3_done_X3 hown hK.1 hP 0 rfl rfl 4 (by decide) (hts _ mX3_done_1) (fun _ h9 => h9) rfl dX3_done_16 ?_
    refine va_getN (D := D) (ci := 0) (v := .int r_1.2.2.2.2.2.2.2.2.2.1) (C := RX0) (T := TX0) (N := 10) hx hb hts iX3_done_X0 hown hK.1 hP 17 rfl rfl 8 (by decide) (va_Nw.use rfl (kN_83 hK.2)) (fun _ h9 => h9) rfl dX3_done_19 ?_
    refine lv_if_le (tgt := 28) hx hb dX3_done_22 (by decide) (fun c_3 => ?_) (fun c_3 => ?_)
    · replace h := it_p c_3 h
      refine lv_aload_n hx hb dX3_done_28 rfl (lv_at hl 0 rfl) ?_
      refine va_get (D := D) (ci := 3) (v := .ref (b3 0)) (C := RX3) (T := TX3) (N := 8) hx hb hts iX3_done_X3 hown hK.1 hP 0 rfl rfl 4 (by decide) (hts _ mX3_done_1) (fun _ h9 => h9) rfl dX3_done_29 ?_
      refine lv_aload_n hx hb dX3_done_32 rfl (lv_at hl 0 rfl) ?_
      refine va_get (D := D) (ci := 3) (v := .ref (b1 0)) (C := RX3) (T := TX3) (N := 8) hx hb hts iX3_done_X3 hown hK.1 hP 0 rfl rfl 0 (by decide) (hts _ mX3_done_2) (fun _ h9 => h9) rfl dX3_done_33 ?_
      refine lv_aload_n hx hb dX3_done_36 rfl (lv_at hl 0 rfl) ?_
      refine va_get (D := D) (ci := 3) (v := .ref (b2 0)) (C := RX3) (T := TX3) (N := 8) hx hb hts iX3_done_X3 hown hK.1 hP 0 rfl rfl 1 (by decide) (hts _ mX3_done_3) (fun _ h9 => h9) rfl dX3_done_37 ?_
      obtain ⟨r_4, hr_4, h⟩ := bn_s h
      refine kcVi (As := [.ref (b1 0), .ref (b2 0)]) (rest := []) (ws' := (wX x0 (b1 0) (b2 0) r2 r3 (b3 0) r5 r6 kx (wV cy b1 v1 (wV cy b2 r_4.2.2 (wD cy b3 r_4.2.1 []))))) ⟨hx, hb, hml, hown, hts⟩ (cwV 2 hts gX3_done_X0_perform rfl rfl rfl ⟨rfl, eX0_perform⟩ ⟨Nat.le_of_ble_eq_true rfl, Nat.le_of_ble_eq_true rfl⟩) (c_X0_perform b3 b1 b2 hr_4) hK hP hD hS hA [17, 18, 19, 20, 21, 22, 23, 1, 2, 3, 4, 5, 6, 7, 8, 9, 10, 11, 12, 13, 14, 15, 16] [0] (by decide) rfl rfl 0 rfl rfl [x0, (b1 0), (b1 1), (b1 2), (b1 3), (b1 4), (b1 5), (b1 6), (b1 7), (b2 0), (b2 1), (b2 2), (b2 3), (b2 4), (b2 5), (b2 6), (b2 7), (b3 0), (b3 1), (b3 2), (b3 3), (b3 4), (b3 5), (b3 6)] rfl rfl rfl (wX x0 (b1 0) (b2 0) r2 r3 (b3 0) r5 r6 kx []) rfl rfl rfl rfl hl.1 rfl (Nat.le_of_ble_eq_true rfl) dX3_done_40 (fun H locs hP hD hS => ?_)
      refine lv_bipush (v := (-6)) hx hb dX3_done_43 (by decide) ?_
      refine lv_icmp_eq (tgt := 51) hx hb dX3_done_45 (by decide) (fun c_5 => ?_) (fun c_5 => ?_)
      · replace h := it_p c_5 h
        refine lv_aload_n hx hb dX3_done_51 rfl (lv_at hl 0 rfl) ?_
        refine va_get (D := D) (ci := 3) (v := .ref (b1 0)) (C := RX3) (T := TX3) (N := 8) hx hb hts iX3_done_X3 hown hK.1 hP 0 rfl rfl 0 (by decide) (hts _ mX3_done_2) (fun _ h9 => h9) rfl dX3_done_52 ?_
        refine lv_aload_n hx hb dX3_done_55 rfl (lv_at hl 0 rfl) ?_
        refine va_get (D := D) (ci := 3) (v := .ref (b2 0)) (C := RX3) (T := TX3) (N := 8) hx hb hts iX3_done_X3 hown hK.1 hP 0 rfl rfl 1 (by decide) (hts _ mX3_done_3) (fun _ h9 => h9) rfl dX3_done_56 ?_
        obtain ⟨r_6, hr_6, h⟩ := bn_s h
        refine kcVv (As := [.ref (b2 0)]) (rest := []) (ws' := (wX x0 (b1 0) (b2 0) r2 r3 (b3 0) r5 r6 kx (wV cy b1 r_6 (wV cy b2 r_4.2.2 (wD cy b3 r_4.2.1 []))))) ⟨hx, hb, hml, hown, hts⟩ (cwV 1 hts gX3_done_X2_copyFrom rfl rfl rfl ⟨rfl, eX2_copyFrom⟩ ⟨Nat.le_of_ble_eq_true rfl, Nat.le_of_ble_eq_true rfl⟩) (c_X2_copyFrom b1 b2 hr_6) hK hP hD hS hA [1, 2, 3, 4, 5, 6, 7, 8, 9, 10, 11, 12, 13, 14, 15, 16] [0, 17, 18, 19, 20, 21, 22, 23] (by decide) rfl rfl 2 rfl rfl [x0, (b1 0), (b1 1), (b1 2), (b1 3), (b1 4), (b1 5), (b1 6), (b1 7), (b2 0), (b2 1), (b2 2), (b2 3), (b2 4), (b2 5), (b2 6), (b2 7), (b3 0), (b3 1), (b3 2), (b3 3), (b3 4), (b3 5), (b3 6)] rfl rfl rfl (wX x0 (b1 0) (b2 0) r2 r3 (b3 0) r5 r6 kx (wD cy b3 r_4.2.1 [])) rfl rfl rfl rfl hl.1 rfl (Nat.le_of_ble_eq_true rfl) dX3_done_59 (fun H locs hP hD hS => ?_)
        refine lv_aload_n hx hb dX3_done_62 rfl (lv_at hl 0 rfl) ?_
        refine va_get (D := D) (ci := 3) (v := .ref (b3 0)) (C := RX3) (T := TX3) (N := 8) hx hb hts iX3_done_X3 hown hK.1 hP 0 rfl rfl 4 (by decide) (hts _ mX3_done_1) (fun _ h9 => h9) rfl dX3_done_63 ?_
        refine va_getN (D := D) (ci := 0) (v := .int r_4.2.1.2.2.2.2.2.2.2.1) (C := RX0) (T := TX0) (N := 10) hx hb hts iX3_done_X0 hown hK.1 hP 17 rfl rfl 7 (by decide) (va_Nw.use rfl (kN_97 hK.2)) (fun _ h9 => h9) rfl dX3_done_66 ?_
        refine lv_topi (fun x1_7 ex1_7 => ?_)
        replace h := nm_s h ex1_7
        refine lv_istore_n (lv' := [(1, .int x1_7), (0, .ref x0)]) hx hb dX3_done_69 rfl hl (by decide) rfl (fun ls hl => ?_)
        refine lv_aload_n hx hb dX3_done_70 rfl (lv_at hl 1 rfl) ?_
        refine va_get (D := D) (ci := 3) (v := .ref (b3 0)) (C := RX3) (T := TX3) (N := 8) hx hb hts iX3_done_X3 hown hK.1 hP 0 rfl rfl 4 (by decide) (hts _ mX3_done_1) (fun _ h9 => h9) rfl dX3_done_71 ?_
        obtain ⟨r_8, hr_8, h⟩ := bn_s h
        refine kcVv (As := []) (rest := []) (ws' := (wX x0 (b1 0) (b2 0) r2 r3 (b3 0) r5 r6 kx (wV cy b1 r_6 (wV cy b2 r_4.2.2 (wD cy b3 r_8 []))))) ⟨hx, hb, hml, hown, hts⟩ (cwV 0 hts gX3_done_X0_clear rfl rfl rfl ⟨rfl, eX0_clear⟩ ⟨Nat.le_of_ble_eq_true rfl, Nat.le_of_ble_eq_true rfl⟩) (c_X0_clear b3 hr_8) hK hP hD hS hA [17, 18, 19, 20, 21, 22, 23] [0, 1, 2, 3, 4, 5, 6, 7, 8, 9, 10, 11, 12, 13, 14, 15, 16] (by decide) rfl rfl 0 rfl rfl [x0, (b1 0), (b1 1), (b1 2), (b1 3), (b1 4), (b1 5), (b1 6), (b1 7), (b2 0), (b2 1), (b2 2), (b2 3), (b2 4), (b2 5), (b2 6), (b2 7), (b3 0), (b3 1), (b3 2), (b3 3), (b3 4), (b3 5), (b3 6)] rfl rfl rfl (wX x0 (b1 0) (b2 0) r2 r3 (b3 0) r5 r6 kx (wV cy b1 r_6 (wV cy b2 r_4.2.2 []))) rfl rfl rfl rfl hl.1 rfl (Nat.le_of_ble_eq_true rfl) dX3_done_74 (fun H locs hP hD hS => ?_)
        refine lv_iload_n hx hb dX3_done_77 rfl (lv_at hl 0 rfl) ?_
        cases h
        exact kretI hx hb hr hlk hP hS dX3_done_78
      · replace h := it_n c_5 h
        refine lv_bipush (v := (-5)) hx hb dX3_done_48 (by decide) ?_
        cases h
        exact kretI hx hb hr hlk hP hS dX3_done_50
    · replace h := it_n c_3 h
      refine lv_bipush (v := (-3)) hx hb dX3_done_25 (by decide) ?_
      cases h
      exact kretI hx hb hr hlk hP hS dX3_done_27
  · replace h := it_n c_2 h
    refine lv_bipush (v := (-5)) hx hb dX3_done_12 (by decide) ?_
    cases h
    exact kretI hx hb hr hlk hP hS dX3_done_14
theorem c_X3_done {l : Launch} {D : va_G} {cy : Nat → ClassId} (x0 : Nat) (r2 : Nat) (r3 : Nat) (r5 : Nat) (r6 : Nat) (b1 : Nat → Nat) (b2 : Nat → Nat) (b3 : Nat → Nat) (kx : Int32) {v1 : VS} {v2 : VS} {dv : DS} {rr : Int32 × VS × VS × DS} (h : f_X3_done v1 v2 dv = some rr) : CI l D cy yX3_done wsX3_done { frames := 6, cells := 0, slots := 0, locals := 140 } [.ref x0] (wX x0 (b1 0) (b2 0) r2 r3 (b3 0) r5 r6 kx (wV cy b1 v1 (wV cy b2 v2 (wD cy b3 dv [])))) (rr.1) (wX x0 (b1 0) (b2 0) r2 r3 (b3 0) r5 r6 kx (wV cy b1 rr.2.1 (wV cy b2 rr.2.2.1 (wD cy b3 rr.2.2.2 [])))) := by
  refine kofI (cc := cX3_done) (maxL := 2) (ret := (some .int)) (by decide) rfl (Nat.le_of_ble_eq_true rfl) ?_
  intro p e s m below meth c A M ls hl hP hD hS
  exact w_X3_done_0 M h hP hD hS hl
theorem eX3_done : yX3_done.cls ≠ "java/lang/invoke/MethodHandle" ∧ yX3_done.cls ≠ "java/lang/invoke/VarHandle" ∧ (parseMethodDescriptor yX3_done.desc).map (fun d => d.parameters.length) = some 0 := by decide +kernel
theorem iX3_due_X3 : ∀ w ∈ u_ws RX3 TX3 8, w ∈ wsX3_due := by decide +kernel
theorem mX3_due_1 : Cond.fieldLink RX3 12 "LentPiles" "now" "LLentPiles$Valley;" ∈ wsX3_due := by decide +kernel
set_option maxHeartbeats 4000000 in
set_option maxRecDepth 100000 in
theorem w_X3_due_0 {p : Program} {l : Launch} {e : Env} {s : State} {m : MethodId} {args : Array Value} {below : List Frame} {meth : Method} {c : Code} {A : Nat → Prop} {D : va_G} {cy : Nat → ClassId} {x0 : Nat} {r1 : Nat} {r2 : Nat} {r3 : Nat} {r4 : Nat} {r5 : Nat} {r6 : Nat} {b1 : Nat → Nat} {kx : Int32} {vv : VS} {x1 : Int32} {rr : Int32} (M : kM p s m args meth c cX3_due 2 (some .int) RX3 wsX3_due A D cy)  (h : f_X3_due vv x1 = some rr) {H : Heap} {locs : List Loc} {ls : Array Slot} (hP : va_P D vwCl (wX x0 (b1 0) r1 r2 r3 r4 r5 r6 kx (wV cy b1 vv [])) H) (hD : va_D A (wX x0 (b1 0) r1 r2 r3 r4 r5 r6 kx (wV cy b1 vv []))) (hS : va_S A s.heap H locs) (hl : lv_has ls 2 [(0, .ref x0), (1, .int x1)]) : W p l e { frames := 3, cells := 0, slots := 0, locals := 70 } s m args below meth c H locs 0 0 (MQ below (qI D (wX x0 (b1 0) r1 r2 r3 r4 r5 r6 kx (wV cy b1 vv [])) (rr) A) args s 0 0 A) (F0 m 0 ls []) := by
  obtain ⟨hx, hb, hr, hml, hown, hts, hlk, hA, hK⟩ := id M
  unfold f_X3_due at h
  refine lv_iload_n hx hb dX3_due_0 rfl (lv_at hl 1 rfl) ?_
  obtain ⟨r_1, hr_1, h⟩ := bn_s h
  refine kcSi (As := [.int x1]) (rest := []) ⟨hx, hb, hml, hown, hts⟩ (va_cwS 1 hts gX3_due_X3_isMan rfl rfl rfl eX3_isMan ⟨Nat.le_of_ble_eq_true rfl, Nat.le_of_ble_eq_true rfl⟩) (c_X3_isMan  hr_1) hK hP hS hA rfl hl.1 rfl (Nat.le_of_ble_eq_true rfl) dX3_due_1 (fun H locs hP hS => ?_)
  refine lv_if_eq (tgt := 18) hx hb dX3_due_4 (by decide) (fun c_2 => ?_) (fun c_2 => ?_)
  · replace h := it_p c_2 h
    refine lv_iconst (v := (-1)) hx hb dX3_due_18 (by decide) ?_
    cases h
    exact kretI hx hb hr hlk hP hS dX3_due_19
  · replace h := it_n c_2 h
    refine lv_aload_n hx hb dX3_due_7 rfl (lv_at hl 0 rfl) ?_
    refine va_get (D := D) (ci := 3) (v := .ref (b1 0)) (C := RX3) (T := TX3) (N := 8) hx hb hts iX3_due_X3 hown hK.1 hP 0 rfl rfl 0 (by decide) (hts _ mX3_due_1) (fun _ h9 => h9) rfl dX3_due_8 ?_
    refine lv_iload_n hx hb dX3_due_11 rfl (lv_at hl 1 rfl) ?_
    obtain ⟨r_3, hr_3, h⟩ := bn_s h
    refine kcVi (As := [.int x1]) (rest := []) (ws' := (wX x0 (b1 0) r1 r2 r3 r4 r5 r6 kx (wV cy b1 vv []))) ⟨hx, hb, hml, hown, hts⟩ (cwV 1 hts gX3_due_X2_dueOf rfl rfl rfl ⟨rfl, eX2_dueOf⟩ ⟨Nat.le_of_ble_eq_true rfl, Nat.le_of_ble_eq_true rfl⟩) (c_X2_dueOf b1 hr_3) hK hP hD hS hA [1, 2, 3, 4, 5, 6, 7, 8] [0] (by decide) rfl rfl 2 rfl rfl [x0, (b1 0), (b1 1), (b1 2), (b1 3), (b1 4), (b1 5), (b1 6), (b1 7)] rfl rfl rfl (wX x0 (b1 0) r1 r2 r3 r4 r5 r6 kx []) rfl rfl rfl rfl hl.1 rfl (Nat.le_of_ble_eq_true rfl) dX3_due_12 (fun H locs hP hD hS => ?_)
    refine lv_goto (tgt := 19) hx hb dX3_due_15 (by decide) ?_
    cases h
    exact kretI hx hb hr hlk hP hS dX3_due_19
theorem c_X3_due {l : Launch} {D : va_G} {cy : Nat → ClassId} (x0 : Nat) (r1 : Nat) (r2 : Nat) (r3 : Nat) (r4 : Nat) (r5 : Nat) (r6 : Nat) (b1 : Nat → Nat) (kx : Int32) {vv : VS} {x1 : Int32} {rr : Int32} (h : f_X3_due vv x1 = some rr) : CI l D cy yX3_due wsX3_due { frames := 3, cells := 0, slots := 0, locals := 70 } [.ref x0, .int x1] (wX x0 (b1 0) r1 r2 r3 r4 r5 r6 kx (wV cy b1 vv [])) (rr) (wX x0 (b1 0) r1 r2 r3 r4 r5 r6 kx (wV cy b1 vv [])) := by
  refine kofI (cc := cX3_due) (maxL := 2) (ret := (some .int)) (by decide) rfl (Nat.le_of_ble_eq_true rfl) ?_
  intro p e s m below meth c A M ls hl hP hD hS
  exact w_X3_due_0 M h hP hD hS hl
theorem eX3_due : yX3_due.cls ≠ "java/lang/invoke/MethodHandle" ∧ yX3_due.cls ≠ "java/lang/invoke/VarHandle" ∧ (parseMethodDescriptor yX3_due.desc).map (fun d => d.parameters.length) = some 1 := by decide +kernel
theorem iX3_fault_X3 : ∀ w ∈ u_ws RX3 TX3 8, w ∈ wsX3_fault := by decide +kernel
theorem mX3_fault_1 : Cond.fieldLink RX3 28 "LentPiles" "pad" "LLentPiles$Pad;" ∈ wsX3_fault := by decide +kernel
set_option maxHeartbeats 4000000 in
set_option maxRecDepth 100000 in
theorem w_X3_fault_0 {p : Program} {l : Launch} {e : Env} {s : State} {m : MethodId} {args : Array Value} {below : List Frame} {meth : Method} {c : Code} {A : Nat → Prop} {D : va_G} {cy : Nat → ClassId} {x0 : Nat} {r0 : Nat} {r1 : Nat} {r2 : Nat} {r3 : Nat} {r5 : Nat} {r6 : Nat} {b1 : Nat → Nat} {kx : Int32} {rr : Int32 × DS} (M : kM p s m args meth c cX3_fault 1 (some .int) RX3 wsX3_fault A D cy) {dv : DS} (h : f_X3_fault dv = some rr) {H : Heap} {locs : List Loc} {ls : Array Slot} (hP : va_P D vwCl (wX x0 r0 r1 r2 r3 (b1 0) r5 r6 kx (wD cy b1 dv [])) H) (hD : va_D A (wX x0 r0 r1 r2 r3 (b1 0) r5 r6 kx (wD cy b1 dv []))) (hS : va_S A s.heap H locs) (hl : lv_has ls 1 [(0, .ref x0)]) : W p l e { frames := 3, cells := 0, slots := 0, locals := 73 } s m args below meth c H locs 0 0 (MQ below (qI D (wX x0 r0 r1 r2 r3 (b1 0) r5 r6 kx (wD cy b1 rr.2 [])) (rr.1) A) args s 0 0 A) (F0 m 0 ls []) := by
  obtain ⟨hx, hb, hr, hml, hown, hts, hlk, hA, hK⟩ := id M
  unfold f_X3_fault at h
  refine lv_aload_n hx hb dX3_fault_0 rfl (lv_at hl 0 rfl) ?_
  refine va_get (D := D) (ci := 3) (v := .ref (b1 0)) (C := RX3) (T := TX3) (N := 8) hx hb hts iX3_fault_X3 hown hK.1 hP 0 rfl rfl 4 (by decide) (hts _ mX3_fault_1) (fun _ h9 => h9) rfl dX3_fault_1 ?_
  obtain ⟨r_1, hr_1, h⟩ := bn_s h
  refine kcVi (As := []) (rest := []) (ws' := (wX x0 r0 r1 r2 r3 (b1 0) r5 r6 kx (wD cy b1 r_1.2 []))) ⟨hx, hb, hml, hown, hts⟩ (cwV 0 hts gX3_fault_X0_read rfl rfl rfl ⟨rfl, eX0_read⟩ ⟨Nat.le_of_ble_eq_true rfl, Nat.le_of_ble_eq_true rfl⟩) (c_X0_read b1 hr_1) hK hP hD hS hA [1, 2, 3, 4, 5, 6, 7] [0] (by decide) rfl rfl 0 rfl rfl [x0, (b1 0), (b1 1), (b1 2), (b1 3), (b1 4), (b1 5), (b1 6)] rfl rfl rfl (wX x0 r0 r1 r2 r3 (b1 0) r5 r6 kx []) rfl rfl rfl rfl hl.1 rfl (Nat.le_of_ble_eq_true rfl) dX3_fault_4 (fun H locs hP hD hS => ?_)
  cases h
  exact kretI hx hb hr hlk hP hS dX3_fault_7
theorem c_X3_fault {l : Launch} {D : va_G} {cy : Nat → ClassId} (x0 : Nat) (r0 : Nat) (r1 : Nat) (r2 : Nat) (r3 : Nat) (r5 : Nat) (r6 : Nat) (b1 : Nat → Nat) (kx : Int32) {dv : DS} {rr : Int32 × DS} (h : f_X3_fault dv = some rr) : CI l D cy yX3_fault wsX3_fault { frames := 3, cells := 0, slots := 0, locals := 73 } [.ref x0] (wX x0 r0 r1 r2 r3 (b1 0) r5 r6 kx (wD cy b1 dv [])) (rr.1) (wX x0 r0 r1 r2 r3 (b1 0) r5 r6 kx (wD cy b1 rr.2 [])) := by
  refine kofI (cc := cX3_fault) (maxL := 1) (ret := (some .int)) (by decide) rfl (Nat.le_of_ble_eq_true rfl) ?_
  intro p e s m below meth c A M ls hl hP hD hS
  exact w_X3_fault_0 M h hP hD hS hl
theorem eX3_fault : yX3_fault.cls ≠ "java/lang/invoke/MethodHandle" ∧ yX3_fault.cls ≠ "java/lang/invoke/VarHandle" ∧ (parseMethodDescriptor yX3_fault.desc).map (fun d => d.parameters.length) = some 0 := by decide +kernel
theorem iX3_filled_X3 : ∀ w ∈ u_ws RX3 TX3 8, w ∈ wsX3_filled := by decide +kernel
theorem mX3_filled_1 : Cond.fieldLink RX3 28 "LentPiles" "pad" "LLentPiles$Pad;" ∈ wsX3_filled := by decide +kernel
theorem mX3_filled_2 : Cond.fieldLink RX3 12 "LentPiles" "now" "LLentPiles$Valley;" ∈ wsX3_filled := by decide +kernel
theorem mX3_filled_3 : Cond.fieldLink RX3 16 "LentPiles" "trial" "LLentPiles$Valley;" ∈ wsX3_filled := by decide +kernel
def I_X3_filled (p : Program) (l : Launch) (e : Env) (s : State) (m : MethodId) (args : Array Value) (below : List Frame) (meth : Method) (c : Code) (A : Nat → Prop) (D : va_G) (cy : Nat → ClassId) (x0 : Nat) (r2 : Nat) (r3 : Nat) (r5 : Nat) (r6 : Nat) (b1 : Nat → Nat) (b2 : Nat → Nat) (b3 : Nat → Nat) (kx : Int32) (v1 : VS) (x1 : Int32) (fu : Nat) (rr : Int32 × VS × DS) : Prop := (∀ (v2 : VS) (dv : DS) (x2 : Int32) (x3 : Int32) (x4 : Int32) (x5 : Int32) (H : Heap) (locs : List Loc) (ls : Array Slot), lpn (st_X3_filled v1 x1) fu (v2, dv, x2, x3, x4, x5) = some rr → va_P D vwCl (wX x0 (b1 0) (b2 0) r2 r3 (b3 0) r5 r6 kx (wV cy b1 v1 (wV cy b2 v2 (wD cy b3 dv [])))) H → va_D A (wX x0 (b1 0) (b2 0) r2 r3 (b3 0) r5 r6 kx (wV cy b1 v1 (wV cy b2 v2 (wD cy b3 dv [])))) → va_S A s.heap H locs → lv_has ls 6 [(0, .ref x0), (1, .int x1), (2, .int x2), (3, .int x3), (4, .int x4), (5, .int x5)] → W p l e { frames := 6, cells := 0, slots := 0, locals := 140 } s m args below meth c H locs 0 0 (MQ below (qI D (wX x0 (b1 0) (b2 0) r2 r3 (b3 0) r5 r6 kx (wV cy b1 v1 (wV cy b2 rr.2.1 (wD cy b3 rr.2.2 [])))) (rr.1) A) args s 0 0 A) (F0 m 32 ls []))
set_option maxHeartbeats 4000000 in
set_option maxRecDepth 100000 in
theorem w_X3_filled_32 {p : Program} {l : Launch} {e : Env} {s : State} {m : MethodId} {args : Array Value} {below : List Frame} {meth : Method} {c : Code} {A : Nat → Prop} {D : va_G} {cy : Nat → ClassId} {x0 : Nat} {r2 : Nat} {r3 : Nat} {r5 : Nat} {r6 : Nat} {b1 : Nat → Nat} {b2 : Nat → Nat} {b3 : Nat → Nat} {kx : Int32} {v1 : VS} {x1 : Int32} {fu : Nat} {rr : Int32 × VS × DS} (M : kM p s m args meth c cX3_filled 6 (some .int) RX3 wsX3_filled A D cy) (ih : I_X3_filled p l e s m args below meth c A D cy x0 r2 r3 r5 r6 b1 b2 b3 kx v1 x1 fu rr) {v2 : VS} {dv : DS} {x2 : Int32} {x3 : Int32} {x4 : Int32} {x5 : Int32} {oo : (VS × DS × Int32 × Int32 × Int32 × Int32) ⊕ (Int32 × VS × DS)} (h : f_X3_filled_32 v1 x1 v2 dv x2 x3 x4 x5 = some oo) (hm : lpo (st_X3_filled v1 x1) fu oo rr) {H : Heap} {locs : List Loc} {ls : Array Slot} (hP : va_P D vwCl (wX x0 (b1 0) (b2 0) r2 r3 (b3 0) r5 r6 kx (wV cy b1 v1 (wV cy b2 v2 (wD cy b3 dv [])))) H) (hD : va_D A (wX x0 (b1 0) (b2 0) r2 r3 (b3 0) r5 r6 kx (wV cy b1 v1 (wV cy b2 v2 (wD cy b3 dv []))))) (hS : va_S A s.heap H locs) (hl : lv_has ls 6 [(0, .ref x0), (1, .int x1), (2, .int x2), (3, .int x3), (4, .int x4), (5, .int x5)]) : W p l e { frames := 6, cells := 0, slots := 0, locals := 140 } s m args below meth c H locs 0 0 (MQ below (qI D (wX x0 (b1 0) (b2 0) r2 r3 (b3 0) r5 r6 kx (wV cy b1 v1 (wV cy b2 rr.2.1 (wD cy b3 rr.2.2 [])))) (rr.1) A) args s 0 0 A) (F0 m 32 ls []) := by
  obtain ⟨hx, hb, hr, hml, hown, hts, hlk, hA, hK⟩ := id M
  unfold f_X3_filled_32 at h
  refine lv_iload hx hb dX3_filled_32 (lv_at hl 5 rfl) ?_
  refine lv_iload_n hx hb dX3_filled_34 rfl (lv_at hl 2 rfl) ?_
  refine lv_icmp_ge (tgt := 109) hx hb dX3_filled_35 (by decide) (fun c_1 => ?_) (fun c_1 => ?_)
  · replace h := it_p c_1 h
    refine lv_iload_n hx hb dX3_filled_109 rfl (lv_at hl 1 rfl) ?_
    refine lv_iconst (v := (-1)) hx hb dX3_filled_110 (by decide) ?_
    refine lv_icmp_ne (tgt := 117) hx hb dX3_filled_111 (by decide) (fun c_2 => ?_) (fun c_2 => ?_)
    · replace h := it_n c_2 h
      refine lv_iload_n hx hb dX3_filled_117 rfl (lv_at hl 3 rfl) ?_
      refine lv_bipush (v := (-6)) hx hb dX3_filled_118 (by decide) ?_
      refine lv_icmp_ne (tgt := 126) hx hb dX3_filled_120 (by decide) (fun c_3 => ?_) (fun c_3 => ?_)
      · replace h := it_n c_3 h
        refine lv_aload_n hx hb dX3_filled_126 rfl (lv_at hl 0 rfl) ?_
        refine va_get (D := D) (ci := 3) (v := .ref (b3 0)) (C := RX3) (T := TX3) (N := 8) hx hb hts iX3_filled_X3 hown hK.1 hP 0 rfl rfl 4 (by decide) (hts _ mX3_filled_1) (fun _ h9 => h9) rfl dX3_filled_127 ?_
        refine lv_iload_n hx hb dX3_filled_130 rfl (lv_at hl 3 rfl) ?_
        obtain ⟨r_4, hr_4, h⟩ := bn_s h
        refine kcVv (As := [.int x3]) (rest := []) (ws' := (wX x0 (b1 0) (b2 0) r2 r3 (b3 0) r5 r6 kx (wV cy b1 v1 (wV cy b2 v2 (wD cy b3 r_4 []))))) ⟨hx, hb, hml, hown, hts⟩ (cwV 1 hts gX3_filled_X0_writeMen rfl rfl rfl ⟨rfl, eX0_writeMen⟩ ⟨Nat.le_of_ble_eq_true rfl, Nat.le_of_ble_eq_true rfl⟩) (c_X0_writeMen b3 hr_4) hK hP hD hS hA [17, 18, 19, 20, 21, 22, 23] [0, 1, 2, 3, 4, 5, 6, 7, 8, 9, 10, 11, 12, 13, 14, 15, 16] (by decide) rfl rfl 0 rfl rfl [x0, (b1 0), (b1 1), (b1 2), (b1 3), (b1 4), (b1 5), (b1 6), (b1 7), (b2 0), (b2 1), (b2 2), (b2 3), (b2 4), (b2 5), (b2 6), (b2 7), (b3 0), (b3 1), (b3 2), (b3 3), (b3 4), (b3 5), (b3 6)] rfl rfl rfl (wX x0 (b1 0) (b2 0) r2 r3 (b3 0) r5 r6 kx (wV cy b1 v1 (wV cy b2 v2 []))) rfl rfl rfl rfl hl.1 rfl (Nat.le_of_ble_eq_true rfl) dX3_filled_131 (fun H locs hP hD hS => ?_)
        refine lv_aload_n hx hb dX3_filled_134 rfl (lv_at hl 0 rfl) ?_
        refine va_get (D := D) (ci := 3) (v := .ref (b3 0)) (C := RX3) (T := TX3) (N := 8) hx hb hts iX3_filled_X3 hown hK.1 hP 0 rfl rfl 4 (by decide) (hts _ mX3_filled_1) (fun _ h9 => h9) rfl dX3_filled_135 ?_
        refine lv_iload_n hx hb dX3_filled_138 rfl (lv_at hl 1 rfl) ?_
        obtain ⟨r_5, hr_5, h⟩ := bn_s h
        refine kcVi (As := [.int x1]) (rest := []) (ws' := (wX x0 (b1 0) (b2 0) r2 r3 (b3 0) r5 r6 kx (wV cy b1 v1 (wV cy b2 v2 (wD cy b3 r_4 []))))) ⟨hx, hb, hml, hown, hts⟩ (cwV 1 hts gX3_filled_X0_manFor rfl rfl rfl ⟨rfl, eX0_manFor⟩ ⟨Nat.le_of_ble_eq_true rfl, Nat.le_of_ble_eq_true rfl⟩) (c_X0_manFor b3 hr_5) hK hP hD hS hA [17, 18, 19, 20, 21, 22, 23] [0, 1, 2, 3, 4, 5, 6, 7, 8, 9, 10, 11, 12, 13, 14, 15, 16] (by decide) rfl rfl 0 rfl rfl [x0, (b1 0), (b1 1), (b1 2), (b1 3), (b1 4), (b1 5), (b1 6), (b1 7), (b2 0), (b2 1), (b2 2), (b2 3), (b2 4), (b2 5), (b2 6), (b2 7), (b3 0), (b3 1), (b3 2), (b3 3), (b3 4), (b3 5), (b3 6)] rfl rfl rfl (wX x0 (b1 0) (b2 0) r2 r3 (b3 0) r5 r6 kx (wV cy b1 v1 (wV cy b2 v2 []))) rfl rfl rfl rfl hl.1 rfl (Nat.le_of_ble_eq_true rfl) dX3_filled_139 (fun H locs hP hD hS => ?_)
        cases h
        have hm : _ = rr := hm
        subst hm
        exact kretI hx hb hr hlk hP hS dX3_filled_142
      · replace h := it_p c_3 h
        refine lv_bipush (v := (-6)) hx hb dX3_filled_123 (by decide) ?_
        cases h
        have hm : _ = rr := hm
        subst hm
        exact kretI hx hb hr hlk hP hS dX3_filled_125
    · replace h := it_p c_2 h
      refine lv_iload hx hb dX3_filled_114 (lv_at hl 4 rfl) ?_
      cases h
      have hm : _ = rr := hm
      subst hm
      exact kretI hx hb hr hlk hP hS dX3_filled_116
  · replace h := it_n c_1 h
    refine lv_aload_n hx hb dX3_filled_38 rfl (lv_at hl 0 rfl) ?_
    refine va_get (D := D) (ci := 3) (v := .ref (b3 0)) (C := RX3) (T := TX3) (N := 8) hx hb hts iX3_filled_X3 hown hK.1 hP 0 rfl rfl 4 (by decide) (hts _ mX3_filled_1) (fun _ h9 => h9) rfl dX3_filled_39 ?_
    refine lv_iload hx hb dX3_filled_42 (lv_at hl 5 rfl) ?_
    obtain ⟨r_6, hr_6, h⟩ := bn_s h
    refine kcVv (As := [.int x5]) (rest := []) (ws' := (wX x0 (b1 0) (b2 0) r2 r3 (b3 0) r5 r6 kx (wV cy b1 v1 (wV cy b2 v2 (wD cy b3 r_6 []))))) ⟨hx, hb, hml, hown, hts⟩ (cwV 1 hts gX3_filled_X0_writeMen rfl rfl rfl ⟨rfl, eX0_writeMen⟩ ⟨Nat.le_of_ble_eq_true rfl, Nat.le_of_ble_eq_true rfl⟩) (c_X0_writeMen b3 hr_6) hK hP hD hS hA [17, 18, 19, 20, 21, 22, 23] [0, 1, 2, 3, 4, 5, 6, 7, 8, 9, 10, 11, 12, 13, 14, 15, 16] (by decide) rfl rfl 0 rfl rfl [x0, (b1 0), (b1 1), (b1 2), (b1 3), (b1 4), (b1 5), (b1 6), (b1 7), (b2 0), (b2 1), (b2 2), (b2 3), (b2 4), (b2 5), (b2 6), (b2 7), (b3 0), (b3 1), (b3 2), (b3 3), (b3 4), (b3 5), (b3 6)] rfl rfl rfl (wX x0 (b1 0) (b2 0) r2 r3 (b3 0) r5 r6 kx (wV cy b1 v1 (wV cy b2 v2 []))) rfl rfl rfl rfl hl.1 rfl (Nat.le_of_ble_eq_true rfl) dX3_filled_44 (fun H locs hP hD hS => ?_)
    refine lv_aload_n hx hb dX3_filled_47 rfl (lv_at hl 0 rfl) ?_
    refine va_get (D := D) (ci := 3) (v := .ref (b3 0)) (C := RX3) (T := TX3) (N := 8) hx hb hts iX3_filled_X3 hown hK.1 hP 0 rfl rfl 4 (by decide) (hts _ mX3_filled_1) (fun _ h9 => h9) rfl dX3_filled_48 ?_
    obtain ⟨r_7, hr_7, h⟩ := bn_s h
    refine kcVi (As := []) (rest := []) (ws' := (wX x0 (b1 0) (b2 0) r2 r3 (b3 0) r5 r6 kx (wV cy b1 v1 (wV cy b2 v2 (wD cy b3 r_6 []))))) ⟨hx, hb, hml, hown, hts⟩ (cwV 0 hts gX3_filled_X0_lendsToHimself rfl rfl rfl ⟨rfl, eX0_lendsToHimself⟩ ⟨Nat.le_of_ble_eq_true rfl, Nat.le_of_ble_eq_true rfl⟩) (c_X0_lendsToHimself b3 hr_7) hK hP hD hS hA [17, 18, 19, 20, 21, 22, 23] [0, 1, 2, 3, 4, 5, 6, 7, 8, 9, 10, 11, 12, 13, 14, 15, 16] (by decide) rfl rfl 0 rfl rfl [x0, (b1 0), (b1 1), (b1 2), (b1 3), (b1 4), (b1 5), (b1 6), (b1 7), (b2 0), (b2 1), (b2 2), (b2 3), (b2 4), (b2 5), (b2 6), (b2 7), (b3 0), (b3 1), (b3 2), (b3 3), (b3 4), (b3 5), (b3 6)] rfl rfl rfl (wX x0 (b1 0) (b2 0) r2 r3 (b3 0) r5 r6 kx (wV cy b1 v1 (wV cy b2 v2 []))) rfl rfl rfl rfl hl.1 rfl (Nat.le_of_ble_eq_true rfl) dX3_filled_51 (fun H locs hP hD hS => ?_)
    refine lv_if_ne (tgt := 103) hx hb dX3_filled_54 (by decide) (fun c_8 => ?_) (fun c_8 => ?_)
    · replace h := it_n c_8 h
      obtain ⟨x5_9, ex5_9⟩ : ∃ z : Int32, z = (x5 + (1 : Int32)) := ⟨_, rfl⟩
      replace h := nm_s h ex5_9
      refine lv_iinc (v := x5_9) (lv' := [(5, .int x5_9), (0, .ref x0), (1, .int x1), (2, .int x2), (3, .int x3), (4, .int x4)]) hx hb dX3_filled_103 hl (k := 5) rfl (by rw [ex5_9]; rfl) (by decide) rfl (fun ls hl => ?_)
      refine lv_goto (tgt := 32) hx hb dX3_filled_106 (by decide) ?_
      cases h
      exact ih v2 r_6 x2 x3 x4 x5_9 _ _ _ hm hP hD hS (lv_sub hl [1, 2, 3, 4, 5, 0] rfl)
    · replace h := it_p c_8 h
      refine lv_aload_n hx hb dX3_filled_57 rfl (lv_at hl 0 rfl) ?_
      refine va_get (D := D) (ci := 3) (v := .ref (b3 0)) (C := RX3) (T := TX3) (N := 8) hx hb hts iX3_filled_X3 hown hK.1 hP 0 rfl rfl 4 (by decide) (hts _ mX3_filled_1) (fun _ h9 => h9) rfl dX3_filled_58 ?_
      refine lv_aload_n hx hb dX3_filled_61 rfl (lv_at hl 0 rfl) ?_
      refine va_get (D := D) (ci := 3) (v := .ref (b1 0)) (C := RX3) (T := TX3) (N := 8) hx hb hts iX3_filled_X3 hown hK.1 hP 0 rfl rfl 0 (by decide) (hts _ mX3_filled_2) (fun _ h9 => h9) rfl dX3_filled_62 ?_
      refine lv_aload_n hx hb dX3_filled_65 rfl (lv_at hl 0 rfl) ?_
      refine va_get (D := D) (ci := 3) (v := .ref (b2 0)) (C := RX3) (T := TX3) (N := 8) hx hb hts iX3_filled_X3 hown hK.1 hP 0 rfl rfl 1 (by decide) (hts _ mX3_filled_3) (fun _ h9 => h9) rfl dX3_filled_66 ?_
      obtain ⟨r_10, hr_10, h⟩ := bn_s h
      refine kcVi (As := [.ref (b1 0), .ref (b2 0)]) (rest := []) (ws' := (wX x0 (b1 0) (b2 0) r2 r3 (b3 0) r5 r6 kx (wV cy b1 v1 (wV cy b2 r_10.2.2 (wD cy b3 r_10.2.1 []))))) ⟨hx, hb, hml, hown, hts⟩ (cwV 2 hts gX3_filled_X0_perform rfl rfl rfl ⟨rfl, eX0_perform⟩ ⟨Nat.le_of_ble_eq_true rfl, Nat.le_of_ble_eq_true rfl⟩) (c_X0_perform b3 b1 b2 hr_10) hK hP hD hS hA [17, 18, 19, 20, 21, 22, 23, 1, 2, 3, 4, 5, 6, 7, 8, 9, 10, 11, 12, 13, 14, 15, 16] [0] (by decide) rfl rfl 0 rfl rfl [x0, (b1 0), (b1 1), (b1 2), (b1 3), (b1 4), (b1 5), (b1 6), (b1 7), (b2 0), (b2 1), (b2 2), (b2 3), (b2 4), (b2 5), (b2 6), (b2 7), (b3 0), (b3 1), (b3 2), (b3 3), (b3 4), (b3 5), (b3 6)] rfl rfl rfl (wX x0 (b1 0) (b2 0) r2 r3 (b3 0) r5 r6 kx []) rfl rfl rfl rfl hl.1 rfl (Nat.le_of_ble_eq_true rfl) dX3_filled_69 (fun H locs hP hD hS => ?_)
      refine lv_bipush (v := (-6)) hx hb dX3_filled_72 (by decide) ?_
      refine lv_icmp_ne (tgt := 103) hx hb dX3_filled_74 (by decide) (fun c_11 => ?_) (fun c_11 => ?_)
      · replace h := it_n c_11 h
        obtain ⟨x5_12, ex5_12⟩ : ∃ z : Int32, z = (x5 + (1 : Int32)) := ⟨_, rfl⟩
        replace h := nm_s h ex5_12
        refine lv_iinc (v := x5_12) (lv' := [(5, .int x5_12), (0, .ref x0), (1, .int x1), (2, .int x2), (3, .int x3), (4, .int x4)]) hx hb dX3_filled_103 hl (k := 5) rfl (by rw [ex5_12]; rfl) (by decide) rfl (fun ls hl => ?_)
        refine lv_goto (tgt := 32) hx hb dX3_filled_106 (by decide) ?_
        cases h
        exact ih r_10.2.2 r_10.2.1 x2 x3 x4 x5_12 _ _ _ hm hP hD hS (lv_sub hl [1, 2, 3, 4, 5, 0] rfl)
      · replace h := it_p c_11 h
        refine lv_aload_n hx hb dX3_filled_77 rfl (lv_at hl 0 rfl) ?_
        refine va_get (D := D) (ci := 3) (v := .ref (b2 0)) (C := RX3) (T := TX3) (N := 8) hx hb hts iX3_filled_X3 hown hK.1 hP 0 rfl rfl 1 (by decide) (hts _ mX3_filled_3) (fun _ h9 => h9) rfl dX3_filled_78 ?_
        obtain ⟨r_13, hr_13, h⟩ := bn_s h
        refine kcVi (As := []) (rest := []) (ws' := (wX x0 (b1 0) (b2 0) r2 r3 (b3 0) r5 r6 kx (wV cy b1 v1 (wV cy b2 r_10.2.2 (wD cy b3 r_10.2.1 []))))) ⟨hx, hb, hml, hown, hts⟩ (cwV 0 hts gX3_filled_X2_sightsHold rfl rfl rfl ⟨rfl, eX2_sightsHold⟩ ⟨Nat.le_of_ble_eq_true rfl, Nat.le_of_ble_eq_true rfl⟩) (c_X2_sightsHold b2 hr_13) hK hP hD hS hA [9, 10, 11, 12, 13, 14, 15, 16] [0, 1, 2, 3, 4, 5, 6, 7, 8, 17, 18, 19, 20, 21, 22, 23] (by decide) rfl rfl 2 rfl rfl [x0, (b1 0), (b1 1), (b1 2), (b1 3), (b1 4), (b1 5), (b1 6), (b1 7), (b2 0), (b2 1), (b2 2), (b2 3), (b2 4), (b2 5), (b2 6), (b2 7), (b3 0), (b3 1), (b3 2), (b3 3), (b3 4), (b3 5), (b3 6)] rfl rfl rfl (wX x0 (b1 0) (b2 0) r2 r3 (b3 0) r5 r6 kx (wV cy b1 v1 (wD cy b3 r_10.2.1 []))) rfl rfl rfl rfl hl.1 rfl (Nat.le_of_ble_eq_true rfl) dX3_filled_81 (fun H locs hP hD hS => ?_)
        refine lv_if_eq (tgt := 103) hx hb dX3_filled_84 (by decide) (fun c_14 => ?_) (fun c_14 => ?_)
        · replace h := it_p c_14 h
          obtain ⟨x5_15, ex5_15⟩ : ∃ z : Int32, z = (x5 + (1 : Int32)) := ⟨_, rfl⟩
          replace h := nm_s h ex5_15
          refine lv_iinc (v := x5_15) (lv' := [(5, .int x5_15), (0, .ref x0), (1, .int x1), (2, .int x2), (3, .int x3), (4, .int x4)]) hx hb dX3_filled_103 hl (k := 5) rfl (by rw [ex5_15]; rfl) (by decide) rfl (fun ls hl => ?_)
          refine lv_goto (tgt := 32) hx hb dX3_filled_106 (by decide) ?_
          cases h
          exact ih r_10.2.2 r_10.2.1 x2 x3 x4 x5_15 _ _ _ hm hP hD hS (lv_sub hl [1, 2, 3, 4, 5, 0] rfl)
        · replace h := it_n c_14 h
          refine lv_iload_n hx hb dX3_filled_87 rfl (lv_at hl 3 rfl) ?_
          refine lv_bipush (v := (-6)) hx hb dX3_filled_88 (by decide) ?_
          refine lv_icmp_ne (tgt := 98) hx hb dX3_filled_90 (by decide) (fun c_16 => ?_) (fun c_16 => ?_)
          · replace h := it_n c_16 h
            refine lv_iload_n hx hb dX3_filled_98 rfl (lv_at hl 3 rfl) ?_
            refine lv_istore_n (lv' := [(3, .int x3), (0, .ref x0), (1, .int x1), (2, .int x2), (4, .int x4), (5, .int x5)]) hx hb dX3_filled_99 rfl hl (by decide) rfl (fun ls hl => ?_)
            obtain ⟨x4_17, ex4_17⟩ : ∃ z : Int32, z = (x4 + (1 : Int32)) := ⟨_, rfl⟩
            replace h := nm_s h ex4_17
            refine lv_iinc (v := x4_17) (lv' := [(4, .int x4_17), (3, .int x3), (0, .ref x0), (1, .int x1), (2, .int x2), (5, .int x5)]) hx hb dX3_filled_100 hl (k := 4) rfl (by rw [ex4_17]; rfl) (by decide) rfl (fun ls hl => ?_)
            obtain ⟨x5_18, ex5_18⟩ : ∃ z : Int32, z = (x5 + (1 : Int32)) := ⟨_, rfl⟩
            replace h := nm_s h ex5_18
            refine lv_iinc (v := x5_18) (lv' := [(5, .int x5_18), (4, .int x4_17), (3, .int x3), (0, .ref x0), (1, .int x1), (2, .int x2)]) hx hb dX3_filled_103 hl (k := 5) rfl (by rw [ex5_18]; rfl) (by decide) rfl (fun ls hl => ?_)
            refine lv_goto (tgt := 32) hx hb dX3_filled_106 (by decide) ?_
            cases h
            exact ih r_10.2.2 r_10.2.1 x2 x3 x4_17 x5_18 _ _ _ hm hP hD hS (lv_sub hl [3, 4, 5, 2, 1, 0] rfl)
          · replace h := it_p c_16 h
            refine lv_iload hx hb dX3_filled_93 (lv_at hl 5 rfl) ?_
            refine lv_goto (tgt := 99) hx hb dX3_filled_95 (by decide) ?_
            refine lv_istore_n (lv' := [(3, .int x5), (0, .ref x0), (1, .int x1), (2, .int x2), (4, .int x4), (5, .int x5)]) hx hb dX3_filled_99 rfl hl (by decide) rfl (fun ls hl => ?_)
            obtain ⟨x4_19, ex4_19⟩ : ∃ z : Int32, z = (x4 + (1 : Int32)) := ⟨_, rfl⟩
            replace h := nm_s h ex4_19
            refine lv_iinc (v := x4_19) (lv' := [(4, .int x4_19), (3, .int x5), (0, .ref x0), (1, .int x1), (2, .int x2), (5, .int x5)]) hx hb dX3_filled_100 hl (k := 4) rfl (by rw [ex4_19]; rfl) (by decide) rfl (fun ls hl => ?_)
            obtain ⟨x5_20, ex5_20⟩ : ∃ z : Int32, z = (x5 + (1 : Int32)) := ⟨_, rfl⟩
            replace h := nm_s h ex5_20
            refine lv_iinc (v := x5_20) (lv' := [(5, .int x5_20), (4, .int x4_19), (3, .int x5), (0, .ref x0), (1, .int x1), (2, .int x2)]) hx hb dX3_filled_103 hl (k := 5) rfl (by rw [ex5_20]; rfl) (by decide) rfl (fun ls hl => ?_)
            refine lv_goto (tgt := 32) hx hb dX3_filled_106 (by decide) ?_
            cases h
            exact ih r_10.2.2 r_10.2.1 x2 x5 x4_19 x5_20 _ _ _ hm hP hD hS (lv_sub hl [3, 4, 5, 2, 1, 0] rfl)
set_option maxHeartbeats 4000000 in
set_option maxRecDepth 100000 in
theorem w_X3_filled_0 {p : Program} {l : Launch} {e : Env} {s : State} {m : MethodId} {args : Array Value} {below : List Frame} {meth : Method} {c : Code} {A : Nat → Prop} {D : va_G} {cy : Nat → ClassId} {x0 : Nat} {r2 : Nat} {r3 : Nat} {r5 : Nat} {r6 : Nat} {b1 : Nat → Nat} {b2 : Nat → Nat} {b3 : Nat → Nat} {kx : Int32} {v1 : VS} {x1 : Int32} {fu : Nat} {rr : Int32 × VS × DS} (M : kM p s m args meth c cX3_filled 6 (some .int) RX3 wsX3_filled A D cy) (ih : I_X3_filled p l e s m args below meth c A D cy x0 r2 r3 r5 r6 b1 b2 b3 kx v1 x1 fu rr) {v2 : VS} {dv : DS} {oo : (VS × DS × Int32 × Int32 × Int32 × Int32) ⊕ (Int32 × VS × DS)} (h : f_X3_filled_0 v1 v2 dv x1 = some oo) (hm : lpo (st_X3_filled v1 x1) fu oo rr) {H : Heap} {locs : List Loc} {ls : Array Slot} (hP : va_P D vwCl (wX x0 (b1 0) (b2 0) r2 r3 (b3 0) r5 r6 kx (wV cy b1 v1 (wV cy b2 v2 (wD cy b3 dv [])))) H) (hD : va_D A (wX x0 (b1 0) (b2 0) r2 r3 (b3 0) r5 r6 kx (wV cy b1 v1 (wV cy b2 v2 (wD cy b3 dv []))))) (hS : va_S A s.heap H locs) (hl : lv_has ls 6 [(0, .ref x0), (1, .int x1)]) : W p l e { frames := 6, cells := 0, slots := 0, locals := 140 } s m args below meth c H locs 0 0 (MQ below (qI D (wX x0 (b1 0) (b2 0) r2 r3 (b3 0) r5 r6 kx (wV cy b1 v1 (wV cy b2 rr.2.1 (wD cy b3 rr.2.2 [])))) (rr.1) A) args s 0 0 A) (F0 m 0 ls []) := by
  obtain ⟨hx, hb, hr, hml, hown, hts, hlk, hA, hK⟩ := id M
  unfold f_X3_filled_0 at h
  refine lv_aload_n hx hb dX3_filled_0 rfl (lv_at hl 0 rfl) ?_
  refine va_get (D := D) (ci := 3) (v := .ref (b3 0)) (C := RX3) (T := TX3) (N := 8) hx hb hts iX3_filled_X3 hown hK.1 hP 0 rfl rfl 4 (by decide) (hts _ mX3_filled_1) (fun _ h9 => h9) rfl dX3_filled_1 ?_
  obtain ⟨r_1, hr_1, h⟩ := bn_s h
  refine kcVi (As := []) (rest := []) (ws' := (wX x0 (b1 0) (b2 0) r2 r3 (b3 0) r5 r6 kx (wV cy b1 v1 (wV cy b2 v2 (wD cy b3 r_1.2 []))))) ⟨hx, hb, hml, hown, hts⟩ (cwV 0 hts gX3_filled_X0_read rfl rfl rfl ⟨rfl, eX0_read⟩ ⟨Nat.le_of_ble_eq_true rfl, Nat.le_of_ble_eq_true rfl⟩) (c_X0_read b3 hr_1) hK hP hD hS hA [17, 18, 19, 20, 21, 22, 23] [0, 1, 2, 3, 4, 5, 6, 7, 8, 9, 10, 11, 12, 13, 14, 15, 16] (by decide) rfl rfl 0 rfl rfl [x0, (b1 0), (b1 1), (b1 2), (b1 3), (b1 4), (b1 5), (b1 6), (b1 7), (b2 0), (b2 1), (b2 2), (b2 3), (b2 4), (b2 5), (b2 6), (b2 7), (b3 0), (b3 1), (b3 2), (b3 3), (b3 4), (b3 5), (b3 6)] rfl rfl rfl (wX x0 (b1 0) (b2 0) r2 r3 (b3 0) r5 r6 kx (wV cy b1 v1 (wV cy b2 v2 []))) rfl rfl rfl rfl hl.1 rfl (Nat.le_of_ble_eq_true rfl) dX3_filled_4 (fun H locs hP hD hS => ?_)
  refine lv_bipush (v := (-6)) hx hb dX3_filled_7 (by decide) ?_
  refine lv_icmp_eq (tgt := 15) hx hb dX3_filled_9 (by decide) (fun c_2 => ?_) (fun c_2 => ?_)
  · replace h := it_p c_2 h
    refine lv_aload_n hx hb dX3_filled_15 rfl (lv_at hl 0 rfl) ?_
    refine va_get (D := D) (ci := 3) (v := .ref (b3 0)) (C := RX3) (T := TX3) (N := 8) hx hb hts iX3_filled_X3 hown hK.1 hP 0 rfl rfl 4 (by decide) (hts _ mX3_filled_1) (fun _ h9 => h9) rfl dX3_filled_16 ?_
    obtain ⟨r_3, hr_3, h⟩ := bn_s h
    refine kcVi (As := []) (rest := []) (ws' := (wX x0 (b1 0) (b2 0) r2 r3 (b3 0) r5 r6 kx (wV cy b1 v1 (wV cy b2 v2 (wD cy b3 r_1.2 []))))) ⟨hx, hb, hml, hown, hts⟩ (cwV 0 hts gX3_filled_X0_guesses rfl rfl rfl ⟨rfl, eX0_guesses⟩ ⟨Nat.le_of_ble_eq_true rfl, Nat.le_of_ble_eq_true rfl⟩) (c_X0_guesses b3 hr_3) hK hP hD hS hA [17, 18, 19, 20, 21, 22, 23] [0, 1, 2, 3, 4, 5, 6, 7, 8, 9, 10, 11, 12, 13, 14, 15, 16] (by decide) rfl rfl 0 rfl rfl [x0, (b1 0), (b1 1), (b1 2), (b1 3), (b1 4), (b1 5), (b1 6), (b1 7), (b2 0), (b2 1), (b2 2), (b2 3), (b2 4), (b2 5), (b2 6), (b2 7), (b3 0), (b3 1), (b3 2), (b3 3), (b3 4), (b3 5), (b3 6)] rfl rfl rfl (wX x0 (b1 0) (b2 0) r2 r3 (b3 0) r5 r6 kx (wV cy b1 v1 (wV cy b2 v2 []))) rfl rfl rfl rfl hl.1 rfl (Nat.le_of_ble_eq_true rfl) dX3_filled_19 (fun H locs hP hD hS => ?_)
    refine lv_istore_n (lv' := [(2, .int r_3), (0, .ref x0), (1, .int x1)]) hx hb dX3_filled_22 rfl hl (by decide) rfl (fun ls hl => ?_)
    refine lv_bipush (v := (-6)) hx hb dX3_filled_23 (by decide) ?_
    refine lv_istore_n (lv' := [(3, .int (-6 : Int32)), (2, .int r_3), (0, .ref x0), (1, .int x1)]) hx hb dX3_filled_25 rfl hl (by decide) rfl (fun ls hl => ?_)
    refine lv_iconst (v := 0) hx hb dX3_filled_26 (by decide) ?_
    refine lv_istore (lv' := [(4, .int (0 : Int32)), (3, .int (-6 : Int32)), (2, .int r_3), (0, .ref x0), (1, .int x1)]) hx hb dX3_filled_27 hl (by decide) rfl (fun ls hl => ?_)
    refine lv_iconst (v := 0) hx hb dX3_filled_29 (by decide) ?_
    refine lv_istore (lv' := [(5, .int (0 : Int32)), (4, .int (0 : Int32)), (3, .int (-6 : Int32)), (2, .int r_3), (0, .ref x0), (1, .int x1)]) hx hb dX3_filled_30 hl (by decide) rfl (fun ls hl => ?_)
    cases h
    exact ih v2 r_1.2 r_3 (-6 : Int32) (0 : Int32) (0 : Int32) _ _ _ hm hP hD hS (lv_sub hl [4, 5, 3, 2, 1, 0] rfl)
  · replace h := it_n c_2 h
    refine lv_bipush (v := (-5)) hx hb dX3_filled_12 (by decide) ?_
    cases h
    have hm : _ = rr := hm
    subst hm
    exact kretI hx hb hr hlk hP hS dX3_filled_14
theorem wl_X3_filled {p : Program} {l : Launch} {e : Env} {s : State} {m : MethodId} {args : Array Value} {below : List Frame} {meth : Method} {c : Code} {A : Nat → Prop} {D : va_G} {cy : Nat → ClassId} {x0 : Nat} {r2 : Nat} {r3 : Nat} {r5 : Nat} {r6 : Nat} {b1 : Nat → Nat} {b2 : Nat → Nat} {b3 : Nat → Nat} {kx : Int32} {v1 : VS} {x1 : Int32} {rr : Int32 × VS × DS} (M : kM p s m args meth c cX3_filled 6 (some .int) RX3 wsX3_filled A D cy) : ∀ fu : Nat, I_X3_filled p l e s m args below meth c A D cy x0 r2 r3 r5 r6 b1 b2 b3 kx v1 x1 fu rr := by
  intro fu
  induction fu with
  | zero => exact (fun _ _ _ _ _ _ _ _ _ h => by cases h)
  | succ fu ih =>
    exact fun v2 dv x2 x3 x4 x5 H locs ls h hP hD hS hl => by
      obtain ⟨o1, h1, h2⟩ := lpn_s h
      exact w_X3_filled_32 M ih h1 h2 hP hD hS hl
theorem c_X3_filled {l : Launch} {D : va_G} {cy : Nat → ClassId} (x0 : Nat) (r2 : Nat) (r3 : Nat) (r5 : Nat) (r6 : Nat) (b1 : Nat → Nat) (b2 : Nat → Nat) (b3 : Nat → Nat) (kx : Int32) {v1 : VS} {v2 : VS} {dv : DS} {x1 : Int32} {rr : Int32 × VS × DS} (h : f_X3_filled v1 v2 dv x1 = some rr) : CI l D cy yX3_filled wsX3_filled { frames := 6, cells := 0, slots := 0, locals := 140 } [.ref x0, .int x1] (wX x0 (b1 0) (b2 0) r2 r3 (b3 0) r5 r6 kx (wV cy b1 v1 (wV cy b2 v2 (wD cy b3 dv [])))) (rr.1) (wX x0 (b1 0) (b2 0) r2 r3 (b3 0) r5 r6 kx (wV cy b1 v1 (wV cy b2 rr.2.1 (wD cy b3 rr.2.2 [])))) := by
  refine kofI (cc := cX3_filled) (maxL := 6) (ret := (some .int)) (by decide) rfl (Nat.le_of_ble_eq_true rfl) ?_
  intro p e s m below meth c A M ls hl hP hD hS
  obtain ⟨o1, fu, h1, h2⟩ := rnx_s h
  exact w_X3_filled_0 M (wl_X3_filled M fu) h1 h2 hP hD hS hl
theorem eX3_filled : yX3_filled.cls ≠ "java/lang/invoke/MethodHandle" ∧ yX3_filled.cls ≠ "java/lang/invoke/VarHandle" ∧ (parseMethodDescriptor yX3_filled.desc).map (fun d => d.parameters.length) = some 1 := by decide +kernel
theorem iX3_forget_X3 : ∀ w ∈ u_ws RX3 TX3 8, w ∈ wsX3_forget := by decide +kernel
theorem iX3_forget_X2 : ∀ w ∈ u_ws RX2 TX2 11, w ∈ wsX3_forget := by decide +kernel
theorem mX3_forget_1 : Cond.fieldLink RX3 12 "LentPiles" "now" "LLentPiles$Valley;" ∈ wsX3_forget := by decide +kernel
set_option maxHeartbeats 4000000 in
set_option maxRecDepth 100000 in
theorem w_X3_forget_0 {p : Program} {l : Launch} {e : Env} {s : State} {m : MethodId} {args : Array Value} {below : List Frame} {meth : Method} {c : Code} {A : Nat → Prop} {D : va_G} {cy : Nat → ClassId} {x0 : Nat} {r1 : Nat} {r2 : Nat} {r3 : Nat} {r4 : Nat} {r5 : Nat} {r6 : Nat} {b1 : Nat → Nat} {kx : Int32} {rr : Int32 × VS} (M : kM p s m args meth c cX3_forget 2 (some .int) RX3 wsX3_forget A D cy) {vv : VS} (h : f_X3_forget vv = some rr) {H : Heap} {locs : List Loc} {ls : Array Slot} (hP : va_P D vwCl (wX x0 (b1 0) r1 r2 r3 r4 r5 r6 kx (wV cy b1 vv [])) H) (hD : va_D A (wX x0 (b1 0) r1 r2 r3 r4 r5 r6 kx (wV cy b1 vv []))) (hS : va_S A s.heap H locs) (hl : lv_has ls 2 [(0, .ref x0)]) : W p l e { frames := 0, cells := 0, slots := 0, locals := 0 } s m args below meth c H locs 0 0 (MQ below (qI D (wX x0 (b1 0) r1 r2 r3 r4 r5 r6 kx (wV cy b1 rr.2 [])) (rr.1) A) args s 0 0 A) (F0 m 0 ls []) := by
  obtain ⟨hx, hb, hr, hml, hown, hts, hlk, hA, hK⟩ := id M
  unfold f_X3_forget at h
  refine lv_aload_n hx hb dX3_forget_0 rfl (lv_at hl 0 rfl) ?_
  refine va_get (D := D) (ci := 3) (v := .ref (b1 0)) (C := RX3) (T := TX3) (N := 8) hx hb hts iX3_forget_X3 hown hK.1 hP 0 rfl rfl 0 (by decide) (hts _ mX3_forget_1) (fun _ h9 => h9) rfl dX3_forget_1 ?_
  refine va_getN (D := D) (ci := 2) (v := .int vv.2.2.2.2.2.2.2.1) (C := RX2) (T := TX2) (N := 11) hx hb hts iX3_forget_X2 hown hK.1 hP 1 rfl rfl 7 (by decide) (va_Nw.use rfl (kN_123 hK.2)) (fun _ h9 => h9) rfl dX3_forget_4 ?_
  refine lv_topi (fun x1_1 ex1_1 => ?_)
  replace h := nm_s h ex1_1
  refine lv_istore_n (lv' := [(1, .int x1_1), (0, .ref x0)]) hx hb dX3_forget_7 rfl hl (by decide) rfl (fun ls hl => ?_)
  refine lv_aload_n hx hb dX3_forget_8 rfl (lv_at hl 1 rfl) ?_
  refine va_get (D := D) (ci := 3) (v := .ref (b1 0)) (C := RX3) (T := TX3) (N := 8) hx hb hts iX3_forget_X3 hown hK.1 hP 0 rfl rfl 0 (by decide) (hts _ mX3_forget_1) (fun _ h9 => h9) rfl dX3_forget_9 ?_
  refine lv_iconst (v := 0) hx hb dX3_forget_12 (by decide) ?_
  refine va_putN (D := D) (ci := 2) (v := .int (0 : Int32)) (ty := .int) (C := RX2) (T := TX2) (N := 11) hx hb hts iX3_forget_X2 tyX2 tyX2_ok nmX2 hown hK.1 hP hD hS 1 rfl rfl 7 (by decide) (va_Nw.use rfl (kN_123 hK.2)) (fun _ h9 => h9) rfl (by decide +kernel) rfl rfl (Nat.le_of_ble_eq_true rfl) dX3_forget_13 (fun H locs hP hD hS => ?_)
  obtain ⟨vv_2, evv_2⟩ : ∃ z : VS, z = (vv.1, vv.2.1, vv.2.2.1, vv.2.2.2.1, vv.2.2.2.2.1, vv.2.2.2.2.2.1, vv.2.2.2.2.2.2.1, (0 : Int32), vv.2.2.2.2.2.2.2.2) := ⟨_, rfl⟩
  replace h := nm_s h evv_2
  have hP : va_P D vwCl (wX x0 (b1 0) r1 r2 r3 r4 r5 r6 kx (wV cy b1 vv_2 [])) H := by subst evv_2; exact hP
  have hD : va_D A (wX x0 (b1 0) r1 r2 r3 r4 r5 r6 kx (wV cy b1 vv_2 [])) := hD.lk [x0, (b1 0), (b1 1), (b1 2), (b1 3), (b1 4), (b1 5), (b1 6), (b1 7)] rfl rfl
  refine lv_iload_n hx hb dX3_forget_16 rfl (lv_at hl 0 rfl) ?_
  cases h
  exact kretI hx hb hr hlk hP hS dX3_forget_17
theorem c_X3_forget {l : Launch} {D : va_G} {cy : Nat → ClassId} (x0 : Nat) (r1 : Nat) (r2 : Nat) (r3 : Nat) (r4 : Nat) (r5 : Nat) (r6 : Nat) (b1 : Nat → Nat) (kx : Int32) {vv : VS} {rr : Int32 × VS} (h : f_X3_forget vv = some rr) : CI l D cy yX3_forget wsX3_forget { frames := 0, cells := 0, slots := 0, locals := 0 } [.ref x0] (wX x0 (b1 0) r1 r2 r3 r4 r5 r6 kx (wV cy b1 vv [])) (rr.1) (wX x0 (b1 0) r1 r2 r3 r4 r5 r6 kx (wV cy b1 rr.2 [])) := by
  refine kofI (cc := cX3_forget) (maxL := 2) (ret := (some .int)) (by decide) rfl (Nat.le_of_ble_eq_true rfl) ?_
  intro p e s m below meth c A M ls hl hP hD hS
  exact w_X3_forget_0 M h hP hD hS hl
theorem eX3_forget : yX3_forget.cls ≠ "java/lang/invoke/MethodHandle" ∧ yX3_forget.cls ≠ "java/lang/invoke/VarHandle" ∧ (parseMethodDescriptor yX3_forget.desc).map (fun d => d.parameters.length) = some 0 := by decide +kernel
theorem iX3_give_X3 : ∀ w ∈ u_ws RX3 TX3 8, w ∈ wsX3_give := by decide +kernel
theorem mX3_give_1 : Cond.fieldLink RX3 12 "LentPiles" "now" "LLentPiles$Valley;" ∈ wsX3_give := by decide +kernel
set_option maxHeartbeats 4000000 in
set_option maxRecDepth 100000 in
theorem w_X3_give_0 {p : Program} {l : Launch} {e : Env} {s : State} {m : MethodId} {args : Array Value} {below : List Frame} {meth : Method} {c : Code} {A : Nat → Prop} {D : va_G} {cy : Nat → ClassId} {x0 : Nat} {r1 : Nat} {r2 : Nat} {r3 : Nat} {r4 : Nat} {r5 : Nat} {r6 : Nat} {b1 : Nat → Nat} {kx : Int32} {x1 : Int32} {x2 : Int32} {x3 : Int32} {rr : Int32 × VS} (M : kM p s m args meth c cX3_give 5 (some .int) RX3 wsX3_give A D cy) {vv : VS} (h : f_X3_give vv x1 x2 x3 = some rr) {H : Heap} {locs : List Loc} {ls : Array Slot} (hP : va_P D vwCl (wX x0 (b1 0) r1 r2 r3 r4 r5 r6 kx (wV cy b1 vv [])) H) (hD : va_D A (wX x0 (b1 0) r1 r2 r3 r4 r5 r6 kx (wV cy b1 vv []))) (hS : va_S A s.heap H locs) (hl : lv_has ls 5 [(0, .ref x0), (1, .int x1), (2, .int x2), (3, .int x3)]) : W p l e { frames := 2, cells := 0, slots := 0, locals := 45 } s m args below meth c H locs 0 0 (MQ below (qI D (wX x0 (b1 0) r1 r2 r3 r4 r5 r6 kx (wV cy b1 rr.2 [])) (rr.1) A) args s 0 0 A) (F0 m 0 ls []) := by
  obtain ⟨hx, hb, hr, hml, hown, hts, hlk, hA, hK⟩ := id M
  unfold f_X3_give at h
  refine lv_aload_n hx hb dX3_give_0 rfl (lv_at hl 0 rfl) ?_
  refine va_get (D := D) (ci := 3) (v := .ref (b1 0)) (C := RX3) (T := TX3) (N := 8) hx hb hts iX3_give_X3 hown hK.1 hP 0 rfl rfl 0 (by decide) (hts _ mX3_give_1) (fun _ h9 => h9) rfl dX3_give_1 ?_
  refine lv_iload_n hx hb dX3_give_4 rfl (lv_at hl 1 rfl) ?_
  refine lv_iload_n hx hb dX3_give_5 rfl (lv_at hl 2 rfl) ?_
  obtain ⟨r_1, hr_1, h⟩ := bn_s h
  refine kcVi (As := [.int x1, .int x2]) (rest := []) (ws' := (wX x0 (b1 0) r1 r2 r3 r4 r5 r6 kx (wV cy b1 vv []))) ⟨hx, hb, hml, hown, hts⟩ (cwV 2 hts gX3_give_X2_hasDebt rfl rfl rfl ⟨rfl, eX2_hasDebt⟩ ⟨Nat.le_of_ble_eq_true rfl, Nat.le_of_ble_eq_true rfl⟩) (c_X2_hasDebt b1 hr_1) hK hP hD hS hA [1, 2, 3, 4, 5, 6, 7, 8] [0] (by decide) rfl rfl 2 rfl rfl [x0, (b1 0), (b1 1), (b1 2), (b1 3), (b1 4), (b1 5), (b1 6), (b1 7)] rfl rfl rfl (wX x0 (b1 0) r1 r2 r3 r4 r5 r6 kx []) rfl rfl rfl rfl hl.1 rfl (Nat.le_of_ble_eq_true rfl) dX3_give_6 (fun H locs hP hD hS => ?_)
  refine lv_if_eq (tgt := 24) hx hb dX3_give_9 (by decide) (fun c_2 => ?_) (fun c_2 => ?_)
  · replace h := it_p c_2 h
    refine lv_iconst (v := (-1)) hx hb dX3_give_24 (by decide) ?_
    cases h
    exact kretI hx hb hr hlk hP hS dX3_give_25
  · replace h := it_n c_2 h
    refine lv_iload_n hx hb dX3_give_12 rfl (lv_at hl 3 rfl) ?_
    obtain ⟨r_3, hr_3, h⟩ := bn_s h
    refine kcSi (As := [.int x3]) (rest := []) ⟨hx, hb, hml, hown, hts⟩ (va_cwS 1 hts gX3_give_X3_isMan rfl rfl rfl eX3_isMan ⟨Nat.le_of_ble_eq_true rfl, Nat.le_of_ble_eq_true rfl⟩) (c_X3_isMan  hr_3) hK hP hS hA rfl hl.1 rfl (Nat.le_of_ble_eq_true rfl) dX3_give_13 (fun H locs hP hS => ?_)
    refine lv_if_eq (tgt := 24) hx hb dX3_give_16 (by decide) (fun c_4 => ?_) (fun c_4 => ?_)
    · replace h := it_p c_4 h
      refine lv_iconst (v := (-1)) hx hb dX3_give_24 (by decide) ?_
      cases h
      exact kretI hx hb hr hlk hP hS dX3_give_25
    · replace h := it_n c_4 h
      refine lv_iload_n hx hb dX3_give_19 rfl (lv_at hl 3 rfl) ?_
      refine lv_iload_n hx hb dX3_give_20 rfl (lv_at hl 1 rfl) ?_
      refine lv_icmp_ne (tgt := 26) hx hb dX3_give_21 (by decide) (fun c_5 => ?_) (fun c_5 => ?_)
      · replace h := it_n c_5 h
        refine lv_aload_n hx hb dX3_give_26 rfl (lv_at hl 0 rfl) ?_
        refine va_get (D := D) (ci := 3) (v := .ref (b1 0)) (C := RX3) (T := TX3) (N := 8) hx hb hts iX3_give_X3 hown hK.1 hP 0 rfl rfl 0 (by decide) (hts _ mX3_give_1) (fun _ h9 => h9) rfl dX3_give_27 ?_
        refine lv_iload_n hx hb dX3_give_30 rfl (lv_at hl 1 rfl) ?_
        refine lv_iload_n hx hb dX3_give_31 rfl (lv_at hl 2 rfl) ?_
        obtain ⟨r_6, hr_6, h⟩ := bn_s h
        refine kcVi (As := [.int x1, .int x2]) (rest := []) (ws' := (wX x0 (b1 0) r1 r2 r3 r4 r5 r6 kx (wV cy b1 vv []))) ⟨hx, hb, hml, hown, hts⟩ (cwV 2 hts gX3_give_X2_lenderOf rfl rfl rfl ⟨rfl, eX2_lenderOf⟩ ⟨Nat.le_of_ble_eq_true rfl, Nat.le_of_ble_eq_true rfl⟩) (c_X2_lenderOf b1 hr_6) hK hP hD hS hA [1, 2, 3, 4, 5, 6, 7, 8] [0] (by decide) rfl rfl 2 rfl rfl [x0, (b1 0), (b1 1), (b1 2), (b1 3), (b1 4), (b1 5), (b1 6), (b1 7)] rfl rfl rfl (wX x0 (b1 0) r1 r2 r3 r4 r5 r6 kx []) rfl rfl rfl rfl hl.1 rfl (Nat.le_of_ble_eq_true rfl) dX3_give_32 (fun H locs hP hD hS => ?_)
        refine lv_istore (lv' := [(4, .int r_6), (0, .ref x0), (1, .int x1), (2, .int x2), (3, .int x3)]) hx hb dX3_give_35 hl (by decide) rfl (fun ls hl => ?_)
        refine lv_aload_n hx hb dX3_give_37 rfl (lv_at hl 1 rfl) ?_
        refine va_get (D := D) (ci := 3) (v := .ref (b1 0)) (C := RX3) (T := TX3) (N := 8) hx hb hts iX3_give_X3 hown hK.1 hP 0 rfl rfl 0 (by decide) (hts _ mX3_give_1) (fun _ h9 => h9) rfl dX3_give_38 ?_
        refine lv_iload_n hx hb dX3_give_41 rfl (lv_at hl 2 rfl) ?_
        refine lv_iload_n hx hb dX3_give_42 rfl (lv_at hl 3 rfl) ?_
        refine lv_iload_n hx hb dX3_give_43 rfl (lv_at hl 4 rfl) ?_
        obtain ⟨r_7, hr_7, h⟩ := bn_s h
        refine kcVv (As := [.int x1, .int x2, .int x3]) (rest := []) (ws' := (wX x0 (b1 0) r1 r2 r3 r4 r5 r6 kx (wV cy b1 r_7 []))) ⟨hx, hb, hml, hown, hts⟩ (cwV 3 hts gX3_give_X2_changeLender rfl rfl rfl ⟨rfl, eX2_changeLender⟩ ⟨Nat.le_of_ble_eq_true rfl, Nat.le_of_ble_eq_true rfl⟩) (c_X2_changeLender b1 hr_7) hK hP hD hS hA [1, 2, 3, 4, 5, 6, 7, 8] [0] (by decide) rfl rfl 2 rfl rfl [x0, (b1 0), (b1 1), (b1 2), (b1 3), (b1 4), (b1 5), (b1 6), (b1 7)] rfl rfl rfl (wX x0 (b1 0) r1 r2 r3 r4 r5 r6 kx []) rfl rfl rfl rfl hl.1 rfl (Nat.le_of_ble_eq_true rfl) dX3_give_44 (fun H locs hP hD hS => ?_)
        refine lv_iload hx hb dX3_give_47 (lv_at hl 0 rfl) ?_
        cases h
        exact kretI hx hb hr hlk hP hS dX3_give_49
      · replace h := it_p c_5 h
        refine lv_iconst (v := (-1)) hx hb dX3_give_24 (by decide) ?_
        cases h
        exact kretI hx hb hr hlk hP hS dX3_give_25
theorem c_X3_give {l : Launch} {D : va_G} {cy : Nat → ClassId} (x0 : Nat) (r1 : Nat) (r2 : Nat) (r3 : Nat) (r4 : Nat) (r5 : Nat) (r6 : Nat) (b1 : Nat → Nat) (kx : Int32) {vv : VS} {x1 : Int32} {x2 : Int32} {x3 : Int32} {rr : Int32 × VS} (h : f_X3_give vv x1 x2 x3 = some rr) : CI l D cy yX3_give wsX3_give { frames := 2, cells := 0, slots := 0, locals := 45 } [.ref x0, .int x1, .int x2, .int x3] (wX x0 (b1 0) r1 r2 r3 r4 r5 r6 kx (wV cy b1 vv [])) (rr.1) (wX x0 (b1 0) r1 r2 r3 r4 r5 r6 kx (wV cy b1 rr.2 [])) := by
  refine kofI (cc := cX3_give) (maxL := 5) (ret := (some .int)) (by decide) rfl (Nat.le_of_ble_eq_true rfl) ?_
  intro p e s m below meth c A M ls hl hP hD hS
  exact w_X3_give_0 M h hP hD hS hl
theorem eX3_give : yX3_give.cls ≠ "java/lang/invoke/MethodHandle" ∧ yX3_give.cls ≠ "java/lang/invoke/VarHandle" ∧ (parseMethodDescriptor yX3_give.desc).map (fun d => d.parameters.length) = some 3 := by decide +kernel
theorem iX3_leastHelp_X3 : ∀ w ∈ u_ws RX3 TX3 8, w ∈ wsX3_leastHelp := by decide +kernel
theorem mX3_leastHelp_1 : Cond.fieldLink RX3 35 "LentPiles" "payings" "LLentPiles$Payings;" ∈ wsX3_leastHelp := by decide +kernel
theorem mX3_leastHelp_2 : Cond.fieldLink RX3 12 "LentPiles" "now" "LLentPiles$Valley;" ∈ wsX3_leastHelp := by decide +kernel
set_option maxHeartbeats 4000000 in
set_option maxRecDepth 100000 in
theorem w_X3_leastHelp_0 {p : Program} {l : Launch} {e : Env} {s : State} {m : MethodId} {args : Array Value} {below : List Frame} {meth : Method} {c : Code} {A : Nat → Prop} {D : va_G} {cy : Nat → ClassId} {x0 : Nat} {r1 : Nat} {r2 : Nat} {r3 : Nat} {r4 : Nat} {r6 : Nat} {b1 : Nat → Nat} {b2 : Nat → Nat} {kx : Int32} {vv : VS} {x1 : Int32} {rr : Int32 × YS} (M : kM p s m args meth c cX3_leastHelp 2 (some .int) RX3 wsX3_leastHelp A D cy) {yv : YS} (h : f_X3_leastHelp vv yv x1 = some rr) {H : Heap} {locs : List Loc} {ls : Array Slot} (hP : va_P D vwCl (wX x0 (b1 0) r1 r2 r3 r4 (b2 0) r6 kx (wV cy b1 vv (wY cy b2 yv []))) H) (hD : va_D A (wX x0 (b1 0) r1 r2 r3 r4 (b2 0) r6 kx (wV cy b1 vv (wY cy b2 yv [])))) (hS : va_S A s.heap H locs) (hl : lv_has ls 2 [(0, .ref x0), (1, .int x1)]) : W p l e { frames := 4, cells := 0, slots := 0, locals := 96 } s m args below meth c H locs 0 0 (MQ below (qI D (wX x0 (b1 0) r1 r2 r3 r4 (b2 0) r6 kx (wV cy b1 vv (wY cy b2 rr.2 []))) (rr.1) A) args s 0 0 A) (F0 m 0 ls []) := by
  obtain ⟨hx, hb, hr, hml, hown, hts, hlk, hA, hK⟩ := id M
  unfold f_X3_leastHelp at h
  refine lv_aload_n hx hb dX3_leastHelp_0 rfl (lv_at hl 0 rfl) ?_
  refine va_get (D := D) (ci := 3) (v := .ref (b2 0)) (C := RX3) (T := TX3) (N := 8) hx hb hts iX3_leastHelp_X3 hown hK.1 hP 0 rfl rfl 5 (by decide) (hts _ mX3_leastHelp_1) (fun _ h9 => h9) rfl dX3_leastHelp_1 ?_
  refine lv_aload_n hx hb dX3_leastHelp_4 rfl (lv_at hl 0 rfl) ?_
  refine va_get (D := D) (ci := 3) (v := .ref (b1 0)) (C := RX3) (T := TX3) (N := 8) hx hb hts iX3_leastHelp_X3 hown hK.1 hP 0 rfl rfl 0 (by decide) (hts _ mX3_leastHelp_2) (fun _ h9 => h9) rfl dX3_leastHelp_5 ?_
  obtain ⟨r_1, hr_1, h⟩ := bn_s h
  refine kcVv (As := [.ref (b1 0)]) (rest := []) (ws' := (wX x0 (b1 0) r1 r2 r3 r4 (b2 0) r6 kx (wV cy b1 vv (wY cy b2 r_1 [])))) ⟨hx, hb, hml, hown, hts⟩ (cwV 1 hts gX3_leastHelp_X1_load rfl rfl rfl ⟨rfl, eX1_load⟩ ⟨Nat.le_of_ble_eq_true rfl, Nat.le_of_ble_eq_true rfl⟩) (c_X1_load b2 b1 hr_1) hK hP hD hS hA [9, 10, 11, 12, 13, 14, 15, 16, 17, 18, 1, 2, 3, 4, 5, 6, 7, 8] [0] (by decide) rfl rfl 1 rfl rfl [x0, (b1 0), (b1 1), (b1 2), (b1 3), (b1 4), (b1 5), (b1 6), (b1 7), (b2 0), (b2 1), (b2 2), (b2 3), (b2 4), (b2 5), (b2 6), (b2 7), (b2 8), (b2 9)] rfl rfl rfl (wX x0 (b1 0) r1 r2 r3 r4 (b2 0) r6 kx []) rfl rfl rfl rfl hl.1 rfl (Nat.le_of_ble_eq_true rfl) dX3_leastHelp_8 (fun H locs hP hD hS => ?_)
  refine lv_aload_n hx hb dX3_leastHelp_11 rfl (lv_at hl 0 rfl) ?_
  refine va_get (D := D) (ci := 3) (v := .ref (b2 0)) (C := RX3) (T := TX3) (N := 8) hx hb hts iX3_leastHelp_X3 hown hK.1 hP 0 rfl rfl 5 (by decide) (hts _ mX3_leastHelp_1) (fun _ h9 => h9) rfl dX3_leastHelp_12 ?_
  refine lv_iload_n hx hb dX3_leastHelp_15 rfl (lv_at hl 1 rfl) ?_
  obtain ⟨r_2, hr_2, h⟩ := bn_s h
  refine kcVi (As := [.int x1]) (rest := []) (ws' := (wX x0 (b1 0) r1 r2 r3 r4 (b2 0) r6 kx (wV cy b1 vv (wY cy b2 r_2.2 [])))) ⟨hx, hb, hml, hown, hts⟩ (cwV 1 hts gX3_leastHelp_X1_leastHelp rfl rfl rfl ⟨rfl, eX1_leastHelp⟩ ⟨Nat.le_of_ble_eq_true rfl, Nat.le_of_ble_eq_true rfl⟩) (c_X1_leastHelp b2 hr_2) hK hP hD hS hA [9, 10, 11, 12, 13, 14, 15, 16, 17, 18] [0, 1, 2, 3, 4, 5, 6, 7, 8] (by decide) rfl rfl 1 rfl rfl [x0, (b1 0), (b1 1), (b1 2), (b1 3), (b1 4), (b1 5), (b1 6), (b1 7), (b2 0), (b2 1), (b2 2), (b2 3), (b2 4), (b2 5), (b2 6), (b2 7), (b2 8), (b2 9)] rfl rfl rfl (wX x0 (b1 0) r1 r2 r3 r4 (b2 0) r6 kx (wV cy b1 vv [])) rfl rfl rfl rfl hl.1 rfl (Nat.le_of_ble_eq_true rfl) dX3_leastHelp_16 (fun H locs hP hD hS => ?_)
  cases h
  exact kretI hx hb hr hlk hP hS dX3_leastHelp_19
theorem c_X3_leastHelp {l : Launch} {D : va_G} {cy : Nat → ClassId} (x0 : Nat) (r1 : Nat) (r2 : Nat) (r3 : Nat) (r4 : Nat) (r6 : Nat) (b1 : Nat → Nat) (b2 : Nat → Nat) (kx : Int32) {vv : VS} {yv : YS} {x1 : Int32} {rr : Int32 × YS} (h : f_X3_leastHelp vv yv x1 = some rr) : CI l D cy yX3_leastHelp wsX3_leastHelp { frames := 4, cells := 0, slots := 0, locals := 96 } [.ref x0, .int x1] (wX x0 (b1 0) r1 r2 r3 r4 (b2 0) r6 kx (wV cy b1 vv (wY cy b2 yv []))) (rr.1) (wX x0 (b1 0) r1 r2 r3 r4 (b2 0) r6 kx (wV cy b1 vv (wY cy b2 rr.2 []))) := by
  refine kofI (cc := cX3_leastHelp) (maxL := 2) (ret := (some .int)) (by decide) rfl (Nat.le_of_ble_eq_true rfl) ?_
  intro p e s m below meth c A M ls hl hP hD hS
  exact w_X3_leastHelp_0 M h hP hD hS hl
theorem eX3_leastHelp : yX3_leastHelp.cls ≠ "java/lang/invoke/MethodHandle" ∧ yX3_leastHelp.cls ≠ "java/lang/invoke/VarHandle" ∧ (parseMethodDescriptor yX3_leastHelp.desc).map (fun d => d.parameters.length) = some 1 := by decide +kernel
set_option maxHeartbeats 4000000 in
set_option maxRecDepth 100000 in
theorem w_X3_help_0 {p : Program} {l : Launch} {e : Env} {s : State} {m : MethodId} {args : Array Value} {below : List Frame} {meth : Method} {c : Code} {A : Nat → Prop} {D : va_G} {cy : Nat → ClassId} {x0 : Nat} {r1 : Nat} {r2 : Nat} {r3 : Nat} {r4 : Nat} {r6 : Nat} {b1 : Nat → Nat} {b2 : Nat → Nat} {kx : Int32} {vv : VS} {x1 : Int32} {rr : Int32 × YS} (M : kM p s m args meth c cX3_help 2 (some .int) RX3 wsX3_help A D cy) {yv : YS} (h : f_X3_help vv yv x1 = some rr) {H : Heap} {locs : List Loc} {ls : Array Slot} (hP : va_P D vwCl (wX x0 (b1 0) r1 r2 r3 r4 (b2 0) r6 kx (wV cy b1 vv (wY cy b2 yv []))) H) (hD : va_D A (wX x0 (b1 0) r1 r2 r3 r4 (b2 0) r6 kx (wV cy b1 vv (wY cy b2 yv [])))) (hS : va_S A s.heap H locs) (hl : lv_has ls 2 [(0, .ref x0), (1, .int x1)]) : W p l e { frames := 5, cells := 0, slots := 0, locals := 117 } s m args below meth c H locs 0 0 (MQ below (qI D (wX x0 (b1 0) r1 r2 r3 r4 (b2 0) r6 kx (wV cy b1 vv (wY cy b2 rr.2 []))) (rr.1) A) args s 0 0 A) (F0 m 0 ls []) := by
  obtain ⟨hx, hb, hr, hml, hown, hts, hlk, hA, hK⟩ := id M
  unfold f_X3_help at h
  refine lv_iload_n hx hb dX3_help_0 rfl (lv_at hl 1 rfl) ?_
  obtain ⟨r_1, hr_1, h⟩ := bn_s h
  refine kcSi (As := [.int x1]) (rest := []) ⟨hx, hb, hml, hown, hts⟩ (va_cwS 1 hts gX3_help_X3_isMan rfl rfl rfl eX3_isMan ⟨Nat.le_of_ble_eq_true rfl, Nat.le_of_ble_eq_true rfl⟩) (c_X3_isMan  hr_1) hK hP hS hA rfl hl.1 rfl (Nat.le_of_ble_eq_true rfl) dX3_help_1 (fun H locs hP hS => ?_)
  refine lv_if_eq (tgt := 15) hx hb dX3_help_4 (by decide) (fun c_2 => ?_) (fun c_2 => ?_)
  · replace h := it_p c_2 h
    refine lv_iconst (v := (-1)) hx hb dX3_help_15 (by decide) ?_
    cases h
    exact kretI hx hb hr hlk hP hS dX3_help_16
  · replace h := it_n c_2 h
    refine lv_aload_n hx hb dX3_help_7 rfl (lv_at hl 0 rfl) ?_
    refine lv_iload_n hx hb dX3_help_8 rfl (lv_at hl 1 rfl) ?_
    obtain ⟨r_3, hr_3, h⟩ := bn_s h
    refine kcVi (As := [.int x1]) (rest := []) (ws' := (wX x0 (b1 0) r1 r2 r3 r4 (b2 0) r6 kx (wV cy b1 vv (wY cy b2 r_3.2 [])))) ⟨hx, hb, hml, hown, hts⟩ (cwV 1 hts gX3_help_X3_leastHelp rfl rfl rfl ⟨rfl, eX3_leastHelp⟩ ⟨Nat.le_of_ble_eq_true rfl, Nat.le_of_ble_eq_true rfl⟩) (c_X3_leastHelp x0 r1 r2 r3 r4 r6 b1 b2 kx hr_3) hK hP hD hS hA [0, 1, 2, 3, 4, 5, 6, 7, 8, 9, 10, 11, 12, 13, 14, 15, 16, 17, 18] [] (by decide) rfl rfl 3 rfl rfl [x0, (b1 0), (b1 1), (b1 2), (b1 3), (b1 4), (b1 5), (b1 6), (b1 7), (b2 0), (b2 1), (b2 2), (b2 3), (b2 4), (b2 5), (b2 6), (b2 7), (b2 8), (b2 9)] rfl rfl rfl [] rfl rfl rfl rfl hl.1 rfl (Nat.le_of_ble_eq_true rfl) dX3_help_9 (fun H locs hP hD hS => ?_)
    refine lv_goto (tgt := 16) hx hb dX3_help_12 (by decide) ?_
    cases h
    exact kretI hx hb hr hlk hP hS dX3_help_16
theorem c_X3_help {l : Launch} {D : va_G} {cy : Nat → ClassId} (x0 : Nat) (r1 : Nat) (r2 : Nat) (r3 : Nat) (r4 : Nat) (r6 : Nat) (b1 : Nat → Nat) (b2 : Nat → Nat) (kx : Int32) {vv : VS} {yv : YS} {x1 : Int32} {rr : Int32 × YS} (h : f_X3_help vv yv x1 = some rr) : CI l D cy yX3_help wsX3_help { frames := 5, cells := 0, slots := 0, locals := 117 } [.ref x0, .int x1] (wX x0 (b1 0) r1 r2 r3 r4 (b2 0) r6 kx (wV cy b1 vv (wY cy b2 yv []))) (rr.1) (wX x0 (b1 0) r1 r2 r3 r4 (b2 0) r6 kx (wV cy b1 vv (wY cy b2 rr.2 []))) := by
  refine kofI (cc := cX3_help) (maxL := 2) (ret := (some .int)) (by decide) rfl (Nat.le_of_ble_eq_true rfl) ?_
  intro p e s m below meth c A M ls hl hP hD hS
  exact w_X3_help_0 M h hP hD hS hl
theorem eX3_help : yX3_help.cls ≠ "java/lang/invoke/MethodHandle" ∧ yX3_help.cls ≠ "java/lang/invoke/VarHandle" ∧ (parseMethodDescriptor yX3_help.desc).map (fun d => d.parameters.length) = some 1 := by decide +kernel
theorem iX3_judge_X3 : ∀ w ∈ u_ws RX3 TX3 8, w ∈ wsX3_judge := by decide +kernel
theorem iX3_judge_X0 : ∀ w ∈ u_ws RX0 TX0 10, w ∈ wsX3_judge := by decide +kernel
theorem mX3_judge_1 : Cond.fieldLink RX3 28 "LentPiles" "pad" "LLentPiles$Pad;" ∈ wsX3_judge := by decide +kernel
theorem mX3_judge_2 : Cond.fieldLink RX3 12 "LentPiles" "now" "LLentPiles$Valley;" ∈ wsX3_judge := by decide +kernel
theorem mX3_judge_3 : Cond.fieldLink RX3 16 "LentPiles" "trial" "LLentPiles$Valley;" ∈ wsX3_judge := by decide +kernel
set_option maxHeartbeats 4000000 in
set_option maxRecDepth 100000 in
theorem w_X3_judge_0 {p : Program} {l : Launch} {e : Env} {s : State} {m : MethodId} {args : Array Value} {below : List Frame} {meth : Method} {c : Code} {A : Nat → Prop} {D : va_G} {cy : Nat → ClassId} {x0 : Nat} {r2 : Nat} {r3 : Nat} {r5 : Nat} {r6 : Nat} {b1 : Nat → Nat} {b2 : Nat → Nat} {b3 : Nat → Nat} {kx : Int32} {v1 : VS} {x1 : Int32} {rr : Int32 × VS × DS} (M : kM p s m args meth c cX3_judge 3 (some .int) RX3 wsX3_judge A D cy) {v2 : VS} {dv : DS} (h : f_X3_judge v1 v2 dv x1 = some rr) {H : Heap} {locs : List Loc} {ls : Array Slot} (hP : va_P D vwCl (wX x0 (b1 0) (b2 0) r2 r3 (b3 0) r5 r6 kx (wV cy b1 v1 (wV cy b2 v2 (wD cy b3 dv [])))) H) (hD : va_D A (wX x0 (b1 0) (b2 0) r2 r3 (b3 0) r5 r6 kx (wV cy b1 v1 (wV cy b2 v2 (wD cy b3 dv []))))) (hS : va_S A s.heap H locs) (hl : lv_has ls 3 [(0, .ref x0), (1, .int x1)]) : W p l e { frames := 6, cells := 0, slots := 0, locals := 140 } s m args below meth c H locs 0 0 (MQ below (qI D (wX x0 (b1 0) (b2 0) r2 r3 (b3 0) r5 r6 kx (wV cy b1 v1 (wV cy b2 rr.2.1 (wD cy b3 rr.2.2 [])))) (rr.1) A) args s 0 0 A) (F0 m 0 ls []) := by
  obtain ⟨hx, hb, hr, hml, hown, hts, hlk, hA, hK⟩ := id M
  unfold f_X3_judge at h
  refine lv_iload_n hx hb dX3_judge_0 rfl (lv_at hl 1 rfl) ?_
  refine lv_iconst (v := 0) hx hb dX3_judge_1 (by decide) ?_
  refine lv_iconst (v := 1) hx hb dX3_judge_2 (by decide) ?_
  obtain ⟨r_1, hr_1, h⟩ := bn_s h
  refine kcSi (As := [.int x1, .int (0 : Int32), .int (1 : Int32)]) (rest := []) ⟨hx, hb, hml, hown, hts⟩ (va_cwS 3 hts gX3_judge_X3_isWithin rfl rfl rfl eX3_isWithin ⟨Nat.le_of_ble_eq_true rfl, Nat.le_of_ble_eq_true rfl⟩) (c_X3_isWithin  hr_1) hK hP hS hA rfl hl.1 rfl (Nat.le_of_ble_eq_true rfl) dX3_judge_3 (fun H locs hP hS => ?_)
  refine lv_if_ne (tgt := 12) hx hb dX3_judge_6 (by decide) (fun c_2 => ?_) (fun c_2 => ?_)
  · replace h := it_n c_2 h
    refine lv_aload_n hx hb dX3_judge_12 rfl (lv_at hl 0 rfl) ?_
    refine va_get (D := D) (ci := 3) (v := .ref (b3 0)) (C := RX3) (T := TX3) (N := 8) hx hb hts iX3_judge_X3 hown hK.1 hP 0 rfl rfl 4 (by decide) (hts _ mX3_judge_1) (fun _ h9 => h9) rfl dX3_judge_13 ?_
    obtain ⟨r_3, hr_3, h⟩ := bn_s h
    refine kcVi (As := []) (rest := []) (ws' := (wX x0 (b1 0) (b2 0) r2 r3 (b3 0) r5 r6 kx (wV cy b1 v1 (wV cy b2 v2 (wD cy b3 r_3.2 []))))) ⟨hx, hb, hml, hown, hts⟩ (cwV 0 hts gX3_judge_X0_read rfl rfl rfl ⟨rfl, eX0_read⟩ ⟨Nat.le_of_ble_eq_true rfl, Nat.le_of_ble_eq_true rfl⟩) (c_X0_read b3 hr_3) hK hP hD hS hA [17, 18, 19, 20, 21, 22, 23] [0, 1, 2, 3, 4, 5, 6, 7, 8, 9, 10, 11, 12, 13, 14, 15, 16] (by decide) rfl rfl 0 rfl rfl [x0, (b1 0), (b1 1), (b1 2), (b1 3), (b1 4), (b1 5), (b1 6), (b1 7), (b2 0), (b2 1), (b2 2), (b2 3), (b2 4), (b2 5), (b2 6), (b2 7), (b3 0), (b3 1), (b3 2), (b3 3), (b3 4), (b3 5), (b3 6)] rfl rfl rfl (wX x0 (b1 0) (b2 0) r2 r3 (b3 0) r5 r6 kx (wV cy b1 v1 (wV cy b2 v2 []))) rfl rfl rfl rfl hl.1 rfl (Nat.le_of_ble_eq_true rfl) dX3_judge_16 (fun H locs hP hD hS => ?_)
    refine lv_bipush (v := (-6)) hx hb dX3_judge_19 (by decide) ?_
    refine lv_icmp_eq (tgt := 27) hx hb dX3_judge_21 (by decide) (fun c_4 => ?_) (fun c_4 => ?_)
    · replace h := it_p c_4 h
      refine lv_aload_n hx hb dX3_judge_27 rfl (lv_at hl 0 rfl) ?_
      refine va_get (D := D) (ci := 3) (v := .ref (b3 0)) (C := RX3) (T := TX3) (N := 8) hx hb hts iX3_judge_X3 hown hK.1 hP 0 rfl rfl 4 (by decide) (hts _ mX3_judge_1) (fun _ h9 => h9) rfl dX3_judge_28 ?_
      refine va_getN (D := D) (ci := 0) (v := .int r_3.2.2.2.2.2.2.2.2.2.1) (C := RX0) (T := TX0) (N := 10) hx hb hts iX3_judge_X0 hown hK.1 hP 17 rfl rfl 8 (by decide) (va_Nw.use rfl (kN_83 hK.2)) (fun _ h9 => h9) rfl dX3_judge_31 ?_
      refine lv_if_le (tgt := 40) hx hb dX3_judge_34 (by decide) (fun c_5 => ?_) (fun c_5 => ?_)
      · replace h := it_p c_5 h
        refine lv_aload_n hx hb dX3_judge_40 rfl (lv_at hl 0 rfl) ?_
        refine va_get (D := D) (ci := 3) (v := .ref (b3 0)) (C := RX3) (T := TX3) (N := 8) hx hb hts iX3_judge_X3 hown hK.1 hP 0 rfl rfl 4 (by decide) (hts _ mX3_judge_1) (fun _ h9 => h9) rfl dX3_judge_41 ?_
        refine lv_aload_n hx hb dX3_judge_44 rfl (lv_at hl 0 rfl) ?_
        refine va_get (D := D) (ci := 3) (v := .ref (b1 0)) (C := RX3) (T := TX3) (N := 8) hx hb hts iX3_judge_X3 hown hK.1 hP 0 rfl rfl 0 (by decide) (hts _ mX3_judge_2) (fun _ h9 => h9) rfl dX3_judge_45 ?_
        refine lv_aload_n hx hb dX3_judge_48 rfl (lv_at hl 0 rfl) ?_
        refine va_get (D := D) (ci := 3) (v := .ref (b2 0)) (C := RX3) (T := TX3) (N := 8) hx hb hts iX3_judge_X3 hown hK.1 hP 0 rfl rfl 1 (by decide) (hts _ mX3_judge_3) (fun _ h9 => h9) rfl dX3_judge_49 ?_
        obtain ⟨r_6, hr_6, h⟩ := bn_s h
        refine kcVi (As := [.ref (b1 0), .ref (b2 0)]) (rest := []) (ws' := (wX x0 (b1 0) (b2 0) r2 r3 (b3 0) r5 r6 kx (wV cy b1 v1 (wV cy b2 r_6.2.2 (wD cy b3 r_6.2.1 []))))) ⟨hx, hb, hml, hown, hts⟩ (cwV 2 hts gX3_judge_X0_perform rfl rfl rfl ⟨rfl, eX0_perform⟩ ⟨Nat.le_of_ble_eq_true rfl, Nat.le_of_ble_eq_true rfl⟩) (c_X0_perform b3 b1 b2 hr_6) hK hP hD hS hA [17, 18, 19, 20, 21, 22, 23, 1, 2, 3, 4, 5, 6, 7, 8, 9, 10, 11, 12, 13, 14, 15, 16] [0] (by decide) rfl rfl 0 rfl rfl [x0, (b1 0), (b1 1), (b1 2), (b1 3), (b1 4), (b1 5), (b1 6), (b1 7), (b2 0), (b2 1), (b2 2), (b2 3), (b2 4), (b2 5), (b2 6), (b2 7), (b3 0), (b3 1), (b3 2), (b3 3), (b3 4), (b3 5), (b3 6)] rfl rfl rfl (wX x0 (b1 0) (b2 0) r2 r3 (b3 0) r5 r6 kx []) rfl rfl rfl rfl hl.1 rfl (Nat.le_of_ble_eq_true rfl) dX3_judge_52 (fun H locs hP hD hS => ?_)
        refine lv_topi (fun x2_7 ex2_7 => ?_)
        replace h := nm_s h ex2_7
        refine lv_istore_n (lv' := [(2, .int x2_7), (0, .ref x0), (1, .int x1)]) hx hb dX3_judge_55 rfl hl (by decide) rfl (fun ls hl => ?_)
        refine lv_iload_n hx hb dX3_judge_56 rfl (lv_at hl 0 rfl) ?_
        refine lv_bipush (v := (-6)) hx hb dX3_judge_57 (by decide) ?_
        refine lv_icmp_ne (tgt := 65) hx hb dX3_judge_59 (by decide) (fun c_8 => ?_) (fun c_8 => ?_)
        · replace h := it_n c_8 h
          refine lv_iload_n hx hb dX3_judge_65 rfl (lv_at hl 2 rfl) ?_
          refine lv_if_ne (tgt := 73) hx hb dX3_judge_66 (by decide) (fun c_9 => ?_) (fun c_9 => ?_)
          · replace h := it_n c_9 h
            refine lv_aload_n hx hb dX3_judge_73 rfl (lv_at hl 1 rfl) ?_
            refine va_get (D := D) (ci := 3) (v := .ref (b3 0)) (C := RX3) (T := TX3) (N := 8) hx hb hts iX3_judge_X3 hown hK.1 hP 0 rfl rfl 4 (by decide) (hts _ mX3_judge_1) (fun _ h9 => h9) rfl dX3_judge_74 ?_
            refine va_getN (D := D) (ci := 0) (v := .int r_6.2.1.2.2.2.2.2.2.2.2.2) (C := RX0) (T := TX0) (N := 10) hx hb hts iX3_judge_X0 hown hK.1 hP 17 rfl rfl 9 (by decide) (va_Nw.use rfl (kN_90 hK.2)) (fun _ h9 => h9) rfl dX3_judge_77 ?_
            cases h
            exact kretI hx hb hr hlk hP hS dX3_judge_80
          · replace h := it_p c_9 h
            refine lv_iload_n hx hb dX3_judge_69 rfl (lv_at hl 0 rfl) ?_
            refine lv_goto (tgt := 80) hx hb dX3_judge_70 (by decide) ?_
            cases h
            exact kretI hx hb hr hlk hP hS dX3_judge_80
        · replace h := it_p c_8 h
          refine lv_bipush (v := (-6)) hx hb dX3_judge_62 (by decide) ?_
          cases h
          exact kretI hx hb hr hlk hP hS dX3_judge_64
      · replace h := it_n c_5 h
        refine lv_bipush (v := (-3)) hx hb dX3_judge_37 (by decide) ?_
        cases h
        exact kretI hx hb hr hlk hP hS dX3_judge_39
    · replace h := it_n c_4 h
      refine lv_bipush (v := (-5)) hx hb dX3_judge_24 (by decide) ?_
      cases h
      exact kretI hx hb hr hlk hP hS dX3_judge_26
  · replace h := it_p c_2 h
    refine lv_bipush (v := (-2)) hx hb dX3_judge_9 (by decide) ?_
    cases h
    exact kretI hx hb hr hlk hP hS dX3_judge_11
theorem c_X3_judge {l : Launch} {D : va_G} {cy : Nat → ClassId} (x0 : Nat) (r2 : Nat) (r3 : Nat) (r5 : Nat) (r6 : Nat) (b1 : Nat → Nat) (b2 : Nat → Nat) (b3 : Nat → Nat) (kx : Int32) {v1 : VS} {v2 : VS} {dv : DS} {x1 : Int32} {rr : Int32 × VS × DS} (h : f_X3_judge v1 v2 dv x1 = some rr) : CI l D cy yX3_judge wsX3_judge { frames := 6, cells := 0, slots := 0, locals := 140 } [.ref x0, .int x1] (wX x0 (b1 0) (b2 0) r2 r3 (b3 0) r5 r6 kx (wV cy b1 v1 (wV cy b2 v2 (wD cy b3 dv [])))) (rr.1) (wX x0 (b1 0) (b2 0) r2 r3 (b3 0) r5 r6 kx (wV cy b1 v1 (wV cy b2 rr.2.1 (wD cy b3 rr.2.2 [])))) := by
  refine kofI (cc := cX3_judge) (maxL := 3) (ret := (some .int)) (by decide) rfl (Nat.le_of_ble_eq_true rfl) ?_
  intro p e s m below meth c A M ls hl hP hD hS
  exact w_X3_judge_0 M h hP hD hS hl
theorem eX3_judge : yX3_judge.cls ≠ "java/lang/invoke/MethodHandle" ∧ yX3_judge.cls ≠ "java/lang/invoke/VarHandle" ∧ (parseMethodDescriptor yX3_judge.desc).map (fun d => d.parameters.length) = some 1 := by decide +kernel
theorem iX3_liveYear_X3 : ∀ w ∈ u_ws RX3 TX3 8, w ∈ wsX3_liveYear := by decide +kernel
theorem mX3_liveYear_1 : Cond.constant RX3 232 (65537) ∈ wsX3_liveYear := by decide +kernel
theorem mX3_liveYear_2 : Cond.fieldLink RX3 16 "LentPiles" "trial" "LLentPiles$Valley;" ∈ wsX3_liveYear := by decide +kernel
def I_X3_liveYear (p : Program) (l : Launch) (e : Env) (s : State) (m : MethodId) (args : Array Value) (below : List Frame) (meth : Method) (c : Code) (A : Nat → Prop) (D : va_G) (cy : Nat → ClassId) (x0 : Nat) (r0 : Nat) (r2 : Nat) (r3 : Nat) (r4 : Nat) (r5 : Nat) (r6 : Nat) (b1 : Nat → Nat) (kx : Int32) (x1 : Int32) (x2 : Int32) (fu : Nat) (rr : Int32 × VS) : Prop := (∀ (vv : VS) (x3 : Int32) (x4 : Int32) (x5 : Int32) (H : Heap) (locs : List Loc) (ls : Array Slot), lpn (st_X3_liveYear x1 x2) fu (.inl (vv, x3, x4, x5)) = some rr → va_P D vwCl (wX x0 r0 (b1 0) r2 r3 r4 r5 r6 kx (wV cy b1 vv [])) H → va_D A (wX x0 r0 (b1 0) r2 r3 r4 r5 r6 kx (wV cy b1 vv [])) → va_S A s.heap H locs → lv_has ls 8 [(0, .ref x0), (1, .int x1), (2, .int x2), (3, .int x3), (4, .int x4), (5, .int x5)] → W p l e { frames := 4, cells := 0, slots := 0, locals := 94 } s m args below meth c H locs 0 0 (MQ below (qI D (wX x0 r0 (b1 0) r2 r3 r4 r5 r6 kx (wV cy b1 rr.2 [])) (rr.1) A) args s 0 0 A) (F0 m 8 ls [])) ∧ (∀ (vv : VS) (x3 : Int32) (x4 : Int32) (x5 : Int32) (x6 : Int32) (x7 : Int32) (H : Heap) (locs : List Loc) (ls : Array Slot), lpn (st_X3_liveYear x1 x2) fu (.inr (vv, x3, x4, x5, x6, x7)) = some rr → va_P D vwCl (wX x0 r0 (b1 0) r2 r3 r4 r5 r6 kx (wV cy b1 vv [])) H → va_D A (wX x0 r0 (b1 0) r2 r3 r4 r5 r6 kx (wV cy b1 vv [])) → va_S A s.heap H locs → lv_has ls 8 [(0, .ref x0), (1, .int x1), (2, .int x2), (3, .int x3), (4, .int x4), (5, .int x5), (6, .int x6), (7, .int x7)] → W p l e { frames := 4, cells := 0, slots := 0, locals := 94 } s m args below meth c H locs 0 0 (MQ below (qI D (wX x0 r0 (b1 0) r2 r3 r4 r5 r6 kx (wV cy b1 rr.2 [])) (rr.1) A) args s 0 0 A) (F0 m 62 ls []))
set_option maxHeartbeats 4000000 in
set_option maxRecDepth 100000 in
theorem w_X3_liveYear_89 {p : Program} {l : Launch} {e : Env} {s : State} {m : MethodId} {args : Array Value} {below : List Frame} {meth : Method} {c : Code} {A : Nat → Prop} {D : va_G} {cy : Nat → ClassId} {x0 : Nat} {r0 : Nat} {r2 : Nat} {r3 : Nat} {r4 : Nat} {r5 : Nat} {r6 : Nat} {b1 : Nat → Nat} {kx : Int32} {x1 : Int32} {x2 : Int32} {fu : Nat} {rr : Int32 × VS} (M : kM p s m args meth c cX3_liveYear 8 (some .int) RX3 wsX3_liveYear A D cy) (ih : I_X3_liveYear p l e s m args below meth c A D cy x0 r0 r2 r3 r4 r5 r6 b1 kx x1 x2 fu rr) {vv : VS} {x3 : Int32} {x4 : Int32} {x5 : Int32} {oo : ((VS × Int32 × Int32 × Int32) ⊕ (VS × Int32 × Int32 × Int32 × Int32 × Int32)) ⊕ (Int32 × VS)} (h : f_X3_liveYear_89 x1 x2 vv x3 x4 x5 = some oo) (hm : lpo (st_X3_liveYear x1 x2) fu oo rr) {H : Heap} {locs : List Loc} {ls : Array Slot} (hP : va_P D vwCl (wX x0 r0 (b1 0) r2 r3 r4 r5 r6 kx (wV cy b1 vv [])) H) (hD : va_D A (wX x0 r0 (b1 0) r2 r3 r4 r5 r6 kx (wV cy b1 vv []))) (hS : va_S A s.heap H locs) (hl : lv_has ls 8 [(0, .ref x0), (1, .int x1), (2, .int x2), (3, .int x3), (4, .int x4), (5, .int x5)]) : W p l e { frames := 4, cells := 0, slots := 0, locals := 94 } s m args below meth c H locs 0 0 (MQ below (qI D (wX x0 r0 (b1 0) r2 r3 r4 r5 r6 kx (wV cy b1 rr.2 [])) (rr.1) A) args s 0 0 A) (F0 m 89 ls []) := by
  obtain ⟨hx, hb, hr, hml, hown, hts, hlk, hA, hK⟩ := id M
  unfold f_X3_liveYear_89 at h
  refine lv_aload_n hx hb dX3_liveYear_89 rfl (lv_at hl 0 rfl) ?_
  refine va_get (D := D) (ci := 3) (v := .ref (b1 0)) (C := RX3) (T := TX3) (N := 8) hx hb hts iX3_liveYear_X3 hown hK.1 hP 0 rfl rfl 1 (by decide) (hts _ mX3_liveYear_2) (fun _ h9 => h9) rfl dX3_liveYear_90 ?_
  obtain ⟨r_1, hr_1, h⟩ := bn_s h
  refine kcVv (As := []) (rest := []) (ws' := (wX x0 r0 (b1 0) r2 r3 r4 r5 r6 kx (wV cy b1 r_1 []))) ⟨hx, hb, hml, hown, hts⟩ (cwV 0 hts gX3_liveYear_X2_passDay rfl rfl rfl ⟨rfl, eX2_passDay⟩ ⟨Nat.le_of_ble_eq_true rfl, Nat.le_of_ble_eq_true rfl⟩) (c_X2_passDay b1 hr_1) hK hP hD hS hA [1, 2, 3, 4, 5, 6, 7, 8] [0] (by decide) rfl rfl 2 rfl rfl [x0, (b1 0), (b1 1), (b1 2), (b1 3), (b1 4), (b1 5), (b1 6), (b1 7)] rfl rfl rfl (wX x0 r0 (b1 0) r2 r3 r4 r5 r6 kx []) rfl rfl rfl rfl hl.1 rfl (Nat.le_of_ble_eq_true rfl) dX3_liveYear_93 (fun H locs hP hD hS => ?_)
  obtain ⟨x5_2, ex5_2⟩ : ∃ z : Int32, z = (x5 + (1 : Int32)) := ⟨_, rfl⟩
  replace h := nm_s h ex5_2
  refine lv_iinc (v := x5_2) (lv' := [(5, .int x5_2), (0, .ref x0), (1, .int x1), (2, .int x2), (3, .int x3), (4, .int x4)]) hx hb dX3_liveYear_96 hl (k := 5) rfl (by rw [ex5_2]; rfl) (by decide) rfl (fun ls hl => ?_)
  refine lv_goto (tgt := 8) hx hb dX3_liveYear_99 (by decide) ?_
  cases h
  exact ih.1 r_1 x3 x4 x5_2 _ _ _ hm hP hD hS (lv_sub hl [1, 2, 3, 4, 5, 0] rfl)
set_option maxHeartbeats 4000000 in
set_option maxRecDepth 100000 in
theorem w_X3_liveYear_62 {p : Program} {l : Launch} {e : Env} {s : State} {m : MethodId} {args : Array Value} {below : List Frame} {meth : Method} {c : Code} {A : Nat → Prop} {D : va_G} {cy : Nat → ClassId} {x0 : Nat} {r0 : Nat} {r2 : Nat} {r3 : Nat} {r4 : Nat} {r5 : Nat} {r6 : Nat} {b1 : Nat → Nat} {kx : Int32} {x1 : Int32} {x2 : Int32} {fu : Nat} {rr : Int32 × VS} (M : kM p s m args meth c cX3_liveYear 8 (some .int) RX3 wsX3_liveYear A D cy) (ih : I_X3_liveYear p l e s m args below meth c A D cy x0 r0 r2 r3 r4 r5 r6 b1 kx x1 x2 fu rr) {vv : VS} {x3 : Int32} {x4 : Int32} {x5 : Int32} {x6 : Int32} {x7 : Int32} {oo : ((VS × Int32 × Int32 × Int32) ⊕ (VS × Int32 × Int32 × Int32 × Int32 × Int32)) ⊕ (Int32 × VS)} (h : f_X3_liveYear_62 x1 x2 vv x3 x4 x5 x6 x7 = some oo) (hm : lpo (st_X3_liveYear x1 x2) fu oo rr) {H : Heap} {locs : List Loc} {ls : Array Slot} (hP : va_P D vwCl (wX x0 r0 (b1 0) r2 r3 r4 r5 r6 kx (wV cy b1 vv [])) H) (hD : va_D A (wX x0 r0 (b1 0) r2 r3 r4 r5 r6 kx (wV cy b1 vv []))) (hS : va_S A s.heap H locs) (hl : lv_has ls 8 [(0, .ref x0), (1, .int x1), (2, .int x2), (3, .int x3), (4, .int x4), (5, .int x5), (6, .int x6), (7, .int x7)]) : W p l e { frames := 4, cells := 0, slots := 0, locals := 94 } s m args below meth c H locs 0 0 (MQ below (qI D (wX x0 r0 (b1 0) r2 r3 r4 r5 r6 kx (wV cy b1 rr.2 [])) (rr.1) A) args s 0 0 A) (F0 m 62 ls []) := by
  obtain ⟨hx, hb, hr, hml, hown, hts, hlk, hA, hK⟩ := id M
  unfold f_X3_liveYear_62 at h
  refine lv_iload hx hb dX3_liveYear_62 (lv_at hl 7 rfl) ?_
  refine lv_iconst (v := 5) hx hb dX3_liveYear_64 (by decide) ?_
  refine lv_icmp_ge (tgt := 89) hx hb dX3_liveYear_65 (by decide) (fun c_1 => ?_) (fun c_1 => ?_)
  · replace h := it_p c_1 h
    exact w_X3_liveYear_89 M ih h hm hP hD hS (lv_sub hl [0, 1, 2, 3, 4, 5] rfl)
  · replace h := it_n c_1 h
    refine lv_aload_n hx hb dX3_liveYear_68 rfl (lv_at hl 0 rfl) ?_
    refine va_get (D := D) (ci := 3) (v := .ref (b1 0)) (C := RX3) (T := TX3) (N := 8) hx hb hts iX3_liveYear_X3 hown hK.1 hP 0 rfl rfl 1 (by decide) (hts _ mX3_liveYear_2) (fun _ h9 => h9) rfl dX3_liveYear_69 ?_
    refine lv_iload hx hb dX3_liveYear_72 (lv_at hl 6 rfl) ?_
    obtain ⟨r_2, hr_2, h⟩ := bn_s h
    refine kcVi (As := [.int x6]) (rest := []) (ws' := (wX x0 r0 (b1 0) r2 r3 r4 r5 r6 kx (wV cy b1 r_2.2 []))) ⟨hx, hb, hml, hown, hts⟩ (cwV 1 hts gX3_liveYear_X2_repay rfl rfl rfl ⟨rfl, eX2_repay⟩ ⟨Nat.le_of_ble_eq_true rfl, Nat.le_of_ble_eq_true rfl⟩) (c_X2_repay b1 hr_2) hK hP hD hS hA [1, 2, 3, 4, 5, 6, 7, 8] [0] (by decide) rfl rfl 2 rfl rfl [x0, (b1 0), (b1 1), (b1 2), (b1 3), (b1 4), (b1 5), (b1 6), (b1 7)] rfl rfl rfl (wX x0 r0 (b1 0) r2 r3 r4 r5 r6 kx []) rfl rfl rfl rfl hl.1 rfl (Nat.le_of_ble_eq_true rfl) dX3_liveYear_74 (fun H locs hP hD hS => ?_)
    refine lv_if_ne (tgt := 89) hx hb dX3_liveYear_77 (by decide) (fun c_3 => ?_) (fun c_3 => ?_)
    · replace h := it_n c_3 h
      exact w_X3_liveYear_89 M ih h hm hP hD hS (lv_sub hl [0, 1, 2, 3, 4, 5] rfl)
    · replace h := it_p c_3 h
      obtain ⟨x4_4, ex4_4⟩ : ∃ z : Int32, z = (x4 + (1 : Int32)) := ⟨_, rfl⟩
      replace h := nm_s h ex4_4
      refine lv_iinc (v := x4_4) (lv' := [(4, .int x4_4), (0, .ref x0), (1, .int x1), (2, .int x2), (3, .int x3), (5, .int x5), (6, .int x6), (7, .int x7)]) hx hb dX3_liveYear_80 hl (k := 4) rfl (by rw [ex4_4]; rfl) (by decide) rfl (fun ls hl => ?_)
      obtain ⟨x7_5, ex7_5⟩ : ∃ z : Int32, z = (x7 + (1 : Int32)) := ⟨_, rfl⟩
      replace h := nm_s h ex7_5
      refine lv_iinc (v := x7_5) (lv' := [(7, .int x7_5), (4, .int x4_4), (0, .ref x0), (1, .int x1), (2, .int x2), (3, .int x3), (5, .int x5), (6, .int x6)]) hx hb dX3_liveYear_83 hl (k := 7) rfl (by rw [ex7_5]; rfl) (by decide) rfl (fun ls hl => ?_)
      refine lv_goto (tgt := 62) hx hb dX3_liveYear_86 (by decide) ?_
      cases h
      exact ih.2 r_2.2 x3 x4_4 x5 x6 x7_5 _ _ _ hm hP hD hS (lv_sub hl [2, 3, 4, 5, 1, 6, 7, 0] rfl)
set_option maxHeartbeats 4000000 in
set_option maxRecDepth 100000 in
theorem w_X3_liveYear_8 {p : Program} {l : Launch} {e : Env} {s : State} {m : MethodId} {args : Array Value} {below : List Frame} {meth : Method} {c : Code} {A : Nat → Prop} {D : va_G} {cy : Nat → ClassId} {x0 : Nat} {r0 : Nat} {r2 : Nat} {r3 : Nat} {r4 : Nat} {r5 : Nat} {r6 : Nat} {b1 : Nat → Nat} {kx : Int32} {x1 : Int32} {x2 : Int32} {fu : Nat} {rr : Int32 × VS} (M : kM p s m args meth c cX3_liveYear 8 (some .int) RX3 wsX3_liveYear A D cy) (ih : I_X3_liveYear p l e s m args below meth c A D cy x0 r0 r2 r3 r4 r5 r6 b1 kx x1 x2 fu rr) {vv : VS} {x3 : Int32} {x4 : Int32} {x5 : Int32} {oo : ((VS × Int32 × Int32 × Int32) ⊕ (VS × Int32 × Int32 × Int32 × Int32 × Int32)) ⊕ (Int32 × VS)} (h : f_X3_liveYear_8 x1 x2 vv x3 x4 x5 = some oo) (hm : lpo (st_X3_liveYear x1 x2) fu oo rr) {H : Heap} {locs : List Loc} {ls : Array Slot} (hP : va_P D vwCl (wX x0 r0 (b1 0) r2 r3 r4 r5 r6 kx (wV cy b1 vv [])) H) (hD : va_D A (wX x0 r0 (b1 0) r2 r3 r4 r5 r6 kx (wV cy b1 vv []))) (hS : va_S A s.heap H locs) (hl : lv_has ls 8 [(0, .ref x0), (1, .int x1), (2, .int x2), (3, .int x3), (4, .int x4), (5, .int x5)]) : W p l e { frames := 4, cells := 0, slots := 0, locals := 94 } s m args below meth c H locs 0 0 (MQ below (qI D (wX x0 r0 (b1 0) r2 r3 r4 r5 r6 kx (wV cy b1 rr.2 [])) (rr.1) A) args s 0 0 A) (F0 m 8 ls []) := by
  obtain ⟨hx, hb, hr, hml, hown, hts, hlk, hA, hK⟩ := id M
  unfold f_X3_liveYear_8 at h
  refine lv_iload hx hb dX3_liveYear_8 (lv_at hl 5 rfl) ?_
  refine lv_iload_n hx hb dX3_liveYear_10 rfl (lv_at hl 2 rfl) ?_
  refine lv_icmp_ge (tgt := 102) hx hb dX3_liveYear_11 (by decide) (fun c_1 => ?_) (fun c_1 => ?_)
  · replace h := it_p c_1 h
    refine lv_iload hx hb dX3_liveYear_102 (lv_at hl 4 rfl) ?_
    cases h
    have hm : _ = rr := hm
    subst hm
    exact kretI hx hb hr hlk hP hS dX3_liveYear_104
  · replace h := it_n c_1 h
    refine lv_bipush (v := 75) hx hb dX3_liveYear_14 (by decide) ?_
    refine lv_iload_n hx hb dX3_liveYear_16 rfl (lv_at hl 3 rfl) ?_
    refine lv_imul hx hb dX3_liveYear_17 ?_
    refine lv_bipush (v := 74) hx hb dX3_liveYear_18 (by decide) ?_
    refine lv_iadd hx hb dX3_liveYear_20 ?_
    refine lv_ldc (v := 65537) hx hb hown (hts _ mX3_liveYear_1) dX3_liveYear_21 ?_
    refine lv_irem hx hb dX3_liveYear_23 (by decide) ?_
    refine lv_topi (fun x3_2 ex3_2 => ?_)
    replace h := nm_s h ex3_2
    refine lv_istore_n (lv' := [(3, .int x3_2), (0, .ref x0), (1, .int x1), (2, .int x2), (4, .int x4), (5, .int x5)]) hx hb dX3_liveYear_24 rfl hl (by decide) rfl (fun ls hl => ?_)
    refine lv_iload_n hx hb dX3_liveYear_25 rfl (lv_at hl 0 rfl) ?_
    refine lv_bipush (v := 6) hx hb dX3_liveYear_26 (by decide) ?_
    refine lv_irem hx hb dX3_liveYear_28 (by decide) ?_
    refine lv_topi (fun x6_3 ex6_3 => ?_)
    replace h := nm_s h ex6_3
    refine lv_istore (lv' := [(6, .int x6_3), (3, .int x3_2), (0, .ref x0), (1, .int x1), (2, .int x2), (4, .int x4), (5, .int x5)]) hx hb dX3_liveYear_29 hl (by decide) rfl (fun ls hl => ?_)
    refine lv_aload_n hx hb dX3_liveYear_31 rfl (lv_at hl 2 rfl) ?_
    refine va_get (D := D) (ci := 3) (v := .ref (b1 0)) (C := RX3) (T := TX3) (N := 8) hx hb hts iX3_liveYear_X3 hown hK.1 hP 0 rfl rfl 1 (by decide) (hts _ mX3_liveYear_2) (fun _ h9 => h9) rfl dX3_liveYear_32 ?_
    refine lv_iload hx hb dX3_liveYear_35 (lv_at hl 0 rfl) ?_
    refine lv_aload_n hx hb dX3_liveYear_37 rfl (lv_at hl 2 rfl) ?_
    refine va_get (D := D) (ci := 3) (v := .ref (b1 0)) (C := RX3) (T := TX3) (N := 8) hx hb hts iX3_liveYear_X3 hown hK.1 hP 0 rfl rfl 1 (by decide) (hts _ mX3_liveYear_2) (fun _ h9 => h9) rfl dX3_liveYear_38 ?_
    refine lv_iload hx hb dX3_liveYear_41 (lv_at hl 0 rfl) ?_
    obtain ⟨r_4, hr_4, h⟩ := bn_s h
    refine kcVi (As := [.int x6_3]) (rest := [.int x6_3, .ref (b1 0)]) (ws' := (wX x0 r0 (b1 0) r2 r3 r4 r5 r6 kx (wV cy b1 vv []))) ⟨hx, hb, hml, hown, hts⟩ (cwV 1 hts gX3_liveYear_X2_purseOf rfl rfl rfl ⟨rfl, eX2_purseOf⟩ ⟨Nat.le_of_ble_eq_true rfl, Nat.le_of_ble_eq_true rfl⟩) (c_X2_purseOf b1 hr_4) hK hP hD hS hA [1, 2, 3, 4, 5, 6, 7, 8] [0] (by decide) rfl rfl 2 rfl rfl [x0, (b1 0), (b1 1), (b1 2), (b1 3), (b1 4), (b1 5), (b1 6), (b1 7)] rfl rfl rfl (wX x0 r0 (b1 0) r2 r3 r4 r5 r6 kx []) rfl rfl rfl rfl hl.1 rfl (Nat.le_of_ble_eq_true rfl) dX3_liveYear_43 (fun H locs hP hD hS => ?_)
    refine lv_iconst (v := 1) hx hb dX3_liveYear_46 (by decide) ?_
    refine lv_iadd hx hb dX3_liveYear_47 ?_
    refine lv_iload_n hx hb dX3_liveYear_48 rfl (lv_at hl 1 rfl) ?_
    refine lv_bipush (v := 6) hx hb dX3_liveYear_49 (by decide) ?_
    refine lv_idiv hx hb dX3_liveYear_51 (by decide) ?_
    refine lv_bipush (v := 9) hx hb dX3_liveYear_52 (by decide) ?_
    refine lv_irem hx hb dX3_liveYear_54 (by decide) ?_
    refine lv_iadd hx hb dX3_liveYear_55 ?_
    obtain ⟨r_5, hr_5, h⟩ := bn_s h
    refine kcVv (As := [.int x6_3, .int ((r_4 + (1 : Int32)) + ((x3_2 / (6 : Int32)) - (x3_2 / (6 : Int32)) / (9 : Int32) * (9 : Int32)))]) (rest := []) (ws' := (wX x0 r0 (b1 0) r2 r3 r4 r5 r6 kx (wV cy b1 r_5 []))) ⟨hx, hb, hml, hown, hts⟩ (cwV 2 hts gX3_liveYear_X2_fillPurse rfl rfl rfl ⟨rfl, eX2_fillPurse⟩ ⟨Nat.le_of_ble_eq_true rfl, Nat.le_of_ble_eq_true rfl⟩) (c_X2_fillPurse b1 hr_5) hK hP hD hS hA [1, 2, 3, 4, 5, 6, 7, 8] [0] (by decide) rfl rfl 2 rfl rfl [x0, (b1 0), (b1 1), (b1 2), (b1 3), (b1 4), (b1 5), (b1 6), (b1 7)] rfl rfl rfl (wX x0 r0 (b1 0) r2 r3 r4 r5 r6 kx []) rfl rfl rfl rfl hl.1 rfl (Nat.le_of_ble_eq_true rfl) dX3_liveYear_56 (fun H locs hP hD hS => ?_)
    refine lv_iconst (v := 0) hx hb dX3_liveYear_59 (by decide) ?_
    refine lv_istore (lv' := [(7, .int (0 : Int32)), (6, .int x6_3), (3, .int x3_2), (0, .ref x0), (1, .int x1), (2, .int x2), (4, .int x4), (5, .int x5)]) hx hb dX3_liveYear_60 hl (by decide) rfl (fun ls hl => ?_)
    cases h
    exact ih.2 r_5 x3_2 x4 x5 x6_3 (0 : Int32) _ _ _ hm hP hD hS (lv_sub hl [3, 4, 5, 2, 6, 7, 1, 0] rfl)
set_option maxHeartbeats 4000000 in
set_option maxRecDepth 100000 in
theorem w_X3_liveYear_0 {p : Program} {l : Launch} {e : Env} {s : State} {m : MethodId} {args : Array Value} {below : List Frame} {meth : Method} {c : Code} {A : Nat → Prop} {D : va_G} {cy : Nat → ClassId} {x0 : Nat} {r0 : Nat} {r2 : Nat} {r3 : Nat} {r4 : Nat} {r5 : Nat} {r6 : Nat} {b1 : Nat → Nat} {kx : Int32} {x1 : Int32} {x2 : Int32} {fu : Nat} {rr : Int32 × VS} (M : kM p s m args meth c cX3_liveYear 8 (some .int) RX3 wsX3_liveYear A D cy) (ih : I_X3_liveYear p l e s m args below meth c A D cy x0 r0 r2 r3 r4 r5 r6 b1 kx x1 x2 fu rr) {vv : VS} {oo : ((VS × Int32 × Int32 × Int32) ⊕ (VS × Int32 × Int32 × Int32 × Int32 × Int32)) ⊕ (Int32 × VS)} (h : f_X3_liveYear_0 vv x1 x2 = some oo) (hm : lpo (st_X3_liveYear x1 x2) fu oo rr) {H : Heap} {locs : List Loc} {ls : Array Slot} (hP : va_P D vwCl (wX x0 r0 (b1 0) r2 r3 r4 r5 r6 kx (wV cy b1 vv [])) H) (hD : va_D A (wX x0 r0 (b1 0) r2 r3 r4 r5 r6 kx (wV cy b1 vv []))) (hS : va_S A s.heap H locs) (hl : lv_has ls 8 [(0, .ref x0), (1, .int x1), (2, .int x2)]) : W p l e { frames := 4, cells := 0, slots := 0, locals := 94 } s m args below meth c H locs 0 0 (MQ below (qI D (wX x0 r0 (b1 0) r2 r3 r4 r5 r6 kx (wV cy b1 rr.2 [])) (rr.1) A) args s 0 0 A) (F0 m 0 ls []) := by
  obtain ⟨hx, hb, hr, hml, hown, hts, hlk, hA, hK⟩ := id M
  unfold f_X3_liveYear_0 at h
  refine lv_iload_n hx hb dX3_liveYear_0 rfl (lv_at hl 1 rfl) ?_
  refine lv_istore_n (lv' := [(3, .int x1), (0, .ref x0), (1, .int x1), (2, .int x2)]) hx hb dX3_liveYear_1 rfl hl (by decide) rfl (fun ls hl => ?_)
  refine lv_iconst (v := 0) hx hb dX3_liveYear_2 (by decide) ?_
  refine lv_istore (lv' := [(4, .int (0 : Int32)), (3, .int x1), (0, .ref x0), (1, .int x1), (2, .int x2)]) hx hb dX3_liveYear_3 hl (by decide) rfl (fun ls hl => ?_)
  refine lv_iconst (v := 0) hx hb dX3_liveYear_5 (by decide) ?_
  refine lv_istore (lv' := [(5, .int (0 : Int32)), (4, .int (0 : Int32)), (3, .int x1), (0, .ref x0), (1, .int x1), (2, .int x2)]) hx hb dX3_liveYear_6 hl (by decide) rfl (fun ls hl => ?_)
  cases h
  exact ih.1 vv x1 (0 : Int32) (0 : Int32) _ _ _ hm hP hD hS (lv_sub hl [3, 4, 5, 2, 1, 0] rfl)
theorem wl_X3_liveYear {p : Program} {l : Launch} {e : Env} {s : State} {m : MethodId} {args : Array Value} {below : List Frame} {meth : Method} {c : Code} {A : Nat → Prop} {D : va_G} {cy : Nat → ClassId} {x0 : Nat} {r0 : Nat} {r2 : Nat} {r3 : Nat} {r4 : Nat} {r5 : Nat} {r6 : Nat} {b1 : Nat → Nat} {kx : Int32} {x1 : Int32} {x2 : Int32} {rr : Int32 × VS} (M : kM p s m args meth c cX3_liveYear 8 (some .int) RX3 wsX3_liveYear A D cy) : ∀ fu : Nat, I_X3_liveYear p l e s m args below meth c A D cy x0 r0 r2 r3 r4 r5 r6 b1 kx x1 x2 fu rr := by
  intro fu
  induction fu with
  | zero => exact ⟨(fun _ _ _ _ _ _ _ h => by cases h), (fun _ _ _ _ _ _ _ _ _ h => by cases h)⟩
  | succ fu ih =>
    refine ⟨?_, ?_⟩
    · intro vv x3 x4 x5 H locs ls h hP hD hS hl
      obtain ⟨o1, h1, h2⟩ := lpn_s h
      exact w_X3_liveYear_8 M ih h1 h2 hP hD hS hl
    · intro vv x3 x4 x5 x6 x7 H locs ls h hP hD hS hl
      obtain ⟨o1, h1, h2⟩ := lpn_s h
      exact w_X3_liveYear_62 M ih h1 h2 hP hD hS hl
theorem c_X3_liveYear {l : Launch} {D : va_G} {cy : Nat → ClassId} (x0 : Nat) (r0 : Nat) (r2 : Nat) (r3 : Nat) (r4 : Nat) (r5 : Nat) (r6 : Nat) (b1 : Nat → Nat) (kx : Int32) {vv : VS} {x1 : Int32} {x2 : Int32} {rr : Int32 × VS} (h : f_X3_liveYear vv x1 x2 = some rr) : CI l D cy yX3_liveYear wsX3_liveYear { frames := 4, cells := 0, slots := 0, locals := 94 } [.ref x0, .int x1, .int x2] (wX x0 r0 (b1 0) r2 r3 r4 r5 r6 kx (wV cy b1 vv [])) (rr.1) (wX x0 r0 (b1 0) r2 r3 r4 r5 r6 kx (wV cy b1 rr.2 [])) := by
  refine kofI (cc := cX3_liveYear) (maxL := 8) (ret := (some .int)) (by decide) rfl (Nat.le_of_ble_eq_true rfl) ?_
  intro p e s m below meth c A M ls hl hP hD hS
  obtain ⟨o1, fu, h1, h2⟩ := rnx_s h
  exact w_X3_liveYear_0 M (wl_X3_liveYear M fu) h1 h2 hP hD hS hl
theorem eX3_liveYear : yX3_liveYear.cls ≠ "java/lang/invoke/MethodHandle" ∧ yX3_liveYear.cls ≠ "java/lang/invoke/VarHandle" ∧ (parseMethodDescriptor yX3_liveYear.desc).map (fun d => d.parameters.length) = some 2 := by decide +kernel
theorem iX3_luckyShares_X3 : ∀ w ∈ u_ws RX3 TX3 8, w ∈ wsX3_luckyShares := by decide +kernel
theorem mX3_luckyShares_1 : Cond.fieldLink RX3 39 "LentPiles" "shares" "[J" ∈ wsX3_luckyShares := by decide +kernel
def I_X3_luckyShares (p : Program) (l : Launch) (e : Env) (s : State) (m : MethodId) (args : Array Value) (below : List Frame) (meth : Method) (c : Code) (A : Nat → Prop) (D : va_G) (cy : Nat → ClassId) (x0 : Nat) (r0 : Nat) (r1 : Nat) (r2 : Nat) (r3 : Nat) (r4 : Nat) (r5 : Nat) (q1 : Nat) (kx : Int32) (x1 : Int32) (x2 : Int32) (x3 : Int32) (x4 : Int32) (fu : Nat) (rr : Int64 × AL) : Prop := (∀ (fs : AL) (x5 : Int32) (H : Heap) (locs : List Loc) (ls : Array Slot), lpn (st_X3_luckyShares x1 x2 x3 x4) fu (.inl (fs, x5)) = some rr → va_P D vwCl (wX x0 r0 r1 r2 r3 r4 r5 q1 kx (wS cy q1 fs [])) H → va_D A (wX x0 r0 r1 r2 r3 r4 r5 q1 kx (wS cy q1 fs [])) → va_S A s.heap H locs → lv_has ls 8 [(0, .ref x0), (1, .int x1), (2, .int x2), (3, .int x3), (4, .int x4), (5, .int x5)] → W p l e { frames := 1, cells := 0, slots := 0, locals := 24 } s m args below meth c H locs 0 0 (MQ below (qL D (wX x0 r0 r1 r2 r3 r4 r5 q1 kx (wS cy q1 rr.2 [])) (rr.1) A) args s 0 0 A) (F0 m 18 ls [])) ∧ (∀ (fs : AL) (x5 : Int32) (x6 : Int32) (H : Heap) (locs : List Loc) (ls : Array Slot), lpn (st_X3_luckyShares x1 x2 x3 x4) fu (.inr (.inl (fs, x5, x6))) = some rr → va_P D vwCl (wX x0 r0 r1 r2 r3 r4 r5 q1 kx (wS cy q1 fs [])) H → va_D A (wX x0 r0 r1 r2 r3 r4 r5 q1 kx (wS cy q1 fs [])) → va_S A s.heap H locs → lv_has ls 8 [(0, .ref x0), (1, .int x1), (2, .int x2), (3, .int x3), (4, .int x4), (5, .int x5), (6, .int x6)] → W p l e { frames := 1, cells := 0, slots := 0, locals := 24 } s m args below meth c H locs 0 0 (MQ below (qL D (wX x0 r0 r1 r2 r3 r4 r5 q1 kx (wS cy q1 rr.2 [])) (rr.1) A) args s 0 0 A) (F0 m 35 ls [])) ∧ (∀ (fs : AL) (x5 : Int64) (x7 : Int32) (H : Heap) (locs : List Loc) (ls : Array Slot), lpn (st_X3_luckyShares x1 x2 x3 x4) fu (.inr (.inr (fs, x5, x7))) = some rr → va_P D vwCl (wX x0 r0 r1 r2 r3 r4 r5 q1 kx (wS cy q1 fs [])) H → va_D A (wX x0 r0 r1 r2 r3 r4 r5 q1 kx (wS cy q1 fs [])) → va_S A s.heap H locs → lv_has ls 8 [(0, .ref x0), (1, .int x1), (2, .int x2), (3, .int x3), (4, .int x4), (5, .long x5), (7, .int x7)] → W p l e { frames := 1, cells := 0, slots := 0, locals := 24 } s m args below meth c H locs 0 0 (MQ below (qL D (wX x0 r0 r1 r2 r3 r4 r5 q1 kx (wS cy q1 rr.2 [])) (rr.1) A) args s 0 0 A) (F0 m 109 ls []))
set_option maxHeartbeats 4000000 in
set_option maxRecDepth 100000 in
theorem w_X3_luckyShares_109 {p : Program} {l : Launch} {e : Env} {s : State} {m : MethodId} {args : Array Value} {below : List Frame} {meth : Method} {c : Code} {A : Nat → Prop} {D : va_G} {cy : Nat → ClassId} {x0 : Nat} {r0 : Nat} {r1 : Nat} {r2 : Nat} {r3 : Nat} {r4 : Nat} {r5 : Nat} {q1 : Nat} {kx : Int32} {x1 : Int32} {x2 : Int32} {x3 : Int32} {x4 : Int32} {fu : Nat} {rr : Int64 × AL} (M : kM p s m args meth c cX3_luckyShares 8 (some .long) RX3 wsX3_luckyShares A D cy) (ih : I_X3_luckyShares p l e s m args below meth c A D cy x0 r0 r1 r2 r3 r4 r5 q1 kx x1 x2 x3 x4 fu rr) {fs : AL} {x5 : Int64} {x7 : Int32} {oo : ((AL × Int32) ⊕ (AL × Int32 × Int32) ⊕ (AL × Int64 × Int32)) ⊕ (Int64 × AL)} (h : f_X3_luckyShares_109 x1 x2 x3 x4 fs x5 x7 = some oo) (hm : lpo (st_X3_luckyShares x1 x2 x3 x4) fu oo rr) {H : Heap} {locs : List Loc} {ls : Array Slot} (hP : va_P D vwCl (wX x0 r0 r1 r2 r3 r4 r5 q1 kx (wS cy q1 fs [])) H) (hD : va_D A (wX x0 r0 r1 r2 r3 r4 r5 q1 kx (wS cy q1 fs []))) (hS : va_S A s.heap H locs) (hl : lv_has ls 8 [(0, .ref x0), (1, .int x1), (2, .int x2), (3, .int x3), (4, .int x4), (5, .long x5), (7, .int x7)]) : W p l e { frames := 1, cells := 0, slots := 0, locals := 24 } s m args below meth c H locs 0 0 (MQ below (qL D (wX x0 r0 r1 r2 r3 r4 r5 q1 kx (wS cy q1 rr.2 [])) (rr.1) A) args s 0 0 A) (F0 m 109 ls []) := by
  obtain ⟨hx, hb, hr, hml, hown, hts, hlk, hA, hK⟩ := id M
  unfold f_X3_luckyShares_109 at h
  refine lv_iload hx hb dX3_luckyShares_109 (lv_at hl 6 rfl) ?_
  refine lv_bipush (v := 12) hx hb dX3_luckyShares_111 (by decide) ?_
  refine lv_icmp_gt (tgt := 147) hx hb dX3_luckyShares_113 (by decide) (fun c_1 => ?_) (fun c_1 => ?_)
  · replace h := it_p c_1 h
    refine lv_lload hx hb dX3_luckyShares_147 (lv_at hl 5 rfl) ?_
    cases h
    have hm : _ = rr := hm
    subst hm
    exact kretL hx hb hr hlk hP hS dX3_luckyShares_149
  · replace h := it_n c_1 h
    refine lv_lload hx hb dX3_luckyShares_116 (lv_at hl 5 rfl) ?_
    refine lv_iload_n hx hb dX3_luckyShares_118 rfl (lv_at hl 1 rfl) ?_
    refine lv_iload hx hb dX3_luckyShares_119 (lv_at hl 6 rfl) ?_
    refine lv_imul hx hb dX3_luckyShares_121 ?_
    refine lv_iload hx hb dX3_luckyShares_122 (lv_at hl 4 rfl) ?_
    refine lv_icmp_lt (tgt := 137) hx hb dX3_luckyShares_124 (by decide) (fun c_2 => ?_) (fun c_2 => ?_)
    · replace h := it_p c_2 h
      refine lv_lconst (v := 0) hx hb dX3_luckyShares_137 (by decide) ?_
      refine lv_ladd hx hb dX3_luckyShares_138 ?_
      refine lv_topl (fun x5_3 ex5_3 => ?_)
      replace h := nm_s h ex5_3
      refine lv_lstore (lv' := [(5, .long x5_3), (0, .ref x0), (1, .int x1), (2, .int x2), (3, .int x3), (4, .int x4), (7, .int x7)]) hx hb dX3_luckyShares_139 hl (by decide) rfl (fun ls hl => ?_)
      obtain ⟨x7_4, ex7_4⟩ : ∃ z : Int32, z = (x7 + (1 : Int32)) := ⟨_, rfl⟩
      replace h := nm_s h ex7_4
      refine lv_iinc (v := x7_4) (lv' := [(7, .int x7_4), (5, .long x5_3), (0, .ref x0), (1, .int x1), (2, .int x2), (3, .int x3), (4, .int x4)]) hx hb dX3_luckyShares_141 hl (k := 6) rfl (by rw [ex7_4]; rfl) (by decide) rfl (fun ls hl => ?_)
      refine lv_goto (tgt := 109) hx hb dX3_luckyShares_144 (by decide) ?_
      cases h
      exact ih.2.2 fs x5_3 x7_4 _ _ _ hm hP hD hS (lv_sub hl [2, 3, 4, 5, 6, 1, 0] rfl)
    · replace h := it_n c_2 h
      refine lv_aload_n hx hb dX3_luckyShares_127 rfl (lv_at hl 0 rfl) ?_
      refine va_get (D := D) (ci := 3) (v := .ref q1) (C := RX3) (T := TX3) (N := 8) hx hb hts iX3_luckyShares_X3 hown hK.1 hP 0 rfl rfl 6 (by decide) (hts _ mX3_luckyShares_1) (fun _ h9 => h9) rfl dX3_luckyShares_128 ?_
      refine lv_iload hx hb dX3_luckyShares_131 (lv_at hl 6 rfl) ?_
      obtain ⟨b_5, h⟩ := ck_s h
      refine va_lald hx hb hK.1 hP 1 2 rfl rfl b_5 dX3_luckyShares_133 ?_
      refine lv_goto (tgt := 138) hx hb dX3_luckyShares_134 (by decide) ?_
      refine lv_ladd hx hb dX3_luckyShares_138 ?_
      refine lv_topl (fun x5_6 ex5_6 => ?_)
      replace h := nm_s h ex5_6
      refine lv_lstore (lv' := [(5, .long x5_6), (0, .ref x0), (1, .int x1), (2, .int x2), (3, .int x3), (4, .int x4), (7, .int x7)]) hx hb dX3_luckyShares_139 hl (by decide) rfl (fun ls hl => ?_)
      obtain ⟨x7_7, ex7_7⟩ : ∃ z : Int32, z = (x7 + (1 : Int32)) := ⟨_, rfl⟩
      replace h := nm_s h ex7_7
      refine lv_iinc (v := x7_7) (lv' := [(7, .int x7_7), (5, .long x5_6), (0, .ref x0), (1, .int x1), (2, .int x2), (3, .int x3), (4, .int x4)]) hx hb dX3_luckyShares_141 hl (k := 6) rfl (by rw [ex7_7]; rfl) (by decide) rfl (fun ls hl => ?_)
      refine lv_goto (tgt := 109) hx hb dX3_luckyShares_144 (by decide) ?_
      cases h
      exact ih.2.2 fs x5_6 x7_7 _ _ _ hm hP hD hS (lv_sub hl [2, 3, 4, 5, 6, 1, 0] rfl)
set_option maxHeartbeats 4000000 in
set_option maxRecDepth 100000 in
theorem w_X3_luckyShares_35 {p : Program} {l : Launch} {e : Env} {s : State} {m : MethodId} {args : Array Value} {below : List Frame} {meth : Method} {c : Code} {A : Nat → Prop} {D : va_G} {cy : Nat → ClassId} {x0 : Nat} {r0 : Nat} {r1 : Nat} {r2 : Nat} {r3 : Nat} {r4 : Nat} {r5 : Nat} {q1 : Nat} {kx : Int32} {x1 : Int32} {x2 : Int32} {x3 : Int32} {x4 : Int32} {fu : Nat} {rr : Int64 × AL} (M : kM p s m args meth c cX3_luckyShares 8 (some .long) RX3 wsX3_luckyShares A D cy) (ih : I_X3_luckyShares p l e s m args below meth c A D cy x0 r0 r1 r2 r3 r4 r5 q1 kx x1 x2 x3 x4 fu rr) {fs : AL} {x5 : Int32} {x6 : Int32} {oo : ((AL × Int32) ⊕ (AL × Int32 × Int32) ⊕ (AL × Int64 × Int32)) ⊕ (Int64 × AL)} (h : f_X3_luckyShares_35 x1 x2 x3 x4 fs x5 x6 = some oo) (hm : lpo (st_X3_luckyShares x1 x2 x3 x4) fu oo rr) {H : Heap} {locs : List Loc} {ls : Array Slot} (hP : va_P D vwCl (wX x0 r0 r1 r2 r3 r4 r5 q1 kx (wS cy q1 fs [])) H) (hD : va_D A (wX x0 r0 r1 r2 r3 r4 r5 q1 kx (wS cy q1 fs []))) (hS : va_S A s.heap H locs) (hl : lv_has ls 8 [(0, .ref x0), (1, .int x1), (2, .int x2), (3, .int x3), (4, .int x4), (5, .int x5), (6, .int x6)]) : W p l e { frames := 1, cells := 0, slots := 0, locals := 24 } s m args below meth c H locs 0 0 (MQ below (qL D (wX x0 r0 r1 r2 r3 r4 r5 q1 kx (wS cy q1 rr.2 [])) (rr.1) A) args s 0 0 A) (F0 m 35 ls []) := by
  obtain ⟨hx, hb, hr, hml, hown, hts, hlk, hA, hK⟩ := id M
  unfold f_X3_luckyShares_35 at h
  refine lv_iload hx hb dX3_luckyShares_35 (lv_at hl 6 rfl) ?_
  refine lv_if_le (tgt := 79) hx hb dX3_luckyShares_37 (by decide) (fun c_1 => ?_) (fun c_1 => ?_)
  · replace h := it_p c_1 h
    refine lv_aload_n hx hb dX3_luckyShares_79 rfl (lv_at hl 0 rfl) ?_
    refine va_get (D := D) (ci := 3) (v := .ref q1) (C := RX3) (T := TX3) (N := 8) hx hb hts iX3_luckyShares_X3 hown hK.1 hP 0 rfl rfl 6 (by decide) (hts _ mX3_luckyShares_1) (fun _ h9 => h9) rfl dX3_luckyShares_80 ?_
    refine lv_iconst (v := 0) hx hb dX3_luckyShares_83 (by decide) ?_
    refine lv_aload_n hx hb dX3_luckyShares_84 rfl (lv_at hl 0 rfl) ?_
    refine va_get (D := D) (ci := 3) (v := .ref q1) (C := RX3) (T := TX3) (N := 8) hx hb hts iX3_luckyShares_X3 hown hK.1 hP 0 rfl rfl 6 (by decide) (hts _ mX3_luckyShares_1) (fun _ h9 => h9) rfl dX3_luckyShares_85 ?_
    refine lv_iconst (v := 0) hx hb dX3_luckyShares_88 (by decide) ?_
    obtain ⟨b_2, h⟩ := ck_s h
    refine va_lald hx hb hK.1 hP 1 2 rfl rfl b_2 dX3_luckyShares_89 ?_
    refine lv_bipush (v := 10) hx hb dX3_luckyShares_90 (by decide) ?_
    refine lv_iload_n hx hb dX3_luckyShares_92 rfl (lv_at hl 3 rfl) ?_
    refine lv_isub hx hb dX3_luckyShares_93 ?_
    refine lv_i2l hx hb dX3_luckyShares_94 rfl ?_
    refine lv_lmul hx hb dX3_luckyShares_95 ?_
    refine va_last hx hb hK.1 hP hD hS 1 2 rfl rfl b_2 dX3_luckyShares_96 (fun H locs hP hD hS => ?_)
    obtain ⟨fs_3, efs_3⟩ : ∃ z : AL, z = (vp_updL fs (0 : Int32).toNatClampNeg ((fs (0 : Int32).toNatClampNeg) * (((10 : Int32) - x3).toInt64))) := ⟨_, rfl⟩
    replace h := nm_s h efs_3
    have hP : va_P D vwCl (wX x0 r0 r1 r2 r3 r4 r5 q1 kx (wS cy q1 fs_3 [])) H := by subst efs_3; exact hP
    have hD : va_D A (wX x0 r0 r1 r2 r3 r4 r5 q1 kx (wS cy q1 fs_3 [])) := hD.lk [x0, q1] rfl rfl
    obtain ⟨x5_4, ex5_4⟩ : ∃ z : Int32, z = (x5 + (1 : Int32)) := ⟨_, rfl⟩
    replace h := nm_s h ex5_4
    refine lv_iinc (v := x5_4) (lv' := [(5, .int x5_4), (0, .ref x0), (1, .int x1), (2, .int x2), (3, .int x3), (4, .int x4), (6, .int x6)]) hx hb dX3_luckyShares_97 hl (k := 5) rfl (by rw [ex5_4]; rfl) (by decide) rfl (fun ls hl => ?_)
    refine lv_goto (tgt := 18) hx hb dX3_luckyShares_100 (by decide) ?_
    cases h
    exact ih.1 fs_3 x5_4 _ _ _ hm hP hD hS (lv_sub hl [1, 2, 3, 4, 5, 0] rfl)
  · replace h := it_n c_1 h
    refine lv_aload_n hx hb dX3_luckyShares_40 rfl (lv_at hl 0 rfl) ?_
    refine va_get (D := D) (ci := 3) (v := .ref q1) (C := RX3) (T := TX3) (N := 8) hx hb hts iX3_luckyShares_X3 hown hK.1 hP 0 rfl rfl 6 (by decide) (hts _ mX3_luckyShares_1) (fun _ h9 => h9) rfl dX3_luckyShares_41 ?_
    refine lv_iload hx hb dX3_luckyShares_44 (lv_at hl 6 rfl) ?_
    refine lv_aload_n hx hb dX3_luckyShares_46 rfl (lv_at hl 0 rfl) ?_
    refine va_get (D := D) (ci := 3) (v := .ref q1) (C := RX3) (T := TX3) (N := 8) hx hb hts iX3_luckyShares_X3 hown hK.1 hP 0 rfl rfl 6 (by decide) (hts _ mX3_luckyShares_1) (fun _ h9 => h9) rfl dX3_luckyShares_47 ?_
    refine lv_iload hx hb dX3_luckyShares_50 (lv_at hl 6 rfl) ?_
    obtain ⟨b_5, h⟩ := ck_s h
    refine va_lald hx hb hK.1 hP 1 2 rfl rfl b_5 dX3_luckyShares_52 ?_
    refine lv_bipush (v := 10) hx hb dX3_luckyShares_53 (by decide) ?_
    refine lv_iload_n hx hb dX3_luckyShares_55 rfl (lv_at hl 3 rfl) ?_
    refine lv_isub hx hb dX3_luckyShares_56 ?_
    refine lv_i2l hx hb dX3_luckyShares_57 rfl ?_
    refine lv_lmul hx hb dX3_luckyShares_58 ?_
    refine lv_aload_n hx hb dX3_luckyShares_59 rfl (lv_at hl 0 rfl) ?_
    refine va_get (D := D) (ci := 3) (v := .ref q1) (C := RX3) (T := TX3) (N := 8) hx hb hts iX3_luckyShares_X3 hown hK.1 hP 0 rfl rfl 6 (by decide) (hts _ mX3_luckyShares_1) (fun _ h9 => h9) rfl dX3_luckyShares_60 ?_
    refine lv_iload hx hb dX3_luckyShares_63 (lv_at hl 6 rfl) ?_
    refine lv_iconst (v := 1) hx hb dX3_luckyShares_65 (by decide) ?_
    refine lv_isub hx hb dX3_luckyShares_66 ?_
    obtain ⟨b_6, h⟩ := ck_s h
    refine va_lald hx hb hK.1 hP 1 2 rfl rfl b_6 dX3_luckyShares_67 ?_
    refine lv_iload_n hx hb dX3_luckyShares_68 rfl (lv_at hl 3 rfl) ?_
    refine lv_i2l hx hb dX3_luckyShares_69 rfl ?_
    refine lv_lmul hx hb dX3_luckyShares_70 ?_
    refine lv_ladd hx hb dX3_luckyShares_71 ?_
    refine va_last hx hb hK.1 hP hD hS 1 2 rfl rfl b_5 dX3_luckyShares_72 (fun H locs hP hD hS => ?_)
    obtain ⟨fs_7, efs_7⟩ : ∃ z : AL, z = (vp_updL fs x6.toNatClampNeg (((fs x6.toNatClampNeg) * (((10 : Int32) - x3).toInt64)) + ((fs (x6 - (1 : Int32)).toNatClampNeg) * (x3.toInt64)))) := ⟨_, rfl⟩
    replace h := nm_s h efs_7
    have hP : va_P D vwCl (wX x0 r0 r1 r2 r3 r4 r5 q1 kx (wS cy q1 fs_7 [])) H := by subst efs_7; exact hP
    have hD : va_D A (wX x0 r0 r1 r2 r3 r4 r5 q1 kx (wS cy q1 fs_7 [])) := hD.lk [x0, q1] rfl rfl
    obtain ⟨x6_8, ex6_8⟩ : ∃ z : Int32, z = (x6 + (-1 : Int32)) := ⟨_, rfl⟩
    replace h := nm_s h ex6_8
    refine lv_iinc (v := x6_8) (lv' := [(6, .int x6_8), (0, .ref x0), (1, .int x1), (2, .int x2), (3, .int x3), (4, .int x4), (5, .int x5)]) hx hb dX3_luckyShares_73 hl (k := 6) rfl (by rw [ex6_8]; rfl) (by decide) rfl (fun ls hl => ?_)
    refine lv_goto (tgt := 35) hx hb dX3_luckyShares_76 (by decide) ?_
    cases h
    exact ih.2.1 fs_7 x5 x6_8 _ _ _ hm hP hD hS (lv_sub hl [1, 2, 3, 4, 5, 6, 0] rfl)
set_option maxHeartbeats 4000000 in
set_option maxRecDepth 100000 in
theorem w_X3_luckyShares_18 {p : Program} {l : Launch} {e : Env} {s : State} {m : MethodId} {args : Array Value} {below : List Frame} {meth : Method} {c : Code} {A : Nat → Prop} {D : va_G} {cy : Nat → ClassId} {x0 : Nat} {r0 : Nat} {r1 : Nat} {r2 : Nat} {r3 : Nat} {r4 : Nat} {r5 : Nat} {q1 : Nat} {kx : Int32} {x1 : Int32} {x2 : Int32} {x3 : Int32} {x4 : Int32} {fu : Nat} {rr : Int64 × AL} (M : kM p s m args meth c cX3_luckyShares 8 (some .long) RX3 wsX3_luckyShares A D cy) (ih : I_X3_luckyShares p l e s m args below meth c A D cy x0 r0 r1 r2 r3 r4 r5 q1 kx x1 x2 x3 x4 fu rr) {fs : AL} {x5 : Int32} {oo : ((AL × Int32) ⊕ (AL × Int32 × Int32) ⊕ (AL × Int64 × Int32)) ⊕ (Int64 × AL)} (h : f_X3_luckyShares_18 x1 x2 x3 x4 fs x5 = some oo) (hm : lpo (st_X3_luckyShares x1 x2 x3 x4) fu oo rr) {H : Heap} {locs : List Loc} {ls : Array Slot} (hP : va_P D vwCl (wX x0 r0 r1 r2 r3 r4 r5 q1 kx (wS cy q1 fs [])) H) (hD : va_D A (wX x0 r0 r1 r2 r3 r4 r5 q1 kx (wS cy q1 fs []))) (hS : va_S A s.heap H locs) (hl : lv_has ls 8 [(0, .ref x0), (1, .int x1), (2, .int x2), (3, .int x3), (4, .int x4), (5, .int x5)]) : W p l e { frames := 1, cells := 0, slots := 0, locals := 24 } s m args below meth c H locs 0 0 (MQ below (qL D (wX x0 r0 r1 r2 r3 r4 r5 q1 kx (wS cy q1 rr.2 [])) (rr.1) A) args s 0 0 A) (F0 m 18 ls []) := by
  obtain ⟨hx, hb, hr, hml, hown, hts, hlk, hA, hK⟩ := id M
  unfold f_X3_luckyShares_18 at h
  refine lv_iload hx hb dX3_luckyShares_18 (lv_at hl 5 rfl) ?_
  refine lv_iload_n hx hb dX3_luckyShares_20 rfl (lv_at hl 2 rfl) ?_
  refine lv_icmp_gt (tgt := 103) hx hb dX3_luckyShares_21 (by decide) (fun c_1 => ?_) (fun c_1 => ?_)
  · replace h := it_p c_1 h
    refine lv_lconst (v := 0) hx hb dX3_luckyShares_103 (by decide) ?_
    refine lv_lstore (lv' := [(5, .long (0 : Int64)), (0, .ref x0), (1, .int x1), (2, .int x2), (3, .int x3), (4, .int x4)]) hx hb dX3_luckyShares_104 hl (by decide) rfl (fun ls hl => ?_)
    refine lv_iconst (v := 0) hx hb dX3_luckyShares_106 (by decide) ?_
    refine lv_istore (lv' := [(7, .int (0 : Int32)), (5, .long (0 : Int64)), (0, .ref x0), (1, .int x1), (2, .int x2), (3, .int x3), (4, .int x4)]) hx hb dX3_luckyShares_107 hl (by decide) rfl (fun ls hl => ?_)
    cases h
    exact ih.2.2 fs (0 : Int64) (0 : Int32) _ _ _ hm hP hD hS (lv_sub hl [2, 3, 4, 5, 6, 1, 0] rfl)
  · replace h := it_n c_1 h
    refine lv_iload hx hb dX3_luckyShares_24 (lv_at hl 5 rfl) ?_
    refine lv_bipush (v := 12) hx hb dX3_luckyShares_26 (by decide) ?_
    refine lv_icmp_gt (tgt := 103) hx hb dX3_luckyShares_28 (by decide) (fun c_2 => ?_) (fun c_2 => ?_)
    · replace h := it_p c_2 h
      refine lv_lconst (v := 0) hx hb dX3_luckyShares_103 (by decide) ?_
      refine lv_lstore (lv' := [(5, .long (0 : Int64)), (0, .ref x0), (1, .int x1), (2, .int x2), (3, .int x3), (4, .int x4)]) hx hb dX3_luckyShares_104 hl (by decide) rfl (fun ls hl => ?_)
      refine lv_iconst (v := 0) hx hb dX3_luckyShares_106 (by decide) ?_
      refine lv_istore (lv' := [(7, .int (0 : Int32)), (5, .long (0 : Int64)), (0, .ref x0), (1, .int x1), (2, .int x2), (3, .int x3), (4, .int x4)]) hx hb dX3_luckyShares_107 hl (by decide) rfl (fun ls hl => ?_)
      cases h
      exact ih.2.2 fs (0 : Int64) (0 : Int32) _ _ _ hm hP hD hS (lv_sub hl [2, 3, 4, 5, 6, 1, 0] rfl)
    · replace h := it_n c_2 h
      refine lv_iload hx hb dX3_luckyShares_31 (lv_at hl 5 rfl) ?_
      refine lv_istore (lv' := [(6, .int x5), (0, .ref x0), (1, .int x1), (2, .int x2), (3, .int x3), (4, .int x4), (5, .int x5)]) hx hb dX3_luckyShares_33 hl (by decide) rfl (fun ls hl => ?_)
      cases h
      exact ih.2.1 fs x5 x5 _ _ _ hm hP hD hS (lv_sub hl [1, 2, 3, 4, 5, 6, 0] rfl)
set_option maxHeartbeats 4000000 in
set_option maxRecDepth 100000 in
theorem w_X3_luckyShares_0 {p : Program} {l : Launch} {e : Env} {s : State} {m : MethodId} {args : Array Value} {below : List Frame} {meth : Method} {c : Code} {A : Nat → Prop} {D : va_G} {cy : Nat → ClassId} {x0 : Nat} {r0 : Nat} {r1 : Nat} {r2 : Nat} {r3 : Nat} {r4 : Nat} {r5 : Nat} {q1 : Nat} {kx : Int32} {x1 : Int32} {x2 : Int32} {x3 : Int32} {x4 : Int32} {fu : Nat} {rr : Int64 × AL} (M : kM p s m args meth c cX3_luckyShares 8 (some .long) RX3 wsX3_luckyShares A D cy) (ih : I_X3_luckyShares p l e s m args below meth c A D cy x0 r0 r1 r2 r3 r4 r5 q1 kx x1 x2 x3 x4 fu rr) {fs : AL} {oo : ((AL × Int32) ⊕ (AL × Int32 × Int32) ⊕ (AL × Int64 × Int32)) ⊕ (Int64 × AL)} (h : f_X3_luckyShares_0 fs x1 x2 x3 x4 = some oo) (hm : lpo (st_X3_luckyShares x1 x2 x3 x4) fu oo rr) {H : Heap} {locs : List Loc} {ls : Array Slot} (hP : va_P D vwCl (wX x0 r0 r1 r2 r3 r4 r5 q1 kx (wS cy q1 fs [])) H) (hD : va_D A (wX x0 r0 r1 r2 r3 r4 r5 q1 kx (wS cy q1 fs []))) (hS : va_S A s.heap H locs) (hl : lv_has ls 8 [(0, .ref x0), (1, .int x1), (2, .int x2), (3, .int x3), (4, .int x4)]) : W p l e { frames := 1, cells := 0, slots := 0, locals := 24 } s m args below meth c H locs 0 0 (MQ below (qL D (wX x0 r0 r1 r2 r3 r4 r5 q1 kx (wS cy q1 rr.2 [])) (rr.1) A) args s 0 0 A) (F0 m 0 ls []) := by
  obtain ⟨hx, hb, hr, hml, hown, hts, hlk, hA, hK⟩ := id M
  unfold f_X3_luckyShares_0 at h
  refine lv_aload_n hx hb dX3_luckyShares_0 rfl (lv_at hl 0 rfl) ?_
  refine va_get (D := D) (ci := 3) (v := .ref q1) (C := RX3) (T := TX3) (N := 8) hx hb hts iX3_luckyShares_X3 hown hK.1 hP 0 rfl rfl 6 (by decide) (hts _ mX3_luckyShares_1) (fun _ h9 => h9) rfl dX3_luckyShares_1 ?_
  refine lv_lconst (v := 0) hx hb dX3_luckyShares_4 (by decide) ?_
  obtain ⟨r_1, hr_1, h⟩ := bn_s h
  refine kcSv (As := [.ref q1, .long (0 : Int64)]) (rest := []) (ws' := (wX x0 r0 r1 r2 r3 r4 r5 q1 kx (wS cy q1 r_1 []))) ⟨hx, hb, hml, hown, hts⟩ (va_cwS 2 hts gX3_luckyShares_J7_fill_d0a16 rfl rfl rfl eJ7_fill_d0a16 ⟨Nat.le_of_ble_eq_true rfl, Nat.le_of_ble_eq_true rfl⟩) (c_J7_fill_d0a16 q1 hr_1) hK hP hD hS hA [1] [0] (by decide) rfl rfl [x0, q1] rfl rfl rfl (wX x0 r0 r1 r2 r3 r4 r5 q1 kx []) rfl rfl rfl rfl hl.1 rfl (Nat.le_of_ble_eq_true rfl) dX3_luckyShares_5 (fun H locs hP hD hS => ?_)
  refine lv_aload_n hx hb dX3_luckyShares_8 rfl (lv_at hl 0 rfl) ?_
  refine va_get (D := D) (ci := 3) (v := .ref q1) (C := RX3) (T := TX3) (N := 8) hx hb hts iX3_luckyShares_X3 hown hK.1 hP 0 rfl rfl 6 (by decide) (hts _ mX3_luckyShares_1) (fun _ h9 => h9) rfl dX3_luckyShares_9 ?_
  refine lv_iconst (v := 0) hx hb dX3_luckyShares_12 (by decide) ?_
  refine lv_lconst (v := 1) hx hb dX3_luckyShares_13 (by decide) ?_
  obtain ⟨b_2, h⟩ := ck_s h
  refine va_last hx hb hK.1 hP hD hS 1 2 rfl rfl b_2 dX3_luckyShares_14 (fun H locs hP hD hS => ?_)
  obtain ⟨fs_3, efs_3⟩ : ∃ z : AL, z = (vp_updL r_1 (0 : Int32).toNatClampNeg (1 : Int64)) := ⟨_, rfl⟩
  replace h := nm_s h efs_3
  have hP : va_P D vwCl (wX x0 r0 r1 r2 r3 r4 r5 q1 kx (wS cy q1 fs_3 [])) H := by subst efs_3; exact hP
  have hD : va_D A (wX x0 r0 r1 r2 r3 r4 r5 q1 kx (wS cy q1 fs_3 [])) := hD.lk [x0, q1] rfl rfl
  refine lv_iconst (v := 1) hx hb dX3_luckyShares_15 (by decide) ?_
  refine lv_istore (lv' := [(5, .int (1 : Int32)), (0, .ref x0), (1, .int x1), (2, .int x2), (3, .int x3), (4, .int x4)]) hx hb dX3_luckyShares_16 hl (by decide) rfl (fun ls hl => ?_)
  cases h
  exact ih.1 fs_3 (1 : Int32) _ _ _ hm hP hD hS (lv_sub hl [1, 2, 3, 4, 5, 0] rfl)
theorem wl_X3_luckyShares {p : Program} {l : Launch} {e : Env} {s : State} {m : MethodId} {args : Array Value} {below : List Frame} {meth : Method} {c : Code} {A : Nat → Prop} {D : va_G} {cy : Nat → ClassId} {x0 : Nat} {r0 : Nat} {r1 : Nat} {r2 : Nat} {r3 : Nat} {r4 : Nat} {r5 : Nat} {q1 : Nat} {kx : Int32} {x1 : Int32} {x2 : Int32} {x3 : Int32} {x4 : Int32} {rr : Int64 × AL} (M : kM p s m args meth c cX3_luckyShares 8 (some .long) RX3 wsX3_luckyShares A D cy) : ∀ fu : Nat, I_X3_luckyShares p l e s m args below meth c A D cy x0 r0 r1 r2 r3 r4 r5 q1 kx x1 x2 x3 x4 fu rr := by
  intro fu
  induction fu with
  | zero => exact ⟨(fun _ _ _ _ _ h => by cases h), (fun _ _ _ _ _ _ h => by cases h), (fun _ _ _ _ _ _ h => by cases h)⟩
  | succ fu ih =>
    refine ⟨?_, ?_, ?_⟩
    · intro fs x5 H locs ls h hP hD hS hl
      obtain ⟨o1, h1, h2⟩ := lpn_s h
      exact w_X3_luckyShares_18 M ih h1 h2 hP hD hS hl
    · intro fs x5 x6 H locs ls h hP hD hS hl
      obtain ⟨o1, h1, h2⟩ := lpn_s h
      exact w_X3_luckyShares_35 M ih h1 h2 hP hD hS hl
    · intro fs x5 x7 H locs ls h hP hD hS hl
      obtain ⟨o1, h1, h2⟩ := lpn_s h
      exact w_X3_luckyShares_109 M ih h1 h2 hP hD hS hl
theorem c_X3_luckyShares {l : Launch} {D : va_G} {cy : Nat → ClassId} (x0 : Nat) (r0 : Nat) (r1 : Nat) (r2 : Nat) (r3 : Nat) (r4 : Nat) (r5 : Nat) (q1 : Nat) (kx : Int32) {fs : AL} {x1 : Int32} {x2 : Int32} {x3 : Int32} {x4 : Int32} {rr : Int64 × AL} (h : f_X3_luckyShares fs x1 x2 x3 x4 = some rr) : CL l D cy yX3_luckyShares wsX3_luckyShares { frames := 1, cells := 0, slots := 0, locals := 24 } [.ref x0, .int x1, .int x2, .int x3, .int x4] (wX x0 r0 r1 r2 r3 r4 r5 q1 kx (wS cy q1 fs [])) (rr.1) (wX x0 r0 r1 r2 r3 r4 r5 q1 kx (wS cy q1 rr.2 [])) := by
  refine kofL (cc := cX3_luckyShares) (maxL := 8) (ret := (some .long)) (by decide) rfl (Nat.le_of_ble_eq_true rfl) ?_
  intro p e s m below meth c A M ls hl hP hD hS
  obtain ⟨o1, fu, h1, h2⟩ := rnx_s h
  exact w_X3_luckyShares_0 M (wl_X3_luckyShares M fu) h1 h2 hP hD hS hl
theorem eX3_luckyShares : yX3_luckyShares.cls ≠ "java/lang/invoke/MethodHandle" ∧ yX3_luckyShares.cls ≠ "java/lang/invoke/VarHandle" ∧ (parseMethodDescriptor yX3_luckyShares.desc).map (fun d => d.parameters.length) = some 4 := by decide +kernel
theorem iX3_money_X3 : ∀ w ∈ u_ws RX3 TX3 8, w ∈ wsX3_money := by decide +kernel
theorem mX3_money_1 : Cond.fieldLink RX3 12 "LentPiles" "now" "LLentPiles$Valley;" ∈ wsX3_money := by decide +kernel
set_option maxHeartbeats 4000000 in
set_option maxRecDepth 100000 in
theorem w_X3_money_0 {p : Program} {l : Launch} {e : Env} {s : State} {m : MethodId} {args : Array Value} {below : List Frame} {meth : Method} {c : Code} {A : Nat → Prop} {D : va_G} {cy : Nat → ClassId} {x0 : Nat} {r1 : Nat} {r2 : Nat} {r3 : Nat} {r4 : Nat} {r5 : Nat} {r6 : Nat} {b1 : Nat → Nat} {kx : Int32} {x1 : Int32} {x2 : Int32} {rr : Int32 × VS} (M : kM p s m args meth c cX3_money 4 (some .int) RX3 wsX3_money A D cy) {vv : VS} (h : f_X3_money vv x1 x2 = some rr) {H : Heap} {locs : List Loc} {ls : Array Slot} (hP : va_P D vwCl (wX x0 (b1 0) r1 r2 r3 r4 r5 r6 kx (wV cy b1 vv [])) H) (hD : va_D A (wX x0 (b1 0) r1 r2 r3 r4 r5 r6 kx (wV cy b1 vv []))) (hS : va_S A s.heap H locs) (hl : lv_has ls 4 [(0, .ref x0), (1, .int x1), (2, .int x2)]) : W p l e { frames := 2, cells := 0, slots := 0, locals := 42 } s m args below meth c H locs 0 0 (MQ below (qI D (wX x0 (b1 0) r1 r2 r3 r4 r5 r6 kx (wV cy b1 rr.2 [])) (rr.1) A) args s 0 0 A) (F0 m 0 ls []) := by
  obtain ⟨hx, hb, hr, hml, hown, hts, hlk, hA, hK⟩ := id M
  unfold f_X3_money at h
  refine lv_iload_n hx hb dX3_money_0 rfl (lv_at hl 1 rfl) ?_
  obtain ⟨r_1, hr_1, h⟩ := bn_s h
  refine kcSi (As := [.int x1]) (rest := []) ⟨hx, hb, hml, hown, hts⟩ (va_cwS 1 hts gX3_money_X3_isMan rfl rfl rfl eX3_isMan ⟨Nat.le_of_ble_eq_true rfl, Nat.le_of_ble_eq_true rfl⟩) (c_X3_isMan  hr_1) hK hP hS hA rfl hl.1 rfl (Nat.le_of_ble_eq_true rfl) dX3_money_1 (fun H locs hP hS => ?_)
  refine lv_if_ne (tgt := 9) hx hb dX3_money_4 (by decide) (fun c_2 => ?_) (fun c_2 => ?_)
  · replace h := it_n c_2 h
    refine lv_iload_n hx hb dX3_money_9 rfl (lv_at hl 2 rfl) ?_
    refine lv_iconst (v := 0) hx hb dX3_money_10 (by decide) ?_
    refine lv_sipush (v := 999) hx hb dX3_money_11 (by decide) ?_
    obtain ⟨r_3, hr_3, h⟩ := bn_s h
    refine kcSi (As := [.int x2, .int (0 : Int32), .int (999 : Int32)]) (rest := []) ⟨hx, hb, hml, hown, hts⟩ (va_cwS 3 hts gX3_money_X3_isWithin rfl rfl rfl eX3_isWithin ⟨Nat.le_of_ble_eq_true rfl, Nat.le_of_ble_eq_true rfl⟩) (c_X3_isWithin  hr_3) hK hP hS hA rfl hl.1 rfl (Nat.le_of_ble_eq_true rfl) dX3_money_14 (fun H locs hP hS => ?_)
    refine lv_if_ne (tgt := 23) hx hb dX3_money_17 (by decide) (fun c_4 => ?_) (fun c_4 => ?_)
    · replace h := it_n c_4 h
      refine lv_aload_n hx hb dX3_money_23 rfl (lv_at hl 0 rfl) ?_
      refine va_get (D := D) (ci := 3) (v := .ref (b1 0)) (C := RX3) (T := TX3) (N := 8) hx hb hts iX3_money_X3 hown hK.1 hP 0 rfl rfl 0 (by decide) (hts _ mX3_money_1) (fun _ h9 => h9) rfl dX3_money_24 ?_
      refine lv_iload_n hx hb dX3_money_27 rfl (lv_at hl 1 rfl) ?_
      obtain ⟨r_5, hr_5, h⟩ := bn_s h
      refine kcVi (As := [.int x1]) (rest := []) (ws' := (wX x0 (b1 0) r1 r2 r3 r4 r5 r6 kx (wV cy b1 vv []))) ⟨hx, hb, hml, hown, hts⟩ (cwV 1 hts gX3_money_X2_purseOf rfl rfl rfl ⟨rfl, eX2_purseOf⟩ ⟨Nat.le_of_ble_eq_true rfl, Nat.le_of_ble_eq_true rfl⟩) (c_X2_purseOf b1 hr_5) hK hP hD hS hA [1, 2, 3, 4, 5, 6, 7, 8] [0] (by decide) rfl rfl 2 rfl rfl [x0, (b1 0), (b1 1), (b1 2), (b1 3), (b1 4), (b1 5), (b1 6), (b1 7)] rfl rfl rfl (wX x0 (b1 0) r1 r2 r3 r4 r5 r6 kx []) rfl rfl rfl rfl hl.1 rfl (Nat.le_of_ble_eq_true rfl) dX3_money_28 (fun H locs hP hD hS => ?_)
      refine lv_istore_n (lv' := [(3, .int r_5), (0, .ref x0), (1, .int x1), (2, .int x2)]) hx hb dX3_money_31 rfl hl (by decide) rfl (fun ls hl => ?_)
      refine lv_aload_n hx hb dX3_money_32 rfl (lv_at hl 1 rfl) ?_
      refine va_get (D := D) (ci := 3) (v := .ref (b1 0)) (C := RX3) (T := TX3) (N := 8) hx hb hts iX3_money_X3 hown hK.1 hP 0 rfl rfl 0 (by decide) (hts _ mX3_money_1) (fun _ h9 => h9) rfl dX3_money_33 ?_
      refine lv_iload_n hx hb dX3_money_36 rfl (lv_at hl 2 rfl) ?_
      refine lv_iload_n hx hb dX3_money_37 rfl (lv_at hl 3 rfl) ?_
      obtain ⟨r_6, hr_6, h⟩ := bn_s h
      refine kcVv (As := [.int x1, .int x2]) (rest := []) (ws' := (wX x0 (b1 0) r1 r2 r3 r4 r5 r6 kx (wV cy b1 r_6 []))) ⟨hx, hb, hml, hown, hts⟩ (cwV 2 hts gX3_money_X2_fillPurse rfl rfl rfl ⟨rfl, eX2_fillPurse⟩ ⟨Nat.le_of_ble_eq_true rfl, Nat.le_of_ble_eq_true rfl⟩) (c_X2_fillPurse b1 hr_6) hK hP hD hS hA [1, 2, 3, 4, 5, 6, 7, 8] [0] (by decide) rfl rfl 2 rfl rfl [x0, (b1 0), (b1 1), (b1 2), (b1 3), (b1 4), (b1 5), (b1 6), (b1 7)] rfl rfl rfl (wX x0 (b1 0) r1 r2 r3 r4 r5 r6 kx []) rfl rfl rfl rfl hl.1 rfl (Nat.le_of_ble_eq_true rfl) dX3_money_38 (fun H locs hP hD hS => ?_)
      refine lv_iload_n hx hb dX3_money_41 rfl (lv_at hl 0 rfl) ?_
      cases h
      exact kretI hx hb hr hlk hP hS dX3_money_42
    · replace h := it_p c_4 h
      refine lv_bipush (v := (-2)) hx hb dX3_money_20 (by decide) ?_
      cases h
      exact kretI hx hb hr hlk hP hS dX3_money_22
  · replace h := it_p c_2 h
    refine lv_iconst (v := (-1)) hx hb dX3_money_7 (by decide) ?_
    cases h
    exact kretI hx hb hr hlk hP hS dX3_money_8
theorem c_X3_money {l : Launch} {D : va_G} {cy : Nat → ClassId} (x0 : Nat) (r1 : Nat) (r2 : Nat) (r3 : Nat) (r4 : Nat) (r5 : Nat) (r6 : Nat) (b1 : Nat → Nat) (kx : Int32) {vv : VS} {x1 : Int32} {x2 : Int32} {rr : Int32 × VS} (h : f_X3_money vv x1 x2 = some rr) : CI l D cy yX3_money wsX3_money { frames := 2, cells := 0, slots := 0, locals := 42 } [.ref x0, .int x1, .int x2] (wX x0 (b1 0) r1 r2 r3 r4 r5 r6 kx (wV cy b1 vv [])) (rr.1) (wX x0 (b1 0) r1 r2 r3 r4 r5 r6 kx (wV cy b1 rr.2 [])) := by
  refine kofI (cc := cX3_money) (maxL := 4) (ret := (some .int)) (by decide) rfl (Nat.le_of_ble_eq_true rfl) ?_
  intro p e s m below meth c A M ls hl hP hD hS
  exact w_X3_money_0 M h hP hD hS hl
theorem eX3_money : yX3_money.cls ≠ "java/lang/invoke/MethodHandle" ∧ yX3_money.cls ≠ "java/lang/invoke/VarHandle" ∧ (parseMethodDescriptor yX3_money.desc).map (fun d => d.parameters.length) = some 2 := by decide +kernel
theorem iX3_odds_X3 : ∀ w ∈ u_ws RX3 TX3 8, w ∈ wsX3_odds := by decide +kernel
theorem iX3_odds_X2 : ∀ w ∈ u_ws RX2 TX2 11, w ∈ wsX3_odds := by decide +kernel
theorem mX3_odds_1 : Cond.constantLong RX3 176 (-1000000000000000002) ∈ wsX3_odds := by decide +kernel
theorem mX3_odds_2 : Cond.fieldLink RX3 12 "LentPiles" "now" "LLentPiles$Valley;" ∈ wsX3_odds := by decide +kernel
theorem mX3_odds_3 : Cond.constantLong RX3 178 (-1000000000000000003) ∈ wsX3_odds := by decide +kernel
theorem mX3_odds_4 : Cond.constantLong RX3 174 (-1000000000000000001) ∈ wsX3_odds := by decide +kernel
set_option maxHeartbeats 4000000 in
set_option maxRecDepth 100000 in
theorem w_X3_odds_0 {p : Program} {l : Launch} {e : Env} {s : State} {m : MethodId} {args : Array Value} {below : List Frame} {meth : Method} {c : Code} {A : Nat → Prop} {D : va_G} {cy : Nat → ClassId} {x0 : Nat} {r1 : Nat} {r2 : Nat} {r3 : Nat} {r4 : Nat} {r5 : Nat} {b1 : Nat → Nat} {q2 : Nat} {kx : Int32} {vv : VS} {x1 : Int32} {x2 : Int32} {x3 : Int32} {x4 : Int32} {x5 : Int32} {rr : Int64 × AL} (M : kM p s m args meth c cX3_odds 8 (some .long) RX3 wsX3_odds A D cy) {fs : AL} (h : f_X3_odds vv fs x1 x2 x3 x4 x5 = some rr) {H : Heap} {locs : List Loc} {ls : Array Slot} (hP : va_P D vwCl (wX x0 (b1 0) r1 r2 r3 r4 r5 q2 kx (wV cy b1 vv (wS cy q2 fs []))) H) (hD : va_D A (wX x0 (b1 0) r1 r2 r3 r4 r5 q2 kx (wV cy b1 vv (wS cy q2 fs [])))) (hS : va_S A s.heap H locs) (hl : lv_has ls 8 [(0, .ref x0), (1, .int x1), (2, .int x2), (3, .int x3), (4, .int x4), (5, .int x5)]) : W p l e { frames := 3, cells := 0, slots := 0, locals := 70 } s m args below meth c H locs 0 0 (MQ below (qL D (wX x0 (b1 0) r1 r2 r3 r4 r5 q2 kx (wV cy b1 vv (wS cy q2 rr.2 []))) (rr.1) A) args s 0 0 A) (F0 m 0 ls []) := by
  obtain ⟨hx, hb, hr, hml, hown, hts, hlk, hA, hK⟩ := id M
  unfold f_X3_odds at h
  refine lv_iload_n hx hb dX3_odds_0 rfl (lv_at hl 1 rfl) ?_
  obtain ⟨r_1, hr_1, h⟩ := bn_s h
  refine kcSi (As := [.int x1]) (rest := []) ⟨hx, hb, hml, hown, hts⟩ (va_cwS 1 hts gX3_odds_X3_isMan rfl rfl rfl eX3_isMan ⟨Nat.le_of_ble_eq_true rfl, Nat.le_of_ble_eq_true rfl⟩) (c_X3_isMan  hr_1) hK hP hS hA rfl hl.1 rfl (Nat.le_of_ble_eq_true rfl) dX3_odds_1 (fun H locs hP hS => ?_)
  refine lv_if_ne (tgt := 11) hx hb dX3_odds_4 (by decide) (fun c_2 => ?_) (fun c_2 => ?_)
  · replace h := it_n c_2 h
    refine lv_iload_n hx hb dX3_odds_11 rfl (lv_at hl 2 rfl) ?_
    refine lv_iconst (v := 1) hx hb dX3_odds_12 (by decide) ?_
    refine lv_bipush (v := 99) hx hb dX3_odds_13 (by decide) ?_
    obtain ⟨r_3, hr_3, h⟩ := bn_s h
    refine kcSi (As := [.int x2, .int (1 : Int32), .int (99 : Int32)]) (rest := []) ⟨hx, hb, hml, hown, hts⟩ (va_cwS 3 hts gX3_odds_X3_isWithin rfl rfl rfl eX3_isWithin ⟨Nat.le_of_ble_eq_true rfl, Nat.le_of_ble_eq_true rfl⟩) (c_X3_isWithin  hr_3) hK hP hS hA rfl hl.1 rfl (Nat.le_of_ble_eq_true rfl) dX3_odds_15 (fun H locs hP hS => ?_)
    refine lv_if_eq (tgt := 52) hx hb dX3_odds_18 (by decide) (fun c_4 => ?_) (fun c_4 => ?_)
    · replace h := it_p c_4 h
      refine lv_ldc2 (v := (-1000000000000000002)) hx hb hown (hts _ mX3_odds_1) dX3_odds_52 ?_
      cases h
      exact kretL hx hb hr hlk hP hS dX3_odds_55
    · replace h := it_n c_4 h
      refine lv_iload_n hx hb dX3_odds_21 rfl (lv_at hl 3 rfl) ?_
      refine lv_iconst (v := 0) hx hb dX3_odds_22 (by decide) ?_
      refine lv_bipush (v := 12) hx hb dX3_odds_23 (by decide) ?_
      obtain ⟨r_5, hr_5, h⟩ := bn_s h
      refine kcSi (As := [.int x3, .int (0 : Int32), .int (12 : Int32)]) (rest := []) ⟨hx, hb, hml, hown, hts⟩ (va_cwS 3 hts gX3_odds_X3_isWithin rfl rfl rfl eX3_isWithin ⟨Nat.le_of_ble_eq_true rfl, Nat.le_of_ble_eq_true rfl⟩) (c_X3_isWithin  hr_5) hK hP hS hA rfl hl.1 rfl (Nat.le_of_ble_eq_true rfl) dX3_odds_25 (fun H locs hP hS => ?_)
      refine lv_if_eq (tgt := 52) hx hb dX3_odds_28 (by decide) (fun c_6 => ?_) (fun c_6 => ?_)
      · replace h := it_p c_6 h
        refine lv_ldc2 (v := (-1000000000000000002)) hx hb hown (hts _ mX3_odds_1) dX3_odds_52 ?_
        cases h
        exact kretL hx hb hr hlk hP hS dX3_odds_55
      · replace h := it_n c_6 h
        refine lv_iload hx hb dX3_odds_31 (lv_at hl 4 rfl) ?_
        refine lv_iconst (v := 0) hx hb dX3_odds_33 (by decide) ?_
        refine lv_bipush (v := 10) hx hb dX3_odds_34 (by decide) ?_
        obtain ⟨r_7, hr_7, h⟩ := bn_s h
        refine kcSi (As := [.int x4, .int (0 : Int32), .int (10 : Int32)]) (rest := []) ⟨hx, hb, hml, hown, hts⟩ (va_cwS 3 hts gX3_odds_X3_isWithin rfl rfl rfl eX3_isWithin ⟨Nat.le_of_ble_eq_true rfl, Nat.le_of_ble_eq_true rfl⟩) (c_X3_isWithin  hr_7) hK hP hS hA rfl hl.1 rfl (Nat.le_of_ble_eq_true rfl) dX3_odds_36 (fun H locs hP hS => ?_)
        refine lv_if_eq (tgt := 52) hx hb dX3_odds_39 (by decide) (fun c_8 => ?_) (fun c_8 => ?_)
        · replace h := it_p c_8 h
          refine lv_ldc2 (v := (-1000000000000000002)) hx hb hown (hts _ mX3_odds_1) dX3_odds_52 ?_
          cases h
          exact kretL hx hb hr hlk hP hS dX3_odds_55
        · replace h := it_n c_8 h
          refine lv_iload hx hb dX3_odds_42 (lv_at hl 5 rfl) ?_
          refine lv_iconst (v := 0) hx hb dX3_odds_44 (by decide) ?_
          refine lv_iconst (v := 1) hx hb dX3_odds_45 (by decide) ?_
          obtain ⟨r_9, hr_9, h⟩ := bn_s h
          refine kcSi (As := [.int x5, .int (0 : Int32), .int (1 : Int32)]) (rest := []) ⟨hx, hb, hml, hown, hts⟩ (va_cwS 3 hts gX3_odds_X3_isWithin rfl rfl rfl eX3_isWithin ⟨Nat.le_of_ble_eq_true rfl, Nat.le_of_ble_eq_true rfl⟩) (c_X3_isWithin  hr_9) hK hP hS hA rfl hl.1 rfl (Nat.le_of_ble_eq_true rfl) dX3_odds_46 (fun H locs hP hS => ?_)
          refine lv_if_ne (tgt := 56) hx hb dX3_odds_49 (by decide) (fun c_10 => ?_) (fun c_10 => ?_)
          · replace h := it_n c_10 h
            refine lv_aload_n hx hb dX3_odds_56 rfl (lv_at hl 0 rfl) ?_
            refine va_get (D := D) (ci := 3) (v := .ref (b1 0)) (C := RX3) (T := TX3) (N := 8) hx hb hts iX3_odds_X3 hown hK.1 hP 0 rfl rfl 0 (by decide) (hts _ mX3_odds_2) (fun _ h9 => h9) rfl dX3_odds_57 ?_
            refine lv_iload_n hx hb dX3_odds_60 rfl (lv_at hl 1 rfl) ?_
            obtain ⟨r_11, hr_11, h⟩ := bn_s h
            refine kcVi (As := [.int x1]) (rest := []) (ws' := (wX x0 (b1 0) r1 r2 r3 r4 r5 q2 kx (wV cy b1 vv (wS cy q2 fs [])))) ⟨hx, hb, hml, hown, hts⟩ (cwV 1 hts gX3_odds_X2_dueOf rfl rfl rfl ⟨rfl, eX2_dueOf⟩ ⟨Nat.le_of_ble_eq_true rfl, Nat.le_of_ble_eq_true rfl⟩) (c_X2_dueOf b1 hr_11) hK hP hD hS hA [1, 2, 3, 4, 5, 6, 7, 8] [0, 9] (by decide) rfl rfl 2 rfl rfl [x0, (b1 0), (b1 1), (b1 2), (b1 3), (b1 4), (b1 5), (b1 6), (b1 7), q2] rfl rfl rfl (wX x0 (b1 0) r1 r2 r3 r4 r5 q2 kx (wS cy q2 fs [])) rfl rfl rfl rfl hl.1 rfl (Nat.le_of_ble_eq_true rfl) dX3_odds_61 (fun H locs hP hD hS => ?_)
            refine lv_istore (lv' := [(6, .int r_11), (0, .ref x0), (1, .int x1), (2, .int x2), (3, .int x3), (4, .int x4), (5, .int x5)]) hx hb dX3_odds_64 hl (by decide) rfl (fun ls hl => ?_)
            refine lv_iload hx hb dX3_odds_66 (lv_at hl 0 rfl) ?_
            refine lv_bipush (v := (-6)) hx hb dX3_odds_68 (by decide) ?_
            refine lv_icmp_ne (tgt := 77) hx hb dX3_odds_70 (by decide) (fun c_12 => ?_) (fun c_12 => ?_)
            · replace h := it_n c_12 h
              refine lv_aload_n hx hb dX3_odds_77 rfl (lv_at hl 1 rfl) ?_
              refine va_get (D := D) (ci := 3) (v := .ref (b1 0)) (C := RX3) (T := TX3) (N := 8) hx hb hts iX3_odds_X3 hown hK.1 hP 0 rfl rfl 0 (by decide) (hts _ mX3_odds_2) (fun _ h9 => h9) rfl dX3_odds_78 ?_
              refine lv_iload_n hx hb dX3_odds_81 rfl (lv_at hl 2 rfl) ?_
              refine lv_iload hx hb dX3_odds_82 (lv_at hl 0 rfl) ?_
              obtain ⟨r_13, hr_13, h⟩ := bn_s h
              refine kcVi (As := [.int x1, .int r_11]) (rest := []) (ws' := (wX x0 (b1 0) r1 r2 r3 r4 r5 q2 kx (wV cy b1 vv (wS cy q2 fs [])))) ⟨hx, hb, hml, hown, hts⟩ (cwV 2 hts gX3_odds_X2_penceOf rfl rfl rfl ⟨rfl, eX2_penceOf⟩ ⟨Nat.le_of_ble_eq_true rfl, Nat.le_of_ble_eq_true rfl⟩) (c_X2_penceOf b1 hr_13) hK hP hD hS hA [1, 2, 3, 4, 5, 6, 7, 8] [0, 9] (by decide) rfl rfl 2 rfl rfl [x0, (b1 0), (b1 1), (b1 2), (b1 3), (b1 4), (b1 5), (b1 6), (b1 7), q2] rfl rfl rfl (wX x0 (b1 0) r1 r2 r3 r4 r5 q2 kx (wS cy q2 fs [])) rfl rfl rfl rfl hl.1 rfl (Nat.le_of_ble_eq_true rfl) dX3_odds_84 (fun H locs hP hD hS => ?_)
              refine lv_iload_n hx hb dX3_odds_87 rfl (lv_at hl 4 rfl) ?_
              refine lv_aload_n hx hb dX3_odds_88 rfl (lv_at hl 1 rfl) ?_
              refine va_get (D := D) (ci := 3) (v := .ref (b1 0)) (C := RX3) (T := TX3) (N := 8) hx hb hts iX3_odds_X3 hown hK.1 hP 0 rfl rfl 0 (by decide) (hts _ mX3_odds_2) (fun _ h9 => h9) rfl dX3_odds_89 ?_
              refine va_getN (D := D) (ci := 2) (v := .int vv.2.2.2.2.2.2.2.2.2.2) (C := RX2) (T := TX2) (N := 11) hx hb hts iX3_odds_X2 hown hK.1 hP 1 rfl rfl 10 (by decide) (va_Nw.use rfl (kN_66 hK.2)) (fun _ h9 => h9) rfl dX3_odds_92 ?_
              refine lv_imul hx hb dX3_odds_95 ?_
              obtain ⟨r_14, hr_14, h⟩ := bn_s h
              refine kcSi (As := [.int r_13, .int (x3 * vv.2.2.2.2.2.2.2.2.2.2)]) (rest := []) ⟨hx, hb, hml, hown, hts⟩ (va_cwS 2 hts gX3_odds_X3_grown rfl rfl rfl eX3_grown ⟨Nat.le_of_ble_eq_true rfl, Nat.le_of_ble_eq_true rfl⟩) (c_X3_grown  hr_14) hK hP hS hA rfl hl.1 rfl (Nat.le_of_ble_eq_true rfl) dX3_odds_96 (fun H locs hP hS => ?_)
              refine lv_aload_n hx hb dX3_odds_99 rfl (lv_at hl 1 rfl) ?_
              refine va_get (D := D) (ci := 3) (v := .ref (b1 0)) (C := RX3) (T := TX3) (N := 8) hx hb hts iX3_odds_X3 hown hK.1 hP 0 rfl rfl 0 (by decide) (hts _ mX3_odds_2) (fun _ h9 => h9) rfl dX3_odds_100 ?_
              refine lv_iload_n hx hb dX3_odds_103 rfl (lv_at hl 2 rfl) ?_
              obtain ⟨r_15, hr_15, h⟩ := bn_s h
              refine kcVi (As := [.int x1]) (rest := [.int r_14]) (ws' := (wX x0 (b1 0) r1 r2 r3 r4 r5 q2 kx (wV cy b1 vv (wS cy q2 fs [])))) ⟨hx, hb, hml, hown, hts⟩ (cwV 1 hts gX3_odds_X2_purseOf rfl rfl rfl ⟨rfl, eX2_purseOf⟩ ⟨Nat.le_of_ble_eq_true rfl, Nat.le_of_ble_eq_true rfl⟩) (c_X2_purseOf b1 hr_15) hK hP hD hS hA [1, 2, 3, 4, 5, 6, 7, 8] [0, 9] (by decide) rfl rfl 2 rfl rfl [x0, (b1 0), (b1 1), (b1 2), (b1 3), (b1 4), (b1 5), (b1 6), (b1 7), q2] rfl rfl rfl (wX x0 (b1 0) r1 r2 r3 r4 r5 q2 kx (wS cy q2 fs [])) rfl rfl rfl rfl hl.1 rfl (Nat.le_of_ble_eq_true rfl) dX3_odds_104 (fun H locs hP hD hS => ?_)
              refine lv_isub hx hb dX3_odds_107 ?_
              refine lv_topi (fun x7_16 ex7_16 => ?_)
              replace h := nm_s h ex7_16
              refine lv_istore (lv' := [(7, .int x7_16), (6, .int r_11), (0, .ref x0), (1, .int x1), (2, .int x2), (3, .int x3), (4, .int x4), (5, .int x5)]) hx hb dX3_odds_108 hl (by decide) rfl (fun ls hl => ?_)
              refine lv_aload_n hx hb dX3_odds_110 rfl (lv_at hl 2 rfl) ?_
              refine lv_iload_n hx hb dX3_odds_111 rfl (lv_at hl 4 rfl) ?_
              refine lv_iload_n hx hb dX3_odds_112 rfl (lv_at hl 5 rfl) ?_
              refine lv_iload hx hb dX3_odds_113 (lv_at hl 6 rfl) ?_
              refine lv_iload hx hb dX3_odds_115 (lv_at hl 0 rfl) ?_
              obtain ⟨r_17, hr_17, h⟩ := bn_s h
              refine kcVl (As := [.int x2, .int x3, .int x4, .int x7_16]) (rest := []) (ws' := (wX x0 (b1 0) r1 r2 r3 r4 r5 q2 kx (wV cy b1 vv (wS cy q2 r_17.2 [])))) ⟨hx, hb, hml, hown, hts⟩ (cwV 4 hts gX3_odds_X3_luckyShares rfl rfl rfl ⟨rfl, eX3_luckyShares⟩ ⟨Nat.le_of_ble_eq_true rfl, Nat.le_of_ble_eq_true rfl⟩) (c_X3_luckyShares x0 (b1 0) r1 r2 r3 r4 r5 q2 kx hr_17) hK hP hD hS hA [0, 9] [1, 2, 3, 4, 5, 6, 7, 8] (by decide) rfl rfl 3 rfl rfl [x0, (b1 0), (b1 1), (b1 2), (b1 3), (b1 4), (b1 5), (b1 6), (b1 7), q2] rfl rfl rfl (wV cy b1 vv []) rfl rfl rfl rfl hl.1 rfl (Nat.le_of_ble_eq_true rfl) dX3_odds_117 (fun H locs hP hD hS => ?_)
              refine lv_iload_n hx hb dX3_odds_120 rfl (lv_at hl 5 rfl) ?_
              obtain ⟨r_18, hr_18, h⟩ := bn_s h
              refine kcSl (As := [.int x3]) (rest := [.long r_17.1]) ⟨hx, hb, hml, hown, hts⟩ (va_cwS 1 hts gX3_odds_X3_allShares rfl rfl rfl eX3_allShares ⟨Nat.le_of_ble_eq_true rfl, Nat.le_of_ble_eq_true rfl⟩) (c_X3_allShares  hr_18) hK hP hS hA rfl hl.1 rfl (Nat.le_of_ble_eq_true rfl) dX3_odds_121 (fun H locs hP hS => ?_)
              refine lv_iload hx hb dX3_odds_124 (lv_at hl 7 rfl) ?_
              obtain ⟨r_19, hr_19, h⟩ := bn_s h
              refine kcSl (As := [.long r_17.1, .long r_18, .int x5]) (rest := []) ⟨hx, hb, hml, hown, hts⟩ (va_cwS 3 hts gX3_odds_X3_lowestTerms rfl rfl rfl eX3_lowestTerms ⟨Nat.le_of_ble_eq_true rfl, Nat.le_of_ble_eq_true rfl⟩) (c_X3_lowestTerms  hr_19) hK hP hS hA rfl hl.1 rfl (Nat.le_of_ble_eq_true rfl) dX3_odds_126 (fun H locs hP hS => ?_)
              cases h
              exact kretL hx hb hr hlk hP hS dX3_odds_129
            · replace h := it_p c_12 h
              refine lv_ldc2 (v := (-1000000000000000003)) hx hb hown (hts _ mX3_odds_3) dX3_odds_73 ?_
              cases h
              exact kretL hx hb hr hlk hP hS dX3_odds_76
          · replace h := it_p c_10 h
            refine lv_ldc2 (v := (-1000000000000000002)) hx hb hown (hts _ mX3_odds_1) dX3_odds_52 ?_
            cases h
            exact kretL hx hb hr hlk hP hS dX3_odds_55
  · replace h := it_p c_2 h
    refine lv_ldc2 (v := (-1000000000000000001)) hx hb hown (hts _ mX3_odds_4) dX3_odds_7 ?_
    cases h
    exact kretL hx hb hr hlk hP hS dX3_odds_10
theorem c_X3_odds {l : Launch} {D : va_G} {cy : Nat → ClassId} (x0 : Nat) (r1 : Nat) (r2 : Nat) (r3 : Nat) (r4 : Nat) (r5 : Nat) (b1 : Nat → Nat) (q2 : Nat) (kx : Int32) {vv : VS} {fs : AL} {x1 : Int32} {x2 : Int32} {x3 : Int32} {x4 : Int32} {x5 : Int32} {rr : Int64 × AL} (h : f_X3_odds vv fs x1 x2 x3 x4 x5 = some rr) : CL l D cy yX3_odds wsX3_odds { frames := 3, cells := 0, slots := 0, locals := 70 } [.ref x0, .int x1, .int x2, .int x3, .int x4, .int x5] (wX x0 (b1 0) r1 r2 r3 r4 r5 q2 kx (wV cy b1 vv (wS cy q2 fs []))) (rr.1) (wX x0 (b1 0) r1 r2 r3 r4 r5 q2 kx (wV cy b1 vv (wS cy q2 rr.2 []))) := by
  refine kofL (cc := cX3_odds) (maxL := 8) (ret := (some .long)) (by decide) rfl (Nat.le_of_ble_eq_true rfl) ?_
  intro p e s m below meth c A M ls hl hP hD hS
  exact w_X3_odds_0 M h hP hD hS hl
theorem eX3_odds : yX3_odds.cls ≠ "java/lang/invoke/MethodHandle" ∧ yX3_odds.cls ≠ "java/lang/invoke/VarHandle" ∧ (parseMethodDescriptor yX3_odds.desc).map (fun d => d.parameters.length) = some 5 := by decide +kernel
theorem iX3_owes_X3 : ∀ w ∈ u_ws RX3 TX3 8, w ∈ wsX3_owes := by decide +kernel
theorem mX3_owes_1 : Cond.fieldLink RX3 12 "LentPiles" "now" "LLentPiles$Valley;" ∈ wsX3_owes := by decide +kernel
set_option maxHeartbeats 4000000 in
set_option maxRecDepth 100000 in
theorem w_X3_owes_0 {p : Program} {l : Launch} {e : Env} {s : State} {m : MethodId} {args : Array Value} {below : List Frame} {meth : Method} {c : Code} {A : Nat → Prop} {D : va_G} {cy : Nat → ClassId} {x0 : Nat} {r1 : Nat} {r2 : Nat} {r3 : Nat} {r4 : Nat} {r5 : Nat} {r6 : Nat} {b1 : Nat → Nat} {kx : Int32} {vv : VS} {x1 : Int32} {x2 : Int32} {rr : Int32} (M : kM p s m args meth c cX3_owes 3 (some .int) RX3 wsX3_owes A D cy)  (h : f_X3_owes vv x1 x2 = some rr) {H : Heap} {locs : List Loc} {ls : Array Slot} (hP : va_P D vwCl (wX x0 (b1 0) r1 r2 r3 r4 r5 r6 kx (wV cy b1 vv [])) H) (hD : va_D A (wX x0 (b1 0) r1 r2 r3 r4 r5 r6 kx (wV cy b1 vv []))) (hS : va_S A s.heap H locs) (hl : lv_has ls 3 [(0, .ref x0), (1, .int x1), (2, .int x2)]) : W p l e { frames := 3, cells := 0, slots := 0, locals := 68 } s m args below meth c H locs 0 0 (MQ below (qI D (wX x0 (b1 0) r1 r2 r3 r4 r5 r6 kx (wV cy b1 vv [])) (rr) A) args s 0 0 A) (F0 m 0 ls []) := by
  obtain ⟨hx, hb, hr, hml, hown, hts, hlk, hA, hK⟩ := id M
  unfold f_X3_owes at h
  refine lv_iload_n hx hb dX3_owes_0 rfl (lv_at hl 1 rfl) ?_
  obtain ⟨r_1, hr_1, h⟩ := bn_s h
  refine kcSi (As := [.int x1]) (rest := []) ⟨hx, hb, hml, hown, hts⟩ (va_cwS 1 hts gX3_owes_X3_isMan rfl rfl rfl eX3_isMan ⟨Nat.le_of_ble_eq_true rfl, Nat.le_of_ble_eq_true rfl⟩) (c_X3_isMan  hr_1) hK hP hS hA rfl hl.1 rfl (Nat.le_of_ble_eq_true rfl) dX3_owes_1 (fun H locs hP hS => ?_)
  refine lv_if_eq (tgt := 26) hx hb dX3_owes_4 (by decide) (fun c_2 => ?_) (fun c_2 => ?_)
  · replace h := it_p c_2 h
    refine lv_iconst (v := (-1)) hx hb dX3_owes_26 (by decide) ?_
    cases h
    exact kretI hx hb hr hlk hP hS dX3_owes_27
  · replace h := it_n c_2 h
    refine lv_iload_n hx hb dX3_owes_7 rfl (lv_at hl 2 rfl) ?_
    obtain ⟨r_3, hr_3, h⟩ := bn_s h
    refine kcSi (As := [.int x2]) (rest := []) ⟨hx, hb, hml, hown, hts⟩ (va_cwS 1 hts gX3_owes_X3_isMan rfl rfl rfl eX3_isMan ⟨Nat.le_of_ble_eq_true rfl, Nat.le_of_ble_eq_true rfl⟩) (c_X3_isMan  hr_3) hK hP hS hA rfl hl.1 rfl (Nat.le_of_ble_eq_true rfl) dX3_owes_8 (fun H locs hP hS => ?_)
    refine lv_if_eq (tgt := 26) hx hb dX3_owes_11 (by decide) (fun c_4 => ?_) (fun c_4 => ?_)
    · replace h := it_p c_4 h
      refine lv_iconst (v := (-1)) hx hb dX3_owes_26 (by decide) ?_
      cases h
      exact kretI hx hb hr hlk hP hS dX3_owes_27
    · replace h := it_n c_4 h
      refine lv_aload_n hx hb dX3_owes_14 rfl (lv_at hl 0 rfl) ?_
      refine va_get (D := D) (ci := 3) (v := .ref (b1 0)) (C := RX3) (T := TX3) (N := 8) hx hb hts iX3_owes_X3 hown hK.1 hP 0 rfl rfl 0 (by decide) (hts _ mX3_owes_1) (fun _ h9 => h9) rfl dX3_owes_15 ?_
      refine lv_iload_n hx hb dX3_owes_18 rfl (lv_at hl 1 rfl) ?_
      refine lv_iload_n hx hb dX3_owes_19 rfl (lv_at hl 2 rfl) ?_
      obtain ⟨r_5, hr_5, h⟩ := bn_s h
      refine kcVi (As := [.int x1, .int x2]) (rest := []) (ws' := (wX x0 (b1 0) r1 r2 r3 r4 r5 r6 kx (wV cy b1 vv []))) ⟨hx, hb, hml, hown, hts⟩ (cwV 2 hts gX3_owes_X2_owedTo rfl rfl rfl ⟨rfl, eX2_owedTo⟩ ⟨Nat.le_of_ble_eq_true rfl, Nat.le_of_ble_eq_true rfl⟩) (c_X2_owedTo b1 hr_5) hK hP hD hS hA [1, 2, 3, 4, 5, 6, 7, 8] [0] (by decide) rfl rfl 2 rfl rfl [x0, (b1 0), (b1 1), (b1 2), (b1 3), (b1 4), (b1 5), (b1 6), (b1 7)] rfl rfl rfl (wX x0 (b1 0) r1 r2 r3 r4 r5 r6 kx []) rfl rfl rfl rfl hl.1 rfl (Nat.le_of_ble_eq_true rfl) dX3_owes_20 (fun H locs hP hD hS => ?_)
      refine lv_goto (tgt := 27) hx hb dX3_owes_23 (by decide) ?_
      cases h
      exact kretI hx hb hr hlk hP hS dX3_owes_27
theorem c_X3_owes {l : Launch} {D : va_G} {cy : Nat → ClassId} (x0 : Nat) (r1 : Nat) (r2 : Nat) (r3 : Nat) (r4 : Nat) (r5 : Nat) (r6 : Nat) (b1 : Nat → Nat) (kx : Int32) {vv : VS} {x1 : Int32} {x2 : Int32} {rr : Int32} (h : f_X3_owes vv x1 x2 = some rr) : CI l D cy yX3_owes wsX3_owes { frames := 3, cells := 0, slots := 0, locals := 68 } [.ref x0, .int x1, .int x2] (wX x0 (b1 0) r1 r2 r3 r4 r5 r6 kx (wV cy b1 vv [])) (rr) (wX x0 (b1 0) r1 r2 r3 r4 r5 r6 kx (wV cy b1 vv [])) := by
  refine kofI (cc := cX3_owes) (maxL := 3) (ret := (some .int)) (by decide) rfl (Nat.le_of_ble_eq_true rfl) ?_
  intro p e s m below meth c A M ls hl hP hD hS
  exact w_X3_owes_0 M h hP hD hS hl
theorem eX3_owes : yX3_owes.cls ≠ "java/lang/invoke/MethodHandle" ∧ yX3_owes.cls ≠ "java/lang/invoke/VarHandle" ∧ (parseMethodDescriptor yX3_owes.desc).map (fun d => d.parameters.length) = some 2 := by decide +kernel
theorem iX3_pawn_X3 : ∀ w ∈ u_ws RX3 TX3 8, w ∈ wsX3_pawn := by decide +kernel
theorem mX3_pawn_1 : Cond.fieldLink RX3 12 "LentPiles" "now" "LLentPiles$Valley;" ∈ wsX3_pawn := by decide +kernel
set_option maxHeartbeats 4000000 in
set_option maxRecDepth 100000 in
theorem w_X3_pawn_0 {p : Program} {l : Launch} {e : Env} {s : State} {m : MethodId} {args : Array Value} {below : List Frame} {meth : Method} {c : Code} {A : Nat → Prop} {D : va_G} {cy : Nat → ClassId} {x0 : Nat} {r1 : Nat} {r2 : Nat} {r3 : Nat} {r4 : Nat} {r5 : Nat} {r6 : Nat} {b1 : Nat → Nat} {kx : Int32} {vv : VS} {x1 : Int32} {x2 : Int32} {rr : Int32} (M : kM p s m args meth c cX3_pawn 3 (some .int) RX3 wsX3_pawn A D cy)  (h : f_X3_pawn vv x1 x2 = some rr) {H : Heap} {locs : List Loc} {ls : Array Slot} (hP : va_P D vwCl (wX x0 (b1 0) r1 r2 r3 r4 r5 r6 kx (wV cy b1 vv [])) H) (hD : va_D A (wX x0 (b1 0) r1 r2 r3 r4 r5 r6 kx (wV cy b1 vv []))) (hS : va_S A s.heap H locs) (hl : lv_has ls 3 [(0, .ref x0), (1, .int x1), (2, .int x2)]) : W p l e { frames := 3, cells := 0, slots := 0, locals := 71 } s m args below meth c H locs 0 0 (MQ below (qI D (wX x0 (b1 0) r1 r2 r3 r4 r5 r6 kx (wV cy b1 vv [])) (rr) A) args s 0 0 A) (F0 m 0 ls []) := by
  obtain ⟨hx, hb, hr, hml, hown, hts, hlk, hA, hK⟩ := id M
  unfold f_X3_pawn at h
  refine lv_aload_n hx hb dX3_pawn_0 rfl (lv_at hl 0 rfl) ?_
  refine va_get (D := D) (ci := 3) (v := .ref (b1 0)) (C := RX3) (T := TX3) (N := 8) hx hb hts iX3_pawn_X3 hown hK.1 hP 0 rfl rfl 0 (by decide) (hts _ mX3_pawn_1) (fun _ h9 => h9) rfl dX3_pawn_1 ?_
  refine lv_iload_n hx hb dX3_pawn_4 rfl (lv_at hl 1 rfl) ?_
  refine lv_iload_n hx hb dX3_pawn_5 rfl (lv_at hl 2 rfl) ?_
  obtain ⟨r_1, hr_1, h⟩ := bn_s h
  refine kcVi (As := [.int x1, .int x2]) (rest := []) (ws' := (wX x0 (b1 0) r1 r2 r3 r4 r5 r6 kx (wV cy b1 vv []))) ⟨hx, hb, hml, hown, hts⟩ (cwV 2 hts gX3_pawn_X2_hasDebt rfl rfl rfl ⟨rfl, eX2_hasDebt⟩ ⟨Nat.le_of_ble_eq_true rfl, Nat.le_of_ble_eq_true rfl⟩) (c_X2_hasDebt b1 hr_1) hK hP hD hS hA [1, 2, 3, 4, 5, 6, 7, 8] [0] (by decide) rfl rfl 2 rfl rfl [x0, (b1 0), (b1 1), (b1 2), (b1 3), (b1 4), (b1 5), (b1 6), (b1 7)] rfl rfl rfl (wX x0 (b1 0) r1 r2 r3 r4 r5 r6 kx []) rfl rfl rfl rfl hl.1 rfl (Nat.le_of_ble_eq_true rfl) dX3_pawn_6 (fun H locs hP hD hS => ?_)
  refine lv_if_eq (tgt := 24) hx hb dX3_pawn_9 (by decide) (fun c_2 => ?_) (fun c_2 => ?_)
  · replace h := it_p c_2 h
    refine lv_iconst (v := (-1)) hx hb dX3_pawn_24 (by decide) ?_
    cases h
    exact kretI hx hb hr hlk hP hS dX3_pawn_25
  · replace h := it_n c_2 h
    refine lv_aload_n hx hb dX3_pawn_12 rfl (lv_at hl 0 rfl) ?_
    refine va_get (D := D) (ci := 3) (v := .ref (b1 0)) (C := RX3) (T := TX3) (N := 8) hx hb hts iX3_pawn_X3 hown hK.1 hP 0 rfl rfl 0 (by decide) (hts _ mX3_pawn_1) (fun _ h9 => h9) rfl dX3_pawn_13 ?_
    refine lv_iload_n hx hb dX3_pawn_16 rfl (lv_at hl 1 rfl) ?_
    refine lv_iload_n hx hb dX3_pawn_17 rfl (lv_at hl 2 rfl) ?_
    obtain ⟨r_3, hr_3, h⟩ := bn_s h
    refine kcVi (As := [.int x1, .int x2]) (rest := []) (ws' := (wX x0 (b1 0) r1 r2 r3 r4 r5 r6 kx (wV cy b1 vv []))) ⟨hx, hb, hml, hown, hts⟩ (cwV 2 hts gX3_pawn_X2_penceTill rfl rfl rfl ⟨rfl, eX2_penceTill⟩ ⟨Nat.le_of_ble_eq_true rfl, Nat.le_of_ble_eq_true rfl⟩) (c_X2_penceTill b1 hr_3) hK hP hD hS hA [1, 2, 3, 4, 5, 6, 7, 8] [0] (by decide) rfl rfl 2 rfl rfl [x0, (b1 0), (b1 1), (b1 2), (b1 3), (b1 4), (b1 5), (b1 6), (b1 7)] rfl rfl rfl (wX x0 (b1 0) r1 r2 r3 r4 r5 r6 kx []) rfl rfl rfl rfl hl.1 rfl (Nat.le_of_ble_eq_true rfl) dX3_pawn_18 (fun H locs hP hD hS => ?_)
    refine lv_goto (tgt := 25) hx hb dX3_pawn_21 (by decide) ?_
    cases h
    exact kretI hx hb hr hlk hP hS dX3_pawn_25
theorem c_X3_pawn {l : Launch} {D : va_G} {cy : Nat → ClassId} (x0 : Nat) (r1 : Nat) (r2 : Nat) (r3 : Nat) (r4 : Nat) (r5 : Nat) (r6 : Nat) (b1 : Nat → Nat) (kx : Int32) {vv : VS} {x1 : Int32} {x2 : Int32} {rr : Int32} (h : f_X3_pawn vv x1 x2 = some rr) : CI l D cy yX3_pawn wsX3_pawn { frames := 3, cells := 0, slots := 0, locals := 71 } [.ref x0, .int x1, .int x2] (wX x0 (b1 0) r1 r2 r3 r4 r5 r6 kx (wV cy b1 vv [])) (rr) (wX x0 (b1 0) r1 r2 r3 r4 r5 r6 kx (wV cy b1 vv [])) := by
  refine kofI (cc := cX3_pawn) (maxL := 3) (ret := (some .int)) (by decide) rfl (Nat.le_of_ble_eq_true rfl) ?_
  intro p e s m below meth c A M ls hl hP hD hS
  exact w_X3_pawn_0 M h hP hD hS hl
theorem eX3_pawn : yX3_pawn.cls ≠ "java/lang/invoke/MethodHandle" ∧ yX3_pawn.cls ≠ "java/lang/invoke/VarHandle" ∧ (parseMethodDescriptor yX3_pawn.desc).map (fun d => d.parameters.length) = some 2 := by decide +kernel
