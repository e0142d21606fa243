/-! printed by wip/gen/gen.py: the walks -/
theorem iX1_isPaidUp_X1 : ∀ w ∈ u_ws RX1 TX1 10, w ∈ wsX1_isPaidUp := by decide +kernel
theorem mX1_isPaidUp_1 : Cond.fieldLink RX1 27 "LentPiles$Payings" "paid" "[I" ∈ wsX1_isPaidUp := by decide +kernel
theorem mX1_isPaidUp_2 : Cond.fieldLink RX1 18 "LentPiles$Payings" "height" "[I" ∈ wsX1_isPaidUp := by decide +kernel
set_option maxHeartbeats 4000000 in
set_option maxRecDepth 100000 in
theorem w_X1_isPaidUp_0 {p : Program} {l : Launch} {e : Env} {s : State} {m : MethodId} {args : Array Value} {below : List Frame} {meth : Method} {c : Code} {A : Nat → Prop} {D : va_G} {cy : Nat → ClassId} {b0 : Nat → Nat} {yv : YS} {x1 : Int32} {rr : Int32} (M : kM p s m args meth c cX1_isPaidUp 2 (some .boolean) RX1 wsX1_isPaidUp A D cy)  (h : f_X1_isPaidUp yv x1 = some rr) {H : Heap} {locs : List Loc} {ls : Array Slot} (hP : va_P D vwCl (wY cy b0 yv []) H) (hD : va_D A (wY cy b0 yv [])) (hS : va_S A s.heap H locs) (hl : lv_has ls 2 [(0, .ref (b0 0)), (1, .int x1)]) : W p l e { frames := 0, cells := 0, slots := 0, locals := 0 } s m args below meth c H locs 0 0 (MQ below (qI D (wY cy b0 yv []) (rr) A) args s 0 0 A) (F0 m 0 ls []) := by
  obtain ⟨hx, hb, hr, hml, hown, hts, hlk, hA, hK⟩ := id M
  unfold f_X1_isPaidUp at h
  refine lv_aload_n hx hb dX1_isPaidUp_0 rfl (lv_at hl 0 rfl) ?_
  refine va_get (D := D) (ci := 1) (v := .ref (b0 6)) (C := RX1) (T := TX1) (N := 10) hx hb hts iX1_isPaidUp_X1 hown hK.1 hP 0 rfl rfl 5 (by decide) (hts _ mX1_isPaidUp_1) (fun _ h9 => h9) rfl dX1_isPaidUp_1 ?_
  refine lv_iload_n hx hb dX1_isPaidUp_4 rfl (lv_at hl 1 rfl) ?_
  obtain ⟨b_1, h⟩ := ck_s h
  refine va_iald hx hb hK.1 hP 6 1 rfl rfl b_1 dX1_isPaidUp_5 ?_
  refine lv_if_lt (tgt := 34) hx hb dX1_isPaidUp_6 (by decide) (fun c_2 => ?_) (fun c_2 => ?_)
  · replace h := it_p c_2 h
    refine lv_iconst (v := 1) hx hb dX1_isPaidUp_34 (by decide) ?_
    refine lv_goto (tgt := 39) hx hb dX1_isPaidUp_35 (by decide) ?_
    cases h
    exact kretZ (r0 := (1 : Int32)) (ty := .boolean) hx hb hr hlk hP hS (by decide) dX1_isPaidUp_39
  · replace h := it_n c_2 h
    refine lv_aload_n hx hb dX1_isPaidUp_9 rfl (lv_at hl 0 rfl) ?_
    refine va_get (D := D) (ci := 1) (v := .ref (b0 6)) (C := RX1) (T := TX1) (N := 10) hx hb hts iX1_isPaidUp_X1 hown hK.1 hP 0 rfl rfl 5 (by decide) (hts _ mX1_isPaidUp_1) (fun _ h9 => h9) rfl dX1_isPaidUp_10 ?_
    refine lv_iload_n hx hb dX1_isPaidUp_13 rfl (lv_at hl 1 rfl) ?_
    refine va_iald hx hb hK.1 hP 6 1 rfl rfl b_1 dX1_isPaidUp_14 ?_
    refine lv_iconst (v := 5) hx hb dX1_isPaidUp_15 (by decide) ?_
    refine lv_icmp_ge (tgt := 34) hx hb dX1_isPaidUp_16 (by decide) (fun c_3 => ?_) (fun c_3 => ?_)
    · replace h := it_p c_3 h
      refine lv_iconst (v := 1) hx hb dX1_isPaidUp_34 (by decide) ?_
      refine lv_goto (tgt := 39) hx hb dX1_isPaidUp_35 (by decide) ?_
      cases h
      exact kretZ (r0 := (1 : Int32)) (ty := .boolean) hx hb hr hlk hP hS (by decide) dX1_isPaidUp_39
    · replace h := it_n c_3 h
      refine lv_aload_n hx hb dX1_isPaidUp_19 rfl (lv_at hl 0 rfl) ?_
      refine va_get (D := D) (ci := 1) (v := .ref (b0 6)) (C := RX1) (T := TX1) (N := 10) hx hb hts iX1_isPaidUp_X1 hown hK.1 hP 0 rfl rfl 5 (by decide) (hts _ mX1_isPaidUp_1) (fun _ h9 => h9) rfl dX1_isPaidUp_20 ?_
      refine lv_iload_n hx hb dX1_isPaidUp_23 rfl (lv_at hl 1 rfl) ?_
      refine va_iald hx hb hK.1 hP 6 1 rfl rfl b_1 dX1_isPaidUp_24 ?_
      refine lv_aload_n hx hb dX1_isPaidUp_25 rfl (lv_at hl 0 rfl) ?_
      refine va_get (D := D) (ci := 1) (v := .ref (b0 3)) (C := RX1) (T := TX1) (N := 10) hx hb hts iX1_isPaidUp_X1 hown hK.1 hP 0 rfl rfl 2 (by decide) (hts _ mX1_isPaidUp_2) (fun _ h9 => h9) rfl dX1_isPaidUp_26 ?_
      refine lv_iload_n hx hb dX1_isPaidUp_29 rfl (lv_at hl 1 rfl) ?_
      refine va_iald hx hb hK.1 hP 3 1 rfl rfl b_1 dX1_isPaidUp_30 ?_
      refine lv_icmp_lt (tgt := 38) hx hb dX1_isPaidUp_31 (by decide) (fun c_4 => ?_) (fun c_4 => ?_)
      · replace h := it_p c_4 h
        refine lv_iconst (v := 0) hx hb dX1_isPaidUp_38 (by decide) ?_
        cases h
        exact kretZ (r0 := (0 : Int32)) (ty := .boolean) hx hb hr hlk hP hS (by decide) dX1_isPaidUp_39
      · replace h := it_n c_4 h
        refine lv_iconst (v := 1) hx hb dX1_isPaidUp_34 (by decide) ?_
        refine lv_goto (tgt := 39) hx hb dX1_isPaidUp_35 (by decide) ?_
        cases h
        exact kretZ (r0 := (1 : Int32)) (ty := .boolean) hx hb hr hlk hP hS (by decide) dX1_isPaidUp_39
theorem c_X1_isPaidUp {l : Launch} {D : va_G} {cy : Nat → ClassId} (b0 : Nat → Nat) {yv : YS} {x1 : Int32} {rr : Int32} (h : f_X1_isPaidUp yv x1 = some rr) : CI l D cy yX1_isPaidUp wsX1_isPaidUp { frames := 0, cells := 0, slots := 0, locals := 0 } [.ref (b0 0), .int x1] (wY cy b0 yv []) (rr) (wY cy b0 yv []) := by
  refine kofI (cc := cX1_isPaidUp) (maxL := 2) (ret := (some .boolean)) (by decide) rfl (Nat.le_of_ble_eq_true rfl) ?_
  intro p e s m below meth c A M ls hl hP hD hS
  exact w_X1_isPaidUp_0 M h hP hD hS hl
theorem eX1_isPaidUp : yX1_isPaidUp.cls ≠ "java/lang/invoke/MethodHandle" ∧ yX1_isPaidUp.cls ≠ "java/lang/invoke/VarHandle" ∧ (parseMethodDescriptor yX1_isPaidUp.desc).map (fun d => d.parameters.length) = some 1 := by decide +kernel
theorem iX1_canPay_X1 : ∀ w ∈ u_ws RX1 TX1 10, w ∈ wsX1_canPay := by decide +kernel
theorem mX1_canPay_1 : Cond.fieldLink RX1 15 "LentPiles$Payings" "purse" "[I" ∈ wsX1_canPay := by decide +kernel
theorem mX1_canPay_2 : Cond.fieldLink RX1 24 "LentPiles$Payings" "pence" "[I" ∈ wsX1_canPay := by decide +kernel
theorem mX1_canPay_3 : Cond.fieldLink RX1 27 "LentPiles$Payings" "paid" "[I" ∈ wsX1_canPay := by decide +kernel
set_option maxHeartbeats 4000000 in
set_option maxRecDepth 100000 in
theorem w_X1_canPay_0 {p : Program} {l : Launch} {e : Env} {s : State} {m : MethodId} {args : Array Value} {below : List Frame} {meth : Method} {c : Code} {A : Nat → Prop} {D : va_G} {cy : Nat → ClassId} {b0 : Nat → Nat} {yv : YS} {x1 : Int32} {rr : Int32} (M : kM p s m args meth c cX1_canPay 2 (some .boolean) RX1 wsX1_canPay A D cy)  (h : f_X1_canPay yv x1 = some rr) {H : Heap} {locs : List Loc} {ls : Array Slot} (hP : va_P D vwCl (wY cy b0 yv []) H) (hD : va_D A (wY cy b0 yv [])) (hS : va_S A s.heap H locs) (hl : lv_has ls 2 [(0, .ref (b0 0)), (1, .int x1)]) : W p l e { frames := 1, cells := 0, slots := 0, locals := 21 } s m args below meth c H locs 0 0 (MQ below (qI D (wY cy b0 yv []) (rr) A) args s 0 0 A) (F0 m 0 ls []) := by
  obtain ⟨hx, hb, hr, hml, hown, hts, hlk, hA, hK⟩ := id M
  unfold f_X1_canPay at h
  refine lv_aload_n hx hb dX1_canPay_0 rfl (lv_at hl 0 rfl) ?_
  refine lv_iload_n hx hb dX1_canPay_1 rfl (lv_at hl 1 rfl) ?_
  obtain ⟨r_1, hr_1, h⟩ := bn_s h
  refine kcVi (As := [.int x1]) (rest := []) (ws' := (wY cy b0 yv [])) ⟨hx, hb, hml, hown, hts⟩ (cwV 1 hts gX1_canPay_X1_isPaidUp rfl rfl rfl ⟨rfl, eX1_isPaidUp⟩ ⟨Nat.le_of_ble_eq_true rfl, Nat.le_of_ble_eq_true rfl⟩) (c_X1_isPaidUp b0 hr_1) hK hP hD hS hA [0, 1, 2, 3, 4, 5, 6, 7, 8, 9] [] (by decide) rfl rfl 1 rfl rfl [(b0 0), (b0 1), (b0 2), (b0 3), (b0 4), (b0 5), (b0 6), (b0 7), (b0 8), (b0 9)] rfl rfl rfl [] rfl rfl rfl rfl hl.1 rfl (Nat.le_of_ble_eq_true rfl) dX1_canPay_2 (fun H locs hP hD hS => ?_)
  refine lv_if_ne (tgt := 36) hx hb dX1_canPay_5 (by decide) (fun c_2 => ?_) (fun c_2 => ?_)
  · replace h := it_n c_2 h
    refine lv_iconst (v := 0) hx hb dX1_canPay_36 (by decide) ?_
    cases h
    exact kretZ (r0 := (0 : Int32)) (ty := .boolean) hx hb hr hlk hP hS (by decide) dX1_canPay_37
  · replace h := it_p c_2 h
    refine lv_aload_n hx hb dX1_canPay_8 rfl (lv_at hl 0 rfl) ?_
    refine va_get (D := D) (ci := 1) (v := .ref (b0 2)) (C := RX1) (T := TX1) (N := 10) hx hb hts iX1_canPay_X1 hown hK.1 hP 0 rfl rfl 1 (by decide) (hts _ mX1_canPay_1) (fun _ h9 => h9) rfl dX1_canPay_9 ?_
    refine lv_iload_n hx hb dX1_canPay_12 rfl (lv_at hl 1 rfl) ?_
    obtain ⟨b_3, h⟩ := ck_s h
    refine va_iald hx hb hK.1 hP 2 1 rfl rfl b_3 dX1_canPay_13 ?_
    refine lv_aload_n hx hb dX1_canPay_14 rfl (lv_at hl 0 rfl) ?_
    refine va_get (D := D) (ci := 1) (v := .ref (b0 5)) (C := RX1) (T := TX1) (N := 10) hx hb hts iX1_canPay_X1 hown hK.1 hP 0 rfl rfl 4 (by decide) (hts _ mX1_canPay_2) (fun _ h9 => h9) rfl dX1_canPay_15 ?_
    refine lv_iload_n hx hb dX1_canPay_18 rfl (lv_at hl 1 rfl) ?_
    refine lv_iconst (v := 5) hx hb dX1_canPay_19 (by decide) ?_
    refine lv_imul hx hb dX1_canPay_20 ?_
    refine lv_aload_n hx hb dX1_canPay_21 rfl (lv_at hl 0 rfl) ?_
    refine va_get (D := D) (ci := 1) (v := .ref (b0 6)) (C := RX1) (T := TX1) (N := 10) hx hb hts iX1_canPay_X1 hown hK.1 hP 0 rfl rfl 5 (by decide) (hts _ mX1_canPay_3) (fun _ h9 => h9) rfl dX1_canPay_22 ?_
    refine lv_iload_n hx hb dX1_canPay_25 rfl (lv_at hl 1 rfl) ?_
    refine va_iald hx hb hK.1 hP 6 1 rfl rfl b_3 dX1_canPay_26 ?_
    refine lv_iadd hx hb dX1_canPay_27 ?_
    obtain ⟨b_4, h⟩ := ck_s h
    refine va_iald hx hb hK.1 hP 5 1 rfl rfl b_4 dX1_canPay_28 ?_
    refine lv_icmp_lt (tgt := 36) hx hb dX1_canPay_29 (by decide) (fun c_5 => ?_) (fun c_5 => ?_)
    · replace h := it_p c_5 h
      refine lv_iconst (v := 0) hx hb dX1_canPay_36 (by decide) ?_
      cases h
      exact kretZ (r0 := (0 : Int32)) (ty := .boolean) hx hb hr hlk hP hS (by decide) dX1_canPay_37
    · replace h := it_n c_5 h
      refine lv_iconst (v := 1) hx hb dX1_canPay_32 (by decide) ?_
      refine lv_goto (tgt := 37) hx hb dX1_canPay_33 (by decide) ?_
      cases h
      exact kretZ (r0 := (1 : Int32)) (ty := .boolean) hx hb hr hlk hP hS (by decide) dX1_canPay_37
theorem c_X1_canPay {l : Launch} {D : va_G} {cy : Nat → ClassId} (b0 : Nat → Nat) {yv : YS} {x1 : Int32} {rr : Int32} (h : f_X1_canPay yv x1 = some rr) : CI l D cy yX1_canPay wsX1_canPay { frames := 1, cells := 0, slots := 0, locals := 21 } [.ref (b0 0), .int x1] (wY cy b0 yv []) (rr) (wY cy b0 yv []) := by
  refine kofI (cc := cX1_canPay) (maxL := 2) (ret := (some .boolean)) (by decide) rfl (Nat.le_of_ble_eq_true rfl) ?_
  intro p e s m below meth c A M ls hl hP hD hS
  exact w_X1_canPay_0 M h hP hD hS hl
theorem eX1_canPay : yX1_canPay.cls ≠ "java/lang/invoke/MethodHandle" ∧ yX1_canPay.cls ≠ "java/lang/invoke/VarHandle" ∧ (parseMethodDescriptor yX1_canPay.desc).map (fun d => d.parameters.length) = some 1 := by decide +kernel
theorem iX1_pay_X1 : ∀ w ∈ u_ws RX1 TX1 10, w ∈ wsX1_pay := by decide +kernel
theorem mX1_pay_1 : Cond.fieldLink RX1 27 "LentPiles$Payings" "paid" "[I" ∈ wsX1_pay := by decide +kernel
theorem mX1_pay_2 : Cond.fieldLink RX1 15 "LentPiles$Payings" "purse" "[I" ∈ wsX1_pay := by decide +kernel
theorem mX1_pay_3 : Cond.fieldLink RX1 24 "LentPiles$Payings" "pence" "[I" ∈ wsX1_pay := by decide +kernel
theorem mX1_pay_4 : Cond.fieldLink RX1 21 "LentPiles$Payings" "lender" "[I" ∈ wsX1_pay := by decide +kernel
theorem mX1_pay_5 : Cond.initialized RX3 ∈ wsX1_pay := by decide +kernel
theorem mX1_pay_6 : Cond.static yX3_isMan ∈ wsX1_pay := by decide +kernel
set_option maxHeartbeats 4000000 in
set_option maxRecDepth 100000 in
theorem w_X1_pay_0 {p : Program} {l : Launch} {e : Env} {s : State} {m : MethodId} {args : Array Value} {below : List Frame} {meth : Method} {c : Code} {A : Nat → Prop} {D : va_G} {cy : Nat → ClassId} {b0 : Nat → Nat} {x1 : Int32} {rr : YS} (M : kM p s m args meth c cX1_pay 3 none RX1 wsX1_pay A D cy) {yv : YS} (h : f_X1_pay yv x1 = some rr) {H : Heap} {locs : List Loc} {ls : Array Slot} (hP : va_P D vwCl (wY cy b0 yv []) H) (hD : va_D A (wY cy b0 yv [])) (hS : va_S A s.heap H locs) (hl : lv_has ls 3 [(0, .ref (b0 0)), (1, .int x1)]) : W p l e { frames := 1, cells := 0, slots := 0, locals := 21 } s m args below meth c H locs 0 0 (MQ below (qV D (wY cy b0 rr []) A) args s 0 0 A) (F0 m 0 ls []) := by
  obtain ⟨hx, hb, hr, hml, hown, hts, hlk, hA, hK⟩ := id M
  unfold f_X1_pay at h
  refine lv_aload_n hx hb dX1_pay_0 rfl (lv_at hl 0 rfl) ?_
  refine lv_iload_n hx hb dX1_pay_1 rfl (lv_at hl 1 rfl) ?_
  obtain ⟨r_1, hr_1, h⟩ := bn_s h
  refine kcVi (As := [.int x1]) (rest := []) (ws' := (wY cy b0 yv [])) ⟨hx, hb, hml, hown, hts⟩ (cwV 1 hts gX1_pay_X1_isPaidUp rfl rfl rfl ⟨rfl, eX1_isPaidUp⟩ ⟨Nat.le_of_ble_eq_true rfl, Nat.le_of_ble_eq_true rfl⟩) (c_X1_isPaidUp b0 hr_1) hK hP hD hS hA [0, 1, 2, 3, 4, 5, 6, 7, 8, 9] [] (by decide) rfl rfl 1 rfl rfl [(b0 0), (b0 1), (b0 2), (b0 3), (b0 4), (b0 5), (b0 6), (b0 7), (b0 8), (b0 9)] rfl rfl rfl [] rfl rfl rfl rfl hl.1 rfl (Nat.le_of_ble_eq_true rfl) dX1_pay_2 (fun H locs hP hD hS => ?_)
  refine lv_if_eq (tgt := 9) hx hb dX1_pay_5 (by decide) (fun c_2 => ?_) (fun c_2 => ?_)
  · replace h := it_p c_2 h
    refine lv_iload_n hx hb dX1_pay_9 rfl (lv_at hl 1 rfl) ?_
    refine lv_iconst (v := 5) hx hb dX1_pay_10 (by decide) ?_
    refine lv_imul hx hb dX1_pay_11 ?_
    refine lv_aload_n hx hb dX1_pay_12 rfl (lv_at hl 0 rfl) ?_
    refine va_get (D := D) (ci := 1) (v := .ref (b0 6)) (C := RX1) (T := TX1) (N := 10) hx hb hts iX1_pay_X1 hown hK.1 hP 0 rfl rfl 5 (by decide) (hts _ mX1_pay_1) (fun _ h9 => h9) rfl dX1_pay_13 ?_
    refine lv_iload_n hx hb dX1_pay_16 rfl (lv_at hl 1 rfl) ?_
    obtain ⟨b_3, h⟩ := ck_s h
    refine va_iald hx hb hK.1 hP 6 1 rfl rfl b_3 dX1_pay_17 ?_
    refine lv_iadd hx hb dX1_pay_18 ?_
    refine lv_topi (fun x2_4 ex2_4 => ?_)
    replace h := nm_s h ex2_4
    refine lv_istore_n (lv' := [(2, .int x2_4), (0, .ref (b0 0)), (1, .int x1)]) hx hb dX1_pay_19 rfl hl (by decide) rfl (fun ls hl => ?_)
    refine lv_aload_n hx hb dX1_pay_20 rfl (lv_at hl 1 rfl) ?_
    refine va_get (D := D) (ci := 1) (v := .ref (b0 6)) (C := RX1) (T := TX1) (N := 10) hx hb hts iX1_pay_X1 hown hK.1 hP 0 rfl rfl 5 (by decide) (hts _ mX1_pay_1) (fun _ h9 => h9) rfl dX1_pay_21 ?_
    refine lv_iload_n hx hb dX1_pay_24 rfl (lv_at hl 2 rfl) ?_
    refine lv_dup2_11 hx hb dX1_pay_25 rfl rfl ?_
    refine va_iald hx hb hK.1 hP 6 1 rfl rfl b_3 dX1_pay_26 ?_
    refine lv_iconst (v := 1) hx hb dX1_pay_27 (by decide) ?_
    refine lv_iadd hx hb dX1_pay_28 ?_
    refine va_iast hx hb hK.1 hP hD hS 6 1 rfl rfl b_3 dX1_pay_29 (fun H locs hP hD hS => ?_)
    obtain ⟨yv_5, eyv_5⟩ : ∃ z : YS, z = (yv.1, yv.2.1, yv.2.2.1, yv.2.2.2.1, yv.2.2.2.2.1, (upd yv.2.2.2.2.2.1 x1.toNatClampNeg ((yv.2.2.2.2.2.1 x1.toNatClampNeg) + (1 : Int32))), yv.2.2.2.2.2.2) := ⟨_, rfl⟩
    replace h := nm_s h eyv_5
    have hP : va_P D vwCl (wY cy b0 yv_5 []) H := by subst eyv_5; exact hP
    have hD : va_D A (wY cy b0 yv_5 []) := hD.lk [(b0 0), (b0 1), (b0 2), (b0 3), (b0 4), (b0 5), (b0 6), (b0 7), (b0 8), (b0 9)] rfl rfl
    refine lv_aload_n hx hb dX1_pay_30 rfl (lv_at hl 1 rfl) ?_
    refine va_get (D := D) (ci := 1) (v := .ref (b0 2)) (C := RX1) (T := TX1) (N := 10) hx hb hts iX1_pay_X1 hown hK.1 hP 0 rfl rfl 1 (by decide) (hts _ mX1_pay_2) (fun _ h9 => h9) rfl dX1_pay_31 ?_
    refine lv_iload_n hx hb dX1_pay_34 rfl (lv_at hl 2 rfl) ?_
    refine lv_dup2_11 hx hb dX1_pay_35 rfl rfl ?_
    refine va_iald hx hb hK.1 hP 2 1 rfl rfl b_3 dX1_pay_36 ?_
    refine lv_aload_n hx hb dX1_pay_37 rfl (lv_at hl 1 rfl) ?_
    refine va_get (D := D) (ci := 1) (v := .ref (b0 5)) (C := RX1) (T := TX1) (N := 10) hx hb hts iX1_pay_X1 hown hK.1 hP 0 rfl rfl 4 (by decide) (hts _ mX1_pay_3) (fun _ h9 => h9) rfl dX1_pay_38 ?_
    refine lv_iload_n hx hb dX1_pay_41 rfl (lv_at hl 0 rfl) ?_
    obtain ⟨b_6, h⟩ := ck_s h
    refine va_iald hx hb hK.1 hP 5 1 rfl rfl b_6 dX1_pay_42 ?_
    refine lv_isub hx hb dX1_pay_43 ?_
    refine va_iast hx hb hK.1 hP hD hS 2 1 rfl rfl b_3 dX1_pay_44 (fun H locs hP hD hS => ?_)
    obtain ⟨yv_7, eyv_7⟩ : ∃ z : YS, z = (yv_5.1, (upd yv_5.2.1 x1.toNatClampNeg ((yv_5.2.1 x1.toNatClampNeg) - (yv_5.2.2.2.2.1 x2_4.toNatClampNeg))), yv_5.2.2) := ⟨_, rfl⟩
    replace h := nm_s h eyv_7
    have hP : va_P D vwCl (wY cy b0 yv_7 []) H := by subst eyv_7; exact hP
    have hD : va_D A (wY cy b0 yv_7 []) := hD.lk [(b0 0), (b0 1), (b0 2), (b0 3), (b0 4), (b0 5), (b0 6), (b0 7), (b0 8), (b0 9)] rfl rfl
    refine lv_aload_n hx hb dX1_pay_45 rfl (lv_at hl 1 rfl) ?_
    refine va_get (D := D) (ci := 1) (v := .ref (b0 4)) (C := RX1) (T := TX1) (N := 10) hx hb hts iX1_pay_X1 hown hK.1 hP 0 rfl rfl 3 (by decide) (hts _ mX1_pay_4) (fun _ h9 => h9) rfl dX1_pay_46 ?_
    refine lv_iload_n hx hb dX1_pay_49 rfl (lv_at hl 0 rfl) ?_
    refine va_iald hx hb hK.1 hP 4 1 rfl rfl b_6 dX1_pay_50 ?_
    obtain ⟨r_8, hr_8, h⟩ := bn_s h
    refine kcNi (As := [.int (yv_7.2.2.2.1 x2_4.toNatClampNeg)]) (rest := []) ⟨hx, hb, hml, hown, hts⟩ ⟨va_cnB 1 hts gX1_pay_X3_isMan_n71 rfl rfl rfl (kN_RX1_71 hK.2) (hts _ mX1_pay_5) eX3_isMan ⟨Nat.le_of_ble_eq_true rfl, Nat.le_of_ble_eq_true rfl⟩, hts _ mX1_pay_6, trivial⟩ (c_X3_isMan  hr_8) hK hP hS hA rfl hl.1 rfl (Nat.le_of_ble_eq_true rfl) dX1_pay_51 (fun H locs hP hS => ?_)
    refine lv_if_eq (tgt := 77) hx hb dX1_pay_54 (by decide) (fun c_9 => ?_) (fun c_9 => ?_)
    · replace h := it_p c_9 h
      cases h
      exact kretV hx hb hr hlk hP hS dX1_pay_77
    · replace h := it_n c_9 h
      refine lv_aload_n hx hb dX1_pay_57 rfl (lv_at hl 1 rfl) ?_
      refine va_get (D := D) (ci := 1) (v := .ref (b0 2)) (C := RX1) (T := TX1) (N := 10) hx hb hts iX1_pay_X1 hown hK.1 hP 0 rfl rfl 1 (by decide) (hts _ mX1_pay_2) (fun _ h9 => h9) rfl dX1_pay_58 ?_
      refine lv_aload_n hx hb dX1_pay_61 rfl (lv_at hl 1 rfl) ?_
      refine va_get (D := D) (ci := 1) (v := .ref (b0 4)) (C := RX1) (T := TX1) (N := 10) hx hb hts iX1_pay_X1 hown hK.1 hP 0 rfl rfl 3 (by decide) (hts _ mX1_pay_4) (fun _ h9 => h9) rfl dX1_pay_62 ?_
      refine lv_iload_n hx hb dX1_pay_65 rfl (lv_at hl 0 rfl) ?_
      refine va_iald hx hb hK.1 hP 4 1 rfl rfl b_6 dX1_pay_66 ?_
      refine lv_dup2_11 hx hb dX1_pay_67 rfl rfl ?_
      obtain ⟨b_10, h⟩ := ck_s h
      refine va_iald hx hb hK.1 hP 2 1 rfl rfl b_10 dX1_pay_68 ?_
      refine lv_aload_n hx hb dX1_pay_69 rfl (lv_at hl 1 rfl) ?_
      refine va_get (D := D) (ci := 1) (v := .ref (b0 5)) (C := RX1) (T := TX1) (N := 10) hx hb hts iX1_pay_X1 hown hK.1 hP 0 rfl rfl 4 (by decide) (hts _ mX1_pay_3) (fun _ h9 => h9) rfl dX1_pay_70 ?_
      refine lv_iload_n hx hb dX1_pay_73 rfl (lv_at hl 0 rfl) ?_
      refine va_iald hx hb hK.1 hP 5 1 rfl rfl b_6 dX1_pay_74 ?_
      refine lv_iadd hx hb dX1_pay_75 ?_
      refine va_iast hx hb hK.1 hP hD hS 2 1 rfl rfl b_10 dX1_pay_76 (fun H locs hP hD hS => ?_)
      obtain ⟨yv_11, eyv_11⟩ : ∃ z : YS, z = (yv_7.1, (upd yv_7.2.1 (yv_7.2.2.2.1 x2_4.toNatClampNeg).toNatClampNeg ((yv_7.2.1 (yv_7.2.2.2.1 x2_4.toNatClampNeg).toNatClampNeg) + (yv_7.2.2.2.2.1 x2_4.toNatClampNeg))), yv_7.2.2) := ⟨_, rfl⟩
      replace h := nm_s h eyv_11
      have hP : va_P D vwCl (wY cy b0 yv_11 []) H := by subst eyv_11; exact hP
      have hD : va_D A (wY cy b0 yv_11 []) := hD.lk [(b0 0), (b0 1), (b0 2), (b0 3), (b0 4), (b0 5), (b0 6), (b0 7), (b0 8), (b0 9)] rfl rfl
      cases h
      exact kretV hx hb hr hlk hP hS dX1_pay_77
  · replace h := it_n c_2 h
    cases h
    exact kretV hx hb hr hlk hP hS dX1_pay_8
theorem c_X1_pay {l : Launch} {D : va_G} {cy : Nat → ClassId} (b0 : Nat → Nat) {yv : YS} {x1 : Int32} {rr : YS} (h : f_X1_pay yv x1 = some rr) : CV l D cy yX1_pay wsX1_pay { frames := 1, cells := 0, slots := 0, locals := 21 } [.ref (b0 0), .int x1] (wY cy b0 yv []) (wY cy b0 rr []) := by
  refine kofV (cc := cX1_pay) (maxL := 3) (ret := none) (by decide) rfl (Nat.le_of_ble_eq_true rfl) ?_
  intro p e s m below meth c A M ls hl hP hD hS
  exact w_X1_pay_0 M h hP hD hS hl
theorem eX1_pay : yX1_pay.cls ≠ "java/lang/invoke/MethodHandle" ∧ yX1_pay.cls ≠ "java/lang/invoke/VarHandle" ∧ (parseMethodDescriptor yX1_pay.desc).map (fun d => d.parameters.length) = some 1 := by decide +kernel
def I_X1_payAllThatCan (p : Program) (l : Launch) (e : Env) (s : State) (m : MethodId) (args : Array Value) (below : List Frame) (meth : Method) (c : Code) (A : Nat → Prop) (D : va_G) (cy : Nat → ClassId) (b0 : Nat → Nat) (fu : Nat) (rr : YS) : Prop := (∀ (yv : YS) (x1 : Int32) (x2 : Int32) (H : Heap) (locs : List Loc) (ls : Array Slot), lpn (st_X1_payAllThatCan ) fu (.inl (yv, x1, x2)) = some rr → va_P D vwCl (wY cy b0 yv []) H → va_D A (wY cy b0 yv []) → va_S A s.heap H locs → lv_has ls 5 [(0, .ref (b0 0)), (1, .int x1), (2, .int x2)] → W p l e { frames := 2, cells := 0, slots := 0, locals := 43 } s m args below meth c H locs 0 0 (MQ below (qV D (wY cy b0 rr []) A) args s 0 0 A) (F0 m 4 ls [])) ∧ (∀ (yv : YS) (x1 : Int32) (x2 : Int32) (x3 : Int32) (H : Heap) (locs : List Loc) (ls : Array Slot), lpn (st_X1_payAllThatCan ) fu (.inr (.inl (yv, x1, x2, x3))) = some rr → va_P D vwCl (wY cy b0 yv []) H → va_D A (wY cy b0 yv []) → va_S A s.heap H locs → lv_has ls 5 [(0, .ref (b0 0)), (1, .int x1), (2, .int x2), (3, .int x3)] → W p l e { frames := 2, cells := 0, slots := 0, locals := 43 } s m args below meth c H locs 0 0 (MQ below (qV D (wY cy b0 rr []) A) args s 0 0 A) (F0 m 18 ls [])) ∧ (∀ (yv : YS) (x1 : Int32) (x2 : Int32) (x3 : Int32) (x4 : Int32) (H : Heap) (locs : List Loc) (ls : Array Slot), lpn (st_X1_payAllThatCan ) fu (.inr (.inr (yv, x1, x2, x3, x4))) = some rr → va_P D vwCl (wY cy b0 yv []) H → va_D A (wY cy b0 yv []) → va_S A s.heap H locs → lv_has ls 5 [(0, .ref (b0 0)), (1, .int x1), (2, .int x2), (3, .int x3), (4, .int x4)] → W p l e { frames := 2, cells := 0, slots := 0, locals := 43 } s m args below meth c H locs 0 0 (MQ below (qV D (wY cy b0 rr []) A) args s 0 0 A) (F0 m 27 ls []))
set_option maxHeartbeats 4000000 in
set_option maxRecDepth 100000 in
theorem w_X1_payAllThatCan_27 {p : Program} {l : Launch} {e : Env} {s : State} {m : MethodId} {args : Array Value} {below : List Frame} {meth : Method} {c : Code} {A : Nat → Prop} {D : va_G} {cy : Nat → ClassId} {b0 : Nat → Nat} {fu : Nat} {rr : YS} (M : kM p s m args meth c cX1_payAllThatCan 5 none RX1 wsX1_payAllThatCan A D cy) (ih : I_X1_payAllThatCan p l e s m args below meth c A D cy b0 fu rr) {yv : YS} {x1 : Int32} {x2 : Int32} {x3 : Int32} {x4 : Int32} {oo : ((YS × Int32 × Int32) ⊕ (YS × Int32 × Int32 × Int32) ⊕ (YS × Int32 × Int32 × Int32 × Int32)) ⊕ (YS)} (h : f_X1_payAllThatCan_27 yv x1 x2 x3 x4 = some oo) (hm : lpo (st_X1_payAllThatCan ) fu oo rr) {H : Heap} {locs : List Loc} {ls : Array Slot} (hP : va_P D vwCl (wY cy b0 yv []) H) (hD : va_D A (wY cy b0 yv [])) (hS : va_S A s.heap H locs) (hl : lv_has ls 5 [(0, .ref (b0 0)), (1, .int x1), (2, .int x2), (3, .int x3), (4, .int x4)]) : W p l e { frames := 2, cells := 0, slots := 0, locals := 43 } s m args below meth c H locs 0 0 (MQ below (qV D (wY cy b0 rr []) A) args s 0 0 A) (F0 m 27 ls []) := by
  obtain ⟨hx, hb, hr, hml, hown, hts, hlk, hA, hK⟩ := id M
  unfold f_X1_payAllThatCan_27 at h
  refine lv_iload hx hb dX1_payAllThatCan_27 (lv_at hl 4 rfl) ?_
  refine lv_iconst (v := 5) hx hb dX1_payAllThatCan_29 (by decide) ?_
  refine lv_icmp_ge (tgt := 54) hx hb dX1_payAllThatCan_30 (by decide) (fun c_1 => ?_) (fun c_1 => ?_)
  · replace h := it_p c_1 h
    obtain ⟨x3_2, ex3_2⟩ : ∃ z : Int32, z = (x3 + (1 : Int32)) := ⟨_, rfl⟩
    replace h := nm_s h ex3_2
    refine lv_iinc (v := x3_2) (lv' := [(3, .int x3_2), (0, .ref (b0 0)), (1, .int x1), (2, .int x2), (4, .int x4)]) hx hb dX1_payAllThatCan_54 hl (k := 3) rfl (by rw [ex3_2]; rfl) (by decide) rfl (fun ls hl => ?_)
    refine lv_goto (tgt := 18) hx hb dX1_payAllThatCan_57 (by decide) ?_
    cases h
    exact ih.2.1 yv x1 x2 x3_2 _ _ _ hm hP hD hS (lv_sub hl [1, 2, 3, 0] rfl)
  · replace h := it_n c_1 h
    refine lv_aload_n hx hb dX1_payAllThatCan_33 rfl (lv_at hl 0 rfl) ?_
    refine lv_iload_n hx hb dX1_payAllThatCan_34 rfl (lv_at hl 3 rfl) ?_
    obtain ⟨r_3, hr_3, h⟩ := bn_s h
    refine kcVi (As := [.int x3]) (rest := []) (ws' := (wY cy b0 yv [])) ⟨hx, hb, hml, hown, hts⟩ (cwV 1 hts gX1_payAllThatCan_X1_canPay rfl rfl rfl ⟨rfl, eX1_canPay⟩ ⟨Nat.le_of_ble_eq_true rfl, Nat.le_of_ble_eq_true rfl⟩) (c_X1_canPay b0 hr_3) hK hP hD hS hA [0, 1, 2, 3, 4, 5, 6, 7, 8, 9] [] (by decide) rfl rfl 1 rfl rfl [(b0 0), (b0 1), (b0 2), (b0 3), (b0 4), (b0 5), (b0 6), (b0 7), (b0 8), (b0 9)] rfl rfl rfl [] rfl rfl rfl rfl hl.1 rfl (Nat.le_of_ble_eq_true rfl) dX1_payAllThatCan_35 (fun H locs hP hD hS => ?_)
    refine lv_if_eq (tgt := 54) hx hb dX1_payAllThatCan_38 (by decide) (fun c_4 => ?_) (fun c_4 => ?_)
    · replace h := it_p c_4 h
      obtain ⟨x3_5, ex3_5⟩ : ∃ z : Int32, z = (x3 + (1 : Int32)) := ⟨_, rfl⟩
      replace h := nm_s h ex3_5
      refine lv_iinc (v := x3_5) (lv' := [(3, .int x3_5), (0, .ref (b0 0)), (1, .int x1), (2, .int x2), (4, .int x4)]) hx hb dX1_payAllThatCan_54 hl (k := 3) rfl (by rw [ex3_5]; rfl) (by decide) rfl (fun ls hl => ?_)
      refine lv_goto (tgt := 18) hx hb dX1_payAllThatCan_57 (by decide) ?_
      cases h
      exact ih.2.1 yv x1 x2 x3_5 _ _ _ hm hP hD hS (lv_sub hl [1, 2, 3, 0] rfl)
    · replace h := it_n c_4 h
      refine lv_aload_n hx hb dX1_payAllThatCan_41 rfl (lv_at hl 0 rfl) ?_
      refine lv_iload_n hx hb dX1_payAllThatCan_42 rfl (lv_at hl 3 rfl) ?_
      obtain ⟨r_6, hr_6, h⟩ := bn_s h
      refine kcVv (As := [.int x3]) (rest := []) (ws' := (wY cy b0 r_6 [])) ⟨hx, hb, hml, hown, hts⟩ (cwV 1 hts gX1_payAllThatCan_X1_pay rfl rfl rfl ⟨rfl, eX1_pay⟩ ⟨Nat.le_of_ble_eq_true rfl, Nat.le_of_ble_eq_true rfl⟩) (c_X1_pay b0 hr_6) hK hP hD hS hA [0, 1, 2, 3, 4, 5, 6, 7, 8, 9] [] (by decide) rfl rfl 1 rfl rfl [(b0 0), (b0 1), (b0 2), (b0 3), (b0 4), (b0 5), (b0 6), (b0 7), (b0 8), (b0 9)] rfl rfl rfl [] rfl rfl rfl rfl hl.1 rfl (Nat.le_of_ble_eq_true rfl) dX1_payAllThatCan_43 (fun H locs hP hD hS => ?_)
      refine lv_iconst (v := 1) hx hb dX1_payAllThatCan_46 (by decide) ?_
      refine lv_istore_n (lv' := [(1, .int (1 : Int32)), (0, .ref (b0 0)), (2, .int x2), (3, .int x3), (4, .int x4)]) hx hb dX1_payAllThatCan_47 rfl hl (by decide) rfl (fun ls hl => ?_)
      obtain ⟨x4_7, ex4_7⟩ : ∃ z : Int32, z = (x4 + (1 : Int32)) := ⟨_, rfl⟩
      replace h := nm_s h ex4_7
      refine lv_iinc (v := x4_7) (lv' := [(4, .int x4_7), (1, .int (1 : Int32)), (0, .ref (b0 0)), (2, .int x2), (3, .int x3)]) hx hb dX1_payAllThatCan_48 hl (k := 4) rfl (by rw [ex4_7]; rfl) (by decide) rfl (fun ls hl => ?_)
      refine lv_goto (tgt := 27) hx hb dX1_payAllThatCan_51 (by decide) ?_
      cases h
      exact ih.2.2 r_6 (1 : Int32) x2 x3 x4_7 _ _ _ hm hP hD hS (lv_sub hl [2, 1, 3, 4, 0] rfl)
set_option maxHeartbeats 4000000 in
set_option maxRecDepth 100000 in
theorem w_X1_payAllThatCan_18 {p : Program} {l : Launch} {e : Env} {s : State} {m : MethodId} {args : Array Value} {below : List Frame} {meth : Method} {c : Code} {A : Nat → Prop} {D : va_G} {cy : Nat → ClassId} {b0 : Nat → Nat} {fu : Nat} {rr : YS} (M : kM p s m args meth c cX1_payAllThatCan 5 none RX1 wsX1_payAllThatCan A D cy) (ih : I_X1_payAllThatCan p l e s m args below meth c A D cy b0 fu rr) {yv : YS} {x1 : Int32} {x2 : Int32} {x3 : Int32} {oo : ((YS × Int32 × Int32) ⊕ (YS × Int32 × Int32 × Int32) ⊕ (YS × Int32 × Int32 × Int32 × Int32)) ⊕ (YS)} (h : f_X1_payAllThatCan_18 yv x1 x2 x3 = some oo) (hm : lpo (st_X1_payAllThatCan ) fu oo rr) {H : Heap} {locs : List Loc} {ls : Array Slot} (hP : va_P D vwCl (wY cy b0 yv []) H) (hD : va_D A (wY cy b0 yv [])) (hS : va_S A s.heap H locs) (hl : lv_has ls 5 [(0, .ref (b0 0)), (1, .int x1), (2, .int x2), (3, .int x3)]) : W p l e { frames := 2, cells := 0, slots := 0, locals := 43 } s m args below meth c H locs 0 0 (MQ below (qV D (wY cy b0 rr []) A) args s 0 0 A) (F0 m 18 ls []) := by
  obtain ⟨hx, hb, hr, hml, hown, hts, hlk, hA, hK⟩ := id M
  unfold f_X1_payAllThatCan_18 at h
  refine lv_iload_n hx hb dX1_payAllThatCan_18 rfl (lv_at hl 3 rfl) ?_
  refine lv_bipush (v := 6) hx hb dX1_payAllThatCan_19 (by decide) ?_
  refine lv_icmp_ge (tgt := 60) hx hb dX1_payAllThatCan_21 (by decide) (fun c_1 => ?_) (fun c_1 => ?_)
  · replace h := it_p c_1 h
    obtain ⟨x2_2, ex2_2⟩ : ∃ z : Int32, z = (x2 + (1 : Int32)) := ⟨_, rfl⟩
    replace h := nm_s h ex2_2
    refine lv_iinc (v := x2_2) (lv' := [(2, .int x2_2), (0, .ref (b0 0)), (1, .int x1), (3, .int x3)]) hx hb dX1_payAllThatCan_60 hl (k := 2) rfl (by rw [ex2_2]; rfl) (by decide) rfl (fun ls hl => ?_)
    refine lv_goto (tgt := 4) hx hb dX1_payAllThatCan_63 (by decide) ?_
    cases h
    exact ih.1 yv x1 x2_2 _ _ _ hm hP hD hS (lv_sub hl [1, 2, 0] rfl)
  · replace h := it_n c_1 h
    refine lv_iconst (v := 0) hx hb dX1_payAllThatCan_24 (by decide) ?_
    refine lv_istore (lv' := [(4, .int (0 : Int32)), (0, .ref (b0 0)), (1, .int x1), (2, .int x2), (3, .int x3)]) hx hb dX1_payAllThatCan_25 hl (by decide) rfl (fun ls hl => ?_)
    cases h
    exact ih.2.2 yv x1 x2 x3 (0 : Int32) _ _ _ hm hP hD hS (lv_sub hl [1, 2, 3, 4, 0] rfl)
set_option maxHeartbeats 4000000 in
set_option maxRecDepth 100000 in
theorem w_X1_payAllThatCan_4 {p : Program} {l : Launch} {e : Env} {s : State} {m : MethodId} {args : Array Value} {below : List Frame} {meth : Method} {c : Code} {A : Nat → Prop} {D : va_G} {cy : Nat → ClassId} {b0 : Nat → Nat} {fu : Nat} {rr : YS} (M : kM p s m args meth c cX1_payAllThatCan 5 none RX1 wsX1_payAllThatCan A D cy) (ih : I_X1_payAllThatCan p l e s m args below meth c A D cy b0 fu rr) {yv : YS} {x1 : Int32} {x2 : Int32} {oo : ((YS × Int32 × Int32) ⊕ (YS × Int32 × Int32 × Int32) ⊕ (YS × Int32 × Int32 × Int32 × Int32)) ⊕ (YS)} (h : f_X1_payAllThatCan_4 yv x1 x2 = some oo) (hm : lpo (st_X1_payAllThatCan ) fu oo rr) {H : Heap} {locs : List Loc} {ls : Array Slot} (hP : va_P D vwCl (wY cy b0 yv []) H) (hD : va_D A (wY cy b0 yv [])) (hS : va_S A s.heap H locs) (hl : lv_has ls 5 [(0, .ref (b0 0)), (1, .int x1), (2, .int x2)]) : W p l e { frames := 2, cells := 0, slots := 0, locals := 43 } s m args below meth c H locs 0 0 (MQ below (qV D (wY cy b0 rr []) A) args s 0 0 A) (F0 m 4 ls []) := by
  obtain ⟨hx, hb, hr, hml, hown, hts, hlk, hA, hK⟩ := id M
  unfold f_X1_payAllThatCan_4 at h
  refine lv_iload_n hx hb dX1_payAllThatCan_4 rfl (lv_at hl 2 rfl) ?_
  refine lv_bipush (v := 30) hx hb dX1_payAllThatCan_5 (by decide) ?_
  refine lv_icmp_gt (tgt := 66) hx hb dX1_payAllThatCan_7 (by decide) (fun c_1 => ?_) (fun c_1 => ?_)
  · replace h := it_p c_1 h
    cases h
    have hm : _ = rr := hm
    subst hm
    exact kretV hx hb hr hlk hP hS dX1_payAllThatCan_66
  · replace h := it_n c_1 h
    refine lv_iload_n hx hb dX1_payAllThatCan_10 rfl (lv_at hl 1 rfl) ?_
    refine lv_if_eq (tgt := 66) hx hb dX1_payAllThatCan_11 (by decide) (fun c_2 => ?_) (fun c_2 => ?_)
    · replace h := it_p c_2 h
      cases h
      have hm : _ = rr := hm
      subst hm
      exact kretV hx hb hr hlk hP hS dX1_payAllThatCan_66
    · replace h := it_n c_2 h
      refine lv_iconst (v := 0) hx hb dX1_payAllThatCan_14 (by decide) ?_
      refine lv_istore_n (lv' := [(1, .int (0 : Int32)), (0, .ref (b0 0)), (2, .int x2)]) hx hb dX1_payAllThatCan_15 rfl hl (by decide) rfl (fun ls hl => ?_)
      refine lv_iconst (v := 0) hx hb dX1_payAllThatCan_16 (by decide) ?_
      refine lv_istore_n (lv' := [(3, .int (0 : Int32)), (1, .int (0 : Int32)), (0, .ref (b0 0)), (2, .int x2)]) hx hb dX1_payAllThatCan_17 rfl hl (by decide) rfl (fun ls hl => ?_)
      cases h
      exact ih.2.1 yv (0 : Int32) x2 (0 : Int32) _ _ _ hm hP hD hS (lv_sub hl [2, 1, 3, 0] rfl)
set_option maxHeartbeats 4000000 in
set_option maxRecDepth 100000 in
theorem w_X1_payAllThatCan_0 {p : Program} {l : Launch} {e : Env} {s : State} {m : MethodId} {args : Array Value} {below : List Frame} {meth : Method} {c : Code} {A : Nat → Prop} {D : va_G} {cy : Nat → ClassId} {b0 : Nat → Nat} {fu : Nat} {rr : YS} (M : kM p s m args meth c cX1_payAllThatCan 5 none RX1 wsX1_payAllThatCan A D cy) (ih : I_X1_payAllThatCan p l e s m args below meth c A D cy b0 fu rr) {yv : YS} {oo : ((YS × Int32 × Int32) ⊕ (YS × Int32 × Int32 × Int32) ⊕ (YS × Int32 × Int32 × Int32 × Int32)) ⊕ (YS)} (h : f_X1_payAllThatCan_0 yv = some oo) (hm : lpo (st_X1_payAllThatCan ) fu oo rr) {H : Heap} {locs : List Loc} {ls : Array Slot} (hP : va_P D vwCl (wY cy b0 yv []) H) (hD : va_D A (wY cy b0 yv [])) (hS : va_S A s.heap H locs) (hl : lv_has ls 5 [(0, .ref (b0 0))]) : W p l e { frames := 2, cells := 0, slots := 0, locals := 43 } s m args below meth c H locs 0 0 (MQ below (qV D (wY cy b0 rr []) A) args s 0 0 A) (F0 m 0 ls []) := by
  obtain ⟨hx, hb, hr, hml, hown, hts, hlk, hA, hK⟩ := id M
  unfold f_X1_payAllThatCan_0 at h
  refine lv_iconst (v := 1) hx hb dX1_payAllThatCan_0 (by decide) ?_
  refine lv_istore_n (lv' := [(1, .int (1 : Int32)), (0, .ref (b0 0))]) hx hb dX1_payAllThatCan_1 rfl hl (by decide) rfl (fun ls hl => ?_)
  refine lv_iconst (v := 0) hx hb dX1_payAllThatCan_2 (by decide) ?_
  refine lv_istore_n (lv' := [(2, .int (0 : Int32)), (1, .int (1 : Int32)), (0, .ref (b0 0))]) hx hb dX1_payAllThatCan_3 rfl hl (by decide) rfl (fun ls hl => ?_)
  cases h
  exact ih.1 yv (1 : Int32) (0 : Int32) _ _ _ hm hP hD hS (lv_sub hl [2, 1, 0] rfl)
theorem wl_X1_payAllThatCan {p : Program} {l : Launch} {e : Env} {s : State} {m : MethodId} {args : Array Value} {below : List Frame} {meth : Method} {c : Code} {A : Nat → Prop} {D : va_G} {cy : Nat → ClassId} {b0 : Nat → Nat} {rr : YS} (M : kM p s m args meth c cX1_payAllThatCan 5 none RX1 wsX1_payAllThatCan A D cy) : ∀ fu : Nat, I_X1_payAllThatCan p l e s m args below meth c A D cy b0 fu rr := by
  intro fu
  induction fu with
  | zero => exact ⟨(fun _ _ _ _ _ _ h => by cases h), (fun _ _ _ _ _ _ _ h => by cases h), (fun _ _ _ _ _ _ _ _ h => by cases h)⟩
  | succ fu ih =>
    refine ⟨?_, ?_, ?_⟩
    · intro yv x1 x2 H locs ls h hP hD hS hl
      obtain ⟨o1, h1, h2⟩ := lpn_s h
      exact w_X1_payAllThatCan_4 M ih h1 h2 hP hD hS hl
    · intro yv x1 x2 x3 H locs ls h hP hD hS hl
      obtain ⟨o1, h1, h2⟩ := lpn_s h
      exact w_X1_payAllThatCan_18 M ih h1 h2 hP hD hS hl
    · intro yv x1 x2 x3 x4 H locs ls h hP hD hS hl
      obtain ⟨o1, h1, h2⟩ := lpn_s h
      exact w_X1_payAllThatCan_27 M ih h1 h2 hP hD hS hl
theorem c_X1_payAllThatCan {l : Launch} {D : va_G} {cy : Nat → ClassId} (b0 : Nat → Nat) {yv : YS} {rr : YS} (h : f_X1_payAllThatCan yv = some rr) : CV l D cy yX1_payAllThatCan wsX1_payAllThatCan { frames := 2, cells := 0, slots := 0, locals := 43 } [.ref (b0 0)] (wY cy b0 yv []) (wY cy b0 rr []) := by
  refine kofV (cc := cX1_payAllThatCan) (maxL := 5) (ret := none) (by decide) rfl (Nat.le_of_ble_eq_true rfl) ?_
  intro p e s m below meth c A M ls hl hP hD hS
  obtain ⟨o1, fu, h1, h2⟩ := rnx_s h
  exact w_X1_payAllThatCan_0 M (wl_X1_payAllThatCan M fu) h1 h2 hP hD hS hl
theorem eX1_payAllThatCan : yX1_payAllThatCan.cls ≠ "java/lang/invoke/MethodHandle" ∧ yX1_payAllThatCan.cls ≠ "java/lang/invoke/VarHandle" ∧ (parseMethodDescriptor yX1_payAllThatCan.desc).map (fun d => d.parameters.length) = some 0 := by decide +kernel
theorem iX1_setLimits_X1 : ∀ w ∈ u_ws RX1 TX1 10, w ∈ wsX1_setLimits := by decide +kernel
theorem mX1_setLimits_1 : Cond.methodLink RX1 104 Lib.Math.min.name ∈ wsX1_setLimits := by decide +kernel
theorem mX1_setLimits_2 : Cond.static Lib.Math.min.name ∈ wsX1_setLimits := by decide +kernel
theorem mX1_setLimits_3 : Cond.initialized "java/lang/Math" ∈ wsX1_setLimits := by decide +kernel
theorem mX1_setLimits_4 : Cond.code Lib.Math.min.name Lib.Math.min.code 2 (some .int) ∈ wsX1_setLimits := by decide +kernel
theorem mX1_setLimits_5 : Cond.fieldLink RX1 40 "LentPiles$Payings" "words" "I" ∈ wsX1_setLimits := by decide +kernel
theorem mX1_setLimits_6 : Cond.fieldLink RX1 30 "LentPiles$Payings" "limit" "[I" ∈ wsX1_setLimits := by decide +kernel
theorem mX1_setLimits_7 : Cond.fieldLink RX1 27 "LentPiles$Payings" "paid" "[I" ∈ wsX1_setLimits := by decide +kernel
theorem mX1_setLimits_8 : Cond.fieldLink RX1 33 "LentPiles$Payings" "weight" "[I" ∈ wsX1_setLimits := by decide +kernel
def I_X1_setLimits (p : Program) (l : Launch) (e : Env) (s : State) (m : MethodId) (args : Array Value) (below : List Frame) (meth : Method) (c : Code) (A : Nat → Prop) (D : va_G) (cy : Nat → ClassId) (b0 : Nat → Nat) (x1 : Int32) (fu : Nat) (rr : YS) : Prop := (∀ (yv : YS) (x2 : Int32) (x3 : Int32) (H : Heap) (locs : List Loc) (ls : Array Slot), lpn (st_X1_setLimits x1) fu (yv, x2, x3) = some rr → va_P D vwCl (wY cy b0 yv []) H → va_D A (wY cy b0 yv []) → va_S A s.heap H locs → lv_has ls 4 [(0, .ref (b0 0)), (1, .int x1), (2, .int x2), (3, .int x3)] → W p l e { frames := 1, cells := 0, slots := 0, locals := 21 } s m args below meth c H locs 0 0 (MQ below (qV D (wY cy b0 rr []) A) args s 0 0 A) (F0 m 4 ls []))
set_option maxHeartbeats 4000000 in
set_option maxRecDepth 100000 in
theorem w_X1_setLimits_30 {p : Program} {l : Launch} {e : Env} {s : State} {m : MethodId} {args : Array Value} {below : List Frame} {meth : Method} {c : Code} {A : Nat → Prop} {D : va_G} {cy : Nat → ClassId} {b0 : Nat → Nat} {x1 : Int32} {fu : Nat} {rr : YS} (M : kM p s m args meth c cX1_setLimits 4 none RX1 wsX1_setLimits A D cy) (ih : I_X1_setLimits p l e s m args below meth c A D cy b0 x1 fu rr) {yv : YS} {x2 : Int32} {x3 : Int32} {t1 : Int32} {t2 : Int32} {oo : (YS × Int32 × Int32) ⊕ (YS)} (h : f_X1_setLimits_30 x1 yv x2 x3 t1 t2 = some oo) (hm : lpo (st_X1_setLimits x1) fu oo rr) {H : Heap} {locs : List Loc} {ls : Array Slot} (hP : va_P D vwCl (wY cy b0 yv []) H) (hD : va_D A (wY cy b0 yv [])) (hS : va_S A s.heap H locs) (hl : lv_has ls 4 [(0, .ref (b0 0)), (1, .int x1), (2, .int x2), (3, .int x3)]) : W p l e { frames := 1, cells := 0, slots := 0, locals := 21 } s m args below meth c H locs 0 0 (MQ below (qV D (wY cy b0 rr []) A) args s 0 0 A) (F0 m 30 ls [.int t2, .int t1, .ref (b0 7)]) := by
  obtain ⟨hx, hb, hr, hml, hown, hts, hlk, hA, hK⟩ := id M
  unfold f_X1_setLimits_30 at h
  obtain ⟨b_1, h⟩ := ck_s h
  refine va_iast hx hb hK.1 hP hD hS 7 1 rfl rfl b_1 dX1_setLimits_30 (fun H locs hP hD hS => ?_)
  obtain ⟨yv_2, eyv_2⟩ : ∃ z : YS, z = (yv.1, yv.2.1, yv.2.2.1, yv.2.2.2.1, yv.2.2.2.2.1, yv.2.2.2.2.2.1, (upd yv.2.2.2.2.2.2.1 t1.toNatClampNeg t2), yv.2.2.2.2.2.2.2) := ⟨_, rfl⟩
  replace h := nm_s h eyv_2
  have hP : va_P D vwCl (wY cy b0 yv_2 []) H := by subst eyv_2; exact hP
  have hD : va_D A (wY cy b0 yv_2 []) := hD.lk [(b0 0), (b0 1), (b0 2), (b0 3), (b0 4), (b0 5), (b0 6), (b0 7), (b0 8), (b0 9)] rfl rfl
  refine lv_aload_n hx hb dX1_setLimits_31 rfl (lv_at hl 0 rfl) ?_
  refine va_get (D := D) (ci := 1) (v := .ref (b0 8)) (C := RX1) (T := TX1) (N := 10) hx hb hts iX1_setLimits_X1 hown hK.1 hP 0 rfl rfl 7 (by decide) (hts _ mX1_setLimits_8) (fun _ h9 => h9) rfl dX1_setLimits_32 ?_
  refine lv_iload_n hx hb dX1_setLimits_35 rfl (lv_at hl 3 rfl) ?_
  refine lv_iload_n hx hb dX1_setLimits_36 rfl (lv_at hl 2 rfl) ?_
  obtain ⟨b_3, h⟩ := ck_s h
  refine va_iast hx hb hK.1 hP hD hS 8 1 rfl rfl b_3 dX1_setLimits_37 (fun H locs hP hD hS => ?_)
  obtain ⟨yv_4, eyv_4⟩ : ∃ z : YS, z = (yv_2.1, yv_2.2.1, yv_2.2.2.1, yv_2.2.2.2.1, yv_2.2.2.2.2.1, yv_2.2.2.2.2.2.1, yv_2.2.2.2.2.2.2.1, (upd yv_2.2.2.2.2.2.2.2.1 x3.toNatClampNeg x2), yv_2.2.2.2.2.2.2.2.2) := ⟨_, rfl⟩
  replace h := nm_s h eyv_4
  have hP : va_P D vwCl (wY cy b0 yv_4 []) H := by subst eyv_4; exact hP
  have hD : va_D A (wY cy b0 yv_4 []) := hD.lk [(b0 0), (b0 1), (b0 2), (b0 3), (b0 4), (b0 5), (b0 6), (b0 7), (b0 8), (b0 9)] rfl rfl
  refine lv_iload_n hx hb dX1_setLimits_38 rfl (lv_at hl 2 rfl) ?_
  refine lv_aload_n hx hb dX1_setLimits_39 rfl (lv_at hl 0 rfl) ?_
  refine va_get (D := D) (ci := 1) (v := .ref (b0 7)) (C := RX1) (T := TX1) (N := 10) hx hb hts iX1_setLimits_X1 hown hK.1 hP 0 rfl rfl 6 (by decide) (hts _ mX1_setLimits_6) (fun _ h9 => h9) rfl dX1_setLimits_40 ?_
  refine lv_iload_n hx hb dX1_setLimits_43 rfl (lv_at hl 3 rfl) ?_
  refine va_iald hx hb hK.1 hP 7 1 rfl rfl b_3 dX1_setLimits_44 ?_
  refine lv_iconst (v := 1) hx hb dX1_setLimits_45 (by decide) ?_
  refine lv_iadd hx hb dX1_setLimits_46 ?_
  refine lv_imul hx hb dX1_setLimits_47 ?_
  refine lv_topi (fun x2_5 ex2_5 => ?_)
  replace h := nm_s h ex2_5
  refine lv_istore_n (lv' := [(2, .int x2_5), (0, .ref (b0 0)), (1, .int x1), (3, .int x3)]) hx hb dX1_setLimits_48 rfl hl (by decide) rfl (fun ls hl => ?_)
  obtain ⟨x3_6, ex3_6⟩ : ∃ z : Int32, z = (x3 + (1 : Int32)) := ⟨_, rfl⟩
  replace h := nm_s h ex3_6
  refine lv_iinc (v := x3_6) (lv' := [(3, .int x3_6), (2, .int x2_5), (0, .ref (b0 0)), (1, .int x1)]) hx hb dX1_setLimits_49 hl (k := 3) rfl (by rw [ex3_6]; rfl) (by decide) rfl (fun ls hl => ?_)
  refine lv_goto (tgt := 4) hx hb dX1_setLimits_52 (by decide) ?_
  cases h
  exact ih yv_4 x2_5 x3_6 _ _ _ hm hP hD hS (lv_sub hl [2, 3, 1, 0] rfl)
set_option maxHeartbeats 4000000 in
set_option maxRecDepth 100000 in
theorem w_X1_setLimits_4 {p : Program} {l : Launch} {e : Env} {s : State} {m : MethodId} {args : Array Value} {below : List Frame} {meth : Method} {c : Code} {A : Nat → Prop} {D : va_G} {cy : Nat → ClassId} {b0 : Nat → Nat} {x1 : Int32} {fu : Nat} {rr : YS} (M : kM p s m args meth c cX1_setLimits 4 none RX1 wsX1_setLimits A D cy) (ih : I_X1_setLimits p l e s m args below meth c A D cy b0 x1 fu rr) {yv : YS} {x2 : Int32} {x3 : Int32} {oo : (YS × Int32 × Int32) ⊕ (YS)} (h : f_X1_setLimits_4 x1 yv x2 x3 = some oo) (hm : lpo (st_X1_setLimits x1) fu oo rr) {H : Heap} {locs : List Loc} {ls : Array Slot} (hP : va_P D vwCl (wY cy b0 yv []) H) (hD : va_D A (wY cy b0 yv [])) (hS : va_S A s.heap H locs) (hl : lv_has ls 4 [(0, .ref (b0 0)), (1, .int x1), (2, .int x2), (3, .int x3)]) : W p l e { frames := 1, cells := 0, slots := 0, locals := 21 } s m args below meth c H locs 0 0 (MQ below (qV D (wY cy b0 rr []) A) args s 0 0 A) (F0 m 4 ls []) := by
  obtain ⟨hx, hb, hr, hml, hown, hts, hlk, hA, hK⟩ := id M
  unfold f_X1_setLimits_4 at h
  refine lv_iload_n hx hb dX1_setLimits_4 rfl (lv_at hl 3 rfl) ?_
  refine lv_bipush (v := 6) hx hb dX1_setLimits_5 (by decide) ?_
  refine lv_icmp_ge (tgt := 55) hx hb dX1_setLimits_7 (by decide) (fun c_1 => ?_) (fun c_1 => ?_)
  · replace h := it_p c_1 h
    refine lv_aload_n hx hb dX1_setLimits_55 rfl (lv_at hl 0 rfl) ?_
    refine lv_iload_n hx hb dX1_setLimits_56 rfl (lv_at hl 2 rfl) ?_
    refine lv_bipush (v := 64) hx hb dX1_setLimits_57 (by decide) ?_
    refine lv_iadd hx hb dX1_setLimits_59 ?_
    refine lv_iconst (v := 1) hx hb dX1_setLimits_60 (by decide) ?_
    refine lv_isub hx hb dX1_setLimits_61 ?_
    refine lv_bipush (v := 64) hx hb dX1_setLimits_62 (by decide) ?_
    refine lv_idiv hx hb dX1_setLimits_64 (by decide) ?_
    refine lv_bipush (v := 122) hx hb dX1_setLimits_65 (by decide) ?_
    refine va_mmin hx hb (hml.trans hl.1.symm) hown (hts _ mX1_setLimits_1) (hts _ mX1_setLimits_2) (hts _ mX1_setLimits_3) (hts _ mX1_setLimits_4) (Nat.le_of_ble_eq_true rfl) (Nat.le_of_ble_eq_true rfl) (Nat.zero_le _) (Nat.zero_le _) dX1_setLimits_67 ?_
    refine lv_topi (fun t_2 et_2 => ?_)
    replace h := nm_s h et_2
    refine va_put (D := D) (ci := 1) (v := .int t_2) (ty := .int) (C := RX1) (T := TX1) (N := 10) hx hb hts iX1_setLimits_X1 tyX1 tyX1_ok nmX1 hown hK.1 hP hD hS 0 rfl rfl 9 (by decide) (hts _ mX1_setLimits_5) (fun _ h9 => h9) rfl (by decide +kernel) rfl rfl (Nat.le_of_ble_eq_true rfl) dX1_setLimits_70 (fun H locs hP hD hS => ?_)
    obtain ⟨yv_3, eyv_3⟩ : ∃ z : YS, z = (yv.1, yv.2.1, yv.2.2.1, yv.2.2.2.1, yv.2.2.2.2.1, yv.2.2.2.2.2.1, yv.2.2.2.2.2.2.1, yv.2.2.2.2.2.2.2.1, yv.2.2.2.2.2.2.2.2.1, t_2) := ⟨_, rfl⟩
    replace h := nm_s h eyv_3
    have hP : va_P D vwCl (wY cy b0 yv_3 []) H := by subst eyv_3; exact hP
    have hD : va_D A (wY cy b0 yv_3 []) := hD.lk [(b0 0), (b0 1), (b0 2), (b0 3), (b0 4), (b0 5), (b0 6), (b0 7), (b0 8), (b0 9)] rfl rfl
    cases h
    have hm : _ = rr := hm
    subst hm
    exact kretV hx hb hr hlk hP hS dX1_setLimits_73
  · replace h := it_n c_1 h
    refine lv_aload_n hx hb dX1_setLimits_10 rfl (lv_at hl 0 rfl) ?_
    refine va_get (D := D) (ci := 1) (v := .ref (b0 7)) (C := RX1) (T := TX1) (N := 10) hx hb hts iX1_setLimits_X1 hown hK.1 hP 0 rfl rfl 6 (by decide) (hts _ mX1_setLimits_6) (fun _ h9 => h9) rfl dX1_setLimits_11 ?_
    refine lv_iload_n hx hb dX1_setLimits_14 rfl (lv_at hl 3 rfl) ?_
    refine lv_iload_n hx hb dX1_setLimits_15 rfl (lv_at hl 3 rfl) ?_
    refine lv_iload_n hx hb dX1_setLimits_16 rfl (lv_at hl 1 rfl) ?_
    refine lv_icmp_ne (tgt := 24) hx hb dX1_setLimits_17 (by decide) (fun c_4 => ?_) (fun c_4 => ?_)
    · replace h := it_n c_4 h
      refine lv_aload_n hx hb dX1_setLimits_24 rfl (lv_at hl 0 rfl) ?_
      refine va_get (D := D) (ci := 1) (v := .ref (b0 6)) (C := RX1) (T := TX1) (N := 10) hx hb hts iX1_setLimits_X1 hown hK.1 hP 0 rfl rfl 5 (by decide) (hts _ mX1_setLimits_7) (fun _ h9 => h9) rfl dX1_setLimits_25 ?_
      refine lv_iload_n hx hb dX1_setLimits_28 rfl (lv_at hl 3 rfl) ?_
      obtain ⟨b_5, h⟩ := ck_s h
      refine va_iald hx hb hK.1 hP 6 1 rfl rfl b_5 dX1_setLimits_29 ?_
      exact w_X1_setLimits_30 M ih h hm hP hD hS hl
    · replace h := it_p c_4 h
      refine lv_iconst (v := 0) hx hb dX1_setLimits_20 (by decide) ?_
      refine lv_goto (tgt := 30) hx hb dX1_setLimits_21 (by decide) ?_
      exact w_X1_setLimits_30 M ih h hm hP hD hS hl
set_option maxHeartbeats 4000000 in
set_option maxRecDepth 100000 in
theorem w_X1_setLimits_0 {p : Program} {l : Launch} {e : Env} {s : State} {m : MethodId} {args : Array Value} {below : List Frame} {meth : Method} {c : Code} {A : Nat → Prop} {D : va_G} {cy : Nat → ClassId} {b0 : Nat → Nat} {x1 : Int32} {fu : Nat} {rr : YS} (M : kM p s m args meth c cX1_setLimits 4 none RX1 wsX1_setLimits A D cy) (ih : I_X1_setLimits p l e s m args below meth c A D cy b0 x1 fu rr) {yv : YS} {oo : (YS × Int32 × Int32) ⊕ (YS)} (h : f_X1_setLimits_0 yv x1 = some oo) (hm : lpo (st_X1_setLimits x1) fu oo rr) {H : Heap} {locs : List Loc} {ls : Array Slot} (hP : va_P D vwCl (wY cy b0 yv []) H) (hD : va_D A (wY cy b0 yv [])) (hS : va_S A s.heap H locs) (hl : lv_has ls 4 [(0, .ref (b0 0)), (1, .int x1)]) : W p l e { frames := 1, cells := 0, slots := 0, locals := 21 } s m args below meth c H locs 0 0 (MQ below (qV D (wY cy b0 rr []) A) args s 0 0 A) (F0 m 0 ls []) := by
  obtain ⟨hx, hb, hr, hml, hown, hts, hlk, hA, hK⟩ := id M
  unfold f_X1_setLimits_0 at h
  refine lv_iconst (v := 1) hx hb dX1_setLimits_0 (by decide) ?_
  refine lv_istore_n (lv' := [(2, .int (1 : Int32)), (0, .ref (b0 0)), (1, .int x1)]) hx hb dX1_setLimits_1 rfl hl (by decide) rfl (fun ls hl => ?_)
  refine lv_iconst (v := 0) hx hb dX1_setLimits_2 (by decide) ?_
  refine lv_istore_n (lv' := [(3, .int (0 : Int32)), (2, .int (1 : Int32)), (0, .ref (b0 0)), (1, .int x1)]) hx hb dX1_setLimits_3 rfl hl (by decide) rfl (fun ls hl => ?_)
  cases h
  exact ih yv (1 : Int32) (0 : Int32) _ _ _ hm hP hD hS (lv_sub hl [2, 3, 1, 0] rfl)
theorem wl_X1_setLimits {p : Program} {l : Launch} {e : Env} {s : State} {m : MethodId} {args : Array Value} {below : List Frame} {meth : Method} {c : Code} {A : Nat → Prop} {D : va_G} {cy : Nat → ClassId} {b0 : Nat → Nat} {x1 : Int32} {rr : YS} (M : kM p s m args meth c cX1_setLimits 4 none RX1 wsX1_setLimits A D cy) : ∀ fu : Nat, I_X1_setLimits p l e s m args below meth c A D cy b0 x1 fu rr := by
  intro fu
  induction fu with
  | zero => exact (fun _ _ _ _ _ _ h => by cases h)
  | succ fu ih =>
    exact fun yv x2 x3 H locs ls h hP hD hS hl => by
      obtain ⟨o1, h1, h2⟩ := lpn_s h
      exact w_X1_setLimits_4 M ih h1 h2 hP hD hS hl
theorem c_X1_setLimits {l : Launch} {D : va_G} {cy : Nat → ClassId} (b0 : Nat → Nat) {yv : YS} {x1 : Int32} {rr : YS} (h : f_X1_setLimits yv x1 = some rr) : CV l D cy yX1_setLimits wsX1_setLimits { frames := 1, cells := 0, slots := 0, locals := 21 } [.ref (b0 0), .int x1] (wY cy b0 yv []) (wY cy b0 rr []) := by
  refine kofV (cc := cX1_setLimits) (maxL := 4) (ret := none) (by decide) rfl (Nat.le_of_ble_eq_true rfl) ?_
  intro p e s m below meth c A M ls hl hP hD hS
  obtain ⟨o1, fu, h1, h2⟩ := rnx_s h
  exact w_X1_setLimits_0 M (wl_X1_setLimits M fu) h1 h2 hP hD hS hl
theorem eX1_setLimits : yX1_setLimits.cls ≠ "java/lang/invoke/MethodHandle" ∧ yX1_setLimits.cls ≠ "java/lang/invoke/VarHandle" ∧ (parseMethodDescriptor yX1_setLimits.desc).map (fun d => d.parameters.length) = some 1 := by decide +kernel
theorem iX1_mark_X1 : ∀ w ∈ u_ws RX1 TX1 10, w ∈ wsX1_mark := by decide +kernel
theorem mX1_mark_1 : Cond.fieldLink RX1 36 "LentPiles$Payings" "layer" "[J" ∈ wsX1_mark := by decide +kernel
set_option maxHeartbeats 4000000 in
set_option maxRecDepth 100000 in
theorem w_X1_mark_0 {p : Program} {l : Launch} {e : Env} {s : State} {m : MethodId} {args : Array Value} {below : List Frame} {meth : Method} {c : Code} {A : Nat → Prop} {D : va_G} {cy : Nat → ClassId} {b0 : Nat → Nat} {x1 : Int32} {rr : YS} (M : kM p s m args meth c cX1_mark 2 none RX1 wsX1_mark A D cy) {yv : YS} (h : f_X1_mark yv x1 = some rr) {H : Heap} {locs : List Loc} {ls : Array Slot} (hP : va_P D vwCl (wY cy b0 yv []) H) (hD : va_D A (wY cy b0 yv [])) (hS : va_S A s.heap H locs) (hl : lv_has ls 2 [(0, .ref (b0 0)), (1, .int x1)]) : W p l e { frames := 0, cells := 0, slots := 0, locals := 0 } s m args below meth c H locs 0 0 (MQ below (qV D (wY cy b0 rr []) A) args s 0 0 A) (F0 m 0 ls []) := by
  obtain ⟨hx, hb, hr, hml, hown, hts, hlk, hA, hK⟩ := id M
  unfold f_X1_mark at h
  refine lv_iload_n hx hb dX1_mark_0 rfl (lv_at hl 1 rfl) ?_
  refine lv_if_lt (tgt := 29) hx hb dX1_mark_1 (by decide) (fun c_1 => ?_) (fun c_1 => ?_)
  · replace h := it_p c_1 h
    cases h
    exact kretV hx hb hr hlk hP hS dX1_mark_29
  · replace h := it_n c_1 h
    refine lv_iload_n hx hb dX1_mark_4 rfl (lv_at hl 1 rfl) ?_
    refine lv_sipush (v := 7776) hx hb dX1_mark_5 (by decide) ?_
    refine lv_icmp_ge (tgt := 29) hx hb dX1_mark_8 (by decide) (fun c_2 => ?_) (fun c_2 => ?_)
    · replace h := it_p c_2 h
      cases h
      exact kretV hx hb hr hlk hP hS dX1_mark_29
    · replace h := it_n c_2 h
      refine lv_aload_n hx hb dX1_mark_11 rfl (lv_at hl 0 rfl) ?_
      refine va_get (D := D) (ci := 1) (v := .ref (b0 9)) (C := RX1) (T := TX1) (N := 10) hx hb hts iX1_mark_X1 hown hK.1 hP 0 rfl rfl 8 (by decide) (hts _ mX1_mark_1) (fun _ h9 => h9) rfl dX1_mark_12 ?_
      refine lv_iload_n hx hb dX1_mark_15 rfl (lv_at hl 1 rfl) ?_
      refine lv_bipush (v := 64) hx hb dX1_mark_16 (by decide) ?_
      refine lv_idiv hx hb dX1_mark_18 (by decide) ?_
      refine lv_dup2_11 hx hb dX1_mark_19 rfl rfl ?_
      obtain ⟨b_3, h⟩ := ck_s h
      refine va_lald hx hb hK.1 hP 9 2 rfl rfl b_3 dX1_mark_20 ?_
      refine lv_lconst (v := 1) hx hb dX1_mark_21 (by decide) ?_
      refine lv_iload_n hx hb dX1_mark_22 rfl (lv_at hl 1 rfl) ?_
      refine lv_bipush (v := 64) hx hb dX1_mark_23 (by decide) ?_
      refine lv_irem hx hb dX1_mark_25 (by decide) ?_
      refine lv_lshl hx hb dX1_mark_26 rfl ?_
      refine lv_lor hx hb dX1_mark_27 ?_
      refine va_last hx hb hK.1 hP hD hS 9 2 rfl rfl b_3 dX1_mark_28 (fun H locs hP hD hS => ?_)
      obtain ⟨yv_4, eyv_4⟩ : ∃ z : YS, z = (yv.1, yv.2.1, yv.2.2.1, yv.2.2.2.1, yv.2.2.2.2.1, yv.2.2.2.2.2.1, yv.2.2.2.2.2.2.1, yv.2.2.2.2.2.2.2.1, (vp_updL yv.2.2.2.2.2.2.2.2.1 (x1 / (64 : Int32)).toNatClampNeg ((yv.2.2.2.2.2.2.2.2.1 (x1 / (64 : Int32)).toNatClampNeg) ||| ((1 : Int64) <<< ((x1 - x1 / (64 : Int32) * (64 : Int32)).toInt64 &&& 63)))), yv.2.2.2.2.2.2.2.2.2) := ⟨_, rfl⟩
      replace h := nm_s h eyv_4
      have hP : va_P D vwCl (wY cy b0 yv_4 []) H := by subst eyv_4; exact hP
      have hD : va_D A (wY cy b0 yv_4 []) := hD.lk [(b0 0), (b0 1), (b0 2), (b0 3), (b0 4), (b0 5), (b0 6), (b0 7), (b0 8), (b0 9)] rfl rfl
      cases h
      exact kretV hx hb hr hlk hP hS dX1_mark_29
theorem c_X1_mark {l : Launch} {D : va_G} {cy : Nat → ClassId} (b0 : Nat → Nat) {yv : YS} {x1 : Int32} {rr : YS} (h : f_X1_mark yv x1 = some rr) : CV l D cy yX1_mark wsX1_mark { frames := 0, cells := 0, slots := 0, locals := 0 } [.ref (b0 0), .int x1] (wY cy b0 yv []) (wY cy b0 rr []) := by
  refine kofV (cc := cX1_mark) (maxL := 2) (ret := none) (by decide) rfl (Nat.le_of_ble_eq_true rfl) ?_
  intro p e s m below meth c A M ls hl hP hD hS
  exact w_X1_mark_0 M h hP hD hS hl
theorem eX1_mark : yX1_mark.cls ≠ "java/lang/invoke/MethodHandle" ∧ yX1_mark.cls ≠ "java/lang/invoke/VarHandle" ∧ (parseMethodDescriptor yX1_mark.desc).map (fun d => d.parameters.length) = some 1 := by decide +kernel
theorem iX1_standAt_X1 : ∀ w ∈ u_ws RX1 TX1 10, w ∈ wsX1_standAt := by decide +kernel
theorem mX1_standAt_1 : Cond.fieldLink RX1 11 "LentPiles$Payings" "firstPurse" "[I" ∈ wsX1_standAt := by decide +kernel
theorem mX1_standAt_2 : Cond.fieldLink RX1 15 "LentPiles$Payings" "purse" "[I" ∈ wsX1_standAt := by decide +kernel
theorem mX1_standAt_3 : Cond.methodLink RX1 121 arraycopyName ∈ wsX1_standAt := by decide +kernel
theorem mX1_standAt_4 : Cond.native arraycopyName ∈ wsX1_standAt := by decide +kernel
theorem mX1_standAt_5 : Cond.static arraycopyName ∈ wsX1_standAt := by decide +kernel
theorem mX1_standAt_6 : Cond.initialized "java/lang/System" ∈ wsX1_standAt := by decide +kernel
theorem mX1_standAt_7 : Cond.fieldLink RX1 27 "LentPiles$Payings" "paid" "[I" ∈ wsX1_standAt := by decide +kernel
theorem mX1_standAt_8 : Cond.fieldLink RX1 30 "LentPiles$Payings" "limit" "[I" ∈ wsX1_standAt := by decide +kernel
def I_X1_standAt (p : Program) (l : Launch) (e : Env) (s : State) (m : MethodId) (args : Array Value) (below : List Frame) (meth : Method) (c : Code) (A : Nat → Prop) (D : va_G) (cy : Nat → ClassId) (b0 : Nat → Nat) (x1 : Int32) (fu : Nat) (rr : YS) : Prop := (∀ (yv : YS) (x2 : Int32) (x3 : Int32) (H : Heap) (locs : List Loc) (ls : Array Slot), lpn (st_X1_standAt x1) fu (.inl (yv, x2, x3)) = some rr → va_P D vwCl (wY cy b0 yv []) H → va_D A (wY cy b0 yv []) → va_S A s.heap H locs → lv_has ls 7 [(0, .ref (b0 0)), (1, .int x1), (2, .int x2), (3, .int x3)] → W p l e { frames := 2, cells := 0, slots := 0, locals := 43 } s m args below meth c H locs 0 0 (MQ below (qV D (wY cy b0 rr []) A) args s 0 0 A) (F0 m 27 ls [])) ∧ (∀ (yv : YS) (x2 : Int32) (x3 : Int32) (x5 : Int32) (x6 : Int32) (H : Heap) (locs : List Loc) (ls : Array Slot), lpn (st_X1_standAt x1) fu (.inr (yv, x2, x3, x5, x6)) = some rr → va_P D vwCl (wY cy b0 yv []) H → va_D A (wY cy b0 yv []) → va_S A s.heap H locs → lv_has ls 7 [(0, .ref (b0 0)), (1, .int x1), (2, .int x2), (3, .int x3), (5, .int x5), (6, .int x6)] → W p l e { frames := 2, cells := 0, slots := 0, locals := 43 } s m args below meth c H locs 0 0 (MQ below (qV D (wY cy b0 rr []) A) args s 0 0 A) (F0 m 62 ls []))
set_option maxHeartbeats 4000000 in
set_option maxRecDepth 100000 in
theorem w_X1_standAt_62 {p : Program} {l : Launch} {e : Env} {s : State} {m : MethodId} {args : Array Value} {below : List Frame} {meth : Method} {c : Code} {A : Nat → Prop} {D : va_G} {cy : Nat → ClassId} {b0 : Nat → Nat} {x1 : Int32} {fu : Nat} {rr : YS} (M : kM p s m args meth c cX1_standAt 7 none RX1 wsX1_standAt A D cy) (ih : I_X1_standAt p l e s m args below meth c A D cy b0 x1 fu rr) {yv : YS} {x2 : Int32} {x3 : Int32} {x5 : Int32} {x6 : Int32} {oo : ((YS × Int32 × Int32) ⊕ (YS × Int32 × Int32 × Int32 × Int32)) ⊕ (YS)} (h : f_X1_standAt_62 x1 yv x2 x3 x5 x6 = some oo) (hm : lpo (st_X1_standAt x1) fu oo rr) {H : Heap} {locs : List Loc} {ls : Array Slot} (hP : va_P D vwCl (wY cy b0 yv []) H) (hD : va_D A (wY cy b0 yv [])) (hS : va_S A s.heap H locs) (hl : lv_has ls 7 [(0, .ref (b0 0)), (1, .int x1), (2, .int x2), (3, .int x3), (5, .int x5), (6, .int x6)]) : W p l e { frames := 2, cells := 0, slots := 0, locals := 43 } s m args below meth c H locs 0 0 (MQ below (qV D (wY cy b0 rr []) A) args s 0 0 A) (F0 m 62 ls []) := by
  obtain ⟨hx, hb, hr, hml, hown, hts, hlk, hA, hK⟩ := id M
  unfold f_X1_standAt_62 at h
  refine lv_iload hx hb dX1_standAt_62 (lv_at hl 5 rfl) ?_
  refine lv_iload hx hb dX1_standAt_64 (lv_at hl 4 rfl) ?_
  refine lv_icmp_ge (tgt := 80) hx hb dX1_standAt_66 (by decide) (fun c_1 => ?_) (fun c_1 => ?_)
  · replace h := it_p c_1 h
    obtain ⟨x3_2, ex3_2⟩ : ∃ z : Int32, z = (x3 + (1 : Int32)) := ⟨_, rfl⟩
    replace h := nm_s h ex3_2
    refine lv_iinc (v := x3_2) (lv' := [(3, .int x3_2), (0, .ref (b0 0)), (1, .int x1), (2, .int x2), (5, .int x5), (6, .int x6)]) hx hb dX1_standAt_80 hl (k := 3) rfl (by rw [ex3_2]; rfl) (by decide) rfl (fun ls hl => ?_)
    refine lv_goto (tgt := 27) hx hb dX1_standAt_83 (by decide) ?_
    cases h
    exact ih.1 yv x2 x3_2 _ _ _ hm hP hD hS (lv_sub hl [1, 2, 3, 0] rfl)
  · replace h := it_n c_1 h
    refine lv_aload_n hx hb dX1_standAt_69 rfl (lv_at hl 0 rfl) ?_
    refine lv_iload_n hx hb dX1_standAt_70 rfl (lv_at hl 3 rfl) ?_
    obtain ⟨r_3, hr_3, h⟩ := bn_s h
    refine kcVv (As := [.int x3]) (rest := []) (ws' := (wY cy b0 r_3 [])) ⟨hx, hb, hml, hown, hts⟩ (cwV 1 hts gX1_standAt_X1_pay rfl rfl rfl ⟨rfl, eX1_pay⟩ ⟨Nat.le_of_ble_eq_true rfl, Nat.le_of_ble_eq_true rfl⟩) (c_X1_pay b0 hr_3) hK hP hD hS hA [0, 1, 2, 3, 4, 5, 6, 7, 8, 9] [] (by decide) rfl rfl 1 rfl rfl [(b0 0), (b0 1), (b0 2), (b0 3), (b0 4), (b0 5), (b0 6), (b0 7), (b0 8), (b0 9)] rfl rfl rfl [] rfl rfl rfl rfl hl.1 rfl (Nat.le_of_ble_eq_true rfl) dX1_standAt_71 (fun H locs hP hD hS => ?_)
    obtain ⟨x6_4, ex6_4⟩ : ∃ z : Int32, z = (x6 + (1 : Int32)) := ⟨_, rfl⟩
    replace h := nm_s h ex6_4
    refine lv_iinc (v := x6_4) (lv' := [(6, .int x6_4), (0, .ref (b0 0)), (1, .int x1), (2, .int x2), (3, .int x3), (5, .int x5)]) hx hb dX1_standAt_74 hl (k := 5) rfl (by rw [ex6_4]; rfl) (by decide) rfl (fun ls hl => ?_)
    refine lv_goto (tgt := 62) hx hb dX1_standAt_77 (by decide) ?_
    cases h
    exact ih.2 r_3 x2 x3 x5 x6_4 _ _ _ hm hP hD hS (lv_sub hl [1, 2, 3, 4, 5, 0] rfl)
set_option maxHeartbeats 4000000 in
set_option maxRecDepth 100000 in
theorem w_X1_standAt_27 {p : Program} {l : Launch} {e : Env} {s : State} {m : MethodId} {args : Array Value} {below : List Frame} {meth : Method} {c : Code} {A : Nat → Prop} {D : va_G} {cy : Nat → ClassId} {b0 : Nat → Nat} {x1 : Int32} {fu : Nat} {rr : YS} (M : kM p s m args meth c cX1_standAt 7 none RX1 wsX1_standAt A D cy) (ih : I_X1_standAt p l e s m args below meth c A D cy b0 x1 fu rr) {yv : YS} {x2 : Int32} {x3 : Int32} {oo : ((YS × Int32 × Int32) ⊕ (YS × Int32 × Int32 × Int32 × Int32)) ⊕ (YS)} (h : f_X1_standAt_27 x1 yv x2 x3 = some oo) (hm : lpo (st_X1_standAt x1) fu oo rr) {H : Heap} {locs : List Loc} {ls : Array Slot} (hP : va_P D vwCl (wY cy b0 yv []) H) (hD : va_D A (wY cy b0 yv [])) (hS : va_S A s.heap H locs) (hl : lv_has ls 7 [(0, .ref (b0 0)), (1, .int x1), (2, .int x2), (3, .int x3)]) : W p l e { frames := 2, cells := 0, slots := 0, locals := 43 } s m args below meth c H locs 0 0 (MQ below (qV D (wY cy b0 rr []) A) args s 0 0 A) (F0 m 27 ls []) := by
  obtain ⟨hx, hb, hr, hml, hown, hts, hlk, hA, hK⟩ := id M
  unfold f_X1_standAt_27 at h
  refine lv_iload_n hx hb dX1_standAt_27 rfl (lv_at hl 3 rfl) ?_
  refine lv_bipush (v := 6) hx hb dX1_standAt_28 (by decide) ?_
  refine lv_icmp_ge (tgt := 86) hx hb dX1_standAt_30 (by decide) (fun c_1 => ?_) (fun c_1 => ?_)
  · replace h := it_p c_1 h
    cases h
    have hm : _ = rr := hm
    subst hm
    exact kretV hx hb hr hlk hP hS dX1_standAt_86
  · replace h := it_n c_1 h
    refine lv_aload_n hx hb dX1_standAt_33 rfl (lv_at hl 0 rfl) ?_
    refine va_get (D := D) (ci := 1) (v := .ref (b0 7)) (C := RX1) (T := TX1) (N := 10) hx hb hts iX1_standAt_X1 hown hK.1 hP 0 rfl rfl 6 (by decide) (hts _ mX1_standAt_8) (fun _ h9 => h9) rfl dX1_standAt_34 ?_
    refine lv_iload_n hx hb dX1_standAt_37 rfl (lv_at hl 3 rfl) ?_
    obtain ⟨b_2, h⟩ := ck_s h
    refine va_iald hx hb hK.1 hP 7 1 rfl rfl b_2 dX1_standAt_38 ?_
    refine lv_iconst (v := 1) hx hb dX1_standAt_39 (by decide) ?_
    refine lv_iadd hx hb dX1_standAt_40 ?_
    refine lv_topi (fun x4_3 ex4_3 => ?_)
    replace h := nm_s h ex4_3
    refine lv_istore (lv' := [(4, .int x4_3), (0, .ref (b0 0)), (1, .int x1), (2, .int x2), (3, .int x3)]) hx hb dX1_standAt_41 hl (by decide) rfl (fun ls hl => ?_)
    refine lv_iload hx hb dX1_standAt_43 (lv_at hl 0 rfl) ?_
    refine lv_if_le (tgt := 80) hx hb dX1_standAt_45 (by decide) (fun c_4 => ?_) (fun c_4 => ?_)
    · replace h := it_p c_4 h
      obtain ⟨x3_5, ex3_5⟩ : ∃ z : Int32, z = (x3 + (1 : Int32)) := ⟨_, rfl⟩
      replace h := nm_s h ex3_5
      refine lv_iinc (v := x3_5) (lv' := [(3, .int x3_5), (4, .int x4_3), (0, .ref (b0 0)), (1, .int x1), (2, .int x2)]) hx hb dX1_standAt_80 hl (k := 4) rfl (by rw [ex3_5]; rfl) (by decide) rfl (fun ls hl => ?_)
      refine lv_goto (tgt := 27) hx hb dX1_standAt_83 (by decide) ?_
      cases h
      exact ih.1 yv x2 x3_5 _ _ _ hm hP hD hS (lv_sub hl [2, 3, 4, 0] rfl)
    · replace h := it_n c_4 h
      refine lv_iload_n hx hb dX1_standAt_48 rfl (lv_at hl 3 rfl) ?_
      refine lv_iload hx hb dX1_standAt_49 (lv_at hl 0 rfl) ?_
      obtain ⟨z_6, h⟩ := dz_s h
      refine lv_irem hx hb dX1_standAt_51 z_6 ?_
      refine lv_topi (fun x5_7 ex5_7 => ?_)
      replace h := nm_s h ex5_7
      refine lv_istore (lv' := [(5, .int x5_7), (4, .int x4_3), (0, .ref (b0 0)), (1, .int x1), (2, .int x2), (3, .int x3)]) hx hb dX1_standAt_52 hl (by decide) rfl (fun ls hl => ?_)
      refine lv_iload_n hx hb dX1_standAt_54 rfl (lv_at hl 4 rfl) ?_
      refine lv_iload hx hb dX1_standAt_55 (lv_at hl 1 rfl) ?_
      obtain ⟨z_8, h⟩ := dz_s h
      refine lv_idiv hx hb dX1_standAt_57 z_8 ?_
      refine lv_topi (fun x2_9 ex2_9 => ?_)
      replace h := nm_s h ex2_9
      refine lv_istore_n (lv' := [(2, .int x2_9), (5, .int x5_7), (4, .int x4_3), (0, .ref (b0 0)), (1, .int x1), (3, .int x3)]) hx hb dX1_standAt_58 rfl hl (by decide) rfl (fun ls hl => ?_)
      refine lv_iconst (v := 0) hx hb dX1_standAt_59 (by decide) ?_
      refine lv_istore (lv' := [(6, .int (0 : Int32)), (2, .int x2_9), (5, .int x5_7), (4, .int x4_3), (0, .ref (b0 0)), (1, .int x1), (3, .int x3)]) hx hb dX1_standAt_60 hl (by decide) rfl (fun ls hl => ?_)
      cases h
      exact ih.2 yv x2_9 x3 x5_7 (0 : Int32) _ _ _ hm hP hD hS (lv_sub hl [4, 5, 1, 6, 2, 0] rfl)
set_option maxHeartbeats 4000000 in
set_option maxRecDepth 100000 in
theorem w_X1_standAt_0 {p : Program} {l : Launch} {e : Env} {s : State} {m : MethodId} {args : Array Value} {below : List Frame} {meth : Method} {c : Code} {A : Nat → Prop} {D : va_G} {cy : Nat → ClassId} {b0 : Nat → Nat} {x1 : Int32} {fu : Nat} {rr : YS} (M : kM p s m args meth c cX1_standAt 7 none RX1 wsX1_standAt A D cy) (ih : I_X1_standAt p l e s m args below meth c A D cy b0 x1 fu rr) {yv : YS} {oo : ((YS × Int32 × Int32) ⊕ (YS × Int32 × Int32 × Int32 × Int32)) ⊕ (YS)} (h : f_X1_standAt_0 yv x1 = some oo) (hm : lpo (st_X1_standAt x1) fu oo rr) {H : Heap} {locs : List Loc} {ls : Array Slot} (hP : va_P D vwCl (wY cy b0 yv []) H) (hD : va_D A (wY cy b0 yv [])) (hS : va_S A s.heap H locs) (hl : lv_has ls 7 [(0, .ref (b0 0)), (1, .int x1)]) : W p l e { frames := 2, cells := 0, slots := 0, locals := 43 } s m args below meth c H locs 0 0 (MQ below (qV D (wY cy b0 rr []) A) args s 0 0 A) (F0 m 0 ls []) := by
  obtain ⟨hx, hb, hr, hml, hown, hts, hlk, hA, hK⟩ := id M
  unfold f_X1_standAt_0 at h
  refine lv_aload_n hx hb dX1_standAt_0 rfl (lv_at hl 0 rfl) ?_
  refine va_get (D := D) (ci := 1) (v := .ref (b0 1)) (C := RX1) (T := TX1) (N := 10) hx hb hts iX1_standAt_X1 hown hK.1 hP 0 rfl rfl 0 (by decide) (hts _ mX1_standAt_1) (fun _ h9 => h9) rfl dX1_standAt_1 ?_
  refine lv_iconst (v := 0) hx hb dX1_standAt_4 (by decide) ?_
  refine lv_aload_n hx hb dX1_standAt_5 rfl (lv_at hl 0 rfl) ?_
  refine va_get (D := D) (ci := 1) (v := .ref (b0 2)) (C := RX1) (T := TX1) (N := 10) hx hb hts iX1_standAt_X1 hown hK.1 hP 0 rfl rfl 1 (by decide) (hts _ mX1_standAt_2) (fun _ h9 => h9) rfl dX1_standAt_6 ?_
  refine lv_iconst (v := 0) hx hb dX1_standAt_9 (by decide) ?_
  refine lv_bipush (v := 6) hx hb dX1_standAt_10 (by decide) ?_
  refine va_copyi hx hb (hml.trans hl.1.symm) hown (hts _ mX1_standAt_3) (hts _ mX1_standAt_4) (hts _ mX1_standAt_5) (hts _ mX1_standAt_6) hK.1 hP hD hS 1 2 1 1 rfl rfl rfl rfl rfl (by decide) (by decide) (by decide) (by decide) (by decide) (fun _ _ => rfl) (Nat.le_of_ble_eq_true rfl) (by decide) dX1_standAt_12 (fun H locs hP hD hS => ?_)
  obtain ⟨yv_1, eyv_1⟩ : ∃ z : YS, z = (yv.1, (va_cpy yv.1 yv.2.1 0 0 6), yv.2.2) := ⟨_, rfl⟩
  replace h := nm_s h eyv_1
  have hP : va_P D vwCl (wY cy b0 yv_1 []) H := by subst eyv_1; exact hP
  have hD : va_D A (wY cy b0 yv_1 []) := hD.lk [(b0 0), (b0 1), (b0 2), (b0 3), (b0 4), (b0 5), (b0 6), (b0 7), (b0 8), (b0 9)] rfl rfl
  refine lv_aload_n hx hb dX1_standAt_15 rfl (lv_at hl 0 rfl) ?_
  refine va_get (D := D) (ci := 1) (v := .ref (b0 6)) (C := RX1) (T := TX1) (N := 10) hx hb hts iX1_standAt_X1 hown hK.1 hP 0 rfl rfl 5 (by decide) (hts _ mX1_standAt_7) (fun _ h9 => h9) rfl dX1_standAt_16 ?_
  refine lv_iconst (v := 0) hx hb dX1_standAt_19 (by decide) ?_
  obtain ⟨r_2, hr_2, h⟩ := bn_s h
  refine kcSv (As := [.ref (b0 6), .int (0 : Int32)]) (rest := []) (ws' := (wY cy b0 (yv_1.1, yv_1.2.1, yv_1.2.2.1, yv_1.2.2.2.1, yv_1.2.2.2.2.1, r_2, yv_1.2.2.2.2.2.2) [])) ⟨hx, hb, hml, hown, hts⟩ (va_cwS 2 hts gX1_standAt_J7_fill_53178 rfl rfl rfl eJ7_fill_53178 ⟨Nat.le_of_ble_eq_true rfl, Nat.le_of_ble_eq_true rfl⟩) (c_J7_fill_53178 (b0 6) hr_2) hK hP hD hS hA [6] [0, 1, 2, 3, 4, 5, 7, 8, 9] (by decide) rfl rfl [(b0 0), (b0 1), (b0 2), (b0 3), (b0 4), (b0 5), (b0 6), (b0 7), (b0 8), (b0 9)] rfl rfl rfl (((b0 0), .inr (1, [.ref (b0 1), .ref (b0 2), .ref (b0 3), .ref (b0 4), .ref (b0 5), .ref (b0 6), .ref (b0 7), .ref (b0 8), .ref (b0 9), .int yv_1.2.2.2.2.2.2.2.2.2])) :: (((b0 1), .inl (cy 1, 6, .inl yv_1.1)) :: (((b0 2), .inl (cy 1, 6, .inl yv_1.2.1)) :: (((b0 3), .inl (cy 1, 6, .inl yv_1.2.2.1)) :: (((b0 4), .inl (cy 1, 30, .inl yv_1.2.2.2.1)) :: (((b0 5), .inl (cy 1, 30, .inl yv_1.2.2.2.2.1)) :: (((b0 7), .inl (cy 1, 6, .inl yv_1.2.2.2.2.2.2.1)) :: (((b0 8), .inl (cy 1, 6, .inl yv_1.2.2.2.2.2.2.2.1)) :: (((b0 9), .inl (cy 2, 122, .inr (.inl yv_1.2.2.2.2.2.2.2.2.1))) :: []))))))))) rfl rfl rfl rfl hl.1 rfl (Nat.le_of_ble_eq_true rfl) dX1_standAt_20 (fun H locs hP hD hS => ?_)
  obtain ⟨yv_3, eyv_3⟩ : ∃ z : YS, z = (yv_1.1, yv_1.2.1, yv_1.2.2.1, yv_1.2.2.2.1, yv_1.2.2.2.2.1, r_2, yv_1.2.2.2.2.2.2) := ⟨_, rfl⟩
  replace h := nm_s h eyv_3
  have hP : va_P D vwCl (wY cy b0 yv_3 []) H := by subst eyv_3; exact hP
  have hD : va_D A (wY cy b0 yv_3 []) := hD.lk [(b0 0), (b0 1), (b0 2), (b0 3), (b0 4), (b0 5), (b0 6), (b0 7), (b0 8), (b0 9)] rfl rfl
  refine lv_iload_n hx hb dX1_standAt_23 rfl (lv_at hl 1 rfl) ?_
  refine lv_istore_n (lv' := [(2, .int x1), (0, .ref (b0 0)), (1, .int x1)]) hx hb dX1_standAt_24 rfl hl (by decide) rfl (fun ls hl => ?_)
  refine lv_iconst (v := 0) hx hb dX1_standAt_25 (by decide) ?_
  refine lv_istore_n (lv' := [(3, .int (0 : Int32)), (2, .int x1), (0, .ref (b0 0)), (1, .int x1)]) hx hb dX1_standAt_26 rfl hl (by decide) rfl (fun ls hl => ?_)
  cases h
  exact ih.1 yv_3 x1 (0 : Int32) _ _ _ hm hP hD hS (lv_sub hl [2, 3, 1, 0] rfl)
theorem wl_X1_standAt {p : Program} {l : Launch} {e : Env} {s : State} {m : MethodId} {args : Array Value} {below : List Frame} {meth : Method} {c : Code} {A : Nat → Prop} {D : va_G} {cy : Nat → ClassId} {b0 : Nat → Nat} {x1 : Int32} {rr : YS} (M : kM p s m args meth c cX1_standAt 7 none RX1 wsX1_standAt A D cy) : ∀ fu : Nat, I_X1_standAt p l e s m args below meth c A D cy b0 x1 fu rr := by
  intro fu
  induction fu with
  | zero => exact ⟨(fun _ _ _ _ _ _ h => by cases h), (fun _ _ _ _ _ _ _ _ h => by cases h)⟩
  | succ fu ih =>
    refine ⟨?_, ?_⟩
    · intro yv x2 x3 H locs ls h hP hD hS hl
      obtain ⟨o1, h1, h2⟩ := lpn_s h
      exact w_X1_standAt_27 M ih h1 h2 hP hD hS hl
    · intro yv x2 x3 x5 x6 H locs ls h hP hD hS hl
      obtain ⟨o1, h1, h2⟩ := lpn_s h
      exact w_X1_standAt_62 M ih h1 h2 hP hD hS hl
theorem c_X1_standAt {l : Launch} {D : va_G} {cy : Nat → ClassId} (b0 : Nat → Nat) {yv : YS} {x1 : Int32} {rr : YS} (h : f_X1_standAt yv x1 = some rr) : CV l D cy yX1_standAt wsX1_standAt { frames := 2, cells := 0, slots := 0, locals := 43 } [.ref (b0 0), .int x1] (wY cy b0 yv []) (wY cy b0 rr []) := by
  refine kofV (cc := cX1_standAt) (maxL := 7) (ret := none) (by decide) rfl (Nat.le_of_ble_eq_true rfl) ?_
  intro p e s m below meth c A M ls hl hP hD hS
  obtain ⟨o1, fu, h1, h2⟩ := rnx_s h
  exact w_X1_standAt_0 M (wl_X1_standAt M fu) h1 h2 hP hD hS hl
theorem eX1_standAt : yX1_standAt.cls ≠ "java/lang/invoke/MethodHandle" ∧ yX1_standAt.cls ≠ "java/lang/invoke/VarHandle" ∧ (parseMethodDescriptor yX1_standAt.desc).map (fun d => d.parameters.length) = some 1 := by decide +kernel
theorem iX1_leave_X1 : ∀ w ∈ u_ws RX1 TX1 10, w ∈ wsX1_leave := by decide +kernel
theorem mX1_leave_1 : Cond.fieldLink RX1 27 "LentPiles$Payings" "paid" "[I" ∈ wsX1_leave := by decide +kernel
theorem mX1_leave_2 : Cond.fieldLink RX1 30 "LentPiles$Payings" "limit" "[I" ∈ wsX1_leave := by decide +kernel
theorem mX1_leave_3 : Cond.fieldLink RX1 33 "LentPiles$Payings" "weight" "[I" ∈ wsX1_leave := by decide +kernel
def I_X1_leave (p : Program) (l : Launch) (e : Env) (s : State) (m : MethodId) (args : Array Value) (below : List Frame) (meth : Method) (c : Code) (A : Nat → Prop) (D : va_G) (cy : Nat → ClassId) (b0 : Nat → Nat) (x1 : Int32) (x2 : Int32) (x3 : Int32) (fu : Nat) (rr : Int32 × YS) : Prop := (∀ (yv : YS) (x4 : Int32) (H : Heap) (locs : List Loc) (ls : Array Slot), lpn (st_X1_leave x1 x2 x3) fu (.inl (yv, x4)) = some rr → va_P D vwCl (wY cy b0 yv []) H → va_D A (wY cy b0 yv []) → va_S A s.heap H locs → lv_has ls 5 [(0, .ref (b0 0)), (1, .int x1), (2, .int x2), (3, .int x3), (4, .int x4)] → W p l e { frames := 3, cells := 0, slots := 0, locals := 69 } s m args below meth c H locs 0 0 (MQ below (qI D (wY cy b0 rr.2 []) (rr.1) A) args s 0 0 A) (F0 m 8 ls [])) ∧ (∀ (yv : YS) (x4 : Int32) (H : Heap) (locs : List Loc) (ls : Array Slot), lpn (st_X1_leave x1 x2 x3) fu (.inr (yv, x4)) = some rr → va_P D vwCl (wY cy b0 yv []) H → va_D A (wY cy b0 yv []) → va_S A s.heap H locs → lv_has ls 5 [(0, .ref (b0 0)), (1, .int x1), (2, .int x2), (3, .int x3), (4, .int x4)] → W p l e { frames := 3, cells := 0, slots := 0, locals := 69 } s m args below meth c H locs 0 0 (MQ below (qI D (wY cy b0 rr.2 []) (rr.1) A) args s 0 0 A) (F0 m 48 ls []))
set_option maxHeartbeats 4000000 in
set_option maxRecDepth 100000 in
theorem w_X1_leave_48 {p : Program} {l : Launch} {e : Env} {s : State} {m : MethodId} {args : Array Value} {below : List Frame} {meth : Method} {c : Code} {A : Nat → Prop} {D : va_G} {cy : Nat → ClassId} {b0 : Nat → Nat} {x1 : Int32} {x2 : Int32} {x3 : Int32} {fu : Nat} {rr : Int32 × YS} (M : kM p s m args meth c cX1_leave 5 (some .boolean) RX1 wsX1_leave A D cy) (ih : I_X1_leave p l e s m args below meth c A D cy b0 x1 x2 x3 fu rr) {yv : YS} {x4 : Int32} {oo : ((YS × Int32) ⊕ (YS × Int32)) ⊕ (Int32 × YS)} (h : f_X1_leave_48 x1 x2 x3 yv x4 = some oo) (hm : lpo (st_X1_leave x1 x2 x3) fu oo rr) {H : Heap} {locs : List Loc} {ls : Array Slot} (hP : va_P D vwCl (wY cy b0 yv []) H) (hD : va_D A (wY cy b0 yv [])) (hS : va_S A s.heap H locs) (hl : lv_has ls 5 [(0, .ref (b0 0)), (1, .int x1), (2, .int x2), (3, .int x3), (4, .int x4)]) : W p l e { frames := 3, cells := 0, slots := 0, locals := 69 } s m args below meth c H locs 0 0 (MQ below (qI D (wY cy b0 rr.2 []) (rr.1) A) args s 0 0 A) (F0 m 48 ls []) := by
  obtain ⟨hx, hb, hr, hml, hown, hts, hlk, hA, hK⟩ := id M
  unfold f_X1_leave_48 at h
  refine lv_iload hx hb dX1_leave_48 (lv_at hl 4 rfl) ?_
  refine lv_bipush (v := 6) hx hb dX1_leave_50 (by decide) ?_
  refine lv_icmp_ge (tgt := 100) hx hb dX1_leave_52 (by decide) (fun c_1 => ?_) (fun c_1 => ?_)
  · replace h := it_p c_1 h
    refine lv_iconst (v := 0) hx hb dX1_leave_100 (by decide) ?_
    cases h
    have hm : _ = rr := hm
    subst hm
    exact kretZ (r0 := (0 : Int32)) (ty := .boolean) hx hb hr hlk hP hS (by decide) dX1_leave_101
  · replace h := it_n c_1 h
    refine lv_aload_n hx hb dX1_leave_55 rfl (lv_at hl 0 rfl) ?_
    refine va_get (D := D) (ci := 1) (v := .ref (b0 6)) (C := RX1) (T := TX1) (N := 10) hx hb hts iX1_leave_X1 hown hK.1 hP 0 rfl rfl 5 (by decide) (hts _ mX1_leave_1) (fun _ h9 => h9) rfl dX1_leave_56 ?_
    refine lv_iload hx hb dX1_leave_59 (lv_at hl 4 rfl) ?_
    obtain ⟨b_2, h⟩ := ck_s h
    refine va_iald hx hb hK.1 hP 6 1 rfl rfl b_2 dX1_leave_61 ?_
    refine lv_aload_n hx hb dX1_leave_62 rfl (lv_at hl 0 rfl) ?_
    refine va_get (D := D) (ci := 1) (v := .ref (b0 7)) (C := RX1) (T := TX1) (N := 10) hx hb hts iX1_leave_X1 hown hK.1 hP 0 rfl rfl 6 (by decide) (hts _ mX1_leave_2) (fun _ h9 => h9) rfl dX1_leave_63 ?_
    refine lv_iload hx hb dX1_leave_66 (lv_at hl 4 rfl) ?_
    refine va_iald hx hb hK.1 hP 7 1 rfl rfl b_2 dX1_leave_68 ?_
    refine lv_icmp_ge (tgt := 94) hx hb dX1_leave_69 (by decide) (fun c_3 => ?_) (fun c_3 => ?_)
    · replace h := it_p c_3 h
      obtain ⟨x4_4, ex4_4⟩ : ∃ z : Int32, z = (x4 + (1 : Int32)) := ⟨_, rfl⟩
      replace h := nm_s h ex4_4
      refine lv_iinc (v := x4_4) (lv' := [(4, .int x4_4), (0, .ref (b0 0)), (1, .int x1), (2, .int x2), (3, .int x3)]) hx hb dX1_leave_94 hl (k := 4) rfl (by rw [ex4_4]; rfl) (by decide) rfl (fun ls hl => ?_)
      refine lv_goto (tgt := 48) hx hb dX1_leave_97 (by decide) ?_
      cases h
      exact ih.2 yv x4_4 _ _ _ hm hP hD hS (lv_sub hl [1, 2, 3, 4, 0] rfl)
    · replace h := it_n c_3 h
      refine lv_aload_n hx hb dX1_leave_72 rfl (lv_at hl 0 rfl) ?_
      refine lv_iload hx hb dX1_leave_73 (lv_at hl 4 rfl) ?_
      obtain ⟨r_5, hr_5, h⟩ := bn_s h
      refine kcVi (As := [.int x4]) (rest := []) (ws' := (wY cy b0 yv [])) ⟨hx, hb, hml, hown, hts⟩ (cwV 1 hts gX1_leave_X1_canPay rfl rfl rfl ⟨rfl, eX1_canPay⟩ ⟨Nat.le_of_ble_eq_true rfl, Nat.le_of_ble_eq_true rfl⟩) (c_X1_canPay b0 hr_5) hK hP hD hS hA [0, 1, 2, 3, 4, 5, 6, 7, 8, 9] [] (by decide) rfl rfl 1 rfl rfl [(b0 0), (b0 1), (b0 2), (b0 3), (b0 4), (b0 5), (b0 6), (b0 7), (b0 8), (b0 9)] rfl rfl rfl [] rfl rfl rfl rfl hl.1 rfl (Nat.le_of_ble_eq_true rfl) dX1_leave_75 (fun H locs hP hD hS => ?_)
      refine lv_if_eq (tgt := 94) hx hb dX1_leave_78 (by decide) (fun c_6 => ?_) (fun c_6 => ?_)
      · replace h := it_p c_6 h
        obtain ⟨x4_7, ex4_7⟩ : ∃ z : Int32, z = (x4 + (1 : Int32)) := ⟨_, rfl⟩
        replace h := nm_s h ex4_7
        refine lv_iinc (v := x4_7) (lv' := [(4, .int x4_7), (0, .ref (b0 0)), (1, .int x1), (2, .int x2), (3, .int x3)]) hx hb dX1_leave_94 hl (k := 4) rfl (by rw [ex4_7]; rfl) (by decide) rfl (fun ls hl => ?_)
        refine lv_goto (tgt := 48) hx hb dX1_leave_97 (by decide) ?_
        cases h
        exact ih.2 yv x4_7 _ _ _ hm hP hD hS (lv_sub hl [1, 2, 3, 4, 0] rfl)
      · replace h := it_n c_6 h
        refine lv_aload_n hx hb dX1_leave_81 rfl (lv_at hl 0 rfl) ?_
        refine lv_iload_n hx hb dX1_leave_82 rfl (lv_at hl 1 rfl) ?_
        refine lv_aload_n hx hb dX1_leave_83 rfl (lv_at hl 0 rfl) ?_
        refine va_get (D := D) (ci := 1) (v := .ref (b0 8)) (C := RX1) (T := TX1) (N := 10) hx hb hts iX1_leave_X1 hown hK.1 hP 0 rfl rfl 7 (by decide) (hts _ mX1_leave_3) (fun _ h9 => h9) rfl dX1_leave_84 ?_
        refine lv_iload hx hb dX1_leave_87 (lv_at hl 4 rfl) ?_
        refine va_iald hx hb hK.1 hP 8 1 rfl rfl b_2 dX1_leave_89 ?_
        refine lv_iadd hx hb dX1_leave_90 ?_
        obtain ⟨r_8, hr_8, h⟩ := bn_s h
        refine kcVv (As := [.int (x1 + (yv.2.2.2.2.2.2.2.1 x4.toNatClampNeg))]) (rest := []) (ws' := (wY cy b0 r_8 [])) ⟨hx, hb, hml, hown, hts⟩ (cwV 1 hts gX1_leave_X1_mark rfl rfl rfl ⟨rfl, eX1_mark⟩ ⟨Nat.le_of_ble_eq_true rfl, Nat.le_of_ble_eq_true rfl⟩) (c_X1_mark b0 hr_8) hK hP hD hS hA [0, 1, 2, 3, 4, 5, 6, 7, 8, 9] [] (by decide) rfl rfl 1 rfl rfl [(b0 0), (b0 1), (b0 2), (b0 3), (b0 4), (b0 5), (b0 6), (b0 7), (b0 8), (b0 9)] rfl rfl rfl [] rfl rfl rfl rfl hl.1 rfl (Nat.le_of_ble_eq_true rfl) dX1_leave_91 (fun H locs hP hD hS => ?_)
        obtain ⟨x4_9, ex4_9⟩ : ∃ z : Int32, z = (x4 + (1 : Int32)) := ⟨_, rfl⟩
        replace h := nm_s h ex4_9
        refine lv_iinc (v := x4_9) (lv' := [(4, .int x4_9), (0, .ref (b0 0)), (1, .int x1), (2, .int x2), (3, .int x3)]) hx hb dX1_leave_94 hl (k := 4) rfl (by rw [ex4_9]; rfl) (by decide) rfl (fun ls hl => ?_)
        refine lv_goto (tgt := 48) hx hb dX1_leave_97 (by decide) ?_
        cases h
        exact ih.2 r_8 x4_9 _ _ _ hm hP hD hS (lv_sub hl [1, 2, 3, 4, 0] rfl)
set_option maxHeartbeats 4000000 in
set_option maxRecDepth 100000 in
theorem w_X1_leave_33 {p : Program} {l : Launch} {e : Env} {s : State} {m : MethodId} {args : Array Value} {below : List Frame} {meth : Method} {c : Code} {A : Nat → Prop} {D : va_G} {cy : Nat → ClassId} {b0 : Nat → Nat} {x1 : Int32} {x2 : Int32} {x3 : Int32} {fu : Nat} {rr : Int32 × YS} (M : kM p s m args meth c cX1_leave 5 (some .boolean) RX1 wsX1_leave A D cy) (ih : I_X1_leave p l e s m args below meth c A D cy b0 x1 x2 x3 fu rr) {yv : YS} {oo : ((YS × Int32) ⊕ (YS × Int32)) ⊕ (Int32 × YS)} (h : f_X1_leave_33 x1 x2 x3 yv = some oo) (hm : lpo (st_X1_leave x1 x2 x3) fu oo rr) {H : Heap} {locs : List Loc} {ls : Array Slot} (hP : va_P D vwCl (wY cy b0 yv []) H) (hD : va_D A (wY cy b0 yv [])) (hS : va_S A s.heap H locs) (hl : lv_has ls 5 [(0, .ref (b0 0)), (1, .int x1), (2, .int x2), (3, .int x3)]) : W p l e { frames := 3, cells := 0, slots := 0, locals := 69 } s m args below meth c H locs 0 0 (MQ below (qI D (wY cy b0 rr.2 []) (rr.1) A) args s 0 0 A) (F0 m 33 ls []) := by
  obtain ⟨hx, hb, hr, hml, hown, hts, hlk, hA, hK⟩ := id M
  unfold f_X1_leave_33 at h
  refine lv_aload_n hx hb dX1_leave_33 rfl (lv_at hl 0 rfl) ?_
  refine va_get (D := D) (ci := 1) (v := .ref (b0 6)) (C := RX1) (T := TX1) (N := 10) hx hb hts iX1_leave_X1 hown hK.1 hP 0 rfl rfl 5 (by decide) (hts _ mX1_leave_1) (fun _ h9 => h9) rfl dX1_leave_34 ?_
  refine lv_iload_n hx hb dX1_leave_37 rfl (lv_at hl 2 rfl) ?_
  obtain ⟨b_1, h⟩ := ck_s h
  refine va_iald hx hb hK.1 hP 6 1 rfl rfl b_1 dX1_leave_38 ?_
  refine lv_iload_n hx hb dX1_leave_39 rfl (lv_at hl 3 rfl) ?_
  refine lv_icmp_lt (tgt := 45) hx hb dX1_leave_40 (by decide) (fun c_2 => ?_) (fun c_2 => ?_)
  · replace h := it_p c_2 h
    refine lv_iconst (v := 0) hx hb dX1_leave_45 (by decide) ?_
    refine lv_istore (lv' := [(4, .int (0 : Int32)), (0, .ref (b0 0)), (1, .int x1), (2, .int x2), (3, .int x3)]) hx hb dX1_leave_46 hl (by decide) rfl (fun ls hl => ?_)
    cases h
    exact ih.2 yv (0 : Int32) _ _ _ hm hP hD hS (lv_sub hl [1, 2, 3, 4, 0] rfl)
  · replace h := it_n c_2 h
    refine lv_iconst (v := 1) hx hb dX1_leave_43 (by decide) ?_
    cases h
    have hm : _ = rr := hm
    subst hm
    exact kretZ (r0 := (1 : Int32)) (ty := .boolean) hx hb hr hlk hP hS (by decide) dX1_leave_44
set_option maxHeartbeats 4000000 in
set_option maxRecDepth 100000 in
theorem w_X1_leave_8 {p : Program} {l : Launch} {e : Env} {s : State} {m : MethodId} {args : Array Value} {below : List Frame} {meth : Method} {c : Code} {A : Nat → Prop} {D : va_G} {cy : Nat → ClassId} {b0 : Nat → Nat} {x1 : Int32} {x2 : Int32} {x3 : Int32} {fu : Nat} {rr : Int32 × YS} (M : kM p s m args meth c cX1_leave 5 (some .boolean) RX1 wsX1_leave A D cy) (ih : I_X1_leave p l e s m args below meth c A D cy b0 x1 x2 x3 fu rr) {yv : YS} {x4 : Int32} {oo : ((YS × Int32) ⊕ (YS × Int32)) ⊕ (Int32 × YS)} (h : f_X1_leave_8 x1 x2 x3 yv x4 = some oo) (hm : lpo (st_X1_leave x1 x2 x3) fu oo rr) {H : Heap} {locs : List Loc} {ls : Array Slot} (hP : va_P D vwCl (wY cy b0 yv []) H) (hD : va_D A (wY cy b0 yv [])) (hS : va_S A s.heap H locs) (hl : lv_has ls 5 [(0, .ref (b0 0)), (1, .int x1), (2, .int x2), (3, .int x3), (4, .int x4)]) : W p l e { frames := 3, cells := 0, slots := 0, locals := 69 } s m args below meth c H locs 0 0 (MQ below (qI D (wY cy b0 rr.2 []) (rr.1) A) args s 0 0 A) (F0 m 8 ls []) := by
  obtain ⟨hx, hb, hr, hml, hown, hts, hlk, hA, hK⟩ := id M
  unfold f_X1_leave_8 at h
  refine lv_iload hx hb dX1_leave_8 (lv_at hl 4 rfl) ?_
  refine lv_iload_n hx hb dX1_leave_10 rfl (lv_at hl 3 rfl) ?_
  refine lv_icmp_ge (tgt := 33) hx hb dX1_leave_11 (by decide) (fun c_1 => ?_) (fun c_1 => ?_)
  · replace h := it_p c_1 h
    exact w_X1_leave_33 M ih h hm hP hD hS (lv_sub hl [0, 1, 2, 3] rfl)
  · replace h := it_n c_1 h
    refine lv_aload_n hx hb dX1_leave_14 rfl (lv_at hl 0 rfl) ?_
    refine lv_iload_n hx hb dX1_leave_15 rfl (lv_at hl 2 rfl) ?_
    obtain ⟨r_2, hr_2, h⟩ := bn_s h
    refine kcVi (As := [.int x2]) (rest := []) (ws' := (wY cy b0 yv [])) ⟨hx, hb, hml, hown, hts⟩ (cwV 1 hts gX1_leave_X1_canPay rfl rfl rfl ⟨rfl, eX1_canPay⟩ ⟨Nat.le_of_ble_eq_true rfl, Nat.le_of_ble_eq_true rfl⟩) (c_X1_canPay b0 hr_2) hK hP hD hS hA [0, 1, 2, 3, 4, 5, 6, 7, 8, 9] [] (by decide) rfl rfl 1 rfl rfl [(b0 0), (b0 1), (b0 2), (b0 3), (b0 4), (b0 5), (b0 6), (b0 7), (b0 8), (b0 9)] rfl rfl rfl [] rfl rfl rfl rfl hl.1 rfl (Nat.le_of_ble_eq_true rfl) dX1_leave_16 (fun H locs hP hD hS => ?_)
    refine lv_if_eq (tgt := 33) hx hb dX1_leave_19 (by decide) (fun c_3 => ?_) (fun c_3 => ?_)
    · replace h := it_p c_3 h
      exact w_X1_leave_33 M ih h hm hP hD hS (lv_sub hl [0, 1, 2, 3] rfl)
    · replace h := it_n c_3 h
      refine lv_aload_n hx hb dX1_leave_22 rfl (lv_at hl 0 rfl) ?_
      refine lv_iload_n hx hb dX1_leave_23 rfl (lv_at hl 2 rfl) ?_
      obtain ⟨r_4, hr_4, h⟩ := bn_s h
      refine kcVv (As := [.int x2]) (rest := []) (ws' := (wY cy b0 r_4 [])) ⟨hx, hb, hml, hown, hts⟩ (cwV 1 hts gX1_leave_X1_pay rfl rfl rfl ⟨rfl, eX1_pay⟩ ⟨Nat.le_of_ble_eq_true rfl, Nat.le_of_ble_eq_true rfl⟩) (c_X1_pay b0 hr_4) hK hP hD hS hA [0, 1, 2, 3, 4, 5, 6, 7, 8, 9] [] (by decide) rfl rfl 1 rfl rfl [(b0 0), (b0 1), (b0 2), (b0 3), (b0 4), (b0 5), (b0 6), (b0 7), (b0 8), (b0 9)] rfl rfl rfl [] rfl rfl rfl rfl hl.1 rfl (Nat.le_of_ble_eq_true rfl) dX1_leave_24 (fun H locs hP hD hS => ?_)
      obtain ⟨x4_5, ex4_5⟩ : ∃ z : Int32, z = (x4 + (1 : Int32)) := ⟨_, rfl⟩
      replace h := nm_s h ex4_5
      refine lv_iinc (v := x4_5) (lv' := [(4, .int x4_5), (0, .ref (b0 0)), (1, .int x1), (2, .int x2), (3, .int x3)]) hx hb dX1_leave_27 hl (k := 4) rfl (by rw [ex4_5]; rfl) (by decide) rfl (fun ls hl => ?_)
      refine lv_goto (tgt := 8) hx hb dX1_leave_30 (by decide) ?_
      cases h
      exact ih.1 r_4 x4_5 _ _ _ hm hP hD hS (lv_sub hl [1, 2, 3, 4, 0] rfl)
set_option maxHeartbeats 4000000 in
set_option maxRecDepth 100000 in
theorem w_X1_leave_0 {p : Program} {l : Launch} {e : Env} {s : State} {m : MethodId} {args : Array Value} {below : List Frame} {meth : Method} {c : Code} {A : Nat → Prop} {D : va_G} {cy : Nat → ClassId} {b0 : Nat → Nat} {x1 : Int32} {x2 : Int32} {x3 : Int32} {fu : Nat} {rr : Int32 × YS} (M : kM p s m args meth c cX1_leave 5 (some .boolean) RX1 wsX1_leave A D cy) (ih : I_X1_leave p l e s m args below meth c A D cy b0 x1 x2 x3 fu rr) {yv : YS} {oo : ((YS × Int32) ⊕ (YS × Int32)) ⊕ (Int32 × YS)} (h : f_X1_leave_0 yv x1 x2 x3 = some oo) (hm : lpo (st_X1_leave x1 x2 x3) fu oo rr) {H : Heap} {locs : List Loc} {ls : Array Slot} (hP : va_P D vwCl (wY cy b0 yv []) H) (hD : va_D A (wY cy b0 yv [])) (hS : va_S A s.heap H locs) (hl : lv_has ls 5 [(0, .ref (b0 0)), (1, .int x1), (2, .int x2), (3, .int x3)]) : W p l e { frames := 3, cells := 0, slots := 0, locals := 69 } s m args below meth c H locs 0 0 (MQ below (qI D (wY cy b0 rr.2 []) (rr.1) A) args s 0 0 A) (F0 m 0 ls []) := by
  obtain ⟨hx, hb, hr, hml, hown, hts, hlk, hA, hK⟩ := id M
  unfold f_X1_leave_0 at h
  refine lv_aload_n hx hb dX1_leave_0 rfl (lv_at hl 0 rfl) ?_
  refine lv_iload_n hx hb dX1_leave_1 rfl (lv_at hl 1 rfl) ?_
  obtain ⟨r_1, hr_1, h⟩ := bn_s h
  refine kcVv (As := [.int x1]) (rest := []) (ws' := (wY cy b0 r_1 [])) ⟨hx, hb, hml, hown, hts⟩ (cwV 1 hts gX1_leave_X1_standAt rfl rfl rfl ⟨rfl, eX1_standAt⟩ ⟨Nat.le_of_ble_eq_true rfl, Nat.le_of_ble_eq_true rfl⟩) (c_X1_standAt b0 hr_1) hK hP hD hS hA [0, 1, 2, 3, 4, 5, 6, 7, 8, 9] [] (by decide) rfl rfl 1 rfl rfl [(b0 0), (b0 1), (b0 2), (b0 3), (b0 4), (b0 5), (b0 6), (b0 7), (b0 8), (b0 9)] rfl rfl rfl [] rfl rfl rfl rfl hl.1 rfl (Nat.le_of_ble_eq_true rfl) dX1_leave_2 (fun H locs hP hD hS => ?_)
  refine lv_iconst (v := 0) hx hb dX1_leave_5 (by decide) ?_
  refine lv_istore (lv' := [(4, .int (0 : Int32)), (0, .ref (b0 0)), (1, .int x1), (2, .int x2), (3, .int x3)]) hx hb dX1_leave_6 hl (by decide) rfl (fun ls hl => ?_)
  cases h
  exact ih.1 r_1 (0 : Int32) _ _ _ hm hP hD hS (lv_sub hl [1, 2, 3, 4, 0] rfl)
theorem wl_X1_leave {p : Program} {l : Launch} {e : Env} {s : State} {m : MethodId} {args : Array Value} {below : List Frame} {meth : Method} {c : Code} {A : Nat → Prop} {D : va_G} {cy : Nat → ClassId} {b0 : Nat → Nat} {x1 : Int32} {x2 : Int32} {x3 : Int32} {rr : Int32 × YS} (M : kM p s m args meth c cX1_leave 5 (some .boolean) RX1 wsX1_leave A D cy) : ∀ fu : Nat, I_X1_leave p l e s m args below meth c A D cy b0 x1 x2 x3 fu rr := by
  intro fu
  induction fu with
  | zero => exact ⟨(fun _ _ _ _ _ h => by cases h), (fun _ _ _ _ _ h => by cases h)⟩
  | succ fu ih =>
    refine ⟨?_, ?_⟩
    · intro yv x4 H locs ls h hP hD hS hl
      obtain ⟨o1, h1, h2⟩ := lpn_s h
      exact w_X1_leave_8 M ih h1 h2 hP hD hS hl
    · intro yv x4 H locs ls h hP hD hS hl
      obtain ⟨o1, h1, h2⟩ := lpn_s h
      exact w_X1_leave_48 M ih h1 h2 hP hD hS hl
theorem c_X1_leave {l : Launch} {D : va_G} {cy : Nat → ClassId} (b0 : Nat → Nat) {yv : YS} {x1 : Int32} {x2 : Int32} {x3 : Int32} {rr : Int32 × YS} (h : f_X1_leave yv x1 x2 x3 = some rr) : CI l D cy yX1_leave wsX1_leave { frames := 3, cells := 0, slots := 0, locals := 69 } [.ref (b0 0), .int x1, .int x2, .int x3] (wY cy b0 yv []) (rr.1) (wY cy b0 rr.2 []) := by
  refine kofI (cc := cX1_leave) (maxL := 5) (ret := (some .boolean)) (by decide) rfl (Nat.le_of_ble_eq_true rfl) ?_
  intro p e s m below meth c A M ls hl hP hD hS
  obtain ⟨o1, fu, h1, h2⟩ := rnx_s h
  exact w_X1_leave_0 M (wl_X1_leave M fu) h1 h2 hP hD hS hl
theorem eX1_leave : yX1_leave.cls ≠ "java/lang/invoke/MethodHandle" ∧ yX1_leave.cls ≠ "java/lang/invoke/VarHandle" ∧ (parseMethodDescriptor yX1_leave.desc).map (fun d => d.parameters.length) = some 3 := by decide +kernel
theorem iX1_spread_X1 : ∀ w ∈ u_ws RX1 TX1 10, w ∈ wsX1_spread := by decide +kernel
theorem mX1_spread_1 : Cond.fieldLink RX1 40 "LentPiles$Payings" "words" "I" ∈ wsX1_spread := by decide +kernel
theorem mX1_spread_2 : Cond.fieldLink RX1 36 "LentPiles$Payings" "layer" "[J" ∈ wsX1_spread := by decide +kernel
def I_X1_spread (p : Program) (l : Launch) (e : Env) (s : State) (m : MethodId) (args : Array Value) (below : List Frame) (meth : Method) (c : Code) (A : Nat → Prop) (D : va_G) (cy : Nat → ClassId) (b0 : Nat → Nat) (x1 : Int32) (x2 : Int32) (fu : Nat) (rr : Int32 × YS) : Prop := (∀ (yv : YS) (x3 : Int32) (H : Heap) (locs : List Loc) (ls : Array Slot), lpn (st_X1_spread x1 x2) fu (.inl (yv, x3)) = some rr → va_P D vwCl (wY cy b0 yv []) H → va_D A (wY cy b0 yv []) → va_S A s.heap H locs → lv_has ls 8 [(0, .ref (b0 0)), (1, .int x1), (2, .int x2), (3, .int x3)] → W p l e { frames := 4, cells := 0, slots := 0, locals := 93 } s m args below meth c H locs 0 0 (MQ below (qI D (wY cy b0 rr.2 []) (rr.1) A) args s 0 0 A) (F0 m 7 ls [])) ∧ (∀ (yv : YS) (x3 : Int32) (x4 : Int64) (x6 : Int32) (H : Heap) (locs : List Loc) (ls : Array Slot), lpn (st_X1_spread x1 x2) fu (.inr (yv, x3, x4, x6)) = some rr → va_P D vwCl (wY cy b0 yv []) H → va_D A (wY cy b0 yv []) → va_S A s.heap H locs → lv_has ls 8 [(0, .ref (b0 0)), (1, .int x1), (2, .int x2), (3, .int x3), (4, .long x4), (6, .int x6)] → W p l e { frames := 4, cells := 0, slots := 0, locals := 93 } s m args below meth c H locs 0 0 (MQ below (qI D (wY cy b0 rr.2 []) (rr.1) A) args s 0 0 A) (F0 m 29 ls []))
set_option maxHeartbeats 4000000 in
set_option maxRecDepth 100000 in
theorem w_X1_spread_29 {p : Program} {l : Launch} {e : Env} {s : State} {m : MethodId} {args : Array Value} {below : List Frame} {meth : Method} {c : Code} {A : Nat → Prop} {D : va_G} {cy : Nat → ClassId} {b0 : Nat → Nat} {x1 : Int32} {x2 : Int32} {fu : Nat} {rr : Int32 × YS} (M : kM p s m args meth c cX1_spread 8 (some .boolean) RX1 wsX1_spread A D cy) (ih : I_X1_spread p l e s m args below meth c A D cy b0 x1 x2 fu rr) {yv : YS} {x3 : Int32} {x4 : Int64} {x6 : Int32} {oo : ((YS × Int32) ⊕ (YS × Int32 × Int64 × Int32)) ⊕ (Int32 × YS)} (h : f_X1_spread_29 x1 x2 yv x3 x4 x6 = some oo) (hm : lpo (st_X1_spread x1 x2) fu oo rr) {H : Heap} {locs : List Loc} {ls : Array Slot} (hP : va_P D vwCl (wY cy b0 yv []) H) (hD : va_D A (wY cy b0 yv [])) (hS : va_S A s.heap H locs) (hl : lv_has ls 8 [(0, .ref (b0 0)), (1, .int x1), (2, .int x2), (3, .int x3), (4, .long x4), (6, .int x6)]) : W p l e { frames := 4, cells := 0, slots := 0, locals := 93 } s m args below meth c H locs 0 0 (MQ below (qI D (wY cy b0 rr.2 []) (rr.1) A) args s 0 0 A) (F0 m 29 ls []) := by
  obtain ⟨hx, hb, hr, hml, hown, hts, hlk, hA, hK⟩ := id M
  unfold f_X1_spread_29 at h
  refine lv_iload hx hb dX1_spread_29 (lv_at hl 5 rfl) ?_
  refine lv_bipush (v := 64) hx hb dX1_spread_31 (by decide) ?_
  refine lv_icmp_ge (tgt := 83) hx hb dX1_spread_33 (by decide) (fun c_1 => ?_) (fun c_1 => ?_)
  · replace h := it_p c_1 h
    obtain ⟨x3_2, ex3_2⟩ : ∃ z : Int32, z = (x3 + (-1 : Int32)) := ⟨_, rfl⟩
    replace h := nm_s h ex3_2
    refine lv_iinc (v := x3_2) (lv' := [(3, .int x3_2), (0, .ref (b0 0)), (1, .int x1), (2, .int x2), (4, .long x4), (6, .int x6)]) hx hb dX1_spread_83 hl (k := 3) rfl (by rw [ex3_2]; rfl) (by decide) rfl (fun ls hl => ?_)
    refine lv_goto (tgt := 7) hx hb dX1_spread_86 (by decide) ?_
    cases h
    exact ih.1 yv x3_2 _ _ _ hm hP hD hS (lv_sub hl [1, 2, 3, 0] rfl)
  · replace h := it_n c_1 h
    refine lv_lload hx hb dX1_spread_36 (lv_at hl 4 rfl) ?_
    refine lv_lconst (v := 0) hx hb dX1_spread_38 (by decide) ?_
    refine W.lcmp hx hb dX1_spread_39 ?_
    refine lv_if_eq (tgt := 83) hx hb dX1_spread_40 (by decide) (fun c_3 => ?_) (fun c_3 => ?_)
    · replace h := it_p c_3 h
      obtain ⟨x3_4, ex3_4⟩ : ∃ z : Int32, z = (x3 + (-1 : Int32)) := ⟨_, rfl⟩
      replace h := nm_s h ex3_4
      refine lv_iinc (v := x3_4) (lv' := [(3, .int x3_4), (0, .ref (b0 0)), (1, .int x1), (2, .int x2), (4, .long x4), (6, .int x6)]) hx hb dX1_spread_83 hl (k := 3) rfl (by rw [ex3_4]; rfl) (by decide) rfl (fun ls hl => ?_)
      refine lv_goto (tgt := 7) hx hb dX1_spread_86 (by decide) ?_
      cases h
      exact ih.1 yv x3_4 _ _ _ hm hP hD hS (lv_sub hl [1, 2, 3, 0] rfl)
    · replace h := it_n c_3 h
      refine lv_lload hx hb dX1_spread_43 (lv_at hl 4 rfl) ?_
      obtain ⟨r_5, hr_5, h⟩ := bn_s h
      refine kcSi (As := [.long x4]) (rest := []) ⟨hx, hb, hml, hown, hts⟩ (va_cwS 1 hts gX1_spread_J13_numberOfTrailingZeros_95d88 rfl rfl rfl eJ13_numberOfTrailingZeros_95d88 ⟨Nat.le_of_ble_eq_true rfl, Nat.le_of_ble_eq_true rfl⟩) (c_J13_numberOfTrailingZeros_95d88  hr_5) hK hP hS hA rfl hl.1 rfl (Nat.le_of_ble_eq_true rfl) dX1_spread_45 (fun H locs hP hS => ?_)
      refine lv_istore (lv' := [(7, .int r_5), (0, .ref (b0 0)), (1, .int x1), (2, .int x2), (3, .int x3), (4, .long x4), (6, .int x6)]) hx hb dX1_spread_48 hl (by decide) rfl (fun ls hl => ?_)
      refine lv_lload hx hb dX1_spread_50 (lv_at hl 5 rfl) ?_
      refine lv_lload hx hb dX1_spread_52 (lv_at hl 5 rfl) ?_
      refine lv_lconst (v := 1) hx hb dX1_spread_54 (by decide) ?_
      refine lv_lsub hx hb dX1_spread_55 ?_
      refine lv_land hx hb dX1_spread_56 ?_
      refine lv_topl (fun x4_6 ex4_6 => ?_)
      replace h := nm_s h ex4_6
      refine lv_lstore (lv' := [(4, .long x4_6), (7, .int r_5), (0, .ref (b0 0)), (1, .int x1), (2, .int x2), (3, .int x3), (6, .int x6)]) hx hb dX1_spread_57 hl (by decide) rfl (fun ls hl => ?_)
      refine lv_aload_n hx hb dX1_spread_59 rfl (lv_at hl 2 rfl) ?_
      refine lv_iload_n hx hb dX1_spread_60 rfl (lv_at hl 5 rfl) ?_
      refine lv_bipush (v := 64) hx hb dX1_spread_61 (by decide) ?_
      refine lv_imul hx hb dX1_spread_63 ?_
      refine lv_iload hx hb dX1_spread_64 (lv_at hl 1 rfl) ?_
      refine lv_iadd hx hb dX1_spread_66 ?_
      refine lv_iload_n hx hb dX1_spread_67 rfl (lv_at hl 3 rfl) ?_
      refine lv_iload_n hx hb dX1_spread_68 rfl (lv_at hl 4 rfl) ?_
      obtain ⟨r_7, hr_7, h⟩ := bn_s h
      refine kcVi (As := [.int ((x3 * (64 : Int32)) + r_5), .int x1, .int x2]) (rest := []) (ws' := (wY cy b0 r_7.2 [])) ⟨hx, hb, hml, hown, hts⟩ (cwV 3 hts gX1_spread_X1_leave rfl rfl rfl ⟨rfl, eX1_leave⟩ ⟨Nat.le_of_ble_eq_true rfl, Nat.le_of_ble_eq_true rfl⟩) (c_X1_leave b0 hr_7) hK hP hD hS hA [0, 1, 2, 3, 4, 5, 6, 7, 8, 9] [] (by decide) rfl rfl 1 rfl rfl [(b0 0), (b0 1), (b0 2), (b0 3), (b0 4), (b0 5), (b0 6), (b0 7), (b0 8), (b0 9)] rfl rfl rfl [] rfl rfl rfl rfl hl.1 rfl (Nat.le_of_ble_eq_true rfl) dX1_spread_69 (fun H locs hP hD hS => ?_)
      refine lv_if_eq (tgt := 77) hx hb dX1_spread_72 (by decide) (fun c_8 => ?_) (fun c_8 => ?_)
      · replace h := it_p c_8 h
        obtain ⟨x6_9, ex6_9⟩ : ∃ z : Int32, z = (x6 + (1 : Int32)) := ⟨_, rfl⟩
        replace h := nm_s h ex6_9
        refine lv_iinc (v := x6_9) (lv' := [(6, .int x6_9), (4, .long x4_6), (7, .int r_5), (0, .ref (b0 0)), (1, .int x1), (2, .int x2), (3, .int x3)]) hx hb dX1_spread_77 hl (k := 6) rfl (by rw [ex6_9]; rfl) (by decide) rfl (fun ls hl => ?_)
        refine lv_goto (tgt := 29) hx hb dX1_spread_80 (by decide) ?_
        cases h
        exact ih.2 r_7.2 x3 x4_6 x6_9 _ _ _ hm hP hD hS (lv_sub hl [3, 4, 5, 6, 1, 0] rfl)
      · replace h := it_n c_8 h
        refine lv_iconst (v := 1) hx hb dX1_spread_75 (by decide) ?_
        cases h
        have hm : _ = rr := hm
        subst hm
        exact kretZ (r0 := (1 : Int32)) (ty := .boolean) hx hb hr hlk hP hS (by decide) dX1_spread_76
set_option maxHeartbeats 4000000 in
set_option maxRecDepth 100000 in
theorem w_X1_spread_7 {p : Program} {l : Launch} {e : Env} {s : State} {m : MethodId} {args : Array Value} {below : List Frame} {meth : Method} {c : Code} {A : Nat → Prop} {D : va_G} {cy : Nat → ClassId} {b0 : Nat → Nat} {x1 : Int32} {x2 : Int32} {fu : Nat} {rr : Int32 × YS} (M : kM p s m args meth c cX1_spread 8 (some .boolean) RX1 wsX1_spread A D cy) (ih : I_X1_spread p l e s m args below meth c A D cy b0 x1 x2 fu rr) {yv : YS} {x3 : Int32} {oo : ((YS × Int32) ⊕ (YS × Int32 × Int64 × Int32)) ⊕ (Int32 × YS)} (h : f_X1_spread_7 x1 x2 yv x3 = some oo) (hm : lpo (st_X1_spread x1 x2) fu oo rr) {H : Heap} {locs : List Loc} {ls : Array Slot} (hP : va_P D vwCl (wY cy b0 yv []) H) (hD : va_D A (wY cy b0 yv [])) (hS : va_S A s.heap H locs) (hl : lv_has ls 8 [(0, .ref (b0 0)), (1, .int x1), (2, .int x2), (3, .int x3)]) : W p l e { frames := 4, cells := 0, slots := 0, locals := 93 } s m args below meth c H locs 0 0 (MQ below (qI D (wY cy b0 rr.2 []) (rr.1) A) args s 0 0 A) (F0 m 7 ls []) := by
  obtain ⟨hx, hb, hr, hml, hown, hts, hlk, hA, hK⟩ := id M
  unfold f_X1_spread_7 at h
  refine lv_iload_n hx hb dX1_spread_7 rfl (lv_at hl 3 rfl) ?_
  refine lv_if_lt (tgt := 89) hx hb dX1_spread_8 (by decide) (fun c_1 => ?_) (fun c_1 => ?_)
  · replace h := it_p c_1 h
    refine lv_iconst (v := 0) hx hb dX1_spread_89 (by decide) ?_
    cases h
    have hm : _ = rr := hm
    subst hm
    exact kretZ (r0 := (0 : Int32)) (ty := .boolean) hx hb hr hlk hP hS (by decide) dX1_spread_90
  · replace h := it_n c_1 h
    refine lv_aload_n hx hb dX1_spread_11 rfl (lv_at hl 0 rfl) ?_
    refine va_get (D := D) (ci := 1) (v := .ref (b0 9)) (C := RX1) (T := TX1) (N := 10) hx hb hts iX1_spread_X1 hown hK.1 hP 0 rfl rfl 8 (by decide) (hts _ mX1_spread_2) (fun _ h9 => h9) rfl dX1_spread_12 ?_
    refine lv_iload_n hx hb dX1_spread_15 rfl (lv_at hl 3 rfl) ?_
    obtain ⟨b_2, h⟩ := ck_s h
    refine va_lald hx hb hK.1 hP 9 2 rfl rfl b_2 dX1_spread_16 ?_
    refine lv_topl (fun x4_3 ex4_3 => ?_)
    replace h := nm_s h ex4_3
    refine lv_lstore (lv' := [(4, .long x4_3), (0, .ref (b0 0)), (1, .int x1), (2, .int x2), (3, .int x3)]) hx hb dX1_spread_17 hl (by decide) rfl (fun ls hl => ?_)
    refine lv_aload_n hx hb dX1_spread_19 rfl (lv_at hl 1 rfl) ?_
    refine va_get (D := D) (ci := 1) (v := .ref (b0 9)) (C := RX1) (T := TX1) (N := 10) hx hb hts iX1_spread_X1 hown hK.1 hP 0 rfl rfl 8 (by decide) (hts _ mX1_spread_2) (fun _ h9 => h9) rfl dX1_spread_20 ?_
    refine lv_iload_n hx hb dX1_spread_23 rfl (lv_at hl 4 rfl) ?_
    refine lv_lconst (v := 0) hx hb dX1_spread_24 (by decide) ?_
    refine va_last hx hb hK.1 hP hD hS 9 2 rfl rfl b_2 dX1_spread_25 (fun H locs hP hD hS => ?_)
    obtain ⟨yv_4, eyv_4⟩ : ∃ z : YS, z = (yv.1, yv.2.1, yv.2.2.1, yv.2.2.2.1, yv.2.2.2.2.1, yv.2.2.2.2.2.1, yv.2.2.2.2.2.2.1, yv.2.2.2.2.2.2.2.1, (vp_updL yv.2.2.2.2.2.2.2.2.1 x3.toNatClampNeg (0 : Int64)), yv.2.2.2.2.2.2.2.2.2) := ⟨_, rfl⟩
    replace h := nm_s h eyv_4
    have hP : va_P D vwCl (wY cy b0 yv_4 []) H := by subst eyv_4; exact hP
    have hD : va_D A (wY cy b0 yv_4 []) := hD.lk [(b0 0), (b0 1), (b0 2), (b0 3), (b0 4), (b0 5), (b0 6), (b0 7), (b0 8), (b0 9)] rfl rfl
    refine lv_iconst (v := 0) hx hb dX1_spread_26 (by decide) ?_
    refine lv_istore (lv' := [(6, .int (0 : Int32)), (4, .long x4_3), (0, .ref (b0 0)), (1, .int x1), (2, .int x2), (3, .int x3)]) hx hb dX1_spread_27 hl (by decide) rfl (fun ls hl => ?_)
    cases h
    exact ih.2 yv_4 x3 x4_3 (0 : Int32) _ _ _ hm hP hD hS (lv_sub hl [2, 3, 4, 5, 1, 0] rfl)
set_option maxHeartbeats 4000000 in
set_option maxRecDepth 100000 in
theorem w_X1_spread_0 {p : Program} {l : Launch} {e : Env} {s : State} {m : MethodId} {args : Array Value} {below : List Frame} {meth : Method} {c : Code} {A : Nat → Prop} {D : va_G} {cy : Nat → ClassId} {b0 : Nat → Nat} {x1 : Int32} {x2 : Int32} {fu : Nat} {rr : Int32 × YS} (M : kM p s m args meth c cX1_spread 8 (some .boolean) RX1 wsX1_spread A D cy) (ih : I_X1_spread p l e s m args below meth c A D cy b0 x1 x2 fu rr) {yv : YS} {oo : ((YS × Int32) ⊕ (YS × Int32 × Int64 × Int32)) ⊕ (Int32 × YS)} (h : f_X1_spread_0 yv x1 x2 = some oo) (hm : lpo (st_X1_spread x1 x2) fu oo rr) {H : Heap} {locs : List Loc} {ls : Array Slot} (hP : va_P D vwCl (wY cy b0 yv []) H) (hD : va_D A (wY cy b0 yv [])) (hS : va_S A s.heap H locs) (hl : lv_has ls 8 [(0, .ref (b0 0)), (1, .int x1), (2, .int x2)]) : W p l e { frames := 4, cells := 0, slots := 0, locals := 93 } s m args below meth c H locs 0 0 (MQ below (qI D (wY cy b0 rr.2 []) (rr.1) A) args s 0 0 A) (F0 m 0 ls []) := by
  obtain ⟨hx, hb, hr, hml, hown, hts, hlk, hA, hK⟩ := id M
  unfold f_X1_spread_0 at h
  refine lv_aload_n hx hb dX1_spread_0 rfl (lv_at hl 0 rfl) ?_
  refine va_get (D := D) (ci := 1) (v := .int yv.2.2.2.2.2.2.2.2.2) (C := RX1) (T := TX1) (N := 10) hx hb hts iX1_spread_X1 hown hK.1 hP 0 rfl rfl 9 (by decide) (hts _ mX1_spread_1) (fun _ h9 => h9) rfl dX1_spread_1 ?_
  refine lv_iconst (v := 1) hx hb dX1_spread_4 (by decide) ?_
  refine lv_isub hx hb dX1_spread_5 ?_
  refine lv_topi (fun x3_1 ex3_1 => ?_)
  replace h := nm_s h ex3_1
  refine lv_istore_n (lv' := [(3, .int x3_1), (0, .ref (b0 0)), (1, .int x1), (2, .int x2)]) hx hb dX1_spread_6 rfl hl (by decide) rfl (fun ls hl => ?_)
  cases h
  exact ih.1 yv x3_1 _ _ _ hm hP hD hS (lv_sub hl [1, 2, 3, 0] rfl)
theorem wl_X1_spread {p : Program} {l : Launch} {e : Env} {s : State} {m : MethodId} {args : Array Value} {below : List Frame} {meth : Method} {c : Code} {A : Nat → Prop} {D : va_G} {cy : Nat → ClassId} {b0 : Nat → Nat} {x1 : Int32} {x2 : Int32} {rr : Int32 × YS} (M : kM p s m args meth c cX1_spread 8 (some .boolean) RX1 wsX1_spread A D cy) : ∀ fu : Nat, I_X1_spread p l e s m args below meth c A D cy b0 x1 x2 fu rr := by
  intro fu
  induction fu with
  | zero => exact ⟨(fun _ _ _ _ _ h => by cases h), (fun _ _ _ _ _ _ _ h => by cases h)⟩
  | succ fu ih =>
    refine ⟨?_, ?_⟩
    · intro yv x3 H locs ls h hP hD hS hl
      obtain ⟨o1, h1, h2⟩ := lpn_s h
      exact w_X1_spread_7 M ih h1 h2 hP hD hS hl
    · intro yv x3 x4 x6 H locs ls h hP hD hS hl
      obtain ⟨o1, h1, h2⟩ := lpn_s h
      exact w_X1_spread_29 M ih h1 h2 hP hD hS hl
theorem c_X1_spread {l : Launch} {D : va_G} {cy : Nat → ClassId} (b0 : Nat → Nat) {yv : YS} {x1 : Int32} {x2 : Int32} {rr : Int32 × YS} (h : f_X1_spread yv x1 x2 = some rr) : CI l D cy yX1_spread wsX1_spread { frames := 4, cells := 0, slots := 0, locals := 93 } [.ref (b0 0), .int x1, .int x2] (wY cy b0 yv []) (rr.1) (wY cy b0 rr.2 []) := by
  refine kofI (cc := cX1_spread) (maxL := 8) (ret := (some .boolean)) (by decide) rfl (Nat.le_of_ble_eq_true rfl) ?_
  intro p e s m below meth c A M ls hl hP hD hS
  obtain ⟨o1, fu, h1, h2⟩ := rnx_s h
  exact w_X1_spread_0 M (wl_X1_spread M fu) h1 h2 hP hD hS hl
theorem eX1_spread : yX1_spread.cls ≠ "java/lang/invoke/MethodHandle" ∧ yX1_spread.cls ≠ "java/lang/invoke/VarHandle" ∧ (parseMethodDescriptor yX1_spread.desc).map (fun d => d.parameters.length) = some 2 := by decide +kernel
theorem iX1_fewest_X1 : ∀ w ∈ u_ws RX1 TX1 10, w ∈ wsX1_fewest := by decide +kernel
theorem mX1_fewest_1 : Cond.initialized RX3 ∈ wsX1_fewest := by decide +kernel
theorem mX1_fewest_2 : Cond.static yX3_isMan ∈ wsX1_fewest := by decide +kernel
theorem mX1_fewest_3 : Cond.fieldLink RX1 27 "LentPiles$Payings" "paid" "[I" ∈ wsX1_fewest := by decide +kernel
theorem mX1_fewest_4 : Cond.fieldLink RX1 36 "LentPiles$Payings" "layer" "[J" ∈ wsX1_fewest := by decide +kernel
def I_X1_fewest (p : Program) (l : Launch) (e : Env) (s : State) (m : MethodId) (args : Array Value) (below : List Frame) (meth : Method) (c : Code) (A : Nat → Prop) (D : va_G) (cy : Nat → ClassId) (b0 : Nat → Nat) (x1 : Int32) (x2 : Int32) (fu : Nat) (rr : Int32 × YS) : Prop := (∀ (yv : YS) (x3 : Int32) (H : Heap) (locs : List Loc) (ls : Array Slot), lpn (st_X1_fewest x1 x2) fu (yv, x3) = some rr → va_P D vwCl (wY cy b0 yv []) H → va_D A (wY cy b0 yv []) → va_S A s.heap H locs → lv_has ls 4 [(0, .ref (b0 0)), (1, .int x1), (2, .int x2), (3, .int x3)] → W p l e { frames := 5, cells := 0, slots := 0, locals := 120 } s m args below meth c H locs 0 0 (MQ below (qI D (wY cy b0 rr.2 []) (rr.1) A) args s 0 0 A) (F0 m 44 ls []))
set_option maxHeartbeats 4000000 in
set_option maxRecDepth 100000 in
theorem w_X1_fewest_44 {p : Program} {l : Launch} {e : Env} {s : State} {m : MethodId} {args : Array Value} {below : List Frame} {meth : Method} {c : Code} {A : Nat → Prop} {D : va_G} {cy : Nat → ClassId} {b0 : Nat → Nat} {x1 : Int32} {x2 : Int32} {fu : Nat} {rr : Int32 × YS} (M : kM p s m args meth c cX1_fewest 4 (some .int) RX1 wsX1_fewest A D cy) (ih : I_X1_fewest p l e s m args below meth c A D cy b0 x1 x2 fu rr) {yv : YS} {x3 : Int32} {oo : (YS × Int32) ⊕ (Int32 × YS)} (h : f_X1_fewest_44 x1 x2 yv x3 = some oo) (hm : lpo (st_X1_fewest x1 x2) fu oo rr) {H : Heap} {locs : List Loc} {ls : Array Slot} (hP : va_P D vwCl (wY cy b0 yv []) H) (hD : va_D A (wY cy b0 yv [])) (hS : va_S A s.heap H locs) (hl : lv_has ls 4 [(0, .ref (b0 0)), (1, .int x1), (2, .int x2), (3, .int x3)]) : W p l e { frames := 5, cells := 0, slots := 0, locals := 120 } s m args below meth c H locs 0 0 (MQ below (qI D (wY cy b0 rr.2 []) (rr.1) A) args s 0 0 A) (F0 m 44 ls []) := by
  obtain ⟨hx, hb, hr, hml, hown, hts, hlk, hA, hK⟩ := id M
  unfold f_X1_fewest_44 at h
  refine lv_iload_n hx hb dX1_fewest_44 rfl (lv_at hl 3 rfl) ?_
  refine lv_bipush (v := 30) hx hb dX1_fewest_45 (by decide) ?_
  refine lv_icmp_gt (tgt := 69) hx hb dX1_fewest_47 (by decide) (fun c_1 => ?_) (fun c_1 => ?_)
  · replace h := it_p c_1 h
    refine lv_bipush (v := (-6)) hx hb dX1_fewest_69 (by decide) ?_
    cases h
    have hm : _ = rr := hm
    subst hm
    exact kretI hx hb hr hlk hP hS dX1_fewest_71
  · replace h := it_n c_1 h
    refine lv_aload_n hx hb dX1_fewest_50 rfl (lv_at hl 0 rfl) ?_
    refine lv_iload_n hx hb dX1_fewest_51 rfl (lv_at hl 1 rfl) ?_
    refine lv_iload_n hx hb dX1_fewest_52 rfl (lv_at hl 2 rfl) ?_
    obtain ⟨r_2, hr_2, h⟩ := bn_s h
    refine kcVi (As := [.int x1, .int x2]) (rest := []) (ws' := (wY cy b0 r_2.2 [])) ⟨hx, hb, hml, hown, hts⟩ (cwV 2 hts gX1_fewest_X1_spread rfl rfl rfl ⟨rfl, eX1_spread⟩ ⟨Nat.le_of_ble_eq_true rfl, Nat.le_of_ble_eq_true rfl⟩) (c_X1_spread b0 hr_2) hK hP hD hS hA [0, 1, 2, 3, 4, 5, 6, 7, 8, 9] [] (by decide) rfl rfl 1 rfl rfl [(b0 0), (b0 1), (b0 2), (b0 3), (b0 4), (b0 5), (b0 6), (b0 7), (b0 8), (b0 9)] rfl rfl rfl [] rfl rfl rfl rfl hl.1 rfl (Nat.le_of_ble_eq_true rfl) dX1_fewest_53 (fun H locs hP hD hS => ?_)
    refine lv_if_eq (tgt := 63) hx hb dX1_fewest_56 (by decide) (fun c_3 => ?_) (fun c_3 => ?_)
    · replace h := it_p c_3 h
      obtain ⟨x3_4, ex3_4⟩ : ∃ z : Int32, z = (x3 + (1 : Int32)) := ⟨_, rfl⟩
      replace h := nm_s h ex3_4
      refine lv_iinc (v := x3_4) (lv' := [(3, .int x3_4), (0, .ref (b0 0)), (1, .int x1), (2, .int x2)]) hx hb dX1_fewest_63 hl (k := 3) rfl (by rw [ex3_4]; rfl) (by decide) rfl (fun ls hl => ?_)
      refine lv_goto (tgt := 44) hx hb dX1_fewest_66 (by decide) ?_
      cases h
      exact ih r_2.2 x3_4 _ _ _ hm hP hD hS (lv_sub hl [1, 2, 3, 0] rfl)
    · replace h := it_n c_3 h
      refine lv_iload_n hx hb dX1_fewest_59 rfl (lv_at hl 2 rfl) ?_
      refine lv_iload_n hx hb dX1_fewest_60 rfl (lv_at hl 3 rfl) ?_
      refine lv_iadd hx hb dX1_fewest_61 ?_
      cases h
      have hm : _ = rr := hm
      subst hm
      exact kretI hx hb hr hlk hP hS dX1_fewest_62
set_option maxHeartbeats 4000000 in
set_option maxRecDepth 100000 in
theorem w_X1_fewest_0 {p : Program} {l : Launch} {e : Env} {s : State} {m : MethodId} {args : Array Value} {below : List Frame} {meth : Method} {c : Code} {A : Nat → Prop} {D : va_G} {cy : Nat → ClassId} {b0 : Nat → Nat} {x1 : Int32} {x2 : Int32} {fu : Nat} {rr : Int32 × YS} (M : kM p s m args meth c cX1_fewest 4 (some .int) RX1 wsX1_fewest A D cy) (ih : I_X1_fewest p l e s m args below meth c A D cy b0 x1 x2 fu rr) {yv : YS} {oo : (YS × Int32) ⊕ (Int32 × YS)} (h : f_X1_fewest_0 yv x1 x2 = some oo) (hm : lpo (st_X1_fewest x1 x2) fu oo rr) {H : Heap} {locs : List Loc} {ls : Array Slot} (hP : va_P D vwCl (wY cy b0 yv []) H) (hD : va_D A (wY cy b0 yv [])) (hS : va_S A s.heap H locs) (hl : lv_has ls 4 [(0, .ref (b0 0)), (1, .int x1), (2, .int x2)]) : W p l e { frames := 5, cells := 0, slots := 0, locals := 120 } s m args below meth c H locs 0 0 (MQ below (qI D (wY cy b0 rr.2 []) (rr.1) A) args s 0 0 A) (F0 m 0 ls []) := by
  obtain ⟨hx, hb, hr, hml, hown, hts, hlk, hA, hK⟩ := id M
  unfold f_X1_fewest_0 at h
  refine lv_aload_n hx hb dX1_fewest_0 rfl (lv_at hl 0 rfl) ?_
  obtain ⟨r_1, hr_1, h⟩ := bn_s h
  refine kcVv (As := []) (rest := []) (ws' := (wY cy b0 r_1 [])) ⟨hx, hb, hml, hown, hts⟩ (cwV 0 hts gX1_fewest_X1_payAllThatCan rfl rfl rfl ⟨rfl, eX1_payAllThatCan⟩ ⟨Nat.le_of_ble_eq_true rfl, Nat.le_of_ble_eq_true rfl⟩) (c_X1_payAllThatCan b0 hr_1) hK hP hD hS hA [0, 1, 2, 3, 4, 5, 6, 7, 8, 9] [] (by decide) rfl rfl 1 rfl rfl [(b0 0), (b0 1), (b0 2), (b0 3), (b0 4), (b0 5), (b0 6), (b0 7), (b0 8), (b0 9)] rfl rfl rfl [] rfl rfl rfl rfl hl.1 rfl (Nat.le_of_ble_eq_true rfl) dX1_fewest_1 (fun H locs hP hD hS => ?_)
  refine lv_iload_n hx hb dX1_fewest_4 rfl (lv_at hl 1 rfl) ?_
  obtain ⟨r_2, hr_2, h⟩ := bn_s h
  refine kcNi (As := [.int x1]) (rest := []) ⟨hx, hb, hml, hown, hts⟩ ⟨va_cnB 1 hts gX1_fewest_X3_isMan_n71 rfl rfl rfl (kN_RX1_71 hK.2) (hts _ mX1_fewest_1) eX3_isMan ⟨Nat.le_of_ble_eq_true rfl, Nat.le_of_ble_eq_true rfl⟩, hts _ mX1_fewest_2, trivial⟩ (c_X3_isMan  hr_2) hK hP hS hA rfl hl.1 rfl (Nat.le_of_ble_eq_true rfl) dX1_fewest_5 (fun H locs hP hS => ?_)
  refine lv_if_eq (tgt := 21) hx hb dX1_fewest_8 (by decide) (fun c_3 => ?_) (fun c_3 => ?_)
  · replace h := it_p c_3 h
    refine lv_bipush (v := (-6)) hx hb dX1_fewest_21 (by decide) ?_
    cases h
    have hm : _ = rr := hm
    subst hm
    exact kretI hx hb hr hlk hP hS dX1_fewest_23
  · replace h := it_n c_3 h
    refine lv_aload_n hx hb dX1_fewest_11 rfl (lv_at hl 0 rfl) ?_
    refine va_get (D := D) (ci := 1) (v := .ref (b0 6)) (C := RX1) (T := TX1) (N := 10) hx hb hts iX1_fewest_X1 hown hK.1 hP 0 rfl rfl 5 (by decide) (hts _ mX1_fewest_3) (fun _ h9 => h9) rfl dX1_fewest_12 ?_
    refine lv_iload_n hx hb dX1_fewest_15 rfl (lv_at hl 1 rfl) ?_
    obtain ⟨b_4, h⟩ := ck_s h
    refine va_iald hx hb hK.1 hP 6 1 rfl rfl b_4 dX1_fewest_16 ?_
    refine lv_iload_n hx hb dX1_fewest_17 rfl (lv_at hl 2 rfl) ?_
    refine lv_icmp_ge (tgt := 24) hx hb dX1_fewest_18 (by decide) (fun c_5 => ?_) (fun c_5 => ?_)
    · replace h := it_p c_5 h
      refine lv_aload_n hx hb dX1_fewest_24 rfl (lv_at hl 0 rfl) ?_
      refine lv_iload_n hx hb dX1_fewest_25 rfl (lv_at hl 1 rfl) ?_
      obtain ⟨r_6, hr_6, h⟩ := bn_s h
      refine kcVv (As := [.int x1]) (rest := []) (ws' := (wY cy b0 r_6 [])) ⟨hx, hb, hml, hown, hts⟩ (cwV 1 hts gX1_fewest_X1_setLimits rfl rfl rfl ⟨rfl, eX1_setLimits⟩ ⟨Nat.le_of_ble_eq_true rfl, Nat.le_of_ble_eq_true rfl⟩) (c_X1_setLimits b0 hr_6) hK hP hD hS hA [0, 1, 2, 3, 4, 5, 6, 7, 8, 9] [] (by decide) rfl rfl 1 rfl rfl [(b0 0), (b0 1), (b0 2), (b0 3), (b0 4), (b0 5), (b0 6), (b0 7), (b0 8), (b0 9)] rfl rfl rfl [] rfl rfl rfl rfl hl.1 rfl (Nat.le_of_ble_eq_true rfl) dX1_fewest_26 (fun H locs hP hD hS => ?_)
      refine lv_aload_n hx hb dX1_fewest_29 rfl (lv_at hl 0 rfl) ?_
      refine va_get (D := D) (ci := 1) (v := .ref (b0 9)) (C := RX1) (T := TX1) (N := 10) hx hb hts iX1_fewest_X1 hown hK.1 hP 0 rfl rfl 8 (by decide) (hts _ mX1_fewest_4) (fun _ h9 => h9) rfl dX1_fewest_30 ?_
      refine lv_lconst (v := 0) hx hb dX1_fewest_33 (by decide) ?_
      obtain ⟨r_7, hr_7, h⟩ := bn_s h
      refine kcSv (As := [.ref (b0 9), .long (0 : Int64)]) (rest := []) (ws' := (wY cy b0 (r_6.1, r_6.2.1, r_6.2.2.1, r_6.2.2.2.1, r_6.2.2.2.2.1, r_6.2.2.2.2.2.1, r_6.2.2.2.2.2.2.1, r_6.2.2.2.2.2.2.2.1, r_7, r_6.2.2.2.2.2.2.2.2.2) [])) ⟨hx, hb, hml, hown, hts⟩ (va_cwS 2 hts gX1_fewest_J7_fill_d0a16 rfl rfl rfl eJ7_fill_d0a16 ⟨Nat.le_of_ble_eq_true rfl, Nat.le_of_ble_eq_true rfl⟩) (c_J7_fill_d0a16 (b0 9) hr_7) hK hP hD hS hA [9] [0, 1, 2, 3, 4, 5, 6, 7, 8] (by decide) rfl rfl [(b0 0), (b0 1), (b0 2), (b0 3), (b0 4), (b0 5), (b0 6), (b0 7), (b0 8), (b0 9)] rfl rfl rfl (((b0 0), .inr (1, [.ref (b0 1), .ref (b0 2), .ref (b0 3), .ref (b0 4), .ref (b0 5), .ref (b0 6), .ref (b0 7), .ref (b0 8), .ref (b0 9), .int r_6.2.2.2.2.2.2.2.2.2])) :: (((b0 1), .inl (cy 1, 6, .inl r_6.1)) :: (((b0 2), .inl (cy 1, 6, .inl r_6.2.1)) :: (((b0 3), .inl (cy 1, 6, .inl r_6.2.2.1)) :: (((b0 4), .inl (cy 1, 30, .inl r_6.2.2.2.1)) :: (((b0 5), .inl (cy 1, 30, .inl r_6.2.2.2.2.1)) :: (((b0 6), .inl (cy 1, 6, .inl r_6.2.2.2.2.2.1)) :: (((b0 7), .inl (cy 1, 6, .inl r_6.2.2.2.2.2.2.1)) :: (((b0 8), .inl (cy 1, 6, .inl r_6.2.2.2.2.2.2.2.1)) :: []))))))))) rfl rfl rfl rfl hl.1 rfl (Nat.le_of_ble_eq_true rfl) dX1_fewest_34 (fun H locs hP hD hS => ?_)
      obtain ⟨yv_8, eyv_8⟩ : ∃ z : YS, z = (r_6.1, r_6.2.1, r_6.2.2.1, r_6.2.2.2.1, r_6.2.2.2.2.1, r_6.2.2.2.2.2.1, r_6.2.2.2.2.2.2.1, r_6.2.2.2.2.2.2.2.1, r_7, r_6.2.2.2.2.2.2.2.2.2) := ⟨_, rfl⟩
      replace h := nm_s h eyv_8
      have hP : va_P D vwCl (wY cy b0 yv_8 []) H := by subst eyv_8; exact hP
      have hD : va_D A (wY cy b0 yv_8 []) := hD.lk [(b0 0), (b0 1), (b0 2), (b0 3), (b0 4), (b0 5), (b0 6), (b0 7), (b0 8), (b0 9)] rfl rfl
      refine lv_aload_n hx hb dX1_fewest_37 rfl (lv_at hl 0 rfl) ?_
      refine lv_iconst (v := 0) hx hb dX1_fewest_38 (by decide) ?_
      obtain ⟨r_9, hr_9, h⟩ := bn_s h
      refine kcVv (As := [.int (0 : Int32)]) (rest := []) (ws' := (wY cy b0 r_9 [])) ⟨hx, hb, hml, hown, hts⟩ (cwV 1 hts gX1_fewest_X1_mark rfl rfl rfl ⟨rfl, eX1_mark⟩ ⟨Nat.le_of_ble_eq_true rfl, Nat.le_of_ble_eq_true rfl⟩) (c_X1_mark b0 hr_9) hK hP hD hS hA [0, 1, 2, 3, 4, 5, 6, 7, 8, 9] [] (by decide) rfl rfl 1 rfl rfl [(b0 0), (b0 1), (b0 2), (b0 3), (b0 4), (b0 5), (b0 6), (b0 7), (b0 8), (b0 9)] rfl rfl rfl [] rfl rfl rfl rfl hl.1 rfl (Nat.le_of_ble_eq_true rfl) dX1_fewest_39 (fun H locs hP hD hS => ?_)
      refine lv_iconst (v := 0) hx hb dX1_fewest_42 (by decide) ?_
      refine lv_istore_n (lv' := [(3, .int (0 : Int32)), (0, .ref (b0 0)), (1, .int x1), (2, .int x2)]) hx hb dX1_fewest_43 rfl hl (by decide) rfl (fun ls hl => ?_)
      cases h
      exact ih r_9 (0 : Int32) _ _ _ hm hP hD hS (lv_sub hl [1, 2, 3, 0] rfl)
    · replace h := it_n c_5 h
      refine lv_bipush (v := (-6)) hx hb dX1_fewest_21 (by decide) ?_
      cases h
      have hm : _ = rr := hm
      subst hm
      exact kretI hx hb hr hlk hP hS dX1_fewest_23
theorem wl_X1_fewest {p : Program} {l : Launch} {e : Env} {s : State} {m : MethodId} {args : Array Value} {below : List Frame} {meth : Method} {c : Code} {A : Nat → Prop} {D : va_G} {cy : Nat → ClassId} {b0 : Nat → Nat} {x1 : Int32} {x2 : Int32} {rr : Int32 × YS} (M : kM p s m args meth c cX1_fewest 4 (some .int) RX1 wsX1_fewest A D cy) : ∀ fu : Nat, I_X1_fewest p l e s m args below meth c A D cy b0 x1 x2 fu rr := by
  intro fu
  induction fu with
  | zero => exact (fun _ _ _ _ _ h => by cases h)
  | succ fu ih =>
    exact fun yv x3 H locs ls h hP hD hS hl => by
      obtain ⟨o1, h1, h2⟩ := lpn_s h
      exact w_X1_fewest_44 M ih h1 h2 hP hD hS hl
theorem c_X1_fewest {l : Launch} {D : va_G} {cy : Nat → ClassId} (b0 : Nat → Nat) {yv : YS} {x1 : Int32} {x2 : Int32} {rr : Int32 × YS} (h : f_X1_fewest yv x1 x2 = some rr) : CI l D cy yX1_fewest wsX1_fewest { frames := 5, cells := 0, slots := 0, locals := 120 } [.ref (b0 0), .int x1, .int x2] (wY cy b0 yv []) (rr.1) (wY cy b0 rr.2 []) := by
  refine kofI (cc := cX1_fewest) (maxL := 4) (ret := (some .int)) (by decide) rfl (Nat.le_of_ble_eq_true rfl) ?_
  intro p e s m below meth c A M ls hl hP hD hS
  obtain ⟨o1, fu, h1, h2⟩ := rnx_s h
  exact w_X1_fewest_0 M (wl_X1_fewest M fu) h1 h2 hP hD hS hl
theorem eX1_fewest : yX1_fewest.cls ≠ "java/lang/invoke/MethodHandle" ∧ yX1_fewest.cls ≠ "java/lang/invoke/VarHandle" ∧ (parseMethodDescriptor yX1_fewest.desc).map (fun d => d.parameters.length) = some 2 := by decide +kernel
def I_X1_stillOwing (p : Program) (l : Launch) (e : Env) (s : State) (m : MethodId) (args : Array Value) (below : List Frame) (meth : Method) (c : Code) (A : Nat → Prop) (D : va_G) (cy : Nat → ClassId) (b0 : Nat → Nat) (yv : YS) (fu : Nat) (rr : Int32) : Prop := (∀ (x1 : Int32) (x2 : Int32) (H : Heap) (locs : List Loc) (ls : Array Slot), lpn (st_X1_stillOwing yv) fu (x1, x2) = some rr → va_P D vwCl (wY cy b0 yv []) H → va_D A (wY cy b0 yv []) → va_S A s.heap H locs → lv_has ls 3 [(0, .ref (b0 0)), (1, .int x1), (2, .int x2)] → W p l e { frames := 1, cells := 0, slots := 0, locals := 21 } s m args below meth c H locs 0 0 (MQ below (qI D (wY cy b0 yv []) (rr) A) args s 0 0 A) (F0 m 4 ls []))
set_option maxHeartbeats 4000000 in
set_option maxRecDepth 100000 in
theorem w_X1_stillOwing_4 {p : Program} {l : Launch} {e : Env} {s : State} {m : MethodId} {args : Array Value} {below : List Frame} {meth : Method} {c : Code} {A : Nat → Prop} {D : va_G} {cy : Nat → ClassId} {b0 : Nat → Nat} {yv : YS} {fu : Nat} {rr : Int32} (M : kM p s m args meth c cX1_stillOwing 3 (some .int) RX1 wsX1_stillOwing A D cy) (ih : I_X1_stillOwing p l e s m args below meth c A D cy b0 yv fu rr) {x1 : Int32} {x2 : Int32} {oo : (Int32 × Int32) ⊕ (Int32)} (h : f_X1_stillOwing_4 yv x1 x2 = some oo) (hm : lpo (st_X1_stillOwing yv) fu oo rr) {H : Heap} {locs : List Loc} {ls : Array Slot} (hP : va_P D vwCl (wY cy b0 yv []) H) (hD : va_D A (wY cy b0 yv [])) (hS : va_S A s.heap H locs) (hl : lv_has ls 3 [(0, .ref (b0 0)), (1, .int x1), (2, .int x2)]) : W p l e { frames := 1, cells := 0, slots := 0, locals := 21 } s m args below meth c H locs 0 0 (MQ below (qI D (wY cy b0 yv []) (rr) A) args s 0 0 A) (F0 m 4 ls []) := by
  obtain ⟨hx, hb, hr, hml, hown, hts, hlk, hA, hK⟩ := id M
  unfold f_X1_stillOwing_4 at h
  refine lv_iload_n hx hb dX1_stillOwing_4 rfl (lv_at hl 2 rfl) ?_
  refine lv_bipush (v := 6) hx hb dX1_stillOwing_5 (by decide) ?_
  refine lv_icmp_ge (tgt := 34) hx hb dX1_stillOwing_7 (by decide) (fun c_1 => ?_) (fun c_1 => ?_)
  · replace h := it_p c_1 h
    refine lv_iload_n hx hb dX1_stillOwing_34 rfl (lv_at hl 1 rfl) ?_
    cases h
    have hm : _ = rr := hm
    subst hm
    exact kretI hx hb hr hlk hP hS dX1_stillOwing_35
  · replace h := it_n c_1 h
    refine lv_iload_n hx hb dX1_stillOwing_10 rfl (lv_at hl 1 rfl) ?_
    refine lv_aload_n hx hb dX1_stillOwing_11 rfl (lv_at hl 0 rfl) ?_
    refine lv_iload_n hx hb dX1_stillOwing_12 rfl (lv_at hl 2 rfl) ?_
    obtain ⟨r_2, hr_2, h⟩ := bn_s h
    refine kcVi (As := [.int x2]) (rest := [.int x1]) (ws' := (wY cy b0 yv [])) ⟨hx, hb, hml, hown, hts⟩ (cwV 1 hts gX1_stillOwing_X1_isPaidUp rfl rfl rfl ⟨rfl, eX1_isPaidUp⟩ ⟨Nat.le_of_ble_eq_true rfl, Nat.le_of_ble_eq_true rfl⟩) (c_X1_isPaidUp b0 hr_2) hK hP hD hS hA [0, 1, 2, 3, 4, 5, 6, 7, 8, 9] [] (by decide) rfl rfl 1 rfl rfl [(b0 0), (b0 1), (b0 2), (b0 3), (b0 4), (b0 5), (b0 6), (b0 7), (b0 8), (b0 9)] rfl rfl rfl [] rfl rfl rfl rfl hl.1 rfl (Nat.le_of_ble_eq_true rfl) dX1_stillOwing_13 (fun H locs hP hD hS => ?_)
    refine lv_if_eq (tgt := 23) hx hb dX1_stillOwing_16 (by decide) (fun c_3 => ?_) (fun c_3 => ?_)
    · replace h := it_p c_3 h
      refine lv_iconst (v := 1) hx hb dX1_stillOwing_23 (by decide) ?_
      refine lv_iload_n hx hb dX1_stillOwing_24 rfl (lv_at hl 2 rfl) ?_
      refine lv_ishl hx hb dX1_stillOwing_25 ?_
      refine lv_ior hx hb dX1_stillOwing_26 ?_
      refine lv_topi (fun x1_4 ex1_4 => ?_)
      replace h := nm_s h ex1_4
      refine lv_istore_n (lv' := [(1, .int x1_4), (0, .ref (b0 0)), (2, .int x2)]) hx hb dX1_stillOwing_27 rfl hl (by decide) rfl (fun ls hl => ?_)
      obtain ⟨x2_5, ex2_5⟩ : ∃ z : Int32, z = (x2 + (1 : Int32)) := ⟨_, rfl⟩
      replace h := nm_s h ex2_5
      refine lv_iinc (v := x2_5) (lv' := [(2, .int x2_5), (1, .int x1_4), (0, .ref (b0 0))]) hx hb dX1_stillOwing_28 hl (k := 2) rfl (by rw [ex2_5]; rfl) (by decide) rfl (fun ls hl => ?_)
      refine lv_goto (tgt := 4) hx hb dX1_stillOwing_31 (by decide) ?_
      cases h
      exact ih x1_4 x2_5 _ _ _ hm hP hD hS (lv_sub hl [2, 1, 0] rfl)
    · replace h := it_n c_3 h
      refine lv_iconst (v := 0) hx hb dX1_stillOwing_19 (by decide) ?_
      refine lv_goto (tgt := 26) hx hb dX1_stillOwing_20 (by decide) ?_
      refine lv_ior hx hb dX1_stillOwing_26 ?_
      refine lv_topi (fun x1_6 ex1_6 => ?_)
      replace h := nm_s h ex1_6
      refine lv_istore_n (lv' := [(1, .int x1_6), (0, .ref (b0 0)), (2, .int x2)]) hx hb dX1_stillOwing_27 rfl hl (by decide) rfl (fun ls hl => ?_)
      obtain ⟨x2_7, ex2_7⟩ : ∃ z : Int32, z = (x2 + (1 : Int32)) := ⟨_, rfl⟩
      replace h := nm_s h ex2_7
      refine lv_iinc (v := x2_7) (lv' := [(2, .int x2_7), (1, .int x1_6), (0, .ref (b0 0))]) hx hb dX1_stillOwing_28 hl (k := 2) rfl (by rw [ex2_7]; rfl) (by decide) rfl (fun ls hl => ?_)
      refine lv_goto (tgt := 4) hx hb dX1_stillOwing_31 (by decide) ?_
      cases h
      exact ih x1_6 x2_7 _ _ _ hm hP hD hS (lv_sub hl [2, 1, 0] rfl)
set_option maxHeartbeats 4000000 in
set_option maxRecDepth 100000 in
theorem w_X1_stillOwing_0 {p : Program} {l : Launch} {e : Env} {s : State} {m : MethodId} {args : Array Value} {below : List Frame} {meth : Method} {c : Code} {A : Nat → Prop} {D : va_G} {cy : Nat → ClassId} {b0 : Nat → Nat} {yv : YS} {fu : Nat} {rr : Int32} (M : kM p s m args meth c cX1_stillOwing 3 (some .int) RX1 wsX1_stillOwing A D cy) (ih : I_X1_stillOwing p l e s m args below meth c A D cy b0 yv fu rr)  {oo : (Int32 × Int32) ⊕ (Int32)} (h : f_X1_stillOwing_0 yv = some oo) (hm : lpo (st_X1_stillOwing yv) fu oo rr) {H : Heap} {locs : List Loc} {ls : Array Slot} (hP : va_P D vwCl (wY cy b0 yv []) H) (hD : va_D A (wY cy b0 yv [])) (hS : va_S A s.heap H locs) (hl : lv_has ls 3 [(0, .ref (b0 0))]) : W p l e { frames := 1, cells := 0, slots := 0, locals := 21 } s m args below meth c H locs 0 0 (MQ below (qI D (wY cy b0 yv []) (rr) A) args s 0 0 A) (F0 m 0 ls []) := by
  obtain ⟨hx, hb, hr, hml, hown, hts, hlk, hA, hK⟩ := id M
  unfold f_X1_stillOwing_0 at h
  refine lv_iconst (v := 0) hx hb dX1_stillOwing_0 (by decide) ?_
  refine lv_istore_n (lv' := [(1, .int (0 : Int32)), (0, .ref (b0 0))]) hx hb dX1_stillOwing_1 rfl hl (by decide) rfl (fun ls hl => ?_)
  refine lv_iconst (v := 0) hx hb dX1_stillOwing_2 (by decide) ?_
  refine lv_istore_n (lv' := [(2, .int (0 : Int32)), (1, .int (0 : Int32)), (0, .ref (b0 0))]) hx hb dX1_stillOwing_3 rfl hl (by decide) rfl (fun ls hl => ?_)
  cases h
  exact ih (0 : Int32) (0 : Int32) _ _ _ hm hP hD hS (lv_sub hl [2, 1, 0] rfl)
theorem wl_X1_stillOwing {p : Program} {l : Launch} {e : Env} {s : State} {m : MethodId} {args : Array Value} {below : List Frame} {meth : Method} {c : Code} {A : Nat → Prop} {D : va_G} {cy : Nat → ClassId} {b0 : Nat → Nat} {yv : YS} {rr : Int32} (M : kM p s m args meth c cX1_stillOwing 3 (some .int) RX1 wsX1_stillOwing A D cy) : ∀ fu : Nat, I_X1_stillOwing p l e s m args below meth c A D cy b0 yv fu rr := by
  intro fu
  induction fu with
  | zero => exact (fun _ _ _ _ _ h => by cases h)
  | succ fu ih =>
    exact fun x1 x2 H locs ls h hP hD hS hl => by
      obtain ⟨o1, h1, h2⟩ := lpn_s h
      exact w_X1_stillOwing_4 M ih h1 h2 hP hD hS hl
theorem c_X1_stillOwing {l : Launch} {D : va_G} {cy : Nat → ClassId} (b0 : Nat → Nat) {yv : YS} {rr : Int32} (h : f_X1_stillOwing yv = some rr) : CI l D cy yX1_stillOwing wsX1_stillOwing { frames := 1, cells := 0, slots := 0, locals := 21 } [.ref (b0 0)] (wY cy b0 yv []) (rr) (wY cy b0 yv []) := by
  refine kofI (cc := cX1_stillOwing) (maxL := 3) (ret := (some .int)) (by decide) rfl (Nat.le_of_ble_eq_true rfl) ?_
  intro p e s m below meth c A M ls hl hP hD hS
  obtain ⟨o1, fu, h1, h2⟩ := rnx_s h
  exact w_X1_stillOwing_0 M (wl_X1_stillOwing M fu) h1 h2 hP hD hS hl
theorem eX1_stillOwing : yX1_stillOwing.cls ≠ "java/lang/invoke/MethodHandle" ∧ yX1_stillOwing.cls ≠ "java/lang/invoke/VarHandle" ∧ (parseMethodDescriptor yX1_stillOwing.desc).map (fun d => d.parameters.length) = some 0 := by decide +kernel
theorem iX1_leastHelp_X1 : ∀ w ∈ u_ws RX1 TX1 10, w ∈ wsX1_leastHelp := by decide +kernel
theorem mX1_leastHelp_1 : Cond.initialized RX3 ∈ wsX1_leastHelp := by decide +kernel
theorem mX1_leastHelp_2 : Cond.static yX3_isMan ∈ wsX1_leastHelp := by decide +kernel
theorem mX1_leastHelp_3 : Cond.fieldLink RX1 24 "LentPiles$Payings" "pence" "[I" ∈ wsX1_leastHelp := by decide +kernel
theorem mX1_leastHelp_4 : Cond.fieldLink RX1 27 "LentPiles$Payings" "paid" "[I" ∈ wsX1_leastHelp := by decide +kernel
theorem mX1_leastHelp_5 : Cond.fieldLink RX1 15 "LentPiles$Payings" "purse" "[I" ∈ wsX1_leastHelp := by decide +kernel
def I_X1_leastHelp (p : Program) (l : Launch) (e : Env) (s : State) (m : MethodId) (args : Array Value) (below : List Frame) (meth : Method) (c : Code) (A : Nat → Prop) (D : va_G) (cy : Nat → ClassId) (b0 : Nat → Nat) (x1 : Int32) (fu : Nat) (rr : Int32 × YS) : Prop := (∀ (yv : YS) (x2 : Int32) (x3 : Int32) (H : Heap) (locs : List Loc) (ls : Array Slot), lpn (st_X1_leastHelp x1) fu (yv, x2, x3) = some rr → va_P D vwCl (wY cy b0 yv []) H → va_D A (wY cy b0 yv []) → va_S A s.heap H locs → lv_has ls 5 [(0, .ref (b0 0)), (1, .int x1), (2, .int x2), (3, .int x3)] → W p l e { frames := 3, cells := 0, slots := 0, locals := 67 } s m args below meth c H locs 0 0 (MQ below (qI D (wY cy b0 rr.2 []) (rr.1) A) args s 0 0 A) (F0 m 4 ls []))
set_option maxHeartbeats 4000000 in
set_option maxRecDepth 100000 in
theorem w_X1_leastHelp_4 {p : Program} {l : Launch} {e : Env} {s : State} {m : MethodId} {args : Array Value} {below : List Frame} {meth : Method} {c : Code} {A : Nat → Prop} {D : va_G} {cy : Nat → ClassId} {b0 : Nat → Nat} {x1 : Int32} {fu : Nat} {rr : Int32 × YS} (M : kM p s m args meth c cX1_leastHelp 5 (some .int) RX1 wsX1_leastHelp A D cy) (ih : I_X1_leastHelp p l e s m args below meth c A D cy b0 x1 fu rr) {yv : YS} {x2 : Int32} {x3 : Int32} {oo : (YS × Int32 × Int32) ⊕ (Int32 × YS)} (h : f_X1_leastHelp_4 x1 yv x2 x3 = some oo) (hm : lpo (st_X1_leastHelp x1) fu oo rr) {H : Heap} {locs : List Loc} {ls : Array Slot} (hP : va_P D vwCl (wY cy b0 yv []) H) (hD : va_D A (wY cy b0 yv [])) (hS : va_S A s.heap H locs) (hl : lv_has ls 5 [(0, .ref (b0 0)), (1, .int x1), (2, .int x2), (3, .int x3)]) : W p l e { frames := 3, cells := 0, slots := 0, locals := 67 } s m args below meth c H locs 0 0 (MQ below (qI D (wY cy b0 rr.2 []) (rr.1) A) args s 0 0 A) (F0 m 4 ls []) := by
  obtain ⟨hx, hb, hr, hml, hown, hts, hlk, hA, hK⟩ := id M
  unfold f_X1_leastHelp_4 at h
  refine lv_iload_n hx hb dX1_leastHelp_4 rfl (lv_at hl 3 rfl) ?_
  refine lv_iconst (v := 5) hx hb dX1_leastHelp_5 (by decide) ?_
  refine lv_icmp_gt (tgt := 86) hx hb dX1_leastHelp_6 (by decide) (fun c_1 => ?_) (fun c_1 => ?_)
  · replace h := it_p c_1 h
    refine lv_bipush (v := (-6)) hx hb dX1_leastHelp_86 (by decide) ?_
    cases h
    have hm : _ = rr := hm
    subst hm
    exact kretI hx hb hr hlk hP hS dX1_leastHelp_88
  · replace h := it_n c_1 h
    refine lv_aload_n hx hb dX1_leastHelp_9 rfl (lv_at hl 0 rfl) ?_
    obtain ⟨r_2, hr_2, h⟩ := bn_s h
    refine kcVv (As := []) (rest := []) (ws' := (wY cy b0 r_2 [])) ⟨hx, hb, hml, hown, hts⟩ (cwV 0 hts gX1_leastHelp_X1_payAllThatCan rfl rfl rfl ⟨rfl, eX1_payAllThatCan⟩ ⟨Nat.le_of_ble_eq_true rfl, Nat.le_of_ble_eq_true rfl⟩) (c_X1_payAllThatCan b0 hr_2) hK hP hD hS hA [0, 1, 2, 3, 4, 5, 6, 7, 8, 9] [] (by decide) rfl rfl 1 rfl rfl [(b0 0), (b0 1), (b0 2), (b0 3), (b0 4), (b0 5), (b0 6), (b0 7), (b0 8), (b0 9)] rfl rfl rfl [] rfl rfl rfl rfl hl.1 rfl (Nat.le_of_ble_eq_true rfl) dX1_leastHelp_10 (fun H locs hP hD hS => ?_)
    refine lv_aload_n hx hb dX1_leastHelp_13 rfl (lv_at hl 0 rfl) ?_
    obtain ⟨r_3, hr_3, h⟩ := bn_s h
    refine kcVi (As := []) (rest := []) (ws' := (wY cy b0 r_2 [])) ⟨hx, hb, hml, hown, hts⟩ (cwV 0 hts gX1_leastHelp_X1_stillOwing rfl rfl rfl ⟨rfl, eX1_stillOwing⟩ ⟨Nat.le_of_ble_eq_true rfl, Nat.le_of_ble_eq_true rfl⟩) (c_X1_stillOwing b0 hr_3) hK hP hD hS hA [0, 1, 2, 3, 4, 5, 6, 7, 8, 9] [] (by decide) rfl rfl 1 rfl rfl [(b0 0), (b0 1), (b0 2), (b0 3), (b0 4), (b0 5), (b0 6), (b0 7), (b0 8), (b0 9)] rfl rfl rfl [] rfl rfl rfl rfl hl.1 rfl (Nat.le_of_ble_eq_true rfl) dX1_leastHelp_14 (fun H locs hP hD hS => ?_)
    refine lv_if_ne (tgt := 22) hx hb dX1_leastHelp_17 (by decide) (fun c_4 => ?_) (fun c_4 => ?_)
    · replace h := it_n c_4 h
      refine lv_iload_n hx hb dX1_leastHelp_22 rfl (lv_at hl 1 rfl) ?_
      obtain ⟨r_5, hr_5, h⟩ := bn_s h
      refine kcNi (As := [.int x1]) (rest := []) ⟨hx, hb, hml, hown, hts⟩ ⟨va_cnB 1 hts gX1_leastHelp_X3_isMan_n71 rfl rfl rfl (kN_RX1_71 hK.2) (hts _ mX1_leastHelp_1) eX3_isMan ⟨Nat.le_of_ble_eq_true rfl, Nat.le_of_ble_eq_true rfl⟩, hts _ mX1_leastHelp_2, trivial⟩ (c_X3_isMan  hr_5) hK hP hS hA rfl hl.1 rfl (Nat.le_of_ble_eq_true rfl) dX1_leastHelp_23 (fun H locs hP hS => ?_)
      refine lv_if_eq (tgt := 37) hx hb dX1_leastHelp_26 (by decide) (fun c_6 => ?_) (fun c_6 => ?_)
      · replace h := it_p c_6 h
        refine lv_bipush (v := (-6)) hx hb dX1_leastHelp_37 (by decide) ?_
        cases h
        have hm : _ = rr := hm
        subst hm
        exact kretI hx hb hr hlk hP hS dX1_leastHelp_39
      · replace h := it_n c_6 h
        refine lv_aload_n hx hb dX1_leastHelp_29 rfl (lv_at hl 0 rfl) ?_
        refine lv_iload_n hx hb dX1_leastHelp_30 rfl (lv_at hl 1 rfl) ?_
        obtain ⟨r_7, hr_7, h⟩ := bn_s h
        refine kcVi (As := [.int x1]) (rest := []) (ws' := (wY cy b0 r_2 [])) ⟨hx, hb, hml, hown, hts⟩ (cwV 1 hts gX1_leastHelp_X1_isPaidUp rfl rfl rfl ⟨rfl, eX1_isPaidUp⟩ ⟨Nat.le_of_ble_eq_true rfl, Nat.le_of_ble_eq_true rfl⟩) (c_X1_isPaidUp b0 hr_7) hK hP hD hS hA [0, 1, 2, 3, 4, 5, 6, 7, 8, 9] [] (by decide) rfl rfl 1 rfl rfl [(b0 0), (b0 1), (b0 2), (b0 3), (b0 4), (b0 5), (b0 6), (b0 7), (b0 8), (b0 9)] rfl rfl rfl [] rfl rfl rfl rfl hl.1 rfl (Nat.le_of_ble_eq_true rfl) dX1_leastHelp_31 (fun H locs hP hD hS => ?_)
        refine lv_if_eq (tgt := 40) hx hb dX1_leastHelp_34 (by decide) (fun c_8 => ?_) (fun c_8 => ?_)
        · replace h := it_p c_8 h
          refine lv_aload_n hx hb dX1_leastHelp_40 rfl (lv_at hl 0 rfl) ?_
          refine va_get (D := D) (ci := 1) (v := .ref (b0 5)) (C := RX1) (T := TX1) (N := 10) hx hb hts iX1_leastHelp_X1 hown hK.1 hP 0 rfl rfl 4 (by decide) (hts _ mX1_leastHelp_3) (fun _ h9 => h9) rfl dX1_leastHelp_41 ?_
          refine lv_iload_n hx hb dX1_leastHelp_44 rfl (lv_at hl 1 rfl) ?_
          refine lv_iconst (v := 5) hx hb dX1_leastHelp_45 (by decide) ?_
          refine lv_imul hx hb dX1_leastHelp_46 ?_
          refine lv_aload_n hx hb dX1_leastHelp_47 rfl (lv_at hl 0 rfl) ?_
          refine va_get (D := D) (ci := 1) (v := .ref (b0 6)) (C := RX1) (T := TX1) (N := 10) hx hb hts iX1_leastHelp_X1 hown hK.1 hP 0 rfl rfl 5 (by decide) (hts _ mX1_leastHelp_4) (fun _ h9 => h9) rfl dX1_leastHelp_48 ?_
          refine lv_iload_n hx hb dX1_leastHelp_51 rfl (lv_at hl 1 rfl) ?_
          obtain ⟨b_9, h⟩ := ck_s h
          refine va_iald hx hb hK.1 hP 6 1 rfl rfl b_9 dX1_leastHelp_52 ?_
          refine lv_iadd hx hb dX1_leastHelp_53 ?_
          obtain ⟨b_10, h⟩ := ck_s h
          refine va_iald hx hb hK.1 hP 5 1 rfl rfl b_10 dX1_leastHelp_54 ?_
          refine lv_aload_n hx hb dX1_leastHelp_55 rfl (lv_at hl 0 rfl) ?_
          refine va_get (D := D) (ci := 1) (v := .ref (b0 2)) (C := RX1) (T := TX1) (N := 10) hx hb hts iX1_leastHelp_X1 hown hK.1 hP 0 rfl rfl 1 (by decide) (hts _ mX1_leastHelp_5) (fun _ h9 => h9) rfl dX1_leastHelp_56 ?_
          refine lv_iload_n hx hb dX1_leastHelp_59 rfl (lv_at hl 1 rfl) ?_
          refine va_iald hx hb hK.1 hP 2 1 rfl rfl b_9 dX1_leastHelp_60 ?_
          refine lv_isub hx hb dX1_leastHelp_61 ?_
          refine lv_topi (fun x4_11 ex4_11 => ?_)
          replace h := nm_s h ex4_11
          refine lv_istore (lv' := [(4, .int x4_11), (0, .ref (b0 0)), (1, .int x1), (2, .int x2), (3, .int x3)]) hx hb dX1_leastHelp_62 hl (by decide) rfl (fun ls hl => ?_)
          refine lv_aload_n hx hb dX1_leastHelp_64 rfl (lv_at hl 1 rfl) ?_
          refine va_get (D := D) (ci := 1) (v := .ref (b0 2)) (C := RX1) (T := TX1) (N := 10) hx hb hts iX1_leastHelp_X1 hown hK.1 hP 0 rfl rfl 1 (by decide) (hts _ mX1_leastHelp_5) (fun _ h9 => h9) rfl dX1_leastHelp_65 ?_
          refine lv_iload_n hx hb dX1_leastHelp_68 rfl (lv_at hl 2 rfl) ?_
          refine lv_dup2_11 hx hb dX1_leastHelp_69 rfl rfl ?_
          refine va_iald hx hb hK.1 hP 2 1 rfl rfl b_9 dX1_leastHelp_70 ?_
          refine lv_iload hx hb dX1_leastHelp_71 (lv_at hl 0 rfl) ?_
          refine lv_iadd hx hb dX1_leastHelp_73 ?_
          refine va_iast hx hb hK.1 hP hD hS 2 1 rfl rfl b_9 dX1_leastHelp_74 (fun H locs hP hD hS => ?_)
          obtain ⟨yv_12, eyv_12⟩ : ∃ z : YS, z = (r_2.1, (upd r_2.2.1 x1.toNatClampNeg ((r_2.2.1 x1.toNatClampNeg) + x4_11)), r_2.2.2) := ⟨_, rfl⟩
          replace h := nm_s h eyv_12
          have hP : va_P D vwCl (wY cy b0 yv_12 []) H := by subst eyv_12; exact hP
          have hD : va_D A (wY cy b0 yv_12 []) := hD.lk [(b0 0), (b0 1), (b0 2), (b0 3), (b0 4), (b0 5), (b0 6), (b0 7), (b0 8), (b0 9)] rfl rfl
          refine lv_iload_n hx hb dX1_leastHelp_75 rfl (lv_at hl 3 rfl) ?_
          refine lv_iload hx hb dX1_leastHelp_76 (lv_at hl 0 rfl) ?_
          refine lv_iadd hx hb dX1_leastHelp_78 ?_
          refine lv_topi (fun x2_13 ex2_13 => ?_)
          replace h := nm_s h ex2_13
          refine lv_istore_n (lv' := [(2, .int x2_13), (4, .int x4_11), (0, .ref (b0 0)), (1, .int x1), (3, .int x3)]) hx hb dX1_leastHelp_79 rfl hl (by decide) rfl (fun ls hl => ?_)
          obtain ⟨x3_14, ex3_14⟩ : ∃ z : Int32, z = (x3 + (1 : Int32)) := ⟨_, rfl⟩
          replace h := nm_s h ex3_14
          refine lv_iinc (v := x3_14) (lv' := [(3, .int x3_14), (2, .int x2_13), (4, .int x4_11), (0, .ref (b0 0)), (1, .int x1)]) hx hb dX1_leastHelp_80 hl (k := 4) rfl (by rw [ex3_14]; rfl) (by decide) rfl (fun ls hl => ?_)
          refine lv_goto (tgt := 4) hx hb dX1_leastHelp_83 (by decide) ?_
          cases h
          exact ih yv_12 x2_13 x3_14 _ _ _ hm hP hD hS (lv_sub hl [3, 4, 1, 0] rfl)
        · replace h := it_n c_8 h
          refine lv_bipush (v := (-6)) hx hb dX1_leastHelp_37 (by decide) ?_
          cases h
          have hm : _ = rr := hm
          subst hm
          exact kretI hx hb hr hlk hP hS dX1_leastHelp_39
    · replace h := it_p c_4 h
      refine lv_iload_n hx hb dX1_leastHelp_20 rfl (lv_at hl 2 rfl) ?_
      cases h
      have hm : _ = rr := hm
      subst hm
      exact kretI hx hb hr hlk hP hS dX1_leastHelp_21
set_option maxHeartbeats 4000000 in
set_option maxRecDepth 100000 in
theorem w_X1_leastHelp_0 {p : Program} {l : Launch} {e : Env} {s : State} {m : MethodId} {args : Array Value} {below : List Frame} {meth : Method} {c : Code} {A : Nat → Prop} {D : va_G} {cy : Nat → ClassId} {b0 : Nat → Nat} {x1 : Int32} {fu : Nat} {rr : Int32 × YS} (M : kM p s m args meth c cX1_leastHelp 5 (some .int) RX1 wsX1_leastHelp A D cy) (ih : I_X1_leastHelp p l e s m args below meth c A D cy b0 x1 fu rr) {yv : YS} {oo : (YS × Int32 × Int32) ⊕ (Int32 × YS)} (h : f_X1_leastHelp_0 yv x1 = some oo) (hm : lpo (st_X1_leastHelp x1) fu oo rr) {H : Heap} {locs : List Loc} {ls : Array Slot} (hP : va_P D vwCl (wY cy b0 yv []) H) (hD : va_D A (wY cy b0 yv [])) (hS : va_S A s.heap H locs) (hl : lv_has ls 5 [(0, .ref (b0 0)), (1, .int x1)]) : W p l e { frames := 3, cells := 0, slots := 0, locals := 67 } s m args below meth c H locs 0 0 (MQ below (qI D (wY cy b0 rr.2 []) (rr.1) A) args s 0 0 A) (F0 m 0 ls []) := by
  obtain ⟨hx, hb, hr, hml, hown, hts, hlk, hA, hK⟩ := id M
  unfold f_X1_leastHelp_0 at h
  refine lv_iconst (v := 0) hx hb dX1_leastHelp_0 (by decide) ?_
  refine lv_istore_n (lv' := [(2, .int (0 : Int32)), (0, .ref (b0 0)), (1, .int x1)]) hx hb dX1_leastHelp_1 rfl hl (by decide) rfl (fun ls hl => ?_)
  refine lv_iconst (v := 0) hx hb dX1_leastHelp_2 (by decide) ?_
  refine lv_istore_n (lv' := [(3, .int (0 : Int32)), (2, .int (0 : Int32)), (0, .ref (b0 0)), (1, .int x1)]) hx hb dX1_leastHelp_3 rfl hl (by decide) rfl (fun ls hl => ?_)
  cases h
  exact ih yv (0 : Int32) (0 : Int32) _ _ _ hm hP hD hS (lv_sub hl [2, 3, 1, 0] rfl)
theorem wl_X1_leastHelp {p : Program} {l : Launch} {e : Env} {s : State} {m : MethodId} {args : Array Value} {below : List Frame} {meth : Method} {c : Code} {A : Nat → Prop} {D : va_G} {cy : Nat → ClassId} {b0 : Nat → Nat} {x1 : Int32} {rr : Int32 × YS} (M : kM p s m args meth c cX1_leastHelp 5 (some .int) RX1 wsX1_leastHelp A D cy) : ∀ fu : Nat, I_X1_leastHelp p l e s m args below meth c A D cy b0 x1 fu rr := by
  intro fu
  induction fu with
  | zero => exact (fun _ _ _ _ _ _ h => by cases h)
  | succ fu ih =>
    exact fun yv x2 x3 H locs ls h hP hD hS hl => by
      obtain ⟨o1, h1, h2⟩ := lpn_s h
      exact w_X1_leastHelp_4 M ih h1 h2 hP hD hS hl
theorem c_X1_leastHelp {l : Launch} {D : va_G} {cy : Nat → ClassId} (b0 : Nat → Nat) {yv : YS} {x1 : Int32} {rr : Int32 × YS} (h : f_X1_leastHelp yv x1 = some rr) : CI l D cy yX1_leastHelp wsX1_leastHelp { frames := 3, cells := 0, slots := 0, locals := 67 } [.ref (b0 0), .int x1] (wY cy b0 yv []) (rr.1) (wY cy b0 rr.2 []) := by
  refine kofI (cc := cX1_leastHelp) (maxL := 5) (ret := (some .int)) (by decide) rfl (Nat.le_of_ble_eq_true rfl) ?_
  intro p e s m below meth c A M ls hl hP hD hS
  obtain ⟨o1, fu, h1, h2⟩ := rnx_s h
  exact w_X1_leastHelp_0 M (wl_X1_leastHelp M fu) h1 h2 hP hD hS hl
theorem eX1_leastHelp : yX1_leastHelp.cls ≠ "java/lang/invoke/MethodHandle" ∧ yX1_leastHelp.cls ≠ "java/lang/invoke/VarHandle" ∧ (parseMethodDescriptor yX1_leastHelp.desc).map (fun d => d.parameters.length) = some 1 := by decide +kernel
theorem iX1_load_X1 : ∀ w ∈ u_ws RX1 TX1 10, w ∈ wsX1_load := by decide +kernel
theorem mX1_load_1 : Cond.fieldLink RX1 11 "LentPiles$Payings" "firstPurse" "[I" ∈ wsX1_load := by decide +kernel
theorem mX1_load_2 : Cond.fieldLink RX1 15 "LentPiles$Payings" "purse" "[I" ∈ wsX1_load := by decide +kernel
theorem mX1_load_3 : Cond.fieldLink RX1 18 "LentPiles$Payings" "height" "[I" ∈ wsX1_load := by decide +kernel
theorem mX1_load_4 : Cond.fieldLink RX1 27 "LentPiles$Payings" "paid" "[I" ∈ wsX1_load := by decide +kernel
theorem mX1_load_5 : Cond.initialized RX3 ∈ wsX1_load := by decide +kernel
theorem mX1_load_6 : Cond.static yX3_isWithin ∈ wsX1_load := by decide +kernel
theorem mX1_load_7 : Cond.fieldLink RX1 21 "LentPiles$Payings" "lender" "[I" ∈ wsX1_load := by decide +kernel
theorem mX1_load_8 : Cond.fieldLink RX1 24 "LentPiles$Payings" "pence" "[I" ∈ wsX1_load := by decide +kernel
def I_X1_load (p : Program) (l : Launch) (e : Env) (s : State) (m : MethodId) (args : Array Value) (below : List Frame) (meth : Method) (c : Code) (A : Nat → Prop) (D : va_G) (cy : Nat → ClassId) (b0 : Nat → Nat) (b1 : Nat → Nat) (vv : VS) (fu : Nat) (rr : YS) : Prop := (∀ (yv : YS) (x2 : Int32) (H : Heap) (locs : List Loc) (ls : Array Slot), lpn (st_X1_load vv) fu (.inl (yv, x2)) = some rr → va_P D vwCl (wY cy b0 yv (wV cy b1 vv [])) H → va_D A (wY cy b0 yv (wV cy b1 vv [])) → va_S A s.heap H locs → lv_has ls 6 [(0, .ref (b0 0)), (1, .ref (b1 0)), (2, .int x2)] → W p l e { frames := 3, cells := 0, slots := 0, locals := 71 } s m args below meth c H locs 0 0 (MQ below (qV D (wY cy b0 rr (wV cy b1 vv [])) A) args s 0 0 A) (F0 m 2 ls [])) ∧ (∀ (yv : YS) (x2 : Int32) (x3 : Int32) (H : Heap) (locs : List Loc) (ls : Array Slot), lpn (st_X1_load vv) fu (.inr (yv, x2, x3)) = some rr → va_P D vwCl (wY cy b0 yv (wV cy b1 vv [])) H → va_D A (wY cy b0 yv (wV cy b1 vv [])) → va_S A s.heap H locs → lv_has ls 6 [(0, .ref (b0 0)), (1, .ref (b1 0)), (2, .int x2), (3, .int x3)] → W p l e { frames := 3, cells := 0, slots := 0, locals := 71 } s m args below meth c H locs 0 0 (MQ below (qV D (wY cy b0 rr (wV cy b1 vv [])) A) args s 0 0 A) (F0 m 51 ls []))
set_option maxHeartbeats 4000000 in
set_option maxRecDepth 100000 in
theorem w_X1_load_51 {p : Program} {l : Launch} {e : Env} {s : State} {m : MethodId} {args : Array Value} {below : List Frame} {meth : Method} {c : Code} {A : Nat → Prop} {D : va_G} {cy : Nat → ClassId} {b0 : Nat → Nat} {b1 : Nat → Nat} {vv : VS} {fu : Nat} {rr : YS} (M : kM p s m args meth c cX1_load 6 none RX1 wsX1_load A D cy) (ih : I_X1_load p l e s m args below meth c A D cy b0 b1 vv fu rr) {yv : YS} {x2 : Int32} {x3 : Int32} {oo : ((YS × Int32) ⊕ (YS × Int32 × Int32)) ⊕ (YS)} (h : f_X1_load_51 vv yv x2 x3 = some oo) (hm : lpo (st_X1_load vv) fu oo rr) {H : Heap} {locs : List Loc} {ls : Array Slot} (hP : va_P D vwCl (wY cy b0 yv (wV cy b1 vv [])) H) (hD : va_D A (wY cy b0 yv (wV cy b1 vv []))) (hS : va_S A s.heap H locs) (hl : lv_has ls 6 [(0, .ref (b0 0)), (1, .ref (b1 0)), (2, .int x2), (3, .int x3)]) : W p l e { frames := 3, cells := 0, slots := 0, locals := 71 } s m args below meth c H locs 0 0 (MQ below (qV D (wY cy b0 rr (wV cy b1 vv [])) A) args s 0 0 A) (F0 m 51 ls []) := by
  obtain ⟨hx, hb, hr, hml, hown, hts, hlk, hA, hK⟩ := id M
  unfold f_X1_load_51 at h
  refine lv_iload_n hx hb dX1_load_51 rfl (lv_at hl 3 rfl) ?_
  refine lv_iconst (v := 5) hx hb dX1_load_52 (by decide) ?_
  refine lv_icmp_ge (tgt := 126) hx hb dX1_load_53 (by decide) (fun c_1 => ?_) (fun c_1 => ?_)
  · replace h := it_p c_1 h
    obtain ⟨x2_2, ex2_2⟩ : ∃ z : Int32, z = (x2 + (1 : Int32)) := ⟨_, rfl⟩
    replace h := nm_s h ex2_2
    refine lv_iinc (v := x2_2) (lv' := [(2, .int x2_2), (0, .ref (b0 0)), (1, .ref (b1 0)), (3, .int x3)]) hx hb dX1_load_126 hl (k := 2) rfl (by rw [ex2_2]; rfl) (by decide) rfl (fun ls hl => ?_)
    refine lv_goto (tgt := 2) hx hb dX1_load_129 (by decide) ?_
    cases h
    exact ih.1 yv x2_2 _ _ _ hm hP hD hS (lv_sub hl [1, 2, 0] rfl)
  · replace h := it_n c_1 h
    refine lv_iload_n hx hb dX1_load_56 rfl (lv_at hl 3 rfl) ?_
    refine lv_aload_n hx hb dX1_load_57 rfl (lv_at hl 0 rfl) ?_
    refine va_get (D := D) (ci := 1) (v := .ref (b0 3)) (C := RX1) (T := TX1) (N := 10) hx hb hts iX1_load_X1 hown hK.1 hP 0 rfl rfl 2 (by decide) (hts _ mX1_load_3) (fun _ h9 => h9) rfl dX1_load_58 ?_
    refine lv_iload_n hx hb dX1_load_61 rfl (lv_at hl 2 rfl) ?_
    obtain ⟨b_3, h⟩ := ck_s h
    refine va_iald hx hb hK.1 hP 3 1 rfl rfl b_3 dX1_load_62 ?_
    refine lv_icmp_ge (tgt := 126) hx hb dX1_load_63 (by decide) (fun c_4 => ?_) (fun c_4 => ?_)
    · replace h := it_p c_4 h
      obtain ⟨x2_5, ex2_5⟩ : ∃ z : Int32, z = (x2 + (1 : Int32)) := ⟨_, rfl⟩
      replace h := nm_s h ex2_5
      refine lv_iinc (v := x2_5) (lv' := [(2, .int x2_5), (0, .ref (b0 0)), (1, .ref (b1 0)), (3, .int x3)]) hx hb dX1_load_126 hl (k := 2) rfl (by rw [ex2_5]; rfl) (by decide) rfl (fun ls hl => ?_)
      refine lv_goto (tgt := 2) hx hb dX1_load_129 (by decide) ?_
      cases h
      exact ih.1 yv x2_5 _ _ _ hm hP hD hS (lv_sub hl [1, 2, 0] rfl)
    · replace h := it_n c_4 h
      refine lv_aload_n hx hb dX1_load_66 rfl (lv_at hl 1 rfl) ?_
      refine lv_iload_n hx hb dX1_load_67 rfl (lv_at hl 2 rfl) ?_
      refine lv_iload_n hx hb dX1_load_68 rfl (lv_at hl 3 rfl) ?_
      obtain ⟨r_6, hr_6, h⟩ := bn_s h
      refine kcVi (As := [.int x2, .int x3]) (rest := []) (ws' := (wY cy b0 yv (wV cy b1 vv []))) ⟨hx, hb, hml, hown, hts⟩ (cwV 2 hts gX1_load_X2_turnOf rfl rfl rfl ⟨rfl, eX2_turnOf⟩ ⟨Nat.le_of_ble_eq_true rfl, Nat.le_of_ble_eq_true rfl⟩) (c_X2_turnOf b1 hr_6) hK hP hD hS hA [10, 11, 12, 13, 14, 15, 16, 17] [0, 1, 2, 3, 4, 5, 6, 7, 8, 9] (by decide) rfl rfl 2 rfl rfl [(b0 0), (b0 1), (b0 2), (b0 3), (b0 4), (b0 5), (b0 6), (b0 7), (b0 8), (b0 9), (b1 0), (b1 1), (b1 2), (b1 3), (b1 4), (b1 5), (b1 6), (b1 7)] rfl rfl rfl (wY cy b0 yv []) rfl rfl rfl rfl hl.1 rfl (Nat.le_of_ble_eq_true rfl) dX1_load_69 (fun H locs hP hD hS => ?_)
      refine lv_istore (lv' := [(4, .int r_6), (0, .ref (b0 0)), (1, .ref (b1 0)), (2, .int x2), (3, .int x3)]) hx hb dX1_load_72 hl (by decide) rfl (fun ls hl => ?_)
      refine lv_iload hx hb dX1_load_74 (lv_at hl 0 rfl) ?_
      refine lv_iconst (v := 1) hx hb dX1_load_76 (by decide) ?_
      refine lv_iconst (v := 5) hx hb dX1_load_77 (by decide) ?_
      obtain ⟨r_7, hr_7, h⟩ := bn_s h
      refine kcNi (As := [.int r_6, .int (1 : Int32), .int (5 : Int32)]) (rest := []) ⟨hx, hb, hml, hown, hts⟩ ⟨va_cnB 3 hts gX1_load_X3_isWithin_n57 rfl rfl rfl (kN_RX1_57 hK.2) (hts _ mX1_load_5) eX3_isWithin ⟨Nat.le_of_ble_eq_true rfl, Nat.le_of_ble_eq_true rfl⟩, hts _ mX1_load_6, trivial⟩ (c_X3_isWithin  hr_7) hK hP hS hA rfl hl.1 rfl (Nat.le_of_ble_eq_true rfl) dX1_load_78 (fun H locs hP hS => ?_)
      refine lv_if_eq (tgt := 120) hx hb dX1_load_81 (by decide) (fun c_8 => ?_) (fun c_8 => ?_)
      · replace h := it_p c_8 h
        obtain ⟨x3_9, ex3_9⟩ : ∃ z : Int32, z = (x3 + (1 : Int32)) := ⟨_, rfl⟩
        replace h := nm_s h ex3_9
        refine lv_iinc (v := x3_9) (lv' := [(3, .int x3_9), (4, .int r_6), (0, .ref (b0 0)), (1, .ref (b1 0)), (2, .int x2)]) hx hb dX1_load_120 hl (k := 4) rfl (by rw [ex3_9]; rfl) (by decide) rfl (fun ls hl => ?_)
        refine lv_goto (tgt := 51) hx hb dX1_load_123 (by decide) ?_
        cases h
        exact ih.2 yv x2 x3_9 _ _ _ hm hP hD hS (lv_sub hl [2, 3, 4, 0] rfl)
      · replace h := it_n c_8 h
        refine lv_iload_n hx hb dX1_load_84 rfl (lv_at hl 3 rfl) ?_
        refine lv_iconst (v := 5) hx hb dX1_load_85 (by decide) ?_
        refine lv_imul hx hb dX1_load_86 ?_
        refine lv_iload hx hb dX1_load_87 (lv_at hl 0 rfl) ?_
        refine lv_iadd hx hb dX1_load_89 ?_
        refine lv_iconst (v := 1) hx hb dX1_load_90 (by decide) ?_
        refine lv_isub hx hb dX1_load_91 ?_
        refine lv_topi (fun x5_10 ex5_10 => ?_)
        replace h := nm_s h ex5_10
        refine lv_istore (lv' := [(5, .int x5_10), (4, .int r_6), (0, .ref (b0 0)), (1, .ref (b1 0)), (2, .int x2), (3, .int x3)]) hx hb dX1_load_92 hl (by decide) rfl (fun ls hl => ?_)
        refine lv_aload_n hx hb dX1_load_94 rfl (lv_at hl 2 rfl) ?_
        refine va_get (D := D) (ci := 1) (v := .ref (b0 4)) (C := RX1) (T := TX1) (N := 10) hx hb hts iX1_load_X1 hown hK.1 hP 0 rfl rfl 3 (by decide) (hts _ mX1_load_7) (fun _ h9 => h9) rfl dX1_load_95 ?_
        refine lv_iload hx hb dX1_load_98 (lv_at hl 0 rfl) ?_
        refine lv_aload_n hx hb dX1_load_100 rfl (lv_at hl 3 rfl) ?_
        refine lv_iload_n hx hb dX1_load_101 rfl (lv_at hl 4 rfl) ?_
        refine lv_iload_n hx hb dX1_load_102 rfl (lv_at hl 5 rfl) ?_
        obtain ⟨r_11, hr_11, h⟩ := bn_s h
        refine kcVi (As := [.int x2, .int x3]) (rest := [.int x5_10, .ref (b0 4)]) (ws' := (wY cy b0 yv (wV cy b1 vv []))) ⟨hx, hb, hml, hown, hts⟩ (cwV 2 hts gX1_load_X2_lenderOf rfl rfl rfl ⟨rfl, eX2_lenderOf⟩ ⟨Nat.le_of_ble_eq_true rfl, Nat.le_of_ble_eq_true rfl⟩) (c_X2_lenderOf b1 hr_11) hK hP hD hS hA [10, 11, 12, 13, 14, 15, 16, 17] [0, 1, 2, 3, 4, 5, 6, 7, 8, 9] (by decide) rfl rfl 2 rfl rfl [(b0 0), (b0 1), (b0 2), (b0 3), (b0 4), (b0 5), (b0 6), (b0 7), (b0 8), (b0 9), (b1 0), (b1 1), (b1 2), (b1 3), (b1 4), (b1 5), (b1 6), (b1 7)] rfl rfl rfl (wY cy b0 yv []) rfl rfl rfl rfl hl.1 rfl (Nat.le_of_ble_eq_true rfl) dX1_load_103 (fun H locs hP hD hS => ?_)
        obtain ⟨b_12, h⟩ := ck_s h
        refine va_iast hx hb hK.1 hP hD hS 4 1 rfl rfl b_12 dX1_load_106 (fun H locs hP hD hS => ?_)
        obtain ⟨yv_13, eyv_13⟩ : ∃ z : YS, z = (yv.1, yv.2.1, yv.2.2.1, (upd yv.2.2.2.1 x5_10.toNatClampNeg r_11), yv.2.2.2.2) := ⟨_, rfl⟩
        replace h := nm_s h eyv_13
        have hP : va_P D vwCl (wY cy b0 yv_13 (wV cy b1 vv [])) H := by subst eyv_13; exact hP
        have hD : va_D A (wY cy b0 yv_13 (wV cy b1 vv [])) := hD.lk [(b0 0), (b0 1), (b0 2), (b0 3), (b0 4), (b0 5), (b0 6), (b0 7), (b0 8), (b0 9), (b1 0), (b1 1), (b1 2), (b1 3), (b1 4), (b1 5), (b1 6), (b1 7)] rfl rfl
        refine lv_aload_n hx hb dX1_load_107 rfl (lv_at hl 2 rfl) ?_
        refine va_get (D := D) (ci := 1) (v := .ref (b0 5)) (C := RX1) (T := TX1) (N := 10) hx hb hts iX1_load_X1 hown hK.1 hP 0 rfl rfl 4 (by decide) (hts _ mX1_load_8) (fun _ h9 => h9) rfl dX1_load_108 ?_
        refine lv_iload hx hb dX1_load_111 (lv_at hl 0 rfl) ?_
        refine lv_aload_n hx hb dX1_load_113 rfl (lv_at hl 3 rfl) ?_
        refine lv_iload_n hx hb dX1_load_114 rfl (lv_at hl 4 rfl) ?_
        refine lv_iload_n hx hb dX1_load_115 rfl (lv_at hl 5 rfl) ?_
        obtain ⟨r_14, hr_14, h⟩ := bn_s h
        refine kcVi (As := [.int x2, .int x3]) (rest := [.int x5_10, .ref (b0 5)]) (ws' := (wY cy b0 yv_13 (wV cy b1 vv []))) ⟨hx, hb, hml, hown, hts⟩ (cwV 2 hts gX1_load_X2_penceOf rfl rfl rfl ⟨rfl, eX2_penceOf⟩ ⟨Nat.le_of_ble_eq_true rfl, Nat.le_of_ble_eq_true rfl⟩) (c_X2_penceOf b1 hr_14) hK hP hD hS hA [10, 11, 12, 13, 14, 15, 16, 17] [0, 1, 2, 3, 4, 5, 6, 7, 8, 9] (by decide) rfl rfl 2 rfl rfl [(b0 0), (b0 1), (b0 2), (b0 3), (b0 4), (b0 5), (b0 6), (b0 7), (b0 8), (b0 9), (b1 0), (b1 1), (b1 2), (b1 3), (b1 4), (b1 5), (b1 6), (b1 7)] rfl rfl rfl (wY cy b0 yv_13 []) rfl rfl rfl rfl hl.1 rfl (Nat.le_of_ble_eq_true rfl) dX1_load_116 (fun H locs hP hD hS => ?_)
        refine va_iast hx hb hK.1 hP hD hS 5 1 rfl rfl b_12 dX1_load_119 (fun H locs hP hD hS => ?_)
        obtain ⟨yv_15, eyv_15⟩ : ∃ z : YS, z = (yv_13.1, yv_13.2.1, yv_13.2.2.1, yv_13.2.2.2.1, (upd yv_13.2.2.2.2.1 x5_10.toNatClampNeg r_14), yv_13.2.2.2.2.2) := ⟨_, rfl⟩
        replace h := nm_s h eyv_15
        have hP : va_P D vwCl (wY cy b0 yv_15 (wV cy b1 vv [])) H := by subst eyv_15; exact hP
        have hD : va_D A (wY cy b0 yv_15 (wV cy b1 vv [])) := hD.lk [(b0 0), (b0 1), (b0 2), (b0 3), (b0 4), (b0 5), (b0 6), (b0 7), (b0 8), (b0 9), (b1 0), (b1 1), (b1 2), (b1 3), (b1 4), (b1 5), (b1 6), (b1 7)] rfl rfl
        obtain ⟨x3_16, ex3_16⟩ : ∃ z : Int32, z = (x3 + (1 : Int32)) := ⟨_, rfl⟩
        replace h := nm_s h ex3_16
        refine lv_iinc (v := x3_16) (lv' := [(3, .int x3_16), (5, .int x5_10), (4, .int r_6), (0, .ref (b0 0)), (1, .ref (b1 0)), (2, .int x2)]) hx hb dX1_load_120 hl (k := 5) rfl (by rw [ex3_16]; rfl) (by decide) rfl (fun ls hl => ?_)
        refine lv_goto (tgt := 51) hx hb dX1_load_123 (by decide) ?_
        cases h
        exact ih.2 yv_15 x2 x3_16 _ _ _ hm hP hD hS (lv_sub hl [3, 4, 5, 0] rfl)
set_option maxHeartbeats 4000000 in
set_option maxRecDepth 100000 in
theorem w_X1_load_2 {p : Program} {l : Launch} {e : Env} {s : State} {m : MethodId} {args : Array Value} {below : List Frame} {meth : Method} {c : Code} {A : Nat → Prop} {D : va_G} {cy : Nat → ClassId} {b0 : Nat → Nat} {b1 : Nat → Nat} {vv : VS} {fu : Nat} {rr : YS} (M : kM p s m args meth c cX1_load 6 none RX1 wsX1_load A D cy) (ih : I_X1_load p l e s m args below meth c A D cy b0 b1 vv fu rr) {yv : YS} {x2 : Int32} {oo : ((YS × Int32) ⊕ (YS × Int32 × Int32)) ⊕ (YS)} (h : f_X1_load_2 vv yv x2 = some oo) (hm : lpo (st_X1_load vv) fu oo rr) {H : Heap} {locs : List Loc} {ls : Array Slot} (hP : va_P D vwCl (wY cy b0 yv (wV cy b1 vv [])) H) (hD : va_D A (wY cy b0 yv (wV cy b1 vv []))) (hS : va_S A s.heap H locs) (hl : lv_has ls 6 [(0, .ref (b0 0)), (1, .ref (b1 0)), (2, .int x2)]) : W p l e { frames := 3, cells := 0, slots := 0, locals := 71 } s m args below meth c H locs 0 0 (MQ below (qV D (wY cy b0 rr (wV cy b1 vv [])) A) args s 0 0 A) (F0 m 2 ls []) := by
  obtain ⟨hx, hb, hr, hml, hown, hts, hlk, hA, hK⟩ := id M
  unfold f_X1_load_2 at h
  refine lv_iload_n hx hb dX1_load_2 rfl (lv_at hl 2 rfl) ?_
  refine lv_bipush (v := 6) hx hb dX1_load_3 (by decide) ?_
  refine lv_icmp_ge (tgt := 132) hx hb dX1_load_5 (by decide) (fun c_1 => ?_) (fun c_1 => ?_)
  · replace h := it_p c_1 h
    cases h
    have hm : _ = rr := hm
    subst hm
    exact kretV hx hb hr hlk hP hS dX1_load_132
  · replace h := it_n c_1 h
    refine lv_aload_n hx hb dX1_load_8 rfl (lv_at hl 0 rfl) ?_
    refine va_get (D := D) (ci := 1) (v := .ref (b0 1)) (C := RX1) (T := TX1) (N := 10) hx hb hts iX1_load_X1 hown hK.1 hP 0 rfl rfl 0 (by decide) (hts _ mX1_load_1) (fun _ h9 => h9) rfl dX1_load_9 ?_
    refine lv_iload_n hx hb dX1_load_12 rfl (lv_at hl 2 rfl) ?_
    refine lv_aload_n hx hb dX1_load_13 rfl (lv_at hl 1 rfl) ?_
    refine lv_iload_n hx hb dX1_load_14 rfl (lv_at hl 2 rfl) ?_
    obtain ⟨r_2, hr_2, h⟩ := bn_s h
    refine kcVi (As := [.int x2]) (rest := [.int x2, .ref (b0 1)]) (ws' := (wY cy b0 yv (wV cy b1 vv []))) ⟨hx, hb, hml, hown, hts⟩ (cwV 1 hts gX1_load_X2_purseOf rfl rfl rfl ⟨rfl, eX2_purseOf⟩ ⟨Nat.le_of_ble_eq_true rfl, Nat.le_of_ble_eq_true rfl⟩) (c_X2_purseOf b1 hr_2) hK hP hD hS hA [10, 11, 12, 13, 14, 15, 16, 17] [0, 1, 2, 3, 4, 5, 6, 7, 8, 9] (by decide) rfl rfl 2 rfl rfl [(b0 0), (b0 1), (b0 2), (b0 3), (b0 4), (b0 5), (b0 6), (b0 7), (b0 8), (b0 9), (b1 0), (b1 1), (b1 2), (b1 3), (b1 4), (b1 5), (b1 6), (b1 7)] rfl rfl rfl (wY cy b0 yv []) rfl rfl rfl rfl hl.1 rfl (Nat.le_of_ble_eq_true rfl) dX1_load_15 (fun H locs hP hD hS => ?_)
    obtain ⟨b_3, h⟩ := ck_s h
    refine va_iast hx hb hK.1 hP hD hS 1 1 rfl rfl b_3 dX1_load_18 (fun H locs hP hD hS => ?_)
    obtain ⟨yv_4, eyv_4⟩ : ∃ z : YS, z = ((upd yv.1 x2.toNatClampNeg r_2), yv.2) := ⟨_, rfl⟩
    replace h := nm_s h eyv_4
    have hP : va_P D vwCl (wY cy b0 yv_4 (wV cy b1 vv [])) H := by subst eyv_4; exact hP
    have hD : va_D A (wY cy b0 yv_4 (wV cy b1 vv [])) := hD.lk [(b0 0), (b0 1), (b0 2), (b0 3), (b0 4), (b0 5), (b0 6), (b0 7), (b0 8), (b0 9), (b1 0), (b1 1), (b1 2), (b1 3), (b1 4), (b1 5), (b1 6), (b1 7)] rfl rfl
    refine lv_aload_n hx hb dX1_load_19 rfl (lv_at hl 0 rfl) ?_
    refine va_get (D := D) (ci := 1) (v := .ref (b0 2)) (C := RX1) (T := TX1) (N := 10) hx hb hts iX1_load_X1 hown hK.1 hP 0 rfl rfl 1 (by decide) (hts _ mX1_load_2) (fun _ h9 => h9) rfl dX1_load_20 ?_
    refine lv_iload_n hx hb dX1_load_23 rfl (lv_at hl 2 rfl) ?_
    refine lv_aload_n hx hb dX1_load_24 rfl (lv_at hl 0 rfl) ?_
    refine va_get (D := D) (ci := 1) (v := .ref (b0 1)) (C := RX1) (T := TX1) (N := 10) hx hb hts iX1_load_X1 hown hK.1 hP 0 rfl rfl 0 (by decide) (hts _ mX1_load_1) (fun _ h9 => h9) rfl dX1_load_25 ?_
    refine lv_iload_n hx hb dX1_load_28 rfl (lv_at hl 2 rfl) ?_
    refine va_iald hx hb hK.1 hP 1 1 rfl rfl b_3 dX1_load_29 ?_
    refine va_iast hx hb hK.1 hP hD hS 2 1 rfl rfl b_3 dX1_load_30 (fun H locs hP hD hS => ?_)
    obtain ⟨yv_5, eyv_5⟩ : ∃ z : YS, z = (yv_4.1, (upd yv_4.2.1 x2.toNatClampNeg (yv_4.1 x2.toNatClampNeg)), yv_4.2.2) := ⟨_, rfl⟩
    replace h := nm_s h eyv_5
    have hP : va_P D vwCl (wY cy b0 yv_5 (wV cy b1 vv [])) H := by subst eyv_5; exact hP
    have hD : va_D A (wY cy b0 yv_5 (wV cy b1 vv [])) := hD.lk [(b0 0), (b0 1), (b0 2), (b0 3), (b0 4), (b0 5), (b0 6), (b0 7), (b0 8), (b0 9), (b1 0), (b1 1), (b1 2), (b1 3), (b1 4), (b1 5), (b1 6), (b1 7)] rfl rfl
    refine lv_aload_n hx hb dX1_load_31 rfl (lv_at hl 0 rfl) ?_
    refine va_get (D := D) (ci := 1) (v := .ref (b0 3)) (C := RX1) (T := TX1) (N := 10) hx hb hts iX1_load_X1 hown hK.1 hP 0 rfl rfl 2 (by decide) (hts _ mX1_load_3) (fun _ h9 => h9) rfl dX1_load_32 ?_
    refine lv_iload_n hx hb dX1_load_35 rfl (lv_at hl 2 rfl) ?_
    refine lv_aload_n hx hb dX1_load_36 rfl (lv_at hl 1 rfl) ?_
    refine lv_iload_n hx hb dX1_load_37 rfl (lv_at hl 2 rfl) ?_
    obtain ⟨r_6, hr_6, h⟩ := bn_s h
    refine kcVi (As := [.int x2]) (rest := [.int x2, .ref (b0 3)]) (ws' := (wY cy b0 yv_5 (wV cy b1 vv []))) ⟨hx, hb, hml, hown, hts⟩ (cwV 1 hts gX1_load_X2_debtsOf rfl rfl rfl ⟨rfl, eX2_debtsOf⟩ ⟨Nat.le_of_ble_eq_true rfl, Nat.le_of_ble_eq_true rfl⟩) (c_X2_debtsOf b1 hr_6) hK hP hD hS hA [10, 11, 12, 13, 14, 15, 16, 17] [0, 1, 2, 3, 4, 5, 6, 7, 8, 9] (by decide) rfl rfl 2 rfl rfl [(b0 0), (b0 1), (b0 2), (b0 3), (b0 4), (b0 5), (b0 6), (b0 7), (b0 8), (b0 9), (b1 0), (b1 1), (b1 2), (b1 3), (b1 4), (b1 5), (b1 6), (b1 7)] rfl rfl rfl (wY cy b0 yv_5 []) rfl rfl rfl rfl hl.1 rfl (Nat.le_of_ble_eq_true rfl) dX1_load_38 (fun H locs hP hD hS => ?_)
    refine va_iast hx hb hK.1 hP hD hS 3 1 rfl rfl b_3 dX1_load_41 (fun H locs hP hD hS => ?_)
    obtain ⟨yv_7, eyv_7⟩ : ∃ z : YS, z = (yv_5.1, yv_5.2.1, (upd yv_5.2.2.1 x2.toNatClampNeg r_6), yv_5.2.2.2) := ⟨_, rfl⟩
    replace h := nm_s h eyv_7
    have hP : va_P D vwCl (wY cy b0 yv_7 (wV cy b1 vv [])) H := by subst eyv_7; exact hP
    have hD : va_D A (wY cy b0 yv_7 (wV cy b1 vv [])) := hD.lk [(b0 0), (b0 1), (b0 2), (b0 3), (b0 4), (b0 5), (b0 6), (b0 7), (b0 8), (b0 9), (b1 0), (b1 1), (b1 2), (b1 3), (b1 4), (b1 5), (b1 6), (b1 7)] rfl rfl
    refine lv_aload_n hx hb dX1_load_42 rfl (lv_at hl 0 rfl) ?_
    refine va_get (D := D) (ci := 1) (v := .ref (b0 6)) (C := RX1) (T := TX1) (N := 10) hx hb hts iX1_load_X1 hown hK.1 hP 0 rfl rfl 5 (by decide) (hts _ mX1_load_4) (fun _ h9 => h9) rfl dX1_load_43 ?_
    refine lv_iload_n hx hb dX1_load_46 rfl (lv_at hl 2 rfl) ?_
    refine lv_iconst (v := 0) hx hb dX1_load_47 (by decide) ?_
    refine va_iast hx hb hK.1 hP hD hS 6 1 rfl rfl b_3 dX1_load_48 (fun H locs hP hD hS => ?_)
    obtain ⟨yv_8, eyv_8⟩ : ∃ z : YS, z = (yv_7.1, yv_7.2.1, yv_7.2.2.1, yv_7.2.2.2.1, yv_7.2.2.2.2.1, (upd yv_7.2.2.2.2.2.1 x2.toNatClampNeg (0 : Int32)), yv_7.2.2.2.2.2.2) := ⟨_, rfl⟩
    replace h := nm_s h eyv_8
    have hP : va_P D vwCl (wY cy b0 yv_8 (wV cy b1 vv [])) H := by subst eyv_8; exact hP
    have hD : va_D A (wY cy b0 yv_8 (wV cy b1 vv [])) := hD.lk [(b0 0), (b0 1), (b0 2), (b0 3), (b0 4), (b0 5), (b0 6), (b0 7), (b0 8), (b0 9), (b1 0), (b1 1), (b1 2), (b1 3), (b1 4), (b1 5), (b1 6), (b1 7)] rfl rfl
    refine lv_iconst (v := 0) hx hb dX1_load_49 (by decide) ?_
    refine lv_istore_n (lv' := [(3, .int (0 : Int32)), (0, .ref (b0 0)), (1, .ref (b1 0)), (2, .int x2)]) hx hb dX1_load_50 rfl hl (by decide) rfl (fun ls hl => ?_)
    cases h
    exact ih.2 yv_8 x2 (0 : Int32) _ _ _ hm hP hD hS (lv_sub hl [1, 2, 3, 0] rfl)
set_option maxHeartbeats 4000000 in
set_option maxRecDepth 100000 in
theorem w_X1_load_0 {p : Program} {l : Launch} {e : Env} {s : State} {m : MethodId} {args : Array Value} {below : List Frame} {meth : Method} {c : Code} {A : Nat → Prop} {D : va_G} {cy : Nat → ClassId} {b0 : Nat → Nat} {b1 : Nat → Nat} {vv : VS} {fu : Nat} {rr : YS} (M : kM p s m args meth c cX1_load 6 none RX1 wsX1_load A D cy) (ih : I_X1_load p l e s m args below meth c A D cy b0 b1 vv fu rr) {yv : YS} {oo : ((YS × Int32) ⊕ (YS × Int32 × Int32)) ⊕ (YS)} (h : f_X1_load_0 yv vv = some oo) (hm : lpo (st_X1_load vv) fu oo rr) {H : Heap} {locs : List Loc} {ls : Array Slot} (hP : va_P D vwCl (wY cy b0 yv (wV cy b1 vv [])) H) (hD : va_D A (wY cy b0 yv (wV cy b1 vv []))) (hS : va_S A s.heap H locs) (hl : lv_has ls 6 [(0, .ref (b0 0)), (1, .ref (b1 0))]) : W p l e { frames := 3, cells := 0, slots := 0, locals := 71 } s m args below meth c H locs 0 0 (MQ below (qV D (wY cy b0 rr (wV cy b1 vv [])) A) args s 0 0 A) (F0 m 0 ls []) := by
  obtain ⟨hx, hb, hr, hml, hown, hts, hlk, hA, hK⟩ := id M
  unfold f_X1_load_0 at h
  refine lv_iconst (v := 0) hx hb dX1_load_0 (by decide) ?_
  refine lv_istore_n (lv' := [(2, .int (0 : Int32)), (0, .ref (b0 0)), (1, .ref (b1 0))]) hx hb dX1_load_1 rfl hl (by decide) rfl (fun ls hl => ?_)
  cases h
  exact ih.1 yv (0 : Int32) _ _ _ hm hP hD hS (lv_sub hl [1, 2, 0] rfl)
theorem wl_X1_load {p : Program} {l : Launch} {e : Env} {s : State} {m : MethodId} {args : Array Value} {below : List Frame} {meth : Method} {c : Code} {A : Nat → Prop} {D : va_G} {cy : Nat → ClassId} {b0 : Nat → Nat} {b1 : Nat → Nat} {vv : VS} {rr : YS} (M : kM p s m args meth c cX1_load 6 none RX1 wsX1_load A D cy) : ∀ fu : Nat, I_X1_load p l e s m args below meth c A D cy b0 b1 vv fu rr := by
  intro fu
  induction fu with
  | zero => exact ⟨(fun _ _ _ _ _ h => by cases h), (fun _ _ _ _ _ _ h => by cases h)⟩
  | succ fu ih =>
    refine ⟨?_, ?_⟩
    · intro yv x2 H locs ls h hP hD hS hl
      obtain ⟨o1, h1, h2⟩ := lpn_s h
      exact w_X1_load_2 M ih h1 h2 hP hD hS hl
    · intro yv x2 x3 H locs ls h hP hD hS hl
      obtain ⟨o1, h1, h2⟩ := lpn_s h
      exact w_X1_load_51 M ih h1 h2 hP hD hS hl
theorem c_X1_load {l : Launch} {D : va_G} {cy : Nat → ClassId} (b0 : Nat → Nat) (b1 : Nat → Nat) {yv : YS} {vv : VS} {rr : YS} (h : f_X1_load yv vv = some rr) : CV l D cy yX1_load wsX1_load { frames := 3, cells := 0, slots := 0, locals := 71 } [.ref (b0 0), .ref (b1 0)] (wY cy b0 yv (wV cy b1 vv [])) (wY cy b0 rr (wV cy b1 vv [])) := by
  refine kofV (cc := cX1_load) (maxL := 6) (ret := none) (by decide) rfl (Nat.le_of_ble_eq_true rfl) ?_
  intro p e s m below meth c A M ls hl hP hD hS
  obtain ⟨o1, fu, h1, h2⟩ := rnx_s h
  exact w_X1_load_0 M (wl_X1_load M fu) h1 h2 hP hD hS hl
theorem eX1_load : yX1_load.cls ≠ "java/lang/invoke/MethodHandle" ∧ yX1_load.cls ≠ "java/lang/invoke/VarHandle" ∧ (parseMethodDescriptor yX1_load.desc).map (fun d => d.parameters.length) = some 1 := by decide +kernel
