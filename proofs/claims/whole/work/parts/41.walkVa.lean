/-! printed by wip/gen/gen.py: the walks -/
theorem iX2_copyFrom_X2 : ∀ w ∈ u_ws RX2 TX2 11, w ∈ wsX2_copyFrom := by decide +kernel
theorem mX2_copyFrom_1 : Cond.fieldLink RX2 9 "LentPiles$Valley" "purse" "[I" ∈ wsX2_copyFrom := by decide +kernel
theorem mX2_copyFrom_2 : Cond.methodLink RX2 52 arraycopyName ∈ wsX2_copyFrom := by decide +kernel
theorem mX2_copyFrom_3 : Cond.native arraycopyName ∈ wsX2_copyFrom := by decide +kernel
theorem mX2_copyFrom_4 : Cond.static arraycopyName ∈ wsX2_copyFrom := by decide +kernel
theorem mX2_copyFrom_5 : Cond.initialized "java/lang/System" ∈ wsX2_copyFrom := by decide +kernel
theorem mX2_copyFrom_6 : Cond.fieldLink RX2 21 "LentPiles$Valley" "height" "[I" ∈ wsX2_copyFrom := by decide +kernel
theorem mX2_copyFrom_7 : Cond.fieldLink RX2 24 "LentPiles$Valley" "lender" "[I" ∈ wsX2_copyFrom := by decide +kernel
theorem mX2_copyFrom_8 : Cond.fieldLink RX2 27 "LentPiles$Valley" "pence" "[I" ∈ wsX2_copyFrom := by decide +kernel
theorem mX2_copyFrom_9 : Cond.fieldLink RX2 30 "LentPiles$Valley" "made" "[I" ∈ wsX2_copyFrom := by decide +kernel
theorem mX2_copyFrom_10 : Cond.fieldLink RX2 33 "LentPiles$Valley" "sightMan" "[I" ∈ wsX2_copyFrom := by decide +kernel
theorem mX2_copyFrom_11 : Cond.fieldLink RX2 36 "LentPiles$Valley" "sightPence" "[I" ∈ wsX2_copyFrom := by decide +kernel
theorem mX2_copyFrom_12 : Cond.fieldLink RX2 39 "LentPiles$Valley" "sights" "I" ∈ wsX2_copyFrom := by decide +kernel
theorem mX2_copyFrom_13 : Cond.fieldLink RX2 43 "LentPiles$Valley" "days" "I" ∈ wsX2_copyFrom := by decide +kernel
theorem mX2_copyFrom_14 : Cond.fieldLink RX2 46 "LentPiles$Valley" "law" "I" ∈ wsX2_copyFrom := by decide +kernel
theorem mX2_copyFrom_15 : Cond.fieldLink RX2 49 "LentPiles$Valley" "rate" "I" ∈ wsX2_copyFrom := by decide +kernel
set_option maxHeartbeats 4000000 in
set_option maxRecDepth 100000 in
theorem w_X2_copyFrom_0 {p : Program} {l : Launch} {e : Env} {s : State} {m : MethodId} {args : Array Value} {below : List Frame} {meth : Method} {c : Code} {A : Nat → Prop} {D : va_G} {cy : Nat → ClassId} {b0 : Nat → Nat} {b1 : Nat → Nat} {v2 : VS} {rr : VS} (M : kM p s m args meth c cX2_copyFrom 2 none RX2 wsX2_copyFrom A D cy) {v1 : VS} (h : f_X2_copyFrom v1 v2 = some rr) {H : Heap} {locs : List Loc} {ls : Array Slot} (hP : va_P D vwCl (wV cy b0 v1 (wV cy b1 v2 [])) H) (hD : va_D A (wV cy b0 v1 (wV cy b1 v2 []))) (hS : va_S A s.heap H locs) (hl : lv_has ls 2 [(0, .ref (b0 0)), (1, .ref (b1 0))]) : W p l e { frames := 1, cells := 0, slots := 0, locals := 40 } s m args below meth c H locs 0 0 (MQ below (qV D (wV cy b0 rr (wV cy b1 v2 [])) A) args s 0 0 A) (F0 m 0 ls []) := by
  obtain ⟨hx, hb, hr, hml, hown, hts, hlk, hA, hK⟩ := id M
  unfold f_X2_copyFrom at h
  refine lv_aload_n hx hb dX2_copyFrom_0 rfl (lv_at hl 1 rfl) ?_
  refine va_get (D := D) (ci := 2) (v := .ref (b1 1)) (C := RX2) (T := TX2) (N := 11) hx hb hts iX2_copyFrom_X2 hown hK.1 hP 8 rfl rfl 0 (by decide) (hts _ mX2_copyFrom_1) (fun _ h9 => h9) rfl dX2_copyFrom_1 ?_
  refine lv_iconst (v := 0) hx hb dX2_copyFrom_4 (by decide) ?_
  refine lv_aload_n hx hb dX2_copyFrom_5 rfl (lv_at hl 0 rfl) ?_
  refine va_get (D := D) (ci := 2) (v := .ref (b0 1)) (C := RX2) (T := TX2) (N := 11) hx hb hts iX2_copyFrom_X2 hown hK.1 hP 0 rfl rfl 0 (by decide) (hts _ mX2_copyFrom_1) (fun _ h9 => h9) rfl dX2_copyFrom_6 ?_
  refine lv_iconst (v := 0) hx hb dX2_copyFrom_9 (by decide) ?_
  refine lv_bipush (v := 6) hx hb dX2_copyFrom_10 (by decide) ?_
  refine va_copyi hx hb (hml.trans hl.1.symm) hown (hts _ mX2_copyFrom_2) (hts _ mX2_copyFrom_3) (hts _ mX2_copyFrom_4) (hts _ mX2_copyFrom_5) hK.1 hP hD hS 9 1 1 1 rfl rfl rfl rfl rfl (by decide) (by decide) (by decide) (by decide) (by decide) (fun _ _ => rfl) (Nat.le_of_ble_eq_true rfl) (by decide) dX2_copyFrom_12 (fun H locs hP hD hS => ?_)
  obtain ⟨v1_1, ev1_1⟩ : ∃ z : VS, z = ((va_cpy v2.1 v1.1 0 0 6), v1.2) := ⟨_, rfl⟩
  replace h := nm_s h ev1_1
  have hP : va_P D vwCl (wV cy b0 v1_1 (wV cy b1 v2 [])) H := by subst ev1_1; exact hP
  have hD : va_D A (wV cy b0 v1_1 (wV cy b1 v2 [])) := hD.lk [(b0 0), (b0 1), (b0 2), (b0 3), (b0 4), (b0 5), (b0 6), (b0 7), (b1 0), (b1 1), (b1 2), (b1 3), (b1 4), (b1 5), (b1 6), (b1 7)] rfl rfl
  refine lv_aload_n hx hb dX2_copyFrom_15 rfl (lv_at hl 1 rfl) ?_
  refine va_get (D := D) (ci := 2) (v := .ref (b1 2)) (C := RX2) (T := TX2) (N := 11) hx hb hts iX2_copyFrom_X2 hown hK.1 hP 8 rfl rfl 1 (by decide) (hts _ mX2_copyFrom_6) (fun _ h9 => h9) rfl dX2_copyFrom_16 ?_
  refine lv_iconst (v := 0) hx hb dX2_copyFrom_19 (by decide) ?_
  refine lv_aload_n hx hb dX2_copyFrom_20 rfl (lv_at hl 0 rfl) ?_
  refine va_get (D := D) (ci := 2) (v := .ref (b0 2)) (C := RX2) (T := TX2) (N := 11) hx hb hts iX2_copyFrom_X2 hown hK.1 hP 0 rfl rfl 1 (by decide) (hts _ mX2_copyFrom_6) (fun _ h9 => h9) rfl dX2_copyFrom_21 ?_
  refine lv_iconst (v := 0) hx hb dX2_copyFrom_24 (by decide) ?_
  refine lv_bipush (v := 6) hx hb dX2_copyFrom_25 (by decide) ?_
  refine va_copyi hx hb (hml.trans hl.1.symm) hown (hts _ mX2_copyFrom_2) (hts _ mX2_copyFrom_3) (hts _ mX2_copyFrom_4) (hts _ mX2_copyFrom_5) hK.1 hP hD hS 10 2 1 1 rfl rfl rfl rfl rfl (by decide) (by decide) (by decide) (by decide) (by decide) (fun _ _ => rfl) (Nat.le_of_ble_eq_true rfl) (by decide) dX2_copyFrom_27 (fun H locs hP hD hS => ?_)
  obtain ⟨v1_2, ev1_2⟩ : ∃ z : VS, z = (v1_1.1, (va_cpy v2.2.1 v1_1.2.1 0 0 6), v1_1.2.2) := ⟨_, rfl⟩
  replace h := nm_s h ev1_2
  have hP : va_P D vwCl (wV cy b0 v1_2 (wV cy b1 v2 [])) H := by subst ev1_2; exact hP
  have hD : va_D A (wV cy b0 v1_2 (wV cy b1 v2 [])) := hD.lk [(b0 0), (b0 1), (b0 2), (b0 3), (b0 4), (b0 5), (b0 6), (b0 7), (b1 0), (b1 1), (b1 2), (b1 3), (b1 4), (b1 5), (b1 6), (b1 7)] rfl rfl
  refine lv_aload_n hx hb dX2_copyFrom_30 rfl (lv_at hl 1 rfl) ?_
  refine va_get (D := D) (ci := 2) (v := .ref (b1 3)) (C := RX2) (T := TX2) (N := 11) hx hb hts iX2_copyFrom_X2 hown hK.1 hP 8 rfl rfl 2 (by decide) (hts _ mX2_copyFrom_7) (fun _ h9 => h9) rfl dX2_copyFrom_31 ?_
  refine lv_iconst (v := 0) hx hb dX2_copyFrom_34 (by decide) ?_
  refine lv_aload_n hx hb dX2_copyFrom_35 rfl (lv_at hl 0 rfl) ?_
  refine va_get (D := D) (ci := 2) (v := .ref (b0 3)) (C := RX2) (T := TX2) (N := 11) hx hb hts iX2_copyFrom_X2 hown hK.1 hP 0 rfl rfl 2 (by decide) (hts _ mX2_copyFrom_7) (fun _ h9 => h9) rfl dX2_copyFrom_36 ?_
  refine lv_iconst (v := 0) hx hb dX2_copyFrom_39 (by decide) ?_
  refine lv_bipush (v := 30) hx hb dX2_copyFrom_40 (by decide) ?_
  refine va_copyi hx hb (hml.trans hl.1.symm) hown (hts _ mX2_copyFrom_2) (hts _ mX2_copyFrom_3) (hts _ mX2_copyFrom_4) (hts _ mX2_copyFrom_5) hK.1 hP hD hS 11 3 1 1 rfl rfl rfl rfl rfl (by decide) (by decide) (by decide) (by decide) (by decide) (fun _ _ => rfl) (Nat.le_of_ble_eq_true rfl) (by decide) dX2_copyFrom_42 (fun H locs hP hD hS => ?_)
  obtain ⟨v1_3, ev1_3⟩ : ∃ z : VS, z = (v1_2.1, v1_2.2.1, (va_cpy v2.2.2.1 v1_2.2.2.1 0 0 30), v1_2.2.2.2) := ⟨_, rfl⟩
  replace h := nm_s h ev1_3
  have hP : va_P D vwCl (wV cy b0 v1_3 (wV cy b1 v2 [])) H := by subst ev1_3; exact hP
  have hD : va_D A (wV cy b0 v1_3 (wV cy b1 v2 [])) := hD.lk [(b0 0), (b0 1), (b0 2), (b0 3), (b0 4), (b0 5), (b0 6), (b0 7), (b1 0), (b1 1), (b1 2), (b1 3), (b1 4), (b1 5), (b1 6), (b1 7)] rfl rfl
  refine lv_aload_n hx hb dX2_copyFrom_45 rfl (lv_at hl 1 rfl) ?_
  refine va_get (D := D) (ci := 2) (v := .ref (b1 4)) (C := RX2) (T := TX2) (N := 11) hx hb hts iX2_copyFrom_X2 hown hK.1 hP 8 rfl rfl 3 (by decide) (hts _ mX2_copyFrom_8) (fun _ h9 => h9) rfl dX2_copyFrom_46 ?_
  refine lv_iconst (v := 0) hx hb dX2_copyFrom_49 (by decide) ?_
  refine lv_aload_n hx hb dX2_copyFrom_50 rfl (lv_at hl 0 rfl) ?_
  refine va_get (D := D) (ci := 2) (v := .ref (b0 4)) (C := RX2) (T := TX2) (N := 11) hx hb hts iX2_copyFrom_X2 hown hK.1 hP 0 rfl rfl 3 (by decide) (hts _ mX2_copyFrom_8) (fun _ h9 => h9) rfl dX2_copyFrom_51 ?_
  refine lv_iconst (v := 0) hx hb dX2_copyFrom_54 (by decide) ?_
  refine lv_bipush (v := 30) hx hb dX2_copyFrom_55 (by decide) ?_
  refine va_copyi hx hb (hml.trans hl.1.symm) hown (hts _ mX2_copyFrom_2) (hts _ mX2_copyFrom_3) (hts _ mX2_copyFrom_4) (hts _ mX2_copyFrom_5) hK.1 hP hD hS 12 4 1 1 rfl rfl rfl rfl rfl (by decide) (by decide) (by decide) (by decide) (by decide) (fun _ _ => rfl) (Nat.le_of_ble_eq_true rfl) (by decide) dX2_copyFrom_57 (fun H locs hP hD hS => ?_)
  obtain ⟨v1_4, ev1_4⟩ : ∃ z : VS, z = (v1_3.1, v1_3.2.1, v1_3.2.2.1, (va_cpy v2.2.2.2.1 v1_3.2.2.2.1 0 0 30), v1_3.2.2.2.2) := ⟨_, rfl⟩
  replace h := nm_s h ev1_4
  have hP : va_P D vwCl (wV cy b0 v1_4 (wV cy b1 v2 [])) H := by subst ev1_4; exact hP
  have hD : va_D A (wV cy b0 v1_4 (wV cy b1 v2 [])) := hD.lk [(b0 0), (b0 1), (b0 2), (b0 3), (b0 4), (b0 5), (b0 6), (b0 7), (b1 0), (b1 1), (b1 2), (b1 3), (b1 4), (b1 5), (b1 6), (b1 7)] rfl rfl
  refine lv_aload_n hx hb dX2_copyFrom_60 rfl (lv_at hl 1 rfl) ?_
  refine va_get (D := D) (ci := 2) (v := .ref (b1 5)) (C := RX2) (T := TX2) (N := 11) hx hb hts iX2_copyFrom_X2 hown hK.1 hP 8 rfl rfl 4 (by decide) (hts _ mX2_copyFrom_9) (fun _ h9 => h9) rfl dX2_copyFrom_61 ?_
  refine lv_iconst (v := 0) hx hb dX2_copyFrom_64 (by decide) ?_
  refine lv_aload_n hx hb dX2_copyFrom_65 rfl (lv_at hl 0 rfl) ?_
  refine va_get (D := D) (ci := 2) (v := .ref (b0 5)) (C := RX2) (T := TX2) (N := 11) hx hb hts iX2_copyFrom_X2 hown hK.1 hP 0 rfl rfl 4 (by decide) (hts _ mX2_copyFrom_9) (fun _ h9 => h9) rfl dX2_copyFrom_66 ?_
  refine lv_iconst (v := 0) hx hb dX2_copyFrom_69 (by decide) ?_
  refine lv_bipush (v := 30) hx hb dX2_copyFrom_70 (by decide) ?_
  refine va_copyi hx hb (hml.trans hl.1.symm) hown (hts _ mX2_copyFrom_2) (hts _ mX2_copyFrom_3) (hts _ mX2_copyFrom_4) (hts _ mX2_copyFrom_5) hK.1 hP hD hS 13 5 1 1 rfl rfl rfl rfl rfl (by decide) (by decide) (by decide) (by decide) (by decide) (fun _ _ => rfl) (Nat.le_of_ble_eq_true rfl) (by decide) dX2_copyFrom_72 (fun H locs hP hD hS => ?_)
  obtain ⟨v1_5, ev1_5⟩ : ∃ z : VS, z = (v1_4.1, v1_4.2.1, v1_4.2.2.1, v1_4.2.2.2.1, (va_cpy v2.2.2.2.2.1 v1_4.2.2.2.2.1 0 0 30), v1_4.2.2.2.2.2) := ⟨_, rfl⟩
  replace h := nm_s h ev1_5
  have hP : va_P D vwCl (wV cy b0 v1_5 (wV cy b1 v2 [])) H := by subst ev1_5; exact hP
  have hD : va_D A (wV cy b0 v1_5 (wV cy b1 v2 [])) := hD.lk [(b0 0), (b0 1), (b0 2), (b0 3), (b0 4), (b0 5), (b0 6), (b0 7), (b1 0), (b1 1), (b1 2), (b1 3), (b1 4), (b1 5), (b1 6), (b1 7)] rfl rfl
  refine lv_aload_n hx hb dX2_copyFrom_75 rfl (lv_at hl 1 rfl) ?_
  refine va_get (D := D) (ci := 2) (v := .ref (b1 6)) (C := RX2) (T := TX2) (N := 11) hx hb hts iX2_copyFrom_X2 hown hK.1 hP 8 rfl rfl 5 (by decide) (hts _ mX2_copyFrom_10) (fun _ h9 => h9) rfl dX2_copyFrom_76 ?_
  refine lv_iconst (v := 0) hx hb dX2_copyFrom_79 (by decide) ?_
  refine lv_aload_n hx hb dX2_copyFrom_80 rfl (lv_at hl 0 rfl) ?_
  refine va_get (D := D) (ci := 2) (v := .ref (b0 6)) (C := RX2) (T := TX2) (N := 11) hx hb hts iX2_copyFrom_X2 hown hK.1 hP 0 rfl rfl 5 (by decide) (hts _ mX2_copyFrom_10) (fun _ h9 => h9) rfl dX2_copyFrom_81 ?_
  refine lv_iconst (v := 0) hx hb dX2_copyFrom_84 (by decide) ?_
  refine lv_bipush (v := 6) hx hb dX2_copyFrom_85 (by decide) ?_
  refine va_copyi hx hb (hml.trans hl.1.symm) hown (hts _ mX2_copyFrom_2) (hts _ mX2_copyFrom_3) (hts _ mX2_copyFrom_4) (hts _ mX2_copyFrom_5) hK.1 hP hD hS 14 6 1 1 rfl rfl rfl rfl rfl (by decide) (by decide) (by decide) (by decide) (by decide) (fun _ _ => rfl) (Nat.le_of_ble_eq_true rfl) (by decide) dX2_copyFrom_87 (fun H locs hP hD hS => ?_)
  obtain ⟨v1_6, ev1_6⟩ : ∃ z : VS, z = (v1_5.1, v1_5.2.1, v1_5.2.2.1, v1_5.2.2.2.1, v1_5.2.2.2.2.1, (va_cpy v2.2.2.2.2.2.1 v1_5.2.2.2.2.2.1 0 0 6), v1_5.2.2.2.2.2.2) := ⟨_, rfl⟩
  replace h := nm_s h ev1_6
  have hP : va_P D vwCl (wV cy b0 v1_6 (wV cy b1 v2 [])) H := by subst ev1_6; exact hP
  have hD : va_D A (wV cy b0 v1_6 (wV cy b1 v2 [])) := hD.lk [(b0 0), (b0 1), (b0 2), (b0 3), (b0 4), (b0 5), (b0 6), (b0 7), (b1 0), (b1 1), (b1 2), (b1 3), (b1 4), (b1 5), (b1 6), (b1 7)] rfl rfl
  refine lv_aload_n hx hb dX2_copyFrom_90 rfl (lv_at hl 1 rfl) ?_
  refine va_get (D := D) (ci := 2) (v := .ref (b1 7)) (C := RX2) (T := TX2) (N := 11) hx hb hts iX2_copyFrom_X2 hown hK.1 hP 8 rfl rfl 6 (by decide) (hts _ mX2_copyFrom_11) (fun _ h9 => h9) rfl dX2_copyFrom_91 ?_
  refine lv_iconst (v := 0) hx hb dX2_copyFrom_94 (by decide) ?_
  refine lv_aload_n hx hb dX2_copyFrom_95 rfl (lv_at hl 0 rfl) ?_
  refine va_get (D := D) (ci := 2) (v := .ref (b0 7)) (C := RX2) (T := TX2) (N := 11) hx hb hts iX2_copyFrom_X2 hown hK.1 hP 0 rfl rfl 6 (by decide) (hts _ mX2_copyFrom_11) (fun _ h9 => h9) rfl dX2_copyFrom_96 ?_
  refine lv_iconst (v := 0) hx hb dX2_copyFrom_99 (by decide) ?_
  refine lv_bipush (v := 6) hx hb dX2_copyFrom_100 (by decide) ?_
  refine va_copyi hx hb (hml.trans hl.1.symm) hown (hts _ mX2_copyFrom_2) (hts _ mX2_copyFrom_3) (hts _ mX2_copyFrom_4) (hts _ mX2_copyFrom_5) hK.1 hP hD hS 15 7 1 1 rfl rfl rfl rfl rfl (by decide) (by decide) (by decide) (by decide) (by decide) (fun _ _ => rfl) (Nat.le_of_ble_eq_true rfl) (by decide) dX2_copyFrom_102 (fun H locs hP hD hS => ?_)
  obtain ⟨v1_7, ev1_7⟩ : ∃ z : VS, z = (v1_6.1, v1_6.2.1, v1_6.2.2.1, v1_6.2.2.2.1, v1_6.2.2.2.2.1, v1_6.2.2.2.2.2.1, (va_cpy v2.2.2.2.2.2.2.1 v1_6.2.2.2.2.2.2.1 0 0 6), v1_6.2.2.2.2.2.2.2) := ⟨_, rfl⟩
  replace h := nm_s h ev1_7
  have hP : va_P D vwCl (wV cy b0 v1_7 (wV cy b1 v2 [])) H := by subst ev1_7; exact hP
  have hD : va_D A (wV cy b0 v1_7 (wV cy b1 v2 [])) := hD.lk [(b0 0), (b0 1), (b0 2), (b0 3), (b0 4), (b0 5), (b0 6), (b0 7), (b1 0), (b1 1), (b1 2), (b1 3), (b1 4), (b1 5), (b1 6), (b1 7)] rfl rfl
  refine lv_aload_n hx hb dX2_copyFrom_105 rfl (lv_at hl 0 rfl) ?_
  refine lv_aload_n hx hb dX2_copyFrom_106 rfl (lv_at hl 1 rfl) ?_
  refine va_get (D := D) (ci := 2) (v := .int v2.2.2.2.2.2.2.2.1) (C := RX2) (T := TX2) (N := 11) hx hb hts iX2_copyFrom_X2 hown hK.1 hP 8 rfl rfl 7 (by decide) (hts _ mX2_copyFrom_12) (fun _ h9 => h9) rfl dX2_copyFrom_107 ?_
  refine va_put (D := D) (ci := 2) (v := .int v2.2.2.2.2.2.2.2.1) (ty := .int) (C := RX2) (T := TX2) (N := 11) hx hb hts iX2_copyFrom_X2 tyX2 tyX2_ok nmX2 hown hK.1 hP hD hS 0 rfl rfl 7 (by decide) (hts _ mX2_copyFrom_12) (fun _ h9 => h9) rfl (by decide +kernel) rfl rfl (Nat.le_of_ble_eq_true rfl) dX2_copyFrom_110 (fun H locs hP hD hS => ?_)
  obtain ⟨v1_8, ev1_8⟩ : ∃ z : VS, z = (v1_7.1, v1_7.2.1, v1_7.2.2.1, v1_7.2.2.2.1, v1_7.2.2.2.2.1, v1_7.2.2.2.2.2.1, v1_7.2.2.2.2.2.2.1, v2.2.2.2.2.2.2.2.1, v1_7.2.2.2.2.2.2.2.2) := ⟨_, rfl⟩
  replace h := nm_s h ev1_8
  have hP : va_P D vwCl (wV cy b0 v1_8 (wV cy b1 v2 [])) H := by subst ev1_8; exact hP
  have hD : va_D A (wV cy b0 v1_8 (wV cy b1 v2 [])) := hD.lk [(b0 0), (b0 1), (b0 2), (b0 3), (b0 4), (b0 5), (b0 6), (b0 7), (b1 0), (b1 1), (b1 2), (b1 3), (b1 4), (b1 5), (b1 6), (b1 7)] rfl rfl
  refine lv_aload_n hx hb dX2_copyFrom_113 rfl (lv_at hl 0 rfl) ?_
  refine lv_aload_n hx hb dX2_copyFrom_114 rfl (lv_at hl 1 rfl) ?_
  refine va_get (D := D) (ci := 2) (v := .int v2.2.2.2.2.2.2.2.2.1) (C := RX2) (T := TX2) (N := 11) hx hb hts iX2_copyFrom_X2 hown hK.1 hP 8 rfl rfl 8 (by decide) (hts _ mX2_copyFrom_13) (fun _ h9 => h9) rfl dX2_copyFrom_115 ?_
  refine va_put (D := D) (ci := 2) (v := .int v2.2.2.2.2.2.2.2.2.1) (ty := .int) (C := RX2) (T := TX2) (N := 11) hx hb hts iX2_copyFrom_X2 tyX2 tyX2_ok nmX2 hown hK.1 hP hD hS 0 rfl rfl 8 (by decide) (hts _ mX2_copyFrom_13) (fun _ h9 => h9) rfl (by decide +kernel) rfl rfl (Nat.le_of_ble_eq_true rfl) dX2_copyFrom_118 (fun H locs hP hD hS => ?_)
  obtain ⟨v1_9, ev1_9⟩ : ∃ z : VS, z = (v1_8.1, v1_8.2.1, v1_8.2.2.1, v1_8.2.2.2.1, v1_8.2.2.2.2.1, v1_8.2.2.2.2.2.1, v1_8.2.2.2.2.2.2.1, v1_8.2.2.2.2.2.2.2.1, v2.2.2.2.2.2.2.2.2.1, v1_8.2.2.2.2.2.2.2.2.2) := ⟨_, rfl⟩
  replace h := nm_s h ev1_9
  have hP : va_P D vwCl (wV cy b0 v1_9 (wV cy b1 v2 [])) H := by subst ev1_9; exact hP
  have hD : va_D A (wV cy b0 v1_9 (wV cy b1 v2 [])) := hD.lk [(b0 0), (b0 1), (b0 2), (b0 3), (b0 4), (b0 5), (b0 6), (b0 7), (b1 0), (b1 1), (b1 2), (b1 3), (b1 4), (b1 5), (b1 6), (b1 7)] rfl rfl
  refine lv_aload_n hx hb dX2_copyFrom_121 rfl (lv_at hl 0 rfl) ?_
  refine lv_aload_n hx hb dX2_copyFrom_122 rfl (lv_at hl 1 rfl) ?_
  refine va_get (D := D) (ci := 2) (v := .int v2.2.2.2.2.2.2.2.2.2.1) (C := RX2) (T := TX2) (N := 11) hx hb hts iX2_copyFrom_X2 hown hK.1 hP 8 rfl rfl 9 (by decide) (hts _ mX2_copyFrom_14) (fun _ h9 => h9) rfl dX2_copyFrom_123 ?_
  refine va_put (D := D) (ci := 2) (v := .int v2.2.2.2.2.2.2.2.2.2.1) (ty := .int) (C := RX2) (T := TX2) (N := 11) hx hb hts iX2_copyFrom_X2 tyX2 tyX2_ok nmX2 hown hK.1 hP hD hS 0 rfl rfl 9 (by decide) (hts _ mX2_copyFrom_14) (fun _ h9 => h9) rfl (by decide +kernel) rfl rfl (Nat.le_of_ble_eq_true rfl) dX2_copyFrom_126 (fun H locs hP hD hS => ?_)
  obtain ⟨v1_10, ev1_10⟩ : ∃ z : VS, z = (v1_9.1, v1_9.2.1, v1_9.2.2.1, v1_9.2.2.2.1, v1_9.2.2.2.2.1, v1_9.2.2.2.2.2.1, v1_9.2.2.2.2.2.2.1, v1_9.2.2.2.2.2.2.2.1, v1_9.2.2.2.2.2.2.2.2.1, v2.2.2.2.2.2.2.2.2.2.1, v1_9.2.2.2.2.2.2.2.2.2.2) := ⟨_, rfl⟩
  replace h := nm_s h ev1_10
  have hP : va_P D vwCl (wV cy b0 v1_10 (wV cy b1 v2 [])) H := by subst ev1_10; exact hP
  have hD : va_D A (wV cy b0 v1_10 (wV cy b1 v2 [])) := hD.lk [(b0 0), (b0 1), (b0 2), (b0 3), (b0 4), (b0 5), (b0 6), (b0 7), (b1 0), (b1 1), (b1 2), (b1 3), (b1 4), (b1 5), (b1 6), (b1 7)] rfl rfl
  refine lv_aload_n hx hb dX2_copyFrom_129 rfl (lv_at hl 0 rfl) ?_
  refine lv_aload_n hx hb dX2_copyFrom_130 rfl (lv_at hl 1 rfl) ?_
  refine va_get (D := D) (ci := 2) (v := .int v2.2.2.2.2.2.2.2.2.2.2) (C := RX2) (T := TX2) (N := 11) hx hb hts iX2_copyFrom_X2 hown hK.1 hP 8 rfl rfl 10 (by decide) (hts _ mX2_copyFrom_15) (fun _ h9 => h9) rfl dX2_copyFrom_131 ?_
  refine va_put (D := D) (ci := 2) (v := .int v2.2.2.2.2.2.2.2.2.2.2) (ty := .int) (C := RX2) (T := TX2) (N := 11) hx hb hts iX2_copyFrom_X2 tyX2 tyX2_ok nmX2 hown hK.1 hP hD hS 0 rfl rfl 10 (by decide) (hts _ mX2_copyFrom_15) (fun _ h9 => h9) rfl (by decide +kernel) rfl rfl (Nat.le_of_ble_eq_true rfl) dX2_copyFrom_134 (fun H locs hP hD hS => ?_)
  obtain ⟨v1_11, ev1_11⟩ : ∃ z : VS, z = (v1_10.1, v1_10.2.1, v1_10.2.2.1, v1_10.2.2.2.1, v1_10.2.2.2.2.1, v1_10.2.2.2.2.2.1, v1_10.2.2.2.2.2.2.1, v1_10.2.2.2.2.2.2.2.1, v1_10.2.2.2.2.2.2.2.2.1, v1_10.2.2.2.2.2.2.2.2.2.1, v2.2.2.2.2.2.2.2.2.2.2) := ⟨_, rfl⟩
  replace h := nm_s h ev1_11
  have hP : va_P D vwCl (wV cy b0 v1_11 (wV cy b1 v2 [])) H := by subst ev1_11; exact hP
  have hD : va_D A (wV cy b0 v1_11 (wV cy b1 v2 [])) := hD.lk [(b0 0), (b0 1), (b0 2), (b0 3), (b0 4), (b0 5), (b0 6), (b0 7), (b1 0), (b1 1), (b1 2), (b1 3), (b1 4), (b1 5), (b1 6), (b1 7)] rfl rfl
  cases h
  exact kretV hx hb hr hlk hP hS dX2_copyFrom_137
theorem c_X2_copyFrom {l : Launch} {D : va_G} {cy : Nat → ClassId} (b0 : Nat → Nat) (b1 : Nat → Nat) {v1 : VS} {v2 : VS} {rr : VS} (h : f_X2_copyFrom v1 v2 = some rr) : CV l D cy yX2_copyFrom wsX2_copyFrom { frames := 1, cells := 0, slots := 0, locals := 40 } [.ref (b0 0), .ref (b1 0)] (wV cy b0 v1 (wV cy b1 v2 [])) (wV cy b0 rr (wV cy b1 v2 [])) := by
  refine kofV (cc := cX2_copyFrom) (maxL := 2) (ret := none) (by decide) rfl (Nat.le_of_ble_eq_true rfl) ?_
  intro p e s m below meth c A M ls hl hP hD hS
  exact w_X2_copyFrom_0 M h hP hD hS hl
theorem eX2_copyFrom : yX2_copyFrom.cls ≠ "java/lang/invoke/MethodHandle" ∧ yX2_copyFrom.cls ≠ "java/lang/invoke/VarHandle" ∧ (parseMethodDescriptor yX2_copyFrom.desc).map (fun d => d.parameters.length) = some 1 := by decide +kernel
theorem iX2_passDay_X2 : ∀ w ∈ u_ws RX2 TX2 11, w ∈ wsX2_passDay := by decide +kernel
theorem mX2_passDay_1 : Cond.fieldLink RX2 43 "LentPiles$Valley" "days" "I" ∈ wsX2_passDay := by decide +kernel
theorem mX2_passDay_2 : Cond.fieldLink RX2 21 "LentPiles$Valley" "height" "[I" ∈ wsX2_passDay := by decide +kernel
theorem mX2_passDay_3 : Cond.fieldLink RX2 27 "LentPiles$Valley" "pence" "[I" ∈ wsX2_passDay := by decide +kernel
theorem mX2_passDay_4 : Cond.fieldLink RX2 49 "LentPiles$Valley" "rate" "I" ∈ wsX2_passDay := by decide +kernel
theorem mX2_passDay_5 : Cond.initialized RX3 ∈ wsX2_passDay := by decide +kernel
theorem mX2_passDay_6 : Cond.static yX3_grown ∈ wsX2_passDay := by decide +kernel
def I_X2_passDay (p : Program) (l : Launch) (e : Env) (s : State) (m : MethodId) (args : Array Value) (below : List Frame) (meth : Method) (c : Code) (A : Nat → Prop) (D : va_G) (cy : Nat → ClassId) (b0 : Nat → Nat) (fu : Nat) (rr : VS) : Prop := (∀ (vv : VS) (x1 : Int32) (H : Heap) (locs : List Loc) (ls : Array Slot), lpn (st_X2_passDay ) fu (.inl (vv, x1)) = some rr → va_P D vwCl (wV cy b0 vv []) H → va_D A (wV cy b0 vv []) → va_S A s.heap H locs → lv_has ls 4 [(0, .ref (b0 0)), (1, .int x1)] → W p l e { frames := 2, cells := 0, slots := 0, locals := 42 } s m args below meth c H locs 0 0 (MQ below (qV D (wV cy b0 rr []) A) args s 0 0 A) (F0 m 12 ls [])) ∧ (∀ (vv : VS) (x1 : Int32) (x2 : Int32) (x3 : Int32) (H : Heap) (locs : List Loc) (ls : Array Slot), lpn (st_X2_passDay ) fu (.inr (vv, x1, x2, x3)) = some rr → va_P D vwCl (wV cy b0 vv []) H → va_D A (wV cy b0 vv []) → va_S A s.heap H locs → lv_has ls 4 [(0, .ref (b0 0)), (1, .int x1), (2, .int x2), (3, .int x3)] → W p l e { frames := 2, cells := 0, slots := 0, locals := 42 } s m args below meth c H locs 0 0 (MQ below (qV D (wV cy b0 rr []) A) args s 0 0 A) (F0 m 24 ls []))
set_option maxHeartbeats 4000000 in
set_option maxRecDepth 100000 in
theorem w_X2_passDay_24 {p : Program} {l : Launch} {e : Env} {s : State} {m : MethodId} {args : Array Value} {below : List Frame} {meth : Method} {c : Code} {A : Nat → Prop} {D : va_G} {cy : Nat → ClassId} {b0 : Nat → Nat} {fu : Nat} {rr : VS} (M : kM p s m args meth c cX2_passDay 4 none RX2 wsX2_passDay A D cy) (ih : I_X2_passDay p l e s m args below meth c A D cy b0 fu rr) {vv : VS} {x1 : Int32} {x2 : Int32} {x3 : Int32} {oo : ((VS × Int32) ⊕ (VS × Int32 × Int32 × Int32)) ⊕ (VS)} (h : f_X2_passDay_24 vv x1 x2 x3 = some oo) (hm : lpo (st_X2_passDay ) fu oo rr) {H : Heap} {locs : List Loc} {ls : Array Slot} (hP : va_P D vwCl (wV cy b0 vv []) H) (hD : va_D A (wV cy b0 vv [])) (hS : va_S A s.heap H locs) (hl : lv_has ls 4 [(0, .ref (b0 0)), (1, .int x1), (2, .int x2), (3, .int x3)]) : W p l e { frames := 2, cells := 0, slots := 0, locals := 42 } s m args below meth c H locs 0 0 (MQ below (qV D (wV cy b0 rr []) A) args s 0 0 A) (F0 m 24 ls []) := by
  obtain ⟨hx, hb, hr, hml, hown, hts, hlk, hA, hK⟩ := id M
  unfold f_X2_passDay_24 at h
  refine lv_iload_n hx hb dX2_passDay_24 rfl (lv_at hl 3 rfl) ?_
  refine lv_iconst (v := 5) hx hb dX2_passDay_25 (by decide) ?_
  refine lv_icmp_ge (tgt := 68) hx hb dX2_passDay_26 (by decide) (fun c_1 => ?_) (fun c_1 => ?_)
  · replace h := it_p c_1 h
    obtain ⟨x1_2, ex1_2⟩ : ∃ z : Int32, z = (x1 + (1 : Int32)) := ⟨_, rfl⟩
    replace h := nm_s h ex1_2
    refine lv_iinc (v := x1_2) (lv' := [(1, .int x1_2), (0, .ref (b0 0)), (2, .int x2), (3, .int x3)]) hx hb dX2_passDay_68 hl (k := 1) rfl (by rw [ex1_2]; rfl) (by decide) rfl (fun ls hl => ?_)
    refine lv_goto (tgt := 12) hx hb dX2_passDay_71 (by decide) ?_
    cases h
    exact ih.1 vv x1_2 _ _ _ hm hP hD hS (lv_sub hl [1, 0] rfl)
  · replace h := it_n c_1 h
    refine lv_iload_n hx hb dX2_passDay_29 rfl (lv_at hl 3 rfl) ?_
    refine lv_aload_n hx hb dX2_passDay_30 rfl (lv_at hl 0 rfl) ?_
    refine va_get (D := D) (ci := 2) (v := .ref (b0 2)) (C := RX2) (T := TX2) (N := 11) hx hb hts iX2_passDay_X2 hown hK.1 hP 0 rfl rfl 1 (by decide) (hts _ mX2_passDay_2) (fun _ h9 => h9) rfl dX2_passDay_31 ?_
    refine lv_iload_n hx hb dX2_passDay_34 rfl (lv_at hl 1 rfl) ?_
    obtain ⟨b_3, h⟩ := ck_s h
    refine va_iald hx hb hK.1 hP 2 1 rfl rfl b_3 dX2_passDay_35 ?_
    refine lv_icmp_ge (tgt := 68) hx hb dX2_passDay_36 (by decide) (fun c_4 => ?_) (fun c_4 => ?_)
    · replace h := it_p c_4 h
      obtain ⟨x1_5, ex1_5⟩ : ∃ z : Int32, z = (x1 + (1 : Int32)) := ⟨_, rfl⟩
      replace h := nm_s h ex1_5
      refine lv_iinc (v := x1_5) (lv' := [(1, .int x1_5), (0, .ref (b0 0)), (2, .int x2), (3, .int x3)]) hx hb dX2_passDay_68 hl (k := 1) rfl (by rw [ex1_5]; rfl) (by decide) rfl (fun ls hl => ?_)
      refine lv_goto (tgt := 12) hx hb dX2_passDay_71 (by decide) ?_
      cases h
      exact ih.1 vv x1_5 _ _ _ hm hP hD hS (lv_sub hl [1, 0] rfl)
    · replace h := it_n c_4 h
      refine lv_aload_n hx hb dX2_passDay_39 rfl (lv_at hl 0 rfl) ?_
      refine va_get (D := D) (ci := 2) (v := .ref (b0 4)) (C := RX2) (T := TX2) (N := 11) hx hb hts iX2_passDay_X2 hown hK.1 hP 0 rfl rfl 3 (by decide) (hts _ mX2_passDay_3) (fun _ h9 => h9) rfl dX2_passDay_40 ?_
      refine lv_iload_n hx hb dX2_passDay_43 rfl (lv_at hl 2 rfl) ?_
      refine lv_iload_n hx hb dX2_passDay_44 rfl (lv_at hl 3 rfl) ?_
      refine lv_iadd hx hb dX2_passDay_45 ?_
      refine lv_aload_n hx hb dX2_passDay_46 rfl (lv_at hl 0 rfl) ?_
      refine va_get (D := D) (ci := 2) (v := .ref (b0 4)) (C := RX2) (T := TX2) (N := 11) hx hb hts iX2_passDay_X2 hown hK.1 hP 0 rfl rfl 3 (by decide) (hts _ mX2_passDay_3) (fun _ h9 => h9) rfl dX2_passDay_47 ?_
      refine lv_iload_n hx hb dX2_passDay_50 rfl (lv_at hl 2 rfl) ?_
      refine lv_iload_n hx hb dX2_passDay_51 rfl (lv_at hl 3 rfl) ?_
      refine lv_iadd hx hb dX2_passDay_52 ?_
      obtain ⟨b_6, h⟩ := ck_s h
      refine va_iald hx hb hK.1 hP 4 1 rfl rfl b_6 dX2_passDay_53 ?_
      refine lv_aload_n hx hb dX2_passDay_54 rfl (lv_at hl 0 rfl) ?_
      refine va_get (D := D) (ci := 2) (v := .int vv.2.2.2.2.2.2.2.2.2.2) (C := RX2) (T := TX2) (N := 11) hx hb hts iX2_passDay_X2 hown hK.1 hP 0 rfl rfl 10 (by decide) (hts _ mX2_passDay_4) (fun _ h9 => h9) rfl dX2_passDay_55 ?_
      obtain ⟨r_7, hr_7, h⟩ := bn_s h
      refine kcNi (As := [.int (vv.2.2.2.1 (x2 + x3).toNatClampNeg), .int vv.2.2.2.2.2.2.2.2.2.2]) (rest := [.int (x2 + x3), .ref (b0 4)]) ⟨hx, hb, hml, hown, hts⟩ ⟨va_cnB 2 hts gX2_passDay_X3_grown_n94 rfl rfl rfl (kN_RX2_94 hK.2) (hts _ mX2_passDay_5) eX3_grown ⟨Nat.le_of_ble_eq_true rfl, Nat.le_of_ble_eq_true rfl⟩, hts _ mX2_passDay_6, trivial⟩ (c_X3_grown  hr_7) hK hP hS hA rfl hl.1 rfl (Nat.le_of_ble_eq_true rfl) dX2_passDay_58 (fun H locs hP hS => ?_)
      refine va_iast hx hb hK.1 hP hD hS 4 1 rfl rfl b_6 dX2_passDay_61 (fun H locs hP hD hS => ?_)
      obtain ⟨vv_8, evv_8⟩ : ∃ z : VS, z = (vv.1, vv.2.1, vv.2.2.1, (upd vv.2.2.2.1 (x2 + x3).toNatClampNeg r_7), vv.2.2.2.2) := ⟨_, rfl⟩
      replace h := nm_s h evv_8
      have hP : va_P D vwCl (wV cy b0 vv_8 []) H := by subst evv_8; exact hP
      have hD : va_D A (wV cy b0 vv_8 []) := hD.lk [(b0 0), (b0 1), (b0 2), (b0 3), (b0 4), (b0 5), (b0 6), (b0 7)] rfl rfl
      obtain ⟨x3_9, ex3_9⟩ : ∃ z : Int32, z = (x3 + (1 : Int32)) := ⟨_, rfl⟩
      replace h := nm_s h ex3_9
      refine lv_iinc (v := x3_9) (lv' := [(3, .int x3_9), (0, .ref (b0 0)), (1, .int x1), (2, .int x2)]) hx hb dX2_passDay_62 hl (k := 3) rfl (by rw [ex3_9]; rfl) (by decide) rfl (fun ls hl => ?_)
      refine lv_goto (tgt := 24) hx hb dX2_passDay_65 (by decide) ?_
      cases h
      exact ih.2 vv_8 x1 x2 x3_9 _ _ _ hm hP hD hS (lv_sub hl [1, 2, 3, 0] rfl)
set_option maxHeartbeats 4000000 in
set_option maxRecDepth 100000 in
theorem w_X2_passDay_12 {p : Program} {l : Launch} {e : Env} {s : State} {m : MethodId} {args : Array Value} {below : List Frame} {meth : Method} {c : Code} {A : Nat → Prop} {D : va_G} {cy : Nat → ClassId} {b0 : Nat → Nat} {fu : Nat} {rr : VS} (M : kM p s m args meth c cX2_passDay 4 none RX2 wsX2_passDay A D cy) (ih : I_X2_passDay p l e s m args below meth c A D cy b0 fu rr) {vv : VS} {x1 : Int32} {oo : ((VS × Int32) ⊕ (VS × Int32 × Int32 × Int32)) ⊕ (VS)} (h : f_X2_passDay_12 vv x1 = some oo) (hm : lpo (st_X2_passDay ) fu oo rr) {H : Heap} {locs : List Loc} {ls : Array Slot} (hP : va_P D vwCl (wV cy b0 vv []) H) (hD : va_D A (wV cy b0 vv [])) (hS : va_S A s.heap H locs) (hl : lv_has ls 4 [(0, .ref (b0 0)), (1, .int x1)]) : W p l e { frames := 2, cells := 0, slots := 0, locals := 42 } s m args below meth c H locs 0 0 (MQ below (qV D (wV cy b0 rr []) A) args s 0 0 A) (F0 m 12 ls []) := by
  obtain ⟨hx, hb, hr, hml, hown, hts, hlk, hA, hK⟩ := id M
  unfold f_X2_passDay_12 at h
  refine lv_iload_n hx hb dX2_passDay_12 rfl (lv_at hl 1 rfl) ?_
  refine lv_bipush (v := 6) hx hb dX2_passDay_13 (by decide) ?_
  refine lv_icmp_ge (tgt := 74) hx hb dX2_passDay_15 (by decide) (fun c_1 => ?_) (fun c_1 => ?_)
  · replace h := it_p c_1 h
    cases h
    have hm : _ = rr := hm
    subst hm
    exact kretV hx hb hr hlk hP hS dX2_passDay_74
  · replace h := it_n c_1 h
    refine lv_iload_n hx hb dX2_passDay_18 rfl (lv_at hl 1 rfl) ?_
    refine lv_iconst (v := 5) hx hb dX2_passDay_19 (by decide) ?_
    refine lv_imul hx hb dX2_passDay_20 ?_
    refine lv_topi (fun x2_2 ex2_2 => ?_)
    replace h := nm_s h ex2_2
    refine lv_istore_n (lv' := [(2, .int x2_2), (0, .ref (b0 0)), (1, .int x1)]) hx hb dX2_passDay_21 rfl hl (by decide) rfl (fun ls hl => ?_)
    refine lv_iconst (v := 0) hx hb dX2_passDay_22 (by decide) ?_
    refine lv_istore_n (lv' := [(3, .int (0 : Int32)), (2, .int x2_2), (0, .ref (b0 0)), (1, .int x1)]) hx hb dX2_passDay_23 rfl hl (by decide) rfl (fun ls hl => ?_)
    cases h
    exact ih.2 vv x1 x2_2 (0 : Int32) _ _ _ hm hP hD hS (lv_sub hl [2, 3, 1, 0] rfl)
set_option maxHeartbeats 4000000 in
set_option maxRecDepth 100000 in
theorem w_X2_passDay_0 {p : Program} {l : Launch} {e : Env} {s : State} {m : MethodId} {args : Array Value} {below : List Frame} {meth : Method} {c : Code} {A : Nat → Prop} {D : va_G} {cy : Nat → ClassId} {b0 : Nat → Nat} {fu : Nat} {rr : VS} (M : kM p s m args meth c cX2_passDay 4 none RX2 wsX2_passDay A D cy) (ih : I_X2_passDay p l e s m args below meth c A D cy b0 fu rr) {vv : VS} {oo : ((VS × Int32) ⊕ (VS × Int32 × Int32 × Int32)) ⊕ (VS)} (h : f_X2_passDay_0 vv = some oo) (hm : lpo (st_X2_passDay ) fu oo rr) {H : Heap} {locs : List Loc} {ls : Array Slot} (hP : va_P D vwCl (wV cy b0 vv []) H) (hD : va_D A (wV cy b0 vv [])) (hS : va_S A s.heap H locs) (hl : lv_has ls 4 [(0, .ref (b0 0))]) : W p l e { frames := 2, cells := 0, slots := 0, locals := 42 } s m args below meth c H locs 0 0 (MQ below (qV D (wV cy b0 rr []) A) args s 0 0 A) (F0 m 0 ls []) := by
  obtain ⟨hx, hb, hr, hml, hown, hts, hlk, hA, hK⟩ := id M
  unfold f_X2_passDay_0 at h
  refine lv_aload_n hx hb dX2_passDay_0 rfl (lv_at hl 0 rfl) ?_
  refine lv_dup hx hb dX2_passDay_1 rfl ?_
  refine va_get (D := D) (ci := 2) (v := .int vv.2.2.2.2.2.2.2.2.1) (C := RX2) (T := TX2) (N := 11) hx hb hts iX2_passDay_X2 hown hK.1 hP 0 rfl rfl 8 (by decide) (hts _ mX2_passDay_1) (fun _ h9 => h9) rfl dX2_passDay_2 ?_
  refine lv_iconst (v := 1) hx hb dX2_passDay_5 (by decide) ?_
  refine lv_iadd hx hb dX2_passDay_6 ?_
  refine va_put (D := D) (ci := 2) (v := .int (vv.2.2.2.2.2.2.2.2.1 + (1 : Int32))) (ty := .int) (C := RX2) (T := TX2) (N := 11) hx hb hts iX2_passDay_X2 tyX2 tyX2_ok nmX2 hown hK.1 hP hD hS 0 rfl rfl 8 (by decide) (hts _ mX2_passDay_1) (fun _ h9 => h9) rfl (by decide +kernel) rfl rfl (Nat.le_of_ble_eq_true rfl) dX2_passDay_7 (fun H locs hP hD hS => ?_)
  obtain ⟨vv_1, evv_1⟩ : ∃ z : VS, z = (vv.1, vv.2.1, vv.2.2.1, vv.2.2.2.1, vv.2.2.2.2.1, vv.2.2.2.2.2.1, vv.2.2.2.2.2.2.1, vv.2.2.2.2.2.2.2.1, (vv.2.2.2.2.2.2.2.2.1 + (1 : Int32)), vv.2.2.2.2.2.2.2.2.2) := ⟨_, rfl⟩
  replace h := nm_s h evv_1
  have hP : va_P D vwCl (wV cy b0 vv_1 []) H := by subst evv_1; exact hP
  have hD : va_D A (wV cy b0 vv_1 []) := hD.lk [(b0 0), (b0 1), (b0 2), (b0 3), (b0 4), (b0 5), (b0 6), (b0 7)] rfl rfl
  refine lv_iconst (v := 0) hx hb dX2_passDay_10 (by decide) ?_
  refine lv_istore_n (lv' := [(1, .int (0 : Int32)), (0, .ref (b0 0))]) hx hb dX2_passDay_11 rfl hl (by decide) rfl (fun ls hl => ?_)
  cases h
  exact ih.1 vv_1 (0 : Int32) _ _ _ hm hP hD hS (lv_sub hl [1, 0] rfl)
theorem wl_X2_passDay {p : Program} {l : Launch} {e : Env} {s : State} {m : MethodId} {args : Array Value} {below : List Frame} {meth : Method} {c : Code} {A : Nat → Prop} {D : va_G} {cy : Nat → ClassId} {b0 : Nat → Nat} {rr : VS} (M : kM p s m args meth c cX2_passDay 4 none RX2 wsX2_passDay A D cy) : ∀ fu : Nat, I_X2_passDay p l e s m args below meth c A D cy b0 fu rr := by
  intro fu
  induction fu with
  | zero => exact ⟨(fun _ _ _ _ _ h => by cases h), (fun _ _ _ _ _ _ _ h => by cases h)⟩
  | succ fu ih =>
    refine ⟨?_, ?_⟩
    · intro vv x1 H locs ls h hP hD hS hl
      obtain ⟨o1, h1, h2⟩ := lpn_s h
      exact w_X2_passDay_12 M ih h1 h2 hP hD hS hl
    · intro vv x1 x2 x3 H locs ls h hP hD hS hl
      obtain ⟨o1, h1, h2⟩ := lpn_s h
      exact w_X2_passDay_24 M ih h1 h2 hP hD hS hl
theorem c_X2_passDay {l : Launch} {D : va_G} {cy : Nat → ClassId} (b0 : Nat → Nat) {vv : VS} {rr : VS} (h : f_X2_passDay vv = some rr) : CV l D cy yX2_passDay wsX2_passDay { frames := 2, cells := 0, slots := 0, locals := 42 } [.ref (b0 0)] (wV cy b0 vv []) (wV cy b0 rr []) := by
  refine kofV (cc := cX2_passDay) (maxL := 4) (ret := none) (by decide) rfl (Nat.le_of_ble_eq_true rfl) ?_
  intro p e s m below meth c A M ls hl hP hD hS
  obtain ⟨o1, fu, h1, h2⟩ := rnx_s h
  exact w_X2_passDay_0 M (wl_X2_passDay M fu) h1 h2 hP hD hS hl
theorem eX2_passDay : yX2_passDay.cls ≠ "java/lang/invoke/MethodHandle" ∧ yX2_passDay.cls ≠ "java/lang/invoke/VarHandle" ∧ (parseMethodDescriptor yX2_passDay.desc).map (fun d => d.parameters.length) = some 0 := by decide +kernel
theorem iX2_hasDebt_X2 : ∀ w ∈ u_ws RX2 TX2 11, w ∈ wsX2_hasDebt := by decide +kernel
theorem mX2_hasDebt_1 : Cond.fieldLink RX2 21 "LentPiles$Valley" "height" "[I" ∈ wsX2_hasDebt := by decide +kernel
set_option maxHeartbeats 4000000 in
set_option maxRecDepth 100000 in
theorem w_X2_hasDebt_0 {p : Program} {l : Launch} {e : Env} {s : State} {m : MethodId} {args : Array Value} {below : List Frame} {meth : Method} {c : Code} {A : Nat → Prop} {D : va_G} {cy : Nat → ClassId} {b0 : Nat → Nat} {vv : VS} {x1 : Int32} {x2 : Int32} {rr : Int32} (M : kM p s m args meth c cX2_hasDebt 3 (some .boolean) RX2 wsX2_hasDebt A D cy)  (h : f_X2_hasDebt vv x1 x2 = some rr) {H : Heap} {locs : List Loc} {ls : Array Slot} (hP : va_P D vwCl (wV cy b0 vv []) H) (hD : va_D A (wV cy b0 vv [])) (hS : va_S A s.heap H locs) (hl : lv_has ls 3 [(0, .ref (b0 0)), (1, .int x1), (2, .int x2)]) : W p l e { frames := 0, cells := 0, slots := 0, locals := 0 } s m args below meth c H locs 0 0 (MQ below (qI D (wV cy b0 vv []) (rr) A) args s 0 0 A) (F0 m 0 ls []) := by
  obtain ⟨hx, hb, hr, hml, hown, hts, hlk, hA, hK⟩ := id M
  unfold f_X2_hasDebt at h
  refine lv_iload_n hx hb dX2_hasDebt_0 rfl (lv_at hl 1 rfl) ?_
  refine lv_if_lt (tgt := 33) hx hb dX2_hasDebt_1 (by decide) (fun c_1 => ?_) (fun c_1 => ?_)
  · replace h := it_p c_1 h
    refine lv_iconst (v := 0) hx hb dX2_hasDebt_33 (by decide) ?_
    cases h
    exact kretZ (r0 := (0 : Int32)) (ty := .boolean) hx hb hr hlk hP hS (by decide) dX2_hasDebt_34
  · replace h := it_n c_1 h
    refine lv_iload_n hx hb dX2_hasDebt_4 rfl (lv_at hl 1 rfl) ?_
    refine lv_bipush (v := 6) hx hb dX2_hasDebt_5 (by decide) ?_
    refine lv_icmp_ge (tgt := 33) hx hb dX2_hasDebt_7 (by decide) (fun c_2 => ?_) (fun c_2 => ?_)
    · replace h := it_p c_2 h
      refine lv_iconst (v := 0) hx hb dX2_hasDebt_33 (by decide) ?_
      cases h
      exact kretZ (r0 := (0 : Int32)) (ty := .boolean) hx hb hr hlk hP hS (by decide) dX2_hasDebt_34
    · replace h := it_n c_2 h
      refine lv_iload_n hx hb dX2_hasDebt_10 rfl (lv_at hl 2 rfl) ?_
      refine lv_if_lt (tgt := 33) hx hb dX2_hasDebt_11 (by decide) (fun c_3 => ?_) (fun c_3 => ?_)
      · replace h := it_p c_3 h
        refine lv_iconst (v := 0) hx hb dX2_hasDebt_33 (by decide) ?_
        cases h
        exact kretZ (r0 := (0 : Int32)) (ty := .boolean) hx hb hr hlk hP hS (by decide) dX2_hasDebt_34
      · replace h := it_n c_3 h
        refine lv_iload_n hx hb dX2_hasDebt_14 rfl (lv_at hl 2 rfl) ?_
        refine lv_iconst (v := 5) hx hb dX2_hasDebt_15 (by decide) ?_
        refine lv_icmp_ge (tgt := 33) hx hb dX2_hasDebt_16 (by decide) (fun c_4 => ?_) (fun c_4 => ?_)
        · replace h := it_p c_4 h
          refine lv_iconst (v := 0) hx hb dX2_hasDebt_33 (by decide) ?_
          cases h
          exact kretZ (r0 := (0 : Int32)) (ty := .boolean) hx hb hr hlk hP hS (by decide) dX2_hasDebt_34
        · replace h := it_n c_4 h
          refine lv_iload_n hx hb dX2_hasDebt_19 rfl (lv_at hl 2 rfl) ?_
          refine lv_aload_n hx hb dX2_hasDebt_20 rfl (lv_at hl 0 rfl) ?_
          refine va_get (D := D) (ci := 2) (v := .ref (b0 2)) (C := RX2) (T := TX2) (N := 11) hx hb hts iX2_hasDebt_X2 hown hK.1 hP 0 rfl rfl 1 (by decide) (hts _ mX2_hasDebt_1) (fun _ h9 => h9) rfl dX2_hasDebt_21 ?_
          refine lv_iload_n hx hb dX2_hasDebt_24 rfl (lv_at hl 1 rfl) ?_
          obtain ⟨b_5, h⟩ := ck_s h
          refine va_iald hx hb hK.1 hP 2 1 rfl rfl b_5 dX2_hasDebt_25 ?_
          refine lv_icmp_ge (tgt := 33) hx hb dX2_hasDebt_26 (by decide) (fun c_6 => ?_) (fun c_6 => ?_)
          · replace h := it_p c_6 h
            refine lv_iconst (v := 0) hx hb dX2_hasDebt_33 (by decide) ?_
            cases h
            exact kretZ (r0 := (0 : Int32)) (ty := .boolean) hx hb hr hlk hP hS (by decide) dX2_hasDebt_34
          · replace h := it_n c_6 h
            refine lv_iconst (v := 1) hx hb dX2_hasDebt_29 (by decide) ?_
            refine lv_goto (tgt := 34) hx hb dX2_hasDebt_30 (by decide) ?_
            cases h
            exact kretZ (r0 := (1 : Int32)) (ty := .boolean) hx hb hr hlk hP hS (by decide) dX2_hasDebt_34
theorem c_X2_hasDebt {l : Launch} {D : va_G} {cy : Nat → ClassId} (b0 : Nat → Nat) {vv : VS} {x1 : Int32} {x2 : Int32} {rr : Int32} (h : f_X2_hasDebt vv x1 x2 = some rr) : CI l D cy yX2_hasDebt wsX2_hasDebt { frames := 0, cells := 0, slots := 0, locals := 0 } [.ref (b0 0), .int x1, .int x2] (wV cy b0 vv []) (rr) (wV cy b0 vv []) := by
  refine kofI (cc := cX2_hasDebt) (maxL := 3) (ret := (some .boolean)) (by decide) rfl (Nat.le_of_ble_eq_true rfl) ?_
  intro p e s m below meth c A M ls hl hP hD hS
  exact w_X2_hasDebt_0 M h hP hD hS hl
theorem eX2_hasDebt : yX2_hasDebt.cls ≠ "java/lang/invoke/MethodHandle" ∧ yX2_hasDebt.cls ≠ "java/lang/invoke/VarHandle" ∧ (parseMethodDescriptor yX2_hasDebt.desc).map (fun d => d.parameters.length) = some 2 := by decide +kernel
theorem iX2_debtsOf_X2 : ∀ w ∈ u_ws RX2 TX2 11, w ∈ wsX2_debtsOf := by decide +kernel
theorem mX2_debtsOf_1 : Cond.initialized RX3 ∈ wsX2_debtsOf := by decide +kernel
theorem mX2_debtsOf_2 : Cond.static yX3_isMan ∈ wsX2_debtsOf := by decide +kernel
theorem mX2_debtsOf_3 : Cond.fieldLink RX2 21 "LentPiles$Valley" "height" "[I" ∈ wsX2_debtsOf := by decide +kernel
set_option maxHeartbeats 4000000 in
set_option maxRecDepth 100000 in
theorem w_X2_debtsOf_0 {p : Program} {l : Launch} {e : Env} {s : State} {m : MethodId} {args : Array Value} {below : List Frame} {meth : Method} {c : Code} {A : Nat → Prop} {D : va_G} {cy : Nat → ClassId} {b0 : Nat → Nat} {vv : VS} {x1 : Int32} {rr : Int32} (M : kM p s m args meth c cX2_debtsOf 2 (some .int) RX2 wsX2_debtsOf A D cy)  (h : f_X2_debtsOf vv x1 = some rr) {H : Heap} {locs : List Loc} {ls : Array Slot} (hP : va_P D vwCl (wV cy b0 vv []) H) (hD : va_D A (wV cy b0 vv [])) (hS : va_S A s.heap H locs) (hl : lv_has ls 2 [(0, .ref (b0 0)), (1, .int x1)]) : W p l e { frames := 1, cells := 0, slots := 0, locals := 20 } s m args below meth c H locs 0 0 (MQ below (qI D (wV cy b0 vv []) (rr) A) args s 0 0 A) (F0 m 0 ls []) := by
  obtain ⟨hx, hb, hr, hml, hown, hts, hlk, hA, hK⟩ := id M
  unfold f_X2_debtsOf at h
  refine lv_iload_n hx hb dX2_debtsOf_0 rfl (lv_at hl 1 rfl) ?_
  obtain ⟨r_1, hr_1, h⟩ := bn_s h
  refine kcNi (As := [.int x1]) (rest := []) ⟨hx, hb, hml, hown, hts⟩ ⟨va_cnB 1 hts gX2_debtsOf_X3_isMan_n58 rfl rfl rfl (kN_RX2_58 hK.2) (hts _ mX2_debtsOf_1) eX3_isMan ⟨Nat.le_of_ble_eq_true rfl, Nat.le_of_ble_eq_true rfl⟩, hts _ mX2_debtsOf_2, trivial⟩ (c_X3_isMan  hr_1) hK hP hS hA rfl hl.1 rfl (Nat.le_of_ble_eq_true rfl) dX2_debtsOf_1 (fun H locs hP hS => ?_)
  refine lv_if_eq (tgt := 16) hx hb dX2_debtsOf_4 (by decide) (fun c_2 => ?_) (fun c_2 => ?_)
  · replace h := it_p c_2 h
    refine lv_iconst (v := 0) hx hb dX2_debtsOf_16 (by decide) ?_
    cases h
    exact kretI hx hb hr hlk hP hS dX2_debtsOf_17
  · replace h := it_n c_2 h
    refine lv_aload_n hx hb dX2_debtsOf_7 rfl (lv_at hl 0 rfl) ?_
    refine va_get (D := D) (ci := 2) (v := .ref (b0 2)) (C := RX2) (T := TX2) (N := 11) hx hb hts iX2_debtsOf_X2 hown hK.1 hP 0 rfl rfl 1 (by decide) (hts _ mX2_debtsOf_3) (fun _ h9 => h9) rfl dX2_debtsOf_8 ?_
    refine lv_iload_n hx hb dX2_debtsOf_11 rfl (lv_at hl 1 rfl) ?_
    obtain ⟨b_3, h⟩ := ck_s h
    refine va_iald hx hb hK.1 hP 2 1 rfl rfl b_3 dX2_debtsOf_12 ?_
    refine lv_goto (tgt := 17) hx hb dX2_debtsOf_13 (by decide) ?_
    cases h
    exact kretI hx hb hr hlk hP hS dX2_debtsOf_17
theorem c_X2_debtsOf {l : Launch} {D : va_G} {cy : Nat → ClassId} (b0 : Nat → Nat) {vv : VS} {x1 : Int32} {rr : Int32} (h : f_X2_debtsOf vv x1 = some rr) : CI l D cy yX2_debtsOf wsX2_debtsOf { frames := 1, cells := 0, slots := 0, locals := 20 } [.ref (b0 0), .int x1] (wV cy b0 vv []) (rr) (wV cy b0 vv []) := by
  refine kofI (cc := cX2_debtsOf) (maxL := 2) (ret := (some .int)) (by decide) rfl (Nat.le_of_ble_eq_true rfl) ?_
  intro p e s m below meth c A M ls hl hP hD hS
  exact w_X2_debtsOf_0 M h hP hD hS hl
theorem eX2_debtsOf : yX2_debtsOf.cls ≠ "java/lang/invoke/MethodHandle" ∧ yX2_debtsOf.cls ≠ "java/lang/invoke/VarHandle" ∧ (parseMethodDescriptor yX2_debtsOf.desc).map (fun d => d.parameters.length) = some 1 := by decide +kernel
theorem iX2_notLater_X2 : ∀ w ∈ u_ws RX2 TX2 11, w ∈ wsX2_notLater := by decide +kernel
theorem mX2_notLater_1 : Cond.fieldLink RX2 46 "LentPiles$Valley" "law" "I" ∈ wsX2_notLater := by decide +kernel
theorem mX2_notLater_2 : Cond.fieldLink RX2 27 "LentPiles$Valley" "pence" "[I" ∈ wsX2_notLater := by decide +kernel
set_option maxHeartbeats 4000000 in
set_option maxRecDepth 100000 in
theorem w_X2_notLater_75 {p : Program} {l : Launch} {e : Env} {s : State} {m : MethodId} {args : Array Value} {below : List Frame} {meth : Method} {c : Code} {A : Nat → Prop} {D : va_G} {cy : Nat → ClassId} {b0 : Nat → Nat} {vv : VS} {x1 : Int32} {x2 : Int32} {x3 : Int32} {rr : Int32} (M : kM p s m args meth c cX2_notLater 6 (some .boolean) RX2 wsX2_notLater A D cy) {t0 : Int32} (h : f_X2_notLater_75 vv x1 x2 x3 t0 = some rr) {H : Heap} {locs : List Loc} {ls : Array Slot} (hP : va_P D vwCl (wV cy b0 vv []) H) (hD : va_D A (wV cy b0 vv [])) (hS : va_S A s.heap H locs) (hl : lv_has ls 6 [(0, .ref (b0 0)), (1, .int x1), (2, .int x2), (3, .int x3)]) : W p l e { frames := 1, cells := 0, slots := 0, locals := 22 } s m args below meth c H locs 0 0 (MQ below (qI D (wV cy b0 vv []) (rr) A) args s 0 0 A) (F0 m 75 ls [.int t0]) := by
  obtain ⟨hx, hb, hr, hml, hown, hts, hlk, hA, hK⟩ := id M
  unfold f_X2_notLater_75 at h
  refine lv_istore (lv' := [(5, .int t0), (0, .ref (b0 0)), (1, .int x1), (2, .int x2), (3, .int x3)]) hx hb dX2_notLater_75 hl (by decide) rfl (fun ls hl => ?_)
  refine lv_iload hx hb dX2_notLater_77 (lv_at hl 0 rfl) ?_
  refine lv_if_gt (tgt := 92) hx hb dX2_notLater_79 (by decide) (fun c_1 => ?_) (fun c_1 => ?_)
  · replace h := it_p c_1 h
    refine lv_iconst (v := 1) hx hb dX2_notLater_92 (by decide) ?_
    refine lv_goto (tgt := 97) hx hb dX2_notLater_93 (by decide) ?_
    cases h
    exact kretZ (r0 := (1 : Int32)) (ty := .boolean) hx hb hr hlk hP hS (by decide) dX2_notLater_97
  · replace h := it_n c_1 h
    refine lv_iload hx hb dX2_notLater_82 (lv_at hl 0 rfl) ?_
    refine lv_if_ne (tgt := 96) hx hb dX2_notLater_84 (by decide) (fun c_2 => ?_) (fun c_2 => ?_)
    · replace h := it_n c_2 h
      refine lv_iconst (v := 0) hx hb dX2_notLater_96 (by decide) ?_
      cases h
      exact kretZ (r0 := (0 : Int32)) (ty := .boolean) hx hb hr hlk hP hS (by decide) dX2_notLater_97
    · replace h := it_p c_2 h
      refine lv_iload_n hx hb dX2_notLater_87 rfl (lv_at hl 3 rfl) ?_
      refine lv_iload_n hx hb dX2_notLater_88 rfl (lv_at hl 4 rfl) ?_
      refine lv_icmp_lt (tgt := 96) hx hb dX2_notLater_89 (by decide) (fun c_3 => ?_) (fun c_3 => ?_)
      · replace h := it_p c_3 h
        refine lv_iconst (v := 0) hx hb dX2_notLater_96 (by decide) ?_
        cases h
        exact kretZ (r0 := (0 : Int32)) (ty := .boolean) hx hb hr hlk hP hS (by decide) dX2_notLater_97
      · replace h := it_n c_3 h
        refine lv_iconst (v := 1) hx hb dX2_notLater_92 (by decide) ?_
        refine lv_goto (tgt := 97) hx hb dX2_notLater_93 (by decide) ?_
        cases h
        exact kretZ (r0 := (1 : Int32)) (ty := .boolean) hx hb hr hlk hP hS (by decide) dX2_notLater_97
set_option maxHeartbeats 4000000 in
set_option maxRecDepth 100000 in
theorem w_X2_notLater_0 {p : Program} {l : Launch} {e : Env} {s : State} {m : MethodId} {args : Array Value} {below : List Frame} {meth : Method} {c : Code} {A : Nat → Prop} {D : va_G} {cy : Nat → ClassId} {b0 : Nat → Nat} {vv : VS} {x1 : Int32} {x2 : Int32} {x3 : Int32} {rr : Int32} (M : kM p s m args meth c cX2_notLater 6 (some .boolean) RX2 wsX2_notLater A D cy)  (h : f_X2_notLater vv x1 x2 x3 = some rr) {H : Heap} {locs : List Loc} {ls : Array Slot} (hP : va_P D vwCl (wV cy b0 vv []) H) (hD : va_D A (wV cy b0 vv [])) (hS : va_S A s.heap H locs) (hl : lv_has ls 6 [(0, .ref (b0 0)), (1, .int x1), (2, .int x2), (3, .int x3)]) : W p l e { frames := 1, cells := 0, slots := 0, locals := 22 } s m args below meth c H locs 0 0 (MQ below (qI D (wV cy b0 vv []) (rr) A) args s 0 0 A) (F0 m 0 ls []) := by
  obtain ⟨hx, hb, hr, hml, hown, hts, hlk, hA, hK⟩ := id M
  unfold f_X2_notLater at h
  refine lv_aload_n hx hb dX2_notLater_0 rfl (lv_at hl 0 rfl) ?_
  refine lv_iload_n hx hb dX2_notLater_1 rfl (lv_at hl 1 rfl) ?_
  refine lv_iload_n hx hb dX2_notLater_2 rfl (lv_at hl 2 rfl) ?_
  obtain ⟨r_1, hr_1, h⟩ := bn_s h
  refine kcVi (As := [.int x1, .int x2]) (rest := []) (ws' := (wV cy b0 vv [])) ⟨hx, hb, hml, hown, hts⟩ (cwV 2 hts gX2_notLater_X2_hasDebt rfl rfl rfl ⟨rfl, eX2_hasDebt⟩ ⟨Nat.le_of_ble_eq_true rfl, Nat.le_of_ble_eq_true rfl⟩) (c_X2_hasDebt b0 hr_1) hK hP hD hS hA [0, 1, 2, 3, 4, 5, 6, 7] [] (by decide) rfl rfl 2 rfl rfl [(b0 0), (b0 1), (b0 2), (b0 3), (b0 4), (b0 5), (b0 6), (b0 7)] rfl rfl rfl [] rfl rfl rfl rfl hl.1 rfl (Nat.le_of_ble_eq_true rfl) dX2_notLater_3 (fun H locs hP hD hS => ?_)
  refine lv_if_eq (tgt := 18) hx hb dX2_notLater_6 (by decide) (fun c_2 => ?_) (fun c_2 => ?_)
  · replace h := it_p c_2 h
    refine lv_iconst (v := 0) hx hb dX2_notLater_18 (by decide) ?_
    cases h
    exact kretZ (r0 := (0 : Int32)) (ty := .boolean) hx hb hr hlk hP hS (by decide) dX2_notLater_19
  · replace h := it_n c_2 h
    refine lv_aload_n hx hb dX2_notLater_9 rfl (lv_at hl 0 rfl) ?_
    refine lv_iload_n hx hb dX2_notLater_10 rfl (lv_at hl 1 rfl) ?_
    refine lv_iload_n hx hb dX2_notLater_11 rfl (lv_at hl 3 rfl) ?_
    obtain ⟨r_3, hr_3, h⟩ := bn_s h
    refine kcVi (As := [.int x1, .int x3]) (rest := []) (ws' := (wV cy b0 vv [])) ⟨hx, hb, hml, hown, hts⟩ (cwV 2 hts gX2_notLater_X2_hasDebt rfl rfl rfl ⟨rfl, eX2_hasDebt⟩ ⟨Nat.le_of_ble_eq_true rfl, Nat.le_of_ble_eq_true rfl⟩) (c_X2_hasDebt b0 hr_3) hK hP hD hS hA [0, 1, 2, 3, 4, 5, 6, 7] [] (by decide) rfl rfl 2 rfl rfl [(b0 0), (b0 1), (b0 2), (b0 3), (b0 4), (b0 5), (b0 6), (b0 7)] rfl rfl rfl [] rfl rfl rfl rfl hl.1 rfl (Nat.le_of_ble_eq_true rfl) dX2_notLater_12 (fun H locs hP hD hS => ?_)
    refine lv_if_ne (tgt := 20) hx hb dX2_notLater_15 (by decide) (fun c_4 => ?_) (fun c_4 => ?_)
    · replace h := it_n c_4 h
      refine lv_aload_n hx hb dX2_notLater_20 rfl (lv_at hl 0 rfl) ?_
      refine va_get (D := D) (ci := 2) (v := .int vv.2.2.2.2.2.2.2.2.2.1) (C := RX2) (T := TX2) (N := 11) hx hb hts iX2_notLater_X2 hown hK.1 hP 0 rfl rfl 9 (by decide) (hts _ mX2_notLater_1) (fun _ h9 => h9) rfl dX2_notLater_21 ?_
      refine lv_iconst (v := 1) hx hb dX2_notLater_24 (by decide) ?_
      refine lv_icmp_ne (tgt := 39) hx hb dX2_notLater_25 (by decide) (fun c_5 => ?_) (fun c_5 => ?_)
      · replace h := it_n c_5 h
        refine lv_iload_n hx hb dX2_notLater_39 rfl (lv_at hl 1 rfl) ?_
        refine lv_iconst (v := 5) hx hb dX2_notLater_40 (by decide) ?_
        refine lv_imul hx hb dX2_notLater_41 ?_
        refine lv_topi (fun x4_6 ex4_6 => ?_)
        replace h := nm_s h ex4_6
        refine lv_istore (lv' := [(4, .int x4_6), (0, .ref (b0 0)), (1, .int x1), (2, .int x2), (3, .int x3)]) hx hb dX2_notLater_42 hl (by decide) rfl (fun ls hl => ?_)
        refine lv_aload_n hx hb dX2_notLater_44 rfl (lv_at hl 1 rfl) ?_
        refine va_get (D := D) (ci := 2) (v := .int vv.2.2.2.2.2.2.2.2.2.1) (C := RX2) (T := TX2) (N := 11) hx hb hts iX2_notLater_X2 hown hK.1 hP 0 rfl rfl 9 (by decide) (hts _ mX2_notLater_1) (fun _ h9 => h9) rfl dX2_notLater_45 ?_
        refine lv_iconst (v := 2) hx hb dX2_notLater_48 (by decide) ?_
        refine lv_icmp_ne (tgt := 74) hx hb dX2_notLater_49 (by decide) (fun c_7 => ?_) (fun c_7 => ?_)
        · replace h := it_n c_7 h
          refine lv_iconst (v := 0) hx hb dX2_notLater_74 (by decide) ?_
          exact w_X2_notLater_75 M h hP hD hS (lv_sub hl [1, 2, 3, 4] rfl)
        · replace h := it_p c_7 h
          refine lv_aload_n hx hb dX2_notLater_52 rfl (lv_at hl 1 rfl) ?_
          refine va_get (D := D) (ci := 2) (v := .ref (b0 4)) (C := RX2) (T := TX2) (N := 11) hx hb hts iX2_notLater_X2 hown hK.1 hP 0 rfl rfl 3 (by decide) (hts _ mX2_notLater_2) (fun _ h9 => h9) rfl dX2_notLater_53 ?_
          refine lv_iload hx hb dX2_notLater_56 (lv_at hl 0 rfl) ?_
          refine lv_iload_n hx hb dX2_notLater_58 rfl (lv_at hl 3 rfl) ?_
          refine lv_iadd hx hb dX2_notLater_59 ?_
          obtain ⟨b_8, h⟩ := ck_s h
          refine va_iald hx hb hK.1 hP 4 1 rfl rfl b_8 dX2_notLater_60 ?_
          refine lv_aload_n hx hb dX2_notLater_61 rfl (lv_at hl 1 rfl) ?_
          refine va_get (D := D) (ci := 2) (v := .ref (b0 4)) (C := RX2) (T := TX2) (N := 11) hx hb hts iX2_notLater_X2 hown hK.1 hP 0 rfl rfl 3 (by decide) (hts _ mX2_notLater_2) (fun _ h9 => h9) rfl dX2_notLater_62 ?_
          refine lv_iload hx hb dX2_notLater_65 (lv_at hl 0 rfl) ?_
          refine lv_iload_n hx hb dX2_notLater_67 rfl (lv_at hl 4 rfl) ?_
          refine lv_iadd hx hb dX2_notLater_68 ?_
          obtain ⟨b_9, h⟩ := ck_s h
          refine va_iald hx hb hK.1 hP 4 1 rfl rfl b_9 dX2_notLater_69 ?_
          refine lv_isub hx hb dX2_notLater_70 ?_
          refine lv_goto (tgt := 75) hx hb dX2_notLater_71 (by decide) ?_
          exact w_X2_notLater_75 M h hP hD hS (lv_sub hl [1, 2, 3, 4] rfl)
      · replace h := it_p c_5 h
        refine lv_iload_n hx hb dX2_notLater_28 rfl (lv_at hl 2 rfl) ?_
        refine lv_iload_n hx hb dX2_notLater_29 rfl (lv_at hl 3 rfl) ?_
        refine lv_icmp_gt (tgt := 37) hx hb dX2_notLater_30 (by decide) (fun c_10 => ?_) (fun c_10 => ?_)
        · replace h := it_p c_10 h
          refine lv_iconst (v := 0) hx hb dX2_notLater_37 (by decide) ?_
          cases h
          exact kretZ (r0 := (0 : Int32)) (ty := .boolean) hx hb hr hlk hP hS (by decide) dX2_notLater_38
        · replace h := it_n c_10 h
          refine lv_iconst (v := 1) hx hb dX2_notLater_33 (by decide) ?_
          refine lv_goto (tgt := 38) hx hb dX2_notLater_34 (by decide) ?_
          cases h
          exact kretZ (r0 := (1 : Int32)) (ty := .boolean) hx hb hr hlk hP hS (by decide) dX2_notLater_38
    · replace h := it_p c_4 h
      refine lv_iconst (v := 0) hx hb dX2_notLater_18 (by decide) ?_
      cases h
      exact kretZ (r0 := (0 : Int32)) (ty := .boolean) hx hb hr hlk hP hS (by decide) dX2_notLater_19
theorem c_X2_notLater {l : Launch} {D : va_G} {cy : Nat → ClassId} (b0 : Nat → Nat) {vv : VS} {x1 : Int32} {x2 : Int32} {x3 : Int32} {rr : Int32} (h : f_X2_notLater vv x1 x2 x3 = some rr) : CI l D cy yX2_notLater wsX2_notLater { frames := 1, cells := 0, slots := 0, locals := 22 } [.ref (b0 0), .int x1, .int x2, .int x3] (wV cy b0 vv []) (rr) (wV cy b0 vv []) := by
  refine kofI (cc := cX2_notLater) (maxL := 6) (ret := (some .boolean)) (by decide) rfl (Nat.le_of_ble_eq_true rfl) ?_
  intro p e s m below meth c A M ls hl hP hD hS
  exact w_X2_notLater_0 M h hP hD hS hl
theorem eX2_notLater : yX2_notLater.cls ≠ "java/lang/invoke/MethodHandle" ∧ yX2_notLater.cls ≠ "java/lang/invoke/VarHandle" ∧ (parseMethodDescriptor yX2_notLater.desc).map (fun d => d.parameters.length) = some 3 := by decide +kernel
def I_X2_dueOf (p : Program) (l : Launch) (e : Env) (s : State) (m : MethodId) (args : Array Value) (below : List Frame) (meth : Method) (c : Code) (A : Nat → Prop) (D : va_G) (cy : Nat → ClassId) (b0 : Nat → Nat) (vv : VS) (x1 : Int32) (fu : Nat) (rr : Int32) : Prop := (∀ (x2 : Int32) (x3 : Int32) (H : Heap) (locs : List Loc) (ls : Array Slot), lpn (st_X2_dueOf vv x1) fu (x2, x3) = some rr → va_P D vwCl (wV cy b0 vv []) H → va_D A (wV cy b0 vv []) → va_S A s.heap H locs → lv_has ls 4 [(0, .ref (b0 0)), (1, .int x1), (2, .int x2), (3, .int x3)] → W p l e { frames := 2, cells := 0, slots := 0, locals := 47 } s m args below meth c H locs 0 0 (MQ below (qI D (wV cy b0 vv []) (rr) A) args s 0 0 A) (F0 m 16 ls []))
set_option maxHeartbeats 4000000 in
set_option maxRecDepth 100000 in
theorem w_X2_dueOf_16 {p : Program} {l : Launch} {e : Env} {s : State} {m : MethodId} {args : Array Value} {below : List Frame} {meth : Method} {c : Code} {A : Nat → Prop} {D : va_G} {cy : Nat → ClassId} {b0 : Nat → Nat} {vv : VS} {x1 : Int32} {fu : Nat} {rr : Int32} (M : kM p s m args meth c cX2_dueOf 4 (some .int) RX2 wsX2_dueOf A D cy) (ih : I_X2_dueOf p l e s m args below meth c A D cy b0 vv x1 fu rr) {x2 : Int32} {x3 : Int32} {oo : (Int32 × Int32) ⊕ (Int32)} (h : f_X2_dueOf_16 vv x1 x2 x3 = some oo) (hm : lpo (st_X2_dueOf vv x1) fu oo rr) {H : Heap} {locs : List Loc} {ls : Array Slot} (hP : va_P D vwCl (wV cy b0 vv []) H) (hD : va_D A (wV cy b0 vv [])) (hS : va_S A s.heap H locs) (hl : lv_has ls 4 [(0, .ref (b0 0)), (1, .int x1), (2, .int x2), (3, .int x3)]) : W p l e { frames := 2, cells := 0, slots := 0, locals := 47 } s m args below meth c H locs 0 0 (MQ below (qI D (wV cy b0 vv []) (rr) A) args s 0 0 A) (F0 m 16 ls []) := by
  obtain ⟨hx, hb, hr, hml, hown, hts, hlk, hA, hK⟩ := id M
  unfold f_X2_dueOf_16 at h
  refine lv_iload_n hx hb dX2_dueOf_16 rfl (lv_at hl 3 rfl) ?_
  refine lv_aload_n hx hb dX2_dueOf_17 rfl (lv_at hl 0 rfl) ?_
  refine lv_iload_n hx hb dX2_dueOf_18 rfl (lv_at hl 1 rfl) ?_
  obtain ⟨r_1, hr_1, h⟩ := bn_s h
  refine kcVi (As := [.int x1]) (rest := [.int x3]) (ws' := (wV cy b0 vv [])) ⟨hx, hb, hml, hown, hts⟩ (cwV 1 hts gX2_dueOf_X2_debtsOf rfl rfl rfl ⟨rfl, eX2_debtsOf⟩ ⟨Nat.le_of_ble_eq_true rfl, Nat.le_of_ble_eq_true rfl⟩) (c_X2_debtsOf b0 hr_1) hK hP hD hS hA [0, 1, 2, 3, 4, 5, 6, 7] [] (by decide) rfl rfl 2 rfl rfl [(b0 0), (b0 1), (b0 2), (b0 3), (b0 4), (b0 5), (b0 6), (b0 7)] rfl rfl rfl [] rfl rfl rfl rfl hl.1 rfl (Nat.le_of_ble_eq_true rfl) dX2_dueOf_19 (fun H locs hP hD hS => ?_)
  refine lv_icmp_ge (tgt := 47) hx hb dX2_dueOf_22 (by decide) (fun c_2 => ?_) (fun c_2 => ?_)
  · replace h := it_p c_2 h
    refine lv_iload_n hx hb dX2_dueOf_47 rfl (lv_at hl 2 rfl) ?_
    cases h
    have hm : _ = rr := hm
    subst hm
    exact kretI hx hb hr hlk hP hS dX2_dueOf_48
  · replace h := it_n c_2 h
    refine lv_aload_n hx hb dX2_dueOf_25 rfl (lv_at hl 0 rfl) ?_
    refine lv_iload_n hx hb dX2_dueOf_26 rfl (lv_at hl 1 rfl) ?_
    refine lv_iload_n hx hb dX2_dueOf_27 rfl (lv_at hl 3 rfl) ?_
    refine lv_iload_n hx hb dX2_dueOf_28 rfl (lv_at hl 2 rfl) ?_
    obtain ⟨r_3, hr_3, h⟩ := bn_s h
    refine kcVi (As := [.int x1, .int x3, .int x2]) (rest := []) (ws' := (wV cy b0 vv [])) ⟨hx, hb, hml, hown, hts⟩ (cwV 3 hts gX2_dueOf_X2_notLater rfl rfl rfl ⟨rfl, eX2_notLater⟩ ⟨Nat.le_of_ble_eq_true rfl, Nat.le_of_ble_eq_true rfl⟩) (c_X2_notLater b0 hr_3) hK hP hD hS hA [0, 1, 2, 3, 4, 5, 6, 7] [] (by decide) rfl rfl 2 rfl rfl [(b0 0), (b0 1), (b0 2), (b0 3), (b0 4), (b0 5), (b0 6), (b0 7)] rfl rfl rfl [] rfl rfl rfl rfl hl.1 rfl (Nat.le_of_ble_eq_true rfl) dX2_dueOf_29 (fun H locs hP hD hS => ?_)
    refine lv_if_eq (tgt := 39) hx hb dX2_dueOf_32 (by decide) (fun c_4 => ?_) (fun c_4 => ?_)
    · replace h := it_p c_4 h
      refine lv_iload_n hx hb dX2_dueOf_39 rfl (lv_at hl 2 rfl) ?_
      refine lv_istore_n (lv' := [(2, .int x2), (0, .ref (b0 0)), (1, .int x1), (3, .int x3)]) hx hb dX2_dueOf_40 rfl hl (by decide) rfl (fun ls hl => ?_)
      obtain ⟨x3_5, ex3_5⟩ : ∃ z : Int32, z = (x3 + (1 : Int32)) := ⟨_, rfl⟩
      replace h := nm_s h ex3_5
      refine lv_iinc (v := x3_5) (lv' := [(3, .int x3_5), (2, .int x2), (0, .ref (b0 0)), (1, .int x1)]) hx hb dX2_dueOf_41 hl (k := 3) rfl (by rw [ex3_5]; rfl) (by decide) rfl (fun ls hl => ?_)
      refine lv_goto (tgt := 16) hx hb dX2_dueOf_44 (by decide) ?_
      cases h
      exact ih x2 x3_5 _ _ _ hm hP hD hS (lv_sub hl [2, 3, 1, 0] rfl)
    · replace h := it_n c_4 h
      refine lv_iload_n hx hb dX2_dueOf_35 rfl (lv_at hl 3 rfl) ?_
      refine lv_goto (tgt := 40) hx hb dX2_dueOf_36 (by decide) ?_
      refine lv_istore_n (lv' := [(2, .int x3), (0, .ref (b0 0)), (1, .int x1), (3, .int x3)]) hx hb dX2_dueOf_40 rfl hl (by decide) rfl (fun ls hl => ?_)
      obtain ⟨x3_6, ex3_6⟩ : ∃ z : Int32, z = (x3 + (1 : Int32)) := ⟨_, rfl⟩
      replace h := nm_s h ex3_6
      refine lv_iinc (v := x3_6) (lv' := [(3, .int x3_6), (2, .int x3), (0, .ref (b0 0)), (1, .int x1)]) hx hb dX2_dueOf_41 hl (k := 3) rfl (by rw [ex3_6]; rfl) (by decide) rfl (fun ls hl => ?_)
      refine lv_goto (tgt := 16) hx hb dX2_dueOf_44 (by decide) ?_
      cases h
      exact ih x3 x3_6 _ _ _ hm hP hD hS (lv_sub hl [2, 3, 1, 0] rfl)
set_option maxHeartbeats 4000000 in
set_option maxRecDepth 100000 in
theorem w_X2_dueOf_0 {p : Program} {l : Launch} {e : Env} {s : State} {m : MethodId} {args : Array Value} {below : List Frame} {meth : Method} {c : Code} {A : Nat → Prop} {D : va_G} {cy : Nat → ClassId} {b0 : Nat → Nat} {vv : VS} {x1 : Int32} {fu : Nat} {rr : Int32} (M : kM p s m args meth c cX2_dueOf 4 (some .int) RX2 wsX2_dueOf A D cy) (ih : I_X2_dueOf p l e s m args below meth c A D cy b0 vv x1 fu rr)  {oo : (Int32 × Int32) ⊕ (Int32)} (h : f_X2_dueOf_0 vv x1 = some oo) (hm : lpo (st_X2_dueOf vv x1) fu oo rr) {H : Heap} {locs : List Loc} {ls : Array Slot} (hP : va_P D vwCl (wV cy b0 vv []) H) (hD : va_D A (wV cy b0 vv [])) (hS : va_S A s.heap H locs) (hl : lv_has ls 4 [(0, .ref (b0 0)), (1, .int x1)]) : W p l e { frames := 2, cells := 0, slots := 0, locals := 47 } s m args below meth c H locs 0 0 (MQ below (qI D (wV cy b0 vv []) (rr) A) args s 0 0 A) (F0 m 0 ls []) := by
  obtain ⟨hx, hb, hr, hml, hown, hts, hlk, hA, hK⟩ := id M
  unfold f_X2_dueOf_0 at h
  refine lv_aload_n hx hb dX2_dueOf_0 rfl (lv_at hl 0 rfl) ?_
  refine lv_iload_n hx hb dX2_dueOf_1 rfl (lv_at hl 1 rfl) ?_
  refine lv_iconst (v := 0) hx hb dX2_dueOf_2 (by decide) ?_
  obtain ⟨r_1, hr_1, h⟩ := bn_s h
  refine kcVi (As := [.int x1, .int (0 : Int32)]) (rest := []) (ws' := (wV cy b0 vv [])) ⟨hx, hb, hml, hown, hts⟩ (cwV 2 hts gX2_dueOf_X2_hasDebt rfl rfl rfl ⟨rfl, eX2_hasDebt⟩ ⟨Nat.le_of_ble_eq_true rfl, Nat.le_of_ble_eq_true rfl⟩) (c_X2_hasDebt b0 hr_1) hK hP hD hS hA [0, 1, 2, 3, 4, 5, 6, 7] [] (by decide) rfl rfl 2 rfl rfl [(b0 0), (b0 1), (b0 2), (b0 3), (b0 4), (b0 5), (b0 6), (b0 7)] rfl rfl rfl [] rfl rfl rfl rfl hl.1 rfl (Nat.le_of_ble_eq_true rfl) dX2_dueOf_3 (fun H locs hP hD hS => ?_)
  refine lv_if_ne (tgt := 12) hx hb dX2_dueOf_6 (by decide) (fun c_2 => ?_) (fun c_2 => ?_)
  · replace h := it_n c_2 h
    refine lv_iconst (v := 0) hx hb dX2_dueOf_12 (by decide) ?_
    refine lv_istore_n (lv' := [(2, .int (0 : Int32)), (0, .ref (b0 0)), (1, .int x1)]) hx hb dX2_dueOf_13 rfl hl (by decide) rfl (fun ls hl => ?_)
    refine lv_iconst (v := 1) hx hb dX2_dueOf_14 (by decide) ?_
    refine lv_istore_n (lv' := [(3, .int (1 : Int32)), (2, .int (0 : Int32)), (0, .ref (b0 0)), (1, .int x1)]) hx hb dX2_dueOf_15 rfl hl (by decide) rfl (fun ls hl => ?_)
    cases h
    exact ih (0 : Int32) (1 : Int32) _ _ _ hm hP hD hS (lv_sub hl [2, 3, 1, 0] rfl)
  · replace h := it_p c_2 h
    refine lv_bipush (v := (-6)) hx hb dX2_dueOf_9 (by decide) ?_
    cases h
    have hm : _ = rr := hm
    subst hm
    exact kretI hx hb hr hlk hP hS dX2_dueOf_11
theorem wl_X2_dueOf {p : Program} {l : Launch} {e : Env} {s : State} {m : MethodId} {args : Array Value} {below : List Frame} {meth : Method} {c : Code} {A : Nat → Prop} {D : va_G} {cy : Nat → ClassId} {b0 : Nat → Nat} {vv : VS} {x1 : Int32} {rr : Int32} (M : kM p s m args meth c cX2_dueOf 4 (some .int) RX2 wsX2_dueOf A D cy) : ∀ fu : Nat, I_X2_dueOf p l e s m args below meth c A D cy b0 vv x1 fu rr := by
  intro fu
  induction fu with
  | zero => exact (fun _ _ _ _ _ h => by cases h)
  | succ fu ih =>
    exact fun x2 x3 H locs ls h hP hD hS hl => by
      obtain ⟨o1, h1, h2⟩ := lpn_s h
      exact w_X2_dueOf_16 M ih h1 h2 hP hD hS hl
theorem c_X2_dueOf {l : Launch} {D : va_G} {cy : Nat → ClassId} (b0 : Nat → Nat) {vv : VS} {x1 : Int32} {rr : Int32} (h : f_X2_dueOf vv x1 = some rr) : CI l D cy yX2_dueOf wsX2_dueOf { frames := 2, cells := 0, slots := 0, locals := 47 } [.ref (b0 0), .int x1] (wV cy b0 vv []) (rr) (wV cy b0 vv []) := by
  refine kofI (cc := cX2_dueOf) (maxL := 4) (ret := (some .int)) (by decide) rfl (Nat.le_of_ble_eq_true rfl) ?_
  intro p e s m below meth c A M ls hl hP hD hS
  obtain ⟨o1, fu, h1, h2⟩ := rnx_s h
  exact w_X2_dueOf_0 M (wl_X2_dueOf M fu) h1 h2 hP hD hS hl
theorem eX2_dueOf : yX2_dueOf.cls ≠ "java/lang/invoke/MethodHandle" ∧ yX2_dueOf.cls ≠ "java/lang/invoke/VarHandle" ∧ (parseMethodDescriptor yX2_dueOf.desc).map (fun d => d.parameters.length) = some 1 := by decide +kernel
theorem iX2_penceOf_X2 : ∀ w ∈ u_ws RX2 TX2 11, w ∈ wsX2_penceOf := by decide +kernel
theorem mX2_penceOf_1 : Cond.fieldLink RX2 27 "LentPiles$Valley" "pence" "[I" ∈ wsX2_penceOf := by decide +kernel
set_option maxHeartbeats 4000000 in
set_option maxRecDepth 100000 in
theorem w_X2_penceOf_0 {p : Program} {l : Launch} {e : Env} {s : State} {m : MethodId} {args : Array Value} {below : List Frame} {meth : Method} {c : Code} {A : Nat → Prop} {D : va_G} {cy : Nat → ClassId} {b0 : Nat → Nat} {vv : VS} {x1 : Int32} {x2 : Int32} {rr : Int32} (M : kM p s m args meth c cX2_penceOf 3 (some .int) RX2 wsX2_penceOf A D cy)  (h : f_X2_penceOf vv x1 x2 = some rr) {H : Heap} {locs : List Loc} {ls : Array Slot} (hP : va_P D vwCl (wV cy b0 vv []) H) (hD : va_D A (wV cy b0 vv [])) (hS : va_S A s.heap H locs) (hl : lv_has ls 3 [(0, .ref (b0 0)), (1, .int x1), (2, .int x2)]) : W p l e { frames := 1, cells := 0, slots := 0, locals := 22 } s m args below meth c H locs 0 0 (MQ below (qI D (wV cy b0 vv []) (rr) A) args s 0 0 A) (F0 m 0 ls []) := by
  obtain ⟨hx, hb, hr, hml, hown, hts, hlk, hA, hK⟩ := id M
  unfold f_X2_penceOf at h
  refine lv_aload_n hx hb dX2_penceOf_0 rfl (lv_at hl 0 rfl) ?_
  refine lv_iload_n hx hb dX2_penceOf_1 rfl (lv_at hl 1 rfl) ?_
  refine lv_iload_n hx hb dX2_penceOf_2 rfl (lv_at hl 2 rfl) ?_
  obtain ⟨r_1, hr_1, h⟩ := bn_s h
  refine kcVi (As := [.int x1, .int x2]) (rest := []) (ws' := (wV cy b0 vv [])) ⟨hx, hb, hml, hown, hts⟩ (cwV 2 hts gX2_penceOf_X2_hasDebt rfl rfl rfl ⟨rfl, eX2_hasDebt⟩ ⟨Nat.le_of_ble_eq_true rfl, Nat.le_of_ble_eq_true rfl⟩) (c_X2_hasDebt b0 hr_1) hK hP hD hS hA [0, 1, 2, 3, 4, 5, 6, 7] [] (by decide) rfl rfl 2 rfl rfl [(b0 0), (b0 1), (b0 2), (b0 3), (b0 4), (b0 5), (b0 6), (b0 7)] rfl rfl rfl [] rfl rfl rfl rfl hl.1 rfl (Nat.le_of_ble_eq_true rfl) dX2_penceOf_3 (fun H locs hP hD hS => ?_)
  refine lv_if_eq (tgt := 22) hx hb dX2_penceOf_6 (by decide) (fun c_2 => ?_) (fun c_2 => ?_)
  · replace h := it_p c_2 h
    refine lv_iconst (v := 0) hx hb dX2_penceOf_22 (by decide) ?_
    cases h
    exact kretI hx hb hr hlk hP hS dX2_penceOf_23
  · replace h := it_n c_2 h
    refine lv_aload_n hx hb dX2_penceOf_9 rfl (lv_at hl 0 rfl) ?_
    refine va_get (D := D) (ci := 2) (v := .ref (b0 4)) (C := RX2) (T := TX2) (N := 11) hx hb hts iX2_penceOf_X2 hown hK.1 hP 0 rfl rfl 3 (by decide) (hts _ mX2_penceOf_1) (fun _ h9 => h9) rfl dX2_penceOf_10 ?_
    refine lv_iload_n hx hb dX2_penceOf_13 rfl (lv_at hl 1 rfl) ?_
    refine lv_iconst (v := 5) hx hb dX2_penceOf_14 (by decide) ?_
    refine lv_imul hx hb dX2_penceOf_15 ?_
    refine lv_iload_n hx hb dX2_penceOf_16 rfl (lv_at hl 2 rfl) ?_
    refine lv_iadd hx hb dX2_penceOf_17 ?_
    obtain ⟨b_3, h⟩ := ck_s h
    refine va_iald hx hb hK.1 hP 4 1 rfl rfl b_3 dX2_penceOf_18 ?_
    refine lv_goto (tgt := 23) hx hb dX2_penceOf_19 (by decide) ?_
    cases h
    exact kretI hx hb hr hlk hP hS dX2_penceOf_23
theorem c_X2_penceOf {l : Launch} {D : va_G} {cy : Nat → ClassId} (b0 : Nat → Nat) {vv : VS} {x1 : Int32} {x2 : Int32} {rr : Int32} (h : f_X2_penceOf vv x1 x2 = some rr) : CI l D cy yX2_penceOf wsX2_penceOf { frames := 1, cells := 0, slots := 0, locals := 22 } [.ref (b0 0), .int x1, .int x2] (wV cy b0 vv []) (rr) (wV cy b0 vv []) := by
  refine kofI (cc := cX2_penceOf) (maxL := 3) (ret := (some .int)) (by decide) rfl (Nat.le_of_ble_eq_true rfl) ?_
  intro p e s m below meth c A M ls hl hP hD hS
  exact w_X2_penceOf_0 M h hP hD hS hl
theorem eX2_penceOf : yX2_penceOf.cls ≠ "java/lang/invoke/MethodHandle" ∧ yX2_penceOf.cls ≠ "java/lang/invoke/VarHandle" ∧ (parseMethodDescriptor yX2_penceOf.desc).map (fun d => d.parameters.length) = some 2 := by decide +kernel
theorem iX2_purseOf_X2 : ∀ w ∈ u_ws RX2 TX2 11, w ∈ wsX2_purseOf := by decide +kernel
theorem mX2_purseOf_1 : Cond.initialized RX3 ∈ wsX2_purseOf := by decide +kernel
theorem mX2_purseOf_2 : Cond.static yX3_isMan ∈ wsX2_purseOf := by decide +kernel
theorem mX2_purseOf_3 : Cond.fieldLink RX2 9 "LentPiles$Valley" "purse" "[I" ∈ wsX2_purseOf := by decide +kernel
set_option maxHeartbeats 4000000 in
set_option maxRecDepth 100000 in
theorem w_X2_purseOf_0 {p : Program} {l : Launch} {e : Env} {s : State} {m : MethodId} {args : Array Value} {below : List Frame} {meth : Method} {c : Code} {A : Nat → Prop} {D : va_G} {cy : Nat → ClassId} {b0 : Nat → Nat} {vv : VS} {x1 : Int32} {rr : Int32} (M : kM p s m args meth c cX2_purseOf 2 (some .int) RX2 wsX2_purseOf A D cy)  (h : f_X2_purseOf vv x1 = some rr) {H : Heap} {locs : List Loc} {ls : Array Slot} (hP : va_P D vwCl (wV cy b0 vv []) H) (hD : va_D A (wV cy b0 vv [])) (hS : va_S A s.heap H locs) (hl : lv_has ls 2 [(0, .ref (b0 0)), (1, .int x1)]) : W p l e { frames := 1, cells := 0, slots := 0, locals := 20 } s m args below meth c H locs 0 0 (MQ below (qI D (wV cy b0 vv []) (rr) A) args s 0 0 A) (F0 m 0 ls []) := by
  obtain ⟨hx, hb, hr, hml, hown, hts, hlk, hA, hK⟩ := id M
  unfold f_X2_purseOf at h
  refine lv_iload_n hx hb dX2_purseOf_0 rfl (lv_at hl 1 rfl) ?_
  obtain ⟨r_1, hr_1, h⟩ := bn_s h
  refine kcNi (As := [.int x1]) (rest := []) ⟨hx, hb, hml, hown, hts⟩ ⟨va_cnB 1 hts gX2_purseOf_X3_isMan_n58 rfl rfl rfl (kN_RX2_58 hK.2) (hts _ mX2_purseOf_1) eX3_isMan ⟨Nat.le_of_ble_eq_true rfl, Nat.le_of_ble_eq_true rfl⟩, hts _ mX2_purseOf_2, trivial⟩ (c_X3_isMan  hr_1) hK hP hS hA rfl hl.1 rfl (Nat.le_of_ble_eq_true rfl) dX2_purseOf_1 (fun H locs hP hS => ?_)
  refine lv_if_eq (tgt := 16) hx hb dX2_purseOf_4 (by decide) (fun c_2 => ?_) (fun c_2 => ?_)
  · replace h := it_p c_2 h
    refine lv_iconst (v := 0) hx hb dX2_purseOf_16 (by decide) ?_
    cases h
    exact kretI hx hb hr hlk hP hS dX2_purseOf_17
  · replace h := it_n c_2 h
    refine lv_aload_n hx hb dX2_purseOf_7 rfl (lv_at hl 0 rfl) ?_
    refine va_get (D := D) (ci := 2) (v := .ref (b0 1)) (C := RX2) (T := TX2) (N := 11) hx hb hts iX2_purseOf_X2 hown hK.1 hP 0 rfl rfl 0 (by decide) (hts _ mX2_purseOf_3) (fun _ h9 => h9) rfl dX2_purseOf_8 ?_
    refine lv_iload_n hx hb dX2_purseOf_11 rfl (lv_at hl 1 rfl) ?_
    obtain ⟨b_3, h⟩ := ck_s h
    refine va_iald hx hb hK.1 hP 1 1 rfl rfl b_3 dX2_purseOf_12 ?_
    refine lv_goto (tgt := 17) hx hb dX2_purseOf_13 (by decide) ?_
    cases h
    exact kretI hx hb hr hlk hP hS dX2_purseOf_17
theorem c_X2_purseOf {l : Launch} {D : va_G} {cy : Nat → ClassId} (b0 : Nat → Nat) {vv : VS} {x1 : Int32} {rr : Int32} (h : f_X2_purseOf vv x1 = some rr) : CI l D cy yX2_purseOf wsX2_purseOf { frames := 1, cells := 0, slots := 0, locals := 20 } [.ref (b0 0), .int x1] (wV cy b0 vv []) (rr) (wV cy b0 vv []) := by
  refine kofI (cc := cX2_purseOf) (maxL := 2) (ret := (some .int)) (by decide) rfl (Nat.le_of_ble_eq_true rfl) ?_
  intro p e s m below meth c A M ls hl hP hD hS
  exact w_X2_purseOf_0 M h hP hD hS hl
theorem eX2_purseOf : yX2_purseOf.cls ≠ "java/lang/invoke/MethodHandle" ∧ yX2_purseOf.cls ≠ "java/lang/invoke/VarHandle" ∧ (parseMethodDescriptor yX2_purseOf.desc).map (fun d => d.parameters.length) = some 1 := by decide +kernel
theorem iX2_lenderOf_X2 : ∀ w ∈ u_ws RX2 TX2 11, w ∈ wsX2_lenderOf := by decide +kernel
theorem mX2_lenderOf_1 : Cond.fieldLink RX2 24 "LentPiles$Valley" "lender" "[I" ∈ wsX2_lenderOf := by decide +kernel
set_option maxHeartbeats 4000000 in
set_option maxRecDepth 100000 in
theorem w_X2_lenderOf_0 {p : Program} {l : Launch} {e : Env} {s : State} {m : MethodId} {args : Array Value} {below : List Frame} {meth : Method} {c : Code} {A : Nat → Prop} {D : va_G} {cy : Nat → ClassId} {b0 : Nat → Nat} {vv : VS} {x1 : Int32} {x2 : Int32} {rr : Int32} (M : kM p s m args meth c cX2_lenderOf 3 (some .int) RX2 wsX2_lenderOf A D cy)  (h : f_X2_lenderOf vv x1 x2 = some rr) {H : Heap} {locs : List Loc} {ls : Array Slot} (hP : va_P D vwCl (wV cy b0 vv []) H) (hD : va_D A (wV cy b0 vv [])) (hS : va_S A s.heap H locs) (hl : lv_has ls 3 [(0, .ref (b0 0)), (1, .int x1), (2, .int x2)]) : W p l e { frames := 1, cells := 0, slots := 0, locals := 22 } s m args below meth c H locs 0 0 (MQ below (qI D (wV cy b0 vv []) (rr) A) args s 0 0 A) (F0 m 0 ls []) := by
  obtain ⟨hx, hb, hr, hml, hown, hts, hlk, hA, hK⟩ := id M
  unfold f_X2_lenderOf at h
  refine lv_aload_n hx hb dX2_lenderOf_0 rfl (lv_at hl 0 rfl) ?_
  refine lv_iload_n hx hb dX2_lenderOf_1 rfl (lv_at hl 1 rfl) ?_
  refine lv_iload_n hx hb dX2_lenderOf_2 rfl (lv_at hl 2 rfl) ?_
  obtain ⟨r_1, hr_1, h⟩ := bn_s h
  refine kcVi (As := [.int x1, .int x2]) (rest := []) (ws' := (wV cy b0 vv [])) ⟨hx, hb, hml, hown, hts⟩ (cwV 2 hts gX2_lenderOf_X2_hasDebt rfl rfl rfl ⟨rfl, eX2_hasDebt⟩ ⟨Nat.le_of_ble_eq_true rfl, Nat.le_of_ble_eq_true rfl⟩) (c_X2_hasDebt b0 hr_1) hK hP hD hS hA [0, 1, 2, 3, 4, 5, 6, 7] [] (by decide) rfl rfl 2 rfl rfl [(b0 0), (b0 1), (b0 2), (b0 3), (b0 4), (b0 5), (b0 6), (b0 7)] rfl rfl rfl [] rfl rfl rfl rfl hl.1 rfl (Nat.le_of_ble_eq_true rfl) dX2_lenderOf_3 (fun H locs hP hD hS => ?_)
  refine lv_if_eq (tgt := 22) hx hb dX2_lenderOf_6 (by decide) (fun c_2 => ?_) (fun c_2 => ?_)
  · replace h := it_p c_2 h
    refine lv_bipush (v := (-6)) hx hb dX2_lenderOf_22 (by decide) ?_
    cases h
    exact kretI hx hb hr hlk hP hS dX2_lenderOf_24
  · replace h := it_n c_2 h
    refine lv_aload_n hx hb dX2_lenderOf_9 rfl (lv_at hl 0 rfl) ?_
    refine va_get (D := D) (ci := 2) (v := .ref (b0 3)) (C := RX2) (T := TX2) (N := 11) hx hb hts iX2_lenderOf_X2 hown hK.1 hP 0 rfl rfl 2 (by decide) (hts _ mX2_lenderOf_1) (fun _ h9 => h9) rfl dX2_lenderOf_10 ?_
    refine lv_iload_n hx hb dX2_lenderOf_13 rfl (lv_at hl 1 rfl) ?_
    refine lv_iconst (v := 5) hx hb dX2_lenderOf_14 (by decide) ?_
    refine lv_imul hx hb dX2_lenderOf_15 ?_
    refine lv_iload_n hx hb dX2_lenderOf_16 rfl (lv_at hl 2 rfl) ?_
    refine lv_iadd hx hb dX2_lenderOf_17 ?_
    obtain ⟨b_3, h⟩ := ck_s h
    refine va_iald hx hb hK.1 hP 3 1 rfl rfl b_3 dX2_lenderOf_18 ?_
    refine lv_goto (tgt := 24) hx hb dX2_lenderOf_19 (by decide) ?_
    cases h
    exact kretI hx hb hr hlk hP hS dX2_lenderOf_24
theorem c_X2_lenderOf {l : Launch} {D : va_G} {cy : Nat → ClassId} (b0 : Nat → Nat) {vv : VS} {x1 : Int32} {x2 : Int32} {rr : Int32} (h : f_X2_lenderOf vv x1 x2 = some rr) : CI l D cy yX2_lenderOf wsX2_lenderOf { frames := 1, cells := 0, slots := 0, locals := 22 } [.ref (b0 0), .int x1, .int x2] (wV cy b0 vv []) (rr) (wV cy b0 vv []) := by
  refine kofI (cc := cX2_lenderOf) (maxL := 3) (ret := (some .int)) (by decide) rfl (Nat.le_of_ble_eq_true rfl) ?_
  intro p e s m below meth c A M ls hl hP hD hS
  exact w_X2_lenderOf_0 M h hP hD hS hl
theorem eX2_lenderOf : yX2_lenderOf.cls ≠ "java/lang/invoke/MethodHandle" ∧ yX2_lenderOf.cls ≠ "java/lang/invoke/VarHandle" ∧ (parseMethodDescriptor yX2_lenderOf.desc).map (fun d => d.parameters.length) = some 2 := by decide +kernel
theorem iX2_fillPurse_X2 : ∀ w ∈ u_ws RX2 TX2 11, w ∈ wsX2_fillPurse := by decide +kernel
theorem mX2_fillPurse_1 : Cond.initialized RX3 ∈ wsX2_fillPurse := by decide +kernel
theorem mX2_fillPurse_2 : Cond.static yX3_isMan ∈ wsX2_fillPurse := by decide +kernel
theorem mX2_fillPurse_3 : Cond.fieldLink RX2 9 "LentPiles$Valley" "purse" "[I" ∈ wsX2_fillPurse := by decide +kernel
set_option maxHeartbeats 4000000 in
set_option maxRecDepth 100000 in
theorem w_X2_fillPurse_0 {p : Program} {l : Launch} {e : Env} {s : State} {m : MethodId} {args : Array Value} {below : List Frame} {meth : Method} {c : Code} {A : Nat → Prop} {D : va_G} {cy : Nat → ClassId} {b0 : Nat → Nat} {x1 : Int32} {x2 : Int32} {rr : VS} (M : kM p s m args meth c cX2_fillPurse 3 none RX2 wsX2_fillPurse A D cy) {vv : VS} (h : f_X2_fillPurse vv x1 x2 = some rr) {H : Heap} {locs : List Loc} {ls : Array Slot} (hP : va_P D vwCl (wV cy b0 vv []) H) (hD : va_D A (wV cy b0 vv [])) (hS : va_S A s.heap H locs) (hl : lv_has ls 3 [(0, .ref (b0 0)), (1, .int x1), (2, .int x2)]) : W p l e { frames := 1, cells := 0, slots := 0, locals := 20 } s m args below meth c H locs 0 0 (MQ below (qV D (wV cy b0 rr []) A) args s 0 0 A) (F0 m 0 ls []) := by
  obtain ⟨hx, hb, hr, hml, hown, hts, hlk, hA, hK⟩ := id M
  unfold f_X2_fillPurse at h
  refine lv_iload_n hx hb dX2_fillPurse_0 rfl (lv_at hl 1 rfl) ?_
  obtain ⟨r_1, hr_1, h⟩ := bn_s h
  refine kcNi (As := [.int x1]) (rest := []) ⟨hx, hb, hml, hown, hts⟩ ⟨va_cnB 1 hts gX2_fillPurse_X3_isMan_n58 rfl rfl rfl (kN_RX2_58 hK.2) (hts _ mX2_fillPurse_1) eX3_isMan ⟨Nat.le_of_ble_eq_true rfl, Nat.le_of_ble_eq_true rfl⟩, hts _ mX2_fillPurse_2, trivial⟩ (c_X3_isMan  hr_1) hK hP hS hA rfl hl.1 rfl (Nat.le_of_ble_eq_true rfl) dX2_fillPurse_1 (fun H locs hP hS => ?_)
  refine lv_if_eq (tgt := 14) hx hb dX2_fillPurse_4 (by decide) (fun c_2 => ?_) (fun c_2 => ?_)
  · replace h := it_p c_2 h
    cases h
    exact kretV hx hb hr hlk hP hS dX2_fillPurse_14
  · replace h := it_n c_2 h
    refine lv_aload_n hx hb dX2_fillPurse_7 rfl (lv_at hl 0 rfl) ?_
    refine va_get (D := D) (ci := 2) (v := .ref (b0 1)) (C := RX2) (T := TX2) (N := 11) hx hb hts iX2_fillPurse_X2 hown hK.1 hP 0 rfl rfl 0 (by decide) (hts _ mX2_fillPurse_3) (fun _ h9 => h9) rfl dX2_fillPurse_8 ?_
    refine lv_iload_n hx hb dX2_fillPurse_11 rfl (lv_at hl 1 rfl) ?_
    refine lv_iload_n hx hb dX2_fillPurse_12 rfl (lv_at hl 2 rfl) ?_
    obtain ⟨b_3, h⟩ := ck_s h
    refine va_iast hx hb hK.1 hP hD hS 1 1 rfl rfl b_3 dX2_fillPurse_13 (fun H locs hP hD hS => ?_)
    obtain ⟨vv_4, evv_4⟩ : ∃ z : VS, z = ((upd vv.1 x1.toNatClampNeg x2), vv.2) := ⟨_, rfl⟩
    replace h := nm_s h evv_4
    have hP : va_P D vwCl (wV cy b0 vv_4 []) H := by subst evv_4; exact hP
    have hD : va_D A (wV cy b0 vv_4 []) := hD.lk [(b0 0), (b0 1), (b0 2), (b0 3), (b0 4), (b0 5), (b0 6), (b0 7)] rfl rfl
    cases h
    exact kretV hx hb hr hlk hP hS dX2_fillPurse_14
theorem c_X2_fillPurse {l : Launch} {D : va_G} {cy : Nat → ClassId} (b0 : Nat → Nat) {vv : VS} {x1 : Int32} {x2 : Int32} {rr : VS} (h : f_X2_fillPurse vv x1 x2 = some rr) : CV l D cy yX2_fillPurse wsX2_fillPurse { frames := 1, cells := 0, slots := 0, locals := 20 } [.ref (b0 0), .int x1, .int x2] (wV cy b0 vv []) (wV cy b0 rr []) := by
  refine kofV (cc := cX2_fillPurse) (maxL := 3) (ret := none) (by decide) rfl (Nat.le_of_ble_eq_true rfl) ?_
  intro p e s m below meth c A M ls hl hP hD hS
  exact w_X2_fillPurse_0 M h hP hD hS hl
theorem eX2_fillPurse : yX2_fillPurse.cls ≠ "java/lang/invoke/MethodHandle" ∧ yX2_fillPurse.cls ≠ "java/lang/invoke/VarHandle" ∧ (parseMethodDescriptor yX2_fillPurse.desc).map (fun d => d.parameters.length) = some 2 := by decide +kernel
theorem iX2_drop_X2 : ∀ w ∈ u_ws RX2 TX2 11, w ∈ wsX2_drop := by decide +kernel
theorem mX2_drop_1 : Cond.fieldLink RX2 21 "LentPiles$Valley" "height" "[I" ∈ wsX2_drop := by decide +kernel
theorem mX2_drop_2 : Cond.fieldLink RX2 24 "LentPiles$Valley" "lender" "[I" ∈ wsX2_drop := by decide +kernel
theorem mX2_drop_3 : Cond.fieldLink RX2 27 "LentPiles$Valley" "pence" "[I" ∈ wsX2_drop := by decide +kernel
theorem mX2_drop_4 : Cond.fieldLink RX2 30 "LentPiles$Valley" "made" "[I" ∈ wsX2_drop := by decide +kernel
def I_X2_drop (p : Program) (l : Launch) (e : Env) (s : State) (m : MethodId) (args : Array Value) (below : List Frame) (meth : Method) (c : Code) (A : Nat → Prop) (D : va_G) (cy : Nat → ClassId) (b0 : Nat → Nat) (x1 : Int32) (x2 : Int32) (fu : Nat) (rr : VS) : Prop := (∀ (vv : VS) (x3 : Int32) (x4 : Int32) (H : Heap) (locs : List Loc) (ls : Array Slot), lpn (st_X2_drop x1 x2) fu (vv, x3, x4) = some rr → va_P D vwCl (wV cy b0 vv []) H → va_D A (wV cy b0 vv []) → va_S A s.heap H locs → lv_has ls 5 [(0, .ref (b0 0)), (1, .int x1), (2, .int x2), (3, .int x3), (4, .int x4)] → W p l e { frames := 1, cells := 0, slots := 0, locals := 22 } s m args below meth c H locs 0 0 (MQ below (qV D (wV cy b0 rr []) A) args s 0 0 A) (F0 m 17 ls []))
set_option maxHeartbeats 4000000 in
set_option maxRecDepth 100000 in
theorem w_X2_drop_104 {p : Program} {l : Launch} {e : Env} {s : State} {m : MethodId} {args : Array Value} {below : List Frame} {meth : Method} {c : Code} {A : Nat → Prop} {D : va_G} {cy : Nat → ClassId} {b0 : Nat → Nat} {x1 : Int32} {x2 : Int32} {fu : Nat} {rr : VS} (M : kM p s m args meth c cX2_drop 5 none RX2 wsX2_drop A D cy) (ih : I_X2_drop p l e s m args below meth c A D cy b0 x1 x2 fu rr) {vv : VS} {oo : (VS × Int32 × Int32) ⊕ (VS)} (h : f_X2_drop_104 x1 x2 vv = some oo) (hm : lpo (st_X2_drop x1 x2) fu oo rr) {H : Heap} {locs : List Loc} {ls : Array Slot} (hP : va_P D vwCl (wV cy b0 vv []) H) (hD : va_D A (wV cy b0 vv [])) (hS : va_S A s.heap H locs) (hl : lv_has ls 5 [(0, .ref (b0 0)), (1, .int x1), (2, .int x2)]) : W p l e { frames := 1, cells := 0, slots := 0, locals := 22 } s m args below meth c H locs 0 0 (MQ below (qV D (wV cy b0 rr []) A) args s 0 0 A) (F0 m 104 ls []) := by
  obtain ⟨hx, hb, hr, hml, hown, hts, hlk, hA, hK⟩ := id M
  unfold f_X2_drop_104 at h
  refine lv_aload_n hx hb dX2_drop_104 rfl (lv_at hl 0 rfl) ?_
  refine va_get (D := D) (ci := 2) (v := .ref (b0 2)) (C := RX2) (T := TX2) (N := 11) hx hb hts iX2_drop_X2 hown hK.1 hP 0 rfl rfl 1 (by decide) (hts _ mX2_drop_1) (fun _ h9 => h9) rfl dX2_drop_105 ?_
  refine lv_iload_n hx hb dX2_drop_108 rfl (lv_at hl 1 rfl) ?_
  refine lv_dup2_11 hx hb dX2_drop_109 rfl rfl ?_
  obtain ⟨b_1, h⟩ := ck_s h
  refine va_iald hx hb hK.1 hP 2 1 rfl rfl b_1 dX2_drop_110 ?_
  refine lv_iconst (v := 1) hx hb dX2_drop_111 (by decide) ?_
  refine lv_isub hx hb dX2_drop_112 ?_
  refine va_iast hx hb hK.1 hP hD hS 2 1 rfl rfl b_1 dX2_drop_113 (fun H locs hP hD hS => ?_)
  obtain ⟨vv_2, evv_2⟩ : ∃ z : VS, z = (vv.1, (upd vv.2.1 x1.toNatClampNeg ((vv.2.1 x1.toNatClampNeg) - (1 : Int32))), vv.2.2) := ⟨_, rfl⟩
  replace h := nm_s h evv_2
  have hP : va_P D vwCl (wV cy b0 vv_2 []) H := by subst evv_2; exact hP
  have hD : va_D A (wV cy b0 vv_2 []) := hD.lk [(b0 0), (b0 1), (b0 2), (b0 3), (b0 4), (b0 5), (b0 6), (b0 7)] rfl rfl
  cases h
  have hm : _ = rr := hm
  subst hm
  exact kretV hx hb hr hlk hP hS dX2_drop_114
set_option maxHeartbeats 4000000 in
set_option maxRecDepth 100000 in
theorem w_X2_drop_17 {p : Program} {l : Launch} {e : Env} {s : State} {m : MethodId} {args : Array Value} {below : List Frame} {meth : Method} {c : Code} {A : Nat → Prop} {D : va_G} {cy : Nat → ClassId} {b0 : Nat → Nat} {x1 : Int32} {x2 : Int32} {fu : Nat} {rr : VS} (M : kM p s m args meth c cX2_drop 5 none RX2 wsX2_drop A D cy) (ih : I_X2_drop p l e s m args below meth c A D cy b0 x1 x2 fu rr) {vv : VS} {x3 : Int32} {x4 : Int32} {oo : (VS × Int32 × Int32) ⊕ (VS)} (h : f_X2_drop_17 x1 x2 vv x3 x4 = some oo) (hm : lpo (st_X2_drop x1 x2) fu oo rr) {H : Heap} {locs : List Loc} {ls : Array Slot} (hP : va_P D vwCl (wV cy b0 vv []) H) (hD : va_D A (wV cy b0 vv [])) (hS : va_S A s.heap H locs) (hl : lv_has ls 5 [(0, .ref (b0 0)), (1, .int x1), (2, .int x2), (3, .int x3), (4, .int x4)]) : W p l e { frames := 1, cells := 0, slots := 0, locals := 22 } s m args below meth c H locs 0 0 (MQ below (qV D (wV cy b0 rr []) A) args s 0 0 A) (F0 m 17 ls []) := by
  obtain ⟨hx, hb, hr, hml, hown, hts, hlk, hA, hK⟩ := id M
  unfold f_X2_drop_17 at h
  refine lv_iload hx hb dX2_drop_17 (lv_at hl 4 rfl) ?_
  refine lv_iconst (v := 1) hx hb dX2_drop_19 (by decide) ?_
  refine lv_iadd hx hb dX2_drop_20 ?_
  refine lv_aload_n hx hb dX2_drop_21 rfl (lv_at hl 0 rfl) ?_
  refine va_get (D := D) (ci := 2) (v := .ref (b0 2)) (C := RX2) (T := TX2) (N := 11) hx hb hts iX2_drop_X2 hown hK.1 hP 0 rfl rfl 1 (by decide) (hts _ mX2_drop_1) (fun _ h9 => h9) rfl dX2_drop_22 ?_
  refine lv_iload_n hx hb dX2_drop_25 rfl (lv_at hl 1 rfl) ?_
  obtain ⟨b_1, h⟩ := ck_s h
  refine va_iald hx hb hK.1 hP 2 1 rfl rfl b_1 dX2_drop_26 ?_
  refine lv_icmp_ge (tgt := 104) hx hb dX2_drop_27 (by decide) (fun c_2 => ?_) (fun c_2 => ?_)
  · replace h := it_p c_2 h
    exact w_X2_drop_104 M ih h hm hP hD hS (lv_sub hl [0, 1, 2] rfl)
  · replace h := it_n c_2 h
    refine lv_iload hx hb dX2_drop_30 (lv_at hl 4 rfl) ?_
    refine lv_iconst (v := 1) hx hb dX2_drop_32 (by decide) ?_
    refine lv_iadd hx hb dX2_drop_33 ?_
    refine lv_iconst (v := 5) hx hb dX2_drop_34 (by decide) ?_
    refine lv_icmp_ge (tgt := 104) hx hb dX2_drop_35 (by decide) (fun c_3 => ?_) (fun c_3 => ?_)
    · replace h := it_p c_3 h
      exact w_X2_drop_104 M ih h hm hP hD hS (lv_sub hl [0, 1, 2] rfl)
    · replace h := it_n c_3 h
      refine lv_aload_n hx hb dX2_drop_38 rfl (lv_at hl 0 rfl) ?_
      refine va_get (D := D) (ci := 2) (v := .ref (b0 3)) (C := RX2) (T := TX2) (N := 11) hx hb hts iX2_drop_X2 hown hK.1 hP 0 rfl rfl 2 (by decide) (hts _ mX2_drop_2) (fun _ h9 => h9) rfl dX2_drop_39 ?_
      refine lv_iload_n hx hb dX2_drop_42 rfl (lv_at hl 3 rfl) ?_
      refine lv_iload hx hb dX2_drop_43 (lv_at hl 4 rfl) ?_
      refine lv_iadd hx hb dX2_drop_45 ?_
      refine lv_aload_n hx hb dX2_drop_46 rfl (lv_at hl 0 rfl) ?_
      refine va_get (D := D) (ci := 2) (v := .ref (b0 3)) (C := RX2) (T := TX2) (N := 11) hx hb hts iX2_drop_X2 hown hK.1 hP 0 rfl rfl 2 (by decide) (hts _ mX2_drop_2) (fun _ h9 => h9) rfl dX2_drop_47 ?_
      refine lv_iload_n hx hb dX2_drop_50 rfl (lv_at hl 3 rfl) ?_
      refine lv_iload hx hb dX2_drop_51 (lv_at hl 4 rfl) ?_
      refine lv_iadd hx hb dX2_drop_53 ?_
      refine lv_iconst (v := 1) hx hb dX2_drop_54 (by decide) ?_
      refine lv_iadd hx hb dX2_drop_55 ?_
      obtain ⟨b_4, h⟩ := ck_s h
      refine va_iald hx hb hK.1 hP 3 1 rfl rfl b_4 dX2_drop_56 ?_
      obtain ⟨b_5, h⟩ := ck_s h
      refine va_iast hx hb hK.1 hP hD hS 3 1 rfl rfl b_5 dX2_drop_57 (fun H locs hP hD hS => ?_)
      obtain ⟨vv_6, evv_6⟩ : ∃ z : VS, z = (vv.1, vv.2.1, (upd vv.2.2.1 (x3 + x4).toNatClampNeg (vv.2.2.1 ((x3 + x4) + (1 : Int32)).toNatClampNeg)), vv.2.2.2) := ⟨_, rfl⟩
      replace h := nm_s h evv_6
      have hP : va_P D vwCl (wV cy b0 vv_6 []) H := by subst evv_6; exact hP
      have hD : va_D A (wV cy b0 vv_6 []) := hD.lk [(b0 0), (b0 1), (b0 2), (b0 3), (b0 4), (b0 5), (b0 6), (b0 7)] rfl rfl
      refine lv_aload_n hx hb dX2_drop_58 rfl (lv_at hl 0 rfl) ?_
      refine va_get (D := D) (ci := 2) (v := .ref (b0 4)) (C := RX2) (T := TX2) (N := 11) hx hb hts iX2_drop_X2 hown hK.1 hP 0 rfl rfl 3 (by decide) (hts _ mX2_drop_3) (fun _ h9 => h9) rfl dX2_drop_59 ?_
      refine lv_iload_n hx hb dX2_drop_62 rfl (lv_at hl 3 rfl) ?_
      refine lv_iload hx hb dX2_drop_63 (lv_at hl 4 rfl) ?_
      refine lv_iadd hx hb dX2_drop_65 ?_
      refine lv_aload_n hx hb dX2_drop_66 rfl (lv_at hl 0 rfl) ?_
      refine va_get (D := D) (ci := 2) (v := .ref (b0 4)) (C := RX2) (T := TX2) (N := 11) hx hb hts iX2_drop_X2 hown hK.1 hP 0 rfl rfl 3 (by decide) (hts _ mX2_drop_3) (fun _ h9 => h9) rfl dX2_drop_67 ?_
      refine lv_iload_n hx hb dX2_drop_70 rfl (lv_at hl 3 rfl) ?_
      refine lv_iload hx hb dX2_drop_71 (lv_at hl 4 rfl) ?_
      refine lv_iadd hx hb dX2_drop_73 ?_
      refine lv_iconst (v := 1) hx hb dX2_drop_74 (by decide) ?_
      refine lv_iadd hx hb dX2_drop_75 ?_
      refine va_iald hx hb hK.1 hP 4 1 rfl rfl b_4 dX2_drop_76 ?_
      refine va_iast hx hb hK.1 hP hD hS 4 1 rfl rfl b_5 dX2_drop_77 (fun H locs hP hD hS => ?_)
      obtain ⟨vv_7, evv_7⟩ : ∃ z : VS, z = (vv_6.1, vv_6.2.1, vv_6.2.2.1, (upd vv_6.2.2.2.1 (x3 + x4).toNatClampNeg (vv_6.2.2.2.1 ((x3 + x4) + (1 : Int32)).toNatClampNeg)), vv_6.2.2.2.2) := ⟨_, rfl⟩
      replace h := nm_s h evv_7
      have hP : va_P D vwCl (wV cy b0 vv_7 []) H := by subst evv_7; exact hP
      have hD : va_D A (wV cy b0 vv_7 []) := hD.lk [(b0 0), (b0 1), (b0 2), (b0 3), (b0 4), (b0 5), (b0 6), (b0 7)] rfl rfl
      refine lv_aload_n hx hb dX2_drop_78 rfl (lv_at hl 0 rfl) ?_
      refine va_get (D := D) (ci := 2) (v := .ref (b0 5)) (C := RX2) (T := TX2) (N := 11) hx hb hts iX2_drop_X2 hown hK.1 hP 0 rfl rfl 4 (by decide) (hts _ mX2_drop_4) (fun _ h9 => h9) rfl dX2_drop_79 ?_
      refine lv_iload_n hx hb dX2_drop_82 rfl (lv_at hl 3 rfl) ?_
      refine lv_iload hx hb dX2_drop_83 (lv_at hl 4 rfl) ?_
      refine lv_iadd hx hb dX2_drop_85 ?_
      refine lv_aload_n hx hb dX2_drop_86 rfl (lv_at hl 0 rfl) ?_
      refine va_get (D := D) (ci := 2) (v := .ref (b0 5)) (C := RX2) (T := TX2) (N := 11) hx hb hts iX2_drop_X2 hown hK.1 hP 0 rfl rfl 4 (by decide) (hts _ mX2_drop_4) (fun _ h9 => h9) rfl dX2_drop_87 ?_
      refine lv_iload_n hx hb dX2_drop_90 rfl (lv_at hl 3 rfl) ?_
      refine lv_iload hx hb dX2_drop_91 (lv_at hl 4 rfl) ?_
      refine lv_iadd hx hb dX2_drop_93 ?_
      refine lv_iconst (v := 1) hx hb dX2_drop_94 (by decide) ?_
      refine lv_iadd hx hb dX2_drop_95 ?_
      refine va_iald hx hb hK.1 hP 5 1 rfl rfl b_4 dX2_drop_96 ?_
      refine va_iast hx hb hK.1 hP hD hS 5 1 rfl rfl b_5 dX2_drop_97 (fun H locs hP hD hS => ?_)
      obtain ⟨vv_8, evv_8⟩ : ∃ z : VS, z = (vv_7.1, vv_7.2.1, vv_7.2.2.1, vv_7.2.2.2.1, (upd vv_7.2.2.2.2.1 (x3 + x4).toNatClampNeg (vv_7.2.2.2.2.1 ((x3 + x4) + (1 : Int32)).toNatClampNeg)), vv_7.2.2.2.2.2) := ⟨_, rfl⟩
      replace h := nm_s h evv_8
      have hP : va_P D vwCl (wV cy b0 vv_8 []) H := by subst evv_8; exact hP
      have hD : va_D A (wV cy b0 vv_8 []) := hD.lk [(b0 0), (b0 1), (b0 2), (b0 3), (b0 4), (b0 5), (b0 6), (b0 7)] rfl rfl
      obtain ⟨x4_9, ex4_9⟩ : ∃ z : Int32, z = (x4 + (1 : Int32)) := ⟨_, rfl⟩
      replace h := nm_s h ex4_9
      refine lv_iinc (v := x4_9) (lv' := [(4, .int x4_9), (0, .ref (b0 0)), (1, .int x1), (2, .int x2), (3, .int x3)]) hx hb dX2_drop_98 hl (k := 4) rfl (by rw [ex4_9]; rfl) (by decide) rfl (fun ls hl => ?_)
      refine lv_goto (tgt := 17) hx hb dX2_drop_101 (by decide) ?_
      cases h
      exact ih vv_8 x3 x4_9 _ _ _ hm hP hD hS (lv_sub hl [1, 2, 3, 4, 0] rfl)
set_option maxHeartbeats 4000000 in
set_option maxRecDepth 100000 in
theorem w_X2_drop_0 {p : Program} {l : Launch} {e : Env} {s : State} {m : MethodId} {args : Array Value} {below : List Frame} {meth : Method} {c : Code} {A : Nat → Prop} {D : va_G} {cy : Nat → ClassId} {b0 : Nat → Nat} {x1 : Int32} {x2 : Int32} {fu : Nat} {rr : VS} (M : kM p s m args meth c cX2_drop 5 none RX2 wsX2_drop A D cy) (ih : I_X2_drop p l e s m args below meth c A D cy b0 x1 x2 fu rr) {vv : VS} {oo : (VS × Int32 × Int32) ⊕ (VS)} (h : f_X2_drop_0 vv x1 x2 = some oo) (hm : lpo (st_X2_drop x1 x2) fu oo rr) {H : Heap} {locs : List Loc} {ls : Array Slot} (hP : va_P D vwCl (wV cy b0 vv []) H) (hD : va_D A (wV cy b0 vv [])) (hS : va_S A s.heap H locs) (hl : lv_has ls 5 [(0, .ref (b0 0)), (1, .int x1), (2, .int x2)]) : W p l e { frames := 1, cells := 0, slots := 0, locals := 22 } s m args below meth c H locs 0 0 (MQ below (qV D (wV cy b0 rr []) A) args s 0 0 A) (F0 m 0 ls []) := by
  obtain ⟨hx, hb, hr, hml, hown, hts, hlk, hA, hK⟩ := id M
  unfold f_X2_drop_0 at h
  refine lv_aload_n hx hb dX2_drop_0 rfl (lv_at hl 0 rfl) ?_
  refine lv_iload_n hx hb dX2_drop_1 rfl (lv_at hl 1 rfl) ?_
  refine lv_iload_n hx hb dX2_drop_2 rfl (lv_at hl 2 rfl) ?_
  obtain ⟨r_1, hr_1, h⟩ := bn_s h
  refine kcVi (As := [.int x1, .int x2]) (rest := []) (ws' := (wV cy b0 vv [])) ⟨hx, hb, hml, hown, hts⟩ (cwV 2 hts gX2_drop_X2_hasDebt rfl rfl rfl ⟨rfl, eX2_hasDebt⟩ ⟨Nat.le_of_ble_eq_true rfl, Nat.le_of_ble_eq_true rfl⟩) (c_X2_hasDebt b0 hr_1) hK hP hD hS hA [0, 1, 2, 3, 4, 5, 6, 7] [] (by decide) rfl rfl 2 rfl rfl [(b0 0), (b0 1), (b0 2), (b0 3), (b0 4), (b0 5), (b0 6), (b0 7)] rfl rfl rfl [] rfl rfl rfl rfl hl.1 rfl (Nat.le_of_ble_eq_true rfl) dX2_drop_3 (fun H locs hP hD hS => ?_)
  refine lv_if_ne (tgt := 10) hx hb dX2_drop_6 (by decide) (fun c_2 => ?_) (fun c_2 => ?_)
  · replace h := it_n c_2 h
    refine lv_iload_n hx hb dX2_drop_10 rfl (lv_at hl 1 rfl) ?_
    refine lv_iconst (v := 5) hx hb dX2_drop_11 (by decide) ?_
    refine lv_imul hx hb dX2_drop_12 ?_
    refine lv_topi (fun x3_3 ex3_3 => ?_)
    replace h := nm_s h ex3_3
    refine lv_istore_n (lv' := [(3, .int x3_3), (0, .ref (b0 0)), (1, .int x1), (2, .int x2)]) hx hb dX2_drop_13 rfl hl (by decide) rfl (fun ls hl => ?_)
    refine lv_iload_n hx hb dX2_drop_14 rfl (lv_at hl 3 rfl) ?_
    refine lv_istore (lv' := [(4, .int x2), (3, .int x3_3), (0, .ref (b0 0)), (1, .int x1), (2, .int x2)]) hx hb dX2_drop_15 hl (by decide) rfl (fun ls hl => ?_)
    cases h
    exact ih vv x3_3 x2 _ _ _ hm hP hD hS (lv_sub hl [2, 3, 4, 1, 0] rfl)
  · replace h := it_p c_2 h
    cases h
    have hm : _ = rr := hm
    subst hm
    exact kretV hx hb hr hlk hP hS dX2_drop_9
theorem wl_X2_drop {p : Program} {l : Launch} {e : Env} {s : State} {m : MethodId} {args : Array Value} {below : List Frame} {meth : Method} {c : Code} {A : Nat → Prop} {D : va_G} {cy : Nat → ClassId} {b0 : Nat → Nat} {x1 : Int32} {x2 : Int32} {rr : VS} (M : kM p s m args meth c cX2_drop 5 none RX2 wsX2_drop A D cy) : ∀ fu : Nat, I_X2_drop p l e s m args below meth c A D cy b0 x1 x2 fu rr := by
  intro fu
  induction fu with
  | zero => exact (fun _ _ _ _ _ _ h => by cases h)
  | succ fu ih =>
    exact fun vv x3 x4 H locs ls h hP hD hS hl => by
      obtain ⟨o1, h1, h2⟩ := lpn_s h
      exact w_X2_drop_17 M ih h1 h2 hP hD hS hl
theorem c_X2_drop {l : Launch} {D : va_G} {cy : Nat → ClassId} (b0 : Nat → Nat) {vv : VS} {x1 : Int32} {x2 : Int32} {rr : VS} (h : f_X2_drop vv x1 x2 = some rr) : CV l D cy yX2_drop wsX2_drop { frames := 1, cells := 0, slots := 0, locals := 22 } [.ref (b0 0), .int x1, .int x2] (wV cy b0 vv []) (wV cy b0 rr []) := by
  refine kofV (cc := cX2_drop) (maxL := 5) (ret := none) (by decide) rfl (Nat.le_of_ble_eq_true rfl) ?_
  intro p e s m below meth c A M ls hl hP hD hS
  obtain ⟨o1, fu, h1, h2⟩ := rnx_s h
  exact w_X2_drop_0 M (wl_X2_drop M fu) h1 h2 hP hD hS hl
theorem eX2_drop : yX2_drop.cls ≠ "java/lang/invoke/MethodHandle" ∧ yX2_drop.cls ≠ "java/lang/invoke/VarHandle" ∧ (parseMethodDescriptor yX2_drop.desc).map (fun d => d.parameters.length) = some 2 := by decide +kernel
set_option maxHeartbeats 4000000 in
set_option maxRecDepth 100000 in
theorem w_X2_repay_0 {p : Program} {l : Launch} {e : Env} {s : State} {m : MethodId} {args : Array Value} {below : List Frame} {meth : Method} {c : Code} {A : Nat → Prop} {D : va_G} {cy : Nat → ClassId} {b0 : Nat → Nat} {x1 : Int32} {rr : Int32 × VS} (M : kM p s m args meth c cX2_repay 5 (some .int) RX2 wsX2_repay A D cy) {vv : VS} (h : f_X2_repay vv x1 = some rr) {H : Heap} {locs : List Loc} {ls : Array Slot} (hP : va_P D vwCl (wV cy b0 vv []) H) (hD : va_D A (wV cy b0 vv [])) (hS : va_S A s.heap H locs) (hl : lv_has ls 5 [(0, .ref (b0 0)), (1, .int x1)]) : W p l e { frames := 3, cells := 0, slots := 0, locals := 70 } s m args below meth c H locs 0 0 (MQ below (qI D (wV cy b0 rr.2 []) (rr.1) A) args s 0 0 A) (F0 m 0 ls []) := by
  obtain ⟨hx, hb, hr, hml, hown, hts, hlk, hA, hK⟩ := id M
  unfold f_X2_repay at h
  refine lv_aload_n hx hb dX2_repay_0 rfl (lv_at hl 0 rfl) ?_
  refine lv_iload_n hx hb dX2_repay_1 rfl (lv_at hl 1 rfl) ?_
  obtain ⟨r_1, hr_1, h⟩ := bn_s h
  refine kcVi (As := [.int x1]) (rest := []) (ws' := (wV cy b0 vv [])) ⟨hx, hb, hml, hown, hts⟩ (cwV 1 hts gX2_repay_X2_dueOf rfl rfl rfl ⟨rfl, eX2_dueOf⟩ ⟨Nat.le_of_ble_eq_true rfl, Nat.le_of_ble_eq_true rfl⟩) (c_X2_dueOf b0 hr_1) hK hP hD hS hA [0, 1, 2, 3, 4, 5, 6, 7] [] (by decide) rfl rfl 2 rfl rfl [(b0 0), (b0 1), (b0 2), (b0 3), (b0 4), (b0 5), (b0 6), (b0 7)] rfl rfl rfl [] rfl rfl rfl rfl hl.1 rfl (Nat.le_of_ble_eq_true rfl) dX2_repay_2 (fun H locs hP hD hS => ?_)
  refine lv_istore_n (lv' := [(2, .int r_1), (0, .ref (b0 0)), (1, .int x1)]) hx hb dX2_repay_5 rfl hl (by decide) rfl (fun ls hl => ?_)
  refine lv_iload_n hx hb dX2_repay_6 rfl (lv_at hl 0 rfl) ?_
  refine lv_bipush (v := (-6)) hx hb dX2_repay_7 (by decide) ?_
  refine lv_icmp_ne (tgt := 14) hx hb dX2_repay_9 (by decide) (fun c_2 => ?_) (fun c_2 => ?_)
  · replace h := it_n c_2 h
    refine lv_aload_n hx hb dX2_repay_14 rfl (lv_at hl 1 rfl) ?_
    refine lv_iload_n hx hb dX2_repay_15 rfl (lv_at hl 2 rfl) ?_
    refine lv_iload_n hx hb dX2_repay_16 rfl (lv_at hl 0 rfl) ?_
    obtain ⟨r_3, hr_3, h⟩ := bn_s h
    refine kcVi (As := [.int x1, .int r_1]) (rest := []) (ws' := (wV cy b0 vv [])) ⟨hx, hb, hml, hown, hts⟩ (cwV 2 hts gX2_repay_X2_penceOf rfl rfl rfl ⟨rfl, eX2_penceOf⟩ ⟨Nat.le_of_ble_eq_true rfl, Nat.le_of_ble_eq_true rfl⟩) (c_X2_penceOf b0 hr_3) hK hP hD hS hA [0, 1, 2, 3, 4, 5, 6, 7] [] (by decide) rfl rfl 2 rfl rfl [(b0 0), (b0 1), (b0 2), (b0 3), (b0 4), (b0 5), (b0 6), (b0 7)] rfl rfl rfl [] rfl rfl rfl rfl hl.1 rfl (Nat.le_of_ble_eq_true rfl) dX2_repay_17 (fun H locs hP hD hS => ?_)
    refine lv_istore_n (lv' := [(3, .int r_3), (2, .int r_1), (0, .ref (b0 0)), (1, .int x1)]) hx hb dX2_repay_20 rfl hl (by decide) rfl (fun ls hl => ?_)
    refine lv_aload_n hx hb dX2_repay_21 rfl (lv_at hl 2 rfl) ?_
    refine lv_iload_n hx hb dX2_repay_22 rfl (lv_at hl 3 rfl) ?_
    obtain ⟨r_4, hr_4, h⟩ := bn_s h
    refine kcVi (As := [.int x1]) (rest := []) (ws' := (wV cy b0 vv [])) ⟨hx, hb, hml, hown, hts⟩ (cwV 1 hts gX2_repay_X2_purseOf rfl rfl rfl ⟨rfl, eX2_purseOf⟩ ⟨Nat.le_of_ble_eq_true rfl, Nat.le_of_ble_eq_true rfl⟩) (c_X2_purseOf b0 hr_4) hK hP hD hS hA [0, 1, 2, 3, 4, 5, 6, 7] [] (by decide) rfl rfl 2 rfl rfl [(b0 0), (b0 1), (b0 2), (b0 3), (b0 4), (b0 5), (b0 6), (b0 7)] rfl rfl rfl [] rfl rfl rfl rfl hl.1 rfl (Nat.le_of_ble_eq_true rfl) dX2_repay_23 (fun H locs hP hD hS => ?_)
    refine lv_iload_n hx hb dX2_repay_26 rfl (lv_at hl 0 rfl) ?_
    refine lv_icmp_ge (tgt := 32) hx hb dX2_repay_27 (by decide) (fun c_5 => ?_) (fun c_5 => ?_)
    · replace h := it_p c_5 h
      refine lv_aload_n hx hb dX2_repay_32 rfl (lv_at hl 2 rfl) ?_
      refine lv_iload_n hx hb dX2_repay_33 rfl (lv_at hl 3 rfl) ?_
      refine lv_iload_n hx hb dX2_repay_34 rfl (lv_at hl 1 rfl) ?_
      obtain ⟨r_6, hr_6, h⟩ := bn_s h
      refine kcVi (As := [.int x1, .int r_1]) (rest := []) (ws' := (wV cy b0 vv [])) ⟨hx, hb, hml, hown, hts⟩ (cwV 2 hts gX2_repay_X2_lenderOf rfl rfl rfl ⟨rfl, eX2_lenderOf⟩ ⟨Nat.le_of_ble_eq_true rfl, Nat.le_of_ble_eq_true rfl⟩) (c_X2_lenderOf b0 hr_6) hK hP hD hS hA [0, 1, 2, 3, 4, 5, 6, 7] [] (by decide) rfl rfl 2 rfl rfl [(b0 0), (b0 1), (b0 2), (b0 3), (b0 4), (b0 5), (b0 6), (b0 7)] rfl rfl rfl [] rfl rfl rfl rfl hl.1 rfl (Nat.le_of_ble_eq_true rfl) dX2_repay_35 (fun H locs hP hD hS => ?_)
      refine lv_istore (lv' := [(4, .int r_6), (3, .int r_3), (2, .int r_1), (0, .ref (b0 0)), (1, .int x1)]) hx hb dX2_repay_38 hl (by decide) rfl (fun ls hl => ?_)
      refine lv_aload_n hx hb dX2_repay_40 rfl (lv_at hl 3 rfl) ?_
      refine lv_iload_n hx hb dX2_repay_41 rfl (lv_at hl 4 rfl) ?_
      refine lv_aload_n hx hb dX2_repay_42 rfl (lv_at hl 3 rfl) ?_
      refine lv_iload_n hx hb dX2_repay_43 rfl (lv_at hl 4 rfl) ?_
      obtain ⟨r_7, hr_7, h⟩ := bn_s h
      refine kcVi (As := [.int x1]) (rest := [.int x1, .ref (b0 0)]) (ws' := (wV cy b0 vv [])) ⟨hx, hb, hml, hown, hts⟩ (cwV 1 hts gX2_repay_X2_purseOf rfl rfl rfl ⟨rfl, eX2_purseOf⟩ ⟨Nat.le_of_ble_eq_true rfl, Nat.le_of_ble_eq_true rfl⟩) (c_X2_purseOf b0 hr_7) hK hP hD hS hA [0, 1, 2, 3, 4, 5, 6, 7] [] (by decide) rfl rfl 2 rfl rfl [(b0 0), (b0 1), (b0 2), (b0 3), (b0 4), (b0 5), (b0 6), (b0 7)] rfl rfl rfl [] rfl rfl rfl rfl hl.1 rfl (Nat.le_of_ble_eq_true rfl) dX2_repay_44 (fun H locs hP hD hS => ?_)
      refine lv_iload_n hx hb dX2_repay_47 rfl (lv_at hl 1 rfl) ?_
      refine lv_isub hx hb dX2_repay_48 ?_
      obtain ⟨r_8, hr_8, h⟩ := bn_s h
      refine kcVv (As := [.int x1, .int (r_7 - r_3)]) (rest := []) (ws' := (wV cy b0 r_8 [])) ⟨hx, hb, hml, hown, hts⟩ (cwV 2 hts gX2_repay_X2_fillPurse rfl rfl rfl ⟨rfl, eX2_fillPurse⟩ ⟨Nat.le_of_ble_eq_true rfl, Nat.le_of_ble_eq_true rfl⟩) (c_X2_fillPurse b0 hr_8) hK hP hD hS hA [0, 1, 2, 3, 4, 5, 6, 7] [] (by decide) rfl rfl 2 rfl rfl [(b0 0), (b0 1), (b0 2), (b0 3), (b0 4), (b0 5), (b0 6), (b0 7)] rfl rfl rfl [] rfl rfl rfl rfl hl.1 rfl (Nat.le_of_ble_eq_true rfl) dX2_repay_49 (fun H locs hP hD hS => ?_)
      refine lv_aload_n hx hb dX2_repay_52 rfl (lv_at hl 3 rfl) ?_
      refine lv_iload hx hb dX2_repay_53 (lv_at hl 0 rfl) ?_
      refine lv_aload_n hx hb dX2_repay_55 rfl (lv_at hl 3 rfl) ?_
      refine lv_iload hx hb dX2_repay_56 (lv_at hl 0 rfl) ?_
      obtain ⟨r_9, hr_9, h⟩ := bn_s h
      refine kcVi (As := [.int r_6]) (rest := [.int r_6, .ref (b0 0)]) (ws' := (wV cy b0 r_8 [])) ⟨hx, hb, hml, hown, hts⟩ (cwV 1 hts gX2_repay_X2_purseOf rfl rfl rfl ⟨rfl, eX2_purseOf⟩ ⟨Nat.le_of_ble_eq_true rfl, Nat.le_of_ble_eq_true rfl⟩) (c_X2_purseOf b0 hr_9) hK hP hD hS hA [0, 1, 2, 3, 4, 5, 6, 7] [] (by decide) rfl rfl 2 rfl rfl [(b0 0), (b0 1), (b0 2), (b0 3), (b0 4), (b0 5), (b0 6), (b0 7)] rfl rfl rfl [] rfl rfl rfl rfl hl.1 rfl (Nat.le_of_ble_eq_true rfl) dX2_repay_58 (fun H locs hP hD hS => ?_)
      refine lv_iload_n hx hb dX2_repay_61 rfl (lv_at hl 1 rfl) ?_
      refine lv_iadd hx hb dX2_repay_62 ?_
      obtain ⟨r_10, hr_10, h⟩ := bn_s h
      refine kcVv (As := [.int r_6, .int (r_9 + r_3)]) (rest := []) (ws' := (wV cy b0 r_10 [])) ⟨hx, hb, hml, hown, hts⟩ (cwV 2 hts gX2_repay_X2_fillPurse rfl rfl rfl ⟨rfl, eX2_fillPurse⟩ ⟨Nat.le_of_ble_eq_true rfl, Nat.le_of_ble_eq_true rfl⟩) (c_X2_fillPurse b0 hr_10) hK hP hD hS hA [0, 1, 2, 3, 4, 5, 6, 7] [] (by decide) rfl rfl 2 rfl rfl [(b0 0), (b0 1), (b0 2), (b0 3), (b0 4), (b0 5), (b0 6), (b0 7)] rfl rfl rfl [] rfl rfl rfl rfl hl.1 rfl (Nat.le_of_ble_eq_true rfl) dX2_repay_63 (fun H locs hP hD hS => ?_)
      refine lv_aload_n hx hb dX2_repay_66 rfl (lv_at hl 3 rfl) ?_
      refine lv_iload_n hx hb dX2_repay_67 rfl (lv_at hl 4 rfl) ?_
      refine lv_iload_n hx hb dX2_repay_68 rfl (lv_at hl 2 rfl) ?_
      obtain ⟨r_11, hr_11, h⟩ := bn_s h
      refine kcVv (As := [.int x1, .int r_1]) (rest := []) (ws' := (wV cy b0 r_11 [])) ⟨hx, hb, hml, hown, hts⟩ (cwV 2 hts gX2_repay_X2_drop rfl rfl rfl ⟨rfl, eX2_drop⟩ ⟨Nat.le_of_ble_eq_true rfl, Nat.le_of_ble_eq_true rfl⟩) (c_X2_drop b0 hr_11) hK hP hD hS hA [0, 1, 2, 3, 4, 5, 6, 7] [] (by decide) rfl rfl 2 rfl rfl [(b0 0), (b0 1), (b0 2), (b0 3), (b0 4), (b0 5), (b0 6), (b0 7)] rfl rfl rfl [] rfl rfl rfl rfl hl.1 rfl (Nat.le_of_ble_eq_true rfl) dX2_repay_69 (fun H locs hP hD hS => ?_)
      refine lv_iconst (v := 0) hx hb dX2_repay_72 (by decide) ?_
      cases h
      exact kretI hx hb hr hlk hP hS dX2_repay_73
    · replace h := it_n c_5 h
      refine lv_iconst (v := 4) hx hb dX2_repay_30 (by decide) ?_
      cases h
      exact kretI hx hb hr hlk hP hS dX2_repay_31
  · replace h := it_p c_2 h
    refine lv_iconst (v := 3) hx hb dX2_repay_12 (by decide) ?_
    cases h
    exact kretI hx hb hr hlk hP hS dX2_repay_13
theorem c_X2_repay {l : Launch} {D : va_G} {cy : Nat → ClassId} (b0 : Nat → Nat) {vv : VS} {x1 : Int32} {rr : Int32 × VS} (h : f_X2_repay vv x1 = some rr) : CI l D cy yX2_repay wsX2_repay { frames := 3, cells := 0, slots := 0, locals := 70 } [.ref (b0 0), .int x1] (wV cy b0 vv []) (rr.1) (wV cy b0 rr.2 []) := by
  refine kofI (cc := cX2_repay) (maxL := 5) (ret := (some .int)) (by decide) rfl (Nat.le_of_ble_eq_true rfl) ?_
  intro p e s m below meth c A M ls hl hP hD hS
  exact w_X2_repay_0 M h hP hD hS hl
theorem eX2_repay : yX2_repay.cls ≠ "java/lang/invoke/MethodHandle" ∧ yX2_repay.cls ≠ "java/lang/invoke/VarHandle" ∧ (parseMethodDescriptor yX2_repay.desc).map (fun d => d.parameters.length) = some 1 := by decide +kernel
theorem iX2_lend_X2 : ∀ w ∈ u_ws RX2 TX2 11, w ∈ wsX2_lend := by decide +kernel
theorem mX2_lend_1 : Cond.initialized RX3 ∈ wsX2_lend := by decide +kernel
theorem mX2_lend_2 : Cond.static yX3_isMan ∈ wsX2_lend := by decide +kernel
theorem mX2_lend_3 : Cond.fieldLink RX2 24 "LentPiles$Valley" "lender" "[I" ∈ wsX2_lend := by decide +kernel
theorem mX2_lend_4 : Cond.fieldLink RX2 27 "LentPiles$Valley" "pence" "[I" ∈ wsX2_lend := by decide +kernel
theorem mX2_lend_5 : Cond.fieldLink RX2 30 "LentPiles$Valley" "made" "[I" ∈ wsX2_lend := by decide +kernel
theorem mX2_lend_6 : Cond.fieldLink RX2 43 "LentPiles$Valley" "days" "I" ∈ wsX2_lend := by decide +kernel
theorem mX2_lend_7 : Cond.fieldLink RX2 21 "LentPiles$Valley" "height" "[I" ∈ wsX2_lend := by decide +kernel
set_option maxHeartbeats 4000000 in
set_option maxRecDepth 100000 in
theorem w_X2_lend_0 {p : Program} {l : Launch} {e : Env} {s : State} {m : MethodId} {args : Array Value} {below : List Frame} {meth : Method} {c : Code} {A : Nat → Prop} {D : va_G} {cy : Nat → ClassId} {b0 : Nat → Nat} {x1 : Int32} {x2 : Int32} {x3 : Int32} {rr : Int32 × VS} (M : kM p s m args meth c cX2_lend 6 (some .int) RX2 wsX2_lend A D cy) {vv : VS} (h : f_X2_lend vv x1 x2 x3 = some rr) {H : Heap} {locs : List Loc} {ls : Array Slot} (hP : va_P D vwCl (wV cy b0 vv []) H) (hD : va_D A (wV cy b0 vv [])) (hS : va_S A s.heap H locs) (hl : lv_has ls 6 [(0, .ref (b0 0)), (1, .int x1), (2, .int x2), (3, .int x3)]) : W p l e { frames := 2, cells := 0, slots := 0, locals := 42 } s m args below meth c H locs 0 0 (MQ below (qI D (wV cy b0 rr.2 []) (rr.1) A) args s 0 0 A) (F0 m 0 ls []) := by
  obtain ⟨hx, hb, hr, hml, hown, hts, hlk, hA, hK⟩ := id M
  unfold f_X2_lend at h
  refine lv_aload_n hx hb dX2_lend_0 rfl (lv_at hl 0 rfl) ?_
  refine lv_iload_n hx hb dX2_lend_1 rfl (lv_at hl 1 rfl) ?_
  obtain ⟨r_1, hr_1, h⟩ := bn_s h
  refine kcVi (As := [.int x1]) (rest := []) (ws' := (wV cy b0 vv [])) ⟨hx, hb, hml, hown, hts⟩ (cwV 1 hts gX2_lend_X2_purseOf rfl rfl rfl ⟨rfl, eX2_purseOf⟩ ⟨Nat.le_of_ble_eq_true rfl, Nat.le_of_ble_eq_true rfl⟩) (c_X2_purseOf b0 hr_1) hK hP hD hS hA [0, 1, 2, 3, 4, 5, 6, 7] [] (by decide) rfl rfl 2 rfl rfl [(b0 0), (b0 1), (b0 2), (b0 3), (b0 4), (b0 5), (b0 6), (b0 7)] rfl rfl rfl [] rfl rfl rfl rfl hl.1 rfl (Nat.le_of_ble_eq_true rfl) dX2_lend_2 (fun H locs hP hD hS => ?_)
  refine lv_iload_n hx hb dX2_lend_5 rfl (lv_at hl 3 rfl) ?_
  refine lv_icmp_ge (tgt := 11) hx hb dX2_lend_6 (by decide) (fun c_2 => ?_) (fun c_2 => ?_)
  · replace h := it_p c_2 h
    refine lv_aload_n hx hb dX2_lend_11 rfl (lv_at hl 0 rfl) ?_
    refine lv_iload_n hx hb dX2_lend_12 rfl (lv_at hl 2 rfl) ?_
    obtain ⟨r_3, hr_3, h⟩ := bn_s h
    refine kcVi (As := [.int x2]) (rest := []) (ws' := (wV cy b0 vv [])) ⟨hx, hb, hml, hown, hts⟩ (cwV 1 hts gX2_lend_X2_debtsOf rfl rfl rfl ⟨rfl, eX2_debtsOf⟩ ⟨Nat.le_of_ble_eq_true rfl, Nat.le_of_ble_eq_true rfl⟩) (c_X2_debtsOf b0 hr_3) hK hP hD hS hA [0, 1, 2, 3, 4, 5, 6, 7] [] (by decide) rfl rfl 2 rfl rfl [(b0 0), (b0 1), (b0 2), (b0 3), (b0 4), (b0 5), (b0 6), (b0 7)] rfl rfl rfl [] rfl rfl rfl rfl hl.1 rfl (Nat.le_of_ble_eq_true rfl) dX2_lend_13 (fun H locs hP hD hS => ?_)
    refine lv_istore (lv' := [(4, .int r_3), (0, .ref (b0 0)), (1, .int x1), (2, .int x2), (3, .int x3)]) hx hb dX2_lend_16 hl (by decide) rfl (fun ls hl => ?_)
    refine lv_iload_n hx hb dX2_lend_18 rfl (lv_at hl 3 rfl) ?_
    obtain ⟨r_4, hr_4, h⟩ := bn_s h
    refine kcNi (As := [.int x2]) (rest := []) ⟨hx, hb, hml, hown, hts⟩ ⟨va_cnB 1 hts gX2_lend_X3_isMan_n58 rfl rfl rfl (kN_RX2_58 hK.2) (hts _ mX2_lend_1) eX3_isMan ⟨Nat.le_of_ble_eq_true rfl, Nat.le_of_ble_eq_true rfl⟩, hts _ mX2_lend_2, trivial⟩ (c_X3_isMan  hr_4) hK hP hS hA rfl hl.1 rfl (Nat.le_of_ble_eq_true rfl) dX2_lend_19 (fun H locs hP hS => ?_)
    refine lv_if_eq (tgt := 36) hx hb dX2_lend_22 (by decide) (fun c_5 => ?_) (fun c_5 => ?_)
    · replace h := it_p c_5 h
      refine lv_iconst (v := 2) hx hb dX2_lend_36 (by decide) ?_
      cases h
      exact kretI hx hb hr hlk hP hS dX2_lend_37
    · replace h := it_n c_5 h
      refine lv_iload hx hb dX2_lend_25 (lv_at hl 0 rfl) ?_
      refine lv_if_lt (tgt := 36) hx hb dX2_lend_27 (by decide) (fun c_6 => ?_) (fun c_6 => ?_)
      · replace h := it_p c_6 h
        refine lv_iconst (v := 2) hx hb dX2_lend_36 (by decide) ?_
        cases h
        exact kretI hx hb hr hlk hP hS dX2_lend_37
      · replace h := it_n c_6 h
        refine lv_iload hx hb dX2_lend_30 (lv_at hl 0 rfl) ?_
        refine lv_iconst (v := 5) hx hb dX2_lend_32 (by decide) ?_
        refine lv_icmp_lt (tgt := 38) hx hb dX2_lend_33 (by decide) (fun c_7 => ?_) (fun c_7 => ?_)
        · replace h := it_p c_7 h
          refine lv_iload_n hx hb dX2_lend_38 rfl (lv_at hl 3 rfl) ?_
          refine lv_iconst (v := 5) hx hb dX2_lend_39 (by decide) ?_
          refine lv_imul hx hb dX2_lend_40 ?_
          refine lv_iload hx hb dX2_lend_41 (lv_at hl 0 rfl) ?_
          refine lv_iadd hx hb dX2_lend_43 ?_
          refine lv_topi (fun x5_8 ex5_8 => ?_)
          replace h := nm_s h ex5_8
          refine lv_istore (lv' := [(5, .int x5_8), (4, .int r_3), (0, .ref (b0 0)), (1, .int x1), (2, .int x2), (3, .int x3)]) hx hb dX2_lend_44 hl (by decide) rfl (fun ls hl => ?_)
          refine lv_aload_n hx hb dX2_lend_46 rfl (lv_at hl 2 rfl) ?_
          refine va_get (D := D) (ci := 2) (v := .ref (b0 3)) (C := RX2) (T := TX2) (N := 11) hx hb hts iX2_lend_X2 hown hK.1 hP 0 rfl rfl 2 (by decide) (hts _ mX2_lend_3) (fun _ h9 => h9) rfl dX2_lend_47 ?_
          refine lv_iload hx hb dX2_lend_50 (lv_at hl 0 rfl) ?_
          refine lv_iload_n hx hb dX2_lend_52 rfl (lv_at hl 3 rfl) ?_
          obtain ⟨b_9, h⟩ := ck_s h
          refine va_iast hx hb hK.1 hP hD hS 3 1 rfl rfl b_9 dX2_lend_53 (fun H locs hP hD hS => ?_)
          obtain ⟨vv_10, evv_10⟩ : ∃ z : VS, z = (vv.1, vv.2.1, (upd vv.2.2.1 x5_8.toNatClampNeg x1), vv.2.2.2) := ⟨_, rfl⟩
          replace h := nm_s h evv_10
          have hP : va_P D vwCl (wV cy b0 vv_10 []) H := by subst evv_10; exact hP
          have hD : va_D A (wV cy b0 vv_10 []) := hD.lk [(b0 0), (b0 1), (b0 2), (b0 3), (b0 4), (b0 5), (b0 6), (b0 7)] rfl rfl
          refine lv_aload_n hx hb dX2_lend_54 rfl (lv_at hl 2 rfl) ?_
          refine va_get (D := D) (ci := 2) (v := .ref (b0 4)) (C := RX2) (T := TX2) (N := 11) hx hb hts iX2_lend_X2 hown hK.1 hP 0 rfl rfl 3 (by decide) (hts _ mX2_lend_4) (fun _ h9 => h9) rfl dX2_lend_55 ?_
          refine lv_iload hx hb dX2_lend_58 (lv_at hl 0 rfl) ?_
          refine lv_iload_n hx hb dX2_lend_60 rfl (lv_at hl 5 rfl) ?_
          refine va_iast hx hb hK.1 hP hD hS 4 1 rfl rfl b_9 dX2_lend_61 (fun H locs hP hD hS => ?_)
          obtain ⟨vv_11, evv_11⟩ : ∃ z : VS, z = (vv_10.1, vv_10.2.1, vv_10.2.2.1, (upd vv_10.2.2.2.1 x5_8.toNatClampNeg x3), vv_10.2.2.2.2) := ⟨_, rfl⟩
          replace h := nm_s h evv_11
          have hP : va_P D vwCl (wV cy b0 vv_11 []) H := by subst evv_11; exact hP
          have hD : va_D A (wV cy b0 vv_11 []) := hD.lk [(b0 0), (b0 1), (b0 2), (b0 3), (b0 4), (b0 5), (b0 6), (b0 7)] rfl rfl
          refine lv_aload_n hx hb dX2_lend_62 rfl (lv_at hl 2 rfl) ?_
          refine va_get (D := D) (ci := 2) (v := .ref (b0 5)) (C := RX2) (T := TX2) (N := 11) hx hb hts iX2_lend_X2 hown hK.1 hP 0 rfl rfl 4 (by decide) (hts _ mX2_lend_5) (fun _ h9 => h9) rfl dX2_lend_63 ?_
          refine lv_iload hx hb dX2_lend_66 (lv_at hl 0 rfl) ?_
          refine lv_aload_n hx hb dX2_lend_68 rfl (lv_at hl 2 rfl) ?_
          refine va_get (D := D) (ci := 2) (v := .int vv_11.2.2.2.2.2.2.2.2.1) (C := RX2) (T := TX2) (N := 11) hx hb hts iX2_lend_X2 hown hK.1 hP 0 rfl rfl 8 (by decide) (hts _ mX2_lend_6) (fun _ h9 => h9) rfl dX2_lend_69 ?_
          refine va_iast hx hb hK.1 hP hD hS 5 1 rfl rfl b_9 dX2_lend_72 (fun H locs hP hD hS => ?_)
          obtain ⟨vv_12, evv_12⟩ : ∃ z : VS, z = (vv_11.1, vv_11.2.1, vv_11.2.2.1, vv_11.2.2.2.1, (upd vv_11.2.2.2.2.1 x5_8.toNatClampNeg vv_11.2.2.2.2.2.2.2.2.1), vv_11.2.2.2.2.2) := ⟨_, rfl⟩
          replace h := nm_s h evv_12
          have hP : va_P D vwCl (wV cy b0 vv_12 []) H := by subst evv_12; exact hP
          have hD : va_D A (wV cy b0 vv_12 []) := hD.lk [(b0 0), (b0 1), (b0 2), (b0 3), (b0 4), (b0 5), (b0 6), (b0 7)] rfl rfl
          refine lv_aload_n hx hb dX2_lend_73 rfl (lv_at hl 2 rfl) ?_
          refine va_get (D := D) (ci := 2) (v := .ref (b0 2)) (C := RX2) (T := TX2) (N := 11) hx hb hts iX2_lend_X2 hown hK.1 hP 0 rfl rfl 1 (by decide) (hts _ mX2_lend_7) (fun _ h9 => h9) rfl dX2_lend_74 ?_
          refine lv_iload_n hx hb dX2_lend_77 rfl (lv_at hl 4 rfl) ?_
          refine lv_iload hx hb dX2_lend_78 (lv_at hl 1 rfl) ?_
          refine lv_iconst (v := 1) hx hb dX2_lend_80 (by decide) ?_
          refine lv_iadd hx hb dX2_lend_81 ?_
          obtain ⟨b_13, h⟩ := ck_s h
          refine va_iast hx hb hK.1 hP hD hS 2 1 rfl rfl b_13 dX2_lend_82 (fun H locs hP hD hS => ?_)
          obtain ⟨vv_14, evv_14⟩ : ∃ z : VS, z = (vv_12.1, (upd vv_12.2.1 x2.toNatClampNeg (r_3 + (1 : Int32))), vv_12.2.2) := ⟨_, rfl⟩
          replace h := nm_s h evv_14
          have hP : va_P D vwCl (wV cy b0 vv_14 []) H := by subst evv_14; exact hP
          have hD : va_D A (wV cy b0 vv_14 []) := hD.lk [(b0 0), (b0 1), (b0 2), (b0 3), (b0 4), (b0 5), (b0 6), (b0 7)] rfl rfl
          refine lv_aload_n hx hb dX2_lend_83 rfl (lv_at hl 2 rfl) ?_
          refine lv_iload_n hx hb dX2_lend_84 rfl (lv_at hl 3 rfl) ?_
          refine lv_aload_n hx hb dX2_lend_85 rfl (lv_at hl 2 rfl) ?_
          refine lv_iload_n hx hb dX2_lend_86 rfl (lv_at hl 3 rfl) ?_
          obtain ⟨r_15, hr_15, h⟩ := bn_s h
          refine kcVi (As := [.int x1]) (rest := [.int x1, .ref (b0 0)]) (ws' := (wV cy b0 vv_14 [])) ⟨hx, hb, hml, hown, hts⟩ (cwV 1 hts gX2_lend_X2_purseOf rfl rfl rfl ⟨rfl, eX2_purseOf⟩ ⟨Nat.le_of_ble_eq_true rfl, Nat.le_of_ble_eq_true rfl⟩) (c_X2_purseOf b0 hr_15) hK hP hD hS hA [0, 1, 2, 3, 4, 5, 6, 7] [] (by decide) rfl rfl 2 rfl rfl [(b0 0), (b0 1), (b0 2), (b0 3), (b0 4), (b0 5), (b0 6), (b0 7)] rfl rfl rfl [] rfl rfl rfl rfl hl.1 rfl (Nat.le_of_ble_eq_true rfl) dX2_lend_87 (fun H locs hP hD hS => ?_)
          refine lv_iload_n hx hb dX2_lend_90 rfl (lv_at hl 5 rfl) ?_
          refine lv_isub hx hb dX2_lend_91 ?_
          obtain ⟨r_16, hr_16, h⟩ := bn_s h
          refine kcVv (As := [.int x1, .int (r_15 - x3)]) (rest := []) (ws' := (wV cy b0 r_16 [])) ⟨hx, hb, hml, hown, hts⟩ (cwV 2 hts gX2_lend_X2_fillPurse rfl rfl rfl ⟨rfl, eX2_fillPurse⟩ ⟨Nat.le_of_ble_eq_true rfl, Nat.le_of_ble_eq_true rfl⟩) (c_X2_fillPurse b0 hr_16) hK hP hD hS hA [0, 1, 2, 3, 4, 5, 6, 7] [] (by decide) rfl rfl 2 rfl rfl [(b0 0), (b0 1), (b0 2), (b0 3), (b0 4), (b0 5), (b0 6), (b0 7)] rfl rfl rfl [] rfl rfl rfl rfl hl.1 rfl (Nat.le_of_ble_eq_true rfl) dX2_lend_92 (fun H locs hP hD hS => ?_)
          refine lv_aload_n hx hb dX2_lend_95 rfl (lv_at hl 2 rfl) ?_
          refine lv_iload_n hx hb dX2_lend_96 rfl (lv_at hl 4 rfl) ?_
          refine lv_aload_n hx hb dX2_lend_97 rfl (lv_at hl 2 rfl) ?_
          refine lv_iload_n hx hb dX2_lend_98 rfl (lv_at hl 4 rfl) ?_
          obtain ⟨r_17, hr_17, h⟩ := bn_s h
          refine kcVi (As := [.int x2]) (rest := [.int x2, .ref (b0 0)]) (ws' := (wV cy b0 r_16 [])) ⟨hx, hb, hml, hown, hts⟩ (cwV 1 hts gX2_lend_X2_purseOf rfl rfl rfl ⟨rfl, eX2_purseOf⟩ ⟨Nat.le_of_ble_eq_true rfl, Nat.le_of_ble_eq_true rfl⟩) (c_X2_purseOf b0 hr_17) hK hP hD hS hA [0, 1, 2, 3, 4, 5, 6, 7] [] (by decide) rfl rfl 2 rfl rfl [(b0 0), (b0 1), (b0 2), (b0 3), (b0 4), (b0 5), (b0 6), (b0 7)] rfl rfl rfl [] rfl rfl rfl rfl hl.1 rfl (Nat.le_of_ble_eq_true rfl) dX2_lend_99 (fun H locs hP hD hS => ?_)
          refine lv_iload_n hx hb dX2_lend_102 rfl (lv_at hl 5 rfl) ?_
          refine lv_iadd hx hb dX2_lend_103 ?_
          obtain ⟨r_18, hr_18, h⟩ := bn_s h
          refine kcVv (As := [.int x2, .int (r_17 + x3)]) (rest := []) (ws' := (wV cy b0 r_18 [])) ⟨hx, hb, hml, hown, hts⟩ (cwV 2 hts gX2_lend_X2_fillPurse rfl rfl rfl ⟨rfl, eX2_fillPurse⟩ ⟨Nat.le_of_ble_eq_true rfl, Nat.le_of_ble_eq_true rfl⟩) (c_X2_fillPurse b0 hr_18) hK hP hD hS hA [0, 1, 2, 3, 4, 5, 6, 7] [] (by decide) rfl rfl 2 rfl rfl [(b0 0), (b0 1), (b0 2), (b0 3), (b0 4), (b0 5), (b0 6), (b0 7)] rfl rfl rfl [] rfl rfl rfl rfl hl.1 rfl (Nat.le_of_ble_eq_true rfl) dX2_lend_104 (fun H locs hP hD hS => ?_)
          refine lv_iconst (v := 0) hx hb dX2_lend_107 (by decide) ?_
          cases h
          exact kretI hx hb hr hlk hP hS dX2_lend_108
        · replace h := it_n c_7 h
          refine lv_iconst (v := 2) hx hb dX2_lend_36 (by decide) ?_
          cases h
          exact kretI hx hb hr hlk hP hS dX2_lend_37
  · replace h := it_n c_2 h
    refine lv_iconst (v := 1) hx hb dX2_lend_9 (by decide) ?_
    cases h
    exact kretI hx hb hr hlk hP hS dX2_lend_10
theorem c_X2_lend {l : Launch} {D : va_G} {cy : Nat → ClassId} (b0 : Nat → Nat) {vv : VS} {x1 : Int32} {x2 : Int32} {x3 : Int32} {rr : Int32 × VS} (h : f_X2_lend vv x1 x2 x3 = some rr) : CI l D cy yX2_lend wsX2_lend { frames := 2, cells := 0, slots := 0, locals := 42 } [.ref (b0 0), .int x1, .int x2, .int x3] (wV cy b0 vv []) (rr.1) (wV cy b0 rr.2 []) := by
  refine kofI (cc := cX2_lend) (maxL := 6) (ret := (some .int)) (by decide) rfl (Nat.le_of_ble_eq_true rfl) ?_
  intro p e s m below meth c A M ls hl hP hD hS
  exact w_X2_lend_0 M h hP hD hS hl
theorem eX2_lend : yX2_lend.cls ≠ "java/lang/invoke/MethodHandle" ∧ yX2_lend.cls ≠ "java/lang/invoke/VarHandle" ∧ (parseMethodDescriptor yX2_lend.desc).map (fun d => d.parameters.length) = some 3 := by decide +kernel
def I_X2_turnOf (p : Program) (l : Launch) (e : Env) (s : State) (m : MethodId) (args : Array Value) (below : List Frame) (meth : Method) (c : Code) (A : Nat → Prop) (D : va_G) (cy : Nat → ClassId) (b0 : Nat → Nat) (vv : VS) (x1 : Int32) (x2 : Int32) (fu : Nat) (rr : Int32) : Prop := (∀ (x3 : Int32) (x4 : Int32) (H : Heap) (locs : List Loc) (ls : Array Slot), lpn (st_X2_turnOf vv x1 x2) fu (x3, x4) = some rr → va_P D vwCl (wV cy b0 vv []) H → va_D A (wV cy b0 vv []) → va_S A s.heap H locs → lv_has ls 5 [(0, .ref (b0 0)), (1, .int x1), (2, .int x2), (3, .int x3), (4, .int x4)] → W p l e { frames := 2, cells := 0, slots := 0, locals := 47 } s m args below meth c H locs 0 0 (MQ below (qI D (wV cy b0 vv []) (rr) A) args s 0 0 A) (F0 m 5 ls []))
set_option maxHeartbeats 4000000 in
set_option maxRecDepth 100000 in
theorem w_X2_turnOf_5 {p : Program} {l : Launch} {e : Env} {s : State} {m : MethodId} {args : Array Value} {below : List Frame} {meth : Method} {c : Code} {A : Nat → Prop} {D : va_G} {cy : Nat → ClassId} {b0 : Nat → Nat} {vv : VS} {x1 : Int32} {x2 : Int32} {fu : Nat} {rr : Int32} (M : kM p s m args meth c cX2_turnOf 5 (some .int) RX2 wsX2_turnOf A D cy) (ih : I_X2_turnOf p l e s m args below meth c A D cy b0 vv x1 x2 fu rr) {x3 : Int32} {x4 : Int32} {oo : (Int32 × Int32) ⊕ (Int32)} (h : f_X2_turnOf_5 vv x1 x2 x3 x4 = some oo) (hm : lpo (st_X2_turnOf vv x1 x2) fu oo rr) {H : Heap} {locs : List Loc} {ls : Array Slot} (hP : va_P D vwCl (wV cy b0 vv []) H) (hD : va_D A (wV cy b0 vv [])) (hS : va_S A s.heap H locs) (hl : lv_has ls 5 [(0, .ref (b0 0)), (1, .int x1), (2, .int x2), (3, .int x3), (4, .int x4)]) : W p l e { frames := 2, cells := 0, slots := 0, locals := 47 } s m args below meth c H locs 0 0 (MQ below (qI D (wV cy b0 vv []) (rr) A) args s 0 0 A) (F0 m 5 ls []) := by
  obtain ⟨hx, hb, hr, hml, hown, hts, hlk, hA, hK⟩ := id M
  unfold f_X2_turnOf_5 at h
  refine lv_iload hx hb dX2_turnOf_5 (lv_at hl 4 rfl) ?_
  refine lv_aload_n hx hb dX2_turnOf_7 rfl (lv_at hl 0 rfl) ?_
  refine lv_iload_n hx hb dX2_turnOf_8 rfl (lv_at hl 1 rfl) ?_
  obtain ⟨r_1, hr_1, h⟩ := bn_s h
  refine kcVi (As := [.int x1]) (rest := [.int x4]) (ws' := (wV cy b0 vv [])) ⟨hx, hb, hml, hown, hts⟩ (cwV 1 hts gX2_turnOf_X2_debtsOf rfl rfl rfl ⟨rfl, eX2_debtsOf⟩ ⟨Nat.le_of_ble_eq_true rfl, Nat.le_of_ble_eq_true rfl⟩) (c_X2_debtsOf b0 hr_1) hK hP hD hS hA [0, 1, 2, 3, 4, 5, 6, 7] [] (by decide) rfl rfl 2 rfl rfl [(b0 0), (b0 1), (b0 2), (b0 3), (b0 4), (b0 5), (b0 6), (b0 7)] rfl rfl rfl [] rfl rfl rfl rfl hl.1 rfl (Nat.le_of_ble_eq_true rfl) dX2_turnOf_9 (fun H locs hP hD hS => ?_)
  refine lv_icmp_ge (tgt := 40) hx hb dX2_turnOf_12 (by decide) (fun c_2 => ?_) (fun c_2 => ?_)
  · replace h := it_p c_2 h
    refine lv_iload_n hx hb dX2_turnOf_40 rfl (lv_at hl 3 rfl) ?_
    cases h
    have hm : _ = rr := hm
    subst hm
    exact kretI hx hb hr hlk hP hS dX2_turnOf_41
  · replace h := it_n c_2 h
    refine lv_iload_n hx hb dX2_turnOf_15 rfl (lv_at hl 3 rfl) ?_
    refine lv_aload_n hx hb dX2_turnOf_16 rfl (lv_at hl 0 rfl) ?_
    refine lv_iload_n hx hb dX2_turnOf_17 rfl (lv_at hl 1 rfl) ?_
    refine lv_iload hx hb dX2_turnOf_18 (lv_at hl 4 rfl) ?_
    refine lv_iload_n hx hb dX2_turnOf_20 rfl (lv_at hl 2 rfl) ?_
    obtain ⟨r_3, hr_3, h⟩ := bn_s h
    refine kcVi (As := [.int x1, .int x4, .int x2]) (rest := [.int x3]) (ws' := (wV cy b0 vv [])) ⟨hx, hb, hml, hown, hts⟩ (cwV 3 hts gX2_turnOf_X2_notLater rfl rfl rfl ⟨rfl, eX2_notLater⟩ ⟨Nat.le_of_ble_eq_true rfl, Nat.le_of_ble_eq_true rfl⟩) (c_X2_notLater b0 hr_3) hK hP hD hS hA [0, 1, 2, 3, 4, 5, 6, 7] [] (by decide) rfl rfl 2 rfl rfl [(b0 0), (b0 1), (b0 2), (b0 3), (b0 4), (b0 5), (b0 6), (b0 7)] rfl rfl rfl [] rfl rfl rfl rfl hl.1 rfl (Nat.le_of_ble_eq_true rfl) dX2_turnOf_21 (fun H locs hP hD hS => ?_)
    refine lv_if_eq (tgt := 31) hx hb dX2_turnOf_24 (by decide) (fun c_4 => ?_) (fun c_4 => ?_)
    · replace h := it_p c_4 h
      refine lv_iconst (v := 0) hx hb dX2_turnOf_31 (by decide) ?_
      refine lv_iadd hx hb dX2_turnOf_32 ?_
      refine lv_topi (fun x3_5 ex3_5 => ?_)
      replace h := nm_s h ex3_5
      refine lv_istore_n (lv' := [(3, .int x3_5), (0, .ref (b0 0)), (1, .int x1), (2, .int x2), (4, .int x4)]) hx hb dX2_turnOf_33 rfl hl (by decide) rfl (fun ls hl => ?_)
      obtain ⟨x4_6, ex4_6⟩ : ∃ z : Int32, z = (x4 + (1 : Int32)) := ⟨_, rfl⟩
      replace h := nm_s h ex4_6
      refine lv_iinc (v := x4_6) (lv' := [(4, .int x4_6), (3, .int x3_5), (0, .ref (b0 0)), (1, .int x1), (2, .int x2)]) hx hb dX2_turnOf_34 hl (k := 4) rfl (by rw [ex4_6]; rfl) (by decide) rfl (fun ls hl => ?_)
      refine lv_goto (tgt := 5) hx hb dX2_turnOf_37 (by decide) ?_
      cases h
      exact ih x3_5 x4_6 _ _ _ hm hP hD hS (lv_sub hl [2, 3, 4, 1, 0] rfl)
    · replace h := it_n c_4 h
      refine lv_iconst (v := 1) hx hb dX2_turnOf_27 (by decide) ?_
      refine lv_goto (tgt := 32) hx hb dX2_turnOf_28 (by decide) ?_
      refine lv_iadd hx hb dX2_turnOf_32 ?_
      refine lv_topi (fun x3_7 ex3_7 => ?_)
      replace h := nm_s h ex3_7
      refine lv_istore_n (lv' := [(3, .int x3_7), (0, .ref (b0 0)), (1, .int x1), (2, .int x2), (4, .int x4)]) hx hb dX2_turnOf_33 rfl hl (by decide) rfl (fun ls hl => ?_)
      obtain ⟨x4_8, ex4_8⟩ : ∃ z : Int32, z = (x4 + (1 : Int32)) := ⟨_, rfl⟩
      replace h := nm_s h ex4_8
      refine lv_iinc (v := x4_8) (lv' := [(4, .int x4_8), (3, .int x3_7), (0, .ref (b0 0)), (1, .int x1), (2, .int x2)]) hx hb dX2_turnOf_34 hl (k := 4) rfl (by rw [ex4_8]; rfl) (by decide) rfl (fun ls hl => ?_)
      refine lv_goto (tgt := 5) hx hb dX2_turnOf_37 (by decide) ?_
      cases h
      exact ih x3_7 x4_8 _ _ _ hm hP hD hS (lv_sub hl [2, 3, 4, 1, 0] rfl)
set_option maxHeartbeats 4000000 in
set_option maxRecDepth 100000 in
theorem w_X2_turnOf_0 {p : Program} {l : Launch} {e : Env} {s : State} {m : MethodId} {args : Array Value} {below : List Frame} {meth : Method} {c : Code} {A : Nat → Prop} {D : va_G} {cy : Nat → ClassId} {b0 : Nat → Nat} {vv : VS} {x1 : Int32} {x2 : Int32} {fu : Nat} {rr : Int32} (M : kM p s m args meth c cX2_turnOf 5 (some .int) RX2 wsX2_turnOf A D cy) (ih : I_X2_turnOf p l e s m args below meth c A D cy b0 vv x1 x2 fu rr)  {oo : (Int32 × Int32) ⊕ (Int32)} (h : f_X2_turnOf_0 vv x1 x2 = some oo) (hm : lpo (st_X2_turnOf vv x1 x2) fu oo rr) {H : Heap} {locs : List Loc} {ls : Array Slot} (hP : va_P D vwCl (wV cy b0 vv []) H) (hD : va_D A (wV cy b0 vv [])) (hS : va_S A s.heap H locs) (hl : lv_has ls 5 [(0, .ref (b0 0)), (1, .int x1), (2, .int x2)]) : W p l e { frames := 2, cells := 0, slots := 0, locals := 47 } s m args below meth c H locs 0 0 (MQ below (qI D (wV cy b0 vv []) (rr) A) args s 0 0 A) (F0 m 0 ls []) := by
  obtain ⟨hx, hb, hr, hml, hown, hts, hlk, hA, hK⟩ := id M
  unfold f_X2_turnOf_0 at h
  refine lv_iconst (v := 0) hx hb dX2_turnOf_0 (by decide) ?_
  refine lv_istore_n (lv' := [(3, .int (0 : Int32)), (0, .ref (b0 0)), (1, .int x1), (2, .int x2)]) hx hb dX2_turnOf_1 rfl hl (by decide) rfl (fun ls hl => ?_)
  refine lv_iconst (v := 0) hx hb dX2_turnOf_2 (by decide) ?_
  refine lv_istore (lv' := [(4, .int (0 : Int32)), (3, .int (0 : Int32)), (0, .ref (b0 0)), (1, .int x1), (2, .int x2)]) hx hb dX2_turnOf_3 hl (by decide) rfl (fun ls hl => ?_)
  cases h
  exact ih (0 : Int32) (0 : Int32) _ _ _ hm hP hD hS (lv_sub hl [2, 3, 4, 1, 0] rfl)
theorem wl_X2_turnOf {p : Program} {l : Launch} {e : Env} {s : State} {m : MethodId} {args : Array Value} {below : List Frame} {meth : Method} {c : Code} {A : Nat → Prop} {D : va_G} {cy : Nat → ClassId} {b0 : Nat → Nat} {vv : VS} {x1 : Int32} {x2 : Int32} {rr : Int32} (M : kM p s m args meth c cX2_turnOf 5 (some .int) RX2 wsX2_turnOf A D cy) : ∀ fu : Nat, I_X2_turnOf p l e s m args below meth c A D cy b0 vv x1 x2 fu rr := by
  intro fu
  induction fu with
  | zero => exact (fun _ _ _ _ _ h => by cases h)
  | succ fu ih =>
    exact fun x3 x4 H locs ls h hP hD hS hl => by
      obtain ⟨o1, h1, h2⟩ := lpn_s h
      exact w_X2_turnOf_5 M ih h1 h2 hP hD hS hl
theorem c_X2_turnOf {l : Launch} {D : va_G} {cy : Nat → ClassId} (b0 : Nat → Nat) {vv : VS} {x1 : Int32} {x2 : Int32} {rr : Int32} (h : f_X2_turnOf vv x1 x2 = some rr) : CI l D cy yX2_turnOf wsX2_turnOf { frames := 2, cells := 0, slots := 0, locals := 47 } [.ref (b0 0), .int x1, .int x2] (wV cy b0 vv []) (rr) (wV cy b0 vv []) := by
  refine kofI (cc := cX2_turnOf) (maxL := 5) (ret := (some .int)) (by decide) rfl (Nat.le_of_ble_eq_true rfl) ?_
  intro p e s m below meth c A M ls hl hP hD hS
  obtain ⟨o1, fu, h1, h2⟩ := rnx_s h
  exact w_X2_turnOf_0 M (wl_X2_turnOf M fu) h1 h2 hP hD hS hl
theorem eX2_turnOf : yX2_turnOf.cls ≠ "java/lang/invoke/MethodHandle" ∧ yX2_turnOf.cls ≠ "java/lang/invoke/VarHandle" ∧ (parseMethodDescriptor yX2_turnOf.desc).map (fun d => d.parameters.length) = some 2 := by decide +kernel
theorem iX2_addSight_X2 : ∀ w ∈ u_ws RX2 TX2 11, w ∈ wsX2_addSight := by decide +kernel
theorem mX2_addSight_1 : Cond.fieldLink RX2 39 "LentPiles$Valley" "sights" "I" ∈ wsX2_addSight := by decide +kernel
theorem mX2_addSight_2 : Cond.fieldLink RX2 33 "LentPiles$Valley" "sightMan" "[I" ∈ wsX2_addSight := by decide +kernel
theorem mX2_addSight_3 : Cond.fieldLink RX2 36 "LentPiles$Valley" "sightPence" "[I" ∈ wsX2_addSight := by decide +kernel
set_option maxHeartbeats 4000000 in
set_option maxRecDepth 100000 in
theorem w_X2_addSight_0 {p : Program} {l : Launch} {e : Env} {s : State} {m : MethodId} {args : Array Value} {below : List Frame} {meth : Method} {c : Code} {A : Nat → Prop} {D : va_G} {cy : Nat → ClassId} {b0 : Nat → Nat} {x1 : Int32} {x2 : Int32} {rr : Int32 × VS} (M : kM p s m args meth c cX2_addSight 3 (some .boolean) RX2 wsX2_addSight A D cy) {vv : VS} (h : f_X2_addSight vv x1 x2 = some rr) {H : Heap} {locs : List Loc} {ls : Array Slot} (hP : va_P D vwCl (wV cy b0 vv []) H) (hD : va_D A (wV cy b0 vv [])) (hS : va_S A s.heap H locs) (hl : lv_has ls 3 [(0, .ref (b0 0)), (1, .int x1), (2, .int x2)]) : W p l e { frames := 0, cells := 0, slots := 0, locals := 0 } s m args below meth c H locs 0 0 (MQ below (qI D (wV cy b0 rr.2 []) (rr.1) A) args s 0 0 A) (F0 m 0 ls []) := by
  obtain ⟨hx, hb, hr, hml, hown, hts, hlk, hA, hK⟩ := id M
  unfold f_X2_addSight at h
  refine lv_aload_n hx hb dX2_addSight_0 rfl (lv_at hl 0 rfl) ?_
  refine va_get (D := D) (ci := 2) (v := .int vv.2.2.2.2.2.2.2.1) (C := RX2) (T := TX2) (N := 11) hx hb hts iX2_addSight_X2 hown hK.1 hP 0 rfl rfl 7 (by decide) (hts _ mX2_addSight_1) (fun _ h9 => h9) rfl dX2_addSight_1 ?_
  refine lv_if_lt (tgt := 16) hx hb dX2_addSight_4 (by decide) (fun c_1 => ?_) (fun c_1 => ?_)
  · replace h := it_p c_1 h
    refine lv_iconst (v := 0) hx hb dX2_addSight_16 (by decide) ?_
    cases h
    exact kretZ (r0 := (0 : Int32)) (ty := .boolean) hx hb hr hlk hP hS (by decide) dX2_addSight_17
  · replace h := it_n c_1 h
    refine lv_aload_n hx hb dX2_addSight_7 rfl (lv_at hl 0 rfl) ?_
    refine va_get (D := D) (ci := 2) (v := .int vv.2.2.2.2.2.2.2.1) (C := RX2) (T := TX2) (N := 11) hx hb hts iX2_addSight_X2 hown hK.1 hP 0 rfl rfl 7 (by decide) (hts _ mX2_addSight_1) (fun _ h9 => h9) rfl dX2_addSight_8 ?_
    refine lv_bipush (v := 6) hx hb dX2_addSight_11 (by decide) ?_
    refine lv_icmp_lt (tgt := 18) hx hb dX2_addSight_13 (by decide) (fun c_2 => ?_) (fun c_2 => ?_)
    · replace h := it_p c_2 h
      refine lv_aload_n hx hb dX2_addSight_18 rfl (lv_at hl 0 rfl) ?_
      refine va_get (D := D) (ci := 2) (v := .ref (b0 6)) (C := RX2) (T := TX2) (N := 11) hx hb hts iX2_addSight_X2 hown hK.1 hP 0 rfl rfl 5 (by decide) (hts _ mX2_addSight_2) (fun _ h9 => h9) rfl dX2_addSight_19 ?_
      refine lv_aload_n hx hb dX2_addSight_22 rfl (lv_at hl 0 rfl) ?_
      refine va_get (D := D) (ci := 2) (v := .int vv.2.2.2.2.2.2.2.1) (C := RX2) (T := TX2) (N := 11) hx hb hts iX2_addSight_X2 hown hK.1 hP 0 rfl rfl 7 (by decide) (hts _ mX2_addSight_1) (fun _ h9 => h9) rfl dX2_addSight_23 ?_
      refine lv_iload_n hx hb dX2_addSight_26 rfl (lv_at hl 1 rfl) ?_
      obtain ⟨b_3, h⟩ := ck_s h
      refine va_iast hx hb hK.1 hP hD hS 6 1 rfl rfl b_3 dX2_addSight_27 (fun H locs hP hD hS => ?_)
      obtain ⟨vv_4, evv_4⟩ : ∃ z : VS, z = (vv.1, vv.2.1, vv.2.2.1, vv.2.2.2.1, vv.2.2.2.2.1, (upd vv.2.2.2.2.2.1 vv.2.2.2.2.2.2.2.1.toNatClampNeg x1), vv.2.2.2.2.2.2) := ⟨_, rfl⟩
      replace h := nm_s h evv_4
      have hP : va_P D vwCl (wV cy b0 vv_4 []) H := by subst evv_4; exact hP
      have hD : va_D A (wV cy b0 vv_4 []) := hD.lk [(b0 0), (b0 1), (b0 2), (b0 3), (b0 4), (b0 5), (b0 6), (b0 7)] rfl rfl
      refine lv_aload_n hx hb dX2_addSight_28 rfl (lv_at hl 0 rfl) ?_
      refine va_get (D := D) (ci := 2) (v := .ref (b0 7)) (C := RX2) (T := TX2) (N := 11) hx hb hts iX2_addSight_X2 hown hK.1 hP 0 rfl rfl 6 (by decide) (hts _ mX2_addSight_3) (fun _ h9 => h9) rfl dX2_addSight_29 ?_
      refine lv_aload_n hx hb dX2_addSight_32 rfl (lv_at hl 0 rfl) ?_
      refine va_get (D := D) (ci := 2) (v := .int vv_4.2.2.2.2.2.2.2.1) (C := RX2) (T := TX2) (N := 11) hx hb hts iX2_addSight_X2 hown hK.1 hP 0 rfl rfl 7 (by decide) (hts _ mX2_addSight_1) (fun _ h9 => h9) rfl dX2_addSight_33 ?_
      refine lv_iload_n hx hb dX2_addSight_36 rfl (lv_at hl 2 rfl) ?_
      obtain ⟨b_5, h⟩ := ck_s h
      refine va_iast hx hb hK.1 hP hD hS 7 1 rfl rfl b_5 dX2_addSight_37 (fun H locs hP hD hS => ?_)
      obtain ⟨vv_6, evv_6⟩ : ∃ z : VS, z = (vv_4.1, vv_4.2.1, vv_4.2.2.1, vv_4.2.2.2.1, vv_4.2.2.2.2.1, vv_4.2.2.2.2.2.1, (upd vv_4.2.2.2.2.2.2.1 vv_4.2.2.2.2.2.2.2.1.toNatClampNeg x2), vv_4.2.2.2.2.2.2.2) := ⟨_, rfl⟩
      replace h := nm_s h evv_6
      have hP : va_P D vwCl (wV cy b0 vv_6 []) H := by subst evv_6; exact hP
      have hD : va_D A (wV cy b0 vv_6 []) := hD.lk [(b0 0), (b0 1), (b0 2), (b0 3), (b0 4), (b0 5), (b0 6), (b0 7)] rfl rfl
      refine lv_aload_n hx hb dX2_addSight_38 rfl (lv_at hl 0 rfl) ?_
      refine lv_dup hx hb dX2_addSight_39 rfl ?_
      refine va_get (D := D) (ci := 2) (v := .int vv_6.2.2.2.2.2.2.2.1) (C := RX2) (T := TX2) (N := 11) hx hb hts iX2_addSight_X2 hown hK.1 hP 0 rfl rfl 7 (by decide) (hts _ mX2_addSight_1) (fun _ h9 => h9) rfl dX2_addSight_40 ?_
      refine lv_iconst (v := 1) hx hb dX2_addSight_43 (by decide) ?_
      refine lv_iadd hx hb dX2_addSight_44 ?_
      refine va_put (D := D) (ci := 2) (v := .int (vv_6.2.2.2.2.2.2.2.1 + (1 : Int32))) (ty := .int) (C := RX2) (T := TX2) (N := 11) hx hb hts iX2_addSight_X2 tyX2 tyX2_ok nmX2 hown hK.1 hP hD hS 0 rfl rfl 7 (by decide) (hts _ mX2_addSight_1) (fun _ h9 => h9) rfl (by decide +kernel) rfl rfl (Nat.le_of_ble_eq_true rfl) dX2_addSight_45 (fun H locs hP hD hS => ?_)
      obtain ⟨vv_7, evv_7⟩ : ∃ z : VS, z = (vv_6.1, vv_6.2.1, vv_6.2.2.1, vv_6.2.2.2.1, vv_6.2.2.2.2.1, vv_6.2.2.2.2.2.1, vv_6.2.2.2.2.2.2.1, (vv_6.2.2.2.2.2.2.2.1 + (1 : Int32)), vv_6.2.2.2.2.2.2.2.2) := ⟨_, rfl⟩
      replace h := nm_s h evv_7
      have hP : va_P D vwCl (wV cy b0 vv_7 []) H := by subst evv_7; exact hP
      have hD : va_D A (wV cy b0 vv_7 []) := hD.lk [(b0 0), (b0 1), (b0 2), (b0 3), (b0 4), (b0 5), (b0 6), (b0 7)] rfl rfl
      refine lv_iconst (v := 1) hx hb dX2_addSight_48 (by decide) ?_
      cases h
      exact kretZ (r0 := (1 : Int32)) (ty := .boolean) hx hb hr hlk hP hS (by decide) dX2_addSight_49
    · replace h := it_n c_2 h
      refine lv_iconst (v := 0) hx hb dX2_addSight_16 (by decide) ?_
      cases h
      exact kretZ (r0 := (0 : Int32)) (ty := .boolean) hx hb hr hlk hP hS (by decide) dX2_addSight_17
theorem c_X2_addSight {l : Launch} {D : va_G} {cy : Nat → ClassId} (b0 : Nat → Nat) {vv : VS} {x1 : Int32} {x2 : Int32} {rr : Int32 × VS} (h : f_X2_addSight vv x1 x2 = some rr) : CI l D cy yX2_addSight wsX2_addSight { frames := 0, cells := 0, slots := 0, locals := 0 } [.ref (b0 0), .int x1, .int x2] (wV cy b0 vv []) (rr.1) (wV cy b0 rr.2 []) := by
  refine kofI (cc := cX2_addSight) (maxL := 3) (ret := (some .boolean)) (by decide) rfl (Nat.le_of_ble_eq_true rfl) ?_
  intro p e s m below meth c A M ls hl hP hD hS
  exact w_X2_addSight_0 M h hP hD hS hl
theorem eX2_addSight : yX2_addSight.cls ≠ "java/lang/invoke/MethodHandle" ∧ yX2_addSight.cls ≠ "java/lang/invoke/VarHandle" ∧ (parseMethodDescriptor yX2_addSight.desc).map (fun d => d.parameters.length) = some 2 := by decide +kernel
theorem iX2_allDebts_X2 : ∀ w ∈ u_ws RX2 TX2 11, w ∈ wsX2_allDebts := by decide +kernel
theorem mX2_allDebts_1 : Cond.fieldLink RX2 21 "LentPiles$Valley" "height" "[I" ∈ wsX2_allDebts := by decide +kernel
def I_X2_allDebts (p : Program) (l : Launch) (e : Env) (s : State) (m : MethodId) (args : Array Value) (below : List Frame) (meth : Method) (c : Code) (A : Nat → Prop) (D : va_G) (cy : Nat → ClassId) (b0 : Nat → Nat) (vv : VS) (fu : Nat) (rr : Int32) : Prop := (∀ (x1 : Int32) (x2 : Int32) (H : Heap) (locs : List Loc) (ls : Array Slot), lpn (st_X2_allDebts vv) fu (x1, x2) = some rr → va_P D vwCl (wV cy b0 vv []) H → va_D A (wV cy b0 vv []) → va_S A s.heap H locs → lv_has ls 3 [(0, .ref (b0 0)), (1, .int x1), (2, .int x2)] → W p l e { frames := 0, cells := 0, slots := 0, locals := 0 } s m args below meth c H locs 0 0 (MQ below (qI D (wV cy b0 vv []) (rr) A) args s 0 0 A) (F0 m 4 ls []))
set_option maxHeartbeats 4000000 in
set_option maxRecDepth 100000 in
theorem w_X2_allDebts_4 {p : Program} {l : Launch} {e : Env} {s : State} {m : MethodId} {args : Array Value} {below : List Frame} {meth : Method} {c : Code} {A : Nat → Prop} {D : va_G} {cy : Nat → ClassId} {b0 : Nat → Nat} {vv : VS} {fu : Nat} {rr : Int32} (M : kM p s m args meth c cX2_allDebts 3 (some .int) RX2 wsX2_allDebts A D cy) (ih : I_X2_allDebts p l e s m args below meth c A D cy b0 vv fu rr) {x1 : Int32} {x2 : Int32} {oo : (Int32 × Int32) ⊕ (Int32)} (h : f_X2_allDebts_4 vv x1 x2 = some oo) (hm : lpo (st_X2_allDebts vv) fu oo rr) {H : Heap} {locs : List Loc} {ls : Array Slot} (hP : va_P D vwCl (wV cy b0 vv []) H) (hD : va_D A (wV cy b0 vv [])) (hS : va_S A s.heap H locs) (hl : lv_has ls 3 [(0, .ref (b0 0)), (1, .int x1), (2, .int x2)]) : W p l e { frames := 0, cells := 0, slots := 0, locals := 0 } s m args below meth c H locs 0 0 (MQ below (qI D (wV cy b0 vv []) (rr) A) args s 0 0 A) (F0 m 4 ls []) := by
  obtain ⟨hx, hb, hr, hml, hown, hts, hlk, hA, hK⟩ := id M
  unfold f_X2_allDebts_4 at h
  refine lv_iload_n hx hb dX2_allDebts_4 rfl (lv_at hl 2 rfl) ?_
  refine lv_bipush (v := 6) hx hb dX2_allDebts_5 (by decide) ?_
  refine lv_icmp_ge (tgt := 25) hx hb dX2_allDebts_7 (by decide) (fun c_1 => ?_) (fun c_1 => ?_)
  · replace h := it_p c_1 h
    refine lv_iload_n hx hb dX2_allDebts_25 rfl (lv_at hl 1 rfl) ?_
    cases h
    have hm : _ = rr := hm
    subst hm
    exact kretI hx hb hr hlk hP hS dX2_allDebts_26
  · replace h := it_n c_1 h
    refine lv_iload_n hx hb dX2_allDebts_10 rfl (lv_at hl 1 rfl) ?_
    refine lv_aload_n hx hb dX2_allDebts_11 rfl (lv_at hl 0 rfl) ?_
    refine va_get (D := D) (ci := 2) (v := .ref (b0 2)) (C := RX2) (T := TX2) (N := 11) hx hb hts iX2_allDebts_X2 hown hK.1 hP 0 rfl rfl 1 (by decide) (hts _ mX2_allDebts_1) (fun _ h9 => h9) rfl dX2_allDebts_12 ?_
    refine lv_iload_n hx hb dX2_allDebts_15 rfl (lv_at hl 2 rfl) ?_
    obtain ⟨b_2, h⟩ := ck_s h
    refine va_iald hx hb hK.1 hP 2 1 rfl rfl b_2 dX2_allDebts_16 ?_
    refine lv_iadd hx hb dX2_allDebts_17 ?_
    refine lv_topi (fun x1_3 ex1_3 => ?_)
    replace h := nm_s h ex1_3
    refine lv_istore_n (lv' := [(1, .int x1_3), (0, .ref (b0 0)), (2, .int x2)]) hx hb dX2_allDebts_18 rfl hl (by decide) rfl (fun ls hl => ?_)
    obtain ⟨x2_4, ex2_4⟩ : ∃ z : Int32, z = (x2 + (1 : Int32)) := ⟨_, rfl⟩
    replace h := nm_s h ex2_4
    refine lv_iinc (v := x2_4) (lv' := [(2, .int x2_4), (1, .int x1_3), (0, .ref (b0 0))]) hx hb dX2_allDebts_19 hl (k := 2) rfl (by rw [ex2_4]; rfl) (by decide) rfl (fun ls hl => ?_)
    refine lv_goto (tgt := 4) hx hb dX2_allDebts_22 (by decide) ?_
    cases h
    exact ih x1_3 x2_4 _ _ _ hm hP hD hS (lv_sub hl [2, 1, 0] rfl)
set_option maxHeartbeats 4000000 in
set_option maxRecDepth 100000 in
theorem w_X2_allDebts_0 {p : Program} {l : Launch} {e : Env} {s : State} {m : MethodId} {args : Array Value} {below : List Frame} {meth : Method} {c : Code} {A : Nat → Prop} {D : va_G} {cy : Nat → ClassId} {b0 : Nat → Nat} {vv : VS} {fu : Nat} {rr : Int32} (M : kM p s m args meth c cX2_allDebts 3 (some .int) RX2 wsX2_allDebts A D cy) (ih : I_X2_allDebts p l e s m args below meth c A D cy b0 vv fu rr)  {oo : (Int32 × Int32) ⊕ (Int32)} (h : f_X2_allDebts_0 vv = some oo) (hm : lpo (st_X2_allDebts vv) fu oo rr) {H : Heap} {locs : List Loc} {ls : Array Slot} (hP : va_P D vwCl (wV cy b0 vv []) H) (hD : va_D A (wV cy b0 vv [])) (hS : va_S A s.heap H locs) (hl : lv_has ls 3 [(0, .ref (b0 0))]) : W p l e { frames := 0, cells := 0, slots := 0, locals := 0 } s m args below meth c H locs 0 0 (MQ below (qI D (wV cy b0 vv []) (rr) A) args s 0 0 A) (F0 m 0 ls []) := by
  obtain ⟨hx, hb, hr, hml, hown, hts, hlk, hA, hK⟩ := id M
  unfold f_X2_allDebts_0 at h
  refine lv_iconst (v := 0) hx hb dX2_allDebts_0 (by decide) ?_
  refine lv_istore_n (lv' := [(1, .int (0 : Int32)), (0, .ref (b0 0))]) hx hb dX2_allDebts_1 rfl hl (by decide) rfl (fun ls hl => ?_)
  refine lv_iconst (v := 0) hx hb dX2_allDebts_2 (by decide) ?_
  refine lv_istore_n (lv' := [(2, .int (0 : Int32)), (1, .int (0 : Int32)), (0, .ref (b0 0))]) hx hb dX2_allDebts_3 rfl hl (by decide) rfl (fun ls hl => ?_)
  cases h
  exact ih (0 : Int32) (0 : Int32) _ _ _ hm hP hD hS (lv_sub hl [2, 1, 0] rfl)
theorem wl_X2_allDebts {p : Program} {l : Launch} {e : Env} {s : State} {m : MethodId} {args : Array Value} {below : List Frame} {meth : Method} {c : Code} {A : Nat → Prop} {D : va_G} {cy : Nat → ClassId} {b0 : Nat → Nat} {vv : VS} {rr : Int32} (M : kM p s m args meth c cX2_allDebts 3 (some .int) RX2 wsX2_allDebts A D cy) : ∀ fu : Nat, I_X2_allDebts p l e s m args below meth c A D cy b0 vv fu rr := by
  intro fu
  induction fu with
  | zero => exact (fun _ _ _ _ _ h => by cases h)
  | succ fu ih =>
    exact fun x1 x2 H locs ls h hP hD hS hl => by
      obtain ⟨o1, h1, h2⟩ := lpn_s h
      exact w_X2_allDebts_4 M ih h1 h2 hP hD hS hl
theorem c_X2_allDebts {l : Launch} {D : va_G} {cy : Nat → ClassId} (b0 : Nat → Nat) {vv : VS} {rr : Int32} (h : f_X2_allDebts vv = some rr) : CI l D cy yX2_allDebts wsX2_allDebts { frames := 0, cells := 0, slots := 0, locals := 0 } [.ref (b0 0)] (wV cy b0 vv []) (rr) (wV cy b0 vv []) := by
  refine kofI (cc := cX2_allDebts) (maxL := 3) (ret := (some .int)) (by decide) rfl (Nat.le_of_ble_eq_true rfl) ?_
  intro p e s m below meth c A M ls hl hP hD hS
  obtain ⟨o1, fu, h1, h2⟩ := rnx_s h
  exact w_X2_allDebts_0 M (wl_X2_allDebts M fu) h1 h2 hP hD hS hl
theorem eX2_allDebts : yX2_allDebts.cls ≠ "java/lang/invoke/MethodHandle" ∧ yX2_allDebts.cls ≠ "java/lang/invoke/VarHandle" ∧ (parseMethodDescriptor yX2_allDebts.desc).map (fun d => d.parameters.length) = some 0 := by decide +kernel
def I_X2_allPence (p : Program) (l : Launch) (e : Env) (s : State) (m : MethodId) (args : Array Value) (below : List Frame) (meth : Method) (c : Code) (A : Nat → Prop) (D : va_G) (cy : Nat → ClassId) (b0 : Nat → Nat) (vv : VS) (fu : Nat) (rr : Int32) : Prop := (∀ (x1 : Int32) (x2 : Int32) (H : Heap) (locs : List Loc) (ls : Array Slot), lpn (st_X2_allPence vv) fu (.inl (x1, x2)) = some rr → va_P D vwCl (wV cy b0 vv []) H → va_D A (wV cy b0 vv []) → va_S A s.heap H locs → lv_has ls 4 [(0, .ref (b0 0)), (1, .int x1), (2, .int x2)] → W p l e { frames := 2, cells := 0, slots := 0, locals := 44 } s m args below meth c H locs 0 0 (MQ below (qI D (wV cy b0 vv []) (rr) A) args s 0 0 A) (F0 m 4 ls [])) ∧ (∀ (x1 : Int32) (x2 : Int32) (x3 : Int32) (H : Heap) (locs : List Loc) (ls : Array Slot), lpn (st_X2_allPence vv) fu (.inr (x1, x2, x3)) = some rr → va_P D vwCl (wV cy b0 vv []) H → va_D A (wV cy b0 vv []) → va_S A s.heap H locs → lv_has ls 4 [(0, .ref (b0 0)), (1, .int x1), (2, .int x2), (3, .int x3)] → W p l e { frames := 2, cells := 0, slots := 0, locals := 44 } s m args below meth c H locs 0 0 (MQ below (qI D (wV cy b0 vv []) (rr) A) args s 0 0 A) (F0 m 12 ls []))
set_option maxHeartbeats 4000000 in
set_option maxRecDepth 100000 in
theorem w_X2_allPence_12 {p : Program} {l : Launch} {e : Env} {s : State} {m : MethodId} {args : Array Value} {below : List Frame} {meth : Method} {c : Code} {A : Nat → Prop} {D : va_G} {cy : Nat → ClassId} {b0 : Nat → Nat} {vv : VS} {fu : Nat} {rr : Int32} (M : kM p s m args meth c cX2_allPence 4 (some .int) RX2 wsX2_allPence A D cy) (ih : I_X2_allPence p l e s m args below meth c A D cy b0 vv fu rr) {x1 : Int32} {x2 : Int32} {x3 : Int32} {oo : ((Int32 × Int32) ⊕ (Int32 × Int32 × Int32)) ⊕ (Int32)} (h : f_X2_allPence_12 vv x1 x2 x3 = some oo) (hm : lpo (st_X2_allPence vv) fu oo rr) {H : Heap} {locs : List Loc} {ls : Array Slot} (hP : va_P D vwCl (wV cy b0 vv []) H) (hD : va_D A (wV cy b0 vv [])) (hS : va_S A s.heap H locs) (hl : lv_has ls 4 [(0, .ref (b0 0)), (1, .int x1), (2, .int x2), (3, .int x3)]) : W p l e { frames := 2, cells := 0, slots := 0, locals := 44 } s m args below meth c H locs 0 0 (MQ below (qI D (wV cy b0 vv []) (rr) A) args s 0 0 A) (F0 m 12 ls []) := by
  obtain ⟨hx, hb, hr, hml, hown, hts, hlk, hA, hK⟩ := id M
  unfold f_X2_allPence_12 at h
  refine lv_iload_n hx hb dX2_allPence_12 rfl (lv_at hl 3 rfl) ?_
  refine lv_aload_n hx hb dX2_allPence_13 rfl (lv_at hl 0 rfl) ?_
  refine lv_iload_n hx hb dX2_allPence_14 rfl (lv_at hl 2 rfl) ?_
  obtain ⟨r_1, hr_1, h⟩ := bn_s h
  refine kcVi (As := [.int x2]) (rest := [.int x3]) (ws' := (wV cy b0 vv [])) ⟨hx, hb, hml, hown, hts⟩ (cwV 1 hts gX2_allPence_X2_debtsOf rfl rfl rfl ⟨rfl, eX2_debtsOf⟩ ⟨Nat.le_of_ble_eq_true rfl, Nat.le_of_ble_eq_true rfl⟩) (c_X2_debtsOf b0 hr_1) hK hP hD hS hA [0, 1, 2, 3, 4, 5, 6, 7] [] (by decide) rfl rfl 2 rfl rfl [(b0 0), (b0 1), (b0 2), (b0 3), (b0 4), (b0 5), (b0 6), (b0 7)] rfl rfl rfl [] rfl rfl rfl rfl hl.1 rfl (Nat.le_of_ble_eq_true rfl) dX2_allPence_15 (fun H locs hP hD hS => ?_)
  refine lv_icmp_ge (tgt := 36) hx hb dX2_allPence_18 (by decide) (fun c_2 => ?_) (fun c_2 => ?_)
  · replace h := it_p c_2 h
    obtain ⟨x2_3, ex2_3⟩ : ∃ z : Int32, z = (x2 + (1 : Int32)) := ⟨_, rfl⟩
    replace h := nm_s h ex2_3
    refine lv_iinc (v := x2_3) (lv' := [(2, .int x2_3), (0, .ref (b0 0)), (1, .int x1), (3, .int x3)]) hx hb dX2_allPence_36 hl (k := 2) rfl (by rw [ex2_3]; rfl) (by decide) rfl (fun ls hl => ?_)
    refine lv_goto (tgt := 4) hx hb dX2_allPence_39 (by decide) ?_
    cases h
    exact ih.1 x1 x2_3 _ _ _ hm hP hD hS (lv_sub hl [1, 2, 0] rfl)
  · replace h := it_n c_2 h
    refine lv_iload_n hx hb dX2_allPence_21 rfl (lv_at hl 1 rfl) ?_
    refine lv_aload_n hx hb dX2_allPence_22 rfl (lv_at hl 0 rfl) ?_
    refine lv_iload_n hx hb dX2_allPence_23 rfl (lv_at hl 2 rfl) ?_
    refine lv_iload_n hx hb dX2_allPence_24 rfl (lv_at hl 3 rfl) ?_
    obtain ⟨r_4, hr_4, h⟩ := bn_s h
    refine kcVi (As := [.int x2, .int x3]) (rest := [.int x1]) (ws' := (wV cy b0 vv [])) ⟨hx, hb, hml, hown, hts⟩ (cwV 2 hts gX2_allPence_X2_penceOf rfl rfl rfl ⟨rfl, eX2_penceOf⟩ ⟨Nat.le_of_ble_eq_true rfl, Nat.le_of_ble_eq_true rfl⟩) (c_X2_penceOf b0 hr_4) hK hP hD hS hA [0, 1, 2, 3, 4, 5, 6, 7] [] (by decide) rfl rfl 2 rfl rfl [(b0 0), (b0 1), (b0 2), (b0 3), (b0 4), (b0 5), (b0 6), (b0 7)] rfl rfl rfl [] rfl rfl rfl rfl hl.1 rfl (Nat.le_of_ble_eq_true rfl) dX2_allPence_25 (fun H locs hP hD hS => ?_)
    refine lv_iadd hx hb dX2_allPence_28 ?_
    refine lv_topi (fun x1_5 ex1_5 => ?_)
    replace h := nm_s h ex1_5
    refine lv_istore_n (lv' := [(1, .int x1_5), (0, .ref (b0 0)), (2, .int x2), (3, .int x3)]) hx hb dX2_allPence_29 rfl hl (by decide) rfl (fun ls hl => ?_)
    obtain ⟨x3_6, ex3_6⟩ : ∃ z : Int32, z = (x3 + (1 : Int32)) := ⟨_, rfl⟩
    replace h := nm_s h ex3_6
    refine lv_iinc (v := x3_6) (lv' := [(3, .int x3_6), (1, .int x1_5), (0, .ref (b0 0)), (2, .int x2)]) hx hb dX2_allPence_30 hl (k := 3) rfl (by rw [ex3_6]; rfl) (by decide) rfl (fun ls hl => ?_)
    refine lv_goto (tgt := 12) hx hb dX2_allPence_33 (by decide) ?_
    cases h
    exact ih.2 x1_5 x2 x3_6 _ _ _ hm hP hD hS (lv_sub hl [2, 1, 3, 0] rfl)
set_option maxHeartbeats 4000000 in
set_option maxRecDepth 100000 in
theorem w_X2_allPence_4 {p : Program} {l : Launch} {e : Env} {s : State} {m : MethodId} {args : Array Value} {below : List Frame} {meth : Method} {c : Code} {A : Nat → Prop} {D : va_G} {cy : Nat → ClassId} {b0 : Nat → Nat} {vv : VS} {fu : Nat} {rr : Int32} (M : kM p s m args meth c cX2_allPence 4 (some .int) RX2 wsX2_allPence A D cy) (ih : I_X2_allPence p l e s m args below meth c A D cy b0 vv fu rr) {x1 : Int32} {x2 : Int32} {oo : ((Int32 × Int32) ⊕ (Int32 × Int32 × Int32)) ⊕ (Int32)} (h : f_X2_allPence_4 vv x1 x2 = some oo) (hm : lpo (st_X2_allPence vv) fu oo rr) {H : Heap} {locs : List Loc} {ls : Array Slot} (hP : va_P D vwCl (wV cy b0 vv []) H) (hD : va_D A (wV cy b0 vv [])) (hS : va_S A s.heap H locs) (hl : lv_has ls 4 [(0, .ref (b0 0)), (1, .int x1), (2, .int x2)]) : W p l e { frames := 2, cells := 0, slots := 0, locals := 44 } s m args below meth c H locs 0 0 (MQ below (qI D (wV cy b0 vv []) (rr) A) args s 0 0 A) (F0 m 4 ls []) := by
  obtain ⟨hx, hb, hr, hml, hown, hts, hlk, hA, hK⟩ := id M
  unfold f_X2_allPence_4 at h
  refine lv_iload_n hx hb dX2_allPence_4 rfl (lv_at hl 2 rfl) ?_
  refine lv_bipush (v := 6) hx hb dX2_allPence_5 (by decide) ?_
  refine lv_icmp_ge (tgt := 42) hx hb dX2_allPence_7 (by decide) (fun c_1 => ?_) (fun c_1 => ?_)
  · replace h := it_p c_1 h
    refine lv_iload_n hx hb dX2_allPence_42 rfl (lv_at hl 1 rfl) ?_
    cases h
    have hm : _ = rr := hm
    subst hm
    exact kretI hx hb hr hlk hP hS dX2_allPence_43
  · replace h := it_n c_1 h
    refine lv_iconst (v := 0) hx hb dX2_allPence_10 (by decide) ?_
    refine lv_istore_n (lv' := [(3, .int (0 : Int32)), (0, .ref (b0 0)), (1, .int x1), (2, .int x2)]) hx hb dX2_allPence_11 rfl hl (by decide) rfl (fun ls hl => ?_)
    cases h
    exact ih.2 x1 x2 (0 : Int32) _ _ _ hm hP hD hS (lv_sub hl [1, 2, 3, 0] rfl)
set_option maxHeartbeats 4000000 in
set_option maxRecDepth 100000 in
theorem w_X2_allPence_0 {p : Program} {l : Launch} {e : Env} {s : State} {m : MethodId} {args : Array Value} {below : List Frame} {meth : Method} {c : Code} {A : Nat → Prop} {D : va_G} {cy : Nat → ClassId} {b0 : Nat → Nat} {vv : VS} {fu : Nat} {rr : Int32} (M : kM p s m args meth c cX2_allPence 4 (some .int) RX2 wsX2_allPence A D cy) (ih : I_X2_allPence p l e s m args below meth c A D cy b0 vv fu rr)  {oo : ((Int32 × Int32) ⊕ (Int32 × Int32 × Int32)) ⊕ (Int32)} (h : f_X2_allPence_0 vv = some oo) (hm : lpo (st_X2_allPence vv) fu oo rr) {H : Heap} {locs : List Loc} {ls : Array Slot} (hP : va_P D vwCl (wV cy b0 vv []) H) (hD : va_D A (wV cy b0 vv [])) (hS : va_S A s.heap H locs) (hl : lv_has ls 4 [(0, .ref (b0 0))]) : W p l e { frames := 2, cells := 0, slots := 0, locals := 44 } s m args below meth c H locs 0 0 (MQ below (qI D (wV cy b0 vv []) (rr) A) args s 0 0 A) (F0 m 0 ls []) := by
  obtain ⟨hx, hb, hr, hml, hown, hts, hlk, hA, hK⟩ := id M
  unfold f_X2_allPence_0 at h
  refine lv_iconst (v := 0) hx hb dX2_allPence_0 (by decide) ?_
  refine lv_istore_n (lv' := [(1, .int (0 : Int32)), (0, .ref (b0 0))]) hx hb dX2_allPence_1 rfl hl (by decide) rfl (fun ls hl => ?_)
  refine lv_iconst (v := 0) hx hb dX2_allPence_2 (by decide) ?_
  refine lv_istore_n (lv' := [(2, .int (0 : Int32)), (1, .int (0 : Int32)), (0, .ref (b0 0))]) hx hb dX2_allPence_3 rfl hl (by decide) rfl (fun ls hl => ?_)
  cases h
  exact ih.1 (0 : Int32) (0 : Int32) _ _ _ hm hP hD hS (lv_sub hl [2, 1, 0] rfl)
theorem wl_X2_allPence {p : Program} {l : Launch} {e : Env} {s : State} {m : MethodId} {args : Array Value} {below : List Frame} {meth : Method} {c : Code} {A : Nat → Prop} {D : va_G} {cy : Nat → ClassId} {b0 : Nat → Nat} {vv : VS} {rr : Int32} (M : kM p s m args meth c cX2_allPence 4 (some .int) RX2 wsX2_allPence A D cy) : ∀ fu : Nat, I_X2_allPence p l e s m args below meth c A D cy b0 vv fu rr := by
  intro fu
  induction fu with
  | zero => exact ⟨(fun _ _ _ _ _ h => by cases h), (fun _ _ _ _ _ _ h => by cases h)⟩
  | succ fu ih =>
    refine ⟨?_, ?_⟩
    · intro x1 x2 H locs ls h hP hD hS hl
      obtain ⟨o1, h1, h2⟩ := lpn_s h
      exact w_X2_allPence_4 M ih h1 h2 hP hD hS hl
    · intro x1 x2 x3 H locs ls h hP hD hS hl
      obtain ⟨o1, h1, h2⟩ := lpn_s h
      exact w_X2_allPence_12 M ih h1 h2 hP hD hS hl
theorem c_X2_allPence {l : Launch} {D : va_G} {cy : Nat → ClassId} (b0 : Nat → Nat) {vv : VS} {rr : Int32} (h : f_X2_allPence vv = some rr) : CI l D cy yX2_allPence wsX2_allPence { frames := 2, cells := 0, slots := 0, locals := 44 } [.ref (b0 0)] (wV cy b0 vv []) (rr) (wV cy b0 vv []) := by
  refine kofI (cc := cX2_allPence) (maxL := 4) (ret := (some .int)) (by decide) rfl (Nat.le_of_ble_eq_true rfl) ?_
  intro p e s m below meth c A M ls hl hP hD hS
  obtain ⟨o1, fu, h1, h2⟩ := rnx_s h
  exact w_X2_allPence_0 M (wl_X2_allPence M fu) h1 h2 hP hD hS hl
theorem eX2_allPence : yX2_allPence.cls ≠ "java/lang/invoke/MethodHandle" ∧ yX2_allPence.cls ≠ "java/lang/invoke/VarHandle" ∧ (parseMethodDescriptor yX2_allPence.desc).map (fun d => d.parameters.length) = some 0 := by decide +kernel
theorem iX2_changeLender_X2 : ∀ w ∈ u_ws RX2 TX2 11, w ∈ wsX2_changeLender := by decide +kernel
theorem mX2_changeLender_1 : Cond.fieldLink RX2 24 "LentPiles$Valley" "lender" "[I" ∈ wsX2_changeLender := by decide +kernel
set_option maxHeartbeats 4000000 in
set_option maxRecDepth 100000 in
theorem w_X2_changeLender_0 {p : Program} {l : Launch} {e : Env} {s : State} {m : MethodId} {args : Array Value} {below : List Frame} {meth : Method} {c : Code} {A : Nat → Prop} {D : va_G} {cy : Nat → ClassId} {b0 : Nat → Nat} {x1 : Int32} {x2 : Int32} {x3 : Int32} {rr : VS} (M : kM p s m args meth c cX2_changeLender 4 none RX2 wsX2_changeLender A D cy) {vv : VS} (h : f_X2_changeLender vv x1 x2 x3 = some rr) {H : Heap} {locs : List Loc} {ls : Array Slot} (hP : va_P D vwCl (wV cy b0 vv []) H) (hD : va_D A (wV cy b0 vv [])) (hS : va_S A s.heap H locs) (hl : lv_has ls 4 [(0, .ref (b0 0)), (1, .int x1), (2, .int x2), (3, .int x3)]) : W p l e { frames := 1, cells := 0, slots := 0, locals := 22 } s m args below meth c H locs 0 0 (MQ below (qV D (wV cy b0 rr []) A) args s 0 0 A) (F0 m 0 ls []) := by
  obtain ⟨hx, hb, hr, hml, hown, hts, hlk, hA, hK⟩ := id M
  unfold f_X2_changeLender at h
  refine lv_aload_n hx hb dX2_changeLender_0 rfl (lv_at hl 0 rfl) ?_
  refine lv_iload_n hx hb dX2_changeLender_1 rfl (lv_at hl 1 rfl) ?_
  refine lv_iload_n hx hb dX2_changeLender_2 rfl (lv_at hl 2 rfl) ?_
  obtain ⟨r_1, hr_1, h⟩ := bn_s h
  refine kcVi (As := [.int x1, .int x2]) (rest := []) (ws' := (wV cy b0 vv [])) ⟨hx, hb, hml, hown, hts⟩ (cwV 2 hts gX2_changeLender_X2_hasDebt rfl rfl rfl ⟨rfl, eX2_hasDebt⟩ ⟨Nat.le_of_ble_eq_true rfl, Nat.le_of_ble_eq_true rfl⟩) (c_X2_hasDebt b0 hr_1) hK hP hD hS hA [0, 1, 2, 3, 4, 5, 6, 7] [] (by decide) rfl rfl 2 rfl rfl [(b0 0), (b0 1), (b0 2), (b0 3), (b0 4), (b0 5), (b0 6), (b0 7)] rfl rfl rfl [] rfl rfl rfl rfl hl.1 rfl (Nat.le_of_ble_eq_true rfl) dX2_changeLender_3 (fun H locs hP hD hS => ?_)
  refine lv_if_eq (tgt := 20) hx hb dX2_changeLender_6 (by decide) (fun c_2 => ?_) (fun c_2 => ?_)
  · replace h := it_p c_2 h
    cases h
    exact kretV hx hb hr hlk hP hS dX2_changeLender_20
  · replace h := it_n c_2 h
    refine lv_aload_n hx hb dX2_changeLender_9 rfl (lv_at hl 0 rfl) ?_
    refine va_get (D := D) (ci := 2) (v := .ref (b0 3)) (C := RX2) (T := TX2) (N := 11) hx hb hts iX2_changeLender_X2 hown hK.1 hP 0 rfl rfl 2 (by decide) (hts _ mX2_changeLender_1) (fun _ h9 => h9) rfl dX2_changeLender_10 ?_
    refine lv_iload_n hx hb dX2_changeLender_13 rfl (lv_at hl 1 rfl) ?_
    refine lv_iconst (v := 5) hx hb dX2_changeLender_14 (by decide) ?_
    refine lv_imul hx hb dX2_changeLender_15 ?_
    refine lv_iload_n hx hb dX2_changeLender_16 rfl (lv_at hl 2 rfl) ?_
    refine lv_iadd hx hb dX2_changeLender_17 ?_
    refine lv_iload_n hx hb dX2_changeLender_18 rfl (lv_at hl 3 rfl) ?_
    obtain ⟨b_3, h⟩ := ck_s h
    refine va_iast hx hb hK.1 hP hD hS 3 1 rfl rfl b_3 dX2_changeLender_19 (fun H locs hP hD hS => ?_)
    obtain ⟨vv_4, evv_4⟩ : ∃ z : VS, z = (vv.1, vv.2.1, (upd vv.2.2.1 ((x1 * (5 : Int32)) + x2).toNatClampNeg x3), vv.2.2.2) := ⟨_, rfl⟩
    replace h := nm_s h evv_4
    have hP : va_P D vwCl (wV cy b0 vv_4 []) H := by subst evv_4; exact hP
    have hD : va_D A (wV cy b0 vv_4 []) := hD.lk [(b0 0), (b0 1), (b0 2), (b0 3), (b0 4), (b0 5), (b0 6), (b0 7)] rfl rfl
    cases h
    exact kretV hx hb hr hlk hP hS dX2_changeLender_20
theorem c_X2_changeLender {l : Launch} {D : va_G} {cy : Nat → ClassId} (b0 : Nat → Nat) {vv : VS} {x1 : Int32} {x2 : Int32} {x3 : Int32} {rr : VS} (h : f_X2_changeLender vv x1 x2 x3 = some rr) : CV l D cy yX2_changeLender wsX2_changeLender { frames := 1, cells := 0, slots := 0, locals := 22 } [.ref (b0 0), .int x1, .int x2, .int x3] (wV cy b0 vv []) (wV cy b0 rr []) := by
  refine kofV (cc := cX2_changeLender) (maxL := 4) (ret := none) (by decide) rfl (Nat.le_of_ble_eq_true rfl) ?_
  intro p e s m below meth c A M ls hl hP hD hS
  exact w_X2_changeLender_0 M h hP hD hS hl
theorem eX2_changeLender : yX2_changeLender.cls ≠ "java/lang/invoke/MethodHandle" ∧ yX2_changeLender.cls ≠ "java/lang/invoke/VarHandle" ∧ (parseMethodDescriptor yX2_changeLender.desc).map (fun d => d.parameters.length) = some 3 := by decide +kernel
theorem iX2_dayOf_X2 : ∀ w ∈ u_ws RX2 TX2 11, w ∈ wsX2_dayOf := by decide +kernel
theorem mX2_dayOf_1 : Cond.fieldLink RX2 30 "LentPiles$Valley" "made" "[I" ∈ wsX2_dayOf := by decide +kernel
set_option maxHeartbeats 4000000 in
set_option maxRecDepth 100000 in
theorem w_X2_dayOf_0 {p : Program} {l : Launch} {e : Env} {s : State} {m : MethodId} {args : Array Value} {below : List Frame} {meth : Method} {c : Code} {A : Nat → Prop} {D : va_G} {cy : Nat → ClassId} {b0 : Nat → Nat} {vv : VS} {x1 : Int32} {x2 : Int32} {rr : Int32} (M : kM p s m args meth c cX2_dayOf 3 (some .int) RX2 wsX2_dayOf A D cy)  (h : f_X2_dayOf vv x1 x2 = some rr) {H : Heap} {locs : List Loc} {ls : Array Slot} (hP : va_P D vwCl (wV cy b0 vv []) H) (hD : va_D A (wV cy b0 vv [])) (hS : va_S A s.heap H locs) (hl : lv_has ls 3 [(0, .ref (b0 0)), (1, .int x1), (2, .int x2)]) : W p l e { frames := 1, cells := 0, slots := 0, locals := 22 } s m args below meth c H locs 0 0 (MQ below (qI D (wV cy b0 vv []) (rr) A) args s 0 0 A) (F0 m 0 ls []) := by
  obtain ⟨hx, hb, hr, hml, hown, hts, hlk, hA, hK⟩ := id M
  unfold f_X2_dayOf at h
  refine lv_aload_n hx hb dX2_dayOf_0 rfl (lv_at hl 0 rfl) ?_
  refine lv_iload_n hx hb dX2_dayOf_1 rfl (lv_at hl 1 rfl) ?_
  refine lv_iload_n hx hb dX2_dayOf_2 rfl (lv_at hl 2 rfl) ?_
  obtain ⟨r_1, hr_1, h⟩ := bn_s h
  refine kcVi (As := [.int x1, .int x2]) (rest := []) (ws' := (wV cy b0 vv [])) ⟨hx, hb, hml, hown, hts⟩ (cwV 2 hts gX2_dayOf_X2_hasDebt rfl rfl rfl ⟨rfl, eX2_hasDebt⟩ ⟨Nat.le_of_ble_eq_true rfl, Nat.le_of_ble_eq_true rfl⟩) (c_X2_hasDebt b0 hr_1) hK hP hD hS hA [0, 1, 2, 3, 4, 5, 6, 7] [] (by decide) rfl rfl 2 rfl rfl [(b0 0), (b0 1), (b0 2), (b0 3), (b0 4), (b0 5), (b0 6), (b0 7)] rfl rfl rfl [] rfl rfl rfl rfl hl.1 rfl (Nat.le_of_ble_eq_true rfl) dX2_dayOf_3 (fun H locs hP hD hS => ?_)
  refine lv_if_eq (tgt := 22) hx hb dX2_dayOf_6 (by decide) (fun c_2 => ?_) (fun c_2 => ?_)
  · replace h := it_p c_2 h
    refine lv_iconst (v := 0) hx hb dX2_dayOf_22 (by decide) ?_
    cases h
    exact kretI hx hb hr hlk hP hS dX2_dayOf_23
  · replace h := it_n c_2 h
    refine lv_aload_n hx hb dX2_dayOf_9 rfl (lv_at hl 0 rfl) ?_
    refine va_get (D := D) (ci := 2) (v := .ref (b0 5)) (C := RX2) (T := TX2) (N := 11) hx hb hts iX2_dayOf_X2 hown hK.1 hP 0 rfl rfl 4 (by decide) (hts _ mX2_dayOf_1) (fun _ h9 => h9) rfl dX2_dayOf_10 ?_
    refine lv_iload_n hx hb dX2_dayOf_13 rfl (lv_at hl 1 rfl) ?_
    refine lv_iconst (v := 5) hx hb dX2_dayOf_14 (by decide) ?_
    refine lv_imul hx hb dX2_dayOf_15 ?_
    refine lv_iload_n hx hb dX2_dayOf_16 rfl (lv_at hl 2 rfl) ?_
    refine lv_iadd hx hb dX2_dayOf_17 ?_
    obtain ⟨b_3, h⟩ := ck_s h
    refine va_iald hx hb hK.1 hP 5 1 rfl rfl b_3 dX2_dayOf_18 ?_
    refine lv_goto (tgt := 23) hx hb dX2_dayOf_19 (by decide) ?_
    cases h
    exact kretI hx hb hr hlk hP hS dX2_dayOf_23
theorem c_X2_dayOf {l : Launch} {D : va_G} {cy : Nat → ClassId} (b0 : Nat → Nat) {vv : VS} {x1 : Int32} {x2 : Int32} {rr : Int32} (h : f_X2_dayOf vv x1 x2 = some rr) : CI l D cy yX2_dayOf wsX2_dayOf { frames := 1, cells := 0, slots := 0, locals := 22 } [.ref (b0 0), .int x1, .int x2] (wV cy b0 vv []) (rr) (wV cy b0 vv []) := by
  refine kofI (cc := cX2_dayOf) (maxL := 3) (ret := (some .int)) (by decide) rfl (Nat.le_of_ble_eq_true rfl) ?_
  intro p e s m below meth c A M ls hl hP hD hS
  exact w_X2_dayOf_0 M h hP hD hS hl
theorem eX2_dayOf : yX2_dayOf.cls ≠ "java/lang/invoke/MethodHandle" ∧ yX2_dayOf.cls ≠ "java/lang/invoke/VarHandle" ∧ (parseMethodDescriptor yX2_dayOf.desc).map (fun d => d.parameters.length) = some 2 := by decide +kernel
