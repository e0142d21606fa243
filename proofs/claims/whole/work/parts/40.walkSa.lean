/-! printed by wip/gen/gen.py: the walks -/
theorem mJ6_numberOfTrailingZeros_0f7a4_1 : Cond.constant RJ6 264 (65536) ∈ wsJ6_numberOfTrailingZeros_0f7a4 := by decide +kernel
set_option maxHeartbeats 4000000 in
set_option maxRecDepth 100000 in
theorem w_J6_numberOfTrailingZeros_0f7a4_62 {p : Program} {l : Launch} {e : Env} {s : State} {m : MethodId} {args : Array Value} {below : List Frame} {meth : Method} {c : Code} {A : Nat → Prop} {D : va_G} {cy : Nat → ClassId}  {rr : Int32} (M : kM p s m args meth c cJ6_numberOfTrailingZeros_0f7a4 2 (some .int) RJ6 wsJ6_numberOfTrailingZeros_0f7a4 A D cy) {x0 : Int32} {x1 : Int32} (h : f_J6_numberOfTrailingZeros_0f7a4_62 x0 x1 = some rr) {H : Heap} {locs : List Loc} {ls : Array Slot} (hP : va_P D vwCl [] H) (hD : va_D A []) (hS : va_S A s.heap H locs) (hl : lv_has ls 2 [(0, .int x0), (1, .int x1)]) : W p l e { frames := 0, cells := 0, slots := 0, locals := 0 } s m args below meth c H locs 0 0 (MQ below (qI D [] (rr) A) args s 0 0 A) (F0 m 62 ls []) := by
  obtain ⟨hx, hb, hr, hml, hown, hts, hlk, hA, hK⟩ := id M
  unfold f_J6_numberOfTrailingZeros_0f7a4_62 at h
  refine lv_iload_n hx hb dJ6_numberOfTrailingZeros_0f7a4_62 rfl (lv_at hl 0 rfl) ?_
  refine lv_iconst (v := 4) hx hb dJ6_numberOfTrailingZeros_0f7a4_63 (by decide) ?_
  refine lv_icmp_le (tgt := 74) hx hb dJ6_numberOfTrailingZeros_0f7a4_64 (by decide) (fun c_1 => ?_) (fun c_1 => ?_)
  · replace h := it_p c_1 h
    refine lv_iload_n hx hb dJ6_numberOfTrailingZeros_0f7a4_74 rfl (lv_at hl 1 rfl) ?_
    refine lv_iload_n hx hb dJ6_numberOfTrailingZeros_0f7a4_75 rfl (lv_at hl 0 rfl) ?_
    refine lv_iconst (v := 1) hx hb dJ6_numberOfTrailingZeros_0f7a4_76 (by decide) ?_
    refine lv_iushr hx hb dJ6_numberOfTrailingZeros_0f7a4_77 rfl ?_
    refine lv_iadd hx hb dJ6_numberOfTrailingZeros_0f7a4_78 ?_
    cases h
    exact kretI hx hb hr hlk hP hS dJ6_numberOfTrailingZeros_0f7a4_79
  · replace h := it_n c_1 h
    obtain ⟨x1_2, ex1_2⟩ : ∃ z : Int32, z = (x1 + (2 : Int32)) := ⟨_, rfl⟩
    replace h := nm_s h ex1_2
    refine lv_iinc (v := x1_2) (lv' := [(1, .int x1_2), (0, .int x0)]) hx hb dJ6_numberOfTrailingZeros_0f7a4_67 hl (k := 1) rfl (by rw [ex1_2]; rfl) (by decide) rfl (fun ls hl => ?_)
    refine lv_iload_n hx hb dJ6_numberOfTrailingZeros_0f7a4_70 rfl (lv_at hl 1 rfl) ?_
    refine lv_iconst (v := 2) hx hb dJ6_numberOfTrailingZeros_0f7a4_71 (by decide) ?_
    refine lv_iushr hx hb dJ6_numberOfTrailingZeros_0f7a4_72 rfl ?_
    refine lv_topi (fun x0_3 ex0_3 => ?_)
    replace h := nm_s h ex0_3
    refine lv_istore_n (lv' := [(0, .int x0_3), (1, .int x1_2)]) hx hb dJ6_numberOfTrailingZeros_0f7a4_73 rfl hl (by decide) rfl (fun ls hl => ?_)
    refine lv_iload_n hx hb dJ6_numberOfTrailingZeros_0f7a4_74 rfl (lv_at hl 1 rfl) ?_
    refine lv_iload_n hx hb dJ6_numberOfTrailingZeros_0f7a4_75 rfl (lv_at hl 0 rfl) ?_
    refine lv_iconst (v := 1) hx hb dJ6_numberOfTrailingZeros_0f7a4_76 (by decide) ?_
    refine lv_iushr hx hb dJ6_numberOfTrailingZeros_0f7a4_77 rfl ?_
    refine lv_iadd hx hb dJ6_numberOfTrailingZeros_0f7a4_78 ?_
    cases h
    exact kretI hx hb hr hlk hP hS dJ6_numberOfTrailingZeros_0f7a4_79
set_option maxHeartbeats 4000000 in
set_option maxRecDepth 100000 in
theorem w_J6_numberOfTrailingZeros_0f7a4_49 {p : Program} {l : Launch} {e : Env} {s : State} {m : MethodId} {args : Array Value} {below : List Frame} {meth : Method} {c : Code} {A : Nat → Prop} {D : va_G} {cy : Nat → ClassId}  {rr : Int32} (M : kM p s m args meth c cJ6_numberOfTrailingZeros_0f7a4 2 (some .int) RJ6 wsJ6_numberOfTrailingZeros_0f7a4 A D cy) {x0 : Int32} {x1 : Int32} (h : f_J6_numberOfTrailingZeros_0f7a4_49 x0 x1 = some rr) {H : Heap} {locs : List Loc} {ls : Array Slot} (hP : va_P D vwCl [] H) (hD : va_D A []) (hS : va_S A s.heap H locs) (hl : lv_has ls 2 [(0, .int x0), (1, .int x1)]) : W p l e { frames := 0, cells := 0, slots := 0, locals := 0 } s m args below meth c H locs 0 0 (MQ below (qI D [] (rr) A) args s 0 0 A) (F0 m 49 ls []) := by
  obtain ⟨hx, hb, hr, hml, hown, hts, hlk, hA, hK⟩ := id M
  unfold f_J6_numberOfTrailingZeros_0f7a4_49 at h
  refine lv_iload_n hx hb dJ6_numberOfTrailingZeros_0f7a4_49 rfl (lv_at hl 0 rfl) ?_
  refine lv_bipush (v := 16) hx hb dJ6_numberOfTrailingZeros_0f7a4_50 (by decide) ?_
  refine lv_icmp_le (tgt := 62) hx hb dJ6_numberOfTrailingZeros_0f7a4_52 (by decide) (fun c_1 => ?_) (fun c_1 => ?_)
  · replace h := it_p c_1 h
    exact w_J6_numberOfTrailingZeros_0f7a4_62 M h hP hD hS hl
  · replace h := it_n c_1 h
    obtain ⟨x1_2, ex1_2⟩ : ∃ z : Int32, z = (x1 + (4 : Int32)) := ⟨_, rfl⟩
    replace h := nm_s h ex1_2
    refine lv_iinc (v := x1_2) (lv' := [(1, .int x1_2), (0, .int x0)]) hx hb dJ6_numberOfTrailingZeros_0f7a4_55 hl (k := 1) rfl (by rw [ex1_2]; rfl) (by decide) rfl (fun ls hl => ?_)
    refine lv_iload_n hx hb dJ6_numberOfTrailingZeros_0f7a4_58 rfl (lv_at hl 1 rfl) ?_
    refine lv_iconst (v := 4) hx hb dJ6_numberOfTrailingZeros_0f7a4_59 (by decide) ?_
    refine lv_iushr hx hb dJ6_numberOfTrailingZeros_0f7a4_60 rfl ?_
    refine lv_topi (fun x0_3 ex0_3 => ?_)
    replace h := nm_s h ex0_3
    refine lv_istore_n (lv' := [(0, .int x0_3), (1, .int x1_2)]) hx hb dJ6_numberOfTrailingZeros_0f7a4_61 rfl hl (by decide) rfl (fun ls hl => ?_)
    exact w_J6_numberOfTrailingZeros_0f7a4_62 M h hP hD hS hl
set_option maxHeartbeats 4000000 in
set_option maxRecDepth 100000 in
theorem w_J6_numberOfTrailingZeros_0f7a4_34 {p : Program} {l : Launch} {e : Env} {s : State} {m : MethodId} {args : Array Value} {below : List Frame} {meth : Method} {c : Code} {A : Nat → Prop} {D : va_G} {cy : Nat → ClassId}  {rr : Int32} (M : kM p s m args meth c cJ6_numberOfTrailingZeros_0f7a4 2 (some .int) RJ6 wsJ6_numberOfTrailingZeros_0f7a4 A D cy) {x0 : Int32} {x1 : Int32} (h : f_J6_numberOfTrailingZeros_0f7a4_34 x0 x1 = some rr) {H : Heap} {locs : List Loc} {ls : Array Slot} (hP : va_P D vwCl [] H) (hD : va_D A []) (hS : va_S A s.heap H locs) (hl : lv_has ls 2 [(0, .int x0), (1, .int x1)]) : W p l e { frames := 0, cells := 0, slots := 0, locals := 0 } s m args below meth c H locs 0 0 (MQ below (qI D [] (rr) A) args s 0 0 A) (F0 m 34 ls []) := by
  obtain ⟨hx, hb, hr, hml, hown, hts, hlk, hA, hK⟩ := id M
  unfold f_J6_numberOfTrailingZeros_0f7a4_34 at h
  refine lv_iload_n hx hb dJ6_numberOfTrailingZeros_0f7a4_34 rfl (lv_at hl 0 rfl) ?_
  refine lv_sipush (v := 256) hx hb dJ6_numberOfTrailingZeros_0f7a4_35 (by decide) ?_
  refine lv_icmp_le (tgt := 49) hx hb dJ6_numberOfTrailingZeros_0f7a4_38 (by decide) (fun c_1 => ?_) (fun c_1 => ?_)
  · replace h := it_p c_1 h
    exact w_J6_numberOfTrailingZeros_0f7a4_49 M h hP hD hS hl
  · replace h := it_n c_1 h
    obtain ⟨x1_2, ex1_2⟩ : ∃ z : Int32, z = (x1 + (8 : Int32)) := ⟨_, rfl⟩
    replace h := nm_s h ex1_2
    refine lv_iinc (v := x1_2) (lv' := [(1, .int x1_2), (0, .int x0)]) hx hb dJ6_numberOfTrailingZeros_0f7a4_41 hl (k := 1) rfl (by rw [ex1_2]; rfl) (by decide) rfl (fun ls hl => ?_)
    refine lv_iload_n hx hb dJ6_numberOfTrailingZeros_0f7a4_44 rfl (lv_at hl 1 rfl) ?_
    refine lv_bipush (v := 8) hx hb dJ6_numberOfTrailingZeros_0f7a4_45 (by decide) ?_
    refine lv_iushr hx hb dJ6_numberOfTrailingZeros_0f7a4_47 rfl ?_
    refine lv_topi (fun x0_3 ex0_3 => ?_)
    replace h := nm_s h ex0_3
    refine lv_istore_n (lv' := [(0, .int x0_3), (1, .int x1_2)]) hx hb dJ6_numberOfTrailingZeros_0f7a4_48 rfl hl (by decide) rfl (fun ls hl => ?_)
    exact w_J6_numberOfTrailingZeros_0f7a4_49 M h hP hD hS hl
set_option maxHeartbeats 4000000 in
set_option maxRecDepth 100000 in
theorem w_J6_numberOfTrailingZeros_0f7a4_0 {p : Program} {l : Launch} {e : Env} {s : State} {m : MethodId} {args : Array Value} {below : List Frame} {meth : Method} {c : Code} {A : Nat → Prop} {D : va_G} {cy : Nat → ClassId}  {rr : Int32} (M : kM p s m args meth c cJ6_numberOfTrailingZeros_0f7a4 2 (some .int) RJ6 wsJ6_numberOfTrailingZeros_0f7a4 A D cy) {x0 : Int32} (h : f_J6_numberOfTrailingZeros_0f7a4 x0 = some rr) {H : Heap} {locs : List Loc} {ls : Array Slot} (hP : va_P D vwCl [] H) (hD : va_D A []) (hS : va_S A s.heap H locs) (hl : lv_has ls 2 [(0, .int x0)]) : W p l e { frames := 0, cells := 0, slots := 0, locals := 0 } s m args below meth c H locs 0 0 (MQ below (qI D [] (rr) A) args s 0 0 A) (F0 m 0 ls []) := by
  obtain ⟨hx, hb, hr, hml, hown, hts, hlk, hA, hK⟩ := id M
  unfold f_J6_numberOfTrailingZeros_0f7a4 at h
  refine lv_iload_n hx hb dJ6_numberOfTrailingZeros_0f7a4_0 rfl (lv_at hl 0 rfl) ?_
  refine lv_iconst (v := (-1)) hx hb dJ6_numberOfTrailingZeros_0f7a4_1 (by decide) ?_
  refine lv_ixor hx hb dJ6_numberOfTrailingZeros_0f7a4_2 ?_
  refine lv_iload_n hx hb dJ6_numberOfTrailingZeros_0f7a4_3 rfl (lv_at hl 0 rfl) ?_
  refine lv_iconst (v := 1) hx hb dJ6_numberOfTrailingZeros_0f7a4_4 (by decide) ?_
  refine lv_isub hx hb dJ6_numberOfTrailingZeros_0f7a4_5 ?_
  refine lv_iand hx hb dJ6_numberOfTrailingZeros_0f7a4_6 ?_
  refine lv_topi (fun x0_1 ex0_1 => ?_)
  replace h := nm_s h ex0_1
  refine lv_istore_n (lv' := [(0, .int x0_1)]) hx hb dJ6_numberOfTrailingZeros_0f7a4_7 rfl hl (by decide) rfl (fun ls hl => ?_)
  refine lv_iload_n hx hb dJ6_numberOfTrailingZeros_0f7a4_8 rfl (lv_at hl 0 rfl) ?_
  refine lv_if_gt (tgt := 17) hx hb dJ6_numberOfTrailingZeros_0f7a4_9 (by decide) (fun c_2 => ?_) (fun c_2 => ?_)
  · replace h := it_p c_2 h
    refine lv_iconst (v := 1) hx hb dJ6_numberOfTrailingZeros_0f7a4_17 (by decide) ?_
    refine lv_istore_n (lv' := [(1, .int (1 : Int32)), (0, .int x0_1)]) hx hb dJ6_numberOfTrailingZeros_0f7a4_18 rfl hl (by decide) rfl (fun ls hl => ?_)
    refine lv_iload_n hx hb dJ6_numberOfTrailingZeros_0f7a4_19 rfl (lv_at hl 1 rfl) ?_
    refine lv_ldcw (v := 65536) hx hb hown (hts _ mJ6_numberOfTrailingZeros_0f7a4_1) dJ6_numberOfTrailingZeros_0f7a4_20 ?_
    refine lv_icmp_le (tgt := 34) hx hb dJ6_numberOfTrailingZeros_0f7a4_23 (by decide) (fun c_3 => ?_) (fun c_3 => ?_)
    · replace h := it_p c_3 h
      exact w_J6_numberOfTrailingZeros_0f7a4_34 M h hP hD hS (lv_sub hl [1, 0] rfl)
    · replace h := it_n c_3 h
      obtain ⟨x1_4, ex1_4⟩ : ∃ z : Int32, z = ((1 : Int32) + (16 : Int32)) := ⟨_, rfl⟩
      replace h := nm_s h ex1_4
      refine lv_iinc (v := x1_4) (lv' := [(1, .int x1_4), (0, .int x0_1)]) hx hb dJ6_numberOfTrailingZeros_0f7a4_26 hl (k := 0) rfl (by rw [ex1_4]; rfl) (by decide) rfl (fun ls hl => ?_)
      refine lv_iload_n hx hb dJ6_numberOfTrailingZeros_0f7a4_29 rfl (lv_at hl 1 rfl) ?_
      refine lv_bipush (v := 16) hx hb dJ6_numberOfTrailingZeros_0f7a4_30 (by decide) ?_
      refine lv_iushr hx hb dJ6_numberOfTrailingZeros_0f7a4_32 rfl ?_
      refine lv_topi (fun x0_5 ex0_5 => ?_)
      replace h := nm_s h ex0_5
      refine lv_istore_n (lv' := [(0, .int x0_5), (1, .int x1_4)]) hx hb dJ6_numberOfTrailingZeros_0f7a4_33 rfl hl (by decide) rfl (fun ls hl => ?_)
      exact w_J6_numberOfTrailingZeros_0f7a4_34 M h hP hD hS hl
  · replace h := it_n c_2 h
    refine lv_iload_n hx hb dJ6_numberOfTrailingZeros_0f7a4_12 rfl (lv_at hl 0 rfl) ?_
    refine lv_bipush (v := 32) hx hb dJ6_numberOfTrailingZeros_0f7a4_13 (by decide) ?_
    refine lv_iand hx hb dJ6_numberOfTrailingZeros_0f7a4_15 ?_
    cases h
    exact kretI hx hb hr hlk hP hS dJ6_numberOfTrailingZeros_0f7a4_16
theorem c_J6_numberOfTrailingZeros_0f7a4 {l : Launch} {D : va_G} {cy : Nat → ClassId}  {x0 : Int32} {rr : Int32} (h : f_J6_numberOfTrailingZeros_0f7a4 x0 = some rr) : CI l D cy yJ6_numberOfTrailingZeros_0f7a4 wsJ6_numberOfTrailingZeros_0f7a4 { frames := 0, cells := 0, slots := 0, locals := 0 } [.int x0] [] (rr) [] := by
  refine kofI (cc := cJ6_numberOfTrailingZeros_0f7a4) (maxL := 2) (ret := (some .int)) (by decide) rfl (Nat.le_of_ble_eq_true rfl) ?_
  intro p e s m below meth c A M ls hl hP hD hS
  exact w_J6_numberOfTrailingZeros_0f7a4_0 M h hP hD hS hl
theorem eJ6_numberOfTrailingZeros_0f7a4 : yJ6_numberOfTrailingZeros_0f7a4.cls ≠ "java/lang/invoke/MethodHandle" ∧ yJ6_numberOfTrailingZeros_0f7a4.cls ≠ "java/lang/invoke/VarHandle" ∧ (parseMethodDescriptor yJ6_numberOfTrailingZeros_0f7a4.desc).map (fun d => d.parameters.length) = some 1 := by decide +kernel
set_option maxHeartbeats 4000000 in
set_option maxRecDepth 100000 in
theorem w_J13_numberOfTrailingZeros_95d88_0 {p : Program} {l : Launch} {e : Env} {s : State} {m : MethodId} {args : Array Value} {below : List Frame} {meth : Method} {c : Code} {A : Nat → Prop} {D : va_G} {cy : Nat → ClassId} {x0 : Int64} {rr : Int32} (M : kM p s m args meth c cJ13_numberOfTrailingZeros_95d88 3 (some .int) RJ13 wsJ13_numberOfTrailingZeros_95d88 A D cy)  (h : f_J13_numberOfTrailingZeros_95d88 x0 = some rr) {H : Heap} {locs : List Loc} {ls : Array Slot} (hP : va_P D vwCl [] H) (hD : va_D A []) (hS : va_S A s.heap H locs) (hl : lv_has ls 3 [(0, .long x0)]) : W p l e { frames := 1, cells := 0, slots := 0, locals := 21 } s m args below meth c H locs 0 0 (MQ below (qI D [] (rr) A) args s 0 0 A) (F0 m 0 ls []) := by
  obtain ⟨hx, hb, hr, hml, hown, hts, hlk, hA, hK⟩ := id M
  unfold f_J13_numberOfTrailingZeros_95d88 at h
  refine lv_lload_n hx hb dJ13_numberOfTrailingZeros_95d88_0 rfl (lv_at hl 0 rfl) ?_
  refine lv_l2i hx hb dJ13_numberOfTrailingZeros_95d88_1 rfl ?_
  refine lv_topi (fun x2_1 ex2_1 => ?_)
  replace h := nm_s h ex2_1
  refine lv_istore_n (lv' := [(2, .int x2_1), (0, .long x0)]) hx hb dJ13_numberOfTrailingZeros_95d88_2 rfl hl (by decide) rfl (fun ls hl => ?_)
  refine lv_iload_n hx hb dJ13_numberOfTrailingZeros_95d88_3 rfl (lv_at hl 0 rfl) ?_
  refine lv_if_ne (tgt := 21) hx hb dJ13_numberOfTrailingZeros_95d88_4 (by decide) (fun c_2 => ?_) (fun c_2 => ?_)
  · replace h := it_n c_2 h
    refine lv_iload_n hx hb dJ13_numberOfTrailingZeros_95d88_21 rfl (lv_at hl 0 rfl) ?_
    obtain ⟨r_3, hr_3, h⟩ := bn_s h
    refine kcSi (As := [.int x2_1]) (rest := []) ⟨hx, hb, hml, hown, hts⟩ (va_cwS 1 hts gJ13_numberOfTrailingZeros_95d88_J6_numberOfTrailingZeros_0f7a4 rfl rfl rfl eJ6_numberOfTrailingZeros_0f7a4 ⟨Nat.le_of_ble_eq_true rfl, Nat.le_of_ble_eq_true rfl⟩) (c_J6_numberOfTrailingZeros_0f7a4  hr_3) hK hP hS hA rfl hl.1 rfl (Nat.le_of_ble_eq_true rfl) dJ13_numberOfTrailingZeros_95d88_22 (fun H locs hP hS => ?_)
    cases h
    exact kretI hx hb hr hlk hP hS dJ13_numberOfTrailingZeros_95d88_25
  · replace h := it_p c_2 h
    refine lv_bipush (v := 32) hx hb dJ13_numberOfTrailingZeros_95d88_7 (by decide) ?_
    refine lv_lload_n hx hb dJ13_numberOfTrailingZeros_95d88_9 rfl (lv_at hl 1 rfl) ?_
    refine lv_bipush (v := 32) hx hb dJ13_numberOfTrailingZeros_95d88_10 (by decide) ?_
    refine lv_lushr hx hb dJ13_numberOfTrailingZeros_95d88_12 rfl ?_
    refine lv_l2i hx hb dJ13_numberOfTrailingZeros_95d88_13 rfl ?_
    obtain ⟨r_4, hr_4, h⟩ := bn_s h
    refine kcSi (As := [.int (((x0.toUInt64 >>> ((32 : Int32).toInt64.toUInt64 &&& Int64.toUInt64 63)).toInt64).toInt32)]) (rest := [.int (32 : Int32)]) ⟨hx, hb, hml, hown, hts⟩ (va_cwS 1 hts gJ13_numberOfTrailingZeros_95d88_J6_numberOfTrailingZeros_0f7a4 rfl rfl rfl eJ6_numberOfTrailingZeros_0f7a4 ⟨Nat.le_of_ble_eq_true rfl, Nat.le_of_ble_eq_true rfl⟩) (c_J6_numberOfTrailingZeros_0f7a4  hr_4) hK hP hS hA rfl hl.1 rfl (Nat.le_of_ble_eq_true rfl) dJ13_numberOfTrailingZeros_95d88_14 (fun H locs hP hS => ?_)
    refine lv_iadd hx hb dJ13_numberOfTrailingZeros_95d88_17 ?_
    refine lv_goto (tgt := 25) hx hb dJ13_numberOfTrailingZeros_95d88_18 (by decide) ?_
    cases h
    exact kretI hx hb hr hlk hP hS dJ13_numberOfTrailingZeros_95d88_25
theorem c_J13_numberOfTrailingZeros_95d88 {l : Launch} {D : va_G} {cy : Nat → ClassId}  {x0 : Int64} {rr : Int32} (h : f_J13_numberOfTrailingZeros_95d88 x0 = some rr) : CI l D cy yJ13_numberOfTrailingZeros_95d88 wsJ13_numberOfTrailingZeros_95d88 { frames := 1, cells := 0, slots := 0, locals := 21 } [.long x0] [] (rr) [] := by
  refine kofI (cc := cJ13_numberOfTrailingZeros_95d88) (maxL := 3) (ret := (some .int)) (by decide) rfl (Nat.le_of_ble_eq_true rfl) ?_
  intro p e s m below meth c A M ls hl hP hD hS
  exact w_J13_numberOfTrailingZeros_95d88_0 M h hP hD hS hl
theorem eJ13_numberOfTrailingZeros_95d88 : yJ13_numberOfTrailingZeros_95d88.cls ≠ "java/lang/invoke/MethodHandle" ∧ yJ13_numberOfTrailingZeros_95d88.cls ≠ "java/lang/invoke/VarHandle" ∧ (parseMethodDescriptor yJ13_numberOfTrailingZeros_95d88.desc).map (fun d => d.parameters.length) = some 1 := by decide +kernel
def I_J7_fill_53178 (p : Program) (l : Launch) (e : Env) (s : State) (m : MethodId) (args : Array Value) (below : List Frame) (meth : Method) (c : Code) (A : Nat → Prop) (D : va_G) (cy : Nat → ClassId) (q0 : Nat) (n0 : Nat) (x1 : Int32) (fu : Nat) (rr : AI) : Prop := (∀ (fi : AI) (x2 : Int32) (x3 : Int32) (H : Heap) (locs : List Loc) (ls : Array Slot), lpn (st_J7_fill_53178 n0 x1) fu (fi, x2, x3) = some rr → va_P D vwCl (wI cy q0 n0 fi []) H → va_D A (wI cy q0 n0 fi []) → va_S A s.heap H locs → lv_has ls 4 [(0, .ref q0), (1, .int x1), (2, .int x2), (3, .int x3)] → W p l e { frames := 0, cells := 0, slots := 0, locals := 0 } s m args below meth c H locs 0 0 (MQ below (qV D (wI cy q0 n0 rr []) A) args s 0 0 A) (F0 m 5 ls []))
set_option maxHeartbeats 4000000 in
set_option maxRecDepth 100000 in
theorem w_J7_fill_53178_5 {p : Program} {l : Launch} {e : Env} {s : State} {m : MethodId} {args : Array Value} {below : List Frame} {meth : Method} {c : Code} {A : Nat → Prop} {D : va_G} {cy : Nat → ClassId} {q0 : Nat} {n0 : Nat} {x1 : Int32} {fu : Nat} {rr : AI} (M : kM p s m args meth c cJ7_fill_53178 4 none RJ7 wsJ7_fill_53178 A D cy) (ih : I_J7_fill_53178 p l e s m args below meth c A D cy q0 n0 x1 fu rr) {fi : AI} {x2 : Int32} {x3 : Int32} {oo : (AI × Int32 × Int32) ⊕ (AI)} (h : f_J7_fill_53178_5 n0 x1 fi x2 x3 = some oo) (hm : lpo (st_J7_fill_53178 n0 x1) fu oo rr) {H : Heap} {locs : List Loc} {ls : Array Slot} (hP : va_P D vwCl (wI cy q0 n0 fi []) H) (hD : va_D A (wI cy q0 n0 fi [])) (hS : va_S A s.heap H locs) (hl : lv_has ls 4 [(0, .ref q0), (1, .int x1), (2, .int x2), (3, .int x3)]) : W p l e { frames := 0, cells := 0, slots := 0, locals := 0 } s m args below meth c H locs 0 0 (MQ below (qV D (wI cy q0 n0 rr []) A) args s 0 0 A) (F0 m 5 ls []) := by
  obtain ⟨hx, hb, hr, hml, hown, hts, hlk, hA, hK⟩ := id M
  unfold f_J7_fill_53178_5 at h
  refine lv_iload_n hx hb dJ7_fill_53178_5 rfl (lv_at hl 2 rfl) ?_
  refine lv_iload_n hx hb dJ7_fill_53178_6 rfl (lv_at hl 3 rfl) ?_
  refine lv_icmp_ge (tgt := 20) hx hb dJ7_fill_53178_7 (by decide) (fun c_1 => ?_) (fun c_1 => ?_)
  · replace h := it_p c_1 h
    cases h
    have hm : _ = rr := hm
    subst hm
    exact kretV hx hb hr hlk hP hS dJ7_fill_53178_20
  · replace h := it_n c_1 h
    refine lv_aload_n hx hb dJ7_fill_53178_10 rfl (lv_at hl 0 rfl) ?_
    refine lv_iload_n hx hb dJ7_fill_53178_11 rfl (lv_at hl 2 rfl) ?_
    refine lv_iload_n hx hb dJ7_fill_53178_12 rfl (lv_at hl 1 rfl) ?_
    obtain ⟨b_2, h⟩ := ck_s h
    refine va_iast hx hb hK.1 hP hD hS 0 1 rfl rfl b_2 dJ7_fill_53178_13 (fun H locs hP hD hS => ?_)
    obtain ⟨fi_3, efi_3⟩ : ∃ z : AI, z = (upd fi x2.toNatClampNeg x1) := ⟨_, rfl⟩
    replace h := nm_s h efi_3
    have hP : va_P D vwCl (wI cy q0 n0 fi_3 []) H := by subst efi_3; exact hP
    have hD : va_D A (wI cy q0 n0 fi_3 []) := hD.lk [q0] rfl rfl
    obtain ⟨x2_4, ex2_4⟩ : ∃ z : Int32, z = (x2 + (1 : Int32)) := ⟨_, rfl⟩
    replace h := nm_s h ex2_4
    refine lv_iinc (v := x2_4) (lv' := [(2, .int x2_4), (0, .ref q0), (1, .int x1), (3, .int x3)]) hx hb dJ7_fill_53178_14 hl (k := 2) rfl (by rw [ex2_4]; rfl) (by decide) rfl (fun ls hl => ?_)
    refine lv_goto (tgt := 5) hx hb dJ7_fill_53178_17 (by decide) ?_
    cases h
    exact ih fi_3 x2_4 x3 _ _ _ hm hP hD hS (lv_sub hl [1, 2, 0, 3] rfl)
set_option maxHeartbeats 4000000 in
set_option maxRecDepth 100000 in
theorem w_J7_fill_53178_0 {p : Program} {l : Launch} {e : Env} {s : State} {m : MethodId} {args : Array Value} {below : List Frame} {meth : Method} {c : Code} {A : Nat → Prop} {D : va_G} {cy : Nat → ClassId} {q0 : Nat} {n0 : Nat} {x1 : Int32} {fu : Nat} {rr : AI} (M : kM p s m args meth c cJ7_fill_53178 4 none RJ7 wsJ7_fill_53178 A D cy) (ih : I_J7_fill_53178 p l e s m args below meth c A D cy q0 n0 x1 fu rr) {fi : AI} {oo : (AI × Int32 × Int32) ⊕ (AI)} (h : f_J7_fill_53178_0 n0 fi x1 = some oo) (hm : lpo (st_J7_fill_53178 n0 x1) fu oo rr) {H : Heap} {locs : List Loc} {ls : Array Slot} (hP : va_P D vwCl (wI cy q0 n0 fi []) H) (hD : va_D A (wI cy q0 n0 fi [])) (hS : va_S A s.heap H locs) (hl : lv_has ls 4 [(0, .ref q0), (1, .int x1)]) : W p l e { frames := 0, cells := 0, slots := 0, locals := 0 } s m args below meth c H locs 0 0 (MQ below (qV D (wI cy q0 n0 rr []) A) args s 0 0 A) (F0 m 0 ls []) := by
  obtain ⟨hx, hb, hr, hml, hown, hts, hlk, hA, hK⟩ := id M
  unfold f_J7_fill_53178_0 at h
  refine lv_iconst (v := 0) hx hb dJ7_fill_53178_0 (by decide) ?_
  refine lv_istore_n (lv' := [(2, .int (0 : Int32)), (0, .ref q0), (1, .int x1)]) hx hb dJ7_fill_53178_1 rfl hl (by decide) rfl (fun ls hl => ?_)
  refine lv_aload_n hx hb dJ7_fill_53178_2 rfl (lv_at hl 1 rfl) ?_
  refine va_alen (v := (Int32.ofNat n0)) hx hb hK.1 hP 0 1 rfl rfl rfl dJ7_fill_53178_3 ?_
  refine lv_topi (fun x3_1 ex3_1 => ?_)
  replace h := nm_s h ex3_1
  refine lv_istore_n (lv' := [(3, .int x3_1), (2, .int (0 : Int32)), (0, .ref q0), (1, .int x1)]) hx hb dJ7_fill_53178_4 rfl hl (by decide) rfl (fun ls hl => ?_)
  cases h
  exact ih fi (0 : Int32) x3_1 _ _ _ hm hP hD hS (lv_sub hl [2, 3, 1, 0] rfl)
theorem wl_J7_fill_53178 {p : Program} {l : Launch} {e : Env} {s : State} {m : MethodId} {args : Array Value} {below : List Frame} {meth : Method} {c : Code} {A : Nat → Prop} {D : va_G} {cy : Nat → ClassId} {q0 : Nat} {n0 : Nat} {x1 : Int32} {rr : AI} (M : kM p s m args meth c cJ7_fill_53178 4 none RJ7 wsJ7_fill_53178 A D cy) : ∀ fu : Nat, I_J7_fill_53178 p l e s m args below meth c A D cy q0 n0 x1 fu rr := by
  intro fu
  induction fu with
  | zero => exact (fun _ _ _ _ _ _ h => by cases h)
  | succ fu ih =>
    exact fun fi x2 x3 H locs ls h hP hD hS hl => by
      obtain ⟨o1, h1, h2⟩ := lpn_s h
      exact w_J7_fill_53178_5 M ih h1 h2 hP hD hS hl
theorem c_J7_fill_53178 {l : Launch} {D : va_G} {cy : Nat → ClassId} (q0 : Nat) {n0 : Nat} {fi : AI} {x1 : Int32} {rr : AI} (h : f_J7_fill_53178 n0 fi x1 = some rr) : CV l D cy yJ7_fill_53178 wsJ7_fill_53178 { frames := 0, cells := 0, slots := 0, locals := 0 } [.ref q0, .int x1] (wI cy q0 n0 fi []) (wI cy q0 n0 rr []) := by
  refine kofV (cc := cJ7_fill_53178) (maxL := 4) (ret := none) (by decide) rfl (Nat.le_of_ble_eq_true rfl) ?_
  intro p e s m below meth c A M ls hl hP hD hS
  obtain ⟨o1, fu, h1, h2⟩ := rnx_s h
  exact w_J7_fill_53178_0 M (wl_J7_fill_53178 M fu) h1 h2 hP hD hS hl
theorem eJ7_fill_53178 : yJ7_fill_53178.cls ≠ "java/lang/invoke/MethodHandle" ∧ yJ7_fill_53178.cls ≠ "java/lang/invoke/VarHandle" ∧ (parseMethodDescriptor yJ7_fill_53178.desc).map (fun d => d.parameters.length) = some 2 := by decide +kernel
def I_J7_fill_d0a16 (p : Program) (l : Launch) (e : Env) (s : State) (m : MethodId) (args : Array Value) (below : List Frame) (meth : Method) (c : Code) (A : Nat → Prop) (D : va_G) (cy : Nat → ClassId) (q0 : Nat) (n0 : Nat) (x1 : Int64) (fu : Nat) (rr : AL) : Prop := (∀ (fl : AL) (x3 : Int32) (x4 : Int32) (H : Heap) (locs : List Loc) (ls : Array Slot), lpn (st_J7_fill_d0a16 n0 x1) fu (fl, x3, x4) = some rr → va_P D vwCl (wL cy q0 n0 fl []) H → va_D A (wL cy q0 n0 fl []) → va_S A s.heap H locs → lv_has ls 5 [(0, .ref q0), (1, .long x1), (3, .int x3), (4, .int x4)] → W p l e { frames := 0, cells := 0, slots := 0, locals := 0 } s m args below meth c H locs 0 0 (MQ below (qV D (wL cy q0 n0 rr []) A) args s 0 0 A) (F0 m 6 ls []))
set_option maxHeartbeats 4000000 in
set_option maxRecDepth 100000 in
theorem w_J7_fill_d0a16_6 {p : Program} {l : Launch} {e : Env} {s : State} {m : MethodId} {args : Array Value} {below : List Frame} {meth : Method} {c : Code} {A : Nat → Prop} {D : va_G} {cy : Nat → ClassId} {q0 : Nat} {n0 : Nat} {x1 : Int64} {fu : Nat} {rr : AL} (M : kM p s m args meth c cJ7_fill_d0a16 5 none RJ7 wsJ7_fill_d0a16 A D cy) (ih : I_J7_fill_d0a16 p l e s m args below meth c A D cy q0 n0 x1 fu rr) {fl : AL} {x3 : Int32} {x4 : Int32} {oo : (AL × Int32 × Int32) ⊕ (AL)} (h : f_J7_fill_d0a16_6 n0 x1 fl x3 x4 = some oo) (hm : lpo (st_J7_fill_d0a16 n0 x1) fu oo rr) {H : Heap} {locs : List Loc} {ls : Array Slot} (hP : va_P D vwCl (wL cy q0 n0 fl []) H) (hD : va_D A (wL cy q0 n0 fl [])) (hS : va_S A s.heap H locs) (hl : lv_has ls 5 [(0, .ref q0), (1, .long x1), (3, .int x3), (4, .int x4)]) : W p l e { frames := 0, cells := 0, slots := 0, locals := 0 } s m args below meth c H locs 0 0 (MQ below (qV D (wL cy q0 n0 rr []) A) args s 0 0 A) (F0 m 6 ls []) := by
  obtain ⟨hx, hb, hr, hml, hown, hts, hlk, hA, hK⟩ := id M
  unfold f_J7_fill_d0a16_6 at h
  refine lv_iload_n hx hb dJ7_fill_d0a16_6 rfl (lv_at hl 2 rfl) ?_
  refine lv_iload hx hb dJ7_fill_d0a16_7 (lv_at hl 3 rfl) ?_
  refine lv_icmp_ge (tgt := 22) hx hb dJ7_fill_d0a16_9 (by decide) (fun c_1 => ?_) (fun c_1 => ?_)
  · replace h := it_p c_1 h
    cases h
    have hm : _ = rr := hm
    subst hm
    exact kretV hx hb hr hlk hP hS dJ7_fill_d0a16_22
  · replace h := it_n c_1 h
    refine lv_aload_n hx hb dJ7_fill_d0a16_12 rfl (lv_at hl 0 rfl) ?_
    refine lv_iload_n hx hb dJ7_fill_d0a16_13 rfl (lv_at hl 2 rfl) ?_
    refine lv_lload_n hx hb dJ7_fill_d0a16_14 rfl (lv_at hl 1 rfl) ?_
    obtain ⟨b_2, h⟩ := ck_s h
    refine va_last hx hb hK.1 hP hD hS 0 2 rfl rfl b_2 dJ7_fill_d0a16_15 (fun H locs hP hD hS => ?_)
    obtain ⟨fl_3, efl_3⟩ : ∃ z : AL, z = (vp_updL fl x3.toNatClampNeg x1) := ⟨_, rfl⟩
    replace h := nm_s h efl_3
    have hP : va_P D vwCl (wL cy q0 n0 fl_3 []) H := by subst efl_3; exact hP
    have hD : va_D A (wL cy q0 n0 fl_3 []) := hD.lk [q0] rfl rfl
    obtain ⟨x3_4, ex3_4⟩ : ∃ z : Int32, z = (x3 + (1 : Int32)) := ⟨_, rfl⟩
    replace h := nm_s h ex3_4
    refine lv_iinc (v := x3_4) (lv' := [(3, .int x3_4), (0, .ref q0), (1, .long x1), (4, .int x4)]) hx hb dJ7_fill_d0a16_16 hl (k := 2) rfl (by rw [ex3_4]; rfl) (by decide) rfl (fun ls hl => ?_)
    refine lv_goto (tgt := 6) hx hb dJ7_fill_d0a16_19 (by decide) ?_
    cases h
    exact ih fl_3 x3_4 x4 _ _ _ hm hP hD hS (lv_sub hl [1, 2, 0, 3] rfl)
set_option maxHeartbeats 4000000 in
set_option maxRecDepth 100000 in
theorem w_J7_fill_d0a16_0 {p : Program} {l : Launch} {e : Env} {s : State} {m : MethodId} {args : Array Value} {below : List Frame} {meth : Method} {c : Code} {A : Nat → Prop} {D : va_G} {cy : Nat → ClassId} {q0 : Nat} {n0 : Nat} {x1 : Int64} {fu : Nat} {rr : AL} (M : kM p s m args meth c cJ7_fill_d0a16 5 none RJ7 wsJ7_fill_d0a16 A D cy) (ih : I_J7_fill_d0a16 p l e s m args below meth c A D cy q0 n0 x1 fu rr) {fl : AL} {oo : (AL × Int32 × Int32) ⊕ (AL)} (h : f_J7_fill_d0a16_0 n0 fl x1 = some oo) (hm : lpo (st_J7_fill_d0a16 n0 x1) fu oo rr) {H : Heap} {locs : List Loc} {ls : Array Slot} (hP : va_P D vwCl (wL cy q0 n0 fl []) H) (hD : va_D A (wL cy q0 n0 fl [])) (hS : va_S A s.heap H locs) (hl : lv_has ls 5 [(0, .ref q0), (1, .long x1)]) : W p l e { frames := 0, cells := 0, slots := 0, locals := 0 } s m args below meth c H locs 0 0 (MQ below (qV D (wL cy q0 n0 rr []) A) args s 0 0 A) (F0 m 0 ls []) := by
  obtain ⟨hx, hb, hr, hml, hown, hts, hlk, hA, hK⟩ := id M
  unfold f_J7_fill_d0a16_0 at h
  refine lv_iconst (v := 0) hx hb dJ7_fill_d0a16_0 (by decide) ?_
  refine lv_istore_n (lv' := [(3, .int (0 : Int32)), (0, .ref q0), (1, .long x1)]) hx hb dJ7_fill_d0a16_1 rfl hl (by decide) rfl (fun ls hl => ?_)
  refine lv_aload_n hx hb dJ7_fill_d0a16_2 rfl (lv_at hl 1 rfl) ?_
  refine va_alen (v := (Int32.ofNat n0)) hx hb hK.1 hP 0 2 rfl rfl rfl dJ7_fill_d0a16_3 ?_
  refine lv_topi (fun x4_1 ex4_1 => ?_)
  replace h := nm_s h ex4_1
  refine lv_istore (lv' := [(4, .int x4_1), (3, .int (0 : Int32)), (0, .ref q0), (1, .long x1)]) hx hb dJ7_fill_d0a16_4 hl (by decide) rfl (fun ls hl => ?_)
  cases h
  exact ih fl (0 : Int32) x4_1 _ _ _ hm hP hD hS (lv_sub hl [2, 3, 1, 0] rfl)
theorem wl_J7_fill_d0a16 {p : Program} {l : Launch} {e : Env} {s : State} {m : MethodId} {args : Array Value} {below : List Frame} {meth : Method} {c : Code} {A : Nat → Prop} {D : va_G} {cy : Nat → ClassId} {q0 : Nat} {n0 : Nat} {x1 : Int64} {rr : AL} (M : kM p s m args meth c cJ7_fill_d0a16 5 none RJ7 wsJ7_fill_d0a16 A D cy) : ∀ fu : Nat, I_J7_fill_d0a16 p l e s m args below meth c A D cy q0 n0 x1 fu rr := by
  intro fu
  induction fu with
  | zero => exact (fun _ _ _ _ _ _ h => by cases h)
  | succ fu ih =>
    exact fun fl x3 x4 H locs ls h hP hD hS hl => by
      obtain ⟨o1, h1, h2⟩ := lpn_s h
      exact w_J7_fill_d0a16_6 M ih h1 h2 hP hD hS hl
theorem c_J7_fill_d0a16 {l : Launch} {D : va_G} {cy : Nat → ClassId} (q0 : Nat) {n0 : Nat} {fl : AL} {x1 : Int64} {rr : AL} (h : f_J7_fill_d0a16 n0 fl x1 = some rr) : CV l D cy yJ7_fill_d0a16 wsJ7_fill_d0a16 { frames := 0, cells := 0, slots := 0, locals := 0 } [.ref q0, .long x1] (wL cy q0 n0 fl []) (wL cy q0 n0 rr []) := by
  refine kofV (cc := cJ7_fill_d0a16) (maxL := 5) (ret := none) (by decide) rfl (Nat.le_of_ble_eq_true rfl) ?_
  intro p e s m below meth c A M ls hl hP hD hS
  obtain ⟨o1, fu, h1, h2⟩ := rnx_s h
  exact w_J7_fill_d0a16_0 M (wl_J7_fill_d0a16 M fu) h1 h2 hP hD hS hl
theorem eJ7_fill_d0a16 : yJ7_fill_d0a16.cls ≠ "java/lang/invoke/MethodHandle" ∧ yJ7_fill_d0a16.cls ≠ "java/lang/invoke/VarHandle" ∧ (parseMethodDescriptor yJ7_fill_d0a16.desc).map (fun d => d.parameters.length) = some 2 := by decide +kernel
set_option maxHeartbeats 4000000 in
set_option maxRecDepth 100000 in
theorem w_X3_isMan_0 {p : Program} {l : Launch} {e : Env} {s : State} {m : MethodId} {args : Array Value} {below : List Frame} {meth : Method} {c : Code} {A : Nat → Prop} {D : va_G} {cy : Nat → ClassId} {x0 : Int32} {rr : Int32} (M : kM p s m args meth c cX3_isMan 1 (some .boolean) RX3 wsX3_isMan A D cy)  (h : f_X3_isMan x0 = some rr) {H : Heap} {locs : List Loc} {ls : Array Slot} (hP : va_P D vwCl [] H) (hD : va_D A []) (hS : va_S A s.heap H locs) (hl : lv_has ls 1 [(0, .int x0)]) : W p l e { frames := 0, cells := 0, slots := 0, locals := 0 } s m args below meth c H locs 0 0 (MQ below (qI D [] (rr) A) args s 0 0 A) (F0 m 0 ls []) := by
  obtain ⟨hx, hb, hr, hml, hown, hts, hlk, hA, hK⟩ := id M
  unfold f_X3_isMan at h
  refine lv_iload_n hx hb dX3_isMan_0 rfl (lv_at hl 0 rfl) ?_
  refine lv_if_lt (tgt := 14) hx hb dX3_isMan_1 (by decide) (fun c_1 => ?_) (fun c_1 => ?_)
  · replace h := it_p c_1 h
    refine lv_iconst (v := 0) hx hb dX3_isMan_14 (by decide) ?_
    cases h
    exact kretZ (r0 := (0 : Int32)) (ty := .boolean) hx hb hr hlk hP hS (by decide) dX3_isMan_15
  · replace h := it_n c_1 h
    refine lv_iload_n hx hb dX3_isMan_4 rfl (lv_at hl 0 rfl) ?_
    refine lv_bipush (v := 6) hx hb dX3_isMan_5 (by decide) ?_
    refine lv_icmp_ge (tgt := 14) hx hb dX3_isMan_7 (by decide) (fun c_2 => ?_) (fun c_2 => ?_)
    · replace h := it_p c_2 h
      refine lv_iconst (v := 0) hx hb dX3_isMan_14 (by decide) ?_
      cases h
      exact kretZ (r0 := (0 : Int32)) (ty := .boolean) hx hb hr hlk hP hS (by decide) dX3_isMan_15
    · replace h := it_n c_2 h
      refine lv_iconst (v := 1) hx hb dX3_isMan_10 (by decide) ?_
      refine lv_goto (tgt := 15) hx hb dX3_isMan_11 (by decide) ?_
      cases h
      exact kretZ (r0 := (1 : Int32)) (ty := .boolean) hx hb hr hlk hP hS (by decide) dX3_isMan_15
theorem c_X3_isMan {l : Launch} {D : va_G} {cy : Nat → ClassId}  {x0 : Int32} {rr : Int32} (h : f_X3_isMan x0 = some rr) : CI l D cy yX3_isMan wsX3_isMan { frames := 0, cells := 0, slots := 0, locals := 0 } [.int x0] [] (rr) [] := by
  refine kofI (cc := cX3_isMan) (maxL := 1) (ret := (some .boolean)) (by decide) rfl (Nat.le_of_ble_eq_true rfl) ?_
  intro p e s m below meth c A M ls hl hP hD hS
  exact w_X3_isMan_0 M h hP hD hS hl
theorem eX3_isMan : yX3_isMan.cls ≠ "java/lang/invoke/MethodHandle" ∧ yX3_isMan.cls ≠ "java/lang/invoke/VarHandle" ∧ (parseMethodDescriptor yX3_isMan.desc).map (fun d => d.parameters.length) = some 1 := by decide +kernel
theorem mX3_grown_1 : Cond.methodLink RX3 214 Lib.Math.min.name ∈ wsX3_grown := by decide +kernel
theorem mX3_grown_2 : Cond.static Lib.Math.min.name ∈ wsX3_grown := by decide +kernel
theorem mX3_grown_3 : Cond.initialized "java/lang/Math" ∈ wsX3_grown := by decide +kernel
theorem mX3_grown_4 : Cond.code Lib.Math.min.name Lib.Math.min.code 2 (some .int) ∈ wsX3_grown := by decide +kernel
set_option maxHeartbeats 4000000 in
set_option maxRecDepth 100000 in
theorem w_X3_grown_0 {p : Program} {l : Launch} {e : Env} {s : State} {m : MethodId} {args : Array Value} {below : List Frame} {meth : Method} {c : Code} {A : Nat → Prop} {D : va_G} {cy : Nat → ClassId} {x0 : Int32} {x1 : Int32} {rr : Int32} (M : kM p s m args meth c cX3_grown 2 (some .int) RX3 wsX3_grown A D cy)  (h : f_X3_grown x0 x1 = some rr) {H : Heap} {locs : List Loc} {ls : Array Slot} (hP : va_P D vwCl [] H) (hD : va_D A []) (hS : va_S A s.heap H locs) (hl : lv_has ls 2 [(0, .int x0), (1, .int x1)]) : W p l e { frames := 1, cells := 0, slots := 0, locals := 21 } s m args below meth c H locs 0 0 (MQ below (qI D [] (rr) A) args s 0 0 A) (F0 m 0 ls []) := by
  obtain ⟨hx, hb, hr, hml, hown, hts, hlk, hA, hK⟩ := id M
  unfold f_X3_grown at h
  refine lv_iload_n hx hb dX3_grown_0 rfl (lv_at hl 0 rfl) ?_
  refine lv_iload_n hx hb dX3_grown_1 rfl (lv_at hl 1 rfl) ?_
  refine lv_iadd hx hb dX3_grown_2 ?_
  refine lv_sipush (v := 9999) hx hb dX3_grown_3 (by decide) ?_
  refine va_mmin hx hb (hml.trans hl.1.symm) hown (hts _ mX3_grown_1) (hts _ mX3_grown_2) (hts _ mX3_grown_3) (hts _ mX3_grown_4) (Nat.le_of_ble_eq_true rfl) (Nat.le_of_ble_eq_true rfl) (Nat.zero_le _) (Nat.zero_le _) dX3_grown_6 ?_
  refine lv_topi (fun t_1 et_1 => ?_)
  replace h := nm_s h et_1
  cases h
  exact kretI hx hb hr hlk hP hS dX3_grown_9
theorem c_X3_grown {l : Launch} {D : va_G} {cy : Nat → ClassId}  {x0 : Int32} {x1 : Int32} {rr : Int32} (h : f_X3_grown x0 x1 = some rr) : CI l D cy yX3_grown wsX3_grown { frames := 1, cells := 0, slots := 0, locals := 21 } [.int x0, .int x1] [] (rr) [] := by
  refine kofI (cc := cX3_grown) (maxL := 2) (ret := (some .int)) (by decide) rfl (Nat.le_of_ble_eq_true rfl) ?_
  intro p e s m below meth c A M ls hl hP hD hS
  exact w_X3_grown_0 M h hP hD hS hl
theorem eX3_grown : yX3_grown.cls ≠ "java/lang/invoke/MethodHandle" ∧ yX3_grown.cls ≠ "java/lang/invoke/VarHandle" ∧ (parseMethodDescriptor yX3_grown.desc).map (fun d => d.parameters.length) = some 2 := by decide +kernel
set_option maxHeartbeats 4000000 in
set_option maxRecDepth 100000 in
theorem w_X3_isWithin_0 {p : Program} {l : Launch} {e : Env} {s : State} {m : MethodId} {args : Array Value} {below : List Frame} {meth : Method} {c : Code} {A : Nat → Prop} {D : va_G} {cy : Nat → ClassId} {x0 : Int32} {x1 : Int32} {x2 : Int32} {rr : Int32} (M : kM p s m args meth c cX3_isWithin 3 (some .boolean) RX3 wsX3_isWithin A D cy)  (h : f_X3_isWithin x0 x1 x2 = some rr) {H : Heap} {locs : List Loc} {ls : Array Slot} (hP : va_P D vwCl [] H) (hD : va_D A []) (hS : va_S A s.heap H locs) (hl : lv_has ls 3 [(0, .int x0), (1, .int x1), (2, .int x2)]) : W p l e { frames := 0, cells := 0, slots := 0, locals := 0 } s m args below meth c H locs 0 0 (MQ below (qI D [] (rr) A) args s 0 0 A) (F0 m 0 ls []) := by
  obtain ⟨hx, hb, hr, hml, hown, hts, hlk, hA, hK⟩ := id M
  unfold f_X3_isWithin at h
  refine lv_iload_n hx hb dX3_isWithin_0 rfl (lv_at hl 0 rfl) ?_
  refine lv_iload_n hx hb dX3_isWithin_1 rfl (lv_at hl 1 rfl) ?_
  refine lv_icmp_lt (tgt := 14) hx hb dX3_isWithin_2 (by decide) (fun c_1 => ?_) (fun c_1 => ?_)
  · replace h := it_p c_1 h
    refine lv_iconst (v := 0) hx hb dX3_isWithin_14 (by decide) ?_
    cases h
    exact kretZ (r0 := (0 : Int32)) (ty := .boolean) hx hb hr hlk hP hS (by decide) dX3_isWithin_15
  · replace h := it_n c_1 h
    refine lv_iload_n hx hb dX3_isWithin_5 rfl (lv_at hl 0 rfl) ?_
    refine lv_iload_n hx hb dX3_isWithin_6 rfl (lv_at hl 2 rfl) ?_
    refine lv_icmp_gt (tgt := 14) hx hb dX3_isWithin_7 (by decide) (fun c_2 => ?_) (fun c_2 => ?_)
    · replace h := it_p c_2 h
      refine lv_iconst (v := 0) hx hb dX3_isWithin_14 (by decide) ?_
      cases h
      exact kretZ (r0 := (0 : Int32)) (ty := .boolean) hx hb hr hlk hP hS (by decide) dX3_isWithin_15
    · replace h := it_n c_2 h
      refine lv_iconst (v := 1) hx hb dX3_isWithin_10 (by decide) ?_
      refine lv_goto (tgt := 15) hx hb dX3_isWithin_11 (by decide) ?_
      cases h
      exact kretZ (r0 := (1 : Int32)) (ty := .boolean) hx hb hr hlk hP hS (by decide) dX3_isWithin_15
theorem c_X3_isWithin {l : Launch} {D : va_G} {cy : Nat → ClassId}  {x0 : Int32} {x1 : Int32} {x2 : Int32} {rr : Int32} (h : f_X3_isWithin x0 x1 x2 = some rr) : CI l D cy yX3_isWithin wsX3_isWithin { frames := 0, cells := 0, slots := 0, locals := 0 } [.int x0, .int x1, .int x2] [] (rr) [] := by
  refine kofI (cc := cX3_isWithin) (maxL := 3) (ret := (some .boolean)) (by decide) rfl (Nat.le_of_ble_eq_true rfl) ?_
  intro p e s m below meth c A M ls hl hP hD hS
  exact w_X3_isWithin_0 M h hP hD hS hl
theorem eX3_isWithin : yX3_isWithin.cls ≠ "java/lang/invoke/MethodHandle" ∧ yX3_isWithin.cls ≠ "java/lang/invoke/VarHandle" ∧ (parseMethodDescriptor yX3_isWithin.desc).map (fun d => d.parameters.length) = some 3 := by decide +kernel
theorem mX3_allShares_1 : Cond.constantLong RX3 226 (10) ∈ wsX3_allShares := by decide +kernel
def I_X3_allShares (p : Program) (l : Launch) (e : Env) (s : State) (m : MethodId) (args : Array Value) (below : List Frame) (meth : Method) (c : Code) (A : Nat → Prop) (D : va_G) (cy : Nat → ClassId) (x0 : Int32) (fu : Nat) (rr : Int64) : Prop := (∀ (x1 : Int64) (x3 : Int32) (H : Heap) (locs : List Loc) (ls : Array Slot), lpn (st_X3_allShares x0) fu (x1, x3) = some rr → va_P D vwCl [] H → va_D A [] → va_S A s.heap H locs → lv_has ls 4 [(0, .int x0), (1, .long x1), (3, .int x3)] → W p l e { frames := 0, cells := 0, slots := 0, locals := 0 } s m args below meth c H locs 0 0 (MQ below (qL D [] (rr) A) args s 0 0 A) (F0 m 4 ls []))
set_option maxHeartbeats 4000000 in
set_option maxRecDepth 100000 in
theorem w_X3_allShares_4 {p : Program} {l : Launch} {e : Env} {s : State} {m : MethodId} {args : Array Value} {below : List Frame} {meth : Method} {c : Code} {A : Nat → Prop} {D : va_G} {cy : Nat → ClassId} {x0 : Int32} {fu : Nat} {rr : Int64} (M : kM p s m args meth c cX3_allShares 4 (some .long) RX3 wsX3_allShares A D cy) (ih : I_X3_allShares p l e s m args below meth c A D cy x0 fu rr) {x1 : Int64} {x3 : Int32} {oo : (Int64 × Int32) ⊕ (Int64)} (h : f_X3_allShares_4 x0 x1 x3 = some oo) (hm : lpo (st_X3_allShares x0) fu oo rr) {H : Heap} {locs : List Loc} {ls : Array Slot} (hP : va_P D vwCl [] H) (hD : va_D A []) (hS : va_S A s.heap H locs) (hl : lv_has ls 4 [(0, .int x0), (1, .long x1), (3, .int x3)]) : W p l e { frames := 0, cells := 0, slots := 0, locals := 0 } s m args below meth c H locs 0 0 (MQ below (qL D [] (rr) A) args s 0 0 A) (F0 m 4 ls []) := by
  obtain ⟨hx, hb, hr, hml, hown, hts, hlk, hA, hK⟩ := id M
  unfold f_X3_allShares_4 at h
  refine lv_iload_n hx hb dX3_allShares_4 rfl (lv_at hl 2 rfl) ?_
  refine lv_iload_n hx hb dX3_allShares_5 rfl (lv_at hl 0 rfl) ?_
  refine lv_icmp_ge (tgt := 21) hx hb dX3_allShares_6 (by decide) (fun c_1 => ?_) (fun c_1 => ?_)
  · replace h := it_p c_1 h
    refine lv_lload_n hx hb dX3_allShares_21 rfl (lv_at hl 1 rfl) ?_
    cases h
    have hm : _ = rr := hm
    subst hm
    exact kretL hx hb hr hlk hP hS dX3_allShares_22
  · replace h := it_n c_1 h
    refine lv_lload_n hx hb dX3_allShares_9 rfl (lv_at hl 1 rfl) ?_
    refine lv_ldc2 (v := (10)) hx hb hown (hts _ mX3_allShares_1) dX3_allShares_10 ?_
    refine lv_lmul hx hb dX3_allShares_13 ?_
    refine lv_topl (fun x1_2 ex1_2 => ?_)
    replace h := nm_s h ex1_2
    refine lv_lstore_n (lv' := [(1, .long x1_2), (0, .int x0), (3, .int x3)]) hx hb dX3_allShares_14 rfl hl (by decide) rfl (fun ls hl => ?_)
    obtain ⟨x3_3, ex3_3⟩ : ∃ z : Int32, z = (x3 + (1 : Int32)) := ⟨_, rfl⟩
    replace h := nm_s h ex3_3
    refine lv_iinc (v := x3_3) (lv' := [(3, .int x3_3), (1, .long x1_2), (0, .int x0)]) hx hb dX3_allShares_15 hl (k := 2) rfl (by rw [ex3_3]; rfl) (by decide) rfl (fun ls hl => ?_)
    refine lv_goto (tgt := 4) hx hb dX3_allShares_18 (by decide) ?_
    cases h
    exact ih x1_2 x3_3 _ _ _ hm hP hD hS (lv_sub hl [2, 1, 0] rfl)
set_option maxHeartbeats 4000000 in
set_option maxRecDepth 100000 in
theorem w_X3_allShares_0 {p : Program} {l : Launch} {e : Env} {s : State} {m : MethodId} {args : Array Value} {below : List Frame} {meth : Method} {c : Code} {A : Nat → Prop} {D : va_G} {cy : Nat → ClassId} {x0 : Int32} {fu : Nat} {rr : Int64} (M : kM p s m args meth c cX3_allShares 4 (some .long) RX3 wsX3_allShares A D cy) (ih : I_X3_allShares p l e s m args below meth c A D cy x0 fu rr)  {oo : (Int64 × Int32) ⊕ (Int64)} (h : f_X3_allShares_0 x0 = some oo) (hm : lpo (st_X3_allShares x0) fu oo rr) {H : Heap} {locs : List Loc} {ls : Array Slot} (hP : va_P D vwCl [] H) (hD : va_D A []) (hS : va_S A s.heap H locs) (hl : lv_has ls 4 [(0, .int x0)]) : W p l e { frames := 0, cells := 0, slots := 0, locals := 0 } s m args below meth c H locs 0 0 (MQ below (qL D [] (rr) A) args s 0 0 A) (F0 m 0 ls []) := by
  obtain ⟨hx, hb, hr, hml, hown, hts, hlk, hA, hK⟩ := id M
  unfold f_X3_allShares_0 at h
  refine lv_lconst (v := 1) hx hb dX3_allShares_0 (by decide) ?_
  refine lv_lstore_n (lv' := [(1, .long (1 : Int64)), (0, .int x0)]) hx hb dX3_allShares_1 rfl hl (by decide) rfl (fun ls hl => ?_)
  refine lv_iconst (v := 0) hx hb dX3_allShares_2 (by decide) ?_
  refine lv_istore_n (lv' := [(3, .int (0 : Int32)), (1, .long (1 : Int64)), (0, .int x0)]) hx hb dX3_allShares_3 rfl hl (by decide) rfl (fun ls hl => ?_)
  cases h
  exact ih (1 : Int64) (0 : Int32) _ _ _ hm hP hD hS (lv_sub hl [2, 1, 0] rfl)
theorem wl_X3_allShares {p : Program} {l : Launch} {e : Env} {s : State} {m : MethodId} {args : Array Value} {below : List Frame} {meth : Method} {c : Code} {A : Nat → Prop} {D : va_G} {cy : Nat → ClassId} {x0 : Int32} {rr : Int64} (M : kM p s m args meth c cX3_allShares 4 (some .long) RX3 wsX3_allShares A D cy) : ∀ fu : Nat, I_X3_allShares p l e s m args below meth c A D cy x0 fu rr := by
  intro fu
  induction fu with
  | zero => exact (fun _ _ _ _ _ h => by cases h)
  | succ fu ih =>
    exact fun x1 x3 H locs ls h hP hD hS hl => by
      obtain ⟨o1, h1, h2⟩ := lpn_s h
      exact w_X3_allShares_4 M ih h1 h2 hP hD hS hl
theorem c_X3_allShares {l : Launch} {D : va_G} {cy : Nat → ClassId}  {x0 : Int32} {rr : Int64} (h : f_X3_allShares x0 = some rr) : CL l D cy yX3_allShares wsX3_allShares { frames := 0, cells := 0, slots := 0, locals := 0 } [.int x0] [] (rr) [] := by
  refine kofL (cc := cX3_allShares) (maxL := 4) (ret := (some .long)) (by decide) rfl (Nat.le_of_ble_eq_true rfl) ?_
  intro p e s m below meth c A M ls hl hP hD hS
  obtain ⟨o1, fu, h1, h2⟩ := rnx_s h
  exact w_X3_allShares_0 M (wl_X3_allShares M fu) h1 h2 hP hD hS hl
theorem eX3_allShares : yX3_allShares.cls ≠ "java/lang/invoke/MethodHandle" ∧ yX3_allShares.cls ≠ "java/lang/invoke/VarHandle" ∧ (parseMethodDescriptor yX3_allShares.desc).map (fun d => d.parameters.length) = some 1 := by decide +kernel
def I_X3_commonDivisor (p : Program) (l : Launch) (e : Env) (s : State) (m : MethodId) (args : Array Value) (below : List Frame) (meth : Method) (c : Code) (A : Nat → Prop) (D : va_G) (cy : Nat → ClassId) (x0 : Int64) (x2 : Int64) (fu : Nat) (rr : Int64) : Prop := (∀ (x4 : Int64) (x6 : Int64) (x8 : Int32) (H : Heap) (locs : List Loc) (ls : Array Slot), lpn (st_X3_commonDivisor x0 x2) fu (x4, x6, x8) = some rr → va_P D vwCl [] H → va_D A [] → va_S A s.heap H locs → lv_has ls 11 [(0, .long x0), (2, .long x2), (4, .long x4), (6, .long x6), (8, .int x8)] → W p l e { frames := 0, cells := 0, slots := 0, locals := 0 } s m args below meth c H locs 0 0 (MQ below (qL D [] (rr) A) args s 0 0 A) (F0 m 9 ls []))
set_option maxHeartbeats 4000000 in
set_option maxRecDepth 100000 in
theorem w_X3_commonDivisor_9 {p : Program} {l : Launch} {e : Env} {s : State} {m : MethodId} {args : Array Value} {below : List Frame} {meth : Method} {c : Code} {A : Nat → Prop} {D : va_G} {cy : Nat → ClassId} {x0 : Int64} {x2 : Int64} {fu : Nat} {rr : Int64} (M : kM p s m args meth c cX3_commonDivisor 11 (some .long) RX3 wsX3_commonDivisor A D cy) (ih : I_X3_commonDivisor p l e s m args below meth c A D cy x0 x2 fu rr) {x4 : Int64} {x6 : Int64} {x8 : Int32} {oo : (Int64 × Int64 × Int32) ⊕ (Int64)} (h : f_X3_commonDivisor_9 x0 x2 x4 x6 x8 = some oo) (hm : lpo (st_X3_commonDivisor x0 x2) fu oo rr) {H : Heap} {locs : List Loc} {ls : Array Slot} (hP : va_P D vwCl [] H) (hD : va_D A []) (hS : va_S A s.heap H locs) (hl : lv_has ls 11 [(0, .long x0), (2, .long x2), (4, .long x4), (6, .long x6), (8, .int x8)]) : W p l e { frames := 0, cells := 0, slots := 0, locals := 0 } s m args below meth c H locs 0 0 (MQ below (qL D [] (rr) A) args s 0 0 A) (F0 m 9 ls []) := by
  obtain ⟨hx, hb, hr, hml, hown, hts, hlk, hA, hK⟩ := id M
  unfold f_X3_commonDivisor_9 at h
  refine lv_iload hx hb dX3_commonDivisor_9 (lv_at hl 4 rfl) ?_
  refine lv_sipush (v := 128) hx hb dX3_commonDivisor_11 (by decide) ?_
  refine lv_icmp_ge (tgt := 45) hx hb dX3_commonDivisor_14 (by decide) (fun c_1 => ?_) (fun c_1 => ?_)
  · replace h := it_p c_1 h
    refine lv_lload hx hb dX3_commonDivisor_45 (lv_at hl 2 rfl) ?_
    cases h
    have hm : _ = rr := hm
    subst hm
    exact kretL hx hb hr hlk hP hS dX3_commonDivisor_47
  · replace h := it_n c_1 h
    refine lv_lload hx hb dX3_commonDivisor_17 (lv_at hl 3 rfl) ?_
    refine lv_lconst (v := 0) hx hb dX3_commonDivisor_19 (by decide) ?_
    refine W.lcmp hx hb dX3_commonDivisor_20 ?_
    refine lv_if_eq (tgt := 45) hx hb dX3_commonDivisor_21 (by decide) (fun c_2 => ?_) (fun c_2 => ?_)
    · replace h := it_p c_2 h
      refine lv_lload hx hb dX3_commonDivisor_45 (lv_at hl 2 rfl) ?_
      cases h
      have hm : _ = rr := hm
      subst hm
      exact kretL hx hb hr hlk hP hS dX3_commonDivisor_47
    · replace h := it_n c_2 h
      refine lv_lload hx hb dX3_commonDivisor_24 (lv_at hl 2 rfl) ?_
      refine lv_lload hx hb dX3_commonDivisor_26 (lv_at hl 3 rfl) ?_
      obtain ⟨z_3, h⟩ := dzl_s h
      refine lv_lrem hx hb dX3_commonDivisor_28 z_3 ?_
      refine lv_topl (fun x9_4 ex9_4 => ?_)
      replace h := nm_s h ex9_4
      refine lv_lstore (lv' := [(9, .long x9_4), (0, .long x0), (2, .long x2), (4, .long x4), (6, .long x6), (8, .int x8)]) hx hb dX3_commonDivisor_29 hl (by decide) rfl (fun ls hl => ?_)
      refine lv_lload hx hb dX3_commonDivisor_31 (lv_at hl 4 rfl) ?_
      refine lv_lstore (lv' := [(4, .long x6), (9, .long x9_4), (0, .long x0), (2, .long x2), (6, .long x6), (8, .int x8)]) hx hb dX3_commonDivisor_33 hl (by decide) rfl (fun ls hl => ?_)
      refine lv_lload hx hb dX3_commonDivisor_35 (lv_at hl 1 rfl) ?_
      refine lv_lstore (lv' := [(6, .long x9_4), (4, .long x6), (9, .long x9_4), (0, .long x0), (2, .long x2), (8, .int x8)]) hx hb dX3_commonDivisor_37 hl (by decide) rfl (fun ls hl => ?_)
      obtain ⟨x8_5, ex8_5⟩ : ∃ z : Int32, z = (x8 + (1 : Int32)) := ⟨_, rfl⟩
      replace h := nm_s h ex8_5
      refine lv_iinc (v := x8_5) (lv' := [(8, .int x8_5), (6, .long x9_4), (4, .long x6), (9, .long x9_4), (0, .long x0), (2, .long x2)]) hx hb dX3_commonDivisor_39 hl (k := 5) rfl (by rw [ex8_5]; rfl) (by decide) rfl (fun ls hl => ?_)
      refine lv_goto (tgt := 9) hx hb dX3_commonDivisor_42 (by decide) ?_
      cases h
      exact ih x6 x9_4 x8_5 _ _ _ hm hP hD hS (lv_sub hl [4, 5, 2, 1, 0] rfl)
set_option maxHeartbeats 4000000 in
set_option maxRecDepth 100000 in
theorem w_X3_commonDivisor_0 {p : Program} {l : Launch} {e : Env} {s : State} {m : MethodId} {args : Array Value} {below : List Frame} {meth : Method} {c : Code} {A : Nat → Prop} {D : va_G} {cy : Nat → ClassId} {x0 : Int64} {x2 : Int64} {fu : Nat} {rr : Int64} (M : kM p s m args meth c cX3_commonDivisor 11 (some .long) RX3 wsX3_commonDivisor A D cy) (ih : I_X3_commonDivisor p l e s m args below meth c A D cy x0 x2 fu rr)  {oo : (Int64 × Int64 × Int32) ⊕ (Int64)} (h : f_X3_commonDivisor_0 x0 x2 = some oo) (hm : lpo (st_X3_commonDivisor x0 x2) fu oo rr) {H : Heap} {locs : List Loc} {ls : Array Slot} (hP : va_P D vwCl [] H) (hD : va_D A []) (hS : va_S A s.heap H locs) (hl : lv_has ls 11 [(0, .long x0), (2, .long x2)]) : W p l e { frames := 0, cells := 0, slots := 0, locals := 0 } s m args below meth c H locs 0 0 (MQ below (qL D [] (rr) A) args s 0 0 A) (F0 m 0 ls []) := by
  obtain ⟨hx, hb, hr, hml, hown, hts, hlk, hA, hK⟩ := id M
  unfold f_X3_commonDivisor_0 at h
  refine lv_lload_n hx hb dX3_commonDivisor_0 rfl (lv_at hl 0 rfl) ?_
  refine lv_lstore (lv' := [(4, .long x0), (0, .long x0), (2, .long x2)]) hx hb dX3_commonDivisor_1 hl (by decide) rfl (fun ls hl => ?_)
  refine lv_lload_n hx hb dX3_commonDivisor_3 rfl (lv_at hl 2 rfl) ?_
  refine lv_lstore (lv' := [(6, .long x2), (4, .long x0), (0, .long x0), (2, .long x2)]) hx hb dX3_commonDivisor_4 hl (by decide) rfl (fun ls hl => ?_)
  refine lv_iconst (v := 0) hx hb dX3_commonDivisor_6 (by decide) ?_
  refine lv_istore (lv' := [(8, .int (0 : Int32)), (6, .long x2), (4, .long x0), (0, .long x0), (2, .long x2)]) hx hb dX3_commonDivisor_7 hl (by decide) rfl (fun ls hl => ?_)
  cases h
  exact ih x0 x2 (0 : Int32) _ _ _ hm hP hD hS (lv_sub hl [3, 4, 2, 1, 0] rfl)
theorem wl_X3_commonDivisor {p : Program} {l : Launch} {e : Env} {s : State} {m : MethodId} {args : Array Value} {below : List Frame} {meth : Method} {c : Code} {A : Nat → Prop} {D : va_G} {cy : Nat → ClassId} {x0 : Int64} {x2 : Int64} {rr : Int64} (M : kM p s m args meth c cX3_commonDivisor 11 (some .long) RX3 wsX3_commonDivisor A D cy) : ∀ fu : Nat, I_X3_commonDivisor p l e s m args below meth c A D cy x0 x2 fu rr := by
  intro fu
  induction fu with
  | zero => exact (fun _ _ _ _ _ _ h => by cases h)
  | succ fu ih =>
    exact fun x4 x6 x8 H locs ls h hP hD hS hl => by
      obtain ⟨o1, h1, h2⟩ := lpn_s h
      exact w_X3_commonDivisor_9 M ih h1 h2 hP hD hS hl
theorem c_X3_commonDivisor {l : Launch} {D : va_G} {cy : Nat → ClassId}  {x0 : Int64} {x2 : Int64} {rr : Int64} (h : f_X3_commonDivisor x0 x2 = some rr) : CL l D cy yX3_commonDivisor wsX3_commonDivisor { frames := 0, cells := 0, slots := 0, locals := 0 } [.long x0, .long x2] [] (rr) [] := by
  refine kofL (cc := cX3_commonDivisor) (maxL := 11) (ret := (some .long)) (by decide) rfl (Nat.le_of_ble_eq_true rfl) ?_
  intro p e s m below meth c A M ls hl hP hD hS
  obtain ⟨o1, fu, h1, h2⟩ := rnx_s h
  exact w_X3_commonDivisor_0 M (wl_X3_commonDivisor M fu) h1 h2 hP hD hS hl
theorem eX3_commonDivisor : yX3_commonDivisor.cls ≠ "java/lang/invoke/MethodHandle" ∧ yX3_commonDivisor.cls ≠ "java/lang/invoke/VarHandle" ∧ (parseMethodDescriptor yX3_commonDivisor.desc).map (fun d => d.parameters.length) = some 2 := by decide +kernel
set_option maxHeartbeats 4000000 in
set_option maxRecDepth 100000 in
theorem w_X3_lowestTerms_0 {p : Program} {l : Launch} {e : Env} {s : State} {m : MethodId} {args : Array Value} {below : List Frame} {meth : Method} {c : Code} {A : Nat → Prop} {D : va_G} {cy : Nat → ClassId} {x0 : Int64} {x2 : Int64} {x4 : Int32} {rr : Int64} (M : kM p s m args meth c cX3_lowestTerms 7 (some .long) RX3 wsX3_lowestTerms A D cy)  (h : f_X3_lowestTerms x0 x2 x4 = some rr) {H : Heap} {locs : List Loc} {ls : Array Slot} (hP : va_P D vwCl [] H) (hD : va_D A []) (hS : va_S A s.heap H locs) (hl : lv_has ls 7 [(0, .long x0), (2, .long x2), (4, .int x4)]) : W p l e { frames := 1, cells := 0, slots := 0, locals := 30 } s m args below meth c H locs 0 0 (MQ below (qL D [] (rr) A) args s 0 0 A) (F0 m 0 ls []) := by
  obtain ⟨hx, hb, hr, hml, hown, hts, hlk, hA, hK⟩ := id M
  unfold f_X3_lowestTerms at h
  refine lv_lload_n hx hb dX3_lowestTerms_0 rfl (lv_at hl 0 rfl) ?_
  refine lv_lload_n hx hb dX3_lowestTerms_1 rfl (lv_at hl 1 rfl) ?_
  obtain ⟨r_1, hr_1, h⟩ := bn_s h
  refine kcSl (As := [.long x0, .long x2]) (rest := []) ⟨hx, hb, hml, hown, hts⟩ (va_cwS 2 hts gX3_lowestTerms_X3_commonDivisor rfl rfl rfl eX3_commonDivisor ⟨Nat.le_of_ble_eq_true rfl, Nat.le_of_ble_eq_true rfl⟩) (c_X3_commonDivisor  hr_1) hK hP hS hA rfl hl.1 rfl (Nat.le_of_ble_eq_true rfl) dX3_lowestTerms_2 (fun H locs hP hS => ?_)
  refine lv_lstore (lv' := [(5, .long r_1), (0, .long x0), (2, .long x2), (4, .int x4)]) hx hb dX3_lowestTerms_5 hl (by decide) rfl (fun ls hl => ?_)
  refine lv_lload hx hb dX3_lowestTerms_7 (lv_at hl 0 rfl) ?_
  refine lv_lconst (v := 0) hx hb dX3_lowestTerms_9 (by decide) ?_
  refine W.lcmp hx hb dX3_lowestTerms_10 ?_
  refine lv_if_gt (tgt := 25) hx hb dX3_lowestTerms_11 (by decide) (fun c_2 => ?_) (fun c_2 => ?_)
  · replace h := it_p c_2 h
    refine lv_iload hx hb dX3_lowestTerms_25 (lv_at hl 3 rfl) ?_
    refine lv_if_ne (tgt := 37) hx hb dX3_lowestTerms_27 (by decide) (fun c_3 => ?_) (fun c_3 => ?_)
    · replace h := it_n c_3 h
      refine lv_lload_n hx hb dX3_lowestTerms_37 rfl (lv_at hl 2 rfl) ?_
      refine lv_lload hx hb dX3_lowestTerms_38 (lv_at hl 0 rfl) ?_
      obtain ⟨z_4, h⟩ := dzl_s h
      refine lv_ldiv hx hb dX3_lowestTerms_40 z_4 ?_
      cases h
      exact kretL hx hb hr hlk hP hS dX3_lowestTerms_41
    · replace h := it_p c_3 h
      refine lv_lload_n hx hb dX3_lowestTerms_30 rfl (lv_at hl 1 rfl) ?_
      refine lv_lload hx hb dX3_lowestTerms_31 (lv_at hl 0 rfl) ?_
      obtain ⟨z_5, h⟩ := dzl_s h
      refine lv_ldiv hx hb dX3_lowestTerms_33 z_5 ?_
      refine lv_goto (tgt := 41) hx hb dX3_lowestTerms_34 (by decide) ?_
      cases h
      exact kretL hx hb hr hlk hP hS dX3_lowestTerms_41
  · replace h := it_n c_2 h
    refine lv_iload hx hb dX3_lowestTerms_14 (lv_at hl 3 rfl) ?_
    refine lv_if_ne (tgt := 23) hx hb dX3_lowestTerms_16 (by decide) (fun c_6 => ?_) (fun c_6 => ?_)
    · replace h := it_n c_6 h
      refine lv_lload_n hx hb dX3_lowestTerms_23 rfl (lv_at hl 2 rfl) ?_
      cases h
      exact kretL hx hb hr hlk hP hS dX3_lowestTerms_24
    · replace h := it_p c_6 h
      refine lv_lload_n hx hb dX3_lowestTerms_19 rfl (lv_at hl 1 rfl) ?_
      refine lv_goto (tgt := 24) hx hb dX3_lowestTerms_20 (by decide) ?_
      cases h
      exact kretL hx hb hr hlk hP hS dX3_lowestTerms_24
theorem c_X3_lowestTerms {l : Launch} {D : va_G} {cy : Nat → ClassId}  {x0 : Int64} {x2 : Int64} {x4 : Int32} {rr : Int64} (h : f_X3_lowestTerms x0 x2 x4 = some rr) : CL l D cy yX3_lowestTerms wsX3_lowestTerms { frames := 1, cells := 0, slots := 0, locals := 30 } [.long x0, .long x2, .int x4] [] (rr) [] := by
  refine kofL (cc := cX3_lowestTerms) (maxL := 7) (ret := (some .long)) (by decide) rfl (Nat.le_of_ble_eq_true rfl) ?_
  intro p e s m below meth c A M ls hl hP hD hS
  exact w_X3_lowestTerms_0 M h hP hD hS hl
theorem eX3_lowestTerms : yX3_lowestTerms.cls ≠ "java/lang/invoke/MethodHandle" ∧ yX3_lowestTerms.cls ≠ "java/lang/invoke/VarHandle" ∧ (parseMethodDescriptor yX3_lowestTerms.desc).map (fun d => d.parameters.length) = some 3 := by decide +kernel
