/-! printed by wip/gen/gen.py: the walks -/
theorem iX4_restore_X4 : ∀ w ∈ u_ws RX4 TX4 21, w ∈ wsX4_restore := by decide +kernel
theorem mX4_restore_1 : Cond.fieldLink RX4 48 "LentPilesModel" "isKept" "[Z" ∈ wsX4_restore := by decide +kernel
theorem mX4_restore_2 : Cond.fieldLink RX4 16 "LentPilesModel" "pile" "[I" ∈ wsX4_restore := by decide +kernel
theorem mX4_restore_3 : Cond.fieldLink RX4 45 "LentPilesModel" "image" "[I" ∈ wsX4_restore := by decide +kernel
theorem mX4_restore_4 : Cond.fieldLink RX4 7 "LentPilesModel" "money" "[I" ∈ wsX4_restore := by decide +kernel
theorem mX4_restore_5 : Cond.fieldLink RX4 13 "LentPilesModel" "size" "[I" ∈ wsX4_restore := by decide +kernel
theorem mX4_restore_6 : Cond.fieldLink RX4 59 "LentPilesModel" "law" "I" ∈ wsX4_restore := by decide +kernel
theorem mX4_restore_7 : Cond.fieldLink RX4 63 "LentPilesModel" "rate" "I" ∈ wsX4_restore := by decide +kernel
theorem mX4_restore_8 : Cond.fieldLink RX4 73 "LentPilesModel" "days" "I" ∈ wsX4_restore := by decide +kernel
theorem mX4_restore_9 : Cond.fieldLink RX4 126 "LentPilesModel" "sights" "I" ∈ wsX4_restore := by decide +kernel
theorem mX4_restore_10 : Cond.fieldLink RX4 19 "LentPilesModel" "sight" "[I" ∈ wsX4_restore := by decide +kernel
def I_X4_restore (p : Program) (l : Launch) (e : Env) (s : State) (m : MethodId) (args : Array Value) (below : List Frame) (meth : Method) (c : Code) (A : Nat → Prop) (D : va_G) (cy : Nat → ClassId) (b0 : Nat → Nat) (x1 : Int32) (fu : Nat) (rr : Int32 × MS) : Prop := (∀ (uv : MS) (x2 : Int32) (x3 : Int32) (H : Heap) (locs : List Loc) (ls : Array Slot), lpn (st_X4_restore x1) fu (.inl (uv, x2, x3)) = some rr → va_P D vwCl (wM cy b0 uv []) H → va_D A (wM cy b0 uv []) → va_S A s.heap H locs → lv_has ls 4 [(0, .ref (b0 0)), (1, .int x1), (2, .int x2), (3, .int x3)] → W p l e { frames := 1, cells := 0, slots := 0, locals := 22 } s m args below meth c H locs 0 0 (MQ below (qI D (wM cy b0 rr.2 []) (rr.1) A) args s 0 0 A) (F0 m 31 ls [])) ∧ (∀ (uv : MS) (x2 : Int32) (x3 : Int32) (H : Heap) (locs : List Loc) (ls : Array Slot), lpn (st_X4_restore x1) fu (.inr (.inl (uv, x2, x3))) = some rr → va_P D vwCl (wM cy b0 uv []) H → va_D A (wM cy b0 uv []) → va_S A s.heap H locs → lv_has ls 4 [(0, .ref (b0 0)), (1, .int x1), (2, .int x2), (3, .int x3)] → W p l e { frames := 1, cells := 0, slots := 0, locals := 22 } s m args below meth c H locs 0 0 (MQ below (qI D (wM cy b0 rr.2 []) (rr.1) A) args s 0 0 A) (F0 m 59 ls [])) ∧ (∀ (uv : MS) (x2 : Int32) (x3 : Int32) (H : Heap) (locs : List Loc) (ls : Array Slot), lpn (st_X4_restore x1) fu (.inr (.inr (uv, x2, x3))) = some rr → va_P D vwCl (wM cy b0 uv []) H → va_D A (wM cy b0 uv []) → va_S A s.heap H locs → lv_has ls 4 [(0, .ref (b0 0)), (1, .int x1), (2, .int x2), (3, .int x3)] → W p l e { frames := 1, cells := 0, slots := 0, locals := 22 } s m args below meth c H locs 0 0 (MQ below (qI D (wM cy b0 rr.2 []) (rr.1) A) args s 0 0 A) (F0 m 107 ls []))
set_option maxHeartbeats 4000000 in
set_option maxRecDepth 100000 in
theorem w_X4_restore_107 {p : Program} {l : Launch} {e : Env} {s : State} {m : MethodId} {args : Array Value} {below : List Frame} {meth : Method} {c : Code} {A : Nat → Prop} {D : va_G} {cy : Nat → ClassId} {b0 : Nat → Nat} {x1 : Int32} {fu : Nat} {rr : Int32 × MS} (M : kM p s m args meth c cX4_restore 4 (some .int) RX4 wsX4_restore A D cy) (ih : I_X4_restore p l e s m args below meth c A D cy b0 x1 fu rr) {uv : MS} {x2 : Int32} {x3 : Int32} {oo : ((MS × Int32 × Int32) ⊕ (MS × Int32 × Int32) ⊕ (MS × Int32 × Int32)) ⊕ (Int32 × MS)} (h : f_X4_restore_107 x1 uv x2 x3 = some oo) (hm : lpo (st_X4_restore x1) fu oo rr) {H : Heap} {locs : List Loc} {ls : Array Slot} (hP : va_P D vwCl (wM cy b0 uv []) H) (hD : va_D A (wM cy b0 uv [])) (hS : va_S A s.heap H locs) (hl : lv_has ls 4 [(0, .ref (b0 0)), (1, .int x1), (2, .int x2), (3, .int x3)]) : W p l e { frames := 1, cells := 0, slots := 0, locals := 22 } s m args below meth c H locs 0 0 (MQ below (qI D (wM cy b0 rr.2 []) (rr.1) A) args s 0 0 A) (F0 m 107 ls []) := by
  obtain ⟨hx, hb, hr, hml, hown, hts, hlk, hA, hK⟩ := id M
  unfold f_X4_restore_107 at h
  refine lv_iload_n hx hb dX4_restore_107 rfl (lv_at hl 3 rfl) ?_
  refine lv_bipush (v := 12) hx hb dX4_restore_108 (by decide) ?_
  refine lv_icmp_ge (tgt := 136) hx hb dX4_restore_110 (by decide) (fun c_1 => ?_) (fun c_1 => ?_)
  · replace h := it_p c_1 h
    refine lv_aload_n hx hb dX4_restore_136 rfl (lv_at hl 0 rfl) ?_
    refine lv_aload_n hx hb dX4_restore_137 rfl (lv_at hl 0 rfl) ?_
    refine va_get (D := D) (ci := 4) (v := .ref (b0 12)) (C := RX4) (T := TX4) (N := 21) hx hb hts iX4_restore_X4 hown hK.1 hP 0 rfl rfl 19 (by decide) (hts _ mX4_restore_3) (fun _ h9 => h9) rfl dX4_restore_138 ?_
    refine lv_iload_n hx hb dX4_restore_141 rfl (lv_at hl 2 rfl) ?_
    refine lv_bipush (v := 114) hx hb dX4_restore_142 (by decide) ?_
    refine lv_iadd hx hb dX4_restore_144 ?_
    obtain ⟨b_2, h⟩ := ck_s h
    refine va_iald hx hb hK.1 hP 12 1 rfl rfl b_2 dX4_restore_145 ?_
    refine va_put (D := D) (ci := 4) (v := .int (uv.2.2.2.2.2.2.2.2.2.2.2.2.2.2.2.2.2.2.2.1 (x2 + (114 : Int32)).toNatClampNeg)) (ty := .int) (C := RX4) (T := TX4) (N := 21) hx hb hts iX4_restore_X4 tyX4 tyX4_ok nmX4 hown hK.1 hP hD hS 0 rfl rfl 0 (by decide) (hts _ mX4_restore_6) (fun _ h9 => h9) rfl (by decide +kernel) rfl rfl (Nat.le_of_ble_eq_true rfl) dX4_restore_146 (fun H locs hP hD hS => ?_)
    obtain ⟨uv_3, euv_3⟩ : ∃ z : MS, z = ((uv.2.2.2.2.2.2.2.2.2.2.2.2.2.2.2.2.2.2.2.1 (x2 + (114 : Int32)).toNatClampNeg), uv.2) := ⟨_, rfl⟩
    replace h := nm_s h euv_3
    have hP : va_P D vwCl (wM cy b0 uv_3 []) H := by subst euv_3; exact hP
    have hD : va_D A (wM cy b0 uv_3 []) := hD.lk [(b0 0), (b0 1), (b0 2), (b0 3), (b0 4), (b0 5), (b0 6), (b0 7), (b0 8), (b0 9), (b0 10), (b0 11), (b0 12), (b0 13)] rfl rfl
    refine lv_aload_n hx hb dX4_restore_149 rfl (lv_at hl 0 rfl) ?_
    refine lv_aload_n hx hb dX4_restore_150 rfl (lv_at hl 0 rfl) ?_
    refine va_get (D := D) (ci := 4) (v := .ref (b0 12)) (C := RX4) (T := TX4) (N := 21) hx hb hts iX4_restore_X4 hown hK.1 hP 0 rfl rfl 19 (by decide) (hts _ mX4_restore_3) (fun _ h9 => h9) rfl dX4_restore_151 ?_
    refine lv_iload_n hx hb dX4_restore_154 rfl (lv_at hl 2 rfl) ?_
    refine lv_bipush (v := 115) hx hb dX4_restore_155 (by decide) ?_
    refine lv_iadd hx hb dX4_restore_157 ?_
    obtain ⟨b_4, h⟩ := ck_s h
    refine va_iald hx hb hK.1 hP 12 1 rfl rfl b_4 dX4_restore_158 ?_
    refine va_put (D := D) (ci := 4) (v := .int (uv_3.2.2.2.2.2.2.2.2.2.2.2.2.2.2.2.2.2.2.2.1 (x2 + (115 : Int32)).toNatClampNeg)) (ty := .int) (C := RX4) (T := TX4) (N := 21) hx hb hts iX4_restore_X4 tyX4 tyX4_ok nmX4 hown hK.1 hP hD hS 0 rfl rfl 1 (by decide) (hts _ mX4_restore_7) (fun _ h9 => h9) rfl (by decide +kernel) rfl rfl (Nat.le_of_ble_eq_true rfl) dX4_restore_159 (fun H locs hP hD hS => ?_)
    obtain ⟨uv_5, euv_5⟩ : ∃ z : MS, z = (uv_3.1, (uv_3.2.2.2.2.2.2.2.2.2.2.2.2.2.2.2.2.2.2.2.1 (x2 + (115 : Int32)).toNatClampNeg), uv_3.2.2) := ⟨_, rfl⟩
    replace h := nm_s h euv_5
    have hP : va_P D vwCl (wM cy b0 uv_5 []) H := by subst euv_5; exact hP
    have hD : va_D A (wM cy b0 uv_5 []) := hD.lk [(b0 0), (b0 1), (b0 2), (b0 3), (b0 4), (b0 5), (b0 6), (b0 7), (b0 8), (b0 9), (b0 10), (b0 11), (b0 12), (b0 13)] rfl rfl
    refine lv_aload_n hx hb dX4_restore_162 rfl (lv_at hl 0 rfl) ?_
    refine lv_aload_n hx hb dX4_restore_163 rfl (lv_at hl 0 rfl) ?_
    refine va_get (D := D) (ci := 4) (v := .ref (b0 12)) (C := RX4) (T := TX4) (N := 21) hx hb hts iX4_restore_X4 hown hK.1 hP 0 rfl rfl 19 (by decide) (hts _ mX4_restore_3) (fun _ h9 => h9) rfl dX4_restore_164 ?_
    refine lv_iload_n hx hb dX4_restore_167 rfl (lv_at hl 2 rfl) ?_
    refine lv_bipush (v := 116) hx hb dX4_restore_168 (by decide) ?_
    refine lv_iadd hx hb dX4_restore_170 ?_
    obtain ⟨b_6, h⟩ := ck_s h
    refine va_iald hx hb hK.1 hP 12 1 rfl rfl b_6 dX4_restore_171 ?_
    refine va_put (D := D) (ci := 4) (v := .int (uv_5.2.2.2.2.2.2.2.2.2.2.2.2.2.2.2.2.2.2.2.1 (x2 + (116 : Int32)).toNatClampNeg)) (ty := .int) (C := RX4) (T := TX4) (N := 21) hx hb hts iX4_restore_X4 tyX4 tyX4_ok nmX4 hown hK.1 hP hD hS 0 rfl rfl 2 (by decide) (hts _ mX4_restore_8) (fun _ h9 => h9) rfl (by decide +kernel) rfl rfl (Nat.le_of_ble_eq_true rfl) dX4_restore_172 (fun H locs hP hD hS => ?_)
    obtain ⟨uv_7, euv_7⟩ : ∃ z : MS, z = (uv_5.1, uv_5.2.1, (uv_5.2.2.2.2.2.2.2.2.2.2.2.2.2.2.2.2.2.2.2.1 (x2 + (116 : Int32)).toNatClampNeg), uv_5.2.2.2) := ⟨_, rfl⟩
    replace h := nm_s h euv_7
    have hP : va_P D vwCl (wM cy b0 uv_7 []) H := by subst euv_7; exact hP
    have hD : va_D A (wM cy b0 uv_7 []) := hD.lk [(b0 0), (b0 1), (b0 2), (b0 3), (b0 4), (b0 5), (b0 6), (b0 7), (b0 8), (b0 9), (b0 10), (b0 11), (b0 12), (b0 13)] rfl rfl
    refine lv_aload_n hx hb dX4_restore_175 rfl (lv_at hl 0 rfl) ?_
    refine lv_aload_n hx hb dX4_restore_176 rfl (lv_at hl 0 rfl) ?_
    refine va_get (D := D) (ci := 4) (v := .ref (b0 12)) (C := RX4) (T := TX4) (N := 21) hx hb hts iX4_restore_X4 hown hK.1 hP 0 rfl rfl 19 (by decide) (hts _ mX4_restore_3) (fun _ h9 => h9) rfl dX4_restore_177 ?_
    refine lv_iload_n hx hb dX4_restore_180 rfl (lv_at hl 2 rfl) ?_
    refine lv_bipush (v := 117) hx hb dX4_restore_181 (by decide) ?_
    refine lv_iadd hx hb dX4_restore_183 ?_
    obtain ⟨b_8, h⟩ := ck_s h
    refine va_iald hx hb hK.1 hP 12 1 rfl rfl b_8 dX4_restore_184 ?_
    refine va_put (D := D) (ci := 4) (v := .int (uv_7.2.2.2.2.2.2.2.2.2.2.2.2.2.2.2.2.2.2.2.1 (x2 + (117 : Int32)).toNatClampNeg)) (ty := .int) (C := RX4) (T := TX4) (N := 21) hx hb hts iX4_restore_X4 tyX4 tyX4_ok nmX4 hown hK.1 hP hD hS 0 rfl rfl 6 (by decide) (hts _ mX4_restore_9) (fun _ h9 => h9) rfl (by decide +kernel) rfl rfl (Nat.le_of_ble_eq_true rfl) dX4_restore_185 (fun H locs hP hD hS => ?_)
    obtain ⟨uv_9, euv_9⟩ : ∃ z : MS, z = (uv_7.1, uv_7.2.1, uv_7.2.2.1, uv_7.2.2.2.1, uv_7.2.2.2.2.1, uv_7.2.2.2.2.2.1, (uv_7.2.2.2.2.2.2.2.2.2.2.2.2.2.2.2.2.2.2.2.1 (x2 + (117 : Int32)).toNatClampNeg), uv_7.2.2.2.2.2.2.2) := ⟨_, rfl⟩
    replace h := nm_s h euv_9
    have hP : va_P D vwCl (wM cy b0 uv_9 []) H := by subst euv_9; exact hP
    have hD : va_D A (wM cy b0 uv_9 []) := hD.lk [(b0 0), (b0 1), (b0 2), (b0 3), (b0 4), (b0 5), (b0 6), (b0 7), (b0 8), (b0 9), (b0 10), (b0 11), (b0 12), (b0 13)] rfl rfl
    refine lv_iconst (v := 1) hx hb dX4_restore_188 (by decide) ?_
    cases h
    have hm : _ = rr := hm
    subst hm
    exact kretI hx hb hr hlk hP hS dX4_restore_189
  · replace h := it_n c_1 h
    refine lv_aload_n hx hb dX4_restore_113 rfl (lv_at hl 0 rfl) ?_
    refine va_get (D := D) (ci := 4) (v := .ref (b0 4)) (C := RX4) (T := TX4) (N := 21) hx hb hts iX4_restore_X4 hown hK.1 hP 0 rfl rfl 7 (by decide) (hts _ mX4_restore_10) (fun _ h9 => h9) rfl dX4_restore_114 ?_
    refine lv_iload_n hx hb dX4_restore_117 rfl (lv_at hl 3 rfl) ?_
    refine lv_aload_n hx hb dX4_restore_118 rfl (lv_at hl 0 rfl) ?_
    refine va_get (D := D) (ci := 4) (v := .ref (b0 12)) (C := RX4) (T := TX4) (N := 21) hx hb hts iX4_restore_X4 hown hK.1 hP 0 rfl rfl 19 (by decide) (hts _ mX4_restore_3) (fun _ h9 => h9) rfl dX4_restore_119 ?_
    refine lv_iload_n hx hb dX4_restore_122 rfl (lv_at hl 2 rfl) ?_
    refine lv_bipush (v := 102) hx hb dX4_restore_123 (by decide) ?_
    refine lv_iadd hx hb dX4_restore_125 ?_
    refine lv_iload_n hx hb dX4_restore_126 rfl (lv_at hl 3 rfl) ?_
    refine lv_iadd hx hb dX4_restore_127 ?_
    obtain ⟨b_10, h⟩ := ck_s h
    refine va_iald hx hb hK.1 hP 12 1 rfl rfl b_10 dX4_restore_128 ?_
    obtain ⟨b_11, h⟩ := ck_s h
    refine va_iast hx hb hK.1 hP hD hS 4 1 rfl rfl b_11 dX4_restore_129 (fun H locs hP hD hS => ?_)
    obtain ⟨uv_12, euv_12⟩ : ∃ z : MS, z = (uv.1, uv.2.1, uv.2.2.1, uv.2.2.2.1, uv.2.2.2.2.1, uv.2.2.2.2.2.1, uv.2.2.2.2.2.2.1, (upd uv.2.2.2.2.2.2.2.1 x3.toNatClampNeg (uv.2.2.2.2.2.2.2.2.2.2.2.2.2.2.2.2.2.2.2.1 ((x2 + (102 : Int32)) + x3).toNatClampNeg)), uv.2.2.2.2.2.2.2.2) := ⟨_, rfl⟩
    replace h := nm_s h euv_12
    have hP : va_P D vwCl (wM cy b0 uv_12 []) H := by subst euv_12; exact hP
    have hD : va_D A (wM cy b0 uv_12 []) := hD.lk [(b0 0), (b0 1), (b0 2), (b0 3), (b0 4), (b0 5), (b0 6), (b0 7), (b0 8), (b0 9), (b0 10), (b0 11), (b0 12), (b0 13)] rfl rfl
    obtain ⟨x3_13, ex3_13⟩ : ∃ z : Int32, z = (x3 + (1 : Int32)) := ⟨_, rfl⟩
    replace h := nm_s h ex3_13
    refine lv_iinc (v := x3_13) (lv' := [(3, .int x3_13), (0, .ref (b0 0)), (1, .int x1), (2, .int x2)]) hx hb dX4_restore_130 hl (k := 3) rfl (by rw [ex3_13]; rfl) (by decide) rfl (fun ls hl => ?_)
    refine lv_goto (tgt := 107) hx hb dX4_restore_133 (by decide) ?_
    cases h
    exact ih.2.2 uv_12 x2 x3_13 _ _ _ hm hP hD hS (lv_sub hl [1, 2, 3, 0] rfl)
set_option maxHeartbeats 4000000 in
set_option maxRecDepth 100000 in
theorem w_X4_restore_59 {p : Program} {l : Launch} {e : Env} {s : State} {m : MethodId} {args : Array Value} {below : List Frame} {meth : Method} {c : Code} {A : Nat → Prop} {D : va_G} {cy : Nat → ClassId} {b0 : Nat → Nat} {x1 : Int32} {fu : Nat} {rr : Int32 × MS} (M : kM p s m args meth c cX4_restore 4 (some .int) RX4 wsX4_restore A D cy) (ih : I_X4_restore p l e s m args below meth c A D cy b0 x1 fu rr) {uv : MS} {x2 : Int32} {x3 : Int32} {oo : ((MS × Int32 × Int32) ⊕ (MS × Int32 × Int32) ⊕ (MS × Int32 × Int32)) ⊕ (Int32 × MS)} (h : f_X4_restore_59 x1 uv x2 x3 = some oo) (hm : lpo (st_X4_restore x1) fu oo rr) {H : Heap} {locs : List Loc} {ls : Array Slot} (hP : va_P D vwCl (wM cy b0 uv []) H) (hD : va_D A (wM cy b0 uv [])) (hS : va_S A s.heap H locs) (hl : lv_has ls 4 [(0, .ref (b0 0)), (1, .int x1), (2, .int x2), (3, .int x3)]) : W p l e { frames := 1, cells := 0, slots := 0, locals := 22 } s m args below meth c H locs 0 0 (MQ below (qI D (wM cy b0 rr.2 []) (rr.1) A) args s 0 0 A) (F0 m 59 ls []) := by
  obtain ⟨hx, hb, hr, hml, hown, hts, hlk, hA, hK⟩ := id M
  unfold f_X4_restore_59 at h
  refine lv_iload_n hx hb dX4_restore_59 rfl (lv_at hl 3 rfl) ?_
  refine lv_bipush (v := 6) hx hb dX4_restore_60 (by decide) ?_
  refine lv_icmp_ge (tgt := 105) hx hb dX4_restore_62 (by decide) (fun c_1 => ?_) (fun c_1 => ?_)
  · replace h := it_p c_1 h
    refine lv_iconst (v := 0) hx hb dX4_restore_105 (by decide) ?_
    refine lv_istore_n (lv' := [(3, .int (0 : Int32)), (0, .ref (b0 0)), (1, .int x1), (2, .int x2)]) hx hb dX4_restore_106 rfl hl (by decide) rfl (fun ls hl => ?_)
    cases h
    exact ih.2.2 uv x2 (0 : Int32) _ _ _ hm hP hD hS (lv_sub hl [1, 2, 3, 0] rfl)
  · replace h := it_n c_1 h
    refine lv_aload_n hx hb dX4_restore_65 rfl (lv_at hl 0 rfl) ?_
    refine va_get (D := D) (ci := 4) (v := .ref (b0 1)) (C := RX4) (T := TX4) (N := 21) hx hb hts iX4_restore_X4 hown hK.1 hP 0 rfl rfl 3 (by decide) (hts _ mX4_restore_4) (fun _ h9 => h9) rfl dX4_restore_66 ?_
    refine lv_iload_n hx hb dX4_restore_69 rfl (lv_at hl 3 rfl) ?_
    refine lv_aload_n hx hb dX4_restore_70 rfl (lv_at hl 0 rfl) ?_
    refine va_get (D := D) (ci := 4) (v := .ref (b0 12)) (C := RX4) (T := TX4) (N := 21) hx hb hts iX4_restore_X4 hown hK.1 hP 0 rfl rfl 19 (by decide) (hts _ mX4_restore_3) (fun _ h9 => h9) rfl dX4_restore_71 ?_
    refine lv_iload_n hx hb dX4_restore_74 rfl (lv_at hl 2 rfl) ?_
    refine lv_bipush (v := 90) hx hb dX4_restore_75 (by decide) ?_
    refine lv_iadd hx hb dX4_restore_77 ?_
    refine lv_iload_n hx hb dX4_restore_78 rfl (lv_at hl 3 rfl) ?_
    refine lv_iadd hx hb dX4_restore_79 ?_
    obtain ⟨b_2, h⟩ := ck_s h
    refine va_iald hx hb hK.1 hP 12 1 rfl rfl b_2 dX4_restore_80 ?_
    obtain ⟨b_3, h⟩ := ck_s h
    refine va_iast hx hb hK.1 hP hD hS 1 1 rfl rfl b_3 dX4_restore_81 (fun H locs hP hD hS => ?_)
    obtain ⟨uv_4, euv_4⟩ : ∃ z : MS, z = (uv.1, uv.2.1, uv.2.2.1, (upd uv.2.2.2.1 x3.toNatClampNeg (uv.2.2.2.2.2.2.2.2.2.2.2.2.2.2.2.2.2.2.2.1 ((x2 + (90 : Int32)) + x3).toNatClampNeg)), uv.2.2.2.2) := ⟨_, rfl⟩
    replace h := nm_s h euv_4
    have hP : va_P D vwCl (wM cy b0 uv_4 []) H := by subst euv_4; exact hP
    have hD : va_D A (wM cy b0 uv_4 []) := hD.lk [(b0 0), (b0 1), (b0 2), (b0 3), (b0 4), (b0 5), (b0 6), (b0 7), (b0 8), (b0 9), (b0 10), (b0 11), (b0 12), (b0 13)] rfl rfl
    refine lv_aload_n hx hb dX4_restore_82 rfl (lv_at hl 0 rfl) ?_
    refine va_get (D := D) (ci := 4) (v := .ref (b0 2)) (C := RX4) (T := TX4) (N := 21) hx hb hts iX4_restore_X4 hown hK.1 hP 0 rfl rfl 4 (by decide) (hts _ mX4_restore_5) (fun _ h9 => h9) rfl dX4_restore_83 ?_
    refine lv_iload_n hx hb dX4_restore_86 rfl (lv_at hl 3 rfl) ?_
    refine lv_aload_n hx hb dX4_restore_87 rfl (lv_at hl 0 rfl) ?_
    refine va_get (D := D) (ci := 4) (v := .ref (b0 12)) (C := RX4) (T := TX4) (N := 21) hx hb hts iX4_restore_X4 hown hK.1 hP 0 rfl rfl 19 (by decide) (hts _ mX4_restore_3) (fun _ h9 => h9) rfl dX4_restore_88 ?_
    refine lv_iload_n hx hb dX4_restore_91 rfl (lv_at hl 2 rfl) ?_
    refine lv_bipush (v := 96) hx hb dX4_restore_92 (by decide) ?_
    refine lv_iadd hx hb dX4_restore_94 ?_
    refine lv_iload_n hx hb dX4_restore_95 rfl (lv_at hl 3 rfl) ?_
    refine lv_iadd hx hb dX4_restore_96 ?_
    obtain ⟨b_5, h⟩ := ck_s h
    refine va_iald hx hb hK.1 hP 12 1 rfl rfl b_5 dX4_restore_97 ?_
    refine va_iast hx hb hK.1 hP hD hS 2 1 rfl rfl b_3 dX4_restore_98 (fun H locs hP hD hS => ?_)
    obtain ⟨uv_6, euv_6⟩ : ∃ z : MS, z = (uv_4.1, uv_4.2.1, uv_4.2.2.1, uv_4.2.2.2.1, (upd uv_4.2.2.2.2.1 x3.toNatClampNeg (uv_4.2.2.2.2.2.2.2.2.2.2.2.2.2.2.2.2.2.2.2.1 ((x2 + (96 : Int32)) + x3).toNatClampNeg)), uv_4.2.2.2.2.2) := ⟨_, rfl⟩
    replace h := nm_s h euv_6
    have hP : va_P D vwCl (wM cy b0 uv_6 []) H := by subst euv_6; exact hP
    have hD : va_D A (wM cy b0 uv_6 []) := hD.lk [(b0 0), (b0 1), (b0 2), (b0 3), (b0 4), (b0 5), (b0 6), (b0 7), (b0 8), (b0 9), (b0 10), (b0 11), (b0 12), (b0 13)] rfl rfl
    obtain ⟨x3_7, ex3_7⟩ : ∃ z : Int32, z = (x3 + (1 : Int32)) := ⟨_, rfl⟩
    replace h := nm_s h ex3_7
    refine lv_iinc (v := x3_7) (lv' := [(3, .int x3_7), (0, .ref (b0 0)), (1, .int x1), (2, .int x2)]) hx hb dX4_restore_99 hl (k := 3) rfl (by rw [ex3_7]; rfl) (by decide) rfl (fun ls hl => ?_)
    refine lv_goto (tgt := 59) hx hb dX4_restore_102 (by decide) ?_
    cases h
    exact ih.2.1 uv_6 x2 x3_7 _ _ _ hm hP hD hS (lv_sub hl [1, 2, 3, 0] rfl)
set_option maxHeartbeats 4000000 in
set_option maxRecDepth 100000 in
theorem w_X4_restore_31 {p : Program} {l : Launch} {e : Env} {s : State} {m : MethodId} {args : Array Value} {below : List Frame} {meth : Method} {c : Code} {A : Nat → Prop} {D : va_G} {cy : Nat → ClassId} {b0 : Nat → Nat} {x1 : Int32} {fu : Nat} {rr : Int32 × MS} (M : kM p s m args meth c cX4_restore 4 (some .int) RX4 wsX4_restore A D cy) (ih : I_X4_restore p l e s m args below meth c A D cy b0 x1 fu rr) {uv : MS} {x2 : Int32} {x3 : Int32} {oo : ((MS × Int32 × Int32) ⊕ (MS × Int32 × Int32) ⊕ (MS × Int32 × Int32)) ⊕ (Int32 × MS)} (h : f_X4_restore_31 x1 uv x2 x3 = some oo) (hm : lpo (st_X4_restore x1) fu oo rr) {H : Heap} {locs : List Loc} {ls : Array Slot} (hP : va_P D vwCl (wM cy b0 uv []) H) (hD : va_D A (wM cy b0 uv [])) (hS : va_S A s.heap H locs) (hl : lv_has ls 4 [(0, .ref (b0 0)), (1, .int x1), (2, .int x2), (3, .int x3)]) : W p l e { frames := 1, cells := 0, slots := 0, locals := 22 } s m args below meth c H locs 0 0 (MQ below (qI D (wM cy b0 rr.2 []) (rr.1) A) args s 0 0 A) (F0 m 31 ls []) := by
  obtain ⟨hx, hb, hr, hml, hown, hts, hlk, hA, hK⟩ := id M
  unfold f_X4_restore_31 at h
  refine lv_iload_n hx hb dX4_restore_31 rfl (lv_at hl 3 rfl) ?_
  refine lv_bipush (v := 90) hx hb dX4_restore_32 (by decide) ?_
  refine lv_icmp_ge (tgt := 57) hx hb dX4_restore_34 (by decide) (fun c_1 => ?_) (fun c_1 => ?_)
  · replace h := it_p c_1 h
    refine lv_iconst (v := 0) hx hb dX4_restore_57 (by decide) ?_
    refine lv_istore_n (lv' := [(3, .int (0 : Int32)), (0, .ref (b0 0)), (1, .int x1), (2, .int x2)]) hx hb dX4_restore_58 rfl hl (by decide) rfl (fun ls hl => ?_)
    cases h
    exact ih.2.1 uv x2 (0 : Int32) _ _ _ hm hP hD hS (lv_sub hl [1, 2, 3, 0] rfl)
  · replace h := it_n c_1 h
    refine lv_aload_n hx hb dX4_restore_37 rfl (lv_at hl 0 rfl) ?_
    refine va_get (D := D) (ci := 4) (v := .ref (b0 3)) (C := RX4) (T := TX4) (N := 21) hx hb hts iX4_restore_X4 hown hK.1 hP 0 rfl rfl 5 (by decide) (hts _ mX4_restore_2) (fun _ h9 => h9) rfl dX4_restore_38 ?_
    refine lv_iload_n hx hb dX4_restore_41 rfl (lv_at hl 3 rfl) ?_
    refine lv_aload_n hx hb dX4_restore_42 rfl (lv_at hl 0 rfl) ?_
    refine va_get (D := D) (ci := 4) (v := .ref (b0 12)) (C := RX4) (T := TX4) (N := 21) hx hb hts iX4_restore_X4 hown hK.1 hP 0 rfl rfl 19 (by decide) (hts _ mX4_restore_3) (fun _ h9 => h9) rfl dX4_restore_43 ?_
    refine lv_iload_n hx hb dX4_restore_46 rfl (lv_at hl 2 rfl) ?_
    refine lv_iload_n hx hb dX4_restore_47 rfl (lv_at hl 3 rfl) ?_
    refine lv_iadd hx hb dX4_restore_48 ?_
    obtain ⟨b_2, h⟩ := ck_s h
    refine va_iald hx hb hK.1 hP 12 1 rfl rfl b_2 dX4_restore_49 ?_
    obtain ⟨b_3, h⟩ := ck_s h
    refine va_iast hx hb hK.1 hP hD hS 3 1 rfl rfl b_3 dX4_restore_50 (fun H locs hP hD hS => ?_)
    obtain ⟨uv_4, euv_4⟩ : ∃ z : MS, z = (uv.1, uv.2.1, uv.2.2.1, uv.2.2.2.1, uv.2.2.2.2.1, (upd uv.2.2.2.2.2.1 x3.toNatClampNeg (uv.2.2.2.2.2.2.2.2.2.2.2.2.2.2.2.2.2.2.2.1 (x2 + x3).toNatClampNeg)), uv.2.2.2.2.2.2) := ⟨_, rfl⟩
    replace h := nm_s h euv_4
    have hP : va_P D vwCl (wM cy b0 uv_4 []) H := by subst euv_4; exact hP
    have hD : va_D A (wM cy b0 uv_4 []) := hD.lk [(b0 0), (b0 1), (b0 2), (b0 3), (b0 4), (b0 5), (b0 6), (b0 7), (b0 8), (b0 9), (b0 10), (b0 11), (b0 12), (b0 13)] rfl rfl
    obtain ⟨x3_5, ex3_5⟩ : ∃ z : Int32, z = (x3 + (1 : Int32)) := ⟨_, rfl⟩
    replace h := nm_s h ex3_5
    refine lv_iinc (v := x3_5) (lv' := [(3, .int x3_5), (0, .ref (b0 0)), (1, .int x1), (2, .int x2)]) hx hb dX4_restore_51 hl (k := 3) rfl (by rw [ex3_5]; rfl) (by decide) rfl (fun ls hl => ?_)
    refine lv_goto (tgt := 31) hx hb dX4_restore_54 (by decide) ?_
    cases h
    exact ih.1 uv_4 x2 x3_5 _ _ _ hm hP hD hS (lv_sub hl [1, 2, 3, 0] rfl)
set_option maxHeartbeats 4000000 in
set_option maxRecDepth 100000 in
theorem w_X4_restore_0 {p : Program} {l : Launch} {e : Env} {s : State} {m : MethodId} {args : Array Value} {below : List Frame} {meth : Method} {c : Code} {A : Nat → Prop} {D : va_G} {cy : Nat → ClassId} {b0 : Nat → Nat} {x1 : Int32} {fu : Nat} {rr : Int32 × MS} (M : kM p s m args meth c cX4_restore 4 (some .int) RX4 wsX4_restore A D cy) (ih : I_X4_restore p l e s m args below meth c A D cy b0 x1 fu rr) {uv : MS} {oo : ((MS × Int32 × Int32) ⊕ (MS × Int32 × Int32) ⊕ (MS × Int32 × Int32)) ⊕ (Int32 × MS)} (h : f_X4_restore_0 uv x1 = some oo) (hm : lpo (st_X4_restore x1) fu oo rr) {H : Heap} {locs : List Loc} {ls : Array Slot} (hP : va_P D vwCl (wM cy b0 uv []) H) (hD : va_D A (wM cy b0 uv [])) (hS : va_S A s.heap H locs) (hl : lv_has ls 4 [(0, .ref (b0 0)), (1, .int x1)]) : W p l e { frames := 1, cells := 0, slots := 0, locals := 22 } s m args below meth c H locs 0 0 (MQ below (qI D (wM cy b0 rr.2 []) (rr.1) A) args s 0 0 A) (F0 m 0 ls []) := by
  obtain ⟨hx, hb, hr, hml, hown, hts, hlk, hA, hK⟩ := id M
  unfold f_X4_restore_0 at h
  refine lv_iload_n hx hb dX4_restore_0 rfl (lv_at hl 1 rfl) ?_
  refine lv_iconst (v := 0) hx hb dX4_restore_1 (by decide) ?_
  refine lv_iconst (v := 1) hx hb dX4_restore_2 (by decide) ?_
  obtain ⟨r_1, hr_1, h⟩ := bn_s h
  refine kcSi (As := [.int x1, .int (0 : Int32), .int (1 : Int32)]) (rest := []) ⟨hx, hb, hml, hown, hts⟩ (va_cwS 3 hts gX4_restore_X4_in rfl rfl rfl eX4_in ⟨Nat.le_of_ble_eq_true rfl, Nat.le_of_ble_eq_true rfl⟩) (c_X4_in  hr_1) hK hP hS hA rfl hl.1 rfl (Nat.le_of_ble_eq_true rfl) dX4_restore_3 (fun H locs hP hS => ?_)
  refine lv_if_ne (tgt := 12) hx hb dX4_restore_6 (by decide) (fun c_2 => ?_) (fun c_2 => ?_)
  · replace h := it_n c_2 h
    refine lv_aload_n hx hb dX4_restore_12 rfl (lv_at hl 0 rfl) ?_
    refine va_get (D := D) (ci := 4) (v := .ref (b0 13)) (C := RX4) (T := TX4) (N := 21) hx hb hts iX4_restore_X4 hown hK.1 hP 0 rfl rfl 20 (by decide) (hts _ mX4_restore_1) (fun _ h9 => h9) rfl dX4_restore_13 ?_
    refine lv_iload_n hx hb dX4_restore_16 rfl (lv_at hl 1 rfl) ?_
    obtain ⟨b_3, h⟩ := ck_s h
    refine va_zald hx hb hK.1 hP 13 3 rfl rfl b_3 dX4_restore_17 ?_
    refine lv_if_ne (tgt := 24) hx hb dX4_restore_18 (by decide) (fun c_4 => ?_) (fun c_4 => ?_)
    · replace h := it_n c_4 h
      refine lv_bipush (v := 118) hx hb dX4_restore_24 (by decide) ?_
      refine lv_iload_n hx hb dX4_restore_26 rfl (lv_at hl 1 rfl) ?_
      refine lv_imul hx hb dX4_restore_27 ?_
      refine lv_topi (fun x2_5 ex2_5 => ?_)
      replace h := nm_s h ex2_5
      refine lv_istore_n (lv' := [(2, .int x2_5), (0, .ref (b0 0)), (1, .int x1)]) hx hb dX4_restore_28 rfl hl (by decide) rfl (fun ls hl => ?_)
      refine lv_iconst (v := 0) hx hb dX4_restore_29 (by decide) ?_
      refine lv_istore_n (lv' := [(3, .int (0 : Int32)), (2, .int x2_5), (0, .ref (b0 0)), (1, .int x1)]) hx hb dX4_restore_30 rfl hl (by decide) rfl (fun ls hl => ?_)
      cases h
      exact ih.1 uv x2_5 (0 : Int32) _ _ _ hm hP hD hS (lv_sub hl [2, 3, 1, 0] rfl)
    · replace h := it_p c_4 h
      refine lv_bipush (v := (-3)) hx hb dX4_restore_21 (by decide) ?_
      cases h
      have hm : _ = rr := hm
      subst hm
      exact kretI hx hb hr hlk hP hS dX4_restore_23
  · replace h := it_p c_2 h
    refine lv_bipush (v := (-2)) hx hb dX4_restore_9 (by decide) ?_
    cases h
    have hm : _ = rr := hm
    subst hm
    exact kretI hx hb hr hlk hP hS dX4_restore_11
theorem wl_X4_restore {p : Program} {l : Launch} {e : Env} {s : State} {m : MethodId} {args : Array Value} {below : List Frame} {meth : Method} {c : Code} {A : Nat → Prop} {D : va_G} {cy : Nat → ClassId} {b0 : Nat → Nat} {x1 : Int32} {rr : Int32 × MS} (M : kM p s m args meth c cX4_restore 4 (some .int) RX4 wsX4_restore A D cy) : ∀ fu : Nat, I_X4_restore p l e s m args below meth c A D cy b0 x1 fu rr := by
  intro fu
  induction fu with
  | zero => exact ⟨(fun _ _ _ _ _ _ h => by cases h), (fun _ _ _ _ _ _ h => by cases h), (fun _ _ _ _ _ _ h => by cases h)⟩
  | succ fu ih =>
    refine ⟨?_, ?_, ?_⟩
    · intro uv x2 x3 H locs ls h hP hD hS hl
      obtain ⟨o1, h1, h2⟩ := lpn_s h
      exact w_X4_restore_31 M ih h1 h2 hP hD hS hl
    · intro uv x2 x3 H locs ls h hP hD hS hl
      obtain ⟨o1, h1, h2⟩ := lpn_s h
      exact w_X4_restore_59 M ih h1 h2 hP hD hS hl
    · intro uv x2 x3 H locs ls h hP hD hS hl
      obtain ⟨o1, h1, h2⟩ := lpn_s h
      exact w_X4_restore_107 M ih h1 h2 hP hD hS hl
theorem c_X4_restore {l : Launch} {D : va_G} {cy : Nat → ClassId} (b0 : Nat → Nat) {uv : MS} {x1 : Int32} {rr : Int32 × MS} (h : f_X4_restore uv x1 = some rr) : CI l D cy yX4_restore wsX4_restore { frames := 1, cells := 0, slots := 0, locals := 22 } [.ref (b0 0), .int x1] (wM cy b0 uv []) (rr.1) (wM cy b0 rr.2 []) := by
  refine kofI (cc := cX4_restore) (maxL := 4) (ret := (some .int)) (by decide) rfl (Nat.le_of_ble_eq_true rfl) ?_
  intro p e s m below meth c A M ls hl hP hD hS
  obtain ⟨o1, fu, h1, h2⟩ := rnx_s h
  exact w_X4_restore_0 M (wl_X4_restore M fu) h1 h2 hP hD hS hl
theorem eX4_restore : yX4_restore.cls ≠ "java/lang/invoke/MethodHandle" ∧ yX4_restore.cls ≠ "java/lang/invoke/VarHandle" ∧ (parseMethodDescriptor yX4_restore.desc).map (fun d => d.parameters.length) = some 1 := by decide +kernel
theorem iX4_ringOf_X4 : ∀ w ∈ u_ws RX4 TX4 21, w ∈ wsX4_ringOf := by decide +kernel
theorem mX4_ringOf_1 : Cond.fieldLink RX4 31 "LentPilesModel" "nowPile" "[I" ∈ wsX4_ringOf := by decide +kernel
def I_X4_ringOf (p : Program) (l : Launch) (e : Env) (s : State) (m : MethodId) (args : Array Value) (below : List Frame) (meth : Method) (c : Code) (A : Nat → Prop) (D : va_G) (cy : Nat → ClassId) (b0 : Nat → Nat) (x1 : Int32) (fu : Nat) (rr : Int32 × MS) : Prop := (∀ (uv : MS) (x2 : Int32) (x3 : Int32) (x4 : Int32) (H : Heap) (locs : List Loc) (ls : Array Slot), lpn (st_X4_ringOf x1) fu (uv, x2, x3, x4) = some rr → va_P D vwCl (wM cy b0 uv []) H → va_D A (wM cy b0 uv []) → va_S A s.heap H locs → lv_has ls 6 [(0, .ref (b0 0)), (1, .int x1), (2, .int x2), (3, .int x3), (4, .int x4)] → W p l e { frames := 2, cells := 0, slots := 0, locals := 45 } s m args below meth c H locs 0 0 (MQ below (qI D (wM cy b0 rr.2 []) (rr.1) A) args s 0 0 A) (F0 m 11 ls []))
set_option maxHeartbeats 4000000 in
set_option maxRecDepth 100000 in
theorem w_X4_ringOf_11 {p : Program} {l : Launch} {e : Env} {s : State} {m : MethodId} {args : Array Value} {below : List Frame} {meth : Method} {c : Code} {A : Nat → Prop} {D : va_G} {cy : Nat → ClassId} {b0 : Nat → Nat} {x1 : Int32} {fu : Nat} {rr : Int32 × MS} (M : kM p s m args meth c cX4_ringOf 6 (some .int) RX4 wsX4_ringOf A D cy) (ih : I_X4_ringOf p l e s m args below meth c A D cy b0 x1 fu rr) {uv : MS} {x2 : Int32} {x3 : Int32} {x4 : Int32} {oo : (MS × Int32 × Int32 × Int32) ⊕ (Int32 × MS)} (h : f_X4_ringOf_11 x1 uv x2 x3 x4 = some oo) (hm : lpo (st_X4_ringOf x1) fu oo rr) {H : Heap} {locs : List Loc} {ls : Array Slot} (hP : va_P D vwCl (wM cy b0 uv []) H) (hD : va_D A (wM cy b0 uv [])) (hS : va_S A s.heap H locs) (hl : lv_has ls 6 [(0, .ref (b0 0)), (1, .int x1), (2, .int x2), (3, .int x3), (4, .int x4)]) : W p l e { frames := 2, cells := 0, slots := 0, locals := 45 } s m args below meth c H locs 0 0 (MQ below (qI D (wM cy b0 rr.2 []) (rr.1) A) args s 0 0 A) (F0 m 11 ls []) := by
  obtain ⟨hx, hb, hr, hml, hown, hts, hlk, hA, hK⟩ := id M
  unfold f_X4_ringOf_11 at h
  refine lv_iload hx hb dX4_ringOf_11 (lv_at hl 4 rfl) ?_
  refine lv_bipush (v := 6) hx hb dX4_ringOf_13 (by decide) ?_
  refine lv_icmp_ge (tgt := 64) hx hb dX4_ringOf_15 (by decide) (fun c_1 => ?_) (fun c_1 => ?_)
  · replace h := it_p c_1 h
    refine lv_bipush (v := (-6)) hx hb dX4_ringOf_64 (by decide) ?_
    cases h
    have hm : _ = rr := hm
    subst hm
    exact kretI hx hb hr hlk hP hS dX4_ringOf_66
  · replace h := it_n c_1 h
    refine lv_aload_n hx hb dX4_ringOf_18 rfl (lv_at hl 0 rfl) ?_
    refine lv_iload_n hx hb dX4_ringOf_19 rfl (lv_at hl 3 rfl) ?_
    obtain ⟨r_2, hr_2, h⟩ := bn_s h
    refine kcVi (As := [.int x3]) (rest := []) (ws' := (wM cy b0 uv [])) ⟨hx, hb, hml, hown, hts⟩ (cwV 1 hts gX4_ringOf_X4_dueNow rfl rfl rfl ⟨rfl, eX4_dueNow⟩ ⟨Nat.le_of_ble_eq_true rfl, Nat.le_of_ble_eq_true rfl⟩) (c_X4_dueNow b0 hr_2) hK hP hD hS hA [0, 1, 2, 3, 4, 5, 6, 7, 8, 9, 10, 11, 12, 13] [] (by decide) rfl rfl 4 rfl rfl [(b0 0), (b0 1), (b0 2), (b0 3), (b0 4), (b0 5), (b0 6), (b0 7), (b0 8), (b0 9), (b0 10), (b0 11), (b0 12), (b0 13)] rfl rfl rfl [] rfl rfl rfl rfl hl.1 rfl (Nat.le_of_ble_eq_true rfl) dX4_ringOf_20 (fun H locs hP hD hS => ?_)
    refine lv_istore (lv' := [(5, .int r_2), (0, .ref (b0 0)), (1, .int x1), (2, .int x2), (3, .int x3), (4, .int x4)]) hx hb dX4_ringOf_23 hl (by decide) rfl (fun ls hl => ?_)
    refine lv_iload hx hb dX4_ringOf_25 (lv_at hl 0 rfl) ?_
    refine lv_if_ge (tgt := 33) hx hb dX4_ringOf_27 (by decide) (fun c_3 => ?_) (fun c_3 => ?_)
    · replace h := it_p c_3 h
      refine lv_iload_n hx hb dX4_ringOf_33 rfl (lv_at hl 3 rfl) ?_
      refine lv_iconst (v := 1) hx hb dX4_ringOf_34 (by decide) ?_
      refine lv_iload_n hx hb dX4_ringOf_35 rfl (lv_at hl 4 rfl) ?_
      refine lv_ishl hx hb dX4_ringOf_36 ?_
      refine lv_ior hx hb dX4_ringOf_37 ?_
      refine lv_topi (fun x2_4 ex2_4 => ?_)
      replace h := nm_s h ex2_4
      refine lv_istore_n (lv' := [(2, .int x2_4), (5, .int r_2), (0, .ref (b0 0)), (1, .int x1), (3, .int x3), (4, .int x4)]) hx hb dX4_ringOf_38 rfl hl (by decide) rfl (fun ls hl => ?_)
      refine lv_aload_n hx hb dX4_ringOf_39 rfl (lv_at hl 2 rfl) ?_
      refine va_get (D := D) (ci := 4) (v := .ref (b0 8)) (C := RX4) (T := TX4) (N := 21) hx hb hts iX4_ringOf_X4 hown hK.1 hP 0 rfl rfl 13 (by decide) (hts _ mX4_ringOf_1) (fun _ h9 => h9) rfl dX4_ringOf_40 ?_
      refine lv_iload_n hx hb dX4_ringOf_43 rfl (lv_at hl 4 rfl) ?_
      refine lv_iload hx hb dX4_ringOf_44 (lv_at hl 1 rfl) ?_
      obtain ⟨r_5, hr_5, h⟩ := bn_s h
      refine kcSi (As := [.int x3, .int r_2]) (rest := [.ref (b0 8)]) ⟨hx, hb, hml, hown, hts⟩ (va_cwS 2 hts gX4_ringOf_X4_at rfl rfl rfl eX4_at ⟨Nat.le_of_ble_eq_true rfl, Nat.le_of_ble_eq_true rfl⟩) (c_X4_at  hr_5) hK hP hS hA rfl hl.1 rfl (Nat.le_of_ble_eq_true rfl) dX4_ringOf_46 (fun H locs hP hS => ?_)
      obtain ⟨b_6, h⟩ := ck_s h
      refine va_iald hx hb hK.1 hP 8 1 rfl rfl b_6 dX4_ringOf_49 ?_
      refine lv_topi (fun x3_7 ex3_7 => ?_)
      replace h := nm_s h ex3_7
      refine lv_istore_n (lv' := [(3, .int x3_7), (2, .int x2_4), (5, .int r_2), (0, .ref (b0 0)), (1, .int x1), (4, .int x4)]) hx hb dX4_ringOf_50 rfl hl (by decide) rfl (fun ls hl => ?_)
      refine lv_iload_n hx hb dX4_ringOf_51 rfl (lv_at hl 0 rfl) ?_
      refine lv_iload_n hx hb dX4_ringOf_52 rfl (lv_at hl 4 rfl) ?_
      refine lv_icmp_ne (tgt := 58) hx hb dX4_ringOf_53 (by decide) (fun c_8 => ?_) (fun c_8 => ?_)
      · replace h := it_n c_8 h
        obtain ⟨x4_9, ex4_9⟩ : ∃ z : Int32, z = (x4 + (1 : Int32)) := ⟨_, rfl⟩
        replace h := nm_s h ex4_9
        refine lv_iinc (v := x4_9) (lv' := [(4, .int x4_9), (3, .int x3_7), (2, .int x2_4), (5, .int r_2), (0, .ref (b0 0)), (1, .int x1)]) hx hb dX4_ringOf_58 hl (k := 5) rfl (by rw [ex4_9]; rfl) (by decide) rfl (fun ls hl => ?_)
        refine lv_goto (tgt := 11) hx hb dX4_ringOf_61 (by decide) ?_
        cases h
        exact ih uv x2_4 x3_7 x4_9 _ _ _ hm hP hD hS (lv_sub hl [4, 5, 2, 1, 0] rfl)
      · replace h := it_p c_8 h
        refine lv_iload_n hx hb dX4_ringOf_56 rfl (lv_at hl 1 rfl) ?_
        cases h
        have hm : _ = rr := hm
        subst hm
        exact kretI hx hb hr hlk hP hS dX4_ringOf_57
    · replace h := it_n c_3 h
      refine lv_bipush (v := (-6)) hx hb dX4_ringOf_30 (by decide) ?_
      cases h
      have hm : _ = rr := hm
      subst hm
      exact kretI hx hb hr hlk hP hS dX4_ringOf_32
set_option maxHeartbeats 4000000 in
set_option maxRecDepth 100000 in
theorem w_X4_ringOf_0 {p : Program} {l : Launch} {e : Env} {s : State} {m : MethodId} {args : Array Value} {below : List Frame} {meth : Method} {c : Code} {A : Nat → Prop} {D : va_G} {cy : Nat → ClassId} {b0 : Nat → Nat} {x1 : Int32} {fu : Nat} {rr : Int32 × MS} (M : kM p s m args meth c cX4_ringOf 6 (some .int) RX4 wsX4_ringOf A D cy) (ih : I_X4_ringOf p l e s m args below meth c A D cy b0 x1 fu rr) {uv : MS} {oo : (MS × Int32 × Int32 × Int32) ⊕ (Int32 × MS)} (h : f_X4_ringOf_0 uv x1 = some oo) (hm : lpo (st_X4_ringOf x1) fu oo rr) {H : Heap} {locs : List Loc} {ls : Array Slot} (hP : va_P D vwCl (wM cy b0 uv []) H) (hD : va_D A (wM cy b0 uv [])) (hS : va_S A s.heap H locs) (hl : lv_has ls 6 [(0, .ref (b0 0)), (1, .int x1)]) : W p l e { frames := 2, cells := 0, slots := 0, locals := 45 } s m args below meth c H locs 0 0 (MQ below (qI D (wM cy b0 rr.2 []) (rr.1) A) args s 0 0 A) (F0 m 0 ls []) := by
  obtain ⟨hx, hb, hr, hml, hown, hts, hlk, hA, hK⟩ := id M
  unfold f_X4_ringOf_0 at h
  refine lv_aload_n hx hb dX4_ringOf_0 rfl (lv_at hl 0 rfl) ?_
  obtain ⟨r_1, hr_1, h⟩ := bn_s h
  refine kcVv (As := []) (rest := []) (ws' := (wM cy b0 r_1 [])) ⟨hx, hb, hml, hown, hts⟩ (cwV 0 hts gX4_ringOf_X4_asNow rfl rfl rfl ⟨rfl, eX4_asNow⟩ ⟨Nat.le_of_ble_eq_true rfl, Nat.le_of_ble_eq_true rfl⟩) (c_X4_asNow b0 hr_1) hK hP hD hS hA [0, 1, 2, 3, 4, 5, 6, 7, 8, 9, 10, 11, 12, 13] [] (by decide) rfl rfl 4 rfl rfl [(b0 0), (b0 1), (b0 2), (b0 3), (b0 4), (b0 5), (b0 6), (b0 7), (b0 8), (b0 9), (b0 10), (b0 11), (b0 12), (b0 13)] rfl rfl rfl [] rfl rfl rfl rfl hl.1 rfl (Nat.le_of_ble_eq_true rfl) dX4_ringOf_1 (fun H locs hP hD hS => ?_)
  refine lv_iconst (v := 0) hx hb dX4_ringOf_4 (by decide) ?_
  refine lv_istore_n (lv' := [(2, .int (0 : Int32)), (0, .ref (b0 0)), (1, .int x1)]) hx hb dX4_ringOf_5 rfl hl (by decide) rfl (fun ls hl => ?_)
  refine lv_iload_n hx hb dX4_ringOf_6 rfl (lv_at hl 2 rfl) ?_
  refine lv_istore_n (lv' := [(3, .int x1), (2, .int (0 : Int32)), (0, .ref (b0 0)), (1, .int x1)]) hx hb dX4_ringOf_7 rfl hl (by decide) rfl (fun ls hl => ?_)
  refine lv_iconst (v := 0) hx hb dX4_ringOf_8 (by decide) ?_
  refine lv_istore (lv' := [(4, .int (0 : Int32)), (3, .int x1), (2, .int (0 : Int32)), (0, .ref (b0 0)), (1, .int x1)]) hx hb dX4_ringOf_9 hl (by decide) rfl (fun ls hl => ?_)
  cases h
  exact ih r_1 (0 : Int32) x1 (0 : Int32) _ _ _ hm hP hD hS (lv_sub hl [3, 4, 2, 1, 0] rfl)
theorem wl_X4_ringOf {p : Program} {l : Launch} {e : Env} {s : State} {m : MethodId} {args : Array Value} {below : List Frame} {meth : Method} {c : Code} {A : Nat → Prop} {D : va_G} {cy : Nat → ClassId} {b0 : Nat → Nat} {x1 : Int32} {rr : Int32 × MS} (M : kM p s m args meth c cX4_ringOf 6 (some .int) RX4 wsX4_ringOf A D cy) : ∀ fu : Nat, I_X4_ringOf p l e s m args below meth c A D cy b0 x1 fu rr := by
  intro fu
  induction fu with
  | zero => exact (fun _ _ _ _ _ _ _ h => by cases h)
  | succ fu ih =>
    exact fun uv x2 x3 x4 H locs ls h hP hD hS hl => by
      obtain ⟨o1, h1, h2⟩ := lpn_s h
      exact w_X4_ringOf_11 M ih h1 h2 hP hD hS hl
theorem c_X4_ringOf {l : Launch} {D : va_G} {cy : Nat → ClassId} (b0 : Nat → Nat) {uv : MS} {x1 : Int32} {rr : Int32 × MS} (h : f_X4_ringOf uv x1 = some rr) : CI l D cy yX4_ringOf wsX4_ringOf { frames := 2, cells := 0, slots := 0, locals := 45 } [.ref (b0 0), .int x1] (wM cy b0 uv []) (rr.1) (wM cy b0 rr.2 []) := by
  refine kofI (cc := cX4_ringOf) (maxL := 6) (ret := (some .int)) (by decide) rfl (Nat.le_of_ble_eq_true rfl) ?_
  intro p e s m below meth c A M ls hl hP hD hS
  obtain ⟨o1, fu, h1, h2⟩ := rnx_s h
  exact w_X4_ringOf_0 M (wl_X4_ringOf M fu) h1 h2 hP hD hS hl
theorem eX4_ringOf : yX4_ringOf.cls ≠ "java/lang/invoke/MethodHandle" ∧ yX4_ringOf.cls ≠ "java/lang/invoke/VarHandle" ∧ (parseMethodDescriptor yX4_ringOf.desc).map (fun d => d.parameters.length) = some 1 := by decide +kernel
set_option maxHeartbeats 4000000 in
set_option maxRecDepth 100000 in
theorem w_X4_ring_0 {p : Program} {l : Launch} {e : Env} {s : State} {m : MethodId} {args : Array Value} {below : List Frame} {meth : Method} {c : Code} {A : Nat → Prop} {D : va_G} {cy : Nat → ClassId} {b0 : Nat → Nat} {x1 : Int32} {rr : Int32 × MS} (M : kM p s m args meth c cX4_ring 2 (some .int) RX4 wsX4_ring A D cy) {uv : MS} (h : f_X4_ring uv x1 = some rr) {H : Heap} {locs : List Loc} {ls : Array Slot} (hP : va_P D vwCl (wM cy b0 uv []) H) (hD : va_D A (wM cy b0 uv [])) (hS : va_S A s.heap H locs) (hl : lv_has ls 2 [(0, .ref (b0 0)), (1, .int x1)]) : W p l e { frames := 3, cells := 0, slots := 0, locals := 70 } s m args below meth c H locs 0 0 (MQ below (qI D (wM cy b0 rr.2 []) (rr.1) A) args s 0 0 A) (F0 m 0 ls []) := by
  obtain ⟨hx, hb, hr, hml, hown, hts, hlk, hA, hK⟩ := id M
  unfold f_X4_ring at h
  refine lv_iload_n hx hb dX4_ring_0 rfl (lv_at hl 1 rfl) ?_
  obtain ⟨r_1, hr_1, h⟩ := bn_s h
  refine kcSi (As := [.int x1]) (rest := []) ⟨hx, hb, hml, hown, hts⟩ (va_cwS 1 hts gX4_ring_X4_isMan rfl rfl rfl eX4_isMan ⟨Nat.le_of_ble_eq_true rfl, Nat.le_of_ble_eq_true rfl⟩) (c_X4_isMan  hr_1) hK hP hS hA rfl hl.1 rfl (Nat.le_of_ble_eq_true rfl) dX4_ring_1 (fun H locs hP hS => ?_)
  refine lv_if_eq (tgt := 15) hx hb dX4_ring_4 (by decide) (fun c_2 => ?_) (fun c_2 => ?_)
  · replace h := it_p c_2 h
    refine lv_iconst (v := (-1)) hx hb dX4_ring_15 (by decide) ?_
    cases h
    exact kretI hx hb hr hlk hP hS dX4_ring_16
  · replace h := it_n c_2 h
    refine lv_aload_n hx hb dX4_ring_7 rfl (lv_at hl 0 rfl) ?_
    refine lv_iload_n hx hb dX4_ring_8 rfl (lv_at hl 1 rfl) ?_
    obtain ⟨r_3, hr_3, h⟩ := bn_s h
    refine kcVi (As := [.int x1]) (rest := []) (ws' := (wM cy b0 r_3.2 [])) ⟨hx, hb, hml, hown, hts⟩ (cwV 1 hts gX4_ring_X4_ringOf rfl rfl rfl ⟨rfl, eX4_ringOf⟩ ⟨Nat.le_of_ble_eq_true rfl, Nat.le_of_ble_eq_true rfl⟩) (c_X4_ringOf b0 hr_3) hK hP hD hS hA [0, 1, 2, 3, 4, 5, 6, 7, 8, 9, 10, 11, 12, 13] [] (by decide) rfl rfl 4 rfl rfl [(b0 0), (b0 1), (b0 2), (b0 3), (b0 4), (b0 5), (b0 6), (b0 7), (b0 8), (b0 9), (b0 10), (b0 11), (b0 12), (b0 13)] rfl rfl rfl [] rfl rfl rfl rfl hl.1 rfl (Nat.le_of_ble_eq_true rfl) dX4_ring_9 (fun H locs hP hD hS => ?_)
    refine lv_goto (tgt := 16) hx hb dX4_ring_12 (by decide) ?_
    cases h
    exact kretI hx hb hr hlk hP hS dX4_ring_16
theorem c_X4_ring {l : Launch} {D : va_G} {cy : Nat → ClassId} (b0 : Nat → Nat) {uv : MS} {x1 : Int32} {rr : Int32 × MS} (h : f_X4_ring uv x1 = some rr) : CI l D cy yX4_ring wsX4_ring { frames := 3, cells := 0, slots := 0, locals := 70 } [.ref (b0 0), .int x1] (wM cy b0 uv []) (rr.1) (wM cy b0 rr.2 []) := by
  refine kofI (cc := cX4_ring) (maxL := 2) (ret := (some .int)) (by decide) rfl (Nat.le_of_ble_eq_true rfl) ?_
  intro p e s m below meth c A M ls hl hP hD hS
  exact w_X4_ring_0 M h hP hD hS hl
theorem eX4_ring : yX4_ring.cls ≠ "java/lang/invoke/MethodHandle" ∧ yX4_ring.cls ≠ "java/lang/invoke/VarHandle" ∧ (parseMethodDescriptor yX4_ring.desc).map (fun d => d.parameters.length) = some 1 := by decide +kernel
theorem iX4_say_X4 : ∀ w ∈ u_ws RX4 TX4 21, w ∈ wsX4_say := by decide +kernel
theorem mX4_say_1 : Cond.fieldLink RX4 66 "LentPilesModel" "signs" "I" ∈ wsX4_say := by decide +kernel
theorem mX4_say_2 : Cond.fieldLink RX4 22 "LentPilesModel" "pad" "[I" ∈ wsX4_say := by decide +kernel
set_option maxHeartbeats 4000000 in
set_option maxRecDepth 100000 in
theorem w_X4_say_0 {p : Program} {l : Launch} {e : Env} {s : State} {m : MethodId} {args : Array Value} {below : List Frame} {meth : Method} {c : Code} {A : Nat → Prop} {D : va_G} {cy : Nat → ClassId} {b0 : Nat → Nat} {x1 : Int32} {rr : Int32 × MS} (M : kM p s m args meth c cX4_say 2 (some .int) RX4 wsX4_say A D cy) {uv : MS} (h : f_X4_say uv x1 = some rr) {H : Heap} {locs : List Loc} {ls : Array Slot} (hP : va_P D vwCl (wM cy b0 uv []) H) (hD : va_D A (wM cy b0 uv [])) (hS : va_S A s.heap H locs) (hl : lv_has ls 2 [(0, .ref (b0 0)), (1, .int x1)]) : W p l e { frames := 1, cells := 0, slots := 0, locals := 22 } s m args below meth c H locs 0 0 (MQ below (qI D (wM cy b0 rr.2 []) (rr.1) A) args s 0 0 A) (F0 m 0 ls []) := by
  obtain ⟨hx, hb, hr, hml, hown, hts, hlk, hA, hK⟩ := id M
  unfold f_X4_say at h
  refine lv_iload_n hx hb dX4_say_0 rfl (lv_at hl 1 rfl) ?_
  refine lv_bipush (v := 33) hx hb dX4_say_1 (by decide) ?_
  refine lv_bipush (v := 126) hx hb dX4_say_3 (by decide) ?_
  obtain ⟨r_1, hr_1, h⟩ := bn_s h
  refine kcSi (As := [.int x1, .int (33 : Int32), .int (126 : Int32)]) (rest := []) ⟨hx, hb, hml, hown, hts⟩ (va_cwS 3 hts gX4_say_X4_in rfl rfl rfl eX4_in ⟨Nat.le_of_ble_eq_true rfl, Nat.le_of_ble_eq_true rfl⟩) (c_X4_in  hr_1) hK hP hS hA rfl hl.1 rfl (Nat.le_of_ble_eq_true rfl) dX4_say_5 (fun H locs hP hS => ?_)
  refine lv_if_ne (tgt := 14) hx hb dX4_say_8 (by decide) (fun c_2 => ?_) (fun c_2 => ?_)
  · replace h := it_n c_2 h
    refine lv_aload_n hx hb dX4_say_14 rfl (lv_at hl 0 rfl) ?_
    refine va_get (D := D) (ci := 4) (v := .int uv.2.2.2.2.2.2.2.2.1) (C := RX4) (T := TX4) (N := 21) hx hb hts iX4_say_X4 hown hK.1 hP 0 rfl rfl 8 (by decide) (hts _ mX4_say_1) (fun _ h9 => h9) rfl dX4_say_15 ?_
    refine lv_bipush (v := 60) hx hb dX4_say_18 (by decide) ?_
    refine lv_icmp_ne (tgt := 26) hx hb dX4_say_20 (by decide) (fun c_3 => ?_) (fun c_3 => ?_)
    · replace h := it_n c_3 h
      refine lv_aload_n hx hb dX4_say_26 rfl (lv_at hl 0 rfl) ?_
      refine va_get (D := D) (ci := 4) (v := .ref (b0 5)) (C := RX4) (T := TX4) (N := 21) hx hb hts iX4_say_X4 hown hK.1 hP 0 rfl rfl 9 (by decide) (hts _ mX4_say_2) (fun _ h9 => h9) rfl dX4_say_27 ?_
      refine lv_aload_n hx hb dX4_say_30 rfl (lv_at hl 0 rfl) ?_
      refine va_get (D := D) (ci := 4) (v := .int uv.2.2.2.2.2.2.2.2.1) (C := RX4) (T := TX4) (N := 21) hx hb hts iX4_say_X4 hown hK.1 hP 0 rfl rfl 8 (by decide) (hts _ mX4_say_1) (fun _ h9 => h9) rfl dX4_say_31 ?_
      refine lv_iload_n hx hb dX4_say_34 rfl (lv_at hl 1 rfl) ?_
      obtain ⟨b_4, h⟩ := ck_s h
      refine va_iast hx hb hK.1 hP hD hS 5 1 rfl rfl b_4 dX4_say_35 (fun H locs hP hD hS => ?_)
      obtain ⟨uv_5, euv_5⟩ : ∃ z : MS, z = (uv.1, uv.2.1, uv.2.2.1, uv.2.2.2.1, uv.2.2.2.2.1, uv.2.2.2.2.2.1, uv.2.2.2.2.2.2.1, uv.2.2.2.2.2.2.2.1, uv.2.2.2.2.2.2.2.2.1, (upd uv.2.2.2.2.2.2.2.2.2.1 uv.2.2.2.2.2.2.2.2.1.toNatClampNeg x1), uv.2.2.2.2.2.2.2.2.2.2) := ⟨_, rfl⟩
      replace h := nm_s h euv_5
      have hP : va_P D vwCl (wM cy b0 uv_5 []) H := by subst euv_5; exact hP
      have hD : va_D A (wM cy b0 uv_5 []) := hD.lk [(b0 0), (b0 1), (b0 2), (b0 3), (b0 4), (b0 5), (b0 6), (b0 7), (b0 8), (b0 9), (b0 10), (b0 11), (b0 12), (b0 13)] rfl rfl
      refine lv_aload_n hx hb dX4_say_36 rfl (lv_at hl 0 rfl) ?_
      refine lv_dup hx hb dX4_say_37 rfl ?_
      refine va_get (D := D) (ci := 4) (v := .int uv_5.2.2.2.2.2.2.2.2.1) (C := RX4) (T := TX4) (N := 21) hx hb hts iX4_say_X4 hown hK.1 hP 0 rfl rfl 8 (by decide) (hts _ mX4_say_1) (fun _ h9 => h9) rfl dX4_say_38 ?_
      refine lv_iconst (v := 1) hx hb dX4_say_41 (by decide) ?_
      refine lv_iadd hx hb dX4_say_42 ?_
      refine va_put (D := D) (ci := 4) (v := .int (uv_5.2.2.2.2.2.2.2.2.1 + (1 : Int32))) (ty := .int) (C := RX4) (T := TX4) (N := 21) hx hb hts iX4_say_X4 tyX4 tyX4_ok nmX4 hown hK.1 hP hD hS 0 rfl rfl 8 (by decide) (hts _ mX4_say_1) (fun _ h9 => h9) rfl (by decide +kernel) rfl rfl (Nat.le_of_ble_eq_true rfl) dX4_say_43 (fun H locs hP hD hS => ?_)
      obtain ⟨uv_6, euv_6⟩ : ∃ z : MS, z = (uv_5.1, uv_5.2.1, uv_5.2.2.1, uv_5.2.2.2.1, uv_5.2.2.2.2.1, uv_5.2.2.2.2.2.1, uv_5.2.2.2.2.2.2.1, uv_5.2.2.2.2.2.2.2.1, (uv_5.2.2.2.2.2.2.2.2.1 + (1 : Int32)), uv_5.2.2.2.2.2.2.2.2.2) := ⟨_, rfl⟩
      replace h := nm_s h euv_6
      have hP : va_P D vwCl (wM cy b0 uv_6 []) H := by subst euv_6; exact hP
      have hD : va_D A (wM cy b0 uv_6 []) := hD.lk [(b0 0), (b0 1), (b0 2), (b0 3), (b0 4), (b0 5), (b0 6), (b0 7), (b0 8), (b0 9), (b0 10), (b0 11), (b0 12), (b0 13)] rfl rfl
      refine lv_aload_n hx hb dX4_say_46 rfl (lv_at hl 0 rfl) ?_
      refine va_get (D := D) (ci := 4) (v := .int uv_6.2.2.2.2.2.2.2.2.1) (C := RX4) (T := TX4) (N := 21) hx hb hts iX4_say_X4 hown hK.1 hP 0 rfl rfl 8 (by decide) (hts _ mX4_say_1) (fun _ h9 => h9) rfl dX4_say_47 ?_
      cases h
      exact kretI hx hb hr hlk hP hS dX4_say_50
    · replace h := it_p c_3 h
      refine lv_bipush (v := (-4)) hx hb dX4_say_23 (by decide) ?_
      cases h
      exact kretI hx hb hr hlk hP hS dX4_say_25
  · replace h := it_p c_2 h
    refine lv_bipush (v := (-2)) hx hb dX4_say_11 (by decide) ?_
    cases h
    exact kretI hx hb hr hlk hP hS dX4_say_13
theorem c_X4_say {l : Launch} {D : va_G} {cy : Nat → ClassId} (b0 : Nat → Nat) {uv : MS} {x1 : Int32} {rr : Int32 × MS} (h : f_X4_say uv x1 = some rr) : CI l D cy yX4_say wsX4_say { frames := 1, cells := 0, slots := 0, locals := 22 } [.ref (b0 0), .int x1] (wM cy b0 uv []) (rr.1) (wM cy b0 rr.2 []) := by
  refine kofI (cc := cX4_say) (maxL := 2) (ret := (some .int)) (by decide) rfl (Nat.le_of_ble_eq_true rfl) ?_
  intro p e s m below meth c A M ls hl hP hD hS
  exact w_X4_say_0 M h hP hD hS hl
theorem eX4_say : yX4_say.cls ≠ "java/lang/invoke/MethodHandle" ∧ yX4_say.cls ≠ "java/lang/invoke/VarHandle" ∧ (parseMethodDescriptor yX4_say.desc).map (fun d => d.parameters.length) = some 1 := by decide +kernel
theorem iX4_seen_X4 : ∀ w ∈ u_ws RX4 TX4 21, w ∈ wsX4_seen := by decide +kernel
theorem mX4_seen_1 : Cond.fieldLink RX4 126 "LentPilesModel" "sights" "I" ∈ wsX4_seen := by decide +kernel
theorem mX4_seen_2 : Cond.fieldLink RX4 19 "LentPilesModel" "sight" "[I" ∈ wsX4_seen := by decide +kernel
set_option maxHeartbeats 4000000 in
set_option maxRecDepth 100000 in
theorem w_X4_seen_0 {p : Program} {l : Launch} {e : Env} {s : State} {m : MethodId} {args : Array Value} {below : List Frame} {meth : Method} {c : Code} {A : Nat → Prop} {D : va_G} {cy : Nat → ClassId} {b0 : Nat → Nat} {x1 : Int32} {x2 : Int32} {rr : Int32 × MS} (M : kM p s m args meth c cX4_seen 3 (some .int) RX4 wsX4_seen A D cy) {uv : MS} (h : f_X4_seen uv x1 x2 = some rr) {H : Heap} {locs : List Loc} {ls : Array Slot} (hP : va_P D vwCl (wM cy b0 uv []) H) (hD : va_D A (wM cy b0 uv [])) (hS : va_S A s.heap H locs) (hl : lv_has ls 3 [(0, .ref (b0 0)), (1, .int x1), (2, .int x2)]) : W p l e { frames := 2, cells := 0, slots := 0, locals := 42 } s m args below meth c H locs 0 0 (MQ below (qI D (wM cy b0 rr.2 []) (rr.1) A) args s 0 0 A) (F0 m 0 ls []) := by
  obtain ⟨hx, hb, hr, hml, hown, hts, hlk, hA, hK⟩ := id M
  unfold f_X4_seen at h
  refine lv_iload_n hx hb dX4_seen_0 rfl (lv_at hl 1 rfl) ?_
  obtain ⟨r_1, hr_1, h⟩ := bn_s h
  refine kcSi (As := [.int x1]) (rest := []) ⟨hx, hb, hml, hown, hts⟩ (va_cwS 1 hts gX4_seen_X4_isMan rfl rfl rfl eX4_isMan ⟨Nat.le_of_ble_eq_true rfl, Nat.le_of_ble_eq_true rfl⟩) (c_X4_isMan  hr_1) hK hP hS hA rfl hl.1 rfl (Nat.le_of_ble_eq_true rfl) dX4_seen_1 (fun H locs hP hS => ?_)
  refine lv_if_ne (tgt := 9) hx hb dX4_seen_4 (by decide) (fun c_2 => ?_) (fun c_2 => ?_)
  · replace h := it_n c_2 h
    refine lv_iload_n hx hb dX4_seen_9 rfl (lv_at hl 2 rfl) ?_
    refine lv_iconst (v := 0) hx hb dX4_seen_10 (by decide) ?_
    refine lv_sipush (v := 9999) hx hb dX4_seen_11 (by decide) ?_
    obtain ⟨r_3, hr_3, h⟩ := bn_s h
    refine kcSi (As := [.int x2, .int (0 : Int32), .int (9999 : Int32)]) (rest := []) ⟨hx, hb, hml, hown, hts⟩ (va_cwS 3 hts gX4_seen_X4_in rfl rfl rfl eX4_in ⟨Nat.le_of_ble_eq_true rfl, Nat.le_of_ble_eq_true rfl⟩) (c_X4_in  hr_3) hK hP hS hA rfl hl.1 rfl (Nat.le_of_ble_eq_true rfl) dX4_seen_14 (fun H locs hP hS => ?_)
    refine lv_if_ne (tgt := 23) hx hb dX4_seen_17 (by decide) (fun c_4 => ?_) (fun c_4 => ?_)
    · replace h := it_n c_4 h
      refine lv_aload_n hx hb dX4_seen_23 rfl (lv_at hl 0 rfl) ?_
      refine va_get (D := D) (ci := 4) (v := .int uv.2.2.2.2.2.2.1) (C := RX4) (T := TX4) (N := 21) hx hb hts iX4_seen_X4 hown hK.1 hP 0 rfl rfl 6 (by decide) (hts _ mX4_seen_1) (fun _ h9 => h9) rfl dX4_seen_24 ?_
      refine lv_bipush (v := 6) hx hb dX4_seen_27 (by decide) ?_
      refine lv_icmp_ne (tgt := 35) hx hb dX4_seen_29 (by decide) (fun c_5 => ?_) (fun c_5 => ?_)
      · replace h := it_n c_5 h
        refine lv_aload_n hx hb dX4_seen_35 rfl (lv_at hl 0 rfl) ?_
        refine va_get (D := D) (ci := 4) (v := .ref (b0 4)) (C := RX4) (T := TX4) (N := 21) hx hb hts iX4_seen_X4 hown hK.1 hP 0 rfl rfl 7 (by decide) (hts _ mX4_seen_2) (fun _ h9 => h9) rfl dX4_seen_36 ?_
        refine lv_iconst (v := 2) hx hb dX4_seen_39 (by decide) ?_
        refine lv_aload_n hx hb dX4_seen_40 rfl (lv_at hl 0 rfl) ?_
        refine va_get (D := D) (ci := 4) (v := .int uv.2.2.2.2.2.2.1) (C := RX4) (T := TX4) (N := 21) hx hb hts iX4_seen_X4 hown hK.1 hP 0 rfl rfl 6 (by decide) (hts _ mX4_seen_1) (fun _ h9 => h9) rfl dX4_seen_41 ?_
        refine lv_imul hx hb dX4_seen_44 ?_
        refine lv_iload_n hx hb dX4_seen_45 rfl (lv_at hl 1 rfl) ?_
        obtain ⟨b_6, h⟩ := ck_s h
        refine va_iast hx hb hK.1 hP hD hS 4 1 rfl rfl b_6 dX4_seen_46 (fun H locs hP hD hS => ?_)
        obtain ⟨uv_7, euv_7⟩ : ∃ z : MS, z = (uv.1, uv.2.1, uv.2.2.1, uv.2.2.2.1, uv.2.2.2.2.1, uv.2.2.2.2.2.1, uv.2.2.2.2.2.2.1, (upd uv.2.2.2.2.2.2.2.1 ((2 : Int32) * uv.2.2.2.2.2.2.1).toNatClampNeg x1), uv.2.2.2.2.2.2.2.2) := ⟨_, rfl⟩
        replace h := nm_s h euv_7
        have hP : va_P D vwCl (wM cy b0 uv_7 []) H := by subst euv_7; exact hP
        have hD : va_D A (wM cy b0 uv_7 []) := hD.lk [(b0 0), (b0 1), (b0 2), (b0 3), (b0 4), (b0 5), (b0 6), (b0 7), (b0 8), (b0 9), (b0 10), (b0 11), (b0 12), (b0 13)] rfl rfl
        refine lv_aload_n hx hb dX4_seen_47 rfl (lv_at hl 0 rfl) ?_
        refine va_get (D := D) (ci := 4) (v := .ref (b0 4)) (C := RX4) (T := TX4) (N := 21) hx hb hts iX4_seen_X4 hown hK.1 hP 0 rfl rfl 7 (by decide) (hts _ mX4_seen_2) (fun _ h9 => h9) rfl dX4_seen_48 ?_
        refine lv_iconst (v := 2) hx hb dX4_seen_51 (by decide) ?_
        refine lv_aload_n hx hb dX4_seen_52 rfl (lv_at hl 0 rfl) ?_
        refine va_get (D := D) (ci := 4) (v := .int uv_7.2.2.2.2.2.2.1) (C := RX4) (T := TX4) (N := 21) hx hb hts iX4_seen_X4 hown hK.1 hP 0 rfl rfl 6 (by decide) (hts _ mX4_seen_1) (fun _ h9 => h9) rfl dX4_seen_53 ?_
        refine lv_imul hx hb dX4_seen_56 ?_
        refine lv_iconst (v := 1) hx hb dX4_seen_57 (by decide) ?_
        refine lv_iadd hx hb dX4_seen_58 ?_
        refine lv_iload_n hx hb dX4_seen_59 rfl (lv_at hl 2 rfl) ?_
        obtain ⟨b_8, h⟩ := ck_s h
        refine va_iast hx hb hK.1 hP hD hS 4 1 rfl rfl b_8 dX4_seen_60 (fun H locs hP hD hS => ?_)
        obtain ⟨uv_9, euv_9⟩ : ∃ z : MS, z = (uv_7.1, uv_7.2.1, uv_7.2.2.1, uv_7.2.2.2.1, uv_7.2.2.2.2.1, uv_7.2.2.2.2.2.1, uv_7.2.2.2.2.2.2.1, (upd uv_7.2.2.2.2.2.2.2.1 (((2 : Int32) * uv_7.2.2.2.2.2.2.1) + (1 : Int32)).toNatClampNeg x2), uv_7.2.2.2.2.2.2.2.2) := ⟨_, rfl⟩
        replace h := nm_s h euv_9
        have hP : va_P D vwCl (wM cy b0 uv_9 []) H := by subst euv_9; exact hP
        have hD : va_D A (wM cy b0 uv_9 []) := hD.lk [(b0 0), (b0 1), (b0 2), (b0 3), (b0 4), (b0 5), (b0 6), (b0 7), (b0 8), (b0 9), (b0 10), (b0 11), (b0 12), (b0 13)] rfl rfl
        refine lv_aload_n hx hb dX4_seen_61 rfl (lv_at hl 0 rfl) ?_
        refine lv_dup hx hb dX4_seen_62 rfl ?_
        refine va_get (D := D) (ci := 4) (v := .int uv_9.2.2.2.2.2.2.1) (C := RX4) (T := TX4) (N := 21) hx hb hts iX4_seen_X4 hown hK.1 hP 0 rfl rfl 6 (by decide) (hts _ mX4_seen_1) (fun _ h9 => h9) rfl dX4_seen_63 ?_
        refine lv_iconst (v := 1) hx hb dX4_seen_66 (by decide) ?_
        refine lv_iadd hx hb dX4_seen_67 ?_
        refine va_put (D := D) (ci := 4) (v := .int (uv_9.2.2.2.2.2.2.1 + (1 : Int32))) (ty := .int) (C := RX4) (T := TX4) (N := 21) hx hb hts iX4_seen_X4 tyX4 tyX4_ok nmX4 hown hK.1 hP hD hS 0 rfl rfl 6 (by decide) (hts _ mX4_seen_1) (fun _ h9 => h9) rfl (by decide +kernel) rfl rfl (Nat.le_of_ble_eq_true rfl) dX4_seen_68 (fun H locs hP hD hS => ?_)
        obtain ⟨uv_10, euv_10⟩ : ∃ z : MS, z = (uv_9.1, uv_9.2.1, uv_9.2.2.1, uv_9.2.2.2.1, uv_9.2.2.2.2.1, uv_9.2.2.2.2.2.1, (uv_9.2.2.2.2.2.2.1 + (1 : Int32)), uv_9.2.2.2.2.2.2.2) := ⟨_, rfl⟩
        replace h := nm_s h euv_10
        have hP : va_P D vwCl (wM cy b0 uv_10 []) H := by subst euv_10; exact hP
        have hD : va_D A (wM cy b0 uv_10 []) := hD.lk [(b0 0), (b0 1), (b0 2), (b0 3), (b0 4), (b0 5), (b0 6), (b0 7), (b0 8), (b0 9), (b0 10), (b0 11), (b0 12), (b0 13)] rfl rfl
        refine lv_aload_n hx hb dX4_seen_71 rfl (lv_at hl 0 rfl) ?_
        refine va_get (D := D) (ci := 4) (v := .int uv_10.2.2.2.2.2.2.1) (C := RX4) (T := TX4) (N := 21) hx hb hts iX4_seen_X4 hown hK.1 hP 0 rfl rfl 6 (by decide) (hts _ mX4_seen_1) (fun _ h9 => h9) rfl dX4_seen_72 ?_
        cases h
        exact kretI hx hb hr hlk hP hS dX4_seen_75
      · replace h := it_p c_5 h
        refine lv_bipush (v := (-4)) hx hb dX4_seen_32 (by decide) ?_
        cases h
        exact kretI hx hb hr hlk hP hS dX4_seen_34
    · replace h := it_p c_4 h
      refine lv_bipush (v := (-2)) hx hb dX4_seen_20 (by decide) ?_
      cases h
      exact kretI hx hb hr hlk hP hS dX4_seen_22
  · replace h := it_p c_2 h
    refine lv_iconst (v := (-1)) hx hb dX4_seen_7 (by decide) ?_
    cases h
    exact kretI hx hb hr hlk hP hS dX4_seen_8
theorem c_X4_seen {l : Launch} {D : va_G} {cy : Nat → ClassId} (b0 : Nat → Nat) {uv : MS} {x1 : Int32} {x2 : Int32} {rr : Int32 × MS} (h : f_X4_seen uv x1 x2 = some rr) : CI l D cy yX4_seen wsX4_seen { frames := 2, cells := 0, slots := 0, locals := 42 } [.ref (b0 0), .int x1, .int x2] (wM cy b0 uv []) (rr.1) (wM cy b0 rr.2 []) := by
  refine kofI (cc := cX4_seen) (maxL := 3) (ret := (some .int)) (by decide) rfl (Nat.le_of_ble_eq_true rfl) ?_
  intro p e s m below meth c A M ls hl hP hD hS
  exact w_X4_seen_0 M h hP hD hS hl
theorem eX4_seen : yX4_seen.cls ≠ "java/lang/invoke/MethodHandle" ∧ yX4_seen.cls ≠ "java/lang/invoke/VarHandle" ∧ (parseMethodDescriptor yX4_seen.desc).map (fun d => d.parameters.length) = some 2 := by decide +kernel
theorem iX4_set_X4 : ∀ w ∈ u_ws RX4 TX4 21, w ∈ wsX4_set := by decide +kernel
theorem mX4_set_1 : Cond.fieldLink RX4 63 "LentPilesModel" "rate" "I" ∈ wsX4_set := by decide +kernel
theorem mX4_set_2 : Cond.fieldLink RX4 59 "LentPilesModel" "law" "I" ∈ wsX4_set := by decide +kernel
set_option maxHeartbeats 4000000 in
set_option maxRecDepth 100000 in
theorem w_X4_set_59 {p : Program} {l : Launch} {e : Env} {s : State} {m : MethodId} {args : Array Value} {below : List Frame} {meth : Method} {c : Code} {A : Nat → Prop} {D : va_G} {cy : Nat → ClassId} {b0 : Nat → Nat} {x1 : Int32} {x2 : Int32} {rr : Int32 × MS} (M : kM p s m args meth c cX4_set 4 (some .int) RX4 wsX4_set A D cy) {uv : MS} {x3 : Int32} {t1 : Int32} (h : f_X4_set_59 x1 x2 uv x3 t1 = some rr) {H : Heap} {locs : List Loc} {ls : Array Slot} (hP : va_P D vwCl (wM cy b0 uv []) H) (hD : va_D A (wM cy b0 uv [])) (hS : va_S A s.heap H locs) (hl : lv_has ls 4 [(0, .ref (b0 0)), (1, .int x1), (2, .int x2), (3, .int x3)]) : W p l e { frames := 1, cells := 0, slots := 0, locals := 22 } s m args below meth c H locs 0 0 (MQ below (qI D (wM cy b0 rr.2 []) (rr.1) A) args s 0 0 A) (F0 m 59 ls [.int t1, .ref (b0 0)]) := by
  obtain ⟨hx, hb, hr, hml, hown, hts, hlk, hA, hK⟩ := id M
  unfold f_X4_set_59 at h
  refine va_put (D := D) (ci := 4) (v := .int t1) (ty := .int) (C := RX4) (T := TX4) (N := 21) hx hb hts iX4_set_X4 tyX4 tyX4_ok nmX4 hown hK.1 hP hD hS 0 rfl rfl 0 (by decide) (hts _ mX4_set_2) (fun _ h9 => h9) rfl (by decide +kernel) rfl rfl (Nat.le_of_ble_eq_true rfl) dX4_set_59 (fun H locs hP hD hS => ?_)
  obtain ⟨uv_1, euv_1⟩ : ∃ z : MS, z = (t1, uv.2) := ⟨_, rfl⟩
  replace h := nm_s h euv_1
  have hP : va_P D vwCl (wM cy b0 uv_1 []) H := by subst euv_1; exact hP
  have hD : va_D A (wM cy b0 uv_1 []) := hD.lk [(b0 0), (b0 1), (b0 2), (b0 3), (b0 4), (b0 5), (b0 6), (b0 7), (b0 8), (b0 9), (b0 10), (b0 11), (b0 12), (b0 13)] rfl rfl
  refine lv_aload_n hx hb dX4_set_62 rfl (lv_at hl 0 rfl) ?_
  refine lv_iload_n hx hb dX4_set_63 rfl (lv_at hl 1 rfl) ?_
  refine lv_iconst (v := 1) hx hb dX4_set_64 (by decide) ?_
  refine lv_icmp_ne (tgt := 72) hx hb dX4_set_65 (by decide) (fun c_2 => ?_) (fun c_2 => ?_)
  · replace h := it_n c_2 h
    refine lv_aload_n hx hb dX4_set_72 rfl (lv_at hl 0 rfl) ?_
    refine va_get (D := D) (ci := 4) (v := .int uv_1.2.1) (C := RX4) (T := TX4) (N := 21) hx hb hts iX4_set_X4 hown hK.1 hP 0 rfl rfl 1 (by decide) (hts _ mX4_set_1) (fun _ h9 => h9) rfl dX4_set_73 ?_
    refine va_put (D := D) (ci := 4) (v := .int uv_1.2.1) (ty := .int) (C := RX4) (T := TX4) (N := 21) hx hb hts iX4_set_X4 tyX4 tyX4_ok nmX4 hown hK.1 hP hD hS 0 rfl rfl 1 (by decide) (hts _ mX4_set_1) (fun _ h9 => h9) rfl (by decide +kernel) rfl rfl (Nat.le_of_ble_eq_true rfl) dX4_set_76 (fun H locs hP hD hS => ?_)
    obtain ⟨uv_3, euv_3⟩ : ∃ z : MS, z = (uv_1.1, uv_1.2.1, uv_1.2.2) := ⟨_, rfl⟩
    replace h := nm_s h euv_3
    have hP : va_P D vwCl (wM cy b0 uv_3 []) H := by subst euv_3; exact hP
    have hD : va_D A (wM cy b0 uv_3 []) := hD.lk [(b0 0), (b0 1), (b0 2), (b0 3), (b0 4), (b0 5), (b0 6), (b0 7), (b0 8), (b0 9), (b0 10), (b0 11), (b0 12), (b0 13)] rfl rfl
    refine lv_iload_n hx hb dX4_set_79 rfl (lv_at hl 3 rfl) ?_
    cases h
    exact kretI hx hb hr hlk hP hS dX4_set_80
  · replace h := it_p c_2 h
    refine lv_iload_n hx hb dX4_set_68 rfl (lv_at hl 2 rfl) ?_
    refine lv_goto (tgt := 76) hx hb dX4_set_69 (by decide) ?_
    refine va_put (D := D) (ci := 4) (v := .int x2) (ty := .int) (C := RX4) (T := TX4) (N := 21) hx hb hts iX4_set_X4 tyX4 tyX4_ok nmX4 hown hK.1 hP hD hS 0 rfl rfl 1 (by decide) (hts _ mX4_set_1) (fun _ h9 => h9) rfl (by decide +kernel) rfl rfl (Nat.le_of_ble_eq_true rfl) dX4_set_76 (fun H locs hP hD hS => ?_)
    obtain ⟨uv_4, euv_4⟩ : ∃ z : MS, z = (uv_1.1, x2, uv_1.2.2) := ⟨_, rfl⟩
    replace h := nm_s h euv_4
    have hP : va_P D vwCl (wM cy b0 uv_4 []) H := by subst euv_4; exact hP
    have hD : va_D A (wM cy b0 uv_4 []) := hD.lk [(b0 0), (b0 1), (b0 2), (b0 3), (b0 4), (b0 5), (b0 6), (b0 7), (b0 8), (b0 9), (b0 10), (b0 11), (b0 12), (b0 13)] rfl rfl
    refine lv_iload_n hx hb dX4_set_79 rfl (lv_at hl 3 rfl) ?_
    cases h
    exact kretI hx hb hr hlk hP hS dX4_set_80
set_option maxHeartbeats 4000000 in
set_option maxRecDepth 100000 in
theorem w_X4_set_45 {p : Program} {l : Launch} {e : Env} {s : State} {m : MethodId} {args : Array Value} {below : List Frame} {meth : Method} {c : Code} {A : Nat → Prop} {D : va_G} {cy : Nat → ClassId} {b0 : Nat → Nat} {x1 : Int32} {x2 : Int32} {rr : Int32 × MS} (M : kM p s m args meth c cX4_set 4 (some .int) RX4 wsX4_set A D cy) {uv : MS} {t0 : Int32} (h : f_X4_set_45 x1 x2 uv t0 = some rr) {H : Heap} {locs : List Loc} {ls : Array Slot} (hP : va_P D vwCl (wM cy b0 uv []) H) (hD : va_D A (wM cy b0 uv [])) (hS : va_S A s.heap H locs) (hl : lv_has ls 4 [(0, .ref (b0 0)), (1, .int x1), (2, .int x2)]) : W p l e { frames := 1, cells := 0, slots := 0, locals := 22 } s m args below meth c H locs 0 0 (MQ below (qI D (wM cy b0 rr.2 []) (rr.1) A) args s 0 0 A) (F0 m 45 ls [.int t0]) := by
  obtain ⟨hx, hb, hr, hml, hown, hts, hlk, hA, hK⟩ := id M
  unfold f_X4_set_45 at h
  refine lv_istore_n (lv' := [(3, .int t0), (0, .ref (b0 0)), (1, .int x1), (2, .int x2)]) hx hb dX4_set_45 rfl hl (by decide) rfl (fun ls hl => ?_)
  refine lv_aload_n hx hb dX4_set_46 rfl (lv_at hl 1 rfl) ?_
  refine lv_iload_n hx hb dX4_set_47 rfl (lv_at hl 2 rfl) ?_
  refine lv_if_ne (tgt := 55) hx hb dX4_set_48 (by decide) (fun c_1 => ?_) (fun c_1 => ?_)
  · replace h := it_n c_1 h
    refine lv_aload_n hx hb dX4_set_55 rfl (lv_at hl 1 rfl) ?_
    refine va_get (D := D) (ci := 4) (v := .int uv.1) (C := RX4) (T := TX4) (N := 21) hx hb hts iX4_set_X4 hown hK.1 hP 0 rfl rfl 0 (by decide) (hts _ mX4_set_2) (fun _ h9 => h9) rfl dX4_set_56 ?_
    exact w_X4_set_59 M h hP hD hS (lv_sub hl [1, 2, 3, 0] rfl)
  · replace h := it_p c_1 h
    refine lv_iload_n hx hb dX4_set_51 rfl (lv_at hl 3 rfl) ?_
    refine lv_goto (tgt := 59) hx hb dX4_set_52 (by decide) ?_
    exact w_X4_set_59 M h hP hD hS (lv_sub hl [1, 2, 3, 0] rfl)
set_option maxHeartbeats 4000000 in
set_option maxRecDepth 100000 in
theorem w_X4_set_21 {p : Program} {l : Launch} {e : Env} {s : State} {m : MethodId} {args : Array Value} {below : List Frame} {meth : Method} {c : Code} {A : Nat → Prop} {D : va_G} {cy : Nat → ClassId} {b0 : Nat → Nat} {x1 : Int32} {x2 : Int32} {rr : Int32 × MS} (M : kM p s m args meth c cX4_set 4 (some .int) RX4 wsX4_set A D cy) {uv : MS} {t0 : Int32} {t1 : Int32} {t2 : Int32} (h : f_X4_set_21 x1 x2 uv t0 t1 t2 = some rr) {H : Heap} {locs : List Loc} {ls : Array Slot} (hP : va_P D vwCl (wM cy b0 uv []) H) (hD : va_D A (wM cy b0 uv [])) (hS : va_S A s.heap H locs) (hl : lv_has ls 4 [(0, .ref (b0 0)), (1, .int x1), (2, .int x2)]) : W p l e { frames := 1, cells := 0, slots := 0, locals := 22 } s m args below meth c H locs 0 0 (MQ below (qI D (wM cy b0 rr.2 []) (rr.1) A) args s 0 0 A) (F0 m 21 ls [.int t2, .int t1, .int t0]) := by
  obtain ⟨hx, hb, hr, hml, hown, hts, hlk, hA, hK⟩ := id M
  unfold f_X4_set_21 at h
  obtain ⟨r_1, hr_1, h⟩ := bn_s h
  refine kcSi (As := [.int t0, .int t1, .int t2]) (rest := []) ⟨hx, hb, hml, hown, hts⟩ (va_cwS 3 hts gX4_set_X4_in rfl rfl rfl eX4_in ⟨Nat.le_of_ble_eq_true rfl, Nat.le_of_ble_eq_true rfl⟩) (c_X4_in  hr_1) hK hP hS hA rfl hl.1 rfl (Nat.le_of_ble_eq_true rfl) dX4_set_21 (fun H locs hP hS => ?_)
  refine lv_if_ne (tgt := 30) hx hb dX4_set_24 (by decide) (fun c_2 => ?_) (fun c_2 => ?_)
  · replace h := it_n c_2 h
    refine lv_iload_n hx hb dX4_set_30 rfl (lv_at hl 1 rfl) ?_
    refine lv_if_ne (tgt := 41) hx hb dX4_set_31 (by decide) (fun c_3 => ?_) (fun c_3 => ?_)
    · replace h := it_n c_3 h
      refine lv_aload_n hx hb dX4_set_41 rfl (lv_at hl 0 rfl) ?_
      refine va_get (D := D) (ci := 4) (v := .int uv.2.1) (C := RX4) (T := TX4) (N := 21) hx hb hts iX4_set_X4 hown hK.1 hP 0 rfl rfl 1 (by decide) (hts _ mX4_set_1) (fun _ h9 => h9) rfl dX4_set_42 ?_
      exact w_X4_set_45 M h hP hD hS hl
    · replace h := it_p c_3 h
      refine lv_aload_n hx hb dX4_set_34 rfl (lv_at hl 0 rfl) ?_
      refine va_get (D := D) (ci := 4) (v := .int uv.1) (C := RX4) (T := TX4) (N := 21) hx hb hts iX4_set_X4 hown hK.1 hP 0 rfl rfl 0 (by decide) (hts _ mX4_set_2) (fun _ h9 => h9) rfl dX4_set_35 ?_
      refine lv_goto (tgt := 45) hx hb dX4_set_38 (by decide) ?_
      exact w_X4_set_45 M h hP hD hS hl
  · replace h := it_p c_2 h
    refine lv_bipush (v := (-2)) hx hb dX4_set_27 (by decide) ?_
    cases h
    exact kretI hx hb hr hlk hP hS dX4_set_29
set_option maxHeartbeats 4000000 in
set_option maxRecDepth 100000 in
theorem w_X4_set_0 {p : Program} {l : Launch} {e : Env} {s : State} {m : MethodId} {args : Array Value} {below : List Frame} {meth : Method} {c : Code} {A : Nat → Prop} {D : va_G} {cy : Nat → ClassId} {b0 : Nat → Nat} {x1 : Int32} {x2 : Int32} {rr : Int32 × MS} (M : kM p s m args meth c cX4_set 4 (some .int) RX4 wsX4_set A D cy) {uv : MS} (h : f_X4_set uv x1 x2 = some rr) {H : Heap} {locs : List Loc} {ls : Array Slot} (hP : va_P D vwCl (wM cy b0 uv []) H) (hD : va_D A (wM cy b0 uv [])) (hS : va_S A s.heap H locs) (hl : lv_has ls 4 [(0, .ref (b0 0)), (1, .int x1), (2, .int x2)]) : W p l e { frames := 1, cells := 0, slots := 0, locals := 22 } s m args below meth c H locs 0 0 (MQ below (qI D (wM cy b0 rr.2 []) (rr.1) A) args s 0 0 A) (F0 m 0 ls []) := by
  obtain ⟨hx, hb, hr, hml, hown, hts, hlk, hA, hK⟩ := id M
  unfold f_X4_set at h
  refine lv_iload_n hx hb dX4_set_0 rfl (lv_at hl 1 rfl) ?_
  refine lv_iconst (v := 0) hx hb dX4_set_1 (by decide) ?_
  refine lv_iconst (v := 1) hx hb dX4_set_2 (by decide) ?_
  obtain ⟨r_1, hr_1, h⟩ := bn_s h
  refine kcSi (As := [.int x1, .int (0 : Int32), .int (1 : Int32)]) (rest := []) ⟨hx, hb, hml, hown, hts⟩ (va_cwS 3 hts gX4_set_X4_in rfl rfl rfl eX4_in ⟨Nat.le_of_ble_eq_true rfl, Nat.le_of_ble_eq_true rfl⟩) (c_X4_in  hr_1) hK hP hS hA rfl hl.1 rfl (Nat.le_of_ble_eq_true rfl) dX4_set_3 (fun H locs hP hS => ?_)
  refine lv_if_eq (tgt := 27) hx hb dX4_set_6 (by decide) (fun c_2 => ?_) (fun c_2 => ?_)
  · replace h := it_p c_2 h
    refine lv_bipush (v := (-2)) hx hb dX4_set_27 (by decide) ?_
    cases h
    exact kretI hx hb hr hlk hP hS dX4_set_29
  · replace h := it_n c_2 h
    refine lv_iload_n hx hb dX4_set_9 rfl (lv_at hl 2 rfl) ?_
    refine lv_iconst (v := 0) hx hb dX4_set_10 (by decide) ?_
    refine lv_iload_n hx hb dX4_set_11 rfl (lv_at hl 1 rfl) ?_
    refine lv_if_ne (tgt := 19) hx hb dX4_set_12 (by decide) (fun c_3 => ?_) (fun c_3 => ?_)
    · replace h := it_n c_3 h
      refine lv_bipush (v := 9) hx hb dX4_set_19 (by decide) ?_
      exact w_X4_set_21 M h hP hD hS hl
    · replace h := it_p c_3 h
      refine lv_iconst (v := 2) hx hb dX4_set_15 (by decide) ?_
      refine lv_goto (tgt := 21) hx hb dX4_set_16 (by decide) ?_
      exact w_X4_set_21 M h hP hD hS hl
theorem c_X4_set {l : Launch} {D : va_G} {cy : Nat → ClassId} (b0 : Nat → Nat) {uv : MS} {x1 : Int32} {x2 : Int32} {rr : Int32 × MS} (h : f_X4_set uv x1 x2 = some rr) : CI l D cy yX4_set wsX4_set { frames := 1, cells := 0, slots := 0, locals := 22 } [.ref (b0 0), .int x1, .int x2] (wM cy b0 uv []) (rr.1) (wM cy b0 rr.2 []) := by
  refine kofI (cc := cX4_set) (maxL := 4) (ret := (some .int)) (by decide) rfl (Nat.le_of_ble_eq_true rfl) ?_
  intro p e s m below meth c A M ls hl hP hD hS
  exact w_X4_set_0 M h hP hD hS hl
theorem eX4_set : yX4_set.cls ≠ "java/lang/invoke/MethodHandle" ∧ yX4_set.cls ≠ "java/lang/invoke/VarHandle" ∧ (parseMethodDescriptor yX4_set.desc).map (fun d => d.parameters.length) = some 2 := by decide +kernel
theorem iX4_setOff_X4 : ∀ w ∈ u_ws RX4 TX4 21, w ∈ wsX4_setOff := by decide +kernel
theorem mX4_setOff_1 : Cond.constant RX4 141 (1000000) ∈ wsX4_setOff := by decide +kernel
theorem mX4_setOff_2 : Cond.fieldLink RX4 31 "LentPilesModel" "nowPile" "[I" ∈ wsX4_setOff := by decide +kernel
def I_X4_setOff (p : Program) (l : Launch) (e : Env) (s : State) (m : MethodId) (args : Array Value) (below : List Frame) (meth : Method) (c : Code) (A : Nat → Prop) (D : va_G) (cy : Nat → ClassId) (b0 : Nat → Nat) (x1 : Int32) (fu : Nat) (rr : Int32 × MS) : Prop := (∀ (uv : MS) (x2 : Int32) (x3 : Int32) (x4 : Int32) (H : Heap) (locs : List Loc) (ls : Array Slot), lpn (st_X4_setOff x1) fu (.inl (uv, x2, x3, x4)) = some rr → va_P D vwCl (wM cy b0 uv []) H → va_D A (wM cy b0 uv []) → va_S A s.heap H locs → lv_has ls 6 [(0, .ref (b0 0)), (1, .int x1), (2, .int x2), (3, .int x3), (4, .int x4)] → W p l e { frames := 3, cells := 0, slots := 0, locals := 70 } s m args below meth c H locs 0 0 (MQ below (qI D (wM cy b0 rr.2 []) (rr.1) A) args s 0 0 A) (F0 m 28 ls [])) ∧ (∀ (uv : MS) (x2 : Int32) (x3 : Int32) (x4 : Int32) (H : Heap) (locs : List Loc) (ls : Array Slot), lpn (st_X4_setOff x1) fu (.inr (uv, x2, x3, x4)) = some rr → va_P D vwCl (wM cy b0 uv []) H → va_D A (wM cy b0 uv []) → va_S A s.heap H locs → lv_has ls 6 [(0, .ref (b0 0)), (1, .int x1), (2, .int x2), (3, .int x3), (4, .int x4)] → W p l e { frames := 3, cells := 0, slots := 0, locals := 70 } s m args below meth c H locs 0 0 (MQ below (qI D (wM cy b0 rr.2 []) (rr.1) A) args s 0 0 A) (F0 m 74 ls []))
set_option maxHeartbeats 4000000 in
set_option maxRecDepth 100000 in
theorem w_X4_setOff_74 {p : Program} {l : Launch} {e : Env} {s : State} {m : MethodId} {args : Array Value} {below : List Frame} {meth : Method} {c : Code} {A : Nat → Prop} {D : va_G} {cy : Nat → ClassId} {b0 : Nat → Nat} {x1 : Int32} {fu : Nat} {rr : Int32 × MS} (M : kM p s m args meth c cX4_setOff 6 (some .int) RX4 wsX4_setOff A D cy) (ih : I_X4_setOff p l e s m args below meth c A D cy b0 x1 fu rr) {uv : MS} {x2 : Int32} {x3 : Int32} {x4 : Int32} {oo : ((MS × Int32 × Int32 × Int32) ⊕ (MS × Int32 × Int32 × Int32)) ⊕ (Int32 × MS)} (h : f_X4_setOff_74 x1 uv x2 x3 x4 = some oo) (hm : lpo (st_X4_setOff x1) fu oo rr) {H : Heap} {locs : List Loc} {ls : Array Slot} (hP : va_P D vwCl (wM cy b0 uv []) H) (hD : va_D A (wM cy b0 uv [])) (hS : va_S A s.heap H locs) (hl : lv_has ls 6 [(0, .ref (b0 0)), (1, .int x1), (2, .int x2), (3, .int x3), (4, .int x4)]) : W p l e { frames := 3, cells := 0, slots := 0, locals := 70 } s m args below meth c H locs 0 0 (MQ below (qI D (wM cy b0 rr.2 []) (rr.1) A) args s 0 0 A) (F0 m 74 ls []) := by
  obtain ⟨hx, hb, hr, hml, hown, hts, hlk, hA, hK⟩ := id M
  unfold f_X4_setOff_74 at h
  refine lv_iload hx hb dX4_setOff_74 (lv_at hl 4 rfl) ?_
  refine lv_bipush (v := 6) hx hb dX4_setOff_76 (by decide) ?_
  refine lv_icmp_ge (tgt := 147) hx hb dX4_setOff_78 (by decide) (fun c_1 => ?_) (fun c_1 => ?_)
  · replace h := it_p c_1 h
    refine lv_aload_n hx hb dX4_setOff_147 rfl (lv_at hl 0 rfl) ?_
    obtain ⟨r_2, hr_2, h⟩ := bn_s h
    refine kcVv (As := []) (rest := []) (ws' := (wM cy b0 r_2 [])) ⟨hx, hb, hml, hown, hts⟩ (cwV 0 hts gX4_setOff_X4_keepNow rfl rfl rfl ⟨rfl, eX4_keepNow⟩ ⟨Nat.le_of_ble_eq_true rfl, Nat.le_of_ble_eq_true rfl⟩) (c_X4_keepNow b0 hr_2) hK hP hD hS hA [0, 1, 2, 3, 4, 5, 6, 7, 8, 9, 10, 11, 12, 13] [] (by decide) rfl rfl 4 rfl rfl [(b0 0), (b0 1), (b0 2), (b0 3), (b0 4), (b0 5), (b0 6), (b0 7), (b0 8), (b0 9), (b0 10), (b0 11), (b0 12), (b0 13)] rfl rfl rfl [] rfl rfl rfl rfl hl.1 rfl (Nat.le_of_ble_eq_true rfl) dX4_setOff_148 (fun H locs hP hD hS => ?_)
    refine lv_iload_n hx hb dX4_setOff_151 rfl (lv_at hl 3 rfl) ?_
    cases h
    have hm : _ = rr := hm
    subst hm
    exact kretI hx hb hr hlk hP hS dX4_setOff_152
  · replace h := it_n c_1 h
    refine lv_iload_n hx hb dX4_setOff_81 rfl (lv_at hl 2 rfl) ?_
    refine lv_iload hx hb dX4_setOff_82 (lv_at hl 4 rfl) ?_
    obtain ⟨r_3, hr_3, h⟩ := bn_s h
    refine kcSi (As := [.int x2, .int x4]) (rest := []) ⟨hx, hb, hml, hown, hts⟩ (va_cwS 2 hts gX4_setOff_X4_has rfl rfl rfl eX4_has ⟨Nat.le_of_ble_eq_true rfl, Nat.le_of_ble_eq_true rfl⟩) (c_X4_has  hr_3) hK hP hS hA rfl hl.1 rfl (Nat.le_of_ble_eq_true rfl) dX4_setOff_84 (fun H locs hP hS => ?_)
    refine lv_if_eq (tgt := 141) hx hb dX4_setOff_87 (by decide) (fun c_4 => ?_) (fun c_4 => ?_)
    · replace h := it_p c_4 h
      obtain ⟨x4_5, ex4_5⟩ : ∃ z : Int32, z = (x4 + (1 : Int32)) := ⟨_, rfl⟩
      replace h := nm_s h ex4_5
      refine lv_iinc (v := x4_5) (lv' := [(4, .int x4_5), (0, .ref (b0 0)), (1, .int x1), (2, .int x2), (3, .int x3)]) hx hb dX4_setOff_141 hl (k := 4) rfl (by rw [ex4_5]; rfl) (by decide) rfl (fun ls hl => ?_)
      refine lv_goto (tgt := 74) hx hb dX4_setOff_144 (by decide) ?_
      cases h
      exact ih.2 uv x2 x3 x4_5 _ _ _ hm hP hD hS (lv_sub hl [1, 2, 3, 4, 0] rfl)
    · replace h := it_n c_4 h
      refine lv_aload_n hx hb dX4_setOff_90 rfl (lv_at hl 0 rfl) ?_
      refine lv_iload hx hb dX4_setOff_91 (lv_at hl 4 rfl) ?_
      obtain ⟨r_6, hr_6, h⟩ := bn_s h
      refine kcVi (As := [.int x4]) (rest := []) (ws' := (wM cy b0 uv [])) ⟨hx, hb, hml, hown, hts⟩ (cwV 1 hts gX4_setOff_X4_dueNow rfl rfl rfl ⟨rfl, eX4_dueNow⟩ ⟨Nat.le_of_ble_eq_true rfl, Nat.le_of_ble_eq_true rfl⟩) (c_X4_dueNow b0 hr_6) hK hP hD hS hA [0, 1, 2, 3, 4, 5, 6, 7, 8, 9, 10, 11, 12, 13] [] (by decide) rfl rfl 4 rfl rfl [(b0 0), (b0 1), (b0 2), (b0 3), (b0 4), (b0 5), (b0 6), (b0 7), (b0 8), (b0 9), (b0 10), (b0 11), (b0 12), (b0 13)] rfl rfl rfl [] rfl rfl rfl rfl hl.1 rfl (Nat.le_of_ble_eq_true rfl) dX4_setOff_93 (fun H locs hP hD hS => ?_)
      refine lv_istore (lv' := [(5, .int r_6), (0, .ref (b0 0)), (1, .int x1), (2, .int x2), (3, .int x3), (4, .int x4)]) hx hb dX4_setOff_96 hl (by decide) rfl (fun ls hl => ?_)
      refine lv_aload_n hx hb dX4_setOff_98 rfl (lv_at hl 1 rfl) ?_
      refine va_get (D := D) (ci := 4) (v := .ref (b0 8)) (C := RX4) (T := TX4) (N := 21) hx hb hts iX4_setOff_X4 hown hK.1 hP 0 rfl rfl 13 (by decide) (hts _ mX4_setOff_2) (fun _ h9 => h9) rfl dX4_setOff_99 ?_
      refine lv_iload hx hb dX4_setOff_102 (lv_at hl 5 rfl) ?_
      refine lv_iload hx hb dX4_setOff_104 (lv_at hl 0 rfl) ?_
      obtain ⟨r_7, hr_7, h⟩ := bn_s h
      refine kcSi (As := [.int x4, .int r_6]) (rest := [.ref (b0 8)]) ⟨hx, hb, hml, hown, hts⟩ (va_cwS 2 hts gX4_setOff_X4_at rfl rfl rfl eX4_at ⟨Nat.le_of_ble_eq_true rfl, Nat.le_of_ble_eq_true rfl⟩) (c_X4_at  hr_7) hK hP hS hA rfl hl.1 rfl (Nat.le_of_ble_eq_true rfl) dX4_setOff_106 (fun H locs hP hS => ?_)
      refine lv_iconst (v := 1) hx hb dX4_setOff_109 (by decide) ?_
      refine lv_iadd hx hb dX4_setOff_110 ?_
      refine lv_dup2_11 hx hb dX4_setOff_111 rfl rfl ?_
      obtain ⟨b_8, h⟩ := ck_s h
      refine va_iald hx hb hK.1 hP 8 1 rfl rfl b_8 dX4_setOff_112 ?_
      refine lv_iload_n hx hb dX4_setOff_113 rfl (lv_at hl 4 rfl) ?_
      refine lv_isub hx hb dX4_setOff_114 ?_
      refine va_iast hx hb hK.1 hP hD hS 8 1 rfl rfl b_8 dX4_setOff_115 (fun H locs hP hD hS => ?_)
      obtain ⟨uv_9, euv_9⟩ : ∃ z : MS, z = (uv.1, uv.2.1, uv.2.2.1, uv.2.2.2.1, uv.2.2.2.2.1, uv.2.2.2.2.2.1, uv.2.2.2.2.2.2.1, uv.2.2.2.2.2.2.2.1, uv.2.2.2.2.2.2.2.2.1, uv.2.2.2.2.2.2.2.2.2.1, uv.2.2.2.2.2.2.2.2.2.2.1, uv.2.2.2.2.2.2.2.2.2.2.2.1, uv.2.2.2.2.2.2.2.2.2.2.2.2.1, (upd uv.2.2.2.2.2.2.2.2.2.2.2.2.2.1 (r_7 + (1 : Int32)).toNatClampNeg ((uv.2.2.2.2.2.2.2.2.2.2.2.2.2.1 (r_7 + (1 : Int32)).toNatClampNeg) - x3)), uv.2.2.2.2.2.2.2.2.2.2.2.2.2.2) := ⟨_, rfl⟩
      replace h := nm_s h euv_9
      have hP : va_P D vwCl (wM cy b0 uv_9 []) H := by subst euv_9; exact hP
      have hD : va_D A (wM cy b0 uv_9 []) := hD.lk [(b0 0), (b0 1), (b0 2), (b0 3), (b0 4), (b0 5), (b0 6), (b0 7), (b0 8), (b0 9), (b0 10), (b0 11), (b0 12), (b0 13)] rfl rfl
      refine lv_aload_n hx hb dX4_setOff_116 rfl (lv_at hl 1 rfl) ?_
      refine va_get (D := D) (ci := 4) (v := .ref (b0 8)) (C := RX4) (T := TX4) (N := 21) hx hb hts iX4_setOff_X4 hown hK.1 hP 0 rfl rfl 13 (by decide) (hts _ mX4_setOff_2) (fun _ h9 => h9) rfl dX4_setOff_117 ?_
      refine lv_iload hx hb dX4_setOff_120 (lv_at hl 5 rfl) ?_
      refine lv_iload hx hb dX4_setOff_122 (lv_at hl 0 rfl) ?_
      obtain ⟨r_10, hr_10, h⟩ := bn_s h
      refine kcSi (As := [.int x4, .int r_6]) (rest := [.ref (b0 8)]) ⟨hx, hb, hml, hown, hts⟩ (va_cwS 2 hts gX4_setOff_X4_at rfl rfl rfl eX4_at ⟨Nat.le_of_ble_eq_true rfl, Nat.le_of_ble_eq_true rfl⟩) (c_X4_at  hr_10) hK hP hS hA rfl hl.1 rfl (Nat.le_of_ble_eq_true rfl) dX4_setOff_124 (fun H locs hP hS => ?_)
      refine lv_iconst (v := 1) hx hb dX4_setOff_127 (by decide) ?_
      refine lv_iadd hx hb dX4_setOff_128 ?_
      obtain ⟨b_11, h⟩ := ck_s h
      refine va_iald hx hb hK.1 hP 8 1 rfl rfl b_11 dX4_setOff_129 ?_
      refine lv_if_ne (tgt := 141) hx hb dX4_setOff_130 (by decide) (fun c_12 => ?_) (fun c_12 => ?_)
      · replace h := it_n c_12 h
        obtain ⟨x4_13, ex4_13⟩ : ∃ z : Int32, z = (x4 + (1 : Int32)) := ⟨_, rfl⟩
        replace h := nm_s h ex4_13
        refine lv_iinc (v := x4_13) (lv' := [(4, .int x4_13), (5, .int r_6), (0, .ref (b0 0)), (1, .int x1), (2, .int x2), (3, .int x3)]) hx hb dX4_setOff_141 hl (k := 5) rfl (by rw [ex4_13]; rfl) (by decide) rfl (fun ls hl => ?_)
        refine lv_goto (tgt := 74) hx hb dX4_setOff_144 (by decide) ?_
        cases h
        exact ih.2 uv_9 x2 x3 x4_13 _ _ _ hm hP hD hS (lv_sub hl [2, 3, 4, 5, 0] rfl)
      · replace h := it_p c_12 h
        refine lv_aload_n hx hb dX4_setOff_133 rfl (lv_at hl 1 rfl) ?_
        refine lv_iload hx hb dX4_setOff_134 (lv_at hl 5 rfl) ?_
        refine lv_iload hx hb dX4_setOff_136 (lv_at hl 0 rfl) ?_
        obtain ⟨r_14, hr_14, h⟩ := bn_s h
        refine kcVv (As := [.int x4, .int r_6]) (rest := []) (ws' := (wM cy b0 r_14 [])) ⟨hx, hb, hml, hown, hts⟩ (cwV 2 hts gX4_setOff_X4_takeOut rfl rfl rfl ⟨rfl, eX4_takeOut⟩ ⟨Nat.le_of_ble_eq_true rfl, Nat.le_of_ble_eq_true rfl⟩) (c_X4_takeOut b0 hr_14) hK hP hD hS hA [0, 1, 2, 3, 4, 5, 6, 7, 8, 9, 10, 11, 12, 13] [] (by decide) rfl rfl 4 rfl rfl [(b0 0), (b0 1), (b0 2), (b0 3), (b0 4), (b0 5), (b0 6), (b0 7), (b0 8), (b0 9), (b0 10), (b0 11), (b0 12), (b0 13)] rfl rfl rfl [] rfl rfl rfl rfl hl.1 rfl (Nat.le_of_ble_eq_true rfl) dX4_setOff_138 (fun H locs hP hD hS => ?_)
        obtain ⟨x4_15, ex4_15⟩ : ∃ z : Int32, z = (x4 + (1 : Int32)) := ⟨_, rfl⟩
        replace h := nm_s h ex4_15
        refine lv_iinc (v := x4_15) (lv' := [(4, .int x4_15), (5, .int r_6), (0, .ref (b0 0)), (1, .int x1), (2, .int x2), (3, .int x3)]) hx hb dX4_setOff_141 hl (k := 5) rfl (by rw [ex4_15]; rfl) (by decide) rfl (fun ls hl => ?_)
        refine lv_goto (tgt := 74) hx hb dX4_setOff_144 (by decide) ?_
        cases h
        exact ih.2 r_14 x2 x3 x4_15 _ _ _ hm hP hD hS (lv_sub hl [2, 3, 4, 5, 0] rfl)
set_option maxHeartbeats 4000000 in
set_option maxRecDepth 100000 in
theorem w_X4_setOff_28 {p : Program} {l : Launch} {e : Env} {s : State} {m : MethodId} {args : Array Value} {below : List Frame} {meth : Method} {c : Code} {A : Nat → Prop} {D : va_G} {cy : Nat → ClassId} {b0 : Nat → Nat} {x1 : Int32} {fu : Nat} {rr : Int32 × MS} (M : kM p s m args meth c cX4_setOff 6 (some .int) RX4 wsX4_setOff A D cy) (ih : I_X4_setOff p l e s m args below meth c A D cy b0 x1 fu rr) {uv : MS} {x2 : Int32} {x3 : Int32} {x4 : Int32} {oo : ((MS × Int32 × Int32 × Int32) ⊕ (MS × Int32 × Int32 × Int32)) ⊕ (Int32 × MS)} (h : f_X4_setOff_28 x1 uv x2 x3 x4 = some oo) (hm : lpo (st_X4_setOff x1) fu oo rr) {H : Heap} {locs : List Loc} {ls : Array Slot} (hP : va_P D vwCl (wM cy b0 uv []) H) (hD : va_D A (wM cy b0 uv [])) (hS : va_S A s.heap H locs) (hl : lv_has ls 6 [(0, .ref (b0 0)), (1, .int x1), (2, .int x2), (3, .int x3), (4, .int x4)]) : W p l e { frames := 3, cells := 0, slots := 0, locals := 70 } s m args below meth c H locs 0 0 (MQ below (qI D (wM cy b0 rr.2 []) (rr.1) A) args s 0 0 A) (F0 m 28 ls []) := by
  obtain ⟨hx, hb, hr, hml, hown, hts, hlk, hA, hK⟩ := id M
  unfold f_X4_setOff_28 at h
  refine lv_iload hx hb dX4_setOff_28 (lv_at hl 4 rfl) ?_
  refine lv_bipush (v := 6) hx hb dX4_setOff_30 (by decide) ?_
  refine lv_icmp_ge (tgt := 71) hx hb dX4_setOff_32 (by decide) (fun c_1 => ?_) (fun c_1 => ?_)
  · replace h := it_p c_1 h
    refine lv_iconst (v := 0) hx hb dX4_setOff_71 (by decide) ?_
    refine lv_istore (lv' := [(4, .int (0 : Int32)), (0, .ref (b0 0)), (1, .int x1), (2, .int x2), (3, .int x3)]) hx hb dX4_setOff_72 hl (by decide) rfl (fun ls hl => ?_)
    cases h
    exact ih.2 uv x2 x3 (0 : Int32) _ _ _ hm hP hD hS (lv_sub hl [1, 2, 3, 4, 0] rfl)
  · replace h := it_n c_1 h
    refine lv_iload_n hx hb dX4_setOff_35 rfl (lv_at hl 2 rfl) ?_
    refine lv_iload hx hb dX4_setOff_36 (lv_at hl 4 rfl) ?_
    obtain ⟨r_2, hr_2, h⟩ := bn_s h
    refine kcSi (As := [.int x2, .int x4]) (rest := []) ⟨hx, hb, hml, hown, hts⟩ (va_cwS 2 hts gX4_setOff_X4_has rfl rfl rfl eX4_has ⟨Nat.le_of_ble_eq_true rfl, Nat.le_of_ble_eq_true rfl⟩) (c_X4_has  hr_2) hK hP hS hA rfl hl.1 rfl (Nat.le_of_ble_eq_true rfl) dX4_setOff_38 (fun H locs hP hS => ?_)
    refine lv_if_eq (tgt := 63) hx hb dX4_setOff_41 (by decide) (fun c_3 => ?_) (fun c_3 => ?_)
    · replace h := it_p c_3 h
      refine lv_iload_n hx hb dX4_setOff_63 rfl (lv_at hl 3 rfl) ?_
      refine lv_istore_n (lv' := [(3, .int x3), (0, .ref (b0 0)), (1, .int x1), (2, .int x2), (4, .int x4)]) hx hb dX4_setOff_64 rfl hl (by decide) rfl (fun ls hl => ?_)
      obtain ⟨x4_4, ex4_4⟩ : ∃ z : Int32, z = (x4 + (1 : Int32)) := ⟨_, rfl⟩
      replace h := nm_s h ex4_4
      refine lv_iinc (v := x4_4) (lv' := [(4, .int x4_4), (3, .int x3), (0, .ref (b0 0)), (1, .int x1), (2, .int x2)]) hx hb dX4_setOff_65 hl (k := 4) rfl (by rw [ex4_4]; rfl) (by decide) rfl (fun ls hl => ?_)
      refine lv_goto (tgt := 28) hx hb dX4_setOff_68 (by decide) ?_
      cases h
      exact ih.1 uv x2 x3 x4_4 _ _ _ hm hP hD hS (lv_sub hl [2, 3, 4, 1, 0] rfl)
    · replace h := it_n c_3 h
      refine lv_aload_n hx hb dX4_setOff_44 rfl (lv_at hl 0 rfl) ?_
      refine lv_iload hx hb dX4_setOff_45 (lv_at hl 4 rfl) ?_
      obtain ⟨r_5, hr_5, h⟩ := bn_s h
      refine kcVi (As := [.int x4]) (rest := []) (ws' := (wM cy b0 uv [])) ⟨hx, hb, hml, hown, hts⟩ (cwV 1 hts gX4_setOff_X4_penceDue rfl rfl rfl ⟨rfl, eX4_penceDue⟩ ⟨Nat.le_of_ble_eq_true rfl, Nat.le_of_ble_eq_true rfl⟩) (c_X4_penceDue b0 hr_5) hK hP hD hS hA [0, 1, 2, 3, 4, 5, 6, 7, 8, 9, 10, 11, 12, 13] [] (by decide) rfl rfl 4 rfl rfl [(b0 0), (b0 1), (b0 2), (b0 3), (b0 4), (b0 5), (b0 6), (b0 7), (b0 8), (b0 9), (b0 10), (b0 11), (b0 12), (b0 13)] rfl rfl rfl [] rfl rfl rfl rfl hl.1 rfl (Nat.le_of_ble_eq_true rfl) dX4_setOff_47 (fun H locs hP hD hS => ?_)
      refine lv_iload_n hx hb dX4_setOff_50 rfl (lv_at hl 3 rfl) ?_
      refine lv_icmp_ge (tgt := 63) hx hb dX4_setOff_51 (by decide) (fun c_6 => ?_) (fun c_6 => ?_)
      · replace h := it_p c_6 h
        refine lv_iload_n hx hb dX4_setOff_63 rfl (lv_at hl 3 rfl) ?_
        refine lv_istore_n (lv' := [(3, .int x3), (0, .ref (b0 0)), (1, .int x1), (2, .int x2), (4, .int x4)]) hx hb dX4_setOff_64 rfl hl (by decide) rfl (fun ls hl => ?_)
        obtain ⟨x4_7, ex4_7⟩ : ∃ z : Int32, z = (x4 + (1 : Int32)) := ⟨_, rfl⟩
        replace h := nm_s h ex4_7
        refine lv_iinc (v := x4_7) (lv' := [(4, .int x4_7), (3, .int x3), (0, .ref (b0 0)), (1, .int x1), (2, .int x2)]) hx hb dX4_setOff_65 hl (k := 4) rfl (by rw [ex4_7]; rfl) (by decide) rfl (fun ls hl => ?_)
        refine lv_goto (tgt := 28) hx hb dX4_setOff_68 (by decide) ?_
        cases h
        exact ih.1 uv x2 x3 x4_7 _ _ _ hm hP hD hS (lv_sub hl [2, 3, 4, 1, 0] rfl)
      · replace h := it_n c_6 h
        refine lv_aload_n hx hb dX4_setOff_54 rfl (lv_at hl 0 rfl) ?_
        refine lv_iload hx hb dX4_setOff_55 (lv_at hl 4 rfl) ?_
        obtain ⟨r_8, hr_8, h⟩ := bn_s h
        refine kcVi (As := [.int x4]) (rest := []) (ws' := (wM cy b0 uv [])) ⟨hx, hb, hml, hown, hts⟩ (cwV 1 hts gX4_setOff_X4_penceDue rfl rfl rfl ⟨rfl, eX4_penceDue⟩ ⟨Nat.le_of_ble_eq_true rfl, Nat.le_of_ble_eq_true rfl⟩) (c_X4_penceDue b0 hr_8) hK hP hD hS hA [0, 1, 2, 3, 4, 5, 6, 7, 8, 9, 10, 11, 12, 13] [] (by decide) rfl rfl 4 rfl rfl [(b0 0), (b0 1), (b0 2), (b0 3), (b0 4), (b0 5), (b0 6), (b0 7), (b0 8), (b0 9), (b0 10), (b0 11), (b0 12), (b0 13)] rfl rfl rfl [] rfl rfl rfl rfl hl.1 rfl (Nat.le_of_ble_eq_true rfl) dX4_setOff_57 (fun H locs hP hD hS => ?_)
        refine lv_goto (tgt := 64) hx hb dX4_setOff_60 (by decide) ?_
        refine lv_istore_n (lv' := [(3, .int r_8), (0, .ref (b0 0)), (1, .int x1), (2, .int x2), (4, .int x4)]) hx hb dX4_setOff_64 rfl hl (by decide) rfl (fun ls hl => ?_)
        obtain ⟨x4_9, ex4_9⟩ : ∃ z : Int32, z = (x4 + (1 : Int32)) := ⟨_, rfl⟩
        replace h := nm_s h ex4_9
        refine lv_iinc (v := x4_9) (lv' := [(4, .int x4_9), (3, .int r_8), (0, .ref (b0 0)), (1, .int x1), (2, .int x2)]) hx hb dX4_setOff_65 hl (k := 4) rfl (by rw [ex4_9]; rfl) (by decide) rfl (fun ls hl => ?_)
        refine lv_goto (tgt := 28) hx hb dX4_setOff_68 (by decide) ?_
        cases h
        exact ih.1 uv x2 r_8 x4_9 _ _ _ hm hP hD hS (lv_sub hl [2, 3, 4, 1, 0] rfl)
set_option maxHeartbeats 4000000 in
set_option maxRecDepth 100000 in
theorem w_X4_setOff_0 {p : Program} {l : Launch} {e : Env} {s : State} {m : MethodId} {args : Array Value} {below : List Frame} {meth : Method} {c : Code} {A : Nat → Prop} {D : va_G} {cy : Nat → ClassId} {b0 : Nat → Nat} {x1 : Int32} {fu : Nat} {rr : Int32 × MS} (M : kM p s m args meth c cX4_setOff 6 (some .int) RX4 wsX4_setOff A D cy) (ih : I_X4_setOff p l e s m args below meth c A D cy b0 x1 fu rr) {uv : MS} {oo : ((MS × Int32 × Int32 × Int32) ⊕ (MS × Int32 × Int32 × Int32)) ⊕ (Int32 × MS)} (h : f_X4_setOff_0 uv x1 = some oo) (hm : lpo (st_X4_setOff x1) fu oo rr) {H : Heap} {locs : List Loc} {ls : Array Slot} (hP : va_P D vwCl (wM cy b0 uv []) H) (hD : va_D A (wM cy b0 uv [])) (hS : va_S A s.heap H locs) (hl : lv_has ls 6 [(0, .ref (b0 0)), (1, .int x1)]) : W p l e { frames := 3, cells := 0, slots := 0, locals := 70 } s m args below meth c H locs 0 0 (MQ below (qI D (wM cy b0 rr.2 []) (rr.1) A) args s 0 0 A) (F0 m 0 ls []) := by
  obtain ⟨hx, hb, hr, hml, hown, hts, hlk, hA, hK⟩ := id M
  unfold f_X4_setOff_0 at h
  refine lv_iload_n hx hb dX4_setOff_0 rfl (lv_at hl 1 rfl) ?_
  obtain ⟨r_1, hr_1, h⟩ := bn_s h
  refine kcSi (As := [.int x1]) (rest := []) ⟨hx, hb, hml, hown, hts⟩ (va_cwS 1 hts gX4_setOff_X4_isMan rfl rfl rfl eX4_isMan ⟨Nat.le_of_ble_eq_true rfl, Nat.le_of_ble_eq_true rfl⟩) (c_X4_isMan  hr_1) hK hP hS hA rfl hl.1 rfl (Nat.le_of_ble_eq_true rfl) dX4_setOff_1 (fun H locs hP hS => ?_)
  refine lv_if_ne (tgt := 9) hx hb dX4_setOff_4 (by decide) (fun c_2 => ?_) (fun c_2 => ?_)
  · replace h := it_n c_2 h
    refine lv_aload_n hx hb dX4_setOff_9 rfl (lv_at hl 0 rfl) ?_
    refine lv_iload_n hx hb dX4_setOff_10 rfl (lv_at hl 1 rfl) ?_
    obtain ⟨r_3, hr_3, h⟩ := bn_s h
    refine kcVi (As := [.int x1]) (rest := []) (ws' := (wM cy b0 r_3.2 [])) ⟨hx, hb, hml, hown, hts⟩ (cwV 1 hts gX4_setOff_X4_ringOf rfl rfl rfl ⟨rfl, eX4_ringOf⟩ ⟨Nat.le_of_ble_eq_true rfl, Nat.le_of_ble_eq_true rfl⟩) (c_X4_ringOf b0 hr_3) hK hP hD hS hA [0, 1, 2, 3, 4, 5, 6, 7, 8, 9, 10, 11, 12, 13] [] (by decide) rfl rfl 4 rfl rfl [(b0 0), (b0 1), (b0 2), (b0 3), (b0 4), (b0 5), (b0 6), (b0 7), (b0 8), (b0 9), (b0 10), (b0 11), (b0 12), (b0 13)] rfl rfl rfl [] rfl rfl rfl rfl hl.1 rfl (Nat.le_of_ble_eq_true rfl) dX4_setOff_11 (fun H locs hP hD hS => ?_)
    refine lv_topi (fun x2_4 ex2_4 => ?_)
    replace h := nm_s h ex2_4
    refine lv_istore_n (lv' := [(2, .int x2_4), (0, .ref (b0 0)), (1, .int x1)]) hx hb dX4_setOff_14 rfl hl (by decide) rfl (fun ls hl => ?_)
    refine lv_iload_n hx hb dX4_setOff_15 rfl (lv_at hl 0 rfl) ?_
    refine lv_if_ge (tgt := 22) hx hb dX4_setOff_16 (by decide) (fun c_5 => ?_) (fun c_5 => ?_)
    · replace h := it_p c_5 h
      refine lv_ldc (v := 1000000) hx hb hown (hts _ mX4_setOff_1) dX4_setOff_22 ?_
      refine lv_istore_n (lv' := [(3, .int (1000000 : Int32)), (2, .int x2_4), (0, .ref (b0 0)), (1, .int x1)]) hx hb dX4_setOff_24 rfl hl (by decide) rfl (fun ls hl => ?_)
      refine lv_iconst (v := 0) hx hb dX4_setOff_25 (by decide) ?_
      refine lv_istore (lv' := [(4, .int (0 : Int32)), (3, .int (1000000 : Int32)), (2, .int x2_4), (0, .ref (b0 0)), (1, .int x1)]) hx hb dX4_setOff_26 hl (by decide) rfl (fun ls hl => ?_)
      cases h
      exact ih.1 r_3.2 x2_4 (1000000 : Int32) (0 : Int32) _ _ _ hm hP hD hS (lv_sub hl [3, 4, 2, 1, 0] rfl)
    · replace h := it_n c_5 h
      refine lv_bipush (v := (-3)) hx hb dX4_setOff_19 (by decide) ?_
      cases h
      have hm : _ = rr := hm
      subst hm
      exact kretI hx hb hr hlk hP hS dX4_setOff_21
  · replace h := it_p c_2 h
    refine lv_iconst (v := (-1)) hx hb dX4_setOff_7 (by decide) ?_
    cases h
    have hm : _ = rr := hm
    subst hm
    exact kretI hx hb hr hlk hP hS dX4_setOff_8
theorem wl_X4_setOff {p : Program} {l : Launch} {e : Env} {s : State} {m : MethodId} {args : Array Value} {below : List Frame} {meth : Method} {c : Code} {A : Nat → Prop} {D : va_G} {cy : Nat → ClassId} {b0 : Nat → Nat} {x1 : Int32} {rr : Int32 × MS} (M : kM p s m args meth c cX4_setOff 6 (some .int) RX4 wsX4_setOff A D cy) : ∀ fu : Nat, I_X4_setOff p l e s m args below meth c A D cy b0 x1 fu rr := by
  intro fu
  induction fu with
  | zero => exact ⟨(fun _ _ _ _ _ _ _ h => by cases h), (fun _ _ _ _ _ _ _ h => by cases h)⟩
  | succ fu ih =>
    refine ⟨?_, ?_⟩
    · intro uv x2 x3 x4 H locs ls h hP hD hS hl
      obtain ⟨o1, h1, h2⟩ := lpn_s h
      exact w_X4_setOff_28 M ih h1 h2 hP hD hS hl
    · intro uv x2 x3 x4 H locs ls h hP hD hS hl
      obtain ⟨o1, h1, h2⟩ := lpn_s h
      exact w_X4_setOff_74 M ih h1 h2 hP hD hS hl
theorem c_X4_setOff {l : Launch} {D : va_G} {cy : Nat → ClassId} (b0 : Nat → Nat) {uv : MS} {x1 : Int32} {rr : Int32 × MS} (h : f_X4_setOff uv x1 = some rr) : CI l D cy yX4_setOff wsX4_setOff { frames := 3, cells := 0, slots := 0, locals := 70 } [.ref (b0 0), .int x1] (wM cy b0 uv []) (rr.1) (wM cy b0 rr.2 []) := by
  refine kofI (cc := cX4_setOff) (maxL := 6) (ret := (some .int)) (by decide) rfl (Nat.le_of_ble_eq_true rfl) ?_
  intro p e s m below meth c A M ls hl hP hD hS
  obtain ⟨o1, fu, h1, h2⟩ := rnx_s h
  exact w_X4_setOff_0 M (wl_X4_setOff M fu) h1 h2 hP hD hS hl
theorem eX4_setOff : yX4_setOff.cls ≠ "java/lang/invoke/MethodHandle" ∧ yX4_setOff.cls ≠ "java/lang/invoke/VarHandle" ∧ (parseMethodDescriptor yX4_setOff.desc).map (fun d => d.parameters.length) = some 1 := by decide +kernel
theorem iX4_soon_X4 : ∀ w ∈ u_ws RX4 TX4 21, w ∈ wsX4_soon := by decide +kernel
theorem mX4_soon_1 : Cond.fieldLink RX4 37 "LentPilesModel" "power" "[I" ∈ wsX4_soon := by decide +kernel
theorem mX4_soon_2 : Cond.fieldLink RX4 13 "LentPilesModel" "size" "[I" ∈ wsX4_soon := by decide +kernel
theorem mX4_soon_3 : Cond.fieldLink RX4 34 "LentPilesModel" "turn" "[I" ∈ wsX4_soon := by decide +kernel
theorem mX4_soon_4 : Cond.constant RX4 40 (46656) ∈ wsX4_soon := by decide +kernel
theorem mX4_soon_5 : Cond.constant RX4 141 (1000000) ∈ wsX4_soon := by decide +kernel
theorem mX4_soon_6 : Cond.fieldLink RX4 41 "LentPilesModel" "comes" "[Z" ∈ wsX4_soon := by decide +kernel
theorem mX4_soon_7 : Cond.fieldLink RX4 16 "LentPilesModel" "pile" "[I" ∈ wsX4_soon := by decide +kernel
def I_X4_soon (p : Program) (l : Launch) (e : Env) (s : State) (m : MethodId) (args : Array Value) (below : List Frame) (meth : Method) (c : Code) (A : Nat → Prop) (D : va_G) (cy : Nat → ClassId) (b0 : Nat → Nat) (x1 : Int32) (x2 : Int32) (fu : Nat) (rr : Int32 × MS) : Prop := (∀ (uv : MS) (x3 : Int32) (H : Heap) (locs : List Loc) (ls : Array Slot), lpn (st_X4_soon x1 x2) fu (.inl (uv, x3)) = some rr → va_P D vwCl (wM cy b0 uv []) H → va_D A (wM cy b0 uv []) → va_S A s.heap H locs → lv_has ls 9 [(0, .ref (b0 0)), (1, .int x1), (2, .int x2), (3, .int x3)] → W p l e { frames := 3, cells := 0, slots := 0, locals := 64 } s m args below meth c H locs 0 0 (MQ below (qI D (wM cy b0 rr.2 []) (rr.1) A) args s 0 0 A) (F0 m 24 ls [])) ∧ (∀ (uv : MS) (x3 : Int32) (x4 : Int32) (H : Heap) (locs : List Loc) (ls : Array Slot), lpn (st_X4_soon x1 x2) fu (.inr (.inl (uv, x3, x4))) = some rr → va_P D vwCl (wM cy b0 uv []) H → va_D A (wM cy b0 uv []) → va_S A s.heap H locs → lv_has ls 9 [(0, .ref (b0 0)), (1, .int x1), (2, .int x2), (3, .int x3), (4, .int x4)] → W p l e { frames := 3, cells := 0, slots := 0, locals := 64 } s m args below meth c H locs 0 0 (MQ below (qI D (wM cy b0 rr.2 []) (rr.1) A) args s 0 0 A) (F0 m 58 ls [])) ∧ (∀ (uv : MS) (x3 : Int32) (x4 : Int32) (H : Heap) (locs : List Loc) (ls : Array Slot), lpn (st_X4_soon x1 x2) fu (.inr (.inr (.inl (uv, x3, x4)))) = some rr → va_P D vwCl (wM cy b0 uv []) H → va_D A (wM cy b0 uv []) → va_S A s.heap H locs → lv_has ls 9 [(0, .ref (b0 0)), (1, .int x1), (2, .int x2), (3, .int x3), (4, .int x4)] → W p l e { frames := 3, cells := 0, slots := 0, locals := 64 } s m args below meth c H locs 0 0 (MQ below (qI D (wM cy b0 rr.2 []) (rr.1) A) args s 0 0 A) (F0 m 102 ls [])) ∧ (∀ (uv : MS) (x3 : Int32) (x4 : Int32) (x5 : Int32) (H : Heap) (locs : List Loc) (ls : Array Slot), lpn (st_X4_soon x1 x2) fu (.inr (.inr (.inr (.inl (uv, x3, x4, x5))))) = some rr → va_P D vwCl (wM cy b0 uv []) H → va_D A (wM cy b0 uv []) → va_S A s.heap H locs → lv_has ls 9 [(0, .ref (b0 0)), (1, .int x1), (2, .int x2), (3, .int x3), (4, .int x4), (5, .int x5)] → W p l e { frames := 3, cells := 0, slots := 0, locals := 64 } s m args below meth c H locs 0 0 (MQ below (qI D (wM cy b0 rr.2 []) (rr.1) A) args s 0 0 A) (F0 m 139 ls [])) ∧ (∀ (uv : MS) (x3 : Int32) (x4 : Int32) (x5 : Int32) (x6 : Int32) (x7 : Int32) (H : Heap) (locs : List Loc) (ls : Array Slot), lpn (st_X4_soon x1 x2) fu (.inr (.inr (.inr (.inr (uv, x3, x4, x5, x6, x7))))) = some rr → va_P D vwCl (wM cy b0 uv []) H → va_D A (wM cy b0 uv []) → va_S A s.heap H locs → lv_has ls 9 [(0, .ref (b0 0)), (1, .int x1), (2, .int x2), (3, .int x3), (4, .int x4), (5, .int x5), (6, .int x6), (7, .int x7)] → W p l e { frames := 3, cells := 0, slots := 0, locals := 64 } s m args below meth c H locs 0 0 (MQ below (qI D (wM cy b0 rr.2 []) (rr.1) A) args s 0 0 A) (F0 m 162 ls []))
set_option maxHeartbeats 4000000 in
set_option maxRecDepth 100000 in
theorem w_X4_soon_162 {p : Program} {l : Launch} {e : Env} {s : State} {m : MethodId} {args : Array Value} {below : List Frame} {meth : Method} {c : Code} {A : Nat → Prop} {D : va_G} {cy : Nat → ClassId} {b0 : Nat → Nat} {x1 : Int32} {x2 : Int32} {fu : Nat} {rr : Int32 × MS} (M : kM p s m args meth c cX4_soon 9 (some .int) RX4 wsX4_soon A D cy) (ih : I_X4_soon p l e s m args below meth c A D cy b0 x1 x2 fu rr) {uv : MS} {x3 : Int32} {x4 : Int32} {x5 : Int32} {x6 : Int32} {x7 : Int32} {oo : ((MS × Int32) ⊕ (MS × Int32 × Int32) ⊕ (MS × Int32 × Int32) ⊕ (MS × Int32 × Int32 × Int32) ⊕ (MS × Int32 × Int32 × Int32 × Int32 × Int32)) ⊕ (Int32 × MS)} (h : f_X4_soon_162 x1 x2 uv x3 x4 x5 x6 x7 = some oo) (hm : lpo (st_X4_soon x1 x2) fu oo rr) {H : Heap} {locs : List Loc} {ls : Array Slot} (hP : va_P D vwCl (wM cy b0 uv []) H) (hD : va_D A (wM cy b0 uv [])) (hS : va_S A s.heap H locs) (hl : lv_has ls 9 [(0, .ref (b0 0)), (1, .int x1), (2, .int x2), (3, .int x3), (4, .int x4), (5, .int x5), (6, .int x6), (7, .int x7)]) : W p l e { frames := 3, cells := 0, slots := 0, locals := 64 } s m args below meth c H locs 0 0 (MQ below (qI D (wM cy b0 rr.2 []) (rr.1) A) args s 0 0 A) (F0 m 162 ls []) := by
  obtain ⟨hx, hb, hr, hml, hown, hts, hlk, hA, hK⟩ := id M
  unfold f_X4_soon_162 at h
  refine lv_iload hx hb dX4_soon_162 (lv_at hl 7 rfl) ?_
  refine lv_bipush (v := 6) hx hb dX4_soon_164 (by decide) ?_
  refine lv_icmp_ge (tgt := 255) hx hb dX4_soon_166 (by decide) (fun c_1 => ?_) (fun c_1 => ?_)
  · replace h := it_p c_1 h
    refine lv_aload_n hx hb dX4_soon_255 rfl (lv_at hl 0 rfl) ?_
    refine lv_iload hx hb dX4_soon_256 (lv_at hl 5 rfl) ?_
    refine lv_iload_n hx hb dX4_soon_258 rfl (lv_at hl 1 rfl) ?_
    obtain ⟨r_2, hr_2, h⟩ := bn_s h
    refine kcVi (As := [.int x5, .int x1]) (rest := []) (ws' := (wM cy b0 uv [])) ⟨hx, hb, hml, hown, hts⟩ (cwV 2 hts gX4_soon_X4_paidOf rfl rfl rfl ⟨rfl, eX4_paidOf⟩ ⟨Nat.le_of_ble_eq_true rfl, Nat.le_of_ble_eq_true rfl⟩) (c_X4_paidOf b0 hr_2) hK hP hD hS hA [0, 1, 2, 3, 4, 5, 6, 7, 8, 9, 10, 11, 12, 13] [] (by decide) rfl rfl 4 rfl rfl [(b0 0), (b0 1), (b0 2), (b0 3), (b0 4), (b0 5), (b0 6), (b0 7), (b0 8), (b0 9), (b0 10), (b0 11), (b0 12), (b0 13)] rfl rfl rfl [] rfl rfl rfl rfl hl.1 rfl (Nat.le_of_ble_eq_true rfl) dX4_soon_259 (fun H locs hP hD hS => ?_)
    refine lv_iload_n hx hb dX4_soon_262 rfl (lv_at hl 3 rfl) ?_
    refine lv_icmp_lt (tgt := 278) hx hb dX4_soon_263 (by decide) (fun c_3 => ?_) (fun c_3 => ?_)
    · replace h := it_p c_3 h
      refine lv_iload hx hb dX4_soon_278 (lv_at hl 4 rfl) ?_
      refine lv_istore (lv' := [(4, .int x4), (0, .ref (b0 0)), (1, .int x1), (2, .int x2), (3, .int x3), (5, .int x5), (6, .int x6), (7, .int x7)]) hx hb dX4_soon_280 hl (by decide) rfl (fun ls hl => ?_)
      obtain ⟨x5_4, ex5_4⟩ : ∃ z : Int32, z = (x5 + (1 : Int32)) := ⟨_, rfl⟩
      replace h := nm_s h ex5_4
      refine lv_iinc (v := x5_4) (lv' := [(5, .int x5_4), (4, .int x4), (0, .ref (b0 0)), (1, .int x1), (2, .int x2), (3, .int x3), (6, .int x6), (7, .int x7)]) hx hb dX4_soon_282 hl (k := 5) rfl (by rw [ex5_4]; rfl) (by decide) rfl (fun ls hl => ?_)
      refine lv_goto (tgt := 139) hx hb dX4_soon_285 (by decide) ?_
      cases h
      exact ih.2.2.2.1 uv x3 x4 x5_4 _ _ _ hm hP hD hS (lv_sub hl [2, 3, 4, 5, 1, 0] rfl)
    · replace h := it_n c_3 h
      refine lv_iload hx hb dX4_soon_266 (lv_at hl 6 rfl) ?_
      refine lv_iload hx hb dX4_soon_268 (lv_at hl 4 rfl) ?_
      refine lv_icmp_ge (tgt := 278) hx hb dX4_soon_270 (by decide) (fun c_5 => ?_) (fun c_5 => ?_)
      · replace h := it_p c_5 h
        refine lv_iload hx hb dX4_soon_278 (lv_at hl 4 rfl) ?_
        refine lv_istore (lv' := [(4, .int x4), (0, .ref (b0 0)), (1, .int x1), (2, .int x2), (3, .int x3), (5, .int x5), (6, .int x6), (7, .int x7)]) hx hb dX4_soon_280 hl (by decide) rfl (fun ls hl => ?_)
        obtain ⟨x5_6, ex5_6⟩ : ∃ z : Int32, z = (x5 + (1 : Int32)) := ⟨_, rfl⟩
        replace h := nm_s h ex5_6
        refine lv_iinc (v := x5_6) (lv' := [(5, .int x5_6), (4, .int x4), (0, .ref (b0 0)), (1, .int x1), (2, .int x2), (3, .int x3), (6, .int x6), (7, .int x7)]) hx hb dX4_soon_282 hl (k := 5) rfl (by rw [ex5_6]; rfl) (by decide) rfl (fun ls hl => ?_)
        refine lv_goto (tgt := 139) hx hb dX4_soon_285 (by decide) ?_
        cases h
        exact ih.2.2.2.1 uv x3 x4 x5_6 _ _ _ hm hP hD hS (lv_sub hl [2, 3, 4, 5, 1, 0] rfl)
      · replace h := it_n c_5 h
        refine lv_iload hx hb dX4_soon_273 (lv_at hl 6 rfl) ?_
        refine lv_goto (tgt := 280) hx hb dX4_soon_275 (by decide) ?_
        refine lv_istore (lv' := [(4, .int x6), (0, .ref (b0 0)), (1, .int x1), (2, .int x2), (3, .int x3), (5, .int x5), (6, .int x6), (7, .int x7)]) hx hb dX4_soon_280 hl (by decide) rfl (fun ls hl => ?_)
        obtain ⟨x5_7, ex5_7⟩ : ∃ z : Int32, z = (x5 + (1 : Int32)) := ⟨_, rfl⟩
        replace h := nm_s h ex5_7
        refine lv_iinc (v := x5_7) (lv' := [(5, .int x5_7), (4, .int x6), (0, .ref (b0 0)), (1, .int x1), (2, .int x2), (3, .int x3), (6, .int x6), (7, .int x7)]) hx hb dX4_soon_282 hl (k := 5) rfl (by rw [ex5_7]; rfl) (by decide) rfl (fun ls hl => ?_)
        refine lv_goto (tgt := 139) hx hb dX4_soon_285 (by decide) ?_
        cases h
        exact ih.2.2.2.1 uv x3 x6 x5_7 _ _ _ hm hP hD hS (lv_sub hl [2, 3, 4, 5, 1, 0] rfl)
  · replace h := it_n c_1 h
    refine lv_aload_n hx hb dX4_soon_169 rfl (lv_at hl 0 rfl) ?_
    refine lv_iload hx hb dX4_soon_170 (lv_at hl 5 rfl) ?_
    refine lv_iload hx hb dX4_soon_172 (lv_at hl 7 rfl) ?_
    obtain ⟨r_8, hr_8, h⟩ := bn_s h
    refine kcVi (As := [.int x5, .int x7]) (rest := []) (ws' := (wM cy b0 uv [])) ⟨hx, hb, hml, hown, hts⟩ (cwV 2 hts gX4_soon_X4_paidOf rfl rfl rfl ⟨rfl, eX4_paidOf⟩ ⟨Nat.le_of_ble_eq_true rfl, Nat.le_of_ble_eq_true rfl⟩) (c_X4_paidOf b0 hr_8) hK hP hD hS hA [0, 1, 2, 3, 4, 5, 6, 7, 8, 9, 10, 11, 12, 13] [] (by decide) rfl rfl 4 rfl rfl [(b0 0), (b0 1), (b0 2), (b0 3), (b0 4), (b0 5), (b0 6), (b0 7), (b0 8), (b0 9), (b0 10), (b0 11), (b0 12), (b0 13)] rfl rfl rfl [] rfl rfl rfl rfl hl.1 rfl (Nat.le_of_ble_eq_true rfl) dX4_soon_174 (fun H locs hP hD hS => ?_)
    refine lv_istore (lv' := [(8, .int r_8), (0, .ref (b0 0)), (1, .int x1), (2, .int x2), (3, .int x3), (4, .int x4), (5, .int x5), (6, .int x6), (7, .int x7)]) hx hb dX4_soon_177 hl (by decide) rfl (fun ls hl => ?_)
    refine lv_iload hx hb dX4_soon_179 (lv_at hl 7 rfl) ?_
    refine lv_iload hx hb dX4_soon_181 (lv_at hl 0 rfl) ?_
    refine lv_iadd hx hb dX4_soon_183 ?_
    refine lv_topi (fun x6_9 ex6_9 => ?_)
    replace h := nm_s h ex6_9
    refine lv_istore (lv' := [(6, .int x6_9), (8, .int r_8), (0, .ref (b0 0)), (1, .int x1), (2, .int x2), (3, .int x3), (4, .int x4), (5, .int x5), (7, .int x7)]) hx hb dX4_soon_184 hl (by decide) rfl (fun ls hl => ?_)
    refine lv_iload hx hb dX4_soon_186 (lv_at hl 1 rfl) ?_
    refine lv_aload_n hx hb dX4_soon_188 rfl (lv_at hl 2 rfl) ?_
    refine va_get (D := D) (ci := 4) (v := .ref (b0 2)) (C := RX4) (T := TX4) (N := 21) hx hb hts iX4_soon_X4 hown hK.1 hP 0 rfl rfl 4 (by decide) (hts _ mX4_soon_2) (fun _ h9 => h9) rfl dX4_soon_189 ?_
    refine lv_iload hx hb dX4_soon_192 (lv_at hl 8 rfl) ?_
    obtain ⟨b_10, h⟩ := ck_s h
    refine va_iald hx hb hK.1 hP 2 1 rfl rfl b_10 dX4_soon_194 ?_
    refine lv_icmp_ge (tgt := 249) hx hb dX4_soon_195 (by decide) (fun c_11 => ?_) (fun c_11 => ?_)
    · replace h := it_p c_11 h
      obtain ⟨x7_12, ex7_12⟩ : ∃ z : Int32, z = (x7 + (1 : Int32)) := ⟨_, rfl⟩
      replace h := nm_s h ex7_12
      refine lv_iinc (v := x7_12) (lv' := [(7, .int x7_12), (6, .int x6_9), (8, .int r_8), (0, .ref (b0 0)), (1, .int x1), (2, .int x2), (3, .int x3), (4, .int x4), (5, .int x5)]) hx hb dX4_soon_249 hl (k := 8) rfl (by rw [ex7_12]; rfl) (by decide) rfl (fun ls hl => ?_)
      refine lv_goto (tgt := 162) hx hb dX4_soon_252 (by decide) ?_
      cases h
      exact ih.2.2.2.2 uv x3 x4 x5 x6_9 x7_12 _ _ _ hm hP hD hS (lv_sub hl [3, 4, 5, 6, 7, 8, 1, 0] rfl)
    · replace h := it_n c_11 h
      refine lv_aload_n hx hb dX4_soon_198 rfl (lv_at hl 2 rfl) ?_
      refine lv_iload hx hb dX4_soon_199 (lv_at hl 7 rfl) ?_
      refine lv_iload hx hb dX4_soon_201 (lv_at hl 8 rfl) ?_
      obtain ⟨r_13, hr_13, h⟩ := bn_s h
      refine kcVi (As := [.int x5, .int x7]) (rest := []) (ws' := (wM cy b0 uv [])) ⟨hx, hb, hml, hown, hts⟩ (cwV 2 hts gX4_soon_X4_moneyBy rfl rfl rfl ⟨rfl, eX4_moneyBy⟩ ⟨Nat.le_of_ble_eq_true rfl, Nat.le_of_ble_eq_true rfl⟩) (c_X4_moneyBy b0 hr_13) hK hP hD hS hA [0, 1, 2, 3, 4, 5, 6, 7, 8, 9, 10, 11, 12, 13] [] (by decide) rfl rfl 4 rfl rfl [(b0 0), (b0 1), (b0 2), (b0 3), (b0 4), (b0 5), (b0 6), (b0 7), (b0 8), (b0 9), (b0 10), (b0 11), (b0 12), (b0 13)] rfl rfl rfl [] rfl rfl rfl rfl hl.1 rfl (Nat.le_of_ble_eq_true rfl) dX4_soon_203 (fun H locs hP hD hS => ?_)
      refine lv_aload_n hx hb dX4_soon_206 rfl (lv_at hl 2 rfl) ?_
      refine va_get (D := D) (ci := 4) (v := .ref (b0 3)) (C := RX4) (T := TX4) (N := 21) hx hb hts iX4_soon_X4 hown hK.1 hP 0 rfl rfl 5 (by decide) (hts _ mX4_soon_7) (fun _ h9 => h9) rfl dX4_soon_207 ?_
      refine lv_iload hx hb dX4_soon_210 (lv_at hl 8 rfl) ?_
      refine lv_aload_n hx hb dX4_soon_212 rfl (lv_at hl 2 rfl) ?_
      refine va_get (D := D) (ci := 4) (v := .ref (b0 9)) (C := RX4) (T := TX4) (N := 21) hx hb hts iX4_soon_X4 hown hK.1 hP 0 rfl rfl 16 (by decide) (hts _ mX4_soon_3) (fun _ h9 => h9) rfl dX4_soon_213 ?_
      refine lv_iconst (v := 5) hx hb dX4_soon_216 (by decide) ?_
      refine lv_iload hx hb dX4_soon_217 (lv_at hl 8 rfl) ?_
      refine lv_imul hx hb dX4_soon_219 ?_
      refine lv_iload hx hb dX4_soon_220 (lv_at hl 1 rfl) ?_
      refine lv_iadd hx hb dX4_soon_222 ?_
      obtain ⟨b_14, h⟩ := ck_s h
      refine va_iald hx hb hK.1 hP 9 1 rfl rfl b_14 dX4_soon_223 ?_
      obtain ⟨r_15, hr_15, h⟩ := bn_s h
      refine kcSi (As := [.int x7, .int (uv.2.2.2.2.2.2.2.2.2.2.2.2.2.2.2.2.1 (((5 : Int32) * x7) + r_8).toNatClampNeg)]) (rest := [.ref (b0 3), .int r_13]) ⟨hx, hb, hml, hown, hts⟩ (va_cwS 2 hts gX4_soon_X4_at rfl rfl rfl eX4_at ⟨Nat.le_of_ble_eq_true rfl, Nat.le_of_ble_eq_true rfl⟩) (c_X4_at  hr_15) hK hP hS hA rfl hl.1 rfl (Nat.le_of_ble_eq_true rfl) dX4_soon_224 (fun H locs hP hS => ?_)
      refine lv_iconst (v := 1) hx hb dX4_soon_227 (by decide) ?_
      refine lv_iadd hx hb dX4_soon_228 ?_
      obtain ⟨b_16, h⟩ := ck_s h
      refine va_iald hx hb hK.1 hP 3 1 rfl rfl b_16 dX4_soon_229 ?_
      refine lv_icmp_lt (tgt := 249) hx hb dX4_soon_230 (by decide) (fun c_17 => ?_) (fun c_17 => ?_)
      · replace h := it_p c_17 h
        obtain ⟨x7_18, ex7_18⟩ : ∃ z : Int32, z = (x7 + (1 : Int32)) := ⟨_, rfl⟩
        replace h := nm_s h ex7_18
        refine lv_iinc (v := x7_18) (lv' := [(7, .int x7_18), (6, .int x6_9), (8, .int r_8), (0, .ref (b0 0)), (1, .int x1), (2, .int x2), (3, .int x3), (4, .int x4), (5, .int x5)]) hx hb dX4_soon_249 hl (k := 8) rfl (by rw [ex7_18]; rfl) (by decide) rfl (fun ls hl => ?_)
        refine lv_goto (tgt := 162) hx hb dX4_soon_252 (by decide) ?_
        cases h
        exact ih.2.2.2.2 uv x3 x4 x5 x6_9 x7_18 _ _ _ hm hP hD hS (lv_sub hl [3, 4, 5, 6, 7, 8, 1, 0] rfl)
      · replace h := it_n c_17 h
        refine lv_aload_n hx hb dX4_soon_233 rfl (lv_at hl 2 rfl) ?_
        refine va_get (D := D) (ci := 4) (v := .ref (b0 11)) (C := RX4) (T := TX4) (N := 21) hx hb hts iX4_soon_X4 hown hK.1 hP 0 rfl rfl 18 (by decide) (hts _ mX4_soon_6) (fun _ h9 => h9) rfl dX4_soon_234 ?_
        refine lv_iload hx hb dX4_soon_237 (lv_at hl 7 rfl) ?_
        refine lv_aload_n hx hb dX4_soon_239 rfl (lv_at hl 2 rfl) ?_
        refine va_get (D := D) (ci := 4) (v := .ref (b0 10)) (C := RX4) (T := TX4) (N := 21) hx hb hts iX4_soon_X4 hown hK.1 hP 0 rfl rfl 17 (by decide) (hts _ mX4_soon_1) (fun _ h9 => h9) rfl dX4_soon_240 ?_
        refine lv_iload hx hb dX4_soon_243 (lv_at hl 8 rfl) ?_
        obtain ⟨b_19, h⟩ := ck_s h
        refine va_iald hx hb hK.1 hP 10 1 rfl rfl b_19 dX4_soon_245 ?_
        refine lv_iadd hx hb dX4_soon_246 ?_
        refine lv_iconst (v := 1) hx hb dX4_soon_247 (by decide) ?_
        obtain ⟨b_20, h⟩ := ck_s h
        refine va_zast hx hb hK.1 hP hD hS 11 3 rfl rfl b_20 dX4_soon_248 (fun H locs hP hD hS => ?_)
        obtain ⟨uv_21, euv_21⟩ : ∃ z : MS, z = (uv.1, uv.2.1, uv.2.2.1, uv.2.2.2.1, uv.2.2.2.2.1, uv.2.2.2.2.2.1, uv.2.2.2.2.2.2.1, uv.2.2.2.2.2.2.2.1, uv.2.2.2.2.2.2.2.2.1, uv.2.2.2.2.2.2.2.2.2.1, uv.2.2.2.2.2.2.2.2.2.2.1, uv.2.2.2.2.2.2.2.2.2.2.2.1, uv.2.2.2.2.2.2.2.2.2.2.2.2.1, uv.2.2.2.2.2.2.2.2.2.2.2.2.2.1, uv.2.2.2.2.2.2.2.2.2.2.2.2.2.2.1, uv.2.2.2.2.2.2.2.2.2.2.2.2.2.2.2.1, uv.2.2.2.2.2.2.2.2.2.2.2.2.2.2.2.2.1, uv.2.2.2.2.2.2.2.2.2.2.2.2.2.2.2.2.2.1, (upd uv.2.2.2.2.2.2.2.2.2.2.2.2.2.2.2.2.2.2.1 (x5 + (uv.2.2.2.2.2.2.2.2.2.2.2.2.2.2.2.2.2.1 x7.toNatClampNeg)).toNatClampNeg (vp_nar .boolean (1 : Int32))), uv.2.2.2.2.2.2.2.2.2.2.2.2.2.2.2.2.2.2.2) := ⟨_, rfl⟩
        replace h := nm_s h euv_21
        have hP : va_P D vwCl (wM cy b0 uv_21 []) H := by subst euv_21; exact hP
        have hD : va_D A (wM cy b0 uv_21 []) := hD.lk [(b0 0), (b0 1), (b0 2), (b0 3), (b0 4), (b0 5), (b0 6), (b0 7), (b0 8), (b0 9), (b0 10), (b0 11), (b0 12), (b0 13)] rfl rfl
        obtain ⟨x7_22, ex7_22⟩ : ∃ z : Int32, z = (x7 + (1 : Int32)) := ⟨_, rfl⟩
        replace h := nm_s h ex7_22
        refine lv_iinc (v := x7_22) (lv' := [(7, .int x7_22), (6, .int x6_9), (8, .int r_8), (0, .ref (b0 0)), (1, .int x1), (2, .int x2), (3, .int x3), (4, .int x4), (5, .int x5)]) hx hb dX4_soon_249 hl (k := 8) rfl (by rw [ex7_22]; rfl) (by decide) rfl (fun ls hl => ?_)
        refine lv_goto (tgt := 162) hx hb dX4_soon_252 (by decide) ?_
        cases h
        exact ih.2.2.2.2 uv_21 x3 x4 x5 x6_9 x7_22 _ _ _ hm hP hD hS (lv_sub hl [3, 4, 5, 6, 7, 8, 1, 0] rfl)
set_option maxHeartbeats 4000000 in
set_option maxRecDepth 100000 in
theorem w_X4_soon_139 {p : Program} {l : Launch} {e : Env} {s : State} {m : MethodId} {args : Array Value} {below : List Frame} {meth : Method} {c : Code} {A : Nat → Prop} {D : va_G} {cy : Nat → ClassId} {b0 : Nat → Nat} {x1 : Int32} {x2 : Int32} {fu : Nat} {rr : Int32 × MS} (M : kM p s m args meth c cX4_soon 9 (some .int) RX4 wsX4_soon A D cy) (ih : I_X4_soon p l e s m args below meth c A D cy b0 x1 x2 fu rr) {uv : MS} {x3 : Int32} {x4 : Int32} {x5 : Int32} {oo : ((MS × Int32) ⊕ (MS × Int32 × Int32) ⊕ (MS × Int32 × Int32) ⊕ (MS × Int32 × Int32 × Int32) ⊕ (MS × Int32 × Int32 × Int32 × Int32 × Int32)) ⊕ (Int32 × MS)} (h : f_X4_soon_139 x1 x2 uv x3 x4 x5 = some oo) (hm : lpo (st_X4_soon x1 x2) fu oo rr) {H : Heap} {locs : List Loc} {ls : Array Slot} (hP : va_P D vwCl (wM cy b0 uv []) H) (hD : va_D A (wM cy b0 uv [])) (hS : va_S A s.heap H locs) (hl : lv_has ls 9 [(0, .ref (b0 0)), (1, .int x1), (2, .int x2), (3, .int x3), (4, .int x4), (5, .int x5)]) : W p l e { frames := 3, cells := 0, slots := 0, locals := 64 } s m args below meth c H locs 0 0 (MQ below (qI D (wM cy b0 rr.2 []) (rr.1) A) args s 0 0 A) (F0 m 139 ls []) := by
  obtain ⟨hx, hb, hr, hml, hown, hts, hlk, hA, hK⟩ := id M
  unfold f_X4_soon_139 at h
  refine lv_iload hx hb dX4_soon_139 (lv_at hl 5 rfl) ?_
  refine lv_ldc (v := 46656) hx hb hown (hts _ mX4_soon_4) dX4_soon_141 ?_
  refine lv_icmp_ge (tgt := 288) hx hb dX4_soon_143 (by decide) (fun c_1 => ?_) (fun c_1 => ?_)
  · replace h := it_p c_1 h
    refine lv_iload hx hb dX4_soon_288 (lv_at hl 4 rfl) ?_
    refine lv_ldc (v := 1000000) hx hb hown (hts _ mX4_soon_5) dX4_soon_290 ?_
    refine lv_icmp_ne (tgt := 300) hx hb dX4_soon_292 (by decide) (fun c_2 => ?_) (fun c_2 => ?_)
    · replace h := it_n c_2 h
      refine lv_iload hx hb dX4_soon_300 (lv_at hl 4 rfl) ?_
      cases h
      have hm : _ = rr := hm
      subst hm
      exact kretI hx hb hr hlk hP hS dX4_soon_302
    · replace h := it_p c_2 h
      refine lv_bipush (v := (-6)) hx hb dX4_soon_295 (by decide) ?_
      refine lv_goto (tgt := 302) hx hb dX4_soon_297 (by decide) ?_
      cases h
      have hm : _ = rr := hm
      subst hm
      exact kretI hx hb hr hlk hP hS dX4_soon_302
  · replace h := it_n c_1 h
    refine lv_aload_n hx hb dX4_soon_146 rfl (lv_at hl 0 rfl) ?_
    refine va_get (D := D) (ci := 4) (v := .ref (b0 11)) (C := RX4) (T := TX4) (N := 21) hx hb hts iX4_soon_X4 hown hK.1 hP 0 rfl rfl 18 (by decide) (hts _ mX4_soon_6) (fun _ h9 => h9) rfl dX4_soon_147 ?_
    refine lv_iload hx hb dX4_soon_150 (lv_at hl 5 rfl) ?_
    obtain ⟨b_3, h⟩ := ck_s h
    refine va_zald hx hb hK.1 hP 11 3 rfl rfl b_3 dX4_soon_152 ?_
    refine lv_if_eq (tgt := 282) hx hb dX4_soon_153 (by decide) (fun c_4 => ?_) (fun c_4 => ?_)
    · replace h := it_p c_4 h
      obtain ⟨x5_5, ex5_5⟩ : ∃ z : Int32, z = (x5 + (1 : Int32)) := ⟨_, rfl⟩
      replace h := nm_s h ex5_5
      refine lv_iinc (v := x5_5) (lv' := [(5, .int x5_5), (0, .ref (b0 0)), (1, .int x1), (2, .int x2), (3, .int x3), (4, .int x4)]) hx hb dX4_soon_282 hl (k := 5) rfl (by rw [ex5_5]; rfl) (by decide) rfl (fun ls hl => ?_)
      refine lv_goto (tgt := 139) hx hb dX4_soon_285 (by decide) ?_
      cases h
      exact ih.2.2.2.1 uv x3 x4 x5_5 _ _ _ hm hP hD hS (lv_sub hl [1, 2, 3, 4, 5, 0] rfl)
    · replace h := it_n c_4 h
      refine lv_iconst (v := 0) hx hb dX4_soon_156 (by decide) ?_
      refine lv_istore (lv' := [(6, .int (0 : Int32)), (0, .ref (b0 0)), (1, .int x1), (2, .int x2), (3, .int x3), (4, .int x4), (5, .int x5)]) hx hb dX4_soon_157 hl (by decide) rfl (fun ls hl => ?_)
      refine lv_iconst (v := 0) hx hb dX4_soon_159 (by decide) ?_
      refine lv_istore (lv' := [(7, .int (0 : Int32)), (6, .int (0 : Int32)), (0, .ref (b0 0)), (1, .int x1), (2, .int x2), (3, .int x3), (4, .int x4), (5, .int x5)]) hx hb dX4_soon_160 hl (by decide) rfl (fun ls hl => ?_)
      cases h
      exact ih.2.2.2.2 uv x3 x4 x5 (0 : Int32) (0 : Int32) _ _ _ hm hP hD hS (lv_sub hl [2, 3, 4, 5, 6, 7, 1, 0] rfl)
set_option maxHeartbeats 4000000 in
set_option maxRecDepth 100000 in
theorem w_X4_soon_102 {p : Program} {l : Launch} {e : Env} {s : State} {m : MethodId} {args : Array Value} {below : List Frame} {meth : Method} {c : Code} {A : Nat → Prop} {D : va_G} {cy : Nat → ClassId} {b0 : Nat → Nat} {x1 : Int32} {x2 : Int32} {fu : Nat} {rr : Int32 × MS} (M : kM p s m args meth c cX4_soon 9 (some .int) RX4 wsX4_soon A D cy) (ih : I_X4_soon p l e s m args below meth c A D cy b0 x1 x2 fu rr) {uv : MS} {x3 : Int32} {x4 : Int32} {oo : ((MS × Int32) ⊕ (MS × Int32 × Int32) ⊕ (MS × Int32 × Int32) ⊕ (MS × Int32 × Int32 × Int32) ⊕ (MS × Int32 × Int32 × Int32 × Int32 × Int32)) ⊕ (Int32 × MS)} (h : f_X4_soon_102 x1 x2 uv x3 x4 = some oo) (hm : lpo (st_X4_soon x1 x2) fu oo rr) {H : Heap} {locs : List Loc} {ls : Array Slot} (hP : va_P D vwCl (wM cy b0 uv []) H) (hD : va_D A (wM cy b0 uv [])) (hS : va_S A s.heap H locs) (hl : lv_has ls 9 [(0, .ref (b0 0)), (1, .int x1), (2, .int x2), (3, .int x3), (4, .int x4)]) : W p l e { frames := 3, cells := 0, slots := 0, locals := 64 } s m args below meth c H locs 0 0 (MQ below (qI D (wM cy b0 rr.2 []) (rr.1) A) args s 0 0 A) (F0 m 102 ls []) := by
  obtain ⟨hx, hb, hr, hml, hown, hts, hlk, hA, hK⟩ := id M
  unfold f_X4_soon_102 at h
  refine lv_iload hx hb dX4_soon_102 (lv_at hl 4 rfl) ?_
  refine lv_ldc (v := 46656) hx hb hown (hts _ mX4_soon_4) dX4_soon_104 ?_
  refine lv_icmp_ge (tgt := 132) hx hb dX4_soon_106 (by decide) (fun c_1 => ?_) (fun c_1 => ?_)
  · replace h := it_p c_1 h
    refine lv_ldc (v := 1000000) hx hb hown (hts _ mX4_soon_5) dX4_soon_132 ?_
    refine lv_istore (lv' := [(4, .int (1000000 : Int32)), (0, .ref (b0 0)), (1, .int x1), (2, .int x2), (3, .int x3)]) hx hb dX4_soon_134 hl (by decide) rfl (fun ls hl => ?_)
    refine lv_iconst (v := 0) hx hb dX4_soon_136 (by decide) ?_
    refine lv_istore (lv' := [(5, .int (0 : Int32)), (4, .int (1000000 : Int32)), (0, .ref (b0 0)), (1, .int x1), (2, .int x2), (3, .int x3)]) hx hb dX4_soon_137 hl (by decide) rfl (fun ls hl => ?_)
    cases h
    exact ih.2.2.2.1 uv x3 (1000000 : Int32) (0 : Int32) _ _ _ hm hP hD hS (lv_sub hl [2, 3, 4, 5, 1, 0] rfl)
  · replace h := it_n c_1 h
    refine lv_aload_n hx hb dX4_soon_109 rfl (lv_at hl 0 rfl) ?_
    refine va_get (D := D) (ci := 4) (v := .ref (b0 11)) (C := RX4) (T := TX4) (N := 21) hx hb hts iX4_soon_X4 hown hK.1 hP 0 rfl rfl 18 (by decide) (hts _ mX4_soon_6) (fun _ h9 => h9) rfl dX4_soon_110 ?_
    refine lv_iload hx hb dX4_soon_113 (lv_at hl 4 rfl) ?_
    refine lv_iload hx hb dX4_soon_115 (lv_at hl 4 rfl) ?_
    refine lv_if_ne (tgt := 124) hx hb dX4_soon_117 (by decide) (fun c_2 => ?_) (fun c_2 => ?_)
    · replace h := it_n c_2 h
      refine lv_iconst (v := 0) hx hb dX4_soon_124 (by decide) ?_
      obtain ⟨b_3, h⟩ := ck_s h
      refine va_zast hx hb hK.1 hP hD hS 11 3 rfl rfl b_3 dX4_soon_125 (fun H locs hP hD hS => ?_)
      obtain ⟨uv_4, euv_4⟩ : ∃ z : MS, z = (uv.1, uv.2.1, uv.2.2.1, uv.2.2.2.1, uv.2.2.2.2.1, uv.2.2.2.2.2.1, uv.2.2.2.2.2.2.1, uv.2.2.2.2.2.2.2.1, uv.2.2.2.2.2.2.2.2.1, uv.2.2.2.2.2.2.2.2.2.1, uv.2.2.2.2.2.2.2.2.2.2.1, uv.2.2.2.2.2.2.2.2.2.2.2.1, uv.2.2.2.2.2.2.2.2.2.2.2.2.1, uv.2.2.2.2.2.2.2.2.2.2.2.2.2.1, uv.2.2.2.2.2.2.2.2.2.2.2.2.2.2.1, uv.2.2.2.2.2.2.2.2.2.2.2.2.2.2.2.1, uv.2.2.2.2.2.2.2.2.2.2.2.2.2.2.2.2.1, uv.2.2.2.2.2.2.2.2.2.2.2.2.2.2.2.2.2.1, (upd uv.2.2.2.2.2.2.2.2.2.2.2.2.2.2.2.2.2.2.1 x4.toNatClampNeg (vp_nar .boolean (0 : Int32))), uv.2.2.2.2.2.2.2.2.2.2.2.2.2.2.2.2.2.2.2) := ⟨_, rfl⟩
      replace h := nm_s h euv_4
      have hP : va_P D vwCl (wM cy b0 uv_4 []) H := by subst euv_4; exact hP
      have hD : va_D A (wM cy b0 uv_4 []) := hD.lk [(b0 0), (b0 1), (b0 2), (b0 3), (b0 4), (b0 5), (b0 6), (b0 7), (b0 8), (b0 9), (b0 10), (b0 11), (b0 12), (b0 13)] rfl rfl
      obtain ⟨x4_5, ex4_5⟩ : ∃ z : Int32, z = (x4 + (1 : Int32)) := ⟨_, rfl⟩
      replace h := nm_s h ex4_5
      refine lv_iinc (v := x4_5) (lv' := [(4, .int x4_5), (0, .ref (b0 0)), (1, .int x1), (2, .int x2), (3, .int x3)]) hx hb dX4_soon_126 hl (k := 4) rfl (by rw [ex4_5]; rfl) (by decide) rfl (fun ls hl => ?_)
      refine lv_goto (tgt := 102) hx hb dX4_soon_129 (by decide) ?_
      cases h
      exact ih.2.2.1 uv_4 x3 x4_5 _ _ _ hm hP hD hS (lv_sub hl [1, 2, 3, 4, 0] rfl)
    · replace h := it_p c_2 h
      refine lv_iconst (v := 1) hx hb dX4_soon_120 (by decide) ?_
      refine lv_goto (tgt := 125) hx hb dX4_soon_121 (by decide) ?_
      obtain ⟨b_6, h⟩ := ck_s h
      refine va_zast hx hb hK.1 hP hD hS 11 3 rfl rfl b_6 dX4_soon_125 (fun H locs hP hD hS => ?_)
      obtain ⟨uv_7, euv_7⟩ : ∃ z : MS, z = (uv.1, uv.2.1, uv.2.2.1, uv.2.2.2.1, uv.2.2.2.2.1, uv.2.2.2.2.2.1, uv.2.2.2.2.2.2.1, uv.2.2.2.2.2.2.2.1, uv.2.2.2.2.2.2.2.2.1, uv.2.2.2.2.2.2.2.2.2.1, uv.2.2.2.2.2.2.2.2.2.2.1, uv.2.2.2.2.2.2.2.2.2.2.2.1, uv.2.2.2.2.2.2.2.2.2.2.2.2.1, uv.2.2.2.2.2.2.2.2.2.2.2.2.2.1, uv.2.2.2.2.2.2.2.2.2.2.2.2.2.2.1, uv.2.2.2.2.2.2.2.2.2.2.2.2.2.2.2.1, uv.2.2.2.2.2.2.2.2.2.2.2.2.2.2.2.2.1, uv.2.2.2.2.2.2.2.2.2.2.2.2.2.2.2.2.2.1, (upd uv.2.2.2.2.2.2.2.2.2.2.2.2.2.2.2.2.2.2.1 x4.toNatClampNeg (vp_nar .boolean (1 : Int32))), uv.2.2.2.2.2.2.2.2.2.2.2.2.2.2.2.2.2.2.2) := ⟨_, rfl⟩
      replace h := nm_s h euv_7
      have hP : va_P D vwCl (wM cy b0 uv_7 []) H := by subst euv_7; exact hP
      have hD : va_D A (wM cy b0 uv_7 []) := hD.lk [(b0 0), (b0 1), (b0 2), (b0 3), (b0 4), (b0 5), (b0 6), (b0 7), (b0 8), (b0 9), (b0 10), (b0 11), (b0 12), (b0 13)] rfl rfl
      obtain ⟨x4_8, ex4_8⟩ : ∃ z : Int32, z = (x4 + (1 : Int32)) := ⟨_, rfl⟩
      replace h := nm_s h ex4_8
      refine lv_iinc (v := x4_8) (lv' := [(4, .int x4_8), (0, .ref (b0 0)), (1, .int x1), (2, .int x2), (3, .int x3)]) hx hb dX4_soon_126 hl (k := 4) rfl (by rw [ex4_8]; rfl) (by decide) rfl (fun ls hl => ?_)
      refine lv_goto (tgt := 102) hx hb dX4_soon_129 (by decide) ?_
      cases h
      exact ih.2.2.1 uv_7 x3 x4_8 _ _ _ hm hP hD hS (lv_sub hl [1, 2, 3, 4, 0] rfl)
set_option maxHeartbeats 4000000 in
set_option maxRecDepth 100000 in
theorem w_X4_soon_58 {p : Program} {l : Launch} {e : Env} {s : State} {m : MethodId} {args : Array Value} {below : List Frame} {meth : Method} {c : Code} {A : Nat → Prop} {D : va_G} {cy : Nat → ClassId} {b0 : Nat → Nat} {x1 : Int32} {x2 : Int32} {fu : Nat} {rr : Int32 × MS} (M : kM p s m args meth c cX4_soon 9 (some .int) RX4 wsX4_soon A D cy) (ih : I_X4_soon p l e s m args below meth c A D cy b0 x1 x2 fu rr) {uv : MS} {x3 : Int32} {x4 : Int32} {oo : ((MS × Int32) ⊕ (MS × Int32 × Int32) ⊕ (MS × Int32 × Int32) ⊕ (MS × Int32 × Int32 × Int32) ⊕ (MS × Int32 × Int32 × Int32 × Int32 × Int32)) ⊕ (Int32 × MS)} (h : f_X4_soon_58 x1 x2 uv x3 x4 = some oo) (hm : lpo (st_X4_soon x1 x2) fu oo rr) {H : Heap} {locs : List Loc} {ls : Array Slot} (hP : va_P D vwCl (wM cy b0 uv []) H) (hD : va_D A (wM cy b0 uv [])) (hS : va_S A s.heap H locs) (hl : lv_has ls 9 [(0, .ref (b0 0)), (1, .int x1), (2, .int x2), (3, .int x3), (4, .int x4)]) : W p l e { frames := 3, cells := 0, slots := 0, locals := 64 } s m args below meth c H locs 0 0 (MQ below (qI D (wM cy b0 rr.2 []) (rr.1) A) args s 0 0 A) (F0 m 58 ls []) := by
  obtain ⟨hx, hb, hr, hml, hown, hts, hlk, hA, hK⟩ := id M
  unfold f_X4_soon_58 at h
  refine lv_iload hx hb dX4_soon_58 (lv_at hl 4 rfl) ?_
  refine lv_aload_n hx hb dX4_soon_60 rfl (lv_at hl 0 rfl) ?_
  refine va_get (D := D) (ci := 4) (v := .ref (b0 2)) (C := RX4) (T := TX4) (N := 21) hx hb hts iX4_soon_X4 hown hK.1 hP 0 rfl rfl 4 (by decide) (hts _ mX4_soon_2) (fun _ h9 => h9) rfl dX4_soon_61 ?_
  refine lv_iload_n hx hb dX4_soon_64 rfl (lv_at hl 1 rfl) ?_
  obtain ⟨b_1, h⟩ := ck_s h
  refine va_iald hx hb hK.1 hP 2 1 rfl rfl b_1 dX4_soon_65 ?_
  refine lv_icmp_ge (tgt := 99) hx hb dX4_soon_66 (by decide) (fun c_2 => ?_) (fun c_2 => ?_)
  · replace h := it_p c_2 h
    refine lv_iconst (v := 0) hx hb dX4_soon_99 (by decide) ?_
    refine lv_istore (lv' := [(4, .int (0 : Int32)), (0, .ref (b0 0)), (1, .int x1), (2, .int x2), (3, .int x3)]) hx hb dX4_soon_100 hl (by decide) rfl (fun ls hl => ?_)
    cases h
    exact ih.2.2.1 uv x3 (0 : Int32) _ _ _ hm hP hD hS (lv_sub hl [1, 2, 3, 4, 0] rfl)
  · replace h := it_n c_2 h
    refine lv_aload_n hx hb dX4_soon_69 rfl (lv_at hl 0 rfl) ?_
    refine va_get (D := D) (ci := 4) (v := .ref (b0 9)) (C := RX4) (T := TX4) (N := 21) hx hb hts iX4_soon_X4 hown hK.1 hP 0 rfl rfl 16 (by decide) (hts _ mX4_soon_3) (fun _ h9 => h9) rfl dX4_soon_70 ?_
    refine lv_iconst (v := 5) hx hb dX4_soon_73 (by decide) ?_
    refine lv_iload_n hx hb dX4_soon_74 rfl (lv_at hl 1 rfl) ?_
    refine lv_imul hx hb dX4_soon_75 ?_
    refine lv_iload hx hb dX4_soon_76 (lv_at hl 4 rfl) ?_
    refine lv_iadd hx hb dX4_soon_78 ?_
    obtain ⟨b_3, h⟩ := ck_s h
    refine va_iald hx hb hK.1 hP 9 1 rfl rfl b_3 dX4_soon_79 ?_
    refine lv_iload_n hx hb dX4_soon_80 rfl (lv_at hl 2 rfl) ?_
    refine lv_icmp_ne (tgt := 91) hx hb dX4_soon_81 (by decide) (fun c_4 => ?_) (fun c_4 => ?_)
    · replace h := it_n c_4 h
      refine lv_iload_n hx hb dX4_soon_91 rfl (lv_at hl 3 rfl) ?_
      refine lv_istore_n (lv' := [(3, .int x3), (0, .ref (b0 0)), (1, .int x1), (2, .int x2), (4, .int x4)]) hx hb dX4_soon_92 rfl hl (by decide) rfl (fun ls hl => ?_)
      obtain ⟨x4_5, ex4_5⟩ : ∃ z : Int32, z = (x4 + (1 : Int32)) := ⟨_, rfl⟩
      replace h := nm_s h ex4_5
      refine lv_iinc (v := x4_5) (lv' := [(4, .int x4_5), (3, .int x3), (0, .ref (b0 0)), (1, .int x1), (2, .int x2)]) hx hb dX4_soon_93 hl (k := 4) rfl (by rw [ex4_5]; rfl) (by decide) rfl (fun ls hl => ?_)
      refine lv_goto (tgt := 58) hx hb dX4_soon_96 (by decide) ?_
      cases h
      exact ih.2.1 uv x3 x4_5 _ _ _ hm hP hD hS (lv_sub hl [2, 3, 4, 1, 0] rfl)
    · replace h := it_p c_4 h
      refine lv_iload hx hb dX4_soon_84 (lv_at hl 4 rfl) ?_
      refine lv_iconst (v := 1) hx hb dX4_soon_86 (by decide) ?_
      refine lv_iadd hx hb dX4_soon_87 ?_
      refine lv_goto (tgt := 92) hx hb dX4_soon_88 (by decide) ?_
      refine lv_topi (fun x3_6 ex3_6 => ?_)
      replace h := nm_s h ex3_6
      refine lv_istore_n (lv' := [(3, .int x3_6), (0, .ref (b0 0)), (1, .int x1), (2, .int x2), (4, .int x4)]) hx hb dX4_soon_92 rfl hl (by decide) rfl (fun ls hl => ?_)
      obtain ⟨x4_7, ex4_7⟩ : ∃ z : Int32, z = (x4 + (1 : Int32)) := ⟨_, rfl⟩
      replace h := nm_s h ex4_7
      refine lv_iinc (v := x4_7) (lv' := [(4, .int x4_7), (3, .int x3_6), (0, .ref (b0 0)), (1, .int x1), (2, .int x2)]) hx hb dX4_soon_93 hl (k := 4) rfl (by rw [ex4_7]; rfl) (by decide) rfl (fun ls hl => ?_)
      refine lv_goto (tgt := 58) hx hb dX4_soon_96 (by decide) ?_
      cases h
      exact ih.2.1 uv x3_6 x4_7 _ _ _ hm hP hD hS (lv_sub hl [2, 3, 4, 1, 0] rfl)
set_option maxHeartbeats 4000000 in
set_option maxRecDepth 100000 in
theorem w_X4_soon_24 {p : Program} {l : Launch} {e : Env} {s : State} {m : MethodId} {args : Array Value} {below : List Frame} {meth : Method} {c : Code} {A : Nat → Prop} {D : va_G} {cy : Nat → ClassId} {b0 : Nat → Nat} {x1 : Int32} {x2 : Int32} {fu : Nat} {rr : Int32 × MS} (M : kM p s m args meth c cX4_soon 9 (some .int) RX4 wsX4_soon A D cy) (ih : I_X4_soon p l e s m args below meth c A D cy b0 x1 x2 fu rr) {uv : MS} {x3 : Int32} {oo : ((MS × Int32) ⊕ (MS × Int32 × Int32) ⊕ (MS × Int32 × Int32) ⊕ (MS × Int32 × Int32 × Int32) ⊕ (MS × Int32 × Int32 × Int32 × Int32 × Int32)) ⊕ (Int32 × MS)} (h : f_X4_soon_24 x1 x2 uv x3 = some oo) (hm : lpo (st_X4_soon x1 x2) fu oo rr) {H : Heap} {locs : List Loc} {ls : Array Slot} (hP : va_P D vwCl (wM cy b0 uv []) H) (hD : va_D A (wM cy b0 uv [])) (hS : va_S A s.heap H locs) (hl : lv_has ls 9 [(0, .ref (b0 0)), (1, .int x1), (2, .int x2), (3, .int x3)]) : W p l e { frames := 3, cells := 0, slots := 0, locals := 64 } s m args below meth c H locs 0 0 (MQ below (qI D (wM cy b0 rr.2 []) (rr.1) A) args s 0 0 A) (F0 m 24 ls []) := by
  obtain ⟨hx, hb, hr, hml, hown, hts, hlk, hA, hK⟩ := id M
  unfold f_X4_soon_24 at h
  refine lv_iload_n hx hb dX4_soon_24 rfl (lv_at hl 3 rfl) ?_
  refine lv_bipush (v := 6) hx hb dX4_soon_25 (by decide) ?_
  refine lv_icmp_ge (tgt := 53) hx hb dX4_soon_27 (by decide) (fun c_1 => ?_) (fun c_1 => ?_)
  · replace h := it_p c_1 h
    refine lv_iconst (v := 0) hx hb dX4_soon_53 (by decide) ?_
    refine lv_istore_n (lv' := [(3, .int (0 : Int32)), (0, .ref (b0 0)), (1, .int x1), (2, .int x2)]) hx hb dX4_soon_54 rfl hl (by decide) rfl (fun ls hl => ?_)
    refine lv_iconst (v := 0) hx hb dX4_soon_55 (by decide) ?_
    refine lv_istore (lv' := [(4, .int (0 : Int32)), (3, .int (0 : Int32)), (0, .ref (b0 0)), (1, .int x1), (2, .int x2)]) hx hb dX4_soon_56 hl (by decide) rfl (fun ls hl => ?_)
    cases h
    exact ih.2.1 uv (0 : Int32) (0 : Int32) _ _ _ hm hP hD hS (lv_sub hl [2, 3, 4, 1, 0] rfl)
  · replace h := it_n c_1 h
    refine lv_aload_n hx hb dX4_soon_30 rfl (lv_at hl 0 rfl) ?_
    refine va_get (D := D) (ci := 4) (v := .ref (b0 10)) (C := RX4) (T := TX4) (N := 21) hx hb hts iX4_soon_X4 hown hK.1 hP 0 rfl rfl 17 (by decide) (hts _ mX4_soon_1) (fun _ h9 => h9) rfl dX4_soon_31 ?_
    refine lv_iload_n hx hb dX4_soon_34 rfl (lv_at hl 3 rfl) ?_
    refine lv_iconst (v := 1) hx hb dX4_soon_35 (by decide) ?_
    refine lv_iadd hx hb dX4_soon_36 ?_
    refine lv_bipush (v := 6) hx hb dX4_soon_37 (by decide) ?_
    refine lv_aload_n hx hb dX4_soon_39 rfl (lv_at hl 0 rfl) ?_
    refine va_get (D := D) (ci := 4) (v := .ref (b0 10)) (C := RX4) (T := TX4) (N := 21) hx hb hts iX4_soon_X4 hown hK.1 hP 0 rfl rfl 17 (by decide) (hts _ mX4_soon_1) (fun _ h9 => h9) rfl dX4_soon_40 ?_
    refine lv_iload_n hx hb dX4_soon_43 rfl (lv_at hl 3 rfl) ?_
    obtain ⟨b_2, h⟩ := ck_s h
    refine va_iald hx hb hK.1 hP 10 1 rfl rfl b_2 dX4_soon_44 ?_
    refine lv_imul hx hb dX4_soon_45 ?_
    obtain ⟨b_3, h⟩ := ck_s h
    refine va_iast hx hb hK.1 hP hD hS 10 1 rfl rfl b_3 dX4_soon_46 (fun H locs hP hD hS => ?_)
    obtain ⟨uv_4, euv_4⟩ : ∃ z : MS, z = (uv.1, uv.2.1, uv.2.2.1, uv.2.2.2.1, uv.2.2.2.2.1, uv.2.2.2.2.2.1, uv.2.2.2.2.2.2.1, uv.2.2.2.2.2.2.2.1, uv.2.2.2.2.2.2.2.2.1, uv.2.2.2.2.2.2.2.2.2.1, uv.2.2.2.2.2.2.2.2.2.2.1, uv.2.2.2.2.2.2.2.2.2.2.2.1, uv.2.2.2.2.2.2.2.2.2.2.2.2.1, uv.2.2.2.2.2.2.2.2.2.2.2.2.2.1, uv.2.2.2.2.2.2.2.2.2.2.2.2.2.2.1, uv.2.2.2.2.2.2.2.2.2.2.2.2.2.2.2.1, uv.2.2.2.2.2.2.2.2.2.2.2.2.2.2.2.2.1, (upd uv.2.2.2.2.2.2.2.2.2.2.2.2.2.2.2.2.2.1 (x3 + (1 : Int32)).toNatClampNeg ((6 : Int32) * (uv.2.2.2.2.2.2.2.2.2.2.2.2.2.2.2.2.2.1 x3.toNatClampNeg))), uv.2.2.2.2.2.2.2.2.2.2.2.2.2.2.2.2.2.2) := ⟨_, rfl⟩
    replace h := nm_s h euv_4
    have hP : va_P D vwCl (wM cy b0 uv_4 []) H := by subst euv_4; exact hP
    have hD : va_D A (wM cy b0 uv_4 []) := hD.lk [(b0 0), (b0 1), (b0 2), (b0 3), (b0 4), (b0 5), (b0 6), (b0 7), (b0 8), (b0 9), (b0 10), (b0 11), (b0 12), (b0 13)] rfl rfl
    obtain ⟨x3_5, ex3_5⟩ : ∃ z : Int32, z = (x3 + (1 : Int32)) := ⟨_, rfl⟩
    replace h := nm_s h ex3_5
    refine lv_iinc (v := x3_5) (lv' := [(3, .int x3_5), (0, .ref (b0 0)), (1, .int x1), (2, .int x2)]) hx hb dX4_soon_47 hl (k := 3) rfl (by rw [ex3_5]; rfl) (by decide) rfl (fun ls hl => ?_)
    refine lv_goto (tgt := 24) hx hb dX4_soon_50 (by decide) ?_
    cases h
    exact ih.1 uv_4 x3_5 _ _ _ hm hP hD hS (lv_sub hl [1, 2, 3, 0] rfl)
set_option maxHeartbeats 4000000 in
set_option maxRecDepth 100000 in
theorem w_X4_soon_0 {p : Program} {l : Launch} {e : Env} {s : State} {m : MethodId} {args : Array Value} {below : List Frame} {meth : Method} {c : Code} {A : Nat → Prop} {D : va_G} {cy : Nat → ClassId} {b0 : Nat → Nat} {x1 : Int32} {x2 : Int32} {fu : Nat} {rr : Int32 × MS} (M : kM p s m args meth c cX4_soon 9 (some .int) RX4 wsX4_soon A D cy) (ih : I_X4_soon p l e s m args below meth c A D cy b0 x1 x2 fu rr) {uv : MS} {oo : ((MS × Int32) ⊕ (MS × Int32 × Int32) ⊕ (MS × Int32 × Int32) ⊕ (MS × Int32 × Int32 × Int32) ⊕ (MS × Int32 × Int32 × Int32 × Int32 × Int32)) ⊕ (Int32 × MS)} (h : f_X4_soon_0 uv x1 x2 = some oo) (hm : lpo (st_X4_soon x1 x2) fu oo rr) {H : Heap} {locs : List Loc} {ls : Array Slot} (hP : va_P D vwCl (wM cy b0 uv []) H) (hD : va_D A (wM cy b0 uv [])) (hS : va_S A s.heap H locs) (hl : lv_has ls 9 [(0, .ref (b0 0)), (1, .int x1), (2, .int x2)]) : W p l e { frames := 3, cells := 0, slots := 0, locals := 64 } s m args below meth c H locs 0 0 (MQ below (qI D (wM cy b0 rr.2 []) (rr.1) A) args s 0 0 A) (F0 m 0 ls []) := by
  obtain ⟨hx, hb, hr, hml, hown, hts, hlk, hA, hK⟩ := id M
  unfold f_X4_soon_0 at h
  refine lv_aload_n hx hb dX4_soon_0 rfl (lv_at hl 0 rfl) ?_
  refine lv_iload_n hx hb dX4_soon_1 rfl (lv_at hl 1 rfl) ?_
  refine lv_iload_n hx hb dX4_soon_2 rfl (lv_at hl 2 rfl) ?_
  obtain ⟨r_1, hr_1, h⟩ := bn_s h
  refine kcVi (As := [.int x1, .int x2]) (rest := []) (ws' := (wM cy b0 uv [])) ⟨hx, hb, hml, hown, hts⟩ (cwV 2 hts gX4_soon_X4_isDebt rfl rfl rfl ⟨rfl, eX4_isDebt⟩ ⟨Nat.le_of_ble_eq_true rfl, Nat.le_of_ble_eq_true rfl⟩) (c_X4_isDebt b0 hr_1) hK hP hD hS hA [0, 1, 2, 3, 4, 5, 6, 7, 8, 9, 10, 11, 12, 13] [] (by decide) rfl rfl 4 rfl rfl [(b0 0), (b0 1), (b0 2), (b0 3), (b0 4), (b0 5), (b0 6), (b0 7), (b0 8), (b0 9), (b0 10), (b0 11), (b0 12), (b0 13)] rfl rfl rfl [] rfl rfl rfl rfl hl.1 rfl (Nat.le_of_ble_eq_true rfl) dX4_soon_3 (fun H locs hP hD hS => ?_)
  refine lv_if_ne (tgt := 11) hx hb dX4_soon_6 (by decide) (fun c_2 => ?_) (fun c_2 => ?_)
  · replace h := it_n c_2 h
    refine lv_aload_n hx hb dX4_soon_11 rfl (lv_at hl 0 rfl) ?_
    obtain ⟨r_3, hr_3, h⟩ := bn_s h
    refine kcVv (As := []) (rest := []) (ws' := (wM cy b0 r_3 [])) ⟨hx, hb, hml, hown, hts⟩ (cwV 0 hts gX4_soon_X4_layTurns rfl rfl rfl ⟨rfl, eX4_layTurns⟩ ⟨Nat.le_of_ble_eq_true rfl, Nat.le_of_ble_eq_true rfl⟩) (c_X4_layTurns b0 hr_3) hK hP hD hS hA [0, 1, 2, 3, 4, 5, 6, 7, 8, 9, 10, 11, 12, 13] [] (by decide) rfl rfl 4 rfl rfl [(b0 0), (b0 1), (b0 2), (b0 3), (b0 4), (b0 5), (b0 6), (b0 7), (b0 8), (b0 9), (b0 10), (b0 11), (b0 12), (b0 13)] rfl rfl rfl [] rfl rfl rfl rfl hl.1 rfl (Nat.le_of_ble_eq_true rfl) dX4_soon_12 (fun H locs hP hD hS => ?_)
    refine lv_aload_n hx hb dX4_soon_15 rfl (lv_at hl 0 rfl) ?_
    refine va_get (D := D) (ci := 4) (v := .ref (b0 10)) (C := RX4) (T := TX4) (N := 21) hx hb hts iX4_soon_X4 hown hK.1 hP 0 rfl rfl 17 (by decide) (hts _ mX4_soon_1) (fun _ h9 => h9) rfl dX4_soon_16 ?_
    refine lv_iconst (v := 0) hx hb dX4_soon_19 (by decide) ?_
    refine lv_iconst (v := 1) hx hb dX4_soon_20 (by decide) ?_
    obtain ⟨b_4, h⟩ := ck_s h
    refine va_iast hx hb hK.1 hP hD hS 10 1 rfl rfl b_4 dX4_soon_21 (fun H locs hP hD hS => ?_)
    obtain ⟨uv_5, euv_5⟩ : ∃ z : MS, z = (r_3.1, r_3.2.1, r_3.2.2.1, r_3.2.2.2.1, r_3.2.2.2.2.1, r_3.2.2.2.2.2.1, r_3.2.2.2.2.2.2.1, r_3.2.2.2.2.2.2.2.1, r_3.2.2.2.2.2.2.2.2.1, r_3.2.2.2.2.2.2.2.2.2.1, r_3.2.2.2.2.2.2.2.2.2.2.1, r_3.2.2.2.2.2.2.2.2.2.2.2.1, r_3.2.2.2.2.2.2.2.2.2.2.2.2.1, r_3.2.2.2.2.2.2.2.2.2.2.2.2.2.1, r_3.2.2.2.2.2.2.2.2.2.2.2.2.2.2.1, r_3.2.2.2.2.2.2.2.2.2.2.2.2.2.2.2.1, r_3.2.2.2.2.2.2.2.2.2.2.2.2.2.2.2.2.1, (upd r_3.2.2.2.2.2.2.2.2.2.2.2.2.2.2.2.2.2.1 (0 : Int32).toNatClampNeg (1 : Int32)), r_3.2.2.2.2.2.2.2.2.2.2.2.2.2.2.2.2.2.2) := ⟨_, rfl⟩
    replace h := nm_s h euv_5
    have hP : va_P D vwCl (wM cy b0 uv_5 []) H := by subst euv_5; exact hP
    have hD : va_D A (wM cy b0 uv_5 []) := hD.lk [(b0 0), (b0 1), (b0 2), (b0 3), (b0 4), (b0 5), (b0 6), (b0 7), (b0 8), (b0 9), (b0 10), (b0 11), (b0 12), (b0 13)] rfl rfl
    refine lv_iconst (v := 0) hx hb dX4_soon_22 (by decide) ?_
    refine lv_istore_n (lv' := [(3, .int (0 : Int32)), (0, .ref (b0 0)), (1, .int x1), (2, .int x2)]) hx hb dX4_soon_23 rfl hl (by decide) rfl (fun ls hl => ?_)
    cases h
    exact ih.1 uv_5 (0 : Int32) _ _ _ hm hP hD hS (lv_sub hl [1, 2, 3, 0] rfl)
  · replace h := it_p c_2 h
    refine lv_iconst (v := (-1)) hx hb dX4_soon_9 (by decide) ?_
    cases h
    have hm : _ = rr := hm
    subst hm
    exact kretI hx hb hr hlk hP hS dX4_soon_10
theorem wl_X4_soon {p : Program} {l : Launch} {e : Env} {s : State} {m : MethodId} {args : Array Value} {below : List Frame} {meth : Method} {c : Code} {A : Nat → Prop} {D : va_G} {cy : Nat → ClassId} {b0 : Nat → Nat} {x1 : Int32} {x2 : Int32} {rr : Int32 × MS} (M : kM p s m args meth c cX4_soon 9 (some .int) RX4 wsX4_soon A D cy) : ∀ fu : Nat, I_X4_soon p l e s m args below meth c A D cy b0 x1 x2 fu rr := by
  intro fu
  induction fu with
  | zero => exact ⟨(fun _ _ _ _ _ h => by cases h), (fun _ _ _ _ _ _ h => by cases h), (fun _ _ _ _ _ _ h => by cases h), (fun _ _ _ _ _ _ _ h => by cases h), (fun _ _ _ _ _ _ _ _ _ h => by cases h)⟩
  | succ fu ih =>
    refine ⟨?_, ?_, ?_, ?_, ?_⟩
    · intro uv x3 H locs ls h hP hD hS hl
      obtain ⟨o1, h1, h2⟩ := lpn_s h
      exact w_X4_soon_24 M ih h1 h2 hP hD hS hl
    · intro uv x3 x4 H locs ls h hP hD hS hl
      obtain ⟨o1, h1, h2⟩ := lpn_s h
      exact w_X4_soon_58 M ih h1 h2 hP hD hS hl
    · intro uv x3 x4 H locs ls h hP hD hS hl
      obtain ⟨o1, h1, h2⟩ := lpn_s h
      exact w_X4_soon_102 M ih h1 h2 hP hD hS hl
    · intro uv x3 x4 x5 H locs ls h hP hD hS hl
      obtain ⟨o1, h1, h2⟩ := lpn_s h
      exact w_X4_soon_139 M ih h1 h2 hP hD hS hl
    · intro uv x3 x4 x5 x6 x7 H locs ls h hP hD hS hl
      obtain ⟨o1, h1, h2⟩ := lpn_s h
      exact w_X4_soon_162 M ih h1 h2 hP hD hS hl
theorem c_X4_soon {l : Launch} {D : va_G} {cy : Nat → ClassId} (b0 : Nat → Nat) {uv : MS} {x1 : Int32} {x2 : Int32} {rr : Int32 × MS} (h : f_X4_soon uv x1 x2 = some rr) : CI l D cy yX4_soon wsX4_soon { frames := 3, cells := 0, slots := 0, locals := 64 } [.ref (b0 0), .int x1, .int x2] (wM cy b0 uv []) (rr.1) (wM cy b0 rr.2 []) := by
  refine kofI (cc := cX4_soon) (maxL := 9) (ret := (some .int)) (by decide) rfl (Nat.le_of_ble_eq_true rfl) ?_
  intro p e s m below meth c A M ls hl hP hD hS
  obtain ⟨o1, fu, h1, h2⟩ := rnx_s h
  exact w_X4_soon_0 M (wl_X4_soon M fu) h1 h2 hP hD hS hl
theorem eX4_soon : yX4_soon.cls ≠ "java/lang/invoke/MethodHandle" ∧ yX4_soon.cls ≠ "java/lang/invoke/VarHandle" ∧ (parseMethodDescriptor yX4_soon.desc).map (fun d => d.parameters.length) = some 2 := by decide +kernel
theorem iX4_told_X4 : ∀ w ∈ u_ws RX4 TX4 21, w ∈ wsX4_told := by decide +kernel
theorem mX4_told_1 : Cond.fieldLink RX4 66 "LentPilesModel" "signs" "I" ∈ wsX4_told := by decide +kernel
theorem mX4_told_2 : Cond.fieldLink RX4 73 "LentPilesModel" "days" "I" ∈ wsX4_told := by decide +kernel
theorem mX4_told_3 : Cond.fieldLink RX4 59 "LentPilesModel" "law" "I" ∈ wsX4_told := by decide +kernel
theorem mX4_told_4 : Cond.fieldLink RX4 63 "LentPilesModel" "rate" "I" ∈ wsX4_told := by decide +kernel
theorem mX4_told_5 : Cond.fieldLink RX4 126 "LentPilesModel" "sights" "I" ∈ wsX4_told := by decide +kernel
theorem mX4_told_6 : Cond.fieldLink RX4 13 "LentPilesModel" "size" "[I" ∈ wsX4_told := by decide +kernel
theorem mX4_told_7 : Cond.fieldLink RX4 7 "LentPilesModel" "money" "[I" ∈ wsX4_told := by decide +kernel
set_option maxHeartbeats 4000000 in
set_option maxRecDepth 100000 in
theorem w_X4_told_0 {p : Program} {l : Launch} {e : Env} {s : State} {m : MethodId} {args : Array Value} {below : List Frame} {meth : Method} {c : Code} {A : Nat → Prop} {D : va_G} {cy : Nat → ClassId} {b0 : Nat → Nat} {uv : MS} {x1 : Int32} {rr : Int32} (M : kM p s m args meth c cX4_told 2 (some .int) RX4 wsX4_told A D cy)  (h : f_X4_told uv x1 = some rr) {H : Heap} {locs : List Loc} {ls : Array Slot} (hP : va_P D vwCl (wM cy b0 uv []) H) (hD : va_D A (wM cy b0 uv [])) (hS : va_S A s.heap H locs) (hl : lv_has ls 2 [(0, .ref (b0 0)), (1, .int x1)]) : W p l e { frames := 1, cells := 0, slots := 0, locals := 22 } s m args below meth c H locs 0 0 (MQ below (qI D (wM cy b0 uv []) (rr) A) args s 0 0 A) (F0 m 0 ls []) := by
  obtain ⟨hx, hb, hr, hml, hown, hts, hlk, hA, hK⟩ := id M
  unfold f_X4_told at h
  refine lv_iload_n hx hb dX4_told_0 rfl (lv_at hl 1 rfl) ?_
  refine lv_bipush (v := 10) hx hb dX4_told_1 (by decide) ?_
  refine lv_bipush (v := 15) hx hb dX4_told_3 (by decide) ?_
  obtain ⟨r_1, hr_1, h⟩ := bn_s h
  refine kcSi (As := [.int x1, .int (10 : Int32), .int (15 : Int32)]) (rest := []) ⟨hx, hb, hml, hown, hts⟩ (va_cwS 3 hts gX4_told_X4_in rfl rfl rfl eX4_in ⟨Nat.le_of_ble_eq_true rfl, Nat.le_of_ble_eq_true rfl⟩) (c_X4_in  hr_1) hK hP hS hA rfl hl.1 rfl (Nat.le_of_ble_eq_true rfl) dX4_told_5 (fun H locs hP hS => ?_)
  refine lv_if_eq (tgt := 21) hx hb dX4_told_8 (by decide) (fun c_2 => ?_) (fun c_2 => ?_)
  · replace h := it_p c_2 h
    refine lv_iload_n hx hb dX4_told_21 rfl (lv_at hl 1 rfl) ?_
    refine lv_bipush (v := 20) hx hb dX4_told_22 (by decide) ?_
    refine lv_bipush (v := 25) hx hb dX4_told_24 (by decide) ?_
    obtain ⟨r_3, hr_3, h⟩ := bn_s h
    refine kcSi (As := [.int x1, .int (20 : Int32), .int (25 : Int32)]) (rest := []) ⟨hx, hb, hml, hown, hts⟩ (va_cwS 3 hts gX4_told_X4_in rfl rfl rfl eX4_in ⟨Nat.le_of_ble_eq_true rfl, Nat.le_of_ble_eq_true rfl⟩) (c_X4_in  hr_3) hK hP hS hA rfl hl.1 rfl (Nat.le_of_ble_eq_true rfl) dX4_told_26 (fun H locs hP hS => ?_)
    refine lv_if_eq (tgt := 42) hx hb dX4_told_29 (by decide) (fun c_4 => ?_) (fun c_4 => ?_)
    · replace h := it_p c_4 h
      refine lv_iload_n hx hb dX4_told_42 rfl (lv_at hl 1 rfl) ?_
      by_cases c_5 : x1 = (0 : Int32)
      · replace h := it_p c_5 h
        refine lv_tableIn (off := 29) (tgt := 72) hx hb dX4_told_43 (by rw [c_5]; decide) (by rw [c_5]; decide) (by rw [c_5]; rfl) (by decide) ?_
        refine lv_aload_n hx hb dX4_told_72 rfl (lv_at hl 0 rfl) ?_
        refine va_get (D := D) (ci := 4) (v := .int uv.2.2.2.2.2.2.2.2.1) (C := RX4) (T := TX4) (N := 21) hx hb hts iX4_told_X4 hown hK.1 hP 0 rfl rfl 8 (by decide) (hts _ mX4_told_1) (fun _ h9 => h9) rfl dX4_told_73 ?_
        cases h
        exact kretI hx hb hr hlk hP hS dX4_told_76
      · replace h := it_n c_5 h
        by_cases c_6 : x1 = (1 : Int32)
        · replace h := it_p c_6 h
          refine lv_tableIn (off := 34) (tgt := 77) hx hb dX4_told_43 (by rw [c_6]; decide) (by rw [c_6]; decide) (by rw [c_6]; rfl) (by decide) ?_
          refine lv_aload_n hx hb dX4_told_77 rfl (lv_at hl 0 rfl) ?_
          refine va_get (D := D) (ci := 4) (v := .int uv.2.2.1) (C := RX4) (T := TX4) (N := 21) hx hb hts iX4_told_X4 hown hK.1 hP 0 rfl rfl 2 (by decide) (hts _ mX4_told_2) (fun _ h9 => h9) rfl dX4_told_78 ?_
          cases h
          exact kretI hx hb hr hlk hP hS dX4_told_81
        · replace h := it_n c_6 h
          by_cases c_7 : x1 = (2 : Int32)
          · replace h := it_p c_7 h
            refine lv_tableIn (off := 39) (tgt := 82) hx hb dX4_told_43 (by rw [c_7]; decide) (by rw [c_7]; decide) (by rw [c_7]; rfl) (by decide) ?_
            refine lv_aload_n hx hb dX4_told_82 rfl (lv_at hl 0 rfl) ?_
            refine va_get (D := D) (ci := 4) (v := .int uv.1) (C := RX4) (T := TX4) (N := 21) hx hb hts iX4_told_X4 hown hK.1 hP 0 rfl rfl 0 (by decide) (hts _ mX4_told_3) (fun _ h9 => h9) rfl dX4_told_83 ?_
            cases h
            exact kretI hx hb hr hlk hP hS dX4_told_86
          · replace h := it_n c_7 h
            by_cases c_8 : x1 = (3 : Int32)
            · replace h := it_p c_8 h
              refine lv_tableIn (off := 44) (tgt := 87) hx hb dX4_told_43 (by rw [c_8]; decide) (by rw [c_8]; decide) (by rw [c_8]; rfl) (by decide) ?_
              refine lv_aload_n hx hb dX4_told_87 rfl (lv_at hl 0 rfl) ?_
              refine va_get (D := D) (ci := 4) (v := .int uv.2.1) (C := RX4) (T := TX4) (N := 21) hx hb hts iX4_told_X4 hown hK.1 hP 0 rfl rfl 1 (by decide) (hts _ mX4_told_4) (fun _ h9 => h9) rfl dX4_told_88 ?_
              cases h
              exact kretI hx hb hr hlk hP hS dX4_told_91
            · replace h := it_n c_8 h
              have hsw : (x1).toInt < 0 ∨ 3 < (x1).toInt := sw_out3 c_5 c_6 c_7 c_8
              refine lv_tableOut (tgt := 92) hx hb dX4_told_43 hsw (by decide) ?_
              refine lv_iload_n hx hb dX4_told_92 rfl (lv_at hl 1 rfl) ?_
              refine lv_iconst (v := 4) hx hb dX4_told_93 (by decide) ?_
              refine lv_icmp_ne (tgt := 104) hx hb dX4_told_94 (by decide) (fun c_9 => ?_) (fun c_9 => ?_)
              · replace h := it_n c_9 h
                refine lv_bipush (v := (-2)) hx hb dX4_told_104 (by decide) ?_
                cases h
                exact kretI hx hb hr hlk hP hS dX4_told_106
              · replace h := it_p c_9 h
                refine lv_aload_n hx hb dX4_told_97 rfl (lv_at hl 0 rfl) ?_
                refine va_get (D := D) (ci := 4) (v := .int uv.2.2.2.2.2.2.1) (C := RX4) (T := TX4) (N := 21) hx hb hts iX4_told_X4 hown hK.1 hP 0 rfl rfl 6 (by decide) (hts _ mX4_told_5) (fun _ h9 => h9) rfl dX4_told_98 ?_
                refine lv_goto (tgt := 106) hx hb dX4_told_101 (by decide) ?_
                cases h
                exact kretI hx hb hr hlk hP hS dX4_told_106
    · replace h := it_n c_4 h
      refine lv_aload_n hx hb dX4_told_32 rfl (lv_at hl 0 rfl) ?_
      refine va_get (D := D) (ci := 4) (v := .ref (b0 2)) (C := RX4) (T := TX4) (N := 21) hx hb hts iX4_told_X4 hown hK.1 hP 0 rfl rfl 4 (by decide) (hts _ mX4_told_6) (fun _ h9 => h9) rfl dX4_told_33 ?_
      refine lv_iload_n hx hb dX4_told_36 rfl (lv_at hl 1 rfl) ?_
      refine lv_bipush (v := 20) hx hb dX4_told_37 (by decide) ?_
      refine lv_isub hx hb dX4_told_39 ?_
      obtain ⟨b_10, h⟩ := ck_s h
      refine va_iald hx hb hK.1 hP 2 1 rfl rfl b_10 dX4_told_40 ?_
      cases h
      exact kretI hx hb hr hlk hP hS dX4_told_41
  · replace h := it_n c_2 h
    refine lv_aload_n hx hb dX4_told_11 rfl (lv_at hl 0 rfl) ?_
    refine va_get (D := D) (ci := 4) (v := .ref (b0 1)) (C := RX4) (T := TX4) (N := 21) hx hb hts iX4_told_X4 hown hK.1 hP 0 rfl rfl 3 (by decide) (hts _ mX4_told_7) (fun _ h9 => h9) rfl dX4_told_12 ?_
    refine lv_iload_n hx hb dX4_told_15 rfl (lv_at hl 1 rfl) ?_
    refine lv_bipush (v := 10) hx hb dX4_told_16 (by decide) ?_
    refine lv_isub hx hb dX4_told_18 ?_
    obtain ⟨b_11, h⟩ := ck_s h
    refine va_iald hx hb hK.1 hP 1 1 rfl rfl b_11 dX4_told_19 ?_
    cases h
    exact kretI hx hb hr hlk hP hS dX4_told_20
theorem c_X4_told {l : Launch} {D : va_G} {cy : Nat → ClassId} (b0 : Nat → Nat) {uv : MS} {x1 : Int32} {rr : Int32} (h : f_X4_told uv x1 = some rr) : CI l D cy yX4_told wsX4_told { frames := 1, cells := 0, slots := 0, locals := 22 } [.ref (b0 0), .int x1] (wM cy b0 uv []) (rr) (wM cy b0 uv []) := by
  refine kofI (cc := cX4_told) (maxL := 2) (ret := (some .int)) (by decide) rfl (Nat.le_of_ble_eq_true rfl) ?_
  intro p e s m below meth c A M ls hl hP hD hS
  exact w_X4_told_0 M h hP hD hS hl
theorem eX4_told : yX4_told.cls ≠ "java/lang/invoke/MethodHandle" ∧ yX4_told.cls ≠ "java/lang/invoke/VarHandle" ∧ (parseMethodDescriptor yX4_told.desc).map (fun d => d.parameters.length) = some 1 := by decide +kernel
theorem mX4_whom_1 : Cond.constant RX4 141 (1000000) ∈ wsX4_whom := by decide +kernel
def I_X4_whom (p : Program) (l : Launch) (e : Env) (s : State) (m : MethodId) (args : Array Value) (below : List Frame) (meth : Method) (c : Code) (A : Nat → Prop) (D : va_G) (cy : Nat → ClassId) (b0 : Nat → Nat) (fu : Nat) (rr : Int32 × MS) : Prop := (∀ (uv : MS) (x1 : Int32) (x2 : Int32) (x3 : Int32) (H : Heap) (locs : List Loc) (ls : Array Slot), lpn (st_X4_whom ) fu (uv, x1, x2, x3) = some rr → va_P D vwCl (wM cy b0 uv []) H → va_D A (wM cy b0 uv []) → va_S A s.heap H locs → lv_has ls 5 [(0, .ref (b0 0)), (1, .int x1), (2, .int x2), (3, .int x3)] → W p l e { frames := 7, cells := 0, slots := 0, locals := 157 } s m args below meth c H locs 0 0 (MQ below (qI D (wM cy b0 rr.2 []) (rr.1) A) args s 0 0 A) (F0 m 8 ls []))
set_option maxHeartbeats 4000000 in
set_option maxRecDepth 100000 in
theorem w_X4_whom_8 {p : Program} {l : Launch} {e : Env} {s : State} {m : MethodId} {args : Array Value} {below : List Frame} {meth : Method} {c : Code} {A : Nat → Prop} {D : va_G} {cy : Nat → ClassId} {b0 : Nat → Nat} {fu : Nat} {rr : Int32 × MS} (M : kM p s m args meth c cX4_whom 5 (some .int) RX4 wsX4_whom A D cy) (ih : I_X4_whom p l e s m args below meth c A D cy b0 fu rr) {uv : MS} {x1 : Int32} {x2 : Int32} {x3 : Int32} {oo : (MS × Int32 × Int32 × Int32) ⊕ (Int32 × MS)} (h : f_X4_whom_8 uv x1 x2 x3 = some oo) (hm : lpo (st_X4_whom ) fu oo rr) {H : Heap} {locs : List Loc} {ls : Array Slot} (hP : va_P D vwCl (wM cy b0 uv []) H) (hD : va_D A (wM cy b0 uv [])) (hS : va_S A s.heap H locs) (hl : lv_has ls 5 [(0, .ref (b0 0)), (1, .int x1), (2, .int x2), (3, .int x3)]) : W p l e { frames := 7, cells := 0, slots := 0, locals := 157 } s m args below meth c H locs 0 0 (MQ below (qI D (wM cy b0 rr.2 []) (rr.1) A) args s 0 0 A) (F0 m 8 ls []) := by
  obtain ⟨hx, hb, hr, hml, hown, hts, hlk, hA, hK⟩ := id M
  unfold f_X4_whom_8 at h
  refine lv_iload_n hx hb dX4_whom_8 rfl (lv_at hl 3 rfl) ?_
  refine lv_bipush (v := 6) hx hb dX4_whom_9 (by decide) ?_
  refine lv_icmp_ge (tgt := 43) hx hb dX4_whom_11 (by decide) (fun c_1 => ?_) (fun c_1 => ?_)
  · replace h := it_p c_1 h
    refine lv_iload_n hx hb dX4_whom_43 rfl (lv_at hl 1 rfl) ?_
    cases h
    have hm : _ = rr := hm
    subst hm
    exact kretI hx hb hr hlk hP hS dX4_whom_44
  · replace h := it_n c_1 h
    refine lv_aload_n hx hb dX4_whom_14 rfl (lv_at hl 0 rfl) ?_
    refine lv_iload_n hx hb dX4_whom_15 rfl (lv_at hl 3 rfl) ?_
    obtain ⟨r_2, hr_2, h⟩ := bn_s h
    refine kcVi (As := [.int x3]) (rest := []) (ws' := (wM cy b0 r_2.2 [])) ⟨hx, hb, hml, hown, hts⟩ (cwV 1 hts gX4_whom_X4_helpOf rfl rfl rfl ⟨rfl, eX4_helpOf⟩ ⟨Nat.le_of_ble_eq_true rfl, Nat.le_of_ble_eq_true rfl⟩) (c_X4_helpOf b0 hr_2) hK hP hD hS hA [0, 1, 2, 3, 4, 5, 6, 7, 8, 9, 10, 11, 12, 13] [] (by decide) rfl rfl 4 rfl rfl [(b0 0), (b0 1), (b0 2), (b0 3), (b0 4), (b0 5), (b0 6), (b0 7), (b0 8), (b0 9), (b0 10), (b0 11), (b0 12), (b0 13)] rfl rfl rfl [] rfl rfl rfl rfl hl.1 rfl (Nat.le_of_ble_eq_true rfl) dX4_whom_16 (fun H locs hP hD hS => ?_)
    refine lv_topi (fun x4_3 ex4_3 => ?_)
    replace h := nm_s h ex4_3
    refine lv_istore (lv' := [(4, .int x4_3), (0, .ref (b0 0)), (1, .int x1), (2, .int x2), (3, .int x3)]) hx hb dX4_whom_19 hl (by decide) rfl (fun ls hl => ?_)
    refine lv_iload hx hb dX4_whom_21 (lv_at hl 0 rfl) ?_
    refine lv_if_lt (tgt := 37) hx hb dX4_whom_23 (by decide) (fun c_4 => ?_) (fun c_4 => ?_)
    · replace h := it_p c_4 h
      obtain ⟨x3_5, ex3_5⟩ : ∃ z : Int32, z = (x3 + (1 : Int32)) := ⟨_, rfl⟩
      replace h := nm_s h ex3_5
      refine lv_iinc (v := x3_5) (lv' := [(3, .int x3_5), (4, .int x4_3), (0, .ref (b0 0)), (1, .int x1), (2, .int x2)]) hx hb dX4_whom_37 hl (k := 4) rfl (by rw [ex3_5]; rfl) (by decide) rfl (fun ls hl => ?_)
      refine lv_goto (tgt := 8) hx hb dX4_whom_40 (by decide) ?_
      cases h
      exact ih r_2.2 x1 x2 x3_5 _ _ _ hm hP hD hS (lv_sub hl [2, 3, 4, 0] rfl)
    · replace h := it_n c_4 h
      refine lv_iload hx hb dX4_whom_26 (lv_at hl 0 rfl) ?_
      refine lv_iload_n hx hb dX4_whom_28 rfl (lv_at hl 3 rfl) ?_
      refine lv_icmp_ge (tgt := 37) hx hb dX4_whom_29 (by decide) (fun c_6 => ?_) (fun c_6 => ?_)
      · replace h := it_p c_6 h
        obtain ⟨x3_7, ex3_7⟩ : ∃ z : Int32, z = (x3 + (1 : Int32)) := ⟨_, rfl⟩
        replace h := nm_s h ex3_7
        refine lv_iinc (v := x3_7) (lv' := [(3, .int x3_7), (4, .int x4_3), (0, .ref (b0 0)), (1, .int x1), (2, .int x2)]) hx hb dX4_whom_37 hl (k := 4) rfl (by rw [ex3_7]; rfl) (by decide) rfl (fun ls hl => ?_)
        refine lv_goto (tgt := 8) hx hb dX4_whom_40 (by decide) ?_
        cases h
        exact ih r_2.2 x1 x2 x3_7 _ _ _ hm hP hD hS (lv_sub hl [2, 3, 4, 0] rfl)
      · replace h := it_n c_6 h
        refine lv_iload hx hb dX4_whom_32 (lv_at hl 0 rfl) ?_
        refine lv_istore_n (lv' := [(2, .int x4_3), (4, .int x4_3), (0, .ref (b0 0)), (1, .int x1), (3, .int x3)]) hx hb dX4_whom_34 rfl hl (by decide) rfl (fun ls hl => ?_)
        refine lv_iload_n hx hb dX4_whom_35 rfl (lv_at hl 4 rfl) ?_
        refine lv_istore_n (lv' := [(1, .int x3), (2, .int x4_3), (4, .int x4_3), (0, .ref (b0 0)), (3, .int x3)]) hx hb dX4_whom_36 rfl hl (by decide) rfl (fun ls hl => ?_)
        obtain ⟨x3_8, ex3_8⟩ : ∃ z : Int32, z = (x3 + (1 : Int32)) := ⟨_, rfl⟩
        replace h := nm_s h ex3_8
        refine lv_iinc (v := x3_8) (lv' := [(3, .int x3_8), (1, .int x3), (2, .int x4_3), (4, .int x4_3), (0, .ref (b0 0))]) hx hb dX4_whom_37 hl (k := 4) rfl (by rw [ex3_8]; rfl) (by decide) rfl (fun ls hl => ?_)
        refine lv_goto (tgt := 8) hx hb dX4_whom_40 (by decide) ?_
        cases h
        exact ih r_2.2 x3 x4_3 x3_8 _ _ _ hm hP hD hS (lv_sub hl [4, 1, 2, 0] rfl)
set_option maxHeartbeats 4000000 in
set_option maxRecDepth 100000 in
theorem w_X4_whom_0 {p : Program} {l : Launch} {e : Env} {s : State} {m : MethodId} {args : Array Value} {below : List Frame} {meth : Method} {c : Code} {A : Nat → Prop} {D : va_G} {cy : Nat → ClassId} {b0 : Nat → Nat} {fu : Nat} {rr : Int32 × MS} (M : kM p s m args meth c cX4_whom 5 (some .int) RX4 wsX4_whom A D cy) (ih : I_X4_whom p l e s m args below meth c A D cy b0 fu rr) {uv : MS} {oo : (MS × Int32 × Int32 × Int32) ⊕ (Int32 × MS)} (h : f_X4_whom_0 uv = some oo) (hm : lpo (st_X4_whom ) fu oo rr) {H : Heap} {locs : List Loc} {ls : Array Slot} (hP : va_P D vwCl (wM cy b0 uv []) H) (hD : va_D A (wM cy b0 uv [])) (hS : va_S A s.heap H locs) (hl : lv_has ls 5 [(0, .ref (b0 0))]) : W p l e { frames := 7, cells := 0, slots := 0, locals := 157 } s m args below meth c H locs 0 0 (MQ below (qI D (wM cy b0 rr.2 []) (rr.1) A) args s 0 0 A) (F0 m 0 ls []) := by
  obtain ⟨hx, hb, hr, hml, hown, hts, hlk, hA, hK⟩ := id M
  unfold f_X4_whom_0 at h
  refine lv_bipush (v := (-6)) hx hb dX4_whom_0 (by decide) ?_
  refine lv_istore_n (lv' := [(1, .int (-6 : Int32)), (0, .ref (b0 0))]) hx hb dX4_whom_2 rfl hl (by decide) rfl (fun ls hl => ?_)
  refine lv_ldc (v := 1000000) hx hb hown (hts _ mX4_whom_1) dX4_whom_3 ?_
  refine lv_istore_n (lv' := [(2, .int (1000000 : Int32)), (1, .int (-6 : Int32)), (0, .ref (b0 0))]) hx hb dX4_whom_5 rfl hl (by decide) rfl (fun ls hl => ?_)
  refine lv_iconst (v := 0) hx hb dX4_whom_6 (by decide) ?_
  refine lv_istore_n (lv' := [(3, .int (0 : Int32)), (2, .int (1000000 : Int32)), (1, .int (-6 : Int32)), (0, .ref (b0 0))]) hx hb dX4_whom_7 rfl hl (by decide) rfl (fun ls hl => ?_)
  cases h
  exact ih uv (-6 : Int32) (1000000 : Int32) (0 : Int32) _ _ _ hm hP hD hS (lv_sub hl [3, 2, 1, 0] rfl)
theorem wl_X4_whom {p : Program} {l : Launch} {e : Env} {s : State} {m : MethodId} {args : Array Value} {below : List Frame} {meth : Method} {c : Code} {A : Nat → Prop} {D : va_G} {cy : Nat → ClassId} {b0 : Nat → Nat} {rr : Int32 × MS} (M : kM p s m args meth c cX4_whom 5 (some .int) RX4 wsX4_whom A D cy) : ∀ fu : Nat, I_X4_whom p l e s m args below meth c A D cy b0 fu rr := by
  intro fu
  induction fu with
  | zero => exact (fun _ _ _ _ _ _ _ h => by cases h)
  | succ fu ih =>
    exact fun uv x1 x2 x3 H locs ls h hP hD hS hl => by
      obtain ⟨o1, h1, h2⟩ := lpn_s h
      exact w_X4_whom_8 M ih h1 h2 hP hD hS hl
theorem c_X4_whom {l : Launch} {D : va_G} {cy : Nat → ClassId} (b0 : Nat → Nat) {uv : MS} {rr : Int32 × MS} (h : f_X4_whom uv = some rr) : CI l D cy yX4_whom wsX4_whom { frames := 7, cells := 0, slots := 0, locals := 157 } [.ref (b0 0)] (wM cy b0 uv []) (rr.1) (wM cy b0 rr.2 []) := by
  refine kofI (cc := cX4_whom) (maxL := 5) (ret := (some .int)) (by decide) rfl (Nat.le_of_ble_eq_true rfl) ?_
  intro p e s m below meth c A M ls hl hP hD hS
  obtain ⟨o1, fu, h1, h2⟩ := rnx_s h
  exact w_X4_whom_0 M (wl_X4_whom M fu) h1 h2 hP hD hS hl
theorem eX4_whom : yX4_whom.cls ≠ "java/lang/invoke/MethodHandle" ∧ yX4_whom.cls ≠ "java/lang/invoke/VarHandle" ∧ (parseMethodDescriptor yX4_whom.desc).map (fun d => d.parameters.length) = some 0 := by decide +kernel
theorem iX4_wipe_X4 : ∀ w ∈ u_ws RX4 TX4 21, w ∈ wsX4_wipe := by decide +kernel
theorem mX4_wipe_1 : Cond.fieldLink RX4 66 "LentPilesModel" "signs" "I" ∈ wsX4_wipe := by decide +kernel
set_option maxHeartbeats 4000000 in
set_option maxRecDepth 100000 in
theorem w_X4_wipe_0 {p : Program} {l : Launch} {e : Env} {s : State} {m : MethodId} {args : Array Value} {below : List Frame} {meth : Method} {c : Code} {A : Nat → Prop} {D : va_G} {cy : Nat → ClassId} {b0 : Nat → Nat} {rr : Int32 × MS} (M : kM p s m args meth c cX4_wipe 2 (some .int) RX4 wsX4_wipe A D cy) {uv : MS} (h : f_X4_wipe uv = some rr) {H : Heap} {locs : List Loc} {ls : Array Slot} (hP : va_P D vwCl (wM cy b0 uv []) H) (hD : va_D A (wM cy b0 uv [])) (hS : va_S A s.heap H locs) (hl : lv_has ls 2 [(0, .ref (b0 0))]) : W p l e { frames := 0, cells := 0, slots := 0, locals := 0 } s m args below meth c H locs 0 0 (MQ below (qI D (wM cy b0 rr.2 []) (rr.1) A) args s 0 0 A) (F0 m 0 ls []) := by
  obtain ⟨hx, hb, hr, hml, hown, hts, hlk, hA, hK⟩ := id M
  unfold f_X4_wipe at h
  refine lv_aload_n hx hb dX4_wipe_0 rfl (lv_at hl 0 rfl) ?_
  refine va_get (D := D) (ci := 4) (v := .int uv.2.2.2.2.2.2.2.2.1) (C := RX4) (T := TX4) (N := 21) hx hb hts iX4_wipe_X4 hown hK.1 hP 0 rfl rfl 8 (by decide) (hts _ mX4_wipe_1) (fun _ h9 => h9) rfl dX4_wipe_1 ?_
  refine lv_topi (fun x1_1 ex1_1 => ?_)
  replace h := nm_s h ex1_1
  refine lv_istore_n (lv' := [(1, .int x1_1), (0, .ref (b0 0))]) hx hb dX4_wipe_4 rfl hl (by decide) rfl (fun ls hl => ?_)
  refine lv_aload_n hx hb dX4_wipe_5 rfl (lv_at hl 1 rfl) ?_
  refine lv_iconst (v := 0) hx hb dX4_wipe_6 (by decide) ?_
  refine va_put (D := D) (ci := 4) (v := .int (0 : Int32)) (ty := .int) (C := RX4) (T := TX4) (N := 21) hx hb hts iX4_wipe_X4 tyX4 tyX4_ok nmX4 hown hK.1 hP hD hS 0 rfl rfl 8 (by decide) (hts _ mX4_wipe_1) (fun _ h9 => h9) rfl (by decide +kernel) rfl rfl (Nat.le_of_ble_eq_true rfl) dX4_wipe_7 (fun H locs hP hD hS => ?_)
  obtain ⟨uv_2, euv_2⟩ : ∃ z : MS, z = (uv.1, uv.2.1, uv.2.2.1, uv.2.2.2.1, uv.2.2.2.2.1, uv.2.2.2.2.2.1, uv.2.2.2.2.2.2.1, uv.2.2.2.2.2.2.2.1, (0 : Int32), uv.2.2.2.2.2.2.2.2.2) := ⟨_, rfl⟩
  replace h := nm_s h euv_2
  have hP : va_P D vwCl (wM cy b0 uv_2 []) H := by subst euv_2; exact hP
  have hD : va_D A (wM cy b0 uv_2 []) := hD.lk [(b0 0), (b0 1), (b0 2), (b0 3), (b0 4), (b0 5), (b0 6), (b0 7), (b0 8), (b0 9), (b0 10), (b0 11), (b0 12), (b0 13)] rfl rfl
  refine lv_iload_n hx hb dX4_wipe_10 rfl (lv_at hl 0 rfl) ?_
  cases h
  exact kretI hx hb hr hlk hP hS dX4_wipe_11
theorem c_X4_wipe {l : Launch} {D : va_G} {cy : Nat → ClassId} (b0 : Nat → Nat) {uv : MS} {rr : Int32 × MS} (h : f_X4_wipe uv = some rr) : CI l D cy yX4_wipe wsX4_wipe { frames := 0, cells := 0, slots := 0, locals := 0 } [.ref (b0 0)] (wM cy b0 uv []) (rr.1) (wM cy b0 rr.2 []) := by
  refine kofI (cc := cX4_wipe) (maxL := 2) (ret := (some .int)) (by decide) rfl (Nat.le_of_ble_eq_true rfl) ?_
  intro p e s m below meth c A M ls hl hP hD hS
  exact w_X4_wipe_0 M h hP hD hS hl
theorem eX4_wipe : yX4_wipe.cls ≠ "java/lang/invoke/MethodHandle" ∧ yX4_wipe.cls ≠ "java/lang/invoke/VarHandle" ∧ (parseMethodDescriptor yX4_wipe.desc).map (fun d => d.parameters.length) = some 0 := by decide +kernel
