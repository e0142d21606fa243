/-! printed by wip/gen/gen.py: the walks -/
theorem iX4_image_X4 : ∀ w ∈ u_ws RX4 TX4 21, w ∈ wsX4_image := by decide +kernel
theorem mX4_image_1 : Cond.fieldLink RX4 45 "LentPilesModel" "image" "[I" ∈ wsX4_image := by decide +kernel
theorem mX4_image_2 : Cond.fieldLink RX4 16 "LentPilesModel" "pile" "[I" ∈ wsX4_image := by decide +kernel
theorem mX4_image_3 : Cond.fieldLink RX4 7 "LentPilesModel" "money" "[I" ∈ wsX4_image := by decide +kernel
theorem mX4_image_4 : Cond.fieldLink RX4 13 "LentPilesModel" "size" "[I" ∈ wsX4_image := by decide +kernel
theorem mX4_image_5 : Cond.fieldLink RX4 59 "LentPilesModel" "law" "I" ∈ wsX4_image := by decide +kernel
theorem mX4_image_6 : Cond.fieldLink RX4 63 "LentPilesModel" "rate" "I" ∈ wsX4_image := by decide +kernel
theorem mX4_image_7 : Cond.fieldLink RX4 73 "LentPilesModel" "days" "I" ∈ wsX4_image := by decide +kernel
theorem mX4_image_8 : Cond.fieldLink RX4 126 "LentPilesModel" "sights" "I" ∈ wsX4_image := by decide +kernel
theorem mX4_image_9 : Cond.fieldLink RX4 48 "LentPilesModel" "isKept" "[Z" ∈ wsX4_image := by decide +kernel
theorem mX4_image_10 : Cond.fieldLink RX4 19 "LentPilesModel" "sight" "[I" ∈ wsX4_image := by decide +kernel
def I_X4_image (p : Program) (l : Launch) (e : Env) (s : State) (m : MethodId) (args : Array Value) (below : List Frame) (meth : Method) (c : Code) (A : Nat → Prop) (D : va_G) (cy : Nat → ClassId) (b0 : Nat → Nat) (x1 : Int32) (fu : Nat) (rr : Int32 × MS) : Prop := (∀ (uv : MS) (x2 : Int32) (x3 : Int32) (H : Heap) (locs : List Loc) (ls : Array Slot), lpn (st_X4_image x1) fu (.inl (uv, x2, x3)) = some rr → va_P D vwCl (wM cy b0 uv []) H → va_D A (wM cy b0 uv []) → va_S A s.heap H locs → lv_has ls 4 [(0, .ref (b0 0)), (1, .int x1), (2, .int x2), (3, .int x3)] → W p l e { frames := 1, cells := 0, slots := 0, locals := 22 } s m args below meth c H locs 0 0 (MQ below (qI D (wM cy b0 rr.2 []) (rr.1) A) args s 0 0 A) (F0 m 19 ls [])) ∧ (∀ (uv : MS) (x2 : Int32) (x3 : Int32) (H : Heap) (locs : List Loc) (ls : Array Slot), lpn (st_X4_image x1) fu (.inr (.inl (uv, x2, x3))) = some rr → va_P D vwCl (wM cy b0 uv []) H → va_D A (wM cy b0 uv []) → va_S A s.heap H locs → lv_has ls 4 [(0, .ref (b0 0)), (1, .int x1), (2, .int x2), (3, .int x3)] → W p l e { frames := 1, cells := 0, slots := 0, locals := 22 } s m args below meth c H locs 0 0 (MQ below (qI D (wM cy b0 rr.2 []) (rr.1) A) args s 0 0 A) (F0 m 47 ls [])) ∧ (∀ (uv : MS) (x2 : Int32) (x3 : Int32) (H : Heap) (locs : List Loc) (ls : Array Slot), lpn (st_X4_image x1) fu (.inr (.inr (uv, x2, x3))) = some rr → va_P D vwCl (wM cy b0 uv []) H → va_D A (wM cy b0 uv []) → va_S A s.heap H locs → lv_has ls 4 [(0, .ref (b0 0)), (1, .int x1), (2, .int x2), (3, .int x3)] → W p l e { frames := 1, cells := 0, slots := 0, locals := 22 } s m args below meth c H locs 0 0 (MQ below (qI D (wM cy b0 rr.2 []) (rr.1) A) args s 0 0 A) (F0 m 95 ls []))
set_option maxHeartbeats 4000000 in
set_option maxRecDepth 100000 in
theorem w_X4_image_95 {p : Program} {l : Launch} {e : Env} {s : State} {m : MethodId} {args : Array Value} {below : List Frame} {meth : Method} {c : Code} {A : Nat → Prop} {D : va_G} {cy : Nat → ClassId} {b0 : Nat → Nat} {x1 : Int32} {fu : Nat} {rr : Int32 × MS} (M : kM p s m args meth c cX4_image 4 (some .int) RX4 wsX4_image A D cy) (ih : I_X4_image p l e s m args below meth c A D cy b0 x1 fu rr) {uv : MS} {x2 : Int32} {x3 : Int32} {oo : ((MS × Int32 × Int32) ⊕ (MS × Int32 × Int32) ⊕ (MS × Int32 × Int32)) ⊕ (Int32 × MS)} (h : f_X4_image_95 x1 uv x2 x3 = some oo) (hm : lpo (st_X4_image x1) fu oo rr) {H : Heap} {locs : List Loc} {ls : Array Slot} (hP : va_P D vwCl (wM cy b0 uv []) H) (hD : va_D A (wM cy b0 uv [])) (hS : va_S A s.heap H locs) (hl : lv_has ls 4 [(0, .ref (b0 0)), (1, .int x1), (2, .int x2), (3, .int x3)]) : W p l e { frames := 1, cells := 0, slots := 0, locals := 22 } s m args below meth c H locs 0 0 (MQ below (qI D (wM cy b0 rr.2 []) (rr.1) A) args s 0 0 A) (F0 m 95 ls []) := by
  obtain ⟨hx, hb, hr, hml, hown, hts, hlk, hA, hK⟩ := id M
  unfold f_X4_image_95 at h
  refine lv_iload_n hx hb dX4_image_95 rfl (lv_at hl 3 rfl) ?_
  refine lv_bipush (v := 12) hx hb dX4_image_96 (by decide) ?_
  refine lv_icmp_ge (tgt := 124) hx hb dX4_image_98 (by decide) (fun c_1 => ?_) (fun c_1 => ?_)
  · replace h := it_p c_1 h
    refine lv_aload_n hx hb dX4_image_124 rfl (lv_at hl 0 rfl) ?_
    refine va_get (D := D) (ci := 4) (v := .ref (b0 12)) (C := RX4) (T := TX4) (N := 21) hx hb hts iX4_image_X4 hown hK.1 hP 0 rfl rfl 19 (by decide) (hts _ mX4_image_1) (fun _ h9 => h9) rfl dX4_image_125 ?_
    refine lv_iload_n hx hb dX4_image_128 rfl (lv_at hl 2 rfl) ?_
    refine lv_bipush (v := 114) hx hb dX4_image_129 (by decide) ?_
    refine lv_iadd hx hb dX4_image_131 ?_
    refine lv_aload_n hx hb dX4_image_132 rfl (lv_at hl 0 rfl) ?_
    refine va_get (D := D) (ci := 4) (v := .int uv.1) (C := RX4) (T := TX4) (N := 21) hx hb hts iX4_image_X4 hown hK.1 hP 0 rfl rfl 0 (by decide) (hts _ mX4_image_5) (fun _ h9 => h9) rfl dX4_image_133 ?_
    obtain ⟨b_2, h⟩ := ck_s h
    refine va_iast hx hb hK.1 hP hD hS 12 1 rfl rfl b_2 dX4_image_136 (fun H locs hP hD hS => ?_)
    obtain ⟨uv_3, euv_3⟩ : ∃ z : MS, z = (uv.1, uv.2.1, uv.2.2.1, uv.2.2.2.1, uv.2.2.2.2.1, uv.2.2.2.2.2.1, uv.2.2.2.2.2.2.1, uv.2.2.2.2.2.2.2.1, uv.2.2.2.2.2.2.2.2.1, uv.2.2.2.2.2.2.2.2.2.1, uv.2.2.2.2.2.2.2.2.2.2.1, uv.2.2.2.2.2.2.2.2.2.2.2.1, uv.2.2.2.2.2.2.2.2.2.2.2.2.1, uv.2.2.2.2.2.2.2.2.2.2.2.2.2.1, uv.2.2.2.2.2.2.2.2.2.2.2.2.2.2.1, uv.2.2.2.2.2.2.2.2.2.2.2.2.2.2.2.1, uv.2.2.2.2.2.2.2.2.2.2.2.2.2.2.2.2.1, uv.2.2.2.2.2.2.2.2.2.2.2.2.2.2.2.2.2.1, uv.2.2.2.2.2.2.2.2.2.2.2.2.2.2.2.2.2.2.1, (upd uv.2.2.2.2.2.2.2.2.2.2.2.2.2.2.2.2.2.2.2.1 (x2 + (114 : Int32)).toNatClampNeg uv.1), uv.2.2.2.2.2.2.2.2.2.2.2.2.2.2.2.2.2.2.2.2) := ⟨_, rfl⟩
    replace h := nm_s h euv_3
    have hP : va_P D vwCl (wM cy b0 uv_3 []) H := by subst euv_3; exact hP
    have hD : va_D A (wM cy b0 uv_3 []) := hD.lk [(b0 0), (b0 1), (b0 2), (b0 3), (b0 4), (b0 5), (b0 6), (b0 7), (b0 8), (b0 9), (b0 10), (b0 11), (b0 12), (b0 13)] rfl rfl
    refine lv_aload_n hx hb dX4_image_137 rfl (lv_at hl 0 rfl) ?_
    refine va_get (D := D) (ci := 4) (v := .ref (b0 12)) (C := RX4) (T := TX4) (N := 21) hx hb hts iX4_image_X4 hown hK.1 hP 0 rfl rfl 19 (by decide) (hts _ mX4_image_1) (fun _ h9 => h9) rfl dX4_image_138 ?_
    refine lv_iload_n hx hb dX4_image_141 rfl (lv_at hl 2 rfl) ?_
    refine lv_bipush (v := 115) hx hb dX4_image_142 (by decide) ?_
    refine lv_iadd hx hb dX4_image_144 ?_
    refine lv_aload_n hx hb dX4_image_145 rfl (lv_at hl 0 rfl) ?_
    refine va_get (D := D) (ci := 4) (v := .int uv_3.2.1) (C := RX4) (T := TX4) (N := 21) hx hb hts iX4_image_X4 hown hK.1 hP 0 rfl rfl 1 (by decide) (hts _ mX4_image_6) (fun _ h9 => h9) rfl dX4_image_146 ?_
    obtain ⟨b_4, h⟩ := ck_s h
    refine va_iast hx hb hK.1 hP hD hS 12 1 rfl rfl b_4 dX4_image_149 (fun H locs hP hD hS => ?_)
    obtain ⟨uv_5, euv_5⟩ : ∃ z : MS, z = (uv_3.1, uv_3.2.1, uv_3.2.2.1, uv_3.2.2.2.1, uv_3.2.2.2.2.1, uv_3.2.2.2.2.2.1, uv_3.2.2.2.2.2.2.1, uv_3.2.2.2.2.2.2.2.1, uv_3.2.2.2.2.2.2.2.2.1, uv_3.2.2.2.2.2.2.2.2.2.1, uv_3.2.2.2.2.2.2.2.2.2.2.1, uv_3.2.2.2.2.2.2.2.2.2.2.2.1, uv_3.2.2.2.2.2.2.2.2.2.2.2.2.1, uv_3.2.2.2.2.2.2.2.2.2.2.2.2.2.1, uv_3.2.2.2.2.2.2.2.2.2.2.2.2.2.2.1, uv_3.2.2.2.2.2.2.2.2.2.2.2.2.2.2.2.1, uv_3.2.2.2.2.2.2.2.2.2.2.2.2.2.2.2.2.1, uv_3.2.2.2.2.2.2.2.2.2.2.2.2.2.2.2.2.2.1, uv_3.2.2.2.2.2.2.2.2.2.2.2.2.2.2.2.2.2.2.1, (upd uv_3.2.2.2.2.2.2.2.2.2.2.2.2.2.2.2.2.2.2.2.1 (x2 + (115 : Int32)).toNatClampNeg uv_3.2.1), uv_3.2.2.2.2.2.2.2.2.2.2.2.2.2.2.2.2.2.2.2.2) := ⟨_, rfl⟩
    replace h := nm_s h euv_5
    have hP : va_P D vwCl (wM cy b0 uv_5 []) H := by subst euv_5; exact hP
    have hD : va_D A (wM cy b0 uv_5 []) := hD.lk [(b0 0), (b0 1), (b0 2), (b0 3), (b0 4), (b0 5), (b0 6), (b0 7), (b0 8), (b0 9), (b0 10), (b0 11), (b0 12), (b0 13)] rfl rfl
    refine lv_aload_n hx hb dX4_image_150 rfl (lv_at hl 0 rfl) ?_
    refine va_get (D := D) (ci := 4) (v := .ref (b0 12)) (C := RX4) (T := TX4) (N := 21) hx hb hts iX4_image_X4 hown hK.1 hP 0 rfl rfl 19 (by decide) (hts _ mX4_image_1) (fun _ h9 => h9) rfl dX4_image_151 ?_
    refine lv_iload_n hx hb dX4_image_154 rfl (lv_at hl 2 rfl) ?_
    refine lv_bipush (v := 116) hx hb dX4_image_155 (by decide) ?_
    refine lv_iadd hx hb dX4_image_157 ?_
    refine lv_aload_n hx hb dX4_image_158 rfl (lv_at hl 0 rfl) ?_
    refine va_get (D := D) (ci := 4) (v := .int uv_5.2.2.1) (C := RX4) (T := TX4) (N := 21) hx hb hts iX4_image_X4 hown hK.1 hP 0 rfl rfl 2 (by decide) (hts _ mX4_image_7) (fun _ h9 => h9) rfl dX4_image_159 ?_
    obtain ⟨b_6, h⟩ := ck_s h
    refine va_iast hx hb hK.1 hP hD hS 12 1 rfl rfl b_6 dX4_image_162 (fun H locs hP hD hS => ?_)
    obtain ⟨uv_7, euv_7⟩ : ∃ z : MS, z = (uv_5.1, uv_5.2.1, uv_5.2.2.1, uv_5.2.2.2.1, uv_5.2.2.2.2.1, uv_5.2.2.2.2.2.1, uv_5.2.2.2.2.2.2.1, uv_5.2.2.2.2.2.2.2.1, uv_5.2.2.2.2.2.2.2.2.1, uv_5.2.2.2.2.2.2.2.2.2.1, uv_5.2.2.2.2.2.2.2.2.2.2.1, uv_5.2.2.2.2.2.2.2.2.2.2.2.1, uv_5.2.2.2.2.2.2.2.2.2.2.2.2.1, uv_5.2.2.2.2.2.2.2.2.2.2.2.2.2.1, uv_5.2.2.2.2.2.2.2.2.2.2.2.2.2.2.1, uv_5.2.2.2.2.2.2.2.2.2.2.2.2.2.2.2.1, uv_5.2.2.2.2.2.2.2.2.2.2.2.2.2.2.2.2.1, uv_5.2.2.2.2.2.2.2.2.2.2.2.2.2.2.2.2.2.1, uv_5.2.2.2.2.2.2.2.2.2.2.2.2.2.2.2.2.2.2.1, (upd uv_5.2.2.2.2.2.2.2.2.2.2.2.2.2.2.2.2.2.2.2.1 (x2 + (116 : Int32)).toNatClampNeg uv_5.2.2.1), uv_5.2.2.2.2.2.2.2.2.2.2.2.2.2.2.2.2.2.2.2.2) := ⟨_, rfl⟩
    replace h := nm_s h euv_7
    have hP : va_P D vwCl (wM cy b0 uv_7 []) H := by subst euv_7; exact hP
    have hD : va_D A (wM cy b0 uv_7 []) := hD.lk [(b0 0), (b0 1), (b0 2), (b0 3), (b0 4), (b0 5), (b0 6), (b0 7), (b0 8), (b0 9), (b0 10), (b0 11), (b0 12), (b0 13)] rfl rfl
    refine lv_aload_n hx hb dX4_image_163 rfl (lv_at hl 0 rfl) ?_
    refine va_get (D := D) (ci := 4) (v := .ref (b0 12)) (C := RX4) (T := TX4) (N := 21) hx hb hts iX4_image_X4 hown hK.1 hP 0 rfl rfl 19 (by decide) (hts _ mX4_image_1) (fun _ h9 => h9) rfl dX4_image_164 ?_
    refine lv_iload_n hx hb dX4_image_167 rfl (lv_at hl 2 rfl) ?_
    refine lv_bipush (v := 117) hx hb dX4_image_168 (by decide) ?_
    refine lv_iadd hx hb dX4_image_170 ?_
    refine lv_aload_n hx hb dX4_image_171 rfl (lv_at hl 0 rfl) ?_
    refine va_get (D := D) (ci := 4) (v := .int uv_7.2.2.2.2.2.2.1) (C := RX4) (T := TX4) (N := 21) hx hb hts iX4_image_X4 hown hK.1 hP 0 rfl rfl 6 (by decide) (hts _ mX4_image_8) (fun _ h9 => h9) rfl dX4_image_172 ?_
    obtain ⟨b_8, h⟩ := ck_s h
    refine va_iast hx hb hK.1 hP hD hS 12 1 rfl rfl b_8 dX4_image_175 (fun H locs hP hD hS => ?_)
    obtain ⟨uv_9, euv_9⟩ : ∃ z : MS, z = (uv_7.1, uv_7.2.1, uv_7.2.2.1, uv_7.2.2.2.1, uv_7.2.2.2.2.1, uv_7.2.2.2.2.2.1, uv_7.2.2.2.2.2.2.1, uv_7.2.2.2.2.2.2.2.1, uv_7.2.2.2.2.2.2.2.2.1, uv_7.2.2.2.2.2.2.2.2.2.1, uv_7.2.2.2.2.2.2.2.2.2.2.1, uv_7.2.2.2.2.2.2.2.2.2.2.2.1, uv_7.2.2.2.2.2.2.2.2.2.2.2.2.1, uv_7.2.2.2.2.2.2.2.2.2.2.2.2.2.1, uv_7.2.2.2.2.2.2.2.2.2.2.2.2.2.2.1, uv_7.2.2.2.2.2.2.2.2.2.2.2.2.2.2.2.1, uv_7.2.2.2.2.2.2.2.2.2.2.2.2.2.2.2.2.1, uv_7.2.2.2.2.2.2.2.2.2.2.2.2.2.2.2.2.2.1, uv_7.2.2.2.2.2.2.2.2.2.2.2.2.2.2.2.2.2.2.1, (upd uv_7.2.2.2.2.2.2.2.2.2.2.2.2.2.2.2.2.2.2.2.1 (x2 + (117 : Int32)).toNatClampNeg uv_7.2.2.2.2.2.2.1), uv_7.2.2.2.2.2.2.2.2.2.2.2.2.2.2.2.2.2.2.2.2) := ⟨_, rfl⟩
    replace h := nm_s h euv_9
    have hP : va_P D vwCl (wM cy b0 uv_9 []) H := by subst euv_9; exact hP
    have hD : va_D A (wM cy b0 uv_9 []) := hD.lk [(b0 0), (b0 1), (b0 2), (b0 3), (b0 4), (b0 5), (b0 6), (b0 7), (b0 8), (b0 9), (b0 10), (b0 11), (b0 12), (b0 13)] rfl rfl
    refine lv_aload_n hx hb dX4_image_176 rfl (lv_at hl 0 rfl) ?_
    refine va_get (D := D) (ci := 4) (v := .ref (b0 13)) (C := RX4) (T := TX4) (N := 21) hx hb hts iX4_image_X4 hown hK.1 hP 0 rfl rfl 20 (by decide) (hts _ mX4_image_9) (fun _ h9 => h9) rfl dX4_image_177 ?_
    refine lv_iload_n hx hb dX4_image_180 rfl (lv_at hl 1 rfl) ?_
    refine lv_iconst (v := 1) hx hb dX4_image_181 (by decide) ?_
    obtain ⟨b_10, h⟩ := ck_s h
    refine va_zast hx hb hK.1 hP hD hS 13 3 rfl rfl b_10 dX4_image_182 (fun H locs hP hD hS => ?_)
    obtain ⟨uv_11, euv_11⟩ : ∃ z : MS, z = (uv_9.1, uv_9.2.1, uv_9.2.2.1, uv_9.2.2.2.1, uv_9.2.2.2.2.1, uv_9.2.2.2.2.2.1, uv_9.2.2.2.2.2.2.1, uv_9.2.2.2.2.2.2.2.1, uv_9.2.2.2.2.2.2.2.2.1, uv_9.2.2.2.2.2.2.2.2.2.1, uv_9.2.2.2.2.2.2.2.2.2.2.1, uv_9.2.2.2.2.2.2.2.2.2.2.2.1, uv_9.2.2.2.2.2.2.2.2.2.2.2.2.1, uv_9.2.2.2.2.2.2.2.2.2.2.2.2.2.1, uv_9.2.2.2.2.2.2.2.2.2.2.2.2.2.2.1, uv_9.2.2.2.2.2.2.2.2.2.2.2.2.2.2.2.1, uv_9.2.2.2.2.2.2.2.2.2.2.2.2.2.2.2.2.1, uv_9.2.2.2.2.2.2.2.2.2.2.2.2.2.2.2.2.2.1, uv_9.2.2.2.2.2.2.2.2.2.2.2.2.2.2.2.2.2.2.1, uv_9.2.2.2.2.2.2.2.2.2.2.2.2.2.2.2.2.2.2.2.1, (upd uv_9.2.2.2.2.2.2.2.2.2.2.2.2.2.2.2.2.2.2.2.2 x1.toNatClampNeg (vp_nar .boolean (1 : Int32)))) := ⟨_, rfl⟩
    replace h := nm_s h euv_11
    have hP : va_P D vwCl (wM cy b0 uv_11 []) H := by subst euv_11; exact hP
    have hD : va_D A (wM cy b0 uv_11 []) := hD.lk [(b0 0), (b0 1), (b0 2), (b0 3), (b0 4), (b0 5), (b0 6), (b0 7), (b0 8), (b0 9), (b0 10), (b0 11), (b0 12), (b0 13)] rfl rfl
    refine lv_iconst (v := 1) hx hb dX4_image_183 (by decide) ?_
    cases h
    have hm : _ = rr := hm
    subst hm
    exact kretI hx hb hr hlk hP hS dX4_image_184
  · replace h := it_n c_1 h
    refine lv_aload_n hx hb dX4_image_101 rfl (lv_at hl 0 rfl) ?_
    refine va_get (D := D) (ci := 4) (v := .ref (b0 12)) (C := RX4) (T := TX4) (N := 21) hx hb hts iX4_image_X4 hown hK.1 hP 0 rfl rfl 19 (by decide) (hts _ mX4_image_1) (fun _ h9 => h9) rfl dX4_image_102 ?_
    refine lv_iload_n hx hb dX4_image_105 rfl (lv_at hl 2 rfl) ?_
    refine lv_bipush (v := 102) hx hb dX4_image_106 (by decide) ?_
    refine lv_iadd hx hb dX4_image_108 ?_
    refine lv_iload_n hx hb dX4_image_109 rfl (lv_at hl 3 rfl) ?_
    refine lv_iadd hx hb dX4_image_110 ?_
    refine lv_aload_n hx hb dX4_image_111 rfl (lv_at hl 0 rfl) ?_
    refine va_get (D := D) (ci := 4) (v := .ref (b0 4)) (C := RX4) (T := TX4) (N := 21) hx hb hts iX4_image_X4 hown hK.1 hP 0 rfl rfl 7 (by decide) (hts _ mX4_image_10) (fun _ h9 => h9) rfl dX4_image_112 ?_
    refine lv_iload_n hx hb dX4_image_115 rfl (lv_at hl 3 rfl) ?_
    obtain ⟨b_12, h⟩ := ck_s h
    refine va_iald hx hb hK.1 hP 4 1 rfl rfl b_12 dX4_image_116 ?_
    obtain ⟨b_13, h⟩ := ck_s h
    refine va_iast hx hb hK.1 hP hD hS 12 1 rfl rfl b_13 dX4_image_117 (fun H locs hP hD hS => ?_)
    obtain ⟨uv_14, euv_14⟩ : ∃ z : MS, z = (uv.1, uv.2.1, uv.2.2.1, uv.2.2.2.1, uv.2.2.2.2.1, uv.2.2.2.2.2.1, uv.2.2.2.2.2.2.1, uv.2.2.2.2.2.2.2.1, uv.2.2.2.2.2.2.2.2.1, uv.2.2.2.2.2.2.2.2.2.1, uv.2.2.2.2.2.2.2.2.2.2.1, uv.2.2.2.2.2.2.2.2.2.2.2.1, uv.2.2.2.2.2.2.2.2.2.2.2.2.1, uv.2.2.2.2.2.2.2.2.2.2.2.2.2.1, uv.2.2.2.2.2.2.2.2.2.2.2.2.2.2.1, uv.2.2.2.2.2.2.2.2.2.2.2.2.2.2.2.1, uv.2.2.2.2.2.2.2.2.2.2.2.2.2.2.2.2.1, uv.2.2.2.2.2.2.2.2.2.2.2.2.2.2.2.2.2.1, uv.2.2.2.2.2.2.2.2.2.2.2.2.2.2.2.2.2.2.1, (upd uv.2.2.2.2.2.2.2.2.2.2.2.2.2.2.2.2.2.2.2.1 ((x2 + (102 : Int32)) + x3).toNatClampNeg (uv.2.2.2.2.2.2.2.1 x3.toNatClampNeg)), uv.2.2.2.2.2.2.2.2.2.2.2.2.2.2.2.2.2.2.2.2) := ⟨_, rfl⟩
    replace h := nm_s h euv_14
    have hP : va_P D vwCl (wM cy b0 uv_14 []) H := by subst euv_14; exact hP
    have hD : va_D A (wM cy b0 uv_14 []) := hD.lk [(b0 0), (b0 1), (b0 2), (b0 3), (b0 4), (b0 5), (b0 6), (b0 7), (b0 8), (b0 9), (b0 10), (b0 11), (b0 12), (b0 13)] rfl rfl
    obtain ⟨x3_15, ex3_15⟩ : ∃ z : Int32, z = (x3 + (1 : Int32)) := ⟨_, rfl⟩
    replace h := nm_s h ex3_15
    refine lv_iinc (v := x3_15) (lv' := [(3, .int x3_15), (0, .ref (b0 0)), (1, .int x1), (2, .int x2)]) hx hb dX4_image_118 hl (k := 3) rfl (by rw [ex3_15]; rfl) (by decide) rfl (fun ls hl => ?_)
    refine lv_goto (tgt := 95) hx hb dX4_image_121 (by decide) ?_
    cases h
    exact ih.2.2 uv_14 x2 x3_15 _ _ _ hm hP hD hS (lv_sub hl [1, 2, 3, 0] rfl)
set_option maxHeartbeats 4000000 in
set_option maxRecDepth 100000 in
theorem w_X4_image_47 {p : Program} {l : Launch} {e : Env} {s : State} {m : MethodId} {args : Array Value} {below : List Frame} {meth : Method} {c : Code} {A : Nat → Prop} {D : va_G} {cy : Nat → ClassId} {b0 : Nat → Nat} {x1 : Int32} {fu : Nat} {rr : Int32 × MS} (M : kM p s m args meth c cX4_image 4 (some .int) RX4 wsX4_image A D cy) (ih : I_X4_image p l e s m args below meth c A D cy b0 x1 fu rr) {uv : MS} {x2 : Int32} {x3 : Int32} {oo : ((MS × Int32 × Int32) ⊕ (MS × Int32 × Int32) ⊕ (MS × Int32 × Int32)) ⊕ (Int32 × MS)} (h : f_X4_image_47 x1 uv x2 x3 = some oo) (hm : lpo (st_X4_image x1) fu oo rr) {H : Heap} {locs : List Loc} {ls : Array Slot} (hP : va_P D vwCl (wM cy b0 uv []) H) (hD : va_D A (wM cy b0 uv [])) (hS : va_S A s.heap H locs) (hl : lv_has ls 4 [(0, .ref (b0 0)), (1, .int x1), (2, .int x2), (3, .int x3)]) : W p l e { frames := 1, cells := 0, slots := 0, locals := 22 } s m args below meth c H locs 0 0 (MQ below (qI D (wM cy b0 rr.2 []) (rr.1) A) args s 0 0 A) (F0 m 47 ls []) := by
  obtain ⟨hx, hb, hr, hml, hown, hts, hlk, hA, hK⟩ := id M
  unfold f_X4_image_47 at h
  refine lv_iload_n hx hb dX4_image_47 rfl (lv_at hl 3 rfl) ?_
  refine lv_bipush (v := 6) hx hb dX4_image_48 (by decide) ?_
  refine lv_icmp_ge (tgt := 93) hx hb dX4_image_50 (by decide) (fun c_1 => ?_) (fun c_1 => ?_)
  · replace h := it_p c_1 h
    refine lv_iconst (v := 0) hx hb dX4_image_93 (by decide) ?_
    refine lv_istore_n (lv' := [(3, .int (0 : Int32)), (0, .ref (b0 0)), (1, .int x1), (2, .int x2)]) hx hb dX4_image_94 rfl hl (by decide) rfl (fun ls hl => ?_)
    cases h
    exact ih.2.2 uv x2 (0 : Int32) _ _ _ hm hP hD hS (lv_sub hl [1, 2, 3, 0] rfl)
  · replace h := it_n c_1 h
    refine lv_aload_n hx hb dX4_image_53 rfl (lv_at hl 0 rfl) ?_
    refine va_get (D := D) (ci := 4) (v := .ref (b0 12)) (C := RX4) (T := TX4) (N := 21) hx hb hts iX4_image_X4 hown hK.1 hP 0 rfl rfl 19 (by decide) (hts _ mX4_image_1) (fun _ h9 => h9) rfl dX4_image_54 ?_
    refine lv_iload_n hx hb dX4_image_57 rfl (lv_at hl 2 rfl) ?_
    refine lv_bipush (v := 90) hx hb dX4_image_58 (by decide) ?_
    refine lv_iadd hx hb dX4_image_60 ?_
    refine lv_iload_n hx hb dX4_image_61 rfl (lv_at hl 3 rfl) ?_
    refine lv_iadd hx hb dX4_image_62 ?_
    refine lv_aload_n hx hb dX4_image_63 rfl (lv_at hl 0 rfl) ?_
    refine va_get (D := D) (ci := 4) (v := .ref (b0 1)) (C := RX4) (T := TX4) (N := 21) hx hb hts iX4_image_X4 hown hK.1 hP 0 rfl rfl 3 (by decide) (hts _ mX4_image_3) (fun _ h9 => h9) rfl dX4_image_64 ?_
    refine lv_iload_n hx hb dX4_image_67 rfl (lv_at hl 3 rfl) ?_
    obtain ⟨b_2, h⟩ := ck_s h
    refine va_iald hx hb hK.1 hP 1 1 rfl rfl b_2 dX4_image_68 ?_
    obtain ⟨b_3, h⟩ := ck_s h
    refine va_iast hx hb hK.1 hP hD hS 12 1 rfl rfl b_3 dX4_image_69 (fun H locs hP hD hS => ?_)
    obtain ⟨uv_4, euv_4⟩ : ∃ z : MS, z = (uv.1, uv.2.1, uv.2.2.1, uv.2.2.2.1, uv.2.2.2.2.1, uv.2.2.2.2.2.1, uv.2.2.2.2.2.2.1, uv.2.2.2.2.2.2.2.1, uv.2.2.2.2.2.2.2.2.1, uv.2.2.2.2.2.2.2.2.2.1, uv.2.2.2.2.2.2.2.2.2.2.1, uv.2.2.2.2.2.2.2.2.2.2.2.1, uv.2.2.2.2.2.2.2.2.2.2.2.2.1, uv.2.2.2.2.2.2.2.2.2.2.2.2.2.1, uv.2.2.2.2.2.2.2.2.2.2.2.2.2.2.1, uv.2.2.2.2.2.2.2.2.2.2.2.2.2.2.2.1, uv.2.2.2.2.2.2.2.2.2.2.2.2.2.2.2.2.1, uv.2.2.2.2.2.2.2.2.2.2.2.2.2.2.2.2.2.1, uv.2.2.2.2.2.2.2.2.2.2.2.2.2.2.2.2.2.2.1, (upd uv.2.2.2.2.2.2.2.2.2.2.2.2.2.2.2.2.2.2.2.1 ((x2 + (90 : Int32)) + x3).toNatClampNeg (uv.2.2.2.1 x3.toNatClampNeg)), uv.2.2.2.2.2.2.2.2.2.2.2.2.2.2.2.2.2.2.2.2) := ⟨_, rfl⟩
    replace h := nm_s h euv_4
    have hP : va_P D vwCl (wM cy b0 uv_4 []) H := by subst euv_4; exact hP
    have hD : va_D A (wM cy b0 uv_4 []) := hD.lk [(b0 0), (b0 1), (b0 2), (b0 3), (b0 4), (b0 5), (b0 6), (b0 7), (b0 8), (b0 9), (b0 10), (b0 11), (b0 12), (b0 13)] rfl rfl
    refine lv_aload_n hx hb dX4_image_70 rfl (lv_at hl 0 rfl) ?_
    refine va_get (D := D) (ci := 4) (v := .ref (b0 12)) (C := RX4) (T := TX4) (N := 21) hx hb hts iX4_image_X4 hown hK.1 hP 0 rfl rfl 19 (by decide) (hts _ mX4_image_1) (fun _ h9 => h9) rfl dX4_image_71 ?_
    refine lv_iload_n hx hb dX4_image_74 rfl (lv_at hl 2 rfl) ?_
    refine lv_bipush (v := 96) hx hb dX4_image_75 (by decide) ?_
    refine lv_iadd hx hb dX4_image_77 ?_
    refine lv_iload_n hx hb dX4_image_78 rfl (lv_at hl 3 rfl) ?_
    refine lv_iadd hx hb dX4_image_79 ?_
    refine lv_aload_n hx hb dX4_image_80 rfl (lv_at hl 0 rfl) ?_
    refine va_get (D := D) (ci := 4) (v := .ref (b0 2)) (C := RX4) (T := TX4) (N := 21) hx hb hts iX4_image_X4 hown hK.1 hP 0 rfl rfl 4 (by decide) (hts _ mX4_image_4) (fun _ h9 => h9) rfl dX4_image_81 ?_
    refine lv_iload_n hx hb dX4_image_84 rfl (lv_at hl 3 rfl) ?_
    refine va_iald hx hb hK.1 hP 2 1 rfl rfl b_2 dX4_image_85 ?_
    obtain ⟨b_5, h⟩ := ck_s h
    refine va_iast hx hb hK.1 hP hD hS 12 1 rfl rfl b_5 dX4_image_86 (fun H locs hP hD hS => ?_)
    obtain ⟨uv_6, euv_6⟩ : ∃ z : MS, z = (uv_4.1, uv_4.2.1, uv_4.2.2.1, uv_4.2.2.2.1, uv_4.2.2.2.2.1, uv_4.2.2.2.2.2.1, uv_4.2.2.2.2.2.2.1, uv_4.2.2.2.2.2.2.2.1, uv_4.2.2.2.2.2.2.2.2.1, uv_4.2.2.2.2.2.2.2.2.2.1, uv_4.2.2.2.2.2.2.2.2.2.2.1, uv_4.2.2.2.2.2.2.2.2.2.2.2.1, uv_4.2.2.2.2.2.2.2.2.2.2.2.2.1, uv_4.2.2.2.2.2.2.2.2.2.2.2.2.2.1, uv_4.2.2.2.2.2.2.2.2.2.2.2.2.2.2.1, uv_4.2.2.2.2.2.2.2.2.2.2.2.2.2.2.2.1, uv_4.2.2.2.2.2.2.2.2.2.2.2.2.2.2.2.2.1, uv_4.2.2.2.2.2.2.2.2.2.2.2.2.2.2.2.2.2.1, uv_4.2.2.2.2.2.2.2.2.2.2.2.2.2.2.2.2.2.2.1, (upd uv_4.2.2.2.2.2.2.2.2.2.2.2.2.2.2.2.2.2.2.2.1 ((x2 + (96 : Int32)) + x3).toNatClampNeg (uv_4.2.2.2.2.1 x3.toNatClampNeg)), uv_4.2.2.2.2.2.2.2.2.2.2.2.2.2.2.2.2.2.2.2.2) := ⟨_, rfl⟩
    replace h := nm_s h euv_6
    have hP : va_P D vwCl (wM cy b0 uv_6 []) H := by subst euv_6; exact hP
    have hD : va_D A (wM cy b0 uv_6 []) := hD.lk [(b0 0), (b0 1), (b0 2), (b0 3), (b0 4), (b0 5), (b0 6), (b0 7), (b0 8), (b0 9), (b0 10), (b0 11), (b0 12), (b0 13)] rfl rfl
    obtain ⟨x3_7, ex3_7⟩ : ∃ z : Int32, z = (x3 + (1 : Int32)) := ⟨_, rfl⟩
    replace h := nm_s h ex3_7
    refine lv_iinc (v := x3_7) (lv' := [(3, .int x3_7), (0, .ref (b0 0)), (1, .int x1), (2, .int x2)]) hx hb dX4_image_87 hl (k := 3) rfl (by rw [ex3_7]; rfl) (by decide) rfl (fun ls hl => ?_)
    refine lv_goto (tgt := 47) hx hb dX4_image_90 (by decide) ?_
    cases h
    exact ih.2.1 uv_6 x2 x3_7 _ _ _ hm hP hD hS (lv_sub hl [1, 2, 3, 0] rfl)
set_option maxHeartbeats 4000000 in
set_option maxRecDepth 100000 in
theorem w_X4_image_19 {p : Program} {l : Launch} {e : Env} {s : State} {m : MethodId} {args : Array Value} {below : List Frame} {meth : Method} {c : Code} {A : Nat → Prop} {D : va_G} {cy : Nat → ClassId} {b0 : Nat → Nat} {x1 : Int32} {fu : Nat} {rr : Int32 × MS} (M : kM p s m args meth c cX4_image 4 (some .int) RX4 wsX4_image A D cy) (ih : I_X4_image p l e s m args below meth c A D cy b0 x1 fu rr) {uv : MS} {x2 : Int32} {x3 : Int32} {oo : ((MS × Int32 × Int32) ⊕ (MS × Int32 × Int32) ⊕ (MS × Int32 × Int32)) ⊕ (Int32 × MS)} (h : f_X4_image_19 x1 uv x2 x3 = some oo) (hm : lpo (st_X4_image x1) fu oo rr) {H : Heap} {locs : List Loc} {ls : Array Slot} (hP : va_P D vwCl (wM cy b0 uv []) H) (hD : va_D A (wM cy b0 uv [])) (hS : va_S A s.heap H locs) (hl : lv_has ls 4 [(0, .ref (b0 0)), (1, .int x1), (2, .int x2), (3, .int x3)]) : W p l e { frames := 1, cells := 0, slots := 0, locals := 22 } s m args below meth c H locs 0 0 (MQ below (qI D (wM cy b0 rr.2 []) (rr.1) A) args s 0 0 A) (F0 m 19 ls []) := by
  obtain ⟨hx, hb, hr, hml, hown, hts, hlk, hA, hK⟩ := id M
  unfold f_X4_image_19 at h
  refine lv_iload_n hx hb dX4_image_19 rfl (lv_at hl 3 rfl) ?_
  refine lv_bipush (v := 90) hx hb dX4_image_20 (by decide) ?_
  refine lv_icmp_ge (tgt := 45) hx hb dX4_image_22 (by decide) (fun c_1 => ?_) (fun c_1 => ?_)
  · replace h := it_p c_1 h
    refine lv_iconst (v := 0) hx hb dX4_image_45 (by decide) ?_
    refine lv_istore_n (lv' := [(3, .int (0 : Int32)), (0, .ref (b0 0)), (1, .int x1), (2, .int x2)]) hx hb dX4_image_46 rfl hl (by decide) rfl (fun ls hl => ?_)
    cases h
    exact ih.2.1 uv x2 (0 : Int32) _ _ _ hm hP hD hS (lv_sub hl [1, 2, 3, 0] rfl)
  · replace h := it_n c_1 h
    refine lv_aload_n hx hb dX4_image_25 rfl (lv_at hl 0 rfl) ?_
    refine va_get (D := D) (ci := 4) (v := .ref (b0 12)) (C := RX4) (T := TX4) (N := 21) hx hb hts iX4_image_X4 hown hK.1 hP 0 rfl rfl 19 (by decide) (hts _ mX4_image_1) (fun _ h9 => h9) rfl dX4_image_26 ?_
    refine lv_iload_n hx hb dX4_image_29 rfl (lv_at hl 2 rfl) ?_
    refine lv_iload_n hx hb dX4_image_30 rfl (lv_at hl 3 rfl) ?_
    refine lv_iadd hx hb dX4_image_31 ?_
    refine lv_aload_n hx hb dX4_image_32 rfl (lv_at hl 0 rfl) ?_
    refine va_get (D := D) (ci := 4) (v := .ref (b0 3)) (C := RX4) (T := TX4) (N := 21) hx hb hts iX4_image_X4 hown hK.1 hP 0 rfl rfl 5 (by decide) (hts _ mX4_image_2) (fun _ h9 => h9) rfl dX4_image_33 ?_
    refine lv_iload_n hx hb dX4_image_36 rfl (lv_at hl 3 rfl) ?_
    obtain ⟨b_2, h⟩ := ck_s h
    refine va_iald hx hb hK.1 hP 3 1 rfl rfl b_2 dX4_image_37 ?_
    obtain ⟨b_3, h⟩ := ck_s h
    refine va_iast hx hb hK.1 hP hD hS 12 1 rfl rfl b_3 dX4_image_38 (fun H locs hP hD hS => ?_)
    obtain ⟨uv_4, euv_4⟩ : ∃ z : MS, z = (uv.1, uv.2.1, uv.2.2.1, uv.2.2.2.1, uv.2.2.2.2.1, uv.2.2.2.2.2.1, uv.2.2.2.2.2.2.1, uv.2.2.2.2.2.2.2.1, uv.2.2.2.2.2.2.2.2.1, uv.2.2.2.2.2.2.2.2.2.1, uv.2.2.2.2.2.2.2.2.2.2.1, uv.2.2.2.2.2.2.2.2.2.2.2.1, uv.2.2.2.2.2.2.2.2.2.2.2.2.1, uv.2.2.2.2.2.2.2.2.2.2.2.2.2.1, uv.2.2.2.2.2.2.2.2.2.2.2.2.2.2.1, uv.2.2.2.2.2.2.2.2.2.2.2.2.2.2.2.1, uv.2.2.2.2.2.2.2.2.2.2.2.2.2.2.2.2.1, uv.2.2.2.2.2.2.2.2.2.2.2.2.2.2.2.2.2.1, uv.2.2.2.2.2.2.2.2.2.2.2.2.2.2.2.2.2.2.1, (upd uv.2.2.2.2.2.2.2.2.2.2.2.2.2.2.2.2.2.2.2.1 (x2 + x3).toNatClampNeg (uv.2.2.2.2.2.1 x3.toNatClampNeg)), uv.2.2.2.2.2.2.2.2.2.2.2.2.2.2.2.2.2.2.2.2) := ⟨_, rfl⟩
    replace h := nm_s h euv_4
    have hP : va_P D vwCl (wM cy b0 uv_4 []) H := by subst euv_4; exact hP
    have hD : va_D A (wM cy b0 uv_4 []) := hD.lk [(b0 0), (b0 1), (b0 2), (b0 3), (b0 4), (b0 5), (b0 6), (b0 7), (b0 8), (b0 9), (b0 10), (b0 11), (b0 12), (b0 13)] rfl rfl
    obtain ⟨x3_5, ex3_5⟩ : ∃ z : Int32, z = (x3 + (1 : Int32)) := ⟨_, rfl⟩
    replace h := nm_s h ex3_5
    refine lv_iinc (v := x3_5) (lv' := [(3, .int x3_5), (0, .ref (b0 0)), (1, .int x1), (2, .int x2)]) hx hb dX4_image_39 hl (k := 3) rfl (by rw [ex3_5]; rfl) (by decide) rfl (fun ls hl => ?_)
    refine lv_goto (tgt := 19) hx hb dX4_image_42 (by decide) ?_
    cases h
    exact ih.1 uv_4 x2 x3_5 _ _ _ hm hP hD hS (lv_sub hl [1, 2, 3, 0] rfl)
set_option maxHeartbeats 4000000 in
set_option maxRecDepth 100000 in
theorem w_X4_image_0 {p : Program} {l : Launch} {e : Env} {s : State} {m : MethodId} {args : Array Value} {below : List Frame} {meth : Method} {c : Code} {A : Nat → Prop} {D : va_G} {cy : Nat → ClassId} {b0 : Nat → Nat} {x1 : Int32} {fu : Nat} {rr : Int32 × MS} (M : kM p s m args meth c cX4_image 4 (some .int) RX4 wsX4_image A D cy) (ih : I_X4_image p l e s m args below meth c A D cy b0 x1 fu rr) {uv : MS} {oo : ((MS × Int32 × Int32) ⊕ (MS × Int32 × Int32) ⊕ (MS × Int32 × Int32)) ⊕ (Int32 × MS)} (h : f_X4_image_0 uv x1 = some oo) (hm : lpo (st_X4_image x1) fu oo rr) {H : Heap} {locs : List Loc} {ls : Array Slot} (hP : va_P D vwCl (wM cy b0 uv []) H) (hD : va_D A (wM cy b0 uv [])) (hS : va_S A s.heap H locs) (hl : lv_has ls 4 [(0, .ref (b0 0)), (1, .int x1)]) : W p l e { frames := 1, cells := 0, slots := 0, locals := 22 } s m args below meth c H locs 0 0 (MQ below (qI D (wM cy b0 rr.2 []) (rr.1) A) args s 0 0 A) (F0 m 0 ls []) := by
  obtain ⟨hx, hb, hr, hml, hown, hts, hlk, hA, hK⟩ := id M
  unfold f_X4_image_0 at h
  refine lv_iload_n hx hb dX4_image_0 rfl (lv_at hl 1 rfl) ?_
  refine lv_iconst (v := 0) hx hb dX4_image_1 (by decide) ?_
  refine lv_iconst (v := 1) hx hb dX4_image_2 (by decide) ?_
  obtain ⟨r_1, hr_1, h⟩ := bn_s h
  refine kcSi (As := [.int x1, .int (0 : Int32), .int (1 : Int32)]) (rest := []) ⟨hx, hb, hml, hown, hts⟩ (va_cwS 3 hts gX4_image_X4_in rfl rfl rfl eX4_in ⟨Nat.le_of_ble_eq_true rfl, Nat.le_of_ble_eq_true rfl⟩) (c_X4_in  hr_1) hK hP hS hA rfl hl.1 rfl (Nat.le_of_ble_eq_true rfl) dX4_image_3 (fun H locs hP hS => ?_)
  refine lv_if_ne (tgt := 12) hx hb dX4_image_6 (by decide) (fun c_2 => ?_) (fun c_2 => ?_)
  · replace h := it_n c_2 h
    refine lv_bipush (v := 118) hx hb dX4_image_12 (by decide) ?_
    refine lv_iload_n hx hb dX4_image_14 rfl (lv_at hl 1 rfl) ?_
    refine lv_imul hx hb dX4_image_15 ?_
    refine lv_topi (fun x2_3 ex2_3 => ?_)
    replace h := nm_s h ex2_3
    refine lv_istore_n (lv' := [(2, .int x2_3), (0, .ref (b0 0)), (1, .int x1)]) hx hb dX4_image_16 rfl hl (by decide) rfl (fun ls hl => ?_)
    refine lv_iconst (v := 0) hx hb dX4_image_17 (by decide) ?_
    refine lv_istore_n (lv' := [(3, .int (0 : Int32)), (2, .int x2_3), (0, .ref (b0 0)), (1, .int x1)]) hx hb dX4_image_18 rfl hl (by decide) rfl (fun ls hl => ?_)
    cases h
    exact ih.1 uv x2_3 (0 : Int32) _ _ _ hm hP hD hS (lv_sub hl [2, 3, 1, 0] rfl)
  · replace h := it_p c_2 h
    refine lv_bipush (v := (-2)) hx hb dX4_image_9 (by decide) ?_
    cases h
    have hm : _ = rr := hm
    subst hm
    exact kretI hx hb hr hlk hP hS dX4_image_11
theorem wl_X4_image {p : Program} {l : Launch} {e : Env} {s : State} {m : MethodId} {args : Array Value} {below : List Frame} {meth : Method} {c : Code} {A : Nat → Prop} {D : va_G} {cy : Nat → ClassId} {b0 : Nat → Nat} {x1 : Int32} {rr : Int32 × MS} (M : kM p s m args meth c cX4_image 4 (some .int) RX4 wsX4_image A D cy) : ∀ fu : Nat, I_X4_image p l e s m args below meth c A D cy b0 x1 fu rr := by
  intro fu
  induction fu with
  | zero => exact ⟨(fun _ _ _ _ _ _ h => by cases h), (fun _ _ _ _ _ _ h => by cases h), (fun _ _ _ _ _ _ h => by cases h)⟩
  | succ fu ih =>
    refine ⟨?_, ?_, ?_⟩
    · intro uv x2 x3 H locs ls h hP hD hS hl
      obtain ⟨o1, h1, h2⟩ := lpn_s h
      exact w_X4_image_19 M ih h1 h2 hP hD hS hl
    · intro uv x2 x3 H locs ls h hP hD hS hl
      obtain ⟨o1, h1, h2⟩ := lpn_s h
      exact w_X4_image_47 M ih h1 h2 hP hD hS hl
    · intro uv x2 x3 H locs ls h hP hD hS hl
      obtain ⟨o1, h1, h2⟩ := lpn_s h
      exact w_X4_image_95 M ih h1 h2 hP hD hS hl
theorem c_X4_image {l : Launch} {D : va_G} {cy : Nat → ClassId} (b0 : Nat → Nat) {uv : MS} {x1 : Int32} {rr : Int32 × MS} (h : f_X4_image uv x1 = some rr) : CI l D cy yX4_image wsX4_image { frames := 1, cells := 0, slots := 0, locals := 22 } [.ref (b0 0), .int x1] (wM cy b0 uv []) (rr.1) (wM cy b0 rr.2 []) := by
  refine kofI (cc := cX4_image) (maxL := 4) (ret := (some .int)) (by decide) rfl (Nat.le_of_ble_eq_true rfl) ?_
  intro p e s m below meth c A M ls hl hP hD hS
  obtain ⟨o1, fu, h1, h2⟩ := rnx_s h
  exact w_X4_image_0 M (wl_X4_image M fu) h1 h2 hP hD hS hl
theorem eX4_image : yX4_image.cls ≠ "java/lang/invoke/MethodHandle" ∧ yX4_image.cls ≠ "java/lang/invoke/VarHandle" ∧ (parseMethodDescriptor yX4_image.desc).map (fun d => d.parameters.length) = some 1 := by decide +kernel
theorem iX4_judge_X4 : ∀ w ∈ u_ws RX4 TX4 21, w ∈ wsX4_judge := by decide +kernel
theorem mX4_judge_1 : Cond.fieldLink RX4 100 "LentPilesModel" "reason" "I" ∈ wsX4_judge := by decide +kernel
set_option maxHeartbeats 4000000 in
set_option maxRecDepth 100000 in
theorem w_X4_judge_0 {p : Program} {l : Launch} {e : Env} {s : State} {m : MethodId} {args : Array Value} {below : List Frame} {meth : Method} {c : Code} {A : Nat → Prop} {D : va_G} {cy : Nat → ClassId} {b0 : Nat → Nat} {x1 : Int32} {rr : Int32 × MS} (M : kM p s m args meth c cX4_judge 3 (some .int) RX4 wsX4_judge A D cy) {uv : MS} (h : f_X4_judge uv x1 = some rr) {H : Heap} {locs : List Loc} {ls : Array Slot} (hP : va_P D vwCl (wM cy b0 uv []) H) (hD : va_D A (wM cy b0 uv [])) (hS : va_S A s.heap H locs) (hl : lv_has ls 3 [(0, .ref (b0 0)), (1, .int x1)]) : W p l e { frames := 5, cells := 0, slots := 0, locals := 116 } s m args below meth c H locs 0 0 (MQ below (qI D (wM cy b0 rr.2 []) (rr.1) A) args s 0 0 A) (F0 m 0 ls []) := by
  obtain ⟨hx, hb, hr, hml, hown, hts, hlk, hA, hK⟩ := id M
  unfold f_X4_judge at h
  refine lv_iload_n hx hb dX4_judge_0 rfl (lv_at hl 1 rfl) ?_
  refine lv_iconst (v := 0) hx hb dX4_judge_1 (by decide) ?_
  refine lv_iconst (v := 1) hx hb dX4_judge_2 (by decide) ?_
  obtain ⟨r_1, hr_1, h⟩ := bn_s h
  refine kcSi (As := [.int x1, .int (0 : Int32), .int (1 : Int32)]) (rest := []) ⟨hx, hb, hml, hown, hts⟩ (va_cwS 3 hts gX4_judge_X4_in rfl rfl rfl eX4_in ⟨Nat.le_of_ble_eq_true rfl, Nat.le_of_ble_eq_true rfl⟩) (c_X4_in  hr_1) hK hP hS hA rfl hl.1 rfl (Nat.le_of_ble_eq_true rfl) dX4_judge_3 (fun H locs hP hS => ?_)
  refine lv_if_ne (tgt := 12) hx hb dX4_judge_6 (by decide) (fun c_2 => ?_) (fun c_2 => ?_)
  · replace h := it_n c_2 h
    refine lv_aload_n hx hb dX4_judge_12 rfl (lv_at hl 0 rfl) ?_
    obtain ⟨r_3, hr_3, h⟩ := bn_s h
    refine kcVi (As := []) (rest := []) (ws' := (wM cy b0 uv [])) ⟨hx, hb, hml, hown, hts⟩ (cwV 0 hts gX4_judge_X4_faultOf rfl rfl rfl ⟨rfl, eX4_faultOf⟩ ⟨Nat.le_of_ble_eq_true rfl, Nat.le_of_ble_eq_true rfl⟩) (c_X4_faultOf b0 hr_3) hK hP hD hS hA [0, 1, 2, 3, 4, 5, 6, 7, 8, 9, 10, 11, 12, 13] [] (by decide) rfl rfl 4 rfl rfl [(b0 0), (b0 1), (b0 2), (b0 3), (b0 4), (b0 5), (b0 6), (b0 7), (b0 8), (b0 9), (b0 10), (b0 11), (b0 12), (b0 13)] rfl rfl rfl [] rfl rfl rfl rfl hl.1 rfl (Nat.le_of_ble_eq_true rfl) dX4_judge_13 (fun H locs hP hD hS => ?_)
    refine lv_if_lt (tgt := 22) hx hb dX4_judge_16 (by decide) (fun c_4 => ?_) (fun c_4 => ?_)
    · replace h := it_p c_4 h
      refine lv_aload_n hx hb dX4_judge_22 rfl (lv_at hl 0 rfl) ?_
      obtain ⟨r_5, hr_5, h⟩ := bn_s h
      refine kcVi (As := []) (rest := []) (ws' := (wM cy b0 uv [])) ⟨hx, hb, hml, hown, hts⟩ (cwV 0 hts gX4_judge_X4_opens rfl rfl rfl ⟨rfl, eX4_opens⟩ ⟨Nat.le_of_ble_eq_true rfl, Nat.le_of_ble_eq_true rfl⟩) (c_X4_opens b0 hr_5) hK hP hD hS hA [0, 1, 2, 3, 4, 5, 6, 7, 8, 9, 10, 11, 12, 13] [] (by decide) rfl rfl 4 rfl rfl [(b0 0), (b0 1), (b0 2), (b0 3), (b0 4), (b0 5), (b0 6), (b0 7), (b0 8), (b0 9), (b0 10), (b0 11), (b0 12), (b0 13)] rfl rfl rfl [] rfl rfl rfl rfl hl.1 rfl (Nat.le_of_ble_eq_true rfl) dX4_judge_23 (fun H locs hP hD hS => ?_)
      refine lv_if_le (tgt := 32) hx hb dX4_judge_26 (by decide) (fun c_6 => ?_) (fun c_6 => ?_)
      · replace h := it_p c_6 h
        refine lv_aload_n hx hb dX4_judge_32 rfl (lv_at hl 0 rfl) ?_
        refine lv_iconst (v := 0) hx hb dX4_judge_33 (by decide) ?_
        obtain ⟨r_7, hr_7, h⟩ := bn_s h
        refine kcVi (As := [.int (0 : Int32)]) (rest := []) (ws' := (wM cy b0 r_7.2 [])) ⟨hx, hb, hml, hown, hts⟩ (cwV 1 hts gX4_judge_X4_goText rfl rfl rfl ⟨rfl, eX4_goText⟩ ⟨Nat.le_of_ble_eq_true rfl, Nat.le_of_ble_eq_true rfl⟩) (c_X4_goText b0 hr_7) hK hP hD hS hA [0, 1, 2, 3, 4, 5, 6, 7, 8, 9, 10, 11, 12, 13] [] (by decide) rfl rfl 4 rfl rfl [(b0 0), (b0 1), (b0 2), (b0 3), (b0 4), (b0 5), (b0 6), (b0 7), (b0 8), (b0 9), (b0 10), (b0 11), (b0 12), (b0 13)] rfl rfl rfl [] rfl rfl rfl rfl hl.1 rfl (Nat.le_of_ble_eq_true rfl) dX4_judge_34 (fun H locs hP hD hS => ?_)
        refine lv_topi (fun x2_8 ex2_8 => ?_)
        replace h := nm_s h ex2_8
        refine lv_istore_n (lv' := [(2, .int x2_8), (0, .ref (b0 0)), (1, .int x1)]) hx hb dX4_judge_37 rfl hl (by decide) rfl (fun ls hl => ?_)
        refine lv_iload_n hx hb dX4_judge_38 rfl (lv_at hl 0 rfl) ?_
        refine lv_if_lt (tgt := 46) hx hb dX4_judge_39 (by decide) (fun c_9 => ?_) (fun c_9 => ?_)
        · replace h := it_p c_9 h
          refine lv_iload_n hx hb dX4_judge_46 rfl (lv_at hl 0 rfl) ?_
          refine lv_goto (tgt := 54) hx hb dX4_judge_47 (by decide) ?_
          cases h
          exact kretI hx hb hr hlk hP hS dX4_judge_54
        · replace h := it_n c_9 h
          refine lv_iload_n hx hb dX4_judge_42 rfl (lv_at hl 2 rfl) ?_
          refine lv_if_ne (tgt := 50) hx hb dX4_judge_43 (by decide) (fun c_10 => ?_) (fun c_10 => ?_)
          · replace h := it_n c_10 h
            refine lv_aload_n hx hb dX4_judge_50 rfl (lv_at hl 1 rfl) ?_
            refine va_get (D := D) (ci := 4) (v := .int r_7.2.2.2.2.2.2.2.2.2.2.2.2.2.2.2.2.1) (C := RX4) (T := TX4) (N := 21) hx hb hts iX4_judge_X4 hown hK.1 hP 0 rfl rfl 15 (by decide) (hts _ mX4_judge_1) (fun _ h9 => h9) rfl dX4_judge_51 ?_
            cases h
            exact kretI hx hb hr hlk hP hS dX4_judge_54
          · replace h := it_p c_10 h
            refine lv_iload_n hx hb dX4_judge_46 rfl (lv_at hl 0 rfl) ?_
            refine lv_goto (tgt := 54) hx hb dX4_judge_47 (by decide) ?_
            cases h
            exact kretI hx hb hr hlk hP hS dX4_judge_54
      · replace h := it_n c_6 h
        refine lv_bipush (v := (-3)) hx hb dX4_judge_29 (by decide) ?_
        cases h
        exact kretI hx hb hr hlk hP hS dX4_judge_31
    · replace h := it_n c_4 h
      refine lv_bipush (v := (-5)) hx hb dX4_judge_19 (by decide) ?_
      cases h
      exact kretI hx hb hr hlk hP hS dX4_judge_21
  · replace h := it_p c_2 h
    refine lv_bipush (v := (-2)) hx hb dX4_judge_9 (by decide) ?_
    cases h
    exact kretI hx hb hr hlk hP hS dX4_judge_11
theorem c_X4_judge {l : Launch} {D : va_G} {cy : Nat → ClassId} (b0 : Nat → Nat) {uv : MS} {x1 : Int32} {rr : Int32 × MS} (h : f_X4_judge uv x1 = some rr) : CI l D cy yX4_judge wsX4_judge { frames := 5, cells := 0, slots := 0, locals := 116 } [.ref (b0 0), .int x1] (wM cy b0 uv []) (rr.1) (wM cy b0 rr.2 []) := by
  refine kofI (cc := cX4_judge) (maxL := 3) (ret := (some .int)) (by decide) rfl (Nat.le_of_ble_eq_true rfl) ?_
  intro p e s m below meth c A M ls hl hP hD hS
  exact w_X4_judge_0 M h hP hD hS hl
theorem eX4_judge : yX4_judge.cls ≠ "java/lang/invoke/MethodHandle" ∧ yX4_judge.cls ≠ "java/lang/invoke/VarHandle" ∧ (parseMethodDescriptor yX4_judge.desc).map (fun d => d.parameters.length) = some 1 := by decide +kernel
theorem iX4_layTurns_X4 : ∀ w ∈ u_ws RX4 TX4 21, w ∈ wsX4_layTurns := by decide +kernel
theorem mX4_layTurns_1 : Cond.fieldLink RX4 13 "LentPilesModel" "size" "[I" ∈ wsX4_layTurns := by decide +kernel
theorem mX4_layTurns_2 : Cond.fieldLink RX4 34 "LentPilesModel" "turn" "[I" ∈ wsX4_layTurns := by decide +kernel
theorem mX4_layTurns_3 : Cond.fieldLink RX4 59 "LentPilesModel" "law" "I" ∈ wsX4_layTurns := by decide +kernel
theorem mX4_layTurns_4 : Cond.fieldLink RX4 16 "LentPilesModel" "pile" "[I" ∈ wsX4_layTurns := by decide +kernel
def I_X4_layTurns (p : Program) (l : Launch) (e : Env) (s : State) (m : MethodId) (args : Array Value) (below : List Frame) (meth : Method) (c : Code) (A : Nat → Prop) (D : va_G) (cy : Nat → ClassId) (b0 : Nat → Nat) (fu : Nat) (rr : MS) : Prop := (∀ (uv : MS) (x1 : Int32) (H : Heap) (locs : List Loc) (ls : Array Slot), lpn (st_X4_layTurns ) fu (.inl (uv, x1)) = some rr → va_P D vwCl (wM cy b0 uv []) H → va_D A (wM cy b0 uv []) → va_S A s.heap H locs → lv_has ls 7 [(0, .ref (b0 0)), (1, .int x1)] → W p l e { frames := 1, cells := 0, slots := 0, locals := 21 } s m args below meth c H locs 0 0 (MQ below (qV D (wM cy b0 rr []) A) args s 0 0 A) (F0 m 2 ls [])) ∧ (∀ (uv : MS) (x1 : Int32) (x2 : Int32) (x3 : Int32) (H : Heap) (locs : List Loc) (ls : Array Slot), lpn (st_X4_layTurns ) fu (.inr (.inl (uv, x1, x2, x3))) = some rr → va_P D vwCl (wM cy b0 uv []) H → va_D A (wM cy b0 uv []) → va_S A s.heap H locs → lv_has ls 7 [(0, .ref (b0 0)), (1, .int x1), (2, .int x2), (3, .int x3)] → W p l e { frames := 1, cells := 0, slots := 0, locals := 21 } s m args below meth c H locs 0 0 (MQ below (qV D (wM cy b0 rr []) A) args s 0 0 A) (F0 m 12 ls [])) ∧ (∀ (uv : MS) (x1 : Int32) (x2 : Int32) (x3 : Int32) (x4 : Int32) (x5 : Int32) (H : Heap) (locs : List Loc) (ls : Array Slot), lpn (st_X4_layTurns ) fu (.inr (.inr (uv, x1, x2, x3, x4, x5))) = some rr → va_P D vwCl (wM cy b0 uv []) H → va_D A (wM cy b0 uv []) → va_S A s.heap H locs → lv_has ls 7 [(0, .ref (b0 0)), (1, .int x1), (2, .int x2), (3, .int x3), (4, .int x4), (5, .int x5)] → W p l e { frames := 1, cells := 0, slots := 0, locals := 21 } s m args below meth c H locs 0 0 (MQ below (qV D (wM cy b0 rr []) A) args s 0 0 A) (F0 m 36 ls []))
set_option maxHeartbeats 4000000 in
set_option maxRecDepth 100000 in
theorem w_X4_layTurns_96 {p : Program} {l : Launch} {e : Env} {s : State} {m : MethodId} {args : Array Value} {below : List Frame} {meth : Method} {c : Code} {A : Nat → Prop} {D : va_G} {cy : Nat → ClassId} {b0 : Nat → Nat} {fu : Nat} {rr : MS} (M : kM p s m args meth c cX4_layTurns 7 none RX4 wsX4_layTurns A D cy) (ih : I_X4_layTurns p l e s m args below meth c A D cy b0 fu rr) {uv : MS} {x1 : Int32} {x2 : Int32} {x3 : Int32} {x4 : Int32} {x5 : Int32} {t0 : Int32} {oo : ((MS × Int32) ⊕ (MS × Int32 × Int32 × Int32) ⊕ (MS × Int32 × Int32 × Int32 × Int32 × Int32)) ⊕ (MS)} (h : f_X4_layTurns_96 uv x1 x2 x3 x4 x5 t0 = some oo) (hm : lpo (st_X4_layTurns ) fu oo rr) {H : Heap} {locs : List Loc} {ls : Array Slot} (hP : va_P D vwCl (wM cy b0 uv []) H) (hD : va_D A (wM cy b0 uv [])) (hS : va_S A s.heap H locs) (hl : lv_has ls 7 [(0, .ref (b0 0)), (1, .int x1), (2, .int x2), (3, .int x3), (4, .int x4), (5, .int x5)]) : W p l e { frames := 1, cells := 0, slots := 0, locals := 21 } s m args below meth c H locs 0 0 (MQ below (qV D (wM cy b0 rr []) A) args s 0 0 A) (F0 m 96 ls [.int t0]) := by
  obtain ⟨hx, hb, hr, hml, hown, hts, hlk, hA, hK⟩ := id M
  unfold f_X4_layTurns_96 at h
  refine lv_istore (lv' := [(6, .int t0), (0, .ref (b0 0)), (1, .int x1), (2, .int x2), (3, .int x3), (4, .int x4), (5, .int x5)]) hx hb dX4_layTurns_96 hl (by decide) rfl (fun ls hl => ?_)
  refine lv_iload_n hx hb dX4_layTurns_98 rfl (lv_at hl 3 rfl) ?_
  refine lv_iload hx hb dX4_layTurns_99 (lv_at hl 6 rfl) ?_
  obtain ⟨r_1, hr_1, h⟩ := bn_s h
  refine kcSi (As := [.int x2, .int x5]) (rest := []) ⟨hx, hb, hml, hown, hts⟩ (va_cwS 2 hts gX4_layTurns_X4_has rfl rfl rfl eX4_has ⟨Nat.le_of_ble_eq_true rfl, Nat.le_of_ble_eq_true rfl⟩) (c_X4_has  hr_1) hK hP hS hA rfl hl.1 rfl (Nat.le_of_ble_eq_true rfl) dX4_layTurns_101 (fun H locs hP hS => ?_)
  refine lv_if_ne (tgt := 117) hx hb dX4_layTurns_104 (by decide) (fun c_2 => ?_) (fun c_2 => ?_)
  · replace h := it_n c_2 h
    refine lv_iload hx hb dX4_layTurns_117 (lv_at hl 5 rfl) ?_
    refine lv_istore (lv' := [(4, .int x4), (6, .int t0), (0, .ref (b0 0)), (1, .int x1), (2, .int x2), (3, .int x3), (5, .int x5)]) hx hb dX4_layTurns_119 hl (by decide) rfl (fun ls hl => ?_)
    obtain ⟨x5_3, ex5_3⟩ : ∃ z : Int32, z = (x5 + (-1 : Int32)) := ⟨_, rfl⟩
    replace h := nm_s h ex5_3
    refine lv_iinc (v := x5_3) (lv' := [(5, .int x5_3), (4, .int x4), (6, .int t0), (0, .ref (b0 0)), (1, .int x1), (2, .int x2), (3, .int x3)]) hx hb dX4_layTurns_121 hl (k := 6) rfl (by rw [ex5_3]; rfl) (by decide) rfl (fun ls hl => ?_)
    refine lv_goto (tgt := 36) hx hb dX4_layTurns_124 (by decide) ?_
    cases h
    exact ih.2.2 uv x1 x2 x3 x4 x5_3 _ _ _ hm hP hD hS (lv_sub hl [3, 4, 5, 6, 1, 0] rfl)
  · replace h := it_p c_2 h
    refine lv_iload hx hb dX4_layTurns_107 (lv_at hl 0 rfl) ?_
    refine lv_if_eq (tgt := 117) hx hb dX4_layTurns_109 (by decide) (fun c_4 => ?_) (fun c_4 => ?_)
    · replace h := it_p c_4 h
      refine lv_iload hx hb dX4_layTurns_117 (lv_at hl 5 rfl) ?_
      refine lv_istore (lv' := [(4, .int x4), (6, .int t0), (0, .ref (b0 0)), (1, .int x1), (2, .int x2), (3, .int x3), (5, .int x5)]) hx hb dX4_layTurns_119 hl (by decide) rfl (fun ls hl => ?_)
      obtain ⟨x5_5, ex5_5⟩ : ∃ z : Int32, z = (x5 + (-1 : Int32)) := ⟨_, rfl⟩
      replace h := nm_s h ex5_5
      refine lv_iinc (v := x5_5) (lv' := [(5, .int x5_5), (4, .int x4), (6, .int t0), (0, .ref (b0 0)), (1, .int x1), (2, .int x2), (3, .int x3)]) hx hb dX4_layTurns_121 hl (k := 6) rfl (by rw [ex5_5]; rfl) (by decide) rfl (fun ls hl => ?_)
      refine lv_goto (tgt := 36) hx hb dX4_layTurns_124 (by decide) ?_
      cases h
      exact ih.2.2 uv x1 x2 x3 x4 x5_5 _ _ _ hm hP hD hS (lv_sub hl [3, 4, 5, 6, 1, 0] rfl)
    · replace h := it_n c_4 h
      refine lv_iload hx hb dX4_layTurns_112 (lv_at hl 6 rfl) ?_
      refine lv_goto (tgt := 119) hx hb dX4_layTurns_114 (by decide) ?_
      refine lv_istore (lv' := [(4, .int x5), (6, .int t0), (0, .ref (b0 0)), (1, .int x1), (2, .int x2), (3, .int x3), (5, .int x5)]) hx hb dX4_layTurns_119 hl (by decide) rfl (fun ls hl => ?_)
      obtain ⟨x5_6, ex5_6⟩ : ∃ z : Int32, z = (x5 + (-1 : Int32)) := ⟨_, rfl⟩
      replace h := nm_s h ex5_6
      refine lv_iinc (v := x5_6) (lv' := [(5, .int x5_6), (4, .int x5), (6, .int t0), (0, .ref (b0 0)), (1, .int x1), (2, .int x2), (3, .int x3)]) hx hb dX4_layTurns_121 hl (k := 6) rfl (by rw [ex5_6]; rfl) (by decide) rfl (fun ls hl => ?_)
      refine lv_goto (tgt := 36) hx hb dX4_layTurns_124 (by decide) ?_
      cases h
      exact ih.2.2 uv x1 x2 x3 x5 x5_6 _ _ _ hm hP hD hS (lv_sub hl [3, 4, 5, 6, 1, 0] rfl)
set_option maxHeartbeats 4000000 in
set_option maxRecDepth 100000 in
theorem w_X4_layTurns_36 {p : Program} {l : Launch} {e : Env} {s : State} {m : MethodId} {args : Array Value} {below : List Frame} {meth : Method} {c : Code} {A : Nat → Prop} {D : va_G} {cy : Nat → ClassId} {b0 : Nat → Nat} {fu : Nat} {rr : MS} (M : kM p s m args meth c cX4_layTurns 7 none RX4 wsX4_layTurns A D cy) (ih : I_X4_layTurns p l e s m args below meth c A D cy b0 fu rr) {uv : MS} {x1 : Int32} {x2 : Int32} {x3 : Int32} {x4 : Int32} {x5 : Int32} {oo : ((MS × Int32) ⊕ (MS × Int32 × Int32 × Int32) ⊕ (MS × Int32 × Int32 × Int32 × Int32 × Int32)) ⊕ (MS)} (h : f_X4_layTurns_36 uv x1 x2 x3 x4 x5 = some oo) (hm : lpo (st_X4_layTurns ) fu oo rr) {H : Heap} {locs : List Loc} {ls : Array Slot} (hP : va_P D vwCl (wM cy b0 uv []) H) (hD : va_D A (wM cy b0 uv [])) (hS : va_S A s.heap H locs) (hl : lv_has ls 7 [(0, .ref (b0 0)), (1, .int x1), (2, .int x2), (3, .int x3), (4, .int x4), (5, .int x5)]) : W p l e { frames := 1, cells := 0, slots := 0, locals := 21 } s m args below meth c H locs 0 0 (MQ below (qV D (wM cy b0 rr []) A) args s 0 0 A) (F0 m 36 ls []) := by
  obtain ⟨hx, hb, hr, hml, hown, hts, hlk, hA, hK⟩ := id M
  unfold f_X4_layTurns_36 at h
  refine lv_iload hx hb dX4_layTurns_36 (lv_at hl 5 rfl) ?_
  refine lv_if_lt (tgt := 127) hx hb dX4_layTurns_38 (by decide) (fun c_1 => ?_) (fun c_1 => ?_)
  · replace h := it_p c_1 h
    refine lv_iload_n hx hb dX4_layTurns_127 rfl (lv_at hl 2 rfl) ?_
    refine lv_iconst (v := 1) hx hb dX4_layTurns_128 (by decide) ?_
    refine lv_iload hx hb dX4_layTurns_129 (lv_at hl 4 rfl) ?_
    refine lv_ishl hx hb dX4_layTurns_131 ?_
    refine lv_ior hx hb dX4_layTurns_132 ?_
    refine lv_topi (fun x2_2 ex2_2 => ?_)
    replace h := nm_s h ex2_2
    refine lv_istore_n (lv' := [(2, .int x2_2), (0, .ref (b0 0)), (1, .int x1), (3, .int x3), (4, .int x4), (5, .int x5)]) hx hb dX4_layTurns_133 rfl hl (by decide) rfl (fun ls hl => ?_)
    refine lv_aload_n hx hb dX4_layTurns_134 rfl (lv_at hl 1 rfl) ?_
    refine va_get (D := D) (ci := 4) (v := .ref (b0 9)) (C := RX4) (T := TX4) (N := 21) hx hb hts iX4_layTurns_X4 hown hK.1 hP 0 rfl rfl 16 (by decide) (hts _ mX4_layTurns_2) (fun _ h9 => h9) rfl dX4_layTurns_135 ?_
    refine lv_iconst (v := 5) hx hb dX4_layTurns_138 (by decide) ?_
    refine lv_iload_n hx hb dX4_layTurns_139 rfl (lv_at hl 2 rfl) ?_
    refine lv_imul hx hb dX4_layTurns_140 ?_
    refine lv_iload_n hx hb dX4_layTurns_141 rfl (lv_at hl 3 rfl) ?_
    refine lv_iadd hx hb dX4_layTurns_142 ?_
    refine lv_iload hx hb dX4_layTurns_143 (lv_at hl 4 rfl) ?_
    obtain ⟨b_3, h⟩ := ck_s h
    refine va_iast hx hb hK.1 hP hD hS 9 1 rfl rfl b_3 dX4_layTurns_145 (fun H locs hP hD hS => ?_)
    obtain ⟨uv_4, euv_4⟩ : ∃ z : MS, z = (uv.1, uv.2.1, uv.2.2.1, uv.2.2.2.1, uv.2.2.2.2.1, uv.2.2.2.2.2.1, uv.2.2.2.2.2.2.1, uv.2.2.2.2.2.2.2.1, uv.2.2.2.2.2.2.2.2.1, uv.2.2.2.2.2.2.2.2.2.1, uv.2.2.2.2.2.2.2.2.2.2.1, uv.2.2.2.2.2.2.2.2.2.2.2.1, uv.2.2.2.2.2.2.2.2.2.2.2.2.1, uv.2.2.2.2.2.2.2.2.2.2.2.2.2.1, uv.2.2.2.2.2.2.2.2.2.2.2.2.2.2.1, uv.2.2.2.2.2.2.2.2.2.2.2.2.2.2.2.1, (upd uv.2.2.2.2.2.2.2.2.2.2.2.2.2.2.2.2.1 (((5 : Int32) * x1) + x3).toNatClampNeg x4), uv.2.2.2.2.2.2.2.2.2.2.2.2.2.2.2.2.2) := ⟨_, rfl⟩
    replace h := nm_s h euv_4
    have hP : va_P D vwCl (wM cy b0 uv_4 []) H := by subst euv_4; exact hP
    have hD : va_D A (wM cy b0 uv_4 []) := hD.lk [(b0 0), (b0 1), (b0 2), (b0 3), (b0 4), (b0 5), (b0 6), (b0 7), (b0 8), (b0 9), (b0 10), (b0 11), (b0 12), (b0 13)] rfl rfl
    obtain ⟨x3_5, ex3_5⟩ : ∃ z : Int32, z = (x3 + (1 : Int32)) := ⟨_, rfl⟩
    replace h := nm_s h ex3_5
    refine lv_iinc (v := x3_5) (lv' := [(3, .int x3_5), (2, .int x2_2), (0, .ref (b0 0)), (1, .int x1), (4, .int x4), (5, .int x5)]) hx hb dX4_layTurns_146 hl (k := 3) rfl (by rw [ex3_5]; rfl) (by decide) rfl (fun ls hl => ?_)
    refine lv_goto (tgt := 12) hx hb dX4_layTurns_149 (by decide) ?_
    cases h
    exact ih.2.1 uv_4 x1 x2_2 x3_5 _ _ _ hm hP hD hS (lv_sub hl [2, 3, 1, 0] rfl)
  · replace h := it_n c_1 h
    refine lv_iload hx hb dX4_layTurns_41 (lv_at hl 4 rfl) ?_
    refine lv_if_lt (tgt := 91) hx hb dX4_layTurns_43 (by decide) (fun c_6 => ?_) (fun c_6 => ?_)
    · replace h := it_p c_6 h
      refine lv_iconst (v := 1) hx hb dX4_layTurns_91 (by decide) ?_
      refine lv_goto (tgt := 96) hx hb dX4_layTurns_92 (by decide) ?_
      exact w_X4_layTurns_96 M ih h hm hP hD hS hl
    · replace h := it_n c_6 h
      refine lv_aload_n hx hb dX4_layTurns_46 rfl (lv_at hl 0 rfl) ?_
      refine va_get (D := D) (ci := 4) (v := .int uv.1) (C := RX4) (T := TX4) (N := 21) hx hb hts iX4_layTurns_X4 hown hK.1 hP 0 rfl rfl 0 (by decide) (hts _ mX4_layTurns_3) (fun _ h9 => h9) rfl dX4_layTurns_47 ?_
      refine lv_iconst (v := 1) hx hb dX4_layTurns_50 (by decide) ?_
      refine lv_icmp_eq (tgt := 91) hx hb dX4_layTurns_51 (by decide) (fun c_7 => ?_) (fun c_7 => ?_)
      · replace h := it_p c_7 h
        refine lv_iconst (v := 1) hx hb dX4_layTurns_91 (by decide) ?_
        refine lv_goto (tgt := 96) hx hb dX4_layTurns_92 (by decide) ?_
        exact w_X4_layTurns_96 M ih h hm hP hD hS hl
      · replace h := it_n c_7 h
        refine lv_aload_n hx hb dX4_layTurns_54 rfl (lv_at hl 0 rfl) ?_
        refine va_get (D := D) (ci := 4) (v := .int uv.1) (C := RX4) (T := TX4) (N := 21) hx hb hts iX4_layTurns_X4 hown hK.1 hP 0 rfl rfl 0 (by decide) (hts _ mX4_layTurns_3) (fun _ h9 => h9) rfl dX4_layTurns_55 ?_
        refine lv_iconst (v := 2) hx hb dX4_layTurns_58 (by decide) ?_
        refine lv_icmp_ne (tgt := 95) hx hb dX4_layTurns_59 (by decide) (fun c_8 => ?_) (fun c_8 => ?_)
        · replace h := it_n c_8 h
          refine lv_iconst (v := 0) hx hb dX4_layTurns_95 (by decide) ?_
          exact w_X4_layTurns_96 M ih h hm hP hD hS hl
        · replace h := it_p c_8 h
          refine lv_aload_n hx hb dX4_layTurns_62 rfl (lv_at hl 0 rfl) ?_
          refine va_get (D := D) (ci := 4) (v := .ref (b0 3)) (C := RX4) (T := TX4) (N := 21) hx hb hts iX4_layTurns_X4 hown hK.1 hP 0 rfl rfl 5 (by decide) (hts _ mX4_layTurns_4) (fun _ h9 => h9) rfl dX4_layTurns_63 ?_
          refine lv_iload_n hx hb dX4_layTurns_66 rfl (lv_at hl 1 rfl) ?_
          refine lv_iload hx hb dX4_layTurns_67 (lv_at hl 5 rfl) ?_
          obtain ⟨r_9, hr_9, h⟩ := bn_s h
          refine kcSi (As := [.int x1, .int x5]) (rest := [.ref (b0 3)]) ⟨hx, hb, hml, hown, hts⟩ (va_cwS 2 hts gX4_layTurns_X4_at rfl rfl rfl eX4_at ⟨Nat.le_of_ble_eq_true rfl, Nat.le_of_ble_eq_true rfl⟩) (c_X4_at  hr_9) hK hP hS hA rfl hl.1 rfl (Nat.le_of_ble_eq_true rfl) dX4_layTurns_69 (fun H locs hP hS => ?_)
          refine lv_iconst (v := 1) hx hb dX4_layTurns_72 (by decide) ?_
          refine lv_iadd hx hb dX4_layTurns_73 ?_
          obtain ⟨b_10, h⟩ := ck_s h
          refine va_iald hx hb hK.1 hP 3 1 rfl rfl b_10 dX4_layTurns_74 ?_
          refine lv_aload_n hx hb dX4_layTurns_75 rfl (lv_at hl 0 rfl) ?_
          refine va_get (D := D) (ci := 4) (v := .ref (b0 3)) (C := RX4) (T := TX4) (N := 21) hx hb hts iX4_layTurns_X4 hown hK.1 hP 0 rfl rfl 5 (by decide) (hts _ mX4_layTurns_4) (fun _ h9 => h9) rfl dX4_layTurns_76 ?_
          refine lv_iload_n hx hb dX4_layTurns_79 rfl (lv_at hl 1 rfl) ?_
          refine lv_iload hx hb dX4_layTurns_80 (lv_at hl 4 rfl) ?_
          obtain ⟨r_11, hr_11, h⟩ := bn_s h
          refine kcSi (As := [.int x1, .int x4]) (rest := [.ref (b0 3), .int (uv.2.2.2.2.2.1 (r_9 + (1 : Int32)).toNatClampNeg)]) ⟨hx, hb, hml, hown, hts⟩ (va_cwS 2 hts gX4_layTurns_X4_at rfl rfl rfl eX4_at ⟨Nat.le_of_ble_eq_true rfl, Nat.le_of_ble_eq_true rfl⟩) (c_X4_at  hr_11) hK hP hS hA rfl hl.1 rfl (Nat.le_of_ble_eq_true rfl) dX4_layTurns_82 (fun H locs hP hS => ?_)
          refine lv_iconst (v := 1) hx hb dX4_layTurns_85 (by decide) ?_
          refine lv_iadd hx hb dX4_layTurns_86 ?_
          obtain ⟨b_12, h⟩ := ck_s h
          refine va_iald hx hb hK.1 hP 3 1 rfl rfl b_12 dX4_layTurns_87 ?_
          refine lv_icmp_le (tgt := 95) hx hb dX4_layTurns_88 (by decide) (fun c_13 => ?_) (fun c_13 => ?_)
          · replace h := it_p c_13 h
            refine lv_iconst (v := 0) hx hb dX4_layTurns_95 (by decide) ?_
            exact w_X4_layTurns_96 M ih h hm hP hD hS hl
          · replace h := it_n c_13 h
            refine lv_iconst (v := 1) hx hb dX4_layTurns_91 (by decide) ?_
            refine lv_goto (tgt := 96) hx hb dX4_layTurns_92 (by decide) ?_
            exact w_X4_layTurns_96 M ih h hm hP hD hS hl
set_option maxHeartbeats 4000000 in
set_option maxRecDepth 100000 in
theorem w_X4_layTurns_12 {p : Program} {l : Launch} {e : Env} {s : State} {m : MethodId} {args : Array Value} {below : List Frame} {meth : Method} {c : Code} {A : Nat → Prop} {D : va_G} {cy : Nat → ClassId} {b0 : Nat → Nat} {fu : Nat} {rr : MS} (M : kM p s m args meth c cX4_layTurns 7 none RX4 wsX4_layTurns A D cy) (ih : I_X4_layTurns p l e s m args below meth c A D cy b0 fu rr) {uv : MS} {x1 : Int32} {x2 : Int32} {x3 : Int32} {oo : ((MS × Int32) ⊕ (MS × Int32 × Int32 × Int32) ⊕ (MS × Int32 × Int32 × Int32 × Int32 × Int32)) ⊕ (MS)} (h : f_X4_layTurns_12 uv x1 x2 x3 = some oo) (hm : lpo (st_X4_layTurns ) fu oo rr) {H : Heap} {locs : List Loc} {ls : Array Slot} (hP : va_P D vwCl (wM cy b0 uv []) H) (hD : va_D A (wM cy b0 uv [])) (hS : va_S A s.heap H locs) (hl : lv_has ls 7 [(0, .ref (b0 0)), (1, .int x1), (2, .int x2), (3, .int x3)]) : W p l e { frames := 1, cells := 0, slots := 0, locals := 21 } s m args below meth c H locs 0 0 (MQ below (qV D (wM cy b0 rr []) A) args s 0 0 A) (F0 m 12 ls []) := by
  obtain ⟨hx, hb, hr, hml, hown, hts, hlk, hA, hK⟩ := id M
  unfold f_X4_layTurns_12 at h
  refine lv_iload_n hx hb dX4_layTurns_12 rfl (lv_at hl 3 rfl) ?_
  refine lv_aload_n hx hb dX4_layTurns_13 rfl (lv_at hl 0 rfl) ?_
  refine va_get (D := D) (ci := 4) (v := .ref (b0 2)) (C := RX4) (T := TX4) (N := 21) hx hb hts iX4_layTurns_X4 hown hK.1 hP 0 rfl rfl 4 (by decide) (hts _ mX4_layTurns_1) (fun _ h9 => h9) rfl dX4_layTurns_14 ?_
  refine lv_iload_n hx hb dX4_layTurns_17 rfl (lv_at hl 1 rfl) ?_
  obtain ⟨b_1, h⟩ := ck_s h
  refine va_iald hx hb hK.1 hP 2 1 rfl rfl b_1 dX4_layTurns_18 ?_
  refine lv_icmp_ge (tgt := 152) hx hb dX4_layTurns_19 (by decide) (fun c_2 => ?_) (fun c_2 => ?_)
  · replace h := it_p c_2 h
    obtain ⟨x1_3, ex1_3⟩ : ∃ z : Int32, z = (x1 + (1 : Int32)) := ⟨_, rfl⟩
    replace h := nm_s h ex1_3
    refine lv_iinc (v := x1_3) (lv' := [(1, .int x1_3), (0, .ref (b0 0)), (2, .int x2), (3, .int x3)]) hx hb dX4_layTurns_152 hl (k := 1) rfl (by rw [ex1_3]; rfl) (by decide) rfl (fun ls hl => ?_)
    refine lv_goto (tgt := 2) hx hb dX4_layTurns_155 (by decide) ?_
    cases h
    exact ih.1 uv x1_3 _ _ _ hm hP hD hS (lv_sub hl [1, 0] rfl)
  · replace h := it_n c_2 h
    refine lv_bipush (v := (-6)) hx hb dX4_layTurns_22 (by decide) ?_
    refine lv_istore (lv' := [(4, .int (-6 : Int32)), (0, .ref (b0 0)), (1, .int x1), (2, .int x2), (3, .int x3)]) hx hb dX4_layTurns_24 hl (by decide) rfl (fun ls hl => ?_)
    refine lv_aload_n hx hb dX4_layTurns_26 rfl (lv_at hl 1 rfl) ?_
    refine va_get (D := D) (ci := 4) (v := .ref (b0 2)) (C := RX4) (T := TX4) (N := 21) hx hb hts iX4_layTurns_X4 hown hK.1 hP 0 rfl rfl 4 (by decide) (hts _ mX4_layTurns_1) (fun _ h9 => h9) rfl dX4_layTurns_27 ?_
    refine lv_iload_n hx hb dX4_layTurns_30 rfl (lv_at hl 2 rfl) ?_
    refine va_iald hx hb hK.1 hP 2 1 rfl rfl b_1 dX4_layTurns_31 ?_
    refine lv_iconst (v := 1) hx hb dX4_layTurns_32 (by decide) ?_
    refine lv_isub hx hb dX4_layTurns_33 ?_
    refine lv_topi (fun x5_4 ex5_4 => ?_)
    replace h := nm_s h ex5_4
    refine lv_istore (lv' := [(5, .int x5_4), (4, .int (-6 : Int32)), (0, .ref (b0 0)), (1, .int x1), (2, .int x2), (3, .int x3)]) hx hb dX4_layTurns_34 hl (by decide) rfl (fun ls hl => ?_)
    cases h
    exact ih.2.2 uv x1 x2 x3 (-6 : Int32) x5_4 _ _ _ hm hP hD hS (lv_sub hl [2, 3, 4, 5, 1, 0] rfl)
set_option maxHeartbeats 4000000 in
set_option maxRecDepth 100000 in
theorem w_X4_layTurns_2 {p : Program} {l : Launch} {e : Env} {s : State} {m : MethodId} {args : Array Value} {below : List Frame} {meth : Method} {c : Code} {A : Nat → Prop} {D : va_G} {cy : Nat → ClassId} {b0 : Nat → Nat} {fu : Nat} {rr : MS} (M : kM p s m args meth c cX4_layTurns 7 none RX4 wsX4_layTurns A D cy) (ih : I_X4_layTurns p l e s m args below meth c A D cy b0 fu rr) {uv : MS} {x1 : Int32} {oo : ((MS × Int32) ⊕ (MS × Int32 × Int32 × Int32) ⊕ (MS × Int32 × Int32 × Int32 × Int32 × Int32)) ⊕ (MS)} (h : f_X4_layTurns_2 uv x1 = some oo) (hm : lpo (st_X4_layTurns ) fu oo rr) {H : Heap} {locs : List Loc} {ls : Array Slot} (hP : va_P D vwCl (wM cy b0 uv []) H) (hD : va_D A (wM cy b0 uv [])) (hS : va_S A s.heap H locs) (hl : lv_has ls 7 [(0, .ref (b0 0)), (1, .int x1)]) : W p l e { frames := 1, cells := 0, slots := 0, locals := 21 } s m args below meth c H locs 0 0 (MQ below (qV D (wM cy b0 rr []) A) args s 0 0 A) (F0 m 2 ls []) := by
  obtain ⟨hx, hb, hr, hml, hown, hts, hlk, hA, hK⟩ := id M
  unfold f_X4_layTurns_2 at h
  refine lv_iload_n hx hb dX4_layTurns_2 rfl (lv_at hl 1 rfl) ?_
  refine lv_bipush (v := 6) hx hb dX4_layTurns_3 (by decide) ?_
  refine lv_icmp_ge (tgt := 158) hx hb dX4_layTurns_5 (by decide) (fun c_1 => ?_) (fun c_1 => ?_)
  · replace h := it_p c_1 h
    cases h
    have hm : _ = rr := hm
    subst hm
    exact kretV hx hb hr hlk hP hS dX4_layTurns_158
  · replace h := it_n c_1 h
    refine lv_iconst (v := 0) hx hb dX4_layTurns_8 (by decide) ?_
    refine lv_istore_n (lv' := [(2, .int (0 : Int32)), (0, .ref (b0 0)), (1, .int x1)]) hx hb dX4_layTurns_9 rfl hl (by decide) rfl (fun ls hl => ?_)
    refine lv_iconst (v := 0) hx hb dX4_layTurns_10 (by decide) ?_
    refine lv_istore_n (lv' := [(3, .int (0 : Int32)), (2, .int (0 : Int32)), (0, .ref (b0 0)), (1, .int x1)]) hx hb dX4_layTurns_11 rfl hl (by decide) rfl (fun ls hl => ?_)
    cases h
    exact ih.2.1 uv x1 (0 : Int32) (0 : Int32) _ _ _ hm hP hD hS (lv_sub hl [2, 3, 1, 0] rfl)
set_option maxHeartbeats 4000000 in
set_option maxRecDepth 100000 in
theorem w_X4_layTurns_0 {p : Program} {l : Launch} {e : Env} {s : State} {m : MethodId} {args : Array Value} {below : List Frame} {meth : Method} {c : Code} {A : Nat → Prop} {D : va_G} {cy : Nat → ClassId} {b0 : Nat → Nat} {fu : Nat} {rr : MS} (M : kM p s m args meth c cX4_layTurns 7 none RX4 wsX4_layTurns A D cy) (ih : I_X4_layTurns p l e s m args below meth c A D cy b0 fu rr) {uv : MS} {oo : ((MS × Int32) ⊕ (MS × Int32 × Int32 × Int32) ⊕ (MS × Int32 × Int32 × Int32 × Int32 × Int32)) ⊕ (MS)} (h : f_X4_layTurns_0 uv = some oo) (hm : lpo (st_X4_layTurns ) fu oo rr) {H : Heap} {locs : List Loc} {ls : Array Slot} (hP : va_P D vwCl (wM cy b0 uv []) H) (hD : va_D A (wM cy b0 uv [])) (hS : va_S A s.heap H locs) (hl : lv_has ls 7 [(0, .ref (b0 0))]) : W p l e { frames := 1, cells := 0, slots := 0, locals := 21 } s m args below meth c H locs 0 0 (MQ below (qV D (wM cy b0 rr []) A) args s 0 0 A) (F0 m 0 ls []) := by
  obtain ⟨hx, hb, hr, hml, hown, hts, hlk, hA, hK⟩ := id M
  unfold f_X4_layTurns_0 at h
  refine lv_iconst (v := 0) hx hb dX4_layTurns_0 (by decide) ?_
  refine lv_istore_n (lv' := [(1, .int (0 : Int32)), (0, .ref (b0 0))]) hx hb dX4_layTurns_1 rfl hl (by decide) rfl (fun ls hl => ?_)
  cases h
  exact ih.1 uv (0 : Int32) _ _ _ hm hP hD hS (lv_sub hl [1, 0] rfl)
theorem wl_X4_layTurns {p : Program} {l : Launch} {e : Env} {s : State} {m : MethodId} {args : Array Value} {below : List Frame} {meth : Method} {c : Code} {A : Nat → Prop} {D : va_G} {cy : Nat → ClassId} {b0 : Nat → Nat} {rr : MS} (M : kM p s m args meth c cX4_layTurns 7 none RX4 wsX4_layTurns A D cy) : ∀ fu : Nat, I_X4_layTurns p l e s m args below meth c A D cy b0 fu rr := by
  intro fu
  induction fu with
  | zero => exact ⟨(fun _ _ _ _ _ h => by cases h), (fun _ _ _ _ _ _ _ h => by cases h), (fun _ _ _ _ _ _ _ _ _ h => by cases h)⟩
  | succ fu ih =>
    refine ⟨?_, ?_, ?_⟩
    · intro uv x1 H locs ls h hP hD hS hl
      obtain ⟨o1, h1, h2⟩ := lpn_s h
      exact w_X4_layTurns_2 M ih h1 h2 hP hD hS hl
    · intro uv x1 x2 x3 H locs ls h hP hD hS hl
      obtain ⟨o1, h1, h2⟩ := lpn_s h
      exact w_X4_layTurns_12 M ih h1 h2 hP hD hS hl
    · intro uv x1 x2 x3 x4 x5 H locs ls h hP hD hS hl
      obtain ⟨o1, h1, h2⟩ := lpn_s h
      exact w_X4_layTurns_36 M ih h1 h2 hP hD hS hl
theorem c_X4_layTurns {l : Launch} {D : va_G} {cy : Nat → ClassId} (b0 : Nat → Nat) {uv : MS} {rr : MS} (h : f_X4_layTurns uv = some rr) : CV l D cy yX4_layTurns wsX4_layTurns { frames := 1, cells := 0, slots := 0, locals := 21 } [.ref (b0 0)] (wM cy b0 uv []) (wM cy b0 rr []) := by
  refine kofV (cc := cX4_layTurns) (maxL := 7) (ret := none) (by decide) rfl (Nat.le_of_ble_eq_true rfl) ?_
  intro p e s m below meth c A M ls hl hP hD hS
  obtain ⟨o1, fu, h1, h2⟩ := rnx_s h
  exact w_X4_layTurns_0 M (wl_X4_layTurns M fu) h1 h2 hP hD hS hl
theorem eX4_layTurns : yX4_layTurns.cls ≠ "java/lang/invoke/MethodHandle" ∧ yX4_layTurns.cls ≠ "java/lang/invoke/VarHandle" ∧ (parseMethodDescriptor yX4_layTurns.desc).map (fun d => d.parameters.length) = some 0 := by decide +kernel
theorem iX4_money_X4 : ∀ w ∈ u_ws RX4 TX4 21, w ∈ wsX4_money := by decide +kernel
theorem mX4_money_1 : Cond.fieldLink RX4 7 "LentPilesModel" "money" "[I" ∈ wsX4_money := by decide +kernel
set_option maxHeartbeats 4000000 in
set_option maxRecDepth 100000 in
theorem w_X4_money_0 {p : Program} {l : Launch} {e : Env} {s : State} {m : MethodId} {args : Array Value} {below : List Frame} {meth : Method} {c : Code} {A : Nat → Prop} {D : va_G} {cy : Nat → ClassId} {b0 : Nat → Nat} {x1 : Int32} {x2 : Int32} {rr : Int32 × MS} (M : kM p s m args meth c cX4_money 4 (some .int) RX4 wsX4_money A D cy) {uv : MS} (h : f_X4_money uv x1 x2 = some rr) {H : Heap} {locs : List Loc} {ls : Array Slot} (hP : va_P D vwCl (wM cy b0 uv []) H) (hD : va_D A (wM cy b0 uv [])) (hS : va_S A s.heap H locs) (hl : lv_has ls 4 [(0, .ref (b0 0)), (1, .int x1), (2, .int x2)]) : W p l e { frames := 2, cells := 0, slots := 0, locals := 42 } s m args below meth c H locs 0 0 (MQ below (qI D (wM cy b0 rr.2 []) (rr.1) A) args s 0 0 A) (F0 m 0 ls []) := by
  obtain ⟨hx, hb, hr, hml, hown, hts, hlk, hA, hK⟩ := id M
  unfold f_X4_money at h
  refine lv_iload_n hx hb dX4_money_0 rfl (lv_at hl 1 rfl) ?_
  obtain ⟨r_1, hr_1, h⟩ := bn_s h
  refine kcSi (As := [.int x1]) (rest := []) ⟨hx, hb, hml, hown, hts⟩ (va_cwS 1 hts gX4_money_X4_isMan rfl rfl rfl eX4_isMan ⟨Nat.le_of_ble_eq_true rfl, Nat.le_of_ble_eq_true rfl⟩) (c_X4_isMan  hr_1) hK hP hS hA rfl hl.1 rfl (Nat.le_of_ble_eq_true rfl) dX4_money_1 (fun H locs hP hS => ?_)
  refine lv_if_ne (tgt := 9) hx hb dX4_money_4 (by decide) (fun c_2 => ?_) (fun c_2 => ?_)
  · replace h := it_n c_2 h
    refine lv_iload_n hx hb dX4_money_9 rfl (lv_at hl 2 rfl) ?_
    refine lv_iconst (v := 0) hx hb dX4_money_10 (by decide) ?_
    refine lv_sipush (v := 999) hx hb dX4_money_11 (by decide) ?_
    obtain ⟨r_3, hr_3, h⟩ := bn_s h
    refine kcSi (As := [.int x2, .int (0 : Int32), .int (999 : Int32)]) (rest := []) ⟨hx, hb, hml, hown, hts⟩ (va_cwS 3 hts gX4_money_X4_in rfl rfl rfl eX4_in ⟨Nat.le_of_ble_eq_true rfl, Nat.le_of_ble_eq_true rfl⟩) (c_X4_in  hr_3) hK hP hS hA rfl hl.1 rfl (Nat.le_of_ble_eq_true rfl) dX4_money_14 (fun H locs hP hS => ?_)
    refine lv_if_ne (tgt := 23) hx hb dX4_money_17 (by decide) (fun c_4 => ?_) (fun c_4 => ?_)
    · replace h := it_n c_4 h
      refine lv_aload_n hx hb dX4_money_23 rfl (lv_at hl 0 rfl) ?_
      refine va_get (D := D) (ci := 4) (v := .ref (b0 1)) (C := RX4) (T := TX4) (N := 21) hx hb hts iX4_money_X4 hown hK.1 hP 0 rfl rfl 3 (by decide) (hts _ mX4_money_1) (fun _ h9 => h9) rfl dX4_money_24 ?_
      refine lv_iload_n hx hb dX4_money_27 rfl (lv_at hl 1 rfl) ?_
      obtain ⟨b_5, h⟩ := ck_s h
      refine va_iald hx hb hK.1 hP 1 1 rfl rfl b_5 dX4_money_28 ?_
      refine lv_topi (fun x3_6 ex3_6 => ?_)
      replace h := nm_s h ex3_6
      refine lv_istore_n (lv' := [(3, .int x3_6), (0, .ref (b0 0)), (1, .int x1), (2, .int x2)]) hx hb dX4_money_29 rfl hl (by decide) rfl (fun ls hl => ?_)
      refine lv_aload_n hx hb dX4_money_30 rfl (lv_at hl 1 rfl) ?_
      refine va_get (D := D) (ci := 4) (v := .ref (b0 1)) (C := RX4) (T := TX4) (N := 21) hx hb hts iX4_money_X4 hown hK.1 hP 0 rfl rfl 3 (by decide) (hts _ mX4_money_1) (fun _ h9 => h9) rfl dX4_money_31 ?_
      refine lv_iload_n hx hb dX4_money_34 rfl (lv_at hl 2 rfl) ?_
      refine lv_iload_n hx hb dX4_money_35 rfl (lv_at hl 3 rfl) ?_
      refine va_iast hx hb hK.1 hP hD hS 1 1 rfl rfl b_5 dX4_money_36 (fun H locs hP hD hS => ?_)
      obtain ⟨uv_7, euv_7⟩ : ∃ z : MS, z = (uv.1, uv.2.1, uv.2.2.1, (upd uv.2.2.2.1 x1.toNatClampNeg x2), uv.2.2.2.2) := ⟨_, rfl⟩
      replace h := nm_s h euv_7
      have hP : va_P D vwCl (wM cy b0 uv_7 []) H := by subst euv_7; exact hP
      have hD : va_D A (wM cy b0 uv_7 []) := hD.lk [(b0 0), (b0 1), (b0 2), (b0 3), (b0 4), (b0 5), (b0 6), (b0 7), (b0 8), (b0 9), (b0 10), (b0 11), (b0 12), (b0 13)] rfl rfl
      refine lv_iload_n hx hb dX4_money_37 rfl (lv_at hl 0 rfl) ?_
      cases h
      exact kretI hx hb hr hlk hP hS dX4_money_38
    · replace h := it_p c_4 h
      refine lv_bipush (v := (-2)) hx hb dX4_money_20 (by decide) ?_
      cases h
      exact kretI hx hb hr hlk hP hS dX4_money_22
  · replace h := it_p c_2 h
    refine lv_iconst (v := (-1)) hx hb dX4_money_7 (by decide) ?_
    cases h
    exact kretI hx hb hr hlk hP hS dX4_money_8
theorem c_X4_money {l : Launch} {D : va_G} {cy : Nat → ClassId} (b0 : Nat → Nat) {uv : MS} {x1 : Int32} {x2 : Int32} {rr : Int32 × MS} (h : f_X4_money uv x1 x2 = some rr) : CI l D cy yX4_money wsX4_money { frames := 2, cells := 0, slots := 0, locals := 42 } [.ref (b0 0), .int x1, .int x2] (wM cy b0 uv []) (rr.1) (wM cy b0 rr.2 []) := by
  refine kofI (cc := cX4_money) (maxL := 4) (ret := (some .int)) (by decide) rfl (Nat.le_of_ble_eq_true rfl) ?_
  intro p e s m below meth c A M ls hl hP hD hS
  exact w_X4_money_0 M h hP hD hS hl
theorem eX4_money : yX4_money.cls ≠ "java/lang/invoke/MethodHandle" ∧ yX4_money.cls ≠ "java/lang/invoke/VarHandle" ∧ (parseMethodDescriptor yX4_money.desc).map (fun d => d.parameters.length) = some 2 := by decide +kernel
theorem iX4_paidOf_X4 : ∀ w ∈ u_ws RX4 TX4 21, w ∈ wsX4_paidOf := by decide +kernel
theorem mX4_paidOf_1 : Cond.fieldLink RX4 37 "LentPilesModel" "power" "[I" ∈ wsX4_paidOf := by decide +kernel
set_option maxHeartbeats 4000000 in
set_option maxRecDepth 100000 in
theorem w_X4_paidOf_0 {p : Program} {l : Launch} {e : Env} {s : State} {m : MethodId} {args : Array Value} {below : List Frame} {meth : Method} {c : Code} {A : Nat → Prop} {D : va_G} {cy : Nat → ClassId} {b0 : Nat → Nat} {uv : MS} {x1 : Int32} {x2 : Int32} {rr : Int32} (M : kM p s m args meth c cX4_paidOf 3 (some .int) RX4 wsX4_paidOf A D cy)  (h : f_X4_paidOf uv x1 x2 = some rr) {H : Heap} {locs : List Loc} {ls : Array Slot} (hP : va_P D vwCl (wM cy b0 uv []) H) (hD : va_D A (wM cy b0 uv [])) (hS : va_S A s.heap H locs) (hl : lv_has ls 3 [(0, .ref (b0 0)), (1, .int x1), (2, .int x2)]) : W p l e { frames := 0, cells := 0, slots := 0, locals := 0 } s m args below meth c H locs 0 0 (MQ below (qI D (wM cy b0 uv []) (rr) A) args s 0 0 A) (F0 m 0 ls []) := by
  obtain ⟨hx, hb, hr, hml, hown, hts, hlk, hA, hK⟩ := id M
  unfold f_X4_paidOf at h
  refine lv_iload_n hx hb dX4_paidOf_0 rfl (lv_at hl 1 rfl) ?_
  refine lv_aload_n hx hb dX4_paidOf_1 rfl (lv_at hl 0 rfl) ?_
  refine va_get (D := D) (ci := 4) (v := .ref (b0 10)) (C := RX4) (T := TX4) (N := 21) hx hb hts iX4_paidOf_X4 hown hK.1 hP 0 rfl rfl 17 (by decide) (hts _ mX4_paidOf_1) (fun _ h9 => h9) rfl dX4_paidOf_2 ?_
  refine lv_iload_n hx hb dX4_paidOf_5 rfl (lv_at hl 2 rfl) ?_
  obtain ⟨b_1, h⟩ := ck_s h
  refine va_iald hx hb hK.1 hP 10 1 rfl rfl b_1 dX4_paidOf_6 ?_
  obtain ⟨z_2, h⟩ := dz_s h
  refine lv_idiv hx hb dX4_paidOf_7 z_2 ?_
  refine lv_bipush (v := 6) hx hb dX4_paidOf_8 (by decide) ?_
  refine lv_irem hx hb dX4_paidOf_10 (by decide) ?_
  cases h
  exact kretI hx hb hr hlk hP hS dX4_paidOf_11
theorem c_X4_paidOf {l : Launch} {D : va_G} {cy : Nat → ClassId} (b0 : Nat → Nat) {uv : MS} {x1 : Int32} {x2 : Int32} {rr : Int32} (h : f_X4_paidOf uv x1 x2 = some rr) : CI l D cy yX4_paidOf wsX4_paidOf { frames := 0, cells := 0, slots := 0, locals := 0 } [.ref (b0 0), .int x1, .int x2] (wM cy b0 uv []) (rr) (wM cy b0 uv []) := by
  refine kofI (cc := cX4_paidOf) (maxL := 3) (ret := (some .int)) (by decide) rfl (Nat.le_of_ble_eq_true rfl) ?_
  intro p e s m below meth c A M ls hl hP hD hS
  exact w_X4_paidOf_0 M h hP hD hS hl
theorem eX4_paidOf : yX4_paidOf.cls ≠ "java/lang/invoke/MethodHandle" ∧ yX4_paidOf.cls ≠ "java/lang/invoke/VarHandle" ∧ (parseMethodDescriptor yX4_paidOf.desc).map (fun d => d.parameters.length) = some 2 := by decide +kernel
theorem iX4_moneyBy_X4 : ∀ w ∈ u_ws RX4 TX4 21, w ∈ wsX4_moneyBy := by decide +kernel
theorem mX4_moneyBy_1 : Cond.fieldLink RX4 7 "LentPilesModel" "money" "[I" ∈ wsX4_moneyBy := by decide +kernel
theorem mX4_moneyBy_2 : Cond.fieldLink RX4 34 "LentPilesModel" "turn" "[I" ∈ wsX4_moneyBy := by decide +kernel
theorem mX4_moneyBy_3 : Cond.fieldLink RX4 16 "LentPilesModel" "pile" "[I" ∈ wsX4_moneyBy := by decide +kernel
def I_X4_moneyBy (p : Program) (l : Launch) (e : Env) (s : State) (m : MethodId) (args : Array Value) (below : List Frame) (meth : Method) (c : Code) (A : Nat → Prop) (D : va_G) (cy : Nat → ClassId) (b0 : Nat → Nat) (uv : MS) (x1 : Int32) (x2 : Int32) (fu : Nat) (rr : Int32) : Prop := (∀ (x3 : Int32) (x4 : Int32) (H : Heap) (locs : List Loc) (ls : Array Slot), lpn (st_X4_moneyBy uv x1 x2) fu (.inl (x3, x4)) = some rr → va_P D vwCl (wM cy b0 uv []) H → va_D A (wM cy b0 uv []) → va_S A s.heap H locs → lv_has ls 7 [(0, .ref (b0 0)), (1, .int x1), (2, .int x2), (3, .int x3), (4, .int x4)] → W p l e { frames := 1, cells := 0, slots := 0, locals := 22 } s m args below meth c H locs 0 0 (MQ below (qI D (wM cy b0 uv []) (rr) A) args s 0 0 A) (F0 m 10 ls [])) ∧ (∀ (x3 : Int32) (x4 : Int32) (x5 : Int32) (H : Heap) (locs : List Loc) (ls : Array Slot), lpn (st_X4_moneyBy uv x1 x2) fu (.inr (x3, x4, x5)) = some rr → va_P D vwCl (wM cy b0 uv []) H → va_D A (wM cy b0 uv []) → va_S A s.heap H locs → lv_has ls 7 [(0, .ref (b0 0)), (1, .int x1), (2, .int x2), (3, .int x3), (4, .int x4), (5, .int x5)] → W p l e { frames := 1, cells := 0, slots := 0, locals := 22 } s m args below meth c H locs 0 0 (MQ below (qI D (wM cy b0 uv []) (rr) A) args s 0 0 A) (F0 m 20 ls []))
set_option maxHeartbeats 4000000 in
set_option maxRecDepth 100000 in
theorem w_X4_moneyBy_76 {p : Program} {l : Launch} {e : Env} {s : State} {m : MethodId} {args : Array Value} {below : List Frame} {meth : Method} {c : Code} {A : Nat → Prop} {D : va_G} {cy : Nat → ClassId} {b0 : Nat → Nat} {uv : MS} {x1 : Int32} {x2 : Int32} {fu : Nat} {rr : Int32} (M : kM p s m args meth c cX4_moneyBy 7 (some .int) RX4 wsX4_moneyBy A D cy) (ih : I_X4_moneyBy p l e s m args below meth c A D cy b0 uv x1 x2 fu rr) {x4 : Int32} {x5 : Int32} {x6 : Int32} {t0 : Int32} {t1 : Int32} {oo : ((Int32 × Int32) ⊕ (Int32 × Int32 × Int32)) ⊕ (Int32)} (h : f_X4_moneyBy_76 uv x1 x2 x4 x5 x6 t0 t1 = some oo) (hm : lpo (st_X4_moneyBy uv x1 x2) fu oo rr) {H : Heap} {locs : List Loc} {ls : Array Slot} (hP : va_P D vwCl (wM cy b0 uv []) H) (hD : va_D A (wM cy b0 uv [])) (hS : va_S A s.heap H locs) (hl : lv_has ls 7 [(0, .ref (b0 0)), (1, .int x1), (2, .int x2), (4, .int x4), (5, .int x5), (6, .int x6)]) : W p l e { frames := 1, cells := 0, slots := 0, locals := 22 } s m args below meth c H locs 0 0 (MQ below (qI D (wM cy b0 uv []) (rr) A) args s 0 0 A) (F0 m 76 ls [.int t1, .int t0]) := by
  obtain ⟨hx, hb, hr, hml, hown, hts, hlk, hA, hK⟩ := id M
  unfold f_X4_moneyBy_76 at h
  refine lv_iadd hx hb dX4_moneyBy_76 ?_
  refine lv_topi (fun x3_1 ex3_1 => ?_)
  replace h := nm_s h ex3_1
  refine lv_istore_n (lv' := [(3, .int x3_1), (0, .ref (b0 0)), (1, .int x1), (2, .int x2), (4, .int x4), (5, .int x5), (6, .int x6)]) hx hb dX4_moneyBy_77 rfl hl (by decide) rfl (fun ls hl => ?_)
  refine lv_iload_n hx hb dX4_moneyBy_78 rfl (lv_at hl 0 rfl) ?_
  refine lv_iload hx hb dX4_moneyBy_79 (lv_at hl 4 rfl) ?_
  refine lv_iload_n hx hb dX4_moneyBy_81 rfl (lv_at hl 3 rfl) ?_
  refine lv_icmp_ne (tgt := 97) hx hb dX4_moneyBy_82 (by decide) (fun c_2 => ?_) (fun c_2 => ?_)
  · replace h := it_n c_2 h
    refine lv_iconst (v := 0) hx hb dX4_moneyBy_97 (by decide) ?_
    refine lv_isub hx hb dX4_moneyBy_98 ?_
    refine lv_topi (fun x3_3 ex3_3 => ?_)
    replace h := nm_s h ex3_3
    refine lv_istore_n (lv' := [(3, .int x3_3), (0, .ref (b0 0)), (1, .int x1), (2, .int x2), (4, .int x4), (5, .int x5), (6, .int x6)]) hx hb dX4_moneyBy_99 rfl hl (by decide) rfl (fun ls hl => ?_)
    obtain ⟨x5_4, ex5_4⟩ : ∃ z : Int32, z = (x5 + (1 : Int32)) := ⟨_, rfl⟩
    replace h := nm_s h ex5_4
    refine lv_iinc (v := x5_4) (lv' := [(5, .int x5_4), (3, .int x3_3), (0, .ref (b0 0)), (1, .int x1), (2, .int x2), (4, .int x4), (6, .int x6)]) hx hb dX4_moneyBy_100 hl (k := 5) rfl (by rw [ex5_4]; rfl) (by decide) rfl (fun ls hl => ?_)
    refine lv_goto (tgt := 20) hx hb dX4_moneyBy_103 (by decide) ?_
    cases h
    exact ih.2 x3_3 x4 x5_4 _ _ _ hm hP hD hS (lv_sub hl [2, 3, 4, 1, 5, 0] rfl)
  · replace h := it_p c_2 h
    refine lv_aload_n hx hb dX4_moneyBy_85 rfl (lv_at hl 1 rfl) ?_
    refine va_get (D := D) (ci := 4) (v := .ref (b0 3)) (C := RX4) (T := TX4) (N := 21) hx hb hts iX4_moneyBy_X4 hown hK.1 hP 0 rfl rfl 5 (by decide) (hts _ mX4_moneyBy_3) (fun _ h9 => h9) rfl dX4_moneyBy_86 ?_
    refine lv_iload hx hb dX4_moneyBy_89 (lv_at hl 6 rfl) ?_
    refine lv_iconst (v := 1) hx hb dX4_moneyBy_91 (by decide) ?_
    refine lv_iadd hx hb dX4_moneyBy_92 ?_
    obtain ⟨b_5, h⟩ := ck_s h
    refine va_iald hx hb hK.1 hP 3 1 rfl rfl b_5 dX4_moneyBy_93 ?_
    refine lv_goto (tgt := 98) hx hb dX4_moneyBy_94 (by decide) ?_
    refine lv_isub hx hb dX4_moneyBy_98 ?_
    refine lv_topi (fun x3_6 ex3_6 => ?_)
    replace h := nm_s h ex3_6
    refine lv_istore_n (lv' := [(3, .int x3_6), (0, .ref (b0 0)), (1, .int x1), (2, .int x2), (4, .int x4), (5, .int x5), (6, .int x6)]) hx hb dX4_moneyBy_99 rfl hl (by decide) rfl (fun ls hl => ?_)
    obtain ⟨x5_7, ex5_7⟩ : ∃ z : Int32, z = (x5 + (1 : Int32)) := ⟨_, rfl⟩
    replace h := nm_s h ex5_7
    refine lv_iinc (v := x5_7) (lv' := [(5, .int x5_7), (3, .int x3_6), (0, .ref (b0 0)), (1, .int x1), (2, .int x2), (4, .int x4), (6, .int x6)]) hx hb dX4_moneyBy_100 hl (k := 5) rfl (by rw [ex5_7]; rfl) (by decide) rfl (fun ls hl => ?_)
    refine lv_goto (tgt := 20) hx hb dX4_moneyBy_103 (by decide) ?_
    cases h
    exact ih.2 x3_6 x4 x5_7 _ _ _ hm hP hD hS (lv_sub hl [2, 3, 4, 1, 5, 0] rfl)
set_option maxHeartbeats 4000000 in
set_option maxRecDepth 100000 in
theorem w_X4_moneyBy_20 {p : Program} {l : Launch} {e : Env} {s : State} {m : MethodId} {args : Array Value} {below : List Frame} {meth : Method} {c : Code} {A : Nat → Prop} {D : va_G} {cy : Nat → ClassId} {b0 : Nat → Nat} {uv : MS} {x1 : Int32} {x2 : Int32} {fu : Nat} {rr : Int32} (M : kM p s m args meth c cX4_moneyBy 7 (some .int) RX4 wsX4_moneyBy A D cy) (ih : I_X4_moneyBy p l e s m args below meth c A D cy b0 uv x1 x2 fu rr) {x3 : Int32} {x4 : Int32} {x5 : Int32} {oo : ((Int32 × Int32) ⊕ (Int32 × Int32 × Int32)) ⊕ (Int32)} (h : f_X4_moneyBy_20 uv x1 x2 x3 x4 x5 = some oo) (hm : lpo (st_X4_moneyBy uv x1 x2) fu oo rr) {H : Heap} {locs : List Loc} {ls : Array Slot} (hP : va_P D vwCl (wM cy b0 uv []) H) (hD : va_D A (wM cy b0 uv [])) (hS : va_S A s.heap H locs) (hl : lv_has ls 7 [(0, .ref (b0 0)), (1, .int x1), (2, .int x2), (3, .int x3), (4, .int x4), (5, .int x5)]) : W p l e { frames := 1, cells := 0, slots := 0, locals := 22 } s m args below meth c H locs 0 0 (MQ below (qI D (wM cy b0 uv []) (rr) A) args s 0 0 A) (F0 m 20 ls []) := by
  obtain ⟨hx, hb, hr, hml, hown, hts, hlk, hA, hK⟩ := id M
  unfold f_X4_moneyBy_20 at h
  refine lv_iload hx hb dX4_moneyBy_20 (lv_at hl 5 rfl) ?_
  refine lv_aload_n hx hb dX4_moneyBy_22 rfl (lv_at hl 0 rfl) ?_
  refine lv_iload_n hx hb dX4_moneyBy_23 rfl (lv_at hl 1 rfl) ?_
  refine lv_iload hx hb dX4_moneyBy_24 (lv_at hl 4 rfl) ?_
  obtain ⟨r_1, hr_1, h⟩ := bn_s h
  refine kcVi (As := [.int x1, .int x4]) (rest := [.int x5]) (ws' := (wM cy b0 uv [])) ⟨hx, hb, hml, hown, hts⟩ (cwV 2 hts gX4_moneyBy_X4_paidOf rfl rfl rfl ⟨rfl, eX4_paidOf⟩ ⟨Nat.le_of_ble_eq_true rfl, Nat.le_of_ble_eq_true rfl⟩) (c_X4_paidOf b0 hr_1) hK hP hD hS hA [0, 1, 2, 3, 4, 5, 6, 7, 8, 9, 10, 11, 12, 13] [] (by decide) rfl rfl 4 rfl rfl [(b0 0), (b0 1), (b0 2), (b0 3), (b0 4), (b0 5), (b0 6), (b0 7), (b0 8), (b0 9), (b0 10), (b0 11), (b0 12), (b0 13)] rfl rfl rfl [] rfl rfl rfl rfl hl.1 rfl (Nat.le_of_ble_eq_true rfl) dX4_moneyBy_26 (fun H locs hP hD hS => ?_)
  refine lv_icmp_ge (tgt := 106) hx hb dX4_moneyBy_29 (by decide) (fun c_2 => ?_) (fun c_2 => ?_)
  · replace h := it_p c_2 h
    obtain ⟨x4_3, ex4_3⟩ : ∃ z : Int32, z = (x4 + (1 : Int32)) := ⟨_, rfl⟩
    replace h := nm_s h ex4_3
    refine lv_iinc (v := x4_3) (lv' := [(4, .int x4_3), (0, .ref (b0 0)), (1, .int x1), (2, .int x2), (3, .int x3), (5, .int x5)]) hx hb dX4_moneyBy_106 hl (k := 4) rfl (by rw [ex4_3]; rfl) (by decide) rfl (fun ls hl => ?_)
    refine lv_goto (tgt := 10) hx hb dX4_moneyBy_109 (by decide) ?_
    cases h
    exact ih.1 x3 x4_3 _ _ _ hm hP hD hS (lv_sub hl [1, 2, 3, 4, 0] rfl)
  · replace h := it_n c_2 h
    refine lv_iload hx hb dX4_moneyBy_32 (lv_at hl 4 rfl) ?_
    refine lv_aload_n hx hb dX4_moneyBy_34 rfl (lv_at hl 0 rfl) ?_
    refine va_get (D := D) (ci := 4) (v := .ref (b0 9)) (C := RX4) (T := TX4) (N := 21) hx hb hts iX4_moneyBy_X4 hown hK.1 hP 0 rfl rfl 16 (by decide) (hts _ mX4_moneyBy_2) (fun _ h9 => h9) rfl dX4_moneyBy_35 ?_
    refine lv_iconst (v := 5) hx hb dX4_moneyBy_38 (by decide) ?_
    refine lv_iload hx hb dX4_moneyBy_39 (lv_at hl 4 rfl) ?_
    refine lv_imul hx hb dX4_moneyBy_41 ?_
    refine lv_iload hx hb dX4_moneyBy_42 (lv_at hl 5 rfl) ?_
    refine lv_iadd hx hb dX4_moneyBy_44 ?_
    obtain ⟨b_4, h⟩ := ck_s h
    refine va_iald hx hb hK.1 hP 9 1 rfl rfl b_4 dX4_moneyBy_45 ?_
    obtain ⟨r_5, hr_5, h⟩ := bn_s h
    refine kcSi (As := [.int x4, .int (uv.2.2.2.2.2.2.2.2.2.2.2.2.2.2.2.2.1 (((5 : Int32) * x4) + x5).toNatClampNeg)]) (rest := []) ⟨hx, hb, hml, hown, hts⟩ (va_cwS 2 hts gX4_moneyBy_X4_at rfl rfl rfl eX4_at ⟨Nat.le_of_ble_eq_true rfl, Nat.le_of_ble_eq_true rfl⟩) (c_X4_at  hr_5) hK hP hS hA rfl hl.1 rfl (Nat.le_of_ble_eq_true rfl) dX4_moneyBy_46 (fun H locs hP hS => ?_)
    refine lv_istore (lv' := [(6, .int r_5), (0, .ref (b0 0)), (1, .int x1), (2, .int x2), (3, .int x3), (4, .int x4), (5, .int x5)]) hx hb dX4_moneyBy_49 hl (by decide) rfl (fun ls hl => ?_)
    refine lv_iload_n hx hb dX4_moneyBy_51 rfl (lv_at hl 4 rfl) ?_
    refine lv_aload_n hx hb dX4_moneyBy_52 rfl (lv_at hl 1 rfl) ?_
    refine va_get (D := D) (ci := 4) (v := .ref (b0 3)) (C := RX4) (T := TX4) (N := 21) hx hb hts iX4_moneyBy_X4 hown hK.1 hP 0 rfl rfl 5 (by decide) (hts _ mX4_moneyBy_3) (fun _ h9 => h9) rfl dX4_moneyBy_53 ?_
    refine lv_iload hx hb dX4_moneyBy_56 (lv_at hl 0 rfl) ?_
    obtain ⟨b_6, h⟩ := ck_s h
    refine va_iald hx hb hK.1 hP 3 1 rfl rfl b_6 dX4_moneyBy_58 ?_
    refine lv_iload_n hx hb dX4_moneyBy_59 rfl (lv_at hl 3 rfl) ?_
    refine lv_icmp_ne (tgt := 75) hx hb dX4_moneyBy_60 (by decide) (fun c_7 => ?_) (fun c_7 => ?_)
    · replace h := it_n c_7 h
      refine lv_iconst (v := 0) hx hb dX4_moneyBy_75 (by decide) ?_
      exact w_X4_moneyBy_76 M ih h hm hP hD hS (lv_sub hl [1, 2, 3, 5, 6, 0] rfl)
    · replace h := it_p c_7 h
      refine lv_aload_n hx hb dX4_moneyBy_63 rfl (lv_at hl 1 rfl) ?_
      refine va_get (D := D) (ci := 4) (v := .ref (b0 3)) (C := RX4) (T := TX4) (N := 21) hx hb hts iX4_moneyBy_X4 hown hK.1 hP 0 rfl rfl 5 (by decide) (hts _ mX4_moneyBy_3) (fun _ h9 => h9) rfl dX4_moneyBy_64 ?_
      refine lv_iload hx hb dX4_moneyBy_67 (lv_at hl 0 rfl) ?_
      refine lv_iconst (v := 1) hx hb dX4_moneyBy_69 (by decide) ?_
      refine lv_iadd hx hb dX4_moneyBy_70 ?_
      obtain ⟨b_8, h⟩ := ck_s h
      refine va_iald hx hb hK.1 hP 3 1 rfl rfl b_8 dX4_moneyBy_71 ?_
      refine lv_goto (tgt := 76) hx hb dX4_moneyBy_72 (by decide) ?_
      exact w_X4_moneyBy_76 M ih h hm hP hD hS (lv_sub hl [1, 2, 3, 5, 6, 0] rfl)
set_option maxHeartbeats 4000000 in
set_option maxRecDepth 100000 in
theorem w_X4_moneyBy_10 {p : Program} {l : Launch} {e : Env} {s : State} {m : MethodId} {args : Array Value} {below : List Frame} {meth : Method} {c : Code} {A : Nat → Prop} {D : va_G} {cy : Nat → ClassId} {b0 : Nat → Nat} {uv : MS} {x1 : Int32} {x2 : Int32} {fu : Nat} {rr : Int32} (M : kM p s m args meth c cX4_moneyBy 7 (some .int) RX4 wsX4_moneyBy A D cy) (ih : I_X4_moneyBy p l e s m args below meth c A D cy b0 uv x1 x2 fu rr) {x3 : Int32} {x4 : Int32} {oo : ((Int32 × Int32) ⊕ (Int32 × Int32 × Int32)) ⊕ (Int32)} (h : f_X4_moneyBy_10 uv x1 x2 x3 x4 = some oo) (hm : lpo (st_X4_moneyBy uv x1 x2) fu oo rr) {H : Heap} {locs : List Loc} {ls : Array Slot} (hP : va_P D vwCl (wM cy b0 uv []) H) (hD : va_D A (wM cy b0 uv [])) (hS : va_S A s.heap H locs) (hl : lv_has ls 7 [(0, .ref (b0 0)), (1, .int x1), (2, .int x2), (3, .int x3), (4, .int x4)]) : W p l e { frames := 1, cells := 0, slots := 0, locals := 22 } s m args below meth c H locs 0 0 (MQ below (qI D (wM cy b0 uv []) (rr) A) args s 0 0 A) (F0 m 10 ls []) := by
  obtain ⟨hx, hb, hr, hml, hown, hts, hlk, hA, hK⟩ := id M
  unfold f_X4_moneyBy_10 at h
  refine lv_iload hx hb dX4_moneyBy_10 (lv_at hl 4 rfl) ?_
  refine lv_bipush (v := 6) hx hb dX4_moneyBy_12 (by decide) ?_
  refine lv_icmp_ge (tgt := 112) hx hb dX4_moneyBy_14 (by decide) (fun c_1 => ?_) (fun c_1 => ?_)
  · replace h := it_p c_1 h
    refine lv_iload_n hx hb dX4_moneyBy_112 rfl (lv_at hl 3 rfl) ?_
    cases h
    have hm : _ = rr := hm
    subst hm
    exact kretI hx hb hr hlk hP hS dX4_moneyBy_113
  · replace h := it_n c_1 h
    refine lv_iconst (v := 0) hx hb dX4_moneyBy_17 (by decide) ?_
    refine lv_istore (lv' := [(5, .int (0 : Int32)), (0, .ref (b0 0)), (1, .int x1), (2, .int x2), (3, .int x3), (4, .int x4)]) hx hb dX4_moneyBy_18 hl (by decide) rfl (fun ls hl => ?_)
    cases h
    exact ih.2 x3 x4 (0 : Int32) _ _ _ hm hP hD hS (lv_sub hl [1, 2, 3, 4, 5, 0] rfl)
set_option maxHeartbeats 4000000 in
set_option maxRecDepth 100000 in
theorem w_X4_moneyBy_0 {p : Program} {l : Launch} {e : Env} {s : State} {m : MethodId} {args : Array Value} {below : List Frame} {meth : Method} {c : Code} {A : Nat → Prop} {D : va_G} {cy : Nat → ClassId} {b0 : Nat → Nat} {uv : MS} {x1 : Int32} {x2 : Int32} {fu : Nat} {rr : Int32} (M : kM p s m args meth c cX4_moneyBy 7 (some .int) RX4 wsX4_moneyBy A D cy) (ih : I_X4_moneyBy p l e s m args below meth c A D cy b0 uv x1 x2 fu rr)  {oo : ((Int32 × Int32) ⊕ (Int32 × Int32 × Int32)) ⊕ (Int32)} (h : f_X4_moneyBy_0 uv x1 x2 = some oo) (hm : lpo (st_X4_moneyBy uv x1 x2) fu oo rr) {H : Heap} {locs : List Loc} {ls : Array Slot} (hP : va_P D vwCl (wM cy b0 uv []) H) (hD : va_D A (wM cy b0 uv [])) (hS : va_S A s.heap H locs) (hl : lv_has ls 7 [(0, .ref (b0 0)), (1, .int x1), (2, .int x2)]) : W p l e { frames := 1, cells := 0, slots := 0, locals := 22 } s m args below meth c H locs 0 0 (MQ below (qI D (wM cy b0 uv []) (rr) A) args s 0 0 A) (F0 m 0 ls []) := by
  obtain ⟨hx, hb, hr, hml, hown, hts, hlk, hA, hK⟩ := id M
  unfold f_X4_moneyBy_0 at h
  refine lv_aload_n hx hb dX4_moneyBy_0 rfl (lv_at hl 0 rfl) ?_
  refine va_get (D := D) (ci := 4) (v := .ref (b0 1)) (C := RX4) (T := TX4) (N := 21) hx hb hts iX4_moneyBy_X4 hown hK.1 hP 0 rfl rfl 3 (by decide) (hts _ mX4_moneyBy_1) (fun _ h9 => h9) rfl dX4_moneyBy_1 ?_
  refine lv_iload_n hx hb dX4_moneyBy_4 rfl (lv_at hl 2 rfl) ?_
  obtain ⟨b_1, h⟩ := ck_s h
  refine va_iald hx hb hK.1 hP 1 1 rfl rfl b_1 dX4_moneyBy_5 ?_
  refine lv_topi (fun x3_2 ex3_2 => ?_)
  replace h := nm_s h ex3_2
  refine lv_istore_n (lv' := [(3, .int x3_2), (0, .ref (b0 0)), (1, .int x1), (2, .int x2)]) hx hb dX4_moneyBy_6 rfl hl (by decide) rfl (fun ls hl => ?_)
  refine lv_iconst (v := 0) hx hb dX4_moneyBy_7 (by decide) ?_
  refine lv_istore (lv' := [(4, .int (0 : Int32)), (3, .int x3_2), (0, .ref (b0 0)), (1, .int x1), (2, .int x2)]) hx hb dX4_moneyBy_8 hl (by decide) rfl (fun ls hl => ?_)
  cases h
  exact ih.1 x3_2 (0 : Int32) _ _ _ hm hP hD hS (lv_sub hl [2, 3, 4, 1, 0] rfl)
theorem wl_X4_moneyBy {p : Program} {l : Launch} {e : Env} {s : State} {m : MethodId} {args : Array Value} {below : List Frame} {meth : Method} {c : Code} {A : Nat → Prop} {D : va_G} {cy : Nat → ClassId} {b0 : Nat → Nat} {uv : MS} {x1 : Int32} {x2 : Int32} {rr : Int32} (M : kM p s m args meth c cX4_moneyBy 7 (some .int) RX4 wsX4_moneyBy A D cy) : ∀ fu : Nat, I_X4_moneyBy p l e s m args below meth c A D cy b0 uv x1 x2 fu rr := by
  intro fu
  induction fu with
  | zero => exact ⟨(fun _ _ _ _ _ h => by cases h), (fun _ _ _ _ _ _ h => by cases h)⟩
  | succ fu ih =>
    refine ⟨?_, ?_⟩
    · intro x3 x4 H locs ls h hP hD hS hl
      obtain ⟨o1, h1, h2⟩ := lpn_s h
      exact w_X4_moneyBy_10 M ih h1 h2 hP hD hS hl
    · intro x3 x4 x5 H locs ls h hP hD hS hl
      obtain ⟨o1, h1, h2⟩ := lpn_s h
      exact w_X4_moneyBy_20 M ih h1 h2 hP hD hS hl
theorem c_X4_moneyBy {l : Launch} {D : va_G} {cy : Nat → ClassId} (b0 : Nat → Nat) {uv : MS} {x1 : Int32} {x2 : Int32} {rr : Int32} (h : f_X4_moneyBy uv x1 x2 = some rr) : CI l D cy yX4_moneyBy wsX4_moneyBy { frames := 1, cells := 0, slots := 0, locals := 22 } [.ref (b0 0), .int x1, .int x2] (wM cy b0 uv []) (rr) (wM cy b0 uv []) := by
  refine kofI (cc := cX4_moneyBy) (maxL := 7) (ret := (some .int)) (by decide) rfl (Nat.le_of_ble_eq_true rfl) ?_
  intro p e s m below meth c A M ls hl hP hD hS
  obtain ⟨o1, fu, h1, h2⟩ := rnx_s h
  exact w_X4_moneyBy_0 M (wl_X4_moneyBy M fu) h1 h2 hP hD hS hl
theorem eX4_moneyBy : yX4_moneyBy.cls ≠ "java/lang/invoke/MethodHandle" ∧ yX4_moneyBy.cls ≠ "java/lang/invoke/VarHandle" ∧ (parseMethodDescriptor yX4_moneyBy.desc).map (fun d => d.parameters.length) = some 2 := by decide +kernel
def I_X4_times (p : Program) (l : Launch) (e : Env) (s : State) (m : MethodId) (args : Array Value) (below : List Frame) (meth : Method) (c : Code) (A : Nat → Prop) (D : va_G) (cy : Nat → ClassId) (x0 : Int64) (x2 : Int32) (fu : Nat) (rr : Int64) : Prop := (∀ (x3 : Int64) (x5 : Int32) (H : Heap) (locs : List Loc) (ls : Array Slot), lpn (st_X4_times x0 x2) fu (x3, x5) = some rr → va_P D vwCl [] H → va_D A [] → va_S A s.heap H locs → lv_has ls 6 [(0, .long x0), (2, .int x2), (3, .long x3), (5, .int x5)] → W p l e { frames := 0, cells := 0, slots := 0, locals := 0 } s m args below meth c H locs 0 0 (MQ below (qL D [] (rr) A) args s 0 0 A) (F0 m 5 ls []))
set_option maxHeartbeats 4000000 in
set_option maxRecDepth 100000 in
theorem w_X4_times_5 {p : Program} {l : Launch} {e : Env} {s : State} {m : MethodId} {args : Array Value} {below : List Frame} {meth : Method} {c : Code} {A : Nat → Prop} {D : va_G} {cy : Nat → ClassId} {x0 : Int64} {x2 : Int32} {fu : Nat} {rr : Int64} (M : kM p s m args meth c cX4_times 6 (some .long) RX4 wsX4_times A D cy) (ih : I_X4_times p l e s m args below meth c A D cy x0 x2 fu rr) {x3 : Int64} {x5 : Int32} {oo : (Int64 × Int32) ⊕ (Int64)} (h : f_X4_times_5 x0 x2 x3 x5 = some oo) (hm : lpo (st_X4_times x0 x2) fu oo rr) {H : Heap} {locs : List Loc} {ls : Array Slot} (hP : va_P D vwCl [] H) (hD : va_D A []) (hS : va_S A s.heap H locs) (hl : lv_has ls 6 [(0, .long x0), (2, .int x2), (3, .long x3), (5, .int x5)]) : W p l e { frames := 0, cells := 0, slots := 0, locals := 0 } s m args below meth c H locs 0 0 (MQ below (qL D [] (rr) A) args s 0 0 A) (F0 m 5 ls []) := by
  obtain ⟨hx, hb, hr, hml, hown, hts, hlk, hA, hK⟩ := id M
  unfold f_X4_times_5 at h
  refine lv_iload hx hb dX4_times_5 (lv_at hl 3 rfl) ?_
  refine lv_iload_n hx hb dX4_times_7 rfl (lv_at hl 1 rfl) ?_
  refine lv_icmp_ge (tgt := 21) hx hb dX4_times_8 (by decide) (fun c_1 => ?_) (fun c_1 => ?_)
  · replace h := it_p c_1 h
    refine lv_lload_n hx hb dX4_times_21 rfl (lv_at hl 2 rfl) ?_
    cases h
    have hm : _ = rr := hm
    subst hm
    exact kretL hx hb hr hlk hP hS dX4_times_22
  · replace h := it_n c_1 h
    refine lv_lload_n hx hb dX4_times_11 rfl (lv_at hl 2 rfl) ?_
    refine lv_lload_n hx hb dX4_times_12 rfl (lv_at hl 0 rfl) ?_
    refine lv_lmul hx hb dX4_times_13 ?_
    refine lv_topl (fun x3_2 ex3_2 => ?_)
    replace h := nm_s h ex3_2
    refine lv_lstore_n (lv' := [(3, .long x3_2), (0, .long x0), (2, .int x2), (5, .int x5)]) hx hb dX4_times_14 rfl hl (by decide) rfl (fun ls hl => ?_)
    obtain ⟨x5_3, ex5_3⟩ : ∃ z : Int32, z = (x5 + (1 : Int32)) := ⟨_, rfl⟩
    replace h := nm_s h ex5_3
    refine lv_iinc (v := x5_3) (lv' := [(5, .int x5_3), (3, .long x3_2), (0, .long x0), (2, .int x2)]) hx hb dX4_times_15 hl (k := 3) rfl (by rw [ex5_3]; rfl) (by decide) rfl (fun ls hl => ?_)
    refine lv_goto (tgt := 5) hx hb dX4_times_18 (by decide) ?_
    cases h
    exact ih x3_2 x5_3 _ _ _ hm hP hD hS (lv_sub hl [2, 3, 1, 0] rfl)
set_option maxHeartbeats 4000000 in
set_option maxRecDepth 100000 in
theorem w_X4_times_0 {p : Program} {l : Launch} {e : Env} {s : State} {m : MethodId} {args : Array Value} {below : List Frame} {meth : Method} {c : Code} {A : Nat → Prop} {D : va_G} {cy : Nat → ClassId} {x0 : Int64} {x2 : Int32} {fu : Nat} {rr : Int64} (M : kM p s m args meth c cX4_times 6 (some .long) RX4 wsX4_times A D cy) (ih : I_X4_times p l e s m args below meth c A D cy x0 x2 fu rr)  {oo : (Int64 × Int32) ⊕ (Int64)} (h : f_X4_times_0 x0 x2 = some oo) (hm : lpo (st_X4_times x0 x2) fu oo rr) {H : Heap} {locs : List Loc} {ls : Array Slot} (hP : va_P D vwCl [] H) (hD : va_D A []) (hS : va_S A s.heap H locs) (hl : lv_has ls 6 [(0, .long x0), (2, .int x2)]) : W p l e { frames := 0, cells := 0, slots := 0, locals := 0 } s m args below meth c H locs 0 0 (MQ below (qL D [] (rr) A) args s 0 0 A) (F0 m 0 ls []) := by
  obtain ⟨hx, hb, hr, hml, hown, hts, hlk, hA, hK⟩ := id M
  unfold f_X4_times_0 at h
  refine lv_lconst (v := 1) hx hb dX4_times_0 (by decide) ?_
  refine lv_lstore_n (lv' := [(3, .long (1 : Int64)), (0, .long x0), (2, .int x2)]) hx hb dX4_times_1 rfl hl (by decide) rfl (fun ls hl => ?_)
  refine lv_iconst (v := 0) hx hb dX4_times_2 (by decide) ?_
  refine lv_istore (lv' := [(5, .int (0 : Int32)), (3, .long (1 : Int64)), (0, .long x0), (2, .int x2)]) hx hb dX4_times_3 hl (by decide) rfl (fun ls hl => ?_)
  cases h
  exact ih (1 : Int64) (0 : Int32) _ _ _ hm hP hD hS (lv_sub hl [2, 3, 1, 0] rfl)
theorem wl_X4_times {p : Program} {l : Launch} {e : Env} {s : State} {m : MethodId} {args : Array Value} {below : List Frame} {meth : Method} {c : Code} {A : Nat → Prop} {D : va_G} {cy : Nat → ClassId} {x0 : Int64} {x2 : Int32} {rr : Int64} (M : kM p s m args meth c cX4_times 6 (some .long) RX4 wsX4_times A D cy) : ∀ fu : Nat, I_X4_times p l e s m args below meth c A D cy x0 x2 fu rr := by
  intro fu
  induction fu with
  | zero => exact (fun _ _ _ _ _ h => by cases h)
  | succ fu ih =>
    exact fun x3 x5 H locs ls h hP hD hS hl => by
      obtain ⟨o1, h1, h2⟩ := lpn_s h
      exact w_X4_times_5 M ih h1 h2 hP hD hS hl
theorem c_X4_times {l : Launch} {D : va_G} {cy : Nat → ClassId}  {x0 : Int64} {x2 : Int32} {rr : Int64} (h : f_X4_times x0 x2 = some rr) : CL l D cy yX4_times wsX4_times { frames := 0, cells := 0, slots := 0, locals := 0 } [.long x0, .int x2] [] (rr) [] := by
  refine kofL (cc := cX4_times) (maxL := 6) (ret := (some .long)) (by decide) rfl (Nat.le_of_ble_eq_true rfl) ?_
  intro p e s m below meth c A M ls hl hP hD hS
  obtain ⟨o1, fu, h1, h2⟩ := rnx_s h
  exact w_X4_times_0 M (wl_X4_times M fu) h1 h2 hP hD hS hl
theorem eX4_times : yX4_times.cls ≠ "java/lang/invoke/MethodHandle" ∧ yX4_times.cls ≠ "java/lang/invoke/VarHandle" ∧ (parseMethodDescriptor yX4_times.desc).map (fun d => d.parameters.length) = some 2 := by decide +kernel
theorem iX4_odds_X4 : ∀ w ∈ u_ws RX4 TX4 21, w ∈ wsX4_odds := by decide +kernel
theorem mX4_odds_1 : Cond.constantLong RX4 162 (-1000000000000000002) ∈ wsX4_odds := by decide +kernel
theorem mX4_odds_2 : Cond.fieldLink RX4 13 "LentPilesModel" "size" "[I" ∈ wsX4_odds := by decide +kernel
theorem mX4_odds_3 : Cond.constantLong RX4 164 (-1000000000000000003) ∈ wsX4_odds := by decide +kernel
theorem mX4_odds_4 : Cond.constantLong RX4 160 (-1000000000000000001) ∈ wsX4_odds := by decide +kernel
theorem mX4_odds_5 : Cond.constantLong RX4 174 (10) ∈ wsX4_odds := by decide +kernel
theorem mX4_odds_6 : Cond.fieldLink RX4 7 "LentPilesModel" "money" "[I" ∈ wsX4_odds := by decide +kernel
def I_X4_odds (p : Program) (l : Launch) (e : Env) (s : State) (m : MethodId) (args : Array Value) (below : List Frame) (meth : Method) (c : Code) (A : Nat → Prop) (D : va_G) (cy : Nat → ClassId) (b0 : Nat → Nat) (x1 : Int32) (x2 : Int32) (x3 : Int32) (x4 : Int32) (x5 : Int32) (fu : Nat) (rr : Int64 × MS) : Prop := (∀ (uv : MS) (x6 : Int32) (H : Heap) (locs : List Loc) (ls : Array Slot), lpn (st_X4_odds x1 x2 x3 x4 x5) fu (.inl (uv, x6)) = some rr → va_P D vwCl (wM cy b0 uv []) H → va_D A (wM cy b0 uv []) → va_S A s.heap H locs → lv_has ls 15 [(0, .ref (b0 0)), (1, .int x1), (2, .int x2), (3, .int x3), (4, .int x4), (5, .int x5), (6, .int x6)] → W p l e { frames := 3, cells := 0, slots := 0, locals := 67 } s m args below meth c H locs 0 0 (MQ below (qL D (wM cy b0 rr.2 []) (rr.1) A) args s 0 0 A) (F0 m 76 ls [])) ∧ (∀ (uv : MS) (x6 : Int32) (x7 : Int64) (x9 : Int32) (H : Heap) (locs : List Loc) (ls : Array Slot), lpn (st_X4_odds x1 x2 x3 x4 x5) fu (.inr (.inl (uv, x6, x7, x9))) = some rr → va_P D vwCl (wM cy b0 uv []) H → va_D A (wM cy b0 uv []) → va_S A s.heap H locs → lv_has ls 15 [(0, .ref (b0 0)), (1, .int x1), (2, .int x2), (3, .int x3), (4, .int x4), (5, .int x5), (6, .int x6), (7, .long x7), (9, .int x9)] → W p l e { frames := 3, cells := 0, slots := 0, locals := 67 } s m args below meth c H locs 0 0 (MQ below (qL D (wM cy b0 rr.2 []) (rr.1) A) args s 0 0 A) (F0 m 105 ls [])) ∧ (∀ (uv : MS) (x7 : Int64) (x9 : Int64) (x11 : Int64) (H : Heap) (locs : List Loc) (ls : Array Slot), lpn (st_X4_odds x1 x2 x3 x4 x5) fu (.inr (.inr (uv, x7, x9, x11))) = some rr → va_P D vwCl (wM cy b0 uv []) H → va_D A (wM cy b0 uv []) → va_S A s.heap H locs → lv_has ls 15 [(0, .ref (b0 0)), (1, .int x1), (2, .int x2), (3, .int x3), (4, .int x4), (5, .int x5), (7, .long x7), (9, .long x9), (11, .long x11)] → W p l e { frames := 3, cells := 0, slots := 0, locals := 67 } s m args below meth c H locs 0 0 (MQ below (qL D (wM cy b0 rr.2 []) (rr.1) A) args s 0 0 A) (F0 m 184 ls []))
set_option maxHeartbeats 4000000 in
set_option maxRecDepth 100000 in
theorem w_X4_odds_184 {p : Program} {l : Launch} {e : Env} {s : State} {m : MethodId} {args : Array Value} {below : List Frame} {meth : Method} {c : Code} {A : Nat → Prop} {D : va_G} {cy : Nat → ClassId} {b0 : Nat → Nat} {x1 : Int32} {x2 : Int32} {x3 : Int32} {x4 : Int32} {x5 : Int32} {fu : Nat} {rr : Int64 × MS} (M : kM p s m args meth c cX4_odds 15 (some .long) RX4 wsX4_odds A D cy) (ih : I_X4_odds p l e s m args below meth c A D cy b0 x1 x2 x3 x4 x5 fu rr) {uv : MS} {x7 : Int64} {x9 : Int64} {x11 : Int64} {oo : ((MS × Int32) ⊕ (MS × Int32 × Int64 × Int32) ⊕ (MS × Int64 × Int64 × Int64)) ⊕ (Int64 × MS)} (h : f_X4_odds_184 x1 x2 x3 x4 x5 uv x7 x9 x11 = some oo) (hm : lpo (st_X4_odds x1 x2 x3 x4 x5) fu oo rr) {H : Heap} {locs : List Loc} {ls : Array Slot} (hP : va_P D vwCl (wM cy b0 uv []) H) (hD : va_D A (wM cy b0 uv [])) (hS : va_S A s.heap H locs) (hl : lv_has ls 15 [(0, .ref (b0 0)), (1, .int x1), (2, .int x2), (3, .int x3), (4, .int x4), (5, .int x5), (7, .long x7), (9, .long x9), (11, .long x11)]) : W p l e { frames := 3, cells := 0, slots := 0, locals := 67 } s m args below meth c H locs 0 0 (MQ below (qL D (wM cy b0 rr.2 []) (rr.1) A) args s 0 0 A) (F0 m 184 ls []) := by
  obtain ⟨hx, hb, hr, hml, hown, hts, hlk, hA, hK⟩ := id M
  unfold f_X4_odds_184 at h
  refine lv_lload hx hb dX4_odds_184 (lv_at hl 8 rfl) ?_
  refine lv_lconst (v := 0) hx hb dX4_odds_186 (by decide) ?_
  refine W.lcmp hx hb dX4_odds_187 ?_
  refine lv_if_eq (tgt := 209) hx hb dX4_odds_188 (by decide) (fun c_1 => ?_) (fun c_1 => ?_)
  · replace h := it_p c_1 h
    refine lv_iload hx hb dX4_odds_209 (lv_at hl 5 rfl) ?_
    refine lv_if_ne (tgt := 222) hx hb dX4_odds_211 (by decide) (fun c_2 => ?_) (fun c_2 => ?_)
    · replace h := it_n c_2 h
      refine lv_ldc2 (v := (10)) hx hb hown (hts _ mX4_odds_5) dX4_odds_222 ?_
      refine lv_iload_n hx hb dX4_odds_225 rfl (lv_at hl 3 rfl) ?_
      obtain ⟨r_3, hr_3, h⟩ := bn_s h
      refine kcSl (As := [.long (10 : Int64), .int x3]) (rest := []) ⟨hx, hb, hml, hown, hts⟩ (va_cwS 2 hts gX4_odds_X4_times rfl rfl rfl eX4_times ⟨Nat.le_of_ble_eq_true rfl, Nat.le_of_ble_eq_true rfl⟩) (c_X4_times  hr_3) hK hP hS hA rfl hl.1 rfl (Nat.le_of_ble_eq_true rfl) dX4_odds_226 (fun H locs hP hS => ?_)
      refine lv_lload hx hb dX4_odds_229 (lv_at hl 7 rfl) ?_
      obtain ⟨z_4, h⟩ := dzl_s h
      refine lv_ldiv hx hb dX4_odds_231 z_4 ?_
      cases h
      have hm : _ = rr := hm
      subst hm
      exact kretL hx hb hr hlk hP hS dX4_odds_232
    · replace h := it_p c_2 h
      refine lv_lload hx hb dX4_odds_214 (lv_at hl 6 rfl) ?_
      refine lv_lload hx hb dX4_odds_216 (lv_at hl 7 rfl) ?_
      obtain ⟨z_5, h⟩ := dzl_s h
      refine lv_ldiv hx hb dX4_odds_218 z_5 ?_
      refine lv_goto (tgt := 232) hx hb dX4_odds_219 (by decide) ?_
      cases h
      have hm : _ = rr := hm
      subst hm
      exact kretL hx hb hr hlk hP hS dX4_odds_232
  · replace h := it_n c_1 h
    refine lv_lload hx hb dX4_odds_191 (lv_at hl 7 rfl) ?_
    refine lv_lload hx hb dX4_odds_193 (lv_at hl 8 rfl) ?_
    obtain ⟨z_6, h⟩ := dzl_s h
    refine lv_lrem hx hb dX4_odds_195 z_6 ?_
    refine lv_topl (fun x13_7 ex13_7 => ?_)
    replace h := nm_s h ex13_7
    refine lv_lstore (lv' := [(13, .long x13_7), (0, .ref (b0 0)), (1, .int x1), (2, .int x2), (3, .int x3), (4, .int x4), (5, .int x5), (7, .long x7), (9, .long x9), (11, .long x11)]) hx hb dX4_odds_196 hl (by decide) rfl (fun ls hl => ?_)
    refine lv_lload hx hb dX4_odds_198 (lv_at hl 9 rfl) ?_
    refine lv_lstore (lv' := [(9, .long x11), (13, .long x13_7), (0, .ref (b0 0)), (1, .int x1), (2, .int x2), (3, .int x3), (4, .int x4), (5, .int x5), (7, .long x7), (11, .long x11)]) hx hb dX4_odds_200 hl (by decide) rfl (fun ls hl => ?_)
    refine lv_lload hx hb dX4_odds_202 (lv_at hl 1 rfl) ?_
    refine lv_lstore (lv' := [(11, .long x13_7), (9, .long x11), (13, .long x13_7), (0, .ref (b0 0)), (1, .int x1), (2, .int x2), (3, .int x3), (4, .int x4), (5, .int x5), (7, .long x7)]) hx hb dX4_odds_204 hl (by decide) rfl (fun ls hl => ?_)
    refine lv_goto (tgt := 184) hx hb dX4_odds_206 (by decide) ?_
    cases h
    exact ih.2.2 uv x7 x11 x13_7 _ _ _ hm hP hD hS (lv_sub hl [3, 4, 5, 6, 7, 8, 9, 1, 0] rfl)
set_option maxHeartbeats 4000000 in
set_option maxRecDepth 100000 in
theorem w_X4_odds_105 {p : Program} {l : Launch} {e : Env} {s : State} {m : MethodId} {args : Array Value} {below : List Frame} {meth : Method} {c : Code} {A : Nat → Prop} {D : va_G} {cy : Nat → ClassId} {b0 : Nat → Nat} {x1 : Int32} {x2 : Int32} {x3 : Int32} {x4 : Int32} {x5 : Int32} {fu : Nat} {rr : Int64 × MS} (M : kM p s m args meth c cX4_odds 15 (some .long) RX4 wsX4_odds A D cy) (ih : I_X4_odds p l e s m args below meth c A D cy b0 x1 x2 x3 x4 x5 fu rr) {uv : MS} {x6 : Int32} {x7 : Int64} {x9 : Int32} {oo : ((MS × Int32) ⊕ (MS × Int32 × Int64 × Int32) ⊕ (MS × Int64 × Int64 × Int64)) ⊕ (Int64 × MS)} (h : f_X4_odds_105 x1 x2 x3 x4 x5 uv x6 x7 x9 = some oo) (hm : lpo (st_X4_odds x1 x2 x3 x4 x5) fu oo rr) {H : Heap} {locs : List Loc} {ls : Array Slot} (hP : va_P D vwCl (wM cy b0 uv []) H) (hD : va_D A (wM cy b0 uv [])) (hS : va_S A s.heap H locs) (hl : lv_has ls 15 [(0, .ref (b0 0)), (1, .int x1), (2, .int x2), (3, .int x3), (4, .int x4), (5, .int x5), (6, .int x6), (7, .long x7), (9, .int x9)]) : W p l e { frames := 3, cells := 0, slots := 0, locals := 67 } s m args below meth c H locs 0 0 (MQ below (qL D (wM cy b0 rr.2 []) (rr.1) A) args s 0 0 A) (F0 m 105 ls []) := by
  obtain ⟨hx, hb, hr, hml, hown, hts, hlk, hA, hK⟩ := id M
  unfold f_X4_odds_105 at h
  refine lv_iload hx hb dX4_odds_105 (lv_at hl 8 rfl) ?_
  refine lv_iload_n hx hb dX4_odds_107 rfl (lv_at hl 3 rfl) ?_
  refine lv_icmp_gt (tgt := 171) hx hb dX4_odds_108 (by decide) (fun c_1 => ?_) (fun c_1 => ?_)
  · replace h := it_p c_1 h
    refine lv_lload hx hb dX4_odds_171 (lv_at hl 7 rfl) ?_
    refine lv_lstore (lv' := [(9, .long x7), (0, .ref (b0 0)), (1, .int x1), (2, .int x2), (3, .int x3), (4, .int x4), (5, .int x5), (6, .int x6), (7, .long x7)]) hx hb dX4_odds_173 hl (by decide) rfl (fun ls hl => ?_)
    refine lv_ldc2 (v := (10)) hx hb hown (hts _ mX4_odds_5) dX4_odds_175 ?_
    refine lv_iload_n hx hb dX4_odds_178 rfl (lv_at hl 4 rfl) ?_
    obtain ⟨r_2, hr_2, h⟩ := bn_s h
    refine kcSl (As := [.long (10 : Int64), .int x3]) (rest := []) ⟨hx, hb, hml, hown, hts⟩ (va_cwS 2 hts gX4_odds_X4_times rfl rfl rfl eX4_times ⟨Nat.le_of_ble_eq_true rfl, Nat.le_of_ble_eq_true rfl⟩) (c_X4_times  hr_2) hK hP hS hA rfl hl.1 rfl (Nat.le_of_ble_eq_true rfl) dX4_odds_179 (fun H locs hP hS => ?_)
    refine lv_lstore (lv' := [(11, .long r_2), (9, .long x7), (0, .ref (b0 0)), (1, .int x1), (2, .int x2), (3, .int x3), (4, .int x4), (5, .int x5), (6, .int x6), (7, .long x7)]) hx hb dX4_odds_182 hl (by decide) rfl (fun ls hl => ?_)
    cases h
    exact ih.2.2 uv x7 x7 r_2 _ _ _ hm hP hD hS (lv_sub hl [2, 3, 4, 5, 6, 7, 9, 1, 0] rfl)
  · replace h := it_n c_1 h
    refine lv_lload hx hb dX4_odds_111 (lv_at hl 7 rfl) ?_
    refine lv_aload_n hx hb dX4_odds_113 rfl (lv_at hl 0 rfl) ?_
    refine va_get (D := D) (ci := 4) (v := .ref (b0 1)) (C := RX4) (T := TX4) (N := 21) hx hb hts iX4_odds_X4 hown hK.1 hP 0 rfl rfl 3 (by decide) (hts _ mX4_odds_6) (fun _ h9 => h9) rfl dX4_odds_114 ?_
    refine lv_iload_n hx hb dX4_odds_117 rfl (lv_at hl 1 rfl) ?_
    obtain ⟨b_3, h⟩ := ck_s h
    refine va_iald hx hb hK.1 hP 1 1 rfl rfl b_3 dX4_odds_118 ?_
    refine lv_iload_n hx hb dX4_odds_119 rfl (lv_at hl 2 rfl) ?_
    refine lv_iload hx hb dX4_odds_120 (lv_at hl 8 rfl) ?_
    refine lv_imul hx hb dX4_odds_122 ?_
    refine lv_iadd hx hb dX4_odds_123 ?_
    refine lv_iload hx hb dX4_odds_124 (lv_at hl 6 rfl) ?_
    refine lv_icmp_lt (tgt := 161) hx hb dX4_odds_126 (by decide) (fun c_4 => ?_) (fun c_4 => ?_)
    · replace h := it_p c_4 h
      refine lv_lconst (v := 0) hx hb dX4_odds_161 (by decide) ?_
      refine lv_ladd hx hb dX4_odds_162 ?_
      refine lv_topl (fun x7_5 ex7_5 => ?_)
      replace h := nm_s h ex7_5
      refine lv_lstore (lv' := [(7, .long x7_5), (0, .ref (b0 0)), (1, .int x1), (2, .int x2), (3, .int x3), (4, .int x4), (5, .int x5), (6, .int x6), (9, .int x9)]) hx hb dX4_odds_163 hl (by decide) rfl (fun ls hl => ?_)
      obtain ⟨x9_6, ex9_6⟩ : ∃ z : Int32, z = (x9 + (1 : Int32)) := ⟨_, rfl⟩
      replace h := nm_s h ex9_6
      refine lv_iinc (v := x9_6) (lv' := [(9, .int x9_6), (7, .long x7_5), (0, .ref (b0 0)), (1, .int x1), (2, .int x2), (3, .int x3), (4, .int x4), (5, .int x5), (6, .int x6)]) hx hb dX4_odds_165 hl (k := 8) rfl (by rw [ex9_6]; rfl) (by decide) rfl (fun ls hl => ?_)
      refine lv_goto (tgt := 105) hx hb dX4_odds_168 (by decide) ?_
      cases h
      exact ih.2.1 uv x6 x7_5 x9_6 _ _ _ hm hP hD hS (lv_sub hl [2, 3, 4, 5, 6, 7, 8, 1, 0] rfl)
    · replace h := it_n c_4 h
      refine lv_iload_n hx hb dX4_odds_129 rfl (lv_at hl 3 rfl) ?_
      refine lv_iload hx hb dX4_odds_130 (lv_at hl 8 rfl) ?_
      obtain ⟨r_7, hr_7, h⟩ := bn_s h
      refine kcSl (As := [.int x3, .int x9]) (rest := [.long x7]) ⟨hx, hb, hml, hown, hts⟩ (va_cwS 2 hts gX4_odds_X4_choose rfl rfl rfl eX4_choose ⟨Nat.le_of_ble_eq_true rfl, Nat.le_of_ble_eq_true rfl⟩) (c_X4_choose  hr_7) hK hP hS hA rfl hl.1 rfl (Nat.le_of_ble_eq_true rfl) dX4_odds_132 (fun H locs hP hS => ?_)
      refine lv_iload hx hb dX4_odds_135 (lv_at hl 4 rfl) ?_
      refine lv_i2l hx hb dX4_odds_137 rfl ?_
      refine lv_iload hx hb dX4_odds_138 (lv_at hl 8 rfl) ?_
      obtain ⟨r_8, hr_8, h⟩ := bn_s h
      refine kcSl (As := [.long (x4.toInt64), .int x9]) (rest := [.long r_7, .long x7]) ⟨hx, hb, hml, hown, hts⟩ (va_cwS 2 hts gX4_odds_X4_times rfl rfl rfl eX4_times ⟨Nat.le_of_ble_eq_true rfl, Nat.le_of_ble_eq_true rfl⟩) (c_X4_times  hr_8) hK hP hS hA rfl hl.1 rfl (Nat.le_of_ble_eq_true rfl) dX4_odds_140 (fun H locs hP hS => ?_)
      refine lv_lmul hx hb dX4_odds_143 ?_
      refine lv_bipush (v := 10) hx hb dX4_odds_144 (by decide) ?_
      refine lv_iload hx hb dX4_odds_146 (lv_at hl 4 rfl) ?_
      refine lv_isub hx hb dX4_odds_148 ?_
      refine lv_i2l hx hb dX4_odds_149 rfl ?_
      refine lv_iload_n hx hb dX4_odds_150 rfl (lv_at hl 3 rfl) ?_
      refine lv_iload hx hb dX4_odds_151 (lv_at hl 8 rfl) ?_
      refine lv_isub hx hb dX4_odds_153 ?_
      obtain ⟨r_9, hr_9, h⟩ := bn_s h
      refine kcSl (As := [.long (((10 : Int32) - x4).toInt64), .int (x3 - x9)]) (rest := [.long (r_7 * r_8), .long x7]) ⟨hx, hb, hml, hown, hts⟩ (va_cwS 2 hts gX4_odds_X4_times rfl rfl rfl eX4_times ⟨Nat.le_of_ble_eq_true rfl, Nat.le_of_ble_eq_true rfl⟩) (c_X4_times  hr_9) hK hP hS hA rfl hl.1 rfl (Nat.le_of_ble_eq_true rfl) dX4_odds_154 (fun H locs hP hS => ?_)
      refine lv_lmul hx hb dX4_odds_157 ?_
      refine lv_goto (tgt := 162) hx hb dX4_odds_158 (by decide) ?_
      refine lv_ladd hx hb dX4_odds_162 ?_
      refine lv_topl (fun x7_10 ex7_10 => ?_)
      replace h := nm_s h ex7_10
      refine lv_lstore (lv' := [(7, .long x7_10), (0, .ref (b0 0)), (1, .int x1), (2, .int x2), (3, .int x3), (4, .int x4), (5, .int x5), (6, .int x6), (9, .int x9)]) hx hb dX4_odds_163 hl (by decide) rfl (fun ls hl => ?_)
      obtain ⟨x9_11, ex9_11⟩ : ∃ z : Int32, z = (x9 + (1 : Int32)) := ⟨_, rfl⟩
      replace h := nm_s h ex9_11
      refine lv_iinc (v := x9_11) (lv' := [(9, .int x9_11), (7, .long x7_10), (0, .ref (b0 0)), (1, .int x1), (2, .int x2), (3, .int x3), (4, .int x4), (5, .int x5), (6, .int x6)]) hx hb dX4_odds_165 hl (k := 8) rfl (by rw [ex9_11]; rfl) (by decide) rfl (fun ls hl => ?_)
      refine lv_goto (tgt := 105) hx hb dX4_odds_168 (by decide) ?_
      cases h
      exact ih.2.1 uv x6 x7_10 x9_11 _ _ _ hm hP hD hS (lv_sub hl [2, 3, 4, 5, 6, 7, 8, 1, 0] rfl)
set_option maxHeartbeats 4000000 in
set_option maxRecDepth 100000 in
theorem w_X4_odds_76 {p : Program} {l : Launch} {e : Env} {s : State} {m : MethodId} {args : Array Value} {below : List Frame} {meth : Method} {c : Code} {A : Nat → Prop} {D : va_G} {cy : Nat → ClassId} {b0 : Nat → Nat} {x1 : Int32} {x2 : Int32} {x3 : Int32} {x4 : Int32} {x5 : Int32} {fu : Nat} {rr : Int64 × MS} (M : kM p s m args meth c cX4_odds 15 (some .long) RX4 wsX4_odds A D cy) (ih : I_X4_odds p l e s m args below meth c A D cy b0 x1 x2 x3 x4 x5 fu rr) {uv : MS} {x6 : Int32} {oo : ((MS × Int32) ⊕ (MS × Int32 × Int64 × Int32) ⊕ (MS × Int64 × Int64 × Int64)) ⊕ (Int64 × MS)} (h : f_X4_odds_76 x1 x2 x3 x4 x5 uv x6 = some oo) (hm : lpo (st_X4_odds x1 x2 x3 x4 x5) fu oo rr) {H : Heap} {locs : List Loc} {ls : Array Slot} (hP : va_P D vwCl (wM cy b0 uv []) H) (hD : va_D A (wM cy b0 uv [])) (hS : va_S A s.heap H locs) (hl : lv_has ls 15 [(0, .ref (b0 0)), (1, .int x1), (2, .int x2), (3, .int x3), (4, .int x4), (5, .int x5), (6, .int x6)]) : W p l e { frames := 3, cells := 0, slots := 0, locals := 67 } s m args below meth c H locs 0 0 (MQ below (qL D (wM cy b0 rr.2 []) (rr.1) A) args s 0 0 A) (F0 m 76 ls []) := by
  obtain ⟨hx, hb, hr, hml, hown, hts, hlk, hA, hK⟩ := id M
  unfold f_X4_odds_76 at h
  refine lv_iload hx hb dX4_odds_76 (lv_at hl 6 rfl) ?_
  refine lv_iload_n hx hb dX4_odds_78 rfl (lv_at hl 3 rfl) ?_
  refine lv_icmp_ge (tgt := 92) hx hb dX4_odds_79 (by decide) (fun c_1 => ?_) (fun c_1 => ?_)
  · replace h := it_p c_1 h
    refine lv_aload_n hx hb dX4_odds_92 rfl (lv_at hl 0 rfl) ?_
    refine lv_iload_n hx hb dX4_odds_93 rfl (lv_at hl 1 rfl) ?_
    obtain ⟨r_2, hr_2, h⟩ := bn_s h
    refine kcVi (As := [.int x1]) (rest := []) (ws' := (wM cy b0 uv [])) ⟨hx, hb, hml, hown, hts⟩ (cwV 1 hts gX4_odds_X4_penceDue rfl rfl rfl ⟨rfl, eX4_penceDue⟩ ⟨Nat.le_of_ble_eq_true rfl, Nat.le_of_ble_eq_true rfl⟩) (c_X4_penceDue b0 hr_2) hK hP hD hS hA [0, 1, 2, 3, 4, 5, 6, 7, 8, 9, 10, 11, 12, 13] [] (by decide) rfl rfl 4 rfl rfl [(b0 0), (b0 1), (b0 2), (b0 3), (b0 4), (b0 5), (b0 6), (b0 7), (b0 8), (b0 9), (b0 10), (b0 11), (b0 12), (b0 13)] rfl rfl rfl [] rfl rfl rfl rfl hl.1 rfl (Nat.le_of_ble_eq_true rfl) dX4_odds_94 (fun H locs hP hD hS => ?_)
    refine lv_istore (lv' := [(6, .int r_2), (0, .ref (b0 0)), (1, .int x1), (2, .int x2), (3, .int x3), (4, .int x4), (5, .int x5)]) hx hb dX4_odds_97 hl (by decide) rfl (fun ls hl => ?_)
    refine lv_lconst (v := 0) hx hb dX4_odds_99 (by decide) ?_
    refine lv_lstore (lv' := [(7, .long (0 : Int64)), (6, .int r_2), (0, .ref (b0 0)), (1, .int x1), (2, .int x2), (3, .int x3), (4, .int x4), (5, .int x5)]) hx hb dX4_odds_100 hl (by decide) rfl (fun ls hl => ?_)
    refine lv_iconst (v := 0) hx hb dX4_odds_102 (by decide) ?_
    refine lv_istore (lv' := [(9, .int (0 : Int32)), (7, .long (0 : Int64)), (6, .int r_2), (0, .ref (b0 0)), (1, .int x1), (2, .int x2), (3, .int x3), (4, .int x4), (5, .int x5)]) hx hb dX4_odds_103 hl (by decide) rfl (fun ls hl => ?_)
    cases h
    exact ih.2.1 uv r_2 (0 : Int64) (0 : Int32) _ _ _ hm hP hD hS (lv_sub hl [3, 4, 5, 6, 7, 8, 2, 1, 0] rfl)
  · replace h := it_n c_1 h
    refine lv_aload_n hx hb dX4_odds_82 rfl (lv_at hl 0 rfl) ?_
    obtain ⟨r_3, hr_3, h⟩ := bn_s h
    refine kcVv (As := []) (rest := []) (ws' := (wM cy b0 r_3 [])) ⟨hx, hb, hml, hown, hts⟩ (cwV 0 hts gX4_odds_X4_pass rfl rfl rfl ⟨rfl, eX4_pass⟩ ⟨Nat.le_of_ble_eq_true rfl, Nat.le_of_ble_eq_true rfl⟩) (c_X4_pass b0 hr_3) hK hP hD hS hA [0, 1, 2, 3, 4, 5, 6, 7, 8, 9, 10, 11, 12, 13] [] (by decide) rfl rfl 4 rfl rfl [(b0 0), (b0 1), (b0 2), (b0 3), (b0 4), (b0 5), (b0 6), (b0 7), (b0 8), (b0 9), (b0 10), (b0 11), (b0 12), (b0 13)] rfl rfl rfl [] rfl rfl rfl rfl hl.1 rfl (Nat.le_of_ble_eq_true rfl) dX4_odds_83 (fun H locs hP hD hS => ?_)
    obtain ⟨x6_4, ex6_4⟩ : ∃ z : Int32, z = (x6 + (1 : Int32)) := ⟨_, rfl⟩
    replace h := nm_s h ex6_4
    refine lv_iinc (v := x6_4) (lv' := [(6, .int x6_4), (0, .ref (b0 0)), (1, .int x1), (2, .int x2), (3, .int x3), (4, .int x4), (5, .int x5)]) hx hb dX4_odds_86 hl (k := 6) rfl (by rw [ex6_4]; rfl) (by decide) rfl (fun ls hl => ?_)
    refine lv_goto (tgt := 76) hx hb dX4_odds_89 (by decide) ?_
    cases h
    exact ih.1 r_3 x6_4 _ _ _ hm hP hD hS (lv_sub hl [1, 2, 3, 4, 5, 6, 0] rfl)
set_option maxHeartbeats 4000000 in
set_option maxRecDepth 100000 in
theorem w_X4_odds_0 {p : Program} {l : Launch} {e : Env} {s : State} {m : MethodId} {args : Array Value} {below : List Frame} {meth : Method} {c : Code} {A : Nat → Prop} {D : va_G} {cy : Nat → ClassId} {b0 : Nat → Nat} {x1 : Int32} {x2 : Int32} {x3 : Int32} {x4 : Int32} {x5 : Int32} {fu : Nat} {rr : Int64 × MS} (M : kM p s m args meth c cX4_odds 15 (some .long) RX4 wsX4_odds A D cy) (ih : I_X4_odds p l e s m args below meth c A D cy b0 x1 x2 x3 x4 x5 fu rr) {uv : MS} {oo : ((MS × Int32) ⊕ (MS × Int32 × Int64 × Int32) ⊕ (MS × Int64 × Int64 × Int64)) ⊕ (Int64 × MS)} (h : f_X4_odds_0 uv x1 x2 x3 x4 x5 = some oo) (hm : lpo (st_X4_odds x1 x2 x3 x4 x5) fu oo rr) {H : Heap} {locs : List Loc} {ls : Array Slot} (hP : va_P D vwCl (wM cy b0 uv []) H) (hD : va_D A (wM cy b0 uv [])) (hS : va_S A s.heap H locs) (hl : lv_has ls 15 [(0, .ref (b0 0)), (1, .int x1), (2, .int x2), (3, .int x3), (4, .int x4), (5, .int x5)]) : W p l e { frames := 3, cells := 0, slots := 0, locals := 67 } s m args below meth c H locs 0 0 (MQ below (qL D (wM cy b0 rr.2 []) (rr.1) A) args s 0 0 A) (F0 m 0 ls []) := by
  obtain ⟨hx, hb, hr, hml, hown, hts, hlk, hA, hK⟩ := id M
  unfold f_X4_odds_0 at h
  refine lv_iload_n hx hb dX4_odds_0 rfl (lv_at hl 1 rfl) ?_
  obtain ⟨r_1, hr_1, h⟩ := bn_s h
  refine kcSi (As := [.int x1]) (rest := []) ⟨hx, hb, hml, hown, hts⟩ (va_cwS 1 hts gX4_odds_X4_isMan rfl rfl rfl eX4_isMan ⟨Nat.le_of_ble_eq_true rfl, Nat.le_of_ble_eq_true rfl⟩) (c_X4_isMan  hr_1) hK hP hS hA rfl hl.1 rfl (Nat.le_of_ble_eq_true rfl) dX4_odds_1 (fun H locs hP hS => ?_)
  refine lv_if_ne (tgt := 11) hx hb dX4_odds_4 (by decide) (fun c_2 => ?_) (fun c_2 => ?_)
  · replace h := it_n c_2 h
    refine lv_iload_n hx hb dX4_odds_11 rfl (lv_at hl 2 rfl) ?_
    refine lv_iconst (v := 1) hx hb dX4_odds_12 (by decide) ?_
    refine lv_bipush (v := 99) hx hb dX4_odds_13 (by decide) ?_
    obtain ⟨r_3, hr_3, h⟩ := bn_s h
    refine kcSi (As := [.int x2, .int (1 : Int32), .int (99 : Int32)]) (rest := []) ⟨hx, hb, hml, hown, hts⟩ (va_cwS 3 hts gX4_odds_X4_in rfl rfl rfl eX4_in ⟨Nat.le_of_ble_eq_true rfl, Nat.le_of_ble_eq_true rfl⟩) (c_X4_in  hr_3) hK hP hS hA rfl hl.1 rfl (Nat.le_of_ble_eq_true rfl) dX4_odds_15 (fun H locs hP hS => ?_)
    refine lv_if_eq (tgt := 52) hx hb dX4_odds_18 (by decide) (fun c_4 => ?_) (fun c_4 => ?_)
    · replace h := it_p c_4 h
      refine lv_ldc2 (v := (-1000000000000000002)) hx hb hown (hts _ mX4_odds_1) dX4_odds_52 ?_
      cases h
      have hm : _ = rr := hm
      subst hm
      exact kretL hx hb hr hlk hP hS dX4_odds_55
    · replace h := it_n c_4 h
      refine lv_iload_n hx hb dX4_odds_21 rfl (lv_at hl 3 rfl) ?_
      refine lv_iconst (v := 0) hx hb dX4_odds_22 (by decide) ?_
      refine lv_bipush (v := 12) hx hb dX4_odds_23 (by decide) ?_
      obtain ⟨r_5, hr_5, h⟩ := bn_s h
      refine kcSi (As := [.int x3, .int (0 : Int32), .int (12 : Int32)]) (rest := []) ⟨hx, hb, hml, hown, hts⟩ (va_cwS 3 hts gX4_odds_X4_in rfl rfl rfl eX4_in ⟨Nat.le_of_ble_eq_true rfl, Nat.le_of_ble_eq_true rfl⟩) (c_X4_in  hr_5) hK hP hS hA rfl hl.1 rfl (Nat.le_of_ble_eq_true rfl) dX4_odds_25 (fun H locs hP hS => ?_)
      refine lv_if_eq (tgt := 52) hx hb dX4_odds_28 (by decide) (fun c_6 => ?_) (fun c_6 => ?_)
      · replace h := it_p c_6 h
        refine lv_ldc2 (v := (-1000000000000000002)) hx hb hown (hts _ mX4_odds_1) dX4_odds_52 ?_
        cases h
        have hm : _ = rr := hm
        subst hm
        exact kretL hx hb hr hlk hP hS dX4_odds_55
      · replace h := it_n c_6 h
        refine lv_iload hx hb dX4_odds_31 (lv_at hl 4 rfl) ?_
        refine lv_iconst (v := 0) hx hb dX4_odds_33 (by decide) ?_
        refine lv_bipush (v := 10) hx hb dX4_odds_34 (by decide) ?_
        obtain ⟨r_7, hr_7, h⟩ := bn_s h
        refine kcSi (As := [.int x4, .int (0 : Int32), .int (10 : Int32)]) (rest := []) ⟨hx, hb, hml, hown, hts⟩ (va_cwS 3 hts gX4_odds_X4_in rfl rfl rfl eX4_in ⟨Nat.le_of_ble_eq_true rfl, Nat.le_of_ble_eq_true rfl⟩) (c_X4_in  hr_7) hK hP hS hA rfl hl.1 rfl (Nat.le_of_ble_eq_true rfl) dX4_odds_36 (fun H locs hP hS => ?_)
        refine lv_if_eq (tgt := 52) hx hb dX4_odds_39 (by decide) (fun c_8 => ?_) (fun c_8 => ?_)
        · replace h := it_p c_8 h
          refine lv_ldc2 (v := (-1000000000000000002)) hx hb hown (hts _ mX4_odds_1) dX4_odds_52 ?_
          cases h
          have hm : _ = rr := hm
          subst hm
          exact kretL hx hb hr hlk hP hS dX4_odds_55
        · replace h := it_n c_8 h
          refine lv_iload hx hb dX4_odds_42 (lv_at hl 5 rfl) ?_
          refine lv_iconst (v := 0) hx hb dX4_odds_44 (by decide) ?_
          refine lv_iconst (v := 1) hx hb dX4_odds_45 (by decide) ?_
          obtain ⟨r_9, hr_9, h⟩ := bn_s h
          refine kcSi (As := [.int x5, .int (0 : Int32), .int (1 : Int32)]) (rest := []) ⟨hx, hb, hml, hown, hts⟩ (va_cwS 3 hts gX4_odds_X4_in rfl rfl rfl eX4_in ⟨Nat.le_of_ble_eq_true rfl, Nat.le_of_ble_eq_true rfl⟩) (c_X4_in  hr_9) hK hP hS hA rfl hl.1 rfl (Nat.le_of_ble_eq_true rfl) dX4_odds_46 (fun H locs hP hS => ?_)
          refine lv_if_ne (tgt := 56) hx hb dX4_odds_49 (by decide) (fun c_10 => ?_) (fun c_10 => ?_)
          · replace h := it_n c_10 h
            refine lv_aload_n hx hb dX4_odds_56 rfl (lv_at hl 0 rfl) ?_
            refine va_get (D := D) (ci := 4) (v := .ref (b0 2)) (C := RX4) (T := TX4) (N := 21) hx hb hts iX4_odds_X4 hown hK.1 hP 0 rfl rfl 4 (by decide) (hts _ mX4_odds_2) (fun _ h9 => h9) rfl dX4_odds_57 ?_
            refine lv_iload_n hx hb dX4_odds_60 rfl (lv_at hl 1 rfl) ?_
            obtain ⟨b_11, h⟩ := ck_s h
            refine va_iald hx hb hK.1 hP 2 1 rfl rfl b_11 dX4_odds_61 ?_
            refine lv_if_ne (tgt := 69) hx hb dX4_odds_62 (by decide) (fun c_12 => ?_) (fun c_12 => ?_)
            · replace h := it_n c_12 h
              refine lv_aload_n hx hb dX4_odds_69 rfl (lv_at hl 0 rfl) ?_
              obtain ⟨r_13, hr_13, h⟩ := bn_s h
              refine kcVv (As := []) (rest := []) (ws' := (wM cy b0 r_13 [])) ⟨hx, hb, hml, hown, hts⟩ (cwV 0 hts gX4_odds_X4_asNow rfl rfl rfl ⟨rfl, eX4_asNow⟩ ⟨Nat.le_of_ble_eq_true rfl, Nat.le_of_ble_eq_true rfl⟩) (c_X4_asNow b0 hr_13) hK hP hD hS hA [0, 1, 2, 3, 4, 5, 6, 7, 8, 9, 10, 11, 12, 13] [] (by decide) rfl rfl 4 rfl rfl [(b0 0), (b0 1), (b0 2), (b0 3), (b0 4), (b0 5), (b0 6), (b0 7), (b0 8), (b0 9), (b0 10), (b0 11), (b0 12), (b0 13)] rfl rfl rfl [] rfl rfl rfl rfl hl.1 rfl (Nat.le_of_ble_eq_true rfl) dX4_odds_70 (fun H locs hP hD hS => ?_)
              refine lv_iconst (v := 0) hx hb dX4_odds_73 (by decide) ?_
              refine lv_istore (lv' := [(6, .int (0 : Int32)), (0, .ref (b0 0)), (1, .int x1), (2, .int x2), (3, .int x3), (4, .int x4), (5, .int x5)]) hx hb dX4_odds_74 hl (by decide) rfl (fun ls hl => ?_)
              cases h
              exact ih.1 r_13 (0 : Int32) _ _ _ hm hP hD hS (lv_sub hl [1, 2, 3, 4, 5, 6, 0] rfl)
            · replace h := it_p c_12 h
              refine lv_ldc2 (v := (-1000000000000000003)) hx hb hown (hts _ mX4_odds_3) dX4_odds_65 ?_
              cases h
              have hm : _ = rr := hm
              subst hm
              exact kretL hx hb hr hlk hP hS dX4_odds_68
          · replace h := it_p c_10 h
            refine lv_ldc2 (v := (-1000000000000000002)) hx hb hown (hts _ mX4_odds_1) dX4_odds_52 ?_
            cases h
            have hm : _ = rr := hm
            subst hm
            exact kretL hx hb hr hlk hP hS dX4_odds_55
  · replace h := it_p c_2 h
    refine lv_ldc2 (v := (-1000000000000000001)) hx hb hown (hts _ mX4_odds_4) dX4_odds_7 ?_
    cases h
    have hm : _ = rr := hm
    subst hm
    exact kretL hx hb hr hlk hP hS dX4_odds_10
theorem wl_X4_odds {p : Program} {l : Launch} {e : Env} {s : State} {m : MethodId} {args : Array Value} {below : List Frame} {meth : Method} {c : Code} {A : Nat → Prop} {D : va_G} {cy : Nat → ClassId} {b0 : Nat → Nat} {x1 : Int32} {x2 : Int32} {x3 : Int32} {x4 : Int32} {x5 : Int32} {rr : Int64 × MS} (M : kM p s m args meth c cX4_odds 15 (some .long) RX4 wsX4_odds A D cy) : ∀ fu : Nat, I_X4_odds p l e s m args below meth c A D cy b0 x1 x2 x3 x4 x5 fu rr := by
  intro fu
  induction fu with
  | zero => exact ⟨(fun _ _ _ _ _ h => by cases h), (fun _ _ _ _ _ _ _ h => by cases h), (fun _ _ _ _ _ _ _ h => by cases h)⟩
  | succ fu ih =>
    refine ⟨?_, ?_, ?_⟩
    · intro uv x6 H locs ls h hP hD hS hl
      obtain ⟨o1, h1, h2⟩ := lpn_s h
      exact w_X4_odds_76 M ih h1 h2 hP hD hS hl
    · intro uv x6 x7 x9 H locs ls h hP hD hS hl
      obtain ⟨o1, h1, h2⟩ := lpn_s h
      exact w_X4_odds_105 M ih h1 h2 hP hD hS hl
    · intro uv x7 x9 x11 H locs ls h hP hD hS hl
      obtain ⟨o1, h1, h2⟩ := lpn_s h
      exact w_X4_odds_184 M ih h1 h2 hP hD hS hl
theorem c_X4_odds {l : Launch} {D : va_G} {cy : Nat → ClassId} (b0 : Nat → Nat) {uv : MS} {x1 : Int32} {x2 : Int32} {x3 : Int32} {x4 : Int32} {x5 : Int32} {rr : Int64 × MS} (h : f_X4_odds uv x1 x2 x3 x4 x5 = some rr) : CL l D cy yX4_odds wsX4_odds { frames := 3, cells := 0, slots := 0, locals := 67 } [.ref (b0 0), .int x1, .int x2, .int x3, .int x4, .int x5] (wM cy b0 uv []) (rr.1) (wM cy b0 rr.2 []) := by
  refine kofL (cc := cX4_odds) (maxL := 15) (ret := (some .long)) (by decide) rfl (Nat.le_of_ble_eq_true rfl) ?_
  intro p e s m below meth c A M ls hl hP hD hS
  obtain ⟨o1, fu, h1, h2⟩ := rnx_s h
  exact w_X4_odds_0 M (wl_X4_odds M fu) h1 h2 hP hD hS hl
theorem eX4_odds : yX4_odds.cls ≠ "java/lang/invoke/MethodHandle" ∧ yX4_odds.cls ≠ "java/lang/invoke/VarHandle" ∧ (parseMethodDescriptor yX4_odds.desc).map (fun d => d.parameters.length) = some 5 := by decide +kernel
theorem iX4_owes_X4 : ∀ w ∈ u_ws RX4 TX4 21, w ∈ wsX4_owes := by decide +kernel
theorem mX4_owes_1 : Cond.fieldLink RX4 13 "LentPilesModel" "size" "[I" ∈ wsX4_owes := by decide +kernel
theorem mX4_owes_2 : Cond.fieldLink RX4 16 "LentPilesModel" "pile" "[I" ∈ wsX4_owes := by decide +kernel
def I_X4_owes (p : Program) (l : Launch) (e : Env) (s : State) (m : MethodId) (args : Array Value) (below : List Frame) (meth : Method) (c : Code) (A : Nat → Prop) (D : va_G) (cy : Nat → ClassId) (b0 : Nat → Nat) (uv : MS) (x1 : Int32) (x2 : Int32) (fu : Nat) (rr : Int32) : Prop := (∀ (x3 : Int32) (x4 : Int32) (H : Heap) (locs : List Loc) (ls : Array Slot), lpn (st_X4_owes uv x1 x2) fu (x3, x4) = some rr → va_P D vwCl (wM cy b0 uv []) H → va_D A (wM cy b0 uv []) → va_S A s.heap H locs → lv_has ls 5 [(0, .ref (b0 0)), (1, .int x1), (2, .int x2), (3, .int x3), (4, .int x4)] → W p l e { frames := 2, cells := 0, slots := 0, locals := 42 } s m args below meth c H locs 0 0 (MQ below (qI D (wM cy b0 uv []) (rr) A) args s 0 0 A) (F0 m 21 ls []))
set_option maxHeartbeats 4000000 in
set_option maxRecDepth 100000 in
theorem w_X4_owes_21 {p : Program} {l : Launch} {e : Env} {s : State} {m : MethodId} {args : Array Value} {below : List Frame} {meth : Method} {c : Code} {A : Nat → Prop} {D : va_G} {cy : Nat → ClassId} {b0 : Nat → Nat} {uv : MS} {x1 : Int32} {x2 : Int32} {fu : Nat} {rr : Int32} (M : kM p s m args meth c cX4_owes 5 (some .int) RX4 wsX4_owes A D cy) (ih : I_X4_owes p l e s m args below meth c A D cy b0 uv x1 x2 fu rr) {x3 : Int32} {x4 : Int32} {oo : (Int32 × Int32) ⊕ (Int32)} (h : f_X4_owes_21 uv x1 x2 x3 x4 = some oo) (hm : lpo (st_X4_owes uv x1 x2) fu oo rr) {H : Heap} {locs : List Loc} {ls : Array Slot} (hP : va_P D vwCl (wM cy b0 uv []) H) (hD : va_D A (wM cy b0 uv [])) (hS : va_S A s.heap H locs) (hl : lv_has ls 5 [(0, .ref (b0 0)), (1, .int x1), (2, .int x2), (3, .int x3), (4, .int x4)]) : W p l e { frames := 2, cells := 0, slots := 0, locals := 42 } s m args below meth c H locs 0 0 (MQ below (qI D (wM cy b0 uv []) (rr) A) args s 0 0 A) (F0 m 21 ls []) := by
  obtain ⟨hx, hb, hr, hml, hown, hts, hlk, hA, hK⟩ := id M
  unfold f_X4_owes_21 at h
  refine lv_iload hx hb dX4_owes_21 (lv_at hl 4 rfl) ?_
  refine lv_aload_n hx hb dX4_owes_23 rfl (lv_at hl 0 rfl) ?_
  refine va_get (D := D) (ci := 4) (v := .ref (b0 2)) (C := RX4) (T := TX4) (N := 21) hx hb hts iX4_owes_X4 hown hK.1 hP 0 rfl rfl 4 (by decide) (hts _ mX4_owes_1) (fun _ h9 => h9) rfl dX4_owes_24 ?_
  refine lv_iload_n hx hb dX4_owes_27 rfl (lv_at hl 1 rfl) ?_
  obtain ⟨b_1, h⟩ := ck_s h
  refine va_iald hx hb hK.1 hP 2 1 rfl rfl b_1 dX4_owes_28 ?_
  refine lv_icmp_ge (tgt := 73) hx hb dX4_owes_29 (by decide) (fun c_2 => ?_) (fun c_2 => ?_)
  · replace h := it_p c_2 h
    refine lv_iload_n hx hb dX4_owes_73 rfl (lv_at hl 3 rfl) ?_
    cases h
    have hm : _ = rr := hm
    subst hm
    exact kretI hx hb hr hlk hP hS dX4_owes_74
  · replace h := it_n c_2 h
    refine lv_iload_n hx hb dX4_owes_32 rfl (lv_at hl 3 rfl) ?_
    refine lv_aload_n hx hb dX4_owes_33 rfl (lv_at hl 0 rfl) ?_
    refine va_get (D := D) (ci := 4) (v := .ref (b0 3)) (C := RX4) (T := TX4) (N := 21) hx hb hts iX4_owes_X4 hown hK.1 hP 0 rfl rfl 5 (by decide) (hts _ mX4_owes_2) (fun _ h9 => h9) rfl dX4_owes_34 ?_
    refine lv_iload_n hx hb dX4_owes_37 rfl (lv_at hl 1 rfl) ?_
    refine lv_iload hx hb dX4_owes_38 (lv_at hl 4 rfl) ?_
    obtain ⟨r_3, hr_3, h⟩ := bn_s h
    refine kcSi (As := [.int x1, .int x4]) (rest := [.ref (b0 3), .int x3]) ⟨hx, hb, hml, hown, hts⟩ (va_cwS 2 hts gX4_owes_X4_at rfl rfl rfl eX4_at ⟨Nat.le_of_ble_eq_true rfl, Nat.le_of_ble_eq_true rfl⟩) (c_X4_at  hr_3) hK hP hS hA rfl hl.1 rfl (Nat.le_of_ble_eq_true rfl) dX4_owes_40 (fun H locs hP hS => ?_)
    obtain ⟨b_4, h⟩ := ck_s h
    refine va_iald hx hb hK.1 hP 3 1 rfl rfl b_4 dX4_owes_43 ?_
    refine lv_iload_n hx hb dX4_owes_44 rfl (lv_at hl 2 rfl) ?_
    refine lv_icmp_ne (tgt := 64) hx hb dX4_owes_45 (by decide) (fun c_5 => ?_) (fun c_5 => ?_)
    · replace h := it_n c_5 h
      refine lv_iconst (v := 0) hx hb dX4_owes_64 (by decide) ?_
      refine lv_iadd hx hb dX4_owes_65 ?_
      refine lv_topi (fun x3_6 ex3_6 => ?_)
      replace h := nm_s h ex3_6
      refine lv_istore_n (lv' := [(3, .int x3_6), (0, .ref (b0 0)), (1, .int x1), (2, .int x2), (4, .int x4)]) hx hb dX4_owes_66 rfl hl (by decide) rfl (fun ls hl => ?_)
      obtain ⟨x4_7, ex4_7⟩ : ∃ z : Int32, z = (x4 + (1 : Int32)) := ⟨_, rfl⟩
      replace h := nm_s h ex4_7
      refine lv_iinc (v := x4_7) (lv' := [(4, .int x4_7), (3, .int x3_6), (0, .ref (b0 0)), (1, .int x1), (2, .int x2)]) hx hb dX4_owes_67 hl (k := 4) rfl (by rw [ex4_7]; rfl) (by decide) rfl (fun ls hl => ?_)
      refine lv_goto (tgt := 21) hx hb dX4_owes_70 (by decide) ?_
      cases h
      exact ih x3_6 x4_7 _ _ _ hm hP hD hS (lv_sub hl [2, 3, 4, 1, 0] rfl)
    · replace h := it_p c_5 h
      refine lv_aload_n hx hb dX4_owes_48 rfl (lv_at hl 0 rfl) ?_
      refine va_get (D := D) (ci := 4) (v := .ref (b0 3)) (C := RX4) (T := TX4) (N := 21) hx hb hts iX4_owes_X4 hown hK.1 hP 0 rfl rfl 5 (by decide) (hts _ mX4_owes_2) (fun _ h9 => h9) rfl dX4_owes_49 ?_
      refine lv_iload_n hx hb dX4_owes_52 rfl (lv_at hl 1 rfl) ?_
      refine lv_iload hx hb dX4_owes_53 (lv_at hl 4 rfl) ?_
      obtain ⟨r_8, hr_8, h⟩ := bn_s h
      refine kcSi (As := [.int x1, .int x4]) (rest := [.ref (b0 3), .int x3]) ⟨hx, hb, hml, hown, hts⟩ (va_cwS 2 hts gX4_owes_X4_at rfl rfl rfl eX4_at ⟨Nat.le_of_ble_eq_true rfl, Nat.le_of_ble_eq_true rfl⟩) (c_X4_at  hr_8) hK hP hS hA rfl hl.1 rfl (Nat.le_of_ble_eq_true rfl) dX4_owes_55 (fun H locs hP hS => ?_)
      refine lv_iconst (v := 1) hx hb dX4_owes_58 (by decide) ?_
      refine lv_iadd hx hb dX4_owes_59 ?_
      obtain ⟨b_9, h⟩ := ck_s h
      refine va_iald hx hb hK.1 hP 3 1 rfl rfl b_9 dX4_owes_60 ?_
      refine lv_goto (tgt := 65) hx hb dX4_owes_61 (by decide) ?_
      refine lv_iadd hx hb dX4_owes_65 ?_
      refine lv_topi (fun x3_10 ex3_10 => ?_)
      replace h := nm_s h ex3_10
      refine lv_istore_n (lv' := [(3, .int x3_10), (0, .ref (b0 0)), (1, .int x1), (2, .int x2), (4, .int x4)]) hx hb dX4_owes_66 rfl hl (by decide) rfl (fun ls hl => ?_)
      obtain ⟨x4_11, ex4_11⟩ : ∃ z : Int32, z = (x4 + (1 : Int32)) := ⟨_, rfl⟩
      replace h := nm_s h ex4_11
      refine lv_iinc (v := x4_11) (lv' := [(4, .int x4_11), (3, .int x3_10), (0, .ref (b0 0)), (1, .int x1), (2, .int x2)]) hx hb dX4_owes_67 hl (k := 4) rfl (by rw [ex4_11]; rfl) (by decide) rfl (fun ls hl => ?_)
      refine lv_goto (tgt := 21) hx hb dX4_owes_70 (by decide) ?_
      cases h
      exact ih x3_10 x4_11 _ _ _ hm hP hD hS (lv_sub hl [2, 3, 4, 1, 0] rfl)
set_option maxHeartbeats 4000000 in
set_option maxRecDepth 100000 in
theorem w_X4_owes_0 {p : Program} {l : Launch} {e : Env} {s : State} {m : MethodId} {args : Array Value} {below : List Frame} {meth : Method} {c : Code} {A : Nat → Prop} {D : va_G} {cy : Nat → ClassId} {b0 : Nat → Nat} {uv : MS} {x1 : Int32} {x2 : Int32} {fu : Nat} {rr : Int32} (M : kM p s m args meth c cX4_owes 5 (some .int) RX4 wsX4_owes A D cy) (ih : I_X4_owes p l e s m args below meth c A D cy b0 uv x1 x2 fu rr)  {oo : (Int32 × Int32) ⊕ (Int32)} (h : f_X4_owes_0 uv x1 x2 = some oo) (hm : lpo (st_X4_owes uv x1 x2) fu oo rr) {H : Heap} {locs : List Loc} {ls : Array Slot} (hP : va_P D vwCl (wM cy b0 uv []) H) (hD : va_D A (wM cy b0 uv [])) (hS : va_S A s.heap H locs) (hl : lv_has ls 5 [(0, .ref (b0 0)), (1, .int x1), (2, .int x2)]) : W p l e { frames := 2, cells := 0, slots := 0, locals := 42 } s m args below meth c H locs 0 0 (MQ below (qI D (wM cy b0 uv []) (rr) A) args s 0 0 A) (F0 m 0 ls []) := by
  obtain ⟨hx, hb, hr, hml, hown, hts, hlk, hA, hK⟩ := id M
  unfold f_X4_owes_0 at h
  refine lv_iload_n hx hb dX4_owes_0 rfl (lv_at hl 1 rfl) ?_
  obtain ⟨r_1, hr_1, h⟩ := bn_s h
  refine kcSi (As := [.int x1]) (rest := []) ⟨hx, hb, hml, hown, hts⟩ (va_cwS 1 hts gX4_owes_X4_isMan rfl rfl rfl eX4_isMan ⟨Nat.le_of_ble_eq_true rfl, Nat.le_of_ble_eq_true rfl⟩) (c_X4_isMan  hr_1) hK hP hS hA rfl hl.1 rfl (Nat.le_of_ble_eq_true rfl) dX4_owes_1 (fun H locs hP hS => ?_)
  refine lv_if_eq (tgt := 14) hx hb dX4_owes_4 (by decide) (fun c_2 => ?_) (fun c_2 => ?_)
  · replace h := it_p c_2 h
    refine lv_iconst (v := (-1)) hx hb dX4_owes_14 (by decide) ?_
    cases h
    have hm : _ = rr := hm
    subst hm
    exact kretI hx hb hr hlk hP hS dX4_owes_15
  · replace h := it_n c_2 h
    refine lv_iload_n hx hb dX4_owes_7 rfl (lv_at hl 2 rfl) ?_
    obtain ⟨r_3, hr_3, h⟩ := bn_s h
    refine kcSi (As := [.int x2]) (rest := []) ⟨hx, hb, hml, hown, hts⟩ (va_cwS 1 hts gX4_owes_X4_isMan rfl rfl rfl eX4_isMan ⟨Nat.le_of_ble_eq_true rfl, Nat.le_of_ble_eq_true rfl⟩) (c_X4_isMan  hr_3) hK hP hS hA rfl hl.1 rfl (Nat.le_of_ble_eq_true rfl) dX4_owes_8 (fun H locs hP hS => ?_)
    refine lv_if_ne (tgt := 16) hx hb dX4_owes_11 (by decide) (fun c_4 => ?_) (fun c_4 => ?_)
    · replace h := it_n c_4 h
      refine lv_iconst (v := 0) hx hb dX4_owes_16 (by decide) ?_
      refine lv_istore_n (lv' := [(3, .int (0 : Int32)), (0, .ref (b0 0)), (1, .int x1), (2, .int x2)]) hx hb dX4_owes_17 rfl hl (by decide) rfl (fun ls hl => ?_)
      refine lv_iconst (v := 0) hx hb dX4_owes_18 (by decide) ?_
      refine lv_istore (lv' := [(4, .int (0 : Int32)), (3, .int (0 : Int32)), (0, .ref (b0 0)), (1, .int x1), (2, .int x2)]) hx hb dX4_owes_19 hl (by decide) rfl (fun ls hl => ?_)
      cases h
      exact ih (0 : Int32) (0 : Int32) _ _ _ hm hP hD hS (lv_sub hl [2, 3, 4, 1, 0] rfl)
    · replace h := it_p c_4 h
      refine lv_iconst (v := (-1)) hx hb dX4_owes_14 (by decide) ?_
      cases h
      have hm : _ = rr := hm
      subst hm
      exact kretI hx hb hr hlk hP hS dX4_owes_15
theorem wl_X4_owes {p : Program} {l : Launch} {e : Env} {s : State} {m : MethodId} {args : Array Value} {below : List Frame} {meth : Method} {c : Code} {A : Nat → Prop} {D : va_G} {cy : Nat → ClassId} {b0 : Nat → Nat} {uv : MS} {x1 : Int32} {x2 : Int32} {rr : Int32} (M : kM p s m args meth c cX4_owes 5 (some .int) RX4 wsX4_owes A D cy) : ∀ fu : Nat, I_X4_owes p l e s m args below meth c A D cy b0 uv x1 x2 fu rr := by
  intro fu
  induction fu with
  | zero => exact (fun _ _ _ _ _ h => by cases h)
  | succ fu ih =>
    exact fun x3 x4 H locs ls h hP hD hS hl => by
      obtain ⟨o1, h1, h2⟩ := lpn_s h
      exact w_X4_owes_21 M ih h1 h2 hP hD hS hl
theorem c_X4_owes {l : Launch} {D : va_G} {cy : Nat → ClassId} (b0 : Nat → Nat) {uv : MS} {x1 : Int32} {x2 : Int32} {rr : Int32} (h : f_X4_owes uv x1 x2 = some rr) : CI l D cy yX4_owes wsX4_owes { frames := 2, cells := 0, slots := 0, locals := 42 } [.ref (b0 0), .int x1, .int x2] (wM cy b0 uv []) (rr) (wM cy b0 uv []) := by
  refine kofI (cc := cX4_owes) (maxL := 5) (ret := (some .int)) (by decide) rfl (Nat.le_of_ble_eq_true rfl) ?_
  intro p e s m below meth c A M ls hl hP hD hS
  obtain ⟨o1, fu, h1, h2⟩ := rnx_s h
  exact w_X4_owes_0 M (wl_X4_owes M fu) h1 h2 hP hD hS hl
theorem eX4_owes : yX4_owes.cls ≠ "java/lang/invoke/MethodHandle" ∧ yX4_owes.cls ≠ "java/lang/invoke/VarHandle" ∧ (parseMethodDescriptor yX4_owes.desc).map (fun d => d.parameters.length) = some 2 := by decide +kernel
theorem iX4_pawn_X4 : ∀ w ∈ u_ws RX4 TX4 21, w ∈ wsX4_pawn := by decide +kernel
theorem mX4_pawn_1 : Cond.fieldLink RX4 13 "LentPilesModel" "size" "[I" ∈ wsX4_pawn := by decide +kernel
theorem mX4_pawn_2 : Cond.fieldLink RX4 34 "LentPilesModel" "turn" "[I" ∈ wsX4_pawn := by decide +kernel
theorem mX4_pawn_3 : Cond.fieldLink RX4 16 "LentPilesModel" "pile" "[I" ∈ wsX4_pawn := by decide +kernel
def I_X4_pawn (p : Program) (l : Launch) (e : Env) (s : State) (m : MethodId) (args : Array Value) (below : List Frame) (meth : Method) (c : Code) (A : Nat → Prop) (D : va_G) (cy : Nat → ClassId) (b0 : Nat → Nat) (x1 : Int32) (x2 : Int32) (fu : Nat) (rr : Int32 × MS) : Prop := (∀ (uv : MS) (x3 : Int32) (x4 : Int32) (x5 : Int32) (H : Heap) (locs : List Loc) (ls : Array Slot), lpn (st_X4_pawn x1 x2) fu (uv, x3, x4, x5) = some rr → va_P D vwCl (wM cy b0 uv []) H → va_D A (wM cy b0 uv []) → va_S A s.heap H locs → lv_has ls 7 [(0, .ref (b0 0)), (1, .int x1), (2, .int x2), (3, .int x3), (4, .int x4), (5, .int x5)] → W p l e { frames := 3, cells := 0, slots := 0, locals := 64 } s m args below meth c H locs 0 0 (MQ below (qI D (wM cy b0 rr.2 []) (rr.1) A) args s 0 0 A) (F0 m 23 ls []))
set_option maxHeartbeats 4000000 in
set_option maxRecDepth 100000 in
theorem w_X4_pawn_23 {p : Program} {l : Launch} {e : Env} {s : State} {m : MethodId} {args : Array Value} {below : List Frame} {meth : Method} {c : Code} {A : Nat → Prop} {D : va_G} {cy : Nat → ClassId} {b0 : Nat → Nat} {x1 : Int32} {x2 : Int32} {fu : Nat} {rr : Int32 × MS} (M : kM p s m args meth c cX4_pawn 7 (some .int) RX4 wsX4_pawn A D cy) (ih : I_X4_pawn p l e s m args below meth c A D cy b0 x1 x2 fu rr) {uv : MS} {x3 : Int32} {x4 : Int32} {x5 : Int32} {oo : (MS × Int32 × Int32 × Int32) ⊕ (Int32 × MS)} (h : f_X4_pawn_23 x1 x2 uv x3 x4 x5 = some oo) (hm : lpo (st_X4_pawn x1 x2) fu oo rr) {H : Heap} {locs : List Loc} {ls : Array Slot} (hP : va_P D vwCl (wM cy b0 uv []) H) (hD : va_D A (wM cy b0 uv [])) (hS : va_S A s.heap H locs) (hl : lv_has ls 7 [(0, .ref (b0 0)), (1, .int x1), (2, .int x2), (3, .int x3), (4, .int x4), (5, .int x5)]) : W p l e { frames := 3, cells := 0, slots := 0, locals := 64 } s m args below meth c H locs 0 0 (MQ below (qI D (wM cy b0 rr.2 []) (rr.1) A) args s 0 0 A) (F0 m 23 ls []) := by
  obtain ⟨hx, hb, hr, hml, hown, hts, hlk, hA, hK⟩ := id M
  unfold f_X4_pawn_23 at h
  refine lv_iload hx hb dX4_pawn_23 (lv_at hl 5 rfl) ?_
  refine lv_aload_n hx hb dX4_pawn_25 rfl (lv_at hl 0 rfl) ?_
  refine va_get (D := D) (ci := 4) (v := .ref (b0 2)) (C := RX4) (T := TX4) (N := 21) hx hb hts iX4_pawn_X4 hown hK.1 hP 0 rfl rfl 4 (by decide) (hts _ mX4_pawn_1) (fun _ h9 => h9) rfl dX4_pawn_26 ?_
  refine lv_iload_n hx hb dX4_pawn_29 rfl (lv_at hl 1 rfl) ?_
  obtain ⟨b_1, h⟩ := ck_s h
  refine va_iald hx hb hK.1 hP 2 1 rfl rfl b_1 dX4_pawn_30 ?_
  refine lv_icmp_ge (tgt := 87) hx hb dX4_pawn_31 (by decide) (fun c_2 => ?_) (fun c_2 => ?_)
  · replace h := it_p c_2 h
    refine lv_iload_n hx hb dX4_pawn_87 rfl (lv_at hl 3 rfl) ?_
    cases h
    have hm : _ = rr := hm
    subst hm
    exact kretI hx hb hr hlk hP hS dX4_pawn_88
  · replace h := it_n c_2 h
    refine lv_iload hx hb dX4_pawn_34 (lv_at hl 4 rfl) ?_
    refine lv_if_ne (tgt := 87) hx hb dX4_pawn_36 (by decide) (fun c_3 => ?_) (fun c_3 => ?_)
    · replace h := it_n c_3 h
      refine lv_iload_n hx hb dX4_pawn_87 rfl (lv_at hl 3 rfl) ?_
      cases h
      have hm : _ = rr := hm
      subst hm
      exact kretI hx hb hr hlk hP hS dX4_pawn_88
    · replace h := it_p c_3 h
      refine lv_aload_n hx hb dX4_pawn_39 rfl (lv_at hl 0 rfl) ?_
      refine va_get (D := D) (ci := 4) (v := .ref (b0 9)) (C := RX4) (T := TX4) (N := 21) hx hb hts iX4_pawn_X4 hown hK.1 hP 0 rfl rfl 16 (by decide) (hts _ mX4_pawn_2) (fun _ h9 => h9) rfl dX4_pawn_40 ?_
      refine lv_iconst (v := 5) hx hb dX4_pawn_43 (by decide) ?_
      refine lv_iload_n hx hb dX4_pawn_44 rfl (lv_at hl 1 rfl) ?_
      refine lv_imul hx hb dX4_pawn_45 ?_
      refine lv_iload hx hb dX4_pawn_46 (lv_at hl 5 rfl) ?_
      refine lv_iadd hx hb dX4_pawn_48 ?_
      obtain ⟨b_4, h⟩ := ck_s h
      refine va_iald hx hb hK.1 hP 9 1 rfl rfl b_4 dX4_pawn_49 ?_
      refine lv_topi (fun x6_5 ex6_5 => ?_)
      replace h := nm_s h ex6_5
      refine lv_istore (lv' := [(6, .int x6_5), (0, .ref (b0 0)), (1, .int x1), (2, .int x2), (3, .int x3), (4, .int x4), (5, .int x5)]) hx hb dX4_pawn_50 hl (by decide) rfl (fun ls hl => ?_)
      refine lv_iload_n hx hb dX4_pawn_52 rfl (lv_at hl 4 rfl) ?_
      refine lv_aload_n hx hb dX4_pawn_53 rfl (lv_at hl 1 rfl) ?_
      refine va_get (D := D) (ci := 4) (v := .ref (b0 3)) (C := RX4) (T := TX4) (N := 21) hx hb hts iX4_pawn_X4 hown hK.1 hP 0 rfl rfl 5 (by decide) (hts _ mX4_pawn_3) (fun _ h9 => h9) rfl dX4_pawn_54 ?_
      refine lv_iload_n hx hb dX4_pawn_57 rfl (lv_at hl 2 rfl) ?_
      refine lv_iload hx hb dX4_pawn_58 (lv_at hl 0 rfl) ?_
      obtain ⟨r_6, hr_6, h⟩ := bn_s h
      refine kcSi (As := [.int x1, .int x6_5]) (rest := [.ref (b0 3), .int x3]) ⟨hx, hb, hml, hown, hts⟩ (va_cwS 2 hts gX4_pawn_X4_at rfl rfl rfl eX4_at ⟨Nat.le_of_ble_eq_true rfl, Nat.le_of_ble_eq_true rfl⟩) (c_X4_at  hr_6) hK hP hS hA rfl hl.1 rfl (Nat.le_of_ble_eq_true rfl) dX4_pawn_60 (fun H locs hP hS => ?_)
      refine lv_iconst (v := 1) hx hb dX4_pawn_63 (by decide) ?_
      refine lv_iadd hx hb dX4_pawn_64 ?_
      obtain ⟨b_7, h⟩ := ck_s h
      refine va_iald hx hb hK.1 hP 3 1 rfl rfl b_7 dX4_pawn_65 ?_
      refine lv_iadd hx hb dX4_pawn_66 ?_
      refine lv_topi (fun x3_8 ex3_8 => ?_)
      replace h := nm_s h ex3_8
      refine lv_istore_n (lv' := [(3, .int x3_8), (6, .int x6_5), (0, .ref (b0 0)), (1, .int x1), (2, .int x2), (4, .int x4), (5, .int x5)]) hx hb dX4_pawn_67 rfl hl (by decide) rfl (fun ls hl => ?_)
      refine lv_iload hx hb dX4_pawn_68 (lv_at hl 1 rfl) ?_
      refine lv_iload_n hx hb dX4_pawn_70 rfl (lv_at hl 4 rfl) ?_
      refine lv_icmp_ne (tgt := 78) hx hb dX4_pawn_71 (by decide) (fun c_9 => ?_) (fun c_9 => ?_)
      · replace h := it_n c_9 h
        refine lv_iconst (v := 0) hx hb dX4_pawn_78 (by decide) ?_
        refine lv_istore (lv' := [(4, .int (0 : Int32)), (3, .int x3_8), (6, .int x6_5), (0, .ref (b0 0)), (1, .int x1), (2, .int x2), (5, .int x5)]) hx hb dX4_pawn_79 hl (by decide) rfl (fun ls hl => ?_)
        obtain ⟨x5_10, ex5_10⟩ : ∃ z : Int32, z = (x5 + (1 : Int32)) := ⟨_, rfl⟩
        replace h := nm_s h ex5_10
        refine lv_iinc (v := x5_10) (lv' := [(5, .int x5_10), (4, .int (0 : Int32)), (3, .int x3_8), (6, .int x6_5), (0, .ref (b0 0)), (1, .int x1), (2, .int x2)]) hx hb dX4_pawn_81 hl (k := 6) rfl (by rw [ex5_10]; rfl) (by decide) rfl (fun ls hl => ?_)
        refine lv_goto (tgt := 23) hx hb dX4_pawn_84 (by decide) ?_
        cases h
        exact ih uv x3_8 (0 : Int32) x5_10 _ _ _ hm hP hD hS (lv_sub hl [4, 5, 6, 2, 1, 0] rfl)
      · replace h := it_p c_9 h
        refine lv_iconst (v := 1) hx hb dX4_pawn_74 (by decide) ?_
        refine lv_goto (tgt := 79) hx hb dX4_pawn_75 (by decide) ?_
        refine lv_istore (lv' := [(4, .int (1 : Int32)), (3, .int x3_8), (6, .int x6_5), (0, .ref (b0 0)), (1, .int x1), (2, .int x2), (5, .int x5)]) hx hb dX4_pawn_79 hl (by decide) rfl (fun ls hl => ?_)
        obtain ⟨x5_11, ex5_11⟩ : ∃ z : Int32, z = (x5 + (1 : Int32)) := ⟨_, rfl⟩
        replace h := nm_s h ex5_11
        refine lv_iinc (v := x5_11) (lv' := [(5, .int x5_11), (4, .int (1 : Int32)), (3, .int x3_8), (6, .int x6_5), (0, .ref (b0 0)), (1, .int x1), (2, .int x2)]) hx hb dX4_pawn_81 hl (k := 6) rfl (by rw [ex5_11]; rfl) (by decide) rfl (fun ls hl => ?_)
        refine lv_goto (tgt := 23) hx hb dX4_pawn_84 (by decide) ?_
        cases h
        exact ih uv x3_8 (1 : Int32) x5_11 _ _ _ hm hP hD hS (lv_sub hl [4, 5, 6, 2, 1, 0] rfl)
set_option maxHeartbeats 4000000 in
set_option maxRecDepth 100000 in
theorem w_X4_pawn_0 {p : Program} {l : Launch} {e : Env} {s : State} {m : MethodId} {args : Array Value} {below : List Frame} {meth : Method} {c : Code} {A : Nat → Prop} {D : va_G} {cy : Nat → ClassId} {b0 : Nat → Nat} {x1 : Int32} {x2 : Int32} {fu : Nat} {rr : Int32 × MS} (M : kM p s m args meth c cX4_pawn 7 (some .int) RX4 wsX4_pawn A D cy) (ih : I_X4_pawn p l e s m args below meth c A D cy b0 x1 x2 fu rr) {uv : MS} {oo : (MS × Int32 × Int32 × Int32) ⊕ (Int32 × MS)} (h : f_X4_pawn_0 uv x1 x2 = some oo) (hm : lpo (st_X4_pawn x1 x2) fu oo rr) {H : Heap} {locs : List Loc} {ls : Array Slot} (hP : va_P D vwCl (wM cy b0 uv []) H) (hD : va_D A (wM cy b0 uv [])) (hS : va_S A s.heap H locs) (hl : lv_has ls 7 [(0, .ref (b0 0)), (1, .int x1), (2, .int x2)]) : W p l e { frames := 3, cells := 0, slots := 0, locals := 64 } s m args below meth c H locs 0 0 (MQ below (qI D (wM cy b0 rr.2 []) (rr.1) A) args s 0 0 A) (F0 m 0 ls []) := by
  obtain ⟨hx, hb, hr, hml, hown, hts, hlk, hA, hK⟩ := id M
  unfold f_X4_pawn_0 at h
  refine lv_aload_n hx hb dX4_pawn_0 rfl (lv_at hl 0 rfl) ?_
  refine lv_iload_n hx hb dX4_pawn_1 rfl (lv_at hl 1 rfl) ?_
  refine lv_iload_n hx hb dX4_pawn_2 rfl (lv_at hl 2 rfl) ?_
  obtain ⟨r_1, hr_1, h⟩ := bn_s h
  refine kcVi (As := [.int x1, .int x2]) (rest := []) (ws' := (wM cy b0 uv [])) ⟨hx, hb, hml, hown, hts⟩ (cwV 2 hts gX4_pawn_X4_isDebt rfl rfl rfl ⟨rfl, eX4_isDebt⟩ ⟨Nat.le_of_ble_eq_true rfl, Nat.le_of_ble_eq_true rfl⟩) (c_X4_isDebt b0 hr_1) hK hP hD hS hA [0, 1, 2, 3, 4, 5, 6, 7, 8, 9, 10, 11, 12, 13] [] (by decide) rfl rfl 4 rfl rfl [(b0 0), (b0 1), (b0 2), (b0 3), (b0 4), (b0 5), (b0 6), (b0 7), (b0 8), (b0 9), (b0 10), (b0 11), (b0 12), (b0 13)] rfl rfl rfl [] rfl rfl rfl rfl hl.1 rfl (Nat.le_of_ble_eq_true rfl) dX4_pawn_3 (fun H locs hP hD hS => ?_)
  refine lv_if_ne (tgt := 11) hx hb dX4_pawn_6 (by decide) (fun c_2 => ?_) (fun c_2 => ?_)
  · replace h := it_n c_2 h
    refine lv_aload_n hx hb dX4_pawn_11 rfl (lv_at hl 0 rfl) ?_
    obtain ⟨r_3, hr_3, h⟩ := bn_s h
    refine kcVv (As := []) (rest := []) (ws' := (wM cy b0 r_3 [])) ⟨hx, hb, hml, hown, hts⟩ (cwV 0 hts gX4_pawn_X4_layTurns rfl rfl rfl ⟨rfl, eX4_layTurns⟩ ⟨Nat.le_of_ble_eq_true rfl, Nat.le_of_ble_eq_true rfl⟩) (c_X4_layTurns b0 hr_3) hK hP hD hS hA [0, 1, 2, 3, 4, 5, 6, 7, 8, 9, 10, 11, 12, 13] [] (by decide) rfl rfl 4 rfl rfl [(b0 0), (b0 1), (b0 2), (b0 3), (b0 4), (b0 5), (b0 6), (b0 7), (b0 8), (b0 9), (b0 10), (b0 11), (b0 12), (b0 13)] rfl rfl rfl [] rfl rfl rfl rfl hl.1 rfl (Nat.le_of_ble_eq_true rfl) dX4_pawn_12 (fun H locs hP hD hS => ?_)
    refine lv_iconst (v := 0) hx hb dX4_pawn_15 (by decide) ?_
    refine lv_istore_n (lv' := [(3, .int (0 : Int32)), (0, .ref (b0 0)), (1, .int x1), (2, .int x2)]) hx hb dX4_pawn_16 rfl hl (by decide) rfl (fun ls hl => ?_)
    refine lv_iconst (v := 0) hx hb dX4_pawn_17 (by decide) ?_
    refine lv_istore (lv' := [(4, .int (0 : Int32)), (3, .int (0 : Int32)), (0, .ref (b0 0)), (1, .int x1), (2, .int x2)]) hx hb dX4_pawn_18 hl (by decide) rfl (fun ls hl => ?_)
    refine lv_iconst (v := 0) hx hb dX4_pawn_20 (by decide) ?_
    refine lv_istore (lv' := [(5, .int (0 : Int32)), (4, .int (0 : Int32)), (3, .int (0 : Int32)), (0, .ref (b0 0)), (1, .int x1), (2, .int x2)]) hx hb dX4_pawn_21 hl (by decide) rfl (fun ls hl => ?_)
    cases h
    exact ih r_3 (0 : Int32) (0 : Int32) (0 : Int32) _ _ _ hm hP hD hS (lv_sub hl [3, 4, 5, 2, 1, 0] rfl)
  · replace h := it_p c_2 h
    refine lv_iconst (v := (-1)) hx hb dX4_pawn_9 (by decide) ?_
    cases h
    have hm : _ = rr := hm
    subst hm
    exact kretI hx hb hr hlk hP hS dX4_pawn_10
theorem wl_X4_pawn {p : Program} {l : Launch} {e : Env} {s : State} {m : MethodId} {args : Array Value} {below : List Frame} {meth : Method} {c : Code} {A : Nat → Prop} {D : va_G} {cy : Nat → ClassId} {b0 : Nat → Nat} {x1 : Int32} {x2 : Int32} {rr : Int32 × MS} (M : kM p s m args meth c cX4_pawn 7 (some .int) RX4 wsX4_pawn A D cy) : ∀ fu : Nat, I_X4_pawn p l e s m args below meth c A D cy b0 x1 x2 fu rr := by
  intro fu
  induction fu with
  | zero => exact (fun _ _ _ _ _ _ _ h => by cases h)
  | succ fu ih =>
    exact fun uv x3 x4 x5 H locs ls h hP hD hS hl => by
      obtain ⟨o1, h1, h2⟩ := lpn_s h
      exact w_X4_pawn_23 M ih h1 h2 hP hD hS hl
theorem c_X4_pawn {l : Launch} {D : va_G} {cy : Nat → ClassId} (b0 : Nat → Nat) {uv : MS} {x1 : Int32} {x2 : Int32} {rr : Int32 × MS} (h : f_X4_pawn uv x1 x2 = some rr) : CI l D cy yX4_pawn wsX4_pawn { frames := 3, cells := 0, slots := 0, locals := 64 } [.ref (b0 0), .int x1, .int x2] (wM cy b0 uv []) (rr.1) (wM cy b0 rr.2 []) := by
  refine kofI (cc := cX4_pawn) (maxL := 7) (ret := (some .int)) (by decide) rfl (Nat.le_of_ble_eq_true rfl) ?_
  intro p e s m below meth c A M ls hl hP hD hS
  obtain ⟨o1, fu, h1, h2⟩ := rnx_s h
  exact w_X4_pawn_0 M (wl_X4_pawn M fu) h1 h2 hP hD hS hl
theorem eX4_pawn : yX4_pawn.cls ≠ "java/lang/invoke/MethodHandle" ∧ yX4_pawn.cls ≠ "java/lang/invoke/VarHandle" ∧ (parseMethodDescriptor yX4_pawn.desc).map (fun d => d.parameters.length) = some 2 := by decide +kernel
