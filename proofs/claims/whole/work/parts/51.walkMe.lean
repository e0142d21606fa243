/-! printed by wip/gen/gen.py: the walks -/
theorem iX4_year_X4 : ∀ w ∈ u_ws RX4 TX4 21, w ∈ wsX4_year := by decide +kernel
theorem mX4_year_1 : Cond.constant RX4 176 (65537) ∈ wsX4_year := by decide +kernel
theorem mX4_year_2 : Cond.fieldLink RX4 25 "LentPilesModel" "nowMoney" "[I" ∈ wsX4_year := by decide +kernel
theorem mX4_year_3 : Cond.fieldLink RX4 28 "LentPilesModel" "nowSize" "[I" ∈ wsX4_year := by decide +kernel
theorem mX4_year_4 : Cond.fieldLink RX4 31 "LentPilesModel" "nowPile" "[I" ∈ wsX4_year := by decide +kernel
def I_X4_year (p : Program) (l : Launch) (e : Env) (s : State) (m : MethodId) (args : Array Value) (below : List Frame) (meth : Method) (c : Code) (A : Nat → Prop) (D : va_G) (cy : Nat → ClassId) (b0 : Nat → Nat) (x1 : Int32) (x2 : Int32) (x3 : Int32) (fu : Nat) (rr : Int32 × MS) : Prop := (∀ (uv : MS) (x4 : Int32) (x5 : Int32) (x6 : Int32) (H : Heap) (locs : List Loc) (ls : Array Slot), lpn (st_X4_year x1 x2 x3) fu (.inl (uv, x4, x5, x6)) = some rr → va_P D vwCl (wM cy b0 uv []) H → va_D A (wM cy b0 uv []) → va_S A s.heap H locs → lv_has ls 10 [(0, .ref (b0 0)), (1, .int x1), (2, .int x2), (3, .int x3), (4, .int x4), (5, .int x5), (6, .int x6)] → W p l e { frames := 4, cells := 0, slots := 0, locals := 89 } s m args below meth c H locs 0 0 (MQ below (qI D (wM cy b0 rr.2 []) (rr.1) A) args s 0 0 A) (F0 m 46 ls [])) ∧ (∀ (uv : MS) (x4 : Int32) (x5 : Int32) (x6 : Int32) (x7 : Int32) (H : Heap) (locs : List Loc) (ls : Array Slot), lpn (st_X4_year x1 x2 x3) fu (.inr (.inl (uv, x4, x5, x6, x7))) = some rr → va_P D vwCl (wM cy b0 uv []) H → va_D A (wM cy b0 uv []) → va_S A s.heap H locs → lv_has ls 10 [(0, .ref (b0 0)), (1, .int x1), (2, .int x2), (3, .int x3), (4, .int x4), (5, .int x5), (6, .int x6), (7, .int x7)] → W p l e { frames := 4, cells := 0, slots := 0, locals := 89 } s m args below meth c H locs 0 0 (MQ below (qI D (wM cy b0 rr.2 []) (rr.1) A) args s 0 0 A) (F0 m 92 ls [])) ∧ (∀ (uv : MS) (x5 : Int32) (x6 : Int32) (x7 : Int32) (x8 : Int32) (H : Heap) (locs : List Loc) (ls : Array Slot), lpn (st_X4_year x1 x2 x3) fu (.inr (.inr (.inl (uv, x5, x6, x7, x8)))) = some rr → va_P D vwCl (wM cy b0 uv []) H → va_D A (wM cy b0 uv []) → va_S A s.heap H locs → lv_has ls 10 [(0, .ref (b0 0)), (1, .int x1), (2, .int x2), (3, .int x3), (5, .int x5), (6, .int x6), (7, .int x7), (8, .int x8)] → W p l e { frames := 4, cells := 0, slots := 0, locals := 89 } s m args below meth c H locs 0 0 (MQ below (qI D (wM cy b0 rr.2 []) (rr.1) A) args s 0 0 A) (F0 m 132 ls [])) ∧ (∀ (uv : MS) (x5 : Int32) (x6 : Int32) (x7 : Int32) (x8 : Int32) (x9 : Int32) (H : Heap) (locs : List Loc) (ls : Array Slot), lpn (st_X4_year x1 x2 x3) fu (.inr (.inr (.inr (uv, x5, x6, x7, x8, x9)))) = some rr → va_P D vwCl (wM cy b0 uv []) H → va_D A (wM cy b0 uv []) → va_S A s.heap H locs → lv_has ls 10 [(0, .ref (b0 0)), (1, .int x1), (2, .int x2), (3, .int x3), (5, .int x5), (6, .int x6), (7, .int x7), (8, .int x8), (9, .int x9)] → W p l e { frames := 4, cells := 0, slots := 0, locals := 89 } s m args below meth c H locs 0 0 (MQ below (qI D (wM cy b0 rr.2 []) (rr.1) A) args s 0 0 A) (F0 m 154 ls []))
set_option maxHeartbeats 4000000 in
set_option maxRecDepth 100000 in
theorem w_X4_year_154 {p : Program} {l : Launch} {e : Env} {s : State} {m : MethodId} {args : Array Value} {below : List Frame} {meth : Method} {c : Code} {A : Nat → Prop} {D : va_G} {cy : Nat → ClassId} {b0 : Nat → Nat} {x1 : Int32} {x2 : Int32} {x3 : Int32} {fu : Nat} {rr : Int32 × MS} (M : kM p s m args meth c cX4_year 10 (some .int) RX4 wsX4_year A D cy) (ih : I_X4_year p l e s m args below meth c A D cy b0 x1 x2 x3 fu rr) {uv : MS} {x5 : Int32} {x6 : Int32} {x7 : Int32} {x8 : Int32} {x9 : Int32} {oo : ((MS × Int32 × Int32 × Int32) ⊕ (MS × Int32 × Int32 × Int32 × Int32) ⊕ (MS × Int32 × Int32 × Int32 × Int32) ⊕ (MS × Int32 × Int32 × Int32 × Int32 × Int32)) ⊕ (Int32 × MS)} (h : f_X4_year_154 x1 x2 x3 uv x5 x6 x7 x8 x9 = some oo) (hm : lpo (st_X4_year x1 x2 x3) fu oo rr) {H : Heap} {locs : List Loc} {ls : Array Slot} (hP : va_P D vwCl (wM cy b0 uv []) H) (hD : va_D A (wM cy b0 uv [])) (hS : va_S A s.heap H locs) (hl : lv_has ls 10 [(0, .ref (b0 0)), (1, .int x1), (2, .int x2), (3, .int x3), (5, .int x5), (6, .int x6), (7, .int x7), (8, .int x8), (9, .int x9)]) : W p l e { frames := 4, cells := 0, slots := 0, locals := 89 } s m args below meth c H locs 0 0 (MQ below (qI D (wM cy b0 rr.2 []) (rr.1) A) args s 0 0 A) (F0 m 154 ls []) := by
  obtain ⟨hx, hb, hr, hml, hown, hts, hlk, hA, hK⟩ := id M
  unfold f_X4_year_154 at h
  refine lv_iload hx hb dX4_year_154 (lv_at hl 8 rfl) ?_
  refine lv_aload_n hx hb dX4_year_156 rfl (lv_at hl 0 rfl) ?_
  refine va_get (D := D) (ci := 4) (v := .ref (b0 7)) (C := RX4) (T := TX4) (N := 21) hx hb hts iX4_year_X4 hown hK.1 hP 0 rfl rfl 12 (by decide) (hts _ mX4_year_3) (fun _ h9 => h9) rfl dX4_year_157 ?_
  refine lv_iload hx hb dX4_year_160 (lv_at hl 7 rfl) ?_
  obtain ⟨b_1, h⟩ := ck_s h
  refine va_iald hx hb hK.1 hP 7 1 rfl rfl b_1 dX4_year_162 ?_
  refine lv_icmp_ge (tgt := 191) hx hb dX4_year_163 (by decide) (fun c_2 => ?_) (fun c_2 => ?_)
  · replace h := it_p c_2 h
    obtain ⟨x8_3, ex8_3⟩ : ∃ z : Int32, z = (x8 + (1 : Int32)) := ⟨_, rfl⟩
    replace h := nm_s h ex8_3
    refine lv_iinc (v := x8_3) (lv' := [(8, .int x8_3), (0, .ref (b0 0)), (1, .int x1), (2, .int x2), (3, .int x3), (5, .int x5), (6, .int x6), (7, .int x7), (9, .int x9)]) hx hb dX4_year_191 hl (k := 7) rfl (by rw [ex8_3]; rfl) (by decide) rfl (fun ls hl => ?_)
    refine lv_goto (tgt := 132) hx hb dX4_year_194 (by decide) ?_
    cases h
    exact ih.2.2.1 uv x5 x6 x7 x8_3 _ _ _ hm hP hD hS (lv_sub hl [1, 2, 3, 4, 5, 6, 7, 0] rfl)
  · replace h := it_n c_2 h
    refine lv_iload hx hb dX4_year_166 (lv_at hl 6 rfl) ?_
    refine lv_aload_n hx hb dX4_year_168 rfl (lv_at hl 0 rfl) ?_
    refine va_get (D := D) (ci := 4) (v := .ref (b0 8)) (C := RX4) (T := TX4) (N := 21) hx hb hts iX4_year_X4 hown hK.1 hP 0 rfl rfl 13 (by decide) (hts _ mX4_year_4) (fun _ h9 => h9) rfl dX4_year_169 ?_
    refine lv_iload hx hb dX4_year_172 (lv_at hl 7 rfl) ?_
    refine lv_iload hx hb dX4_year_174 (lv_at hl 8 rfl) ?_
    obtain ⟨r_4, hr_4, h⟩ := bn_s h
    refine kcSi (As := [.int x8, .int x9]) (rest := [.ref (b0 8), .int x7]) ⟨hx, hb, hml, hown, hts⟩ (va_cwS 2 hts gX4_year_X4_at rfl rfl rfl eX4_at ⟨Nat.le_of_ble_eq_true rfl, Nat.le_of_ble_eq_true rfl⟩) (c_X4_at  hr_4) hK hP hS hA rfl hl.1 rfl (Nat.le_of_ble_eq_true rfl) dX4_year_176 (fun H locs hP hS => ?_)
    refine lv_iconst (v := 1) hx hb dX4_year_179 (by decide) ?_
    refine lv_iadd hx hb dX4_year_180 ?_
    obtain ⟨b_5, h⟩ := ck_s h
    refine va_iald hx hb hK.1 hP 8 1 rfl rfl b_5 dX4_year_181 ?_
    refine lv_iadd hx hb dX4_year_182 ?_
    refine lv_topi (fun x7_6 ex7_6 => ?_)
    replace h := nm_s h ex7_6
    refine lv_istore (lv' := [(7, .int x7_6), (0, .ref (b0 0)), (1, .int x1), (2, .int x2), (3, .int x3), (5, .int x5), (6, .int x6), (8, .int x8), (9, .int x9)]) hx hb dX4_year_183 hl (by decide) rfl (fun ls hl => ?_)
    obtain ⟨x9_7, ex9_7⟩ : ∃ z : Int32, z = (x9 + (1 : Int32)) := ⟨_, rfl⟩
    replace h := nm_s h ex9_7
    refine lv_iinc (v := x9_7) (lv' := [(9, .int x9_7), (7, .int x7_6), (0, .ref (b0 0)), (1, .int x1), (2, .int x2), (3, .int x3), (5, .int x5), (6, .int x6), (8, .int x8)]) hx hb dX4_year_185 hl (k := 8) rfl (by rw [ex9_7]; rfl) (by decide) rfl (fun ls hl => ?_)
    refine lv_goto (tgt := 154) hx hb dX4_year_188 (by decide) ?_
    cases h
    exact ih.2.2.2 uv x5 x6 x7_6 x8 x9_7 _ _ _ hm hP hD hS (lv_sub hl [2, 3, 4, 5, 6, 7, 1, 8, 0] rfl)
set_option maxHeartbeats 4000000 in
set_option maxRecDepth 100000 in
theorem w_X4_year_132 {p : Program} {l : Launch} {e : Env} {s : State} {m : MethodId} {args : Array Value} {below : List Frame} {meth : Method} {c : Code} {A : Nat → Prop} {D : va_G} {cy : Nat → ClassId} {b0 : Nat → Nat} {x1 : Int32} {x2 : Int32} {x3 : Int32} {fu : Nat} {rr : Int32 × MS} (M : kM p s m args meth c cX4_year 10 (some .int) RX4 wsX4_year A D cy) (ih : I_X4_year p l e s m args below meth c A D cy b0 x1 x2 x3 fu rr) {uv : MS} {x5 : Int32} {x6 : Int32} {x7 : Int32} {x8 : Int32} {oo : ((MS × Int32 × Int32 × Int32) ⊕ (MS × Int32 × Int32 × Int32 × Int32) ⊕ (MS × Int32 × Int32 × Int32 × Int32) ⊕ (MS × Int32 × Int32 × Int32 × Int32 × Int32)) ⊕ (Int32 × MS)} (h : f_X4_year_132 x1 x2 x3 uv x5 x6 x7 x8 = some oo) (hm : lpo (st_X4_year x1 x2 x3) fu oo rr) {H : Heap} {locs : List Loc} {ls : Array Slot} (hP : va_P D vwCl (wM cy b0 uv []) H) (hD : va_D A (wM cy b0 uv [])) (hS : va_S A s.heap H locs) (hl : lv_has ls 10 [(0, .ref (b0 0)), (1, .int x1), (2, .int x2), (3, .int x3), (5, .int x5), (6, .int x6), (7, .int x7), (8, .int x8)]) : W p l e { frames := 4, cells := 0, slots := 0, locals := 89 } s m args below meth c H locs 0 0 (MQ below (qI D (wM cy b0 rr.2 []) (rr.1) A) args s 0 0 A) (F0 m 132 ls []) := by
  obtain ⟨hx, hb, hr, hml, hown, hts, hlk, hA, hK⟩ := id M
  unfold f_X4_year_132 at h
  refine lv_iload hx hb dX4_year_132 (lv_at hl 7 rfl) ?_
  refine lv_bipush (v := 6) hx hb dX4_year_134 (by decide) ?_
  refine lv_icmp_ge (tgt := 197) hx hb dX4_year_136 (by decide) (fun c_1 => ?_) (fun c_1 => ?_)
  · replace h := it_p c_1 h
    refine lv_iload_n hx hb dX4_year_197 rfl (lv_at hl 3 rfl) ?_
    refine lv_if_ne (tgt := 206) hx hb dX4_year_198 (by decide) (fun c_2 => ?_) (fun c_2 => ?_)
    · replace h := it_n c_2 h
      refine lv_iload_n hx hb dX4_year_206 rfl (lv_at hl 3 rfl) ?_
      refine lv_iconst (v := 1) hx hb dX4_year_207 (by decide) ?_
      refine lv_icmp_ne (tgt := 216) hx hb dX4_year_208 (by decide) (fun c_3 => ?_) (fun c_3 => ?_)
      · replace h := it_n c_3 h
        refine lv_iload hx hb dX4_year_216 (lv_at hl 6 rfl) ?_
        cases h
        have hm : _ = rr := hm
        subst hm
        exact kretI hx hb hr hlk hP hS dX4_year_218
      · replace h := it_p c_3 h
        refine lv_iload hx hb dX4_year_211 (lv_at hl 5 rfl) ?_
        refine lv_goto (tgt := 218) hx hb dX4_year_213 (by decide) ?_
        cases h
        have hm : _ = rr := hm
        subst hm
        exact kretI hx hb hr hlk hP hS dX4_year_218
    · replace h := it_p c_2 h
      refine lv_iload hx hb dX4_year_201 (lv_at hl 4 rfl) ?_
      refine lv_goto (tgt := 218) hx hb dX4_year_203 (by decide) ?_
      cases h
      have hm : _ = rr := hm
      subst hm
      exact kretI hx hb hr hlk hP hS dX4_year_218
  · replace h := it_n c_1 h
    refine lv_iload hx hb dX4_year_139 (lv_at hl 5 rfl) ?_
    refine lv_aload_n hx hb dX4_year_141 rfl (lv_at hl 0 rfl) ?_
    refine va_get (D := D) (ci := 4) (v := .ref (b0 7)) (C := RX4) (T := TX4) (N := 21) hx hb hts iX4_year_X4 hown hK.1 hP 0 rfl rfl 12 (by decide) (hts _ mX4_year_3) (fun _ h9 => h9) rfl dX4_year_142 ?_
    refine lv_iload hx hb dX4_year_145 (lv_at hl 7 rfl) ?_
    obtain ⟨b_4, h⟩ := ck_s h
    refine va_iald hx hb hK.1 hP 7 1 rfl rfl b_4 dX4_year_147 ?_
    refine lv_iadd hx hb dX4_year_148 ?_
    refine lv_topi (fun x6_5 ex6_5 => ?_)
    replace h := nm_s h ex6_5
    refine lv_istore (lv' := [(6, .int x6_5), (0, .ref (b0 0)), (1, .int x1), (2, .int x2), (3, .int x3), (5, .int x5), (7, .int x7), (8, .int x8)]) hx hb dX4_year_149 hl (by decide) rfl (fun ls hl => ?_)
    refine lv_iconst (v := 0) hx hb dX4_year_151 (by decide) ?_
    refine lv_istore (lv' := [(9, .int (0 : Int32)), (6, .int x6_5), (0, .ref (b0 0)), (1, .int x1), (2, .int x2), (3, .int x3), (5, .int x5), (7, .int x7), (8, .int x8)]) hx hb dX4_year_152 hl (by decide) rfl (fun ls hl => ?_)
    cases h
    exact ih.2.2.2 uv x5 x6_5 x7 x8 (0 : Int32) _ _ _ hm hP hD hS (lv_sub hl [2, 3, 4, 5, 6, 1, 7, 8, 0] rfl)
set_option maxHeartbeats 4000000 in
set_option maxRecDepth 100000 in
theorem w_X4_year_92 {p : Program} {l : Launch} {e : Env} {s : State} {m : MethodId} {args : Array Value} {below : List Frame} {meth : Method} {c : Code} {A : Nat → Prop} {D : va_G} {cy : Nat → ClassId} {b0 : Nat → Nat} {x1 : Int32} {x2 : Int32} {x3 : Int32} {fu : Nat} {rr : Int32 × MS} (M : kM p s m args meth c cX4_year 10 (some .int) RX4 wsX4_year A D cy) (ih : I_X4_year p l e s m args below meth c A D cy b0 x1 x2 x3 fu rr) {uv : MS} {x4 : Int32} {x5 : Int32} {x6 : Int32} {x7 : Int32} {oo : ((MS × Int32 × Int32 × Int32) ⊕ (MS × Int32 × Int32 × Int32 × Int32) ⊕ (MS × Int32 × Int32 × Int32 × Int32) ⊕ (MS × Int32 × Int32 × Int32 × Int32 × Int32)) ⊕ (Int32 × MS)} (h : f_X4_year_92 x1 x2 x3 uv x4 x5 x6 x7 = some oo) (hm : lpo (st_X4_year x1 x2 x3) fu oo rr) {H : Heap} {locs : List Loc} {ls : Array Slot} (hP : va_P D vwCl (wM cy b0 uv []) H) (hD : va_D A (wM cy b0 uv [])) (hS : va_S A s.heap H locs) (hl : lv_has ls 10 [(0, .ref (b0 0)), (1, .int x1), (2, .int x2), (3, .int x3), (4, .int x4), (5, .int x5), (6, .int x6), (7, .int x7)]) : W p l e { frames := 4, cells := 0, slots := 0, locals := 89 } s m args below meth c H locs 0 0 (MQ below (qI D (wM cy b0 rr.2 []) (rr.1) A) args s 0 0 A) (F0 m 92 ls []) := by
  obtain ⟨hx, hb, hr, hml, hown, hts, hlk, hA, hK⟩ := id M
  unfold f_X4_year_92 at h
  refine lv_aload_n hx hb dX4_year_92 rfl (lv_at hl 0 rfl) ?_
  refine lv_iload hx hb dX4_year_93 (lv_at hl 7 rfl) ?_
  obtain ⟨r_1, hr_1, h⟩ := bn_s h
  refine kcVi (As := [.int x7]) (rest := []) (ws' := (wM cy b0 uv [])) ⟨hx, hb, hml, hown, hts⟩ (cwV 1 hts gX4_year_X4_canPay rfl rfl rfl ⟨rfl, eX4_canPay⟩ ⟨Nat.le_of_ble_eq_true rfl, Nat.le_of_ble_eq_true rfl⟩) (c_X4_canPay b0 hr_1) hK hP hD hS hA [0, 1, 2, 3, 4, 5, 6, 7, 8, 9, 10, 11, 12, 13] [] (by decide) rfl rfl 4 rfl rfl [(b0 0), (b0 1), (b0 2), (b0 3), (b0 4), (b0 5), (b0 6), (b0 7), (b0 8), (b0 9), (b0 10), (b0 11), (b0 12), (b0 13)] rfl rfl rfl [] rfl rfl rfl rfl hl.1 rfl (Nat.le_of_ble_eq_true rfl) dX4_year_95 (fun H locs hP hD hS => ?_)
  refine lv_if_eq (tgt := 113) hx hb dX4_year_98 (by decide) (fun c_2 => ?_) (fun c_2 => ?_)
  · replace h := it_p c_2 h
    refine lv_aload_n hx hb dX4_year_113 rfl (lv_at hl 0 rfl) ?_
    obtain ⟨r_3, hr_3, h⟩ := bn_s h
    refine kcVv (As := []) (rest := []) (ws' := (wM cy b0 r_3 [])) ⟨hx, hb, hml, hown, hts⟩ (cwV 0 hts gX4_year_X4_pass rfl rfl rfl ⟨rfl, eX4_pass⟩ ⟨Nat.le_of_ble_eq_true rfl, Nat.le_of_ble_eq_true rfl⟩) (c_X4_pass b0 hr_3) hK hP hD hS hA [0, 1, 2, 3, 4, 5, 6, 7, 8, 9, 10, 11, 12, 13] [] (by decide) rfl rfl 4 rfl rfl [(b0 0), (b0 1), (b0 2), (b0 3), (b0 4), (b0 5), (b0 6), (b0 7), (b0 8), (b0 9), (b0 10), (b0 11), (b0 12), (b0 13)] rfl rfl rfl [] rfl rfl rfl rfl hl.1 rfl (Nat.le_of_ble_eq_true rfl) dX4_year_114 (fun H locs hP hD hS => ?_)
    obtain ⟨x6_4, ex6_4⟩ : ∃ z : Int32, z = (x6 + (1 : Int32)) := ⟨_, rfl⟩
    replace h := nm_s h ex6_4
    refine lv_iinc (v := x6_4) (lv' := [(6, .int x6_4), (0, .ref (b0 0)), (1, .int x1), (2, .int x2), (3, .int x3), (4, .int x4), (5, .int x5), (7, .int x7)]) hx hb dX4_year_117 hl (k := 6) rfl (by rw [ex6_4]; rfl) (by decide) rfl (fun ls hl => ?_)
    refine lv_goto (tgt := 46) hx hb dX4_year_120 (by decide) ?_
    cases h
    exact ih.1 r_3 x4 x5 x6_4 _ _ _ hm hP hD hS (lv_sub hl [1, 2, 3, 4, 5, 6, 0] rfl)
  · replace h := it_n c_2 h
    refine lv_aload_n hx hb dX4_year_101 rfl (lv_at hl 0 rfl) ?_
    refine lv_iload hx hb dX4_year_102 (lv_at hl 7 rfl) ?_
    obtain ⟨r_5, hr_5, h⟩ := bn_s h
    refine kcVv (As := [.int x7]) (rest := []) (ws' := (wM cy b0 r_5 [])) ⟨hx, hb, hml, hown, hts⟩ (cwV 1 hts gX4_year_X4_pay rfl rfl rfl ⟨rfl, eX4_pay⟩ ⟨Nat.le_of_ble_eq_true rfl, Nat.le_of_ble_eq_true rfl⟩) (c_X4_pay b0 hr_5) hK hP hD hS hA [0, 1, 2, 3, 4, 5, 6, 7, 8, 9, 10, 11, 12, 13] [] (by decide) rfl rfl 4 rfl rfl [(b0 0), (b0 1), (b0 2), (b0 3), (b0 4), (b0 5), (b0 6), (b0 7), (b0 8), (b0 9), (b0 10), (b0 11), (b0 12), (b0 13)] rfl rfl rfl [] rfl rfl rfl rfl hl.1 rfl (Nat.le_of_ble_eq_true rfl) dX4_year_104 (fun H locs hP hD hS => ?_)
    obtain ⟨x5_6, ex5_6⟩ : ∃ z : Int32, z = (x5 + (1 : Int32)) := ⟨_, rfl⟩
    replace h := nm_s h ex5_6
    refine lv_iinc (v := x5_6) (lv' := [(5, .int x5_6), (0, .ref (b0 0)), (1, .int x1), (2, .int x2), (3, .int x3), (4, .int x4), (6, .int x6), (7, .int x7)]) hx hb dX4_year_107 hl (k := 5) rfl (by rw [ex5_6]; rfl) (by decide) rfl (fun ls hl => ?_)
    refine lv_goto (tgt := 92) hx hb dX4_year_110 (by decide) ?_
    cases h
    exact ih.2.1 r_5 x4 x5_6 x6 x7 _ _ _ hm hP hD hS (lv_sub hl [1, 2, 3, 4, 5, 0, 6, 7] rfl)
set_option maxHeartbeats 4000000 in
set_option maxRecDepth 100000 in
theorem w_X4_year_46 {p : Program} {l : Launch} {e : Env} {s : State} {m : MethodId} {args : Array Value} {below : List Frame} {meth : Method} {c : Code} {A : Nat → Prop} {D : va_G} {cy : Nat → ClassId} {b0 : Nat → Nat} {x1 : Int32} {x2 : Int32} {x3 : Int32} {fu : Nat} {rr : Int32 × MS} (M : kM p s m args meth c cX4_year 10 (some .int) RX4 wsX4_year A D cy) (ih : I_X4_year p l e s m args below meth c A D cy b0 x1 x2 x3 fu rr) {uv : MS} {x4 : Int32} {x5 : Int32} {x6 : Int32} {oo : ((MS × Int32 × Int32 × Int32) ⊕ (MS × Int32 × Int32 × Int32 × Int32) ⊕ (MS × Int32 × Int32 × Int32 × Int32) ⊕ (MS × Int32 × Int32 × Int32 × Int32 × Int32)) ⊕ (Int32 × MS)} (h : f_X4_year_46 x1 x2 x3 uv x4 x5 x6 = some oo) (hm : lpo (st_X4_year x1 x2 x3) fu oo rr) {H : Heap} {locs : List Loc} {ls : Array Slot} (hP : va_P D vwCl (wM cy b0 uv []) H) (hD : va_D A (wM cy b0 uv [])) (hS : va_S A s.heap H locs) (hl : lv_has ls 10 [(0, .ref (b0 0)), (1, .int x1), (2, .int x2), (3, .int x3), (4, .int x4), (5, .int x5), (6, .int x6)]) : W p l e { frames := 4, cells := 0, slots := 0, locals := 89 } s m args below meth c H locs 0 0 (MQ below (qI D (wM cy b0 rr.2 []) (rr.1) A) args s 0 0 A) (F0 m 46 ls []) := by
  obtain ⟨hx, hb, hr, hml, hown, hts, hlk, hA, hK⟩ := id M
  unfold f_X4_year_46 at h
  refine lv_iload hx hb dX4_year_46 (lv_at hl 6 rfl) ?_
  refine lv_iload_n hx hb dX4_year_48 rfl (lv_at hl 2 rfl) ?_
  refine lv_icmp_ge (tgt := 123) hx hb dX4_year_49 (by decide) (fun c_1 => ?_) (fun c_1 => ?_)
  · replace h := it_p c_1 h
    refine lv_iconst (v := 0) hx hb dX4_year_123 (by decide) ?_
    refine lv_istore (lv' := [(6, .int (0 : Int32)), (0, .ref (b0 0)), (1, .int x1), (2, .int x2), (3, .int x3), (4, .int x4), (5, .int x5)]) hx hb dX4_year_124 hl (by decide) rfl (fun ls hl => ?_)
    refine lv_iconst (v := 0) hx hb dX4_year_126 (by decide) ?_
    refine lv_istore (lv' := [(7, .int (0 : Int32)), (6, .int (0 : Int32)), (0, .ref (b0 0)), (1, .int x1), (2, .int x2), (3, .int x3), (4, .int x4), (5, .int x5)]) hx hb dX4_year_127 hl (by decide) rfl (fun ls hl => ?_)
    refine lv_iconst (v := 0) hx hb dX4_year_129 (by decide) ?_
    refine lv_istore (lv' := [(8, .int (0 : Int32)), (7, .int (0 : Int32)), (6, .int (0 : Int32)), (0, .ref (b0 0)), (1, .int x1), (2, .int x2), (3, .int x3), (4, .int x4), (5, .int x5)]) hx hb dX4_year_130 hl (by decide) rfl (fun ls hl => ?_)
    cases h
    exact ih.2.2.1 uv x5 (0 : Int32) (0 : Int32) (0 : Int32) _ _ _ hm hP hD hS (lv_sub hl [3, 4, 5, 6, 8, 2, 1, 0] rfl)
  · replace h := it_n c_1 h
    refine lv_bipush (v := 75) hx hb dX4_year_52 (by decide) ?_
    refine lv_iload hx hb dX4_year_54 (lv_at hl 4 rfl) ?_
    refine lv_imul hx hb dX4_year_56 ?_
    refine lv_bipush (v := 74) hx hb dX4_year_57 (by decide) ?_
    refine lv_iadd hx hb dX4_year_59 ?_
    refine lv_ldc (v := 65537) hx hb hown (hts _ mX4_year_1) dX4_year_60 ?_
    refine lv_irem hx hb dX4_year_62 (by decide) ?_
    refine lv_topi (fun x4_2 ex4_2 => ?_)
    replace h := nm_s h ex4_2
    refine lv_istore (lv' := [(4, .int x4_2), (0, .ref (b0 0)), (1, .int x1), (2, .int x2), (3, .int x3), (5, .int x5), (6, .int x6)]) hx hb dX4_year_63 hl (by decide) rfl (fun ls hl => ?_)
    refine lv_iload hx hb dX4_year_65 (lv_at hl 0 rfl) ?_
    refine lv_bipush (v := 6) hx hb dX4_year_67 (by decide) ?_
    refine lv_irem hx hb dX4_year_69 (by decide) ?_
    refine lv_topi (fun x7_3 ex7_3 => ?_)
    replace h := nm_s h ex7_3
    refine lv_istore (lv' := [(7, .int x7_3), (4, .int x4_2), (0, .ref (b0 0)), (1, .int x1), (2, .int x2), (3, .int x3), (5, .int x5), (6, .int x6)]) hx hb dX4_year_70 hl (by decide) rfl (fun ls hl => ?_)
    refine lv_aload_n hx hb dX4_year_72 rfl (lv_at hl 2 rfl) ?_
    refine va_get (D := D) (ci := 4) (v := .ref (b0 6)) (C := RX4) (T := TX4) (N := 21) hx hb hts iX4_year_X4 hown hK.1 hP 0 rfl rfl 11 (by decide) (hts _ mX4_year_2) (fun _ h9 => h9) rfl dX4_year_73 ?_
    refine lv_iload hx hb dX4_year_76 (lv_at hl 0 rfl) ?_
    refine lv_dup2_11 hx hb dX4_year_78 rfl rfl ?_
    obtain ⟨b_4, h⟩ := ck_s h
    refine va_iald hx hb hK.1 hP 6 1 rfl rfl b_4 dX4_year_79 ?_
    refine lv_iconst (v := 1) hx hb dX4_year_80 (by decide) ?_
    refine lv_iload hx hb dX4_year_81 (lv_at hl 1 rfl) ?_
    refine lv_bipush (v := 6) hx hb dX4_year_83 (by decide) ?_
    refine lv_idiv hx hb dX4_year_85 (by decide) ?_
    refine lv_bipush (v := 9) hx hb dX4_year_86 (by decide) ?_
    refine lv_irem hx hb dX4_year_88 (by decide) ?_
    refine lv_iadd hx hb dX4_year_89 ?_
    refine lv_iadd hx hb dX4_year_90 ?_
    refine va_iast hx hb hK.1 hP hD hS 6 1 rfl rfl b_4 dX4_year_91 (fun H locs hP hD hS => ?_)
    obtain ⟨uv_5, euv_5⟩ : ∃ z : MS, z = (uv.1, uv.2.1, uv.2.2.1, uv.2.2.2.1, uv.2.2.2.2.1, uv.2.2.2.2.2.1, uv.2.2.2.2.2.2.1, uv.2.2.2.2.2.2.2.1, uv.2.2.2.2.2.2.2.2.1, uv.2.2.2.2.2.2.2.2.2.1, uv.2.2.2.2.2.2.2.2.2.2.1, (upd uv.2.2.2.2.2.2.2.2.2.2.2.1 x7_3.toNatClampNeg ((uv.2.2.2.2.2.2.2.2.2.2.2.1 x7_3.toNatClampNeg) + ((1 : Int32) + ((x4_2 / (6 : Int32)) - (x4_2 / (6 : Int32)) / (9 : Int32) * (9 : Int32))))), uv.2.2.2.2.2.2.2.2.2.2.2.2) := ⟨_, rfl⟩
    replace h := nm_s h euv_5
    have hP : va_P D vwCl (wM cy b0 uv_5 []) H := by subst euv_5; exact hP
    have hD : va_D A (wM cy b0 uv_5 []) := hD.lk [(b0 0), (b0 1), (b0 2), (b0 3), (b0 4), (b0 5), (b0 6), (b0 7), (b0 8), (b0 9), (b0 10), (b0 11), (b0 12), (b0 13)] rfl rfl
    cases h
    exact ih.2.1 uv_5 x4_2 x5 x6 x7_3 _ _ _ hm hP hD hS (lv_sub hl [2, 3, 4, 5, 1, 6, 7, 0] rfl)
set_option maxHeartbeats 4000000 in
set_option maxRecDepth 100000 in
theorem w_X4_year_0 {p : Program} {l : Launch} {e : Env} {s : State} {m : MethodId} {args : Array Value} {below : List Frame} {meth : Method} {c : Code} {A : Nat → Prop} {D : va_G} {cy : Nat → ClassId} {b0 : Nat → Nat} {x1 : Int32} {x2 : Int32} {x3 : Int32} {fu : Nat} {rr : Int32 × MS} (M : kM p s m args meth c cX4_year 10 (some .int) RX4 wsX4_year A D cy) (ih : I_X4_year p l e s m args below meth c A D cy b0 x1 x2 x3 fu rr) {uv : MS} {oo : ((MS × Int32 × Int32 × Int32) ⊕ (MS × Int32 × Int32 × Int32 × Int32) ⊕ (MS × Int32 × Int32 × Int32 × Int32) ⊕ (MS × Int32 × Int32 × Int32 × Int32 × Int32)) ⊕ (Int32 × MS)} (h : f_X4_year_0 uv x1 x2 x3 = some oo) (hm : lpo (st_X4_year x1 x2 x3) fu oo rr) {H : Heap} {locs : List Loc} {ls : Array Slot} (hP : va_P D vwCl (wM cy b0 uv []) H) (hD : va_D A (wM cy b0 uv [])) (hS : va_S A s.heap H locs) (hl : lv_has ls 10 [(0, .ref (b0 0)), (1, .int x1), (2, .int x2), (3, .int x3)]) : W p l e { frames := 4, cells := 0, slots := 0, locals := 89 } s m args below meth c H locs 0 0 (MQ below (qI D (wM cy b0 rr.2 []) (rr.1) A) args s 0 0 A) (F0 m 0 ls []) := by
  obtain ⟨hx, hb, hr, hml, hown, hts, hlk, hA, hK⟩ := id M
  unfold f_X4_year_0 at h
  refine lv_iload_n hx hb dX4_year_0 rfl (lv_at hl 1 rfl) ?_
  refine lv_iconst (v := 0) hx hb dX4_year_1 (by decide) ?_
  refine lv_sipush (v := 9999) hx hb dX4_year_2 (by decide) ?_
  obtain ⟨r_1, hr_1, h⟩ := bn_s h
  refine kcSi (As := [.int x1, .int (0 : Int32), .int (9999 : Int32)]) (rest := []) ⟨hx, hb, hml, hown, hts⟩ (va_cwS 3 hts gX4_year_X4_in rfl rfl rfl eX4_in ⟨Nat.le_of_ble_eq_true rfl, Nat.le_of_ble_eq_true rfl⟩) (c_X4_in  hr_1) hK hP hS hA rfl hl.1 rfl (Nat.le_of_ble_eq_true rfl) dX4_year_5 (fun H locs hP hS => ?_)
  refine lv_if_eq (tgt := 30) hx hb dX4_year_8 (by decide) (fun c_2 => ?_) (fun c_2 => ?_)
  · replace h := it_p c_2 h
    refine lv_bipush (v := (-2)) hx hb dX4_year_30 (by decide) ?_
    cases h
    have hm : _ = rr := hm
    subst hm
    exact kretI hx hb hr hlk hP hS dX4_year_32
  · replace h := it_n c_2 h
    refine lv_iload_n hx hb dX4_year_11 rfl (lv_at hl 2 rfl) ?_
    refine lv_iconst (v := 1) hx hb dX4_year_12 (by decide) ?_
    refine lv_bipush (v := 99) hx hb dX4_year_13 (by decide) ?_
    obtain ⟨r_3, hr_3, h⟩ := bn_s h
    refine kcSi (As := [.int x2, .int (1 : Int32), .int (99 : Int32)]) (rest := []) ⟨hx, hb, hml, hown, hts⟩ (va_cwS 3 hts gX4_year_X4_in rfl rfl rfl eX4_in ⟨Nat.le_of_ble_eq_true rfl, Nat.le_of_ble_eq_true rfl⟩) (c_X4_in  hr_3) hK hP hS hA rfl hl.1 rfl (Nat.le_of_ble_eq_true rfl) dX4_year_15 (fun H locs hP hS => ?_)
    refine lv_if_eq (tgt := 30) hx hb dX4_year_18 (by decide) (fun c_4 => ?_) (fun c_4 => ?_)
    · replace h := it_p c_4 h
      refine lv_bipush (v := (-2)) hx hb dX4_year_30 (by decide) ?_
      cases h
      have hm : _ = rr := hm
      subst hm
      exact kretI hx hb hr hlk hP hS dX4_year_32
    · replace h := it_n c_4 h
      refine lv_iload_n hx hb dX4_year_21 rfl (lv_at hl 3 rfl) ?_
      refine lv_iconst (v := 0) hx hb dX4_year_22 (by decide) ?_
      refine lv_iconst (v := 2) hx hb dX4_year_23 (by decide) ?_
      obtain ⟨r_5, hr_5, h⟩ := bn_s h
      refine kcSi (As := [.int x3, .int (0 : Int32), .int (2 : Int32)]) (rest := []) ⟨hx, hb, hml, hown, hts⟩ (va_cwS 3 hts gX4_year_X4_in rfl rfl rfl eX4_in ⟨Nat.le_of_ble_eq_true rfl, Nat.le_of_ble_eq_true rfl⟩) (c_X4_in  hr_5) hK hP hS hA rfl hl.1 rfl (Nat.le_of_ble_eq_true rfl) dX4_year_24 (fun H locs hP hS => ?_)
      refine lv_if_ne (tgt := 33) hx hb dX4_year_27 (by decide) (fun c_6 => ?_) (fun c_6 => ?_)
      · replace h := it_n c_6 h
        refine lv_aload_n hx hb dX4_year_33 rfl (lv_at hl 0 rfl) ?_
        obtain ⟨r_7, hr_7, h⟩ := bn_s h
        refine kcVv (As := []) (rest := []) (ws' := (wM cy b0 r_7 [])) ⟨hx, hb, hml, hown, hts⟩ (cwV 0 hts gX4_year_X4_asNow rfl rfl rfl ⟨rfl, eX4_asNow⟩ ⟨Nat.le_of_ble_eq_true rfl, Nat.le_of_ble_eq_true rfl⟩) (c_X4_asNow b0 hr_7) hK hP hD hS hA [0, 1, 2, 3, 4, 5, 6, 7, 8, 9, 10, 11, 12, 13] [] (by decide) rfl rfl 4 rfl rfl [(b0 0), (b0 1), (b0 2), (b0 3), (b0 4), (b0 5), (b0 6), (b0 7), (b0 8), (b0 9), (b0 10), (b0 11), (b0 12), (b0 13)] rfl rfl rfl [] rfl rfl rfl rfl hl.1 rfl (Nat.le_of_ble_eq_true rfl) dX4_year_34 (fun H locs hP hD hS => ?_)
        refine lv_iload_n hx hb dX4_year_37 rfl (lv_at hl 1 rfl) ?_
        refine lv_istore (lv' := [(4, .int x1), (0, .ref (b0 0)), (1, .int x1), (2, .int x2), (3, .int x3)]) hx hb dX4_year_38 hl (by decide) rfl (fun ls hl => ?_)
        refine lv_iconst (v := 0) hx hb dX4_year_40 (by decide) ?_
        refine lv_istore (lv' := [(5, .int (0 : Int32)), (4, .int x1), (0, .ref (b0 0)), (1, .int x1), (2, .int x2), (3, .int x3)]) hx hb dX4_year_41 hl (by decide) rfl (fun ls hl => ?_)
        refine lv_iconst (v := 0) hx hb dX4_year_43 (by decide) ?_
        refine lv_istore (lv' := [(6, .int (0 : Int32)), (5, .int (0 : Int32)), (4, .int x1), (0, .ref (b0 0)), (1, .int x1), (2, .int x2), (3, .int x3)]) hx hb dX4_year_44 hl (by decide) rfl (fun ls hl => ?_)
        cases h
        exact ih.1 r_7 x1 (0 : Int32) (0 : Int32) _ _ _ hm hP hD hS (lv_sub hl [3, 4, 5, 6, 2, 1, 0] rfl)
      · replace h := it_p c_6 h
        refine lv_bipush (v := (-2)) hx hb dX4_year_30 (by decide) ?_
        cases h
        have hm : _ = rr := hm
        subst hm
        exact kretI hx hb hr hlk hP hS dX4_year_32
theorem wl_X4_year {p : Program} {l : Launch} {e : Env} {s : State} {m : MethodId} {args : Array Value} {below : List Frame} {meth : Method} {c : Code} {A : Nat → Prop} {D : va_G} {cy : Nat → ClassId} {b0 : Nat → Nat} {x1 : Int32} {x2 : Int32} {x3 : Int32} {rr : Int32 × MS} (M : kM p s m args meth c cX4_year 10 (some .int) RX4 wsX4_year A D cy) : ∀ fu : Nat, I_X4_year p l e s m args below meth c A D cy b0 x1 x2 x3 fu rr := by
  intro fu
  induction fu with
  | zero => exact ⟨(fun _ _ _ _ _ _ _ h => by cases h), (fun _ _ _ _ _ _ _ _ h => by cases h), (fun _ _ _ _ _ _ _ _ h => by cases h), (fun _ _ _ _ _ _ _ _ _ h => by cases h)⟩
  | succ fu ih =>
    refine ⟨?_, ?_, ?_, ?_⟩
    · intro uv x4 x5 x6 H locs ls h hP hD hS hl
      obtain ⟨o1, h1, h2⟩ := lpn_s h
      exact w_X4_year_46 M ih h1 h2 hP hD hS hl
    · intro uv x4 x5 x6 x7 H locs ls h hP hD hS hl
      obtain ⟨o1, h1, h2⟩ := lpn_s h
      exact w_X4_year_92 M ih h1 h2 hP hD hS hl
    · intro uv x5 x6 x7 x8 H locs ls h hP hD hS hl
      obtain ⟨o1, h1, h2⟩ := lpn_s h
      exact w_X4_year_132 M ih h1 h2 hP hD hS hl
    · intro uv x5 x6 x7 x8 x9 H locs ls h hP hD hS hl
      obtain ⟨o1, h1, h2⟩ := lpn_s h
      exact w_X4_year_154 M ih h1 h2 hP hD hS hl
theorem c_X4_year {l : Launch} {D : va_G} {cy : Nat → ClassId} (b0 : Nat → Nat) {uv : MS} {x1 : Int32} {x2 : Int32} {x3 : Int32} {rr : Int32 × MS} (h : f_X4_year uv x1 x2 x3 = some rr) : CI l D cy yX4_year wsX4_year { frames := 4, cells := 0, slots := 0, locals := 89 } [.ref (b0 0), .int x1, .int x2, .int x3] (wM cy b0 uv []) (rr.1) (wM cy b0 rr.2 []) := by
  refine kofI (cc := cX4_year) (maxL := 10) (ret := (some .int)) (by decide) rfl (Nat.le_of_ble_eq_true rfl) ?_
  intro p e s m below meth c A M ls hl hP hD hS
  obtain ⟨o1, fu, h1, h2⟩ := rnx_s h
  exact w_X4_year_0 M (wl_X4_year M fu) h1 h2 hP hD hS hl
theorem eX4_year : yX4_year.cls ≠ "java/lang/invoke/MethodHandle" ∧ yX4_year.cls ≠ "java/lang/invoke/VarHandle" ∧ (parseMethodDescriptor yX4_year.desc).map (fun d => d.parameters.length) = some 3 := by decide +kernel
