/-! printed by wip/gen/gen_law.py: the law's cases -/
theorem ad_X {x0 r0 r1 r2 r3 r4 r5 r6 : Nat} {k k2 : Int32} : (wX x0 r0 r1 r2 r3 r4 r5 r6 k2 []).map Prod.fst = (wX x0 r0 r1 r2 r3 r4 r5 r6 k []).map Prod.fst := rfl
theorem ad_V {cy : Nat → ClassId} {b : Nat → Nat} {v v2 : VS} : (wV cy b v2 []).map Prod.fst = (wV cy b v []).map Prod.fst := rfl
theorem ad_D {cy : Nat → ClassId} {b : Nat → Nat} {v v2 : DS} : (wD cy b v2 []).map Prod.fst = (wD cy b v []).map Prod.fst := rfl
theorem ad_Y {cy : Nat → ClassId} {b : Nat → Nat} {v v2 : YS} : (wY cy b v2 []).map Prod.fst = (wY cy b v []).map Prod.fst := rfl
theorem ad_M {cy : Nat → ClassId} {b : Nat → Nat} {v v2 : MS} : (wM cy b v2 []).map Prod.fst = (wM cy b v []).map Prod.fst := rfl
theorem ad_S {cy : Nat → ClassId} {q : Nat} {f f2 : AL} : (wS cy q f2 []).map Prod.fst = (wS cy q f []).map Prod.fst := rfl
/-- the blocks of the law's world -/
abbrev lB (cy : Nat → ClassId) (x0 : Nat) (b1 b2 b3 b4 b5 b6 : Nat → Nat) (q7 : Nat) (b8 : Nat → Nat) (st : LSt) : List va_W := [wX x0 (b1 0) (b2 0) (b3 0) (b4 0) (b5 0) (b6 0) q7 st.1 [], wV cy b1 st.2.1 [], wV cy b2 st.2.2.1 [], wV cy b3 st.2.2.2.1 [], wV cy b4 st.2.2.2.2.1 [], wD cy b5 st.2.2.2.2.2.1 [], wY cy b6 st.2.2.2.2.2.2.1 [], wS cy q7 st.2.2.2.2.2.2.2.1 [], wM cy b8 st.2.2.2.2.2.2.2.2 []]
set_option maxHeartbeats 4000000 in
set_option maxRecDepth 100000 in
theorem wL_0 {p : Program} {l : Launch} {e : Env} {s : State} {m : MethodId} {below : List Frame} {meth : Method} {c : Code} {Q : State → Prop} {A : Nat → Prop} {D : va_G} {cy : Nat → ClassId} {b L : Nat} {xs : Nat → Int32} {x0 : Nat} {b1 b2 b3 b4 b5 b6 : Nat → Nat} {q7 : Nat} {b8 : Nat → Nat} {x3 : Int32} (hx : p.tables.exec = Jvm.exec) (hb : c.code = code) (hml : c.maxLocals = 4) (hown : s.vm.findClass RL = some m.cls) (hts : ∀ w ∈ lw_tbl, w.before #[Value.ref b] s = true) (hX : va_X b L xs s s.heap) (hbl : b < s.heap.size) (hbA : ¬ A b) (hA : ∀ q, s.heap.size ≤ q → A q) (hK : kK D cy s) (hv1 : vp_in (x3 + 1) L) (hv2 : vp_in (x3 + 2) L) {st st' : LSt} (h : ls_0 st (xs (x3 + 1).toNatClampNeg) (xs (x3 + 2).toNatClampNeg) = some st') {H : Heap} {locs : List Loc} {ls : Array Slot} (hP : ∀ w ∈ lB cy x0 b1 b2 b3 b4 b5 b6 q7 b8 st, va_P D vwCl w H) (hD : dB A (lB cy x0 b1 b2 b3 b4 b5 b6 q7 b8 st)) (hS : va_S A s.heap H locs) (hl : lv_has ls 4 [(0, .ref b), (1, .ref x0), (2, .ref (b8 0)), (3, .int x3)]) (kk : ∀ (H : Heap) (locs : List Loc), (∀ w ∈ lB cy x0 b1 b2 b3 b4 b5 b6 q7 b8 st', va_P D vwCl w H) → dB A (lB cy x0 b1 b2 b3 b4 b5 b6 q7 b8 st') → va_S A s.heap H locs → W p l e room_1 s m #[Value.ref b] below meth c H locs 65 48897 Q (F0 m 851 ls [])) : W p l e room_1 s m #[Value.ref b] below meth c H locs 65 48897 Q (F0 m 152 ls []) := by
  unfold ls_0 at h
  refine lv_aload_n hx hb dL_law_152 rfl (lv_at hl 1 rfl) ?_
  refine lv_aload_n hx hb dL_law_153 rfl (lv_at hl 0 rfl) ?_
  refine lv_iload_n hx hb dL_law_154 rfl (lv_at hl 3 rfl) ?_
  refine lv_iconst (v := 1) hx hb dL_law_155 (by decide) ?_
  refine lv_iadd hx hb dL_law_156 ?_
  refine va_sld hx hb hX hbl hbA hS hv1 dL_law_157 ?_
  refine lv_aload_n hx hb dL_law_158 rfl (lv_at hl 0 rfl) ?_
  refine lv_iload_n hx hb dL_law_159 rfl (lv_at hl 3 rfl) ?_
  refine lv_iconst (v := 2) hx hb dL_law_160 (by decide) ?_
  refine lv_iadd hx hb dL_law_161 ?_
  refine va_sld hx hb hX hbl hbA hS hv2 dL_law_162 ?_
  obtain ⟨r1, hr1, h⟩ := bn_s h
  refine kcBi (bs' := [wX x0 (b1 0) (b2 0) (b3 0) (b4 0) (b5 0) (b6 0) q7 st.1 [], wV cy b1 r1.2 [], wV cy b2 st.2.2.1 [], wV cy b3 st.2.2.2.1 [], wV cy b4 st.2.2.2.2.1 [], wD cy b5 st.2.2.2.2.2.1 [], wY cy b6 st.2.2.2.2.2.2.1 [], wS cy q7 st.2.2.2.2.2.2.2.1 [], wM cy b8 st.2.2.2.2.2.2.2.2 []]) (bc := [wX x0 (b1 0) (b2 0) (b3 0) (b4 0) (b5 0) (b6 0) q7 st.1 [], wV cy b1 st.2.1 []]) (bc1 := [wX x0 (b1 0) (b2 0) (b3 0) (b4 0) (b5 0) (b6 0) q7 st.1 [], wV cy b1 r1.2 []]) (As := [.int (xs (x3 + 1).toNatClampNeg), .int (xs (x3 + 2).toNatClampNeg)]) (rest := []) ⟨hx, hb, hml, hown, hts⟩ (cwV 2 hts gT_X3_money rfl rfl rfl ⟨rfl, eX3_money⟩ ⟨Nat.le_of_ble_eq_true rfl, Nat.le_of_ble_eq_true rfl⟩) (c_X3_money x0 ((b2 0)) ((b3 0)) ((b4 0)) ((b5 0)) ((b6 0)) q7 b1 st.1 hr1) hK hP hD hS hA [0, 1] [2, 3, 4, 5, 6, 7, 8] (by decide) rfl rfl 3 rfl rfl rfl rfl [wV cy b2 st.2.2.1 [], wV cy b3 st.2.2.2.1 [], wV cy b4 st.2.2.2.2.1 [], wD cy b5 st.2.2.2.2.2.1 [], wY cy b6 st.2.2.2.2.2.2.1 [], wS cy q7 st.2.2.2.2.2.2.2.1 [], wM cy b8 st.2.2.2.2.2.2.2.2 []] rfl rfl rfl ⟨rfl, ad_V, rfl, rfl, rfl, rfl, rfl, rfl, rfl, trivial⟩ rfl hl.1 rfl (Nat.le_of_ble_eq_true rfl) dL_law_163 ⟨Nat.le_of_ble_eq_true rfl, Nat.le_of_ble_eq_true rfl⟩ (fun H locs hP hD hS => ?_)
  refine lv_aload_n hx hb dL_law_166 rfl (lv_at hl 2 rfl) ?_
  refine lv_aload_n hx hb dL_law_167 rfl (lv_at hl 0 rfl) ?_
  refine lv_iload_n hx hb dL_law_168 rfl (lv_at hl 3 rfl) ?_
  refine lv_iconst (v := 1) hx hb dL_law_169 (by decide) ?_
  refine lv_iadd hx hb dL_law_170 ?_
  refine va_sld hx hb hX hbl hbA hS hv1 dL_law_171 ?_
  refine lv_aload_n hx hb dL_law_172 rfl (lv_at hl 0 rfl) ?_
  refine lv_iload_n hx hb dL_law_173 rfl (lv_at hl 3 rfl) ?_
  refine lv_iconst (v := 2) hx hb dL_law_174 (by decide) ?_
  refine lv_iadd hx hb dL_law_175 ?_
  refine va_sld hx hb hX hbl hbA hS hv2 dL_law_176 ?_
  obtain ⟨r2, hr2, h⟩ := bn_s h
  refine kcBi (bs' := [wX x0 (b1 0) (b2 0) (b3 0) (b4 0) (b5 0) (b6 0) q7 st.1 [], wV cy b1 r1.2 [], wV cy b2 st.2.2.1 [], wV cy b3 st.2.2.2.1 [], wV cy b4 st.2.2.2.2.1 [], wD cy b5 st.2.2.2.2.2.1 [], wY cy b6 st.2.2.2.2.2.2.1 [], wS cy q7 st.2.2.2.2.2.2.2.1 [], wM cy b8 r2.2 []]) (bc := [wM cy b8 st.2.2.2.2.2.2.2.2 []]) (bc1 := [wM cy b8 r2.2 []]) (As := [.int (xs (x3 + 1).toNatClampNeg), .int (xs (x3 + 2).toNatClampNeg)]) (rest := [.int r1.1]) ⟨hx, hb, hml, hown, hts⟩ (cwV 2 hts gT_X4_money rfl rfl rfl ⟨rfl, eX4_money⟩ ⟨Nat.le_of_ble_eq_true rfl, Nat.le_of_ble_eq_true rfl⟩) (c_X4_money b8 hr2) hK hP hD hS hA [8] [0, 1, 2, 3, 4, 5, 6, 7] (by decide) rfl rfl 4 rfl rfl rfl rfl [wX x0 (b1 0) (b2 0) (b3 0) (b4 0) (b5 0) (b6 0) q7 st.1 [], wV cy b1 r1.2 [], wV cy b2 st.2.2.1 [], wV cy b3 st.2.2.2.1 [], wV cy b4 st.2.2.2.2.1 [], wD cy b5 st.2.2.2.2.2.1 [], wY cy b6 st.2.2.2.2.2.2.1 [], wS cy q7 st.2.2.2.2.2.2.2.1 []] rfl rfl rfl ⟨rfl, rfl, rfl, rfl, rfl, rfl, rfl, rfl, ad_M, trivial⟩ rfl hl.1 rfl (Nat.le_of_ble_eq_true rfl) dL_law_177 ⟨Nat.le_of_ble_eq_true rfl, Nat.le_of_ble_eq_true rfl⟩ (fun H locs hP hD hS => ?_)
  refine lv_icmp_eq (tgt := 851) hx hb dL_law_180 (by decide) (fun c1 => ?_) (fun c1 => ?_)
  · replace h := it_p c1 h
    cases h
    exact kk H locs hP hD hS
  · replace h := it_n c1 h
    cases h
set_option maxHeartbeats 4000000 in
set_option maxRecDepth 100000 in
theorem wL_1 {p : Program} {l : Launch} {e : Env} {s : State} {m : MethodId} {below : List Frame} {meth : Method} {c : Code} {Q : State → Prop} {A : Nat → Prop} {D : va_G} {cy : Nat → ClassId} {b L : Nat} {xs : Nat → Int32} {x0 : Nat} {b1 b2 b3 b4 b5 b6 : Nat → Nat} {q7 : Nat} {b8 : Nat → Nat} {x3 : Int32} (hx : p.tables.exec = Jvm.exec) (hb : c.code = code) (hml : c.maxLocals = 4) (hown : s.vm.findClass RL = some m.cls) (hts : ∀ w ∈ lw_tbl, w.before #[Value.ref b] s = true) (hX : va_X b L xs s s.heap) (hbl : b < s.heap.size) (hbA : ¬ A b) (hA : ∀ q, s.heap.size ≤ q → A q) (hK : kK D cy s) (hv1 : vp_in (x3 + 1) L) (hv2 : vp_in (x3 + 2) L) {st st' : LSt} (h : ls_1 st (xs (x3 + 1).toNatClampNeg) (xs (x3 + 2).toNatClampNeg) = some st') {H : Heap} {locs : List Loc} {ls : Array Slot} (hP : ∀ w ∈ lB cy x0 b1 b2 b3 b4 b5 b6 q7 b8 st, va_P D vwCl w H) (hD : dB A (lB cy x0 b1 b2 b3 b4 b5 b6 q7 b8 st)) (hS : va_S A s.heap H locs) (hl : lv_has ls 4 [(0, .ref b), (1, .ref x0), (2, .ref (b8 0)), (3, .int x3)]) (kk : ∀ (H : Heap) (locs : List Loc), (∀ w ∈ lB cy x0 b1 b2 b3 b4 b5 b6 q7 b8 st', va_P D vwCl w H) → dB A (lB cy x0 b1 b2 b3 b4 b5 b6 q7 b8 st') → va_S A s.heap H locs → W p l e room_1 s m #[Value.ref b] below meth c H locs 65 48897 Q (F0 m 851 ls [])) : W p l e room_1 s m #[Value.ref b] below meth c H locs 65 48897 Q (F0 m 185 ls []) := by
  unfold ls_1 at h
  refine lv_aload_n hx hb dL_law_185 rfl (lv_at hl 1 rfl) ?_
  refine lv_aload_n hx hb dL_law_186 rfl (lv_at hl 0 rfl) ?_
  refine lv_iload_n hx hb dL_law_187 rfl (lv_at hl 3 rfl) ?_
  refine lv_iconst (v := 1) hx hb dL_law_188 (by decide) ?_
  refine lv_iadd hx hb dL_law_189 ?_
  refine va_sld hx hb hX hbl hbA hS hv1 dL_law_190 ?_
  refine lv_aload_n hx hb dL_law_191 rfl (lv_at hl 0 rfl) ?_
  refine lv_iload_n hx hb dL_law_192 rfl (lv_at hl 3 rfl) ?_
  refine lv_iconst (v := 2) hx hb dL_law_193 (by decide) ?_
  refine lv_iadd hx hb dL_law_194 ?_
  refine va_sld hx hb hX hbl hbA hS hv2 dL_law_195 ?_
  obtain ⟨r1, hr1, h⟩ := bn_s h
  refine kcBi (bs' := [wX x0 (b1 0) (b2 0) (b3 0) (b4 0) (b5 0) (b6 0) q7 st.1 [], wV cy b1 r1.2 [], wV cy b2 st.2.2.1 [], wV cy b3 st.2.2.2.1 [], wV cy b4 st.2.2.2.2.1 [], wD cy b5 st.2.2.2.2.2.1 [], wY cy b6 st.2.2.2.2.2.2.1 [], wS cy q7 st.2.2.2.2.2.2.2.1 [], wM cy b8 st.2.2.2.2.2.2.2.2 []]) (bc := [wX x0 (b1 0) (b2 0) (b3 0) (b4 0) (b5 0) (b6 0) q7 st.1 [], wV cy b1 st.2.1 []]) (bc1 := [wX x0 (b1 0) (b2 0) (b3 0) (b4 0) (b5 0) (b6 0) q7 st.1 [], wV cy b1 r1.2 []]) (As := [.int (xs (x3 + 1).toNatClampNeg), .int (xs (x3 + 2).toNatClampNeg)]) (rest := []) ⟨hx, hb, hml, hown, hts⟩ (cwV 2 hts gT_X3_set rfl rfl rfl ⟨rfl, eX3_set⟩ ⟨Nat.le_of_ble_eq_true rfl, Nat.le_of_ble_eq_true rfl⟩) (c_X3_set x0 ((b2 0)) ((b3 0)) ((b4 0)) ((b5 0)) ((b6 0)) q7 b1 st.1 hr1) hK hP hD hS hA [0, 1] [2, 3, 4, 5, 6, 7, 8] (by decide) rfl rfl 3 rfl rfl rfl rfl [wV cy b2 st.2.2.1 [], wV cy b3 st.2.2.2.1 [], wV cy b4 st.2.2.2.2.1 [], wD cy b5 st.2.2.2.2.2.1 [], wY cy b6 st.2.2.2.2.2.2.1 [], wS cy q7 st.2.2.2.2.2.2.2.1 [], wM cy b8 st.2.2.2.2.2.2.2.2 []] rfl rfl rfl ⟨rfl, ad_V, rfl, rfl, rfl, rfl, rfl, rfl, rfl, trivial⟩ rfl hl.1 rfl (Nat.le_of_ble_eq_true rfl) dL_law_196 ⟨Nat.le_of_ble_eq_true rfl, Nat.le_of_ble_eq_true rfl⟩ (fun H locs hP hD hS => ?_)
  refine lv_aload_n hx hb dL_law_199 rfl (lv_at hl 2 rfl) ?_
  refine lv_aload_n hx hb dL_law_200 rfl (lv_at hl 0 rfl) ?_
  refine lv_iload_n hx hb dL_law_201 rfl (lv_at hl 3 rfl) ?_
  refine lv_iconst (v := 1) hx hb dL_law_202 (by decide) ?_
  refine lv_iadd hx hb dL_law_203 ?_
  refine va_sld hx hb hX hbl hbA hS hv1 dL_law_204 ?_
  refine lv_aload_n hx hb dL_law_205 rfl (lv_at hl 0 rfl) ?_
  refine lv_iload_n hx hb dL_law_206 rfl (lv_at hl 3 rfl) ?_
  refine lv_iconst (v := 2) hx hb dL_law_207 (by decide) ?_
  refine lv_iadd hx hb dL_law_208 ?_
  refine va_sld hx hb hX hbl hbA hS hv2 dL_law_209 ?_
  obtain ⟨r2, hr2, h⟩ := bn_s h
  refine kcBi (bs' := [wX x0 (b1 0) (b2 0) (b3 0) (b4 0) (b5 0) (b6 0) q7 st.1 [], wV cy b1 r1.2 [], wV cy b2 st.2.2.1 [], wV cy b3 st.2.2.2.1 [], wV cy b4 st.2.2.2.2.1 [], wD cy b5 st.2.2.2.2.2.1 [], wY cy b6 st.2.2.2.2.2.2.1 [], wS cy q7 st.2.2.2.2.2.2.2.1 [], wM cy b8 r2.2 []]) (bc := [wM cy b8 st.2.2.2.2.2.2.2.2 []]) (bc1 := [wM cy b8 r2.2 []]) (As := [.int (xs (x3 + 1).toNatClampNeg), .int (xs (x3 + 2).toNatClampNeg)]) (rest := [.int r1.1]) ⟨hx, hb, hml, hown, hts⟩ (cwV 2 hts gT_X4_set rfl rfl rfl ⟨rfl, eX4_set⟩ ⟨Nat.le_of_ble_eq_true rfl, Nat.le_of_ble_eq_true rfl⟩) (c_X4_set b8 hr2) hK hP hD hS hA [8] [0, 1, 2, 3, 4, 5, 6, 7] (by decide) rfl rfl 4 rfl rfl rfl rfl [wX x0 (b1 0) (b2 0) (b3 0) (b4 0) (b5 0) (b6 0) q7 st.1 [], wV cy b1 r1.2 [], wV cy b2 st.2.2.1 [], wV cy b3 st.2.2.2.1 [], wV cy b4 st.2.2.2.2.1 [], wD cy b5 st.2.2.2.2.2.1 [], wY cy b6 st.2.2.2.2.2.2.1 [], wS cy q7 st.2.2.2.2.2.2.2.1 []] rfl rfl rfl ⟨rfl, rfl, rfl, rfl, rfl, rfl, rfl, rfl, ad_M, trivial⟩ rfl hl.1 rfl (Nat.le_of_ble_eq_true rfl) dL_law_210 ⟨Nat.le_of_ble_eq_true rfl, Nat.le_of_ble_eq_true rfl⟩ (fun H locs hP hD hS => ?_)
  refine lv_icmp_eq (tgt := 851) hx hb dL_law_213 (by decide) (fun c1 => ?_) (fun c1 => ?_)
  · replace h := it_p c1 h
    cases h
    exact kk H locs hP hD hS
  · replace h := it_n c1 h
    cases h
set_option maxHeartbeats 4000000 in
set_option maxRecDepth 100000 in
theorem wL_2 {p : Program} {l : Launch} {e : Env} {s : State} {m : MethodId} {below : List Frame} {meth : Method} {c : Code} {Q : State → Prop} {A : Nat → Prop} {D : va_G} {cy : Nat → ClassId} {b L : Nat} {xs : Nat → Int32} {x0 : Nat} {b1 b2 b3 b4 b5 b6 : Nat → Nat} {q7 : Nat} {b8 : Nat → Nat} {x3 : Int32} (hx : p.tables.exec = Jvm.exec) (hb : c.code = code) (hml : c.maxLocals = 4) (hown : s.vm.findClass RL = some m.cls) (hts : ∀ w ∈ lw_tbl, w.before #[Value.ref b] s = true) (hX : va_X b L xs s s.heap) (hbl : b < s.heap.size) (hbA : ¬ A b) (hA : ∀ q, s.heap.size ≤ q → A q) (hK : kK D cy s) (hv1 : vp_in (x3 + 1) L) {st st' : LSt} (h : ls_2 st (xs (x3 + 1).toNatClampNeg) = some st') {H : Heap} {locs : List Loc} {ls : Array Slot} (hP : ∀ w ∈ lB cy x0 b1 b2 b3 b4 b5 b6 q7 b8 st, va_P D vwCl w H) (hD : dB A (lB cy x0 b1 b2 b3 b4 b5 b6 q7 b8 st)) (hS : va_S A s.heap H locs) (hl : lv_has ls 4 [(0, .ref b), (1, .ref x0), (2, .ref (b8 0)), (3, .int x3)]) (kk : ∀ (H : Heap) (locs : List Loc), (∀ w ∈ lB cy x0 b1 b2 b3 b4 b5 b6 q7 b8 st', va_P D vwCl w H) → dB A (lB cy x0 b1 b2 b3 b4 b5 b6 q7 b8 st') → va_S A s.heap H locs → W p l e room_1 s m #[Value.ref b] below meth c H locs 65 48897 Q (F0 m 851 ls [])) : W p l e room_1 s m #[Value.ref b] below meth c H locs 65 48897 Q (F0 m 218 ls []) := by
  unfold ls_2 at h
  refine lv_aload_n hx hb dL_law_218 rfl (lv_at hl 1 rfl) ?_
  refine lv_aload_n hx hb dL_law_219 rfl (lv_at hl 0 rfl) ?_
  refine lv_iload_n hx hb dL_law_220 rfl (lv_at hl 3 rfl) ?_
  refine lv_iconst (v := 1) hx hb dL_law_221 (by decide) ?_
  refine lv_iadd hx hb dL_law_222 ?_
  refine va_sld hx hb hX hbl hbA hS hv1 dL_law_223 ?_
  obtain ⟨r1, hr1, h⟩ := bn_s h
  refine kcBi (bs' := [wX x0 (b1 0) (b2 0) (b3 0) (b4 0) (b5 0) (b6 0) q7 st.1 [], wV cy b1 st.2.1 [], wV cy b2 st.2.2.1 [], wV cy b3 st.2.2.2.1 [], wV cy b4 st.2.2.2.2.1 [], wD cy b5 r1.2 [], wY cy b6 st.2.2.2.2.2.2.1 [], wS cy q7 st.2.2.2.2.2.2.2.1 [], wM cy b8 st.2.2.2.2.2.2.2.2 []]) (bc := [wX x0 (b1 0) (b2 0) (b3 0) (b4 0) (b5 0) (b6 0) q7 st.1 [], wD cy b5 st.2.2.2.2.2.1 []]) (bc1 := [wX x0 (b1 0) (b2 0) (b3 0) (b4 0) (b5 0) (b6 0) q7 st.1 [], wD cy b5 r1.2 []]) (As := [.int (xs (x3 + 1).toNatClampNeg)]) (rest := []) ⟨hx, hb, hml, hown, hts⟩ (cwV 1 hts gT_X3_say rfl rfl rfl ⟨rfl, eX3_say⟩ ⟨Nat.le_of_ble_eq_true rfl, Nat.le_of_ble_eq_true rfl⟩) (c_X3_say x0 ((b1 0)) ((b2 0)) ((b3 0)) ((b4 0)) ((b6 0)) q7 b5 st.1 hr1) hK hP hD hS hA [0, 5] [1, 2, 3, 4, 6, 7, 8] (by decide) rfl rfl 3 rfl rfl rfl rfl [wV cy b1 st.2.1 [], wV cy b2 st.2.2.1 [], wV cy b3 st.2.2.2.1 [], wV cy b4 st.2.2.2.2.1 [], wY cy b6 st.2.2.2.2.2.2.1 [], wS cy q7 st.2.2.2.2.2.2.2.1 [], wM cy b8 st.2.2.2.2.2.2.2.2 []] rfl rfl rfl ⟨rfl, rfl, rfl, rfl, rfl, ad_D, rfl, rfl, rfl, trivial⟩ rfl hl.1 rfl (Nat.le_of_ble_eq_true rfl) dL_law_224 ⟨Nat.le_of_ble_eq_true rfl, Nat.le_of_ble_eq_true rfl⟩ (fun H locs hP hD hS => ?_)
  refine lv_aload_n hx hb dL_law_227 rfl (lv_at hl 2 rfl) ?_
  refine lv_aload_n hx hb dL_law_228 rfl (lv_at hl 0 rfl) ?_
  refine lv_iload_n hx hb dL_law_229 rfl (lv_at hl 3 rfl) ?_
  refine lv_iconst (v := 1) hx hb dL_law_230 (by decide) ?_
  refine lv_iadd hx hb dL_law_231 ?_
  refine va_sld hx hb hX hbl hbA hS hv1 dL_law_232 ?_
  obtain ⟨r2, hr2, h⟩ := bn_s h
  refine kcBi (bs' := [wX x0 (b1 0) (b2 0) (b3 0) (b4 0) (b5 0) (b6 0) q7 st.1 [], wV cy b1 st.2.1 [], wV cy b2 st.2.2.1 [], wV cy b3 st.2.2.2.1 [], wV cy b4 st.2.2.2.2.1 [], wD cy b5 r1.2 [], wY cy b6 st.2.2.2.2.2.2.1 [], wS cy q7 st.2.2.2.2.2.2.2.1 [], wM cy b8 r2.2 []]) (bc := [wM cy b8 st.2.2.2.2.2.2.2.2 []]) (bc1 := [wM cy b8 r2.2 []]) (As := [.int (xs (x3 + 1).toNatClampNeg)]) (rest := [.int r1.1]) ⟨hx, hb, hml, hown, hts⟩ (cwV 1 hts gT_X4_say rfl rfl rfl ⟨rfl, eX4_say⟩ ⟨Nat.le_of_ble_eq_true rfl, Nat.le_of_ble_eq_true rfl⟩) (c_X4_say b8 hr2) hK hP hD hS hA [8] [0, 1, 2, 3, 4, 5, 6, 7] (by decide) rfl rfl 4 rfl rfl rfl rfl [wX x0 (b1 0) (b2 0) (b3 0) (b4 0) (b5 0) (b6 0) q7 st.1 [], wV cy b1 st.2.1 [], wV cy b2 st.2.2.1 [], wV cy b3 st.2.2.2.1 [], wV cy b4 st.2.2.2.2.1 [], wD cy b5 r1.2 [], wY cy b6 st.2.2.2.2.2.2.1 [], wS cy q7 st.2.2.2.2.2.2.2.1 []] rfl rfl rfl ⟨rfl, rfl, rfl, rfl, rfl, rfl, rfl, rfl, ad_M, trivial⟩ rfl hl.1 rfl (Nat.le_of_ble_eq_true rfl) dL_law_233 ⟨Nat.le_of_ble_eq_true rfl, Nat.le_of_ble_eq_true rfl⟩ (fun H locs hP hD hS => ?_)
  refine lv_icmp_eq (tgt := 851) hx hb dL_law_236 (by decide) (fun c1 => ?_) (fun c1 => ?_)
  · replace h := it_p c1 h
    cases h
    exact kk H locs hP hD hS
  · replace h := it_n c1 h
    cases h
set_option maxHeartbeats 4000000 in
set_option maxRecDepth 100000 in
theorem wL_3 {p : Program} {l : Launch} {e : Env} {s : State} {m : MethodId} {below : List Frame} {meth : Method} {c : Code} {Q : State → Prop} {A : Nat → Prop} {D : va_G} {cy : Nat → ClassId} {b L : Nat} {xs : Nat → Int32} {x0 : Nat} {b1 b2 b3 b4 b5 b6 : Nat → Nat} {q7 : Nat} {b8 : Nat → Nat} {x3 : Int32} (hx : p.tables.exec = Jvm.exec) (hb : c.code = code) (hml : c.maxLocals = 4) (hown : s.vm.findClass RL = some m.cls) (hts : ∀ w ∈ lw_tbl, w.before #[Value.ref b] s = true) (hX : va_X b L xs s s.heap) (hbl : b < s.heap.size) (hbA : ¬ A b) (hA : ∀ q, s.heap.size ≤ q → A q) (hK : kK D cy s)  {st st' : LSt} (h : ls_3 st  = some st') {H : Heap} {locs : List Loc} {ls : Array Slot} (hP : ∀ w ∈ lB cy x0 b1 b2 b3 b4 b5 b6 q7 b8 st, va_P D vwCl w H) (hD : dB A (lB cy x0 b1 b2 b3 b4 b5 b6 q7 b8 st)) (hS : va_S A s.heap H locs) (hl : lv_has ls 4 [(0, .ref b), (1, .ref x0), (2, .ref (b8 0)), (3, .int x3)]) (kk : ∀ (H : Heap) (locs : List Loc), (∀ w ∈ lB cy x0 b1 b2 b3 b4 b5 b6 q7 b8 st', va_P D vwCl w H) → dB A (lB cy x0 b1 b2 b3 b4 b5 b6 q7 b8 st') → va_S A s.heap H locs → W p l e room_1 s m #[Value.ref b] below meth c H locs 65 48897 Q (F0 m 851 ls [])) : W p l e room_1 s m #[Value.ref b] below meth c H locs 65 48897 Q (F0 m 241 ls []) := by
  unfold ls_3 at h
  refine lv_aload_n hx hb dL_law_241 rfl (lv_at hl 1 rfl) ?_
  obtain ⟨r1, hr1, h⟩ := bn_s h
  refine kcBi (bs' := [wX x0 (b1 0) (b2 0) (b3 0) (b4 0) (b5 0) (b6 0) q7 st.1 [], wV cy b1 st.2.1 [], wV cy b2 st.2.2.1 [], wV cy b3 st.2.2.2.1 [], wV cy b4 st.2.2.2.2.1 [], wD cy b5 r1.2 [], wY cy b6 st.2.2.2.2.2.2.1 [], wS cy q7 st.2.2.2.2.2.2.2.1 [], wM cy b8 st.2.2.2.2.2.2.2.2 []]) (bc := [wX x0 (b1 0) (b2 0) (b3 0) (b4 0) (b5 0) (b6 0) q7 st.1 [], wD cy b5 st.2.2.2.2.2.1 []]) (bc1 := [wX x0 (b1 0) (b2 0) (b3 0) (b4 0) (b5 0) (b6 0) q7 st.1 [], wD cy b5 r1.2 []]) (As := []) (rest := []) ⟨hx, hb, hml, hown, hts⟩ (cwV 0 hts gT_X3_wipe rfl rfl rfl ⟨rfl, eX3_wipe⟩ ⟨Nat.le_of_ble_eq_true rfl, Nat.le_of_ble_eq_true rfl⟩) (c_X3_wipe x0 ((b1 0)) ((b2 0)) ((b3 0)) ((b4 0)) ((b6 0)) q7 b5 st.1 hr1) hK hP hD hS hA [0, 5] [1, 2, 3, 4, 6, 7, 8] (by decide) rfl rfl 3 rfl rfl rfl rfl [wV cy b1 st.2.1 [], wV cy b2 st.2.2.1 [], wV cy b3 st.2.2.2.1 [], wV cy b4 st.2.2.2.2.1 [], wY cy b6 st.2.2.2.2.2.2.1 [], wS cy q7 st.2.2.2.2.2.2.2.1 [], wM cy b8 st.2.2.2.2.2.2.2.2 []] rfl rfl rfl ⟨rfl, rfl, rfl, rfl, rfl, ad_D, rfl, rfl, rfl, trivial⟩ rfl hl.1 rfl (Nat.le_of_ble_eq_true rfl) dL_law_242 ⟨Nat.le_of_ble_eq_true rfl, Nat.le_of_ble_eq_true rfl⟩ (fun H locs hP hD hS => ?_)
  refine lv_aload_n hx hb dL_law_245 rfl (lv_at hl 2 rfl) ?_
  obtain ⟨r2, hr2, h⟩ := bn_s h
  refine kcBi (bs' := [wX x0 (b1 0) (b2 0) (b3 0) (b4 0) (b5 0) (b6 0) q7 st.1 [], wV cy b1 st.2.1 [], wV cy b2 st.2.2.1 [], wV cy b3 st.2.2.2.1 [], wV cy b4 st.2.2.2.2.1 [], wD cy b5 r1.2 [], wY cy b6 st.2.2.2.2.2.2.1 [], wS cy q7 st.2.2.2.2.2.2.2.1 [], wM cy b8 r2.2 []]) (bc := [wM cy b8 st.2.2.2.2.2.2.2.2 []]) (bc1 := [wM cy b8 r2.2 []]) (As := []) (rest := [.int r1.1]) ⟨hx, hb, hml, hown, hts⟩ (cwV 0 hts gT_X4_wipe rfl rfl rfl ⟨rfl, eX4_wipe⟩ ⟨Nat.le_of_ble_eq_true rfl, Nat.le_of_ble_eq_true rfl⟩) (c_X4_wipe b8 hr2) hK hP hD hS hA [8] [0, 1, 2, 3, 4, 5, 6, 7] (by decide) rfl rfl 4 rfl rfl rfl rfl [wX x0 (b1 0) (b2 0) (b3 0) (b4 0) (b5 0) (b6 0) q7 st.1 [], wV cy b1 st.2.1 [], wV cy b2 st.2.2.1 [], wV cy b3 st.2.2.2.1 [], wV cy b4 st.2.2.2.2.1 [], wD cy b5 r1.2 [], wY cy b6 st.2.2.2.2.2.2.1 [], wS cy q7 st.2.2.2.2.2.2.2.1 []] rfl rfl rfl ⟨rfl, rfl, rfl, rfl, rfl, rfl, rfl, rfl, ad_M, trivial⟩ rfl hl.1 rfl (Nat.le_of_ble_eq_true rfl) dL_law_246 ⟨Nat.le_of_ble_eq_true rfl, Nat.le_of_ble_eq_true rfl⟩ (fun H locs hP hD hS => ?_)
  refine lv_icmp_eq (tgt := 851) hx hb dL_law_249 (by decide) (fun c1 => ?_) (fun c1 => ?_)
  · replace h := it_p c1 h
    cases h
    exact kk H locs hP hD hS
  · replace h := it_n c1 h
    cases h
set_option maxHeartbeats 4000000 in
set_option maxRecDepth 100000 in
theorem wL_4 {p : Program} {l : Launch} {e : Env} {s : State} {m : MethodId} {below : List Frame} {meth : Method} {c : Code} {Q : State → Prop} {A : Nat → Prop} {D : va_G} {cy : Nat → ClassId} {b L : Nat} {xs : Nat → Int32} {x0 : Nat} {b1 b2 b3 b4 b5 b6 : Nat → Nat} {q7 : Nat} {b8 : Nat → Nat} {x3 : Int32} (hx : p.tables.exec = Jvm.exec) (hb : c.code = code) (hml : c.maxLocals = 4) (hown : s.vm.findClass RL = some m.cls) (hts : ∀ w ∈ lw_tbl, w.before #[Value.ref b] s = true) (hX : va_X b L xs s s.heap) (hbl : b < s.heap.size) (hbA : ¬ A b) (hA : ∀ q, s.heap.size ≤ q → A q) (hK : kK D cy s)  {st st' : LSt} (h : ls_4 st  = some st') {H : Heap} {locs : List Loc} {ls : Array Slot} (hP : ∀ w ∈ lB cy x0 b1 b2 b3 b4 b5 b6 q7 b8 st, va_P D vwCl w H) (hD : dB A (lB cy x0 b1 b2 b3 b4 b5 b6 q7 b8 st)) (hS : va_S A s.heap H locs) (hl : lv_has ls 4 [(0, .ref b), (1, .ref x0), (2, .ref (b8 0)), (3, .int x3)]) (kk : ∀ (H : Heap) (locs : List Loc), (∀ w ∈ lB cy x0 b1 b2 b3 b4 b5 b6 q7 b8 st', va_P D vwCl w H) → dB A (lB cy x0 b1 b2 b3 b4 b5 b6 q7 b8 st') → va_S A s.heap H locs → W p l e room_1 s m #[Value.ref b] below meth c H locs 65 48897 Q (F0 m 851 ls [])) : W p l e room_1 s m #[Value.ref b] below meth c H locs 65 48897 Q (F0 m 254 ls []) := by
  unfold ls_4 at h
  refine lv_aload_n hx hb dL_law_254 rfl (lv_at hl 1 rfl) ?_
  obtain ⟨r1, hr1, h⟩ := bn_s h
  refine kcBi (bs' := [wX x0 (b1 0) (b2 0) (b3 0) (b4 0) (b5 0) (b6 0) q7 st.1 [], wV cy b1 st.2.1 [], wV cy b2 st.2.2.1 [], wV cy b3 st.2.2.2.1 [], wV cy b4 st.2.2.2.2.1 [], wD cy b5 r1.2 [], wY cy b6 st.2.2.2.2.2.2.1 [], wS cy q7 st.2.2.2.2.2.2.2.1 [], wM cy b8 st.2.2.2.2.2.2.2.2 []]) (bc := [wX x0 (b1 0) (b2 0) (b3 0) (b4 0) (b5 0) (b6 0) q7 st.1 [], wD cy b5 st.2.2.2.2.2.1 []]) (bc1 := [wX x0 (b1 0) (b2 0) (b3 0) (b4 0) (b5 0) (b6 0) q7 st.1 [], wD cy b5 r1.2 []]) (As := []) (rest := []) ⟨hx, hb, hml, hown, hts⟩ (cwV 0 hts gT_X3_fault rfl rfl rfl ⟨rfl, eX3_fault⟩ ⟨Nat.le_of_ble_eq_true rfl, Nat.le_of_ble_eq_true rfl⟩) (c_X3_fault x0 ((b1 0)) ((b2 0)) ((b3 0)) ((b4 0)) ((b6 0)) q7 b5 st.1 hr1) hK hP hD hS hA [0, 5] [1, 2, 3, 4, 6, 7, 8] (by decide) rfl rfl 3 rfl rfl rfl rfl [wV cy b1 st.2.1 [], wV cy b2 st.2.2.1 [], wV cy b3 st.2.2.2.1 [], wV cy b4 st.2.2.2.2.1 [], wY cy b6 st.2.2.2.2.2.2.1 [], wS cy q7 st.2.2.2.2.2.2.2.1 [], wM cy b8 st.2.2.2.2.2.2.2.2 []] rfl rfl rfl ⟨rfl, rfl, rfl, rfl, rfl, ad_D, rfl, rfl, rfl, trivial⟩ rfl hl.1 rfl (Nat.le_of_ble_eq_true rfl) dL_law_255 ⟨Nat.le_of_ble_eq_true rfl, Nat.le_of_ble_eq_true rfl⟩ (fun H locs hP hD hS => ?_)
  refine lv_aload_n hx hb dL_law_258 rfl (lv_at hl 2 rfl) ?_
  obtain ⟨r2, hr2, h⟩ := bn_s h
  refine kcBi (bs' := [wX x0 (b1 0) (b2 0) (b3 0) (b4 0) (b5 0) (b6 0) q7 st.1 [], wV cy b1 st.2.1 [], wV cy b2 st.2.2.1 [], wV cy b3 st.2.2.2.1 [], wV cy b4 st.2.2.2.2.1 [], wD cy b5 r1.2 [], wY cy b6 st.2.2.2.2.2.2.1 [], wS cy q7 st.2.2.2.2.2.2.2.1 [], wM cy b8 st.2.2.2.2.2.2.2.2 []]) (bc := [wM cy b8 st.2.2.2.2.2.2.2.2 []]) (bc1 := [wM cy b8 st.2.2.2.2.2.2.2.2 []]) (As := []) (rest := [.int r1.1]) ⟨hx, hb, hml, hown, hts⟩ (cwV 0 hts gT_X4_fault rfl rfl rfl ⟨rfl, eX4_fault⟩ ⟨Nat.le_of_ble_eq_true rfl, Nat.le_of_ble_eq_true rfl⟩) (c_X4_fault b8 hr2) hK hP hD hS hA [8] [0, 1, 2, 3, 4, 5, 6, 7] (by decide) rfl rfl 4 rfl rfl rfl rfl [wX x0 (b1 0) (b2 0) (b3 0) (b4 0) (b5 0) (b6 0) q7 st.1 [], wV cy b1 st.2.1 [], wV cy b2 st.2.2.1 [], wV cy b3 st.2.2.2.1 [], wV cy b4 st.2.2.2.2.1 [], wD cy b5 r1.2 [], wY cy b6 st.2.2.2.2.2.2.1 [], wS cy q7 st.2.2.2.2.2.2.2.1 []] rfl rfl rfl ⟨rfl, rfl, rfl, rfl, rfl, rfl, rfl, rfl, rfl, trivial⟩ rfl hl.1 rfl (Nat.le_of_ble_eq_true rfl) dL_law_259 ⟨Nat.le_of_ble_eq_true rfl, Nat.le_of_ble_eq_true rfl⟩ (fun H locs hP hD hS => ?_)
  refine lv_icmp_eq (tgt := 851) hx hb dL_law_262 (by decide) (fun c1 => ?_) (fun c1 => ?_)
  · replace h := it_p c1 h
    cases h
    exact kk H locs hP hD hS
  · replace h := it_n c1 h
    cases h
set_option maxHeartbeats 4000000 in
set_option maxRecDepth 100000 in
theorem wL_5 {p : Program} {l : Launch} {e : Env} {s : State} {m : MethodId} {below : List Frame} {meth : Method} {c : Code} {Q : State → Prop} {A : Nat → Prop} {D : va_G} {cy : Nat → ClassId} {b L : Nat} {xs : Nat → Int32} {x0 : Nat} {b1 b2 b3 b4 b5 b6 : Nat → Nat} {q7 : Nat} {b8 : Nat → Nat} {x3 : Int32} (hx : p.tables.exec = Jvm.exec) (hb : c.code = code) (hml : c.maxLocals = 4) (hown : s.vm.findClass RL = some m.cls) (hts : ∀ w ∈ lw_tbl, w.before #[Value.ref b] s = true) (hX : va_X b L xs s s.heap) (hbl : b < s.heap.size) (hbA : ¬ A b) (hA : ∀ q, s.heap.size ≤ q → A q) (hK : kK D cy s) (hv1 : vp_in (x3 + 1) L) {st st' : LSt} (h : ls_5 st (xs (x3 + 1).toNatClampNeg) = some st') {H : Heap} {locs : List Loc} {ls : Array Slot} (hP : ∀ w ∈ lB cy x0 b1 b2 b3 b4 b5 b6 q7 b8 st, va_P D vwCl w H) (hD : dB A (lB cy x0 b1 b2 b3 b4 b5 b6 q7 b8 st)) (hS : va_S A s.heap H locs) (hl : lv_has ls 4 [(0, .ref b), (1, .ref x0), (2, .ref (b8 0)), (3, .int x3)]) (kk : ∀ (H : Heap) (locs : List Loc), (∀ w ∈ lB cy x0 b1 b2 b3 b4 b5 b6 q7 b8 st', va_P D vwCl w H) → dB A (lB cy x0 b1 b2 b3 b4 b5 b6 q7 b8 st') → va_S A s.heap H locs → W p l e room_1 s m #[Value.ref b] below meth c H locs 65 48897 Q (F0 m 851 ls [])) : W p l e room_1 s m #[Value.ref b] below meth c H locs 65 48897 Q (F0 m 267 ls []) := by
  unfold ls_5 at h
  refine lv_aload_n hx hb dL_law_267 rfl (lv_at hl 1 rfl) ?_
  refine lv_aload_n hx hb dL_law_268 rfl (lv_at hl 0 rfl) ?_
  refine lv_iload_n hx hb dL_law_269 rfl (lv_at hl 3 rfl) ?_
  refine lv_iconst (v := 1) hx hb dL_law_270 (by decide) ?_
  refine lv_iadd hx hb dL_law_271 ?_
  refine va_sld hx hb hX hbl hbA hS hv1 dL_law_272 ?_
  obtain ⟨r1, hr1, h⟩ := bn_s h
  refine kcBi (bs' := [wX x0 (b1 0) (b2 0) (b3 0) (b4 0) (b5 0) (b6 0) q7 st.1 [], wV cy b1 st.2.1 [], wV cy b2 r1.2.1 [], wV cy b3 st.2.2.2.1 [], wV cy b4 st.2.2.2.2.1 [], wD cy b5 r1.2.2 [], wY cy b6 st.2.2.2.2.2.2.1 [], wS cy q7 st.2.2.2.2.2.2.2.1 [], wM cy b8 st.2.2.2.2.2.2.2.2 []]) (bc := [wX x0 (b1 0) (b2 0) (b3 0) (b4 0) (b5 0) (b6 0) q7 st.1 [], wV cy b1 st.2.1 [], wV cy b2 st.2.2.1 [], wD cy b5 st.2.2.2.2.2.1 []]) (bc1 := [wX x0 (b1 0) (b2 0) (b3 0) (b4 0) (b5 0) (b6 0) q7 st.1 [], wV cy b1 st.2.1 [], wV cy b2 r1.2.1 [], wD cy b5 r1.2.2 []]) (As := [.int (xs (x3 + 1).toNatClampNeg)]) (rest := []) ⟨hx, hb, hml, hown, hts⟩ (cwV 1 hts gT_X3_judge rfl rfl rfl ⟨rfl, eX3_judge⟩ ⟨Nat.le_of_ble_eq_true rfl, Nat.le_of_ble_eq_true rfl⟩) (c_X3_judge x0 ((b3 0)) ((b4 0)) ((b6 0)) q7 b1 b2 b5 st.1 hr1) hK hP hD hS hA [0, 1, 2, 5] [3, 4, 6, 7, 8] (by decide) rfl rfl 3 rfl rfl rfl rfl [wV cy b3 st.2.2.2.1 [], wV cy b4 st.2.2.2.2.1 [], wY cy b6 st.2.2.2.2.2.2.1 [], wS cy q7 st.2.2.2.2.2.2.2.1 [], wM cy b8 st.2.2.2.2.2.2.2.2 []] rfl rfl rfl ⟨rfl, rfl, ad_V, rfl, rfl, ad_D, rfl, rfl, rfl, trivial⟩ rfl hl.1 rfl (Nat.le_of_ble_eq_true rfl) dL_law_273 ⟨Nat.le_of_ble_eq_true rfl, Nat.le_of_ble_eq_true rfl⟩ (fun H locs hP hD hS => ?_)
  refine lv_aload_n hx hb dL_law_276 rfl (lv_at hl 2 rfl) ?_
  refine lv_aload_n hx hb dL_law_277 rfl (lv_at hl 0 rfl) ?_
  refine lv_iload_n hx hb dL_law_278 rfl (lv_at hl 3 rfl) ?_
  refine lv_iconst (v := 1) hx hb dL_law_279 (by decide) ?_
  refine lv_iadd hx hb dL_law_280 ?_
  refine va_sld hx hb hX hbl hbA hS hv1 dL_law_281 ?_
  obtain ⟨r2, hr2, h⟩ := bn_s h
  refine kcBi (bs' := [wX x0 (b1 0) (b2 0) (b3 0) (b4 0) (b5 0) (b6 0) q7 st.1 [], wV cy b1 st.2.1 [], wV cy b2 r1.2.1 [], wV cy b3 st.2.2.2.1 [], wV cy b4 st.2.2.2.2.1 [], wD cy b5 r1.2.2 [], wY cy b6 st.2.2.2.2.2.2.1 [], wS cy q7 st.2.2.2.2.2.2.2.1 [], wM cy b8 r2.2 []]) (bc := [wM cy b8 st.2.2.2.2.2.2.2.2 []]) (bc1 := [wM cy b8 r2.2 []]) (As := [.int (xs (x3 + 1).toNatClampNeg)]) (rest := [.int r1.1]) ⟨hx, hb, hml, hown, hts⟩ (cwV 1 hts gT_X4_judge rfl rfl rfl ⟨rfl, eX4_judge⟩ ⟨Nat.le_of_ble_eq_true rfl, Nat.le_of_ble_eq_true rfl⟩) (c_X4_judge b8 hr2) hK hP hD hS hA [8] [0, 1, 2, 3, 4, 5, 6, 7] (by decide) rfl rfl 4 rfl rfl rfl rfl [wX x0 (b1 0) (b2 0) (b3 0) (b4 0) (b5 0) (b6 0) q7 st.1 [], wV cy b1 st.2.1 [], wV cy b2 r1.2.1 [], wV cy b3 st.2.2.2.1 [], wV cy b4 st.2.2.2.2.1 [], wD cy b5 r1.2.2 [], wY cy b6 st.2.2.2.2.2.2.1 [], wS cy q7 st.2.2.2.2.2.2.2.1 []] rfl rfl rfl ⟨rfl, rfl, rfl, rfl, rfl, rfl, rfl, rfl, ad_M, trivial⟩ rfl hl.1 rfl (Nat.le_of_ble_eq_true rfl) dL_law_282 ⟨Nat.le_of_ble_eq_true rfl, Nat.le_of_ble_eq_true rfl⟩ (fun H locs hP hD hS => ?_)
  refine lv_icmp_eq (tgt := 851) hx hb dL_law_285 (by decide) (fun c1 => ?_) (fun c1 => ?_)
  · replace h := it_p c1 h
    cases h
    exact kk H locs hP hD hS
  · replace h := it_n c1 h
    cases h
set_option maxHeartbeats 4000000 in
set_option maxRecDepth 100000 in
theorem wL_6 {p : Program} {l : Launch} {e : Env} {s : State} {m : MethodId} {below : List Frame} {meth : Method} {c : Code} {Q : State → Prop} {A : Nat → Prop} {D : va_G} {cy : Nat → ClassId} {b L : Nat} {xs : Nat → Int32} {x0 : Nat} {b1 b2 b3 b4 b5 b6 : Nat → Nat} {q7 : Nat} {b8 : Nat → Nat} {x3 : Int32} (hx : p.tables.exec = Jvm.exec) (hb : c.code = code) (hml : c.maxLocals = 4) (hown : s.vm.findClass RL = some m.cls) (hts : ∀ w ∈ lw_tbl, w.before #[Value.ref b] s = true) (hX : va_X b L xs s s.heap) (hbl : b < s.heap.size) (hbA : ¬ A b) (hA : ∀ q, s.heap.size ≤ q → A q) (hK : kK D cy s)  {st st' : LSt} (h : ls_6 st  = some st') {H : Heap} {locs : List Loc} {ls : Array Slot} (hP : ∀ w ∈ lB cy x0 b1 b2 b3 b4 b5 b6 q7 b8 st, va_P D vwCl w H) (hD : dB A (lB cy x0 b1 b2 b3 b4 b5 b6 q7 b8 st)) (hS : va_S A s.heap H locs) (hl : lv_has ls 4 [(0, .ref b), (1, .ref x0), (2, .ref (b8 0)), (3, .int x3)]) (kk : ∀ (H : Heap) (locs : List Loc), (∀ w ∈ lB cy x0 b1 b2 b3 b4 b5 b6 q7 b8 st', va_P D vwCl w H) → dB A (lB cy x0 b1 b2 b3 b4 b5 b6 q7 b8 st') → va_S A s.heap H locs → W p l e room_1 s m #[Value.ref b] below meth c H locs 65 48897 Q (F0 m 851 ls [])) : W p l e room_1 s m #[Value.ref b] below meth c H locs 65 48897 Q (F0 m 290 ls []) := by
  unfold ls_6 at h
  refine lv_aload_n hx hb dL_law_290 rfl (lv_at hl 1 rfl) ?_
  obtain ⟨r1, hr1, h⟩ := bn_s h
  refine kcBi (bs' := [wX x0 (b1 0) (b2 0) (b3 0) (b4 0) (b5 0) (b6 0) q7 st.1 [], wV cy b1 r1.2.1 [], wV cy b2 r1.2.2.1 [], wV cy b3 st.2.2.2.1 [], wV cy b4 st.2.2.2.2.1 [], wD cy b5 r1.2.2.2 [], wY cy b6 st.2.2.2.2.2.2.1 [], wS cy q7 st.2.2.2.2.2.2.2.1 [], wM cy b8 st.2.2.2.2.2.2.2.2 []]) (bc := [wX x0 (b1 0) (b2 0) (b3 0) (b4 0) (b5 0) (b6 0) q7 st.1 [], wV cy b1 st.2.1 [], wV cy b2 st.2.2.1 [], wD cy b5 st.2.2.2.2.2.1 []]) (bc1 := [wX x0 (b1 0) (b2 0) (b3 0) (b4 0) (b5 0) (b6 0) q7 st.1 [], wV cy b1 r1.2.1 [], wV cy b2 r1.2.2.1 [], wD cy b5 r1.2.2.2 []]) (As := []) (rest := []) ⟨hx, hb, hml, hown, hts⟩ (cwV 0 hts gT_X3_done rfl rfl rfl ⟨rfl, eX3_done⟩ ⟨Nat.le_of_ble_eq_true rfl, Nat.le_of_ble_eq_true rfl⟩) (c_X3_done x0 ((b3 0)) ((b4 0)) ((b6 0)) q7 b1 b2 b5 st.1 hr1) hK hP hD hS hA [0, 1, 2, 5] [3, 4, 6, 7, 8] (by decide) rfl rfl 3 rfl rfl rfl rfl [wV cy b3 st.2.2.2.1 [], wV cy b4 st.2.2.2.2.1 [], wY cy b6 st.2.2.2.2.2.2.1 [], wS cy q7 st.2.2.2.2.2.2.2.1 [], wM cy b8 st.2.2.2.2.2.2.2.2 []] rfl rfl rfl ⟨rfl, ad_V, ad_V, rfl, rfl, ad_D, rfl, rfl, rfl, trivial⟩ rfl hl.1 rfl (Nat.le_of_ble_eq_true rfl) dL_law_291 ⟨Nat.le_of_ble_eq_true rfl, Nat.le_of_ble_eq_true rfl⟩ (fun H locs hP hD hS => ?_)
  refine lv_aload_n hx hb dL_law_294 rfl (lv_at hl 2 rfl) ?_
  obtain ⟨r2, hr2, h⟩ := bn_s h
  refine kcBi (bs' := [wX x0 (b1 0) (b2 0) (b3 0) (b4 0) (b5 0) (b6 0) q7 st.1 [], wV cy b1 r1.2.1 [], wV cy b2 r1.2.2.1 [], wV cy b3 st.2.2.2.1 [], wV cy b4 st.2.2.2.2.1 [], wD cy b5 r1.2.2.2 [], wY cy b6 st.2.2.2.2.2.2.1 [], wS cy q7 st.2.2.2.2.2.2.2.1 [], wM cy b8 r2.2 []]) (bc := [wM cy b8 st.2.2.2.2.2.2.2.2 []]) (bc1 := [wM cy b8 r2.2 []]) (As := []) (rest := [.int r1.1]) ⟨hx, hb, hml, hown, hts⟩ (cwV 0 hts gT_X4_done rfl rfl rfl ⟨rfl, eX4_done⟩ ⟨Nat.le_of_ble_eq_true rfl, Nat.le_of_ble_eq_true rfl⟩) (c_X4_done b8 hr2) hK hP hD hS hA [8] [0, 1, 2, 3, 4, 5, 6, 7] (by decide) rfl rfl 4 rfl rfl rfl rfl [wX x0 (b1 0) (b2 0) (b3 0) (b4 0) (b5 0) (b6 0) q7 st.1 [], wV cy b1 r1.2.1 [], wV cy b2 r1.2.2.1 [], wV cy b3 st.2.2.2.1 [], wV cy b4 st.2.2.2.2.1 [], wD cy b5 r1.2.2.2 [], wY cy b6 st.2.2.2.2.2.2.1 [], wS cy q7 st.2.2.2.2.2.2.2.1 []] rfl rfl rfl ⟨rfl, rfl, rfl, rfl, rfl, rfl, rfl, rfl, ad_M, trivial⟩ rfl hl.1 rfl (Nat.le_of_ble_eq_true rfl) dL_law_295 ⟨Nat.le_of_ble_eq_true rfl, Nat.le_of_ble_eq_true rfl⟩ (fun H locs hP hD hS => ?_)
  refine lv_icmp_eq (tgt := 851) hx hb dL_law_298 (by decide) (fun c1 => ?_) (fun c1 => ?_)
  · replace h := it_p c1 h
    cases h
    exact kk H locs hP hD hS
  · replace h := it_n c1 h
    cases h
set_option maxHeartbeats 4000000 in
set_option maxRecDepth 100000 in
theorem wL_7 {p : Program} {l : Launch} {e : Env} {s : State} {m : MethodId} {below : List Frame} {meth : Method} {c : Code} {Q : State → Prop} {A : Nat → Prop} {D : va_G} {cy : Nat → ClassId} {b L : Nat} {xs : Nat → Int32} {x0 : Nat} {b1 b2 b3 b4 b5 b6 : Nat → Nat} {q7 : Nat} {b8 : Nat → Nat} {x3 : Int32} (hx : p.tables.exec = Jvm.exec) (hb : c.code = code) (hml : c.maxLocals = 4) (hown : s.vm.findClass RL = some m.cls) (hts : ∀ w ∈ lw_tbl, w.before #[Value.ref b] s = true) (hX : va_X b L xs s s.heap) (hbl : b < s.heap.size) (hbA : ¬ A b) (hA : ∀ q, s.heap.size ≤ q → A q) (hK : kK D cy s) (hv1 : vp_in (x3 + 1) L) (hv2 : vp_in (x3 + 2) L) (hv3 : vp_in (x3 + 3) L) {st st' : LSt} (h : ls_7 st (xs (x3 + 1).toNatClampNeg) (xs (x3 + 2).toNatClampNeg) (xs (x3 + 3).toNatClampNeg) = some st') {H : Heap} {locs : List Loc} {ls : Array Slot} (hP : ∀ w ∈ lB cy x0 b1 b2 b3 b4 b5 b6 q7 b8 st, va_P D vwCl w H) (hD : dB A (lB cy x0 b1 b2 b3 b4 b5 b6 q7 b8 st)) (hS : va_S A s.heap H locs) (hl : lv_has ls 4 [(0, .ref b), (1, .ref x0), (2, .ref (b8 0)), (3, .int x3)]) (kk : ∀ (H : Heap) (locs : List Loc), (∀ w ∈ lB cy x0 b1 b2 b3 b4 b5 b6 q7 b8 st', va_P D vwCl w H) → dB A (lB cy x0 b1 b2 b3 b4 b5 b6 q7 b8 st') → va_S A s.heap H locs → W p l e room_1 s m #[Value.ref b] below meth c H locs 65 48897 Q (F0 m 851 ls [])) : W p l e room_1 s m #[Value.ref b] below meth c H locs 65 48897 Q (F0 m 303 ls []) := by
  unfold ls_7 at h
  refine lv_aload_n hx hb dL_law_303 rfl (lv_at hl 1 rfl) ?_
  refine lv_aload_n hx hb dL_law_304 rfl (lv_at hl 0 rfl) ?_
  refine lv_iload_n hx hb dL_law_305 rfl (lv_at hl 3 rfl) ?_
  refine lv_iconst (v := 1) hx hb dL_law_306 (by decide) ?_
  refine lv_iadd hx hb dL_law_307 ?_
  refine va_sld hx hb hX hbl hbA hS hv1 dL_law_308 ?_
  refine lv_aload_n hx hb dL_law_309 rfl (lv_at hl 0 rfl) ?_
  refine lv_iload_n hx hb dL_law_310 rfl (lv_at hl 3 rfl) ?_
  refine lv_iconst (v := 2) hx hb dL_law_311 (by decide) ?_
  refine lv_iadd hx hb dL_law_312 ?_
  refine va_sld hx hb hX hbl hbA hS hv2 dL_law_313 ?_
  refine lv_aload_n hx hb dL_law_314 rfl (lv_at hl 0 rfl) ?_
  refine lv_iload_n hx hb dL_law_315 rfl (lv_at hl 3 rfl) ?_
  refine lv_iconst (v := 3) hx hb dL_law_316 (by decide) ?_
  refine lv_iadd hx hb dL_law_317 ?_
  refine va_sld hx hb hX hbl hbA hS hv3 dL_law_318 ?_
  obtain ⟨r1, hr1, h⟩ := bn_s h
  refine kcBi (bs' := [wX x0 (b1 0) (b2 0) (b3 0) (b4 0) (b5 0) (b6 0) q7 st.1 [], wV cy b1 st.2.1 [], wV cy b2 st.2.2.1 [], wV cy b3 st.2.2.2.1 [], wV cy b4 st.2.2.2.2.1 [], wD cy b5 st.2.2.2.2.2.1 [], wY cy b6 st.2.2.2.2.2.2.1 [], wS cy q7 st.2.2.2.2.2.2.2.1 [], wM cy b8 st.2.2.2.2.2.2.2.2 []]) (bc := [wX x0 (b1 0) (b2 0) (b3 0) (b4 0) (b5 0) (b6 0) q7 st.1 [], wV cy b1 st.2.1 []]) (bc1 := [wX x0 (b1 0) (b2 0) (b3 0) (b4 0) (b5 0) (b6 0) q7 st.1 [], wV cy b1 st.2.1 []]) (As := [.int (xs (x3 + 1).toNatClampNeg), .int (xs (x3 + 2).toNatClampNeg), .int (xs (x3 + 3).toNatClampNeg)]) (rest := []) ⟨hx, hb, hml, hown, hts⟩ (cwV 3 hts gT_X3_debt rfl rfl rfl ⟨rfl, eX3_debt⟩ ⟨Nat.le_of_ble_eq_true rfl, Nat.le_of_ble_eq_true rfl⟩) (c_X3_debt x0 ((b2 0)) ((b3 0)) ((b4 0)) ((b5 0)) ((b6 0)) q7 b1 st.1 hr1) hK hP hD hS hA [0, 1] [2, 3, 4, 5, 6, 7, 8] (by decide) rfl rfl 3 rfl rfl rfl rfl [wV cy b2 st.2.2.1 [], wV cy b3 st.2.2.2.1 [], wV cy b4 st.2.2.2.2.1 [], wD cy b5 st.2.2.2.2.2.1 [], wY cy b6 st.2.2.2.2.2.2.1 [], wS cy q7 st.2.2.2.2.2.2.2.1 [], wM cy b8 st.2.2.2.2.2.2.2.2 []] rfl rfl rfl ⟨rfl, rfl, rfl, rfl, rfl, rfl, rfl, rfl, rfl, trivial⟩ rfl hl.1 rfl (Nat.le_of_ble_eq_true rfl) dL_law_319 ⟨Nat.le_of_ble_eq_true rfl, Nat.le_of_ble_eq_true rfl⟩ (fun H locs hP hD hS => ?_)
  refine lv_aload_n hx hb dL_law_322 rfl (lv_at hl 2 rfl) ?_
  refine lv_aload_n hx hb dL_law_323 rfl (lv_at hl 0 rfl) ?_
  refine lv_iload_n hx hb dL_law_324 rfl (lv_at hl 3 rfl) ?_
  refine lv_iconst (v := 1) hx hb dL_law_325 (by decide) ?_
  refine lv_iadd hx hb dL_law_326 ?_
  refine va_sld hx hb hX hbl hbA hS hv1 dL_law_327 ?_
  refine lv_aload_n hx hb dL_law_328 rfl (lv_at hl 0 rfl) ?_
  refine lv_iload_n hx hb dL_law_329 rfl (lv_at hl 3 rfl) ?_
  refine lv_iconst (v := 2) hx hb dL_law_330 (by decide) ?_
  refine lv_iadd hx hb dL_law_331 ?_
  refine va_sld hx hb hX hbl hbA hS hv2 dL_law_332 ?_
  refine lv_aload_n hx hb dL_law_333 rfl (lv_at hl 0 rfl) ?_
  refine lv_iload_n hx hb dL_law_334 rfl (lv_at hl 3 rfl) ?_
  refine lv_iconst (v := 3) hx hb dL_law_335 (by decide) ?_
  refine lv_iadd hx hb dL_law_336 ?_
  refine va_sld hx hb hX hbl hbA hS hv3 dL_law_337 ?_
  obtain ⟨r2, hr2, h⟩ := bn_s h
  refine kcBi (bs' := [wX x0 (b1 0) (b2 0) (b3 0) (b4 0) (b5 0) (b6 0) q7 st.1 [], wV cy b1 st.2.1 [], wV cy b2 st.2.2.1 [], wV cy b3 st.2.2.2.1 [], wV cy b4 st.2.2.2.2.1 [], wD cy b5 st.2.2.2.2.2.1 [], wY cy b6 st.2.2.2.2.2.2.1 [], wS cy q7 st.2.2.2.2.2.2.2.1 [], wM cy b8 st.2.2.2.2.2.2.2.2 []]) (bc := [wM cy b8 st.2.2.2.2.2.2.2.2 []]) (bc1 := [wM cy b8 st.2.2.2.2.2.2.2.2 []]) (As := [.int (xs (x3 + 1).toNatClampNeg), .int (xs (x3 + 2).toNatClampNeg), .int (xs (x3 + 3).toNatClampNeg)]) (rest := [.int r1]) ⟨hx, hb, hml, hown, hts⟩ (cwV 3 hts gT_X4_debt rfl rfl rfl ⟨rfl, eX4_debt⟩ ⟨Nat.le_of_ble_eq_true rfl, Nat.le_of_ble_eq_true rfl⟩) (c_X4_debt b8 hr2) hK hP hD hS hA [8] [0, 1, 2, 3, 4, 5, 6, 7] (by decide) rfl rfl 4 rfl rfl rfl rfl [wX x0 (b1 0) (b2 0) (b3 0) (b4 0) (b5 0) (b6 0) q7 st.1 [], wV cy b1 st.2.1 [], wV cy b2 st.2.2.1 [], wV cy b3 st.2.2.2.1 [], wV cy b4 st.2.2.2.2.1 [], wD cy b5 st.2.2.2.2.2.1 [], wY cy b6 st.2.2.2.2.2.2.1 [], wS cy q7 st.2.2.2.2.2.2.2.1 []] rfl rfl rfl ⟨rfl, rfl, rfl, rfl, rfl, rfl, rfl, rfl, rfl, trivial⟩ rfl hl.1 rfl (Nat.le_of_ble_eq_true rfl) dL_law_338 ⟨Nat.le_of_ble_eq_true rfl, Nat.le_of_ble_eq_true rfl⟩ (fun H locs hP hD hS => ?_)
  refine lv_icmp_eq (tgt := 851) hx hb dL_law_341 (by decide) (fun c1 => ?_) (fun c1 => ?_)
  · replace h := it_p c1 h
    cases h
    exact kk H locs hP hD hS
  · replace h := it_n c1 h
    cases h
set_option maxHeartbeats 4000000 in
set_option maxRecDepth 100000 in
theorem wL_8 {p : Program} {l : Launch} {e : Env} {s : State} {m : MethodId} {below : List Frame} {meth : Method} {c : Code} {Q : State → Prop} {A : Nat → Prop} {D : va_G} {cy : Nat → ClassId} {b L : Nat} {xs : Nat → Int32} {x0 : Nat} {b1 b2 b3 b4 b5 b6 : Nat → Nat} {q7 : Nat} {b8 : Nat → Nat} {x3 : Int32} (hx : p.tables.exec = Jvm.exec) (hb : c.code = code) (hml : c.maxLocals = 4) (hown : s.vm.findClass RL = some m.cls) (hts : ∀ w ∈ lw_tbl, w.before #[Value.ref b] s = true) (hX : va_X b L xs s s.heap) (hbl : b < s.heap.size) (hbA : ¬ A b) (hA : ∀ q, s.heap.size ≤ q → A q) (hK : kK D cy s) (hv1 : vp_in (x3 + 1) L) {st st' : LSt} (h : ls_8 st (xs (x3 + 1).toNatClampNeg) = some st') {H : Heap} {locs : List Loc} {ls : Array Slot} (hP : ∀ w ∈ lB cy x0 b1 b2 b3 b4 b5 b6 q7 b8 st, va_P D vwCl w H) (hD : dB A (lB cy x0 b1 b2 b3 b4 b5 b6 q7 b8 st)) (hS : va_S A s.heap H locs) (hl : lv_has ls 4 [(0, .ref b), (1, .ref x0), (2, .ref (b8 0)), (3, .int x3)]) (kk : ∀ (H : Heap) (locs : List Loc), (∀ w ∈ lB cy x0 b1 b2 b3 b4 b5 b6 q7 b8 st', va_P D vwCl w H) → dB A (lB cy x0 b1 b2 b3 b4 b5 b6 q7 b8 st') → va_S A s.heap H locs → W p l e room_1 s m #[Value.ref b] below meth c H locs 65 48897 Q (F0 m 851 ls [])) : W p l e room_1 s m #[Value.ref b] below meth c H locs 65 48897 Q (F0 m 346 ls []) := by
  unfold ls_8 at h
  refine lv_aload_n hx hb dL_law_346 rfl (lv_at hl 1 rfl) ?_
  refine lv_aload_n hx hb dL_law_347 rfl (lv_at hl 0 rfl) ?_
  refine lv_iload_n hx hb dL_law_348 rfl (lv_at hl 3 rfl) ?_
  refine lv_iconst (v := 1) hx hb dL_law_349 (by decide) ?_
  refine lv_iadd hx hb dL_law_350 ?_
  refine va_sld hx hb hX hbl hbA hS hv1 dL_law_351 ?_
  obtain ⟨r1, hr1, h⟩ := bn_s h
  refine kcBi (bs' := [wX x0 (b1 0) (b2 0) (b3 0) (b4 0) (b5 0) (b6 0) q7 st.1 [], wV cy b1 st.2.1 [], wV cy b2 st.2.2.1 [], wV cy b3 st.2.2.2.1 [], wV cy b4 st.2.2.2.2.1 [], wD cy b5 st.2.2.2.2.2.1 [], wY cy b6 st.2.2.2.2.2.2.1 [], wS cy q7 st.2.2.2.2.2.2.2.1 [], wM cy b8 st.2.2.2.2.2.2.2.2 []]) (bc := [wX x0 (b1 0) (b2 0) (b3 0) (b4 0) (b5 0) (b6 0) q7 st.1 [], wV cy b1 st.2.1 []]) (bc1 := [wX x0 (b1 0) (b2 0) (b3 0) (b4 0) (b5 0) (b6 0) q7 st.1 [], wV cy b1 st.2.1 []]) (As := [.int (xs (x3 + 1).toNatClampNeg)]) (rest := []) ⟨hx, hb, hml, hown, hts⟩ (cwV 1 hts gT_X3_due rfl rfl rfl ⟨rfl, eX3_due⟩ ⟨Nat.le_of_ble_eq_true rfl, Nat.le_of_ble_eq_true rfl⟩) (c_X3_due x0 ((b2 0)) ((b3 0)) ((b4 0)) ((b5 0)) ((b6 0)) q7 b1 st.1 hr1) hK hP hD hS hA [0, 1] [2, 3, 4, 5, 6, 7, 8] (by decide) rfl rfl 3 rfl rfl rfl rfl [wV cy b2 st.2.2.1 [], wV cy b3 st.2.2.2.1 [], wV cy b4 st.2.2.2.2.1 [], wD cy b5 st.2.2.2.2.2.1 [], wY cy b6 st.2.2.2.2.2.2.1 [], wS cy q7 st.2.2.2.2.2.2.2.1 [], wM cy b8 st.2.2.2.2.2.2.2.2 []] rfl rfl rfl ⟨rfl, rfl, rfl, rfl, rfl, rfl, rfl, rfl, rfl, trivial⟩ rfl hl.1 rfl (Nat.le_of_ble_eq_true rfl) dL_law_352 ⟨Nat.le_of_ble_eq_true rfl, Nat.le_of_ble_eq_true rfl⟩ (fun H locs hP hD hS => ?_)
  refine lv_aload_n hx hb dL_law_355 rfl (lv_at hl 2 rfl) ?_
  refine lv_aload_n hx hb dL_law_356 rfl (lv_at hl 0 rfl) ?_
  refine lv_iload_n hx hb dL_law_357 rfl (lv_at hl 3 rfl) ?_
  refine lv_iconst (v := 1) hx hb dL_law_358 (by decide) ?_
  refine lv_iadd hx hb dL_law_359 ?_
  refine va_sld hx hb hX hbl hbA hS hv1 dL_law_360 ?_
  obtain ⟨r2, hr2, h⟩ := bn_s h
  refine kcBi (bs' := [wX x0 (b1 0) (b2 0) (b3 0) (b4 0) (b5 0) (b6 0) q7 st.1 [], wV cy b1 st.2.1 [], wV cy b2 st.2.2.1 [], wV cy b3 st.2.2.2.1 [], wV cy b4 st.2.2.2.2.1 [], wD cy b5 st.2.2.2.2.2.1 [], wY cy b6 st.2.2.2.2.2.2.1 [], wS cy q7 st.2.2.2.2.2.2.2.1 [], wM cy b8 r2.2 []]) (bc := [wM cy b8 st.2.2.2.2.2.2.2.2 []]) (bc1 := [wM cy b8 r2.2 []]) (As := [.int (xs (x3 + 1).toNatClampNeg)]) (rest := [.int r1]) ⟨hx, hb, hml, hown, hts⟩ (cwV 1 hts gT_X4_due rfl rfl rfl ⟨rfl, eX4_due⟩ ⟨Nat.le_of_ble_eq_true rfl, Nat.le_of_ble_eq_true rfl⟩) (c_X4_due b8 hr2) hK hP hD hS hA [8] [0, 1, 2, 3, 4, 5, 6, 7] (by decide) rfl rfl 4 rfl rfl rfl rfl [wX x0 (b1 0) (b2 0) (b3 0) (b4 0) (b5 0) (b6 0) q7 st.1 [], wV cy b1 st.2.1 [], wV cy b2 st.2.2.1 [], wV cy b3 st.2.2.2.1 [], wV cy b4 st.2.2.2.2.1 [], wD cy b5 st.2.2.2.2.2.1 [], wY cy b6 st.2.2.2.2.2.2.1 [], wS cy q7 st.2.2.2.2.2.2.2.1 []] rfl rfl rfl ⟨rfl, rfl, rfl, rfl, rfl, rfl, rfl, rfl, ad_M, trivial⟩ rfl hl.1 rfl (Nat.le_of_ble_eq_true rfl) dL_law_361 ⟨Nat.le_of_ble_eq_true rfl, Nat.le_of_ble_eq_true rfl⟩ (fun H locs hP hD hS => ?_)
  refine lv_icmp_eq (tgt := 851) hx hb dL_law_364 (by decide) (fun c1 => ?_) (fun c1 => ?_)
  · replace h := it_p c1 h
    cases h
    exact kk H locs hP hD hS
  · replace h := it_n c1 h
    cases h
set_option maxHeartbeats 4000000 in
set_option maxRecDepth 100000 in
theorem wL_9 {p : Program} {l : Launch} {e : Env} {s : State} {m : MethodId} {below : List Frame} {meth : Method} {c : Code} {Q : State → Prop} {A : Nat → Prop} {D : va_G} {cy : Nat → ClassId} {b L : Nat} {xs : Nat → Int32} {x0 : Nat} {b1 b2 b3 b4 b5 b6 : Nat → Nat} {q7 : Nat} {b8 : Nat → Nat} {x3 : Int32} (hx : p.tables.exec = Jvm.exec) (hb : c.code = code) (hml : c.maxLocals = 4) (hown : s.vm.findClass RL = some m.cls) (hts : ∀ w ∈ lw_tbl, w.before #[Value.ref b] s = true) (hX : va_X b L xs s s.heap) (hbl : b < s.heap.size) (hbA : ¬ A b) (hA : ∀ q, s.heap.size ≤ q → A q) (hK : kK D cy s) (hv1 : vp_in (x3 + 1) L) (hv2 : vp_in (x3 + 2) L) {st st' : LSt} (h : ls_9 st (xs (x3 + 1).toNatClampNeg) (xs (x3 + 2).toNatClampNeg) = some st') {H : Heap} {locs : List Loc} {ls : Array Slot} (hP : ∀ w ∈ lB cy x0 b1 b2 b3 b4 b5 b6 q7 b8 st, va_P D vwCl w H) (hD : dB A (lB cy x0 b1 b2 b3 b4 b5 b6 q7 b8 st)) (hS : va_S A s.heap H locs) (hl : lv_has ls 4 [(0, .ref b), (1, .ref x0), (2, .ref (b8 0)), (3, .int x3)]) (kk : ∀ (H : Heap) (locs : List Loc), (∀ w ∈ lB cy x0 b1 b2 b3 b4 b5 b6 q7 b8 st', va_P D vwCl w H) → dB A (lB cy x0 b1 b2 b3 b4 b5 b6 q7 b8 st') → va_S A s.heap H locs → W p l e room_1 s m #[Value.ref b] below meth c H locs 65 48897 Q (F0 m 851 ls [])) : W p l e room_1 s m #[Value.ref b] below meth c H locs 65 48897 Q (F0 m 369 ls []) := by
  unfold ls_9 at h
  refine lv_aload_n hx hb dL_law_369 rfl (lv_at hl 1 rfl) ?_
  refine lv_aload_n hx hb dL_law_370 rfl (lv_at hl 0 rfl) ?_
  refine lv_iload_n hx hb dL_law_371 rfl (lv_at hl 3 rfl) ?_
  refine lv_iconst (v := 1) hx hb dL_law_372 (by decide) ?_
  refine lv_iadd hx hb dL_law_373 ?_
  refine va_sld hx hb hX hbl hbA hS hv1 dL_law_374 ?_
  refine lv_aload_n hx hb dL_law_375 rfl (lv_at hl 0 rfl) ?_
  refine lv_iload_n hx hb dL_law_376 rfl (lv_at hl 3 rfl) ?_
  refine lv_iconst (v := 2) hx hb dL_law_377 (by decide) ?_
  refine lv_iadd hx hb dL_law_378 ?_
  refine va_sld hx hb hX hbl hbA hS hv2 dL_law_379 ?_
  obtain ⟨r1, hr1, h⟩ := bn_s h
  refine kcBi (bs' := [wX x0 (b1 0) (b2 0) (b3 0) (b4 0) (b5 0) (b6 0) q7 st.1 [], wV cy b1 st.2.1 [], wV cy b2 st.2.2.1 [], wV cy b3 st.2.2.2.1 [], wV cy b4 st.2.2.2.2.1 [], wD cy b5 st.2.2.2.2.2.1 [], wY cy b6 st.2.2.2.2.2.2.1 [], wS cy q7 st.2.2.2.2.2.2.2.1 [], wM cy b8 st.2.2.2.2.2.2.2.2 []]) (bc := [wX x0 (b1 0) (b2 0) (b3 0) (b4 0) (b5 0) (b6 0) q7 st.1 [], wV cy b1 st.2.1 []]) (bc1 := [wX x0 (b1 0) (b2 0) (b3 0) (b4 0) (b5 0) (b6 0) q7 st.1 [], wV cy b1 st.2.1 []]) (As := [.int (xs (x3 + 1).toNatClampNeg), .int (xs (x3 + 2).toNatClampNeg)]) (rest := []) ⟨hx, hb, hml, hown, hts⟩ (cwV 2 hts gT_X3_owes rfl rfl rfl ⟨rfl, eX3_owes⟩ ⟨Nat.le_of_ble_eq_true rfl, Nat.le_of_ble_eq_true rfl⟩) (c_X3_owes x0 ((b2 0)) ((b3 0)) ((b4 0)) ((b5 0)) ((b6 0)) q7 b1 st.1 hr1) hK hP hD hS hA [0, 1] [2, 3, 4, 5, 6, 7, 8] (by decide) rfl rfl 3 rfl rfl rfl rfl [wV cy b2 st.2.2.1 [], wV cy b3 st.2.2.2.1 [], wV cy b4 st.2.2.2.2.1 [], wD cy b5 st.2.2.2.2.2.1 [], wY cy b6 st.2.2.2.2.2.2.1 [], wS cy q7 st.2.2.2.2.2.2.2.1 [], wM cy b8 st.2.2.2.2.2.2.2.2 []] rfl rfl rfl ⟨rfl, rfl, rfl, rfl, rfl, rfl, rfl, rfl, rfl, trivial⟩ rfl hl.1 rfl (Nat.le_of_ble_eq_true rfl) dL_law_380 ⟨Nat.le_of_ble_eq_true rfl, Nat.le_of_ble_eq_true rfl⟩ (fun H locs hP hD hS => ?_)
  refine lv_aload_n hx hb dL_law_383 rfl (lv_at hl 2 rfl) ?_
  refine lv_aload_n hx hb dL_law_384 rfl (lv_at hl 0 rfl) ?_
  refine lv_iload_n hx hb dL_law_385 rfl (lv_at hl 3 rfl) ?_
  refine lv_iconst (v := 1) hx hb dL_law_386 (by decide) ?_
  refine lv_iadd hx hb dL_law_387 ?_
  refine va_sld hx hb hX hbl hbA hS hv1 dL_law_388 ?_
  refine lv_aload_n hx hb dL_law_389 rfl (lv_at hl 0 rfl) ?_
  refine lv_iload_n hx hb dL_law_390 rfl (lv_at hl 3 rfl) ?_
  refine lv_iconst (v := 2) hx hb dL_law_391 (by decide) ?_
  refine lv_iadd hx hb dL_law_392 ?_
  refine va_sld hx hb hX hbl hbA hS hv2 dL_law_393 ?_
  obtain ⟨r2, hr2, h⟩ := bn_s h
  refine kcBi (bs' := [wX x0 (b1 0) (b2 0) (b3 0) (b4 0) (b5 0) (b6 0) q7 st.1 [], wV cy b1 st.2.1 [], wV cy b2 st.2.2.1 [], wV cy b3 st.2.2.2.1 [], wV cy b4 st.2.2.2.2.1 [], wD cy b5 st.2.2.2.2.2.1 [], wY cy b6 st.2.2.2.2.2.2.1 [], wS cy q7 st.2.2.2.2.2.2.2.1 [], wM cy b8 st.2.2.2.2.2.2.2.2 []]) (bc := [wM cy b8 st.2.2.2.2.2.2.2.2 []]) (bc1 := [wM cy b8 st.2.2.2.2.2.2.2.2 []]) (As := [.int (xs (x3 + 1).toNatClampNeg), .int (xs (x3 + 2).toNatClampNeg)]) (rest := [.int r1]) ⟨hx, hb, hml, hown, hts⟩ (cwV 2 hts gT_X4_owes rfl rfl rfl ⟨rfl, eX4_owes⟩ ⟨Nat.le_of_ble_eq_true rfl, Nat.le_of_ble_eq_true rfl⟩) (c_X4_owes b8 hr2) hK hP hD hS hA [8] [0, 1, 2, 3, 4, 5, 6, 7] (by decide) rfl rfl 4 rfl rfl rfl rfl [wX x0 (b1 0) (b2 0) (b3 0) (b4 0) (b5 0) (b6 0) q7 st.1 [], wV cy b1 st.2.1 [], wV cy b2 st.2.2.1 [], wV cy b3 st.2.2.2.1 [], wV cy b4 st.2.2.2.2.1 [], wD cy b5 st.2.2.2.2.2.1 [], wY cy b6 st.2.2.2.2.2.2.1 [], wS cy q7 st.2.2.2.2.2.2.2.1 []] rfl rfl rfl ⟨rfl, rfl, rfl, rfl, rfl, rfl, rfl, rfl, rfl, trivial⟩ rfl hl.1 rfl (Nat.le_of_ble_eq_true rfl) dL_law_394 ⟨Nat.le_of_ble_eq_true rfl, Nat.le_of_ble_eq_true rfl⟩ (fun H locs hP hD hS => ?_)
  refine lv_icmp_eq (tgt := 851) hx hb dL_law_397 (by decide) (fun c1 => ?_) (fun c1 => ?_)
  · replace h := it_p c1 h
    cases h
    exact kk H locs hP hD hS
  · replace h := it_n c1 h
    cases h
set_option maxHeartbeats 4000000 in
set_option maxRecDepth 100000 in
theorem wL_10 {p : Program} {l : Launch} {e : Env} {s : State} {m : MethodId} {below : List Frame} {meth : Method} {c : Code} {Q : State → Prop} {A : Nat → Prop} {D : va_G} {cy : Nat → ClassId} {b L : Nat} {xs : Nat → Int32} {x0 : Nat} {b1 b2 b3 b4 b5 b6 : Nat → Nat} {q7 : Nat} {b8 : Nat → Nat} {x3 : Int32} (hx : p.tables.exec = Jvm.exec) (hb : c.code = code) (hml : c.maxLocals = 4) (hown : s.vm.findClass RL = some m.cls) (hts : ∀ w ∈ lw_tbl, w.before #[Value.ref b] s = true) (hX : va_X b L xs s s.heap) (hbl : b < s.heap.size) (hbA : ¬ A b) (hA : ∀ q, s.heap.size ≤ q → A q) (hK : kK D cy s) (hv1 : vp_in (x3 + 1) L) (hv2 : vp_in (x3 + 2) L) {st st' : LSt} (h : ls_10 st (xs (x3 + 1).toNatClampNeg) (xs (x3 + 2).toNatClampNeg) = some st') {H : Heap} {locs : List Loc} {ls : Array Slot} (hP : ∀ w ∈ lB cy x0 b1 b2 b3 b4 b5 b6 q7 b8 st, va_P D vwCl w H) (hD : dB A (lB cy x0 b1 b2 b3 b4 b5 b6 q7 b8 st)) (hS : va_S A s.heap H locs) (hl : lv_has ls 4 [(0, .ref b), (1, .ref x0), (2, .ref (b8 0)), (3, .int x3)]) (kk : ∀ (H : Heap) (locs : List Loc), (∀ w ∈ lB cy x0 b1 b2 b3 b4 b5 b6 q7 b8 st', va_P D vwCl w H) → dB A (lB cy x0 b1 b2 b3 b4 b5 b6 q7 b8 st') → va_S A s.heap H locs → W p l e room_1 s m #[Value.ref b] below meth c H locs 65 48897 Q (F0 m 851 ls [])) : W p l e room_1 s m #[Value.ref b] below meth c H locs 65 48897 Q (F0 m 402 ls []) := by
  unfold ls_10 at h
  refine lv_aload_n hx hb dL_law_402 rfl (lv_at hl 1 rfl) ?_
  refine lv_aload_n hx hb dL_law_403 rfl (lv_at hl 0 rfl) ?_
  refine lv_iload_n hx hb dL_law_404 rfl (lv_at hl 3 rfl) ?_
  refine lv_iconst (v := 1) hx hb dL_law_405 (by decide) ?_
  refine lv_iadd hx hb dL_law_406 ?_
  refine va_sld hx hb hX hbl hbA hS hv1 dL_law_407 ?_
  refine lv_aload_n hx hb dL_law_408 rfl (lv_at hl 0 rfl) ?_
  refine lv_iload_n hx hb dL_law_409 rfl (lv_at hl 3 rfl) ?_
  refine lv_iconst (v := 2) hx hb dL_law_410 (by decide) ?_
  refine lv_iadd hx hb dL_law_411 ?_
  refine va_sld hx hb hX hbl hbA hS hv2 dL_law_412 ?_
  obtain ⟨r1, hr1, h⟩ := bn_s h
  refine kcBi (bs' := [wX x0 (b1 0) (b2 0) (b3 0) (b4 0) (b5 0) (b6 0) q7 st.1 [], wV cy b1 r1.2 [], wV cy b2 st.2.2.1 [], wV cy b3 st.2.2.2.1 [], wV cy b4 st.2.2.2.2.1 [], wD cy b5 st.2.2.2.2.2.1 [], wY cy b6 st.2.2.2.2.2.2.1 [], wS cy q7 st.2.2.2.2.2.2.2.1 [], wM cy b8 st.2.2.2.2.2.2.2.2 []]) (bc := [wX x0 (b1 0) (b2 0) (b3 0) (b4 0) (b5 0) (b6 0) q7 st.1 [], wV cy b1 st.2.1 []]) (bc1 := [wX x0 (b1 0) (b2 0) (b3 0) (b4 0) (b5 0) (b6 0) q7 st.1 [], wV cy b1 r1.2 []]) (As := [.int (xs (x3 + 1).toNatClampNeg), .int (xs (x3 + 2).toNatClampNeg)]) (rest := []) ⟨hx, hb, hml, hown, hts⟩ (cwV 2 hts gT_X3_seen rfl rfl rfl ⟨rfl, eX3_seen⟩ ⟨Nat.le_of_ble_eq_true rfl, Nat.le_of_ble_eq_true rfl⟩) (c_X3_seen x0 ((b2 0)) ((b3 0)) ((b4 0)) ((b5 0)) ((b6 0)) q7 b1 st.1 hr1) hK hP hD hS hA [0, 1] [2, 3, 4, 5, 6, 7, 8] (by decide) rfl rfl 3 rfl rfl rfl rfl [wV cy b2 st.2.2.1 [], wV cy b3 st.2.2.2.1 [], wV cy b4 st.2.2.2.2.1 [], wD cy b5 st.2.2.2.2.2.1 [], wY cy b6 st.2.2.2.2.2.2.1 [], wS cy q7 st.2.2.2.2.2.2.2.1 [], wM cy b8 st.2.2.2.2.2.2.2.2 []] rfl rfl rfl ⟨rfl, ad_V, rfl, rfl, rfl, rfl, rfl, rfl, rfl, trivial⟩ rfl hl.1 rfl (Nat.le_of_ble_eq_true rfl) dL_law_413 ⟨Nat.le_of_ble_eq_true rfl, Nat.le_of_ble_eq_true rfl⟩ (fun H locs hP hD hS => ?_)
  refine lv_aload_n hx hb dL_law_416 rfl (lv_at hl 2 rfl) ?_
  refine lv_aload_n hx hb dL_law_417 rfl (lv_at hl 0 rfl) ?_
  refine lv_iload_n hx hb dL_law_418 rfl (lv_at hl 3 rfl) ?_
  refine lv_iconst (v := 1) hx hb dL_law_419 (by decide) ?_
  refine lv_iadd hx hb dL_law_420 ?_
  refine va_sld hx hb hX hbl hbA hS hv1 dL_law_421 ?_
  refine lv_aload_n hx hb dL_law_422 rfl (lv_at hl 0 rfl) ?_
  refine lv_iload_n hx hb dL_law_423 rfl (lv_at hl 3 rfl) ?_
  refine lv_iconst (v := 2) hx hb dL_law_424 (by decide) ?_
  refine lv_iadd hx hb dL_law_425 ?_
  refine va_sld hx hb hX hbl hbA hS hv2 dL_law_426 ?_
  obtain ⟨r2, hr2, h⟩ := bn_s h
  refine kcBi (bs' := [wX x0 (b1 0) (b2 0) (b3 0) (b4 0) (b5 0) (b6 0) q7 st.1 [], wV cy b1 r1.2 [], wV cy b2 st.2.2.1 [], wV cy b3 st.2.2.2.1 [], wV cy b4 st.2.2.2.2.1 [], wD cy b5 st.2.2.2.2.2.1 [], wY cy b6 st.2.2.2.2.2.2.1 [], wS cy q7 st.2.2.2.2.2.2.2.1 [], wM cy b8 r2.2 []]) (bc := [wM cy b8 st.2.2.2.2.2.2.2.2 []]) (bc1 := [wM cy b8 r2.2 []]) (As := [.int (xs (x3 + 1).toNatClampNeg), .int (xs (x3 + 2).toNatClampNeg)]) (rest := [.int r1.1]) ⟨hx, hb, hml, hown, hts⟩ (cwV 2 hts gT_X4_seen rfl rfl rfl ⟨rfl, eX4_seen⟩ ⟨Nat.le_of_ble_eq_true rfl, Nat.le_of_ble_eq_true rfl⟩) (c_X4_seen b8 hr2) hK hP hD hS hA [8] [0, 1, 2, 3, 4, 5, 6, 7] (by decide) rfl rfl 4 rfl rfl rfl rfl [wX x0 (b1 0) (b2 0) (b3 0) (b4 0) (b5 0) (b6 0) q7 st.1 [], wV cy b1 r1.2 [], wV cy b2 st.2.2.1 [], wV cy b3 st.2.2.2.1 [], wV cy b4 st.2.2.2.2.1 [], wD cy b5 st.2.2.2.2.2.1 [], wY cy b6 st.2.2.2.2.2.2.1 [], wS cy q7 st.2.2.2.2.2.2.2.1 []] rfl rfl rfl ⟨rfl, rfl, rfl, rfl, rfl, rfl, rfl, rfl, ad_M, trivial⟩ rfl hl.1 rfl (Nat.le_of_ble_eq_true rfl) dL_law_427 ⟨Nat.le_of_ble_eq_true rfl, Nat.le_of_ble_eq_true rfl⟩ (fun H locs hP hD hS => ?_)
  refine lv_icmp_eq (tgt := 851) hx hb dL_law_430 (by decide) (fun c1 => ?_) (fun c1 => ?_)
  · replace h := it_p c1 h
    cases h
    exact kk H locs hP hD hS
  · replace h := it_n c1 h
    cases h
set_option maxHeartbeats 4000000 in
set_option maxRecDepth 100000 in
theorem wL_11 {p : Program} {l : Launch} {e : Env} {s : State} {m : MethodId} {below : List Frame} {meth : Method} {c : Code} {Q : State → Prop} {A : Nat → Prop} {D : va_G} {cy : Nat → ClassId} {b L : Nat} {xs : Nat → Int32} {x0 : Nat} {b1 b2 b3 b4 b5 b6 : Nat → Nat} {q7 : Nat} {b8 : Nat → Nat} {x3 : Int32} (hx : p.tables.exec = Jvm.exec) (hb : c.code = code) (hml : c.maxLocals = 4) (hown : s.vm.findClass RL = some m.cls) (hts : ∀ w ∈ lw_tbl, w.before #[Value.ref b] s = true) (hX : va_X b L xs s s.heap) (hbl : b < s.heap.size) (hbA : ¬ A b) (hA : ∀ q, s.heap.size ≤ q → A q) (hK : kK D cy s)  {st st' : LSt} (h : ls_11 st  = some st') {H : Heap} {locs : List Loc} {ls : Array Slot} (hP : ∀ w ∈ lB cy x0 b1 b2 b3 b4 b5 b6 q7 b8 st, va_P D vwCl w H) (hD : dB A (lB cy x0 b1 b2 b3 b4 b5 b6 q7 b8 st)) (hS : va_S A s.heap H locs) (hl : lv_has ls 4 [(0, .ref b), (1, .ref x0), (2, .ref (b8 0)), (3, .int x3)]) (kk : ∀ (H : Heap) (locs : List Loc), (∀ w ∈ lB cy x0 b1 b2 b3 b4 b5 b6 q7 b8 st', va_P D vwCl w H) → dB A (lB cy x0 b1 b2 b3 b4 b5 b6 q7 b8 st') → va_S A s.heap H locs → W p l e room_1 s m #[Value.ref b] below meth c H locs 65 48897 Q (F0 m 851 ls [])) : W p l e room_1 s m #[Value.ref b] below meth c H locs 65 48897 Q (F0 m 435 ls []) := by
  unfold ls_11 at h
  refine lv_aload_n hx hb dL_law_435 rfl (lv_at hl 1 rfl) ?_
  obtain ⟨r1, hr1, h⟩ := bn_s h
  refine kcBi (bs' := [wX x0 (b1 0) (b2 0) (b3 0) (b4 0) (b5 0) (b6 0) q7 st.1 [], wV cy b1 r1.2 [], wV cy b2 st.2.2.1 [], wV cy b3 st.2.2.2.1 [], wV cy b4 st.2.2.2.2.1 [], wD cy b5 st.2.2.2.2.2.1 [], wY cy b6 st.2.2.2.2.2.2.1 [], wS cy q7 st.2.2.2.2.2.2.2.1 [], wM cy b8 st.2.2.2.2.2.2.2.2 []]) (bc := [wX x0 (b1 0) (b2 0) (b3 0) (b4 0) (b5 0) (b6 0) q7 st.1 [], wV cy b1 st.2.1 []]) (bc1 := [wX x0 (b1 0) (b2 0) (b3 0) (b4 0) (b5 0) (b6 0) q7 st.1 [], wV cy b1 r1.2 []]) (As := []) (rest := []) ⟨hx, hb, hml, hown, hts⟩ (cwV 0 hts gT_X3_forget rfl rfl rfl ⟨rfl, eX3_forget⟩ ⟨Nat.le_of_ble_eq_true rfl, Nat.le_of_ble_eq_true rfl⟩) (c_X3_forget x0 ((b2 0)) ((b3 0)) ((b4 0)) ((b5 0)) ((b6 0)) q7 b1 st.1 hr1) hK hP hD hS hA [0, 1] [2, 3, 4, 5, 6, 7, 8] (by decide) rfl rfl 3 rfl rfl rfl rfl [wV cy b2 st.2.2.1 [], wV cy b3 st.2.2.2.1 [], wV cy b4 st.2.2.2.2.1 [], wD cy b5 st.2.2.2.2.2.1 [], wY cy b6 st.2.2.2.2.2.2.1 [], wS cy q7 st.2.2.2.2.2.2.2.1 [], wM cy b8 st.2.2.2.2.2.2.2.2 []] rfl rfl rfl ⟨rfl, ad_V, rfl, rfl, rfl, rfl, rfl, rfl, rfl, trivial⟩ rfl hl.1 rfl (Nat.le_of_ble_eq_true rfl) dL_law_436 ⟨Nat.le_of_ble_eq_true rfl, Nat.le_of_ble_eq_true rfl⟩ (fun H locs hP hD hS => ?_)
  refine lv_aload_n hx hb dL_law_439 rfl (lv_at hl 2 rfl) ?_
  obtain ⟨r2, hr2, h⟩ := bn_s h
  refine kcBi (bs' := [wX x0 (b1 0) (b2 0) (b3 0) (b4 0) (b5 0) (b6 0) q7 st.1 [], wV cy b1 r1.2 [], wV cy b2 st.2.2.1 [], wV cy b3 st.2.2.2.1 [], wV cy b4 st.2.2.2.2.1 [], wD cy b5 st.2.2.2.2.2.1 [], wY cy b6 st.2.2.2.2.2.2.1 [], wS cy q7 st.2.2.2.2.2.2.2.1 [], wM cy b8 r2.2 []]) (bc := [wM cy b8 st.2.2.2.2.2.2.2.2 []]) (bc1 := [wM cy b8 r2.2 []]) (As := []) (rest := [.int r1.1]) ⟨hx, hb, hml, hown, hts⟩ (cwV 0 hts gT_X4_forget rfl rfl rfl ⟨rfl, eX4_forget⟩ ⟨Nat.le_of_ble_eq_true rfl, Nat.le_of_ble_eq_true rfl⟩) (c_X4_forget b8 hr2) hK hP hD hS hA [8] [0, 1, 2, 3, 4, 5, 6, 7] (by decide) rfl rfl 4 rfl rfl rfl rfl [wX x0 (b1 0) (b2 0) (b3 0) (b4 0) (b5 0) (b6 0) q7 st.1 [], wV cy b1 r1.2 [], wV cy b2 st.2.2.1 [], wV cy b3 st.2.2.2.1 [], wV cy b4 st.2.2.2.2.1 [], wD cy b5 st.2.2.2.2.2.1 [], wY cy b6 st.2.2.2.2.2.2.1 [], wS cy q7 st.2.2.2.2.2.2.2.1 []] rfl rfl rfl ⟨rfl, rfl, rfl, rfl, rfl, rfl, rfl, rfl, ad_M, trivial⟩ rfl hl.1 rfl (Nat.le_of_ble_eq_true rfl) dL_law_440 ⟨Nat.le_of_ble_eq_true rfl, Nat.le_of_ble_eq_true rfl⟩ (fun H locs hP hD hS => ?_)
  refine lv_icmp_eq (tgt := 851) hx hb dL_law_443 (by decide) (fun c1 => ?_) (fun c1 => ?_)
  · replace h := it_p c1 h
    cases h
    exact kk H locs hP hD hS
  · replace h := it_n c1 h
    cases h
set_option maxHeartbeats 4000000 in
set_option maxRecDepth 100000 in
theorem wL_12 {p : Program} {l : Launch} {e : Env} {s : State} {m : MethodId} {below : List Frame} {meth : Method} {c : Code} {Q : State → Prop} {A : Nat → Prop} {D : va_G} {cy : Nat → ClassId} {b L : Nat} {xs : Nat → Int32} {x0 : Nat} {b1 b2 b3 b4 b5 b6 : Nat → Nat} {q7 : Nat} {b8 : Nat → Nat} {x3 : Int32} (hx : p.tables.exec = Jvm.exec) (hb : c.code = code) (hml : c.maxLocals = 4) (hown : s.vm.findClass RL = some m.cls) (hts : ∀ w ∈ lw_tbl, w.before #[Value.ref b] s = true) (hX : va_X b L xs s s.heap) (hbl : b < s.heap.size) (hbA : ¬ A b) (hA : ∀ q, s.heap.size ≤ q → A q) (hK : kK D cy s) (hv1 : vp_in (x3 + 1) L) {st st' : LSt} (h : ls_12 st (xs (x3 + 1).toNatClampNeg) = some st') {H : Heap} {locs : List Loc} {ls : Array Slot} (hP : ∀ w ∈ lB cy x0 b1 b2 b3 b4 b5 b6 q7 b8 st, va_P D vwCl w H) (hD : dB A (lB cy x0 b1 b2 b3 b4 b5 b6 q7 b8 st)) (hS : va_S A s.heap H locs) (hl : lv_has ls 4 [(0, .ref b), (1, .ref x0), (2, .ref (b8 0)), (3, .int x3)]) (kk : ∀ (H : Heap) (locs : List Loc), (∀ w ∈ lB cy x0 b1 b2 b3 b4 b5 b6 q7 b8 st', va_P D vwCl w H) → dB A (lB cy x0 b1 b2 b3 b4 b5 b6 q7 b8 st') → va_S A s.heap H locs → W p l e room_1 s m #[Value.ref b] below meth c H locs 65 48897 Q (F0 m 851 ls [])) : W p l e room_1 s m #[Value.ref b] below meth c H locs 65 48897 Q (F0 m 448 ls []) := by
  unfold ls_12 at h
  refine lv_aload_n hx hb dL_law_448 rfl (lv_at hl 1 rfl) ?_
  refine lv_aload_n hx hb dL_law_449 rfl (lv_at hl 0 rfl) ?_
  refine lv_iload_n hx hb dL_law_450 rfl (lv_at hl 3 rfl) ?_
  refine lv_iconst (v := 1) hx hb dL_law_451 (by decide) ?_
  refine lv_iadd hx hb dL_law_452 ?_
  refine va_sld hx hb hX hbl hbA hS hv1 dL_law_453 ?_
  obtain ⟨r1, hr1, h⟩ := bn_s h
  refine kcBi (bs' := [wX x0 (b1 0) (b2 0) (b3 0) (b4 0) (b5 0) (b6 0) q7 st.1 [], wV cy b1 st.2.1 [], wV cy b2 r1.2.1 [], wV cy b3 st.2.2.2.1 [], wV cy b4 st.2.2.2.2.1 [], wD cy b5 r1.2.2 [], wY cy b6 st.2.2.2.2.2.2.1 [], wS cy q7 st.2.2.2.2.2.2.2.1 [], wM cy b8 st.2.2.2.2.2.2.2.2 []]) (bc := [wX x0 (b1 0) (b2 0) (b3 0) (b4 0) (b5 0) (b6 0) q7 st.1 [], wV cy b1 st.2.1 [], wV cy b2 st.2.2.1 [], wD cy b5 st.2.2.2.2.2.1 []]) (bc1 := [wX x0 (b1 0) (b2 0) (b3 0) (b4 0) (b5 0) (b6 0) q7 st.1 [], wV cy b1 st.2.1 [], wV cy b2 r1.2.1 [], wD cy b5 r1.2.2 []]) (As := [.int (xs (x3 + 1).toNatClampNeg)]) (rest := []) ⟨hx, hb, hml, hown, hts⟩ (cwV 1 hts gT_X3_filled rfl rfl rfl ⟨rfl, eX3_filled⟩ ⟨Nat.le_of_ble_eq_true rfl, Nat.le_of_ble_eq_true rfl⟩) (c_X3_filled x0 ((b3 0)) ((b4 0)) ((b6 0)) q7 b1 b2 b5 st.1 hr1) hK hP hD hS hA [0, 1, 2, 5] [3, 4, 6, 7, 8] (by decide) rfl rfl 3 rfl rfl rfl rfl [wV cy b3 st.2.2.2.1 [], wV cy b4 st.2.2.2.2.1 [], wY cy b6 st.2.2.2.2.2.2.1 [], wS cy q7 st.2.2.2.2.2.2.2.1 [], wM cy b8 st.2.2.2.2.2.2.2.2 []] rfl rfl rfl ⟨rfl, rfl, ad_V, rfl, rfl, ad_D, rfl, rfl, rfl, trivial⟩ rfl hl.1 rfl (Nat.le_of_ble_eq_true rfl) dL_law_454 ⟨Nat.le_of_ble_eq_true rfl, Nat.le_of_ble_eq_true rfl⟩ (fun H locs hP hD hS => ?_)
  refine lv_aload_n hx hb dL_law_457 rfl (lv_at hl 2 rfl) ?_
  refine lv_aload_n hx hb dL_law_458 rfl (lv_at hl 0 rfl) ?_
  refine lv_iload_n hx hb dL_law_459 rfl (lv_at hl 3 rfl) ?_
  refine lv_iconst (v := 1) hx hb dL_law_460 (by decide) ?_
  refine lv_iadd hx hb dL_law_461 ?_
  refine va_sld hx hb hX hbl hbA hS hv1 dL_law_462 ?_
  obtain ⟨r2, hr2, h⟩ := bn_s h
  refine kcBi (bs' := [wX x0 (b1 0) (b2 0) (b3 0) (b4 0) (b5 0) (b6 0) q7 st.1 [], wV cy b1 st.2.1 [], wV cy b2 r1.2.1 [], wV cy b3 st.2.2.2.1 [], wV cy b4 st.2.2.2.2.1 [], wD cy b5 r1.2.2 [], wY cy b6 st.2.2.2.2.2.2.1 [], wS cy q7 st.2.2.2.2.2.2.2.1 [], wM cy b8 r2.2 []]) (bc := [wM cy b8 st.2.2.2.2.2.2.2.2 []]) (bc1 := [wM cy b8 r2.2 []]) (As := [.int (xs (x3 + 1).toNatClampNeg)]) (rest := [.int r1.1]) ⟨hx, hb, hml, hown, hts⟩ (cwV 1 hts gT_X4_filled rfl rfl rfl ⟨rfl, eX4_filled⟩ ⟨Nat.le_of_ble_eq_true rfl, Nat.le_of_ble_eq_true rfl⟩) (c_X4_filled b8 hr2) hK hP hD hS hA [8] [0, 1, 2, 3, 4, 5, 6, 7] (by decide) rfl rfl 4 rfl rfl rfl rfl [wX x0 (b1 0) (b2 0) (b3 0) (b4 0) (b5 0) (b6 0) q7 st.1 [], wV cy b1 st.2.1 [], wV cy b2 r1.2.1 [], wV cy b3 st.2.2.2.1 [], wV cy b4 st.2.2.2.2.1 [], wD cy b5 r1.2.2 [], wY cy b6 st.2.2.2.2.2.2.1 [], wS cy q7 st.2.2.2.2.2.2.2.1 []] rfl rfl rfl ⟨rfl, rfl, rfl, rfl, rfl, rfl, rfl, rfl, ad_M, trivial⟩ rfl hl.1 rfl (Nat.le_of_ble_eq_true rfl) dL_law_463 ⟨Nat.le_of_ble_eq_true rfl, Nat.le_of_ble_eq_true rfl⟩ (fun H locs hP hD hS => ?_)
  refine lv_icmp_eq (tgt := 851) hx hb dL_law_466 (by decide) (fun c1 => ?_) (fun c1 => ?_)
  · replace h := it_p c1 h
    cases h
    exact kk H locs hP hD hS
  · replace h := it_n c1 h
    cases h
set_option maxHeartbeats 4000000 in
set_option maxRecDepth 100000 in
theorem wL_13 {p : Program} {l : Launch} {e : Env} {s : State} {m : MethodId} {below : List Frame} {meth : Method} {c : Code} {Q : State → Prop} {A : Nat → Prop} {D : va_G} {cy : Nat → ClassId} {b L : Nat} {xs : Nat → Int32} {x0 : Nat} {b1 b2 b3 b4 b5 b6 : Nat → Nat} {q7 : Nat} {b8 : Nat → Nat} {x3 : Int32} (hx : p.tables.exec = Jvm.exec) (hb : c.code = code) (hml : c.maxLocals = 4) (hown : s.vm.findClass RL = some m.cls) (hts : ∀ w ∈ lw_tbl, w.before #[Value.ref b] s = true) (hX : va_X b L xs s s.heap) (hbl : b < s.heap.size) (hbA : ¬ A b) (hA : ∀ q, s.heap.size ≤ q → A q) (hK : kK D cy s) (hv1 : vp_in (x3 + 1) L) (hv2 : vp_in (x3 + 2) L) {st st' : LSt} (h : ls_13 st (xs (x3 + 1).toNatClampNeg) (xs (x3 + 2).toNatClampNeg) = some st') {H : Heap} {locs : List Loc} {ls : Array Slot} (hP : ∀ w ∈ lB cy x0 b1 b2 b3 b4 b5 b6 q7 b8 st, va_P D vwCl w H) (hD : dB A (lB cy x0 b1 b2 b3 b4 b5 b6 q7 b8 st)) (hS : va_S A s.heap H locs) (hl : lv_has ls 4 [(0, .ref b), (1, .ref x0), (2, .ref (b8 0)), (3, .int x3)]) (kk : ∀ (H : Heap) (locs : List Loc), (∀ w ∈ lB cy x0 b1 b2 b3 b4 b5 b6 q7 b8 st', va_P D vwCl w H) → dB A (lB cy x0 b1 b2 b3 b4 b5 b6 q7 b8 st') → va_S A s.heap H locs → W p l e room_1 s m #[Value.ref b] below meth c H locs 65 48897 Q (F0 m 851 ls [])) : W p l e room_1 s m #[Value.ref b] below meth c H locs 65 48897 Q (F0 m 471 ls []) := by
  unfold ls_13 at h
  refine lv_aload_n hx hb dL_law_471 rfl (lv_at hl 1 rfl) ?_
  refine lv_aload_n hx hb dL_law_472 rfl (lv_at hl 0 rfl) ?_
  refine lv_iload_n hx hb dL_law_473 rfl (lv_at hl 3 rfl) ?_
  refine lv_iconst (v := 1) hx hb dL_law_474 (by decide) ?_
  refine lv_iadd hx hb dL_law_475 ?_
  refine va_sld hx hb hX hbl hbA hS hv1 dL_law_476 ?_
  refine lv_aload_n hx hb dL_law_477 rfl (lv_at hl 0 rfl) ?_
  refine lv_iload_n hx hb dL_law_478 rfl (lv_at hl 3 rfl) ?_
  refine lv_iconst (v := 2) hx hb dL_law_479 (by decide) ?_
  refine lv_iadd hx hb dL_law_480 ?_
  refine va_sld hx hb hX hbl hbA hS hv2 dL_law_481 ?_
  obtain ⟨r1, hr1, h⟩ := bn_s h
  refine kcBi (bs' := [wX x0 (b1 0) (b2 0) (b3 0) (b4 0) (b5 0) (b6 0) q7 st.1 [], wV cy b1 st.2.1 [], wV cy b2 st.2.2.1 [], wV cy b3 st.2.2.2.1 [], wV cy b4 st.2.2.2.2.1 [], wD cy b5 st.2.2.2.2.2.1 [], wY cy b6 r1.2 [], wS cy q7 st.2.2.2.2.2.2.2.1 [], wM cy b8 st.2.2.2.2.2.2.2.2 []]) (bc := [wX x0 (b1 0) (b2 0) (b3 0) (b4 0) (b5 0) (b6 0) q7 st.1 [], wV cy b1 st.2.1 [], wY cy b6 st.2.2.2.2.2.2.1 []]) (bc1 := [wX x0 (b1 0) (b2 0) (b3 0) (b4 0) (b5 0) (b6 0) q7 st.1 [], wV cy b1 st.2.1 [], wY cy b6 r1.2 []]) (As := [.int (xs (x3 + 1).toNatClampNeg), .int (xs (x3 + 2).toNatClampNeg)]) (rest := []) ⟨hx, hb, hml, hown, hts⟩ (cwV 2 hts gT_X3_soon rfl rfl rfl ⟨rfl, eX3_soon⟩ ⟨Nat.le_of_ble_eq_true rfl, Nat.le_of_ble_eq_true rfl⟩) (c_X3_soon x0 ((b2 0)) ((b3 0)) ((b4 0)) ((b5 0)) q7 b1 b6 st.1 hr1) hK hP hD hS hA [0, 1, 6] [2, 3, 4, 5, 7, 8] (by decide) rfl rfl 3 rfl rfl rfl rfl [wV cy b2 st.2.2.1 [], wV cy b3 st.2.2.2.1 [], wV cy b4 st.2.2.2.2.1 [], wD cy b5 st.2.2.2.2.2.1 [], wS cy q7 st.2.2.2.2.2.2.2.1 [], wM cy b8 st.2.2.2.2.2.2.2.2 []] rfl rfl rfl ⟨rfl, rfl, rfl, rfl, rfl, rfl, ad_Y, rfl, rfl, trivial⟩ rfl hl.1 rfl (Nat.le_of_ble_eq_true rfl) dL_law_482 ⟨Nat.le_of_ble_eq_true rfl, Nat.le_of_ble_eq_true rfl⟩ (fun H locs hP hD hS => ?_)
  refine lv_aload_n hx hb dL_law_485 rfl (lv_at hl 2 rfl) ?_
  refine lv_aload_n hx hb dL_law_486 rfl (lv_at hl 0 rfl) ?_
  refine lv_iload_n hx hb dL_law_487 rfl (lv_at hl 3 rfl) ?_
  refine lv_iconst (v := 1) hx hb dL_law_488 (by decide) ?_
  refine lv_iadd hx hb dL_law_489 ?_
  refine va_sld hx hb hX hbl hbA hS hv1 dL_law_490 ?_
  refine lv_aload_n hx hb dL_law_491 rfl (lv_at hl 0 rfl) ?_
  refine lv_iload_n hx hb dL_law_492 rfl (lv_at hl 3 rfl) ?_
  refine lv_iconst (v := 2) hx hb dL_law_493 (by decide) ?_
  refine lv_iadd hx hb dL_law_494 ?_
  refine va_sld hx hb hX hbl hbA hS hv2 dL_law_495 ?_
  obtain ⟨r2, hr2, h⟩ := bn_s h
  refine kcBi (bs' := [wX x0 (b1 0) (b2 0) (b3 0) (b4 0) (b5 0) (b6 0) q7 st.1 [], wV cy b1 st.2.1 [], wV cy b2 st.2.2.1 [], wV cy b3 st.2.2.2.1 [], wV cy b4 st.2.2.2.2.1 [], wD cy b5 st.2.2.2.2.2.1 [], wY cy b6 r1.2 [], wS cy q7 st.2.2.2.2.2.2.2.1 [], wM cy b8 r2.2 []]) (bc := [wM cy b8 st.2.2.2.2.2.2.2.2 []]) (bc1 := [wM cy b8 r2.2 []]) (As := [.int (xs (x3 + 1).toNatClampNeg), .int (xs (x3 + 2).toNatClampNeg)]) (rest := [.int r1.1]) ⟨hx, hb, hml, hown, hts⟩ (cwV 2 hts gT_X4_soon rfl rfl rfl ⟨rfl, eX4_soon⟩ ⟨Nat.le_of_ble_eq_true rfl, Nat.le_of_ble_eq_true rfl⟩) (c_X4_soon b8 hr2) hK hP hD hS hA [8] [0, 1, 2, 3, 4, 5, 6, 7] (by decide) rfl rfl 4 rfl rfl rfl rfl [wX x0 (b1 0) (b2 0) (b3 0) (b4 0) (b5 0) (b6 0) q7 st.1 [], wV cy b1 st.2.1 [], wV cy b2 st.2.2.1 [], wV cy b3 st.2.2.2.1 [], wV cy b4 st.2.2.2.2.1 [], wD cy b5 st.2.2.2.2.2.1 [], wY cy b6 r1.2 [], wS cy q7 st.2.2.2.2.2.2.2.1 []] rfl rfl rfl ⟨rfl, rfl, rfl, rfl, rfl, rfl, rfl, rfl, ad_M, trivial⟩ rfl hl.1 rfl (Nat.le_of_ble_eq_true rfl) dL_law_496 ⟨Nat.le_of_ble_eq_true rfl, Nat.le_of_ble_eq_true rfl⟩ (fun H locs hP hD hS => ?_)
  refine lv_icmp_eq (tgt := 851) hx hb dL_law_499 (by decide) (fun c1 => ?_) (fun c1 => ?_)
  · replace h := it_p c1 h
    cases h
    exact kk H locs hP hD hS
  · replace h := it_n c1 h
    cases h
set_option maxHeartbeats 4000000 in
set_option maxRecDepth 100000 in
theorem wL_14 {p : Program} {l : Launch} {e : Env} {s : State} {m : MethodId} {below : List Frame} {meth : Method} {c : Code} {Q : State → Prop} {A : Nat → Prop} {D : va_G} {cy : Nat → ClassId} {b L : Nat} {xs : Nat → Int32} {x0 : Nat} {b1 b2 b3 b4 b5 b6 : Nat → Nat} {q7 : Nat} {b8 : Nat → Nat} {x3 : Int32} (hx : p.tables.exec = Jvm.exec) (hb : c.code = code) (hml : c.maxLocals = 4) (hown : s.vm.findClass RL = some m.cls) (hts : ∀ w ∈ lw_tbl, w.before #[Value.ref b] s = true) (hX : va_X b L xs s s.heap) (hbl : b < s.heap.size) (hbA : ¬ A b) (hA : ∀ q, s.heap.size ≤ q → A q) (hK : kK D cy s)  {st st' : LSt} (h : ls_14 st  = some st') {H : Heap} {locs : List Loc} {ls : Array Slot} (hP : ∀ w ∈ lB cy x0 b1 b2 b3 b4 b5 b6 q7 b8 st, va_P D vwCl w H) (hD : dB A (lB cy x0 b1 b2 b3 b4 b5 b6 q7 b8 st)) (hS : va_S A s.heap H locs) (hl : lv_has ls 4 [(0, .ref b), (1, .ref x0), (2, .ref (b8 0)), (3, .int x3)]) (kk : ∀ (H : Heap) (locs : List Loc), (∀ w ∈ lB cy x0 b1 b2 b3 b4 b5 b6 q7 b8 st', va_P D vwCl w H) → dB A (lB cy x0 b1 b2 b3 b4 b5 b6 q7 b8 st') → va_S A s.heap H locs → W p l e room_1 s m #[Value.ref b] below meth c H locs 65 48897 Q (F0 m 851 ls [])) : W p l e room_1 s m #[Value.ref b] below meth c H locs 65 48897 Q (F0 m 504 ls []) := by
  unfold ls_14 at h
  refine lv_aload_n hx hb dL_law_504 rfl (lv_at hl 1 rfl) ?_
  obtain ⟨r1, hr1, h⟩ := bn_s h
  refine kcBi (bs' := [wX x0 (b1 0) (b2 0) (b3 0) (b4 0) (b5 0) (b6 0) q7 st.1 [], wV cy b1 st.2.1 [], wV cy b2 st.2.2.1 [], wV cy b3 st.2.2.2.1 [], wV cy b4 st.2.2.2.2.1 [], wD cy b5 st.2.2.2.2.2.1 [], wY cy b6 r1.2 [], wS cy q7 st.2.2.2.2.2.2.2.1 [], wM cy b8 st.2.2.2.2.2.2.2.2 []]) (bc := [wX x0 (b1 0) (b2 0) (b3 0) (b4 0) (b5 0) (b6 0) q7 st.1 [], wV cy b1 st.2.1 [], wY cy b6 st.2.2.2.2.2.2.1 []]) (bc1 := [wX x0 (b1 0) (b2 0) (b3 0) (b4 0) (b5 0) (b6 0) q7 st.1 [], wV cy b1 st.2.1 [], wY cy b6 r1.2 []]) (As := []) (rest := []) ⟨hx, hb, hml, hown, hts⟩ (cwV 0 hts gT_X3_barred rfl rfl rfl ⟨rfl, eX3_barred⟩ ⟨Nat.le_of_ble_eq_true rfl, Nat.le_of_ble_eq_true rfl⟩) (c_X3_barred x0 ((b2 0)) ((b3 0)) ((b4 0)) ((b5 0)) q7 b1 b6 st.1 hr1) hK hP hD hS hA [0, 1, 6] [2, 3, 4, 5, 7, 8] (by decide) rfl rfl 3 rfl rfl rfl rfl [wV cy b2 st.2.2.1 [], wV cy b3 st.2.2.2.1 [], wV cy b4 st.2.2.2.2.1 [], wD cy b5 st.2.2.2.2.2.1 [], wS cy q7 st.2.2.2.2.2.2.2.1 [], wM cy b8 st.2.2.2.2.2.2.2.2 []] rfl rfl rfl ⟨rfl, rfl, rfl, rfl, rfl, rfl, ad_Y, rfl, rfl, trivial⟩ rfl hl.1 rfl (Nat.le_of_ble_eq_true rfl) dL_law_505 ⟨Nat.le_of_ble_eq_true rfl, Nat.le_of_ble_eq_true rfl⟩ (fun H locs hP hD hS => ?_)
  refine lv_aload_n hx hb dL_law_508 rfl (lv_at hl 2 rfl) ?_
  obtain ⟨r2, hr2, h⟩ := bn_s h
  refine kcBi (bs' := [wX x0 (b1 0) (b2 0) (b3 0) (b4 0) (b5 0) (b6 0) q7 st.1 [], wV cy b1 st.2.1 [], wV cy b2 st.2.2.1 [], wV cy b3 st.2.2.2.1 [], wV cy b4 st.2.2.2.2.1 [], wD cy b5 st.2.2.2.2.2.1 [], wY cy b6 r1.2 [], wS cy q7 st.2.2.2.2.2.2.2.1 [], wM cy b8 r2.2 []]) (bc := [wM cy b8 st.2.2.2.2.2.2.2.2 []]) (bc1 := [wM cy b8 r2.2 []]) (As := []) (rest := [.int r1.1]) ⟨hx, hb, hml, hown, hts⟩ (cwV 0 hts gT_X4_barred rfl rfl rfl ⟨rfl, eX4_barred⟩ ⟨Nat.le_of_ble_eq_true rfl, Nat.le_of_ble_eq_true rfl⟩) (c_X4_barred b8 hr2) hK hP hD hS hA [8] [0, 1, 2, 3, 4, 5, 6, 7] (by decide) rfl rfl 4 rfl rfl rfl rfl [wX x0 (b1 0) (b2 0) (b3 0) (b4 0) (b5 0) (b6 0) q7 st.1 [], wV cy b1 st.2.1 [], wV cy b2 st.2.2.1 [], wV cy b3 st.2.2.2.1 [], wV cy b4 st.2.2.2.2.1 [], wD cy b5 st.2.2.2.2.2.1 [], wY cy b6 r1.2 [], wS cy q7 st.2.2.2.2.2.2.2.1 []] rfl rfl rfl ⟨rfl, rfl, rfl, rfl, rfl, rfl, rfl, rfl, ad_M, trivial⟩ rfl hl.1 rfl (Nat.le_of_ble_eq_true rfl) dL_law_509 ⟨Nat.le_of_ble_eq_true rfl, Nat.le_of_ble_eq_true rfl⟩ (fun H locs hP hD hS => ?_)
  refine lv_icmp_eq (tgt := 851) hx hb dL_law_512 (by decide) (fun c1 => ?_) (fun c1 => ?_)
  · replace h := it_p c1 h
    cases h
    exact kk H locs hP hD hS
  · replace h := it_n c1 h
    cases h
set_option maxHeartbeats 4000000 in
set_option maxRecDepth 100000 in
theorem wL_15 {p : Program} {l : Launch} {e : Env} {s : State} {m : MethodId} {below : List Frame} {meth : Method} {c : Code} {Q : State → Prop} {A : Nat → Prop} {D : va_G} {cy : Nat → ClassId} {b L : Nat} {xs : Nat → Int32} {x0 : Nat} {b1 b2 b3 b4 b5 b6 : Nat → Nat} {q7 : Nat} {b8 : Nat → Nat} {x3 : Int32} (hx : p.tables.exec = Jvm.exec) (hb : c.code = code) (hml : c.maxLocals = 4) (hown : s.vm.findClass RL = some m.cls) (hts : ∀ w ∈ lw_tbl, w.before #[Value.ref b] s = true) (hX : va_X b L xs s s.heap) (hbl : b < s.heap.size) (hbA : ¬ A b) (hA : ∀ q, s.heap.size ≤ q → A q) (hK : kK D cy s) (hv1 : vp_in (x3 + 1) L) {st st' : LSt} (h : ls_15 st (xs (x3 + 1).toNatClampNeg) = some st') {H : Heap} {locs : List Loc} {ls : Array Slot} (hP : ∀ w ∈ lB cy x0 b1 b2 b3 b4 b5 b6 q7 b8 st, va_P D vwCl w H) (hD : dB A (lB cy x0 b1 b2 b3 b4 b5 b6 q7 b8 st)) (hS : va_S A s.heap H locs) (hl : lv_has ls 4 [(0, .ref b), (1, .ref x0), (2, .ref (b8 0)), (3, .int x3)]) (kk : ∀ (H : Heap) (locs : List Loc), (∀ w ∈ lB cy x0 b1 b2 b3 b4 b5 b6 q7 b8 st', va_P D vwCl w H) → dB A (lB cy x0 b1 b2 b3 b4 b5 b6 q7 b8 st') → va_S A s.heap H locs → W p l e room_1 s m #[Value.ref b] below meth c H locs 65 48897 Q (F0 m 851 ls [])) : W p l e room_1 s m #[Value.ref b] below meth c H locs 65 48897 Q (F0 m 517 ls []) := by
  unfold ls_15 at h
  refine lv_aload_n hx hb dL_law_517 rfl (lv_at hl 1 rfl) ?_
  refine lv_aload_n hx hb dL_law_518 rfl (lv_at hl 0 rfl) ?_
  refine lv_iload_n hx hb dL_law_519 rfl (lv_at hl 3 rfl) ?_
  refine lv_iconst (v := 1) hx hb dL_law_520 (by decide) ?_
  refine lv_iadd hx hb dL_law_521 ?_
  refine va_sld hx hb hX hbl hbA hS hv1 dL_law_522 ?_
  obtain ⟨r1, hr1, h⟩ := bn_s h
  refine kcBi (bs' := [wX x0 (b1 0) (b2 0) (b3 0) (b4 0) (b5 0) (b6 0) q7 st.1 [], wV cy b1 st.2.1 [], wV cy b2 st.2.2.1 [], wV cy b3 st.2.2.2.1 [], wV cy b4 st.2.2.2.2.1 [], wD cy b5 st.2.2.2.2.2.1 [], wY cy b6 r1.2 [], wS cy q7 st.2.2.2.2.2.2.2.1 [], wM cy b8 st.2.2.2.2.2.2.2.2 []]) (bc := [wX x0 (b1 0) (b2 0) (b3 0) (b4 0) (b5 0) (b6 0) q7 st.1 [], wV cy b1 st.2.1 [], wY cy b6 st.2.2.2.2.2.2.1 []]) (bc1 := [wX x0 (b1 0) (b2 0) (b3 0) (b4 0) (b5 0) (b6 0) q7 st.1 [], wV cy b1 st.2.1 [], wY cy b6 r1.2 []]) (As := [.int (xs (x3 + 1).toNatClampNeg)]) (rest := []) ⟨hx, hb, hml, hown, hts⟩ (cwV 1 hts gT_X3_help rfl rfl rfl ⟨rfl, eX3_help⟩ ⟨Nat.le_of_ble_eq_true rfl, Nat.le_of_ble_eq_true rfl⟩) (c_X3_help x0 ((b2 0)) ((b3 0)) ((b4 0)) ((b5 0)) q7 b1 b6 st.1 hr1) hK hP hD hS hA [0, 1, 6] [2, 3, 4, 5, 7, 8] (by decide) rfl rfl 3 rfl rfl rfl rfl [wV cy b2 st.2.2.1 [], wV cy b3 st.2.2.2.1 [], wV cy b4 st.2.2.2.2.1 [], wD cy b5 st.2.2.2.2.2.1 [], wS cy q7 st.2.2.2.2.2.2.2.1 [], wM cy b8 st.2.2.2.2.2.2.2.2 []] rfl rfl rfl ⟨rfl, rfl, rfl, rfl, rfl, rfl, ad_Y, rfl, rfl, trivial⟩ rfl hl.1 rfl (Nat.le_of_ble_eq_true rfl) dL_law_523 ⟨Nat.le_of_ble_eq_true rfl, Nat.le_of_ble_eq_true rfl⟩ (fun H locs hP hD hS => ?_)
  refine lv_aload_n hx hb dL_law_526 rfl (lv_at hl 2 rfl) ?_
  refine lv_aload_n hx hb dL_law_527 rfl (lv_at hl 0 rfl) ?_
  refine lv_iload_n hx hb dL_law_528 rfl (lv_at hl 3 rfl) ?_
  refine lv_iconst (v := 1) hx hb dL_law_529 (by decide) ?_
  refine lv_iadd hx hb dL_law_530 ?_
  refine va_sld hx hb hX hbl hbA hS hv1 dL_law_531 ?_
  obtain ⟨r2, hr2, h⟩ := bn_s h
  refine kcBi (bs' := [wX x0 (b1 0) (b2 0) (b3 0) (b4 0) (b5 0) (b6 0) q7 st.1 [], wV cy b1 st.2.1 [], wV cy b2 st.2.2.1 [], wV cy b3 st.2.2.2.1 [], wV cy b4 st.2.2.2.2.1 [], wD cy b5 st.2.2.2.2.2.1 [], wY cy b6 r1.2 [], wS cy q7 st.2.2.2.2.2.2.2.1 [], wM cy b8 r2.2 []]) (bc := [wM cy b8 st.2.2.2.2.2.2.2.2 []]) (bc1 := [wM cy b8 r2.2 []]) (As := [.int (xs (x3 + 1).toNatClampNeg)]) (rest := [.int r1.1]) ⟨hx, hb, hml, hown, hts⟩ (cwV 1 hts gT_X4_help rfl rfl rfl ⟨rfl, eX4_help⟩ ⟨Nat.le_of_ble_eq_true rfl, Nat.le_of_ble_eq_true rfl⟩) (c_X4_help b8 hr2) hK hP hD hS hA [8] [0, 1, 2, 3, 4, 5, 6, 7] (by decide) rfl rfl 4 rfl rfl rfl rfl [wX x0 (b1 0) (b2 0) (b3 0) (b4 0) (b5 0) (b6 0) q7 st.1 [], wV cy b1 st.2.1 [], wV cy b2 st.2.2.1 [], wV cy b3 st.2.2.2.1 [], wV cy b4 st.2.2.2.2.1 [], wD cy b5 st.2.2.2.2.2.1 [], wY cy b6 r1.2 [], wS cy q7 st.2.2.2.2.2.2.2.1 []] rfl rfl rfl ⟨rfl, rfl, rfl, rfl, rfl, rfl, rfl, rfl, ad_M, trivial⟩ rfl hl.1 rfl (Nat.le_of_ble_eq_true rfl) dL_law_532 ⟨Nat.le_of_ble_eq_true rfl, Nat.le_of_ble_eq_true rfl⟩ (fun H locs hP hD hS => ?_)
  refine lv_icmp_eq (tgt := 851) hx hb dL_law_535 (by decide) (fun c1 => ?_) (fun c1 => ?_)
  · replace h := it_p c1 h
    cases h
    exact kk H locs hP hD hS
  · replace h := it_n c1 h
    cases h
set_option maxHeartbeats 4000000 in
set_option maxRecDepth 100000 in
theorem wL_16 {p : Program} {l : Launch} {e : Env} {s : State} {m : MethodId} {below : List Frame} {meth : Method} {c : Code} {Q : State → Prop} {A : Nat → Prop} {D : va_G} {cy : Nat → ClassId} {b L : Nat} {xs : Nat → Int32} {x0 : Nat} {b1 b2 b3 b4 b5 b6 : Nat → Nat} {q7 : Nat} {b8 : Nat → Nat} {x3 : Int32} (hx : p.tables.exec = Jvm.exec) (hb : c.code = code) (hml : c.maxLocals = 4) (hown : s.vm.findClass RL = some m.cls) (hts : ∀ w ∈ lw_tbl, w.before #[Value.ref b] s = true) (hX : va_X b L xs s s.heap) (hbl : b < s.heap.size) (hbA : ¬ A b) (hA : ∀ q, s.heap.size ≤ q → A q) (hK : kK D cy s)  {st st' : LSt} (h : ls_16 st  = some st') {H : Heap} {locs : List Loc} {ls : Array Slot} (hP : ∀ w ∈ lB cy x0 b1 b2 b3 b4 b5 b6 q7 b8 st, va_P D vwCl w H) (hD : dB A (lB cy x0 b1 b2 b3 b4 b5 b6 q7 b8 st)) (hS : va_S A s.heap H locs) (hl : lv_has ls 4 [(0, .ref b), (1, .ref x0), (2, .ref (b8 0)), (3, .int x3)]) (kk : ∀ (H : Heap) (locs : List Loc), (∀ w ∈ lB cy x0 b1 b2 b3 b4 b5 b6 q7 b8 st', va_P D vwCl w H) → dB A (lB cy x0 b1 b2 b3 b4 b5 b6 q7 b8 st') → va_S A s.heap H locs → W p l e room_1 s m #[Value.ref b] below meth c H locs 65 48897 Q (F0 m 851 ls [])) : W p l e room_1 s m #[Value.ref b] below meth c H locs 65 48897 Q (F0 m 540 ls []) := by
  unfold ls_16 at h
  refine lv_aload_n hx hb dL_law_540 rfl (lv_at hl 1 rfl) ?_
  obtain ⟨r1, hr1, h⟩ := bn_s h
  refine kcBi (bs' := [wX x0 (b1 0) (b2 0) (b3 0) (b4 0) (b5 0) (b6 0) q7 st.1 [], wV cy b1 st.2.1 [], wV cy b2 st.2.2.1 [], wV cy b3 st.2.2.2.1 [], wV cy b4 st.2.2.2.2.1 [], wD cy b5 st.2.2.2.2.2.1 [], wY cy b6 r1.2 [], wS cy q7 st.2.2.2.2.2.2.2.1 [], wM cy b8 st.2.2.2.2.2.2.2.2 []]) (bc := [wX x0 (b1 0) (b2 0) (b3 0) (b4 0) (b5 0) (b6 0) q7 st.1 [], wV cy b1 st.2.1 [], wY cy b6 st.2.2.2.2.2.2.1 []]) (bc1 := [wX x0 (b1 0) (b2 0) (b3 0) (b4 0) (b5 0) (b6 0) q7 st.1 [], wV cy b1 st.2.1 [], wY cy b6 r1.2 []]) (As := []) (rest := []) ⟨hx, hb, hml, hown, hts⟩ (cwV 0 hts gT_X3_whom rfl rfl rfl ⟨rfl, eX3_whom⟩ ⟨Nat.le_of_ble_eq_true rfl, Nat.le_of_ble_eq_true rfl⟩) (c_X3_whom x0 ((b2 0)) ((b3 0)) ((b4 0)) ((b5 0)) q7 b1 b6 st.1 hr1) hK hP hD hS hA [0, 1, 6] [2, 3, 4, 5, 7, 8] (by decide) rfl rfl 3 rfl rfl rfl rfl [wV cy b2 st.2.2.1 [], wV cy b3 st.2.2.2.1 [], wV cy b4 st.2.2.2.2.1 [], wD cy b5 st.2.2.2.2.2.1 [], wS cy q7 st.2.2.2.2.2.2.2.1 [], wM cy b8 st.2.2.2.2.2.2.2.2 []] rfl rfl rfl ⟨rfl, rfl, rfl, rfl, rfl, rfl, ad_Y, rfl, rfl, trivial⟩ rfl hl.1 rfl (Nat.le_of_ble_eq_true rfl) dL_law_541 ⟨Nat.le_of_ble_eq_true rfl, Nat.le_of_ble_eq_true rfl⟩ (fun H locs hP hD hS => ?_)
  refine lv_aload_n hx hb dL_law_544 rfl (lv_at hl 2 rfl) ?_
  obtain ⟨r2, hr2, h⟩ := bn_s h
  refine kcBi (bs' := [wX x0 (b1 0) (b2 0) (b3 0) (b4 0) (b5 0) (b6 0) q7 st.1 [], wV cy b1 st.2.1 [], wV cy b2 st.2.2.1 [], wV cy b3 st.2.2.2.1 [], wV cy b4 st.2.2.2.2.1 [], wD cy b5 st.2.2.2.2.2.1 [], wY cy b6 r1.2 [], wS cy q7 st.2.2.2.2.2.2.2.1 [], wM cy b8 r2.2 []]) (bc := [wM cy b8 st.2.2.2.2.2.2.2.2 []]) (bc1 := [wM cy b8 r2.2 []]) (As := []) (rest := [.int r1.1]) ⟨hx, hb, hml, hown, hts⟩ (cwV 0 hts gT_X4_whom rfl rfl rfl ⟨rfl, eX4_whom⟩ ⟨Nat.le_of_ble_eq_true rfl, Nat.le_of_ble_eq_true rfl⟩) (c_X4_whom b8 hr2) hK hP hD hS hA [8] [0, 1, 2, 3, 4, 5, 6, 7] (by decide) rfl rfl 4 rfl rfl rfl rfl [wX x0 (b1 0) (b2 0) (b3 0) (b4 0) (b5 0) (b6 0) q7 st.1 [], wV cy b1 st.2.1 [], wV cy b2 st.2.2.1 [], wV cy b3 st.2.2.2.1 [], wV cy b4 st.2.2.2.2.1 [], wD cy b5 st.2.2.2.2.2.1 [], wY cy b6 r1.2 [], wS cy q7 st.2.2.2.2.2.2.2.1 []] rfl rfl rfl ⟨rfl, rfl, rfl, rfl, rfl, rfl, rfl, rfl, ad_M, trivial⟩ rfl hl.1 rfl (Nat.le_of_ble_eq_true rfl) dL_law_545 ⟨Nat.le_of_ble_eq_true rfl, Nat.le_of_ble_eq_true rfl⟩ (fun H locs hP hD hS => ?_)
  refine lv_icmp_eq (tgt := 851) hx hb dL_law_548 (by decide) (fun c1 => ?_) (fun c1 => ?_)
  · replace h := it_p c1 h
    cases h
    exact kk H locs hP hD hS
  · replace h := it_n c1 h
    cases h
set_option maxHeartbeats 4000000 in
set_option maxRecDepth 100000 in
theorem wL_17 {p : Program} {l : Launch} {e : Env} {s : State} {m : MethodId} {below : List Frame} {meth : Method} {c : Code} {Q : State → Prop} {A : Nat → Prop} {D : va_G} {cy : Nat → ClassId} {b L : Nat} {xs : Nat → Int32} {x0 : Nat} {b1 b2 b3 b4 b5 b6 : Nat → Nat} {q7 : Nat} {b8 : Nat → Nat} {x3 : Int32} (hx : p.tables.exec = Jvm.exec) (hb : c.code = code) (hml : c.maxLocals = 4) (hown : s.vm.findClass RL = some m.cls) (hts : ∀ w ∈ lw_tbl, w.before #[Value.ref b] s = true) (hX : va_X b L xs s s.heap) (hbl : b < s.heap.size) (hbA : ¬ A b) (hA : ∀ q, s.heap.size ≤ q → A q) (hK : kK D cy s) (hv1 : vp_in (x3 + 1) L) {st st' : LSt} (h : ls_17 st (xs (x3 + 1).toNatClampNeg) = some st') {H : Heap} {locs : List Loc} {ls : Array Slot} (hP : ∀ w ∈ lB cy x0 b1 b2 b3 b4 b5 b6 q7 b8 st, va_P D vwCl w H) (hD : dB A (lB cy x0 b1 b2 b3 b4 b5 b6 q7 b8 st)) (hS : va_S A s.heap H locs) (hl : lv_has ls 4 [(0, .ref b), (1, .ref x0), (2, .ref (b8 0)), (3, .int x3)]) (kk : ∀ (H : Heap) (locs : List Loc), (∀ w ∈ lB cy x0 b1 b2 b3 b4 b5 b6 q7 b8 st', va_P D vwCl w H) → dB A (lB cy x0 b1 b2 b3 b4 b5 b6 q7 b8 st') → va_S A s.heap H locs → W p l e room_1 s m #[Value.ref b] below meth c H locs 65 48897 Q (F0 m 851 ls [])) : W p l e room_1 s m #[Value.ref b] below meth c H locs 65 48897 Q (F0 m 553 ls []) := by
  unfold ls_17 at h
  refine lv_aload_n hx hb dL_law_553 rfl (lv_at hl 1 rfl) ?_
  refine lv_aload_n hx hb dL_law_554 rfl (lv_at hl 0 rfl) ?_
  refine lv_iload_n hx hb dL_law_555 rfl (lv_at hl 3 rfl) ?_
  refine lv_iconst (v := 1) hx hb dL_law_556 (by decide) ?_
  refine lv_iadd hx hb dL_law_557 ?_
  refine va_sld hx hb hX hbl hbA hS hv1 dL_law_558 ?_
  obtain ⟨r1, hr1, h⟩ := bn_s h
  refine kcBi (bs' := [wX x0 (b1 0) (b2 0) (b3 0) (b4 0) (b5 0) (b6 0) q7 st.1 [], wV cy b1 st.2.1 [], wV cy b2 st.2.2.1 [], wV cy b3 st.2.2.2.1 [], wV cy b4 st.2.2.2.2.1 [], wD cy b5 st.2.2.2.2.2.1 [], wY cy b6 st.2.2.2.2.2.2.1 [], wS cy q7 st.2.2.2.2.2.2.2.1 [], wM cy b8 st.2.2.2.2.2.2.2.2 []]) (bc := [wX x0 (b1 0) (b2 0) (b3 0) (b4 0) (b5 0) (b6 0) q7 st.1 [], wV cy b1 st.2.1 []]) (bc1 := [wX x0 (b1 0) (b2 0) (b3 0) (b4 0) (b5 0) (b6 0) q7 st.1 [], wV cy b1 st.2.1 []]) (As := [.int (xs (x3 + 1).toNatClampNeg)]) (rest := []) ⟨hx, hb, hml, hown, hts⟩ (cwV 1 hts gT_X3_ring rfl rfl rfl ⟨rfl, eX3_ring⟩ ⟨Nat.le_of_ble_eq_true rfl, Nat.le_of_ble_eq_true rfl⟩) (c_X3_ring x0 ((b2 0)) ((b3 0)) ((b4 0)) ((b5 0)) ((b6 0)) q7 b1 st.1 hr1) hK hP hD hS hA [0, 1] [2, 3, 4, 5, 6, 7, 8] (by decide) rfl rfl 3 rfl rfl rfl rfl [wV cy b2 st.2.2.1 [], wV cy b3 st.2.2.2.1 [], wV cy b4 st.2.2.2.2.1 [], wD cy b5 st.2.2.2.2.2.1 [], wY cy b6 st.2.2.2.2.2.2.1 [], wS cy q7 st.2.2.2.2.2.2.2.1 [], wM cy b8 st.2.2.2.2.2.2.2.2 []] rfl rfl rfl ⟨rfl, rfl, rfl, rfl, rfl, rfl, rfl, rfl, rfl, trivial⟩ rfl hl.1 rfl (Nat.le_of_ble_eq_true rfl) dL_law_559 ⟨Nat.le_of_ble_eq_true rfl, Nat.le_of_ble_eq_true rfl⟩ (fun H locs hP hD hS => ?_)
  refine lv_aload_n hx hb dL_law_562 rfl (lv_at hl 2 rfl) ?_
  refine lv_aload_n hx hb dL_law_563 rfl (lv_at hl 0 rfl) ?_
  refine lv_iload_n hx hb dL_law_564 rfl (lv_at hl 3 rfl) ?_
  refine lv_iconst (v := 1) hx hb dL_law_565 (by decide) ?_
  refine lv_iadd hx hb dL_law_566 ?_
  refine va_sld hx hb hX hbl hbA hS hv1 dL_law_567 ?_
  obtain ⟨r2, hr2, h⟩ := bn_s h
  refine kcBi (bs' := [wX x0 (b1 0) (b2 0) (b3 0) (b4 0) (b5 0) (b6 0) q7 st.1 [], wV cy b1 st.2.1 [], wV cy b2 st.2.2.1 [], wV cy b3 st.2.2.2.1 [], wV cy b4 st.2.2.2.2.1 [], wD cy b5 st.2.2.2.2.2.1 [], wY cy b6 st.2.2.2.2.2.2.1 [], wS cy q7 st.2.2.2.2.2.2.2.1 [], wM cy b8 r2.2 []]) (bc := [wM cy b8 st.2.2.2.2.2.2.2.2 []]) (bc1 := [wM cy b8 r2.2 []]) (As := [.int (xs (x3 + 1).toNatClampNeg)]) (rest := [.int r1]) ⟨hx, hb, hml, hown, hts⟩ (cwV 1 hts gT_X4_ring rfl rfl rfl ⟨rfl, eX4_ring⟩ ⟨Nat.le_of_ble_eq_true rfl, Nat.le_of_ble_eq_true rfl⟩) (c_X4_ring b8 hr2) hK hP hD hS hA [8] [0, 1, 2, 3, 4, 5, 6, 7] (by decide) rfl rfl 4 rfl rfl rfl rfl [wX x0 (b1 0) (b2 0) (b3 0) (b4 0) (b5 0) (b6 0) q7 st.1 [], wV cy b1 st.2.1 [], wV cy b2 st.2.2.1 [], wV cy b3 st.2.2.2.1 [], wV cy b4 st.2.2.2.2.1 [], wD cy b5 st.2.2.2.2.2.1 [], wY cy b6 st.2.2.2.2.2.2.1 [], wS cy q7 st.2.2.2.2.2.2.2.1 []] rfl rfl rfl ⟨rfl, rfl, rfl, rfl, rfl, rfl, rfl, rfl, ad_M, trivial⟩ rfl hl.1 rfl (Nat.le_of_ble_eq_true rfl) dL_law_568 ⟨Nat.le_of_ble_eq_true rfl, Nat.le_of_ble_eq_true rfl⟩ (fun H locs hP hD hS => ?_)
  refine lv_icmp_eq (tgt := 851) hx hb dL_law_571 (by decide) (fun c1 => ?_) (fun c1 => ?_)
  · replace h := it_p c1 h
    cases h
    exact kk H locs hP hD hS
  · replace h := it_n c1 h
    cases h
set_option maxHeartbeats 4000000 in
set_option maxRecDepth 100000 in
theorem wL_18 {p : Program} {l : Launch} {e : Env} {s : State} {m : MethodId} {below : List Frame} {meth : Method} {c : Code} {Q : State → Prop} {A : Nat → Prop} {D : va_G} {cy : Nat → ClassId} {b L : Nat} {xs : Nat → Int32} {x0 : Nat} {b1 b2 b3 b4 b5 b6 : Nat → Nat} {q7 : Nat} {b8 : Nat → Nat} {x3 : Int32} (hx : p.tables.exec = Jvm.exec) (hb : c.code = code) (hml : c.maxLocals = 4) (hown : s.vm.findClass RL = some m.cls) (hts : ∀ w ∈ lw_tbl, w.before #[Value.ref b] s = true) (hX : va_X b L xs s s.heap) (hbl : b < s.heap.size) (hbA : ¬ A b) (hA : ∀ q, s.heap.size ≤ q → A q) (hK : kK D cy s) (hv1 : vp_in (x3 + 1) L) {st st' : LSt} (h : ls_18 st (xs (x3 + 1).toNatClampNeg) = some st') {H : Heap} {locs : List Loc} {ls : Array Slot} (hP : ∀ w ∈ lB cy x0 b1 b2 b3 b4 b5 b6 q7 b8 st, va_P D vwCl w H) (hD : dB A (lB cy x0 b1 b2 b3 b4 b5 b6 q7 b8 st)) (hS : va_S A s.heap H locs) (hl : lv_has ls 4 [(0, .ref b), (1, .ref x0), (2, .ref (b8 0)), (3, .int x3)]) (kk : ∀ (H : Heap) (locs : List Loc), (∀ w ∈ lB cy x0 b1 b2 b3 b4 b5 b6 q7 b8 st', va_P D vwCl w H) → dB A (lB cy x0 b1 b2 b3 b4 b5 b6 q7 b8 st') → va_S A s.heap H locs → W p l e room_1 s m #[Value.ref b] below meth c H locs 65 48897 Q (F0 m 851 ls [])) : W p l e room_1 s m #[Value.ref b] below meth c H locs 65 48897 Q (F0 m 576 ls []) := by
  unfold ls_18 at h
  refine lv_aload_n hx hb dL_law_576 rfl (lv_at hl 1 rfl) ?_
  refine lv_aload_n hx hb dL_law_577 rfl (lv_at hl 0 rfl) ?_
  refine lv_iload_n hx hb dL_law_578 rfl (lv_at hl 3 rfl) ?_
  refine lv_iconst (v := 1) hx hb dL_law_579 (by decide) ?_
  refine lv_iadd hx hb dL_law_580 ?_
  refine va_sld hx hb hX hbl hbA hS hv1 dL_law_581 ?_
  obtain ⟨r1, hr1, h⟩ := bn_s h
  refine kcBi (bs' := [wX x0 (b1 0) (b2 0) (b3 0) (b4 0) (b5 0) (b6 0) q7 st.1 [], wV cy b1 r1.2 [], wV cy b2 st.2.2.1 [], wV cy b3 st.2.2.2.1 [], wV cy b4 st.2.2.2.2.1 [], wD cy b5 st.2.2.2.2.2.1 [], wY cy b6 st.2.2.2.2.2.2.1 [], wS cy q7 st.2.2.2.2.2.2.2.1 [], wM cy b8 st.2.2.2.2.2.2.2.2 []]) (bc := [wX x0 (b1 0) (b2 0) (b3 0) (b4 0) (b5 0) (b6 0) q7 st.1 [], wV cy b1 st.2.1 []]) (bc1 := [wX x0 (b1 0) (b2 0) (b3 0) (b4 0) (b5 0) (b6 0) q7 st.1 [], wV cy b1 r1.2 []]) (As := [.int (xs (x3 + 1).toNatClampNeg)]) (rest := []) ⟨hx, hb, hml, hown, hts⟩ (cwV 1 hts gT_X3_setOff rfl rfl rfl ⟨rfl, eX3_setOff⟩ ⟨Nat.le_of_ble_eq_true rfl, Nat.le_of_ble_eq_true rfl⟩) (c_X3_setOff x0 ((b2 0)) ((b3 0)) ((b4 0)) ((b5 0)) ((b6 0)) q7 b1 st.1 hr1) hK hP hD hS hA [0, 1] [2, 3, 4, 5, 6, 7, 8] (by decide) rfl rfl 3 rfl rfl rfl rfl [wV cy b2 st.2.2.1 [], wV cy b3 st.2.2.2.1 [], wV cy b4 st.2.2.2.2.1 [], wD cy b5 st.2.2.2.2.2.1 [], wY cy b6 st.2.2.2.2.2.2.1 [], wS cy q7 st.2.2.2.2.2.2.2.1 [], wM cy b8 st.2.2.2.2.2.2.2.2 []] rfl rfl rfl ⟨rfl, ad_V, rfl, rfl, rfl, rfl, rfl, rfl, rfl, trivial⟩ rfl hl.1 rfl (Nat.le_of_ble_eq_true rfl) dL_law_582 ⟨Nat.le_of_ble_eq_true rfl, Nat.le_of_ble_eq_true rfl⟩ (fun H locs hP hD hS => ?_)
  refine lv_aload_n hx hb dL_law_585 rfl (lv_at hl 2 rfl) ?_
  refine lv_aload_n hx hb dL_law_586 rfl (lv_at hl 0 rfl) ?_
  refine lv_iload_n hx hb dL_law_587 rfl (lv_at hl 3 rfl) ?_
  refine lv_iconst (v := 1) hx hb dL_law_588 (by decide) ?_
  refine lv_iadd hx hb dL_law_589 ?_
  refine va_sld hx hb hX hbl hbA hS hv1 dL_law_590 ?_
  obtain ⟨r2, hr2, h⟩ := bn_s h
  refine kcBi (bs' := [wX x0 (b1 0) (b2 0) (b3 0) (b4 0) (b5 0) (b6 0) q7 st.1 [], wV cy b1 r1.2 [], wV cy b2 st.2.2.1 [], wV cy b3 st.2.2.2.1 [], wV cy b4 st.2.2.2.2.1 [], wD cy b5 st.2.2.2.2.2.1 [], wY cy b6 st.2.2.2.2.2.2.1 [], wS cy q7 st.2.2.2.2.2.2.2.1 [], wM cy b8 r2.2 []]) (bc := [wM cy b8 st.2.2.2.2.2.2.2.2 []]) (bc1 := [wM cy b8 r2.2 []]) (As := [.int (xs (x3 + 1).toNatClampNeg)]) (rest := [.int r1.1]) ⟨hx, hb, hml, hown, hts⟩ (cwV 1 hts gT_X4_setOff rfl rfl rfl ⟨rfl, eX4_setOff⟩ ⟨Nat.le_of_ble_eq_true rfl, Nat.le_of_ble_eq_true rfl⟩) (c_X4_setOff b8 hr2) hK hP hD hS hA [8] [0, 1, 2, 3, 4, 5, 6, 7] (by decide) rfl rfl 4 rfl rfl rfl rfl [wX x0 (b1 0) (b2 0) (b3 0) (b4 0) (b5 0) (b6 0) q7 st.1 [], wV cy b1 r1.2 [], wV cy b2 st.2.2.1 [], wV cy b3 st.2.2.2.1 [], wV cy b4 st.2.2.2.2.1 [], wD cy b5 st.2.2.2.2.2.1 [], wY cy b6 st.2.2.2.2.2.2.1 [], wS cy q7 st.2.2.2.2.2.2.2.1 []] rfl rfl rfl ⟨rfl, rfl, rfl, rfl, rfl, rfl, rfl, rfl, ad_M, trivial⟩ rfl hl.1 rfl (Nat.le_of_ble_eq_true rfl) dL_law_591 ⟨Nat.le_of_ble_eq_true rfl, Nat.le_of_ble_eq_true rfl⟩ (fun H locs hP hD hS => ?_)
  refine lv_icmp_eq (tgt := 851) hx hb dL_law_594 (by decide) (fun c1 => ?_) (fun c1 => ?_)
  · replace h := it_p c1 h
    cases h
    exact kk H locs hP hD hS
  · replace h := it_n c1 h
    cases h
set_option maxHeartbeats 4000000 in
set_option maxRecDepth 100000 in
theorem wL_19 {p : Program} {l : Launch} {e : Env} {s : State} {m : MethodId} {below : List Frame} {meth : Method} {c : Code} {Q : State → Prop} {A : Nat → Prop} {D : va_G} {cy : Nat → ClassId} {b L : Nat} {xs : Nat → Int32} {x0 : Nat} {b1 b2 b3 b4 b5 b6 : Nat → Nat} {q7 : Nat} {b8 : Nat → Nat} {x3 : Int32} (hx : p.tables.exec = Jvm.exec) (hb : c.code = code) (hml : c.maxLocals = 4) (hown : s.vm.findClass RL = some m.cls) (hts : ∀ w ∈ lw_tbl, w.before #[Value.ref b] s = true) (hX : va_X b L xs s s.heap) (hbl : b < s.heap.size) (hbA : ¬ A b) (hA : ∀ q, s.heap.size ≤ q → A q) (hK : kK D cy s) (hv1 : vp_in (x3 + 1) L) (hv2 : vp_in (x3 + 2) L) (hv3 : vp_in (x3 + 3) L) {st st' : LSt} (h : ls_19 st (xs (x3 + 1).toNatClampNeg) (xs (x3 + 2).toNatClampNeg) (xs (x3 + 3).toNatClampNeg) = some st') {H : Heap} {locs : List Loc} {ls : Array Slot} (hP : ∀ w ∈ lB cy x0 b1 b2 b3 b4 b5 b6 q7 b8 st, va_P D vwCl w H) (hD : dB A (lB cy x0 b1 b2 b3 b4 b5 b6 q7 b8 st)) (hS : va_S A s.heap H locs) (hl : lv_has ls 4 [(0, .ref b), (1, .ref x0), (2, .ref (b8 0)), (3, .int x3)]) (kk : ∀ (H : Heap) (locs : List Loc), (∀ w ∈ lB cy x0 b1 b2 b3 b4 b5 b6 q7 b8 st', va_P D vwCl w H) → dB A (lB cy x0 b1 b2 b3 b4 b5 b6 q7 b8 st') → va_S A s.heap H locs → W p l e room_1 s m #[Value.ref b] below meth c H locs 65 48897 Q (F0 m 851 ls [])) : W p l e room_1 s m #[Value.ref b] below meth c H locs 65 48897 Q (F0 m 599 ls []) := by
  unfold ls_19 at h
  refine lv_aload_n hx hb dL_law_599 rfl (lv_at hl 1 rfl) ?_
  refine lv_aload_n hx hb dL_law_600 rfl (lv_at hl 0 rfl) ?_
  refine lv_iload_n hx hb dL_law_601 rfl (lv_at hl 3 rfl) ?_
  refine lv_iconst (v := 1) hx hb dL_law_602 (by decide) ?_
  refine lv_iadd hx hb dL_law_603 ?_
  refine va_sld hx hb hX hbl hbA hS hv1 dL_law_604 ?_
  refine lv_aload_n hx hb dL_law_605 rfl (lv_at hl 0 rfl) ?_
  refine lv_iload_n hx hb dL_law_606 rfl (lv_at hl 3 rfl) ?_
  refine lv_iconst (v := 2) hx hb dL_law_607 (by decide) ?_
  refine lv_iadd hx hb dL_law_608 ?_
  refine va_sld hx hb hX hbl hbA hS hv2 dL_law_609 ?_
  refine lv_aload_n hx hb dL_law_610 rfl (lv_at hl 0 rfl) ?_
  refine lv_iload_n hx hb dL_law_611 rfl (lv_at hl 3 rfl) ?_
  refine lv_iconst (v := 3) hx hb dL_law_612 (by decide) ?_
  refine lv_iadd hx hb dL_law_613 ?_
  refine va_sld hx hb hX hbl hbA hS hv3 dL_law_614 ?_
  obtain ⟨r1, hr1, h⟩ := bn_s h
  refine kcBi (bs' := [wX x0 (b1 0) (b2 0) (b3 0) (b4 0) (b5 0) (b6 0) q7 st.1 [], wV cy b1 r1.2 [], wV cy b2 st.2.2.1 [], wV cy b3 st.2.2.2.1 [], wV cy b4 st.2.2.2.2.1 [], wD cy b5 st.2.2.2.2.2.1 [], wY cy b6 st.2.2.2.2.2.2.1 [], wS cy q7 st.2.2.2.2.2.2.2.1 [], wM cy b8 st.2.2.2.2.2.2.2.2 []]) (bc := [wX x0 (b1 0) (b2 0) (b3 0) (b4 0) (b5 0) (b6 0) q7 st.1 [], wV cy b1 st.2.1 []]) (bc1 := [wX x0 (b1 0) (b2 0) (b3 0) (b4 0) (b5 0) (b6 0) q7 st.1 [], wV cy b1 r1.2 []]) (As := [.int (xs (x3 + 1).toNatClampNeg), .int (xs (x3 + 2).toNatClampNeg), .int (xs (x3 + 3).toNatClampNeg)]) (rest := []) ⟨hx, hb, hml, hown, hts⟩ (cwV 3 hts gT_X3_give rfl rfl rfl ⟨rfl, eX3_give⟩ ⟨Nat.le_of_ble_eq_true rfl, Nat.le_of_ble_eq_true rfl⟩) (c_X3_give x0 ((b2 0)) ((b3 0)) ((b4 0)) ((b5 0)) ((b6 0)) q7 b1 st.1 hr1) hK hP hD hS hA [0, 1] [2, 3, 4, 5, 6, 7, 8] (by decide) rfl rfl 3 rfl rfl rfl rfl [wV cy b2 st.2.2.1 [], wV cy b3 st.2.2.2.1 [], wV cy b4 st.2.2.2.2.1 [], wD cy b5 st.2.2.2.2.2.1 [], wY cy b6 st.2.2.2.2.2.2.1 [], wS cy q7 st.2.2.2.2.2.2.2.1 [], wM cy b8 st.2.2.2.2.2.2.2.2 []] rfl rfl rfl ⟨rfl, ad_V, rfl, rfl, rfl, rfl, rfl, rfl, rfl, trivial⟩ rfl hl.1 rfl (Nat.le_of_ble_eq_true rfl) dL_law_615 ⟨Nat.le_of_ble_eq_true rfl, Nat.le_of_ble_eq_true rfl⟩ (fun H locs hP hD hS => ?_)
  refine lv_aload_n hx hb dL_law_618 rfl (lv_at hl 2 rfl) ?_
  refine lv_aload_n hx hb dL_law_619 rfl (lv_at hl 0 rfl) ?_
  refine lv_iload_n hx hb dL_law_620 rfl (lv_at hl 3 rfl) ?_
  refine lv_iconst (v := 1) hx hb dL_law_621 (by decide) ?_
  refine lv_iadd hx hb dL_law_622 ?_
  refine va_sld hx hb hX hbl hbA hS hv1 dL_law_623 ?_
  refine lv_aload_n hx hb dL_law_624 rfl (lv_at hl 0 rfl) ?_
  refine lv_iload_n hx hb dL_law_625 rfl (lv_at hl 3 rfl) ?_
  refine lv_iconst (v := 2) hx hb dL_law_626 (by decide) ?_
  refine lv_iadd hx hb dL_law_627 ?_
  refine va_sld hx hb hX hbl hbA hS hv2 dL_law_628 ?_
  refine lv_aload_n hx hb dL_law_629 rfl (lv_at hl 0 rfl) ?_
  refine lv_iload_n hx hb dL_law_630 rfl (lv_at hl 3 rfl) ?_
  refine lv_iconst (v := 3) hx hb dL_law_631 (by decide) ?_
  refine lv_iadd hx hb dL_law_632 ?_
  refine va_sld hx hb hX hbl hbA hS hv3 dL_law_633 ?_
  obtain ⟨r2, hr2, h⟩ := bn_s h
  refine kcBi (bs' := [wX x0 (b1 0) (b2 0) (b3 0) (b4 0) (b5 0) (b6 0) q7 st.1 [], wV cy b1 r1.2 [], wV cy b2 st.2.2.1 [], wV cy b3 st.2.2.2.1 [], wV cy b4 st.2.2.2.2.1 [], wD cy b5 st.2.2.2.2.2.1 [], wY cy b6 st.2.2.2.2.2.2.1 [], wS cy q7 st.2.2.2.2.2.2.2.1 [], wM cy b8 r2.2 []]) (bc := [wM cy b8 st.2.2.2.2.2.2.2.2 []]) (bc1 := [wM cy b8 r2.2 []]) (As := [.int (xs (x3 + 1).toNatClampNeg), .int (xs (x3 + 2).toNatClampNeg), .int (xs (x3 + 3).toNatClampNeg)]) (rest := [.int r1.1]) ⟨hx, hb, hml, hown, hts⟩ (cwV 3 hts gT_X4_give rfl rfl rfl ⟨rfl, eX4_give⟩ ⟨Nat.le_of_ble_eq_true rfl, Nat.le_of_ble_eq_true rfl⟩) (c_X4_give b8 hr2) hK hP hD hS hA [8] [0, 1, 2, 3, 4, 5, 6, 7] (by decide) rfl rfl 4 rfl rfl rfl rfl [wX x0 (b1 0) (b2 0) (b3 0) (b4 0) (b5 0) (b6 0) q7 st.1 [], wV cy b1 r1.2 [], wV cy b2 st.2.2.1 [], wV cy b3 st.2.2.2.1 [], wV cy b4 st.2.2.2.2.1 [], wD cy b5 st.2.2.2.2.2.1 [], wY cy b6 st.2.2.2.2.2.2.1 [], wS cy q7 st.2.2.2.2.2.2.2.1 []] rfl rfl rfl ⟨rfl, rfl, rfl, rfl, rfl, rfl, rfl, rfl, ad_M, trivial⟩ rfl hl.1 rfl (Nat.le_of_ble_eq_true rfl) dL_law_634 ⟨Nat.le_of_ble_eq_true rfl, Nat.le_of_ble_eq_true rfl⟩ (fun H locs hP hD hS => ?_)
  refine lv_icmp_eq (tgt := 851) hx hb dL_law_637 (by decide) (fun c1 => ?_) (fun c1 => ?_)
  · replace h := it_p c1 h
    cases h
    exact kk H locs hP hD hS
  · replace h := it_n c1 h
    cases h
set_option maxHeartbeats 4000000 in
set_option maxRecDepth 100000 in
theorem wL_20 {p : Program} {l : Launch} {e : Env} {s : State} {m : MethodId} {below : List Frame} {meth : Method} {c : Code} {Q : State → Prop} {A : Nat → Prop} {D : va_G} {cy : Nat → ClassId} {b L : Nat} {xs : Nat → Int32} {x0 : Nat} {b1 b2 b3 b4 b5 b6 : Nat → Nat} {q7 : Nat} {b8 : Nat → Nat} {x3 : Int32} (hx : p.tables.exec = Jvm.exec) (hb : c.code = code) (hml : c.maxLocals = 4) (hown : s.vm.findClass RL = some m.cls) (hts : ∀ w ∈ lw_tbl, w.before #[Value.ref b] s = true) (hX : va_X b L xs s s.heap) (hbl : b < s.heap.size) (hbA : ¬ A b) (hA : ∀ q, s.heap.size ≤ q → A q) (hK : kK D cy s) (hv1 : vp_in (x3 + 1) L) (hv2 : vp_in (x3 + 2) L) {st st' : LSt} (h : ls_20 st (xs (x3 + 1).toNatClampNeg) (xs (x3 + 2).toNatClampNeg) = some st') {H : Heap} {locs : List Loc} {ls : Array Slot} (hP : ∀ w ∈ lB cy x0 b1 b2 b3 b4 b5 b6 q7 b8 st, va_P D vwCl w H) (hD : dB A (lB cy x0 b1 b2 b3 b4 b5 b6 q7 b8 st)) (hS : va_S A s.heap H locs) (hl : lv_has ls 4 [(0, .ref b), (1, .ref x0), (2, .ref (b8 0)), (3, .int x3)]) (kk : ∀ (H : Heap) (locs : List Loc), (∀ w ∈ lB cy x0 b1 b2 b3 b4 b5 b6 q7 b8 st', va_P D vwCl w H) → dB A (lB cy x0 b1 b2 b3 b4 b5 b6 q7 b8 st') → va_S A s.heap H locs → W p l e room_1 s m #[Value.ref b] below meth c H locs 65 48897 Q (F0 m 851 ls [])) : W p l e room_1 s m #[Value.ref b] below meth c H locs 65 48897 Q (F0 m 642 ls []) := by
  unfold ls_20 at h
  refine lv_aload_n hx hb dL_law_642 rfl (lv_at hl 1 rfl) ?_
  refine lv_aload_n hx hb dL_law_643 rfl (lv_at hl 0 rfl) ?_
  refine lv_iload_n hx hb dL_law_644 rfl (lv_at hl 3 rfl) ?_
  refine lv_iconst (v := 1) hx hb dL_law_645 (by decide) ?_
  refine lv_iadd hx hb dL_law_646 ?_
  refine va_sld hx hb hX hbl hbA hS hv1 dL_law_647 ?_
  refine lv_aload_n hx hb dL_law_648 rfl (lv_at hl 0 rfl) ?_
  refine lv_iload_n hx hb dL_law_649 rfl (lv_at hl 3 rfl) ?_
  refine lv_iconst (v := 2) hx hb dL_law_650 (by decide) ?_
  refine lv_iadd hx hb dL_law_651 ?_
  refine va_sld hx hb hX hbl hbA hS hv2 dL_law_652 ?_
  obtain ⟨r1, hr1, h⟩ := bn_s h
  refine kcBi (bs' := [wX x0 (b1 0) (b2 0) (b3 0) (b4 0) (b5 0) (b6 0) q7 st.1 [], wV cy b1 st.2.1 [], wV cy b2 st.2.2.1 [], wV cy b3 st.2.2.2.1 [], wV cy b4 st.2.2.2.2.1 [], wD cy b5 st.2.2.2.2.2.1 [], wY cy b6 st.2.2.2.2.2.2.1 [], wS cy q7 st.2.2.2.2.2.2.2.1 [], wM cy b8 st.2.2.2.2.2.2.2.2 []]) (bc := [wX x0 (b1 0) (b2 0) (b3 0) (b4 0) (b5 0) (b6 0) q7 st.1 [], wV cy b1 st.2.1 []]) (bc1 := [wX x0 (b1 0) (b2 0) (b3 0) (b4 0) (b5 0) (b6 0) q7 st.1 [], wV cy b1 st.2.1 []]) (As := [.int (xs (x3 + 1).toNatClampNeg), .int (xs (x3 + 2).toNatClampNeg)]) (rest := []) ⟨hx, hb, hml, hown, hts⟩ (cwV 2 hts gT_X3_pawn rfl rfl rfl ⟨rfl, eX3_pawn⟩ ⟨Nat.le_of_ble_eq_true rfl, Nat.le_of_ble_eq_true rfl⟩) (c_X3_pawn x0 ((b2 0)) ((b3 0)) ((b4 0)) ((b5 0)) ((b6 0)) q7 b1 st.1 hr1) hK hP hD hS hA [0, 1] [2, 3, 4, 5, 6, 7, 8] (by decide) rfl rfl 3 rfl rfl rfl rfl [wV cy b2 st.2.2.1 [], wV cy b3 st.2.2.2.1 [], wV cy b4 st.2.2.2.2.1 [], wD cy b5 st.2.2.2.2.2.1 [], wY cy b6 st.2.2.2.2.2.2.1 [], wS cy q7 st.2.2.2.2.2.2.2.1 [], wM cy b8 st.2.2.2.2.2.2.2.2 []] rfl rfl rfl ⟨rfl, rfl, rfl, rfl, rfl, rfl, rfl, rfl, rfl, trivial⟩ rfl hl.1 rfl (Nat.le_of_ble_eq_true rfl) dL_law_653 ⟨Nat.le_of_ble_eq_true rfl, Nat.le_of_ble_eq_true rfl⟩ (fun H locs hP hD hS => ?_)
  refine lv_aload_n hx hb dL_law_656 rfl (lv_at hl 2 rfl) ?_
  refine lv_aload_n hx hb dL_law_657 rfl (lv_at hl 0 rfl) ?_
  refine lv_iload_n hx hb dL_law_658 rfl (lv_at hl 3 rfl) ?_
  refine lv_iconst (v := 1) hx hb dL_law_659 (by decide) ?_
  refine lv_iadd hx hb dL_law_660 ?_
  refine va_sld hx hb hX hbl hbA hS hv1 dL_law_661 ?_
  refine lv_aload_n hx hb dL_law_662 rfl (lv_at hl 0 rfl) ?_
  refine lv_iload_n hx hb dL_law_663 rfl (lv_at hl 3 rfl) ?_
  refine lv_iconst (v := 2) hx hb dL_law_664 (by decide) ?_
  refine lv_iadd hx hb dL_law_665 ?_
  refine va_sld hx hb hX hbl hbA hS hv2 dL_law_666 ?_
  obtain ⟨r2, hr2, h⟩ := bn_s h
  refine kcBi (bs' := [wX x0 (b1 0) (b2 0) (b3 0) (b4 0) (b5 0) (b6 0) q7 st.1 [], wV cy b1 st.2.1 [], wV cy b2 st.2.2.1 [], wV cy b3 st.2.2.2.1 [], wV cy b4 st.2.2.2.2.1 [], wD cy b5 st.2.2.2.2.2.1 [], wY cy b6 st.2.2.2.2.2.2.1 [], wS cy q7 st.2.2.2.2.2.2.2.1 [], wM cy b8 r2.2 []]) (bc := [wM cy b8 st.2.2.2.2.2.2.2.2 []]) (bc1 := [wM cy b8 r2.2 []]) (As := [.int (xs (x3 + 1).toNatClampNeg), .int (xs (x3 + 2).toNatClampNeg)]) (rest := [.int r1]) ⟨hx, hb, hml, hown, hts⟩ (cwV 2 hts gT_X4_pawn rfl rfl rfl ⟨rfl, eX4_pawn⟩ ⟨Nat.le_of_ble_eq_true rfl, Nat.le_of_ble_eq_true rfl⟩) (c_X4_pawn b8 hr2) hK hP hD hS hA [8] [0, 1, 2, 3, 4, 5, 6, 7] (by decide) rfl rfl 4 rfl rfl rfl rfl [wX x0 (b1 0) (b2 0) (b3 0) (b4 0) (b5 0) (b6 0) q7 st.1 [], wV cy b1 st.2.1 [], wV cy b2 st.2.2.1 [], wV cy b3 st.2.2.2.1 [], wV cy b4 st.2.2.2.2.1 [], wD cy b5 st.2.2.2.2.2.1 [], wY cy b6 st.2.2.2.2.2.2.1 [], wS cy q7 st.2.2.2.2.2.2.2.1 []] rfl rfl rfl ⟨rfl, rfl, rfl, rfl, rfl, rfl, rfl, rfl, ad_M, trivial⟩ rfl hl.1 rfl (Nat.le_of_ble_eq_true rfl) dL_law_667 ⟨Nat.le_of_ble_eq_true rfl, Nat.le_of_ble_eq_true rfl⟩ (fun H locs hP hD hS => ?_)
  refine lv_icmp_eq (tgt := 851) hx hb dL_law_670 (by decide) (fun c1 => ?_) (fun c1 => ?_)
  · replace h := it_p c1 h
    cases h
    exact kk H locs hP hD hS
  · replace h := it_n c1 h
    cases h
set_option maxHeartbeats 4000000 in
set_option maxRecDepth 100000 in
theorem wL_21 {p : Program} {l : Launch} {e : Env} {s : State} {m : MethodId} {below : List Frame} {meth : Method} {c : Code} {Q : State → Prop} {A : Nat → Prop} {D : va_G} {cy : Nat → ClassId} {b L : Nat} {xs : Nat → Int32} {x0 : Nat} {b1 b2 b3 b4 b5 b6 : Nat → Nat} {q7 : Nat} {b8 : Nat → Nat} {x3 : Int32} (hx : p.tables.exec = Jvm.exec) (hb : c.code = code) (hml : c.maxLocals = 4) (hown : s.vm.findClass RL = some m.cls) (hts : ∀ w ∈ lw_tbl, w.before #[Value.ref b] s = true) (hX : va_X b L xs s s.heap) (hbl : b < s.heap.size) (hbA : ¬ A b) (hA : ∀ q, s.heap.size ≤ q → A q) (hK : kK D cy s) (hv1 : vp_in (x3 + 1) L) (hv2 : vp_in (x3 + 2) L) (hv3 : vp_in (x3 + 3) L) (hv4 : vp_in (x3 + 4) L) (hv5 : vp_in (x3 + 5) L) {st st' : LSt} (h : ls_21 st (xs (x3 + 1).toNatClampNeg) (xs (x3 + 2).toNatClampNeg) (xs (x3 + 3).toNatClampNeg) (xs (x3 + 4).toNatClampNeg) (xs (x3 + 5).toNatClampNeg) = some st') {H : Heap} {locs : List Loc} {ls : Array Slot} (hP : ∀ w ∈ lB cy x0 b1 b2 b3 b4 b5 b6 q7 b8 st, va_P D vwCl w H) (hD : dB A (lB cy x0 b1 b2 b3 b4 b5 b6 q7 b8 st)) (hS : va_S A s.heap H locs) (hl : lv_has ls 4 [(0, .ref b), (1, .ref x0), (2, .ref (b8 0)), (3, .int x3)]) (kk : ∀ (H : Heap) (locs : List Loc), (∀ w ∈ lB cy x0 b1 b2 b3 b4 b5 b6 q7 b8 st', va_P D vwCl w H) → dB A (lB cy x0 b1 b2 b3 b4 b5 b6 q7 b8 st') → va_S A s.heap H locs → W p l e room_1 s m #[Value.ref b] below meth c H locs 65 48897 Q (F0 m 851 ls [])) : W p l e room_1 s m #[Value.ref b] below meth c H locs 65 48897 Q (F0 m 675 ls []) := by
  unfold ls_21 at h
  refine lv_aload_n hx hb dL_law_675 rfl (lv_at hl 1 rfl) ?_
  refine lv_aload_n hx hb dL_law_676 rfl (lv_at hl 0 rfl) ?_
  refine lv_iload_n hx hb dL_law_677 rfl (lv_at hl 3 rfl) ?_
  refine lv_iconst (v := 1) hx hb dL_law_678 (by decide) ?_
  refine lv_iadd hx hb dL_law_679 ?_
  refine va_sld hx hb hX hbl hbA hS hv1 dL_law_680 ?_
  refine lv_aload_n hx hb dL_law_681 rfl (lv_at hl 0 rfl) ?_
  refine lv_iload_n hx hb dL_law_682 rfl (lv_at hl 3 rfl) ?_
  refine lv_iconst (v := 2) hx hb dL_law_683 (by decide) ?_
  refine lv_iadd hx hb dL_law_684 ?_
  refine va_sld hx hb hX hbl hbA hS hv2 dL_law_685 ?_
  refine lv_aload_n hx hb dL_law_686 rfl (lv_at hl 0 rfl) ?_
  refine lv_iload_n hx hb dL_law_687 rfl (lv_at hl 3 rfl) ?_
  refine lv_iconst (v := 3) hx hb dL_law_688 (by decide) ?_
  refine lv_iadd hx hb dL_law_689 ?_
  refine va_sld hx hb hX hbl hbA hS hv3 dL_law_690 ?_
  refine lv_aload_n hx hb dL_law_691 rfl (lv_at hl 0 rfl) ?_
  refine lv_iload_n hx hb dL_law_692 rfl (lv_at hl 3 rfl) ?_
  refine lv_iconst (v := 4) hx hb dL_law_693 (by decide) ?_
  refine lv_iadd hx hb dL_law_694 ?_
  refine va_sld hx hb hX hbl hbA hS hv4 dL_law_695 ?_
  refine lv_aload_n hx hb dL_law_696 rfl (lv_at hl 0 rfl) ?_
  refine lv_iload_n hx hb dL_law_697 rfl (lv_at hl 3 rfl) ?_
  refine lv_iconst (v := 5) hx hb dL_law_698 (by decide) ?_
  refine lv_iadd hx hb dL_law_699 ?_
  refine va_sld hx hb hX hbl hbA hS hv5 dL_law_700 ?_
  obtain ⟨r1, hr1, h⟩ := bn_s h
  refine kcBl (bs' := [wX x0 (b1 0) (b2 0) (b3 0) (b4 0) (b5 0) (b6 0) q7 st.1 [], wV cy b1 st.2.1 [], wV cy b2 st.2.2.1 [], wV cy b3 st.2.2.2.1 [], wV cy b4 st.2.2.2.2.1 [], wD cy b5 st.2.2.2.2.2.1 [], wY cy b6 st.2.2.2.2.2.2.1 [], wS cy q7 r1.2 [], wM cy b8 st.2.2.2.2.2.2.2.2 []]) (bc := [wX x0 (b1 0) (b2 0) (b3 0) (b4 0) (b5 0) (b6 0) q7 st.1 [], wV cy b1 st.2.1 [], wS cy q7 st.2.2.2.2.2.2.2.1 []]) (bc1 := [wX x0 (b1 0) (b2 0) (b3 0) (b4 0) (b5 0) (b6 0) q7 st.1 [], wV cy b1 st.2.1 [], wS cy q7 r1.2 []]) (As := [.int (xs (x3 + 1).toNatClampNeg), .int (xs (x3 + 2).toNatClampNeg), .int (xs (x3 + 3).toNatClampNeg), .int (xs (x3 + 4).toNatClampNeg), .int (xs (x3 + 5).toNatClampNeg)]) (rest := []) ⟨hx, hb, hml, hown, hts⟩ (cwV 5 hts gT_X3_odds rfl rfl rfl ⟨rfl, eX3_odds⟩ ⟨Nat.le_of_ble_eq_true rfl, Nat.le_of_ble_eq_true rfl⟩) (c_X3_odds x0 ((b2 0)) ((b3 0)) ((b4 0)) ((b5 0)) ((b6 0)) b1 q7 st.1 hr1) hK hP hD hS hA [0, 1, 7] [2, 3, 4, 5, 6, 8] (by decide) rfl rfl 3 rfl rfl rfl rfl [wV cy b2 st.2.2.1 [], wV cy b3 st.2.2.2.1 [], wV cy b4 st.2.2.2.2.1 [], wD cy b5 st.2.2.2.2.2.1 [], wY cy b6 st.2.2.2.2.2.2.1 [], wM cy b8 st.2.2.2.2.2.2.2.2 []] rfl rfl rfl ⟨rfl, rfl, rfl, rfl, rfl, rfl, rfl, ad_S, rfl, trivial⟩ rfl hl.1 rfl (Nat.le_of_ble_eq_true rfl) dL_law_701 ⟨Nat.le_of_ble_eq_true rfl, Nat.le_of_ble_eq_true rfl⟩ (fun H locs hP hD hS => ?_)
  refine lv_aload_n hx hb dL_law_704 rfl (lv_at hl 2 rfl) ?_
  refine lv_aload_n hx hb dL_law_705 rfl (lv_at hl 0 rfl) ?_
  refine lv_iload_n hx hb dL_law_706 rfl (lv_at hl 3 rfl) ?_
  refine lv_iconst (v := 1) hx hb dL_law_707 (by decide) ?_
  refine lv_iadd hx hb dL_law_708 ?_
  refine va_sld hx hb hX hbl hbA hS hv1 dL_law_709 ?_
  refine lv_aload_n hx hb dL_law_710 rfl (lv_at hl 0 rfl) ?_
  refine lv_iload_n hx hb dL_law_711 rfl (lv_at hl 3 rfl) ?_
  refine lv_iconst (v := 2) hx hb dL_law_712 (by decide) ?_
  refine lv_iadd hx hb dL_law_713 ?_
  refine va_sld hx hb hX hbl hbA hS hv2 dL_law_714 ?_
  refine lv_aload_n hx hb dL_law_715 rfl (lv_at hl 0 rfl) ?_
  refine lv_iload_n hx hb dL_law_716 rfl (lv_at hl 3 rfl) ?_
  refine lv_iconst (v := 3) hx hb dL_law_717 (by decide) ?_
  refine lv_iadd hx hb dL_law_718 ?_
  refine va_sld hx hb hX hbl hbA hS hv3 dL_law_719 ?_
  refine lv_aload_n hx hb dL_law_720 rfl (lv_at hl 0 rfl) ?_
  refine lv_iload_n hx hb dL_law_721 rfl (lv_at hl 3 rfl) ?_
  refine lv_iconst (v := 4) hx hb dL_law_722 (by decide) ?_
  refine lv_iadd hx hb dL_law_723 ?_
  refine va_sld hx hb hX hbl hbA hS hv4 dL_law_724 ?_
  refine lv_aload_n hx hb dL_law_725 rfl (lv_at hl 0 rfl) ?_
  refine lv_iload_n hx hb dL_law_726 rfl (lv_at hl 3 rfl) ?_
  refine lv_iconst (v := 5) hx hb dL_law_727 (by decide) ?_
  refine lv_iadd hx hb dL_law_728 ?_
  refine va_sld hx hb hX hbl hbA hS hv5 dL_law_729 ?_
  obtain ⟨r2, hr2, h⟩ := bn_s h
  refine kcBl (bs' := [wX x0 (b1 0) (b2 0) (b3 0) (b4 0) (b5 0) (b6 0) q7 st.1 [], wV cy b1 st.2.1 [], wV cy b2 st.2.2.1 [], wV cy b3 st.2.2.2.1 [], wV cy b4 st.2.2.2.2.1 [], wD cy b5 st.2.2.2.2.2.1 [], wY cy b6 st.2.2.2.2.2.2.1 [], wS cy q7 r1.2 [], wM cy b8 r2.2 []]) (bc := [wM cy b8 st.2.2.2.2.2.2.2.2 []]) (bc1 := [wM cy b8 r2.2 []]) (As := [.int (xs (x3 + 1).toNatClampNeg), .int (xs (x3 + 2).toNatClampNeg), .int (xs (x3 + 3).toNatClampNeg), .int (xs (x3 + 4).toNatClampNeg), .int (xs (x3 + 5).toNatClampNeg)]) (rest := [.long r1.1]) ⟨hx, hb, hml, hown, hts⟩ (cwV 5 hts gT_X4_odds rfl rfl rfl ⟨rfl, eX4_odds⟩ ⟨Nat.le_of_ble_eq_true rfl, Nat.le_of_ble_eq_true rfl⟩) (c_X4_odds b8 hr2) hK hP hD hS hA [8] [0, 1, 2, 3, 4, 5, 6, 7] (by decide) rfl rfl 4 rfl rfl rfl rfl [wX x0 (b1 0) (b2 0) (b3 0) (b4 0) (b5 0) (b6 0) q7 st.1 [], wV cy b1 st.2.1 [], wV cy b2 st.2.2.1 [], wV cy b3 st.2.2.2.1 [], wV cy b4 st.2.2.2.2.1 [], wD cy b5 st.2.2.2.2.2.1 [], wY cy b6 st.2.2.2.2.2.2.1 [], wS cy q7 r1.2 []] rfl rfl rfl ⟨rfl, rfl, rfl, rfl, rfl, rfl, rfl, rfl, ad_M, trivial⟩ rfl hl.1 rfl (Nat.le_of_ble_eq_true rfl) dL_law_730 ⟨Nat.le_of_ble_eq_true rfl, Nat.le_of_ble_eq_true rfl⟩ (fun H locs hP hD hS => ?_)
  refine W.lcmp hx hb dL_law_733 ?_
  refine lv_if_eq (tgt := 851) hx hb dL_law_734 (by decide) (fun c1 => ?_) (fun c1 => ?_)
  · replace h := it_p c1 h
    cases h
    exact kk H locs hP hD hS
  · replace h := it_n c1 h
    cases h
set_option maxHeartbeats 4000000 in
set_option maxRecDepth 100000 in
theorem wL_22 {p : Program} {l : Launch} {e : Env} {s : State} {m : MethodId} {below : List Frame} {meth : Method} {c : Code} {Q : State → Prop} {A : Nat → Prop} {D : va_G} {cy : Nat → ClassId} {b L : Nat} {xs : Nat → Int32} {x0 : Nat} {b1 b2 b3 b4 b5 b6 : Nat → Nat} {q7 : Nat} {b8 : Nat → Nat} {x3 : Int32} (hx : p.tables.exec = Jvm.exec) (hb : c.code = code) (hml : c.maxLocals = 4) (hown : s.vm.findClass RL = some m.cls) (hts : ∀ w ∈ lw_tbl, w.before #[Value.ref b] s = true) (hX : va_X b L xs s s.heap) (hbl : b < s.heap.size) (hbA : ¬ A b) (hA : ∀ q, s.heap.size ≤ q → A q) (hK : kK D cy s) (hv1 : vp_in (x3 + 1) L) (hv2 : vp_in (x3 + 2) L) (hv3 : vp_in (x3 + 3) L) {st st' : LSt} (h : ls_22 st (xs (x3 + 1).toNatClampNeg) (xs (x3 + 2).toNatClampNeg) (xs (x3 + 3).toNatClampNeg) = some st') {H : Heap} {locs : List Loc} {ls : Array Slot} (hP : ∀ w ∈ lB cy x0 b1 b2 b3 b4 b5 b6 q7 b8 st, va_P D vwCl w H) (hD : dB A (lB cy x0 b1 b2 b3 b4 b5 b6 q7 b8 st)) (hS : va_S A s.heap H locs) (hl : lv_has ls 4 [(0, .ref b), (1, .ref x0), (2, .ref (b8 0)), (3, .int x3)]) (kk : ∀ (H : Heap) (locs : List Loc), (∀ w ∈ lB cy x0 b1 b2 b3 b4 b5 b6 q7 b8 st', va_P D vwCl w H) → dB A (lB cy x0 b1 b2 b3 b4 b5 b6 q7 b8 st') → va_S A s.heap H locs → W p l e room_1 s m #[Value.ref b] below meth c H locs 65 48897 Q (F0 m 851 ls [])) : W p l e room_1 s m #[Value.ref b] below meth c H locs 65 48897 Q (F0 m 739 ls []) := by
  unfold ls_22 at h
  refine lv_aload_n hx hb dL_law_739 rfl (lv_at hl 1 rfl) ?_
  refine lv_aload_n hx hb dL_law_740 rfl (lv_at hl 0 rfl) ?_
  refine lv_iload_n hx hb dL_law_741 rfl (lv_at hl 3 rfl) ?_
  refine lv_iconst (v := 1) hx hb dL_law_742 (by decide) ?_
  refine lv_iadd hx hb dL_law_743 ?_
  refine va_sld hx hb hX hbl hbA hS hv1 dL_law_744 ?_
  refine lv_aload_n hx hb dL_law_745 rfl (lv_at hl 0 rfl) ?_
  refine lv_iload_n hx hb dL_law_746 rfl (lv_at hl 3 rfl) ?_
  refine lv_iconst (v := 2) hx hb dL_law_747 (by decide) ?_
  refine lv_iadd hx hb dL_law_748 ?_
  refine va_sld hx hb hX hbl hbA hS hv2 dL_law_749 ?_
  refine lv_aload_n hx hb dL_law_750 rfl (lv_at hl 0 rfl) ?_
  refine lv_iload_n hx hb dL_law_751 rfl (lv_at hl 3 rfl) ?_
  refine lv_iconst (v := 3) hx hb dL_law_752 (by decide) ?_
  refine lv_iadd hx hb dL_law_753 ?_
  refine va_sld hx hb hX hbl hbA hS hv3 dL_law_754 ?_
  obtain ⟨r1, hr1, h⟩ := bn_s h
  refine kcBi (bs' := [wX x0 (b1 0) (b2 0) (b3 0) (b4 0) (b5 0) (b6 0) q7 st.1 [], wV cy b1 st.2.1 [], wV cy b2 r1.2 [], wV cy b3 st.2.2.2.1 [], wV cy b4 st.2.2.2.2.1 [], wD cy b5 st.2.2.2.2.2.1 [], wY cy b6 st.2.2.2.2.2.2.1 [], wS cy q7 st.2.2.2.2.2.2.2.1 [], wM cy b8 st.2.2.2.2.2.2.2.2 []]) (bc := [wX x0 (b1 0) (b2 0) (b3 0) (b4 0) (b5 0) (b6 0) q7 st.1 [], wV cy b1 st.2.1 [], wV cy b2 st.2.2.1 []]) (bc1 := [wX x0 (b1 0) (b2 0) (b3 0) (b4 0) (b5 0) (b6 0) q7 st.1 [], wV cy b1 st.2.1 [], wV cy b2 r1.2 []]) (As := [.int (xs (x3 + 1).toNatClampNeg), .int (xs (x3 + 2).toNatClampNeg), .int (xs (x3 + 3).toNatClampNeg)]) (rest := []) ⟨hx, hb, hml, hown, hts⟩ (cwV 3 hts gT_X3_year rfl rfl rfl ⟨rfl, eX3_year⟩ ⟨Nat.le_of_ble_eq_true rfl, Nat.le_of_ble_eq_true rfl⟩) (c_X3_year x0 ((b3 0)) ((b4 0)) ((b5 0)) ((b6 0)) q7 b1 b2 st.1 hr1) hK hP hD hS hA [0, 1, 2] [3, 4, 5, 6, 7, 8] (by decide) rfl rfl 3 rfl rfl rfl rfl [wV cy b3 st.2.2.2.1 [], wV cy b4 st.2.2.2.2.1 [], wD cy b5 st.2.2.2.2.2.1 [], wY cy b6 st.2.2.2.2.2.2.1 [], wS cy q7 st.2.2.2.2.2.2.2.1 [], wM cy b8 st.2.2.2.2.2.2.2.2 []] rfl rfl rfl ⟨rfl, rfl, ad_V, rfl, rfl, rfl, rfl, rfl, rfl, trivial⟩ rfl hl.1 rfl (Nat.le_of_ble_eq_true rfl) dL_law_755 ⟨Nat.le_of_ble_eq_true rfl, Nat.le_of_ble_eq_true rfl⟩ (fun H locs hP hD hS => ?_)
  refine lv_aload_n hx hb dL_law_758 rfl (lv_at hl 2 rfl) ?_
  refine lv_aload_n hx hb dL_law_759 rfl (lv_at hl 0 rfl) ?_
  refine lv_iload_n hx hb dL_law_760 rfl (lv_at hl 3 rfl) ?_
  refine lv_iconst (v := 1) hx hb dL_law_761 (by decide) ?_
  refine lv_iadd hx hb dL_law_762 ?_
  refine va_sld hx hb hX hbl hbA hS hv1 dL_law_763 ?_
  refine lv_aload_n hx hb dL_law_764 rfl (lv_at hl 0 rfl) ?_
  refine lv_iload_n hx hb dL_law_765 rfl (lv_at hl 3 rfl) ?_
  refine lv_iconst (v := 2) hx hb dL_law_766 (by decide) ?_
  refine lv_iadd hx hb dL_law_767 ?_
  refine va_sld hx hb hX hbl hbA hS hv2 dL_law_768 ?_
  refine lv_aload_n hx hb dL_law_769 rfl (lv_at hl 0 rfl) ?_
  refine lv_iload_n hx hb dL_law_770 rfl (lv_at hl 3 rfl) ?_
  refine lv_iconst (v := 3) hx hb dL_law_771 (by decide) ?_
  refine lv_iadd hx hb dL_law_772 ?_
  refine va_sld hx hb hX hbl hbA hS hv3 dL_law_773 ?_
  obtain ⟨r2, hr2, h⟩ := bn_s h
  refine kcBi (bs' := [wX x0 (b1 0) (b2 0) (b3 0) (b4 0) (b5 0) (b6 0) q7 st.1 [], wV cy b1 st.2.1 [], wV cy b2 r1.2 [], wV cy b3 st.2.2.2.1 [], wV cy b4 st.2.2.2.2.1 [], wD cy b5 st.2.2.2.2.2.1 [], wY cy b6 st.2.2.2.2.2.2.1 [], wS cy q7 st.2.2.2.2.2.2.2.1 [], wM cy b8 r2.2 []]) (bc := [wM cy b8 st.2.2.2.2.2.2.2.2 []]) (bc1 := [wM cy b8 r2.2 []]) (As := [.int (xs (x3 + 1).toNatClampNeg), .int (xs (x3 + 2).toNatClampNeg), .int (xs (x3 + 3).toNatClampNeg)]) (rest := [.int r1.1]) ⟨hx, hb, hml, hown, hts⟩ (cwV 3 hts gT_X4_year rfl rfl rfl ⟨rfl, eX4_year⟩ ⟨Nat.le_of_ble_eq_true rfl, Nat.le_of_ble_eq_true rfl⟩) (c_X4_year b8 hr2) hK hP hD hS hA [8] [0, 1, 2, 3, 4, 5, 6, 7] (by decide) rfl rfl 4 rfl rfl rfl rfl [wX x0 (b1 0) (b2 0) (b3 0) (b4 0) (b5 0) (b6 0) q7 st.1 [], wV cy b1 st.2.1 [], wV cy b2 r1.2 [], wV cy b3 st.2.2.2.1 [], wV cy b4 st.2.2.2.2.1 [], wD cy b5 st.2.2.2.2.2.1 [], wY cy b6 st.2.2.2.2.2.2.1 [], wS cy q7 st.2.2.2.2.2.2.2.1 []] rfl rfl rfl ⟨rfl, rfl, rfl, rfl, rfl, rfl, rfl, rfl, ad_M, trivial⟩ rfl hl.1 rfl (Nat.le_of_ble_eq_true rfl) dL_law_774 ⟨Nat.le_of_ble_eq_true rfl, Nat.le_of_ble_eq_true rfl⟩ (fun H locs hP hD hS => ?_)
  refine lv_icmp_eq (tgt := 851) hx hb dL_law_777 (by decide) (fun c1 => ?_) (fun c1 => ?_)
  · replace h := it_p c1 h
    cases h
    exact kk H locs hP hD hS
  · replace h := it_n c1 h
    cases h
set_option maxHeartbeats 4000000 in
set_option maxRecDepth 100000 in
theorem wL_23 {p : Program} {l : Launch} {e : Env} {s : State} {m : MethodId} {below : List Frame} {meth : Method} {c : Code} {Q : State → Prop} {A : Nat → Prop} {D : va_G} {cy : Nat → ClassId} {b L : Nat} {xs : Nat → Int32} {x0 : Nat} {b1 b2 b3 b4 b5 b6 : Nat → Nat} {q7 : Nat} {b8 : Nat → Nat} {x3 : Int32} (hx : p.tables.exec = Jvm.exec) (hb : c.code = code) (hml : c.maxLocals = 4) (hown : s.vm.findClass RL = some m.cls) (hts : ∀ w ∈ lw_tbl, w.before #[Value.ref b] s = true) (hX : va_X b L xs s s.heap) (hbl : b < s.heap.size) (hbA : ¬ A b) (hA : ∀ q, s.heap.size ≤ q → A q) (hK : kK D cy s) (hv1 : vp_in (x3 + 1) L) {st st' : LSt} (h : ls_23 st (xs (x3 + 1).toNatClampNeg) = some st') {H : Heap} {locs : List Loc} {ls : Array Slot} (hP : ∀ w ∈ lB cy x0 b1 b2 b3 b4 b5 b6 q7 b8 st, va_P D vwCl w H) (hD : dB A (lB cy x0 b1 b2 b3 b4 b5 b6 q7 b8 st)) (hS : va_S A s.heap H locs) (hl : lv_has ls 4 [(0, .ref b), (1, .ref x0), (2, .ref (b8 0)), (3, .int x3)]) (kk : ∀ (H : Heap) (locs : List Loc), (∀ w ∈ lB cy x0 b1 b2 b3 b4 b5 b6 q7 b8 st', va_P D vwCl w H) → dB A (lB cy x0 b1 b2 b3 b4 b5 b6 q7 b8 st') → va_S A s.heap H locs → W p l e room_1 s m #[Value.ref b] below meth c H locs 65 48897 Q (F0 m 851 ls [])) : W p l e room_1 s m #[Value.ref b] below meth c H locs 65 48897 Q (F0 m 782 ls []) := by
  unfold ls_23 at h
  refine lv_aload_n hx hb dL_law_782 rfl (lv_at hl 1 rfl) ?_
  refine lv_aload_n hx hb dL_law_783 rfl (lv_at hl 0 rfl) ?_
  refine lv_iload_n hx hb dL_law_784 rfl (lv_at hl 3 rfl) ?_
  refine lv_iconst (v := 1) hx hb dL_law_785 (by decide) ?_
  refine lv_iadd hx hb dL_law_786 ?_
  refine va_sld hx hb hX hbl hbA hS hv1 dL_law_787 ?_
  obtain ⟨r1, hr1, h⟩ := bn_s h
  refine kcBi (bs' := [wX x0 (b1 0) (b2 0) (b3 0) (b4 0) (b5 0) (b6 0) q7 r1.2.1 [], wV cy b1 st.2.1 [], wV cy b2 st.2.2.1 [], wV cy b3 r1.2.2.1 [], wV cy b4 r1.2.2.2 [], wD cy b5 st.2.2.2.2.2.1 [], wY cy b6 st.2.2.2.2.2.2.1 [], wS cy q7 st.2.2.2.2.2.2.2.1 [], wM cy b8 st.2.2.2.2.2.2.2.2 []]) (bc := [wX x0 (b1 0) (b2 0) (b3 0) (b4 0) (b5 0) (b6 0) q7 st.1 [], wV cy b1 st.2.1 [], wV cy b3 st.2.2.2.1 [], wV cy b4 st.2.2.2.2.1 []]) (bc1 := [wX x0 (b1 0) (b2 0) (b3 0) (b4 0) (b5 0) (b6 0) q7 r1.2.1 [], wV cy b1 st.2.1 [], wV cy b3 r1.2.2.1 [], wV cy b4 r1.2.2.2 []]) (As := [.int (xs (x3 + 1).toNatClampNeg)]) (rest := []) ⟨hx, hb, hml, hown, hts⟩ (cwV 1 hts gT_X3_image rfl rfl rfl ⟨rfl, eX3_image⟩ ⟨Nat.le_of_ble_eq_true rfl, Nat.le_of_ble_eq_true rfl⟩) (c_X3_image x0 ((b2 0)) ((b5 0)) ((b6 0)) q7 b1 b3 b4 hr1) hK hP hD hS hA [0, 1, 3, 4] [2, 5, 6, 7, 8] (by decide) rfl rfl 3 rfl rfl rfl rfl [wV cy b2 st.2.2.1 [], wD cy b5 st.2.2.2.2.2.1 [], wY cy b6 st.2.2.2.2.2.2.1 [], wS cy q7 st.2.2.2.2.2.2.2.1 [], wM cy b8 st.2.2.2.2.2.2.2.2 []] rfl rfl rfl ⟨ad_X, rfl, rfl, ad_V, ad_V, rfl, rfl, rfl, rfl, trivial⟩ rfl hl.1 rfl (Nat.le_of_ble_eq_true rfl) dL_law_788 ⟨Nat.le_of_ble_eq_true rfl, Nat.le_of_ble_eq_true rfl⟩ (fun H locs hP hD hS => ?_)
  refine lv_aload_n hx hb dL_law_791 rfl (lv_at hl 2 rfl) ?_
  refine lv_aload_n hx hb dL_law_792 rfl (lv_at hl 0 rfl) ?_
  refine lv_iload_n hx hb dL_law_793 rfl (lv_at hl 3 rfl) ?_
  refine lv_iconst (v := 1) hx hb dL_law_794 (by decide) ?_
  refine lv_iadd hx hb dL_law_795 ?_
  refine va_sld hx hb hX hbl hbA hS hv1 dL_law_796 ?_
  obtain ⟨r2, hr2, h⟩ := bn_s h
  refine kcBi (bs' := [wX x0 (b1 0) (b2 0) (b3 0) (b4 0) (b5 0) (b6 0) q7 r1.2.1 [], wV cy b1 st.2.1 [], wV cy b2 st.2.2.1 [], wV cy b3 r1.2.2.1 [], wV cy b4 r1.2.2.2 [], wD cy b5 st.2.2.2.2.2.1 [], wY cy b6 st.2.2.2.2.2.2.1 [], wS cy q7 st.2.2.2.2.2.2.2.1 [], wM cy b8 r2.2 []]) (bc := [wM cy b8 st.2.2.2.2.2.2.2.2 []]) (bc1 := [wM cy b8 r2.2 []]) (As := [.int (xs (x3 + 1).toNatClampNeg)]) (rest := [.int r1.1]) ⟨hx, hb, hml, hown, hts⟩ (cwV 1 hts gT_X4_image rfl rfl rfl ⟨rfl, eX4_image⟩ ⟨Nat.le_of_ble_eq_true rfl, Nat.le_of_ble_eq_true rfl⟩) (c_X4_image b8 hr2) hK hP hD hS hA [8] [0, 1, 2, 3, 4, 5, 6, 7] (by decide) rfl rfl 4 rfl rfl rfl rfl [wX x0 (b1 0) (b2 0) (b3 0) (b4 0) (b5 0) (b6 0) q7 r1.2.1 [], wV cy b1 st.2.1 [], wV cy b2 st.2.2.1 [], wV cy b3 r1.2.2.1 [], wV cy b4 r1.2.2.2 [], wD cy b5 st.2.2.2.2.2.1 [], wY cy b6 st.2.2.2.2.2.2.1 [], wS cy q7 st.2.2.2.2.2.2.2.1 []] rfl rfl rfl ⟨rfl, rfl, rfl, rfl, rfl, rfl, rfl, rfl, ad_M, trivial⟩ rfl hl.1 rfl (Nat.le_of_ble_eq_true rfl) dL_law_797 ⟨Nat.le_of_ble_eq_true rfl, Nat.le_of_ble_eq_true rfl⟩ (fun H locs hP hD hS => ?_)
  refine lv_icmp_eq (tgt := 851) hx hb dL_law_800 (by decide) (fun c1 => ?_) (fun c1 => ?_)
  · replace h := it_p c1 h
    cases h
    exact kk H locs hP hD hS
  · replace h := it_n c1 h
    cases h
set_option maxHeartbeats 4000000 in
set_option maxRecDepth 100000 in
theorem wL_24 {p : Program} {l : Launch} {e : Env} {s : State} {m : MethodId} {below : List Frame} {meth : Method} {c : Code} {Q : State → Prop} {A : Nat → Prop} {D : va_G} {cy : Nat → ClassId} {b L : Nat} {xs : Nat → Int32} {x0 : Nat} {b1 b2 b3 b4 b5 b6 : Nat → Nat} {q7 : Nat} {b8 : Nat → Nat} {x3 : Int32} (hx : p.tables.exec = Jvm.exec) (hb : c.code = code) (hml : c.maxLocals = 4) (hown : s.vm.findClass RL = some m.cls) (hts : ∀ w ∈ lw_tbl, w.before #[Value.ref b] s = true) (hX : va_X b L xs s s.heap) (hbl : b < s.heap.size) (hbA : ¬ A b) (hA : ∀ q, s.heap.size ≤ q → A q) (hK : kK D cy s) (hv1 : vp_in (x3 + 1) L) {st st' : LSt} (h : ls_24 st (xs (x3 + 1).toNatClampNeg) = some st') {H : Heap} {locs : List Loc} {ls : Array Slot} (hP : ∀ w ∈ lB cy x0 b1 b2 b3 b4 b5 b6 q7 b8 st, va_P D vwCl w H) (hD : dB A (lB cy x0 b1 b2 b3 b4 b5 b6 q7 b8 st)) (hS : va_S A s.heap H locs) (hl : lv_has ls 4 [(0, .ref b), (1, .ref x0), (2, .ref (b8 0)), (3, .int x3)]) (kk : ∀ (H : Heap) (locs : List Loc), (∀ w ∈ lB cy x0 b1 b2 b3 b4 b5 b6 q7 b8 st', va_P D vwCl w H) → dB A (lB cy x0 b1 b2 b3 b4 b5 b6 q7 b8 st') → va_S A s.heap H locs → W p l e room_1 s m #[Value.ref b] below meth c H locs 65 48897 Q (F0 m 851 ls [])) : W p l e room_1 s m #[Value.ref b] below meth c H locs 65 48897 Q (F0 m 805 ls []) := by
  unfold ls_24 at h
  refine lv_aload_n hx hb dL_law_805 rfl (lv_at hl 1 rfl) ?_
  refine lv_aload_n hx hb dL_law_806 rfl (lv_at hl 0 rfl) ?_
  refine lv_iload_n hx hb dL_law_807 rfl (lv_at hl 3 rfl) ?_
  refine lv_iconst (v := 1) hx hb dL_law_808 (by decide) ?_
  refine lv_iadd hx hb dL_law_809 ?_
  refine va_sld hx hb hX hbl hbA hS hv1 dL_law_810 ?_
  obtain ⟨r1, hr1, h⟩ := bn_s h
  refine kcBi (bs' := [wX x0 (b1 0) (b2 0) (b3 0) (b4 0) (b5 0) (b6 0) q7 st.1 [], wV cy b1 r1.2 [], wV cy b2 st.2.2.1 [], wV cy b3 st.2.2.2.1 [], wV cy b4 st.2.2.2.2.1 [], wD cy b5 st.2.2.2.2.2.1 [], wY cy b6 st.2.2.2.2.2.2.1 [], wS cy q7 st.2.2.2.2.2.2.2.1 [], wM cy b8 st.2.2.2.2.2.2.2.2 []]) (bc := [wX x0 (b1 0) (b2 0) (b3 0) (b4 0) (b5 0) (b6 0) q7 st.1 [], wV cy b1 st.2.1 [], wV cy b3 st.2.2.2.1 [], wV cy b4 st.2.2.2.2.1 []]) (bc1 := [wX x0 (b1 0) (b2 0) (b3 0) (b4 0) (b5 0) (b6 0) q7 st.1 [], wV cy b1 r1.2 [], wV cy b3 st.2.2.2.1 [], wV cy b4 st.2.2.2.2.1 []]) (As := [.int (xs (x3 + 1).toNatClampNeg)]) (rest := []) ⟨hx, hb, hml, hown, hts⟩ (cwV 1 hts gT_X3_restore rfl rfl rfl ⟨rfl, eX3_restore⟩ ⟨Nat.le_of_ble_eq_true rfl, Nat.le_of_ble_eq_true rfl⟩) (c_X3_restore x0 ((b2 0)) ((b5 0)) ((b6 0)) q7 b1 b3 b4 hr1) hK hP hD hS hA [0, 1, 3, 4] [2, 5, 6, 7, 8] (by decide) rfl rfl 3 rfl rfl rfl rfl [wV cy b2 st.2.2.1 [], wD cy b5 st.2.2.2.2.2.1 [], wY cy b6 st.2.2.2.2.2.2.1 [], wS cy q7 st.2.2.2.2.2.2.2.1 [], wM cy b8 st.2.2.2.2.2.2.2.2 []] rfl rfl rfl ⟨rfl, ad_V, rfl, rfl, rfl, rfl, rfl, rfl, rfl, trivial⟩ rfl hl.1 rfl (Nat.le_of_ble_eq_true rfl) dL_law_811 ⟨Nat.le_of_ble_eq_true rfl, Nat.le_of_ble_eq_true rfl⟩ (fun H locs hP hD hS => ?_)
  refine lv_aload_n hx hb dL_law_814 rfl (lv_at hl 2 rfl) ?_
  refine lv_aload_n hx hb dL_law_815 rfl (lv_at hl 0 rfl) ?_
  refine lv_iload_n hx hb dL_law_816 rfl (lv_at hl 3 rfl) ?_
  refine lv_iconst (v := 1) hx hb dL_law_817 (by decide) ?_
  refine lv_iadd hx hb dL_law_818 ?_
  refine va_sld hx hb hX hbl hbA hS hv1 dL_law_819 ?_
  obtain ⟨r2, hr2, h⟩ := bn_s h
  refine kcBi (bs' := [wX x0 (b1 0) (b2 0) (b3 0) (b4 0) (b5 0) (b6 0) q7 st.1 [], wV cy b1 r1.2 [], wV cy b2 st.2.2.1 [], wV cy b3 st.2.2.2.1 [], wV cy b4 st.2.2.2.2.1 [], wD cy b5 st.2.2.2.2.2.1 [], wY cy b6 st.2.2.2.2.2.2.1 [], wS cy q7 st.2.2.2.2.2.2.2.1 [], wM cy b8 r2.2 []]) (bc := [wM cy b8 st.2.2.2.2.2.2.2.2 []]) (bc1 := [wM cy b8 r2.2 []]) (As := [.int (xs (x3 + 1).toNatClampNeg)]) (rest := [.int r1.1]) ⟨hx, hb, hml, hown, hts⟩ (cwV 1 hts gT_X4_restore rfl rfl rfl ⟨rfl, eX4_restore⟩ ⟨Nat.le_of_ble_eq_true rfl, Nat.le_of_ble_eq_true rfl⟩) (c_X4_restore b8 hr2) hK hP hD hS hA [8] [0, 1, 2, 3, 4, 5, 6, 7] (by decide) rfl rfl 4 rfl rfl rfl rfl [wX x0 (b1 0) (b2 0) (b3 0) (b4 0) (b5 0) (b6 0) q7 st.1 [], wV cy b1 r1.2 [], wV cy b2 st.2.2.1 [], wV cy b3 st.2.2.2.1 [], wV cy b4 st.2.2.2.2.1 [], wD cy b5 st.2.2.2.2.2.1 [], wY cy b6 st.2.2.2.2.2.2.1 [], wS cy q7 st.2.2.2.2.2.2.2.1 []] rfl rfl rfl ⟨rfl, rfl, rfl, rfl, rfl, rfl, rfl, rfl, ad_M, trivial⟩ rfl hl.1 rfl (Nat.le_of_ble_eq_true rfl) dL_law_820 ⟨Nat.le_of_ble_eq_true rfl, Nat.le_of_ble_eq_true rfl⟩ (fun H locs hP hD hS => ?_)
  refine lv_icmp_eq (tgt := 851) hx hb dL_law_823 (by decide) (fun c1 => ?_) (fun c1 => ?_)
  · replace h := it_p c1 h
    cases h
    exact kk H locs hP hD hS
  · replace h := it_n c1 h
    cases h
set_option maxHeartbeats 4000000 in
set_option maxRecDepth 100000 in
theorem wL_25 {p : Program} {l : Launch} {e : Env} {s : State} {m : MethodId} {below : List Frame} {meth : Method} {c : Code} {Q : State → Prop} {A : Nat → Prop} {D : va_G} {cy : Nat → ClassId} {b L : Nat} {xs : Nat → Int32} {x0 : Nat} {b1 b2 b3 b4 b5 b6 : Nat → Nat} {q7 : Nat} {b8 : Nat → Nat} {x3 : Int32} (hx : p.tables.exec = Jvm.exec) (hb : c.code = code) (hml : c.maxLocals = 4) (hown : s.vm.findClass RL = some m.cls) (hts : ∀ w ∈ lw_tbl, w.before #[Value.ref b] s = true) (hX : va_X b L xs s s.heap) (hbl : b < s.heap.size) (hbA : ¬ A b) (hA : ∀ q, s.heap.size ≤ q → A q) (hK : kK D cy s) (hv1 : vp_in (x3 + 1) L) {st st' : LSt} (h : ls_25 st (xs (x3 + 1).toNatClampNeg) = some st') {H : Heap} {locs : List Loc} {ls : Array Slot} (hP : ∀ w ∈ lB cy x0 b1 b2 b3 b4 b5 b6 q7 b8 st, va_P D vwCl w H) (hD : dB A (lB cy x0 b1 b2 b3 b4 b5 b6 q7 b8 st)) (hS : va_S A s.heap H locs) (hl : lv_has ls 4 [(0, .ref b), (1, .ref x0), (2, .ref (b8 0)), (3, .int x3)]) (kk : ∀ (H : Heap) (locs : List Loc), (∀ w ∈ lB cy x0 b1 b2 b3 b4 b5 b6 q7 b8 st', va_P D vwCl w H) → dB A (lB cy x0 b1 b2 b3 b4 b5 b6 q7 b8 st') → va_S A s.heap H locs → W p l e room_1 s m #[Value.ref b] below meth c H locs 65 48897 Q (F0 m 851 ls [])) : W p l e room_1 s m #[Value.ref b] below meth c H locs 65 48897 Q (F0 m 828 ls []) := by
  unfold ls_25 at h
  refine lv_aload_n hx hb dL_law_828 rfl (lv_at hl 1 rfl) ?_
  refine lv_aload_n hx hb dL_law_829 rfl (lv_at hl 0 rfl) ?_
  refine lv_iload_n hx hb dL_law_830 rfl (lv_at hl 3 rfl) ?_
  refine lv_iconst (v := 1) hx hb dL_law_831 (by decide) ?_
  refine lv_iadd hx hb dL_law_832 ?_
  refine va_sld hx hb hX hbl hbA hS hv1 dL_law_833 ?_
  obtain ⟨r1, hr1, h⟩ := bn_s h
  refine kcBi (bs' := [wX x0 (b1 0) (b2 0) (b3 0) (b4 0) (b5 0) (b6 0) q7 st.1 [], wV cy b1 st.2.1 [], wV cy b2 st.2.2.1 [], wV cy b3 st.2.2.2.1 [], wV cy b4 st.2.2.2.2.1 [], wD cy b5 st.2.2.2.2.2.1 [], wY cy b6 st.2.2.2.2.2.2.1 [], wS cy q7 st.2.2.2.2.2.2.2.1 [], wM cy b8 st.2.2.2.2.2.2.2.2 []]) (bc := [wX x0 (b1 0) (b2 0) (b3 0) (b4 0) (b5 0) (b6 0) q7 st.1 [], wV cy b1 st.2.1 [], wD cy b5 st.2.2.2.2.2.1 []]) (bc1 := [wX x0 (b1 0) (b2 0) (b3 0) (b4 0) (b5 0) (b6 0) q7 st.1 [], wV cy b1 st.2.1 [], wD cy b5 st.2.2.2.2.2.1 []]) (As := [.int (xs (x3 + 1).toNatClampNeg)]) (rest := []) ⟨hx, hb, hml, hown, hts⟩ (cwV 1 hts gT_X3_told rfl rfl rfl ⟨rfl, eX3_told⟩ ⟨Nat.le_of_ble_eq_true rfl, Nat.le_of_ble_eq_true rfl⟩) (c_X3_told x0 ((b2 0)) ((b3 0)) ((b4 0)) ((b6 0)) q7 b1 b5 st.1 hr1) hK hP hD hS hA [0, 1, 5] [2, 3, 4, 6, 7, 8] (by decide) rfl rfl 3 rfl rfl rfl rfl [wV cy b2 st.2.2.1 [], wV cy b3 st.2.2.2.1 [], wV cy b4 st.2.2.2.2.1 [], wY cy b6 st.2.2.2.2.2.2.1 [], wS cy q7 st.2.2.2.2.2.2.2.1 [], wM cy b8 st.2.2.2.2.2.2.2.2 []] rfl rfl rfl ⟨rfl, rfl, rfl, rfl, rfl, rfl, rfl, rfl, rfl, trivial⟩ rfl hl.1 rfl (Nat.le_of_ble_eq_true rfl) dL_law_834 ⟨Nat.le_of_ble_eq_true rfl, Nat.le_of_ble_eq_true rfl⟩ (fun H locs hP hD hS => ?_)
  refine lv_aload_n hx hb dL_law_837 rfl (lv_at hl 2 rfl) ?_
  refine lv_aload_n hx hb dL_law_838 rfl (lv_at hl 0 rfl) ?_
  refine lv_iload_n hx hb dL_law_839 rfl (lv_at hl 3 rfl) ?_
  refine lv_iconst (v := 1) hx hb dL_law_840 (by decide) ?_
  refine lv_iadd hx hb dL_law_841 ?_
  refine va_sld hx hb hX hbl hbA hS hv1 dL_law_842 ?_
  obtain ⟨r2, hr2, h⟩ := bn_s h
  refine kcBi (bs' := [wX x0 (b1 0) (b2 0) (b3 0) (b4 0) (b5 0) (b6 0) q7 st.1 [], wV cy b1 st.2.1 [], wV cy b2 st.2.2.1 [], wV cy b3 st.2.2.2.1 [], wV cy b4 st.2.2.2.2.1 [], wD cy b5 st.2.2.2.2.2.1 [], wY cy b6 st.2.2.2.2.2.2.1 [], wS cy q7 st.2.2.2.2.2.2.2.1 [], wM cy b8 st.2.2.2.2.2.2.2.2 []]) (bc := [wM cy b8 st.2.2.2.2.2.2.2.2 []]) (bc1 := [wM cy b8 st.2.2.2.2.2.2.2.2 []]) (As := [.int (xs (x3 + 1).toNatClampNeg)]) (rest := [.int r1]) ⟨hx, hb, hml, hown, hts⟩ (cwV 1 hts gT_X4_told rfl rfl rfl ⟨rfl, eX4_told⟩ ⟨Nat.le_of_ble_eq_true rfl, Nat.le_of_ble_eq_true rfl⟩) (c_X4_told b8 hr2) hK hP hD hS hA [8] [0, 1, 2, 3, 4, 5, 6, 7] (by decide) rfl rfl 4 rfl rfl rfl rfl [wX x0 (b1 0) (b2 0) (b3 0) (b4 0) (b5 0) (b6 0) q7 st.1 [], wV cy b1 st.2.1 [], wV cy b2 st.2.2.1 [], wV cy b3 st.2.2.2.1 [], wV cy b4 st.2.2.2.2.1 [], wD cy b5 st.2.2.2.2.2.1 [], wY cy b6 st.2.2.2.2.2.2.1 [], wS cy q7 st.2.2.2.2.2.2.2.1 []] rfl rfl rfl ⟨rfl, rfl, rfl, rfl, rfl, rfl, rfl, rfl, rfl, trivial⟩ rfl hl.1 rfl (Nat.le_of_ble_eq_true rfl) dL_law_843 ⟨Nat.le_of_ble_eq_true rfl, Nat.le_of_ble_eq_true rfl⟩ (fun H locs hP hD hS => ?_)
  refine lv_icmp_eq (tgt := 851) hx hb dL_law_846 (by decide) (fun c1 => ?_) (fun c1 => ?_)
  · replace h := it_p c1 h
    cases h
    exact kk H locs hP hD hS
  · replace h := it_n c1 h
    cases h
