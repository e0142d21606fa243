/-! THE CLAIM OUT OF ONE WALK OF THE LAW'S BODY. Your part is whole_start (and what it stands on); all else here is the same for every law, but numbers. -/
def R_law : String := "LentPilesLaw"
def lw_P (b : Addr) (xs : List Int32) (args : Array Value) (s : State) : Prop := args = #[.ref b] ∧ s.IntsAt b xs ∧ xs.length ≤ 3072 ∧ (Jvm.Cond.and given_1 narrow_1).before args s = true
def lw_Q (_ : Array Value) (s : State) (o : Outcome) (t : State) : Prop := o = .returned (some (.int 1)) ∧ Framed s o t [] 600000 7302250
def lw_Z (below : List Frame) (a : Array Value) (s : State) : State → Prop := fun t => ∃ o, t.status = .running ∧ Ended t below o ∧ lw_Q a s o t
/-- the law's own end, with 1 on the stack, nothing written that was there before, its room as the claim has it -/
theorem lw_ret {p : Program} {l : Launch} {e : Env} {s : State} {m : MethodId} {below : List Frame} {meth : Method} {c : Code} {b : Nat} (hx : p.tables.exec = Jvm.exec) (hb : c.code = code) (hr : meth.sig.returnType = ret) (hlocks : meth.locks = false) {pc : Nat} {H : Heap} {ls : Array Slot} (hdg : decode code pc = .ok (.ireturn, 1)) : W p l e room_1 s m #[Value.ref b] below meth c H [] 600000 7302250 (lw_Z below #[Value.ref b] s) (F0 m pc ls [.int 1]) := by
  intro T hT X
  obtain ⟨fs, hret, hrun, hended, hW, hframe⟩ := X.leave (v := some (.int 1)) (hlocks := hlocks) (fun h => by rw [hr] at h; cases h)
  have hmeth' : T.vm.method? m = some meth := X.method'
  refine ⟨T.setFrames fs, ?_, .returned (some (.int 1)), hrun, hended, rfl, ⟨_, rfl⟩, hW, hframe⟩
  jvm_step X.here [X.here.top, hx, hb, hdg, hmeth', hr, ret, narrow_b1]
  (try refine ⟨rfl, ?_⟩); (try refine ⟨rfl, ?_⟩)
  first | (intro acts; rw [hret _ acts rfl rfl rfl]) | rw [hret _ _ rfl rfl rfl]
  exact Steps.refl _
/-- what holds at the law's entry: the machine, the code, the tables' words (any of lw_tbl by 'hts w (by decide +kernel)'), the script of L ints xs at the cell b, what the Statement gives of the start (any of its parts by flat_of_before) -/
def lw_At (p : Program) (s : State) (m : MethodId) (meth : Method) (c : Code) (b L : Nat) (xs : Nat → Int32) : Prop :=
  p.tables.exec = Jvm.exec ∧ c.code = code ∧ meth.sig.returnType = ret ∧ c.maxLocals = 4 ∧ s.vm.findClass R_law = some m.cls ∧ (∀ w ∈ lw_tbl, w.before #[Value.ref b] s = true) ∧ va_X b L xs s s.heap ∧ b < s.heap.size ∧ meth.locks = false ∧ (Jvm.Cond.and given_1 narrow_1).before #[Value.ref b] s = true
theorem nw_123 : Cond.fieldLinkNest RX3 123 "LentPiles$Valley" "sights" "I" RX3 ∈ lw_tbl := (List.mem_append_right _ (List.mem_append_left _ (List.mem_of_getElem? (i := 37) (by decide +kernel))))
theorem nw_211 : Cond.fieldLinkNest RX3 211 "LentPiles$Valley" "days" "I" RX3 ∈ lw_tbl := (List.mem_append_right _ (List.mem_append_left _ (List.mem_of_getElem? (i := 39) (by decide +kernel))))
theorem nw_63 : Cond.fieldLinkNest RX3 63 "LentPiles$Valley" "law" "I" RX3 ∈ lw_tbl := (List.mem_append_right _ (List.mem_append_left _ (List.mem_of_getElem? (i := 41) (by decide +kernel))))
theorem nw_66 : Cond.fieldLinkNest RX3 66 "LentPiles$Valley" "rate" "I" RX3 ∈ lw_tbl := (List.mem_append_right _ (List.mem_append_left _ (List.mem_of_getElem? (i := 43) (by decide +kernel))))
theorem nw_73 : Cond.fieldLinkNest RX3 73 "LentPiles$Pad" "length" "I" RX3 ∈ lw_tbl := (List.mem_append_right _ (List.mem_append_left _ (List.mem_of_getElem? (i := 81) (by decide +kernel))))
theorem nw_97 : Cond.fieldLinkNest RX3 97 "LentPiles$Pad" "parts" "I" RX3 ∈ lw_tbl := (List.mem_append_right _ (List.mem_append_left _ (List.mem_of_getElem? (i := 83) (by decide +kernel))))
theorem nw_83 : Cond.fieldLinkNest RX3 83 "LentPiles$Pad" "asks" "I" RX3 ∈ lw_tbl := (List.mem_append_right _ (List.mem_append_left _ (List.mem_of_getElem? (i := 85) (by decide +kernel))))
theorem nw_90 : Cond.fieldLinkNest RX3 90 "LentPiles$Pad" "why" "I" RX3 ∈ lw_tbl := (List.mem_append_right _ (List.mem_append_left _ (List.mem_of_getElem? (i := 87) (by decide +kernel))))
theorem nwm_RX2_58 : Cond.methodLinkNest RX2 58 yX3_isMan RX3 ∈ lw_tbl := (List.mem_append_right _ (List.mem_append_left _ (List.mem_of_getElem? (i := 187) (by decide +kernel))))
theorem nwm_RX2_94 : Cond.methodLinkNest RX2 94 yX3_grown RX3 ∈ lw_tbl := (List.mem_append_right _ (List.mem_append_right _ (List.mem_append_left _ (List.mem_of_getElem? (i := 25) (by decide +kernel)))))
theorem nwm_RX0_72 : Cond.methodLinkNest RX0 72 yX3_isMan RX3 ∈ lw_tbl := (List.mem_append_right _ (List.mem_append_right _ (List.mem_append_left _ (List.mem_of_getElem? (i := 35) (by decide +kernel)))))
theorem nwm_RX1_57 : Cond.methodLinkNest RX1 57 yX3_isWithin RX3 ∈ lw_tbl := (List.mem_append_right _ (List.mem_append_right _ (List.mem_append_left _ (List.mem_of_getElem? (i := 155) (by decide +kernel)))))
theorem nwm_RX1_71 : Cond.methodLinkNest RX1 71 yX3_isMan RX3 ∈ lw_tbl := (List.mem_append_right _ (List.mem_append_right _ (List.mem_append_left _ (List.mem_of_getElem? (i := 179) (by decide +kernel)))))
theorem dB_of {A : Nat → Prop} : ∀ {bs : List va_W}, va_D A (fl bs) → dB A bs
  | [], _ => ⟨fun b h => by simp at h, fun i j b b' h => by simp at h⟩
  | b :: bs, h => by
    have h : va_D A (b ++ fl bs) := h
    have hb : va_D A b := ⟨fun i j p q hp hq e => h.1 i j p q (by rw [List.getElem?_append_left (List.getElem?_eq_some_iff.mp hp).1]; exact hp) (by rw [List.getElem?_append_left (List.getElem?_eq_some_iff.mp hq).1]; exact hq) e, fun k q hq => h.2 k q (by rw [List.getElem?_append_left (List.getElem?_eq_some_iff.mp hq).1]; exact hq)⟩
    have sh : ∀ (j : Nat) (q : Nat × va_E), (fl bs)[j]? = some q → (b ++ fl bs)[b.length + j]? = some q := fun j q hq => by rw [List.getElem?_append_right (by omega), show b.length + j - b.length = j by omega]; exact hq
    have ht : va_D A (fl bs) := ⟨fun i j p q hp hq e => by have := h.1 _ _ p q (sh i p hp) (sh j q hq) e; omega, fun k q hq => h.2 _ q (sh k q hq)⟩
    have hx : ∀ x ∈ b, ∀ y ∈ fl bs, x.1 ≠ y.1 := fun x hx y hy e => by
      obtain ⟨i, hi⟩ := List.mem_iff_getElem?.mp hx
      obtain ⟨j, hj⟩ := List.mem_iff_getElem?.mp hy
      have hl := (List.getElem?_eq_some_iff.mp hi).1
      have := h.1 i _ x y (by rw [List.getElem?_append_left hl]; exact hi) (sh j y hj) e
      omega
    have ih := dB_of ht
    refine ⟨fun c hc => ?_, fun i j c c' hi hj hij x hx1 y hy1 => ?_⟩
    · rcases List.mem_cons.mp hc with e | hc
      · rw [e]; exact hb
      · exact ih.1 c hc
    · cases i with
      | zero =>
        cases j with
        | zero => exact absurd rfl hij
        | succ j =>
          rw [List.getElem?_cons_succ] at hj
          cases hi
          exact hx x hx1 y (List.mem_flatten.mpr ⟨c', List.mem_of_getElem? hj, hy1⟩)
      | succ i =>
        rw [List.getElem?_cons_succ] at hi
        cases j with
        | zero =>
          cases hj
          exact (hx y hy1 x (List.mem_flatten.mpr ⟨c, List.mem_of_getElem? hi, hx1⟩)).symm
        | succ j =>
          rw [List.getElem?_cons_succ] at hj
          exact ih.2 i j c c' hi hj (by omega) x hx1 y hy1
theorem lw_c {L i : Nat} (hL : L ≤ 3072) (hi : i ≤ 4000) : (Int32.ofNat L - 6 < nI i) ↔ L < i + 6 := by
  rw [Int32.lt_iff_toInt_lt, show Int32.ofNat L - 6 = nI L - nI 6 from rfl, pk_sub_toInt (by omega) (by omega), nI_toInt (by omega)]
  omega
theorem sw_out25 {x : Int32} (c0 : ¬ x = 0) (c1 : ¬ x = 1) (c2 : ¬ x = 2) (c3 : ¬ x = 3) (c4 : ¬ x = 4) (c5 : ¬ x = 5) (c6 : ¬ x = 6) (c7 : ¬ x = 7) (c8 : ¬ x = 8) (c9 : ¬ x = 9) (c10 : ¬ x = 10) (c11 : ¬ x = 11) (c12 : ¬ x = 12) (c13 : ¬ x = 13) (c14 : ¬ x = 14) (c15 : ¬ x = 15) (c16 : ¬ x = 16) (c17 : ¬ x = 17) (c18 : ¬ x = 18) (c19 : ¬ x = 19) (c20 : ¬ x = 20) (c21 : ¬ x = 21) (c22 : ¬ x = 22) (c23 : ¬ x = 23) (c24 : ¬ x = 24) (c25 : ¬ x = 25) : x.toInt < 0 ∨ 25 < x.toInt := by
  have h0 := sw_ne (n := 0) (by decide) c0
  have h1 := sw_ne (n := 1) (by decide) c1
  have h2 := sw_ne (n := 2) (by decide) c2
  have h3 := sw_ne (n := 3) (by decide) c3
  have h4 := sw_ne (n := 4) (by decide) c4
  have h5 := sw_ne (n := 5) (by decide) c5
  have h6 := sw_ne (n := 6) (by decide) c6
  have h7 := sw_ne (n := 7) (by decide) c7
  have h8 := sw_ne (n := 8) (by decide) c8
  have h9 := sw_ne (n := 9) (by decide) c9
  have h10 := sw_ne (n := 10) (by decide) c10
  have h11 := sw_ne (n := 11) (by decide) c11
  have h12 := sw_ne (n := 12) (by decide) c12
  have h13 := sw_ne (n := 13) (by decide) c13
  have h14 := sw_ne (n := 14) (by decide) c14
  have h15 := sw_ne (n := 15) (by decide) c15
  have h16 := sw_ne (n := 16) (by decide) c16
  have h17 := sw_ne (n := 17) (by decide) c17
  have h18 := sw_ne (n := 18) (by decide) c18
  have h19 := sw_ne (n := 19) (by decide) c19
  have h20 := sw_ne (n := 20) (by decide) c20
  have h21 := sw_ne (n := 21) (by decide) c21
  have h22 := sw_ne (n := 22) (by decide) c22
  have h23 := sw_ne (n := 23) (by decide) c23
  have h24 := sw_ne (n := 24) (by decide) c24
  have h25 := sw_ne (n := 25) (by decide) c25
  omega
set_option maxHeartbeats 8000000 in
set_option maxRecDepth 100000 in
theorem law_loop {p : Program} {l : Launch} {e : Env} {s : State} {m : MethodId} {below : List Frame} {meth : Method} {c : Code} {D : va_G} {cy : Nat → ClassId} {b L : Nat} {xs : Nat → Int32} {x0 : Nat} {b1 b2 b3 b4 b5 b6 : Nat → Nat} {q7 : Nat} {b8 : Nat → Nat} (hL : L ≤ 3072) (C0 : lw_At p s m meth c b L xs) (hK : kK D cy s) :
    ∀ (n i : Nat) (st : LSt) (H : Heap) (locs : List Loc) (ls : Array Slot), i ≤ 3078 → L < i + 6 * n + 6 → lawOk xs n i st → (∀ w ∈ lB cy x0 b1 b2 b3 b4 b5 b6 q7 b8 st, va_P D vwCl w H) → dB (fun q => s.heap.size ≤ q) (lB cy x0 b1 b2 b3 b4 b5 b6 q7 b8 st) → va_S (fun q => s.heap.size ≤ q) s.heap H locs → lv_has ls 4 [(0, .ref b), (1, .ref x0), (2, .ref (b8 0)), (3, .int (nI i))] → W p l e room_1 s m #[Value.ref b] below meth c H locs 65 48897 (lw_Z below #[Value.ref b] s) (F0 m 18 ls []) := by
  obtain ⟨hx, hb, hr, hml, hown, hts, hX, hbl, hlocks, hgv⟩ := C0
  have hown : s.vm.findClass RL = some m.cls := hown
  have hA : ∀ q : Nat, s.heap.size ≤ q → (fun q : Nat => s.heap.size ≤ q) q := fun _ h => h
  have hbA : ¬ (fun q : Nat => s.heap.size ≤ q) b := Nat.not_le.mpr hbl
  intro n
  induction n with
  | zero =>
    intro i st H locs ls hi hn hok hP hD hS hl
    refine lv_iload_n hx hb dL_law_18 rfl (lv_at hl 3 rfl) ?_
    refine lv_aload_n hx hb dL_law_19 rfl (lv_at hl 0 rfl) ?_
    refine va_slen hx hb hX hbl hbA hS dL_law_20 ?_
    refine lv_bipush (v := 6) hx hb dL_law_21 (by decide) ?_
    refine lv_isub hx hb dL_law_23 ?_
    refine lv_icmp_gt (tgt := 857) hx hb dL_law_24 (by decide) (fun c_1 => ?_) (fun c_1 => ?_)
    · refine lv_iconst (v := 1) hx hb dL_law_857 (by decide) ?_
      refine va_forget (fun q hq => hS.2.2 q hq) ?_
      refine W.widen (k := 600000) (n := 7302250) (by decide) (by decide) ?_
      exact lw_ret hx hb hr hlocks dL_law_858
    · exact absurd ((lw_c hL (by omega)).mpr (by omega)) c_1
  | succ n ih =>
    intro i st H locs ls hi hn hok hP hD hS hl
    refine lv_iload_n hx hb dL_law_18 rfl (lv_at hl 3 rfl) ?_
    refine lv_aload_n hx hb dL_law_19 rfl (lv_at hl 0 rfl) ?_
    refine va_slen hx hb hX hbl hbA hS dL_law_20 ?_
    refine lv_bipush (v := 6) hx hb dL_law_21 (by decide) ?_
    refine lv_isub hx hb dL_law_23 ?_
    refine lv_icmp_gt (tgt := 857) hx hb dL_law_24 (by decide) (fun c_1 => ?_) (fun c_1 => ?_)
    · refine lv_iconst (v := 1) hx hb dL_law_857 (by decide) ?_
      refine va_forget (fun q hq => hS.2.2 q hq) ?_
      refine W.widen (k := 600000) (n := 7302250) (by decide) (by decide) ?_
      exact lw_ret hx hb hr hlocks dL_law_858
    · have hiL : i + 6 ≤ L := Nat.not_lt.mp fun q => c_1 ((lw_c hL (by omega)).mpr q)
      have hv0 : vp_in (nI i) L := vp_in_nI (by omega) (by omega)
      have e0 : (nI i).toNatClampNeg = i := nI_clamp (by omega)
      have hv1 : vp_in (nI i + 1) L := by rw [show nI i + 1 = nI (i + 1) from nI_add i 1]; exact vp_in_nI (by omega) (by omega)
      have e1 : (nI i + 1).toNatClampNeg = i + 1 := by rw [show nI i + 1 = nI (i + 1) from nI_add i 1]; exact nI_clamp (by omega)
      have hv2 : vp_in (nI i + 2) L := by rw [show nI i + 2 = nI (i + 2) from nI_add i 2]; exact vp_in_nI (by omega) (by omega)
      have e2 : (nI i + 2).toNatClampNeg = i + 2 := by rw [show nI i + 2 = nI (i + 2) from nI_add i 2]; exact nI_clamp (by omega)
      have hv3 : vp_in (nI i + 3) L := by rw [show nI i + 3 = nI (i + 3) from nI_add i 3]; exact vp_in_nI (by omega) (by omega)
      have e3 : (nI i + 3).toNatClampNeg = i + 3 := by rw [show nI i + 3 = nI (i + 3) from nI_add i 3]; exact nI_clamp (by omega)
      have hv4 : vp_in (nI i + 4) L := by rw [show nI i + 4 = nI (i + 4) from nI_add i 4]; exact vp_in_nI (by omega) (by omega)
      have e4 : (nI i + 4).toNatClampNeg = i + 4 := by rw [show nI i + 4 = nI (i + 4) from nI_add i 4]; exact nI_clamp (by omega)
      have hv5 : vp_in (nI i + 5) L := by rw [show nI i + 5 = nI (i + 5) from nI_add i 5]; exact vp_in_nI (by omega) (by omega)
      have e5 : (nI i + 5).toNatClampNeg = i + 5 := by rw [show nI i + 5 = nI (i + 5) from nI_add i 5]; exact nI_clamp (by omega)
      obtain ⟨st', h1, h2⟩ := hok
      have kk : ∀ (H : Heap) (locs : List Loc), (∀ w ∈ lB cy x0 b1 b2 b3 b4 b5 b6 q7 b8 st', va_P D vwCl w H) → dB (fun q => s.heap.size ≤ q) (lB cy x0 b1 b2 b3 b4 b5 b6 q7 b8 st') → va_S (fun q => s.heap.size ≤ q) s.heap H locs → W p l e room_1 s m #[Value.ref b] below meth c H locs 65 48897 (lw_Z below #[Value.ref b] s) (F0 m 851 ls []) := by
        intro H locs hP hD hS
        refine lv_iinc (v := nI (i + 6)) (lv' := [(3, .int (nI (i + 6))), (0, .ref b), (1, .ref x0), (2, .ref (b8 0))]) hx hb dL_law_851 hl (k := 3) rfl (nI_add i 6) (by decide) rfl (fun ls hl => ?_)
        refine lv_goto (tgt := 18) hx hb dL_law_854 (by decide) ?_
        exact ih (i + 6) st' H locs ls (by omega) (by omega) h2 hP hD hS (lv_sub hl [1, 2, 3, 0] rfl)
      unfold lsAll at h1
      refine lv_aload_n hx hb dL_law_27 rfl (lv_at hl 0 rfl) ?_
      refine lv_iload_n hx hb dL_law_28 rfl (lv_at hl 3 rfl) ?_
      refine va_sld hx hb hX hbl hbA hS hv0 dL_law_29 ?_
      rw [e0]
      refine lv_bipush (v := 31) hx hb dL_law_30 (by decide) ?_
      refine lv_iand hx hb dL_law_32 ?_
      by_cases c0 : (xs i &&& 31) = 0
      · replace h1 := it_p c0 h1
        refine lv_tableIn (off := 119) (tgt := 152) hx hb dL_law_33 (by rw [c0]; decide) (by rw [c0]; decide) (by rw [c0]; rfl) (by decide) ?_
        rw [← e1, ← e2] at h1
        exact wL_0 hx hb hml hown hts hX hbl hbA hA hK hv1 hv2 h1 hP hD hS hl kk
      replace h1 := it_n c0 h1
      by_cases c1 : (xs i &&& 31) = 1
      · replace h1 := it_p c1 h1
        refine lv_tableIn (off := 152) (tgt := 185) hx hb dL_law_33 (by rw [c1]; decide) (by rw [c1]; decide) (by rw [c1]; rfl) (by decide) ?_
        rw [← e1, ← e2] at h1
        exact wL_1 hx hb hml hown hts hX hbl hbA hA hK hv1 hv2 h1 hP hD hS hl kk
      replace h1 := it_n c1 h1
      by_cases c2 : (xs i &&& 31) = 2
      · replace h1 := it_p c2 h1
        refine lv_tableIn (off := 185) (tgt := 218) hx hb dL_law_33 (by rw [c2]; decide) (by rw [c2]; decide) (by rw [c2]; rfl) (by decide) ?_
        rw [← e1] at h1
        exact wL_2 hx hb hml hown hts hX hbl hbA hA hK hv1 h1 hP hD hS hl kk
      replace h1 := it_n c2 h1
      by_cases c3 : (xs i &&& 31) = 3
      · replace h1 := it_p c3 h1
        refine lv_tableIn (off := 208) (tgt := 241) hx hb dL_law_33 (by rw [c3]; decide) (by rw [c3]; decide) (by rw [c3]; rfl) (by decide) ?_
        exact wL_3 hx hb hml hown hts hX hbl hbA hA hK  h1 hP hD hS hl kk
      replace h1 := it_n c3 h1
      by_cases c4 : (xs i &&& 31) = 4
      · replace h1 := it_p c4 h1
        refine lv_tableIn (off := 221) (tgt := 254) hx hb dL_law_33 (by rw [c4]; decide) (by rw [c4]; decide) (by rw [c4]; rfl) (by decide) ?_
        exact wL_4 hx hb hml hown hts hX hbl hbA hA hK  h1 hP hD hS hl kk
      replace h1 := it_n c4 h1
      by_cases c5 : (xs i &&& 31) = 5
      · replace h1 := it_p c5 h1
        refine lv_tableIn (off := 234) (tgt := 267) hx hb dL_law_33 (by rw [c5]; decide) (by rw [c5]; decide) (by rw [c5]; rfl) (by decide) ?_
        rw [← e1] at h1
        exact wL_5 hx hb hml hown hts hX hbl hbA hA hK hv1 h1 hP hD hS hl kk
      replace h1 := it_n c5 h1
      by_cases c6 : (xs i &&& 31) = 6
      · replace h1 := it_p c6 h1
        refine lv_tableIn (off := 257) (tgt := 290) hx hb dL_law_33 (by rw [c6]; decide) (by rw [c6]; decide) (by rw [c6]; rfl) (by decide) ?_
        exact wL_6 hx hb hml hown hts hX hbl hbA hA hK  h1 hP hD hS hl kk
      replace h1 := it_n c6 h1
      by_cases c7 : (xs i &&& 31) = 7
      · replace h1 := it_p c7 h1
        refine lv_tableIn (off := 270) (tgt := 303) hx hb dL_law_33 (by rw [c7]; decide) (by rw [c7]; decide) (by rw [c7]; rfl) (by decide) ?_
        rw [← e1, ← e2, ← e3] at h1
        exact wL_7 hx hb hml hown hts hX hbl hbA hA hK hv1 hv2 hv3 h1 hP hD hS hl kk
      replace h1 := it_n c7 h1
      by_cases c8 : (xs i &&& 31) = 8
      · replace h1 := it_p c8 h1
        refine lv_tableIn (off := 313) (tgt := 346) hx hb dL_law_33 (by rw [c8]; decide) (by rw [c8]; decide) (by rw [c8]; rfl) (by decide) ?_
        rw [← e1] at h1
        exact wL_8 hx hb hml hown hts hX hbl hbA hA hK hv1 h1 hP hD hS hl kk
      replace h1 := it_n c8 h1
      by_cases c9 : (xs i &&& 31) = 9
      · replace h1 := it_p c9 h1
        refine lv_tableIn (off := 336) (tgt := 369) hx hb dL_law_33 (by rw [c9]; decide) (by rw [c9]; decide) (by rw [c9]; rfl) (by decide) ?_
        rw [← e1, ← e2] at h1
        exact wL_9 hx hb hml hown hts hX hbl hbA hA hK hv1 hv2 h1 hP hD hS hl kk
      replace h1 := it_n c9 h1
      by_cases c10 : (xs i &&& 31) = 10
      · replace h1 := it_p c10 h1
        refine lv_tableIn (off := 369) (tgt := 402) hx hb dL_law_33 (by rw [c10]; decide) (by rw [c10]; decide) (by rw [c10]; rfl) (by decide) ?_
        rw [← e1, ← e2] at h1
        exact wL_10 hx hb hml hown hts hX hbl hbA hA hK hv1 hv2 h1 hP hD hS hl kk
      replace h1 := it_n c10 h1
      by_cases c11 : (xs i &&& 31) = 11
      · replace h1 := it_p c11 h1
        refine lv_tableIn (off := 402) (tgt := 435) hx hb dL_law_33 (by rw [c11]; decide) (by rw [c11]; decide) (by rw [c11]; rfl) (by decide) ?_
        exact wL_11 hx hb hml hown hts hX hbl hbA hA hK  h1 hP hD hS hl kk
      replace h1 := it_n c11 h1
      by_cases c12 : (xs i &&& 31) = 12
      · replace h1 := it_p c12 h1
        refine lv_tableIn (off := 415) (tgt := 448) hx hb dL_law_33 (by rw [c12]; decide) (by rw [c12]; decide) (by rw [c12]; rfl) (by decide) ?_
        rw [← e1] at h1
        exact wL_12 hx hb hml hown hts hX hbl hbA hA hK hv1 h1 hP hD hS hl kk
      replace h1 := it_n c12 h1
      by_cases c13 : (xs i &&& 31) = 13
      · replace h1 := it_p c13 h1
        refine lv_tableIn (off := 438) (tgt := 471) hx hb dL_law_33 (by rw [c13]; decide) (by rw [c13]; decide) (by rw [c13]; rfl) (by decide) ?_
        rw [← e1, ← e2] at h1
        exact wL_13 hx hb hml hown hts hX hbl hbA hA hK hv1 hv2 h1 hP hD hS hl kk
      replace h1 := it_n c13 h1
      by_cases c14 : (xs i &&& 31) = 14
      · replace h1 := it_p c14 h1
        refine lv_tableIn (off := 471) (tgt := 504) hx hb dL_law_33 (by rw [c14]; decide) (by rw [c14]; decide) (by rw [c14]; rfl) (by decide) ?_
        exact wL_14 hx hb hml hown hts hX hbl hbA hA hK  h1 hP hD hS hl kk
      replace h1 := it_n c14 h1
      by_cases c15 : (xs i &&& 31) = 15
      · replace h1 := it_p c15 h1
        refine lv_tableIn (off := 484) (tgt := 517) hx hb dL_law_33 (by rw [c15]; decide) (by rw [c15]; decide) (by rw [c15]; rfl) (by decide) ?_
        rw [← e1] at h1
        exact wL_15 hx hb hml hown hts hX hbl hbA hA hK hv1 h1 hP hD hS hl kk
      replace h1 := it_n c15 h1
      by_cases c16 : (xs i &&& 31) = 16
      · replace h1 := it_p c16 h1
        refine lv_tableIn (off := 507) (tgt := 540) hx hb dL_law_33 (by rw [c16]; decide) (by rw [c16]; decide) (by rw [c16]; rfl) (by decide) ?_
        exact wL_16 hx hb hml hown hts hX hbl hbA hA hK  h1 hP hD hS hl kk
      replace h1 := it_n c16 h1
      by_cases c17 : (xs i &&& 31) = 17
      · replace h1 := it_p c17 h1
        refine lv_tableIn (off := 520) (tgt := 553) hx hb dL_law_33 (by rw [c17]; decide) (by rw [c17]; decide) (by rw [c17]; rfl) (by decide) ?_
        rw [← e1] at h1
        exact wL_17 hx hb hml hown hts hX hbl hbA hA hK hv1 h1 hP hD hS hl kk
      replace h1 := it_n c17 h1
      by_cases c18 : (xs i &&& 31) = 18
      · replace h1 := it_p c18 h1
        refine lv_tableIn (off := 543) (tgt := 576) hx hb dL_law_33 (by rw [c18]; decide) (by rw [c18]; decide) (by rw [c18]; rfl) (by decide) ?_
        rw [← e1] at h1
        exact wL_18 hx hb hml hown hts hX hbl hbA hA hK hv1 h1 hP hD hS hl kk
      replace h1 := it_n c18 h1
      by_cases c19 : (xs i &&& 31) = 19
      · replace h1 := it_p c19 h1
        refine lv_tableIn (off := 566) (tgt := 599) hx hb dL_law_33 (by rw [c19]; decide) (by rw [c19]; decide) (by rw [c19]; rfl) (by decide) ?_
        rw [← e1, ← e2, ← e3] at h1
        exact wL_19 hx hb hml hown hts hX hbl hbA hA hK hv1 hv2 hv3 h1 hP hD hS hl kk
      replace h1 := it_n c19 h1
      by_cases c20 : (xs i &&& 31) = 20
      · replace h1 := it_p c20 h1
        refine lv_tableIn (off := 609) (tgt := 642) hx hb dL_law_33 (by rw [c20]; decide) (by rw [c20]; decide) (by rw [c20]; rfl) (by decide) ?_
        rw [← e1, ← e2] at h1
        exact wL_20 hx hb hml hown hts hX hbl hbA hA hK hv1 hv2 h1 hP hD hS hl kk
      replace h1 := it_n c20 h1
      by_cases c21 : (xs i &&& 31) = 21
      · replace h1 := it_p c21 h1
        refine lv_tableIn (off := 642) (tgt := 675) hx hb dL_law_33 (by rw [c21]; decide) (by rw [c21]; decide) (by rw [c21]; rfl) (by decide) ?_
        rw [← e1, ← e2, ← e3, ← e4, ← e5] at h1
        exact wL_21 hx hb hml hown hts hX hbl hbA hA hK hv1 hv2 hv3 hv4 hv5 h1 hP hD hS hl kk
      replace h1 := it_n c21 h1
      by_cases c22 : (xs i &&& 31) = 22
      · replace h1 := it_p c22 h1
        refine lv_tableIn (off := 706) (tgt := 739) hx hb dL_law_33 (by rw [c22]; decide) (by rw [c22]; decide) (by rw [c22]; rfl) (by decide) ?_
        rw [← e1, ← e2, ← e3] at h1
        exact wL_22 hx hb hml hown hts hX hbl hbA hA hK hv1 hv2 hv3 h1 hP hD hS hl kk
      replace h1 := it_n c22 h1
      by_cases c23 : (xs i &&& 31) = 23
      · replace h1 := it_p c23 h1
        refine lv_tableIn (off := 749) (tgt := 782) hx hb dL_law_33 (by rw [c23]; decide) (by rw [c23]; decide) (by rw [c23]; rfl) (by decide) ?_
        rw [← e1] at h1
        exact wL_23 hx hb hml hown hts hX hbl hbA hA hK hv1 h1 hP hD hS hl kk
      replace h1 := it_n c23 h1
      by_cases c24 : (xs i &&& 31) = 24
      · replace h1 := it_p c24 h1
        refine lv_tableIn (off := 772) (tgt := 805) hx hb dL_law_33 (by rw [c24]; decide) (by rw [c24]; decide) (by rw [c24]; rfl) (by decide) ?_
        rw [← e1] at h1
        exact wL_24 hx hb hml hown hts hX hbl hbA hA hK hv1 h1 hP hD hS hl kk
      replace h1 := it_n c24 h1
      by_cases c25 : (xs i &&& 31) = 25
      · replace h1 := it_p c25 h1
        refine lv_tableIn (off := 795) (tgt := 828) hx hb dL_law_33 (by rw [c25]; decide) (by rw [c25]; decide) (by rw [c25]; rfl) (by decide) ?_
        rw [← e1] at h1
        exact wL_25 hx hb hml hown hts hX hbl hbA hA hK hv1 h1 hP hD hS hl kk
      replace h1 := it_n c25 h1
      refine lv_tableOut (tgt := 851) hx hb dL_law_33 (sw_out25 c0 c1 c2 c3 c4 c5 c6 c7 c8 c9 c10 c11 c12 c13 c14 c15 c16 c17 c18 c19 c20 c21 c22 c23 c24 c25) (by decide) ?_
      cases h1
      exact kk H locs hP hD hS
set_option maxHeartbeats 8000000 in
set_option maxRecDepth 100000 in
/-- THE LAW from its entry, where the pure law goes through -/
theorem whole_pure {p : Program} {e : Env} {s : State} {m : MethodId} {below : List Frame} {meth : Method} {c : Code} (l : Launch) {b L : Nat} {xs : Nat → Int32} (hL : L ≤ 3072) (C0 : lw_At p s m meth c b L xs) {p0 fz : AI} (hf : f_J7_fill_53178 6 (fun _ => 0) 20 = some p0) (hz : lpx st_X4init ((fun _ => (0 : Int32)), 0) = some fz) (hok : lawOk xs 512 0 (ls0 p0 fz)) : W p l e room_1 s m #[Value.ref b] below meth c s.heap [] 0 0 (lw_Z below #[Value.ref b] s) (entryFrame m ([Value.ref b] : List Value).toArray 4) := by
  obtain ⟨hx, hb, hr, hml, hown, hts, hX, hbl, hlocks, hgv⟩ := id C0
  have hown : s.vm.findClass RL = some m.cls := hown
  have hA : ∀ q : Nat, s.heap.size ≤ q → (fun q : Nat => s.heap.size ≤ q) q := fun _ h => h
  obtain ⟨c0, iS0, hKn0⟩ := u_known (C := RX0) (T := TX0) (N := 10) (n := 10) hts (fun w h => (lwf_0 w h).1) (hts (.instantiable RX0 10) gw_13.1)
  obtain ⟨c1, iS1, hKn1⟩ := u_known (C := RX1) (T := TX1) (N := 10) (n := 10) hts (fun w h => (lwf_1 w h).1) (hts (.instantiable RX1 10) gw_9.1)
  obtain ⟨c2, iS2, hKn2⟩ := u_known (C := RX2) (T := TX2) (N := 11) (n := 11) hts (fun w h => (lwf_2 w h).1) (hts (.instantiable RX2 11) gw_20.1)
  obtain ⟨c3, iS3, hKn3⟩ := u_known (C := RX3) (T := TX3) (N := 8) (n := 8) hts (fun w h => (lwf_3 w h).1) (hts (.instantiable RX3 8) gw_712.1)
  obtain ⟨c4, iS4, hKn4⟩ := u_known (C := RX4) (T := TX4) (N := 21) (n := 21) hts (fun w h => (lwf_4 w h).1) (hts (.instantiable RX4 21) gw_714.1)
  obtain ⟨aC, kC, mC, nC1, nC2, nC3⟩ := Cond.arrayClass_spec (hts (.arrayClass .char) gw_27.1)
  obtain ⟨aI, kI, mI, nI1, nI2, nI3⟩ := Cond.arrayClass_spec (hts (.arrayClass .int) gw_47.1)
  obtain ⟨aJ, kJ, mJ, nJ1, nJ2, nJ3⟩ := Cond.arrayClass_spec (hts (.arrayClass .long) gw_6.1)
  obtain ⟨aZ, kZ, mZ, nZ1, nZ2, nZ3⟩ := Cond.arrayClass_spec (hts (.arrayClass .boolean) gw_75.1)
  obtain ⟨D, cy, hK⟩ : ∃ (D : va_G) (cy : Nat → ClassId), kK D cy s := by
    refine ⟨(fun k => match k with | 0 => c0 | 1 => c1 | 2 => c2 | 3 => c3 | _ => c4, fun k => match k with | 0 => iS0 | 1 => iS1 | 2 => iS2 | 3 => iS3 | _ => iS4), fun k => match k with | 0 => aC | 1 => aI | 2 => aJ | _ => aZ, ⟨fun k q hq => ?_, fun k q hq => ?_⟩, ⟨fun w hw => ?_, fun w hw => ?_⟩⟩
    · match k, hq with
      | 0, hq => cases hq; exact hKn0
      | 1, hq => cases hq; exact hKn1
      | 2, hq => cases hq; exact hKn2
      | 3, hq => cases hq; exact hKn3
      | 4, hq => cases hq; exact hKn4
      | k + 5, hq => simp [vwCl] at hq
    · match k, hq with
      | 0, hq => cases hq; exact ⟨fun n z => ⟨fun k h => (by cases h), kC, nC2, mC, nC3⟩, nC1⟩
      | 1, hq => cases hq; exact ⟨fun n z => ⟨fun k h => (by cases h), kI, nI2, mI, nI3⟩, nI1⟩
      | 2, hq => cases hq; exact ⟨fun n z => ⟨fun k h => (by cases h), kJ, nJ2, mJ, nJ3⟩, nJ1⟩
      | 3, hq => cases hq; exact ⟨fun n z => ⟨fun k h => (by cases h), kZ, nZ2, mZ, nZ3⟩, nZ1⟩
      | k + 4, hq => simp [kT] at hq
    · simp only [nwF, List.mem_cons, List.not_mem_nil, or_false] at hw
      rcases hw with rfl | rfl | rfl | rfl | rfl | rfl | rfl | rfl
      · exact va_Nw.of rfl (hts _ nw_123)
      · exact va_Nw.of rfl (hts _ nw_211)
      · exact va_Nw.of rfl (hts _ nw_63)
      · exact va_Nw.of rfl (hts _ nw_66)
      · exact va_Nw.of rfl (hts _ nw_73)
      · exact va_Nw.of rfl (hts _ nw_97)
      · exact va_Nw.of rfl (hts _ nw_83)
      · exact va_Nw.of rfl (hts _ nw_90)
    · simp only [nwM, List.mem_cons, List.not_mem_nil, or_false] at hw
      rcases hw with rfl | rfl | rfl | rfl | rfl
      · exact va_Nw.of rfl (hts _ nwm_RX2_58)
      · exact va_Nw.of rfl (hts _ nwm_RX2_94)
      · exact va_Nw.of rfl (hts _ nwm_RX0_72)
      · exact va_Nw.of rfl (hts _ nwm_RX1_57)
      · exact va_Nw.of rfl (hts _ nwm_RX1_71)
  have hS : va_S (fun q : Nat => s.heap.size ≤ q) s.heap s.heap [] := va_S.rf
  have hP : va_P D vwCl [] s.heap := fun k q h => by simp at h
  have hD : va_D (fun q : Nat => s.heap.size ≤ q) [] := ⟨fun i j p q h => by simp at h, fun k q h => by simp at h⟩
  have hl := lv_entry ([.ref b]) (n := 4) (Nat.le_of_ble_eq_true rfl)
  rw [lg_entry_eq]
  generalize (lg_sl ([.ref b]) ++ List.replicate (4 - (lg_sl ([.ref b])).length) Slot.unset).toArray = ls at hl ⊢
  have hl : lv_has ls 4 [(0, .ref b)] := hl
  refine va_new (ci := 3) (fs := [.null, .null, .null, .null, .null, .null, .null, .int 0]) (C := RX3) (T := TX3) (N := 8) hx hb hts (fun w h => (lwf_3 w h).1) tyX3 tyX3_ok hown (hts (.classLink RL 7 RX3) gw_711.1) (hts (.instantiable RX3 8) gw_712.1) (hts (.initialized RX3) gw_101.1) hK.1 hP hD hS hA rfl (fun j hj => by rcases (show j = 0 ∨ j = 1 ∨ j = 2 ∨ j = 3 ∨ j = 4 ∨ j = 5 ∨ j = 6 ∨ j = 7 by omega) with rfl | rfl | rfl | rfl | rfl | rfl | rfl | rfl <;> rfl) (Nat.le_of_ble_eq_true rfl) (Nat.le_of_ble_eq_true rfl) dL_law_0 (fun q0 H hP hD hS => ?_)
  have hP : va_P D vwCl [(q0, .inr (3, [.null, .null, .null, .null, .null, .null, .null, .int 0]))] H := hP
  have hD : va_D (fun q : Nat => s.heap.size ≤ q) [(q0, .inr (3, [.null, .null, .null, .null, .null, .null, .null, .int 0]))] := hD
  refine W.widen (k := 1) (n := 8) (Nat.le_of_ble_eq_true rfl) (Nat.le_of_ble_eq_true rfl) ?_
  refine lv_dup hx hb dL_law_3 rfl ?_
  have hFc := va_free (wc := [(q0, .inr (3, [.null, .null, .null, .null, .null, .null, .null, .int 0]))]) hD hS hA [0] rfl
  have hpc := kpre (av := [.ref q0]) hK hP hD
  refine va_callv (va_runI (As := []) (rest := [.ref q0]) ⟨hx, hb, hml, hown, hts⟩ (c_X3_init q0 hf H.size) (cwI 0 hts gT_X3_init rfl rfl rfl (hts (.initialized RX3) gw_101.1) (hts (.methodLink RL 9 yX3_init) gw_715.1) (hts (.instanceMethod yX3_init) gw_716.1) rfl eX3_init ⟨Nat.le_of_ble_eq_true rfl, Nat.le_of_ble_eq_true rfl⟩) hpc rfl rfl hl.1 rfl (lv_room (Nat.le_of_ble_eq_true rfl)) dL_law_4 ⟨Nat.le_of_ble_eq_true rfl, Nat.le_of_ble_eq_true rfl⟩) hS (fun q _ h => hFc q h) hFc (fun u t H1 locs ht hvm hw hB hz1 hk1 hS => ?_)
  obtain ⟨b1, b2, b3, b4, b5, b6, q7, hP1, hD1⟩ := hB
  rw [ht] at hP1
  obtain ⟨hP, hD⟩ := va_join (wr := []) (w1 := (wX q0 (b1 0) (b2 0) (b3 0) (b4 0) (b5 0) (b6 0) q7 (0 : Int32) (wV cy b1 (p0, (fun _ => (0 : Int32)), (fun _ => (0 : Int32)), (fun _ => (0 : Int32)), (fun _ => (0 : Int32)), (fun _ => (0 : Int32)), (fun _ => (0 : Int32)), (0 : Int32), (0 : Int32), (0 : Int32), (0 : Int32)) (wV cy b2 (p0, (fun _ => (0 : Int32)), (fun _ => (0 : Int32)), (fun _ => (0 : Int32)), (fun _ => (0 : Int32)), (fun _ => (0 : Int32)), (fun _ => (0 : Int32)), (0 : Int32), (0 : Int32), (0 : Int32), (0 : Int32)) (wV cy b3 (p0, (fun _ => (0 : Int32)), (fun _ => (0 : Int32)), (fun _ => (0 : Int32)), (fun _ => (0 : Int32)), (fun _ => (0 : Int32)), (fun _ => (0 : Int32)), (0 : Int32), (0 : Int32), (0 : Int32), (0 : Int32)) (wV cy b4 (p0, (fun _ => (0 : Int32)), (fun _ => (0 : Int32)), (fun _ => (0 : Int32)), (fun _ => (0 : Int32)), (fun _ => (0 : Int32)), (fun _ => (0 : Int32)), (0 : Int32), (0 : Int32), (0 : Int32), (0 : Int32)) (wD cy b5 ((fun _ => (0 : Int32)), (fun _ => (0 : Int32)), (fun _ => (0 : Int32)), (fun _ => (0 : Int32)), (fun _ => (0 : Int32)), (fun _ => (0 : Int32)), (0 : Int32), (0 : Int32), (0 : Int32), (0 : Int32)) (wY cy b6 ((fun _ => (0 : Int32)), (fun _ => (0 : Int32)), (fun _ => (0 : Int32)), (fun _ => (0 : Int32)), (fun _ => (0 : Int32)), (fun _ => (0 : Int32)), (fun _ => (0 : Int32)), (fun _ => (0 : Int32)), (fun _ => (0 : Int64)), (0 : Int32)) (wS cy q7 (fun _ => (0 : Int64)) []))))))))) hP hD [0] [] rfl rfl (by decide) (by decide) hk1 hFc hP1 hD1
  generalize H1 = H at hP hS ⊢
  have hP : va_P D vwCl (wX q0 (b1 0) (b2 0) (b3 0) (b4 0) (b5 0) (b6 0) q7 (0 : Int32) (wV cy b1 (p0, (fun _ => (0 : Int32)), (fun _ => (0 : Int32)), (fun _ => (0 : Int32)), (fun _ => (0 : Int32)), (fun _ => (0 : Int32)), (fun _ => (0 : Int32)), (0 : Int32), (0 : Int32), (0 : Int32), (0 : Int32)) (wV cy b2 (p0, (fun _ => (0 : Int32)), (fun _ => (0 : Int32)), (fun _ => (0 : Int32)), (fun _ => (0 : Int32)), (fun _ => (0 : Int32)), (fun _ => (0 : Int32)), (0 : Int32), (0 : Int32), (0 : Int32), (0 : Int32)) (wV cy b3 (p0, (fun _ => (0 : Int32)), (fun _ => (0 : Int32)), (fun _ => (0 : Int32)), (fun _ => (0 : Int32)), (fun _ => (0 : Int32)), (fun _ => (0 : Int32)), (0 : Int32), (0 : Int32), (0 : Int32), (0 : Int32)) (wV cy b4 (p0, (fun _ => (0 : Int32)), (fun _ => (0 : Int32)), (fun _ => (0 : Int32)), (fun _ => (0 : Int32)), (fun _ => (0 : Int32)), (fun _ => (0 : Int32)), (0 : Int32), (0 : Int32), (0 : Int32), (0 : Int32)) (wD cy b5 ((fun _ => (0 : Int32)), (fun _ => (0 : Int32)), (fun _ => (0 : Int32)), (fun _ => (0 : Int32)), (fun _ => (0 : Int32)), (fun _ => (0 : Int32)), (0 : Int32), (0 : Int32), (0 : Int32), (0 : Int32)) (wY cy b6 ((fun _ => (0 : Int32)), (fun _ => (0 : Int32)), (fun _ => (0 : Int32)), (fun _ => (0 : Int32)), (fun _ => (0 : Int32)), (fun _ => (0 : Int32)), (fun _ => (0 : Int32)), (fun _ => (0 : Int32)), (fun _ => (0 : Int64)), (0 : Int32)) (wS cy q7 (fun _ => (0 : Int64)) [])))))))) H := hP
  have hD : va_D (fun q : Nat => s.heap.size ≤ q) (wX q0 (b1 0) (b2 0) (b3 0) (b4 0) (b5 0) (b6 0) q7 (0 : Int32) (wV cy b1 (p0, (fun _ => (0 : Int32)), (fun _ => (0 : Int32)), (fun _ => (0 : Int32)), (fun _ => (0 : Int32)), (fun _ => (0 : Int32)), (fun _ => (0 : Int32)), (0 : Int32), (0 : Int32), (0 : Int32), (0 : Int32)) (wV cy b2 (p0, (fun _ => (0 : Int32)), (fun _ => (0 : Int32)), (fun _ => (0 : Int32)), (fun _ => (0 : Int32)), (fun _ => (0 : Int32)), (fun _ => (0 : Int32)), (0 : Int32), (0 : Int32), (0 : Int32), (0 : Int32)) (wV cy b3 (p0, (fun _ => (0 : Int32)), (fun _ => (0 : Int32)), (fun _ => (0 : Int32)), (fun _ => (0 : Int32)), (fun _ => (0 : Int32)), (fun _ => (0 : Int32)), (0 : Int32), (0 : Int32), (0 : Int32), (0 : Int32)) (wV cy b4 (p0, (fun _ => (0 : Int32)), (fun _ => (0 : Int32)), (fun _ => (0 : Int32)), (fun _ => (0 : Int32)), (fun _ => (0 : Int32)), (fun _ => (0 : Int32)), (0 : Int32), (0 : Int32), (0 : Int32), (0 : Int32)) (wD cy b5 ((fun _ => (0 : Int32)), (fun _ => (0 : Int32)), (fun _ => (0 : Int32)), (fun _ => (0 : Int32)), (fun _ => (0 : Int32)), (fun _ => (0 : Int32)), (0 : Int32), (0 : Int32), (0 : Int32), (0 : Int32)) (wY cy b6 ((fun _ => (0 : Int32)), (fun _ => (0 : Int32)), (fun _ => (0 : Int32)), (fun _ => (0 : Int32)), (fun _ => (0 : Int32)), (fun _ => (0 : Int32)), (fun _ => (0 : Int32)), (fun _ => (0 : Int32)), (fun _ => (0 : Int64)), (0 : Int32)) (wS cy q7 (fun _ => (0 : Int64)) [])))))))) := hD
  refine W.widen (k := 51) (n := 1669) (Nat.le_of_ble_eq_true rfl) (Nat.le_of_ble_eq_true rfl) ?_
  refine lv_astore_n (lv' := [(1, .ref q0), (0, .ref b)]) hx hb dL_law_7 rfl hl (by decide) rfl (fun ls hl => ?_)
  refine va_new (ci := 4) (fs := [.int 0, .int 0, .int 0, .null, .null, .null, .int 0, .null, .int 0, .null, .int 0, .null, .null, .null, .int 0, .int 0, .null, .null, .null, .null, .null]) (C := RX4) (T := TX4) (N := 21) hx hb hts (fun w h => (lwf_4 w h).1) tyX4 tyX4_ok hown (hts (.classLink RL 10 RX4) gw_713.1) (hts (.instantiable RX4 21) gw_714.1) (hts (.initialized RX4) gw_112.1) hK.1 hP hD hS hA rfl (fun j hj => by rcases (show j = 0 ∨ j = 1 ∨ j = 2 ∨ j = 3 ∨ j = 4 ∨ j = 5 ∨ j = 6 ∨ j = 7 ∨ j = 8 ∨ j = 9 ∨ j = 10 ∨ j = 11 ∨ j = 12 ∨ j = 13 ∨ j = 14 ∨ j = 15 ∨ j = 16 ∨ j = 17 ∨ j = 18 ∨ j = 19 ∨ j = 20 by omega) with rfl | rfl | rfl | rfl | rfl | rfl | rfl | rfl | rfl | rfl | rfl | rfl | rfl | rfl | rfl | rfl | rfl | rfl | rfl | rfl | rfl <;> rfl) (Nat.le_of_ble_eq_true rfl) (Nat.le_of_ble_eq_true rfl) dL_law_8 (fun q8 H hP hD hS => ?_)
  refine W.widen (k := 52) (n := 1690) (Nat.le_of_ble_eq_true rfl) (Nat.le_of_ble_eq_true rfl) ?_
  refine lv_dup hx hb dL_law_11 rfl ?_
  have hPc := hP.sub (ws' := [(q8, .inr (4, [.int 0, .int 0, .int 0, .null, .null, .null, .int 0, .null, .int 0, .null, .int 0, .null, .null, .null, .int 0, .int 0, .null, .null, .null, .null, .null]))]) [51] rfl
  have hDc := hD.sub (ws' := [(q8, .inr (4, [.int 0, .int 0, .int 0, .null, .null, .null, .int 0, .null, .int 0, .null, .int 0, .null, .null, .null, .int 0, .int 0, .null, .null, .null, .null, .null]))]) [51] (by decide) rfl
  have hFc := va_free (wc := [(q8, .inr (4, [.int 0, .int 0, .int 0, .null, .null, .null, .int 0, .null, .int 0, .null, .int 0, .null, .null, .null, .int 0, .int 0, .null, .null, .null, .null, .null]))]) hD hS hA [51] rfl
  have hpc := kpre (av := [.ref q8]) hK hPc hDc
  refine va_callv (va_runI (As := []) (rest := [.ref q8]) ⟨hx, hb, hml, hown, hts⟩ (c_X4_init q8 hz H.size) (cwI 0 hts gT_X4_init rfl rfl rfl (hts (.initialized RX4) gw_112.1) (hts (.methodLink RL 12 yX4_init) gw_717.1) (hts (.instanceMethod yX4_init) gw_718.1) rfl eX4_init ⟨Nat.le_of_ble_eq_true rfl, Nat.le_of_ble_eq_true rfl⟩) hpc rfl rfl hl.1 rfl (lv_room (Nat.le_of_ble_eq_true rfl)) dL_law_12 ⟨Nat.le_of_ble_eq_true rfl, Nat.le_of_ble_eq_true rfl⟩) hS (fun q _ h => hFc q h) hFc (fun u t H1 locs ht hvm hw hB hz1 hk1 hS => ?_)
  obtain ⟨b8, hb8, hP1, hD1⟩ := hB
  rw [ht] at hP1
  subst hb8
  obtain ⟨hP, hD⟩ := va_join (wr := (wX q0 (b1 0) (b2 0) (b3 0) (b4 0) (b5 0) (b6 0) q7 (0 : Int32) (wV cy b1 (p0, (fun _ => (0 : Int32)), (fun _ => (0 : Int32)), (fun _ => (0 : Int32)), (fun _ => (0 : Int32)), (fun _ => (0 : Int32)), (fun _ => (0 : Int32)), (0 : Int32), (0 : Int32), (0 : Int32), (0 : Int32)) (wV cy b2 (p0, (fun _ => (0 : Int32)), (fun _ => (0 : Int32)), (fun _ => (0 : Int32)), (fun _ => (0 : Int32)), (fun _ => (0 : Int32)), (fun _ => (0 : Int32)), (0 : Int32), (0 : Int32), (0 : Int32), (0 : Int32)) (wV cy b3 (p0, (fun _ => (0 : Int32)), (fun _ => (0 : Int32)), (fun _ => (0 : Int32)), (fun _ => (0 : Int32)), (fun _ => (0 : Int32)), (fun _ => (0 : Int32)), (0 : Int32), (0 : Int32), (0 : Int32), (0 : Int32)) (wV cy b4 (p0, (fun _ => (0 : Int32)), (fun _ => (0 : Int32)), (fun _ => (0 : Int32)), (fun _ => (0 : Int32)), (fun _ => (0 : Int32)), (fun _ => (0 : Int32)), (0 : Int32), (0 : Int32), (0 : Int32), (0 : Int32)) (wD cy b5 ((fun _ => (0 : Int32)), (fun _ => (0 : Int32)), (fun _ => (0 : Int32)), (fun _ => (0 : Int32)), (fun _ => (0 : Int32)), (fun _ => (0 : Int32)), (0 : Int32), (0 : Int32), (0 : Int32), (0 : Int32)) (wY cy b6 ((fun _ => (0 : Int32)), (fun _ => (0 : Int32)), (fun _ => (0 : Int32)), (fun _ => (0 : Int32)), (fun _ => (0 : Int32)), (fun _ => (0 : Int32)), (fun _ => (0 : Int32)), (fun _ => (0 : Int32)), (fun _ => (0 : Int64)), (0 : Int32)) (wS cy q7 (fun _ => (0 : Int64)) []))))))))) (w1 := (wM cy b8 ((0 : Int32), (0 : Int32), (0 : Int32), fz, (fun _ => (0 : Int32)), (fun _ => (0 : Int32)), (0 : Int32), (fun _ => (0 : Int32)), (0 : Int32), (fun _ => (0 : Int32)), (0 : Int32), (fun _ => (0 : Int32)), (fun _ => (0 : Int32)), (fun _ => (0 : Int32)), (0 : Int32), (0 : Int32), (fun _ => (0 : Int32)), (fun _ => (0 : Int32)), (fun _ => (0 : Int32)), (fun _ => (0 : Int32)), (fun _ => (0 : Int32))) [])) hP hD [51] [0, 1, 2, 3, 4, 5, 6, 7, 8, 9, 10, 11, 12, 13, 14, 15, 16, 17, 18, 19, 20, 21, 22, 23, 24, 25, 26, 27, 28, 29, 30, 31, 32, 33, 34, 35, 36, 37, 38, 39, 40, 41, 42, 43, 44, 45, 46, 47, 48, 49, 50] rfl rfl (by decide) (by decide) hk1 hFc hP1 hD1
  generalize H1 = H at hP hS ⊢
  have hP2 : va_P D vwCl (fl (lB cy q0 b1 b2 b3 b4 b5 b6 q7 b8 (ls0 p0 fz))) H := hP
  have hD2 : va_D (fun q : Nat => s.heap.size ≤ q) (fl (lB cy q0 b1 b2 b3 b4 b5 b6 q7 b8 (ls0 p0 fz))) := hD
  refine W.widen (k := 65) (n := 48897) (Nat.le_of_ble_eq_true rfl) (Nat.le_of_ble_eq_true rfl) ?_
  refine lv_astore_n (lv' := [(2, .ref (b8 0)), (1, .ref q0), (0, .ref b)]) hx hb dL_law_15 rfl hl (by decide) rfl (fun ls hl => ?_)
  refine lv_iconst (v := 0) hx hb dL_law_16 (by decide) ?_
  refine lv_istore_n (lv' := [(3, .int (nI 0)), (2, .ref (b8 0)), (1, .ref q0), (0, .ref b)]) hx hb dL_law_17 rfl hl (by decide) rfl (fun ls hl => ?_)
  exact law_loop hL C0 hK 512 0 (ls0 p0 fz) _ _ _ (by omega) (by omega) hok (va_P_fl.mp hP2) (dB_of hD2) hS (lv_sub hl [3, 2, 1, 0] rfl)
