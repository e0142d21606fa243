/-! a world of blocks: calls that take some of them -/
theorem va_P_mem {D : va_G} {cl : List vw_C} {ws : va_W} {H : Heap} : va_P D cl ws H ↔ ∀ q ∈ ws, va_at D cl q H :=
  ⟨fun h q hq => by obtain ⟨k, hk⟩ := List.mem_iff_getElem?.mp hq; exact h k q hk, fun h k q hk => h q (List.mem_of_getElem? hk)⟩
def fl (bs : List va_W) : va_W := bs.flatten
theorem va_P_fl {D : va_G} {cl : List vw_C} {bs : List va_W} {H : Heap} : va_P D cl (fl bs) H ↔ ∀ b ∈ bs, va_P D cl b H := by
  rw [va_P_mem]
  constructor
  · intro h b hb
    rw [va_P_mem]
    intro q hq
    exact h q (List.mem_flatten.mpr ⟨b, hb, hq⟩)
  · intro h q hq
    obtain ⟨b, hb, hq⟩ := List.mem_flatten.mp hq
    exact va_P_mem.mp (h b hb) q hq
def dB (A : Nat → Prop) (bs : List va_W) : Prop := (∀ b ∈ bs, va_D A b) ∧ ∀ (i j : Nat) (b b' : va_W), bs[i]? = some b → bs[j]? = some b' → i ≠ j → ∀ x ∈ b, ∀ y ∈ b', x.1 ≠ y.1
theorem dB_fl {A : Nat → Prop} : ∀ {bs : List va_W}, dB A bs → va_D A (fl bs)
  | [], _ => ⟨fun i j p q h => by simp [fl] at h, fun k q h => by simp [fl] at h⟩
  | b :: bs, h => by
    have ht : dB A bs := ⟨fun x hx => h.1 x (List.mem_cons_of_mem _ hx), fun i j x y hi hj hij => h.2 (i + 1) (j + 1) x y (by rw [List.getElem?_cons_succ]; exact hi) (by rw [List.getElem?_cons_succ]; exact hj) (by omega)⟩
    refine va_D.app (w1 := b) (h.1 b List.mem_cons_self) (dB_fl ht) (fun i j x y hx hy => ?_)
    obtain ⟨b', hb', hyb⟩ := List.mem_flatten.mp (List.mem_of_getElem? hy)
    obtain ⟨k, hk⟩ := List.mem_iff_getElem?.mp hb'
    exact h.2 0 (k + 1) b b' rfl (by rw [List.getElem?_cons_succ]; exact hk) (by omega) x (List.mem_of_getElem? hx) y hyb
theorem lk_at {α : Type} {bs bc : List α} {is : List Nat} (hs : is.map (fun i => bs[i]?) = bc.map some) {k : Nat} {b : α} (hk : bc[k]? = some b) : ∃ i : Nat, is[k]? = some i ∧ bs[i]? = some b := by
  have h1 : (is.map (fun i => bs[i]?))[k]? = some (some b) := by rw [hs, List.getElem?_map, hk]; rfl
  rw [List.getElem?_map] at h1
  cases hi : is[k]? with
  | none => rw [hi] at h1; cases h1
  | some i => rw [hi] at h1; exact ⟨i, rfl, Option.some.inj h1⟩
theorem lk_to {α : Type} {bs bc : List α} {is : List Nat} (hs : is.map (fun i => bs[i]?) = bc.map some) {i : Nat} {b : α} (hi : i ∈ is) (hb : bs[i]? = some b) : ∃ j : Nat, is[j]? = some i ∧ bc[j]? = some b := by
  obtain ⟨j, hj⟩ := List.mem_iff_getElem?.mp hi
  refine ⟨j, hj, ?_⟩
  have h1 : (bc.map some)[j]? = some (some b) := by rw [← hs, List.getElem?_map, hj, ← hb]; rfl
  rw [List.getElem?_map] at h1
  cases h2 : bc[j]? with
  | none => rw [h2] at h1; cases h1
  | some x => rw [h2] at h1; exact congrArg some (Option.some.inj (Option.some.inj h1))
theorem dB.sub {A : Nat → Prop} {bs bc : List va_W} (h : dB A bs) (is : List Nat) (hn : va_nd is = true) (hs : is.map (fun i => bs[i]?) = bc.map some) : dB A bc := by
  refine ⟨fun b hb => ?_, fun i j b b' hi hj hij => ?_⟩
  · obtain ⟨k, hk⟩ := List.mem_iff_getElem?.mp hb
    obtain ⟨i, -, h2⟩ := lk_at hs hk
    exact h.1 b (List.mem_of_getElem? h2)
  · obtain ⟨i', a1, a2⟩ := lk_at hs hi
    obtain ⟨j', b1, b2⟩ := lk_at hs hj
    refine h.2 i' j' b b' a2 b2 (fun e => hij ?_)
    subst e
    exact va_nd_inj is hn i j i' a1 b1
def sameA : List va_W → List va_W → Prop
  | [], [] => True
  | b :: bs, b' :: bs' => b'.map Prod.fst = b.map Prod.fst ∧ sameA bs bs'
  | _, _ => False
theorem sameA.at : ∀ {bs bs' : List va_W}, sameA bs bs' → ∀ {i : Nat} {b' : va_W}, bs'[i]? = some b' → ∃ b, bs[i]? = some b ∧ b'.map Prod.fst = b.map Prod.fst
  | [], [], _, i, b', h => by simp at h
  | b :: bs, c :: bs', h, 0, b', hi => ⟨b, rfl, by cases hi; exact h.1⟩
  | b :: bs, c :: bs', h, i + 1, b', hi => by
    rw [List.getElem?_cons_succ] at hi ⊢
    exact sameA.at h.2 hi
  | [], _ :: _, h, _, _, _ => h.elim
  | _ :: _, [], h, _, _, _ => h.elim
theorem mem_ad {b b' : va_W} (e : b'.map Prod.fst = b.map Prod.fst) {x : Nat × va_E} (hx : x ∈ b') : ∃ y ∈ b, y.1 = x.1 := by
  have h : x.1 ∈ b.map Prod.fst := by rw [← e]; exact List.mem_map.mpr ⟨x, hx, rfl⟩
  obtain ⟨y, hy, hyx⟩ := List.mem_map.mp h
  exact ⟨y, hy, hyx⟩
theorem dB.like {A : Nat → Prop} {bs bs' : List va_W} (h : dB A bs) (e : sameA bs bs') : dB A bs' := by
  refine ⟨fun b' hb' => ?_, fun i j x y hi hj hij p hp q hq => ?_⟩
  · obtain ⟨k, hk⟩ := List.mem_iff_getElem?.mp hb'
    obtain ⟨b, h1, h2⟩ := e.at hk
    exact (h.1 b (List.mem_of_getElem? h1)).like h2
  · obtain ⟨b1, a1, a2⟩ := e.at hi
    obtain ⟨b2, c1, c2⟩ := e.at hj
    obtain ⟨p', hp', ep⟩ := mem_ad a2 hp
    obtain ⟨q', hq', eq⟩ := mem_ad c2 hq
    rw [← ep, ← eq]
    exact h.2 i j b1 b2 a1 c1 hij p' hp' q' hq'
theorem kjoinB {A : Nat → Prop} {D : va_G} {cl : List vw_C} {bs bs' bc bc1 br : List va_W} {H H1 : Heap} (hP : ∀ b ∈ bs, va_P D cl b H) (hd : dB A bs) (isC isR : List Nat) (hC : isC.map (fun i => bs[i]?) = bc.map some) (e1 : isC.map (fun i => bs'[i]?) = bc1.map some) (hR : isR.map (fun i => bs[i]?) = br.map some) (hR' : isR.map (fun i => bs'[i]?) = br.map some) (e3 : (List.range bs'.length).all (fun k => isC.contains k || isR.contains k) = true)
    (hk : ∀ q : Nat, q < H.size → ¬ va_A (fl bc) H.size q → H1[q]? = H[q]?) (hP1 : va_P D cl (fl bc1) H1) : ∀ b ∈ bs', va_P D cl b H1 := by
  intro b hb
  obtain ⟨k, hkb⟩ := List.mem_iff_getElem?.mp hb
  have hkl : k < bs'.length := (List.getElem?_eq_some_iff.mp hkb).1
  have hor := List.all_eq_true.mp e3 k (List.mem_range.mpr hkl)
  by_cases hc : k ∈ isC
  · obtain ⟨j, -, hj⟩ := lk_to e1 hc hkb
    exact va_P_fl.mp hP1 b (List.mem_of_getElem? hj)
  · have hr : k ∈ isR := by
      rw [Bool.or_eq_true] at hor
      rcases hor with h | h
      · exact absurd (List.contains_iff_mem.mp h) hc
      · exact List.contains_iff_mem.mp h
    obtain ⟨j, hj1, hj2⟩ := lk_to hR' hr hkb
    obtain ⟨i, hi1, hi2⟩ := lk_at hR hj2
    have eik : i = k := by rw [hj1] at hi1; exact (Option.some.inj hi1).symm
    subst eik
    have hPb := hP b (List.mem_of_getElem? hi2)
    refine hPb.kept fun k2 q hq => hk q.1 (hPb k2 q hq).lt ?_
    rintro (⟨k3, e, h⟩ | h)
    · obtain ⟨b2, hb2, hqb⟩ := List.mem_flatten.mp (List.mem_of_getElem? h)
      obtain ⟨j2, hj2⟩ := List.mem_iff_getElem?.mp hb2
      obtain ⟨i2, c1, c2⟩ := lk_at hC hj2
      have hne : i ≠ i2 := fun e => hc (e ▸ List.mem_of_getElem? c1)
      exact hd.2 i i2 b b2 hi2 c2 hne q (List.mem_of_getElem? hq) (q.1, e) hqb rfl
    · exact absurd (hPb k2 q hq).lt (Nat.not_lt.mpr h)
section KB
variable {p : Program} {l : Launch} {e : Env} {R : Room} {s : State} {m : MethodId} {args : Array Value} {below : List Frame} {meth : Method} {c : Code} {H : Heap} {locs : List Loc} {Q : State → Prop} {cells slots : Nat}
variable {D : va_G} {cy : Nat → ClassId} {A : Nat → Prop} {bs bs' bc bc1 : List va_W} {wc wc1 : va_W} {y : MethodName} {wy : List Cond} {rm : Room} {bytes cc : ByteArray} {maxL nL n index : Nat} {ret : Option FieldType} {Ts : List Cond} {own C : String} {b pc : Nat} {As rest st : List Value} {ls : Array Slot}
theorem kB_in (hP : ∀ b ∈ bs, va_P D vwCl b H) (hd : dB A bs) (isC : List Nat) (hn : va_nd isC = true) (hC : isC.map (fun i => bs[i]?) = bc.map some) (hwc : wc = fl bc) : va_P D vwCl wc H ∧ va_D A wc := by
  subst hwc
  refine ⟨va_P_fl.mpr fun b hb => ?_, dB_fl (hd.sub isC hn hC)⟩
  obtain ⟨k, hk⟩ := List.mem_iff_getElem?.mp hb
  obtain ⟨i, -, h2⟩ := lk_at hC hk
  exact hP b (List.mem_of_getElem? h2)
theorem kB_free (hD : va_D A wc) (hS : va_S A s.heap H locs) (hA : ∀ q, s.heap.size ≤ q → A q) : ∀ q, va_A wc H.size q → A q := by
  rintro q (⟨k, e, h⟩ | h)
  · exact hD.2 k (q, e) h
  · exact hA q (Nat.le_trans hS.1 h)
theorem kcBi {r0 : Int32} (S : CallFix p m c cc nL s args Ts own) (cw : CallW R s args own C index y bytes maxL ret wy rm 0 0 n) (hM : CI l D cy y wy rm (.ref b :: As) wc r0 wc1) (hk : kK D cy s) (hP : ∀ w ∈ bs, va_P D vwCl w H) (hd : dB A bs) (hS : va_S A s.heap H locs) (hA : ∀ q, s.heap.size ≤ q → A q)
    (isC isR : List Nat) (hn : va_nd isC = true) (hC : isC.map (fun i => bs[i]?) = bc.map some) (hwc : wc = fl bc) (ci : Nat) {fs : List Value} {T : u_T} {N : Nat} (hrv : wc[0]? = some (b, .inr (ci, fs))) (hcl : vwCl[ci]? = some (C, T, N))
    (e1 : isC.map (fun i => bs'[i]?) = bc1.map some) (hwc1 : wc1 = fl bc1) (br : List va_W) (hR : isR.map (fun i => bs[i]?) = br.map some) (hR' : isR.map (fun i => bs'[i]?) = br.map some) (e3 : (List.range bs'.length).all (fun k => isC.contains k || isR.contains k) = true) (es : sameA bs bs')
    (hlen : As.length = n) (hsize : ls.size = nL) (hst : st = As.reverse ++ .ref b :: rest) (hW : (rest.map fun v => v.category).sum ≤ 8) (hdg : decode cc pc = .ok (.invokevirtual index, 3)) (hcs : cells ≤ R.cells ∧ slots ≤ R.slots)
    (kk : ∀ (H1 : Heap) (locs1 : List Loc), (∀ w ∈ bs', va_P D vwCl w H1) → dB A bs' → va_S A s.heap H1 locs1 → W p l e R s m args below meth c H1 locs1 cells slots Q (F0 m (pc + 3) ls (.int r0 :: rest))) : W p l e R s m args below meth c H locs cells slots Q (F0 m pc ls st) := by
  obtain ⟨hPc, hDc⟩ := kB_in hP hd isC hn hC hwc
  have hF := kB_free hDc hS hA
  have hp := kpre (av := .ref b :: As) hk hPc hDc
  refine va_calli (va_runV S (hM H.size) cw ⟨hp.1, va_recv hk.1 hPc hcl hrv, hp.2⟩ rfl hlen hsize hst (lv_room hW) hdg hcs) hS (fun q _ h => hF q h) hF (fun r u t H1 locs1 ht hvm hw hB hz1 hk1 hS1 => ?_)
  subst hw
  rw [ht] at hB
  subst hwc
  subst hwc1
  exact kk H1 locs1 (kjoinB hP hd isC isR hC e1 hR hR' e3 hk1 hB) (hd.like es) hS1
theorem kcBl {r0 : Int64} (S : CallFix p m c cc nL s args Ts own) (cw : CallW R s args own C index y bytes maxL ret wy rm 0 0 n) (hM : CL l D cy y wy rm (.ref b :: As) wc r0 wc1) (hk : kK D cy s) (hP : ∀ w ∈ bs, va_P D vwCl w H) (hd : dB A bs) (hS : va_S A s.heap H locs) (hA : ∀ q, s.heap.size ≤ q → A q)
    (isC isR : List Nat) (hn : va_nd isC = true) (hC : isC.map (fun i => bs[i]?) = bc.map some) (hwc : wc = fl bc) (ci : Nat) {fs : List Value} {T : u_T} {N : Nat} (hrv : wc[0]? = some (b, .inr (ci, fs))) (hcl : vwCl[ci]? = some (C, T, N))
    (e1 : isC.map (fun i => bs'[i]?) = bc1.map some) (hwc1 : wc1 = fl bc1) (br : List va_W) (hR : isR.map (fun i => bs[i]?) = br.map some) (hR' : isR.map (fun i => bs'[i]?) = br.map some) (e3 : (List.range bs'.length).all (fun k => isC.contains k || isR.contains k) = true) (es : sameA bs bs')
    (hlen : As.length = n) (hsize : ls.size = nL) (hst : st = As.reverse ++ .ref b :: rest) (hW : (rest.map fun v => v.category).sum ≤ 8) (hdg : decode cc pc = .ok (.invokevirtual index, 3)) (hcs : cells ≤ R.cells ∧ slots ≤ R.slots)
    (kk : ∀ (H1 : Heap) (locs1 : List Loc), (∀ w ∈ bs', va_P D vwCl w H1) → dB A bs' → va_S A s.heap H1 locs1 → W p l e R s m args below meth c H1 locs1 cells slots Q (F0 m (pc + 3) ls (.long r0 :: rest))) : W p l e R s m args below meth c H locs cells slots Q (F0 m pc ls st) := by
  obtain ⟨hPc, hDc⟩ := kB_in hP hd isC hn hC hwc
  have hF := kB_free hDc hS hA
  have hp := kpre (av := .ref b :: As) hk hPc hDc
  refine va_calll (va_runV S (hM H.size) cw ⟨hp.1, va_recv hk.1 hPc hcl hrv, hp.2⟩ rfl hlen hsize hst (lv_room hW) hdg hcs) hS (fun q _ h => hF q h) hF (fun r u t H1 locs1 ht hvm hw hB hz1 hk1 hS1 => ?_)
  subst hw
  rw [ht] at hB
  subst hwc
  subst hwc1
  exact kk H1 locs1 (kjoinB hP hd isC isR hC e1 hR hR' e3 hk1 hB) (hd.like es) hS1
end KB
