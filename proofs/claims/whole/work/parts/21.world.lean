/-! WORLDS of this program: a Valley, a Pad, a Payings, a LentPiles, a LentPilesModel; contracts over them; calls -/
abbrev AI : Type := Nat → Int32
abbrev AL : Type := Nat → Int64
/-- purse height lender pence made sightMan sightPence sights days law rate -/
abbrev VS : Type := AI × AI × AI × AI × AI × AI × AI × Int32 × Int32 × Int32 × Int32
/-- signs kind doer borrower pence guess length parts asks why -/
abbrev DS : Type := AI × AI × AI × AI × AI × AI × Int32 × Int32 × Int32 × Int32
/-- firstPurse purse height lender pence paid limit weight layer words -/
abbrev YS : Type := AI × AI × AI × AI × AI × AI × AI × AI × AL × Int32
/-- law rate days money size pile sights sight signs pad nowDays nowMoney nowSize nowPile parts reason turn power comes image isKept -/
abbrev MS : Type := Int32 × Int32 × Int32 × AI × AI × AI × Int32 × AI × Int32 × AI × Int32 × AI × AI × AI × Int32 × Int32 × AI × AI × AI × AI × AI
abbrev wV (cy : Nat → ClassId) (a : Nat → Nat) (v : VS) (t : va_W) : va_W := (a 0, .inr (2, [.ref (a 1), .ref (a 2), .ref (a 3), .ref (a 4), .ref (a 5), .ref (a 6), .ref (a 7), .int v.2.2.2.2.2.2.2.1, .int v.2.2.2.2.2.2.2.2.1, .int v.2.2.2.2.2.2.2.2.2.1, .int v.2.2.2.2.2.2.2.2.2.2])) :: (a 1, .inl (cy 1, 6, .inl v.1)) :: (a 2, .inl (cy 1, 6, .inl v.2.1)) :: (a 3, .inl (cy 1, 30, .inl v.2.2.1)) :: (a 4, .inl (cy 1, 30, .inl v.2.2.2.1)) :: (a 5, .inl (cy 1, 30, .inl v.2.2.2.2.1)) :: (a 6, .inl (cy 1, 6, .inl v.2.2.2.2.2.1)) :: (a 7, .inl (cy 1, 6, .inl v.2.2.2.2.2.2.1)) :: t
abbrev wD (cy : Nat → ClassId) (a : Nat → Nat) (v : DS) (t : va_W) : va_W := (a 0, .inr (0, [.ref (a 1), .ref (a 2), .ref (a 3), .ref (a 4), .ref (a 5), .ref (a 6), .int v.2.2.2.2.2.2.1, .int v.2.2.2.2.2.2.2.1, .int v.2.2.2.2.2.2.2.2.1, .int v.2.2.2.2.2.2.2.2.2])) :: (a 1, .inl (cy 0, 60, .inl v.1)) :: (a 2, .inl (cy 1, 60, .inl v.2.1)) :: (a 3, .inl (cy 1, 60, .inl v.2.2.1)) :: (a 4, .inl (cy 1, 60, .inl v.2.2.2.1)) :: (a 5, .inl (cy 1, 60, .inl v.2.2.2.2.1)) :: (a 6, .inl (cy 1, 3, .inl v.2.2.2.2.2.1)) :: t
abbrev wY (cy : Nat → ClassId) (a : Nat → Nat) (v : YS) (t : va_W) : va_W := (a 0, .inr (1, [.ref (a 1), .ref (a 2), .ref (a 3), .ref (a 4), .ref (a 5), .ref (a 6), .ref (a 7), .ref (a 8), .ref (a 9), .int v.2.2.2.2.2.2.2.2.2])) :: (a 1, .inl (cy 1, 6, .inl v.1)) :: (a 2, .inl (cy 1, 6, .inl v.2.1)) :: (a 3, .inl (cy 1, 6, .inl v.2.2.1)) :: (a 4, .inl (cy 1, 30, .inl v.2.2.2.1)) :: (a 5, .inl (cy 1, 30, .inl v.2.2.2.2.1)) :: (a 6, .inl (cy 1, 6, .inl v.2.2.2.2.2.1)) :: (a 7, .inl (cy 1, 6, .inl v.2.2.2.2.2.2.1)) :: (a 8, .inl (cy 1, 6, .inl v.2.2.2.2.2.2.2.1)) :: (a 9, .inl (cy 2, 122, .inr (.inl v.2.2.2.2.2.2.2.2.1))) :: t
abbrev wX (x0 r0 r1 r2 r3 r4 r5 r6 : Nat) (k : Int32) (t : va_W) : va_W := (x0, .inr (3, [.ref r0, .ref r1, .ref r2, .ref r3, .ref r4, .ref r5, .ref r6, .int k])) :: t
abbrev wS (cy : Nat → ClassId) (r6 : Nat) (f : AL) (t : va_W) : va_W := (r6, .inl (cy 2, 13, .inr (.inl f))) :: t
abbrev wI (cy : Nat → ClassId) (q n : Nat) (f : AI) (t : va_W) : va_W := (q, .inl (cy 1, n, .inl f)) :: t
abbrev wL (cy : Nat → ClassId) (q n : Nat) (f : AL) (t : va_W) : va_W := (q, .inl (cy 2, n, .inr (.inl f))) :: t
abbrev wM (cy : Nat → ClassId) (a : Nat → Nat) (v : MS) (t : va_W) : va_W := (a 0, .inr (4, [.int v.1, .int v.2.1, .int v.2.2.1, .ref (a 1), .ref (a 2), .ref (a 3), .int v.2.2.2.2.2.2.1, .ref (a 4), .int v.2.2.2.2.2.2.2.2.1, .ref (a 5), .int v.2.2.2.2.2.2.2.2.2.2.1, .ref (a 6), .ref (a 7), .ref (a 8), .int v.2.2.2.2.2.2.2.2.2.2.2.2.2.2.1, .int v.2.2.2.2.2.2.2.2.2.2.2.2.2.2.2.1, .ref (a 9), .ref (a 10), .ref (a 11), .ref (a 12), .ref (a 13)])) :: (a 1, .inl (cy 1, 6, .inl v.2.2.2.1)) :: (a 2, .inl (cy 1, 6, .inl v.2.2.2.2.1)) :: (a 3, .inl (cy 1, 90, .inl v.2.2.2.2.2.1)) :: (a 4, .inl (cy 1, 12, .inl v.2.2.2.2.2.2.2.1)) :: (a 5, .inl (cy 1, 60, .inl v.2.2.2.2.2.2.2.2.2.1)) :: (a 6, .inl (cy 1, 6, .inl v.2.2.2.2.2.2.2.2.2.2.2.1)) :: (a 7, .inl (cy 1, 6, .inl v.2.2.2.2.2.2.2.2.2.2.2.2.1)) :: (a 8, .inl (cy 1, 90, .inl v.2.2.2.2.2.2.2.2.2.2.2.2.2.1)) :: (a 9, .inl (cy 1, 30, .inl v.2.2.2.2.2.2.2.2.2.2.2.2.2.2.2.2.1)) :: (a 10, .inl (cy 1, 7, .inl v.2.2.2.2.2.2.2.2.2.2.2.2.2.2.2.2.2.1)) :: (a 11, .inl (cy 3, 46656, .inl v.2.2.2.2.2.2.2.2.2.2.2.2.2.2.2.2.2.2.1)) :: (a 12, .inl (cy 1, 236, .inl v.2.2.2.2.2.2.2.2.2.2.2.2.2.2.2.2.2.2.2.1)) :: (a 13, .inl (cy 3, 2, .inl v.2.2.2.2.2.2.2.2.2.2.2.2.2.2.2.2.2.2.2.2)) :: t
/-- the words on private members of nest mates -/
def nwF : List (Nat × String × String) := [(123, "LentPiles$Valley", "sights"), (211, "LentPiles$Valley", "days"), (63, "LentPiles$Valley", "law"), (66, "LentPiles$Valley", "rate"), (73, "LentPiles$Pad", "length"), (97, "LentPiles$Pad", "parts"), (83, "LentPiles$Pad", "asks"), (90, "LentPiles$Pad", "why")]
def nwM : List (String × Nat × MethodName) := [(RX2, 58, yX3_isMan), (RX2, 94, yX3_grown), (RX0, 72, yX3_isMan), (RX1, 57, yX3_isWithin), (RX1, 71, yX3_isMan)]
def kN (U : State) : Prop := (∀ w ∈ nwF, va_Nw (.fieldLinkNest RX3 w.1 w.2.1 w.2.2 "I" RX3) U) ∧ ∀ w ∈ nwM, va_Nw (.methodLinkNest w.1 w.2.1 w.2.2 RX3) U
theorem kN.warm {s U : State} (hW : s.WarmedH U.vm) (h : kN s) : kN U := ⟨fun w hw => va_Nw.warmF hW (h.1 w hw), fun w hw => va_Nw.warmM hW (h.2 w hw)⟩
theorem kN.same {u U : State} (h : u.vm = U.vm) (hz : kN u) : kN U := ⟨fun w hw => va_Nw.same rfl h (hz.1 w hw), fun w hw => va_Nw.same rfl h (hz.2 w hw)⟩
abbrev kT (cy : Nat → ClassId) : List (ClassId × FieldType) := [(cy 0, .char), (cy 1, .int), (cy 2, .long), (cy 3, .boolean)]
def kK (D : va_G) (cy : Nat → ClassId) (U : State) : Prop := va_K D vwCl (kT cy) U ∧ kN U
theorem kK.warm {D : va_G} {cy : Nat → ClassId} {s U : State} (hW : s.WarmedH U.vm) (h : kK D cy s) : kK D cy U := ⟨va_K.moved hW.alike h.1, h.2.warm hW⟩
theorem kK.same {D : va_G} {cy : Nat → ClassId} {U : State} {g : JFrame} {mk : MethodId} {a : Array Value} (h : kK D cy U) : kK D cy (U.calling g mk a) := ⟨va_K.moved (u := U) (U := U.calling g mk a) (Vm.Alike.refl U.vm) h.1, h.2.same rfl⟩
def kPre (D : va_G) (cy : Nat → ClassId) (ws : va_W) (sz : Nat) : State → Prop := fun U => U.heap.size = sz ∧ va_P D vwCl ws U.heap ∧ kK D cy U ∧ va_D (fun _ => True) ws
theorem kPre.blind {D : va_G} {cy : Nat → ClassId} {ws : va_W} {sz : Nat} {av : List Value} : FrameBlind (va_Pc av (kPre D cy ws sz)) := by
  intro a U g mk q
  obtain ⟨q0, q1, qP, qK, qD⟩ := q
  exact ⟨q0, q1, qP, qK.same, qD⟩
abbrev qI (D : va_G) (w1 : va_W) (r0 : Int32) (A : Nat → Prop) : Array Value → State → Outcome → State → Prop := va_Qi (fun (r : Int32) (_ : Unit) => r = r0) (fun _ t => va_P D vwCl w1 t.heap) A
abbrev qL (D : va_G) (w1 : va_W) (r0 : Int64) (A : Nat → Prop) : Array Value → State → Outcome → State → Prop := va_Ql (fun (r : Int64) (_ : Unit) => r = r0) (fun _ t => va_P D vwCl w1 t.heap) A
abbrev qV (D : va_G) (w1 : va_W) (A : Nat → Prop) : Array Value → State → Outcome → State → Prop := va_Qv (fun (_ : Unit) => True) (fun _ t => va_P D vwCl w1 t.heap) A
/-- CONTRACTS: a method that answers an int, a long, nothing; its world before and behind it; it makes no cell -/
def CI (l : Launch) (D : va_G) (cy : Nat → ClassId) (y : MethodName) (wy : List Cond) (rm : Room) (av : List Value) (ws : va_W) (r0 : Int32) (w1 : va_W) : Prop := ∀ sz : Nat, Met l y wy rm (va_Pc av (kPre D cy ws sz)) (qI D w1 r0 (va_A ws sz)) 0 0 (va_A ws sz)
def CL (l : Launch) (D : va_G) (cy : Nat → ClassId) (y : MethodName) (wy : List Cond) (rm : Room) (av : List Value) (ws : va_W) (r0 : Int64) (w1 : va_W) : Prop := ∀ sz : Nat, Met l y wy rm (va_Pc av (kPre D cy ws sz)) (qL D w1 r0 (va_A ws sz)) 0 0 (va_A ws sz)
def CV (l : Launch) (D : va_G) (cy : Nat → ClassId) (y : MethodName) (wy : List Cond) (rm : Room) (av : List Value) (ws : va_W) (w1 : va_W) : Prop := ∀ sz : Nat, Met l y wy rm (va_Pc av (kPre D cy ws sz)) (qV D w1 (va_A ws sz)) 0 0 (va_A ws sz)
/-- what holds all through a method's body -/
def kM (p : Program) (s : State) (m : MethodId) (args : Array Value) (meth : Method) (c : Code) (cc : ByteArray) (maxL : Nat) (ret : Option FieldType) (own : String) (Ts : List Cond) (A : Nat → Prop) (D : va_G) (cy : Nat → ClassId) : Prop :=
  p.tables.exec = Jvm.exec ∧ c.code = cc ∧ meth.sig.returnType = ret ∧ c.maxLocals = maxL ∧ s.vm.findClass own = some m.cls ∧ (∀ w ∈ Ts, w.before args s = true) ∧ meth.locks = false ∧ (∀ q, s.heap.size ≤ q → A q) ∧ kK D cy s
section KOF
variable {l : Launch} {D : va_G} {cy : Nat → ClassId} {y : MethodName} {wy wy' : List Cond} {rm : Room} {av : List Value} {ws w1 : va_W} {cc : ByteArray} {maxL : Nat} {ret : Option FieldType}
theorem kofI {r0 : Int32} (hy : plainName y.cls = true) (hw : wy = Cond.code y cc maxL ret :: wy') (hle : (lg_sl av).length ≤ maxL)
    (body : ∀ p e s m below meth c A, kM p s m av.toArray meth c cc maxL ret y.cls wy A D cy → ∀ ls, lv_has ls maxL (lv_args 0 av) → va_P D vwCl ws s.heap → va_D A ws → va_S A s.heap s.heap [] →
      W p l e rm s m av.toArray below meth c s.heap [] 0 0 (MQ below (qI D w1 r0 A) av.toArray s 0 0 A) (F0 m 0 ls [])) : CI l D cy y wy rm av ws r0 w1 := by
  intro sz
  refine Met.ofW (cc := cc) (maxL := maxL) (ret := ret) hy hw ?_
  intro p e s m args below meth c s₁ B hml hv
  obtain ⟨rfl, hsz, hP, hK, hD0⟩ := hv
  subst hsz
  rw [lg_entry_eq]
  exact body p e s m below meth c _ ⟨B.exec, B.bytes, B.returns, hml, findClass_of_methodNamed B.named, atoms_spec (ws := wy) B.pre, B.notSynchronized, fun q h => Or.inr h, hK⟩ _ (lv_entry av hle) hP hD0.self va_S.rf
theorem kofL {r0 : Int64} (hy : plainName y.cls = true) (hw : wy = Cond.code y cc maxL ret :: wy') (hle : (lg_sl av).length ≤ maxL)
    (body : ∀ p e s m below meth c A, kM p s m av.toArray meth c cc maxL ret y.cls wy A D cy → ∀ ls, lv_has ls maxL (lv_args 0 av) → va_P D vwCl ws s.heap → va_D A ws → va_S A s.heap s.heap [] →
      W p l e rm s m av.toArray below meth c s.heap [] 0 0 (MQ below (qL D w1 r0 A) av.toArray s 0 0 A) (F0 m 0 ls [])) : CL l D cy y wy rm av ws r0 w1 := by
  intro sz
  refine Met.ofW (cc := cc) (maxL := maxL) (ret := ret) hy hw ?_
  intro p e s m args below meth c s₁ B hml hv
  obtain ⟨rfl, hsz, hP, hK, hD0⟩ := hv
  subst hsz
  rw [lg_entry_eq]
  exact body p e s m below meth c _ ⟨B.exec, B.bytes, B.returns, hml, findClass_of_methodNamed B.named, atoms_spec (ws := wy) B.pre, B.notSynchronized, fun q h => Or.inr h, hK⟩ _ (lv_entry av hle) hP hD0.self va_S.rf
theorem kofV (hy : plainName y.cls = true) (hw : wy = Cond.code y cc maxL ret :: wy') (hle : (lg_sl av).length ≤ maxL)
    (body : ∀ p e s m below meth c A, kM p s m av.toArray meth c cc maxL ret y.cls wy A D cy → ∀ ls, lv_has ls maxL (lv_args 0 av) → va_P D vwCl ws s.heap → va_D A ws → va_S A s.heap s.heap [] →
      W p l e rm s m av.toArray below meth c s.heap [] 0 0 (MQ below (qV D w1 A) av.toArray s 0 0 A) (F0 m 0 ls [])) : CV l D cy y wy rm av ws w1 := by
  intro sz
  refine Met.ofW (cc := cc) (maxL := maxL) (ret := ret) hy hw ?_
  intro p e s m args below meth c s₁ B hml hv
  obtain ⟨rfl, hsz, hP, hK, hD0⟩ := hv
  subst hsz
  rw [lg_entry_eq]
  exact body p e s m below meth c _ ⟨B.exec, B.bytes, B.returns, hml, findClass_of_methodNamed B.named, atoms_spec (ws := wy) B.pre, B.notSynchronized, fun q h => Or.inr h, hK⟩ _ (lv_entry av hle) hP hD0.self va_S.rf
end KOF
/-- the same addresses, other contents -/
theorem va_D.like {A : Nat → Prop} {ws ws' : va_W} (h : va_D A ws) (e : ws'.map Prod.fst = ws.map Prod.fst) : va_D A ws' := by
  have at' : ∀ (k : Nat) (q : Nat × va_E), ws'[k]? = some q → ∃ q2, ws[k]? = some q2 ∧ q2.1 = q.1 := by
    intro k q hk
    have h1 : (ws.map Prod.fst)[k]? = some q.1 := by rw [← e, List.getElem?_map, hk]; rfl
    rw [List.getElem?_map] at h1
    cases h2 : ws[k]? with
    | none => rw [h2] at h1; cases h1
    | some q2 => rw [h2] at h1; exact ⟨q2, rfl, Option.some.inj h1⟩
  refine ⟨fun i j x z hx hz hxz => ?_, fun k q hk => ?_⟩
  · obtain ⟨x2, a1, a2⟩ := at' i x hx
    obtain ⟨z2, b1, b2⟩ := at' j z hz
    exact h.1 i j x2 z2 a1 b1 (by rw [a2, b2, hxz])
  · obtain ⟨q2, a1, a2⟩ := at' k q hk
    rw [← a2]
    exact h.2 k q2 a1
theorem va_D.lk {A : Nat → Prop} {ws ws' : va_W} (h : va_D A ws) (al : List Nat) (e : ws.map Prod.fst = al) (e' : ws'.map Prod.fst = al) : va_D A ws' := h.like (e'.trans e.symm)
/-- behind a call: the callee's cells have changed, the others stay -/
theorem kjoin {A : Nat → Prop} {D : va_G} {cl : List vw_C} {ws ws' wc wc1 : va_W} {H H1 : Heap} (hP : va_P D cl ws H) (hD : va_D A ws) (isC isR : List Nat) (hC : isC.map (fun i => ws[i]?) = wc.map some) (e0 : ws'.map Prod.fst = ws.map Prod.fst) (e1 : isC.map (fun i => ws'[i]?) = wc1.map some) (e2 : isR.map (fun i => ws'[i]?) = isR.map (fun i => ws[i]?)) (e3 : (List.range ws.length).all (fun k => isC.contains k || isR.contains k) = true)
    (hk : ∀ q : Nat, q < H.size → ¬ va_A wc H.size q → H1[q]? = H[q]?) (hP1 : va_P D cl wc1 H1) : va_P D cl ws' H1 := by
  intro k q hq
  have hlen : ws'.length = ws.length := by rw [← List.length_map (f := Prod.fst), e0, List.length_map]
  have hkl : k < ws.length := by rw [← hlen]; exact (List.getElem?_eq_some_iff.mp hq).1
  have hor := List.all_eq_true.mp e3 k (List.mem_range.mpr hkl)
  by_cases hc : k ∈ isC
  · obtain ⟨j, hj⟩ := List.mem_iff_getElem?.mp hc
    have h1 : (isC.map (fun i => ws'[i]?))[j]? = some (some q) := by rw [List.getElem?_map, hj, ← hq]; rfl
    rw [e1, List.getElem?_map] at h1
    cases h2 : wc1[j]? with
    | none => rw [h2] at h1; cases h1
    | some q2 =>
      rw [h2] at h1
      have e := Option.some.inj (Option.some.inj h1)
      subst e
      exact hP1 j q2 h2
  · have hr : k ∈ isR := by
      rw [Bool.or_eq_true] at hor
      rcases hor with h | h
      · exact absurd (List.contains_iff_mem.mp h) hc
      · exact List.contains_iff_mem.mp h
    obtain ⟨j, hj⟩ := List.mem_iff_getElem?.mp hr
    have h1 : (isR.map (fun i => ws'[i]?))[j]? = some (some q) := by rw [List.getElem?_map, hj, ← hq]; rfl
    rw [e2, List.getElem?_map, hj] at h1
    have h2 : ws[k]? = some q := Option.some.inj h1
    have hat := hP k q h2
    refine hat.kept (hk q.1 hat.lt ?_)
    rintro (⟨k2, e, h⟩ | h)
    · have h3 : (isC.map (fun i => ws[i]?))[k2]? = some (some (q.1, e)) := by rw [hC, List.getElem?_map, h]; rfl
      rw [List.getElem?_map] at h3
      cases hi : isC[k2]? with
      | none => rw [hi] at h3; cases h3
      | some i =>
        rw [hi] at h3
        have hij := hD.1 k i q (q.1, e) h2 (Option.some.inj h3) rfl
        subst hij
        exact hc (List.mem_of_getElem? hi)
    · exact absurd hat.lt (Nat.not_lt.mpr h)
theorem kjoin0 {D : va_G} {cl : List vw_C} {ws : va_W} {H H1 : Heap} (hP : va_P D cl ws H) (hk : ∀ q : Nat, q < H.size → ¬ va_A [] H.size q → H1[q]? = H[q]?) : va_P D cl ws H1 := by
  refine hP.kept fun k q h => hk q.1 (hP k q h).lt ?_
  rintro (⟨k2, e, h2⟩ | h2)
  · simp at h2
  · exact absurd (hP k q h).lt (Nat.not_lt.mpr h2)
section KC
variable {p : Program} {l : Launch} {e : Env} {R : Room} {s : State} {m : MethodId} {args : Array Value} {below : List Frame} {meth : Method} {c : Code} {H : Heap} {locs : List Loc} {Q : State → Prop}
variable {D : va_G} {cy : Nat → ClassId} {A : Nat → Prop} {ws ws' wc wc1 : va_W} {y : MethodName} {wy : List Cond} {rm : Room} {bytes cc : ByteArray} {maxL nL n index : Nat} {ret : Option FieldType} {Ts : List Cond} {own C : String} {b pc : Nat} {As rest st : List Value} {ls : Array Slot}
/-- the callee's start, out of the caller's world -/
theorem kpre {av : List Value} (hk : kK D cy s) (hP : va_P D vwCl wc H) (hD : va_D A wc) : FrameBlind (va_Pc av (kPre D cy wc H.size)) ∧ ∀ U : State, U.heap = H → s.WarmedH U.vm → va_Pc av (kPre D cy wc H.size) av.toArray U :=
  ⟨kPre.blind, fun U hU hW => ⟨rfl, by rw [hU], by rw [hU]; exact hP, hk.warm hW, hD.weaken (fun _ _ _ _ => trivial)⟩⟩
/-- a call of an object's method over some cells of the caller's world -/
theorem kcVi {r0 : Int32} (S : CallFix p m c cc nL s args Ts own) (cw : CallW R s args own C index y bytes maxL ret wy rm 0 0 n) (hM : CI l D cy y wy rm (.ref b :: As) wc r0 wc1) (hk : kK D cy s) (hP : va_P D vwCl ws H) (hD : va_D A ws) (hS : va_S A s.heap H locs) (hA : ∀ q, s.heap.size ≤ q → A q)
    (isC isR : List Nat) (hn : va_nd isC = true) (hC : isC.map (fun i => ws[i]?) = wc.map some) (hC2 : isC.filterMap (fun i => ws[i]?) = wc) (ci : Nat) {fs : List Value} {T : u_T} {N : Nat} (hrv : wc[0]? = some (b, .inr (ci, fs))) (hcl : vwCl[ci]? = some (C, T, N))
    (al : List Nat) (e0 : ws.map Prod.fst = al) (e0' : ws'.map Prod.fst = al) (e1 : isC.map (fun i => ws'[i]?) = wc1.map some) (wr : va_W) (hR : isR.map (fun i => ws[i]?) = wr.map some) (hR' : isR.map (fun i => ws'[i]?) = wr.map some) (e3 : (List.range ws.length).all (fun k => isC.contains k || isR.contains k) = true)
    (hlen : As.length = n) (hsize : ls.size = nL) (hst : st = As.reverse ++ .ref b :: rest) (hW : (rest.map fun v => v.category).sum ≤ 8) (hdg : decode cc pc = .ok (.invokevirtual index, 3))
    (kk : ∀ (H1 : Heap) (locs1 : List Loc), va_P D vwCl ws' H1 → va_D A ws' → va_S A s.heap H1 locs1 → W p l e R s m args below meth c H1 locs1 0 0 Q (F0 m (pc + 3) ls (.int r0 :: rest))) : W p l e R s m args below meth c H locs 0 0 Q (F0 m pc ls st) := by
  have hPc := hP.sub isC hC2
  have hDc := hD.sub isC hn hC
  have hF := va_free (wc := wc) hD hS hA isC hC
  have hp := kpre (av := .ref b :: As) hk hPc hDc
  refine va_calli (va_runV S (hM H.size) cw ⟨hp.1, va_recv hk.1 hPc hcl hrv, hp.2⟩ rfl hlen hsize hst (lv_room hW) hdg ⟨Nat.zero_le _, Nat.zero_le _⟩) hS (fun q _ h => hF q h) hF (fun r u t H1 locs1 ht hvm hw hB hz1 hk1 hS1 => ?_)
  subst hw
  rw [ht] at hB
  exact kk H1 locs1 (kjoin hP hD isC isR hC (e0'.trans e0.symm) e1 (hR'.trans hR.symm) e3 hk1 hB) (hD.like (e0'.trans e0.symm)) hS1
theorem kcVl {r0 : Int64} (S : CallFix p m c cc nL s args Ts own) (cw : CallW R s args own C index y bytes maxL ret wy rm 0 0 n) (hM : CL l D cy y wy rm (.ref b :: As) wc r0 wc1) (hk : kK D cy s) (hP : va_P D vwCl ws H) (hD : va_D A ws) (hS : va_S A s.heap H locs) (hA : ∀ q, s.heap.size ≤ q → A q)
    (isC isR : List Nat) (hn : va_nd isC = true) (hC : isC.map (fun i => ws[i]?) = wc.map some) (hC2 : isC.filterMap (fun i => ws[i]?) = wc) (ci : Nat) {fs : List Value} {T : u_T} {N : Nat} (hrv : wc[0]? = some (b, .inr (ci, fs))) (hcl : vwCl[ci]? = some (C, T, N))
    (al : List Nat) (e0 : ws.map Prod.fst = al) (e0' : ws'.map Prod.fst = al) (e1 : isC.map (fun i => ws'[i]?) = wc1.map some) (wr : va_W) (hR : isR.map (fun i => ws[i]?) = wr.map some) (hR' : isR.map (fun i => ws'[i]?) = wr.map some) (e3 : (List.range ws.length).all (fun k => isC.contains k || isR.contains k) = true)
    (hlen : As.length = n) (hsize : ls.size = nL) (hst : st = As.reverse ++ .ref b :: rest) (hW : (rest.map fun v => v.category).sum ≤ 8) (hdg : decode cc pc = .ok (.invokevirtual index, 3))
    (kk : ∀ (H1 : Heap) (locs1 : List Loc), va_P D vwCl ws' H1 → va_D A ws' → va_S A s.heap H1 locs1 → W p l e R s m args below meth c H1 locs1 0 0 Q (F0 m (pc + 3) ls (.long r0 :: rest))) : W p l e R s m args below meth c H locs 0 0 Q (F0 m pc ls st) := by
  have hPc := hP.sub isC hC2
  have hDc := hD.sub isC hn hC
  have hF := va_free (wc := wc) hD hS hA isC hC
  have hp := kpre (av := .ref b :: As) hk hPc hDc
  refine va_calll (va_runV S (hM H.size) cw ⟨hp.1, va_recv hk.1 hPc hcl hrv, hp.2⟩ rfl hlen hsize hst (lv_room hW) hdg ⟨Nat.zero_le _, Nat.zero_le _⟩) hS (fun q _ h => hF q h) hF (fun r u t H1 locs1 ht hvm hw hB hz1 hk1 hS1 => ?_)
  subst hw
  rw [ht] at hB
  exact kk H1 locs1 (kjoin hP hD isC isR hC (e0'.trans e0.symm) e1 (hR'.trans hR.symm) e3 hk1 hB) (hD.like (e0'.trans e0.symm)) hS1
theorem kcVv (S : CallFix p m c cc nL s args Ts own) (cw : CallW R s args own C index y bytes maxL ret wy rm 0 0 n) (hM : CV l D cy y wy rm (.ref b :: As) wc wc1) (hk : kK D cy s) (hP : va_P D vwCl ws H) (hD : va_D A ws) (hS : va_S A s.heap H locs) (hA : ∀ q, s.heap.size ≤ q → A q)
    (isC isR : List Nat) (hn : va_nd isC = true) (hC : isC.map (fun i => ws[i]?) = wc.map some) (hC2 : isC.filterMap (fun i => ws[i]?) = wc) (ci : Nat) {fs : List Value} {T : u_T} {N : Nat} (hrv : wc[0]? = some (b, .inr (ci, fs))) (hcl : vwCl[ci]? = some (C, T, N))
    (al : List Nat) (e0 : ws.map Prod.fst = al) (e0' : ws'.map Prod.fst = al) (e1 : isC.map (fun i => ws'[i]?) = wc1.map some) (wr : va_W) (hR : isR.map (fun i => ws[i]?) = wr.map some) (hR' : isR.map (fun i => ws'[i]?) = wr.map some) (e3 : (List.range ws.length).all (fun k => isC.contains k || isR.contains k) = true)
    (hlen : As.length = n) (hsize : ls.size = nL) (hst : st = As.reverse ++ .ref b :: rest) (hW : (rest.map fun v => v.category).sum ≤ 8) (hdg : decode cc pc = .ok (.invokevirtual index, 3))
    (kk : ∀ (H1 : Heap) (locs1 : List Loc), va_P D vwCl ws' H1 → va_D A ws' → va_S A s.heap H1 locs1 → W p l e R s m args below meth c H1 locs1 0 0 Q (F0 m (pc + 3) ls rest)) : W p l e R s m args below meth c H locs 0 0 Q (F0 m pc ls st) := by
  have hPc := hP.sub isC hC2
  have hDc := hD.sub isC hn hC
  have hF := va_free (wc := wc) hD hS hA isC hC
  have hp := kpre (av := .ref b :: As) hk hPc hDc
  refine va_callv (va_runV S (hM H.size) cw ⟨hp.1, va_recv hk.1 hPc hcl hrv, hp.2⟩ rfl hlen hsize hst (lv_room hW) hdg ⟨Nat.zero_le _, Nat.zero_le _⟩) hS (fun q _ h => hF q h) hF (fun u t H1 locs1 ht hvm hw hB hz1 hk1 hS1 => ?_)
  rw [ht] at hB
  exact kk H1 locs1 (kjoin hP hD isC isR hC (e0'.trans e0.symm) e1 (hR'.trans hR.symm) e3 hk1 hB) (hD.like (e0'.trans e0.symm)) hS1
/-- a static method over some cells of the caller's world -/
theorem kcSv (S : CallFix p m c cc nL s args Ts own) (cw : CallB R s args own index y bytes maxL ret wy rm 0 0 n ∧ (Cond.static y).before args s = true) (hM : CV l D cy y wy rm As wc wc1) (hk : kK D cy s) (hP : va_P D vwCl ws H) (hD : va_D A ws) (hS : va_S A s.heap H locs) (hA : ∀ q, s.heap.size ≤ q → A q)
    (isC isR : List Nat) (hn : va_nd isC = true) (hC : isC.map (fun i => ws[i]?) = wc.map some) (hC2 : isC.filterMap (fun i => ws[i]?) = wc)
    (al : List Nat) (e0 : ws.map Prod.fst = al) (e0' : ws'.map Prod.fst = al) (e1 : isC.map (fun i => ws'[i]?) = wc1.map some) (wr : va_W) (hR : isR.map (fun i => ws[i]?) = wr.map some) (hR' : isR.map (fun i => ws'[i]?) = wr.map some) (e3 : (List.range ws.length).all (fun k => isC.contains k || isR.contains k) = true)
    (hlen : As.length = n) (hsize : ls.size = nL) (hst : st = As.reverse ++ rest) (hW : (rest.map fun v => v.category).sum ≤ 8) (hdg : decode cc pc = .ok (.invokestatic index, 3))
    (kk : ∀ (H1 : Heap) (locs1 : List Loc), va_P D vwCl ws' H1 → va_D A ws' → va_S A s.heap H1 locs1 → W p l e R s m args below meth c H1 locs1 0 0 Q (F0 m (pc + 3) ls rest)) : W p l e R s m args below meth c H locs 0 0 Q (F0 m pc ls st) := by
  have hPc := hP.sub isC hC2
  have hDc := hD.sub isC hn hC
  have hF := va_free (wc := wc) hD hS hA isC hC
  have hp := kpre (av := As) hk hPc hDc
  refine va_callv (va_runS S (hM H.size) cw hp rfl hlen hsize hst (lv_room hW) hdg ⟨Nat.zero_le _, Nat.zero_le _⟩) hS (fun q _ h => hF q h) hF (fun u t H1 locs1 ht hvm hw hB hz1 hk1 hS1 => ?_)
  rw [ht] at hB
  exact kk H1 locs1 (kjoin hP hD isC isR hC (e0'.trans e0.symm) e1 (hR'.trans hR.symm) e3 hk1 hB) (hD.like (e0'.trans e0.symm)) hS1
theorem kfree0 (hS : va_S A s.heap H locs) (hA : ∀ q, s.heap.size ≤ q → A q) : ∀ q, va_A [] H.size q → A q := by
  rintro q (⟨k2, e, h2⟩ | h2)
  · simp at h2
  · exact hA q (Nat.le_trans hS.1 h2)
theorem kpre0 {av : List Value} (hk : kK D cy s) : FrameBlind (va_Pc av (kPre D cy [] H.size)) ∧ ∀ U : State, U.heap = H → s.WarmedH U.vm → va_Pc av (kPre D cy [] H.size) av.toArray U :=
  kpre (A := fun _ => True) hk (fun k q h => by simp at h) ⟨fun i j p q h => by simp at h, fun k q h => by simp at h⟩
/-- a static method over numbers alone -/
theorem kcSi {r0 : Int32} (S : CallFix p m c cc nL s args Ts own) (cw : CallB R s args own index y bytes maxL ret wy rm 0 0 n ∧ (Cond.static y).before args s = true) (hM : CI l D cy y wy rm As [] r0 []) (hk : kK D cy s) (hP : va_P D vwCl ws H) (hS : va_S A s.heap H locs) (hA : ∀ q, s.heap.size ≤ q → A q)
    (hlen : As.length = n) (hsize : ls.size = nL) (hst : st = As.reverse ++ rest) (hW : (rest.map fun v => v.category).sum ≤ 8) (hdg : decode cc pc = .ok (.invokestatic index, 3))
    (kk : ∀ (H1 : Heap) (locs1 : List Loc), va_P D vwCl ws H1 → va_S A s.heap H1 locs1 → W p l e R s m args below meth c H1 locs1 0 0 Q (F0 m (pc + 3) ls (.int r0 :: rest))) : W p l e R s m args below meth c H locs 0 0 Q (F0 m pc ls st) := by
  have hF := kfree0 hS hA
  refine va_calli (va_runS S (hM H.size) cw (kpre0 hk) rfl hlen hsize hst (lv_room hW) hdg ⟨Nat.zero_le _, Nat.zero_le _⟩) hS (fun q _ h => hF q h) hF (fun r u t H1 locs1 ht hvm hw hB hz1 hk1 hS1 => ?_)
  subst hw
  exact kk H1 locs1 (kjoin0 hP hk1) hS1
theorem kcSl {r0 : Int64} (S : CallFix p m c cc nL s args Ts own) (cw : CallB R s args own index y bytes maxL ret wy rm 0 0 n ∧ (Cond.static y).before args s = true) (hM : CL l D cy y wy rm As [] r0 []) (hk : kK D cy s) (hP : va_P D vwCl ws H) (hS : va_S A s.heap H locs) (hA : ∀ q, s.heap.size ≤ q → A q)
    (hlen : As.length = n) (hsize : ls.size = nL) (hst : st = As.reverse ++ rest) (hW : (rest.map fun v => v.category).sum ≤ 8) (hdg : decode cc pc = .ok (.invokestatic index, 3))
    (kk : ∀ (H1 : Heap) (locs1 : List Loc), va_P D vwCl ws H1 → va_S A s.heap H1 locs1 → W p l e R s m args below meth c H1 locs1 0 0 Q (F0 m (pc + 3) ls (.long r0 :: rest))) : W p l e R s m args below meth c H locs 0 0 Q (F0 m pc ls st) := by
  have hF := kfree0 hS hA
  refine va_calll (va_runS S (hM H.size) cw (kpre0 hk) rfl hlen hsize hst (lv_room hW) hdg ⟨Nat.zero_le _, Nat.zero_le _⟩) hS (fun q _ h => hF q h) hF (fun r u t H1 locs1 ht hvm hw hB hz1 hk1 hS1 => ?_)
  subst hw
  exact kk H1 locs1 (kjoin0 hP hk1) hS1
/-- a static method of the nest's host, over numbers alone -/
theorem kcNi {r0 : Int32} {host : String} (S : CallFix p m c cc nL s args Ts own) (cw : va_CN R s args own index y host bytes maxL ret wy rm 0 0 n ∧ (Cond.static y).before args s = true ∧ True) (hM : CI l D cy y wy rm As [] r0 []) (hk : kK D cy s) (hP : va_P D vwCl ws H) (hS : va_S A s.heap H locs) (hA : ∀ q, s.heap.size ≤ q → A q)
    (hlen : As.length = n) (hsize : ls.size = nL) (hst : st = As.reverse ++ rest) (hW : (rest.map fun v => v.category).sum ≤ 8) (hdg : decode cc pc = .ok (.invokestatic index, 3))
    (kk : ∀ (H1 : Heap) (locs1 : List Loc), va_P D vwCl ws H1 → va_S A s.heap H1 locs1 → W p l e R s m args below meth c H1 locs1 0 0 Q (F0 m (pc + 3) ls (.int r0 :: rest))) : W p l e R s m args below meth c H locs 0 0 Q (F0 m pc ls st) := by
  have hF := kfree0 hS hA
  refine va_calli (va_runSN S (hM H.size) cw (kpre0 hk) rfl hlen hsize hst (lv_room hW) hdg ⟨Nat.zero_le _, Nat.zero_le _⟩) hS (fun q _ h => hF q h) hF (fun r u t H1 locs1 ht hvm hw hB hz1 hk1 hS1 => ?_)
  subst hw
  exact kk H1 locs1 (kjoin0 hP hk1) hS1
/-- the ends -/
theorem kretI {r0 : Int32} {w1 : va_W} (hx : p.tables.exec = Jvm.exec) (hb : c.code = cc) (hr : meth.sig.returnType = some .int) (hlk : meth.locks = false) (hP : va_P D vwCl w1 H) (hS : va_S A s.heap H locs) (hdg : decode cc pc = .ok (.ireturn, 1)) : W p l e R s m args below meth c H locs 0 0 (MQ below (qI D w1 r0 A) args s 0 0 A) (F0 m pc ls [.int r0]) :=
  W.iret hx hb hr (fun t ht hW => ⟨⟨r0, (), rfl, rfl, (show va_P D vwCl w1 t.heap by rw [ht]; exact hP)⟩, hS.F ht⟩) hS.2.2 hdg hlk
theorem kretZ {r0 : Int32} {w1 : va_W} {ty : FieldType} (hx : p.tables.exec = Jvm.exec) (hb : c.code = cc) (hr : meth.sig.returnType = some ty) (hlk : meth.locks = false) (hP : va_P D vwCl w1 H) (hS : va_S A s.heap H locs) (hn : narrow ty (.int r0) = .int r0) (hdg : decode cc pc = .ok (.ireturn, 1)) : W p l e R s m args below meth c H locs 0 0 (MQ below (qI D w1 r0 A) args s 0 0 A) (F0 m pc ls [.int r0]) :=
  W.zret hx hb hr hn (fun t ht hW => ⟨⟨r0, (), rfl, rfl, (show va_P D vwCl w1 t.heap by rw [ht]; exact hP)⟩, hS.F ht⟩) hS.2.2 hdg hlk
theorem kretL {r0 : Int64} {w1 : va_W} (hx : p.tables.exec = Jvm.exec) (hb : c.code = cc) (hr : meth.sig.returnType = some .long) (hlk : meth.locks = false) (hP : va_P D vwCl w1 H) (hS : va_S A s.heap H locs) (hdg : decode cc pc = .ok (.lreturn, 1)) : W p l e R s m args below meth c H locs 0 0 (MQ below (qL D w1 r0 A) args s 0 0 A) (F0 m pc ls [.long r0]) :=
  W.lret hx hb hr (fun t ht hW => ⟨⟨r0, (), rfl, rfl, (show va_P D vwCl w1 t.heap by rw [ht]; exact hP)⟩, hS.F ht⟩) hS.2.2 hdg (hlocks := hlk)
theorem kretV {w1 : va_W} (hx : p.tables.exec = Jvm.exec) (hb : c.code = cc) (hr : meth.sig.returnType = none) (hlk : meth.locks = false) (hP : va_P D vwCl w1 H) (hS : va_S A s.heap H locs) (hdg : decode cc pc = .ok (.return_, 1)) : W p l e R s m args below meth c H locs 0 0 (MQ below (qV D w1 A) args s 0 0 A) (F0 m pc ls []) :=
  W.vret hx hb hr (fun t ht hW => ⟨⟨(), rfl, trivial, (show va_P D vwCl w1 t.heap by rw [ht]; exact hP)⟩, hS.F ht⟩) hS.2.2 hdg hlk
end KC
/-- an answer that is a boolean or a char -/
def bz {α : Type} (r : Int32) (k : Option α) : Option α := if r = 0 ∨ r = 1 then k else none
theorem bz_s {α : Type} {r : Int32} {k : Option α} {x : α} (h : bz r k = some x) : narrow .boolean (.int r) = .int r ∧ k = some x := by
  unfold bz at h
  by_cases c : r = 0 ∨ r = 1
  · rw [if_pos c] at h
    refine ⟨?_, h⟩
    rcases c with rfl | rfl <;> decide
  · rw [if_neg c] at h; cases h
def bc {α : Type} (r : Int32) (k : Option α) : Option α := if (r.toUInt32 % 65536).toInt32 = r then k else none
theorem bc_s {α : Type} {r : Int32} {k : Option α} {x : α} (h : bc r k = some x) : narrow .char (.int r) = .int r ∧ k = some x := by
  unfold bc at h
  by_cases c : (r.toUInt32 % 65536).toInt32 = r
  · rw [if_pos c] at h
    refine ⟨?_, h⟩
    rw [← c]; exact pk_nc r
  · rw [if_neg c] at h; cases h
theorem sw_ne {x : Int32} {k : Int32} {n : Int} (hk : k.toInt = n) (h : ¬ x = k) : x.toInt ≠ n := fun e => h (Int32.toInt_inj.mp (e.trans hk.symm))
theorem sw_out2 {x : Int32} (c0 : ¬ x = 0) (c1 : ¬ x = 1) (c2 : ¬ x = 2) : x.toInt < 0 ∨ 2 < x.toInt := by
  have h0 := sw_ne (n := 0) (by decide) c0
  have h1 := sw_ne (n := 1) (by decide) c1
  have h2 := sw_ne (n := 2) (by decide) c2
  omega
theorem sw_out3 {x : Int32} (c0 : ¬ x = 0) (c1 : ¬ x = 1) (c2 : ¬ x = 2) (c3 : ¬ x = 3) : x.toInt < 0 ∨ 3 < x.toInt := by
  have h0 := sw_out2 c0 c1 c2
  have h3 := sw_ne (n := 3) (by decide) c3
  omega
theorem sw_out4 {x : Int32} (c0 : ¬ x = 0) (c1 : ¬ x = 1) (c2 : ¬ x = 2) (c3 : ¬ x = 3) (c4 : ¬ x = 4) : x.toInt < 0 ∨ 4 < x.toInt := by
  have h0 := sw_out3 c0 c1 c2 c3
  have h4 := sw_ne (n := 4) (by decide) c4
  omega
theorem kN_123 {U : State} (h : kN U) : va_Nw (.fieldLinkNest RX3 123 "LentPiles$Valley" "sights" "I" RX3) U := h.1 (123, "LentPiles$Valley", "sights") (List.mem_of_getElem? (i := 0) rfl)
theorem kN_211 {U : State} (h : kN U) : va_Nw (.fieldLinkNest RX3 211 "LentPiles$Valley" "days" "I" RX3) U := h.1 (211, "LentPiles$Valley", "days") (List.mem_of_getElem? (i := 1) rfl)
theorem kN_63 {U : State} (h : kN U) : va_Nw (.fieldLinkNest RX3 63 "LentPiles$Valley" "law" "I" RX3) U := h.1 (63, "LentPiles$Valley", "law") (List.mem_of_getElem? (i := 2) rfl)
theorem kN_66 {U : State} (h : kN U) : va_Nw (.fieldLinkNest RX3 66 "LentPiles$Valley" "rate" "I" RX3) U := h.1 (66, "LentPiles$Valley", "rate") (List.mem_of_getElem? (i := 3) rfl)
theorem kN_73 {U : State} (h : kN U) : va_Nw (.fieldLinkNest RX3 73 "LentPiles$Pad" "length" "I" RX3) U := h.1 (73, "LentPiles$Pad", "length") (List.mem_of_getElem? (i := 4) rfl)
theorem kN_97 {U : State} (h : kN U) : va_Nw (.fieldLinkNest RX3 97 "LentPiles$Pad" "parts" "I" RX3) U := h.1 (97, "LentPiles$Pad", "parts") (List.mem_of_getElem? (i := 5) rfl)
theorem kN_83 {U : State} (h : kN U) : va_Nw (.fieldLinkNest RX3 83 "LentPiles$Pad" "asks" "I" RX3) U := h.1 (83, "LentPiles$Pad", "asks") (List.mem_of_getElem? (i := 6) rfl)
theorem kN_90 {U : State} (h : kN U) : va_Nw (.fieldLinkNest RX3 90 "LentPiles$Pad" "why" "I" RX3) U := h.1 (90, "LentPiles$Pad", "why") (List.mem_of_getElem? (i := 7) rfl)
theorem kN_RX2_58 {U : State} (h : kN U) : va_Nw (.methodLinkNest RX2 58 yX3_isMan RX3) U := h.2 (RX2, 58, yX3_isMan) (List.mem_of_getElem? (i := 0) rfl)
theorem kN_RX2_94 {U : State} (h : kN U) : va_Nw (.methodLinkNest RX2 94 yX3_grown RX3) U := h.2 (RX2, 94, yX3_grown) (List.mem_of_getElem? (i := 1) rfl)
theorem kN_RX0_72 {U : State} (h : kN U) : va_Nw (.methodLinkNest RX0 72 yX3_isMan RX3) U := h.2 (RX0, 72, yX3_isMan) (List.mem_of_getElem? (i := 2) rfl)
theorem kN_RX1_57 {U : State} (h : kN U) : va_Nw (.methodLinkNest RX1 57 yX3_isWithin RX3) U := h.2 (RX1, 57, yX3_isWithin) (List.mem_of_getElem? (i := 3) rfl)
theorem kN_RX1_71 {U : State} (h : kN U) : va_Nw (.methodLinkNest RX1 71 yX3_isMan RX3) U := h.2 (RX1, 71, yX3_isMan) (List.mem_of_getElem? (i := 4) rfl)
