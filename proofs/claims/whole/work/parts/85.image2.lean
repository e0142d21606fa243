/-! THE LAW'S CASE: image -/
abbrev cpV (w v : VS) : VS := (va_cpy v.1 w.1 0 0 6, va_cpy v.2.1 w.2.1 0 0 6, va_cpy v.2.2.1 w.2.2.1 0 0 30, va_cpy v.2.2.2.1 w.2.2.2.1 0 0 30, va_cpy v.2.2.2.2.1 w.2.2.2.2.1 0 0 30, va_cpy v.2.2.2.2.2.1 w.2.2.2.2.2.1 0 0 6, va_cpy v.2.2.2.2.2.2.1 w.2.2.2.2.2.2.1 0 0 6, v.2.2.2.2.2.2.2.1, v.2.2.2.2.2.2.2.2.1, v.2.2.2.2.2.2.2.2.2.1, v.2.2.2.2.2.2.2.2.2.2)
theorem p_copyFrom (w v : VS) : f_X2_copyFrom w v = some (cpV w v) := rfl
theorem rFV_copy {w v : VS} {F : FA} {N : Nat} (h : rFV v F) (hG : gF N F) : rFV (cpV w v) F := by
  refine ⟨rV_cong h.1 hG.1 (fun x hx => sb_cpy0 hx) (fun x hx => sb_cpy0 hx) (fun x hx => sb_cpy0 hx) (fun x hx => sb_cpy0 hx) (fun x hx => sb_cpy0 hx), h.2.1, h.2.2.1, h.2.2.2.1, h.2.2.2.2.1, fun i hi => ?_⟩
  have h6 := hG.2.2.2.2.1
  obtain ⟨e1, e2⟩ := h.2.2.2.2.2 i hi
  exact ⟨(sb_cpy0 (by omega)).trans e1, (sb_cpy0 (by omega)).trans e2⟩
theorem rFI_cong {g g' : AI} {o N : Nat} {F : FA} (h : rFI g o F) (hG : gF N F) (e : ∀ x, o ≤ x → x < o + 118 → g' x = g x) : rFI g' o F := by
  have h6 := hG.2.2.2.2.1
  refine ⟨rM_cong h.1 hG.1 (fun x hx => e _ (by omega) (by omega)) (fun x hx => e _ (by omega) (by omega)) (fun x hx => e _ (by omega) (by omega)), (e _ (by omega) (by omega)).trans h.2.1, (e _ (by omega) (by omega)).trans h.2.2.1, (e _ (by omega) (by omega)).trans h.2.2.2.1, (e _ (by omega) (by omega)).trans h.2.2.2.2.1, fun i hi => ?_⟩
  obtain ⟨e1, e2⟩ := h.2.2.2.2.2 i hi
  exact ⟨(e _ (by omega) (by omega)).trans e1, (e _ (by omega) (by omega)).trans e2⟩
theorem rFI_new {u : MS} {F : FA} {N : Nat} (h : rFM u F) (hG : gF N F) {g0 g : AI} {o : Nat} (hi : imP u g0 o 90 6 12 g) (h1 : g (o + 114) = u.1) (h2 : g (o + 115) = u.2.1) (h3 : g (o + 116) = u.2.2.1) (h4 : g (o + 117) = u.2.2.2.2.2.2.1) : rFI g o F := by
  have h6 := hG.2.2.2.2.1
  refine ⟨rM_cong h.1 hG.1 (fun x hx => (hi.2.1 x hx).1) (fun x hx => (hi.2.1 x hx).2) (fun x hx => hi.1 x hx), h1.trans h.2.1, h2.trans h.2.2.1, h3.trans h.2.2.2.1, h4.trans h.2.2.2.2.1, fun i hi2 => ?_⟩
  obtain ⟨e1, e2⟩ := h.2.2.2.2.2 i hi2
  refine ⟨(hi.2.2.1 (2 * i) (by omega)).trans e1, ?_⟩
  have := hi.2.2.1 (2 * i + 1) (by omega)
  rw [← Nat.add_assoc] at this
  exact this.trans e2
theorem kx_or : ∀ b0 b1 : Bool, (iI ((if b0 then 1 else 0) + (if b1 then 2 else 0)) ||| ((1 : Int32) <<< (iI ((0 : Nat) : Int) &&& 31))) = iI ((if true then 1 else 0) + (if b1 then 2 else 0)) ∧ (iI ((if b0 then 1 else 0) + (if b1 then 2 else 0)) ||| ((1 : Int32) <<< (iI ((1 : Nat) : Int) &&& 31))) = iI ((if b0 then 1 else 0) + (if true then 2 else 0)) := by decide
theorem case23 {N : Nat} {st : LSt} (h : Rel N st) (a1 : Int32) : ∃ st', ls_23 st a1 = some st' ∧ Rel (N + 1) st' := by
  obtain ⟨F, hv, hu, hG, hp, b0, b1, hkx, hi0, hi1⟩ := id h
  obtain ⟨x, hx, rfl⟩ := iI_ex a1
  by_cases c1 : 0 ≤ x ∧ x ≤ 1
  · obtain ⟨j, rfl⟩ := Int.eq_ofNat_of_zero_le c1.1
    obtain ⟨g, e, i1, i2, i3, i4, i5⟩ := p_image (u := st.2.2.2.2.2.2.2.2) (j := j) (by omega)
    unfold ls_23 f_X3_image nm
    dsimp only
    rw [z0, z1, bn_i (p_isWithin hx (by omega) (by omega)), b01_t c1, ← z0, ← z1, if_neg n10, p_copyFrom, p_copyFrom, bn_i rfl, bn_i rfl, e]
    have hK := rFI_new hu hG i1 i2 i3 i4 i5
    rcases (show j = 0 ∨ j = 1 by omega) with rfl | rfl
    · rw [if_pos (show iI ((0 : Nat) : Int) = 0 from rfl), bn_i rfl, bn_i rfl, if_pos rfl]
      refine ⟨_, rfl, F, hv, hu, gF_up hG, hp, true, b1, ?_, ⟨?_, fun _ => ⟨F, rFV_copy hv hG, hK, gF_up hG⟩⟩, ⟨?_, fun q => ?_⟩⟩
      · show (st.1 ||| _) = _
        rw [hkx]
        exact (kx_or b0 b1).1
      · show upd st.2.2.2.2.2.2.2.2.2.2.2.2.2.2.2.2.2.2.2.2.2.2.2.2.2.2.2.2 0 1 0 = 1
        rw [upd_s]
      · show upd st.2.2.2.2.2.2.2.2.2.2.2.2.2.2.2.2.2.2.2.2.2.2.2.2.2.2.2.2 0 1 1 = _
        rw [upd_n (by omega)]
        exact hi1.1
      · obtain ⟨F', f1, f2, f3⟩ := hi1.2 q
        exact ⟨F', f1, rFI_cong f2 f3 (fun y hy hy2 => i1.2.2.2 y (by omega)), gF_up f3⟩
    · rw [if_neg (show ¬ iI ((1 : Nat) : Int) = 0 by decide), bn_i rfl, bn_i rfl, if_pos rfl]
      refine ⟨_, rfl, F, hv, hu, gF_up hG, hp, b0, true, ?_, ⟨?_, fun q => ?_⟩, ⟨?_, fun _ => ⟨F, rFV_copy hv hG, hK, gF_up hG⟩⟩⟩
      · show (st.1 ||| _) = _
        rw [hkx]
        exact (kx_or b0 b1).2
      · show upd st.2.2.2.2.2.2.2.2.2.2.2.2.2.2.2.2.2.2.2.2.2.2.2.2.2.2.2.2 1 1 0 = _
        rw [upd_n (by omega)]
        exact hi0.1
      · obtain ⟨F', f1, f2, f3⟩ := hi0.2 q
        exact ⟨F', f1, rFI_cong f2 f3 (fun y hy hy2 => i1.2.2.2 y (by omega)), gF_up f3⟩
      · show upd st.2.2.2.2.2.2.2.2.2.2.2.2.2.2.2.2.2.2.2.2.2.2.2.2.2.2.2.2 1 1 1 = 1
        rw [upd_s]
  · unfold ls_23 f_X3_image f_X4_image f_X4_image_0
    rw [z0, z1, bn_i (p_isWithin hx (by omega) (by omega)), bn_i (p_in hx (by omega) (by omega)), b01_f c1, ← z0, if_pos rfl, if_pos rfl, bn_i rfl]
    refine ⟨st, ?_, Rel_up h⟩
    show (if (-2 : Int32) = -2 then some st else none) = some st
    rw [if_pos rfl]
