/-! THE LAW'S CASE: restore -/
theorem rFM_restore {u : MS} {F : FA} {N o : Nat} (h : rFI (imG u) o F) (hG : gF N F) : rFM (setR u (imG u (o + 114)) (imG u (o + 115)) (imG u (o + 116)) (cpf (fun x => imG u (o + 90 + x)) u.2.2.2.1 6) (cpf (fun x => imG u (o + 96 + x)) u.2.2.2.2.1 6) (cpf (fun x => imG u (o + x)) u.2.2.2.2.2.1 90) (imG u (o + 117)) (cpf (fun x => imG u (o + 102 + x)) u.2.2.2.2.2.2.2.1 12)) F := by
  have h6 := hG.2.2.2.2.1
  refine ⟨rM_cong h.1 hG.1 (fun x hx => cpf_in (f := fun x => imG u (o + 90 + x)) (g := u.2.2.2.1) hx) (fun x hx => cpf_in (f := fun x => imG u (o + 96 + x)) (g := u.2.2.2.2.1) hx) (fun x hx => cpf_in (f := fun x => imG u (o + x)) (g := u.2.2.2.2.2.1) hx), h.2.1, h.2.2.1, h.2.2.2.1, h.2.2.2.2.1, fun i hi => ?_⟩
  obtain ⟨e1, e2⟩ := h.2.2.2.2.2 i hi
  refine ⟨?_, ?_⟩
  · show cpf (fun x => imG u (o + 102 + x)) u.2.2.2.2.2.2.2.1 12 (2 * i) = _
    rw [cpf_in (by omega)]
    exact e1
  · show cpf (fun x => imG u (o + 102 + x)) u.2.2.2.2.2.2.2.1 12 (2 * i + 1) = _
    rw [cpf_in (by omega)]
    exact e2
theorem kx_and : ∀ b0 b1 : Bool, ((iI ((if b0 then 1 else 0) + (if b1 then 2 else 0)) &&& ((1 : Int32) <<< (iI ((0 : Nat) : Int) &&& 31))) = 0 ↔ b0 = false) ∧ ((iI ((if b0 then 1 else 0) + (if b1 then 2 else 0)) &&& ((1 : Int32) <<< (iI ((1 : Nat) : Int) &&& 31))) = 0 ↔ b1 = false) := by decide
theorem p_restoreNo {u : MS} {j : Nat} (hj : j < 2) (hk : u.2.2.2.2.2.2.2.2.2.2.2.2.2.2.2.2.2.2.2.2 j = 0) : f_X4_restore u (iI j) = some (-3, u) := by
  unfold f_X4_restore f_X4_restore_0
  rw [z0, z1, bn_i (p_in ⟨by omega, by omega⟩ (by omega) (by omega)), b01_t (by omega), if_neg (by rw [← z0]; exact n10), ck_N hj (by omega), cl_N (by omega), ← z0, if_pos hk]
  rfl
theorem case24 {N : Nat} {st : LSt} (h : Rel N st) (a1 : Int32) : ∃ st', ls_24 st a1 = some st' ∧ Rel (N + 1) st' := by
  obtain ⟨F, hv, hu, hG, hp, b0, b1, hkx, hi0, hi1⟩ := id h
  obtain ⟨x, hx, rfl⟩ := iI_ex a1
  by_cases c1 : 0 ≤ x ∧ x ≤ 1
  · obtain ⟨j, rfl⟩ := Int.eq_ofNat_of_zero_le c1.1
    unfold ls_24 f_X3_restore
    rw [z0, z1, bn_i (p_isWithin hx (by omega) (by omega)), b01_t c1, ← z0, ← z1, if_neg n10, p_copyFrom, p_copyFrom, bn_i rfl, bn_i rfl, hkx]
    rcases (show j = 0 ∨ j = 1 by omega) with rfl | rfl
    · cases hb : b0 with
      | false =>
        have e := (kx_and b0 b1).1.mpr hb
        rw [hb] at e
        rw [if_pos e, bn_i rfl, p_restoreNo (by omega) (by have := hi0.1; rw [hb] at this; exact this), bn_i rfl, if_pos rfl]
        refine ⟨_, rfl, ?_⟩
        have := Rel_up h
        rw [← hb, ← hkx]
        exact this
      | true =>
        have e : ¬ _ := fun q => by have := (kx_and b0 b1).1.mp q; rw [hb] at this; cases this
        rw [hb] at e
        obtain ⟨F', f1, f2, f3⟩ := hi0.2 hb
        rw [if_neg e, if_pos (show iI ((0 : Nat) : Int) = 0 from rfl), bn_i rfl, p_restore (by omega) (by have := hi0.1; rw [hb] at this; rw [this]; decide), bn_i rfl, if_pos rfl]
        refine ⟨_, rfl, F', rFV_copy f1 f3, rFM_restore f2 f3, gF_up f3, hp, b0, b1, ?_, rIm_up hi0, rIm_up hi1⟩
        rw [hb]
    · cases hb : b1 with
      | false =>
        have e := (kx_and b0 b1).2.mpr hb
        rw [hb] at e
        rw [if_pos e, bn_i rfl, p_restoreNo (by omega) (by have := hi1.1; rw [hb] at this; exact this), bn_i rfl, if_pos rfl]
        refine ⟨_, rfl, ?_⟩
        have := Rel_up h
        rw [← hb, ← hkx]
        exact this
      | true =>
        have e : ¬ _ := fun q => by have := (kx_and b0 b1).2.mp q; rw [hb] at this; cases this
        rw [hb] at e
        obtain ⟨F', f1, f2, f3⟩ := hi1.2 hb
        rw [if_neg e, if_neg (show ¬ iI ((1 : Nat) : Int) = 0 by decide), bn_i rfl, p_restore (by omega) (by have := hi1.1; rw [hb] at this; rw [this]; decide), bn_i rfl, if_pos rfl]
        refine ⟨_, rfl, F', rFV_copy f1 f3, rFM_restore f2 f3, gF_up f3, hp, b0, b1, ?_, rIm_up hi0, rIm_up hi1⟩
        rw [hb]
  · unfold ls_24 f_X3_restore f_X4_restore f_X4_restore_0
    rw [z0, z1, bn_i (p_isWithin hx (by omega) (by omega)), bn_i (p_in hx (by omega) (by omega)), b01_f c1, ← z0, if_pos rfl, if_pos rfl, bn_i rfl]
    refine ⟨st, ?_, Rel_up h⟩
    show (if (-2 : Int32) = -2 then some st else none) = some st
    rw [if_pos rfl]
