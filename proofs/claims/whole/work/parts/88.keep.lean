/-! KEEPING the reference's now -/
abbrev setB (u : MS) (d : Int32) (mo sz pi : AI) : MS := (u.1, u.2.1, d, mo, sz, pi, u.2.2.2.2.2.2)
theorem p_keepNow (u : MS) : ∃ mo sz pi, f_X4_keepNow u = some (setB u u.2.2.2.2.2.2.2.2.2.2.1 mo sz pi) ∧ (∀ x, x < 6 → mo x = u.2.2.2.2.2.2.2.2.2.2.2.1 x) ∧ (∀ x, x < 6 → sz x = u.2.2.2.2.2.2.2.2.2.2.2.2.1 x) ∧ ∀ x, x < 90 → pi x = u.2.2.2.2.2.2.2.2.2.2.2.2.2.1 x := by
  have loop2 : ∀ (a b : AI) (n i : Nat), i + n = 90 → lpx st_X4_keepNow (.inr (setB u u.2.2.2.2.2.2.2.2.2.2.1 a b (cpf u.2.2.2.2.2.2.2.2.2.2.2.2.2.1 u.2.2.2.2.2.1 i), iI i)) = some (setB u u.2.2.2.2.2.2.2.2.2.2.1 a b (cpf u.2.2.2.2.2.2.2.2.2.2.2.2.2.1 u.2.2.2.2.2.1 90)) := by
    intro a b n
    induction n with
    | zero =>
      intro i hi
      have : i = 90 := by omega
      subst this
      refine lpx_r ?_
      show f_X4_keepNow_48 _ _ = _
      unfold f_X4_keepNow_48
      rw [z90, if_pos ((iI_le ⟨by omega, by omega⟩ ⟨by omega, by omega⟩).mpr (by omega))]
    | succ n ih =>
      intro i hi
      refine (lpx_l ?_).trans (ih (i + 1) (by omega))
      show f_X4_keepNow_48 _ _ = _
      unfold f_X4_keepNow_48 nm
      dsimp only
      rw [z90, if_neg (fun q => by have := (iI_le ⟨by omega, by omega⟩ ⟨by omega, by omega⟩).mp q; omega), ck_N (by omega) (by omega), cl_N (by omega), iI_s, cpf_step]
  have loop1 : ∀ (n i : Nat), i + n = 6 → lpx st_X4_keepNow (.inl (setB u u.2.2.2.2.2.2.2.2.2.2.1 (cpf u.2.2.2.2.2.2.2.2.2.2.2.1 u.2.2.2.1 i) (cpf u.2.2.2.2.2.2.2.2.2.2.2.2.1 u.2.2.2.2.1 i) u.2.2.2.2.2.1, iI i)) = some (setB u u.2.2.2.2.2.2.2.2.2.2.1 (cpf u.2.2.2.2.2.2.2.2.2.2.2.1 u.2.2.2.1 6) (cpf u.2.2.2.2.2.2.2.2.2.2.2.2.1 u.2.2.2.2.1 6) (cpf u.2.2.2.2.2.2.2.2.2.2.2.2.2.1 u.2.2.2.2.2.1 90)) := by
    intro n
    induction n with
    | zero =>
      intro i hi
      have : i = 6 := by omega
      subst this
      have h2 := loop2 (cpf u.2.2.2.2.2.2.2.2.2.2.2.1 u.2.2.2.1 6) (cpf u.2.2.2.2.2.2.2.2.2.2.2.2.1 u.2.2.2.2.1 6) 90 0 (by omega)
      rw [cpf_0] at h2
      refine (lpx_l ?_).trans h2
      show f_X4_keepNow_10 _ _ = _
      unfold f_X4_keepNow_10
      rw [z6, if_pos ((iI_le ⟨by omega, by omega⟩ ⟨by omega, by omega⟩).mpr (by omega))]
      rfl
    | succ n ih =>
      intro i hi
      refine (lpx_l ?_).trans (ih (i + 1) (by omega))
      show f_X4_keepNow_10 _ _ = _
      unfold f_X4_keepNow_10 nm
      dsimp only
      rw [z6, if_neg (fun q => by have := (iI_le ⟨by omega, by omega⟩ ⟨by omega, by omega⟩).mp q; omega), ck_N (by omega) (by omega), cl_N (by omega), iI_s, cpf_step, cpf_step]
  have h1 := loop1 6 0 (by omega)
  rw [cpf_0, cpf_0] at h1
  refine ⟨_, _, _, h1, fun x hx => cpf_in hx, fun x hx => cpf_in hx, fun x hx => cpf_in hx⟩
