/-! RESTORING, in the reference -/
abbrev setR (u : MS) (l r d : Int32) (mo sz pi : AI) (sg : Int32) (si : AI) : MS := (l, r, d, mo, sz, pi, sg, si, u.2.2.2.2.2.2.2.2)
abbrev imG (u : MS) : AI := u.2.2.2.2.2.2.2.2.2.2.2.2.2.2.2.2.2.2.2.1
theorem p_restore {u : MS} {j : Nat} (hj : j < 2) (hk : ¬ u.2.2.2.2.2.2.2.2.2.2.2.2.2.2.2.2.2.2.2.2 j = 0) : f_X4_restore u (iI j) = some (1, setR u (imG u (118 * j + 114)) (imG u (118 * j + 115)) (imG u (118 * j + 116)) (cpf (fun x => imG u (118 * j + 90 + x)) u.2.2.2.1 6) (cpf (fun x => imG u (118 * j + 96 + x)) u.2.2.2.2.1 6) (cpf (fun x => imG u (118 * j + x)) u.2.2.2.2.2.1 90) (imG u (118 * j + 117)) (cpf (fun x => imG u (118 * j + 102 + x)) u.2.2.2.2.2.2.2.1 12)) := by
  have loop3 : ∀ (mo sz pi : AI) (n k : Nat), k + n = 12 → lpx (st_X4_restore (iI j)) (.inr (.inr (setR u u.1 u.2.1 u.2.2.1 mo sz pi u.2.2.2.2.2.2.1 (cpf (fun x => imG u (118 * j + 102 + x)) u.2.2.2.2.2.2.2.1 k), iI ((118 * j : Nat) : Int), iI k))) = some (1, setR u (imG u (118 * j + 114)) (imG u (118 * j + 115)) (imG u (118 * j + 116)) mo sz pi (imG u (118 * j + 117)) (cpf (fun x => imG u (118 * j + 102 + x)) u.2.2.2.2.2.2.2.1 12)) := by
    intro mo sz pi n
    induction n with
    | zero =>
      intro k hk
      have : k = 12 := by omega
      subst this
      refine lpx_r ?_
      show f_X4_restore_107 (iI j) _ _ _ = _
      unfold f_X4_restore_107 nm
      dsimp only
      rw [w12, if_pos ((iI_le ⟨by omega, by omega⟩ ⟨by omega, by omega⟩).mpr (by omega)), w114, iI_aN, w115, iI_aN, w116, iI_aN, w117, iI_aN, ck_N (by omega) (by omega), ck_N (by omega) (by omega), ck_N (by omega) (by omega), ck_N (by omega) (by omega), cl_N (by omega), cl_N (by omega), cl_N (by omega), cl_N (by omega)]
    | succ n ih =>
      intro k hk
      refine (lpx_l ?_).trans (ih (k + 1) (by omega))
      show f_X4_restore_107 (iI j) _ _ _ = _
      unfold f_X4_restore_107 nm
      dsimp only
      rw [w12, if_neg (fun q => by have := (iI_le ⟨by omega, by omega⟩ ⟨by omega, by omega⟩).mp q; omega), w102, iI_aN, iI_aN, iI_s, ck_N (n := 118 * j + 102 + k) (by omega) (by omega), ck_N (n := k) (by omega) (by omega), cl_N (n := k) (by omega), cl_N (n := 118 * j + 102 + k) (by omega), ← cpf_step]
  have loop2 : ∀ (pi : AI) (n k : Nat), k + n = 6 → lpx (st_X4_restore (iI j)) (.inr (.inl (setR u u.1 u.2.1 u.2.2.1 (cpf (fun x => imG u (118 * j + 90 + x)) u.2.2.2.1 k) (cpf (fun x => imG u (118 * j + 96 + x)) u.2.2.2.2.1 k) pi u.2.2.2.2.2.2.1 u.2.2.2.2.2.2.2.1, iI ((118 * j : Nat) : Int), iI k))) = some (1, setR u (imG u (118 * j + 114)) (imG u (118 * j + 115)) (imG u (118 * j + 116)) (cpf (fun x => imG u (118 * j + 90 + x)) u.2.2.2.1 6) (cpf (fun x => imG u (118 * j + 96 + x)) u.2.2.2.2.1 6) pi (imG u (118 * j + 117)) (cpf (fun x => imG u (118 * j + 102 + x)) u.2.2.2.2.2.2.2.1 12)) := by
    intro pi n
    induction n with
    | zero =>
      intro k hk
      have : k = 6 := by omega
      subst this
      have h3 := loop3 (cpf (fun x => imG u (118 * j + 90 + x)) u.2.2.2.1 6) (cpf (fun x => imG u (118 * j + 96 + x)) u.2.2.2.2.1 6) pi 12 0 (by omega)
      rw [cpf_0] at h3
      refine (lpx_l ?_).trans h3
      show f_X4_restore_59 (iI j) _ _ _ = _
      unfold f_X4_restore_59
      rw [w6, if_pos ((iI_le ⟨by omega, by omega⟩ ⟨by omega, by omega⟩).mpr (by omega))]
      rfl
    | succ n ih =>
      intro k hk
      refine (lpx_l ?_).trans (ih (k + 1) (by omega))
      show f_X4_restore_59 (iI j) _ _ _ = _
      unfold f_X4_restore_59 nm
      dsimp only
      rw [w6, if_neg (fun q => by have := (iI_le ⟨by omega, by omega⟩ ⟨by omega, by omega⟩).mp q; omega), w90, iI_aN, iI_aN, w96, iI_aN, iI_aN, iI_s, ck_N (by omega) (by omega), ck_N (by omega) (by omega), ck_N (by omega) (by omega), cl_N (n := k) (by omega), cl_N (n := 118 * j + 90 + k) (by omega), cl_N (n := 118 * j + 96 + k) (by omega), ← cpf_step, ← cpf_step]
  have loop1 : ∀ (n k : Nat), k + n = 90 → lpx (st_X4_restore (iI j)) (.inl (setR u u.1 u.2.1 u.2.2.1 u.2.2.2.1 u.2.2.2.2.1 (cpf (fun x => imG u (118 * j + x)) u.2.2.2.2.2.1 k) u.2.2.2.2.2.2.1 u.2.2.2.2.2.2.2.1, iI ((118 * j : Nat) : Int), iI k)) = some (1, setR u (imG u (118 * j + 114)) (imG u (118 * j + 115)) (imG u (118 * j + 116)) (cpf (fun x => imG u (118 * j + 90 + x)) u.2.2.2.1 6) (cpf (fun x => imG u (118 * j + 96 + x)) u.2.2.2.2.1 6) (cpf (fun x => imG u (118 * j + x)) u.2.2.2.2.2.1 90) (imG u (118 * j + 117)) (cpf (fun x => imG u (118 * j + 102 + x)) u.2.2.2.2.2.2.2.1 12)) := by
    intro n
    induction n with
    | zero =>
      intro k hk
      have : k = 90 := by omega
      subst this
      have h2 := loop2 (cpf (fun x => imG u (118 * j + x)) u.2.2.2.2.2.1 90) 6 0 (by omega)
      rw [cpf_0, cpf_0] at h2
      refine (lpx_l ?_).trans h2
      show f_X4_restore_31 (iI j) _ _ _ = _
      unfold f_X4_restore_31
      rw [w90, if_pos ((iI_le ⟨by omega, by omega⟩ ⟨by omega, by omega⟩).mpr (by omega))]
      rfl
    | succ n ih =>
      intro k hk
      refine (lpx_l ?_).trans (ih (k + 1) (by omega))
      show f_X4_restore_31 (iI j) _ _ _ = _
      unfold f_X4_restore_31 nm
      dsimp only
      rw [w90, if_neg (fun q => by have := (iI_le ⟨by omega, by omega⟩ ⟨by omega, by omega⟩).mp q; omega), iI_aN, iI_s, ck_N (by omega) (by omega), ck_N (by omega) (by omega), cl_N (n := k) (by omega), cl_N (n := 118 * j + k) (by omega), ← cpf_step]
  have h1 := loop1 90 0 (by omega)
  rw [cpf_0] at h1
  unfold f_X4_restore f_X4_restore_0 nm
  rw [z0, z1, bn_i (p_in ⟨by omega, by omega⟩ (by omega) (by omega)), b01_t (by omega), if_neg (by rw [← z0]; exact n10), ck_N hj (by omega), cl_N (by omega), ← z0, if_neg hk, z118, iI_mul]
  exact h1
