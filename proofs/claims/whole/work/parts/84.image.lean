/-! IMAGES -/
theorem iI_aN (a b : Nat) : iI (a : Int) + iI (b : Int) = iI ((a + b : Nat) : Int) := by
  rw [iI_add]
  congr 1
theorem w90 : (90 : Int32) = iI ((90 : Nat) : Int) := z90
theorem w96 : (96 : Int32) = iI ((96 : Nat) : Int) := z96
theorem w102 : (102 : Int32) = iI ((102 : Nat) : Int) := z102
theorem w114 : (114 : Int32) = iI ((114 : Nat) : Int) := z114
theorem w115 : (115 : Int32) = iI ((115 : Nat) : Int) := z115
theorem w116 : (116 : Int32) = iI ((116 : Nat) : Int) := z116
theorem w117 : (117 : Int32) = iI ((117 : Nat) : Int) := z117
theorem w6 : (6 : Int32) = iI ((6 : Nat) : Int) := z6
theorem w12 : (12 : Int32) = iI ((12 : Nat) : Int) := z12
abbrev setI (u : MS) (g k : AI) : MS := (u.1, u.2.1, u.2.2.1, u.2.2.2.1, u.2.2.2.2.1, u.2.2.2.2.2.1, u.2.2.2.2.2.2.1, u.2.2.2.2.2.2.2.1, u.2.2.2.2.2.2.2.2.1, u.2.2.2.2.2.2.2.2.2.1, u.2.2.2.2.2.2.2.2.2.2.1, u.2.2.2.2.2.2.2.2.2.2.2.1, u.2.2.2.2.2.2.2.2.2.2.2.2.1, u.2.2.2.2.2.2.2.2.2.2.2.2.2.1, u.2.2.2.2.2.2.2.2.2.2.2.2.2.2.1, u.2.2.2.2.2.2.2.2.2.2.2.2.2.2.2.1, u.2.2.2.2.2.2.2.2.2.2.2.2.2.2.2.2.1, u.2.2.2.2.2.2.2.2.2.2.2.2.2.2.2.2.2.1, u.2.2.2.2.2.2.2.2.2.2.2.2.2.2.2.2.2.2.1, g, k)
def imP (u : MS) (g0 : AI) (o a b c : Nat) (g : AI) : Prop := (∀ x, x < a → g (o + x) = u.2.2.2.2.2.1 x) ∧ (∀ x, x < b → g (o + 90 + x) = u.2.2.2.1 x ∧ g (o + 96 + x) = u.2.2.2.2.1 x) ∧ (∀ x, x < c → g (o + 102 + x) = u.2.2.2.2.2.2.2.1 x) ∧ ∀ x, (x < o ∨ o + 118 ≤ x) → g x = g0 x
theorem p_image {u : MS} {j : Nat} (hj : j < 2) : ∃ g, f_X4_image u (iI j) = some (1, setI u g (upd u.2.2.2.2.2.2.2.2.2.2.2.2.2.2.2.2.2.2.2.2 j 1)) ∧ imP u u.2.2.2.2.2.2.2.2.2.2.2.2.2.2.2.2.2.2.2.1 (118 * j) 90 6 12 g ∧ g (118 * j + 114) = u.1 ∧ g (118 * j + 115) = u.2.1 ∧ g (118 * j + 116) = u.2.2.1 ∧ g (118 * j + 117) = u.2.2.2.2.2.2.1 := by
  have loop3 : ∀ (n k : Nat) (g : AI), k + n = 12 → imP u u.2.2.2.2.2.2.2.2.2.2.2.2.2.2.2.2.2.2.2.1 (118 * j) 90 6 k g → ∃ g', lpx (st_X4_image (iI j)) (.inr (.inr (setI u g u.2.2.2.2.2.2.2.2.2.2.2.2.2.2.2.2.2.2.2.2, iI ((118 * j : Nat) : Int), iI k))) = some (1, setI u g' (upd u.2.2.2.2.2.2.2.2.2.2.2.2.2.2.2.2.2.2.2.2 j 1)) ∧ imP u u.2.2.2.2.2.2.2.2.2.2.2.2.2.2.2.2.2.2.2.1 (118 * j) 90 6 12 g' ∧ g' (118 * j + 114) = u.1 ∧ g' (118 * j + 115) = u.2.1 ∧ g' (118 * j + 116) = u.2.2.1 ∧ g' (118 * j + 117) = u.2.2.2.2.2.2.1 := by
    intro n
    induction n with
    | zero =>
      intro k g hk hi
      have : k = 12 := by omega
      subst this
      refine ⟨upd (upd (upd (upd g (118 * j + 114) u.1) (118 * j + 115) u.2.1) (118 * j + 116) u.2.2.1) (118 * j + 117) u.2.2.2.2.2.2.1, lpx_r ?_, ⟨fun x hx => ?_, fun x hx => ⟨?_, ?_⟩, fun x hx => ?_, fun x hx => ?_⟩, ?_, ?_, ?_, ?_⟩
      · show f_X4_image_95 (iI j) _ _ _ = _
        unfold f_X4_image_95 nm
        dsimp only
        rw [w12, if_pos ((iI_le ⟨by omega, by omega⟩ ⟨by omega, by omega⟩).mpr (by omega)), w114, iI_aN, w115, iI_aN, w116, iI_aN, w117, iI_aN, ck_N (by omega) (by omega), ck_N (by omega) (by omega), ck_N (by omega) (by omega), ck_N (by omega) (by omega), ck_N hj (by omega), cl_N (by omega), cl_N (by omega), cl_N (by omega), cl_N (by omega), cl_N (n := j) (by omega), show vp_nar .boolean 1 = 1 by decide]
      · rw [upd_n (by omega), upd_n (by omega), upd_n (by omega), upd_n (by omega)]; exact hi.1 x hx
      · rw [upd_n (by omega), upd_n (by omega), upd_n (by omega), upd_n (by omega)]; exact (hi.2.1 x hx).1
      · rw [upd_n (by omega), upd_n (by omega), upd_n (by omega), upd_n (by omega)]; exact (hi.2.1 x hx).2
      · rw [upd_n (by omega), upd_n (by omega), upd_n (by omega), upd_n (by omega)]; exact hi.2.2.1 x hx
      · rw [upd_n (by omega), upd_n (by omega), upd_n (by omega), upd_n (by omega)]; exact hi.2.2.2 x hx
      · rw [upd_n (by omega), upd_n (by omega), upd_n (by omega), upd_s]
      · rw [upd_n (by omega), upd_n (by omega), upd_s]
      · rw [upd_n (by omega), upd_s]
      · rw [upd_s]
    | succ n ih =>
      intro k g hk hi
      obtain ⟨g', h1, h2⟩ := ih (k + 1) (upd g (118 * j + 102 + k) (u.2.2.2.2.2.2.2.1 k)) (by omega) ⟨fun x hx => by rw [upd_n (by omega)]; exact hi.1 x hx, fun x hx => ⟨by rw [upd_n (by omega)]; exact (hi.2.1 x hx).1, by rw [upd_n (by omega)]; exact (hi.2.1 x hx).2⟩, fun x hx => by
        by_cases c : x = k
        · rw [c, upd_s]
        · rw [upd_n (by omega)]; exact hi.2.2.1 x (by omega), fun x hx => by rw [upd_n (by omega)]; exact hi.2.2.2 x hx⟩
      refine ⟨g', (lpx_l ?_).trans h1, h2⟩
      show f_X4_image_95 (iI j) _ _ _ = _
      unfold f_X4_image_95 nm
      dsimp only
      rw [w12, if_neg (fun q => by have := (iI_le ⟨by omega, by omega⟩ ⟨by omega, by omega⟩).mp q; omega), w102, iI_aN, iI_aN, iI_s, ck_N (n := k) (by omega) (by omega), ck_N (n := 118 * j + 102 + k) (by omega) (by omega), cl_N (n := k) (by omega), cl_N (n := 118 * j + 102 + k) (by omega)]
  have loop2 : ∀ (n k : Nat) (g : AI), k + n = 6 → imP u u.2.2.2.2.2.2.2.2.2.2.2.2.2.2.2.2.2.2.2.1 (118 * j) 90 k 0 g → ∃ g', lpx (st_X4_image (iI j)) (.inr (.inl (setI u g u.2.2.2.2.2.2.2.2.2.2.2.2.2.2.2.2.2.2.2.2, iI ((118 * j : Nat) : Int), iI k))) = lpx (st_X4_image (iI j)) (.inr (.inr (setI u g' u.2.2.2.2.2.2.2.2.2.2.2.2.2.2.2.2.2.2.2.2, iI ((118 * j : Nat) : Int), iI ((0 : Nat) : Int)))) ∧ imP u u.2.2.2.2.2.2.2.2.2.2.2.2.2.2.2.2.2.2.2.1 (118 * j) 90 6 0 g' := by
    intro n
    induction n with
    | zero =>
      intro k g hk hi
      have : k = 6 := by omega
      subst this
      refine ⟨g, lpx_l ?_, hi⟩
      show f_X4_image_47 (iI j) _ _ _ = _
      unfold f_X4_image_47
      rw [w6, if_pos ((iI_le ⟨by omega, by omega⟩ ⟨by omega, by omega⟩).mpr (by omega))]
      rfl
    | succ n ih =>
      intro k g hk hi
      obtain ⟨g', h1, h2⟩ := ih (k + 1) (upd (upd g (118 * j + 90 + k) (u.2.2.2.1 k)) (118 * j + 96 + k) (u.2.2.2.2.1 k)) (by omega) ⟨fun x hx => by rw [upd_n (by omega), upd_n (by omega)]; exact hi.1 x hx, fun x hx => by
        by_cases c : x = k
        · subst c
          refine ⟨by rw [upd_n (by omega), upd_s], by rw [upd_s]⟩
        · refine ⟨by rw [upd_n (by omega), upd_n (by omega)]; exact (hi.2.1 x (by omega)).1, by rw [upd_n (by omega), upd_n (by omega)]; exact (hi.2.1 x (by omega)).2⟩, fun x hx => absurd hx (by omega), fun x hx => by rw [upd_n (by omega), upd_n (by omega)]; exact hi.2.2.2 x hx⟩
      refine ⟨g', (lpx_l ?_).trans h1, h2⟩
      show f_X4_image_47 (iI j) _ _ _ = _
      unfold f_X4_image_47 nm
      dsimp only
      rw [w6, if_neg (fun q => by have := (iI_le ⟨by omega, by omega⟩ ⟨by omega, by omega⟩).mp q; omega), w90, iI_aN, iI_aN, w96, iI_aN, iI_aN, iI_s, ck_N (by omega) (by omega), ck_N (by omega) (by omega), ck_N (by omega) (by omega), cl_N (n := k) (by omega), cl_N (n := 118 * j + 90 + k) (by omega), cl_N (n := 118 * j + 96 + k) (by omega)]
  have loop1 : ∀ (n k : Nat) (g : AI), k + n = 90 → imP u u.2.2.2.2.2.2.2.2.2.2.2.2.2.2.2.2.2.2.2.1 (118 * j) k 0 0 g → ∃ g', lpx (st_X4_image (iI j)) (.inl (setI u g u.2.2.2.2.2.2.2.2.2.2.2.2.2.2.2.2.2.2.2.2, iI ((118 * j : Nat) : Int), iI k)) = lpx (st_X4_image (iI j)) (.inr (.inl (setI u g' u.2.2.2.2.2.2.2.2.2.2.2.2.2.2.2.2.2.2.2.2, iI ((118 * j : Nat) : Int), iI ((0 : Nat) : Int)))) ∧ imP u u.2.2.2.2.2.2.2.2.2.2.2.2.2.2.2.2.2.2.2.1 (118 * j) 90 0 0 g' := by
    intro n
    induction n with
    | zero =>
      intro k g hk hi
      have : k = 90 := by omega
      subst this
      refine ⟨g, lpx_l ?_, hi⟩
      show f_X4_image_19 (iI j) _ _ _ = _
      unfold f_X4_image_19
      rw [w90, if_pos ((iI_le ⟨by omega, by omega⟩ ⟨by omega, by omega⟩).mpr (by omega))]
      rfl
    | succ n ih =>
      intro k g hk hi
      obtain ⟨g', h1, h2⟩ := ih (k + 1) (upd g (118 * j + k) (u.2.2.2.2.2.1 k)) (by omega) ⟨fun x hx => by
        by_cases c : x = k
        · rw [c, upd_s]
        · rw [upd_n (by omega)]; exact hi.1 x (by omega), fun x hx => absurd hx (by omega), fun x hx => absurd hx (by omega), fun x hx => by rw [upd_n (by omega)]; exact hi.2.2.2 x hx⟩
      refine ⟨g', (lpx_l ?_).trans h1, h2⟩
      show f_X4_image_19 (iI j) _ _ _ = _
      unfold f_X4_image_19 nm
      dsimp only
      rw [w90, if_neg (fun q => by have := (iI_le ⟨by omega, by omega⟩ ⟨by omega, by omega⟩).mp q; omega), iI_aN, iI_s, ck_N (by omega) (by omega), ck_N (by omega) (by omega), cl_N (n := k) (by omega), cl_N (n := 118 * j + k) (by omega)]
  obtain ⟨g1, h1, i1⟩ := loop1 90 0 u.2.2.2.2.2.2.2.2.2.2.2.2.2.2.2.2.2.2.2.1 (by omega) ⟨fun x hx => absurd hx (by omega), fun x hx => absurd hx (by omega), fun x hx => absurd hx (by omega), fun x _ => rfl⟩
  obtain ⟨g2, h2, i2⟩ := loop2 6 0 g1 (by omega) i1
  obtain ⟨g3, h3, i3⟩ := loop3 12 0 g2 (by omega) i2
  refine ⟨g3, ?_, i3⟩
  unfold f_X4_image f_X4_image_0 nm
  rw [z0, z1, bn_i (p_in ⟨by omega, by omega⟩ (by omega) (by omega)), b01_t (by omega), if_neg (by rw [← z0]; exact n10), z118, iI_mul]
  exact h1.trans (h2.trans h3)
