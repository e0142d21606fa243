/-! THE LAW'S CASES: set, say, seen, told, give -/
theorem n01 : ¬ (0 : Int32) = 1 := by decide
theorem case1 {N : Nat} {st : LSt} (h : Rel N st) (a1 a2 : Int32) : ∃ st', ls_1 st a1 a2 = some st' ∧ Rel (N + 1) st' := by
  obtain ⟨F, hv, hu, hG, hp, hk⟩ := id h
  obtain ⟨x, hx, rfl⟩ := iI_ex a1
  obtain ⟨y, hy, rfl⟩ := iI_ex a2
  unfold ls_1 f_X3_set f_X3_set_31 f_X4_set f_X4_set_21 f_X4_set_45 f_X4_set_59 nm
  dsimp only
  rw [z0, z1, z2, z9, bn_i (p_isWithin hy (by omega) (by omega)), bn_i (p_isWithin hy (by omega) (by omega)), bn_i (p_in hx (by omega) (by omega)), bn_i (p_in hy (by omega) (by omega)), bn_i (p_in hy (by omega) (by omega)), ← z0, ← z1]
  have e0 : iI x = (0 : Int32) ↔ x = 0 := by rw [z0]; exact iI_eq hx ⟨by omega, by omega⟩
  have e1 : iI x = (1 : Int32) ↔ x = 1 := by rw [z1]; exact iI_eq hx ⟨by omega, by omega⟩
  by_cases c0 : x = 0
  · have n1 : ¬ iI x = 1 := fun q => by have := e1.mp q; omega
    rw [b01_t (show (0 : Int) ≤ x ∧ x ≤ 1 by omega), if_neg n10]
    simp only [e0.mpr c0, n1, ↓reduceIte]
    by_cases c2 : 0 ≤ y ∧ y ≤ 2
    · rw [b01_t c2]
      simp only [n10, n01, ↓reduceIte]
      rw [bn_i rfl, bn_i rfl, if_pos (by rw [hv.2.1]; exact hu.2.1.symm)]
      refine ⟨_, rfl, (F.1, y, F.2.2), ?_, ?_, ?_, hp, rK_up hk⟩
      · exact ⟨hv.1, rfl, hv.2.2⟩
      · exact ⟨hu.1, rfl, hu.2.2⟩
      · have g := gF_up hG
        exact ⟨g.1, c2, g.2.2⟩
    · rw [b01_f c2]
      simp only [↓reduceIte]
      by_cases c9 : 0 ≤ y ∧ y ≤ 9
      · simp only [show ¬ (0 : Int32) = 1 by decide, ↓reduceIte]
        rw [bn_i rfl, bn_i rfl, if_pos rfl]
        exact ⟨_, rfl, Rel_up h⟩
      · simp only [show ¬ (0 : Int32) = 1 by decide, ↓reduceIte]
        rw [bn_i rfl, bn_i rfl, if_pos rfl]
        exact ⟨_, rfl, Rel_up h⟩
  · have n0 : ¬ iI x = 0 := fun q => c0 (e0.mp q)
    simp only [n0, ↓reduceIte]
    by_cases c1 : x = 1
    · rw [b01_t (show (0 : Int) ≤ x ∧ x ≤ 1 by omega)]
      simp only [e1.mpr c1, n10, ↓reduceIte]
      by_cases c9 : 0 ≤ y ∧ y ≤ 9
      · rw [b01_t c9]
        simp only [n10, ↓reduceIte]
        rw [bn_i rfl, bn_i rfl, if_pos (by rw [hv.2.2.1]; exact hu.2.2.1.symm)]
        refine ⟨_, rfl, (F.1, F.2.1, y, F.2.2.2), ?_, ?_, ?_, hp, rK_up hk⟩
        · exact ⟨hv.1, hv.2.1, rfl, hv.2.2.2⟩
        · exact ⟨hu.1, hu.2.1, rfl, hu.2.2.2⟩
        · have g := gF_up hG
          exact ⟨g.1, g.2.1, c9, g.2.2.2⟩
      · rw [b01_f c9]
        simp only [↓reduceIte]
        rw [bn_i rfl, bn_i rfl, if_pos rfl]
        exact ⟨_, rfl, Rel_up h⟩
    · have n1 : ¬ iI x = 1 := fun q => c1 (e1.mp q)
      rw [b01_f (show ¬ ((0 : Int) ≤ x ∧ x ≤ 1) by omega)]
      simp only [n1, ↓reduceIte]
      rw [bn_i rfl, bn_i rfl, if_pos rfl]
      exact ⟨_, rfl, Rel_up h⟩
theorem ch_ok : ∀ n : Nat, n < 127 → ((nI n).toUInt32 % 65536).toInt32 = nI n ∧ vp_nar .char (nI n) = nI n := by decide
theorem ch_I {z : Int} (h : 0 ≤ z ∧ z ≤ 126) : ((iI z).toUInt32 % 65536).toInt32 = iI z ∧ vp_nar .char (iI z) = iI z := by
  obtain ⟨n, rfl⟩ := Int.eq_ofNat_of_zero_le h.1
  rw [iI_nat]
  exact ch_ok n (by omega)
theorem case2 {N : Nat} {st : LSt} (h : Rel N st) (a1 : Int32) : ∃ st', ls_2 st a1 = some st' ∧ Rel (N + 1) st' := by
  obtain ⟨F, hv, hu, hG, ⟨n, s, hn, hd, hun, hs⟩, hk⟩ := id h
  obtain ⟨x, hx, rfl⟩ := iI_ex a1
  unfold ls_2 f_X3_say f_X4_say nm
  dsimp only
  rw [z33, z126, bn_i (p_isWithin hx (by omega) (by omega)), bn_i (p_in hx (by omega) (by omega))]
  by_cases c1 : 33 ≤ x ∧ x ≤ 126
  · obtain ⟨e1, e2⟩ := ch_I (z := x) (by omega)
    rw [b01_t c1, if_neg n10, if_neg n10, e1, hun]
    unfold f_X0_write nm
    dsimp only
    rw [hd, e2]
    by_cases c2 : n = 60
    · subst c2
      rw [show iI ((60 : Nat) : Int) = (60 : Int32) from z60.symm, if_neg (by decide), if_neg (by decide), bn_i rfl]
      dsimp only
      rw [if_pos rfl, if_pos rfl, bn_i rfl, bn_i rfl, if_pos rfl]
      exact ⟨_, rfl, Rel_up h⟩
    · rw [z0, if_neg (fun q => by have := (iI_lt ⟨by omega, by omega⟩ ⟨by omega, by omega⟩).mp q; omega), z60, if_pos ((iI_lt ⟨by omega, by omega⟩ ⟨by omega, by omega⟩).mpr (by omega)), if_neg (fun q => by have := (iI_eq ⟨by omega, by omega⟩ ⟨by omega, by omega⟩).mp q; omega), ck_N (by omega) (by omega), ck_N (by omega) (by omega), cl_N (by omega), bn_i rfl]
      dsimp only
      rw [← z0, if_neg n10, bn_i rfl, bn_i rfl, iI_s, if_pos rfl]
      refine ⟨_, rfl, F, hv, hu, gF_up hG, ⟨n + 1, fun i => if i = n then x else s i, by omega, rfl, rfl, fun i hi => ?_⟩, rK_up hk⟩
      show upd st.2.2.2.2.2.1.1 n (iI x) i = iI (if i = n then x else s i) ∧ upd st.2.2.2.2.2.2.2.2.2.2.2.2.2.2.2.2.2.1 n (iI x) i = iI (if i = n then x else s i) ∧ 33 ≤ (if i = n then x else s i) ∧ (if i = n then x else s i) ≤ 126
      by_cases ci : i = n
      · rw [if_pos ci, ci, upd_s, upd_s]
        exact ⟨rfl, rfl, c1⟩
      · rw [if_neg ci, upd_n ci, upd_n ci]
        exact hs i (by omega)
  · rw [b01_f c1, if_pos rfl, if_pos rfl, bn_i rfl, bn_i rfl, if_pos rfl]
    exact ⟨_, rfl, Rel_up h⟩
