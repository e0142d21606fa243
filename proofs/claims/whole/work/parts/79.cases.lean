/-! THE LAW'S CASES: set, debt, due, told -/
theorem p_isDebt {u : MS} {S : SV} {B : Int} (hr : rB u S) (hg_ : gd B S) {m k : Int} (hm : Rg m) (hk : Rg k) : f_X4_isDebt u (iI m) (iI k) = some (b01 (isD S m k)) := by
  unfold f_X4_isDebt
  rw [bn_i (p_mMan hm)]
  by_cases c1 : 0 ≤ m ∧ m < 6
  · have hmm : m.toNat < 6 := by omega
    have h5 := (hg_.1 _ hmm).2.1
    rw [b01_t c1, if_neg n10, ck_I (by omega) (by omega) (by omega), iI_cl hm, (hr _ hmm).2.1, z1, iI_sub, z0, bn_i (p_in hk (by omega) (by omega)), ← z0, ← z1]
    by_cases c2 : 0 ≤ k ∧ k ≤ (hg S m.toNat : Int) - 1
    · rw [b01_t c2, if_neg n10, b01_t (by omega)]
    · rw [b01_f c2, if_pos rfl, b01_f (by omega)]
  · rw [b01_f c1, if_pos rfl, b01_f (by omega)]
theorem ixM3 (m k : Nat) (i : Nat) : iI (15 * (m : Int) + 3 * (k : Int)) + iI (i : Int) = iI ((15 * m + 3 * k + i : Nat) : Int) := by
  rw [iI_add]
  congr 1
theorem case7 {N : Nat} {st : LSt} (h : Rel N st) (a1 a2 a3 : Int32) : ∃ st', ls_7 st a1 a2 a3 = some st' ∧ Rel (N + 1) st' := by
  obtain ⟨F, hv, hu, hG, hp, hk⟩ := id h
  obtain ⟨x, hx, rfl⟩ := iI_ex a1
  obtain ⟨y, hy, rfl⟩ := iI_ex a2
  obtain ⟨z, hz, rfl⟩ := iI_ex a3
  unfold ls_7 f_X3_debt f_X4_debt
  rw [bn_i (p_hasDebt hv.1 hG.1 hx hy), bn_i (p_isDebt hu.1 hG.1 hx hy)]
  by_cases c1 : isD F.1 x y
  · obtain ⟨q1, q2, q3, q4⟩ := id c1
    obtain ⟨m, rfl⟩ := Int.eq_ofNat_of_zero_le q1
    obtain ⟨k, rfl⟩ := Int.eq_ofNat_of_zero_le q3
    have hm : m < 6 := by omega
    have hk' : k < hg F.1 m := by simpa using q4
    have h5 := (hG.1.1 m hm).2.1
    have hrow := (hu.1 m hm).2.2 k hk'
    rw [b01_t c1, if_neg n10, if_neg n10, bn_i (p_lenderOf hv.1 hG.1 hm hk'), bn_i (p_penceOf hv.1 hG.1 hm hk'), bn_i (p_dayOf hv.1 hG.1 hm hk'), z0, z1, z2, bn_i (p_in hz (by omega) (by omega)), bn_i p_at]
    simp (disch := omega) only [iI_eq]
    by_cases d0 : z = 0
    · rw [if_pos d0, b01_t (by omega), d0, show iI (0 : Int) = iI ((0 : Nat) : Int) from rfl, if_neg (by decide), ixM3, ck_N (by omega) (by omega), cl_N (by omega), bn_i rfl, bn_i rfl, if_pos (show iI (ln F.1 m k) = st.2.2.2.2.2.2.2.2.2.2.2.2.2.1 (15 * m + 3 * k + 0) from hrow.1.symm)]
      exact ⟨_, rfl, Rel_up h⟩
    · rw [if_neg d0]
      by_cases d1 : z = 1
      · rw [if_pos d1, b01_t (by omega), d1, show iI (1 : Int) = iI ((1 : Nat) : Int) from rfl, if_neg (by decide), ixM3, ck_N (by omega) (by omega), cl_N (by omega), bn_i rfl, bn_i rfl, if_pos hrow.2.1.symm]
        exact ⟨_, rfl, Rel_up h⟩
      · rw [if_neg d1]
        by_cases d2 : z = 2
        · rw [if_pos d2, b01_t (by omega), d2, show iI (2 : Int) = iI ((2 : Nat) : Int) from rfl, if_neg (by decide), ixM3, ck_N (by omega) (by omega), cl_N (by omega), bn_i rfl, bn_i rfl, if_pos hrow.2.2.symm]
          exact ⟨_, rfl, Rel_up h⟩
        · rw [if_neg d2, b01_f (by omega), if_pos (by decide), bn_i rfl, bn_i rfl, if_pos rfl]
          exact ⟨_, rfl, Rel_up h⟩
  · rw [b01_f c1, if_pos rfl, if_pos rfl, bn_i rfl, bn_i rfl, if_pos rfl]
    exact ⟨_, rfl, Rel_up h⟩
theorem case8 {N : Nat} {st : LSt} (h : Rel N st) (a1 : Int32) : ∃ st', ls_8 st a1 = some st' ∧ Rel (N + 1) st' := by
  obtain ⟨F, hv, hu, hG, hp, hk⟩ := id h
  obtain ⟨x, hx, rfl⟩ := iI_ex a1
  unfold ls_8 f_X3_due f_X4_due
  rw [bn_i (p_isMan hx), bn_i (p_mMan hx)]
  by_cases c1 : 0 ≤ x ∧ x < 6
  · obtain ⟨m, rfl⟩ := Int.eq_ofNat_of_zero_le c1.1
    have hm : m < 6 := by omega
    obtain ⟨a, b, c, e, ha, hb, hc⟩ := p_asNow st.2.2.2.2.2.2.2.2
    have hn : rN (setND st.2.2.2.2.2.2.2.2 st.2.2.2.2.2.2.2.2.2.2.1 a b c) F.1 := rM_cong hu.1 hG.1 ha hb hc
    rw [b01_t c1, if_neg n10, if_neg n10, bn_i (p_dueOf hv.1 hG.1 hv.2.1 hG.2.1 hm), bn_i e, bn_i (p_dueNow hn hG.1 hu.2.1 hG.2.1 hm), bn_i rfl, bn_i rfl, if_pos rfl]
    exact ⟨_, rfl, F, hv, hu, gF_up hG, hp, rK_up hk⟩
  · rw [b01_f c1, if_pos rfl, if_pos rfl, bn_i rfl, bn_i rfl, if_pos rfl]
    exact ⟨_, rfl, Rel_up h⟩
