/-! THE LAW'S CASES: seen, told, give -/
theorem case10 {N : Nat} {st : LSt} (h : Rel N st) (a1 a2 : Int32) : ∃ st', ls_10 st a1 a2 = some st' ∧ Rel (N + 1) st' := by
  obtain ⟨F, hv, hu, hG, hp, hk⟩ := id h
  obtain ⟨x, hx, rfl⟩ := iI_ex a1
  obtain ⟨y, hy, rfl⟩ := iI_ex a2
  unfold ls_10 f_X3_seen f_X4_seen nm
  dsimp only
  rw [bn_i (p_isMan hx), bn_i (p_mMan hx), z0, z9999, bn_i (p_isWithin hy (by omega) (by omega)), bn_i (p_in hy (by omega) (by omega)), ← z0]
  by_cases c1 : 0 ≤ x ∧ x < 6
  · rw [b01_t c1, if_neg n10, if_neg n10]
    by_cases c2 : 0 ≤ y ∧ y ≤ 9999
    · rw [b01_t c2, if_neg n10, if_neg n10]
      have h6 := hG.2.2.2.2.1
      unfold f_X2_addSight nm
      dsimp only
      rw [hv.2.2.2.2.1, hu.2.2.2.2.1]
      by_cases c3 : F.2.2.2.2.1 = 6
      · rw [c3, show iI ((6 : Nat) : Int) = (6 : Int32) from z6.symm, if_neg (by decide), if_neg (by decide), bn_i rfl]
        dsimp only
        rw [if_pos rfl, if_pos rfl, bn_i rfl, bn_i rfl, if_pos rfl]
        exact ⟨_, rfl, Rel_up h⟩
      · have e2 : (2 : Int32) * iI (F.2.2.2.2.1 : Int) = iI ((2 * F.2.2.2.2.1 : Nat) : Int) := by
          rw [z2, iI_mul]
          congr 1
        rw [z0, if_neg (fun q => by have := (iI_lt ⟨by omega, by omega⟩ ⟨by omega, by omega⟩).mp q; omega), z6, if_pos ((iI_lt ⟨by omega, by omega⟩ ⟨by omega, by omega⟩).mpr (by omega)), if_neg (fun q => by have := (iI_eq ⟨by omega, by omega⟩ ⟨by omega, by omega⟩).mp q; omega), ck_N (by omega) (by omega), ck_N (by omega) (by omega), cl_N (by omega), bn_i rfl, e2, iI_s (2 * F.2.2.2.2.1), ck_N (n := 2 * F.2.2.2.2.1) (by omega) (by omega), ck_N (n := 2 * F.2.2.2.2.1 + 1) (by omega) (by omega), cl_N (n := 2 * F.2.2.2.2.1) (by omega), cl_N (n := 2 * F.2.2.2.2.1 + 1) (by omega)]
        dsimp only
        rw [← z0, if_neg n10, bn_i rfl, bn_i rfl, iI_s, if_pos rfl]
        refine ⟨_, rfl, (F.1, F.2.1, F.2.2.1, F.2.2.2.1, F.2.2.2.2.1 + 1, fun i => if i = F.2.2.2.2.1 then x else F.2.2.2.2.2.1 i, fun i => if i = F.2.2.2.2.1 then y else F.2.2.2.2.2.2 i), ?_, ?_, ?_, hp, rK_up hk⟩
        · refine ⟨hv.1, hv.2.1, hv.2.2.1, hv.2.2.2.1, rfl, fun i hi => ?_⟩
          have hi : i < F.2.2.2.2.1 + 1 := hi
          show upd st.2.1.2.2.2.2.2.1 F.2.2.2.2.1 (iI x) i = iI (if i = F.2.2.2.2.1 then x else F.2.2.2.2.2.1 i) ∧ upd st.2.1.2.2.2.2.2.2.1 F.2.2.2.2.1 (iI y) i = iI (if i = F.2.2.2.2.1 then y else F.2.2.2.2.2.2 i)
          by_cases ci : i = F.2.2.2.2.1
          · rw [if_pos ci, if_pos ci, ci, upd_s, upd_s]; exact ⟨rfl, rfl⟩
          · rw [if_neg ci, if_neg ci, upd_n ci, upd_n ci]; exact hv.2.2.2.2.2 i (by omega)
        · refine ⟨hu.1, hu.2.1, hu.2.2.1, hu.2.2.2.1, rfl, fun i hi => ?_⟩
          have hi : i < F.2.2.2.2.1 + 1 := hi
          show upd (upd st.2.2.2.2.2.2.2.2.2.2.2.2.2.2.2.1 (2 * F.2.2.2.2.1) (iI x)) (2 * F.2.2.2.2.1 + 1) (iI y) (2 * i) = iI (if i = F.2.2.2.2.1 then x else F.2.2.2.2.2.1 i) ∧ upd (upd st.2.2.2.2.2.2.2.2.2.2.2.2.2.2.2.1 (2 * F.2.2.2.2.1) (iI x)) (2 * F.2.2.2.2.1 + 1) (iI y) (2 * i + 1) = iI (if i = F.2.2.2.2.1 then y else F.2.2.2.2.2.2 i)
          by_cases ci : i = F.2.2.2.2.1
          · rw [if_pos ci, if_pos ci, ci, upd_n (by omega), upd_s, upd_s]; exact ⟨rfl, rfl⟩
          · rw [if_neg ci, if_neg ci, upd_n (by omega), upd_n (by omega), upd_n (by omega), upd_n (by omega)]; exact hu.2.2.2.2.2 i (by omega)
        · have g := gF_up hG
          refine ⟨g.1, g.2.1, g.2.2.1, g.2.2.2.1, by show F.2.2.2.2.1 + 1 ≤ 6; omega, fun i hi => ?_⟩
          have hi : i < F.2.2.2.2.1 + 1 := hi
          show 0 ≤ (if i = F.2.2.2.2.1 then x else F.2.2.2.2.2.1 i) ∧ (if i = F.2.2.2.2.1 then x else F.2.2.2.2.2.1 i) < 6 ∧ 0 ≤ (if i = F.2.2.2.2.1 then y else F.2.2.2.2.2.2 i) ∧ (if i = F.2.2.2.2.1 then y else F.2.2.2.2.2.2 i) ≤ 9999
          by_cases ci : i = F.2.2.2.2.1
          · rw [if_pos ci, if_pos ci]; exact ⟨c1.1, c1.2, c2.1, c2.2⟩
          · rw [if_neg ci, if_neg ci]; exact g.2.2.2.2.2 i (by omega)
    · rw [b01_f c2, if_pos rfl, if_pos rfl, bn_i rfl, bn_i rfl, if_pos rfl]
      exact ⟨_, rfl, Rel_up h⟩
  · rw [b01_f c1, if_pos rfl, if_pos rfl, bn_i rfl, bn_i rfl, if_pos rfl]
    exact ⟨_, rfl, Rel_up h⟩
theorem case19 {N : Nat} {st : LSt} (h : Rel N st) (a1 a2 a3 : Int32) : ∃ st', ls_19 st a1 a2 a3 = some st' ∧ Rel (N + 1) st' := by
  obtain ⟨F, hv, hu, hG, hp, hk⟩ := id h
  obtain ⟨x, hx, rfl⟩ := iI_ex a1
  obtain ⟨y, hy, rfl⟩ := iI_ex a2
  obtain ⟨z, hz, rfl⟩ := iI_ex a3
  unfold ls_19 f_X3_give f_X4_give nm
  dsimp only
  rw [bn_i (p_hasDebt hv.1 hG.1 hx hy), bn_i (p_isDebt hu.1 hG.1 hx hy), bn_i (p_isMan hz), bn_i (p_mMan hz)]
  by_cases c1 : isD F.1 x y
  · obtain ⟨q1, q2, q3, q4⟩ := id c1
    obtain ⟨m, rfl⟩ := Int.eq_ofNat_of_zero_le q1
    obtain ⟨k, rfl⟩ := Int.eq_ofNat_of_zero_le q3
    have hm : m < 6 := by omega
    have hk' : k < hg F.1 m := by simpa using q4
    have h5 := (hG.1.1 m hm).2.1
    have hrow := (hu.1 m hm).2.2 k hk'
    rw [b01_t c1, if_neg n10, if_neg n10]
    by_cases c2 : 0 ≤ z ∧ z < 6
    · rw [b01_t c2, if_neg n10, if_neg n10]
      by_cases c3 : z = (m : Int)
      · rw [if_pos (by rw [c3]), if_pos (by rw [c3]), bn_i rfl, bn_i rfl, if_pos rfl]
        exact ⟨_, rfl, Rel_up h⟩
      · have n3 : ¬ iI z = iI (m : Int) := fun q => c3 ((iI_eq hz hx).mp q)
        unfold f_X2_changeLender nm
        dsimp only
        rw [if_neg n3, if_neg n3, bn_i (p_lenderOf hv.1 hG.1 hm hk'), bn_i (p_hasN hv.1 hG.1 hm hk'), if_neg n10, ixV, ck_N (by omega) (by omega), cl_N (by omega), bn_i p_at, bn_i p_at, ixA, ck_N (by omega) (by omega), ck_N (by omega) (by omega), cl_N (by omega), bn_i rfl, bn_i rfl, bn_i rfl, if_pos hrow.1.symm]
        refine ⟨_, rfl, ((mon F.1, hg F.1, fun a j => if a = m ∧ j = k then z else ln F.1 a j, F.1.2.2.2), F.2), ?_, ?_, ?_, hp, rK_up hk⟩
        · refine ⟨fun a ha => ?_, hv.2⟩
          obtain ⟨r1, r2, r3⟩ := hv.1 a ha
          have ha5 := (hG.1.1 a ha).2.1
          refine ⟨r1, r2, fun j hj => ?_⟩
          have hj : j < hg F.1 a := hj
          obtain ⟨s1, s2, s3⟩ := r3 j hj
          refine ⟨?_, s2, s3⟩
          show upd st.2.1.2.2.1 (m * 5 + k) (iI z) (a * 5 + j) = iI (if a = m ∧ j = k then z else ln F.1 a j)
          by_cases c : a = m ∧ j = k
          · rw [if_pos c, c.1, c.2, upd_s]
          · rw [if_neg c, upd_n (by omega), s1]
        · refine ⟨fun a ha => ?_, hu.2⟩
          obtain ⟨r1, r2, r3⟩ := hu.1 a ha
          have ha5 := (hG.1.1 a ha).2.1
          refine ⟨r1, r2, fun j hj => ?_⟩
          have hj : j < hg F.1 a := hj
          obtain ⟨s1, s2, s3⟩ := r3 j hj
          show upd st.2.2.2.2.2.2.2.2.2.2.2.2.2.1 (15 * m + 3 * k) (iI z) (15 * a + 3 * j) = iI (if a = m ∧ j = k then z else ln F.1 a j) ∧ upd st.2.2.2.2.2.2.2.2.2.2.2.2.2.1 (15 * m + 3 * k) (iI z) (15 * a + 3 * j + 1) = iI (pe F.1 a j) ∧ upd st.2.2.2.2.2.2.2.2.2.2.2.2.2.1 (15 * m + 3 * k) (iI z) (15 * a + 3 * j + 2) = iI (dy F.1 a j)
          refine ⟨?_, by rw [upd_n (by omega)]; exact s2, by rw [upd_n (by omega)]; exact s3⟩
          by_cases c : a = m ∧ j = k
          · rw [if_pos c, c.1, c.2, upd_s]
          · rw [if_neg c, upd_n (by omega), s1]
        · have g := gF_up hG
          refine ⟨⟨fun a ha => ⟨(g.1.1 a ha).1, (g.1.1 a ha).2.1, fun j hj => ?_⟩, g.1.2⟩, g.2⟩
          have q := (g.1.1 a ha).2.2 j hj
          refine ⟨?_, ?_, q.2.2⟩
          · show 0 ≤ (if a = m ∧ j = k then z else ln F.1 a j)
            split
            · exact c2.1
            · exact q.1
          · show (if a = m ∧ j = k then z else ln F.1 a j) < 6
            split
            · exact c2.2
            · exact q.2.1
    · rw [b01_f c2, if_pos rfl, if_pos rfl, bn_i rfl, bn_i rfl, if_pos rfl]
      exact ⟨_, rfl, Rel_up h⟩
  · rw [b01_f c1, if_pos rfl, if_pos rfl, bn_i rfl, bn_i rfl, if_pos rfl]
    exact ⟨_, rfl, Rel_up h⟩
