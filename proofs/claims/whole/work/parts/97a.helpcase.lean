/-! THE LAW'S CASES: help, whom -/
theorem p_xleast {v : VS} {S : SV} {L : Int} (hr : rV v S) (hG : gd 700000 S) (hL : v.2.2.2.2.2.2.2.2.2.1 = iI L) (hL2 : 0 ≤ L ∧ L ≤ 2) {m : Nat} (hm : m < 6) (y : YS) : ∃ z y', f_X3_leastHelp v y (iI m) = some (iI z, y') ∧ hlp (QS L S) (mon S) m z ∧ z < 1000000 := by
  obtain ⟨y1, e1, e2, e3⟩ := p_load hr hG hL hL2 y
  obtain ⟨z, y', g1, g2⟩ := p_yleast (Wq_S hG) (fun i hi => ⟨(hG.1 i hi).1, hG.le hi⟩) hm e2
  refine ⟨z, y', ?_, g2⟩
  unfold f_X3_leastHelp
  rw [bn_i e1, bn_i g1]
theorem case15 {N : Nat} (hN : N ≤ 512) {st : LSt} (h : Rel N st) (a1 : Int32) : ∃ st', ls_15 st a1 = some st' ∧ Rel (N + 1) st' := by
  obtain ⟨F, hv, hu, hG, hp, hk⟩ := id h
  obtain ⟨x, hx, rfl⟩ := iI_ex a1
  have hG1 := gF_B hG hN
  unfold ls_15 f_X3_help f_X4_help
  rw [bn_i (p_isMan hx), bn_i (p_mMan hx)]
  by_cases c1 : 0 ≤ x ∧ x < 6
  · obtain ⟨m, rfl⟩ := Int.eq_ofNat_of_zero_le c1.1
    have hm : m < 6 := by omega
    obtain ⟨z, y', e1, e2, e3⟩ := p_xleast hv.1 hG1 hv.2.1 hG.2.1 hm st.2.2.2.2.2.2.1
    obtain ⟨z', a, b, k, f1, f2⟩ := p_helpOf hu.1 hG1 (by omega) hu.2.1 hG.2.1 hm
    have ez := hlp_one e2 f2
    subst ez
    rw [b01_t c1, if_neg n10, if_neg n10, bn_i e1, bn_i f1, bn_i rfl, bn_i rfl, if_pos rfl]
    exact ⟨_, rfl, F, hv, hu, gF_up hG, hp, rK_up hk⟩
  · rw [b01_f c1, if_pos rfl, if_pos rfl, bn_i rfl, bn_i rfl, if_pos rfl]
    exact ⟨_, rfl, Rel_up h⟩
/-- whom: best and least of the first n -/
def whF (z : Nat → Int) : Nat → Int × Int
  | 0 => (-6, 1000000)
  | n + 1 => if z n < 0 ∨ (whF z n).2 ≤ z n then whF z n else ((n : Int), z n)
theorem whF_ok {z : Nat → Int} (hz : ∀ m, m < 6 → (z m = -6 ∨ 0 ≤ z m) ∧ z m < 1000000) : ∀ n, n ≤ 6 → (((whF z n).1 = -6 ∧ (whF z n).2 = 1000000) ∨ (0 ≤ (whF z n).1 ∧ (whF z n).1 < 6)) ∧ 0 ≤ (whF z n).2 ∧ (whF z n).2 ≤ 1000000
  | 0, _ => ⟨Or.inl ⟨rfl, rfl⟩, by show (0 : Int) ≤ 1000000; omega, by show (1000000 : Int) ≤ 1000000; omega⟩
  | n + 1, h => by
    have ih := whF_ok hz n (by omega)
    have := hz n (by omega)
    show (((if z n < 0 ∨ (whF z n).2 ≤ z n then whF z n else ((n : Int), z n)).1 = -6 ∧ (if z n < 0 ∨ (whF z n).2 ≤ z n then whF z n else ((n : Int), z n)).2 = 1000000) ∨ (0 ≤ (if z n < 0 ∨ (whF z n).2 ≤ z n then whF z n else ((n : Int), z n)).1 ∧ (if z n < 0 ∨ (whF z n).2 ≤ z n then whF z n else ((n : Int), z n)).1 < 6)) ∧ 0 ≤ (if z n < 0 ∨ (whF z n).2 ≤ z n then whF z n else ((n : Int), z n)).2 ∧ (if z n < 0 ∨ (whF z n).2 ≤ z n then whF z n else ((n : Int), z n)).2 ≤ 1000000
    by_cases c : z n < 0 ∨ (whF z n).2 ≤ z n
    · rw [if_pos c]; exact ih
    · rw [if_neg c]
      refine ⟨Or.inr ⟨?_, ?_⟩, ?_, ?_⟩
      · show (0 : Int) ≤ n; omega
      · show (n : Int) < 6; omega
      · show 0 ≤ z n; omega
      · show z n ≤ 1000000; omega
theorem whF_n {z : Nat → Int} {n : Nat} (h : z n < 0 ∨ (whF z n).2 ≤ z n) : whF z (n + 1) = whF z n := if_pos h
theorem whF_y {z : Nat → Int} {n : Nat} (h : ¬ (z n < 0 ∨ (whF z n).2 ≤ z n)) : whF z (n + 1) = ((n : Int), z n) := if_neg h
theorem p_xwhom {v : VS} {S : SV} {L : Int} (hr : rV v S) (hG : gd 700000 S) (hL : v.2.2.2.2.2.2.2.2.2.1 = iI L) (hL2 : 0 ≤ L ∧ L ≤ 2) {z : Nat → Int} (hz : ∀ m, m < 6 → hlp (QS L S) (mon S) m (z m)) (hz2 : ∀ m, m < 6 → (z m = -6 ∨ 0 ≤ z m) ∧ z m < 1000000) (y : YS) : ∃ y', f_X3_whom v y = some (iI (whF z 6).1, y') := by
  have loop : ∀ (n m : Nat) (y : YS) (l : Int), m + n = 6 → ((whF z m).1 = -6 ∨ l = (whF z m).2) → ∃ y', lpx (st_X3_whom v) (y, iI (whF z m).1, iI l, iI m) = some (iI (whF z 6).1, y') := by
    intro n
    induction n with
    | zero =>
      intro m y l hm hl
      have : m = 6 := by omega
      subst this
      refine ⟨y, lpx_r ?_⟩
      show f_X3_whom_8 v _ _ _ _ = _
      unfold f_X3_whom_8
      rw [if_pos (by (first | omega | (simp (disch := omega) only [iI_le, iI_lt, iI_eq, iI_add, iI_sub, iI_mul, iI_neg, zm1, zm2, zm3, zm4, zm5, zm6, z0, z1, z2, z3, z4, z5, z6, z7, z8, z9, z10, z11, z12, z13, z14, z15, z20, z21, z22, z23, z24, z25, z30, z31, z33, z46, z48, z49, z57, z60, z62, z63, z64, z65, z70, z74, z75, z90, z96, z99, z102, z114, z115, z116, z117, z118, z126, z128, z236, z729, z999, z9999, z46656, z65537, z1000000] <;> omega)))]
    | succ n ih =>
      intro m y l hm hl
      have hm6 : m < 6 := by omega
      have hq := hz2 m hm6
      obtain ⟨ok1, ok2, ok3⟩ := whF_ok hz2 m (by omega)
      obtain ⟨w, y1, e1, e2, e3⟩ := p_xleast hr hG hL hL2 hm6 y
      have ew := hlp_one e2 (hz m hm6)
      subst ew
      have hst : st_X3_whom v (y, iI (whF z m).1, iI l, iI m) = (if iI (z m) = (-6 : Int32) then some (.inl (y1, iI (whF z m).1, iI l, iI ((m + 1 : Nat) : Int))) else if iI (whF z m).1 = (-6 : Int32) then some (.inl (y1, iI m, iI (z m), iI ((m + 1 : Nat) : Int))) else if iI l ≤ iI (z m) then some (.inl (y1, iI (whF z m).1, iI l, iI ((m + 1 : Nat) : Int))) else some (.inl (y1, iI m, iI (z m), iI ((m + 1 : Nat) : Int)))) := by
        show f_X3_whom_8 v _ _ _ _ = _
        unfold f_X3_whom_8 nm
        rw [if_neg (by (first | omega | (simp (disch := omega) only [iI_le, iI_lt, iI_eq, iI_add, iI_sub, iI_mul, iI_neg, zm1, zm2, zm3, zm4, zm5, zm6, z0, z1, z2, z3, z4, z5, z6, z7, z8, z9, z10, z11, z12, z13, z14, z15, z20, z21, z22, z23, z24, z25, z30, z31, z33, z46, z48, z49, z57, z60, z62, z63, z64, z65, z70, z74, z75, z90, z96, z99, z102, z114, z115, z116, z117, z118, z126, z128, z236, z729, z999, z9999, z46656, z65537, z1000000] <;> omega))), bn_i e1, iI_s (m)]
      by_cases c1 : z m < 0
      · rw [if_pos (by (first | omega | (simp (disch := omega) only [iI_le, iI_lt, iI_eq, iI_add, iI_sub, iI_mul, iI_neg, zm1, zm2, zm3, zm4, zm5, zm6, z0, z1, z2, z3, z4, z5, z6, z7, z8, z9, z10, z11, z12, z13, z14, z15, z20, z21, z22, z23, z24, z25, z30, z31, z33, z46, z48, z49, z57, z60, z62, z63, z64, z65, z70, z74, z75, z90, z96, z99, z102, z114, z115, z116, z117, z118, z126, z128, z236, z729, z999, z9999, z46656, z65537, z1000000] <;> omega)))] at hst
        obtain ⟨y', g⟩ := ih (m + 1) y1 l (by omega) (by rw [whF_n (Or.inl c1)]; exact hl)
        rw [whF_n (Or.inl c1)] at g
        exact ⟨y', (lpx_l hst).trans g⟩
      · rw [if_neg (by (first | omega | (simp (disch := omega) only [iI_le, iI_lt, iI_eq, iI_add, iI_sub, iI_mul, iI_neg, zm1, zm2, zm3, zm4, zm5, zm6, z0, z1, z2, z3, z4, z5, z6, z7, z8, z9, z10, z11, z12, z13, z14, z15, z20, z21, z22, z23, z24, z25, z30, z31, z33, z46, z48, z49, z57, z60, z62, z63, z64, z65, z70, z74, z75, z90, z96, z99, z102, z114, z115, z116, z117, z118, z126, z128, z236, z729, z999, z9999, z46656, z65537, z1000000] <;> omega)))] at hst
        by_cases c2 : (whF z m).1 = -6
        · rw [if_pos (by (first | omega | (simp (disch := omega) only [iI_le, iI_lt, iI_eq, iI_add, iI_sub, iI_mul, iI_neg, zm1, zm2, zm3, zm4, zm5, zm6, z0, z1, z2, z3, z4, z5, z6, z7, z8, z9, z10, z11, z12, z13, z14, z15, z20, z21, z22, z23, z24, z25, z30, z31, z33, z46, z48, z49, z57, z60, z62, z63, z64, z65, z70, z74, z75, z90, z96, z99, z102, z114, z115, z116, z117, z118, z126, z128, z236, z729, z999, z9999, z46656, z65537, z1000000] <;> omega)))] at hst
          have e : whF z (m + 1) = ((m : Int), z m) := whF_y (by omega)
          obtain ⟨y', g⟩ := ih (m + 1) y1 (z m) (by omega) (Or.inr (by rw [e]))
          rw [e] at g
          exact ⟨y', (lpx_l hst).trans g⟩
        · rw [if_neg (by (first | omega | (simp (disch := omega) only [iI_le, iI_lt, iI_eq, iI_add, iI_sub, iI_mul, iI_neg, zm1, zm2, zm3, zm4, zm5, zm6, z0, z1, z2, z3, z4, z5, z6, z7, z8, z9, z10, z11, z12, z13, z14, z15, z20, z21, z22, z23, z24, z25, z30, z31, z33, z46, z48, z49, z57, z60, z62, z63, z64, z65, z70, z74, z75, z90, z96, z99, z102, z114, z115, z116, z117, z118, z126, z128, z236, z729, z999, z9999, z46656, z65537, z1000000] <;> omega)))] at hst
          have el : l = (whF z m).2 := hl.resolve_left c2
          by_cases c3 : (whF z m).2 ≤ z m
          · rw [if_pos (by (first | omega | (simp (disch := omega) only [iI_le, iI_lt, iI_eq, iI_add, iI_sub, iI_mul, iI_neg, zm1, zm2, zm3, zm4, zm5, zm6, z0, z1, z2, z3, z4, z5, z6, z7, z8, z9, z10, z11, z12, z13, z14, z15, z20, z21, z22, z23, z24, z25, z30, z31, z33, z46, z48, z49, z57, z60, z62, z63, z64, z65, z70, z74, z75, z90, z96, z99, z102, z114, z115, z116, z117, z118, z126, z128, z236, z729, z999, z9999, z46656, z65537, z1000000] <;> omega)))] at hst
            obtain ⟨y', g⟩ := ih (m + 1) y1 l (by omega) (by rw [whF_n (Or.inr c3)]; exact hl)
            rw [whF_n (Or.inr c3)] at g
            exact ⟨y', (lpx_l hst).trans g⟩
          · rw [if_neg (by (first | omega | (simp (disch := omega) only [iI_le, iI_lt, iI_eq, iI_add, iI_sub, iI_mul, iI_neg, zm1, zm2, zm3, zm4, zm5, zm6, z0, z1, z2, z3, z4, z5, z6, z7, z8, z9, z10, z11, z12, z13, z14, z15, z20, z21, z22, z23, z24, z25, z30, z31, z33, z46, z48, z49, z57, z60, z62, z63, z64, z65, z70, z74, z75, z90, z96, z99, z102, z114, z115, z116, z117, z118, z126, z128, z236, z729, z999, z9999, z46656, z65537, z1000000] <;> omega)))] at hst
            have e : whF z (m + 1) = ((m : Int), z m) := whF_y (by omega)
            obtain ⟨y', g⟩ := ih (m + 1) y1 (z m) (by omega) (Or.inr (by rw [e]))
            rw [e] at g
            exact ⟨y', (lpx_l hst).trans g⟩
  have := loop 6 0 y (-6) (by omega) (Or.inl rfl)
  exact this
theorem p_mwhom {u : MS} {S : SV} {L : Int} (hu : rB u S) (hG : gd 700000 S) (hL : u.1 = iI L) (hL2 : 0 ≤ L ∧ L ≤ 2) {z : Nat → Int} (hz : ∀ m, m < 6 → hlp (QS L S) (mon S) m (z m)) (hz2 : ∀ m, m < 6 → (z m = -6 ∨ 0 ≤ z m) ∧ z m < 1000000) : ∃ d a b k, f_X4_whom u = some (iI (whF z 6).1, setND u d a b k) := by
  have loop : ∀ (n m : Nat) (d : Int32) (a b k : AI), m + n = 6 → ∃ d' a' b' k', lpx st_X4_whom (setND u d a b k, iI (whF z m).1, iI (whF z m).2, iI m) = some (iI (whF z 6).1, setND u d' a' b' k') := by
    intro n
    induction n with
    | zero =>
      intro m d a b k hm
      have : m = 6 := by omega
      subst this
      refine ⟨d, a, b, k, lpx_r ?_⟩
      show f_X4_whom_8 _ _ _ _ = _
      unfold f_X4_whom_8
      rw [if_pos (by (first | omega | (simp (disch := omega) only [iI_le, iI_lt, iI_eq, iI_add, iI_sub, iI_mul, iI_neg, zm1, zm2, zm3, zm4, zm5, zm6, z0, z1, z2, z3, z4, z5, z6, z7, z8, z9, z10, z11, z12, z13, z14, z15, z20, z21, z22, z23, z24, z25, z30, z31, z33, z46, z48, z49, z57, z60, z62, z63, z64, z65, z70, z74, z75, z90, z96, z99, z102, z114, z115, z116, z117, z118, z126, z128, z236, z729, z999, z9999, z46656, z65537, z1000000] <;> omega)))]
    | succ n ih =>
      intro m d a b k hm
      have hm6 : m < 6 := by omega
      have hq := hz2 m hm6
      obtain ⟨ok1, ok2, ok3⟩ := whF_ok hz2 m (by omega)
      obtain ⟨w, a1, b1, k1, e1, e2⟩ := p_helpOf (u := setND u d a b k) hu hG (by omega) hL hL2 hm6
      have ew := hlp_one e2 (hz m hm6)
      subst ew
      have e1' : f_X4_helpOf (setND u d a b k) (iI m) = some (iI (z m), setND u u.2.2.1 a1 b1 k1) := e1
      have hst : st_X4_whom (setND u d a b k, iI (whF z m).1, iI (whF z m).2, iI m) = (if iI (z m) < (0 : Int32) then some (.inl (setND u u.2.2.1 a1 b1 k1, iI (whF z m).1, iI (whF z m).2, iI ((m + 1 : Nat) : Int))) else if iI (whF z m).2 ≤ iI (z m) then some (.inl (setND u u.2.2.1 a1 b1 k1, iI (whF z m).1, iI (whF z m).2, iI ((m + 1 : Nat) : Int))) else some (.inl (setND u u.2.2.1 a1 b1 k1, iI m, iI (z m), iI ((m + 1 : Nat) : Int)))) := by
        show f_X4_whom_8 _ _ _ _ = _
        unfold f_X4_whom_8 nm
        rw [if_neg (by (first | omega | (simp (disch := omega) only [iI_le, iI_lt, iI_eq, iI_add, iI_sub, iI_mul, iI_neg, zm1, zm2, zm3, zm4, zm5, zm6, z0, z1, z2, z3, z4, z5, z6, z7, z8, z9, z10, z11, z12, z13, z14, z15, z20, z21, z22, z23, z24, z25, z30, z31, z33, z46, z48, z49, z57, z60, z62, z63, z64, z65, z70, z74, z75, z90, z96, z99, z102, z114, z115, z116, z117, z118, z126, z128, z236, z729, z999, z9999, z46656, z65537, z1000000] <;> omega))), bn_i e1', iI_s (m)]
      by_cases c1 : z m < 0
      · rw [if_pos (by (first | omega | (simp (disch := omega) only [iI_le, iI_lt, iI_eq, iI_add, iI_sub, iI_mul, iI_neg, zm1, zm2, zm3, zm4, zm5, zm6, z0, z1, z2, z3, z4, z5, z6, z7, z8, z9, z10, z11, z12, z13, z14, z15, z20, z21, z22, z23, z24, z25, z30, z31, z33, z46, z48, z49, z57, z60, z62, z63, z64, z65, z70, z74, z75, z90, z96, z99, z102, z114, z115, z116, z117, z118, z126, z128, z236, z729, z999, z9999, z46656, z65537, z1000000] <;> omega)))] at hst
        obtain ⟨d', a', b', k', g⟩ := ih (m + 1) u.2.2.1 a1 b1 k1 (by omega)
        rw [whF_n (Or.inl c1)] at g
        exact ⟨d', a', b', k', (lpx_l hst).trans g⟩
      · rw [if_neg (by (first | omega | (simp (disch := omega) only [iI_le, iI_lt, iI_eq, iI_add, iI_sub, iI_mul, iI_neg, zm1, zm2, zm3, zm4, zm5, zm6, z0, z1, z2, z3, z4, z5, z6, z7, z8, z9, z10, z11, z12, z13, z14, z15, z20, z21, z22, z23, z24, z25, z30, z31, z33, z46, z48, z49, z57, z60, z62, z63, z64, z65, z70, z74, z75, z90, z96, z99, z102, z114, z115, z116, z117, z118, z126, z128, z236, z729, z999, z9999, z46656, z65537, z1000000] <;> omega)))] at hst
        by_cases c3 : (whF z m).2 ≤ z m
        · rw [if_pos (by (first | omega | (simp (disch := omega) only [iI_le, iI_lt, iI_eq, iI_add, iI_sub, iI_mul, iI_neg, zm1, zm2, zm3, zm4, zm5, zm6, z0, z1, z2, z3, z4, z5, z6, z7, z8, z9, z10, z11, z12, z13, z14, z15, z20, z21, z22, z23, z24, z25, z30, z31, z33, z46, z48, z49, z57, z60, z62, z63, z64, z65, z70, z74, z75, z90, z96, z99, z102, z114, z115, z116, z117, z118, z126, z128, z236, z729, z999, z9999, z46656, z65537, z1000000] <;> omega)))] at hst
          obtain ⟨d', a', b', k', g⟩ := ih (m + 1) u.2.2.1 a1 b1 k1 (by omega)
          rw [whF_n (Or.inr c3)] at g
          exact ⟨d', a', b', k', (lpx_l hst).trans g⟩
        · rw [if_neg (by (first | omega | (simp (disch := omega) only [iI_le, iI_lt, iI_eq, iI_add, iI_sub, iI_mul, iI_neg, zm1, zm2, zm3, zm4, zm5, zm6, z0, z1, z2, z3, z4, z5, z6, z7, z8, z9, z10, z11, z12, z13, z14, z15, z20, z21, z22, z23, z24, z25, z30, z31, z33, z46, z48, z49, z57, z60, z62, z63, z64, z65, z70, z74, z75, z90, z96, z99, z102, z114, z115, z116, z117, z118, z126, z128, z236, z729, z999, z9999, z46656, z65537, z1000000] <;> omega)))] at hst
          obtain ⟨d', a', b', k', g⟩ := ih (m + 1) u.2.2.1 a1 b1 k1 (by omega)
          rw [whF_y (by omega)] at g
          exact ⟨d', a', b', k', (lpx_l hst).trans g⟩
  have hl := loop 6 0 u.2.2.2.2.2.2.2.2.2.2.1 u.2.2.2.2.2.2.2.2.2.2.2.1 u.2.2.2.2.2.2.2.2.2.2.2.2.1 u.2.2.2.2.2.2.2.2.2.2.2.2.2.1 (by omega)
  unfold f_X4_whom f_X4_whom_0
  rw [z1000000, zm6, z0]
  exact hl
theorem case16 {N : Nat} (hN : N ≤ 512) {st : LSt} (h : Rel N st) : ∃ st', ls_16 st = some st' ∧ Rel (N + 1) st' := by
  obtain ⟨F, hv, hu, hG, hp, hk⟩ := id h
  have hG1 := gF_B hG hN
  have ex : ∀ m, m < 6 → ∃ z, hlp (QS F.2.1 F.1) (mon F.1) m z ∧ z < 1000000 := fun m hm => by
    obtain ⟨z, y', e1, e2, e3⟩ := p_xleast hv.1 hG1 hv.2.1 hG.2.1 hm st.2.2.2.2.2.2.1
    exact ⟨z, e2, e3⟩
  obtain ⟨z, hz⟩ : ∃ z : Nat → Int, ∀ m, m < 6 → hlp (QS F.2.1 F.1) (mon F.1) m (z m) ∧ z m < 1000000 := ⟨fun m => if hm : m < 6 then Classical.choose (ex m hm) else 0, fun m hm => by
    dsimp only
    rw [dif_pos hm]
    exact Classical.choose_spec (ex m hm)⟩
  have hz2 : ∀ m, m < 6 → (z m = -6 ∨ 0 ≤ z m) ∧ z m < 1000000 := fun m hm => by
    obtain ⟨q1, q2⟩ := hz m hm
    refine ⟨?_, q2⟩
    rcases q1 with ⟨a, _⟩ | ⟨a, _⟩
    · exact Or.inl a
    · exact Or.inr a
  obtain ⟨y', e1⟩ := p_xwhom hv.1 hG1 hv.2.1 hG.2.1 (fun m hm => (hz m hm).1) hz2 st.2.2.2.2.2.2.1
  obtain ⟨d, a, b, k, f1⟩ := p_mwhom hu.1 hG1 hu.2.1 hG.2.1 (fun m hm => (hz m hm).1) hz2
  unfold ls_16
  rw [bn_i e1, bn_i f1, if_pos rfl]
  exact ⟨_, rfl, F, hv, hu, gF_up hG, hp, rK_up hk⟩
