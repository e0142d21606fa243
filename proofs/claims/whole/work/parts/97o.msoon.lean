/-! SOON in the reference, whole -/
theorem so_pow {u : MS} {T C : AI} (x1 x2 : Int32) : ∀ (j m : Nat) (P : AI), m + j = 6 → (∀ i, i < m + 1 → P i = iI (wt b6 i)) → ∃ P', lpx (st_X4_soon x1 x2) (.inl (setC u T P C, iI m)) = lpx (st_X4_soon x1 x2) (.inr (.inl (setC u T P' C, 0, 0))) ∧ pwOk P' := by
  intro j
  induction j with
  | zero =>
    intro m P hm hP
    have : m = 6 := by omega
    subst this
    refine ⟨P, lpx_l ?_, fun i hi => hP i (by omega)⟩
    show f_X4_soon_24 x1 x2 _ _ = _
    unfold f_X4_soon_24
    rw [if_pos (by (first | omega | (simp (disch := omega) only [iI_le, iI_lt, iI_eq, iI_add, iI_sub, iI_mul, iI_neg, zm1, zm2, zm3, zm4, zm5, zm6, z0, z1, z2, z3, z4, z5, z6, z7, z8, z9, z10, z11, z12, z13, z14, z15, z20, z21, z22, z23, z24, z25, z30, z31, z33, z46, z48, z49, z57, z60, z62, z63, z64, z65, z70, z74, z75, z90, z96, z99, z102, z114, z115, z116, z117, z118, z126, z128, z236, z729, z999, z9999, z46656, z65537, z1000000] <;> omega)))]
  | succ j ih =>
    intro m P hm hP
    have ew : iI ((6 : Int) * (wt b6 m : Int)) = iI (wt b6 (m + 1)) := by
      congr 1
      show (6 : Int) * (wt b6 m : Int) = ((wt b6 m * 6 : Nat) : Int)
      omega
    obtain ⟨P', f1, f2⟩ := ih (m + 1) (upd P (m + 1) (iI (wt b6 (m + 1)))) (by omega) (fun i hi => by
      by_cases e : i = m + 1
      · subst e; exact upd_s
      · rw [upd_n e]; exact hP i (by omega))
    refine ⟨P', (lpx_l ?_).trans f1, f2⟩
    show f_X4_soon_24 x1 x2 _ _ = _
    unfold f_X4_soon_24 nm
    dsimp only
    rw [if_neg (by (first | omega | (simp (disch := omega) only [iI_le, iI_lt, iI_eq, iI_add, iI_sub, iI_mul, iI_neg, zm1, zm2, zm3, zm4, zm5, zm6, z0, z1, z2, z3, z4, z5, z6, z7, z8, z9, z10, z11, z12, z13, z14, z15, z20, z21, z22, z23, z24, z25, z30, z31, z33, z46, z48, z49, z57, z60, z62, z63, z64, z65, z70, z74, z75, z90, z96, z99, z102, z114, z115, z116, z117, z118, z126, z128, z236, z729, z999, z9999, z46656, z65537, z1000000] <;> omega))), ck_N (by omega) (by omega), cl_N (by omega), iI_s (m), ck_N (by omega) (by omega), cl_N (by omega), hP m (by omega), z6, iI_mul, ew]
theorem so_want {u : MS} {T P C : AI} {L B : Int} {S : SV} (hu : rB u S) (hG : gd B S) (hT : ∀ m, m < 6 → ∀ t, t < hg S m → T (5 * m + t) = iI ((qk L (hg S m) (pe S m) t : Nat) : Int)) {a k : Nat} (ha : a < 6) (hk : k < hg S a) : ∀ (j t : Nat), t + j = hg S a → lpx (st_X4_soon (iI a) (iI k)) (.inr (.inl (setC u T P C, iI ((if tn L (pe S a) (hg S a) k ≤ t then tn L (pe S a) (hg S a) k else 0 : Nat) : Int), iI t))) = lpx (st_X4_soon (iI a) (iI k)) (.inr (.inr (.inl (setC u T P C, iI (tn L (pe S a) (hg S a) k), 0)))) := by
  have h5 := (hG.1 a ha).2.1
  have hsz : u.2.2.2.2.1 a = iI (hg S a) := (hu a ha).2.1
  have htl := tn_le L (pe S a) (hg S a) k
  intro j
  induction j with
  | zero =>
    intro t ht
    have : t = hg S a := by omega
    subst this
    refine lpx_l ?_
    show f_X4_soon_58 (iI a) (iI k) _ _ _ = _
    unfold f_X4_soon_58
    dsimp only
    rw [ck_N ha (by omega), cl_N (by omega), if_pos (by rw [hsz]; (first | omega | (simp (disch := omega) only [iI_le, iI_lt, iI_eq, iI_add, iI_sub, iI_mul, iI_neg, zm1, zm2, zm3, zm4, zm5, zm6, z0, z1, z2, z3, z4, z5, z6, z7, z8, z9, z10, z11, z12, z13, z14, z15, z20, z21, z22, z23, z24, z25, z30, z31, z33, z46, z48, z49, z57, z60, z62, z63, z64, z65, z70, z74, z75, z90, z96, z99, z102, z114, z115, z116, z117, z118, z126, z128, z236, z729, z999, z9999, z46656, z65537, z1000000] <;> omega))), if_pos htl]
  | succ j ih =>
    intro t ht
    refine (lpx_l ?_).trans (ih (t + 1) (by omega))
    obtain ⟨q1, q2⟩ := qk_ok L (hg S a) (pe S a) t (by omega)
    have hTt := hT a ha t (by omega)
    have hq := qk_iff (L := L) (p := pe S a) hk (t := t) (by omega)
    show f_X4_soon_58 (iI a) (iI k) _ _ _ = _
    unfold f_X4_soon_58 nm
    dsimp only
    rw [ck_N ha (by omega), cl_N (by omega), if_neg (by rw [hsz]; (first | omega | (simp (disch := omega) only [iI_le, iI_lt, iI_eq, iI_add, iI_sub, iI_mul, iI_neg, zm1, zm2, zm3, zm4, zm5, zm6, z0, z1, z2, z3, z4, z5, z6, z7, z8, z9, z10, z11, z12, z13, z14, z15, z20, z21, z22, z23, z24, z25, z30, z31, z33, z46, z48, z49, z57, z60, z62, z63, z64, z65, z70, z74, z75, z90, z96, z99, z102, z114, z115, z116, z117, z118, z126, z128, z236, z729, z999, z9999, z46656, z65537, z1000000] <;> omega))), ix5, ck_N (by omega) (by omega), cl_N (by omega)]
    by_cases c : qk L (hg S a) (pe S a) t = k
    · have e := hq.mp c
      rw [if_pos (by rw [hTt, c]), iI_s (t), if_pos (show tn L (pe S a) (hg S a) k ≤ t + 1 by omega), e]
    · have e : ¬ tn L (pe S a) (hg S a) k = t + 1 := fun q => c (hq.mpr q)
      rw [if_neg (by rw [hTt]; (first | omega | (simp (disch := omega) only [iI_le, iI_lt, iI_eq, iI_add, iI_sub, iI_mul, iI_neg, zm1, zm2, zm3, zm4, zm5, zm6, z0, z1, z2, z3, z4, z5, z6, z7, z8, z9, z10, z11, z12, z13, z14, z15, z20, z21, z22, z23, z24, z25, z30, z31, z33, z46, z48, z49, z57, z60, z62, z63, z64, z65, z70, z74, z75, z90, z96, z99, z102, z114, z115, z116, z117, z118, z126, z128, z236, z729, z999, z9999, z46656, z65537, z1000000] <;> omega))), iI_s (t)]
      by_cases c2 : tn L (pe S a) (hg S a) k ≤ t
      · rw [if_pos c2, if_pos (by omega)]
      · rw [if_neg c2, if_neg (by omega)]
theorem so_zero {u : MS} {T P : AI} (x1 x2 w : Int32) : ∀ (j k : Nat) (C : AI), k + j = 46656 → (∀ x, x < k → C x = if x = 0 then 1 else 0) → ∃ C', lpx (st_X4_soon x1 x2) (.inr (.inr (.inl (setC u T P C, w, iI k)))) = lpx (st_X4_soon x1 x2) (.inr (.inr (.inr (.inl (setC u T P C', w, 1000000, 0))))) ∧ ∀ x, x < 46656 → C' x = if x = 0 then 1 else 0 := by
  intro j
  induction j with
  | zero =>
    intro k C hk hC
    have : k = 46656 := by omega
    subst this
    refine ⟨C, lpx_l ?_, hC⟩
    show f_X4_soon_102 x1 x2 _ _ _ = _
    unfold f_X4_soon_102
    rw [if_pos (by (first | omega | (simp (disch := omega) only [iI_le, iI_lt, iI_eq, iI_add, iI_sub, iI_mul, iI_neg, zm1, zm2, zm3, zm4, zm5, zm6, z0, z1, z2, z3, z4, z5, z6, z7, z8, z9, z10, z11, z12, z13, z14, z15, z20, z21, z22, z23, z24, z25, z30, z31, z33, z46, z48, z49, z57, z60, z62, z63, z64, z65, z70, z74, z75, z90, z96, z99, z102, z114, z115, z116, z117, z118, z126, z128, z236, z729, z999, z9999, z46656, z65537, z1000000] <;> omega)))]
  | succ j ih =>
    intro k C hk hC
    obtain ⟨C', f1, f2⟩ := ih (k + 1) (upd C k (if k = 0 then 1 else 0)) (by omega) (fun x hx => by
      by_cases e : x = k
      · subst e; exact upd_s
      · rw [upd_n e]; exact hC x (by omega))
    refine ⟨C', (lpx_l ?_).trans f1, f2⟩
    show f_X4_soon_102 x1 x2 _ _ _ = _
    unfold f_X4_soon_102 nm
    dsimp only
    rw [if_neg (by (first | omega | (simp (disch := omega) only [iI_le, iI_lt, iI_eq, iI_add, iI_sub, iI_mul, iI_neg, zm1, zm2, zm3, zm4, zm5, zm6, z0, z1, z2, z3, z4, z5, z6, z7, z8, z9, z10, z11, z12, z13, z14, z15, z20, z21, z22, z23, z24, z25, z30, z31, z33, z46, z48, z49, z57, z60, z62, z63, z64, z65, z70, z74, z75, z90, z96, z99, z102, z114, z115, z116, z117, z118, z126, z128, z236, z729, z999, z9999, z46656, z65537, z1000000] <;> omega))), ck_N (by omega) (by omega), cl_N (by omega), nar1, nar0, iI_s (k)]
    by_cases c : k = 0
    · rw [if_pos (by (first | omega | (simp (disch := omega) only [iI_le, iI_lt, iI_eq, iI_add, iI_sub, iI_mul, iI_neg, zm1, zm2, zm3, zm4, zm5, zm6, z0, z1, z2, z3, z4, z5, z6, z7, z8, z9, z10, z11, z12, z13, z14, z15, z20, z21, z22, z23, z24, z25, z30, z31, z33, z46, z48, z49, z57, z60, z62, z63, z64, z65, z70, z74, z75, z90, z96, z99, z102, z114, z115, z116, z117, z118, z126, z128, z236, z729, z999, z9999, z46656, z65537, z1000000] <;> omega))), if_pos c]
    · rw [if_neg (by (first | omega | (simp (disch := omega) only [iI_le, iI_lt, iI_eq, iI_add, iI_sub, iI_mul, iI_neg, zm1, zm2, zm3, zm4, zm5, zm6, z0, z1, z2, z3, z4, z5, z6, z7, z8, z9, z10, z11, z12, z13, z14, z15, z20, z21, z22, z23, z24, z25, z30, z31, z33, z46, z48, z49, z57, z60, z62, z63, z64, z65, z70, z74, z75, z90, z96, z99, z102, z114, z115, z116, z117, z118, z126, z128, z236, z729, z999, z9999, z46656, z65537, z1000000] <;> omega))), if_neg c, ck_N (by omega) (by omega)]
theorem p_msoon {u : MS} {L B : Int} {S : SV} (hu : rB u S) (hG : gd B S) (hB : B ≤ 1000000) (hL : u.1 = iI L) (hL2 : 0 ≤ L ∧ L ≤ 2) {a k : Nat} (ha : a < 6) (hk : k < hg S a) : ∃ T P C y, f_X4_soon u (iI a) (iI k) = some (iI y, setC u T P C) ∧ ansS (QS L S) (mon S) a (tn L (pe S a) (hg S a) k) y := by
  have h5 := (hG.1 a ha).2.1
  have htl := tn_le L (pe S a) (hg S a) k
  have htp := tn_pos (L := L) (p := pe S a) hk
  obtain ⟨T, e1, e2⟩ := p_layTurns hu hG hL hL2
  obtain ⟨P, f1, f2⟩ := so_pow (u := u) (T := T) (C := u.2.2.2.2.2.2.2.2.2.2.2.2.2.2.2.2.2.2.1) (iI a) (iI k) 6 0 (upd u.2.2.2.2.2.2.2.2.2.2.2.2.2.2.2.2.2.1 0 1) (by omega) (fun i hi => by
    have : i = 0 := by omega
    subst this
    rw [upd_s]
    rfl)
  have g1 := so_want (C := u.2.2.2.2.2.2.2.2.2.2.2.2.2.2.2.2.2.2.1) (P := P) hu hG e2 ha hk (hg S a) 0 (by omega)
  rw [if_neg (by omega)] at g1
  obtain ⟨C, h1, h2⟩ := so_zero (u := u) (T := T) (P := P) (iI a) (iI k) (iI (tn L (pe S a) (hg S a) k)) 46656 0 u.2.2.2.2.2.2.2.2.2.2.2.2.2.2.2.2.2.2.1 (by omega) (fun x hx => absurd hx (by omega))
  obtain ⟨C', y, i1, i2⟩ := so_main hu hG hB e2 f2 ha (w := tn L (pe S a) (hg S a) k) (by omega) (iI k) 46656 0 C 1000000 (by omega) (fun x hx => by
    rw [h2 x hx]
    by_cases c : x = 0
    · rw [if_pos c, c01_t (show cm (QS L S) (mon S) 0 x from Or.inl c)]
    · rw [if_neg c, c01_f]
      rintro (q | ⟨d, m, q1, q2, q3, q4, q5⟩)
      · exact c q
      · omega) (Or.inl ⟨rfl, fun c _ hc => absurd hc (by omega)⟩)
  have hd : f_X4_isDebt u (iI a) (iI k) = some 1 := by
    rw [p_isDebt hu hG ⟨by omega, by omega⟩ ⟨by omega, by omega⟩, b01_t]
    exact ⟨by omega, by omega, by omega, by simpa using hk⟩
  refine ⟨T, P, C', y, ?_, i2⟩
  unfold f_X4_soon f_X4_soon_0 nm
  rw [bn_i hd, if_neg n10, bn_i e1]
  dsimp only
  rw [show (0 : Int32) = iI ((0 : Nat) : Int) from rfl, ck_N (by omega) (by omega), cl_N (by omega)]
  exact (f1.trans (g1.trans (h1.trans i1)))
