/-! THE LAW'S CASE: pawn -/
theorem sumN_cong {f g : Nat → Int} : ∀ n, (∀ j, j < n → f j = g j) → sumN f n = sumN g n
  | 0, _ => rfl
  | n + 1, h => by
    unfold sumN
    rw [sumN_cong n (fun j hj => h j (by omega)), h n (by omega)]
theorem sumN_add (f g : Nat → Int) : ∀ n, sumN (fun j => f j + g j) n = sumN f n + sumN g n
  | 0 => rfl
  | n + 1 => by
    unfold sumN
    rw [sumN_add f g n]
    omega
theorem sumN_0 {f : Nat → Int} : ∀ n, (∀ j, j < n → f j = 0) → sumN f n = 0
  | 0, _ => rfl
  | n + 1, h => by
    unfold sumN
    rw [sumN_0 n (fun j hj => h j (by omega)), h n (by omega)]
    omega
theorem sumN_one {p : Nat → Int} {a : Nat} : ∀ n, a < n → sumN (fun j => if j = a then p j else 0) n = p a
  | 0, h => absurd h (by omega)
  | n + 1, h => by
    unfold sumN
    by_cases e : n = a
    · subst e
      rw [if_pos rfl, sumN_0 n (fun j hj => if_neg (by omega))]
      omega
    · rw [if_neg e, sumN_one n (by omega)]
      omega
/-- pence of those that are paid by the T-th paying -/
theorem sum_turn {L : Int} {p : Nat → Int} {h : Nat} : ∀ T, T ≤ h → sumN (fun j => if tn L p h j ≤ T then p j else 0) h = sumN (fun t => p (qk L h p t)) T
  | 0, _ => by
    rw [sumN_0 h (fun j hj => if_neg (by have := tn_pos (L := L) (p := p) hj; omega))]
    rfl
  | T + 1, hT => by
    have ih := sum_turn (L := L) (p := p) (h := h) T (by omega)
    show _ = sumN (fun t => p (qk L h p t)) T + p (qk L h p T)
    rw [← ih, ← sumN_one (p := p) h (qk_ok L h p T (by omega)).1, ← sumN_add]
    refine sumN_cong h (fun j hj => ?_)
    have e := qk_iff (L := L) (p := p) hj (show T < h by omega)
    by_cases c : tn L p h j = T + 1
    · rw [if_pos (by omega), if_neg (by omega), if_pos (e.mpr c).symm]
      omega
    · rw [if_neg (show ¬ j = qk L h p T from fun q => c (e.mp q.symm))]
      by_cases c2 : tn L p h j ≤ T
      · rw [if_pos (show tn L p h j ≤ T + 1 by omega), if_pos c2]; omega
      · rw [if_neg (show ¬ tn L p h j ≤ T + 1 by omega), if_neg c2]; omega
theorem p_penceTill {v : VS} {S : SV} {B L : Int} (hr : rV v S) (hG : gd B S) (hL : v.2.2.2.2.2.2.2.2.2.1 = iI L) (hL2 : 0 ≤ L ∧ L ≤ 2) {m k : Nat} (hm : m < 6) (hk : k < hg S m) : f_X2_penceTill v (iI m) (iI k) = some (iI (sumN (fun t => pe S m (qk L (hg S m) (pe S m) t)) (tn L (pe S m) (hg S m) k))) := by
  have h5 := (hG.1 m hm).2.1
  rw [← sum_turn _ (tn_le _ _ _ _)]
  have loop : ∀ (n j : Nat), j + n = hg S m → lpx (st_X2_penceTill v (iI m) (iI k)) (iI (sumN (fun j => if tn L (pe S m) (hg S m) j ≤ tn L (pe S m) (hg S m) k then pe S m j else 0) j), iI j) = some (iI (sumN (fun j => if tn L (pe S m) (hg S m) j ≤ tn L (pe S m) (hg S m) k then pe S m j else 0) (hg S m))) := by
    intro n
    induction n with
    | zero =>
      intro j hj
      have : j = hg S m := by omega
      subst this
      refine lpx_r ?_
      show f_X2_penceTill_5 v (iI m) (iI k) _ _ = _
      unfold f_X2_penceTill_5
      rw [bn_i (p_debtsOf hr hm), if_pos (by (first | omega | (simp (disch := omega) only [iI_le, iI_lt, iI_eq, iI_add, iI_sub, iI_mul, iI_neg, zm1, zm2, zm3, zm4, zm5, zm6, z0, z1, z2, z3, z4, z5, z6, z7, z8, z9, z10, z11, z12, z13, z14, z15, z20, z21, z22, z23, z24, z25, z30, z31, z33, z46, z48, z49, z57, z60, z62, z63, z64, z65, z70, z74, z75, z90, z96, z99, z102, z114, z115, z116, z117, z118, z126, z128, z236, z729, z999, z9999, z46656, z65537, z1000000] <;> omega)))]
    | succ n ih =>
      intro j hj
      refine (lpx_l ?_).trans (ih (j + 1) (by omega))
      show f_X2_penceTill_5 v (iI m) (iI k) _ _ = _
      unfold f_X2_penceTill_5 nm
      rw [bn_i (p_debtsOf hr hm), if_neg (by (first | omega | (simp (disch := omega) only [iI_le, iI_lt, iI_eq, iI_add, iI_sub, iI_mul, iI_neg, zm1, zm2, zm3, zm4, zm5, zm6, z0, z1, z2, z3, z4, z5, z6, z7, z8, z9, z10, z11, z12, z13, z14, z15, z20, z21, z22, z23, z24, z25, z30, z31, z33, z46, z48, z49, z57, z60, z62, z63, z64, z65, z70, z74, z75, z90, z96, z99, z102, z114, z115, z116, z117, z118, z126, z128, z236, z729, z999, z9999, z46656, z65537, z1000000] <;> omega))), bn_i (p_notLater hr hG hL hL2 hm (j := j) (by omega) hk), iI_s (j), bn_i (p_penceOf hr hG hm (by omega)), iI_add, z0, iI_add]
      show _ = some (Sum.inl (iI (sumN (fun j => if tn L (pe S m) (hg S m) j ≤ tn L (pe S m) (hg S m) k then pe S m j else 0) j + (if tn L (pe S m) (hg S m) j ≤ tn L (pe S m) (hg S m) k then pe S m j else 0)), _))
      by_cases c : nl L (pe S m) j k
      · rw [c01_t c, ← z0, if_neg n10, if_pos ((tn_nl (by omega) hk).mp c)]
      · rw [c01_f c, ← z0, if_pos rfl, if_neg (fun q => c ((tn_nl (by omega) hk).mpr q))]
  exact loop (hg S m) 0 (by omega)
theorem p_mpawn {u : MS} {S : SV} {B L : Int} (hr : rB u S) (hG : gd B S) {T : AI} (hT : ∀ m, m < 6 → ∀ t, t < hg S m → T (5 * m + t) = iI ((qk L (hg S m) (pe S m) t : Nat) : Int)) {m k : Nat} (hm : m < 6) (hk : k < hg S m) : lpx (st_X4_pawn (iI m) (iI k)) (setT u T, 0, 0, 0) = some (iI (sumN (fun t => pe S m (qk L (hg S m) (pe S m) t)) (tn L (pe S m) (hg S m) k)), setT u T) := by
  have h5 := (hG.1 m hm).2.1
  have hsz := (hr m hm).2.1
  have t2 := tn_le L (pe S m) (hg S m) k
  have loop : ∀ (n t : Nat), t + n = tn L (pe S m) (hg S m) k → lpx (st_X4_pawn (iI m) (iI k)) (setT u T, iI (sumN (fun t => pe S m (qk L (hg S m) (pe S m) t)) t), (if n = 0 then 1 else 0), iI t) = some (iI (sumN (fun t => pe S m (qk L (hg S m) (pe S m) t)) (tn L (pe S m) (hg S m) k)), setT u T) := by
    intro n
    induction n with
    | zero =>
      intro t ht
      have : t = tn L (pe S m) (hg S m) k := by omega
      subst this
      refine lpx_r ?_
      show f_X4_pawn_23 (iI m) (iI k) _ _ _ _ = _
      unfold f_X4_pawn_23
      dsimp only
      rw [ck_N hm (by omega), if_neg (show ¬ (if (0 : Nat) = 0 then (1 : Int32) else 0) = 0 by decide)]
      split <;> rfl
    | succ n ih =>
      intro t ht
      obtain ⟨q1, q2⟩ := qk_ok L (hg S m) (pe S m) t (by omega)
      have hrow := ((hr m hm).2.2 _ q1).2.1
      refine (lpx_l ?_).trans (ih (t + 1) (by omega))
      show f_X4_pawn_23 (iI m) (iI k) _ _ _ _ = _
      unfold f_X4_pawn_23 nm
      dsimp only
      rw [ck_N hm (by omega), cl_N (n := m) (by omega), if_neg (by rw [hsz]; (first | omega | (simp (disch := omega) only [iI_le, iI_lt, iI_eq, iI_add, iI_sub, iI_mul, iI_neg, zm1, zm2, zm3, zm4, zm5, zm6, z0, z1, z2, z3, z4, z5, z6, z7, z8, z9, z10, z11, z12, z13, z14, z15, z20, z21, z22, z23, z24, z25, z30, z31, z33, z46, z48, z49, z57, z60, z62, z63, z64, z65, z70, z74, z75, z90, z96, z99, z102, z114, z115, z116, z117, z118, z126, z128, z236, z729, z999, z9999, z46656, z65537, z1000000] <;> omega))), if_pos (if_neg (by omega)), ix5, ck_N (by omega) (by omega), cl_N (n := 5 * m + t) (by omega), hT m hm t (by omega), bn_i p_at, ixM, ck_N (by omega) (by omega), cl_N (n := 15 * m + 3 * qk L (hg S m) (pe S m) t + 1) (by omega), hrow, iI_add, iI_s (t)]
      have e := qk_iff (L := L) (p := pe S m) hk (show t < hg S m by omega)
      by_cases c : n = 0
      · rw [if_pos c, if_pos (by rw [e.mpr (by omega)])]
        rfl
      · rw [if_neg c, if_neg (fun q => c (by have := e.mp (by have := (iI_eq ⟨by omega, by omega⟩ ⟨by omega, by omega⟩).mp q; omega); omega))]
        rfl
  have t1 := tn_pos (L := L) (p := pe S m) hk
  have hl := loop (tn L (pe S m) (hg S m) k) 0 (by omega)
  rw [if_neg (by omega)] at hl
  exact hl
theorem case20 {N : Nat} {st : LSt} (h : Rel N st) (a1 a2 : Int32) : ∃ st', ls_20 st a1 a2 = some st' ∧ Rel (N + 1) st' := by
  obtain ⟨F, hv, hu, hG, hp, hk⟩ := id h
  obtain ⟨x, hx, rfl⟩ := iI_ex a1
  obtain ⟨y, hy, rfl⟩ := iI_ex a2
  unfold ls_20 f_X3_pawn f_X4_pawn f_X4_pawn_0
  rw [bn_i (p_hasDebt hv.1 hG.1 hx hy), bn_i (p_isDebt hu.1 hG.1 hx hy)]
  by_cases c1 : isD F.1 x y
  · obtain ⟨q1, q2, q3, q4⟩ := id c1
    obtain ⟨m, rfl⟩ := Int.eq_ofNat_of_zero_le q1
    obtain ⟨k, rfl⟩ := Int.eq_ofNat_of_zero_le q3
    have hm : m < 6 := by omega
    have hk' : k < hg F.1 m := by simpa using q4
    obtain ⟨T, e1, e2⟩ := p_layTurns hu.1 hG.1 hu.2.1 hG.2.1
    have e3 : rnx (st_X4_pawn (iI m) (iI k)) (some (Sum.inl (setT st.2.2.2.2.2.2.2.2 T, 0, 0, 0))) = _ := p_mpawn hu.1 hG.1 e2 hm hk'
    rw [b01_t c1, if_neg n10, if_neg n10, bn_i (p_penceTill hv.1 hG.1 hv.2.1 hG.2.1 hm hk'), bn_i e1, bn_i rfl, bn_i e3, if_pos rfl]
    exact ⟨_, rfl, F, hv, hu, gF_up hG, hp, rK_up hk⟩
  · rw [b01_f c1, if_pos rfl, if_pos rfl, bn_i rfl, bn_i (show rnx _ (some (Sum.inr _)) = some _ from rfl), if_pos rfl]
    exact ⟨_, rfl, Rel_up h⟩
