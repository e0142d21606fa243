/-! THE LAW'S CASE: year -/
theorem hg_le {B : Int} {S : SV} (h : gd B S) {m : Nat} (hm : m < 6) : hg S m ≤ 5 := (h.1 m hm).2.1
theorem my_in {B L r : Int} (hB : B ≤ 2000000) (hL2 : 0 ≤ L ∧ L ≤ 2) (hr2 : 0 ≤ r ∧ r ≤ 9) {u : MS} (hL : u.1 = iI L) (hrr : u.2.1 = iI r) {m : Nat} (hm : m < 6) (x1 x2 x3 x : Int32) (day : Nat) : ∀ (n : Nat) (d : Int32) (a b c : AI) (S : SV) (p : Nat), hg S m ≤ n → rM a b c S → gd B S → ∃ a' b' c', lpx (st_X4_year x1 x2 x3) (.inr (.inl (setND u d a b c, x, iI p, iI day, iI m))) = lpx (st_X4_year x1 x2 x3) (.inl (setND u (d + 1) a' b' c', x, iI ((p + (payN L n S m).2 : Nat) : Int), iI ((day + 1 : Nat) : Int))) ∧ rM a' b' c' (passS r (payN L n S m).1) := by
  intro n
  induction n with
  | zero =>
    intro d a b c S p hn hr hG
    obtain ⟨c', e1, e2⟩ := p_mpass (d := d) hr hG hrr hr2
    refine ⟨a, b, c', lpx_l ?_, e2⟩
    show f_X4_year_92 x1 x2 x3 _ _ _ _ _ = _
    unfold f_X4_year_92 nm
    rw [bn_i (p_canPay (u := setND u d a b c) hr hG hB hL hL2 hm), b01_f (by omega), if_pos rfl, bn_i e1, iI_s (day)]
    rfl
  | succ n ih =>
    intro d a b c S p hn hr hG
    by_cases cc : 0 < hg S m ∧ penD L S m ≤ mon S m
    · obtain ⟨a1, b1, c1, e1, e2⟩ := p_mpay (u := setND u d a b c) hr hG hB hL hL2 hm cc.1 cc.2
      obtain ⟨a', b', c', f1, f2⟩ := ih d a1 b1 c1 (payS L S m) (p + 1) (by rw [hg_pay]; omega) e2 (gd_pay hG hm cc.1 cc.2)
      refine ⟨a', b', c', (lpx_l ?_).trans (f1.trans ?_), by rw [payN_y cc]; exact f2⟩
      · show f_X4_year_92 x1 x2 x3 _ _ _ _ _ = _
        unfold f_X4_year_92 nm
        rw [bn_i (p_canPay (u := setND u d a b c) hr hG hB hL hL2 hm), b01_t cc, if_neg n10, bn_i e1, iI_s (p)]
      · rw [payN_y cc, show p + 1 + (payN L n (payS L S m) m).2 = p + ((payN L n (payS L S m) m).2 + 1) by omega]
    · rw [payN_n cc]
      obtain ⟨c', e1, e2⟩ := p_mpass (d := d) hr hG hrr hr2
      refine ⟨a, b, c', lpx_l ?_, e2⟩
      show f_X4_year_92 x1 x2 x3 _ _ _ _ _ = _
      unfold f_X4_year_92 nm
      rw [bn_i (p_canPay (u := setND u d a b c) hr hG hB hL hL2 hm), b01_f cc, if_pos rfl, bn_i e1, iI_s (day)]
      rfl
theorem p_myear {L r : Int} (hL2 : 0 ≤ L ∧ L ≤ 2) (hr2 : 0 ≤ r ∧ r ≤ 9) {u : MS} (hL : u.1 = iI L) (hrr : u.2.1 = iI r) {N : Nat} (hN : N ≤ 99) (x1 x3 : Int32) : ∀ (n day : Nat) (d : Int32) (a b c : AI) (S : SV) (x : Int) (p : Nat) (B : Int), day + n = N → 0 ≤ x ∧ x < 65537 → B ≤ 1000000 + 9 * day → rM a b c S → gd B S → ∃ d' a' b' c', lpx (st_X4_year x1 (iI N) x3) (.inl (setND u d a b c, iI x, iI p, iI day)) = lpx (st_X4_year x1 (iI N) x3) (.inr (.inr (.inl (setND u d' a' b' c', iI ((yearS L r n S x p).2 : Int), 0, 0, 0)))) ∧ rM a' b' c' (yearS L r n S x p).1 := by
  intro n
  induction n with
  | zero =>
    intro day d a b c S x p B hd hx hB hr hG
    refine ⟨d, a, b, c, lpx_l ?_, hr⟩
    show f_X4_year_46 x1 (iI N) x3 _ _ _ _ = _
    unfold f_X4_year_46
    rw [if_pos (by (first | omega | (simp (disch := omega) only [iI_le, iI_lt, iI_eq, iI_add, iI_sub, iI_mul, iI_neg, z0, z1, z2, z3, z4, z5, z6, z7, z8, z9, z10, z11, z12, z13, z14, z15, z20, z21, z22, z23, z24, z25, z30, z31, z33, z46, z48, z49, z57, z60, z62, z63, z64, z65, z70, z74, z75, z90, z96, z99, z102, z114, z115, z116, z117, z118, z126, z128, z236, z729, z999, z9999, z46656, z65537, z1000000] <;> omega)))]
    rfl
  | succ n ih =>
    intro day d a b c S x p B hd hx hB hr hG
    have hx' : 0 ≤ (75 * x + 74) % 65537 ∧ (75 * x + 74) % 65537 < 65537 := by omega
    have hm : ((75 * x + 74) % 65537 % 6).toNat < 6 := by omega
    have hG1 : gd (B + 9) (setMon S ((75 * x + 74) % 65537 % 6).toNat (mon S ((75 * x + 74) % 65537 % 6).toNat + 1 + (75 * x + 74) % 65537 / 6 % 9)) := gd_earn hG hm (by omega) (by omega)
    have hv1 := rM_setMon hr (m := ((75 * x + 74) % 65537 % 6).toNat) (mon S ((75 * x + 74) % 65537 % 6).toNat + 1 + (75 * x + 74) % 65537 / 6 % 9)
    obtain ⟨a1, b1, c1, e1, e2⟩ := my_in (B := B + 9) (by omega) hL2 hr2 hL hrr hm x1 (iI N) x3 (iI ((75 * x + 74) % 65537)) day 5 d _ _ _ _ p (hg_le hG1 hm) hv1 hG1
    obtain ⟨d', a', b', c', f1, f2⟩ := ih (day + 1) (d + 1) a1 b1 c1 _ ((75 * x + 74) % 65537) _ (B + 9) (by omega) hx' (by omega) e2 (gd_pass (gd_payN hm 5 _ hG1) hr2.1)
    refine ⟨d', a', b', c', (lpx_l ?_).trans (e1.trans f1), f2⟩
    show f_X4_year_46 x1 (iI N) x3 _ _ _ _ = _
    unfold f_X4_year_46 nm
    dsimp only
    rw [if_neg (by (first | omega | (simp (disch := omega) only [iI_le, iI_lt, iI_eq, iI_add, iI_sub, iI_mul, iI_neg, z0, z1, z2, z3, z4, z5, z6, z7, z8, z9, z10, z11, z12, z13, z14, z15, z20, z21, z22, z23, z24, z25, z30, z31, z33, z46, z48, z49, z57, z60, z62, z63, z64, z65, z70, z74, z75, z90, z96, z99, z102, z114, z115, z116, z117, z118, z126, z128, z236, z729, z999, z9999, z46656, z65537, z1000000] <;> omega))), y_draw hx, y_man hx', y_earn hx', ck_N hm (by omega), cl_N (by omega)]
    rw [(hr _ hm).1, z1, iI_add, iI_add, ← Int.add_assoc]
theorem my_sum {B : Int} {u : MS} {d : Int32} {a b c : AI} {S : SV} (hr : rM a b c S) (hG : gd B S) (x1 x2 x3 p : Int32) : lpx (st_X4_year x1 x2 x3) (.inr (.inr (.inl (setND u d a b c, p, 0, 0, 0)))) = some (if x3 = 0 then p else if x3 = 1 then iI (sumN (fun m => hg S m) 6) else iI (sumN (fun m => sumN (pe S m) (hg S m)) 6), setND u d a b c) := by
  have inner : ∀ (m : Nat), m < 6 → ∀ (n k : Nat) (l : Int32) (s : Int), k + n = hg S m → lpx (st_X4_year x1 x2 x3) (.inr (.inr (.inr (setND u d a b c, p, l, iI (s + sumN (pe S m) k), iI m, iI k)))) = lpx (st_X4_year x1 x2 x3) (.inr (.inr (.inl (setND u d a b c, p, l, iI (s + sumN (pe S m) (hg S m)), iI ((m + 1 : Nat) : Int))))) := by
    intro m hm n
    have h5 := (hG.1 m hm).2.1
    have hb : b m = iI (hg S m) := (hr m hm).2.1
    induction n with
    | zero =>
      intro k l s hk
      have : k = hg S m := by omega
      subst this
      refine lpx_l ?_
      show f_X4_year_154 x1 x2 x3 _ _ _ _ _ _ = _
      unfold f_X4_year_154 nm
      dsimp only
      rw [ck_N hm (by omega), cl_N (by omega), if_pos (by rw [hb]; (first | omega | (simp (disch := omega) only [iI_le, iI_lt, iI_eq, iI_add, iI_sub, iI_mul, iI_neg, z0, z1, z2, z3, z4, z5, z6, z7, z8, z9, z10, z11, z12, z13, z14, z15, z20, z21, z22, z23, z24, z25, z30, z31, z33, z46, z48, z49, z57, z60, z62, z63, z64, z65, z70, z74, z75, z90, z96, z99, z102, z114, z115, z116, z117, z118, z126, z128, z236, z729, z999, z9999, z46656, z65537, z1000000] <;> omega))), iI_s (m)]
    | succ n ih =>
      intro k l s hk
      refine (lpx_l ?_).trans (ih (k + 1) l s (by omega))
      show f_X4_year_154 x1 x2 x3 _ _ _ _ _ _ = _
      unfold f_X4_year_154 nm
      dsimp only
      rw [ck_N hm (by omega), cl_N (n := m) (by omega), if_neg (by rw [hb]; (first | omega | (simp (disch := omega) only [iI_le, iI_lt, iI_eq, iI_add, iI_sub, iI_mul, iI_neg, z0, z1, z2, z3, z4, z5, z6, z7, z8, z9, z10, z11, z12, z13, z14, z15, z20, z21, z22, z23, z24, z25, z30, z31, z33, z46, z48, z49, z57, z60, z62, z63, z64, z65, z70, z74, z75, z90, z96, z99, z102, z114, z115, z116, z117, z118, z126, z128, z236, z729, z999, z9999, z46656, z65537, z1000000] <;> omega))), bn_i p_at, ixM, ck_N (by omega) (by omega), cl_N (by omega), ((hr m hm).2.2 k (by omega)).2.1, iI_add, iI_s (k), Int.add_assoc]
      rfl
  have loop : ∀ (n m : Nat), m + n = 6 → lpx (st_X4_year x1 x2 x3) (.inr (.inr (.inl (setND u d a b c, p, iI (sumN (fun m => hg S m) m), iI (sumN (fun m => sumN (pe S m) (hg S m)) m), iI m)))) = some (if x3 = 0 then p else if x3 = 1 then iI (sumN (fun m => hg S m) 6) else iI (sumN (fun m => sumN (pe S m) (hg S m)) 6), setND u d a b c) := by
    intro n
    induction n with
    | zero =>
      intro m hm
      have : m = 6 := by omega
      subst this
      refine lpx_r ?_
      show f_X4_year_132 x1 x2 x3 _ _ _ _ _ = _
      unfold f_X4_year_132
      rw [if_pos (by (first | omega | (simp (disch := omega) only [iI_le, iI_lt, iI_eq, iI_add, iI_sub, iI_mul, iI_neg, z0, z1, z2, z3, z4, z5, z6, z7, z8, z9, z10, z11, z12, z13, z14, z15, z20, z21, z22, z23, z24, z25, z30, z31, z33, z46, z48, z49, z57, z60, z62, z63, z64, z65, z70, z74, z75, z90, z96, z99, z102, z114, z115, z116, z117, z118, z126, z128, z236, z729, z999, z9999, z46656, z65537, z1000000] <;> omega)))]
      split
      · rfl
      · split <;> rfl
    | succ n ih =>
      intro m hm
      have hi := inner m (by omega) (hg S m) 0 (iI (sumN (fun m => hg S m) (m + 1))) (sumN (fun m => sumN (pe S m) (hg S m)) m) (by omega)
      refine ((lpx_l ?_).trans hi).trans (ih (m + 1) (by omega))
      show f_X4_year_132 x1 x2 x3 _ _ _ _ _ = _
      unfold f_X4_year_132 nm
      dsimp only
      have hb : b m = iI (hg S m) := (hr m (by omega)).2.1
      rw [if_neg (by (first | omega | (simp (disch := omega) only [iI_le, iI_lt, iI_eq, iI_add, iI_sub, iI_mul, iI_neg, z0, z1, z2, z3, z4, z5, z6, z7, z8, z9, z10, z11, z12, z13, z14, z15, z20, z21, z22, z23, z24, z25, z30, z31, z33, z46, z48, z49, z57, z60, z62, z63, z64, z65, z70, z74, z75, z90, z96, z99, z102, z114, z115, z116, z117, z118, z126, z128, z236, z729, z999, z9999, z46656, z65537, z1000000] <;> omega))), ck_N (by omega) (by omega), cl_N (by omega), hb, iI_add]
      show _ = some (Sum.inl (Sum.inr (Sum.inr (Sum.inr (_, _, _, iI (_ + 0), _, _)))))
      rw [Int.add_zero]
      rfl
  exact loop 6 0 (by omega)
theorem gF_B {N : Nat} {F : FA} (h : gF N F) (hN : N ≤ 512) : gd 700000 F.1 := gd_up h.1 (by omega)
theorem case22 {N : Nat} (hN : N ≤ 512) {st : LSt} (h : Rel N st) (a1 a2 a3 : Int32) : ∃ st', ls_22 st a1 a2 a3 = some st' ∧ Rel (N + 1) st' := by
  obtain ⟨F, hv, hu, hG, hp, hk⟩ := id h
  obtain ⟨x, hx, rfl⟩ := iI_ex a1
  obtain ⟨y, hy, rfl⟩ := iI_ex a2
  obtain ⟨z, hz, rfl⟩ := iI_ex a3
  unfold ls_22 f_X3_year f_X4_year f_X4_year_0
  rw [z0, z9999, z1, z99, z2, bn_i (p_isWithin hx (by omega) (by omega)), bn_i (p_in hx (by omega) (by omega)), bn_i (p_isWithin hy (by omega) (by omega)), bn_i (p_in hy (by omega) (by omega)), bn_i (p_isWithin hz (by omega) (by omega)), bn_i (p_in hz (by omega) (by omega)), ← z0, ← z1]
  by_cases c1 : 0 ≤ x ∧ x ≤ 9999
  · rw [b01_t c1, if_neg n10, if_neg n10]
    by_cases c2 : 1 ≤ y ∧ y ≤ 99
    · rw [b01_t c2, if_neg n10, if_neg n10]
      by_cases c3 : 0 ≤ z ∧ z ≤ 2
      · rw [b01_t c3, if_neg n10, if_neg n10]
        obtain ⟨n, rfl⟩ := Int.eq_ofNat_of_zero_le (show 0 ≤ y by omega)
        have hw : rFV (cpV st.2.2.1 st.2.1) F := rFV_copy hv hG
        obtain ⟨v', e1, e2, e3⟩ := p_liveYear hG.2.1 hG.2.2.1 (N := n) (by omega) (iI x) n 0 (cpV st.2.2.1 st.2.1) F.1 x 0 700000 (by omega) (by omega) (by omega) ⟨hw.1, hw.2.1, hw.2.2.1⟩ (gF_B hG hN)
        obtain ⟨a, b, c, f1, ha, hb, hc⟩ := p_asNow st.2.2.2.2.2.2.2.2
        obtain ⟨d', a', b', c', f2, f3⟩ := p_myear hG.2.1 hG.2.2.1 hu.2.1 hu.2.2.1 (N := n) (by omega) (iI x) (iI z) n 0 st.2.2.2.2.2.2.2.2.2.2.1 a b c F.1 x 0 700000 (by omega) (by omega) (by omega) (rM_cong hu.1 hG.1 ha hb hc) (gF_B hG hN)
        have e1' : f_X3_liveYear (cpV st.2.2.1 st.2.1) (iI x) (iI n) = some (iI ((yearS F.2.1 F.2.2.1 n F.1 x 0).2 : Int), v') := e1
        have f4 := f2.trans (my_sum f3 e3 (iI x) (iI n) (iI z) _)
        have f5 : lpx (st_X4_year (iI x) (iI n) (iI z)) (.inl (setND st.2.2.2.2.2.2.2.2 st.2.2.2.2.2.2.2.2.2.2.1 a b c, iI x, 0, 0)) = _ := f4
        rw [p_copyFrom, bn_i rfl, bn_i e1', bn_i f1]
        show ∃ st', bn _ (fun r1 => bn (lpx (st_X4_year (iI x) (iI n) (iI z)) (.inl (setND st.2.2.2.2.2.2.2.2 st.2.2.2.2.2.2.2.2.2.2.1 a b c, iI x, 0, 0))) _) = _ ∧ _
        rw [f5]
        unfold nm
        dsimp only
        by_cases d0 : iI z = 0
        · rw [if_pos d0, if_pos d0, bn_i rfl, bn_i rfl, if_pos rfl]
          exact ⟨_, rfl, F, hv, hu, gF_up hG, hp, rK_up hk⟩
        · rw [if_neg d0, if_neg d0]
          by_cases d1 : iI z = 1
          · rw [if_pos d1, if_pos d1, bn_i (p_allDebts e2.1), bn_i rfl, bn_i rfl, if_pos rfl]
            exact ⟨_, rfl, F, hv, hu, gF_up hG, hp, rK_up hk⟩
          · rw [if_neg d1, if_neg d1, bn_i (p_allPence e2.1 e3), bn_i rfl, bn_i rfl, if_pos rfl]
            exact ⟨_, rfl, F, hv, hu, gF_up hG, hp, rK_up hk⟩
      · rw [b01_f c3, if_pos rfl, if_pos rfl]
        rw [bn_i rfl, bn_i (show rnx _ (some (Sum.inr _)) = some _ from rfl), if_pos rfl]
        exact ⟨_, rfl, Rel_up h⟩
    · rw [b01_f c2, if_pos rfl, if_pos rfl]
      rw [bn_i rfl, bn_i (show rnx _ (some (Sum.inr _)) = some _ from rfl), if_pos rfl]
      exact ⟨_, rfl, Rel_up h⟩
  · rw [b01_f c1, if_pos rfl, if_pos rfl]
    rw [bn_i rfl, bn_i (show rnx _ (some (Sum.inr _)) = some _ from rfl), if_pos rfl]
    exact ⟨_, rfl, Rel_up h⟩
