/-! THE LAW'S CASE: odds -/
def eEn : Nat → Nat → Nat → Prop
  | 0, _, b => b = 0
  | k + 1, a, b => b = 0 ∨ eEn k b (a % b)
theorem eEn_ex : ∀ m a b, b < 2 ^ m → eEn (2 * m) a b
  | 0, a, b, h => by
    show b = 0
    rw [Nat.pow_zero] at h
    omega
  | m + 1, a, b, h => by
    show b = 0 ∨ (a % b = 0 ∨ eEn (2 * m) (a % b) (b % (a % b)))
    by_cases c : b = 0
    · exact Or.inl c
    · refine Or.inr ?_
      by_cases c2 : a % b = 0
      · exact Or.inl c2
      · refine Or.inr (eEn_ex m _ _ ?_)
        have h1 : a % b < b := Nat.mod_lt _ (by omega)
        generalize a % b = r at *
        have h2 : b % r < r := Nat.mod_lt _ (by omega)
        have h3 : b % r ≤ b - r := by
          rw [Nat.mod_eq_sub_mod (by omega)]
          exact Nat.mod_le _ _
        rw [Nat.pow_succ] at h
        omega
theorem cd_loop {x0 x2 : Int64} : ∀ k a b st, eEn k a b → st + k ≤ 128 → a < 4000000000000000000 → b < 4000000000000000000 → lpx (st_X3_commonDivisor x0 x2) (jL a, jL b, iI (st : Nat)) = some (jL (Nat.gcd b a))
  | 0, a, b, st, h, hs, ha, hb => by
    have h : b = 0 := h
    subst h
    refine lpx_r ?_
    show f_X3_commonDivisor_9 x0 x2 _ _ _ = _
    unfold f_X3_commonDivisor_9
    rw [Nat.gcd_zero_left, if_pos ((cmp_z (by omega)).mpr rfl)]
    split <;> rfl
  | k + 1, a, b, st, h, hs, ha, hb => by
    by_cases c : b = 0
    · subst c
      refine lpx_r ?_
      show f_X3_commonDivisor_9 x0 x2 _ _ _ = _
      unfold f_X3_commonDivisor_9
      rw [Nat.gcd_zero_left, if_pos ((cmp_z (by omega)).mpr rfl)]
      split <;> rfl
    · have h1 : a % b < b := Nat.mod_lt _ (by omega)
      refine (lpx_l ?_).trans ((cd_loop k b (a % b) (st + 1) (h.resolve_left c) (by omega) hb (by omega)).trans (by rw [← Nat.gcd_rec]))
      show f_X3_commonDivisor_9 x0 x2 _ _ _ = _
      unfold f_X3_commonDivisor_9 nm
      rw [if_neg (by (first | omega | (simp (disch := omega) only [iI_le, iI_lt, iI_eq, iI_add, iI_sub, iI_mul, iI_neg, zm1, zm2, zm3, zm4, zm5, zm6, z0, z1, z2, z3, z4, z5, z6, z7, z8, z9, z10, z11, z12, z13, z14, z15, z20, z21, z22, z23, z24, z25, z30, z31, z33, z46, z48, z49, z57, z60, z62, z63, z64, z65, z70, z74, z75, z90, z96, z99, z102, z114, z115, z116, z117, z118, z126, z128, z236, z729, z999, z9999, z46656, z65537, z1000000] <;> omega))), if_neg (fun q => c ((cmp_z (by omega)).mp q)), dzl_N (by omega) (by omega), jL_rem (by omega) (by omega) (by omega), iI_s]
theorem gcd_loop {x1 x2 x3 x4 x5 : Int32} {u : MS} {up : Int64} : ∀ k a b, eEn k a b → a < 4000000000000000000 → b < 4000000000000000000 → lpx (st_X4_odds x1 x2 x3 x4 x5) (.inr (.inr (u, up, jL a, jL b))) = lpx (st_X4_odds x1 x2 x3 x4 x5) (.inr (.inr (u, up, jL (Nat.gcd b a), jL 0)))
  | 0, a, b, h, ha, hb => by
    have h : b = 0 := h
    subst h
    rw [Nat.gcd_zero_left]
  | k + 1, a, b, h, ha, hb => by
    by_cases c : b = 0
    · subst c
      rw [Nat.gcd_zero_left]
    · have h1 : a % b < b := Nat.mod_lt _ (by omega)
      refine (lpx_l ?_).trans ((gcd_loop k b (a % b) (h.resolve_left c) hb (by omega)).trans (by rw [← Nat.gcd_rec]))
      show f_X4_odds_184 x1 x2 x3 x4 x5 _ _ _ _ = _
      unfold f_X4_odds_184 nm
      rw [if_neg (fun q => c ((cmp_z (by omega)).mp q)), dzl_N (by omega) (by omega), jL_rem (by omega) (by omega) (by omega)]
def psN (r : Int) : Nat → SV → SV
  | 0, S => S
  | n + 1, S => passS r (psN r n S)
theorem psN_f {r : Int} (hr : 0 ≤ r) {S : SV} : ∀ n, hg (psN r n S) = hg S ∧ mon (psN r n S) = mon S ∧ ∀ a k, pe S a k ≤ 9999 → pe (psN r n S) a k = (if 9999 < pe S a k + n * r then 9999 else pe S a k + n * r)
  | 0 => ⟨rfl, rfl, fun a k h => by
    show pe S a k = _
    rw [show ((0 : Nat) : Int) * r = 0 from Int.zero_mul r, if_neg (by omega)]
    omega⟩
  | n + 1 => by
    obtain ⟨h1, h2, h3⟩ := psN_f hr (S := S) n
    refine ⟨h1, h2, fun a k h => ?_⟩
    show (if 9999 < pe (psN r n S) a k + r then 9999 else pe (psN r n S) a k + r) = _
    rw [h3 a k h, show ((n + 1 : Nat) : Int) * r = n * r + r by rw [Int.natCast_add, Int.add_mul]; congr 1; exact Int.one_mul r]
    have hx : 0 ≤ (n : Int) * r := Int.mul_nonneg (by omega) hr
    generalize (n : Int) * r = x at *
    by_cases c : 9999 < pe S a k + x
    · rw [if_pos c]
      split <;> split <;> omega
    · rw [if_neg c]
      split <;> split <;> omega
theorem gd_psN {B r : Int} {S : SV} (h : gd B S) (hr : 0 ≤ r) : ∀ n, gd B (psN r n S)
  | 0 => h
  | n + 1 => gd_pass (gd_psN h hr n) hr
theorem penD_psN {L r B : Int} {S : SV} (hG : gd B S) (hr : 0 ≤ r) {m : Nat} (hm : m < 6) (h0 : 0 < hg S m) (n : Nat) : penD L (psN r n S) m = (if 9999 < penD L S m + n * r then 9999 else penD L S m + n * r) := by
  obtain ⟨h1, h2, h3⟩ := psN_f hr (S := S) n
  have hpe : ∀ k, k < hg S m → pe S m k ≤ 9999 := fun k hk => ((hG.1 m hm).2.2 k hk).2.2.2
  unfold penD
  have hne : ¬ hg S m = 0 := by omega
  rw [h1, if_neg hne, if_neg hne]
  have hi := dueF_min L (pe S m) (hg S m) h0
  have hj := dueF_min L (pe (psN r n S) m) (hg S m) h0
  generalize dueF L (pe S m) (hg S m) = i at *
  generalize dueF L (pe (psN r n S) m) (hg S m) = j at *
  have e1 := h3 m i (hpe i hi.1)
  have e2 := h3 m j (hpe j hj.1)
  have n1 := hj.2 i hi.1
  have n2 := hi.2 j hj.1
  generalize (n : Int) * r = x at *
  unfold nl at n1 n2
  by_cases c1 : L = 1
  · rw [if_pos c1] at n1 n2
    have : i = j := by omega
    subst this
    exact e1
  · rw [if_neg c1] at n1 n2
    by_cases c2 : L = 2
    · rw [if_pos c2] at n1 n2
      rw [e2]
      by_cases d1 : 9999 < pe S m i + x
      · by_cases d2 : 9999 < pe S m j + x
        · rw [if_pos d1, if_pos d2]
        · rw [if_pos d1] at e1 ⊢
          rw [if_neg d2] at e2 ⊢
          omega
      · by_cases d2 : 9999 < pe S m j + x
        · rw [if_neg d1] at e1 ⊢
          rw [if_pos d2] at e2 ⊢
          omega
        · rw [if_neg d1] at e1 ⊢
          rw [if_neg d2] at e2 ⊢
          omega
    · rw [if_neg c2] at n1 n2
      have : i = j := by omega
      subst this
      exact e1
theorem od_pass {L r B : Int} {S : SV} (hG : gd B S) (hL2 : 0 ≤ L ∧ L ≤ 2) (hr2 : 0 ≤ r ∧ r ≤ 9) {u : MS} (hL : u.1 = iI L) (hrr : u.2.1 = iI r) {m n : Nat} (hm : m < 6) (hn : n ≤ 12) (x2 x4 x5 : Int32) : ∀ (k i : Nat) (d : Int32) (a b c : AI), i + k = n → rM a b c (psN r i S) → ∃ d' a' b' c', lpx (st_X4_odds (iI m) x2 (iI n) x4 x5) (.inl (setND u d a b c, iI i)) = lpx (st_X4_odds (iI m) x2 (iI n) x4 x5) (.inr (.inl (setND u d' a' b' c', iI (penD L (psN r n S) m), 0, 0))) := by
  intro k
  induction k with
  | zero =>
    intro i d a b c hi hr
    have : i = n := by omega
    subst this
    refine ⟨d, a, b, c, lpx_l ?_⟩
    show f_X4_odds_76 (iI m) x2 (iI i) x4 x5 _ _ = _
    unfold f_X4_odds_76
    rw [if_pos (by (first | omega | (simp (disch := omega) only [iI_le, iI_lt, iI_eq, iI_add, iI_sub, iI_mul, iI_neg, zm1, zm2, zm3, zm4, zm5, zm6, z0, z1, z2, z3, z4, z5, z6, z7, z8, z9, z10, z11, z12, z13, z14, z15, z20, z21, z22, z23, z24, z25, z30, z31, z33, z46, z48, z49, z57, z60, z62, z63, z64, z65, z70, z74, z75, z90, z96, z99, z102, z114, z115, z116, z117, z118, z126, z128, z236, z729, z999, z9999, z46656, z65537, z1000000] <;> omega))), bn_i (p_penceDue (u := setND u d a b c) hr (gd_psN hG hr2.1 i) hL hL2 hm)]
  | succ k ih =>
    intro i d a b c hi hr
    obtain ⟨c', e1, e2⟩ := p_mpass (u := u) (d := d) hr (gd_psN hG hr2.1 i) hrr hr2
    obtain ⟨d2, a2, b2, c2, f1⟩ := ih (i + 1) (d + 1) a b c' (by omega) e2
    refine ⟨d2, a2, b2, c2, (lpx_l ?_).trans f1⟩
    show f_X4_odds_76 (iI m) x2 (iI n) x4 x5 _ _ = _
    unfold f_X4_odds_76 nm
    rw [if_neg (by (first | omega | (simp (disch := omega) only [iI_le, iI_lt, iI_eq, iI_add, iI_sub, iI_mul, iI_neg, zm1, zm2, zm3, zm4, zm5, zm6, z0, z1, z2, z3, z4, z5, z6, z7, z8, z9, z10, z11, z12, z13, z14, z15, z20, z21, z22, z23, z24, z25, z30, z31, z33, z46, z48, z49, z57, z60, z62, z63, z64, z65, z70, z74, z75, z90, z96, z99, z102, z114, z115, z116, z117, z118, z126, z128, z236, z729, z999, z9999, z46656, z65537, z1000000] <;> omega))), bn_i e1, iI_s]
abbrev gOd (n t : Nat) : Nat → Nat := fun k => chM n k * t ^ k * (10 - t) ^ (n - k)
theorem od_sum {u : MS} {m n t e : Nat} {mo du : Int} (hm : m < 6) (hn : n ≤ 12) (ht : t ≤ 10) (he : 1 ≤ e ∧ e ≤ 99) (hmo : u.2.2.2.1 m = iI mo) (hm2 : 0 ≤ mo ∧ mo ≤ 1000000) (hdu : 0 ≤ du ∧ du ≤ 9999) (x5 : Int32) : ∀ (k i : Nat), i + k = n + 1 → lpx (st_X4_odds (iI m) (iI e) (iI n) (iI t) x5) (.inr (.inl (u, iI du, jL (lkN e (du - mo) (gOd n t) i), iI i))) = lpx (st_X4_odds (iI m) (iI e) (iI n) (iI t) x5) (.inr (.inr (u, jL (lkN e (du - mo) (gOd n t) (n + 1)), jL (lkN e (du - mo) (gOd n t) (n + 1)), jL (10 ^ n)))) := by
  intro k
  induction k with
  | zero =>
    intro i hi
    have : i = n + 1 := by omega
    subst this
    refine lpx_l ?_
    show f_X4_odds_105 (iI m) (iI e) (iI n) (iI t) x5 _ _ _ _ = _
    unfold f_X4_odds_105
    rw [if_pos (by (first | omega | (simp (disch := omega) only [iI_le, iI_lt, iI_eq, iI_add, iI_sub, iI_mul, iI_neg, zm1, zm2, zm3, zm4, zm5, zm6, z0, z1, z2, z3, z4, z5, z6, z7, z8, z9, z10, z11, z12, z13, z14, z15, z20, z21, z22, z23, z24, z25, z30, z31, z33, z46, z48, z49, z57, z60, z62, z63, z64, z65, z70, z74, z75, z90, z96, z99, z102, z114, z115, z116, z117, z118, z126, z128, z236, z729, z999, z9999, z46656, z65537, z1000000] <;> omega))), zL10, bn_i (p_times hn)]
  | succ k ih =>
    intro i hi
    have hek : 0 ≤ (e : Int) * i ∧ (e : Int) * i ≤ 99 * 13 := by
      have h1 : e * i ≤ 99 * 13 := Nat.mul_le_mul (by omega) (by omega)
      have h2 : ((e * i : Nat) : Int) = (e : Int) * i := Int.natCast_mul e i
      omega
    have e10 : ((10 : Int32) - iI (t : Int)).toInt64 = jL (10 - t) := by
      rw [z10, iI_sub, show (10 : Int) - (t : Int) = ((10 - t : Nat) : Int) by omega, iL (by omega)]
    have et : (iI (t : Int)).toInt64 = jL t := iL (by omega)
    refine (lpx_l ?_).trans (ih (i + 1) (by omega))
    show f_X4_odds_105 (iI m) (iI e) (iI n) (iI t) x5 _ _ _ _ = _
    unfold f_X4_odds_105 nm
    dsimp only
    rw [if_neg (by (first | omega | (simp (disch := omega) only [iI_le, iI_lt, iI_eq, iI_add, iI_sub, iI_mul, iI_neg, zm1, zm2, zm3, zm4, zm5, zm6, z0, z1, z2, z3, z4, z5, z6, z7, z8, z9, z10, z11, z12, z13, z14, z15, z20, z21, z22, z23, z24, z25, z30, z31, z33, z46, z48, z49, z57, z60, z62, z63, z64, z65, z70, z74, z75, z90, z96, z99, z102, z114, z115, z116, z117, z118, z126, z128, z236, z729, z999, z9999, z46656, z65537, z1000000] <;> omega))), ck_N hm (by omega), cl_N (by omega), iI_mul, iI_s]
    show _ = some (Sum.inl (Sum.inr (Sum.inl (_, _, jL (if (e : Int) * i < du - mo then lkN e (du - mo) (gOd n t) i else lkN e (du - mo) (gOd n t) i + gOd n t i), _))))
    by_cases c : (e : Int) * i < du - mo
    · rw [if_pos (by rw [hmo, iI_add]; exact (iI_lt ⟨by omega, by omega⟩ ⟨by omega, by omega⟩).mpr (by omega)), if_pos c, zL0, jL_add]
      rfl
    · rw [if_neg (fun q => by rw [hmo, iI_add] at q; have := (iI_lt ⟨by omega, by omega⟩ ⟨by omega, by omega⟩).mp q; omega), if_neg c, bn_i (p_choose hn (by omega)), et, bn_i (p_times (by omega)), e10, iI_sub, show ((n : Int) - (i : Int)) = ((n - i : Nat) : Int) by omega, bn_i (p_times (by omega)), jL_mul, jL_mul, jL_add]
theorem od_up {e n t : Nat} {la : Int} (hn : n ≤ 12) (ht : t ≤ 10) : lkN e la (gOd n t) (n + 1) = lkN e la (shN t n) 13 := by
  rw [show 13 = n + 1 + (12 - n) by omega, lkN_0 (12 - n) (fun i hi => shN_0 t n i (by omega))]
  exact lkN_c (n + 1) (fun i hi => (sh_eq n (by omega) t (by omega) i hi).symm)
theorem p10 : ∀ n, n < 13 → 0 < 10 ^ n ∧ 10 ^ n < 2 ^ 40 := by decide +kernel
theorem case21 {N : Nat} (hN : N ≤ 512) {st : LSt} (h : Rel N st) (a1 a2 a3 a4 a5 : Int32) : ∃ st', ls_21 st a1 a2 a3 a4 a5 = some st' ∧ Rel (N + 1) st' := by
  obtain ⟨F, hv, hu, hG, hp, hk⟩ := id h
  obtain ⟨x, hx, rfl⟩ := iI_ex a1
  obtain ⟨y, hy, rfl⟩ := iI_ex a2
  obtain ⟨z, hz, rfl⟩ := iI_ex a3
  obtain ⟨w, hw, rfl⟩ := iI_ex a4
  obtain ⟨v, hv5, rfl⟩ := iI_ex a5
  have same : ∀ (q : Int64) (fs : AL), ∃ st', bn (some (q, fs)) (fun r1 => bn (some (q, st.2.2.2.2.2.2.2.2)) (fun r2 => if lg_cmp r1.1 r2.1 = 0 then some (st.1, st.2.1, st.2.2.1, st.2.2.2.1, st.2.2.2.2.1, st.2.2.2.2.2.1, st.2.2.2.2.2.2.1, r1.2, r2.2) else none)) = some st' ∧ Rel (N + 1) st' := fun q fs => by
    rw [bn_i rfl, bn_i rfl, if_pos ((lg_cmp_eq _ _).mpr rfl)]
    exact ⟨_, rfl, F, hv, hu, gF_up hG, hp, rK_up hk⟩
  unfold ls_21 f_X3_odds f_X4_odds f_X4_odds_0
  rw [z0, z1, z99, z12, z10, bn_i (p_isMan hx), bn_i (p_mMan hx), bn_i (p_isWithin hy (by omega) (by omega)), bn_i (p_in hy (by omega) (by omega)), bn_i (p_isWithin hz (by omega) (by omega)), bn_i (p_in hz (by omega) (by omega)), bn_i (p_isWithin hw (by omega) (by omega)), bn_i (p_in hw (by omega) (by omega)), bn_i (p_isWithin hv5 (by omega) (by omega)), bn_i (p_in hv5 (by omega) (by omega)), ← z0]
  by_cases c1 : 0 ≤ x ∧ x < 6
  · rw [b01_t c1, if_neg n10, if_neg n10]
    by_cases c2 : 1 ≤ y ∧ y ≤ 99
    · rw [b01_t c2, if_neg n10, if_neg n10]
      by_cases c3 : 0 ≤ z ∧ z ≤ 12
      · rw [b01_t c3, if_neg n10, if_neg n10]
        by_cases c4 : 0 ≤ w ∧ w ≤ 10
        · rw [b01_t c4, if_neg n10, if_neg n10]
          by_cases c5 : 0 ≤ v ∧ v ≤ 1
          · rw [b01_t c5, if_neg n10, if_neg n10]
            obtain ⟨m, rfl⟩ := Int.eq_ofNat_of_zero_le c1.1
            obtain ⟨e, rfl⟩ := Int.eq_ofNat_of_zero_le (show 0 ≤ y by omega)
            obtain ⟨n, rfl⟩ := Int.eq_ofNat_of_zero_le c3.1
            obtain ⟨t, rfl⟩ := Int.eq_ofNat_of_zero_le c4.1
            have hm : m < 6 := by omega
            have h5 := (hG.1.1 m hm).2.1
            have hsz : st.2.2.2.2.2.2.2.2.2.2.2.2.1 m = iI (hg F.1 m) := (hu.1 m hm).2.1
            have hmon : st.2.2.2.2.2.2.2.2.2.2.2.1 m = iI (mon F.1 m) := (hu.1 m hm).1
            have hB := gF_B hG hN
            have hm0 := (hB.1 m hm).1
            have hm1 := hB.le hm
            rw [bn_i (p_dueOf hv.1 hG.1 hv.2.1 hG.2.1 hm), ck_N hm (by omega), cl_N (by omega)]
            by_cases c6 : hg F.1 m = 0
            · rw [dueI_0 c6, if_pos zm6.symm, if_pos (by rw [hsz, c6]; rfl)]
              exact same _ _
            · obtain ⟨k, k1, k2, k3⟩ := dueI_lt (L := F.2.1) hG.1 hm (by omega)
              have hpk := (hG.1.1 m hm).2.2 k k1
              have hr2 := hG.2.2.1
              have hnr : 0 ≤ (n : Int) * F.2.2.1 ∧ (n : Int) * F.2.2.1 ≤ 12 * 9 := ⟨Int.mul_nonneg (by omega) hr2.1, Int.mul_le_mul (by omega) hr2.2 hr2.1 (by omega)⟩
              have hpen : penD F.2.1 F.1 m = pe F.1 m k := by unfold penD; rw [if_neg c6, k3]
              have hdue := penD_psN (L := F.2.1) hG.1 hr2.1 hm (by omega) n
              rw [hpen] at hdue
              have hrate : st.2.1.2.2.2.2.2.2.2.2.2.2 = iI F.2.2.1 := hv.2.2.1
              obtain ⟨fs', l1⟩ := p_luckyShares (e := e) (t := t) (n := n) (la := penD F.2.1 (psN F.2.2.1 n F.1) m - mon F.1 m) (by omega) (by omega) (by omega) (by rw [hdue]; split <;> omega) st.2.2.2.2.2.2.2.1
              obtain ⟨ra, rb, rc, s1, sa, sb, sc⟩ := p_asNow st.2.2.2.2.2.2.2.2
              have hr0 := rM_cong hu.1 hG.1 sa sb sc
              obtain ⟨d', a', b', c', s2⟩ := od_pass hG.1 hG.2.1 hr2 hu.2.1 hu.2.2.1 hm (n := n) (by omega) (iI e) (iI t) (iI v) n 0 st.2.2.2.2.2.2.2.2.2.2.1 ra rb rc (by omega) hr0
              have s3 := od_sum (u := setND st.2.2.2.2.2.2.2.2 d' a' b' c') (m := m) (n := n) (t := t) (e := e) (mo := mon F.1 m) (du := penD F.2.1 (psN F.2.2.1 n F.1) m) hm (by omega) (by omega) (by omega) hmon (by omega) (by rw [hdue]; split <;> omega) (iI v) (n + 1) 0 (by omega)
              rw [od_up (by omega) (by omega)] at s3
              have hup : lkN e (penD F.2.1 (psN F.2.2.1 n F.1) m - mon F.1 m) (shN t n) 13 ≤ 13 * 1000000000000 := lkN_le 13 (fun i hi => sh_le n (by omega) t (by omega) i hi)
              have hlow := p10 n (by omega)
              have hen := eEn_ex 40 (lkN e (penD F.2.1 (psN F.2.2.1 n F.1) m - mon F.1 m) (shN t n) 13) (10 ^ n) hlow.2
              have hlow2 : 10 ^ n < 1099511627776 := hlow.2
              generalize lkN e (penD F.2.1 (psN F.2.2.1 n F.1) m - mon F.1 m) (shN t n) 13 = up at *
              generalize hten : 10 ^ n = low at *
              have s4 := gcd_loop (x1 := iI m) (x2 := iI e) (x3 := iI n) (x4 := iI t) (x5 := iI v) (u := setND st.2.2.2.2.2.2.2.2 d' a' b' c') (up := jL up) _ up low hen (by omega) (by omega)
              have hcd : f_X3_commonDivisor (jL up) (jL low) = some (jL (Nat.gcd low up)) := cd_loop _ up low 0 hen (by omega) (by omega) (by omega)
              have hg0 : 0 < Nat.gcd low up := Nat.gcd_pos_of_pos_left _ hlow.1
              have hg1 : Nat.gcd low up ≤ low := Nat.gcd_le_left _ hlow.1
              generalize Nat.gcd low up = gg at *
              have hpos : (0 : Int32) < lg_cmp (jL gg) 0 := (lg_cmp_gt _ _).mpr (by
                rw [Int64.lt_iff_toInt_lt, zL0, jL_to (by omega), jL_to (by omega)]
                omega)
              have hall : f_X3_allShares (iI n) = some (jL low) := by rw [p_allShares (by omega), hten]
              have htim : f_X4_times (10 : Int64) (iI n) = some (jL low) := by rw [zL10, p_times (by omega), hten]
              have s5 := s2.trans (s3.trans s4)
              have s6 : lpx (st_X4_odds (iI m) (iI e) (iI n) (iI t) (iI v)) (.inl (setND st.2.2.2.2.2.2.2.2 st.2.2.2.2.2.2.2.2.2.2.1 ra rb rc, 0)) = some ((if v = 0 then jL (up / gg) else jL (low / gg)), setND st.2.2.2.2.2.2.2.2 d' a' b' c') := by
                refine s5.trans (lpx_r ?_)
                show f_X4_odds_184 (iI m) (iI e) (iI n) (iI t) (iI v) _ _ _ _ = _
                unfold f_X4_odds_184
                rw [if_pos ((cmp_z (by omega)).mpr rfl), bn_i htim, dzl_N (by omega) hg0, dzl_N (by omega) hg0, jL_div (by omega) hg0 (by omega), jL_div (by omega) hg0 (by omega)]
                by_cases c7 : v = 0
                · rw [if_pos (by rw [c7]; rfl), if_pos c7]
                · rw [if_neg (by (first | omega | (simp (disch := omega) only [iI_le, iI_lt, iI_eq, iI_add, iI_sub, iI_mul, iI_neg, zm1, zm2, zm3, zm4, zm5, zm6, z0, z1, z2, z3, z4, z5, z6, z7, z8, z9, z10, z11, z12, z13, z14, z15, z20, z21, z22, z23, z24, z25, z30, z31, z33, z46, z48, z49, z57, z60, z62, z63, z64, z65, z70, z74, z75, z90, z96, z99, z102, z114, z115, z116, z117, z118, z126, z128, z236, z729, z999, z9999, z46656, z65537, z1000000] <;> omega))), if_neg c7]
              rw [k2, if_neg (by (first | omega | (simp (disch := omega) only [iI_le, iI_lt, iI_eq, iI_add, iI_sub, iI_mul, iI_neg, zm1, zm2, zm3, zm4, zm5, zm6, z0, z1, z2, z3, z4, z5, z6, z7, z8, z9, z10, z11, z12, z13, z14, z15, z20, z21, z22, z23, z24, z25, z30, z31, z33, z46, z48, z49, z57, z60, z62, z63, z64, z65, z70, z74, z75, z90, z96, z99, z102, z114, z115, z116, z117, z118, z126, z128, z236, z729, z999, z9999, z46656, z65537, z1000000] <;> omega))), if_neg (by rw [hsz]; (first | omega | (simp (disch := omega) only [iI_le, iI_lt, iI_eq, iI_add, iI_sub, iI_mul, iI_neg, zm1, zm2, zm3, zm4, zm5, zm6, z0, z1, z2, z3, z4, z5, z6, z7, z8, z9, z10, z11, z12, z13, z14, z15, z20, z21, z22, z23, z24, z25, z30, z31, z33, z46, z48, z49, z57, z60, z62, z63, z64, z65, z70, z74, z75, z90, z96, z99, z102, z114, z115, z116, z117, z118, z126, z128, z236, z729, z999, z9999, z46656, z65537, z1000000] <;> omega))), bn_i (p_penceOf hv.1 hG.1 hm k1), hrate, iI_mul, bn_i (p_grown ⟨by omega, by omega⟩), ← hdue, bn_i (p_purseOf hv.1 hm)]
              unfold nm
              dsimp only
              rw [iI_sub, bn_i l1, bn_i hall, bn_i s1]
              unfold f_X3_lowestTerms
              rw [bn_i hcd, if_pos hpos, dzl_N (by omega) hg0, dzl_N (by omega) hg0, jL_div (by omega) hg0 (by omega), jL_div (by omega) hg0 (by omega)]
              have s7 : rnx (st_X4_odds (iI m) (iI e) (iI n) (iI t) (iI v)) (some (.inl (.inl (setND st.2.2.2.2.2.2.2.2 st.2.2.2.2.2.2.2.2.2.2.1 ra rb rc, 0)))) = some ((if v = 0 then jL (up / gg) else jL (low / gg)), setND st.2.2.2.2.2.2.2.2 d' a' b' c') := s6
              rw [s7]
              by_cases c7 : v = 0
              · rw [if_pos (by rw [c7]; rfl), if_pos c7, bn_i rfl, bn_i rfl, bn_i rfl, if_pos ((lg_cmp_eq _ _).mpr rfl)]
                exact ⟨_, rfl, F, hv, hu, gF_up hG, hp, rK_up hk⟩
              · rw [if_neg (by (first | omega | (simp (disch := omega) only [iI_le, iI_lt, iI_eq, iI_add, iI_sub, iI_mul, iI_neg, zm1, zm2, zm3, zm4, zm5, zm6, z0, z1, z2, z3, z4, z5, z6, z7, z8, z9, z10, z11, z12, z13, z14, z15, z20, z21, z22, z23, z24, z25, z30, z31, z33, z46, z48, z49, z57, z60, z62, z63, z64, z65, z70, z74, z75, z90, z96, z99, z102, z114, z115, z116, z117, z118, z126, z128, z236, z729, z999, z9999, z46656, z65537, z1000000] <;> omega))), if_neg c7, bn_i rfl, bn_i rfl, bn_i rfl, if_pos ((lg_cmp_eq _ _).mpr rfl)]
                exact ⟨_, rfl, F, hv, hu, gF_up hG, hp, rK_up hk⟩
          · rw [b01_f c5, if_pos rfl, if_pos rfl]
            exact same _ _
        · rw [b01_f c4, if_pos rfl, if_pos rfl]
          exact same _ _
      · rw [b01_f c3, if_pos rfl, if_pos rfl]
        exact same _ _
    · rw [b01_f c2, if_pos rfl, if_pos rfl]
      exact same _ _
  · rw [b01_f c1, if_pos rfl, if_pos rfl]
    exact same _ _
