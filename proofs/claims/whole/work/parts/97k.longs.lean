/-! LONGS; shares of all ways that days can go -/
def jL (n : Nat) : Int64 := Int64.ofInt (n : Int)
theorem jL_add (a b : Nat) : jL a + jL b = jL (a + b) := (Int64.ofInt_add a b).symm
theorem jL_mul (a b : Nat) : jL a * jL b = jL (a * b) := by
  unfold jL
  rw [← Int64.ofInt_mul]
  rfl
theorem jL_to {n : Nat} (h : n < 9223372036854775808) : (jL n).toInt = n := Int64.toInt_ofInt_of_le (by omega) (by omega)
theorem jL_eq {a b : Nat} (ha : a < 9223372036854775808) (hb : b < 9223372036854775808) : jL a = jL b ↔ a = b := by
  constructor
  · intro h
    have := congrArg Int64.toInt h
    rw [jL_to ha, jL_to hb] at this
    omega
  · intro h; rw [h]
theorem jL_div {a b : Nat} (ha : a < 9223372036854775808) (h0 : 0 < b) (hb : b < 9223372036854775808) : jL a / jL b = jL (a / b) := by
  have hle := Nat.div_le_self a b
  refine Int64.toInt_inj.mp ?_
  rw [lg_ldiv_nonneg (by rw [jL_to ha]; omega) (by rw [jL_to hb]; omega), jL_to ha, jL_to hb, jL_to (by omega)]
  rfl
theorem jL_rem {a b : Nat} (ha : a < 9223372036854775808) (h0 : 0 < b) (hb : b < 9223372036854775808) : jL a - jL a / jL b * jL b = jL (a % b) := by
  rw [jL_div ha h0 hb, jL_mul]
  have := Nat.div_add_mod a b
  rw [Nat.mul_comm] at this
  unfold jL
  rw [← Int64.ofInt_sub]
  congr 1
  omega
theorem iL {n : Nat} (h : n < 2147483648) : (iI (n : Int)).toInt64 = jL n := by
  refine Int64.toInt_inj.mp ?_
  rw [Int32.toInt_toInt64, iI_to ⟨by omega, by omega⟩, jL_to (by omega)]
theorem zL0 : (0 : Int64) = jL 0 := by decide
theorem zL1 : (1 : Int64) = jL 1 := by decide
theorem zL10 : (10 : Int64) = jL 10 := by decide
theorem cmp_z {n : Nat} (h : n < 9223372036854775808) : lg_cmp (jL n) 0 = 0 ↔ n = 0 := by
  rw [lg_cmp_eq, zL0, jL_eq h (by omega)]
theorem dzl_N {α : Type} {n : Nat} {k : Option α} (h : n < 9223372036854775808) (h0 : 0 < n) : dzl (jL n) k = k := dzl_i (fun q => by
  rw [zL0, jL_eq h (by omega)] at q
  omega)
theorem p_fillL {N : Nat} (hN : N ≤ 1000) (f : AL) (x : Int64) : ∃ g, f_J7_fill_d0a16 N f x = some g ∧ ∀ i, i < N → g i = x := by
  have loop : ∀ k i (f : AL), i + k = N → (∀ j, j < i → f j = x) → ∃ g, lpx (st_J7_fill_d0a16 N x) (f, iI i, iI N) = some g ∧ ∀ j, j < N → g j = x := by
    intro k
    induction k with
    | zero =>
      intro i f hi h
      refine ⟨f, lpx_r ?_, fun j hj => h j (by omega)⟩
      show f_J7_fill_d0a16_6 N x _ _ _ = _
      unfold f_J7_fill_d0a16_6
      rw [if_pos (by (first | omega | (simp (disch := omega) only [iI_le, iI_lt, iI_eq, iI_add, iI_sub, iI_mul, iI_neg, zm1, zm2, zm3, zm4, zm5, zm6, z0, z1, z2, z3, z4, z5, z6, z7, z8, z9, z10, z11, z12, z13, z14, z15, z20, z21, z22, z23, z24, z25, z30, z31, z33, z46, z48, z49, z57, z60, z62, z63, z64, z65, z70, z74, z75, z90, z96, z99, z102, z114, z115, z116, z117, z118, z126, z128, z236, z729, z999, z9999, z46656, z65537, z1000000] <;> omega)))]
    | succ k ih =>
      intro i f hi h
      obtain ⟨g, e1, e2⟩ := ih (i + 1) (vp_updL f i x) (by omega) (fun j hj => by
        by_cases e : j = i
        · subst e; exact pk_uLs
        · rw [pk_uLn e]; exact h j (by omega))
      refine ⟨g, (lpx_l ?_).trans e1, e2⟩
      show f_J7_fill_d0a16_6 N x _ _ _ = _
      unfold f_J7_fill_d0a16_6 nm
      rw [if_neg (by (first | omega | (simp (disch := omega) only [iI_le, iI_lt, iI_eq, iI_add, iI_sub, iI_mul, iI_neg, zm1, zm2, zm3, zm4, zm5, zm6, z0, z1, z2, z3, z4, z5, z6, z7, z8, z9, z10, z11, z12, z13, z14, z15, z20, z21, z22, z23, z24, z25, z30, z31, z33, z46, z48, z49, z57, z60, z62, z63, z64, z65, z70, z74, z75, z90, z96, z99, z102, z114, z115, z116, z117, z118, z126, z128, z236, z729, z999, z9999, z46656, z65537, z1000000] <;> omega))), ck_N (by omega) (by omega), cl_N (by omega), iI_s]
  obtain ⟨g, e1, e2⟩ := loop N 0 f (by omega) (fun j hj => absurd hj (by omega))
  refine ⟨g, ?_, e2⟩
  unfold f_J7_fill_d0a16 f_J7_fill_d0a16_0 nm
  rw [show Int32.ofNat N = iI (N : Int) from (iI_nat N).symm]
  exact e1
/-- of k earnings on d days: their share of all ways -/
def shN (t : Nat) : Nat → Nat → Nat
  | 0, 0 => 1
  | 0, _ + 1 => 0
  | d + 1, 0 => shN t d 0 * (10 - t)
  | d + 1, k + 1 => shN t d (k + 1) * (10 - t) + shN t d k * t
theorem shN_0 (t : Nat) : ∀ d k, d < k → shN t d k = 0
  | 0, 0, h => absurd h (by omega)
  | 0, _ + 1, _ => rfl
  | d + 1, 0, h => absurd h (by omega)
  | d + 1, k + 1, h => by
    unfold shN
    rw [shN_0 t d (k + 1) (by omega), shN_0 t d k (by omega)]
    omega
def chM (n : Nat) : Nat → Nat
  | 0 => 1
  | i + 1 => chM n i * (n - i) / (i + 1)
theorem chM_le : ∀ n, n < 13 → ∀ k, k < 13 → chM n k ≤ 1000 := by decide +kernel
theorem sh_eq : ∀ n, n < 13 → ∀ t, t < 11 → ∀ k, k < n + 1 → shN t n k = chM n k * t ^ k * (10 - t) ^ (n - k) := by decide +kernel
theorem sh_le : ∀ n, n < 13 → ∀ t, t < 11 → ∀ k, k < 13 → shN t n k ≤ 1000000000000 := by decide +kernel
def lkN (e la : Int) (f : Nat → Nat) : Nat → Nat
  | 0 => 0
  | k + 1 => if e * k < la then lkN e la f k else lkN e la f k + f k
theorem lkN_le {e la : Int} {f : Nat → Nat} {M : Nat} : ∀ k, (∀ i, i < k → f i ≤ M) → lkN e la f k ≤ k * M
  | 0, _ => Nat.zero_le _
  | k + 1, h => by
    have ih := lkN_le (e := e) (la := la) k (fun i hi => h i (by omega))
    have hk := h k (by omega)
    unfold lkN
    rw [Nat.succ_mul]
    split <;> omega
theorem lkN_c {e la : Int} {f g : Nat → Nat} : ∀ k, (∀ i, i < k → f i = g i) → lkN e la f k = lkN e la g k
  | 0, _ => rfl
  | k + 1, h => by
    unfold lkN
    rw [lkN_c k (fun i hi => h i (by omega)), h k (by omega)]
theorem lkN_0 {e la : Int} {f : Nat → Nat} {n : Nat} : ∀ k, (∀ i, n ≤ i → f i = 0) → lkN e la f (n + k) = lkN e la f n
  | 0, _ => rfl
  | k + 1, h => by
    show (if e * ((n + k : Nat) : Int) < la then lkN e la f (n + k) else lkN e la f (n + k) + f (n + k)) = _
    rw [lkN_0 k h, h (n + k) (by omega), Nat.add_zero]
    split <;> rfl
theorem lk_in {x1 x2 x4 : Int32} {t d : Nat} (ht : t ≤ 10) (hd : d < 12) : ∀ (k : Nat) (fs : AL), k ≤ d + 1 → (∀ j, j ≤ 12 → fs j = jL (if k < j then shN t (d + 1) j else shN t d j)) → ∃ fs', lpx (st_X3_luckyShares x1 x2 (iI t) x4) (.inr (.inl (fs, iI ((d + 1 : Nat) : Int), iI k))) = lpx (st_X3_luckyShares x1 x2 (iI t) x4) (.inl (fs', iI ((d + 2 : Nat) : Int))) ∧ ∀ j, j ≤ 12 → fs' j = jL (shN t (d + 1) j) := by
  have e10 : ((10 : Int32) - iI (t : Int)).toInt64 = jL (10 - t) := by
    rw [z10, iI_sub, show (10 : Int) - (t : Int) = ((10 - t : Nat) : Int) by omega, iL (by omega)]
  have et : (iI (t : Int)).toInt64 = jL t := iL (by omega)
  intro k
  induction k with
  | zero =>
    intro fs hk h
    refine ⟨vp_updL fs 0 (jL (shN t d 0) * jL (10 - t)), lpx_l ?_, fun j hj => ?_⟩
    · show f_X3_luckyShares_35 x1 x2 (iI t) x4 _ _ _ = _
      unfold f_X3_luckyShares_35 nm
      have h0 := h 0 (by omega)
      rw [if_neg (by omega)] at h0
      rw [if_pos (by (first | omega | (simp (disch := omega) only [iI_le, iI_lt, iI_eq, iI_add, iI_sub, iI_mul, iI_neg, zm1, zm2, zm3, zm4, zm5, zm6, z0, z1, z2, z3, z4, z5, z6, z7, z8, z9, z10, z11, z12, z13, z14, z15, z20, z21, z22, z23, z24, z25, z30, z31, z33, z46, z48, z49, z57, z60, z62, z63, z64, z65, z70, z74, z75, z90, z96, z99, z102, z114, z115, z116, z117, z118, z126, z128, z236, z729, z999, z9999, z46656, z65537, z1000000] <;> omega))), e10, show (0 : Int32) = iI ((0 : Nat) : Int) from rfl, ck_N (by omega) (by omega), cl_N (by omega), iI_s]
      dsimp only
      rw [h0]
    · by_cases e : j = 0
      · subst e
        rw [pk_uLs, jL_mul]
        rfl
      · rw [pk_uLn e, h j hj, if_pos (by omega)]
  | succ k ih =>
    intro fs hk h
    have h1 := h (k + 1) (by omega)
    have h0 := h k (by omega)
    rw [if_neg (by omega)] at h1 h0
    obtain ⟨fs', f1, f2⟩ := ih (vp_updL fs (k + 1) (jL (shN t d (k + 1)) * jL (10 - t) + jL (shN t d k) * jL t)) (by omega) (fun j hj => by
      by_cases e : j = k + 1
      · subst e
        rw [pk_uLs, jL_mul, jL_mul, jL_add, if_pos (by omega)]
        rfl
      · rw [pk_uLn e, h j hj]
        congr 1
        by_cases c : k + 1 < j
        · rw [if_pos c, if_pos (by omega)]
        · rw [if_neg c, if_neg (by omega)])
    refine ⟨fs', (lpx_l ?_).trans f1, f2⟩
    show f_X3_luckyShares_35 x1 x2 (iI t) x4 _ _ _ = _
    unfold f_X3_luckyShares_35 nm
    rw [if_neg (by (first | omega | (simp (disch := omega) only [iI_le, iI_lt, iI_eq, iI_add, iI_sub, iI_mul, iI_neg, zm1, zm2, zm3, zm4, zm5, zm6, z0, z1, z2, z3, z4, z5, z6, z7, z8, z9, z10, z11, z12, z13, z14, z15, z20, z21, z22, z23, z24, z25, z30, z31, z33, z46, z48, z49, z57, z60, z62, z63, z64, z65, z70, z74, z75, z90, z96, z99, z102, z114, z115, z116, z117, z118, z126, z128, z236, z729, z999, z9999, z46656, z65537, z1000000] <;> omega))), e10, et, ck_N (by omega) (by omega), cl_N (by omega), zm1, z1, iI_sub, iI_add, show (((k + 1 : Nat) : Int) - 1) = (k : Nat) by omega, show (((k + 1 : Nat) : Int) + -1) = (k : Nat) by omega, ck_N (by omega) (by omega), cl_N (by omega)]
    dsimp only
    rw [h1, h0]
theorem lk_out {x1 x4 : Int32} {t n : Nat} (ht : t ≤ 10) (hn : n ≤ 12) : ∀ (m d : Nat) (fs : AL), d + m = n → (∀ j, j ≤ 12 → fs j = jL (shN t d j)) → ∃ fs', lpx (st_X3_luckyShares x1 (iI n) (iI t) x4) (.inl (fs, iI ((d + 1 : Nat) : Int))) = lpx (st_X3_luckyShares x1 (iI n) (iI t) x4) (.inr (.inr (fs', 0, 0))) ∧ ∀ j, j ≤ 12 → fs' j = jL (shN t n j) := by
  intro m
  induction m with
  | zero =>
    intro d fs hd h
    have : d = n := by omega
    subst this
    refine ⟨fs, lpx_l ?_, h⟩
    show f_X3_luckyShares_18 x1 (iI d) (iI t) x4 _ _ = _
    unfold f_X3_luckyShares_18
    rw [if_pos (by (first | omega | (simp (disch := omega) only [iI_le, iI_lt, iI_eq, iI_add, iI_sub, iI_mul, iI_neg, zm1, zm2, zm3, zm4, zm5, zm6, z0, z1, z2, z3, z4, z5, z6, z7, z8, z9, z10, z11, z12, z13, z14, z15, z20, z21, z22, z23, z24, z25, z30, z31, z33, z46, z48, z49, z57, z60, z62, z63, z64, z65, z70, z74, z75, z90, z96, z99, z102, z114, z115, z116, z117, z118, z126, z128, z236, z729, z999, z9999, z46656, z65537, z1000000] <;> omega)))]
  | succ m ih =>
    intro d fs hd h
    obtain ⟨fs1, f1, f2⟩ := lk_in (x1 := x1) (x2 := iI n) (x4 := x4) ht (d := d) (by omega) (d + 1) fs (Nat.le_refl _) (fun j hj => by
      rw [h j hj]
      congr 1
      by_cases c : d + 1 < j
      · rw [if_pos c, shN_0 t d j (by omega), shN_0 t (d + 1) j (by omega)]
      · rw [if_neg c])
    obtain ⟨fs2, g1, g2⟩ := ih (d + 1) fs1 (by omega) f2
    refine ⟨fs2, (lpx_l ?_).trans (f1.trans g1), g2⟩
    show f_X3_luckyShares_18 x1 (iI n) (iI t) x4 _ _ = _
    unfold f_X3_luckyShares_18
    rw [if_neg (by (first | omega | (simp (disch := omega) only [iI_le, iI_lt, iI_eq, iI_add, iI_sub, iI_mul, iI_neg, zm1, zm2, zm3, zm4, zm5, zm6, z0, z1, z2, z3, z4, z5, z6, z7, z8, z9, z10, z11, z12, z13, z14, z15, z20, z21, z22, z23, z24, z25, z30, z31, z33, z46, z48, z49, z57, z60, z62, z63, z64, z65, z70, z74, z75, z90, z96, z99, z102, z114, z115, z116, z117, z118, z126, z128, z236, z729, z999, z9999, z46656, z65537, z1000000] <;> omega))), if_neg (by (first | omega | (simp (disch := omega) only [iI_le, iI_lt, iI_eq, iI_add, iI_sub, iI_mul, iI_neg, zm1, zm2, zm3, zm4, zm5, zm6, z0, z1, z2, z3, z4, z5, z6, z7, z8, z9, z10, z11, z12, z13, z14, z15, z20, z21, z22, z23, z24, z25, z30, z31, z33, z46, z48, z49, z57, z60, z62, z63, z64, z65, z70, z74, z75, z90, z96, z99, z102, z114, z115, z116, z117, z118, z126, z128, z236, z729, z999, z9999, z46656, z65537, z1000000] <;> omega)))]
theorem lk_sum {x2 x3 : Int32} {e : Nat} {la : Int} (he : 1 ≤ e ∧ e ≤ 99) (hla : -2000000 ≤ la ∧ la ≤ 2000000) {f : Nat → Nat} {fs : AL} (h : ∀ j, j ≤ 12 → fs j = jL (f j)) : ∀ (m k : Nat), k + m = 13 → lpx (st_X3_luckyShares (iI e) x2 x3 (iI la)) (.inr (.inr (fs, jL (lkN e la f k), iI k))) = some (jL (lkN e la f 13), fs) := by
  intro m
  induction m with
  | zero =>
    intro k hk
    have : k = 13 := by omega
    subst this
    refine lpx_r ?_
    show f_X3_luckyShares_109 (iI e) x2 x3 (iI la) _ _ _ = _
    unfold f_X3_luckyShares_109
    rw [if_pos (by (first | omega | (simp (disch := omega) only [iI_le, iI_lt, iI_eq, iI_add, iI_sub, iI_mul, iI_neg, zm1, zm2, zm3, zm4, zm5, zm6, z0, z1, z2, z3, z4, z5, z6, z7, z8, z9, z10, z11, z12, z13, z14, z15, z20, z21, z22, z23, z24, z25, z30, z31, z33, z46, z48, z49, z57, z60, z62, z63, z64, z65, z70, z74, z75, z90, z96, z99, z102, z114, z115, z116, z117, z118, z126, z128, z236, z729, z999, z9999, z46656, z65537, z1000000] <;> omega)))]
  | succ m ih =>
    intro k hk
    have hek : 0 ≤ (e : Int) * k ∧ (e : Int) * k ≤ 99 * 13 := by
      have h1 : e * k ≤ 99 * 13 := Nat.mul_le_mul (by omega) (by omega)
      have h2 : ((e * k : Nat) : Int) = (e : Int) * k := Int.natCast_mul e k
      omega
    refine (lpx_l ?_).trans (ih (k + 1) (by omega))
    show f_X3_luckyShares_109 (iI e) x2 x3 (iI la) _ _ _ = _
    unfold f_X3_luckyShares_109 nm
    rw [if_neg (by (first | omega | (simp (disch := omega) only [iI_le, iI_lt, iI_eq, iI_add, iI_sub, iI_mul, iI_neg, zm1, zm2, zm3, zm4, zm5, zm6, z0, z1, z2, z3, z4, z5, z6, z7, z8, z9, z10, z11, z12, z13, z14, z15, z20, z21, z22, z23, z24, z25, z30, z31, z33, z46, z48, z49, z57, z60, z62, z63, z64, z65, z70, z74, z75, z90, z96, z99, z102, z114, z115, z116, z117, z118, z126, z128, z236, z729, z999, z9999, z46656, z65537, z1000000] <;> omega))), iI_mul, iI_s]
    show _ = some (Sum.inl (Sum.inr (Sum.inr (_, jL (if (e : Int) * k < la then lkN e la f k else lkN e la f k + f k), _))))
    by_cases c : (e : Int) * k < la
    · rw [if_pos ((iI_lt ⟨by omega, by omega⟩ ⟨by omega, by omega⟩).mpr c), if_pos c, zL0, jL_add]
      rfl
    · rw [if_neg (fun q => c ((iI_lt ⟨by omega, by omega⟩ ⟨by omega, by omega⟩).mp q)), if_neg c, ck_N (by omega) (by omega), cl_N (by omega)]
      dsimp only
      rw [h k (by omega), jL_add]
theorem p_luckyShares {e t n : Nat} {la : Int} (he : 1 ≤ e ∧ e ≤ 99) (ht : t ≤ 10) (hn : n ≤ 12) (hla : -2000000 ≤ la ∧ la ≤ 2000000) (fs : AL) : ∃ fs', f_X3_luckyShares fs (iI e) (iI n) (iI t) (iI la) = some (jL (lkN e la (shN t n) 13), fs') := by
  obtain ⟨g, e1, e2⟩ := p_fillL (N := 13) (by omega) fs 0
  obtain ⟨fs1, f1, f2⟩ := lk_out (x1 := iI e) (x4 := iI la) ht hn n 0 (vp_updL g 0 1) (by omega) (fun j hj => by
    by_cases c : j = 0
    · subst c
      rw [pk_uLs, zL1]
      rfl
    · rw [pk_uLn c, e2 j (by omega), zL0, shN_0 t 0 j (by omega)])
  have g1 := lk_sum (x2 := iI n) (x3 := iI t) he hla f2 13 0 (by omega)
  refine ⟨fs1, ?_⟩
  unfold f_X3_luckyShares f_X3_luckyShares_0 nm
  rw [bn_i e1]
  dsimp only
  rw [show (0 : Int32) = iI ((0 : Nat) : Int) from rfl, ck_N (by omega) (by omega), cl_N (by omega)]
  exact f1.trans g1
theorem p_allShares {n : Nat} (hn : n ≤ 12) : f_X3_allShares (iI n) = some (jL (10 ^ n)) := by
  have loop : ∀ k i, i + k = n → lpx (st_X3_allShares (iI n)) (jL (10 ^ i), iI i) = some (jL (10 ^ n)) := by
    intro k
    induction k with
    | zero =>
      intro i hi
      have : i = n := by omega
      subst this
      refine lpx_r ?_
      show f_X3_allShares_4 (iI i) _ _ = _
      unfold f_X3_allShares_4
      rw [if_pos (by (first | omega | (simp (disch := omega) only [iI_le, iI_lt, iI_eq, iI_add, iI_sub, iI_mul, iI_neg, zm1, zm2, zm3, zm4, zm5, zm6, z0, z1, z2, z3, z4, z5, z6, z7, z8, z9, z10, z11, z12, z13, z14, z15, z20, z21, z22, z23, z24, z25, z30, z31, z33, z46, z48, z49, z57, z60, z62, z63, z64, z65, z70, z74, z75, z90, z96, z99, z102, z114, z115, z116, z117, z118, z126, z128, z236, z729, z999, z9999, z46656, z65537, z1000000] <;> omega)))]
    | succ k ih =>
      intro i hi
      refine (lpx_l ?_).trans (ih (i + 1) (by omega))
      show f_X3_allShares_4 (iI n) _ _ = _
      unfold f_X3_allShares_4 nm
      rw [if_neg (by (first | omega | (simp (disch := omega) only [iI_le, iI_lt, iI_eq, iI_add, iI_sub, iI_mul, iI_neg, zm1, zm2, zm3, zm4, zm5, zm6, z0, z1, z2, z3, z4, z5, z6, z7, z8, z9, z10, z11, z12, z13, z14, z15, z20, z21, z22, z23, z24, z25, z30, z31, z33, z46, z48, z49, z57, z60, z62, z63, z64, z65, z70, z74, z75, z90, z96, z99, z102, z114, z115, z116, z117, z118, z126, z128, z236, z729, z999, z9999, z46656, z65537, z1000000] <;> omega))), zL10, jL_mul, iI_s, Nat.pow_succ]
  exact loop n 0 (by omega)
theorem p_times {v n : Nat} (hn : n ≤ 12) : f_X4_times (jL v) (iI n) = some (jL (v ^ n)) := by
  have loop : ∀ k i, i + k = n → lpx (st_X4_times (jL v) (iI n)) (jL (v ^ i), iI i) = some (jL (v ^ n)) := by
    intro k
    induction k with
    | zero =>
      intro i hi
      have : i = n := by omega
      subst this
      refine lpx_r ?_
      show f_X4_times_5 (jL v) (iI i) _ _ = _
      unfold f_X4_times_5
      rw [if_pos (by (first | omega | (simp (disch := omega) only [iI_le, iI_lt, iI_eq, iI_add, iI_sub, iI_mul, iI_neg, zm1, zm2, zm3, zm4, zm5, zm6, z0, z1, z2, z3, z4, z5, z6, z7, z8, z9, z10, z11, z12, z13, z14, z15, z20, z21, z22, z23, z24, z25, z30, z31, z33, z46, z48, z49, z57, z60, z62, z63, z64, z65, z70, z74, z75, z90, z96, z99, z102, z114, z115, z116, z117, z118, z126, z128, z236, z729, z999, z9999, z46656, z65537, z1000000] <;> omega)))]
    | succ k ih =>
      intro i hi
      refine (lpx_l ?_).trans (ih (i + 1) (by omega))
      show f_X4_times_5 (jL v) (iI n) _ _ = _
      unfold f_X4_times_5 nm
      rw [if_neg (by (first | omega | (simp (disch := omega) only [iI_le, iI_lt, iI_eq, iI_add, iI_sub, iI_mul, iI_neg, zm1, zm2, zm3, zm4, zm5, zm6, z0, z1, z2, z3, z4, z5, z6, z7, z8, z9, z10, z11, z12, z13, z14, z15, z20, z21, z22, z23, z24, z25, z30, z31, z33, z46, z48, z49, z57, z60, z62, z63, z64, z65, z70, z74, z75, z90, z96, z99, z102, z114, z115, z116, z117, z118, z126, z128, z236, z729, z999, z9999, z46656, z65537, z1000000] <;> omega))), jL_mul, iI_s, Nat.pow_succ]
  have h0 := loop n 0 (by omega)
  rw [Nat.pow_zero] at h0
  exact h0
theorem p_choose {n k : Nat} (hn : n ≤ 12) (hk : k ≤ n) : f_X4_choose (iI n) (iI k) = some (jL (chM n k)) := by
  have loop : ∀ m i, i + m = k → lpx (st_X4_choose (iI n) (iI k)) (jL (chM n i), iI i) = some (jL (chM n k)) := by
    intro m
    induction m with
    | zero =>
      intro i hi
      have : i = k := by omega
      subst this
      refine lpx_r ?_
      show f_X4_choose_5 (iI n) (iI i) _ _ = _
      unfold f_X4_choose_5
      rw [if_pos (by (first | omega | (simp (disch := omega) only [iI_le, iI_lt, iI_eq, iI_add, iI_sub, iI_mul, iI_neg, zm1, zm2, zm3, zm4, zm5, zm6, z0, z1, z2, z3, z4, z5, z6, z7, z8, z9, z10, z11, z12, z13, z14, z15, z20, z21, z22, z23, z24, z25, z30, z31, z33, z46, z48, z49, z57, z60, z62, z63, z64, z65, z70, z74, z75, z90, z96, z99, z102, z114, z115, z116, z117, z118, z126, z128, z236, z729, z999, z9999, z46656, z65537, z1000000] <;> omega)))]
    | succ m ih =>
      intro i hi
      refine (lpx_l ?_).trans (ih (i + 1) (by omega))
      have hb := chM_le n (by omega) i (by omega)
      have hb2 : chM n i * (n - i) ≤ 1000 * 12 := Nat.mul_le_mul hb (by omega)
      show f_X4_choose_5 (iI n) (iI k) _ _ = _
      unfold f_X4_choose_5 nm
      rw [if_neg (by (first | omega | (simp (disch := omega) only [iI_le, iI_lt, iI_eq, iI_add, iI_sub, iI_mul, iI_neg, zm1, zm2, zm3, zm4, zm5, zm6, z0, z1, z2, z3, z4, z5, z6, z7, z8, z9, z10, z11, z12, z13, z14, z15, z20, z21, z22, z23, z24, z25, z30, z31, z33, z46, z48, z49, z57, z60, z62, z63, z64, z65, z70, z74, z75, z90, z96, z99, z102, z114, z115, z116, z117, z118, z126, z128, z236, z729, z999, z9999, z46656, z65537, z1000000] <;> omega))), iI_s, iL (by omega), iI_sub, show ((n : Int) - (i : Int)) = ((n - i : Nat) : Int) by omega, iL (by omega), dzl_N (by omega) (by omega), jL_mul, jL_div (by omega) (by omega) (by omega)]
      rfl
  exact loop k 0 (by omega)
