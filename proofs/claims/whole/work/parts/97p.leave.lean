/-! SOON in the class: standing at a place, leaving it -/
theorem p_fillI {N : Nat} (hN : N ≤ 1000) (f : AI) (x : Int32) : ∃ g, f_J7_fill_53178 N f x = some g ∧ ∀ i, i < N → g i = x := by
  have loop : ∀ k i (f : AI), i + k = N → (∀ j, j < i → f j = x) → ∃ g, lpx (st_J7_fill_53178 N x) (f, iI i, iI N) = some g ∧ ∀ j, j < N → g j = x := by
    intro k
    induction k with
    | zero =>
      intro i f hi h
      refine ⟨f, lpx_r ?_, fun j hj => h j (by omega)⟩
      show f_J7_fill_53178_5 N x _ _ _ = _
      unfold f_J7_fill_53178_5
      rw [if_pos (by (first | omega | (simp (disch := omega) only [iI_le, iI_lt, iI_eq, iI_add, iI_sub, iI_mul, iI_neg, zm1, zm2, zm3, zm4, zm5, zm6, z0, z1, z2, z3, z4, z5, z6, z7, z8, z9, z10, z11, z12, z13, z14, z15, z20, z21, z22, z23, z24, z25, z30, z31, z33, z46, z48, z49, z57, z60, z62, z63, z64, z65, z70, z74, z75, z90, z96, z99, z102, z114, z115, z116, z117, z118, z122, z126, z128, z236, z729, z999, z7776, z9999, z46656, z65537, z1000000] <;> omega)))]
    | succ k ih =>
      intro i f hi h
      obtain ⟨g, e1, e2⟩ := ih (i + 1) (upd f i x) (by omega) (fun j hj => by
        by_cases e : j = i
        · subst e; exact upd_s
        · rw [upd_n e]; exact h j (by omega))
      refine ⟨g, (lpx_l ?_).trans e1, e2⟩
      show f_J7_fill_53178_5 N x _ _ _ = _
      unfold f_J7_fill_53178_5 nm
      rw [if_neg (by (first | omega | (simp (disch := omega) only [iI_le, iI_lt, iI_eq, iI_add, iI_sub, iI_mul, iI_neg, zm1, zm2, zm3, zm4, zm5, zm6, z0, z1, z2, z3, z4, z5, z6, z7, z8, z9, z10, z11, z12, z13, z14, z15, z20, z21, z22, z23, z24, z25, z30, z31, z33, z46, z48, z49, z57, z60, z62, z63, z64, z65, z70, z74, z75, z90, z96, z99, z102, z114, z115, z116, z117, z118, z122, z126, z128, z236, z729, z999, z7776, z9999, z46656, z65537, z1000000] <;> omega))), ck_N (by omega) (by omega), cl_N (by omega), iI_s]
  obtain ⟨g, e1, e2⟩ := loop N 0 f (by omega) (fun j hj => absurd hj (by omega))
  refine ⟨g, ?_, e2⟩
  unfold f_J7_fill_53178 f_J7_fill_53178_0 nm
  rw [show Int32.ofNat N = iI (N : Int) from (iI_nat N).symm]
  exact e1
abbrev setZ (y : YS) (pu pd : AI) (la : AL) : YS := (y.1, pu, y.2.2.1, y.2.2.2.1, y.2.2.2.2.1, pd, y.2.2.2.2.2.2.1, y.2.2.2.2.2.2.2.1, la, y.2.2.2.2.2.2.2.2.2)
abbrev bl (lim : Nat → Nat) : Nat → Nat := fun m => lim m + 1
theorem blp (lim : Nat → Nat) : ∀ m, 0 < bl lim m := fun m => by show 0 < lim m + 1; omega
def rZ (y : YS) (Q : QU) (mo : Nat → Int) (lim : Nat → Nat) : Prop := ∀ m, m < 6 → y.1 m = iI (mo m) ∧ y.2.2.1 m = iI (qh Q m) ∧ y.2.2.2.2.2.2.1 m = iI (lim m) ∧ y.2.2.2.2.2.2.2.1 m = iI (wt (bl lim) m) ∧ ∀ t, t < qh Q m → y.2.2.2.1 (m * 5 + t) = iI (ql Q m t) ∧ y.2.2.2.2.1 (m * 5 + t) = iI (qp Q m t)
abbrev okL (Q : QU) (lim : Nat → Nat) : Prop := ∀ m, m < 6 → lim m ≤ qh Q m
theorem wl {Q : QU} (hW : Wq Q) {lim : Nat → Nat} (hl : okL Q lim) : ∀ k, k ≤ 6 → 0 < wt (bl lim) k ∧ wt (bl lim) k ≤ 46656 := fun k hk => by
  refine ⟨wt_pos (blp lim) k, ?_⟩
  have h1 := wt_le (b := bl lim) (fun m hm => by have := hl m hm; have := (hW m hm).1; show lim m + 1 ≤ 6; omega) k hk
  have h2 : ∀ k, k < 7 → 6 ^ k ≤ 46656 := by decide +kernel
  have := h2 k (by omega)
  omega
/-- the first m men have paid as at the place x, the next one k -/
def cI (lim : Nat → Nat) (x m k : Nat) : Nat → Nat := fun i => if i < m then dig (bl lim) x i else if i = m then k else 0
theorem cI_s (lim : Nat → Nat) (x m k : Nat) : stp (cI lim x m k) m = cI lim x m (k + 1) := by
  funext i
  unfold stp cI
  by_cases c : i = m
  · subst c
    rw [if_pos rfl, if_neg (by omega), if_pos rfl, if_neg (by omega), if_pos rfl]
  · rw [if_neg c, if_neg c, if_neg c]
theorem cI_n (lim : Nat → Nat) (x m : Nat) : cI lim x m (dig (bl lim) x m) = cI lim x (m + 1) 0 := by
  funext i
  unfold cI
  by_cases c : i < m
  · rw [if_pos c, if_pos (by omega)]
  · rw [if_neg c]
    by_cases c2 : i = m
    · subst c2
      rw [if_pos rfl, if_pos (by omega)]
    · rw [if_neg c2, if_neg (by omega)]
      split <;> rfl
theorem cI_0 (lim : Nat → Nat) (x : Nat) : cI lim x 0 0 = fun _ => 0 := by
  funext i
  unfold cI
  rw [if_neg (by omega)]
  split <;> rfl
theorem cI_6 (lim : Nat → Nat) (x : Nat) : cI lim x 6 0 = dig (bl lim) x := by
  funext i
  unfold cI
  by_cases c : i < 6
  · rw [if_pos c]
  · rw [if_neg c]
    unfold dig
    rw [if_neg c]
    split <;> rfl
theorem p_standAt {y : YS} {Q : QU} {mo : Nat → Int} {lim : Nat → Nat} (hz : rZ y Q mo lim) (hW : Wq Q) (hl : okL Q lim) {x : Nat} (hx : x < 46656) (pu pd : AI) (la : AL) : ∃ pu' pd', f_X1_standAt (setZ y pu pd la) (iI x) = some (setZ y pu' pd' la) ∧ rY (setZ y pu' pd' la) Q mo (dig (bl lim) x) := by
  have hdl : ∀ m, m < 6 → dig (bl lim) x m ≤ lim m := fun m hm => by have : dig (bl lim) x m < lim m + 1 := dig_lt (blp lim) x; omega
  have hdd : ∀ m, m < 6 → dig (bl lim) x m = x / wt (bl lim) m % (lim m + 1) := fun m hm => by unfold dig; rw [if_pos hm]
  have inner : ∀ m, m < 6 → ∀ (j k : Nat) (pu pd : AI) (le : Int32), k + j = dig (bl lim) x m → rY (setZ y pu pd la) Q mo (cI lim x m k) → ∃ pu' pd', lpx (st_X1_standAt (iI x)) (.inr (setZ y pu pd la, le, iI m, iI ((dig (bl lim) x m : Nat) : Int), iI k)) = lpx (st_X1_standAt (iI x)) (.inl (setZ y pu' pd' la, le, iI ((m + 1 : Nat) : Int))) ∧ rY (setZ y pu' pd' la) Q mo (cI lim x (m + 1) 0) := by
    intro m hm j
    have hlm := hl m hm
    have h5 := (hW m hm).1
    have hd := hdl m hm
    induction j with
    | zero =>
      intro k pu pd le hk hr
      have : k = dig (bl lim) x m := by omega
      subst this
      refine ⟨pu, pd, lpx_l ?_, by rw [← cI_n]; exact hr⟩
      show f_X1_standAt_62 (iI x) _ _ _ _ _ = _
      unfold f_X1_standAt_62 nm
      rw [if_pos (by (first | omega | (simp (disch := omega) only [iI_le, iI_lt, iI_eq, iI_add, iI_sub, iI_mul, iI_neg, zm1, zm2, zm3, zm4, zm5, zm6, z0, z1, z2, z3, z4, z5, z6, z7, z8, z9, z10, z11, z12, z13, z14, z15, z20, z21, z22, z23, z24, z25, z30, z31, z33, z46, z48, z49, z57, z60, z62, z63, z64, z65, z70, z74, z75, z90, z96, z99, z102, z114, z115, z116, z117, z118, z122, z126, z128, z236, z729, z999, z7776, z9999, z46656, z65537, z1000000] <;> omega))), iI_s (m)]
    | succ j ih =>
      intro k pu pd le hk hr
      have hcm : cI lim x m k m = k := by unfold cI; rw [if_neg (by omega), if_pos rfl]
      obtain ⟨pu1, pd1, e1, e2⟩ := p_ypay hr hW (fun i hi => by
        unfold cI
        split
        · have := hdl i hi; have := hl i hi; omega
        · split
          · rename_i c; subst c; omega
          · omega) hm (by rw [hcm]; omega)
      rw [cI_s] at e2
      obtain ⟨pu2, pd2, f1, f2⟩ := ih (k + 1) pu1 pd1 le (by omega) e2
      refine ⟨pu2, pd2, (lpx_l ?_).trans f1, f2⟩
      show f_X1_standAt_62 (iI x) _ _ _ _ _ = _
      unfold f_X1_standAt_62 nm
      rw [if_neg (by (first | omega | (simp (disch := omega) only [iI_le, iI_lt, iI_eq, iI_add, iI_sub, iI_mul, iI_neg, zm1, zm2, zm3, zm4, zm5, zm6, z0, z1, z2, z3, z4, z5, z6, z7, z8, z9, z10, z11, z12, z13, z14, z15, z20, z21, z22, z23, z24, z25, z30, z31, z33, z46, z48, z49, z57, z60, z62, z63, z64, z65, z70, z74, z75, z90, z96, z99, z102, z114, z115, z116, z117, z118, z122, z126, z128, z236, z729, z999, z7776, z9999, z46656, z65537, z1000000] <;> omega))), bn_i e1, iI_s (k)]
  have outer : ∀ (j m : Nat) (pu pd : AI), m + j = 6 → rY (setZ y pu pd la) Q mo (cI lim x m 0) → ∃ pu' pd', lpx (st_X1_standAt (iI x)) (.inl (setZ y pu pd la, iI ((x / wt (bl lim) m : Nat) : Int), iI m)) = some (setZ y pu' pd' la) ∧ rY (setZ y pu' pd' la) Q mo (dig (bl lim) x) := by
    intro j
    induction j with
    | zero =>
      intro m pu pd hm hr
      have : m = 6 := by omega
      subst this
      refine ⟨pu, pd, lpx_r ?_, by rw [← cI_6]; exact hr⟩
      show f_X1_standAt_27 (iI x) _ _ _ = _
      unfold f_X1_standAt_27
      rw [if_pos (by (first | omega | (simp (disch := omega) only [iI_le, iI_lt, iI_eq, iI_add, iI_sub, iI_mul, iI_neg, zm1, zm2, zm3, zm4, zm5, zm6, z0, z1, z2, z3, z4, z5, z6, z7, z8, z9, z10, z11, z12, z13, z14, z15, z20, z21, z22, z23, z24, z25, z30, z31, z33, z46, z48, z49, z57, z60, z62, z63, z64, z65, z70, z74, z75, z90, z96, z99, z102, z114, z115, z116, z117, z118, z122, z126, z128, z236, z729, z999, z7776, z9999, z46656, z65537, z1000000] <;> omega)))]
    | succ j ih =>
      intro m pu pd hm hr
      have hm6 : m < 6 := by omega
      have hlm := hl m hm6
      have h5 := (hW m hm6).1
      have hle := Nat.div_le_self x (wt (bl lim) m)
      have elim := (hz m hm6).2.2.1
      obtain ⟨pu1, pd1, e1, e2⟩ := inner m hm6 (dig (bl lim) x m) 0 pu pd (iI ((x / wt (bl lim) (m + 1) : Nat) : Int)) (by omega) hr
      obtain ⟨pu2, pd2, f1, f2⟩ := ih (m + 1) pu1 pd1 (by omega) e2
      refine ⟨pu2, pd2, ((lpx_l ?_).trans e1).trans f1, f2⟩
      have ed : x / wt (bl lim) (m + 1) = x / wt (bl lim) m / (lim m + 1) := by
        show x / (wt (bl lim) m * bl lim m) = _
        rw [Nat.div_div_eq_div_mul]
      rw [ed, hdd m hm6]
      generalize x / wt (bl lim) m = D at *
      show f_X1_standAt_27 (iI x) _ _ _ = _
      unfold f_X1_standAt_27 nm
      dsimp only
      rw [if_neg (by (first | omega | (simp (disch := omega) only [iI_le, iI_lt, iI_eq, iI_add, iI_sub, iI_mul, iI_neg, zm1, zm2, zm3, zm4, zm5, zm6, z0, z1, z2, z3, z4, z5, z6, z7, z8, z9, z10, z11, z12, z13, z14, z15, z20, z21, z22, z23, z24, z25, z30, z31, z33, z46, z48, z49, z57, z60, z62, z63, z64, z65, z70, z74, z75, z90, z96, z99, z102, z114, z115, z116, z117, z118, z122, z126, z128, z236, z729, z999, z7776, z9999, z46656, z65537, z1000000] <;> omega))), ck_N hm6 (by omega), cl_N (by omega), elim, iI_s (lim m), if_neg (by (first | omega | (simp (disch := omega) only [iI_le, iI_lt, iI_eq, iI_add, iI_sub, iI_mul, iI_neg, zm1, zm2, zm3, zm4, zm5, zm6, z0, z1, z2, z3, z4, z5, z6, z7, z8, z9, z10, z11, z12, z13, z14, z15, z20, z21, z22, z23, z24, z25, z30, z31, z33, z46, z48, z49, z57, z60, z62, z63, z64, z65, z70, z74, z75, z90, z96, z99, z102, z114, z115, z116, z117, z118, z122, z126, z128, z236, z729, z999, z7776, z9999, z46656, z65537, z1000000] <;> omega))), dz_i (by (first | omega | (simp (disch := omega) only [iI_le, iI_lt, iI_eq, iI_add, iI_sub, iI_mul, iI_neg, zm1, zm2, zm3, zm4, zm5, zm6, z0, z1, z2, z3, z4, z5, z6, z7, z8, z9, z10, z11, z12, z13, z14, z15, z20, z21, z22, z23, z24, z25, z30, z31, z33, z46, z48, z49, z57, z60, z62, z63, z64, z65, z70, z74, z75, z90, z96, z99, z102, z114, z115, z116, z117, z118, z122, z126, z128, z236, z729, z999, z7776, z9999, z46656, z65537, z1000000] <;> omega))), dz_i (by (first | omega | (simp (disch := omega) only [iI_le, iI_lt, iI_eq, iI_add, iI_sub, iI_mul, iI_neg, zm1, zm2, zm3, zm4, zm5, zm6, z0, z1, z2, z3, z4, z5, z6, z7, z8, z9, z10, z11, z12, z13, z14, z15, z20, z21, z22, z23, z24, z25, z30, z31, z33, z46, z48, z49, z57, z60, z62, z63, z64, z65, z70, z74, z75, z90, z96, z99, z102, z114, z115, z116, z117, z118, z122, z126, z128, z236, z729, z999, z7776, z9999, z46656, z65537, z1000000] <;> omega))), iI_rem (by omega) (by omega) (by omega) (by omega), iI_div (by omega) (by omega) (by omega) (by omega)]
      rfl
  obtain ⟨g, g1, g2⟩ := p_fillI (N := 6) (by omega) pd 0
  obtain ⟨pu', pd', e1, e2⟩ := outer 6 0 (va_cpy y.1 pu 0 0 6) g (by omega) (fun m hm => by
    obtain ⟨a1, a2, a3, a4, a5⟩ := hz m hm
    refine ⟨?_, a2, ?_, a5⟩
    · rw [cI_0, mny_0, ← a1]
      show (if 0 ≤ m ∧ m < 0 + 6 then y.1 (0 + (m - 0)) else pu m) = _
      rw [if_pos (by omega), show 0 + (m - 0) = m by omega]
    · rw [cI_0]
      exact g2 m hm)
  refine ⟨pu', pd', ?_, e2⟩
  rw [show x / wt (bl lim) 0 = x from Nat.div_one x] at e1
  unfold f_X1_standAt f_X1_standAt_0 nm
  dsimp only
  rw [bn_i g1]
  exact e1
theorem p_mark {y : YS} {pu pd : AI} {la : AL} {p : Nat} (hp : p < 7776) : ∃ la', f_X1_mark (setZ y pu pd la) (iI p) = some (setZ y pu pd la') ∧ ∀ q, bit la' q ↔ (bit la q ∨ q = p) := by
  refine ⟨_, ?_, fun q => bit_mark (f := la) (p := p)⟩
  unfold f_X1_mark nm
  dsimp only
  rw [if_neg (by (first | omega | (simp (disch := omega) only [iI_le, iI_lt, iI_eq, iI_add, iI_sub, iI_mul, iI_neg, zm1, zm2, zm3, zm4, zm5, zm6, z0, z1, z2, z3, z4, z5, z6, z7, z8, z9, z10, z11, z12, z13, z14, z15, z20, z21, z22, z23, z24, z25, z30, z31, z33, z46, z48, z49, z57, z60, z62, z63, z64, z65, z70, z74, z75, z90, z96, z99, z102, z114, z115, z116, z117, z118, z122, z126, z128, z236, z729, z999, z7776, z9999, z46656, z65537, z1000000] <;> omega))), if_neg (by (first | omega | (simp (disch := omega) only [iI_le, iI_lt, iI_eq, iI_add, iI_sub, iI_mul, iI_neg, zm1, zm2, zm3, zm4, zm5, zm6, z0, z1, z2, z3, z4, z5, z6, z7, z8, z9, z10, z11, z12, z13, z14, z15, z20, z21, z22, z23, z24, z25, z30, z31, z33, z46, z48, z49, z57, z60, z62, z63, z64, z65, z70, z74, z75, z90, z96, z99, z102, z114, z115, z116, z117, z118, z122, z126, z128, z236, z729, z999, z7776, z9999, z46656, z65537, z1000000] <;> omega))), z64, iI_div (by omega) (by omega) (by omega) (by omega), show ((p : Int) / 64) = ((p / 64 : Nat) : Int) by omega, ck_N (by omega) (by omega), cl_N (by omega), iI_mul, iI_sub, show ((p : Int) - ((p / 64 : Nat) : Int) * 64) = ((p % 64 : Nat) : Int) by omega]
/-- where one of the six can not move, five are left -/
theorem wt_le1 {b : Nat → Nat} (h : ∀ m, m < 6 → b m ≤ 6) {a : Nat} (h1 : b a = 1) : ∀ k, k ≤ 6 → (a < k → wt b k ≤ 6 ^ (k - 1)) ∧ wt b k ≤ 6 ^ k
  | 0, _ => ⟨fun q => absurd q (by omega), Nat.le_refl _⟩
  | k + 1, hk => by
    obtain ⟨i1, i2⟩ := wt_le1 h h1 k (by omega)
    refine ⟨fun q => ?_, wt_le h (k + 1) hk⟩
    show wt b k * b k ≤ 6 ^ (k + 1 - 1)
    rw [show k + 1 - 1 = k by omega]
    by_cases c : a = k
    · subst c
      rw [h1, Nat.mul_one]
      exact i2
    · have h2 := Nat.mul_le_mul (i1 (by omega)) (h k (by omega))
      rw [← Nat.pow_succ, show (k - 1).succ = k by omega] at h2
      exact h2
/-- one man has paid so many, the others as told -/
def wa_p (c : Nat → Nat) (a n : Nat) : Nat → Nat := fun i => if i = a then n else c i
theorem wa_s {c : Nat → Nat} {a n : Nat} : wa_p c a n a = n := by unfold wa_p; rw [if_pos rfl]
theorem wa_n {c : Nat → Nat} {a n x : Nat} (h : x ≠ a) : wa_p c a n x = c x := by unfold wa_p; rw [if_neg h]
theorem wa_stp (c : Nat → Nat) (a n : Nat) : stp (wa_p c a n) a = wa_p c a (n + 1) := by
  funext i
  by_cases h : i = a
  · subst h; rw [stp_s, wa_s, wa_s]
  · rw [stp_n h, wa_n h, wa_n h]
theorem wa_id {c : Nat → Nat} {a n : Nat} (h : c a = n) : wa_p c a n = c := by
  funext i
  by_cases e : i = a
  · subst e; rw [wa_s, h]
  · rw [wa_n e]
theorem wa_wa (c : Nat → Nat) (a k n : Nat) : wa_p (wa_p c a k) a n = wa_p c a n := by
  funext i
  by_cases h : i = a
  · subst h; rw [wa_s, wa_s]
  · rw [wa_n h, wa_n h, wa_n h]
theorem wa_st1 (c : Nat → Nat) (a n : Nat) : wa_p (stp c a) a n = wa_p c a n := by
  funext i
  by_cases h : i = a
  · subst h; rw [wa_s, wa_s]
  · rw [wa_n h, stp_n h, wa_n h]
theorem wa_st2 (c : Nat → Nat) {a m : Nat} (hm : m ≠ a) (n : Nat) : wa_p (stp c m) a n = stp (wa_p c a n) m := by
  funext i
  by_cases h : i = a
  · subst h; rw [wa_s, stp_n (fun q => hm q.symm), wa_s]
  · rw [wa_n h]
    by_cases h2 : i = m
    · subst h2; rw [stp_s, stp_s, wa_n h]
    · rw [stp_n h2, stp_n h2, wa_n h]
/-- he pays whenever he can, until as many as told -/
abbrev gr_d (Q : QU) (mo : Nat → Int) (a w : Nat) (c : Nat → Nat) (g : Nat) : Prop := g ≤ w ∧ (∀ j, j < g → can Q mo (wa_p c a j) a) ∧ (g < w → ¬ can Q mo (wa_p c a g) a)
theorem gr_one {Q : QU} {mo : Nat → Int} {a w : Nat} {c : Nat → Nat} {g g' : Nat} (h : gr_d Q mo a w c g) (h' : gr_d Q mo a w c g') : g = g' := by
  rcases Nat.lt_trichotomy g g' with q | q | q
  · exact absurd (h'.2.1 g q) (h.2.2 (by have := h'.1; omega))
  · exact q
  · exact absurd (h.2.1 g' q) (h'.2.2 (by have := h.1; omega))
theorem gr_ex (Q : QU) (mo : Nat → Int) (a w : Nat) (c : Nat → Nat) : ∃ g, gr_d Q mo a w c g := by
  obtain ⟨g, g1, g2, g3⟩ := leastN (P := fun g => g = w ∨ ¬ can Q mo (wa_p c a g) a) w (Or.inl rfl)
  refine ⟨g, g1, fun j hj => ?_, fun h => ?_⟩
  · by_cases q : can Q mo (wa_p c a j) a
    · exact q
    · exact absurd (Or.inr q) (g3 j hj)
  · rcases g2 with q | q
    · omega
    · exact q
abbrev mk (Q : QU) (mo : Nat → Int) (lim : Nat → Nat) (a w : Nat) (c : Nat → Nat) (m : Nat) : Prop := c m < lim m ∧ ∃ g, gr_d Q mo a w c g ∧ can Q mo (wa_p c a g) m
abbrev gol (Q : QU) (mo : Nat → Int) (a w : Nat) (c : Nat → Nat) : Prop := ∀ j, j < w → can Q mo (wa_p c a j) a
theorem p_leave {y : YS} {Q : QU} {mo : Nat → Int} {lim : Nat → Nat} (hz : rZ y Q mo lim) (hW : Wq Q) (hM : okM mo) (hl : okL Q lim) {a w : Nat} (ha : a < 6) (hla : lim a = 0) (hw : w ≤ qh Q a) (h7 : wt (bl lim) 6 ≤ 7776) {x : Nat} (hx : x < wt (bl lim) 6) (pu pd : AI) (la : AL) : ∃ r pu' pd' la', f_X1_leave (setZ y pu pd la) (iI x) (iI a) (iI w) = some (r, setZ y pu' pd' la') ∧ ((r = 1 ∧ gol Q mo a w (dig (bl lim) x)) ∨ (r = 0 ∧ ¬ gol Q mo a w (dig (bl lim) x) ∧ ∀ p, bit la' p ↔ (bit la p ∨ ∃ m, m < 6 ∧ mk Q mo lim a w (dig (bl lim) x) m ∧ p = x + wt (bl lim) m))) := by
  obtain ⟨pu1, pd1, e1, e2⟩ := p_standAt hz hW hl (x := x) (by omega) pu pd la
  have hdl : ∀ m, m < 6 → dig (bl lim) x m ≤ lim m := fun m hm => by have : dig (bl lim) x m < lim m + 1 := dig_lt (blp lim) x; omega
  have hplace : ∀ m, m < 6 → dig (bl lim) x m < lim m → x + wt (bl lim) m < wt (bl lim) 6 := fun m hm h => by
    have h1 := enc_lt (b := bl lim) (c := stp (dig (bl lim) x) m) 6 (fun i hi => by
      by_cases e : i = m
      · subst e; rw [stp_s]; show _ < lim i + 1; omega
      · rw [stp_n e]; have := hdl i hi; show _ < lim i + 1; omega)
    rw [(enc_stp 6).1 hm, enc_dig (blp lim) hx] at h1
    exact h1
  have hda : dig (bl lim) x a = 0 := by have := hdl a ha; omega
  generalize hC : dig (bl lim) x = C at *
  have h5a := (hW a ha).1
  have hc : ∀ g, g ≤ w → okC Q (wa_p C a g) := fun g hg' m hm => by
    by_cases e : m = a
    · subst e; rw [wa_s]; omega
    · rw [wa_n e]; have := hdl m hm; have := hl m hm; omega
  have e33 : ∀ (g : Nat) (pu pd : AI), g ≤ w → rY (setZ y pu pd la) Q mo (wa_p C a g) → f_X1_leave_33 (iI x) (iI a) (iI w) (setZ y pu pd la) = if g < w then some (.inl (.inr (setZ y pu pd la, iI ((0 : Nat) : Int)))) else some (.inr (1, setZ y pu pd la)) := by
    intro g pu pd hg' hr
    have hpd : pd a = iI (g : Int) := by have := (hr a ha).2.2.1; rw [wa_s] at this; exact this
    unfold f_X1_leave_33
    dsimp only
    rw [ck_N ha (by omega), cl_N (by omega)]
    by_cases c : g < w
    · rw [if_pos (by rw [hpd]; (first | omega | (simp (disch := omega) only [iI_le, iI_lt, iI_eq, iI_add, iI_sub, iI_mul, iI_neg, zm1, zm2, zm3, zm4, zm5, zm6, z0, z1, z2, z3, z4, z5, z6, z7, z8, z9, z10, z11, z12, z13, z14, z15, z20, z21, z22, z23, z24, z25, z30, z31, z33, z46, z48, z49, z57, z60, z62, z63, z64, z65, z70, z74, z75, z90, z96, z99, z102, z114, z115, z116, z117, z118, z122, z126, z128, z236, z729, z999, z7776, z9999, z46656, z65537, z1000000] <;> omega))), if_pos c]
      rfl
    · rw [if_neg (by rw [hpd]; (first | omega | (simp (disch := omega) only [iI_le, iI_lt, iI_eq, iI_add, iI_sub, iI_mul, iI_neg, zm1, zm2, zm3, zm4, zm5, zm6, z0, z1, z2, z3, z4, z5, z6, z7, z8, z9, z10, z11, z12, z13, z14, z15, z20, z21, z22, z23, z24, z25, z30, z31, z33, z46, z48, z49, z57, z60, z62, z63, z64, z65, z70, z74, z75, z90, z96, z99, z102, z114, z115, z116, z117, z118, z122, z126, z128, z236, z729, z999, z7776, z9999, z46656, z65537, z1000000] <;> omega))), if_neg c]
  have greedy : ∀ (j k : Nat) (pu pd : AI), k + j = w → rY (setZ y pu pd la) Q mo (wa_p C a k) → (∀ i, i < k → can Q mo (wa_p C a i) a) → ∃ g pu' pd', gr_d Q mo a w C g ∧ rY (setZ y pu' pd' la) Q mo (wa_p C a g) ∧ (g = w → lpx (st_X1_leave (iI x) (iI a) (iI w)) (.inl (setZ y pu pd la, iI k)) = some (1, setZ y pu' pd' la)) ∧ (g < w → lpx (st_X1_leave (iI x) (iI a) (iI w)) (.inl (setZ y pu pd la, iI k)) = lpx (st_X1_leave (iI x) (iI a) (iI w)) (.inr (setZ y pu' pd' la, iI ((0 : Nat) : Int)))) := by
    intro j
    induction j with
    | zero =>
      intro k pu pd hk hr hb
      have : k = w := by omega
      subst this
      refine ⟨k, pu, pd, ⟨Nat.le_refl _, hb, fun q => absurd q (by omega)⟩, hr, fun _ => lpx_r ?_, fun q => absurd q (by omega)⟩
      show f_X1_leave_8 (iI x) (iI a) (iI k) _ _ = _
      unfold f_X1_leave_8
      rw [if_pos (by (first | omega | (simp (disch := omega) only [iI_le, iI_lt, iI_eq, iI_add, iI_sub, iI_mul, iI_neg, zm1, zm2, zm3, zm4, zm5, zm6, z0, z1, z2, z3, z4, z5, z6, z7, z8, z9, z10, z11, z12, z13, z14, z15, z20, z21, z22, z23, z24, z25, z30, z31, z33, z46, z48, z49, z57, z60, z62, z63, z64, z65, z70, z74, z75, z90, z96, z99, z102, z114, z115, z116, z117, z118, z122, z126, z128, z236, z729, z999, z7776, z9999, z46656, z65537, z1000000] <;> omega))), e33 k pu pd (by omega) hr, if_neg (by omega)]
    | succ j ih =>
      intro k pu pd hk hr hb
      by_cases cc : can Q mo (wa_p C a k) a
      · obtain ⟨pu2, pd2, f1, f2⟩ := p_ypay hr hW (hc k (by omega)) ha cc.1
        rw [wa_stp] at f2
        obtain ⟨g, pu3, pd3, g1, g2, g3, g4⟩ := ih (k + 1) pu2 pd2 (by omega) f2 (fun i hi => by
          by_cases e : i = k
          · subst e; exact cc
          · exact hb i (by omega))
        have hst : st_X1_leave (iI x) (iI a) (iI w) (.inl (setZ y pu pd la, iI k)) = some (.inl (.inl (setZ y pu2 pd2 la, iI ((k + 1 : Nat) : Int)))) := by
          show f_X1_leave_8 (iI x) (iI a) (iI w) _ _ = _
          unfold f_X1_leave_8 nm
          rw [if_neg (by (first | omega | (simp (disch := omega) only [iI_le, iI_lt, iI_eq, iI_add, iI_sub, iI_mul, iI_neg, zm1, zm2, zm3, zm4, zm5, zm6, z0, z1, z2, z3, z4, z5, z6, z7, z8, z9, z10, z11, z12, z13, z14, z15, z20, z21, z22, z23, z24, z25, z30, z31, z33, z46, z48, z49, z57, z60, z62, z63, z64, z65, z70, z74, z75, z90, z96, z99, z102, z114, z115, z116, z117, z118, z122, z126, z128, z236, z729, z999, z7776, z9999, z46656, z65537, z1000000] <;> omega))), bn_i (p_ycan hr hW hM (hc k (by omega)) ha), c01_t cc, if_neg n10, bn_i f1, iI_s (k)]
        exact ⟨g, pu3, pd3, g1, g2, fun q => (lpx_l hst).trans (g3 q), fun q => (lpx_l hst).trans (g4 q)⟩
      · refine ⟨k, pu, pd, ⟨by omega, hb, fun _ => cc⟩, hr, fun q => absurd q (by omega), fun q => lpx_l ?_⟩
        show f_X1_leave_8 (iI x) (iI a) (iI w) _ _ = _
        unfold f_X1_leave_8
        rw [if_neg (by (first | omega | (simp (disch := omega) only [iI_le, iI_lt, iI_eq, iI_add, iI_sub, iI_mul, iI_neg, zm1, zm2, zm3, zm4, zm5, zm6, z0, z1, z2, z3, z4, z5, z6, z7, z8, z9, z10, z11, z12, z13, z14, z15, z20, z21, z22, z23, z24, z25, z30, z31, z33, z46, z48, z49, z57, z60, z62, z63, z64, z65, z70, z74, z75, z90, z96, z99, z102, z114, z115, z116, z117, z118, z122, z126, z128, z236, z729, z999, z7776, z9999, z46656, z65537, z1000000] <;> omega))), bn_i (p_ycan hr hW hM (hc k (by omega)) ha), c01_f cc, if_pos rfl, e33 k pu pd (by omega) hr, if_pos q]
  obtain ⟨g, pu2, pd2, g1, g2, g3, g4⟩ := greedy w 0 pu1 pd1 (by omega) (by rw [wa_id hda]; exact e2) (fun i hi => absurd hi (by omega))
  have start : f_X1_leave (setZ y pu pd la) (iI x) (iI a) (iI w) = lpx (st_X1_leave (iI x) (iI a) (iI w)) (.inl (setZ y pu1 pd1 la, iI ((0 : Nat) : Int))) := by
    unfold f_X1_leave f_X1_leave_0
    rw [bn_i e1]
    rfl
  by_cases cw : g = w
  · refine ⟨1, pu2, pd2, la, start.trans (g3 cw), Or.inl ⟨rfl, ?_⟩⟩
    rw [← cw]
    exact g1.2.1
  have glt : g < w := by have := g1.1; omega
  have hmk : ∀ m, mk Q mo lim a w C m ↔ (C m < lim m ∧ can Q mo (wa_p C a g) m) := fun m => by
    constructor
    · rintro ⟨q1, g', q2, q3⟩
      rw [gr_one g1 q2]
      exact ⟨q1, q3⟩
    · rintro ⟨q1, q3⟩
      exact ⟨q1, g, g1, q3⟩
  have loop : ∀ (j m : Nat) (la1 : AL), m + j = 6 → (∀ p, bit la1 p ↔ (bit la p ∨ ∃ m', m' < m ∧ mk Q mo lim a w C m' ∧ p = x + wt (bl lim) m')) → ∃ la', lpx (st_X1_leave (iI x) (iI a) (iI w)) (.inr (setZ y pu2 pd2 la1, iI m)) = some (0, setZ y pu2 pd2 la') ∧ ∀ p, bit la' p ↔ (bit la p ∨ ∃ m, m < 6 ∧ mk Q mo lim a w C m ∧ p = x + wt (bl lim) m) := by
    intro j
    induction j with
    | zero =>
      intro m la1 hm hb
      have : m = 6 := by omega
      subst this
      refine ⟨la1, lpx_r ?_, hb⟩
      show f_X1_leave_48 (iI x) (iI a) (iI w) _ _ = _
      unfold f_X1_leave_48
      rw [if_pos (by (first | omega | (simp (disch := omega) only [iI_le, iI_lt, iI_eq, iI_add, iI_sub, iI_mul, iI_neg, zm1, zm2, zm3, zm4, zm5, zm6, z0, z1, z2, z3, z4, z5, z6, z7, z8, z9, z10, z11, z12, z13, z14, z15, z20, z21, z22, z23, z24, z25, z30, z31, z33, z46, z48, z49, z57, z60, z62, z63, z64, z65, z70, z74, z75, z90, z96, z99, z102, z114, z115, z116, z117, z118, z122, z126, z128, z236, z729, z999, z7776, z9999, z46656, z65537, z1000000] <;> omega)))]
    | succ j ih =>
      intro m la1 hm hb
      have hm6 : m < 6 := by omega
      obtain ⟨y1, y2, y3, y4, y5⟩ := hz m hm6
      have hd := hdl m hm6
      have hlm := hl m hm6
      have h5 := (hW m hm6).1
      have hr1 : rY (setZ y pu2 pd2 la1) Q mo (wa_p C a g) := g2
      have hpd : pd2 m = iI ((wa_p C a g m : Nat) : Int) := (g2 m hm6).2.2.1
      have hcan := p_ycan hr1 hW hM (hc g g1.1) hm6
      have skip : ¬ mk Q mo lim a w C m → ∀ p, bit la1 p ↔ (bit la p ∨ ∃ m', m' < m + 1 ∧ mk Q mo lim a w C m' ∧ p = x + wt (bl lim) m') := fun hn p => by
        rw [hb p]
        constructor
        · rintro (q | ⟨m', q1, q2, q3⟩)
          · exact Or.inl q
          · exact Or.inr ⟨m', by omega, q2, q3⟩
        · rintro (q | ⟨m', q1, q2, q3⟩)
          · exact Or.inl q
          · refine Or.inr ⟨m', ?_, q2, q3⟩
            rcases Nat.lt_or_ge m' m with w1 | w1
            · exact w1
            · have : m' = m := by omega
              subst this
              exact absurd q2 hn
      have st48 : st_X1_leave (iI x) (iI a) (iI w) (.inr (setZ y pu2 pd2 la1, iI m)) = if y.2.2.2.2.2.2.1 m ≤ pd2 m then some (.inl (.inr (setZ y pu2 pd2 la1, iI ((m + 1 : Nat) : Int)))) else (if c01 (can Q mo (wa_p C a g) m) = 0 then some (.inl (.inr (setZ y pu2 pd2 la1, iI ((m + 1 : Nat) : Int)))) else bn (f_X1_mark (setZ y pu2 pd2 la1) (iI ((x + wt (bl lim) m : Nat) : Int))) (fun r => some (.inl (.inr (r, iI ((m + 1 : Nat) : Int)))))) := by
        show f_X1_leave_48 (iI x) (iI a) (iI w) _ _ = _
        unfold f_X1_leave_48 nm
        dsimp only
        rw [if_neg (by (first | omega | (simp (disch := omega) only [iI_le, iI_lt, iI_eq, iI_add, iI_sub, iI_mul, iI_neg, zm1, zm2, zm3, zm4, zm5, zm6, z0, z1, z2, z3, z4, z5, z6, z7, z8, z9, z10, z11, z12, z13, z14, z15, z20, z21, z22, z23, z24, z25, z30, z31, z33, z46, z48, z49, z57, z60, z62, z63, z64, z65, z70, z74, z75, z90, z96, z99, z102, z114, z115, z116, z117, z118, z122, z126, z128, z236, z729, z999, z7776, z9999, z46656, z65537, z1000000] <;> omega))), ck_N hm6 (by omega), cl_N (by omega), iI_s (m), bn_i hcan, y4, iI_aN]
      have eC : C m < lim m → wa_p C a g m = C m := fun q => wa_n (fun e => by subst e; omega)
      have hge : C m ≤ wa_p C a g m := by
        by_cases e : m = a
        · subst e; omega
        · exact Nat.le_of_eq (wa_n e).symm
      have hwl : wa_p C a g m ≤ 5 := by have := hc g g1.1 m hm6; omega
      by_cases c1 : lim m ≤ wa_p C a g m
      · rw [if_pos (by rw [y3, hpd]; (first | omega | (simp (disch := omega) only [iI_le, iI_lt, iI_eq, iI_add, iI_sub, iI_mul, iI_neg, zm1, zm2, zm3, zm4, zm5, zm6, z0, z1, z2, z3, z4, z5, z6, z7, z8, z9, z10, z11, z12, z13, z14, z15, z20, z21, z22, z23, z24, z25, z30, z31, z33, z46, z48, z49, z57, z60, z62, z63, z64, z65, z70, z74, z75, z90, z96, z99, z102, z114, z115, z116, z117, z118, z122, z126, z128, z236, z729, z999, z7776, z9999, z46656, z65537, z1000000] <;> omega)))] at st48
        obtain ⟨la', f1, f2⟩ := ih (m + 1) la1 (by omega) (skip (fun q => by have := eC q.1; have := q.1; omega))
        exact ⟨la', (lpx_l st48).trans f1, f2⟩
      · rw [if_neg (by rw [y3, hpd]; (first | omega | (simp (disch := omega) only [iI_le, iI_lt, iI_eq, iI_add, iI_sub, iI_mul, iI_neg, zm1, zm2, zm3, zm4, zm5, zm6, z0, z1, z2, z3, z4, z5, z6, z7, z8, z9, z10, z11, z12, z13, z14, z15, z20, z21, z22, z23, z24, z25, z30, z31, z33, z46, z48, z49, z57, z60, z62, z63, z64, z65, z70, z74, z75, z90, z96, z99, z102, z114, z115, z116, z117, z118, z122, z126, z128, z236, z729, z999, z7776, z9999, z46656, z65537, z1000000] <;> omega)))] at st48
        by_cases c2 : can Q mo (wa_p C a g) m
        · have hCm : C m < lim m := by omega
          have hpl := hplace m hm6 hCm
          obtain ⟨la2, k1, k2⟩ := p_mark (y := y) (pu := pu2) (pd := pd2) (la := la1) (p := x + wt (bl lim) m) (by omega)
          rw [c01_t c2, if_neg n10, bn_i k1] at st48
          have hb2 : ∀ p, bit la2 p ↔ (bit la p ∨ ∃ m', m' < m + 1 ∧ mk Q mo lim a w C m' ∧ p = x + wt (bl lim) m') := fun p => by
            rw [k2 p, hb p]
            constructor
            · rintro ((q | ⟨m', q1, q2, q3⟩) | q)
              · exact Or.inl q
              · exact Or.inr ⟨m', by omega, q2, q3⟩
              · exact Or.inr ⟨m, by omega, (hmk m).mpr ⟨hCm, c2⟩, q⟩
            · rintro (q | ⟨m', q1, q2, q3⟩)
              · exact Or.inl (Or.inl q)
              · rcases Nat.lt_or_ge m' m with w1 | w1
                · exact Or.inl (Or.inr ⟨m', w1, q2, q3⟩)
                · have : m' = m := by omega
                  subst this
                  exact Or.inr q3
          obtain ⟨la', f1, f2⟩ := ih (m + 1) la2 (by omega) hb2
          exact ⟨la', (lpx_l st48).trans f1, f2⟩
        · rw [c01_f c2, if_pos rfl] at st48
          obtain ⟨la', f1, f2⟩ := ih (m + 1) la1 (by omega) (skip (fun q => c2 ((hmk m).mp q).2))
          exact ⟨la', (lpx_l st48).trans f1, f2⟩
  obtain ⟨la', f1, f2⟩ := loop 6 0 la (by omega) (fun p => ⟨Or.inl, fun q => by
    rcases q with q | ⟨m', q1, _⟩
    · exact q
    · omega⟩)
  refine ⟨0, pu2, pd2, la', (start.trans (g4 glt)).trans f1, Or.inr ⟨rfl, fun q => g1.2.2 glt (q g glt), f2⟩⟩
