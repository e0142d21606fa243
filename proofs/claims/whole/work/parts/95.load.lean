/-! PAYINGS: loading in the class; the reference's -/
noncomputable def QS (L : Int) (S : SV) : QU := (hg S, fun m t => (ln S m (qk L (hg S m) (pe S m) t)).toNat, fun m t => pe S m (qk L (hg S m) (pe S m) t))
theorem Wq_S {L B : Int} {S : SV} (hG : gd B S) : Wq (QS L S) := fun m hm => ⟨(hG.1 m hm).2.1, fun t ht => by
  have ht : t < hg S m := ht
  have hb := (hG.1 m hm).2.2 _ (qk_ok L (hg S m) (pe S m) t ht).1
  exact ⟨by show (ln S m _).toNat < 6; omega, hb.2.2.1, hb.2.2.2⟩⟩
theorem mny_0 (Q : QU) (mo : Nat → Int) (i : Nat) : mny Q mo (fun _ => 0) i = mo i := by
  unfold mny sum6
  show mo i + (0 + 0 + 0 + 0 + 0 + 0) = mo i
  omega
/-- what is laid of a man, of his first K debts -/
def ldP (y : YS) (L : Int) (S : SV) (x K : Nat) : Prop := y.1 x = iI (mon S x) ∧ y.2.1 x = iI (mon S x) ∧ y.2.2.1 x = iI (hg S x) ∧ y.2.2.2.2.2.1 x = 0 ∧ ∀ j, j < K → y.2.2.2.1 (x * 5 + (tn L (pe S x) (hg S x) j - 1)) = iI (ln S x j) ∧ y.2.2.2.2.1 (x * 5 + (tn L (pe S x) (hg S x) j - 1)) = iI (pe S x j)
theorem p_load {v : VS} {S : SV} {B L : Int} (hr : rV v S) (hG : gd B S) (hL : v.2.2.2.2.2.2.2.2.2.1 = iI L) (hL2 : 0 ≤ L ∧ L ≤ 2) (y : YS) : ∃ y', f_X1_load y v = some y' ∧ rY y' (QS L S) (mon S) (fun _ => 0) ∧ ∀ m, m < 6 → y'.1 m = iI (mon S m) := by
  have inner : ∀ (m : Nat), m < 6 → ∀ (n k : Nat) (y : YS), k + n = hg S m → (∀ x, x < m → ldP y L S x (hg S x)) → ldP y L S m k → ∃ y', lpx (st_X1_load v) (.inr (y, iI m, iI k)) = lpx (st_X1_load v) (.inl (y', iI ((m + 1 : Nat) : Int))) ∧ ∀ x, x < m + 1 → ldP y' L S x (hg S x) := by
    intro m hm n
    have h5 := (hG.1 m hm).2.1
    induction n with
    | zero =>
      intro k y hk h1 h2
      have : k = hg S m := by omega
      subst this
      refine ⟨y, lpx_l ?_, fun x hx => ?_⟩
      · show f_X1_load_51 v _ _ _ = _
        unfold f_X1_load_51 nm
        rw [ck_N hm (by omega), cl_N (by omega), h2.2.2.1, if_pos (show iI (hg S m : Int) ≤ iI (hg S m : Int) by (first | omega | (simp (disch := omega) only [iI_le, iI_lt, iI_eq, iI_add, iI_sub, iI_mul, iI_neg, zm1, zm2, zm3, zm4, zm5, zm6, z0, z1, z2, z3, z4, z5, z6, z7, z8, z9, z10, z11, z12, z13, z14, z15, z20, z21, z22, z23, z24, z25, z30, z31, z33, z46, z48, z49, z57, z60, z62, z63, z64, z65, z70, z74, z75, z90, z96, z99, z102, z114, z115, z116, z117, z118, z126, z128, z236, z729, z999, z9999, z46656, z65537, z1000000] <;> omega))), iI_s (m)]
        split <;> rfl
      · rcases Nat.lt_or_ge x m with q | q
        · exact h1 x q
        · have : x = m := by omega
          subst this
          exact h2
    | succ n ih =>
      intro k y hk h1 h2
      have t1 := tn_pos (L := L) (p := pe S m) (h := hg S m) (k := k) (by omega)
      have t2 := tn_le L (pe S m) (hg S m) k
      obtain ⟨y', e1, e2⟩ := ih (k + 1) (y.1, y.2.1, y.2.2.1, upd y.2.2.2.1 (m * 5 + (tn L (pe S m) (hg S m) k - 1)) (iI (ln S m k)), upd y.2.2.2.2.1 (m * 5 + (tn L (pe S m) (hg S m) k - 1)) (iI (pe S m k)), y.2.2.2.2.2) (by omega) (fun x hx => by
        obtain ⟨a1, a2, a3, a4, a5⟩ := h1 x hx
        refine ⟨a1, a2, a3, a4, fun j hj => ?_⟩
        have t3 := tn_le L (pe S x) (hg S x) j
        have hx5 := (hG.1 x (by omega)).2.1
        show upd y.2.2.2.1 _ _ _ = _ ∧ upd y.2.2.2.2.1 _ _ _ = _
        rw [upd_n (by omega), upd_n (by omega)]
        exact a5 j hj) (by
        obtain ⟨a1, a2, a3, a4, a5⟩ := h2
        refine ⟨a1, a2, a3, a4, fun j hj => ?_⟩
        show upd y.2.2.2.1 _ _ _ = _ ∧ upd y.2.2.2.2.1 _ _ _ = _
        by_cases e : j = k
        · subst e
          rw [upd_s, upd_s]
          exact ⟨rfl, rfl⟩
        · have t3 := tn_pos (L := L) (p := pe S m) (h := hg S m) (k := j) (by omega)
          have t4 : tn L (pe S m) (hg S m) j ≠ tn L (pe S m) (hg S m) k := fun q => e (tn_inj (by omega) (by omega) q)
          rw [upd_n (by omega), upd_n (by omega)]
          exact a5 j (by omega))
      refine ⟨y', (lpx_l ?_).trans e1, e2⟩
      show f_X1_load_51 v _ _ _ = _
      unfold f_X1_load_51 nm
      have ex : iI (m : Int) * 5 + iI ((tn L (pe S m) (hg S m) k : Nat) : Int) - 1 = iI ((m * 5 + (tn L (pe S m) (hg S m) k - 1) : Nat) : Int) := by
        rw [z5, z1, iI_mul, iI_add, iI_sub]
        congr 1
        omega
      dsimp only
      rw [if_neg (by (first | omega | (simp (disch := omega) only [iI_le, iI_lt, iI_eq, iI_add, iI_sub, iI_mul, iI_neg, zm1, zm2, zm3, zm4, zm5, zm6, z0, z1, z2, z3, z4, z5, z6, z7, z8, z9, z10, z11, z12, z13, z14, z15, z20, z21, z22, z23, z24, z25, z30, z31, z33, z46, z48, z49, z57, z60, z62, z63, z64, z65, z70, z74, z75, z90, z96, z99, z102, z114, z115, z116, z117, z118, z126, z128, z236, z729, z999, z9999, z46656, z65537, z1000000] <;> omega))), ck_N hm (by omega), cl_N (n := m) (by omega), h2.2.2.1, if_neg (show ¬ iI (hg S m : Int) ≤ iI (k : Int) by (first | omega | (simp (disch := omega) only [iI_le, iI_lt, iI_eq, iI_add, iI_sub, iI_mul, iI_neg, zm1, zm2, zm3, zm4, zm5, zm6, z0, z1, z2, z3, z4, z5, z6, z7, z8, z9, z10, z11, z12, z13, z14, z15, z20, z21, z22, z23, z24, z25, z30, z31, z33, z46, z48, z49, z57, z60, z62, z63, z64, z65, z70, z74, z75, z90, z96, z99, z102, z114, z115, z116, z117, z118, z126, z128, z236, z729, z999, z9999, z46656, z65537, z1000000] <;> omega))), bn_i (p_turnOf hr hG hL hL2 hm (by omega)), ex, z1, z5, bn_i (p_isWithin ⟨by omega, by omega⟩ (by omega) (by omega)), b01_t (by omega), ← z1, if_neg n10, bn_i (p_lenderOf hr hG hm (by omega)), ck_N (by omega) (by omega), cl_N (by omega), bn_i (p_penceOf hr hG hm (by omega)), iI_s (k)]
  have outer : ∀ (n m : Nat) (y : YS), m + n = 6 → (∀ x, x < m → ldP y L S x (hg S x)) → ∃ y', lpx (st_X1_load v) (.inl (y, iI m)) = some y' ∧ ∀ x, x < 6 → ldP y' L S x (hg S x) := by
    intro n
    induction n with
    | zero =>
      intro m y hm h1
      have : m = 6 := by omega
      subst this
      refine ⟨y, lpx_r ?_, h1⟩
      show f_X1_load_2 v _ _ = _
      unfold f_X1_load_2
      rw [if_pos (by (first | omega | (simp (disch := omega) only [iI_le, iI_lt, iI_eq, iI_add, iI_sub, iI_mul, iI_neg, zm1, zm2, zm3, zm4, zm5, zm6, z0, z1, z2, z3, z4, z5, z6, z7, z8, z9, z10, z11, z12, z13, z14, z15, z20, z21, z22, z23, z24, z25, z30, z31, z33, z46, z48, z49, z57, z60, z62, z63, z64, z65, z70, z74, z75, z90, z96, z99, z102, z114, z115, z116, z117, z118, z126, z128, z236, z729, z999, z9999, z46656, z65537, z1000000] <;> omega)))]
    | succ n ih =>
      intro m y hm h1
      have hm6 : m < 6 := by omega
      obtain ⟨y1, e1, e2⟩ := inner m hm6 (hg S m) 0 (upd y.1 m (iI (mon S m)), upd y.2.1 m (iI (mon S m)), upd y.2.2.1 m (iI (hg S m)), y.2.2.2.1, y.2.2.2.2.1, upd y.2.2.2.2.2.1 m 0, y.2.2.2.2.2.2) (by omega) (fun x hx => by
        obtain ⟨a1, a2, a3, a4, a5⟩ := h1 x hx
        refine ⟨?_, ?_, ?_, ?_, a5⟩
        · show upd y.1 m _ x = _
          rw [upd_n (by omega)]; exact a1
        · show upd y.2.1 m _ x = _
          rw [upd_n (by omega)]; exact a2
        · show upd y.2.2.1 m _ x = _
          rw [upd_n (by omega)]; exact a3
        · show upd y.2.2.2.2.2.1 m _ x = _
          rw [upd_n (by omega)]; exact a4) ⟨upd_s, upd_s, upd_s, upd_s, fun j hj => absurd hj (by omega)⟩
      obtain ⟨y', f1, f2⟩ := ih (m + 1) y1 (by omega) e2
      refine ⟨y', ((lpx_l ?_).trans e1).trans f1, f2⟩
      show f_X1_load_2 v _ _ = _
      unfold f_X1_load_2 nm
      dsimp only
      rw [if_neg (by (first | omega | (simp (disch := omega) only [iI_le, iI_lt, iI_eq, iI_add, iI_sub, iI_mul, iI_neg, zm1, zm2, zm3, zm4, zm5, zm6, z0, z1, z2, z3, z4, z5, z6, z7, z8, z9, z10, z11, z12, z13, z14, z15, z20, z21, z22, z23, z24, z25, z30, z31, z33, z46, z48, z49, z57, z60, z62, z63, z64, z65, z70, z74, z75, z90, z96, z99, z102, z114, z115, z116, z117, z118, z126, z128, z236, z729, z999, z9999, z46656, z65537, z1000000] <;> omega))), bn_i (p_purseOf hr hm6), ck_N hm6 (by omega), cl_N (by omega), bn_i (p_debtsOf hr hm6), upd_s]
      rfl
  obtain ⟨y', e1, e2⟩ := outer 6 0 y (by omega) (fun x hx => absurd hx (by omega))
  refine ⟨y', e1, fun m hm => ?_, fun m hm => (e2 m hm).1⟩
  obtain ⟨a1, a2, a3, a4, a5⟩ := e2 m hm
  refine ⟨by rw [mny_0]; exact a2, a3, a4, fun t ht => ?_⟩
  have ht : t < hg S m := ht
  obtain ⟨k1, k2⟩ := qk_ok L (hg S m) (pe S m) t ht
  have hb := (hG.1 m hm).2.2 _ k1
  have := a5 _ k1
  rw [k2, Nat.add_sub_cancel] at this
  refine ⟨this.1.trans ?_, this.2⟩
  show iI (ln S m _) = iI (((ln S m _).toNat : Nat) : Int)
  congr 1
  omega
/-- a snapshot in which each has paid so many -/
def rS (L : Int) (S : SV) (Q : QU) (mo : Nat → Int) (c : Nat → Nat) : Prop := ∀ m, m < 6 → mon S m = mny Q mo c m ∧ hg S m + c m = qh Q m ∧ ∀ t, t < hg S m → ln S m (qk L (hg S m) (pe S m) t) = (ql Q m (c m + t) : Int) ∧ pe S m (qk L (hg S m) (pe S m) t) = qp Q m (c m + t)
theorem rS_0 {L B : Int} {S : SV} (hG : gd B S) : rS L S (QS L S) (mon S) (fun _ => 0) := fun m hm => ⟨(mny_0 _ _ _).symm, rfl, fun t ht => by
  have hb := (hG.1 m hm).2.2 _ (qk_ok L (hg S m) (pe S m) t ht).1
  rw [Nat.zero_add]
  refine ⟨?_, rfl⟩
  show ln S m _ = (((ln S m _).toNat : Nat) : Int)
  omega⟩
theorem rS_pen {L : Int} {S : SV} {Q : QU} {mo : Nat → Int} {c : Nat → Nat} (h : rS L S Q mo c) {m : Nat} (hm : m < 6) (h0 : 0 < hg S m) : penD L S m = qp Q m (c m) ∧ ln S m (dueF L (pe S m) (hg S m)) = (ql Q m (c m) : Int) ∧ pe S m (dueF L (pe S m) (hg S m)) = qp Q m (c m) := by
  obtain ⟨h1, h2⟩ := (h m hm).2.2 0 h0
  rw [qk_0 h0] at h1 h2
  refine ⟨?_, h1, h2⟩
  unfold penD
  rw [if_neg (by omega)]
  exact h2
theorem rS_can {L : Int} {S : SV} {Q : QU} {mo : Nat → Int} {c : Nat → Nat} (h : rS L S Q mo c) {m : Nat} (hm : m < 6) : (0 < hg S m ∧ penD L S m ≤ mon S m) ↔ can Q mo c m := by
  obtain ⟨h1, h2, _⟩ := h m hm
  unfold can
  rw [← h1]
  constructor
  · rintro ⟨a, b⟩
    rw [(rS_pen h hm a).1] at b
    exact ⟨by omega, b⟩
  · rintro ⟨a, b⟩
    refine ⟨by omega, ?_⟩
    rw [(rS_pen h hm (by omega)).1]
    exact b
theorem rS_pay {L : Int} {S : SV} {Q : QU} {mo : Nat → Int} {c : Nat → Nat} (h : rS L S Q mo c) {m : Nat} (hm : m < 6) (h0 : 0 < hg S m) : rS L (payS L S m) Q mo (stp c m) := by
  obtain ⟨e1, e2, e3⟩ := rS_pen h hm h0
  intro x hx
  obtain ⟨q1, q2, q3⟩ := h x hx
  obtain ⟨p1, p2, p3⟩ := h m hm
  have hmon : mon (payS L S m) x = mny Q mo (stp c m) x := by
    show (if x = (ln S m (dueF L (pe S m) (hg S m))).toNat then (if (ln S m (dueF L (pe S m) (hg S m))).toNat = m then mon S m - pe S m (dueF L (pe S m) (hg S m)) else mon S (ln S m (dueF L (pe S m) (hg S m))).toNat) + pe S m (dueF L (pe S m) (hg S m)) else if x = m then mon S m - pe S m (dueF L (pe S m) (hg S m)) else mon S x) = _
    rw [mny_stp hm, e2, e3, Int.toNat_natCast, ← q1]
    by_cases k1 : x = ql Q m (c m)
    · rw [if_pos k1, if_pos k1.symm]
      by_cases k2 : ql Q m (c m) = m
      · rw [if_pos k2, if_pos (by omega), k1, k2]; omega
      · rw [if_neg k2, if_neg (by omega), k1]; omega
    · rw [if_neg k1, if_neg (show ¬ ql Q m (c m) = x from fun q => k1 q.symm)]
      by_cases k2 : x = m
      · rw [if_pos k2, if_pos k2.symm, k2]; omega
      · rw [if_neg k2, if_neg (show ¬ m = x from fun q => k2 q.symm)]; omega
  by_cases k : x = m
  · subst k
    obtain ⟨h', hh⟩ : ∃ h', hg S x = h' + 1 := ⟨hg S x - 1, by omega⟩
    have a1 : hg (payS L S x) x = h' := by rw [hg_pay, hh]; rfl
    have a2 : pe (payS L S x) x = fun i => pe S x (un (dueF L (pe S x) (h' + 1)) i) := by
      funext i
      show (if x = x ∧ dueF L (pe S x) (hg S x) ≤ i then pe S x (i + 1) else pe S x i) = _
      rw [hh]
      unfold un
      by_cases k : dueF L (pe S x) (h' + 1) ≤ i
      · rw [if_pos ⟨rfl, k⟩, if_pos k]
      · rw [if_neg (fun q => k q.2), if_neg k]
    have a3 : ln (payS L S x) x = fun i => ln S x (un (dueF L (pe S x) (h' + 1)) i) := by
      funext i
      show (if x = x ∧ dueF L (pe S x) (hg S x) ≤ i then ln S x (i + 1) else ln S x i) = _
      rw [hh]
      unfold un
      by_cases k : dueF L (pe S x) (h' + 1) ≤ i
      · rw [if_pos ⟨rfl, k⟩, if_pos k]
      · rw [if_neg (fun q => k q.2), if_neg k]
    refine ⟨hmon, by rw [a1, stp_s]; omega, fun t ht => ?_⟩
    rw [a1] at ht
    rw [a1, a2, a3, stp_s]
    have := q3 (t + 1) (by omega)
    rw [hh] at this
    rw [show c x + 1 + t = c x + (t + 1) by omega]
    exact this
  · have a1 : hg (payS L S m) x = hg S x := by
      show (if x = m then _ else _) = _
      rw [if_neg k]
      rfl
    have a2 : pe (payS L S m) x = pe S x := by
      funext i
      show (if x = m ∧ dueF L (pe S m) (hg S m) ≤ i then pe S x (i + 1) else pe S x i) = _
      rw [if_neg (show ¬ (x = m ∧ dueF L (pe S m) (hg S m) ≤ i) from fun q => k q.1)]
    have a3 : ln (payS L S m) x = ln S x := by
      funext i
      show (if x = m ∧ dueF L (pe S m) (hg S m) ≤ i then ln S x (i + 1) else ln S x i) = _
      rw [if_neg (show ¬ (x = m ∧ dueF L (pe S m) (hg S m) ≤ i) from fun q => k q.1)]
    refine ⟨hmon, by rw [a1, stp_n k]; exact q2, ?_⟩
    rw [a1, a2, a3, stp_n k]
    exact q3
