/-! PAYINGS in the class -/
def rY (y : YS) (Q : QU) (mo : Nat → Int) (c : Nat → Nat) : Prop := ∀ m, m < 6 → y.2.1 m = iI (mny Q mo c m) ∧ y.2.2.1 m = iI (qh Q m) ∧ y.2.2.2.2.2.1 m = iI (c m) ∧ ∀ t, t < qh Q m → y.2.2.2.1 (m * 5 + t) = iI (ql Q m t) ∧ y.2.2.2.2.1 (m * 5 + t) = iI (qp Q m t)
abbrev setP (y : YS) (pu pd : AI) : YS := (y.1, pu, y.2.2.1, y.2.2.2.1, y.2.2.2.2.1, pd, y.2.2.2.2.2.2)
abbrev okM (mo : Nat → Int) : Prop := ∀ i, i < 6 → 0 ≤ mo i ∧ mo i ≤ 2000000
abbrev okC (Q : QU) (c : Nat → Nat) : Prop := ∀ x, x < 6 → c x ≤ qh Q x
theorem p_paidUp {y : YS} {Q : QU} {mo : Nat → Int} {c : Nat → Nat} (hr : rY y Q mo c) (hW : Wq Q) (hc : okC Q c) {m : Nat} (hm : m < 6) : f_X1_isPaidUp y (iI m) = some (b01 (qh Q m ≤ c m)) := by
  obtain ⟨e1, e2, e3, e4⟩ := hr m hm
  have h5 := (hW m hm).1
  have hcm := hc m hm
  unfold f_X1_isPaidUp
  rw [ck_N hm (by omega), cl_N (by omega), e2, e3, if_neg (by (first | omega | (simp (disch := omega) only [iI_le, iI_lt, iI_eq, iI_add, iI_sub, iI_mul, iI_neg, zm1, zm2, zm3, zm4, zm5, zm6, z0, z1, z2, z3, z4, z5, z6, z7, z8, z9, z10, z11, z12, z13, z14, z15, z20, z21, z22, z23, z24, z25, z30, z31, z33, z46, z48, z49, z57, z60, z62, z63, z64, z65, z70, z74, z75, z90, z96, z99, z102, z114, z115, z116, z117, z118, z126, z128, z236, z729, z999, z9999, z46656, z65537, z1000000] <;> omega)))]
  by_cases k5 : (5 : Int32) ≤ iI (c m : Int)
  · rw [if_pos k5, b01_t]
    rw [z5, iI_le ⟨by omega, by omega⟩ ⟨by omega, by omega⟩] at k5
    omega
  · rw [if_neg k5]
    by_cases k : c m < qh Q m
    · rw [if_pos (by (first | omega | (simp (disch := omega) only [iI_le, iI_lt, iI_eq, iI_add, iI_sub, iI_mul, iI_neg, zm1, zm2, zm3, zm4, zm5, zm6, z0, z1, z2, z3, z4, z5, z6, z7, z8, z9, z10, z11, z12, z13, z14, z15, z20, z21, z22, z23, z24, z25, z30, z31, z33, z46, z48, z49, z57, z60, z62, z63, z64, z65, z70, z74, z75, z90, z96, z99, z102, z114, z115, z116, z117, z118, z126, z128, z236, z729, z999, z9999, z46656, z65537, z1000000] <;> omega))), b01_f (by omega)]
    · rw [if_neg (by (first | omega | (simp (disch := omega) only [iI_le, iI_lt, iI_eq, iI_add, iI_sub, iI_mul, iI_neg, zm1, zm2, zm3, zm4, zm5, zm6, z0, z1, z2, z3, z4, z5, z6, z7, z8, z9, z10, z11, z12, z13, z14, z15, z20, z21, z22, z23, z24, z25, z30, z31, z33, z46, z48, z49, z57, z60, z62, z63, z64, z65, z70, z74, z75, z90, z96, z99, z102, z114, z115, z116, z117, z118, z126, z128, z236, z729, z999, z9999, z46656, z65537, z1000000] <;> omega))), b01_t (by omega)]
theorem p_ycan {y : YS} {Q : QU} {mo : Nat → Int} {c : Nat → Nat} (hr : rY y Q mo c) (hW : Wq Q) (hM : okM mo) (hc : okC Q c) {m : Nat} (hm : m < 6) : f_X1_canPay y (iI m) = some (c01 (can Q mo c m)) := by
  obtain ⟨e1, e2, e3, e4⟩ := hr m hm
  have h5 := (hW m hm).1
  have hcm := hc m hm
  have hB := mny_rng hW (mo := mo) hc m
  have hMm := hM m hm
  unfold f_X1_canPay
  rw [bn_i (p_paidUp hr hW hc hm)]
  by_cases k : qh Q m ≤ c m
  · rw [b01_t k, if_neg n10, c01_f (fun q => by have := q.1; omega)]
  · have hp := (hW m hm).2 (c m) (by omega)
    rw [b01_f k, if_pos rfl, ck_N hm (by omega), cl_N (n := m) (by omega), e3, ixV, ck_N (by omega) (by omega), cl_N (n := m * 5 + c m) (by omega), (e4 (c m) (by omega)).2, e1]
    by_cases k2 : qp Q m (c m) ≤ mny Q mo c m
    · rw [if_neg (by (first | omega | (simp (disch := omega) only [iI_le, iI_lt, iI_eq, iI_add, iI_sub, iI_mul, iI_neg, zm1, zm2, zm3, zm4, zm5, zm6, z0, z1, z2, z3, z4, z5, z6, z7, z8, z9, z10, z11, z12, z13, z14, z15, z20, z21, z22, z23, z24, z25, z30, z31, z33, z46, z48, z49, z57, z60, z62, z63, z64, z65, z70, z74, z75, z90, z96, z99, z102, z114, z115, z116, z117, z118, z126, z128, z236, z729, z999, z9999, z46656, z65537, z1000000] <;> omega))), c01_t ⟨by omega, k2⟩]
    · rw [if_pos (by (first | omega | (simp (disch := omega) only [iI_le, iI_lt, iI_eq, iI_add, iI_sub, iI_mul, iI_neg, zm1, zm2, zm3, zm4, zm5, zm6, z0, z1, z2, z3, z4, z5, z6, z7, z8, z9, z10, z11, z12, z13, z14, z15, z20, z21, z22, z23, z24, z25, z30, z31, z33, z46, z48, z49, z57, z60, z62, z63, z64, z65, z70, z74, z75, z90, z96, z99, z102, z114, z115, z116, z117, z118, z126, z128, z236, z729, z999, z9999, z46656, z65537, z1000000] <;> omega))), c01_f (fun q => k2 q.2)]
theorem p_ypay {y : YS} {Q : QU} {mo : Nat → Int} {c : Nat → Nat} (hr : rY y Q mo c) (hW : Wq Q) (hc : okC Q c) {m : Nat} (hm : m < 6) (hlt : c m < qh Q m) : ∃ pu pd, f_X1_pay y (iI m) = some (setP y pu pd) ∧ rY (setP y pu pd) Q mo (stp c m) := by
  obtain ⟨e1, e2, e3, e4⟩ := hr m hm
  have h5 := (hW m hm).1
  obtain ⟨hl, hp⟩ := (hW m hm).2 (c m) hlt
  obtain ⟨f1, f2⟩ := e4 (c m) hlt
  refine ⟨upd (upd y.2.1 m (iI (mny Q mo c m - qp Q m (c m)))) (ql Q m (c m)) (iI (mny Q mo (stp c m) (ql Q m (c m)))), upd y.2.2.2.2.2.1 m (iI ((c m + 1 : Nat) : Int)), ?_, ?_⟩
  · unfold f_X1_pay nm
    dsimp only
    rw [bn_i (p_paidUp hr hW hc hm), b01_f (by omega), if_pos rfl, ck_N hm (by omega), cl_N (n := m) (by omega), e3, ixV, ck_N (by omega) (by omega), cl_N (n := m * 5 + c m) (by omega), f1, f2, bn_i (p_isMan ⟨by omega, by omega⟩), b01_t (by omega), if_neg n10, ck_N hl (by omega), cl_N (n := ql Q m (c m)) (by omega), e1, iI_sub, iI_s (c m)]
    have e5 : upd y.2.1 m (iI (mny Q mo c m - qp Q m (c m))) (ql Q m (c m)) + iI (qp Q m (c m)) = iI (mny Q mo (stp c m) (ql Q m (c m))) := by
      rw [mny_stp hm, if_pos rfl]
      by_cases k : ql Q m (c m) = m
      · rw [if_pos k.symm, k, upd_s, iI_add]
        congr 1
        omega
      · rw [if_neg (fun q => k q.symm), upd_n k, (hr _ hl).1, iI_add]
        congr 1
        omega
    rw [e5]
  · intro x hx
    obtain ⟨q1, q2, q3, q4⟩ := hr x hx
    refine ⟨?_, q2, ?_, q4⟩
    · show upd (upd y.2.1 m _) (ql Q m (c m)) _ x = _
      by_cases k : x = ql Q m (c m)
      · rw [k, upd_s]
      · rw [upd_n k, mny_stp hm, if_neg (fun q => k q.symm)]
        by_cases k2 : x = m
        · rw [k2, upd_s, if_pos rfl]
          congr 1
          omega
        · rw [upd_n k2, if_neg (fun q => k2 q.symm), q1]
          congr 1
          omega
    · show upd y.2.2.2.2.2.1 m _ x = _
      by_cases k2 : x = m
      · rw [k2, upd_s, stp_s]
      · rw [upd_n k2, stp_n k2, q3]
theorem okC_stp {Q : QU} {c : Nat → Nat} (h : okC Q c) {m : Nat} (hlt : c m < qh Q m) : okC Q (stp c m) := fun x hx => by
  by_cases e : x = m
  · subst e; rw [stp_s]; exact hlt
  · rw [stp_n e]; exact h x hx
theorem pa_man {Q : QU} {mo : Nat → Int} (hW : Wq Q) (hM : okM mo) (y : YS) (r : Nat) {m : Nat} (hm : m < 6) : ∀ (j k : Nat) (pu pd : AI) (c : Nat → Nat) (n : Nat) (f : Int32), k + j = 5 → rY (setP y pu pd) Q mo c → rch Q mo n c → ∃ pu' pd' c' n' f', lpx st_X1_payAllThatCan (.inr (.inr (setP y pu pd, f, iI r, iI m, iI k))) = lpx st_X1_payAllThatCan (.inr (.inl (setP y pu' pd', f', iI r, iI ((m + 1 : Nat) : Int)))) ∧ rY (setP y pu' pd') Q mo c' ∧ rch Q mo n' c' ∧ n ≤ n' ∧ (n' = n → f' = f ∧ c' = c ∧ (k < 5 → ¬ can Q mo c m)) ∧ (n < n' → f' = 1) := by
  intro j
  induction j with
  | zero =>
    intro k pu pd c n f hk hr hn
    refine ⟨pu, pd, c, n, f, lpx_l ?_, hr, hn, Nat.le_refl _, fun _ => ⟨rfl, rfl, fun h => absurd h (by omega)⟩, fun h => absurd h (by omega)⟩
    show f_X1_payAllThatCan_27 _ _ _ _ _ = _
    unfold f_X1_payAllThatCan_27 nm
    rw [if_pos (by (first | omega | (simp (disch := omega) only [iI_le, iI_lt, iI_eq, iI_add, iI_sub, iI_mul, iI_neg, zm1, zm2, zm3, zm4, zm5, zm6, z0, z1, z2, z3, z4, z5, z6, z7, z8, z9, z10, z11, z12, z13, z14, z15, z20, z21, z22, z23, z24, z25, z30, z31, z33, z46, z48, z49, z57, z60, z62, z63, z64, z65, z70, z74, z75, z90, z96, z99, z102, z114, z115, z116, z117, z118, z126, z128, z236, z729, z999, z9999, z46656, z65537, z1000000] <;> omega))), iI_s (m)]
  | succ j ih =>
    intro k pu pd c n f hk hr hn
    have hc := rch_le n c hn
    by_cases cc : can Q mo c m
    · obtain ⟨pu1, pd1, e1, e2⟩ := p_ypay hr hW hc hm cc.1
      obtain ⟨pu', pd', c', n', f', g1, g2, g3, g4, g5, g6⟩ := ih (k + 1) pu1 pd1 (stp c m) (n + 1) 1 (by omega) e2 ⟨c, m, hn, hm, cc, rfl⟩
      refine ⟨pu', pd', c', n', f', (lpx_l ?_).trans g1, g2, g3, by omega, fun h => absurd h (by omega), fun h => ?_⟩
      · show f_X1_payAllThatCan_27 _ _ _ _ _ = _
        unfold f_X1_payAllThatCan_27 nm
        rw [if_neg (by (first | omega | (simp (disch := omega) only [iI_le, iI_lt, iI_eq, iI_add, iI_sub, iI_mul, iI_neg, zm1, zm2, zm3, zm4, zm5, zm6, z0, z1, z2, z3, z4, z5, z6, z7, z8, z9, z10, z11, z12, z13, z14, z15, z20, z21, z22, z23, z24, z25, z30, z31, z33, z46, z48, z49, z57, z60, z62, z63, z64, z65, z70, z74, z75, z90, z96, z99, z102, z114, z115, z116, z117, z118, z126, z128, z236, z729, z999, z9999, z46656, z65537, z1000000] <;> omega))), bn_i (p_ycan hr hW hM hc hm), c01_t cc, if_neg n10, bn_i e1, iI_s (k)]
      · rcases Nat.lt_or_ge (n + 1) n' with q | q
        · exact g6 q
        · exact (g5 (by omega)).1
    · refine ⟨pu, pd, c, n, f, lpx_l ?_, hr, hn, Nat.le_refl _, fun _ => ⟨rfl, rfl, fun _ => cc⟩, fun h => absurd h (by omega)⟩
      show f_X1_payAllThatCan_27 _ _ _ _ _ = _
      unfold f_X1_payAllThatCan_27 nm
      rw [if_neg (by (first | omega | (simp (disch := omega) only [iI_le, iI_lt, iI_eq, iI_add, iI_sub, iI_mul, iI_neg, zm1, zm2, zm3, zm4, zm5, zm6, z0, z1, z2, z3, z4, z5, z6, z7, z8, z9, z10, z11, z12, z13, z14, z15, z20, z21, z22, z23, z24, z25, z30, z31, z33, z46, z48, z49, z57, z60, z62, z63, z64, z65, z70, z74, z75, z90, z96, z99, z102, z114, z115, z116, z117, z118, z126, z128, z236, z729, z999, z9999, z46656, z65537, z1000000] <;> omega))), bn_i (p_ycan hr hW hM hc hm), c01_f cc, if_pos rfl, iI_s (m)]
theorem pa_pass {Q : QU} {mo : Nat → Int} (hW : Wq Q) (hM : okM mo) (y : YS) (r : Nat) : ∀ (j m : Nat) (pu pd : AI) (c : Nat → Nat) (n : Nat) (f : Int32), m + j = 6 → rY (setP y pu pd) Q mo c → rch Q mo n c → ∃ pu' pd' c' n' f', lpx st_X1_payAllThatCan (.inr (.inl (setP y pu pd, f, iI r, iI m))) = lpx st_X1_payAllThatCan (.inl (setP y pu' pd', f', iI ((r + 1 : Nat) : Int))) ∧ rY (setP y pu' pd') Q mo c' ∧ rch Q mo n' c' ∧ n ≤ n' ∧ (n' = n → f' = f ∧ c' = c ∧ ∀ x, m ≤ x → x < 6 → ¬ can Q mo c x) ∧ (n < n' → f' = 1) := by
  intro j
  induction j with
  | zero =>
    intro m pu pd c n f hk hr hn
    refine ⟨pu, pd, c, n, f, lpx_l ?_, hr, hn, Nat.le_refl _, fun _ => ⟨rfl, rfl, fun x h h' => absurd h (by omega)⟩, fun h => absurd h (by omega)⟩
    show f_X1_payAllThatCan_18 _ _ _ _ = _
    unfold f_X1_payAllThatCan_18 nm
    rw [if_pos (by (first | omega | (simp (disch := omega) only [iI_le, iI_lt, iI_eq, iI_add, iI_sub, iI_mul, iI_neg, zm1, zm2, zm3, zm4, zm5, zm6, z0, z1, z2, z3, z4, z5, z6, z7, z8, z9, z10, z11, z12, z13, z14, z15, z20, z21, z22, z23, z24, z25, z30, z31, z33, z46, z48, z49, z57, z60, z62, z63, z64, z65, z70, z74, z75, z90, z96, z99, z102, z114, z115, z116, z117, z118, z126, z128, z236, z729, z999, z9999, z46656, z65537, z1000000] <;> omega))), iI_s (r)]
  | succ j ih =>
    intro m pu pd c n f hk hr hn
    obtain ⟨pu1, pd1, c1, n1, f1, g1, g2, g3, g4, g5, g6⟩ := pa_man hW hM y r (m := m) (by omega) 5 0 pu pd c n f (by omega) hr hn
    obtain ⟨pu', pd', c', n', f', k1, k2, k3, k4, k5, k6⟩ := ih (m + 1) pu1 pd1 c1 n1 f1 (by omega) g2 g3
    refine ⟨pu', pd', c', n', f', ((lpx_l ?_).trans g1).trans k1, k2, k3, by omega, fun h => ?_, fun h => ?_⟩
    · show f_X1_payAllThatCan_18 _ _ _ _ = _
      unfold f_X1_payAllThatCan_18
      rw [if_neg (by (first | omega | (simp (disch := omega) only [iI_le, iI_lt, iI_eq, iI_add, iI_sub, iI_mul, iI_neg, zm1, zm2, zm3, zm4, zm5, zm6, z0, z1, z2, z3, z4, z5, z6, z7, z8, z9, z10, z11, z12, z13, z14, z15, z20, z21, z22, z23, z24, z25, z30, z31, z33, z46, z48, z49, z57, z60, z62, z63, z64, z65, z70, z74, z75, z90, z96, z99, z102, z114, z115, z116, z117, z118, z126, z128, z236, z729, z999, z9999, z46656, z65537, z1000000] <;> omega)))]
      rfl
    · obtain ⟨a1, a2, a3⟩ := g5 (by omega)
      obtain ⟨b1, b2, b3⟩ := k5 (by omega)
      refine ⟨b1.trans a1, b2.trans a2, fun x h1 h2 => ?_⟩
      by_cases e : x = m
      · subst e; exact a3 (by omega)
      · have := b3 x (by omega) h2
        rw [a2] at this
        exact this
    · rcases Nat.lt_or_ge n1 n' with q | q
      · exact k6 q
      · rw [(k5 (by omega)).1]
        exact g6 (by omega)
theorem p_payAll {Q : QU} {mo : Nat → Int} (hW : Wq Q) (hM : okM mo) (y : YS) {c : Nat → Nat} {n : Nat} (hr : rY y Q mo c) (hn : rch Q mo n c) : ∃ pu' pd' c' n', f_X1_payAllThatCan y = some (setP y pu' pd') ∧ rY (setP y pu' pd') Q mo c' ∧ rch Q mo n' c' ∧ n ≤ n' ∧ (∀ x, x < 6 → ¬ can Q mo c' x) ∧ (∀ x, x < 6 → c x ≤ c' x) := by
  have outer : ∀ (k r : Nat) (pu pd : AI) (c : Nat → Nat) (n : Nat), 31 ≤ n + k → r ≤ n → rY (setP y pu pd) Q mo c → rch Q mo n c → ∃ pu' pd' c' n', lpx st_X1_payAllThatCan (.inl (setP y pu pd, 1, iI r)) = some (setP y pu' pd') ∧ rY (setP y pu' pd') Q mo c' ∧ rch Q mo n' c' ∧ n ≤ n' ∧ (∀ x, x < 6 → ¬ can Q mo c' x) := by
    intro k
    induction k with
    | zero =>
      intro r pu pd c n hk hr0 hr hn
      have := rch_30 hW hn
      omega
    | succ k ih =>
      intro r pu pd c n hk hr0 hr hn
      have h30 := rch_30 hW hn
      obtain ⟨pu1, pd1, c1, n1, f1, g1, g2, g3, g4, g5, g6⟩ := pa_pass hW hM y r 6 0 pu pd c n 0 (by omega) hr hn
      have hst : st_X1_payAllThatCan (.inl (setP y pu pd, 1, iI r)) = some (.inl (.inr (.inl (setP y pu pd, 0, iI r, iI ((0 : Nat) : Int))))) := by
        show f_X1_payAllThatCan_4 _ _ _ = _
        unfold f_X1_payAllThatCan_4
        rw [if_neg (by (first | omega | (simp (disch := omega) only [iI_le, iI_lt, iI_eq, iI_add, iI_sub, iI_mul, iI_neg, zm1, zm2, zm3, zm4, zm5, zm6, z0, z1, z2, z3, z4, z5, z6, z7, z8, z9, z10, z11, z12, z13, z14, z15, z20, z21, z22, z23, z24, z25, z30, z31, z33, z46, z48, z49, z57, z60, z62, z63, z64, z65, z70, z74, z75, z90, z96, z99, z102, z114, z115, z116, z117, z118, z126, z128, z236, z729, z999, z9999, z46656, z65537, z1000000] <;> omega))), if_neg n10]
        rfl
      by_cases e : n1 = n
      · obtain ⟨a1, a2, a3⟩ := g5 e
        refine ⟨pu1, pd1, c1, n1, ((lpx_l hst).trans g1).trans (lpx_r ?_), g2, g3, g4, fun x hx => by rw [a2]; exact a3 x (by omega) hx⟩
        show f_X1_payAllThatCan_4 _ _ _ = _
        unfold f_X1_payAllThatCan_4
        rw [a1, if_pos (show (0 : Int32) = 0 from rfl)]
        split <;> rfl
      · have hf := g6 (by omega)
        subst hf
        obtain ⟨pu', pd', c', n', k1, k2, k3, k4, k5⟩ := ih (r + 1) pu1 pd1 c1 n1 (by omega) (by omega) g2 g3
        exact ⟨pu', pd', c', n', ((lpx_l hst).trans g1).trans k1, k2, k3, by omega, k5⟩
  obtain ⟨pu', pd', c', n', k1, k2, k3, k4, k5⟩ := outer 31 0 y.2.1 y.2.2.2.2.2.1 c n (by omega) (by omega) hr hn
  exact ⟨pu', pd', c', n', k1, k2, k3, k4, k5, rch_max hW k5 (rch_le _ _ k3) (fun _ _ => Int.le_refl _) n c hn⟩
theorem p_stillOwing {y : YS} {Q : QU} {mo : Nat → Int} {c : Nat → Nat} (hr : rY y Q mo c) (hW : Wq Q) (hc : okC Q c) : f_X1_stillOwing y = some (lbs (fun m => qh Q m - c m) 6) := by
  have loop : ∀ (n m : Nat), m + n = 6 → lpx (st_X1_stillOwing y) (lbs (fun m => qh Q m - c m) m, iI m) = some (lbs (fun m => qh Q m - c m) 6) := by
    intro n
    induction n with
    | zero =>
      intro m hm
      have : m = 6 := by omega
      subst this
      refine lpx_r ?_
      show f_X1_stillOwing_4 y _ _ = _
      unfold f_X1_stillOwing_4
      rw [if_pos (by (first | omega | (simp (disch := omega) only [iI_le, iI_lt, iI_eq, iI_add, iI_sub, iI_mul, iI_neg, zm1, zm2, zm3, zm4, zm5, zm6, z0, z1, z2, z3, z4, z5, z6, z7, z8, z9, z10, z11, z12, z13, z14, z15, z20, z21, z22, z23, z24, z25, z30, z31, z33, z46, z48, z49, z57, z60, z62, z63, z64, z65, z70, z74, z75, z90, z96, z99, z102, z114, z115, z116, z117, z118, z126, z128, z236, z729, z999, z9999, z46656, z65537, z1000000] <;> omega)))]
    | succ n ih =>
      intro m hm
      refine (lpx_l ?_).trans (ih (m + 1) (by omega))
      show f_X1_stillOwing_4 y _ _ = _
      unfold f_X1_stillOwing_4 nm
      rw [if_neg (by (first | omega | (simp (disch := omega) only [iI_le, iI_lt, iI_eq, iI_add, iI_sub, iI_mul, iI_neg, zm1, zm2, zm3, zm4, zm5, zm6, z0, z1, z2, z3, z4, z5, z6, z7, z8, z9, z10, z11, z12, z13, z14, z15, z20, z21, z22, z23, z24, z25, z30, z31, z33, z46, z48, z49, z57, z60, z62, z63, z64, z65, z70, z74, z75, z90, z96, z99, z102, z114, z115, z116, z117, z118, z126, z128, z236, z729, z999, z9999, z46656, z65537, z1000000] <;> omega))), bn_i (p_paidUp hr hW hc (by omega)), iI_s (m)]
      show _ = some (Sum.inl ((if qh Q m - c m = 0 then _ else _), _))
      by_cases k : qh Q m ≤ c m
      · rw [b01_t k, if_neg n10, if_pos (by omega)]
      · rw [b01_f k, if_pos rfl, if_neg (by omega)]
  exact loop 6 0 (by omega)
