/-! THE REFERENCE pays all that can be; the law's case: barred -/
theorem mp_man {L B : Int} {Q : QU} {mo : Nat → Int} (hB : B ≤ 2000000) {u : MS} (hL : u.1 = iI L) (hL2 : 0 ≤ L ∧ L ≤ 2) {m : Nat} (hm : m < 6) : ∀ (j : Nat) (a b k : AI) (S : SV) (c : Nat → Nat) (n : Nat) (f : Int32), hg S m ≤ j → rM a b k S → gd B S → rS L S Q mo c → rch Q mo n c → ∃ a' b' k' S' c' n' f', lpx st_X4_payAll (.inr (.inr (setN u a b k, f, iI m))) = lpx st_X4_payAll (.inr (.inl (setN u a' b' k', f', iI ((m + 1 : Nat) : Int)))) ∧ rM a' b' k' S' ∧ gd B S' ∧ rS L S' Q mo c' ∧ rch Q mo n' c' ∧ n ≤ n' ∧ (n' = n → f' = f ∧ c' = c ∧ ¬ can Q mo c m) ∧ (n < n' → f' = 1) := by
  intro j
  induction j with
  | zero =>
    intro a b k S c n f hj hr hG hS hn
    have nc : ¬ can Q mo c m := fun q => by have := ((rS_can hS hm).mpr q).1; omega
    refine ⟨a, b, k, S, c, n, f, lpx_l ?_, hr, hG, hS, hn, Nat.le_refl _, fun _ => ⟨rfl, rfl, nc⟩, fun h => absurd h (by omega)⟩
    show f_X4_payAll_16 _ _ _ = _
    unfold f_X4_payAll_16 nm
    rw [bn_i (p_canPay (u := setN u a b k) hr hG hB hL hL2 hm), b01_f (fun q => nc ((rS_can hS hm).mp q)), if_pos rfl, iI_s (m)]
  | succ j ih =>
    intro a b k S c n f hj hr hG hS hn
    by_cases cc : can Q mo c m
    · have c2 := (rS_can hS hm).mpr cc
      obtain ⟨a1, b1, k1, e1, e2⟩ := p_mpay (u := u) hr hG hB hL hL2 hm c2.1 c2.2
      obtain ⟨a', b', k', S', c', n', f', g1, g2, g3, g4, g5, g6, g7, g8⟩ := ih a1 b1 k1 (payS L S m) (stp c m) (n + 1) 1 (by rw [hg_pay]; omega) e2 (gd_pay hG hm c2.1 c2.2) (rS_pay hS hm c2.1) ⟨c, m, hn, hm, cc, rfl⟩
      refine ⟨a', b', k', S', c', n', f', (lpx_l ?_).trans g1, g2, g3, g4, g5, by omega, fun h => absurd h (by omega), fun h => ?_⟩
      · show f_X4_payAll_16 _ _ _ = _
        unfold f_X4_payAll_16 nm
        rw [bn_i (p_canPay (u := setN u a b k) hr hG hB hL hL2 hm), b01_t c2, if_neg n10, bn_i e1]
      · rcases Nat.lt_or_ge (n + 1) n' with q | q
        · exact g8 q
        · exact (g7 (by omega)).1
    · refine ⟨a, b, k, S, c, n, f, lpx_l ?_, hr, hG, hS, hn, Nat.le_refl _, fun _ => ⟨rfl, rfl, cc⟩, fun h => absurd h (by omega)⟩
      show f_X4_payAll_16 _ _ _ = _
      unfold f_X4_payAll_16 nm
      rw [bn_i (p_canPay (u := setN u a b k) hr hG hB hL hL2 hm), b01_f (fun q => cc ((rS_can hS hm).mp q)), if_pos rfl, iI_s (m)]
theorem mp_pass {L B : Int} {Q : QU} {mo : Nat → Int} (hB : B ≤ 2000000) {u : MS} (hL : u.1 = iI L) (hL2 : 0 ≤ L ∧ L ≤ 2) : ∀ (j m : Nat) (a b k : AI) (S : SV) (c : Nat → Nat) (n : Nat) (f : Int32), m + j = 6 → rM a b k S → gd B S → rS L S Q mo c → rch Q mo n c → ∃ a' b' k' S' c' n' f', lpx st_X4_payAll (.inr (.inl (setN u a b k, f, iI m))) = lpx st_X4_payAll (.inl (setN u a' b' k', f')) ∧ rM a' b' k' S' ∧ gd B S' ∧ rS L S' Q mo c' ∧ rch Q mo n' c' ∧ n ≤ n' ∧ (n' = n → f' = f ∧ c' = c ∧ ∀ x, m ≤ x → x < 6 → ¬ can Q mo c x) ∧ (n < n' → f' = 1) := by
  intro j
  induction j with
  | zero =>
    intro m a b k S c n f hj hr hG hS hn
    refine ⟨a, b, k, S, c, n, f, lpx_l ?_, hr, hG, hS, hn, Nat.le_refl _, fun _ => ⟨rfl, rfl, fun x h h' => absurd h (by omega)⟩, fun h => absurd h (by omega)⟩
    show f_X4_payAll_10 _ _ _ = _
    unfold f_X4_payAll_10
    rw [if_pos (by (first | omega | (simp (disch := omega) only [iI_le, iI_lt, iI_eq, iI_add, iI_sub, iI_mul, iI_neg, zm1, zm2, zm3, zm4, zm5, zm6, z0, z1, z2, z3, z4, z5, z6, z7, z8, z9, z10, z11, z12, z13, z14, z15, z20, z21, z22, z23, z24, z25, z30, z31, z33, z46, z48, z49, z57, z60, z62, z63, z64, z65, z70, z74, z75, z90, z96, z99, z102, z114, z115, z116, z117, z118, z126, z128, z236, z729, z999, z9999, z46656, z65537, z1000000] <;> omega)))]
  | succ j ih =>
    intro m a b k S c n f hj hr hG hS hn
    obtain ⟨a1, b1, k1, S1, c1, n1, f1, g1, g2, g3, g4, g5, g6, g7, g8⟩ := mp_man hB hL hL2 (m := m) (by omega) 5 a b k S c n f (hg_le hG (by omega)) hr hG hS hn
    obtain ⟨a', b', k', S', c', n', f', i1, i2, i3, i4, i5, i6, i7, i8⟩ := ih (m + 1) a1 b1 k1 S1 c1 n1 f1 (by omega) g2 g3 g4 g5
    refine ⟨a', b', k', S', c', n', f', ((lpx_l ?_).trans g1).trans i1, i2, i3, i4, i5, by omega, fun h => ?_, fun h => ?_⟩
    · show f_X4_payAll_10 _ _ _ = _
      unfold f_X4_payAll_10
      rw [if_neg (by (first | omega | (simp (disch := omega) only [iI_le, iI_lt, iI_eq, iI_add, iI_sub, iI_mul, iI_neg, zm1, zm2, zm3, zm4, zm5, zm6, z0, z1, z2, z3, z4, z5, z6, z7, z8, z9, z10, z11, z12, z13, z14, z15, z20, z21, z22, z23, z24, z25, z30, z31, z33, z46, z48, z49, z57, z60, z62, z63, z64, z65, z70, z74, z75, z90, z96, z99, z102, z114, z115, z116, z117, z118, z126, z128, z236, z729, z999, z9999, z46656, z65537, z1000000] <;> omega)))]
    · obtain ⟨x1, x2, x3⟩ := g7 (by omega)
      obtain ⟨y1, y2, y3⟩ := i7 (by omega)
      refine ⟨y1.trans x1, y2.trans x2, fun x h1 h2 => ?_⟩
      by_cases e : x = m
      · subst e; exact x3
      · have := y3 x (by omega) h2
        rw [x2] at this
        exact this
    · rcases Nat.lt_or_ge n1 n' with q | q
      · exact i8 q
      · rw [(i7 (by omega)).1]
        exact g8 (by omega)
theorem p_mpayAll {L B : Int} {Q : QU} (hW : Wq Q) {mo : Nat → Int} (hB : B ≤ 2000000) {u : MS} (hL : u.1 = iI L) (hL2 : 0 ≤ L ∧ L ≤ 2) {a b k : AI} {S : SV} {c : Nat → Nat} {n : Nat} (hr : rM a b k S) (hG : gd B S) (hS : rS L S Q mo c) (hn : rch Q mo n c) : ∃ a' b' k' S' c' n', f_X4_payAll (setN u a b k) = some (setN u a' b' k') ∧ rM a' b' k' S' ∧ gd B S' ∧ rS L S' Q mo c' ∧ rch Q mo n' c' ∧ ∀ x, x < 6 → ¬ can Q mo c' x := by
  have outer : ∀ (j : Nat) (a b k : AI) (S : SV) (c : Nat → Nat) (n : Nat), 31 ≤ n + j → rM a b k S → gd B S → rS L S Q mo c → rch Q mo n c → ∃ a' b' k' S' c' n', lpx st_X4_payAll (.inl (setN u a b k, 1)) = some (setN u a' b' k') ∧ rM a' b' k' S' ∧ gd B S' ∧ rS L S' Q mo c' ∧ rch Q mo n' c' ∧ ∀ x, x < 6 → ¬ can Q mo c' x := by
    intro j
    induction j with
    | zero =>
      intro a b k S c n hj hr hG hS hn
      have := rch_30 hW hn
      omega
    | succ j ih =>
      intro a b k S c n hj hr hG hS hn
      obtain ⟨a1, b1, k1, S1, c1, n1, f1, g1, g2, g3, g4, g5, g6, g7, g8⟩ := mp_pass hB hL hL2 6 0 a b k S c n 0 (by omega) hr hG hS hn
      have hst : st_X4_payAll (.inl (setN u a b k, 1)) = some (.inl (.inr (.inl (setN u a b k, 0, iI ((0 : Nat) : Int))))) := by
        show f_X4_payAll_2 _ _ = _
        unfold f_X4_payAll_2
        rw [if_neg n10]
        rfl
      by_cases e : n1 = n
      · obtain ⟨x1, x2, x3⟩ := g7 e
        refine ⟨a1, b1, k1, S1, c1, n1, ((lpx_l hst).trans g1).trans (lpx_r ?_), g2, g3, g4, g5, fun x hx => by rw [x2]; exact x3 x (by omega) hx⟩
        show f_X4_payAll_2 _ _ = _
        unfold f_X4_payAll_2
        rw [x1, if_pos rfl]
      · have hf := g8 (by omega)
        subst hf
        obtain ⟨a', b', k', S', c', n', i1, i2⟩ := ih a1 b1 k1 S1 c1 n1 (by omega) g2 g3 g4 g5
        exact ⟨a', b', k', S', c', n', ((lpx_l hst).trans g1).trans i1, i2⟩
  exact outer 31 a b k S c n (by omega) hr hG hS hn
theorem p_leftNow {B : Int} {u : MS} {a b k : AI} {S : SV} (hr : rM a b k S) (hG : gd B S) : f_X4_leftNow (setN u a b k) = some (lbs (hg S) 6) := by
  have loop : ∀ (n m : Nat), m + n = 6 → lpx (st_X4_leftNow (setN u a b k)) (lbs (hg S) m, iI m) = some (lbs (hg S) 6) := by
    intro n
    induction n with
    | zero =>
      intro m hm
      have : m = 6 := by omega
      subst this
      refine lpx_r ?_
      show f_X4_leftNow_4 _ _ _ = _
      unfold f_X4_leftNow_4
      rw [if_pos (by (first | omega | (simp (disch := omega) only [iI_le, iI_lt, iI_eq, iI_add, iI_sub, iI_mul, iI_neg, zm1, zm2, zm3, zm4, zm5, zm6, z0, z1, z2, z3, z4, z5, z6, z7, z8, z9, z10, z11, z12, z13, z14, z15, z20, z21, z22, z23, z24, z25, z30, z31, z33, z46, z48, z49, z57, z60, z62, z63, z64, z65, z70, z74, z75, z90, z96, z99, z102, z114, z115, z116, z117, z118, z126, z128, z236, z729, z999, z9999, z46656, z65537, z1000000] <;> omega)))]
    | succ n ih =>
      intro m hm
      have h5 := (hG.1 m (by omega)).2.1
      have hb : b m = iI (hg S m) := (hr m (by omega)).2.1
      refine (lpx_l ?_).trans (ih (m + 1) (by omega))
      show f_X4_leftNow_4 _ _ _ = _
      unfold f_X4_leftNow_4 nm
      dsimp only
      rw [if_neg (by (first | omega | (simp (disch := omega) only [iI_le, iI_lt, iI_eq, iI_add, iI_sub, iI_mul, iI_neg, zm1, zm2, zm3, zm4, zm5, zm6, z0, z1, z2, z3, z4, z5, z6, z7, z8, z9, z10, z11, z12, z13, z14, z15, z20, z21, z22, z23, z24, z25, z30, z31, z33, z46, z48, z49, z57, z60, z62, z63, z64, z65, z70, z74, z75, z90, z96, z99, z102, z114, z115, z116, z117, z118, z126, z128, z236, z729, z999, z9999, z46656, z65537, z1000000] <;> omega))), ck_N (by omega) (by omega), cl_N (by omega), iI_s (m)]
      show _ = some (Sum.inl ((if hg S m = 0 then _ else _), _))
      by_cases c : hg S m = 0
      · rw [if_pos (by rw [hb]; (first | omega | (simp (disch := omega) only [iI_le, iI_lt, iI_eq, iI_add, iI_sub, iI_mul, iI_neg, zm1, zm2, zm3, zm4, zm5, zm6, z0, z1, z2, z3, z4, z5, z6, z7, z8, z9, z10, z11, z12, z13, z14, z15, z20, z21, z22, z23, z24, z25, z30, z31, z33, z46, z48, z49, z57, z60, z62, z63, z64, z65, z70, z74, z75, z90, z96, z99, z102, z114, z115, z116, z117, z118, z126, z128, z236, z729, z999, z9999, z46656, z65537, z1000000] <;> omega))), if_pos c]
      · rw [if_neg (by rw [hb]; (first | omega | (simp (disch := omega) only [iI_le, iI_lt, iI_eq, iI_add, iI_sub, iI_mul, iI_neg, zm1, zm2, zm3, zm4, zm5, zm6, z0, z1, z2, z3, z4, z5, z6, z7, z8, z9, z10, z11, z12, z13, z14, z15, z20, z21, z22, z23, z24, z25, z30, z31, z33, z46, z48, z49, z57, z60, z62, z63, z64, z65, z70, z74, z75, z90, z96, z99, z102, z114, z115, z116, z117, z118, z126, z128, z236, z729, z999, z9999, z46656, z65537, z1000000] <;> omega))), if_neg c]
  exact loop 6 0 (by omega)
theorem case14 {N : Nat} (hN : N ≤ 512) {st : LSt} (h : Rel N st) : ∃ st', ls_14 st = some st' ∧ Rel (N + 1) st' := by
  obtain ⟨F, hv, hu, hG, hp, hk⟩ := id h
  have hG1 := gF_B hG hN
  have hW : Wq (QS F.2.1 F.1) := Wq_S hG.1
  have hM : okM (mon F.1) := fun i hi => ⟨(hG1.1 i hi).1, by have := hG1.le hi; omega⟩
  obtain ⟨y, e1, e2, e3⟩ := p_load hv.1 hG.1 hv.2.1 hG.2.1 st.2.2.2.2.2.2.1
  obtain ⟨pu, pd, c1, n1, g1, g2, g3, g4, g5, g6⟩ := p_payAll hW hM y e2 (show rch (QS F.2.1 F.1) (mon F.1) 0 _ from rfl)
  obtain ⟨a, b, k, f1, ha, hb, hc⟩ := p_asNow st.2.2.2.2.2.2.2.2
  have hr0 := rM_cong hu.1 hG.1 ha hb hc
  obtain ⟨a', b', k', S', c2, n2, i1, i2, i3, i4, i5, i6⟩ := p_mpayAll hW (B := 700000) (by omega) (u := setND st.2.2.2.2.2.2.2.2 st.2.2.2.2.2.2.2.2.2.2.1 a b k) hu.2.1 hG.2.1 hr0 hG1 (rS_0 hG1) (show rch (QS F.2.1 F.1) (mon F.1) 0 _ from rfl)
  have ec : c1 = c2 := rch_one hW g3 i5 g5 i6
  subst ec
  unfold ls_14 f_X3_barred f_X4_barred
  rw [bn_i e1, bn_i g1, bn_i (p_stillOwing g2 hW (rch_le _ _ g3)), bn_i f1]
  have i1' : f_X4_payAll (setND st.2.2.2.2.2.2.2.2 st.2.2.2.2.2.2.2.2.2.2.1 a b k) = some (setND st.2.2.2.2.2.2.2.2 st.2.2.2.2.2.2.2.2.2.2.1 a' b' k') := i1
  have j1 : f_X4_leftNow (setND st.2.2.2.2.2.2.2.2 st.2.2.2.2.2.2.2.2.2.2.1 a' b' k') = _ := p_leftNow (u := setND st.2.2.2.2.2.2.2.2 st.2.2.2.2.2.2.2.2.2.2.1 a b k) i2 i3
  rw [bn_i i1', bn_i j1, bn_i rfl, bn_i rfl, if_pos (lbs_cong 6 (fun m hm => by have := (i4 m hm).2.1; omega))]
  exact ⟨_, rfl, F, hv, hu, gF_up hG, hp, rK_up hk⟩
