/-! TURNS in the reference; the law's case: pawn -/
abbrev hb (n k : Nat) : Prop := ((nI n >>> (nI k &&& 31)) &&& (1 : Int32)) = 1
theorem hb_or : ∀ n, n < 32 → ∀ b, b < 5 → (nI n ||| ((1 : Int32) <<< (nI b &&& 31))) = nI (n ||| 2 ^ b) ∧ (n ||| 2 ^ b) < 32 ∧ ∀ k, k < 5 → (hb (n ||| 2 ^ b) k ↔ (hb n k ∨ k = b)) := by decide +kernel
theorem hb_0 : ∀ k, k < 5 → ¬ hb 0 k := by decide
theorem p_has {n k : Nat} (P : Prop) (h : hb n k ↔ P) : f_X4_has (iI n) (iI k) = some (c01 P) := by
  unfold f_X4_has
  rw [iI_nat, iI_nat]
  by_cases c : hb n k
  · rw [if_pos c, c01_t (h.mp c)]
  · rw [if_neg c, c01_f (fun q => c (h.mpr q))]
abbrev setT (u : MS) (T : AI) : MS := (u.1, u.2.1, u.2.2.1, u.2.2.2.1, u.2.2.2.2.1, u.2.2.2.2.2.1, u.2.2.2.2.2.2.1, u.2.2.2.2.2.2.2.1, u.2.2.2.2.2.2.2.2.1, u.2.2.2.2.2.2.2.2.2.1, u.2.2.2.2.2.2.2.2.2.2.1, u.2.2.2.2.2.2.2.2.2.2.2.1, u.2.2.2.2.2.2.2.2.2.2.2.2.1, u.2.2.2.2.2.2.2.2.2.2.2.2.2.1, u.2.2.2.2.2.2.2.2.2.2.2.2.2.2.1, u.2.2.2.2.2.2.2.2.2.2.2.2.2.2.2.1, T, u.2.2.2.2.2.2.2.2.2.2.2.2.2.2.2.2.2)
theorem ix5 (m t : Nat) : (5 : Int32) * iI (m : Int) + iI (t : Int) = iI ((5 * m + t : Nat) : Int) := by
  rw [z5, iI_mul, iI_add]
  congr 1
/-- the best of the unused above k -/
def bst (L : Int) (p : Nat → Int) (h t k : Nat) (z : Int) : Prop := (z = -6 ∧ ∀ j, k ≤ j → j < h → tn L p h j ≤ t) ∨ (∃ b : Nat, z = b ∧ k ≤ b ∧ b < h ∧ t < tn L p h b ∧ ∀ j, k ≤ j → j < h → t < tn L p h j → nl L p b j)
theorem lt_in {L B : Int} {S : SV} {u : MS} (hu : rB u S) (hG : gd B S) (hL : u.1 = iI L) (hL2 : 0 ≤ L ∧ L ≤ 2) {m : Nat} (hm : m < 6) {t n : Nat} (hn : n < 32) (ht : t < hg S m) (hbn : ∀ k, k < hg S m → (hb n k ↔ tn L (pe S m) (hg S m) k ≤ t)) (T : AI) : ∀ (k : Nat) (z : Int), k ≤ hg S m → bst L (pe S m) (hg S m) t k z → lpx st_X4_layTurns (.inr (.inr (setT u T, iI m, iI n, iI t, iI z, iI ((k : Int) - 1)))) = lpx st_X4_layTurns (.inr (.inl (setT u (upd T (5 * m + t) (iI ((qk L (hg S m) (pe S m) t : Nat) : Int))), iI m, iI ((n ||| 2 ^ qk L (hg S m) (pe S m) t : Nat) : Int), iI ((t + 1 : Nat) : Int)))) := by
  have h5 := (hG.1 m hm).2.1
  intro k
  induction k with
  | zero =>
    intro z hk hz
    obtain ⟨q1, q2⟩ := qk_ok L (hg S m) (pe S m) t ht
    have ez : z = (qk L (hg S m) (pe S m) t : Nat) := by
      rcases hz with ⟨_, a⟩ | ⟨b, e, _, b2, b3, b4⟩
      · have := a _ (Nat.zero_le _) q1
        omega
      · have h1 := b4 _ (Nat.zero_le _) q1 (by omega)
        have h2 := (tn_nl b2 q1).mp h1
        have h3 : tn L (pe S m) (hg S m) b = t + 1 := by omega
        rw [e, (qk_iff b2 ht).mpr h3]
    subst ez
    refine lpx_l ?_
    show f_X4_layTurns_36 _ _ _ _ _ _ = _
    unfold f_X4_layTurns_36 nm
    rw [if_pos (by (first | omega | (simp (disch := omega) only [iI_le, iI_lt, iI_eq, iI_add, iI_sub, iI_mul, iI_neg, zm1, zm2, zm3, zm4, zm5, zm6, z0, z1, z2, z3, z4, z5, z6, z7, z8, z9, z10, z11, z12, z13, z14, z15, z20, z21, z22, z23, z24, z25, z30, z31, z33, z46, z48, z49, z57, z60, z62, z63, z64, z65, z70, z74, z75, z90, z96, z99, z102, z114, z115, z116, z117, z118, z126, z128, z236, z729, z999, z9999, z46656, z65537, z1000000] <;> omega)))]
    dsimp only
    obtain ⟨o1, o2, o3⟩ := hb_or n hn (qk L (hg S m) (pe S m) t) (by omega)
    rw [ix5, ck_N (by omega) (by omega), cl_N (by omega), iI_s (t), iI_nat n, iI_nat (qk L (hg S m) (pe S m) t), o1, ← iI_nat, ← iI_nat]
  | succ k ih =>
    intro z hk hz
    have hpk := (hG.1 m hm).2.2 k (by omega)
    have hrk := ((hu m hm).2.2 k (by omega)).2.1
    have e0 : (((k + 1 : Nat) : Int) - 1) = (k : Int) := by omega
    have em : iI (k : Int) + (-1 : Int32) = iI ((k : Int) - 1) := by
      rw [zm1, iI_add]
      congr 1
    -- better: unused and none yet, or asked for not later
    have step : ∀ t0 : Int32, (∀ b : Nat, z = b → (t0 = 0 ↔ ¬ nl L (pe S m) k b)) → (z = -6 → t0 ≠ 0) → f_X4_layTurns_96 (setT u T) (iI m) (iI n) (iI t) (iI z) (iI k) t0 = some (.inl (.inr (.inr (setT u T, iI m, iI n, iI t, iI (if tn L (pe S m) (hg S m) k ≤ t ∨ t0 = 0 then z else k), iI ((k : Int) - 1))))) := by
      intro t0 _ _
      unfold f_X4_layTurns_96 nm
      rw [bn_i (p_has _ (hbn k (by omega))), em]
      by_cases c : tn L (pe S m) (hg S m) k ≤ t
      · rw [c01_t c, if_neg n10, if_pos (Or.inl c)]
      · rw [c01_f c, if_pos rfl]
        by_cases c2 : t0 = 0
        · rw [if_pos c2, if_pos (Or.inr c2)]
        · rw [if_neg c2, if_neg (by rintro (q | q) <;> contradiction)]
    have fin : ∀ t0 : Int32, (∀ b : Nat, z = b → (t0 = 0 ↔ ¬ nl L (pe S m) k b)) → (z = -6 → t0 ≠ 0) → bst L (pe S m) (hg S m) t k (if tn L (pe S m) (hg S m) k ≤ t ∨ t0 = 0 then z else k) := by
      intro t0 h1 h2
      by_cases c : tn L (pe S m) (hg S m) k ≤ t
      · rw [if_pos (Or.inl c)]
        rcases hz with ⟨e, a⟩ | ⟨b, e, b1, b2, b3, b4⟩
        · refine Or.inl ⟨e, fun j hj hj2 => ?_⟩
          by_cases ej : j = k
          · subst ej; exact c
          · exact a j (by omega) hj2
        · refine Or.inr ⟨b, e, by omega, b2, b3, fun j hj hj2 hj3 => ?_⟩
          by_cases ej : j = k
          · subst ej; omega
          · exact b4 j (by omega) hj2 hj3
      · by_cases c2 : t0 = 0
        · rw [if_pos (Or.inr c2)]
          rcases hz with ⟨e, a⟩ | ⟨b, e, b1, b2, b3, b4⟩
          · exact absurd c2 (h2 e)
          · have nk := (h1 b e).mp c2
            refine Or.inr ⟨b, e, by omega, b2, b3, fun j hj hj2 hj3 => ?_⟩
            by_cases ej : j = k
            · subst ej; exact (nl_total _ _ _ _).resolve_left nk
            · exact b4 j (by omega) hj2 hj3
        · rw [if_neg (by rintro (q | q) <;> contradiction)]
          refine Or.inr ⟨k, rfl, Nat.le_refl _, by omega, by omega, fun j hj hj2 hj3 => ?_⟩
          by_cases ej : j = k
          · subst ej; exact nl_refl _ _ _
          · rcases hz with ⟨e, a⟩ | ⟨b, e, b1, b2, b3, b4⟩
            · have := a j (by omega) hj2
              omega
            · have yk : nl L (pe S m) k b := Classical.byContradiction (fun q => c2 ((h1 b e).mpr q))
              exact nl_trans yk (b4 j (by omega) hj2 hj3)
    have main : ∃ t0 : Int32, (∀ b : Nat, z = b → (t0 = 0 ↔ ¬ nl L (pe S m) k b)) ∧ (z = -6 → t0 ≠ 0) ∧ f_X4_layTurns_36 (setT u T) (iI m) (iI n) (iI t) (iI z) (iI k) = f_X4_layTurns_96 (setT u T) (iI m) (iI n) (iI t) (iI z) (iI k) t0 := by
      unfold f_X4_layTurns_36
      rw [if_neg (show ¬ iI (k : Int) < 0 by (first | omega | (simp (disch := omega) only [iI_le, iI_lt, iI_eq, iI_add, iI_sub, iI_mul, iI_neg, zm1, zm2, zm3, zm4, zm5, zm6, z0, z1, z2, z3, z4, z5, z6, z7, z8, z9, z10, z11, z12, z13, z14, z15, z20, z21, z22, z23, z24, z25, z30, z31, z33, z46, z48, z49, z57, z60, z62, z63, z64, z65, z70, z74, z75, z90, z96, z99, z102, z114, z115, z116, z117, z118, z126, z128, z236, z729, z999, z9999, z46656, z65537, z1000000] <;> omega)))]
      rcases hz with ⟨e, a⟩ | ⟨b, e, b1, b2, b3, b4⟩
      · refine ⟨1, fun b hb' => ?_, fun _ => n10, ?_⟩
        · omega
        · rw [if_pos (by rw [e]; decide)]
      · subst e
        have nb : ¬ iI (b : Int) < 0 := by (first | omega | (simp (disch := omega) only [iI_le, iI_lt, iI_eq, iI_add, iI_sub, iI_mul, iI_neg, zm1, zm2, zm3, zm4, zm5, zm6, z0, z1, z2, z3, z4, z5, z6, z7, z8, z9, z10, z11, z12, z13, z14, z15, z20, z21, z22, z23, z24, z25, z30, z31, z33, z46, z48, z49, z57, z60, z62, z63, z64, z65, z70, z74, z75, z90, z96, z99, z102, z114, z115, z116, z117, z118, z126, z128, z236, z729, z999, z9999, z46656, z65537, z1000000] <;> omega))
        rw [if_neg nb]
        dsimp only
        by_cases l1 : L = 1
        · refine ⟨1, fun b' hb' => ?_, fun q => by omega, by rw [if_pos (by rw [hL, l1]; rfl)]⟩
          have : b' = b := by omega
          subst this
          refine ⟨fun q => absurd q n10, fun q => absurd ?_ q⟩
          unfold nl
          rw [if_pos l1]
          omega
        · rw [if_neg (by rw [hL]; (first | omega | (simp (disch := omega) only [iI_le, iI_lt, iI_eq, iI_add, iI_sub, iI_mul, iI_neg, zm1, zm2, zm3, zm4, zm5, zm6, z0, z1, z2, z3, z4, z5, z6, z7, z8, z9, z10, z11, z12, z13, z14, z15, z20, z21, z22, z23, z24, z25, z30, z31, z33, z46, z48, z49, z57, z60, z62, z63, z64, z65, z70, z74, z75, z90, z96, z99, z102, z114, z115, z116, z117, z118, z126, z128, z236, z729, z999, z9999, z46656, z65537, z1000000] <;> omega)))]
          by_cases l2 : L = 2
          · have hpb := (hG.1 m hm).2.2 b b2
            have hrb := ((hu m hm).2.2 b b2).2.1
            rw [if_pos (by rw [hL, l2]; rfl), bn_i p_at, bn_i p_at, ixM, ixM, ck_N (by omega) (by omega), ck_N (by omega) (by omega), cl_N (n := 15 * m + 3 * k + 1) (by omega), cl_N (n := 15 * m + 3 * b + 1) (by omega)]
            have en2 : nl L (pe S m) k b ↔ pe S m b < pe S m k := by
              unfold nl
              rw [if_neg l1, if_pos l2]
              omega
            by_cases cc : pe S m k ≤ pe S m b
            · refine ⟨0, fun b' hb' => ?_, fun q => by omega, by rw [if_pos (by rw [hrk, hrb]; (first | omega | (simp (disch := omega) only [iI_le, iI_lt, iI_eq, iI_add, iI_sub, iI_mul, iI_neg, zm1, zm2, zm3, zm4, zm5, zm6, z0, z1, z2, z3, z4, z5, z6, z7, z8, z9, z10, z11, z12, z13, z14, z15, z20, z21, z22, z23, z24, z25, z30, z31, z33, z46, z48, z49, z57, z60, z62, z63, z64, z65, z70, z74, z75, z90, z96, z99, z102, z114, z115, z116, z117, z118, z126, z128, z236, z729, z999, z9999, z46656, z65537, z1000000] <;> omega)))]⟩
              have : b' = b := by omega
              subst this
              rw [en2]
              exact ⟨fun _ => by omega, fun _ => rfl⟩
            · refine ⟨1, fun b' hb' => ?_, fun q => by omega, by rw [if_neg (by rw [hrk, hrb]; (first | omega | (simp (disch := omega) only [iI_le, iI_lt, iI_eq, iI_add, iI_sub, iI_mul, iI_neg, zm1, zm2, zm3, zm4, zm5, zm6, z0, z1, z2, z3, z4, z5, z6, z7, z8, z9, z10, z11, z12, z13, z14, z15, z20, z21, z22, z23, z24, z25, z30, z31, z33, z46, z48, z49, z57, z60, z62, z63, z64, z65, z70, z74, z75, z90, z96, z99, z102, z114, z115, z116, z117, z118, z126, z128, z236, z729, z999, z9999, z46656, z65537, z1000000] <;> omega)))]⟩
              have : b' = b := by omega
              subst this
              rw [en2]
              exact ⟨fun q => absurd q n10, fun q => absurd (by omega) q⟩
          · refine ⟨0, fun b' hb' => ?_, fun q => by omega, by rw [if_neg (by rw [hL]; (first | omega | (simp (disch := omega) only [iI_le, iI_lt, iI_eq, iI_add, iI_sub, iI_mul, iI_neg, zm1, zm2, zm3, zm4, zm5, zm6, z0, z1, z2, z3, z4, z5, z6, z7, z8, z9, z10, z11, z12, z13, z14, z15, z20, z21, z22, z23, z24, z25, z30, z31, z33, z46, z48, z49, z57, z60, z62, z63, z64, z65, z70, z74, z75, z90, z96, z99, z102, z114, z115, z116, z117, z118, z126, z128, z236, z729, z999, z9999, z46656, z65537, z1000000] <;> omega)))]⟩
            have : b' = b := by omega
            subst this
            refine ⟨fun _ => ?_, fun _ => rfl⟩
            unfold nl
            rw [if_neg l1, if_neg l2]
            omega
    obtain ⟨t0, m1, m2, m3⟩ := main
    refine (lpx_l ?_).trans (ih _ (by omega) (fin t0 m1 m2))
    show f_X4_layTurns_36 (setT u T) (iI m) (iI n) (iI t) (iI z) (iI (((k + 1 : Nat) : Int) - 1)) = _
    rw [e0, m3, step t0 m1 m2]
theorem lt_man {L B : Int} {S : SV} {u : MS} (hu : rB u S) (hG : gd B S) (hL : u.1 = iI L) (hL2 : 0 ≤ L ∧ L ≤ 2) {m : Nat} (hm : m < 6) : ∀ (j t n : Nat) (T : AI), t + j = hg S m → n < 32 → (∀ k, k < hg S m → (hb n k ↔ tn L (pe S m) (hg S m) k ≤ t)) → (∀ i, i < t → T (5 * m + i) = iI ((qk L (hg S m) (pe S m) i : Nat) : Int)) → ∃ T', lpx st_X4_layTurns (.inr (.inl (setT u T, iI m, iI n, iI t))) = lpx st_X4_layTurns (.inl (setT u T', iI ((m + 1 : Nat) : Int))) ∧ (∀ i, i < hg S m → T' (5 * m + i) = iI ((qk L (hg S m) (pe S m) i : Nat) : Int)) ∧ ∀ x, x < 5 * m → T' x = T x := by
  have h5 := (hG.1 m hm).2.1
  have hsz := (hu m hm).2.1
  intro j
  induction j with
  | zero =>
    intro t n T hj hn hbn hT
    have : t = hg S m := by omega
    subst this
    refine ⟨T, lpx_l ?_, hT, fun _ _ => rfl⟩
    show f_X4_layTurns_12 _ _ _ _ = _
    unfold f_X4_layTurns_12 nm
    dsimp only
    rw [ck_N hm (by omega), cl_N (by omega), if_pos (by rw [hsz]; (first | omega | (simp (disch := omega) only [iI_le, iI_lt, iI_eq, iI_add, iI_sub, iI_mul, iI_neg, zm1, zm2, zm3, zm4, zm5, zm6, z0, z1, z2, z3, z4, z5, z6, z7, z8, z9, z10, z11, z12, z13, z14, z15, z20, z21, z22, z23, z24, z25, z30, z31, z33, z46, z48, z49, z57, z60, z62, z63, z64, z65, z70, z74, z75, z90, z96, z99, z102, z114, z115, z116, z117, z118, z126, z128, z236, z729, z999, z9999, z46656, z65537, z1000000] <;> omega))), iI_s (m)]
  | succ j ih =>
    intro t n T hj hn hbn hT
    obtain ⟨q1, q2⟩ := qk_ok L (hg S m) (pe S m) t (by omega)
    obtain ⟨o1, o2, o3⟩ := hb_or n hn (qk L (hg S m) (pe S m) t) (by omega)
    have hin := lt_in hu hG hL hL2 hm hn (t := t) (by omega) hbn T (hg S m) (-6) (Nat.le_refl _) (Or.inl ⟨rfl, fun j hj hj2 => absurd hj2 (by omega)⟩)
    obtain ⟨T', e1, e2, e3⟩ := ih (t + 1) _ (upd T (5 * m + t) (iI ((qk L (hg S m) (pe S m) t : Nat) : Int))) (by omega) o2 (fun k hk => by
      rw [o3 k (by omega), hbn k hk]
      constructor
      · rintro (q | q)
        · omega
        · subst q; omega
      · intro q
        rcases Nat.lt_or_ge t (tn L (pe S m) (hg S m) k) with w | w
        · right
          have : tn L (pe S m) (hg S m) k = t + 1 := by omega
          exact ((qk_iff hk (by omega)).mpr this).symm
        · left; exact w) (fun i hi => by
      by_cases e : i = t
      · subst e; rw [upd_s]
      · rw [upd_n (by omega)]; exact hT i (by omega))
    refine ⟨T', ((lpx_l ?_).trans hin).trans e1, e2, fun x hx => by rw [e3 x hx, upd_n (by omega)]⟩
    show f_X4_layTurns_12 _ _ _ _ = _
    unfold f_X4_layTurns_12 nm
    dsimp only
    rw [ck_N hm (by omega), cl_N (by omega), if_neg (by rw [hsz]; (first | omega | (simp (disch := omega) only [iI_le, iI_lt, iI_eq, iI_add, iI_sub, iI_mul, iI_neg, zm1, zm2, zm3, zm4, zm5, zm6, z0, z1, z2, z3, z4, z5, z6, z7, z8, z9, z10, z11, z12, z13, z14, z15, z20, z21, z22, z23, z24, z25, z30, z31, z33, z46, z48, z49, z57, z60, z62, z63, z64, z65, z70, z74, z75, z90, z96, z99, z102, z114, z115, z116, z117, z118, z126, z128, z236, z729, z999, z9999, z46656, z65537, z1000000] <;> omega))), hsz, z1, iI_sub, zm6]
theorem p_layTurns {L B : Int} {S : SV} {u : MS} (hu : rB u S) (hG : gd B S) (hL : u.1 = iI L) (hL2 : 0 ≤ L ∧ L ≤ 2) : ∃ T, f_X4_layTurns u = some (setT u T) ∧ ∀ m, m < 6 → ∀ t, t < hg S m → T (5 * m + t) = iI ((qk L (hg S m) (pe S m) t : Nat) : Int) := by
  have loop : ∀ (n m : Nat) (T : AI), m + n = 6 → (∀ x, x < m → ∀ t, t < hg S x → T (5 * x + t) = iI ((qk L (hg S x) (pe S x) t : Nat) : Int)) → ∃ T', lpx st_X4_layTurns (.inl (setT u T, iI m)) = some (setT u T') ∧ ∀ m, m < 6 → ∀ t, t < hg S m → T' (5 * m + t) = iI ((qk L (hg S m) (pe S m) t : Nat) : Int) := by
    intro n
    induction n with
    | zero =>
      intro m T hm hT
      have : m = 6 := by omega
      subst this
      refine ⟨T, lpx_r ?_, hT⟩
      show f_X4_layTurns_2 _ _ = _
      unfold f_X4_layTurns_2
      rw [if_pos (by (first | omega | (simp (disch := omega) only [iI_le, iI_lt, iI_eq, iI_add, iI_sub, iI_mul, iI_neg, zm1, zm2, zm3, zm4, zm5, zm6, z0, z1, z2, z3, z4, z5, z6, z7, z8, z9, z10, z11, z12, z13, z14, z15, z20, z21, z22, z23, z24, z25, z30, z31, z33, z46, z48, z49, z57, z60, z62, z63, z64, z65, z70, z74, z75, z90, z96, z99, z102, z114, z115, z116, z117, z118, z126, z128, z236, z729, z999, z9999, z46656, z65537, z1000000] <;> omega)))]
    | succ n ih =>
      intro m T hm hT
      obtain ⟨T1, e1, e2, e3⟩ := lt_man hu hG hL hL2 (m := m) (by omega) (hg S m) 0 0 T (by omega) (by omega) (fun k hk => ⟨fun q => absurd q (hb_0 k (by have := (hG.1 m (by omega)).2.1; omega)), fun q => by have := tn_pos (L := L) (p := pe S m) hk; omega⟩) (fun i hi => absurd hi (by omega))
      obtain ⟨T', g1, g2⟩ := ih (m + 1) T1 (by omega) (fun x hx t ht => by
        by_cases e : x = m
        · subst e; exact e2 t ht
        · have := (hG.1 x (by omega)).2.1
          rw [e3 _ (by omega)]
          exact hT x (by omega) t ht)
      refine ⟨T', ((lpx_l ?_).trans e1).trans g1, g2⟩
      show f_X4_layTurns_2 _ _ = _
      unfold f_X4_layTurns_2
      rw [if_neg (by (first | omega | (simp (disch := omega) only [iI_le, iI_lt, iI_eq, iI_add, iI_sub, iI_mul, iI_neg, zm1, zm2, zm3, zm4, zm5, zm6, z0, z1, z2, z3, z4, z5, z6, z7, z8, z9, z10, z11, z12, z13, z14, z15, z20, z21, z22, z23, z24, z25, z30, z31, z33, z46, z48, z49, z57, z60, z62, z63, z64, z65, z70, z74, z75, z90, z96, z99, z102, z114, z115, z116, z117, z118, z126, z128, z236, z729, z999, z9999, z46656, z65537, z1000000] <;> omega)))]
      rfl
  exact loop 6 0 u.2.2.2.2.2.2.2.2.2.2.2.2.2.2.2.2.1 (by omega) (fun x hx => absurd hx (by omega))
