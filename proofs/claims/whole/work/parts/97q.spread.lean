/-! SOON in the class: one layer more -/
def mkd (A D : Nat → Prop) (Q : QU) (mo : Nat → Int) (lim : Nat → Nat) (a w p : Nat) : Prop := ∃ q m, A q ∧ D q ∧ m < 6 ∧ mk Q mo lim a w (dig (bl lim) q) m ∧ p = q + wt (bl lim) m
theorem mkd_c {A D D' : Nat → Prop} {Q : QU} {mo : Nat → Int} {lim : Nat → Nat} {a w : Nat} (h : ∀ q, A q → (D q ↔ D' q)) (p : Nat) : mkd A D Q mo lim a w p ↔ mkd A D' Q mo lim a w p := by
  constructor
  · rintro ⟨q, m, h1, h2, h3⟩
    exact ⟨q, m, h1, (h q h1).mp h2, h3⟩
  · rintro ⟨q, m, h1, h2, h3⟩
    exact ⟨q, m, h1, (h q h1).mpr h2, h3⟩
def Dj (wd j q : Nat) : Prop := 64 * (wd + 1) ≤ q ∨ (64 * wd ≤ q ∧ q < 64 * wd + j)
theorem sp_in {y : YS} {Q : QU} {mo : Nat → Int} {lim : Nat → Nat} (hz : rZ y Q mo lim) (hW : Wq Q) (hM : okM mo) (hl : okL Q lim) {a w : Nat} (ha : a < 6) (hla0 : lim a = 0) (hw : w ≤ qh Q a) (h7 : wt (bl lim) 6 ≤ 7776) {A : Nat → Prop} (hA : ∀ p, A p → p < wt (bl lim) 6) {wd : Nat} (hwd : wd < 122) : ∀ (f j cnt : Nat) (bits : Int64) (pu pd : AI) (la : AL), 64 ≤ j + f → j ≤ 64 → cnt ≤ j → (∀ i, i < 64 → (bits.toBitVec.getLsbD i = true ↔ (A (64 * wd + i) ∧ j ≤ i))) → (∀ p, p < 7808 → (bit la p ↔ ((A p ∧ p < 64 * wd) ∨ mkd A (Dj wd j) Q mo lim a w p))) → (∀ q, A q → Dj wd j q → ¬ gol Q mo a w (dig (bl lim) q)) → ∃ pu' pd' la', (lpx (st_X1_spread (iI a) (iI w)) (.inr (setZ y pu pd la, iI wd, bits, iI cnt)) = some (1, setZ y pu' pd' la') ∧ ∃ q, A q ∧ gol Q mo a w (dig (bl lim) q)) ∨ (lpx (st_X1_spread (iI a) (iI w)) (.inr (setZ y pu pd la, iI wd, bits, iI cnt)) = lpx (st_X1_spread (iI a) (iI w)) (.inl (setZ y pu' pd' la', iI ((wd : Int) - 1))) ∧ (∀ p, p < 7808 → (bit la' p ↔ ((A p ∧ p < 64 * wd) ∨ mkd A (fun q => 64 * wd ≤ q) Q mo lim a w p))) ∧ (∀ q, A q → 64 * wd ≤ q → ¬ gol Q mo a w (dig (bl lim) q))) := by
  have em : iI (wd : Int) + (-1 : Int32) = iI ((wd : Int) - 1) := by
    rw [zm1, iI_add]
    congr 1
  intro f
  induction f with
  | zero =>
    intro j cnt bits pu pd la h1 h2 h3 hb hla hng
    have hj : j = 64 := by omega
    subst hj
    have hcov : ∀ q, A q → (Dj wd 64 q ↔ 64 * wd ≤ q) := fun q _ => by unfold Dj; omega
    have hz0 : bits = 0 := by
      apply Int64.toBitVec_inj.mp
      apply BitVec.eq_of_getLsbD_eq
      intro i hi
      have : ¬ bits.toBitVec.getLsbD i = true := fun q => by have := (hb i hi).mp q; omega
      simpa using this
    refine ⟨pu, pd, la, Or.inr ⟨lpx_l ?_, fun p hp => by rw [hla p hp, mkd_c hcov], fun q hq h => hng q hq ((hcov q hq).mpr h)⟩⟩
    show f_X1_spread_29 (iI a) (iI w) _ _ _ _ = _
    unfold f_X1_spread_29 nm
    dsimp only
    rw [if_pos (show lg_cmp bits 0 = 0 from (lg_cmp_eq _ _).mpr hz0), em]
    split <;> rfl
  | succ f ih =>
    intro j cnt bits pu pd la h1 h2 h3 hb hla hng
    have fin : (∀ i, i < 64 → A (64 * wd + i) → i < j) → ∀ q, A q → (Dj wd j q ↔ 64 * wd ≤ q) := fun hall q hq => by
      unfold Dj
      constructor
      · omega
      · intro h
        by_cases c : 64 * (wd + 1) ≤ q
        · exact Or.inl c
        · right
          have := hall (q - 64 * wd) (by omega) (by rw [show 64 * wd + (q - 64 * wd) = q by omega]; exact hq)
          omega
    by_cases c1 : 64 ≤ cnt
    · have hcov := fin (fun i hi _ => by omega)
      refine ⟨pu, pd, la, Or.inr ⟨lpx_l ?_, fun p hp => by rw [hla p hp, mkd_c hcov], fun q hq h => hng q hq ((hcov q hq).mpr h)⟩⟩
      show f_X1_spread_29 (iI a) (iI w) _ _ _ _ = _
      unfold f_X1_spread_29 nm
      dsimp only
      rw [if_pos (by (first | omega | (simp (disch := omega) only [iI_le, iI_lt, iI_eq, iI_add, iI_sub, iI_mul, iI_neg, zm1, zm2, zm3, zm4, zm5, zm6, z0, z1, z2, z3, z4, z5, z6, z7, z8, z9, z10, z11, z12, z13, z14, z15, z20, z21, z22, z23, z24, z25, z30, z31, z33, z46, z48, z49, z57, z60, z62, z63, z64, z65, z70, z74, z75, z90, z96, z99, z102, z114, z115, z116, z117, z118, z122, z126, z128, z236, z729, z999, z7776, z9999, z46656, z65537, z1000000] <;> omega))), em]
    · by_cases c2 : bits = 0
      · have hcov := fin (fun i hi hAi => by
          rcases Nat.lt_or_ge i j with q | q
          · exact q
          · exfalso
            have := (hb i hi).mpr ⟨hAi, q⟩
            rw [c2] at this
            simp at this)
        refine ⟨pu, pd, la, Or.inr ⟨lpx_l ?_, fun p hp => by rw [hla p hp, mkd_c hcov], fun q hq h => hng q hq ((hcov q hq).mpr h)⟩⟩
        show f_X1_spread_29 (iI a) (iI w) _ _ _ _ = _
        unfold f_X1_spread_29 nm
        dsimp only
        rw [if_pos (show lg_cmp bits 0 = 0 from (lg_cmp_eq _ _).mpr c2), em]
        split <;> rfl
      · obtain ⟨t, ht⟩ := lowb_ex (x := bits.toBitVec) (fun q => c2 (Int64.toBitVec_inj.mp q))
        obtain ⟨t1, t2, t3⟩ := id ht
        obtain ⟨hAt, hjt⟩ := (hb t t1).mp t2
        have epl : iI (wd : Int) * 64 + iI (t : Int) = iI ((64 * wd + t : Nat) : Int) := by
          rw [z64, iI_mul, iI_add]
          congr 1
          omega
        obtain ⟨r, pu1, pd1, la1, e1, e2⟩ := p_leave hz hW hM hl ha hla0 hw h7 (hA _ hAt) pu pd la
        have hst : st_X1_spread (iI a) (iI w) (.inr (setZ y pu pd la, iI wd, bits, iI cnt)) = if r = 0 then some (.inl (.inr (setZ y pu1 pd1 la1, iI wd, bits &&& (bits - 1), iI ((cnt + 1 : Nat) : Int)))) else some (.inr (1, setZ y pu1 pd1 la1)) := by
          show f_X1_spread_29 (iI a) (iI w) _ _ _ _ = _
          unfold f_X1_spread_29 nm
          dsimp only
          rw [if_neg (by (first | omega | (simp (disch := omega) only [iI_le, iI_lt, iI_eq, iI_add, iI_sub, iI_mul, iI_neg, zm1, zm2, zm3, zm4, zm5, zm6, z0, z1, z2, z3, z4, z5, z6, z7, z8, z9, z10, z11, z12, z13, z14, z15, z20, z21, z22, z23, z24, z25, z30, z31, z33, z46, z48, z49, z57, z60, z62, z63, z64, z65, z70, z74, z75, z90, z96, z99, z102, z114, z115, z116, z117, z118, z122, z126, z128, z236, z729, z999, z7776, z9999, z46656, z65537, z1000000] <;> omega))), if_neg (fun q => c2 ((lg_cmp_eq _ _).mp q)), bn_i (p_ntz ht), epl, bn_i e1, iI_s (cnt)]
        rcases e2 with ⟨r1, r2⟩ | ⟨r1, r2, r3⟩
        · rw [r1, if_neg n10] at hst
          exact ⟨pu1, pd1, la1, Or.inl ⟨lpx_r hst, _, hAt, r2⟩⟩
        · rw [r1, if_pos rfl] at hst
          have hD : ∀ q, A q → (Dj wd (t + 1) q ↔ (Dj wd j q ∨ q = 64 * wd + t)) := fun q hq => by
            unfold Dj
            constructor
            · rintro (w1 | ⟨w1, w2⟩)
              · exact Or.inl (Or.inl w1)
              · by_cases c : q < 64 * wd + j
                · exact Or.inl (Or.inr ⟨w1, c⟩)
                · right
                  by_cases c3 : q < 64 * wd + t
                  · exfalso
                    have a1 := t3 (q - 64 * wd) (by omega)
                    have a2 := (hb (q - 64 * wd) (by omega)).mpr ⟨by rw [show 64 * wd + (q - 64 * wd) = q by omega]; exact hq, by omega⟩
                    rw [a1] at a2
                    exact absurd a2 (by decide)
                  · omega
            · rintro ((w1 | ⟨w1, w2⟩) | w1)
              · exact Or.inl w1
              · exact Or.inr ⟨w1, by omega⟩
              · exact Or.inr ⟨by omega, by omega⟩
          obtain ⟨pu2, pd2, la2, g⟩ := ih (t + 1) (cnt + 1) (bits &&& (bits - 1)) pu1 pd1 la1 (by omega) (by omega) (by omega) (fun i hi => by
            rw [and_sub1 ht hi, Bool.and_eq_true, decide_eq_true_eq, hb i hi]
            constructor
            · rintro ⟨⟨w1, w2⟩, w3⟩
              refine ⟨w1, ?_⟩
              by_cases c3 : i < t
              · exfalso
                have a1 := t3 i c3
                have a2 := (hb i hi).mpr ⟨w1, w2⟩
                rw [a1] at a2
                exact absurd a2 (by decide)
              · omega
            · rintro ⟨w1, w2⟩
              exact ⟨⟨w1, by omega⟩, by omega⟩) (fun p hp => by
            rw [r3 p, hla p hp]
            constructor
            · rintro ((w1 | ⟨q, m, q1, q2, q3, q4, q5⟩) | ⟨m, q1, q2, q3⟩)
              · exact Or.inl w1
              · exact Or.inr ⟨q, m, q1, (hD q q1).mpr (Or.inl q2), q3, q4, q5⟩
              · exact Or.inr ⟨_, m, hAt, (hD _ hAt).mpr (Or.inr rfl), q1, q2, q3⟩
            · rintro (w1 | ⟨q, m, q1, q2, q3, q4, q5⟩)
              · exact Or.inl (Or.inl w1)
              · rcases (hD q q1).mp q2 with w2 | w2
                · exact Or.inl (Or.inr ⟨q, m, q1, w2, q3, q4, q5⟩)
                · subst w2
                  exact Or.inr ⟨m, q3, q4, q5⟩) (fun q hq hd => by
            rcases (hD q hq).mp hd with w2 | w2
            · exact hng q hq w2
            · subst w2; exact r2)
          refine ⟨pu2, pd2, la2, ?_⟩
          rcases g with ⟨g1, g2⟩ | ⟨g1, g2, g3⟩
          · exact Or.inl ⟨(lpx_l hst).trans g1, g2⟩
          · exact Or.inr ⟨(lpx_l hst).trans g1, g2, g3⟩
theorem p_spread {y : YS} {Q : QU} {mo : Nat → Int} {lim : Nat → Nat} (hz : rZ y Q mo lim) (hW : Wq Q) (hM : okM mo) (hl : okL Q lim) {a w : Nat} (ha : a < 6) (hla0 : lim a = 0) (hw : w ≤ qh Q a) (h7 : wt (bl lim) 6 ≤ 7776) {A : Nat → Prop} {W : Nat} (hW9 : W ≤ 122) (hwo : y.2.2.2.2.2.2.2.2.2 = iI W) (hA : ∀ p, A p → p < wt (bl lim) 6 ∧ p < 64 * W) (pu pd : AI) (la : AL) (hla : ∀ p, p < 7808 → (bit la p ↔ A p)) : ∃ r pu' pd' la', f_X1_spread (setZ y pu pd la) (iI a) (iI w) = some (r, setZ y pu' pd' la') ∧ ((r = 1 ∧ ∃ q, A q ∧ gol Q mo a w (dig (bl lim) q)) ∨ (r = 0 ∧ (∀ q, A q → ¬ gol Q mo a w (dig (bl lim) q)) ∧ ∀ p, p < 7808 → (bit la' p ↔ mkd A (fun _ => True) Q mo lim a w p))) := by
  have loop : ∀ (wd : Nat) (pu pd : AI) (la : AL), wd ≤ 122 → (∀ p, p < 7808 → (bit la p ↔ ((A p ∧ p < 64 * wd) ∨ mkd A (fun q => 64 * wd ≤ q) Q mo lim a w p))) → (∀ q, A q → 64 * wd ≤ q → ¬ gol Q mo a w (dig (bl lim) q)) → ∃ r pu' pd' la', lpx (st_X1_spread (iI a) (iI w)) (.inl (setZ y pu pd la, iI ((wd : Int) - 1))) = some (r, setZ y pu' pd' la') ∧ ((r = 1 ∧ ∃ q, A q ∧ gol Q mo a w (dig (bl lim) q)) ∨ (r = 0 ∧ (∀ q, A q → ¬ gol Q mo a w (dig (bl lim) q)) ∧ ∀ p, p < 7808 → (bit la' p ↔ mkd A (fun _ => True) Q mo lim a w p))) := by
    intro wd
    induction wd with
    | zero =>
      intro pu pd la hwd hb hng
      refine ⟨0, pu, pd, la, lpx_r ?_, Or.inr ⟨rfl, fun q hq => hng q hq (by omega), fun p hp => ?_⟩⟩
      · show f_X1_spread_7 (iI a) (iI w) _ _ = _
        unfold f_X1_spread_7
        rw [if_pos (by (first | omega | (simp (disch := omega) only [iI_le, iI_lt, iI_eq, iI_add, iI_sub, iI_mul, iI_neg, zm1, zm2, zm3, zm4, zm5, zm6, z0, z1, z2, z3, z4, z5, z6, z7, z8, z9, z10, z11, z12, z13, z14, z15, z20, z21, z22, z23, z24, z25, z30, z31, z33, z46, z48, z49, z57, z60, z62, z63, z64, z65, z70, z74, z75, z90, z96, z99, z102, z114, z115, z116, z117, z118, z122, z126, z128, z236, z729, z999, z7776, z9999, z46656, z65537, z1000000] <;> omega)))]
      · rw [hb p hp, mkd_c (D' := fun _ => True) (fun q _ => ⟨fun _ => trivial, fun _ => by omega⟩)]
        constructor
        · rintro (w1 | w1)
          · omega
          · exact w1
        · exact Or.inr
    | succ wd ih =>
      intro pu pd la hwd hb hng
      have hst : st_X1_spread (iI a) (iI w) (.inl (setZ y pu pd la, iI (((wd + 1 : Nat) : Int) - 1))) = some (.inl (.inr (setZ y pu pd (vp_updL la wd 0), iI wd, la wd, iI ((0 : Nat) : Int)))) := by
        show f_X1_spread_7 (iI a) (iI w) _ _ = _
        unfold f_X1_spread_7 nm
        dsimp only
        rw [show (((wd + 1 : Nat) : Int) - 1) = ((wd : Nat) : Int) by omega, if_neg (by (first | omega | (simp (disch := omega) only [iI_le, iI_lt, iI_eq, iI_add, iI_sub, iI_mul, iI_neg, zm1, zm2, zm3, zm4, zm5, zm6, z0, z1, z2, z3, z4, z5, z6, z7, z8, z9, z10, z11, z12, z13, z14, z15, z20, z21, z22, z23, z24, z25, z30, z31, z33, z46, z48, z49, z57, z60, z62, z63, z64, z65, z70, z74, z75, z90, z96, z99, z102, z114, z115, z116, z117, z118, z122, z126, z128, z236, z729, z999, z7776, z9999, z46656, z65537, z1000000] <;> omega))), ck_N (by omega) (by omega), cl_N (by omega)]
        rfl
      have hup : ∀ q m, A q → 64 * (wd + 1) ≤ q → m < 6 → 64 * (wd + 1) < q + wt (bl lim) m := fun q m _ h1 h2 => by
        have := (wl hW hl m (by omega)).1
        omega
      obtain ⟨pu1, pd1, la1, g⟩ := sp_in hz hW hM hl ha hla0 hw h7 (fun p hp => (hA p hp).1) (wd := wd) (by omega) 64 0 0 (la wd) pu pd (vp_updL la wd 0) (by omega) (by omega) (by omega) (fun i hi => by
        have hbi := hb (64 * wd + i) (by omega)
        unfold bit at hbi
        rw [show (64 * wd + i) / 64 = wd by omega, show (64 * wd + i) % 64 = i by omega] at hbi
        rw [hbi]
        constructor
        · rintro (w1 | ⟨q, m, q1, q2, q3, q4, q5⟩)
          · exact ⟨w1.1, by omega⟩
          · have := hup q m q1 q2 q3
            omega
        · rintro ⟨w1, _⟩
          exact Or.inl ⟨w1, by omega⟩) (fun p hp => by
        have e1 : mkd A (Dj wd 0) Q mo lim a w p ↔ mkd A (fun q => 64 * (wd + 1) ≤ q) Q mo lim a w p := mkd_c (fun q _ => by unfold Dj; omega) p
        rw [e1]
        by_cases c : p / 64 = wd
        · have e2 : ¬ bit (vp_updL la wd 0) p := by
            unfold bit
            rw [c, pk_uLs]
            simp
          constructor
          · intro w1; exact absurd w1 e2
          · rintro (w1 | ⟨q, m, q1, q2, q3, q4, q5⟩)
            · omega
            · have := hup q m q1 q2 q3
              omega
        · have e2 : bit (vp_updL la wd 0) p ↔ bit la p := by
            unfold bit
            rw [pk_uLn c]
          rw [e2, hb p hp]
          constructor
          · rintro (w1 | w1)
            · exact Or.inl ⟨w1.1, by omega⟩
            · exact Or.inr w1
          · rintro (w1 | w1)
            · exact Or.inl ⟨w1.1, by omega⟩
            · exact Or.inr w1) (fun q hq hd => hng q hq (by unfold Dj at hd; omega))
      rcases g with ⟨g1, g2⟩ | ⟨g1, g2, g3⟩
      · exact ⟨1, pu1, pd1, la1, (lpx_l hst).trans g1, Or.inl ⟨rfl, g2⟩⟩
      · obtain ⟨r, pu2, pd2, la2, k1, k2⟩ := ih pu1 pd1 la1 (by omega) g2 g3
        exact ⟨r, pu2, pd2, la2, ((lpx_l hst).trans g1).trans k1, k2⟩
  obtain ⟨r, pu', pd', la', e1, e2⟩ := loop W pu pd la hW9 (fun p hp => by
    rw [hla p hp]
    constructor
    · intro h; exact Or.inl ⟨h, (hA p h).2⟩
    · rintro (h | ⟨q, m, q1, q2, _⟩)
      · exact h.1
      · have := (hA q q1).2
        omega) (fun q hq h => by have := (hA q hq).2; omega)
  refine ⟨r, pu', pd', la', ?_, e2⟩
  unfold f_X1_spread f_X1_spread_0 nm
  dsimp only
  rw [hwo, z1, iI_sub]
  exact e1
