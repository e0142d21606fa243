/-! FILLING a text -/
theorem p_guesses {d : DS} {Q : Nat} (hq : d.2.2.2.2.2.2.2.2.1 = iI Q) (hQ : Q ≤ 3) : f_X0_guesses d = some (iI ((6 ^ Q : Nat) : Int)) := by
  have loop : ∀ k i, i + k = Q → lpx (st_X0_guesses d) (iI ((6 ^ i : Nat) : Int), iI i) = some (iI ((6 ^ Q : Nat) : Int)) := by
    intro k
    induction k with
    | zero =>
      intro i hi
      have : i = Q := by omega
      subst this
      refine lpx_r ?_
      show f_X0_guesses_4 d _ _ = _
      unfold f_X0_guesses_4
      rw [hq, if_pos (by (first | omega | (simp (disch := omega) only [iI_le, iI_lt, iI_eq, iI_add, iI_sub, iI_mul, iI_neg, zm1, zm2, zm3, zm4, zm5, zm6, z0, z1, z2, z3, z4, z5, z6, z7, z8, z9, z10, z11, z12, z13, z14, z15, z20, z21, z22, z23, z24, z25, z30, z31, z33, z46, z48, z49, z57, z60, z62, z63, z64, z65, z70, z74, z75, z90, z96, z99, z102, z114, z115, z116, z117, z118, z126, z128, z236, z729, z999, z9999, z46656, z65537, z1000000] <;> omega)))]
    | succ k ih =>
      intro i hi
      refine (lpx_l ?_).trans (ih (i + 1) (by omega))
      show f_X0_guesses_4 d _ _ = _
      unfold f_X0_guesses_4 nm
      rw [hq, if_neg (by (first | omega | (simp (disch := omega) only [iI_le, iI_lt, iI_eq, iI_add, iI_sub, iI_mul, iI_neg, zm1, zm2, zm3, zm4, zm5, zm6, z0, z1, z2, z3, z4, z5, z6, z7, z8, z9, z10, z11, z12, z13, z14, z15, z20, z21, z22, z23, z24, z25, z30, z31, z33, z46, z48, z49, z57, z60, z62, z63, z64, z65, z70, z74, z75, z90, z96, z99, z102, z114, z115, z116, z117, z118, z126, z128, z236, z729, z999, z9999, z46656, z65537, z1000000] <;> omega))), iI_s, z6, iI_mul, Nat.pow_succ]
      rfl
  exact loop Q 0 (by omega)
abbrev setGu (d : DS) (g : AI) : DS := (d.1, d.2.1, d.2.2.1, d.2.2.2.1, d.2.2.2.2.1, g, d.2.2.2.2.2.2.1, d.2.2.2.2.2.2.2.1, d.2.2.2.2.2.2.2.2.1, d.2.2.2.2.2.2.2.2.2)
theorem p_writeMen {d : DS} {Q w : Nat} (hq : d.2.2.2.2.2.2.2.2.1 = iI Q) (hQ : Q ≤ 3) (hw : w < 1000) : ∃ g, f_X0_writeMen d (iI w) = some (setGu d g) ∧ ∀ i, i < Q → g i = iI (gC Q w i) := by
  have loop : ∀ (k : Nat) (g : AI), k ≤ Q → (∀ i, k ≤ i → i < Q → g i = iI (gC Q w i)) → ∃ g', lpx (st_X0_writeMen (iI w)) (setGu d g, iI ((w / 6 ^ (Q - k) : Nat) : Int), iI ((k : Int) - 1)) = some (setGu d g') ∧ ∀ i, i < Q → g' i = iI (gC Q w i) := by
    intro k
    induction k with
    | zero =>
      intro g hk hgi
      refine ⟨g, lpx_r ?_, fun i hi => hgi i (by omega) hi⟩
      show f_X0_writeMen_13 (iI w) _ _ _ = _
      unfold f_X0_writeMen_13
      rw [if_pos (by (first | omega | (simp (disch := omega) only [iI_le, iI_lt, iI_eq, iI_add, iI_sub, iI_mul, iI_neg, zm1, zm2, zm3, zm4, zm5, zm6, z0, z1, z2, z3, z4, z5, z6, z7, z8, z9, z10, z11, z12, z13, z14, z15, z20, z21, z22, z23, z24, z25, z30, z31, z33, z46, z48, z49, z57, z60, z62, z63, z64, z65, z70, z74, z75, z90, z96, z99, z102, z114, z115, z116, z117, z118, z126, z128, z236, z729, z999, z9999, z46656, z65537, z1000000] <;> omega)))]
    | succ k ih =>
      intro g hk hgi
      have hle := Nat.div_le_self w (6 ^ (Q - (k + 1)))
      have hx : ((k + 1 : Nat) : Int) - 1 = (k : Nat) := by omega
      have e1 : w / 6 ^ (Q - (k + 1)) / 6 = w / 6 ^ (Q - k) := by
        rw [Nat.div_div_eq_div_mul, ← Nat.pow_succ, show (Q - (k + 1)).succ = Q - k by omega]
      obtain ⟨g', f1, f2⟩ := ih (upd g k (iI (gC Q w k))) (by omega) (fun i h1 h2 => by
        by_cases e : i = k
        · subst e; exact upd_s
        · rw [upd_n e]; exact hgi i (by omega) h2)
      refine ⟨g', (lpx_l ?_).trans f1, f2⟩
      show f_X0_writeMen_13 (iI w) _ _ _ = _
      unfold f_X0_writeMen_13 nm
      dsimp only
      generalize hD : w / 6 ^ (Q - (k + 1)) = D at *
      have hgc : gC Q w k = D % 6 := by
        unfold gC byF
        rw [show Q - 1 - k = Q - (k + 1) by omega, hD]
      rw [hx, if_neg (by (first | omega | (simp (disch := omega) only [iI_le, iI_lt, iI_eq, iI_add, iI_sub, iI_mul, iI_neg, zm1, zm2, zm3, zm4, zm5, zm6, z0, z1, z2, z3, z4, z5, z6, z7, z8, z9, z10, z11, z12, z13, z14, z15, z20, z21, z22, z23, z24, z25, z30, z31, z33, z46, z48, z49, z57, z60, z62, z63, z64, z65, z70, z74, z75, z90, z96, z99, z102, z114, z115, z116, z117, z118, z126, z128, z236, z729, z999, z9999, z46656, z65537, z1000000] <;> omega))), ck_N (by omega) (by omega), cl_N (by omega), z6, iI_rem (by omega) (by omega) (by omega) (by omega), iI_div (by omega) (by omega) (by omega) (by omega), zm1, iI_add, hgc, ← e1]
      rfl
  obtain ⟨g', f1, f2⟩ := loop Q d.2.2.2.2.2.1 (Nat.le_refl _) (fun i h1 h2 => absurd h2 (by omega))
  refine ⟨g', ?_, f2⟩
  rw [Nat.sub_self, Nat.pow_zero, Nat.div_one] at f1
  unfold f_X0_writeMen f_X0_writeMen_0 nm
  dsimp only
  rw [hq, if_neg (by (first | omega | (simp (disch := omega) only [iI_le, iI_lt, iI_eq, iI_add, iI_sub, iI_mul, iI_neg, zm1, zm2, zm3, zm4, zm5, zm6, z0, z1, z2, z3, z4, z5, z6, z7, z8, z9, z10, z11, z12, z13, z14, z15, z20, z21, z22, z23, z24, z25, z30, z31, z33, z46, z48, z49, z57, z60, z62, z63, z64, z65, z70, z74, z75, z90, z96, z99, z102, z114, z115, z116, z117, z118, z126, z128, z236, z729, z999, z9999, z46656, z65537, z1000000] <;> omega))), z1, iI_sub]
  have f1' : lpx (st_X0_writeMen (iI w)) (d, iI w, iI ((Q : Int) - 1)) = some (setGu d g') := f1
  exact f1'
def selfP (s : Nat → Int) (g : Nat → Nat) (P : Nat) : Prop := ∃ p, p < P ∧ kdT s p = 0 ∧ lndP s g p = borP s p
theorem p_self {n : Nat} {s : Nat → Int} {P : Nat} (ht : tx n s) (hP : rds n s P) {g : Nat → Nat} (hg6 : ∀ i, g i < 6) {d : DS} (hr : rR d s P) (hd : gOk d s P g) : f_X0_lendsToHimself d = some (c01 (selfP s g P)) := by
  have hn := ht.1
  have hPn := rds_P ht hP
  have loop : ∀ k p, p + k = P → (∀ i, i < p → ¬ (kdT s i = 0 ∧ lndP s g i = borP s i)) → lpx (st_X0_lendsToHimself d) (iI p) = some (c01 (selfP s g P)) := by
    intro k
    induction k with
    | zero =>
      intro p hp h
      have : p = P := by omega
      subst this
      refine lpx_r ?_
      show f_X0_lendsToHimself_2 d _ = _
      unfold f_X0_lendsToHimself_2
      rw [hr.1, if_pos (by (first | omega | (simp (disch := omega) only [iI_le, iI_lt, iI_eq, iI_add, iI_sub, iI_mul, iI_neg, zm1, zm2, zm3, zm4, zm5, zm6, z0, z1, z2, z3, z4, z5, z6, z7, z8, z9, z10, z11, z12, z13, z14, z15, z20, z21, z22, z23, z24, z25, z30, z31, z33, z46, z48, z49, z57, z60, z62, z63, z64, z65, z70, z74, z75, z90, z96, z99, z102, z114, z115, z116, z117, z118, z126, z128, z236, z729, z999, z9999, z46656, z65537, z1000000] <;> omega))), c01_f]
      rintro ⟨i, h1, h2⟩
      exact h i h1 h2
    | succ k ih =>
      intro p hp h
      obtain ⟨r1, r2, r3, r4⟩ := hr.2.2 p (by omega)
      have r1 : d.2.1 p = iI (kdT s p) := r1
      by_cases c : kdT s p = 0
      · have hm := p_manOf ht hP hg6 hr hd (p := p) (by omega) (by omega)
        rcases pt_ok ht hP hg6 (p := p) (by omega) with ⟨a1, a2⟩ | ⟨a1, a2, a3, a4, a5⟩ | ⟨a1, a2, a3, a4, a5, a6, a7, a8, a9, a10⟩
        · omega
        · omega
        · by_cases c2 : lndP s g p = borP s p
          · refine lpx_r ?_
            show f_X0_lendsToHimself_2 d _ = _
            unfold f_X0_lendsToHimself_2
            rw [hr.1, if_neg (by (first | omega | (simp (disch := omega) only [iI_le, iI_lt, iI_eq, iI_add, iI_sub, iI_mul, iI_neg, zm1, zm2, zm3, zm4, zm5, zm6, z0, z1, z2, z3, z4, z5, z6, z7, z8, z9, z10, z11, z12, z13, z14, z15, z20, z21, z22, z23, z24, z25, z30, z31, z33, z46, z48, z49, z57, z60, z62, z63, z64, z65, z70, z74, z75, z90, z96, z99, z102, z114, z115, z116, z117, z118, z126, z128, z236, z729, z999, z9999, z46656, z65537, z1000000] <;> omega))), if_neg (by (first | omega | (simp (disch := omega) only [iI_le, iI_lt, iI_eq, iI_add, iI_sub, iI_mul, iI_neg, zm1, zm2, zm3, zm4, zm5, zm6, z0, z1, z2, z3, z4, z5, z6, z7, z8, z9, z10, z11, z12, z13, z14, z15, z20, z21, z22, z23, z24, z25, z30, z31, z33, z46, z48, z49, z57, z60, z62, z63, z64, z65, z70, z74, z75, z90, z96, z99, z102, z114, z115, z116, z117, z118, z126, z128, z236, z729, z999, z9999, z46656, z65537, z1000000] <;> omega))), ck_N (by omega) (by omega), cl_N (by omega), if_pos (by rw [r1, c]; rfl), r2, bn_i hm, r3, ← a7, if_pos (by rw [c2]), c01_t ⟨p, by omega, c, c2⟩]
          · refine (lpx_l ?_).trans (ih (p + 1) (by omega) (fun i hi => ?_))
            · show f_X0_lendsToHimself_2 d _ = _
              unfold f_X0_lendsToHimself_2 nm
              rw [hr.1, if_neg (by (first | omega | (simp (disch := omega) only [iI_le, iI_lt, iI_eq, iI_add, iI_sub, iI_mul, iI_neg, zm1, zm2, zm3, zm4, zm5, zm6, z0, z1, z2, z3, z4, z5, z6, z7, z8, z9, z10, z11, z12, z13, z14, z15, z20, z21, z22, z23, z24, z25, z30, z31, z33, z46, z48, z49, z57, z60, z62, z63, z64, z65, z70, z74, z75, z90, z96, z99, z102, z114, z115, z116, z117, z118, z126, z128, z236, z729, z999, z9999, z46656, z65537, z1000000] <;> omega))), if_neg (by (first | omega | (simp (disch := omega) only [iI_le, iI_lt, iI_eq, iI_add, iI_sub, iI_mul, iI_neg, zm1, zm2, zm3, zm4, zm5, zm6, z0, z1, z2, z3, z4, z5, z6, z7, z8, z9, z10, z11, z12, z13, z14, z15, z20, z21, z22, z23, z24, z25, z30, z31, z33, z46, z48, z49, z57, z60, z62, z63, z64, z65, z70, z74, z75, z90, z96, z99, z102, z114, z115, z116, z117, z118, z126, z128, z236, z729, z999, z9999, z46656, z65537, z1000000] <;> omega))), ck_N (by omega) (by omega), cl_N (by omega), if_pos (by rw [r1, c]; rfl), r2, bn_i hm, r3, ← a7, if_neg (by (first | omega | (simp (disch := omega) only [iI_le, iI_lt, iI_eq, iI_add, iI_sub, iI_mul, iI_neg, zm1, zm2, zm3, zm4, zm5, zm6, z0, z1, z2, z3, z4, z5, z6, z7, z8, z9, z10, z11, z12, z13, z14, z15, z20, z21, z22, z23, z24, z25, z30, z31, z33, z46, z48, z49, z57, z60, z62, z63, z64, z65, z70, z74, z75, z90, z96, z99, z102, z114, z115, z116, z117, z118, z126, z128, z236, z729, z999, z9999, z46656, z65537, z1000000] <;> omega))), iI_s]
            · by_cases e : i = p
              · subst e; exact fun q => c2 q.2
              · exact h i (by omega)
      · have hk : kdT s p = 1 ∨ kdT s p = 2 := by
          rcases pt_ok ht hP hg6 (p := p) (by omega) with ⟨a1, a2⟩ | ⟨a1, a2, a3, a4, a5⟩ | ⟨a1, a2, a3, a4, a5, a6, a7, a8, a9, a10⟩ <;> omega
        refine (lpx_l ?_).trans (ih (p + 1) (by omega) (fun i hi => ?_))
        · show f_X0_lendsToHimself_2 d _ = _
          unfold f_X0_lendsToHimself_2 nm
          rw [hr.1, if_neg (by (first | omega | (simp (disch := omega) only [iI_le, iI_lt, iI_eq, iI_add, iI_sub, iI_mul, iI_neg, zm1, zm2, zm3, zm4, zm5, zm6, z0, z1, z2, z3, z4, z5, z6, z7, z8, z9, z10, z11, z12, z13, z14, z15, z20, z21, z22, z23, z24, z25, z30, z31, z33, z46, z48, z49, z57, z60, z62, z63, z64, z65, z70, z74, z75, z90, z96, z99, z102, z114, z115, z116, z117, z118, z126, z128, z236, z729, z999, z9999, z46656, z65537, z1000000] <;> omega))), if_neg (by (first | omega | (simp (disch := omega) only [iI_le, iI_lt, iI_eq, iI_add, iI_sub, iI_mul, iI_neg, zm1, zm2, zm3, zm4, zm5, zm6, z0, z1, z2, z3, z4, z5, z6, z7, z8, z9, z10, z11, z12, z13, z14, z15, z20, z21, z22, z23, z24, z25, z30, z31, z33, z46, z48, z49, z57, z60, z62, z63, z64, z65, z70, z74, z75, z90, z96, z99, z102, z114, z115, z116, z117, z118, z126, z128, z236, z729, z999, z9999, z46656, z65537, z1000000] <;> omega))), ck_N (by omega) (by omega), cl_N (by omega), if_neg (by rw [r1]; (first | omega | (simp (disch := omega) only [iI_le, iI_lt, iI_eq, iI_add, iI_sub, iI_mul, iI_neg, zm1, zm2, zm3, zm4, zm5, zm6, z0, z1, z2, z3, z4, z5, z6, z7, z8, z9, z10, z11, z12, z13, z14, z15, z20, z21, z22, z23, z24, z25, z30, z31, z33, z46, z48, z49, z57, z60, z62, z63, z64, z65, z70, z74, z75, z90, z96, z99, z102, z114, z115, z116, z117, z118, z126, z128, z236, z729, z999, z9999, z46656, z65537, z1000000] <;> omega))), iI_s]
        · by_cases e : i = p
          · subst e; exact fun q => c q.1
          · exact h i (by omega)
  exact loop P 0 (by omega) (fun i hi => absurd hi (by omega))
def sOk (F : FA) (S : SV) : Prop := ∀ i, i < F.2.2.2.2.1 → mon S (F.2.2.2.2.2.1 i).toNat = F.2.2.2.2.2.2 i
theorem p_sightsHold {v : VS} {F : FA} {T : SV × Int} {N : Nat} {B : Int} (hv : rFV v (fT F T)) (hF : gF N F) (hG : gd B T.1) (hB : B ≤ 2000000) : f_X2_sightsHold v = some (c01 (sOk F T.1)) := by
  obtain ⟨g1, g2, g3, g4, g5, g6⟩ := hF
  have hs : v.2.2.2.2.2.2.2.1 = iI F.2.2.2.2.1 := hv.2.2.2.2.1
  have hrow : ∀ i, i < F.2.2.2.2.1 → v.2.2.2.2.2.1 i = iI (F.2.2.2.2.2.1 i) ∧ v.2.2.2.2.2.2.1 i = iI (F.2.2.2.2.2.2 i) := hv.2.2.2.2.2
  have hv1 : rV v T.1 := hv.1
  have loop : ∀ k i, i + k = F.2.2.2.2.1 → (∀ j, j < i → mon T.1 (F.2.2.2.2.2.1 j).toNat = F.2.2.2.2.2.2 j) → lpx (st_X2_sightsHold v) (iI i) = some (c01 (sOk F T.1)) := by
    intro k
    induction k with
    | zero =>
      intro i hi h
      refine lpx_r ?_
      show f_X2_sightsHold_2 v _ = _
      unfold f_X2_sightsHold_2
      rw [hs, if_pos (by (first | omega | (simp (disch := omega) only [iI_le, iI_lt, iI_eq, iI_add, iI_sub, iI_mul, iI_neg, zm1, zm2, zm3, zm4, zm5, zm6, z0, z1, z2, z3, z4, z5, z6, z7, z8, z9, z10, z11, z12, z13, z14, z15, z20, z21, z22, z23, z24, z25, z30, z31, z33, z46, z48, z49, z57, z60, z62, z63, z64, z65, z70, z74, z75, z90, z96, z99, z102, z114, z115, z116, z117, z118, z126, z128, z236, z729, z999, z9999, z46656, z65537, z1000000] <;> omega))), c01_t]
      intro j hj
      exact h j (by omega)
    | succ k ih =>
      intro i hi h
      obtain ⟨q1, q2⟩ := hrow i (by omega)
      obtain ⟨p1, p2, p3, p4⟩ := g6 i (by omega)
      have hm6 : (F.2.2.2.2.2.1 i).toNat < 6 := by omega
      have hmi : F.2.2.2.2.2.1 i = ((F.2.2.2.2.2.1 i).toNat : Int) := by omega
      have hmb := hG.le hm6
      have hm0 := (hG.1 _ hm6).1
      by_cases c : mon T.1 (F.2.2.2.2.2.1 i).toNat = F.2.2.2.2.2.2 i
      · refine (lpx_l ?_).trans (ih (i + 1) (by omega) (fun j hj => ?_))
        · show f_X2_sightsHold_2 v _ = _
          unfold f_X2_sightsHold_2 nm
          rw [hs, if_neg (by (first | omega | (simp (disch := omega) only [iI_le, iI_lt, iI_eq, iI_add, iI_sub, iI_mul, iI_neg, zm1, zm2, zm3, zm4, zm5, zm6, z0, z1, z2, z3, z4, z5, z6, z7, z8, z9, z10, z11, z12, z13, z14, z15, z20, z21, z22, z23, z24, z25, z30, z31, z33, z46, z48, z49, z57, z60, z62, z63, z64, z65, z70, z74, z75, z90, z96, z99, z102, z114, z115, z116, z117, z118, z126, z128, z236, z729, z999, z9999, z46656, z65537, z1000000] <;> omega))), if_neg (by (first | omega | (simp (disch := omega) only [iI_le, iI_lt, iI_eq, iI_add, iI_sub, iI_mul, iI_neg, zm1, zm2, zm3, zm4, zm5, zm6, z0, z1, z2, z3, z4, z5, z6, z7, z8, z9, z10, z11, z12, z13, z14, z15, z20, z21, z22, z23, z24, z25, z30, z31, z33, z46, z48, z49, z57, z60, z62, z63, z64, z65, z70, z74, z75, z90, z96, z99, z102, z114, z115, z116, z117, z118, z126, z128, z236, z729, z999, z9999, z46656, z65537, z1000000] <;> omega))), ck_N (by omega) (by omega), cl_N (by omega), q1, q2, hmi, bn_i (p_purseOf hv1 hm6), if_pos (by rw [c]), iI_s]
        · by_cases e : j = i
          · subst e; exact c
          · exact h j (by omega)
      · refine lpx_r ?_
        show f_X2_sightsHold_2 v _ = _
        unfold f_X2_sightsHold_2
        rw [hs, if_neg (by (first | omega | (simp (disch := omega) only [iI_le, iI_lt, iI_eq, iI_add, iI_sub, iI_mul, iI_neg, zm1, zm2, zm3, zm4, zm5, zm6, z0, z1, z2, z3, z4, z5, z6, z7, z8, z9, z10, z11, z12, z13, z14, z15, z20, z21, z22, z23, z24, z25, z30, z31, z33, z46, z48, z49, z57, z60, z62, z63, z64, z65, z70, z74, z75, z90, z96, z99, z102, z114, z115, z116, z117, z118, z126, z128, z236, z729, z999, z9999, z46656, z65537, z1000000] <;> omega))), if_neg (by (first | omega | (simp (disch := omega) only [iI_le, iI_lt, iI_eq, iI_add, iI_sub, iI_mul, iI_neg, zm1, zm2, zm3, zm4, zm5, zm6, z0, z1, z2, z3, z4, z5, z6, z7, z8, z9, z10, z11, z12, z13, z14, z15, z20, z21, z22, z23, z24, z25, z30, z31, z33, z46, z48, z49, z57, z60, z62, z63, z64, z65, z70, z74, z75, z90, z96, z99, z102, z114, z115, z116, z117, z118, z126, z128, z236, z729, z999, z9999, z46656, z65537, z1000000] <;> omega))), ck_N (by omega) (by omega), cl_N (by omega), q1, q2, hmi, bn_i (p_purseOf hv1 hm6), if_neg (by (first | omega | (simp (disch := omega) only [iI_le, iI_lt, iI_eq, iI_add, iI_sub, iI_mul, iI_neg, zm1, zm2, zm3, zm4, zm5, zm6, z0, z1, z2, z3, z4, z5, z6, z7, z8, z9, z10, z11, z12, z13, z14, z15, z20, z21, z22, z23, z24, z25, z30, z31, z33, z46, z48, z49, z57, z60, z62, z63, z64, z65, z70, z74, z75, z90, z96, z99, z102, z114, z115, z116, z117, z118, z126, z128, z236, z729, z999, z9999, z46656, z65537, z1000000] <;> omega))), c01_f (fun q => c (q i (by omega)))]
  exact loop F.2.2.2.2.1 0 (by omega) (fun j hj => absurd hj (by omega))
noncomputable def fitT (F : FA) (s : Nat → Int) (P code : Nat) : Prop := ff (wy F.2.1 F.2.2.1 s (gC (pl s P).2 code) (F.1, F.2.2.2.1)) P 0 = P ∧ sOk F (gs F.2.1 F.2.2.1 s (gC (pl s P).2 code) (F.1, F.2.2.2.1) P).1
theorem ff_self {L r : Int} {s : Nat → Int} {g : Nat → Nat} {T0 : SV × Int} {P : Nat} (h : ff (wy L r s g T0) P 0 = P) : ¬ selfP s g P := by
  rintro ⟨p, h1, h2, h3⟩
  have := (ff_rng (wy L r s g T0) P 0).2.2.2 p (by omega) (by omega)
  unfold wy whyS at this
  rw [if_neg (by omega), if_neg (by omega), if_pos h3] at this
  omega
noncomputable def cntW (q : Nat → Prop) : Nat → Nat
  | 0 => 0
  | w + 1 => @ite _ (q w) (Classical.propDecidable _) (cntW q w + 1) (cntW q w)
noncomputable def fstW (q : Nat → Prop) : Nat → Int
  | 0 => -6
  | w + 1 => @ite _ (q w ∧ fstW q w = -6) (Classical.propDecidable _) (w : Int) (fstW q w)
theorem cntW_y {q : Nat → Prop} {w : Nat} (h : q w) : cntW q (w + 1) = cntW q w + 1 := if_pos h
theorem cntW_n {q : Nat → Prop} {w : Nat} (h : ¬ q w) : cntW q (w + 1) = cntW q w := if_neg h
theorem fstW_y {q : Nat → Prop} {w : Nat} (h : q w) (h2 : fstW q w = -6) : fstW q (w + 1) = w := if_pos ⟨h, h2⟩
theorem fstW_n {q : Nat → Prop} {w : Nat} (h : ¬ (q w ∧ fstW q w = -6)) : fstW q (w + 1) = fstW q w := if_neg h
theorem fstW_rng (q : Nat → Prop) : ∀ w, fstW q w = -6 ∨ 0 ≤ fstW q w ∧ fstW q w < w
  | 0 => Or.inl rfl
  | w + 1 => by
    have ih := fstW_rng q w
    by_cases c : q w ∧ fstW q w = -6
    · rw [fstW_y c.1 c.2]; exact Or.inr ⟨by omega, by omega⟩
    · rw [fstW_n c]
      rcases ih with h | h
      · exact Or.inl h
      · exact Or.inr ⟨h.1, by omega⟩
theorem fill_c {n : Nat} {s : Nat → Int} {P : Nat} (ht : tx n s) (hP : rds n s P) {N : Nat} (hN : N ≤ 512) {F : FA} (hG : gF N F) {v1 : VS} (hv : rFV v1 F) {M : Nat} (hM : M ≤ 216) (x1 : Int32) : ∀ (k w : Nat) (v : VS) (d : DS), w + k = M → rR d s P → tD d n s → ∃ v' d', lpx (st_X3_filled v1 x1) (v, d, iI M, iI (fstW (fitT F s P) w), iI (cntW (fitT F s P) w), iI w) = lpx (st_X3_filled v1 x1) (v', d', iI M, iI (fstW (fitT F s P) M), iI (cntW (fitT F s P) M), iI M) ∧ rR d' s P ∧ tD d' n s := by
  have h3 := (rds_q ht hP P (Nat.le_refl _)).2
  intro k
  induction k with
  | zero =>
    intro w v d hw hr hd
    have : w = M := by omega
    subst this
    exact ⟨v, d, rfl, hr, hd⟩
  | succ k ih =>
    intro w v d hw hr hd
    obtain ⟨g, e1, e2⟩ := p_writeMen hr.2.1 h3 (w := w) (by omega)
    have hr' : rR (setGu d g) s P := hr
    have hd' : tD (setGu d g) n s := hd
    have hgk : gOk (setGu d g) s P (gC (pl s P).2 w) := e2
    have hse := p_self ht hP (gC_6 _ w) hr' hgk
    have hrg := fstW_rng (fitT F s P) w
    by_cases c1 : selfP s (gC (pl s P).2 w) P
    · have hnf : ¬ fitT F s P w := fun q => ff_self q.1 c1
      obtain ⟨v', d', f1, f2, f3⟩ := ih (w + 1) v (setGu d g) (by omega) hr' hd'
      refine ⟨v', d', (lpx_l ?_).trans f1, f2, f3⟩
      show f_X3_filled_32 v1 x1 _ _ _ _ _ _ = _
      unfold f_X3_filled_32 nm
      rw [if_neg (by (first | omega | (simp (disch := omega) only [iI_le, iI_lt, iI_eq, iI_add, iI_sub, iI_mul, iI_neg, zm1, zm2, zm3, zm4, zm5, zm6, z0, z1, z2, z3, z4, z5, z6, z7, z8, z9, z10, z11, z12, z13, z14, z15, z20, z21, z22, z23, z24, z25, z30, z31, z33, z46, z48, z49, z57, z60, z62, z63, z64, z65, z70, z74, z75, z90, z96, z99, z102, z114, z115, z116, z117, z118, z126, z128, z236, z729, z999, z9999, z46656, z65537, z1000000] <;> omega))), bn_i e1, bn_i hse, c01_t c1, if_neg n10, iI_s, fstW_n (fun q => hnf q.1), cntW_n hnf]
    · obtain ⟨y, v2, p1, p2, p3⟩ := p_perform ht hP (gC_6 (pl s P).2 w) hN hG (fun p h1 h2 h4 => c1 ⟨p, h1, h2, h4⟩) hv (v2 := v) hr' hgk
      have hR := ff_rng (wy F.2.1 F.2.2.1 s (gC (pl s P).2 w) (F.1, F.2.2.2.1)) P 0
      have hPn := rds_P ht hP
      have hn := ht.1
      by_cases c2 : ff (wy F.2.1 F.2.2.1 s (gC (pl s P).2 w) (F.1, F.2.2.2.1)) P 0 = P
      · have hgd := (gs_ok ht hP (gC_6 (pl s P).2 w) (L := F.2.1) hG.2.2.1 (T0 := (F.1, F.2.2.2.1)) (gF_B hG hN) P (Nat.le_refl _) (fun i hi => hR.2.2.2 i (by omega) (by omega))).1
        rw [c2] at p1 p2
        have hrz : rz P P = -6 := by unfold rz; rw [if_pos rfl]
        rw [hrz] at p1
        have hsh := p_sightsHold p2 hG hgd (by omega)
        by_cases c3 : sOk F (gs F.2.1 F.2.2.1 s (gC (pl s P).2 w) (F.1, F.2.2.2.1) P).1
        · have hf : fitT F s P w := ⟨c2, c3⟩
          obtain ⟨v', d', f1, f2, f3⟩ := ih (w + 1) v2 (setW (setGu d g) y) (by omega) hr' hd'
          refine ⟨v', d', (lpx_l ?_).trans f1, f2, f3⟩
          show f_X3_filled_32 v1 x1 _ _ _ _ _ _ = _
          unfold f_X3_filled_32 nm
          rw [if_neg (by (first | omega | (simp (disch := omega) only [iI_le, iI_lt, iI_eq, iI_add, iI_sub, iI_mul, iI_neg, zm1, zm2, zm3, zm4, zm5, zm6, z0, z1, z2, z3, z4, z5, z6, z7, z8, z9, z10, z11, z12, z13, z14, z15, z20, z21, z22, z23, z24, z25, z30, z31, z33, z46, z48, z49, z57, z60, z62, z63, z64, z65, z70, z74, z75, z90, z96, z99, z102, z114, z115, z116, z117, z118, z126, z128, z236, z729, z999, z9999, z46656, z65537, z1000000] <;> omega))), bn_i e1, bn_i hse, c01_f c1, if_pos rfl, bn_i p1]
          dsimp only
          rw [if_pos zm6.symm, bn_i hsh, c01_t c3, if_neg n10, iI_s (w), iI_s (cntW (fitT F s P) w), cntW_y hf]
          by_cases c4 : fstW (fitT F s P) w = -6
          · rw [if_pos (by rw [c4]; rfl), fstW_y hf c4]
          · rw [if_neg (by (first | omega | (simp (disch := omega) only [iI_le, iI_lt, iI_eq, iI_add, iI_sub, iI_mul, iI_neg, zm1, zm2, zm3, zm4, zm5, zm6, z0, z1, z2, z3, z4, z5, z6, z7, z8, z9, z10, z11, z12, z13, z14, z15, z20, z21, z22, z23, z24, z25, z30, z31, z33, z46, z48, z49, z57, z60, z62, z63, z64, z65, z70, z74, z75, z90, z96, z99, z102, z114, z115, z116, z117, z118, z126, z128, z236, z729, z999, z9999, z46656, z65537, z1000000] <;> omega))), fstW_n (fun q => c4 q.2)]
        · have hnf : ¬ fitT F s P w := fun q => c3 q.2
          obtain ⟨v', d', f1, f2, f3⟩ := ih (w + 1) v2 (setW (setGu d g) y) (by omega) hr' hd'
          refine ⟨v', d', (lpx_l ?_).trans f1, f2, f3⟩
          show f_X3_filled_32 v1 x1 _ _ _ _ _ _ = _
          unfold f_X3_filled_32 nm
          rw [if_neg (by (first | omega | (simp (disch := omega) only [iI_le, iI_lt, iI_eq, iI_add, iI_sub, iI_mul, iI_neg, zm1, zm2, zm3, zm4, zm5, zm6, z0, z1, z2, z3, z4, z5, z6, z7, z8, z9, z10, z11, z12, z13, z14, z15, z20, z21, z22, z23, z24, z25, z30, z31, z33, z46, z48, z49, z57, z60, z62, z63, z64, z65, z70, z74, z75, z90, z96, z99, z102, z114, z115, z116, z117, z118, z126, z128, z236, z729, z999, z9999, z46656, z65537, z1000000] <;> omega))), bn_i e1, bn_i hse, c01_f c1, if_pos rfl, bn_i p1]
          dsimp only
          rw [if_pos zm6.symm, bn_i hsh, c01_f c3, if_pos rfl, iI_s, fstW_n (fun q => hnf q.1), cntW_n hnf]
      · have hnf : ¬ fitT F s P w := fun q => c2 q.1
        have hrz : rz P (ff (wy F.2.1 F.2.2.1 s (gC (pl s P).2 w) (F.1, F.2.2.2.1)) P 0) = (ff (wy F.2.1 F.2.2.1 s (gC (pl s P).2 w) (F.1, F.2.2.2.1)) P 0 : Nat) := by unfold rz; rw [if_neg c2]
        rw [hrz] at p1
        obtain ⟨v', d', f1, f2, f3⟩ := ih (w + 1) v2 (setW (setGu d g) y) (by omega) hr' hd'
        refine ⟨v', d', (lpx_l ?_).trans f1, f2, f3⟩
        show f_X3_filled_32 v1 x1 _ _ _ _ _ _ = _
        unfold f_X3_filled_32 nm
        rw [if_neg (by (first | omega | (simp (disch := omega) only [iI_le, iI_lt, iI_eq, iI_add, iI_sub, iI_mul, iI_neg, zm1, zm2, zm3, zm4, zm5, zm6, z0, z1, z2, z3, z4, z5, z6, z7, z8, z9, z10, z11, z12, z13, z14, z15, z20, z21, z22, z23, z24, z25, z30, z31, z33, z46, z48, z49, z57, z60, z62, z63, z64, z65, z70, z74, z75, z90, z96, z99, z102, z114, z115, z116, z117, z118, z126, z128, z236, z729, z999, z9999, z46656, z65537, z1000000] <;> omega))), bn_i e1, bn_i hse, c01_f c1, if_pos rfl, bn_i p1]
        dsimp only
        rw [if_neg (by (first | omega | (simp (disch := omega) only [iI_le, iI_lt, iI_eq, iI_add, iI_sub, iI_mul, iI_neg, zm1, zm2, zm3, zm4, zm5, zm6, z0, z1, z2, z3, z4, z5, z6, z7, z8, z9, z10, z11, z12, z13, z14, z15, z20, z21, z22, z23, z24, z25, z30, z31, z33, z46, z48, z49, z57, z60, z62, z63, z64, z65, z70, z74, z75, z90, z96, z99, z102, z114, z115, z116, z117, z118, z126, z128, z236, z729, z999, z9999, z46656, z65537, z1000000] <;> omega))), iI_s (w), fstW_n (fun q => hnf q.1), cntW_n hnf]
/-- the reference: does a filling fit -/
theorem fit_loop {u : MS} {F : FA} {N : Nat} {S : SV} {B : Int} (hG : gF N F) (hm : rFM u F) (hS : gd B S) (hB : B ≤ 2000000) (x1 d : Int32) {a b c : AI} (hr : rM a b c S) (p w : Int32) : ∀ k i, i + k = F.2.2.2.2.1 → (∀ j, j < i → mon S (F.2.2.2.2.2.1 j).toNat = F.2.2.2.2.2.2 j) → lpx (st_X4_isFit x1) (setG u d a b c p w, 1, iI i) = some (c01 (sOk F S), setG u d a b c p w) := by
  obtain ⟨g1, g2, g3, g4, g5, g6⟩ := hG
  obtain ⟨m1, m2, m3, m4, m5, m6⟩ := hm
  intro k
  induction k with
  | zero =>
    intro i hi h
    refine lpx_r ?_
    show f_X4_isFit_16 x1 _ _ _ = _
    unfold f_X4_isFit_16
    dsimp only
    rw [m5, if_pos (by (first | omega | (simp (disch := omega) only [iI_le, iI_lt, iI_eq, iI_add, iI_sub, iI_mul, iI_neg, zm1, zm2, zm3, zm4, zm5, zm6, z0, z1, z2, z3, z4, z5, z6, z7, z8, z9, z10, z11, z12, z13, z14, z15, z20, z21, z22, z23, z24, z25, z30, z31, z33, z46, z48, z49, z57, z60, z62, z63, z64, z65, z70, z74, z75, z90, z96, z99, z102, z114, z115, z116, z117, z118, z126, z128, z236, z729, z999, z9999, z46656, z65537, z1000000] <;> omega))), c01_t (show sOk F S from fun j hj => h j (by omega))]
    rfl
  | succ k ih =>
    intro i hi h
    obtain ⟨q1, q2⟩ := m6 i (by omega)
    obtain ⟨p1, p2, p3, p4⟩ := g6 i (by omega)
    have hm6 : (F.2.2.2.2.2.1 i).toNat < 6 := by omega
    have hmi : F.2.2.2.2.2.1 i = ((F.2.2.2.2.2.1 i).toNat : Int) := by omega
    have hmb := hS.le hm6
    have hm0 := (hS.1 _ hm6).1
    have ha : a (F.2.2.2.2.2.1 i).toNat = iI (mon S (F.2.2.2.2.2.1 i).toNat) := (hr _ hm6).1
    have e2i : (2 : Int32) * iI (i : Int) = iI ((2 * i : Nat) : Int) := by
      rw [z2, iI_mul]
      congr 1
    have hst : st_X4_isFit x1 (setG u d a b c p w, 1, iI i) = if a (F.2.2.2.2.2.1 i).toNat = iI (F.2.2.2.2.2.2 i) then some (.inl (setG u d a b c p w, 1, iI ((i + 1 : Nat) : Int))) else some (.inl (setG u d a b c p w, 0, iI ((i + 1 : Nat) : Int))) := by
      show f_X4_isFit_16 x1 _ _ _ = _
      unfold f_X4_isFit_16 nm
      dsimp only
      rw [m5, if_neg (by (first | omega | (simp (disch := omega) only [iI_le, iI_lt, iI_eq, iI_add, iI_sub, iI_mul, iI_neg, zm1, zm2, zm3, zm4, zm5, zm6, z0, z1, z2, z3, z4, z5, z6, z7, z8, z9, z10, z11, z12, z13, z14, z15, z20, z21, z22, z23, z24, z25, z30, z31, z33, z46, z48, z49, z57, z60, z62, z63, z64, z65, z70, z74, z75, z90, z96, z99, z102, z114, z115, z116, z117, z118, z126, z128, z236, z729, z999, z9999, z46656, z65537, z1000000] <;> omega))), if_neg n10, e2i, iI_s (2 * i), ck_N (by omega) (by omega), cl_N (by omega), q1, hmi, ck_N hm6 (by omega), cl_N (by omega), ck_N (by omega) (by omega), cl_N (by omega), q2, iI_s (i), Int.toNat_natCast]
    by_cases c0 : mon S (F.2.2.2.2.2.1 i).toNat = F.2.2.2.2.2.2 i
    · rw [if_pos (by rw [ha, c0])] at hst
      refine (lpx_l hst).trans (ih (i + 1) (by omega) (fun j hj => ?_))
      by_cases e : j = i
      · subst e; exact c0
      · exact h j (by omega)
    · rw [if_neg (by rw [ha]; (first | omega | (simp (disch := omega) only [iI_le, iI_lt, iI_eq, iI_add, iI_sub, iI_mul, iI_neg, zm1, zm2, zm3, zm4, zm5, zm6, z0, z1, z2, z3, z4, z5, z6, z7, z8, z9, z10, z11, z12, z13, z14, z15, z20, z21, z22, z23, z24, z25, z30, z31, z33, z46, z48, z49, z57, z60, z62, z63, z64, z65, z70, z74, z75, z90, z96, z99, z102, z114, z115, z116, z117, z118, z126, z128, z236, z729, z999, z9999, z46656, z65537, z1000000] <;> omega)))] at hst
      rw [lpx_l hst, c01_f (fun q => c0 (q i (by omega)))]
      refine lpx_r ?_
      show f_X4_isFit_16 x1 _ _ _ = _
      unfold f_X4_isFit_16
      dsimp only
      rw [if_pos (rfl : (0 : Int32) = 0)]
      split <;> rfl
theorem p_isFit {n : Nat} {s : Nat → Int} {P : Nat} (ht : tx n s) (hP : rds n s P) (hend : n ≤ (pl s P).1) {u : MS} (hu : tM u n s) {N : Nat} (hN : N ≤ 512) {F : FA} (hG : gF N F) (hm : rFM u F) {code : Nat} (hco : code < 1000) : ∃ d a b c p w, f_X4_isFit u (iI code) = some (c01 (fitT F s P code), setG u d a b c p w) := by
  obtain ⟨a, b, c, w, e1, e2, e3⟩ := p_goText ht hP hend hu hN hG hm hco
  have hR := ff_rng (wy F.2.1 F.2.2.1 s (gC (pl s P).2 code) (F.1, F.2.2.2.1)) P 0
  have hPn := rds_P ht hP
  have hn := ht.1
  by_cases c2 : ff (wy F.2.1 F.2.2.1 s (gC (pl s P).2 code) (F.1, F.2.2.2.1)) P 0 = P
  · have hgd := (gs_ok ht hP (gC_6 (pl s P).2 code) (L := F.2.1) hG.2.2.1 (T0 := (F.1, F.2.2.2.1)) (gF_B hG hN) P (Nat.le_refl _) (fun i hi => hR.2.2.2 i (by omega) (by omega))).1
    have hrz : rz P P = -6 := by unfold rz; rw [if_pos rfl]
    rw [c2] at e1 e2
    rw [hrz] at e1
    have f1 := fit_loop hG hm hgd (by omega) (iI code) (iI (gs F.2.1 F.2.2.1 s (gC (pl s P).2 code) (F.1, F.2.2.2.1) P).2) e2 (iI P) w F.2.2.2.2.1 0 (by omega) (fun j hj => absurd hj (by omega))
    have hc : c01 (fitT F s P code) = c01 (sOk F (gs F.2.1 F.2.2.1 s (gC (pl s P).2 code) (F.1, F.2.2.2.1) P).1) := by
      by_cases c3 : sOk F (gs F.2.1 F.2.2.1 s (gC (pl s P).2 code) (F.1, F.2.2.2.1) P).1
      · rw [c01_t c3, c01_t (show fitT F s P code from ⟨c2, c3⟩)]
      · rw [c01_f c3, c01_f (show ¬ fitT F s P code from fun q => c3 q.2)]
    have key : f_X4_isFit u (iI code) = some (c01 (sOk F (gs F.2.1 F.2.2.1 s (gC (pl s P).2 code) (F.1, F.2.2.2.1) P).1), setG u (iI (gs F.2.1 F.2.2.1 s (gC (pl s P).2 code) (F.1, F.2.2.2.1) P).2) a b c (iI P) w) := by
      unfold f_X4_isFit f_X4_isFit_0
      rw [bn_i e1]
      dsimp only
      rw [if_neg (show ¬ (0 : Int32) ≤ iI (-6) by decide)]
      exact f1
    rw [hc]
    exact ⟨_, _, _, _, _, _, key⟩
  · have hnf : ¬ fitT F s P code := fun q => c2 q.1
    have hrz : rz P (ff (wy F.2.1 F.2.2.1 s (gC (pl s P).2 code) (F.1, F.2.2.2.1)) P 0) = (ff (wy F.2.1 F.2.2.1 s (gC (pl s P).2 code) (F.1, F.2.2.2.1)) P 0 : Nat) := by unfold rz; rw [if_neg c2]
    rw [hrz] at e1
    generalize ff (wy F.2.1 F.2.2.1 s (gC (pl s P).2 code) (F.1, F.2.2.2.1)) P 0 = R at *
    have key : f_X4_isFit u (iI code) = some (0, setG u (iI (gs F.2.1 F.2.2.1 s (gC (pl s P).2 code) (F.1, F.2.2.2.1) R).2) a b c (iI R) w) := by
      unfold f_X4_isFit f_X4_isFit_0
      rw [bn_i e1]
      dsimp only
      rw [if_pos (by (first | omega | (simp (disch := omega) only [iI_le, iI_lt, iI_eq, iI_add, iI_sub, iI_mul, iI_neg, zm1, zm2, zm3, zm4, zm5, zm6, z0, z1, z2, z3, z4, z5, z6, z7, z8, z9, z10, z11, z12, z13, z14, z15, z20, z21, z22, z23, z24, z25, z30, z31, z33, z46, z48, z49, z57, z60, z62, z63, z64, z65, z70, z74, z75, z90, z96, z99, z102, z114, z115, z116, z117, z118, z126, z128, z236, z729, z999, z9999, z46656, z65537, z1000000] <;> omega)))]
      refine lpx_r ?_
      show f_X4_isFit_16 _ _ _ _ = _
      unfold f_X4_isFit_16
      dsimp only
      rw [if_pos (rfl : (0 : Int32) = 0)]
      split <;> rfl
    rw [c01_f (show ¬ fitT F s P code from hnf)]
    exact ⟨_, _, _, _, _, _, key⟩
theorem fill_m {n : Nat} {s : Nat → Int} {P : Nat} (ht : tx n s) (hP : rds n s P) (hend : n ≤ (pl s P).1) {u : MS} (hu : tM u n s) {N : Nat} (hN : N ≤ 512) {F : FA} (hG : gF N F) (hm : rFM u F) {M : Nat} (hM : M ≤ 216) (x1 : Int32) : ∀ (k w : Nat) (d : Int32) (a b c : AI) (p y : Int32), w + k = M → ∃ d' a' b' c' p' y', lpx (st_X4_filled x1) (.inr (.inl (setG u d a b c p y, iI M, iI (cntW (fitT F s P) w), iI (fstW (fitT F s P) w), iI w))) = lpx (st_X4_filled x1) (.inr (.inl (setG u d' a' b' c' p' y', iI M, iI (cntW (fitT F s P) M), iI (fstW (fitT F s P) M), iI M))) := by
  intro k
  induction k with
  | zero =>
    intro w d a b c p y hw
    have : w = M := by omega
    subst this
    exact ⟨_, _, _, _, _, _, rfl⟩
  | succ k ih =>
    intro w d a b c p y hw
    obtain ⟨d1, a1, b1, c1, p1, y1, e1⟩ := p_isFit (u := setG u d a b c p y) ht hP hend hu hN hG hm (code := w) (by omega)
    obtain ⟨d2, a2, b2, c2, p2, y2, f1⟩ := ih (w + 1) d1 a1 b1 c1 p1 y1 (by omega)
    refine ⟨d2, a2, b2, c2, p2, y2, (lpx_l ?_).trans f1⟩
    have hrg := fstW_rng (fitT F s P) w
    show f_X4_filled_42 x1 _ _ _ _ _ = _
    unfold f_X4_filled_42 nm
    rw [if_neg (by (first | omega | (simp (disch := omega) only [iI_le, iI_lt, iI_eq, iI_add, iI_sub, iI_mul, iI_neg, zm1, zm2, zm3, zm4, zm5, zm6, z0, z1, z2, z3, z4, z5, z6, z7, z8, z9, z10, z11, z12, z13, z14, z15, z20, z21, z22, z23, z24, z25, z30, z31, z33, z46, z48, z49, z57, z60, z62, z63, z64, z65, z70, z74, z75, z90, z96, z99, z102, z114, z115, z116, z117, z118, z126, z128, z236, z729, z999, z9999, z46656, z65537, z1000000] <;> omega))), bn_i e1]
    dsimp only
    by_cases c3 : fitT F s P w
    · rw [c01_t c3, if_neg n10, iI_s (w), iI_s (cntW (fitT F s P) w), cntW_y c3]
      by_cases c4 : fstW (fitT F s P) w = -6
      · rw [if_neg (by rw [c4]; decide), fstW_y c3 c4]
      · rw [if_pos (by (first | omega | (simp (disch := omega) only [iI_le, iI_lt, iI_eq, iI_add, iI_sub, iI_mul, iI_neg, zm1, zm2, zm3, zm4, zm5, zm6, z0, z1, z2, z3, z4, z5, z6, z7, z8, z9, z10, z11, z12, z13, z14, z15, z20, z21, z22, z23, z24, z25, z30, z31, z33, z46, z48, z49, z57, z60, z62, z63, z64, z65, z70, z74, z75, z90, z96, z99, z102, z114, z115, z116, z117, z118, z126, z128, z236, z729, z999, z9999, z46656, z65537, z1000000] <;> omega))), fstW_n (fun q => c4 q.2)]
    · rw [c01_f c3, if_pos rfl, iI_s (w), fstW_n (fun q => c3 q.1), cntW_n c3]
theorem fill_codes {n : Nat} {s : Nat → Int} (ht : tx n s) {u : MS} (hu : tM u n s) {Q : Nat} (hQ : cq s n = Q) (hQ3 : Q ≤ 3) (x1 : Int32) : ∀ k i, i + k = Q → lpx (st_X4_filled x1) (.inl (u, iI ((6 ^ i : Nat) : Int), iI i)) = lpx (st_X4_filled x1) (.inr (.inl (u, iI ((6 ^ Q : Nat) : Int), 0, -6, 0))) := by
  intro k
  have ho := p_opens hu ht
  rw [hQ] at ho
  induction k with
  | zero =>
    intro i hi
    have : i = Q := by omega
    subst this
    refine lpx_l ?_
    show f_X4_filled_14 x1 _ _ _ = _
    unfold f_X4_filled_14
    rw [bn_i ho, if_pos (by (first | omega | (simp (disch := omega) only [iI_le, iI_lt, iI_eq, iI_add, iI_sub, iI_mul, iI_neg, zm1, zm2, zm3, zm4, zm5, zm6, z0, z1, z2, z3, z4, z5, z6, z7, z8, z9, z10, z11, z12, z13, z14, z15, z20, z21, z22, z23, z24, z25, z30, z31, z33, z46, z48, z49, z57, z60, z62, z63, z64, z65, z70, z74, z75, z90, z96, z99, z102, z114, z115, z116, z117, z118, z126, z128, z236, z729, z999, z9999, z46656, z65537, z1000000] <;> omega)))]
  | succ k ih =>
    intro i hi
    refine (lpx_l ?_).trans (ih (i + 1) (by omega))
    show f_X4_filled_14 x1 _ _ _ = _
    unfold f_X4_filled_14 nm
    rw [bn_i ho, if_neg (by (first | omega | (simp (disch := omega) only [iI_le, iI_lt, iI_eq, iI_add, iI_sub, iI_mul, iI_neg, zm1, zm2, zm3, zm4, zm5, zm6, z0, z1, z2, z3, z4, z5, z6, z7, z8, z9, z10, z11, z12, z13, z14, z15, z20, z21, z22, z23, z24, z25, z30, z31, z33, z46, z48, z49, z57, z60, z62, z63, z64, z65, z70, z74, z75, z90, z96, z99, z102, z114, z115, z116, z117, z118, z126, z128, z236, z729, z999, z9999, z46656, z65537, z1000000] <;> omega))), iI_s, z6, iI_mul, Nat.pow_succ]
    rfl
theorem fill_left {u : MS} {Q f x : Nat} (hf : f < 1000) (hQ : Q ≤ 3) : ∀ k i, i = x + k → i < Q → lpx (st_X4_filled (iI x)) (.inr (.inr (u, iI ((f / 6 ^ (Q - 1 - i) : Nat) : Int), iI i))) = some (iI (gC Q f x), u) := by
  intro k
  induction k with
  | zero =>
    intro i hi hiQ
    have : i = x := by omega
    subst this
    have hle := Nat.div_le_self f (6 ^ (Q - 1 - i))
    refine lpx_r ?_
    show f_X4_filled_121 (iI i) _ _ _ = _
    unfold f_X4_filled_121 gC byF
    generalize hD : f / 6 ^ (Q - 1 - i) = D at *
    rw [if_pos (by (first | omega | (simp (disch := omega) only [iI_le, iI_lt, iI_eq, iI_add, iI_sub, iI_mul, iI_neg, zm1, zm2, zm3, zm4, zm5, zm6, z0, z1, z2, z3, z4, z5, z6, z7, z8, z9, z10, z11, z12, z13, z14, z15, z20, z21, z22, z23, z24, z25, z30, z31, z33, z46, z48, z49, z57, z60, z62, z63, z64, z65, z70, z74, z75, z90, z96, z99, z102, z114, z115, z116, z117, z118, z126, z128, z236, z729, z999, z9999, z46656, z65537, z1000000] <;> omega))), z6, iI_rem (by omega) (by omega) (by omega) (by omega)]
    rfl
  | succ k ih =>
    intro i hi hiQ
    have hle := Nat.div_le_self f (6 ^ (Q - 1 - i))
    have e1 : f / 6 ^ (Q - 1 - i) / 6 = f / 6 ^ (Q - 1 - (i - 1)) := by
      rw [Nat.div_div_eq_div_mul, ← Nat.pow_succ, show (Q - 1 - i).succ = Q - 1 - (i - 1) by omega]
    refine (lpx_l ?_).trans (ih (i - 1) (by omega) (by omega))
    show f_X4_filled_121 (iI x) _ _ _ = _
    unfold f_X4_filled_121 nm
    generalize hD : f / 6 ^ (Q - 1 - i) = D at *
    rw [if_neg (by (first | omega | (simp (disch := omega) only [iI_le, iI_lt, iI_eq, iI_add, iI_sub, iI_mul, iI_neg, zm1, zm2, zm3, zm4, zm5, zm6, z0, z1, z2, z3, z4, z5, z6, z7, z8, z9, z10, z11, z12, z13, z14, z15, z20, z21, z22, z23, z24, z25, z30, z31, z33, z46, z48, z49, z57, z60, z62, z63, z64, z65, z70, z74, z75, z90, z96, z99, z102, z114, z115, z116, z117, z118, z126, z128, z236, z729, z999, z9999, z46656, z65537, z1000000] <;> omega))), z6, iI_div (by omega) (by omega) (by omega) (by omega), zm1, iI_add, ← e1, show ((i : Int) + -1) = ((i - 1 : Nat) : Int) by omega]
    rfl
theorem case12 {N : Nat} (hN : N ≤ 512) {st : LSt} (h : Rel N st) (a1 : Int32) : ∃ st', ls_12 st a1 = some st' ∧ Rel (N + 1) st' := by
  obtain ⟨F, hv, hu, hG, hp, hk⟩ := id h
  obtain ⟨x, hx, rfl⟩ := iI_ex a1
  obtain ⟨n, s, ht, hd, hm⟩ := rP_tx hp
  obtain ⟨P, hP⟩ := rds_ex n s
  obtain ⟨b1, b2, b3, b4, e1, e2⟩ := p_read hd ht hP
  have hPn := rds_P ht hP
  have hn := ht.1
  unfold ls_12 f_X3_filled f_X4_filled f_X3_filled_0 f_X4_filled_0
  rw [bn_i e1, bn_i (p_faultOf hm ht hP)]
  dsimp only
  rcases resT_rng ht hP with ⟨q1, q2⟩ | ⟨q1, q2, q3⟩
  · obtain ⟨d1, d2, d3⟩ := rds_end ht hP q1
    have hM : ∀ Q, Q ≤ 3 → 6 ^ Q ≤ 216 := by decide
    have hM := hM _ d3
    rw [q2, if_pos zm6.symm, if_pos (show iI (-6) < 0 by decide), bn_i (p_guesses e2.2.1 d3)]
    obtain ⟨v', d', f1, f2, f3⟩ := fill_c ht hP hN hG hv hM (iI x) (6 ^ (pl s P).2) 0 st.2.2.1 _ (by omega) e2 (by exact hd)
    have g0 := fill_codes ht hm d2 d3 (iI x) _ 0 (Nat.zero_add _)
    obtain ⟨gd', ga, gb, gc, gp, gy, g1⟩ := fill_m ht hP q1 hm hN hG hu hM (iI x) (6 ^ (pl s P).2) 0 st.2.2.2.2.2.2.2.2.2.2.2.2.2.2.2.2.2.2.1 st.2.2.2.2.2.2.2.2.2.2.2.2.2.2.2.2.2.2.2.1 st.2.2.2.2.2.2.2.2.2.2.2.2.2.2.2.2.2.2.2.2.1 st.2.2.2.2.2.2.2.2.2.2.2.2.2.2.2.2.2.2.2.2.2.1 st.2.2.2.2.2.2.2.2.2.2.2.2.2.2.2.2.2.2.2.2.2.2.1 st.2.2.2.2.2.2.2.2.2.2.2.2.2.2.2.2.2.2.2.2.2.2.2.1 (by omega)
    have g2 := g0.trans g1
    have hrg := fstW_rng (fitT F s P) (6 ^ (pl s P).2)
    generalize hMM : 6 ^ (pl s P).2 = M at *
    generalize hf1 : fstW (fitT F s P) M = f at *
    generalize hc1 : cntW (fitT F s P) M = c at *
    have r1 : ∀ r, lpx (st_X3_filled st.2.1 (iI x)) (v', d', iI M, iI f, iI c, iI M) = some r → rnx (st_X3_filled st.2.1 (iI x)) (some (.inl (st.2.2.1, (st.2.2.2.2.2.1.1, b1, b2, b3, b4, st.2.2.2.2.2.1.2.2.2.2.2.1, st.2.2.2.2.2.1.2.2.2.2.2.2.1, iI P, iI ((pl s P).2 : Int), st.2.2.2.2.2.1.2.2.2.2.2.2.2.2.2), iI M, -6, 0, 0))) = some r := fun r hr => f1.trans hr
    have r2 : ∀ r, lpx (st_X4_filled (iI x)) (.inr (.inl (setG st.2.2.2.2.2.2.2.2 gd' ga gb gc gp gy, iI M, iI c, iI f, iI M))) = some r → rnx (st_X4_filled (iI x)) (some (.inl (.inl (st.2.2.2.2.2.2.2.2, 1, 0)))) = some r := fun r hr => g2.trans hr
    have fin : ∀ (y : Int32) (vv : VS) (dd : DS) (uu : MS), lpx (st_X3_filled st.2.1 (iI x)) (v', d', iI M, iI f, iI c, iI M) = some (y, vv, dd) → lpx (st_X4_filled (iI x)) (.inr (.inl (setG st.2.2.2.2.2.2.2.2 gd' ga gb gc gp gy, iI M, iI c, iI f, iI M))) = some (y, uu) → tD dd n s → uu = setG st.2.2.2.2.2.2.2.2 gd' ga gb gc gp gy → ∃ st', bn (rnx (st_X3_filled st.2.1 (iI x)) (some (.inl (st.2.2.1, (st.2.2.2.2.2.1.1, b1, b2, b3, b4, st.2.2.2.2.2.1.2.2.2.2.2.1, st.2.2.2.2.2.1.2.2.2.2.2.2.1, iI P, iI ((pl s P).2 : Int), st.2.2.2.2.2.1.2.2.2.2.2.2.2.2.2), iI M, -6, 0, 0)))) (fun r1 => bn (rnx (st_X4_filled (iI x)) (some (.inl (.inl (st.2.2.2.2.2.2.2.2, 1, 0))))) (fun r2 => if r1.1 = r2.1 then some (st.1, st.2.1, r1.2.1, st.2.2.2.1, st.2.2.2.2.1, r1.2.2, st.2.2.2.2.2.2.1, st.2.2.2.2.2.2.2.1, r2.2) else none)) = some st' ∧ Rel (N + 1) st' := by
      intro y vv dd uu w1 w2 w3 w4
      subst w4
      rw [bn_i (r1 _ w1), bn_i (r2 _ w2), if_pos rfl]
      exact ⟨_, rfl, F, hv, hu, gF_up hG, rP_of ht w3 (by exact hm), rK_up hk⟩
    by_cases c1 : x = -1
    · refine fin (iI c) v' d' _ (lpx_r ?_) (lpx_r ?_) f3 rfl
      · show f_X3_filled_32 _ _ _ _ _ _ _ _ = _
        unfold f_X3_filled_32
        rw [if_pos (by (first | omega | (simp (disch := omega) only [iI_le, iI_lt, iI_eq, iI_add, iI_sub, iI_mul, iI_neg, zm1, zm2, zm3, zm4, zm5, zm6, z0, z1, z2, z3, z4, z5, z6, z7, z8, z9, z10, z11, z12, z13, z14, z15, z20, z21, z22, z23, z24, z25, z30, z31, z33, z46, z48, z49, z57, z60, z62, z63, z64, z65, z70, z74, z75, z90, z96, z99, z102, z114, z115, z116, z117, z118, z126, z128, z236, z729, z999, z9999, z46656, z65537, z1000000] <;> omega))), if_pos (by (first | omega | (simp (disch := omega) only [iI_le, iI_lt, iI_eq, iI_add, iI_sub, iI_mul, iI_neg, zm1, zm2, zm3, zm4, zm5, zm6, z0, z1, z2, z3, z4, z5, z6, z7, z8, z9, z10, z11, z12, z13, z14, z15, z20, z21, z22, z23, z24, z25, z30, z31, z33, z46, z48, z49, z57, z60, z62, z63, z64, z65, z70, z74, z75, z90, z96, z99, z102, z114, z115, z116, z117, z118, z126, z128, z236, z729, z999, z9999, z46656, z65537, z1000000] <;> omega)))]
      · show f_X4_filled_42 _ _ _ _ _ _ = _
        unfold f_X4_filled_42
        rw [if_pos (by (first | omega | (simp (disch := omega) only [iI_le, iI_lt, iI_eq, iI_add, iI_sub, iI_mul, iI_neg, zm1, zm2, zm3, zm4, zm5, zm6, z0, z1, z2, z3, z4, z5, z6, z7, z8, z9, z10, z11, z12, z13, z14, z15, z20, z21, z22, z23, z24, z25, z30, z31, z33, z46, z48, z49, z57, z60, z62, z63, z64, z65, z70, z74, z75, z90, z96, z99, z102, z114, z115, z116, z117, z118, z126, z128, z236, z729, z999, z9999, z46656, z65537, z1000000] <;> omega))), if_pos (by (first | omega | (simp (disch := omega) only [iI_le, iI_lt, iI_eq, iI_add, iI_sub, iI_mul, iI_neg, zm1, zm2, zm3, zm4, zm5, zm6, z0, z1, z2, z3, z4, z5, z6, z7, z8, z9, z10, z11, z12, z13, z14, z15, z20, z21, z22, z23, z24, z25, z30, z31, z33, z46, z48, z49, z57, z60, z62, z63, z64, z65, z70, z74, z75, z90, z96, z99, z102, z114, z115, z116, z117, z118, z126, z128, z236, z729, z999, z9999, z46656, z65537, z1000000] <;> omega)))]
    · by_cases c2 : f = -6
      · refine fin (-6) v' d' _ (lpx_r ?_) (lpx_r ?_) f3 rfl
        · show f_X3_filled_32 _ _ _ _ _ _ _ _ = _
          unfold f_X3_filled_32
          rw [if_pos (by (first | omega | (simp (disch := omega) only [iI_le, iI_lt, iI_eq, iI_add, iI_sub, iI_mul, iI_neg, zm1, zm2, zm3, zm4, zm5, zm6, z0, z1, z2, z3, z4, z5, z6, z7, z8, z9, z10, z11, z12, z13, z14, z15, z20, z21, z22, z23, z24, z25, z30, z31, z33, z46, z48, z49, z57, z60, z62, z63, z64, z65, z70, z74, z75, z90, z96, z99, z102, z114, z115, z116, z117, z118, z126, z128, z236, z729, z999, z9999, z46656, z65537, z1000000] <;> omega))), if_neg (by (first | omega | (simp (disch := omega) only [iI_le, iI_lt, iI_eq, iI_add, iI_sub, iI_mul, iI_neg, zm1, zm2, zm3, zm4, zm5, zm6, z0, z1, z2, z3, z4, z5, z6, z7, z8, z9, z10, z11, z12, z13, z14, z15, z20, z21, z22, z23, z24, z25, z30, z31, z33, z46, z48, z49, z57, z60, z62, z63, z64, z65, z70, z74, z75, z90, z96, z99, z102, z114, z115, z116, z117, z118, z126, z128, z236, z729, z999, z9999, z46656, z65537, z1000000] <;> omega))), if_pos (show iI f = -6 by rw [c2]; rfl)]
        · show f_X4_filled_42 _ _ _ _ _ _ = _
          unfold f_X4_filled_42
          rw [if_pos (by (first | omega | (simp (disch := omega) only [iI_le, iI_lt, iI_eq, iI_add, iI_sub, iI_mul, iI_neg, zm1, zm2, zm3, zm4, zm5, zm6, z0, z1, z2, z3, z4, z5, z6, z7, z8, z9, z10, z11, z12, z13, z14, z15, z20, z21, z22, z23, z24, z25, z30, z31, z33, z46, z48, z49, z57, z60, z62, z63, z64, z65, z70, z74, z75, z90, z96, z99, z102, z114, z115, z116, z117, z118, z126, z128, z236, z729, z999, z9999, z46656, z65537, z1000000] <;> omega))), if_neg (by (first | omega | (simp (disch := omega) only [iI_le, iI_lt, iI_eq, iI_add, iI_sub, iI_mul, iI_neg, zm1, zm2, zm3, zm4, zm5, zm6, z0, z1, z2, z3, z4, z5, z6, z7, z8, z9, z10, z11, z12, z13, z14, z15, z20, z21, z22, z23, z24, z25, z30, z31, z33, z46, z48, z49, z57, z60, z62, z63, z64, z65, z70, z74, z75, z90, z96, z99, z102, z114, z115, z116, z117, z118, z126, z128, z236, z729, z999, z9999, z46656, z65537, z1000000] <;> omega))), if_pos (show iI f < 0 by rw [c2]; decide)]
      · obtain ⟨m, rfl⟩ := Int.eq_ofNat_of_zero_le (show 0 ≤ f by omega)
        obtain ⟨g, w1, w2⟩ := p_writeMen (d := d') (w := m) f2.2.1 d3 (by omega)
        by_cases c3 : 0 ≤ x ∧ x < (pl s P).2
        · obtain ⟨i, rfl⟩ := Int.eq_ofNat_of_zero_le c3.1
          refine fin (iI (gC (pl s P).2 m i)) v' (setGu d' g) _ (lpx_r ?_) ((lpx_l ?_).trans (fill_left (u := setG st.2.2.2.2.2.2.2.2 gd' ga gb gc gp gy) (Q := (pl s P).2) (f := m) (x := i) (by omega) d3 ((pl s P).2 - 1 - i) ((pl s P).2 - 1) (by omega) (by omega))) (by exact f3) rfl
          · show f_X3_filled_32 _ _ _ _ _ _ _ _ = _
            unfold f_X3_filled_32 f_X0_manFor
            rw [if_pos (by (first | omega | (simp (disch := omega) only [iI_le, iI_lt, iI_eq, iI_add, iI_sub, iI_mul, iI_neg, zm1, zm2, zm3, zm4, zm5, zm6, z0, z1, z2, z3, z4, z5, z6, z7, z8, z9, z10, z11, z12, z13, z14, z15, z20, z21, z22, z23, z24, z25, z30, z31, z33, z46, z48, z49, z57, z60, z62, z63, z64, z65, z70, z74, z75, z90, z96, z99, z102, z114, z115, z116, z117, z118, z126, z128, z236, z729, z999, z9999, z46656, z65537, z1000000] <;> omega))), if_neg (by (first | omega | (simp (disch := omega) only [iI_le, iI_lt, iI_eq, iI_add, iI_sub, iI_mul, iI_neg, zm1, zm2, zm3, zm4, zm5, zm6, z0, z1, z2, z3, z4, z5, z6, z7, z8, z9, z10, z11, z12, z13, z14, z15, z20, z21, z22, z23, z24, z25, z30, z31, z33, z46, z48, z49, z57, z60, z62, z63, z64, z65, z70, z74, z75, z90, z96, z99, z102, z114, z115, z116, z117, z118, z126, z128, z236, z729, z999, z9999, z46656, z65537, z1000000] <;> omega))), if_neg (by (first | omega | (simp (disch := omega) only [iI_le, iI_lt, iI_eq, iI_add, iI_sub, iI_mul, iI_neg, zm1, zm2, zm3, zm4, zm5, zm6, z0, z1, z2, z3, z4, z5, z6, z7, z8, z9, z10, z11, z12, z13, z14, z15, z20, z21, z22, z23, z24, z25, z30, z31, z33, z46, z48, z49, z57, z60, z62, z63, z64, z65, z70, z74, z75, z90, z96, z99, z102, z114, z115, z116, z117, z118, z126, z128, z236, z729, z999, z9999, z46656, z65537, z1000000] <;> omega))), bn_i w1, if_neg (by (first | omega | (simp (disch := omega) only [iI_le, iI_lt, iI_eq, iI_add, iI_sub, iI_mul, iI_neg, zm1, zm2, zm3, zm4, zm5, zm6, z0, z1, z2, z3, z4, z5, z6, z7, z8, z9, z10, z11, z12, z13, z14, z15, z20, z21, z22, z23, z24, z25, z30, z31, z33, z46, z48, z49, z57, z60, z62, z63, z64, z65, z70, z74, z75, z90, z96, z99, z102, z114, z115, z116, z117, z118, z126, z128, z236, z729, z999, z9999, z46656, z65537, z1000000] <;> omega))), f2.2.1, if_neg (by (first | omega | (simp (disch := omega) only [iI_le, iI_lt, iI_eq, iI_add, iI_sub, iI_mul, iI_neg, zm1, zm2, zm3, zm4, zm5, zm6, z0, z1, z2, z3, z4, z5, z6, z7, z8, z9, z10, z11, z12, z13, z14, z15, z20, z21, z22, z23, z24, z25, z30, z31, z33, z46, z48, z49, z57, z60, z62, z63, z64, z65, z70, z74, z75, z90, z96, z99, z102, z114, z115, z116, z117, z118, z126, z128, z236, z729, z999, z9999, z46656, z65537, z1000000] <;> omega))), if_neg (by (first | omega | (simp (disch := omega) only [iI_le, iI_lt, iI_eq, iI_add, iI_sub, iI_mul, iI_neg, zm1, zm2, zm3, zm4, zm5, zm6, z0, z1, z2, z3, z4, z5, z6, z7, z8, z9, z10, z11, z12, z13, z14, z15, z20, z21, z22, z23, z24, z25, z30, z31, z33, z46, z48, z49, z57, z60, z62, z63, z64, z65, z70, z74, z75, z90, z96, z99, z102, z114, z115, z116, z117, z118, z126, z128, z236, z729, z999, z9999, z46656, z65537, z1000000] <;> omega))), ck_N (by omega) (by omega), cl_N (by omega), show (setGu d' g).2.2.2.2.2.1 i = _ from w2 i (by omega)]
            rfl
          · show f_X4_filled_42 _ _ _ _ _ _ = _
            have ho := p_opens (u := setG st.2.2.2.2.2.2.2.2 gd' ga gb gc gp gy) hm ht
            rw [d2] at ho
            unfold f_X4_filled_42 nm
            rw [if_pos (by (first | omega | (simp (disch := omega) only [iI_le, iI_lt, iI_eq, iI_add, iI_sub, iI_mul, iI_neg, zm1, zm2, zm3, zm4, zm5, zm6, z0, z1, z2, z3, z4, z5, z6, z7, z8, z9, z10, z11, z12, z13, z14, z15, z20, z21, z22, z23, z24, z25, z30, z31, z33, z46, z48, z49, z57, z60, z62, z63, z64, z65, z70, z74, z75, z90, z96, z99, z102, z114, z115, z116, z117, z118, z126, z128, z236, z729, z999, z9999, z46656, z65537, z1000000] <;> omega))), if_neg (by (first | omega | (simp (disch := omega) only [iI_le, iI_lt, iI_eq, iI_add, iI_sub, iI_mul, iI_neg, zm1, zm2, zm3, zm4, zm5, zm6, z0, z1, z2, z3, z4, z5, z6, z7, z8, z9, z10, z11, z12, z13, z14, z15, z20, z21, z22, z23, z24, z25, z30, z31, z33, z46, z48, z49, z57, z60, z62, z63, z64, z65, z70, z74, z75, z90, z96, z99, z102, z114, z115, z116, z117, z118, z126, z128, z236, z729, z999, z9999, z46656, z65537, z1000000] <;> omega))), if_neg (by (first | omega | (simp (disch := omega) only [iI_le, iI_lt, iI_eq, iI_add, iI_sub, iI_mul, iI_neg, zm1, zm2, zm3, zm4, zm5, zm6, z0, z1, z2, z3, z4, z5, z6, z7, z8, z9, z10, z11, z12, z13, z14, z15, z20, z21, z22, z23, z24, z25, z30, z31, z33, z46, z48, z49, z57, z60, z62, z63, z64, z65, z70, z74, z75, z90, z96, z99, z102, z114, z115, z116, z117, z118, z126, z128, z236, z729, z999, z9999, z46656, z65537, z1000000] <;> omega))), bn_i ho, z1, iI_sub, z0, bn_i (p_in (by omega) (by omega) (by omega)), b01_t (by omega), ← z0, if_neg n10, bn_i ho, Nat.sub_self, Nat.pow_zero, Nat.div_one, show (((pl s P).2 - 1 : Nat) : Int) = ((pl s P).2 : Int) - 1 by omega]
            dsimp only
            rw [iI_sub]
        · refine fin (-6) v' (setGu d' g) _ (lpx_r ?_) (lpx_r ?_) (by exact f3) rfl
          · show f_X3_filled_32 _ _ _ _ _ _ _ _ = _
            unfold f_X3_filled_32 f_X0_manFor
            rw [if_pos (by (first | omega | (simp (disch := omega) only [iI_le, iI_lt, iI_eq, iI_add, iI_sub, iI_mul, iI_neg, zm1, zm2, zm3, zm4, zm5, zm6, z0, z1, z2, z3, z4, z5, z6, z7, z8, z9, z10, z11, z12, z13, z14, z15, z20, z21, z22, z23, z24, z25, z30, z31, z33, z46, z48, z49, z57, z60, z62, z63, z64, z65, z70, z74, z75, z90, z96, z99, z102, z114, z115, z116, z117, z118, z126, z128, z236, z729, z999, z9999, z46656, z65537, z1000000] <;> omega))), if_neg (by (first | omega | (simp (disch := omega) only [iI_le, iI_lt, iI_eq, iI_add, iI_sub, iI_mul, iI_neg, zm1, zm2, zm3, zm4, zm5, zm6, z0, z1, z2, z3, z4, z5, z6, z7, z8, z9, z10, z11, z12, z13, z14, z15, z20, z21, z22, z23, z24, z25, z30, z31, z33, z46, z48, z49, z57, z60, z62, z63, z64, z65, z70, z74, z75, z90, z96, z99, z102, z114, z115, z116, z117, z118, z126, z128, z236, z729, z999, z9999, z46656, z65537, z1000000] <;> omega))), if_neg (by (first | omega | (simp (disch := omega) only [iI_le, iI_lt, iI_eq, iI_add, iI_sub, iI_mul, iI_neg, zm1, zm2, zm3, zm4, zm5, zm6, z0, z1, z2, z3, z4, z5, z6, z7, z8, z9, z10, z11, z12, z13, z14, z15, z20, z21, z22, z23, z24, z25, z30, z31, z33, z46, z48, z49, z57, z60, z62, z63, z64, z65, z70, z74, z75, z90, z96, z99, z102, z114, z115, z116, z117, z118, z126, z128, z236, z729, z999, z9999, z46656, z65537, z1000000] <;> omega))), bn_i w1]
            dsimp only
            by_cases c4 : x < 0
            · rw [if_pos (by (first | omega | (simp (disch := omega) only [iI_le, iI_lt, iI_eq, iI_add, iI_sub, iI_mul, iI_neg, zm1, zm2, zm3, zm4, zm5, zm6, z0, z1, z2, z3, z4, z5, z6, z7, z8, z9, z10, z11, z12, z13, z14, z15, z20, z21, z22, z23, z24, z25, z30, z31, z33, z46, z48, z49, z57, z60, z62, z63, z64, z65, z70, z74, z75, z90, z96, z99, z102, z114, z115, z116, z117, z118, z126, z128, z236, z729, z999, z9999, z46656, z65537, z1000000] <;> omega)))]; rfl
            · rw [if_neg (by (first | omega | (simp (disch := omega) only [iI_le, iI_lt, iI_eq, iI_add, iI_sub, iI_mul, iI_neg, zm1, zm2, zm3, zm4, zm5, zm6, z0, z1, z2, z3, z4, z5, z6, z7, z8, z9, z10, z11, z12, z13, z14, z15, z20, z21, z22, z23, z24, z25, z30, z31, z33, z46, z48, z49, z57, z60, z62, z63, z64, z65, z70, z74, z75, z90, z96, z99, z102, z114, z115, z116, z117, z118, z126, z128, z236, z729, z999, z9999, z46656, z65537, z1000000] <;> omega))), f2.2.1, if_pos (by (first | omega | (simp (disch := omega) only [iI_le, iI_lt, iI_eq, iI_add, iI_sub, iI_mul, iI_neg, zm1, zm2, zm3, zm4, zm5, zm6, z0, z1, z2, z3, z4, z5, z6, z7, z8, z9, z10, z11, z12, z13, z14, z15, z20, z21, z22, z23, z24, z25, z30, z31, z33, z46, z48, z49, z57, z60, z62, z63, z64, z65, z70, z74, z75, z90, z96, z99, z102, z114, z115, z116, z117, z118, z126, z128, z236, z729, z999, z9999, z46656, z65537, z1000000] <;> omega)))]; rfl
          · show f_X4_filled_42 _ _ _ _ _ _ = _
            have ho := p_opens (u := setG st.2.2.2.2.2.2.2.2 gd' ga gb gc gp gy) hm ht
            rw [d2] at ho
            unfold f_X4_filled_42 nm
            rw [if_pos (by (first | omega | (simp (disch := omega) only [iI_le, iI_lt, iI_eq, iI_add, iI_sub, iI_mul, iI_neg, zm1, zm2, zm3, zm4, zm5, zm6, z0, z1, z2, z3, z4, z5, z6, z7, z8, z9, z10, z11, z12, z13, z14, z15, z20, z21, z22, z23, z24, z25, z30, z31, z33, z46, z48, z49, z57, z60, z62, z63, z64, z65, z70, z74, z75, z90, z96, z99, z102, z114, z115, z116, z117, z118, z126, z128, z236, z729, z999, z9999, z46656, z65537, z1000000] <;> omega))), if_neg (by (first | omega | (simp (disch := omega) only [iI_le, iI_lt, iI_eq, iI_add, iI_sub, iI_mul, iI_neg, zm1, zm2, zm3, zm4, zm5, zm6, z0, z1, z2, z3, z4, z5, z6, z7, z8, z9, z10, z11, z12, z13, z14, z15, z20, z21, z22, z23, z24, z25, z30, z31, z33, z46, z48, z49, z57, z60, z62, z63, z64, z65, z70, z74, z75, z90, z96, z99, z102, z114, z115, z116, z117, z118, z126, z128, z236, z729, z999, z9999, z46656, z65537, z1000000] <;> omega))), if_neg (by (first | omega | (simp (disch := omega) only [iI_le, iI_lt, iI_eq, iI_add, iI_sub, iI_mul, iI_neg, zm1, zm2, zm3, zm4, zm5, zm6, z0, z1, z2, z3, z4, z5, z6, z7, z8, z9, z10, z11, z12, z13, z14, z15, z20, z21, z22, z23, z24, z25, z30, z31, z33, z46, z48, z49, z57, z60, z62, z63, z64, z65, z70, z74, z75, z90, z96, z99, z102, z114, z115, z116, z117, z118, z126, z128, z236, z729, z999, z9999, z46656, z65537, z1000000] <;> omega))), bn_i ho, z1, iI_sub, z0, bn_i (p_in (by omega) (by omega) (by omega)), b01_f (by omega), ← z0, if_pos rfl]
  · rw [if_neg (by (first | omega | (simp (disch := omega) only [iI_le, iI_lt, iI_eq, iI_add, iI_sub, iI_mul, iI_neg, zm1, zm2, zm3, zm4, zm5, zm6, z0, z1, z2, z3, z4, z5, z6, z7, z8, z9, z10, z11, z12, z13, z14, z15, z20, z21, z22, z23, z24, z25, z30, z31, z33, z46, z48, z49, z57, z60, z62, z63, z64, z65, z70, z74, z75, z90, z96, z99, z102, z114, z115, z116, z117, z118, z126, z128, z236, z729, z999, z9999, z46656, z65537, z1000000] <;> omega))), if_neg (by (first | omega | (simp (disch := omega) only [iI_le, iI_lt, iI_eq, iI_add, iI_sub, iI_mul, iI_neg, zm1, zm2, zm3, zm4, zm5, zm6, z0, z1, z2, z3, z4, z5, z6, z7, z8, z9, z10, z11, z12, z13, z14, z15, z20, z21, z22, z23, z24, z25, z30, z31, z33, z46, z48, z49, z57, z60, z62, z63, z64, z65, z70, z74, z75, z90, z96, z99, z102, z114, z115, z116, z117, z118, z126, z128, z236, z729, z999, z9999, z46656, z65537, z1000000] <;> omega)))]
    rw [bn_i (show rnx _ (some (Sum.inr _)) = some _ from rfl), bn_i (show rnx _ (some (Sum.inr _)) = some _ from rfl), if_pos rfl]
    exact ⟨_, rfl, F, hv, hu, gF_up hG, rP_of ht (by exact hd) (by exact hm), rK_up hk⟩
