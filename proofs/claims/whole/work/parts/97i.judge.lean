/-! THE LAW'S CASES: judge, done -/
theorem resT_rng {n : Nat} {s : Nat → Int} {P : Nat} (ht : tx n s) (hP : rds n s P) : (n ≤ (pl s P).1 ∧ resT n s P = -6) ∨ (¬ n ≤ (pl s P).1 ∧ 0 ≤ resT n s P ∧ resT n s P ≤ 100) := by
  have hn := ht.1
  have hq := rds_q ht hP P (Nat.le_refl _)
  unfold resT
  by_cases c : n ≤ (pl s P).1
  · rw [if_pos c]; exact Or.inl ⟨c, rfl⟩
  · rw [if_neg c]
    have := hP.2.resolve_left c
    rcases fOP_rng (s := s) (a := (pl s P).1) (q := (pl s P).2) with h | h
    · exact absurd h this
    · exact Or.inr ⟨c, by omega, by omega⟩
theorem noself0 {n : Nat} {s : Nat → Int} {P : Nat} (ht : tx n s) (hP : rds n s P) {g : Nat → Nat} (hg6 : ∀ i, g i < 6) (h0 : (pl s P).2 = 0) : ∀ p, p < P → kdT s p = 0 → ¬ lndP s g p = borP s p := by
  intro p hp hk
  have hq := pl_q s p (P - p)
  rw [if_neg (by omega), show p + (P - p) = P by omega, h0] at hq
  rcases pt_ok ht hP hg6 hp with ⟨a1, a2⟩ | ⟨a1, a2, a3, a4, a5⟩ | ⟨a1, a2, a3, a4, a5, a6, a7, a8, a9, a10⟩
  · omega
  · omega
  · rcases a4 with a4 | a4
    · have hi : isq s (pl s p).1 = 1 := by unfold isq; rw [if_pos a4.1]
      omega
    · exact a4.2.2
theorem wy_9 (L r : Int) (s : Nat → Int) (g : Nat → Nat) (T0 : SV × Int) (p : Nat) : wy L r s g T0 p ≤ 9 := by
  unfold wy whyS
  repeat' split
  all_goals omega
theorem case5 {N : Nat} (hN : N ≤ 512) {st : LSt} (h : Rel N st) (a1 : Int32) : ∃ st', ls_5 st a1 = some st' ∧ Rel (N + 1) st' := by
  obtain ⟨F, hv, hu, hG, hp, hk⟩ := id h
  obtain ⟨x, hx, rfl⟩ := iI_ex a1
  obtain ⟨n, s, ht, hd, hm⟩ := rP_tx hp
  obtain ⟨P, hP⟩ := rds_ex n s
  obtain ⟨b1, b2, b3, b4, e1, e2⟩ := p_read hd ht hP
  have hPn := rds_P ht hP
  have hn := ht.1
  unfold ls_5 f_X3_judge f_X4_judge
  rw [z0, z1, bn_i (p_isWithin hx (by omega) (by omega)), bn_i (p_in hx (by omega) (by omega)), ← z0]
  by_cases c1 : 0 ≤ x ∧ x ≤ 1
  · rw [b01_t c1, if_neg n10, if_neg n10, bn_i e1, bn_i (p_faultOf hm ht hP)]
    dsimp only
    rcases resT_rng ht hP with ⟨q1, q2⟩ | ⟨q1, q2, q3⟩
    · obtain ⟨d1, d2, d3⟩ := rds_end ht hP q1
      rw [q2, if_pos zm6.symm, if_pos (show iI (-6) < 0 by decide), bn_i (p_opens hm ht), d2]
      by_cases c2 : (pl s P).2 = 0
      · obtain ⟨w, v', f1, f2, f3⟩ := p_perform ht hP (gC_6 (pl s P).2 0) hN hG (noself0 ht hP (gC_6 _ 0) c2) hv (v2 := st.2.2.1) e2 (fun i hi => absurd hi (by omega))
        obtain ⟨a, b, c, w', g1, g2, g3⟩ := p_goText ht hP q1 hm hN hG hu (code := 0) (by omega)
        have hR := ff_rng (wy F.2.1 F.2.2.1 s (gC (pl s P).2 0) (F.1, F.2.2.2.1)) P 0
        rw [if_pos (by rw [c2]; (first | omega | (simp (disch := omega) only [iI_le, iI_lt, iI_eq, iI_add, iI_sub, iI_mul, iI_neg, zm1, zm2, zm3, zm4, zm5, zm6, z0, z1, z2, z3, z4, z5, z6, z7, z8, z9, z10, z11, z12, z13, z14, z15, z20, z21, z22, z23, z24, z25, z30, z31, z33, z46, z48, z49, z57, z60, z62, z63, z64, z65, z70, z74, z75, z90, z96, z99, z102, z114, z115, z116, z117, z118, z126, z128, z236, z729, z999, z9999, z46656, z65537, z1000000] <;> omega))), if_pos (by rw [c2]; (first | omega | (simp (disch := omega) only [iI_le, iI_lt, iI_eq, iI_add, iI_sub, iI_mul, iI_neg, zm1, zm2, zm3, zm4, zm5, zm6, z0, z1, z2, z3, z4, z5, z6, z7, z8, z9, z10, z11, z12, z13, z14, z15, z20, z21, z22, z23, z24, z25, z30, z31, z33, z46, z48, z49, z57, z60, z62, z63, z64, z65, z70, z74, z75, z90, z96, z99, z102, z114, z115, z116, z117, z118, z126, z128, z236, z729, z999, z9999, z46656, z65537, z1000000] <;> omega))), bn_i f1, bn_i (show f_X4_goText st.2.2.2.2.2.2.2.2 0 = _ from g1)]
        unfold nm rz
        dsimp only
        generalize hRR : ff (wy F.2.1 F.2.2.1 s (gC (pl s P).2 0) (F.1, F.2.2.2.1)) P 0 = R at *
        by_cases c3 : R = P
        · rw [if_pos c3, if_pos zm6.symm, if_pos (show iI (-6) < 0 by decide), bn_i rfl, bn_i rfl, if_pos zm6]
          exact ⟨_, rfl, F, hv, hu, gF_up hG, rP_of ht (by exact hd) (by exact hm), rK_up hk⟩
        · rw [if_neg c3, if_neg (by (first | omega | (simp (disch := omega) only [iI_le, iI_lt, iI_eq, iI_add, iI_sub, iI_mul, iI_neg, zm1, zm2, zm3, zm4, zm5, zm6, z0, z1, z2, z3, z4, z5, z6, z7, z8, z9, z10, z11, z12, z13, z14, z15, z20, z21, z22, z23, z24, z25, z30, z31, z33, z46, z48, z49, z57, z60, z62, z63, z64, z65, z70, z74, z75, z90, z96, z99, z102, z114, z115, z116, z117, z118, z126, z128, z236, z729, z999, z9999, z46656, z65537, z1000000] <;> omega))), if_neg (show ¬ iI (R : Int) < 0 by (first | omega | (simp (disch := omega) only [iI_le, iI_lt, iI_eq, iI_add, iI_sub, iI_mul, iI_neg, zm1, zm2, zm3, zm4, zm5, zm6, z0, z1, z2, z3, z4, z5, z6, z7, z8, z9, z10, z11, z12, z13, z14, z15, z20, z21, z22, z23, z24, z25, z30, z31, z33, z46, z48, z49, z57, z60, z62, z63, z64, z65, z70, z74, z75, z90, z96, z99, z102, z114, z115, z116, z117, z118, z126, z128, z236, z729, z999, z9999, z46656, z65537, z1000000] <;> omega)))]
          by_cases c4 : x = 0
          · rw [if_pos (show iI x = 0 by rw [c4]; rfl), if_pos (show iI x = 0 by rw [c4]; rfl), bn_i rfl, bn_i rfl, if_pos rfl]
            exact ⟨_, rfl, F, hv, hu, gF_up hG, rP_of ht (by exact hd) (by exact hm), rK_up hk⟩
          · rw [if_neg (by (first | omega | (simp (disch := omega) only [iI_le, iI_lt, iI_eq, iI_add, iI_sub, iI_mul, iI_neg, zm1, zm2, zm3, zm4, zm5, zm6, z0, z1, z2, z3, z4, z5, z6, z7, z8, z9, z10, z11, z12, z13, z14, z15, z20, z21, z22, z23, z24, z25, z30, z31, z33, z46, z48, z49, z57, z60, z62, z63, z64, z65, z70, z74, z75, z90, z96, z99, z102, z114, z115, z116, z117, z118, z126, z128, z236, z729, z999, z9999, z46656, z65537, z1000000] <;> omega))), if_neg (by (first | omega | (simp (disch := omega) only [iI_le, iI_lt, iI_eq, iI_add, iI_sub, iI_mul, iI_neg, zm1, zm2, zm3, zm4, zm5, zm6, z0, z1, z2, z3, z4, z5, z6, z7, z8, z9, z10, z11, z12, z13, z14, z15, z20, z21, z22, z23, z24, z25, z30, z31, z33, z46, z48, z49, z57, z60, z62, z63, z64, z65, z70, z74, z75, z90, z96, z99, z102, z114, z115, z116, z117, z118, z126, z128, z236, z729, z999, z9999, z46656, z65537, z1000000] <;> omega))), bn_i rfl, bn_i rfl, if_pos (by rw [f3 (by omega), g3 (by omega)])]
            exact ⟨_, rfl, F, hv, hu, gF_up hG, rP_of ht (by exact hd) (by exact hm), rK_up hk⟩
      · rw [if_neg (by (first | omega | (simp (disch := omega) only [iI_le, iI_lt, iI_eq, iI_add, iI_sub, iI_mul, iI_neg, zm1, zm2, zm3, zm4, zm5, zm6, z0, z1, z2, z3, z4, z5, z6, z7, z8, z9, z10, z11, z12, z13, z14, z15, z20, z21, z22, z23, z24, z25, z30, z31, z33, z46, z48, z49, z57, z60, z62, z63, z64, z65, z70, z74, z75, z90, z96, z99, z102, z114, z115, z116, z117, z118, z126, z128, z236, z729, z999, z9999, z46656, z65537, z1000000] <;> omega))), if_neg (by (first | omega | (simp (disch := omega) only [iI_le, iI_lt, iI_eq, iI_add, iI_sub, iI_mul, iI_neg, zm1, zm2, zm3, zm4, zm5, zm6, z0, z1, z2, z3, z4, z5, z6, z7, z8, z9, z10, z11, z12, z13, z14, z15, z20, z21, z22, z23, z24, z25, z30, z31, z33, z46, z48, z49, z57, z60, z62, z63, z64, z65, z70, z74, z75, z90, z96, z99, z102, z114, z115, z116, z117, z118, z126, z128, z236, z729, z999, z9999, z46656, z65537, z1000000] <;> omega))), bn_i rfl, bn_i rfl, if_pos rfl]
        exact ⟨_, rfl, F, hv, hu, gF_up hG, rP_of ht (by exact hd) (by exact hm), rK_up hk⟩
    · rw [if_neg (by (first | omega | (simp (disch := omega) only [iI_le, iI_lt, iI_eq, iI_add, iI_sub, iI_mul, iI_neg, zm1, zm2, zm3, zm4, zm5, zm6, z0, z1, z2, z3, z4, z5, z6, z7, z8, z9, z10, z11, z12, z13, z14, z15, z20, z21, z22, z23, z24, z25, z30, z31, z33, z46, z48, z49, z57, z60, z62, z63, z64, z65, z70, z74, z75, z90, z96, z99, z102, z114, z115, z116, z117, z118, z126, z128, z236, z729, z999, z9999, z46656, z65537, z1000000] <;> omega))), if_neg (by (first | omega | (simp (disch := omega) only [iI_le, iI_lt, iI_eq, iI_add, iI_sub, iI_mul, iI_neg, zm1, zm2, zm3, zm4, zm5, zm6, z0, z1, z2, z3, z4, z5, z6, z7, z8, z9, z10, z11, z12, z13, z14, z15, z20, z21, z22, z23, z24, z25, z30, z31, z33, z46, z48, z49, z57, z60, z62, z63, z64, z65, z70, z74, z75, z90, z96, z99, z102, z114, z115, z116, z117, z118, z126, z128, z236, z729, z999, z9999, z46656, z65537, z1000000] <;> omega))), bn_i rfl, bn_i rfl, if_pos rfl]
      exact ⟨_, rfl, F, hv, hu, gF_up hG, rP_of ht (by exact hd) (by exact hm), rK_up hk⟩
  · rw [b01_f c1, if_pos rfl, if_pos rfl, bn_i rfl, bn_i rfl, if_pos rfl]
    exact ⟨_, rfl, Rel_up h⟩
theorem case6 {N : Nat} (hN : N ≤ 512) {st : LSt} (h : Rel N st) : ∃ st', ls_6 st = some st' ∧ Rel (N + 1) st' := by
  obtain ⟨F, hv, hu, hG, hp, hk⟩ := id h
  obtain ⟨n, s, ht, hd, hm⟩ := rP_tx hp
  obtain ⟨P, hP⟩ := rds_ex n s
  obtain ⟨b1, b2, b3, b4, e1, e2⟩ := p_read hd ht hP
  have hPn := rds_P ht hP
  have hn := ht.1
  unfold ls_6 f_X3_done f_X4_done
  rw [bn_i e1, bn_i (p_faultOf hm ht hP)]
  dsimp only
  rcases resT_rng ht hP with ⟨q1, q2⟩ | ⟨q1, q2, q3⟩
  · obtain ⟨d1, d2, d3⟩ := rds_end ht hP q1
    rw [q2, if_pos zm6.symm, if_pos (show iI (-6) < 0 by decide), bn_i (p_opens hm ht), d2]
    by_cases c2 : (pl s P).2 = 0
    · obtain ⟨w, v', f1, f2, f3⟩ := p_perform ht hP (gC_6 (pl s P).2 0) hN hG (noself0 ht hP (gC_6 _ 0) c2) hv (v2 := st.2.2.1) e2 (fun i hi => absurd hi (by omega))
      obtain ⟨a, b, c, w', g1, g2, g3⟩ := p_goText ht hP q1 hm hN hG hu (code := 0) (by omega)
      have hR := ff_rng (wy F.2.1 F.2.2.1 s (gC (pl s P).2 0) (F.1, F.2.2.2.1)) P 0
      rw [if_pos (by rw [c2]; (first | omega | (simp (disch := omega) only [iI_le, iI_lt, iI_eq, iI_add, iI_sub, iI_mul, iI_neg, zm1, zm2, zm3, zm4, zm5, zm6, z0, z1, z2, z3, z4, z5, z6, z7, z8, z9, z10, z11, z12, z13, z14, z15, z20, z21, z22, z23, z24, z25, z30, z31, z33, z46, z48, z49, z57, z60, z62, z63, z64, z65, z70, z74, z75, z90, z96, z99, z102, z114, z115, z116, z117, z118, z126, z128, z236, z729, z999, z9999, z46656, z65537, z1000000] <;> omega))), if_pos (by rw [c2]; (first | omega | (simp (disch := omega) only [iI_le, iI_lt, iI_eq, iI_add, iI_sub, iI_mul, iI_neg, zm1, zm2, zm3, zm4, zm5, zm6, z0, z1, z2, z3, z4, z5, z6, z7, z8, z9, z10, z11, z12, z13, z14, z15, z20, z21, z22, z23, z24, z25, z30, z31, z33, z46, z48, z49, z57, z60, z62, z63, z64, z65, z70, z74, z75, z90, z96, z99, z102, z114, z115, z116, z117, z118, z126, z128, z236, z729, z999, z9999, z46656, z65537, z1000000] <;> omega))), bn_i f1, bn_i (show f_X4_goText st.2.2.2.2.2.2.2.2 0 = _ from g1)]
      unfold nm rz
      dsimp only
      generalize hRR : ff (wy F.2.1 F.2.2.1 s (gC (pl s P).2 0) (F.1, F.2.2.2.1)) P 0 = R at *
      by_cases c3 : R = P
      · obtain ⟨mo, sz, pi, k1, k2, k3, k4⟩ := p_keepNow (setG st.2.2.2.2.2.2.2.2 (iI (gs F.2.1 F.2.2.1 s (gC (pl s P).2 0) (F.1, F.2.2.2.1) R).2) a b c (iI R) w')
        obtain ⟨t1, t2, t3⟩ := gs_ok ht hP (gC_6 (pl s P).2 0) (L := F.2.1) hG.2.2.1 (T0 := (F.1, F.2.2.2.1)) hG.1 R (by omega) (fun i hi => hR.2.2.2 i (by omega) hi)
        have hGd := hG.2.2.2.1
        have t4 : (gs F.2.1 F.2.2.1 s (gC (pl s P).2 0) (F.1, F.2.2.2.1) R).2 ≤ 60 * ((N + 1 : Nat) : Int) := by omega
        have hG' : gF (N + 1) (fT F (gs F.2.1 F.2.2.1 s (gC (pl s P).2 0) (F.1, F.2.2.2.1) R)) := ⟨gd_up t1 (by omega), hG.2.1, hG.2.2.1, ⟨Int.le_trans hGd.1 t2, t4⟩, hG.2.2.2.2⟩
        rw [if_pos c3, if_pos zm6.symm, if_pos (show iI (-6) < 0 by decide), p_copyFrom, bn_i rfl]
        unfold f_X0_clear nm
        dsimp only
        rw [bn_i rfl, bn_i k1, bn_i rfl, bn_i rfl]
        dsimp only
        rw [if_pos (by rw [c3])]
        refine ⟨_, rfl, fT F (gs F.2.1 F.2.2.1 s (gC (pl s P).2 0) (F.1, F.2.2.2.1) R), rFV_copy f2 hG', ?_, hG', ⟨0, s, by omega, z0, z0, fun i hi => absurd hi (by omega)⟩, rK_up hk⟩
        exact ⟨rM_cong g2 t1 k2 k3 k4, hu.2.1, hu.2.2.1, rfl, hu.2.2.2.2⟩
      · rw [if_neg c3, if_neg (by (first | omega | (simp (disch := omega) only [iI_le, iI_lt, iI_eq, iI_add, iI_sub, iI_mul, iI_neg, zm1, zm2, zm3, zm4, zm5, zm6, z0, z1, z2, z3, z4, z5, z6, z7, z8, z9, z10, z11, z12, z13, z14, z15, z20, z21, z22, z23, z24, z25, z30, z31, z33, z46, z48, z49, z57, z60, z62, z63, z64, z65, z70, z74, z75, z90, z96, z99, z102, z114, z115, z116, z117, z118, z126, z128, z236, z729, z999, z9999, z46656, z65537, z1000000] <;> omega))), if_neg (show ¬ iI (R : Int) < 0 by (first | omega | (simp (disch := omega) only [iI_le, iI_lt, iI_eq, iI_add, iI_sub, iI_mul, iI_neg, zm1, zm2, zm3, zm4, zm5, zm6, z0, z1, z2, z3, z4, z5, z6, z7, z8, z9, z10, z11, z12, z13, z14, z15, z20, z21, z22, z23, z24, z25, z30, z31, z33, z46, z48, z49, z57, z60, z62, z63, z64, z65, z70, z74, z75, z90, z96, z99, z102, z114, z115, z116, z117, z118, z126, z128, z236, z729, z999, z9999, z46656, z65537, z1000000] <;> omega))), bn_i rfl, bn_i rfl, if_pos rfl]
        exact ⟨_, rfl, F, hv, hu, gF_up hG, rP_of ht (by exact hd) (by exact hm), rK_up hk⟩
    · rw [if_neg (by (first | omega | (simp (disch := omega) only [iI_le, iI_lt, iI_eq, iI_add, iI_sub, iI_mul, iI_neg, zm1, zm2, zm3, zm4, zm5, zm6, z0, z1, z2, z3, z4, z5, z6, z7, z8, z9, z10, z11, z12, z13, z14, z15, z20, z21, z22, z23, z24, z25, z30, z31, z33, z46, z48, z49, z57, z60, z62, z63, z64, z65, z70, z74, z75, z90, z96, z99, z102, z114, z115, z116, z117, z118, z126, z128, z236, z729, z999, z9999, z46656, z65537, z1000000] <;> omega))), if_neg (by (first | omega | (simp (disch := omega) only [iI_le, iI_lt, iI_eq, iI_add, iI_sub, iI_mul, iI_neg, zm1, zm2, zm3, zm4, zm5, zm6, z0, z1, z2, z3, z4, z5, z6, z7, z8, z9, z10, z11, z12, z13, z14, z15, z20, z21, z22, z23, z24, z25, z30, z31, z33, z46, z48, z49, z57, z60, z62, z63, z64, z65, z70, z74, z75, z90, z96, z99, z102, z114, z115, z116, z117, z118, z126, z128, z236, z729, z999, z9999, z46656, z65537, z1000000] <;> omega))), bn_i rfl, bn_i rfl, if_pos rfl]
      exact ⟨_, rfl, F, hv, hu, gF_up hG, rP_of ht (by exact hd) (by exact hm), rK_up hk⟩
  · rw [if_neg (by (first | omega | (simp (disch := omega) only [iI_le, iI_lt, iI_eq, iI_add, iI_sub, iI_mul, iI_neg, zm1, zm2, zm3, zm4, zm5, zm6, z0, z1, z2, z3, z4, z5, z6, z7, z8, z9, z10, z11, z12, z13, z14, z15, z20, z21, z22, z23, z24, z25, z30, z31, z33, z46, z48, z49, z57, z60, z62, z63, z64, z65, z70, z74, z75, z90, z96, z99, z102, z114, z115, z116, z117, z118, z126, z128, z236, z729, z999, z9999, z46656, z65537, z1000000] <;> omega))), if_neg (by (first | omega | (simp (disch := omega) only [iI_le, iI_lt, iI_eq, iI_add, iI_sub, iI_mul, iI_neg, zm1, zm2, zm3, zm4, zm5, zm6, z0, z1, z2, z3, z4, z5, z6, z7, z8, z9, z10, z11, z12, z13, z14, z15, z20, z21, z22, z23, z24, z25, z30, z31, z33, z46, z48, z49, z57, z60, z62, z63, z64, z65, z70, z74, z75, z90, z96, z99, z102, z114, z115, z116, z117, z118, z126, z128, z236, z729, z999, z9999, z46656, z65537, z1000000] <;> omega))), bn_i rfl, bn_i rfl, if_pos rfl]
    exact ⟨_, rfl, F, hv, hu, gF_up hG, rP_of ht (by exact hd) (by exact hm), rK_up hk⟩
