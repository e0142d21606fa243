/-! THE REFERENCE does a text -/
theorem go271 {u : MS} {a b c : AI} {S : SV} {B : Int} (hr : rM a b c S) (hG : gd B S) (hB : B ≤ 2000000) {f t : Nat} (hf : f < 6) (ht : t < 6) {pc dd : Int} (hpc : 1 ≤ pc ∧ pc ≤ 99) (x1 x2 x3 : Int32) (p : Nat) : ∃ a' b' c', f_X4_goText_271 x1 (setG u (iI dd) a b c (iI p) 0) x2 x3 (iI f) (iI t) (iI pc) = (if (if f = t then 9 else if mon S f < pc then 1 else if hg S t = 5 then 2 else 0) = 0 then some (.inl (.inr (setG u (iI dd) a' b' c' (iI ((p + 1 : Nat) : Int)) 0, x2, x3))) else some (.inr (iI p, setG u (iI dd) a' b' c' (iI p) (iI ((if f = t then 9 else if mon S f < pc then 1 else if hg S t = 5 then 2 else 0 : Nat) : Int))))) ∧ rM a' b' c' (if (if f = t then 9 else if mon S f < pc then 1 else if hg S t = 5 then 2 else 0) = 0 then lendS S f t pc dd else S) := by
  have hmf := hG.le hf
  have hm0 := (hG.1 f hf).1
  have hmt := hG.le ht
  have hm1 := (hG.1 t ht).1
  have h5 := (hG.1 t ht).2.1
  unfold f_X4_goText_271
  by_cases c0 : f = t
  · rw [if_pos c0, if_pos (by rw [c0])]
    refine ⟨a, b, c, ?_, ?_⟩
    · rw [if_neg (by decide)]
      unfold f_X4_goText_316 nm
      dsimp only
      rw [if_neg (by decide), z9]
      exact go408_w x1 u (iI dd) a b c p (w := 9) (by omega) x2 x3
    · rw [if_neg (by decide)]; exact hr
  · rw [if_neg c0, if_neg (by (first | omega | (simp (disch := omega) only [iI_le, iI_lt, iI_eq, iI_add, iI_sub, iI_mul, iI_neg, zm1, zm2, zm3, zm4, zm5, zm6, z0, z1, z2, z3, z4, z5, z6, z7, z8, z9, z10, z11, z12, z13, z14, z15, z20, z21, z22, z23, z24, z25, z30, z31, z33, z46, z48, z49, z57, z60, z62, z63, z64, z65, z70, z74, z75, z90, z96, z99, z102, z114, z115, z116, z117, z118, z126, z128, z236, z729, z999, z9999, z46656, z65537, z1000000] <;> omega))), ck_N hf (by omega), cl_N (by omega)]
    dsimp only
    have ea : a f = iI (mon S f) := (hr f hf).1
    have eb : b t = iI (hg S t) := (hr t ht).2.1
    by_cases c1 : mon S f < pc
    · rw [if_pos c1, if_neg (by rw [ea]; (first | omega | (simp (disch := omega) only [iI_le, iI_lt, iI_eq, iI_add, iI_sub, iI_mul, iI_neg, zm1, zm2, zm3, zm4, zm5, zm6, z0, z1, z2, z3, z4, z5, z6, z7, z8, z9, z10, z11, z12, z13, z14, z15, z20, z21, z22, z23, z24, z25, z30, z31, z33, z46, z48, z49, z57, z60, z62, z63, z64, z65, z70, z74, z75, z90, z96, z99, z102, z114, z115, z116, z117, z118, z126, z128, z236, z729, z999, z9999, z46656, z65537, z1000000] <;> omega)))]
      refine ⟨a, b, c, ?_, ?_⟩
      · rw [if_neg (by decide)]
        unfold f_X4_goText_316 nm
        dsimp only
        rw [if_neg (by decide), z1]
        exact go408_w x1 u (iI dd) a b c p (w := 1) (by omega) x2 x3
      · rw [if_neg (by decide)]; exact hr
    · rw [if_neg c1, if_pos (by rw [ea]; (first | omega | (simp (disch := omega) only [iI_le, iI_lt, iI_eq, iI_add, iI_sub, iI_mul, iI_neg, zm1, zm2, zm3, zm4, zm5, zm6, z0, z1, z2, z3, z4, z5, z6, z7, z8, z9, z10, z11, z12, z13, z14, z15, z20, z21, z22, z23, z24, z25, z30, z31, z33, z46, z48, z49, z57, z60, z62, z63, z64, z65, z70, z74, z75, z90, z96, z99, z102, z114, z115, z116, z117, z118, z126, z128, z236, z729, z999, z9999, z46656, z65537, z1000000] <;> omega))), ck_N ht (by omega), cl_N (by omega)]
      by_cases c2 : hg S t = 5
      · rw [if_pos c2, if_pos (by rw [eb]; (first | omega | (simp (disch := omega) only [iI_le, iI_lt, iI_eq, iI_add, iI_sub, iI_mul, iI_neg, zm1, zm2, zm3, zm4, zm5, zm6, z0, z1, z2, z3, z4, z5, z6, z7, z8, z9, z10, z11, z12, z13, z14, z15, z20, z21, z22, z23, z24, z25, z30, z31, z33, z46, z48, z49, z57, z60, z62, z63, z64, z65, z70, z74, z75, z90, z96, z99, z102, z114, z115, z116, z117, z118, z126, z128, z236, z729, z999, z9999, z46656, z65537, z1000000] <;> omega)))]
        refine ⟨a, b, c, ?_, ?_⟩
        · rw [if_neg (by decide)]
          unfold f_X4_goText_316 nm
          dsimp only
          rw [if_neg (by decide), z2]
          exact go408_w x1 u (iI dd) a b c p (w := 2) (by omega) x2 x3
        · rw [if_neg (by decide)]; exact hr
      · rw [if_neg c2, if_neg (by rw [eb]; (first | omega | (simp (disch := omega) only [iI_le, iI_lt, iI_eq, iI_add, iI_sub, iI_mul, iI_neg, zm1, zm2, zm3, zm4, zm5, zm6, z0, z1, z2, z3, z4, z5, z6, z7, z8, z9, z10, z11, z12, z13, z14, z15, z20, z21, z22, z23, z24, z25, z30, z31, z33, z46, z48, z49, z57, z60, z62, z63, z64, z65, z70, z74, z75, z90, z96, z99, z102, z114, z115, z116, z117, z118, z126, z128, z236, z729, z999, z9999, z46656, z65537, z1000000] <;> omega))), if_pos rfl]
        have hra := rM_add hr hG ht (by omega) (f : Int) pc dd
        have hr2 := rM_setMon hra (m := f) (mon (addS S t f pc dd) f - pc)
        have hr3 := rM_setMon hr2 (m := t) (mon (setMon (addS S t f pc dd) f (mon (addS S t f pc dd) f - pc)) t + pc)
        refine ⟨_, _, _, ?_, hr3⟩
        have hmt2 := (hr2 t ht).1
        rw [if_pos (rfl : (0 : Nat) = 0)]
        unfold f_X4_goText_316 nm
        dsimp only
        rw [if_pos rfl, ck_N ht (by omega), cl_N (by omega), eb, bn_i p_at, ixA, ck_N (by omega) (by omega), cl_N (by omega), iI_s (15 * t + 3 * hg S t), is2, ck_N (by omega) (by omega), cl_N (by omega), ck_N (by omega) (by omega), cl_N (by omega), ck_N hf (by omega), cl_N (by omega), ea, iI_sub, iI_s (hg S t)]
        rw [show upd a f (iI (mon S f - pc)) t = _ from hmt2, iI_add]
        exact go408_0 x1 u (iI dd) _ _ _ p x2 x3
theorem go_part {n : Nat} {s : Nat → Int} {P : Nat} (ht : tx n s) (hP : rds n s P) {u : MS} (hu : tM u n s) {L r B : Int} (hB : B ≤ 2000000) (hL : u.1 = iI L) (hrr : u.2.1 = iI r) (hL2 : 0 ≤ L ∧ L ≤ 2) (hr2 : 0 ≤ r ∧ r ≤ 9) {Q code : Nat} (hQ : Q ≤ 3) (hco : code < 1000) {T0 : SV × Int} {p : Nat} (hp : p < P) {a b c : AI} (hr : rM a b c (gs L r s (gC Q code) T0 p).1) (hG : gd B (gs L r s (gC Q code) T0 p).1) : ∃ a' b' c', st_X4_goText (iI code) (.inr (setG u (iI (gs L r s (gC Q code) T0 p).2) a b c (iI p) 0, iI (byF Q (pl s p).2), iI ((pl s p).1 : Int))) = (if wy L r s (gC Q code) T0 p = 0 then some (.inl (.inr (setG u (iI (gs L r s (gC Q code) T0 (p + 1)).2) a' b' c' (iI ((p + 1 : Nat) : Int)) 0, iI (byF Q (pl s (p + 1)).2), iI ((pl s (p + 1)).1 : Int)))) else some (.inr (iI p, setG u (iI (gs L r s (gC Q code) T0 p).2) a' b' c' (iI p) (iI (wy L r s (gC Q code) T0 p))))) ∧ rM a' b' c' (gs L r s (gC Q code) T0 (if wy L r s (gC Q code) T0 p = 0 then p + 1 else p)).1 := by
  have hn := ht.1
  have hin := fOP_in ht (hP.1 p hp).2
  have hq := rds_q ht hP p (by omega)
  have hby := byF_3 Q hQ _ hq.2
  have hlp := lenP_pos s (pl s p).1
  have es : gs L r s (gC Q code) T0 (p + 1) = stpT L r (gs L r s (gC Q code) T0 p) (kdT s p) (lndP s (gC Q code) p) (borP s p) (pcT s p) := rfl
  have ew : wy L r s (gC Q code) T0 p = whyS L (gs L r s (gC Q code) T0 p).1 (kdT s p) (lndP s (gC Q code) p) (borP s p) (pcT s p) := rfl
  have epl : pl s (p + 1) = ((pl s p).1 + lenP s (pl s p).1, (pl s p).2 + isq s (pl s p).1) := rfl
  have r0 := tx_r ht (pl s p).1
  have r1 := tx_r ht ((pl s p).1 + 1)
  have r2 := tx_r ht ((pl s p).1 + 2)
  have r3 := tx_r ht ((pl s p).1 + 3)
  have r4 := tx_r ht ((pl s p).1 + 4)
  have hpt := pt_ok ht hP (gC_6 Q code) hp
  have hfo := fOP_ok ht (hP.1 p hp).2
  rw [ew, epl]
  generalize hT : gs L r s (gC Q code) T0 p = T at *
  generalize hA : (pl s p).1 = A at *
  generalize hq0 : (pl s p).2 = q at *
  have hs0 := hu.2 A (by omega)
  have e0 : st_X4_goText (iI code) (.inr (setG u (iI T.2) a b c (iI p) 0, iI (byF Q q), iI A)) = f_X4_goText_39 (iI code) (setG u (iI T.2) a b c (iI p) 0) (iI (byF Q q)) (iI A) := rfl
  rw [e0]
  unfold f_X4_goText_39 nm
  dsimp only
  rw [hu.1, if_neg (by (first | omega | (simp (disch := omega) only [iI_le, iI_lt, iI_eq, iI_add, iI_sub, iI_mul, iI_neg, zm1, zm2, zm3, zm4, zm5, zm6, z0, z1, z2, z3, z4, z5, z6, z7, z8, z9, z10, z11, z12, z13, z14, z15, z20, z21, z22, z23, z24, z25, z30, z31, z33, z46, z48, z49, z57, z60, z62, z63, z64, z65, z70, z74, z75, z90, z96, z99, z102, z114, z115, z116, z117, z118, z126, z128, z236, z729, z999, z9999, z46656, z65537, z1000000] <;> omega))), ck_N (by omega) (by omega), cl_N (by omega)]
  rcases hpt with ⟨a1, a2⟩ | ⟨a1, a2, a3, a4, a5⟩ | ⟨a1, a2, a3, a4, a5, a6, a7, a8, a9, a10⟩
  · have hl : lenP s A = 1 := by omega
    have hi : isq s A = 0 := by unfold isq; rw [if_neg (by omega)]
    have hw : whyS L T.1 (kdT s p) (lndP s (gC Q code) p) (borP s p) (pcT s p) = 0 := by unfold whyS; rw [if_pos a2]
    have e2 : gs L r s (gC Q code) T0 (p + 1) = (passS r T.1, T.2 + 1) := by rw [es]; unfold stpT; rw [if_pos a2]
    obtain ⟨c', f1, f2⟩ := p_mpass (u := setG u (iI T.2) a b c (iI p) 0) (d := iI T.2) hr hG hrr hr2
    refine ⟨a, b, c', ?_, ?_⟩
    · rw [hw, if_pos rfl, if_pos (by rw [hs0]; (first | omega | (simp (disch := omega) only [iI_le, iI_lt, iI_eq, iI_add, iI_sub, iI_mul, iI_neg, zm1, zm2, zm3, zm4, zm5, zm6, z0, z1, z2, z3, z4, z5, z6, z7, z8, z9, z10, z11, z12, z13, z14, z15, z20, z21, z22, z23, z24, z25, z30, z31, z33, z46, z48, z49, z57, z60, z62, z63, z64, z65, z70, z74, z75, z90, z96, z99, z102, z114, z115, z116, z117, z118, z126, z128, z236, z729, z999, z9999, z46656, z65537, z1000000] <;> omega))), bn_i f1, e2, hl, hi, iI_s (A)]
      refine (go408_0 (iI code) u (iI T.2 + 1) a b c' p _ _).trans ?_
      rw [z1, iI_add]
      rfl
    · rw [hw, if_pos rfl, e2]; exact f2
  · have hl : lenP s A = 2 := by omega
    have hi : isq s A = 0 := by unfold isq; rw [if_neg (by omega)]
    have hs1 := hu.2 (A + 1) (by omega)
    have hk2 : ¬ kdT s p = 2 := by omega
    have hm : iI (s A) - 65 = iI (lndP s (gC Q code) p) := by rw [z65, iI_sub, a5]
    have hdue := p_dueNow (u := setG u (iI T.2) a b c (iI p) 0) hr hG hL hL2 a4
    rw [if_neg (by rw [hs0]; (first | omega | (simp (disch := omega) only [iI_le, iI_lt, iI_eq, iI_add, iI_sub, iI_mul, iI_neg, zm1, zm2, zm3, zm4, zm5, zm6, z0, z1, z2, z3, z4, z5, z6, z7, z8, z9, z10, z11, z12, z13, z14, z15, z20, z21, z22, z23, z24, z25, z30, z31, z33, z46, z48, z49, z57, z60, z62, z63, z64, z65, z70, z74, z75, z90, z96, z99, z102, z114, z115, z116, z117, z118, z126, z128, z236, z729, z999, z9999, z46656, z65537, z1000000] <;> omega))), iI_s (A), ck_N (by omega) (by omega), cl_N (by omega), if_pos (by rw [hs1]; (first | omega | (simp (disch := omega) only [iI_le, iI_lt, iI_eq, iI_add, iI_sub, iI_mul, iI_neg, zm1, zm2, zm3, zm4, zm5, zm6, z0, z1, z2, z3, z4, z5, z6, z7, z8, z9, z10, z11, z12, z13, z14, z15, z20, z21, z22, z23, z24, z25, z30, z31, z33, z46, z48, z49, z57, z60, z62, z63, z64, z65, z70, z74, z75, z90, z96, z99, z102, z114, z115, z116, z117, z118, z126, z128, z236, z729, z999, z9999, z46656, z65537, z1000000] <;> omega))), hs0, hm, bn_i hdue]
    by_cases c1 : hg T.1 (lndP s (gC Q code) p) = 0
    · have hw : whyS L T.1 (kdT s p) (lndP s (gC Q code) p) (borP s p) (pcT s p) = 3 := by unfold whyS; rw [if_neg hk2, if_pos a3, if_pos c1]
      refine ⟨a, b, c, ?_, ?_⟩
      · rw [hw, if_neg (show ¬ (3 : Nat) = 0 by omega), dueI_0 c1, if_neg (by (first | omega | (simp (disch := omega) only [iI_le, iI_lt, iI_eq, iI_add, iI_sub, iI_mul, iI_neg, zm1, zm2, zm3, zm4, zm5, zm6, z0, z1, z2, z3, z4, z5, z6, z7, z8, z9, z10, z11, z12, z13, z14, z15, z20, z21, z22, z23, z24, z25, z30, z31, z33, z46, z48, z49, z57, z60, z62, z63, z64, z65, z70, z74, z75, z90, z96, z99, z102, z114, z115, z116, z117, z118, z126, z128, z236, z729, z999, z9999, z46656, z65537, z1000000] <;> omega)))]
        unfold f_X4_goText_120 nm
        dsimp only
        rw [if_neg (by decide), z3]
        exact go408_w (iI code) u (iI T.2) a b c p (w := 3) (by omega) _ _
      · rw [hw, if_neg (by omega), hT]; exact hr
    · obtain ⟨k, h1, h2, h3⟩ := dueI_lt (L := L) hG a4 (show 0 < hg T.1 _ by omega)
      have h5 := (hG.1 _ a4).2.1
      rw [h2, if_pos (by (first | omega | (simp (disch := omega) only [iI_le, iI_lt, iI_eq, iI_add, iI_sub, iI_mul, iI_neg, zm1, zm2, zm3, zm4, zm5, zm6, z0, z1, z2, z3, z4, z5, z6, z7, z8, z9, z10, z11, z12, z13, z14, z15, z20, z21, z22, z23, z24, z25, z30, z31, z33, z46, z48, z49, z57, z60, z62, z63, z64, z65, z70, z74, z75, z90, z96, z99, z102, z114, z115, z116, z117, z118, z126, z128, z236, z729, z999, z9999, z46656, z65537, z1000000] <;> omega))), bn_i (p_canPay (u := setG u (iI T.2) a b c (iI p) 0) hr hG hB hL hL2 a4)]
      by_cases c2 : mon T.1 (lndP s (gC Q code) p) < penD L T.1 (lndP s (gC Q code) p)
      · have hw : whyS L T.1 (kdT s p) (lndP s (gC Q code) p) (borP s p) (pcT s p) = 4 := by unfold whyS; rw [if_neg hk2, if_pos a3, if_neg c1, if_pos c2]
        refine ⟨a, b, c, ?_, ?_⟩
        · rw [hw, if_neg (show ¬ (4 : Nat) = 0 by omega), b01_f (by omega), if_pos rfl]
          unfold f_X4_goText_120 nm
          dsimp only
          rw [if_neg (by decide), z4]
          exact go408_w (iI code) u (iI T.2) a b c p (w := 4) (by omega) _ _
        · rw [hw, if_neg (by omega), hT]; exact hr
      · have hw : whyS L T.1 (kdT s p) (lndP s (gC Q code) p) (borP s p) (pcT s p) = 0 := by unfold whyS; rw [if_neg hk2, if_pos a3, if_neg c1, if_neg c2]
        have e2 : gs L r s (gC Q code) T0 (p + 1) = (payS L T.1 (lndP s (gC Q code) p), T.2) := by rw [es]; unfold stpT; rw [if_neg hk2, if_pos a3]
        obtain ⟨a', b', c', f1, f2⟩ := p_mpay (u := setG u (iI T.2) a b c (iI p) 0) hr hG hB hL hL2 a4 (by omega) (by omega)
        refine ⟨a', b', c', ?_, ?_⟩
        · rw [hw, if_pos (show (0 : Nat) = 0 from rfl), b01_t (by omega), if_neg n10]
          unfold f_X4_goText_120 nm
          dsimp only
          rw [if_pos rfl, bn_i f1, is2, e2, hl, hi]
          exact go408_0 (iI code) u (iI T.2) a' b' c' p _ _
        · rw [hw, if_pos rfl, e2]; exact f2
  · have hs1 := hu.2 (A + 1) (by omega)
    have hs2 := hu.2 (A + 2) (by omega)
    have hs3 := hu.2 (A + 3) (by omega)
    have hk2 : ¬ kdT s p = 2 := by omega
    have hk1 : ¬ kdT s p = 1 := by omega
    obtain ⟨a', b', c', f1, f2⟩ := go271 (u := u) hr hG hB a5 a6 (pc := pcT s p) (dd := T.2) (by omega) (iI code) (iI (byF Q (q + isq s A))) (iI ((A + lenP s A : Nat) : Int)) p
    have hw : whyS L T.1 (kdT s p) (lndP s (gC Q code) p) (borP s p) (pcT s p) = (if lndP s (gC Q code) p = borP s p then 9 else if mon T.1 (lndP s (gC Q code) p) < pcT s p then 1 else if hg T.1 (borP s p) = 5 then 2 else 0) := by unfold whyS; rw [if_neg hk2, if_neg hk1]
    have e2 : gs L r s (gC Q code) T0 (p + 1) = (lendS T.1 (lndP s (gC Q code) p) (borP s p) (pcT s p) T.2, T.2) := by rw [es]; unfold stpT; rw [if_neg hk2, if_neg hk1]
    have hpcv : pcT s p = if dgt (s (A + 4)) then (s (A + 3) - 48) * 10 + s (A + 4) - 48 else s (A + 3) - 48 := by
      unfold pcT pcP
      rw [hA, if_neg a1, if_neg a2]
    have k197 : ∀ z : Int32, f_X4_goText_197 (iI code) (setG u (iI T.2) a b c (iI p) 0) (iI A) (iI (lndP s (gC Q code) p)) z = f_X4_goText_271 (iI code) (setG u (iI T.2) a b c (iI p) 0) z (iI ((A + lenP s A : Nat) : Int)) (iI (lndP s (gC Q code) p)) (iI (borP s p)) (iI (pcT s p)) := fun z => by
      unfold f_X4_goText_197 nm
      dsimp only
      rw [is2, is3, is4, ck_N (by omega) (by omega), ck_N (by omega) (by omega), cl_N (by omega), cl_N (by omega), hs2, hs3, z65, z48, iI_sub, iI_sub, ← a8, ← a7, hu.1]
      by_cases c4 : dgt (s (A + 4))
      · have h4 := tx_in ht (i := A + 4) (by omega)
        have hl : lenP s A = 5 := by omega
        rw [if_neg (by (first | omega | (simp (disch := omega) only [iI_le, iI_lt, iI_eq, iI_add, iI_sub, iI_mul, iI_neg, zm1, zm2, zm3, zm4, zm5, zm6, z0, z1, z2, z3, z4, z5, z6, z7, z8, z9, z10, z11, z12, z13, z14, z15, z20, z21, z22, z23, z24, z25, z30, z31, z33, z46, z48, z49, z57, z60, z62, z63, z64, z65, z70, z74, z75, z90, z96, z99, z102, z114, z115, z116, z117, z118, z126, z128, z236, z729, z999, z9999, z46656, z65537, z1000000] <;> omega))), ck_N (by omega) (by omega), cl_N (by omega), hu.2 (A + 4) h4, z57, bn_i (p_in (by omega) (by omega) (by omega)), b01_t c4, if_neg n10, iI_s (A + 4), z10, iI_mul, iI_add, iI_sub, hl, hpcv, if_pos c4, Int.mul_comm 10]
      · have hl : lenP s A = 4 := by omega
        rw [hl, hpcv, if_neg c4]
        by_cases c5 : n ≤ A + 4
        · rw [if_pos (by (first | omega | (simp (disch := omega) only [iI_le, iI_lt, iI_eq, iI_add, iI_sub, iI_mul, iI_neg, zm1, zm2, zm3, zm4, zm5, zm6, z0, z1, z2, z3, z4, z5, z6, z7, z8, z9, z10, z11, z12, z13, z14, z15, z20, z21, z22, z23, z24, z25, z30, z31, z33, z46, z48, z49, z57, z60, z62, z63, z64, z65, z70, z74, z75, z90, z96, z99, z102, z114, z115, z116, z117, z118, z126, z128, z236, z729, z999, z9999, z46656, z65537, z1000000] <;> omega)))]
        · rw [if_neg (by (first | omega | (simp (disch := omega) only [iI_le, iI_lt, iI_eq, iI_add, iI_sub, iI_mul, iI_neg, zm1, zm2, zm3, zm4, zm5, zm6, z0, z1, z2, z3, z4, z5, z6, z7, z8, z9, z10, z11, z12, z13, z14, z15, z20, z21, z22, z23, z24, z25, z30, z31, z33, z46, z48, z49, z57, z60, z62, z63, z64, z65, z70, z74, z75, z90, z96, z99, z102, z114, z115, z116, z117, z118, z126, z128, z236, z729, z999, z9999, z46656, z65537, z1000000] <;> omega))), ck_N (by omega) (by omega), cl_N (by omega), hu.2 (A + 4) (by omega), z57, bn_i (p_in (by omega) (by omega) (by omega)), b01_f c4, if_pos rfl]
    refine ⟨a', b', c', ?_, ?_⟩
    · rw [if_neg (by rw [hs0]; (first | omega | (simp (disch := omega) only [iI_le, iI_lt, iI_eq, iI_add, iI_sub, iI_mul, iI_neg, zm1, zm2, zm3, zm4, zm5, zm6, z0, z1, z2, z3, z4, z5, z6, z7, z8, z9, z10, z11, z12, z13, z14, z15, z20, z21, z22, z23, z24, z25, z30, z31, z33, z46, z48, z49, z57, z60, z62, z63, z64, z65, z70, z74, z75, z90, z96, z99, z102, z114, z115, z116, z117, z118, z126, z128, z236, z729, z999, z9999, z46656, z65537, z1000000] <;> omega))), iI_s (A), ck_N (by omega) (by omega), cl_N (by omega), if_neg (by rw [hs1]; (first | omega | (simp (disch := omega) only [iI_le, iI_lt, iI_eq, iI_add, iI_sub, iI_mul, iI_neg, zm1, zm2, zm3, zm4, zm5, zm6, z0, z1, z2, z3, z4, z5, z6, z7, z8, z9, z10, z11, z12, z13, z14, z15, z20, z21, z22, z23, z24, z25, z30, z31, z33, z46, z48, z49, z57, z60, z62, z63, z64, z65, z70, z74, z75, z90, z96, z99, z102, z114, z115, z116, z117, z118, z126, z128, z236, z729, z999, z9999, z46656, z65537, z1000000] <;> omega))), hw, e2]
      refine Eq.trans ?_ f1
      rcases a4 with a4 | a4
      · have hi : isq s A = 1 := by unfold isq; rw [if_pos a4.1]
        have hgc : iI (code : Int) / iI (byF Q q : Int) - iI (code : Int) / iI (byF Q q : Int) / (6 : Int32) * (6 : Int32) = iI (lndP s (gC Q code) p) := by
          have hd1 : ((code / byF Q q : Nat) : Int) = (code : Int) / (byF Q q : Int) := Int.natCast_ediv _ _
          have hd2 := Nat.div_le_self code (byF Q q)
          have hd3 : 0 ≤ (code : Int) / (byF Q q : Int) := by rw [← hd1]; exact Int.natCast_nonneg _
          rw [iI_div (by omega) (by omega) (by omega) (by omega), z6, iI_rem (by omega) (by omega) (by omega) (by omega), a4.2]
          unfold gC
          congr 1
        rw [if_pos (by rw [hs0]; (first | omega | (simp (disch := omega) only [iI_le, iI_lt, iI_eq, iI_add, iI_sub, iI_mul, iI_neg, zm1, zm2, zm3, zm4, zm5, zm6, z0, z1, z2, z3, z4, z5, z6, z7, z8, z9, z10, z11, z12, z13, z14, z15, z20, z21, z22, z23, z24, z25, z30, z31, z33, z46, z48, z49, z57, z60, z62, z63, z64, z65, z70, z74, z75, z90, z96, z99, z102, z114, z115, z116, z117, z118, z126, z128, z236, z729, z999, z9999, z46656, z65537, z1000000] <;> omega))), dz_i (by (first | omega | (simp (disch := omega) only [iI_le, iI_lt, iI_eq, iI_add, iI_sub, iI_mul, iI_neg, zm1, zm2, zm3, zm4, zm5, zm6, z0, z1, z2, z3, z4, z5, z6, z7, z8, z9, z10, z11, z12, z13, z14, z15, z20, z21, z22, z23, z24, z25, z30, z31, z33, z46, z48, z49, z57, z60, z62, z63, z64, z65, z70, z74, z75, z90, z96, z99, z102, z114, z115, z116, z117, z118, z126, z128, z236, z729, z999, z9999, z46656, z65537, z1000000] <;> omega))), hgc]
        unfold f_X4_goText_171
        dsimp only
        rw [ck_N (by omega) (by omega), cl_N (by omega), if_pos (by rw [hs0]; (first | omega | (simp (disch := omega) only [iI_le, iI_lt, iI_eq, iI_add, iI_sub, iI_mul, iI_neg, zm1, zm2, zm3, zm4, zm5, zm6, z0, z1, z2, z3, z4, z5, z6, z7, z8, z9, z10, z11, z12, z13, z14, z15, z20, z21, z22, z23, z24, z25, z30, z31, z33, z46, z48, z49, z57, z60, z62, z63, z64, z65, z70, z74, z75, z90, z96, z99, z102, z114, z115, z116, z117, z118, z126, z128, z236, z729, z999, z9999, z46656, z65537, z1000000] <;> omega))), k197, k197, hi]
        by_cases c6 : byF Q q ≤ 1
        · rw [if_pos (by (first | omega | (simp (disch := omega) only [iI_le, iI_lt, iI_eq, iI_add, iI_sub, iI_mul, iI_neg, zm1, zm2, zm3, zm4, zm5, zm6, z0, z1, z2, z3, z4, z5, z6, z7, z8, z9, z10, z11, z12, z13, z14, z15, z20, z21, z22, z23, z24, z25, z30, z31, z33, z46, z48, z49, z57, z60, z62, z63, z64, z65, z70, z74, z75, z90, z96, z99, z102, z114, z115, z116, z117, z118, z126, z128, z236, z729, z999, z9999, z46656, z65537, z1000000] <;> omega))), hby.2.2.1 c6]
        · rw [if_neg (by (first | omega | (simp (disch := omega) only [iI_le, iI_lt, iI_eq, iI_add, iI_sub, iI_mul, iI_neg, zm1, zm2, zm3, zm4, zm5, zm6, z0, z1, z2, z3, z4, z5, z6, z7, z8, z9, z10, z11, z12, z13, z14, z15, z20, z21, z22, z23, z24, z25, z30, z31, z33, z46, z48, z49, z57, z60, z62, z63, z64, z65, z70, z74, z75, z90, z96, z99, z102, z114, z115, z116, z117, z118, z126, z128, z236, z729, z999, z9999, z46656, z65537, z1000000] <;> omega))), z6, iI_div (by omega) (by omega) (by omega) (by omega), ← hby.2.2.2 c6]
          rfl
      · have hi : isq s A = 0 := by unfold isq; rw [if_neg (by omega)]
        have hm : iI (s A) - 65 = iI (lndP s (gC Q code) p) := by rw [z65, iI_sub, a4.2.1]
        rw [if_neg (by rw [hs0]; (first | omega | (simp (disch := omega) only [iI_le, iI_lt, iI_eq, iI_add, iI_sub, iI_mul, iI_neg, zm1, zm2, zm3, zm4, zm5, zm6, z0, z1, z2, z3, z4, z5, z6, z7, z8, z9, z10, z11, z12, z13, z14, z15, z20, z21, z22, z23, z24, z25, z30, z31, z33, z46, z48, z49, z57, z60, z62, z63, z64, z65, z70, z74, z75, z90, z96, z99, z102, z114, z115, z116, z117, z118, z126, z128, z236, z729, z999, z9999, z46656, z65537, z1000000] <;> omega))), hs0, hm]
        unfold f_X4_goText_171
        dsimp only
        rw [ck_N (by omega) (by omega), cl_N (by omega), if_neg (by rw [hs0]; (first | omega | (simp (disch := omega) only [iI_le, iI_lt, iI_eq, iI_add, iI_sub, iI_mul, iI_neg, zm1, zm2, zm3, zm4, zm5, zm6, z0, z1, z2, z3, z4, z5, z6, z7, z8, z9, z10, z11, z12, z13, z14, z15, z20, z21, z22, z23, z24, z25, z30, z31, z33, z46, z48, z49, z57, z60, z62, z63, z64, z65, z70, z74, z75, z90, z96, z99, z102, z114, z115, z116, z117, z118, z126, z128, z236, z729, z999, z9999, z46656, z65537, z1000000] <;> omega))), k197, hi]
        rfl
    · rw [← hw] at f2
      by_cases c : whyS L T.1 (kdT s p) (lndP s (gC Q code) p) (borP s p) (pcT s p) = 0
      · rw [if_pos c] at f2 ⊢; rw [e2]; exact f2
      · rw [if_neg c] at f2 ⊢; rw [hT]; exact f2
theorem go_loop {n : Nat} {s : Nat → Int} {P : Nat} (ht : tx n s) (hP : rds n s P) (hend : n ≤ (pl s P).1) {u : MS} (hu : tM u n s) {L r B : Int} (hB : B ≤ 2000000) (hL : u.1 = iI L) (hrr : u.2.1 = iI r) (hL2 : 0 ≤ L ∧ L ≤ 2) (hr2 : 0 ≤ r ∧ r ≤ 9) {Q code : Nat} (hQ : Q ≤ 3) (hco : code < 1000) {T0 : SV × Int} (hG0 : gd B T0.1) : ∀ (k p : Nat) (a b c : AI), p + k = P → rM a b c (gs L r s (gC Q code) T0 p).1 → (∀ i, i < p → wy L r s (gC Q code) T0 i = 0) → ∃ a' b' c' w, lpx (st_X4_goText (iI code)) (.inr (setG u (iI (gs L r s (gC Q code) T0 p).2) a b c (iI p) 0, iI (byF Q (pl s p).2), iI ((pl s p).1 : Int))) = some (iI (rz P (ff (wy L r s (gC Q code) T0) k p)), setG u (iI (gs L r s (gC Q code) T0 (ff (wy L r s (gC Q code) T0) k p)).2) a' b' c' (iI (ff (wy L r s (gC Q code) T0) k p)) w) ∧ rM a' b' c' (gs L r s (gC Q code) T0 (ff (wy L r s (gC Q code) T0) k p)).1 ∧ (ff (wy L r s (gC Q code) T0) k p < P → w = iI (wy L r s (gC Q code) T0 (ff (wy L r s (gC Q code) T0) k p))) := by
  have hn := ht.1
  intro k
  induction k with
  | zero =>
    intro p a b c hp hr hw
    have : p = P := by omega
    subst this
    have hq := rds_q ht hP p (Nat.le_refl _)
    refine ⟨a, b, c, 0, lpx_r ?_, hr, fun h => absurd h (by show ¬ p < p; omega)⟩
    show f_X4_goText_39 (iI code) _ _ _ = _
    unfold f_X4_goText_39 rz ff
    dsimp only
    rw [hu.1, if_pos (by (first | omega | (simp (disch := omega) only [iI_le, iI_lt, iI_eq, iI_add, iI_sub, iI_mul, iI_neg, zm1, zm2, zm3, zm4, zm5, zm6, z0, z1, z2, z3, z4, z5, z6, z7, z8, z9, z10, z11, z12, z13, z14, z15, z20, z21, z22, z23, z24, z25, z30, z31, z33, z46, z48, z49, z57, z60, z62, z63, z64, z65, z70, z74, z75, z90, z96, z99, z102, z114, z115, z116, z117, z118, z126, z128, z236, z729, z999, z9999, z46656, z65537, z1000000] <;> omega))), if_pos rfl, ← zm6]
  | succ k ih =>
    intro p a b c hp hr hw
    have hG := (gs_ok ht hP (gC_6 Q code) (L := L) hr2 hG0 p (by omega) hw).1
    obtain ⟨a', b', c', e1, e2⟩ := go_part ht hP hu hB hL hrr hL2 hr2 hQ hco (p := p) (by omega) hr hG
    by_cases c0 : wy L r s (gC Q code) T0 p = 0
    · rw [if_pos c0] at e1 e2
      have ef : ff (wy L r s (gC Q code) T0) (k + 1) p = ff (wy L r s (gC Q code) T0) k (p + 1) := if_pos c0
      rw [ef]
      obtain ⟨a2, b2, c2, w, f1, f2, f3⟩ := ih (p + 1) a' b' c' (by omega) e2 (fun i hi => by
        by_cases e : i = p
        · subst e; exact c0
        · exact hw i (by omega))
      exact ⟨a2, b2, c2, w, (lpx_l e1).trans f1, f2, f3⟩
    · rw [if_neg c0] at e1 e2
      have ef : ff (wy L r s (gC Q code) T0) (k + 1) p = p := if_neg c0
      rw [ef]
      refine ⟨a', b', c', _, (lpx_r e1).trans ?_, e2, fun _ => rfl⟩
      unfold rz
      rw [if_neg (by omega : ¬ p = P)]
theorem go_by {n : Nat} {s : Nat → Int} (ht : tx n s) {u : MS} (hu : tM u n s) (hQ : cq s n ≤ 3) (x1 : Int32) : lpx (st_X4_goText x1) (.inl (u, 1, 1)) = lpx (st_X4_goText x1) (.inr (u, iI (byF (cq s n) 0), 0)) := by
  have ho := p_opens hu ht
  have stop : ∀ (y : Int32) (i : Nat), cq s n ≤ i → i ≤ 10 → lpx (st_X4_goText x1) (.inl (u, y, iI i)) = lpx (st_X4_goText x1) (.inr (u, y, 0)) := fun y i h1 h2 => by
    refine lpx_l ?_
    show f_X4_goText_18 x1 _ _ _ = _
    unfold f_X4_goText_18
    rw [bn_i ho, if_pos (by (first | omega | (simp (disch := omega) only [iI_le, iI_lt, iI_eq, iI_add, iI_sub, iI_mul, iI_neg, zm1, zm2, zm3, zm4, zm5, zm6, z0, z1, z2, z3, z4, z5, z6, z7, z8, z9, z10, z11, z12, z13, z14, z15, z20, z21, z22, z23, z24, z25, z30, z31, z33, z46, z48, z49, z57, z60, z62, z63, z64, z65, z70, z74, z75, z90, z96, z99, z102, z114, z115, z116, z117, z118, z126, z128, z236, z729, z999, z9999, z46656, z65537, z1000000] <;> omega)))]
  have go : ∀ (y : Int) (i : Nat), i < cq s n → lpx (st_X4_goText x1) (.inl (u, iI y, iI i)) = lpx (st_X4_goText x1) (.inl (u, iI (y * 6), iI ((i + 1 : Nat) : Int))) := fun y i h1 => by
    refine lpx_l ?_
    show f_X4_goText_18 x1 _ _ _ = _
    unfold f_X4_goText_18 nm
    rw [bn_i ho, if_neg (by (first | omega | (simp (disch := omega) only [iI_le, iI_lt, iI_eq, iI_add, iI_sub, iI_mul, iI_neg, zm1, zm2, zm3, zm4, zm5, zm6, z0, z1, z2, z3, z4, z5, z6, z7, z8, z9, z10, z11, z12, z13, z14, z15, z20, z21, z22, z23, z24, z25, z30, z31, z33, z46, z48, z49, z57, z60, z62, z63, z64, z65, z70, z74, z75, z90, z96, z99, z102, z114, z115, z116, z117, z118, z126, z128, z236, z729, z999, z9999, z46656, z65537, z1000000] <;> omega))), z6, iI_mul, iI_s]
  have hone : ((1 : Int32), (1 : Int32)) = (iI 1, iI ((1 : Nat) : Int)) := rfl
  rw [hone]
  rcases (show cq s n = 0 ∨ cq s n = 1 ∨ cq s n = 2 ∨ cq s n = 3 by omega) with e | e | e | e
  · rw [stop _ 1 (by omega) (by omega), e]; rfl
  · rw [stop _ 1 (by omega) (by omega), e]; rfl
  · rw [go 1 1 (by omega), stop _ 2 (by omega) (by omega), e]; rfl
  · rw [go 1 1 (by omega), go _ 2 (by omega), stop _ 3 (by omega) (by omega), e]; rfl
theorem p_goText {n : Nat} {s : Nat → Int} {P : Nat} (ht : tx n s) (hP : rds n s P) (hend : n ≤ (pl s P).1) {u : MS} (hu : tM u n s) {N : Nat} (hN : N ≤ 512) {F : FA} (hG : gF N F) (hm : rFM u F) {code : Nat} (hco : code < 1000) : ∃ a b c w, f_X4_goText u (iI code) = some (iI (rz P (ff (wy F.2.1 F.2.2.1 s (gC (pl s P).2 code) (F.1, F.2.2.2.1)) P 0)), setG u (iI (gs F.2.1 F.2.2.1 s (gC (pl s P).2 code) (F.1, F.2.2.2.1) (ff (wy F.2.1 F.2.2.1 s (gC (pl s P).2 code) (F.1, F.2.2.2.1)) P 0)).2) a b c (iI (ff (wy F.2.1 F.2.2.1 s (gC (pl s P).2 code) (F.1, F.2.2.2.1)) P 0)) w) ∧ rM a b c (gs F.2.1 F.2.2.1 s (gC (pl s P).2 code) (F.1, F.2.2.2.1) (ff (wy F.2.1 F.2.2.1 s (gC (pl s P).2 code) (F.1, F.2.2.2.1)) P 0)).1 ∧ (ff (wy F.2.1 F.2.2.1 s (gC (pl s P).2 code) (F.1, F.2.2.2.1)) P 0 < P → w = iI (wy F.2.1 F.2.2.1 s (gC (pl s P).2 code) (F.1, F.2.2.2.1) (ff (wy F.2.1 F.2.2.1 s (gC (pl s P).2 code) (F.1, F.2.2.2.1)) P 0))) := by
  obtain ⟨d1, d2, d3⟩ := rds_end ht hP hend
  obtain ⟨a, b, c, f1, ha, hb, hc⟩ := p_asNow u
  have hr0 := rM_cong hm.1 hG.1 ha hb hc
  obtain ⟨a', b', c', w, e1, e2, e3⟩ := go_loop ht hP hend hu (B := 700000) (by omega) hm.2.1 hm.2.2.1 hG.2.1 hG.2.2.1 d3 hco (T0 := (F.1, F.2.2.2.1)) (gF_B hG hN) P 0 a b c (by omega) hr0 (fun i hi => absurd hi (by omega))
  refine ⟨a', b', c', w, ?_, e2, e3⟩
  have e4 := go_by (u := setG u (iI F.2.2.2.1) a b c 0 0) ht hu (by omega) (iI code)
  rw [d2] at e4
  unfold f_X4_goText f_X4_goText_0 nm
  rw [bn_i f1]
  have e5 := e4.trans e1
  rw [show iI F.2.2.2.1 = u.2.2.1 from hm.2.2.2.1.symm] at e5
  exact e5
