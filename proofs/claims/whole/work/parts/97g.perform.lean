/-! DOING the parts of a text -/
def lndP (s : Nat → Int) (g : Nat → Nat) (p : Nat) : Nat := if s (pl s p).1 = 63 then g (pl s p).2 else (s (pl s p).1 - 65).toNat
def borP (s : Nat → Int) (p : Nat) : Nat := (brP s (pl s p).1).toNat
abbrev kdT (s : Nat → Int) (p : Nat) : Int := kdP s (pl s p).1
abbrev pcT (s : Nat → Int) (p : Nat) : Int := pcP s (pl s p).1
noncomputable def whyS (L : Int) (S : SV) (k : Int) (f t : Nat) (c : Int) : Nat := if k = 2 then 0 else if k = 1 then (if hg S f = 0 then 3 else if mon S f < penD L S f then 4 else 0) else if f = t then 9 else if mon S f < c then 1 else if hg S t = 5 then 2 else 0
noncomputable def stpT (L r : Int) (T : SV × Int) (k : Int) (f t : Nat) (c : Int) : SV × Int := if k = 2 then (passS r T.1, T.2 + 1) else if k = 1 then (payS L T.1 f, T.2) else (lendS T.1 f t c T.2, T.2)
noncomputable def gs (L r : Int) (s : Nat → Int) (g : Nat → Nat) (T0 : SV × Int) : Nat → SV × Int
  | 0 => T0
  | p + 1 => stpT L r (gs L r s g T0 p) (kdT s p) (lndP s g p) (borP s p) (pcT s p)
noncomputable def wy (L r : Int) (s : Nat → Int) (g : Nat → Nat) (T0 : SV × Int) (p : Nat) : Nat := whyS L (gs L r s g T0 p).1 (kdT s p) (lndP s g p) (borP s p) (pcT s p)
theorem pt_ok {n : Nat} {s : Nat → Int} {P : Nat} (ht : tx n s) (hP : rds n s P) {g : Nat → Nat} (hg6 : ∀ i, g i < 6) {p : Nat} (hp : p < P) : (s (pl s p).1 = 46 ∧ kdT s p = 2) ∨ (ltr (s (pl s p).1) ∧ s ((pl s p).1 + 1) = 33 ∧ kdT s p = 1 ∧ lndP s g p < 6 ∧ (lndP s g p : Int) = s (pl s p).1 - 65) ∨ (¬ s (pl s p).1 = 46 ∧ ¬ s ((pl s p).1 + 1) = 33 ∧ kdT s p = 0 ∧ (s (pl s p).1 = 63 ∧ lndP s g p = g (pl s p).2 ∨ ltr (s (pl s p).1) ∧ (lndP s g p : Int) = s (pl s p).1 - 65 ∧ ¬ lndP s g p = borP s p) ∧ lndP s g p < 6 ∧ borP s p < 6 ∧ (borP s p : Int) = brP s (pl s p).1 ∧ brP s (pl s p).1 = s ((pl s p).1 + 2) - 65 ∧ 1 ≤ pcT s p ∧ pcT s p ≤ 99) := by
  have hl := (hP.1 p hp).2
  have h6 := hg6 (pl s p).2
  unfold kdT pcT kdP pcP borP brP lndP
  rcases fOP_ok ht hl with ⟨g1, g2⟩ | ⟨g1, g2, g3⟩ | ⟨g1, g2, g3, g4, g5, g6, g7⟩
  · exact Or.inl ⟨g1, if_pos g1⟩
  · refine Or.inr (Or.inl ⟨g1, g2, ?_, ?_, ?_⟩)
    · rw [if_neg (by omega), if_pos g2]
    · rw [if_neg (by omega)]; omega
    · rw [if_neg (by omega)]; omega
  · refine Or.inr (Or.inr ?_)
    have c1 : ¬ s (pl s p).1 = 46 := by omega
    have c2 : ¬ s ((pl s p).1 + 1) = 33 := by omega
    rw [if_neg c1, if_neg c1, if_neg c1, if_neg c2, if_neg c2, if_neg c2]
    refine ⟨c1, c2, rfl, ?_, ?_, by omega, by omega, rfl, ?_⟩
    · rcases g1 with g1 | g1
      · exact Or.inl ⟨g1.1, if_pos g1.1⟩
      · rw [if_neg (by omega)]
        exact Or.inr ⟨g1, by omega, by omega⟩
    · split <;> omega
    · split <;> omega
/-- the first part that can not be, among k from p on -/
def ff (W : Nat → Nat) : Nat → Nat → Nat
  | 0, p => p
  | k + 1, p => if W p = 0 then ff W k (p + 1) else p
theorem ff_rng (W : Nat → Nat) : ∀ k p, p ≤ ff W k p ∧ ff W k p ≤ p + k ∧ (ff W k p < p + k → ¬ W (ff W k p) = 0) ∧ ∀ i, p ≤ i → i < ff W k p → W i = 0
  | 0, p => ⟨Nat.le_refl _, Nat.le_refl _, fun h => absurd h (by show ¬ p < p + 0; omega), fun i h1 h2 => absurd h2 (by show ¬ i < p; omega)⟩
  | k + 1, p => by
    unfold ff
    by_cases c : W p = 0
    · rw [if_pos c]
      obtain ⟨h1, h2, h3, h4⟩ := ff_rng W k (p + 1)
      refine ⟨by omega, by omega, fun h => h3 (by omega), fun i q1 q2 => ?_⟩
      by_cases e : i = p
      · subst e; exact c
      · exact h4 i (by omega) q2
    · rw [if_neg c]
      exact ⟨Nat.le_refl _, by omega, fun _ => c, fun i q1 q2 => absurd q2 (by omega)⟩
def rz (P R : Nat) : Int := if R = P then -6 else R
theorem gs_ok {n : Nat} {s : Nat → Int} {P : Nat} (ht : tx n s) (hP : rds n s P) {g : Nat → Nat} (hg6 : ∀ i, g i < 6) {L r B : Int} (hr2 : 0 ≤ r ∧ r ≤ 9) {T0 : SV × Int} (hG : gd B T0.1) : ∀ p, p ≤ P → (∀ i, i < p → wy L r s g T0 i = 0) → gd B (gs L r s g T0 p).1 ∧ T0.2 ≤ (gs L r s g T0 p).2 ∧ (gs L r s g T0 p).2 ≤ T0.2 + p
  | 0, _, _ => ⟨hG, Int.le_refl _, by show T0.2 ≤ T0.2 + ((0 : Nat) : Int); omega⟩
  | p + 1, hp, hw => by
    obtain ⟨i1, i2, i3⟩ := gs_ok ht hP hg6 hr2 hG p (by omega) (fun i hi => hw i (by omega))
    have h0 := hw p (by omega)
    unfold gs stpT
    unfold wy whyS at h0
    rcases pt_ok ht hP hg6 (p := p) (by omega) with ⟨a1, a2⟩ | ⟨a1, a2, a3, a4, a5⟩ | ⟨a1, a2, a3, a4, a5, a6, a7, a8, a9⟩
    · rw [if_pos a2]
      exact ⟨gd_pass i1 hr2.1, by dsimp only; omega, by dsimp only; omega⟩
    · rw [if_neg (by omega), if_pos a3] at h0 ⊢
      have c1 : ¬ hg (gs L r s g T0 p).1 (lndP s g p) = 0 := fun q => by rw [if_pos q] at h0; omega
      rw [if_neg c1] at h0
      have c2 : ¬ mon (gs L r s g T0 p).1 (lndP s g p) < penD L (gs L r s g T0 p).1 (lndP s g p) := fun q => by rw [if_pos q] at h0; omega
      exact ⟨gd_pay i1 a4 (by omega) (by omega), i2, by dsimp only; omega⟩
    · rw [if_neg (by omega), if_neg (by omega)] at h0 ⊢
      have c0 : ¬ lndP s g p = borP s p := fun q => by rw [if_pos q] at h0; omega
      rw [if_neg c0] at h0
      have c1 : ¬ mon (gs L r s g T0 p).1 (lndP s g p) < pcT s p := fun q => by rw [if_pos q] at h0; omega
      rw [if_neg c1] at h0
      have c2 : ¬ hg (gs L r s g T0 p).1 (borP s p) = 5 := fun q => by rw [if_pos q] at h0; omega
      have h5 := (i1.1 _ a6).2.1
      exact ⟨gd_lend i1 a5 a6 (by omega) (by omega) (by omega), i2, by dsimp only; omega⟩
theorem pl_q (s : Nat → Int) (p : Nat) : ∀ k, (pl s p).2 + (if k = 0 then 0 else isq s (pl s p).1) ≤ (pl s (p + k)).2
  | 0 => by rw [if_pos rfl]; exact Nat.le_refl _
  | k + 1 => by
    have ih := pl_q s p k
    rw [if_neg (by omega)]
    show _ ≤ (pl s (p + k)).2 + isq s (pl s (p + k)).1
    by_cases c : k = 0
    · subst c; exact Nat.le_refl _
    · rw [if_neg c] at ih; omega
def gOk (d : DS) (s : Nat → Int) (P : Nat) (g : Nat → Nat) : Prop := ∀ i, i < (pl s P).2 → d.2.2.2.2.2.1 i = iI (g i)
theorem p_manOf {n : Nat} {s : Nat → Int} {P : Nat} (ht : tx n s) (hP : rds n s P) {g : Nat → Nat} (hg6 : ∀ i, g i < 6) {d : DS} (hr : rR d s P) (hd : gOk d s P g) {p : Nat} (hp : p < P) (hk : ¬ kdT s p = 2) : f_X0_manOf d (iI (drP s (pl s p).1 (pl s p).2)) = some (iI (lndP s g p)) := by
  have h3 := (rds_q ht hP P (Nat.le_refl _)).2
  have hq := pl_q s p (P - p)
  rw [if_neg (by omega), show p + (P - p) = P by omega] at hq
  have letter : ltr (s (pl s p).1) → f_X0_manOf d (iI (drP s (pl s p).1 (pl s p).2)) = some (iI (lndP s g p)) := fun h => by
    unfold f_X0_manOf drP lndP
    rw [if_neg (by omega), if_neg (by omega), if_neg (by omega), bn_i (p_isMan (by omega)), b01_t (by omega), if_neg n10]
    congr 2
    omega
  rcases pt_ok ht hP hg6 hp with ⟨a1, a2⟩ | ⟨a1, a2, a3, a4, a5⟩ | ⟨a1, a2, a3, a4, a5, a6, a7, a8, a9⟩
  · exact absurd a2 hk
  · exact letter a1
  · rcases a4 with a4 | a4
    · have hi : isq s (pl s p).1 = 1 := by unfold isq; rw [if_pos a4.1]
      rw [hi] at hq
      unfold f_X0_manOf drP f_X0_manFor
      rw [if_neg a1, if_pos a4.1, bn_i (p_isMan (by omega)), b01_f (by omega), if_pos rfl, z6, iI_sub, show (6 + ((pl s p).2 : Int) - 6) = ((pl s p).2 : Int) by omega, if_neg (by (first | omega | (simp (disch := omega) only [iI_le, iI_lt, iI_eq, iI_add, iI_sub, iI_mul, iI_neg, zm1, zm2, zm3, zm4, zm5, zm6, z0, z1, z2, z3, z4, z5, z6, z7, z8, z9, z10, z11, z12, z13, z14, z15, z20, z21, z22, z23, z24, z25, z30, z31, z33, z46, z48, z49, z57, z60, z62, z63, z64, z65, z70, z74, z75, z90, z96, z99, z102, z114, z115, z116, z117, z118, z126, z128, z236, z729, z999, z9999, z46656, z65537, z1000000] <;> omega))), hr.2.1, if_neg (by (first | omega | (simp (disch := omega) only [iI_le, iI_lt, iI_eq, iI_add, iI_sub, iI_mul, iI_neg, zm1, zm2, zm3, zm4, zm5, zm6, z0, z1, z2, z3, z4, z5, z6, z7, z8, z9, z10, z11, z12, z13, z14, z15, z20, z21, z22, z23, z24, z25, z30, z31, z33, z46, z48, z49, z57, z60, z62, z63, z64, z65, z70, z74, z75, z90, z96, z99, z102, z114, z115, z116, z117, z118, z126, z128, z236, z729, z999, z9999, z46656, z65537, z1000000] <;> omega))), if_neg (by (first | omega | (simp (disch := omega) only [iI_le, iI_lt, iI_eq, iI_add, iI_sub, iI_mul, iI_neg, zm1, zm2, zm3, zm4, zm5, zm6, z0, z1, z2, z3, z4, z5, z6, z7, z8, z9, z10, z11, z12, z13, z14, z15, z20, z21, z22, z23, z24, z25, z30, z31, z33, z46, z48, z49, z57, z60, z62, z63, z64, z65, z70, z74, z75, z90, z96, z99, z102, z114, z115, z116, z117, z118, z126, z128, z236, z729, z999, z9999, z46656, z65537, z1000000] <;> omega))), ck_N (by omega) (by omega), cl_N (by omega), hd _ (by omega), a4.2]
      rfl
    · exact letter a4.1
abbrev fT (F : FA) (T : SV × Int) : FA := (T.1, F.2.1, F.2.2.1, T.2, F.2.2.2.2)
theorem p_performPart {n : Nat} {s : Nat → Int} {P : Nat} (ht : tx n s) (hP : rds n s P) {g : Nat → Nat} (hg6 : ∀ i, g i < 6) {d : DS} (hr : rR d s P) (hd : gOk d s P g) {F : FA} {B : Int} (hB : B ≤ 2000000) (hL2 : 0 ≤ F.2.1 ∧ F.2.1 ≤ 2) (hr2 : 0 ≤ F.2.2.1 ∧ F.2.2.1 ≤ 9) {T0 : SV × Int} {p : Nat} (hp : p < P) (h9 : kdT s p = 0 → ¬ lndP s g p = borP s p) {v : VS} (hv : rFV v (fT F (gs F.2.1 F.2.2.1 s g T0 p))) (hG : gd B (gs F.2.1 F.2.2.1 s g T0 p).1) : ∃ v', f_X0_performPart d v (iI p) = some (iI (wy F.2.1 F.2.2.1 s g T0 p), v') ∧ rFV v' (fT F (gs F.2.1 F.2.2.1 s g T0 (if wy F.2.1 F.2.2.1 s g T0 p = 0 then p + 1 else p))) := by
  have hn := ht.1
  have hPn := rds_P ht hP
  obtain ⟨r1, r2, r3, r4⟩ := hr.2.2 p hp
  have hm := fun hk => p_manOf ht hP hg6 hr hd hp hk
  unfold f_X0_performPart
  rw [if_neg (by (first | omega | (simp (disch := omega) only [iI_le, iI_lt, iI_eq, iI_add, iI_sub, iI_mul, iI_neg, zm1, zm2, zm3, zm4, zm5, zm6, z0, z1, z2, z3, z4, z5, z6, z7, z8, z9, z10, z11, z12, z13, z14, z15, z20, z21, z22, z23, z24, z25, z30, z31, z33, z46, z48, z49, z57, z60, z62, z63, z64, z65, z70, z74, z75, z90, z96, z99, z102, z114, z115, z116, z117, z118, z126, z128, z236, z729, z999, z9999, z46656, z65537, z1000000] <;> omega))), if_pos (by (first | omega | (simp (disch := omega) only [iI_le, iI_lt, iI_eq, iI_add, iI_sub, iI_mul, iI_neg, zm1, zm2, zm3, zm4, zm5, zm6, z0, z1, z2, z3, z4, z5, z6, z7, z8, z9, z10, z11, z12, z13, z14, z15, z20, z21, z22, z23, z24, z25, z30, z31, z33, z46, z48, z49, z57, z60, z62, z63, z64, z65, z70, z74, z75, z90, z96, z99, z102, z114, z115, z116, z117, z118, z126, z128, z236, z729, z999, z9999, z46656, z65537, z1000000] <;> omega))), ck_N (by omega) (by omega), cl_N (by omega), r1]
  have es : gs F.2.1 F.2.2.1 s g T0 (p + 1) = stpT F.2.1 F.2.2.1 (gs F.2.1 F.2.2.1 s g T0 p) (kdT s p) (lndP s g p) (borP s p) (pcT s p) := rfl
  generalize hT : gs F.2.1 F.2.2.1 s g T0 p = T at *
  have hv1 : rV v T.1 := hv.1
  have hvL : v.2.2.2.2.2.2.2.2.2.1 = iI F.2.1 := hv.2.1
  have hvd : v.2.2.2.2.2.2.2.2.1 = iI T.2 := hv.2.2.2.1
  rcases pt_ok ht hP hg6 hp with ⟨a1, a2⟩ | ⟨a1, a2, a3, a4, a5⟩ | ⟨a1, a2, a3, a4, a5, a6, a7, a8, a9, a10⟩
  · have hw : wy F.2.1 F.2.2.1 s g T0 p = 0 := by unfold wy whyS; rw [if_pos a2]
    have e2 : gs F.2.1 F.2.2.1 s g T0 (p + 1) = (passS F.2.2.1 T.1, T.2 + 1) := by rw [es]; unfold stpT; rw [if_pos a2]
    rw [if_pos (by rw [show kdP s (pl s p).1 = 2 from a2, z2]), p_passDay, bn_i rfl, hw, if_pos rfl, e2]
    refine ⟨_, rfl, rV_pass hv.1 hG hv.2.2.1 hr2 _, hv.2.1, hv.2.2.1, ?_, hv.2.2.2.2⟩
    show v.2.2.2.2.2.2.2.2.1 + 1 = iI (T.2 + 1)
    rw [hv.2.2.2.1, z1, iI_add]
  · have hk2 : ¬ kdT s p = 2 := by omega
    rw [if_neg (by rw [show kdP s (pl s p).1 = 1 from a3]; (first | omega | (simp (disch := omega) only [iI_le, iI_lt, iI_eq, iI_add, iI_sub, iI_mul, iI_neg, zm1, zm2, zm3, zm4, zm5, zm6, z0, z1, z2, z3, z4, z5, z6, z7, z8, z9, z10, z11, z12, z13, z14, z15, z20, z21, z22, z23, z24, z25, z30, z31, z33, z46, z48, z49, z57, z60, z62, z63, z64, z65, z70, z74, z75, z90, z96, z99, z102, z114, z115, z116, z117, z118, z126, z128, z236, z729, z999, z9999, z46656, z65537, z1000000] <;> omega))), r2, bn_i (hm hk2), if_pos (by rw [show kdP s (pl s p).1 = 1 from a3, z1])]
    by_cases c1 : hg T.1 (lndP s g p) = 0
    · have hw : wy F.2.1 F.2.2.1 s g T0 p = 3 := by unfold wy whyS; rw [hT, if_neg hk2, if_pos a3, if_pos c1]
      rw [hw, if_neg (by omega), hT, bn_i (p_repay0 hv1 hG hvL hL2 a4 c1)]
      exact ⟨v, by rw [z3]; rfl, hv⟩
    · by_cases c2 : mon T.1 (lndP s g p) < penD F.2.1 T.1 (lndP s g p)
      · have hw : wy F.2.1 F.2.2.1 s g T0 p = 4 := by unfold wy whyS; rw [hT, if_neg hk2, if_pos a3, if_neg c1, if_pos c2]
        rw [hw, if_neg (by omega), hT, bn_i (p_repay4 hv1 hG hB hvL hL2 a4 (by omega) c2)]
        exact ⟨v, by rw [z4]; rfl, hv⟩
      · have hw : wy F.2.1 F.2.2.1 s g T0 p = 0 := by unfold wy whyS; rw [hT, if_neg hk2, if_pos a3, if_neg c1, if_neg c2]
        have e2 : gs F.2.1 F.2.2.1 s g T0 (p + 1) = (payS F.2.1 T.1 (lndP s g p), T.2) := by rw [es]; unfold stpT; rw [if_neg hk2, if_pos a3]
        obtain ⟨b1, b2, b3, b4, b5, f1, f2⟩ := p_repay hv1 hG hB hvL hL2 a4 (by omega) (by omega)
        rw [hw, if_pos rfl, e2, bn_i f1]
        exact ⟨_, by rw [z0]; rfl, f2, hv.2⟩
  · have hk2 : ¬ kdT s p = 2 := by omega
    have hk1 : ¬ kdT s p = 1 := by omega
    rw [if_neg (by rw [show kdP s (pl s p).1 = 0 from a3]; (first | omega | (simp (disch := omega) only [iI_le, iI_lt, iI_eq, iI_add, iI_sub, iI_mul, iI_neg, zm1, zm2, zm3, zm4, zm5, zm6, z0, z1, z2, z3, z4, z5, z6, z7, z8, z9, z10, z11, z12, z13, z14, z15, z20, z21, z22, z23, z24, z25, z30, z31, z33, z46, z48, z49, z57, z60, z62, z63, z64, z65, z70, z74, z75, z90, z96, z99, z102, z114, z115, z116, z117, z118, z126, z128, z236, z729, z999, z9999, z46656, z65537, z1000000] <;> omega))), r2, bn_i (hm hk2), if_neg (by rw [show kdP s (pl s p).1 = 0 from a3]; (first | omega | (simp (disch := omega) only [iI_le, iI_lt, iI_eq, iI_add, iI_sub, iI_mul, iI_neg, zm1, zm2, zm3, zm4, zm5, zm6, z0, z1, z2, z3, z4, z5, z6, z7, z8, z9, z10, z11, z12, z13, z14, z15, z20, z21, z22, z23, z24, z25, z30, z31, z33, z46, z48, z49, z57, z60, z62, z63, z64, z65, z70, z74, z75, z90, z96, z99, z102, z114, z115, z116, z117, z118, z126, z128, z236, z729, z999, z9999, z46656, z65537, z1000000] <;> omega))), r3, r4, ← a7]
    have hne := h9 a3
    by_cases c1 : mon T.1 (lndP s g p) < pcT s p
    · have hw : wy F.2.1 F.2.2.1 s g T0 p = 1 := by unfold wy whyS; rw [hT, if_neg hk2, if_neg hk1, if_neg hne, if_pos c1]
      rw [hw, if_neg (by omega), hT, bn_i (p_lend1 hv1 hG hB a5 (p := pcT s p) (by omega) c1 _)]
      exact ⟨v, by rw [z1]; rfl, hv⟩
    · by_cases c2 : hg T.1 (borP s p) = 5
      · have hw : wy F.2.1 F.2.2.1 s g T0 p = 2 := by unfold wy whyS; rw [hT, if_neg hk2, if_neg hk1, if_neg hne, if_neg c1, if_pos c2]
        rw [hw, if_neg (by omega), hT, bn_i (p_lend2 hv1 hG hB a5 a6 (p := pcT s p) (by omega) (by omega) c2)]
        exact ⟨v, by rw [z2]; rfl, hv⟩
      · have hw : wy F.2.1 F.2.2.1 s g T0 p = 0 := by unfold wy whyS; rw [hT, if_neg hk2, if_neg hk1, if_neg hne, if_neg c1, if_neg c2]
        have e2 : gs F.2.1 F.2.2.1 s g T0 (p + 1) = (lendS T.1 (lndP s g p) (borP s p) (pcT s p) T.2, T.2) := by rw [es]; unfold stpT; rw [if_neg hk2, if_neg hk1]
        have h5 := (hG.1 _ a6).2.1
        obtain ⟨b1, b2, b3, b4, b5, f1, f2⟩ := p_lend hv1 hG hB hvd a5 a6 (p := pcT s p) (by omega) (by omega) (by omega)
        rw [hw, if_pos rfl, e2, bn_i f1]
        exact ⟨_, by rw [z0]; rfl, f2, hv.2⟩
abbrev setW (d : DS) (w : Int32) : DS := (d.1, d.2.1, d.2.2.1, d.2.2.2.1, d.2.2.2.2.1, d.2.2.2.2.2.1, d.2.2.2.2.2.2.1, d.2.2.2.2.2.2.2.1, d.2.2.2.2.2.2.2.2.1, w)
theorem perf_loop {n : Nat} {s : Nat → Int} {P : Nat} (ht : tx n s) (hP : rds n s P) {g : Nat → Nat} (hg6 : ∀ i, g i < 6) {F : FA} {B : Int} (hB : B ≤ 2000000) (hL2 : 0 ≤ F.2.1 ∧ F.2.1 ≤ 2) (hr2 : 0 ≤ F.2.2.1 ∧ F.2.2.1 ≤ 9) {T0 : SV × Int} (hG0 : gd B T0.1) (h9 : ∀ p, p < P → kdT s p = 0 → ¬ lndP s g p = borP s p) (v1 : VS) : ∀ (k p : Nat) (d : DS) (v : VS), p + k = P → rR d s P → gOk d s P g → (∀ i, i < p → wy F.2.1 F.2.2.1 s g T0 i = 0) → rFV v (fT F (gs F.2.1 F.2.2.1 s g T0 p)) → ∃ w v', lpx (st_X0_perform v1) (d, v, iI p) = some (iI (rz P (ff (wy F.2.1 F.2.2.1 s g T0) k p)), setW d w, v') ∧ rFV v' (fT F (gs F.2.1 F.2.2.1 s g T0 (ff (wy F.2.1 F.2.2.1 s g T0) k p))) ∧ (ff (wy F.2.1 F.2.2.1 s g T0) k p < P → w = iI (wy F.2.1 F.2.2.1 s g T0 (ff (wy F.2.1 F.2.2.1 s g T0) k p))) := by
  have hn := ht.1
  have hPn := rds_P ht hP
  intro k
  induction k with
  | zero =>
    intro p d v hp hr hd hw hv
    have : p = P := by omega
    subst this
    refine ⟨d.2.2.2.2.2.2.2.2.2, v, lpx_r ?_, hv, fun h => absurd h (by show ¬ p < p; omega)⟩
    show f_X0_perform_7 v1 _ _ _ = _
    unfold f_X0_perform_7 rz ff
    rw [hr.1, if_pos (by (first | omega | (simp (disch := omega) only [iI_le, iI_lt, iI_eq, iI_add, iI_sub, iI_mul, iI_neg, zm1, zm2, zm3, zm4, zm5, zm6, z0, z1, z2, z3, z4, z5, z6, z7, z8, z9, z10, z11, z12, z13, z14, z15, z20, z21, z22, z23, z24, z25, z30, z31, z33, z46, z48, z49, z57, z60, z62, z63, z64, z65, z70, z74, z75, z90, z96, z99, z102, z114, z115, z116, z117, z118, z126, z128, z236, z729, z999, z9999, z46656, z65537, z1000000] <;> omega))), if_pos rfl, ← zm6]
  | succ k ih =>
    intro p d v hp hr hd hw hv
    have hG := (gs_ok ht hP hg6 hr2 hG0 p (by omega) hw).1
    obtain ⟨v', e1, e2⟩ := p_performPart ht hP hg6 hr hd hB hL2 hr2 (p := p) (by omega) (h9 p (by omega)) hv hG
    by_cases c : wy F.2.1 F.2.2.1 s g T0 p = 0
    · rw [if_pos c] at e2
      obtain ⟨w, v'', f1, f2, f3⟩ := ih (p + 1) (setW d 0) v' (by omega) hr hd (fun i hi => by
        by_cases e : i = p
        · subst e; exact c
        · exact hw i (by omega)) e2
      have ef : ff (wy F.2.1 F.2.2.1 s g T0) (k + 1) p = ff (wy F.2.1 F.2.2.1 s g T0) k (p + 1) := if_pos c
      rw [ef]
      refine ⟨w, v'', (lpx_l ?_).trans f1, f2, f3⟩
      show f_X0_perform_7 v1 _ _ _ = _
      unfold f_X0_perform_7 nm
      rw [hr.1, if_neg (by (first | omega | (simp (disch := omega) only [iI_le, iI_lt, iI_eq, iI_add, iI_sub, iI_mul, iI_neg, zm1, zm2, zm3, zm4, zm5, zm6, z0, z1, z2, z3, z4, z5, z6, z7, z8, z9, z10, z11, z12, z13, z14, z15, z20, z21, z22, z23, z24, z25, z30, z31, z33, z46, z48, z49, z57, z60, z62, z63, z64, z65, z70, z74, z75, z90, z96, z99, z102, z114, z115, z116, z117, z118, z126, z128, z236, z729, z999, z9999, z46656, z65537, z1000000] <;> omega))), if_neg (by (first | omega | (simp (disch := omega) only [iI_le, iI_lt, iI_eq, iI_add, iI_sub, iI_mul, iI_neg, zm1, zm2, zm3, zm4, zm5, zm6, z0, z1, z2, z3, z4, z5, z6, z7, z8, z9, z10, z11, z12, z13, z14, z15, z20, z21, z22, z23, z24, z25, z30, z31, z33, z46, z48, z49, z57, z60, z62, z63, z64, z65, z70, z74, z75, z90, z96, z99, z102, z114, z115, z116, z117, z118, z126, z128, z236, z729, z999, z9999, z46656, z65537, z1000000] <;> omega))), bn_i e1, c]
      dsimp only
      rw [if_pos (show iI ((0 : Nat) : Int) = 0 from rfl), iI_s, ← hr.1]
      rfl
    · rw [if_neg c] at e2
      have ef : ff (wy F.2.1 F.2.2.1 s g T0) (k + 1) p = p := if_neg c
      rw [ef]
      refine ⟨iI (wy F.2.1 F.2.2.1 s g T0 p), v', lpx_r ?_, e2, fun _ => rfl⟩
      have hw9 : wy F.2.1 F.2.2.1 s g T0 p ≤ 9 := by
        unfold wy whyS
        repeat' split
        all_goals omega
      show f_X0_perform_7 v1 _ _ _ = _
      unfold f_X0_perform_7 nm rz
      rw [hr.1, if_neg (by (first | omega | (simp (disch := omega) only [iI_le, iI_lt, iI_eq, iI_add, iI_sub, iI_mul, iI_neg, zm1, zm2, zm3, zm4, zm5, zm6, z0, z1, z2, z3, z4, z5, z6, z7, z8, z9, z10, z11, z12, z13, z14, z15, z20, z21, z22, z23, z24, z25, z30, z31, z33, z46, z48, z49, z57, z60, z62, z63, z64, z65, z70, z74, z75, z90, z96, z99, z102, z114, z115, z116, z117, z118, z126, z128, z236, z729, z999, z9999, z46656, z65537, z1000000] <;> omega))), if_neg (by (first | omega | (simp (disch := omega) only [iI_le, iI_lt, iI_eq, iI_add, iI_sub, iI_mul, iI_neg, zm1, zm2, zm3, zm4, zm5, zm6, z0, z1, z2, z3, z4, z5, z6, z7, z8, z9, z10, z11, z12, z13, z14, z15, z20, z21, z22, z23, z24, z25, z30, z31, z33, z46, z48, z49, z57, z60, z62, z63, z64, z65, z70, z74, z75, z90, z96, z99, z102, z114, z115, z116, z117, z118, z126, z128, z236, z729, z999, z9999, z46656, z65537, z1000000] <;> omega))), bn_i e1, if_neg (by omega : ¬ p = P)]
      dsimp only
      rw [if_neg (by (first | omega | (simp (disch := omega) only [iI_le, iI_lt, iI_eq, iI_add, iI_sub, iI_mul, iI_neg, zm1, zm2, zm3, zm4, zm5, zm6, z0, z1, z2, z3, z4, z5, z6, z7, z8, z9, z10, z11, z12, z13, z14, z15, z20, z21, z22, z23, z24, z25, z30, z31, z33, z46, z48, z49, z57, z60, z62, z63, z64, z65, z70, z74, z75, z90, z96, z99, z102, z114, z115, z116, z117, z118, z126, z128, z236, z729, z999, z9999, z46656, z65537, z1000000] <;> omega))), ← hr.1]
theorem p_perform {n : Nat} {s : Nat → Int} {P : Nat} (ht : tx n s) (hP : rds n s P) {g : Nat → Nat} (hg6 : ∀ i, g i < 6) {N : Nat} (hN : N ≤ 512) {F : FA} (hG : gF N F) (h9 : ∀ p, p < P → kdT s p = 0 → ¬ lndP s g p = borP s p) {v1 v2 : VS} (hv : rFV v1 F) {d : DS} (hr : rR d s P) (hd : gOk d s P g) : ∃ w v', f_X0_perform d v1 v2 = some (iI (rz P (ff (wy F.2.1 F.2.2.1 s g (F.1, F.2.2.2.1)) P 0)), setW d w, v') ∧ rFV v' (fT F (gs F.2.1 F.2.2.1 s g (F.1, F.2.2.2.1) (ff (wy F.2.1 F.2.2.1 s g (F.1, F.2.2.2.1)) P 0))) ∧ (ff (wy F.2.1 F.2.2.1 s g (F.1, F.2.2.2.1)) P 0 < P → w = iI (wy F.2.1 F.2.2.1 s g (F.1, F.2.2.2.1) (ff (wy F.2.1 F.2.2.1 s g (F.1, F.2.2.2.1)) P 0))) := by
  have hv' : rFV (cpV v2 v1) F := rFV_copy hv hG
  obtain ⟨w, v', e1, e2, e3⟩ := perf_loop ht hP hg6 (B := 700000) (by omega) hG.2.1 hG.2.2.1 (T0 := (F.1, F.2.2.2.1)) (gF_B hG hN) h9 v1 P 0 d (cpV v2 v1) (by omega) hr hd (fun i hi => absurd hi (by omega)) hv'
  refine ⟨w, v', ?_, e2, e3⟩
  unfold f_X0_perform f_X0_perform_0
  rw [p_copyFrom, bn_i rfl]
  exact e1
/-! the reference's doing -/
abbrev setG (u : MS) (d : Int32) (a b c : AI) (p w : Int32) : MS := (u.1, u.2.1, u.2.2.1, u.2.2.2.1, u.2.2.2.2.1, u.2.2.2.2.2.1, u.2.2.2.2.2.2.1, u.2.2.2.2.2.2.2.1, u.2.2.2.2.2.2.2.2.1, u.2.2.2.2.2.2.2.2.2.1, d, a, b, c, p, w, u.2.2.2.2.2.2.2.2.2.2.2.2.2.2.2.2)
theorem rM_add {a b c : AI} {S : SV} {B : Int} (hr : rM a b c S) (hG : gd B S) {t : Nat} (ht : t < 6) (hh : hg S t < 5) (f p d : Int) : rM a (upd b t (iI ((hg S t + 1 : Nat) : Int))) (upd (upd (upd c (15 * t + 3 * hg S t) (iI f)) (15 * t + 3 * hg S t + 1) (iI p)) (15 * t + 3 * hg S t + 2) (iI d)) (addS S t f p d) := by
  intro x hx
  obtain ⟨q1, q2, q3⟩ := hr x hx
  have hx5 := (hG.1 x hx).2.1
  refine ⟨q1, ?_, fun k hk => ?_⟩
  · show upd b t _ x = iI ((if x = t then hg S t + 1 else hg S x : Nat) : Int)
    by_cases c1 : x = t
    · rw [if_pos c1, c1, upd_s]
    · rw [if_neg c1, upd_n c1, q2]
  · have hk : k < (if x = t then hg S t + 1 else hg S x) := hk
    show upd _ _ _ (15 * x + 3 * k) = iI (if x = t ∧ k = hg S t then f else ln S x k) ∧ upd _ _ _ (15 * x + 3 * k + 1) = iI (if x = t ∧ k = hg S t then p else pe S x k) ∧ upd _ _ _ (15 * x + 3 * k + 2) = iI (if x = t ∧ k = hg S t then d else dy S x k)
    by_cases c1 : x = t ∧ k = hg S t
    · rw [if_pos c1, if_pos c1, if_pos c1, c1.1, c1.2]
      refine ⟨?_, ?_, ?_⟩
      · rw [upd_n (by omega), upd_n (by omega), upd_s]
      · rw [upd_n (by omega), upd_s]
      · rw [upd_s]
    · rw [if_neg c1, if_neg c1, if_neg c1]
      have hk' : k < hg S x := by
        split at hk
        · rename_i e; subst e; omega
        · exact hk
      have hne : x ≠ t ∨ k < hg S t := by
        by_cases e : x = t
        · subst e; exact Or.inr hk'
        · exact Or.inl e
      have hsep : 15 * x + 3 * k + 2 < 15 * t + 3 * hg S t ∨ 15 * t + 3 * hg S t + 2 < 15 * x + 3 * k := by
        rcases hne with h | h <;> omega
      obtain ⟨e1, e2, e3⟩ := q3 k hk'
      refine ⟨?_, ?_, ?_⟩
      · rw [upd_n (by omega), upd_n (by omega), upd_n (by omega), e1]
      · rw [upd_n (by omega), upd_n (by omega), upd_n (by omega), e2]
      · rw [upd_n (by omega), upd_n (by omega), upd_n (by omega), e3]
def byF (Q q : Nat) : Nat := 6 ^ (Q - 1 - q)
theorem byF_3 : ∀ Q, Q ≤ 3 → ∀ q, q ≤ 3 → 1 ≤ byF Q q ∧ byF Q q ≤ 36 ∧ (byF Q q ≤ 1 → byF Q (q + 1) = byF Q q) ∧ (¬ byF Q q ≤ 1 → byF Q q / 6 = byF Q (q + 1)) := by decide
/-- by a code: who is written for a ? -/
def gC (Q code i : Nat) : Nat := code / byF Q i % 6
theorem gC_6 (Q code i : Nat) : gC Q code i < 6 := Nat.mod_lt _ (by omega)
theorem go408_0 (x1 : Int32) (u : MS) (d : Int32) (a b c : AI) (p : Nat) (x2 x3 : Int32) : f_X4_goText_408 x1 (setG u d a b c (iI p) 0) x2 x3 = some (.inl (.inr (setG u d a b c (iI ((p + 1 : Nat) : Int)) 0, x2, x3))) := by
  unfold f_X4_goText_408 nm
  dsimp only
  rw [if_pos (by decide), iI_s]
theorem go408_w (x1 : Int32) (u : MS) (d : Int32) (a b c : AI) (p : Nat) {w : Nat} (hw : 0 < w ∧ w ≤ 9) (x2 x3 : Int32) : f_X4_goText_408 x1 (setG u d a b c (iI p) (iI w)) x2 x3 = some (.inr (iI p, setG u d a b c (iI p) (iI w))) := by
  unfold f_X4_goText_408
  dsimp only
  rw [if_neg (by (first | omega | (simp (disch := omega) only [iI_le, iI_lt, iI_eq, iI_add, iI_sub, iI_mul, iI_neg, zm1, zm2, zm3, zm4, zm5, zm6, z0, z1, z2, z3, z4, z5, z6, z7, z8, z9, z10, z11, z12, z13, z14, z15, z20, z21, z22, z23, z24, z25, z30, z31, z33, z46, z48, z49, z57, z60, z62, z63, z64, z65, z70, z74, z75, z90, z96, z99, z102, z114, z115, z116, z117, z118, z126, z128, z236, z729, z999, z9999, z46656, z65537, z1000000] <;> omega)))]
