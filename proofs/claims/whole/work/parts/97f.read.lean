/-! READING a text, on both sides; the law's case: fault -/
def kdP (s : Nat → Int) (a : Nat) : Int := if s a = 46 then 2 else if s (a + 1) = 33 then 1 else 0
def drP (s : Nat → Int) (a q : Nat) : Int := if s a = 46 then 0 else if s a = 63 then 6 + q else s a - 65
def brP (s : Nat → Int) (a : Nat) : Int := if s a = 46 then 0 else if s (a + 1) = 33 then 0 else s (a + 2) - 65
def pcP (s : Nat → Int) (a : Nat) : Int := if s a = 46 then 0 else if s (a + 1) = 33 then 0 else if dgt (s (a + 4)) then (s (a + 3) - 48) * 10 + s (a + 4) - 48 else s (a + 3) - 48
theorem p_addPart {d : DS} {p : Nat} (hp : d.2.2.2.2.2.2.2.1 = iI p) (h : p < 60) (x1 x2 x3 x4 : Int32) : f_X0_addPart d x1 x2 x3 x4 = some (d.1, upd d.2.1 p x1, upd d.2.2.1 p x2, upd d.2.2.2.1 p x3, upd d.2.2.2.2.1 p x4, d.2.2.2.2.2.1, d.2.2.2.2.2.2.1, iI ((p + 1 : Nat) : Int), d.2.2.2.2.2.2.2.2.1, d.2.2.2.2.2.2.2.2.2) := by
  unfold f_X0_addPart nm
  dsimp only
  rw [hp, if_neg (by (first | omega | (simp (disch := omega) only [iI_le, iI_lt, iI_eq, iI_add, iI_sub, iI_mul, iI_neg, zm1, zm2, zm3, zm4, zm5, zm6, z0, z1, z2, z3, z4, z5, z6, z7, z8, z9, z10, z11, z12, z13, z14, z15, z20, z21, z22, z23, z24, z25, z30, z31, z33, z46, z48, z49, z57, z60, z62, z63, z64, z65, z70, z74, z75, z90, z96, z99, z102, z114, z115, z116, z117, z118, z126, z128, z236, z729, z999, z9999, z46656, z65537, z1000000] <;> omega))), if_pos (by (first | omega | (simp (disch := omega) only [iI_le, iI_lt, iI_eq, iI_add, iI_sub, iI_mul, iI_neg, zm1, zm2, zm3, zm4, zm5, zm6, z0, z1, z2, z3, z4, z5, z6, z7, z8, z9, z10, z11, z12, z13, z14, z15, z20, z21, z22, z23, z24, z25, z30, z31, z33, z46, z48, z49, z57, z60, z62, z63, z64, z65, z70, z74, z75, z90, z96, z99, z102, z114, z115, z116, z117, z118, z126, z128, z236, z729, z999, z9999, z46656, z65537, z1000000] <;> omega))), ck_N h (by omega), ck_N h (by omega), ck_N h (by omega), ck_N h (by omega), cl_N (by omega), iI_s]
theorem p_takePart {d : DS} {n : Nat} {s : Nat → Int} (hd : tD d n s) (ht : tx n s) {a q p : Nat} (ha : a ≤ 60) (hq : d.2.2.2.2.2.2.2.2.1 = iI q) (hp : d.2.2.2.2.2.2.2.1 = iI p) (h : p < 60) (hf : fOP s a q = -6) : f_X0_takePart d (iI a) = some (iI (lenP s a), (d.1, upd d.2.1 p (iI (kdP s a)), upd d.2.2.1 p (iI (drP s a q)), upd d.2.2.2.1 p (iI (brP s a)), upd d.2.2.2.2.1 p (iI (pcP s a)), d.2.2.2.2.2.1, d.2.2.2.2.2.2.1, iI ((p + 1 : Nat) : Int), iI ((q + isq s a : Nat) : Int), d.2.2.2.2.2.2.2.2.2)) := by
  have r0 := tx_r ht a
  have r1 := tx_r ht (a + 1)
  have r2 := tx_r ht (a + 2)
  have r3 := tx_r ht (a + 3)
  have r4 := tx_r ht (a + 4)
  have hok := fOP_ok ht hf
  unfold f_X0_takePart kdP drP brP pcP isq
  rw [bn_i (p_signAt hd ht (by omega))]
  by_cases c1 : s a = 46
  · have hl : lenP s a = 1 := by omega
    rw [if_pos (by (first | omega | (simp (disch := omega) only [iI_le, iI_lt, iI_eq, iI_add, iI_sub, iI_mul, iI_neg, zm1, zm2, zm3, zm4, zm5, zm6, z0, z1, z2, z3, z4, z5, z6, z7, z8, z9, z10, z11, z12, z13, z14, z15, z20, z21, z22, z23, z24, z25, z30, z31, z33, z46, z48, z49, z57, z60, z62, z63, z64, z65, z70, z74, z75, z90, z96, z99, z102, z114, z115, z116, z117, z118, z126, z128, z236, z729, z999, z9999, z46656, z65537, z1000000] <;> omega))), if_pos c1, if_pos c1, if_pos c1, if_pos c1, if_neg (show ¬ s a = 63 by omega), bn_i (p_addPart hp h _ _ _ _), hl, hq, z2, z0]
    rfl
  · rw [if_neg (by (first | omega | (simp (disch := omega) only [iI_le, iI_lt, iI_eq, iI_add, iI_sub, iI_mul, iI_neg, zm1, zm2, zm3, zm4, zm5, zm6, z0, z1, z2, z3, z4, z5, z6, z7, z8, z9, z10, z11, z12, z13, z14, z15, z20, z21, z22, z23, z24, z25, z30, z31, z33, z46, z48, z49, z57, z60, z62, z63, z64, z65, z70, z74, z75, z90, z96, z99, z102, z114, z115, z116, z117, z118, z126, z128, z236, z729, z999, z9999, z46656, z65537, z1000000] <;> omega))), if_neg c1, if_neg c1, if_neg c1, if_neg c1, iI_s, bn_i (p_signAt hd ht (by omega))]
    by_cases c2 : s (a + 1) = 33
    · have hl : lenP s a = 2 := by omega
      have h63 : ¬ s a = 63 := by omega
      rw [if_pos (by (first | omega | (simp (disch := omega) only [iI_le, iI_lt, iI_eq, iI_add, iI_sub, iI_mul, iI_neg, zm1, zm2, zm3, zm4, zm5, zm6, z0, z1, z2, z3, z4, z5, z6, z7, z8, z9, z10, z11, z12, z13, z14, z15, z20, z21, z22, z23, z24, z25, z30, z31, z33, z46, z48, z49, z57, z60, z62, z63, z64, z65, z70, z74, z75, z90, z96, z99, z102, z114, z115, z116, z117, z118, z126, z128, z236, z729, z999, z9999, z46656, z65537, z1000000] <;> omega))), if_pos c2, if_pos c2, if_pos c2, if_neg h63, if_neg h63, bn_i (p_addPart hp h _ _ _ _), hl, hq, z65, iI_sub, z1, z0]
      rfl
    · have k76 : ∀ (d' : DS) (z : Int), tD d' n s → d'.2.2.2.2.2.2.2.1 = iI p → f_X0_takePart_76 (iI a) d' (iI z) = some (iI (lenP s a), (d'.1, upd d'.2.1 p (iI 0), upd d'.2.2.1 p (iI z), upd d'.2.2.2.1 p (iI (s (a + 2) - 65)), upd d'.2.2.2.2.1 p (iI (if dgt (s (a + 4)) then (s (a + 3) - 48) * 10 + s (a + 4) - 48 else s (a + 3) - 48)), d'.2.2.2.2.2.1, d'.2.2.2.2.2.2.1, iI ((p + 1 : Nat) : Int), d'.2.2.2.2.2.2.2.2.1, d'.2.2.2.2.2.2.2.2.2)) := fun d' z hd' hp' => by
        unfold f_X0_takePart_76 nm
        dsimp only
        rw [is2, is3, is4, bn_i (p_signAt hd' ht (a := a + 2) (by omega)), bn_i (p_signAt hd' ht (a := a + 3) (by omega)), bn_i (p_signAt hd' ht (a := a + 4) (by omega)), bn_i (p_isDigit (by omega))]
        by_cases c3 : dgt (s (a + 4))
        · have hl : lenP s a = 5 := by omega
          rw [b01_t c3, if_neg n10, bn_i (p_addPart hp' h _ _ _ _), if_pos c3, hl, z65, z48, z10, iI_sub, iI_sub, iI_mul, iI_add, iI_sub, z0, z5]
          rfl
        · have hl : lenP s a = 4 := by omega
          rw [b01_f c3, if_pos rfl, bn_i (p_addPart hp' h _ _ _ _), if_neg c3, hl, z65, z48, iI_sub, iI_sub, z0, z4]
          rfl
      rw [if_neg (by (first | omega | (simp (disch := omega) only [iI_le, iI_lt, iI_eq, iI_add, iI_sub, iI_mul, iI_neg, zm1, zm2, zm3, zm4, zm5, zm6, z0, z1, z2, z3, z4, z5, z6, z7, z8, z9, z10, z11, z12, z13, z14, z15, z20, z21, z22, z23, z24, z25, z30, z31, z33, z46, z48, z49, z57, z60, z62, z63, z64, z65, z70, z74, z75, z90, z96, z99, z102, z114, z115, z116, z117, z118, z126, z128, z236, z729, z999, z9999, z46656, z65537, z1000000] <;> omega))), if_neg c2, if_neg c2, if_neg c2]
      unfold nm
      dsimp only
      by_cases c3 : s a = 63
      · rw [if_pos (by (first | omega | (simp (disch := omega) only [iI_le, iI_lt, iI_eq, iI_add, iI_sub, iI_mul, iI_neg, zm1, zm2, zm3, zm4, zm5, zm6, z0, z1, z2, z3, z4, z5, z6, z7, z8, z9, z10, z11, z12, z13, z14, z15, z20, z21, z22, z23, z24, z25, z30, z31, z33, z46, z48, z49, z57, z60, z62, z63, z64, z65, z70, z74, z75, z90, z96, z99, z102, z114, z115, z116, z117, z118, z126, z128, z236, z729, z999, z9999, z46656, z65537, z1000000] <;> omega))), if_pos c3, if_pos c3, hq, z6, iI_add, iI_s (q)]
        exact k76 _ _ (by exact hd) (by exact hp)
      · rw [if_neg (by (first | omega | (simp (disch := omega) only [iI_le, iI_lt, iI_eq, iI_add, iI_sub, iI_mul, iI_neg, zm1, zm2, zm3, zm4, zm5, zm6, z0, z1, z2, z3, z4, z5, z6, z7, z8, z9, z10, z11, z12, z13, z14, z15, z20, z21, z22, z23, z24, z25, z30, z31, z33, z46, z48, z49, z57, z60, z62, z63, z64, z65, z70, z74, z75, z90, z96, z99, z102, z114, z115, z116, z117, z118, z126, z128, z236, z729, z999, z9999, z46656, z65537, z1000000] <;> omega))), if_neg c3, if_neg c3, z65, iI_sub, k76 _ _ hd hp, hq]
        rfl
/-- rows of the first p parts -/
def rR (d : DS) (s : Nat → Int) (p : Nat) : Prop := d.2.2.2.2.2.2.2.1 = iI p ∧ d.2.2.2.2.2.2.2.2.1 = iI ((pl s p).2 : Int) ∧ ∀ i, i < p → d.2.1 i = iI (kdP s (pl s i).1) ∧ d.2.2.1 i = iI (drP s (pl s i).1 (pl s i).2) ∧ d.2.2.2.1 i = iI (brP s (pl s i).1) ∧ d.2.2.2.2.1 i = iI (pcP s (pl s i).1)
def resT (n : Nat) (s : Nat → Int) (P : Nat) : Int := if n ≤ (pl s P).1 then -6 else fOP s (pl s P).1 (pl s P).2
theorem fOP_rng {s : Nat → Int} {a q : Nat} : fOP s a q = -6 ∨ (a : Int) ≤ fOP s a q ∧ fOP s a q ≤ a + 3 := by
  unfold fOP fO3
  repeat' split
  all_goals first | (left; rfl) | (right; omega)
theorem read_loop {n : Nat} {s : Nat → Int} (ht : tx n s) {P : Nat} (hP : rds n s P) : ∀ (k p : Nat) (d : DS), p + k = P → tD d n s → rR d s p → ∃ a1 a2 a3 a4, lpx st_X0_read (d, iI ((pl s p).1 : Int), iI p) = some (iI (resT n s P), (d.1, a1, a2, a3, a4, d.2.2.2.2.2.1, d.2.2.2.2.2.2.1, iI P, iI ((pl s P).2 : Int), d.2.2.2.2.2.2.2.2.2)) ∧ rR (d.1, a1, a2, a3, a4, d.2.2.2.2.2.1, d.2.2.2.2.2.2.1, iI P, iI ((pl s P).2 : Int), d.2.2.2.2.2.2.2.2.2) s P := by
  have hn := ht.1
  have hPn := rds_P ht hP
  intro k
  induction k with
  | zero =>
    intro p d hp hd hr
    have : p = P := by omega
    subst this
    have hq := rds_q ht hP p (Nat.le_refl _)
    have hge := pl_ge s p
    refine ⟨d.2.1, d.2.2.1, d.2.2.2.1, d.2.2.2.2.1, lpx_r ?_, rfl, rfl, hr.2.2⟩
    show f_X0_read_14 _ _ _ = _
    unfold f_X0_read_14 resT
    by_cases c : n ≤ (pl s p).1
    · rw [if_pos c, hd.1]
      have e : d = (d.1, d.2.1, d.2.2.1, d.2.2.2.1, d.2.2.2.2.1, d.2.2.2.2.2.1, d.2.2.2.2.2.2.1, iI (p : Int), iI ((pl s p).2 : Int), d.2.2.2.2.2.2.2.2.2) := by rw [← hr.1, ← hr.2.1]
      rw [if_pos (by (first | omega | (simp (disch := omega) only [iI_le, iI_lt, iI_eq, iI_add, iI_sub, iI_mul, iI_neg, zm1, zm2, zm3, zm4, zm5, zm6, z0, z1, z2, z3, z4, z5, z6, z7, z8, z9, z10, z11, z12, z13, z14, z15, z20, z21, z22, z23, z24, z25, z30, z31, z33, z46, z48, z49, z57, z60, z62, z63, z64, z65, z70, z74, z75, z90, z96, z99, z102, z114, z115, z116, z117, z118, z126, z128, z236, z729, z999, z9999, z46656, z65537, z1000000] <;> omega)) : iI (n : Int) ≤ iI ((pl s p).1 : Int)), ← zm6]
      rw [hd.1] at e
      rw [← e]
      split <;> rfl
    · have hf := hP.2.resolve_left c
      have hrg := fOP_rng (s := s) (a := (pl s p).1) (q := (pl s p).2)
      have e : d = (d.1, d.2.1, d.2.2.1, d.2.2.2.1, d.2.2.2.2.1, d.2.2.2.2.2.1, d.2.2.2.2.2.2.1, iI (p : Int), iI ((pl s p).2 : Int), d.2.2.2.2.2.2.2.2.2) := by rw [← hr.1, ← hr.2.1]
      rw [if_neg c, if_neg (by (first | omega | (simp (disch := omega) only [iI_le, iI_lt, iI_eq, iI_add, iI_sub, iI_mul, iI_neg, zm1, zm2, zm3, zm4, zm5, zm6, z0, z1, z2, z3, z4, z5, z6, z7, z8, z9, z10, z11, z12, z13, z14, z15, z20, z21, z22, z23, z24, z25, z30, z31, z33, z46, z48, z49, z57, z60, z62, z63, z64, z65, z70, z74, z75, z90, z96, z99, z102, z114, z115, z116, z117, z118, z126, z128, z236, z729, z999, z9999, z46656, z65537, z1000000] <;> omega))), if_neg (by rw [hd.1]; (first | omega | (simp (disch := omega) only [iI_le, iI_lt, iI_eq, iI_add, iI_sub, iI_mul, iI_neg, zm1, zm2, zm3, zm4, zm5, zm6, z0, z1, z2, z3, z4, z5, z6, z7, z8, z9, z10, z11, z12, z13, z14, z15, z20, z21, z22, z23, z24, z25, z30, z31, z33, z46, z48, z49, z57, z60, z62, z63, z64, z65, z70, z74, z75, z90, z96, z99, z102, z114, z115, z116, z117, z118, z126, z128, z236, z729, z999, z9999, z46656, z65537, z1000000] <;> omega))), bn_i (p_faultOfPart hd ht (by omega) hq.2 hr.2.1), if_neg (by (first | omega | (simp (disch := omega) only [iI_le, iI_lt, iI_eq, iI_add, iI_sub, iI_mul, iI_neg, zm1, zm2, zm3, zm4, zm5, zm6, z0, z1, z2, z3, z4, z5, z6, z7, z8, z9, z10, z11, z12, z13, z14, z15, z20, z21, z22, z23, z24, z25, z30, z31, z33, z46, z48, z49, z57, z60, z62, z63, z64, z65, z70, z74, z75, z90, z96, z99, z102, z114, z115, z116, z117, z118, z126, z128, z236, z729, z999, z9999, z46656, z65537, z1000000] <;> omega))), ← e]
  | succ k ih =>
    intro p d hp hd hr
    have hq := rds_q ht hP p (by omega)
    have hl := hP.1 p (by omega)
    have hge := pl_ge s p
    have e := p_takePart hd ht (a := (pl s p).1) (by omega) hr.2.1 hr.1 (by omega) hl.2
    have hr' : rR (d.1, upd d.2.1 p (iI (kdP s (pl s p).1)), upd d.2.2.1 p (iI (drP s (pl s p).1 (pl s p).2)), upd d.2.2.2.1 p (iI (brP s (pl s p).1)), upd d.2.2.2.2.1 p (iI (pcP s (pl s p).1)), d.2.2.2.2.2.1, d.2.2.2.2.2.2.1, iI ((p + 1 : Nat) : Int), iI (((pl s p).2 + isq s (pl s p).1 : Nat) : Int), d.2.2.2.2.2.2.2.2.2) s (p + 1) := by
      refine ⟨rfl, rfl, fun i hi => ?_⟩
      by_cases c : i = p
      · subst c
        exact ⟨upd_s, upd_s, upd_s, upd_s⟩
      · have := hr.2.2 i (by omega)
        exact ⟨(upd_n c).trans this.1, (upd_n c).trans this.2.1, (upd_n c).trans this.2.2.1, (upd_n c).trans this.2.2.2⟩
    obtain ⟨a1, a2, a3, a4, f1, f2⟩ := ih (p + 1) _ (by omega) (by exact hd) hr'
    refine ⟨a1, a2, a3, a4, (lpx_l ?_).trans f1, f2⟩
    show f_X0_read_14 _ _ _ = _
    unfold f_X0_read_14 nm
    rw [if_neg (by (first | omega | (simp (disch := omega) only [iI_le, iI_lt, iI_eq, iI_add, iI_sub, iI_mul, iI_neg, zm1, zm2, zm3, zm4, zm5, zm6, z0, z1, z2, z3, z4, z5, z6, z7, z8, z9, z10, z11, z12, z13, z14, z15, z20, z21, z22, z23, z24, z25, z30, z31, z33, z46, z48, z49, z57, z60, z62, z63, z64, z65, z70, z74, z75, z90, z96, z99, z102, z114, z115, z116, z117, z118, z126, z128, z236, z729, z999, z9999, z46656, z65537, z1000000] <;> omega))), if_neg (by rw [hd.1]; (first | omega | (simp (disch := omega) only [iI_le, iI_lt, iI_eq, iI_add, iI_sub, iI_mul, iI_neg, zm1, zm2, zm3, zm4, zm5, zm6, z0, z1, z2, z3, z4, z5, z6, z7, z8, z9, z10, z11, z12, z13, z14, z15, z20, z21, z22, z23, z24, z25, z30, z31, z33, z46, z48, z49, z57, z60, z62, z63, z64, z65, z70, z74, z75, z90, z96, z99, z102, z114, z115, z116, z117, z118, z126, z128, z236, z729, z999, z9999, z46656, z65537, z1000000] <;> omega))), bn_i (p_faultOfPart hd ht (by omega) hq.2 hr.2.1), hl.2, if_pos zm6.symm, bn_i e, iI_s (p), iI_aN]
    rfl
theorem p_read {d : DS} {n : Nat} {s : Nat → Int} (hd : tD d n s) (ht : tx n s) {P : Nat} (hP : rds n s P) : ∃ a1 a2 a3 a4, f_X0_read d = some (iI (resT n s P), (d.1, a1, a2, a3, a4, d.2.2.2.2.2.1, d.2.2.2.2.2.2.1, iI P, iI ((pl s P).2 : Int), d.2.2.2.2.2.2.2.2.2)) ∧ rR (d.1, a1, a2, a3, a4, d.2.2.2.2.2.1, d.2.2.2.2.2.2.1, iI P, iI ((pl s P).2 : Int), d.2.2.2.2.2.2.2.2.2) s P := by
  obtain ⟨a1, a2, a3, a4, f1, f2⟩ := read_loop ht hP P 0 (d.1, d.2.1, d.2.2.1, d.2.2.2.1, d.2.2.2.2.1, d.2.2.2.2.2.1, d.2.2.2.2.2.2.1, 0, 0, d.2.2.2.2.2.2.2.2.2) (by omega) hd ⟨z0, z0, fun i hi => absurd hi (by omega)⟩
  exact ⟨a1, a2, a3, a4, f1, f2⟩
theorem f234_1 (u : MS) (x1 x2 x3 : Int32) (a : Nat) : f_X4_faultOf_234 u x1 x2 x3 (iI a) 1 = some (.inl (x1, x2, x3, iI ((a + 1 : Nat) : Int))) := by
  unfold f_X4_faultOf_234 nm
  rw [if_neg n10, iI_s]
theorem f234_0 (u : MS) (x1 x2 x3 : Int32) (a : Nat) : f_X4_faultOf_234 u x1 x2 x3 (iI a) 0 = some (.inr (iI a)) := by
  unfold f_X4_faultOf_234
  rw [if_pos rfl]
theorem mf_sign {u : MS} {n : Nat} {s : Nat → Int} (hu : tM u n s) (ht : tx n s) {a : Nat} (ha : a < n) (x1 x2 x3 : Int32) : f_X4_faultOf_9 u x1 x2 x3 (iI a) = if x1 = 5 ∧ dgt (s a) then some (.inl (0, x2, x3, iI ((a + 1 : Nat) : Int))) else f_X4_faultOf_63 u x1 x2 x3 (iI a) (iI (s a)) (b01 (ltr (s a))) := by
  have hn := ht.1
  have r0 := tx_r ht a
  unfold f_X4_faultOf_9 nm
  rw [hu.1, if_neg (by (first | omega | (simp (disch := omega) only [iI_le, iI_lt, iI_eq, iI_add, iI_sub, iI_mul, iI_neg, zm1, zm2, zm3, zm4, zm5, zm6, z0, z1, z2, z3, z4, z5, z6, z7, z8, z9, z10, z11, z12, z13, z14, z15, z20, z21, z22, z23, z24, z25, z30, z31, z33, z46, z48, z49, z57, z60, z62, z63, z64, z65, z70, z74, z75, z90, z96, z99, z102, z114, z115, z116, z117, z118, z126, z128, z236, z729, z999, z9999, z46656, z65537, z1000000] <;> omega))), ck_N (by omega) (by omega), cl_N (by omega), hu.2 a ha]
  dsimp only
  rw [z65, z70, z48, z57, bn_i (p_in (by omega) (by omega) (by omega)), bn_i (p_in (by omega) (by omega) (by omega))]
  by_cases c1 : x1 = 5
  · rw [if_pos c1]
    by_cases c2 : dgt (s a)
    · rw [b01_t c2, if_neg n10, if_pos ⟨c1, c2⟩, f234_1]
    · rw [b01_f c2, if_pos rfl, if_neg (fun q => c2 q.2)]
  · rw [if_neg c1, if_neg (fun q => c1 q.1)]
theorem mf0 {u : MS} {n : Nat} {s : Nat → Int} (ht : tx n s) {a q : Nat} (hq : q ≤ 3) {x1 : Int32} (hx : x1 = 0 ∨ x1 = 5) (x3 : Int32) : f_X4_faultOf_63 u x1 (iI q) x3 (iI a) (iI (s a)) (b01 (ltr (s a))) = some (if ltr (s a) then .inl (1, iI q, iI (s a), iI ((a + 1 : Nat) : Int)) else if s a = 46 then .inl (0, iI q, iI (s a), iI ((a + 1 : Nat) : Int)) else if s a = 63 ∧ q < 3 then .inl (2, iI ((q + 1 : Nat) : Int), iI (s a), iI ((a + 1 : Nat) : Int)) else .inr (iI a)) := by
  have r0 := tx_r ht a
  have e72 : f_X4_faultOf_63 u x1 (iI q) x3 (iI a) (iI (s a)) (b01 (ltr (s a))) = f_X4_faultOf_72 u (iI q) (iI a) (iI (s a)) (b01 (ltr (s a))) := by
    unfold f_X4_faultOf_63
    rcases hx with rfl | rfl
    · rw [if_pos rfl]
    · rw [if_neg (by decide), if_pos rfl]
  rw [e72]
  unfold f_X4_faultOf_72 f_X4_faultOf_85 f_X4_faultOf_116 nm
  dsimp only
  by_cases c1 : ltr (s a)
  · rw [b01_t c1, if_pos c1, if_neg (by (first | omega | (simp (disch := omega) only [iI_le, iI_lt, iI_eq, iI_add, iI_sub, iI_mul, iI_neg, zm1, zm2, zm3, zm4, zm5, zm6, z0, z1, z2, z3, z4, z5, z6, z7, z8, z9, z10, z11, z12, z13, z14, z15, z20, z21, z22, z23, z24, z25, z30, z31, z33, z46, z48, z49, z57, z60, z62, z63, z64, z65, z70, z74, z75, z90, z96, z99, z102, z114, z115, z116, z117, z118, z126, z128, z236, z729, z999, z9999, z46656, z65537, z1000000] <;> omega))), if_neg n10, if_neg n10, z0, iI_add, Int.add_zero, f234_1]
  · rw [b01_f c1, if_neg c1]
    by_cases c2 : s a = 46
    · rw [if_neg (by (first | omega | (simp (disch := omega) only [iI_le, iI_lt, iI_eq, iI_add, iI_sub, iI_mul, iI_neg, zm1, zm2, zm3, zm4, zm5, zm6, z0, z1, z2, z3, z4, z5, z6, z7, z8, z9, z10, z11, z12, z13, z14, z15, z20, z21, z22, z23, z24, z25, z30, z31, z33, z46, z48, z49, z57, z60, z62, z63, z64, z65, z70, z74, z75, z90, z96, z99, z102, z114, z115, z116, z117, z118, z126, z128, z236, z729, z999, z9999, z46656, z65537, z1000000] <;> omega))), if_pos rfl, if_pos (by (first | omega | (simp (disch := omega) only [iI_le, iI_lt, iI_eq, iI_add, iI_sub, iI_mul, iI_neg, zm1, zm2, zm3, zm4, zm5, zm6, z0, z1, z2, z3, z4, z5, z6, z7, z8, z9, z10, z11, z12, z13, z14, z15, z20, z21, z22, z23, z24, z25, z30, z31, z33, z46, z48, z49, z57, z60, z62, z63, z64, z65, z70, z74, z75, z90, z96, z99, z102, z114, z115, z116, z117, z118, z126, z128, z236, z729, z999, z9999, z46656, z65537, z1000000] <;> omega))), if_pos rfl, if_pos (by (first | omega | (simp (disch := omega) only [iI_le, iI_lt, iI_eq, iI_add, iI_sub, iI_mul, iI_neg, zm1, zm2, zm3, zm4, zm5, zm6, z0, z1, z2, z3, z4, z5, z6, z7, z8, z9, z10, z11, z12, z13, z14, z15, z20, z21, z22, z23, z24, z25, z30, z31, z33, z46, z48, z49, z57, z60, z62, z63, z64, z65, z70, z74, z75, z90, z96, z99, z102, z114, z115, z116, z117, z118, z126, z128, z236, z729, z999, z9999, z46656, z65537, z1000000] <;> omega))), if_pos c2, f234_1, z0, iI_add, Int.add_zero]
    · rw [if_neg c2]
      by_cases c3 : s a = 63
      · rw [if_pos (by (first | omega | (simp (disch := omega) only [iI_le, iI_lt, iI_eq, iI_add, iI_sub, iI_mul, iI_neg, zm1, zm2, zm3, zm4, zm5, zm6, z0, z1, z2, z3, z4, z5, z6, z7, z8, z9, z10, z11, z12, z13, z14, z15, z20, z21, z22, z23, z24, z25, z30, z31, z33, z46, z48, z49, z57, z60, z62, z63, z64, z65, z70, z74, z75, z90, z96, z99, z102, z114, z115, z116, z117, z118, z126, z128, z236, z729, z999, z9999, z46656, z65537, z1000000] <;> omega))), if_pos rfl, if_neg (by (first | omega | (simp (disch := omega) only [iI_le, iI_lt, iI_eq, iI_add, iI_sub, iI_mul, iI_neg, zm1, zm2, zm3, zm4, zm5, zm6, z0, z1, z2, z3, z4, z5, z6, z7, z8, z9, z10, z11, z12, z13, z14, z15, z20, z21, z22, z23, z24, z25, z30, z31, z33, z46, z48, z49, z57, z60, z62, z63, z64, z65, z70, z74, z75, z90, z96, z99, z102, z114, z115, z116, z117, z118, z126, z128, z236, z729, z999, z9999, z46656, z65537, z1000000] <;> omega))), if_pos (by (first | omega | (simp (disch := omega) only [iI_le, iI_lt, iI_eq, iI_add, iI_sub, iI_mul, iI_neg, zm1, zm2, zm3, zm4, zm5, zm6, z0, z1, z2, z3, z4, z5, z6, z7, z8, z9, z10, z11, z12, z13, z14, z15, z20, z21, z22, z23, z24, z25, z30, z31, z33, z46, z48, z49, z57, z60, z62, z63, z64, z65, z70, z74, z75, z90, z96, z99, z102, z114, z115, z116, z117, z118, z126, z128, z236, z729, z999, z9999, z46656, z65537, z1000000] <;> omega))), iI_s (q)]
        by_cases c4 : q < 3
        · rw [if_neg (by (first | omega | (simp (disch := omega) only [iI_le, iI_lt, iI_eq, iI_add, iI_sub, iI_mul, iI_neg, zm1, zm2, zm3, zm4, zm5, zm6, z0, z1, z2, z3, z4, z5, z6, z7, z8, z9, z10, z11, z12, z13, z14, z15, z20, z21, z22, z23, z24, z25, z30, z31, z33, z46, z48, z49, z57, z60, z62, z63, z64, z65, z70, z74, z75, z90, z96, z99, z102, z114, z115, z116, z117, z118, z126, z128, z236, z729, z999, z9999, z46656, z65537, z1000000] <;> omega))), if_pos rfl, if_neg (by (first | omega | (simp (disch := omega) only [iI_le, iI_lt, iI_eq, iI_add, iI_sub, iI_mul, iI_neg, zm1, zm2, zm3, zm4, zm5, zm6, z0, z1, z2, z3, z4, z5, z6, z7, z8, z9, z10, z11, z12, z13, z14, z15, z20, z21, z22, z23, z24, z25, z30, z31, z33, z46, z48, z49, z57, z60, z62, z63, z64, z65, z70, z74, z75, z90, z96, z99, z102, z114, z115, z116, z117, z118, z126, z128, z236, z729, z999, z9999, z46656, z65537, z1000000] <;> omega))), if_pos ⟨c3, c4⟩, f234_1]
        · rw [if_pos (by (first | omega | (simp (disch := omega) only [iI_le, iI_lt, iI_eq, iI_add, iI_sub, iI_mul, iI_neg, zm1, zm2, zm3, zm4, zm5, zm6, z0, z1, z2, z3, z4, z5, z6, z7, z8, z9, z10, z11, z12, z13, z14, z15, z20, z21, z22, z23, z24, z25, z30, z31, z33, z46, z48, z49, z57, z60, z62, z63, z64, z65, z70, z74, z75, z90, z96, z99, z102, z114, z115, z116, z117, z118, z126, z128, z236, z729, z999, z9999, z46656, z65537, z1000000] <;> omega))), if_pos rfl, if_neg (by (first | omega | (simp (disch := omega) only [iI_le, iI_lt, iI_eq, iI_add, iI_sub, iI_mul, iI_neg, zm1, zm2, zm3, zm4, zm5, zm6, z0, z1, z2, z3, z4, z5, z6, z7, z8, z9, z10, z11, z12, z13, z14, z15, z20, z21, z22, z23, z24, z25, z30, z31, z33, z46, z48, z49, z57, z60, z62, z63, z64, z65, z70, z74, z75, z90, z96, z99, z102, z114, z115, z116, z117, z118, z126, z128, z236, z729, z999, z9999, z46656, z65537, z1000000] <;> omega))), if_neg (by omega), f234_0]
      · rw [if_neg (by (first | omega | (simp (disch := omega) only [iI_le, iI_lt, iI_eq, iI_add, iI_sub, iI_mul, iI_neg, zm1, zm2, zm3, zm4, zm5, zm6, z0, z1, z2, z3, z4, z5, z6, z7, z8, z9, z10, z11, z12, z13, z14, z15, z20, z21, z22, z23, z24, z25, z30, z31, z33, z46, z48, z49, z57, z60, z62, z63, z64, z65, z70, z74, z75, z90, z96, z99, z102, z114, z115, z116, z117, z118, z126, z128, z236, z729, z999, z9999, z46656, z65537, z1000000] <;> omega))), if_pos rfl, if_neg (by (first | omega | (simp (disch := omega) only [iI_le, iI_lt, iI_eq, iI_add, iI_sub, iI_mul, iI_neg, zm1, zm2, zm3, zm4, zm5, zm6, z0, z1, z2, z3, z4, z5, z6, z7, z8, z9, z10, z11, z12, z13, z14, z15, z20, z21, z22, z23, z24, z25, z30, z31, z33, z46, z48, z49, z57, z60, z62, z63, z64, z65, z70, z74, z75, z90, z96, z99, z102, z114, z115, z116, z117, z118, z126, z128, z236, z729, z999, z9999, z46656, z65537, z1000000] <;> omega))), if_neg (by (first | omega | (simp (disch := omega) only [iI_le, iI_lt, iI_eq, iI_add, iI_sub, iI_mul, iI_neg, zm1, zm2, zm3, zm4, zm5, zm6, z0, z1, z2, z3, z4, z5, z6, z7, z8, z9, z10, z11, z12, z13, z14, z15, z20, z21, z22, z23, z24, z25, z30, z31, z33, z46, z48, z49, z57, z60, z62, z63, z64, z65, z70, z74, z75, z90, z96, z99, z102, z114, z115, z116, z117, z118, z126, z128, z236, z729, z999, z9999, z46656, z65537, z1000000] <;> omega))), if_pos rfl, if_neg (by (first | omega | (simp (disch := omega) only [iI_le, iI_lt, iI_eq, iI_add, iI_sub, iI_mul, iI_neg, zm1, zm2, zm3, zm4, zm5, zm6, z0, z1, z2, z3, z4, z5, z6, z7, z8, z9, z10, z11, z12, z13, z14, z15, z20, z21, z22, z23, z24, z25, z30, z31, z33, z46, z48, z49, z57, z60, z62, z63, z64, z65, z70, z74, z75, z90, z96, z99, z102, z114, z115, z116, z117, z118, z126, z128, z236, z729, z999, z9999, z46656, z65537, z1000000] <;> omega))), if_neg (by omega), f234_0]
theorem mf12 {u : MS} {n : Nat} {s : Nat → Int} (ht : tx n s) {a : Nat} {x1 : Int32} (hx : x1 = 1 ∨ x1 = 2) (x2 x3 y : Int32) : f_X4_faultOf_63 u x1 x2 x3 (iI a) (iI (s a)) y = some (if s a = 62 then .inl (3, x2, x3, iI ((a + 1 : Nat) : Int)) else if s a = 33 ∧ x1 = 1 then .inl (0, x2, x3, iI ((a + 1 : Nat) : Int)) else .inr (iI a)) := by
  have r0 := tx_r ht a
  have e1 : ¬ x1 = 0 ∧ ¬ x1 = 5 ∧ ¬ (3 : Int32) ≤ x1 := by rcases hx with rfl | rfl <;> decide
  unfold f_X4_faultOf_63
  rw [if_neg e1.1, if_neg e1.2.1, if_neg e1.2.2]
  unfold f_X4_faultOf_175
  by_cases c1 : s a = 62
  · rw [if_pos (by (first | omega | (simp (disch := omega) only [iI_le, iI_lt, iI_eq, iI_add, iI_sub, iI_mul, iI_neg, zm1, zm2, zm3, zm4, zm5, zm6, z0, z1, z2, z3, z4, z5, z6, z7, z8, z9, z10, z11, z12, z13, z14, z15, z20, z21, z22, z23, z24, z25, z30, z31, z33, z46, z48, z49, z57, z60, z62, z63, z64, z65, z70, z74, z75, z90, z96, z99, z102, z114, z115, z116, z117, z118, z126, z128, z236, z729, z999, z9999, z46656, z65537, z1000000] <;> omega))), if_pos (by (first | omega | (simp (disch := omega) only [iI_le, iI_lt, iI_eq, iI_add, iI_sub, iI_mul, iI_neg, zm1, zm2, zm3, zm4, zm5, zm6, z0, z1, z2, z3, z4, z5, z6, z7, z8, z9, z10, z11, z12, z13, z14, z15, z20, z21, z22, z23, z24, z25, z30, z31, z33, z46, z48, z49, z57, z60, z62, z63, z64, z65, z70, z74, z75, z90, z96, z99, z102, z114, z115, z116, z117, z118, z126, z128, z236, z729, z999, z9999, z46656, z65537, z1000000] <;> omega))), if_pos c1, f234_1]
  · rw [if_neg (by (first | omega | (simp (disch := omega) only [iI_le, iI_lt, iI_eq, iI_add, iI_sub, iI_mul, iI_neg, zm1, zm2, zm3, zm4, zm5, zm6, z0, z1, z2, z3, z4, z5, z6, z7, z8, z9, z10, z11, z12, z13, z14, z15, z20, z21, z22, z23, z24, z25, z30, z31, z33, z46, z48, z49, z57, z60, z62, z63, z64, z65, z70, z74, z75, z90, z96, z99, z102, z114, z115, z116, z117, z118, z126, z128, z236, z729, z999, z9999, z46656, z65537, z1000000] <;> omega))), if_neg c1]
    by_cases c2 : s a = 33
    · rw [if_pos (by (first | omega | (simp (disch := omega) only [iI_le, iI_lt, iI_eq, iI_add, iI_sub, iI_mul, iI_neg, zm1, zm2, zm3, zm4, zm5, zm6, z0, z1, z2, z3, z4, z5, z6, z7, z8, z9, z10, z11, z12, z13, z14, z15, z20, z21, z22, z23, z24, z25, z30, z31, z33, z46, z48, z49, z57, z60, z62, z63, z64, z65, z70, z74, z75, z90, z96, z99, z102, z114, z115, z116, z117, z118, z126, z128, z236, z729, z999, z9999, z46656, z65537, z1000000] <;> omega)))]
      by_cases c3 : x1 = 1
      · rw [if_pos c3, if_neg (by (first | omega | (simp (disch := omega) only [iI_le, iI_lt, iI_eq, iI_add, iI_sub, iI_mul, iI_neg, zm1, zm2, zm3, zm4, zm5, zm6, z0, z1, z2, z3, z4, z5, z6, z7, z8, z9, z10, z11, z12, z13, z14, z15, z20, z21, z22, z23, z24, z25, z30, z31, z33, z46, z48, z49, z57, z60, z62, z63, z64, z65, z70, z74, z75, z90, z96, z99, z102, z114, z115, z116, z117, z118, z126, z128, z236, z729, z999, z9999, z46656, z65537, z1000000] <;> omega))), if_pos ⟨c2, c3⟩, f234_1]
      · rw [if_neg c3, if_neg (by (first | omega | (simp (disch := omega) only [iI_le, iI_lt, iI_eq, iI_add, iI_sub, iI_mul, iI_neg, zm1, zm2, zm3, zm4, zm5, zm6, z0, z1, z2, z3, z4, z5, z6, z7, z8, z9, z10, z11, z12, z13, z14, z15, z20, z21, z22, z23, z24, z25, z30, z31, z33, z46, z48, z49, z57, z60, z62, z63, z64, z65, z70, z74, z75, z90, z96, z99, z102, z114, z115, z116, z117, z118, z126, z128, z236, z729, z999, z9999, z46656, z65537, z1000000] <;> omega))), if_neg (fun q => c3 q.2), f234_0]
    · rw [if_neg (by (first | omega | (simp (disch := omega) only [iI_le, iI_lt, iI_eq, iI_add, iI_sub, iI_mul, iI_neg, zm1, zm2, zm3, zm4, zm5, zm6, z0, z1, z2, z3, z4, z5, z6, z7, z8, z9, z10, z11, z12, z13, z14, z15, z20, z21, z22, z23, z24, z25, z30, z31, z33, z46, z48, z49, z57, z60, z62, z63, z64, z65, z70, z74, z75, z90, z96, z99, z102, z114, z115, z116, z117, z118, z126, z128, z236, z729, z999, z9999, z46656, z65537, z1000000] <;> omega))), if_neg (by (first | omega | (simp (disch := omega) only [iI_le, iI_lt, iI_eq, iI_add, iI_sub, iI_mul, iI_neg, zm1, zm2, zm3, zm4, zm5, zm6, z0, z1, z2, z3, z4, z5, z6, z7, z8, z9, z10, z11, z12, z13, z14, z15, z20, z21, z22, z23, z24, z25, z30, z31, z33, z46, z48, z49, z57, z60, z62, z63, z64, z65, z70, z74, z75, z90, z96, z99, z102, z114, z115, z116, z117, z118, z126, z128, z236, z729, z999, z9999, z46656, z65537, z1000000] <;> omega))), if_neg (fun q => c2 q.1), f234_0]
theorem mf3 {u : MS} {n : Nat} {s : Nat → Int} (ht : tx n s) {a : Nat} {l : Int} (hl : Rg l) (x2 : Int32) : f_X4_faultOf_63 u 3 x2 (iI l) (iI a) (iI (s a)) (b01 (ltr (s a))) = some (if ltr (s a) ∧ ¬ s a = l then .inl (4, x2, iI l, iI ((a + 1 : Nat) : Int)) else .inr (iI a)) := by
  have r0 := tx_r ht a
  unfold f_X4_faultOf_63
  rw [if_neg (by decide), if_neg (by decide), if_pos (by decide), if_pos rfl]
  by_cases c1 : ltr (s a)
  · rw [b01_t c1, if_neg n10]
    by_cases c2 : s a = l
    · rw [if_pos (by rw [c2]), if_neg (fun q => q.2 c2), f234_0]
    · rw [if_neg (by (first | omega | (simp (disch := omega) only [iI_le, iI_lt, iI_eq, iI_add, iI_sub, iI_mul, iI_neg, zm1, zm2, zm3, zm4, zm5, zm6, z0, z1, z2, z3, z4, z5, z6, z7, z8, z9, z10, z11, z12, z13, z14, z15, z20, z21, z22, z23, z24, z25, z30, z31, z33, z46, z48, z49, z57, z60, z62, z63, z64, z65, z70, z74, z75, z90, z96, z99, z102, z114, z115, z116, z117, z118, z126, z128, z236, z729, z999, z9999, z46656, z65537, z1000000] <;> omega))), if_pos ⟨c1, c2⟩, f234_1]
  · rw [b01_f c1, if_pos rfl, if_neg (fun q => c1 q.1), f234_0]
theorem mf4 {u : MS} {n : Nat} {s : Nat → Int} (ht : tx n s) {a : Nat} (x2 x3 y : Int32) : f_X4_faultOf_63 u 4 x2 x3 (iI a) (iI (s a)) y = some (if 49 ≤ s a ∧ s a ≤ 57 then .inl (5, x2, x3, iI ((a + 1 : Nat) : Int)) else .inr (iI a)) := by
  have r0 := tx_r ht a
  unfold f_X4_faultOf_63
  rw [if_neg (by decide), if_neg (by decide), if_pos (by decide), if_neg (by decide), z49, z57, bn_i (p_in (by omega) (by omega) (by omega))]
  by_cases c1 : 49 ≤ s a ∧ s a ≤ 57
  · rw [b01_t c1, if_pos c1, f234_1]
  · rw [b01_f c1, if_neg c1, f234_0]
theorem fl_end {u : MS} {n : Nat} {s : Nat → Int} (hu : tM u n s) (ht : tx n s) {a : Nat} (ha : n ≤ a) (ha2 : a ≤ 100) {x1 : Int32} (hx : ¬ x1 = 0 ∧ ¬ x1 = 5) (x2 x3 : Int32) : lpx (st_X4_faultOf u) (x1, x2, x3, iI a) = some (iI n) := by
  have hn := ht.1
  refine lpx_r ?_
  show f_X4_faultOf_9 u _ _ _ _ = _
  unfold f_X4_faultOf_9
  rw [hu.1, if_pos (by (first | omega | (simp (disch := omega) only [iI_le, iI_lt, iI_eq, iI_add, iI_sub, iI_mul, iI_neg, zm1, zm2, zm3, zm4, zm5, zm6, z0, z1, z2, z3, z4, z5, z6, z7, z8, z9, z10, z11, z12, z13, z14, z15, z20, z21, z22, z23, z24, z25, z30, z31, z33, z46, z48, z49, z57, z60, z62, z63, z64, z65, z70, z74, z75, z90, z96, z99, z102, z114, z115, z116, z117, z118, z126, z128, z236, z729, z999, z9999, z46656, z65537, z1000000] <;> omega))), if_neg hx.1, if_neg hx.2]
theorem fl_end0 {u : MS} {n : Nat} {s : Nat → Int} (hu : tM u n s) (ht : tx n s) {a : Nat} (ha : n ≤ a) (ha2 : a ≤ 100) {x1 : Int32} (hx : x1 = 0 ∨ x1 = 5) (x2 x3 : Int32) : lpx (st_X4_faultOf u) (x1, x2, x3, iI a) = some (iI (-6)) := by
  have hn := ht.1
  refine lpx_r ?_
  show f_X4_faultOf_9 u _ _ _ _ = _
  unfold f_X4_faultOf_9
  rw [hu.1, if_pos (by (first | omega | (simp (disch := omega) only [iI_le, iI_lt, iI_eq, iI_add, iI_sub, iI_mul, iI_neg, zm1, zm2, zm3, zm4, zm5, zm6, z0, z1, z2, z3, z4, z5, z6, z7, z8, z9, z10, z11, z12, z13, z14, z15, z20, z21, z22, z23, z24, z25, z30, z31, z33, z46, z48, z49, z57, z60, z62, z63, z64, z65, z70, z74, z75, z90, z96, z99, z102, z114, z115, z116, z117, z118, z126, z128, z236, z729, z999, z9999, z46656, z65537, z1000000] <;> omega))), ← zm6]
  rcases hx with rfl | rfl
  · rw [if_pos rfl]
  · rw [if_neg (show ¬ (5 : Int32) = 0 by decide), if_pos rfl]
theorem fl_4 {u : MS} {n : Nat} {s : Nat → Int} (hu : tM u n s) (ht : tx n s) {a : Nat} (ha : a ≤ n) (x2 x3 : Int32) : lpx (st_X4_faultOf u) (4, x2, x3, iI a) = if 49 ≤ s a ∧ s a ≤ 57 then lpx (st_X4_faultOf u) (5, x2, x3, iI ((a + 1 : Nat) : Int)) else some (iI a) := by
  have hn := ht.1
  by_cases c0 : a < n
  · have e : st_X4_faultOf u (4, x2, x3, iI a) = _ := (mf_sign hu ht c0 4 x2 x3).trans ((if_neg (fun q => absurd q.1 (by decide))).trans (mf4 ht x2 x3 _))
    by_cases c : 49 ≤ s a ∧ s a ≤ 57
    · rw [if_pos c] at e ⊢
      exact lpx_l e
    · rw [if_neg c] at e ⊢
      exact lpx_r e
  · have : a = n := by omega
    subst this
    rw [if_neg (by rw [ht.2.2 a (Nat.le_refl _)]; omega)]
    exact fl_end hu ht (Nat.le_refl _) (by omega) (by decide) _ _
theorem fl_3 {u : MS} {n : Nat} {s : Nat → Int} (hu : tM u n s) (ht : tx n s) {a : Nat} (ha : a ≤ n) {l : Int} (hl : 0 ≤ l ∧ l ≤ 200) (x2 : Int32) : lpx (st_X4_faultOf u) (3, x2, iI l, iI a) = if ltr (s a) ∧ ¬ s a = l then lpx (st_X4_faultOf u) (4, x2, iI l, iI ((a + 1 : Nat) : Int)) else some (iI a) := by
  have hn := ht.1
  by_cases c0 : a < n
  · have e : st_X4_faultOf u (3, x2, iI l, iI a) = _ := (mf_sign hu ht c0 3 x2 (iI l)).trans ((if_neg (fun q => absurd q.1 (by decide))).trans (mf3 ht ⟨by omega, by omega⟩ x2))
    by_cases c : ltr (s a) ∧ ¬ s a = l
    · rw [if_pos c] at e ⊢
      exact lpx_l e
    · rw [if_neg c] at e ⊢
      exact lpx_r e
  · have : a = n := by omega
    subst this
    rw [if_neg (by rw [ht.2.2 a (Nat.le_refl _)]; omega)]
    exact fl_end hu ht (Nat.le_refl _) (by omega) (by decide) _ _
theorem fl_12 {u : MS} {n : Nat} {s : Nat → Int} (hu : tM u n s) (ht : tx n s) {a : Nat} (ha : a < n) {x1 : Int32} (hx : x1 = 1 ∨ x1 = 2) (h33 : x1 = 1 → ¬ s (a + 1) = 33) (x2 : Int32) : lpx (st_X4_faultOf u) (x1, x2, iI (s a), iI ((a + 1 : Nat) : Int)) = if fO3 s a = -6 then lpx (st_X4_faultOf u) (5, x2, iI (s a), iI ((a + 4 : Nat) : Int)) else some (iI (fO3 s a)) := by
  have hn := ht.1
  have r0 := tx_r ht a
  unfold fO3
  by_cases c1 : s (a + 1) = 62
  · have h1 := tx_in ht (i := a + 1) (by omega)
    rw [if_pos c1]
    have e : st_X4_faultOf u (x1, x2, iI (s a), iI ((a + 1 : Nat) : Int)) = _ := (mf_sign hu ht h1 x1 x2 (iI (s a))).trans ((if_neg (fun q => by rcases hx with rfl | rfl <;> exact absurd q.1 (by decide))).trans (mf12 ht hx x2 _ _))
    rw [if_pos c1] at e
    rw [lpx_l e, fl_3 hu ht (by omega) (by omega)]
    by_cases c2 : ltr (s (a + 2)) ∧ ¬ s (a + 2) = s a
    · have h2 := tx_in ht (i := a + 2) (by omega)
      rw [if_pos c2, if_pos c2, fl_4 hu ht (by omega)]
      by_cases c3 : 49 ≤ s (a + 3) ∧ s (a + 3) ≤ 57
      · rw [if_pos c3, if_pos c3, if_pos rfl]
      · rw [if_neg c3, if_neg c3, if_neg (by omega)]
    · rw [if_neg c2, if_neg c2, if_neg (by omega)]
  · rw [if_neg c1, if_neg (by omega)]
    by_cases c0 : a + 1 < n
    · have e : st_X4_faultOf u (x1, x2, iI (s a), iI ((a + 1 : Nat) : Int)) = _ := (mf_sign hu ht c0 x1 x2 (iI (s a))).trans ((if_neg (fun q => by rcases hx with rfl | rfl <;> exact absurd q.1 (by decide))).trans (mf12 ht hx x2 _ _))
      rw [if_neg c1, if_neg (fun q => h33 q.2 q.1)] at e
      exact lpx_r e
    · have : a + 1 = n := by omega
      rw [fl_end hu ht (by omega) (by omega) (by rcases hx with rfl | rfl <;> decide), this]
theorem fl_0 {u : MS} {n : Nat} {s : Nat → Int} (hu : tM u n s) (ht : tx n s) {a q : Nat} (ha : a < n) (hq : q ≤ 3) {x1 : Int32} (hx : x1 = 0 ∨ x1 = 5 ∧ ¬ dgt (s a)) (x3 : Int32) : st_X4_faultOf u (x1, iI q, x3, iI a) = some (if ltr (s a) then .inl (1, iI q, iI (s a), iI ((a + 1 : Nat) : Int)) else if s a = 46 then .inl (0, iI q, iI (s a), iI ((a + 1 : Nat) : Int)) else if s a = 63 ∧ q < 3 then .inl (2, iI ((q + 1 : Nat) : Int), iI (s a), iI ((a + 1 : Nat) : Int)) else .inr (iI a)) := by
  refine (mf_sign hu ht ha x1 (iI q) x3).trans ((if_neg ?_).trans (mf0 ht hq ?_ x3))
  · rintro ⟨q1, q2⟩
    rcases hx with rfl | ⟨_, h⟩
    · exact absurd q1 (by decide)
    · exact h q2
  · rcases hx with h | h
    · exact Or.inl h
    · exact Or.inr h.1
theorem fl_A {u : MS} {n : Nat} {s : Nat → Int} (hu : tM u n s) (ht : tx n s) {a q : Nat} (ha : a < n) (hq : q ≤ 3) {x1 : Int32} (hx : x1 = 0 ∨ x1 = 5 ∧ ¬ dgt (s a)) (x3 : Int32) (hf : ¬ fOP s a q = -6) : lpx (st_X4_faultOf u) (x1, iI q, x3, iI a) = some (iI (fOP s a q)) := by
  have e := fl_0 hu ht ha hq hx x3
  unfold fOP at hf ⊢
  by_cases c1 : ltr (s a)
  · rw [if_pos c1] at e
    rw [if_neg (by omega), if_neg (by omega), if_pos c1] at hf ⊢
    by_cases c2 : s (a + 1) = 33
    · rw [if_pos c2] at hf; exact absurd rfl hf
    · rw [if_neg c2] at hf ⊢
      rw [lpx_l e, fl_12 hu ht ha (Or.inl rfl) (fun _ => c2), if_neg hf]
  · rw [if_neg c1] at e
    by_cases c2 : s a = 46
    · rw [if_pos c2] at hf; exact absurd rfl hf
    · rw [if_neg c2] at e hf ⊢
      by_cases c3 : s a = 63 ∧ q < 3
      · rw [if_pos c3] at e hf ⊢
        rw [lpx_l e, fl_12 hu ht ha (Or.inr rfl) (fun h => absurd h (by decide)), if_neg hf]
      · rw [if_neg c3] at e ⊢
        rw [if_neg c1]
        exact lpx_r e
theorem fl_5 {u : MS} {n : Nat} {s : Nat → Int} (hu : tM u n s) (ht : tx n s) {a : Nat} (h : lenP s a = 5 ∧ dgt (s (a + 4)) ∨ lenP s a = 4 ∧ ¬ dgt (s (a + 4))) (x2 x3 : Int32) : ∃ x', (x' = (0 : Int32) ∨ x' = 5 ∧ ¬ dgt (s (a + lenP s a))) ∧ lpx (st_X4_faultOf u) (5, x2, x3, iI ((a + 4 : Nat) : Int)) = lpx (st_X4_faultOf u) (x', x2, x3, iI ((a + lenP s a : Nat) : Int)) := by
  rcases h with ⟨h1, h2⟩ | ⟨h1, h2⟩
  · rw [h1]
    refine ⟨0, Or.inl rfl, ?_⟩
    have h4 := tx_in ht (i := a + 4) (by omega)
    have e : st_X4_faultOf u (5, x2, x3, iI ((a + 4 : Nat) : Int)) = _ := (mf_sign hu ht h4 5 x2 x3).trans (if_pos ⟨rfl, h2⟩)
    exact lpx_l e
  · rw [h1]
    exact ⟨5, Or.inr ⟨rfl, h2⟩, rfl⟩
theorem fl_B {u : MS} {n : Nat} {s : Nat → Int} (hu : tM u n s) (ht : tx n s) {a q : Nat} (hq : q ≤ 3) {x1 : Int32} (hx : x1 = 0 ∨ x1 = 5 ∧ ¬ dgt (s a)) (x3 : Int32) (hf : fOP s a q = -6) : ∃ x' l', (x' = (0 : Int32) ∨ x' = 5 ∧ ¬ dgt (s (a + lenP s a))) ∧ lpx (st_X4_faultOf u) (x1, iI q, x3, iI a) = lpx (st_X4_faultOf u) (x', iI ((q + isq s a : Nat) : Int), l', iI ((a + lenP s a : Nat) : Int)) := by
  have hin := fOP_in ht hf
  have hlp := lenP_pos s a
  have ha : a < n := by omega
  have e := fl_0 hu ht ha hq hx x3
  rcases fOP_ok ht hf with ⟨h1, h2⟩ | ⟨h1, h2, h3⟩ | ⟨h1, h2, h3, h4, h5, h6, h7⟩
  · have hi : isq s a = 0 := by unfold isq; rw [if_neg (by omega)]
    rw [if_neg (by omega), if_pos h1] at e
    rw [h2, hi]
    exact ⟨0, _, Or.inl rfl, lpx_l e⟩
  · have hi : isq s a = 0 := by unfold isq; rw [if_neg (by omega)]
    rw [if_pos h1] at e
    rw [h3, hi]
    refine ⟨0, iI (s a), Or.inl rfl, (lpx_l e).trans (lpx_l ?_)⟩
    refine (mf_sign hu ht (a := a + 1) (by omega) 1 (iI q) (iI (s a))).trans ((if_neg (fun q => absurd q.1 (by decide))).trans ((mf12 ht (Or.inl rfl) _ _ _).trans ?_))
    rw [if_neg (by omega), if_pos ⟨h2, rfl⟩]
    rfl
  · have ho : fO3 s a = -6 := by
      unfold fO3
      rw [if_pos h2, if_pos ⟨h3, h4⟩, if_pos ⟨h5, h6⟩]
    rcases h1 with h1 | h1
    · have hi : isq s a = 1 := by unfold isq; rw [if_pos h1.1]
      rw [if_neg (by omega), if_neg (by omega), if_pos h1] at e
      obtain ⟨x', g1, g2⟩ := fl_5 hu ht h7 (iI ((q + 1 : Nat) : Int)) (iI (s a))
      rw [hi]
      refine ⟨x', _, g1, (lpx_l e).trans (Eq.trans ?_ g2)⟩
      rw [fl_12 hu ht ha (Or.inr rfl) (fun h => absurd h (by decide)), if_pos ho]
    · have hi : isq s a = 0 := by unfold isq; rw [if_neg (by omega)]
      rw [if_pos h1] at e
      obtain ⟨x', g1, g2⟩ := fl_5 hu ht h7 (iI (q : Int)) (iI (s a))
      rw [hi]
      refine ⟨x', _, g1, (lpx_l e).trans (Eq.trans ?_ g2)⟩
      rw [fl_12 hu ht ha (Or.inl rfl) (fun _ => by omega), if_pos ho]
theorem p_faultOf {u : MS} {n : Nat} {s : Nat → Int} (hu : tM u n s) (ht : tx n s) {P : Nat} (hP : rds n s P) : f_X4_faultOf u = some (iI (resT n s P)) := by
  have hn := ht.1
  have loop : ∀ (k p : Nat) (x1 x3 : Int32), p + k = P → (x1 = 0 ∨ x1 = 5 ∧ ¬ dgt (s (pl s p).1)) → lpx (st_X4_faultOf u) (x1, iI ((pl s p).2 : Int), x3, iI ((pl s p).1 : Int)) = some (iI (resT n s P)) := by
    intro k
    induction k with
    | zero =>
      intro p x1 x3 hp hx
      have : p = P := by omega
      subst this
      have hq := rds_q ht hP p (Nat.le_refl _)
      unfold resT
      by_cases c : n ≤ (pl s p).1
      · rw [if_pos c]
        exact fl_end0 hu ht c (by omega) (by rcases hx with h | h; exact Or.inl h; exact Or.inr h.1) _ _
      · rw [if_neg c]
        exact fl_A hu ht (by omega) hq.2 hx _ (hP.2.resolve_left c)
    | succ k ih =>
      intro p x1 x3 hp hx
      have hq := rds_q ht hP p (by omega)
      have hl := hP.1 p (by omega)
      obtain ⟨x', l', g1, g2⟩ := fl_B hu ht hq.2 hx x3 hl.2
      exact g2.trans (ih (p + 1) x' l' (by omega) g1)
  exact loop P 0 0 0 (by omega) (Or.inl rfl)
/-- the relation's pads as one text -/
theorem rP_tx {d : DS} {u : MS} (h : rP d u) : ∃ n s, tx n s ∧ tD d n s ∧ tM u n s := by
  obtain ⟨n, s, hn, hd, hu, hs⟩ := h
  refine ⟨n, fun i => if i < n then s i else 0, ⟨hn, fun i hi => ?_, fun i hi => if_neg (by omega)⟩, ⟨hd, fun i hi => ?_⟩, ⟨hu, fun i hi => ?_⟩⟩
  · show 33 ≤ (if i < n then s i else 0) ∧ (if i < n then s i else 0) ≤ 126
    rw [if_pos hi]; exact (hs i hi).2.2
  · show _ = iI (if i < n then s i else 0)
    rw [if_pos hi]; exact (hs i hi).1
  · show _ = iI (if i < n then s i else 0)
    rw [if_pos hi]; exact (hs i hi).2.1
theorem rP_of {d : DS} {u : MS} {n : Nat} {s : Nat → Int} (ht : tx n s) (hd : tD d n s) (hu : tM u n s) : rP d u := ⟨n, s, ht.1, hd.1, hu.1, fun i hi => ⟨hd.2 i hi, hu.2 i hi, ht.2.1 i hi⟩⟩
theorem case4 {N : Nat} {st : LSt} (h : Rel N st) : ∃ st', ls_4 st = some st' ∧ Rel (N + 1) st' := by
  obtain ⟨F, hv, hu, hG, hp, hk⟩ := id h
  obtain ⟨n, s, ht, hd, hm⟩ := rP_tx hp
  obtain ⟨P, hP⟩ := rds_ex n s
  obtain ⟨a1, a2, a3, a4, e1, e2⟩ := p_read hd ht hP
  unfold ls_4 f_X3_fault f_X4_fault
  rw [bn_i e1, bn_i (p_faultOf hm ht hP), bn_i rfl, bn_i rfl, if_pos rfl]
  exact ⟨_, rfl, F, hv, hu, gF_up hG, rP_of ht hd hm, rK_up hk⟩
/-- how many ? stand below a place -/
def cq (s : Nat → Int) : Nat → Nat
  | 0 => 0
  | i + 1 => cq s i + isq s i
theorem cq_le (s : Nat → Int) : ∀ i, cq s i ≤ i
  | 0 => Nat.le_refl _
  | i + 1 => by
    have := cq_le s i
    show cq s i + isq s i ≤ i + 1
    unfold isq
    split <;> omega
theorem p_opens {u : MS} {n : Nat} {s : Nat → Int} (hu : tM u n s) (ht : tx n s) : f_X4_opens u = some (iI (cq s n)) := by
  have hn := ht.1
  have loop : ∀ (k i : Nat), i + k = n → lpx (st_X4_opens u) (iI (cq s i), iI i) = some (iI (cq s n)) := by
    intro k
    induction k with
    | zero =>
      intro i hi
      have : i = n := by omega
      subst this
      refine lpx_r ?_
      show f_X4_opens_4 u _ _ = _
      unfold f_X4_opens_4
      rw [hu.1, if_pos (by (first | omega | (simp (disch := omega) only [iI_le, iI_lt, iI_eq, iI_add, iI_sub, iI_mul, iI_neg, zm1, zm2, zm3, zm4, zm5, zm6, z0, z1, z2, z3, z4, z5, z6, z7, z8, z9, z10, z11, z12, z13, z14, z15, z20, z21, z22, z23, z24, z25, z30, z31, z33, z46, z48, z49, z57, z60, z62, z63, z64, z65, z70, z74, z75, z90, z96, z99, z102, z114, z115, z116, z117, z118, z126, z128, z236, z729, z999, z9999, z46656, z65537, z1000000] <;> omega)))]
    | succ k ih =>
      intro i hi
      refine (lpx_l ?_).trans (ih (i + 1) (by omega))
      have r0 := tx_r ht i
      show f_X4_opens_4 u _ _ = _
      unfold f_X4_opens_4 nm
      rw [hu.1, if_neg (by (first | omega | (simp (disch := omega) only [iI_le, iI_lt, iI_eq, iI_add, iI_sub, iI_mul, iI_neg, zm1, zm2, zm3, zm4, zm5, zm6, z0, z1, z2, z3, z4, z5, z6, z7, z8, z9, z10, z11, z12, z13, z14, z15, z20, z21, z22, z23, z24, z25, z30, z31, z33, z46, z48, z49, z57, z60, z62, z63, z64, z65, z70, z74, z75, z90, z96, z99, z102, z114, z115, z116, z117, z118, z126, z128, z236, z729, z999, z9999, z46656, z65537, z1000000] <;> omega))), ck_N (by omega) (by omega), cl_N (by omega), hu.2 i (by omega)]
      show _ = some (Sum.inl (iI ((cq s i + isq s i : Nat) : Int), _))
      unfold isq
      by_cases c : s i = 63
      · rw [if_pos (by (first | omega | (simp (disch := omega) only [iI_le, iI_lt, iI_eq, iI_add, iI_sub, iI_mul, iI_neg, zm1, zm2, zm3, zm4, zm5, zm6, z0, z1, z2, z3, z4, z5, z6, z7, z8, z9, z10, z11, z12, z13, z14, z15, z20, z21, z22, z23, z24, z25, z30, z31, z33, z46, z48, z49, z57, z60, z62, z63, z64, z65, z70, z74, z75, z90, z96, z99, z102, z114, z115, z116, z117, z118, z126, z128, z236, z729, z999, z9999, z46656, z65537, z1000000] <;> omega))), if_pos c, iI_s, iI_s]
      · rw [if_neg (by (first | omega | (simp (disch := omega) only [iI_le, iI_lt, iI_eq, iI_add, iI_sub, iI_mul, iI_neg, zm1, zm2, zm3, zm4, zm5, zm6, z0, z1, z2, z3, z4, z5, z6, z7, z8, z9, z10, z11, z12, z13, z14, z15, z20, z21, z22, z23, z24, z25, z30, z31, z33, z46, z48, z49, z57, z60, z62, z63, z64, z65, z70, z74, z75, z90, z96, z99, z102, z114, z115, z116, z117, z118, z126, z128, z236, z729, z999, z9999, z46656, z65537, z1000000] <;> omega))), if_neg c, iI_s, z0, iI_add]
        rfl
  exact loop n 0 (by omega)
theorem cq_add {s : Nat → Int} {a : Nat} : ∀ k, (∀ j, 0 < j → j < k + 1 → ¬ s (a + j) = 63) → cq s (a + (k + 1)) = cq s a + isq s a
  | 0, _ => rfl
  | k + 1, h => by
    have ih := cq_add k (fun j h1 h2 => h j h1 (by omega))
    show cq s (a + (k + 1)) + isq s (a + (k + 1)) = _
    have : isq s (a + (k + 1)) = 0 := by
      unfold isq
      rw [if_neg (h (k + 1) (by omega) (by omega))]
    rw [ih, this]
    rfl
theorem cq_pl {n : Nat} {s : Nat → Int} (ht : tx n s) {P : Nat} (hP : rds n s P) : ∀ p, p ≤ P → cq s (pl s p).1 = (pl s p).2
  | 0, _ => rfl
  | p + 1, hp => by
    have ih := cq_pl ht hP p (by omega)
    have hl := hP.1 p (by omega)
    have hlp := lenP_pos s (pl s p).1
    show cq s ((pl s p).1 + lenP s (pl s p).1) = (pl s p).2 + isq s (pl s p).1
    rw [← ih, show lenP s (pl s p).1 = (lenP s (pl s p).1 - 1) + 1 by omega]
    refine cq_add _ (fun j h1 h2 => ?_)
    rcases fOP_ok ht hl.2 with ⟨g1, g2⟩ | ⟨g1, g2, g3⟩ | ⟨g1, g2, g3, g4, g5, g6, g7⟩
    · omega
    · have : j = 1 := by omega
      subst this; omega
    · rcases (show j = 1 ∨ j = 2 ∨ j = 3 ∨ j = 4 by omega) with rfl | rfl | rfl | rfl
      · omega
      · omega
      · omega
      · omega
/-- a text without a fault: it ends with its last part -/
theorem rds_end {n : Nat} {s : Nat → Int} (ht : tx n s) {P : Nat} (hP : rds n s P) (h : n ≤ (pl s P).1) : (pl s P).1 = n ∧ cq s n = (pl s P).2 ∧ (pl s P).2 ≤ 3 := by
  have hq := rds_q ht hP P (Nat.le_refl _)
  have e : (pl s P).1 = n := by omega
  refine ⟨e, ?_, hq.2⟩
  have := cq_pl ht hP P (Nat.le_refl _)
  rw [e] at this
  exact this
