/-! TEXTS: signs, parts, the fault -/
abbrev dgt (z : Int) : Prop := 48 ≤ z ∧ z ≤ 57
abbrev ltr (z : Int) : Prop := 65 ≤ z ∧ z ≤ 70
def lenP (s : Nat → Int) (a : Nat) : Nat := if s a = 46 then 1 else if s (a + 1) = 33 then 2 else if dgt (s (a + 4)) then 5 else 4
def isq (s : Nat → Int) (a : Nat) : Nat := if s a = 63 then 1 else 0
/-- where a part begins, and how many ? stand before it -/
def pl (s : Nat → Int) : Nat → Nat × Nat
  | 0 => (0, 0)
  | p + 1 => ((pl s p).1 + lenP s (pl s p).1, (pl s p).2 + isq s (pl s p).1)
def fO3 (s : Nat → Int) (a : Nat) : Int := if s (a + 1) = 62 then (if ltr (s (a + 2)) ∧ ¬ s (a + 2) = s a then (if 49 ≤ s (a + 3) ∧ s (a + 3) ≤ 57 then -6 else (a + 3 : Nat)) else (a + 2 : Nat)) else (a + 1 : Nat)
def fOP (s : Nat → Int) (a q : Nat) : Int := if s a = 46 then -6 else if s a = 63 ∧ q < 3 then fO3 s a else if ltr (s a) then (if s (a + 1) = 33 then -6 else fO3 s a) else (a : Nat)
def tx (n : Nat) (s : Nat → Int) : Prop := n ≤ 60 ∧ (∀ i, i < n → 33 ≤ s i ∧ s i ≤ 126) ∧ ∀ i, n ≤ i → s i = 0
theorem tx_r {n : Nat} {s : Nat → Int} (h : tx n s) (i : Nat) : 0 ≤ s i ∧ s i ≤ 126 := by
  by_cases c : i < n
  · have := h.2.1 i c
    omega
  · rw [h.2.2 i (by omega)]
    omega
def tD (d : DS) (n : Nat) (s : Nat → Int) : Prop := d.2.2.2.2.2.2.1 = iI n ∧ ∀ i, i < n → d.1 i = iI (s i)
def tM (u : MS) (n : Nat) (s : Nat → Int) : Prop := u.2.2.2.2.2.2.2.2.1 = iI n ∧ ∀ i, i < n → u.2.2.2.2.2.2.2.2.2.1 i = iI (s i)
theorem is2 (a : Nat) : iI (a : Int) + 2 = iI ((a + 2 : Nat) : Int) := by
  rw [z2, iI_add]
  congr 1
theorem is3 (a : Nat) : iI (a : Int) + 3 = iI ((a + 3 : Nat) : Int) := by
  rw [z3, iI_add]
  congr 1
theorem is4 (a : Nat) : iI (a : Int) + 4 = iI ((a + 4 : Nat) : Int) := by
  rw [z4, iI_add]
  congr 1
theorem z71 : (71 : Int32) = iI 71 := iI_lit 71
theorem p_signAt {d : DS} {n : Nat} {s : Nat → Int} (hd : tD d n s) (ht : tx n s) {a : Nat} (ha : a ≤ 100) : f_X0_signAt d (iI a) = some (iI (s a)) := by
  unfold f_X0_signAt
  have hn := ht.1
  rw [if_neg (by (first | omega | (simp (disch := omega) only [iI_le, iI_lt, iI_eq, iI_add, iI_sub, iI_mul, iI_neg, zm1, zm2, zm3, zm4, zm5, zm6, z0, z1, z2, z3, z4, z5, z6, z7, z8, z9, z10, z11, z12, z13, z14, z15, z20, z21, z22, z23, z24, z25, z30, z31, z33, z46, z48, z49, z57, z60, z62, z63, z64, z65, z70, z74, z75, z90, z96, z99, z102, z114, z115, z116, z117, z118, z126, z128, z236, z729, z999, z9999, z46656, z65537, z1000000] <;> omega))), hd.1]
  by_cases c : a < n
  · have hs := ht.2.1 a c
    rw [if_neg (by (first | omega | (simp (disch := omega) only [iI_le, iI_lt, iI_eq, iI_add, iI_sub, iI_mul, iI_neg, zm1, zm2, zm3, zm4, zm5, zm6, z0, z1, z2, z3, z4, z5, z6, z7, z8, z9, z10, z11, z12, z13, z14, z15, z20, z21, z22, z23, z24, z25, z30, z31, z33, z46, z48, z49, z57, z60, z62, z63, z64, z65, z70, z74, z75, z90, z96, z99, z102, z114, z115, z116, z117, z118, z126, z128, z236, z729, z999, z9999, z46656, z65537, z1000000] <;> omega))), if_neg (by (first | omega | (simp (disch := omega) only [iI_le, iI_lt, iI_eq, iI_add, iI_sub, iI_mul, iI_neg, zm1, zm2, zm3, zm4, zm5, zm6, z0, z1, z2, z3, z4, z5, z6, z7, z8, z9, z10, z11, z12, z13, z14, z15, z20, z21, z22, z23, z24, z25, z30, z31, z33, z46, z48, z49, z57, z60, z62, z63, z64, z65, z70, z74, z75, z90, z96, z99, z102, z114, z115, z116, z117, z118, z126, z128, z236, z729, z999, z9999, z46656, z65537, z1000000] <;> omega))), ck_N (by omega) (by omega), cl_N (by omega), hd.2 a c]
    unfold bc
    rw [if_pos (ch_I ⟨by omega, hs.2⟩).1]
  · rw [if_pos (by (first | omega | (simp (disch := omega) only [iI_le, iI_lt, iI_eq, iI_add, iI_sub, iI_mul, iI_neg, zm1, zm2, zm3, zm4, zm5, zm6, z0, z1, z2, z3, z4, z5, z6, z7, z8, z9, z10, z11, z12, z13, z14, z15, z20, z21, z22, z23, z24, z25, z30, z31, z33, z46, z48, z49, z57, z60, z62, z63, z64, z65, z70, z74, z75, z90, z96, z99, z102, z114, z115, z116, z117, z118, z126, z128, z236, z729, z999, z9999, z46656, z65537, z1000000] <;> omega))), ht.2.2 a (by omega), z0]
theorem p_isLetter {z : Int} (hz : 0 ≤ z ∧ z ≤ 200) : f_X0_isLetter (iI z) = some (b01 (ltr z)) := by
  unfold f_X0_isLetter b01
  rw [z65, z71]
  simp (disch := omega) only [iI_lt, iI_le]
  repeat' split
  all_goals first | rfl | (exfalso; omega)
theorem p_isDigit {z : Int} (hz : 0 ≤ z ∧ z ≤ 200) : f_X0_isDigit (iI z) = some (b01 (dgt z)) := by
  unfold f_X0_isDigit b01
  rw [z48, z57]
  simp (disch := omega) only [iI_lt, iI_le]
  repeat' split
  all_goals first | rfl | (exfalso; omega)
theorem p_fO3 {d : DS} {n : Nat} {s : Nat → Int} (hd : tD d n s) (ht : tx n s) {a : Nat} (ha : a ≤ 60) : f_X0_faultOfPart_71 d (iI a) (iI (s a)) (iI (s (a + 1))) = some (iI (fO3 s a)) := by
  have r0 := tx_r ht a
  have r1 := tx_r ht (a + 1)
  have r2 := tx_r ht (a + 2)
  have r3 := tx_r ht (a + 3)
  unfold f_X0_faultOfPart_71 fO3
  by_cases c1 : s (a + 1) = 62
  · rw [if_pos (by (first | omega | (simp (disch := omega) only [iI_le, iI_lt, iI_eq, iI_add, iI_sub, iI_mul, iI_neg, zm1, zm2, zm3, zm4, zm5, zm6, z0, z1, z2, z3, z4, z5, z6, z7, z8, z9, z10, z11, z12, z13, z14, z15, z20, z21, z22, z23, z24, z25, z30, z31, z33, z46, z48, z49, z57, z60, z62, z63, z64, z65, z70, z74, z75, z90, z96, z99, z102, z114, z115, z116, z117, z118, z126, z128, z236, z729, z999, z9999, z46656, z65537, z1000000] <;> omega))), if_pos c1, is2, is3, bn_i (p_signAt hd ht (by omega)), bn_i (p_isLetter (by omega))]
    by_cases c2 : ltr (s (a + 2))
    · rw [b01_t c2, if_neg n10]
      by_cases c3 : s (a + 2) = s a
      · rw [if_pos (by rw [c3]), if_neg (fun q => q.2 c3)]
      · rw [if_neg (by (first | omega | (simp (disch := omega) only [iI_le, iI_lt, iI_eq, iI_add, iI_sub, iI_mul, iI_neg, zm1, zm2, zm3, zm4, zm5, zm6, z0, z1, z2, z3, z4, z5, z6, z7, z8, z9, z10, z11, z12, z13, z14, z15, z20, z21, z22, z23, z24, z25, z30, z31, z33, z46, z48, z49, z57, z60, z62, z63, z64, z65, z70, z74, z75, z90, z96, z99, z102, z114, z115, z116, z117, z118, z126, z128, z236, z729, z999, z9999, z46656, z65537, z1000000] <;> omega))), if_pos ⟨c2, c3⟩, bn_i (p_signAt hd ht (by omega)), bn_i (p_isDigit (by omega))]
        by_cases c4 : dgt (s (a + 3))
        · rw [b01_t c4, if_neg n10]
          by_cases c5 : s (a + 3) = 48
          · rw [if_pos (by (first | omega | (simp (disch := omega) only [iI_le, iI_lt, iI_eq, iI_add, iI_sub, iI_mul, iI_neg, zm1, zm2, zm3, zm4, zm5, zm6, z0, z1, z2, z3, z4, z5, z6, z7, z8, z9, z10, z11, z12, z13, z14, z15, z20, z21, z22, z23, z24, z25, z30, z31, z33, z46, z48, z49, z57, z60, z62, z63, z64, z65, z70, z74, z75, z90, z96, z99, z102, z114, z115, z116, z117, z118, z126, z128, z236, z729, z999, z9999, z46656, z65537, z1000000] <;> omega))), if_neg (by omega)]
          · rw [if_neg (by (first | omega | (simp (disch := omega) only [iI_le, iI_lt, iI_eq, iI_add, iI_sub, iI_mul, iI_neg, zm1, zm2, zm3, zm4, zm5, zm6, z0, z1, z2, z3, z4, z5, z6, z7, z8, z9, z10, z11, z12, z13, z14, z15, z20, z21, z22, z23, z24, z25, z30, z31, z33, z46, z48, z49, z57, z60, z62, z63, z64, z65, z70, z74, z75, z90, z96, z99, z102, z114, z115, z116, z117, z118, z126, z128, z236, z729, z999, z9999, z46656, z65537, z1000000] <;> omega))), if_pos (by omega), zm6]
        · rw [b01_f c4, if_pos rfl, if_neg (by omega)]
    · rw [b01_f c2, if_pos rfl, if_neg (fun q => c2 q.1)]
  · rw [if_neg (by (first | omega | (simp (disch := omega) only [iI_le, iI_lt, iI_eq, iI_add, iI_sub, iI_mul, iI_neg, zm1, zm2, zm3, zm4, zm5, zm6, z0, z1, z2, z3, z4, z5, z6, z7, z8, z9, z10, z11, z12, z13, z14, z15, z20, z21, z22, z23, z24, z25, z30, z31, z33, z46, z48, z49, z57, z60, z62, z63, z64, z65, z70, z74, z75, z90, z96, z99, z102, z114, z115, z116, z117, z118, z126, z128, z236, z729, z999, z9999, z46656, z65537, z1000000] <;> omega))), if_neg c1, iI_s]
theorem p_faultOfPart {d : DS} {n : Nat} {s : Nat → Int} (hd : tD d n s) (ht : tx n s) {a q : Nat} (ha : a ≤ 60) (hq : q ≤ 3) (hdq : d.2.2.2.2.2.2.2.2.1 = iI q) : f_X0_faultOfPart d (iI a) = some (iI (fOP s a q)) := by
  have r0 := tx_r ht a
  have r1 := tx_r ht (a + 1)
  unfold f_X0_faultOfPart fOP
  rw [bn_i (p_signAt hd ht (by omega)), hdq]
  have k48 : ∀ t : Int32, t = 0 → f_X0_faultOfPart_48 d (iI a) (iI (s a)) t = some (iI (if s (a + 1) = 33 then -6 else fO3 s a)) := fun t h0 => by
    unfold f_X0_faultOfPart_48
    rw [iI_s, bn_i (p_signAt hd ht (by omega)), if_pos h0, p_fO3 hd ht ha]
    by_cases c : s (a + 1) = 33
    · rw [if_pos (by (first | omega | (simp (disch := omega) only [iI_le, iI_lt, iI_eq, iI_add, iI_sub, iI_mul, iI_neg, zm1, zm2, zm3, zm4, zm5, zm6, z0, z1, z2, z3, z4, z5, z6, z7, z8, z9, z10, z11, z12, z13, z14, z15, z20, z21, z22, z23, z24, z25, z30, z31, z33, z46, z48, z49, z57, z60, z62, z63, z64, z65, z70, z74, z75, z90, z96, z99, z102, z114, z115, z116, z117, z118, z126, z128, z236, z729, z999, z9999, z46656, z65537, z1000000] <;> omega))), if_pos c, zm6]
    · rw [if_neg (by (first | omega | (simp (disch := omega) only [iI_le, iI_lt, iI_eq, iI_add, iI_sub, iI_mul, iI_neg, zm1, zm2, zm3, zm4, zm5, zm6, z0, z1, z2, z3, z4, z5, z6, z7, z8, z9, z10, z11, z12, z13, z14, z15, z20, z21, z22, z23, z24, z25, z30, z31, z33, z46, z48, z49, z57, z60, z62, z63, z64, z65, z70, z74, z75, z90, z96, z99, z102, z114, z115, z116, z117, z118, z126, z128, z236, z729, z999, z9999, z46656, z65537, z1000000] <;> omega))), if_neg c]
  have k34 : ¬ (s a = 63 ∧ q < 3) → f_X0_faultOfPart_34 d (iI a) (iI (s a)) 0 = some (iI (if ltr (s a) then (if s (a + 1) = 33 then -6 else fO3 s a) else (a : Nat))) := fun h => by
    unfold f_X0_faultOfPart_34
    rw [if_pos rfl, bn_i (p_isLetter (by omega)), k48 0 rfl]
    by_cases c : ltr (s a)
    · rw [b01_t c, if_neg n10, if_pos c]
    · rw [b01_f c, if_pos rfl, if_neg c]
  by_cases c1 : s a = 46
  · rw [if_pos (by (first | omega | (simp (disch := omega) only [iI_le, iI_lt, iI_eq, iI_add, iI_sub, iI_mul, iI_neg, zm1, zm2, zm3, zm4, zm5, zm6, z0, z1, z2, z3, z4, z5, z6, z7, z8, z9, z10, z11, z12, z13, z14, z15, z20, z21, z22, z23, z24, z25, z30, z31, z33, z46, z48, z49, z57, z60, z62, z63, z64, z65, z70, z74, z75, z90, z96, z99, z102, z114, z115, z116, z117, z118, z126, z128, z236, z729, z999, z9999, z46656, z65537, z1000000] <;> omega))), if_pos c1, zm6]
  · rw [if_neg (by (first | omega | (simp (disch := omega) only [iI_le, iI_lt, iI_eq, iI_add, iI_sub, iI_mul, iI_neg, zm1, zm2, zm3, zm4, zm5, zm6, z0, z1, z2, z3, z4, z5, z6, z7, z8, z9, z10, z11, z12, z13, z14, z15, z20, z21, z22, z23, z24, z25, z30, z31, z33, z46, z48, z49, z57, z60, z62, z63, z64, z65, z70, z74, z75, z90, z96, z99, z102, z114, z115, z116, z117, z118, z126, z128, z236, z729, z999, z9999, z46656, z65537, z1000000] <;> omega))), if_neg c1]
    by_cases c2 : s a = 63
    · rw [if_pos (by (first | omega | (simp (disch := omega) only [iI_le, iI_lt, iI_eq, iI_add, iI_sub, iI_mul, iI_neg, zm1, zm2, zm3, zm4, zm5, zm6, z0, z1, z2, z3, z4, z5, z6, z7, z8, z9, z10, z11, z12, z13, z14, z15, z20, z21, z22, z23, z24, z25, z30, z31, z33, z46, z48, z49, z57, z60, z62, z63, z64, z65, z70, z74, z75, z90, z96, z99, z102, z114, z115, z116, z117, z118, z126, z128, z236, z729, z999, z9999, z46656, z65537, z1000000] <;> omega)))]
      by_cases c3 : q < 3
      · rw [if_neg (by (first | omega | (simp (disch := omega) only [iI_le, iI_lt, iI_eq, iI_add, iI_sub, iI_mul, iI_neg, zm1, zm2, zm3, zm4, zm5, zm6, z0, z1, z2, z3, z4, z5, z6, z7, z8, z9, z10, z11, z12, z13, z14, z15, z20, z21, z22, z23, z24, z25, z30, z31, z33, z46, z48, z49, z57, z60, z62, z63, z64, z65, z70, z74, z75, z90, z96, z99, z102, z114, z115, z116, z117, z118, z126, z128, z236, z729, z999, z9999, z46656, z65537, z1000000] <;> omega))), if_pos ⟨c2, c3⟩]
        unfold f_X0_faultOfPart_34 f_X0_faultOfPart_48
        rw [if_neg n10, iI_s, bn_i (p_signAt hd ht (by omega)), if_neg n10, p_fO3 hd ht ha]
        split <;> rfl
      · rw [if_pos (by (first | omega | (simp (disch := omega) only [iI_le, iI_lt, iI_eq, iI_add, iI_sub, iI_mul, iI_neg, zm1, zm2, zm3, zm4, zm5, zm6, z0, z1, z2, z3, z4, z5, z6, z7, z8, z9, z10, z11, z12, z13, z14, z15, z20, z21, z22, z23, z24, z25, z30, z31, z33, z46, z48, z49, z57, z60, z62, z63, z64, z65, z70, z74, z75, z90, z96, z99, z102, z114, z115, z116, z117, z118, z126, z128, z236, z729, z999, z9999, z46656, z65537, z1000000] <;> omega))), if_neg (by omega), k34 (by omega)]
    · rw [if_neg (by (first | omega | (simp (disch := omega) only [iI_le, iI_lt, iI_eq, iI_add, iI_sub, iI_mul, iI_neg, zm1, zm2, zm3, zm4, zm5, zm6, z0, z1, z2, z3, z4, z5, z6, z7, z8, z9, z10, z11, z12, z13, z14, z15, z20, z21, z22, z23, z24, z25, z30, z31, z33, z46, z48, z49, z57, z60, z62, z63, z64, z65, z70, z74, z75, z90, z96, z99, z102, z114, z115, z116, z117, z118, z126, z128, z236, z729, z999, z9999, z46656, z65537, z1000000] <;> omega))), if_neg (by omega), k34 (by omega)]
/-- what stands in a part that has no fault -/
theorem fOP_ok {n : Nat} {s : Nat → Int} (ht : tx n s) {a q : Nat} (h : fOP s a q = -6) : (s a = 46 ∧ lenP s a = 1) ∨ (ltr (s a) ∧ s (a + 1) = 33 ∧ lenP s a = 2) ∨ ((s a = 63 ∧ q < 3 ∨ ltr (s a)) ∧ s (a + 1) = 62 ∧ ltr (s (a + 2)) ∧ ¬ s (a + 2) = s a ∧ 49 ≤ s (a + 3) ∧ s (a + 3) ≤ 57 ∧ (lenP s a = 5 ∧ dgt (s (a + 4)) ∨ lenP s a = 4 ∧ ¬ dgt (s (a + 4)))) := by
  unfold fOP fO3 at h
  unfold lenP
  by_cases c1 : s a = 46
  · rw [if_pos c1]; exact Or.inl ⟨c1, rfl⟩
  · rw [if_neg c1] at h ⊢
    by_cases c3 : s (a + 1) = 33
    · rw [if_pos c3] at h ⊢
      rw [if_neg (show ¬ s (a + 1) = 62 by omega)] at h
      refine Or.inr (Or.inl ⟨?_, c3, rfl⟩)
      split at h
      · omega
      · split at h
        · assumption
        · omega
    · rw [if_neg c3] at h ⊢
      refine Or.inr (Or.inr ?_)
      have key : (if s (a + 1) = 62 then (if ltr (s (a + 2)) ∧ ¬ s (a + 2) = s a then (if 49 ≤ s (a + 3) ∧ s (a + 3) ≤ 57 then -6 else ((a + 3 : Nat) : Int)) else ((a + 2 : Nat) : Int)) else ((a + 1 : Nat) : Int)) = -6 ∧ (s a = 63 ∧ q < 3 ∨ ltr (s a)) := by
        split at h
        · exact ⟨h, Or.inl (by assumption)⟩
        · split at h
          · exact ⟨h, Or.inr (by assumption)⟩
          · omega
      obtain ⟨k1, k2⟩ := key
      split at k1
      · split at k1
        · split at k1
          · refine ⟨k2, by assumption, ?_⟩
            split <;> omega
          · omega
        · omega
      · omega
theorem lenP_pos (s : Nat → Int) (a : Nat) : 1 ≤ lenP s a ∧ lenP s a ≤ 5 := by
  unfold lenP
  repeat' split
  all_goals omega
theorem tx_in {n : Nat} {s : Nat → Int} (ht : tx n s) {i : Nat} (h : ¬ s i = 0) : i < n := by
  rcases Nat.lt_or_ge i n with q | q
  · exact q
  · exact absurd (ht.2.2 i q) h
theorem fOP_in {n : Nat} {s : Nat → Int} (ht : tx n s) {a q : Nat} (h : fOP s a q = -6) : a + lenP s a ≤ n := by
  rcases fOP_ok ht h with ⟨h1, h2⟩ | ⟨h1, h2, h3⟩ | ⟨h1, h2, h3, h4, h5, h6, h7⟩
  · have := tx_in ht (i := a) (by omega)
    omega
  · have := tx_in ht (i := a + 1) (by omega)
    omega
  · rcases h7 with h7 | h7
    · have := tx_in ht (i := a + 4) (by omega)
      omega
    · have := tx_in ht (i := a + 3) (by omega)
      omega
/-- the reading stops before part P -/
def rds (n : Nat) (s : Nat → Int) (P : Nat) : Prop := (∀ p, p < P → (pl s p).1 < n ∧ fOP s (pl s p).1 (pl s p).2 = -6) ∧ (n ≤ (pl s P).1 ∨ ¬ fOP s (pl s P).1 (pl s P).2 = -6)
theorem pl_ge (s : Nat → Int) : ∀ p, p ≤ (pl s p).1
  | 0 => Nat.zero_le _
  | p + 1 => by
    have := pl_ge s p
    have := (lenP_pos s (pl s p).1).1
    show p + 1 ≤ (pl s p).1 + lenP s (pl s p).1
    omega
theorem rds_ex (n : Nat) (s : Nat → Int) : ∃ P, rds n s P := by
  have key : ∀ k p, p + k = n → (∀ i, i < p → (pl s i).1 < n ∧ fOP s (pl s i).1 (pl s i).2 = -6) → ∃ P, rds n s P := by
    intro k
    induction k with
    | zero =>
      intro p hp h
      refine ⟨p, h, Or.inl ?_⟩
      have := pl_ge s p
      omega
    | succ k ih =>
      intro p hp h
      by_cases c : (pl s p).1 < n ∧ fOP s (pl s p).1 (pl s p).2 = -6
      · refine ih (p + 1) (by omega) (fun i hi => ?_)
        by_cases e : i = p
        · subst e; exact c
        · exact h i (by omega)
      · refine ⟨p, h, ?_⟩
        by_cases c2 : (pl s p).1 < n
        · exact Or.inr (fun q => c ⟨c2, q⟩)
        · exact Or.inl (by omega)
  exact key n 0 (by omega) (fun i hi => absurd hi (by omega))
theorem rds_q {n : Nat} {s : Nat → Int} {P : Nat} (ht : tx n s) (h : rds n s P) : ∀ p, p ≤ P → (pl s p).1 ≤ n ∧ (pl s p).2 ≤ 3
  | 0, _ => ⟨Nat.zero_le _, Nat.zero_le _⟩
  | p + 1, hp => by
    have ih := rds_q ht h p (by omega)
    have hq := (h.1 p (by omega)).2
    have h2 := fOP_in ht hq
    refine ⟨h2, ?_⟩
    show (pl s p).2 + isq s (pl s p).1 ≤ 3
    unfold isq
    split
    · rcases fOP_ok ht hq with ⟨h1, _⟩ | ⟨h1, _⟩ | ⟨h1, _⟩ <;> omega
    · omega
theorem rds_P {n : Nat} {s : Nat → Int} {P : Nat} (ht : tx n s) (h : rds n s P) : P ≤ n := by
  have := pl_ge s P
  have := (rds_q ht h P (Nat.le_refl _)).1
  omega
