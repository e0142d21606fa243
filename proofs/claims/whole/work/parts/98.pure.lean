/-! THE PURE LAW -/
theorem lsAll_ok {N : Nat} (hN : N ≤ 512) {st : LSt} (h : Rel N st) (a0 a1 a2 a3 a4 a5 : Int32) : ∃ st', lsAll st a0 a1 a2 a3 a4 a5 = some st' ∧ Rel (N + 1) st' := by
  unfold lsAll
  by_cases c0 : (a0 &&& 31) = 0
  · rw [if_pos c0]
    exact case0 h a1 a2
  rw [if_neg c0]
  by_cases c1 : (a0 &&& 31) = 1
  · rw [if_pos c1]
    exact case1 h a1 a2
  rw [if_neg c1]
  by_cases c2 : (a0 &&& 31) = 2
  · rw [if_pos c2]
    exact case2 h a1
  rw [if_neg c2]
  by_cases c3 : (a0 &&& 31) = 3
  · rw [if_pos c3]
    exact case3 h 
  rw [if_neg c3]
  by_cases c4 : (a0 &&& 31) = 4
  · rw [if_pos c4]
    exact case4 h 
  rw [if_neg c4]
  by_cases c5 : (a0 &&& 31) = 5
  · rw [if_pos c5]
    exact case5 hN h a1
  rw [if_neg c5]
  by_cases c6 : (a0 &&& 31) = 6
  · rw [if_pos c6]
    exact case6 hN h 
  rw [if_neg c6]
  by_cases c7 : (a0 &&& 31) = 7
  · rw [if_pos c7]
    exact case7 h a1 a2 a3
  rw [if_neg c7]
  by_cases c8 : (a0 &&& 31) = 8
  · rw [if_pos c8]
    exact case8 h a1
  rw [if_neg c8]
  by_cases c9 : (a0 &&& 31) = 9
  · rw [if_pos c9]
    exact case9 h a1 a2
  rw [if_neg c9]
  by_cases c10 : (a0 &&& 31) = 10
  · rw [if_pos c10]
    exact case10 h a1 a2
  rw [if_neg c10]
  by_cases c11 : (a0 &&& 31) = 11
  · rw [if_pos c11]
    exact case11 h 
  rw [if_neg c11]
  by_cases c12 : (a0 &&& 31) = 12
  · rw [if_pos c12]
    exact case12 hN h a1
  rw [if_neg c12]
  by_cases c13 : (a0 &&& 31) = 13
  · rw [if_pos c13]
    exact case13 hN h a1 a2
  rw [if_neg c13]
  by_cases c14 : (a0 &&& 31) = 14
  · rw [if_pos c14]
    exact case14 hN h 
  rw [if_neg c14]
  by_cases c15 : (a0 &&& 31) = 15
  · rw [if_pos c15]
    exact case15 hN h a1
  rw [if_neg c15]
  by_cases c16 : (a0 &&& 31) = 16
  · rw [if_pos c16]
    exact case16 hN h 
  rw [if_neg c16]
  by_cases c17 : (a0 &&& 31) = 17
  · rw [if_pos c17]
    exact case17 h a1
  rw [if_neg c17]
  by_cases c18 : (a0 &&& 31) = 18
  · rw [if_pos c18]
    exact case18 h a1
  rw [if_neg c18]
  by_cases c19 : (a0 &&& 31) = 19
  · rw [if_pos c19]
    exact case19 h a1 a2 a3
  rw [if_neg c19]
  by_cases c20 : (a0 &&& 31) = 20
  · rw [if_pos c20]
    exact case20 h a1 a2
  rw [if_neg c20]
  by_cases c21 : (a0 &&& 31) = 21
  · rw [if_pos c21]
    exact case21 hN h a1 a2 a3 a4 a5
  rw [if_neg c21]
  by_cases c22 : (a0 &&& 31) = 22
  · rw [if_pos c22]
    exact case22 hN h a1 a2 a3
  rw [if_neg c22]
  by_cases c23 : (a0 &&& 31) = 23
  · rw [if_pos c23]
    exact case23 h a1
  rw [if_neg c23]
  by_cases c24 : (a0 &&& 31) = 24
  · rw [if_pos c24]
    exact case24 h a1
  rw [if_neg c24]
  by_cases c25 : (a0 &&& 31) = 25
  · rw [if_pos c25]
    exact case25 h a1
  rw [if_neg c25]
  exact ⟨st, rfl, Rel_up h⟩
theorem law_ok (xs : Nat → Int32) : ∀ (k N i : Nat) (st : LSt), N + k = 512 → Rel N st → lawOk xs k i st
  | 0, _, _, _, _, _ => trivial
  | k + 1, N, i, st, hk, h => by
    obtain ⟨st', e1, e2⟩ := lsAll_ok (by omega) h (xs i) (xs (i + 1)) (xs (i + 2)) (xs (i + 3)) (xs (i + 4)) (xs (i + 5))
    exact ⟨st', e1, law_ok xs k (N + 1) (i + 6) st' (by omega) e2⟩
theorem p_init20 : ∃ fz, lpx st_X4init (fun _ => 0, 0) = some fz ∧ ∀ i, i < 6 → fz i = 20 := by
  have loop : ∀ (j m : Nat) (f : AI), m + j = 6 → (∀ i, i < m → f i = 20) → ∃ g, lpx st_X4init (f, iI m) = some g ∧ ∀ i, i < 6 → g i = 20 := by
    intro j
    induction j with
    | zero =>
      intro m f hm h
      have : m = 6 := by omega
      subst this
      refine ⟨f, lpx_r ?_, h⟩
      show (if (6 : Int32) ≤ iI ((6 : Nat) : Int) then _ else _) = _
      rw [if_pos (by (first | omega | (simp (disch := omega) only [iI_le, iI_lt, iI_eq, iI_add, iI_sub, iI_mul, iI_neg, zm1, zm2, zm3, zm4, zm5, zm6, z0, z1, z2, z3, z4, z5, z6, z7, z8, z9, z10, z11, z12, z13, z14, z15, z20, z21, z22, z23, z24, z25, z30, z31, z33, z46, z48, z49, z57, z60, z62, z63, z64, z65, z70, z74, z75, z90, z96, z99, z102, z114, z115, z116, z117, z118, z126, z128, z236, z729, z999, z9999, z46656, z65537, z1000000] <;> omega)))]
    | succ j ih =>
      intro m f hm h
      obtain ⟨g, e1, e2⟩ := ih (m + 1) (upd f m 20) (by omega) (fun i hi => by
        by_cases e : i = m
        · subst e; exact upd_s
        · rw [upd_n e]; exact h i (by omega))
      refine ⟨g, (lpx_l ?_).trans e1, e2⟩
      show (if (6 : Int32) ≤ iI (m : Int) then some (Sum.inr f) else ck (iI (m : Int)) 6 (some (Sum.inl (upd f (iI (m : Int)).toNatClampNeg 20, iI (m : Int) + 1)))) = _
      rw [if_neg (by (first | omega | (simp (disch := omega) only [iI_le, iI_lt, iI_eq, iI_add, iI_sub, iI_mul, iI_neg, zm1, zm2, zm3, zm4, zm5, zm6, z0, z1, z2, z3, z4, z5, z6, z7, z8, z9, z10, z11, z12, z13, z14, z15, z20, z21, z22, z23, z24, z25, z30, z31, z33, z46, z48, z49, z57, z60, z62, z63, z64, z65, z70, z74, z75, z90, z96, z99, z102, z114, z115, z116, z117, z118, z126, z128, z236, z729, z999, z9999, z46656, z65537, z1000000] <;> omega))), ck_N (by omega) (by omega), cl_N (by omega), iI_s]
  exact loop 6 0 (fun _ => 0) (by omega) (fun i hi => absurd hi (by omega))
def S00 : SV := (fun _ => 20, fun _ => 0, fun _ _ => 0, fun _ _ => 0, fun _ _ => 0)
theorem rel_0 {p0 fz : AI} (h1 : ∀ i, i < 6 → p0 i = 20) (h2 : ∀ i, i < 6 → fz i = 20) : Rel 0 (ls0 p0 fz) := by
  have no : ∀ {P : Prop} {k : Nat}, k < 0 → P := fun h => absurd h (by omega)
  refine ⟨(S00, 0, 0, 0, 0, fun _ => 0, fun _ => 0), ⟨fun m hm => ⟨?_, z0, fun k hk => no hk⟩, z0, z0, z0, z0, fun i hi => no hi⟩, ⟨fun m hm => ⟨?_, z0, fun k hk => no hk⟩, z0, z0, z0, z0, fun i hi => no hi⟩, ⟨⟨fun m hm => ⟨?_, ?_, fun k hk => no hk⟩, ?_⟩, ⟨?_, ?_⟩, ⟨?_, ?_⟩, ⟨?_, ?_⟩, ?_, fun i hi => no hi⟩, ⟨0, fun _ => 0, by omega, z0, z0, fun i hi => no hi⟩, false, false, z0, ⟨rfl, fun q => absurd q (by decide)⟩, ⟨rfl, fun q => absurd q (by decide)⟩⟩
  · exact (h1 m hm).trans z20
  · exact (h2 m hm).trans z20
  · show (0 : Int) ≤ 20; omega
  · show 0 ≤ 5; omega
  · show (20 : Int) + 20 + 20 + 20 + 20 + 20 ≤ 120 + 999 * ((0 : Nat) : Int); omega
  · show (0 : Int) ≤ 0; omega
  · show (0 : Int) ≤ 2; omega
  · show (0 : Int) ≤ 0; omega
  · show (0 : Int) ≤ 9; omega
  · show (0 : Int) ≤ 0; omega
  · show (0 : Int) ≤ 60 * ((0 : Nat) : Int); omega
  · show 0 ≤ 6; omega
/-- what whole_start takes -/
theorem pure_law (xs : Nat → Int32) : ∃ p0 fz, f_J7_fill_53178 6 (fun _ => 0) 20 = some p0 ∧ lpx st_X4init (fun _ => 0, 0) = some fz ∧ lawOk xs 512 0 (ls0 p0 fz) := by
  obtain ⟨p0, e1, e2⟩ := p_fillI (N := 6) (by omega) (fun _ => 0) 20
  obtain ⟨fz, f1, f2⟩ := p_init20
  exact ⟨p0, fz, e1, f1, law_ok xs 512 0 0 _ (by omega) (rel_0 e2 f2)⟩
