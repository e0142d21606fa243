/-! NUMBERS: Int32 out of Int -/
def iI (z : Int) : Int32 := Int32.ofInt z
abbrev Rg (z : Int) : Prop := -2147483648 ≤ z ∧ z < 2147483648
theorem iI_rng (x : Int32) : Rg x.toInt := by
  have h1 := Int32.le_toInt x
  have h2 := Int32.toInt_lt x
  constructor <;> omega
theorem iI_of (x : Int32) : x = iI x.toInt := (Int32.ofInt_toInt x).symm
theorem iI_to {z : Int} (h : Rg z) : (iI z).toInt = z := Int32.toInt_ofInt_of_le (by omega) (by omega)
theorem iI_ex (x : Int32) : ∃ z : Int, Rg z ∧ x = iI z := ⟨x.toInt, iI_rng x, iI_of x⟩
theorem iI_add (a b : Int) : iI a + iI b = iI (a + b) := (Int32.ofInt_add a b).symm
theorem iI_sub (a b : Int) : iI a - iI b = iI (a - b) := (Int32.ofInt_sub a b).symm
theorem iI_mul (a b : Int) : iI a * iI b = iI (a * b) := (Int32.ofInt_mul a b).symm
theorem iI_neg (a : Int) : -iI a = iI (-a) := (Int32.ofInt_neg a).symm
theorem iI_lt {a b : Int} (ha : Rg a) (hb : Rg b) : iI a < iI b ↔ a < b := by rw [Int32.lt_iff_toInt_lt, iI_to ha, iI_to hb]
theorem iI_le {a b : Int} (ha : Rg a) (hb : Rg b) : iI a ≤ iI b ↔ a ≤ b := by rw [Int32.le_iff_toInt_le, iI_to ha, iI_to hb]
theorem iI_eq {a b : Int} (ha : Rg a) (hb : Rg b) : iI a = iI b ↔ a = b := by
  constructor
  · intro h
    have := congrArg Int32.toInt h
    rwa [iI_to ha, iI_to hb] at this
  · intro h; rw [h]
theorem iI_nat (n : Nat) : iI (n : Int) = nI n := by
  show Int32.ofInt (n : Int) = Int32.ofNat n
  exact Int32.ofInt_eq_ofNat
theorem iI_lit (n : Nat) : (OfNat.ofNat n : Int32) = iI (OfNat.ofNat n : Int) := (iI_nat n).symm
theorem iI_cl {z : Int} (h : Rg z) : (iI z).toNatClampNeg = z.toNat := by
  show (iI z).toInt.toNat = z.toNat
  rw [iI_to h]
theorem iI_in {z : Int} {n : Nat} (h0 : 0 ≤ z) (h : z < n) (hn : n ≤ 2147483647) : vp_in (iI z) n := by
  have hr : Rg z := ⟨by omega, by omega⟩
  rintro (q | q)
  · have := (iI_lt hr (b := 0) (by omega)).mp q
    omega
  · rw [iI_cl hr] at q
    omega
theorem iI_div {a b : Int} (h0 : 0 ≤ a) (ha : a < 2147483648) (hb : 0 < b) (hb2 : b < 2147483648) : iI a / iI b = iI (a / b) := by
  obtain ⟨n, rfl⟩ := Int.eq_ofNat_of_zero_le h0
  obtain ⟨k, rfl⟩ := Int.eq_ofNat_of_zero_le (Int.le_of_lt hb)
  rw [iI_nat, iI_nat, pk_div (by omega) (by omega) (by omega), ← iI_nat]
  rfl
theorem iI_rem {a b : Int} (h0 : 0 ≤ a) (ha : a < 2147483648) (hb : 0 < b) (hb2 : b < 2147483648) : iI a - iI a / iI b * iI b = iI (a % b) := by
  rw [iI_div h0 ha hb hb2, iI_mul, iI_sub]
  congr 1
  have := Int.mul_ediv_add_emod a b
  rw [Int.mul_comm] at this
  omega
theorem z0 : (0 : Int32) = iI 0 := iI_lit 0
theorem z1 : (1 : Int32) = iI 1 := iI_lit 1
theorem z2 : (2 : Int32) = iI 2 := iI_lit 2
theorem z3 : (3 : Int32) = iI 3 := iI_lit 3
theorem z4 : (4 : Int32) = iI 4 := iI_lit 4
theorem z5 : (5 : Int32) = iI 5 := iI_lit 5
theorem z6 : (6 : Int32) = iI 6 := iI_lit 6
theorem z7 : (7 : Int32) = iI 7 := iI_lit 7
theorem z8 : (8 : Int32) = iI 8 := iI_lit 8
theorem z9 : (9 : Int32) = iI 9 := iI_lit 9
theorem z10 : (10 : Int32) = iI 10 := iI_lit 10
theorem z11 : (11 : Int32) = iI 11 := iI_lit 11
theorem z12 : (12 : Int32) = iI 12 := iI_lit 12
theorem z13 : (13 : Int32) = iI 13 := iI_lit 13
theorem z14 : (14 : Int32) = iI 14 := iI_lit 14
theorem z15 : (15 : Int32) = iI 15 := iI_lit 15
theorem z20 : (20 : Int32) = iI 20 := iI_lit 20
theorem z21 : (21 : Int32) = iI 21 := iI_lit 21
theorem z22 : (22 : Int32) = iI 22 := iI_lit 22
theorem z23 : (23 : Int32) = iI 23 := iI_lit 23
theorem z24 : (24 : Int32) = iI 24 := iI_lit 24
theorem z25 : (25 : Int32) = iI 25 := iI_lit 25
theorem z30 : (30 : Int32) = iI 30 := iI_lit 30
theorem z31 : (31 : Int32) = iI 31 := iI_lit 31
theorem z33 : (33 : Int32) = iI 33 := iI_lit 33
theorem z46 : (46 : Int32) = iI 46 := iI_lit 46
theorem z48 : (48 : Int32) = iI 48 := iI_lit 48
theorem z49 : (49 : Int32) = iI 49 := iI_lit 49
theorem z57 : (57 : Int32) = iI 57 := iI_lit 57
theorem z60 : (60 : Int32) = iI 60 := iI_lit 60
theorem z62 : (62 : Int32) = iI 62 := iI_lit 62
theorem z63 : (63 : Int32) = iI 63 := iI_lit 63
theorem z64 : (64 : Int32) = iI 64 := iI_lit 64
theorem z65 : (65 : Int32) = iI 65 := iI_lit 65
theorem z70 : (70 : Int32) = iI 70 := iI_lit 70
theorem z74 : (74 : Int32) = iI 74 := iI_lit 74
theorem z75 : (75 : Int32) = iI 75 := iI_lit 75
theorem z90 : (90 : Int32) = iI 90 := iI_lit 90
theorem z96 : (96 : Int32) = iI 96 := iI_lit 96
theorem z99 : (99 : Int32) = iI 99 := iI_lit 99
theorem z102 : (102 : Int32) = iI 102 := iI_lit 102
theorem z114 : (114 : Int32) = iI 114 := iI_lit 114
theorem z115 : (115 : Int32) = iI 115 := iI_lit 115
theorem z116 : (116 : Int32) = iI 116 := iI_lit 116
theorem z117 : (117 : Int32) = iI 117 := iI_lit 117
theorem z118 : (118 : Int32) = iI 118 := iI_lit 118
theorem z126 : (126 : Int32) = iI 126 := iI_lit 126
theorem z128 : (128 : Int32) = iI 128 := iI_lit 128
theorem z236 : (236 : Int32) = iI 236 := iI_lit 236
theorem z729 : (729 : Int32) = iI 729 := iI_lit 729
theorem z122 : (122 : Int32) = iI 122 := iI_lit 122
theorem z7776 : (7776 : Int32) = iI 7776 := iI_lit 7776
theorem z999 : (999 : Int32) = iI 999 := iI_lit 999
theorem z9999 : (9999 : Int32) = iI 9999 := iI_lit 9999
theorem z46656 : (46656 : Int32) = iI 46656 := iI_lit 46656
theorem z65537 : (65537 : Int32) = iI 65537 := iI_lit 65537
theorem z1000000 : (1000000 : Int32) = iI 1000000 := iI_lit 1000000
theorem zm1 : (-1 : Int32) = iI (-1) := by decide
theorem zm2 : (-2 : Int32) = iI (-2) := by decide
theorem zm3 : (-3 : Int32) = iI (-3) := by decide
theorem zm4 : (-4 : Int32) = iI (-4) := by decide
theorem zm5 : (-5 : Int32) = iI (-5) := by decide
theorem zm6 : (-6 : Int32) = iI (-6) := by decide
theorem ck_I {α : Type} {z : Int} {n : Nat} {k : Option α} (h0 : 0 ≤ z) (h : z < n) (hn : n ≤ 2147483647) : ck (iI z) n k = k := ck_i (iI_in h0 h hn)
/-! static methods over numbers -/
def b01 (p : Prop) [Decidable p] : Int32 := if p then 1 else 0
theorem b01_0 {p : Prop} [Decidable p] : b01 p = 0 ↔ ¬ p := by
  unfold b01
  by_cases h : p
  · rw [if_pos h]; exact ⟨fun q => absurd q (by decide), fun q => absurd h q⟩
  · rw [if_neg h]; exact ⟨fun _ => h, fun _ => rfl⟩
theorem p_isMan {z : Int} (h : Rg z) : f_X3_isMan (iI z) = some (b01 (0 ≤ z ∧ z < 6)) := by
  unfold f_X3_isMan b01
  rw [z0, z6]
  simp (disch := omega) only [iI_lt, iI_le]
  repeat' split
  all_goals first | rfl | (exfalso; omega)
theorem p_isWithin {z a b : Int} (h : Rg z) (ha : Rg a) (hb : Rg b) : f_X3_isWithin (iI z) (iI a) (iI b) = some (b01 (a ≤ z ∧ z ≤ b)) := by
  unfold f_X3_isWithin b01
  simp (disch := omega) only [iI_lt, iI_le]
  repeat' split
  all_goals first | rfl | (exfalso; omega)
theorem p_in {z a b : Int} (h : Rg z) (ha : Rg a) (hb : Rg b) : f_X4_in (iI z) (iI a) (iI b) = some (b01 (a ≤ z ∧ z ≤ b)) := p_isWithin h ha hb
theorem p_grown {a b : Int} (h : Rg (a + b)) : f_X3_grown (iI a) (iI b) = some (iI (if 9999 < a + b then 9999 else a + b)) := by
  unfold f_X3_grown nm
  rw [iI_add, z9999]
  simp (disch := omega) only [iI_lt]
  split <;> simp_all
theorem bz_b {α : Type} {p : Prop} [Decidable p] {k : Option α} : bz (b01 p) k = k := by
  unfold bz b01
  by_cases h : p
  · rw [if_pos h]; rfl
  · rw [if_neg h]; rfl
theorem p_mMan {z : Int} (h : Rg z) : f_X4_isMan (iI z) = some (b01 (0 ≤ z ∧ z < 6)) := by
  unfold f_X4_isMan
  rw [z0, z5, bn_i (p_in h (by omega) (by omega)), bz_b]
  unfold b01
  repeat' split
  all_goals first | rfl | (exfalso; omega)
theorem p_at {a b : Int} : f_X4_at (iI a) (iI b) = some (iI (15 * a + 3 * b)) := by
  unfold f_X4_at
  rw [z15, z3, iI_mul, iI_mul, iI_add]
