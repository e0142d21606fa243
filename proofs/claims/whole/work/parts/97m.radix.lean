/-! MIXED RADIX; bits of a long -/
theorem leastN {P : Nat → Prop} : ∀ n, P n → ∃ m, m ≤ n ∧ P m ∧ ∀ j, j < m → ¬ P j := by
  intro n
  induction n using Nat.strongRecOn with
  | ind n ih =>
    intro h
    by_cases c : ∃ j, j < n ∧ P j
    · obtain ⟨j, h1, h2⟩ := c
      obtain ⟨m, m1, m2, m3⟩ := ih j h1 h2
      exact ⟨m, by omega, m2, m3⟩
    · exact ⟨n, Nat.le_refl _, h, fun j hj hp => c ⟨j, hj, hp⟩⟩
def wt (b : Nat → Nat) : Nat → Nat
  | 0 => 1
  | m + 1 => wt b m * b m
def enc (b c : Nat → Nat) : Nat → Nat
  | 0 => 0
  | k + 1 => enc b c k + c k * wt b k
def dig (b : Nat → Nat) (x : Nat) : Nat → Nat := fun m => if m < 6 then x / wt b m % b m else 0
theorem wt_pos {b : Nat → Nat} (hb : ∀ m, 0 < b m) : ∀ k, 0 < wt b k
  | 0 => by show 0 < 1; omega
  | k + 1 => Nat.mul_pos (wt_pos hb k) (hb k)
theorem wt_dvd (b : Nat → Nat) (m : Nat) : ∀ k, ∃ q, wt b (m + k) = wt b m * q
  | 0 => ⟨1, (Nat.mul_one _).symm⟩
  | k + 1 => by
    obtain ⟨q, h⟩ := wt_dvd b m k
    refine ⟨q * b (m + k), ?_⟩
    show wt b (m + k) * b (m + k) = _
    rw [h, Nat.mul_assoc]
theorem enc_lt {b c : Nat → Nat} : ∀ k, (∀ m, m < k → c m < b m) → enc b c k < wt b k
  | 0, _ => by show 0 < 1; omega
  | k + 1, h => by
    have ih := enc_lt (b := b) (c := c) k (fun m hm => h m (by omega))
    have hk := h k (by omega)
    show enc b c k + c k * wt b k < wt b k * b k
    have h2 : (c k + 1) * wt b k ≤ b k * wt b k := Nat.mul_le_mul_right _ hk
    rw [Nat.succ_mul] at h2
    rw [Nat.mul_comm (wt b k)]
    omega
theorem dv_add {b : Nat → Nat} (hb : ∀ m, 0 < b m) {m k : Nat} (h : m < k) (x z : Nat) : (x + z * wt b k) / wt b m % b m = x / wt b m % b m := by
  obtain ⟨q, hq⟩ := wt_dvd b (m + 1) (k - (m + 1))
  rw [show m + 1 + (k - (m + 1)) = k by omega] at hq
  have e : z * wt b k = wt b m * (b m * (q * z)) := by
    rw [hq, show wt b (m + 1) = wt b m * b m from rfl, Nat.mul_comm z, Nat.mul_assoc, Nat.mul_assoc]
  rw [e, Nat.add_mul_div_left _ _ (wt_pos hb m), Nat.add_mul_mod_self_left]
theorem dig_enc {b c : Nat → Nat} (hb : ∀ m, 0 < b m) : ∀ k, (∀ m, m < k → c m < b m) → ∀ m, m < k → enc b c k / wt b m % b m = c m
  | 0, _, m, hm => absurd hm (by omega)
  | k + 1, h, m, hm => by
    show (enc b c k + c k * wt b k) / wt b m % b m = c m
    by_cases e : m = k
    · subst e
      rw [Nat.add_mul_div_right _ _ (wt_pos hb m), Nat.div_eq_of_lt (enc_lt m (fun i hi => h i (by omega))), Nat.zero_add, Nat.mod_eq_of_lt (h m hm)]
    · rw [dv_add hb (by omega)]
      exact dig_enc hb k (fun i hi => h i (by omega)) m (by omega)
theorem enc_cong {b c d : Nat → Nat} : ∀ k, (∀ m, m < k → c m = d m) → enc b c k = enc b d k
  | 0, _ => rfl
  | k + 1, h => by
    show enc b c k + c k * wt b k = enc b d k + d k * wt b k
    rw [enc_cong k (fun m hm => h m (by omega)), h k (by omega)]
theorem enc_dv {b : Nat → Nat} (hb : ∀ m, 0 < b m) : ∀ k x, x < wt b k → enc b (fun m => x / wt b m % b m) k = x
  | 0, x, h => by
    have h : x < 1 := h
    show 0 = x
    omega
  | k + 1, x, h => by
    have h : x < wt b k * b k := h
    have hw := wt_pos hb k
    have h1 : x / wt b k < b k := (Nat.div_lt_iff_lt_mul hw).mpr (by rw [Nat.mul_comm]; exact h)
    have h2 := Nat.mod_lt x hw
    have hx : x % wt b k + x / wt b k * wt b k = x := by
      have := Nat.div_add_mod x (wt b k)
      rw [Nat.mul_comm] at this
      omega
    show enc b (fun m => x / wt b m % b m) k + x / wt b k % b k * wt b k = x
    rw [Nat.mod_eq_of_lt h1]
    have ih := enc_dv hb k (x % wt b k) h2
    rw [enc_cong (d := fun m => x % wt b k / wt b m % b m) k (fun m hm => by
      have := dv_add hb hm (x % wt b k) (x / wt b k)
      rw [hx] at this
      exact this), ih]
    exact hx
theorem enc_dig {b : Nat → Nat} (hb : ∀ m, 0 < b m) {x : Nat} (h : x < wt b 6) : enc b (dig b x) 6 = x := by
  rw [enc_cong (d := fun m => x / wt b m % b m) 6 (fun m hm => by unfold dig; rw [if_pos hm])]
  exact enc_dv hb 6 x h
theorem dig_encF {b c : Nat → Nat} (hb : ∀ m, 0 < b m) (hc : ∀ m, m < 6 → c m < b m) (h0 : ∀ m, 6 ≤ m → c m = 0) : dig b (enc b c 6) = c := by
  funext m
  unfold dig
  by_cases h : m < 6
  · rw [if_pos h]; exact dig_enc hb 6 hc m h
  · rw [if_neg h, h0 m (by omega)]
theorem dig_lt {b : Nat → Nat} (hb : ∀ m, 0 < b m) (x : Nat) {m : Nat} : dig b x m < b m := by
  unfold dig
  split
  · exact Nat.mod_lt _ (hb m)
  · exact hb m
theorem enc_stp {b c : Nat → Nat} {m : Nat} : ∀ k, (m < k → enc b (stp c m) k = enc b c k + wt b m) ∧ (k ≤ m → enc b (stp c m) k = enc b c k)
  | 0 => ⟨fun h => absurd h (by omega), fun _ => rfl⟩
  | k + 1 => by
    obtain ⟨i1, i2⟩ := enc_stp (b := b) (c := c) (m := m) k
    refine ⟨fun h => ?_, fun h => ?_⟩
    · show enc b (stp c m) k + stp c m k * wt b k = enc b c k + c k * wt b k + wt b m
      by_cases e : k = m
      · subst e
        rw [i2 (Nat.le_refl _), stp_s, Nat.succ_mul]
        omega
      · rw [i1 (by omega), stp_n e]
        omega
    · show enc b (stp c m) k + stp c m k * wt b k = enc b c k + c k * wt b k
      rw [i2 (by omega), stp_n (by omega)]
theorem enc_0 (b : Nat → Nat) : ∀ k, enc b (fun _ => 0) k = 0
  | 0 => rfl
  | k + 1 => by
    show enc b (fun _ => 0) k + 0 * wt b k = 0
    rw [enc_0 b k, Nat.zero_mul]
theorem wt_le {b : Nat → Nat} (h : ∀ m, m < 6 → b m ≤ 6) : ∀ k, k ≤ 6 → wt b k ≤ 6 ^ k
  | 0, _ => Nat.le_refl _
  | k + 1, hk => by
    show wt b k * b k ≤ 6 ^ (k + 1)
    rw [Nat.pow_succ]
    exact Nat.mul_le_mul (wt_le h k (by omega)) (h k (by omega))
/-! bits -/
def lowb {w : Nat} (x : BitVec w) (t : Nat) : Prop := t < w ∧ x.getLsbD t = true ∧ ∀ j, j < t → x.getLsbD j = false
theorem lowb_ex {w : Nat} {x : BitVec w} (h : ¬ x = 0) : ∃ t, lowb x t := by
  by_cases c : ∃ j, x.getLsbD j = true
  · obtain ⟨j, hj⟩ := c
    obtain ⟨m, m1, m2, m3⟩ := leastN (P := fun i => x.getLsbD i = true) j hj
    refine ⟨m, BitVec.lt_of_getLsbD m2, m2, fun i hi => ?_⟩
    have := m3 i hi
    simpa using this
  · exfalso
    apply h
    apply BitVec.eq_of_getLsbD_eq
    intro i hi
    have : ¬ x.getLsbD i = true := fun q => c ⟨i, q⟩
    simpa using this
theorem lowb_nat {w : Nat} {x : BitVec w} {t : Nat} (h : lowb x t) : ∃ q, x.toNat = 2 ^ (t + 1) * q + 2 ^ t := by
  obtain ⟨h1, h2, h3⟩ := h
  have e0 : x.toNat % 2 ^ t = 0 := by
    apply Nat.eq_of_testBit_eq
    intro i
    rw [Nat.testBit_mod_two_pow, Nat.zero_testBit]
    by_cases c : i < t
    · have := h3 i c
      rw [BitVec.getLsbD] at this
      rw [this, Bool.and_false]
    · rw [decide_eq_false c, Bool.false_and]
  have e1 : x.toNat / 2 ^ t % 2 = 1 := by
    have := h2
    rw [BitVec.getLsbD, Nat.testBit_eq_decide_div_mod_eq] at this
    simpa using this
  refine ⟨x.toNat / 2 ^ t / 2, ?_⟩
  have a1 := Nat.div_add_mod x.toNat (2 ^ t)
  have a2 := Nat.div_add_mod (x.toNat / 2 ^ t) 2
  rw [e0, Nat.add_zero] at a1
  rw [e1] at a2
  rw [Nat.pow_succ, Nat.mul_assoc]
  calc x.toNat = 2 ^ t * (x.toNat / 2 ^ t) := a1.symm
    _ = 2 ^ t * (2 * (x.toNat / 2 ^ t / 2) + 1) := by rw [a2]
    _ = _ := by rw [Nat.mul_add, Nat.mul_one]
theorem sub1_bits {w : Nat} {x : BitVec w} {t : Nat} (h : lowb x t) {j : Nat} (hj : j < w) : (x - 1#w).getLsbD j = if j < t then true else if j = t then false else x.getLsbD j := by
  obtain ⟨q, hq⟩ := lowb_nat h
  have hp : 0 < 2 ^ t := Nat.two_pow_pos t
  have hw : 1 < 2 ^ w := Nat.one_lt_two_pow (by have := h.1; omega)
  have hxw := x.isLt
  have e1 : (x - 1#w).toNat = 2 ^ (t + 1) * q + (2 ^ t - 1) := by
    rw [BitVec.toNat_sub, BitVec.toNat_ofNat, Nat.mod_eq_of_lt hw, show 2 ^ w - 1 + x.toNat = (x.toNat - 1) + 2 ^ w by omega, Nat.add_mod_right, Nat.mod_eq_of_lt (by omega)]
    omega
  have hlt : 2 ^ t - 1 < 2 ^ (t + 1) := by rw [Nat.pow_succ]; omega
  have hlt2 : 2 ^ t < 2 ^ (t + 1) := by rw [Nat.pow_succ]; omega
  rw [BitVec.getLsbD, e1, BitVec.getLsbD, hq, Nat.testBit_two_pow_mul_add _ hlt, Nat.testBit_two_pow_mul_add _ hlt2, Nat.testBit_two_pow_sub_one]
  by_cases c1 : j < t
  · rw [if_pos c1, if_pos (by omega), decide_eq_true c1]
  · rw [if_neg c1]
    by_cases c2 : j = t
    · rw [if_pos c2, if_pos (by omega), decide_eq_false c1]
    · rw [if_neg c2, if_neg (by omega), if_neg (by omega)]
theorem and_sub1 {x : Int64} {t : Nat} (h : lowb x.toBitVec t) {j : Nat} (hj : j < 64) : (x &&& (x - 1)).toBitVec.getLsbD j = (x.toBitVec.getLsbD j && decide (j ≠ t)) := by
  rw [Int64.toBitVec_and, Int64.toBitVec_sub, BitVec.getLsbD_and, show (1 : Int64).toBitVec = 1#64 from rfl, sub1_bits h hj]
  by_cases c1 : j < t
  · rw [if_pos c1, h.2.2 j c1]
    rfl
  · rw [if_neg c1]
    by_cases c2 : j = t
    · rw [if_pos c2, decide_eq_false (by simpa using c2), Bool.and_false]
    · rw [if_neg c2, decide_eq_true c2, Bool.and_true, Bool.and_self]
theorem mask32 {y : Int32} {t : Nat} (h : lowb y.toBitVec t) : (y ^^^ (-1)) &&& (y - 1) = nI (2 ^ t - 1) := by
  apply Int32.toBitVec_inj.mp
  apply BitVec.eq_of_getLsbD_eq
  intro j hj
  have hp : 0 < 2 ^ t := Nat.two_pow_pos t
  have ht := h.1
  have hlt : 2 ^ t - 1 < 2 ^ 32 := by
    have : 2 ^ t < 2 ^ 32 := Nat.pow_lt_pow_right (by omega) ht
    omega
  have e2 : (nI (2 ^ t - 1)).toBitVec.getLsbD j = decide (j < t) := by
    show (BitVec.ofNat 32 (2 ^ t - 1)).getLsbD j = _
    rw [BitVec.getLsbD, BitVec.toNat_ofNat, Nat.mod_eq_of_lt hlt, Nat.testBit_two_pow_sub_one]
  rw [e2, Int32.toBitVec_and, Int32.toBitVec_sub, BitVec.getLsbD_and, show (1 : Int32).toBitVec = 1#32 from rfl, sub1_bits h hj, Int32.toBitVec_xor, BitVec.getLsbD_xor, show (-1 : Int32).toBitVec = BitVec.allOnes 32 from rfl, BitVec.getLsbD_allOnes, decide_eq_true hj]
  by_cases c1 : j < t
  · rw [if_pos c1, h.2.2 j c1, decide_eq_true c1]
    rfl
  · rw [if_neg c1, decide_eq_false c1]
    by_cases c2 : j = t
    · rw [if_pos c2, Bool.and_false]
    · rw [if_neg c2]
      cases y.toBitVec.getLsbD j <;> rfl
theorem p_ntz32 {y : Int32} {t : Nat} (h : lowb y.toBitVec t) : f_J6_numberOfTrailingZeros_0f7a4 y = some (iI t) := by
  have hm := mask32 h
  have ht := h.1
  unfold f_J6_numberOfTrailingZeros_0f7a4 nm
  rw [hm]
  clear hm h
  revert t
  decide +kernel
theorem p_ntz {x : Int64} {t : Nat} (h : lowb x.toBitVec t) : f_J13_numberOfTrailingZeros_95d88 x = some (iI t) := by
  obtain ⟨h1, h2, h3⟩ := id h
  have lo : ∀ j, j < 32 → x.toInt32.toBitVec.getLsbD j = x.toBitVec.getLsbD j := fun j hj => by
    rw [Int64.toBitVec_toInt32, BitVec.getLsbD_signExtend]
    simp only [hj, decide_true, Bool.true_and]
    rw [if_pos (by omega)]
  unfold f_J13_numberOfTrailingZeros_95d88 nm
  show (if x.toInt32 = 0 then _ else _) = _
  by_cases c : t < 32
  · have hl : lowb x.toInt32.toBitVec t := ⟨c, by rw [lo t c]; exact h2, fun j hj => by rw [lo j (by omega)]; exact h3 j hj⟩
    have hne : ¬ x.toInt32 = 0 := fun q => by
      have := hl.2.1
      rw [q] at this
      simp at this
    rw [if_neg hne, bn_i (p_ntz32 hl)]
  · have hz : x.toInt32 = 0 := by
      apply Int32.toBitVec_inj.mp
      apply BitVec.eq_of_getLsbD_eq
      intro j hj
      rw [lo j hj, h3 j (by omega)]
      simp
    have hi : ∀ j, j < 32 → ((x.toUInt64 >>> ((32 : Int32).toInt64.toUInt64 &&& Int64.toUInt64 63)).toInt64).toInt32.toBitVec.getLsbD j = x.toBitVec.getLsbD (j + 32) := fun j hj => by
      rw [Int64.toBitVec_toInt32, BitVec.getLsbD_signExtend]
      simp only [hj, decide_true, Bool.true_and]
      rw [if_pos (by omega)]
      show ((x.toUInt64 >>> (32 : UInt64)).toBitVec).getLsbD j = _
      rw [UInt64.toBitVec_shiftRight]
      show (x.toBitVec >>> (32#64)).getLsbD j = _
      rw [BitVec.ushiftRight_eq', BitVec.getLsbD_ushiftRight]
      rw [show (32#64).toNat + j = j + 32 by show 32 + j = j + 32; omega]
    have hl : lowb ((x.toUInt64 >>> ((32 : Int32).toInt64.toUInt64 &&& Int64.toUInt64 63)).toInt64).toInt32.toBitVec (t - 32) := ⟨by omega, by rw [hi _ (by omega), show t - 32 + 32 = t by omega]; exact h2, fun j hj => by rw [hi j (by omega)]; exact h3 _ (by omega)⟩
    rw [if_pos hz, bn_i (p_ntz32 hl), show (32 : Int32) = iI ((32 : Nat) : Int) from iI_lit 32, iI_aN, show 32 + (t - 32) = t by omega]
/-- a place's bit -/
def bit (f : AL) (p : Nat) : Prop := (f (p / 64)).toBitVec.getLsbD (p % 64) = true
theorem one_bits : ∀ i : Nat, i < 64 → ∀ j : Nat, j < 64 → ((1 : Int64) <<< ((iI (i : Int)).toInt64 &&& 63)).toBitVec.getLsbD j = decide (j = i) := by decide +kernel
theorem bit_mark {f : AL} {p q : Nat} : bit (vp_updL f (p / 64) (f (p / 64) ||| ((1 : Int64) <<< ((iI ((p % 64 : Nat) : Int)).toInt64 &&& 63)))) q ↔ (bit f q ∨ q = p) := by
  unfold bit
  by_cases c : q / 64 = p / 64
  · rw [c, pk_uLs, Int64.toBitVec_or, BitVec.getLsbD_or, one_bits _ (Nat.mod_lt _ (by omega)) _ (Nat.mod_lt _ (by omega)), Bool.or_eq_true, decide_eq_true_eq]
    constructor
    · rintro (h | h)
      · exact Or.inl h
      · right; omega
    · rintro (h | h)
      · exact Or.inl h
      · right; omega
  · rw [pk_uLn c]
    constructor
    · exact Or.inl
    · rintro (h | h)
      · exact h
      · omega
