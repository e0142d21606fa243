/-! RINGS -/
noncomputable def ringF (L : Int) (S : SV) (m0 : Nat) : Nat → Int32 → Nat → Int32
  | 0, _, _ => -6
  | n + 1, b, a => if hg S a = 0 then -6 else if (ln S a (dueF L (pe S a) (hg S a))).toNat = m0 then (b ||| ((1 : Int32) <<< (iI (a : Int) &&& 31))) else ringF L S m0 n (b ||| ((1 : Int32) <<< (iI (a : Int) &&& 31))) (ln S a (dueF L (pe S a) (hg S a))).toNat
theorem p_ringOf {v : VS} {S : SV} {B L : Int} (hr : rV v S) (hg_ : gd B S) (hL : v.2.2.2.2.2.2.2.2.2.1 = iI L) (hL2 : 0 ≤ L ∧ L ≤ 2) {m : Nat} (hm : m < 6) : f_X2_ringOf v (iI m) = some (ringF L S m 6 0 m) := by
  have loop : ∀ (n : Nat) (a : Nat) (b : Int32), n ≤ 6 → a < 6 → lpx (st_X2_ringOf v (iI m)) (b, iI a, iI (6 - (n : Int))) = some (ringF L S m n b a) := by
    intro n
    induction n with
    | zero =>
      intro a b hn ha
      refine lpx_r ?_
      show f_X2_ringOf_7 v (iI m) _ _ _ = _
      unfold f_X2_ringOf_7 ringF
      rw [z6, if_pos ((iI_le ⟨by omega, by omega⟩ ⟨by omega, by omega⟩).mpr (by omega))]
    | succ n ih =>
      intro a b hn ha
      have n6 : ¬ iI 6 ≤ iI (6 - ((n + 1 : Nat) : Int)) := fun q => by have := (iI_le ⟨by omega, by omega⟩ ⟨by omega, by omega⟩).mp q; omega
      have e6 : iI (6 - ((n + 1 : Nat) : Int)) + 1 = iI (6 - (n : Int)) := by
        rw [z1, iI_add]
        congr 1
        omega
      by_cases h0 : hg S a = 0
      · have hst : st_X2_ringOf v (iI m) (b, iI a, iI (6 - ((n + 1 : Nat) : Int))) = some (.inl (b ||| ((1 : Int32) <<< (iI (a : Int) &&& 31)), iI (-6), iI (6 - (n : Int)))) := by
          show f_X2_ringOf_7 v (iI m) _ _ _ = _
          unfold f_X2_ringOf_7 nm
          dsimp only
          rw [z6, if_neg n6, bn_i (p_isMan ⟨by omega, by omega⟩), b01_t (by omega), if_neg n10, bn_i (p_dueOf hr hg_ hL hL2 ha), dueI_0 h0, bn_i (p_lenderNo hr hg_ ha), if_neg (fun q => by have := (iI_eq ⟨by omega, by omega⟩ ⟨by omega, by omega⟩).mp q; omega), e6]
        rw [lpx_l hst]
        unfold ringF
        rw [if_pos h0]
        refine lpx_r ?_
        show f_X2_ringOf_7 v (iI m) _ _ _ = _
        unfold f_X2_ringOf_7
        rw [bn_i (p_isMan ⟨by omega, by omega⟩), b01_f (by omega), if_pos rfl]
        split <;> rfl
      · obtain ⟨k, hk, hdk, hkd⟩ := dueI_lt (L := L) hg_ ha (by omega)
        have hb := (hg_.1 a ha).2.2 k hk
        have hlk : ln S a k = ((ln S a k).toNat : Int) := by omega
        unfold ringF
        rw [if_neg h0, ← hkd]
        by_cases c : (ln S a k).toNat = m
        · rw [if_pos c]
          refine lpx_r ?_
          show f_X2_ringOf_7 v (iI m) _ _ _ = _
          unfold f_X2_ringOf_7 nm
          dsimp only
          rw [z6, if_neg n6, bn_i (p_isMan ⟨by omega, by omega⟩), b01_t (by omega), if_neg n10, bn_i (p_dueOf hr hg_ hL hL2 ha), hdk, bn_i (p_lenderOf hr hg_ ha hk), if_pos (by rw [hlk, c])]
        · rw [if_neg c]
          refine (lpx_l ?_).trans (ih _ _ (by omega) (by omega))
          show f_X2_ringOf_7 v (iI m) _ _ _ = _
          unfold f_X2_ringOf_7 nm
          dsimp only
          rw [z6, if_neg n6, bn_i (p_isMan ⟨by omega, by omega⟩), b01_t (by omega), if_neg n10, bn_i (p_dueOf hr hg_ hL hL2 ha), hdk, bn_i (p_lenderOf hr hg_ ha hk), if_neg (fun q => c (by have := (iI_eq ⟨by omega, by omega⟩ ⟨by omega, by omega⟩).mp q; omega)), e6, ← hlk]
  exact loop 6 m 0 (by omega) hm
theorem p_mringOf {u : MS} {S : SV} {B L : Int} (hr : rB u S) (hg_ : gd B S) (hL : u.1 = iI L) (hL2 : 0 ≤ L ∧ L ≤ 2) {m : Nat} (hm : m < 6) : ∃ a b c, f_X4_ringOf u (iI m) = some (ringF L S m 6 0 m, setND u u.2.2.1 a b c) ∧ rM a b c S := by
  obtain ⟨na, nb, nc, e, ha, hb, hc⟩ := p_asNow u
  have hn : rN (setND u u.2.2.1 na nb nc) S := rM_cong hr hg_ ha hb hc
  refine ⟨na, nb, nc, ?_, hn⟩
  have loop : ∀ (n : Nat) (a : Nat) (b : Int32), n ≤ 6 → a < 6 → lpx (st_X4_ringOf (iI m)) (setND u u.2.2.1 na nb nc, b, iI a, iI (6 - (n : Int))) = some (ringF L S m n b a, setND u u.2.2.1 na nb nc) := by
    intro n
    induction n with
    | zero =>
      intro a b hn2 ha2
      refine lpx_r ?_
      show f_X4_ringOf_11 (iI m) _ _ _ _ = _
      unfold f_X4_ringOf_11 ringF
      rw [z6, if_pos ((iI_le ⟨by omega, by omega⟩ ⟨by omega, by omega⟩).mpr (by omega))]
    | succ n ih =>
      intro a b hn2 ha2
      have n6 : ¬ iI 6 ≤ iI (6 - ((n + 1 : Nat) : Int)) := fun q => by have := (iI_le ⟨by omega, by omega⟩ ⟨by omega, by omega⟩).mp q; omega
      have e6 : iI (6 - ((n + 1 : Nat) : Int)) + 1 = iI (6 - (n : Int)) := by
        rw [z1, iI_add]
        congr 1
        omega
      have h5 := (hg_.1 a ha2).2.1
      by_cases h0 : hg S a = 0
      · unfold ringF
        rw [if_pos h0]
        refine lpx_r ?_
        show f_X4_ringOf_11 (iI m) _ _ _ _ = _
        unfold f_X4_ringOf_11
        rw [z6, if_neg n6, bn_i (p_dueNow hn hg_ hL hL2 ha2), dueI_0 h0, z0, if_neg (fun q => by have := (iI_le ⟨by omega, by omega⟩ ⟨by omega, by omega⟩).mp q; omega)]
      · obtain ⟨k, hk, hdk, hkd⟩ := dueI_lt (L := L) hg_ ha2 (by omega)
        have hb2 := (hg_.1 a ha2).2.2 k hk
        have hlk : ln S a k = ((ln S a k).toNat : Int) := by omega
        have hrow : nc (15 * a + 3 * k) = iI (ln S a k) := ((hn a ha2).2.2 k hk).1
        unfold ringF
        rw [if_neg h0, ← hkd]
        by_cases c : (ln S a k).toNat = m
        · rw [if_pos c]
          refine lpx_r ?_
          show f_X4_ringOf_11 (iI m) _ _ _ _ = _
          unfold f_X4_ringOf_11 nm
          rw [z6, if_neg n6, bn_i (p_dueNow hn hg_ hL hL2 ha2), hdk, z0, if_pos ((iI_le ⟨by omega, by omega⟩ ⟨by omega, by omega⟩).mpr (by omega))]
          dsimp only
          rw [bn_i p_at, ixA, ck_N (by omega) (by omega), cl_N (by omega), hrow, if_pos (by rw [hlk, c])]
        · rw [if_neg c]
          refine (lpx_l ?_).trans (ih _ _ (by omega) (by omega))
          show f_X4_ringOf_11 (iI m) _ _ _ _ = _
          unfold f_X4_ringOf_11 nm
          rw [z6, if_neg n6, bn_i (p_dueNow hn hg_ hL hL2 ha2), hdk, z0, if_pos ((iI_le ⟨by omega, by omega⟩ ⟨by omega, by omega⟩).mpr (by omega))]
          dsimp only
          rw [bn_i p_at, ixA, ck_N (by omega) (by omega), cl_N (by omega), hrow, if_neg (fun q => c (by have := (iI_eq ⟨by omega, by omega⟩ ⟨by omega, by omega⟩).mp q; omega)), e6, ← hlk]
  unfold f_X4_ringOf f_X4_ringOf_0
  rw [bn_i e]
  exact loop 6 m 0 (by omega) hm
theorem case17 {N : Nat} {st : LSt} (h : Rel N st) (a1 : Int32) : ∃ st', ls_17 st a1 = some st' ∧ Rel (N + 1) st' := by
  obtain ⟨F, hv, hu, hG, hp, hk⟩ := id h
  obtain ⟨x, hx, rfl⟩ := iI_ex a1
  unfold ls_17 f_X3_ring f_X4_ring
  rw [bn_i (p_isMan hx), bn_i (p_mMan hx)]
  by_cases c1 : 0 ≤ x ∧ x < 6
  · obtain ⟨m, rfl⟩ := Int.eq_ofNat_of_zero_le c1.1
    have hm : m < 6 := by omega
    obtain ⟨a, b, c, e, hn⟩ := p_mringOf hu.1 hG.1 hu.2.1 hG.2.1 hm
    rw [b01_t c1, if_neg n10, if_neg n10, bn_i (p_ringOf hv.1 hG.1 hv.2.1 hG.2.1 hm), bn_i e, bn_i rfl, bn_i rfl, if_pos rfl]
    exact ⟨_, rfl, F, hv, hu, gF_up hG, hp, rK_up hk⟩
  · rw [b01_f c1, if_pos rfl, if_pos rfl, bn_i rfl, bn_i rfl, if_pos rfl]
    exact ⟨_, rfl, Rel_up h⟩
