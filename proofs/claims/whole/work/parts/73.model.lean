/-! THE REFERENCE: what its now holds -/
/-- the reference's now holds the snapshot -/
abbrev rN (u : MS) (S : SV) : Prop := rM u.2.2.2.2.2.2.2.2.2.2.2.1 u.2.2.2.2.2.2.2.2.2.2.2.2.1 u.2.2.2.2.2.2.2.2.2.2.2.2.2.1 S
/-- its base holds it -/
abbrev rB (u : MS) (S : SV) : Prop := rM u.2.2.2.1 u.2.2.2.2.1 u.2.2.2.2.2.1 S
theorem ixM (m k : Nat) : iI (15 * (m : Int) + 3 * (k : Int)) + 1 = iI ((15 * m + 3 * k + 1 : Nat) : Int) := by
  rw [z1, iI_add]
  congr 1
theorem p_dueNow {u : MS} {S : SV} {B L : Int} (hr : rN u S) (hg_ : gd B S) (hL : u.1 = iI L) (hL2 : 0 ≤ L ∧ L ≤ 2) {m : Nat} (hm : m < 6) : f_X4_dueNow u (iI m) = some (iI (dueI L S m)) := by
  have h5 := (hg_.1 m hm).2.1
  have hpe := fun k hk => (hg_.1 m hm).2.2 k hk
  have hrow := fun k hk => ((hr m hm).2.2 k hk).2.1
  have loop : ∀ (n best : Nat), n ≤ best → best < hg S m → L ≠ 1 → (∀ j, n ≤ j → j < hg S m → nl L (pe S m) best j) → lpx (st_X4_dueNow u (iI m)) (iI best, iI ((n : Int) - 1)) = some (iI (dueF L (pe S m) (hg S m))) := by
    intro n
    induction n with
    | zero =>
      intro best h1 h2 hL1 hmin
      rw [dueF_one h2 (fun j hj => hmin j (by omega) hj)]
      refine lpx_r ?_
      show f_X4_dueNow_39 u (iI m) _ _ = _
      unfold f_X4_dueNow_39
      rw [z0, if_pos ((iI_lt ⟨by omega, by omega⟩ ⟨by omega, by omega⟩).mpr (by omega))]
    | succ n ih =>
      intro best h1 h2 hL1 hmin
      by_cases c2 : L = 2
      · have hb := hpe best h2
        have hn := hpe n (by omega)
        have hst : st_X4_dueNow u (iI m) (iI best, iI (((n + 1 : Nat) : Int) - 1)) = some (.inl (iI ((if pe S m n ≤ pe S m best then best else n : Nat) : Int), iI ((n : Int) - 1))) := by
          show f_X4_dueNow_39 u (iI m) _ _ = _
          unfold f_X4_dueNow_39 nm
          rw [show ((n + 1 : Nat) : Int) - 1 = (n : Int) by omega, z0, if_neg (fun q => by have := (iI_lt ⟨by omega, by omega⟩ ⟨by omega, by omega⟩).mp q; omega), hL, c2, z2, if_pos rfl, bn_i p_at, ixM, ck_N (by omega) (by omega), bn_i p_at, ixM, ck_N (by omega) (by omega), cl_N (by omega), cl_N (by omega), hrow n (by omega), hrow best h2, zm1, iI_add]
          simp (disch := omega) only [iI_le]
          by_cases c : pe S m n ≤ pe S m best
          · rw [if_pos c, if_pos c]; rfl
          · rw [if_neg c, if_neg c]; rfl
        rw [lpx_l hst]
        have e : ∀ j k, nl L (pe S m) j k ↔ (pe S m k < pe S m j ∨ (pe S m j = pe S m k ∧ k ≤ j)) := fun j k => by unfold nl; rw [if_neg hL1, if_pos c2]
        by_cases c : pe S m n ≤ pe S m best
        · rw [if_pos c]
          refine ih best (by omega) h2 hL1 (fun j hj hj2 => ?_)
          rcases Nat.lt_or_ge n j with q | q
          · exact hmin j (by omega) hj2
          · have : j = n := by omega
            subst this
            exact (e _ _).mpr (by omega)
        · rw [if_neg c]
          refine ih n (by omega) (by omega) hL1 (fun j hj hj2 => ?_)
          rcases Nat.lt_or_ge n j with q | q
          · exact nl_trans ((e n best).mpr (by omega)) (hmin j (by omega) hj2)
          · have : j = n := by omega
            subst this
            exact nl_refl _ _ _
      · have hlast : ∀ j, j < hg S m → nl L (pe S m) best j → nl L (pe S m) best j := fun _ _ h => h
        have e : ∀ j k, nl L (pe S m) j k ↔ k ≤ j := fun j k => by unfold nl; rw [if_neg hL1, if_neg c2]
        have hbest : ∀ j, j < hg S m → nl L (pe S m) best j := fun j hj => by
          rcases Nat.lt_or_ge j (n + 1) with q | q
          · exact (e _ _).mpr (by omega)
          · exact hmin j q hj
        rw [dueF_one h2 hbest]
        refine lpx_r ?_
        show f_X4_dueNow_39 u (iI m) _ _ = _
        unfold f_X4_dueNow_39
        rw [z0, if_neg (fun q => by have := (iI_lt ⟨by omega, by omega⟩ ⟨by omega, by omega⟩).mp q; omega), hL, z2, if_neg (fun q => c2 ((iI_eq ⟨by omega, by omega⟩ ⟨by omega, by omega⟩).mp q))]
  unfold f_X4_dueNow f_X4_dueNow_0 nm dueI f_X4_dueNow_19
  dsimp only
  rw [ck_N hm (by omega), cl_N (by omega), (hr m hm).2.1, hL, z0, z1, z2]
  by_cases h0 : hg S m = 0
  · have h00 : iI ((0 : Nat) : Int) = iI 0 := rfl
    rw [h0, if_pos rfl, if_pos h00, if_pos h00, zm6]
    rfl
  · have hne : ¬ iI (hg S m : Int) = iI 0 := fun q => h0 (by have := (iI_eq ⟨by omega, by omega⟩ ⟨by omega, by omega⟩).mp q; omega)
    rw [if_neg h0, if_neg hne]
    by_cases c1 : L = 1
    · rw [if_pos (by rw [c1]), if_neg hne]
      have : dueF L (pe S m) (hg S m) = 0 := dueF_one (by omega) (fun j _ => by unfold nl; rw [if_pos c1]; omega)
      rw [this]
      rfl
    · rw [if_neg (fun q => c1 ((iI_eq ⟨by omega, by omega⟩ ⟨by omega, by omega⟩).mp q)), iI_sub, iI_sub]
      have hq := loop (hg S m - 1) (hg S m - 1) (by omega) (by omega) c1 (fun j h1 h2 => by
        have : j = hg S m - 1 := by omega
        subst this
        exact nl_refl _ _ _)
      rw [show ((hg S m - 1 : Nat) : Int) - 1 = (hg S m : Int) - 2 by omega, show ((hg S m - 1 : Nat) : Int) = (hg S m : Int) - 1 by omega] at hq
      exact hq
theorem dueI_lt {L B : Int} {S : SV} (hg_ : gd B S) {m : Nat} (hm : m < 6) (h : 0 < hg S m) : ∃ k : Nat, k < hg S m ∧ dueI L S m = k ∧ k = dueF L (pe S m) (hg S m) := by
  refine ⟨dueF L (pe S m) (hg S m), (dueF_min L (pe S m) _ h).1, ?_, rfl⟩
  unfold dueI
  rw [if_neg (by omega)]
theorem dueI_0 {L : Int} {S : SV} {m : Nat} (h : hg S m = 0) : dueI L S m = -6 := by
  unfold dueI
  rw [if_pos h]
/-- pence that are due of a man, or NONE -/
noncomputable def penD (L : Int) (S : SV) (m : Nat) : Int := if hg S m = 0 then -6 else pe S m (dueF L (pe S m) (hg S m))
theorem p_penceDue {u : MS} {S : SV} {B L : Int} (hr : rN u S) (hg_ : gd B S) (hL : u.1 = iI L) (hL2 : 0 ≤ L ∧ L ≤ 2) {m : Nat} (hm : m < 6) : f_X4_penceDue u (iI m) = some (iI (penD L S m)) := by
  have h5 := (hg_.1 m hm).2.1
  unfold f_X4_penceDue penD
  rw [bn_i (p_dueNow hr hg_ hL hL2 hm)]
  by_cases h0 : hg S m = 0
  · rw [dueI_0 h0, z0, if_neg (fun q => by have := (iI_le ⟨by omega, by omega⟩ ⟨by omega, by omega⟩).mp q; omega), if_pos h0, zm6]
  · obtain ⟨k, h1, h2, h3⟩ := dueI_lt (L := L) hg_ hm (by omega)
    rw [h2, z0, if_pos ((iI_le ⟨by omega, by omega⟩ ⟨by omega, by omega⟩).mpr (by omega)), bn_i p_at, ixM, ck_N (by omega) (by omega), cl_N (by omega), ((hr m hm).2.2 k h1).2.1, if_neg h0, ← h3]
theorem p_canPay {u : MS} {S : SV} {B L : Int} (hr : rN u S) (hg_ : gd B S) (hB : B ≤ 2000000) (hL : u.1 = iI L) (hL2 : 0 ≤ L ∧ L ≤ 2) {m : Nat} (hm : m < 6) : f_X4_canPay u (iI m) = some (b01 (0 < hg S m ∧ penD L S m ≤ mon S m)) := by
  have h5 := (hg_.1 m hm).2.1
  have hmo := (hg_.1 m hm).1
  have hle := hg_.le hm
  unfold f_X4_canPay
  rw [bn_i (p_penceDue hr hg_ hL hL2 hm)]
  by_cases h0 : hg S m = 0
  · rw [b01_f (by omega)]
    have : penD L S m = -6 := by unfold penD; rw [if_pos h0]
    rw [this, if_pos ((show (0 : Int32) = iI 0 from z0) ▸ (iI_lt (a := -6) (b := 0) ⟨by omega, by omega⟩ ⟨by omega, by omega⟩).mpr (by omega))]
  · have hp : 1 ≤ penD L S m ∧ penD L S m ≤ 9999 := by
      unfold penD
      rw [if_neg h0]
      have := (hg_.1 m hm).2.2 _ (dueF_min L (pe S m) _ (by omega)).1
      omega
    rw [ck_N hm (by omega), cl_N (by omega), (hr m hm).1, z0]
    simp (disch := omega) only [iI_lt]
    rw [if_neg (by omega), ← z0]
    unfold b01
    repeat' split
    all_goals first | rfl | (exfalso; omega)
