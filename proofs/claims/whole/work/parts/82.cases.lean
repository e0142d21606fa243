/-! THE LAW'S CASES: told, owes -/
theorem b01_iff {p q : Prop} [Decidable p] [Decidable q] (h : p ↔ q) : b01 p = b01 q := by
  by_cases c : p
  · rw [b01_t c, b01_t (h.mp c)]
  · rw [b01_f c, b01_f (fun x => c (h.mpr x))]
theorem told_man {x c : Int} (hx : Rg x) (hc : 0 ≤ c ∧ c ≤ 100) : f_X3_isMan (iI x - iI c) = some (b01 (c ≤ x ∧ x ≤ c + 5)) := by
  obtain ⟨w, hw, e⟩ := iI_ex (iI x - iI c)
  have e2 : iI x = iI (w + c) := by
    rw [← iI_add, ← e, iI_sub, iI_add]
    congr 1
    omega
  rw [e, p_isMan hw]
  refine congrArg some (b01_iff ?_)
  constructor
  · intro q
    have := (iI_eq hx ⟨by omega, by omega⟩).mp e2
    omega
  · intro q
    rw [iI_sub] at e
    have := (iI_eq ⟨by omega, by omega⟩ hw).mp e
    omega
theorem case25 {N : Nat} {st : LSt} (h : Rel N st) (a1 : Int32) : ∃ st', ls_25 st a1 = some st' ∧ Rel (N + 1) st' := by
  obtain ⟨F, hv, hu, hG, ⟨n, s, hn, hd, hun, hs⟩, hk⟩ := id h
  obtain ⟨x, hx, rfl⟩ := iI_ex a1
  unfold ls_25 f_X3_told f_X4_told
  rw [z10, z20, z15, z25, bn_i (told_man hx (by omega)), bn_i (told_man hx (by omega)), bn_i (p_in hx (by omega) (by omega)), bn_i (p_in hx (by omega) (by omega))]
  by_cases c1 : 10 ≤ x ∧ x ≤ 15
  · obtain ⟨m, hm⟩ := Int.eq_ofNat_of_zero_le (show 0 ≤ x - 10 by omega)
    have hm6 : m < 6 := by omega
    rw [b01_t (show (10 : Int) ≤ x ∧ x ≤ 10 + 5 by omega), b01_t c1, if_neg n10, if_neg n10, iI_sub, hm, bn_i (p_purseOf hv.1 hm6), ck_N hm6 (by omega), cl_N (by omega), bn_i rfl, bn_i rfl, if_pos (hu.1 m hm6).1.symm]
    exact ⟨_, rfl, Rel_up h⟩
  · rw [b01_f (show ¬ ((10 : Int) ≤ x ∧ x ≤ 10 + 5) by omega), b01_f c1, if_pos rfl, if_pos rfl]
    by_cases c2 : 20 ≤ x ∧ x ≤ 25
    · obtain ⟨m, hm⟩ := Int.eq_ofNat_of_zero_le (show 0 ≤ x - 20 by omega)
      have hm6 : m < 6 := by omega
      rw [b01_t (show (20 : Int) ≤ x ∧ x ≤ 20 + 5 by omega), b01_t c2, if_neg n10, if_neg n10, iI_sub, hm, bn_i (p_debtsOf hv.1 hm6), ck_N hm6 (by omega), cl_N (by omega), bn_i rfl, bn_i rfl, if_pos (hu.1 m hm6).2.1.symm]
      exact ⟨_, rfl, Rel_up h⟩
    · rw [b01_f (show ¬ ((20 : Int) ≤ x ∧ x ≤ 20 + 5) by omega), b01_f c2, if_pos rfl, if_pos rfl, hd, hun, hv.2.2.2.2.1, hu.2.2.2.2.1, hv.2.1, hv.2.2.1, hv.2.2.2.1, hu.2.1, hu.2.2.1, hu.2.2.2.1]
      have fin : ∀ r : Int32, ∃ st', bn (some r) (fun r1 => bn (some r) (fun r2 => if r1 = r2 then some st else none)) = some st' ∧ Rel (N + 1) st' := fun r => ⟨st, by rw [bn_i rfl, bn_i rfl, if_pos rfl], Rel_up h⟩
      by_cases d0 : iI x = 0
      · simp only [d0, ↓reduceIte]; exact fin _
      by_cases d1 : iI x = 1
      · simp only [d0, d1, n10, ↓reduceIte]; exact fin _
      by_cases d2 : iI x = 2
      · simp only [d0, d1, d2, ↓reduceIte]; exact fin _
      by_cases d3 : iI x = 3
      · simp only [d0, d1, d2, d3, ↓reduceIte]; exact fin _
      by_cases d4 : iI x = 4
      · simp only [d0, d1, d2, d3, d4, ↓reduceIte]; exact fin _
      · simp only [d0, d1, d2, d3, d4, ↓reduceIte]; exact fin _
/-- pence that a man owes another among his first n debts -/
def owS (S : SV) (m : Nat) (o : Int) : Nat → Int
  | 0 => 0
  | n + 1 => owS S m o n + (if ln S m n = o then pe S m n else 0)
theorem owS_rng {B : Int} {S : SV} (hg_ : gd B S) {m : Nat} (hm : m < 6) (o : Int) : ∀ n, n ≤ hg S m → 0 ≤ owS S m o n ∧ owS S m o n ≤ 9999 * n
  | 0, _ => by unfold owS; omega
  | n + 1, h => by
    have ih := owS_rng hg_ hm o n (by omega)
    have := (hg_.1 m hm).2.2 n (by omega)
    unfold owS
    split <;> omega
theorem p_owedTo {v : VS} {S : SV} {B : Int} (hr : rV v S) (hg_ : gd B S) {m : Nat} (hm : m < 6) {o : Int} (ho : Rg o) : f_X2_owedTo v (iI m) (iI o) = some (iI (owS S m o (hg S m))) := by
  have h5 := (hg_.1 m hm).2.1
  have loop : ∀ (n k : Nat), k + n = hg S m → lpx (st_X2_owedTo v (iI m) (iI o)) (iI (owS S m o k), iI k) = some (iI (owS S m o (hg S m))) := by
    intro n
    induction n with
    | zero =>
      intro k hk
      have : k = hg S m := by omega
      subst this
      refine lpx_r ?_
      show f_X2_owedTo_5 v (iI m) (iI o) _ _ = _
      unfold f_X2_owedTo_5
      rw [bn_i (p_debtsOf hr hm), if_pos ((iI_le ⟨by omega, by omega⟩ ⟨by omega, by omega⟩).mpr (by omega))]
    | succ n ih =>
      intro k hk
      have hb := (hg_.1 m hm).2.2 k (by omega)
      refine (lpx_l ?_).trans (ih (k + 1) (by omega))
      show f_X2_owedTo_5 v (iI m) (iI o) _ _ = _
      unfold f_X2_owedTo_5 nm
      dsimp only
      rw [bn_i (p_debtsOf hr hm), if_neg (fun q => by have := (iI_le ⟨by omega, by omega⟩ ⟨by omega, by omega⟩).mp q; omega), bn_i (p_lenderOf hr hg_ hm (by omega)), bn_i (p_penceOf hr hg_ hm (by omega)), iI_s, iI_add, z0, iI_add]
      simp (disch := omega) only [iI_eq]
      show _ = some (Sum.inl (iI (owS S m o k + (if ln S m k = o then pe S m k else 0)), _))
      split <;> rfl
  exact loop (hg S m) 0 (by omega)
theorem p_mowes {u : MS} {S : SV} {B : Int} (hr : rB u S) (hg_ : gd B S) {m o : Nat} (hm : m < 6) (ho : o < 6) : f_X4_owes u (iI m) (iI o) = some (iI (owS S m o (hg S m))) := by
  have h5 := (hg_.1 m hm).2.1
  have loop : ∀ (n k : Nat), k + n = hg S m → lpx (st_X4_owes u (iI m) (iI o)) (iI (owS S m o k), iI k) = some (iI (owS S m o (hg S m))) := by
    intro n
    induction n with
    | zero =>
      intro k hk
      have : k = hg S m := by omega
      subst this
      refine lpx_r ?_
      show f_X4_owes_21 u (iI m) (iI o) _ _ = _
      unfold f_X4_owes_21
      rw [ck_N hm (by omega), cl_N (by omega), (hr m hm).2.1, if_pos ((iI_le ⟨by omega, by omega⟩ ⟨by omega, by omega⟩).mpr (by omega))]
    | succ n ih =>
      intro k hk
      have hb := (hg_.1 m hm).2.2 k (by omega)
      have hrow := (hr m hm).2.2 k (by omega)
      refine (lpx_l ?_).trans (ih (k + 1) (by omega))
      show f_X4_owes_21 u (iI m) (iI o) _ _ = _
      unfold f_X4_owes_21 nm
      dsimp only
      rw [ck_N hm (by omega), cl_N (n := m) (by omega), (hr m hm).2.1, if_neg (fun q => by have := (iI_le ⟨by omega, by omega⟩ ⟨by omega, by omega⟩).mp q; omega), bn_i p_at, bn_i p_at, ixM, ixA, ck_N (n := 15 * m + 3 * k) (by omega) (by omega), ck_N (n := 15 * m + 3 * k + 1) (by omega) (by omega), cl_N (n := 15 * m + 3 * k) (by omega), cl_N (n := 15 * m + 3 * k + 1) (by omega), hrow.1, hrow.2.1, iI_s, iI_add, z0, iI_add]
      simp (disch := omega) only [iI_eq]
      show _ = some (Sum.inl (iI (owS S m o k + (if ln S m k = o then pe S m k else 0)), _))
      split <;> rfl
  unfold f_X4_owes f_X4_owes_0
  rw [bn_i (p_mMan ⟨by omega, by omega⟩), bn_i (p_mMan ⟨by omega, by omega⟩), b01_t (by omega), b01_t (by omega), if_neg n10, if_neg n10]
  exact loop (hg S m) 0 (by omega)
theorem case9 {N : Nat} {st : LSt} (h : Rel N st) (a1 a2 : Int32) : ∃ st', ls_9 st a1 a2 = some st' ∧ Rel (N + 1) st' := by
  obtain ⟨F, hv, hu, hG, hp, hk⟩ := id h
  obtain ⟨x, hx, rfl⟩ := iI_ex a1
  obtain ⟨y, hy, rfl⟩ := iI_ex a2
  have fin : ∀ r : Int32, ∃ st', bn (some r) (fun r1 => bn (some r) (fun r2 => if r1 = r2 then some st else none)) = some st' ∧ Rel (N + 1) st' := fun r => ⟨st, by rw [bn_i rfl, bn_i rfl, if_pos rfl], Rel_up h⟩
  by_cases c1 : 0 ≤ x ∧ x < 6
  · by_cases c2 : 0 ≤ y ∧ y < 6
    · obtain ⟨m, rfl⟩ := Int.eq_ofNat_of_zero_le c1.1
      obtain ⟨o, rfl⟩ := Int.eq_ofNat_of_zero_le c2.1
      unfold ls_9 f_X3_owes
      rw [bn_i (p_isMan hx), bn_i (p_isMan hy), b01_t c1, b01_t c2, if_neg n10, if_neg n10, bn_i (p_owedTo hv.1 hG.1 (by omega) hy), p_mowes hu.1 hG.1 (by omega) (by omega)]
      exact fin _
    · unfold ls_9 f_X3_owes f_X4_owes f_X4_owes_0
      rw [bn_i (p_isMan hx), bn_i (p_isMan hy), bn_i (p_mMan hx), bn_i (p_mMan hy), b01_t c1, b01_f c2, if_neg n10, if_neg n10, if_pos rfl, if_pos rfl]
      exact fin _
  · unfold ls_9 f_X3_owes f_X4_owes f_X4_owes_0
    rw [bn_i (p_isMan hx), bn_i (p_mMan hx), b01_f c1, if_pos rfl, if_pos rfl]
    exact fin _
