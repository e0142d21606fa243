/-! A DAY GOES BY in the reference -/
def passP (r : Int) (S : SV) (m k : Nat) : SV := (mon S, hg S, ln S, fun x i => if x < m ∨ (x = m ∧ i < k) then (if 9999 < pe S x i + r then 9999 else pe S x i + r) else pe S x i, dy S)
theorem p_mpass {u : MS} {d : Int32} {a b c : AI} {S : SV} {B r : Int} (hr : rM a b c S) (hg_ : gd B S) (hrr : u.2.1 = iI r) (h0 : 0 ≤ r ∧ r ≤ 9) : ∃ c', f_X4_pass (setND u d a b c) = some (setND u (d + 1) a b c') ∧ rM a b c' (passS r S) := by
  have inner : ∀ (m : Nat), m < 6 → ∀ (n k : Nat) (c : AI), k + n = hg S m → rM a b c (passP r S m k) → ∃ c', lpx st_X4_pass (.inr (setND u (d + 1) a b c, iI m, iI k)) = lpx st_X4_pass (.inl (setND u (d + 1) a b c', iI ((m + 1 : Nat) : Int))) ∧ rM a b c' (passP r S (m + 1) 0) := by
    intro m hm n
    have h5 := (hg_.1 m hm).2.1
    induction n with
    | zero =>
      intro k c hk hc
      have ek : k = hg S m := by omega
      refine ⟨c, lpx_l ?_, fun x hx => ?_⟩
      · show f_X4_pass_20 _ _ _ = _
        unfold f_X4_pass_20 nm
        dsimp only
        have hbm : b m = iI (hg S m) := (hc m hm).2.1
        rw [ck_N hm (by omega), cl_N (by omega), if_pos (by rw [hbm]; exact (iI_le ⟨by omega, by omega⟩ ⟨by omega, by omega⟩).mpr (by omega)), iI_s]
      · obtain ⟨q1, q2, q3⟩ := hc x hx
        refine ⟨q1, q2, fun i hi => ?_⟩
        have hi : i < hg S x := hi
        obtain ⟨e1, e2, e3⟩ := q3 i hi
        refine ⟨e1, e2.trans ?_, e3⟩
        show iI (if x < m ∨ (x = m ∧ i < k) then _ else _) = iI (if x < m + 1 ∨ (x = m + 1 ∧ i < 0) then _ else _)
        by_cases cx : x < m + 1
        · have hor : x < m ∨ (x = m ∧ i < k) := by
            rcases Nat.lt_or_ge x m with q | q
            · exact Or.inl q
            · have exm : x = m := by omega
              subst exm
              exact Or.inr ⟨rfl, by omega⟩
          rw [if_pos hor, if_pos (Or.inl cx)]
        · rw [if_neg (by omega), if_neg (by omega)]
    | succ n ih =>
      intro k c hk hc
      have hb := (hg_.1 m hm).2.2 k (by omega)
      have hrow : c (15 * m + 3 * k + 1) = iI (pe S m k) := by
        have := ((hc m hm).2.2 k (by show k < hg S m; omega)).2.1
        rw [this]
        show iI (if m < m ∨ (m = m ∧ k < k) then _ else _) = _
        rw [if_neg (by omega)]
      obtain ⟨c', h1, h2⟩ := ih (k + 1) (upd c (15 * m + 3 * k + 1) (iI (if 9999 < pe S m k + r then 9999 else pe S m k + r))) (by omega) (fun x hx => by
        obtain ⟨q1, q2, q3⟩ := hc x hx
        have hx5 := (hg_.1 x hx).2.1
        refine ⟨q1, q2, fun i hi => ?_⟩
        have hi : i < hg S x := hi
        obtain ⟨e1, e2, e3⟩ := q3 i hi
        refine ⟨by rw [upd_n (by omega)]; exact e1, ?_, by rw [upd_n (by omega)]; exact e3⟩
        show _ = iI (if x < m ∨ (x = m ∧ i < k + 1) then (if 9999 < pe S x i + r then 9999 else pe S x i + r) else pe S x i)
        by_cases cx : x = m ∧ i = k
        · obtain ⟨rfl, rfl⟩ := cx
          rw [upd_s]
          exact congrArg iI (if_pos (Or.inr ⟨rfl, Nat.lt_succ_self _⟩)).symm
        · rw [upd_n (by omega), e2]
          show iI (if x < m ∨ (x = m ∧ i < k) then _ else _) = _
          by_cases cy : x < m ∨ (x = m ∧ i < k)
          · rw [if_pos cy, if_pos (show x < m ∨ (x = m ∧ i < k + 1) by omega)]
          · rw [if_neg cy, if_neg (show ¬ (x < m ∨ (x = m ∧ i < k + 1)) by omega)])
      refine ⟨c', (lpx_l ?_).trans h1, h2⟩
      show f_X4_pass_20 _ _ _ = _
      unfold f_X4_pass_20 nm
      dsimp only
      have hbm : b m = iI (hg S m) := (hc m hm).2.1
      rw [ck_N hm (by omega), cl_N (n := m) (by omega), if_neg (fun q => by rw [hbm] at q; have := (iI_le ⟨by omega, by omega⟩ ⟨by omega, by omega⟩).mp q; omega), bn_i p_at, ixM, ck_N (by omega) (by omega), cl_N (n := 15 * m + 3 * k + 1) (by omega)]
      have hsum : c (15 * m + 3 * k + 1) + u.2.1 = iI (pe S m k + r) := by rw [hrow, hrr, iI_add]
      by_cases cc : pe S m k + r ≤ 9999
      · rw [if_pos (by rw [hsum, z9999]; exact (iI_le ⟨by omega, by omega⟩ ⟨by omega, by omega⟩).mpr cc), if_neg (show ¬ 9999 < pe S m k + r by omega), hsum, iI_s]
      · rw [if_neg (fun q => by rw [hsum, z9999] at q; exact cc ((iI_le ⟨by omega, by omega⟩ ⟨by omega, by omega⟩).mp q)), if_pos (show 9999 < pe S m k + r by omega), z9999, iI_s]
  have outer : ∀ (n m : Nat) (c : AI), m + n = 6 → rM a b c (passP r S m 0) → ∃ c', lpx st_X4_pass (.inl (setND u (d + 1) a b c, iI m)) = some (setND u (d + 1) a b c') ∧ rM a b c' (passP r S 6 0) := by
    intro n
    induction n with
    | zero =>
      intro m c hm hc
      have : m = 6 := by omega
      subst this
      refine ⟨c, lpx_r ?_, hc⟩
      show f_X4_pass_12 _ _ = _
      unfold f_X4_pass_12
      rw [z6, if_pos ((iI_le ⟨by omega, by omega⟩ ⟨by omega, by omega⟩).mpr (by omega))]
    | succ n ih =>
      intro m c hm hc
      obtain ⟨c1, h1, i1⟩ := inner m (by omega) (hg S m) 0 c (by omega) hc
      obtain ⟨c2, h2, i2⟩ := ih (m + 1) c1 (by omega) i1
      refine ⟨c2, ((lpx_l ?_).trans h1).trans h2, i2⟩
      show f_X4_pass_12 _ _ = _
      unfold f_X4_pass_12
      rw [z6, if_neg (fun q => by have := (iI_le ⟨by omega, by omega⟩ ⟨by omega, by omega⟩).mp q; omega)]
      rfl
  obtain ⟨c', h1, h2⟩ := outer 6 0 c (by omega) (fun x hx => by
    obtain ⟨q1, q2, q3⟩ := hr x hx
    refine ⟨q1, q2, fun i hi => ?_⟩
    obtain ⟨e1, e2, e3⟩ := q3 i hi
    refine ⟨e1, e2.trans ?_, e3⟩
    show _ = iI (if x < 0 ∨ (x = 0 ∧ i < 0) then _ else _)
    rw [if_neg (by omega)])
  refine ⟨c', h1, fun x hx => ?_⟩
  obtain ⟨q1, q2, q3⟩ := h2 x hx
  refine ⟨q1, q2, fun i hi => ?_⟩
  obtain ⟨e1, e2, e3⟩ := q3 i hi
  refine ⟨e1, e2.trans ?_, e3⟩
  show iI (if x < 6 ∨ (x = 6 ∧ i < 0) then _ else _) = _
  rw [if_pos (Or.inl hx)]
  rfl
