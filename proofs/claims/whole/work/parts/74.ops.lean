/-! WHAT CHANGES A SNAPSHOT -/
def setMon (S : SV) (m : Nat) (z : Int) : SV := (fun i => if i = m then z else mon S i, S.2)
def dropS (S : SV) (m i : Nat) : SV := (mon S, fun a => if a = m then hg S m - 1 else hg S a, fun a k => if a = m ∧ i ≤ k then ln S a (k + 1) else ln S a k, fun a k => if a = m ∧ i ≤ k then pe S a (k + 1) else pe S a k, fun a k => if a = m ∧ i ≤ k then dy S a (k + 1) else dy S a k)
def shd (s : Nat) (f : AI) (a b : Nat) : AI := fun r => if a ≤ r ∧ r < b then f (r + s) else f r
theorem shd_0 {s : Nat} {f : AI} {a : Nat} : shd s f a a = f := by
  funext r
  unfold shd
  rw [if_neg (by omega)]
theorem shd_step {s : Nat} {f : AI} {a b : Nat} (h : a ≤ b) : upd (shd s f a b) b (shd s f a b (b + s)) = shd s f a (b + 1) := by
  funext r
  unfold shd upd
  by_cases h1 : r = b
  · rw [if_pos h1, h1, if_neg (by omega), if_pos (by omega)]
  · rw [if_neg h1]
    show (if a ≤ r ∧ r < b then f (r + s) else f r) = _
    by_cases h2 : a ≤ r ∧ r < b
    · rw [if_pos h2, if_pos (by omega)]
    · rw [if_neg h2, if_neg (by omega)]
theorem shd_in {s : Nat} {f : AI} {a b r : Nat} (h : a ≤ r) (h2 : r < b) : shd s f a b r = f (r + s) := by unfold shd; rw [if_pos ⟨h, h2⟩]
theorem shd_out {s : Nat} {f : AI} {a b r : Nat} (h : r < a ∨ b ≤ r) : shd s f a b r = f r := by unfold shd; rw [if_neg (by omega)]
theorem upd_s {f : AI} {k : Nat} {x : Int32} : upd f k x k = x := by unfold upd; rw [if_pos rfl]
theorem upd_n {f : AI} {k j : Nat} {x : Int32} (h : j ≠ k) : upd f k x j = f j := by unfold upd; rw [if_neg h]
theorem p_fillPurse {v : VS} {m : Nat} (hm : m < 6) (x : Int32) : f_X2_fillPurse v (iI m) x = some (upd v.1 m x, v.2) := by
  unfold f_X2_fillPurse nm
  rw [bn_i (p_isMan ⟨by omega, by omega⟩), b01_t (by omega), if_neg (by decide), ck_N hm (by omega), cl_N (by omega)]
theorem rV_setMon {v : VS} {S : SV} (hr : rV v S) {m : Nat} (z : Int) : rV (upd v.1 m (iI z), v.2) (setMon S m z) := by
  intro a ha
  obtain ⟨h1, h2, h3⟩ := hr a ha
  refine ⟨?_, h2, h3⟩
  show upd v.1 m (iI z) a = iI (if a = m then z else mon S a)
  by_cases c : a = m
  · rw [if_pos c, c, upd_s]
  · rw [if_neg c, upd_n c, h1]
theorem ixV1 (m j : Nat) : iI ((m * 5 : Nat) : Int) + iI (j : Int) = iI ((m * 5 + j : Nat) : Int) := by
  rw [iI_add]
  congr 1
theorem iI_s (n : Nat) : iI (n : Int) + 1 = iI ((n + 1 : Nat) : Int) := by
  rw [z1, iI_add]
  congr 1
theorem p_drop {v : VS} {S : SV} {B : Int} (hr : rV v S) (hg_ : gd B S) {m i : Nat} (hm : m < 6) (hi : i < hg S m) : ∃ h l p d, f_X2_drop v (iI m) (iI i) = some (v.1, h, l, p, d, v.2.2.2.2.2) ∧ rV (v.1, h, l, p, d, v.2.2.2.2.2) (dropS S m i) := by
  have h5 := (hg_.1 m hm).2.1
  obtain ⟨e1, e2, e3⟩ := hr m hm
  have loop : ∀ (n j : Nat), j + 1 + n = hg S m → i ≤ j → lpx (st_X2_drop (iI m) (iI i)) ((v.1, v.2.1, shd 1 v.2.2.1 (m * 5 + i) (m * 5 + j), shd 1 v.2.2.2.1 (m * 5 + i) (m * 5 + j), shd 1 v.2.2.2.2.1 (m * 5 + i) (m * 5 + j), v.2.2.2.2.2), iI ((m * 5 : Nat) : Int), iI j) = some (v.1, upd v.2.1 m (iI ((hg S m - 1 : Nat) : Int)), shd 1 v.2.2.1 (m * 5 + i) (m * 5 + (hg S m - 1)), shd 1 v.2.2.2.1 (m * 5 + i) (m * 5 + (hg S m - 1)), shd 1 v.2.2.2.2.1 (m * 5 + i) (m * 5 + (hg S m - 1)), v.2.2.2.2.2) := by
    intro n
    induction n with
    | zero =>
      intro j hj hij
      have ej : j = hg S m - 1 := by omega
      refine lpx_r ?_
      show f_X2_drop_17 (iI m) (iI i) _ _ _ = _
      unfold f_X2_drop_17 f_X2_drop_104 nm
      dsimp only
      rw [ck_N hm (by omega), cl_N (by omega), e2, iI_s, if_pos ((iI_le ⟨by omega, by omega⟩ ⟨by omega, by omega⟩).mpr (by omega)), ck_N hm (by omega), z1, iI_sub, ← ej, show ((hg S m : Int) - 1) = ((hg S m - 1 : Nat) : Int) by omega, ← ej]
    | succ n ih =>
      intro j hj hij
      have hst : st_X2_drop (iI m) (iI i) ((v.1, v.2.1, shd 1 v.2.2.1 (m * 5 + i) (m * 5 + j), shd 1 v.2.2.2.1 (m * 5 + i) (m * 5 + j), shd 1 v.2.2.2.2.1 (m * 5 + i) (m * 5 + j), v.2.2.2.2.2), iI ((m * 5 : Nat) : Int), iI j) = some (.inl ((v.1, v.2.1, shd 1 v.2.2.1 (m * 5 + i) (m * 5 + (j + 1)), shd 1 v.2.2.2.1 (m * 5 + i) (m * 5 + (j + 1)), shd 1 v.2.2.2.2.1 (m * 5 + i) (m * 5 + (j + 1)), v.2.2.2.2.2), iI ((m * 5 : Nat) : Int), iI ((j + 1 : Nat) : Int))) := by
        show f_X2_drop_17 (iI m) (iI i) _ _ _ = _
        unfold f_X2_drop_17 nm
        dsimp only
        rw [ck_N hm (by omega), cl_N (by omega), e2, iI_s, if_neg (fun q => by have := (iI_le ⟨by omega, by omega⟩ ⟨by omega, by omega⟩).mp q; omega), z5, if_neg (fun q => by have := (iI_le ⟨by omega, by omega⟩ ⟨by omega, by omega⟩).mp q; omega), ixV1, iI_s, ck_N (by omega) (by omega), ck_N (by omega) (by omega), cl_N (by omega), cl_N (by omega), shd_step (by omega), shd_step (by omega), shd_step (by omega)]
        rfl
      rw [lpx_l hst]
      exact ih (j + 1) (by omega) (by omega)
  have hq := loop (hg S m - 1 - i) i (by omega) (by omega)
  rw [shd_0, shd_0, shd_0] at hq
  refine ⟨upd v.2.1 m (iI ((hg S m - 1 : Nat) : Int)), shd 1 v.2.2.1 (m * 5 + i) (m * 5 + (hg S m - 1)), shd 1 v.2.2.2.1 (m * 5 + i) (m * 5 + (hg S m - 1)), shd 1 v.2.2.2.2.1 (m * 5 + i) (m * 5 + (hg S m - 1)), ?_, ?_⟩
  · unfold f_X2_drop f_X2_drop_0 nm
    rw [bn_i (p_hasN hr hg_ hm hi), if_neg (by decide), z5, iI_mul]
    exact hq
  · intro a ha
    obtain ⟨q1, q2, q3⟩ := hr a ha
    have ha5 := (hg_.1 a ha).2.1
    by_cases c : a = m
    · subst c
      refine ⟨q1, ?_, fun k hk => ?_⟩
      · show upd v.2.1 a _ a = iI ((if a = a then hg S a - 1 else hg S a : Nat) : Int)
        rw [upd_s, if_pos rfl]
      · have hk : k < hg S a - 1 := by
          have : hg (dropS S a i) a = hg S a - 1 := by show (if a = a then _ else _) = _; rw [if_pos rfl]
          rw [this] at hk; exact hk
        by_cases ck : i ≤ k
        · have e := q3 (k + 1) (by omega)
          refine ⟨?_, ?_, ?_⟩
          · show shd 1 v.2.2.1 _ _ (a * 5 + k) = iI (if a = a ∧ i ≤ k then ln S a (k + 1) else ln S a k)
            rw [shd_in (by omega) (by omega), if_pos ⟨rfl, ck⟩]; exact e.1
          · show shd 1 v.2.2.2.1 _ _ (a * 5 + k) = iI (if a = a ∧ i ≤ k then pe S a (k + 1) else pe S a k)
            rw [shd_in (by omega) (by omega), if_pos ⟨rfl, ck⟩]; exact e.2.1
          · show shd 1 v.2.2.2.2.1 _ _ (a * 5 + k) = iI (if a = a ∧ i ≤ k then dy S a (k + 1) else dy S a k)
            rw [shd_in (by omega) (by omega), if_pos ⟨rfl, ck⟩]; exact e.2.2
        · have e := q3 k (by omega)
          refine ⟨?_, ?_, ?_⟩
          · show shd 1 v.2.2.1 _ _ (a * 5 + k) = iI (if a = a ∧ i ≤ k then ln S a (k + 1) else ln S a k)
            rw [shd_out (by omega), if_neg (by omega)]; exact e.1
          · show shd 1 v.2.2.2.1 _ _ (a * 5 + k) = iI (if a = a ∧ i ≤ k then pe S a (k + 1) else pe S a k)
            rw [shd_out (by omega), if_neg (by omega)]; exact e.2.1
          · show shd 1 v.2.2.2.2.1 _ _ (a * 5 + k) = iI (if a = a ∧ i ≤ k then dy S a (k + 1) else dy S a k)
            rw [shd_out (by omega), if_neg (by omega)]; exact e.2.2
    · refine ⟨q1, ?_, fun k hk => ?_⟩
      · show upd v.2.1 m _ a = iI ((if a = m then hg S m - 1 else hg S a : Nat) : Int)
        rw [upd_n c, if_neg c, q2]
      · have hk : k < hg S a := by
          have : hg (dropS S m i) a = hg S a := by show (if a = m then _ else _) = _; rw [if_neg c]
          rw [this] at hk; exact hk
        have e := q3 k hk
        refine ⟨?_, ?_, ?_⟩
        · show shd 1 v.2.2.1 _ _ (a * 5 + k) = iI (if a = m ∧ i ≤ k then ln S a (k + 1) else ln S a k)
          rw [shd_out (by omega), if_neg (by omega)]; exact e.1
        · show shd 1 v.2.2.2.1 _ _ (a * 5 + k) = iI (if a = m ∧ i ≤ k then pe S a (k + 1) else pe S a k)
          rw [shd_out (by omega), if_neg (by omega)]; exact e.2.1
        · show shd 1 v.2.2.2.2.1 _ _ (a * 5 + k) = iI (if a = m ∧ i ≤ k then dy S a (k + 1) else dy S a k)
          rw [shd_out (by omega), if_neg (by omega)]; exact e.2.2
