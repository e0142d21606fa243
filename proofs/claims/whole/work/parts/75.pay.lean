/-! PAYING, on both sides -/
abbrev setN (u : MS) (a b c : AI) : MS := (u.1, u.2.1, u.2.2.1, u.2.2.2.1, u.2.2.2.2.1, u.2.2.2.2.2.1, u.2.2.2.2.2.2.1, u.2.2.2.2.2.2.2.1, u.2.2.2.2.2.2.2.2.1, u.2.2.2.2.2.2.2.2.2.1, u.2.2.2.2.2.2.2.2.2.2.1, a, b, c, u.2.2.2.2.2.2.2.2.2.2.2.2.2.2)
theorem ixA (m k : Nat) : iI (15 * (m : Int) + 3 * (k : Int)) = iI ((15 * m + 3 * k : Nat) : Int) := by
  congr 1
theorem p_takeOut {u : MS} {a b c : AI} {S : SV} {B : Int} (hr : rM a b c S) (hg_ : gd B S) {m i : Nat} (hm : m < 6) (hi : i < hg S m) : f_X4_takeOut (setN u a b c) (iI m) (iI i) = some (setN u a (upd b m (iI ((hg S m - 1 : Nat) : Int))) (shd 3 c (15 * m + 3 * i) (15 * m + 3 * (hg S m - 1)))) := by
  have h5 := (hg_.1 m hm).2.1
  obtain ⟨e1, e2, e3⟩ := hr m hm
  have hsz : ((hg S m : Int) - 1) = ((hg S m - 1 : Nat) : Int) := by omega
  have loop : ∀ (n x : Nat), x + n = 15 * m + 3 * (hg S m - 1) → 15 * m + 3 * i ≤ x → lpx (st_X4_takeOut (iI m) (iI i)) (setN u a b (shd 3 c (15 * m + 3 * i) x), iI x) = some (setN u a (upd b m (iI ((hg S m - 1 : Nat) : Int))) (shd 3 c (15 * m + 3 * i) (15 * m + 3 * (hg S m - 1)))) := by
    intro n
    induction n with
    | zero =>
      intro x hx h1
      have ex : x = 15 * m + 3 * (hg S m - 1) := by omega
      refine lpx_r ?_
      show f_X4_takeOut_6 (iI m) (iI i) _ _ = _
      unfold f_X4_takeOut_6 nm
      dsimp only
      rw [ck_N hm (by omega), cl_N (by omega), e2, z1, iI_sub, hsz, bn_i p_at, ixA, if_pos ((iI_le ⟨by omega, by omega⟩ ⟨by omega, by omega⟩).mpr (by omega)), ← ex]
    | succ n ih =>
      intro x hx h1
      have hst : st_X4_takeOut (iI m) (iI i) (setN u a b (shd 3 c (15 * m + 3 * i) x), iI x) = some (.inl (setN u a b (shd 3 c (15 * m + 3 * i) (x + 1)), iI ((x + 1 : Nat) : Int))) := by
        show f_X4_takeOut_6 (iI m) (iI i) _ _ = _
        unfold f_X4_takeOut_6 nm
        dsimp only
        rw [ck_N hm (by omega), cl_N (by omega), e2, z1, iI_sub, hsz, bn_i p_at, ixA, if_neg (fun q => by have := (iI_le ⟨by omega, by omega⟩ ⟨by omega, by omega⟩).mp q; omega), z3, iI_add, show ((x : Int) + 3) = ((x + 3 : Nat) : Int) by omega, ck_N (by omega) (by omega), ck_N (by omega) (by omega), cl_N (by omega), cl_N (by omega), shd_step h1, iI_add]
        rfl
      rw [lpx_l hst]
      exact ih (x + 1) (by omega) (by omega)
  have hq := loop (15 * m + 3 * (hg S m - 1) - (15 * m + 3 * i)) (15 * m + 3 * i) (by omega) (by omega)
  rw [shd_0] at hq
  unfold f_X4_takeOut f_X4_takeOut_0
  rw [bn_i p_at, ixA]
  exact hq
theorem rM_drop {a b c : AI} {S : SV} {B : Int} (hr : rM a b c S) (hg_ : gd B S) {m i : Nat} (hm : m < 6) (hi : i < hg S m) : rM a (upd b m (iI ((hg S m - 1 : Nat) : Int))) (shd 3 c (15 * m + 3 * i) (15 * m + 3 * (hg S m - 1))) (dropS S m i) := by
  intro x hx
  obtain ⟨q1, q2, q3⟩ := hr x hx
  have hx5 := (hg_.1 x hx).2.1
  by_cases cx : x = m
  · subst cx
    refine ⟨q1, ?_, fun k hk => ?_⟩
    · show upd b x _ x = iI ((if x = x then hg S x - 1 else hg S x : Nat) : Int)
      rw [upd_s, if_pos rfl]
    · have hk : k < hg S x - 1 := by
        have : hg (dropS S x i) x = hg S x - 1 := by show (if x = x then _ else _) = _; rw [if_pos rfl]
        rw [this] at hk; exact hk
      by_cases ck : i ≤ k
      · have e := q3 (k + 1) (by omega)
        refine ⟨?_, ?_, ?_⟩
        · show shd 3 c _ _ (15 * x + 3 * k) = iI (if x = x ∧ i ≤ k then ln S x (k + 1) else ln S x k)
          rw [shd_in (by omega) (by omega), if_pos ⟨rfl, ck⟩]; exact e.1
        · show shd 3 c _ _ (15 * x + 3 * k + 1) = iI (if x = x ∧ i ≤ k then pe S x (k + 1) else pe S x k)
          rw [shd_in (by omega) (by omega), if_pos ⟨rfl, ck⟩, show 15 * x + 3 * k + 1 + 3 = 15 * x + 3 * (k + 1) + 1 by omega]; exact e.2.1
        · show shd 3 c _ _ (15 * x + 3 * k + 2) = iI (if x = x ∧ i ≤ k then dy S x (k + 1) else dy S x k)
          rw [shd_in (by omega) (by omega), if_pos ⟨rfl, ck⟩, show 15 * x + 3 * k + 2 + 3 = 15 * x + 3 * (k + 1) + 2 by omega]; exact e.2.2
      · have e := q3 k (by omega)
        refine ⟨?_, ?_, ?_⟩
        · show shd 3 c _ _ (15 * x + 3 * k) = iI (if x = x ∧ i ≤ k then ln S x (k + 1) else ln S x k)
          rw [shd_out (by omega), if_neg (by omega)]; exact e.1
        · show shd 3 c _ _ (15 * x + 3 * k + 1) = iI (if x = x ∧ i ≤ k then pe S x (k + 1) else pe S x k)
          rw [shd_out (by omega), if_neg (by omega)]; exact e.2.1
        · show shd 3 c _ _ (15 * x + 3 * k + 2) = iI (if x = x ∧ i ≤ k then dy S x (k + 1) else dy S x k)
          rw [shd_out (by omega), if_neg (by omega)]; exact e.2.2
  · refine ⟨q1, ?_, fun k hk => ?_⟩
    · show upd b m _ x = iI ((if x = m then hg S m - 1 else hg S x : Nat) : Int)
      rw [upd_n cx, if_neg cx, q2]
    · have hk : k < hg S x := by
        have : hg (dropS S m i) x = hg S x := by show (if x = m then _ else _) = _; rw [if_neg cx]
        rw [this] at hk; exact hk
      have hm5 := (hg_.1 m hm).2.1
      have e := q3 k hk
      refine ⟨?_, ?_, ?_⟩
      · show shd 3 c _ _ (15 * x + 3 * k) = iI (if x = m ∧ i ≤ k then ln S x (k + 1) else ln S x k)
        rw [shd_out (by omega), if_neg (by omega)]; exact e.1
      · show shd 3 c _ _ (15 * x + 3 * k + 1) = iI (if x = m ∧ i ≤ k then pe S x (k + 1) else pe S x k)
        rw [shd_out (by omega), if_neg (by omega)]; exact e.2.1
      · show shd 3 c _ _ (15 * x + 3 * k + 2) = iI (if x = m ∧ i ≤ k then dy S x (k + 1) else dy S x k)
        rw [shd_out (by omega), if_neg (by omega)]; exact e.2.2
theorem rM_setMon {a b c : AI} {S : SV} (hr : rM a b c S) {m : Nat} (z : Int) : rM (upd a m (iI z)) b c (setMon S m z) := by
  intro x hx
  obtain ⟨h1, h2, h3⟩ := hr x hx
  refine ⟨?_, h2, h3⟩
  show upd a m (iI z) x = iI (if x = m then z else mon S x)
  by_cases cx : x = m
  · rw [if_pos cx, cx, upd_s]
  · rw [if_neg cx, upd_n cx, h1]
theorem sum6_set {S : SV} {m : Nat} (hm : m < 6) (z : Int) : sum6 (mon (setMon S m z)) = sum6 (mon S) - mon S m + z := by
  unfold sum6 setMon mon
  rcases (show m = 0 ∨ m = 1 ∨ m = 2 ∨ m = 3 ∨ m = 4 ∨ m = 5 by omega) with rfl | rfl | rfl | rfl | rfl | rfl <;> simp <;> omega
/-- pence go from one to another -/
def moveS (S : SV) (a b : Nat) (p : Int) : SV := setMon (setMon S a (mon S a - p)) b (mon (setMon S a (mon S a - p)) b + p)
theorem gd_move {B : Int} {S : SV} (h : gd B S) {a b : Nat} (ha : a < 6) (hb : b < 6) {p : Int} (hp : 0 ≤ p) (hpa : p ≤ mon S a) : gd B (moveS S a b p) := by
  refine ⟨fun m hm => ⟨?_, (h.1 m hm).2.1, (h.1 m hm).2.2⟩, ?_⟩
  · have h1 := (h.1 m hm).1
    have h2 := (h.1 a ha).1
    have h3 := (h.1 b hb).1
    show 0 ≤ (if m = b then (if b = a then mon S a - p else mon S b) + p else if m = a then mon S a - p else mon S m)
    repeat' split
    all_goals omega
  · unfold moveS
    rw [sum6_set hb, sum6_set ha]
    have := h.2
    omega
theorem gd_drop {B : Int} {S : SV} (h : gd B S) {m i : Nat} (hm : m < 6) (hi : i < hg S m) : gd B (dropS S m i) := by
  refine ⟨fun x hx => ⟨(h.1 x hx).1, ?_, fun k hk => ?_⟩, h.2⟩
  · have := (h.1 x hx).2.1
    show (if x = m then hg S m - 1 else hg S x) ≤ 5
    split
    · rename_i c; subst c; omega
    · omega
  · have hk : k < (if x = m then hg S m - 1 else hg S x) := hk
    show 0 ≤ (if x = m ∧ i ≤ k then ln S x (k + 1) else ln S x k) ∧ (if x = m ∧ i ≤ k then ln S x (k + 1) else ln S x k) < 6 ∧ 1 ≤ (if x = m ∧ i ≤ k then pe S x (k + 1) else pe S x k) ∧ (if x = m ∧ i ≤ k then pe S x (k + 1) else pe S x k) ≤ 9999
    by_cases c : x = m ∧ i ≤ k
    · rw [if_pos c, if_pos c]
      obtain ⟨rfl, -⟩ := c
      rw [if_pos rfl] at hk
      exact (h.1 x hx).2.2 (k + 1) (by omega)
    · rw [if_neg c, if_neg c]
      refine (h.1 x hx).2.2 k ?_
      by_cases cx : x = m
      · rw [if_pos cx] at hk; subst cx; omega
      · rw [if_neg cx] at hk; exact hk
/-- a paying of what is due -/
noncomputable def payS (L : Int) (S : SV) (m : Nat) : SV := dropS (moveS S m (ln S m (dueF L (pe S m) (hg S m))).toNat (pe S m (dueF L (pe S m) (hg S m)))) m (dueF L (pe S m) (hg S m))
theorem gd_pay {B L : Int} {S : SV} (h : gd B S) {m : Nat} (hm : m < 6) (h0 : 0 < hg S m) (hp : penD L S m ≤ mon S m) : gd B (payS L S m) := by
  have hd := (dueF_min L (pe S m) _ h0).1
  have hb := (h.1 m hm).2.2 _ hd
  unfold penD at hp
  rw [if_neg (by omega)] at hp
  exact gd_drop (gd_move h hm (by omega) (by omega) hp) hm hd
theorem p_mpay {u : MS} {a b c : AI} {S : SV} {B L : Int} (hr : rM a b c S) (hg_ : gd B S) (hB : B ≤ 2000000) (hL : u.1 = iI L) (hL2 : 0 ≤ L ∧ L ≤ 2) {m : Nat} (hm : m < 6) (h0 : 0 < hg S m) (hp : penD L S m ≤ mon S m) : ∃ a' b' c', f_X4_pay (setN u a b c) (iI m) = some (setN u a' b' c') ∧ rM a' b' c' (payS L S m) := by
  have h5 := (hg_.1 m hm).2.1
  obtain ⟨k, hk, hdk, hkd⟩ := dueI_lt (L := L) hg_ hm h0
  have hb := (hg_.1 m hm).2.2 k hk
  obtain ⟨e1, e2, e3⟩ := hr m hm
  obtain ⟨f1, f2, f3⟩ := e3 k hk
  have hto : (ln S m k).toNat < 6 := by omega
  have hlk : ln S m k = ((ln S m k).toNat : Int) := by omega
  have hpe : penD L S m = pe S m k := by unfold penD; rw [if_neg (by omega), ← hkd]
  have hr2 := rM_setMon hr (m := m) (mon S m - pe S m k)
  have g1 := (hr2 _ hto).1
  have hr3 := rM_setMon hr2 (m := (ln S m k).toNat) (mon (setMon S m (mon S m - pe S m k)) (ln S m k).toNat + pe S m k)
  have hgm : gd B (moveS S m (ln S m k).toNat (pe S m k)) := gd_move hg_ hm hto (by omega) (by omega)
  have ht := p_takeOut (u := u) hr3 hgm hm (i := k) hk
  refine ⟨_, _, _, ?_, rM_drop hr3 hgm hm (i := k) hk |> fun h => by unfold payS; rw [← hkd]; exact h⟩
  unfold f_X4_pay nm
  rw [bn_i (p_dueNow (u := setN u a b c) hr hg_ hL hL2 hm), hdk, bn_i p_at, ck_N hm (by omega), ixM, ck_N (by omega) (by omega)]
  dsimp only
  rw [ixA, ck_N (by omega) (by omega), cl_N (n := 15 * m + 3 * k) (by omega), f1, hlk, ck_N hto (by omega), cl_N (n := m) (by omega), cl_N (n := 15 * m + 3 * k + 1) (by omega), cl_N (n := (ln S m k).toNat) (by omega), f2, e1, iI_sub, g1, iI_add, ← hlk]
  rw [bn_i ht]
