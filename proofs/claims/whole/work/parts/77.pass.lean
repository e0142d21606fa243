/-! DAYS THAT GO BY; copies -/
def gI (y r : Int32) : Int32 := if (9999 : Int32) < (y + r) then (9999 : Int32) else (y + r)
theorem gI_I {y r : Int} (hy : 1 ≤ y ∧ y ≤ 9999) (hr : 0 ≤ r ∧ r ≤ 200) : gI (iI y) (iI r) = iI (if 9999 < y + r then 9999 else y + r) := by
  unfold gI
  rw [iI_add, z9999]
  simp (disch := omega) only [iI_lt]
  split <;> rfl
def passS (r : Int) (S : SV) : SV := (mon S, hg S, ln S, fun a k => if 9999 < pe S a k + r then 9999 else pe S a k + r, dy S)
theorem gd_pass {B r : Int} {S : SV} (h : gd B S) (hr : 0 ≤ r) : gd B (passS r S) := by
  refine ⟨fun x hx => ⟨(h.1 x hx).1, (h.1 x hx).2.1, fun k hk => ?_⟩, h.2⟩
  have q := (h.1 x hx).2.2 k hk
  refine ⟨q.1, q.2.1, ?_, ?_⟩
  · show 1 ≤ (if 9999 < pe S x k + r then 9999 else pe S x k + r)
    split <;> omega
  · show (if 9999 < pe S x k + r then 9999 else pe S x k + r) ≤ 9999
    split <;> omega
def pdP (f hh : AI) (r : Int32) (i : Nat) : AI := fun x => if x < i ∧ iI ((x % 5 : Nat) : Int) < hh (x / 5) then gI (f x) r else f x
theorem pdP_step {f hh : AI} {r : Int32} {m k : Nat} (hk : k < 5) (h : iI (k : Int) < hh m) : upd (pdP f hh r (m * 5 + k)) (m * 5 + k) (gI (pdP f hh r (m * 5 + k) (m * 5 + k)) r) = pdP f hh r (m * 5 + (k + 1)) := by
  funext x
  unfold upd pdP
  by_cases c : x = m * 5 + k
  · subst c
    rw [if_pos rfl, if_neg (fun q => absurd q.1 (by omega)), if_pos ⟨by omega, by rw [show (m * 5 + k) % 5 = k by omega, show (m * 5 + k) / 5 = m by omega]; exact h⟩]
  · rw [if_neg c]
    have e : (x < m * 5 + (k + 1)) = (x < m * 5 + k) := propext ⟨fun _ => by omega, fun _ => by omega⟩
    simp only [e]
theorem pdP_skip {f hh : AI} {r : Int32} {m k : Nat} (hk : k ≤ 5) (h : k < 5 → hh m ≤ iI (k : Int)) : pdP f hh r (m * 5 + k) = pdP f hh r ((m + 1) * 5) := by
  funext x
  unfold pdP
  by_cases c : x < m * 5 + k
  · have e1 : (x < m * 5 + k) = True := eq_true c
    have e2 : (x < (m + 1) * 5) = True := eq_true (by omega)
    simp only [e1, e2]
  · rw [if_neg (fun q => c q.1)]
    by_cases c2 : x < (m + 1) * 5
    · have hq := h (by omega)
      rw [if_neg (fun q => ?_)]
      have q2 := q.2
      rw [show x / 5 = m by omega] at q2
      obtain ⟨z, hz, ez⟩ := iI_ex (hh m)
      rw [ez, iI_le hz ⟨by omega, by omega⟩] at hq
      rw [ez, iI_lt ⟨by omega, by omega⟩ hz] at q2
      omega
    · rw [if_neg (fun q => c2 q.1)]
abbrev psV (v : VS) (d : Int32) (p : AI) : VS := (v.1, v.2.1, v.2.2.1, p, v.2.2.2.2.1, v.2.2.2.2.2.1, v.2.2.2.2.2.2.1, v.2.2.2.2.2.2.2.1, d, v.2.2.2.2.2.2.2.2.2)
theorem p_passDay (v : VS) : f_X2_passDay v = some (v.1, v.2.1, v.2.2.1, pdP v.2.2.2.1 v.2.1 v.2.2.2.2.2.2.2.2.2.2 30, v.2.2.2.2.1, v.2.2.2.2.2.1, v.2.2.2.2.2.2.1, v.2.2.2.2.2.2.2.1, v.2.2.2.2.2.2.2.2.1 + 1, v.2.2.2.2.2.2.2.2.2) := by
  have inner : ∀ (m : Nat), m < 6 → ∀ (n k : Nat), k + n = 5 → lpx st_X2_passDay (.inr (psV v (v.2.2.2.2.2.2.2.2.1 + 1) (pdP v.2.2.2.1 v.2.1 v.2.2.2.2.2.2.2.2.2.2 (m * 5 + k)), iI m, iI ((m * 5 : Nat) : Int), iI k)) = lpx st_X2_passDay (.inl (psV v (v.2.2.2.2.2.2.2.2.1 + 1) (pdP v.2.2.2.1 v.2.1 v.2.2.2.2.2.2.2.2.2.2 ((m + 1) * 5)), iI ((m + 1 : Nat) : Int))) := by
    intro m hm n
    induction n with
    | zero =>
      intro k hk
      refine lpx_l ?_
      show f_X2_passDay_24 _ _ _ _ = _
      unfold f_X2_passDay_24 nm
      rw [if_pos (by (first | omega | (simp (disch := omega) only [iI_le, iI_lt, iI_eq, iI_add, iI_sub, iI_mul, iI_neg, zm1, zm2, zm3, zm4, zm5, zm6, z0, z1, z2, z3, z4, z5, z6, z7, z8, z9, z10, z11, z12, z13, z14, z15, z20, z21, z22, z23, z24, z25, z30, z31, z33, z46, z48, z49, z57, z60, z62, z63, z64, z65, z70, z74, z75, z90, z96, z99, z102, z114, z115, z116, z117, z118, z122, z126, z128, z236, z729, z999, z7776, z9999, z46656, z65537, z1000000] <;> omega))), iI_s (m), pdP_skip (by omega) (fun h => absurd h (by omega))]
    | succ n ih =>
      intro k hk
      by_cases c : v.2.1 m ≤ iI (k : Int)
      · refine lpx_l ?_
        show f_X2_passDay_24 _ _ _ _ = _
        unfold f_X2_passDay_24 nm
        dsimp only
        rw [if_neg (by (first | omega | (simp (disch := omega) only [iI_le, iI_lt, iI_eq, iI_add, iI_sub, iI_mul, iI_neg, zm1, zm2, zm3, zm4, zm5, zm6, z0, z1, z2, z3, z4, z5, z6, z7, z8, z9, z10, z11, z12, z13, z14, z15, z20, z21, z22, z23, z24, z25, z30, z31, z33, z46, z48, z49, z57, z60, z62, z63, z64, z65, z70, z74, z75, z90, z96, z99, z102, z114, z115, z116, z117, z118, z122, z126, z128, z236, z729, z999, z7776, z9999, z46656, z65537, z1000000] <;> omega))), ck_N hm (by omega), cl_N (n := m) (by omega), if_pos c, iI_s (m), pdP_skip (by omega) (fun _ => c)]
      · refine (lpx_l ?_).trans (ih (k + 1) (by omega))
        have c' : iI (k : Int) < v.2.1 m := Int32.not_le.mp c
        show f_X2_passDay_24 _ _ _ _ = _
        unfold f_X2_passDay_24 nm
        dsimp only
        rw [if_neg (by (first | omega | (simp (disch := omega) only [iI_le, iI_lt, iI_eq, iI_add, iI_sub, iI_mul, iI_neg, zm1, zm2, zm3, zm4, zm5, zm6, z0, z1, z2, z3, z4, z5, z6, z7, z8, z9, z10, z11, z12, z13, z14, z15, z20, z21, z22, z23, z24, z25, z30, z31, z33, z46, z48, z49, z57, z60, z62, z63, z64, z65, z70, z74, z75, z90, z96, z99, z102, z114, z115, z116, z117, z118, z122, z126, z128, z236, z729, z999, z7776, z9999, z46656, z65537, z1000000] <;> omega))), ck_N hm (by omega), cl_N (n := m) (by omega), if_neg c, ixV1, ck_N (by omega) (by omega), cl_N (n := m * 5 + k) (by omega), iI_s (k)]
        show bn (some (gI _ _)) _ = _
        rw [bn_i rfl, pdP_step (by omega) c']
  have outer : ∀ (n m : Nat), m + n = 6 → lpx st_X2_passDay (.inl (psV v (v.2.2.2.2.2.2.2.2.1 + 1) (pdP v.2.2.2.1 v.2.1 v.2.2.2.2.2.2.2.2.2.2 (m * 5)), iI m)) = some (psV v (v.2.2.2.2.2.2.2.2.1 + 1) (pdP v.2.2.2.1 v.2.1 v.2.2.2.2.2.2.2.2.2.2 30)) := by
    intro n
    induction n with
    | zero =>
      intro m hm
      have : m = 6 := by omega
      subst this
      refine lpx_r ?_
      show f_X2_passDay_12 _ _ = _
      unfold f_X2_passDay_12
      rw [if_pos (by (first | omega | (simp (disch := omega) only [iI_le, iI_lt, iI_eq, iI_add, iI_sub, iI_mul, iI_neg, zm1, zm2, zm3, zm4, zm5, zm6, z0, z1, z2, z3, z4, z5, z6, z7, z8, z9, z10, z11, z12, z13, z14, z15, z20, z21, z22, z23, z24, z25, z30, z31, z33, z46, z48, z49, z57, z60, z62, z63, z64, z65, z70, z74, z75, z90, z96, z99, z102, z114, z115, z116, z117, z118, z122, z126, z128, z236, z729, z999, z7776, z9999, z46656, z65537, z1000000] <;> omega)))]
    | succ n ih =>
      intro m hm
      have h0 := inner m (by omega) 5 0 (by omega)
      refine ((lpx_l ?_).trans h0).trans (ih (m + 1) (by omega))
      show f_X2_passDay_12 _ _ = _
      unfold f_X2_passDay_12 nm
      rw [if_neg (by (first | omega | (simp (disch := omega) only [iI_le, iI_lt, iI_eq, iI_add, iI_sub, iI_mul, iI_neg, zm1, zm2, zm3, zm4, zm5, zm6, z0, z1, z2, z3, z4, z5, z6, z7, z8, z9, z10, z11, z12, z13, z14, z15, z20, z21, z22, z23, z24, z25, z30, z31, z33, z46, z48, z49, z57, z60, z62, z63, z64, z65, z70, z74, z75, z90, z96, z99, z102, z114, z115, z116, z117, z118, z122, z126, z128, z236, z729, z999, z7776, z9999, z46656, z65537, z1000000] <;> omega))), z5, iI_mul]
      rfl
  have h := outer 6 0 (by omega)
  have e : pdP v.2.2.2.1 v.2.1 v.2.2.2.2.2.2.2.2.2.2 (0 * 5) = v.2.2.2.1 := by
    funext x
    unfold pdP
    rw [if_neg (fun q => absurd q.1 (by omega))]
  rw [e] at h
  exact h
theorem rV_pass {v : VS} {S : SV} {B r : Int} (hr : rV v S) (hg_ : gd B S) (hrr : v.2.2.2.2.2.2.2.2.2.2 = iI r) (h0 : 0 ≤ r ∧ r ≤ 9) (t : AI × AI × Int32 × Int32 × Int32 × Int32) : rV (v.1, v.2.1, v.2.2.1, pdP v.2.2.2.1 v.2.1 v.2.2.2.2.2.2.2.2.2.2 30, v.2.2.2.2.1, t) (passS r S) := by
  intro x hx
  obtain ⟨q1, q2, q3⟩ := hr x hx
  have h5 := (hg_.1 x hx).2.1
  refine ⟨q1, q2, fun k hk => ?_⟩
  have hk : k < hg S x := hk
  obtain ⟨e1, e2, e3⟩ := q3 k hk
  have hb := (hg_.1 x hx).2.2 k hk
  refine ⟨e1, ?_, e3⟩
  show pdP v.2.2.2.1 v.2.1 _ 30 (x * 5 + k) = iI (if 9999 < pe S x k + r then 9999 else pe S x k + r)
  unfold pdP
  rw [if_pos ⟨by omega, by rw [show (x * 5 + k) % 5 = k by omega, show (x * 5 + k) / 5 = x by omega, q2]; exact (iI_lt ⟨by omega, by omega⟩ ⟨by omega, by omega⟩).mpr (by omega)⟩, e2, hrr, gI_I (by omega) (by omega)]
/-- rows that are alike below their bounds -/
theorem rM_cong {a b c a' b' c' : AI} {S : SV} {B : Int} (hr : rM a b c S) (hg_ : gd B S) (ha : ∀ x, x < 6 → a' x = a x) (hb : ∀ x, x < 6 → b' x = b x) (hc : ∀ x, x < 90 → c' x = c x) : rM a' b' c' S := by
  intro x hx
  obtain ⟨q1, q2, q3⟩ := hr x hx
  have h5 := (hg_.1 x hx).2.1
  refine ⟨(ha x hx).trans q1, (hb x hx).trans q2, fun k hk => ?_⟩
  obtain ⟨e1, e2, e3⟩ := q3 k hk
  exact ⟨(hc _ (by omega)).trans e1, (hc _ (by omega)).trans e2, (hc _ (by omega)).trans e3⟩
theorem rV_cong {v w : VS} {S : SV} {B : Int} (hr : rV v S) (hg_ : gd B S) (h1 : ∀ x, x < 6 → w.1 x = v.1 x) (h2 : ∀ x, x < 6 → w.2.1 x = v.2.1 x) (h3 : ∀ x, x < 30 → w.2.2.1 x = v.2.2.1 x) (h4 : ∀ x, x < 30 → w.2.2.2.1 x = v.2.2.2.1 x) (h5' : ∀ x, x < 30 → w.2.2.2.2.1 x = v.2.2.2.2.1 x) : rV w S := by
  intro x hx
  obtain ⟨q1, q2, q3⟩ := hr x hx
  have h5 := (hg_.1 x hx).2.1
  refine ⟨(h1 x hx).trans q1, (h2 x hx).trans q2, fun k hk => ?_⟩
  obtain ⟨e1, e2, e3⟩ := q3 k hk
  exact ⟨(h3 _ (by omega)).trans e1, (h4 _ (by omega)).trans e2, (h5' _ (by omega)).trans e3⟩
/-- the reference's now with its days -/
abbrev setND (u : MS) (d : Int32) (a b c : AI) : MS := (u.1, u.2.1, u.2.2.1, u.2.2.2.1, u.2.2.2.2.1, u.2.2.2.2.2.1, u.2.2.2.2.2.2.1, u.2.2.2.2.2.2.2.1, u.2.2.2.2.2.2.2.2.1, u.2.2.2.2.2.2.2.2.2.1, d, a, b, c, u.2.2.2.2.2.2.2.2.2.2.2.2.2.2)
def cpf (f g : AI) (i : Nat) : AI := fun x => if x < i then f x else g x
theorem cpf_0 {f g : AI} : cpf f g 0 = g := by
  funext x
  unfold cpf
  rw [if_neg (by omega)]
theorem cpf_step (f g : AI) (i : Nat) : upd (cpf f g i) i (f i) = cpf f g (i + 1) := by
  funext x
  unfold upd cpf
  by_cases h : x = i
  · rw [if_pos h, h, if_pos (by omega)]
  · rw [if_neg h]
    by_cases h2 : x < i
    · rw [if_pos h2, if_pos (by omega)]
    · rw [if_neg h2, if_neg (by omega)]
theorem cpf_in {f g : AI} {i x : Nat} (h : x < i) : cpf f g i x = f x := by unfold cpf; rw [if_pos h]
theorem p_asNow (u : MS) : ∃ a b c, f_X4_asNow u = some (setND u u.2.2.1 a b c) ∧ (∀ x, x < 6 → a x = u.2.2.2.1 x) ∧ (∀ x, x < 6 → b x = u.2.2.2.2.1 x) ∧ ∀ x, x < 90 → c x = u.2.2.2.2.2.1 x := by
  have loop2 : ∀ (a b : AI) (n i : Nat), i + n = 90 → lpx st_X4_asNow (.inr (setND u u.2.2.1 a b (cpf u.2.2.2.2.2.1 u.2.2.2.2.2.2.2.2.2.2.2.2.2.1 i), iI i)) = some (setND u u.2.2.1 a b (cpf u.2.2.2.2.2.1 u.2.2.2.2.2.2.2.2.2.2.2.2.2.1 90)) := by
    intro a b n
    induction n with
    | zero =>
      intro i hi
      have : i = 90 := by omega
      subst this
      refine lpx_r ?_
      show f_X4_asNow_48 _ _ = _
      unfold f_X4_asNow_48
      rw [z90, if_pos ((iI_le ⟨by omega, by omega⟩ ⟨by omega, by omega⟩).mpr (by omega))]
    | succ n ih =>
      intro i hi
      refine (lpx_l ?_).trans (ih (i + 1) (by omega))
      show f_X4_asNow_48 _ _ = _
      unfold f_X4_asNow_48 nm
      dsimp only
      rw [z90, if_neg (fun q => by have := (iI_le ⟨by omega, by omega⟩ ⟨by omega, by omega⟩).mp q; omega), ck_N (by omega) (by omega), cl_N (by omega), iI_s, cpf_step]
  have loop1 : ∀ (n i : Nat), i + n = 6 → lpx st_X4_asNow (.inl (setND u u.2.2.1 (cpf u.2.2.2.1 u.2.2.2.2.2.2.2.2.2.2.2.1 i) (cpf u.2.2.2.2.1 u.2.2.2.2.2.2.2.2.2.2.2.2.1 i) u.2.2.2.2.2.2.2.2.2.2.2.2.2.1, iI i)) = some (setND u u.2.2.1 (cpf u.2.2.2.1 u.2.2.2.2.2.2.2.2.2.2.2.1 6) (cpf u.2.2.2.2.1 u.2.2.2.2.2.2.2.2.2.2.2.2.1 6) (cpf u.2.2.2.2.2.1 u.2.2.2.2.2.2.2.2.2.2.2.2.2.1 90)) := by
    intro n
    induction n with
    | zero =>
      intro i hi
      have : i = 6 := by omega
      subst this
      have h2 := loop2 (cpf u.2.2.2.1 u.2.2.2.2.2.2.2.2.2.2.2.1 6) (cpf u.2.2.2.2.1 u.2.2.2.2.2.2.2.2.2.2.2.2.1 6) 90 0 (by omega)
      rw [cpf_0] at h2
      refine (lpx_l ?_).trans h2
      show f_X4_asNow_10 _ _ = _
      unfold f_X4_asNow_10
      rw [z6, if_pos ((iI_le ⟨by omega, by omega⟩ ⟨by omega, by omega⟩).mpr (by omega))]
      rfl
    | succ n ih =>
      intro i hi
      refine (lpx_l ?_).trans (ih (i + 1) (by omega))
      show f_X4_asNow_10 _ _ = _
      unfold f_X4_asNow_10 nm
      dsimp only
      rw [z6, if_neg (fun q => by have := (iI_le ⟨by omega, by omega⟩ ⟨by omega, by omega⟩).mp q; omega), ck_N (by omega) (by omega), cl_N (by omega), iI_s, cpf_step, cpf_step]
  have h1 := loop1 6 0 (by omega)
  rw [cpf_0, cpf_0] at h1
  refine ⟨_, _, _, h1, fun x hx => cpf_in hx, fun x hx => cpf_in hx, fun x hx => cpf_in hx⟩
