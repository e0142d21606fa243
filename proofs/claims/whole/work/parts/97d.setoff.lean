/-! SETTING OFF -/
theorem hb_or6 : ∀ n, n < 64 → ∀ b, b < 6 → (nI n ||| ((1 : Int32) <<< (nI b &&& 31))) = nI (n ||| 2 ^ b) ∧ (n ||| 2 ^ b) < 64 ∧ ∀ k, k < 6 → (hb (n ||| 2 ^ b) k ↔ (hb n k ∨ k = b)) := by decide +kernel
theorem hb_and : ∀ n, n < 64 → ∀ k, k < 6 → ((nI n &&& ((1 : Int32) <<< (nI k &&& 31))) = 0 ↔ ¬ hb n k) := by decide +kernel
theorem hb_06 : ∀ k, k < 6 → ¬ hb 0 k := by decide
theorem ringF_ok {L B : Int} {S : SV} (hG : gd B S) {m0 : Nat} : ∀ (n a x : Nat), a < 6 → x < 64 → (∀ k, k < 6 → hb x k → 0 < hg S k) → ringF L S m0 n (nI x) a = -6 ∨ ∃ y, y < 64 ∧ ringF L S m0 n (nI x) a = nI y ∧ (∃ k, k < 6 ∧ hb y k) ∧ ∀ k, k < 6 → hb y k → 0 < hg S k := by
  intro n
  induction n with
  | zero => intro a x _ _ _; exact Or.inl rfl
  | succ n ih =>
    intro a x ha hx hk
    unfold ringF
    by_cases h0 : hg S a = 0
    · rw [if_pos h0]; exact Or.inl rfl
    · rw [if_neg h0]
      have hd := (hG.1 a ha).2.2 _ (dueF_min L (pe S a) (hg S a) (by omega)).1
      obtain ⟨o1, o2, o3⟩ := hb_or6 x hx a ha
      have hk' : ∀ k, k < 6 → hb (x ||| 2 ^ a) k → 0 < hg S k := fun k q1 q2 => by
        rcases (o3 k q1).mp q2 with q | q
        · exact hk k q1 q
        · subst q; omega
      rw [iI_nat, o1]
      by_cases c : (ln S a (dueF L (pe S a) (hg S a))).toNat = m0
      · rw [if_pos c]
        exact Or.inr ⟨_, o2, rfl, ⟨a, ha, (o3 a ha).mpr (Or.inr rfl)⟩, hk'⟩
      · rw [if_neg c]
        exact ih _ _ (by omega) o2 hk'
/-- pence that are due of a man who has debts -/
noncomputable def pD (L : Int) (S : SV) (m : Nat) : Int := pe S m (dueF L (pe S m) (hg S m))
noncomputable def rF (L : Int) (S : SV) (y : Nat) : Nat → Int
  | 0 => 1000000
  | n + 1 => if hb y n ∧ pD L S n < rF L S y n then pD L S n else rF L S y n
theorem rF_rng {L B : Int} {S : SV} (hG : gd B S) {y : Nat} (hk : ∀ k, k < 6 → hb y k → 0 < hg S k) : ∀ n, n ≤ 6 → 1 ≤ rF L S y n ∧ rF L S y n ≤ 1000000 ∧ ∀ k, k < n → hb y k → rF L S y n ≤ pD L S k
  | 0, _ => ⟨by show (1 : Int) ≤ 1000000; omega, by show (1000000 : Int) ≤ 1000000; omega, fun k hk => absurd hk (by omega)⟩
  | n + 1, h => by
    obtain ⟨i1, i2, i3⟩ := rF_rng (L := L) hG hk n (by omega)
    unfold rF
    by_cases c : hb y n ∧ pD L S n < rF L S y n
    · have hh := hk n (by omega) c.1
      have hd : 1 ≤ pD L S n := ((hG.1 n (by omega)).2.2 _ (dueF_min L (pe S n) (hg S n) hh).1).2.2.1
      rw [if_pos c]
      refine ⟨hd, by omega, fun k q1 q2 => ?_⟩
      by_cases e : k = n
      · subst e; exact Int.le_refl _
      · have := i3 k (by omega) q2
        omega
    · rw [if_neg c]
      refine ⟨i1, i2, fun k q1 q2 => ?_⟩
      by_cases e : k = n
      · subst e
        rcases (show pD L S k < rF L S y k ∨ rF L S y k ≤ pD L S k by omega) with q | q
        · exact absurd ⟨q2, q⟩ c
        · exact q
      · exact i3 k (by omega) q2
def setPe (S : SV) (m i : Nat) (z : Int) : SV := (mon S, hg S, ln S, fun a k => if a = m ∧ k = i then z else pe S a k, dy S)
/-- a debt becomes less -/
def lowS (S : SV) (m i : Nat) (w : Int) : SV := if 0 < pe S m i - w then setPe S m i (pe S m i - w) else dropS S m i
theorem gd_low {B : Int} {S : SV} (hG : gd B S) {m i : Nat} (hm : m < 6) (hi : i < hg S m) {w : Int} (hw : 0 ≤ w) : gd B (lowS S m i w) := by
  unfold lowS
  by_cases c : 0 < pe S m i - w
  · rw [if_pos c]
    refine ⟨fun x hx => ⟨(hG.1 x hx).1, (hG.1 x hx).2.1, fun k hk => ?_⟩, hG.2⟩
    have q := (hG.1 x hx).2.2 k hk
    have qi := (hG.1 m hm).2.2 i hi
    refine ⟨q.1, q.2.1, ?_⟩
    show 1 ≤ (if x = m ∧ k = i then pe S m i - w else pe S x k) ∧ (if x = m ∧ k = i then pe S m i - w else pe S x k) ≤ 9999
    split <;> omega
  · rw [if_neg c]
    exact gd_drop hG hm hi
theorem low_far {S : SV} {m i : Nat} {w : Int} {x : Nat} (h : x ≠ m) : hg (lowS S m i w) x = hg S x ∧ pe (lowS S m i w) x = pe S x := by
  unfold lowS
  split
  · refine ⟨rfl, ?_⟩
    funext k
    show (if x = m ∧ k = i then _ else _) = _
    rw [if_neg (show ¬ (x = m ∧ k = i) from fun q => h q.1)]
  · refine ⟨?_, ?_⟩
    · show (if x = m then _ else _) = _
      rw [if_neg h]
    · funext k
      show (if x = m ∧ i ≤ k then _ else _) = _
      rw [if_neg (show ¬ (x = m ∧ i ≤ k) from fun q => h q.1)]
theorem p_lower {v : VS} {S : SV} {B : Int} (hr : rV v S) (hG : gd B S) {m i : Nat} (hm : m < 6) (hi : i < hg S m) {w : Int} (hw : 0 ≤ w ∧ w ≤ 9999) : ∃ h l p d, f_X2_lower v (iI m) (iI i) (iI w) = some (v.1, h, l, p, d, v.2.2.2.2.2) ∧ rV (v.1, h, l, p, d, v.2.2.2.2.2) (lowS S m i w) := by
  have h5 := (hG.1 m hm).2.1
  have hp := (hG.1 m hm).2.2 i hi
  unfold f_X2_lower nm lowS
  by_cases c : 0 < pe S m i - w
  · refine ⟨v.2.1, v.2.2.1, upd v.2.2.2.1 (m * 5 + i) (iI (pe S m i - w)), v.2.2.2.2.1, ?_, ?_⟩
    · rw [bn_i (p_hasN hr hG hm hi), if_neg n10, bn_i (p_penceOf hr hG hm hi), iI_sub]
      dsimp only
      rw [if_neg (by (first | omega | (simp (disch := omega) only [iI_le, iI_lt, iI_eq, iI_add, iI_sub, iI_mul, iI_neg, zm1, zm2, zm3, zm4, zm5, zm6, z0, z1, z2, z3, z4, z5, z6, z7, z8, z9, z10, z11, z12, z13, z14, z15, z20, z21, z22, z23, z24, z25, z30, z31, z33, z46, z48, z49, z57, z60, z62, z63, z64, z65, z70, z74, z75, z90, z96, z99, z102, z114, z115, z116, z117, z118, z126, z128, z236, z729, z999, z9999, z46656, z65537, z1000000] <;> omega))), ixV, ck_N (by omega) (by omega), cl_N (by omega)]
    · rw [if_pos c]
      intro x hx
      obtain ⟨q1, q2, q3⟩ := hr x hx
      have hx5 := (hG.1 x hx).2.1
      refine ⟨q1, q2, fun k hk => ?_⟩
      have hk : k < hg S x := hk
      obtain ⟨r1, r2, r3⟩ := q3 k hk
      refine ⟨r1, ?_, r3⟩
      show upd v.2.2.2.1 (m * 5 + i) _ (x * 5 + k) = iI (if x = m ∧ k = i then pe S m i - w else pe S x k)
      by_cases e : x = m ∧ k = i
      · rw [if_pos e, e.1, e.2, upd_s]
      · rw [if_neg e, upd_n (by omega), r2]
  · rw [if_neg c, bn_i (p_hasN hr hG hm hi), if_neg n10, bn_i (p_penceOf hr hG hm hi), iI_sub]
    dsimp only
    rw [if_pos (by (first | omega | (simp (disch := omega) only [iI_le, iI_lt, iI_eq, iI_add, iI_sub, iI_mul, iI_neg, zm1, zm2, zm3, zm4, zm5, zm6, z0, z1, z2, z3, z4, z5, z6, z7, z8, z9, z10, z11, z12, z13, z14, z15, z20, z21, z22, z23, z24, z25, z30, z31, z33, z46, z48, z49, z57, z60, z62, z63, z64, z65, z70, z74, z75, z90, z96, z99, z102, z114, z115, z116, z117, z118, z126, z128, z236, z729, z999, z9999, z46656, z65537, z1000000] <;> omega)))]
    obtain ⟨h, l, p, d, e1, e2⟩ := p_drop hr hG hm hi
    exact ⟨h, l, p, d, by rw [bn_i e1], e2⟩
theorem rM_rel {a b c c' : AI} {S : SV} (hr : rM a b c S) (h : ∀ x, x < 6 → ∀ k, k < hg S x → ∀ j, j < 3 → c' (15 * x + 3 * k + j) = c (15 * x + 3 * k + j)) : rM a b c' S := by
  intro x hx
  obtain ⟨q1, q2, q3⟩ := hr x hx
  refine ⟨q1, q2, fun k hk => ?_⟩
  obtain ⟨r1, r2, r3⟩ := q3 k hk
  exact ⟨(h x hx k hk 0 (by omega)).trans r1, (h x hx k hk 1 (by omega)).trans r2, (h x hx k hk 2 (by omega)).trans r3⟩
theorem p_takeOut2 {u : MS} {a b c : AI} {m i g : Nat} (hm : m < 6) (hg5 : g ≤ 5) (hb' : b m = iI g) (hi : i < g) : f_X4_takeOut (setN u a b c) (iI m) (iI i) = some (setN u a (upd b m (iI ((g - 1 : Nat) : Int))) (shd 3 c (15 * m + 3 * i) (15 * m + 3 * (g - 1)))) := by
  have hsz : ((g : Int) - 1) = ((g - 1 : Nat) : Int) := by omega
  have loop : ∀ (n x : Nat), x + n = 15 * m + 3 * (g - 1) → 15 * m + 3 * i ≤ x → lpx (st_X4_takeOut (iI m) (iI i)) (setN u a b (shd 3 c (15 * m + 3 * i) x), iI x) = some (setN u a (upd b m (iI ((g - 1 : Nat) : Int))) (shd 3 c (15 * m + 3 * i) (15 * m + 3 * (g - 1)))) := by
    intro n
    induction n with
    | zero =>
      intro x hx h1
      have ex : x = 15 * m + 3 * (g - 1) := by omega
      refine lpx_r ?_
      show f_X4_takeOut_6 (iI m) (iI i) _ _ = _
      unfold f_X4_takeOut_6 nm
      dsimp only
      rw [ck_N hm (by omega), cl_N (by omega), hb', z1, iI_sub, hsz, bn_i p_at, ixA, if_pos ((iI_le ⟨by omega, by omega⟩ ⟨by omega, by omega⟩).mpr (by omega)), ← ex]
    | succ n ih =>
      intro x hx h1
      refine (lpx_l ?_).trans (ih (x + 1) (by omega) (by omega))
      show f_X4_takeOut_6 (iI m) (iI i) _ _ = _
      unfold f_X4_takeOut_6 nm
      dsimp only
      rw [ck_N hm (by omega), cl_N (by omega), hb', z1, iI_sub, hsz, bn_i p_at, ixA, if_neg (fun q => by have := (iI_le ⟨by omega, by omega⟩ ⟨by omega, by omega⟩).mp q; omega), z3, iI_add, show ((x : Int) + 3) = ((x + 3 : Nat) : Int) by omega, ck_N (by omega) (by omega), ck_N (by omega) (by omega), cl_N (by omega), cl_N (by omega), shd_step h1, iI_add]
      rfl
  have hq := loop (15 * m + 3 * (g - 1) - (15 * m + 3 * i)) (15 * m + 3 * i) (by omega) (by omega)
  rw [shd_0] at hq
  unfold f_X4_takeOut f_X4_takeOut_0
  rw [bn_i p_at, ixA]
  exact hq
/-- the snapshot when the first n men's dues have become less -/
noncomputable def sOff (L : Int) (S : SV) (y : Nat) (w : Int) : Nat → SV
  | 0 => S
  | n + 1 => if hb y n then lowS (sOff L S y w n) n (dueF L (pe S n) (hg S n)) w else sOff L S y w n
theorem sOff_far {L : Int} {S : SV} {y : Nat} {w : Int} : ∀ n x, n ≤ x → hg (sOff L S y w n) x = hg S x ∧ pe (sOff L S y w n) x = pe S x
  | 0, _, _ => ⟨rfl, rfl⟩
  | n + 1, x, h => by
    have ih := sOff_far (L := L) (S := S) (y := y) (w := w) n x (by omega)
    unfold sOff
    split
    · have := low_far (S := sOff L S y w n) (m := n) (i := dueF L (pe S n) (hg S n)) (w := w) (x := x) (by omega)
      rw [this.1, this.2]
      exact ih
    · exact ih
theorem gd_sOff {L B : Int} {S : SV} (hG : gd B S) {y : Nat} {w : Int} (hw : 0 ≤ w) (hk : ∀ k, k < 6 → hb y k → 0 < hg S k) : ∀ n, n ≤ 6 → gd B (sOff L S y w n)
  | 0, _ => hG
  | n + 1, h => by
    have ih := gd_sOff (L := L) hG hw hk n (by omega)
    unfold sOff
    split
    · rename_i c
      refine gd_low ih (by omega) ?_ hw
      rw [(sOff_far n n (Nat.le_refl _)).1]
      exact (dueF_min L (pe S n) (hg S n) (hk n (by omega) c)).1
    · exact ih
theorem rF_s {L : Int} {S : SV} {y n : Nat} : rF L S y (n + 1) = if hb y n ∧ pD L S n < rF L S y n then pD L S n else rF L S y n := rfl
theorem sOff_s {L : Int} {S : SV} {y n : Nat} {w : Int} : sOff L S y w (n + 1) = if hb y n then lowS (sOff L S y w n) n (dueF L (pe S n) (hg S n)) w else sOff L S y w n := rfl
theorem hb_andI {y m : Nat} (hy : y < 64) (hm : m < 6) : (iI (y : Int) &&& ((1 : Int32) <<< (iI (m : Int) &&& 31))) = 0 ↔ ¬ hb y m := by
  rw [iI_nat, iI_nat]
  exact hb_and y hy m hm
def m99 (z : Int) : Int := if z < 9999 then z else 9999
theorem pD_rng {L B : Int} {S : SV} (hG : gd B S) {m : Nat} (hm : m < 6) (h : 0 < hg S m) : 1 ≤ pD L S m ∧ pD L S m ≤ 9999 := ((hG.1 m hm).2.2 _ (dueF_min L (pe S m) (hg S m) h).1).2.2
theorem so_c1 {L B : Int} {S : SV} {v : VS} (hr : rV v S) (hG : gd B S) (hL : v.2.2.2.2.2.2.2.2.2.1 = iI L) (hL2 : 0 ≤ L ∧ L ≤ 2) {y : Nat} (hy : y < 64) (hk : ∀ k, k < 6 → hb y k → 0 < hg S k) : ∀ n m : Nat, m + n = 6 → lpx (st_X2_setOffDues (iI y)) (.inl (v, iI (m99 (rF L S y m)), iI m)) = lpx (st_X2_setOffDues (iI y)) (.inr (v, iI (m99 (rF L S y 6)), 0)) := by
  intro n
  induction n with
  | zero =>
    intro m hm
    have : m = 6 := by omega
    subst this
    refine lpx_l ?_
    show f_X2_setOffDues_6 (iI y) _ _ _ = _
    unfold f_X2_setOffDues_6
    rw [if_pos (by (first | omega | (simp (disch := omega) only [iI_le, iI_lt, iI_eq, iI_add, iI_sub, iI_mul, iI_neg, zm1, zm2, zm3, zm4, zm5, zm6, z0, z1, z2, z3, z4, z5, z6, z7, z8, z9, z10, z11, z12, z13, z14, z15, z20, z21, z22, z23, z24, z25, z30, z31, z33, z46, z48, z49, z57, z60, z62, z63, z64, z65, z70, z74, z75, z90, z96, z99, z102, z114, z115, z116, z117, z118, z126, z128, z236, z729, z999, z9999, z46656, z65537, z1000000] <;> omega)))]
  | succ n ih =>
    intro m hm
    have hm6 : m < 6 := by omega
    refine (lpx_l ?_).trans (ih (m + 1) (by omega))
    show f_X2_setOffDues_6 (iI y) _ _ _ = _
    unfold f_X2_setOffDues_6 nm
    have rr := rF_rng (L := L) hG hk m (by omega)
    rw [if_neg (by (first | omega | (simp (disch := omega) only [iI_le, iI_lt, iI_eq, iI_add, iI_sub, iI_mul, iI_neg, zm1, zm2, zm3, zm4, zm5, zm6, z0, z1, z2, z3, z4, z5, z6, z7, z8, z9, z10, z11, z12, z13, z14, z15, z20, z21, z22, z23, z24, z25, z30, z31, z33, z46, z48, z49, z57, z60, z62, z63, z64, z65, z70, z74, z75, z90, z96, z99, z102, z114, z115, z116, z117, z118, z126, z128, z236, z729, z999, z9999, z46656, z65537, z1000000] <;> omega))), rF_s]
    by_cases c : hb y m
    · have h0 := hk m hm6 c
      obtain ⟨k, h1, h2, h3⟩ := dueI_lt (L := L) hG hm6 h0
      have hp := pD_rng (L := L) hG hm6 h0
      have e : pe S m k = pD L S m := by rw [h3]; rfl
      rw [if_neg (fun q => (hb_andI hy hm6).mp q c), bn_i (p_dueOf hr hG hL hL2 hm6), h2, bn_i (p_penceOf hr hG hm6 h1), iI_s (m), e]
      by_cases c2 : pD L S m < rF L S y m
      · rw [if_pos (show hb y m ∧ pD L S m < rF L S y m from ⟨c, c2⟩)]
        unfold m99
        by_cases c3 : rF L S y m < 9999
        · rw [if_pos c3, if_pos (by (first | omega | (simp (disch := omega) only [iI_le, iI_lt, iI_eq, iI_add, iI_sub, iI_mul, iI_neg, zm1, zm2, zm3, zm4, zm5, zm6, z0, z1, z2, z3, z4, z5, z6, z7, z8, z9, z10, z11, z12, z13, z14, z15, z20, z21, z22, z23, z24, z25, z30, z31, z33, z46, z48, z49, z57, z60, z62, z63, z64, z65, z70, z74, z75, z90, z96, z99, z102, z114, z115, z116, z117, z118, z126, z128, z236, z729, z999, z9999, z46656, z65537, z1000000] <;> omega))), if_pos (by omega)]
        · rw [if_neg c3]
          by_cases c4 : pD L S m < 9999
          · rw [if_pos (by (first | omega | (simp (disch := omega) only [iI_le, iI_lt, iI_eq, iI_add, iI_sub, iI_mul, iI_neg, zm1, zm2, zm3, zm4, zm5, zm6, z0, z1, z2, z3, z4, z5, z6, z7, z8, z9, z10, z11, z12, z13, z14, z15, z20, z21, z22, z23, z24, z25, z30, z31, z33, z46, z48, z49, z57, z60, z62, z63, z64, z65, z70, z74, z75, z90, z96, z99, z102, z114, z115, z116, z117, z118, z126, z128, z236, z729, z999, z9999, z46656, z65537, z1000000] <;> omega))), if_pos c4]
          · rw [if_neg (by (first | omega | (simp (disch := omega) only [iI_le, iI_lt, iI_eq, iI_add, iI_sub, iI_mul, iI_neg, zm1, zm2, zm3, zm4, zm5, zm6, z0, z1, z2, z3, z4, z5, z6, z7, z8, z9, z10, z11, z12, z13, z14, z15, z20, z21, z22, z23, z24, z25, z30, z31, z33, z46, z48, z49, z57, z60, z62, z63, z64, z65, z70, z74, z75, z90, z96, z99, z102, z114, z115, z116, z117, z118, z126, z128, z236, z729, z999, z9999, z46656, z65537, z1000000] <;> omega))), if_neg c4]
      · rw [if_neg (show ¬ (hb y m ∧ pD L S m < rF L S y m) from fun q => c2 q.2)]
        rw [if_neg (by unfold m99; split <;> (first | omega | (simp (disch := omega) only [iI_le, iI_lt, iI_eq, iI_add, iI_sub, iI_mul, iI_neg, zm1, zm2, zm3, zm4, zm5, zm6, z0, z1, z2, z3, z4, z5, z6, z7, z8, z9, z10, z11, z12, z13, z14, z15, z20, z21, z22, z23, z24, z25, z30, z31, z33, z46, z48, z49, z57, z60, z62, z63, z64, z65, z70, z74, z75, z90, z96, z99, z102, z114, z115, z116, z117, z118, z126, z128, z236, z729, z999, z9999, z46656, z65537, z1000000] <;> omega)))]
    · rw [if_pos ((hb_andI hy hm6).mpr c), if_neg (fun q => c q.1), iI_s (m)]
theorem so_c2 {L B w : Int} {S : SV} (hG : gd B S) (hL2 : 0 ≤ L ∧ L ≤ 2) (hw : 0 ≤ w ∧ w ≤ 9999) {y : Nat} (hy : y < 64) (hk : ∀ k, k < 6 → hb y k → 0 < hg S k) : ∀ (n m : Nat) (v : VS), m + n = 6 → v.2.2.2.2.2.2.2.2.2.1 = iI L → rV v (sOff L S y w m) → ∃ h l p d, lpx (st_X2_setOffDues (iI y)) (.inr (v, iI w, iI m)) = some (iI w, (v.1, h, l, p, d, v.2.2.2.2.2)) ∧ rV (v.1, h, l, p, d, v.2.2.2.2.2) (sOff L S y w 6) := by
  intro n
  induction n with
  | zero =>
    intro m v hm hL hr
    have : m = 6 := by omega
    subst this
    refine ⟨v.2.1, v.2.2.1, v.2.2.2.1, v.2.2.2.2.1, lpx_r ?_, hr⟩
    show f_X2_setOffDues_43 (iI y) _ _ _ = _
    unfold f_X2_setOffDues_43
    rw [if_pos (by (first | omega | (simp (disch := omega) only [iI_le, iI_lt, iI_eq, iI_add, iI_sub, iI_mul, iI_neg, zm1, zm2, zm3, zm4, zm5, zm6, z0, z1, z2, z3, z4, z5, z6, z7, z8, z9, z10, z11, z12, z13, z14, z15, z20, z21, z22, z23, z24, z25, z30, z31, z33, z46, z48, z49, z57, z60, z62, z63, z64, z65, z70, z74, z75, z90, z96, z99, z102, z114, z115, z116, z117, z118, z126, z128, z236, z729, z999, z9999, z46656, z65537, z1000000] <;> omega)))]
  | succ n ih =>
    intro m v hm hL hr
    have hm6 : m < 6 := by omega
    have hG' := gd_sOff (L := L) hG hw.1 hk m (by omega)
    by_cases c : hb y m
    · have h0 := hk m hm6 c
      have fa := sOff_far (L := L) (S := S) (y := y) (w := w) m m (Nat.le_refl _)
      have hd : dueI L (sOff L S y w m) m = ((dueF L (pe S m) (hg S m) : Nat) : Int) := by
        unfold dueI
        rw [fa.1, fa.2, if_neg (by omega)]
      have hlt : dueF L (pe S m) (hg S m) < hg (sOff L S y w m) m := by rw [fa.1]; exact (dueF_min L (pe S m) (hg S m) h0).1
      obtain ⟨h, l, p, d, e1, e2⟩ := p_lower hr hG' hm6 hlt hw
      have e3 : sOff L S y w (m + 1) = lowS (sOff L S y w m) m (dueF L (pe S m) (hg S m)) w := by rw [sOff_s, if_pos c]
      rw [← e3] at e2
      obtain ⟨h', l', p', d', f1, f2⟩ := ih (m + 1) (v.1, h, l, p, d, v.2.2.2.2.2) (by omega) hL e2
      refine ⟨h', l', p', d', (lpx_l ?_).trans f1, f2⟩
      show f_X2_setOffDues_43 (iI y) _ _ _ = _
      unfold f_X2_setOffDues_43 nm
      rw [if_neg (by (first | omega | (simp (disch := omega) only [iI_le, iI_lt, iI_eq, iI_add, iI_sub, iI_mul, iI_neg, zm1, zm2, zm3, zm4, zm5, zm6, z0, z1, z2, z3, z4, z5, z6, z7, z8, z9, z10, z11, z12, z13, z14, z15, z20, z21, z22, z23, z24, z25, z30, z31, z33, z46, z48, z49, z57, z60, z62, z63, z64, z65, z70, z74, z75, z90, z96, z99, z102, z114, z115, z116, z117, z118, z126, z128, z236, z729, z999, z9999, z46656, z65537, z1000000] <;> omega))), if_neg (fun q => (hb_andI hy hm6).mp q c), bn_i (p_dueOf hr hG' hL hL2 hm6), hd, bn_i e1, iI_s (m)]
    · have e3 : sOff L S y w (m + 1) = sOff L S y w m := by rw [sOff_s, if_neg c]
      rw [← e3] at hr
      obtain ⟨h', l', p', d', f1, f2⟩ := ih (m + 1) v (by omega) hL hr
      refine ⟨h', l', p', d', (lpx_l ?_).trans f1, f2⟩
      show f_X2_setOffDues_43 (iI y) _ _ _ = _
      unfold f_X2_setOffDues_43 nm
      rw [if_neg (by (first | omega | (simp (disch := omega) only [iI_le, iI_lt, iI_eq, iI_add, iI_sub, iI_mul, iI_neg, zm1, zm2, zm3, zm4, zm5, zm6, z0, z1, z2, z3, z4, z5, z6, z7, z8, z9, z10, z11, z12, z13, z14, z15, z20, z21, z22, z23, z24, z25, z30, z31, z33, z46, z48, z49, z57, z60, z62, z63, z64, z65, z70, z74, z75, z90, z96, z99, z102, z114, z115, z116, z117, z118, z126, z128, z236, z729, z999, z9999, z46656, z65537, z1000000] <;> omega))), if_pos ((hb_andI hy hm6).mpr c), iI_s (m)]
theorem p_setOffDues {L B : Int} {S : SV} {v : VS} (hr : rV v S) (hG : gd B S) (hL : v.2.2.2.2.2.2.2.2.2.1 = iI L) (hL2 : 0 ≤ L ∧ L ≤ 2) {y : Nat} (hy : y < 64) (hk : ∀ k, k < 6 → hb y k → 0 < hg S k) (hw : 0 ≤ rF L S y 6 ∧ rF L S y 6 ≤ 9999) : ∃ h l p d, f_X2_setOffDues v (iI y) = some (iI (rF L S y 6), (v.1, h, l, p, d, v.2.2.2.2.2)) ∧ rV (v.1, h, l, p, d, v.2.2.2.2.2) (sOff L S y (rF L S y 6) 6) := by
  have a1 := so_c1 hr hG hL hL2 hy hk 6 0 (by omega)
  have e : m99 (rF L S y 6) = rF L S y 6 := by unfold m99; split <;> omega
  rw [e] at a1
  obtain ⟨h, l, p, d, b1, b2⟩ := so_c2 hG hL2 hw hy hk 6 0 v (by omega) hL hr
  exact ⟨h, l, p, d, a1.trans b1, b2⟩
theorem so_m1 {L B : Int} {S : SV} {u : MS} (hr : rN u S) (hG : gd B S) (hL : u.1 = iI L) (hL2 : 0 ≤ L ∧ L ≤ 2) {y : Nat} (hk : ∀ k, k < 6 → hb y k → 0 < hg S k) (x1 : Int32) : ∀ n m : Nat, m + n = 6 → lpx (st_X4_setOff x1) (.inl (u, iI y, iI (rF L S y m), iI m)) = lpx (st_X4_setOff x1) (.inr (u, iI y, iI (rF L S y 6), 0)) := by
  intro n
  induction n with
  | zero =>
    intro m hm
    have : m = 6 := by omega
    subst this
    refine lpx_l ?_
    show f_X4_setOff_28 x1 _ _ _ _ = _
    unfold f_X4_setOff_28
    rw [if_pos (by (first | omega | (simp (disch := omega) only [iI_le, iI_lt, iI_eq, iI_add, iI_sub, iI_mul, iI_neg, zm1, zm2, zm3, zm4, zm5, zm6, z0, z1, z2, z3, z4, z5, z6, z7, z8, z9, z10, z11, z12, z13, z14, z15, z20, z21, z22, z23, z24, z25, z30, z31, z33, z46, z48, z49, z57, z60, z62, z63, z64, z65, z70, z74, z75, z90, z96, z99, z102, z114, z115, z116, z117, z118, z126, z128, z236, z729, z999, z9999, z46656, z65537, z1000000] <;> omega)))]
  | succ n ih =>
    intro m hm
    have hm6 : m < 6 := by omega
    refine (lpx_l ?_).trans (ih (m + 1) (by omega))
    show f_X4_setOff_28 x1 _ _ _ _ = _
    unfold f_X4_setOff_28 nm
    have rr := rF_rng (L := L) hG hk m (by omega)
    rw [if_neg (by (first | omega | (simp (disch := omega) only [iI_le, iI_lt, iI_eq, iI_add, iI_sub, iI_mul, iI_neg, zm1, zm2, zm3, zm4, zm5, zm6, z0, z1, z2, z3, z4, z5, z6, z7, z8, z9, z10, z11, z12, z13, z14, z15, z20, z21, z22, z23, z24, z25, z30, z31, z33, z46, z48, z49, z57, z60, z62, z63, z64, z65, z70, z74, z75, z90, z96, z99, z102, z114, z115, z116, z117, z118, z126, z128, z236, z729, z999, z9999, z46656, z65537, z1000000] <;> omega))), bn_i (p_has (hb y m) Iff.rfl), rF_s]
    by_cases c : hb y m
    · have h0 := hk m hm6 c
      have hp := pD_rng (L := L) hG hm6 h0
      have e : penD L S m = pD L S m := by unfold penD pD; rw [if_neg (by omega)]
      rw [c01_t c, if_neg n10, bn_i (p_penceDue hr hG hL hL2 hm6), bn_i (p_penceDue hr hG hL hL2 hm6), e, iI_s (m)]
      by_cases c2 : pD L S m < rF L S y m
      · rw [if_neg (by (first | omega | (simp (disch := omega) only [iI_le, iI_lt, iI_eq, iI_add, iI_sub, iI_mul, iI_neg, zm1, zm2, zm3, zm4, zm5, zm6, z0, z1, z2, z3, z4, z5, z6, z7, z8, z9, z10, z11, z12, z13, z14, z15, z20, z21, z22, z23, z24, z25, z30, z31, z33, z46, z48, z49, z57, z60, z62, z63, z64, z65, z70, z74, z75, z90, z96, z99, z102, z114, z115, z116, z117, z118, z126, z128, z236, z729, z999, z9999, z46656, z65537, z1000000] <;> omega))), if_pos (show hb y m ∧ pD L S m < rF L S y m from ⟨c, c2⟩)]
      · rw [if_pos (by (first | omega | (simp (disch := omega) only [iI_le, iI_lt, iI_eq, iI_add, iI_sub, iI_mul, iI_neg, zm1, zm2, zm3, zm4, zm5, zm6, z0, z1, z2, z3, z4, z5, z6, z7, z8, z9, z10, z11, z12, z13, z14, z15, z20, z21, z22, z23, z24, z25, z30, z31, z33, z46, z48, z49, z57, z60, z62, z63, z64, z65, z70, z74, z75, z90, z96, z99, z102, z114, z115, z116, z117, z118, z126, z128, z236, z729, z999, z9999, z46656, z65537, z1000000] <;> omega))), if_neg (fun q => c2 q.2)]
    · rw [c01_f c, if_pos rfl, if_neg (fun q => c q.1), iI_s (m)]
/-- the reference lowers a debt -/
theorem rM_setPe {a b c : AI} {S : SV} {B : Int} (hr : rM a b c S) (hG : gd B S) {m i : Nat} (hm : m < 6) (hi : i < hg S m) (z : Int) : rM a b (upd c (15 * m + 3 * i + 1) (iI z)) (setPe S m i z) := by
  intro x hx
  obtain ⟨q1, q2, q3⟩ := hr x hx
  have hx5 := (hG.1 x hx).2.1
  have hm5 := (hG.1 m hm).2.1
  refine ⟨q1, q2, fun k hk => ?_⟩
  have hk : k < hg S x := hk
  obtain ⟨r1, r2, r3⟩ := q3 k hk
  refine ⟨by rw [upd_n (by omega)]; exact r1, ?_, by rw [upd_n (by omega)]; exact r3⟩
  show upd c (15 * m + 3 * i + 1) _ (15 * x + 3 * k + 1) = iI (if x = m ∧ k = i then z else pe S x k)
  by_cases e : x = m ∧ k = i
  · rw [if_pos e, e.1, e.2, upd_s]
  · rw [if_neg e, upd_n (by omega), r2]
theorem rM_low0 {a b c : AI} {S : SV} {B : Int} (hr : rM a b c S) (hG : gd B S) {m i : Nat} (hm : m < 6) (hi : i < hg S m) (z : Int32) : rM a (upd b m (iI ((hg S m - 1 : Nat) : Int))) (shd 3 (upd c (15 * m + 3 * i + 1) z) (15 * m + 3 * i) (15 * m + 3 * (hg S m - 1))) (dropS S m i) := by
  refine rM_rel (rM_drop hr hG hm hi) (fun x hx k hk j hj => ?_)
  have hx5 := (hG.1 x hx).2.1
  have hm5 := (hG.1 m hm).2.1
  have hk : k < (if x = m then hg S m - 1 else hg S x) := hk
  by_cases c1 : 15 * m + 3 * i ≤ 15 * x + 3 * k + j ∧ 15 * x + 3 * k + j < 15 * m + 3 * (hg S m - 1)
  · rw [shd_in c1.1 c1.2, shd_in c1.1 c1.2, upd_n (by omega)]
  · rw [shd_out (by omega), shd_out (by omega), upd_n]
    intro q
    have ex : x = m := by split at hk <;> omega
    rw [if_pos ex] at hk
    subst ex
    omega
theorem so_m2 {L B w : Int} {S : SV} (hG : gd B S) (hL2 : 0 ≤ L ∧ L ≤ 2) (hw : 0 ≤ w ∧ w ≤ 9999) {y : Nat} (hk : ∀ k, k < 6 → hb y k → 0 < hg S k) (hwp : ∀ k, k < 6 → hb y k → w ≤ pD L S k) {u : MS} (hL : u.1 = iI L) (d x1 : Int32) : ∀ (n m : Nat) (a b c : AI), m + n = 6 → rM a b c (sOff L S y w m) → ∃ b' c' mo sz pi, lpx (st_X4_setOff x1) (.inr (setND u d a b c, iI y, iI w, iI m)) = some (iI w, setB (setND u d a b' c') d mo sz pi) ∧ rM mo sz pi (sOff L S y w 6) := by
  intro n
  induction n with
  | zero =>
    intro m a b c hm hr
    have : m = 6 := by omega
    subst this
    obtain ⟨mo, sz, pi, k1, k2, k3, k4⟩ := p_keepNow (setND u d a b c)
    refine ⟨b, c, mo, sz, pi, lpx_r ?_, rM_cong hr (gd_sOff hG hw.1 hk 6 (by omega)) k2 k3 k4⟩
    show f_X4_setOff_74 x1 _ _ _ _ = _
    unfold f_X4_setOff_74
    rw [if_pos (by (first | omega | (simp (disch := omega) only [iI_le, iI_lt, iI_eq, iI_add, iI_sub, iI_mul, iI_neg, zm1, zm2, zm3, zm4, zm5, zm6, z0, z1, z2, z3, z4, z5, z6, z7, z8, z9, z10, z11, z12, z13, z14, z15, z20, z21, z22, z23, z24, z25, z30, z31, z33, z46, z48, z49, z57, z60, z62, z63, z64, z65, z70, z74, z75, z90, z96, z99, z102, z114, z115, z116, z117, z118, z126, z128, z236, z729, z999, z9999, z46656, z65537, z1000000] <;> omega))), bn_i k1]
  | succ n ih =>
    intro m a b c hm hr
    have hm6 : m < 6 := by omega
    have hG' := gd_sOff (L := L) hG hw.1 hk m (by omega)
    by_cases cc : hb y m
    · have h0 := hk m hm6 cc
      have fa := sOff_far (L := L) (S := S) (y := y) (w := w) m m (Nat.le_refl _)
      have hd : dueI L (sOff L S y w m) m = ((dueF L (pe S m) (hg S m) : Nat) : Int) := by
        unfold dueI
        rw [fa.1, fa.2, if_neg (by omega)]
      have hlt : dueF L (pe S m) (hg S m) < hg (sOff L S y w m) m := by rw [fa.1]; exact (dueF_min L (pe S m) (hg S m) h0).1
      have h5 := (hG'.1 m hm6).2.1
      have hpe : pe (sOff L S y w m) m (dueF L (pe S m) (hg S m)) = pD L S m := by rw [fa.2]; rfl
      have hp := pD_rng (L := L) hG hm6 h0
      have hle := hwp m hm6 cc
      generalize hi : dueF L (pe S m) (hg S m) = i at *
      have e3 : sOff L S y w (m + 1) = lowS (sOff L S y w m) m i w := by rw [sOff_s, if_pos cc, hi]
      have hrow : c (15 * m + 3 * i + 1) = iI (pD L S m) := by rw [((hr m hm6).2.2 i hlt).2.1, hpe]
      by_cases c0 : pD L S m - w = 0
      · have hr2 := rM_low0 hr hG' hm6 hlt (iI (pD L S m - w))
        have e4 : lowS (sOff L S y w m) m i w = dropS (sOff L S y w m) m i := by unfold lowS; rw [hpe, if_neg (by omega)]
        rw [← e4, ← e3] at hr2
        have ht := p_takeOut2 (u := setND u d a b c) (a := a) (b := b) (c := upd c (15 * m + 3 * i + 1) (iI (pD L S m - w))) hm6 h5 (hr m hm6).2.1 hlt
        obtain ⟨b', c', mo, sz, pi, f1, f2⟩ := ih (m + 1) a _ _ (by omega) hr2
        refine ⟨b', c', mo, sz, pi, (lpx_l ?_).trans f1, f2⟩
        show f_X4_setOff_74 x1 _ _ _ _ = _
        unfold f_X4_setOff_74 nm
        rw [if_neg (by (first | omega | (simp (disch := omega) only [iI_le, iI_lt, iI_eq, iI_add, iI_sub, iI_mul, iI_neg, zm1, zm2, zm3, zm4, zm5, zm6, z0, z1, z2, z3, z4, z5, z6, z7, z8, z9, z10, z11, z12, z13, z14, z15, z20, z21, z22, z23, z24, z25, z30, z31, z33, z46, z48, z49, z57, z60, z62, z63, z64, z65, z70, z74, z75, z90, z96, z99, z102, z114, z115, z116, z117, z118, z126, z128, z236, z729, z999, z9999, z46656, z65537, z1000000] <;> omega))), bn_i (p_has (hb y m) Iff.rfl), c01_t cc, if_neg n10, bn_i (p_dueNow (u := setND u d a b c) hr hG' hL hL2 hm6), hd, bn_i p_at, ixM, ck_N (by omega) (by omega), cl_N (by omega)]
        dsimp only
        rw [hrow, iI_sub, bn_i p_at, ixM, ck_N (by omega) (by omega), cl_N (by omega), if_pos (by rw [upd_s, c0, z0]), bn_i ht, iI_s (m)]
      · have hr2 := rM_setPe hr hG' hm6 hlt (pD L S m - w)
        have e4 : lowS (sOff L S y w m) m i w = setPe (sOff L S y w m) m i (pD L S m - w) := by unfold lowS; rw [hpe, if_pos (by omega)]
        rw [← e4, ← e3] at hr2
        obtain ⟨b', c', mo, sz, pi, f1, f2⟩ := ih (m + 1) a _ _ (by omega) hr2
        refine ⟨b', c', mo, sz, pi, (lpx_l ?_).trans f1, f2⟩
        show f_X4_setOff_74 x1 _ _ _ _ = _
        unfold f_X4_setOff_74 nm
        rw [if_neg (by (first | omega | (simp (disch := omega) only [iI_le, iI_lt, iI_eq, iI_add, iI_sub, iI_mul, iI_neg, zm1, zm2, zm3, zm4, zm5, zm6, z0, z1, z2, z3, z4, z5, z6, z7, z8, z9, z10, z11, z12, z13, z14, z15, z20, z21, z22, z23, z24, z25, z30, z31, z33, z46, z48, z49, z57, z60, z62, z63, z64, z65, z70, z74, z75, z90, z96, z99, z102, z114, z115, z116, z117, z118, z126, z128, z236, z729, z999, z9999, z46656, z65537, z1000000] <;> omega))), bn_i (p_has (hb y m) Iff.rfl), c01_t cc, if_neg n10, bn_i (p_dueNow (u := setND u d a b c) hr hG' hL hL2 hm6), hd, bn_i p_at, ixM, ck_N (by omega) (by omega), cl_N (by omega)]
        dsimp only
        rw [hrow, iI_sub, bn_i p_at, ixM, ck_N (by omega) (by omega), cl_N (by omega), if_neg (by rw [upd_s]; (first | omega | (simp (disch := omega) only [iI_le, iI_lt, iI_eq, iI_add, iI_sub, iI_mul, iI_neg, zm1, zm2, zm3, zm4, zm5, zm6, z0, z1, z2, z3, z4, z5, z6, z7, z8, z9, z10, z11, z12, z13, z14, z15, z20, z21, z22, z23, z24, z25, z30, z31, z33, z46, z48, z49, z57, z60, z62, z63, z64, z65, z70, z74, z75, z90, z96, z99, z102, z114, z115, z116, z117, z118, z126, z128, z236, z729, z999, z9999, z46656, z65537, z1000000] <;> omega))), iI_s (m)]
    · have e3 : sOff L S y w (m + 1) = sOff L S y w m := by rw [sOff_s, if_neg cc]
      rw [← e3] at hr
      obtain ⟨b', c', mo, sz, pi, f1, f2⟩ := ih (m + 1) a b c (by omega) hr
      refine ⟨b', c', mo, sz, pi, (lpx_l ?_).trans f1, f2⟩
      show f_X4_setOff_74 x1 _ _ _ _ = _
      unfold f_X4_setOff_74 nm
      rw [if_neg (by (first | omega | (simp (disch := omega) only [iI_le, iI_lt, iI_eq, iI_add, iI_sub, iI_mul, iI_neg, zm1, zm2, zm3, zm4, zm5, zm6, z0, z1, z2, z3, z4, z5, z6, z7, z8, z9, z10, z11, z12, z13, z14, z15, z20, z21, z22, z23, z24, z25, z30, z31, z33, z46, z48, z49, z57, z60, z62, z63, z64, z65, z70, z74, z75, z90, z96, z99, z102, z114, z115, z116, z117, z118, z126, z128, z236, z729, z999, z9999, z46656, z65537, z1000000] <;> omega))), bn_i (p_has (hb y m) Iff.rfl), c01_f cc, if_pos rfl, iI_s (m)]
theorem case18 {N : Nat} {st : LSt} (h : Rel N st) (a1 : Int32) : ∃ st', ls_18 st a1 = some st' ∧ Rel (N + 1) st' := by
  obtain ⟨F, hv, hu, hG, hp, hk⟩ := id h
  obtain ⟨x, hx, rfl⟩ := iI_ex a1
  unfold ls_18 f_X3_setOff f_X4_setOff f_X4_setOff_0 nm
  rw [bn_i (p_isMan hx), bn_i (p_mMan hx)]
  by_cases c1 : 0 ≤ x ∧ x < 6
  · obtain ⟨m, rfl⟩ := Int.eq_ofNat_of_zero_le c1.1
    have hm : m < 6 := by omega
    obtain ⟨a, b, c, e, hn⟩ := p_mringOf hu.1 hG.1 hu.2.1 hG.2.1 hm
    rw [b01_t c1, if_neg n10, if_neg n10, bn_i (p_ringOf hv.1 hG.1 hv.2.1 hG.2.1 hm), bn_i e]
    dsimp only
    have hq : ringF F.2.1 F.1 m 6 0 m = -6 ∨ ∃ y, y < 64 ∧ ringF F.2.1 F.1 m 6 0 m = nI y ∧ (∃ k, k < 6 ∧ hb y k) ∧ ∀ k, k < 6 → hb y k → 0 < hg F.1 k := ringF_ok hG.1 6 m 0 hm (by omega) (fun k q1 q2 => absurd q2 (hb_06 k q1))
    rcases hq with hq | ⟨y, hy, hq, ⟨k0, hk0, hb0⟩, hke⟩
    · rw [hq, if_pos rfl, if_neg (by decide), bn_i rfl, bn_i (show rnx _ (some (Sum.inr _)) = some _ from rfl), if_pos rfl]
      exact ⟨_, rfl, F, hv, hu, gF_up hG, hp, rK_up hk⟩
    · have hrg := rF_rng (L := F.2.1) hG.1 hke 6 (by omega)
      have hw : 0 ≤ rF F.2.1 F.1 y 6 ∧ rF F.2.1 F.1 y 6 ≤ 9999 := by
        have := hrg.2.2 k0 hk0 hb0
        have := pD_rng (L := F.2.1) hG.1 hk0 (hke k0 hk0 hb0)
        omega
      obtain ⟨vh, vl, vp, vd, s1, s2⟩ := p_setOffDues hv.1 hG.1 hv.2.1 hG.2.1 hy hke hw
      have t1 := so_m1 (u := setND st.2.2.2.2.2.2.2.2 st.2.2.2.2.2.2.2.2.2.2.1 a b c) hn hG.1 hu.2.1 hG.2.1 hke (iI m) 6 0 (by omega)
      obtain ⟨b', c', mo, sz, pi, t2, t3⟩ := so_m2 (u := st.2.2.2.2.2.2.2.2) hG.1 hG.2.1 hw hke hrg.2.2 hu.2.1 st.2.2.2.2.2.2.2.2.2.2.1 (iI m) 6 0 a b c (by omega) hn
      have t4 : rnx (st_X4_setOff (iI m)) (some (.inl (.inl (setND st.2.2.2.2.2.2.2.2 st.2.2.2.2.2.2.2.2.2.2.1 a b c, iI y, 1000000, 0)))) = some (iI (rF F.2.1 F.1 y 6), setB (setND st.2.2.2.2.2.2.2.2 st.2.2.2.2.2.2.2.2.2.2.1 a b' c') st.2.2.2.2.2.2.2.2.2.2.1 mo sz pi) := t1.trans t2
      rw [hq, ← iI_nat, if_neg (by (first | omega | (simp (disch := omega) only [iI_le, iI_lt, iI_eq, iI_add, iI_sub, iI_mul, iI_neg, zm1, zm2, zm3, zm4, zm5, zm6, z0, z1, z2, z3, z4, z5, z6, z7, z8, z9, z10, z11, z12, z13, z14, z15, z20, z21, z22, z23, z24, z25, z30, z31, z33, z46, z48, z49, z57, z60, z62, z63, z64, z65, z70, z74, z75, z90, z96, z99, z102, z114, z115, z116, z117, z118, z126, z128, z236, z729, z999, z9999, z46656, z65537, z1000000] <;> omega))), if_pos (by (first | omega | (simp (disch := omega) only [iI_le, iI_lt, iI_eq, iI_add, iI_sub, iI_mul, iI_neg, zm1, zm2, zm3, zm4, zm5, zm6, z0, z1, z2, z3, z4, z5, z6, z7, z8, z9, z10, z11, z12, z13, z14, z15, z20, z21, z22, z23, z24, z25, z30, z31, z33, z46, z48, z49, z57, z60, z62, z63, z64, z65, z70, z74, z75, z90, z96, z99, z102, z114, z115, z116, z117, z118, z126, z128, z236, z729, z999, z9999, z46656, z65537, z1000000] <;> omega))), bn_i s1, t4, bn_i rfl, bn_i rfl, if_pos rfl]
      refine ⟨_, rfl, (sOff F.2.1 F.1 y (rF F.2.1 F.1 y 6) 6, F.2), ⟨s2, hv.2⟩, ⟨t3, hu.2⟩, ⟨gd_up (gd_sOff hG.1 hw.1 hke 6 (by omega)) (by omega), (gF_up hG).2⟩, hp, rK_up hk⟩
  · rw [b01_f c1, if_pos rfl, if_pos rfl, bn_i rfl, bn_i (show rnx _ (some (Sum.inr _)) = some _ from rfl), if_pos rfl]
    exact ⟨_, rfl, Rel_up h⟩
