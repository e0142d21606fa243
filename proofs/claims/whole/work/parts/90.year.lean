/-! YEARS -/
def sumN (f : Nat → Int) : Nat → Int
  | 0 => 0
  | n + 1 => sumN f n + f n
/-- as many payings of a man as can be, n at most -/
noncomputable def payN (L : Int) : Nat → SV → Nat → SV × Nat
  | 0, S, _ => (S, 0)
  | n + 1, S, m => if 0 < hg S m ∧ penD L S m ≤ mon S m then ((payN L n (payS L S m) m).1, (payN L n (payS L S m) m).2 + 1) else (S, 0)
theorem payN_y {L : Int} {n : Nat} {S : SV} {m : Nat} (h : 0 < hg S m ∧ penD L S m ≤ mon S m) : payN L (n + 1) S m = ((payN L n (payS L S m) m).1, (payN L n (payS L S m) m).2 + 1) := if_pos h
theorem payN_n {L : Int} {n : Nat} {S : SV} {m : Nat} (h : ¬ (0 < hg S m ∧ penD L S m ≤ mon S m)) : payN L n S m = (S, 0) := by
  cases n with
  | zero => rfl
  | succ n => exact if_neg h
theorem hg_pay {L : Int} {S : SV} {m : Nat} : hg (payS L S m) m = hg S m - 1 := by
  show (if m = m then _ else _) = _
  rw [if_pos rfl]
  rfl
theorem gd_payN {B L : Int} {m : Nat} (hm : m < 6) : ∀ (n : Nat) (S : SV), gd B S → gd B (payN L n S m).1 := by
  intro n
  induction n with
  | zero => intro S h; exact h
  | succ n ih =>
    intro S h
    by_cases c : 0 < hg S m ∧ penD L S m ≤ mon S m
    · rw [payN_y c]; exact ih _ (gd_pay h hm c.1 c.2)
    · rw [payN_n c]; exact h
/-- a valley that is tried: snapshot, law, rate -/
def tV (v : VS) (S : SV) (L r : Int) : Prop := rV v S ∧ v.2.2.2.2.2.2.2.2.2.1 = iI L ∧ v.2.2.2.2.2.2.2.2.2.2 = iI r
abbrev pasV (v : VS) : VS := (v.1, v.2.1, v.2.2.1, pdP v.2.2.2.1 v.2.1 v.2.2.2.2.2.2.2.2.2.2 30, v.2.2.2.2.1, v.2.2.2.2.2.1, v.2.2.2.2.2.2.1, v.2.2.2.2.2.2.2.1, v.2.2.2.2.2.2.2.2.1 + 1, v.2.2.2.2.2.2.2.2.2)
theorem tV_pass {v : VS} {S : SV} {L r B : Int} (hv : tV v S L r) (hG : gd B S) (hr2 : 0 ≤ r ∧ r ≤ 9) : tV (pasV v) (passS r S) L r := ⟨rV_pass hv.1 hG hv.2.2 hr2 _, hv.2.1, hv.2.2⟩
theorem y_in {B L r : Int} (hB : B ≤ 2000000) (hL2 : 0 ≤ L ∧ L ≤ 2) (hr2 : 0 ≤ r ∧ r ≤ 9) {m : Nat} (hm : m < 6) (x1 x2 x : Int32) (day : Nat) : ∀ (n k : Nat) (v : VS) (S : SV) (p : Nat), k + n = 5 → tV v S L r → gd B S → ∃ v', lpx (st_X3_liveYear x1 x2) (.inr (v, x, iI p, iI day, iI m, iI k)) = lpx (st_X3_liveYear x1 x2) (.inl (v', x, iI ((p + (payN L n S m).2 : Nat) : Int), iI ((day + 1 : Nat) : Int))) ∧ tV v' (passS r (payN L n S m).1) L r := by
  intro n
  induction n with
  | zero =>
    intro k v S p hk hv hG
    refine ⟨pasV v, lpx_l ?_, tV_pass hv hG hr2⟩
    show f_X3_liveYear_62 x1 x2 _ _ _ _ _ _ = _
    unfold f_X3_liveYear_62 f_X3_liveYear_89 nm
    rw [if_pos (by (first | omega | (simp (disch := omega) only [iI_le, iI_lt, iI_eq, iI_add, iI_sub, iI_mul, iI_neg, z0, z1, z2, z3, z4, z5, z6, z7, z8, z9, z10, z11, z12, z13, z14, z15, z20, z21, z22, z23, z24, z25, z30, z31, z33, z46, z48, z49, z57, z60, z62, z63, z64, z65, z70, z74, z75, z90, z96, z99, z102, z114, z115, z116, z117, z118, z126, z128, z236, z729, z999, z9999, z46656, z65537, z1000000] <;> omega))), bn_i (p_passDay v), iI_s (day)]
    rfl
  | succ n ih =>
    intro k v S p hk hv hG
    by_cases c : 0 < hg S m ∧ penD L S m ≤ mon S m
    · obtain ⟨mo, h, l, q, d, e1, e2⟩ := p_repay hv.1 hG hB hv.2.1 hL2 hm c.1 c.2
      obtain ⟨v', f1, f2⟩ := ih (k + 1) (mo, h, l, q, d, v.2.2.2.2.2) (payS L S m) (p + 1) (by omega) ⟨e2, hv.2.1, hv.2.2⟩ (gd_pay hG hm c.1 c.2)
      refine ⟨v', (lpx_l ?_).trans (f1.trans ?_), by rw [payN_y c]; exact f2⟩
      · show f_X3_liveYear_62 x1 x2 _ _ _ _ _ _ = _
        unfold f_X3_liveYear_62 nm
        rw [if_neg (by (first | omega | (simp (disch := omega) only [iI_le, iI_lt, iI_eq, iI_add, iI_sub, iI_mul, iI_neg, z0, z1, z2, z3, z4, z5, z6, z7, z8, z9, z10, z11, z12, z13, z14, z15, z20, z21, z22, z23, z24, z25, z30, z31, z33, z46, z48, z49, z57, z60, z62, z63, z64, z65, z70, z74, z75, z90, z96, z99, z102, z114, z115, z116, z117, z118, z126, z128, z236, z729, z999, z9999, z46656, z65537, z1000000] <;> omega))), bn_i e1, if_pos rfl, iI_s (p), iI_s (k)]
      · rw [payN_y c, show p + 1 + (payN L n (payS L S m) m).2 = p + ((payN L n (payS L S m) m).2 + 1) by omega]
    · rw [payN_n c]
      refine ⟨pasV v, lpx_l ?_, tV_pass hv hG hr2⟩
      show f_X3_liveYear_62 x1 x2 _ _ _ _ _ _ = _
      unfold f_X3_liveYear_62 f_X3_liveYear_89 nm
      rw [if_neg (by (first | omega | (simp (disch := omega) only [iI_le, iI_lt, iI_eq, iI_add, iI_sub, iI_mul, iI_neg, z0, z1, z2, z3, z4, z5, z6, z7, z8, z9, z10, z11, z12, z13, z14, z15, z20, z21, z22, z23, z24, z25, z30, z31, z33, z46, z48, z49, z57, z60, z62, z63, z64, z65, z70, z74, z75, z90, z96, z99, z102, z114, z115, z116, z117, z118, z126, z128, z236, z729, z999, z9999, z46656, z65537, z1000000] <;> omega)))]
      by_cases c0 : hg S m = 0
      · rw [bn_i (p_repay0 hv.1 hG hv.2.1 hL2 hm c0), if_neg (show ¬ (3 : Int32) = 0 by decide), bn_i (p_passDay v), iI_s (day)]
        rfl
      · rw [bn_i (p_repay4 hv.1 hG hB hv.2.1 hL2 hm (by omega) (by omega)), if_neg (show ¬ (4 : Int32) = 0 by decide), bn_i (p_passDay v), iI_s (day)]
        rfl
noncomputable def yearS (L r : Int) : Nat → SV → Int → Nat → SV × Nat
  | 0, S, _, p => (S, p)
  | n + 1, S, x, p => yearS L r n (passS r (payN L 5 (setMon S ((75 * x + 74) % 65537 % 6).toNat (mon S ((75 * x + 74) % 65537 % 6).toNat + 1 + (75 * x + 74) % 65537 / 6 % 9)) ((75 * x + 74) % 65537 % 6).toNat).1) ((75 * x + 74) % 65537) (p + (payN L 5 (setMon S ((75 * x + 74) % 65537 % 6).toNat (mon S ((75 * x + 74) % 65537 % 6).toNat + 1 + (75 * x + 74) % 65537 / 6 % 9)) ((75 * x + 74) % 65537 % 6).toNat).2)
theorem gd_earn {B : Int} {S : SV} (h : gd B S) {m : Nat} (hm : m < 6) {z C : Int} (hz : mon S m ≤ z) (hC : B + (z - mon S m) ≤ C) : gd C (setMon S m z) := by
  have h0 := (h.1 m hm).1
  refine ⟨fun x hx => ⟨?_, (h.1 x hx).2.1, (h.1 x hx).2.2⟩, ?_⟩
  · have := (h.1 x hx).1
    show 0 ≤ (if x = m then z else mon S x)
    split <;> omega
  · rw [sum6_set hm]
    have := h.2
    omega
theorem y_draw {x : Int} (hx : 0 ≤ x ∧ x < 65537) : ((((75 : Int32) * iI x) + (74 : Int32)) - (((75 : Int32) * iI x) + (74 : Int32)) / (65537 : Int32) * (65537 : Int32)) = iI ((75 * x + 74) % 65537) := by
  rw [z75, z74, z65537, iI_mul, iI_add, iI_rem (by omega) (by omega) (by omega) (by omega)]
theorem y_man {x : Int} (hx : 0 ≤ x ∧ x < 65537) : (iI x - iI x / (6 : Int32) * (6 : Int32)) = iI ((x % 6).toNat : Int) := by
  rw [z6, iI_rem (by omega) (by omega) (by omega) (by omega)]
  congr 1
  omega
theorem y_earn {x : Int} (hx : 0 ≤ x ∧ x < 65537) : ((iI x / (6 : Int32)) - (iI x / (6 : Int32)) / (9 : Int32) * (9 : Int32)) = iI (x / 6 % 9) := by
  rw [z6, z9, iI_div (by omega) (by omega) (by omega) (by omega), iI_rem (by omega) (by omega) (by omega) (by omega)]
theorem p_liveYear {L r : Int} (hL2 : 0 ≤ L ∧ L ≤ 2) (hr2 : 0 ≤ r ∧ r ≤ 9) {N : Nat} (hN : N ≤ 99) (x1 : Int32) : ∀ (n day : Nat) (v : VS) (S : SV) (x : Int) (p : Nat) (B : Int), day + n = N → 0 ≤ x ∧ x < 65537 → B ≤ 1000000 + 9 * day → tV v S L r → gd B S → ∃ v', lpx (st_X3_liveYear x1 (iI N)) (.inl (v, iI x, iI p, iI day)) = some (iI ((yearS L r n S x p).2 : Int), v') ∧ tV v' (yearS L r n S x p).1 L r ∧ gd 2000000 (yearS L r n S x p).1 := by
  intro n
  induction n with
  | zero =>
    intro day v S x p B hd hx hB hv hG
    refine ⟨v, lpx_r ?_, hv, gd_up hG (by omega)⟩
    show f_X3_liveYear_8 x1 _ _ _ _ _ = _
    unfold f_X3_liveYear_8
    rw [if_pos (by (first | omega | (simp (disch := omega) only [iI_le, iI_lt, iI_eq, iI_add, iI_sub, iI_mul, iI_neg, z0, z1, z2, z3, z4, z5, z6, z7, z8, z9, z10, z11, z12, z13, z14, z15, z20, z21, z22, z23, z24, z25, z30, z31, z33, z46, z48, z49, z57, z60, z62, z63, z64, z65, z70, z74, z75, z90, z96, z99, z102, z114, z115, z116, z117, z118, z126, z128, z236, z729, z999, z9999, z46656, z65537, z1000000] <;> omega)))]
    rfl
  | succ n ih =>
    intro day v S x p B hd hx hB hv hG
    have hx' : 0 ≤ (75 * x + 74) % 65537 ∧ (75 * x + 74) % 65537 < 65537 := by omega
    have hm : ((75 * x + 74) % 65537 % 6).toNat < 6 := by omega
    have hG1 : gd (B + 9) (setMon S ((75 * x + 74) % 65537 % 6).toNat (mon S ((75 * x + 74) % 65537 % 6).toNat + 1 + (75 * x + 74) % 65537 / 6 % 9)) := gd_earn hG hm (by omega) (by omega)
    have hv1 := rV_setMon hv.1 (m := ((75 * x + 74) % 65537 % 6).toNat) (mon S ((75 * x + 74) % 65537 % 6).toNat + 1 + (75 * x + 74) % 65537 / 6 % 9)
    obtain ⟨v1, e1, e2⟩ := y_in (B := B + 9) (by omega) hL2 hr2 hm x1 (iI N) (iI ((75 * x + 74) % 65537)) day 5 0 _ _ p (by omega) ⟨hv1, hv.2.1, hv.2.2⟩ hG1
    obtain ⟨v2, f1, f2, f3⟩ := ih (day + 1) v1 _ ((75 * x + 74) % 65537) _ (B + 9) (by omega) hx' (by omega) e2 (gd_pass (gd_payN hm 5 _ hG1) hr2.1)
    refine ⟨v2, (lpx_l ?_).trans (e1.trans f1), f2, f3⟩
    show f_X3_liveYear_8 x1 _ _ _ _ _ = _
    unfold f_X3_liveYear_8 nm
    dsimp only
    rw [if_neg (by (first | omega | (simp (disch := omega) only [iI_le, iI_lt, iI_eq, iI_add, iI_sub, iI_mul, iI_neg, z0, z1, z2, z3, z4, z5, z6, z7, z8, z9, z10, z11, z12, z13, z14, z15, z20, z21, z22, z23, z24, z25, z30, z31, z33, z46, z48, z49, z57, z60, z62, z63, z64, z65, z70, z74, z75, z90, z96, z99, z102, z114, z115, z116, z117, z118, z126, z128, z236, z729, z999, z9999, z46656, z65537, z1000000] <;> omega))), y_draw hx, y_man hx', y_earn hx', bn_i (p_purseOf hv.1 hm), bn_i (p_fillPurse hm _), z1, iI_add, iI_add]
    rfl
theorem p_allDebts {v : VS} {S : SV} (hr : rV v S) : f_X2_allDebts v = some (iI (sumN (fun m => hg S m) 6)) := by
  have loop : ∀ (n m : Nat), m + n = 6 → lpx (st_X2_allDebts v) (iI (sumN (fun m => hg S m) m), iI m) = some (iI (sumN (fun m => hg S m) 6)) := by
    intro n
    induction n with
    | zero =>
      intro m hm
      have : m = 6 := by omega
      subst this
      refine lpx_r ?_
      show f_X2_allDebts_4 v _ _ = _
      unfold f_X2_allDebts_4
      rw [if_pos (by (first | omega | (simp (disch := omega) only [iI_le, iI_lt, iI_eq, iI_add, iI_sub, iI_mul, iI_neg, z0, z1, z2, z3, z4, z5, z6, z7, z8, z9, z10, z11, z12, z13, z14, z15, z20, z21, z22, z23, z24, z25, z30, z31, z33, z46, z48, z49, z57, z60, z62, z63, z64, z65, z70, z74, z75, z90, z96, z99, z102, z114, z115, z116, z117, z118, z126, z128, z236, z729, z999, z9999, z46656, z65537, z1000000] <;> omega)))]
    | succ n ih =>
      intro m hm
      refine (lpx_l ?_).trans (ih (m + 1) (by omega))
      show f_X2_allDebts_4 v _ _ = _
      unfold f_X2_allDebts_4 nm
      rw [if_neg (by (first | omega | (simp (disch := omega) only [iI_le, iI_lt, iI_eq, iI_add, iI_sub, iI_mul, iI_neg, z0, z1, z2, z3, z4, z5, z6, z7, z8, z9, z10, z11, z12, z13, z14, z15, z20, z21, z22, z23, z24, z25, z30, z31, z33, z46, z48, z49, z57, z60, z62, z63, z64, z65, z70, z74, z75, z90, z96, z99, z102, z114, z115, z116, z117, z118, z126, z128, z236, z729, z999, z9999, z46656, z65537, z1000000] <;> omega))), ck_N (by omega) (by omega), cl_N (by omega), (hr m (by omega)).2.1, iI_add, iI_s (m)]
      rfl
  exact loop 6 0 (by omega)
theorem p_allPence {v : VS} {S : SV} {B : Int} (hr : rV v S) (hG : gd B S) : f_X2_allPence v = some (iI (sumN (fun m => sumN (pe S m) (hg S m)) 6)) := by
  have inner : ∀ (m : Nat), m < 6 → ∀ (n k : Nat) (s : Int), k + n = hg S m → lpx (st_X2_allPence v) (.inr (iI (s + sumN (pe S m) k), iI m, iI k)) = lpx (st_X2_allPence v) (.inl (iI (s + sumN (pe S m) (hg S m)), iI ((m + 1 : Nat) : Int))) := by
    intro m hm n
    have h5 := (hG.1 m hm).2.1
    induction n with
    | zero =>
      intro k s hk
      have : k = hg S m := by omega
      subst this
      refine lpx_l ?_
      show f_X2_allPence_12 v _ _ _ = _
      unfold f_X2_allPence_12 nm
      rw [bn_i (p_debtsOf hr hm), if_pos (by (first | omega | (simp (disch := omega) only [iI_le, iI_lt, iI_eq, iI_add, iI_sub, iI_mul, iI_neg, z0, z1, z2, z3, z4, z5, z6, z7, z8, z9, z10, z11, z12, z13, z14, z15, z20, z21, z22, z23, z24, z25, z30, z31, z33, z46, z48, z49, z57, z60, z62, z63, z64, z65, z70, z74, z75, z90, z96, z99, z102, z114, z115, z116, z117, z118, z126, z128, z236, z729, z999, z9999, z46656, z65537, z1000000] <;> omega))), iI_s (m)]
    | succ n ih =>
      intro k s hk
      refine (lpx_l ?_).trans (ih (k + 1) s (by omega))
      show f_X2_allPence_12 v _ _ _ = _
      unfold f_X2_allPence_12 nm
      rw [bn_i (p_debtsOf hr hm), if_neg (by (first | omega | (simp (disch := omega) only [iI_le, iI_lt, iI_eq, iI_add, iI_sub, iI_mul, iI_neg, z0, z1, z2, z3, z4, z5, z6, z7, z8, z9, z10, z11, z12, z13, z14, z15, z20, z21, z22, z23, z24, z25, z30, z31, z33, z46, z48, z49, z57, z60, z62, z63, z64, z65, z70, z74, z75, z90, z96, z99, z102, z114, z115, z116, z117, z118, z126, z128, z236, z729, z999, z9999, z46656, z65537, z1000000] <;> omega))), bn_i (p_penceOf hr hG hm (by omega)), iI_add, iI_s (k), Int.add_assoc]
      rfl
  have loop : ∀ (n m : Nat), m + n = 6 → lpx (st_X2_allPence v) (.inl (iI (sumN (fun m => sumN (pe S m) (hg S m)) m), iI m)) = some (iI (sumN (fun m => sumN (pe S m) (hg S m)) 6)) := by
    intro n
    induction n with
    | zero =>
      intro m hm
      have : m = 6 := by omega
      subst this
      refine lpx_r ?_
      show f_X2_allPence_4 v _ _ = _
      unfold f_X2_allPence_4
      rw [if_pos (by (first | omega | (simp (disch := omega) only [iI_le, iI_lt, iI_eq, iI_add, iI_sub, iI_mul, iI_neg, z0, z1, z2, z3, z4, z5, z6, z7, z8, z9, z10, z11, z12, z13, z14, z15, z20, z21, z22, z23, z24, z25, z30, z31, z33, z46, z48, z49, z57, z60, z62, z63, z64, z65, z70, z74, z75, z90, z96, z99, z102, z114, z115, z116, z117, z118, z126, z128, z236, z729, z999, z9999, z46656, z65537, z1000000] <;> omega)))]
    | succ n ih =>
      intro m hm
      have hi := inner m (by omega) (hg S m) 0 (sumN (fun m => sumN (pe S m) (hg S m)) m) (by omega)
      refine ((lpx_l ?_).trans hi).trans (ih (m + 1) (by omega))
      show f_X2_allPence_4 v _ _ = _
      unfold f_X2_allPence_4
      rw [if_neg (by (first | omega | (simp (disch := omega) only [iI_le, iI_lt, iI_eq, iI_add, iI_sub, iI_mul, iI_neg, z0, z1, z2, z3, z4, z5, z6, z7, z8, z9, z10, z11, z12, z13, z14, z15, z20, z21, z22, z23, z24, z25, z30, z31, z33, z46, z48, z49, z57, z60, z62, z63, z64, z65, z70, z74, z75, z90, z96, z99, z102, z114, z115, z116, z117, z118, z126, z128, z236, z729, z999, z9999, z46656, z65537, z1000000] <;> omega)))]
      show _ = some (Sum.inl (Sum.inr (iI (_ + 0), _, _)))
      rw [Int.add_zero]
      rfl
  exact loop 6 0 (by omega)
