/-! SOON in the reference -/
abbrev setC (u : MS) (T P C : AI) : MS := (u.1, u.2.1, u.2.2.1, u.2.2.2.1, u.2.2.2.2.1, u.2.2.2.2.2.1, u.2.2.2.2.2.2.1, u.2.2.2.2.2.2.2.1, u.2.2.2.2.2.2.2.2.1, u.2.2.2.2.2.2.2.2.2.1, u.2.2.2.2.2.2.2.2.2.2.1, u.2.2.2.2.2.2.2.2.2.2.2.1, u.2.2.2.2.2.2.2.2.2.2.2.2.1, u.2.2.2.2.2.2.2.2.2.2.2.2.2.1, u.2.2.2.2.2.2.2.2.2.2.2.2.2.2.1, u.2.2.2.2.2.2.2.2.2.2.2.2.2.2.2.1, T, P, C, u.2.2.2.2.2.2.2.2.2.2.2.2.2.2.2.2.2.2.2)
abbrev b6 : Nat → Nat := fun _ => 6
theorem b6p : ∀ m, 0 < b6 m := fun _ => by show 0 < 6; omega
theorem wb6 : ∀ m, m < 7 → 0 < wt b6 m ∧ wt b6 m ≤ 46656 := by decide +kernel
theorem w66 : wt b6 6 = 46656 := by decide +kernel
def pwOk (P : AI) : Prop := ∀ m, m < 7 → P m = iI (wt b6 m)
theorem dig6 (x : Nat) {m : Nat} (hm : m < 6) : dig b6 x m = x / wt b6 m % 6 := by unfold dig; rw [if_pos hm]
theorem dig5 (x m : Nat) : dig b6 x m < 6 := dig_lt b6p x
theorem p_paidOf {u : MS} {T P C : AI} (hP : pwOk P) {x m : Nat} (hx : x < 46657) (hm : m < 6) : f_X4_paidOf (setC u T P C) (iI x) (iI m) = some (iI ((dig b6 x m : Nat) : Int)) := by
  have hw := wb6 m (by omega)
  have hpm := hP m (by omega)
  have hd1 : ((x / wt b6 m : Nat) : Int) = (x : Int) / (wt b6 m : Int) := Int.natCast_ediv _ _
  have hd2 := Nat.div_le_self x (wt b6 m)
  have hd3 : 0 ≤ (x : Int) / (wt b6 m : Int) := by rw [← hd1]; exact Int.natCast_nonneg _
  unfold f_X4_paidOf
  dsimp only
  rw [ck_N (by omega) (by omega), cl_N (by omega), hpm, dz_i (by (first | omega | (simp (disch := omega) only [iI_le, iI_lt, iI_eq, iI_add, iI_sub, iI_mul, iI_neg, zm1, zm2, zm3, zm4, zm5, zm6, z0, z1, z2, z3, z4, z5, z6, z7, z8, z9, z10, z11, z12, z13, z14, z15, z20, z21, z22, z23, z24, z25, z30, z31, z33, z46, z48, z49, z57, z60, z62, z63, z64, z65, z70, z74, z75, z90, z96, z99, z102, z114, z115, z116, z117, z118, z126, z128, z236, z729, z999, z9999, z46656, z65537, z1000000] <;> omega))), iI_div (by omega) (by omega) (by omega) (by omega), z6, iI_rem (by omega) (by omega) (by omega) (by omega), dig6 x hm]
  congr 1
def psm (Q : QU) (i : Nat) (c : Nat → Nat) : Nat → Int
  | 0 => 0
  | m + 1 => psm Q i c m + flw Q i m (c m)
theorem p_moneyBy {u : MS} {T P C : AI} {L B : Int} {S : SV} (hu : rB u S) (hG : gd B S) (hT : ∀ m, m < 6 → ∀ t, t < hg S m → T (5 * m + t) = iI ((qk L (hg S m) (pe S m) t : Nat) : Int)) (hP : pwOk P) {x i : Nat} (hx : x < 46656) (hi : i < 6) (hc : okC (QS L S) (dig b6 x)) : f_X4_moneyBy (setC u T P C) (iI x) (iI i) = some (iI (mny (QS L S) (mon S) (dig b6 x) i)) := by
  have inner : ∀ (m : Nat), m < 6 → ∀ (j t : Nat) (z : Int), t + j = dig b6 x m → lpx (st_X4_moneyBy (setC u T P C) (iI x) (iI i)) (.inr (iI (z + flw (QS L S) i m t), iI m, iI t)) = lpx (st_X4_moneyBy (setC u T P C) (iI x) (iI i)) (.inl (iI (z + flw (QS L S) i m (dig b6 x m)), iI ((m + 1 : Nat) : Int))) := by
    intro m hm j
    have h5 := (hG.1 m hm).2.1
    have hcm : dig b6 x m ≤ hg S m := hc m hm
    induction j with
    | zero =>
      intro t z ht
      have : t = dig b6 x m := by omega
      subst this
      refine lpx_l ?_
      show f_X4_moneyBy_20 (setC u T P C) (iI x) (iI i) _ _ _ = _
      unfold f_X4_moneyBy_20 nm
      rw [bn_i (p_paidOf hP (by omega) hm), if_pos (by (first | omega | (simp (disch := omega) only [iI_le, iI_lt, iI_eq, iI_add, iI_sub, iI_mul, iI_neg, zm1, zm2, zm3, zm4, zm5, zm6, z0, z1, z2, z3, z4, z5, z6, z7, z8, z9, z10, z11, z12, z13, z14, z15, z20, z21, z22, z23, z24, z25, z30, z31, z33, z46, z48, z49, z57, z60, z62, z63, z64, z65, z70, z74, z75, z90, z96, z99, z102, z114, z115, z116, z117, z118, z126, z128, z236, z729, z999, z9999, z46656, z65537, z1000000] <;> omega))), iI_s (m)]
    | succ j ih =>
      intro t z ht
      obtain ⟨q1, q2⟩ := qk_ok L (hg S m) (pe S m) t (by omega)
      have hrow := (hu m hm).2.2 _ q1
      have hb := (hG.1 m hm).2.2 _ q1
      have hTt := hT m hm t (by omega)
      have el : ql (QS L S) m t = (ln S m (qk L (hg S m) (pe S m) t)).toNat := rfl
      have ep : qp (QS L S) m t = pe S m (qk L (hg S m) (pe S m) t) := rfl
      have ef : flw (QS L S) i m (t + 1) = flw (QS L S) i m t + ((if ql (QS L S) m t = i then qp (QS L S) m t else 0) - (if m = i then qp (QS L S) m t else 0)) := rfl
      generalize qk L (hg S m) (pe S m) t = k at *
      have tail : ∀ y : Int, f_X4_moneyBy_76 (setC u T P C) (iI x) (iI i) (iI m) (iI t) (iI ((15 * m + 3 * k : Nat) : Int)) (iI (z + flw (QS L S) i m t)) (iI y) = some (.inl (.inr (iI (z + flw (QS L S) i m t + y - (if m = i then pe S m k else 0)), iI m, iI ((t + 1 : Nat) : Int)))) := fun y => by
        unfold f_X4_moneyBy_76 nm
        dsimp only
        rw [iI_add, iI_s (t), iI_s (15 * m + 3 * k)]
        by_cases c : m = i
        · rw [if_pos (by rw [c]), if_pos c, ck_N (by omega) (by omega), cl_N (by omega), hrow.2.1, iI_sub]
        · rw [if_neg (by (first | omega | (simp (disch := omega) only [iI_le, iI_lt, iI_eq, iI_add, iI_sub, iI_mul, iI_neg, zm1, zm2, zm3, zm4, zm5, zm6, z0, z1, z2, z3, z4, z5, z6, z7, z8, z9, z10, z11, z12, z13, z14, z15, z20, z21, z22, z23, z24, z25, z30, z31, z33, z46, z48, z49, z57, z60, z62, z63, z64, z65, z70, z74, z75, z90, z96, z99, z102, z114, z115, z116, z117, z118, z126, z128, z236, z729, z999, z9999, z46656, z65537, z1000000] <;> omega))), if_neg c, z0, iI_sub]
      refine (lpx_l ?_).trans (ih (t + 1) z (by omega))
      show f_X4_moneyBy_20 (setC u T P C) (iI x) (iI i) _ _ _ = _
      unfold f_X4_moneyBy_20
      dsimp only
      rw [bn_i (p_paidOf hP (by omega) hm), if_neg (by (first | omega | (simp (disch := omega) only [iI_le, iI_lt, iI_eq, iI_add, iI_sub, iI_mul, iI_neg, zm1, zm2, zm3, zm4, zm5, zm6, z0, z1, z2, z3, z4, z5, z6, z7, z8, z9, z10, z11, z12, z13, z14, z15, z20, z21, z22, z23, z24, z25, z30, z31, z33, z46, z48, z49, z57, z60, z62, z63, z64, z65, z70, z74, z75, z90, z96, z99, z102, z114, z115, z116, z117, z118, z126, z128, z236, z729, z999, z9999, z46656, z65537, z1000000] <;> omega))), ix5, ck_N (by omega) (by omega), cl_N (by omega), hTt, bn_i p_at, ixA, ck_N (by omega) (by omega), cl_N (by omega), iI_s (15 * m + 3 * k), ck_N (by omega) (by omega), cl_N (by omega), ef, el, ep]
      by_cases c : (ln S m k).toNat = i
      · rw [if_pos (by rw [hrow.1]; congr 1; omega), hrow.2.1, tail, if_pos c]
        congr 6
        omega
      · rw [if_neg (by rw [hrow.1]; intro q; have := (iI_eq ⟨by omega, by omega⟩ ⟨by omega, by omega⟩).mp q; omega), z0, tail, if_neg c]
        congr 6
        omega
  have outer : ∀ (j m : Nat), m + j = 6 → lpx (st_X4_moneyBy (setC u T P C) (iI x) (iI i)) (.inl (iI (mon S i + psm (QS L S) i (dig b6 x) m), iI m)) = some (iI (mon S i + psm (QS L S) i (dig b6 x) 6)) := by
    intro j
    induction j with
    | zero =>
      intro m hm
      have : m = 6 := by omega
      subst this
      refine lpx_r ?_
      show f_X4_moneyBy_10 (setC u T P C) (iI x) (iI i) _ _ = _
      unfold f_X4_moneyBy_10
      rw [if_pos (by (first | omega | (simp (disch := omega) only [iI_le, iI_lt, iI_eq, iI_add, iI_sub, iI_mul, iI_neg, zm1, zm2, zm3, zm4, zm5, zm6, z0, z1, z2, z3, z4, z5, z6, z7, z8, z9, z10, z11, z12, z13, z14, z15, z20, z21, z22, z23, z24, z25, z30, z31, z33, z46, z48, z49, z57, z60, z62, z63, z64, z65, z70, z74, z75, z90, z96, z99, z102, z114, z115, z116, z117, z118, z126, z128, z236, z729, z999, z9999, z46656, z65537, z1000000] <;> omega)))]
    | succ j ih =>
      intro m hm
      have hin := inner m (by omega) (dig b6 x m) 0 (mon S i + psm (QS L S) i (dig b6 x) m) (by omega)
      refine ((lpx_l ?_).trans hin).trans (Eq.trans ?_ (ih (m + 1) (by omega)))
      · show f_X4_moneyBy_10 (setC u T P C) (iI x) (iI i) _ _ = _
        unfold f_X4_moneyBy_10
        rw [if_neg (by (first | omega | (simp (disch := omega) only [iI_le, iI_lt, iI_eq, iI_add, iI_sub, iI_mul, iI_neg, zm1, zm2, zm3, zm4, zm5, zm6, z0, z1, z2, z3, z4, z5, z6, z7, z8, z9, z10, z11, z12, z13, z14, z15, z20, z21, z22, z23, z24, z25, z30, z31, z33, z46, z48, z49, z57, z60, z62, z63, z64, z65, z70, z74, z75, z90, z96, z99, z102, z114, z115, z116, z117, z118, z126, z128, z236, z729, z999, z9999, z46656, z65537, z1000000] <;> omega)))]
        show _ = some (Sum.inl (Sum.inr (iI (_ + 0), _, _)))
        rw [Int.add_zero]
        rfl
      · rw [Int.add_assoc]
        rfl
  have h0 := outer 6 0 (by omega)
  have e1 : mny (QS L S) (mon S) (dig b6 x) i = mon S i + psm (QS L S) i (dig b6 x) 6 := by
    unfold mny sum6 psm psm psm psm psm psm psm
    dsimp only
    omega
  have e2 : mon S i + psm (QS L S) i (dig b6 x) 0 = mon S i := by
    show mon S i + 0 = mon S i
    omega
  rw [e2] at h0
  unfold f_X4_moneyBy f_X4_moneyBy_0 nm
  dsimp only
  rw [ck_N hi (by omega), cl_N (by omega), (hu i hi).1, e1]
  exact h0
/-- reached by some payings -/
def Rc (Q : QU) (mo : Nat → Int) (c : Nat → Nat) : Prop := ∃ n, rch Q mo n c
abbrev e6 (c : Nat → Nat) : Nat := enc b6 c 6
theorem Rc_6 {Q : QU} (hW : Wq Q) {mo : Nat → Int} {c : Nat → Nat} (h : Rc Q mo c) : (∀ m, m < 6 → c m < 6) ∧ (∀ m, 6 ≤ m → c m = 0) ∧ okC Q c := by
  obtain ⟨n, h⟩ := h
  exact ⟨fun m hm => by have := rch_le n c h m hm; have := (hW m hm).1; omega, rch_0 n c h, rch_le n c h⟩
theorem e6_lt {Q : QU} (hW : Wq Q) {mo : Nat → Int} {c : Nat → Nat} (h : Rc Q mo c) : e6 c < 46656 := by
  have := enc_lt (b := b6) 6 (Rc_6 hW h).1
  rw [w66] at this
  exact this
theorem e6_dig {Q : QU} (hW : Wq Q) {mo : Nat → Int} {c : Nat → Nat} (h : Rc Q mo c) : dig b6 (e6 c) = c := dig_encF b6p (Rc_6 hW h).1 (Rc_6 hW h).2.1
theorem dig_e6 {x : Nat} (h : x < 46656) : e6 (dig b6 x) = x := enc_dig b6p (by rw [w66]; exact h)
theorem e6_stp {c : Nat → Nat} {m : Nat} (hm : m < 6) : e6 (stp c m) = e6 c + wt b6 m := (enc_stp 6).1 hm
theorem Rc_stp {Q : QU} {mo : Nat → Int} {c : Nat → Nat} (h : Rc Q mo c) {m : Nat} (hm : m < 6) (hc : can Q mo c m) : Rc Q mo (stp c m) := by
  obtain ⟨n, h⟩ := h
  exact ⟨n + 1, c, m, h, hm, hc, rfl⟩
theorem Rc_0 (Q : QU) (mo : Nat → Int) : Rc Q mo (fun _ => 0) := ⟨0, rfl⟩
/-- marked when all codes below k have been left -/
def cm (Q : QU) (mo : Nat → Int) (k x : Nat) : Prop := x = 0 ∨ ∃ d m, Rc Q mo d ∧ m < 6 ∧ can Q mo d m ∧ e6 d < k ∧ x = e6 d + wt b6 m
theorem cm_R {Q : QU} (hW : Wq Q) {mo : Nat → Int} {x : Nat} (hx : x < 46656) : cm Q mo x x ↔ Rc Q mo (dig b6 x) := by
  constructor
  · rintro (h | ⟨d, m, h1, h2, h3, h4, h5⟩)
    · subst h
      have := e6_dig hW (Rc_0 Q mo)
      rw [show e6 (fun _ => 0) = 0 from enc_0 b6 6] at this
      rw [this]
      exact Rc_0 Q mo
    · have hR := Rc_stp h1 h2 h3
      have := e6_dig hW hR
      rw [e6_stp h2, ← h5] at this
      rw [this]
      exact hR
  · rintro ⟨n, h⟩
    cases n with
    | zero =>
      have h : dig b6 x = fun _ => 0 := h
      left
      have := dig_e6 hx
      rw [h, show e6 (fun _ => 0) = 0 from enc_0 b6 6] at this
      exact this.symm
    | succ n =>
      obtain ⟨d, m, h1, h2, h3, h4⟩ := h
      have := dig_e6 hx
      rw [h4, e6_stp h2] at this
      have hw := wb6 m (by omega)
      exact Or.inr ⟨d, m, ⟨n, h1⟩, h2, h3, by omega, this.symm⟩
theorem cm_skip {Q : QU} (hW : Wq Q) {mo : Nat → Int} {k : Nat} (h : ¬ Rc Q mo (dig b6 k)) (x : Nat) : cm Q mo (k + 1) x ↔ cm Q mo k x := by
  constructor
  · rintro (h' | ⟨d, m, h1, h2, h3, h4, h5⟩)
    · exact Or.inl h'
    · refine Or.inr ⟨d, m, h1, h2, h3, ?_, h5⟩
      rcases Nat.lt_or_ge (e6 d) k with q | q
      · exact q
      · exfalso
        have e : e6 d = k := by omega
        have := e6_dig hW h1
        rw [e] at this
        exact h (by rw [this]; exact h1)
  · rintro (h' | ⟨d, m, h1, h2, h3, h4, h5⟩)
    · exact Or.inl h'
    · exact Or.inr ⟨d, m, h1, h2, h3, by omega, h5⟩
theorem cm_leave {Q : QU} (hW : Wq Q) {mo : Nat → Int} {k : Nat} (hk : k < 46656) (h : Rc Q mo (dig b6 k)) (x : Nat) : cm Q mo (k + 1) x ↔ (cm Q mo k x ∨ ∃ m, m < 6 ∧ can Q mo (dig b6 k) m ∧ x = k + wt b6 m) := by
  constructor
  · rintro (h' | ⟨d, m, h1, h2, h3, h4, h5⟩)
    · exact Or.inl (Or.inl h')
    · rcases Nat.lt_or_ge (e6 d) k with q | q
      · exact Or.inl (Or.inr ⟨d, m, h1, h2, h3, q, h5⟩)
      · have e : e6 d = k := by omega
        have ed := e6_dig hW h1
        rw [e] at ed
        exact Or.inr ⟨m, h2, by rw [ed]; exact h3, by omega⟩
  · rintro ((h' | ⟨d, m, h1, h2, h3, h4, h5⟩) | ⟨m, h1, h2, h3⟩)
    · exact Or.inl h'
    · exact Or.inr ⟨d, m, h1, h2, h3, by omega, h5⟩
    · exact Or.inr ⟨dig b6 k, m, h, h1, h2, by rw [dig_e6 hk]; omega, by rw [dig_e6 hk]; exact h3⟩
/-- the least so far -/
def lst (Q : QU) (mo : Nat → Int) (a w k : Nat) (z : Nat) : Prop := (z = 1000000 ∧ ∀ c, Rc Q mo c → e6 c < k → ¬ w ≤ c a) ∨ (∃ c, Rc Q mo c ∧ e6 c < k ∧ w ≤ c a ∧ z = sN c ∧ ∀ c', Rc Q mo c' → e6 c' < k → w ≤ c' a → z ≤ sN c')
theorem lst_rng {Q : QU} (hW : Wq Q) {mo : Nat → Int} {a w k z : Nat} (h : lst Q mo a w k z) : z ≤ 1000000 := by
  rcases h with h | ⟨c, ⟨n, h1⟩, h2, h3, h4, h5⟩
  · omega
  · have := rch_sum n c h1
    have := rch_30 hW h1
    omega
theorem lst_skip {Q : QU} (hW : Wq Q) {mo : Nat → Int} {a w k z : Nat} (h : ¬ Rc Q mo (dig b6 k)) (hl : lst Q mo a w k z) : lst Q mo a w (k + 1) z := by
  have key : ∀ c, Rc Q mo c → e6 c < k + 1 → e6 c < k := fun c hc hk => by
    rcases Nat.lt_or_ge (e6 c) k with q | q
    · exact q
    · exfalso
      have e : e6 c = k := by omega
      have := e6_dig hW hc
      rw [e] at this
      exact h (by rw [this]; exact hc)
  rcases hl with ⟨h1, h2⟩ | ⟨c, h1, h2, h3, h4, h5⟩
  · exact Or.inl ⟨h1, fun c hc hk => h2 c hc (key c hc hk)⟩
  · exact Or.inr ⟨c, h1, by omega, h3, h4, fun c' q1 q2 q3 => h5 c' q1 (key c' q1 q2) q3⟩
theorem lst_leave {Q : QU} (hW : Wq Q) {mo : Nat → Int} {a w k z : Nat} (hk : k < 46656) (h : Rc Q mo (dig b6 k)) (hl : lst Q mo a w k z) : lst Q mo a w (k + 1) (if w ≤ dig b6 k a ∧ sN (dig b6 k) < z then sN (dig b6 k) else z) := by
  have key : ∀ c, Rc Q mo c → e6 c < k + 1 → e6 c < k ∨ c = dig b6 k := fun c hc hk => by
    rcases Nat.lt_or_ge (e6 c) k with q | q
    · exact Or.inl q
    · have e : e6 c = k := by omega
      have := e6_dig hW hc
      rw [e] at this
      exact Or.inr this.symm
  by_cases c1 : w ≤ dig b6 k a ∧ sN (dig b6 k) < z
  · rw [if_pos c1]
    refine Or.inr ⟨dig b6 k, h, by rw [dig_e6 hk]; omega, c1.1, rfl, fun c' q1 q2 q3 => ?_⟩
    rcases key c' q1 q2 with q | q
    · rcases hl with ⟨h1, h2⟩ | ⟨c, h1, h2, h3, h4, h5⟩
      · exact absurd q3 (h2 c' q1 q)
      · have := h5 c' q1 q q3
        omega
    · rw [q]; exact Nat.le_refl _
  · rw [if_neg c1]
    rcases hl with ⟨h1, h2⟩ | ⟨c, h1, h2, h3, h4, h5⟩
    · refine Or.inl ⟨h1, fun c' q1 q2 q3 => ?_⟩
      rcases key c' q1 q2 with q | q
      · exact h2 c' q1 q q3
      · subst q
        obtain ⟨n, hn⟩ := h
        have e1 := rch_sum n _ hn
        have e2 := rch_30 hW hn
        exact c1 ⟨q3, by omega⟩
    · refine Or.inr ⟨c, h1, by omega, h3, h4, fun c' q1 q2 q3 => ?_⟩
      rcases key c' q1 q2 with q | q
      · exact h5 c' q1 q q3
      · subst q
        rcases Nat.lt_or_ge (sN (dig b6 k)) z with w1 | w1
        · exact absurd ⟨q3, w1⟩ c1
        · exact w1
def ssm (c : Nat → Nat) : Nat → Nat
  | 0 => 0
  | m + 1 => ssm c m + c m
theorem ssm_6 (c : Nat → Nat) : ssm c 6 = sN c := by
  show 0 + c 0 + c 1 + c 2 + c 3 + c 4 + c 5 = _
  unfold sN
  omega
theorem ssm_le {c : Nat → Nat} (h : ∀ m, m < 6 → c m < 6) : ∀ m, m ≤ 6 → ssm c m ≤ 5 * m
  | 0, _ => Nat.le_refl _
  | m + 1, hm => by
    have := ssm_le h m (by omega)
    have := h m (by omega)
    show ssm c m + c m ≤ _
    omega
theorem nar1 : vp_nar .boolean (1 : Int32) = 1 := rfl
theorem nar0 : vp_nar .boolean (0 : Int32) = 0 := rfl
theorem so_in {u : MS} {T P : AI} {L B : Int} {S : SV} (hu : rB u S) (hG : gd B S) (hB : B ≤ 1000000) (hT : ∀ m, m < 6 → ∀ t, t < hg S m → T (5 * m + t) = iI ((qk L (hg S m) (pe S m) t : Nat) : Int)) (hP : pwOk P) {a w k z : Nat} (ha : a < 6) (hw : w ≤ 10) (hk : k < 46656) (hz : z ≤ 1000000) (hR : Rc (QS L S) (mon S) (dig b6 k)) (x2 : Int32) : ∀ (j m : Nat) (C : AI), m + j = 6 → (∀ x, x < 46656 → C x = c01 (cm (QS L S) (mon S) k x ∨ ∃ m', m' < m ∧ can (QS L S) (mon S) (dig b6 k) m' ∧ x = k + wt b6 m')) → ∃ C', lpx (st_X4_soon (iI a) x2) (.inr (.inr (.inr (.inr (setC u T P C, iI w, iI z, iI k, iI (ssm (dig b6 k) m), iI m))))) = lpx (st_X4_soon (iI a) x2) (.inr (.inr (.inr (.inl (setC u T P C', iI w, iI ((if w ≤ dig b6 k a ∧ sN (dig b6 k) < z then sN (dig b6 k) else z : Nat) : Int), iI ((k + 1 : Nat) : Int)))))) ∧ ∀ x, x < 46656 → C' x = c01 (cm (QS L S) (mon S) (k + 1) x) := by
  have hW : Wq (QS L S) := Wq_S hG
  obtain ⟨r1, r2, r3⟩ := Rc_6 hW hR
  intro j
  induction j with
  | zero =>
    intro m C hm hC
    have : m = 6 := by omega
    subst this
    have hs := ssm_le r1 6 (by omega)
    have hd := dig5 k a
    refine ⟨C, lpx_l ?_, fun x hx => ?_⟩
    · show f_X4_soon_162 (iI a) x2 _ _ _ _ _ _ = _
      unfold f_X4_soon_162 nm
      rw [if_pos (by (first | omega | (simp (disch := omega) only [iI_le, iI_lt, iI_eq, iI_add, iI_sub, iI_mul, iI_neg, zm1, zm2, zm3, zm4, zm5, zm6, z0, z1, z2, z3, z4, z5, z6, z7, z8, z9, z10, z11, z12, z13, z14, z15, z20, z21, z22, z23, z24, z25, z30, z31, z33, z46, z48, z49, z57, z60, z62, z63, z64, z65, z70, z74, z75, z90, z96, z99, z102, z114, z115, z116, z117, z118, z126, z128, z236, z729, z999, z9999, z46656, z65537, z1000000] <;> omega))), bn_i (p_paidOf hP (by omega) ha), iI_s (k), ← ssm_6]
      by_cases c1 : dig b6 k a < w
      · rw [if_pos (by (first | omega | (simp (disch := omega) only [iI_le, iI_lt, iI_eq, iI_add, iI_sub, iI_mul, iI_neg, zm1, zm2, zm3, zm4, zm5, zm6, z0, z1, z2, z3, z4, z5, z6, z7, z8, z9, z10, z11, z12, z13, z14, z15, z20, z21, z22, z23, z24, z25, z30, z31, z33, z46, z48, z49, z57, z60, z62, z63, z64, z65, z70, z74, z75, z90, z96, z99, z102, z114, z115, z116, z117, z118, z126, z128, z236, z729, z999, z9999, z46656, z65537, z1000000] <;> omega))), if_neg (by omega)]
      · rw [if_neg (by (first | omega | (simp (disch := omega) only [iI_le, iI_lt, iI_eq, iI_add, iI_sub, iI_mul, iI_neg, zm1, zm2, zm3, zm4, zm5, zm6, z0, z1, z2, z3, z4, z5, z6, z7, z8, z9, z10, z11, z12, z13, z14, z15, z20, z21, z22, z23, z24, z25, z30, z31, z33, z46, z48, z49, z57, z60, z62, z63, z64, z65, z70, z74, z75, z90, z96, z99, z102, z114, z115, z116, z117, z118, z126, z128, z236, z729, z999, z9999, z46656, z65537, z1000000] <;> omega)))]
        by_cases c2 : z ≤ ssm (dig b6 k) 6
        · rw [if_pos (by (first | omega | (simp (disch := omega) only [iI_le, iI_lt, iI_eq, iI_add, iI_sub, iI_mul, iI_neg, zm1, zm2, zm3, zm4, zm5, zm6, z0, z1, z2, z3, z4, z5, z6, z7, z8, z9, z10, z11, z12, z13, z14, z15, z20, z21, z22, z23, z24, z25, z30, z31, z33, z46, z48, z49, z57, z60, z62, z63, z64, z65, z70, z74, z75, z90, z96, z99, z102, z114, z115, z116, z117, z118, z126, z128, z236, z729, z999, z9999, z46656, z65537, z1000000] <;> omega))), if_neg (by omega)]
        · rw [if_neg (by (first | omega | (simp (disch := omega) only [iI_le, iI_lt, iI_eq, iI_add, iI_sub, iI_mul, iI_neg, zm1, zm2, zm3, zm4, zm5, zm6, z0, z1, z2, z3, z4, z5, z6, z7, z8, z9, z10, z11, z12, z13, z14, z15, z20, z21, z22, z23, z24, z25, z30, z31, z33, z46, z48, z49, z57, z60, z62, z63, z64, z65, z70, z74, z75, z90, z96, z99, z102, z114, z115, z116, z117, z118, z126, z128, z236, z729, z999, z9999, z46656, z65537, z1000000] <;> omega))), if_pos (by omega)]
    · rw [hC x hx]
      by_cases c : cm (QS L S) (mon S) (k + 1) x
      · rw [c01_t c, c01_t ((cm_leave hW hk hR x).mp c)]
      · rw [c01_f c, c01_f (fun q => c ((cm_leave hW hk hR x).mpr q))]
  | succ j ih =>
    intro m C hm hC
    have hm6 : m < 6 := by omega
    have hs := ssm_le r1 m (by omega)
    have hd := r1 m hm6
    have h5 := (hG.1 m hm6).2.1
    have hsz : u.2.2.2.2.1 m = iI (hg S m) := (hu m hm6).2.1
    have ess : iI (ssm (dig b6 k) m) + iI ((dig b6 k m : Nat) : Int) = iI (ssm (dig b6 k) (m + 1)) := by rw [iI_aN]; rfl
    have skip : ¬ can (QS L S) (mon S) (dig b6 k) m → ∀ x, x < 46656 → C x = c01 (cm (QS L S) (mon S) k x ∨ ∃ m', m' < m + 1 ∧ can (QS L S) (mon S) (dig b6 k) m' ∧ x = k + wt b6 m') := fun hn x hx => by
      rw [hC x hx]
      congr 1
      apply propext
      constructor
      · rintro (q | ⟨m', q1, q2, q3⟩)
        · exact Or.inl q
        · exact Or.inr ⟨m', by omega, q2, q3⟩
      · rintro (q | ⟨m', q1, q2, q3⟩)
        · exact Or.inl q
        · refine Or.inr ⟨m', ?_, q2, q3⟩
          rcases Nat.lt_or_ge m' m with w1 | w1
          · exact w1
          · have : m' = m := by omega
            subst this
            exact absurd q2 hn
    by_cases c1 : hg S m ≤ dig b6 k m
    · obtain ⟨C', f1, f2⟩ := ih (m + 1) C (by omega) (skip (fun q => by have := q.1; have : dig b6 k m < hg S m := this; omega))
      refine ⟨C', (lpx_l ?_).trans f1, f2⟩
      show f_X4_soon_162 (iI a) x2 _ _ _ _ _ _ = _
      unfold f_X4_soon_162 nm
      dsimp only
      rw [if_neg (by (first | omega | (simp (disch := omega) only [iI_le, iI_lt, iI_eq, iI_add, iI_sub, iI_mul, iI_neg, zm1, zm2, zm3, zm4, zm5, zm6, z0, z1, z2, z3, z4, z5, z6, z7, z8, z9, z10, z11, z12, z13, z14, z15, z20, z21, z22, z23, z24, z25, z30, z31, z33, z46, z48, z49, z57, z60, z62, z63, z64, z65, z70, z74, z75, z90, z96, z99, z102, z114, z115, z116, z117, z118, z126, z128, z236, z729, z999, z9999, z46656, z65537, z1000000] <;> omega))), bn_i (p_paidOf hP (by omega) hm6), ess, ck_N hm6 (by omega), cl_N (by omega), if_pos (by rw [hsz]; (first | omega | (simp (disch := omega) only [iI_le, iI_lt, iI_eq, iI_add, iI_sub, iI_mul, iI_neg, zm1, zm2, zm3, zm4, zm5, zm6, z0, z1, z2, z3, z4, z5, z6, z7, z8, z9, z10, z11, z12, z13, z14, z15, z20, z21, z22, z23, z24, z25, z30, z31, z33, z46, z48, z49, z57, z60, z62, z63, z64, z65, z70, z74, z75, z90, z96, z99, z102, z114, z115, z116, z117, z118, z126, z128, z236, z729, z999, z9999, z46656, z65537, z1000000] <;> omega))), iI_s (m)]
    · obtain ⟨q1, q2⟩ := qk_ok L (hg S m) (pe S m) (dig b6 k m) (by omega)
      have hrow := ((hu m hm6).2.2 _ q1).2.1
      have hb := (hG.1 m hm6).2.2 _ q1
      have hTt := hT m hm6 (dig b6 k m) (by omega)
      have ep : qp (QS L S) m (dig b6 k m) = pe S m (qk L (hg S m) (pe S m) (dig b6 k m)) := rfl
      have hmy := mny_rng hW (mo := mon S) r3 m
      have hmm := hG.le hm6
      have hm0 := (hG.1 m hm6).1
      have hcan : can (QS L S) (mon S) (dig b6 k) m ↔ pe S m (qk L (hg S m) (pe S m) (dig b6 k m)) ≤ mny (QS L S) (mon S) (dig b6 k) m := by
        unfold can
        rw [ep]
        exact ⟨fun q => q.2, fun q => ⟨by show dig b6 k m < hg S m; omega, q⟩⟩
      by_cases c2 : can (QS L S) (mon S) (dig b6 k) m
      · have c3 := hcan.mp c2
        have hlt := e6_lt hW (Rc_stp hR hm6 c2)
        rw [e6_stp hm6, dig_e6 hk] at hlt
        have hpm := hP m (by omega)
        obtain ⟨C', f1, f2⟩ := ih (m + 1) (upd C (k + wt b6 m) 1) (by omega) (fun x hx => by
          by_cases e : x = k + wt b6 m
          · rw [e, upd_s, c01_t (Or.inr ⟨m, by omega, c2, rfl⟩)]
          · rw [upd_n e, hC x hx]
            congr 1
            apply propext
            constructor
            · rintro (q | ⟨m', q1, q2, q3⟩)
              · exact Or.inl q
              · exact Or.inr ⟨m', by omega, q2, q3⟩
            · rintro (q | ⟨m', q1, q2, q3⟩)
              · exact Or.inl q
              · refine Or.inr ⟨m', ?_, q2, q3⟩
                rcases Nat.lt_or_ge m' m with w1 | w1
                · exact w1
                · have : m' = m := by omega
                  subst this
                  exact absurd q3 e)
        refine ⟨C', (lpx_l ?_).trans f1, f2⟩
        show f_X4_soon_162 (iI a) x2 _ _ _ _ _ _ = _
        unfold f_X4_soon_162 nm
        dsimp only
        rw [if_neg (by (first | omega | (simp (disch := omega) only [iI_le, iI_lt, iI_eq, iI_add, iI_sub, iI_mul, iI_neg, zm1, zm2, zm3, zm4, zm5, zm6, z0, z1, z2, z3, z4, z5, z6, z7, z8, z9, z10, z11, z12, z13, z14, z15, z20, z21, z22, z23, z24, z25, z30, z31, z33, z46, z48, z49, z57, z60, z62, z63, z64, z65, z70, z74, z75, z90, z96, z99, z102, z114, z115, z116, z117, z118, z126, z128, z236, z729, z999, z9999, z46656, z65537, z1000000] <;> omega))), bn_i (p_paidOf hP (by omega) hm6), ess, ck_N hm6 (by omega), cl_N (by omega), if_neg (by rw [hsz]; (first | omega | (simp (disch := omega) only [iI_le, iI_lt, iI_eq, iI_add, iI_sub, iI_mul, iI_neg, zm1, zm2, zm3, zm4, zm5, zm6, z0, z1, z2, z3, z4, z5, z6, z7, z8, z9, z10, z11, z12, z13, z14, z15, z20, z21, z22, z23, z24, z25, z30, z31, z33, z46, z48, z49, z57, z60, z62, z63, z64, z65, z70, z74, z75, z90, z96, z99, z102, z114, z115, z116, z117, z118, z126, z128, z236, z729, z999, z9999, z46656, z65537, z1000000] <;> omega))), bn_i (p_moneyBy hu hG hT hP hk hm6 r3), ix5, ck_N (by omega) (by omega), cl_N (by omega), hTt, bn_i p_at, ixM, ck_N (by omega) (by omega), cl_N (by omega), if_neg (by rw [hrow]; (first | omega | (simp (disch := omega) only [iI_le, iI_lt, iI_eq, iI_add, iI_sub, iI_mul, iI_neg, zm1, zm2, zm3, zm4, zm5, zm6, z0, z1, z2, z3, z4, z5, z6, z7, z8, z9, z10, z11, z12, z13, z14, z15, z20, z21, z22, z23, z24, z25, z30, z31, z33, z46, z48, z49, z57, z60, z62, z63, z64, z65, z70, z74, z75, z90, z96, z99, z102, z114, z115, z116, z117, z118, z126, z128, z236, z729, z999, z9999, z46656, z65537, z1000000] <;> omega))), ck_N (by omega) (by omega), hpm, iI_aN, ck_N (by omega) (by omega), cl_N (by omega), nar1, iI_s (m)]
      · have c3 : ¬ pe S m (qk L (hg S m) (pe S m) (dig b6 k m)) ≤ mny (QS L S) (mon S) (dig b6 k) m := fun q => c2 (hcan.mpr q)
        obtain ⟨C', f1, f2⟩ := ih (m + 1) C (by omega) (skip c2)
        refine ⟨C', (lpx_l ?_).trans f1, f2⟩
        show f_X4_soon_162 (iI a) x2 _ _ _ _ _ _ = _
        unfold f_X4_soon_162 nm
        dsimp only
        rw [if_neg (by (first | omega | (simp (disch := omega) only [iI_le, iI_lt, iI_eq, iI_add, iI_sub, iI_mul, iI_neg, zm1, zm2, zm3, zm4, zm5, zm6, z0, z1, z2, z3, z4, z5, z6, z7, z8, z9, z10, z11, z12, z13, z14, z15, z20, z21, z22, z23, z24, z25, z30, z31, z33, z46, z48, z49, z57, z60, z62, z63, z64, z65, z70, z74, z75, z90, z96, z99, z102, z114, z115, z116, z117, z118, z126, z128, z236, z729, z999, z9999, z46656, z65537, z1000000] <;> omega))), bn_i (p_paidOf hP (by omega) hm6), ess, ck_N hm6 (by omega), cl_N (by omega), if_neg (by rw [hsz]; (first | omega | (simp (disch := omega) only [iI_le, iI_lt, iI_eq, iI_add, iI_sub, iI_mul, iI_neg, zm1, zm2, zm3, zm4, zm5, zm6, z0, z1, z2, z3, z4, z5, z6, z7, z8, z9, z10, z11, z12, z13, z14, z15, z20, z21, z22, z23, z24, z25, z30, z31, z33, z46, z48, z49, z57, z60, z62, z63, z64, z65, z70, z74, z75, z90, z96, z99, z102, z114, z115, z116, z117, z118, z126, z128, z236, z729, z999, z9999, z46656, z65537, z1000000] <;> omega))), bn_i (p_moneyBy hu hG hT hP hk hm6 r3), ix5, ck_N (by omega) (by omega), cl_N (by omega), hTt, bn_i p_at, ixM, ck_N (by omega) (by omega), cl_N (by omega), if_pos (by rw [hrow]; (first | omega | (simp (disch := omega) only [iI_le, iI_lt, iI_eq, iI_add, iI_sub, iI_mul, iI_neg, zm1, zm2, zm3, zm4, zm5, zm6, z0, z1, z2, z3, z4, z5, z6, z7, z8, z9, z10, z11, z12, z13, z14, z15, z20, z21, z22, z23, z24, z25, z30, z31, z33, z46, z48, z49, z57, z60, z62, z63, z64, z65, z70, z74, z75, z90, z96, z99, z102, z114, z115, z116, z117, z118, z126, z128, z236, z729, z999, z9999, z46656, z65537, z1000000] <;> omega))), iI_s (m)]
/-- the answer: the fewest payings, or NONE -/
def ansS (Q : QU) (mo : Nat → Int) (a w : Nat) (z : Int) : Prop := (z = -6 ∧ ∀ n c, rch Q mo n c → ¬ w ≤ c a) ∨ (∃ n c, z = (n : Nat) ∧ rch Q mo n c ∧ w ≤ c a ∧ ∀ n' c', rch Q mo n' c' → w ≤ c' a → n ≤ n')
theorem ansS_one {Q : QU} {mo : Nat → Int} {a w : Nat} {z z' : Int} (h : ansS Q mo a w z) (h' : ansS Q mo a w z') : z = z' := by
  rcases h with ⟨h1, h2⟩ | ⟨n, c, h1, h2, h3, h4⟩
  · rcases h' with ⟨g1, g2⟩ | ⟨n', c', g1, g2, g3, g4⟩
    · omega
    · exact absurd g3 (h2 _ _ g2)
  · rcases h' with ⟨g1, g2⟩ | ⟨n', c', g1, g2, g3, g4⟩
    · exact absurd h3 (g2 _ _ h2)
    · have a1 := h4 _ _ g2 g3
      have a2 := g4 _ _ h2 h3
      omega
theorem so_main {u : MS} {T P : AI} {L B : Int} {S : SV} (hu : rB u S) (hG : gd B S) (hB : B ≤ 1000000) (hT : ∀ m, m < 6 → ∀ t, t < hg S m → T (5 * m + t) = iI ((qk L (hg S m) (pe S m) t : Nat) : Int)) (hP : pwOk P) {a w : Nat} (ha : a < 6) (hw : w ≤ 10) (x2 : Int32) : ∀ (j k : Nat) (C : AI) (z : Nat), k + j = 46656 → (∀ x, x < 46656 → C x = c01 (cm (QS L S) (mon S) k x)) → lst (QS L S) (mon S) a w k z → ∃ C' y, lpx (st_X4_soon (iI a) x2) (.inr (.inr (.inr (.inl (setC u T P C, iI w, iI z, iI k))))) = some (iI y, setC u T P C') ∧ ansS (QS L S) (mon S) a w y := by
  have hW : Wq (QS L S) := Wq_S hG
  intro j
  induction j with
  | zero =>
    intro k C z hk hC hl
    have : k = 46656 := by omega
    subst this
    have hz := lst_rng hW hl
    rcases hl with ⟨h1, h2⟩ | ⟨c, ⟨n, h1⟩, h2, h3, h4, h5⟩
    · refine ⟨C, -6, lpx_r ?_, Or.inl ⟨rfl, fun n c hc => h2 c ⟨n, hc⟩ (e6_lt hW ⟨n, hc⟩)⟩⟩
      show f_X4_soon_139 (iI a) x2 _ _ _ _ = _
      unfold f_X4_soon_139
      rw [if_pos (by (first | omega | (simp (disch := omega) only [iI_le, iI_lt, iI_eq, iI_add, iI_sub, iI_mul, iI_neg, zm1, zm2, zm3, zm4, zm5, zm6, z0, z1, z2, z3, z4, z5, z6, z7, z8, z9, z10, z11, z12, z13, z14, z15, z20, z21, z22, z23, z24, z25, z30, z31, z33, z46, z48, z49, z57, z60, z62, z63, z64, z65, z70, z74, z75, z90, z96, z99, z102, z114, z115, z116, z117, z118, z126, z128, z236, z729, z999, z9999, z46656, z65537, z1000000] <;> omega))), if_pos (by (first | omega | (simp (disch := omega) only [iI_le, iI_lt, iI_eq, iI_add, iI_sub, iI_mul, iI_neg, zm1, zm2, zm3, zm4, zm5, zm6, z0, z1, z2, z3, z4, z5, z6, z7, z8, z9, z10, z11, z12, z13, z14, z15, z20, z21, z22, z23, z24, z25, z30, z31, z33, z46, z48, z49, z57, z60, z62, z63, z64, z65, z70, z74, z75, z90, z96, z99, z102, z114, z115, z116, z117, z118, z126, z128, z236, z729, z999, z9999, z46656, z65537, z1000000] <;> omega))), zm6]
    · have hs := rch_sum n c h1
      have h30 := rch_30 hW h1
      refine ⟨C, (z : Nat), lpx_r ?_, Or.inr ⟨n, c, by omega, h1, h3, fun n' c' q1 q2 => ?_⟩⟩
      · show f_X4_soon_139 (iI a) x2 _ _ _ _ = _
        unfold f_X4_soon_139
        rw [if_pos (by (first | omega | (simp (disch := omega) only [iI_le, iI_lt, iI_eq, iI_add, iI_sub, iI_mul, iI_neg, zm1, zm2, zm3, zm4, zm5, zm6, z0, z1, z2, z3, z4, z5, z6, z7, z8, z9, z10, z11, z12, z13, z14, z15, z20, z21, z22, z23, z24, z25, z30, z31, z33, z46, z48, z49, z57, z60, z62, z63, z64, z65, z70, z74, z75, z90, z96, z99, z102, z114, z115, z116, z117, z118, z126, z128, z236, z729, z999, z9999, z46656, z65537, z1000000] <;> omega))), if_neg (by (first | omega | (simp (disch := omega) only [iI_le, iI_lt, iI_eq, iI_add, iI_sub, iI_mul, iI_neg, zm1, zm2, zm3, zm4, zm5, zm6, z0, z1, z2, z3, z4, z5, z6, z7, z8, z9, z10, z11, z12, z13, z14, z15, z20, z21, z22, z23, z24, z25, z30, z31, z33, z46, z48, z49, z57, z60, z62, z63, z64, z65, z70, z74, z75, z90, z96, z99, z102, z114, z115, z116, z117, z118, z126, z128, z236, z729, z999, z9999, z46656, z65537, z1000000] <;> omega)))]
      · have := h5 c' ⟨n', q1⟩ (e6_lt hW ⟨n', q1⟩) q2
        have := rch_sum n' c' q1
        omega
  | succ j ih =>
    intro k C z hk hC hl
    have hz := lst_rng hW hl
    have hk2 : k < 46656 := by omega
    by_cases c1 : Rc (QS L S) (mon S) (dig b6 k)
    · obtain ⟨C1, e1, e2⟩ := so_in hu hG hB hT hP ha hw hk2 hz c1 x2 6 0 C (by omega) (fun x hx => by
        rw [hC x hx]
        congr 1
        apply propext
        exact ⟨Or.inl, fun q => by
          rcases q with q | ⟨m', q1, _⟩
          · exact q
          · omega⟩)
      obtain ⟨C2, y, f1, f2⟩ := ih (k + 1) C1 _ (by omega) e2 (lst_leave hW hk2 c1 hl)
      refine ⟨C2, y, ((lpx_l ?_).trans e1).trans f1, f2⟩
      show f_X4_soon_139 (iI a) x2 _ _ _ _ = _
      unfold f_X4_soon_139
      dsimp only
      rw [if_neg (by (first | omega | (simp (disch := omega) only [iI_le, iI_lt, iI_eq, iI_add, iI_sub, iI_mul, iI_neg, zm1, zm2, zm3, zm4, zm5, zm6, z0, z1, z2, z3, z4, z5, z6, z7, z8, z9, z10, z11, z12, z13, z14, z15, z20, z21, z22, z23, z24, z25, z30, z31, z33, z46, z48, z49, z57, z60, z62, z63, z64, z65, z70, z74, z75, z90, z96, z99, z102, z114, z115, z116, z117, z118, z126, z128, z236, z729, z999, z9999, z46656, z65537, z1000000] <;> omega))), ck_N hk2 (by omega), cl_N (by omega), if_neg (by rw [hC k hk2, c01_t ((cm_R hW hk2).mpr c1)]; exact n10)]
      rfl
    · obtain ⟨C2, y, f1, f2⟩ := ih (k + 1) C z (by omega) (fun x hx => by
        rw [hC x hx]
        congr 1
        exact propext (cm_skip hW c1 x).symm) (lst_skip hW c1 hl)
      refine ⟨C2, y, (lpx_l ?_).trans f1, f2⟩
      show f_X4_soon_139 (iI a) x2 _ _ _ _ = _
      unfold f_X4_soon_139 nm
      dsimp only
      rw [if_neg (by (first | omega | (simp (disch := omega) only [iI_le, iI_lt, iI_eq, iI_add, iI_sub, iI_mul, iI_neg, zm1, zm2, zm3, zm4, zm5, zm6, z0, z1, z2, z3, z4, z5, z6, z7, z8, z9, z10, z11, z12, z13, z14, z15, z20, z21, z22, z23, z24, z25, z30, z31, z33, z46, z48, z49, z57, z60, z62, z63, z64, z65, z70, z74, z75, z90, z96, z99, z102, z114, z115, z116, z117, z118, z126, z128, z236, z729, z999, z9999, z46656, z65537, z1000000] <;> omega))), ck_N hk2 (by omega), cl_N (by omega), if_pos (by rw [hC k hk2, c01_f (fun q => c1 ((cm_R hW hk2).mp q))]), iI_s (k)]
