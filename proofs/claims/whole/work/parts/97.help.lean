/-! HELP -/
def addM (mo : Nat → Int) (m : Nat) (x : Int) : Nat → Int := fun i => if i = m then mo i + x else mo i
theorem addM_s {mo : Nat → Int} {m : Nat} {x : Int} : addM mo m x m = mo m + x := by unfold addM; rw [if_pos rfl]
theorem addM_n {mo : Nat → Int} {m i : Nat} {x : Int} (h : i ≠ m) : addM mo m x i = mo i := by unfold addM; rw [if_neg h]
theorem addM_le {mo : Nat → Int} {m : Nat} {x x' : Int} (h : x ≤ x') (i : Nat) : addM mo m x i ≤ addM mo m x' i := by
  unfold addM
  split <;> omega
theorem mny_add {Q : QU} {mo : Nat → Int} {c : Nat → Nat} {m i : Nat} {x : Int} : mny Q (addM mo m x) c i = mny Q mo c i + (if i = m then x else 0) := by
  unfold mny addM
  split <;> omega
/-- so much is enough -/
def en (Q : QU) (mo : Nat → Int) (m : Nat) (x : Int) : Prop := ∃ n c, rch Q (addM mo m x) n c ∧ ∀ i, i < 6 → c i = qh Q i
theorem en_mono {Q : QU} {mo : Nat → Int} {m : Nat} {x x' : Int} (h : x ≤ x') (he : en Q mo m x) : en Q mo m x' := by
  obtain ⟨n, c, h1, h2⟩ := he
  exact ⟨n, c, rch_up (fun i _ => addM_le h i) n c h1, h2⟩
theorem en_iff {Q : QU} (hW : Wq Q) {mo : Nat → Int} {m : Nat} {x : Int} {n : Nat} {c : Nat → Nat} (hr : rch Q (addM mo m x) n c) (hs : ∀ i, i < 6 → ¬ can Q (addM mo m x) c i) : en Q mo m x ↔ ∀ i, i < 6 → c i = qh Q i := by
  constructor
  · rintro ⟨n', c', h1, h2⟩ i hi
    have a := rch_max hW hs (rch_le _ _ hr) (fun _ _ => Int.le_refl _) n' c' h1 i hi
    have b := rch_le _ _ hr i hi
    have := h2 i hi
    omega
  · intro h
    exact ⟨n, c, hr, h⟩
/-- the least that is enough, or NONE -/
def hlp (Q : QU) (mo : Nat → Int) (m : Nat) (z : Int) : Prop := (z = -6 ∧ ¬ en Q mo m 1000000) ∨ (0 ≤ z ∧ z ≤ 1000000 ∧ en Q mo m z ∧ ∀ x, 0 ≤ x → x < z → ¬ en Q mo m x)
theorem hlp_one {Q : QU} {mo : Nat → Int} {m : Nat} {z z' : Int} (h : hlp Q mo m z) (h' : hlp Q mo m z') : z = z' := by
  rcases h with ⟨a, b⟩ | ⟨a1, a2, a3, a4⟩
  · rcases h' with ⟨a', b'⟩ | ⟨b1, b2, b3, b4⟩
    · omega
    · exact absurd (en_mono b2 b3) b
  · rcases h' with ⟨a', b'⟩ | ⟨b1, b2, b3, b4⟩
    · exact absurd (en_mono a2 a3) b'
    · rcases Int.lt_trichotomy z z' with q | q | q
      · exact absurd a3 (b4 z a1 q)
      · exact q
      · exact absurd b3 (a4 z' b1 q)
theorem p_isEnough {L B : Int} {S : SV} {u : MS} (hu : rB u S) (hG : gd B S) (hB : B ≤ 700000) (hL : u.1 = iI L) (hL2 : 0 ≤ L ∧ L ≤ 2) {m : Nat} (hm : m < 6) {x : Int} (hx : 0 ≤ x ∧ x ≤ 1000000) : ∃ a b k, f_X4_isEnough u (iI m) (iI x) = some (c01 (en (QS L S) (mon S) m x), setND u u.2.2.1 a b k) := by
  have hW : Wq (QS L S) := Wq_S hG
  obtain ⟨a, b, k, f1, ha, hb, hc⟩ := p_asNow u
  have hr0 := rM_cong hu hG ha hb hc
  have hr1 := rM_setMon hr0 (m := m) (mon S m + x)
  have hG1 : gd 1700000 (setMon S m (mon S m + x)) := gd_earn hG hm (by omega) (by omega)
  have hS1 : rS L (setMon S m (mon S m + x)) (QS L S) (addM (mon S) m x) (fun _ => 0) := fun i hi => by
    obtain ⟨q1, q2, q3⟩ := rS_0 (L := L) hG i hi
    refine ⟨?_, q2, q3⟩
    rw [mny_0]
    show (if i = m then mon S m + x else mon S i) = _
    unfold addM
    split
    · rename_i e; rw [e]
    · rfl
  obtain ⟨a', b', k', S', c2, n2, i1, i2, i3, i4, i5, i6⟩ := p_mpayAll hW (B := 1700000) (by omega) (u := setND u u.2.2.1 a b k) hL hL2 hr1 hG1 hS1 (show rch (QS L S) (addM (mon S) m x) 0 _ from rfl)
  refine ⟨a', b', k', ?_⟩
  have hbm : a m = iI (mon S m) := (hr0 m hm).1
  have i1' : f_X4_payAll (setND u u.2.2.1 (upd a m (iI (mon S m + x))) b k) = some (setND u u.2.2.1 a' b' k') := i1
  have j1 : f_X4_leftNow (setND u u.2.2.1 a' b' k') = _ := p_leftNow (u := setND u u.2.2.1 a b k) i2 i3
  unfold f_X4_isEnough nm
  rw [bn_i f1, ck_N hm (by omega), cl_N (by omega)]
  dsimp only
  rw [hbm, iI_add, bn_i i1', bn_i j1]
  have e := en_iff hW i5 i6
  by_cases c : lbs (hg S') 6 = 0
  · rw [if_pos c, c01_t]
    refine e.mpr (fun i hi => ?_)
    have h1 := (lbs_0 _).mp c i hi
    have h2 := (i4 i hi).2.1
    omega
  · rw [if_neg c, c01_f]
    intro q
    refine c ((lbs_0 _).mpr (fun i hi => ?_))
    have h1 := e.mp q i hi
    have h2 := (i4 i hi).2.1
    omega
theorem p_helpOf {L B : Int} {S : SV} {u : MS} (hu : rB u S) (hG : gd B S) (hB : B ≤ 700000) (hL : u.1 = iI L) (hL2 : 0 ≤ L ∧ L ≤ 2) {m : Nat} (hm : m < 6) : ∃ z a b k, f_X4_helpOf u (iI m) = some (iI z, setND u u.2.2.1 a b k) ∧ hlp (QS L S) (mon S) m z := by
  have loop : ∀ (j : Nat) (hi lo : Int) (a b k : AI), hi - lo ≤ j → lo < hi → -1 ≤ lo → hi ≤ 1000000 → en (QS L S) (mon S) m hi → (∀ x, 0 ≤ x → x ≤ lo → ¬ en (QS L S) (mon S) m x) → ∃ z a' b' k', lpx (st_X4_helpOf (iI m)) (setND u u.2.2.1 a b k, iI hi, iI lo) = some (iI z, setND u u.2.2.1 a' b' k') ∧ hlp (QS L S) (mon S) m z := by
    intro j
    induction j with
    | zero => intro hi lo a b k h1 h2; omega
    | succ j ih =>
      intro hi lo a b k h1 h2 h3 h4 h5 h6
      by_cases c : hi ≤ lo + 1
      · refine ⟨hi, a, b, k, lpx_r ?_, Or.inr ⟨by omega, h4, h5, fun x q1 q2 => h6 x q1 (by omega)⟩⟩
        show f_X4_helpOf_17 _ _ _ _ = _
        unfold f_X4_helpOf_17
        rw [if_pos (by (first | omega | (simp (disch := omega) only [iI_le, iI_lt, iI_eq, iI_add, iI_sub, iI_mul, iI_neg, zm1, zm2, zm3, zm4, zm5, zm6, z0, z1, z2, z3, z4, z5, z6, z7, z8, z9, z10, z11, z12, z13, z14, z15, z20, z21, z22, z23, z24, z25, z30, z31, z33, z46, z48, z49, z57, z60, z62, z63, z64, z65, z70, z74, z75, z90, z96, z99, z102, z114, z115, z116, z117, z118, z126, z128, z236, z729, z999, z9999, z46656, z65537, z1000000] <;> omega)))]
      · obtain ⟨a1, b1, k1, e1⟩ := p_isEnough (u := setND u u.2.2.1 a b k) hu hG hB hL hL2 hm (x := (lo + hi) / 2) (by omega)
        have e1' : f_X4_isEnough (setND u u.2.2.1 a b k) (iI m) (iI ((lo + hi) / 2)) = some (c01 (en (QS L S) (mon S) m ((lo + hi) / 2)), setND u u.2.2.1 a1 b1 k1) := e1
        have hst : st_X4_helpOf (iI m) (setND u u.2.2.1 a b k, iI hi, iI lo) = bn (some (c01 (en (QS L S) (mon S) m ((lo + hi) / 2)), setND u u.2.2.1 a1 b1 k1)) (fun r => if r.1 = 0 then some (.inl (r.2, iI hi, iI ((lo + hi) / 2))) else some (.inl (r.2, iI ((lo + hi) / 2), iI lo))) := by
          show f_X4_helpOf_17 _ _ _ _ = _
          unfold f_X4_helpOf_17 nm
          rw [if_neg (by (first | omega | (simp (disch := omega) only [iI_le, iI_lt, iI_eq, iI_add, iI_sub, iI_mul, iI_neg, zm1, zm2, zm3, zm4, zm5, zm6, z0, z1, z2, z3, z4, z5, z6, z7, z8, z9, z10, z11, z12, z13, z14, z15, z20, z21, z22, z23, z24, z25, z30, z31, z33, z46, z48, z49, z57, z60, z62, z63, z64, z65, z70, z74, z75, z90, z96, z99, z102, z114, z115, z116, z117, z118, z126, z128, z236, z729, z999, z9999, z46656, z65537, z1000000] <;> omega))), iI_add, z2, iI_div (by omega) (by omega) (by omega) (by omega)]
          dsimp only
          rw [e1']
        rw [bn_i rfl] at hst
        by_cases c2 : en (QS L S) (mon S) m ((lo + hi) / 2)
        · rw [c01_t c2, if_neg n10] at hst
          obtain ⟨z, a', b', k', g1, g2⟩ := ih ((lo + hi) / 2) lo a1 b1 k1 (by omega) (by omega) h3 (by omega) c2 h6
          exact ⟨z, a', b', k', (lpx_l hst).trans g1, g2⟩
        · rw [c01_f c2, if_pos rfl] at hst
          obtain ⟨z, a', b', k', g1, g2⟩ := ih hi ((lo + hi) / 2) a1 b1 k1 (by omega) (by omega) (by omega) h4 h5 (fun x q1 q2 q3 => c2 (en_mono q2 q3))
          exact ⟨z, a', b', k', (lpx_l hst).trans g1, g2⟩
  obtain ⟨a, b, k, e⟩ := p_isEnough (u := u) hu hG hB hL hL2 hm (x := 1000000) (by omega)
  unfold f_X4_helpOf f_X4_helpOf_0
  rw [z1000000, bn_i e]
  by_cases c : en (QS L S) (mon S) m 1000000
  · rw [c01_t c, if_neg n10, zm1]
    exact loop 1000001 1000000 (-1) a b k (by omega) (by omega) (by omega) (by omega) c (fun x q1 q2 => absurd q1 (by omega))
  · rw [c01_f c, if_pos rfl]
    exact ⟨-6, a, b, k, by rw [← zm6]; rfl, Or.inl ⟨rfl, c⟩⟩
/-- nobody pays what he hasn't -/
theorem mny_nn {Q : QU} (hW : Wq Q) {mo : Nat → Int} (hM : ∀ i, i < 6 → 0 ≤ mo i) : ∀ (n : Nat) (c : Nat → Nat), rch Q mo n c → ∀ i, i < 6 → 0 ≤ mny Q mo c i
  | 0, c, h, i, hi => by
    have h : c = fun _ => 0 := h
    rw [h, mny_0]
    exact hM i hi
  | n + 1, c, h, i, hi => by
    obtain ⟨d, m, h1, h2, h3, rfl⟩ := h
    have ih := mny_nn hW hM n d h1 i hi
    have hp := (hW m h2).2 (d m) h3.1
    rw [mny_stp h2]
    by_cases e : m = i
    · subst e
      have := h3.2
      rw [if_pos rfl]
      split <;> omega
    · rw [if_neg e]
      split <;> omega
theorem p_yleast {Q : QU} {mo : Nat → Int} (hW : Wq Q) (hM : ∀ i, i < 6 → 0 ≤ mo i ∧ mo i ≤ 700000) {m : Nat} (hm : m < 6) {y : YS} (hy : rY y Q mo (fun _ => 0)) : ∃ z y', f_X1_leastHelp y (iI m) = some (iI z, y') ∧ hlp Q mo m z ∧ z < 1000000 := by
  have hh := (hW m hm).1
  have loop : ∀ (j r : Nat) (g : Int) (y : YS) (c : Nat → Nat) (n : Nat), r + j = 6 → 0 ≤ g → g ≤ 9999 * r → rY y Q (addM mo m g) c → rch Q (addM mo m g) n c → (r = 0 ∨ (r ≤ c m + 1 ∧ can Q (addM mo m g) c m)) → (∀ x, 0 ≤ x → x < g → ¬ en Q mo m x) → ∃ z y', lpx (st_X1_leastHelp (iI m)) (y, iI g, iI r) = some (iI z, y') ∧ hlp Q mo m z ∧ z < 1000000 := by
    intro j
    induction j with
    | zero =>
      intro r g y c n hj h0 h1 hr hn hp hx
      exfalso
      rcases hp with q | ⟨q1, q2⟩
      · omega
      · have := q2.1
        omega
    | succ j ih =>
      intro r g y c n hj h0 h1 hr hn hp hx
      have hM' : okM (addM mo m g) := fun i hi => by
        have := hM i hi
        unfold addM
        split <;> omega
      obtain ⟨pu, pd, c1, n1, g1, g2, g3, g4, g5, g6⟩ := p_payAll hW hM' y hr hn
      have hc1 := rch_le _ _ g3
      have hrc : r ≤ c1 m := by
        rcases hp with q | ⟨q1, q2⟩
        · omega
        · have := rch_max hW g5 hc1 (fun _ _ => Int.le_refl _) (n + 1) (stp c m) ⟨c, m, hn, hm, q2, rfl⟩ m hm
          rw [stp_s] at this
          omega
      by_cases cf : lbs (fun i => qh Q i - c1 i) 6 = 0
      · refine ⟨g, setP y pu pd, lpx_r ?_, Or.inr ⟨h0, by omega, ⟨n1, c1, g3, fun i hi => ?_⟩, hx⟩, by omega⟩
        · show f_X1_leastHelp_4 _ _ _ _ = _
          unfold f_X1_leastHelp_4
          rw [if_neg (by (first | omega | (simp (disch := omega) only [iI_le, iI_lt, iI_eq, iI_add, iI_sub, iI_mul, iI_neg, zm1, zm2, zm3, zm4, zm5, zm6, z0, z1, z2, z3, z4, z5, z6, z7, z8, z9, z10, z11, z12, z13, z14, z15, z20, z21, z22, z23, z24, z25, z30, z31, z33, z46, z48, z49, z57, z60, z62, z63, z64, z65, z70, z74, z75, z90, z96, z99, z102, z114, z115, z116, z117, z118, z126, z128, z236, z729, z999, z9999, z46656, z65537, z1000000] <;> omega))), bn_i g1, bn_i (p_stillOwing g2 hW hc1), if_pos cf]
        · have a1 := (lbs_0 _).mp cf i hi
          have a2 := hc1 i hi
          have a1 : qh Q i - c1 i = 0 := a1
          omega
      · have nfull : ¬ ∀ i, i < 6 → c1 i = qh Q i := fun q => cf ((lbs_0 _).mpr (fun i hi => by have := q i hi; show qh Q i - c1 i = 0; omega))
        by_cases cp : qh Q m ≤ c1 m
        · refine ⟨-6, setP y pu pd, lpx_r ?_, Or.inl ⟨rfl, ?_⟩, by omega⟩
          · show f_X1_leastHelp_4 _ _ _ _ = _
            unfold f_X1_leastHelp_4
            rw [if_neg (by (first | omega | (simp (disch := omega) only [iI_le, iI_lt, iI_eq, iI_add, iI_sub, iI_mul, iI_neg, zm1, zm2, zm3, zm4, zm5, zm6, z0, z1, z2, z3, z4, z5, z6, z7, z8, z9, z10, z11, z12, z13, z14, z15, z20, z21, z22, z23, z24, z25, z30, z31, z33, z46, z48, z49, z57, z60, z62, z63, z64, z65, z70, z74, z75, z90, z96, z99, z102, z114, z115, z116, z117, z118, z126, z128, z236, z729, z999, z9999, z46656, z65537, z1000000] <;> omega))), bn_i g1, bn_i (p_stillOwing g2 hW hc1), if_neg cf, bn_i (p_isMan ⟨by omega, by omega⟩), b01_t (by omega), if_neg n10, bn_i (p_paidUp g2 hW hc1 hm), b01_t cp, if_neg n10, zm6]
          · intro q
            refine nfull ((en_iff hW (rch_up (fun i _ => addM_le (x := g) (x' := 1000000) (by omega) i) n1 c1 g3) (fun i hi q2 => ?_)).mp q)
            by_cases e : i = m
            · subst e
              have := q2.1
              omega
            · refine g5 i hi ⟨q2.1, ?_⟩
              have := q2.2
              rw [mny_add, if_neg e] at this ⊢
              exact this
        · have hlt : c1 m < qh Q m := by omega
          have hpm := (hW m hm).2 (c1 m) hlt
          have hB := mny_rng hW (mo := addM mo m g) hc1 m
          have hMm := hM' m hm
          have nc : mny Q (addM mo m g) c1 m < qp Q m (c1 m) := by
            rcases (show mny Q (addM mo m g) c1 m < qp Q m (c1 m) ∨ qp Q m (c1 m) ≤ mny Q (addM mo m g) c1 m by omega) with q | q
            · exact q
            · exact absurd ⟨hlt, q⟩ (g5 m hm)
          have n0 : 0 ≤ mny Q (addM mo m g) c1 m := mny_nn hW (fun i hi => (hM' i hi).1) n1 c1 g3 m hm
          obtain ⟨e1, e2, e3, e4⟩ := g2 m hm
          have elack : addM mo m (g + (qp Q m (c1 m) - mny Q (addM mo m g) c1 m)) = addM (addM mo m g) m (qp Q m (c1 m) - mny Q (addM mo m g) c1 m) := by
            funext i
            by_cases e : i = m
            · subst e
              rw [addM_s, addM_s, addM_s]
              omega
            · rw [addM_n e, addM_n e, addM_n e]
          obtain ⟨z, y', k1, k2⟩ := ih (r + 1) (g + (qp Q m (c1 m) - mny Q (addM mo m g) c1 m)) (y.1, upd pu m (iI (qp Q m (c1 m))), (setP y pu pd).2.2) c1 n1 (by omega) (by omega) (by omega) (fun i hi => by
              obtain ⟨a1, a2, a3, a4⟩ := g2 i hi
              refine ⟨?_, a2, a3, a4⟩
              show upd pu m _ i = _
              rw [elack, mny_add]
              by_cases e : i = m
              · subst e
                rw [upd_s, if_pos rfl]
                congr 1
                omega
              · rw [upd_n e, if_neg e, Int.add_zero]
                exact a1) (rch_up (fun i _ => addM_le (by omega) i) n1 c1 g3) (Or.inr ⟨by omega, hlt, by rw [elack, mny_add, if_pos rfl]; omega⟩) (fun x q1 q2 => by
              rcases (show x < g ∨ g ≤ x by omega) with q | q
              · exact hx x q1 q
              · intro qe
                refine nfull ((en_iff hW (rch_up (fun i _ => addM_le (x := g) (x' := x) q i) n1 c1 g3) (fun i hi q3 => ?_)).mp qe)
                by_cases e : i = m
                · subst e
                  have a := q3.2
                  rw [mny_add, if_pos rfl] at a
                  have b := nc
                  rw [mny_add, if_pos rfl] at b
                  have q2' := q2
                  rw [mny_add, if_pos rfl] at q2'
                  omega
                · refine g5 i hi ⟨q3.1, ?_⟩
                  have := q3.2
                  rw [mny_add, if_neg e] at this ⊢
                  exact this)
          refine ⟨z, y', (lpx_l ?_).trans k1, k2⟩
          show f_X1_leastHelp_4 _ _ _ _ = _
          unfold f_X1_leastHelp_4 nm
          have e1' : pu m = iI (mny Q (addM mo m g) c1 m) := e1
          have e3' : pd m = iI (c1 m) := e3
          have e4' : y.2.2.2.2.1 (m * 5 + c1 m) = iI (qp Q m (c1 m)) := (e4 (c1 m) hlt).2
          rw [if_neg (by (first | omega | (simp (disch := omega) only [iI_le, iI_lt, iI_eq, iI_add, iI_sub, iI_mul, iI_neg, zm1, zm2, zm3, zm4, zm5, zm6, z0, z1, z2, z3, z4, z5, z6, z7, z8, z9, z10, z11, z12, z13, z14, z15, z20, z21, z22, z23, z24, z25, z30, z31, z33, z46, z48, z49, z57, z60, z62, z63, z64, z65, z70, z74, z75, z90, z96, z99, z102, z114, z115, z116, z117, z118, z126, z128, z236, z729, z999, z9999, z46656, z65537, z1000000] <;> omega))), bn_i g1, bn_i (p_stillOwing g2 hW hc1), if_neg cf, bn_i (p_isMan ⟨by omega, by omega⟩), b01_t (by omega), if_neg n10, bn_i (p_paidUp g2 hW hc1 hm), b01_f cp, if_pos rfl, ck_N hm (by omega), cl_N (n := m) (by omega)]
          dsimp only
          rw [e3', ixV, ck_N (by omega) (by omega), cl_N (n := m * 5 + c1 m) (by omega), e4', e1', iI_sub, iI_add, iI_add, iI_s (r), show mny Q (addM mo m g) c1 m + (qp Q m (c1 m) - mny Q (addM mo m g) c1 m) = qp Q m (c1 m) by omega]
  have e0 : addM mo m 0 = mo := by
    funext i
    unfold addM
    split <;> omega
  have hl := loop 6 0 0 y (fun _ => 0) 0 (by omega) (by omega) (by omega) (by rw [e0]; exact hy) rfl (Or.inl rfl) (fun x q1 q2 => absurd q1 (by omega))
  exact hl
