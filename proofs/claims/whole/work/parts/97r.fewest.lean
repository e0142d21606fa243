/-! SOON in the class: the fewest payings; the law's case -/
def limF (a w : Nat) (cs : Nat → Nat) : Nat → Nat := fun m => if m = a then w else cs m
abbrev setL (y : YS) (li we : AI) (W : Int32) : YS := (y.1, y.2.1, y.2.2.1, y.2.2.2.1, y.2.2.2.2.1, y.2.2.2.2.2.1, li, we, y.2.2.2.2.2.2.2.2.1, W)
theorem p_setLimits {y : YS} {cs : Nat → Nat} (hpd : ∀ m, m < 6 → y.2.2.2.2.2.1 m = iI (cs m)) {a w : Nat} (ha : a < 6) (hlim : ∀ m, m < 6 → limF a w cs m ≤ 5) (hw6 : wt (bl (limF a w cs)) 6 ≤ 46656) : ∃ li we, f_X1_setLimits y (iI a) (iI w) = some (setL y li we (iI (((wt (bl (limF a w cs)) 6 + 63) / 64 : Nat) : Int))) ∧ ∀ m, m < 6 → li m = iI (limF a w cs m) ∧ we m = iI (wt (bl (limF a w cs)) m) := by
  have loop : ∀ (j m : Nat) (li we : AI), m + j = 6 → (∀ i, i < m → li i = iI (limF a w cs i) ∧ we i = iI (wt (bl (limF a w cs)) i)) → ∃ li' we', lpx (st_X1_setLimits (iI a) (iI w)) (setL y li we y.2.2.2.2.2.2.2.2.2, iI (wt (bl (limF a w cs)) m), iI m) = some (setL y li' we' (iI (((wt (bl (limF a w cs)) 6 + 63) / 64 : Nat) : Int))) ∧ ∀ i, i < 6 → li' i = iI (limF a w cs i) ∧ we' i = iI (wt (bl (limF a w cs)) i) := by
    intro j
    induction j with
    | zero =>
      intro m li we hm h
      have : m = 6 := by omega
      subst this
      refine ⟨li, we, lpx_r ?_, h⟩
      generalize wt (bl (limF a w cs)) 6 = X at *
      have e : iI (X : Int) + 64 - 1 = iI ((X + 63 : Nat) : Int) := by
        rw [z64, z1, iI_add, iI_sub]
        congr 1
        omega
      have e2 : (iI (X : Int) + 64 - 1) / 64 = iI (((X + 63) / 64 : Nat) : Int) := by
        rw [e, z64, iI_div (by omega) (by omega) (by omega) (by omega)]
        congr 1
      show f_X1_setLimits_5 (iI a) (iI w) _ _ _ = _
      unfold f_X1_setLimits_5 nm
      dsimp only
      rw [if_pos (by (first | omega | (simp (disch := omega) only [iI_le, iI_lt, iI_eq, iI_add, iI_sub, iI_mul, iI_neg, zm1, zm2, zm3, zm4, zm5, zm6, z0, z1, z2, z3, z4, z5, z6, z7, z8, z9, z10, z11, z12, z13, z14, z15, z20, z21, z22, z23, z24, z25, z30, z31, z33, z46, z48, z49, z57, z60, z62, z63, z64, z65, z70, z74, z75, z90, z96, z99, z102, z114, z115, z116, z117, z118, z126, z128, z236, z729, z999, z9999, z46656, z65537, z1000000] <;> omega))), e2, if_neg (by (first | omega | (simp (disch := omega) only [iI_le, iI_lt, iI_eq, iI_add, iI_sub, iI_mul, iI_neg, zm1, zm2, zm3, zm4, zm5, zm6, z0, z1, z2, z3, z4, z5, z6, z7, z8, z9, z10, z11, z12, z13, z14, z15, z20, z21, z22, z23, z24, z25, z30, z31, z33, z46, z48, z49, z57, z60, z62, z63, z64, z65, z70, z74, z75, z90, z96, z99, z102, z114, z115, z116, z117, z118, z126, z128, z236, z729, z999, z9999, z46656, z65537, z1000000] <;> omega)))]
    | succ j ih =>
      intro m li we hm h
      have hm6 : m < 6 := by omega
      have h5 := hlim m hm6
      have hmul : iI (wt (bl (limF a w cs)) m) * (iI (limF a w cs m) + 1) = iI (wt (bl (limF a w cs)) (m + 1)) := by
        rw [iI_s, iI_mul]
        congr 1
      obtain ⟨li', we', f1, f2⟩ := ih (m + 1) (upd li m (iI (limF a w cs m))) (upd we m (iI (wt (bl (limF a w cs)) m))) (by omega) (fun i hi => by
        by_cases e : i = m
        · subst e; exact ⟨upd_s, upd_s⟩
        · rw [upd_n e, upd_n e]; exact h i (by omega))
      have e35 : f_X1_setLimits_35 (iI a) (iI w) (setL y li we y.2.2.2.2.2.2.2.2.2) (iI (wt (bl (limF a w cs)) m)) (iI m) (iI m) (iI (limF a w cs m)) = some (.inl (setL y (upd li m (iI (limF a w cs m))) (upd we m (iI (wt (bl (limF a w cs)) m))) y.2.2.2.2.2.2.2.2.2, iI (wt (bl (limF a w cs)) (m + 1)), iI ((m + 1 : Nat) : Int))) := by
        unfold f_X1_setLimits_35 nm
        dsimp only
        rw [ck_N hm6 (by omega), cl_N (by omega), ck_N hm6 (by omega), upd_s, hmul, iI_s (m)]
      refine ⟨li', we', (lpx_l ?_).trans f1, f2⟩
      show f_X1_setLimits_5 (iI a) (iI w) _ _ _ = _
      unfold f_X1_setLimits_5
      dsimp only
      rw [if_neg (by (first | omega | (simp (disch := omega) only [iI_le, iI_lt, iI_eq, iI_add, iI_sub, iI_mul, iI_neg, zm1, zm2, zm3, zm4, zm5, zm6, z0, z1, z2, z3, z4, z5, z6, z7, z8, z9, z10, z11, z12, z13, z14, z15, z20, z21, z22, z23, z24, z25, z30, z31, z33, z46, z48, z49, z57, z60, z62, z63, z64, z65, z70, z74, z75, z90, z96, z99, z102, z114, z115, z116, z117, z118, z126, z128, z236, z729, z999, z9999, z46656, z65537, z1000000] <;> omega)))]
      by_cases c : m = a
      · have el : limF a w cs m = w := by unfold limF; rw [if_pos c]
        rw [el] at e35 ⊢
        rw [if_pos (by rw [c])]
        exact e35
      · have el : limF a w cs m = cs m := by unfold limF; rw [if_neg c]
        rw [el] at e35 ⊢
        rw [if_neg (by (first | omega | (simp (disch := omega) only [iI_le, iI_lt, iI_eq, iI_add, iI_sub, iI_mul, iI_neg, zm1, zm2, zm3, zm4, zm5, zm6, z0, z1, z2, z3, z4, z5, z6, z7, z8, z9, z10, z11, z12, z13, z14, z15, z20, z21, z22, z23, z24, z25, z30, z31, z33, z46, z48, z49, z57, z60, z62, z63, z64, z65, z70, z74, z75, z90, z96, z99, z102, z114, z115, z116, z117, z118, z126, z128, z236, z729, z999, z9999, z46656, z65537, z1000000] <;> omega))), ck_N hm6 (by omega), cl_N (by omega), hpd m hm6]
        exact e35
  exact loop 6 0 y.2.2.2.2.2.2.1 y.2.2.2.2.2.2.2.1 (by omega) (fun i hi => absurd hi (by omega))
/-- in the layer of n payings -/
def Lr (Q : QU) (mo : Nat → Int) (lim : Nat → Nat) (a w n : Nat) (c : Nat → Nat) : Prop := rch Q mo n c ∧ (∀ m, m < 6 → c m ≤ lim m) ∧ c a < w
def AL2 (Q : QU) (mo : Nat → Int) (lim : Nat → Nat) (a w n p : Nat) : Prop := ∃ c, Lr Q mo lim a w n c ∧ p = enc (bl lim) c 6
theorem Lr_dig {Q : QU} {mo : Nat → Int} {lim : Nat → Nat} {a w n : Nat} {c : Nat → Nat} (h : Lr Q mo lim a w n c) : dig (bl lim) (enc (bl lim) c 6) = c ∧ enc (bl lim) c 6 < wt (bl lim) 6 := by
  have hc : ∀ m, m < 6 → c m < bl lim m := fun m hm => by have := h.2.1 m hm; show c m < lim m + 1; omega
  exact ⟨dig_encF (blp lim) hc (rch_0 n c h.1), enc_lt 6 hc⟩
theorem p_fewest {y : YS} {Q : QU} {mo : Nat → Int} (hW : Wq Q) (hM : okM mo) (hr : rY y Q mo (fun _ => 0)) (hfp : ∀ m, m < 6 → y.1 m = iI (mo m)) {a w : Nat} (ha : a < 6) (hw1 : 1 ≤ w) (hw : w ≤ qh Q a) : ∃ z y', f_X1_fewest y (iI a) (iI w) = some (iI z, y') ∧ ansS Q mo a w z := by
  obtain ⟨pu, pd, cs, n, e1, e2, e3, e4, e5, e6'⟩ := p_payAll hW hM y hr (show rch Q mo 0 (fun _ => 0) from rfl)
  have hcs := rch_le n cs e3
  have hq5 := (hW a ha).1
  have hpd : pd a = iI (cs a) := (e2 a ha).2.2.1
  have hca := hcs a ha
  have hmax : ∀ n' c', rch Q mo n' c' → ∀ x, x < 6 → c' x ≤ cs x := fun n' c' h => rch_max hW e5 hcs (fun _ _ => Int.le_refl _) n' c' h
  by_cases c1 : w ≤ cs a
  · have hll : ∀ m, m < 6 → limF a w cs m ≤ cs m := fun m hm => by
      unfold limF
      split
      · rename_i e; subst e; exact c1
      · exact Nat.le_refl _
    have hla : limF a w cs a = w := by unfold limF; rw [if_pos rfl]
    have hl : okL Q (limF a w cs) := fun m hm => Nat.le_trans (hll m hm) (hcs m hm)
    have hw6 := (wl hW hl 6 (Nat.le_refl _)).2
    obtain ⟨li, we, s1, s2⟩ := p_setLimits (y := setP y pu pd) (cs := cs) (fun m hm => (e2 m hm).2.2.1) (w := w) ha (fun m hm => by have := hl m hm; have := (hW m hm).1; omega) hw6
    generalize hlim : limF a w cs = lim at *
    generalize hWW : (wt (bl lim) 6 + 63) / 64 = W at *
    obtain ⟨g, g1, g2⟩ := p_fillL (N := 729) (by omega) y.2.2.2.2.2.2.2.2.1 0
    have hz : rZ (setL (setP y pu pd) li we (iI W)) Q mo lim := fun m hm => by
      obtain ⟨a1, a2, a3, a4⟩ := e2 m hm
      exact ⟨hfp m hm, a2, (s2 m hm).1, (s2 m hm).2, a4⟩
    obtain ⟨la0, m1, m2⟩ := p_mark (y := setL (setP y pu pd) li we (iI W)) (pu := pu) (pd := pd) (la := g) (p := 0) (by omega)
    have hgoal : ∃ c, rch Q mo n c ∧ w ≤ c a := ⟨cs, e3, c1⟩
    obtain ⟨n0, k1, ⟨c0, k2, k3⟩, k4⟩ := leastN (P := fun n => ∃ c, rch Q mo n c ∧ w ≤ c a) n hgoal
    have hn30 := rch_30 hW e3
    have hn0 : 1 ≤ n0 := by
      rcases Nat.eq_zero_or_pos n0 with q | q
      · subst q
        have : c0 = fun _ => 0 := k2
        rw [this] at k3
        have k3 : w ≤ 0 := k3
        omega
      · exact q
    have hno : ∀ k, k < n0 → ∀ c, rch Q mo k c → c a < w := fun k hk c hc => by
      rcases Nat.lt_or_ge (c a) w with q | q
      · exact q
      · exact absurd ⟨c, hc, q⟩ (k4 k hk)
    have hlm : ∀ k, k < n0 → ∀ c, rch Q mo k c → ∀ m, m < 6 → c m ≤ lim m := fun k hk c hc m hm => by
      rw [← hlim]
      unfold limF
      split
      · rename_i e; subst e; have := hno k hk c hc; omega
      · exact hmax k c hc m hm
    have loop : ∀ (j k : Nat) (pu1 pd1 : AI) (la1 : AL), k + 1 + j = n0 → (∀ p, p < 46656 → (bit la1 p ↔ AL2 Q mo lim a w k p)) → ∃ y', lpx (st_X1_fewest (iI a) (iI w)) (setZ (setL (setP y pu pd) li we (iI W)) pu1 pd1 la1, iI ((k + 1 : Nat) : Int)) = some (iI (n0 : Nat), y') := by
      intro j
      induction j with
      | zero =>
        intro k pu1 pd1 la1 hk hb
        obtain ⟨r, pu2, pd2, la2, f1, f2⟩ := p_spread hz hW hM hl ha (A := AL2 Q mo lim a w k) (W := W) (by omega) rfl (fun p hp => by
          obtain ⟨c, h1, h2⟩ := hp
          have := (Lr_dig h1).2
          omega) pu1 pd1 la1 hb
        have hr1 : r = 1 := by
          rcases f2 with ⟨r1, _⟩ | ⟨r1, r2, _⟩
          · exact r1
          · exfalso
            have k2' := k2
            rw [← hk] at k2'
            obtain ⟨d, m, q1, q2, q3, q4⟩ := k2'
            have hd := hno k (by omega) d q1
            have hm : m = a := by
              rcases Nat.decEq m a with e | e
              · rw [q4, stp_n (fun q => e q.symm)] at k3
                omega
              · exact e
            subst hm
            rw [q4, stp_s] at k3
            have hL : Lr Q mo lim m w k d := ⟨q1, hlm k (by omega) d q1, hd⟩
            refine r2 (enc (bl lim) d 6) ⟨d, hL, rfl⟩ ?_
            rw [(Lr_dig hL).1]
            exact ⟨q3, by omega⟩
        refine ⟨setZ (setL (setP y pu pd) li we (iI W)) pu2 pd2 la2, lpx_r ?_⟩
        show f_X1_fewest_45 (iI a) (iI w) _ _ = _
        unfold f_X1_fewest_45
        rw [if_neg (by (first | omega | (simp (disch := omega) only [iI_le, iI_lt, iI_eq, iI_add, iI_sub, iI_mul, iI_neg, zm1, zm2, zm3, zm4, zm5, zm6, z0, z1, z2, z3, z4, z5, z6, z7, z8, z9, z10, z11, z12, z13, z14, z15, z20, z21, z22, z23, z24, z25, z30, z31, z33, z46, z48, z49, z57, z60, z62, z63, z64, z65, z70, z74, z75, z90, z96, z99, z102, z114, z115, z116, z117, z118, z126, z128, z236, z729, z999, z9999, z46656, z65537, z1000000] <;> omega))), bn_i f1]
        dsimp only
        rw [if_neg (by rw [hr1]; exact n10), show k + 1 = n0 by omega]
      | succ j ih =>
        intro k pu1 pd1 la1 hk hb
        obtain ⟨r, pu2, pd2, la2, f1, f2⟩ := p_spread hz hW hM hl ha (A := AL2 Q mo lim a w k) (W := W) (by omega) rfl (fun p hp => by
          obtain ⟨c, h1, h2⟩ := hp
          have := (Lr_dig h1).2
          omega) pu1 pd1 la1 hb
        rcases f2 with ⟨r1, q, ⟨c, h1, h2⟩, h3⟩ | ⟨r1, r2, r3⟩
        · exfalso
          rw [h2, (Lr_dig h1).1] at h3
          have := hno (k + 1) (by omega) (stp c a) ⟨c, a, h1.1, ha, h3.1, rfl⟩
          rw [stp_s] at this
          have h4 := h3.2
          omega
        · obtain ⟨y', g'⟩ := ih (k + 1) pu2 pd2 la2 (by omega) (fun p hp => by
            rw [r3 p hp]
            constructor
            · rintro ⟨q, m, ⟨c, h1, h2⟩, _, h3, h4, h5⟩
              rw [h2, (Lr_dig h1).1] at h4
              have hR : rch Q mo (k + 1) (stp c m) := ⟨c, m, h1.1, h3, h4.2, rfl⟩
              refine ⟨stp c m, ⟨hR, hlm (k + 1) (by omega) _ hR, hno (k + 1) (by omega) _ hR⟩, ?_⟩
              rw [(enc_stp 6).1 h3, ← h2]
              exact h5
            · rintro ⟨c', ⟨h1, h2, h3⟩, h4⟩
              obtain ⟨c, m, q1, q2, q3, q4⟩ := h1
              have hL : Lr Q mo lim a w k c := ⟨q1, hlm k (by omega) c q1, hno k (by omega) c q1⟩
              have h2m := h2 m q2
              rw [q4, stp_s] at h2m
              refine ⟨enc (bl lim) c 6, m, ⟨c, hL, rfl⟩, trivial, q2, ?_, ?_⟩
              · rw [(Lr_dig hL).1]
                exact ⟨by omega, q3⟩
              · rw [h4, q4, (enc_stp 6).1 q2])
          refine ⟨y', (lpx_l ?_).trans g'⟩
          show f_X1_fewest_45 (iI a) (iI w) _ _ = _
          unfold f_X1_fewest_45 nm
          rw [if_neg (by (first | omega | (simp (disch := omega) only [iI_le, iI_lt, iI_eq, iI_add, iI_sub, iI_mul, iI_neg, zm1, zm2, zm3, zm4, zm5, zm6, z0, z1, z2, z3, z4, z5, z6, z7, z8, z9, z10, z11, z12, z13, z14, z15, z20, z21, z22, z23, z24, z25, z30, z31, z33, z46, z48, z49, z57, z60, z62, z63, z64, z65, z70, z74, z75, z90, z96, z99, z102, z114, z115, z116, z117, z118, z126, z128, z236, z729, z999, z9999, z46656, z65537, z1000000] <;> omega))), bn_i f1]
          dsimp only
          rw [if_pos r1, iI_s (k + 1)]
    obtain ⟨y', l1⟩ := loop (n0 - 1) 0 pu pd la0 (by omega) (fun p hp => by
      rw [m2 p]
      have hz0 : ¬ bit g p := by
        unfold bit
        rw [g2 (p / 64) (by omega)]
        simp
      constructor
      · rintro (q | q)
        · exact absurd q hz0
        · refine ⟨fun _ => 0, ⟨rfl, fun m _ => Nat.zero_le _, hw1⟩, ?_⟩
          rw [enc_0]
          exact q
      · rintro ⟨c, ⟨h1, _, _⟩, h2⟩
        have : c = fun _ => 0 := h1
        rw [this, enc_0] at h2
        exact Or.inr h2)
    refine ⟨(n0 : Nat), y', ?_, Or.inr ⟨n0, c0, rfl, k2, k3, fun n' c' q1 q2 => ?_⟩⟩
    · unfold f_X1_fewest f_X1_fewest_0 nm
      rw [bn_i e1, bn_i (p_isMan ⟨by omega, by omega⟩), b01_t (by omega), if_neg n10, ck_N ha (by omega), cl_N (by omega)]
      dsimp only
      rw [if_pos (by rw [hpd]; (first | omega | (simp (disch := omega) only [iI_le, iI_lt, iI_eq, iI_add, iI_sub, iI_mul, iI_neg, zm1, zm2, zm3, zm4, zm5, zm6, z0, z1, z2, z3, z4, z5, z6, z7, z8, z9, z10, z11, z12, z13, z14, z15, z20, z21, z22, z23, z24, z25, z30, z31, z33, z46, z48, z49, z57, z60, z62, z63, z64, z65, z70, z74, z75, z90, z96, z99, z102, z114, z115, z116, z117, z118, z126, z128, z236, z729, z999, z9999, z46656, z65537, z1000000] <;> omega))), bn_i s1, bn_i g1]
      have m1' : f_X1_mark (setZ (setL (setP y pu pd) li we (iI W)) pu pd g) 0 = _ := m1
      rw [bn_i m1']
      exact l1
    · rcases Nat.lt_or_ge n' n0 with q | q
      · exact absurd q2 (by have := hno n' q c' q1; omega)
      · exact q
  · refine ⟨-6, setP y pu pd, ?_, Or.inl ⟨rfl, fun n' c' q1 q2 => by have := hmax n' c' q1 a ha; omega⟩⟩
    unfold f_X1_fewest f_X1_fewest_0
    rw [bn_i e1, bn_i (p_isMan ⟨by omega, by omega⟩), b01_t (by omega), if_neg n10, ck_N ha (by omega), cl_N (by omega)]
    dsimp only
    rw [if_neg (by rw [hpd]; (first | omega | (simp (disch := omega) only [iI_le, iI_lt, iI_eq, iI_add, iI_sub, iI_mul, iI_neg, zm1, zm2, zm3, zm4, zm5, zm6, z0, z1, z2, z3, z4, z5, z6, z7, z8, z9, z10, z11, z12, z13, z14, z15, z20, z21, z22, z23, z24, z25, z30, z31, z33, z46, z48, z49, z57, z60, z62, z63, z64, z65, z70, z74, z75, z90, z96, z99, z102, z114, z115, z116, z117, z118, z126, z128, z236, z729, z999, z9999, z46656, z65537, z1000000] <;> omega))), zm6]
    rfl
theorem case13 {N : Nat} (hN : N ≤ 512) {st : LSt} (h : Rel N st) (a1 a2 : Int32) : ∃ st', ls_13 st a1 a2 = some st' ∧ Rel (N + 1) st' := by
  obtain ⟨F, hv, hu, hG, hp, hk⟩ := id h
  obtain ⟨x, hx, rfl⟩ := iI_ex a1
  obtain ⟨y, hy, rfl⟩ := iI_ex a2
  unfold ls_13 f_X3_soon
  rw [bn_i (p_hasDebt hv.1 hG.1 hx hy)]
  by_cases c1 : isD F.1 x y
  · obtain ⟨q1, q2, q3, q4⟩ := id c1
    obtain ⟨m, rfl⟩ := Int.eq_ofNat_of_zero_le q1
    obtain ⟨k, rfl⟩ := Int.eq_ofNat_of_zero_le q3
    have hm : m < 6 := by omega
    have hk' : k < hg F.1 m := by simpa using q4
    have hB := gF_B hG hN
    have htl := tn_le F.2.1 (pe F.1 m) (hg F.1 m) k
    have htp := tn_pos (L := F.2.1) (p := pe F.1 m) hk'
    obtain ⟨y1, l1, l2, l3⟩ := p_load hv.1 hG.1 hv.2.1 hG.2.1 st.2.2.2.2.2.2.1
    obtain ⟨z, y2, f1, f2⟩ := p_fewest (Wq_S hG.1) (mo := mon F.1) (fun i hi => ⟨(hB.1 i hi).1, by have := hB.le hi; omega⟩) l2 l3 hm (w := tn F.2.1 (pe F.1 m) (hg F.1 m) k) htp htl
    obtain ⟨T, P, C, z', g1, g2⟩ := p_msoon hu.1 hB (by omega) hu.2.1 hG.2.1 hm hk'
    have ez := ansS_one f2 g2
    subst ez
    rw [b01_t c1, if_neg n10, bn_i l1, bn_i (p_turnOf hv.1 hG.1 hv.2.1 hG.2.1 hm hk'), bn_i f1, bn_i rfl, bn_i g1, if_pos rfl]
    exact ⟨_, rfl, F, hv, hu, gF_up hG, hp, rK_up hk⟩
  · unfold f_X4_soon f_X4_soon_0
    rw [bn_i (p_isDebt hu.1 hG.1 hx hy), b01_f c1, if_pos rfl, if_pos rfl, bn_i rfl, bn_i (show rnx _ (some (Sum.inr _)) = some _ from rfl), if_pos rfl]
    exact ⟨_, rfl, Rel_up h⟩
