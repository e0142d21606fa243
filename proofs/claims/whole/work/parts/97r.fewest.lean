/-! SOON in the class: the fewest payings; the law's case -/
def limF (a w : Nat) (cs : Nat → Nat) : Nat → Nat := fun m => if m = a then w else cs m
abbrev setL (y : YS) (li we : AI) (W : Int32) : YS := (y.1, y.2.1, y.2.2.1, y.2.2.2.1, y.2.2.2.2.1, y.2.2.2.2.2.1, li, we, y.2.2.2.2.2.2.2.2.1, W)
theorem p_setLimits {y : YS} {cs : Nat → Nat} (hpd : ∀ m, m < 6 → y.2.2.2.2.2.1 m = iI (cs m)) {a : Nat} (ha : a < 6) (hlim : ∀ m, m < 6 → limF a 0 cs m ≤ 5) (hw6 : wt (bl (limF a 0 cs)) 6 ≤ 7776) : ∃ li we, f_X1_setLimits y (iI a) = some (setL y li we (iI (((wt (bl (limF a 0 cs)) 6 + 63) / 64 : Nat) : Int))) ∧ ∀ m, m < 6 → li m = iI (limF a 0 cs m) ∧ we m = iI (wt (bl (limF a 0 cs)) m) := by
  have loop : ∀ (j m : Nat) (li we : AI), m + j = 6 → (∀ i, i < m → li i = iI (limF a 0 cs i) ∧ we i = iI (wt (bl (limF a 0 cs)) i)) → ∃ li' we', lpx (st_X1_setLimits (iI a)) (setL y li we y.2.2.2.2.2.2.2.2.2, iI (wt (bl (limF a 0 cs)) m), iI m) = some (setL y li' we' (iI (((wt (bl (limF a 0 cs)) 6 + 63) / 64 : Nat) : Int))) ∧ ∀ i, i < 6 → li' i = iI (limF a 0 cs i) ∧ we' i = iI (wt (bl (limF a 0 cs)) i) := by
    intro j
    induction j with
    | zero =>
      intro m li we hm h
      have : m = 6 := by omega
      subst this
      refine ⟨li, we, lpx_r ?_, h⟩
      generalize wt (bl (limF a 0 cs)) 6 = X at *
      have e : iI (X : Int) + 64 - 1 = iI ((X + 63 : Nat) : Int) := by
        rw [z64, z1, iI_add, iI_sub]
        congr 1
        omega
      have e2 : (iI (X : Int) + 64 - 1) / 64 = iI (((X + 63) / 64 : Nat) : Int) := by
        rw [e, z64, iI_div (by omega) (by omega) (by omega) (by omega)]
        congr 1
      show f_X1_setLimits_4 (iI a) _ _ _ = _
      unfold f_X1_setLimits_4 nm
      dsimp only
      rw [if_pos (by (first | omega | (simp (disch := omega) only [iI_le, iI_lt, iI_eq, iI_add, iI_sub, iI_mul, iI_neg, zm1, zm2, zm3, zm4, zm5, zm6, z0, z1, z2, z3, z4, z5, z6, z7, z8, z9, z10, z11, z12, z13, z14, z15, z20, z21, z22, z23, z24, z25, z30, z31, z33, z46, z48, z49, z57, z60, z62, z63, z64, z65, z70, z74, z75, z90, z96, z99, z102, z114, z115, z116, z117, z118, z122, z126, z128, z236, z729, z999, z7776, z9999, z46656, z65537, z1000000] <;> omega))), e2, if_neg (by (first | omega | (simp (disch := omega) only [iI_le, iI_lt, iI_eq, iI_add, iI_sub, iI_mul, iI_neg, zm1, zm2, zm3, zm4, zm5, zm6, z0, z1, z2, z3, z4, z5, z6, z7, z8, z9, z10, z11, z12, z13, z14, z15, z20, z21, z22, z23, z24, z25, z30, z31, z33, z46, z48, z49, z57, z60, z62, z63, z64, z65, z70, z74, z75, z90, z96, z99, z102, z114, z115, z116, z117, z118, z122, z126, z128, z236, z729, z999, z7776, z9999, z46656, z65537, z1000000] <;> omega)))]
    | succ j ih =>
      intro m li we hm h
      have hm6 : m < 6 := by omega
      have h5 := hlim m hm6
      have hmul : iI (wt (bl (limF a 0 cs)) m) * (iI (limF a 0 cs m) + 1) = iI (wt (bl (limF a 0 cs)) (m + 1)) := by
        rw [iI_s, iI_mul]
        congr 1
      obtain ⟨li', we', f1, f2⟩ := ih (m + 1) (upd li m (iI (limF a 0 cs m))) (upd we m (iI (wt (bl (limF a 0 cs)) m))) (by omega) (fun i hi => by
        by_cases e : i = m
        · subst e; exact ⟨upd_s, upd_s⟩
        · rw [upd_n e, upd_n e]; exact h i (by omega))
      have e35 : f_X1_setLimits_30 (iI a) (setL y li we y.2.2.2.2.2.2.2.2.2) (iI (wt (bl (limF a 0 cs)) m)) (iI m) (iI m) (iI (limF a 0 cs m)) = some (.inl (setL y (upd li m (iI (limF a 0 cs m))) (upd we m (iI (wt (bl (limF a 0 cs)) m))) y.2.2.2.2.2.2.2.2.2, iI (wt (bl (limF a 0 cs)) (m + 1)), iI ((m + 1 : Nat) : Int))) := by
        unfold f_X1_setLimits_30 nm
        dsimp only
        rw [ck_N hm6 (by omega), cl_N (by omega), ck_N hm6 (by omega), upd_s, hmul, iI_s (m)]
      refine ⟨li', we', (lpx_l ?_).trans f1, f2⟩
      show f_X1_setLimits_4 (iI a) _ _ _ = _
      unfold f_X1_setLimits_4
      dsimp only
      rw [if_neg (by (first | omega | (simp (disch := omega) only [iI_le, iI_lt, iI_eq, iI_add, iI_sub, iI_mul, iI_neg, zm1, zm2, zm3, zm4, zm5, zm6, z0, z1, z2, z3, z4, z5, z6, z7, z8, z9, z10, z11, z12, z13, z14, z15, z20, z21, z22, z23, z24, z25, z30, z31, z33, z46, z48, z49, z57, z60, z62, z63, z64, z65, z70, z74, z75, z90, z96, z99, z102, z114, z115, z116, z117, z118, z122, z126, z128, z236, z729, z999, z7776, z9999, z46656, z65537, z1000000] <;> omega)))]
      by_cases c : m = a
      · have el : limF a 0 cs m = 0 := by unfold limF; rw [if_pos c]
        rw [el] at e35 ⊢
        rw [if_pos (by rw [c])]
        exact e35
      · have el : limF a 0 cs m = cs m := by unfold limF; rw [if_neg c]
        rw [el] at e35 ⊢
        rw [if_neg (by (first | omega | (simp (disch := omega) only [iI_le, iI_lt, iI_eq, iI_add, iI_sub, iI_mul, iI_neg, zm1, zm2, zm3, zm4, zm5, zm6, z0, z1, z2, z3, z4, z5, z6, z7, z8, z9, z10, z11, z12, z13, z14, z15, z20, z21, z22, z23, z24, z25, z30, z31, z33, z46, z48, z49, z57, z60, z62, z63, z64, z65, z70, z74, z75, z90, z96, z99, z102, z114, z115, z116, z117, z118, z122, z126, z128, z236, z729, z999, z7776, z9999, z46656, z65537, z1000000] <;> omega))), ck_N hm6 (by omega), cl_N (by omega), hpd m hm6]
        exact e35
  exact loop 6 0 y.2.2.2.2.2.2.1 y.2.2.2.2.2.2.2.1 (by omega) (fun i hi => absurd hi (by omega))
/-- what he has paid he could have paid last -/
theorem rc_hist {Q : QU} (hW : Wq Q) {mo : Nat → Int} {a : Nat} (ha : a < 6) : ∀ (n : Nat) (d : Nat → Nat), rch Q mo n d → ∀ j, j < d a → can Q mo (wa_p d a j) a
  | 0, d, h, j, hj => by
    have h : d = fun _ => 0 := h
    rw [h] at hj
    exact absurd hj (Nat.not_lt_zero _)
  | n + 1, d, h, j, hj => by
    have hle := rch_le (n + 1) d h
    obtain ⟨e, m, h1, h2, h3, rfl⟩ := h
    have ih := rc_hist hW ha n e h1
    by_cases c : m = a
    · subst c
      rw [wa_st1]
      rw [stp_s] at hj
      by_cases c2 : j = e m
      · rw [wa_id c2.symm]
        exact h3
      · exact ih j (by omega)
    · rw [stp_n (fun q => c q.symm)] at hj
      have i1 := ih j hj
      have hea := hle a ha
      rw [stp_n (fun q => c q.symm)] at hea
      rw [wa_st2 e c]
      have e1 : stp (wa_p e a j) m a = wa_p e a j a := stp_n (fun q => c q.symm)
      refine ⟨by rw [e1]; exact i1.1, ?_⟩
      rw [e1]
      refine Int.le_trans i1.2 (mny_mono hW (fun x hx => ?_) (fun x hx => ?_) e1.symm (Int.le_refl _))
      · by_cases q : x = m
        · subst q; rw [stp_s]; omega
        · exact Nat.le_of_eq (stp_n q).symm
      · by_cases q : x = m
        · subst q
          rw [stp_s, wa_n c]
          have := hle x hx
          rw [stp_s] at this
          exact this
        · rw [stp_n q]
          by_cases q2 : x = a
          · subst q2; rw [wa_s]; omega
          · rw [wa_n q2]
            have := hle x hx
            rw [stp_n q] at this
            exact this
theorem rc_pays {Q : QU} {mo : Nat → Int} {a : Nat} (ha : a < 6) {c : Nat → Nat} {n j0 : Nat} (h : rch Q mo n (wa_p c a j0)) : ∀ k, (∀ j, j0 ≤ j → j < j0 + k → can Q mo (wa_p c a j) a) → rch Q mo (n + k) (wa_p c a (j0 + k))
  | 0, _ => h
  | k + 1, hc => by
    have ih := rc_pays ha h k (fun j h1 h2 => hc j h1 (by omega))
    exact ⟨_, a, ih, ha, hc (j0 + k) (by omega) (by omega), (wa_stp c a (j0 + k)).symm⟩
/-- in the layer of k payings of the others -/
def Lo_k (Q : QU) (mo : Nat → Int) (lim : Nat → Nat) (a w : Nat) : Nat → (Nat → Nat) → Prop
  | 0, c => c = fun _ => 0
  | k + 1, c => ∃ d m, Lo_k Q mo lim a w k d ∧ m < 6 ∧ mk Q mo lim a w d m ∧ c = stp d m
theorem Lo_lim {Q : QU} {mo : Nat → Int} {lim : Nat → Nat} {a w : Nat} : ∀ (k : Nat) (c : Nat → Nat), Lo_k Q mo lim a w k c → (∀ m, m < 6 → c m ≤ lim m) ∧ ∀ m, 6 ≤ m → c m = 0
  | 0, c, h => by
    have h : c = fun _ => 0 := h
    subst h
    exact ⟨fun m _ => Nat.zero_le _, fun m _ => rfl⟩
  | k + 1, c, h => by
    obtain ⟨d, m, h1, h2, h3, rfl⟩ := h
    obtain ⟨i1, i2⟩ := Lo_lim k d h1
    refine ⟨fun x hx => ?_, fun x hx => ?_⟩
    · by_cases e : x = m
      · subst e; rw [stp_s]; exact h3.1
      · rw [stp_n e]; exact i1 x hx
    · rw [stp_n (by omega)]; exact i2 x hx
theorem Lo_snd {Q : QU} (hW : Wq Q) {mo : Nat → Int} {lim : Nat → Nat} {a w : Nat} (ha : a < 6) (hla0 : lim a = 0) : ∀ (k : Nat) (c : Nat → Nat), Lo_k Q mo lim a w k c → ∀ g, gr_d Q mo a w c g → rch Q mo (k + g) (wa_p c a g)
  | 0, c, h, g, hgr => by
    have h : c = fun _ => 0 := h
    have h0 : rch Q mo 0 (wa_p c a 0) := by
      rw [wa_id (by rw [h])]
      exact h
    have := rc_pays ha h0 g (fun j _ hj => hgr.2.1 j (by omega))
    rw [Nat.zero_add g] at this
    rw [Nat.zero_add g]
    exact this
  | k + 1, c, h, g, hgr => by
    obtain ⟨d, m, h1, h2, ⟨h3, g0, h4, h5⟩, rfl⟩ := h
    have hm : m ≠ a := fun e => by subst e; omega
    have ih := Lo_snd hW ha hla0 k d h1 g0 h4
    have hr : rch Q mo (k + g0 + 1) (wa_p (stp d m) a g0) := ⟨_, m, ih, h2, h5, wa_st2 d hm g0⟩
    have hle : g0 ≤ g := by
      rcases Nat.lt_or_ge g g0 with q | q
      · exfalso
        have h6 := rc_hist hW ha _ _ hr g (by rw [wa_s]; exact q)
        rw [wa_wa] at h6
        exact hgr.2.2 (by have := h4.1; omega) h6
      · exact q
    have := rc_pays ha hr (g - g0) (fun j _ hj => hgr.2.1 j (by omega))
    rw [show k + g0 + 1 + (g - g0) = k + 1 + g by omega, show g0 + (g - g0) = g by omega] at this
    exact this
theorem Lo_all {Q : QU} (hW : Wq Q) {mo : Nat → Int} {lim : Nat → Nat} {a w : Nat} (ha : a < 6) (hw : w ≤ qh Q a) (hlm : ∀ n c, rch Q mo n c → ∀ m, m < 6 → m ≠ a → c m ≤ lim m) : ∀ (n : Nat) (e : Nat → Nat), rch Q mo n e → e a ≤ w → ∃ k, k + e a = n ∧ Lo_k Q mo lim a w k (wa_p e a 0)
  | 0, e, h, _ => by
    have h : e = fun _ => 0 := h
    subst h
    exact ⟨0, rfl, wa_id rfl⟩
  | n + 1, e, h, hea => by
    have hle := rch_le (n + 1) e h
    have hlme := hlm (n + 1) e h
    obtain ⟨d, m, h1, h2, h3, rfl⟩ := h
    by_cases c : m = a
    · subst c
      rw [stp_s] at hea ⊢
      obtain ⟨k, k1, k2⟩ := Lo_all hW ha hw hlm n d h1 (by omega)
      exact ⟨k, by omega, by rw [wa_st1]; exact k2⟩
    · have hca : stp d m a = d a := stp_n (fun q => c q.symm)
      rw [hca] at hea ⊢
      obtain ⟨k, k1, k2⟩ := Lo_all hW ha hw hlm n d h1 hea
      obtain ⟨g, hgr⟩ := gr_ex Q mo a w (wa_p d a 0)
      have hdg : d a ≤ g := by
        rcases Nat.lt_or_ge g (d a) with q | q
        · exfalso
          have h6 := rc_hist hW ha _ _ h1 g q
          have h7 := hgr.2.2 (by omega)
          rw [wa_wa] at h7
          exact h7 h6
        · exact q
      refine ⟨k + 1, by omega, wa_p d a 0, m, k2, h2, ⟨?_, g, hgr, ?_⟩, wa_st2 d c 0⟩
      · rw [wa_n c]
        have := hlme m h2 c
        rw [stp_s] at this
        exact this
      · rw [wa_wa]
        have e1 : wa_p d a g m = d m := wa_n c
        refine ⟨by rw [e1]; exact h3.1, ?_⟩
        rw [e1]
        refine Int.le_trans h3.2 (mny_mono hW (fun x hx => ?_) (fun x hx => ?_) e1.symm (Int.le_refl _))
        · by_cases q : x = a
          · subst q; rw [wa_s]; exact hdg
          · exact Nat.le_of_eq (wa_n q).symm
        · by_cases q : x = a
          · subst q; rw [wa_s]; exact Nat.le_trans hgr.1 hw
          · rw [wa_n q]; exact rch_le n d h1 x hx
theorem rc_cut {Q : QU} {mo : Nat → Int} {a w : Nat} : ∀ (n : Nat) (e : Nat → Nat), rch Q mo n e → w ≤ e a → ∃ n' e', n' ≤ n ∧ rch Q mo n' e' ∧ e' a = w
  | 0, e, h, hea => by
    refine ⟨0, e, Nat.le_refl _, h, ?_⟩
    have h : e = fun _ => 0 := h
    rw [h] at hea ⊢
    exact (Nat.le_zero.mp hea).symm
  | n + 1, e, h, hea => by
    by_cases c0 : e a = w
    · exact ⟨n + 1, e, Nat.le_refl _, h, c0⟩
    · obtain ⟨d, m, h1, h2, h3, rfl⟩ := h
      have hda : w ≤ d a := by
        by_cases c : a = m
        · subst c
          rw [stp_s] at hea c0
          omega
        · rw [stp_n c] at hea
          exact hea
      obtain ⟨n', e', q1, q2, q3⟩ := rc_cut n d h1 hda
      exact ⟨n', e', by omega, q2, q3⟩
def AL2 (Q : QU) (mo : Nat → Int) (lim : Nat → Nat) (a w k p : Nat) : Prop := ∃ c, Lo_k Q mo lim a w k c ∧ p = enc (bl lim) c 6
theorem Lr_dig {Q : QU} {mo : Nat → Int} {lim : Nat → Nat} {a w k : Nat} {c : Nat → Nat} (h : Lo_k Q mo lim a w k c) : dig (bl lim) (enc (bl lim) c 6) = c ∧ enc (bl lim) c 6 < wt (bl lim) 6 := by
  obtain ⟨h1, h2⟩ := Lo_lim k c h
  have hc : ∀ m, m < 6 → c m < bl lim m := fun m hm => by have := h1 m hm; show c m < lim m + 1; omega
  exact ⟨dig_encF (blp lim) hc h2, enc_lt 6 hc⟩
theorem p_fewest {y : YS} {Q : QU} {mo : Nat → Int} (hW : Wq Q) (hM : okM mo) (hr : rY y Q mo (fun _ => 0)) (hfp : ∀ m, m < 6 → y.1 m = iI (mo m)) {a w : Nat} (ha : a < 6) (hw1 : 1 ≤ w) (hw : w ≤ qh Q a) : ∃ z y', f_X1_fewest y (iI a) (iI w) = some (iI z, y') ∧ ansS Q mo a w z := by
  obtain ⟨pu, pd, cs, n, e1, e2, e3, e4, e5, e6'⟩ := p_payAll hW hM y hr (show rch Q mo 0 (fun _ => 0) from rfl)
  have hcs := rch_le n cs e3
  have hq5 := (hW a ha).1
  have hpd : pd a = iI (cs a) := (e2 a ha).2.2.1
  have hca := hcs a ha
  have hmax : ∀ n' c', rch Q mo n' c' → ∀ x, x < 6 → c' x ≤ cs x := fun n' c' h => rch_max hW e5 hcs (fun _ _ => Int.le_refl _) n' c' h
  by_cases c1 : w ≤ cs a
  · have hll : ∀ m, m < 6 → limF a 0 cs m ≤ cs m := fun m hm => by
      unfold limF
      split
      · exact Nat.zero_le _
      · exact Nat.le_refl _
    have hla : limF a 0 cs a = 0 := by unfold limF; rw [if_pos rfl]
    have hl : okL Q (limF a 0 cs) := fun m hm => Nat.le_trans (hll m hm) (hcs m hm)
    have hl5 : ∀ m, m < 6 → limF a 0 cs m ≤ 5 := fun m hm => by have := hl m hm; have := (hW m hm).1; omega
    have h7 : wt (bl (limF a 0 cs)) 6 ≤ 7776 := (wt_le1 (b := bl (limF a 0 cs)) (fun m hm => by have := hl5 m hm; show limF a 0 cs m + 1 ≤ 6; omega) (a := a) (by show limF a 0 cs a + 1 = 1; rw [hla]) 6 (Nat.le_refl _)).1 ha
    obtain ⟨li, we, s1, s2⟩ := p_setLimits (y := setP y pu pd) (cs := cs) (fun m hm => (e2 m hm).2.2.1) ha hl5 h7
    have hlm : ∀ n' c', rch Q mo n' c' → ∀ m, m < 6 → m ≠ a → c' m ≤ limF a 0 cs m := fun n' c' h m hm hne => by
      unfold limF
      rw [if_neg hne]
      exact hmax n' c' h m hm
    generalize hlim : limF a 0 cs = lim at *
    generalize hWW : (wt (bl lim) 6 + 63) / 64 = W at *
    obtain ⟨g, g1, g2⟩ := p_fillL (N := 122) (by omega) y.2.2.2.2.2.2.2.2.1 0
    have hz : rZ (setL (setP y pu pd) li we (iI W)) Q mo lim := fun m hm => by
      obtain ⟨a1, a2, a3, a4⟩ := e2 m hm
      exact ⟨hfp m hm, a2, (s2 m hm).1, (s2 m hm).2, a4⟩
    obtain ⟨la0, m1, m2⟩ := p_mark (y := setL (setP y pu pd) li we (iI W)) (pu := pu) (pd := pd) (la := g) (p := 0) (by omega)
    have found : ∀ n' c', rch Q mo n' c' → w ≤ c' a → ∃ k, k + w ≤ n' ∧ ∃ c, Lo_k Q mo lim a w k c ∧ gol Q mo a w c := fun n' c' q1 q2 => by
      obtain ⟨n2, e', p1, p2, p3⟩ := rc_cut n' c' q1 q2
      obtain ⟨k, k1, k2⟩ := Lo_all hW ha hw hlm n2 e' p2 (by omega)
      refine ⟨k, by omega, _, k2, fun j hj => ?_⟩
      rw [wa_wa]
      exact rc_hist hW ha n2 e' p2 j (by omega)
    have hn30 := rch_30 hW e3
    obtain ⟨k9, k91, k92⟩ := found n cs e3 c1
    obtain ⟨k0, k1, ⟨c0, k2, k3⟩, k4⟩ := leastN (P := fun k => ∃ c, Lo_k Q mo lim a w k c ∧ gol Q mo a w c) k9 k92
    have hno : ∀ k, k < k0 → ∀ c, Lo_k Q mo lim a w k c → ¬ gol Q mo a w c := fun k hk c hc q => k4 k hk ⟨c, hc, q⟩
    have loop : ∀ (j k : Nat) (pu1 pd1 : AI) (la1 : AL), k + j = k0 → (∀ p, p < 7808 → (bit la1 p ↔ AL2 Q mo lim a w k p)) → ∃ y', lpx (st_X1_fewest (iI a) (iI w)) (setZ (setL (setP y pu pd) li we (iI W)) pu1 pd1 la1, iI (k : Int)) = some (iI ((w + k0 : Nat) : Int), y') := by
      intro j
      induction j with
      | zero =>
        intro k pu1 pd1 la1 hk hb
        have : k = k0 := by omega
        subst this
        obtain ⟨r, pu2, pd2, la2, f1, f2⟩ := p_spread hz hW hM hl ha hla hw h7 (A := AL2 Q mo lim a w k) (W := W) (by omega) rfl (fun p hp => by
          obtain ⟨c, h1, h2⟩ := hp
          have := (Lr_dig h1).2
          omega) pu1 pd1 la1 hb
        have hr1 : r = 1 := by
          rcases f2 with ⟨r1, _⟩ | ⟨r1, r2, _⟩
          · exact r1
          · exfalso
            refine r2 (enc (bl lim) c0 6) ⟨c0, k2, rfl⟩ ?_
            rw [(Lr_dig k2).1]
            exact k3
        refine ⟨setZ (setL (setP y pu pd) li we (iI W)) pu2 pd2 la2, lpx_r ?_⟩
        show f_X1_fewest_44 (iI a) (iI w) _ _ = _
        unfold f_X1_fewest_44
        rw [if_neg (by (first | omega | (simp (disch := omega) only [iI_le, iI_lt, iI_eq, iI_add, iI_sub, iI_mul, iI_neg, zm1, zm2, zm3, zm4, zm5, zm6, z0, z1, z2, z3, z4, z5, z6, z7, z8, z9, z10, z11, z12, z13, z14, z15, z20, z21, z22, z23, z24, z25, z30, z31, z33, z46, z48, z49, z57, z60, z62, z63, z64, z65, z70, z74, z75, z90, z96, z99, z102, z114, z115, z116, z117, z118, z122, z126, z128, z236, z729, z999, z7776, z9999, z46656, z65537, z1000000] <;> omega))), bn_i f1]
        dsimp only
        rw [if_neg (by rw [hr1]; exact n10), iI_aN]
      | succ j ih =>
        intro k pu1 pd1 la1 hk hb
        obtain ⟨r, pu2, pd2, la2, f1, f2⟩ := p_spread hz hW hM hl ha hla hw h7 (A := AL2 Q mo lim a w k) (W := W) (by omega) rfl (fun p hp => by
          obtain ⟨c, h1, h2⟩ := hp
          have := (Lr_dig h1).2
          omega) pu1 pd1 la1 hb
        rcases f2 with ⟨r1, q, ⟨c, h1, h2⟩, h3⟩ | ⟨r1, r2, r3⟩
        · exfalso
          rw [h2, (Lr_dig h1).1] at h3
          exact hno k (by omega) c h1 h3
        · obtain ⟨y', g'⟩ := ih (k + 1) pu2 pd2 la2 (by omega) (fun p hp => by
            rw [r3 p hp]
            constructor
            · rintro ⟨q, m, ⟨c, h1, h2⟩, _, h3, h4, h5⟩
              rw [h2, (Lr_dig h1).1] at h4
              refine ⟨stp c m, ⟨c, m, h1, h3, h4, rfl⟩, ?_⟩
              rw [(enc_stp 6).1 h3, ← h2]
              exact h5
            · rintro ⟨c', ⟨c, m, q1, q2, q3, q4⟩, h4⟩
              refine ⟨enc (bl lim) c 6, m, ⟨c, q1, rfl⟩, trivial, q2, ?_, ?_⟩
              · rw [(Lr_dig q1).1]
                exact q3
              · rw [h4, q4, (enc_stp 6).1 q2])
          refine ⟨y', (lpx_l ?_).trans g'⟩
          show f_X1_fewest_44 (iI a) (iI w) _ _ = _
          unfold f_X1_fewest_44 nm
          rw [if_neg (by (first | omega | (simp (disch := omega) only [iI_le, iI_lt, iI_eq, iI_add, iI_sub, iI_mul, iI_neg, zm1, zm2, zm3, zm4, zm5, zm6, z0, z1, z2, z3, z4, z5, z6, z7, z8, z9, z10, z11, z12, z13, z14, z15, z20, z21, z22, z23, z24, z25, z30, z31, z33, z46, z48, z49, z57, z60, z62, z63, z64, z65, z70, z74, z75, z90, z96, z99, z102, z114, z115, z116, z117, z118, z122, z126, z128, z236, z729, z999, z7776, z9999, z46656, z65537, z1000000] <;> omega))), bn_i f1]
          dsimp only
          rw [if_pos r1, iI_s (k)]
    obtain ⟨y', l1⟩ := loop k0 0 pu pd la0 (by omega) (fun p hp => by
      rw [m2 p]
      have hz0 : ¬ bit g p := by
        unfold bit
        rw [g2 (p / 64) (by omega)]
        simp
      constructor
      · rintro (q | q)
        · exact absurd q hz0
        · refine ⟨fun _ => 0, rfl, ?_⟩
          rw [enc_0]
          exact q
      · rintro ⟨c, h1, h2⟩
        have : c = fun _ => 0 := h1
        rw [this, enc_0] at h2
        exact Or.inr h2)
    have hsnd := Lo_snd hW ha hla k0 c0 k2 w ⟨Nat.le_refl _, k3, fun q => absurd q (by omega)⟩
    refine ⟨((w + k0 : Nat) : Int), y', ?_, Or.inr ⟨w + k0, wa_p c0 a w, rfl, by rw [Nat.add_comm w k0]; exact hsnd, Nat.le_of_eq wa_s.symm, fun n' c' q1 q2 => ?_⟩⟩
    · unfold f_X1_fewest f_X1_fewest_0 nm
      rw [bn_i e1, bn_i (p_isMan ⟨by omega, by omega⟩), b01_t (by omega), if_neg n10, ck_N ha (by omega), cl_N (by omega)]
      dsimp only
      rw [if_pos (by rw [hpd]; (first | omega | (simp (disch := omega) only [iI_le, iI_lt, iI_eq, iI_add, iI_sub, iI_mul, iI_neg, zm1, zm2, zm3, zm4, zm5, zm6, z0, z1, z2, z3, z4, z5, z6, z7, z8, z9, z10, z11, z12, z13, z14, z15, z20, z21, z22, z23, z24, z25, z30, z31, z33, z46, z48, z49, z57, z60, z62, z63, z64, z65, z70, z74, z75, z90, z96, z99, z102, z114, z115, z116, z117, z118, z122, z126, z128, z236, z729, z999, z7776, z9999, z46656, z65537, z1000000] <;> omega))), bn_i s1, bn_i g1]
      have m1' : f_X1_mark (setZ (setL (setP y pu pd) li we (iI W)) pu pd g) 0 = _ := m1
      rw [bn_i m1']
      exact l1
    · obtain ⟨k, p1, p2⟩ := found n' c' q1 q2
      rcases Nat.lt_or_ge k k0 with q | q
      · exact absurd p2 (k4 k q)
      · omega
  · refine ⟨-6, setP y pu pd, ?_, Or.inl ⟨rfl, fun n' c' q1 q2 => by have := hmax n' c' q1 a ha; omega⟩⟩
    unfold f_X1_fewest f_X1_fewest_0
    rw [bn_i e1, bn_i (p_isMan ⟨by omega, by omega⟩), b01_t (by omega), if_neg n10, ck_N ha (by omega), cl_N (by omega)]
    dsimp only
    rw [if_neg (by rw [hpd]; (first | omega | (simp (disch := omega) only [iI_le, iI_lt, iI_eq, iI_add, iI_sub, iI_mul, iI_neg, zm1, zm2, zm3, zm4, zm5, zm6, z0, z1, z2, z3, z4, z5, z6, z7, z8, z9, z10, z11, z12, z13, z14, z15, z20, z21, z22, z23, z24, z25, z30, z31, z33, z46, z48, z49, z57, z60, z62, z63, z64, z65, z70, z74, z75, z90, z96, z99, z102, z114, z115, z116, z117, z118, z122, z126, z128, z236, z729, z999, z7776, z9999, z46656, z65537, z1000000] <;> omega))), zm6]
    rfl
theorem case13 {N : Nat} (hN : N ≤ 512) {st : LSt} (h : Rel N st) (a1 a2 : Int32) : ∃ st', ls_13 st a1 a2 = some st' ∧ Rel (N + 1) st' := by
  obtain ⟨F, hv, hu, hG, hp, hk⟩ := id h
  obtain ⟨x, hx, rfl⟩ := iI_ex a1
  obtain ⟨y, hy, rfl⟩ := iI_ex a2
  unfold ls_13 f_X3_soon
  rw [bn_i (p_hasDebt hv.1 hG.1 hx hy)]
  by_cases c1 : isD F.1 x y
  · obtain ⟨q1, q2, q3, q4⟩ := id c1
    obtain ⟨m, rfl⟩ := Int.eq_ofNat_of_zero_le q1
    obtain ⟨k, rfl⟩ := Int.eq_ofNat_of_zero_le q3
    have hm : m < 6 := by omega
    have hk' : k < hg F.1 m := by simpa using q4
    have hB := gF_B hG hN
    have htl := tn_le F.2.1 (pe F.1 m) (hg F.1 m) k
    have htp := tn_pos (L := F.2.1) (p := pe F.1 m) hk'
    obtain ⟨y1, l1, l2, l3⟩ := p_load hv.1 hG.1 hv.2.1 hG.2.1 st.2.2.2.2.2.2.1
    obtain ⟨z, y2, f1, f2⟩ := p_fewest (Wq_S hG.1) (mo := mon F.1) (fun i hi => ⟨(hB.1 i hi).1, by have := hB.le hi; omega⟩) l2 l3 hm (w := tn F.2.1 (pe F.1 m) (hg F.1 m) k) htp htl
    obtain ⟨T, P, C, z', g1, g2⟩ := p_msoon hu.1 hB (by omega) hu.2.1 hG.2.1 hm hk'
    have ez := ansS_one f2 g2
    subst ez
    rw [b01_t c1, if_neg n10, bn_i l1, bn_i (p_turnOf hv.1 hG.1 hv.2.1 hG.2.1 hm hk'), bn_i f1, bn_i rfl, bn_i g1, if_pos rfl]
    exact ⟨_, rfl, F, hv, hu, gF_up hG, hp, rK_up hk⟩
  · unfold f_X4_soon f_X4_soon_0
    rw [bn_i (p_isDebt hu.1 hG.1 hx hy), b01_f c1, if_pos rfl, if_pos rfl, bn_i rfl, bn_i (show rnx _ (some (Sum.inr _)) = some _ from rfl), if_pos rfl]
    exact ⟨_, rfl, Rel_up h⟩
