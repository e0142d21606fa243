/-! THE ORDER OF PAYING -/
noncomputable def ind (P : Prop) : Nat := @ite _ P (Classical.propDecidable P) 1 0
theorem ind_t {P : Prop} (h : P) : ind P = 1 := by unfold ind; rw [if_pos h]
theorem ind_f {P : Prop} (h : ¬ P) : ind P = 0 := by unfold ind; rw [if_neg h]
theorem ind_le (P : Prop) : ind P ≤ 1 := by
  by_cases h : P
  · rw [ind_t h]; omega
  · rw [ind_f h]; omega
theorem ind_iff {P Q : Prop} (h : P ↔ Q) : ind P = ind Q := by rw [propext h]
noncomputable def cn (f : Nat → Prop) : Nat → Nat
  | 0 => 0
  | n + 1 => cn f n + ind (f n)
theorem cn_le (f : Nat → Prop) : ∀ n, cn f n ≤ n
  | 0 => by unfold cn; omega
  | n + 1 => by
    have := cn_le f n
    have := ind_le (f n)
    unfold cn; omega
theorem cn_mono {f g : Nat → Prop} : ∀ n, (∀ j, j < n → f j → g j) → cn f n ≤ cn g n
  | 0, _ => by unfold cn; omega
  | n + 1, h => by
    have ih := cn_mono n (fun j hj => h j (by omega))
    unfold cn
    by_cases c : f n
    · rw [ind_t c, ind_t (h n (by omega) c)]; omega
    · rw [ind_f c]; omega
theorem cn_lt {f g : Nat → Prop} : ∀ n, (∀ j, j < n → f j → g j) → ∀ i, i < n → g i → ¬ f i → cn f n < cn g n
  | 0, _, i, hi, _, _ => absurd hi (by omega)
  | n + 1, h, i, hi, h1, h2 => by
    unfold cn
    by_cases e : i = n
    · subst e
      have := cn_mono i (fun j hj => h j (by omega))
      rw [ind_t h1, ind_f h2]; omega
    · have := cn_lt n (fun j hj => h j (by omega)) i (by omega) h1 h2
      by_cases c : f n
      · rw [ind_t c, ind_t (h n (by omega) c)]; omega
      · rw [ind_f c]; omega
theorem cn_cong {f g : Nat → Prop} : ∀ n, (∀ j, j < n → (f j ↔ g j)) → cn f n = cn g n
  | 0, _ => rfl
  | n + 1, h => by
    unfold cn
    rw [cn_cong n (fun j hj => h j (by omega)), ind_iff (h n (by omega))]
theorem cn_0 {f : Nat → Prop} : ∀ n, (∀ j, j < n → ¬ f j) → cn f n = 0
  | 0, _ => rfl
  | n + 1, h => by
    unfold cn
    rw [cn_0 n (fun j hj => h j (by omega)), ind_f (h n (by omega))]
/-- a place among all but the place d -/
def un (d k : Nat) : Nat := if d ≤ k then k + 1 else k
theorem un_ne (d k : Nat) : un d k ≠ d := by unfold un; split <;> omega
theorem un_le (d j k : Nat) : un d j ≤ un d k ↔ j ≤ k := by unfold un; split <;> split <;> omega
theorem un_lt {d k h : Nat} (hk : k < h) : un d k < h + 1 := by unfold un; split <;> omega
theorem un_ex {d k h : Nat} (hk : k < h + 1) (hne : k ≠ d) (hd : d < h + 1) : ∃ j, j < h ∧ un d j = k := by
  rcases Nat.lt_or_ge k d with q | q
  · exact ⟨k, by omega, by unfold un; rw [if_neg (by omega)]⟩
  · exact ⟨k - 1, by omega, by unfold un; rw [if_pos (by omega)]; omega⟩
theorem cn_un (f : Nat → Prop) (d : Nat) : ∀ n, d ≤ n → cn f (n + 1) = cn (fun j => f (un d j)) n + ind (f d) := by
  intro n
  induction n with
  | zero =>
    intro h
    have : d = 0 := by omega
    subst this
    rfl
  | succ n ih =>
    intro h
    by_cases e : d = n + 1
    · subst e
      show cn f (n + 1) + _ = _
      rw [cn_cong (f := fun j => f (un (n + 1) j)) (g := f) (n + 1) (fun j hj => by show f (un (n + 1) j) ↔ f j; unfold un; rw [if_neg (by omega)])]
    · show cn f (n + 1) + ind (f (n + 1)) = cn (fun j => f (un d j)) n + ind (f (un d n)) + ind (f d)
      rw [ih (by omega)]
      have : un d n = n + 1 := by unfold un; rw [if_pos (by omega)]
      rw [this]
      omega
theorem nl_un (L : Int) (p : Nat → Int) (d j k : Nat) : nl L (fun i => p (un d i)) j k ↔ nl L p (un d j) (un d k) := by
  unfold nl
  have h1 := un_le d j k
  have h2 := un_le d k j
  by_cases c1 : L = 1
  · rw [if_pos c1, if_pos c1]; omega
  · rw [if_neg c1, if_neg c1]
    by_cases c2 : L = 2
    · rw [if_pos c2, if_pos c2, h2]
    · rw [if_neg c2, if_neg c2, h2]
/-- the how manieth of his payings pays the debt k of h -/
noncomputable def tn (L : Int) (p : Nat → Int) (h k : Nat) : Nat := cn (fun j => nl L p j k) h
theorem tn_le (L : Int) (p : Nat → Int) (h k : Nat) : tn L p h k ≤ h := cn_le _ _
theorem tn_nl {L : Int} {p : Nat → Int} {h j k : Nat} (hj : j < h) (hk : k < h) : nl L p j k ↔ tn L p h j ≤ tn L p h k := by
  constructor
  · intro q
    exact cn_mono h (fun i _ hi => nl_trans hi q)
  · intro q
    by_cases c : nl L p j k
    · exact c
    · exfalso
      have c2 := (nl_total L p j k).resolve_left c
      have := cn_lt (f := fun i => nl L p i k) (g := fun i => nl L p i j) h (fun i _ hi => nl_trans hi c2) j hj (nl_refl _ _ _) c
      unfold tn at q
      omega
theorem tn_inj {L : Int} {p : Nat → Int} {h j k : Nat} (hj : j < h) (hk : k < h) (e : tn L p h j = tn L p h k) : j = k :=
  nl_anti ((tn_nl (L := L) (p := p) hj hk).mpr (by omega)) ((tn_nl (L := L) (p := p) hk hj).mpr (by omega))
theorem tn_due {L : Int} {p : Nat → Int} {h : Nat} : tn L p (h + 1) (dueF L p (h + 1)) = 1 := by
  obtain ⟨h1, h2⟩ := dueF_min L p (h + 1) (by omega)
  unfold tn
  rw [cn_un _ (dueF L p (h + 1)) h (by omega), ind_t (nl_refl _ _ _), cn_0]
  intro j hj q
  exact un_ne _ _ (nl_anti q (h2 _ (un_lt hj)))
theorem tn_un {L : Int} {p : Nat → Int} {h k : Nat} (hk : k < h) : tn L p (h + 1) (un (dueF L p (h + 1)) k) = tn L (fun i => p (un (dueF L p (h + 1)) i)) h k + 1 := by
  obtain ⟨h1, h2⟩ := dueF_min L p (h + 1) (by omega)
  unfold tn
  rw [cn_un _ (dueF L p (h + 1)) h (by omega), ind_t (h2 _ (un_lt hk))]
  congr 1
  exact cn_cong h (fun j _ => (nl_un L p _ j k).symm)
/-- the debt that is paid t-th -/
noncomputable def qk (L : Int) : Nat → (Nat → Int) → Nat → Nat
  | 0, _, _ => 0
  | h + 1, p, 0 => dueF L p (h + 1)
  | h + 1, p, t + 1 => un (dueF L p (h + 1)) (qk L h (fun i => p (un (dueF L p (h + 1)) i)) t)
theorem qk_ok (L : Int) : ∀ (h : Nat) (p : Nat → Int) (t : Nat), t < h → qk L h p t < h ∧ tn L p h (qk L h p t) = t + 1
  | 0, _, _, h => absurd h (by omega)
  | h + 1, p, 0, _ => ⟨(dueF_min L p (h + 1) (by omega)).1, tn_due⟩
  | h + 1, p, t + 1, ht => by
    obtain ⟨h1, h2⟩ := qk_ok L h (fun i => p (un (dueF L p (h + 1)) i)) t (by omega)
    refine ⟨un_lt h1, ?_⟩
    show tn L p (h + 1) (un (dueF L p (h + 1)) (qk L h (fun i => p (un (dueF L p (h + 1)) i)) t)) = _
    rw [tn_un h1, h2]
theorem qk_0 {L : Int} {h : Nat} {p : Nat → Int} (hh : 0 < h) : qk L h p 0 = dueF L p h := by
  cases h with
  | zero => exact absurd hh (by omega)
  | succ h => rfl
theorem tn_pos {L : Int} {p : Nat → Int} {h k : Nat} (hk : k < h) : 1 ≤ tn L p h k := by
  obtain ⟨h1, h2⟩ := qk_ok L h p 0 (by omega)
  have := (tn_nl (L := L) (p := p) h1 hk).mp (by rw [qk_0 (by omega)]; exact (dueF_min L p h (by omega)).2 k hk)
  omega
theorem qk_tn {L : Int} {p : Nat → Int} {h k : Nat} (hk : k < h) : qk L h p (tn L p h k - 1) = k := by
  have h0 := tn_pos (L := L) (p := p) hk
  have h1 := tn_le L p h k
  obtain ⟨h2, h3⟩ := qk_ok L h p (tn L p h k - 1) (by omega)
  exact tn_inj (L := L) (p := p) h2 hk (by omega)
theorem qk_iff {L : Int} {p : Nat → Int} {h k t : Nat} (hk : k < h) (ht : t < h) : qk L h p t = k ↔ tn L p h k = t + 1 := by
  constructor
  · intro e; rw [← e]; exact (qk_ok L h p t ht).2
  · intro e
    have := qk_tn (L := L) (p := p) hk
    rw [e] at this
    exact this
theorem p_turnOf {v : VS} {S : SV} {B L : Int} (hr : rV v S) (hG : gd B S) (hL : v.2.2.2.2.2.2.2.2.2.1 = iI L) (hL2 : 0 ≤ L ∧ L ≤ 2) {m k : Nat} (hm : m < 6) (hk : k < hg S m) : f_X2_turnOf v (iI m) (iI k) = some (iI ((tn L (pe S m) (hg S m) k : Nat) : Int)) := by
  have h5 := (hG.1 m hm).2.1
  have loop : ∀ (n j : Nat), j + n = hg S m → lpx (st_X2_turnOf v (iI m) (iI k)) (iI ((cn (fun i => nl L (pe S m) i k) j : Nat) : Int), iI j) = some (iI ((tn L (pe S m) (hg S m) k : Nat) : Int)) := by
    intro n
    induction n with
    | zero =>
      intro j hj
      have : j = hg S m := by omega
      subst this
      refine lpx_r ?_
      show f_X2_turnOf_5 v (iI m) (iI k) _ _ = _
      unfold f_X2_turnOf_5
      rw [bn_i (p_debtsOf hr hm), if_pos (by (first | omega | (simp (disch := omega) only [iI_le, iI_lt, iI_eq, iI_add, iI_sub, iI_mul, iI_neg, zm1, zm2, zm3, zm4, zm5, zm6, z0, z1, z2, z3, z4, z5, z6, z7, z8, z9, z10, z11, z12, z13, z14, z15, z20, z21, z22, z23, z24, z25, z30, z31, z33, z46, z48, z49, z57, z60, z62, z63, z64, z65, z70, z74, z75, z90, z96, z99, z102, z114, z115, z116, z117, z118, z126, z128, z236, z729, z999, z9999, z46656, z65537, z1000000] <;> omega)))]
      rfl
    | succ n ih =>
      intro j hj
      refine (lpx_l ?_).trans (ih (j + 1) (by omega))
      show f_X2_turnOf_5 v (iI m) (iI k) _ _ = _
      unfold f_X2_turnOf_5 nm
      rw [bn_i (p_debtsOf hr hm), if_neg (by (first | omega | (simp (disch := omega) only [iI_le, iI_lt, iI_eq, iI_add, iI_sub, iI_mul, iI_neg, zm1, zm2, zm3, zm4, zm5, zm6, z0, z1, z2, z3, z4, z5, z6, z7, z8, z9, z10, z11, z12, z13, z14, z15, z20, z21, z22, z23, z24, z25, z30, z31, z33, z46, z48, z49, z57, z60, z62, z63, z64, z65, z70, z74, z75, z90, z96, z99, z102, z114, z115, z116, z117, z118, z126, z128, z236, z729, z999, z9999, z46656, z65537, z1000000] <;> omega))), bn_i (p_notLater hr hG hL hL2 hm (j := j) (by omega) hk), iI_s (j)]
      show _ = some (Sum.inl (iI ((cn (fun i => nl L (pe S m) i k) j + ind (nl L (pe S m) j k) : Nat) : Int), _))
      by_cases c : nl L (pe S m) j k
      · rw [c01_t c, if_neg n10, ind_t c, iI_s]
      · rw [c01_f c, if_pos rfl, ind_f c, z0, iI_add]
        rfl
  exact loop (hg S m) 0 (by omega)
