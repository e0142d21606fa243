/-! SNAPSHOTS of a valley -/
/-- money, height, lender, pence, day -/
abbrev SV : Type := (Nat → Int) × (Nat → Nat) × (Nat → Nat → Int) × (Nat → Nat → Int) × (Nat → Nat → Int)
abbrev mon (S : SV) : Nat → Int := S.1
abbrev hg (S : SV) : Nat → Nat := S.2.1
abbrev ln (S : SV) : Nat → Nat → Int := S.2.2.1
abbrev pe (S : SV) : Nat → Nat → Int := S.2.2.2.1
abbrev dy (S : SV) : Nat → Nat → Int := S.2.2.2.2
/-- a class's Valley holds the snapshot -/
def rV (v : VS) (S : SV) : Prop := ∀ m, m < 6 → v.1 m = iI (mon S m) ∧ v.2.1 m = iI (hg S m) ∧ ∀ k, k < hg S m → v.2.2.1 (m * 5 + k) = iI (ln S m k) ∧ v.2.2.2.1 (m * 5 + k) = iI (pe S m k) ∧ v.2.2.2.2.1 (m * 5 + k) = iI (dy S m k)
/-- the reference's rows hold it -/
def rM (mo sz pi : AI) (S : SV) : Prop := ∀ m, m < 6 → mo m = iI (mon S m) ∧ sz m = iI (hg S m) ∧ ∀ k, k < hg S m → pi (15 * m + 3 * k) = iI (ln S m k) ∧ pi (15 * m + 3 * k + 1) = iI (pe S m k) ∧ pi (15 * m + 3 * k + 2) = iI (dy S m k)
def sum6 (f : Nat → Int) : Int := f 0 + f 1 + f 2 + f 3 + f 4 + f 5
/-- bounds: money not below 0, its sum, heights, lenders, pence, days -/
def gd (B : Int) (S : SV) : Prop := (∀ m, m < 6 → 0 ≤ mon S m ∧ hg S m ≤ 5 ∧ ∀ k, k < hg S m → 0 ≤ ln S m k ∧ ln S m k < 6 ∧ 1 ≤ pe S m k ∧ pe S m k ≤ 9999) ∧ sum6 (mon S) ≤ B
theorem gd.le {B : Int} {S : SV} (h : gd B S) {m : Nat} (hm : m < 6) : mon S m ≤ B := by
  have h0 := (h.1 0 (by omega)).1
  have h1 := (h.1 1 (by omega)).1
  have h2 := (h.1 2 (by omega)).1
  have h3 := (h.1 3 (by omega)).1
  have h4 := (h.1 4 (by omega)).1
  have h5 := (h.1 5 (by omega)).1
  have hs := h.2
  unfold sum6 at hs
  rcases (show m = 0 ∨ m = 1 ∨ m = 2 ∨ m = 3 ∨ m = 4 ∨ m = 5 by omega) with rfl | rfl | rfl | rfl | rfl | rfl <;> omega
/-- is there such a debt -/
abbrev isD (S : SV) (m k : Int) : Prop := 0 ≤ m ∧ m < 6 ∧ 0 ≤ k ∧ k < hg S m.toNat
/-- by the law L the debt j is asked for not later than the debt k -/
def nl (L : Int) (p : Nat → Int) (j k : Nat) : Prop := if L = 1 then j ≤ k else if L = 2 then p k < p j ∨ (p j = p k ∧ k ≤ j) else k ≤ j
theorem nl_refl (L : Int) (p : Nat → Int) (j : Nat) : nl L p j j := by unfold nl; split; omega; split <;> omega
theorem nl_anti {L : Int} {p : Nat → Int} {j k : Nat} (h : nl L p j k) (h2 : nl L p k j) : j = k := by
  unfold nl at h h2
  split at h
  · rw [if_pos (by assumption)] at h2; omega
  · rw [if_neg (by assumption)] at h2
    split at h
    · rw [if_pos (by assumption)] at h2; omega
    · rw [if_neg (by assumption)] at h2; omega
theorem nl_trans {L : Int} {p : Nat → Int} {i j k : Nat} (h : nl L p i j) (h2 : nl L p j k) : nl L p i k := by
  unfold nl at h h2 ⊢
  split at h
  · rw [if_pos (by assumption)] at h2 ⊢; omega
  · rw [if_neg (by assumption)] at h2 ⊢
    split at h
    · rw [if_pos (by assumption)] at h2 ⊢; omega
    · rw [if_neg (by assumption)] at h2 ⊢; omega
theorem nl_total (L : Int) (p : Nat → Int) (j k : Nat) : nl L p j k ∨ nl L p k j := by
  unfold nl
  split
  · omega
  · split <;> omega
/-- the debt that is due among h -/
noncomputable def dueF (L : Int) (p : Nat → Int) : Nat → Nat
  | 0 => 0
  | 1 => 0
  | h + 2 => @ite _ (nl L p (h + 1) (dueF L p (h + 1))) (Classical.propDecidable _) (h + 1) (dueF L p (h + 1))
theorem dueF_min (L : Int) (p : Nat → Int) : ∀ h, 0 < h → dueF L p h < h ∧ ∀ j, j < h → nl L p (dueF L p h) j
  | 0, h => absurd h (by omega)
  | 1, _ => ⟨by unfold dueF; omega, fun j hj => by have : j = 0 := by omega
                                                   subst this; exact nl_refl _ _ _⟩
  | h + 2, _ => by
    obtain ⟨h1, h2⟩ := dueF_min L p (h + 1) (by omega)
    unfold dueF
    by_cases c : nl L p (h + 1) (dueF L p (h + 1))
    · rw [if_pos c]
      refine ⟨by omega, fun j hj => ?_⟩
      rcases Nat.lt_or_ge j (h + 1) with q | q
      · exact nl_trans c (h2 j q)
      · have : j = h + 1 := by omega
        subst this; exact nl_refl _ _ _
    · rw [if_neg c]
      refine ⟨by omega, fun j hj => ?_⟩
      rcases Nat.lt_or_ge j (h + 1) with q | q
      · exact h2 j q
      · have : j = h + 1 := by omega
        subst this
        exact (nl_total L p _ _).resolve_left c
theorem dueF_one {L : Int} {p : Nat → Int} {h i : Nat} (hi : i < h) (hm : ∀ j, j < h → nl L p i j) : dueF L p h = i := by
  obtain ⟨h1, h2⟩ := dueF_min L p h (by omega)
  exact nl_anti (h2 i hi) (hm _ h1)
