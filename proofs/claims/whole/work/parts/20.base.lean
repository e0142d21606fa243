/-! BASE: partial functions, loops without fuel, worlds of this program, calls by contract -/
def ck {α : Type} (i : Int32) (n : Nat) (k : Option α) : Option α := if i < 0 ∨ n ≤ i.toNatClampNeg then none else k
theorem ck_s {α : Type} {i : Int32} {n : Nat} {k : Option α} {x : α} (h : ck i n k = some x) : vp_in i n ∧ k = some x := by
  unfold ck at h
  by_cases c : i < 0 ∨ n ≤ i.toNatClampNeg
  · rw [if_pos c] at h; cases h
  · rw [if_neg c] at h; exact ⟨c, h⟩
theorem ck_i {α : Type} {i : Int32} {n : Nat} {k : Option α} (h : vp_in i n) : ck i n k = k := if_neg h
def dz {α : Type} (y : Int32) (k : Option α) : Option α := if y = 0 then none else k
theorem dz_s {α : Type} {y : Int32} {k : Option α} {x : α} (h : dz y k = some x) : ¬ y = 0 ∧ k = some x := by
  unfold dz at h
  by_cases c : y = 0
  · rw [if_pos c] at h; cases h
  · rw [if_neg c] at h; exact ⟨c, h⟩
theorem dz_i {α : Type} {y : Int32} {k : Option α} (h : ¬ y = 0) : dz y k = k := if_neg h
def dzl {α : Type} (y : Int64) (k : Option α) : Option α := if y = 0 then none else k
theorem dzl_s {α : Type} {y : Int64} {k : Option α} {x : α} (h : dzl y k = some x) : ¬ y = 0 ∧ k = some x := by
  unfold dzl at h
  by_cases c : y = 0
  · rw [if_pos c] at h; cases h
  · rw [if_neg c] at h; exact ⟨c, h⟩
theorem dzl_i {α : Type} {y : Int64} {k : Option α} (h : ¬ y = 0) : dzl y k = k := if_neg h
def bn {α β : Type} (o : Option α) (k : α → Option β) : Option β := match o with
  | none => none
  | some z => k z
theorem bn_s {α β : Type} {o : Option α} {k : α → Option β} {x : β} (h : bn o k = some x) : ∃ z, o = some z ∧ k z = some x := by
  cases o with
  | none => cases h
  | some z => exact ⟨z, rfl, h⟩
theorem bn_i {α β : Type} {o : Option α} {k : α → Option β} {z : α} (h : o = some z) : bn o k = k z := by rw [h]; rfl
def nm {α β : Type} (e : α) (k : α → β) : β := k e
theorem nm_s {α β : Type} {e x : α} {k : α → β} {y : β} (h : nm e k = y) (ex : x = e) : k x = y := by subst ex; exact h
theorem it_p {c : Prop} [Decidable c] {α : Type} {a b x : α} (hc : c) (h : (if c then a else b) = x) : a = x := by rw [if_pos hc] at h; exact h
theorem it_n {c : Prop} [Decidable c] {α : Type} {a b x : α} (hc : ¬ c) (h : (if c then a else b) = x) : b = x := by rw [if_neg hc] at h; exact h
/-- a loop, n rounds at most -/
def lpn {σ ρ : Type} (st : σ → Option (σ ⊕ ρ)) : Nat → σ → Option ρ
  | 0, _ => none
  | n + 1, y => match st y with
    | none => none
    | some (.inl z) => lpn st n z
    | some (.inr r) => some r
def lpo {σ ρ : Type} (st : σ → Option (σ ⊕ ρ)) (n : Nat) (o : σ ⊕ ρ) (r : ρ) : Prop := match o with
  | .inl z => lpn st n z = some r
  | .inr q => q = r
theorem lpn_s {σ ρ : Type} {st : σ → Option (σ ⊕ ρ)} {n : Nat} {y : σ} {r : ρ} (h : lpn st (n + 1) y = some r) : ∃ o, st y = some o ∧ lpo st n o r := by
  unfold lpn at h
  cases e : st y with
  | none => rw [e] at h; cases h
  | some o =>
    rw [e] at h
    refine ⟨o, rfl, ?_⟩
    cases o with
    | inl z => exact h
    | inr q => exact Option.some.inj h
theorem lpn_i {σ ρ : Type} {st : σ → Option (σ ⊕ ρ)} {n : Nat} {y : σ} {r : ρ} {o : σ ⊕ ρ} (e : st y = some o) (h : lpo st n o r) : lpn st (n + 1) y = some r := by
  unfold lpn
  rw [e]
  cases o with
  | inl z => exact h
  | inr q => exact congrArg some h
theorem lpn_up {σ ρ : Type} {st : σ → Option (σ ⊕ ρ)} {r : ρ} : ∀ (n : Nat) (y : σ), lpn st n y = some r → lpn st (n + 1) y = some r := by
  intro n
  induction n with
  | zero => intro y h; cases h
  | succ n ih =>
    intro y h
    obtain ⟨o, e, q⟩ := lpn_s h
    refine lpn_i e ?_
    cases o with
    | inl z => exact ih z q
    | inr q' => exact q
theorem lpn_le {σ ρ : Type} {st : σ → Option (σ ⊕ ρ)} {r : ρ} {n k : Nat} {y : σ} (h : lpn st n y = some r) : lpn st (n + k) y = some r := by
  induction k with
  | zero => exact h
  | succ k ih => exact lpn_up _ _ ih
theorem lpn_one {σ ρ : Type} {st : σ → Option (σ ⊕ ρ)} {r r' : ρ} {n k : Nat} {y : σ} (h : lpn st n y = some r) (h' : lpn st k y = some r') : r = r' := by
  have e1 := lpn_le (k := k) h
  have e2 := lpn_le (k := n) h'
  rw [Nat.add_comm] at e2
  exact Option.some.inj (e1.symm.trans e2)
/-- a loop, as many rounds as it takes -/
noncomputable def lpx {σ ρ : Type} (st : σ → Option (σ ⊕ ρ)) (y : σ) : Option ρ :=
  @dite _ (∃ r n, lpn st n y = some r) (Classical.propDecidable _) (fun h => some (Classical.choose h)) (fun _ => none)
theorem lpx_of {σ ρ : Type} {st : σ → Option (σ ⊕ ρ)} {r : ρ} {n : Nat} {y : σ} (h : lpn st n y = some r) : lpx st y = some r := by
  have hx : ∃ r n, lpn st n y = some r := ⟨r, n, h⟩
  unfold lpx
  rw [dif_pos hx]
  obtain ⟨k, hk⟩ := Classical.choose_spec hx
  exact congrArg some (lpn_one hk h)
theorem lpx_to {σ ρ : Type} {st : σ → Option (σ ⊕ ρ)} {r : ρ} {y : σ} (h : lpx st y = some r) : ∃ n, lpn st n y = some r := by
  unfold lpx at h
  by_cases hx : ∃ r n, lpn st n y = some r
  · rw [dif_pos hx] at h
    obtain ⟨k, hk⟩ := Classical.choose_spec hx
    exact ⟨k, by rw [hk]; exact h⟩
  · rw [dif_neg hx] at h; cases h
theorem lpx_r {σ ρ : Type} {st : σ → Option (σ ⊕ ρ)} {r : ρ} {y : σ} (h : st y = some (.inr r)) : lpx st y = some r := lpx_of (n := 1) (lpn_i h rfl)
theorem lpx_l {σ ρ : Type} {st : σ → Option (σ ⊕ ρ)} {y z : σ} (h : st y = some (.inl z)) : lpx st y = lpx st z := by
  cases e : lpx st z with
  | some r =>
    obtain ⟨n, hn⟩ := lpx_to e
    exact lpx_of (lpn_i h hn)
  | none =>
    cases e2 : lpx st y with
    | none => rfl
    | some r =>
      obtain ⟨n, hn⟩ := lpx_to e2
      cases n with
      | zero => cases hn
      | succ n =>
        obtain ⟨o, a, b⟩ := lpn_s hn
        rw [h] at a
        cases a
        rw [lpx_of b] at e
        cases e
noncomputable def rnx {σ ρ : Type} (st : σ → Option (σ ⊕ ρ)) (o : Option (σ ⊕ ρ)) : Option ρ := match o with
  | none => none
  | some (.inl z) => lpx st z
  | some (.inr r) => some r
theorem rnx_s {σ ρ : Type} {st : σ → Option (σ ⊕ ρ)} {o : Option (σ ⊕ ρ)} {r : ρ} (h : rnx st o = some r) : ∃ q n, o = some q ∧ lpo st n q r := by
  cases o with
  | none => cases h
  | some q =>
    cases q with
    | inl z =>
      obtain ⟨n, hn⟩ := lpx_to (show lpx st z = some r from h)
      exact ⟨_, n, rfl, hn⟩
    | inr q => exact ⟨_, 0, rfl, Option.some.inj h⟩
