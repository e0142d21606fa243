/-! PAYINGS: heights, lenders, pence in the order of paying; how many each man has paid -/
abbrev QU : Type := (Nat → Nat) × (Nat → Nat → Nat) × (Nat → Nat → Int)
abbrev qh (Q : QU) : Nat → Nat := Q.1
abbrev ql (Q : QU) : Nat → Nat → Nat := Q.2.1
abbrev qp (Q : QU) : Nat → Nat → Int := Q.2.2
def Wq (Q : QU) : Prop := ∀ m, m < 6 → qh Q m ≤ 5 ∧ ∀ t, t < qh Q m → ql Q m t < 6 ∧ 1 ≤ qp Q m t ∧ qp Q m t ≤ 9999
def flw (Q : QU) (i m : Nat) : Nat → Int
  | 0 => 0
  | n + 1 => flw Q i m n + ((if ql Q m n = i then qp Q m n else 0) - (if m = i then qp Q m n else 0))
/-- the money of a man when each has paid so many -/
def mny (Q : QU) (mo : Nat → Int) (c : Nat → Nat) (i : Nat) : Int := mo i + sum6 (fun m => flw Q i m (c m))
def stp (c : Nat → Nat) (m : Nat) : Nat → Nat := fun i => if i = m then c i + 1 else c i
def can (Q : QU) (mo : Nat → Int) (c : Nat → Nat) (m : Nat) : Prop := c m < qh Q m ∧ qp Q m (c m) ≤ mny Q mo c m
theorem stp_s {c : Nat → Nat} {m : Nat} : stp c m m = c m + 1 := by unfold stp; rw [if_pos rfl]
theorem stp_n {c : Nat → Nat} {m x : Nat} (h : x ≠ m) : stp c m x = c x := by unfold stp; rw [if_neg h]
theorem mny_stp {Q : QU} {mo : Nat → Int} {c : Nat → Nat} {m i : Nat} (hm : m < 6) : mny Q mo (stp c m) i = mny Q mo c i + ((if ql Q m (c m) = i then qp Q m (c m) else 0) - (if m = i then qp Q m (c m) else 0)) := by
  have e : flw Q i m (stp c m m) = flw Q i m (c m) + ((if ql Q m (c m) = i then qp Q m (c m) else 0) - (if m = i then qp Q m (c m) else 0)) := by rw [stp_s]; rfl
  have n : ∀ x, x ≠ m → flw Q i x (stp c m x) = flw Q i x (c x) := fun x hx => by rw [stp_n hx]
  generalize ((if ql Q m (c m) = i then qp Q m (c m) else 0) - (if m = i then qp Q m (c m) else 0)) = D at e ⊢
  unfold mny sum6
  dsimp only
  rcases (show m = 0 ∨ m = 1 ∨ m = 2 ∨ m = 3 ∨ m = 4 ∨ m = 5 by omega) with rfl | rfl | rfl | rfl | rfl | rfl
  · rw [e, n 1 (by omega), n 2 (by omega), n 3 (by omega), n 4 (by omega), n 5 (by omega)]; omega
  · rw [e, n 0 (by omega), n 2 (by omega), n 3 (by omega), n 4 (by omega), n 5 (by omega)]; omega
  · rw [e, n 0 (by omega), n 1 (by omega), n 3 (by omega), n 4 (by omega), n 5 (by omega)]; omega
  · rw [e, n 0 (by omega), n 1 (by omega), n 2 (by omega), n 4 (by omega), n 5 (by omega)]; omega
  · rw [e, n 0 (by omega), n 1 (by omega), n 2 (by omega), n 3 (by omega), n 5 (by omega)]; omega
  · rw [e, n 0 (by omega), n 1 (by omega), n 2 (by omega), n 3 (by omega), n 4 (by omega)]; omega
theorem flw_rng {Q : QU} (hW : Wq Q) {i x : Nat} (hx : x < 6) : ∀ n, n ≤ qh Q x → -(9999 * (n : Int)) ≤ flw Q i x n ∧ flw Q i x n ≤ 9999 * n
  | 0, _ => by unfold flw; omega
  | n + 1, h => by
    have ih := flw_rng hW (i := i) hx n (by omega)
    have := (hW x hx).2 n (by omega)
    unfold flw
    split <;> split <;> omega
theorem mny_rng {Q : QU} (hW : Wq Q) {mo : Nat → Int} {c : Nat → Nat} (hc : ∀ x, x < 6 → c x ≤ qh Q x) (i : Nat) : mo i - 299970 ≤ mny Q mo c i ∧ mny Q mo c i ≤ mo i + 299970 := by
  have h : ∀ x, x < 6 → -49995 ≤ flw Q i x (c x) ∧ flw Q i x (c x) ≤ 49995 := fun x hx => by
    have h1 := flw_rng hW (i := i) hx (c x) (hc x hx)
    have h2 := (hW x hx).1
    have h3 := hc x hx
    omega
  have h0 := h 0 (by omega)
  have h1 := h 1 (by omega)
  have h2 := h 2 (by omega)
  have h3 := h 3 (by omega)
  have h4 := h 4 (by omega)
  have h5 := h 5 (by omega)
  unfold mny sum6
  dsimp only
  omega
theorem flw_mono {Q : QU} (hW : Wq Q) {i x : Nat} (hx : x < 6) (hne : x ≠ i) (n : Nat) : ∀ k, n + k ≤ qh Q x → flw Q i x n ≤ flw Q i x (n + k)
  | 0, _ => by exact Int.le_refl _
  | k + 1, h => by
    have ih := flw_mono hW hx hne n k (by omega)
    have := (hW x hx).2 (n + k) (by omega)
    show flw Q i x n ≤ flw Q i x (n + k) + ((if ql Q x (n + k) = i then qp Q x (n + k) else 0) - (if x = i then qp Q x (n + k) else 0))
    rw [if_neg hne]
    split <;> omega
theorem mny_mono {Q : QU} (hW : Wq Q) {mo mo' : Nat → Int} {c c' : Nat → Nat} (hle : ∀ x, x < 6 → c x ≤ c' x) (hh : ∀ x, x < 6 → c' x ≤ qh Q x) {i : Nat} (he : c i = c' i) (hmo : mo i ≤ mo' i) : mny Q mo c i ≤ mny Q mo' c' i := by
  have h : ∀ x, x < 6 → flw Q i x (c x) ≤ flw Q i x (c' x) := fun x hx => by
    by_cases e : x = i
    · subst e; rw [he]; exact Int.le_refl _
    · have := flw_mono hW hx e (c x) (c' x - c x) (by have := hle x hx; have := hh x hx; omega)
      rw [show c x + (c' x - c x) = c' x by have := hle x hx; omega] at this
      exact this
  have h0 := h 0 (by omega)
  have h1 := h 1 (by omega)
  have h2 := h 2 (by omega)
  have h3 := h 3 (by omega)
  have h4 := h 4 (by omega)
  have h5 := h 5 (by omega)
  unfold mny sum6
  dsimp only
  omega
/-- by n payings, each of which can be -/
def rch (Q : QU) (mo : Nat → Int) : Nat → (Nat → Nat) → Prop
  | 0, c => c = fun _ => 0
  | n + 1, c => ∃ d m, rch Q mo n d ∧ m < 6 ∧ can Q mo d m ∧ c = stp d m
theorem rch_le {Q : QU} {mo : Nat → Int} : ∀ (n : Nat) (c : Nat → Nat), rch Q mo n c → ∀ x, x < 6 → c x ≤ qh Q x
  | 0, c, h, x, _ => by
    have h : c = fun _ => 0 := h
    rw [h]; exact Nat.zero_le _
  | n + 1, c, h, x, hx => by
    obtain ⟨d, m, h1, h2, h3, rfl⟩ := h
    have ih := rch_le n d h1 x hx
    by_cases e : x = m
    · subst e; rw [stp_s]; exact h3.1
    · rw [stp_n e]; exact ih
theorem rch_0 {Q : QU} {mo : Nat → Int} : ∀ (n : Nat) (c : Nat → Nat), rch Q mo n c → ∀ x, 6 ≤ x → c x = 0
  | 0, c, h, x, _ => by
    have h : c = fun _ => 0 := h
    rw [h]
  | n + 1, c, h, x, hx => by
    obtain ⟨d, m, h1, h2, h3, rfl⟩ := h
    rw [stp_n (by omega)]
    exact rch_0 n d h1 x hx
abbrev sN (c : Nat → Nat) : Nat := c 0 + c 1 + c 2 + c 3 + c 4 + c 5
theorem sN_stp {c : Nat → Nat} {m : Nat} (hm : m < 6) : sN (stp c m) = sN c + 1 := by
  unfold sN stp
  rcases (show m = 0 ∨ m = 1 ∨ m = 2 ∨ m = 3 ∨ m = 4 ∨ m = 5 by omega) with rfl | rfl | rfl | rfl | rfl | rfl <;> simp <;> omega
theorem rch_sum {Q : QU} {mo : Nat → Int} : ∀ (n : Nat) (c : Nat → Nat), rch Q mo n c → sN c = n
  | 0, c, h => by
    have h : c = fun _ => 0 := h
    subst h
    rfl
  | n + 1, c, h => by
    obtain ⟨d, m, h1, h2, h3, rfl⟩ := h
    rw [sN_stp h2, rch_sum n d h1]
theorem rch_30 {Q : QU} (hW : Wq Q) {mo : Nat → Int} {n : Nat} {c : Nat → Nat} (h : rch Q mo n c) : n ≤ 30 := by
  have hs := rch_sum n c h
  have h' : ∀ x, x < 6 → c x ≤ 5 := fun x hx => Nat.le_trans (rch_le n c h x hx) (hW x hx).1
  have h0 := h' 0 (by omega)
  have h1 := h' 1 (by omega)
  have h2 := h' 2 (by omega)
  have h3 := h' 3 (by omega)
  have h4 := h' 4 (by omega)
  have h5 := h' 5 (by omega)
  unfold sN at hs
  omega
theorem rch_max {Q : QU} (hW : Wq Q) {mo mo' : Nat → Int} {c' : Nat → Nat} (hst : ∀ m, m < 6 → ¬ can Q mo' c' m) (hc' : ∀ x, x < 6 → c' x ≤ qh Q x) (hmo : ∀ x, x < 6 → mo x ≤ mo' x) : ∀ (n : Nat) (c : Nat → Nat), rch Q mo n c → ∀ x, x < 6 → c x ≤ c' x
  | 0, c, h, x, _ => by
    have h : c = fun _ => 0 := h
    rw [h]; exact Nat.zero_le _
  | n + 1, c, h, x, hx => by
    obtain ⟨d, m, h1, h2, h3, rfl⟩ := h
    have ih := rch_max hW hst hc' hmo n d h1
    by_cases e : x = m
    · subst e
      rw [stp_s]
      rcases Nat.lt_or_ge (d x) (c' x) with q | q
      · exact q
      · have eq : d x = c' x := Nat.le_antisymm (ih x hx) q
        exfalso
        refine hst x hx ⟨by rw [← eq]; exact h3.1, ?_⟩
        have := mny_mono hW ih hc' eq (hmo x hx)
        have h4 := h3.2
        rw [eq] at h4
        omega
    · rw [stp_n e]; exact ih x hx
theorem rch_one {Q : QU} (hW : Wq Q) {mo : Nat → Int} {n n' : Nat} {c c' : Nat → Nat} (h : rch Q mo n c) (h' : rch Q mo n' c') (s : ∀ m, m < 6 → ¬ can Q mo c m) (s' : ∀ m, m < 6 → ¬ can Q mo c' m) : c = c' := by
  funext x
  rcases Nat.lt_or_ge x 6 with q | q
  · exact Nat.le_antisymm (rch_max hW s' (rch_le _ _ h') (fun _ _ => Int.le_refl _) n c h x q) (rch_max hW s (rch_le _ _ h) (fun _ _ => Int.le_refl _) n' c' h' x q)
  · rw [rch_0 _ _ h x q, rch_0 _ _ h' x q]
theorem mny_up {Q : QU} {mo mo' : Nat → Int} (c : Nat → Nat) {i : Nat} (h : mo i ≤ mo' i) : mny Q mo c i ≤ mny Q mo' c i := by unfold mny; omega
theorem rch_up {Q : QU} {mo mo' : Nat → Int} (hmo : ∀ x, x < 6 → mo x ≤ mo' x) : ∀ (n : Nat) (c : Nat → Nat), rch Q mo n c → rch Q mo' n c
  | 0, _, h => h
  | n + 1, c, h => by
    obtain ⟨d, m, h1, h2, h3, h4⟩ := h
    exact ⟨d, m, rch_up hmo n d h1, h2, ⟨h3.1, Int.le_trans h3.2 (mny_up d (hmo m h2))⟩, h4⟩
/-- bits of those who have something left -/
noncomputable def lbs (f : Nat → Nat) : Nat → Int32
  | 0 => 0
  | n + 1 => if f n = 0 then lbs f n ||| 0 else lbs f n ||| ((1 : Int32) <<< (iI (n : Int) &&& 31))
def lbB (b : Bool) (n : Nat) (x : Int32) : Int32 := if b then x ||| 0 else x ||| ((1 : Int32) <<< (iI (n : Int) &&& 31))
theorem lbB_0 : ∀ b0 b1 b2 b3 b4 b5 : Bool, lbB b5 5 (lbB b4 4 (lbB b3 3 (lbB b2 2 (lbB b1 1 (lbB b0 0 0))))) = 0 ↔ (b0 = true ∧ b1 = true ∧ b2 = true ∧ b3 = true ∧ b4 = true ∧ b5 = true) := by decide
theorem lbs_s (f : Nat → Nat) (n : Nat) : lbs f (n + 1) = lbB (decide (f n = 0)) n (lbs f n) := by
  unfold lbB
  show (if f n = 0 then _ else _) = _
  by_cases h : f n = 0
  · rw [if_pos h, if_pos (by simpa using h)]
  · rw [if_neg h, if_neg (by simpa using h)]
theorem lbs_0 (f : Nat → Nat) : lbs f 6 = 0 ↔ ∀ m, m < 6 → f m = 0 := by
  have e : lbs f 6 = lbB (decide (f 5 = 0)) 5 (lbB (decide (f 4 = 0)) 4 (lbB (decide (f 3 = 0)) 3 (lbB (decide (f 2 = 0)) 2 (lbB (decide (f 1 = 0)) 1 (lbB (decide (f 0 = 0)) 0 0))))) := by
    rw [lbs_s, lbs_s, lbs_s, lbs_s, lbs_s, lbs_s]; rfl
  rw [e, lbB_0]
  simp only [decide_eq_true_eq]
  constructor
  · rintro ⟨h0, h1, h2, h3, h4, h5⟩ m hm
    rcases (show m = 0 ∨ m = 1 ∨ m = 2 ∨ m = 3 ∨ m = 4 ∨ m = 5 by omega) with rfl | rfl | rfl | rfl | rfl | rfl <;> assumption
  · intro h
    exact ⟨h 0 (by omega), h 1 (by omega), h 2 (by omega), h 3 (by omega), h 4 (by omega), h 5 (by omega)⟩
theorem lbs_cong {f g : Nat → Nat} : ∀ n, (∀ m, m < n → (f m = 0 ↔ g m = 0)) → lbs f n = lbs g n
  | 0, _ => rfl
  | n + 1, h => by
    rw [lbs_s, lbs_s, lbs_cong n (fun m hm => h m (by omega))]
    congr 1
    simp only [h n (by omega)]
