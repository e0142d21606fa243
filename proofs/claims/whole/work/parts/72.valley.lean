/-! THE CLASS'S VALLEY: what its methods answer, over snapshots -/
noncomputable def c01 (p : Prop) : Int32 := @ite _ p (Classical.propDecidable p) 1 0
theorem c01_t {p : Prop} (h : p) : c01 p = 1 := by unfold c01; rw [if_pos h]
theorem c01_f {p : Prop} (h : ¬ p) : c01 p = 0 := by unfold c01; rw [if_neg h]
theorem c01_0 {p : Prop} : c01 p = 0 ↔ ¬ p := by
  by_cases h : p
  · rw [c01_t h]; exact ⟨fun q => absurd q (by decide), fun q => absurd h q⟩
  · rw [c01_f h]; exact ⟨fun _ => h, fun _ => rfl⟩
theorem b01_t {p : Prop} [Decidable p] (h : p) : b01 p = 1 := if_pos h
theorem b01_f {p : Prop} [Decidable p] (h : ¬ p) : b01 p = 0 := if_neg h
theorem cl_N {n : Nat} (h : n < 2147483648) : (iI (n : Int)).toNatClampNeg = n := by rw [iI_cl ⟨by omega, by omega⟩]; omega
theorem ck_N {α : Type} {n N : Nat} {k : Option α} (h : n < N) (hN : N ≤ 2147483647) : ck (iI (n : Int)) N k = k := ck_I (by omega) (by omega) hN
theorem ixV (m k : Nat) : iI m * 5 + iI k = iI ((m * 5 + k : Nat) : Int) := by
  rw [z5, iI_mul, iI_add]
  congr 1
theorem p_hasDebt {v : VS} {S : SV} {B : Int} (hr : rV v S) (hg_ : gd B S) {m k : Int} (hm : Rg m) (hk : Rg k) : f_X2_hasDebt v (iI m) (iI k) = some (b01 (isD S m k)) := by
  unfold f_X2_hasDebt b01
  rw [z0, z6, z5]
  simp (disch := omega) only [iI_lt, iI_le]
  split
  · rw [if_neg (by omega)]
  split
  · rw [if_neg (by omega)]
  split
  · rw [if_neg (by omega)]
  split
  · rw [if_neg]
    rintro ⟨q1, q2, q3, q4⟩
    have := (hg_.1 m.toNat (by omega)).2.1
    omega
  · have hmm : m.toNat < 6 := by omega
    have h5 := (hg_.1 m.toNat hmm).2.1
    rw [ck_I (by omega) (by omega) (by omega), iI_cl hm, (hr _ hmm).2.1]
    simp (disch := omega) only [iI_le]
    split
    · rw [if_neg (by omega)]
    · rw [if_pos (by omega)]
theorem p_hasN {v : VS} {S : SV} {B : Int} (hr : rV v S) (hg_ : gd B S) {m k : Nat} (hm : m < 6) (hk : k < hg S m) : f_X2_hasDebt v (iI m) (iI k) = some 1 := by
  have h5 := (hg_.1 m hm).2.1
  rw [p_hasDebt hr hg_ ⟨by omega, by omega⟩ ⟨by omega, by omega⟩, b01_t]
  exact ⟨by omega, by omega, by omega, by simpa using hk⟩
theorem p_purseOf {v : VS} {S : SV} (hr : rV v S) {m : Nat} (hm : m < 6) : f_X2_purseOf v (iI m) = some (iI (mon S m)) := by
  unfold f_X2_purseOf
  rw [bn_i (p_isMan ⟨by omega, by omega⟩), b01_t (by omega), if_neg (by decide), ck_N hm (by omega), cl_N (by omega), (hr m hm).1]
theorem p_debtsOf {v : VS} {S : SV} (hr : rV v S) {m : Nat} (hm : m < 6) : f_X2_debtsOf v (iI m) = some (iI (hg S m)) := by
  unfold f_X2_debtsOf
  rw [bn_i (p_isMan ⟨by omega, by omega⟩), b01_t (by omega), if_neg (by decide), ck_N hm (by omega), cl_N (by omega), (hr m hm).2.1]
theorem p_lenderOf {v : VS} {S : SV} {B : Int} (hr : rV v S) (hg_ : gd B S) {m k : Nat} (hm : m < 6) (hk : k < hg S m) : f_X2_lenderOf v (iI m) (iI k) = some (iI (ln S m k)) := by
  have h5 := (hg_.1 m hm).2.1
  unfold f_X2_lenderOf
  rw [bn_i (p_hasN hr hg_ hm hk), if_neg (by decide), ixV, ck_N (by omega) (by omega), cl_N (by omega), ((hr m hm).2.2 k hk).1]
theorem p_penceOf {v : VS} {S : SV} {B : Int} (hr : rV v S) (hg_ : gd B S) {m k : Nat} (hm : m < 6) (hk : k < hg S m) : f_X2_penceOf v (iI m) (iI k) = some (iI (pe S m k)) := by
  have h5 := (hg_.1 m hm).2.1
  unfold f_X2_penceOf
  rw [bn_i (p_hasN hr hg_ hm hk), if_neg (by decide), ixV, ck_N (by omega) (by omega), cl_N (by omega), ((hr m hm).2.2 k hk).2.1]
theorem p_dayOf {v : VS} {S : SV} {B : Int} (hr : rV v S) (hg_ : gd B S) {m k : Nat} (hm : m < 6) (hk : k < hg S m) : f_X2_dayOf v (iI m) (iI k) = some (iI (dy S m k)) := by
  have h5 := (hg_.1 m hm).2.1
  unfold f_X2_dayOf
  rw [bn_i (p_hasN hr hg_ hm hk), if_neg (by decide), ixV, ck_N (by omega) (by omega), cl_N (by omega), ((hr m hm).2.2 k hk).2.2]
theorem p_lenderNo {v : VS} {S : SV} {B : Int} (hr : rV v S) (hg_ : gd B S) {m : Nat} (hm : m < 6) : f_X2_lenderOf v (iI m) (iI (-6)) = some (iI (-6)) := by
  unfold f_X2_lenderOf
  rw [bn_i (p_hasDebt hr hg_ ⟨by omega, by omega⟩ ⟨by omega, by omega⟩), b01_f (by omega), if_pos rfl, zm6]
theorem p_notLater {v : VS} {S : SV} {B L : Int} (hr : rV v S) (hg_ : gd B S) (hL : v.2.2.2.2.2.2.2.2.2.1 = iI L) (hL2 : 0 ≤ L ∧ L ≤ 2) {m j k : Nat} (hm : m < 6) (hj : j < hg S m) (hk : k < hg S m) : f_X2_notLater v (iI m) (iI j) (iI k) = some (c01 (nl L (pe S m) j k)) := by
  have h5 := (hg_.1 m hm).2.1
  have pj := (hg_.1 m hm).2.2 j hj
  have pk := (hg_.1 m hm).2.2 k hk
  unfold f_X2_notLater nm
  rw [bn_i (p_hasN hr hg_ hm hj), if_neg (by decide), bn_i (p_hasN hr hg_ hm hk), if_neg (by decide), hL, z1, z2, z0]
  simp (disch := omega) only [iI_lt, iI_eq]
  rw [← z1, ← z0]
  by_cases c1 : L = 1
  · rw [if_pos c1]
    by_cases c2 : (k : Int) < j
    · rw [if_pos c2, c01_f]
      unfold nl; rw [if_pos c1]; omega
    · rw [if_neg c2, c01_t]
      unfold nl; rw [if_pos c1]; omega
  · rw [if_neg c1]
    by_cases c2 : L = 2
    · rw [if_pos c2, ixV, ixV, ck_N (by omega) (by omega), ck_N (by omega) (by omega), cl_N (by omega), cl_N (by omega), ((hr m hm).2.2 j hj).2.1, ((hr m hm).2.2 k hk).2.1, iI_sub]
      unfold f_X2_notLater_75
      rw [z0]
      simp (disch := omega) only [iI_lt, iI_eq]
      rw [← z0]
      have e : nl L (pe S m) j k ↔ (pe S m k < pe S m j ∨ (pe S m j = pe S m k ∧ k ≤ j)) := by unfold nl; rw [if_neg c1, if_pos c2]
      split
      · rw [c01_t (e.mpr (by omega))]
      split
      · split
        · rw [c01_f (fun q => by have := e.mp q; omega)]
        · rw [c01_t (e.mpr (by omega))]
      · rw [c01_f (fun q => by have := e.mp q; omega)]
    · rw [if_neg c2]
      unfold f_X2_notLater_75
      have e : nl L (pe S m) j k ↔ k ≤ j := by unfold nl; rw [if_neg c1, if_neg c2]
      rw [if_neg (by decide), if_pos rfl, z0]
      simp (disch := omega) only [iI_lt]
      rw [← z0]
      split
      · rw [c01_f (fun q => by have := e.mp q; omega)]
      · rw [c01_t (e.mpr (by omega))]
/-- what is due of a man: its number, or NONE -/
noncomputable def dueI (L : Int) (S : SV) (m : Nat) : Int := if hg S m = 0 then -6 else dueF L (pe S m) (hg S m)
theorem p_dueOf {v : VS} {S : SV} {B L : Int} (hr : rV v S) (hg_ : gd B S) (hL : v.2.2.2.2.2.2.2.2.2.1 = iI L) (hL2 : 0 ≤ L ∧ L ≤ 2) {m : Nat} (hm : m < 6) : f_X2_dueOf v (iI m) = some (iI (dueI L S m)) := by
  have h5 := (hg_.1 m hm).2.1
  have loop : ∀ (n k : Nat), k + n = hg S m → 1 ≤ k → lpx (st_X2_dueOf v (iI m)) (iI (dueF L (pe S m) k), iI k) = some (iI (dueF L (pe S m) (hg S m))) := by
    intro n
    induction n with
    | zero =>
      intro k hk h1
      have : k = hg S m := by omega
      subst this
      refine lpx_r ?_
      show f_X2_dueOf_16 v (iI m) _ _ = _
      unfold f_X2_dueOf_16
      rw [bn_i (p_debtsOf hr hm), if_pos ((iI_le ⟨by omega, by omega⟩ ⟨by omega, by omega⟩).mpr (by omega))]
    | succ n ih =>
      intro k hk h1
      have hd := dueF_min L (pe S m) k (by omega)
      have hst : st_X2_dueOf v (iI m) (iI (dueF L (pe S m) k), iI k) = some (.inl (iI (dueF L (pe S m) (k + 1)), iI ((k + 1 : Nat) : Int))) := by
        show f_X2_dueOf_16 v (iI m) _ _ = _
        unfold f_X2_dueOf_16 nm
        rw [bn_i (p_debtsOf hr hm), if_neg (fun q => by have := (iI_le ⟨by omega, by omega⟩ ⟨by omega, by omega⟩).mp q; omega), bn_i (p_notLater hr hg_ hL hL2 hm (j := k) (k := dueF L (pe S m) k) (by omega) (by omega)), z1, iI_add]
        obtain ⟨k', rfl⟩ : ∃ k', k = k' + 1 := ⟨k - 1, by omega⟩
        by_cases c : nl L (pe S m) (k' + 1) (dueF L (pe S m) (k' + 1))
        · rw [c01_t c, if_neg (by decide)]
          have e : dueF L (pe S m) (k' + 1 + 1) = k' + 1 := by
            show @ite _ _ (Classical.propDecidable _) _ _ = _
            rw [if_pos c]
          rw [e]
          rfl
        · rw [c01_f c, if_pos rfl]
          have e : dueF L (pe S m) (k' + 1 + 1) = dueF L (pe S m) (k' + 1) := by
            show @ite _ _ (Classical.propDecidable _) _ _ = _
            rw [if_neg c]
          rw [e]
          rfl
      rw [lpx_l hst]
      exact ih (k + 1) (by omega) (by omega)
  unfold f_X2_dueOf f_X2_dueOf_0 dueI
  by_cases h0 : hg S m = 0
  · rw [z0, bn_i (p_hasDebt hr hg_ ⟨by omega, by omega⟩ ⟨by omega, by omega⟩), b01_f (by rintro ⟨_, _, _, q⟩; rw [Int.toNat_natCast] at q; omega), if_pos h0, if_pos z0, ← zm6]
    rfl
  · have := p_hasN hr hg_ hm (k := 0) (by omega)
    rw [if_neg h0, show (0 : Int32) = iI ((0 : Nat) : Int) from z0, bn_i this, if_neg (by decide)]
    have hq := loop (hg S m - 1) 1 (by omega) (by omega)
    exact hq
