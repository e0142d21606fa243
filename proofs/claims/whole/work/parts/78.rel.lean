/-! THE RELATION between the class's object and the reference's, and the law's cheap cases -/
/-- snapshot, law, rate, days, number of sights, their men, their pence -/
abbrev FA : Type := SV × Int × Int × Int × Nat × (Nat → Int) × (Nat → Int)
def rFV (v : VS) (F : FA) : Prop := rV v F.1 ∧ v.2.2.2.2.2.2.2.2.2.1 = iI F.2.1 ∧ v.2.2.2.2.2.2.2.2.2.2 = iI F.2.2.1 ∧ v.2.2.2.2.2.2.2.2.1 = iI F.2.2.2.1 ∧ v.2.2.2.2.2.2.2.1 = iI F.2.2.2.2.1 ∧ ∀ i, i < F.2.2.2.2.1 → v.2.2.2.2.2.1 i = iI (F.2.2.2.2.2.1 i) ∧ v.2.2.2.2.2.2.1 i = iI (F.2.2.2.2.2.2 i)
def rFM (u : MS) (F : FA) : Prop := rB u F.1 ∧ u.1 = iI F.2.1 ∧ u.2.1 = iI F.2.2.1 ∧ u.2.2.1 = iI F.2.2.2.1 ∧ u.2.2.2.2.2.2.1 = iI F.2.2.2.2.1 ∧ ∀ i, i < F.2.2.2.2.1 → u.2.2.2.2.2.2.2.1 (2 * i) = iI (F.2.2.2.2.2.1 i) ∧ u.2.2.2.2.2.2.2.1 (2 * i + 1) = iI (F.2.2.2.2.2.2 i)
def rFI (g : AI) (o : Nat) (F : FA) : Prop := rM (fun x => g (o + 90 + x)) (fun x => g (o + 96 + x)) (fun x => g (o + x)) F.1 ∧ g (o + 114) = iI F.2.1 ∧ g (o + 115) = iI F.2.2.1 ∧ g (o + 116) = iI F.2.2.2.1 ∧ g (o + 117) = iI F.2.2.2.2.1 ∧ ∀ i, i < F.2.2.2.2.1 → g (o + 102 + 2 * i) = iI (F.2.2.2.2.2.1 i) ∧ g (o + 102 + 2 * i + 1) = iI (F.2.2.2.2.2.2 i)
def gF (N : Nat) (F : FA) : Prop := gd (120 + 999 * N) F.1 ∧ (0 ≤ F.2.1 ∧ F.2.1 ≤ 2) ∧ (0 ≤ F.2.2.1 ∧ F.2.2.1 ≤ 9) ∧ (0 ≤ F.2.2.2.1 ∧ F.2.2.2.1 ≤ 60 * N) ∧ F.2.2.2.2.1 ≤ 6 ∧ ∀ i, i < F.2.2.2.2.1 → 0 ≤ F.2.2.2.2.2.1 i ∧ F.2.2.2.2.2.1 i < 6 ∧ 0 ≤ F.2.2.2.2.2.2 i ∧ F.2.2.2.2.2.2 i ≤ 9999
theorem gd_up {B C : Int} {S : SV} (h : gd B S) (hB : B ≤ C) : gd C S := ⟨h.1, by have := h.2; omega⟩
theorem gF_up {N : Nat} {F : FA} (h : gF N F) : gF (N + 1) F := ⟨gd_up h.1 (by omega), h.2.1, h.2.2.1, ⟨h.2.2.2.1.1, by have := h.2.2.2.1.2; omega⟩, h.2.2.2.2⟩
/-- the pads are alike -/
def rP (d : DS) (u : MS) : Prop := ∃ (n : Nat) (s : Nat → Int), n ≤ 60 ∧ d.2.2.2.2.2.2.1 = iI n ∧ u.2.2.2.2.2.2.2.2.1 = iI n ∧ ∀ i, i < n → d.1 i = iI (s i) ∧ u.2.2.2.2.2.2.2.2.2.1 i = iI (s i) ∧ 33 ≤ s i ∧ s i ≤ 126
/-- an image, kept or not -/
def rIm (N : Nat) (b : Bool) (v : VS) (u : MS) (j : Nat) : Prop := u.2.2.2.2.2.2.2.2.2.2.2.2.2.2.2.2.2.2.2.2 j = (if b then 1 else 0) ∧ (b = true → ∃ F, rFV v F ∧ rFI u.2.2.2.2.2.2.2.2.2.2.2.2.2.2.2.2.2.2.2.1 (118 * j) F ∧ gF N F)
def rK (N : Nat) (k : Int32) (v3 v4 : VS) (u : MS) : Prop := ∃ b0 b1 : Bool, k = iI ((if b0 then 1 else 0) + (if b1 then 2 else 0)) ∧ rIm N b0 v3 u 0 ∧ rIm N b1 v4 u 1
theorem rIm_up {N : Nat} {b : Bool} {v : VS} {u : MS} {j : Nat} (h : rIm N b v u j) : rIm (N + 1) b v u j := ⟨h.1, fun q => by obtain ⟨F, a, b, c⟩ := h.2 q; exact ⟨F, a, b, gF_up c⟩⟩
theorem rK_up {N : Nat} {k : Int32} {v3 v4 : VS} {u : MS} (h : rK N k v3 v4 u) : rK (N + 1) k v3 v4 u := by
  obtain ⟨b0, b1, h1, h2, h3⟩ := h
  exact ⟨b0, b1, h1, rIm_up h2, rIm_up h3⟩
def Rel (N : Nat) (st : LSt) : Prop := ∃ F, rFV st.2.1 F ∧ rFM st.2.2.2.2.2.2.2.2 F ∧ gF N F ∧ rP st.2.2.2.2.2.1 st.2.2.2.2.2.2.2.2 ∧ rK N st.1 st.2.2.2.1 st.2.2.2.2.1 st.2.2.2.2.2.2.2.2
theorem Rel_up {N : Nat} {st : LSt} (h : Rel N st) : Rel (N + 1) st := by
  obtain ⟨F, a, b, c, d, e⟩ := h
  exact ⟨F, a, b, gF_up c, d, rK_up e⟩
theorem gd_set {B : Int} {S : SV} (h : gd B S) {m : Nat} (hm : m < 6) {z C : Int} (hz : 0 ≤ z) (hC : B + z ≤ C) : gd C (setMon S m z) := by
  have h0 := (h.1 m hm).1
  refine ⟨fun x hx => ⟨?_, (h.1 x hx).2.1, (h.1 x hx).2.2⟩, ?_⟩
  · have := (h.1 x hx).1
    show 0 ≤ (if x = m then z else mon S x)
    split <;> omega
  · rw [sum6_set hm]
    have := h.2
    omega
theorem n10 : ¬ (1 : Int32) = 0 := by decide
theorem case0 {N : Nat} {st : LSt} (h : Rel N st) (a1 a2 : Int32) : ∃ st', ls_0 st a1 a2 = some st' ∧ Rel (N + 1) st' := by
  obtain ⟨F, hv, hu, hg, hp, hk⟩ := id h
  obtain ⟨z1', hz1, rfl⟩ := iI_ex a1
  obtain ⟨z2', hz2, rfl⟩ := iI_ex a2
  unfold ls_0 f_X3_money f_X4_money nm
  rw [bn_i (p_isMan hz1), bn_i (p_mMan hz1), z0, z999, bn_i (p_isWithin hz2 (by omega) (by omega)), bn_i (p_in hz2 (by omega) (by omega)), ← z0]
  by_cases c1 : 0 ≤ z1' ∧ z1' < 6
  · rw [b01_t c1, if_neg n10, if_neg n10]
    by_cases c2 : 0 ≤ z2' ∧ z2' ≤ 999
    · rw [b01_t c2, if_neg n10, if_neg n10]
      obtain ⟨m, rfl⟩ := Int.eq_ofNat_of_zero_le c1.1
      have hm : m < 6 := by omega
      rw [bn_i (p_purseOf hv.1 hm), bn_i (p_fillPurse hm _), ck_N hm (by omega), cl_N (by omega)]
      dsimp only
      rw [bn_i rfl, bn_i rfl, if_pos ((hu.1 m hm).1).symm]
      refine ⟨_, rfl, ?_⟩
      refine ⟨(setMon F.1 m z2', F.2), ?_, ?_, ?_, hp, rK_up hk⟩
      · exact ⟨rV_setMon hv.1 z2', hv.2⟩
      · exact ⟨rM_setMon hu.1 z2', hu.2⟩
      · exact ⟨gd_set hg.1 hm c2.1 (by omega), (gF_up hg).2⟩
    · rw [b01_f c2, if_pos rfl, if_pos rfl, bn_i rfl, bn_i rfl, if_pos rfl]
      exact ⟨_, rfl, Rel_up h⟩
  · rw [b01_f c1, if_pos rfl, if_pos rfl, bn_i rfl, bn_i rfl, if_pos rfl]
    exact ⟨_, rfl, Rel_up h⟩
theorem case3 {N : Nat} {st : LSt} (h : Rel N st) : ∃ st', ls_3 st = some st' ∧ Rel (N + 1) st' := by
  obtain ⟨F, hv, hu, hg, ⟨n, s, hn, hd, hun, hs⟩, hk⟩ := id h
  unfold ls_3 f_X3_wipe f_X4_wipe f_X0_clear nm
  dsimp only
  rw [bn_i rfl, bn_i rfl, bn_i rfl, if_pos (by rw [hd, hun])]
  refine ⟨_, rfl, F, hv, hu, gF_up hg, ⟨0, s, by omega, z0, z0, fun i hi => absurd hi (by omega)⟩, rK_up hk⟩
theorem case11 {N : Nat} {st : LSt} (h : Rel N st) : ∃ st', ls_11 st = some st' ∧ Rel (N + 1) st' := by
  obtain ⟨F, hv, hu, hg, hp, hk⟩ := id h
  unfold ls_11 f_X3_forget f_X4_forget nm
  dsimp only
  rw [bn_i rfl, bn_i rfl, if_pos (by rw [hv.2.2.2.2.1, hu.2.2.2.2.1])]
  refine ⟨_, rfl, (F.1, F.2.1, F.2.2.1, F.2.2.2.1, 0, F.2.2.2.2.2), ?_, ?_, ?_, hp, rK_up hk⟩
  · exact ⟨hv.1, hv.2.1, hv.2.2.1, hv.2.2.2.1, z0, fun i hi => absurd hi (Nat.not_lt_zero i)⟩
  · exact ⟨hu.1, hu.2.1, hu.2.2.1, hu.2.2.2.1, z0, fun i hi => absurd hi (Nat.not_lt_zero i)⟩
  · have g := gF_up hg
    exact ⟨g.1, g.2.1, g.2.2.1, g.2.2.2.1, by show 0 ≤ 6; omega, fun i hi => absurd hi (Nat.not_lt_zero i)⟩
