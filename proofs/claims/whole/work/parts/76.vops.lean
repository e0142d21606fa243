/-! THE CLASS'S VALLEY: repay, lend, passDay -/
theorem p_repay0 {v : VS} {S : SV} {B L : Int} (hr : rV v S) (hg_ : gd B S) (hL : v.2.2.2.2.2.2.2.2.2.1 = iI L) (hL2 : 0 ≤ L ∧ L ≤ 2) {m : Nat} (hm : m < 6) (h0 : hg S m = 0) : f_X2_repay v (iI m) = some (3, v) := by
  unfold f_X2_repay
  rw [bn_i (p_dueOf hr hg_ hL hL2 hm), dueI_0 h0, if_pos zm6.symm]
theorem p_repay4 {v : VS} {S : SV} {B L : Int} (hr : rV v S) (hg_ : gd B S) (hB : B ≤ 2000000) (hL : v.2.2.2.2.2.2.2.2.2.1 = iI L) (hL2 : 0 ≤ L ∧ L ≤ 2) {m : Nat} (hm : m < 6) (h0 : 0 < hg S m) (hp : mon S m < penD L S m) : f_X2_repay v (iI m) = some (4, v) := by
  obtain ⟨k, hk, hdk, hkd⟩ := dueI_lt (L := L) hg_ hm h0
  have h5 := (hg_.1 m hm).2.1
  have hb := (hg_.1 m hm).2.2 k hk
  have hm0 := (hg_.1 m hm).1
  have hle := hg_.le hm
  have hpe : penD L S m = pe S m k := by unfold penD; rw [if_neg (by omega), ← hkd]
  unfold f_X2_repay
  rw [bn_i (p_dueOf hr hg_ hL hL2 hm), hdk, zm6, if_neg (fun q => by have := (iI_eq ⟨by omega, by omega⟩ ⟨by omega, by omega⟩).mp q; omega), bn_i (p_penceOf hr hg_ hm hk), bn_i (p_purseOf hr hm), if_neg (fun q => by have := (iI_le ⟨by omega, by omega⟩ ⟨by omega, by omega⟩).mp q; omega)]
theorem p_repay {v : VS} {S : SV} {B L : Int} (hr : rV v S) (hg_ : gd B S) (hB : B ≤ 2000000) (hL : v.2.2.2.2.2.2.2.2.2.1 = iI L) (hL2 : 0 ≤ L ∧ L ≤ 2) {m : Nat} (hm : m < 6) (h0 : 0 < hg S m) (hp : penD L S m ≤ mon S m) : ∃ mo h l p d, f_X2_repay v (iI m) = some (0, (mo, h, l, p, d, v.2.2.2.2.2)) ∧ rV (mo, h, l, p, d, v.2.2.2.2.2) (payS L S m) := by
  obtain ⟨k, hk, hdk, hkd⟩ := dueI_lt (L := L) hg_ hm h0
  have h5 := (hg_.1 m hm).2.1
  have hb := (hg_.1 m hm).2.2 k hk
  have hm0 := (hg_.1 m hm).1
  have hle := hg_.le hm
  have hpe : penD L S m = pe S m k := by unfold penD; rw [if_neg (by omega), ← hkd]
  have hto : (ln S m k).toNat < 6 := by omega
  have hlk : ln S m k = ((ln S m k).toNat : Int) := by omega
  have hr2 := rV_setMon hr (m := m) (mon S m - pe S m k)
  have hr3 := rV_setMon hr2 (m := (ln S m k).toNat) (mon (setMon S m (mon S m - pe S m k)) (ln S m k).toNat + pe S m k)
  have hgm : gd B (moveS S m (ln S m k).toNat (pe S m k)) := gd_move hg_ hm hto (by omega) (by omega)
  obtain ⟨h, l, p, d, hd1, hd2⟩ := p_drop hr3 hgm hm (i := k) hk
  refine ⟨_, h, l, p, d, ?_, (by unfold payS; rw [← hkd]; exact hd2)⟩
  unfold f_X2_repay
  rw [bn_i (p_dueOf hr hg_ hL hL2 hm), hdk, zm6, if_neg (fun q => by have := (iI_eq ⟨by omega, by omega⟩ ⟨by omega, by omega⟩).mp q; omega), bn_i (p_penceOf hr hg_ hm hk), bn_i (p_purseOf hr hm), if_pos ((iI_le ⟨by omega, by omega⟩ ⟨by omega, by omega⟩).mpr (by omega)), bn_i (p_lenderOf hr hg_ hm hk), bn_i (p_purseOf hr hm), bn_i (p_fillPurse hm _), iI_sub, hlk, bn_i (p_purseOf hr2 hto), bn_i (p_fillPurse hto _), iI_add, ← hlk, bn_i hd1]
/-- a debt more -/
def addS (S : SV) (t : Nat) (f p d : Int) : SV := (mon S, fun a => if a = t then hg S t + 1 else hg S a, fun a k => if a = t ∧ k = hg S t then f else ln S a k, fun a k => if a = t ∧ k = hg S t then p else pe S a k, fun a k => if a = t ∧ k = hg S t then d else dy S a k)
def lendS (S : SV) (f t : Nat) (p d : Int) : SV := moveS (addS S t f p d) f t p
theorem gd_add {B : Int} {S : SV} (h : gd B S) {t : Nat} (ht : t < 6) (hh : hg S t < 5) {f p d : Int} (hf : 0 ≤ f ∧ f < 6) (hp : 1 ≤ p ∧ p ≤ 9999) : gd B (addS S t f p d) := by
  refine ⟨fun x hx => ⟨(h.1 x hx).1, ?_, fun k hk => ?_⟩, h.2⟩
  · have := (h.1 x hx).2.1
    show (if x = t then hg S t + 1 else hg S x) ≤ 5
    split <;> omega
  · have hk : k < (if x = t then hg S t + 1 else hg S x) := hk
    show 0 ≤ (if x = t ∧ k = hg S t then f else ln S x k) ∧ (if x = t ∧ k = hg S t then f else ln S x k) < 6 ∧ 1 ≤ (if x = t ∧ k = hg S t then p else pe S x k) ∧ (if x = t ∧ k = hg S t then p else pe S x k) ≤ 9999
    by_cases c : x = t ∧ k = hg S t
    · rw [if_pos c, if_pos c]
      omega
    · rw [if_neg c, if_neg c]
      refine (h.1 x hx).2.2 k ?_
      by_cases cx : x = t
      · rw [if_pos cx] at hk
        subst cx
        have : k ≠ hg S x := fun e => c ⟨rfl, e⟩
        omega
      · rw [if_neg cx] at hk; exact hk
theorem gd_lend {B : Int} {S : SV} (h : gd B S) {f t : Nat} (hf : f < 6) (ht : t < 6) (hh : hg S t < 5) {p d : Int} (hp : 1 ≤ p ∧ p ≤ 9999) (hm : p ≤ mon S f) : gd B (lendS S f t p d) :=
  gd_move (gd_add h ht hh (by omega) hp) hf ht (by omega) hm
theorem p_lend1 {v : VS} {S : SV} {B : Int} (hr : rV v S) (hg_ : gd B S) (hB : B ≤ 2000000) {f : Nat} (hf : f < 6) {p : Int} (hp : 1 ≤ p ∧ p ≤ 9999) (hm : mon S f < p) (t : Int32) : f_X2_lend v (iI f) t (iI p) = some (1, v) := by
  have hm0 := (hg_.1 f hf).1
  have hle := hg_.le hf
  unfold f_X2_lend
  rw [bn_i (p_purseOf hr hf), if_neg (fun q => by have := (iI_le ⟨by omega, by omega⟩ ⟨by omega, by omega⟩).mp q; omega)]
theorem p_lend2 {v : VS} {S : SV} {B : Int} (hr : rV v S) (hg_ : gd B S) (hB : B ≤ 2000000) {f t : Nat} (hf : f < 6) (ht : t < 6) {p : Int} (hp : 1 ≤ p ∧ p ≤ 9999) (hm : p ≤ mon S f) (hh : hg S t = 5) : f_X2_lend v (iI f) (iI t) (iI p) = some (2, v) := by
  have hm0 := (hg_.1 f hf).1
  have hle := hg_.le hf
  unfold f_X2_lend
  rw [bn_i (p_purseOf hr hf), if_pos ((iI_le ⟨by omega, by omega⟩ ⟨by omega, by omega⟩).mpr (by omega)), bn_i (p_debtsOf hr ht), bn_i (p_isMan ⟨by omega, by omega⟩), b01_t (by omega), if_neg (by decide), hh, z0, if_neg (fun q => by have := (iI_lt ⟨by omega, by omega⟩ ⟨by omega, by omega⟩).mp q; omega), z5, if_neg (fun q => by have := (iI_lt ⟨by omega, by omega⟩ ⟨by omega, by omega⟩).mp q; omega)]
theorem p_lend {v : VS} {S : SV} {B d : Int} (hr : rV v S) (hg_ : gd B S) (hB : B ≤ 2000000) (hd : v.2.2.2.2.2.2.2.2.1 = iI d) {f t : Nat} (hf : f < 6) (ht : t < 6) {p : Int} (hp : 1 ≤ p ∧ p ≤ 9999) (hm : p ≤ mon S f) (hh : hg S t < 5) : ∃ mo h l q e, f_X2_lend v (iI f) (iI t) (iI p) = some (0, (mo, h, l, q, e, v.2.2.2.2.2)) ∧ rV (mo, h, l, q, e, v.2.2.2.2.2) (lendS S f t p d) := by
  have hm0 := (hg_.1 f hf).1
  have hle := hg_.le hf
  have hra : rV (v.1, upd v.2.1 t (iI ((hg S t + 1 : Nat) : Int)), upd v.2.2.1 (t * 5 + hg S t) (iI f), upd v.2.2.2.1 (t * 5 + hg S t) (iI p), upd v.2.2.2.2.1 (t * 5 + hg S t) (iI d), v.2.2.2.2.2) (addS S t f p d) := by
    intro x hx
    obtain ⟨q1, q2, q3⟩ := hr x hx
    have hx5 := (hg_.1 x hx).2.1
    by_cases cx : x = t
    · subst cx
      refine ⟨q1, ?_, fun k hk => ?_⟩
      · show upd v.2.1 x _ x = iI ((if x = x then hg S x + 1 else hg S x : Nat) : Int)
        rw [upd_s, if_pos rfl]
      · have hk : k < hg S x + 1 := by
          have : hg (addS S x f p d) x = hg S x + 1 := by show (if x = x then _ else _) = _; rw [if_pos rfl]
          rw [this] at hk; exact hk
        show upd v.2.2.1 _ _ (x * 5 + k) = iI (if x = x ∧ k = hg S x then (f : Int) else ln S x k) ∧ upd v.2.2.2.1 _ _ (x * 5 + k) = iI (if x = x ∧ k = hg S x then p else pe S x k) ∧ upd v.2.2.2.2.1 _ _ (x * 5 + k) = iI (if x = x ∧ k = hg S x then d else dy S x k)
        by_cases ck : k = hg S x
        · rw [if_pos ⟨rfl, ck⟩, if_pos ⟨rfl, ck⟩, if_pos ⟨rfl, ck⟩, ck, upd_s, upd_s, upd_s]
          exact ⟨rfl, rfl, rfl⟩
        · rw [if_neg (fun q => ck q.2), if_neg (fun q => ck q.2), if_neg (fun q => ck q.2), upd_n (by omega), upd_n (by omega), upd_n (by omega)]
          exact q3 k (by omega)
    · refine ⟨q1, ?_, fun k hk => ?_⟩
      · show upd v.2.1 t _ x = iI ((if x = t then hg S t + 1 else hg S x : Nat) : Int)
        rw [upd_n cx, if_neg cx, q2]
      · have hk : k < hg S x := by
          have : hg (addS S t f p d) x = hg S x := by show (if x = t then _ else _) = _; rw [if_neg cx]
          rw [this] at hk; exact hk
        show upd v.2.2.1 _ _ (x * 5 + k) = iI (if x = t ∧ k = hg S t then (f : Int) else ln S x k) ∧ upd v.2.2.2.1 _ _ (x * 5 + k) = iI (if x = t ∧ k = hg S t then p else pe S x k) ∧ upd v.2.2.2.2.1 _ _ (x * 5 + k) = iI (if x = t ∧ k = hg S t then d else dy S x k)
        rw [if_neg (fun q => cx q.1), if_neg (fun q => cx q.1), if_neg (fun q => cx q.1), upd_n (by omega), upd_n (by omega), upd_n (by omega)]
        exact q3 k hk
  have hr2 := rV_setMon hra (m := f) (mon (addS S t f p d) f - p)
  have hr3 := rV_setMon hr2 (m := t) (mon (setMon (addS S t f p d) f (mon (addS S t f p d) f - p)) t + p)
  refine ⟨_, _, _, _, _, ?_, hr3⟩
  unfold f_X2_lend nm
  rw [bn_i (p_purseOf hr hf), if_pos ((iI_le ⟨by omega, by omega⟩ ⟨by omega, by omega⟩).mpr (by omega)), bn_i (p_debtsOf hr ht), bn_i (p_isMan ⟨by omega, by omega⟩), b01_t (by omega), if_neg (by decide), z0, if_neg (fun q => by have := (iI_lt ⟨by omega, by omega⟩ ⟨by omega, by omega⟩).mp q; omega), if_pos (by rw [z5]; exact (iI_lt ⟨by omega, by omega⟩ ⟨by omega, by omega⟩).mpr (by omega)), ixV, iI_s]
  dsimp only
  rw [ck_N (by omega) (by omega), ck_N ht (by omega), cl_N (n := t * 5 + hg S t) (by omega), cl_N (n := t) (by omega), hd, bn_i (p_purseOf hra hf), bn_i (p_fillPurse hf _), iI_sub, bn_i (p_purseOf hr2 ht), bn_i (p_fillPurse ht _), iI_add]
