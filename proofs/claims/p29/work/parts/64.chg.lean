/-! changes, both ways -/
def zOc (c : zCl) (s : Nat → Int32) : Prop := zWf c ∧ zRl c s ∧ zIv c 9999 50
theorem zOb_congr {α β : Type} {o : Option α} {e : Int32} {f g : α → Int32 ⊕ β} (h : ∀ i, o = some i → f i = g i) : zOb o e f = zOb o e g := by
  cases o with
  | none => rfl
  | some i => exact h i rfl
theorem zDset_in {p v : Int32} {i : Nat} (h : zDset p v = .inr i) : i < 9 ∧ zbe v (zLeast i) (zMost i) = true := by
  obtain ⟨j, hj, h⟩ := zOb_in h
  split at h
  · cases h; rename_i q; exact ⟨zix_lt hj, q⟩
  · cases h
theorem ch_set {c : zCl} {s : Nat → Int32} (h : zOc c s) {p v : Int32} {i : Nat} (hd : zDset p v = .inr i) : zOc ((zCl.mk (upd c.st i v) c.dy c.x c.br c.sp c.wa c.ac c.ps c.pp c.pu c.lo c.un c.op c.pi c.cn c.vl c.du c.io c.hp c.hs)) (upd s i v) ∧ c.st i = s i := by
  obtain ⟨hi, hv⟩ := zDset_in hd
  obtain ⟨hw, hR, hI⟩ := h
  refine ⟨⟨hw, zRA_R (w_st (zRR_A hR) hi v) ?_ ?_ ?_, ⟨fun j hj => ?_, hI.1.2⟩, hI.2⟩, (hR.1.1 i hi).symm⟩
  · rw [pk_un (by omega)]; exact hR.1.2.2.2.2.1
  · rw [pk_un (by omega)]; exact hR.1.2.2.2.2.2
  · rw [pk_un (by omega)]; exact hR.2.1
  · show zbe (upd c.st i v j) _ _ = true
    by_cases q : j = i
    · subst q; rw [pk_us]; exact hv
    · rw [pk_un q]; exact hI.1.1 j hj
theorem ch_shuf {c : zCl} {s : Nat → Int32} (h : zOc c s) {v : Int32} {u : Unit} (hd : zDshuf v = .inr u) : zOc ((zCl.mk c.st c.dy (v) c.br c.sp c.wa c.ac c.ps c.pp c.pu c.lo c.un c.op c.pi c.cn c.vl c.du c.io c.hp c.hs)) (upd s 10 v) ∧ c.x = s 10 := by
  obtain ⟨hw, hR, hI⟩ := h
  refine ⟨⟨hw, zRA_R (w_x (zRR_A hR) v) ?_ ?_ ?_, ⟨hI.1.1, hI.1.2.1, ?_, hI.1.2.2.2⟩, hI.2⟩, hR.1.2.2.1.symm⟩
  · rw [pk_un (by omega)]; exact hR.1.2.2.2.2.1
  · rw [pk_un (by omega)]; exact hR.1.2.2.2.2.2
  · rw [pk_un (by omega)]; exact hR.2.1
  · show zRg v 0 2147483647
    unfold zDshuf at hd
    split at hd
    · cases hd
    · rename_i q
      rw [Int32.lt_iff_toInt_lt] at q
      have h1 := Int32.toInt_lt v
      have h0 : (0 : Int32).toInt = 0 := rfl
      unfold zRg; omega
theorem zDsnap_eq {c : zCl} {s : Nat → Int32} (h : zRl c s) (m g : Int32) : zDsnapC c m g = zDsnap s m g := zOb_congr fun i hi => zOb_congr fun j hj => by rw [(h.2.2.1 i (zix_lt hi)).2.1]
theorem zDsnap_in {s : Nat → Int32} {m g : Int32} {q : Nat × Nat} (h : zDsnap s m g = .inr q) : q.1 < 6 ∧ q.2 < 8 := by
  obtain ⟨i, hi, h⟩ := zOb_in h
  obtain ⟨j, hj, h⟩ := zOb_in h
  split at h
  · cases h
  · cases h; exact ⟨zix_lt hi, zix_lt hj⟩
theorem zOr_rg : ∀ n, n < 256 → ∀ j, j < 8 → 0 ≤ (nI n ||| (nI 1 <<< (nI j &&& 31))).toInt ∧ (nI n ||| (nI 1 <<< (nI j &&& 31))).toInt ≤ 255 := by decide +kernel
theorem ch_snap {c : zCl} {s : Nat → Int32} (h : zOc c s) {q : Nat × Nat} (h1 : q.1 < 6) (h2 : q.2 < 8) : zOc ((zCl.mk c.st c.dy c.x (upd c.br q.1 (zSnB c q)) c.sp c.wa c.ac c.ps c.pp c.pu c.lo c.un c.op c.pi c.cn c.vl c.du c.io c.hp c.hs)) (zSsnap s q) ∧ zPop (zSnB c q) = zBits (zSsnap s q (15 + 22 * q.1 + 1)) := by
  obtain ⟨hw, hR, hI⟩ := h
  have e : zSsnap s q = upd s (15 + 22 * q.1 + 1) (zSnB c q) := by
    unfold zSsnap zSnB; rw [(hR.2.2.1 q.1 h1).2.1]; rfl
  have hb : zRg (zSnB c q) 0 255 := by
    obtain ⟨n, e, a, b, _⟩ := zg_is (hI.1.2.2.2.1 q.1 h1)
    unfold zSnB; rw [e]; exact zOr_rg n (by omega) q.2 h2
  rw [e]
  refine ⟨⟨hw, zRA_R (w_br (zRR_A hR) h1 _) ?_ ?_ ?_, ⟨hI.1.1, hI.1.2.1, hI.1.2.2.1, fun m hm => ?_, hI.1.2.2.2.2⟩, hI.2⟩, ?_⟩
  · rw [pk_un (by omega)]; exact hR.1.2.2.2.2.1
  · rw [pk_un (by omega)]; exact hR.1.2.2.2.2.2
  · rw [pk_un (by omega)]; exact hR.2.1
  · show zRg (upd c.br q.1 (zSnB c q) m) 0 255
    by_cases r : m = q.1
    · subst r; rw [pk_us]; exact hb
    · rw [pk_un r]; exact hI.1.2.2.2.1 m hm
  · rw [pk_us]
    obtain ⟨n, e, a, b, _⟩ := zg_is hb
    rw [e]; exact zPop_eq n (by omega)
theorem zAbs_nb : ∀ j, j < 8 → ∀ k, k < 8 → decide (zAbs (nI k - nI j) ≤ nI 1) = decide (j ≤ k + 1 ∧ k ≤ j + 1) := by decide +kernel
theorem zDfit_eq {c : zCl} {s : Nat → Int32} (h : zOc c s) (m g e : Int32) : zDfitC c m g e = zDfit s m g e := zOb_congr fun i hi => zOb_congr fun j hj => zOb_congr fun k hk => by
  obtain ⟨hw, hR, hI⟩ := h
  have hi := zix_lt hi
  have hj := zix_lt hj
  have hk := zix_lt hk
  rw [zDoes_at hj hk, (hR.2.2.1 i hi).2.1, (hR.2.2.2.1 i hi k hk).1, ← zAbs_nb j hj k hk]
  have hs := (hI.1.2.2.2.2 i hi k hk).1
  have h0 : (0 : Int32).toInt = 0 := rfl
  by_cases a : zHas (c.br i) j = true
  · rw [if_pos a, a]
    by_cases b : zAbs (nI k - nI j) ≤ nI 1
    · rw [if_pos b, decide_eq_true b]
      by_cases d : c.sp i k = 0
      · rw [if_pos d, d]; rfl
      · have : ¬ c.sp i k ≤ 0 := fun z => d (Int32.toInt_inj.mp (by have := Int32.le_iff_toInt_le.mp z; have := hs.1; omega))
        rw [if_neg d, decide_eq_true this]; rfl
    · rw [if_neg b, decide_eq_false b]; rfl
  · rw [if_neg a, Bool.eq_false_iff.mpr a, Bool.and_false, Bool.false_and]; rfl
theorem zDfit_in {c : zCl} {m g e : Int32} {q : Nat × Nat × Nat} (h : zDfitC c m g e = .inr q) : q.1 < 6 ∧ q.2.1 < 8 ∧ q.2.2 < 8 ∧ zHas (c.br q.1) q.2.1 = true ∧ ¬ c.sp q.1 q.2.2 = 0 := by
  obtain ⟨i, hi, h⟩ := zOb_in h
  obtain ⟨j, hj, h⟩ := zOb_in h
  obtain ⟨k, hk, h⟩ := zOb_in h
  split at h
  · split at h
    · split at h
      · cases h
      · cases h; exact ⟨zix_lt hi, zix_lt hj, zix_lt hk, by assumption, by assumption⟩
    · cases h
  · cases h
theorem zXor_eq : ∀ n, n < 256 → ∀ j, j < 8 → zHas (nI n) j = true → nI n &&& ((nI 1 <<< (nI j &&& 31)) ^^^ (-1 : Int32)) = nI n ^^^ ((1 : Int32) <<< (nI j &&& 31)) ∧ 0 ≤ (nI n ^^^ ((1 : Int32) <<< (nI j &&& 31))).toInt ∧ (nI n ^^^ ((1 : Int32) <<< (nI j &&& 31))).toInt ≤ 255 := by decide +kernel
theorem ch_fit {c : zCl} {s : Nat → Int32} (h : zOc c s) {q : Nat × Nat × Nat} (h1 : q.1 < 6) (h2 : q.2.1 < 8) (h3 : q.2.2 < 8) (h4 : zHas (c.br q.1) q.2.1 = true) (h5 : ¬ c.sp q.1 q.2.2 = 0) : zOc (zFiC c q) (zSfit s q) ∧ c.sp q.1 q.2.2 - nI 1 = zSfit s q (15 + 22 * q.1 + (6 + q.2.2)) := by
  obtain ⟨hw, hR, hI⟩ := h
  obtain ⟨n, en, a, b, _⟩ := zg_is (hI.1.2.2.2.1 q.1 h1)
  obtain ⟨x1, x2, x3⟩ := zXor_eq n (by omega) q.2.1 h2 (by rw [← en]; exact h4)
  rw [← en] at x1 x2 x3
  have e : zSfit s q = upd (upd s (15 + 22 * q.1 + 1) (c.br q.1 &&& ((nI 1 <<< (nI q.2.1 &&& 31)) ^^^ (-1)))) (15 + 22 * q.1 + (6 + q.2.2)) (c.sp q.1 q.2.2 - nI 1) := by
    unfold zSfit
    rw [pk_un (show 15 + 22 * q.1 + (6 + q.2.2) ≠ 15 + 22 * q.1 + 1 by omega), (hR.2.2.1 q.1 h1).2.1, (hR.2.2.2.1 q.1 h1 q.2.2 h3).1, x1]; rfl
  have hs := (hI.1.2.2.2.2 q.1 h1 q.2.2 h3).1
  have h0 : (0 : Int32).toInt = 0 := rfl
  have hp : 0 < (c.sp q.1 q.2.2).toInt := by
    rcases Int.lt_or_le 0 (c.sp q.1 q.2.2).toInt with z | z
    · exact z
    · exact absurd (Int32.toInt_inj.mp (by have := hs.1; omega)) h5
  have h11 : (nI 1).toInt = 1 := rfl
  have hv : zRg (c.sp q.1 q.2.2 - nI 1) 0 99 := by
    obtain ⟨s1, s2⟩ := hs
    unfold zRg; rw [zg_sub (by omega) (by omega)]; omega
  rw [e]
  refine ⟨⟨hw, zRA_R (w_sp (w_br (zRR_A hR) h1 _) h1 h3 _) ?_ ?_ ?_, ⟨hI.1.1, hI.1.2.1, hI.1.2.2.1, fun m hm => ?_, fun m hm g hg => ⟨?_, (hI.1.2.2.2.2 m hm g hg).2⟩⟩, hI.2⟩, ?_⟩
  · rw [pk_un (by omega), pk_un (by omega)]; exact hR.1.2.2.2.2.1
  · rw [pk_un (by omega), pk_un (by omega)]; exact hR.1.2.2.2.2.2
  · rw [pk_un (by omega), pk_un (by omega)]; exact hR.2.1
  · show zRg (upd c.br q.1 (c.br q.1 &&& ((nI 1 <<< (nI q.2.1 &&& 31)) ^^^ (-1))) m) 0 255
    by_cases r : m = q.1
    · subst r; rw [pk_us, x1]; exact ⟨x2, x3⟩
    · rw [pk_un r]; exact hI.1.2.2.2.1 m hm
  · show zRg (va_up c.sp q.1 (upd (c.sp q.1) q.2.2 (c.sp q.1 q.2.2 - nI 1)) m g) 0 99
    by_cases r : m = q.1
    · subst r; rw [va_up_self]
      by_cases t : g = q.2.2
      · subst t; rw [pk_us]; exact hv
      · rw [pk_un t]; exact (hI.1.2.2.2.2 _ hm g hg).1
    · rw [va_up_ne _ _ r]; exact (hI.1.2.2.2.2 m hm g hg).1
  · rw [pk_us]
theorem zDwant_in {m g v : Int32} {q : Nat × Nat} (h : zDwant m g v = .inr q) : q.1 < 6 ∧ q.2 < 8 ∧ zbe v (nI 0) (nI 20) = true := by
  obtain ⟨i, hi, h⟩ := zOb_in h
  obtain ⟨j, hj, h⟩ := zOb_in h
  split at h
  · cases h; exact ⟨zix_lt hi, zix_lt hj, by assumption⟩
  · cases h
theorem zbe_rg {v : Int32} {a b : Nat} (ha : a < 2 ^ 31) (hb : b < 2 ^ 31) (h : zbe v (nI a) (nI b) = true) : zRg v a b := by
  unfold zbe at h
  simp only [Bool.and_eq_true, decide_eq_true_eq] at h
  obtain ⟨h1, h2⟩ := h
  rw [Int32.le_iff_toInt_le, nI_toInt ha] at h1
  rw [Int32.le_iff_toInt_le, nI_toInt hb] at h2
  exact ⟨h1, h2⟩
theorem zOc_wa {c : zCl} {s : Nat → Int32} (h : zOc c s) {m0 g0 : Nat} (h1 : m0 < 6) (h2 : g0 < 8) {v : Int32} (hv : zRg v 0 20) : zOc ((zCl.mk c.st c.dy c.x c.br c.sp (va_up c.wa m0 (upd (c.wa m0) g0 v)) c.ac c.ps c.pp c.pu c.lo c.un c.op c.pi c.cn c.vl c.du c.io c.hp c.hs)) (upd s (15 + 22 * m0 + (14 + g0)) v) := by
  obtain ⟨hw, hR, hI⟩ := h
  refine ⟨hw, zRA_R (w_wa (zRR_A hR) h1 h2 _) ?_ ?_ ?_, ⟨hI.1.1, hI.1.2.1, hI.1.2.2.1, hI.1.2.2.2.1, fun m hm g hg => ⟨(hI.1.2.2.2.2 m hm g hg).1, ?_⟩⟩, hI.2⟩
  · rw [pk_un (by omega)]; exact hR.1.2.2.2.2.1
  · rw [pk_un (by omega)]; exact hR.1.2.2.2.2.2
  · rw [pk_un (by omega)]; exact hR.2.1
  · show zRg (va_up c.wa m0 (upd (c.wa m0) g0 v) m g) 0 20
    by_cases r : m = m0
    · subst r; rw [va_up_self]
      by_cases t : g = g0
      · subst t; rw [pk_us]; exact hv
      · rw [pk_un t]; exact (hI.1.2.2.2.2 _ hm g hg).2
    · rw [va_up_ne _ _ r]; exact (hI.1.2.2.2.2 m hm g hg).2
theorem ch_want {c : zCl} {s : Nat → Int32} (h : zOc c s) {m g v : Int32} {q : Nat × Nat} (d : zOd) (hd : zDwant m g v = .inr q) : zOc (zWaC c v q) (zSwant s v q) ∧ zCoO (zGaO (zWaC c v q) (nI 63) d) = zCost (zSwant s v q) (nI 63) := by
  obtain ⟨h1, h2, h3⟩ := zDwant_in hd
  have h4 : zOc (zWaC c v q) (zSwant s v q) := zOc_wa h h1 h2 (zbe_rg (a := 0) (b := 20) (by omega) (by omega) h3)
  exact ⟨h4, zGa_cost (zRw_of h4.2.1) d⟩
theorem zOc_ac {c : zCl} {s : Nat → Int32} (h : zOc c s) {m0 : Nat} (h1 : m0 < 6) (v : Int32) : zOc ((zCl.mk c.st c.dy c.x c.br c.sp c.wa (upd c.ac m0 v) c.ps c.pp c.pu c.lo c.un c.op c.pi c.cn c.vl c.du c.io c.hp c.hs)) (upd s (15 + 22 * m0 + 0) v) := by
  obtain ⟨hw, hR, hI⟩ := h
  refine ⟨hw, zRA_R (w_ac (zRR_A hR) h1 _) ?_ ?_ ?_, hI⟩
  · rw [pk_un (by omega)]; exact hR.1.2.2.2.2.1
  · rw [pk_un (by omega)]; exact hR.1.2.2.2.2.2
  · rw [pk_un (by omega)]; exact hR.2.1
theorem zDpay_in {m v : Int32} {i : Nat} (h : zDpay m v = .inr i) : i < 6 := by
  obtain ⟨j, hj, h⟩ := zOb_in h
  split at h
  · cases h; exact zix_lt hj
  · cases h
theorem ch_pay {c : zCl} {s : Nat → Int32} (h : zOc c s) {m v : Int32} {i : Nat} (hd : zDpay m v = .inr i) : zOc (zPaC c v i) (zSpay s v i) ∧ c.ac i + v = s (15 + 22 * i + 0) + v := by
  have hi := zDpay_in hd
  have e := (h.2.1.2.2.1 i hi).1
  refine ⟨?_, by rw [e]⟩
  unfold zSpay zPaC
  rw [e]; exact zOc_ac h hi _
theorem zOc_sp {c : zCl} {s : Nat → Int32} (h : zOc c s) {m0 g0 : Nat} (h1 : m0 < 6) (h2 : g0 < 8) {v : Int32} (hv : zRg v 0 99) : zOc ((zCl.mk c.st c.dy c.x c.br (va_up c.sp m0 (upd (c.sp m0) g0 v)) c.wa c.ac c.ps c.pp c.pu c.lo c.un c.op c.pi c.cn c.vl c.du c.io c.hp c.hs)) (upd s (15 + 22 * m0 + (6 + g0)) v) := by
  obtain ⟨hw, hR, hI⟩ := h
  refine ⟨hw, zRA_R (w_sp (zRR_A hR) h1 h2 _) ?_ ?_ ?_, ⟨hI.1.1, hI.1.2.1, hI.1.2.2.1, hI.1.2.2.2.1, fun m hm g hg => ⟨?_, (hI.1.2.2.2.2 m hm g hg).2⟩⟩, hI.2⟩
  · rw [pk_un (by omega)]; exact hR.1.2.2.2.2.1
  · rw [pk_un (by omega)]; exact hR.1.2.2.2.2.2
  · rw [pk_un (by omega)]; exact hR.2.1
  · show zRg (va_up c.sp m0 (upd (c.sp m0) g0 v) m g) 0 99
    by_cases r : m = m0
    · subst r; rw [va_up_self]
      by_cases t : g = g0
      · subst t; rw [pk_us]; exact hv
      · rw [pk_un t]; exact (hI.1.2.2.2.2 _ hm g hg).1
    · rw [va_up_ne _ _ r]; exact (hI.1.2.2.2.2 m hm g hg).1
theorem zDgive_eq {c : zCl} {s : Nat → Int32} (h : zRl c s) (m o g v : Int32) : zDgiveC c m o g v = zDgive s m o g v := zOb_congr fun i hi => zOb_congr fun j hj => zOb_congr fun k hk => by
  rw [(h.2.2.2.1 i (zix_lt hi) k (zix_lt hk)).1, (h.2.2.2.1 j (zix_lt hj) k (zix_lt hk)).1]
theorem zDgive_in {c : zCl} {m o g v : Int32} {q : Nat × Nat × Nat} (h : zDgiveC c m o g v = .inr q) : q.1 < 6 ∧ q.2.1 < 6 ∧ q.2.2 < 8 ∧ q.1 ≠ q.2.1 ∧ zbe v (nI 1) (nI 20) = true ∧ ¬ c.sp q.1 q.2.2 < v ∧ c.sp q.2.1 q.2.2 + v ≤ nI 99 := by
  obtain ⟨i, hi, h⟩ := zOb_in h
  obtain ⟨j, hj, h⟩ := zOb_in h
  obtain ⟨k, hk, h⟩ := zOb_in h
  split at h
  · cases h
  · split at h
    · split at h
      · cases h
      · split at h
        · cases h; exact ⟨zix_lt hi, zix_lt hj, zix_lt hk, by assumption, by assumption, by assumption, by assumption⟩
        · cases h
    · cases h
theorem ch_give {c : zCl} {s : Nat → Int32} (h : zOc c s) {m o g v : Int32} {q : Nat × Nat × Nat} (hd : zDgiveC c m o g v = .inr q) : zOc (zGvC c v q) (zSgive s v q) ∧ zGvA c v q q.1 = zSgive s v q (15 + 22 * q.1 + 0) := by
  obtain ⟨h1, h2, h3, h4, h5, h6, h7⟩ := zDgive_in hd
  suffices key : zOc (zGvC c v q) (zSgive s v q) from ⟨key, (key.2.1.2.2.1 q.1 h1).1.symm⟩
  have b5 := zbe_rg (a := 1) (b := 20) (by omega) (by omega) h5
  have bi := (h.2.2.1.2.2.2.2 q.1 h1 q.2.2 h3).1
  have bj := (h.2.2.1.2.2.2.2 q.2.1 h2 q.2.2 h3).1
  have h99 : (nI 99).toInt = 99 := nI_toInt (by omega)
  obtain ⟨v1, v2⟩ := b5
  obtain ⟨i1, i2⟩ := bi
  obtain ⟨j1, j2⟩ := bj
  rw [Int32.lt_iff_toInt_lt] at h6
  rw [Int32.le_iff_toInt_le, h99, zg_add (by omega) (by omega)] at h7
  have hA := zOc_sp h h1 h3 (v := c.sp q.1 q.2.2 - v) (by unfold zRg; rw [zg_sub (by omega) (by omega)]; omega)
  have e2 : va_up c.sp q.1 (upd (c.sp q.1) q.2.2 (c.sp q.1 q.2.2 - v)) q.2.1 q.2.2 = c.sp q.2.1 q.2.2 := by rw [va_up_ne _ _ (fun z => h4 z.symm)]
  have hB := zOc_sp hA h2 h3 (v := c.sp q.2.1 q.2.2 + v) (by unfold zRg; rw [zg_add (by omega) (by omega)]; omega)
  have hC := zOc_ac hB h1 (c.ac q.1 + v * nI (10 + 5 * q.2.2))
  have hD := zOc_ac hC h2 (upd c.ac q.1 (c.ac q.1 + v * nI (10 + 5 * q.2.2)) q.2.1 - v * nI (10 + 5 * q.2.2))
  have es : zSgive s v q = upd (upd (upd (upd s (15 + 22 * q.1 + (6 + q.2.2)) (c.sp q.1 q.2.2 - v)) (15 + 22 * q.2.1 + (6 + q.2.2)) (c.sp q.2.1 q.2.2 + v)) (15 + 22 * q.1 + 0) (c.ac q.1 + v * nI (10 + 5 * q.2.2))) (15 + 22 * q.2.1 + 0) (upd c.ac q.1 (c.ac q.1 + v * nI (10 + 5 * q.2.2)) q.2.1 - v * nI (10 + 5 * q.2.2)) := by
    unfold zSgive
    dsimp only
    have a1 : s (15 + 22 * q.1 + (6 + q.2.2)) = c.sp q.1 q.2.2 := (h.2.1.2.2.2.1 q.1 h1 q.2.2 h3).1
    have a2 : s (15 + 22 * q.2.1 + (6 + q.2.2)) = c.sp q.2.1 q.2.2 := (h.2.1.2.2.2.1 q.2.1 h2 q.2.2 h3).1
    have a3 : s (15 + 22 * q.1 + 0) = c.ac q.1 := (h.2.1.2.2.1 q.1 h1).1
    rw [a1]
    rw [pk_un (show 15 + 22 * q.2.1 + (6 + q.2.2) ≠ 15 + 22 * q.1 + (6 + q.2.2) by omega), a2]
    rw [pk_un (show 15 + 22 * q.1 + 0 ≠ 15 + 22 * q.2.1 + (6 + q.2.2) by omega), pk_un (show 15 + 22 * q.1 + 0 ≠ 15 + 22 * q.1 + (6 + q.2.2) by omega), a3]
    rw [(hC.2.1.2.2.1 q.2.1 h2).1]
    rfl
  rw [es]
  have ec : zGvC c v q = (zCl.mk c.st c.dy c.x c.br (va_up (va_up c.sp q.1 (upd (c.sp q.1) q.2.2 (c.sp q.1 q.2.2 - v))) q.2.1 (upd (va_up c.sp q.1 (upd (c.sp q.1) q.2.2 (c.sp q.1 q.2.2 - v)) q.2.1) q.2.2 (c.sp q.2.1 q.2.2 + v))) c.wa (upd (upd c.ac q.1 (c.ac q.1 + v * nI (10 + 5 * q.2.2))) q.2.1 (upd c.ac q.1 (c.ac q.1 + v * nI (10 + 5 * q.2.2)) q.2.1 - v * nI (10 + 5 * q.2.2))) c.ps c.pp c.pu c.lo c.un c.op c.pi c.cn c.vl c.du c.io c.hp c.hs) := by
    unfold zGvC zGvS zGvA
    rw [e2]
  rw [ec]; exact hD
/-! back, and the slots -/
theorem zC0_402 {c : zCl} {s f : Nat → Int32} (hu : c.un ≤ 5) (h : zRl c f) : zRl c (zC0 s f 402) := zRl_eq hu (fun i hi => zC0_lt hi) h
theorem ch_copy {c o : zCl} {s f : Nat → Int32} (hc : zWf c) (ho : zOc o f) : zOc (zCpy c o) (zC0 s f 402) := ⟨zCpy_wf hc ho.1, zC0_402 ho.1.1 (zCpy_R hc ho.1 ho.2.1), zCpy_I hc ho.1 ho.2.2⟩
def zSS (sc : Nat → zCl) (sv sI : Nat → Bool) (sL : Nat → Int32) : Prop := (∀ j, j < 2 → zWf (sc j)) ∧ (∀ j, sv j = sI j) ∧ ∀ j, j < 2 → sv j = true → zRl (sc j) (zHs sL j) ∧ zIv (sc j) 9999 50
theorem zSS_save {c : zCl} {sc : Nat → zCl} {sv sI : Nat → Bool} {s sL : Nat → Int32} {i : Nat} (h : zSS sc sv sI sL) (hi : i < 2) (hc : zOc c s) : zSS (va_up sc i (zCpy (sc i) c)) (ub sv i true) (ub sI i true) (zCp sL s (402 * i) 402) := by
  obtain ⟨h1, h2, h3⟩ := h
  refine ⟨fun j hj => ?_, fun j => ?_, fun j hj hs => ?_⟩
  · by_cases r : j = i
    · subst r; rw [va_up_self]; exact zCpy_wf (h1 _ hj) hc.1
    · rw [va_up_ne _ _ r]; exact h1 j hj
  · unfold ub; split
    · rfl
    · exact h2 j
  · by_cases r : j = i
    · subst r; rw [va_up_self]
      refine ⟨zRl_eq hc.1.1 (fun k hk => ?_) (zCpy_R (h1 _ hj) hc.1 hc.2.1), zCpy_I (h1 _ hj) hc.1 hc.2.2⟩
      unfold zHs zCp; rw [if_pos (by omega)]; congr 1; omega
    · rw [va_up_ne _ _ r]
      have hs' : sv j = true := by unfold ub at hs; rw [if_neg r] at hs; exact hs
      obtain ⟨a, b⟩ := h3 j hj hs'
      refine ⟨zRl_eq (h1 j hj).1 (fun k hk => ?_) a, b⟩
      unfold zHs zCp; rw [if_neg (by omega)]
