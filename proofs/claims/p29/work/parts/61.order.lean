/-! an order, both ways -/
def zRw (c : zCl) (s : Nat → Int32) : Prop := (∀ i, i < 9 → s i = c.st i) ∧ ∀ m, m < 6 → ∀ g, g < 8 → s (15 + 22 * m + (14 + g)) = c.wa m g
theorem zRw_of {c : zCl} {s : Nat → Int32} {n : Nat} {ix : Nat → Nat} (h : zRR c s n ix) : zRw c s := ⟨h.1.1, fun m hm g hg => (h.2.2.2.1 m hm g hg).2⟩
theorem zOgR_at {wa : Nat → Nat → Int32} {mm : Int32} {og s : Nat → Int32} (hw : ∀ m, m < 6 → ∀ g, g < 8 → s (15 + 22 * m + (14 + g)) = wa m g) {g : Nat} (hg : g < 8) (h0 : og g = 0) : ∀ k, k ≤ 6 → zOgR wa mm og k g = lsum (zWantT s mm g) k
  | 0, _ => h0
  | k + 1, hk => by
    have ih := zOgR_at (mm := mm) hw hg h0 k (by omega)
    rw [lsum_s, ← ih]
    unfold zWantT
    rw [hw k (by omega) g hg]
    by_cases h : zHas mm k = true
    · rw [if_pos h, show zOgR wa mm og (k + 1) = zC0 (zOgR wa mm og k) (zAdd (zOgR wa mm og k) (wa k)) 8 from if_pos h, zC0_lt hg]; rfl
    · rw [if_neg h, show zOgR wa mm og (k + 1) = zOgR wa mm og k from if_neg h, Int32.add_zero]
section GA
variable {c : zCl} {s : Nat → Int32} {mm : Int32}
theorem zGa_og (h : zRw c s) (og : Nat → Int32) {g : Nat} (hg : g < 8) : zOgF c.wa mm og g = zWant s mm g := zOgR_at h.2 hg (zC0_lt hg) 6 (Nat.le_refl _)
variable {og : Nat → Int32}
theorem zGa_pr (h : zRw c s) (ho : ∀ g, g < 8 → og g = zWant s mm g) {g : Nat} (hg : g < 8) : zPrT c.st og g = zPriceIn s mm g := by
  unfold zPrT zPriceIn
  rw [ho g hg, h.1 0 (by omega)]
  by_cases q : zWant s mm g < c.st 0
  · rw [if_pos q, if_neg (Int32.not_le.mpr q)]
  · rw [if_neg q, if_pos (Int32.not_lt.mp q)]
theorem zGa_str (ho : ∀ g, g < 8 → og g = zWant s mm g) : lsum og 8 = zStr s mm := lsum_congr ho
theorem zGa_val (h : zRw c s) (ho : ∀ g, g < 8 → og g = zWant s mm g) : lsum (zOvT c.st og) 8 = zVal s mm := lsum_congr (fun g hg => by
  unfold zOvT; rw [zGa_pr h ho hg, ho g hg])
theorem zGa_wei (ho : ∀ g, g < 8 → og g = zWant s mm g) : lsum (zOw og) 8 = zWei s mm := lsum_congr (fun g hg => by
  unfold zOw; rw [ho g hg, Int32.mul_comm])
theorem zGa_po (h : zRw c s) (ho : ∀ g, g < 8 → og g = zWant s mm g) : zOpo c.st og = zPost s mm := by
  unfold zOpo zPost
  rw [zGa_str ho, zGa_wei ho, h.1 1 (by omega), h.1 2 (by omega)]
  rfl
theorem zGa_cost (h : zRw c s) (d : zOd) : zCoO (zGaO c mm d) = zCost s mm := by
  have e1 : (zGaO c mm d).vl = zVal s mm := zGa_val h (fun g hg => zGa_og h d.og hg)
  have e2 : (zGaO c mm d).po = zPost s mm := zGa_po h (fun g hg => zGa_og h d.og hg)
  unfold zCoO zCost; rw [e1, e2]
theorem zGa_vl (h : zRw c s) (d : zOd) : (zGaO c mm d).vl = zVal s mm := zGa_val h (fun g hg => zGa_og h d.og hg)
theorem zGa_pos (h : zRw c s) (d : zOd) : (zGaO c mm d).po = zPost s mm := zGa_po h (fun g hg => zGa_og h d.og hg)
theorem zGa_pc (h : zRw c s) (d : zOd) : (zGaO c mm d).pc = zStr s mm := zGa_str (fun g hg => zGa_og h d.og hg)
theorem zGa_prs (h : zRw c s) (d : zOd) {g : Nat} (hg : g < 8) : (zGaO c mm d).pr g = zPriceIn s mm g := by
  have e : (zGaO c mm d).pr g = zPrT c.st (zOgF c.wa mm d.og) g := zC0_lt hg
  rw [e]; exact zGa_pr h (fun g hg => zGa_og h d.og hg) hg
theorem zMo_cost (h : zRw c s) (d : zOd) (ho : ∀ g, g < 8 → d.og g = zWant s mm g) : zCoO (zReO c.st d) = zCost s mm := by
  have e1 : (zReO c.st d).vl = zVal s mm := zGa_val h ho
  have e2 : (zReO c.st d).po = zPost s mm := zGa_po h ho
  unfold zCoO zCost; rw [e1, e2]
end GA
/-! bounds -/
theorem zPrice_rg (s : Nat → Int32) (mm : Int32) {g : Nat} (hg : g < 8) : zRg (zPriceIn s mm g) 0 45 := by
  have h1 : ∀ g, g < 8 → 0 ≤ (nI (10 + 5 * g) - nI ((10 + 5 * g) / 5)).toInt ∧ (nI (10 + 5 * g) - nI ((10 + 5 * g) / 5)).toInt ≤ 45 := by decide +kernel
  have h2 : ∀ g, g < 8 → 0 ≤ (nI (10 + 5 * g)).toInt ∧ (nI (10 + 5 * g)).toInt ≤ 45 := by decide +kernel
  unfold zPriceIn
  split
  · exact h1 g hg
  · exact h2 g hg
theorem zg_mulB {a b : Int32} {A B : Int} (ha : zRg a 0 A) (hb : zRg b 0 B) (hA : 0 ≤ A) (h : A * B < 2147483648) : zRg (a * b) 0 (A * B) := by
  have h1 : a.toInt * b.toInt ≤ A * B := Int.mul_le_mul ha.2 hb.2 hb.1 hA
  have h2 : 0 ≤ a.toInt * b.toInt := Int.mul_nonneg ha.1 hb.1
  have := zg_mul (a := a) (b := b) (by omega) (by omega)
  unfold zRg; rw [this]; exact ⟨h2, h1⟩
theorem zRg_0 {B : Int} (h : 0 ≤ B) : zRg 0 0 B := ⟨Int.le_refl _, h⟩
theorem zRg_le {v : Int32} {A B : Int} (h : zRg v 0 A) (hAB : A ≤ B) : zRg v 0 B := ⟨h.1, Int.le_trans h.2 hAB⟩
theorem zWant_rg {s : Nat → Int32} (h : ∀ m, m < 6 → ∀ g, g < 8 → zRg (s (15 + 22 * m + (14 + g))) 0 20) (mm : Int32) {g : Nat} (hg : g < 8) : zRg (zWant s mm g) 0 120 := by
  have := zg_lsum (f := zWantT s mm g) (B := 20) (by omega) 6 (by omega) (fun k hk => by
    unfold zWantT; split
    · exact h k hk g hg
    · exact zRg_0 (by omega))
  exact zRg_le this (by omega)
theorem zVal_rg {s : Nat → Int32} (h : ∀ m, m < 6 → ∀ g, g < 8 → zRg (s (15 + 22 * m + (14 + g))) 0 20) (mm : Int32) : zRg (zVal s mm) 0 100000 := by
  have := zg_lsum (f := fun g => zWant s mm g * zPriceIn s mm g) (B := 5400) (by omega) 8 (by omega) (fun g hg => zg_mulB (A := 120) (B := 45) (zWant_rg h mm hg) (zPrice_rg s mm hg) (by omega) (by omega))
  exact zRg_le this (by omega)
theorem zDuty_eq {st s : Nat → Int32} {v : Int32} (h : ∀ i, i < 9 → s i = st i) (h5 : 0 ≤ (st 5).toInt ∧ (st 5).toInt ≤ 500) (hv : zRg v 0 100000) : zDutyC st v = zDuty s v := by
  obtain ⟨v1, v2⟩ := hv
  have e := zg_sub (a := v) (b := st 5) (by omega) (by omega)
  have z0 : (nI 0).toInt = 0 := rfl
  have hz : nI 0 * st 6 / nI 100 = 0 := by rw [show nI 0 = 0 from rfl, Int32.zero_mul, Int32.zero_div]
  unfold zDutyC zDuty
  rw [h 5 (by omega), h 6 (by omega)]
  by_cases q : v - st 5 < nI 0
  · rw [if_pos q, hz, if_neg]
    rw [Int32.lt_iff_toInt_lt] at q ⊢; omega
  · rw [if_neg q]
    rw [Int32.lt_iff_toInt_lt] at q
    by_cases r : st 5 < v
    · rw [if_pos r]; rfl
    · rw [if_neg r]
      rw [Int32.lt_iff_toInt_lt] at r
      have : v - st 5 = nI 0 := Int32.toInt_inj.mp (by omega)
      rw [this, hz]
theorem zI1_wa {c : zCl} {s : Nat → Int32} {D : Int} (h : zRw c s) (hI : zI1 c D) : ∀ m, m < 6 → ∀ g, g < 8 → zRg (s (15 + 22 * m + (14 + g))) 0 20 := by
  intro m hm g hg
  rw [h.2 m hm g hg]; exact (hI.2.2.2.2 m hm g hg).2
theorem zGa_duty {c : zCl} {s : Nat → Int32} {D : Int} (h : zRw c s) (hI : zI1 c D) (mm : Int32) (d : zOd) : zDutyC c.st (zGaO c mm d).vl = zDuty s (zVal s mm) := by
  rw [zGa_vl h d]
  exact zDuty_eq h.1 (zSt_rg hI).2.2.2.2.2.1 (zVal_rg (zI1_wa h hI) mm)
/-! shares -/
theorem zGets_at (am : Int32) (t sG : Nat → Int32) {m : Nat} (hm : m < 6) : zGets am t sG m = zGet am t m := zC0_lt hm
section GC
variable {t t' : Nat → Int32}
theorem zGet_congr (am : Int32) (h : ∀ k, k < 6 → t k = t' k) : ∀ m, m < 6 → zGet am t m = zGet am t' m := by
  have hs : lsum t 6 = lsum t' 6 := lsum_congr h
  have hb : ∀ m, m < 6 → zBase am t m = zBase am t' m := by
    intro m hm; unfold zBase; rw [hs, h m hm]
  have hl : ∀ k, k ≤ 6 → zLft am t k = zLft am t' k := by
    intro k
    induction k with
    | zero => intro _; rfl
    | succ k ih => intro hk; show zLft am t k - zBase am t k = zLft am t' k - zBase am t' k; rw [ih (by omega), hb k (by omega)]
  have hg : ∀ l m, m < 6 → zGiv t l m = zGiv t' l m := by
    intro l m hm; unfold zGiv; rw [hs, h m hm]
  have hl2 : ∀ k, k ≤ 6 → zLf2 am t k = zLf2 am t' k := by
    intro k
    induction k with
    | zero => intro _; exact hl 6 (Nat.le_refl _)
    | succ k ih =>
      intro hk
      show (if zGiv t (zLf2 am t k) k = true then zLf2 am t k - 1 else zLf2 am t k) = (if zGiv t' (zLf2 am t' k) k = true then zLf2 am t' k - 1 else zLf2 am t' k)
      rw [ih (by omega), hg _ k (by omega)]
  intro m hm
  unfold zGet
  rw [hl2 m (by omega), hg _ m hm, hb m hm]
end GC
theorem zGets_congr (am : Int32) {t t' sG sG' : Nat → Int32} (h : ∀ k, k < 6 → t k = t' k) {m : Nat} (hm : m < 6) : zGets am t sG m = zGets am t' sG' m := by
  rw [zGets_at am t sG hm, zGets_at am t' sG' hm, zGet_congr am h m hm]
theorem zGet_no (am : Int32) {t : Nat → Int32} {m : Nat} (h : t m = 0) : zGet am t m = 0 := by
  have h1 : zGiv t (zLf2 am t m) m = false := by unfold zGiv; rw [h]; simp
  have h2 : zBase am t m = 0 := by
    unfold zBase; rw [h]; split
    · rfl
    · rw [Int32.mul_zero, Int32.zero_div]
  unfold zGet; rw [h1, if_neg (by decide), h2]
theorem zHas_one : ∀ m, m < 6 → ∀ k, k < 6 → zHas (1 <<< (nI m &&& 31)) k = decide (k = m) := by decide +kernel
theorem lsum_one (v : Int32) (m : Nat) : ∀ n, lsum (fun k => if k = m then v else 0) n = if m < n then v else 0
  | 0 => by rw [if_neg (by omega)]; rfl
  | n + 1 => by
    rw [lsum_s, lsum_one v m n]
    by_cases h : n = m
    · subst h; rw [if_neg (by omega), if_pos rfl, if_pos (by omega), Int32.zero_add]
    · rw [if_neg h, Int32.add_zero]
      by_cases h2 : m < n
      · rw [if_pos h2, if_pos (by omega)]
      · rw [if_neg h2, if_neg (by omega)]
theorem zWant_one (s : Nat → Int32) {m : Nat} (hm : m < 6) (g : Nat) : zWant s (1 <<< (nI m &&& 31)) g = s (15 + 22 * m + (14 + g)) := by
  have : zWant s (1 <<< (nI m &&& 31)) g = lsum (fun k => if k = m then s (15 + 22 * m + (14 + g)) else 0) 6 := lsum_congr (fun k hk => by
    unfold zWantT
    rw [zHas_one m hm k hk]
    by_cases h : k = m
    · subst h; simp
    · simp [h])
  rw [this, lsum_one, if_pos hm]
theorem zOpt_eq {c : zCl} {s : Nat → Int32} (h : zRw c s) (mm : Int32) {m : Nat} (hm : m < 6) : zOpt c.wa mm m = zPart s mm m := by
  unfold zOpt zPart
  split
  · exact lsum_congr (fun g hg => by
      unfold zWof
      rw [zWant_one s hm g, h.2 m hm g hg, Int32.mul_comm])
  · rfl
theorem zOpt_rg {c : zCl} {D : Int} (hI : zI1 c D) (mm : Int32) {m : Nat} (hm : m < 6) : zRg (zOpt c.wa mm m) 0 1280 := by
  unfold zOpt
  split
  · have := zg_lsum (f := zWof (c.wa m)) (B := 160) (by omega) 8 (by omega) (fun g hg => by
      have h8 : ∀ g, g < 8 → 0 ≤ (nI (1 + g)).toInt ∧ (nI (1 + g)).toInt ≤ 8 := by decide +kernel
      exact zg_mulB (A := 20) (B := 8) (hI.2.2.2.2 m hm g hg).2 (h8 g hg) (by omega) (by omega))
    exact zRg_le this (by omega)
  · exact zRg_0 (by omega)
theorem zOpt_nn {c : zCl} {D : Int} (hI : zI1 c D) (mm : Int32) (pt : Nat → Int32) : 0 ≤ lsum (zC0 pt (zOpt c.wa mm) 6) 6 := by
  rw [zC0_sum]
  have := zg_lsum (f := zOpt c.wa mm) (B := 1280) (by omega) 6 (by omega) (fun m hm => zOpt_rg hI mm hm)
  rw [Int32.le_iff_toInt_le]
  exact this.1
theorem zParts_eq {c : zCl} {s : Nat → Int32} (h : zRw c s) (mm : Int32) (pt sT : Nat → Int32) : ∀ m, m < 6 → zC0 pt (zOpt c.wa mm) 6 m = zParts s mm sT m := by
  intro m hm
  unfold zParts
  rw [zC0_lt hm, zC0_lt hm, zOpt_eq h mm hm]
theorem zShare_eq {c : zCl} {s : Nat → Int32} (h : zRw c s) (mm : Int32) (d : zOd) (sT sG : Nat → Int32) {i : Nat} (hi : i < 6) : zRshC c mm d i = zRshare s sT sG mm i := by
  unfold zRshC zRshare zOwn
  by_cases q : zHas mm i = true
  · have e1 : lsum (zOcT (c.wa i) (zGaO c mm d).pr) 8 = lsum (zOwnT s mm i) 8 := lsum_congr (fun g hg => by
      unfold zOcT zOwnT
      rw [if_pos q, zGa_prs h d hg, h.2 i hi g hg])
    have e2 : (zShO c mm (zGaO c mm d)).sr i = zGets (zPost s mm) (zParts s mm sT) sG i := by
      have e : (zShO c mm (zGaO c mm d)).sr i = zGets (zGaO c mm d).po (zC0 d.pt (zOpt c.wa mm) 6) d.sr i := rfl
      rw [e, zGa_pos h d]
      exact zGets_congr _ (zParts_eq h mm d.pt sT) hi
    rw [if_pos q, e1, e2]
  · rw [if_neg q, lsum_0 (fun g => by unfold zOwnT; rw [if_neg q]) 8, zGets_at _ _ _ hi, zGet_no, Int32.add_zero]
    unfold zParts; rw [zC0_lt hi]; unfold zPart; rw [if_neg q]
/-! one more, and parting -/
theorem lsum_add (f g : Nat → Int32) : ∀ n, lsum (fun k => f k + g k) n = lsum f n + lsum g n
  | 0 => rfl
  | n + 1 => by rw [lsum_s, lsum_s, lsum_s, lsum_add f g n]; grind
theorem zHas_63 : ∀ m, m < 6 → zHas (nI 63) m = true := by decide +kernel
theorem zMo_want (s : Nat → Int32) (v : Int32) {m g : Nat} (hm : m < 6) (hg : g < 8) {k : Nat} (hk : k < 8) : zWant (upd s (15 + 22 * m + (14 + g)) (s (15 + 22 * m + (14 + g)) + v)) (nI 63) k = if k = g then zWant s (nI 63) k + v else zWant s (nI 63) k := by
  by_cases h : k = g
  · subst h
    rw [if_pos rfl]
    have e : zWant s (nI 63) k + v = lsum (fun j => zWantT s (nI 63) k j + if j = m then v else 0) 6 := by
      rw [lsum_add, lsum_one, if_pos hm]; rfl
    rw [e]
    refine lsum_congr (fun j hj => ?_)
    unfold zWantT
    rw [if_pos (zHas_63 j hj), if_pos (zHas_63 j hj)]
    by_cases q : j = m
    · subst q; rw [pk_us, if_pos rfl]
    · rw [pk_un (by omega), if_neg q, Int32.add_zero]
  · rw [if_neg h]
    refine lsum_congr (fun j hj => ?_)
    unfold zWantT
    rw [pk_un (by omega)]
theorem zMore_eq {c : zCl} {s : Nat → Int32} (h : zRw c s) (v : Int32) (d : zOd) {q : Nat × Nat} (hm : q.1 < 6) (hg : q.2 < 8) : zCoO (zMoO c v q.2 (zGaO c (nI 63) d)) - zCoO (zGaO c (nI 63) d) = zRmore s v q := by
  suffices key : zCoO (zMoO c v q.2 (zGaO c (nI 63) d)) = zCost (upd s (15 + 22 * q.1 + (14 + q.2)) (s (15 + 22 * q.1 + (14 + q.2)) + v)) (nI 63) by
    unfold zRmore; rw [zGa_cost h d, key]
  have hs : ∀ i, i < 9 → upd s (15 + 22 * q.1 + (14 + q.2)) (s (15 + 22 * q.1 + (14 + q.2)) + v) i = c.st i := fun i hi => by rw [pk_un (by omega)]; exact h.1 i hi
  unfold zMoO
  have h2 : zRw (zCl.mk c.st c.dy c.x c.br c.sp (fun m g => upd s (15 + 22 * q.1 + (14 + q.2)) (s (15 + 22 * q.1 + (14 + q.2)) + v) (15 + 22 * m + (14 + g))) c.ac c.ps c.pp c.pu c.lo c.un c.op c.pi c.cn c.vl c.du c.io c.hp c.hs) (upd s (15 + 22 * q.1 + (14 + q.2)) (s (15 + 22 * q.1 + (14 + q.2)) + v)) := ⟨hs, fun m hm g hg => rfl⟩
  refine zMo_cost h2 _ (fun g hg' => ?_)
  rw [zMo_want s v hm hg hg']
  show upd (zOgF c.wa (nI 63) d.og) q.2 (zOgF c.wa (nI 63) d.og q.2 + v) g = _
  by_cases e : g = q.2
  · subst e; rw [pk_us, if_pos rfl, zGa_og h d.og hg]
  · rw [pk_un e, if_neg e, zGa_og h d.og hg']
theorem zX63 : ∀ k, k < 64 → nI 63 ^^^ nI k = nI (63 - k) := by decide +kernel
section BP
variable {c : zCl} {s : Nat → Int32} {D : Int}
theorem zPp_eq (h : zRw c s) (hI : zI1 c D) (d : zOd) {k : Nat} (hk : k < 64) : zPpV c (nI k) d = zPt2 s (nI k) := by
  have e : nI 63 - nI k = nI (63 - k) := pk_sub (by omega)
  unfold zPpV zDuO zPt2
  rw [e, zX63 k hk, zGa_cost h, zGa_cost h, zGa_duty h hI, zGa_duty h hI]
  grind
theorem zPt_sym (s : Nat → Int32) {k : Nat} (hk : k < 64) : zPt2 s (nI (63 - k)) = zPt2 s (nI k) := by
  unfold zPt2
  rw [zX63 k hk, zX63 (63 - k) (by omega), show 63 - (63 - k) = k by omega]
  grind
theorem zBp_is (h : zRw c s) (hI : zI1 c D) (d : zOd) : ∀ k, k < 64 → (zBp c d k).2.1 = zPt2 s (nI (zBp c d k).1) ∧ (∀ j, j < (zBp c d k).1 → zPt2 s (nI (zBp c d k).1) < zPt2 s (nI j)) ∧ ∀ j, j ≤ k → zPt2 s (nI (zBp c d k).1) ≤ zPt2 s (nI j)
  | 0, _ => ⟨zPp_eq h hI d (by omega), fun j hj => absurd hj (Nat.not_lt_zero j), fun j hj => by
      have : j = 0 := by omega
      subst this; exact Int32.le_refl _⟩
  | k + 1, hk => by
    obtain ⟨a, b, e⟩ := zBp_is h hI d k (by omega)
    have hp := zPp_eq h hI (zBp c d k).2.2 hk
    have hle := zBp_le c d k
    by_cases q : zPpV c (nI (k + 1)) (zBp c d k).2.2 < (zBp c d k).2.1
    · rw [show zBp c d (k + 1) = (k + 1, zPpV c (nI (k + 1)) (zBp c d k).2.2, zPpO c (nI (k + 1)) (zBp c d k).2.2) from if_pos q]
      rw [hp, a] at q
      refine ⟨hp, fun j hj => ?_, fun j hj => ?_⟩
      · exact Int32.lt_of_lt_of_le q (e j (by omega))
      · rcases Nat.eq_or_lt_of_le hj with r | r
        · subst r; exact Int32.le_refl _
        · exact Int32.le_trans (Int32.le_of_lt q) (e j (by omega))
    · rw [show zBp c d (k + 1) = ((zBp c d k).1, (zBp c d k).2.1, zPpO c (nI (k + 1)) (zBp c d k).2.2) from if_neg q]
      rw [hp, a] at q
      refine ⟨a, b, fun j hj => ?_⟩
      rcases Nat.eq_or_lt_of_le hj with r | r
      · subst r; exact Int32.not_lt.mp q
      · exact e j (by omega)
theorem zBest_is (s : Nat → Int32) : ∀ k, k ≤ 63 → 63 - k ≤ zBest s k ∧ (∀ j, 63 - k ≤ j → j < zBest s k → zPt2 s (nI (zBest s k)) < zPt2 s (nI j)) ∧ ∀ j, 63 - k ≤ j → j ≤ 63 → zPt2 s (nI (zBest s k)) ≤ zPt2 s (nI j)
  | 0, _ => ⟨Nat.le_refl _, fun j h1 h2 => by
      have : zBest s 0 = 63 := rfl
      omega, fun j h1 h2 => by
      have : j = 63 := by omega
      subst this; exact Int32.le_refl _⟩
  | k + 1, hk => by
    obtain ⟨a, b, e⟩ := zBest_is s k (by omega)
    have hb := zBest_le s k
    by_cases q : zPt2 s (nI (62 - k)) ≤ zPt2 s (nI (zBest s k))
    · rw [show zBest s (k + 1) = 62 - k from if_pos q]
      refine ⟨by omega, fun j h1 h2 => by omega, fun j h1 h2 => ?_⟩
      by_cases r : j = 62 - k
      · subst r; exact Int32.le_refl _
      · exact Int32.le_trans q (e j (by omega) h2)
    · rw [show zBest s (k + 1) = zBest s k from if_neg q]
      refine ⟨by omega, fun j h1 h2 => ?_, fun j h1 h2 => ?_⟩
      · by_cases r : j = 62 - k
        · subst r; exact Int32.not_le.mp q
        · exact b j (by omega) h2
      · by_cases r : j = 62 - k
        · subst r; exact Int32.le_of_lt (Int32.not_le.mp q)
        · exact e j (by omega) h2
theorem zBp_best (h : zRw c s) (hI : zI1 c D) (d : zOd) : (zBp c d 31).1 = zBest s 63 ∧ (zBp c d 31).2.1 = zPt2 s (nI (zBest s 63)) := by
  obtain ⟨a, b, e⟩ := zBp_is h hI d 31 (by omega)
  obtain ⟨a2, b2, e2⟩ := zBest_is s 63 (by omega)
  have hle := zBp_le c d 31
  have hb := zBest_le s 63
  have he : ∀ j, j ≤ 63 → zPt2 s (nI (zBp c d 31).1) ≤ zPt2 s (nI j) := by
    intro j hj
    by_cases q : j ≤ 31
    · exact e j q
    · rw [← zPt_sym s (k := j) (by omega)]; exact e (63 - j) (by omega)
  have key : (zBp c d 31).1 = zBest s 63 := by
    rcases Nat.lt_trichotomy (zBp c d 31).1 (zBest s 63) with q | q | q
    · exact absurd (b2 _ (by omega) q) (Int32.not_lt.mpr (he _ hb))
    · exact q
    · exact absurd (b _ q) (Int32.not_lt.mpr (e2 _ (by omega) (by omega)))
  exact ⟨key, by rw [a, key]⟩
end BP
