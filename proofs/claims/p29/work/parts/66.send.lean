/-! an order is sent, both ways -/
theorem lsum_swap (F : Nat → Nat → Int32) (a : Nat) : ∀ b, lsum (fun g => lsum (fun m => F m g) a) b = lsum (fun m => lsum (F m) b) a
  | 0 => (lsum_0 (fun _ => rfl) a).symm
  | b + 1 => by
    have h := lsum_add (fun m => lsum (F m) b) (fun m => F m b) a
    rw [lsum_s, lsum_swap F a b]
    exact h.symm
section SD
variable {S gt : Nat → Int32} {mm : Int32} {pn : Nat}
theorem zSd3_str : ∀ {k k0 : Nat}, k ≤ 48 → k0 < k → zSd3 S mm pn k (147 + 51 * pn + (3 + k0)) = if zHas mm (k0 / 8) = true then zSd3 S mm pn k0 (15 + 22 * (k0 / 8) + (14 + k0 % 8)) else nI 0
  | k + 1, k0, hk, h0 => by
    show upd (upd _ _ _) _ _ _ = _
    rw [pk_un (by omega)]
    by_cases h : k0 = k
    · subst h; rw [pk_us]
    · rw [pk_un (by omega)]; exact zSd3_str (by omega) (by omega)
theorem zSd3_wa {m g : Nat} (hm : m < 6) (hg : g < 8) : ∀ {k : Nat}, k ≤ 48 → zSd3 S mm pn k (15 + 22 * m + (14 + g)) = if 8 * m + g < k ∧ zHas mm m = true then nI 0 else S (15 + 22 * m + (14 + g))
  | 0, _ => by rw [if_neg (fun z => absurd z.1 (by omega))]; rfl
  | k + 1, hk => by
    have ih := zSd3_wa hm hg (k := k) (by omega)
    show upd (upd _ _ _) _ _ _ = _
    by_cases h : 8 * m + g = k
    · have e1 : k / 8 = m := by omega
      have e2 : k % 8 = g := by omega
      rw [e1, e2, pk_us, pk_un (by omega), ih]
      by_cases q : zHas mm m = true
      · rw [if_pos q, if_pos ⟨by omega, q⟩]
      · rw [if_neg q, if_neg (fun z => q z.2), if_neg (fun z => q z.2)]
    · rw [pk_un (by omega), pk_un (by omega), ih]
      by_cases q : 8 * m + g < k ∧ zHas mm m = true
      · rw [if_pos q, if_pos ⟨by omega, q.2⟩]
      · rw [if_neg q, if_neg (fun z => q ⟨by omega, z.2⟩)]
theorem zSd3_ot {i : Nat} (h1 : ∀ m, m < 6 → ∀ g, g < 8 → i ≠ 15 + 22 * m + (14 + g)) (h2 : ∀ k, k < 48 → i ≠ 147 + 51 * pn + (3 + k)) : ∀ {k : Nat}, k ≤ 48 → zSd3 S mm pn k i = S i
  | 0, _ => rfl
  | k + 1, hk => by
    show upd (upd _ _ _) _ _ _ = _
    rw [pk_un (h1 _ (by omega) _ (by omega)), pk_un (h2 k (by omega))]
    exact zSd3_ot h1 h2 (by omega)
theorem zSd2_hi {i : Nat} (h : 147 ≤ i) : ∀ {k : Nat}, k ≤ 6 → zSd2 S gt mm k i = S i
  | 0, _ => rfl
  | k + 1, hk => by
    show upd (upd (upd _ _ _) _ _) _ _ i = _
    rw [pk_un (by omega), pk_un (by omega), pk_un (by omega)]
    exact zSd2_hi h (by omega)
end SD
section SE
variable {c : zCl} {s sT sG : Nat → Int32} {mm : Int32}
theorem zRA_free {n : Nat} {ix : Nat → Nat} (h : zRA c s n ix) {i : Nat} (hi : 147 + 51 * n ≤ i) (v : Int32) : zRA c (upd s i v) n ix := by
  obtain ⟨⟨h1, h1a, h1b, h1c⟩, h2, h3, h4⟩ := h
  refine ⟨⟨fun j hj => ?_, ?_, ?_, ?_⟩, fun k hk => ?_, fun k hk g hg => ?_, fun p hp => ?_⟩
  · rw [pk_un (by omega)]; exact h1 j hj
  · rw [pk_un (by omega)]; exact h1a
  · rw [pk_un (by omega)]; exact h1b
  · rw [pk_un (by omega)]; exact h1c
  · rw [pk_un (by omega), pk_un (by omega), pk_un (by omega), pk_un (by omega), pk_un (by omega), pk_un (by omega)]; exact h2 k hk
  · rw [pk_un (by omega), pk_un (by omega)]; exact h3 k hk g hg
  · obtain ⟨a0, a1, a2, a3⟩ := h4 p hp
    refine ⟨?_, ?_, ?_, fun m hm g hg => ?_⟩
    · rw [pk_un (by omega)]; exact a0
    · rw [pk_un (by omega)]; exact a1
    · rw [pk_un (by omega)]; exact a2
    · rw [pk_un (by omega)]; exact a3 m hm g hg
/-- the members have paid, the first k of them -/
def zSc (c : zCl) (mm : Int32) (d : zOd) (sr : Nat → Int32) (k : Nat) : zCl := (zCl.mk c.st c.dy c.x c.br c.sp c.wa (zC0 c.ac (zDpA c.ac sr c.wa (zGaO c mm d).pr mm) k) (zC0 c.ps (zDpS c.ps c.wa (zGaO c mm d).pr mm) k) (zC0 c.pp (zDpP c.pp sr mm) k) c.pu c.lo c.un c.op c.pi c.cn c.vl c.du c.io c.hp c.hs)
theorem zOwn_eq (h : zRw c s) (d : zOd) {m : Nat} (hm : m < 6) : zOwn s mm m = if zHas mm m = true then lsum (zOcT (c.wa m) (zGaO c mm d).pr) 8 else 0 := by
  by_cases q : zHas mm m = true
  · rw [if_pos q]
    exact lsum_congr (fun g hg => by
      unfold zOcT zOwnT
      rw [if_pos q, zGa_prs h d hg, h.2 m hm g hg])
  · rw [if_neg q]
    exact lsum_0 (fun g => by unfold zOwnT; rw [if_neg q]) 8
theorem zSd2_R (h : zRA c s c.un (fun p => p)) (d : zOd) {sr gt : Nat → Int32} (hg : ∀ m, m < 6 → gt m = sr m) (h0 : ∀ m, m < 6 → ¬ zHas mm m = true → sr m = 0) : ∀ k, k ≤ 6 → zRA (zSc c mm d sr k) (zSd2 s gt mm k) c.un (fun p => p)
  | 0, _ => by
    unfold zSc
    rw [zC0_0, zC0_0, zC0_0]
    exact h
  | k + 1, hk => by
    have ih := zSd2_R h d hg h0 k (by omega)
    have hw := zRw_A ih
    have eo : zOwn (zSd2 s gt mm k) mm k = if zHas mm k = true then lsum (zOcT (c.wa k) (zGaO c mm d).pr) 8 else 0 := zOwn_eq hw d (by omega)
    have a1 : zSd2 s gt mm k (15 + 22 * k + 0) = c.ac k := ((ih.2.1 k (by omega)).1).trans (zC0_ge (Nat.le_refl k))
    have a2 : zSd2 s gt mm k (15 + 22 * k + 2) = c.ps k := ((ih.2.1 k (by omega)).2.2.1).trans (zC0_ge (Nat.le_refl k))
    have a3 : zSd2 s gt mm k (15 + 22 * k + 3) = c.pp k := ((ih.2.1 k (by omega)).2.2.2.1).trans (zC0_ge (Nat.le_refl k))
    have e1 : zSd2 s gt mm (k + 1) = upd (upd (upd (zSd2 s gt mm k) (15 + 22 * k + 0) (zDpA c.ac sr c.wa (zGaO c mm d).pr mm k)) (15 + 22 * k + 2) (zDpS c.ps c.wa (zGaO c mm d).pr mm k)) (15 + 22 * k + 3) (zDpP c.pp sr mm k) := by
      show zSd2s (zSd2 s gt mm k) (zOwn (zSd2 s gt mm k) mm k) (gt k) k = _
      unfold zSd2s
      dsimp only
      rw [eo, hg k (by omega), pk_un (show 15 + 22 * k + 2 ≠ 15 + 22 * k + 0 by omega), pk_un (show 15 + 22 * k + 3 ≠ 15 + 22 * k + 2 by omega), pk_un (show 15 + 22 * k + 3 ≠ 15 + 22 * k + 0 by omega), a1, a2, a3]
      unfold zDpA zDpS zDpP
      by_cases q : zHas mm k = true
      · simp only [if_pos q]
      · simp only [if_neg q]
        rw [h0 k (by omega) q, Int32.add_zero, Int32.sub_zero, Int32.add_zero, Int32.add_zero]
    have hx := w_pp (w_ps (w_ac ih (show k < 6 by omega) (zDpA c.ac sr c.wa (zGaO c mm d).pr mm k)) (show k < 6 by omega) (zDpS c.ps c.wa (zGaO c mm d).pr mm k)) (show k < 6 by omega) (zDpP c.pp sr mm k)
    rw [e1]
    have ec : zSc c mm d sr (k + 1) = (zCl.mk c.st c.dy c.x c.br c.sp c.wa (upd (zC0 c.ac (zDpA c.ac sr c.wa (zGaO c mm d).pr mm) k) k (zDpA c.ac sr c.wa (zGaO c mm d).pr mm k)) (upd (zC0 c.ps (zDpS c.ps c.wa (zGaO c mm d).pr mm) k) k (zDpS c.ps c.wa (zGaO c mm d).pr mm k)) (upd (zC0 c.pp (zDpP c.pp sr mm) k) k (zDpP c.pp sr mm k)) c.pu c.lo c.un c.op c.pi c.cn c.vl c.du c.io c.hp c.hs) := by
      unfold zSc
      rw [zC0_s, zC0_s, zC0_s]
    rw [ec]; exact hx
theorem zbe_1 (mm : Int32) : zbe mm (nI 1) (nI 63) = (!decide (mm = 0) && zbe mm (nI 0) (nI 63)) := by
  have h1 : (nI 1).toInt = 1 := rfl
  have h0 : (nI 0).toInt = 0 := rfl
  have hz : (0 : Int32).toInt = 0 := rfl
  unfold zbe
  by_cases q : mm = 0
  · subst q; rfl
  · have q2 : mm.toInt ≠ 0 := fun z => q (Int32.toInt_inj.mp (by omega))
    rw [decide_eq_false q]
    have : decide (nI 1 ≤ mm) = decide (nI 0 ≤ mm) := by
      apply decide_eq_decide.mpr
      rw [Int32.le_iff_toInt_le, Int32.le_iff_toInt_le]; omega
    rw [this]; rfl
theorem zDsend_eq (h : zOc c s) (d : zOd) : zDsendC c mm d = zDsend s mm c.un := by
  have hw := zRw_of h.2.1
  have hu := h.1.1
  unfold zDsendC zDsend
  rw [zbe_1, zGa_pc hw, zGa_cost hw, zChest_eq h.2.1]
  by_cases q : mm = 0
  · rw [if_pos q, decide_eq_true q]; rfl
  · rw [if_neg q, decide_eq_false q, Bool.not_false, Bool.true_and]
    by_cases a : c.un < 5
    · rw [if_pos a, if_neg (show ¬ c.un = 5 by omega)]
    · rw [if_neg a, if_pos (show c.un = 5 by omega)]
theorem zDsend_in {c : zCl} {mm : Int32} {d : zOd} {u : Unit} (h : zDsendC c mm d = .inr u) : ¬ (zGaO c mm d).pc = 0 ∧ c.un < 5 := by
  unfold zDsendC at h
  split at h
  · cases h
  · split at h
    · split at h
      · cases h
      · split at h
        · split at h
          · exact ⟨by assumption, by assumption⟩
          · cases h
        · cases h
    · cases h
theorem ch_send (h : zOc c s) (d : zOd) {u : Unit} (hd : zDsendC c mm d = .inr u) : zOc (zDiC c mm (zGaO c mm d)) (zSends s sT sG mm c.un) := by
  obtain ⟨hpc, hu⟩ := zDsend_in hd
  obtain ⟨hw, hR, hI⟩ := h
  have hRw := zRw_of hR
  have hA1 : zRA c (zSd1 s mm c.un) c.un (fun p => p) := zRA_free (zRA_free (zRA_free (zRR_A hR) (by omega) _) (by omega) _) (by omega) _
  have hw1 := zRw_A hA1
  have hwa : ∀ m, m < 6 → ∀ g, g < 8 → zRg (c.wa m g) 0 20 := fun m hm g hg => (hI.1.2.2.2.2 m hm g hg).2
  have hst := zSt_rg hI.1
  -- shares
  have hg : ∀ m, m < 6 → zSdG s sT sG mm c.un m = zGets (zGaO c mm d).po (zC0 d.pt (zOpt c.wa mm) 6) d.sr m := by
    intro m hm
    unfold zSdG zSdT
    rw [zGa_pos hw1 d]
    exact zGets_congr _ (fun k hk => (zParts_eq hw1 mm d.pt sT k hk).symm) hm
  have h0 : ∀ m, m < 6 → ¬ zHas mm m = true → zGets (zGaO c mm d).po (zC0 d.pt (zOpt c.wa mm) 6) d.sr m = 0 := by
    intro m hm q
    rw [zGets_at _ _ _ hm, zGet_no]
    rw [zC0_lt hm]; unfold zOpt; rw [if_neg q]; rfl
  have hA2 := zSd2_R (mm := mm) hA1 d hg h0 6 (Nat.le_refl _)
  have e147 : ∀ i, 147 ≤ i → zSd2 (zSd1 s mm c.un) (zSdG s sT sG mm c.un) mm 6 i = zSd1 s mm c.un i := fun i hi => zSd2_hi hi (Nat.le_refl _)
  have e15 : ∀ i, i < 15 → zSends s sT sG mm c.un i = if i = 14 then nI (c.un + 1) else s i := by
    intro i hi
    unfold zSends
    by_cases q : i = 14
    · subst q; rw [pk_us, if_pos rfl]
    · rw [pk_un q, if_neg q, zSd3_lo hi, zSd2_lo hi, zSd1_lo hi]
  have hst1 : ∀ i, 147 ≤ i → i < 147 + 51 * c.un → zSends s sT sG mm c.un i = s i := by
    intro i h1 h2
    unfold zSends
    rw [pk_un (by omega), zSd3_ot (fun m hm g hg => by omega) (fun k hk => by omega) (Nat.le_refl _), e147 i h1]
    unfold zSd1
    rw [pk_un (by omega), pk_un (by omega), pk_un (by omega)]
  have hq : ∀ p, p < c.un → c.pi p ≠ c.pi c.un := fun p hp z => by
    have := hw.2.2 p c.un (by omega) hu z
    omega
  have hwv : ∀ m, m < 6 → ∀ g, g < 8 → zSd2 (zSd1 s mm c.un) (zSdG s sT sG mm c.un) mm 6 (15 + 22 * m + (14 + g)) = c.wa m g := fun m hm g hg => (hA2.2.2.1 m hm g hg).2
  have hcn : ∀ m, m < 6 → ∀ g, g < 8 → (zDiC c mm (zGaO c mm d)).cn (c.pi c.un) m g = if zHas mm m = true then c.wa m g else nI 0 := by
    intro m hm g hg
    show va_up c.cn (c.pi c.un) (zTab (c.cn (c.pi c.un)) (zDpN c.wa mm) 6) (c.pi c.un) m g = _
    rw [va_up_self, zTab_at hm hg]
    unfold zDpN; split <;> rfl
  have hcnr : ∀ m, m < 6 → ∀ g, g < 8 → zRg ((zDiC c mm (zGaO c mm d)).cn (c.pi c.un) m g) 0 20 := by
    intro m hm g hg
    rw [hcn m hm g hg]; split
    · exact hwa m hm g hg
    · exact zRg_0 (by omega)
  refine ⟨⟨hu, hw.2⟩, ⟨⟨fun i hi => ?_, ?_, ?_, ?_, ?_, ?_⟩, ?_, fun m hm => ?_, fun m hm g hg => ?_, fun p hp => ?_⟩, ⟨⟨hI.1.1, hI.1.2.1, hI.1.2.2.1, hI.1.2.2.2.1, fun m hm g hg => ⟨(hI.1.2.2.2.2 m hm g hg).1, ?_⟩⟩, fun p hp => ?_⟩⟩
  · rw [e15 i (by omega), if_neg (by omega)]; exact hR.1.1 i hi
  · rw [e15 _ (by omega), if_neg (by omega)]; exact hR.1.2.1
  · rw [e15 _ (by omega), if_neg (by omega)]; exact hR.1.2.2.1
  · rw [e15 _ (by omega), if_neg (by omega)]; exact hR.1.2.2.2.1
  · rw [e15 _ (by omega), if_neg (by omega)]; exact hR.1.2.2.2.2.1
  · rw [e15 _ (by omega), if_neg (by omega)]; exact hR.1.2.2.2.2.2
  · rw [e15 _ (by omega), if_pos rfl]; rfl
  · obtain ⟨b0, b1, b2, b3, b4, b5⟩ := hA2.2.1 m hm
    have hz : ∀ j, j < 6 → zSends s sT sG mm c.un (15 + 22 * m + j) = zSd2 (zSd1 s mm c.un) (zSdG s sT sG mm c.un) mm 6 (15 + 22 * m + j) := by
      intro j hj
      unfold zSends
      rw [pk_un (by omega), zSd3_ot (fun m hm g hg => by omega) (fun k hk => by omega) (Nat.le_refl _)]
    exact ⟨(hz 0 (by omega)).trans b0, (hz 1 (by omega)).trans b1, (hz 2 (by omega)).trans b2, (hz 3 (by omega)).trans b3, (hz 4 (by omega)).trans b4, (hz 5 (by omega)).trans b5⟩
  · obtain ⟨b0, b1⟩ := hA2.2.2.1 m hm g hg
    constructor
    · unfold zSends
      rw [pk_un (by omega), zSd3_ot (fun m' hm' g' hg' => by omega) (fun k hk => by omega) (Nat.le_refl _)]; exact b0
    · unfold zSends
      rw [pk_un (by omega), zSd3_wa hm hg (Nat.le_refl _), hwv m hm g hg]
      show _ = zTab c.wa (zDpW c.wa mm) 6 m g
      rw [zTab_at hm hg]
      unfold zDpW
      by_cases q : zHas mm m = true
      · rw [if_pos q, if_pos ⟨by omega, q⟩]
      · rw [if_neg q, if_neg (fun z => q z.2)]
  · have hp' : p < c.un + 1 := hp
    by_cases e : p = c.un
    · subst e
      have f0 : ∀ j, j < 3 → zSends s sT sG mm c.un (147 + 51 * c.un + j) = zSd1 s mm c.un (147 + 51 * c.un + j) := by
        intro j hj
        unfold zSends
        rw [pk_un (by omega), zSd3_ot (fun m hm g hg => by omega) (fun k hk => by omega) (Nat.le_refl _), e147 _ (by omega)]
      refine ⟨?_, ?_, ?_, fun m hm g hg => ?_⟩
      · rw [f0 0 (by omega)]
        show _ = va_up c.vl (c.pi c.un) (zGaO c mm d).vl (c.pi c.un)
        unfold zSd1
        rw [pk_un (by omega), pk_un (by omega), pk_us, va_up_self, zGa_vl hRw]
      · rw [f0 1 (by omega)]
        show _ = va_up c.du (c.pi c.un) (c.dy + c.st 3) (c.pi c.un)
        unfold zSd1
        rw [pk_un (by omega), pk_us, va_up_self, hR.1.2.1, hR.1.1 3 (by omega)]
      · rw [f0 2 (by omega)]
        show _ = zb (va_up c.io (c.pi c.un) false (c.pi c.un))
        unfold zSd1
        rw [pk_us, va_up_self]; rfl
      · refine Eq.trans ?_ (hcn m hm g hg).symm
        unfold zSends
        rw [pk_un (by omega), show 147 + 51 * c.un + (3 + 8 * m + g) = 147 + 51 * c.un + (3 + (8 * m + g)) by omega, zSd3_str (Nat.le_refl _) (by omega), show (8 * m + g) / 8 = m by omega, show (8 * m + g) % 8 = g by omega, zSd3_wa hm hg (by omega), hwv m hm g hg, if_neg (show ¬ (8 * m + g < 8 * m + g ∧ zHas mm m = true) from fun z => absurd z.1 (by omega))]
    · have hp2 : p < c.un := by omega
      obtain ⟨a0, a1, a2, a3⟩ := hR.2.2.2.2 p hp2
      refine ⟨?_, ?_, ?_, fun m hm g hg => ?_⟩
      · rw [hst1 _ (by omega) (by omega)]
        exact a0.trans (va_up_ne _ _ (hq p hp2)).symm
      · rw [hst1 _ (by omega) (by omega)]
        exact a1.trans (va_up_ne _ _ (hq p hp2)).symm
      · rw [hst1 _ (by omega) (by omega)]
        exact a2.trans (congrArg zb (va_up_ne _ _ (hq p hp2)).symm)
      · rw [hst1 _ (by omega) (by omega)]
        refine (a3 m hm g hg).trans ?_
        show _ = va_up c.cn (c.pi c.un) _ (c.pi p) m g
        rw [va_up_ne _ _ (hq p hp2)]
  · show zRg (zTab c.wa (zDpW c.wa mm) 6 m g) 0 20
    rw [zTab_at hm hg]
    unfold zDpW; split
    · exact zRg_0 (by omega)
    · exact hwa m hm g hg
  · have hp' : p < c.un + 1 := hp
    by_cases e : p = c.un
    · subst e
      have hdy := hI.1.2.1
      have hadd : (c.dy + c.st 3).toInt = c.dy.toInt + (c.st 3).toInt := by
        obtain ⟨d1, d2⟩ := hdy
        exact zg_add (by omega) (by omega)
      refine ⟨hcnr, ?_, ?_, ?_, fun _ => ?_⟩
      · show zRg (va_up c.vl (c.pi c.un) (zGaO c mm d).vl (c.pi c.un)) 0 100000
        rw [va_up_self, zGa_vl hRw]
        exact zVal_rg (zI1_wa hRw hI.1) mm
      · show c.dy.toInt + 1 ≤ (va_up c.du (c.pi c.un) (c.dy + c.st 3) (c.pi c.un)).toInt
        rw [va_up_self, hadd]; omega
      · show (va_up c.du (c.pi c.un) (c.dy + c.st 3) (c.pi c.un)).toInt ≤ c.dy.toInt + 50 - (if va_up c.io (c.pi c.un) false (c.pi c.un) = true then 0 else 30)
        rw [va_up_self, va_up_self, hadd, if_neg (by decide)]; omega
      · have e1 : zPie ((zDiC c mm (zGaO c mm d)).cn (c.pi c.un)) = zStr s mm := by
          have e2 : zStr s mm = lsum (fun m => lsum (fun g => zWantT s mm g m) 8) 6 := lsum_swap (fun m g => zWantT s mm g m) 6 8
          rw [e2]
          refine lsum_congr (fun m hm => lsum_congr (fun g hg => ?_))
          rw [hcn m hm g hg]
          unfold zWantT
          rw [hRw.2 m hm g hg]
          rfl
        have h1 := zg_lsum (f := zPieT ((zDiC c mm (zGaO c mm d)).cn (c.pi c.un))) (B := 160) (by omega) 6 (by omega) (fun m hm => by
          have := zg_lsum (f := (zDiC c mm (zGaO c mm d)).cn (c.pi c.un) m) (B := 20) (by omega) 8 (by omega) (fun g hg => hcnr m hm g hg)
          exact zRg_le this (by omega))
        have h2 : ¬ zStr s mm = 0 := by rw [← zGa_pc hRw d]; exact hpc
        have h3 : (zPie ((zDiC c mm (zGaO c mm d)).cn (c.pi c.un))).toInt ≠ 0 := fun z => h2 (by
          rw [← e1]; exact Int32.toInt_inj.mp z)
        have h4 : 0 ≤ (zPie ((zDiC c mm (zGaO c mm d)).cn (c.pi c.un))).toInt := h1.1
        show 0 < (zPie ((zDiC c mm (zGaO c mm d)).cn (c.pi c.un))).toInt
        omega
    · have hp2 : p < c.un := by omega
      obtain ⟨a0, a1, a2, a3, a4⟩ := hI.2 p hp2
      have f1 : (zDiC c mm (zGaO c mm d)).cn (c.pi p) = c.cn (c.pi p) := va_up_ne _ _ (hq p hp2)
      have f2 : (zDiC c mm (zGaO c mm d)).vl (c.pi p) = c.vl (c.pi p) := va_up_ne _ _ (hq p hp2)
      have f3 : (zDiC c mm (zGaO c mm d)).du (c.pi p) = c.du (c.pi p) := va_up_ne _ _ (hq p hp2)
      have f4 : (zDiC c mm (zGaO c mm d)).io (c.pi p) = c.io (c.pi p) := va_up_ne _ _ (hq p hp2)
      show zIp (zDiC c mm (zGaO c mm d)) (c.pi p) 1 50
      unfold zIp
      rw [f1, f2, f3, f4]
      exact ⟨a0, a1, a2, a3, a4⟩
end SE
