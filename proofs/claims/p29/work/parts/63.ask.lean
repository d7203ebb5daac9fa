/-! what a call asks, both ways -/
theorem lsum_app (F : Nat → Int32) (a : Nat) : ∀ b, lsum F (a + b) = lsum F a + lsum (fun k => F (a + k)) b
  | 0 => (Int32.add_zero _).symm
  | b + 1 => by
    rw [show a + (b + 1) = (a + b) + 1 from rfl, lsum_s, lsum_s, lsum_app F a b, Int32.add_assoc]
theorem lsum_block (F : Nat → Int32) : ∀ n, lsum F (n * 8) = lsum (fun p => lsum (fun g => F (8 * p + g)) 8) n
  | 0 => rfl
  | n + 1 => by
    rw [Nat.succ_mul, lsum_app, lsum_block F n, Nat.mul_comm n 8]; rfl
theorem zix_lt {v : Int32} {n i : Nat} (h : zix v n = some i) : i < n := by
  unfold zix at h
  split at h
  · have := Option.some.inj h; omega
  · cases h
theorem zOb_in {α β : Type} {o : Option α} {e : Int32} {f : α → Int32 ⊕ β} {q : β} (h : zOb o e f = .inr q) : ∃ i, o = some i ∧ f i = .inr q := by
  cases o with
  | none => cases h
  | some i => exact ⟨i, rfl, h⟩
theorem zE_congr {α : Type} {D : Int32 ⊕ α} {f g : α → Int32} (h : ∀ q, D = .inr q → f q = g q) : zE D f = zE D g := by
  cases D with
  | inl e => rfl
  | inr q => exact h q rfl
theorem zDstr_in {m g : Int32} {q : Nat × Nat} (h : zDstr m g = .inr q) : q.1 < 6 ∧ q.2 < 8 := by
  obtain ⟨i, hi, h⟩ := zOb_in h
  obtain ⟨j, hj, h⟩ := zOb_in h
  cases h
  exact ⟨zix_lt hi, zix_lt hj⟩
theorem zDmem_in {m : Int32} {i : Nat} (h : zDmem m = .inr i) : i < 6 := by
  obtain ⟨j, hj, h⟩ := zOb_in h
  cases h
  exact zix_lt hj
theorem zDshare_in {mm m : Int32} {i : Nat} (h : zDshare mm m = .inr i) : i < 6 := by
  obtain ⟨j, hj, h⟩ := zOb_in h
  split at h
  · cases h; exact zix_lt hj
  · cases h
theorem zDmore_in {m g v : Int32} {q : Nat × Nat} (h : zDmore m g v = .inr q) : q.1 < 6 ∧ q.2 < 8 := by
  obtain ⟨i, hi, h⟩ := zOb_in h
  obtain ⟨j, hj, h⟩ := zOb_in h
  split at h
  · cases h; exact ⟨zix_lt hi, zix_lt hj⟩
  · cases h
section AS
variable {c : zCl} {s : Nat → Int32}
theorem zUw_eq (h : zRl c s) {m : Nat} (hm : m < 6) : lsum (zUwT c.cn c.pi m) c.un = zWay s m c.un := by
  unfold zWay
  rw [lsum_block]
  refine lsum_congr (fun p hp => lsum_congr (fun g hg => ?_))
  unfold zWayT
  rw [show (8 * p + g) / 8 = p by omega, show (8 * p + g) % 8 = g by omega]
  exact ((h.2.2.2.2 p hp).2.2.2 m hm g hg).symm
theorem zPie_eq {p J : Nat} (h : zRp c s p J) : zPie (c.cn J) = zPcs s p := by
  unfold zPcs
  rw [show (48 : Nat) = 6 * 8 from rfl, lsum_block]
  refine lsum_congr (fun m hm => lsum_congr (fun g hg => ?_))
  unfold zPcsT
  rw [show 147 + 51 * p + (3 + (8 * m + g)) = 147 + 51 * p + (3 + 8 * m + g) by omega]
  exact (h.2.2.2 m hm g hg).symm
theorem zMem_eq (h : zRl c s) (w : Int32) {i : Nat} (hi : i < 6) : zRmemC c w i = zRmem s c.un w i := by
  obtain ⟨a, b, e, f, g, k⟩ := h.2.2.1 i hi
  have h1 : lsum (c.sp i) 8 = zSum s i 6 := lsum_congr (fun g hg => (h.2.2.2.1 i hi g hg).1.symm)
  have h2 : lsum (c.wa i) 8 = zSum s i 14 := lsum_congr (fun g hg => (h.2.2.2.1 i hi g hg).2.symm)
  unfold zRmemC zRmem
  rw [h1, h2, zUw_eq h hi, a, b, e, f, g, k]
theorem zOws_eq {p J : Nat} (h : zRp c s p J) (hc : ∀ m, m < 6 → ∀ g, g < 8 → zRg (c.cn J m g) 0 20) : ∀ m, m ≤ 6 → zOws s p (8 * m) = zOwC (c.cn J) m
  | 0, _ => rfl
  | m + 1, hm => by
    have ih := zOws_eq h hc m (by omega)
    have key : ∀ g, g ≤ 8 → zOws s p (8 * m + g) = if lsum (c.cn J m) g ≤ 0 then zOwC (c.cn J) m else zOwC (c.cn J) m ||| (1 <<< (nI m &&& 31)) := by
      intro g
      induction g with
      | zero => intro _; exact ih.trans (if_pos (Int32.le_refl 0)).symm
      | succ g ihg =>
        intro hg
        have hb := hc m (by omega) g (by omega)
        have hl := zg_lsum (f := c.cn J m) (B := 20) (by omega) g (by omega) (fun k hk => hc m (by omega) k (by omega))
        have hz : (0 : Int32).toInt = 0 := rfl
        have e1 : zOws s p (8 * m + (g + 1)) = zOws s p (8 * m + g) ||| zOwsT s p (8 * m + g) := rfl
        have e2 : zOwsT s p (8 * m + g) = if c.cn J m g ≤ 0 then (0 : Int32) else 1 <<< (nI m &&& 31) := by
          unfold zOwsT
          rw [show 147 + 51 * p + (3 + (8 * m + g)) = 147 + 51 * p + (3 + 8 * m + g) by omega, h.2.2.2 m (by omega) g (by omega), show (8 * m + g) / 8 = m by omega]
        obtain ⟨b1, b2⟩ := hb
        obtain ⟨l1, l2⟩ := hl
        have hs : (lsum (c.cn J m) (g + 1)).toInt = (lsum (c.cn J m) g).toInt + (c.cn J m g).toInt := by
          rw [lsum_s, zg_add (by omega) (by omega)]
        rw [e1, e2, ihg (by omega)]
        by_cases q : c.cn J m g ≤ 0
        · rw [if_pos q, Int32.or_zero]
          have q' := Int32.le_iff_toInt_le.mp q
          have e3 : lsum (c.cn J m) (g + 1) = lsum (c.cn J m) g := Int32.toInt_inj.mp (by omega)
          rw [e3]
        · rw [if_neg q]
          have q' : ¬ (c.cn J m g).toInt ≤ 0 := fun z => q (Int32.le_iff_toInt_le.mpr z)
          rw [if_neg (show ¬ lsum (c.cn J m) (g + 1) ≤ 0 from fun z => by have := Int32.le_iff_toInt_le.mp z; omega)]
          split
          · rfl
          · rw [Int32.or_assoc, Int32.or_self]
    rw [show 8 * (m + 1) = 8 * m + 8 by omega, key 8 (Nat.le_refl _)]
    rfl
theorem zPar_eq {D K : Int} (h : zRl c s) (hI : zIv c D K) (w : Int32) {p : Nat} (hp : p < c.un) : zRparC c w p = zRpar s w p := by
  have hr := h.2.2.2.2 p hp
  have ho := zOws_eq hr (hI.2 p hp).1 6 (Nat.le_refl _)
  obtain ⟨a, b, e, f⟩ := hr
  unfold zRparC zRpar
  rw [zPie_eq (h.2.2.2.2 p hp), ← ho, a, b, e, h.1.2.1]
  unfold zb
  rfl
theorem zBrk_eq {D : Int} (h : zRl c s) (hI : zI1 c D) : lsum (zPopT c.br) 6 = zBrk s := lsum_congr (fun m hm => by
  unfold zPopT zBrkT
  rw [(h.2.2.1 m hm).2.1]
  obtain ⟨n, e, h1, h2, h3⟩ := zg_is (hI.2.2.2.1 m hm)
  rw [e]; exact zPop_eq n (by omega))
theorem zChest_eq (h : zRl c s) : lsum c.ac 6 = zChest s := lsum_congr (fun m hm => (h.2.2.1 m hm).1.symm)
theorem zCnt_eq {D : Int} (h : zRl c s) (hI : zI1 c D) (kn : Nat) (ln w : Int32) : zRcntC c kn ln w = zRcnt s kn c.un ln w := by
  have hB := zBrk_eq h hI
  have hC := zChest_eq h
  obtain ⟨⟨h1, h1a, h1b, h1c, h1d, h1e⟩, -⟩ := h
  unfold zRcntC zRcnt
  rw [hB, hC, ← h1b, ← h1c, ← h1d, ← h1e]
  by_cases r : 0 ≤ w.toInt ∧ w.toInt < 19
  · have h19 : zix w 19 = some w.toInt.toNat := by unfold zix; rw [if_pos (by omega)]
    by_cases r9 : w.toInt < 9
    · have e9 : zix w 9 = some w.toInt.toNat := by unfold zix; rw [if_pos (by omega)]
      have e10 : zix w 10 = some w.toInt.toNat := by unfold zix; rw [if_pos (by omega)]
      rw [e9, e10]; exact (h1 _ (by omega)).symm
    · have e9 : zix w 9 = none := by unfold zix; rw [if_neg (by omega)]
      by_cases r10 : w.toInt < 10
      · have e10 : zix w 10 = some 9 := by unfold zix; rw [if_pos (by omega)]; congr 1; omega
        rw [e9, e10, h19, show w.toInt.toNat = 9 by omega]
        exact h1a.symm
      · have e10 : zix w 10 = none := by unfold zix; rw [if_neg (by omega)]
        rw [e9, e10, h19]
        obtain ⟨k, hk⟩ : ∃ k, w.toInt.toNat = k + 10 := ⟨w.toInt.toNat - 10, by omega⟩
        rw [hk]
        show List.getD _ (k + 10 - 9) _ = List.getD _ (k + 10 - 10) _
        rw [show k + 10 - 9 = k + 1 by omega, show k + 10 - 10 = k by omega]
        rfl
  · have h19 : zix w 19 = none := by unfold zix; rw [if_neg (by omega)]
    have e9 : zix w 9 = none := by unfold zix; rw [if_neg (by omega)]
    have e10 : zix w 10 = none := by unfold zix; rw [if_neg (by omega)]
    rw [h19, e9, e10]
theorem zOrd_eq {D : Int} (h : zRw c s) (hI : zI1 c D) (mm w : Int32) (d : zOd) : zRordC c mm w d = zRord s mm w := by
  unfold zRordC zRord
  rw [zGa_cost h, zGa_duty h hI, zGa_vl h, zGa_pos h, zGa_pc h]
theorem zBe_nb : ∀ j, j < 8 → ∀ k, k < 8 → zbe (nI k) (nI j - nI 1) (nI (j + 1)) = decide (j ≤ k + 1 ∧ k ≤ j + 1) := by decide +kernel
theorem zDoes_at {m j k : Nat} (hj : j < 8) (hk : k < 8) : zDoes s m j (nI k) = (decide (j ≤ k + 1 ∧ k ≤ j + 1) && zHas (s (15 + 22 * m + 1)) j && decide (¬ s (15 + 22 * m + (6 + k)) ≤ 0)) := by
  unfold zDoes
  rw [zix_nI hk (by omega)]
  dsimp only
  rw [zBe_nb j hj k hk]
theorem zStand_eq (h : zRl c s) {q : Nat × Nat} (hm : q.1 < 6) (hg : q.2 < 8) : zRstC c q = zRstand s q := by
  obtain ⟨m, j⟩ := q
  dsimp only at hm hg
  have hb := (h.2.2.1 m hm).2.1
  have hs : ∀ g, g < 8 → s (15 + 22 * m + (6 + g)) = c.sp m g := fun g hg => (h.2.2.2.1 m hm g hg).1
  have d0 : zDoes s m j (nI j) = (zHas (c.br m) j && decide (¬ c.sp m j ≤ 0)) := by
    rw [zDoes_at hg hg, hb, hs j hg, decide_eq_true (by omega), Bool.true_and]
  have d2 : zDoes s m j (nI (j + 1)) = (decide (j < 7) && (zHas (c.br m) j && decide (¬ c.sp m (j + 1) ≤ 0))) := by
    by_cases r : j < 7
    · rw [zDoes_at hg (by omega), hb, hs (j + 1) (by omega), decide_eq_true (p := j ≤ j + 1 + 1 ∧ j + 1 ≤ j + 1) (by omega), decide_eq_true r, Bool.true_and, Bool.true_and]
    · have : j = 7 := by omega
      subst this
      have e : zix (nI (7 + 1)) 8 = none := zix_none (by omega) (by omega)
      unfold zDoes; rw [e]; rfl
  have d1 : zDoes s m j (nI j - nI 1) = (decide (0 < j) && (zHas (c.br m) j && decide (¬ c.sp m (j - 1) ≤ 0))) := by
    rcases Nat.eq_zero_or_pos j with r | r
    · subst r
      have e : zix (nI 0 - nI 1) 8 = none := by decide +kernel
      unfold zDoes; rw [e]; rfl
    · rw [pk_sub (by omega), zDoes_at hg (by omega), hb, hs (j - 1) (by omega), decide_eq_true (p := j ≤ j - 1 + 1 ∧ j - 1 ≤ j + 1) (by omega), decide_eq_true r, Bool.true_and, Bool.true_and]
  unfold zRstC zRstand
  dsimp only
  rw [d0, d1, d2]
  by_cases hh : zHas (c.br m) j = true
  · rw [if_pos hh, hh]
    simp only [Bool.true_and, Bool.and_eq_true, decide_eq_true_eq]
    by_cases p0 : c.sp m j ≤ 0
    · rcases Nat.eq_zero_or_pos j with r | r
      · subst r
        by_cases p2 : c.sp m (0 + 1) ≤ 0
        · simp [p0, p2]
        · simp [p0, p2]
      · have r0 : ¬ j = 0 := by omega
        by_cases p1 : c.sp m (j - 1) ≤ 0
        · by_cases r7 : j < 7
          · by_cases p2 : c.sp m (j + 1) ≤ 0
            · simp [p0, p1, p2, r, r0, r7]
            · simp [p0, p1, p2, r, r0, r7]
          · simp [p0, p1, r, r0, r7]
        · rw [pk_sub (show 1 ≤ j by omega)]
          simp [p0, p1, r, r0]
    · simp [p0]
  · have hf : zHas (c.br m) j = false := by simpa using hh
    rw [if_neg hh, hf]
    simp
end AS
