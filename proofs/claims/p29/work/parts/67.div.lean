/-! what is drawn, and what is divided -/
theorem zg64 {x : Int} (h : -9223372036854775808 ≤ x) (h2 : x < 9223372036854775808) : x.bmod (2 ^ 64) = x := by
  rw [Int.bmod_def]; split <;> omega
theorem zNx_rg {x : Int32} (h : zRg x 0 2147483647) : zRg (zNx x) 0 2147483647 := by
  obtain ⟨h1, h2⟩ := h
  have e0 : x.toInt64.toInt = x.toInt := Int32.toInt_toInt64 x
  have a1 : (1103515245 : Int64).toInt = 1103515245 := by decide +kernel
  have a2 : (12345 : Int64).toInt = 12345 := by decide +kernel
  have a3 : (2147483648 : Int64).toInt = 2147483648 := by decide +kernel
  have e1 : (x.toInt64 * 1103515245).toInt = x.toInt * 1103515245 := by
    rw [Int64.toInt_mul, e0, a1, zg64 (by omega) (by omega)]
  have e2 : (x.toInt64 * 1103515245 + 12345).toInt = x.toInt * 1103515245 + 12345 := by
    rw [Int64.toInt_add, e1, a2, zg64 (by omega) (by omega)]
  have e3 : ((x.toInt64 * 1103515245 + 12345) / 2147483648).toInt = (x.toInt * 1103515245 + 12345) / 2147483648 := by
    rw [Int64.toInt_div, e2, a3, Int.tdiv_eq_ediv_of_nonneg (by omega), zg64 (by omega) (by omega)]
  have e4 : ((x.toInt64 * 1103515245 + 12345) / 2147483648 * 2147483648).toInt = (x.toInt * 1103515245 + 12345) / 2147483648 * 2147483648 := by
    rw [Int64.toInt_mul, e3, a3, zg64 (by omega) (by omega)]
  have e5 : (x.toInt64 * 1103515245 + 12345 - (x.toInt64 * 1103515245 + 12345) / 2147483648 * 2147483648).toInt = x.toInt * 1103515245 + 12345 - (x.toInt * 1103515245 + 12345) / 2147483648 * 2147483648 := by
    rw [Int64.toInt_sub, e2, e4, zg64 (by omega) (by omega)]
  unfold zRg zNx
  rw [Int64.toInt_toInt32, e5, zg_bm (by omega) (by omega)]
  omega
theorem zDr_rg {x m : Int32} (h : zRg x 0 2147483647) (hm : 0 < m.toInt) : 0 ≤ (zDr x m).toInt ∧ (zDr x m).toInt < m.toInt := by
  obtain ⟨h1, h2⟩ := h
  have hm2 := Int32.toInt_lt m
  have a1 : (65536 : Int32).toInt = 65536 := by decide +kernel
  have e1 : (x / 65536).toInt = x.toInt / 65536 := by
    rw [Int32.toInt_div, a1, Int.tdiv_eq_ediv_of_nonneg h1, zg_bm (by omega) (by omega)]
  have q0 : 0 ≤ x.toInt / 65536 := by omega
  have d1 := Int.ediv_nonneg q0 (Int.le_of_lt hm)
  have d2 := Int.ediv_le_self m.toInt q0
  have e2 : (x / 65536 / m).toInt = x.toInt / 65536 / m.toInt := by
    rw [Int32.toInt_div, e1, Int.tdiv_eq_ediv_of_nonneg q0, zg_bm (by omega) (by omega)]
  have d3 := Int.mul_ediv_add_emod (x.toInt / 65536) m.toInt
  have d4 := Int.emod_nonneg (x.toInt / 65536) (show m.toInt ≠ 0 by omega)
  have d5 := Int.emod_lt_of_pos (x.toInt / 65536) hm
  have d6 : 0 ≤ x.toInt / 65536 / m.toInt * m.toInt := Int.mul_nonneg d1 (by omega)
  have d7 : x.toInt / 65536 / m.toInt * m.toInt = m.toInt * (x.toInt / 65536 / m.toInt) := Int.mul_comm _ _
  have e3 : (x / 65536 / m * m).toInt = x.toInt / 65536 / m.toInt * m.toInt := by
    rw [zg_mul (by rw [e2]; omega) (by rw [e2]; omega), e2]
  have e4 : (zDr x m).toInt = x.toInt / 65536 - x.toInt / 65536 / m.toInt * m.toInt := by
    unfold zDr
    rw [zg_sub (by rw [e1, e3]; omega) (by rw [e1, e3]; omega), e1, e3]
  omega
theorem zDrC_pos (x : Int32) {m : Int32} (hm : 0 < m.toInt) : zDrC x m = zDr (zNx x) m := by
  unfold zDrC
  rw [if_pos]
  rw [Int32.lt_iff_toInt_lt]; exact hm
/-! sums of whole numbers -/
def isum (f : Nat → Int) : Nat → Int
  | 0 => 0
  | k + 1 => isum f k + f k
theorem lsum_int {f : Nat → Int32} {B : Int} (hB : 0 ≤ B) : ∀ n : Nat, n * B < 2147483648 → (∀ k, k < n → zRg (f k) 0 B) → (lsum f n).toInt = isum (fun k => (f k).toInt) n
  | 0, _, _ => rfl
  | n + 1, h, hf => by
    have e : ((n + 1 : Nat) : Int) * B = n * B + B := by rw [Int.natCast_add, Int.add_mul]; simp
    have ih := lsum_int hB n (by omega) (fun k hk => hf k (by omega))
    have hr := zg_lsum hB n (by omega) (fun k hk => hf k (by omega))
    have h1 := hf n (by omega)
    obtain ⟨r1, r2⟩ := hr
    obtain ⟨s1, s2⟩ := h1
    rw [lsum_s, zg_add (by omega) (by omega), ih]
    rfl
def zct (t : Nat → Int32) : Nat → Int
  | 0 => 0
  | k + 1 => zct t k + (if t k ≤ 0 then 0 else 1)
theorem zct_le {t : Nat → Int32} : ∀ {k j : Nat}, k ≤ j → zct t k ≤ zct t j
  | k, 0, h => by have : k = 0 := by omega
                  subst this; exact Int.le_refl _
  | k, j + 1, h => by
    rcases Nat.eq_or_lt_of_le h with e | e
    · subst e; exact Int.le_refl _
    · have := zct_le (t := t) (k := k) (j := j) (by omega)
      show zct t k ≤ zct t j + _
      split <;> omega
section DV
variable {am : Int32} {t : Nat → Int32}
theorem zBase_int (ha : zRg am 0 50000) (ht : ∀ m, m < 6 → zRg (t m) 0 7200) (hT : 0 < (lsum t 6).toInt) {m : Nat} (hm : m < 6) : (zBase am t m).toInt = am.toInt * (t m).toInt / (lsum t 6).toInt ∧ zRg (zBase am t m) 0 50000 := by
  have hr := zg_lsum (f := t) (B := 7200) (by omega) 6 (by omega) ht
  have hp := zg_mulB (A := 50000) (B := 7200) ha (ht m hm) (by omega) (by omega)
  have hmul : (am * t m).toInt = am.toInt * (t m).toInt := by
    obtain ⟨x1, x2⟩ := ha
    obtain ⟨y1, y2⟩ := ht m hm
    have h1 : am.toInt * (t m).toInt ≤ 50000 * 7200 := Int.mul_le_mul x2 y2 y1 (by omega)
    have h2 : 0 ≤ am.toInt * (t m).toInt := Int.mul_nonneg x1 y1
    exact zg_mul (by omega) (by omega)
  obtain ⟨p1, p2⟩ := hp
  have hne : ¬ lsum t 6 = 0 := fun z => by rw [z] at hT; exact absurd hT (by decide)
  have d2 := Int.ediv_le_self (lsum t 6).toInt p1
  have d1 := Int.ediv_nonneg p1 (Int.le_of_lt hT)
  have e : (zBase am t m).toInt = am.toInt * (t m).toInt / (lsum t 6).toInt := by
    unfold zBase
    rw [if_neg hne, Int32.toInt_div, Int.tdiv_eq_ediv_of_nonneg p1, zg_bm (by omega) (by omega), hmul]
  refine ⟨e, ?_⟩
  unfold zRg
  rw [e]
  rw [hmul] at d1 d2
  refine ⟨d1, ?_⟩
  -- the part is at most the whole
  have hle : (t m).toInt ≤ (lsum t 6).toInt := by
    have hi := lsum_int (f := t) (B := 7200) (by omega) 6 (by omega) ht
    rw [hi]
    have t0 := (ht 0 (by omega)).1
    have t1 := (ht 1 (by omega)).1
    have t2 := (ht 2 (by omega)).1
    have t3 := (ht 3 (by omega)).1
    have t4 := (ht 4 (by omega)).1
    have t5 := (ht 5 (by omega)).1
    show (t m).toInt ≤ 0 + (t 0).toInt + (t 1).toInt + (t 2).toInt + (t 3).toInt + (t 4).toInt + (t 5).toInt
    have : m = 0 ∨ m = 1 ∨ m = 2 ∨ m = 3 ∨ m = 4 ∨ m = 5 := by omega
    rcases this with rfl | rfl | rfl | rfl | rfl | rfl <;> omega
  have h3 : am.toInt * (t m).toInt ≤ am.toInt * (lsum t 6).toInt := Int.mul_le_mul_of_nonneg_left hle ha.1
  have h4 : am.toInt * (t m).toInt / (lsum t 6).toInt ≤ am.toInt * (lsum t 6).toInt / (lsum t 6).toInt := Int.ediv_le_ediv hT h3
  rw [Int.mul_ediv_cancel _ (by omega)] at h4
  have := ha.2
  omega
theorem zBase_sum (ha : zRg am 0 50000) (ht : ∀ m, m < 6 → zRg (t m) 0 7200) (hT : 0 < (lsum t 6).toInt) : ∀ k, k ≤ 6 → (lsum t 6).toInt * isum (fun m => (zBase am t m).toInt) k ≤ am.toInt * isum (fun m => (t m).toInt) k ∧ am.toInt * isum (fun m => (t m).toInt) k ≤ (lsum t 6).toInt * isum (fun m => (zBase am t m).toInt) k + (lsum t 6).toInt * zct t k
  | 0, _ => by
    show (lsum t 6).toInt * 0 ≤ am.toInt * 0 ∧ am.toInt * 0 ≤ (lsum t 6).toInt * 0 + (lsum t 6).toInt * 0
    omega
  | k + 1, hk => by
    obtain ⟨i1, i2⟩ := zBase_sum ha ht hT k (by omega)
    have hb := (zBase_int ha ht hT (m := k) (by omega)).1
    have d3 := Int.mul_ediv_add_emod (am.toInt * (t k).toInt) (lsum t 6).toInt
    have d4 := Int.emod_nonneg (am.toInt * (t k).toInt) (show (lsum t 6).toInt ≠ 0 by omega)
    have d5 := Int.emod_lt_of_pos (am.toInt * (t k).toInt) hT
    rw [← hb] at d3
    have e1 : (lsum t 6).toInt * isum (fun m => (zBase am t m).toInt) (k + 1) = (lsum t 6).toInt * isum (fun m => (zBase am t m).toInt) k + (lsum t 6).toInt * (zBase am t k).toInt := Int.mul_add _ _ _
    have e2 : am.toInt * isum (fun m => (t m).toInt) (k + 1) = am.toInt * isum (fun m => (t m).toInt) k + am.toInt * (t k).toInt := Int.mul_add _ _ _
    have e3 : (lsum t 6).toInt * zct t (k + 1) = (lsum t 6).toInt * zct t k + (lsum t 6).toInt * (if t k ≤ 0 then 0 else 1) := Int.mul_add _ _ _
    rw [e1, e2, e3]
    by_cases q : t k ≤ 0
    · rw [if_pos q]
      have hz : (0 : Int32).toInt = 0 := rfl
      have q' := Int32.le_iff_toInt_le.mp q
      have t0 : (t k).toInt = 0 := by have := (ht k (by omega)).1; omega
      have b0 : (zBase am t k).toInt = 0 := by rw [hb, t0, Int.mul_zero, Int.zero_ediv]
      rw [t0, b0]; omega
    · rw [if_neg q]; omega
theorem zLft_eq : ∀ k, zLft am t k = am - lsum (zBase am t) k
  | 0 => (Int32.sub_zero am).symm
  | k + 1 => by
    show zLft am t k - zBase am t k = am - (lsum (zBase am t) k + zBase am t k)
    rw [zLft_eq k]; grind
theorem zGet_sum : ∀ k, lsum (zGet am t) k + zLf2 am t k = lsum (zBase am t) k + zLft am t 6
  | 0 => rfl
  | k + 1 => by
    have ih := zGet_sum k
    show lsum (zGet am t) k + zGet am t k + (if zGiv t (zLf2 am t k) k = true then zLf2 am t k - 1 else zLf2 am t k) = lsum (zBase am t) k + zBase am t k + zLft am t 6
    unfold zGet
    by_cases q : zGiv t (zLf2 am t k) k = true
    · rw [if_pos q, if_pos q]
      have e := congrArg (· + zBase am t k) ih
      unfold zGet at e
      grind
    · rw [if_neg q, if_neg q]
      have e := congrArg (· + zBase am t k) ih
      unfold zGet at e
      grind
theorem zGet_all (ha : zRg am 0 50000) (ht : ∀ m, m < 6 → zRg (t m) 0 7200) (hT : 0 < (lsum t 6).toInt) : lsum (zGet am t) 6 = am := by
  obtain ⟨i1, i2⟩ := zBase_sum ha ht hT 6 (Nat.le_refl _)
  have hti := lsum_int (f := t) (B := 7200) (by omega) 6 (by omega) ht
  have hbr := zg_lsum (f := zBase am t) (B := 50000) (by omega) 6 (by omega) (fun m hm => (zBase_int ha ht hT hm).2)
  have hbi := lsum_int (f := zBase am t) (B := 50000) (by omega) 6 (by omega) (fun m hm => (zBase_int ha ht hT hm).2)
  rw [← hti, ← hbi] at i1 i2
  rw [Int.mul_comm am.toInt] at i1 i2
  rw [← Int.mul_add] at i2
  have j1 : (lsum (zBase am t) 6).toInt ≤ am.toInt := Int.le_of_mul_le_mul_left i1 hT
  have j2 : am.toInt ≤ (lsum (zBase am t) 6).toInt + zct t 6 := Int.le_of_mul_le_mul_left i2 hT
  have hL : (zLft am t 6).toInt = am.toInt - (lsum (zBase am t) 6).toInt := by
    rw [zLft_eq, zg_sub (by have := ha.1; have := ha.2; have := hbr.1; have := hbr.2; omega) (by have := ha.1; have := ha.2; have := hbr.1; have := hbr.2; omega)]
  have hz : (0 : Int32).toInt = 0 := rfl
  have h1 : (1 : Int32).toInt = 1 := rfl
  have hT' : ¬ lsum t 6 ≤ 0 := fun z => by have := Int32.le_iff_toInt_le.mp z; omega
  have hs : ∀ k, k ≤ 6 → 0 ≤ (zLf2 am t k).toInt ∧ (zLf2 am t k).toInt ≤ zct t 6 - zct t k := by
    intro k
    induction k with
    | zero => intro _; show 0 ≤ (zLft am t 6).toInt ∧ (zLft am t 6).toInt ≤ zct t 6 - 0; omega
    | succ k ih =>
      intro hk
      obtain ⟨l1, l2⟩ := ih (by omega)
      have hm := zct_le (t := t) (show k + 1 ≤ 6 from hk)
      have hc : zct t (k + 1) = zct t k + (if t k ≤ 0 then 0 else 1) := rfl
      show 0 ≤ (if zGiv t (zLf2 am t k) k = true then zLf2 am t k - 1 else zLf2 am t k).toInt ∧ (if zGiv t (zLf2 am t k) k = true then zLf2 am t k - 1 else zLf2 am t k).toInt ≤ _
      unfold zGiv
      rw [decide_eq_true hT', Bool.true_and]
      by_cases q : t k ≤ 0
      · rw [decide_eq_false (fun z => z q), Bool.false_and, if_neg (by decide)]
        rw [if_pos q] at hc; omega
      · rw [if_neg q] at hc
        rw [decide_eq_true q, Bool.true_and]
        by_cases r : zLf2 am t k ≤ 0
        · rw [decide_eq_false (fun z => z r), if_neg (by decide)]
          have := Int32.le_iff_toInt_le.mp r
          omega
        · rw [decide_eq_true r, if_pos rfl]
          have r' : ¬ (zLf2 am t k).toInt ≤ 0 := fun z => r (Int32.le_iff_toInt_le.mpr (by omega))
          have := Int32.toInt_lt (zLf2 am t k)
          rw [zg_sub (by omega) (by omega)]
          omega
  have h6 := hs 6 (Nat.le_refl _)
  have e0 : zLf2 am t 6 = 0 := Int32.toInt_inj.mp (by omega)
  have hg := zGet_sum (am := am) (t := t) 6
  rw [e0, zLft_eq] at hg
  rw [Int32.add_zero] at hg
  rw [hg]; grind
end DV
