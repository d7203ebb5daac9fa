/-! characters that are put, both ways -/
def zOkC (x : Int64) (k : Nat) : Bool := zbe (zCh x k) (nI 33) (nI 126)
def zQB (x : Int64) : Nat → Nat → Bool
  | 0, _ => false
  | n + 1, k => (!zPE x k && !zOkC x k) || zQB x n (k + 1)
def zQM (x : Int64) : Nat → Nat → Nat
  | 0, _ => 0
  | n + 1, k => (if zPE x k = true then 0 else 1) + zQM x n (k + 1)
theorem zQB_8 (x : Int64) : zQB x 8 0 = zPB x 8 := by
  have key : ∀ n k, zPB x (k + n) = (zPB x k || zQB x n k) := by
    intro n
    induction n with
    | zero => intro k; exact (Bool.or_false _).symm
    | succ n ih =>
      intro k
      rw [show k + (n + 1) = (k + 1) + n by omega, ih (k + 1)]
      show ((zPB x k || (!zPE x k && !zOkC x k)) || zQB x n (k + 1)) = (zPB x k || ((!zPE x k && !zOkC x k) || zQB x n (k + 1)))
      rw [Bool.or_assoc]
  have := key 8 0
  rw [show 0 + 8 = 8 from rfl] at this
  rw [this]; rfl
theorem zQM_8 (x : Int64) : zQM x 8 0 = zPM x 8 := by
  have key : ∀ n k, zPM x (k + n) = zPM x k + zQM x n k := by
    intro n
    induction n with
    | zero => intro k; rfl
    | succ n ih =>
      intro k
      rw [show k + (n + 1) = (k + 1) + n by omega, ih (k + 1)]
      show zPM x k + (if zPE x k = true then 0 else 1) + zQM x n (k + 1) = zPM x k + ((if zPE x k = true then 0 else 1) + zQM x n (k + 1))
      omega
  have := key 8 0
  rw [show 0 + 8 = 8 from rfl] at this
  rw [this]
  show _ = 0 + _
  omega
theorem zPX_nat (x : Int64) {k : Nat} (hk : k < 8) : (zPX x k).toUInt64.toNat = x.toUInt64.toNat / 2 ^ (8 * k) := by
  have h1 : ∀ k, k < 8 → ((nI (8 * k)).toInt64.toUInt64 &&& Int64.toUInt64 63).toNat = 8 * k := by decide +kernel
  unfold zPX
  rw [UInt64.toUInt64_toInt64, UInt64.toNat_shiftRight, h1 k hk, Nat.mod_eq_of_lt (by omega), Nat.shiftRight_eq_div_pow]
theorem zPX_0 {x : Int64} {k : Nat} : zPX x k = 0 ↔ (zPX x k).toUInt64.toNat = 0 := by
  constructor
  · intro h; rw [h]; rfl
  · intro h
    have h2 : (zPX x k).toUInt64 = 0 := UInt64.toNat_inj.mp h
    have h3 : (zPX x k).toUInt64.toInt64 = (0 : UInt64).toInt64 := congrArg _ h2
    rw [Int64.toInt64_toUInt64] at h3
    exact h3
theorem zPX_mono {x : Int64} {k j : Nat} (hkj : k ≤ j) (hj : j < 8) (h : zPX x k = 0) : zPX x j = 0 := by
  rw [zPX_0, zPX_nat x (by omega)] at h
  rw [zPX_0, zPX_nat x hj]
  have h1 := (Nat.div_eq_zero_iff_lt (Nat.two_pow_pos (8 * k))).mp h
  exact Nat.div_eq_of_lt (Nat.lt_of_lt_of_le h1 (Nat.pow_le_pow_right (by omega) (by omega)))
theorem zCh_0 {x : Int64} {k : Nat} (h : zPX x k = 0) : zCh x k = 0 := by unfold zCh; rw [h]; decide
theorem zcmp0 (y : Int64) : lg_cmp y 0 = 0 ↔ y = 0 := by
  constructor
  · intro h
    unfold lg_cmp at h
    split at h
    · exact absurd h (by decide)
    · split at h
      · assumption
      · exact absurd h (by decide)
  · intro h; subst h; decide
theorem zOkC_0 {x : Int64} {k : Nat} (h : zCh x k = 0) : zOkC x k = false := by unfold zOkC; rw [h]; decide
theorem zQ_end {x : Int64} : ∀ n k, k + n = 8 → 0 < k → (k < 8 → zPX x k = 0) → zQB x n k = false ∧ zQM x n k = 0
  | 0, _, _, _, _ => ⟨rfl, rfl⟩
  | n + 1, k, hk, h0, h => by
    have hz := h (by omega)
    obtain ⟨i1, i2⟩ := zQ_end n (k + 1) (by omega) (by omega) (fun h8 => zPX_mono (by omega) h8 hz)
    have hE : zPE x k = true := by
      unfold zPE
      rw [decide_eq_true (show k ≠ 0 by omega), decide_eq_true ((zcmp0 _).mpr hz)]; rfl
    refine ⟨?_, ?_⟩
    · show ((!zPE x k && !zOkC x k) || zQB x n (k + 1)) = false
      rw [hE, i1]; rfl
    · show (if zPE x k = true then 0 else 1) + zQM x n (k + 1) = 0
      rw [if_pos hE, i2]
theorem zCg_is {x : Int64} : ∀ n k, k + n = 8 → zCg x n k = if zQB x n k = true then 0 else k + zQM x n k
  | 0, k, hk => by
    have : k = 8 := by omega
    subst this
    show zCe x 8 = _
    unfold zCe
    rw [if_neg (fun z => absurd z.1 (by omega)), if_neg (by show ¬ false = true; decide)]
    rfl
  | n + 1, k, hk => by
    have ih := zCg_is (x := x) n (k + 1) (by omega)
    have eB : zQB x (n + 1) k = ((!zPE x k && !zOkC x k) || zQB x n (k + 1)) := rfl
    have eM : zQM x (n + 1) k = (if zPE x k = true then 0 else 1) + zQM x n (k + 1) := rfl
    have eC : zCg x (n + 1) k = if zCh x k = 0 then zCe x k else if zOkC x k = true then zCg x n (k + 1) else 0 := rfl
    by_cases hz : zCh x k = 0
    · rw [eC, if_pos hz]
      have ho := zOkC_0 hz
      by_cases hp : zPX x k = 0
      · have hc : zCe x k = k := by
          unfold zCe; rw [if_neg (fun z => z.2 ((zcmp0 _).mpr hp))]
        rw [hc]
        rcases Nat.eq_zero_or_pos k with h0 | h0
        · subst h0
          have hE : zPE x 0 = false := by unfold zPE; rfl
          rw [eB, hE, ho]; simp
        · obtain ⟨i1, i2⟩ := zQ_end (n + 1) k hk h0 (fun _ => hp)
          rw [i1, i2, if_neg (by decide)]; rfl
      · have hE : zPE x k = false := by
          unfold zPE
          rw [decide_eq_false (fun z => hp ((zcmp0 _).mp z)), Bool.and_false]
        have hc : zCe x k = 0 := by
          unfold zCe; rw [if_pos ⟨by omega, fun z => hp ((zcmp0 _).mp z)⟩]
        rw [hc, eB, hE, ho]; simp
    · rw [eC, if_neg hz]
      have hp : ¬ zPX x k = 0 := fun z => hz (zCh_0 z)
      have hE : zPE x k = false := by
        unfold zPE
        rw [decide_eq_false (fun z => hp ((zcmp0 _).mp z)), Bool.and_false]
      by_cases ho : zOkC x k = true
      · rw [if_pos ho, ih, eB, eM, hE, ho, if_neg (show ¬ false = true by decide)]
        show _ = if zQB x n (k + 1) = true then 0 else _
        split
        · rfl
        · omega
      · have ho' : zOkC x k = false := Bool.eq_false_iff.mpr ho
        rw [if_neg ho, eB, hE, ho']; simp
theorem zPM_pos (x : Int64) : 0 < zPM x 8 := by
  rw [← zQM_8]
  show 0 < (if zPE x 0 = true then 0 else 1) + zQM x 7 1
  rw [if_neg (show ¬ zPE x 0 = true from fun z => by unfold zPE at z; simp at z)]
  omega
theorem zDput_eq (x : Int64) (n : Nat) : zDputC x n = zDput x n := by
  have h := zCg_is (x := x) 8 0 (by omega)
  have e : zCIn x = if zPB x 8 = true then 0 else zPM x 8 := by
    unfold zCIn; rw [h, zQB_8, zQM_8, Nat.zero_add]
  have hp := zPM_pos x
  unfold zDputC zDput
  rw [e]
  by_cases q : zPB x 8 = true
  · simp only [if_pos q]; rfl
  · simp only [if_neg q]
    rw [if_neg (by omega)]
theorem zDput_in {x : Int64} {n : Nat} {u : Unit} (h : zDputC x n = .inr u) : zCIn x = zPM x 8 ∧ n + zPM x 8 ≤ 60 := by
  have h := h
  have hg := zCg_is (x := x) 8 0 (by omega)
  have e : zCIn x = if zPB x 8 = true then 0 else zPM x 8 := by
    unfold zCIn; rw [hg, zQB_8, zQM_8, Nat.zero_add]
  rw [zDput_eq] at h
  unfold zDput at h
  split at h
  · cases h
  · rename_i q
    split at h
    · rw [if_neg q] at e
      exact ⟨e, by assumption⟩
    · cases h
theorem zApp_at {sg : Nat → Int32} {x : Int64} {n m : Nat} : ∀ {k : Nat}, k ≤ m → ∀ j, zApp sg x n m k j = if n ≤ j ∧ j < n + k then zCh x (m - 1 - (j - n)) else sg j
  | 0, _, j => by rw [if_neg (by omega)]; rfl
  | k + 1, hk, j => by
    show upd (zApp sg x n m k) (n + k) _ j = _
    by_cases q : j = n + k
    · subst q; rw [pk_us, if_pos (by omega), Nat.add_sub_cancel_left]
    · rw [pk_un q, zApp_at (by omega)]
      by_cases r : n ≤ j ∧ j < n + k
      · rw [if_pos r, if_pos (by omega)]
      · rw [if_neg r, if_neg (by omega)]
theorem zPw_at {sP : Nat → Int32} {x : Int64} {n m : Nat} : ∀ {k : Nat}, k ≤ m → ∀ j, zPw sP x n m k j = if n + m - k ≤ j ∧ j < n + m then zCh x (n + m - 1 - j) else sP j
  | 0, _, j => by rw [if_neg (by omega)]; rfl
  | k + 1, hk, j => by
    show upd (zPw sP x n m k) (n + m - 1 - k) _ j = _
    by_cases q : j = n + m - 1 - k
    · subst q; rw [pk_us, if_pos (by omega)]; congr 1; omega
    · rw [pk_un q, zPw_at (by omega)]
      by_cases r : n + m - k ≤ j ∧ j < n + m
      · rw [if_pos r, if_pos (by omega)]
      · rw [if_neg r, if_neg (by omega)]
theorem zPut_same {sg sP : Nat → Int32} {x : Int64} {n m : Nat} (h : ∀ j, j < n → sg j = sP j) : ∀ j, j < n + m → zApp sg x n m m j = zPw sP x n m m j := by
  intro j hj
  rw [zApp_at (Nat.le_refl _), zPw_at (Nat.le_refl _)]
  by_cases r : n ≤ j
  · rw [if_pos ⟨r, hj⟩, if_pos ⟨by omega, hj⟩]; congr 1; omega
  · rw [if_neg (fun z => r z.1), if_neg (by omega)]; exact h j (by omega)
