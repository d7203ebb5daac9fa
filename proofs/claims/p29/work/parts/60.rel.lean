/-! bounds of ints -/
theorem zg_bm {x : Int} (h : -2147483648 ≤ x) (h2 : x < 2147483648) : x.bmod (2 ^ 32) = x := by
  rw [Int.bmod_def]; split <;> omega
theorem zg_add {a b : Int32} (h : -2147483648 ≤ a.toInt + b.toInt) (h2 : a.toInt + b.toInt < 2147483648) : (a + b).toInt = a.toInt + b.toInt := by
  rw [Int32.toInt_add, zg_bm h h2]
theorem zg_sub {a b : Int32} (h : -2147483648 ≤ a.toInt - b.toInt) (h2 : a.toInt - b.toInt < 2147483648) : (a - b).toInt = a.toInt - b.toInt := by
  rw [Int32.toInt_sub, zg_bm h h2]
theorem zg_mul {a b : Int32} (h : -2147483648 ≤ a.toInt * b.toInt) (h2 : a.toInt * b.toInt < 2147483648) : (a * b).toInt = a.toInt * b.toInt := by
  rw [Int32.toInt_mul, zg_bm h h2]
def zRg (v : Int32) (lo hi : Int) : Prop := lo ≤ v.toInt ∧ v.toInt ≤ hi
theorem zg_nI {n : Nat} {hi : Int} (h : (n : Int) ≤ hi) (h2 : n < 2147483648) : zRg (nI n) 0 hi := by
  have := nI_toInt (n := n) (by omega)
  unfold zRg; omega
theorem zg_is {v : Int32} {hi : Int} (h : zRg v 0 hi) : ∃ n : Nat, v = nI n ∧ (n : Int) ≤ hi ∧ n < 2147483648 ∧ v.toInt = n := by
  obtain ⟨h1, h2⟩ := h
  have h3 := Int32.toInt_lt v
  have h4 : v.toInt.toNat < 2 ^ 31 := by omega
  refine ⟨v.toInt.toNat, ?_, by omega, by omega, by omega⟩
  apply Int32.toInt_inj.mp
  rw [nI_toInt h4]; omega
theorem zg_lsum {f : Nat → Int32} {B : Int} (hB : 0 ≤ B) : ∀ n : Nat, n * B < 2147483648 → (∀ k, k < n → zRg (f k) 0 B) → zRg (lsum f n) 0 (n * B)
  | 0, _, _ => by
    have : (lsum f 0).toInt = 0 := rfl
    unfold zRg; omega
  | n + 1, h, hf => by
    have e : ((n + 1 : Nat) : Int) * B = n * B + B := by rw [Int.natCast_add, Int.add_mul]; simp
    have ih := zg_lsum hB n (by omega) (fun k hk => hf k (by omega))
    have h1 := hf n (by omega)
    unfold zRg at ih h1 ⊢
    rw [lsum_s, zg_add (by omega) (by omega), e]
    omega
/-! a club's value and a row of numbers -/
def zWf (c : zCl) : Prop := c.un ≤ 5 ∧ (∀ i, i < 5 → c.pi i < 5) ∧ ∀ i j, i < 5 → j < 5 → c.pi i = c.pi j → i = j
def zR1 (c : zCl) (s : Nat → Int32) : Prop := (∀ i, i < 9 → s i = c.st i) ∧ s 9 = c.dy ∧ s 10 = c.x ∧ s 11 = c.op ∧ s 12 = lsum c.pu 6 ∧ s 13 = lsum c.lo 6
def zR2 (c : zCl) (s : Nat → Int32) : Prop := ∀ m, m < 6 → s (15 + 22 * m + 0) = c.ac m ∧ s (15 + 22 * m + 1) = c.br m ∧ s (15 + 22 * m + 2) = c.ps m ∧ s (15 + 22 * m + 3) = c.pp m ∧ s (15 + 22 * m + 4) = c.pu m ∧ s (15 + 22 * m + 5) = c.lo m
def zR3 (c : zCl) (s : Nat → Int32) : Prop := ∀ m, m < 6 → ∀ g, g < 8 → s (15 + 22 * m + (6 + g)) = c.sp m g ∧ s (15 + 22 * m + (14 + g)) = c.wa m g
def zRp (c : zCl) (s : Nat → Int32) (p J : Nat) : Prop := s (147 + 51 * p + 0) = c.vl J ∧ s (147 + 51 * p + 1) = c.du J ∧ s (147 + 51 * p + 2) = zb (c.io J) ∧ ∀ m, m < 6 → ∀ g, g < 8 → s (147 + 51 * p + (3 + 8 * m + g)) = c.cn J m g
def zRR (c : zCl) (s : Nat → Int32) (n : Nat) (ix : Nat → Nat) : Prop := zR1 c s ∧ s 14 = nI n ∧ zR2 c s ∧ zR3 c s ∧ ∀ p, p < n → zRp c s p (c.pi (ix p))
def zRl (c : zCl) (s : Nat → Int32) : Prop := zRR c s c.un (fun p => p)
def zI1 (c : zCl) (D : Int) : Prop := (∀ i, i < 9 → zbe (c.st i) (zLeast i) (zMost i) = true) ∧ zRg c.dy 0 D ∧ zRg c.x 0 2147483647 ∧ (∀ m, m < 6 → zRg (c.br m) 0 255) ∧ ∀ m, m < 6 → ∀ g, g < 8 → zRg (c.sp m g) 0 99 ∧ zRg (c.wa m g) 0 20
def zIp (c : zCl) (J : Nat) (e K : Int) : Prop := (∀ m, m < 6 → ∀ g, g < 8 → zRg (c.cn J m g) 0 20) ∧ zRg (c.vl J) 0 100000 ∧ c.dy.toInt + e ≤ (c.du J).toInt ∧ (c.du J).toInt ≤ c.dy.toInt + K - (if c.io J = true then 0 else 30) ∧ (c.io J = false → 0 < (zPie (c.cn J)).toInt)
def zIv (c : zCl) (D K : Int) : Prop := zI1 c D ∧ ∀ p, p < c.un → zIp c (c.pi p) 1 K
theorem zSt_rg {c : zCl} {D : Int} (h : zI1 c D) : (2 ≤ (c.st 0).toInt ∧ (c.st 0).toInt ≤ 20) ∧ (0 ≤ (c.st 1).toInt ∧ (c.st 1).toInt ≤ 99) ∧ (0 ≤ (c.st 2).toInt ∧ (c.st 2).toInt ≤ 9) ∧ (1 ≤ (c.st 3).toInt ∧ (c.st 3).toInt ≤ 20) ∧ (0 ≤ (c.st 4).toInt ∧ (c.st 4).toInt ≤ 30) ∧ (0 ≤ (c.st 5).toInt ∧ (c.st 5).toInt ≤ 500) ∧ (0 ≤ (c.st 6).toInt ∧ (c.st 6).toInt ≤ 50) ∧ (0 ≤ (c.st 7).toInt ∧ (c.st 7).toInt ≤ 100) ∧ (0 ≤ (c.st 8).toInt ∧ (c.st 8).toInt ≤ 100) := by
  have key : ∀ i, i < 9 → (zLeast i).toInt ≤ (c.st i).toInt ∧ (c.st i).toInt ≤ (zMost i).toInt := by
    intro i hi
    have := h.1 i hi
    unfold zbe at this
    simp only [Bool.and_eq_true, decide_eq_true_eq] at this
    exact ⟨Int32.le_iff_toInt_le.mp this.1, Int32.le_iff_toInt_le.mp this.2⟩
  exact ⟨key 0 (by omega), key 1 (by omega), key 2 (by omega), key 3 (by omega), key 4 (by omega), key 5 (by omega), key 6 (by omega), key 7 (by omega), key 8 (by omega)⟩
/-! a copy -/
section CP
variable {t c : zCl} {s : Nat → Int32}
theorem zCpV_at {α : Type} {f g : Nat → α} {pi oi : Nat → Nat} (hi : ∀ i j, i < 5 → j < 5 → pi i = pi j → i = j) : ∀ {k p : Nat}, k ≤ 5 → p < k → zCpV f pi g oi k (pi p) = g (oi p)
  | k + 1, p, hk, hp => by
    show va_up _ _ _ _ = _
    by_cases h : p = k
    · subst h; rw [va_up_self]
    · rw [va_up_ne _ _ (fun q => h (hi p k (by omega) (by omega) q))]
      exact zCpV_at hi (by omega) (by omega)
theorem zCpN_at {f g : Nat → Nat → Nat → Int32} {pi oi : Nat → Nat} (hi : ∀ i j, i < 5 → j < 5 → pi i = pi j → i = j) {m q : Nat} (hm : m < 6) (hq : q < 8) : ∀ {k p : Nat}, k ≤ 5 → p < k → zCpN f pi g oi k (pi p) m q = g (oi p) m q
  | k + 1, p, hk, hp => by
    rw [show zCpN f pi g oi (k + 1) = va_up (zCpN f pi g oi k) (pi k) (zTab (zCpN f pi g oi k (pi k)) (g (oi k)) 6) from rfl]
    by_cases h : p = k
    · subst h; rw [va_up_self]
      unfold zTab; rw [if_pos hm, zC0_lt hq]
    · rw [va_up_ne _ _ (fun q => h (hi p k (by omega) (by omega) q))]
      exact zCpN_at hi hm hq (by omega) (by omega)
theorem zC0_sum {d f : Nat → Int32} {n : Nat} : lsum (zC0 d f n) n = lsum f n := lsum_congr (fun k hk => zC0_lt hk)
theorem zTab_at {g f : Nat → Nat → Int32} {m q : Nat} (hm : m < 6) (hq : q < 8) : zTab g f 6 m q = f m q := by
  unfold zTab; rw [if_pos hm, zC0_lt hq]
theorem zCpy_un : (zCpy t c).un = c.un := rfl
theorem zCpy_pi : (zCpy t c).pi = t.pi := rfl
theorem zCpy_wf (ht : zWf t) (hc : zWf c) : zWf (zCpy t c) := ⟨hc.1, ht.2.1, ht.2.2⟩
theorem zCpy_R (ht : zWf t) (hc : zWf c) (h : zRl c s) : zRl (zCpy t c) s := by
  obtain ⟨⟨h1, h1a, h1b, h1c, h1d, h1e⟩, h2, h3, h4, h5⟩ := h
  refine ⟨⟨fun i hi => ?_, h1a, h1b, h1c, ?_, ?_⟩, h2, fun m hm => ?_, fun m hm g hg => ?_, fun p hp => ?_⟩
  · rw [h1 i hi]; exact (zC0_lt hi).symm
  · rw [h1d]; exact zC0_sum.symm
  · rw [h1e]; exact zC0_sum.symm
  · obtain ⟨a, b, e, f, g, i⟩ := h3 m hm
    exact ⟨a.trans (zC0_lt hm).symm, b.trans (zC0_lt hm).symm, e.trans (zC0_lt hm).symm, f.trans (zC0_lt hm).symm, g.trans (zC0_lt hm).symm, i.trans (zC0_lt hm).symm⟩
  · obtain ⟨a, b⟩ := h4 m hm g hg
    exact ⟨a.trans (zTab_at hm hg).symm, b.trans (zTab_at hm hg).symm⟩
  · obtain ⟨a, b, e, f⟩ := h5 p hp
    have hu := hc.1
    exact ⟨a.trans (zCpV_at ht.2.2 hu hp).symm, b.trans (zCpV_at ht.2.2 hu hp).symm, e.trans (congrArg zb (zCpV_at ht.2.2 hu hp).symm), fun m hm g hg => (f m hm g hg).trans (zCpN_at ht.2.2 hm hg hu hp).symm⟩
theorem zPie_congr {f g : Nat → Nat → Int32} (h : ∀ m, m < 6 → ∀ k, k < 8 → f m k = g m k) : zPie f = zPie g := lsum_congr (fun m hm => lsum_congr (fun k hk => h m hm k hk))
theorem zCpy_I {D K : Int} (ht : zWf t) (hc : zWf c) (h : zIv c D K) : zIv (zCpy t c) D K := by
  obtain ⟨⟨h1, h2, h3, h4, h5⟩, h6⟩ := h
  refine ⟨⟨fun i hi => ?_, h2, h3, fun m hm => ?_, fun m hm g hg => ?_⟩, fun p hp => ?_⟩
  · have e : (zCpy t c).st i = c.st i := zC0_lt hi
    rw [e]; exact h1 i hi
  · have e : (zCpy t c).br m = c.br m := zC0_lt hm
    rw [e]; exact h4 m hm
  · have e : (zCpy t c).sp m g = c.sp m g := zTab_at hm hg
    have e2 : (zCpy t c).wa m g = c.wa m g := zTab_at hm hg
    rw [e, e2]; exact h5 m hm g hg
  · have hu := hc.1
    have e1 : (zCpy t c).vl ((zCpy t c).pi p) = c.vl (c.pi p) := zCpV_at ht.2.2 hu hp
    have e2 : (zCpy t c).du ((zCpy t c).pi p) = c.du (c.pi p) := zCpV_at ht.2.2 hu hp
    have e3 : (zCpy t c).io ((zCpy t c).pi p) = c.io (c.pi p) := zCpV_at ht.2.2 hu hp
    have e4 : ∀ m, m < 6 → ∀ g, g < 8 → (zCpy t c).cn ((zCpy t c).pi p) m g = c.cn (c.pi p) m g := fun m hm g hg => zCpN_at ht.2.2 hm hg hu hp
    obtain ⟨a, b, d, e, f⟩ := h6 p hp
    refine ⟨fun m hm g hg => ?_, ?_, ?_, ?_, ?_⟩
    · rw [e4 m hm g hg]; exact a m hm g hg
    · rw [e1]; exact b
    · rw [e2]; exact d
    · rw [e2, e3]; exact e
    · rw [e3, zPie_congr e4]; exact f
end CP
/-! the states before -/
def zHS (hc : Nat → zCl) (hi : Nat → Nat) (kn : Nat) (sH : Nat → Int32) : Prop := kn ≤ 6 ∧ (∀ i, i < 6 → hi i < 6) ∧ (∀ i j, i < 6 → j < 6 → hi i = hi j → i = j) ∧ (∀ j, j < 6 → zWf (hc j)) ∧ ∀ i, i < kn → zRl (hc (hi i)) (zHs sH i) ∧ zIv (hc (hi i)) 9999 50
theorem zRl_eq {c : zCl} {s s' : Nat → Int32} (hu : c.un ≤ 5) (h : ∀ i, i < 402 → s' i = s i) (hR : zRl c s) : zRl c s' := by
  obtain ⟨⟨h1, h1a, h1b, h1c, h1d, h1e⟩, h2, h3, h4, h5⟩ := hR
  refine ⟨⟨fun i hi => ?_, ?_, ?_, ?_, ?_, ?_⟩, ?_, fun m hm => ?_, fun m hm g hg => ?_, fun p hp => ?_⟩
  · rw [h i (by omega)]; exact h1 i hi
  · rw [h _ (by omega)]; exact h1a
  · rw [h _ (by omega)]; exact h1b
  · rw [h _ (by omega)]; exact h1c
  · rw [h _ (by omega)]; exact h1d
  · rw [h _ (by omega)]; exact h1e
  · rw [h _ (by omega)]; exact h2
  · rw [h _ (by omega), h _ (by omega), h _ (by omega), h _ (by omega), h _ (by omega), h _ (by omega)]; exact h3 m hm
  · rw [h _ (by omega), h _ (by omega)]; exact h4 m hm g hg
  · have hp2 : p < 5 := Nat.lt_of_lt_of_le hp hu
    obtain ⟨a, b, e, f⟩ := h5 p hp
    refine ⟨?_, ?_, ?_, fun m hm g hg => ?_⟩
    · rw [h _ (by omega)]; exact a
    · rw [h _ (by omega)]; exact b
    · rw [h _ (by omega)]; exact e
    · rw [h _ (by omega)]; exact f m hm g hg
theorem zRecH_hit {s sH : Nat → Int32} {kn i : Nat} (hi : i < 402) : zHs (zRecH s sH kn) (if kn = 6 then 5 else kn) i = s i := by
  unfold zHs zRecH zCp
  rw [if_pos (by omega)]
  congr 1; omega
theorem zRecH_old {s sH : Nat → Int32} {kn j i : Nat} (h6 : kn ≤ 6) (hi : i < 402) (hj : j < (if kn = 6 then 5 else kn)) : zHs (zRecH s sH kn) j i = zHs sH (if kn = 6 then j + 1 else j) i := by
  unfold zHs zRecH zCp
  rw [if_neg (by omega)]
  by_cases h : kn = 6
  · rw [if_pos h] at hj
    rw [if_pos h, if_pos h]
    unfold zSh
    rw [zC0_lt (by omega)]
    congr 1; omega
  · rw [if_neg h, if_neg h]
theorem zHS_rec {hc : Nat → zCl} {hi : Nat → Nat} {kn : Nat} {s sH : Nat → Int32} {c : zCl} (h : zHS hc hi kn sH) (hw : zWf c) (hR : zRl c s) (hI : zIv c 9999 50) : zHS (zRmC hc hi kn c) (zRmI hi kn) (zRecK kn) (zRecH s sH kn) := by
  obtain ⟨h1, h2, h3, h4, h5⟩ := h
  have hJ : zRmJ hi kn < 6 := by
    unfold zRmJ; split
    · exact h2 0 (by omega)
    · exact h2 kn (by omega)
  have hI2 : ∀ i, i < 6 → zRmI hi kn i < 6 := by
    intro i hi
    unfold zRmI; split
    · unfold va_up; split
      · exact h2 0 (by omega)
      · exact zRotS_lt h2 (by omega) hi
    · exact h2 i hi
  have hat : ∀ i, i < 6 → zRmI hi kn i = hi (if kn = 6 then (if i = 5 then 0 else i + 1) else i) := by
    intro i hi
    unfold zRmI
    by_cases h : kn = 6
    · rw [if_pos h, if_pos h]
      by_cases h5 : i = 5
      · subst h5; rw [va_up_self, if_pos rfl]
      · rw [va_up_ne _ _ h5, if_neg h5]; unfold zRotS; rw [if_pos (by omega)]
    · rw [if_neg h, if_neg h]
  have hJe : zRmJ hi kn = hi (if kn = 6 then 0 else kn) := by
    unfold zRmJ; split <;> rfl
  refine ⟨zRecK_le h1, hI2, fun i j hi' hj e => ?_, fun j hj => ?_, fun i hi' => ?_⟩
  · rw [hat i hi', hat j hj] at e
    have := h3 _ _ (by split <;> (try split) <;> omega) (by split <;> (try split) <;> omega) e
    split at this <;> (try split at this) <;> (try split at this) <;> omega
  · unfold zRmC
    by_cases h : j = zRmJ hi kn
    · subst h; rw [va_up_self]; exact zCpy_wf (h4 _ hJ) hw
    · rw [va_up_ne _ _ h]; exact h4 j hj
  · have hK : i < (if kn = 6 then 6 else kn + 1) := hi'
    have hi6 : i < 6 := by split at hK <;> omega
    by_cases he : i = (if kn = 6 then 5 else kn)
    · have e1 : zRmI hi kn i = zRmJ hi kn := by
        rw [hat i hi6, hJe]
        congr 1
        by_cases h : kn = 6
        · rw [if_pos h] at he ⊢; rw [if_pos h, if_pos he]
        · rw [if_neg h] at he ⊢; rw [if_neg h]; exact he
      have e2 : zRmC hc hi kn c (zRmI hi kn i) = zCpy (hc (zRmJ hi kn)) c := by
        unfold zRmC; rw [e1, va_up_self]
      rw [e2]
      refine ⟨?_, zCpy_I (h4 _ hJ) hw hI⟩
      refine zRl_eq hw.1 (fun k hk => ?_) (zCpy_R (h4 _ hJ) hw hR)
      rw [he]; exact zRecH_hit hk
    · have hlt : i < (if kn = 6 then 5 else kn) := by
        split at hK <;> split at he <;> split <;> omega
      have e1 : zRmI hi kn i = hi (if kn = 6 then i + 1 else i) := by
        rw [hat i hi6]
        by_cases h : kn = 6
        · rw [if_pos h] at hlt; rw [if_pos h, if_pos h, if_neg (by omega)]
        · rw [if_neg h, if_neg h]
      have hne : zRmI hi kn i ≠ zRmJ hi kn := by
        rw [e1, hJe]
        intro q
        have := h3 _ _ (by split at hlt <;> split <;> omega) (by split <;> omega) q
        by_cases hk6 : kn = 6
        · simp only [if_pos hk6] at this hlt; omega
        · simp only [if_neg hk6] at this hlt; omega
      have e2 : zRmC hc hi kn c (zRmI hi kn i) = hc (hi (if kn = 6 then i + 1 else i)) := by
        unfold zRmC; rw [va_up_ne _ _ hne, e1]
      rw [e2]
      have h6 := h5 (if kn = 6 then i + 1 else i) (by split at hlt <;> split <;> omega)
      refine ⟨zRl_eq (h4 _ (h2 _ (by split at hlt <;> split <;> omega))).1 (fun k hk => ?_) h6.1, h6.2⟩
      exact zRecH_old h1 hk hlt
