theorem upd_upd (f : Nat → Int32) (i : Nat) (x w : Int32) : upd (upd f i x) i w = upd f i w := by
  funext j
  by_cases h : j = i <;> simp [upd, h]
/-- the first k of f, then those of d -/
def zC0 (d f : Nat → Int32) (k : Nat) : Nat → Int32 := fun j => if j < k then f j else d j
theorem zC0_0 (d f : Nat → Int32) : zC0 d f 0 = d := by funext j; simp [zC0]
theorem zC0_s (d f : Nat → Int32) (k : Nat) : upd (zC0 d f k) k (f k) = zC0 d f (k + 1) := upd_lt f d k
theorem zC0_lt {d f : Nat → Int32} {k j : Nat} (h : j < k) : zC0 d f k j = f j := if_pos h
theorem zC0_ge {d f : Nat → Int32} {k j : Nat} (h : k ≤ j) : zC0 d f k j = d j := if_neg (by omega)
/-- k of f from place b on, else d -/
def zCp (d f : Nat → Int32) (b k : Nat) : Nat → Int32 := fun j => if b ≤ j ∧ j < b + k then f (j - b) else d j
theorem zCp_0 (d f : Nat → Int32) (b : Nat) : zCp d f b 0 = d := by
  funext j
  have : ¬ (b ≤ j ∧ j < b + 0) := by omega
  simp only [zCp, if_neg this]
theorem zCp_s (d f : Nat → Int32) (b k : Nat) : upd (zCp d f b k) (b + k) (f k) = zCp d f b (k + 1) := by
  funext j
  unfold upd zCp
  by_cases h : j = b + k
  · subst h
    rw [if_pos rfl, if_pos (by omega), show b + k - b = k by omega]
  · rw [if_neg h]
    by_cases h2 : b ≤ j ∧ j < b + k
    · rw [if_pos h2, if_pos (by omega)]
    · rw [if_neg h2, if_neg (by omega)]
/-- steps by number -/
def zIt {α : Type} (f : Nat → α → α) (x : α) : Nat → α
  | 0 => x
  | k + 1 => f k (zIt f x k)
theorem zIt_s {α : Type} (f : Nat → α → α) (x : α) (k : Nat) : zIt f x (k + 1) = f k (zIt f x k) := rfl
/-! sharing -/
def zBase (am : Int32) (t : Nat → Int32) (m : Nat) : Int32 := if lsum t 6 = 0 then 0 else am * t m / lsum t 6
def zLft (am : Int32) (t : Nat → Int32) : Nat → Int32
  | 0 => am
  | k + 1 => zLft am t k - zBase am t k
def zGiv (t : Nat → Int32) (l : Int32) (m : Nat) : Bool := decide (¬ lsum t 6 ≤ 0) && decide (¬ t m ≤ 0) && decide (¬ l ≤ 0)
def zLf2 (am : Int32) (t : Nat → Int32) : Nat → Int32
  | 0 => zLft am t 6
  | k + 1 => if zGiv t (zLf2 am t k) k = true then zLf2 am t k - 1 else zLf2 am t k
def zGet (am : Int32) (t : Nat → Int32) (m : Nat) : Int32 := if zGiv t (zLf2 am t m) m = true then zBase am t m + 1 else zBase am t m
def zG2 (am : Int32) (t sG : Nat → Int32) (k : Nat) : Nat → Int32 := zC0 (zC0 sG (zBase am t) 6) (zGet am t) k
def zGets (am : Int32) (t sG : Nat → Int32) : Nat → Int32 := zC0 (zC0 sG (zBase am t) 6) (zGet am t) 6
theorem zG2_at (am : Int32) (t sG : Nat → Int32) {k : Nat} (h : k < 6) : zG2 am t sG k k = zBase am t k := by
  unfold zG2
  rw [zC0_ge (Nat.le_refl _), zC0_lt h]
theorem zG2_s (am : Int32) (t sG : Nat → Int32) (k : Nat) : upd (zG2 am t sG k) k (zGet am t k) = zG2 am t sG (k + 1) := zC0_s _ _ _
theorem zG2_le (am : Int32) (t sG : Nat → Int32) (k : Nat) (hk : k ≤ 6) (h : lsum t 6 ≤ 0) : zG2 am t sG k = zGets am t sG := by
  funext j
  unfold zG2 zGets zC0
  by_cases h1 : j < k
  · rw [if_pos h1, if_pos (by omega)]
  · rw [if_neg h1]
    by_cases h2 : j < 6
    · rw [if_pos h2, if_pos h2]
      simp [zGet, zGiv, h]
    · rw [if_neg h2, if_neg h2]
def zOwnT (s : Nat → Int32) (mm : Int32) (m g : Nat) : Int32 := if zHas mm m = true then s (15 + 22 * m + (14 + g)) * zPriceIn s mm g else 0
def zOwn (s : Nat → Int32) (mm : Int32) (m : Nat) : Int32 := lsum (zOwnT s mm m) 8
theorem lsum_0 {f : Nat → Int32} (h : ∀ k, f k = 0) : ∀ n, lsum f n = 0
  | 0 => rfl
  | n + 1 => by rw [lsum_s, lsum_0 h n, h n]; rfl
theorem zOwn_no {s : Nat → Int32} {mm : Int32} {m : Nat} (h : zHas mm m = false) (k : Nat) : lsum (zOwnT s mm m) k = zOwn s mm m := by
  have : ∀ g, zOwnT s mm m g = 0 := fun g => by simp [zOwnT, h]
  unfold zOwn
  rw [lsum_0 this, lsum_0 this]
def zPart (s : Nat → Int32) (mm : Int32) (m : Nat) : Int32 := if zHas mm m = true then zWei s (1 <<< (nI m &&& 31)) else 0
def zParts (s : Nat → Int32) (mm : Int32) (sT : Nat → Int32) : Nat → Int32 := zC0 sT (zPart s mm) 6
def zAccT (s : Nat → Int32) (m : Nat) : Int32 := s (15 + 22 * m + 0)
def zChest (s : Nat → Int32) : Int32 := lsum (zAccT s) 6
def zNx (x : Int32) : Int32 := (x.toInt64 * 1103515245 + 12345 - (x.toInt64 * 1103515245 + 12345) / 2147483648 * 2147483648).toInt32
def zDr (x many : Int32) : Int32 := x / 65536 - x / 65536 / many * many
def zPcsT (s : Nat → Int32) (p k : Nat) : Int32 := s (147 + 51 * p + (3 + k))
def zPcs (s : Nat → Int32) (p : Nat) : Int32 := lsum (zPcsT s p) 48
def zPrcT (s : Nat → Int32) (p m g : Nat) : Int32 := nI (10 + 5 * g) * s (147 + 51 * p + (3 + 8 * m + g))
def zPrc (s : Nat → Int32) (p m : Nat) : Int32 := lsum (zPrcT s p m) 8
def zPayD (s gt : Nat → Int32) : Nat → (Nat → Int32)
  | 0 => s
  | k + 1 => upd (upd (zPayD s gt k) (15 + 22 * k + 0) (zPayD s gt k (15 + 22 * k + 0) - gt k)) (15 + 22 * k + 4) (upd (zPayD s gt k) (15 + 22 * k + 0) (zPayD s gt k (15 + 22 * k + 0) - gt k) (15 + 22 * k + 4) + gt k)
theorem zPayD_lo {s gt : Nat → Int32} {i : Nat} (h : i < 15) : ∀ {k : Nat}, zPayD s gt k i = s i
  | 0 => rfl
  | k + 1 => by
    show upd (upd _ _ _) _ _ i = _
    rw [pk_un (by omega), pk_un (by omega)]
    exact zPayD_lo h
def zDutyOf (s : Nat → Int32) (p : Nat) : Int32 := zDuty s (s (147 + 51 * p + 0))
def zPdG (s sT sG : Nat → Int32) (p : Nat) : Nat → Int32 := zGets (zDutyOf s p) (zC0 sT (zPrc s p) 6) sG
def zPd (s sT sG : Nat → Int32) (p : Nat) : Nat → Int32 := upd (zPayD s (zPdG s sT sG p) 6) 12 (s 12 + zDutyOf s p)
/-! the history -/
def zSh (d : Nat → Int32) (k : Nat) : Nat → Int32 := zC0 d (fun j => d (j + 402)) k
theorem zSh_s (d : Nat → Int32) (k : Nat) : upd (zSh d k) k (zSh d k (k + 402)) = zSh d (k + 1) := by
  have : zSh d k (k + 402) = (fun j => d (j + 402)) k := zC0_ge (by omega)
  rw [this]
  exact zC0_s _ _ _
def zRecH (s sH : Nat → Int32) (kn : Nat) : Nat → Int32 := zCp (if kn = 6 then zSh sH 2010 else sH) s (402 * (if kn = 6 then 5 else kn)) 402
def zRecK (kn : Nat) : Nat := if kn = 6 then 6 else kn + 1
theorem zRecK_le {kn : Nat} (h : kn ≤ 6) : zRecK kn ≤ 6 := by unfold zRecK; split <;> omega
theorem nI_one : nI 1 = 1 := rfl
theorem zLeast_eq : ∀ i, i < 9 → zLeast i = if i = 0 then 2 else if i = 3 then 1 else 0 := by decide +kernel
def zMostI (v : Int32) : Int32 := if v = nI 0 then 20 else if v = nI 1 then 99 else if v = nI 2 then 9 else if v = nI 3 then 20 else if v = nI 4 then 30 else if v = nI 5 then 500 else if v = nI 6 then 50 else 100
theorem zMostI_eq : ∀ i, i < 9 → zMostI (nI i) = zMost i := by decide +kernel
