/-! sending -/
def zSd1 (s : Nat → Int32) (mm : Int32) (pn : Nat) : Nat → Int32 := upd (upd (upd s (147 + 51 * pn + 0) (zVal s mm)) (147 + 51 * pn + 1) (s 9 + s 3)) (147 + 51 * pn + 2) (nI 0)
theorem zSd1_lo {s : Nat → Int32} {mm : Int32} {pn i : Nat} (h : i < 15) : zSd1 s mm pn i = s i := by
  unfold zSd1
  rw [pk_un (by omega), pk_un (by omega), pk_un (by omega)]
def zSdT (s sT : Nat → Int32) (mm : Int32) (pn : Nat) : Nat → Int32 := zParts (zSd1 s mm pn) mm sT
def zSdG (s sT sG : Nat → Int32) (mm : Int32) (pn : Nat) : Nat → Int32 := zGets (zPost (zSd1 s mm pn) mm) (zSdT s sT mm pn) sG
def zSd2s (S : Nat → Int32) (own g : Int32) (k : Nat) : Nat → Int32 :=
  let s1 := upd S (15 + 22 * k + 0) (S (15 + 22 * k + 0) - (own + g))
  let s2 := upd s1 (15 + 22 * k + 2) (s1 (15 + 22 * k + 2) + own)
  upd s2 (15 + 22 * k + 3) (s2 (15 + 22 * k + 3) + g)
def zSd2 (S gt : Nat → Int32) (mm : Int32) : Nat → (Nat → Int32)
  | 0 => S
  | k + 1 => zSd2s (zSd2 S gt mm k) (zOwn (zSd2 S gt mm k) mm k) (gt k) k
theorem zSd2_lo {S gt : Nat → Int32} {mm : Int32} {i : Nat} (h : i < 15) : ∀ {k : Nat}, zSd2 S gt mm k i = S i
  | 0 => rfl
  | k + 1 => by
    show upd (upd (upd _ _ _) _ _) _ _ i = _
    rw [pk_un (by omega), pk_un (by omega), pk_un (by omega)]
    exact zSd2_lo h
def zSd3 (S : Nat → Int32) (mm : Int32) (pn : Nat) : Nat → (Nat → Int32)
  | 0 => S
  | k + 1 =>
    let S' := zSd3 S mm pn k
    let s1 := upd S' (147 + 51 * pn + (3 + k)) (if zHas mm (k / 8) = true then S' (15 + 22 * (k / 8) + (14 + k % 8)) else nI 0)
    upd s1 (15 + 22 * (k / 8) + (14 + k % 8)) (if zHas mm (k / 8) = true then nI 0 else s1 (15 + 22 * (k / 8) + (14 + k % 8)))
theorem zSd3_lo {S : Nat → Int32} {mm : Int32} {pn i : Nat} (h : i < 15) : ∀ {k : Nat}, zSd3 S mm pn k i = S i
  | 0 => rfl
  | k + 1 => by
    show upd (upd _ _ _) _ _ i = _
    rw [pk_un (by omega), pk_un (by omega)]
    exact zSd3_lo h
def zSends (s sT sG : Nat → Int32) (mm : Int32) (pn : Nat) : Nat → Int32 := upd (zSd3 (zSd2 (zSd1 s mm pn) (zSdG s sT sG mm pn) mm 6) mm pn 48) 14 (nI (pn + 1))
def zDsend (s : Nat → Int32) (mm : Int32) (pn : Nat) : Int32 ⊕ Unit := if zbe mm (nI 1) (nI 63) = true then (if zStr s mm = 0 then .inl (-100005) else if zCost s mm ≤ zChest s then (if pn = 5 then .inl (-100004) else .inr ()) else .inl (-100005)) else .inl (-100002)
/-! a parcel comes home -/
def zOver (v : Int32) : Int32 := if v ≤ nI 99 then nI 0 else v - nI 99
def zCHi (S : Nat → Int32) (p m : Nat) : Nat → (Nat → Int32)
  | 0 => S
  | g + 1 =>
    let S' := zCHi S p m g
    let v := S' (15 + 22 * m + (6 + g)) + S' (147 + 51 * p + (3 + 8 * m + g))
    let s1 := upd S' (15 + 22 * m + (6 + g)) (v - zOver v)
    let s2 := upd s1 (15 + 22 * m + 5) (s1 (15 + 22 * m + 5) + zOver v)
    upd s2 13 (S' 13 + zOver v)
theorem zCHi_lo {S : Nat → Int32} {p m i : Nat} (h : i < 15) (h2 : i ≠ 13) : ∀ {g : Nat}, zCHi S p m g i = S i
  | 0 => rfl
  | g + 1 => by
    show upd (upd (upd _ _ _) _ _) _ _ i = _
    rw [pk_un (by omega), pk_un (by omega), pk_un (by omega)]
    exact zCHi_lo h h2
def zCHo (s : Nat → Int32) (p : Nat) : Nat → (Nat → Int32)
  | 0 => s
  | m + 1 => zCHi (zCHo s p m) p m 8
theorem zCHo_lo {s : Nat → Int32} {p i : Nat} (h : i < 15) (h2 : i ≠ 13) : ∀ {m : Nat}, zCHo s p m i = s i
  | 0 => rfl
  | m + 1 => by
    show zCHi _ _ _ _ i = _
    rw [zCHi_lo h h2]
    exact zCHo_lo h h2
def zCHs (S : Nat → Int32) (p : Nat) : Nat → (Nat → Int32)
  | 0 => S
  | i + 1 => upd (zCHs S p i) (147 + 51 * p + 0 + i) (zCHs S p i (147 + 51 * p + 0 + i + 51))
theorem zCHs_lo {S : Nat → Int32} {p i : Nat} (h : i < 15) : ∀ {k : Nat}, zCHs S p k i = S i
  | 0 => rfl
  | k + 1 => by
    show upd _ _ _ i = _
    rw [pk_un (by omega)]
    exact zCHs_lo h
def zCHz (S : Nat → Int32) (pn : Nat) : Nat → (Nat → Int32)
  | 0 => S
  | k + 1 => upd (zCHz S pn k) (147 + 51 * (pn - 1) + k) (nI 0)
theorem zCHz_lo {S : Nat → Int32} {pn i : Nat} (h : i < 15) : ∀ {k : Nat}, zCHz S pn k i = S i
  | 0 => rfl
  | k + 1 => by
    show upd _ _ _ i = _
    rw [pk_un (by omega)]
    exact zCHz_lo h
def zCH (s : Nat → Int32) (p pn : Nat) : Nat → Int32 := zCHz (zCHs (upd (zCHo s p 6) 14 (nI (pn - 1))) p (51 * (pn - 1 - p))) pn 51
/-! the customs -/
def zLs (S : Nat → Int32) (p : Nat) (l : Int32) : Nat → Int32
  | 0 => l
  | k + 1 => zLs S p l k - S (147 + 51 * p + (3 + k))
def zAtF (S : Nat → Int32) (p : Nat) (l : Int32) : Nat → Nat → Nat
  | 0, k => k
  | n + 1, k => if zLs S p l k < S (147 + 51 * p + (3 + k)) then k else zAtF S p l n (k + 1)
def zAt (S : Nat → Int32) (p : Nat) (l : Int32) : Nat := zAtF S p l 48 0
theorem zAtF_le {S : Nat → Int32} {p : Nat} {l : Int32} : ∀ {n k : Nat}, zAtF S p l n k ≤ k + n
  | 0, k => Nat.le_refl _
  | n + 1, k => by
    unfold zAtF
    split
    · omega
    · have := zAtF_le (S := S) (p := p) (l := l) (n := n) (k := k + 1)
      omega
theorem zAtF_hit {S : Nat → Int32} {p : Nat} {l : Int32} : ∀ {n k : Nat}, zAtF S p l n k < k + n → zLs S p l (zAtF S p l n k) < S (147 + 51 * p + (3 + zAtF S p l n k))
  | 0, k, h => by simp [zAtF] at h
  | n + 1, k, h => by
    unfold zAtF at h ⊢
    split
    · assumption
    · rename_i hc
      rw [if_neg hc] at h
      exact zAtF_hit (by omega)
theorem zAtF_miss {S : Nat → Int32} {p : Nat} {l : Int32} : ∀ {n k : Nat}, ∀ j, k ≤ j → j < zAtF S p l n k → ¬ zLs S p l j < S (147 + 51 * p + (3 + j))
  | 0, k, j, h1, h2 => by simp [zAtF] at h2; omega
  | n + 1, k, j, h1, h2 => by
    unfold zAtF at h2
    split at h2
    · omega
    · rename_i hc
      rcases Nat.eq_or_lt_of_le h1 with e | e
      · subst e; exact hc
      · exact zAtF_miss j (by omega) h2
/-- the row behind the draw that tells the string, and what is drawn -/
def zLd (s : Nat → Int32) : Nat → Int32 := upd s 10 (zNx (s 10))
def zLat (s : Nat → Int32) (p : Nat) : Nat := zAt (zLd s) p (zDr (zNx (s 10)) (zPcs s p))
def zLose (s : Nat → Int32) (p : Nat) : Nat → Int32 :=
  let s1 := upd (zLd s) (147 + 51 * p + (3 + zLat s p)) (zLd s (147 + 51 * p + (3 + zLat s p)) - nI 1)
  let s2 := upd s1 (15 + 22 * (zLat s p / 8) + 5) (s1 (15 + 22 * (zLat s p / 8) + 5) + nI 1)
  upd s2 13 (s 13 + nI 1)
theorem zLose_lo {s : Nat → Int32} {p i : Nat} (h : i < 15) (h1 : i ≠ 10) (h2 : i ≠ 13) : zLose s p i = s i := by
  show upd (upd (upd (upd _ _ _) _ _) _ _) _ _ i = _
  rw [pk_un (by omega), pk_un (by omega), pk_un (by omega), pk_un (by omega)]
theorem zPd_lo {s sT sG : Nat → Int32} {p i : Nat} (h : i < 15) (h1 : i ≠ 12) : zPd s sT sG p i = s i := by
  show upd _ _ _ i = _
  rw [pk_un (by omega), zPayD_lo h]
def zCuO (s : Nat → Int32) : Bool := decide (zDr (zNx (s 10)) (nI 100) < s 7)
def zCu3 (s : Nat → Int32) (p : Nat) : Nat → Int32 := upd (upd (upd s 10 (zNx (s 10))) 11 (s 11 + nI 1)) (147 + 51 * p + 2) (nI 1)
theorem zCu3_lo {s : Nat → Int32} {p i : Nat} (h : i < 15) (h1 : i ≠ 10) (h2 : i ≠ 11) : zCu3 s p i = s i := by
  unfold zCu3
  rw [pk_un (by omega), pk_un (by omega), pk_un (by omega)]
def zCu5 (s sT sG : Nat → Int32) (p : Nat) : Nat → Int32 := upd (zPd (zCu3 s p) sT sG p) 10 (zNx (zNx (s 10)))
theorem zCu5_10 (s sT sG : Nat → Int32) (p : Nat) : zPd (zCu3 s p) sT sG p 10 = zNx (s 10) := by
  rw [zPd_lo (by omega) (by omega)]
  unfold zCu3
  rw [pk_un (by omega), pk_un (by omega), pk_us]
theorem zCu5_lo {s sT sG : Nat → Int32} {p i : Nat} (h : i < 15) (h1 : i ≠ 10) (h2 : i ≠ 11) (h3 : i ≠ 12) : zCu5 s sT sG p i = s i := by
  unfold zCu5
  rw [pk_un (by omega), zPd_lo h h3, zCu3_lo h h1 h2]
def zCuL (s : Nat → Int32) : Bool := decide (zDr (zNx (zNx (s 10))) (nI 100) < s 8)
def zCu6 (s sT sG : Nat → Int32) (p : Nat) : Nat → Int32 := if zCuL s = true then zLose (zCu5 s sT sG p) p else zCu5 s sT sG p
def zCuS (s sT sG : Nat → Int32) (p : Nat) : Nat → Int32 := if zCuO s = true then upd (zCu6 s sT sG p) (147 + 51 * p + 1) (s 9 + s 4) else upd s 10 (zNx (s 10))
def zCuT (s sT : Nat → Int32) (p : Nat) : Nat → Int32 := if zCuO s = true then zC0 sT (zPrc (zCu3 s p) p) 6 else sT
def zCuG (s sT sG : Nat → Int32) (p : Nat) : Nat → Int32 := if zCuO s = true then zPdG (zCu3 s p) sT sG p else sG
def zCuB (s : Nat → Int32) : Bool := if zCuO s = true then decide (s 4 = 0) else true
/-! parting -/
def zBest (s : Nat → Int32) : Nat → Nat
  | 0 => 63
  | k + 1 => if zPt2 s (nI (62 - k)) ≤ zPt2 s (nI (zBest s k)) then 62 - k else zBest s k
theorem zBest_le (s : Nat → Int32) : ∀ k, zBest s k ≤ 63
  | 0 => Nat.le_refl _
  | k + 1 => by
    unfold zBest
    split
    · omega
    · exact zBest_le s k
def zDbp (w : Int32) : Int32 ⊕ Nat := zOb (zix w 2) (-100002) fun i => .inr i
def zRbp (s : Nat → Int32) (i : Nat) : Int32 := if i = 0 then nI (zBest s 63) else zPt2 s (nI (zBest s 63))
theorem nI_pm (n : Nat) : nI n + (-1) = nI n - 1 := by rw [Int32.sub_eq_add_neg]
/-! characters out of a number -/
def zPX (x : Int64) (k : Nat) : Int64 := (x.toUInt64 >>> ((nI (8 * k)).toInt64.toUInt64 &&& Int64.toUInt64 63)).toInt64
def zCh (x : Int64) (k : Nat) : Int32 := (zPX x k &&& 255).toInt32
def zPE (x : Int64) (k : Nat) : Bool := decide (k ≠ 0) && decide (lg_cmp (zPX x k) 0 = 0)
def zPB (x : Int64) : Nat → Bool
  | 0 => false
  | k + 1 => zPB x k || (!zPE x k && !zbe (zCh x k) (nI 33) (nI 126))
def zPM (x : Int64) : Nat → Nat
  | 0 => 0
  | k + 1 => zPM x k + (if zPE x k = true then 0 else 1)
theorem zPM_le1 (x : Int64) : ∀ k, zPM x k ≤ k
  | 0 => Nat.le_refl _
  | k + 1 => by
    have := zPM_le1 x k
    show zPM x k + _ ≤ _
    split <;> omega
theorem zPM_le (x : Int64) : zPM x 8 ≤ 8 := zPM_le1 x 8
def zPw (sP : Nat → Int32) (x : Int64) (n m : Nat) : Nat → (Nat → Int32)
  | 0 => sP
  | k + 1 => upd (zPw sP x n m k) (n + m - 1 - k) (zCh x k)
def zDput (x : Int64) (n : Nat) : Int32 ⊕ Unit := if zPB x 8 = true then .inl (-100002) else if n + zPM x 8 ≤ 60 then .inr () else .inl (-100004)
