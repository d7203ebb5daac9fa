/-! what a call asks for, read off its arguments: an error, or what it means -/
def zOb {α β : Type} (o : Option α) (e : Int32) (f : α → Int32 ⊕ β) : Int32 ⊕ β := match o with
  | none => .inl e
  | some i => f i
def zE {α : Type} (d : Int32 ⊕ α) (f : α → Int32) : Int32 := match d with
  | .inl e => e
  | .inr i => f i
def zU {α β : Type} (d : Int32 ⊕ α) (x : β) (f : α → β) : β := match d with
  | .inl _ => x
  | .inr i => f i
def zSel (o : Option Nat) (l : List Int32) : Int32 := match o with
  | none => -100002
  | some i => l.getD i (-100002)
theorem zOb_n {α β : Type} (e : Int32) (f : α → Int32 ⊕ β) : zOb none e f = .inl e := rfl
theorem zOb_s {α β : Type} (i : α) (e : Int32) (f : α → Int32 ⊕ β) : zOb (some i) e f = f i := rfl
theorem zE_l {α : Type} (e : Int32) (f : α → Int32) : zE (.inl e) f = e := rfl
theorem zE_r {α : Type} (i : α) (f : α → Int32) : zE (.inr i) f = f i := rfl
theorem zU_l {α β : Type} (e : Int32) (x : β) (f : α → β) : zU (.inl e) x f = x := rfl
theorem zU_r {α β : Type} (i : α) (x : β) (f : α → β) : zU (.inr i) x f = f i := rfl
def zHs (d : Nat → Int32) (j : Nat) : Nat → Int32 := fun i => d (402 * j + i)
def zBitT (x : Int32) (k : Nat) : Int32 := (x >>> (nI k &&& 31)) &&& 1
def zBits (x : Int32) : Int32 := lsum (zBitT x) 8
def zDoes (s : Nat → Int32) (m j : Nat) (g : Int32) : Bool := match zix g 8 with
  | none => false
  | some q => zbe g (nI j - nI 1) (nI (j + 1)) && zHas (s (15 + 22 * m + 1)) j && decide (¬ s (15 + 22 * m + (6 + q)) ≤ 0)
def zSumT (s : Nat → Int32) (m f g : Nat) : Int32 := s (15 + 22 * m + (f + g))
def zSum (s : Nat → Int32) (m f : Nat) : Int32 := lsum (zSumT s m f) 8
def zWayT (s : Nat → Int32) (m k : Nat) : Int32 := s (147 + 51 * (k / 8) + (3 + 8 * m + k % 8))
def zWay (s : Nat → Int32) (m pn : Nat) : Int32 := lsum (zWayT s m) (pn * 8)
def zOwsT (s : Nat → Int32) (p k : Nat) : Int32 := if s (147 + 51 * p + (3 + k)) ≤ 0 then 0 else 1 <<< (nI (k / 8) &&& 31)
def zOws (s : Nat → Int32) (p : Nat) : Nat → Int32
  | 0 => 0
  | k + 1 => zOws s p k ||| zOwsT s p k
def zBrkT (s : Nat → Int32) (m : Nat) : Int32 := zBits (s (15 + 22 * m + 1))
def zBrk (s : Nat → Int32) : Int32 := lsum (zBrkT s) 6
def zPt2 (s : Nat → Int32) (x : Int32) : Int32 := zCost s x + zCost s (nI 63 ^^^ x) + zDuty s (zVal s x) + zDuty s (zVal s (nI 63 ^^^ x))
def zDset (p v : Int32) : Int32 ⊕ Nat := zOb (zix p 9) (-100002) fun i => if zbe v (zLeast i) (zMost i) = true then .inr i else .inl (-100002)
def zDsnap (s : Nat → Int32) (m g : Int32) : Int32 ⊕ (Nat × Nat) := zOb (zix m 6) (-100001) fun i => zOb (zix g 8) (-100001) fun j => if zHas (s (15 + 22 * i + 1)) j = true then .inl (-100005) else .inr (i, j)
def zSsnap (s : Nat → Int32) (q : Nat × Nat) : Nat → Int32 := upd s (15 + 22 * q.1 + 1) (s (15 + 22 * q.1 + 1) ||| (1 <<< (nI q.2 &&& 31)))
def zDfit (s : Nat → Int32) (m g h : Int32) : Int32 ⊕ (Nat × Nat × Nat) := zOb (zix m 6) (-100001) fun i => zOb (zix g 8) (-100001) fun j => zOb (zix h 8) (-100001) fun k => if zDoes s i j (nI k) = true then .inr (i, j, k) else .inl (-100005)
def zSfit (s : Nat → Int32) (q : Nat × Nat × Nat) : Nat → Int32 := upd (upd s (15 + 22 * q.1 + 1) (s (15 + 22 * q.1 + 1) ^^^ (1 <<< (nI q.2.1 &&& 31)))) (15 + 22 * q.1 + (6 + q.2.2)) (upd s (15 + 22 * q.1 + 1) (s (15 + 22 * q.1 + 1) ^^^ (1 <<< (nI q.2.1 &&& 31))) (15 + 22 * q.1 + (6 + q.2.2)) - 1)
def zDwant (m g v : Int32) : Int32 ⊕ (Nat × Nat) := zOb (zix m 6) (-100001) fun i => zOb (zix g 8) (-100001) fun j => if zbe v (nI 0) (nI 20) = true then .inr (i, j) else .inl (-100002)
def zSwant (s : Nat → Int32) (v : Int32) (q : Nat × Nat) : Nat → Int32 := upd s (15 + 22 * q.1 + (14 + q.2)) v
def zDpay (m v : Int32) : Int32 ⊕ Nat := zOb (zix m 6) (-100001) fun i => if zbe v (nI 1) (nI 1000) = true then .inr i else .inl (-100002)
def zSpay (s : Nat → Int32) (v : Int32) (i : Nat) : Nat → Int32 := upd s (15 + 22 * i + 0) (s (15 + 22 * i + 0) + v)
def zDgive (s : Nat → Int32) (m o g v : Int32) : Int32 ⊕ (Nat × Nat × Nat) := zOb (zix m 6) (-100001) fun i => zOb (zix o 6) (-100001) fun j => zOb (zix g 8) (-100001) fun k => if i = j then .inl (-100002) else if zbe v (nI 1) (nI 20) = true then (if s (15 + 22 * i + (6 + k)) < v then .inl (-100005) else if s (15 + 22 * j + (6 + k)) + v ≤ nI 99 then .inr (i, j, k) else .inl (-100005)) else .inl (-100002)
def zSgive (s : Nat → Int32) (v : Int32) (q : Nat × Nat × Nat) : Nat → Int32 :=
  let s1 := upd s (15 + 22 * q.1 + (6 + q.2.2)) (s (15 + 22 * q.1 + (6 + q.2.2)) - v)
  let s2 := upd s1 (15 + 22 * q.2.1 + (6 + q.2.2)) (s1 (15 + 22 * q.2.1 + (6 + q.2.2)) + v)
  let s3 := upd s2 (15 + 22 * q.1 + 0) (s2 (15 + 22 * q.1 + 0) + v * nI (10 + 5 * q.2.2))
  upd s3 (15 + 22 * q.2.1 + 0) (s3 (15 + 22 * q.2.1 + 0) - v * nI (10 + 5 * q.2.2))
def zDshuf (v : Int32) : Int32 ⊕ Unit := if v < 0 then .inl (-100002) else .inr ()
def zDmem (m : Int32) : Int32 ⊕ Nat := zOb (zix m 6) (-100001) fun i => .inr i
def zRmem (s : Nat → Int32) (pn : Nat) (w : Int32) (i : Nat) : Int32 := zSel (zix w 9) [s (15 + 22 * i + 0), s (15 + 22 * i + 1), zSum s i 6, zSum s i 14, zWay s i pn, s (15 + 22 * i + 2), s (15 + 22 * i + 3), s (15 + 22 * i + 4), s (15 + 22 * i + 5)]
def zDstr (m g : Int32) : Int32 ⊕ (Nat × Nat) := zOb (zix m 6) (-100001) fun i => zOb (zix g 8) (-100001) fun j => .inr (i, j)
def zDpar (pn : Nat) (p : Int32) : Int32 ⊕ Nat := zOb (zix p pn) (-100001) fun i => .inr i
def zRpar (s : Nat → Int32) (w : Int32) (p : Nat) : Int32 := zSel (zix w 5) [zPcs s p, s (147 + 51 * p + 0), zOws s p 48, s (147 + 51 * p + 1) - s 9, s (147 + 51 * p + 2)]
def zRcnt (s : Nat → Int32) (kn pn : Nat) (ln w : Int32) : Int32 := match zix w 10 with
  | some i => s i
  | none => match zix w 19 with
    | none => -100002
    | some i => [zChest s, nI pn, s 11, s 12, s 13, zBrk s, s 10, ln, nI kn].getD (i - 10) (-100002)
def zDord (mm : Int32) : Int32 ⊕ Unit := if zbe mm (nI 0) (nI 63) = true then .inr () else .inl (-100002)
def zRord (s : Nat → Int32) (mm w : Int32) : Int32 := zSel (zix w 5) [zCost s mm, zVal s mm, zPost s mm, zStr s mm, zDuty s (zVal s mm)]
def zDshare (mm m : Int32) : Int32 ⊕ Nat := zOb (zix m 6) (-100001) fun i => if zbe mm (nI 0) (nI 63) = true then .inr i else .inl (-100002)
def zRshare (s sT sG : Nat → Int32) (mm : Int32) (i : Nat) : Int32 := zOwn s mm i + zGets (zPost s mm) (zParts s mm sT) sG i
def zDmore (m g v : Int32) : Int32 ⊕ (Nat × Nat) := zOb (zix m 6) (-100001) fun i => zOb (zix g 8) (-100001) fun j => if zbe v (nI 1) (nI 20) = true then .inr (i, j) else .inl (-100002)
def zRmore (s : Nat → Int32) (v : Int32) (q : Nat × Nat) : Int32 := zCost (upd s (15 + 22 * q.1 + (14 + q.2)) (s (15 + 22 * q.1 + (14 + q.2)) + v)) (nI 63) - zCost s (nI 63)
theorem upd_self (s : Nat → Int32) (i : Nat) : upd s i (s i) = s := by
  funext j
  by_cases h : j = i <;> simp [upd, h]
theorem upd_back (s : Nat → Int32) (i : Nat) (v : Int32) : upd (upd s i (s i + v)) i (s i + v - v) = s := by
  rw [upd_upd, Int32.add_sub_cancel, upd_self]
def zRstand (s : Nat → Int32) (q : Nat × Nat) : Int32 := if zDoes s q.1 q.2 (nI q.2) = true then nI q.2 else if zDoes s q.1 q.2 (nI q.2 - nI 1) = true then nI q.2 - nI 1 else if zDoes s q.1 q.2 (nI (q.2 + 1)) = true then nI (q.2 + 1) else -100006
def zDundo (kn : Nat) : Int32 ⊕ Unit := if kn = 0 then .inl (-100005) else .inr ()
def zDsave (w : Int32) : Int32 ⊕ Nat := zOb (zix w 2) (-100002) fun i => .inr i
def zDrest (sI : Nat → Bool) (w : Int32) : Int32 ⊕ Nat := zOb (zix w 2) (-100002) fun i => if sI i = true then .inr i else .inl (-100005)
theorem zbe_pn (p : Int32) {pn : Nat} (h : pn ≤ 5) : zbe p (nI 0) (nI pn - nI 1) = (zix p pn).isSome := by
  rcases Nat.eq_zero_or_pos pn with h0 | h0
  · subst h0
    have h1 : zix p 0 = none := by unfold zix; rw [if_neg (by omega)]
    rw [h1]
    by_cases c : p < nI 0
    · rw [zbe_lt c]; rfl
    · refine zbe_gt ?_
      have h2 : ((nI 0 - nI 1 : Int32)).toInt = -1 := by decide +kernel
      have h3 : (nI 0).toInt = 0 := by decide +kernel
      rw [Int32.lt_iff_toInt_lt] at c ⊢
      rw [h3] at c
      rw [h2]
      omega
  · obtain ⟨k, rfl⟩ : ∃ k, pn = k + 1 := ⟨pn - 1, by omega⟩
    have : nI (k + 1) - nI 1 = nI k := nI_pred k
    rw [this]
    exact zbe_ix p (by omega)
theorem zix_none10 {w : Int32} (h : zix w 10 = none) : w.toInt < 0 ∨ 10 ≤ w.toInt := by
  unfold zix at h
  split at h
  · cases h
  · omega
