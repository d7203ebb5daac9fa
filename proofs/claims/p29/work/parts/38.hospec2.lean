def zDiC (c : zCl) (mm : Int32) (d : zOd) : zCl := (zCl.mk c.st c.dy c.x c.br c.sp (zTab c.wa (zDpW c.wa mm) 6) (zC0 c.ac (zDpA c.ac (zGets d.po (zC0 d.pt (zOpt c.wa mm) 6) d.sr) c.wa d.pr mm) 6) (zC0 c.ps (zDpS c.ps c.wa d.pr mm) 6) (zC0 c.pp (zDpP c.pp (zGets d.po (zC0 d.pt (zOpt c.wa mm) 6) d.sr) mm) 6) c.pu c.lo (c.un + 1) c.op c.pi (va_up c.cn (c.pi c.un) (zTab (c.cn (c.pi c.un)) (zDpN c.wa mm) 6)) (va_up c.vl (c.pi c.un) d.vl) (va_up c.du (c.pi c.un) (c.dy + c.st 3)) (va_up c.io (c.pi c.un) false) c.hp c.hs)
def zDsendC (c : zCl) (mm : Int32) (d : zOd) : Int32 ⊕ Unit := if mm = 0 then .inl (-100002) else if zbe mm (nI 0) (nI 63) = true then (if (zGaO c mm d).pc = 0 then .inl (-100005) else if zCoO (zGaO c mm d) ≤ lsum c.ac 6 then (if c.un < 5 then .inr () else .inl (-100004)) else .inl (-100005)) else .inl (-100002)
def zSeO (c : zCl) (mm : Int32) (d : zOd) : zOd := if mm = 0 then d else if zbe mm (nI 0) (nI 63) = true then zU (zDsendC c mm d) (zGaO c mm d) (fun _ => zShO c mm (zGaO c mm d)) else d
theorem zShO_vl (c : zCl) (mm : Int32) (d : zOd) : (zShO c mm d).vl = d.vl := rfl
theorem zShO_po (c : zCl) (mm : Int32) (d : zOd) : (zShO c mm d).po = d.po := rfl
def zDayOk (c : zCl) : Prop := c.un ≤ 5 ∧ (∀ i, i < 5 → c.pi i < 5) ∧ ∀ k, k < c.un → zBdOk (zBdL (zDayC c) k).1 k
def zPs (c : zCl) : Nat → zCl
  | 0 => c
  | k + 1 => zBd (zPs c k)
def zPsH (c : zCl) : Nat → Int32
  | 0 => 0
  | k + 1 => zPsH c k + nI ((zPs c k).un - (zBdL (zDayC (zPs c k)) (zPs c k).un).2)
def zDpass (c : zCl) (v : Int32) : Int32 ⊕ Nat := zOb (zix v 61) (-100002) fun n => if n = 0 then .inl (-100002) else if c.dy + nI n ≤ nI 9999 then .inr n else .inl (-100004)
theorem zDp_lt {c : zCl} {v : Int32} (h : v < nI 1) : zDpass c v = .inl (-100002) := by
  unfold zDpass
  cases hz : zix v 61 with
  | none => rfl
  | some n =>
    obtain ⟨h1, h2⟩ := zix_some hz (by omega)
    have : n = 0 := by
      rw [h2, Int32.lt_iff_toInt_lt, nI_toInt (by omega), nI_toInt (by omega)] at h
      omega
    exact if_pos this
theorem zDp_gt {c : zCl} {v : Int32} (h : nI 60 < v) : zDpass c v = .inl (-100002) := by
  unfold zDpass
  rw [zix_ge' (by omega)]
  · rfl
  · rw [Int32.lt_iff_toInt_lt, nI_toInt (by omega)] at h
    rw [Int32.le_iff_toInt_le, nI_toInt (by omega)]
    omega
theorem zDp_in {v : Int32} (h1 : ¬ v < nI 1) (h2 : v ≤ nI 60) : ∃ n, 1 ≤ n ∧ n ≤ 60 ∧ v = nI n ∧ zix v 61 = some n := by
  rw [Int32.lt_iff_toInt_lt, nI_toInt (by omega)] at h1
  rw [Int32.le_iff_toInt_le, nI_toInt (by omega)] at h2
  obtain ⟨i, hi, e, hz⟩ := zix_in' (v := v) (n := 61) (by omega) (by rw [Int32.lt_iff_toInt_lt]; have : (0 : Int32).toInt = 0 := rfl; omega) (by rw [Int32.lt_iff_toInt_lt, nI_toInt (by omega)]; omega)
  refine ⟨i, ?_, by omega, e, hz⟩
  rw [e, nI_toInt (by omega)] at h1
  omega
def zRmemC (c : zCl) (w : Int32) (i : Nat) : Int32 := zSel (zix w 9) [c.ac i, c.br i, lsum (c.sp i) 8, lsum (c.wa i) 8, lsum (zUwT c.cn c.pi i) c.un, c.ps i, c.pp i, c.pu i, c.lo i]
def zRparC (c : zCl) (w : Int32) (p : Nat) : Int32 := zSel (zix w 5) [zPie (c.cn (c.pi p)), c.vl (c.pi p), zOwC (c.cn (c.pi p)) 6, c.du (c.pi p) - c.dy, if c.io (c.pi p) = true then 1 else 0]
def zRcntC (c : zCl) (kn : Nat) (ln w : Int32) : Int32 := match zix w 9 with
  | some i => c.st i
  | none => match zix w 19 with
    | none => -100002
    | some i => [c.dy, lsum c.ac 6, nI c.un, c.op, lsum c.pu 6, lsum c.lo 6, lsum (zPopT c.br) 6, c.x, ln, nI kn].getD (i - 9) (-100002)
theorem zix_noneN {w : Int32} {n : Nat} (h : zix w n = none) : w.toInt < 0 ∨ (n : Int) ≤ w.toInt := by
  unfold zix at h
  split at h
  · cases h
  · omega
def zRordC (c : zCl) (mm w : Int32) (d : zOd) : Int32 := zSel (zix w 5) [zCoO (zGaO c mm d), (zGaO c mm d).vl, (zGaO c mm d).po, (zGaO c mm d).pc, zDutyC c.st (zGaO c mm d).vl]
def zRshC (c : zCl) (mm : Int32) (d : zOd) (i : Nat) : Int32 := if zHas mm i = true then lsum (zOcT (c.wa i) (zGaO c mm d).pr) 8 + (zShO c mm (zGaO c mm d)).sr i else 0
def zMoO (c : zCl) (v : Int32) (g : Nat) (d : zOd) : zOd := zReO c.st (zOd.mk (upd d.og g (d.og g + v)) d.pr d.pc d.vl d.po d.pt d.sr)
def zPpV (c : zCl) (mm : Int32) (d : zOd) : Int32 := zDuO c mm d + zDuO c (nI 63 - mm) (zGaO c mm d)
def zPpO (c : zCl) (mm : Int32) (d : zOd) : zOd := zGaO c (nI 63 - mm) (zGaO c mm d)
def zBp (c : zCl) (d : zOd) : Nat → Nat × Int32 × zOd
  | 0 => (0, zPpV c (nI 0) d, zPpO c (nI 0) d)
  | k + 1 => if zPpV c (nI (k + 1)) (zBp c d k).2.2 < (zBp c d k).2.1 then (k + 1, zPpV c (nI (k + 1)) (zBp c d k).2.2, zPpO c (nI (k + 1)) (zBp c d k).2.2) else ((zBp c d k).1, (zBp c d k).2.1, zPpO c (nI (k + 1)) (zBp c d k).2.2)
theorem zBp_lt {c : zCl} {d : zOd} {k : Nat} (hk : 1 ≤ k) (h : zPpV c (nI k) (zBp c d (k - 1)).2.2 < (zBp c d (k - 1)).2.1) : zBp c d (k + 1 - 1) = (k, zPpV c (nI k) (zBp c d (k - 1)).2.2, zPpO c (nI k) (zBp c d (k - 1)).2.2) := by
  obtain ⟨j, rfl⟩ : ∃ j, k = j + 1 := ⟨k - 1, by omega⟩
  exact if_pos h
theorem zBp_ge {c : zCl} {d : zOd} {k : Nat} (hk : 1 ≤ k) (h : ¬ zPpV c (nI k) (zBp c d (k - 1)).2.2 < (zBp c d (k - 1)).2.1) : zBp c d (k + 1 - 1) = ((zBp c d (k - 1)).1, (zBp c d (k - 1)).2.1, zPpO c (nI k) (zBp c d (k - 1)).2.2) := by
  obtain ⟨j, rfl⟩ : ∃ j, k = j + 1 := ⟨k - 1, by omega⟩
  exact if_neg h
theorem zBp_le (c : zCl) (d : zOd) : ∀ k, (zBp c d k).1 ≤ k
  | 0 => Nat.le_refl _
  | k + 1 => by
    have := zBp_le c d k
    unfold zBp; split
    · exact Nat.le_refl _
    · exact Nat.le_succ_of_le this
theorem zix_n2 {w : Int32} (h0 : ¬ w = 0) (h1 : ¬ w = nI 1) : zix w 2 = none := by
  cases hz : zix w 2 with
  | none => rfl
  | some i =>
    obtain ⟨h2, h3⟩ := zix_some hz (by omega)
    have : i = 0 ∨ i = 1 := by omega
    rcases this with rfl | rfl
    · exact absurd h3 h0
    · exact absurd h3 h1
def zRstC (c : zCl) (q : Nat × Nat) : Int32 := if zHas (c.br q.1) q.2 = true then (if c.sp q.1 q.2 ≤ 0 then (if q.2 = 0 then (if c.sp q.1 (q.2 + 1) ≤ 0 then -100006 else nI (q.2 + 1)) else if c.sp q.1 (q.2 - 1) ≤ 0 then (if q.2 < 7 then (if c.sp q.1 (q.2 + 1) ≤ 0 then -100006 else nI (q.2 + 1)) else -100006) else nI (q.2 - 1)) else nI q.2) else -100006
def zUhF (c : zCl) : Nat → Nat → Nat
  | 0, k => k
  | n + 1, k => if (zPs c k).un = 0 then k else zUhF c n (k + 1)
theorem zUh_e {c : zCl} {n k : Nat} (h : (zPs c k).un = 0) : zUhF c n k = k := by
  cases n with
  | zero => rfl
  | succ n => exact if_pos h
theorem zUh_go {c : zCl} {n k : Nat} (hn : n = 50 - k) (hk : k < 50) (h : ¬ (zPs c k).un = 0) : zUhF c n k = zUhF c (50 - (k + 1)) (k + 1) := by
  obtain ⟨m, rfl⟩ : ∃ m, n = m + 1 := ⟨n - 1, by omega⟩
  rw [show 50 - (k + 1) = m by omega]
  exact if_neg h
def zDputC (x : Int64) (n : Nat) : Int32 ⊕ Unit := if zCIn x = 0 then .inl (-100002) else if n + zCIn x ≤ 60 then .inr () else .inl (-100004)
theorem zShO_pr (c : zCl) (mm : Int32) (d : zOd) : (zShO c mm d).pr = d.pr := rfl
theorem zCg_le (x : Int64) : ∀ n k, k + n ≤ 8 → zCg x n k ≤ 8
  | 0, k, h => by show zCe x k ≤ 8; unfold zCe; split <;> omega
  | n + 1, k, h => by
    unfold zCg; split
    · unfold zCe; split <;> omega
    · split
      · exact zCg_le x n (k + 1) (by omega)
      · omega
theorem zCIn_le (x : Int64) : zCIn x ≤ 8 := zCg_le x 8 0 (by omega)
