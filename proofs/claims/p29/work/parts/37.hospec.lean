/-! what the class's methods do, as functions of its parts -/
def zRotS (hi : Nat → Nat) (k : Nat) : Nat → Nat := fun j => if j < k then hi (j + 1) else hi j
theorem zRotS_0 (hi : Nat → Nat) : zRotS hi 0 = hi := by funext j; unfold zRotS; rw [if_neg (by omega)]
theorem zRotS_s (hi : Nat → Nat) (k : Nat) : va_up (zRotS hi k) k (zRotS hi k (k + 1)) = zRotS hi (k + 1) := by
  funext j
  by_cases h : j = k
  · subst h; rw [va_up_self]; unfold zRotS; rw [if_neg (by omega), if_pos (by omega)]
  · rw [va_up_ne _ _ h]; unfold zRotS
    by_cases h2 : j < k
    · rw [if_pos h2, if_pos (by omega)]
    · rw [if_neg h2, if_neg (by omega)]
theorem zRotS_lt {hi : Nat → Nat} (h : ∀ i, i < 6 → hi i < 6) {k j : Nat} (hk : k ≤ 5) (hj : j < 6) : zRotS hi k j < 6 := by
  unfold zRotS; split
  · exact h _ (by omega)
  · exact h _ hj
def zRmI (hi : Nat → Nat) (kn : Nat) : Nat → Nat := if kn = 6 then va_up (zRotS hi 5) 5 (hi 0) else hi
def zRmJ (hi : Nat → Nat) (kn : Nat) : Nat := if kn = 6 then hi 0 else hi kn
def zRmC (hc : Nat → zCl) (hi : Nat → Nat) (kn : Nat) (c : zCl) : Nat → zCl := va_up hc (zRmJ hi kn) (zCpy (hc (zRmJ hi kn)) c)
def zGaO (c : zCl) (mm : Int32) (d : zOd) : zOd := zOd.mk (zOgF c.wa mm d.og) (zC0 d.pr (zPrT c.st (zOgF c.wa mm d.og)) 8) (lsum (zOgF c.wa mm d.og) 8) (lsum (zOvT c.st (zOgF c.wa mm d.og)) 8) (zOpo c.st (zOgF c.wa mm d.og)) d.pt d.sr
def zCoO (d : zOd) : Int32 := d.vl + d.po
def zShO (c : zCl) (mm : Int32) (d : zOd) : zOd := zOd.mk d.og d.pr d.pc d.vl d.po (zC0 d.pt (zOpt c.wa mm) 6) (zGets d.po (zC0 d.pt (zOpt c.wa mm) 6) d.sr)
def zReO (st : Nat → Int32) (d : zOd) : zOd := zOd.mk d.og (zC0 d.pr (zPrT st d.og) 8) (lsum d.og 8) (lsum (zOvT st d.og) 8) (zOpo st d.og) d.pt d.sr
def zDuO (c : zCl) (mm : Int32) (d : zOd) : Int32 := zCoO (zGaO c mm d) + zDutyC c.st (zGaO c mm d).vl
theorem zCl_eta (c : zCl) : (zCl.mk (c.st) c.dy c.x c.br c.sp c.wa c.ac c.ps c.pp c.pu c.lo c.un c.op c.pi c.cn c.vl c.du c.io c.hp c.hs) = c := rfl
theorem zOd_eta (d : zOd) : zOd.mk d.og d.pr d.pc d.vl d.po d.pt d.sr = d := rfl
def zAbs (v : Int32) : Int32 := if 0 ≤ v then v else 0 - v
def zDsnapC (c : zCl) (m g : Int32) : Int32 ⊕ (Nat × Nat) := zOb (zix m 6) (-100001) fun i => zOb (zix g 8) (-100001) fun j => if zHas (c.br i) j = true then .inl (-100005) else .inr (i, j)
def zSnB (c : zCl) (q : Nat × Nat) : Int32 := c.br q.1 ||| (nI 1 <<< (nI q.2 &&& 31))
def zDfitC (c : zCl) (m g h : Int32) : Int32 ⊕ (Nat × Nat × Nat) := zOb (zix m 6) (-100001) fun i => zOb (zix g 8) (-100001) fun j => zOb (zix h 8) (-100001) fun k => if zHas (c.br i) j = true then (if zAbs (nI k - nI j) ≤ nI 1 then (if c.sp i k = 0 then .inl (-100005) else .inr (i, j, k)) else .inl (-100005)) else .inl (-100005)
def zFiC (c : zCl) (q : Nat × Nat × Nat) : zCl := (zCl.mk c.st c.dy c.x (upd c.br q.1 (c.br q.1 &&& ((nI 1 <<< (nI q.2.1 &&& 31)) ^^^ (-1)))) (va_up c.sp q.1 (upd (c.sp q.1) q.2.2 (c.sp q.1 q.2.2 - nI 1))) c.wa c.ac c.ps c.pp c.pu c.lo c.un c.op c.pi c.cn c.vl c.du c.io c.hp c.hs)
def zWaC (c : zCl) (v : Int32) (q : Nat × Nat) : zCl := (zCl.mk c.st c.dy c.x c.br c.sp (va_up c.wa q.1 (upd (c.wa q.1) q.2 v)) c.ac c.ps c.pp c.pu c.lo c.un c.op c.pi c.cn c.vl c.du c.io c.hp c.hs)
def zDread (sg : Nat → Int32) (n : Nat) : Int32 ⊕ Unit := if zFx sg n = -100006 then .inr () else .inl (-100003)
def zRdC (c : zCl) (sg : Nat → Int32) (n : Nat) : zCl := (zCl.mk c.st c.dy c.x c.br c.sp (zAdW c.wa sg n) c.ac c.ps c.pp c.pu c.lo c.un c.op c.pi c.cn c.vl c.du c.io c.hp c.hs)
theorem zFxF_ok {f : Nat → Int32} {n : Nat} : ∀ {m k : Nat}, n < 2 ^ 31 → m = n - k → zFxF f n m k = -100006 → ∀ j, k ≤ j → j < n → (zPlA (zPn f j) (f j)).isSome = true
  | 0, k, _, hm, _, j, h1, h2 => by omega
  | m + 1, k, hn, hm, h, j, h1, h2 => by
    unfold zFxF at h
    split at h
    · rename_i hs
      rcases Nat.eq_or_lt_of_le h1 with e | e
      · subst e; exact hs
      · exact zFxF_ok hn (by omega) h j e h2
    · have := congrArg Int32.toInt h
      rw [nI_toInt (by omega)] at this
      have h3 : ((-100006 : Int32)).toInt = -100006 := by decide +kernel
      omega
theorem zFx_ok {f : Nat → Int32} {n : Nat} (hn : n ≤ 60) (h : zFx f n = -100006) : ∀ j, j < n → (zPlA (zPn f j) (f j)).isSome = true := fun j hj => zFxF_ok (m := n) (k := 0) (by omega) rfl h j (Nat.zero_le _) hj
def zPaC (c : zCl) (v : Int32) (i : Nat) : zCl := (zCl.mk c.st c.dy c.x c.br c.sp c.wa (upd c.ac i (c.ac i + v)) c.ps c.pp c.pu c.lo c.un c.op c.pi c.cn c.vl c.du c.io c.hp c.hs)
def zDgiveC (c : zCl) (m o g v : Int32) : Int32 ⊕ (Nat × Nat × Nat) := zOb (zix m 6) (-100001) fun i => zOb (zix o 6) (-100001) fun j => zOb (zix g 8) (-100001) fun k => if i = j then .inl (-100002) else if zbe v (nI 1) (nI 20) = true then (if c.sp i k < v then .inl (-100005) else if c.sp j k + v ≤ nI 99 then .inr (i, j, k) else .inl (-100005)) else .inl (-100002)
def zGvS (c : zCl) (v : Int32) (q : Nat × Nat × Nat) : Nat → Nat → Int32 := va_up (va_up c.sp q.1 (upd (c.sp q.1) q.2.2 (c.sp q.1 q.2.2 - v))) q.2.1 (upd ((va_up c.sp q.1 (upd (c.sp q.1) q.2.2 (c.sp q.1 q.2.2 - v))) q.2.1) q.2.2 ((va_up c.sp q.1 (upd (c.sp q.1) q.2.2 (c.sp q.1 q.2.2 - v))) q.2.1 q.2.2 + v))
def zGvA (c : zCl) (v : Int32) (q : Nat × Nat × Nat) : Nat → Int32 := upd (upd c.ac q.1 (c.ac q.1 + v * nI (10 + 5 * q.2.2))) q.2.1 ((upd c.ac q.1 (c.ac q.1 + v * nI (10 + 5 * q.2.2))) q.2.1 - v * nI (10 + 5 * q.2.2))
def zGvC (c : zCl) (v : Int32) (q : Nat × Nat × Nat) : zCl := (zCl.mk c.st c.dy c.x c.br (zGvS c v q) c.wa (zGvA c v q) c.ps c.pp c.pu c.lo c.un c.op c.pi c.cn c.vl c.du c.io c.hp c.hs)
theorem zix_neg' {v : Int32} {n : Nat} (h : v < 0) : zix v n = none := Option.not_isSome_iff_eq_none.mp (by rw [zixs_neg h]; decide)
theorem zix_ge' {v : Int32} {n : Nat} (hn : n < 2 ^ 31) (h : nI n ≤ v) : zix v n = none := Option.not_isSome_iff_eq_none.mp (by rw [zixs_ge hn h]; decide)
theorem zix_in' {v : Int32} {n : Nat} (hn : n < 2 ^ 31) (h0 : ¬ v < 0) (h : v < nI n) : ∃ i, i < n ∧ v = nI i ∧ zix v n = some i := by
  obtain ⟨i, hi⟩ := Option.isSome_iff_exists.mp (zixs_in hn h0 (Int32.not_le.mpr h))
  obtain ⟨h1, h2⟩ := zix_some hi hn
  exact ⟨i, h1, h2, hi⟩
theorem zRot_k (hi : Nat → Nat) {k : Nat} (h : 1 ≤ k) : va_up (zRotS hi (k - 1)) (k - 1) (zRotS hi (k - 1) k) = zRotS hi (k + 1 - 1) := by
  obtain ⟨j, rfl⟩ : ∃ j, k = j + 1 := ⟨k - 1, by omega⟩
  exact zRotS_s hi j
