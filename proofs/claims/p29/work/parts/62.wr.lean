/-! the relation but for the sums, and what a single write does -/
def zRA (c : zCl) (s : Nat → Int32) (n : Nat) (ix : Nat → Nat) : Prop := ((∀ i, i < 9 → s i = c.st i) ∧ s 9 = c.dy ∧ s 10 = c.x ∧ s 11 = c.op) ∧ zR2 c s ∧ zR3 c s ∧ ∀ p, p < n → zRp c s p (c.pi (ix p))
theorem zRR_A {c : zCl} {s : Nat → Int32} {n : Nat} {ix : Nat → Nat} (h : zRR c s n ix) : zRA c s n ix := ⟨⟨h.1.1, h.1.2.1, h.1.2.2.1, h.1.2.2.2.1⟩, h.2.2.1, h.2.2.2.1, h.2.2.2.2⟩
theorem zRA_R {c : zCl} {s : Nat → Int32} {n : Nat} {ix : Nat → Nat} (h : zRA c s n ix) (h12 : s 12 = lsum c.pu 6) (h13 : s 13 = lsum c.lo 6) (h14 : s 14 = nI n) : zRR c s n ix := ⟨⟨h.1.1, h.1.2.1, h.1.2.2.1, h.1.2.2.2, h12, h13⟩, h14, h.2.1, h.2.2.1, h.2.2.2⟩
theorem zRw_A {c : zCl} {s : Nat → Int32} {n : Nat} {ix : Nat → Nat} (h : zRA c s n ix) : zRw c s := ⟨h.1.1, fun m hm g hg => (h.2.2.1 m hm g hg).2⟩
section WR
variable {c : zCl} {s : Nat → Int32} {n : Nat} {ix : Nat → Nat}
theorem w_st (h : zRA c s n ix) {i0 : Nat} (h0 : i0 < 9) (v : Int32) : zRA (zCl.mk (upd c.st i0 v) c.dy c.x c.br c.sp c.wa c.ac c.ps c.pp c.pu c.lo c.un c.op c.pi c.cn c.vl c.du c.io c.hp c.hs) (upd s (i0) (v)) n ix := by
  obtain ⟨⟨h1, h1a, h1b, h1c⟩, h2, h3, h4⟩ := h
  refine ⟨⟨fun i hi => ?_, ?_, ?_, ?_⟩, fun k hk => ?_, fun k hk g hg => ?_, fun p hp => ?_⟩
  · show _ = upd c.st i0 v i
    by_cases q : i = i0
    · subst q; rw [pk_us, pk_us]
    · rw [pk_un q, pk_un q]; exact h1 i hi
  · rw [pk_un (by omega)]; exact h1a
  · rw [pk_un (by omega)]; exact h1b
  · rw [pk_un (by omega)]; exact h1c
  · obtain ⟨a0, a1, a2, a3, a4, a5⟩ := h2 k hk
    refine ⟨?_, ?_, ?_, ?_, ?_, ?_⟩
    · rw [pk_un (by omega)]; exact a0
    · rw [pk_un (by omega)]; exact a1
    · rw [pk_un (by omega)]; exact a2
    · rw [pk_un (by omega)]; exact a3
    · rw [pk_un (by omega)]; exact a4
    · rw [pk_un (by omega)]; exact a5
  · obtain ⟨a0, a1⟩ := h3 k hk g hg
    refine ⟨?_, ?_⟩
    · rw [pk_un (by omega)]; exact a0
    · rw [pk_un (by omega)]; exact a1
  · obtain ⟨a0, a1, a2, a3⟩ := h4 p hp
    refine ⟨?_, ?_, ?_, fun m hm g hg => ?_⟩
    · rw [pk_un (by omega)]; exact a0
    · rw [pk_un (by omega)]; exact a1
    · rw [pk_un (by omega)]; exact a2
    · rw [pk_un (by omega)]; exact a3 m hm g hg
theorem w_dy (h : zRA c s n ix)  (v : Int32) : zRA (zCl.mk c.st (v) c.x c.br c.sp c.wa c.ac c.ps c.pp c.pu c.lo c.un c.op c.pi c.cn c.vl c.du c.io c.hp c.hs) (upd s (9) (v)) n ix := by
  obtain ⟨⟨h1, h1a, h1b, h1c⟩, h2, h3, h4⟩ := h
  refine ⟨⟨fun i hi => ?_, ?_, ?_, ?_⟩, fun k hk => ?_, fun k hk g hg => ?_, fun p hp => ?_⟩
  · rw [pk_un (by omega)]; exact h1 i hi
  · exact pk_us
  · rw [pk_un (by omega)]; exact h1b
  · rw [pk_un (by omega)]; exact h1c
  · obtain ⟨a0, a1, a2, a3, a4, a5⟩ := h2 k hk
    refine ⟨?_, ?_, ?_, ?_, ?_, ?_⟩
    · rw [pk_un (by omega)]; exact a0
    · rw [pk_un (by omega)]; exact a1
    · rw [pk_un (by omega)]; exact a2
    · rw [pk_un (by omega)]; exact a3
    · rw [pk_un (by omega)]; exact a4
    · rw [pk_un (by omega)]; exact a5
  · obtain ⟨a0, a1⟩ := h3 k hk g hg
    refine ⟨?_, ?_⟩
    · rw [pk_un (by omega)]; exact a0
    · rw [pk_un (by omega)]; exact a1
  · obtain ⟨a0, a1, a2, a3⟩ := h4 p hp
    refine ⟨?_, ?_, ?_, fun m hm g hg => ?_⟩
    · rw [pk_un (by omega)]; exact a0
    · rw [pk_un (by omega)]; exact a1
    · rw [pk_un (by omega)]; exact a2
    · rw [pk_un (by omega)]; exact a3 m hm g hg
theorem w_x (h : zRA c s n ix)  (v : Int32) : zRA (zCl.mk c.st c.dy (v) c.br c.sp c.wa c.ac c.ps c.pp c.pu c.lo c.un c.op c.pi c.cn c.vl c.du c.io c.hp c.hs) (upd s (10) (v)) n ix := by
  obtain ⟨⟨h1, h1a, h1b, h1c⟩, h2, h3, h4⟩ := h
  refine ⟨⟨fun i hi => ?_, ?_, ?_, ?_⟩, fun k hk => ?_, fun k hk g hg => ?_, fun p hp => ?_⟩
  · rw [pk_un (by omega)]; exact h1 i hi
  · rw [pk_un (by omega)]; exact h1a
  · exact pk_us
  · rw [pk_un (by omega)]; exact h1c
  · obtain ⟨a0, a1, a2, a3, a4, a5⟩ := h2 k hk
    refine ⟨?_, ?_, ?_, ?_, ?_, ?_⟩
    · rw [pk_un (by omega)]; exact a0
    · rw [pk_un (by omega)]; exact a1
    · rw [pk_un (by omega)]; exact a2
    · rw [pk_un (by omega)]; exact a3
    · rw [pk_un (by omega)]; exact a4
    · rw [pk_un (by omega)]; exact a5
  · obtain ⟨a0, a1⟩ := h3 k hk g hg
    refine ⟨?_, ?_⟩
    · rw [pk_un (by omega)]; exact a0
    · rw [pk_un (by omega)]; exact a1
  · obtain ⟨a0, a1, a2, a3⟩ := h4 p hp
    refine ⟨?_, ?_, ?_, fun m hm g hg => ?_⟩
    · rw [pk_un (by omega)]; exact a0
    · rw [pk_un (by omega)]; exact a1
    · rw [pk_un (by omega)]; exact a2
    · rw [pk_un (by omega)]; exact a3 m hm g hg
theorem w_op (h : zRA c s n ix)  (v : Int32) : zRA (zCl.mk c.st c.dy c.x c.br c.sp c.wa c.ac c.ps c.pp c.pu c.lo c.un (v) c.pi c.cn c.vl c.du c.io c.hp c.hs) (upd s (11) (v)) n ix := by
  obtain ⟨⟨h1, h1a, h1b, h1c⟩, h2, h3, h4⟩ := h
  refine ⟨⟨fun i hi => ?_, ?_, ?_, ?_⟩, fun k hk => ?_, fun k hk g hg => ?_, fun p hp => ?_⟩
  · rw [pk_un (by omega)]; exact h1 i hi
  · rw [pk_un (by omega)]; exact h1a
  · rw [pk_un (by omega)]; exact h1b
  · exact pk_us
  · obtain ⟨a0, a1, a2, a3, a4, a5⟩ := h2 k hk
    refine ⟨?_, ?_, ?_, ?_, ?_, ?_⟩
    · rw [pk_un (by omega)]; exact a0
    · rw [pk_un (by omega)]; exact a1
    · rw [pk_un (by omega)]; exact a2
    · rw [pk_un (by omega)]; exact a3
    · rw [pk_un (by omega)]; exact a4
    · rw [pk_un (by omega)]; exact a5
  · obtain ⟨a0, a1⟩ := h3 k hk g hg
    refine ⟨?_, ?_⟩
    · rw [pk_un (by omega)]; exact a0
    · rw [pk_un (by omega)]; exact a1
  · obtain ⟨a0, a1, a2, a3⟩ := h4 p hp
    refine ⟨?_, ?_, ?_, fun m hm g hg => ?_⟩
    · rw [pk_un (by omega)]; exact a0
    · rw [pk_un (by omega)]; exact a1
    · rw [pk_un (by omega)]; exact a2
    · rw [pk_un (by omega)]; exact a3 m hm g hg
theorem w_ac (h : zRA c s n ix) {m0 : Nat} (h0 : m0 < 6) (v : Int32) : zRA (zCl.mk c.st c.dy c.x c.br c.sp c.wa (upd c.ac m0 v) c.ps c.pp c.pu c.lo c.un c.op c.pi c.cn c.vl c.du c.io c.hp c.hs) (upd s (15 + 22 * m0 + 0) (v)) n ix := by
  obtain ⟨⟨h1, h1a, h1b, h1c⟩, h2, h3, h4⟩ := h
  refine ⟨⟨fun i hi => ?_, ?_, ?_, ?_⟩, fun k hk => ?_, fun k hk g hg => ?_, fun p hp => ?_⟩
  · rw [pk_un (by omega)]; exact h1 i hi
  · rw [pk_un (by omega)]; exact h1a
  · rw [pk_un (by omega)]; exact h1b
  · rw [pk_un (by omega)]; exact h1c
  · obtain ⟨a0, a1, a2, a3, a4, a5⟩ := h2 k hk
    refine ⟨?_, ?_, ?_, ?_, ?_, ?_⟩
    · show _ = upd c.ac m0 v k
      by_cases q : k = m0
      · subst q; rw [pk_us, pk_us]
      · rw [pk_un (by omega), pk_un q]; exact a0
    · rw [pk_un (by omega)]; exact a1
    · rw [pk_un (by omega)]; exact a2
    · rw [pk_un (by omega)]; exact a3
    · rw [pk_un (by omega)]; exact a4
    · rw [pk_un (by omega)]; exact a5
  · obtain ⟨a0, a1⟩ := h3 k hk g hg
    refine ⟨?_, ?_⟩
    · rw [pk_un (by omega)]; exact a0
    · rw [pk_un (by omega)]; exact a1
  · obtain ⟨a0, a1, a2, a3⟩ := h4 p hp
    refine ⟨?_, ?_, ?_, fun m hm g hg => ?_⟩
    · rw [pk_un (by omega)]; exact a0
    · rw [pk_un (by omega)]; exact a1
    · rw [pk_un (by omega)]; exact a2
    · rw [pk_un (by omega)]; exact a3 m hm g hg
theorem w_br (h : zRA c s n ix) {m0 : Nat} (h0 : m0 < 6) (v : Int32) : zRA (zCl.mk c.st c.dy c.x (upd c.br m0 v) c.sp c.wa c.ac c.ps c.pp c.pu c.lo c.un c.op c.pi c.cn c.vl c.du c.io c.hp c.hs) (upd s (15 + 22 * m0 + 1) (v)) n ix := by
  obtain ⟨⟨h1, h1a, h1b, h1c⟩, h2, h3, h4⟩ := h
  refine ⟨⟨fun i hi => ?_, ?_, ?_, ?_⟩, fun k hk => ?_, fun k hk g hg => ?_, fun p hp => ?_⟩
  · rw [pk_un (by omega)]; exact h1 i hi
  · rw [pk_un (by omega)]; exact h1a
  · rw [pk_un (by omega)]; exact h1b
  · rw [pk_un (by omega)]; exact h1c
  · obtain ⟨a0, a1, a2, a3, a4, a5⟩ := h2 k hk
    refine ⟨?_, ?_, ?_, ?_, ?_, ?_⟩
    · rw [pk_un (by omega)]; exact a0
    · show _ = upd c.br m0 v k
      by_cases q : k = m0
      · subst q; rw [pk_us, pk_us]
      · rw [pk_un (by omega), pk_un q]; exact a1
    · rw [pk_un (by omega)]; exact a2
    · rw [pk_un (by omega)]; exact a3
    · rw [pk_un (by omega)]; exact a4
    · rw [pk_un (by omega)]; exact a5
  · obtain ⟨a0, a1⟩ := h3 k hk g hg
    refine ⟨?_, ?_⟩
    · rw [pk_un (by omega)]; exact a0
    · rw [pk_un (by omega)]; exact a1
  · obtain ⟨a0, a1, a2, a3⟩ := h4 p hp
    refine ⟨?_, ?_, ?_, fun m hm g hg => ?_⟩
    · rw [pk_un (by omega)]; exact a0
    · rw [pk_un (by omega)]; exact a1
    · rw [pk_un (by omega)]; exact a2
    · rw [pk_un (by omega)]; exact a3 m hm g hg
theorem w_ps (h : zRA c s n ix) {m0 : Nat} (h0 : m0 < 6) (v : Int32) : zRA (zCl.mk c.st c.dy c.x c.br c.sp c.wa c.ac (upd c.ps m0 v) c.pp c.pu c.lo c.un c.op c.pi c.cn c.vl c.du c.io c.hp c.hs) (upd s (15 + 22 * m0 + 2) (v)) n ix := by
  obtain ⟨⟨h1, h1a, h1b, h1c⟩, h2, h3, h4⟩ := h
  refine ⟨⟨fun i hi => ?_, ?_, ?_, ?_⟩, fun k hk => ?_, fun k hk g hg => ?_, fun p hp => ?_⟩
  · rw [pk_un (by omega)]; exact h1 i hi
  · rw [pk_un (by omega)]; exact h1a
  · rw [pk_un (by omega)]; exact h1b
  · rw [pk_un (by omega)]; exact h1c
  · obtain ⟨a0, a1, a2, a3, a4, a5⟩ := h2 k hk
    refine ⟨?_, ?_, ?_, ?_, ?_, ?_⟩
    · rw [pk_un (by omega)]; exact a0
    · rw [pk_un (by omega)]; exact a1
    · show _ = upd c.ps m0 v k
      by_cases q : k = m0
      · subst q; rw [pk_us, pk_us]
      · rw [pk_un (by omega), pk_un q]; exact a2
    · rw [pk_un (by omega)]; exact a3
    · rw [pk_un (by omega)]; exact a4
    · rw [pk_un (by omega)]; exact a5
  · obtain ⟨a0, a1⟩ := h3 k hk g hg
    refine ⟨?_, ?_⟩
    · rw [pk_un (by omega)]; exact a0
    · rw [pk_un (by omega)]; exact a1
  · obtain ⟨a0, a1, a2, a3⟩ := h4 p hp
    refine ⟨?_, ?_, ?_, fun m hm g hg => ?_⟩
    · rw [pk_un (by omega)]; exact a0
    · rw [pk_un (by omega)]; exact a1
    · rw [pk_un (by omega)]; exact a2
    · rw [pk_un (by omega)]; exact a3 m hm g hg
theorem w_pp (h : zRA c s n ix) {m0 : Nat} (h0 : m0 < 6) (v : Int32) : zRA (zCl.mk c.st c.dy c.x c.br c.sp c.wa c.ac c.ps (upd c.pp m0 v) c.pu c.lo c.un c.op c.pi c.cn c.vl c.du c.io c.hp c.hs) (upd s (15 + 22 * m0 + 3) (v)) n ix := by
  obtain ⟨⟨h1, h1a, h1b, h1c⟩, h2, h3, h4⟩ := h
  refine ⟨⟨fun i hi => ?_, ?_, ?_, ?_⟩, fun k hk => ?_, fun k hk g hg => ?_, fun p hp => ?_⟩
  · rw [pk_un (by omega)]; exact h1 i hi
  · rw [pk_un (by omega)]; exact h1a
  · rw [pk_un (by omega)]; exact h1b
  · rw [pk_un (by omega)]; exact h1c
  · obtain ⟨a0, a1, a2, a3, a4, a5⟩ := h2 k hk
    refine ⟨?_, ?_, ?_, ?_, ?_, ?_⟩
    · rw [pk_un (by omega)]; exact a0
    · rw [pk_un (by omega)]; exact a1
    · rw [pk_un (by omega)]; exact a2
    · show _ = upd c.pp m0 v k
      by_cases q : k = m0
      · subst q; rw [pk_us, pk_us]
      · rw [pk_un (by omega), pk_un q]; exact a3
    · rw [pk_un (by omega)]; exact a4
    · rw [pk_un (by omega)]; exact a5
  · obtain ⟨a0, a1⟩ := h3 k hk g hg
    refine ⟨?_, ?_⟩
    · rw [pk_un (by omega)]; exact a0
    · rw [pk_un (by omega)]; exact a1
  · obtain ⟨a0, a1, a2, a3⟩ := h4 p hp
    refine ⟨?_, ?_, ?_, fun m hm g hg => ?_⟩
    · rw [pk_un (by omega)]; exact a0
    · rw [pk_un (by omega)]; exact a1
    · rw [pk_un (by omega)]; exact a2
    · rw [pk_un (by omega)]; exact a3 m hm g hg
theorem w_pu (h : zRA c s n ix) {m0 : Nat} (h0 : m0 < 6) (v : Int32) : zRA (zCl.mk c.st c.dy c.x c.br c.sp c.wa c.ac c.ps c.pp (upd c.pu m0 v) c.lo c.un c.op c.pi c.cn c.vl c.du c.io c.hp c.hs) (upd s (15 + 22 * m0 + 4) (v)) n ix := by
  obtain ⟨⟨h1, h1a, h1b, h1c⟩, h2, h3, h4⟩ := h
  refine ⟨⟨fun i hi => ?_, ?_, ?_, ?_⟩, fun k hk => ?_, fun k hk g hg => ?_, fun p hp => ?_⟩
  · rw [pk_un (by omega)]; exact h1 i hi
  · rw [pk_un (by omega)]; exact h1a
  · rw [pk_un (by omega)]; exact h1b
  · rw [pk_un (by omega)]; exact h1c
  · obtain ⟨a0, a1, a2, a3, a4, a5⟩ := h2 k hk
    refine ⟨?_, ?_, ?_, ?_, ?_, ?_⟩
    · rw [pk_un (by omega)]; exact a0
    · rw [pk_un (by omega)]; exact a1
    · rw [pk_un (by omega)]; exact a2
    · rw [pk_un (by omega)]; exact a3
    · show _ = upd c.pu m0 v k
      by_cases q : k = m0
      · subst q; rw [pk_us, pk_us]
      · rw [pk_un (by omega), pk_un q]; exact a4
    · rw [pk_un (by omega)]; exact a5
  · obtain ⟨a0, a1⟩ := h3 k hk g hg
    refine ⟨?_, ?_⟩
    · rw [pk_un (by omega)]; exact a0
    · rw [pk_un (by omega)]; exact a1
  · obtain ⟨a0, a1, a2, a3⟩ := h4 p hp
    refine ⟨?_, ?_, ?_, fun m hm g hg => ?_⟩
    · rw [pk_un (by omega)]; exact a0
    · rw [pk_un (by omega)]; exact a1
    · rw [pk_un (by omega)]; exact a2
    · rw [pk_un (by omega)]; exact a3 m hm g hg
theorem w_lo (h : zRA c s n ix) {m0 : Nat} (h0 : m0 < 6) (v : Int32) : zRA (zCl.mk c.st c.dy c.x c.br c.sp c.wa c.ac c.ps c.pp c.pu (upd c.lo m0 v) c.un c.op c.pi c.cn c.vl c.du c.io c.hp c.hs) (upd s (15 + 22 * m0 + 5) (v)) n ix := by
  obtain ⟨⟨h1, h1a, h1b, h1c⟩, h2, h3, h4⟩ := h
  refine ⟨⟨fun i hi => ?_, ?_, ?_, ?_⟩, fun k hk => ?_, fun k hk g hg => ?_, fun p hp => ?_⟩
  · rw [pk_un (by omega)]; exact h1 i hi
  · rw [pk_un (by omega)]; exact h1a
  · rw [pk_un (by omega)]; exact h1b
  · rw [pk_un (by omega)]; exact h1c
  · obtain ⟨a0, a1, a2, a3, a4, a5⟩ := h2 k hk
    refine ⟨?_, ?_, ?_, ?_, ?_, ?_⟩
    · rw [pk_un (by omega)]; exact a0
    · rw [pk_un (by omega)]; exact a1
    · rw [pk_un (by omega)]; exact a2
    · rw [pk_un (by omega)]; exact a3
    · rw [pk_un (by omega)]; exact a4
    · show _ = upd c.lo m0 v k
      by_cases q : k = m0
      · subst q; rw [pk_us, pk_us]
      · rw [pk_un (by omega), pk_un q]; exact a5
  · obtain ⟨a0, a1⟩ := h3 k hk g hg
    refine ⟨?_, ?_⟩
    · rw [pk_un (by omega)]; exact a0
    · rw [pk_un (by omega)]; exact a1
  · obtain ⟨a0, a1, a2, a3⟩ := h4 p hp
    refine ⟨?_, ?_, ?_, fun m hm g hg => ?_⟩
    · rw [pk_un (by omega)]; exact a0
    · rw [pk_un (by omega)]; exact a1
    · rw [pk_un (by omega)]; exact a2
    · rw [pk_un (by omega)]; exact a3 m hm g hg
theorem w_sp (h : zRA c s n ix) {m0 g0 : Nat} (h0 : m0 < 6) (g0h : g0 < 8) (v : Int32) : zRA (zCl.mk c.st c.dy c.x c.br (va_up c.sp m0 (upd (c.sp m0) g0 v)) c.wa c.ac c.ps c.pp c.pu c.lo c.un c.op c.pi c.cn c.vl c.du c.io c.hp c.hs) (upd s (15 + 22 * m0 + (6 + g0)) (v)) n ix := by
  obtain ⟨⟨h1, h1a, h1b, h1c⟩, h2, h3, h4⟩ := h
  refine ⟨⟨fun i hi => ?_, ?_, ?_, ?_⟩, fun k hk => ?_, fun k hk g hg => ?_, fun p hp => ?_⟩
  · rw [pk_un (by omega)]; exact h1 i hi
  · rw [pk_un (by omega)]; exact h1a
  · rw [pk_un (by omega)]; exact h1b
  · rw [pk_un (by omega)]; exact h1c
  · obtain ⟨a0, a1, a2, a3, a4, a5⟩ := h2 k hk
    refine ⟨?_, ?_, ?_, ?_, ?_, ?_⟩
    · rw [pk_un (by omega)]; exact a0
    · rw [pk_un (by omega)]; exact a1
    · rw [pk_un (by omega)]; exact a2
    · rw [pk_un (by omega)]; exact a3
    · rw [pk_un (by omega)]; exact a4
    · rw [pk_un (by omega)]; exact a5
  · obtain ⟨a0, a1⟩ := h3 k hk g hg
    refine ⟨?_, ?_⟩
    · show _ = va_up c.sp m0 (upd (c.sp m0) g0 v) k g
      by_cases q : k = m0
      · subst q; rw [va_up_self]
        by_cases r : g = g0
        · subst r; rw [pk_us, pk_us]
        · rw [pk_un (by omega), pk_un r]; exact a0
      · rw [pk_un (by omega), va_up_ne _ _ q]; exact a0
    · rw [pk_un (by omega)]; exact a1
  · obtain ⟨a0, a1, a2, a3⟩ := h4 p hp
    refine ⟨?_, ?_, ?_, fun m hm g hg => ?_⟩
    · rw [pk_un (by omega)]; exact a0
    · rw [pk_un (by omega)]; exact a1
    · rw [pk_un (by omega)]; exact a2
    · rw [pk_un (by omega)]; exact a3 m hm g hg
theorem w_wa (h : zRA c s n ix) {m0 g0 : Nat} (h0 : m0 < 6) (g0h : g0 < 8) (v : Int32) : zRA (zCl.mk c.st c.dy c.x c.br c.sp (va_up c.wa m0 (upd (c.wa m0) g0 v)) c.ac c.ps c.pp c.pu c.lo c.un c.op c.pi c.cn c.vl c.du c.io c.hp c.hs) (upd s (15 + 22 * m0 + (14 + g0)) (v)) n ix := by
  obtain ⟨⟨h1, h1a, h1b, h1c⟩, h2, h3, h4⟩ := h
  refine ⟨⟨fun i hi => ?_, ?_, ?_, ?_⟩, fun k hk => ?_, fun k hk g hg => ?_, fun p hp => ?_⟩
  · rw [pk_un (by omega)]; exact h1 i hi
  · rw [pk_un (by omega)]; exact h1a
  · rw [pk_un (by omega)]; exact h1b
  · rw [pk_un (by omega)]; exact h1c
  · obtain ⟨a0, a1, a2, a3, a4, a5⟩ := h2 k hk
    refine ⟨?_, ?_, ?_, ?_, ?_, ?_⟩
    · rw [pk_un (by omega)]; exact a0
    · rw [pk_un (by omega)]; exact a1
    · rw [pk_un (by omega)]; exact a2
    · rw [pk_un (by omega)]; exact a3
    · rw [pk_un (by omega)]; exact a4
    · rw [pk_un (by omega)]; exact a5
  · obtain ⟨a0, a1⟩ := h3 k hk g hg
    refine ⟨?_, ?_⟩
    · rw [pk_un (by omega)]; exact a0
    · show _ = va_up c.wa m0 (upd (c.wa m0) g0 v) k g
      by_cases q : k = m0
      · subst q; rw [va_up_self]
        by_cases r : g = g0
        · subst r; rw [pk_us, pk_us]
        · rw [pk_un (by omega), pk_un r]; exact a1
      · rw [pk_un (by omega), va_up_ne _ _ q]; exact a1
  · obtain ⟨a0, a1, a2, a3⟩ := h4 p hp
    refine ⟨?_, ?_, ?_, fun m hm g hg => ?_⟩
    · rw [pk_un (by omega)]; exact a0
    · rw [pk_un (by omega)]; exact a1
    · rw [pk_un (by omega)]; exact a2
    · rw [pk_un (by omega)]; exact a3 m hm g hg
theorem w_vl (h : zRA c s n ix) {p0 : Nat} (hp0 : p0 < n) (hj : ∀ q, q < n → c.pi (ix q) = c.pi (ix p0) → q = p0) (v : Int32) : zRA (zCl.mk c.st c.dy c.x c.br c.sp c.wa c.ac c.ps c.pp c.pu c.lo c.un c.op c.pi c.cn (va_up c.vl (c.pi (ix p0)) v) c.du c.io c.hp c.hs) (upd s (147 + 51 * p0 + 0) (v)) n ix := by
  obtain ⟨⟨h1, h1a, h1b, h1c⟩, h2, h3, h4⟩ := h
  refine ⟨⟨fun i hi => ?_, ?_, ?_, ?_⟩, fun k hk => ?_, fun k hk g hg => ?_, fun p hp => ?_⟩
  · rw [pk_un (by omega)]; exact h1 i hi
  · rw [pk_un (by omega)]; exact h1a
  · rw [pk_un (by omega)]; exact h1b
  · rw [pk_un (by omega)]; exact h1c
  · obtain ⟨a0, a1, a2, a3, a4, a5⟩ := h2 k hk
    refine ⟨?_, ?_, ?_, ?_, ?_, ?_⟩
    · rw [pk_un (by omega)]; exact a0
    · rw [pk_un (by omega)]; exact a1
    · rw [pk_un (by omega)]; exact a2
    · rw [pk_un (by omega)]; exact a3
    · rw [pk_un (by omega)]; exact a4
    · rw [pk_un (by omega)]; exact a5
  · obtain ⟨a0, a1⟩ := h3 k hk g hg
    refine ⟨?_, ?_⟩
    · rw [pk_un (by omega)]; exact a0
    · rw [pk_un (by omega)]; exact a1
  · obtain ⟨a0, a1, a2, a3⟩ := h4 p hp
    refine ⟨?_, ?_, ?_, fun m hm g hg => ?_⟩
    · show _ = va_up c.vl (c.pi (ix p0)) v (c.pi (ix p))
      by_cases q : p = p0
      · subst q; rw [pk_us, va_up_self]
      · rw [pk_un (by omega), va_up_ne _ _ (fun z => q (hj p hp z))]; exact a0
    · rw [pk_un (by rcases Nat.lt_trichotomy p p0 with z | z | z <;> omega)]; exact a1
    · rw [pk_un (by rcases Nat.lt_trichotomy p p0 with z | z | z <;> omega)]; exact a2
    · rw [pk_un (by rcases Nat.lt_trichotomy p p0 with z | z | z <;> omega)]; exact a3 m hm g hg
theorem w_du (h : zRA c s n ix) {p0 : Nat} (hp0 : p0 < n) (hj : ∀ q, q < n → c.pi (ix q) = c.pi (ix p0) → q = p0) (v : Int32) : zRA (zCl.mk c.st c.dy c.x c.br c.sp c.wa c.ac c.ps c.pp c.pu c.lo c.un c.op c.pi c.cn c.vl (va_up c.du (c.pi (ix p0)) v) c.io c.hp c.hs) (upd s (147 + 51 * p0 + 1) (v)) n ix := by
  obtain ⟨⟨h1, h1a, h1b, h1c⟩, h2, h3, h4⟩ := h
  refine ⟨⟨fun i hi => ?_, ?_, ?_, ?_⟩, fun k hk => ?_, fun k hk g hg => ?_, fun p hp => ?_⟩
  · rw [pk_un (by omega)]; exact h1 i hi
  · rw [pk_un (by omega)]; exact h1a
  · rw [pk_un (by omega)]; exact h1b
  · rw [pk_un (by omega)]; exact h1c
  · obtain ⟨a0, a1, a2, a3, a4, a5⟩ := h2 k hk
    refine ⟨?_, ?_, ?_, ?_, ?_, ?_⟩
    · rw [pk_un (by omega)]; exact a0
    · rw [pk_un (by omega)]; exact a1
    · rw [pk_un (by omega)]; exact a2
    · rw [pk_un (by omega)]; exact a3
    · rw [pk_un (by omega)]; exact a4
    · rw [pk_un (by omega)]; exact a5
  · obtain ⟨a0, a1⟩ := h3 k hk g hg
    refine ⟨?_, ?_⟩
    · rw [pk_un (by omega)]; exact a0
    · rw [pk_un (by omega)]; exact a1
  · obtain ⟨a0, a1, a2, a3⟩ := h4 p hp
    refine ⟨?_, ?_, ?_, fun m hm g hg => ?_⟩
    · rw [pk_un (by rcases Nat.lt_trichotomy p p0 with z | z | z <;> omega)]; exact a0
    · show _ = va_up c.du (c.pi (ix p0)) v (c.pi (ix p))
      by_cases q : p = p0
      · subst q; rw [pk_us, va_up_self]
      · rw [pk_un (by omega), va_up_ne _ _ (fun z => q (hj p hp z))]; exact a1
    · rw [pk_un (by rcases Nat.lt_trichotomy p p0 with z | z | z <;> omega)]; exact a2
    · rw [pk_un (by rcases Nat.lt_trichotomy p p0 with z | z | z <;> omega)]; exact a3 m hm g hg
theorem w_io (h : zRA c s n ix) {p0 : Nat} (hp0 : p0 < n) (hj : ∀ q, q < n → c.pi (ix q) = c.pi (ix p0) → q = p0) (v : Bool) : zRA (zCl.mk c.st c.dy c.x c.br c.sp c.wa c.ac c.ps c.pp c.pu c.lo c.un c.op c.pi c.cn c.vl c.du (va_up c.io (c.pi (ix p0)) v) c.hp c.hs) (upd s (147 + 51 * p0 + 2) (zb v)) n ix := by
  obtain ⟨⟨h1, h1a, h1b, h1c⟩, h2, h3, h4⟩ := h
  refine ⟨⟨fun i hi => ?_, ?_, ?_, ?_⟩, fun k hk => ?_, fun k hk g hg => ?_, fun p hp => ?_⟩
  · rw [pk_un (by omega)]; exact h1 i hi
  · rw [pk_un (by omega)]; exact h1a
  · rw [pk_un (by omega)]; exact h1b
  · rw [pk_un (by omega)]; exact h1c
  · obtain ⟨a0, a1, a2, a3, a4, a5⟩ := h2 k hk
    refine ⟨?_, ?_, ?_, ?_, ?_, ?_⟩
    · rw [pk_un (by omega)]; exact a0
    · rw [pk_un (by omega)]; exact a1
    · rw [pk_un (by omega)]; exact a2
    · rw [pk_un (by omega)]; exact a3
    · rw [pk_un (by omega)]; exact a4
    · rw [pk_un (by omega)]; exact a5
  · obtain ⟨a0, a1⟩ := h3 k hk g hg
    refine ⟨?_, ?_⟩
    · rw [pk_un (by omega)]; exact a0
    · rw [pk_un (by omega)]; exact a1
  · obtain ⟨a0, a1, a2, a3⟩ := h4 p hp
    refine ⟨?_, ?_, ?_, fun m hm g hg => ?_⟩
    · rw [pk_un (by rcases Nat.lt_trichotomy p p0 with z | z | z <;> omega)]; exact a0
    · rw [pk_un (by rcases Nat.lt_trichotomy p p0 with z | z | z <;> omega)]; exact a1
    · show _ = zb (va_up c.io (c.pi (ix p0)) v (c.pi (ix p)))
      by_cases q : p = p0
      · subst q; rw [pk_us, va_up_self]
      · rw [pk_un (by omega), va_up_ne _ _ (fun z => q (hj p hp z))]; exact a2
    · rw [pk_un (by rcases Nat.lt_trichotomy p p0 with z | z | z <;> omega)]; exact a3 m hm g hg
theorem w_cn (h : zRA c s n ix) {p0 m0 g0 : Nat} (hp0 : p0 < n) (h0 : m0 < 6) (g0h : g0 < 8) (hj : ∀ q, q < n → c.pi (ix q) = c.pi (ix p0) → q = p0) (v : Int32) : zRA (zCl.mk c.st c.dy c.x c.br c.sp c.wa c.ac c.ps c.pp c.pu c.lo c.un c.op c.pi (va_up c.cn (c.pi (ix p0)) (va_up (c.cn (c.pi (ix p0))) m0 (upd (c.cn (c.pi (ix p0)) m0) g0 v))) c.vl c.du c.io c.hp c.hs) (upd s (147 + 51 * p0 + (3 + 8 * m0 + g0)) (v)) n ix := by
  obtain ⟨⟨h1, h1a, h1b, h1c⟩, h2, h3, h4⟩ := h
  refine ⟨⟨fun i hi => ?_, ?_, ?_, ?_⟩, fun k hk => ?_, fun k hk g hg => ?_, fun p hp => ?_⟩
  · rw [pk_un (by omega)]; exact h1 i hi
  · rw [pk_un (by omega)]; exact h1a
  · rw [pk_un (by omega)]; exact h1b
  · rw [pk_un (by omega)]; exact h1c
  · obtain ⟨a0, a1, a2, a3, a4, a5⟩ := h2 k hk
    refine ⟨?_, ?_, ?_, ?_, ?_, ?_⟩
    · rw [pk_un (by omega)]; exact a0
    · rw [pk_un (by omega)]; exact a1
    · rw [pk_un (by omega)]; exact a2
    · rw [pk_un (by omega)]; exact a3
    · rw [pk_un (by omega)]; exact a4
    · rw [pk_un (by omega)]; exact a5
  · obtain ⟨a0, a1⟩ := h3 k hk g hg
    refine ⟨?_, ?_⟩
    · rw [pk_un (by omega)]; exact a0
    · rw [pk_un (by omega)]; exact a1
  · obtain ⟨a0, a1, a2, a3⟩ := h4 p hp
    refine ⟨?_, ?_, ?_, fun m hm g hg => ?_⟩
    · rw [pk_un (by rcases Nat.lt_trichotomy p p0 with z | z | z <;> omega)]; exact a0
    · rw [pk_un (by rcases Nat.lt_trichotomy p p0 with z | z | z <;> omega)]; exact a1
    · rw [pk_un (by rcases Nat.lt_trichotomy p p0 with z | z | z <;> omega)]; exact a2
    · show _ = va_up c.cn (c.pi (ix p0)) (va_up (c.cn (c.pi (ix p0))) m0 (upd (c.cn (c.pi (ix p0)) m0) g0 v)) (c.pi (ix p)) m g
      by_cases q : p = p0
      · subst q; rw [va_up_self]
        by_cases r : m = m0
        · subst r; rw [va_up_self]
          by_cases t : g = g0
          · subst t; rw [pk_us, pk_us]
          · rw [pk_un (by omega), pk_un t]; exact a3 m hm g hg
        · rw [pk_un (by omega), va_up_ne _ _ r]; exact a3 m hm g hg
      · rw [pk_un (by omega), va_up_ne _ _ (fun z => q (hj p hp z))]; exact a3 m hm g hg
theorem w_12 (h : zRA c s n ix) (v : Int32) : zRA c (upd s 12 v) n ix := by
  obtain ⟨⟨h1, h1a, h1b, h1c⟩, h2, h3, h4⟩ := h
  refine ⟨⟨fun i hi => ?_, ?_, ?_, ?_⟩, fun k hk => ?_, fun k hk g hg => ?_, fun p hp => ?_⟩
  · rw [pk_un (by omega)]; exact h1 i hi
  · rw [pk_un (by omega)]; exact h1a
  · rw [pk_un (by omega)]; exact h1b
  · rw [pk_un (by omega)]; exact h1c
  · rw [pk_un (by omega), pk_un (by omega), pk_un (by omega), pk_un (by omega), pk_un (by omega), pk_un (by omega)]; exact h2 k hk
  · rw [pk_un (by omega), pk_un (by omega)]; exact h3 k hk g hg
  · obtain ⟨a0, a1, a2, a3⟩ := h4 p hp
    refine ⟨?_, ?_, ?_, fun m hm g hg => ?_⟩
    · rw [pk_un (by omega)]; exact a0
    · rw [pk_un (by omega)]; exact a1
    · rw [pk_un (by omega)]; exact a2
    · rw [pk_un (by omega)]; exact a3 m hm g hg
theorem w_13 (h : zRA c s n ix) (v : Int32) : zRA c (upd s 13 v) n ix := by
  obtain ⟨⟨h1, h1a, h1b, h1c⟩, h2, h3, h4⟩ := h
  refine ⟨⟨fun i hi => ?_, ?_, ?_, ?_⟩, fun k hk => ?_, fun k hk g hg => ?_, fun p hp => ?_⟩
  · rw [pk_un (by omega)]; exact h1 i hi
  · rw [pk_un (by omega)]; exact h1a
  · rw [pk_un (by omega)]; exact h1b
  · rw [pk_un (by omega)]; exact h1c
  · rw [pk_un (by omega), pk_un (by omega), pk_un (by omega), pk_un (by omega), pk_un (by omega), pk_un (by omega)]; exact h2 k hk
  · rw [pk_un (by omega), pk_un (by omega)]; exact h3 k hk g hg
  · obtain ⟨a0, a1, a2, a3⟩ := h4 p hp
    refine ⟨?_, ?_, ?_, fun m hm g hg => ?_⟩
    · rw [pk_un (by omega)]; exact a0
    · rw [pk_un (by omega)]; exact a1
    · rw [pk_un (by omega)]; exact a2
    · rw [pk_un (by omega)]; exact a3 m hm g hg
theorem w_14 (h : zRA c s n ix) (v : Int32) : zRA c (upd s 14 v) n ix := by
  obtain ⟨⟨h1, h1a, h1b, h1c⟩, h2, h3, h4⟩ := h
  refine ⟨⟨fun i hi => ?_, ?_, ?_, ?_⟩, fun k hk => ?_, fun k hk g hg => ?_, fun p hp => ?_⟩
  · rw [pk_un (by omega)]; exact h1 i hi
  · rw [pk_un (by omega)]; exact h1a
  · rw [pk_un (by omega)]; exact h1b
  · rw [pk_un (by omega)]; exact h1c
  · rw [pk_un (by omega), pk_un (by omega), pk_un (by omega), pk_un (by omega), pk_un (by omega), pk_un (by omega)]; exact h2 k hk
  · rw [pk_un (by omega), pk_un (by omega)]; exact h3 k hk g hg
  · obtain ⟨a0, a1, a2, a3⟩ := h4 p hp
    refine ⟨?_, ?_, ?_, fun m hm g hg => ?_⟩
    · rw [pk_un (by omega)]; exact a0
    · rw [pk_un (by omega)]; exact a1
    · rw [pk_un (by omega)]; exact a2
    · rw [pk_un (by omega)]; exact a3 m hm g hg
end WR
