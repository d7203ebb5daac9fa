/-! the law: its script, its end, and what holds at its entry -/
section LR
variable {K : zK} {G : zG} {y : MethodName} {b : ByteArray} {nL : Nat} {R : Room} {ret : Option FieldType} {Q : State → Prop} {cells slots : Nat} {M : zM} {N pc : Nat} {lv : List (Nat × Value)} {st : List Value}
theorem zVS {G : zG} {M : zM} {N : Nat} {H : Heap} {locs : List Loc} (hH : zHd G M N H) (hl : ∀ q ∈ locs, G.2.2.size ≤ q.base) : va_S (fun q => G.2.2.size ≤ q) G.2.2 H locs := ⟨by rw [hH.1]; exact hH.2.2.1, fun q hq _ => hH.2.1 q hq, hl⟩
theorem r_sld (h : zOk K G y b nL R ret) {t L : Nat} {xs : Nat → Int32} (hX : va_X t L xs K.2.2.2.2.1 G.2.2) (hbl : t < G.2.2.size) {i : Nat} (hi : i < L) (hL : L < 2 ^ 31) (hd : decode b pc = .ok (.iaload, 1)) (kk : zW K G nL Q cells slots M N (pc + 1) lv (.int (xs i) :: st)) : zW K G nL Q cells slots M N pc lv (.int (nI i) :: .ref t :: st) := by
  obtain ⟨p, l, e, R0, s, m, args, below, meth, c⟩ := K
  obtain ⟨hx, hb, hml, hown, hK, hR, hret, hlk, hnm⟩ := h
  intro H locs ls hH hlo hl
  dsimp only at hx hb hml hown hK hR hret hlk hnm hX ⊢
  exact va_sld hx hb hX hbl (Nat.not_le.mpr hbl) (zVS hH hlo) (vp_in_nI hi hL) hd (by rw [nI_clamp (by omega)]; exact kk H locs ls hH hlo hl)
theorem r_slen (h : zOk K G y b nL R ret) {t L : Nat} {xs : Nat → Int32} (hX : va_X t L xs K.2.2.2.2.1 G.2.2) (hbl : t < G.2.2.size) (hd : decode b pc = .ok (.arraylength, 1)) (kk : zW K G nL Q cells slots M N (pc + 1) lv (.int (nI L) :: st)) : zW K G nL Q cells slots M N pc lv (.ref t :: st) := by
  obtain ⟨p, l, e, R0, s, m, args, below, meth, c⟩ := K
  obtain ⟨hx, hb, hml, hown, hK, hR, hret, hlk, hnm⟩ := h
  intro H locs ls hH hlo hl
  dsimp only at hx hb hml hown hK hR hret hlk hnm hX ⊢
  exact va_slen hx hb hX hbl (Nat.not_le.mpr hbl) (zVS hH hlo) hd (kk H locs ls hH hlo hl)
end LR
theorem r_lret {p : Program} {l : Launch} {e : Env} {s : State} {m : MethodId} {below : List Frame} {meth : Method} {c : Code} {t : Nat} {G : zG} {nL : Nat} {M : zM} {N pc cells slots : Nat} {lv : List (Nat × Value)} (hG : G.2.2 = s.heap) (hx : p.tables.exec = Jvm.exec) (hb : c.code = code) (hr : meth.sig.returnType = ret) (hlocks : meth.locks = false) (hd : decode code pc = .ok (.ireturn, 1)) (hc : cells ≤ 617210) (hs : slots ≤ 7250618) : zW (p, l, e, room_1, s, m, #[Value.ref t], below, meth, c) G nL (lw_Z below #[Value.ref t] s) cells slots M N pc lv [.int 1] := by
  intro H locs ls hH hlo hl
  exact va_forget (by rw [← hG]; exact hlo) (W.widen hc hs (lw_ret hx hb hr hlocks hd))
theorem zAnd31 (v : Int32) : ∃ k, k < 32 ∧ v &&& nI 31 = nI k := by
  refine ⟨v.toBitVec.toNat % 32, Nat.mod_lt _ (by decide), ?_⟩
  apply Int32.toBitVec_inj.mp
  apply BitVec.eq_of_toNat_eq
  have h1 : (v &&& nI 31).toBitVec.toNat = v.toBitVec.toNat % 32 := by
    rw [Int32.toBitVec_and, BitVec.toNat_and]
    exact Nat.and_two_pow_sub_one_eq_mod _ 5
  have h2 : (nI (v.toBitVec.toNat % 32)).toBitVec.toNat = v.toBitVec.toNat % 32 := by
    have h3 : v.toBitVec.toNat % 32 < 32 := Nat.mod_lt _ (by decide)
    generalize v.toBitVec.toNat % 32 = k at h3
    exact (show ∀ k, k < 32 → (nI k).toBitVec.toNat = k by decide +kernel) k h3
  rw [h1, h2]
/-! what holds at the entry -/
theorem zTb_of {s : State} {args : Array Value} (h : ∀ w ∈ lw_tbl, w.before args s = true) : zTb s := by
  intro w hw hg
  have h1 := h w hw
  cases w with
  | methodLinkNest a i x hh => exact va_tabs rfl rfl h1
  | castable C T => exact va_tabs rfl rfl h1
  | fieldLinkNest a i b n d hh => exact va_tabs rfl rfl h1
  | arrayOver t =>
    cases t with
    | object C => exact va_AO.use (va_AO.of h1)
    | array t => exact zAOA (Vm.Alike.refl s.vm) h1
    | _ => exact word_at (State.WarmedH.refl s) (good_of_word hg) h1
  | _ => exact word_at (State.WarmedH.refl s) (good_of_word hg) h1
theorem zS1_of {G : zG} {s : State} {args : Array Value} {nm : String} {f : Nat → Int32} (hG : G.2.2 = s.heap) (hl : (Cond.laysStatic RX5 nm "[I").before args s = true) (hini : (Cond.initialized RX5).before args s = true) (harr : (Cond.arrayOf (.static RX5 nm "[I") .int).before args s = true) (hlen : (Cond.eq (.length (.static RX5 nm "[I")) (.int 9)).before args s = true) (hel : ∀ j : Nat, j < 9 → (Cond.eq (.elem (.static RX5 nm "[I") (.int (Int32.ofNat j))) (.int (f j))).before args s = true) : zS1 G s nm f := by
  have hA : ∀ a : Nat, a < s.heap.size → ¬ (fun q => G.2.2.size ≤ q) a := fun a ha => by rw [hG]; exact Nat.not_le.mpr ha
  obtain ⟨t, ht, hT⟩ := va_Tof (N := 9) (f := fun j => .int (f j)) (by omega) harr (va_eqt hlen) (fun j hj => va_eqt (hel j hj)) hA
  refine ⟨t, ?_, ?_⟩
  · have := va_Zof hl hini ht hA
    rw [hG]; rw [hG] at this; exact this
  · rw [hG]; rw [hG] at hT; exact hT
theorem zLen_small {args : Array Value} {s : State} {t : Term} {v : Value} {b : Nat} {cell : Cell} (h : (Term.length t).eval args s none [] s = some v) (ht : t.eval args s none [] s = some (.ref b)) (hat : s.arrayAt? b = some cell) : cell.slots.size < 2 ^ 31 := by
  simp only [Term.eval, Option.bind_eq_bind, ht, Option.bind_some, hat] at h
  by_cases hs : cell.slots.size < 2 ^ 31
  · exact hs
  · rw [if_neg hs] at h; cases h
theorem zS2_of {G : zG} {s : State} {args : Array Value} {nm : String} {f : Nat → Int32} (hG : G.2.2 = s.heap) (hl : (Cond.laysStatic RX5 nm "[I").before args s = true) (hini : (Cond.initialized RX5).before args s = true) (harr : (Cond.arrayOf (.static RX5 nm "[I") .int).before args s = true) (hlen : (Cond.eq (.length (.static RX5 nm "[I")) (.int 9)).before args s = true) (hel : ∀ j : Nat, j < 9 → (Cond.eq (.elem (.static RX5 nm "[I") (.int (Int32.ofNat j))) (.int (f j))).before args s = true) (hex : (Cond.exactly (.static RX5 nm "[I") "[I").before args s = true) (hc0 : s.vm.findClass "[I" = some (G.2.1 0)) : zS2 G s nm f := by
  have hA : ∀ a : Nat, a < s.heap.size → ¬ (fun q => G.2.2.size ≤ q) a := fun a ha => by rw [hG]; exact Nat.not_le.mpr ha
  obtain ⟨t, cell, ht, hat, hv⟩ := Term.length_spec (va_eqt hlen)
  have hsm := zLen_small (va_eqt hlen) ht hat
  obtain ⟨hcell, hkn, -, -⟩ := State.arrayAt?_spec hat
  obtain ⟨hof, -⟩ := Cond.arrayOf_spec harr ht hcell
  have hz := va_Zof hl hini ht hA
  refine ⟨t, by rw [hG]; rw [hG] at hz; exact hz, cell, by rw [hG]; exact hcell, ?_, hof.1, hkn, ?_, ?_⟩
  · obtain ⟨a, c, cell2, k, e1, e2, e3, -, -, e6, -⟩ := Cond.exactly_spec hex
    cases ht.symm.trans e1
    cases hcell.symm.trans e3
    rw [e6]
    exact Option.some.inj (e2.symm.trans hc0)
  · have h9 : (9 : Int32) = cell.slots.size.toInt32 := Value.int.inj hv
    have h10 := congrArg Int32.toInt h9
    have h11 : (cell.slots.size.toInt32).toInt = cell.slots.size := nI_toInt hsm
    have h12 : (9 : Int32).toInt = 9 := rfl
    omega
  · intro j hj
    obtain ⟨a, i, cell2, h1, h2, h3, h4, h5⟩ := Term.elem_spec (va_eqt (hel j hj))
    cases ht.symm.trans h1
    cases hat.symm.trans h3
    have hi : i = Int32.ofNat j := by
      have e : (Term.int (Int32.ofNat j)).eval args s none [] s = some (.int (Int32.ofNat j)) := rfl
      cases h2.symm.trans e
      rfl
    have hc : i.toNatClampNeg = j := by rw [hi]; exact Int32.toNatClampNeg_ofNat_of_lt (by omega)
    rw [hc] at h5
    exact h5
theorem zArr_of {s : State} {cA comp : ClassId} {ty : FieldType} {kA : Class} (h2 : s.vm.classes[cA]? = some kA) (h3 : kA.kind = .array comp ty) : ArrOfT s cA ty := fun n z => ⟨(fun k h => by cases h), kA, h2, comp, h3⟩
theorem zK_of {s : State} {args : Array Value} (hts : ∀ w ∈ lw_tbl, w.before args s = true) : ∃ (D : va_G) (c : Nat → ClassId), va_K D vwCl (zTy c) s ∧ s.vm.findClass "[I" = some (c 0) := by
  obtain ⟨d0, i0, h0⟩ := u_known (C := RX0) (T := TX0) (N := 15) (n := 15) hts inX0 (hts _ ia_X0)
  obtain ⟨d1, i1, h1⟩ := u_known (C := RX1) (T := TX1) (N := 6) (n := 6) hts inX1 (hts _ ia_X1)
  obtain ⟨d2, i2, h2⟩ := u_known (C := RX2) (T := TX2) (N := 2) (n := 2) hts inX2 (hts _ ia_X2)
  obtain ⟨d3, i3, h3⟩ := u_known (C := RX3) (T := TX3) (N := 4) (n := 4) hts inX3 (hts _ ia_X3)
  obtain ⟨d4, i4, h4⟩ := u_known (C := RX4) (T := TX4) (N := 2) (n := 2) hts inX4 (hts _ ia_X4)
  obtain ⟨d5, i5, h5⟩ := u_known (C := RX5) (T := TX5) (N := 8) (n := 8) hts inX5 (hts _ ia_X5)
  obtain ⟨c0, k0, m0, n0, g0, q0⟩ := Cond.arrayClass_spec (hts _ ac_55)
  obtain ⟨c1, k1, m1, n1, g1, q1⟩ := Cond.arrayClass_spec (hts _ ac_159)
  obtain ⟨c2, k2, m2, n2, g2, q2⟩ := Cond.arrayClass_spec (hts _ ac_158)
  obtain ⟨m3, c3, k3, o3, g3, q3, n3⟩ := Cond.arrayOver_specA (hts _ ao_35)
  obtain ⟨m4, c4, k4, o4, -, g4, q4, n4⟩ := Cond.arrayOver_spec (hts _ ao_37)
  obtain ⟨m5, c5, k5, o5, -, g5, q5, n5⟩ := Cond.arrayOver_spec (hts _ ao_144)
  refine ⟨(fun k => ([d0, d1, d2, d3, d4, d5] : List ClassId).getD k d0, fun k => ([i0, i1, i2, i3, i4, i5] : List (Nat → Nat)).getD k i0), fun k => ([c0, c1, c2, c3, c4, c5] : List ClassId).getD k c0, ⟨fun k q hq => ?_, fun k q hq => ?_⟩, n0⟩
  · match k, hq with
    | 0, hq => cases hq; exact h0
    | 1, hq => cases hq; exact h1
    | 2, hq => cases hq; exact h2
    | 3, hq => cases hq; exact h3
    | 4, hq => cases hq; exact h4
    | 5, hq => cases hq; exact h5
    | k + 6, hq => simp [vwCl] at hq
  · match k, hq with
    | 0, hq => cases hq; exact ⟨zArr_of g0 q0, n0⟩
    | 1, hq => cases hq; exact ⟨zArr_of g1 q1, n1⟩
    | 2, hq => cases hq; exact ⟨zArr_of g2 q2, n2⟩
    | 3, hq => cases hq; exact ⟨zArr_of g3 q3, n3⟩
    | 4, hq => cases hq; exact ⟨zArr_of g4 q4, k4, m4, g4, q4, o4, n4⟩
    | 5, hq => cases hq; exact ⟨zArr_of g5 q5, k5, m5, g5, q5, o5, n5⟩
    | k + 6, hq => simp [zTy] at hq
theorem zKw_of {s : State} {b : Nat} (hts : ∀ w ∈ lw_tbl, w.before #[Value.ref b] s = true) (hgv : (Jvm.Cond.and given_1 narrow_1).before #[Value.ref b] s = true) : ∃ G : zG, G.2.2 = s.heap ∧ zKw G s := by
  obtain ⟨D, c, hK, hc0⟩ := zK_of hts
  have hs := flat_of_before _ hgv
  have lt9 : ∀ {P : Nat → Prop}, P 0 → P 1 → P 2 → P 3 → P 4 → P 5 → P 6 → P 7 → P 8 → ∀ j, j < 9 → P j := by
    intro P a0 a1 a2 a3 a4 a5 a6 a7 a8 j hj
    have : j = 0 ∨ j = 1 ∨ j = 2 ∨ j = 3 ∨ j = 4 ∨ j = 5 ∨ j = 6 ∨ j = 7 ∨ j = 8 := by omega
    rcases this with rfl | rfl | rfl | rfl | rfl | rfl | rfl | rfl | rfl <;> assumption
  refine ⟨(D, c, s.heap), rfl, hK, zTb_of hts, ?_, ?_, ?_⟩
  · exact zS1_of rfl (hts _ ls_LEAST_VALUES) (hts _ in_X5) (hs _ (by decide +kernel)) (hs _ (by decide +kernel)) (lt9 (hs _ (by decide +kernel)) (hs _ (by decide +kernel)) (hs _ (by decide +kernel)) (hs _ (by decide +kernel)) (hs _ (by decide +kernel)) (hs _ (by decide +kernel)) (hs _ (by decide +kernel)) (hs _ (by decide +kernel)) (hs _ (by decide +kernel)))
  · exact zS2_of rfl (hts _ ls_FIRST_VALUES) (hts _ in_X5) (hs _ (by decide +kernel)) (hs _ (by decide +kernel)) (lt9 (hs _ (by decide +kernel)) (hs _ (by decide +kernel)) (hs _ (by decide +kernel)) (hs _ (by decide +kernel)) (hs _ (by decide +kernel)) (hs _ (by decide +kernel)) (hs _ (by decide +kernel)) (hs _ (by decide +kernel)) (hs _ (by decide +kernel))) (hs _ (by decide +kernel)) hc0
  · exact zS1_of rfl (hts _ ls_MOST_VALUES) (hts _ in_X5) (hs _ (by decide +kernel)) (hs _ (by decide +kernel)) (lt9 (hs _ (by decide +kernel)) (hs _ (by decide +kernel)) (hs _ (by decide +kernel)) (hs _ (by decide +kernel)) (hs _ (by decide +kernel)) (hs _ (by decide +kernel)) (hs _ (by decide +kernel)) (hs _ (by decide +kernel)) (hs _ (by decide +kernel)))
