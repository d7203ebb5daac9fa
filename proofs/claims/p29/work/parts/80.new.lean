/-! what is made -/
theorem zHd.growN {G : zG} {M M' : zM} {N k : Nat} {H H1 : Heap} (h : zHd G M N H) (z : H1.size = N + k) (oq : ∀ q : Nat, q < N → H1[q]? = H[q]?) (he : ∀ q e, M' q = some e → (q < N ∧ M q = some e) ∨ (N ≤ q ∧ va_at G.1 vwCl (q, e) H1)) : zHd G M' (N + k) H1 := by
  have hs := h.2.2.1
  refine ⟨z, fun q hq => ?_, by omega, fun b e' hb => ?_⟩
  · rw [oq q (by omega)]; exact h.2.1 q hq
  · rcases he b e' hb with ⟨h1, h2⟩ | ⟨h1, h2⟩
    · obtain ⟨h3, h4⟩ := h.2.2.2 b e' h2
      exact ⟨h3, h4.kept (oq b h1)⟩
    · exact ⟨by omega, h2⟩
theorem zOuter (c : ClassId) (n h0 : Nat) : ∀ i, ∃ sl, Jvm.Free.Multi.outerC c n h0 i = { cls := c, slots := sl, vm := .none }
  | 0 => ⟨_, rfl⟩
  | i + 1 => by
    obtain ⟨sl, h⟩ := zOuter c n h0 i
    refine ⟨sl.setIfInBounds i (.ref (h0 + 1 + i)), ?_⟩
    show (Jvm.Free.Multi.outerC c n h0 i).setSlot i _ = _
    rw [h]; rfl
section NW
variable {K : zK} {G : zG} {y : MethodName} {b : ByteArray} {nL : Nat} {R : Room} {ret : Option FieldType} {Q : State → Prop} {cells slots : Nat} {M : zM} {N pc : Nat} {lv : List (Nat × Value)} {st : List Value}
theorem r_oinit (h : zOk K G y b nL R ret) {index a : Nat} (hlk : Cond.methodLink y.cls index ⟨"java/lang/Object", "<init>", "()V"⟩ ∈ lw_tbl) (hd : decode b pc = .ok (.invokespecial index, 3)) (hR : 1 ≤ R.frames) (hL : (st.map fun v => v.category).sum + 12 ≤ R.locals) (kk : zW K G nL Q cells slots M N (pc + 3) lv st) : zW K G nL Q cells slots M N pc lv (.ref a :: st) := by
  obtain ⟨p, l, e, R0, s, m, args, below, meth, c⟩ := K
  obtain ⟨hx, hb, hml, hown, hK, hR0, hret, hlo, hnm⟩ := h
  intro H locs ls hH hlocs hl
  dsimp only at hx hb hml hown hK hR0 hret hlo hnm ⊢
  subst hR0
  exact W.objInit hx hb hown (hK.2.1.use hlk rfl args) (hK.2.1.use im_Object__init____V rfl args) (hK.2.1.use cd_Object__init____V rfl args) (g := F0 m pc ls (.ref a :: st)) rfl (hl.1.trans hml.symm) rfl hd hR (by show 2 * 0 + _ + 12 ≤ _; omega) (kk H locs ls hH hlocs hl)
theorem r_new (h : zOk K G y b nL R ret) {ci n index : Nat} {C : String} {T : u_T} {ty : Nat → FieldType} (hc : zCi ci C T n ty) (hcl : Cond.classLink y.cls index C ∈ lw_tbl) (hia : Cond.instantiable C n ∈ lw_tbl) (hin : Cond.initialized C ∈ lw_tbl) (fs : List Value) (hfs : ∀ j, j < n → defaultValue (ty j) = vp_V fs j) (hf : cells + 1 ≤ R.cells ∧ slots + n ≤ R.slots) (hd : decode b pc = .ok (.new index, 3)) (kk : zW K G nL Q (cells + 1) (slots + n) (zu M N (zO ci fs)) (N + 1) (pc + 3) lv (.ref N :: st)) : zW K G nL Q cells slots M N pc lv st := by
  obtain ⟨p, l, e, R0, s, m, args, below, meth, c⟩ := K
  obtain ⟨hx, hb, hml, hown, hK, hR0, hret, hlo, hnm⟩ := h
  intro H locs ls hH hlocs hl
  dsimp only at hx hb hml hown hK hR0 hret hlo hnm ⊢
  subst hR0
  have hKn := hK.1.1 ci _ hc.1
  refine W.newcK hx hb hown (hK.2.1.use hcl rfl args) (hK.2.1.use hia rfl args) (hK.2.1.use hin rfl args) (g := F0 m pc ls st) rfl hd hf.1 hf.2 hKn.2.1 hH.1 fun H1 kC hkC e1 z1 o1 => ?_
  exact kk H1 locs ls (hH.grow z1 o1 ⟨_, hc.1, (u_born ty (hK.hts hc args) (fun _ q => q) hKn hkC e1 hc.2.2.1).to hfs⟩) hlocs hl
theorem nI_nn {n : Nat} (h : n < 2 ^ 31) : ¬ nI n < 0 := by
  intro q
  rw [Int32.lt_iff_toInt_lt, nI_toInt h] at q
  have h0 : (0 : Int32).toInt = 0 := rfl
  omega
theorem r_newaI (h : zOk K G y b nL R ret) {n : Nat} (hn : n ≤ 60000) (hf : cells + 1 ≤ R.cells ∧ slots + n ≤ R.slots) (hd : decode b pc = .ok (.newarray .int, 2)) (kk : zW K G nL Q (cells + 1) (slots + n) (zu M N (zI (G.2.1 0) n (fun _ => 0))) (N + 1) (pc + 2) lv (.ref N :: st)) : zW K G nL Q cells slots M N pc lv (.int (nI n) :: st) := by
  obtain ⟨p, l, e, R0, s, m, args, below, meth, c⟩ := K
  obtain ⟨hx, hb, hml, hown, hK, hR0, hret, hlo, hnm⟩ := h
  intro H locs ls hH hlocs hl
  dsimp only at hx hb hml hown hK hR0 hret hlo hnm ⊢
  subst hR0
  refine va_newaK hx hb (atype := .int) (hK.2.1.use ac_55 rfl args) (g := F0 m pc ls (.int (nI n) :: st)) rfl hd rfl (nI_nn (by omega)) (nI_clamp (by omega)) (by show n * 4 ≤ _; omega) hf.1 hf.2 hH.1 fun H1 cA e1 z1 o1 hAr hNm => ?_
  have e0 : cA = G.2.1 0 := Option.some.inj (hNm.symm.trans (hK.1.2 0 _ rfl).2)
  rw [e0] at e1
  exact kk H1 locs ls (hH.grow z1 o1 e1) hlocs hl
theorem r_newaC (h : zOk K G y b nL R ret) {n : Nat} (hn : n ≤ 60000) (hf : cells + 1 ≤ R.cells ∧ slots + n ≤ R.slots) (hd : decode b pc = .ok (.newarray .char, 2)) (kk : zW K G nL Q (cells + 1) (slots + n) (zu M N (zI (G.2.1 1) n (fun _ => 0))) (N + 1) (pc + 2) lv (.ref N :: st)) : zW K G nL Q cells slots M N pc lv (.int (nI n) :: st) := by
  obtain ⟨p, l, e, R0, s, m, args, below, meth, c⟩ := K
  obtain ⟨hx, hb, hml, hown, hK, hR0, hret, hlo, hnm⟩ := h
  intro H locs ls hH hlocs hl
  dsimp only at hx hb hml hown hK hR0 hret hlo hnm ⊢
  subst hR0
  refine va_newaK hx hb (atype := .char) (hK.2.1.use ac_159 rfl args) (g := F0 m pc ls (.int (nI n) :: st)) rfl hd rfl (nI_nn (by omega)) (nI_clamp (by omega)) (by show n * 2 ≤ _; omega) hf.1 hf.2 hH.1 fun H1 cA e1 z1 o1 hAr hNm => ?_
  have e0 : cA = G.2.1 1 := Option.some.inj (hNm.symm.trans (hK.1.2 1 _ rfl).2)
  rw [e0] at e1
  exact kk H1 locs ls (hH.grow z1 o1 e1) hlocs hl
theorem r_newaZ (h : zOk K G y b nL R ret) {n : Nat} (hn : n ≤ 60000) (hf : cells + 1 ≤ R.cells ∧ slots + n ≤ R.slots) (hd : decode b pc = .ok (.newarray .boolean, 2)) (kk : zW K G nL Q (cells + 1) (slots + n) (zu M N (zI (G.2.1 2) n (fun _ => 0))) (N + 1) (pc + 2) lv (.ref N :: st)) : zW K G nL Q cells slots M N pc lv (.int (nI n) :: st) := by
  obtain ⟨p, l, e, R0, s, m, args, below, meth, c⟩ := K
  obtain ⟨hx, hb, hml, hown, hK, hR0, hret, hlo, hnm⟩ := h
  intro H locs ls hH hlocs hl
  dsimp only at hx hb hml hown hK hR0 hret hlo hnm ⊢
  subst hR0
  refine va_newaK hx hb (atype := .boolean) (hK.2.1.use ac_158 rfl args) (g := F0 m pc ls (.int (nI n) :: st)) rfl hd rfl (nI_nn (by omega)) (nI_clamp (by omega)) (by show n * 1 ≤ _; omega) hf.1 hf.2 hH.1 fun H1 cA e1 z1 o1 hAr hNm => ?_
  have e0 : cA = G.2.1 2 := Option.some.inj (hNm.symm.trans (hK.1.2 2 _ rfl).2)
  rw [e0] at e1
  exact kk H1 locs ls (hH.grow z1 o1 e1) hlocs hl
theorem r_anew (h : zOk K G y b nL R ret) {C : String} {index t0 n : Nat} {cT : ClassId} (hcl : Cond.classLink y.cls index C ∈ lw_tbl) (hao : Cond.arrayOver (.object C) ∈ lw_tbl) (ht : (zTy G.2.1)[t0]? = some (cT, .object C)) (hn : n ≤ 60000) (hf : cells + 1 ≤ R.cells ∧ slots + n ≤ R.slots) (hd : decode b pc = .ok (.anewarray index, 3)) (kk : zW K G nL Q (cells + 1) (slots + n) (zu M N (zR cT n (fun _ => none))) (N + 1) (pc + 3) lv (.ref N :: st)) : zW K G nL Q cells slots M N pc lv (.int (nI n) :: st) := by
  obtain ⟨p, l, e, R0, s, m, args, below, meth, c⟩ := K
  obtain ⟨hx, hb, hml, hown, hK, hR0, hret, hlo, hnm⟩ := h
  intro H locs ls hH hlocs hl
  dsimp only at hx hb hml hown hK hR0 hret hlo hnm ⊢
  subst hR0
  have ec : (nI n).toNatClampNeg = n := nI_clamp (by omega)
  refine W.anew hx hb hown (hK.2.1.use hcl rfl args) (hK.2.1.use hao rfl args) (g := F0 m pc ls (.int (nI n) :: st)) rfl hd rfl (nI_nn (by omega)) (by rw [ec]; omega) hf.1 (by rw [ec]; exact hf.2) fun cA kA comp f1 f2 f3 f4 => ?_
  obtain ⟨kA', comp', -, -, -, f5⟩ := (hK.1.2 t0 _ ht).2
  have e0 : cA = cT := Option.some.inj (f1.symm.trans f5)
  subst e0
  rw [ec]
  generalize hH1 : H.push ({ cls := cA, slots := Array.replicate n .null, vm := .none } : Cell) = H1
  have z1 : H1.size = N + 1 := by rw [← hH1, Array.size_push, hH.1]
  have e1 : H1[N]? = some (arrV cA n (fun _ => .null)) := by rw [← hH.1, ← hH1, Array.getElem?_push_size, ← arrV_new]
  have o1 : ∀ q : Nat, q < N → H1[q]? = H[q]? := fun q hq => by rw [← hH1, Array.getElem?_push, if_neg (by rw [hH.1]; omega)]
  rw [hH.1]
  exact kk H1 locs ls (hH.grow z1 o1 e1) hlocs hl
/-- a table of 6 rows of 8 -/
def zTm (G : zG) (M : zM) (N : Nat) : zM := tbM G (zu M N (zR (G.2.1 3) 6 (zRef6 (N + 1)))) (N + 1) (fun _ _ => 0)
theorem r_mna (h : zOk K G y b nL R ret) {index : Nat} (hcl : Cond.classLink y.cls index "[[I" ∈ lw_tbl) (hf : cells + 7 ≤ R.cells ∧ slots + 54 ≤ R.slots) (hd : decode b pc = .ok (.multianewarray index 2, 4)) (kk : zW K G nL Q (cells + 7) (slots + 54) (zTm G M N) (N + 7) (pc + 4) lv (.ref N :: st)) : zW K G nL Q cells slots M N pc lv (.int (nI 8) :: .int (nI 6) :: st) := by
  obtain ⟨p, l, e, R0, s, m, args, below, meth, c⟩ := K
  obtain ⟨hx, hb, hml, hown, hK, hR0, hret, hlo, hnm⟩ := h
  intro H locs ls hH hlocs hl
  dsimp only at hx hb hml hown hK hR0 hret hlo hnm ⊢
  subst hR0
  intro T hT X
  have e6 : (nI 6).toNatClampNeg = 6 := nI_clamp (by omega)
  have e8 : (nI 8).toNatClampNeg = 8 := nI_clamp (by omega)
  obtain ⟨vm₁, cA, comp, hW, hfA, hfC, hO, hI, X1, step⟩ := X.multianewarray2F hx (ty := .int) hown (hK.2.1.use hcl rfl args) (hK.2.1.use ao_35 rfl args) (hK.2.1.use ac_55 rfl args) (g := F0 m pc ls (.int (nI 8) :: .int (nI 6) :: st)) rfl (by rw [hb]; exact hd) (n := nI 6) (k := nI 8) (rest := st) rfl (nI_nn (by omega)) (nI_nn (by omega)) (by rw [e6]; omega) (by rw [e8]; show 8 * 4 ≤ _; omega) (by rw [e8]; omega) rfl rfl (by rw [e6]; omega) (by rw [e6, e8]; omega)
  rw [e6, e8] at X1 step
  have eA : cA = G.2.1 3 := Option.some.inj (hfA.symm.trans (hK.1.2 3 _ rfl).2)
  have eC : comp = G.2.1 0 := Option.some.inj (hfC.symm.trans (hK.1.2 0 _ rfl).2)
  subst eA
  subst eC
  have hsz : (T.setVm vm₁).heap.size = N := by show T.heap.size = N; rw [hT]; exact hH.1
  obtain ⟨f1, f2, -, -⟩ := Jvm.Free.Multi.fill_facts (T.setVm vm₁) (G.2.1 3) (G.2.1 0) 6 8 (defaultValue .int) 6
  have f3 := fun j hj => Jvm.Free.Multi.fill_inner (T.setVm vm₁) (G.2.1 3) (G.2.1 0) 6 8 (defaultValue .int) 6 j hj
  have f4 := fun (a : Nat) ha => Jvm.Free.Multi.fill_old (T.setVm vm₁) (G.2.1 3) (G.2.1 0) 6 8 (defaultValue .int) (a := a) ha 6
  obtain ⟨o1, o2, o3⟩ := Jvm.Free.Multi.outerC_facts (G.2.1 3) 6 (T.setVm vm₁).heap.size 6
  have o4 := fun j hj => Jvm.Free.Multi.outerC_slot (G.2.1 3) 6 (T.setVm vm₁).heap.size 6 j hj
  rw [hsz] at f1 f2 f3 o1 o2 o3 o4
  have f4' : ∀ a, a < N → (Jvm.Free.Multi.fill (T.setVm vm₁) (G.2.1 3) (G.2.1 0) 6 8 (defaultValue .int) 6).heap[a]? = H[a]? := fun a ha => by
    rw [f4 a (by rw [hsz]; exact ha)]
    show T.heap[a]? = _
    rw [hT]
  have eo : Jvm.Free.Multi.outerC (G.2.1 3) 6 N 6 = arrV (G.2.1 3) 6 (fun j => va_rf (zRef6 (N + 1) j)) := by
    have e3 : (Jvm.Free.Multi.outerC (G.2.1 3) 6 N 6).slots = (arrV (G.2.1 3) 6 (fun j => va_rf (zRef6 (N + 1) j))).slots := by
      apply Array.ext_getElem?
      intro j
      by_cases hj : j < 6
      · rw [o4 j hj, arrV_read _ _ hj, if_pos hj, zRef6_at hj]; rfl
      · rw [Array.getElem?_eq_none (by rw [o3]; omega), Array.getElem?_eq_none (by rw [arrV_size]; omega)]
    obtain ⟨sl, hsl⟩ := zOuter (G.2.1 3) 6 N 6
    rw [hsl] at e3 ⊢
    have e5 : sl = (arrV (G.2.1 3) 6 (fun j => va_rf (zRef6 (N + 1) j))).slots := e3
    rw [e5]; rfl
  have hg : zHd G (zTm G M N) (N + 7) (Jvm.Free.Multi.fill (T.setVm vm₁) (G.2.1 3) (G.2.1 0) 6 8 (defaultValue .int) 6).heap := by
    refine hH.growN f1 f4' (fun q e' hq => ?_)
    unfold zTm tbM at hq
    by_cases h1 : N + 1 ≤ q ∧ q < N + 1 + 6
    · right
      rw [if_pos h1] at hq
      cases hq
      refine ⟨by omega, ?_⟩
      have := f3 (q - (N + 1)) (by omega)
      rw [show N + 1 + (q - (N + 1)) = q by omega] at this
      show _ = some (arrV (G.2.1 0) 8 (fun _ => .int 0))
      rw [this, ← arrV_new]; rfl
    · rw [if_neg h1] at hq
      by_cases h2 : q = N
      · right
        subst h2
        rw [zu_self] at hq
        cases hq
        refine ⟨Nat.le_refl _, ?_⟩
        show _ = some (arrV (G.2.1 3) 6 (fun j => va_rf (zRef6 (q + 1) j)))
        rw [f2, eo]
      · left
        rw [zu_ne _ _ h2] at hq
        exact ⟨hH.lt hq, hq⟩
  obtain ⟨t, a1, b1⟩ := kk _ locs ls hg hlocs hl _ rfl X1
  refine ⟨t, step t ?_, b1⟩
  have eN : T.heap.size = N := by rw [hT]; exact hH.1
  rw [eN]
  exact a1
/-- the first values, copied -/
theorem r_clone (h : zOk K G y b nL R ret) {t index : Nat} {f : Nat → Int32} (hz : zTx G t f) (hlk : Cond.methodLink y.cls index ⟨"[I", "clone", "()Ljava/lang/Object;"⟩ ∈ lw_tbl) (hin : Cond.instanceMethod ⟨"java/lang/Object", "clone", "()Ljava/lang/Object;"⟩ ∈ lw_tbl) (hsel : Cond.selects "[I" ⟨"[I", "clone", "()Ljava/lang/Object;"⟩ ⟨"java/lang/Object", "clone", "()Ljava/lang/Object;"⟩ ∈ lw_tbl) (hf : cells + 1 ≤ R.cells ∧ slots + 9 ≤ R.slots) (hR : 1 ≤ R.frames) (hL : (st.map fun v => v.category).sum + 14 ≤ R.locals) (hd : decode b pc = .ok (.invokevirtual index, 3)) (kk : zW K G nL Q (cells + 1) (slots + 9) (zu M N (zI (G.2.1 0) 9 f)) (N + 1) (pc + 3) lv (.ref N :: st)) : zW K G nL Q cells slots M N pc lv (.ref t :: st) := by
  obtain ⟨p, l, e, R0, s, m, args, below, meth, c⟩ := K
  obtain ⟨hx, hb, hml, hown, hK, hR0, hret, hlo, hnm⟩ := h
  intro H locs ls hH hlocs hl
  dsimp only at hx hb hml hown hK hR0 hret hlo hnm ⊢
  subst hR0
  obtain ⟨cell, c1, c2, c3, c4, c5, c6⟩ := hz
  have hcl : va_Nw (.castable "[I" "java/lang/Cloneable") s := (hK.2.1.use ct_32 rfl #[] : _)
  obtain ⟨c0, t0', g1, g2, g3⟩ := Cond.castable_spec (va_Nw.use (A := args) rfl hcl)
  have hnm2 : s.vm.findClass "[I" = some (G.2.1 0) := (hK.1.2 0 _ rfl).2
  cases hnm2.symm.trans g1
  have hAr := (hK.1.2 0 _ rfl).1
  intro T hT X
  have hcellT : T.heap[t]? = some cell := by
    rw [hT, hH.2.1 t (Array.getElem?_eq_some_iff.mp c1).1]; exact c1
  obtain ⟨-, kA, hkA, comp, hkind⟩ := State.isArrayOf_alike X.warmed.alike (hAr 0 (fun _ => .null))
  obtain ⟨-, kS, hkS, compS, hkindS⟩ := hAr 0 (fun _ => .null)
  obtain ⟨vm', X', stp⟩ := X.cloneArray hx hown (hK.2.1.use hlk rfl args) (hK.2.1.use sa_28 rfl args) (hK.2.1.use nt_Object_clone___Ljava_lang_Object_ rfl args) (hK.2.1.use hin rfl args) (hK.2.1.use hsel rfl args) (a := t) (cell := cell) hcellT c3 c4 (by rw [c2]; exact hnm2) g2 (by rw [c2]; exact g3)
    (fun i v hv => by
      rw [c2]
      have hi : i < 9 := by rw [← c5]; exact (Array.getElem?_eq_some_iff.mp hv).1
      have hv2 : v = .int (f i) := Option.some.inj (hv.symm.trans (c6 i hi))
      have hk' : T.vm.classes[G.2.1 0]? = some kA := hkA
      rw [hv2]
      simp [State.fitsSlot, State.slotType?, hk', hkind, fits])
    (g := F0 m pc ls (.ref t :: st)) rfl (hl.1.trans hml.symm) rfl (by rw [hb]; exact hd) hR (by show 2 * 0 + _ + 14 ≤ _; omega) hf.1 (by rw [c5]; exact hf.2) (hloader := by rw [c2]; exact Vm.clonesLoader_of_array hkS hkindS)
  have ecell : ({ cls := cell.cls, slots := cell.slots } : Cell) = arrV (G.2.1 0) 9 (fun j => .int (f j)) := by
    have e3 : cell.slots = (arrV (G.2.1 0) 9 (fun j => Value.int (f j))).slots := by
      apply Array.ext_getElem?
      intro j
      by_cases hj : j < 9
      · rw [c6 j hj, arrV_read _ _ hj]
      · rw [Array.getElem?_eq_none (by rw [c5]; omega), Array.getElem?_eq_none (by rw [arrV_size]; omega)]
    rw [c2, e3]; rfl
  rw [ecell, c5] at X'
  generalize hH1 : H.push (arrV (G.2.1 0) 9 (fun j => Value.int (f j))) = H1
  have z1 : H1.size = N + 1 := by rw [← hH1, Array.size_push, hH.1]
  have e1 : H1[N]? = some (arrV (G.2.1 0) 9 (fun j => .int (f j))) := by rw [← hH.1, ← hH1, Array.getElem?_push_size]
  have o1 : ∀ q : Nat, q < N → H1[q]? = H[q]? := fun q hq => by rw [← hH1, Array.getElem?_push, if_neg (by rw [hH.1]; omega)]
  obtain ⟨t2, a1, b1⟩ := kk H1 locs ls (hH.grow z1 o1 e1) hlocs hl ((T.setVm vm').pushCell (arrV (G.2.1 0) 9 (fun j => .int (f j)))) (by rw [← hH1, ← hT]; rfl) X'
  refine ⟨t2, stp t2 ?_, b1⟩
  have eN : T.heap.size = N := by rw [hT]; exact hH.1
  rw [ecell, eN]
  exact a1
theorem r_castI (h : zOk K G y b nL R ret) {a index : Nat} {n : Nat} {f : Nat → Int32} (hlk : Cond.classLink y.cls index "[I" ∈ lw_tbl) (hM : M a = some (zI (G.2.1 0) n f)) (hd : decode b pc = .ok (.checkcast index, 3)) (kk : zW K G nL Q cells slots M N (pc + 3) lv (.ref a :: st)) : zW K G nL Q cells slots M N pc lv (.ref a :: st) := by
  obtain ⟨p, l, e, R0, s, m, args, below, meth, c⟩ := K
  obtain ⟨hx, hb, hml, hown, hK, hR0, hret, hlo, hnm⟩ := h
  intro H locs ls hH hlocs hl
  dsimp only at hx hb hml hown hK hR0 hret hlo hnm ⊢
  have hP : va_P G.1 vwCl [(a, zI (G.2.1 0) n f)] H := fun k q hq => by
    cases k with
    | zero => cases hq; exact (hH.2.2.2 a _ hM).2
    | succ k => cases hq
  exact va_castA hx hb hown (hK.2.1.use hlk rfl args) hP 0 rfl (hK.1.2 0 _ rfl).2 hd (kk H locs ls hH hlocs hl)
end NW
