theorem zCpy0 (f g : Nat → Int32) (n : Nat) : va_cpy f g 0 0 n = zC0 g f n := by
  funext k
  unfold va_cpy zC0
  by_cases h : k < n
  · rw [if_pos (by omega), if_pos h]; simp
  · rw [if_neg (by omega), if_neg h]
section ZA
variable {K : zK} {G : zG} {y : MethodName} {b : ByteArray} {nL : Nat} {R : Room} {ret : Option FieldType} {Q : State → Prop} {cells slots : Nat} {M : zM} {N pc : Nat} {lv : List (Nat × Value)} {st : List Value}
/-- System.arraycopy of n ints from the start of one int array to the start of another -/
theorem r_acopy (h : zOk K G y b nL R ret) {a0 a n0 n1 index : Nat} {f g : Nat → Int32} {n : Nat} {M' : zM} (rest : List Value) (hlk : Cond.methodLink y.cls index arraycopyName ∈ lw_tbl) (hna : Cond.native arraycopyName ∈ lw_tbl) (hstc : Cond.static arraycopyName ∈ lw_tbl) (hini : Cond.initialized "java/lang/System" ∈ lw_tbl)
    (hd : decode b pc = .ok (.invokestatic index, 3)) (hM0 : M a0 = some (zI (G.2.1 0) n0 f)) (hM1 : M a = some (zI (G.2.1 0) n1 g)) (h0 : n ≤ n0) (h1 : n ≤ n1) (hn : n < 2 ^ 31) (hfr : 1 ≤ R.frames) (hlc : (rest.map fun v => v.category).sum + (nativeFrameWords "java/lang/System" "arraycopy" 5 + 11) ≤ R.locals) (hM' : zu M a (zI (G.2.1 0) n1 (zC0 g f n)) = M')
    (kk : zW K G nL Q cells slots M' N (pc + 3) lv rest) : zW K G nL Q cells slots M N pc lv (.int (nI n) :: .int (nI 0) :: .ref a :: .int (nI 0) :: .ref a0 :: rest) := by
  subst hM'
  obtain ⟨p, l, e, R0, s, m, args, below, meth, c⟩ := K
  obtain ⟨hx, hb, hml, hown, hK, hR, hret, hlk0, hnm⟩ := h
  intro H locs ls hH hlo hl
  dsimp only at hx hb hml hown hK hR hret hlk0 hnm ⊢
  subst hR
  intro T hT X
  have c0 : (nI 0).toNatClampNeg = 0 := nI_clamp (by omega)
  have cn : (nI n).toNatClampNeg = n := nI_clamp hn
  have i0 : (nI 0).toInt = 0 := nI_toInt (by omega)
  have im : (nI n).toInt = n := nI_toInt hn
  have hc0 : H[a0]? = some (vp_cell (G.2.1 0) (n0, .inl f)) := (hH.2.2.2 a0 _ hM0).2
  have hc1 : H[a]? = some (vp_cell (G.2.1 0) (n1, .inl g)) := (hH.2.2.2 a _ hM1).2
  obtain ⟨-, k0, hk0, cm0, hkk0⟩ := (hK.1.2 0 _ rfl).1 n0 (fun j => .int (f j))
  obtain ⟨vm', X', step⟩ := X.arraycopy hx hown (hK.2.1.use hlk rfl args) (hK.2.1.use hna rfl args) (hK.2.1.use hstc rfl args) (hK.2.1.use hini rfl args) (src := a0) (dst := a) (cs := vp_cell (G.2.1 0) (n0, .inl f)) (cd := vp_cell (G.2.1 0) (n1, .inl g)) (srcPos := nI 0) (destPos := nI 0) (n := nI n) (by rw [hT]; exact hc0) (by rw [hT]; exact hc1)
    (fun _ h => by cases h) (fun _ h => by cases h) (fun h => by cases h) (fun h => by cases h) hk0 hk0 hkk0 hkk0 (by simp [refKind]) (nI_pos (by omega)) (nI_pos (by omega)) (nI_pos hn)
    (by rw [i0, im]; show ¬ _ > ((arrV (G.2.1 0) n0 (fun j => .int (f j))).slots.size : Int); rw [arrV_size]; omega)
    (by rw [i0, im]; show ¬ _ > ((arrV (G.2.1 0) n1 (fun j => .int (g j))).slots.size : Int); rw [arrV_size]; omega)
    (fun vm₁ _ i hi => by
      have e : (vp_cell (G.2.1 0) (n0, .inl f)).slots.getD ((nI 0).toNatClampNeg + i) .null = .int (f ((nI 0).toNatClampNeg + i)) := by
        rw [cn] at hi
        show (arrV (G.2.1 0) n0 (fun j => .int (f j))).slots.getD _ _ = _
        rw [Array.getD_eq_getD_getElem?, arrV_read _ _ (by omega)]
        rfl
      refine ⟨?_, ?_⟩
      · rw [e]; rfl
      · rw [e]; exact trivial)
    (g := F0 m pc ls (.int (nI n) :: .int (nI 0) :: .ref a :: .int (nI 0) :: .ref a0 :: rest)) rfl (by rw [hml]; exact hl.1) (rest := rest) rfl (by rw [hb]; exact hd) hfr (by show 2 * 0 + _ + _ ≤ _; omega)
  have e1 : copied (vp_cell (G.2.1 0) (n0, .inl f)) (vp_cell (G.2.1 0) (n1, .inl g)) (nI 0) (nI 0) (nI n) = vp_cell (G.2.1 0) (n1, .inl (va_cpy f g (nI 0).toNatClampNeg (nI 0).toNatClampNeg (nI n).toNatClampNeg)) := va_copied (fun z => .int z) (G.2.1 0) (G.2.1 0) f g (by rw [c0, cn]; omega)
  rw [e1, c0, cn, zCpy0] at X' step
  have hl2 : a < H.size := (Array.getElem?_eq_some_iff.mp hc1).1
  have hheap : ((T.setVm vm').setCell a (vp_cell (G.2.1 0) (n1, .inl (zC0 g f n)))).heap = H.setIfInBounds a (vp_cell (G.2.1 0) (n1, .inl (zC0 g f n))) := by rw [← hT]; rfl
  have oq : ∀ q : Nat, q ≠ a → (H.setIfInBounds a (vp_cell (G.2.1 0) (n1, .inl (zC0 g f n))))[q]? = H[q]? := fun q hq => by simp [Array.getElem?_setIfInBounds, Ne.symm hq]
  obtain ⟨t, a1, b1⟩ := kk _ _ ls (hH.put hM1 (by simp) oq (show (H.setIfInBounds a _)[a]? = some _ by simp [Array.getElem?_setIfInBounds, hl2])) (fun q hq => by
      rcases List.mem_append.mp hq with h | h
      · exact hlo q h
      · obtain ⟨z, -, hz⟩ := List.mem_map.mp h
        rw [← hz]
        exact (hH.2.2.2 a _ hM1).1) hl _ hheap X'
  exact ⟨t, step t a1, b1⟩
end ZA
/-- six rows of 8 from r on -/
def tbM (G : zG) (M : zM) (r : Nat) (f : Nat → Nat → Int32) : zM := fun q => if r ≤ q ∧ q < r + 6 then some (zI (G.2.1 0) 8 (f (q - r))) else M q
theorem tb_out {G : zG} {M : zM} {r q : Nat} {f : Nat → Nat → Int32} (hq : q < r ∨ r + 6 ≤ q) : tbM G M r f q = M q := by unfold tbM; rw [if_neg (by omega)]
theorem tb_r {G : zG} {M : zM} {r m : Nat} {f : Nat → Nat → Int32} (hm : m < 6) : tbM G M r f (r + m) = some (zI (G.2.1 0) 8 (f m)) := by unfold tbM; rw [if_pos (by omega), Nat.add_sub_cancel_left]
theorem tb_w {G : zG} {M : zM} {r m : Nat} {f : Nat → Nat → Int32} (hm : m < 6) (g : Nat → Int32) : zu (tbM G M r f) (r + m) (zI (G.2.1 0) 8 g) = tbM G M r (va_up f m g) := by
  funext q
  by_cases hq : q = r + m
  · subst hq; rw [zu_self, tb_r hm, va_up_self]
  · rw [zu_ne _ _ hq]; unfold tbM
    by_cases h2 : r ≤ q ∧ q < r + 6
    · rw [if_pos h2, if_pos h2, va_up_ne _ _ (by omega)]
    · rw [if_neg h2, if_neg h2]
theorem tb_same {G : zG} {M : zM} {r : Nat} {f : Nat → Nat → Int32} (h : ∀ i, i < 6 → M (r + i) = some (zI (G.2.1 0) 8 (f i))) : tbM G M r f = M := by
  funext q; unfold tbM
  by_cases h2 : r ≤ q ∧ q < r + 6
  · rw [if_pos h2, ← h (q - r) (by omega), show r + (q - r) = q by omega]
  · rw [if_neg h2]
/-- the first i rows of f (their first 8), else those of g -/
def zTab (g f : Nat → Nat → Int32) (i : Nat) : Nat → Nat → Int32 := fun m => if m < i then zC0 (g m) (f m) 8 else g m
theorem zTab_0 (g f : Nat → Nat → Int32) : zTab g f 0 = g := by funext m; simp [zTab]
theorem zTab_s (g f : Nat → Nat → Int32) (i : Nat) : va_up (zTab g f i) i (zC0 (zTab g f i i) (f i) 8) = zTab g f (i + 1) := by
  funext m
  by_cases h : m = i
  · subst h; rw [va_up_self]; unfold zTab; rw [if_neg (by omega), if_pos (by omega)]
  · rw [va_up_ne _ _ h]; unfold zTab
    by_cases h2 : m < i
    · rw [if_pos h2, if_pos (by omega)]
    · rw [if_neg h2, if_neg (by omega)]
/-- the count of bits as the JDK reckons it -/
def zPop (x : Int32) : Int32 :=
  let a := x - ((x.toUInt32 >>> ((nI 1).toUInt32 &&& Int32.toUInt32 31)).toInt32 &&& nI 1431655765)
  let b := (a &&& nI 858993459) + ((a.toUInt32 >>> ((nI 2).toUInt32 &&& Int32.toUInt32 31)).toInt32 &&& nI 858993459)
  let c := (b + (b.toUInt32 >>> ((nI 4).toUInt32 &&& Int32.toUInt32 31)).toInt32) &&& nI 252645135
  let d := c + (c.toUInt32 >>> ((nI 8).toUInt32 &&& Int32.toUInt32 31)).toInt32
  (d + (d.toUInt32 >>> ((nI 16).toUInt32 &&& Int32.toUInt32 31)).toInt32) &&& nI 63
theorem zPop_eq : ∀ n, n < 256 → zPop (nI n) = zBits (nI n) := by decide +kernel
section OVT
variable {G : zG} {M : zM} {b : Nat} {st : Nat → Int32} {dy x : Int32} {br : Nat → Int32} {sp wa : Nat → Nat → Int32} {ac ps pp pu lo : Nat → Int32} {un op : Int32} {pi : Nat → Nat} {cn : Nat → Nat → Nat → Int32} {vl du : Nat → Int32} {io : Nat → Bool} {hp hs : Nat → Int32}
/-- the first six of f, else g -/
def zF6 {α : Type} (g f : Nat → α) : Nat → α := fun m => if m < 6 then f m else g m
theorem cb_tsp (f : Nat → Nat → Int32) : tbM G (cbM G M b st dy x br sp wa ac ps pp pu lo un op pi cn vl du io hp hs) (b + 4) f = cbM G M b st dy x br (zF6 sp f) wa ac ps pp pu lo un op pi cn vl du io hp hs := by
  funext q
  by_cases h : b + 4 ≤ q ∧ q < b + 4 + 6
  · obtain ⟨m, hm, rfl⟩ : ∃ m, m < 6 ∧ q = b + 4 + m := ⟨q - (b + 4), by omega, by omega⟩
    rw [tb_r hm, cb_spr hm]; unfold zF6; rw [if_pos hm]
  · rw [tb_out (by omega)]; unfold cbM
    by_cases hr : b ≤ q ∧ q < b + 26
    · rw [if_pos hr, if_pos hr]; unfold cbL
      by_cases h3 : q - b < 10
      · have hc : q - b = 0 ∨ q - b = 1 ∨ q - b = 2 ∨ q - b = 3 := by omega
        rcases hc with e | e | e | e <;> rw [e] <;> rfl
      · simp only [if_neg h3]
    · rw [if_neg hr, if_neg hr]
theorem cb_twa (f : Nat → Nat → Int32) : tbM G (cbM G M b st dy x br sp wa ac ps pp pu lo un op pi cn vl du io hp hs) (b + 11) f = cbM G M b st dy x br sp (zF6 wa f) ac ps pp pu lo un op pi cn vl du io hp hs := by
  funext q
  by_cases h : b + 11 ≤ q ∧ q < b + 11 + 6
  · obtain ⟨m, hm, rfl⟩ : ∃ m, m < 6 ∧ q = b + 11 + m := ⟨q - (b + 11), by omega, by omega⟩
    rw [tb_r hm, cb_war hm]; unfold zF6; rw [if_pos hm]
  · rw [tb_out (by omega)]; unfold cbM
    by_cases hr : b ≤ q ∧ q < b + 26
    · rw [if_pos hr, if_pos hr]; unfold cbL
      by_cases h3 : q - b < 17
      · by_cases h4 : q - b < 10
        · simp only [if_pos h4]
        · have e : q - b = 10 := by omega
          rw [e]; rfl
      · simp only [if_neg h3]
    · rw [if_neg hr, if_neg hr]
theorem pc_tb {h : Nat} {cn : Nat → Nat → Int32} {vl du : Int32} {io : Bool} (f : Nat → Nat → Int32) : tbM G (pcM G M h cn vl du io) (h + 2) f = pcM G M h (zF6 cn f) vl du io := by
  funext q
  by_cases hh : h + 2 ≤ q ∧ q < h + 2 + 6
  · obtain ⟨m, hm, rfl⟩ : ∃ m, m < 6 ∧ q = h + 2 + m := ⟨q - (h + 2), by omega, by omega⟩
    rw [tb_r hm, pc_r hm]; unfold zF6; rw [if_pos hm]
  · rw [tb_out (by omega)]; unfold pcM
    by_cases hr : h ≤ q ∧ q < h + 8
    · rw [if_pos hr, if_pos hr]; unfold pcC
      have hc : q - h = 0 ∨ q - h = 1 := by omega
      rcases hc with e | e <;> rw [e] <;> rfl
    · rw [if_neg hr, if_neg hr]
end OVT
theorem va_up_same {α : Type} (f : Nat → α) (j : Nat) : va_up f j (f j) = f := by
  funext k
  by_cases h : k = j
  · subst h; rw [va_up_self]
  · rw [va_up_ne _ _ h]
theorem cb_pcs {G : zG} {M : zM} {b : Nat} {st : Nat → Int32} {dy x : Int32} {br : Nat → Int32} {sp wa : Nat → Nat → Int32} {ac ps pp pu lo : Nat → Int32} {un op : Int32} {pi : Nat → Nat} {cn : Nat → Nat → Nat → Int32} {vl du : Nat → Int32} {io : Nat → Bool} {hp hs : Nat → Int32} {j : Nat} (hj : j < 5) : pcM G (cbM G M b st dy x br sp wa ac ps pp pu lo un op pi cn vl du io hp hs) (b + 26 + 8 * j) (cn j) (vl j) (du j) (io j) = cbM G M b st dy x br sp wa ac ps pp pu lo un op pi cn vl du io hp hs := by
  rw [cb_pcv hj, va_up_same, va_up_same, va_up_same, va_up_same]
theorem cbP_up {b : Nat} {pi : Nat → Nat} {i j : Nat} (hi : i < 5) : va_up (cbP b pi) i (some (b + 26 + 8 * j)) = cbP b (va_up pi i j) := by
  funext k
  by_cases h : k = i
  · subst h; rw [va_up_self]; unfold cbP; rw [if_pos hi, va_up_self]
  · rw [va_up_ne _ _ h]; unfold cbP; rw [va_up_ne _ _ h]
theorem r_aastN {K : zK} {G : zG} {y : MethodName} {b : ByteArray} {nL : Nat} {R : Room} {ret : Option FieldType} {Q : State → Prop} {cells slots : Nat} {M : zM} {N pc : Nat} {lv : List (Nat × Value)} {st : List Value} (h : zOk K G y b nL R ret) {a n v ci n2 : Nat} {fs : List Value} {C : String} {T : u_T} {ty : Nat → FieldType} {f : Nat → Option Nat} {i : Nat} {M' : zM} (t : Nat) (hc : zCi ci C T n2 ty) (ht : (zTy G.2.1)[t]? = some (G.2.1 t, .object C)) (hi : i < n) (hn : n < 2 ^ 31) (hd : decode b pc = .ok (.aastore, 1)) (hM : M a = some (zR (G.2.1 t) n f)) (hv : M v = some (zO ci fs)) (hM' : zu M a (zR (G.2.1 t) n (va_up f i (some v))) = M') (kk : zW K G nL Q cells slots M' N (pc + 1) lv st) : zW K G nL Q cells slots M N pc lv (.ref v :: .int (nI i) :: .ref a :: st) := r_aast h t hc ht hd hM (vp_in_nI hi hn) hv (by rw [nI_clamp (by omega)]; exact hM') kk

theorem r_ineg {K : zK} {G : zG} {y : MethodName} {b : ByteArray} {nL : Nat} {R : Room} {ret : Option FieldType} {Q : State → Prop} {cells slots : Nat} {M : zM} {N pc : Nat} {lv : List (Nat × Value)} {st : List Value} (h : zOk K G y b nL R ret) {x : Int32} (hd : decode b pc = .ok (.ineg, 1)) (k : zW K G nL Q cells slots M N (pc + 1) lv (.int (-x) :: st)) : zW K G nL Q cells slots M N pc lv (.int x :: st) := by
  obtain ⟨p, l, e, R0, s, m, args, below, meth, c⟩ := K
  obtain ⟨hx, hb, hml, hown, hK, hR, hret, hlk, hnm⟩ := h
  intro H locs ls hH hlo hl
  dsimp only at hx hb hml hown hK hR hret hlk hnm ⊢
  exact lv_ineg hx hb hd (k H locs ls hH hlo hl)

theorem r_mmin {K : zK} {G : zG} {y : MethodName} {b : ByteArray} {nL : Nat} {R : Room} {ret : Option FieldType} {Q : State → Prop} {cells slots : Nat} {M : zM} {N pc : Nat} {lv : List (Nat × Value)} (h : zOk K G y b nL R ret) {index : Nat} {x z : Int32} (rest : List Value) (hlk : Cond.methodLink y.cls index Lib.Math.min.name ∈ lw_tbl) (hstc : Cond.static Lib.Math.min.name ∈ lw_tbl) (hini : Cond.initialized "java/lang/Math" ∈ lw_tbl) (hco : Cond.code Lib.Math.min.name Lib.Math.min.code 2 (some .int) ∈ lw_tbl) (hd : decode b pc = .ok (.invokestatic index, 3)) (hfr : 1 ≤ R.frames) (hlc : (rest.map fun v => v.category).sum + 13 ≤ R.locals) (hc : cells ≤ R.cells) (hs : slots ≤ R.slots)
    (k : zW K G nL Q cells slots M N (pc + 3) lv (.int (if z < x then z else x) :: rest)) : zW K G nL Q cells slots M N pc lv (.int z :: .int x :: rest) := by
  obtain ⟨p, l, e, R0, s, m, args, below, meth, c⟩ := K
  obtain ⟨hx, hb, hml, hown, hK, hR, hret, hlk0, hnm⟩ := h
  intro H locs ls hH hlo hl
  dsimp only at hx hb hml hown hK hR hret hlk0 hnm ⊢
  subst hR
  exact va_mmin hx hb (hml.trans hl.1.symm) hown (hK.2.1.use hlk rfl args) (hK.2.1.use hstc rfl args) (hK.2.1.use hini rfl args) (hK.2.1.use hco rfl args) hfr hlc hc hs hd (k H locs ls hH hlo hl)

theorem r_mmax {K : zK} {G : zG} {y : MethodName} {b : ByteArray} {nL : Nat} {R : Room} {ret : Option FieldType} {Q : State → Prop} {cells slots : Nat} {M : zM} {N pc : Nat} {lv : List (Nat × Value)} (h : zOk K G y b nL R ret) {index : Nat} {x z : Int32} (rest : List Value) (hlk : Cond.methodLink y.cls index Lib.Math.max.name ∈ lw_tbl) (hstc : Cond.static Lib.Math.max.name ∈ lw_tbl) (hini : Cond.initialized "java/lang/Math" ∈ lw_tbl) (hco : Cond.code Lib.Math.max.name Lib.Math.max.code 2 (some .int) ∈ lw_tbl) (hd : decode b pc = .ok (.invokestatic index, 3)) (hfr : 1 ≤ R.frames) (hlc : (rest.map fun v => v.category).sum + 13 ≤ R.locals) (hc : cells ≤ R.cells) (hs : slots ≤ R.slots)
    (k : zW K G nL Q cells slots M N (pc + 3) lv (.int (if x < z then z else x) :: rest)) : zW K G nL Q cells slots M N pc lv (.int z :: .int x :: rest) := by
  obtain ⟨p, l, e, R0, s, m, args, below, meth, c⟩ := K
  obtain ⟨hx, hb, hml, hown, hK, hR, hret, hlk0, hnm⟩ := h
  intro H locs ls hH hlo hl
  dsimp only at hx hb hml hown hK hR hret hlk0 hnm ⊢
  subst hR
  exact va_mmax hx hb (hml.trans hl.1.symm) hown (hK.2.1.use hlk rfl args) (hK.2.1.use hstc rfl args) (hK.2.1.use hini rfl args) (hK.2.1.use hco rfl args) hfr hlc hc hs hd (k H locs ls hH hlo hl)

theorem r_mabs {K : zK} {G : zG} {y : MethodName} {b : ByteArray} {nL : Nat} {R : Room} {ret : Option FieldType} {Q : State → Prop} {cells slots : Nat} {M : zM} {N pc : Nat} {lv : List (Nat × Value)} (h : zOk K G y b nL R ret) {index : Nat} {x : Int32} (rest : List Value) (hlk : Cond.methodLink y.cls index Lib.Math.abs.name ∈ lw_tbl) (hstc : Cond.static Lib.Math.abs.name ∈ lw_tbl) (hini : Cond.initialized "java/lang/Math" ∈ lw_tbl) (hco : Cond.code Lib.Math.abs.name Lib.Math.abs.code 1 (some .int) ∈ lw_tbl) (hd : decode b pc = .ok (.invokestatic index, 3)) (hfr : 1 ≤ R.frames) (hlc : (rest.map fun v => v.category).sum + 13 ≤ R.locals) (hc : cells ≤ R.cells) (hs : slots ≤ R.slots)
    (k : zW K G nL Q cells slots M N (pc + 3) lv (.int (if 0 ≤ x then x else 0 - x) :: rest)) : zW K G nL Q cells slots M N pc lv (.int x :: rest) := by
  obtain ⟨p, l, e, R0, s, m, args, below, meth, c⟩ := K
  obtain ⟨hx, hb, hml, hown, hK, hR, hret, hlk0, hnm⟩ := h
  intro H locs ls hH hlo hl
  dsimp only at hx hb hml hown hK hR hret hlk0 hnm ⊢
  subst hR
  exact va_mabs hx hb (hml.trans hl.1.symm) hown (hK.2.1.use hlk rfl args) (hK.2.1.use hstc rfl args) (hK.2.1.use hini rfl args) (hK.2.1.use hco rfl args) hfr hlc hc hs hd (k H locs ls hH hlo hl)

theorem lm_min_c : Cond.code Lib.Math.min.name Lib.Math.min.code 2 (some .int) ∈ lw_tbl := cd_J9_min_7cf53
theorem lm_max_c : Cond.code Lib.Math.max.name Lib.Math.max.code 2 (some .int) ∈ lw_tbl := cd_J9_max_7cf53
theorem lm_abs_c : Cond.code Lib.Math.abs.name Lib.Math.abs.code 1 (some .int) ∈ lw_tbl := cd_J9_abs_0f7a4
