section ZR
variable {K : zK} {G : zG} {y : MethodName} {b : ByteArray} {nL : Nat} {R : Room} {ret : Option FieldType} {Q : State → Prop} {cells slots : Nat} {M : zM} {N pc : Nat} {lv : List (Nat × Value)} {st : List Value}
theorem r_iconst (h : zOk K G y b nL R ret) {n : Int} (v : Int32) (hd : decode b pc = .ok (.iconst n, 1)) (hv : Int32.ofInt n = v) (k : zW K G nL Q cells slots M N (pc + 1) lv (.int v :: st)) : zW K G nL Q cells slots M N pc lv (st) := by
  obtain ⟨p, l, e, R0, s, m, args, below, meth, c⟩ := K
  obtain ⟨hx, hb, hml, hown, hK, hR, hret, hlk, hnm⟩ := h
  intro H locs ls hH hlo hl
  dsimp only at hx hb hml hown hK hR hret hlk hnm ⊢
  exact lv_iconst hx hb hd hv (k H locs ls hH hlo hl)
theorem r_bipush (h : zOk K G y b nL R ret) {n : Int} (v : Int32) (hd : decode b pc = .ok (.bipush n, 2)) (hv : (Int8.ofInt n).toInt32 = v) (k : zW K G nL Q cells slots M N (pc + 2) lv (.int v :: st)) : zW K G nL Q cells slots M N pc lv (st) := by
  obtain ⟨p, l, e, R0, s, m, args, below, meth, c⟩ := K
  obtain ⟨hx, hb, hml, hown, hK, hR, hret, hlk, hnm⟩ := h
  intro H locs ls hH hlo hl
  dsimp only at hx hb hml hown hK hR hret hlk hnm ⊢
  exact lv_bipush hx hb hd hv (k H locs ls hH hlo hl)
theorem r_sipush (h : zOk K G y b nL R ret) {n : Int} (v : Int32) (hd : decode b pc = .ok (.sipush n, 3)) (hv : (Int16.ofInt n).toInt32 = v) (k : zW K G nL Q cells slots M N (pc + 3) lv (.int v :: st)) : zW K G nL Q cells slots M N pc lv (st) := by
  obtain ⟨p, l, e, R0, s, m, args, below, meth, c⟩ := K
  obtain ⟨hx, hb, hml, hown, hK, hR, hret, hlk, hnm⟩ := h
  intro H locs ls hH hlo hl
  dsimp only at hx hb hml hown hK hR hret hlk hnm ⊢
  exact lv_sipush hx hb hd hv (k H locs ls hH hlo hl)
theorem r_lconst (h : zOk K G y b nL R ret) {n : Fin 2} (v : Int64) (hd : decode b pc = .ok (.lconst n, 1)) (hv : Int64.ofNat (n : Nat) = v) (k : zW K G nL Q cells slots M N (pc + 1) lv (.long v :: st)) : zW K G nL Q cells slots M N pc lv (st) := by
  obtain ⟨p, l, e, R0, s, m, args, below, meth, c⟩ := K
  obtain ⟨hx, hb, hml, hown, hK, hR, hret, hlk, hnm⟩ := h
  intro H locs ls hH hlo hl
  dsimp only at hx hb hml hown hK hR hret hlk hnm ⊢
  exact lv_lconst hx hb hd hv (k H locs ls hH hlo hl)
theorem r_ldc (h : zOk K G y b nL R ret) {index : Nat} {v : Int32} (hw : Cond.constant y.cls index v ∈ lw_tbl) (hd : decode b pc = .ok (.ldc index, 2)) (k : zW K G nL Q cells slots M N (pc + 2) lv (.int v :: st)) : zW K G nL Q cells slots M N pc lv (st) := by
  obtain ⟨p, l, e, R0, s, m, args, below, meth, c⟩ := K
  obtain ⟨hx, hb, hml, hown, hK, hR, hret, hlk, hnm⟩ := h
  intro H locs ls hH hlo hl
  dsimp only at hx hb hml hown hK hR hret hlk hnm ⊢
  exact lv_ldc hx hb hown (hK.2.1.use hw rfl args) hd (k H locs ls hH hlo hl)
theorem r_ldcw (h : zOk K G y b nL R ret) {index : Nat} {v : Int32} (hw : Cond.constant y.cls index v ∈ lw_tbl) (hd : decode b pc = .ok (.ldc_w index, 3)) (k : zW K G nL Q cells slots M N (pc + 3) lv (.int v :: st)) : zW K G nL Q cells slots M N pc lv (st) := by
  obtain ⟨p, l, e, R0, s, m, args, below, meth, c⟩ := K
  obtain ⟨hx, hb, hml, hown, hK, hR, hret, hlk, hnm⟩ := h
  intro H locs ls hH hlo hl
  dsimp only at hx hb hml hown hK hR hret hlk hnm ⊢
  exact lv_ldcw hx hb hown (hK.2.1.use hw rfl args) hd (k H locs ls hH hlo hl)
theorem r_ldc2 (h : zOk K G y b nL R ret) {index : Nat} {v : Int64} (hw : Cond.constantLong y.cls index v ∈ lw_tbl) (hd : decode b pc = .ok (.ldc2_w index, 3)) (k : zW K G nL Q cells slots M N (pc + 3) lv (.long v :: st)) : zW K G nL Q cells slots M N pc lv (st) := by
  obtain ⟨p, l, e, R0, s, m, args, below, meth, c⟩ := K
  obtain ⟨hx, hb, hml, hown, hK, hR, hret, hlk, hnm⟩ := h
  intro H locs ls hH hlo hl
  dsimp only at hx hb hml hown hK hR hret hlk hnm ⊢
  exact lv_ldc2 hx hb hown (hK.2.1.use hw rfl args) hd (k H locs ls hH hlo hl)
theorem r_iload_n (h : zOk K G y b nL R ret) {q : Fin 4} {i : Nat} {x : Int32} (hd : decode b pc = .ok (.iload_n q, 1)) (j : Nat) (hj : lv[j]? = some (i, .int x)) (hi : (q : Nat) = i) (k : zW K G nL Q cells slots M N (pc + 1) lv (.int x :: st)) : zW K G nL Q cells slots M N pc lv (st) := by
  obtain ⟨p, l, e, R0, s, m, args, below, meth, c⟩ := K
  obtain ⟨hx, hb, hml, hown, hK, hR, hret, hlk, hnm⟩ := h
  intro H locs ls hH hlo hl
  dsimp only at hx hb hml hown hK hR hret hlk hnm ⊢
  exact lv_iload_n hx hb hd hi (lv_at hl j hj) (k H locs ls hH hlo hl)
theorem r_iload (h : zOk K G y b nL R ret) {i : Nat} {x : Int32} (hd : decode b pc = .ok (.iload i, 2)) (j : Nat) (hj : lv[j]? = some (i, .int x)) (k : zW K G nL Q cells slots M N (pc + 2) lv (.int x :: st)) : zW K G nL Q cells slots M N pc lv (st) := by
  obtain ⟨p, l, e, R0, s, m, args, below, meth, c⟩ := K
  obtain ⟨hx, hb, hml, hown, hK, hR, hret, hlk, hnm⟩ := h
  intro H locs ls hH hlo hl
  dsimp only at hx hb hml hown hK hR hret hlk hnm ⊢
  exact lv_iload hx hb hd (lv_at hl j hj) (k H locs ls hH hlo hl)
theorem r_lload_n (h : zOk K G y b nL R ret) {q : Fin 4} {i : Nat} {x : Int64} (hd : decode b pc = .ok (.lload_n q, 1)) (j : Nat) (hj : lv[j]? = some (i, .long x)) (hi : (q : Nat) = i) (k : zW K G nL Q cells slots M N (pc + 1) lv (.long x :: st)) : zW K G nL Q cells slots M N pc lv (st) := by
  obtain ⟨p, l, e, R0, s, m, args, below, meth, c⟩ := K
  obtain ⟨hx, hb, hml, hown, hK, hR, hret, hlk, hnm⟩ := h
  intro H locs ls hH hlo hl
  dsimp only at hx hb hml hown hK hR hret hlk hnm ⊢
  exact lv_lload_n hx hb hd hi (lv_at hl j hj) (k H locs ls hH hlo hl)
theorem r_lload (h : zOk K G y b nL R ret) {i : Nat} {x : Int64} (hd : decode b pc = .ok (.lload i, 2)) (j : Nat) (hj : lv[j]? = some (i, .long x)) (k : zW K G nL Q cells slots M N (pc + 2) lv (.long x :: st)) : zW K G nL Q cells slots M N pc lv (st) := by
  obtain ⟨p, l, e, R0, s, m, args, below, meth, c⟩ := K
  obtain ⟨hx, hb, hml, hown, hK, hR, hret, hlk, hnm⟩ := h
  intro H locs ls hH hlo hl
  dsimp only at hx hb hml hown hK hR hret hlk hnm ⊢
  exact lv_lload hx hb hd (lv_at hl j hj) (k H locs ls hH hlo hl)
theorem r_aload_n (h : zOk K G y b nL R ret) {q : Fin 4} {i : Nat} {x : Nat} (hd : decode b pc = .ok (.aload_n q, 1)) (j : Nat) (hj : lv[j]? = some (i, .ref x)) (hi : (q : Nat) = i) (k : zW K G nL Q cells slots M N (pc + 1) lv (.ref x :: st)) : zW K G nL Q cells slots M N pc lv (st) := by
  obtain ⟨p, l, e, R0, s, m, args, below, meth, c⟩ := K
  obtain ⟨hx, hb, hml, hown, hK, hR, hret, hlk, hnm⟩ := h
  intro H locs ls hH hlo hl
  dsimp only at hx hb hml hown hK hR hret hlk hnm ⊢
  exact lv_aload_n hx hb hd hi (lv_at hl j hj) (k H locs ls hH hlo hl)
theorem r_aload (h : zOk K G y b nL R ret) {i : Nat} {x : Nat} (hd : decode b pc = .ok (.aload i, 2)) (j : Nat) (hj : lv[j]? = some (i, .ref x)) (k : zW K G nL Q cells slots M N (pc + 2) lv (.ref x :: st)) : zW K G nL Q cells slots M N pc lv (st) := by
  obtain ⟨p, l, e, R0, s, m, args, below, meth, c⟩ := K
  obtain ⟨hx, hb, hml, hown, hK, hR, hret, hlk, hnm⟩ := h
  intro H locs ls hH hlo hl
  dsimp only at hx hb hml hown hK hR hret hlk hnm ⊢
  exact lv_aload hx hb hd (lv_at hl j hj) (k H locs ls hH hlo hl)
theorem r_istore_n (h : zOk K G y b nL R ret) {q : Fin 4} {i : Nat} {x : Int32} (lv' : List (Nat × Value)) (hd : decode b pc = .ok (.istore_n q, 1)) (hi : (q : Nat) = i) (hn : i < nL) (hl' : (i, Value.int x) :: lv.filter (fun q => !(q.1 == i) && !(q.1 + 1 == i && q.2.category == 2)) = lv') (k : zW K G nL Q cells slots M N (pc + 1) lv' (st)) : zW K G nL Q cells slots M N pc lv (.int x :: st) := by
  obtain ⟨p, l, e, R0, s, m, args, below, meth, c⟩ := K
  obtain ⟨hx, hb, hml, hown, hK, hR, hret, hlk, hnm⟩ := h
  intro H locs ls hH hlo hl
  dsimp only at hx hb hml hown hK hR hret hlk hnm ⊢
  exact lv_istore_n hx hb hd hi hl hn hl' (fun ls hl => k H locs ls hH hlo hl)
theorem r_istore (h : zOk K G y b nL R ret) {i : Nat} {x : Int32} (lv' : List (Nat × Value)) (hd : decode b pc = .ok (.istore i, 2)) (hn : i < nL) (hl' : (i, Value.int x) :: lv.filter (fun q => !(q.1 == i) && !(q.1 + 1 == i && q.2.category == 2)) = lv') (k : zW K G nL Q cells slots M N (pc + 2) lv' (st)) : zW K G nL Q cells slots M N pc lv (.int x :: st) := by
  obtain ⟨p, l, e, R0, s, m, args, below, meth, c⟩ := K
  obtain ⟨hx, hb, hml, hown, hK, hR, hret, hlk, hnm⟩ := h
  intro H locs ls hH hlo hl
  dsimp only at hx hb hml hown hK hR hret hlk hnm ⊢
  exact lv_istore hx hb hd hl hn hl' (fun ls hl => k H locs ls hH hlo hl)
theorem r_astore_n (h : zOk K G y b nL R ret) {q : Fin 4} {i : Nat} {x : Nat} (lv' : List (Nat × Value)) (hd : decode b pc = .ok (.astore_n q, 1)) (hi : (q : Nat) = i) (hn : i < nL) (hl' : (i, Value.ref x) :: lv.filter (fun q => !(q.1 == i) && !(q.1 + 1 == i && q.2.category == 2)) = lv') (k : zW K G nL Q cells slots M N (pc + 1) lv' (st)) : zW K G nL Q cells slots M N pc lv (.ref x :: st) := by
  obtain ⟨p, l, e, R0, s, m, args, below, meth, c⟩ := K
  obtain ⟨hx, hb, hml, hown, hK, hR, hret, hlk, hnm⟩ := h
  intro H locs ls hH hlo hl
  dsimp only at hx hb hml hown hK hR hret hlk hnm ⊢
  exact lv_astore_n hx hb hd hi hl hn hl' (fun ls hl => k H locs ls hH hlo hl)
theorem r_astore (h : zOk K G y b nL R ret) {i : Nat} {x : Nat} (lv' : List (Nat × Value)) (hd : decode b pc = .ok (.astore i, 2)) (hn : i < nL) (hl' : (i, Value.ref x) :: lv.filter (fun q => !(q.1 == i) && !(q.1 + 1 == i && q.2.category == 2)) = lv') (k : zW K G nL Q cells slots M N (pc + 2) lv' (st)) : zW K G nL Q cells slots M N pc lv (.ref x :: st) := by
  obtain ⟨p, l, e, R0, s, m, args, below, meth, c⟩ := K
  obtain ⟨hx, hb, hml, hown, hK, hR, hret, hlk, hnm⟩ := h
  intro H locs ls hH hlo hl
  dsimp only at hx hb hml hown hK hR hret hlk hnm ⊢
  exact lv_astore hx hb hd hl hn hl' (fun ls hl => k H locs ls hH hlo hl)
theorem r_lstore_n (h : zOk K G y b nL R ret) {q : Fin 4} {i : Nat} {x : Int64} (lv' : List (Nat × Value)) (hd : decode b pc = .ok (.lstore_n q, 1)) (hi : (q : Nat) = i) (hn : i + 1 < nL) (hl' : (i, Value.long x) :: lv.filter (fun q => !(q.1 == i) && (!(q.1 == i + 1) && !(q.1 + 1 == i && q.2.category == 2))) = lv') (k : zW K G nL Q cells slots M N (pc + 1) lv' (st)) : zW K G nL Q cells slots M N pc lv (.long x :: st) := by
  obtain ⟨p, l, e, R0, s, m, args, below, meth, c⟩ := K
  obtain ⟨hx, hb, hml, hown, hK, hR, hret, hlk, hnm⟩ := h
  intro H locs ls hH hlo hl
  dsimp only at hx hb hml hown hK hR hret hlk hnm ⊢
  exact lv_lstore_n hx hb hd hi hl hn hl' (fun ls hl => k H locs ls hH hlo hl)
theorem r_iinc (h : zOk K G y b nL R ret) {i : Nat} {n : Int} {x : Int32} (v : Int32) (lv' : List (Nat × Value)) (hd : decode b pc = .ok (.iinc i n, 3)) (j : Nat) (hj : lv[j]? = some (i, .int x)) (hv : x + Int32.ofInt n = v) (hn : i < nL) (hl' : (i, Value.int v) :: lv.filter (fun q => !(q.1 == i) && !(q.1 + 1 == i && q.2.category == 2)) = lv') (k : zW K G nL Q cells slots M N (pc + 3) lv' (st)) : zW K G nL Q cells slots M N pc lv (st) := by
  obtain ⟨p, l, e, R0, s, m, args, below, meth, c⟩ := K
  obtain ⟨hx, hb, hml, hown, hK, hR, hret, hlk, hnm⟩ := h
  intro H locs ls hH hlo hl
  dsimp only at hx hb hml hown hK hR hret hlk hnm ⊢
  exact lv_iinc hx hb hd hl hj hv hn hl' (fun ls hl => k H locs ls hH hlo hl)
theorem r_iadd (h : zOk K G y b nL R ret) {x y' : Int32} (hd : decode b pc = .ok (.iadd, 1)) (k : zW K G nL Q cells slots M N (pc + 1) lv (.int (x + y') :: st)) : zW K G nL Q cells slots M N pc lv (.int y' :: .int x :: st) := by
  obtain ⟨p, l, e, R0, s, m, args, below, meth, c⟩ := K
  obtain ⟨hx, hb, hml, hown, hK, hR, hret, hlk, hnm⟩ := h
  intro H locs ls hH hlo hl
  dsimp only at hx hb hml hown hK hR hret hlk hnm ⊢
  exact lv_iadd hx hb hd (k H locs ls hH hlo hl)
theorem r_isub (h : zOk K G y b nL R ret) {x y' : Int32} (hd : decode b pc = .ok (.isub, 1)) (k : zW K G nL Q cells slots M N (pc + 1) lv (.int (x - y') :: st)) : zW K G nL Q cells slots M N pc lv (.int y' :: .int x :: st) := by
  obtain ⟨p, l, e, R0, s, m, args, below, meth, c⟩ := K
  obtain ⟨hx, hb, hml, hown, hK, hR, hret, hlk, hnm⟩ := h
  intro H locs ls hH hlo hl
  dsimp only at hx hb hml hown hK hR hret hlk hnm ⊢
  exact lv_isub hx hb hd (k H locs ls hH hlo hl)
theorem r_imul (h : zOk K G y b nL R ret) {x y' : Int32} (hd : decode b pc = .ok (.imul, 1)) (k : zW K G nL Q cells slots M N (pc + 1) lv (.int (x * y') :: st)) : zW K G nL Q cells slots M N pc lv (.int y' :: .int x :: st) := by
  obtain ⟨p, l, e, R0, s, m, args, below, meth, c⟩ := K
  obtain ⟨hx, hb, hml, hown, hK, hR, hret, hlk, hnm⟩ := h
  intro H locs ls hH hlo hl
  dsimp only at hx hb hml hown hK hR hret hlk hnm ⊢
  exact lv_imul hx hb hd (k H locs ls hH hlo hl)
theorem r_iand (h : zOk K G y b nL R ret) {x y' : Int32} (hd : decode b pc = .ok (.iand, 1)) (k : zW K G nL Q cells slots M N (pc + 1) lv (.int (x &&& y') :: st)) : zW K G nL Q cells slots M N pc lv (.int y' :: .int x :: st) := by
  obtain ⟨p, l, e, R0, s, m, args, below, meth, c⟩ := K
  obtain ⟨hx, hb, hml, hown, hK, hR, hret, hlk, hnm⟩ := h
  intro H locs ls hH hlo hl
  dsimp only at hx hb hml hown hK hR hret hlk hnm ⊢
  exact lv_iand hx hb hd (k H locs ls hH hlo hl)
theorem r_ior (h : zOk K G y b nL R ret) {x y' : Int32} (hd : decode b pc = .ok (.ior, 1)) (k : zW K G nL Q cells slots M N (pc + 1) lv (.int (x ||| y') :: st)) : zW K G nL Q cells slots M N pc lv (.int y' :: .int x :: st) := by
  obtain ⟨p, l, e, R0, s, m, args, below, meth, c⟩ := K
  obtain ⟨hx, hb, hml, hown, hK, hR, hret, hlk, hnm⟩ := h
  intro H locs ls hH hlo hl
  dsimp only at hx hb hml hown hK hR hret hlk hnm ⊢
  exact lv_ior hx hb hd (k H locs ls hH hlo hl)
theorem r_ixor (h : zOk K G y b nL R ret) {x y' : Int32} (hd : decode b pc = .ok (.ixor, 1)) (k : zW K G nL Q cells slots M N (pc + 1) lv (.int (x ^^^ y') :: st)) : zW K G nL Q cells slots M N pc lv (.int y' :: .int x :: st) := by
  obtain ⟨p, l, e, R0, s, m, args, below, meth, c⟩ := K
  obtain ⟨hx, hb, hml, hown, hK, hR, hret, hlk, hnm⟩ := h
  intro H locs ls hH hlo hl
  dsimp only at hx hb hml hown hK hR hret hlk hnm ⊢
  exact lv_ixor hx hb hd (k H locs ls hH hlo hl)
theorem r_ladd (h : zOk K G y b nL R ret) {x y' : Int64} (hd : decode b pc = .ok (.ladd, 1)) (k : zW K G nL Q cells slots M N (pc + 1) lv (.long (x + y') :: st)) : zW K G nL Q cells slots M N pc lv (.long y' :: .long x :: st) := by
  obtain ⟨p, l, e, R0, s, m, args, below, meth, c⟩ := K
  obtain ⟨hx, hb, hml, hown, hK, hR, hret, hlk, hnm⟩ := h
  intro H locs ls hH hlo hl
  dsimp only at hx hb hml hown hK hR hret hlk hnm ⊢
  exact lv_ladd hx hb hd (k H locs ls hH hlo hl)
theorem r_lmul (h : zOk K G y b nL R ret) {x y' : Int64} (hd : decode b pc = .ok (.lmul, 1)) (k : zW K G nL Q cells slots M N (pc + 1) lv (.long (x * y') :: st)) : zW K G nL Q cells slots M N pc lv (.long y' :: .long x :: st) := by
  obtain ⟨p, l, e, R0, s, m, args, below, meth, c⟩ := K
  obtain ⟨hx, hb, hml, hown, hK, hR, hret, hlk, hnm⟩ := h
  intro H locs ls hH hlo hl
  dsimp only at hx hb hml hown hK hR hret hlk hnm ⊢
  exact lv_lmul hx hb hd (k H locs ls hH hlo hl)
theorem r_land (h : zOk K G y b nL R ret) {x y' : Int64} (hd : decode b pc = .ok (.land, 1)) (k : zW K G nL Q cells slots M N (pc + 1) lv (.long (x &&& y') :: st)) : zW K G nL Q cells slots M N pc lv (.long y' :: .long x :: st) := by
  obtain ⟨p, l, e, R0, s, m, args, below, meth, c⟩ := K
  obtain ⟨hx, hb, hml, hown, hK, hR, hret, hlk, hnm⟩ := h
  intro H locs ls hH hlo hl
  dsimp only at hx hb hml hown hK hR hret hlk hnm ⊢
  exact lv_land hx hb hd (k H locs ls hH hlo hl)
theorem r_lor (h : zOk K G y b nL R ret) {x y' : Int64} (hd : decode b pc = .ok (.lor, 1)) (k : zW K G nL Q cells slots M N (pc + 1) lv (.long (x ||| y') :: st)) : zW K G nL Q cells slots M N pc lv (.long y' :: .long x :: st) := by
  obtain ⟨p, l, e, R0, s, m, args, below, meth, c⟩ := K
  obtain ⟨hx, hb, hml, hown, hK, hR, hret, hlk, hnm⟩ := h
  intro H locs ls hH hlo hl
  dsimp only at hx hb hml hown hK hR hret hlk hnm ⊢
  exact lv_lor hx hb hd (k H locs ls hH hlo hl)
end ZR
