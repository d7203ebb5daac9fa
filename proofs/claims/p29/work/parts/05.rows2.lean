section ZR2
variable {K : zK} {G : zG} {y : MethodName} {b : ByteArray} {nL : Nat} {R : Room} {ret : Option FieldType} {Q : State → Prop} {cells slots : Nat} {M : zM} {N pc : Nat} {lv : List (Nat × Value)} {st : List Value}
theorem r_idiv (h : zOk K G y b nL R ret) {x y' : Int32} (hne : ¬ y' = 0) (hd : decode b pc = .ok (.idiv, 1)) (k : zW K G nL Q cells slots M N (pc + 1) lv (.int (x / y') :: st)) : zW K G nL Q cells slots M N pc lv (.int y' :: .int x :: st) := by
  obtain ⟨p, l, e, R0, s, m, args, below, meth, c⟩ := K
  obtain ⟨hx, hb, hml, hown, hK, hR, hret, hlk, hnm⟩ := h
  intro H locs ls hH hlo hl
  dsimp only at hx hb hml hown hK hR hret hlk hnm ⊢
  exact lv_idiv hx hb hd hne (k H locs ls hH hlo hl)
theorem r_irem (h : zOk K G y b nL R ret) {x y' : Int32} (hne : ¬ y' = 0) (hd : decode b pc = .ok (.irem, 1)) (k : zW K G nL Q cells slots M N (pc + 1) lv (.int (x - x / y' * y') :: st)) : zW K G nL Q cells slots M N pc lv (.int y' :: .int x :: st) := by
  obtain ⟨p, l, e, R0, s, m, args, below, meth, c⟩ := K
  obtain ⟨hx, hb, hml, hown, hK, hR, hret, hlk, hnm⟩ := h
  intro H locs ls hH hlo hl
  dsimp only at hx hb hml hown hK hR hret hlk hnm ⊢
  exact lv_irem hx hb hd hne (k H locs ls hH hlo hl)
theorem r_lrem (h : zOk K G y b nL R ret) {x y' : Int64} (hne : ¬ y' = 0) (hd : decode b pc = .ok (.lrem, 1)) (k : zW K G nL Q cells slots M N (pc + 1) lv (.long (x - x / y' * y') :: st)) : zW K G nL Q cells slots M N pc lv (.long y' :: .long x :: st) := by
  obtain ⟨p, l, e, R0, s, m, args, below, meth, c⟩ := K
  obtain ⟨hx, hb, hml, hown, hK, hR, hret, hlk, hnm⟩ := h
  intro H locs ls hH hlo hl
  dsimp only at hx hb hml hown hK hR hret hlk hnm ⊢
  exact lv_lrem hx hb hd hne (k H locs ls hH hlo hl)
theorem r_ishl (h : zOk K G y b nL R ret) {x y' : Int32} (hd : decode b pc = .ok (.ishl, 1)) (k : zW K G nL Q cells slots M N (pc + 1) lv (.int (x <<< (y' &&& 31)) :: st)) : zW K G nL Q cells slots M N pc lv (.int y' :: .int x :: st) := by
  obtain ⟨p, l, e, R0, s, m, args, below, meth, c⟩ := K
  obtain ⟨hx, hb, hml, hown, hK, hR, hret, hlk, hnm⟩ := h
  intro H locs ls hH hlo hl
  dsimp only at hx hb hml hown hK hR hret hlk hnm ⊢
  exact lv_ishl hx hb hd (k H locs ls hH hlo hl)
theorem r_ishr (h : zOk K G y b nL R ret) {x y' : Int32} (hd : decode b pc = .ok (.ishr, 1)) (k : zW K G nL Q cells slots M N (pc + 1) lv (.int (x >>> (y' &&& 31)) :: st)) : zW K G nL Q cells slots M N pc lv (.int y' :: .int x :: st) := by
  obtain ⟨p, l, e, R0, s, m, args, below, meth, c⟩ := K
  obtain ⟨hx, hb, hml, hown, hK, hR, hret, hlk, hnm⟩ := h
  intro H locs ls hH hlo hl
  dsimp only at hx hb hml hown hK hR hret hlk hnm ⊢
  exact lv_ishr hx hb hd (k H locs ls hH hlo hl)
theorem r_iushr (h : zOk K G y b nL R ret) {x y' : Int32} (hd : decode b pc = .ok (.iushr, 1)) (k : zW K G nL Q cells slots M N (pc + 1) lv (.int (x.toUInt32 >>> (y'.toUInt32 &&& Int32.toUInt32 31)).toInt32 :: st)) : zW K G nL Q cells slots M N pc lv (.int y' :: .int x :: st) := by
  obtain ⟨p, l, e, R0, s, m, args, below, meth, c⟩ := K
  obtain ⟨hx, hb, hml, hown, hK, hR, hret, hlk, hnm⟩ := h
  intro H locs ls hH hlo hl
  dsimp only at hx hb hml hown hK hR hret hlk hnm ⊢
  exact lv_iushr hx hb hd rfl (k H locs ls hH hlo hl)
theorem r_lushr (h : zOk K G y b nL R ret) {x : Int64} {y' : Int32} (hd : decode b pc = .ok (.lushr, 1)) (k : zW K G nL Q cells slots M N (pc + 1) lv (.long (x.toUInt64 >>> (y'.toInt64.toUInt64 &&& Int64.toUInt64 63)).toInt64 :: st)) : zW K G nL Q cells slots M N pc lv (.int y' :: .long x :: st) := by
  obtain ⟨p, l, e, R0, s, m, args, below, meth, c⟩ := K
  obtain ⟨hx, hb, hml, hown, hK, hR, hret, hlk, hnm⟩ := h
  intro H locs ls hH hlo hl
  dsimp only at hx hb hml hown hK hR hret hlk hnm ⊢
  exact lv_lushr hx hb hd rfl (k H locs ls hH hlo hl)
theorem r_lshl (h : zOk K G y b nL R ret) {x : Int64} {y' : Int32} (hd : decode b pc = .ok (.lshl, 1)) (k : zW K G nL Q cells slots M N (pc + 1) lv (.long (x <<< (y'.toInt64 &&& 63)) :: st)) : zW K G nL Q cells slots M N pc lv (.int y' :: .long x :: st) := by
  obtain ⟨p, l, e, R0, s, m, args, below, meth, c⟩ := K
  obtain ⟨hx, hb, hml, hown, hK, hR, hret, hlk, hnm⟩ := h
  intro H locs ls hH hlo hl
  dsimp only at hx hb hml hown hK hR hret hlk hnm ⊢
  exact lv_lshl hx hb hd rfl (k H locs ls hH hlo hl)
theorem r_i2l (h : zOk K G y b nL R ret) {x : Int32} (hd : decode b pc = .ok (.i2l, 1)) (k : zW K G nL Q cells slots M N (pc + 1) lv (.long x.toInt64 :: st)) : zW K G nL Q cells slots M N pc lv (.int x :: st) := by
  obtain ⟨p, l, e, R0, s, m, args, below, meth, c⟩ := K
  obtain ⟨hx, hb, hml, hown, hK, hR, hret, hlk, hnm⟩ := h
  intro H locs ls hH hlo hl
  dsimp only at hx hb hml hown hK hR hret hlk hnm ⊢
  exact lv_i2l hx hb hd rfl (k H locs ls hH hlo hl)
theorem r_l2i (h : zOk K G y b nL R ret) {x : Int64} (hd : decode b pc = .ok (.l2i, 1)) (k : zW K G nL Q cells slots M N (pc + 1) lv (.int x.toInt32 :: st)) : zW K G nL Q cells slots M N pc lv (.long x :: st) := by
  obtain ⟨p, l, e, R0, s, m, args, below, meth, c⟩ := K
  obtain ⟨hx, hb, hml, hown, hK, hR, hret, hlk, hnm⟩ := h
  intro H locs ls hH hlo hl
  dsimp only at hx hb hml hown hK hR hret hlk hnm ⊢
  exact lv_l2i hx hb hd rfl (k H locs ls hH hlo hl)
theorem r_i2c (h : zOk K G y b nL R ret) {x : Int32} (hd : decode b pc = .ok (.i2c, 1)) (k : zW K G nL Q cells slots M N (pc + 1) lv (.int (x.toUInt32 % 65536).toInt32 :: st)) : zW K G nL Q cells slots M N pc lv (.int x :: st) := by
  obtain ⟨p, l, e, R0, s, m, args, below, meth, c⟩ := K
  obtain ⟨hx, hb, hml, hown, hK, hR, hret, hlk, hnm⟩ := h
  intro H locs ls hH hlo hl
  dsimp only at hx hb hml hown hK hR hret hlk hnm ⊢
  exact lv_i2c hx hb hd rfl (k H locs ls hH hlo hl)
theorem r_lcmp (h : zOk K G y b nL R ret) {x y' : Int64} (hd : decode b pc = .ok (.lcmp, 1)) (k : zW K G nL Q cells slots M N (pc + 1) lv (.int (lg_cmp x y') :: st)) : zW K G nL Q cells slots M N pc lv (.long y' :: .long x :: st) := by
  obtain ⟨p, l, e, R0, s, m, args, below, meth, c⟩ := K
  obtain ⟨hx, hb, hml, hown, hK, hR, hret, hlk, hnm⟩ := h
  intro H locs ls hH hlo hl
  dsimp only at hx hb hml hown hK hR hret hlk hnm ⊢
  exact W.lcmp hx hb hd (k H locs ls hH hlo hl)
theorem r_dup (h : zOk K G y b nL R ret) {v : Value} (hd : decode b pc = .ok (.dup, 1)) (hv : v.category = 1) (k : zW K G nL Q cells slots M N (pc + 1) lv (v :: v :: st)) : zW K G nL Q cells slots M N pc lv (v :: st) := by
  obtain ⟨p, l, e, R0, s, m, args, below, meth, c⟩ := K
  obtain ⟨hx, hb, hml, hown, hK, hR, hret, hlk, hnm⟩ := h
  intro H locs ls hH hlo hl
  dsimp only at hx hb hml hown hK hR hret hlk hnm ⊢
  exact lv_dup hx hb hd hv (k H locs ls hH hlo hl)
theorem r_pop (h : zOk K G y b nL R ret) {v : Value} (hd : decode b pc = .ok (.pop, 1)) (hv : v.category = 1) (k : zW K G nL Q cells slots M N (pc + 1) lv (st)) : zW K G nL Q cells slots M N pc lv (v :: st) := by
  obtain ⟨p, l, e, R0, s, m, args, below, meth, c⟩ := K
  obtain ⟨hx, hb, hml, hown, hK, hR, hret, hlk, hnm⟩ := h
  intro H locs ls hH hlo hl
  dsimp only at hx hb hml hown hK hR hret hlk hnm ⊢
  exact lv_pop hx hb hd hv (k H locs ls hH hlo hl)
theorem r_dup2 (h : zOk K G y b nL R ret) {v v' : Value} (hd : decode b pc = .ok (.dup2, 1)) (hv : v.category = 1) (hv' : v'.category = 1) (k : zW K G nL Q cells slots M N (pc + 1) lv (v :: v' :: v :: v' :: st)) : zW K G nL Q cells slots M N pc lv (v :: v' :: st) := by
  obtain ⟨p, l, e, R0, s, m, args, below, meth, c⟩ := K
  obtain ⟨hx, hb, hml, hown, hK, hR, hret, hlk, hnm⟩ := h
  intro H locs ls hH hlo hl
  dsimp only at hx hb hml hown hK hR hret hlk hnm ⊢
  exact lv_dup2_11 hx hb hd hv hv' (k H locs ls hH hlo hl)
theorem r_if_eq (h : zOk K G y b nL R ret) {x : Int32} {off : Int} (tgt : Nat) (hd : decode b pc = .ok (.ifCond .eq off, 3)) (ht : (pc : Int) + off = (tgt : Int)) (kt : x = 0 → zW K G nL Q cells slots M N tgt lv (st)) (kf : ¬ x = 0 → zW K G nL Q cells slots M N (pc + 3) lv (st)) : zW K G nL Q cells slots M N pc lv (.int x :: st) := by
  obtain ⟨p, l, e, R0, s, m, args, below, meth, c⟩ := K
  obtain ⟨hx, hb, hml, hown, hK, hR, hret, hlk, hnm⟩ := h
  intro H locs ls hH hlo hl
  dsimp only at hx hb hml hown hK hR hret hlk hnm ⊢
  exact lv_if_eq hx hb hd ht (fun q => kt q H locs ls hH hlo hl) (fun q => kf q H locs ls hH hlo hl)
theorem r_icmp_eq (h : zOk K G y b nL R ret) {x y' : Int32} {off : Int} (tgt : Nat) (hd : decode b pc = .ok (.if_icmp .eq off, 3)) (ht : (pc : Int) + off = (tgt : Int)) (kt : x = y' → zW K G nL Q cells slots M N tgt lv (st)) (kf : ¬ x = y' → zW K G nL Q cells slots M N (pc + 3) lv (st)) : zW K G nL Q cells slots M N pc lv (.int y' :: .int x :: st) := by
  obtain ⟨p, l, e, R0, s, m, args, below, meth, c⟩ := K
  obtain ⟨hx, hb, hml, hown, hK, hR, hret, hlk, hnm⟩ := h
  intro H locs ls hH hlo hl
  dsimp only at hx hb hml hown hK hR hret hlk hnm ⊢
  exact lv_icmp_eq hx hb hd ht (fun q => kt q H locs ls hH hlo hl) (fun q => kf q H locs ls hH hlo hl)
theorem r_if_ne (h : zOk K G y b nL R ret) {x : Int32} {off : Int} (tgt : Nat) (hd : decode b pc = .ok (.ifCond .ne off, 3)) (ht : (pc : Int) + off = (tgt : Int)) (kt : ¬ x = 0 → zW K G nL Q cells slots M N tgt lv (st)) (kf : x = 0 → zW K G nL Q cells slots M N (pc + 3) lv (st)) : zW K G nL Q cells slots M N pc lv (.int x :: st) := by
  obtain ⟨p, l, e, R0, s, m, args, below, meth, c⟩ := K
  obtain ⟨hx, hb, hml, hown, hK, hR, hret, hlk, hnm⟩ := h
  intro H locs ls hH hlo hl
  dsimp only at hx hb hml hown hK hR hret hlk hnm ⊢
  exact lv_if_ne hx hb hd ht (fun q => kt q H locs ls hH hlo hl) (fun q => kf q H locs ls hH hlo hl)
theorem r_icmp_ne (h : zOk K G y b nL R ret) {x y' : Int32} {off : Int} (tgt : Nat) (hd : decode b pc = .ok (.if_icmp .ne off, 3)) (ht : (pc : Int) + off = (tgt : Int)) (kt : ¬ x = y' → zW K G nL Q cells slots M N tgt lv (st)) (kf : x = y' → zW K G nL Q cells slots M N (pc + 3) lv (st)) : zW K G nL Q cells slots M N pc lv (.int y' :: .int x :: st) := by
  obtain ⟨p, l, e, R0, s, m, args, below, meth, c⟩ := K
  obtain ⟨hx, hb, hml, hown, hK, hR, hret, hlk, hnm⟩ := h
  intro H locs ls hH hlo hl
  dsimp only at hx hb hml hown hK hR hret hlk hnm ⊢
  exact lv_icmp_ne hx hb hd ht (fun q => kt q H locs ls hH hlo hl) (fun q => kf q H locs ls hH hlo hl)
theorem r_if_lt (h : zOk K G y b nL R ret) {x : Int32} {off : Int} (tgt : Nat) (hd : decode b pc = .ok (.ifCond .lt off, 3)) (ht : (pc : Int) + off = (tgt : Int)) (kt : x < 0 → zW K G nL Q cells slots M N tgt lv (st)) (kf : ¬ x < 0 → zW K G nL Q cells slots M N (pc + 3) lv (st)) : zW K G nL Q cells slots M N pc lv (.int x :: st) := by
  obtain ⟨p, l, e, R0, s, m, args, below, meth, c⟩ := K
  obtain ⟨hx, hb, hml, hown, hK, hR, hret, hlk, hnm⟩ := h
  intro H locs ls hH hlo hl
  dsimp only at hx hb hml hown hK hR hret hlk hnm ⊢
  exact lv_if_lt hx hb hd ht (fun q => kt q H locs ls hH hlo hl) (fun q => kf q H locs ls hH hlo hl)
theorem r_icmp_lt (h : zOk K G y b nL R ret) {x y' : Int32} {off : Int} (tgt : Nat) (hd : decode b pc = .ok (.if_icmp .lt off, 3)) (ht : (pc : Int) + off = (tgt : Int)) (kt : x < y' → zW K G nL Q cells slots M N tgt lv (st)) (kf : ¬ x < y' → zW K G nL Q cells slots M N (pc + 3) lv (st)) : zW K G nL Q cells slots M N pc lv (.int y' :: .int x :: st) := by
  obtain ⟨p, l, e, R0, s, m, args, below, meth, c⟩ := K
  obtain ⟨hx, hb, hml, hown, hK, hR, hret, hlk, hnm⟩ := h
  intro H locs ls hH hlo hl
  dsimp only at hx hb hml hown hK hR hret hlk hnm ⊢
  exact lv_icmp_lt hx hb hd ht (fun q => kt q H locs ls hH hlo hl) (fun q => kf q H locs ls hH hlo hl)
theorem r_if_ge (h : zOk K G y b nL R ret) {x : Int32} {off : Int} (tgt : Nat) (hd : decode b pc = .ok (.ifCond .ge off, 3)) (ht : (pc : Int) + off = (tgt : Int)) (kt : 0 ≤ x → zW K G nL Q cells slots M N tgt lv (st)) (kf : ¬ 0 ≤ x → zW K G nL Q cells slots M N (pc + 3) lv (st)) : zW K G nL Q cells slots M N pc lv (.int x :: st) := by
  obtain ⟨p, l, e, R0, s, m, args, below, meth, c⟩ := K
  obtain ⟨hx, hb, hml, hown, hK, hR, hret, hlk, hnm⟩ := h
  intro H locs ls hH hlo hl
  dsimp only at hx hb hml hown hK hR hret hlk hnm ⊢
  exact lv_if_ge hx hb hd ht (fun q => kt q H locs ls hH hlo hl) (fun q => kf q H locs ls hH hlo hl)
theorem r_icmp_ge (h : zOk K G y b nL R ret) {x y' : Int32} {off : Int} (tgt : Nat) (hd : decode b pc = .ok (.if_icmp .ge off, 3)) (ht : (pc : Int) + off = (tgt : Int)) (kt : y' ≤ x → zW K G nL Q cells slots M N tgt lv (st)) (kf : ¬ y' ≤ x → zW K G nL Q cells slots M N (pc + 3) lv (st)) : zW K G nL Q cells slots M N pc lv (.int y' :: .int x :: st) := by
  obtain ⟨p, l, e, R0, s, m, args, below, meth, c⟩ := K
  obtain ⟨hx, hb, hml, hown, hK, hR, hret, hlk, hnm⟩ := h
  intro H locs ls hH hlo hl
  dsimp only at hx hb hml hown hK hR hret hlk hnm ⊢
  exact lv_icmp_ge hx hb hd ht (fun q => kt q H locs ls hH hlo hl) (fun q => kf q H locs ls hH hlo hl)
theorem r_if_gt (h : zOk K G y b nL R ret) {x : Int32} {off : Int} (tgt : Nat) (hd : decode b pc = .ok (.ifCond .gt off, 3)) (ht : (pc : Int) + off = (tgt : Int)) (kt : 0 < x → zW K G nL Q cells slots M N tgt lv (st)) (kf : ¬ 0 < x → zW K G nL Q cells slots M N (pc + 3) lv (st)) : zW K G nL Q cells slots M N pc lv (.int x :: st) := by
  obtain ⟨p, l, e, R0, s, m, args, below, meth, c⟩ := K
  obtain ⟨hx, hb, hml, hown, hK, hR, hret, hlk, hnm⟩ := h
  intro H locs ls hH hlo hl
  dsimp only at hx hb hml hown hK hR hret hlk hnm ⊢
  exact lv_if_gt hx hb hd ht (fun q => kt q H locs ls hH hlo hl) (fun q => kf q H locs ls hH hlo hl)
theorem r_icmp_gt (h : zOk K G y b nL R ret) {x y' : Int32} {off : Int} (tgt : Nat) (hd : decode b pc = .ok (.if_icmp .gt off, 3)) (ht : (pc : Int) + off = (tgt : Int)) (kt : y' < x → zW K G nL Q cells slots M N tgt lv (st)) (kf : ¬ y' < x → zW K G nL Q cells slots M N (pc + 3) lv (st)) : zW K G nL Q cells slots M N pc lv (.int y' :: .int x :: st) := by
  obtain ⟨p, l, e, R0, s, m, args, below, meth, c⟩ := K
  obtain ⟨hx, hb, hml, hown, hK, hR, hret, hlk, hnm⟩ := h
  intro H locs ls hH hlo hl
  dsimp only at hx hb hml hown hK hR hret hlk hnm ⊢
  exact lv_icmp_gt hx hb hd ht (fun q => kt q H locs ls hH hlo hl) (fun q => kf q H locs ls hH hlo hl)
theorem r_if_le (h : zOk K G y b nL R ret) {x : Int32} {off : Int} (tgt : Nat) (hd : decode b pc = .ok (.ifCond .le off, 3)) (ht : (pc : Int) + off = (tgt : Int)) (kt : x ≤ 0 → zW K G nL Q cells slots M N tgt lv (st)) (kf : ¬ x ≤ 0 → zW K G nL Q cells slots M N (pc + 3) lv (st)) : zW K G nL Q cells slots M N pc lv (.int x :: st) := by
  obtain ⟨p, l, e, R0, s, m, args, below, meth, c⟩ := K
  obtain ⟨hx, hb, hml, hown, hK, hR, hret, hlk, hnm⟩ := h
  intro H locs ls hH hlo hl
  dsimp only at hx hb hml hown hK hR hret hlk hnm ⊢
  exact lv_if_le hx hb hd ht (fun q => kt q H locs ls hH hlo hl) (fun q => kf q H locs ls hH hlo hl)
theorem r_icmp_le (h : zOk K G y b nL R ret) {x y' : Int32} {off : Int} (tgt : Nat) (hd : decode b pc = .ok (.if_icmp .le off, 3)) (ht : (pc : Int) + off = (tgt : Int)) (kt : x ≤ y' → zW K G nL Q cells slots M N tgt lv (st)) (kf : ¬ x ≤ y' → zW K G nL Q cells slots M N (pc + 3) lv (st)) : zW K G nL Q cells slots M N pc lv (.int y' :: .int x :: st) := by
  obtain ⟨p, l, e, R0, s, m, args, below, meth, c⟩ := K
  obtain ⟨hx, hb, hml, hown, hK, hR, hret, hlk, hnm⟩ := h
  intro H locs ls hH hlo hl
  dsimp only at hx hb hml hown hK hR hret hlk hnm ⊢
  exact lv_icmp_le hx hb hd ht (fun q => kt q H locs ls hH hlo hl) (fun q => kf q H locs ls hH hlo hl)
theorem r_ifeq_b (h : zOk K G y b nL R ret) {P : Prop} {dP : Decidable P} {off : Int} (tgt : Nat) (hd : decode b pc = .ok (.ifCond .eq off, 3)) (ht : (pc : Int) + off = (tgt : Int)) (kt : ¬ P → zW K G nL Q cells slots M N tgt lv (st)) (kf : P → zW K G nL Q cells slots M N (pc + 3) lv (st)) : zW K G nL Q cells slots M N pc lv (.int (if P then 1 else 0) :: st) := by
  by_cases hP : P
  · rw [if_pos hP]; exact r_if_eq h tgt hd ht (fun q => absurd q (by decide)) (fun _ => kf hP)
  · rw [if_neg hP]; exact r_if_eq h tgt hd ht (fun _ => kt hP) (fun q => absurd rfl q)
theorem r_ifne_b (h : zOk K G y b nL R ret) {P : Prop} {dP : Decidable P} {off : Int} (tgt : Nat) (hd : decode b pc = .ok (.ifCond .ne off, 3)) (ht : (pc : Int) + off = (tgt : Int)) (kt : P → zW K G nL Q cells slots M N tgt lv (st)) (kf : ¬ P → zW K G nL Q cells slots M N (pc + 3) lv (st)) : zW K G nL Q cells slots M N pc lv (.int (if P then 1 else 0) :: st) := by
  by_cases hP : P
  · rw [if_pos hP]; exact r_if_ne h tgt hd ht (fun _ => kt hP) (fun q => absurd q (by decide))
  · rw [if_neg hP]; exact r_if_ne h tgt hd ht (fun q => absurd rfl q) (fun _ => kf hP)
theorem r_goto (h : zOk K G y b nL R ret) {off : Int} (tgt : Nat) (hd : decode b pc = .ok (.goto off, 3)) (ht : (pc : Int) + off = (tgt : Int)) (k : zW K G nL Q cells slots M N tgt lv (st)) : zW K G nL Q cells slots M N pc lv (st) := by
  obtain ⟨p, l, e, R0, s, m, args, below, meth, c⟩ := K
  obtain ⟨hx, hb, hml, hown, hK, hR, hret, hlk, hnm⟩ := h
  intro H locs ls hH hlo hl
  dsimp only at hx hb hml hown hK hR hret hlk hnm ⊢
  exact lv_goto hx hb hd ht (k H locs ls hH hlo hl)
theorem r_table (h : zOk K G y b nL R ret) {dflt lo hi : Int} {offs : Array Int} {len : Nat} {x : Int32} (hd : decode b pc = .ok (.tableswitch dflt lo hi offs, len)) {t : Nat} (ht : (pc : Int) + (if x.toInt < lo ∨ hi < x.toInt then dflt else offs.getD (x.toInt - lo).toNat dflt) = (t : Int)) (hsz : (offs.size : Int) = hi - lo + 1) (k : zW K G nL Q cells slots M N t lv (st)) : zW K G nL Q cells slots M N pc lv (.int x :: st) := by
  obtain ⟨p, l, e, R0, s, m, args, below, meth, c⟩ := K
  obtain ⟨hx, hb, hml, hown, hK, hR, hret, hlk, hnm⟩ := h
  intro H locs ls hH hlo hl
  dsimp only at hx hb hml hown hK hR hret hlk hnm ⊢
  by_cases hc : x.toInt < lo ∨ hi < x.toInt
  · rw [if_pos hc] at ht
    exact lv_tableOut hx hb hd hc ht (k H locs ls hH hlo hl)
  · rw [if_neg hc] at ht
    have h1 : ¬ x.toInt < lo := fun q => hc (Or.inl q)
    have h2 : ¬ hi < x.toInt := fun q => hc (Or.inr q)
    have hlt : (x.toInt - lo).toNat < offs.size := by omega
    refine lv_tableIn hx hb hd h1 h2 (off := offs.getD (x.toInt - lo).toNat dflt) ?_ ht (k H locs ls hH hlo hl)
    rw [Array.getD_eq_getD_getElem?, Array.getElem?_eq_getElem hlt]
    rfl
theorem r_lookup (h : zOk K G y b nL R ret) {dflt : Int} {ps : Array (Int × Int)} {len : Nat} {x : Int32} (hd : decode b pc = .ok (.lookupswitch dflt ps, len)) (hp : (ps.toList.zip (ps.toList.drop 1)).all (fun (a, next) => a.1 < next.1) = true) {t : Nat} (ht : (pc : Int) + Op.lookupswitch.offset ps.toList dflt x.toInt = (t : Int)) (k : zW K G nL Q cells slots M N t lv (st)) : zW K G nL Q cells slots M N pc lv (.int x :: st) := by
  obtain ⟨p, l, e, R0, s, m, args, below, meth, c⟩ := K
  obtain ⟨hx, hb, hml, hown, hK, hR, hret, hlk, hnm⟩ := h
  intro H locs ls hH hlo hl
  dsimp only at hx hb hml hown hK hR hret hlk hnm ⊢
  exact lv_lookup hx hb hd hp rfl ht (k H locs ls hH hlo hl)
end ZR2
