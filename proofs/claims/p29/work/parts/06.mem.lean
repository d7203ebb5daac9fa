section ZM
variable {K : zK} {G : zG} {y : MethodName} {b : ByteArray} {nL : Nat} {R : Room} {ret : Option FieldType} {Q : State → Prop} {cells slots : Nat} {M : zM} {N pc : Nat} {lv : List (Nat × Value)} {st : List Value}
/-- a class of the world: its place, name, fields, number of slots, types -/
def zCi (ci : Nat) (C : String) (T : u_T) (n : Nat) (ty : Nat → FieldType) : Prop := vwCl[ci]? = some (C, T, n) ∧ (∀ w ∈ u_ws C T n, w ∈ lw_tbl) ∧ (∀ k, k < n → parseFieldDescriptor (T k).2.2.1 = some (ty k)) ∧ (∀ a, a < n → ∀ b, b < n → a ≠ b → (T a).2.1 ≠ (T b).2.1) ∧ (u_ws C T n).all zgd = true
theorem zKw.hts {s : State} (hK : zKw G s) {C : String} {T : u_T} {n ci : Nat} {ty : Nat → FieldType} (hc : zCi ci C T n ty) (args : Array Value) : ∀ w ∈ u_ws C T n, w.before args s = true := fun w hw => hK.2.1.use (hc.2.1 w hw) (List.all_eq_true.mp hc.2.2.2.2 w hw) args
theorem r_getf (h : zOk K G y b nL R ret) {a ci n k index : Nat} {fs : List Value} {C : String} {T : u_T} {ty : Nat → FieldType} {v : Value} (hc : zCi ci C T n ty) (hw : Cond.fieldLink y.cls index (T k).1 (T k).2.1 (T k).2.2.1 ∈ lw_tbl) (hk : k < n) (hd : decode b pc = .ok (.getfield index, 3)) (hM : M a = some (zO ci fs)) (hv : fs[k]? = some v) (kk : zW K G nL Q cells slots M N (pc + 3) lv (v :: st)) : zW K G nL Q cells slots M N pc lv (.ref a :: st) := by
  obtain ⟨p, l, e, R0, s, m, args, below, meth, c⟩ := K
  obtain ⟨hx, hb, hml, hown, hK, hR, hret, hlk, hnm⟩ := h
  intro H locs ls hH hlo hl
  dsimp only at hx hb hml hown hK hR hret hlk hnm ⊢
  have hP : va_P G.1 vwCl [(a, zO ci fs)] H := fun k q hq => by
    cases k with
    | zero => cases hq; exact (hH.2.2.2 a _ hM).2
    | succ k => cases hq
  exact va_get (Ts := u_ws C T n) hx hb (hK.hts hc args) (fun _ q => q) hown hK.1 hP 0 rfl hc.1 k hk (hK.2.1.use hw rfl args) (fun _ q => q) hv hd (kk H locs ls hH hlo hl)
theorem zPut (h : zOk K G y b nL R ret) {a ci n k index : Nat} {fs : List Value} {C : String} {T : u_T} {ty : Nat → FieldType} {v : Value} (hc : zCi ci C T n ty) (hw : Cond.fieldLink y.cls index (T k).1 (T k).2.1 (T k).2.2.1 ∈ lw_tbl) (hk : k < n) (hfin : (T k).2.2.2 = false ∨ (y.name = "<init>" ∧ (T k).1 = y.cls)) (hn : narrow (ty k) v = v) (hf : fits (ty k) v = true) (hlen : fs.length = n) (hd : decode b pc = .ok (.putfield index, 3)) (hM : M a = some (zO ci fs)) (kk : zW K G nL Q cells slots (zu M a (zO ci (fs.set k v))) N (pc + 3) lv st) : zW K G nL Q cells slots M N pc lv (v :: .ref a :: st) := by
  obtain ⟨p, l, e, R0, s, m, args, below, meth, c⟩ := K
  obtain ⟨hx, hb, hml, hown, hK, hR, hret, hlk, hnm⟩ := h
  intro H locs ls hH hlo hl
  dsimp only at hx hb hml hown hK hR hret hlk hnm ⊢
  have hts := hK.hts hc args
  have hap := va_apart (own := C) (Ts := u_ws C T n) hts (fun _ q => q) ty hc.2.2.1 hc.2.2.2.1 hK.1 hc.1
  obtain ⟨hsz, hat⟩ := hH.2.2.2 a _ hM
  obtain ⟨r, h1, cell, q1, q2, q3, q4⟩ := hat
  have hr : r = (C, T, n) := Option.some.inj (h1.symm.trans hc.1)
  subst hr
  obtain ⟨hS, hfc, kC, hkC, hkind⟩ := hK.1.1 ci _ hc.1
  obtain ⟨cf, kf, fi, f, hi, hsl⟩ := hS k hk
  have hlays := u_lays hts (fun _ q => q) hk
  have hst := (u_facts hfc hkC hlays hi).1
  have fin : ∀ (H' : Heap), H'[a]? = some (cell.setSlot f.slot v) → H'.size = H.size → (∀ q, q ≠ a → H'[q]? = H[q]?) → W p l e R0 s m args below meth c H' (locs ++ [⟨a, f.slot⟩]) cells slots Q (F0 m (pc + 3) ls st) := fun H' e1 e2 e3 => by
    rw [hsl] at e1
    refine kk H' _ ls (hH.put hM e2 e3 ⟨_, hc.1, t_OB.to (V := updV (vp_V fs) k v) ⟨_, e1, q2, q3, t_set q4 hap hk v⟩ (fun j _ => vp_updV_set (by omega) v j)⟩) (fun q hq => ?_) hl
    rcases List.mem_append.mp hq with hq | hq
    · exact hlo q hq
    · rw [List.mem_singleton.mp hq]; exact hsz
  have hlink := hK.2.1.use hw rfl args
  have hv : a < H.size := (Array.getElem?_eq_some_iff.mp q1).1
  rcases hfin with hfin | ⟨hi1, hi2⟩
  · have hlay := hts _ (u_in_lay hk)
    unfold u_lay at hlay
    rw [if_neg (by rw [hfin]; decide)] at hlay
    have h6 := u_store hfc hkC hkind hlay hi (hc.2.2.1 k hk) hn hf
    exact W.putK hx hb (f := f) ⟨hown, hlink, ⟨_, _, _, hi⟩, hst⟩ (by rw [q2]; exact h6) q1 q3 (by rw [hsl]; exact k2_hasslot (q4 k hk)) rfl rfl hd fin
  · have h6 := u_fits hfc hkC hkind hlays hi (hc.2.2.1 k hk) hn hf
    by_cases hfin : (T k).2.2.2 = false
    · have hlay := hts _ (u_in_lay hk)
      unfold u_lay at hlay
      rw [if_neg (by rw [hfin]; decide)] at hlay
      have h6 := u_store hfc hkC hkind hlay hi (hc.2.2.1 k hk) hn hf
      exact W.putK hx hb (f := f) ⟨hown, hlink, ⟨_, _, _, hi⟩, hst⟩ (by rw [q2]; exact h6) q1 q3 (by rw [hsl]; exact k2_hasslot (q4 k hk)) rfl rfl hd fin
    · have hfin : (T k).2.2.2 = true := by simpa using hfin
      have hlay := hts _ (u_in_lay hk)
      unfold u_lay at hlay
      rw [if_pos hfin] at hlay
      have hcf : m.cls = cf := by
        obtain ⟨_, _, c', _, _, _, -, -, hf', -, -, -, hown2, -⟩ := Cond.laysFinal_spec hlay
        have e1 : c' = cf := by have := hi.symm.trans hf'; simp at this; exact this.1.symm
        rw [hi2] at hown2
        rw [← e1]; exact Option.some.inj (hown.symm.trans hown2)
      exact W.putFinK hx hb hown hlink hi hst hcf (by rw [hnm]; exact hi1) (by rw [q2]; exact h6) q1 q3 (by rw [hsl]; exact k2_hasslot (q4 k hk)) rfl rfl hd fin
theorem r_putf (h : zOk K G y b nL R ret) {a ci n k index : Nat} {fs : List Value} {C : String} {T : u_T} {ty : Nat → FieldType} {v : Value} {M' : zM} (hc : zCi ci C T n ty) (hw : Cond.fieldLink y.cls index (T k).1 (T k).2.1 (T k).2.2.1 ∈ lw_tbl) (hk : k < n) (hfin : (T k).2.2.2 = false) (hn : narrow (ty k) v = v) (hf : fits (ty k) v = true) (hd : decode b pc = .ok (.putfield index, 3)) (hM : M a = some (zO ci fs)) (hlen : fs.length = n) (hM' : zu M a (zO ci (fs.set k v)) = M') (kk : zW K G nL Q cells slots M' N (pc + 3) lv st) : zW K G nL Q cells slots M N pc lv (v :: .ref a :: st) := by
  subst hM'
  exact zPut h hc hw hk (Or.inl hfin) hn hf hlen hd hM kk
/-! arrays -/
theorem zArr {cA : ClassId} {n : Nat} {f : Nat → Int32} {H : Heap} {a : Nat} (hH : zHd G M N H) (hM : M a = some (zI cA n f)) : H[a]? = some (arrV cA n (fun j => .int (f j))) := (hH.2.2.2 a _ hM).2
theorem zArrR {cA : ClassId} {n : Nat} {f : Nat → Option Nat} {H : Heap} {a : Nat} (hH : zHd G M N H) (hM : M a = some (zR cA n f)) : H[a]? = some (arrV cA n (fun j => va_rf (f j))) := (hH.2.2.2 a _ hM).2
theorem r_iald (h : zOk K G y b nL R ret) {a n : Nat} {f : Nat → Int32} {i : Int32} (hd : decode b pc = .ok (.iaload, 1)) (hM : M a = some (zI (G.2.1 0) n f)) (hin : vp_in i n) (kk : zW K G nL Q cells slots M N (pc + 1) lv (.int (f i.toNatClampNeg) :: st)) : zW K G nL Q cells slots M N pc lv (.int i :: .ref a :: st) := by
  obtain ⟨p, l, e, R0, s, m, args, below, meth, c⟩ := K
  obtain ⟨hx, hb, hml, hown, hK, hR, hret, hlk, hnm⟩ := h
  intro H locs ls hH hlo hl
  dsimp only at hx hb hml hown hK hR hret hlk hnm ⊢
  have hlt : i.toNatClampNeg < n := Nat.not_le.mp fun q => hin (Or.inr q)
  exact W.iald (v := .int (f i.toNatClampNeg)) hx hb (zArr hH hM) ((hK.1.2 0 _ rfl).1 n _) (fun q => by cases q) (by rw [arrV_size]; exact hin) (by rw [arrV_read _ _ hlt]) rfl rfl hd (kk H locs ls hH hlo hl)
theorem r_zald (h : zOk K G y b nL R ret) {a n : Nat} {f : Nat → Int32} {i : Int32} (hd : decode b pc = .ok (.baload, 1)) (hM : M a = some (zI (G.2.1 2) n f)) (hin : vp_in i n) (kk : zW K G nL Q cells slots M N (pc + 1) lv (.int (f i.toNatClampNeg) :: st)) : zW K G nL Q cells slots M N pc lv (.int i :: .ref a :: st) := by
  obtain ⟨p, l, e, R0, s, m, args, below, meth, c⟩ := K
  obtain ⟨hx, hb, hml, hown, hK, hR, hret, hlk, hnm⟩ := h
  intro H locs ls hH hlo hl
  dsimp only at hx hb hml hown hK hR hret hlk hnm ⊢
  have hlt : i.toNatClampNeg < n := Nat.not_le.mp fun q => hin (Or.inr q)
  exact W.zald (v := .int (f i.toNatClampNeg)) hx hb (zArr hH hM) ((hK.1.2 2 _ rfl).1 n _) (fun q => by cases q) (by rw [arrV_size]; exact hin) (by rw [arrV_read _ _ hlt]) rfl rfl hd (kk H locs ls hH hlo hl)
theorem r_cald (h : zOk K G y b nL R ret) {a n : Nat} {f : Nat → Int32} {i : Int32} (hd : decode b pc = .ok (.caload, 1)) (hM : M a = some (zI (G.2.1 1) n f)) (hin : vp_in i n) (kk : zW K G nL Q cells slots M N (pc + 1) lv (.int (f i.toNatClampNeg) :: st)) : zW K G nL Q cells slots M N pc lv (.int i :: .ref a :: st) := by
  obtain ⟨p, l, e, R0, s, m, args, below, meth, c⟩ := K
  obtain ⟨hx, hb, hml, hown, hK, hR, hret, hlk, hnm⟩ := h
  intro H locs ls hH hlo hl
  dsimp only at hx hb hml hown hK hR hret hlk hnm ⊢
  have hlt : i.toNatClampNeg < n := Nat.not_le.mp fun q => hin (Or.inr q)
  exact W.cald (v := .int (f i.toNatClampNeg)) hx hb (zArr hH hM) ((hK.1.2 1 _ rfl).1 n _) (fun q => by cases q) (by rw [arrV_size]; exact hin) (by rw [arrV_read _ _ hlt]) rfl rfl hd (kk H locs ls hH hlo hl)
/-- which of the array classes holds references -/
def zRt (t : Nat) : Prop := t = 3 ∨ t = 4 ∨ t = 5
theorem r_aald (h : zOk K G y b nL R ret) {a n : Nat} {f : Nat → Option Nat} {i : Int32} (t : Nat) (ht : zRt t) (v : Nat) (hd : decode b pc = .ok (.aaload, 1)) (hM : M a = some (zR (G.2.1 t) n f)) (hin : vp_in i n) (hv : f i.toNatClampNeg = some v) (kk : zW K G nL Q cells slots M N (pc + 1) lv (.ref v :: st)) : zW K G nL Q cells slots M N pc lv (.int i :: .ref a :: st) := by
  obtain ⟨p, l, e, R0, s, m, args, below, meth, c⟩ := K
  obtain ⟨hx, hb, hml, hown, hK, hR, hret, hlk, hnm⟩ := h
  intro H locs ls hH hlo hl
  dsimp only at hx hb hml hown hK hR hret hlk hnm ⊢
  have hlt : i.toNatClampNeg < n := Nat.not_le.mp fun q => hin (Or.inr q)
  have hr : va_rf (f i.toNatClampNeg) = .ref v := by rw [hv]; rfl
  rcases ht with rfl | rfl | rfl
  · exact W.aald (v := .ref v) (ty := .array .int) hx hb (zArrR hH hM) ((hK.1.2 3 _ rfl).1 n _) rfl (fun q => by cases q) (by rw [arrV_size]; exact hin) (by rw [arrV_read _ _ hlt, hr]) rfl rfl hd (kk H locs ls hH hlo hl)
  · exact W.aald (v := .ref v) (ty := .object "HarpOrders$Parcel") hx hb (zArrR hH hM) ((hK.1.2 4 _ rfl).1 n _) rfl (fun q => by cases q) (by rw [arrV_size]; exact hin) (by rw [arrV_read _ _ hlt, hr]) rfl rfl hd (kk H locs ls hH hlo hl)
  · exact W.aald (v := .ref v) (ty := .object "HarpOrders$Club") hx hb (zArrR hH hM) ((hK.1.2 5 _ rfl).1 n _) rfl (fun q => by cases q) (by rw [arrV_size]; exact hin) (by rw [arrV_read _ _ hlt, hr]) rfl rfl hd (kk H locs ls hH hlo hl)
theorem r_alen (h : zOk K G y b nL R ret) {a n t : Nat} {ty : FieldType} {f : Nat → Int32} (v : Int32) (ht : (zTy G.2.1)[t]? = some (G.2.1 t, ty)) (hd : decode b pc = .ok (.arraylength, 1)) (hM : M a = some (zI (G.2.1 t) n f)) (hv : Int32.ofNat n = v) (kk : zW K G nL Q cells slots M N (pc + 1) lv (.int v :: st)) : zW K G nL Q cells slots M N pc lv (.ref a :: st) := by
  obtain ⟨p, l, e, R0, s, m, args, below, meth, c⟩ := K
  obtain ⟨hx, hb, hml, hown, hK, hR, hret, hlk, hnm⟩ := h
  intro H locs ls hH hlo hl
  dsimp only at hx hb hml hown hK hR hret hlk hnm ⊢
  exact W.alen (n := v) hx hb (zArr hH hM) ((hK.1.2 t _ ht).1 n _) (by rw [arrV_size]; exact hv) rfl rfl hd (kk H locs ls hH hlo hl)
theorem r_alenR (h : zOk K G y b nL R ret) {a n t : Nat} {ty : FieldType} {f : Nat → Option Nat} (v : Int32) (ht : (zTy G.2.1)[t]? = some (G.2.1 t, ty)) (hd : decode b pc = .ok (.arraylength, 1)) (hM : M a = some (zR (G.2.1 t) n f)) (hv : Int32.ofNat n = v) (kk : zW K G nL Q cells slots M N (pc + 1) lv (.int v :: st)) : zW K G nL Q cells slots M N pc lv (.ref a :: st) := by
  obtain ⟨p, l, e, R0, s, m, args, below, meth, c⟩ := K
  obtain ⟨hx, hb, hml, hown, hK, hR, hret, hlk, hnm⟩ := h
  intro H locs ls hH hlo hl
  dsimp only at hx hb hml hown hK hR hret hlk hnm ⊢
  exact W.alen (n := v) hx hb (zArrR hH hM) ((hK.1.2 t _ ht).1 n _) (by rw [arrV_size]; exact hv) rfl rfl hd (kk H locs ls hH hlo hl)
theorem r_iast (h : zOk K G y b nL R ret) {a n : Nat} {f : Nat → Int32} {i x : Int32} {M' : zM} (hd : decode b pc = .ok (.iastore, 1)) (hM : M a = some (zI (G.2.1 0) n f)) (hin : vp_in i n) (hM' : zu M a (zI (G.2.1 0) n (upd f i.toNatClampNeg x)) = M') (kk : zW K G nL Q cells slots M' N (pc + 1) lv st) : zW K G nL Q cells slots M N pc lv (.int x :: .int i :: .ref a :: st) := by
  subst hM'
  obtain ⟨p, l, e, R0, s, m, args, below, meth, c⟩ := K
  obtain ⟨hx, hb, hml, hown, hK, hR, hret, hlk, hnm⟩ := h
  intro H locs ls hH hlo hl
  dsimp only at hx hb hml hown hK hR hret hlk hnm ⊢
  refine W.iast hx hb (zArr hH hM) ((hK.1.2 0 _ rfl).1 n _) (fun q => by cases q) (by rw [arrV_size]; exact hin) rfl rfl hd fun H1 e z oq => ?_
  refine kk H1 _ ls (hH.put hM z oq ?_) (fun q hq => ?_) hl
  · show H1[a]? = some (vp_cell _ _)
    rw [e, vp_cell_i, arrV_store]
    congr 2
    funext q
    by_cases hq : q = i.toNatClampNeg <;> simp [updV, upd, hq]
  · rcases List.mem_append.mp hq with hq | hq
    · exact hlo q hq
    · rw [List.mem_singleton.mp hq]; exact (hH.2.2.2 a _ hM).1
theorem r_zast (h : zOk K G y b nL R ret) {a n : Nat} {f : Nat → Int32} {i x : Int32} {M' : zM} (hd : decode b pc = .ok (.bastore, 1)) (hM : M a = some (zI (G.2.1 2) n f)) (hin : vp_in i n) (hx2 : narrow .boolean (.int x) = .int x) (hM' : zu M a (zI (G.2.1 2) n (upd f i.toNatClampNeg x)) = M') (kk : zW K G nL Q cells slots M' N (pc + 1) lv st) : zW K G nL Q cells slots M N pc lv (.int x :: .int i :: .ref a :: st) := by
  subst hM'
  obtain ⟨p, l, e, R0, s, m, args, below, meth, c⟩ := K
  obtain ⟨hx, hb, hml, hown, hK, hR, hret, hlk, hnm⟩ := h
  intro H locs ls hH hlo hl
  dsimp only at hx hb hml hown hK hR hret hlk hnm ⊢
  refine W.zast hx hb (zArr hH hM) ((hK.1.2 2 _ rfl).1 n _) (fun q => by cases q) (by rw [arrV_size]; exact hin) rfl rfl hd fun H1 e z oq => ?_
  rw [hx2] at e
  refine kk H1 _ ls (hH.put hM z oq ?_) (fun q hq => ?_) hl
  · show H1[a]? = some (vp_cell _ _)
    rw [e, vp_cell_i, arrV_store]
    congr 2
    funext q
    by_cases hq : q = i.toNatClampNeg <;> simp [updV, upd, hq]
  · rcases List.mem_append.mp hq with hq | hq
    · exact hlo q hq
    · rw [List.mem_singleton.mp hq]; exact (hH.2.2.2 a _ hM).1
theorem r_cast (h : zOk K G y b nL R ret) {a n : Nat} {f : Nat → Int32} {i x : Int32} {M' : zM} (hd : decode b pc = .ok (.castore, 1)) (hM : M a = some (zI (G.2.1 1) n f)) (hin : vp_in i n) (hx2 : narrow .char (.int x) = .int x) (hM' : zu M a (zI (G.2.1 1) n (upd f i.toNatClampNeg x)) = M') (kk : zW K G nL Q cells slots M' N (pc + 1) lv st) : zW K G nL Q cells slots M N pc lv (.int x :: .int i :: .ref a :: st) := by
  subst hM'
  obtain ⟨p, l, e, R0, s, m, args, below, meth, c⟩ := K
  obtain ⟨hx, hb, hml, hown, hK, hR, hret, hlk, hnm⟩ := h
  intro H locs ls hH hlo hl
  dsimp only at hx hb hml hown hK hR hret hlk hnm ⊢
  refine W.cast hx hb (zArr hH hM) ((hK.1.2 1 _ rfl).1 n _) (fun q => by cases q) (by rw [arrV_size]; exact hin) rfl rfl hd fun H1 e z oq => ?_
  rw [hx2] at e
  refine kk H1 _ ls (hH.put hM z oq ?_) (fun q hq => ?_) hl
  · show H1[a]? = some (vp_cell _ _)
    rw [e, vp_cell_i, arrV_store]
    congr 2
    funext q
    by_cases hq : q = i.toNatClampNeg <;> simp [updV, upd, hq]
  · rcases List.mem_append.mp hq with hq | hq
    · exact hlo q hq
    · rw [List.mem_singleton.mp hq]; exact (hH.2.2.2 a _ hM).1
/-- an object of class ci goes into an array of its class -/
theorem r_aast (h : zOk K G y b nL R ret) {a n v ci n2 : Nat} {fs : List Value} {C : String} {T : u_T} {ty : Nat → FieldType} {f : Nat → Option Nat} {i : Int32} {M' : zM} (t : Nat) (hc : zCi ci C T n2 ty) (ht : (zTy G.2.1)[t]? = some (G.2.1 t, .object C)) (hd : decode b pc = .ok (.aastore, 1)) (hM : M a = some (zR (G.2.1 t) n f)) (hin : vp_in i n) (hv : M v = some (zO ci fs)) (hM' : zu M a (zR (G.2.1 t) n (va_up f i.toNatClampNeg (some v))) = M') (kk : zW K G nL Q cells slots M' N (pc + 1) lv st) : zW K G nL Q cells slots M N pc lv (.ref v :: .int i :: .ref a :: st) := by
  subst hM'
  obtain ⟨p, l, e, R0, s, m, args, below, meth, c⟩ := K
  obtain ⟨hx, hb, hml, hown, hK, hR, hret, hlk, hnm⟩ := h
  intro H locs ls hH hlo hl
  dsimp only at hx hb hml hown hK hR hret hlk hnm ⊢
  have hlt : i.toNatClampNeg < n := Nat.not_le.mp fun q => hin (Or.inr q)
  have h0 : ¬ i < 0 := fun q => hin (Or.inl q)
  obtain ⟨r', hr', cellV, g1, g2, g3, -⟩ := (hH.2.2.2 v _ hv).2
  have hcls := (hK.1.1 ci _ hc.1).2
  obtain ⟨kA, comp, k1, k2, k3, -⟩ := (hK.1.2 t _ ht).2
  have hcomp : comp = G.1.1 ci := Option.some.inj (k3.symm.trans hcls.1)
  subst hcomp
  obtain ⟨kC, hkC, -⟩ := hcls.2
  refine W.aast hx hb (zArrR hH hM) (fun q h => by cases h) (fun h => by cases h) k1 k2 rfl hkC ⟨h0, by rw [arrV_size]; exact hlt⟩ g1 (fun q h => by rw [g3] at h; cases h) (by rw [g2]; exact hkC) (by rw [g2]; exact va_assign hcls) rfl rfl hd fun H1 e z oq => ?_
  refine kk H1 _ ls (hH.put hM z oq ?_) (fun q hq => ?_) hl
  · show H1[a]? = some (vp_cell _ _)
    rw [e, vp_cell_q, arrV_store]
    congr 2
    funext q
    by_cases hq : q = i.toNatClampNeg
    · subst hq; simp [updV, va_up, va_rf]
    · simp [updV, va_up, hq]
  · rcases List.mem_append.mp hq with hq | hq
    · exact hlo q hq
    · rw [List.mem_singleton.mp hq]; exact (hH.2.2.2 a _ hM).1
/-! ends -/
theorem r_iret {Post : Option Value → zM → Prop} {N1 mc ms : Nat} {v : Int32} (h : zOk K G y b nL R (some .int)) (hd : decode b pc = .ok (.ireturn, 1)) (hN : N = N1) (hP : Post (some (.int v)) M) : zW K G nL (zQ K G N1 mc ms Post) mc ms M N pc lv [.int v] := by
  subst hN
  obtain ⟨p, l, e, R0, s, m, args, below, meth, c⟩ := K
  obtain ⟨hx, hb, hml, hown, hK, hR, hret, hlk, hnm⟩ := h
  intro H locs ls hH hlo hl
  dsimp only at hx hb hml hown hK hR hret hlk hnm ⊢
  exact W.iret hx hb hret (fun t ht _ => ⟨_, M, rfl, hP, by rw [ht]; exact hH⟩) hlo hd hlk
theorem r_zret {Post : Option Value → zM → Prop} {N1 mc ms : Nat} {v : Int32} (h : zOk K G y b nL R (some .boolean)) (hd : decode b pc = .ok (.ireturn, 1)) (hn : narrow .boolean (.int v) = .int v) (hN : N = N1) (hP : Post (some (.int v)) M) : zW K G nL (zQ K G N1 mc ms Post) mc ms M N pc lv [.int v] := by
  subst hN
  obtain ⟨p, l, e, R0, s, m, args, below, meth, c⟩ := K
  obtain ⟨hx, hb, hml, hown, hK, hR, hret, hlk, hnm⟩ := h
  intro H locs ls hH hlo hl
  dsimp only at hx hb hml hown hK hR hret hlk hnm ⊢
  exact W.zret hx hb hret hn (fun t ht _ => ⟨_, M, rfl, hP, by rw [ht]; exact hH⟩) hlo hd hlk
theorem r_vret {Post : Option Value → zM → Prop} {N1 mc ms : Nat} (h : zOk K G y b nL R none) (hd : decode b pc = .ok (.return_, 1)) (hN : N = N1) (hP : Post none M) : zW K G nL (zQ K G N1 mc ms Post) mc ms M N pc lv [] := by
  subst hN
  obtain ⟨p, l, e, R0, s, m, args, below, meth, c⟩ := K
  obtain ⟨hx, hb, hml, hown, hK, hR, hret, hlk, hnm⟩ := h
  intro H locs ls hH hlo hl
  dsimp only at hx hb hml hown hK hR hret hlk hnm ⊢
  exact W.vret hx hb hret (fun t ht _ => ⟨_, M, rfl, hP, by rw [ht]; exact hH⟩) hlo hd hlk
end ZM
