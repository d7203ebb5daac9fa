section ZC
variable {K : zK} {G : zG} {y : MethodName} {b : ByteArray} {nL : Nat} {R : Room} {ret : Option FieldType} {Q : State → Prop} {cells slots : Nat} {M : zM} {N pc : Nat} {lv : List (Nat × Value)} {st : List Value}
/-- what the tables say of a method that is called -/
def zMi (x : MethodName) (bx : ByteArray) (n : Nat) (rx : Option FieldType) (np : Nat) : Prop := Cond.code x bx n rx ∈ lw_tbl ∧ Cond.initialized x.cls ∈ lw_tbl ∧ (x.cls ≠ "java/lang/invoke/MethodHandle" ∧ x.cls ≠ "java/lang/invoke/VarHandle") ∧ (parseMethodDescriptor x.desc).map (fun d => d.parameters.length) = some np
theorem zKw.blind {G : zG} {av : List Value} {M : zM} {N : Nat} : FrameBlind (va_Pc av (fun U => zKw G U ∧ zHd G M N U.heap)) := fun a U g mk q => ⟨q.1, zKw.warm (u := U) (U := U.calling g mk a) q.2.1 (State.WarmedH.refl U), q.2.2⟩
theorem zCode {s : State} (hT : zTb s) {x : MethodName} {bx : ByteArray} {n : Nat} {rx : Option FieldType} (hc : Cond.code x bx n rx ∈ lw_tbl) : ∀ w ∈ [Cond.code x bx n rx], ∀ (a' : Array Value) (U : State), s.WarmedH U.vm → w.before a' U = true := fun w hw a' U hW => by
  rw [List.mem_singleton.mp hw]
  exact hT.any hW hc rfl a'
theorem zCallB {s : State} (hT : zTb s) {own : String} {index : Nat} {x : MethodName} {bx : ByteArray} {n : Nat} {rx : Option FieldType} {np : Nat} (hm : zMi x bx n rx np) (hlk : Cond.methodLink own index x ∈ lw_tbl) (args : Array Value) {R : Room} {f w mc ms : Nat} (hR : f + 1 ≤ R.frames ∧ 8 + (n + 11) + w ≤ R.locals) : CallB R s args own index x bx n rx [.code x bx n rx] (zRm f w mc ms) mc ms np :=
  ⟨rfl, rfl, hR.1, hR.2, zCode hT hm.1, List.mem_cons_self, hT.use hm.1 rfl args, hT.use hm.2.1 rfl args, hm.2.2.1, fun sig h => by have h2 := hm.2.2.2; rw [h] at h2; exact (Option.some.inj h2).symm, hT.use hlk rfl args⟩
theorem zCallN {s : State} (hT : zTb s) {own host : String} {index : Nat} {x : MethodName} {bx : ByteArray} {n : Nat} {rx : Option FieldType} {np : Nat} (hm : zMi x bx n rx np) (hlk : Cond.methodLinkNest own index x host ∈ lw_tbl) (args : Array Value) {R : Room} {f w mc ms : Nat} (hR : f + 1 ≤ R.frames ∧ 8 + (n + 11) + w ≤ R.locals) : va_CN R s args own index x host bx n rx [.code x bx n rx] (zRm f w mc ms) mc ms np :=
  ⟨⟨rfl, rfl, hR.1, hR.2, zCode hT hm.1, List.mem_cons_self⟩, hT.use hm.1 rfl args, hT.use hm.2.1 rfl args, hm.2.2.1, fun sig h => by have h2 := hm.2.2.2; rw [h] at h2; exact (Option.some.inj h2).symm, hT.use hlk rfl args⟩
/-- behind a call -/
theorem zGo {K : zK} {G : zG} {nL : Nat} {Q : State → Prop} {cells slots mc ms : Nat} {M : zM} {N pc : Nat} {lv : List (Nat × Value)} {st rest : List Value} {Post : Option Value → zM → Prop} {ax : Array Value}
    (hr : ∀ (H : Heap) (locs : List Loc) (ls : Array Slot), zHd G M N H → lv_has ls nL lv → va_Run K.1 K.2.1 K.2.2.1 K.2.2.2.1 K.2.2.2.2.1 K.2.2.2.2.2.1 K.2.2.2.2.2.2.1 K.2.2.2.2.2.2.2.1 K.2.2.2.2.2.2.2.2.1 K.2.2.2.2.2.2.2.2.2 H locs cells slots mc ms (F0 K.2.2.2.2.2.1 pc ls st) rest (zQc G (N + mc) Post ax) (zF G))
    (kk : ∀ (r : Option Value) (M' : zM), Post r M' → zW K G nL Q (cells + mc) (slots + ms) M' (N + mc) (pc + 3) lv (r.toList ++ rest)) : zW K G nL Q cells slots M N pc lv st := by
  obtain ⟨p, l, e, R0, s, m, args, below, meth, c⟩ := K
  intro H locs ls hH hlo hl T hT X
  obtain ⟨v, st₀, t, T', L, h0, X', hL, e1, e2, ⟨r, M', hv, hp, hH'⟩, stp⟩ := hr H locs ls hH hl T hT X
  cases hv
  obtain ⟨t2, a1, b1⟩ := kk v M' hp t.heap (locs ++ L) ls hH' (fun q hq => (List.mem_append.mp hq).elim (hlo q) (hL q)) hl T' e1 X'
  exact ⟨t2, stp t2 a1, b1⟩
/-- an instance method of class C (not of another class' private ones) -/
theorem r_callV (h : zOk K G y b nL R ret) {x : MethodName} {bx : ByteArray} {n np : Nat} {rx : Option FieldType} {f w mc ms ci n2 index a : Nat} {fs : List Value} {T : u_T} {ty : Nat → FieldType} {As rest : List Value} {Post : Option Value → zM → Prop} (hm : zMi x bx n rx np) (hc : zCi ci x.cls T n2 ty) (hlk : Cond.methodLink y.cls index x ∈ lw_tbl) (hin : Cond.instanceMethod x ∈ lw_tbl) (hsel : Cond.selects x.cls x x ∈ lw_tbl) (hd : decode b pc = .ok (.invokevirtual index, 3)) (hC : zC K.2.1 G x bx n rx f w mc ms (.ref a :: As) M N Post) (hM : M a = some (zO ci fs)) (hnp : As.length = np) (hst : st = As.reverse ++ .ref a :: rest) (hR : f + 1 ≤ R.frames ∧ 8 + (n + 11) + w ≤ R.locals) (hW : (rest.map fun v => v.category).sum ≤ 8) (hf : cells + mc ≤ R.cells ∧ slots + ms ≤ R.slots)
    (kk : ∀ (r : Option Value) (M' : zM), Post r M' → zW K G nL Q (cells + mc) (slots + ms) M' (N + mc) (pc + 3) lv (r.toList ++ rest)) : zW K G nL Q cells slots M N pc lv st := by
  refine zGo (Post := Post) (ax := (Value.ref a :: As).toArray) (rest := rest) (fun H locs ls hH hl => ?_) kk
  clear kk
  obtain ⟨p, l, e, R0, s, m, args, below, meth, c⟩ := K
  obtain ⟨hx, hb, hml, hown, hK, hR0, hret, hlo, hnm⟩ := h
  dsimp only at hx hb hml hown hK hR0 hret hlo hnm hC ⊢
  subst hR0
  have hP : va_P G.1 vwCl [(a, zO ci fs)] H := fun k q hq => by
    cases k with
    | zero => cases hq; exact (hH.2.2.2 a _ hM).2
    | succ k => cases hq
  refine va_runV (Ts := []) ⟨hx, hb, hml, hown, fun w hw => by cases hw⟩ hC ⟨zCallB hK.2.1 hm hlk args hR, hK.2.1.use hin rfl args, hK.2.1.use hsel rfl args⟩ ⟨zKw.blind, va_recv hK.1 hP hc.1 (q0 := 0) rfl, fun U hU hW => ⟨rfl, hK.warm hW, by rw [hU]; exact hH⟩⟩ rfl hnp hl.1 hst ?_ hd hf
  exact lv_room hW
theorem r_callVN (h : zOk K G y b nL R ret) {x : MethodName} {host : String} {bx : ByteArray} {n np : Nat} {rx : Option FieldType} {f w mc ms ci n2 index a : Nat} {fs : List Value} {T : u_T} {ty : Nat → FieldType} {As rest : List Value} {Post : Option Value → zM → Prop} (hm : zMi x bx n rx np) (hc : zCi ci x.cls T n2 ty) (hlk : Cond.methodLinkNest y.cls index x host ∈ lw_tbl) (hin : Cond.instanceMethod x ∈ lw_tbl) (hsel : Cond.selects x.cls x x ∈ lw_tbl) (hd : decode b pc = .ok (.invokevirtual index, 3)) (hC : zC K.2.1 G x bx n rx f w mc ms (.ref a :: As) M N Post) (hM : M a = some (zO ci fs)) (hnp : As.length = np) (hst : st = As.reverse ++ .ref a :: rest) (hR : f + 1 ≤ R.frames ∧ 8 + (n + 11) + w ≤ R.locals) (hW : (rest.map fun v => v.category).sum ≤ 8) (hf : cells + mc ≤ R.cells ∧ slots + ms ≤ R.slots)
    (kk : ∀ (r : Option Value) (M' : zM), Post r M' → zW K G nL Q (cells + mc) (slots + ms) M' (N + mc) (pc + 3) lv (r.toList ++ rest)) : zW K G nL Q cells slots M N pc lv st := by
  refine zGo (Post := Post) (ax := (Value.ref a :: As).toArray) (rest := rest) (fun H locs ls hH hl => ?_) kk
  clear kk
  obtain ⟨p, l, e, R0, s, m, args, below, meth, c⟩ := K
  obtain ⟨hx, hb, hml, hown, hK, hR0, hret, hlo, hnm⟩ := h
  dsimp only at hx hb hml hown hK hR0 hret hlo hnm hC ⊢
  subst hR0
  have hP : va_P G.1 vwCl [(a, zO ci fs)] H := fun k q hq => by
    cases k with
    | zero => cases hq; exact (hH.2.2.2 a _ hM).2
    | succ k => cases hq
  refine va_runVN (Ts := []) ⟨hx, hb, hml, hown, fun w hw => by cases hw⟩ hC ⟨zCallN hK.2.1 hm hlk args hR, hK.2.1.use hin rfl args, hK.2.1.use hsel rfl args⟩ ⟨zKw.blind, va_recv hK.1 hP hc.1 (q0 := 0) rfl, fun U hU hW => ⟨rfl, hK.warm hW, by rw [hU]; exact hH⟩⟩ rfl hnp hl.1 hst ?_ hd hf
  exact lv_room hW
theorem r_callS (h : zOk K G y b nL R ret) {x : MethodName} {bx : ByteArray} {n np : Nat} {rx : Option FieldType} {f w mc ms index : Nat} {As rest : List Value} {Post : Option Value → zM → Prop} (hm : zMi x bx n rx np) (hlk : Cond.methodLink y.cls index x ∈ lw_tbl) (hstc : Cond.static x ∈ lw_tbl) (hd : decode b pc = .ok (.invokestatic index, 3)) (hC : zC K.2.1 G x bx n rx f w mc ms As M N Post) (hnp : As.length = np) (hst : st = As.reverse ++ rest) (hR : f + 1 ≤ R.frames ∧ 8 + (n + 11) + w ≤ R.locals) (hW : (rest.map fun v => v.category).sum ≤ 8) (hf : cells + mc ≤ R.cells ∧ slots + ms ≤ R.slots)
    (kk : ∀ (r : Option Value) (M' : zM), Post r M' → zW K G nL Q (cells + mc) (slots + ms) M' (N + mc) (pc + 3) lv (r.toList ++ rest)) : zW K G nL Q cells slots M N pc lv st := by
  refine zGo (Post := Post) (ax := As.toArray) (rest := rest) (fun H locs ls hH hl => ?_) kk
  clear kk
  obtain ⟨p, l, e, R0, s, m, args, below, meth, c⟩ := K
  obtain ⟨hx, hb, hml, hown, hK, hR0, hret, hlo, hnm⟩ := h
  dsimp only at hx hb hml hown hK hR0 hret hlo hnm hC ⊢
  subst hR0
  refine va_runS (Ts := []) ⟨hx, hb, hml, hown, fun w hw => by cases hw⟩ hC ⟨zCallB hK.2.1 hm hlk args hR, hK.2.1.use hstc rfl args⟩ ⟨zKw.blind, fun U hU hW => ⟨rfl, hK.warm hW, by rw [hU]; exact hH⟩⟩ rfl hnp hl.1 hst ?_ hd hf
  exact lv_room hW
theorem r_callSN (h : zOk K G y b nL R ret) {x : MethodName} {host : String} {bx : ByteArray} {n np : Nat} {rx : Option FieldType} {f w mc ms index : Nat} {As rest : List Value} {Post : Option Value → zM → Prop} (hm : zMi x bx n rx np) (hlk : Cond.methodLinkNest y.cls index x host ∈ lw_tbl) (hstc : Cond.static x ∈ lw_tbl) (hd : decode b pc = .ok (.invokestatic index, 3)) (hC : zC K.2.1 G x bx n rx f w mc ms As M N Post) (hnp : As.length = np) (hst : st = As.reverse ++ rest) (hR : f + 1 ≤ R.frames ∧ 8 + (n + 11) + w ≤ R.locals) (hW : (rest.map fun v => v.category).sum ≤ 8) (hf : cells + mc ≤ R.cells ∧ slots + ms ≤ R.slots)
    (kk : ∀ (r : Option Value) (M' : zM), Post r M' → zW K G nL Q (cells + mc) (slots + ms) M' (N + mc) (pc + 3) lv (r.toList ++ rest)) : zW K G nL Q cells slots M N pc lv st := by
  refine zGo (Post := Post) (ax := As.toArray) (rest := rest) (fun H locs ls hH hl => ?_) kk
  clear kk
  obtain ⟨p, l, e, R0, s, m, args, below, meth, c⟩ := K
  obtain ⟨hx, hb, hml, hown, hK, hR0, hret, hlo, hnm⟩ := h
  dsimp only at hx hb hml hown hK hR0 hret hlo hnm hC ⊢
  subst hR0
  refine va_runSN (Ts := []) ⟨hx, hb, hml, hown, fun w hw => by cases hw⟩ hC ⟨zCallN hK.2.1 hm hlk args hR, hK.2.1.use hstc rfl args, trivial⟩ ⟨zKw.blind, fun U hU hW => ⟨rfl, hK.warm hW, by rw [hU]; exact hH⟩⟩ rfl hnp hl.1 hst ?_ hd hf
  exact lv_room hW
theorem r_callI (h : zOk K G y b nL R ret) {x : MethodName} {bx : ByteArray} {n np : Nat} {f w mc ms index a : Nat} {As rest : List Value} {Post : Option Value → zM → Prop} (hm : zMi x bx n none np) (hlk : Cond.methodLink y.cls index x ∈ lw_tbl) (hin : Cond.instanceMethod x ∈ lw_tbl) (hnm1 : x.name = "<init>") (hd : decode b pc = .ok (.invokespecial index, 3)) (hC : zC K.2.1 G x bx n none f w mc ms (.ref a :: As) M N Post) (hnp : As.length = np) (hst : st = As.reverse ++ .ref a :: rest) (hR : f + 1 ≤ R.frames ∧ 8 + (n + 11) + w ≤ R.locals) (hW : (rest.map fun v => v.category).sum ≤ 8) (hf : cells + mc ≤ R.cells ∧ slots + ms ≤ R.slots)
    (kk : ∀ (r : Option Value) (M' : zM), Post r M' → zW K G nL Q (cells + mc) (slots + ms) M' (N + mc) (pc + 3) lv (r.toList ++ rest)) : zW K G nL Q cells slots M N pc lv st := by
  refine zGo (Post := Post) (ax := (Value.ref a :: As).toArray) (rest := rest) (fun H locs ls hH hl => ?_) kk
  clear kk
  obtain ⟨p, l, e, R0, s, m, args, below, meth, c⟩ := K
  obtain ⟨hx, hb, hml, hown, hK, hR0, hret, hlo, hnm⟩ := h
  dsimp only at hx hb hml hown hK hR0 hret hlo hnm hC ⊢
  subst hR0
  refine va_runI (Ts := []) ⟨hx, hb, hml, hown, fun w hw => by cases hw⟩ hC ⟨zCallB hK.2.1 hm hlk args hR, hnm1, hK.2.1.use hin rfl args⟩ ⟨zKw.blind, fun U hU hW => ⟨rfl, hK.warm hW, by rw [hU]; exact hH⟩⟩ rfl hnp hl.1 hst ?_ hd hf
  exact lv_room hW
theorem r_callIN (h : zOk K G y b nL R ret) {x : MethodName} {host : String} {bx : ByteArray} {n np : Nat} {f w mc ms index a : Nat} {As rest : List Value} {Post : Option Value → zM → Prop} (hm : zMi x bx n none np) (hlk : Cond.methodLinkNest y.cls index x host ∈ lw_tbl) (hin : Cond.instanceMethod x ∈ lw_tbl) (hnm1 : x.name = "<init>") (hd : decode b pc = .ok (.invokespecial index, 3)) (hC : zC K.2.1 G x bx n none f w mc ms (.ref a :: As) M N Post) (hnp : As.length = np) (hst : st = As.reverse ++ .ref a :: rest) (hR : f + 1 ≤ R.frames ∧ 8 + (n + 11) + w ≤ R.locals) (hW : (rest.map fun v => v.category).sum ≤ 8) (hf : cells + mc ≤ R.cells ∧ slots + ms ≤ R.slots)
    (kk : ∀ (r : Option Value) (M' : zM), Post r M' → zW K G nL Q (cells + mc) (slots + ms) M' (N + mc) (pc + 3) lv (r.toList ++ rest)) : zW K G nL Q cells slots M N pc lv st := by
  refine zGo (Post := Post) (ax := (Value.ref a :: As).toArray) (rest := rest) (fun H locs ls hH hl => ?_) kk
  clear kk
  obtain ⟨p, l, e, R0, s, m, args, below, meth, c⟩ := K
  obtain ⟨hx, hb, hml, hown, hK, hR0, hret, hlo, hnm⟩ := h
  dsimp only at hx hb hml hown hK hR0 hret hlo hnm hC ⊢
  subst hR0
  refine va_runIN (Ts := []) ⟨hx, hb, hml, hown, fun w hw => by cases hw⟩ hC ⟨zCallN hK.2.1 hm hlk args hR, hnm1, hK.2.1.use hin rfl args⟩ ⟨zKw.blind, fun U hU hW => ⟨rfl, hK.warm hW, by rw [hU]; exact hH⟩⟩ rfl hnp hl.1 hst ?_ hd hf
  exact lv_room hW
/-- a contract whose end is one value, one memory -/
def zP (v : Option Value) (M : zM) : Option Value → zM → Prop := fun r M' => r = v ∧ M' = M
theorem zP.rf {v : Option Value} {M : zM} : zP v M v M := ⟨rfl, rfl⟩
/-- the calls of such ones: nothing is new -/
theorem r_cV (h : zOk K G y b nL R ret) {x : MethodName} {bx : ByteArray} {n np : Nat} {rx : Option FieldType} {f w ci n2 index a : Nat} {fs : List Value} {T : u_T} {ty : Nat → FieldType} {As rest : List Value} {v : Option Value} {M' : zM} (hm : zMi x bx n rx np) (hc : zCi ci x.cls T n2 ty) (hlk : Cond.methodLink y.cls index x ∈ lw_tbl) (hin : Cond.instanceMethod x ∈ lw_tbl) (hsel : Cond.selects x.cls x x ∈ lw_tbl) (hd : decode b pc = .ok (.invokevirtual index, 3)) (hC : zC K.2.1 G x bx n rx f w 0 0 (.ref a :: As) M N (zP v M')) (hM : M a = some (zO ci fs)) (hnp : As.length = np) (hst : st = As.reverse ++ .ref a :: rest) (hR : f + 1 ≤ R.frames ∧ 8 + (n + 11) + w ≤ R.locals) (hW : (rest.map fun v => v.category).sum ≤ 8) (hf : cells ≤ R.cells ∧ slots ≤ R.slots)
    (kk : zW K G nL Q cells slots M' N (pc + 3) lv (v.toList ++ rest)) : zW K G nL Q cells slots M N pc lv st := r_callV h hm hc hlk hin hsel hd hC hM hnp hst hR hW hf (fun r M1 hP => by obtain ⟨rfl, rfl⟩ := hP; exact kk)
theorem r_cVN (h : zOk K G y b nL R ret) {x : MethodName} {host : String} {bx : ByteArray} {n np : Nat} {rx : Option FieldType} {f w ci n2 index a : Nat} {fs : List Value} {T : u_T} {ty : Nat → FieldType} {As rest : List Value} {v : Option Value} {M' : zM} (hm : zMi x bx n rx np) (hc : zCi ci x.cls T n2 ty) (hlk : Cond.methodLinkNest y.cls index x host ∈ lw_tbl) (hin : Cond.instanceMethod x ∈ lw_tbl) (hsel : Cond.selects x.cls x x ∈ lw_tbl) (hd : decode b pc = .ok (.invokevirtual index, 3)) (hC : zC K.2.1 G x bx n rx f w 0 0 (.ref a :: As) M N (zP v M')) (hM : M a = some (zO ci fs)) (hnp : As.length = np) (hst : st = As.reverse ++ .ref a :: rest) (hR : f + 1 ≤ R.frames ∧ 8 + (n + 11) + w ≤ R.locals) (hW : (rest.map fun v => v.category).sum ≤ 8) (hf : cells ≤ R.cells ∧ slots ≤ R.slots)
    (kk : zW K G nL Q cells slots M' N (pc + 3) lv (v.toList ++ rest)) : zW K G nL Q cells slots M N pc lv st := r_callVN h hm hc hlk hin hsel hd hC hM hnp hst hR hW hf (fun r M1 hP => by obtain ⟨rfl, rfl⟩ := hP; exact kk)
theorem r_cS (h : zOk K G y b nL R ret) {x : MethodName} {bx : ByteArray} {n np : Nat} {rx : Option FieldType} {f w index : Nat} {As rest : List Value} {v : Option Value} {M' : zM} (hm : zMi x bx n rx np) (hlk : Cond.methodLink y.cls index x ∈ lw_tbl) (hstc : Cond.static x ∈ lw_tbl) (hd : decode b pc = .ok (.invokestatic index, 3)) (hC : zC K.2.1 G x bx n rx f w 0 0 As M N (zP v M')) (hnp : As.length = np) (hst : st = As.reverse ++ rest) (hR : f + 1 ≤ R.frames ∧ 8 + (n + 11) + w ≤ R.locals) (hW : (rest.map fun v => v.category).sum ≤ 8) (hf : cells ≤ R.cells ∧ slots ≤ R.slots)
    (kk : zW K G nL Q cells slots M' N (pc + 3) lv (v.toList ++ rest)) : zW K G nL Q cells slots M N pc lv st := r_callS h hm hlk hstc hd hC hnp hst hR hW hf (fun r M1 hP => by obtain ⟨rfl, rfl⟩ := hP; exact kk)
theorem r_cSN (h : zOk K G y b nL R ret) {x : MethodName} {host : String} {bx : ByteArray} {n np : Nat} {rx : Option FieldType} {f w index : Nat} {As rest : List Value} {v : Option Value} {M' : zM} (hm : zMi x bx n rx np) (hlk : Cond.methodLinkNest y.cls index x host ∈ lw_tbl) (hstc : Cond.static x ∈ lw_tbl) (hd : decode b pc = .ok (.invokestatic index, 3)) (hC : zC K.2.1 G x bx n rx f w 0 0 As M N (zP v M')) (hnp : As.length = np) (hst : st = As.reverse ++ rest) (hR : f + 1 ≤ R.frames ∧ 8 + (n + 11) + w ≤ R.locals) (hW : (rest.map fun v => v.category).sum ≤ 8) (hf : cells ≤ R.cells ∧ slots ≤ R.slots)
    (kk : zW K G nL Q cells slots M' N (pc + 3) lv (v.toList ++ rest)) : zW K G nL Q cells slots M N pc lv st := r_callSN h hm hlk hstc hd hC hnp hst hR hW hf (fun r M1 hP => by obtain ⟨rfl, rfl⟩ := hP; exact kk)
theorem zW.to {M' : zM} {lv' : List (Nat × Value)} {st' : List Value} (kk : zW K G nL Q cells slots M' N pc lv' st') (hM : M = M') (hl : lv = lv') (hs : st = st') : zW K G nL Q cells slots M N pc lv st := by
  subst hM; subst hl; subst hs; exact kk
/-- fewer locals are known -/
theorem zW.forget {lv' : List (Nat × Value)} (kk : zW K G nL Q cells slots M N pc lv' st) (ks : List Nat) (hl : lv_pick lv ks = lv') : zW K G nL Q cells slots M N pc lv st := fun H locs ls hH hlo hl' => kk H locs ls hH hlo (lv_sub hl' ks hl)
end ZC
