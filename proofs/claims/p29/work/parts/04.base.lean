/-! memory as a partial map from addresses to what lies there; a method's contract over it; a row an instruction -/
abbrev zM : Type := Nat → Option va_E
abbrev zG : Type := va_G × (Nat → ClassId) × Heap
abbrev zK : Type := Program × Launch × Env × Room × State × MethodId × Array Value × List Frame × Method × Code
abbrev zI (c : ClassId) (n : Nat) (f : Nat → Int32) : va_E := .inl (c, n, .inl f)
abbrev zR (c : ClassId) (n : Nat) (f : Nat → Option Nat) : va_E := .inl (c, n, .inr (.inr (.inr (.inr f))))
abbrev zO (ci : Nat) (fs : List Value) : va_E := .inr (ci, fs)
def zTy (c : Nat → ClassId) : List (ClassId × FieldType) := [(c 0, .int), (c 1, .char), (c 2, .boolean), (c 3, .array .int), (c 4, .object "HarpOrders$Parcel"), (c 5, .object "HarpOrders$Club")]
def zu (M : zM) (a : Nat) (e : va_E) : zM := fun q => if q = a then some e else M q
theorem zu_self (M : zM) (a : Nat) (e : va_E) : zu M a e a = some e := by simp [zu]
theorem zu_ne (M : zM) {a b : Nat} (e : va_E) (h : b ≠ a) : zu M a e b = M b := by simp [zu, h]
theorem zu_same {M : zM} {a : Nat} {e : va_E} (h : M a = some e) : zu M a e = M := by
  funext q
  by_cases hq : q = a
  · subst hq; simp [zu, h]
  · simp [zu, hq]
theorem zu_zu (M : zM) (a : Nat) (e e' : va_E) : zu (zu M a e) a e' = zu M a e' := by
  funext q
  by_cases hq : q = a <;> simp [zu, hq]
/-- which words of the tables are carried along -/
def zgd : Cond → Bool
  | .methodLinkNest _ _ _ _ => true
  | .fieldLinkNest _ _ _ _ _ _ => true
  | .arrayOver (.object _) => true
  | .arrayOver (.array _) => true
  | .castable _ _ => true
  | w => goodWord w
theorem zAOA {u U : State} (hal : u.vm.Alike U.vm) {t : FieldType} {args args' : Array Value} (h : (Cond.arrayOver (.array t)).before args u = true) : (Cond.arrayOver (.array t)).before args' U = true := by
  unfold Cond.before Cond.holds at h ⊢
  simp only [Cond.value, beq_iff_eq] at h ⊢
  cases hc : u.vm.findClass (FieldType.array t).toString with
  | none => simp [hc] at h
  | some comp =>
    simp only [hc, Option.bind_some, Option.bind_eq_some_iff, Option.map_eq_some_iff] at h
    obtain ⟨c, hi, k, hk, hb⟩ := h
    obtain ⟨k', hk', he⟩ := hal.2.2 _ _ hk
    have f1 : U.vm.findClass (FieldType.array t).toString = some comp := by rw [hal.findClass]; exact hc
    rw [f1, Option.bind_some, Option.bind_eq_some_iff]
    refine ⟨c, ?_, ?_⟩
    · exact (hal.findIdx?_eqK _ (fun _ => rfl)).trans hi
    · rw [Option.map_eq_some_iff]
      refine ⟨k', hk', ?_⟩
      have hkk : k'.kind = k.kind := by rw [he]
      rw [hkk, hal.findClass]
      exact hb
def zTb (U : State) : Prop := ∀ w ∈ lw_tbl, zgd w = true → w.before #[] U = true
theorem zTb.any {u U : State} (h : zTb u) (hW : u.WarmedH U.vm) {w : Cond} (hw : w ∈ lw_tbl) (hg : zgd w = true) (args : Array Value) : w.before args U = true := by
  have h1 := h w hw hg
  cases w with
  | methodLinkNest a i x hh => exact va_Nw.use rfl (va_Nw.warmM hW h1)
  | castable C T => exact va_Nw.use rfl (va_Nw.warmC hW h1)
  | fieldLinkNest a i b n d hh => exact va_Nw.use rfl (va_Nw.warmF hW h1)
  | arrayOver t =>
    cases t with
    | object C => exact va_AO.use (va_AO.moved hW.alike h1)
    | array t => exact zAOA hW.alike h1
    | _ => exact word_at hW (good_of_word hg) h1
  | _ => exact word_at hW (good_of_word hg) h1
theorem zTb.use {s : State} (h : zTb s) {w : Cond} (hw : w ∈ lw_tbl) (hg : zgd w = true) (args : Array Value) : w.before args s = true := h.any (State.WarmedH.refl s) hw hg args
theorem zTb.warm {u U : State} (h : zTb u) (hW : u.WarmedH U.vm) : zTb U := fun _ hw hg => h.any hW hw hg #[]
def zLeast (j : Nat) : Int32 := ([2, 0, 0, 1, 0, 0, 0, 0, 0] : List Int32).getD j 0
def zFirst (j : Nat) : Int32 := ([5, 20, 1, 5, 7, 100, 20, 50, 20] : List Int32).getD j 0
def zMost (j : Nat) : Int32 := ([20, 99, 9, 20, 30, 500, 50, 100, 100] : List Int32).getD j 0
/-- a static table of 9 ints, in the old heap -/
def zS1 (G : zG) (U : State) (nm : String) (f : Nat → Int32) : Prop := ∃ t : Nat, va_Z RX5 nm "[I" (.ref t) (fun q => G.2.2.size ≤ q) U G.2.2 ∧ va_T .int t 9 (fun j => .int (f j)) (fun q => G.2.2.size ≤ q) U G.2.2
/-- the first values are a row of just 9 ints -/
def zTx (G : zG) (t : Nat) (f : Nat → Int32) : Prop := ∃ cell : Cell, G.2.2[t]? = some cell ∧ cell.cls = G.2.1 0 ∧ (∀ k, cell.vm ≠ .statics k) ∧ cell.vm ≠ .unknown ∧ cell.slots.size = 9 ∧ ∀ j : Nat, j < 9 → cell.slots[j]? = some (.int (f j))
def zS2 (G : zG) (U : State) (nm : String) (f : Nat → Int32) : Prop := ∃ t : Nat, va_Z RX5 nm "[I" (.ref t) (fun q => G.2.2.size ≤ q) U G.2.2 ∧ zTx G t f
def zSt (G : zG) (U : State) : Prop := zS1 G U "LEAST_VALUES" zLeast ∧ zS2 G U "FIRST_VALUES" zFirst ∧ zS1 G U "MOST_VALUES" zMost
theorem zS1.warm {G : zG} {u U : State} {nm : String} {f : Nat → Int32} (h : zS1 G u nm f) (hW : u.WarmedH U.vm) : zS1 G U nm f := by
  obtain ⟨t, h1, h2⟩ := h
  exact ⟨t, h1.moved hW.alike, h2.moved hW.alike⟩
theorem zS2.warm {G : zG} {u U : State} {nm : String} {f : Nat → Int32} (h : zS2 G u nm f) (hW : u.WarmedH U.vm) : zS2 G U nm f := by
  obtain ⟨t, h1, h2⟩ := h
  exact ⟨t, h1.moved hW.alike, h2⟩
def zKw (G : zG) (U : State) : Prop := va_K G.1 vwCl (zTy G.2.1) U ∧ zTb U ∧ zSt G U
theorem zKw.warm {G : zG} {u U : State} (h : zKw G u) (hW : u.WarmedH U.vm) : zKw G U := ⟨h.1.moved hW.alike, h.2.1.warm hW, h.2.2.1.warm hW, h.2.2.2.1.warm hW, h.2.2.2.2.warm hW⟩
/-- the heap holds the memory; it has N cells; what was there before the start stays -/
def zHd (G : zG) (M : zM) (N : Nat) (H : Heap) : Prop := H.size = N ∧ (∀ q : Nat, q < G.2.2.size → H[q]? = G.2.2[q]?) ∧ G.2.2.size ≤ N ∧ ∀ (a : Nat) (e : va_E), M a = some e → G.2.2.size ≤ a ∧ va_at G.1 vwCl (a, e) H
theorem zHd.lt {G : zG} {M : zM} {N : Nat} {H : Heap} (h : zHd G M N H) {a : Nat} {e : va_E} (ha : M a = some e) : a < N := by
  have := (h.2.2.2 a e ha).2.lt
  rw [h.1] at this
  exact this
theorem zHd.fresh {G : zG} {M : zM} {N : Nat} {H : Heap} (h : zHd G M N H) : M N = none := by
  cases hM : M N with
  | none => rfl
  | some e => exact absurd (h.lt hM) (Nat.lt_irrefl _)
theorem zHd.put {G : zG} {M : zM} {N : Nat} {H H1 : Heap} (h : zHd G M N H) {a : Nat} {e0 e : va_E} (ha : M a = some e0) (z : H1.size = H.size) (oq : ∀ q : Nat, q ≠ a → H1[q]? = H[q]?) (he : va_at G.1 vwCl (a, e) H1) : zHd G (zu M a e) N H1 := by
  have hA := (h.2.2.2 a e0 ha).1
  refine ⟨by rw [z, h.1], fun q hq => ?_, h.2.2.1, fun b e' hb => ?_⟩
  · rw [oq q (by omega)]; exact h.2.1 q hq
  · by_cases hba : b = a
    · subst hba
      rw [zu_self] at hb
      cases hb
      exact ⟨hA, he⟩
    · rw [zu_ne M e hba] at hb
      obtain ⟨h1, h2⟩ := h.2.2.2 b e' hb
      exact ⟨h1, h2.kept (oq b hba)⟩
theorem zHd.grow {G : zG} {M : zM} {N : Nat} {H H1 : Heap} (h : zHd G M N H) {e : va_E} (z : H1.size = N + 1) (oq : ∀ q : Nat, q < N → H1[q]? = H[q]?) (he : va_at G.1 vwCl (N, e) H1) : zHd G (zu M N e) (N + 1) H1 := by
  have hs := h.2.2.1
  refine ⟨z, fun q hq => ?_, by omega, fun b e' hb => ?_⟩
  · rw [oq q (by omega)]; exact h.2.1 q hq
  · by_cases hba : b = N
    · subst hba
      rw [zu_self] at hb
      cases hb
      exact ⟨hs, he⟩
    · rw [zu_ne M e hba] at hb
      obtain ⟨h1, h2⟩ := h.2.2.2 b e' hb
      exact ⟨h1, h2.kept (oq b (h.lt hb))⟩
abbrev zF (G : zG) : Addr → Prop := fun q => G.2.2.size ≤ q
def zQc (G : zG) (N1 : Nat) (Post : Option Value → zM → Prop) : Array Value → State → Outcome → State → Prop := fun _ _ o t => ∃ r M', o = .returned r ∧ Post r M' ∧ zHd G M' N1 t.heap
/-- method y's contract: called with av in the memory M it returns, and Post says what and with which memory; mc cells of ms slots are new -/
def zC (l : Launch) (G : zG) (y : MethodName) (b : ByteArray) (n : Nat) (ret : Option FieldType) (f w mc ms : Nat) (av : List Value) (M : zM) (N : Nat) (Post : Option Value → zM → Prop) : Prop :=
  Met l y [.code y b n ret] { frames := f, cells := mc, slots := ms, locals := w } (va_Pc av (fun U => zKw G U ∧ zHd G M N U.heap)) (zQc G (N + mc) Post) mc ms (zF G)
/-- inside a body: from this frame, over every heap that holds the memory, the machine comes to Q -/
def zW (K : zK) (G : zG) (nL : Nat) (Q : State → Prop) (cells slots : Nat) (M : zM) (N pc : Nat) (lv : List (Nat × Value)) (st : List Value) : Prop :=
  ∀ (H : Heap) (locs : List Loc) (ls : Array Slot), zHd G M N H → (∀ q ∈ locs, G.2.2.size ≤ q.base) → lv_has ls nL lv →
    W K.1 K.2.1 K.2.2.1 K.2.2.2.1 K.2.2.2.2.1 K.2.2.2.2.2.1 K.2.2.2.2.2.2.1 K.2.2.2.2.2.2.2.1 K.2.2.2.2.2.2.2.2.1 K.2.2.2.2.2.2.2.2.2 H locs cells slots Q (F0 K.2.2.2.2.2.1 pc ls st)
/-- what holds all through a body of method y -/
def zOk (K : zK) (G : zG) (y : MethodName) (b : ByteArray) (n : Nat) (R : Room) (ret : Option FieldType) : Prop :=
  K.1.tables.exec = Jvm.exec ∧ K.2.2.2.2.2.2.2.2.2.code = b ∧ K.2.2.2.2.2.2.2.2.2.maxLocals = n ∧ K.2.2.2.2.1.vm.findClass y.cls = some K.2.2.2.2.2.1.cls ∧ zKw G K.2.2.2.2.1 ∧ K.2.2.2.1 = R ∧ K.2.2.2.2.2.2.2.2.1.sig.returnType = ret ∧ K.2.2.2.2.2.2.2.2.1.locks = false ∧ K.2.2.2.2.2.2.2.2.1.name = y.name
def zQ (K : zK) (G : zG) (N1 mc ms : Nat) (Post : Option Value → zM → Prop) : State → Prop := MQ K.2.2.2.2.2.2.2.1 (zQc G N1 Post) K.2.2.2.2.2.2.1 K.2.2.2.2.1 mc ms (zF G)
abbrev zRm (f w mc ms : Nat) : Room := { frames := f, cells := mc, slots := ms, locals := w }
theorem zC.of {l : Launch} {G : zG} {y : MethodName} {b : ByteArray} {n : Nat} {ret : Option FieldType} {f w mc ms : Nat} {av : List Value} {M : zM} {N : Nat} {Post : Option Value → zM → Prop} (hy : plainName y.cls = true) (hlen : (lg_sl av).length ≤ n)
    (body : ∀ K : zK, K.2.1 = l → zOk K G y b n (zRm f w mc ms) ret → zW K G n (zQ K G (N + mc) mc ms Post) 0 0 M N 0 (lv_args 0 av) []) : zC l G y b n ret f w mc ms av M N Post := by
  refine Met.ofW (cc := b) (maxL := n) (ret := ret) hy rfl ?_
  intro p e s m args below meth c s₁ B hml hv
  obtain ⟨rfl, hK, hH⟩ := hv
  have h := body (p, l, e, zRm f w mc ms, s, m, av.toArray, below, meth, c) rfl ⟨B.exec, B.bytes, hml, findClass_of_methodNamed B.named, hK, rfl, B.returns, B.notSynchronized, (name_of_methodNamed B.named B.method).1⟩
  rw [lg_entry_eq]
  exact h s.heap [] _ hH (fun q hq => by cases hq) (lv_entry av hlen)
