/-! an object that is being made: its fields, and the first K cells of what it will be -/
def zX (M : zM) (N ci : Nat) (fs : List Value) (F : zM) (K : Nat) : zM := fun q => if q = N then some (zO ci fs) else if N < q ∧ q < N + K then F q else M q
section MK
variable {M : zM} {N ci : Nat} {fs fs' : List Value} {F : zM} {K : Nat}
theorem zX_1 : zu M N (zO ci fs) = zX M N ci fs F 1 := by
  funext q
  unfold zu zX
  by_cases h : q = N
  · rw [if_pos h, if_pos h]
  · rw [if_neg h, if_neg h, if_neg (by omega)]
theorem zX_o : zX M N ci fs F K N = some (zO ci fs) := if_pos rfl
theorem zX_in {q : Nat} (h1 : N < q) (h2 : q < N + K) : zX M N ci fs F K q = F q := by
  unfold zX; rw [if_neg (by omega), if_pos ⟨h1, h2⟩]
theorem zX_w : zu (zX M N ci fs F K) N (zO ci fs') = zX M N ci fs' F K := by
  funext q
  unfold zu zX
  by_cases h : q = N
  · rw [if_pos h, if_pos h]
  · rw [if_neg h, if_neg h, if_neg h]
theorem zX_s {e : va_E} (hK : 0 < K) (h : F (N + K) = some e) : zu (zX M N ci fs F K) (N + K) e = zX M N ci fs F (K + 1) := by
  funext q
  unfold zu zX
  by_cases h1 : q = N + K
  · subst h1; rw [if_pos rfl, if_neg (by omega), if_pos (by omega), h]
  · rw [if_neg h1]
    by_cases h2 : q = N
    · rw [if_pos h2, if_pos h2]
    · rw [if_neg h2, if_neg h2]
      by_cases h3 : N < q ∧ q < N + K
      · rw [if_pos h3, if_pos (by omega)]
      · rw [if_neg h3, if_neg (by omega)]
/-- a stretch of k cells -/
theorem zX_blk {B : zM} {k : Nat} (hK : 0 < K) (h1 : ∀ q, N + K ≤ q → q < N + K + k → B q = F q) (h2 : ∀ q, q < N + K ∨ N + K + k ≤ q → B q = zX M N ci fs F K q) : B = zX M N ci fs F (K + k) := by
  funext q
  by_cases h : N + K ≤ q ∧ q < N + K + k
  · rw [h1 q h.1 h.2, zX_in (by omega) (by omega)]
  · rw [h2 q (by omega)]
    unfold zX
    by_cases h3 : q = N
    · rw [if_pos h3, if_pos h3]
    · rw [if_neg h3, if_neg h3]
      by_cases h4 : N < q ∧ q < N + K
      · rw [if_pos h4, if_pos (by omega)]
      · rw [if_neg h4, if_neg (by omega)]
theorem zX_end (h0 : F N = some (zO ci fs)) (h1 : ∀ q, q < N ∨ N + K ≤ q → F q = M q) : zX M N ci fs F K = F := by
  funext q
  unfold zX
  by_cases h : q = N
  · subst h; rw [if_pos rfl, h0]
  · rw [if_neg h]
    by_cases h2 : N < q ∧ q < N + K
    · rw [if_pos h2]
    · rw [if_neg h2, h1 q (by omega)]
/-- a cell that was made before changes -/
theorem zX_ch {e : va_E} {j : Nat} (hj : 0 < j) (hjK : j < K) : zu (zX M N ci fs F K) (N + j) e = zX M N ci fs (zu F (N + j) e) K := by
  funext q
  by_cases h : q = N + j
  · subst h; rw [zu_self, zX_in (by omega) (by omega), zu_self]
  · rw [zu_ne _ _ h]
    unfold zX
    rw [zu_ne F e h]
end MK
theorem zW.cs {K : zK} {G : zG} {nL : Nat} {Q : State → Prop} {cells slots cells' slots' : Nat} {M : zM} {N N' pc : Nat} {lv : List (Nat × Value)} {st : List Value} (kk : zW K G nL Q cells' slots' M N' pc lv st) (h1 : cells = cells') (h2 : slots = slots') (h3 : N = N') : zW K G nL Q cells slots M N pc lv st := by
  subst h1; subst h2; subst h3; exact kk
/-- what is called makes mc cells -/
theorem r_cIN {K : zK} {G : zG} {y : MethodName} {b : ByteArray} {nL : Nat} {R : Room} {ret : Option FieldType} {Q : State → Prop} {cells slots : Nat} {M : zM} {N pc : Nat} {lv : List (Nat × Value)} {st : List Value} (h : zOk K G y b nL R ret) {x : MethodName} {host : String} {bx : ByteArray} {n f w mc ms index a : Nat} {M' : zM} (hm : zMi x bx n none 0) (hlk : Cond.methodLinkNest y.cls index x host ∈ lw_tbl) (hin : Cond.instanceMethod x ∈ lw_tbl) (hnm1 : x.name = "<init>") (hd : decode b pc = .ok (.invokespecial index, 3)) (hC : zC K.2.1 G x bx n none f w mc ms [.ref a] M N (zP none M')) (hR : f + 1 ≤ R.frames ∧ 8 + (n + 11) + w ≤ R.locals) (hW : (st.map fun v => v.category).sum ≤ 8) (hf : cells + mc ≤ R.cells ∧ slots + ms ≤ R.slots)
    (kk : zW K G nL Q (cells + mc) (slots + ms) M' (N + mc) (pc + 3) lv st) : zW K G nL Q cells slots M N pc lv (.ref a :: st) := r_callIN h (As := []) (rest := st) hm hlk hin hnm1 hd hC rfl rfl hR hW hf (fun r M1 hP => by obtain ⟨rfl, rfl⟩ := hP; exact kk)
theorem r_cI0 {K : zK} {G : zG} {y : MethodName} {b : ByteArray} {nL : Nat} {R : Room} {ret : Option FieldType} {Q : State → Prop} {cells slots : Nat} {M : zM} {N pc : Nat} {lv : List (Nat × Value)} {st : List Value} (h : zOk K G y b nL R ret) {x : MethodName} {bx : ByteArray} {n f w mc ms index a : Nat} {M' : zM} (hm : zMi x bx n none 0) (hlk : Cond.methodLink y.cls index x ∈ lw_tbl) (hin : Cond.instanceMethod x ∈ lw_tbl) (hnm1 : x.name = "<init>") (hd : decode b pc = .ok (.invokespecial index, 3)) (hC : zC K.2.1 G x bx n none f w mc ms [.ref a] M N (zP none M')) (hR : f + 1 ≤ R.frames ∧ 8 + (n + 11) + w ≤ R.locals) (hW : (st.map fun v => v.category).sum ≤ 8) (hf : cells + mc ≤ R.cells ∧ slots + ms ≤ R.slots)
    (kk : zW K G nL Q (cells + mc) (slots + ms) M' (N + mc) (pc + 3) lv st) : zW K G nL Q cells slots M N pc lv (.ref a :: st) := r_callI h (As := []) (rest := st) hm hlk hin hnm1 hd hC rfl rfl hR hW hf (fun r M1 hP => by obtain ⟨rfl, rfl⟩ := hP; exact kk)
