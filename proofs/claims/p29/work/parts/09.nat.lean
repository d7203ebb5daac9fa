/-! rows for ints that are known as naturals, and for truth values -/
def zb (x : Bool) : Int32 := if x then 1 else 0
theorem zb_t : zb true = 1 := rfl
theorem zb_f : zb false = 0 := rfl
theorem zb_n (x : Bool) : narrow .boolean (.int (zb x)) = .int (zb x) := by cases x <;> rfl
theorem zb_fit (x : Bool) : fits .boolean (.int (zb x)) = true := by cases x <;> rfl
theorem zb_inj {x w : Bool} : zb x = zb w ↔ x = w := by cases x <;> cases w <;> decide
/-- an int as an index below n -/
def zix (v : Int32) (n : Nat) : Option Nat := if 0 ≤ v.toInt ∧ v.toInt < n then some v.toInt.toNat else none
theorem zix_some {v : Int32} {n i : Nat} (h : zix v n = some i) (hn : n < 2 ^ 31) : i < n ∧ v = nI i := by
  unfold zix at h
  split at h
  · rename_i hc
    have h1 := Option.some.inj h
    refine ⟨by omega, Int32.toInt_inj.mp ?_⟩
    rw [nI_toInt (by omega)]
    omega
  · cases h
theorem zix_nI {n i : Nat} (h : i < n) (hn : n < 2 ^ 31) : zix (nI i) n = some i := by
  unfold zix
  rw [nI_toInt (by omega), if_pos (by omega)]
  simp
theorem zix_none {n i : Nat} (h : ¬ i < n) (hi : i < 2 ^ 31) : zix (nI i) n = none := by
  unfold zix
  rw [nI_toInt hi, if_neg (by omega)]
/-- v lies between two ints -/
def zbe (v lo hi : Int32) : Bool := decide (lo ≤ v) && decide (v ≤ hi)
theorem zbe_ix (v : Int32) {n : Nat} (hn : n + 1 < 2 ^ 31) : zbe v 0 (nI n) = (zix v (n + 1)).isSome := by
  unfold zbe zix
  have h2 := nI_toInt (n := n) (by omega)
  by_cases h : 0 ≤ v.toInt ∧ v.toInt < ((n + 1 : Nat) : Int)
  · rw [if_pos h]
    have a1 : (0 : Int32) ≤ v := Int32.le_iff_toInt_le.mpr (by simpa using h.1)
    have a2 : v ≤ nI n := Int32.le_iff_toInt_le.mpr (by rw [h2]; omega)
    simp [a1, a2]
  · rw [if_neg h]
    by_cases b1 : (0 : Int32) ≤ v
    · have h1 : 0 ≤ v.toInt := by simpa using Int32.le_iff_toInt_le.mp b1
      have a2 : ¬ v ≤ nI n := fun q => by have := Int32.le_iff_toInt_le.mp q; rw [h2] at this; omega
      simp [a2]
    · simp [b1]
/-- whether bit k is in a set -/
def zHas (x : Int32) (k : Nat) : Bool := decide ((x >>> (nI k &&& 31)) &&& 1 = 1)
def lsum (f : Nat → Int32) : Nat → Int32
  | 0 => 0
  | k + 1 => lsum f k + f k
theorem lsum_s (f : Nat → Int32) (k : Nat) : lsum f (k + 1) = lsum f k + f k := rfl
theorem lsum_congr {f g : Nat → Int32} : ∀ {n : Nat}, (∀ k, k < n → f k = g k) → lsum f n = lsum g n
  | 0, _ => rfl
  | n + 1, h => by rw [lsum_s, lsum_s, lsum_congr (fun k hk => h k (by omega)), h n (by omega)]
def ub (f : Nat → Bool) (k : Nat) (x : Bool) : Nat → Bool := fun j => if j = k then x else f j
theorem ub_zb (f : Nat → Bool) (k : Nat) (x : Bool) : upd (fun j => zb (f j)) k (zb x) = fun j => zb (ub f k x j) := by
  funext j
  by_cases h : j = k <;> simp [upd, ub, h]
section ZN
variable {K : zK} {G : zG} {y : MethodName} {b : ByteArray} {nL : Nat} {R : Room} {ret : Option FieldType} {Q : State → Prop} {cells slots : Nat} {M : zM} {N pc : Nat} {lv : List (Nat × Value)} {st : List Value}
theorem r_iaddN (h : zOk K G y b nL R ret) {i j : Nat} (hd : decode b pc = .ok (.iadd, 1)) (k : zW K G nL Q cells slots M N (pc + 1) lv (.int (nI (i + j)) :: st)) : zW K G nL Q cells slots M N pc lv (.int (nI j) :: .int (nI i) :: st) := r_iadd h hd (by rw [nI_add]; exact k)
theorem r_isubN (h : zOk K G y b nL R ret) {i j : Nat} (hij : j ≤ i) (hd : decode b pc = .ok (.isub, 1)) (k : zW K G nL Q cells slots M N (pc + 1) lv (.int (nI (i - j)) :: st)) : zW K G nL Q cells slots M N pc lv (.int (nI j) :: .int (nI i) :: st) := r_isub h hd (by rw [pk_sub hij]; exact k)
theorem r_imulN (h : zOk K G y b nL R ret) {i j : Nat} (hd : decode b pc = .ok (.imul, 1)) (k : zW K G nL Q cells slots M N (pc + 1) lv (.int (nI (i * j)) :: st)) : zW K G nL Q cells slots M N pc lv (.int (nI j) :: .int (nI i) :: st) := r_imul h hd (by rw [pk_mul]; exact k)
theorem r_idivN (h : zOk K G y b nL R ret) {i j : Nat} (hi : i < 2 ^ 31) (h0 : 0 < j) (hj : j < 2 ^ 31) (hd : decode b pc = .ok (.idiv, 1)) (k : zW K G nL Q cells slots M N (pc + 1) lv (.int (nI (i / j)) :: st)) : zW K G nL Q cells slots M N pc lv (.int (nI j) :: .int (nI i) :: st) := r_idiv h (nI_ne0 h0 hj) hd (by rw [pk_div hi h0 hj]; exact k)
theorem r_iremN (h : zOk K G y b nL R ret) {i j : Nat} (hi : i < 2 ^ 31) (h0 : 0 < j) (hj : j < 2 ^ 31) (hd : decode b pc = .ok (.irem, 1)) (k : zW K G nL Q cells slots M N (pc + 1) lv (.int (nI (i % j)) :: st)) : zW K G nL Q cells slots M N pc lv (.int (nI j) :: .int (nI i) :: st) := r_irem h (nI_ne0 h0 hj) hd (by rw [pk_rem hi h0 hj]; exact k)
theorem r_iincN (h : zOk K G y b nL R ret) {i c : Nat} {n : Int} {x : Nat} (lv' : List (Nat × Value)) (hd : decode b pc = .ok (.iinc i n, 3)) (j : Nat) (hj : lv[j]? = some (i, .int (nI x))) (hn : Int32.ofInt n = nI c) (hi : i < nL) (hl : (i, Value.int (nI (x + c))) :: lv.filter (fun q => !(q.1 == i) && !(q.1 + 1 == i && q.2.category == 2)) = lv') (k : zW K G nL Q cells slots M N (pc + 3) lv' st) : zW K G nL Q cells slots M N pc lv st := r_iinc h (nI (x + c)) lv' hd j hj (by rw [hn, nI_add]) hi hl k
theorem r_iincM (h : zOk K G y b nL R ret) {i : Nat} {x : Nat} (lv' : List (Nat × Value)) (hd : decode b pc = .ok (.iinc i (-1), 3)) (j : Nat) (hj : lv[j]? = some (i, .int (nI (x + 1)))) (hi : i < nL) (hl : (i, Value.int (nI x)) :: lv.filter (fun q => !(q.1 == i) && !(q.1 + 1 == i && q.2.category == 2)) = lv') (k : zW K G nL Q cells slots M N (pc + 3) lv' st) : zW K G nL Q cells slots M N pc lv st := r_iinc h (nI x) lv' hd j hj (pk_m1 x) hi hl k
theorem r_ialdN (h : zOk K G y b nL R ret) {a n : Nat} {f : Nat → Int32} {i : Nat} (hi : i < n) (hn : n < 2 ^ 31) (hd : decode b pc = .ok (.iaload, 1)) (hM : M a = some (zI (G.2.1 0) n f)) (kk : zW K G nL Q cells slots M N (pc + 1) lv (.int (f i) :: st)) : zW K G nL Q cells slots M N pc lv (.int (nI i) :: .ref a :: st) := r_iald h hd hM (vp_in_nI hi hn) (by rw [nI_clamp (by omega)]; exact kk)
theorem r_zaldN (h : zOk K G y b nL R ret) {a n : Nat} {f : Nat → Bool} {i : Nat} (hi : i < n) (hn : n < 2 ^ 31) (hd : decode b pc = .ok (.baload, 1)) (hM : M a = some (zI (G.2.1 2) n (fun j => zb (f j)))) (kk : zW K G nL Q cells slots M N (pc + 1) lv (.int (zb (f i)) :: st)) : zW K G nL Q cells slots M N pc lv (.int (nI i) :: .ref a :: st) := r_zald h hd hM (vp_in_nI hi hn) (by rw [nI_clamp (by omega)]; exact kk)
theorem r_caldN (h : zOk K G y b nL R ret) {a n : Nat} {f : Nat → Int32} {i : Nat} (hi : i < n) (hn : n < 2 ^ 31) (hd : decode b pc = .ok (.caload, 1)) (hM : M a = some (zI (G.2.1 1) n f)) (kk : zW K G nL Q cells slots M N (pc + 1) lv (.int (f i) :: st)) : zW K G nL Q cells slots M N pc lv (.int (nI i) :: .ref a :: st) := r_cald h hd hM (vp_in_nI hi hn) (by rw [nI_clamp (by omega)]; exact kk)
theorem r_aaldN (h : zOk K G y b nL R ret) {a n : Nat} {f : Nat → Option Nat} {i : Nat} (t : Nat) (ht : zRt t) (v : Nat) (hi : i < n) (hn : n < 2 ^ 31) (hd : decode b pc = .ok (.aaload, 1)) (hM : M a = some (zR (G.2.1 t) n f)) (hv : f i = some v) (kk : zW K G nL Q cells slots M N (pc + 1) lv (.ref v :: st)) : zW K G nL Q cells slots M N pc lv (.int (nI i) :: .ref a :: st) := r_aald h t ht v hd hM (vp_in_nI hi hn) (by rw [nI_clamp (by omega)]; exact hv) kk
theorem r_iastN (h : zOk K G y b nL R ret) {a n : Nat} {f : Nat → Int32} {i : Nat} {x : Int32} {M' : zM} (hi : i < n) (hn : n < 2 ^ 31) (hd : decode b pc = .ok (.iastore, 1)) (hM : M a = some (zI (G.2.1 0) n f)) (hM' : zu M a (zI (G.2.1 0) n (upd f i x)) = M') (kk : zW K G nL Q cells slots M' N (pc + 1) lv st) : zW K G nL Q cells slots M N pc lv (.int x :: .int (nI i) :: .ref a :: st) := r_iast h hd hM (vp_in_nI hi hn) (by rw [nI_clamp (by omega)]; exact hM') kk
theorem r_zastN (h : zOk K G y b nL R ret) {a n : Nat} {f : Nat → Bool} {i : Nat} {x : Bool} {M' : zM} (hi : i < n) (hn : n < 2 ^ 31) (hd : decode b pc = .ok (.bastore, 1)) (hM : M a = some (zI (G.2.1 2) n (fun j => zb (f j)))) (hM' : zu M a (zI (G.2.1 2) n (fun j => zb (ub f i x j))) = M') (kk : zW K G nL Q cells slots M' N (pc + 1) lv st) : zW K G nL Q cells slots M N pc lv (.int (zb x) :: .int (nI i) :: .ref a :: st) := r_zast h hd hM (vp_in_nI hi hn) (zb_n x) (by rw [nI_clamp (by omega), ub_zb]; exact hM') kk
theorem r_castN (h : zOk K G y b nL R ret) {a n : Nat} {f : Nat → Int32} {i : Nat} {x : Int32} {M' : zM} (hi : i < n) (hn : n < 2 ^ 31) (hx : narrow .char (.int x) = .int x) (hd : decode b pc = .ok (.castore, 1)) (hM : M a = some (zI (G.2.1 1) n f)) (hM' : zu M a (zI (G.2.1 1) n (upd f i x)) = M') (kk : zW K G nL Q cells slots M' N (pc + 1) lv st) : zW K G nL Q cells slots M N pc lv (.int x :: .int (nI i) :: .ref a :: st) := r_cast h hd hM (vp_in_nI hi hn) hx (by rw [nI_clamp (by omega)]; exact hM') kk
/-! branches on truth values -/
theorem r_ifeqZ (h : zOk K G y b nL R ret) {x : Bool} {off : Int} (tgt : Nat) (hd : decode b pc = .ok (.ifCond .eq off, 3)) (ht : (pc : Int) + off = (tgt : Int)) (kt : x = false → zW K G nL Q cells slots M N tgt lv st) (kf : x = true → zW K G nL Q cells slots M N (pc + 3) lv st) : zW K G nL Q cells slots M N pc lv (.int (zb x) :: st) := by
  cases x
  · exact r_if_eq h tgt hd ht (fun _ => kt rfl) (fun q => absurd rfl q)
  · exact r_if_eq h tgt hd ht (fun q => absurd q (by decide)) (fun _ => kf rfl)
theorem r_ifneZ (h : zOk K G y b nL R ret) {x : Bool} {off : Int} (tgt : Nat) (hd : decode b pc = .ok (.ifCond .ne off, 3)) (ht : (pc : Int) + off = (tgt : Int)) (kt : x = true → zW K G nL Q cells slots M N tgt lv st) (kf : x = false → zW K G nL Q cells slots M N (pc + 3) lv st) : zW K G nL Q cells slots M N pc lv (.int (zb x) :: st) := by
  cases x
  · exact r_if_ne h tgt hd ht (fun q => absurd rfl q) (fun _ => kf rfl)
  · exact r_if_ne h tgt hd ht (fun _ => kt rfl) (fun q => absurd q (by decide))
theorem r_icmp_eqN (h : zOk K G y b nL R ret) {i j : Nat} {off : Int} (tgt : Nat) (hi : i < 2 ^ 31) (hj : j < 2 ^ 31) (hd : decode b pc = .ok (.if_icmp .eq off, 3)) (ht : (pc : Int) + off = (tgt : Int)) (kt : i = j → zW K G nL Q cells slots M N tgt lv st) (kf : i ≠ j → zW K G nL Q cells slots M N (pc + 3) lv st) : zW K G nL Q cells slots M N pc lv (.int (nI j) :: .int (nI i) :: st) := r_icmp_eq h tgt hd ht (fun q => kt ((nI_eq hi hj).mp q)) (fun q => kf (fun z => q (by rw [z])))
theorem r_icmp_neN (h : zOk K G y b nL R ret) {i j : Nat} {off : Int} (tgt : Nat) (hi : i < 2 ^ 31) (hj : j < 2 ^ 31) (hd : decode b pc = .ok (.if_icmp .ne off, 3)) (ht : (pc : Int) + off = (tgt : Int)) (kt : i ≠ j → zW K G nL Q cells slots M N tgt lv st) (kf : i = j → zW K G nL Q cells slots M N (pc + 3) lv st) : zW K G nL Q cells slots M N pc lv (.int (nI j) :: .int (nI i) :: st) := r_icmp_ne h tgt hd ht (fun q => kt (fun z => q (by rw [z]))) (fun q => kf ((nI_eq hi hj).mp q))
theorem r_icmp_ltN (h : zOk K G y b nL R ret) {i j : Nat} {off : Int} (tgt : Nat) (hi : i < 2 ^ 31) (hj : j < 2 ^ 31) (hd : decode b pc = .ok (.if_icmp .lt off, 3)) (ht : (pc : Int) + off = (tgt : Int)) (kt : i < j → zW K G nL Q cells slots M N tgt lv st) (kf : j ≤ i → zW K G nL Q cells slots M N (pc + 3) lv st) : zW K G nL Q cells slots M N pc lv (.int (nI j) :: .int (nI i) :: st) := r_icmp_lt h tgt hd ht (fun q => kt ((nI_ltI hi hj).mp q)) (fun q => kf (Nat.le_of_not_lt fun z => q ((nI_ltI hi hj).mpr z)))
theorem r_icmp_geN (h : zOk K G y b nL R ret) {i j : Nat} {off : Int} (tgt : Nat) (hi : i < 2 ^ 31) (hj : j < 2 ^ 31) (hd : decode b pc = .ok (.if_icmp .ge off, 3)) (ht : (pc : Int) + off = (tgt : Int)) (kt : j ≤ i → zW K G nL Q cells slots M N tgt lv st) (kf : i < j → zW K G nL Q cells slots M N (pc + 3) lv st) : zW K G nL Q cells slots M N pc lv (.int (nI j) :: .int (nI i) :: st) := r_icmp_ge h tgt hd ht (fun q => kt ((nI_leI hj hi).mp q)) (fun q => kf (Nat.lt_of_not_le fun z => q ((nI_leI hj hi).mpr z)))
theorem r_icmp_gtN (h : zOk K G y b nL R ret) {i j : Nat} {off : Int} (tgt : Nat) (hi : i < 2 ^ 31) (hj : j < 2 ^ 31) (hd : decode b pc = .ok (.if_icmp .gt off, 3)) (ht : (pc : Int) + off = (tgt : Int)) (kt : j < i → zW K G nL Q cells slots M N tgt lv st) (kf : i ≤ j → zW K G nL Q cells slots M N (pc + 3) lv st) : zW K G nL Q cells slots M N pc lv (.int (nI j) :: .int (nI i) :: st) := r_icmp_gt h tgt hd ht (fun q => kt ((nI_ltI hj hi).mp q)) (fun q => kf (Nat.le_of_not_lt fun z => q ((nI_ltI hj hi).mpr z)))
theorem r_icmp_leN (h : zOk K G y b nL R ret) {i j : Nat} {off : Int} (tgt : Nat) (hi : i < 2 ^ 31) (hj : j < 2 ^ 31) (hd : decode b pc = .ok (.if_icmp .le off, 3)) (ht : (pc : Int) + off = (tgt : Int)) (kt : i ≤ j → zW K G nL Q cells slots M N tgt lv st) (kf : j < i → zW K G nL Q cells slots M N (pc + 3) lv st) : zW K G nL Q cells slots M N pc lv (.int (nI j) :: .int (nI i) :: st) := r_icmp_le h tgt hd ht (fun q => kt ((nI_leI hi hj).mp q)) (fun q => kf (Nat.lt_of_not_le fun z => q ((nI_leI hi hj).mpr z)))
theorem r_if_eqN (h : zOk K G y b nL R ret) {i : Nat} {off : Int} (tgt : Nat) (hi : i < 2 ^ 31) (hd : decode b pc = .ok (.ifCond .eq off, 3)) (ht : (pc : Int) + off = (tgt : Int)) (kt : i = 0 → zW K G nL Q cells slots M N tgt lv st) (kf : i ≠ 0 → zW K G nL Q cells slots M N (pc + 3) lv st) : zW K G nL Q cells slots M N pc lv (.int (nI i) :: st) := by
  have h0 := nI_toInt hi
  have e : (0 : Int32).toInt = 0 := rfl
  refine r_if_eq h tgt hd ht (fun q => kt ?_) (fun q => kf ?_) <;> first | trivial | (simp only [Int32.lt_iff_toInt_lt, Int32.le_iff_toInt_le, ← Int32.toInt_inj, h0, e] at q; omega)
theorem r_if_neN (h : zOk K G y b nL R ret) {i : Nat} {off : Int} (tgt : Nat) (hi : i < 2 ^ 31) (hd : decode b pc = .ok (.ifCond .ne off, 3)) (ht : (pc : Int) + off = (tgt : Int)) (kt : i ≠ 0 → zW K G nL Q cells slots M N tgt lv st) (kf : i = 0 → zW K G nL Q cells slots M N (pc + 3) lv st) : zW K G nL Q cells slots M N pc lv (.int (nI i) :: st) := by
  have h0 := nI_toInt hi
  have e : (0 : Int32).toInt = 0 := rfl
  refine r_if_ne h tgt hd ht (fun q => kt ?_) (fun q => kf ?_) <;> first | trivial | (simp only [Int32.lt_iff_toInt_lt, Int32.le_iff_toInt_le, ← Int32.toInt_inj, h0, e] at q; omega)
theorem r_if_ltN (h : zOk K G y b nL R ret) {i : Nat} {off : Int} (tgt : Nat) (hi : i < 2 ^ 31) (hd : decode b pc = .ok (.ifCond .lt off, 3)) (ht : (pc : Int) + off = (tgt : Int)) (kt : False → zW K G nL Q cells slots M N tgt lv st) (kf : True → zW K G nL Q cells slots M N (pc + 3) lv st) : zW K G nL Q cells slots M N pc lv (.int (nI i) :: st) := by
  have h0 := nI_toInt hi
  have e : (0 : Int32).toInt = 0 := rfl
  refine r_if_lt h tgt hd ht (fun q => kt ?_) (fun q => kf ?_) <;> first | trivial | (simp only [Int32.lt_iff_toInt_lt, Int32.le_iff_toInt_le, ← Int32.toInt_inj, h0, e] at q; omega)
theorem r_if_geN (h : zOk K G y b nL R ret) {i : Nat} {off : Int} (tgt : Nat) (hi : i < 2 ^ 31) (hd : decode b pc = .ok (.ifCond .ge off, 3)) (ht : (pc : Int) + off = (tgt : Int)) (kt : True → zW K G nL Q cells slots M N tgt lv st) (kf : False → zW K G nL Q cells slots M N (pc + 3) lv st) : zW K G nL Q cells slots M N pc lv (.int (nI i) :: st) := by
  have h0 := nI_toInt hi
  have e : (0 : Int32).toInt = 0 := rfl
  refine r_if_ge h tgt hd ht (fun q => kt ?_) (fun q => kf ?_) <;> first | trivial | (simp only [Int32.lt_iff_toInt_lt, Int32.le_iff_toInt_le, ← Int32.toInt_inj, h0, e] at q; omega)
theorem r_if_gtN (h : zOk K G y b nL R ret) {i : Nat} {off : Int} (tgt : Nat) (hi : i < 2 ^ 31) (hd : decode b pc = .ok (.ifCond .gt off, 3)) (ht : (pc : Int) + off = (tgt : Int)) (kt : 0 < i → zW K G nL Q cells slots M N tgt lv st) (kf : i = 0 → zW K G nL Q cells slots M N (pc + 3) lv st) : zW K G nL Q cells slots M N pc lv (.int (nI i) :: st) := by
  have h0 := nI_toInt hi
  have e : (0 : Int32).toInt = 0 := rfl
  refine r_if_gt h tgt hd ht (fun q => kt ?_) (fun q => kf ?_) <;> first | trivial | (simp only [Int32.lt_iff_toInt_lt, Int32.le_iff_toInt_le, ← Int32.toInt_inj, h0, e] at q; omega)
theorem r_if_leN (h : zOk K G y b nL R ret) {i : Nat} {off : Int} (tgt : Nat) (hi : i < 2 ^ 31) (hd : decode b pc = .ok (.ifCond .le off, 3)) (ht : (pc : Int) + off = (tgt : Int)) (kt : i = 0 → zW K G nL Q cells slots M N tgt lv st) (kf : 0 < i → zW K G nL Q cells slots M N (pc + 3) lv st) : zW K G nL Q cells slots M N pc lv (.int (nI i) :: st) := by
  have h0 := nI_toInt hi
  have e : (0 : Int32).toInt = 0 := rfl
  refine r_if_le h tgt hd ht (fun q => kt ?_) (fun q => kf ?_) <;> first | trivial | (simp only [Int32.lt_iff_toInt_lt, Int32.le_iff_toInt_le, ← Int32.toInt_inj, h0, e] at q; omega)
end ZN
