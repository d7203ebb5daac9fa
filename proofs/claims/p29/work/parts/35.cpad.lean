/-! the pad of the class -/
theorem zCh_nat (x : Int64) (k : Nat) : ∃ n, n < 256 ∧ zCh x k = nI n := by
  refine ⟨((zPX x k).toBitVec.toNat) % 256, Nat.mod_lt _ (by decide), ?_⟩
  unfold zCh
  apply Int32.toBitVec_inj.mp
  apply BitVec.eq_of_toNat_eq
  have h1 : ((zPX x k &&& 255).toInt32).toBitVec = (zPX x k &&& 255).toBitVec.signExtend 32 := rfl
  have h2 : (zPX x k &&& 255).toBitVec.toNat = (zPX x k).toBitVec.toNat % 256 := by
    rw [Int64.toBitVec_and, BitVec.toNat_and]
    exact Nat.and_two_pow_sub_one_eq_mod _ 8
  have h3 : (nI ((zPX x k).toBitVec.toNat % 256)).toBitVec.toNat = (zPX x k).toBitVec.toNat % 256 := by
    have := nI_toInt (n := (zPX x k).toBitVec.toNat % 256) (by omega)
    have h4 := Int32.toInt_toBitVec (nI ((zPX x k).toBitVec.toNat % 256))
    rw [this] at h4
    have h5 := BitVec.toInt_eq_toNat_bmod (nI ((zPX x k).toBitVec.toNat % 256)).toBitVec
    rw [h4] at h5
    have h6 := (nI ((zPX x k).toBitVec.toNat % 256)).toBitVec.isLt
    rw [Int.bmod_def] at h5
    split at h5 <;> omega
  rw [h1, h3, BitVec.signExtend_eq_setWidth_of_msb_false, BitVec.toNat_setWidth, h2]
  · omega
  · rw [BitVec.msb_eq_decide, h2]
    simp; omega
theorem zCh_n (x : Int64) (k : Nat) : narrow .char (.int (zCh x k)) = .int (zCh x k) := by
  obtain ⟨n, h, e⟩ := zCh_nat x k
  rw [e]
  exact (show ∀ n, n < 256 → narrow .char (.int (nI n)) = .int (nI n) by decide +kernel) n h
theorem zCh_c (x : Int64) (k : Nat) : ((zCh x k).toUInt32 % 65536).toInt32 = zCh x k := by
  obtain ⟨n, h, e⟩ := zCh_nat x k
  rw [e]
  exact (show ∀ n, n < 256 → ((nI n).toUInt32 % 65536).toInt32 = nI n by decide +kernel) n h
def zCe (x : Int64) (k : Nat) : Nat := if k < 8 ∧ ¬ lg_cmp (zPX x k) 0 = 0 then 0 else k
def zCg (x : Int64) : Nat → Nat → Nat
  | 0, k => zCe x k
  | n + 1, k => if zCh x k = 0 then zCe x k else if zbe (zCh x k) (nI 33) (nI 126) = true then zCg x n (k + 1) else 0
def zCIn (x : Int64) : Nat := zCg x 8 0
theorem zCg_e {x : Int64} {n k : Nat} (hk : n = 8 - k) (h : k < 8) (hc : zCh x k = 0) : zCg x n k = zCe x k := by
  obtain ⟨n, rfl⟩ : ∃ m, n = m + 1 := ⟨n - 1, by omega⟩
  exact if_pos hc
theorem zCg_bad {x : Int64} {n k : Nat} (hk : n = 8 - k) (h : k < 8) (hc : ¬ zCh x k = 0) (hb : zbe (zCh x k) (nI 33) (nI 126) = false) : zCg x n k = 0 := by
  obtain ⟨n, rfl⟩ : ∃ m, n = m + 1 := ⟨n - 1, by omega⟩
  exact (if_neg hc).trans (if_neg (by rw [hb]; decide))
theorem zCg_go {x : Int64} {n k : Nat} (hk : n = 8 - k) (h : k < 8) (hc : ¬ zCh x k = 0) (hb : zbe (zCh x k) (nI 33) (nI 126) = true) : zCg x n k = zCg x (8 - (k + 1)) (k + 1) := by
  obtain ⟨n, rfl⟩ : ∃ m, n = m + 1 := ⟨n - 1, by omega⟩
  rw [show 8 - (k + 1) = n by omega]
  exact (if_neg hc).trans (if_pos hb)
def zApp (sg : Nat → Int32) (x : Int64) (n m : Nat) : Nat → (Nat → Int32)
  | 0 => sg
  | k + 1 => upd (zApp sg x n m k) (n + k) (zCh x (m - 1 - k))
/-- the place in a text behind a character -/
def zPlW (c : Int32) : Option Nat := if c = nI 44 then some 1 else if c = nI 59 then some 0 else none
def zPlD (c : Int32) : Option Nat := if c = nI 49 then some 4 else if c = nI 50 then some 5 else if zbe c (nI 51) (nI 57) = true then some 6 else none
def zPlA (p : Nat) (c : Int32) : Option Nat :=
  if p = 0 then (if zbe c (nI 97) (nI 102) = true then some 1 else none) else if p = 1 then (if zbe c (nI 48) (nI 55) = true then some 2 else none) else if p = 2 then (if c = nI 58 then some 3 else none) else if p = 3 then zPlD c
  else if p = 4 then (if zbe c (nI 48) (nI 57) = true then some 6 else zPlW c) else if p = 5 then (if c = nI 48 then some 6 else zPlW c) else zPlW c
def zPlI (o : Option Nat) : Int32 := match o with
  | none => -1
  | some p => nI p
theorem zPlW_lt {c : Int32} {q : Nat} (h : zPlW c = some q) : q < 7 := by
  unfold zPlW at h
  repeat' (split at h)
  all_goals first | (cases h; omega) | cases h
theorem zPlD_lt {c : Int32} {q : Nat} (h : zPlD c = some q) : q < 7 := by
  unfold zPlD at h
  repeat' (split at h)
  all_goals first | (cases h; omega) | cases h
theorem zPlA_lt {p : Nat} {c : Int32} {q : Nat} (h : zPlA p c = some q) : q < 7 := by
  unfold zPlA at h
  repeat' (split at h)
  all_goals first | (cases h; omega) | exact zPlW_lt h | exact zPlD_lt h | cases h
def zPn (f : Nat → Int32) : Nat → Nat
  | 0 => 0
  | k + 1 => (zPlA (zPn f k) (f k)).getD 6
theorem zPn_lt (f : Nat → Int32) : ∀ k, zPn f k < 7
  | 0 => by show 0 < 7; omega
  | k + 1 => by
    show (zPlA (zPn f k) (f k)).getD 6 < 7
    cases h : zPlA (zPn f k) (f k) with
    | none => decide
    | some q => exact zPlA_lt h
theorem zPn_s {f : Nat → Int32} {k : Nat} (h : (zPlA (zPn f k) (f k)).isSome) : zPlI (zPlA (zPn f k) (f k)) = nI (zPn f (k + 1)) := by
  show _ = nI ((zPlA (zPn f k) (f k)).getD 6)
  cases e : zPlA (zPn f k) (f k) with
  | none => rw [e] at h; cases h
  | some q => rfl
theorem nI_m1 {n : Nat} (h : n < 2 ^ 31) : nI n ≠ -1 := by
  intro e
  have := congrArg Int32.toInt e
  rw [nI_toInt h] at this
  have h2 : ((-1 : Int32)).toInt = -1 := by decide +kernel
  omega
theorem zPlI_some {p : Nat} {c : Int32} (h : ¬ zPlI (zPlA p c) = -1) : (zPlA p c).isSome = true := by
  cases e : zPlA p c with
  | none => rw [e] at h; exact absurd rfl h
  | some q => rfl
theorem zPlI_none {p : Nat} {c : Int32} (h : zPlI (zPlA p c) = -1) : (zPlA p c).isSome = false := by
  cases e : zPlA p c with
  | none => rfl
  | some q => rw [e] at h; exact absurd h (nI_m1 (by have := zPlA_lt e; omega))
def zFxF (f : Nat → Int32) (n : Nat) : Nat → Nat → Int32
  | 0, k => if 4 ≤ zPn f n then -100006 else nI n
  | m + 1, k => if (zPlA (zPn f k) (f k)).isSome = true then zFxF f n m (k + 1) else nI k
def zFx (f : Nat → Int32) (n : Nat) : Int32 := zFxF f n n 0
theorem zFxF_go {f : Nat → Int32} {n m k : Nat} (hm : m = n - k) (h : k < n) (hs : (zPlA (zPn f k) (f k)).isSome = true) : zFxF f n m k = zFxF f n (n - (k + 1)) (k + 1) := by
  obtain ⟨m, rfl⟩ : ∃ z, m = z + 1 := ⟨m - 1, by omega⟩
  rw [show n - (k + 1) = m by omega]
  exact if_pos hs
theorem zFxF_no {f : Nat → Int32} {n m k : Nat} (hm : m = n - k) (h : k < n) (hs : (zPlA (zPn f k) (f k)).isSome = false) : zFxF f n m k = nI k := by
  obtain ⟨m, rfl⟩ : ∃ z, m = z + 1 := ⟨m - 1, by omega⟩
  exact if_neg (by rw [hs]; decide)
/-- the wants of a text: member, gauge, how many, and what is wanted then -/
def zAwU (wa : Nat → Nat → Int32) (m g v : Int32) : Nat → Nat → Int32 := zU (zDstr m g) wa (zAw wa v)
def zAdS (wa : Nat → Nat → Int32) (f : Nat → Int32) : Nat → Int32 × Int32 × Int32 × (Nat → Nat → Int32)
  | 0 => (nI 0, nI 0, nI 0, wa)
  | k + 1 =>
    let e := zAdS wa f k
    if zPn f k = 0 then (f k - nI 97, e.2.1, e.2.2.1, e.2.2.2)
    else if zPn f k = 1 then (e.1, f k - nI 48, nI 0, e.2.2.2)
    else if zbe (f k) (nI 48) (nI 57) = true then (e.1, e.2.1, e.2.2.1 * nI 10 + f k - nI 48, e.2.2.2)
    else if f k = nI 58 then e else (e.1, e.2.1, e.2.2.1, zAwU e.2.2.2 e.1 e.2.1 e.2.2.1)
def zAdW (wa : Nat → Nat → Int32) (f : Nat → Int32) (n : Nat) : Nat → Nat → Int32 := zAwU (zAdS wa f n).2.2.2 (zAdS wa f n).1 (zAdS wa f n).2.1 (zAdS wa f n).2.2.1
section AD
variable {wa : Nat → Nat → Int32} {f : Nat → Int32} {k : Nat}
theorem zAd_0 (h : zPn f k = 0) : zAdS wa f (k + 1) = (f k - nI 97, (zAdS wa f k).2.1, (zAdS wa f k).2.2.1, (zAdS wa f k).2.2.2) := if_pos h
theorem zAd_1 (h : zPn f k = 1) : zAdS wa f (k + 1) = ((zAdS wa f k).1, f k - nI 48, nI 0, (zAdS wa f k).2.2.2) := (if_neg (by omega)).trans (if_pos h)
theorem zAd_d (h : ¬ zPn f k = 0) (h1 : ¬ zPn f k = 1) (h2 : zbe (f k) (nI 48) (nI 57) = true) : zAdS wa f (k + 1) = ((zAdS wa f k).1, (zAdS wa f k).2.1, (zAdS wa f k).2.2.1 * nI 10 + f k - nI 48, (zAdS wa f k).2.2.2) := (if_neg h).trans ((if_neg h1).trans (if_pos h2))
theorem zAd_c (h : ¬ zPn f k = 0) (h1 : ¬ zPn f k = 1) (h2 : zbe (f k) (nI 48) (nI 57) = false) (h3 : f k = nI 58) : zAdS wa f (k + 1) = zAdS wa f k := (if_neg h).trans ((if_neg h1).trans ((if_neg (by rw [h2]; decide)).trans (if_pos h3)))
theorem zAd_w (h : ¬ zPn f k = 0) (h1 : ¬ zPn f k = 1) (h2 : zbe (f k) (nI 48) (nI 57) = false) (h3 : ¬ f k = nI 58) : zAdS wa f (k + 1) = ((zAdS wa f k).1, (zAdS wa f k).2.1, (zAdS wa f k).2.2.1, zAwU (zAdS wa f k).2.2.2 (zAdS wa f k).1 (zAdS wa f k).2.1 (zAdS wa f k).2.2.1) := (if_neg h).trans ((if_neg h1).trans ((if_neg (by rw [h2]; decide)).trans (if_neg h3)))
end AD
theorem zCg_8 (x : Int64) : zCg x (8 - 8) 8 = 8 := by
  show zCe x 8 = 8
  unfold zCe; rw [if_neg (fun q => absurd q.1 (by omega))]
theorem zFx_end (n : Nat) (f : Nat → Int32) (h : 4 ≤ zPn f n) : zFxF f n (n - n) n = -100006 := by
  rw [Nat.sub_self]; exact if_pos h
theorem zFx_len (n : Nat) (f : Nat → Int32) (h : ¬ 4 ≤ zPn f n) : zFxF f n (n - n) n = nI n := by
  rw [Nat.sub_self]; exact if_neg h
