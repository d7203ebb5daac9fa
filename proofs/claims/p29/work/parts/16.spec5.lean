/-! texts, as the reference goes through them -/
def zTc (f : Nat → Int32) (n p : Nat) : Int32 := if p < n then f p else nI 0
def zTw (f : Nat → Int32) (n : Nat) (lo hi : Int32) (p : Nat) (w : Bool) : Bool := w || !zbe (zTc f n p) lo hi
def zTp (f : Nat → Int32) (n : Nat) (lo hi : Int32) (p : Nat) (w : Bool) : Nat := if zTw f n lo hi p w = true then p else p + 1
def zIn (f : Nat → Int32) (n : Nat) (lo hi : Int32) (p : Nat) (w : Bool) : Bool := !w && decide (p < n) && zbe (f p) lo hi
theorem zbe_z {lo hi : Nat} (h : 0 < lo) (hl : lo < 2 ^ 31) : zbe (nI 0) (nI lo) (nI hi) = false := zbe_lt (by rw [Int32.lt_iff_toInt_lt, nI_toInt (by omega), nI_toInt hl]; omega)
theorem zTp_le {f : Nat → Int32} {n lo hi p : Nat} {w : Bool} (h : 0 < lo) (hl : lo < 2 ^ 31) (hp : p ≤ n) : zTp f n (nI lo) (nI hi) p w ≤ n := by
  unfold zTp zTw
  split
  · exact hp
  · rename_i hc
    rcases Nat.eq_or_lt_of_le hp with e | e
    · subst e
      have : zTc f p p = nI 0 := if_neg (by omega)
      rw [this, zbe_z h hl] at hc
      simp at hc
    · exact e
theorem zTp_ge {f : Nat → Int32} {n : Nat} {lo hi : Int32} {p : Nat} {w : Bool} : p ≤ zTp f n lo hi p w := by
  unfold zTp; split <;> omega
def zMnM (f : Nat → Int32) (n p : Nat) : Int32 := nI 1 + (zTc f n p - nI 49)
def zMnP1 (f : Nat → Int32) (n p : Nat) (w : Bool) : Nat := zTp f n (nI 49) (nI 57) p w
def zMnW1 (f : Nat → Int32) (n p : Nat) (w : Bool) : Bool := zTw f n (nI 49) (nI 57) p w
def zMnO (f : Nat → Int32) (n p : Nat) (w : Bool) : Bool := (decide (zMnM f n p = nI 1) && zIn f n (nI 48) (nI 57) (zMnP1 f n p w) (zMnW1 f n p w)) || (decide (zMnM f n p = nI 2) && zIn f n (nI 48) (nI 48) (zMnP1 f n p w) (zMnW1 f n p w))
def zMnV (f : Nat → Int32) (n p : Nat) (w : Bool) : Int32 := if zMnO f n p w = true then nI 10 * zMnM f n p + (zTc f n (zMnP1 f n p w) - nI 48) else zMnM f n p
def zMnP (f : Nat → Int32) (n p : Nat) (w : Bool) : Nat := if zMnO f n p w = true then zTp f n (nI 48) (nI 57) (zMnP1 f n p w) (zMnW1 f n p w) else zMnP1 f n p w
def zMnW (f : Nat → Int32) (n p : Nat) (w : Bool) : Bool := if zMnO f n p w = true then zTw f n (nI 48) (nI 57) (zMnP1 f n p w) (zMnW1 f n p w) else zMnW1 f n p w
theorem zMnP1_le {f : Nat → Int32} {n p : Nat} {w : Bool} (hp : p ≤ n) : zMnP1 f n p w ≤ n := zTp_le (by omega) (by omega) hp
theorem zMnP_le {f : Nat → Int32} {n p : Nat} {w : Bool} (hp : p ≤ n) : zMnP f n p w ≤ n := by
  unfold zMnP; split
  · exact zTp_le (by omega) (by omega) (zMnP1_le hp)
  · exact zMnP1_le hp
theorem zMnP_ge {f : Nat → Int32} {n p : Nat} {w : Bool} : p ≤ zMnP f n p w := by
  unfold zMnP; split
  · exact Nat.le_trans zTp_ge zTp_ge
  · exact zTp_ge
/-- a place in a text: the row of numbers, position, whether it is wrong, whether more comes -/
abbrev zQt : Type := (Nat → Int32) × Nat × Bool × Bool
def zGi (c : Int32) : Nat := (zix (c - nI 48) 8).getD 0
theorem zsub_ix {c : Int32} {a n : Nat} (ha : a < 1000) (hn : n < 1000) (hn0 : 0 < n) (h : zbe c (nI a) (nI (a + n - 1)) = true) : ∃ i, i < n ∧ c = nI (a + i) ∧ c - nI a = nI i ∧ zix (c - nI a) n = some i := by
  unfold zbe at h
  simp only [Bool.and_eq_true, decide_eq_true_eq] at h
  obtain ⟨h1, h2⟩ := h
  rw [Int32.le_iff_toInt_le, nI_toInt (by omega)] at h1
  rw [Int32.le_iff_toInt_le, nI_toInt (by omega)] at h2
  have e : c = nI (a + (c.toInt - a).toNat) := by
    apply Int32.toInt_inj.mp
    rw [nI_toInt (by omega)]
    omega
  refine ⟨(c.toInt - a).toNat, by omega, e, ?_⟩
  have e2 : c - nI a = nI (c.toInt - a).toNat := by
    have h3 := pk_sub (a := a + (c.toInt - a).toNat) (b := a) (by omega)
    rw [← e] at h3
    rw [h3]
    congr 1
    omega
  refine ⟨e2, ?_⟩
  rw [e2]
  exact zix_nI (by omega) (by omega)
theorem zGi_ok {c : Int32} (h : zbe c (nI 48) (nI 55) = true) : zGi c < 8 ∧ c - nI 48 = nI (zGi c) := by
  obtain ⟨i, hi, -, h2, h3⟩ := zsub_ix (a := 48) (n := 8) (by omega) (by omega) (by omega) h
  unfold zGi; rw [h3]; exact ⟨hi, h2⟩
def zPa1 (f : Nat → Int32) (n : Nat) (isD : Bool) (mi : Nat) (q : zQt) : zQt :=
  let p1 := zTp f n (nI 48) (nI 55) q.2.1 q.2.2.1
  let w1 := zTw f n (nI 48) (nI 55) q.2.1 q.2.2.1
  let p2 := zTp f n (nI 58) (nI 58) p1 w1
  let w2 := zTw f n (nI 58) (nI 58) p1 w1
  let p3 := zMnP f n p2 w2
  let w3 := zMnW f n p2 w2
  let ix := 15 + 22 * mi + (14 + zGi (zTc f n q.2.1))
  let al := q.1 ix + zMnV f n p2 w2
  let s' := if isD = true then upd q.1 ix (if al ≤ nI 20 then al else nI 20) else q.1
  let mo := zIn f n (nI 44) (nI 44) p3 w3
  (s', if mo = true then p3 + 1 else p3, w3, mo)
def zPaS (f : Nat → Int32) (n : Nat) (isD : Bool) (mi : Nat) (q : zQt) : Nat → zQt
  | 0 => q
  | k + 1 => zPa1 f n isD mi (zPaS f n isD mi q k)
/-- the first of the next m steps that has no more behind it -/
def zFst (g : Nat → Bool) : Nat → Nat → Nat
  | 0, k => k
  | m + 1, k => if g k = true then zFst g m (k + 1) else k
theorem zFst_ge (g : Nat → Bool) : ∀ m k, k ≤ zFst g m k
  | 0, k => Nat.le_refl _
  | m + 1, k => by
    unfold zFst; split
    · exact Nat.le_trans (Nat.le_succ k) (zFst_ge g m (k + 1))
    · exact Nat.le_refl _
theorem zFst_le (g : Nat → Bool) : ∀ m k, zFst g m k ≤ k + m
  | 0, k => Nat.le_refl _
  | m + 1, k => by
    have := zFst_le g m (k + 1)
    unfold zFst; split <;> omega
theorem zFst_lt {g : Nat → Bool} : ∀ {m k : Nat}, ∀ j, k ≤ j → j < zFst g m k → g j = true
  | 0, k, j, h1, h2 => by simp [zFst] at h2; omega
  | m + 1, k, j, h1, h2 => by
    unfold zFst at h2
    split at h2
    · rename_i hc
      rcases Nat.eq_or_lt_of_le h1 with e | e
      · subst e; exact hc
      · exact zFst_lt j (by omega) h2
    · omega
theorem zFst_at {g : Nat → Bool} : ∀ {m k : Nat}, zFst g m k < k + m → g (zFst g m k) = false
  | 0, k, h => by simp [zFst] at h
  | m + 1, k, h => by
    unfold zFst at h ⊢
    split
    · rename_i hc
      rw [if_pos hc] at h
      exact zFst_at (by omega)
    · rename_i hc
      exact Bool.eq_false_iff.mpr hc
def zPaN (f : Nat → Int32) (n : Nat) (isD : Bool) (mi : Nat) (q : zQt) : Nat := zFst (fun k => (zPaS f n isD mi q k).2.2.2) 62 0
theorem zIn_lt {f : Nat → Int32} {n : Nat} {lo hi : Int32} {p : Nat} {w : Bool} (h : zIn f n lo hi p w = true) : p < n ∧ w = false := by
  unfold zIn at h
  simp only [Bool.and_eq_true, Bool.not_eq_true', decide_eq_true_eq] at h
  exact ⟨h.1.2, h.1.1⟩
theorem zPa1_le {f : Nat → Int32} {n : Nat} {isD : Bool} {mi : Nat} {q : zQt} (hp : q.2.1 ≤ n) : (zPa1 f n isD mi q).2.1 ≤ n := by
  have h3 : zMnP f n (zTp f n (nI 58) (nI 58) (zTp f n (nI 48) (nI 55) q.2.1 q.2.2.1) (zTw f n (nI 48) (nI 55) q.2.1 q.2.2.1)) (zTw f n (nI 58) (nI 58) (zTp f n (nI 48) (nI 55) q.2.1 q.2.2.1) (zTw f n (nI 48) (nI 55) q.2.1 q.2.2.1)) ≤ n := zMnP_le (zTp_le (by omega) (by omega) (zTp_le (by omega) (by omega) hp))
  unfold zPa1
  dsimp only
  split
  · rename_i hc
    exact (zIn_lt hc).1
  · exact h3
theorem zPaS_le {f : Nat → Int32} {n : Nat} {isD : Bool} {mi : Nat} {q : zQt} (hp : q.2.1 ≤ n) : ∀ k, (zPaS f n isD mi q k).2.1 ≤ n
  | 0 => hp
  | k + 1 => zPa1_le (zPaS_le hp k)
theorem zPa1_up {f : Nat → Int32} {n : Nat} {isD : Bool} {mi : Nat} {q : zQt} (h : (zPa1 f n isD mi q).2.2.2 = true) : q.2.1 < (zPa1 f n isD mi q).2.1 := by
  have h3 : q.2.1 ≤ zMnP f n (zTp f n (nI 58) (nI 58) (zTp f n (nI 48) (nI 55) q.2.1 q.2.2.1) (zTw f n (nI 48) (nI 55) q.2.1 q.2.2.1)) (zTw f n (nI 58) (nI 58) (zTp f n (nI 48) (nI 55) q.2.1 q.2.2.1) (zTw f n (nI 48) (nI 55) q.2.1 q.2.2.1)) := Nat.le_trans zTp_ge (Nat.le_trans zTp_ge zMnP_ge)
  unfold zPa1 at h ⊢
  dsimp only at h ⊢
  rw [if_pos h]
  omega
theorem zPaS_up {f : Nat → Int32} {n : Nat} {isD : Bool} {mi : Nat} {q : zQt} : ∀ k, (∀ j, j ≤ k → (zPaS f n isD mi q j).2.2.2 = true) → q.2.1 + k ≤ (zPaS f n isD mi q k).2.1
  | 0, _ => Nat.le_refl _
  | k + 1, h => by
    have ih := zPaS_up k (fun j hj => h j (by omega))
    have := zPa1_up (h (k + 1) (Nat.le_refl _))
    show q.2.1 + (k + 1) ≤ (zPa1 f n isD mi (zPaS f n isD mi q k)).2.1
    omega
theorem zPaN_end {f : Nat → Int32} {n : Nat} {isD : Bool} {mi : Nat} {q : zQt} (hn : n ≤ 60) (hp : q.2.1 ≤ n) : (zPaS f n isD mi q (zPaN f n isD mi q)).2.2.2 = false := by
  have hl := zFst_le (fun k => (zPaS f n isD mi q k).2.2.2) 62 0
  rcases Nat.eq_or_lt_of_le hl with e | e
  · have h1 : ∀ j, j ≤ 61 → (zPaS f n isD mi q j).2.2.2 = true := fun j hj => zFst_lt (g := fun k => (zPaS f n isD mi q k).2.2.2) (m := 62) (k := 0) j (Nat.zero_le _) (by omega)
    have h2 := zPaS_up (f := f) (n := n) (isD := isD) (mi := mi) (q := q) 61 h1
    have h3 := zPaS_le (f := f) (isD := isD) (mi := mi) hp 61
    omega
  · exact zFst_at (g := fun k => (zPaS f n isD mi q k).2.2.2) e
theorem zPaN_more {f : Nat → Int32} {n : Nat} {isD : Bool} {mi : Nat} {q : zQt} {k : Nat} (h : k < zPaN f n isD mi q) : (zPaS f n isD mi q k).2.2.2 = true := zFst_lt (g := fun k => (zPaS f n isD mi q k).2.2.2) k (Nat.zero_le _) h
/-- a part -/
def zPaQ (f : Nat → Int32) (n : Nat) (q : zQt) : zQt := (q.1, zTp f n (nI 97) (nI 102) q.2.1 q.2.2.1, zTw f n (nI 97) (nI 102) q.2.1 q.2.2.1, true)
def zMb (c : Int32) : Nat := (zix (c - nI 97) 6).getD 0
theorem zMb_ok {c : Int32} (h : zbe c (nI 97) (nI 102) = true) : zMb c < 6 ∧ c - nI 97 = nI (zMb c) := by
  obtain ⟨i, hi, -, h2, h3⟩ := zsub_ix (a := 97) (n := 6) (by omega) (by omega) (by omega) h
  unfold zMb; rw [h3]; exact ⟨hi, h2⟩
def zPaE (f : Nat → Int32) (n : Nat) (isD : Bool) (q : zQt) : zQt := zPaS f n isD (zMb (zTc f n q.2.1)) (zPaQ f n q) (zPaN f n isD (zMb (zTc f n q.2.1)) (zPaQ f n q))
/-- what a text needs whose wants are added -/
def zPaG (f : Nat → Int32) (n : Nat) (isD : Bool) (q : zQt) : Prop := isD = true → zbe (zTc f n q.2.1) (nI 97) (nI 102) = true ∧ ∀ k, k < zPaN f n isD (zMb (zTc f n q.2.1)) (zPaQ f n q) → zbe (zTc f n (zPaS f n isD (zMb (zTc f n q.2.1)) (zPaQ f n q) k).2.1) (nI 48) (nI 55) = true
theorem zPaQ_le {f : Nat → Int32} {n : Nat} {q : zQt} (hp : q.2.1 ≤ n) : (zPaQ f n q).2.1 ≤ n := zTp_le (by omega) (by omega) hp
theorem zPaE_le {f : Nat → Int32} {n : Nat} {isD : Bool} {q : zQt} (hp : q.2.1 ≤ n) : (zPaE f n isD q).2.1 ≤ n := zPaS_le (zPaQ_le hp) _
theorem zPaS_ge {f : Nat → Int32} {n : Nat} {isD : Bool} {mi : Nat} {q : zQt} : ∀ k, q.2.1 ≤ (zPaS f n isD mi q k).2.1
  | 0 => Nat.le_refl _
  | k + 1 => by
    have ih := zPaS_ge (f := f) (n := n) (isD := isD) (mi := mi) (q := q) k
    have h3 : ∀ r : zQt, r.2.1 ≤ (zPa1 f n isD mi r).2.1 := by
      intro r
      have h3 : r.2.1 ≤ zMnP f n (zTp f n (nI 58) (nI 58) (zTp f n (nI 48) (nI 55) r.2.1 r.2.2.1) (zTw f n (nI 48) (nI 55) r.2.1 r.2.2.1)) (zTw f n (nI 58) (nI 58) (zTp f n (nI 48) (nI 55) r.2.1 r.2.2.1) (zTw f n (nI 48) (nI 55) r.2.1 r.2.2.1)) := Nat.le_trans zTp_ge (Nat.le_trans zTp_ge zMnP_ge)
      unfold zPa1
      dsimp only
      split <;> omega
    exact Nat.le_trans ih (h3 _)
theorem zPaE_ge {f : Nat → Int32} {n : Nat} {isD : Bool} {q : zQt} : q.2.1 ≤ (zPaE f n isD q).2.1 := Nat.le_trans (zTp_ge (p := q.2.1)) (zPaS_ge (q := zPaQ f n q) _)
/-- the whole text, part by part -/
def zGo1 (f : Nat → Int32) (n : Nat) (isD : Bool) (q : zQt) : zQt :=
  let e := zPaE f n isD q
  if e.2.2.1 = false ∧ e.2.1 < n then (e.1, zTp f n (nI 59) (nI 59) e.2.1 e.2.2.1, zTw f n (nI 59) (nI 59) e.2.1 e.2.2.1, !zTw f n (nI 59) (nI 59) e.2.1 e.2.2.1) else (e.1, e.2.1, e.2.2.1, false)
def zGoS (f : Nat → Int32) (n : Nat) (isD : Bool) (s : Nat → Int32) : Nat → zQt
  | 0 => (s, 0, false, true)
  | k + 1 => zGo1 f n isD (zGoS f n isD s k)
def zGoN (f : Nat → Int32) (n : Nat) (isD : Bool) (s : Nat → Int32) : Nat := zFst (fun k => (zGoS f n isD s k).2.2.2) 62 0
theorem zGo1_le {f : Nat → Int32} {n : Nat} {isD : Bool} {q : zQt} (hp : q.2.1 ≤ n) : (zGo1 f n isD q).2.1 ≤ n := by
  have := zPaE_le (f := f) (isD := isD) hp
  unfold zGo1; dsimp only; split
  · exact zTp_le (by omega) (by omega) this
  · exact this
theorem zGoS_le {f : Nat → Int32} {n : Nat} {isD : Bool} {s : Nat → Int32} : ∀ k, (zGoS f n isD s k).2.1 ≤ n
  | 0 => Nat.zero_le _
  | k + 1 => zGo1_le (zGoS_le k)
theorem zGo1_up {f : Nat → Int32} {n : Nat} {isD : Bool} {q : zQt} (h : (zGo1 f n isD q).2.2.2 = true) : q.2.1 < (zGo1 f n isD q).2.1 := by
  have hg := zPaE_ge (f := f) (n := n) (isD := isD) (q := q)
  unfold zGo1 at h ⊢
  dsimp only at h ⊢
  split at h
  · rename_i hc
    rw [if_pos hc]
    have h2 : zTw f n (nI 59) (nI 59) (zPaE f n isD q).2.1 (zPaE f n isD q).2.2.1 = false := by simpa using h
    show q.2.1 < zTp f n (nI 59) (nI 59) (zPaE f n isD q).2.1 (zPaE f n isD q).2.2.1
    unfold zTp; rw [if_neg (by rw [h2]; decide)]
    omega
  · cases h
theorem zGoS_up {f : Nat → Int32} {n : Nat} {isD : Bool} {s : Nat → Int32} : ∀ k, (∀ j, j ≤ k → (zGoS f n isD s j).2.2.2 = true) → k ≤ (zGoS f n isD s k).2.1
  | 0, _ => Nat.le_refl _
  | k + 1, h => by
    have ih := zGoS_up k (fun j hj => h j (by omega))
    have := zGo1_up (h (k + 1) (Nat.le_refl _))
    show k + 1 ≤ (zGo1 f n isD (zGoS f n isD s k)).2.1
    omega
theorem zGoN_end {f : Nat → Int32} {n : Nat} {isD : Bool} {s : Nat → Int32} (hn : n ≤ 60) : (zGoS f n isD s (zGoN f n isD s)).2.2.2 = false := by
  have hl := zFst_le (fun k => (zGoS f n isD s k).2.2.2) 62 0
  rcases Nat.eq_or_lt_of_le hl with e | e
  · have h1 : ∀ j, j ≤ 61 → (zGoS f n isD s j).2.2.2 = true := fun j hj => zFst_lt (g := fun k => (zGoS f n isD s k).2.2.2) (m := 62) (k := 0) j (Nat.zero_le _) (by omega)
    have h2 := zGoS_up (f := f) (n := n) (isD := isD) (s := s) 61 h1
    have h3 := zGoS_le (f := f) (n := n) (isD := isD) (s := s) 61
    omega
  · exact zFst_at (g := fun k => (zGoS f n isD s k).2.2.2) e
theorem zGoN_more {f : Nat → Int32} {n : Nat} {isD : Bool} {s : Nat → Int32} {k : Nat} (h : k < zGoN f n isD s) : (zGoS f n isD s k).2.2.2 = true := zFst_lt (g := fun k => (zGoS f n isD s k).2.2.2) k (Nat.zero_le _) h
def zGoE (f : Nat → Int32) (n : Nat) (isD : Bool) (s : Nat → Int32) : zQt := zGoS f n isD s (zGoN f n isD s)
def zGoG (f : Nat → Int32) (n : Nat) (isD : Bool) (s : Nat → Int32) : Prop := ∀ k, k < zGoN f n isD s → zPaG f n isD (zGoS f n isD s k)
theorem zGo_1 {f : Nat → Int32} {n : Nat} {isD : Bool} {s : Nat → Int32} {k : Nat} (h : (zPaE f n isD (zGoS f n isD s k)).2.2.1 = false ∧ (zPaE f n isD (zGoS f n isD s k)).2.1 < n) : zGoS f n isD s (k + 1) = ((zPaE f n isD (zGoS f n isD s k)).1, zTp f n (nI 59) (nI 59) (zPaE f n isD (zGoS f n isD s k)).2.1 (zPaE f n isD (zGoS f n isD s k)).2.2.1, zTw f n (nI 59) (nI 59) (zPaE f n isD (zGoS f n isD s k)).2.1 (zPaE f n isD (zGoS f n isD s k)).2.2.1, !zTw f n (nI 59) (nI 59) (zPaE f n isD (zGoS f n isD s k)).2.1 (zPaE f n isD (zGoS f n isD s k)).2.2.1) := if_pos h
theorem zGo_0 {f : Nat → Int32} {n : Nat} {isD : Bool} {s : Nat → Int32} {k : Nat} (h : ¬ ((zPaE f n isD (zGoS f n isD s k)).2.2.1 = false ∧ (zPaE f n isD (zGoS f n isD s k)).2.1 < n)) : zGoS f n isD s (k + 1) = ((zPaE f n isD (zGoS f n isD s k)).1, (zPaE f n isD (zGoS f n isD s k)).2.1, (zPaE f n isD (zGoS f n isD s k)).2.2.1, false) := if_neg h
theorem zGoG_f (f : Nat → Int32) (n : Nat) (s : Nat → Int32) : zGoG f n false s := fun _ _ h => Bool.noConfusion h
def zDreadR (f : Nat → Int32) (n : Nat) (s : Nat → Int32) : Int32 ⊕ Unit := if (zGoE f n false s).2.2.1 = true then .inl (-100003) else .inr ()
theorem zQt_eta {q : zQt} (h : q.2.2.2 = true) : (q.1, q.2.1, q.2.2.1, true) = q := by rw [← h]
