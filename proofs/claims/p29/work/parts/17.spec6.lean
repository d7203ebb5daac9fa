/-! a day of the reference -/
abbrev zQd : Type := (Nat → Int32) × (Nat → Int32) × (Nat → Int32) × Nat × Nat × Nat
def zDy1 (e : zQd) : zQd :=
  if e.1 (147 + 51 * e.2.2.2.1 + 1) = e.1 9 then
    (if e.1 (147 + 51 * e.2.2.2.1 + 2) = nI 1 then (zCH e.1 e.2.2.2.1 e.2.2.2.2.1, e.2.1, e.2.2.1, e.2.2.2.1, e.2.2.2.2.1 - 1, e.2.2.2.2.2 + 1)
     else if zCuB e.1 = true then (zCH (zCuS e.1 e.2.1 e.2.2.1 e.2.2.2.1) e.2.2.2.1 e.2.2.2.2.1, zCuT e.1 e.2.1 e.2.2.2.1, zCuG e.1 e.2.1 e.2.2.1 e.2.2.2.1, e.2.2.2.1, e.2.2.2.2.1 - 1, e.2.2.2.2.2 + 1)
     else (zCuS e.1 e.2.1 e.2.2.1 e.2.2.2.1, zCuT e.1 e.2.1 e.2.2.2.1, zCuG e.1 e.2.1 e.2.2.1 e.2.2.2.1, e.2.2.2.1 + 1, e.2.2.2.2.1, e.2.2.2.2.2))
  else (e.1, e.2.1, e.2.2.1, e.2.2.2.1 + 1, e.2.2.2.2.1, e.2.2.2.2.2)
def zDyL (e : zQd) : Nat → zQd
  | 0 => e
  | k + 1 => zDy1 (zDyL e k)
def zDy0 (s sT sG : Nat → Int32) (pn : Nat) : zQd := (upd s 9 (s 9 + nI 1), sT, sG, 0, pn, 0)
theorem zCH_14 {s : Nat → Int32} {p pn : Nat} : zCH s p pn 14 = nI (pn - 1) := by
  unfold zCH
  rw [zCHz_lo (by omega), zCHs_lo (by omega), pk_us]
theorem zCu6_14 {s sT sG : Nat → Int32} {p : Nat} : zCu6 s sT sG p 14 = s 14 := by
  unfold zCu6
  split
  · rw [zLose_lo (by omega) (by omega) (by omega), zCu5_lo (by omega) (by omega) (by omega) (by omega)]
  · rw [zCu5_lo (by omega) (by omega) (by omega) (by omega)]
theorem zCuS_14 {s sT sG : Nat → Int32} {p : Nat} : zCuS s sT sG p 14 = s 14 := by
  unfold zCuS
  split
  · rw [pk_un (by omega), zCu6_14]
  · rw [pk_un (by omega)]
theorem zDy1_inv {e : zQd} {r : Nat} (h : e.1 14 = nI e.2.2.2.2.1) (h2 : e.2.2.2.1 + (r + 1) = e.2.2.2.2.1) : (zDy1 e).1 14 = nI (zDy1 e).2.2.2.2.1 ∧ (zDy1 e).2.2.2.1 + r = (zDy1 e).2.2.2.2.1 ∧ (zDy1 e).2.2.2.2.1 ≤ e.2.2.2.2.1 := by
  unfold zDy1
  split
  · split
    · exact ⟨zCH_14, by dsimp only; omega, by dsimp only; omega⟩
    · split
      · exact ⟨zCH_14, by dsimp only; omega, by dsimp only; omega⟩
      · exact ⟨zCuS_14.trans h, by dsimp only; omega, by dsimp only; omega⟩
  · exact ⟨h, by dsimp only; omega, by dsimp only; omega⟩
theorem zDyL_inv {e : zQd} {pn : Nat} (h : e.1 14 = nI pn) (hq : e.2.2.2.2.1 = pn) (h0 : e.2.2.2.1 = 0) : ∀ k, k ≤ pn → (zDyL e k).1 14 = nI (zDyL e k).2.2.2.2.1 ∧ (zDyL e k).2.2.2.1 + (pn - k) = (zDyL e k).2.2.2.2.1 ∧ (zDyL e k).2.2.2.2.1 ≤ pn
  | 0, _ => ⟨by rw [show zDyL e 0 = e from rfl, h, hq], by rw [show zDyL e 0 = e from rfl]; omega, by rw [show zDyL e 0 = e from rfl]; omega⟩
  | k + 1, hk => by
    obtain ⟨h1, h2, h3⟩ := zDyL_inv h hq h0 k (by omega)
    obtain ⟨h4, h5, h6⟩ := zDy1_inv (e := zDyL e k) (r := pn - (k + 1)) h1 (by omega)
    exact ⟨h4, h5, Nat.le_trans h6 h3⟩
theorem zDy_inv {s sT sG : Nat → Int32} {pn : Nat} (h : s 14 = nI pn) (k : Nat) (hk : k ≤ pn) : (zDyL (zDy0 s sT sG pn) k).1 14 = nI (zDyL (zDy0 s sT sG pn) k).2.2.2.2.1 ∧ (zDyL (zDy0 s sT sG pn) k).2.2.2.1 + (pn - k) = (zDyL (zDy0 s sT sG pn) k).2.2.2.2.1 ∧ (zDyL (zDy0 s sT sG pn) k).2.2.2.2.1 ≤ pn :=
  zDyL_inv (pn := pn) (by show upd s 9 (s 9 + nI 1) 14 = _; rw [pk_un (by omega), h]) rfl rfl k hk
section DY
variable {e : zQd} {k : Nat}
theorem zDy_ne (h : ¬ (zDyL e k).1 (147 + 51 * (zDyL e k).2.2.2.1 + 1) = (zDyL e k).1 9) : zDyL e (k + 1) = ((zDyL e k).1, (zDyL e k).2.1, (zDyL e k).2.2.1, (zDyL e k).2.2.2.1 + 1, (zDyL e k).2.2.2.2.1, (zDyL e k).2.2.2.2.2) := if_neg h
theorem zDy_op (h : (zDyL e k).1 (147 + 51 * (zDyL e k).2.2.2.1 + 1) = (zDyL e k).1 9) (h1 : (zDyL e k).1 (147 + 51 * (zDyL e k).2.2.2.1 + 2) = nI 1) : zDyL e (k + 1) = (zCH (zDyL e k).1 (zDyL e k).2.2.2.1 (zDyL e k).2.2.2.2.1, (zDyL e k).2.1, (zDyL e k).2.2.1, (zDyL e k).2.2.2.1, (zDyL e k).2.2.2.2.1 - 1, (zDyL e k).2.2.2.2.2 + 1) := (if_pos h).trans (if_pos h1)
theorem zDy_cu (h : (zDyL e k).1 (147 + 51 * (zDyL e k).2.2.2.1 + 1) = (zDyL e k).1 9) (h1 : ¬ (zDyL e k).1 (147 + 51 * (zDyL e k).2.2.2.1 + 2) = nI 1) (h2 : zCuB (zDyL e k).1 = true) : zDyL e (k + 1) = (zCH (zCuS (zDyL e k).1 (zDyL e k).2.1 (zDyL e k).2.2.1 (zDyL e k).2.2.2.1) (zDyL e k).2.2.2.1 (zDyL e k).2.2.2.2.1, zCuT (zDyL e k).1 (zDyL e k).2.1 (zDyL e k).2.2.2.1, zCuG (zDyL e k).1 (zDyL e k).2.1 (zDyL e k).2.2.1 (zDyL e k).2.2.2.1, (zDyL e k).2.2.2.1, (zDyL e k).2.2.2.2.1 - 1, (zDyL e k).2.2.2.2.2 + 1) := (if_pos h).trans ((if_neg h1).trans (if_pos h2))
theorem zDy_st (h : (zDyL e k).1 (147 + 51 * (zDyL e k).2.2.2.1 + 1) = (zDyL e k).1 9) (h1 : ¬ (zDyL e k).1 (147 + 51 * (zDyL e k).2.2.2.1 + 2) = nI 1) (h2 : zCuB (zDyL e k).1 = false) : zDyL e (k + 1) = (zCuS (zDyL e k).1 (zDyL e k).2.1 (zDyL e k).2.2.1 (zDyL e k).2.2.2.1, zCuT (zDyL e k).1 (zDyL e k).2.1 (zDyL e k).2.2.2.1, zCuG (zDyL e k).1 (zDyL e k).2.1 (zDyL e k).2.2.1 (zDyL e k).2.2.2.1, (zDyL e k).2.2.2.1 + 1, (zDyL e k).2.2.2.2.1, (zDyL e k).2.2.2.2.2) := (if_pos h).trans ((if_neg h1).trans (if_neg (by rw [h2]; decide)))
end DY
/-- what holds where a parcel is opened -/
def zCuOk (e : zQd) : Prop := e.1 (147 + 51 * e.2.2.2.1 + 1) = e.1 9 → ¬ e.1 (147 + 51 * e.2.2.2.1 + 2) = nI 1 → ¬ zPcs (zCu5 e.1 e.2.1 e.2.2.1 e.2.2.2.1) e.2.2.2.1 = 0 ∧ zLat (zCu5 e.1 e.2.1 e.2.2.1 e.2.2.2.1) e.2.2.2.1 < 48
abbrev zQr : Type := (Nat → Int32) × (Nat → Int32) × (Nat → Int32) × Nat
def zDyE (e : zQr) : zQd := zDyL (zDy0 e.1 e.2.1 e.2.2.1 e.2.2.2) e.2.2.2
def zDyR (e : zQr) : zQr := ((zDyE e).1, (zDyE e).2.1, (zDyE e).2.2.1, (zDyE e).2.2.2.2.1)
def zDyOkR (e : zQr) : Prop := e.1 14 = nI e.2.2.2 ∧ e.2.2.2 ≤ 5 ∧ ∀ k, k < e.2.2.2 → zCuOk (zDyL (zDy0 e.1 e.2.1 e.2.2.1 e.2.2.2) k)
def zPsR (e : zQr) : Nat → zQr
  | 0 => e
  | k + 1 => zDyR (zPsR e k)
def zPsN (e : zQr) : Nat → Int32
  | 0 => 0
  | k + 1 => zPsN e k + nI (zDyE (zPsR e k)).2.2.2.2.2
def zDpassR (s : Nat → Int32) (v : Int32) : Int32 ⊕ Nat := zOb (zix v 61) (-100002) fun n => if n = 0 then .inl (-100002) else if s 9 + nI n ≤ nI 9999 then .inr n else .inl (-100004)
theorem zDpR_no {s : Nat → Int32} {v : Int32} (h : zbe v (nI 1) (nI 60) = false) : zDpassR s v = .inl (-100002) := by
  unfold zDpassR
  cases hz : zix v 61 with
  | none => rfl
  | some n =>
    obtain ⟨h1, h2⟩ := zix_some hz (by omega)
    have : n = 0 := by
      rcases Nat.eq_zero_or_pos n with h0 | h0
      · exact h0
      · exfalso
        have : zbe v (nI 1) (nI 60) = true := by
          rw [h2]
          exact zbe_ok (by rw [Int32.lt_iff_toInt_lt, nI_toInt (by omega), nI_toInt (by omega)]; omega) (by rw [Int32.lt_iff_toInt_lt, nI_toInt (by omega), nI_toInt (by omega)]; omega)
        rw [this] at h; cases h
    exact if_pos this
theorem zDpR_in {v : Int32} (h : zbe v (nI 1) (nI 60) = true) : ∃ n, 1 ≤ n ∧ n ≤ 60 ∧ v = nI n ∧ zix v 61 = some n := by
  unfold zbe at h
  simp only [Bool.and_eq_true, decide_eq_true_eq] at h
  obtain ⟨h1, h2⟩ := h
  rw [Int32.le_iff_toInt_le, nI_toInt (by omega)] at h1
  rw [Int32.le_iff_toInt_le, nI_toInt (by omega)] at h2
  have e : v = nI v.toInt.toNat := by
    apply Int32.toInt_inj.mp
    rw [nI_toInt (by omega)]
    omega
  refine ⟨v.toInt.toNat, by omega, by omega, e, ?_⟩
  conv => lhs; rw [e]
  exact zix_nI (by omega) (by omega)
/-- days until all are home, if that is within 50 -/
def zUhR (e : zQr) : Nat := zFst (fun k => !decide ((zPsR e k).2.2.2 = 0)) 50 0
theorem zUhR_le (e : zQr) : zUhR e ≤ 50 := by
  have := zFst_le (fun k => !decide ((zPsR e k).2.2.2 = 0)) 50 0
  unfold zUhR; omega
theorem zUhR_lt {e : zQr} {k : Nat} (h : k < zUhR e) : ¬ (zPsR e k).2.2.2 = 0 := by
  have := zFst_lt (g := fun k => !decide ((zPsR e k).2.2.2 = 0)) k (Nat.zero_le _) h
  simpa using this
theorem zUhR_at {e : zQr} (h : (zPsR e 50).2.2.2 = 0) : (zPsR e (zUhR e)).2.2.2 = 0 := by
  rcases Nat.eq_or_lt_of_le (zUhR_le e) with h1 | h1
  · rw [h1]; exact h
  · have : (!decide ((zPsR e (zUhR e)).2.2.2 = 0)) = false := zFst_at (g := fun k => !decide ((zPsR e k).2.2.2 = 0)) (m := 50) (k := 0) (by show zUhR e < 0 + 50; omega)
    simpa using this
