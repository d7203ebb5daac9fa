theorem zixs_neg {v : Int32} {n : Nat} (h : v < 0) : (zix v n).isSome = false := by
  have h1 := Int32.lt_iff_toInt_lt.mp h
  have e : (0 : Int32).toInt = 0 := rfl
  unfold zix; rw [if_neg (by omega)]; rfl
theorem zixs_ge {v : Int32} {n : Nat} (hn : n < 2 ^ 31) (h : nI n ≤ v) : (zix v n).isSome = false := by
  have h1 := Int32.le_iff_toInt_le.mp h
  rw [nI_toInt hn] at h1
  unfold zix; rw [if_neg (by omega)]; rfl
theorem zixs_in {v : Int32} {n : Nat} (hn : n < 2 ^ 31) (h0 : ¬ v < 0) (h : ¬ nI n ≤ v) : (zix v n).isSome = true := by
  have h1 : ¬ _ := fun q => h0 (Int32.lt_iff_toInt_lt.mpr q)
  have h2 : ¬ _ := fun q => h (Int32.le_iff_toInt_le.mpr q)
  have e : (0 : Int32).toInt = 0 := rfl
  rw [nI_toInt hn] at h2
  unfold zix; rw [if_pos (by omega)]; rfl
theorem zC0_zC0 (d f g : Nat → Int32) (n : Nat) : zC0 (zC0 d f n) g n = zC0 d g n := by
  funext j; unfold zC0; by_cases h : j < n <;> simp [h]
theorem zGets_C0 (am : Int32) (t s f : Nat → Int32) : zGets am t (zC0 s f 6) = zGets am t s := by
  unfold zGets; simp only [zC0_zC0]
theorem zGets_0 {am : Int32} {t s : Nat → Int32} (h : lsum t 6 ≤ 0) (h2 : 0 ≤ lsum t 6) : zGets am t s = zC0 s (fun _ => nI 0) 6 := by
  have h0 : lsum t 6 = 0 := Int32.le_antisymm h h2
  unfold zGets; rw [zC0_zC0]
  congr 1
  funext m
  simp [zGet, zGiv, zBase, h0, nI_0]
theorem zG2_skip (am : Int32) (t sG : Nat → Int32) {k : Nat} (hk : k < 6) (h : zGiv t (zLf2 am t k) k = false) : zG2 am t sG (k + 1) = zG2 am t sG k := by
  rw [← zG2_s]
  have e : zGet am t k = zG2 am t sG k k := by rw [zG2_at am t sG hk]; simp [zGet, h]
  rw [e, upd_self]
theorem zLf2_stop {am : Int32} {t : Nat → Int32} {k : Nat} (h : zLf2 am t k ≤ 0) : ∀ j, zLf2 am t (k + j) ≤ 0 ∧ zGiv t (zLf2 am t (k + j)) (k + j) = false
  | 0 => ⟨h, by simp [zGiv, h]⟩
  | j + 1 => by
    obtain ⟨h1, h2⟩ := zLf2_stop h j
    have e : zLf2 am t (k + (j + 1)) = zLf2 am t (k + j) := by
      show zLf2 am t (k + j + 1) = _
      simp [zLf2, h2]
    rw [e]
    exact ⟨h1, by simp [zGiv, h1]⟩
theorem zG2_stop {am : Int32} {t sG : Nat → Int32} {k : Nat} (hk : k ≤ 6) (h : zLf2 am t k ≤ 0) : zG2 am t sG k = zGets am t sG := by
  have key : ∀ j, k + j ≤ 6 → zG2 am t sG (k + j) = zG2 am t sG k := by
    intro j
    induction j with
    | zero => intro _; rfl
    | succ j ih =>
      intro hj
      have := zG2_skip am t sG (k := k + j) (by omega) (zLf2_stop h j).2
      exact this.trans (ih (by omega))
  have := key (6 - k) (by omega)
  rw [show k + (6 - k) = 6 by omega] at this
  exact this.symm
/-! Parcel, over its rows -/
def zPieT (cn : Nat → Nat → Int32) (m : Nat) : Int32 := lsum (cn m) 8
def zPie (cn : Nat → Nat → Int32) : Int32 := lsum (zPieT cn) 6
def zOwC (cn : Nat → Nat → Int32) : Nat → Int32
  | 0 => 0
  | k + 1 => if lsum (cn k) 8 ≤ 0 then zOwC cn k else zOwC cn k ||| (1 <<< (nI k &&& 31))
/-! Order, over a club's rows -/
def zDutyC (f : Nat → Int32) (v : Int32) : Int32 := (if v - f 5 < nI 0 then nI 0 else v - f 5) * f 6 / nI 100
def zOgT (wa : Nat → Nat → Int32) (mm : Int32) (m : Nat) (og : Nat → Int32) : Nat → Int32 := if zHas mm m = true then zC0 og (fun g => og g + wa m g) 8 else og
def zOg (wa : Nat → Nat → Int32) (mm : Int32) (og : Nat → Int32) : Nat → (Nat → Int32)
  | 0 => og
  | m + 1 => zOgT wa mm m (zOg wa mm og m)
def zPrT (st og : Nat → Int32) (g : Nat) : Int32 := if og g < st 0 then nI (10 + 5 * g) else nI (10 + 5 * g) - nI ((10 + 5 * g) / 5)
def zOv (og pr : Nat → Int32) (g : Nat) : Int32 := og g * pr g
def zOw (og : Nat → Int32) (g : Nat) : Int32 := og g * nI (1 + g)
def zOpo (st og : Nat → Int32) : Int32 := if lsum og 8 = 0 then nI 0 else st 1 + st 2 * lsum (zOw og) 8
def zWof (f : Nat → Int32) (g : Nat) : Int32 := f g * nI (1 + g)
def zFpT (f : Nat → Int32) (g : Nat) : Int32 := f g * nI (10 + 5 * g)
def zOcT (f pr : Nat → Int32) (g : Nat) : Int32 := f g * pr g
def zOpt (wa : Nat → Nat → Int32) (mm : Int32) (m : Nat) : Int32 := if zHas mm m = true then lsum (zWof (wa m)) 8 else nI 0
theorem zC0_add (og f : Nat → Int32) (k : Nat) : upd (zC0 og (fun g => og g + f g) k) k (zC0 og (fun g => og g + f g) k k + f k) = zC0 og (fun g => og g + f g) (k + 1) := by
  rw [zC0_ge (Nat.le_refl _)]
  exact zC0_s og (fun g => og g + f g) k
def zAdd (og f : Nat → Int32) : Nat → Int32 := fun g => og g + f g
def zSubF (og f : Nat → Int32) : Nat → Int32 := fun g => og g - f g
theorem zC0_addF (og f : Nat → Int32) (k : Nat) : upd (zC0 og (zAdd og f) k) k (zC0 og (zAdd og f) k k + f k) = zC0 og (zAdd og f) (k + 1) := by
  rw [zC0_ge (Nat.le_refl _)]
  exact zC0_s og (zAdd og f) k
theorem zC0_subF (og f : Nat → Int32) (k : Nat) : upd (zC0 og (zSubF og f) k) k (zC0 og (zSubF og f) k k - f k) = zC0 og (zSubF og f) (k + 1) := by
  rw [zC0_ge (Nat.le_refl _)]
  exact zC0_s og (zSubF og f) k
theorem zF6_tab (g f : Nat → Nat → Int32) : zF6 g (zTab g f 6) = zTab g f 6 := by
  funext m; unfold zF6 zTab; by_cases h : m < 6 <;> simp [h]
def zOgR (wa : Nat → Nat → Int32) (mm : Int32) (og : Nat → Int32) : Nat → (Nat → Int32)
  | 0 => og
  | m + 1 => if zHas mm m = true then zC0 (zOgR wa mm og m) (zAdd (zOgR wa mm og m) (wa m)) 8 else zOgR wa mm og m
/-- the strings by gauge of the members' order -/
def zOgF (wa : Nat → Nat → Int32) (mm : Int32) (og : Nat → Int32) : Nat → Int32 := zOgR wa mm (zC0 og (fun _ => nI 0) 8) 6
def zOvT (st og : Nat → Int32) (g : Nat) : Int32 := og g * zPrT st og g
def zPopT (br : Nat → Int32) (m : Nat) : Int32 := zPop (br m)
def zUwT (cn : Nat → Nat → Nat → Int32) (pi : Nat → Nat) (m i : Nat) : Int32 := lsum (cn (pi i) m) 8
def zMin20 (v : Int32) : Int32 := if nI 20 < v then nI 20 else v
def zAw (wa : Nat → Nat → Int32) (v : Int32) (q : Nat × Nat) : Nat → Nat → Int32 := va_up wa q.1 (upd (wa q.1) q.2 (zMin20 (wa q.1 q.2 + v)))
def zDrC (x below : Int32) : Int32 := if nI 0 < below then zDr (zNx x) below else nI 0
def zFpP (cn : Nat → Nat → Nat → Int32) (J m : Nat) : Int32 := lsum (zFpT (cn J m)) 8
section CBX
variable {G : zG} {M : zM} {b : Nat} {st : Nat → Int32} {dy x : Int32} {br : Nat → Int32} {sp wa : Nat → Nat → Int32} {ac ps pp pu lo : Nat → Int32} {un op : Int32} {pi : Nat → Nat} {cn : Nat → Nat → Nat → Int32} {vl du : Nat → Int32} {io : Nat → Bool} {hp hs : Nat → Int32}
theorem cb_tspt (f : Nat → Nat → Int32) : tbM G (cbM G M b st dy x br sp wa ac ps pp pu lo un op pi cn vl du io hp hs) (b + 4) (zTab sp f 6) = cbM G M b st dy x br (zTab sp f 6) wa ac ps pp pu lo un op pi cn vl du io hp hs := by rw [cb_tsp, zF6_tab]
theorem cb_twat (f : Nat → Nat → Int32) : tbM G (cbM G M b st dy x br sp wa ac ps pp pu lo un op pi cn vl du io hp hs) (b + 11) (zTab wa f 6) = cbM G M b st dy x br sp (zTab wa f 6) ac ps pp pu lo un op pi cn vl du io hp hs := by rw [cb_twa, zF6_tab]
theorem pc_tbt {h : Nat} {cn : Nat → Nat → Int32} {vl du : Int32} {io : Bool} (f : Nat → Nat → Int32) : tbM G (pcM G M h cn vl du io) (h + 2) (zTab cn f 6) = pcM G M h (zTab cn f 6) vl du io := by rw [pc_tb, zF6_tab]
theorem cbw_pc {j : Nat} (hj : j < 5) (v d : Int32) (i : Bool) : zu (cbM G M b st dy x br sp wa ac ps pp pu lo un op pi cn vl du io hp hs) (b + 26 + 8 * j) (zO 3 [.ref (b + 26 + 8 * j + 1), .int v, .int d, .int (zb i)]) = cbM G M b st dy x br sp wa ac ps pp pu lo un op pi cn (va_up vl j v) (va_up du j d) (va_up io j i) hp hs := by
  have h1 := cb_pcs (G := G) (M := M) (b := b) (st := st) (dy := dy) (x := x) (br := br) (sp := sp) (wa := wa) (ac := ac) (ps := ps) (pp := pp) (pu := pu) (lo := lo) (un := un) (op := op) (pi := pi) (cn := cn) (vl := vl) (du := du) (io := io) (hp := hp) (hs := hs) hj
  have h2 := pcw_o (G := G) (M := cbM G M b st dy x br sp wa ac ps pp pu lo un op pi cn vl du io hp hs) (h := b + 26 + 8 * j) (cn := cn j) (vl := vl j) (du := du j) (io := io j) v d i
  rw [h1, cb_pcv hj, va_up_same] at h2
  exact h2
theorem cbw_pcI {j : Nat} (hj : j < 5) (i : Bool) : zu (cbM G M b st dy x br sp wa ac ps pp pu lo un op pi cn vl du io hp hs) (b + 26 + 8 * j) (zO 3 [.ref (b + 26 + 8 * j + 1), .int (vl j), .int (du j), .int (zb i)]) = cbM G M b st dy x br sp wa ac ps pp pu lo un op pi cn vl du (va_up io j i) hp hs := by rw [cbw_pc hj, va_up_same, va_up_same]
theorem cbw_pcD {j : Nat} (hj : j < 5) (d : Int32) : zu (cbM G M b st dy x br sp wa ac ps pp pu lo un op pi cn vl du io hp hs) (b + 26 + 8 * j) (zO 3 [.ref (b + 26 + 8 * j + 1), .int (vl j), .int d, .int (zb (io j))]) = cbM G M b st dy x br sp wa ac ps pp pu lo un op pi cn vl (va_up du j d) io hp hs := by rw [cbw_pc hj, va_up_same, va_up_same]
theorem cbw_pcV {j : Nat} (hj : j < 5) (v : Int32) : zu (cbM G M b st dy x br sp wa ac ps pp pu lo un op pi cn vl du io hp hs) (b + 26 + 8 * j) (zO 3 [.ref (b + 26 + 8 * j + 1), .int v, .int (du j), .int (zb (io j))]) = cbM G M b st dy x br sp wa ac ps pp pu lo un op pi cn (va_up vl j v) du io hp hs := by rw [cbw_pc hj, va_up_same, va_up_same]
theorem cbw_pcr {j m : Nat} (hj : j < 5) (hm : m < 6) (f : Nat → Int32) : zu (cbM G M b st dy x br sp wa ac ps pp pu lo un op pi cn vl du io hp hs) (b + 26 + 8 * j + 2 + m) (zI (G.2.1 0) 8 f) = cbM G M b st dy x br sp wa ac ps pp pu lo un op pi (va_up cn j (va_up (cn j) m f)) vl du io hp hs := by
  have h1 := cb_pcs (G := G) (M := M) (b := b) (st := st) (dy := dy) (x := x) (br := br) (sp := sp) (wa := wa) (ac := ac) (ps := ps) (pp := pp) (pu := pu) (lo := lo) (un := un) (op := op) (pi := pi) (cn := cn) (vl := vl) (du := du) (io := io) (hp := hp) (hs := hs) hj
  have h2 := pcw_r (G := G) (M := cbM G M b st dy x br sp wa ac ps pp pu lo un op pi cn vl du io hp hs) (h := b + 26 + 8 * j) (cn := cn j) (vl := vl j) (du := du j) (io := io j) hm f
  rw [h1, cb_pcv hj, va_up_same, va_up_same, va_up_same] at h2
  exact h2
end CBX
