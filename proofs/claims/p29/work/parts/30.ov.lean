/-! the class's objects over any memory: each object with what hangs on it lies in one stretch of addresses -/
def zRef6 (r : Nat) : Nat → Option Nat := fun i => if i < 6 then some (r + i) else none
theorem zRef6_at {r i : Nat} (h : i < 6) : zRef6 r i = some (r + i) := if_pos h
/-- Sharing at h -/
def shM (G : zG) (M : zM) (h : Nat) (pt sr : Nat → Int32) : zM := fun q => if q = h then some (zO 4 [.ref (h + 1), .ref (h + 2)]) else if q = h + 1 then some (zI (G.2.1 0) 6 pt) else if q = h + 2 then some (zI (G.2.1 0) 6 sr) else M q
/-- Pad at h -/
def pdM (G : zG) (M : zM) (h : Nat) (sg : Nat → Int32) (pl : Int32) : zM := fun q => if q = h then some (zO 2 [.ref (h + 1), .int pl]) else if q = h + 1 then some (zI (G.2.1 1) 60 sg) else M q
/-- Parcel at h: its cell r of 8 -/
def pcC (G : zG) (h : Nat) (cn : Nat → Nat → Int32) (vl du : Int32) (io : Bool) (r : Nat) : va_E := if r = 0 then zO 3 [.ref (h + 1), .int vl, .int du, .int (zb io)] else if r = 1 then zR (G.2.1 3) 6 (zRef6 (h + 2)) else zI (G.2.1 0) 8 (cn (r - 2))
def pcM (G : zG) (M : zM) (h : Nat) (cn : Nat → Nat → Int32) (vl du : Int32) (io : Bool) : zM := fun q => if h ≤ q ∧ q < h + 8 then some (pcC G h cn vl du io (q - h)) else M q
/-- Order at h -/
def odM (G : zG) (M : zM) (h : Nat) (og pr : Nat → Int32) (pc vl po : Int32) (pt sr : Nat → Int32) : zM := fun q => if q = h then some (zO 1 [.ref (h + 1), .ref (h + 2), .int pc, .int vl, .int po, .ref (h + 3)]) else if q = h + 1 then some (zI (G.2.1 0) 8 og) else if q = h + 2 then some (zI (G.2.1 0) 8 pr) else if q = h + 3 then some (zO 4 [.ref (h + 4), .ref (h + 5)]) else if q = h + 4 then some (zI (G.2.1 0) 6 pt) else if q = h + 5 then some (zI (G.2.1 0) 6 sr) else M q
/-- Club at b: its fields, and its cell o of the first 26 -/
def cbF (b : Nat) (dy x un op : Int32) : List Value := [.ref (b + 1), .int dy, .int x, .ref (b + 2), .ref (b + 3), .ref (b + 10), .ref (b + 17), .ref (b + 18), .ref (b + 19), .ref (b + 20), .ref (b + 21), .ref (b + 22), .int un, .int op, .ref (b + 23)]
def cbP (b : Nat) (pi : Nat → Nat) : Nat → Option Nat := fun i => if i < 5 then some (b + 26 + 8 * pi i) else none
def cbL (G : zG) (b : Nat) (st : Nat → Int32) (dy x : Int32) (br : Nat → Int32) (sp wa : Nat → Nat → Int32) (ac ps pp pu lo : Nat → Int32) (un op : Int32) (pi : Nat → Nat) (hp hs : Nat → Int32) (o : Nat) : va_E :=
  if o = 0 then zO 0 (cbF b dy x un op) else if o = 1 then zI (G.2.1 0) 9 st else if o = 2 then zI (G.2.1 0) 6 br else if o = 3 then zR (G.2.1 3) 6 (zRef6 (b + 4)) else if o < 10 then zI (G.2.1 0) 8 (sp (o - 4)) else if o = 10 then zR (G.2.1 3) 6 (zRef6 (b + 11)) else if o < 17 then zI (G.2.1 0) 8 (wa (o - 11))
  else if o = 17 then zI (G.2.1 0) 6 ac else if o = 18 then zI (G.2.1 0) 6 ps else if o = 19 then zI (G.2.1 0) 6 pp else if o = 20 then zI (G.2.1 0) 6 pu else if o = 21 then zI (G.2.1 0) 6 lo else if o = 22 then zR (G.2.1 4) 5 (cbP b pi) else if o = 23 then zO 4 [.ref (b + 24), .ref (b + 25)] else if o = 24 then zI (G.2.1 0) 6 hp else zI (G.2.1 0) 6 hs
def cbM (G : zG) (M : zM) (b : Nat) (st : Nat → Int32) (dy x : Int32) (br : Nat → Int32) (sp wa : Nat → Nat → Int32) (ac ps pp pu lo : Nat → Int32) (un op : Int32) (pi : Nat → Nat) (cn : Nat → Nat → Nat → Int32) (vl du : Nat → Int32) (io : Nat → Bool) (hp hs : Nat → Int32) : zM := fun q =>
  if b ≤ q ∧ q < b + 26 then some (cbL G b st dy x br sp wa ac ps pp pu lo un op pi hp hs (q - b)) else if b + 26 ≤ q ∧ q < b + 66 then some (pcC G (b + 26 + 8 * ((q - (b + 26)) / 8)) (cn ((q - (b + 26)) / 8)) (vl ((q - (b + 26)) / 8)) (du ((q - (b + 26)) / 8)) (io ((q - (b + 26)) / 8)) ((q - (b + 26)) % 8)) else M q
section OV
variable {G : zG} {M : zM} {h : Nat}
theorem sh_out {pt sr : Nat → Int32} {q : Nat} (hq : q < h ∨ h + 3 ≤ q) : shM G M h pt sr q = M q := by
  unfold shM; rw [if_neg (by omega), if_neg (by omega), if_neg (by omega)]
theorem sh_o {pt sr : Nat → Int32} : shM G M h pt sr h = some (zO 4 [.ref (h + 1), .ref (h + 2)]) := by simp [shM]
theorem sh_p {pt sr : Nat → Int32} : shM G M h pt sr (h + 1) = some (zI (G.2.1 0) 6 pt) := by simp [shM]
theorem sh_s {pt sr : Nat → Int32} : shM G M h pt sr (h + 2) = some (zI (G.2.1 0) 6 sr) := by simp [shM]
theorem shw_p {pt sr : Nat → Int32} (f : Nat → Int32) : zu (shM G M h pt sr) (h + 1) (zI (G.2.1 0) 6 f) = shM G M h f sr := by
  funext q; by_cases hq : q = h + 1
  · subst hq; simp [zu, shM]
  · simp only [zu, shM, if_neg hq]
theorem shw_s {pt sr : Nat → Int32} (f : Nat → Int32) : zu (shM G M h pt sr) (h + 2) (zI (G.2.1 0) 6 f) = shM G M h pt f := by
  funext q; by_cases hq : q = h + 2
  · subst hq; simp [zu, shM]
  · simp only [zu, shM, if_neg hq]
theorem pd_o {sg : Nat → Int32} {pl : Int32} : pdM G M h sg pl h = some (zO 2 [.ref (h + 1), .int pl]) := by simp [pdM]
theorem pd_s {sg : Nat → Int32} {pl : Int32} : pdM G M h sg pl (h + 1) = some (zI (G.2.1 1) 60 sg) := by simp [pdM]
theorem pd_out {sg : Nat → Int32} {pl : Int32} {q : Nat} (hq : q < h ∨ h + 2 ≤ q) : pdM G M h sg pl q = M q := by
  unfold pdM; rw [if_neg (by omega), if_neg (by omega)]
theorem pdw_o {sg : Nat → Int32} {pl : Int32} (v : Int32) : zu (pdM G M h sg pl) h (zO 2 [.ref (h + 1), .int v]) = pdM G M h sg v := by
  funext q; simp only [zu, pdM]; split <;> rfl
theorem pdw_s {sg : Nat → Int32} {pl : Int32} (f : Nat → Int32) : zu (pdM G M h sg pl) (h + 1) (zI (G.2.1 1) 60 f) = pdM G M h f pl := by
  funext q; by_cases hq : q = h + 1
  · subst hq; simp [zu, pdM]
  · simp only [zu, pdM, if_neg hq]
/-! Parcel -/
section PC
variable {cn : Nat → Nat → Int32} {vl du : Int32} {io : Bool}
theorem pc_out {q : Nat} (hq : q < h ∨ h + 8 ≤ q) : pcM G M h cn vl du io q = M q := by
  unfold pcM; rw [if_neg (by omega)]
theorem pc_o : pcM G M h cn vl du io h = some (zO 3 [.ref (h + 1), .int vl, .int du, .int (zb io)]) := by
  unfold pcM; rw [if_pos (by omega), Nat.sub_self]; rfl
theorem pc_c : pcM G M h cn vl du io (h + 1) = some (zR (G.2.1 3) 6 (zRef6 (h + 2))) := by
  unfold pcM; rw [if_pos (by omega), show h + 1 - h = 1 by omega]; rfl
theorem pc_r {m : Nat} (hm : m < 6) : pcM G M h cn vl du io (h + 2 + m) = some (zI (G.2.1 0) 8 (cn m)) := by
  unfold pcM; rw [if_pos (by omega), show h + 2 + m - h = m + 2 by omega]
  unfold pcC; rw [if_neg (by omega), if_neg (by omega), Nat.add_sub_cancel]
theorem pcw_o (v d : Int32) (i : Bool) : zu (pcM G M h cn vl du io) h (zO 3 [.ref (h + 1), .int v, .int d, .int (zb i)]) = pcM G M h cn v d i := by
  funext q; by_cases hq : q = h
  · subst hq; rw [zu_self, pc_o]
  · rw [zu_ne _ _ hq]; unfold pcM
    by_cases hr : h ≤ q ∧ q < h + 8
    · have h0 : ¬ q - h = 0 := by omega
      rw [if_pos hr, if_pos hr]; unfold pcC; rw [if_neg h0, if_neg h0]
    · rw [if_neg hr, if_neg hr]
theorem pcw_r {m : Nat} (hm : m < 6) (f : Nat → Int32) : zu (pcM G M h cn vl du io) (h + 2 + m) (zI (G.2.1 0) 8 f) = pcM G M h (va_up cn m f) vl du io := by
  funext q; by_cases hq : q = h + 2 + m
  · subst hq; rw [zu_self, pc_r hm, va_up_self]
  · rw [zu_ne _ _ hq]; unfold pcM
    by_cases hr : h ≤ q ∧ q < h + 8
    · rw [if_pos hr, if_pos hr]; unfold pcC
      by_cases h0 : q - h = 0
      · rw [if_pos h0, if_pos h0]
      · rw [if_neg h0, if_neg h0]
        by_cases h1 : q - h = 1
        · rw [if_pos h1, if_pos h1]
        · rw [if_neg h1, if_neg h1, va_up_ne _ _ (by omega)]
    · rw [if_neg hr, if_neg hr]
end PC
/-! Order -/
section OD
variable {og pr : Nat → Int32} {pc vl po : Int32} {pt sr : Nat → Int32}
theorem od_out {q : Nat} (hq : q < h ∨ h + 6 ≤ q) : odM G M h og pr pc vl po pt sr q = M q := by
  unfold odM; rw [if_neg (by omega), if_neg (by omega), if_neg (by omega), if_neg (by omega), if_neg (by omega), if_neg (by omega)]
theorem od_o : odM G M h og pr pc vl po pt sr h = some (zO 1 [.ref (h + 1), .ref (h + 2), .int pc, .int vl, .int po, .ref (h + 3)]) := by simp [odM]
theorem od_g : odM G M h og pr pc vl po pt sr (h + 1) = some (zI (G.2.1 0) 8 og) := by simp [odM]
theorem od_p : odM G M h og pr pc vl po pt sr (h + 2) = some (zI (G.2.1 0) 8 pr) := by simp [odM]
theorem od_h : odM G M h og pr pc vl po pt sr (h + 3) = some (zO 4 [.ref (h + 4), .ref (h + 5)]) := by simp [odM]
theorem od_t : odM G M h og pr pc vl po pt sr (h + 4) = some (zI (G.2.1 0) 6 pt) := by simp [odM]
theorem od_s : odM G M h og pr pc vl po pt sr (h + 5) = some (zI (G.2.1 0) 6 sr) := by simp [odM]
theorem odw_o (a b c : Int32) : zu (odM G M h og pr pc vl po pt sr) h (zO 1 [.ref (h + 1), .ref (h + 2), .int a, .int b, .int c, .ref (h + 3)]) = odM G M h og pr a b c pt sr := by
  funext q; simp only [zu, odM]; split <;> rfl
theorem odw_g (f : Nat → Int32) : zu (odM G M h og pr pc vl po pt sr) (h + 1) (zI (G.2.1 0) 8 f) = odM G M h f pr pc vl po pt sr := by
  funext q; by_cases hq : q = h + 1
  · subst hq; simp [zu, odM]
  · simp only [zu, odM, if_neg hq]
theorem odw_p (f : Nat → Int32) : zu (odM G M h og pr pc vl po pt sr) (h + 2) (zI (G.2.1 0) 8 f) = odM G M h og f pc vl po pt sr := by
  funext q; by_cases hq : q = h + 2
  · subst hq; simp [zu, odM]
  · simp only [zu, odM, if_neg hq]
theorem odw_t (f : Nat → Int32) : zu (odM G M h og pr pc vl po pt sr) (h + 4) (zI (G.2.1 0) 6 f) = odM G M h og pr pc vl po f sr := by
  funext q; by_cases hq : q = h + 4
  · subst hq; simp [zu, odM]
  · simp only [zu, odM, if_neg hq]
theorem odw_s (f : Nat → Int32) : zu (odM G M h og pr pc vl po pt sr) (h + 5) (zI (G.2.1 0) 6 f) = odM G M h og pr pc vl po pt f := by
  funext q; by_cases hq : q = h + 5
  · subst hq; simp [zu, odM]
  · simp only [zu, odM, if_neg hq]
/-- an order's sharing -/
theorem od_sh (pt' sr' : Nat → Int32) : shM G (odM G M h og pr pc vl po pt sr) (h + 3) pt' sr' = odM G M h og pr pc vl po pt' sr' := by
  funext q; unfold shM odM
  by_cases h0 : q = h + 3
  · subst h0; simp
  · by_cases h1 : q = h + 4
    · subst h1; simp
    · by_cases h2 : q = h + 5
      · subst h2; simp
      · rw [if_neg h0, if_neg (by omega), if_neg (by omega)]
        simp only [if_neg h0, if_neg h1, if_neg h2]
theorem od_zu {q : Nat} {e : va_E} (hq : q < h ∨ h + 6 ≤ q) : zu (odM G M h og pr pc vl po pt sr) q e = odM G (zu M q e) h og pr pc vl po pt sr := by
  funext w; by_cases hw : w = q
  · subst hw; rw [zu_self, od_out hq, zu_self]
  · rw [zu_ne _ _ hw]
    by_cases hr : w < h ∨ h + 6 ≤ w
    · rw [od_out hr, od_out hr, zu_ne _ _ hw]
    · have hc : w = h ∨ w = h + 1 ∨ w = h + 2 ∨ w = h + 3 ∨ w = h + 4 ∨ w = h + 5 := by omega
      rcases hc with rfl | rfl | rfl | rfl | rfl | rfl <;> simp [odM]
end OD
/-! Club -/
section CB
variable {b : Nat} {st : Nat → Int32} {dy x : Int32} {br : Nat → Int32} {sp wa : Nat → Nat → Int32} {ac ps pp pu lo : Nat → Int32} {un op : Int32} {pi : Nat → Nat} {cn : Nat → Nat → Nat → Int32} {vl du : Nat → Int32} {io : Nat → Bool} {hp hs : Nat → Int32}
theorem cb_out {q : Nat} (hq : q < b ∨ b + 66 ≤ q) : cbM G M b st dy x br sp wa ac ps pp pu lo un op pi cn vl du io hp hs q = M q := by
  unfold cbM; rw [if_neg (by omega), if_neg (by omega)]
theorem cb_lo {o : Nat} (ho : o < 26) : cbM G M b st dy x br sp wa ac ps pp pu lo un op pi cn vl du io hp hs (b + o) = some (cbL G b st dy x br sp wa ac ps pp pu lo un op pi hp hs o) := by
  unfold cbM; rw [if_pos (by omega), Nat.add_sub_cancel_left]
theorem cb_hi {j r : Nat} (hj : j < 5) (hr : r < 8) : cbM G M b st dy x br sp wa ac ps pp pu lo un op pi cn vl du io hp hs (b + 26 + 8 * j + r) = some (pcC G (b + 26 + 8 * j) (cn j) (vl j) (du j) (io j) r) := by
  unfold cbM
  rw [if_neg (by omega), if_pos (by omega), show (b + 26 + 8 * j + r - (b + 26)) / 8 = j by omega, show (b + 26 + 8 * j + r - (b + 26)) % 8 = r by omega]
theorem cb_o : cbM G M b st dy x br sp wa ac ps pp pu lo un op pi cn vl du io hp hs b = some (zO 0 (cbF b dy x un op)) := cb_lo (o := 0) (by omega)
theorem cb_st : cbM G M b st dy x br sp wa ac ps pp pu lo un op pi cn vl du io hp hs (b + 1) = some (zI (G.2.1 0) 9 st) := cb_lo (by omega)
theorem cb_br : cbM G M b st dy x br sp wa ac ps pp pu lo un op pi cn vl du io hp hs (b + 2) = some (zI (G.2.1 0) 6 br) := cb_lo (by omega)
theorem cb_sp : cbM G M b st dy x br sp wa ac ps pp pu lo un op pi cn vl du io hp hs (b + 3) = some (zR (G.2.1 3) 6 (zRef6 (b + 4))) := cb_lo (by omega)
theorem cb_spr {m : Nat} (hm : m < 6) : cbM G M b st dy x br sp wa ac ps pp pu lo un op pi cn vl du io hp hs (b + 4 + m) = some (zI (G.2.1 0) 8 (sp m)) := by
  rw [show b + 4 + m = b + (4 + m) by omega, cb_lo (by omega)]
  unfold cbL; rw [if_neg (by omega), if_neg (by omega), if_neg (by omega), if_neg (by omega), if_pos (by omega), Nat.add_sub_cancel_left]
theorem cb_wa : cbM G M b st dy x br sp wa ac ps pp pu lo un op pi cn vl du io hp hs (b + 10) = some (zR (G.2.1 3) 6 (zRef6 (b + 11))) := cb_lo (by omega)
theorem cb_war {m : Nat} (hm : m < 6) : cbM G M b st dy x br sp wa ac ps pp pu lo un op pi cn vl du io hp hs (b + 11 + m) = some (zI (G.2.1 0) 8 (wa m)) := by
  rw [show b + 11 + m = b + (11 + m) by omega, cb_lo (by omega)]
  unfold cbL; rw [if_neg (by omega), if_neg (by omega), if_neg (by omega), if_neg (by omega), if_neg (by omega), if_neg (by omega), if_pos (by omega), Nat.add_sub_cancel_left]
theorem cb_ac : cbM G M b st dy x br sp wa ac ps pp pu lo un op pi cn vl du io hp hs (b + 17) = some (zI (G.2.1 0) 6 ac) := cb_lo (by omega)
theorem cb_ps : cbM G M b st dy x br sp wa ac ps pp pu lo un op pi cn vl du io hp hs (b + 18) = some (zI (G.2.1 0) 6 ps) := cb_lo (by omega)
theorem cb_pp : cbM G M b st dy x br sp wa ac ps pp pu lo un op pi cn vl du io hp hs (b + 19) = some (zI (G.2.1 0) 6 pp) := cb_lo (by omega)
theorem cb_pu : cbM G M b st dy x br sp wa ac ps pp pu lo un op pi cn vl du io hp hs (b + 20) = some (zI (G.2.1 0) 6 pu) := cb_lo (by omega)
theorem cb_lo' : cbM G M b st dy x br sp wa ac ps pp pu lo un op pi cn vl du io hp hs (b + 21) = some (zI (G.2.1 0) 6 lo) := cb_lo (by omega)
theorem cb_pi : cbM G M b st dy x br sp wa ac ps pp pu lo un op pi cn vl du io hp hs (b + 22) = some (zR (G.2.1 4) 5 (cbP b pi)) := cb_lo (by omega)
theorem cb_h : cbM G M b st dy x br sp wa ac ps pp pu lo un op pi cn vl du io hp hs (b + 23) = some (zO 4 [.ref (b + 24), .ref (b + 25)]) := cb_lo (by omega)
theorem cb_hp : cbM G M b st dy x br sp wa ac ps pp pu lo un op pi cn vl du io hp hs (b + 24) = some (zI (G.2.1 0) 6 hp) := cb_lo (by omega)
theorem cb_hs : cbM G M b st dy x br sp wa ac ps pp pu lo un op pi cn vl du io hp hs (b + 25) = some (zI (G.2.1 0) 6 hs) := cb_lo (by omega)
theorem cbP_at {i : Nat} (h : i < 5) : cbP b pi i = some (b + 26 + 8 * pi i) := if_pos h
theorem cb_pc {j : Nat} (hj : j < 5) : cbM G M b st dy x br sp wa ac ps pp pu lo un op pi cn vl du io hp hs (b + 26 + 8 * j) = some (zO 3 [.ref (b + 26 + 8 * j + 1), .int (vl j), .int (du j), .int (zb (io j))]) := cb_hi (r := 0) hj (by omega)
theorem cb_pcc {j : Nat} (hj : j < 5) : cbM G M b st dy x br sp wa ac ps pp pu lo un op pi cn vl du io hp hs (b + 26 + 8 * j + 1) = some (zR (G.2.1 3) 6 (zRef6 (b + 26 + 8 * j + 2))) := cb_hi (r := 1) hj (by omega)
theorem cb_pcr {j m : Nat} (hj : j < 5) (hm : m < 6) : cbM G M b st dy x br sp wa ac ps pp pu lo un op pi cn vl du io hp hs (b + 26 + 8 * j + 2 + m) = some (zI (G.2.1 0) 8 (cn j m)) := by
  rw [show b + 26 + 8 * j + 2 + m = b + 26 + 8 * j + (2 + m) by omega, cb_hi hj (by omega)]
  unfold pcC; rw [if_neg (by omega), if_neg (by omega), Nat.add_sub_cancel_left]
/-- a write in the first 26 cells -/
theorem cb_wlo {o : Nat} {e : va_E} {st' : Nat → Int32} {dy' x' : Int32} {br' : Nat → Int32} {sp' wa' : Nat → Nat → Int32} {ac' ps' pp' pu' lo' : Nat → Int32} {un' op' : Int32} {pi' : Nat → Nat} {hp' hs' : Nat → Int32} (ho : o < 26) (h1 : cbL G b st' dy' x' br' sp' wa' ac' ps' pp' pu' lo' un' op' pi' hp' hs' o = e)
    (h2 : ∀ w, w < 26 → w ≠ o → cbL G b st dy x br sp wa ac ps pp pu lo un op pi hp hs w = cbL G b st' dy' x' br' sp' wa' ac' ps' pp' pu' lo' un' op' pi' hp' hs' w) : zu (cbM G M b st dy x br sp wa ac ps pp pu lo un op pi cn vl du io hp hs) (b + o) e = cbM G M b st' dy' x' br' sp' wa' ac' ps' pp' pu' lo' un' op' pi' cn vl du io hp' hs' := by
  funext q
  by_cases hq : q = b + o
  · subst hq; rw [zu_self, cb_lo ho, h1]
  · rw [zu_ne _ _ hq]; unfold cbM
    by_cases hr : b ≤ q ∧ q < b + 26
    · rw [if_pos hr, if_pos hr, h2 (q - b) (by omega) (by omega)]
    · rw [if_neg hr, if_neg hr]
theorem cbw_o (dy' x' un' op' : Int32) : zu (cbM G M b st dy x br sp wa ac ps pp pu lo un op pi cn vl du io hp hs) b (zO 0 (cbF b dy' x' un' op')) = cbM G M b st dy' x' br sp wa ac ps pp pu lo un' op' pi cn vl du io hp hs := cb_wlo (o := 0) (by omega) rfl (fun w h1 h2 => by unfold cbL; rw [if_neg h2, if_neg h2])
theorem cbw_spr {m : Nat} (hm : m < 6) (f : Nat → Int32) : zu (cbM G M b st dy x br sp wa ac ps pp pu lo un op pi cn vl du io hp hs) (b + 4 + m) (zI (G.2.1 0) 8 f) = cbM G M b st dy x br (va_up sp m f) wa ac ps pp pu lo un op pi cn vl du io hp hs := by
  rw [show b + 4 + m = b + (4 + m) by omega]
  refine cb_wlo (by omega) ?_ (fun w h1 h2 => ?_)
  · unfold cbL; rw [if_neg (by omega), if_neg (by omega), if_neg (by omega), if_neg (by omega), if_pos (by omega), Nat.add_sub_cancel_left, va_up_self]
  · unfold cbL
    by_cases h3 : w < 4
    · have : w = 0 ∨ w = 1 ∨ w = 2 ∨ w = 3 := by omega
      rcases this with rfl | rfl | rfl | rfl <;> rfl
    · rw [va_up_ne _ _ (show w - 4 ≠ m by omega)]
theorem cbw_war {m : Nat} (hm : m < 6) (f : Nat → Int32) : zu (cbM G M b st dy x br sp wa ac ps pp pu lo un op pi cn vl du io hp hs) (b + 11 + m) (zI (G.2.1 0) 8 f) = cbM G M b st dy x br sp (va_up wa m f) ac ps pp pu lo un op pi cn vl du io hp hs := by
  rw [show b + 11 + m = b + (11 + m) by omega]
  refine cb_wlo (by omega) ?_ (fun w h1 h2 => ?_)
  · unfold cbL; rw [if_neg (by omega), if_neg (by omega), if_neg (by omega), if_neg (by omega), if_neg (by omega), if_neg (by omega), if_pos (by omega), Nat.add_sub_cancel_left, va_up_self]
  · unfold cbL
    by_cases h3 : w < 11
    · have : w = 10 ∨ w < 10 := by omega
      rcases this with rfl | h4
      · rfl
      · simp only [if_pos h4]
    · rw [va_up_ne _ _ (show w - 11 ≠ m by omega)]
theorem cbw_st (f : Nat → Int32) : zu (cbM G M b st dy x br sp wa ac ps pp pu lo un op pi cn vl du io hp hs) (b + 1) (zI (G.2.1 0) 9 f) = cbM G M b f dy x br sp wa ac ps pp pu lo un op pi cn vl du io hp hs := cb_wlo (by omega) rfl (fun w h1 h2 => by unfold cbL; rcases Nat.lt_trichotomy w 1 with q | q | q <;> first | exact absurd q h2 | simp only [show ¬ w = 1 by omega, if_false])
theorem cbw_br (f : Nat → Int32) : zu (cbM G M b st dy x br sp wa ac ps pp pu lo un op pi cn vl du io hp hs) (b + 2) (zI (G.2.1 0) 6 f) = cbM G M b st dy x f sp wa ac ps pp pu lo un op pi cn vl du io hp hs := cb_wlo (by omega) rfl (fun w h1 h2 => by unfold cbL; rcases Nat.lt_trichotomy w 2 with q | q | q <;> first | exact absurd q h2 | simp only [show ¬ w = 2 by omega, if_false])
theorem cbw_ac (f : Nat → Int32) : zu (cbM G M b st dy x br sp wa ac ps pp pu lo un op pi cn vl du io hp hs) (b + 17) (zI (G.2.1 0) 6 f) = cbM G M b st dy x br sp wa f ps pp pu lo un op pi cn vl du io hp hs := cb_wlo (by omega) rfl (fun w h1 h2 => by unfold cbL; rcases Nat.lt_trichotomy w 17 with q | q | q <;> first | exact absurd q h2 | simp only [show ¬ w = 17 by omega, if_false])
theorem cbw_ps (f : Nat → Int32) : zu (cbM G M b st dy x br sp wa ac ps pp pu lo un op pi cn vl du io hp hs) (b + 18) (zI (G.2.1 0) 6 f) = cbM G M b st dy x br sp wa ac f pp pu lo un op pi cn vl du io hp hs := cb_wlo (by omega) rfl (fun w h1 h2 => by unfold cbL; rcases Nat.lt_trichotomy w 18 with q | q | q <;> first | exact absurd q h2 | simp only [show ¬ w = 18 by omega, if_false])
theorem cbw_pp (f : Nat → Int32) : zu (cbM G M b st dy x br sp wa ac ps pp pu lo un op pi cn vl du io hp hs) (b + 19) (zI (G.2.1 0) 6 f) = cbM G M b st dy x br sp wa ac ps f pu lo un op pi cn vl du io hp hs := cb_wlo (by omega) rfl (fun w h1 h2 => by unfold cbL; rcases Nat.lt_trichotomy w 19 with q | q | q <;> first | exact absurd q h2 | simp only [show ¬ w = 19 by omega, if_false])
theorem cbw_pu (f : Nat → Int32) : zu (cbM G M b st dy x br sp wa ac ps pp pu lo un op pi cn vl du io hp hs) (b + 20) (zI (G.2.1 0) 6 f) = cbM G M b st dy x br sp wa ac ps pp f lo un op pi cn vl du io hp hs := cb_wlo (by omega) rfl (fun w h1 h2 => by unfold cbL; rcases Nat.lt_trichotomy w 20 with q | q | q <;> first | exact absurd q h2 | simp only [show ¬ w = 20 by omega, if_false])
theorem cbw_lo (f : Nat → Int32) : zu (cbM G M b st dy x br sp wa ac ps pp pu lo un op pi cn vl du io hp hs) (b + 21) (zI (G.2.1 0) 6 f) = cbM G M b st dy x br sp wa ac ps pp pu f un op pi cn vl du io hp hs := cb_wlo (by omega) rfl (fun w h1 h2 => by unfold cbL; rcases Nat.lt_trichotomy w 21 with q | q | q <;> first | exact absurd q h2 | simp only [show ¬ w = 21 by omega, if_false])
theorem cbw_hp (f : Nat → Int32) : zu (cbM G M b st dy x br sp wa ac ps pp pu lo un op pi cn vl du io hp hs) (b + 24) (zI (G.2.1 0) 6 f) = cbM G M b st dy x br sp wa ac ps pp pu lo un op pi cn vl du io f hs := cb_wlo (by omega) rfl (fun w h1 h2 => by unfold cbL; rcases Nat.lt_trichotomy w 24 with q | q | q <;> first | exact absurd q h2 | simp only [show ¬ w = 24 by omega, if_false])
theorem cbw_hs (f : Nat → Int32) : zu (cbM G M b st dy x br sp wa ac ps pp pu lo un op pi cn vl du io hp hs) (b + 25) (zI (G.2.1 0) 6 f) = cbM G M b st dy x br sp wa ac ps pp pu lo un op pi cn vl du io hp f := by
  refine cb_wlo (by omega) rfl (fun w h1 h2 => ?_)
  have hc : w = 0 ∨ w = 1 ∨ w = 2 ∨ w = 3 ∨ w = 4 ∨ w = 5 ∨ w = 6 ∨ w = 7 ∨ w = 8 ∨ w = 9 ∨ w = 10 ∨ w = 11 ∨ w = 12 ∨ w = 13 ∨ w = 14 ∨ w = 15 ∨ w = 16 ∨ w = 17 ∨ w = 18 ∨ w = 19 ∨ w = 20 ∨ w = 21 ∨ w = 22 ∨ w = 23 ∨ w = 24 := by omega
  rcases hc with rfl | rfl | rfl | rfl | rfl | rfl | rfl | rfl | rfl | rfl | rfl | rfl | rfl | rfl | rfl | rfl | rfl | rfl | rfl | rfl | rfl | rfl | rfl | rfl | rfl <;> rfl
theorem cbw_pi (pi' : Nat → Nat) : zu (cbM G M b st dy x br sp wa ac ps pp pu lo un op pi cn vl du io hp hs) (b + 22) (zR (G.2.1 4) 5 (cbP b pi')) = cbM G M b st dy x br sp wa ac ps pp pu lo un op pi' cn vl du io hp hs := cb_wlo (by omega) rfl (fun w h1 h2 => by unfold cbL; simp only [show ¬ w = 22 by omega, if_false])
theorem cb_sh (hp' hs' : Nat → Int32) : shM G (cbM G M b st dy x br sp wa ac ps pp pu lo un op pi cn vl du io hp hs) (b + 23) hp' hs' = cbM G M b st dy x br sp wa ac ps pp pu lo un op pi cn vl du io hp' hs' := by
  funext q
  by_cases h0 : q < b + 23 ∨ b + 23 + 3 ≤ q
  · rw [sh_out h0]; unfold cbM
    by_cases hr : b ≤ q ∧ q < b + 26
    · rw [if_pos hr, if_pos hr]
      obtain ⟨w, hw⟩ : ∃ w, w = q - b := ⟨_, rfl⟩
      rw [← hw]
      have hc : w = 0 ∨ w = 1 ∨ w = 2 ∨ w = 3 ∨ w = 4 ∨ w = 5 ∨ w = 6 ∨ w = 7 ∨ w = 8 ∨ w = 9 ∨ w = 10 ∨ w = 11 ∨ w = 12 ∨ w = 13 ∨ w = 14 ∨ w = 15 ∨ w = 16 ∨ w = 17 ∨ w = 18 ∨ w = 19 ∨ w = 20 ∨ w = 21 ∨ w = 22 := by omega
      rcases hc with rfl | rfl | rfl | rfl | rfl | rfl | rfl | rfl | rfl | rfl | rfl | rfl | rfl | rfl | rfl | rfl | rfl | rfl | rfl | rfl | rfl | rfl | rfl <;> rfl
    · rw [if_neg hr, if_neg hr]
  · have hc : q = b + 23 ∨ q = b + 24 ∨ q = b + 25 := by omega
    rcases hc with rfl | rfl | rfl
    · rw [sh_o, cb_h]
    · rw [show b + 24 = b + 23 + 1 by omega, sh_p, show b + 23 + 1 = b + 24 by omega, cb_hp]
    · rw [show b + 25 = b + 23 + 2 by omega, sh_s, show b + 23 + 2 = b + 25 by omega, cb_hs]
theorem cb_pcv {j : Nat} (hj : j < 5) (cn' : Nat → Nat → Int32) (vl' du' : Int32) (io' : Bool) : pcM G (cbM G M b st dy x br sp wa ac ps pp pu lo un op pi cn vl du io hp hs) (b + 26 + 8 * j) cn' vl' du' io' = cbM G M b st dy x br sp wa ac ps pp pu lo un op pi (va_up cn j cn') (va_up vl j vl') (va_up du j du') (va_up io j io') hp hs := by
  funext q
  by_cases h0 : q < b + 26 + 8 * j ∨ b + 26 + 8 * j + 8 ≤ q
  · rw [pc_out h0]; unfold cbM
    by_cases hr : b ≤ q ∧ q < b + 26
    · rw [if_pos hr, if_pos hr]
    · rw [if_neg hr, if_neg hr]
      by_cases h2 : b + 26 ≤ q ∧ q < b + 66
      · rw [if_pos h2, if_pos h2]
        have hne : (q - (b + 26)) / 8 ≠ j := by omega
        rw [va_up_ne _ _ hne, va_up_ne _ _ hne, va_up_ne _ _ hne, va_up_ne _ _ hne]
      · rw [if_neg h2, if_neg h2]
  · obtain ⟨r, hr, rfl⟩ : ∃ r, r < 8 ∧ q = b + 26 + 8 * j + r := ⟨q - (b + 26 + 8 * j), by omega, by omega⟩
    rw [cb_hi hj hr, va_up_self, va_up_self, va_up_self, va_up_self]
    unfold pcM
    rw [if_pos (by omega), Nat.add_sub_cancel_left]
theorem cb_zu {q : Nat} {e : va_E} (hq : q < b ∨ b + 66 ≤ q) : zu (cbM G M b st dy x br sp wa ac ps pp pu lo un op pi cn vl du io hp hs) q e = cbM G (zu M q e) b st dy x br sp wa ac ps pp pu lo un op pi cn vl du io hp hs := by
  funext w; by_cases hw : w = q
  · subst hw; rw [zu_self, cb_out hq, zu_self]
  · rw [zu_ne _ _ hw]
    by_cases hr : w < b ∨ b + 66 ≤ w
    · rw [cb_out hr, cb_out hr, zu_ne _ _ hw]
    · unfold cbM
      by_cases h2 : b ≤ w ∧ w < b + 26
      · rw [if_pos h2, if_pos h2]
      · rw [if_neg h2, if_neg h2, if_pos (by omega), if_pos (by omega)]
end CB
end OV
