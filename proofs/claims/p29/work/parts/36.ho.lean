/-! static tables of ints: they lie in the old heap -/
section STAT
variable {K : zK} {G : zG} {y : MethodName} {b : ByteArray} {nL : Nat} {R : Room} {ret : Option FieldType} {Q : State → Prop} {cells slots : Nat} {M : zM} {N pc : Nat} {lv : List (Nat × Value)} {st : List Value}
theorem r_gets (h : zOk K G y b nL R ret) {t index : Nat} {nm : String} (hz : va_Z RX5 nm "[I" (.ref t) (fun q => G.2.2.size ≤ q) K.2.2.2.2.1 G.2.2) (hw : Cond.fieldLink y.cls index RX5 nm "[I" ∈ lw_tbl) (hd : decode b pc = .ok (.getstatic index, 3)) (kk : zW K G nL Q cells slots M N (pc + 3) lv (.ref t :: st)) : zW K G nL Q cells slots M N pc lv st := by
  obtain ⟨p, l, e, R0, s, m, args, below, meth, c⟩ := K
  obtain ⟨hx, hb, hml, hown, hK, hR, hret, hlk, hnm⟩ := h
  intro H locs ls hH hlo hl
  dsimp only at hx hb hml hown hK hR hret hlk hnm hz ⊢
  obtain ⟨cf, kf, fi, f, a, cell, h1, h2, h3, h4, h5, h6, h7, h8⟩ := hz
  exact W.gets hx hb hown (hK.2.1.use hw rfl args) h1 h2 h3 h4 (by rw [hH.2.1 a (Array.getElem?_eq_some_iff.mp h5).1]; exact h5) (fun e => by rw [e] at h6; cases h6) h7 rfl hd (kk H locs ls hH hlo hl)
theorem r_getsN (h : zOk K G y b nL R ret) {t index : Nat} {nm host : String} (hz : va_Z RX5 nm "[I" (.ref t) (fun q => G.2.2.size ≤ q) K.2.2.2.2.1 G.2.2) (hw : Cond.fieldLinkNest y.cls index RX5 nm "[I" host ∈ lw_tbl) (hd : decode b pc = .ok (.getstatic index, 3)) (kk : zW K G nL Q cells slots M N (pc + 3) lv (.ref t :: st)) : zW K G nL Q cells slots M N pc lv st := by
  obtain ⟨p, l, e, R0, s, m, args, below, meth, c⟩ := K
  obtain ⟨hx, hb, hml, hown, hK, hR, hret, hlk, hnm⟩ := h
  intro H locs ls hH hlo hl
  dsimp only at hx hb hml hown hK hR hret hlk hnm hz ⊢
  obtain ⟨cf, kf, fi, f, a, cell, h1, h2, h3, h4, h5, h6, h7, h8⟩ := hz
  exact va_WgetsN hx hb hown (hK.2.1.use hw rfl args) h1 h2 h3 h4 (by rw [hH.2.1 a (Array.getElem?_eq_some_iff.mp h5).1]; exact h5) (fun e => by rw [e] at h6; cases h6) h7 rfl hd (kk H locs ls hH hlo hl)
theorem r_ialdS (h : zOk K G y b nL R ret) {t n : Nat} {f : Nat → Int32} {i : Nat} (hT : va_T .int t n (fun j => .int (f j)) (fun q => G.2.2.size ≤ q) K.2.2.2.2.1 G.2.2) (hi : i < n) (hn : n < 2 ^ 31) (hd : decode b pc = .ok (.iaload, 1)) (kk : zW K G nL Q cells slots M N (pc + 1) lv (.int (f i) :: st)) : zW K G nL Q cells slots M N pc lv (.int (nI i) :: .ref t :: st) := by
  obtain ⟨p, l, e, R0, s, m, args, below, meth, c⟩ := K
  obtain ⟨hx, hb, hml, hown, hK, hR, hret, hlk, hnm⟩ := h
  intro H locs ls hH hlo hl
  dsimp only at hx hb hml hown hK hR hret hlk hnm hT ⊢
  obtain ⟨cell, h1, h2, h3, h4, h5, h6, h7⟩ := hT
  have hin : vp_in (nI i) n := vp_in_nI hi hn
  have e : (nI i).toNatClampNeg = i := nI_clamp (by omega)
  have hin' : ¬ (nI i < 0 ∨ cell.slots.size ≤ (nI i).toNatClampNeg) := by
    intro q
    rcases q with q | q
    · exact hin (Or.inl q)
    · rw [e] at q; omega
  exact W.iald (v := .int (f i)) hx hb (by rw [hH.2.1 t (Array.getElem?_eq_some_iff.mp h1).1]; exact h1) h2 h3 hin' (by rw [e, h6 _ hi]) rfl rfl hd (kk H locs ls hH hlo hl)
theorem r_alenS (h : zOk K G y b nL R ret) {t n : Nat} {f : Nat → Int32} (hT : va_T .int t n (fun j => .int (f j)) (fun q => G.2.2.size ≤ q) K.2.2.2.2.1 G.2.2) (hd : decode b pc = .ok (.arraylength, 1)) (kk : zW K G nL Q cells slots M N (pc + 1) lv (.int (nI n) :: st)) : zW K G nL Q cells slots M N pc lv (.ref t :: st) := by
  obtain ⟨p, l, e, R0, s, m, args, below, meth, c⟩ := K
  obtain ⟨hx, hb, hml, hown, hK, hR, hret, hlk, hnm⟩ := h
  intro H locs ls hH hlo hl
  dsimp only at hx hb hml hown hK hR hret hlk hnm hT ⊢
  obtain ⟨cell, h1, h2, h3, h4, h5, h6, h7⟩ := hT
  exact W.alen (n := Int32.ofNat n) hx hb (by rw [hH.2.1 t (Array.getElem?_eq_some_iff.mp h1).1]; exact h1) h2 h5 rfl rfl hd (kk H locs ls hH hlo hl)
end STAT
/-! an order as one thing -/
abbrev zOd : Type := (Nat → Int32) × (Nat → Int32) × (Int32) × (Int32) × (Int32) × (Nat → Int32) × (Nat → Int32)
def zOd.mk (og : Nat → Int32) (pr : Nat → Int32) (pc : Int32) (vl : Int32) (po : Int32) (pt : Nat → Int32) (sr : Nat → Int32) : zOd := (og, pr, pc, vl, po, pt, sr)
def zOd.og (c : zOd) : Nat → Int32 := c.1
def zOd.pr (c : zOd) : Nat → Int32 := c.2.1
def zOd.pc (c : zOd) : Int32 := c.2.2.1
def zOd.vl (c : zOd) : Int32 := c.2.2.2.1
def zOd.po (c : zOd) : Int32 := c.2.2.2.2.1
def zOd.pt (c : zOd) : Nat → Int32 := c.2.2.2.2.2.1
def zOd.sr (c : zOd) : Nat → Int32 := c.2.2.2.2.2.2
theorem zq_og (og : Nat → Int32) (pr : Nat → Int32) (pc : Int32) (vl : Int32) (po : Int32) (pt : Nat → Int32) (sr : Nat → Int32) : (zOd.mk og pr pc vl po pt sr).og = og := rfl
theorem zq_pr (og : Nat → Int32) (pr : Nat → Int32) (pc : Int32) (vl : Int32) (po : Int32) (pt : Nat → Int32) (sr : Nat → Int32) : (zOd.mk og pr pc vl po pt sr).pr = pr := rfl
theorem zq_pc (og : Nat → Int32) (pr : Nat → Int32) (pc : Int32) (vl : Int32) (po : Int32) (pt : Nat → Int32) (sr : Nat → Int32) : (zOd.mk og pr pc vl po pt sr).pc = pc := rfl
theorem zq_vl (og : Nat → Int32) (pr : Nat → Int32) (pc : Int32) (vl : Int32) (po : Int32) (pt : Nat → Int32) (sr : Nat → Int32) : (zOd.mk og pr pc vl po pt sr).vl = vl := rfl
theorem zq_po (og : Nat → Int32) (pr : Nat → Int32) (pc : Int32) (vl : Int32) (po : Int32) (pt : Nat → Int32) (sr : Nat → Int32) : (zOd.mk og pr pc vl po pt sr).po = po := rfl
theorem zq_pt (og : Nat → Int32) (pr : Nat → Int32) (pc : Int32) (vl : Int32) (po : Int32) (pt : Nat → Int32) (sr : Nat → Int32) : (zOd.mk og pr pc vl po pt sr).pt = pt := rfl
theorem zq_sr (og : Nat → Int32) (pr : Nat → Int32) (pc : Int32) (vl : Int32) (po : Int32) (pt : Nat → Int32) (sr : Nat → Int32) : (zOd.mk og pr pc vl po pt sr).sr = sr := rfl
abbrev cbK (G : zG) (M : zM) (b : Nat) (c : zCl) : zM := cbM G M b c.st c.dy c.x c.br c.sp c.wa c.ac c.ps c.pp c.pu c.lo (nI c.un) c.op c.pi c.cn c.vl c.du c.io c.hp c.hs
abbrev odK (G : zG) (M : zM) (b : Nat) (d : zOd) : zM := odM G M b d.og d.pr d.pc d.vl d.po d.pt d.sr
theorem cb_in {G : zG} (M M2 : zM) {b : Nat} {st : Nat → Int32} {dy x : Int32} {br : Nat → Int32} {sp wa : Nat → Nat → Int32} {ac ps pp pu lo : Nat → Int32} {un op : Int32} {pi : Nat → Nat} {cn : Nat → Nat → Nat → Int32} {vl du : Nat → Int32} {io : Nat → Bool} {hp hs : Nat → Int32} {q : Nat} (h : b ≤ q) (h2 : q < b + 66) : cbM G M b st dy x br sp wa ac ps pp pu lo un op pi cn vl du io hp hs q = cbM G M2 b st dy x br sp wa ac ps pp pu lo un op pi cn vl du io hp hs q := by
  unfold cbM
  by_cases h3 : b ≤ q ∧ q < b + 26
  · rw [if_pos h3, if_pos h3]
  · rw [if_neg h3, if_neg h3, if_pos (by omega), if_pos (by omega)]
theorem pd_in {G : zG} (M M2 : zM) {h : Nat} {sg : Nat → Int32} {pl : Int32} {q : Nat} (h1 : h ≤ q) (h2 : q < h + 2) : pdM G M h sg pl q = pdM G M2 h sg pl q := by
  have : q = h ∨ q = h + 1 := by omega
  rcases this with rfl | rfl
  · rw [pd_o, pd_o]
  · rw [pd_s, pd_s]
theorem od_in {G : zG} (M M2 : zM) {h : Nat} {og pr : Nat → Int32} {pc vl po : Int32} {pt sr : Nat → Int32} {q : Nat} (h1 : h ≤ q) (h2 : q < h + 6) : odM G M h og pr pc vl po pt sr q = odM G M2 h og pr pc vl po pt sr q := by
  have : q = h ∨ q = h + 1 ∨ q = h + 2 ∨ q = h + 3 ∨ q = h + 4 ∨ q = h + 5 := by omega
  rcases this with rfl | rfl | rfl | rfl | rfl | rfl
  · rw [od_o, od_o]
  · rw [od_g, od_g]
  · rw [od_p, od_p]
  · rw [od_h, od_h]
  · rw [od_t, od_t]
  · rw [od_s, od_s]
theorem ck_in {G : zG} (M M2 : zM) {b : Nat} {c : zCl} {q : Nat} (h : b ≤ q) (h2 : q < b + 66) : cbK G M b c q = cbK G M2 b c q := cb_in M M2 h h2
theorem ck_out {G : zG} {M : zM} {b : Nat} {c : zCl} {q : Nat} (hq : q < b ∨ b + 66 ≤ q) : cbK G M b c q = M q := cb_out hq
theorem ok_in {G : zG} (M M2 : zM) {b : Nat} {c : zOd} {q : Nat} (h : b ≤ q) (h2 : q < b + 6) : odK G M b c q = odK G M2 b c q := od_in M M2 h h2
theorem ok_out {G : zG} {M : zM} {b : Nat} {c : zOd} {q : Nat} (hq : q < b ∨ b + 6 ≤ q) : odK G M b c q = M q := od_out hq
/-! the whole object: 672 cells -/
def hoF (a : Nat) (kp : Int32) : List Value := [.ref (a + 1), .ref (a + 67), .ref (a + 133), .int kp, .ref (a + 134), .ref (a + 135), .ref (a + 136), .ref (a + 138)]
def hoH (a : Nat) (hi : Nat → Nat) : Nat → Option Nat := fun i => if i < 6 then some (a + 144 + 66 * hi i) else none
def hoS (a : Nat) : Nat → Option Nat := fun i => if i < 2 then some (a + 540 + 66 * i) else none
theorem hoH_at {a : Nat} {hi : Nat → Nat} {i : Nat} (h : i < 6) : hoH a hi i = some (a + 144 + 66 * hi i) := if_pos h
theorem hoS_at {a i : Nat} (h : i < 2) : hoS a i = some (a + 540 + 66 * i) := if_pos h
theorem hoH_up {a : Nat} {hi : Nat → Nat} {i j : Nat} (h : i < 6) : va_up (hoH a hi) i (some (a + 144 + 66 * j)) = hoH a (va_up hi i j) := by
  funext k
  by_cases hk : k = i
  · subst hk; rw [va_up_self, hoH_at h, va_up_self]
  · rw [va_up_ne _ _ hk]; unfold hoH; rw [va_up_ne _ _ hk]
def hoM (G : zG) (M : zM) (a : Nat) (c t : zCl) (hc sc : Nat → zCl) (kp : Int32) (hi : Nat → Nat) (sv : Nat → Bool) (sg : Nat → Int32) (pl : Int32) (d : zOd) : zM := fun q =>
  if q < a ∨ a + 672 ≤ q then M q else if q = a then some (zO 5 (hoF a kp)) else if q < a + 67 then cbK G M (a + 1) c q else if q < a + 133 then cbK G M (a + 67) t q else if q = a + 133 then some (zR (G.2.1 5) 6 (hoH a hi)) else if q = a + 134 then some (zR (G.2.1 5) 2 (hoS a)) else if q = a + 135 then some (zI (G.2.1 2) 2 (fun j => zb (sv j))) else if q < a + 138 then pdM G M (a + 136) sg pl q else if q < a + 144 then odK G M (a + 138) d q else if q < a + 540 then cbK G M (a + 144 + 66 * ((q - (a + 144)) / 66)) (hc ((q - (a + 144)) / 66)) q else cbK G M (a + 540 + 66 * ((q - (a + 540)) / 66)) (sc ((q - (a + 540)) / 66)) q
theorem ite_skip {α : Type} {p : Prop} [Decidable p] {x y z : α} (hp : ¬ p) : (if p then x else z) = (if p then y else z) := by rw [if_neg hp, if_neg hp]
theorem ite_els {α : Type} {p : Prop} [Decidable p] {x z w : α} (h : z = w) : (if p then x else z) = (if p then x else w) := by rw [h]
section HO
variable {G : zG} {M : zM} {a : Nat} {c t : zCl} {hc sc : Nat → zCl} {kp : Int32} {hi : Nat → Nat} {sv : Nat → Bool} {sg : Nat → Int32} {pl : Int32} {d : zOd}
theorem ho_out {q : Nat} (h : q < a ∨ a + 672 ≤ q) : hoM G M a c t hc sc kp hi sv sg pl d q = M q := if_pos h
theorem ho_o : hoM G M a c t hc sc kp hi sv sg pl d a = some (zO 5 (hoF a kp)) := by unfold hoM; rw [if_neg (by omega), if_pos rfl]
theorem ho_h : hoM G M a c t hc sc kp hi sv sg pl d (a + 133) = some (zR (G.2.1 5) 6 (hoH a hi)) := by unfold hoM; rw [if_neg (by omega), if_neg (by omega), if_neg (by omega), if_neg (by omega), if_pos rfl]
theorem ho_s : hoM G M a c t hc sc kp hi sv sg pl d (a + 134) = some (zR (G.2.1 5) 2 (hoS a)) := by unfold hoM; rw [if_neg (by omega), if_neg (by omega), if_neg (by omega), if_neg (by omega), if_neg (by omega), if_pos rfl]
theorem ho_v : hoM G M a c t hc sc kp hi sv sg pl d (a + 135) = some (zI (G.2.1 2) 2 (fun j => zb (sv j))) := by unfold hoM; rw [if_neg (by omega), if_neg (by omega), if_neg (by omega), if_neg (by omega), if_neg (by omega), if_neg (by omega), if_pos rfl]
theorem how_o (kp' : Int32) : zu (hoM G M a c t hc sc kp hi sv sg pl d) a (zO 5 (hoF a kp')) = hoM G M a c t hc sc kp' hi sv sg pl d := by
  funext q
  by_cases hq : q = a
  · subst hq; rw [zu_self]; unfold hoM; rw [if_neg (by omega), if_pos rfl]
  · rw [zu_ne _ _ hq]; exact ite_els (ite_skip hq)
theorem how_h (hi' : Nat → Nat) : zu (hoM G M a c t hc sc kp hi sv sg pl d) (a + 133) (zR (G.2.1 5) 6 (hoH a hi')) = hoM G M a c t hc sc kp hi' sv sg pl d := by
  funext q
  by_cases hq : q = (a + 133)
  · subst hq; rw [zu_self]; unfold hoM; rw [if_neg (by omega), if_neg (by omega), if_neg (by omega), if_neg (by omega), if_pos rfl]
  · rw [zu_ne _ _ hq]; exact ite_els (ite_els (ite_els (ite_els (ite_skip hq))))
theorem how_v (sv' : Nat → Bool) : zu (hoM G M a c t hc sc kp hi sv sg pl d) (a + 135) (zI (G.2.1 2) 2 (fun j => zb (sv' j))) = hoM G M a c t hc sc kp hi sv' sg pl d := by
  funext q
  by_cases hq : q = (a + 135)
  · subst hq; rw [zu_self]; unfold hoM; rw [if_neg (by omega), if_neg (by omega), if_neg (by omega), if_neg (by omega), if_neg (by omega), if_neg (by omega), if_pos rfl]
  · rw [zu_ne _ _ hq]; exact ite_els (ite_els (ite_els (ite_els (ite_els (ite_els (ite_skip hq))))))
theorem ite_split {α : Type} {p : Prop} [Decidable p] {x z w : α} (_ : True) (h : ¬ p → z = w) : (if p then x else z) = (if p then x else w) := by
  by_cases hp : p
  · rw [if_pos hp, if_pos hp]
  · rw [if_neg hp, if_neg hp, h hp]
theorem ho_c (c' : zCl) : cbK G (hoM G M a c t hc sc kp hi sv sg pl d) (a + 1) c' = hoM G M a c' t hc sc kp hi sv sg pl d := by
  funext q
  by_cases hq : a + 1 ≤ q ∧ q < a + 1 + 66
  · rw [ck_in _ M hq.1 hq.2]; unfold hoM; rw [if_neg (by omega), if_neg (by omega), if_pos (by omega)]
  · rw [ck_out (by omega)]
    unfold hoM
    refine ite_split trivial (fun g0 => ?_)
    refine ite_split trivial (fun g1 => ?_)
    exact ite_skip (by omega)
theorem ho_t (c' : zCl) : cbK G (hoM G M a c t hc sc kp hi sv sg pl d) (a + 67) c' = hoM G M a c c' hc sc kp hi sv sg pl d := by
  funext q
  by_cases hq : a + 67 ≤ q ∧ q < a + 67 + 66
  · rw [ck_in _ M hq.1 hq.2]; unfold hoM; rw [if_neg (by omega), if_neg (by omega), if_neg (by omega), if_pos (by omega)]
  · rw [ck_out (by omega)]
    unfold hoM
    refine ite_split trivial (fun g0 => ?_)
    refine ite_split trivial (fun g1 => ?_)
    refine ite_split trivial (fun g2 => ?_)
    exact ite_skip (by omega)
theorem ho_p (sg' : Nat → Int32) (pl' : Int32) : pdM G (hoM G M a c t hc sc kp hi sv sg pl d) (a + 136) sg' pl' = hoM G M a c t hc sc kp hi sv sg' pl' d := by
  funext q
  by_cases hq : a + 136 ≤ q ∧ q < a + 136 + 2
  · rw [pd_in _ M hq.1 hq.2]; unfold hoM; rw [if_neg (by omega), if_neg (by omega), if_neg (by omega), if_neg (by omega), if_neg (by omega), if_neg (by omega), if_neg (by omega), if_pos (by omega)]
  · rw [pd_out (by omega)]
    unfold hoM
    refine ite_split trivial (fun g0 => ?_)
    refine ite_split trivial (fun g1 => ?_)
    refine ite_split trivial (fun g2 => ?_)
    refine ite_split trivial (fun g3 => ?_)
    refine ite_split trivial (fun g4 => ?_)
    refine ite_split trivial (fun g5 => ?_)
    refine ite_split trivial (fun g6 => ?_)
    exact ite_skip (by omega)
theorem ho_d (d' : zOd) : odK G (hoM G M a c t hc sc kp hi sv sg pl d) (a + 138) d' = hoM G M a c t hc sc kp hi sv sg pl d' := by
  funext q
  by_cases hq : a + 138 ≤ q ∧ q < a + 138 + 6
  · rw [ok_in _ M hq.1 hq.2]; unfold hoM; rw [if_neg (by omega), if_neg (by omega), if_neg (by omega), if_neg (by omega), if_neg (by omega), if_neg (by omega), if_neg (by omega), if_neg (by omega), if_pos (by omega)]
  · rw [ok_out (by omega)]
    unfold hoM
    refine ite_split trivial (fun g0 => ?_)
    refine ite_split trivial (fun g1 => ?_)
    refine ite_split trivial (fun g2 => ?_)
    refine ite_split trivial (fun g3 => ?_)
    refine ite_split trivial (fun g4 => ?_)
    refine ite_split trivial (fun g5 => ?_)
    refine ite_split trivial (fun g6 => ?_)
    refine ite_split trivial (fun g7 => ?_)
    exact ite_skip (by omega)
theorem ho_hc {J : Nat} (hJ : J < 6) (c' : zCl) : cbK G (hoM G M a c t hc sc kp hi sv sg pl d) (a + 144 + 66 * J) c' = hoM G M a c t (va_up hc J c') sc kp hi sv sg pl d := by
  funext q
  by_cases hq : a + 144 + 66 * J ≤ q ∧ q < a + 144 + 66 * J + 66
  · rw [ck_in _ M hq.1 hq.2]; unfold hoM; rw [if_neg (by omega), if_neg (by omega), if_neg (by omega), if_neg (by omega), if_neg (by omega), if_neg (by omega), if_neg (by omega), if_neg (by omega), if_neg (by omega), if_pos (by omega), show (q - (a + 144)) / 66 = J by omega, va_up_self]
  · rw [ck_out (by omega)]
    unfold hoM
    refine ite_split trivial (fun g0 => ?_)
    refine ite_split trivial (fun g1 => ?_)
    refine ite_split trivial (fun g2 => ?_)
    refine ite_split trivial (fun g3 => ?_)
    refine ite_split trivial (fun g4 => ?_)
    refine ite_split trivial (fun g5 => ?_)
    refine ite_split trivial (fun g6 => ?_)
    refine ite_split trivial (fun g7 => ?_)
    refine ite_split trivial (fun g8 => ?_)
    by_cases h1 : q < a + 540
    · rw [if_pos h1, if_pos h1, va_up_ne _ _ (show (q - (a + 144)) / 66 ≠ J by omega)]
    · rw [if_neg h1, if_neg h1]
theorem ho_sc {J : Nat} (hJ : J < 2) (c' : zCl) : cbK G (hoM G M a c t hc sc kp hi sv sg pl d) (a + 540 + 66 * J) c' = hoM G M a c t hc (va_up sc J c') kp hi sv sg pl d := by
  funext q
  by_cases hq : a + 540 + 66 * J ≤ q ∧ q < a + 540 + 66 * J + 66
  · rw [ck_in _ M hq.1 hq.2]; unfold hoM; rw [if_neg (by omega), if_neg (by omega), if_neg (by omega), if_neg (by omega), if_neg (by omega), if_neg (by omega), if_neg (by omega), if_neg (by omega), if_neg (by omega), if_neg (by omega), show (q - (a + 540)) / 66 = J by omega, va_up_self]
  · rw [ck_out (by omega)]
    unfold hoM
    refine ite_split trivial (fun g0 => ?_)
    refine ite_split trivial (fun g1 => ?_)
    refine ite_split trivial (fun g2 => ?_)
    refine ite_split trivial (fun g3 => ?_)
    refine ite_split trivial (fun g4 => ?_)
    refine ite_split trivial (fun g5 => ?_)
    refine ite_split trivial (fun g6 => ?_)
    refine ite_split trivial (fun g7 => ?_)
    refine ite_split trivial (fun g8 => ?_)
    refine ite_split trivial (fun g9 => ?_)
    rw [va_up_ne _ _ (show (q - (a + 540)) / 66 ≠ J by omega)]
theorem ho_hcs {J : Nat} (hJ : J < 6) : cbK G (hoM G M a c t hc sc kp hi sv sg pl d) (a + 144 + 66 * J) (hc J) = hoM G M a c t hc sc kp hi sv sg pl d := by rw [ho_hc hJ, va_up_same]
theorem ho_scs {J : Nat} (hJ : J < 2) : cbK G (hoM G M a c t hc sc kp hi sv sg pl d) (a + 540 + 66 * J) (sc J) = hoM G M a c t hc sc kp hi sv sg pl d := by rw [ho_sc hJ, va_up_same]
end HO
section HO2
variable {G : zG} {M : zM} {a : Nat} {c t : zCl} {hc sc : Nat → zCl} {kp : Int32} {hi : Nat → Nat} {sv : Nat → Bool} {sg : Nat → Int32} {pl : Int32} {d : zOd}
theorem ho_cI : cbK G (hoM G M a c t hc sc kp hi sv sg pl d) (a + 1) c = hoM G M a c t hc sc kp hi sv sg pl d := ho_c c
theorem ho_tI : cbK G (hoM G M a c t hc sc kp hi sv sg pl d) (a + 67) t = hoM G M a c t hc sc kp hi sv sg pl d := ho_t t
theorem ho_pI : pdM G (hoM G M a c t hc sc kp hi sv sg pl d) (a + 136) sg pl = hoM G M a c t hc sc kp hi sv sg pl d := ho_p sg pl
theorem ho_dI : odK G (hoM G M a c t hc sc kp hi sv sg pl d) (a + 138) d = hoM G M a c t hc sc kp hi sv sg pl d := ho_d d
theorem ho_wc (c' : zCl) {q : Nat} {e : va_E} (h : zu (cbK G (hoM G M a c t hc sc kp hi sv sg pl d) (a + 1) c) q e = cbK G (hoM G M a c t hc sc kp hi sv sg pl d) (a + 1) c') : zu (hoM G M a c t hc sc kp hi sv sg pl d) q e = hoM G M a c' t hc sc kp hi sv sg pl d := by rw [ho_cI, ho_c] at h; exact h
theorem ho_wt (c' : zCl) {q : Nat} {e : va_E} (h : zu (cbK G (hoM G M a c t hc sc kp hi sv sg pl d) (a + 67) t) q e = cbK G (hoM G M a c t hc sc kp hi sv sg pl d) (a + 67) c') : zu (hoM G M a c t hc sc kp hi sv sg pl d) q e = hoM G M a c c' hc sc kp hi sv sg pl d := by rw [ho_tI, ho_t] at h; exact h
theorem ho_wd (c' : zOd) {q : Nat} {e : va_E} (h : zu (odK G (hoM G M a c t hc sc kp hi sv sg pl d) (a + 138) d) q e = odK G (hoM G M a c t hc sc kp hi sv sg pl d) (a + 138) c') : zu (hoM G M a c t hc sc kp hi sv sg pl d) q e = hoM G M a c t hc sc kp hi sv sg pl c' := by rw [ho_dI, ho_d] at h; exact h
theorem ho_wp (sg' : Nat → Int32) (pl' : Int32) {q : Nat} {e : va_E} (h : zu (pdM G (hoM G M a c t hc sc kp hi sv sg pl d) (a + 136) sg pl) q e = pdM G (hoM G M a c t hc sc kp hi sv sg pl d) (a + 136) sg' pl') : zu (hoM G M a c t hc sc kp hi sv sg pl d) q e = hoM G M a c t hc sc kp hi sv sg' pl' d := by rw [ho_pI, ho_p] at h; exact h
theorem ho_rc {q : Nat} {e : va_E} (h : cbK G (hoM G M a c t hc sc kp hi sv sg pl d) (a + 1) c q = some e) : hoM G M a c t hc sc kp hi sv sg pl d q = some e := by rw [ho_cI] at h; exact h
theorem ho_rt {q : Nat} {e : va_E} (h : cbK G (hoM G M a c t hc sc kp hi sv sg pl d) (a + 67) t q = some e) : hoM G M a c t hc sc kp hi sv sg pl d q = some e := by rw [ho_tI] at h; exact h
theorem ho_rd {q : Nat} {e : va_E} (h : odK G (hoM G M a c t hc sc kp hi sv sg pl d) (a + 138) d q = some e) : hoM G M a c t hc sc kp hi sv sg pl d q = some e := by rw [ho_dI] at h; exact h
theorem ho_rp {q : Nat} {e : va_E} (h : pdM G (hoM G M a c t hc sc kp hi sv sg pl d) (a + 136) sg pl q = some e) : hoM G M a c t hc sc kp hi sv sg pl d q = some e := by rw [ho_pI] at h; exact h
theorem ho_rh {J : Nat} (hJ : J < 6) : hoM G M a c t hc sc kp hi sv sg pl d (a + 144 + 66 * J) = some (zO 0 (cbF (a + 144 + 66 * J) (hc J).dy (hc J).x (nI (hc J).un) (hc J).op)) := by
  have h : cbK G (hoM G M a c t hc sc kp hi sv sg pl d) (a + 144 + 66 * J) (hc J) (a + 144 + 66 * J) = some (zO 0 (cbF (a + 144 + 66 * J) (hc J).dy (hc J).x (nI (hc J).un) (hc J).op)) := cb_o
  rw [ho_hcs hJ] at h; exact h
end HO2
theorem ho_pcs {G : zG} {M : zM} {a : Nat} {c t : zCl} {hc sc : Nat → zCl} {kp : Int32} {hi : Nat → Nat} {sv : Nat → Bool} {sg : Nat → Int32} {pl : Int32} {d : zOd} {j : Nat} (hj : j < 5) : pcM G (hoM G M a c t hc sc kp hi sv sg pl d) (a + 1 + 26 + 8 * j) (c.cn j) (c.vl j) (c.du j) (c.io j) = hoM G M a c t hc sc kp hi sv sg pl d := by
  have h := cb_pcs (G := G) (M := hoM G M a c t hc sc kp hi sv sg pl d) (b := a + 1) (st := c.st) (dy := c.dy) (x := c.x) (br := c.br) (sp := c.sp) (wa := c.wa) (ac := c.ac) (ps := c.ps) (pp := c.pp) (pu := c.pu) (lo := c.lo) (un := nI c.un) (op := c.op) (pi := c.pi) (cn := c.cn) (vl := c.vl) (du := c.du) (io := c.io) (hp := c.hp) (hs := c.hs) hj
  have e : cbM G (hoM G M a c t hc sc kp hi sv sg pl d) (a + 1) c.st c.dy c.x c.br c.sp c.wa c.ac c.ps c.pp c.pu c.lo (nI c.un) c.op c.pi c.cn c.vl c.du c.io c.hp c.hs = hoM G M a c t hc sc kp hi sv sg pl d := ho_cI
  rw [e] at h
  exact h
