/-! what was paid in, and where it went -/
def iS (f : Nat → Int32) : Int := isum (fun k => (f k).toInt) 6
/-- U: at least what the parcels that may yet be opened are worth; P: paid in; E: changes -/
def yAw (c : zCl) (U P E : Int) : Prop :=
  (∀ m, m < 6 → 0 ≤ (c.ps m).toInt ∧ 0 ≤ (c.pp m).toInt ∧ 0 ≤ (c.pu m).toInt) ∧ (∀ m, m < 6 → -(900 * E) - (iS c.ps + iS c.pp + iS c.pu) ≤ (c.ac m).toInt ∧ (c.ac m).toInt ≤ P + 900 * E) ∧ iS c.ac + iS c.ps + iS c.pp + iS c.pu = P ∧ iS c.ps + iS c.pp ≤ P ∧ 2 * iS c.pu + U ≤ iS c.ps ∧ 0 ≤ U ∧ 0 ≤ E ∧ E ≤ 30 ∧ P ≤ 5400 + 1000 * E
theorem yAw_ext {c c' : zCl} {U P E : Int} (h : yAw c U P E) (e1 : c'.ac = c.ac) (e2 : c'.ps = c.ps) (e3 : c'.pp = c.pp) (e4 : c'.pu = c.pu) : yAw c' U P E := by
  unfold yAw at h ⊢
  rw [e1, e2, e3, e4]; exact h
theorem yAw_U {c : zCl} {U U' P E : Int} (h : yAw c U P E) (h0 : 0 ≤ U') (hU : U' ≤ U) : yAw c U' P E := by
  obtain ⟨a1, a2, a3, a4, a5, a6, a7, a8, a9⟩ := h
  exact ⟨a1, a2, a3, a4, by omega, h0, a7, a8, a9⟩
theorem yAw_E {c : zCl} {U P E E' : Int} (h : yAw c U P E) (hE : E ≤ E') (h30 : E' ≤ 30) : yAw c U P E' := by
  obtain ⟨a1, a2, a3, a4, a5, a6, a7, a8, a9⟩ := h
  exact ⟨a1, fun m hm => by obtain ⟨b1, b2⟩ := a2 m hm; constructor <;> omega, a3, a4, a5, a6, by omega, h30, by omega⟩
theorem iS_le {f : Nat → Int32} (h : ∀ k, k < 6 → 0 ≤ (f k).toInt) {m : Nat} (hm : m < 6) : (f m).toInt ≤ iS f := isum_le1 (f := fun k => (f k).toInt) h hm
theorem iS_nn {f : Nat → Int32} (h : ∀ k, k < 6 → 0 ≤ (f k).toInt) : 0 ≤ iS f := isum_nn (f := fun k => (f k).toInt) h
/-- all numbers are small -/
theorem yAw_bd {c : zCl} {U P E : Int} (h : yAw c U P E) : (0 ≤ iS c.ps ∧ 0 ≤ iS c.pp ∧ 0 ≤ iS c.pu ∧ iS c.ps + iS c.pp ≤ 35400 ∧ iS c.pu ≤ 17700 ∧ P ≤ 35400) ∧ ∀ m, m < 6 → (0 ≤ (c.ps m).toInt ∧ (c.ps m).toInt ≤ 35400) ∧ (0 ≤ (c.pp m).toInt ∧ (c.pp m).toInt ≤ 35400) ∧ (0 ≤ (c.pu m).toInt ∧ (c.pu m).toInt ≤ 17700) ∧ -81000 ≤ (c.ac m).toInt ∧ (c.ac m).toInt ≤ 63000 := by
  obtain ⟨a1, a2, a3, a4, a5, a6, a7, a8, a9⟩ := h
  have s1 := iS_nn (f := c.ps) (fun k hk => (a1 k hk).1)
  have s2 := iS_nn (f := c.pp) (fun k hk => (a1 k hk).2.1)
  have s3 := iS_nn (f := c.pu) (fun k hk => (a1 k hk).2.2)
  refine ⟨⟨s1, s2, s3, by omega, by omega, by omega⟩, fun m hm => ?_⟩
  have l1 := iS_le (f := c.ps) (fun k hk => (a1 k hk).1) hm
  have l2 := iS_le (f := c.pp) (fun k hk => (a1 k hk).2.1) hm
  have l3 := iS_le (f := c.pu) (fun k hk => (a1 k hk).2.2) hm
  obtain ⟨b1, b2, b3⟩ := a1 m hm
  obtain ⟨d1, d2⟩ := a2 m hm
  refine ⟨⟨b1, by omega⟩, ⟨b2, by omega⟩, ⟨b3, by omega⟩, by omega, by omega⟩
/-- all accounts are moved by what is paid -/
theorem yAw_move {c c' : zCl} {U U' P E : Int} {a b g : Nat → Int} (h : yAw c U P E) (ha : ∀ m, m < 6 → 0 ≤ a m ∧ a m ≤ 60000) (hb : ∀ m, m < 6 → 0 ≤ b m ∧ b m ≤ 60000) (hg : ∀ m, m < 6 → 0 ≤ g m ∧ g m ≤ 60000)
    (e1 : ∀ m, m < 6 → (c'.ac m).toInt = (c.ac m).toInt - (a m + b m + g m)) (e2 : ∀ m, m < 6 → (c'.ps m).toInt = (c.ps m).toInt + a m) (e3 : ∀ m, m < 6 → (c'.pp m).toInt = (c.pp m).toInt + b m) (e4 : ∀ m, m < 6 → (c'.pu m).toInt = (c.pu m).toInt + g m)
    (hP : iS c.ps + iS c.pp + (isum a 6 + isum b 6) ≤ P) (hU : 2 * isum g 6 + U' ≤ isum a 6 + U) (hU0 : 0 ≤ U') : yAw c' U' P E := by
  obtain ⟨a1, a2, a3, a4, a5, a6, a7, a8, a9⟩ := h
  have f1 : iS c'.ac = iS c.ac - (isum a 6 + isum b 6 + isum g 6) := by
    unfold iS
    rw [isum_congr (g := fun k => (c.ac k).toInt - (a k + b k + g k)) e1, isum_minus, isum_plus (fun k => a k + b k) g, isum_plus a b]
  have f2 : iS c'.ps = iS c.ps + isum a 6 := by
    unfold iS
    rw [isum_congr (g := fun k => (c.ps k).toInt + a k) e2, isum_plus]
  have f3 : iS c'.pp = iS c.pp + isum b 6 := by
    unfold iS
    rw [isum_congr (g := fun k => (c.pp k).toInt + b k) e3, isum_plus]
  have f4 : iS c'.pu = iS c.pu + isum g 6 := by
    unfold iS
    rw [isum_congr (g := fun k => (c.pu k).toInt + g k) e4, isum_plus]
  have na := isum_nn (f := a) (n := 6) (fun k hk => (ha k hk).1)
  have nb := isum_nn (f := b) (n := 6) (fun k hk => (hb k hk).1)
  have ng := isum_nn (f := g) (n := 6) (fun k hk => (hg k hk).1)
  refine ⟨fun m hm => ?_, fun m hm => ?_, by omega, by omega, by omega, hU0, a7, a8, a9⟩
  · rw [e2 m hm, e3 m hm, e4 m hm]
    have := a1 m hm; have := ha m hm; have := hb m hm; have := hg m hm
    omega
  · rw [e1 m hm, f2, f3, f4]
    have := a2 m hm; have := ha m hm; have := hb m hm; have := hg m hm
    have l1 := isum_le1 (f := a) (n := 6) (fun k hk => (ha k hk).1) hm
    have l2 := isum_le1 (f := b) (n := 6) (fun k hk => (hb k hk).1) hm
    have l3 := isum_le1 (f := g) (n := 6) (fun k hk => (hg k hk).1) hm
    omega
/-! the duty -/
theorem zDutyC_half {st : Nat → Int32} {v : Int32} (hv : zRg v 0 100000) (h5 : 0 ≤ (st 5).toInt ∧ (st 5).toInt ≤ 500) (h6 : 0 ≤ (st 6).toInt ∧ (st 6).toInt ≤ 50) : 2 * (zDutyC st v).toInt ≤ v.toInt := by
  obtain ⟨v1, v2⟩ := hv
  have e := zg_sub (a := v) (b := st 5) (by omega) (by omega)
  have a1 : (nI 100).toInt = 100 := nI_toInt (by omega)
  have z0 : (nI 0).toInt = 0 := rfl
  have key : zRg (if v - st 5 < nI 0 then nI 0 else v - st 5) 0 v.toInt := by
    split
    · exact zRg_0 (by omega)
    · rename_i q
      rw [Int32.lt_iff_toInt_lt] at q
      unfold zRg; omega
  have hm := zg_mulB (A := 100000) (B := 50) (zRg_le key (by omega)) h6 (by omega) (by omega)
  obtain ⟨m1, m2⟩ := hm
  obtain ⟨k1, k2⟩ := key
  have m3 : (if v - st 5 < nI 0 then nI 0 else v - st 5).toInt * (st 6).toInt ≤ v.toInt * 50 := Int.mul_le_mul k2 h6.2 h6.1 v1
  have m4 : (if v - st 5 < nI 0 then nI 0 else v - st 5).toInt * (st 6).toInt ≤ 100000 * 50 := Int.mul_le_mul (by omega) h6.2 h6.1 (by omega)
  have m5 := Int.mul_nonneg k1 h6.1
  have e2 : ((if v - st 5 < nI 0 then nI 0 else v - st 5) * st 6).toInt = (if v - st 5 < nI 0 then nI 0 else v - st 5).toInt * (st 6).toInt := zg_mul (by omega) (by omega)
  unfold zDutyC
  rw [Int32.toInt_div, a1, Int.tdiv_eq_ediv_of_nonneg m1, zg_bm (by omega) (by omega)]
  rw [e2]
  omega
section DU
variable {c : zCl} {J : Nat} {U P E D K : Int}
theorem zPayC_aw (h : yAw c U P E) (h5 : 0 ≤ (c.st 5).toInt ∧ (c.st 5).toInt ≤ 500) (h6 : 0 ≤ (c.st 6).toInt ∧ (c.st 6).toInt ≤ 50) (hc : ∀ m, m < 6 → ∀ g, g < 8 → zRg (c.cn J m g) 0 20) (hv : zRg (c.vl J) 0 100000) (hpos : 0 < (zPie (c.cn J)).toInt) (hU : (c.vl J).toInt ≤ U) : yAw (zPayC c J) (U - (c.vl J).toInt) P E := by
  have ha := zDutyC_rg hv h5 h6
  have hh := zDutyC_half hv h5 h6
  have ht : ∀ m, m < 6 → zRg (zC0 c.hp (zFpP c.cn J) 6 m) 0 7200 := fun m hm => by rw [zC0_lt hm]; exact (zFp_rg hc hm).2
  have hT : 0 < (lsum (zC0 c.hp (zFpP c.cn J) 6) 6).toInt := by rw [zC0_sum]; exact zFp_pos hc hpos
  obtain ⟨-, bd⟩ := yAw_bd h
  have hg := fun m hm => zGet_rg ha ht hT (m := m) hm
  have e1 : (zPayC c J).ac = zC0 c.ac (zSubF c.ac (zGets (zDutyC c.st (c.vl J)) (zC0 c.hp (zFpP c.cn J) 6) c.hs)) 6 := by unfold zPayC; rw [zpq_ac]
  have e2 : (zPayC c J).ps = c.ps := by unfold zPayC; rw [zpq_ps]
  have e3 : (zPayC c J).pp = c.pp := by unfold zPayC; rw [zpq_pp]
  have e4 : (zPayC c J).pu = zC0 c.pu (zAdd c.pu (zGets (zDutyC c.st (c.vl J)) (zC0 c.hp (zFpP c.cn J) 6) c.hs)) 6 := by unfold zPayC; rw [zpq_pu]
  have hs := zGet_isum ha ht hT
  have hv1 := hv.1
  refine yAw_move (a := fun _ => 0) (b := fun _ => 0) (g := fun m => (zGet (zDutyC c.st (c.vl J)) (zC0 c.hp (zFpP c.cn J) 6) m).toInt) h (fun m hm => by omega) (fun m hm => by omega) (fun m hm => ?_) (fun m hm => ?_) (fun m hm => ?_) (fun m hm => ?_) (fun m hm => ?_) ?_ ?_ (by omega)
  · obtain ⟨g1, g2⟩ := hg m hm; omega
  · obtain ⟨g1, g2⟩ := hg m hm
    obtain ⟨-, -, -, b1, b2⟩ := bd m hm
    rw [e1, zC0_lt hm]
    show (c.ac m - zGets (zDutyC c.st (c.vl J)) (zC0 c.hp (zFpP c.cn J) 6) c.hs m).toInt = _
    rw [zGets_at _ _ _ hm, zg_sub (by omega) (by omega)]
    omega
  · rw [e2]; omega
  · rw [e3]; omega
  · obtain ⟨g1, g2⟩ := hg m hm
    obtain ⟨-, -, ⟨b1, b2⟩, -, -⟩ := bd m hm
    rw [e4, zC0_lt hm]
    show (c.pu m + zGets (zDutyC c.st (c.vl J)) (zC0 c.hp (zFpP c.cn J) 6) c.hs m).toInt = _
    rw [zGets_at _ _ _ hm, zg_add (by omega) (by omega)]
  · have := h.2.2.2.1
    show iS c.ps + iS c.pp + (0 + 0) ≤ P
    omega
  · show 2 * isum (fun m => (zGet (zDutyC c.st (c.vl J)) (zC0 c.hp (zFpP c.cn J) 6) m).toInt) 6 + (U - (c.vl J).toInt) ≤ 0 + U
    rw [hs]; omega
/-- what a parcel may yet cost -/
def yTm (c : zCl) (J : Nat) : Int := if c.io J = true then 0 else (c.vl J).toInt
theorem zOa_aw (h : yAw c U P E) (h5 : 0 ≤ (c.st 5).toInt ∧ (c.st 5).toInt ≤ 500) (h6 : 0 ≤ (c.st 6).toInt ∧ (c.st 6).toInt ≤ 50) (hc : ∀ m, m < 6 → ∀ g, g < 8 → zRg (c.cn J m g) 0 20) (hv : zRg (c.vl J) 0 100000) (hpos : 0 < (zPie (c.cn J)).toInt) (hU : (c.vl J).toInt ≤ U) : yAw (zOa c J) (U - (c.vl J).toInt) P E := by
  have key : yAw (zOa1 c J) (U - (c.vl J).toInt) P E := by
    have h1 : yAw (zCl.mk c.st c.dy c.x c.br c.sp c.wa c.ac c.ps c.pp c.pu c.lo c.un (c.op + nI 1) c.pi c.cn c.vl (va_up c.du J (c.dy + c.st 4)) (va_up c.io J true) c.hp c.hs) U P E := yAw_ext h (by rw [zpq_ac]) (by rw [zpq_ps]) (by rw [zpq_pp]) (by rw [zpq_pu])
    have := zPayC_aw (c := (zCl.mk c.st c.dy c.x c.br c.sp c.wa c.ac c.ps c.pp c.pu c.lo c.un (c.op + nI 1) c.pi c.cn c.vl (va_up c.du J (c.dy + c.st 4)) (va_up c.io J true) c.hp c.hs)) (J := J) h1 (by rw [zpq_st]; exact h5) (by rw [zpq_st]; exact h6) (by rw [zpq_cn]; exact hc) (by rw [zpq_vl]; exact hv) (by rw [zpq_cn]; exact hpos) (by rw [zpq_vl]; exact hU)
    rw [zpq_vl] at this
    exact this
  unfold zOa
  split
  · exact yAw_ext key (by unfold zOaL; rw [zpq_ac]) (by unfold zOaL; rw [zpq_ps]) (by unfold zOaL; rw [zpq_pp]) (by unfold zOaL; rw [zpq_pu])
  · exact yAw_ext key (by unfold zOaN; rw [zpq_ac]) (by unfold zOaN; rw [zpq_ps]) (by unfold zOaN; rw [zpq_pp]) (by unfold zOaN; rw [zpq_pu])
theorem yTm_nn (hv : zRg (c.vl J) 0 100000) : 0 ≤ yTm c J := by
  unfold yTm; split
  · exact Int.le_refl _
  · exact hv.1
theorem zCome_aw {e0 : Int} (h : yAw c U P E) (hI : zI1 c D) (hp : zIp c J e0 K) (hU : yTm c J ≤ U) : yAw (zCome c J) (U - yTm c J) P E := by
  obtain ⟨-, -, -, -, -, h5, h6, -, -⟩ := zSt_rg hI
  obtain ⟨p1, p2, p3, p4, p5⟩ := hp
  unfold yTm at hU ⊢
  unfold zCome
  by_cases hio : c.io J = true
  · rw [if_pos hio, if_pos hio]
    exact yAw_U h (by rw [if_pos hio] at hU; omega) (by omega)
  · rw [if_neg hio, if_neg hio]
    rw [if_neg hio] at hU
    have hx : yAw (zCl.mk c.st c.dy (zNx c.x) c.br c.sp c.wa c.ac c.ps c.pp c.pu c.lo c.un c.op c.pi c.cn c.vl c.du c.io c.hp c.hs) U P E := yAw_ext h (by rw [zpq_ac]) (by rw [zpq_ps]) (by rw [zpq_pp]) (by rw [zpq_pu])
    split
    · have := zOa_aw (c := (zCl.mk c.st c.dy (zNx c.x) c.br c.sp c.wa c.ac c.ps c.pp c.pu c.lo c.un c.op c.pi c.cn c.vl c.du c.io c.hp c.hs)) (J := J) hx (by rw [zpq_st]; exact h5) (by rw [zpq_st]; exact h6) (by rw [zpq_cn]; exact p1) (by rw [zpq_vl]; exact p2) (by rw [zpq_cn]; exact p5 (Bool.eq_false_iff.mpr hio)) (by rw [zpq_vl]; exact hU)
      rw [zpq_vl] at this
      exact this
    · exact yAw_U hx (by omega) (by have := p2.1; omega)
end DU
/-! a day -/
def yUn (c : zCl) (n : Nat) (ix : Nat → Nat) : Int := isum (fun q => yTm c (c.pi (ix q))) n
def yUo (c : zCl) : Int := yUn c c.un (fun p => p)
def zAv (c : zCl) (P E : Int) : Prop := yAw c (yUo c) P E
theorem yTm_ext {c c' : zCl} {J J' : Nat} (e1 : c'.io J' = c.io J) (e2 : c'.vl J' = c.vl J) : yTm c' J' = yTm c J := by
  unfold yTm; rw [e1, e2]
section AD
variable {un : Nat} {dy : Int32} {D K P E : Int} {k : Nat} {cl : zCl} {st : Nat} {e : zQd}
theorem zIx_st (h : st ≤ k) : zIx k st st = k := by unfold zIx; rw [if_neg (by omega)]; omega
theorem zBd1_aw (h5 : un ≤ 5) (hD : zDI un dy D K k cl st e) (hk : k < un) (h : yAw cl (yUn cl (un - (k - st)) (zIx k st)) P E) : yAw (zBd1 k (cl, st)).1 (yUn (zBd1 k (cl, st)).1 (un - (k + 1 - (zBd1 k (cl, st)).2)) (zIx (k + 1) (zBd1 k (cl, st)).2)) P E := by
  obtain ⟨hst, -, -, -, -, -, hun, hdy, hpi, hI, h1, h2⟩ := hD
  have hix := zIx_st hst
  have hp : st < un - (k - st) := by omega
  have hJ := h2 k (Nat.le_refl _) hk
  have hlt : ∀ q, q < un - (k - st) → zIx k st q < un ∧ (q ≠ st → zIx k st q ≠ k) := by
    intro q hq; unfold zIx; split <;> constructor <;> omega
  have hvl : ∀ q, q < un - (k - st) → zRg (cl.vl (cl.pi (zIx k st q))) 0 100000 := by
    intro q hq
    by_cases z : q < st
    · have e : zIx k st q = q := by unfold zIx; rw [if_pos z]
      rw [e]; exact (h1 q z).2.1
    · have e : zIx k st q = q + (k - st) := by unfold zIx; rw [if_neg z]
      rw [e]; exact (h2 _ (by omega) (by omega)).2.1
  have hnn : ∀ q, q < un - (k - st) → 0 ≤ yTm cl (cl.pi (zIx k st q)) := fun q hq => yTm_nn (hvl q hq)
  have hle : yTm cl (cl.pi k) ≤ yUn cl (un - (k - st)) (zIx k st) := by
    have := isum_le1 (f := fun q => yTm cl (cl.pi (zIx k st q))) hnn hp
    rw [hix] at this
    exact this
  have hne : ∀ q, q < un - (k - st) → q ≠ st → cl.pi (zIx k st q) ≠ cl.pi k := by
    intro q hq hq2 z
    obtain ⟨a1, a2⟩ := hlt q hq
    exact a2 hq2 (hpi.2 _ _ (by omega) (by omega) z)
  -- one that goes home: its place is left out
  have home : ∀ c' : zCl, c'.pi = cl.pi → c'.vl = cl.vl → (∀ J', J' ≠ cl.pi k → c'.io J' = cl.io J') → yUn c' (un - (k + 1 - st)) (zIx (k + 1) st) = yUn cl (un - (k - st)) (zIx k st) - yTm cl (cl.pi k) := by
    intro c' e1 e2 e3
    have hs := isum_skip (fun q => yTm cl (cl.pi (zIx k st q))) (i := st) (n := un - (k + 1 - st)) (by omega)
    rw [show un - (k + 1 - st) + 1 = un - (k - st) by omega] at hs
    rw [hix] at hs
    unfold yUn
    rw [← hs]
    refine isum_congr (fun q hq => ?_)
    have ei : zIx (k + 1) st q = zIx k st (if q < st then q else q + 1) := by
      unfold zIx
      by_cases z : q < st
      · rw [if_pos z, if_pos z, if_pos z]
      · rw [if_neg z, if_neg z, if_neg (by omega)]; omega
    show yTm c' (c'.pi (zIx (k + 1) st q)) = yTm cl (cl.pi (zIx k st (if q < st then q else q + 1)))
    rw [ei, e1]
    refine yTm_ext (e3 _ ?_) (by rw [e2])
    exact hne _ (by split <;> omega) (by split <;> omega)
  by_cases hdue : cl.du (cl.pi k) = cl.dy
  · have hC := zCome_aw h hI hJ hle
    have p1 := zCome_pi cl (cl.pi k)
    have v1 := zCome_vl cl (cl.pi k)
    by_cases eB : zComeB cl (cl.pi k) = true
    · have e1 : zBd1 k (cl, st) = (zUnp (zCome cl (cl.pi k)) (cl.pi k), st) := (if_pos hdue).trans (if_pos eB)
      rw [e1]
      dsimp only
      have := home (zUnp (zCome cl (cl.pi k)) (cl.pi k)) (by unfold zUnp; rw [zpq_pi]; exact p1) (by unfold zUnp; rw [zpq_vl]; exact v1) (fun J' hJ' => by unfold zUnp; rw [zpq_io]; exact (zCome_oth hJ').2.2)
      rw [this]
      exact yAw_ext hC (by unfold zUnp; rw [zpq_ac]) (by unfold zUnp; rw [zpq_ps]) (by unfold zUnp; rw [zpq_pp]) (by unfold zUnp; rw [zpq_pu])
    · have eB' : zComeB cl (cl.pi k) = false := Bool.eq_false_iff.mpr eB
      have e1 : zBd1 k (cl, st) = (zSwp (zCome cl (cl.pi k)) k st, st + 1) := (if_pos hdue).trans (if_neg eB)
      obtain ⟨-, s2, -, s4⟩ := zCome_stay eB'
      rw [e1]
      dsimp only
      have eU : yUn (zSwp (zCome cl (cl.pi k)) k st) (un - (k + 1 - (st + 1))) (zIx (k + 1) (st + 1)) = yUn cl (un - (k - st)) (zIx k st) - yTm cl (cl.pi k) := by
        rw [show un - (k + 1 - (st + 1)) = un - (k - st) by omega]
        unfold yUn
        have hset := isum_set (f := fun q => yTm cl (cl.pi (zIx k st q))) (g := fun q => yTm (zSwp (zCome cl (cl.pi k)) k st) ((zSwp (zCome cl (cl.pi k)) k st).pi (zIx (k + 1) (st + 1) q))) hp (fun q hq hq2 => by
          show yTm (zSwp (zCome cl (cl.pi k)) k st) ((zSwp (zCome cl (cl.pi k)) k st).pi (zIx (k + 1) (st + 1) q)) = yTm cl (cl.pi (zIx k st q))
          rw [zSwp_at (cl := zCome cl (cl.pi k)) hst hk q hq, p1]
          refine yTm_ext ?_ ?_
          · unfold zSwp; rw [zpq_io]; exact (zCome_oth (hne q hq hq2)).2.2
          · unfold zSwp; rw [zpq_vl, v1])
        rw [hset]
        have t0 : yTm (zSwp (zCome cl (cl.pi k)) k st) ((zSwp (zCome cl (cl.pi k)) k st).pi (zIx (k + 1) (st + 1) st)) = 0 := by
          rw [zSwp_at (cl := zCome cl (cl.pi k)) hst hk st hp, p1, hix]
          unfold yTm zSwp
          rw [zpq_io, if_pos s2]
        rw [t0, hix]
        omega
      rw [eU]
      exact yAw_ext hC (by unfold zSwp; rw [zpq_ac]) (by unfold zSwp; rw [zpq_ps]) (by unfold zSwp; rw [zpq_pp]) (by unfold zSwp; rw [zpq_pu])
  · have e1 : zBd1 k (cl, st) = (zSwp cl k st, st + 1) := if_neg hdue
    rw [e1]
    dsimp only
    have eU : yUn (zSwp cl k st) (un - (k + 1 - (st + 1))) (zIx (k + 1) (st + 1)) = yUn cl (un - (k - st)) (zIx k st) := by
      rw [show un - (k + 1 - (st + 1)) = un - (k - st) by omega]
      unfold yUn
      refine isum_congr (fun q hq => ?_)
      rw [zSwp_at hst hk q hq]
      exact yTm_ext (by unfold zSwp; rw [zpq_io]) (by unfold zSwp; rw [zpq_vl])
    rw [eU]
    exact yAw_ext h (by unfold zSwp; rw [zpq_ac]) (by unfold zSwp; rw [zpq_ps]) (by unfold zSwp; rw [zpq_pp]) (by unfold zSwp; rw [zpq_pu])
end AD
theorem zBdL_aw {c : zCl} {s : Nat → Int32} {D K P E : Int} (h : zOcD c s D K) (hD : D ≤ 90000) (hA : zAv c P E) : ∀ k, k ≤ c.un → yAw (zBdL (zDayC c) k).1 (yUn (zBdL (zDayC c) k).1 (c.un - (k - (zBdL (zDayC c) k).2)) (zIx k (zBdL (zDayC c) k).2)) P E
  | 0, _ => by
    have e0 : zBdL (zDayC c) 0 = (zDayC c, 0) := rfl
    rw [e0]
    have hix : zIx 0 0 = fun p => p := by funext q; unfold zIx; rw [if_neg (by omega)]; rfl
    dsimp only
    rw [hix]
    have eU : yUn (zDayC c) (c.un - (0 - 0)) (fun p => p) = yUo c := by
      rw [show c.un - (0 - 0) = c.un by omega]
      unfold yUo yUn
      refine isum_congr (fun q hq => ?_)
      have ep : (zDayC c).pi = c.pi := by unfold zDayC; rw [zpq_pi]
      rw [ep]
      exact yTm_ext (by unfold zDayC; rw [zpq_io]) (by unfold zDayC; rw [zpq_vl])
    rw [eU]
    exact yAw_ext hA (by unfold zDayC; rw [zpq_ac]) (by unfold zDayC; rw [zpq_ps]) (by unfold zDayC; rw [zpq_pp]) (by unfold zDayC; rw [zpq_pu])
  | k + 1, hk => by
    have ih := zBdL_aw h hD hA k (by omega)
    have hdi := zDI_all (sT := fun _ => 0) (sG := fun _ => 0) h hD k (by omega)
    exact zBd1_aw (cl := (zBdL (zDayC c) k).1) (st := (zBdL (zDayC c) k).2) h.1.1 hdi (by omega) ih
theorem zBd_av {c : zCl} {s : Nat → Int32} {D K P E : Int} (h : zOcD c s D K) (hD : D ≤ 90000) (hA : zAv c P E) : zAv (zBd c) P E := by
  have h1 := zBdL_aw h hD hA c.un (Nat.le_refl _)
  have hle := zBdL_le (zDayC c) c.un
  have hn : c.un - (c.un - (zBdL (zDayC c) c.un).2) = (zBdL (zDayC c) c.un).2 := by omega
  rw [hn] at h1
  unfold zAv
  have eu : (zBd c).un = (zBdL (zDayC c) c.un).2 := by unfold zBd; rw [zpq_un]
  have ep : (zBd c).pi = (zBdL (zDayC c) c.un).1.pi := by unfold zBd; rw [zpq_pi]
  have eU : yUo (zBd c) = yUn (zBdL (zDayC c) c.un).1 (zBdL (zDayC c) c.un).2 (zIx c.un (zBdL (zDayC c) c.un).2) := by
    unfold yUo yUn
    rw [eu, ep]
    refine isum_congr (fun q hq => ?_)
    have ei : zIx c.un (zBdL (zDayC c) c.un).2 q = q := by unfold zIx; rw [if_pos hq]
    dsimp only
    rw [ei]
    exact yTm_ext (by unfold zBd; rw [zpq_io]) (by unfold zBd; rw [zpq_vl])
  rw [eU]
  exact yAw_ext h1 (by unfold zBd; rw [zpq_ac]) (by unfold zBd; rw [zpq_ps]) (by unfold zBd; rw [zpq_pp]) (by unfold zBd; rw [zpq_pu])
theorem zPs_av {c : zCl} {s : Nat → Int32} {D K P E : Int} (h : zOcD c s D K) (hD : D ≤ 80000) (hA : zAv c P E) : ∀ k : Nat, k ≤ 100 → zAv (zPs c k) P E
  | 0, _ => hA
  | k + 1, hk => by
    obtain ⟨h1, -, -⟩ := zPs_ok (e := (s, fun _ => 0, fun _ => 0, c.un)) h hD rfl k (by omega)
    exact zBd_av (c := zPs c k) h1 (by omega) (zPs_av h hD hA k (by omega))
/-! the same seen from a row of numbers -/
theorem zRl_un {c c' : zCl} {s : Nat → Int32} (hw : zWf c) (hw' : zWf c') (h : zRl c s) (h' : zRl c' s) : c'.un = c.un := by
  have e := h.2.1.symm.trans h'.2.1
  have := congrArg Int32.toInt e
  have b1 := hw.1
  have b2 := hw'.1
  rw [nI_toInt (by omega), nI_toInt (by omega)] at this
  omega
theorem zAv_same {c c' : zCl} {s : Nat → Int32} {P E : Int} (hw : zWf c) (hw' : zWf c') (h : zRl c s) (h' : zRl c' s) (hA : zAv c P E) : zAv c' P E := by
  have hu := zRl_un hw hw' h h'
  have hU : yUo c' = yUo c := by
    unfold yUo yUn
    rw [hu]
    refine isum_congr (fun q hq => ?_)
    have r1 := h.2.2.2.2 q hq
    have r2 := h'.2.2.2.2 q (by rw [hu]; exact hq)
    exact yTm_ext (zb_inj.mp (r2.2.2.1.symm.trans r1.2.2.1)) (r2.1.symm.trans r1.1)
  unfold zAv at hA ⊢
  rw [hU]
  have q : ∀ m, m < 6 → c'.ac m = c.ac m ∧ c'.ps m = c.ps m ∧ c'.pp m = c.pp m ∧ c'.pu m = c.pu m := by
    intro m hm
    obtain ⟨a1, a2, a3, a4, a5, a6⟩ := h.2.2.1 m hm
    obtain ⟨b1, b2, b3, b4, b5, b6⟩ := h'.2.2.1 m hm
    exact ⟨b1.symm.trans a1, b3.symm.trans a3, b4.symm.trans a4, b5.symm.trans a5⟩
  have f1 : iS c'.ac = iS c.ac := isum_congr (fun m hm => by rw [(q m hm).1])
  have f2 : iS c'.ps = iS c.ps := isum_congr (fun m hm => by rw [(q m hm).2.1])
  have f3 : iS c'.pp = iS c.pp := isum_congr (fun m hm => by rw [(q m hm).2.2.1])
  have f4 : iS c'.pu = iS c.pu := isum_congr (fun m hm => by rw [(q m hm).2.2.2])
  obtain ⟨a1, a2, a3, a4, a5, a6, a7, a8, a9⟩ := hA
  unfold yAw
  rw [f1, f2, f3, f4]
  refine ⟨fun m hm => ?_, fun m hm => ?_, a3, a4, a5, a6, a7, a8, a9⟩
  · rw [(q m hm).2.1, (q m hm).2.2.1, (q m hm).2.2.2]; exact a1 m hm
  · rw [(q m hm).1]; exact a2 m hm
