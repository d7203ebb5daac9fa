/-! a parcel comes to the customs, both ways -/
def zC3 (c : zCl) (J : Nat) : zCl := (zCl.mk c.st c.dy (zNx c.x) c.br c.sp c.wa c.ac c.ps c.pp c.pu c.lo c.un (c.op + nI 1) c.pi c.cn c.vl c.du (va_up c.io J true) c.hp c.hs)
def zC5 (c : zCl) (J : Nat) : zCl := (zCl.mk (zPayC (zC3 c J) J).st (zPayC (zC3 c J) J).dy (zNx (zNx c.x)) (zPayC (zC3 c J) J).br (zPayC (zC3 c J) J).sp (zPayC (zC3 c J) J).wa (zPayC (zC3 c J) J).ac (zPayC (zC3 c J) J).ps (zPayC (zC3 c J) J).pp (zPayC (zC3 c J) J).pu (zPayC (zC3 c J) J).lo (zPayC (zC3 c J) J).un (zPayC (zC3 c J) J).op (zPayC (zC3 c J) J).pi (zPayC (zC3 c J) J).cn (zPayC (zC3 c J) J).vl (zPayC (zC3 c J) J).du (zPayC (zC3 c J) J).io (zPayC (zC3 c J) J).hp (zPayC (zC3 c J) J).hs)
section CV
variable {c : zCl} {s sT sG : Nat → Int32} {n : Nat} {ix : Nat → Nat} {p : Nat} {D : Int}
theorem zCu3_R (h : zRB c s n ix) (hp : p < n) (hj : ∀ q, q < n → c.pi (ix q) = c.pi (ix p) → q = p) : zRB (zC3 c (c.pi (ix p))) (zCu3 s p) n ix := by
  obtain ⟨hA, h12, h13⟩ := h
  have h1 := w_x hA (zNx c.x)
  have h2 := w_op h1 (c.op + nI 1)
  have h3 := w_io h2 hp (by simp only [zpq_pi]; exact hj) true
  simp only [zpq_st, zpq_dy, zpq_x, zpq_br, zpq_sp, zpq_wa, zpq_ac, zpq_ps, zpq_pp, zpq_pu, zpq_lo, zpq_un, zpq_op, zpq_pi, zpq_cn, zpq_vl, zpq_du, zpq_io, zpq_hp, zpq_hs] at h3
  have e : zCu3 s p = upd (upd (upd s 10 (zNx c.x)) 11 (c.op + nI 1)) (147 + 51 * p + 2) (zb true) := by
    unfold zCu3; rw [hA.1.2.2.1, hA.1.2.2.2]; rfl
  rw [e]
  refine ⟨h3, ?_, ?_⟩
  · rw [pk_un (by omega), pk_un (by omega), pk_un (by omega)]; unfold zC3; rw [zpq_pu]; exact h12
  · rw [pk_un (by omega), pk_un (by omega), pk_un (by omega)]; unfold zC3; rw [zpq_lo]; exact h13
theorem zCu5_R (h : zRB c s n ix) (hp : p < n) (hj : ∀ q, q < n → c.pi (ix q) = c.pi (ix p) → q = p) (hI : zI1 c D) (hc : ∀ m, m < 6 → ∀ g, g < 8 → zRg (c.cn (c.pi (ix p)) m g) 0 20) (hv : zRg (c.vl (c.pi (ix p))) 0 100000) (hpos : 0 < (zPie (c.cn (c.pi (ix p)))).toInt) : zRB (zC5 c (c.pi (ix p))) (zCu5 s sT sG p) n ix := by
  have h3 := zCu3_R h hp hj
  have hst := zSt_rg hI
  have hr := h3.1.2.2.2 p hp
  have e1 : (zC3 c (c.pi (ix p))).pi = c.pi := by simp only [zC3, zpq_pi]
  have e2 : (zC3 c (c.pi (ix p))).vl = c.vl := by simp only [zC3, zpq_vl]
  have e3 : (zC3 c (c.pi (ix p))).st = c.st := by simp only [zC3, zpq_st]
  have e4 : (zC3 c (c.pi (ix p))).cn = c.cn := by simp only [zC3, zpq_cn]
  rw [e1] at hr
  have h5 := zPay_R (sT := sT) (sG := sG) h3 hr (by rw [e2]; exact hv) (by rw [e3]; exact hst.2.2.2.2.2.1) (by rw [e3]; exact hst.2.2.2.2.2.2.1) (by rw [e4]; exact hc) (by rw [e4]; exact hpos)
  obtain ⟨h5, h12, h13⟩ := h5
  have h6 := w_x h5 (zNx (zNx c.x))
  have e : zCu5 s sT sG p = upd (zPd (zCu3 s p) sT sG p) 10 (zNx (zNx c.x)) := by
    unfold zCu5; rw [h.1.1.2.2.1]
  rw [e]
  refine ⟨h6, ?_, ?_⟩
  · rw [pk_un (by omega), h12]; simp only [zC5, zpq_pu]
  · rw [pk_un (by omega), h13]; simp only [zC5, zpq_lo]
theorem zCu_B (h : zRB c s n ix) {J : Nat} (hio : c.io J = false) : zCuB s = zComeB c J := by
  obtain ⟨hA, -, -⟩ := h
  have h100 : 0 < (nI 100).toInt := by decide
  unfold zCuB zComeB zCuO
  rw [hio, if_neg (show ¬ (false = true) by decide), hA.1.2.2.1, hA.1.1 7 (by omega), hA.1.1 4 (by omega), zDrC_pos _ h100]
  by_cases q : zDr (zNx c.x) (nI 100) < c.st 7
  · rw [decide_eq_true q, if_pos rfl, if_pos q]
  · rw [decide_eq_false q, if_neg (by decide), if_neg q]
theorem zCu_R (h : zRB c s n ix) (hp : p < n) (hj : ∀ q, q < n → c.pi (ix q) = c.pi (ix p) → q = p) (hI : zI1 c D) (hio : c.io (c.pi (ix p)) = false) (hc : ∀ m, m < 6 → ∀ g, g < 8 → zRg (c.cn (c.pi (ix p)) m g) 0 20) (hv : zRg (c.vl (c.pi (ix p))) 0 100000) (hpos : 0 < (zPie (c.cn (c.pi (ix p)))).toInt) : (¬ zPcs (zCu5 s sT sG p) p = 0 ∧ zLat (zCu5 s sT sG p) p < 48) ∧ zRB (zCome c (c.pi (ix p))) (zCuS s sT sG p) n ix ∧ zOaOk ((zCl.mk c.st c.dy (zNx c.x) c.br c.sp c.wa c.ac c.ps c.pp c.pu c.lo c.un c.op c.pi c.cn c.vl c.du c.io c.hp c.hs)) (c.pi (ix p)) := by
  have h5 := zCu5_R (sT := sT) (sG := sG) h hp hj hI hc hv hpos
  have hx0 : zRg c.x 0 2147483647 := hI.2.2.1
  have hx1 := zNx_rg hx0
  have hx2 := zNx_rg hx1
  have h100 : 0 < (nI 100).toInt := by decide
  have e1 : (zC5 c (c.pi (ix p))).pi = c.pi := by simp only [zC5, zPayC, zC3, zpq_pi]
  have e4 : (zC5 c (c.pi (ix p))).cn = c.cn := by simp only [zC5, zPayC, zC3, zpq_cn]
  have e6 : (zC5 c (c.pi (ix p))).x = zNx (zNx c.x) := by simp only [zC5, zpq_x]
  have e7 : (zC5 c (c.pi (ix p))).lo = c.lo := by simp only [zC5, zPayC, zC3, zpq_lo]
  have h6 := zLose_R h5 hp (by rw [e1]; exact hj) (by rw [e1, e4]; exact hc) (by rw [e1, e4]; exact hpos) (by rw [e6]; exact hx2)
  rw [e1, e4, e6, e7] at h6
  obtain ⟨hat, hlt, hL⟩ := h6
  have el : zOaP ((zCl.mk c.st c.dy (zNx c.x) c.br c.sp c.wa c.ac c.ps c.pp c.pu c.lo c.un c.op c.pi c.cn c.vl c.du c.io c.hp c.hs)) (c.pi (ix p)) = zDr (zNx (zNx (zNx c.x))) (zPie (c.cn (c.pi (ix p)))) := by
    simp only [zOaP, zpq_x, zpq_cn]
    exact zDrC_pos _ hpos
  refine ⟨⟨?_, by rw [hat]; exact hlt⟩, ?_, ?_, ?_⟩
  · have hr := h5.1.2.2.2 p hp
    rw [e1] at hr
    rw [← zPie_eq hr, e4]
    intro z; rw [z] at hpos; exact absurd hpos (by decide)
  · obtain ⟨hA, h12, h13⟩ := h
    unfold zCome zCuS zCuO
    rw [if_neg (show ¬ c.io (c.pi (ix p)) = true by rw [hio]; decide), hA.1.2.2.1, hA.1.1 7 (by omega), hA.1.1 4 (by omega), hA.1.2.1, zDrC_pos _ h100]
    by_cases q : zDr (zNx c.x) (nI 100) < c.st 7
    · rw [if_pos (decide_eq_true q), if_pos q]
      unfold zOa zCu6 zCuL
      rw [zpq_x, zpq_st, zDrC_pos _ h100, hA.1.2.2.1, hA.1.1 8 (by omega)]
      by_cases r : zDr (zNx (zNx c.x)) (nI 100) < c.st 8
      · rw [if_pos (decide_eq_true r), if_pos r]
        obtain ⟨L1, L2, L3⟩ := hL
        have h9 := w_du L1 hp (by simp only [zpq_pi, e1]; exact hj) (c.dy + c.st 4)
        simp only [zpq_st, zpq_dy, zpq_x, zpq_br, zpq_sp, zpq_wa, zpq_ac, zpq_ps, zpq_pp, zpq_pu, zpq_lo, zpq_un, zpq_op, zpq_pi, zpq_cn, zpq_vl, zpq_du, zpq_io, zpq_hp, zpq_hs, e1] at h9
        refine ⟨zRA_ext h9 (by simp only [zOaL, zOa1, zPayC, zC5, zC3, el, zpq_st, zpq_dy, zpq_x, zpq_br, zpq_sp, zpq_wa, zpq_ac, zpq_ps, zpq_pp, zpq_pu, zpq_lo, zpq_un, zpq_op, zpq_pi, zpq_cn, zpq_vl, zpq_du, zpq_io, zpq_hp, zpq_hs]) (by simp only [zOaL, zOa1, zPayC, zC5, zC3, el, zpq_st, zpq_dy, zpq_x, zpq_br, zpq_sp, zpq_wa, zpq_ac, zpq_ps, zpq_pp, zpq_pu, zpq_lo, zpq_un, zpq_op, zpq_pi, zpq_cn, zpq_vl, zpq_du, zpq_io, zpq_hp, zpq_hs]) (by simp only [zOaL, zOa1, zPayC, zC5, zC3, el, zpq_st, zpq_dy, zpq_x, zpq_br, zpq_sp, zpq_wa, zpq_ac, zpq_ps, zpq_pp, zpq_pu, zpq_lo, zpq_un, zpq_op, zpq_pi, zpq_cn, zpq_vl, zpq_du, zpq_io, zpq_hp, zpq_hs]) (by simp only [zOaL, zOa1, zPayC, zC5, zC3, el, zpq_st, zpq_dy, zpq_x, zpq_br, zpq_sp, zpq_wa, zpq_ac, zpq_ps, zpq_pp, zpq_pu, zpq_lo, zpq_un, zpq_op, zpq_pi, zpq_cn, zpq_vl, zpq_du, zpq_io, zpq_hp, zpq_hs]) (by simp only [zOaL, zOa1, zPayC, zC5, zC3, el, zpq_st, zpq_dy, zpq_x, zpq_br, zpq_sp, zpq_wa, zpq_ac, zpq_ps, zpq_pp, zpq_pu, zpq_lo, zpq_un, zpq_op, zpq_pi, zpq_cn, zpq_vl, zpq_du, zpq_io, zpq_hp, zpq_hs]) (by simp only [zOaL, zOa1, zPayC, zC5, zC3, el, zpq_st, zpq_dy, zpq_x, zpq_br, zpq_sp, zpq_wa, zpq_ac, zpq_ps, zpq_pp, zpq_pu, zpq_lo, zpq_un, zpq_op, zpq_pi, zpq_cn, zpq_vl, zpq_du, zpq_io, zpq_hp, zpq_hs]) (by simp only [zOaL, zOa1, zPayC, zC5, zC3, el, zpq_st, zpq_dy, zpq_x, zpq_br, zpq_sp, zpq_wa, zpq_ac, zpq_ps, zpq_pp, zpq_pu, zpq_lo, zpq_un, zpq_op, zpq_pi, zpq_cn, zpq_vl, zpq_du, zpq_io, zpq_hp, zpq_hs]) (by simp only [zOaL, zOa1, zPayC, zC5, zC3, el, zpq_st, zpq_dy, zpq_x, zpq_br, zpq_sp, zpq_wa, zpq_ac, zpq_ps, zpq_pp, zpq_pu, zpq_lo, zpq_un, zpq_op, zpq_pi, zpq_cn, zpq_vl, zpq_du, zpq_io, zpq_hp, zpq_hs]) (by simp only [zOaL, zOa1, zPayC, zC5, zC3, el, zpq_st, zpq_dy, zpq_x, zpq_br, zpq_sp, zpq_wa, zpq_ac, zpq_ps, zpq_pp, zpq_pu, zpq_lo, zpq_un, zpq_op, zpq_pi, zpq_cn, zpq_vl, zpq_du, zpq_io, zpq_hp, zpq_hs]) (by simp only [zOaL, zOa1, zPayC, zC5, zC3, el, zpq_st, zpq_dy, zpq_x, zpq_br, zpq_sp, zpq_wa, zpq_ac, zpq_ps, zpq_pp, zpq_pu, zpq_lo, zpq_un, zpq_op, zpq_pi, zpq_cn, zpq_vl, zpq_du, zpq_io, zpq_hp, zpq_hs]) (by simp only [zOaL, zOa1, zPayC, zC5, zC3, el, zpq_st, zpq_dy, zpq_x, zpq_br, zpq_sp, zpq_wa, zpq_ac, zpq_ps, zpq_pp, zpq_pu, zpq_lo, zpq_un, zpq_op, zpq_pi, zpq_cn, zpq_vl, zpq_du, zpq_io, zpq_hp, zpq_hs]) (by simp only [zOaL, zOa1, zPayC, zC5, zC3, el, zpq_st, zpq_dy, zpq_x, zpq_br, zpq_sp, zpq_wa, zpq_ac, zpq_ps, zpq_pp, zpq_pu, zpq_lo, zpq_un, zpq_op, zpq_pi, zpq_cn, zpq_vl, zpq_du, zpq_io, zpq_hp, zpq_hs]) (by simp only [zOaL, zOa1, zPayC, zC5, zC3, el, zpq_st, zpq_dy, zpq_x, zpq_br, zpq_sp, zpq_wa, zpq_ac, zpq_ps, zpq_pp, zpq_pu, zpq_lo, zpq_un, zpq_op, zpq_pi, zpq_cn, zpq_vl, zpq_du, zpq_io, zpq_hp, zpq_hs]) (by simp only [zOaL, zOa1, zPayC, zC5, zC3, el, zpq_st, zpq_dy, zpq_x, zpq_br, zpq_sp, zpq_wa, zpq_ac, zpq_ps, zpq_pp, zpq_pu, zpq_lo, zpq_un, zpq_op, zpq_pi, zpq_cn, zpq_vl, zpq_du, zpq_io, zpq_hp, zpq_hs]) (by simp only [zOaL, zOa1, zPayC, zC5, zC3, el, zpq_st, zpq_dy, zpq_x, zpq_br, zpq_sp, zpq_wa, zpq_ac, zpq_ps, zpq_pp, zpq_pu, zpq_lo, zpq_un, zpq_op, zpq_pi, zpq_cn, zpq_vl, zpq_du, zpq_io, zpq_hp, zpq_hs]) (by simp only [zOaL, zOa1, zPayC, zC5, zC3, el, zpq_st, zpq_dy, zpq_x, zpq_br, zpq_sp, zpq_wa, zpq_ac, zpq_ps, zpq_pp, zpq_pu, zpq_lo, zpq_un, zpq_op, zpq_pi, zpq_cn, zpq_vl, zpq_du, zpq_io, zpq_hp, zpq_hs]) (by simp only [zOaL, zOa1, zPayC, zC5, zC3, el, zpq_st, zpq_dy, zpq_x, zpq_br, zpq_sp, zpq_wa, zpq_ac, zpq_ps, zpq_pp, zpq_pu, zpq_lo, zpq_un, zpq_op, zpq_pi, zpq_cn, zpq_vl, zpq_du, zpq_io, zpq_hp, zpq_hs]), ?_, ?_⟩
        · rw [pk_un (by omega), L2]; simp only [zOaL, zOa1, zPayC, zC5, zC3, zpq_st, zpq_dy, zpq_x, zpq_br, zpq_sp, zpq_wa, zpq_ac, zpq_ps, zpq_pp, zpq_pu, zpq_lo, zpq_un, zpq_op, zpq_pi, zpq_cn, zpq_vl, zpq_du, zpq_io, zpq_hp, zpq_hs]
        · rw [pk_un (by omega), L3]; simp only [zOaL, el, zpq_st, zpq_dy, zpq_x, zpq_br, zpq_sp, zpq_wa, zpq_ac, zpq_ps, zpq_pp, zpq_pu, zpq_lo, zpq_un, zpq_op, zpq_pi, zpq_cn, zpq_vl, zpq_du, zpq_io, zpq_hp, zpq_hs]
      · rw [if_neg r, if_neg (by rw [decide_eq_false r]; decide)]
        obtain ⟨L1, L2, L3⟩ := h5
        have h9 := w_du L1 hp (by simp only [e1]; exact hj) (c.dy + c.st 4)
        simp only [zpq_st, zpq_dy, zpq_x, zpq_br, zpq_sp, zpq_wa, zpq_ac, zpq_ps, zpq_pp, zpq_pu, zpq_lo, zpq_un, zpq_op, zpq_pi, zpq_cn, zpq_vl, zpq_du, zpq_io, zpq_hp, zpq_hs, e1] at h9
        refine ⟨zRA_ext h9 (by simp only [zOaN, zOa1, zPayC, zC5, zC3, zpq_st, zpq_dy, zpq_x, zpq_br, zpq_sp, zpq_wa, zpq_ac, zpq_ps, zpq_pp, zpq_pu, zpq_lo, zpq_un, zpq_op, zpq_pi, zpq_cn, zpq_vl, zpq_du, zpq_io, zpq_hp, zpq_hs]) (by simp only [zOaN, zOa1, zPayC, zC5, zC3, zpq_st, zpq_dy, zpq_x, zpq_br, zpq_sp, zpq_wa, zpq_ac, zpq_ps, zpq_pp, zpq_pu, zpq_lo, zpq_un, zpq_op, zpq_pi, zpq_cn, zpq_vl, zpq_du, zpq_io, zpq_hp, zpq_hs]) (by simp only [zOaN, zOa1, zPayC, zC5, zC3, zpq_st, zpq_dy, zpq_x, zpq_br, zpq_sp, zpq_wa, zpq_ac, zpq_ps, zpq_pp, zpq_pu, zpq_lo, zpq_un, zpq_op, zpq_pi, zpq_cn, zpq_vl, zpq_du, zpq_io, zpq_hp, zpq_hs]) (by simp only [zOaN, zOa1, zPayC, zC5, zC3, zpq_st, zpq_dy, zpq_x, zpq_br, zpq_sp, zpq_wa, zpq_ac, zpq_ps, zpq_pp, zpq_pu, zpq_lo, zpq_un, zpq_op, zpq_pi, zpq_cn, zpq_vl, zpq_du, zpq_io, zpq_hp, zpq_hs]) (by simp only [zOaN, zOa1, zPayC, zC5, zC3, zpq_st, zpq_dy, zpq_x, zpq_br, zpq_sp, zpq_wa, zpq_ac, zpq_ps, zpq_pp, zpq_pu, zpq_lo, zpq_un, zpq_op, zpq_pi, zpq_cn, zpq_vl, zpq_du, zpq_io, zpq_hp, zpq_hs]) (by simp only [zOaN, zOa1, zPayC, zC5, zC3, zpq_st, zpq_dy, zpq_x, zpq_br, zpq_sp, zpq_wa, zpq_ac, zpq_ps, zpq_pp, zpq_pu, zpq_lo, zpq_un, zpq_op, zpq_pi, zpq_cn, zpq_vl, zpq_du, zpq_io, zpq_hp, zpq_hs]) (by simp only [zOaN, zOa1, zPayC, zC5, zC3, zpq_st, zpq_dy, zpq_x, zpq_br, zpq_sp, zpq_wa, zpq_ac, zpq_ps, zpq_pp, zpq_pu, zpq_lo, zpq_un, zpq_op, zpq_pi, zpq_cn, zpq_vl, zpq_du, zpq_io, zpq_hp, zpq_hs]) (by simp only [zOaN, zOa1, zPayC, zC5, zC3, zpq_st, zpq_dy, zpq_x, zpq_br, zpq_sp, zpq_wa, zpq_ac, zpq_ps, zpq_pp, zpq_pu, zpq_lo, zpq_un, zpq_op, zpq_pi, zpq_cn, zpq_vl, zpq_du, zpq_io, zpq_hp, zpq_hs]) (by simp only [zOaN, zOa1, zPayC, zC5, zC3, zpq_st, zpq_dy, zpq_x, zpq_br, zpq_sp, zpq_wa, zpq_ac, zpq_ps, zpq_pp, zpq_pu, zpq_lo, zpq_un, zpq_op, zpq_pi, zpq_cn, zpq_vl, zpq_du, zpq_io, zpq_hp, zpq_hs]) (by simp only [zOaN, zOa1, zPayC, zC5, zC3, zpq_st, zpq_dy, zpq_x, zpq_br, zpq_sp, zpq_wa, zpq_ac, zpq_ps, zpq_pp, zpq_pu, zpq_lo, zpq_un, zpq_op, zpq_pi, zpq_cn, zpq_vl, zpq_du, zpq_io, zpq_hp, zpq_hs]) (by simp only [zOaN, zOa1, zPayC, zC5, zC3, zpq_st, zpq_dy, zpq_x, zpq_br, zpq_sp, zpq_wa, zpq_ac, zpq_ps, zpq_pp, zpq_pu, zpq_lo, zpq_un, zpq_op, zpq_pi, zpq_cn, zpq_vl, zpq_du, zpq_io, zpq_hp, zpq_hs]) (by simp only [zOaN, zOa1, zPayC, zC5, zC3, zpq_st, zpq_dy, zpq_x, zpq_br, zpq_sp, zpq_wa, zpq_ac, zpq_ps, zpq_pp, zpq_pu, zpq_lo, zpq_un, zpq_op, zpq_pi, zpq_cn, zpq_vl, zpq_du, zpq_io, zpq_hp, zpq_hs]) (by simp only [zOaN, zOa1, zPayC, zC5, zC3, zpq_st, zpq_dy, zpq_x, zpq_br, zpq_sp, zpq_wa, zpq_ac, zpq_ps, zpq_pp, zpq_pu, zpq_lo, zpq_un, zpq_op, zpq_pi, zpq_cn, zpq_vl, zpq_du, zpq_io, zpq_hp, zpq_hs]) (by simp only [zOaN, zOa1, zPayC, zC5, zC3, zpq_st, zpq_dy, zpq_x, zpq_br, zpq_sp, zpq_wa, zpq_ac, zpq_ps, zpq_pp, zpq_pu, zpq_lo, zpq_un, zpq_op, zpq_pi, zpq_cn, zpq_vl, zpq_du, zpq_io, zpq_hp, zpq_hs]) (by simp only [zOaN, zOa1, zPayC, zC5, zC3, zpq_st, zpq_dy, zpq_x, zpq_br, zpq_sp, zpq_wa, zpq_ac, zpq_ps, zpq_pp, zpq_pu, zpq_lo, zpq_un, zpq_op, zpq_pi, zpq_cn, zpq_vl, zpq_du, zpq_io, zpq_hp, zpq_hs]) (by simp only [zOaN, zOa1, zPayC, zC5, zC3, zpq_st, zpq_dy, zpq_x, zpq_br, zpq_sp, zpq_wa, zpq_ac, zpq_ps, zpq_pp, zpq_pu, zpq_lo, zpq_un, zpq_op, zpq_pi, zpq_cn, zpq_vl, zpq_du, zpq_io, zpq_hp, zpq_hs]) (by simp only [zOaN, zOa1, zPayC, zC5, zC3, zpq_st, zpq_dy, zpq_x, zpq_br, zpq_sp, zpq_wa, zpq_ac, zpq_ps, zpq_pp, zpq_pu, zpq_lo, zpq_un, zpq_op, zpq_pi, zpq_cn, zpq_vl, zpq_du, zpq_io, zpq_hp, zpq_hs]), ?_, ?_⟩
        · rw [pk_un (by omega), L2]; simp only [zOaN, zOa1, zPayC, zC5, zC3, zpq_st, zpq_dy, zpq_x, zpq_br, zpq_sp, zpq_wa, zpq_ac, zpq_ps, zpq_pp, zpq_pu, zpq_lo, zpq_un, zpq_op, zpq_pi, zpq_cn, zpq_vl, zpq_du, zpq_io, zpq_hp, zpq_hs]
        · rw [pk_un (by omega), L3]; simp only [zOaN, zOa1, zPayC, zC5, zC3, zpq_st, zpq_dy, zpq_x, zpq_br, zpq_sp, zpq_wa, zpq_ac, zpq_ps, zpq_pp, zpq_pu, zpq_lo, zpq_un, zpq_op, zpq_pi, zpq_cn, zpq_vl, zpq_du, zpq_io, zpq_hp, zpq_hs]
    · rw [if_neg q, if_neg (by rw [decide_eq_false q]; decide)]
      refine ⟨w_x hA (zNx c.x), ?_, ?_⟩
      · rw [pk_un (by omega), h12, zpq_pu]
      · rw [pk_un (by omega), h13, zpq_lo]
  · simp only [zpq_hp, zpq_cn]
    rw [zC0_sum, Int32.le_iff_toInt_le]
    exact Int.le_of_lt (zFp_pos hc hpos)
  · rw [el, zpq_cn]; exact hlt
end CV
