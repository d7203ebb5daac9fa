/-! the customs and home, both ways -/
theorem zpq_st (st : Nat → Int32) (dy : Int32) (x : Int32) (br : Nat → Int32) (sp : Nat → Nat → Int32) (wa : Nat → Nat → Int32) (ac : Nat → Int32) (ps : Nat → Int32) (pp : Nat → Int32) (pu : Nat → Int32) (lo : Nat → Int32) (un : Nat) (op : Int32) (pi : Nat → Nat) (cn : Nat → Nat → Nat → Int32) (vl : Nat → Int32) (du : Nat → Int32) (io : Nat → Bool) (hp : Nat → Int32) (hs : Nat → Int32) : (zCl.mk st dy x br sp wa ac ps pp pu lo un op pi cn vl du io hp hs).st = st := id rfl
theorem zpq_dy (st : Nat → Int32) (dy : Int32) (x : Int32) (br : Nat → Int32) (sp : Nat → Nat → Int32) (wa : Nat → Nat → Int32) (ac : Nat → Int32) (ps : Nat → Int32) (pp : Nat → Int32) (pu : Nat → Int32) (lo : Nat → Int32) (un : Nat) (op : Int32) (pi : Nat → Nat) (cn : Nat → Nat → Nat → Int32) (vl : Nat → Int32) (du : Nat → Int32) (io : Nat → Bool) (hp : Nat → Int32) (hs : Nat → Int32) : (zCl.mk st dy x br sp wa ac ps pp pu lo un op pi cn vl du io hp hs).dy = dy := id rfl
theorem zpq_x (st : Nat → Int32) (dy : Int32) (x : Int32) (br : Nat → Int32) (sp : Nat → Nat → Int32) (wa : Nat → Nat → Int32) (ac : Nat → Int32) (ps : Nat → Int32) (pp : Nat → Int32) (pu : Nat → Int32) (lo : Nat → Int32) (un : Nat) (op : Int32) (pi : Nat → Nat) (cn : Nat → Nat → Nat → Int32) (vl : Nat → Int32) (du : Nat → Int32) (io : Nat → Bool) (hp : Nat → Int32) (hs : Nat → Int32) : (zCl.mk st dy x br sp wa ac ps pp pu lo un op pi cn vl du io hp hs).x = x := id rfl
theorem zpq_br (st : Nat → Int32) (dy : Int32) (x : Int32) (br : Nat → Int32) (sp : Nat → Nat → Int32) (wa : Nat → Nat → Int32) (ac : Nat → Int32) (ps : Nat → Int32) (pp : Nat → Int32) (pu : Nat → Int32) (lo : Nat → Int32) (un : Nat) (op : Int32) (pi : Nat → Nat) (cn : Nat → Nat → Nat → Int32) (vl : Nat → Int32) (du : Nat → Int32) (io : Nat → Bool) (hp : Nat → Int32) (hs : Nat → Int32) : (zCl.mk st dy x br sp wa ac ps pp pu lo un op pi cn vl du io hp hs).br = br := id rfl
theorem zpq_sp (st : Nat → Int32) (dy : Int32) (x : Int32) (br : Nat → Int32) (sp : Nat → Nat → Int32) (wa : Nat → Nat → Int32) (ac : Nat → Int32) (ps : Nat → Int32) (pp : Nat → Int32) (pu : Nat → Int32) (lo : Nat → Int32) (un : Nat) (op : Int32) (pi : Nat → Nat) (cn : Nat → Nat → Nat → Int32) (vl : Nat → Int32) (du : Nat → Int32) (io : Nat → Bool) (hp : Nat → Int32) (hs : Nat → Int32) : (zCl.mk st dy x br sp wa ac ps pp pu lo un op pi cn vl du io hp hs).sp = sp := id rfl
theorem zpq_wa (st : Nat → Int32) (dy : Int32) (x : Int32) (br : Nat → Int32) (sp : Nat → Nat → Int32) (wa : Nat → Nat → Int32) (ac : Nat → Int32) (ps : Nat → Int32) (pp : Nat → Int32) (pu : Nat → Int32) (lo : Nat → Int32) (un : Nat) (op : Int32) (pi : Nat → Nat) (cn : Nat → Nat → Nat → Int32) (vl : Nat → Int32) (du : Nat → Int32) (io : Nat → Bool) (hp : Nat → Int32) (hs : Nat → Int32) : (zCl.mk st dy x br sp wa ac ps pp pu lo un op pi cn vl du io hp hs).wa = wa := id rfl
theorem zpq_ac (st : Nat → Int32) (dy : Int32) (x : Int32) (br : Nat → Int32) (sp : Nat → Nat → Int32) (wa : Nat → Nat → Int32) (ac : Nat → Int32) (ps : Nat → Int32) (pp : Nat → Int32) (pu : Nat → Int32) (lo : Nat → Int32) (un : Nat) (op : Int32) (pi : Nat → Nat) (cn : Nat → Nat → Nat → Int32) (vl : Nat → Int32) (du : Nat → Int32) (io : Nat → Bool) (hp : Nat → Int32) (hs : Nat → Int32) : (zCl.mk st dy x br sp wa ac ps pp pu lo un op pi cn vl du io hp hs).ac = ac := id rfl
theorem zpq_ps (st : Nat → Int32) (dy : Int32) (x : Int32) (br : Nat → Int32) (sp : Nat → Nat → Int32) (wa : Nat → Nat → Int32) (ac : Nat → Int32) (ps : Nat → Int32) (pp : Nat → Int32) (pu : Nat → Int32) (lo : Nat → Int32) (un : Nat) (op : Int32) (pi : Nat → Nat) (cn : Nat → Nat → Nat → Int32) (vl : Nat → Int32) (du : Nat → Int32) (io : Nat → Bool) (hp : Nat → Int32) (hs : Nat → Int32) : (zCl.mk st dy x br sp wa ac ps pp pu lo un op pi cn vl du io hp hs).ps = ps := id rfl
theorem zpq_pp (st : Nat → Int32) (dy : Int32) (x : Int32) (br : Nat → Int32) (sp : Nat → Nat → Int32) (wa : Nat → Nat → Int32) (ac : Nat → Int32) (ps : Nat → Int32) (pp : Nat → Int32) (pu : Nat → Int32) (lo : Nat → Int32) (un : Nat) (op : Int32) (pi : Nat → Nat) (cn : Nat → Nat → Nat → Int32) (vl : Nat → Int32) (du : Nat → Int32) (io : Nat → Bool) (hp : Nat → Int32) (hs : Nat → Int32) : (zCl.mk st dy x br sp wa ac ps pp pu lo un op pi cn vl du io hp hs).pp = pp := id rfl
theorem zpq_pu (st : Nat → Int32) (dy : Int32) (x : Int32) (br : Nat → Int32) (sp : Nat → Nat → Int32) (wa : Nat → Nat → Int32) (ac : Nat → Int32) (ps : Nat → Int32) (pp : Nat → Int32) (pu : Nat → Int32) (lo : Nat → Int32) (un : Nat) (op : Int32) (pi : Nat → Nat) (cn : Nat → Nat → Nat → Int32) (vl : Nat → Int32) (du : Nat → Int32) (io : Nat → Bool) (hp : Nat → Int32) (hs : Nat → Int32) : (zCl.mk st dy x br sp wa ac ps pp pu lo un op pi cn vl du io hp hs).pu = pu := id rfl
theorem zpq_lo (st : Nat → Int32) (dy : Int32) (x : Int32) (br : Nat → Int32) (sp : Nat → Nat → Int32) (wa : Nat → Nat → Int32) (ac : Nat → Int32) (ps : Nat → Int32) (pp : Nat → Int32) (pu : Nat → Int32) (lo : Nat → Int32) (un : Nat) (op : Int32) (pi : Nat → Nat) (cn : Nat → Nat → Nat → Int32) (vl : Nat → Int32) (du : Nat → Int32) (io : Nat → Bool) (hp : Nat → Int32) (hs : Nat → Int32) : (zCl.mk st dy x br sp wa ac ps pp pu lo un op pi cn vl du io hp hs).lo = lo := id rfl
theorem zpq_un (st : Nat → Int32) (dy : Int32) (x : Int32) (br : Nat → Int32) (sp : Nat → Nat → Int32) (wa : Nat → Nat → Int32) (ac : Nat → Int32) (ps : Nat → Int32) (pp : Nat → Int32) (pu : Nat → Int32) (lo : Nat → Int32) (un : Nat) (op : Int32) (pi : Nat → Nat) (cn : Nat → Nat → Nat → Int32) (vl : Nat → Int32) (du : Nat → Int32) (io : Nat → Bool) (hp : Nat → Int32) (hs : Nat → Int32) : (zCl.mk st dy x br sp wa ac ps pp pu lo un op pi cn vl du io hp hs).un = un := id rfl
theorem zpq_op (st : Nat → Int32) (dy : Int32) (x : Int32) (br : Nat → Int32) (sp : Nat → Nat → Int32) (wa : Nat → Nat → Int32) (ac : Nat → Int32) (ps : Nat → Int32) (pp : Nat → Int32) (pu : Nat → Int32) (lo : Nat → Int32) (un : Nat) (op : Int32) (pi : Nat → Nat) (cn : Nat → Nat → Nat → Int32) (vl : Nat → Int32) (du : Nat → Int32) (io : Nat → Bool) (hp : Nat → Int32) (hs : Nat → Int32) : (zCl.mk st dy x br sp wa ac ps pp pu lo un op pi cn vl du io hp hs).op = op := id rfl
theorem zpq_pi (st : Nat → Int32) (dy : Int32) (x : Int32) (br : Nat → Int32) (sp : Nat → Nat → Int32) (wa : Nat → Nat → Int32) (ac : Nat → Int32) (ps : Nat → Int32) (pp : Nat → Int32) (pu : Nat → Int32) (lo : Nat → Int32) (un : Nat) (op : Int32) (pi : Nat → Nat) (cn : Nat → Nat → Nat → Int32) (vl : Nat → Int32) (du : Nat → Int32) (io : Nat → Bool) (hp : Nat → Int32) (hs : Nat → Int32) : (zCl.mk st dy x br sp wa ac ps pp pu lo un op pi cn vl du io hp hs).pi = pi := id rfl
theorem zpq_cn (st : Nat → Int32) (dy : Int32) (x : Int32) (br : Nat → Int32) (sp : Nat → Nat → Int32) (wa : Nat → Nat → Int32) (ac : Nat → Int32) (ps : Nat → Int32) (pp : Nat → Int32) (pu : Nat → Int32) (lo : Nat → Int32) (un : Nat) (op : Int32) (pi : Nat → Nat) (cn : Nat → Nat → Nat → Int32) (vl : Nat → Int32) (du : Nat → Int32) (io : Nat → Bool) (hp : Nat → Int32) (hs : Nat → Int32) : (zCl.mk st dy x br sp wa ac ps pp pu lo un op pi cn vl du io hp hs).cn = cn := id rfl
theorem zpq_vl (st : Nat → Int32) (dy : Int32) (x : Int32) (br : Nat → Int32) (sp : Nat → Nat → Int32) (wa : Nat → Nat → Int32) (ac : Nat → Int32) (ps : Nat → Int32) (pp : Nat → Int32) (pu : Nat → Int32) (lo : Nat → Int32) (un : Nat) (op : Int32) (pi : Nat → Nat) (cn : Nat → Nat → Nat → Int32) (vl : Nat → Int32) (du : Nat → Int32) (io : Nat → Bool) (hp : Nat → Int32) (hs : Nat → Int32) : (zCl.mk st dy x br sp wa ac ps pp pu lo un op pi cn vl du io hp hs).vl = vl := id rfl
theorem zpq_du (st : Nat → Int32) (dy : Int32) (x : Int32) (br : Nat → Int32) (sp : Nat → Nat → Int32) (wa : Nat → Nat → Int32) (ac : Nat → Int32) (ps : Nat → Int32) (pp : Nat → Int32) (pu : Nat → Int32) (lo : Nat → Int32) (un : Nat) (op : Int32) (pi : Nat → Nat) (cn : Nat → Nat → Nat → Int32) (vl : Nat → Int32) (du : Nat → Int32) (io : Nat → Bool) (hp : Nat → Int32) (hs : Nat → Int32) : (zCl.mk st dy x br sp wa ac ps pp pu lo un op pi cn vl du io hp hs).du = du := id rfl
theorem zpq_io (st : Nat → Int32) (dy : Int32) (x : Int32) (br : Nat → Int32) (sp : Nat → Nat → Int32) (wa : Nat → Nat → Int32) (ac : Nat → Int32) (ps : Nat → Int32) (pp : Nat → Int32) (pu : Nat → Int32) (lo : Nat → Int32) (un : Nat) (op : Int32) (pi : Nat → Nat) (cn : Nat → Nat → Nat → Int32) (vl : Nat → Int32) (du : Nat → Int32) (io : Nat → Bool) (hp : Nat → Int32) (hs : Nat → Int32) : (zCl.mk st dy x br sp wa ac ps pp pu lo un op pi cn vl du io hp hs).io = io := id rfl
theorem zpq_hp (st : Nat → Int32) (dy : Int32) (x : Int32) (br : Nat → Int32) (sp : Nat → Nat → Int32) (wa : Nat → Nat → Int32) (ac : Nat → Int32) (ps : Nat → Int32) (pp : Nat → Int32) (pu : Nat → Int32) (lo : Nat → Int32) (un : Nat) (op : Int32) (pi : Nat → Nat) (cn : Nat → Nat → Nat → Int32) (vl : Nat → Int32) (du : Nat → Int32) (io : Nat → Bool) (hp : Nat → Int32) (hs : Nat → Int32) : (zCl.mk st dy x br sp wa ac ps pp pu lo un op pi cn vl du io hp hs).hp = hp := id rfl
theorem zpq_hs (st : Nat → Int32) (dy : Int32) (x : Int32) (br : Nat → Int32) (sp : Nat → Nat → Int32) (wa : Nat → Nat → Int32) (ac : Nat → Int32) (ps : Nat → Int32) (pp : Nat → Int32) (pu : Nat → Int32) (lo : Nat → Int32) (un : Nat) (op : Int32) (pi : Nat → Nat) (cn : Nat → Nat → Nat → Int32) (vl : Nat → Int32) (du : Nat → Int32) (io : Nat → Bool) (hp : Nat → Int32) (hs : Nat → Int32) : (zCl.mk st dy x br sp wa ac ps pp pu lo un op pi cn vl du io hp hs).hs = hs := id rfl
def zRB (c : zCl) (s : Nat → Int32) (n : Nat) (ix : Nat → Nat) : Prop := zRA c s n ix ∧ s 12 = lsum c.pu 6 ∧ s 13 = lsum c.lo 6
theorem zRA_ext {c c' : zCl} {s : Nat → Int32} {n : Nat} {ix : Nat → Nat} (h : zRA c s n ix) (e1 : c'.st = c.st) (e2 : c'.dy = c.dy) (e3 : c'.x = c.x) (e4 : c'.br = c.br) (e5 : c'.sp = c.sp) (e6 : c'.wa = c.wa) (e7 : c'.ac = c.ac) (e8 : c'.ps = c.ps) (e9 : c'.pp = c.pp) (e10 : c'.pu = c.pu) (e11 : c'.lo = c.lo) (e12 : c'.op = c.op) (e13 : c'.pi = c.pi) (e14 : c'.cn = c.cn) (e15 : c'.vl = c.vl) (e16 : c'.du = c.du) (e17 : c'.io = c.io) : zRA c' s n ix := by
  unfold zRA zR2 zR3 zRp at *
  rw [e1, e2, e3, e4, e5, e6, e7, e8, e9, e10, e11, e12, e13, e14, e15, e16, e17]
  exact h
theorem lsum_upd (f : Nat → Int32) (v : Int32) {m n : Nat} (h : m < n) : lsum (upd f m (f m + v)) n = lsum f n + v := by
  have e : lsum (upd f m (f m + v)) n = lsum (fun k => f k + if k = m then v else 0) n := lsum_congr (fun k hk => by
    by_cases q : k = m
    · subst q; rw [pk_us, if_pos rfl]
    · rw [pk_un q, if_neg q, Int32.add_zero])
  rw [e, lsum_add, lsum_one, if_pos h]
theorem isum_mono {f g : Nat → Int} : ∀ {n : Nat}, (∀ k, k < n → f k ≤ g k) → isum f n ≤ isum g n
  | 0, _ => Int.le_refl _
  | n + 1, h => by
    have h1 := isum_mono (n := n) (fun k hk => h k (by omega))
    have h2 := h n (by omega)
    show isum f n + f n ≤ isum g n + g n
    omega
section CU
variable {c : zCl} {s sT sG : Nat → Int32} {n : Nat} {ix : Nat → Nat} {p : Nat}
theorem zFp_rg {cn : Nat → Nat → Nat → Int32} {J : Nat} (hc : ∀ m, m < 6 → ∀ g, g < 8 → zRg (cn J m g) 0 20) {m : Nat} (hm : m < 6) : (∀ g, g < 8 → zRg (zFpT (cn J m) g) 0 900 ∧ (cn J m g).toInt ≤ (zFpT (cn J m) g).toInt) ∧ zRg (zFpP cn J m) 0 7200 := by
  have h1 : ∀ g, g < 8 → zRg (zFpT (cn J m) g) 0 900 ∧ (cn J m g).toInt ≤ (zFpT (cn J m) g).toInt := by
    intro g hg
    have hp : ∀ g, g < 8 → 1 ≤ (nI (10 + 5 * g)).toInt ∧ (nI (10 + 5 * g)).toInt ≤ 45 := by decide +kernel
    obtain ⟨p1, p2⟩ := hp g hg
    obtain ⟨c1, c2⟩ := hc m hm g hg
    have hb : zRg (nI (10 + 5 * g)) 0 45 := ⟨by omega, p2⟩
    refine ⟨zg_mulB (A := 20) (B := 45) (hc m hm g hg) hb (by omega) (by omega), ?_⟩
    have m1 : (cn J m g).toInt * (nI (10 + 5 * g)).toInt ≤ 20 * 45 := Int.mul_le_mul c2 p2 (by omega) (by omega)
    have m2 : (cn J m g).toInt * 1 ≤ (cn J m g).toInt * (nI (10 + 5 * g)).toInt := Int.mul_le_mul_of_nonneg_left p1 c1
    unfold zFpT
    rw [zg_mul (by omega) (by omega)]
    omega
  refine ⟨h1, ?_⟩
  have := zg_lsum (f := zFpT (cn J m)) (B := 900) (by omega) 8 (by omega) (fun g hg => (h1 g hg).1)
  exact zRg_le this (by omega)
theorem zFp_pos {cn : Nat → Nat → Nat → Int32} {J : Nat} (hc : ∀ m, m < 6 → ∀ g, g < 8 → zRg (cn J m g) 0 20) (hp : 0 < (zPie (cn J)).toInt) : 0 < (lsum (zFpP cn J) 6).toInt := by
  have b1 : ∀ m, m < 6 → zRg (zPieT (cn J) m) 0 160 := fun m hm => zRg_le (zg_lsum (f := cn J m) (B := 20) (by omega) 8 (by omega) (fun g hg => hc m hm g hg)) (by omega)
  have e1 := lsum_int (f := zPieT (cn J)) (B := 160) (by omega) 6 (by omega) b1
  have e2 := lsum_int (f := zFpP cn J) (B := 7200) (by omega) 6 (by omega) (fun m hm => (zFp_rg hc hm).2)
  have hm : isum (fun m => (zPieT (cn J) m).toInt) 6 ≤ isum (fun m => (zFpP cn J m).toInt) 6 := isum_mono (fun m hm => by
    have f1 := lsum_int (f := cn J m) (B := 20) (by omega) 8 (by omega) (fun g hg => hc m hm g hg)
    have f2 := lsum_int (f := zFpT (cn J m)) (B := 900) (by omega) 8 (by omega) (fun g hg => ((zFp_rg hc hm).1 g hg).1)
    have f3 : isum (fun g => (cn J m g).toInt) 8 ≤ isum (fun g => (zFpT (cn J m) g).toInt) 8 := isum_mono (fun g hg => ((zFp_rg hc hm).1 g hg).2)
    show (lsum (cn J m) 8).toInt ≤ (lsum (zFpT (cn J m)) 8).toInt
    omega)
  have hp' : 0 < (lsum (zPieT (cn J)) 6).toInt := hp
  omega
theorem zDutyC_rg {st : Nat → Int32} {v : Int32} (hv : zRg v 0 100000) (h5 : 0 ≤ (st 5).toInt ∧ (st 5).toInt ≤ 500) (h6 : 0 ≤ (st 6).toInt ∧ (st 6).toInt ≤ 50) : zRg (zDutyC st v) 0 50000 := by
  obtain ⟨v1, v2⟩ := hv
  have e := zg_sub (a := v) (b := st 5) (by omega) (by omega)
  have a1 : (nI 100).toInt = 100 := nI_toInt (by omega)
  have z0 : (nI 0).toInt = 0 := rfl
  have key : zRg (if v - st 5 < nI 0 then nI 0 else v - st 5) 0 100000 := by
    split
    · exact zRg_0 (by omega)
    · rename_i q
      rw [Int32.lt_iff_toInt_lt] at q
      unfold zRg; omega
  have hm := zg_mulB (A := 100000) (B := 50) key h6 (by omega) (by omega)
  obtain ⟨m1, m2⟩ := hm
  unfold zDutyC zRg
  rw [Int32.toInt_div, a1, Int.tdiv_eq_ediv_of_nonneg m1, zg_bm (by omega) (by omega)]
  omega
/-- the duty is paid -/
def zPc (c : zCl) (gc : Nat → Int32) (k : Nat) : zCl := (zCl.mk c.st c.dy c.x c.br c.sp c.wa (zC0 c.ac (zSubF c.ac gc) k) c.ps c.pp (zC0 c.pu (zAdd c.pu gc) k) c.lo c.un c.op c.pi c.cn c.vl c.du c.io c.hp c.hs)
theorem zPayD_R {gc gt : Nat → Int32} (h : zRA c s n ix) (hg : ∀ m, m < 6 → gt m = gc m) : ∀ k, k ≤ 6 → zRA (zPc c gc k) (zPayD s gt k) n ix
  | 0, _ => by
    unfold zPc; rw [zC0_0, zC0_0]; exact h
  | k + 1, hk => by
    have ih := zPayD_R h hg k (by omega)
    have a1 : zPayD s gt k (15 + 22 * k + 0) = c.ac k := ((ih.2.1 k (by omega)).1).trans (zC0_ge (Nat.le_refl k))
    have a2 : zPayD s gt k (15 + 22 * k + 4) = c.pu k := ((ih.2.1 k (by omega)).2.2.2.2.1).trans (zC0_ge (Nat.le_refl k))
    have e : zPayD s gt (k + 1) = upd (upd (zPayD s gt k) (15 + 22 * k + 0) (zSubF c.ac gc k)) (15 + 22 * k + 4) (zAdd c.pu gc k) := by
      show upd (upd (zPayD s gt k) (15 + 22 * k + 0) (zPayD s gt k (15 + 22 * k + 0) - gt k)) (15 + 22 * k + 4) (upd (zPayD s gt k) (15 + 22 * k + 0) (zPayD s gt k (15 + 22 * k + 0) - gt k) (15 + 22 * k + 4) + gt k) = _
      rw [pk_un (show 15 + 22 * k + 4 ≠ 15 + 22 * k + 0 by omega), a1, a2, hg k (by omega)]
      rfl
    have hx := w_pu (w_ac ih (show k < 6 by omega) (zSubF c.ac gc k)) (show k < 6 by omega) (zAdd c.pu gc k)
    rw [e]
    have ec : zPc c gc (k + 1) = (zCl.mk c.st c.dy c.x c.br c.sp c.wa (upd (zC0 c.ac (zSubF c.ac gc) k) k (zSubF c.ac gc k)) c.ps c.pp (upd (zC0 c.pu (zAdd c.pu gc) k) k (zAdd c.pu gc k)) c.lo c.un c.op c.pi c.cn c.vl c.du c.io c.hp c.hs) := by
      unfold zPc; rw [zC0_s, zC0_s]
    rw [ec]; exact hx
theorem zPay_R (h : zRB c s n ix) {J : Nat} (hr : zRp c s p J) (hv : zRg (c.vl J) 0 100000) (h5 : 0 ≤ (c.st 5).toInt ∧ (c.st 5).toInt ≤ 500) (h6 : 0 ≤ (c.st 6).toInt ∧ (c.st 6).toInt ≤ 50) (hc : ∀ m, m < 6 → ∀ g, g < 8 → zRg (c.cn J m g) 0 20) (hp : 0 < (zPie (c.cn J)).toInt) : zRB (zPayC c J) (zPd s sT sG p) n ix := by
  obtain ⟨hA, h12, h13⟩ := h
  have ed : zDutyOf s p = zDutyC c.st (c.vl J) := by
    unfold zDutyOf; rw [hr.1]; exact (zDuty_eq hA.1.1 h5 hv).symm
  have hprc : ∀ k, k < 6 → zC0 sT (zPrc s p) 6 k = zC0 c.hp (zFpP c.cn J) 6 k := by
    intro k hk
    rw [zC0_lt hk, zC0_lt hk]
    exact lsum_congr (fun g hg => by
      unfold zPrcT zFpT
      rw [hr.2.2.2 k hk g hg, Int32.mul_comm])
  have hg : ∀ m, m < 6 → zPdG s sT sG p m = zGets (zDutyC c.st (c.vl J)) (zC0 c.hp (zFpP c.cn J) 6) c.hs m := by
    intro m hm
    unfold zPdG; rw [ed]
    exact zGets_congr _ hprc hm
  have hsum : lsum (zGets (zDutyC c.st (c.vl J)) (zC0 c.hp (zFpP c.cn J) 6) c.hs) 6 = zDutyC c.st (c.vl J) := by
    rw [show lsum (zGets (zDutyC c.st (c.vl J)) (zC0 c.hp (zFpP c.cn J) 6) c.hs) 6 = lsum (zGet (zDutyC c.st (c.vl J)) (zC0 c.hp (zFpP c.cn J) 6)) 6 from lsum_congr (fun m hm => zGets_at _ _ _ hm)]
    refine zGet_all (zDutyC_rg hv h5 h6) (fun m hm => ?_) ?_
    · rw [zC0_lt hm]; exact (zFp_rg hc hm).2
    · rw [zC0_sum]; exact zFp_pos hc hp
  have h1 := w_12 (zPayD_R hA hg 6 (Nat.le_refl _)) (s 12 + zDutyOf s p)
  refine ⟨zRA_ext h1 (by simp only [zPayC, zPc, zpq_st]) (by simp only [zPayC, zPc, zpq_dy]) (by simp only [zPayC, zPc, zpq_x]) (by simp only [zPayC, zPc, zpq_br]) (by simp only [zPayC, zPc, zpq_sp]) (by simp only [zPayC, zPc, zpq_wa]) (by simp only [zPayC, zPc, zpq_ac]) (by simp only [zPayC, zPc, zpq_ps]) (by simp only [zPayC, zPc, zpq_pp]) (by simp only [zPayC, zPc, zpq_pu]) (by simp only [zPayC, zPc, zpq_lo]) (by simp only [zPayC, zPc, zpq_op]) (by simp only [zPayC, zPc, zpq_pi]) (by simp only [zPayC, zPc, zpq_cn]) (by simp only [zPayC, zPc, zpq_vl]) (by simp only [zPayC, zPc, zpq_du]) (by simp only [zPayC, zPc, zpq_io]), ?_, ?_⟩
  · have e9 : (zPayC c J).pu = zC0 c.pu (zAdd c.pu (zGets (zDutyC c.st (c.vl J)) (zC0 c.hp (zFpP c.cn J) 6) c.hs)) 6 := by simp only [zPayC, zpq_pu]
    rw [e9]
    unfold zPd
    rw [pk_us, zC0_sum, h12, ed]
    have : lsum (zAdd c.pu (zGets (zDutyC c.st (c.vl J)) (zC0 c.hp (zFpP c.cn J) 6) c.hs)) 6 = lsum c.pu 6 + lsum (zGets (zDutyC c.st (c.vl J)) (zC0 c.hp (zFpP c.cn J) 6) c.hs) 6 := lsum_add _ _ 6
    rw [this, hsum]
  · have e9 : (zPayC c J).lo = c.lo := by simp only [zPayC, zpq_lo]
    rw [e9]
    unfold zPd
    rw [pk_un (by omega), zPayD_lo (by omega)]; exact h13
/-- a string is lost -/
theorem zLsC_eq (f : Nat → Int32) (l : Int32) : ∀ k, zLsC f l k = l - lsum f k
  | 0 => (Int32.sub_zero l).symm
  | k + 1 => by
    show zLsC f l k - f k = l - (lsum f k + f k)
    rw [zLsC_eq f l k]; grind
theorem zFl_sum (cn : Nat → Nat → Int32) : lsum (zFl cn) 48 = zPie cn := by
  rw [show (48 : Nat) = 6 * 8 from rfl, lsum_block]
  exact lsum_congr (fun m hm => lsum_congr (fun g hg => zFl_at cn m hg))
theorem zAtP_lt {cn : Nat → Nat → Int32} {l : Int32} (hc : ∀ m, m < 6 → ∀ g, g < 8 → zRg (cn m g) 0 20) (h0 : 0 ≤ l.toInt) (hl : l.toInt < (zPie cn).toInt) : zAtP cn l < 48 := by
  rcases Nat.lt_or_ge (zAtP cn l) 48 with q | q
  · exact q
  · exfalso
    have hf : ∀ k, k < 48 → zRg (zFl cn k) 0 20 := fun k hk => hc _ (by omega) _ (by omega)
    have hm := zAtC_miss (f := zFl cn) (l := l) (n := 48) (k := 0) 47 (by omega) (by show 47 < zAtP cn l; omega)
    rw [zLsC_eq, Int32.lt_iff_toInt_lt] at hm
    obtain ⟨b1, b2⟩ := zg_lsum (f := zFl cn) (B := 20) (by omega) 47 (by omega) (fun k hk => hf k (by omega))
    obtain ⟨d1, d2⟩ := hf 47 (by omega)
    have e := zFl_sum cn
    rw [← e] at hl
    have e2 : (lsum (zFl cn) 48).toInt = (lsum (zFl cn) 47).toInt + (zFl cn 47).toInt := by
      rw [lsum_s, zg_add (by omega) (by omega)]
    have := Int32.toInt_lt l
    rw [zg_sub (by omega) (by omega)] at hm
    omega
theorem zAt_eq {S : Nat → Int32} {cn : Nat → Nat → Int32} {l : Int32} (h : ∀ k, k < 48 → S (147 + 51 * p + (3 + k)) = zFl cn k) : zAt S p l = zAtP cn l := by
  have h1 : ∀ k, k ≤ 48 → zLs S p l k = zLsC (zFl cn) l k := by
    intro k
    induction k with
    | zero => intro _; rfl
    | succ k ih => intro hk; show zLs S p l k - S (147 + 51 * p + (3 + k)) = zLsC (zFl cn) l k - zFl cn k; rw [ih (by omega), h k (by omega)]
  have h2 : ∀ m k, k + m ≤ 48 → zAtF S p l m k = zAtC (zFl cn) l m k := by
    intro m
    induction m with
    | zero => intro k _; rfl
    | succ m ih =>
      intro k hk
      unfold zAtF zAtC
      rw [h1 k (by omega), h k (by omega), ih (k + 1) (by omega)]
  exact h2 48 0 (Nat.le_refl _)
theorem zLose_R (h : zRB c s n ix) (hp : p < n) (hj : ∀ q, q < n → c.pi (ix q) = c.pi (ix p) → q = p) (hc : ∀ m, m < 6 → ∀ g, g < 8 → zRg (c.cn (c.pi (ix p)) m g) 0 20) (hpos : 0 < (zPie (c.cn (c.pi (ix p)))).toInt) (hx : zRg c.x 0 2147483647) : zLat s p = zAtP (c.cn (c.pi (ix p))) (zDr (zNx c.x) (zPie (c.cn (c.pi (ix p))))) ∧ zAtP (c.cn (c.pi (ix p))) (zDr (zNx c.x) (zPie (c.cn (c.pi (ix p))))) < 48 ∧ zRB ((zCl.mk c.st c.dy (zNx c.x) c.br c.sp c.wa c.ac c.ps c.pp c.pu (upd c.lo (zAtP (c.cn (c.pi (ix p))) (zDr (zNx c.x) (zPie (c.cn (c.pi (ix p))))) / 8) (c.lo (zAtP (c.cn (c.pi (ix p))) (zDr (zNx c.x) (zPie (c.cn (c.pi (ix p))))) / 8) + nI 1)) c.un c.op c.pi (va_up c.cn (c.pi (ix p)) (zLosC (c.cn (c.pi (ix p))) (zDr (zNx c.x) (zPie (c.cn (c.pi (ix p))))))) c.vl c.du c.io c.hp c.hs)) (zLose s p) n ix := by
  obtain ⟨hA, h12, h13⟩ := h
  have hr := hA.2.2.2 p hp
  have hpc : zPcs s p = zPie (c.cn (c.pi (ix p))) := (zPie_eq hr).symm
  obtain ⟨l1, l2⟩ := zDr_rg (zNx_rg hx) hpos
  have hlt := zAtP_lt hc l1 l2
  have hat : zLat s p = zAtP (c.cn (c.pi (ix p))) (zDr (zNx c.x) (zPie (c.cn (c.pi (ix p))))) := by
    unfold zLat
    rw [hpc, hA.1.2.2.1]
    refine zAt_eq (fun k hk => ?_)
    unfold zLd
    rw [pk_un (by omega)]
    unfold zFl
    rw [show 147 + 51 * p + (3 + k) = 147 + 51 * p + (3 + 8 * (k / 8) + k % 8) by omega]
    exact hr.2.2.2 _ (by omega) _ (by omega)
  refine ⟨hat, hlt, ?_⟩
  generalize hl : zDr (zNx c.x) (zPie (c.cn (c.pi (ix p)))) = l at *
  generalize ha : zAtP (c.cn (c.pi (ix p))) l = at' at *
  have h1 := w_x hA (zNx c.x)
  have h2 := w_cn h1 hp (m0 := at' / 8) (g0 := at' % 8) (by omega) (by omega) (by simp only [zpq_pi]; exact hj) (c.cn (c.pi (ix p)) (at' / 8) (at' % 8) - nI 1)
  simp only [zpq_st, zpq_dy, zpq_x, zpq_br, zpq_sp, zpq_wa, zpq_ac, zpq_ps, zpq_pp, zpq_pu, zpq_lo, zpq_un, zpq_op, zpq_pi, zpq_cn, zpq_vl, zpq_du, zpq_io, zpq_hp, zpq_hs] at h2
  have h3 := w_lo h2 (m0 := at' / 8) (by omega) (c.lo (at' / 8) + nI 1)
  have h4 := w_13 h3 (s 13 + nI 1)
  simp only [zpq_st, zpq_dy, zpq_x, zpq_br, zpq_sp, zpq_wa, zpq_ac, zpq_ps, zpq_pp, zpq_pu, zpq_lo, zpq_un, zpq_op, zpq_pi, zpq_cn, zpq_vl, zpq_du, zpq_io, zpq_hp, zpq_hs] at h3 h4
  have ecn : zLosC (c.cn (c.pi (ix p))) l = va_up (c.cn (c.pi (ix p))) (at' / 8) (upd (c.cn (c.pi (ix p)) (at' / 8)) (at' % 8) (c.cn (c.pi (ix p)) (at' / 8) (at' % 8) - nI 1)) := by
    unfold zLosC; rw [ha]
  have e : zLose s p = upd (upd (upd (upd s 10 (zNx c.x)) (147 + 51 * p + (3 + 8 * (at' / 8) + at' % 8)) (c.cn (c.pi (ix p)) (at' / 8) (at' % 8) - nI 1)) (15 + 22 * (at' / 8) + 5) (c.lo (at' / 8) + nI 1)) 13 (s 13 + nI 1) := by
    unfold zLose
    dsimp only
    rw [hat]
    unfold zLd
    rw [hA.1.2.2.1, show 147 + 51 * p + (3 + at') = 147 + 51 * p + (3 + 8 * (at' / 8) + at' % 8) by omega]
    have q1 := (h1.2.2.2 p hp).2.2.2 (at' / 8) (by omega) (at' % 8) (by omega)
    have q2 := (h2.2.1 (at' / 8) (by omega)).2.2.2.2.2
    simp only [zpq_st, zpq_dy, zpq_x, zpq_br, zpq_sp, zpq_wa, zpq_ac, zpq_ps, zpq_pp, zpq_pu, zpq_lo, zpq_un, zpq_op, zpq_pi, zpq_cn, zpq_vl, zpq_du, zpq_io, zpq_hp, zpq_hs] at q1 q2
    rw [q1, q2]
  rw [e]
  refine ⟨?_, ?_, ?_⟩
  · rw [ecn]; exact h4
  · rw [zpq_pu, pk_un (by omega), pk_un (by omega), pk_un (by omega), pk_un (by omega)]; exact h12
  · rw [zpq_lo, pk_us, lsum_upd c.lo (nI 1) (by omega), h13]
end CU
