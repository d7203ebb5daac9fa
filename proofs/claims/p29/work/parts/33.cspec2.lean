/-! what a club reckons -/
abbrev zCl : Type := (Nat → Int32) × (Int32) × (Int32) × (Nat → Int32) × (Nat → Nat → Int32) × (Nat → Nat → Int32) × (Nat → Int32) × (Nat → Int32) × (Nat → Int32) × (Nat → Int32) × (Nat → Int32) × (Nat) × (Int32) × (Nat → Nat) × (Nat → Nat → Nat → Int32) × (Nat → Int32) × (Nat → Int32) × (Nat → Bool) × (Nat → Int32) × (Nat → Int32)
def zCl.mk (st : Nat → Int32) (dy : Int32) (x : Int32) (br : Nat → Int32) (sp : Nat → Nat → Int32) (wa : Nat → Nat → Int32) (ac : Nat → Int32) (ps : Nat → Int32) (pp : Nat → Int32) (pu : Nat → Int32) (lo : Nat → Int32) (un : Nat) (op : Int32) (pi : Nat → Nat) (cn : Nat → Nat → Nat → Int32) (vl : Nat → Int32) (du : Nat → Int32) (io : Nat → Bool) (hp : Nat → Int32) (hs : Nat → Int32) : zCl := (st, dy, x, br, sp, wa, ac, ps, pp, pu, lo, un, op, pi, cn, vl, du, io, hp, hs)
def zCl.st (c : zCl) : Nat → Int32 := c.1
def zCl.dy (c : zCl) : Int32 := c.2.1
def zCl.x (c : zCl) : Int32 := c.2.2.1
def zCl.br (c : zCl) : Nat → Int32 := c.2.2.2.1
def zCl.sp (c : zCl) : Nat → Nat → Int32 := c.2.2.2.2.1
def zCl.wa (c : zCl) : Nat → Nat → Int32 := c.2.2.2.2.2.1
def zCl.ac (c : zCl) : Nat → Int32 := c.2.2.2.2.2.2.1
def zCl.ps (c : zCl) : Nat → Int32 := c.2.2.2.2.2.2.2.1
def zCl.pp (c : zCl) : Nat → Int32 := c.2.2.2.2.2.2.2.2.1
def zCl.pu (c : zCl) : Nat → Int32 := c.2.2.2.2.2.2.2.2.2.1
def zCl.lo (c : zCl) : Nat → Int32 := c.2.2.2.2.2.2.2.2.2.2.1
def zCl.un (c : zCl) : Nat := c.2.2.2.2.2.2.2.2.2.2.2.1
def zCl.op (c : zCl) : Int32 := c.2.2.2.2.2.2.2.2.2.2.2.2.1
def zCl.pi (c : zCl) : Nat → Nat := c.2.2.2.2.2.2.2.2.2.2.2.2.2.1
def zCl.cn (c : zCl) : Nat → Nat → Nat → Int32 := c.2.2.2.2.2.2.2.2.2.2.2.2.2.2.1
def zCl.vl (c : zCl) : Nat → Int32 := c.2.2.2.2.2.2.2.2.2.2.2.2.2.2.2.1
def zCl.du (c : zCl) : Nat → Int32 := c.2.2.2.2.2.2.2.2.2.2.2.2.2.2.2.2.1
def zCl.io (c : zCl) : Nat → Bool := c.2.2.2.2.2.2.2.2.2.2.2.2.2.2.2.2.2.1
def zCl.hp (c : zCl) : Nat → Int32 := c.2.2.2.2.2.2.2.2.2.2.2.2.2.2.2.2.2.2.1
def zCl.hs (c : zCl) : Nat → Int32 := c.2.2.2.2.2.2.2.2.2.2.2.2.2.2.2.2.2.2.2
theorem zp_st (st : Nat → Int32) (dy : Int32) (x : Int32) (br : Nat → Int32) (sp : Nat → Nat → Int32) (wa : Nat → Nat → Int32) (ac : Nat → Int32) (ps : Nat → Int32) (pp : Nat → Int32) (pu : Nat → Int32) (lo : Nat → Int32) (un : Nat) (op : Int32) (pi : Nat → Nat) (cn : Nat → Nat → Nat → Int32) (vl : Nat → Int32) (du : Nat → Int32) (io : Nat → Bool) (hp : Nat → Int32) (hs : Nat → Int32) : (zCl.mk st dy x br sp wa ac ps pp pu lo un op pi cn vl du io hp hs).st = st := rfl
theorem zp_dy (st : Nat → Int32) (dy : Int32) (x : Int32) (br : Nat → Int32) (sp : Nat → Nat → Int32) (wa : Nat → Nat → Int32) (ac : Nat → Int32) (ps : Nat → Int32) (pp : Nat → Int32) (pu : Nat → Int32) (lo : Nat → Int32) (un : Nat) (op : Int32) (pi : Nat → Nat) (cn : Nat → Nat → Nat → Int32) (vl : Nat → Int32) (du : Nat → Int32) (io : Nat → Bool) (hp : Nat → Int32) (hs : Nat → Int32) : (zCl.mk st dy x br sp wa ac ps pp pu lo un op pi cn vl du io hp hs).dy = dy := rfl
theorem zp_x (st : Nat → Int32) (dy : Int32) (x : Int32) (br : Nat → Int32) (sp : Nat → Nat → Int32) (wa : Nat → Nat → Int32) (ac : Nat → Int32) (ps : Nat → Int32) (pp : Nat → Int32) (pu : Nat → Int32) (lo : Nat → Int32) (un : Nat) (op : Int32) (pi : Nat → Nat) (cn : Nat → Nat → Nat → Int32) (vl : Nat → Int32) (du : Nat → Int32) (io : Nat → Bool) (hp : Nat → Int32) (hs : Nat → Int32) : (zCl.mk st dy x br sp wa ac ps pp pu lo un op pi cn vl du io hp hs).x = x := rfl
theorem zp_br (st : Nat → Int32) (dy : Int32) (x : Int32) (br : Nat → Int32) (sp : Nat → Nat → Int32) (wa : Nat → Nat → Int32) (ac : Nat → Int32) (ps : Nat → Int32) (pp : Nat → Int32) (pu : Nat → Int32) (lo : Nat → Int32) (un : Nat) (op : Int32) (pi : Nat → Nat) (cn : Nat → Nat → Nat → Int32) (vl : Nat → Int32) (du : Nat → Int32) (io : Nat → Bool) (hp : Nat → Int32) (hs : Nat → Int32) : (zCl.mk st dy x br sp wa ac ps pp pu lo un op pi cn vl du io hp hs).br = br := rfl
theorem zp_sp (st : Nat → Int32) (dy : Int32) (x : Int32) (br : Nat → Int32) (sp : Nat → Nat → Int32) (wa : Nat → Nat → Int32) (ac : Nat → Int32) (ps : Nat → Int32) (pp : Nat → Int32) (pu : Nat → Int32) (lo : Nat → Int32) (un : Nat) (op : Int32) (pi : Nat → Nat) (cn : Nat → Nat → Nat → Int32) (vl : Nat → Int32) (du : Nat → Int32) (io : Nat → Bool) (hp : Nat → Int32) (hs : Nat → Int32) : (zCl.mk st dy x br sp wa ac ps pp pu lo un op pi cn vl du io hp hs).sp = sp := rfl
theorem zp_wa (st : Nat → Int32) (dy : Int32) (x : Int32) (br : Nat → Int32) (sp : Nat → Nat → Int32) (wa : Nat → Nat → Int32) (ac : Nat → Int32) (ps : Nat → Int32) (pp : Nat → Int32) (pu : Nat → Int32) (lo : Nat → Int32) (un : Nat) (op : Int32) (pi : Nat → Nat) (cn : Nat → Nat → Nat → Int32) (vl : Nat → Int32) (du : Nat → Int32) (io : Nat → Bool) (hp : Nat → Int32) (hs : Nat → Int32) : (zCl.mk st dy x br sp wa ac ps pp pu lo un op pi cn vl du io hp hs).wa = wa := rfl
theorem zp_ac (st : Nat → Int32) (dy : Int32) (x : Int32) (br : Nat → Int32) (sp : Nat → Nat → Int32) (wa : Nat → Nat → Int32) (ac : Nat → Int32) (ps : Nat → Int32) (pp : Nat → Int32) (pu : Nat → Int32) (lo : Nat → Int32) (un : Nat) (op : Int32) (pi : Nat → Nat) (cn : Nat → Nat → Nat → Int32) (vl : Nat → Int32) (du : Nat → Int32) (io : Nat → Bool) (hp : Nat → Int32) (hs : Nat → Int32) : (zCl.mk st dy x br sp wa ac ps pp pu lo un op pi cn vl du io hp hs).ac = ac := rfl
theorem zp_ps (st : Nat → Int32) (dy : Int32) (x : Int32) (br : Nat → Int32) (sp : Nat → Nat → Int32) (wa : Nat → Nat → Int32) (ac : Nat → Int32) (ps : Nat → Int32) (pp : Nat → Int32) (pu : Nat → Int32) (lo : Nat → Int32) (un : Nat) (op : Int32) (pi : Nat → Nat) (cn : Nat → Nat → Nat → Int32) (vl : Nat → Int32) (du : Nat → Int32) (io : Nat → Bool) (hp : Nat → Int32) (hs : Nat → Int32) : (zCl.mk st dy x br sp wa ac ps pp pu lo un op pi cn vl du io hp hs).ps = ps := rfl
theorem zp_pp (st : Nat → Int32) (dy : Int32) (x : Int32) (br : Nat → Int32) (sp : Nat → Nat → Int32) (wa : Nat → Nat → Int32) (ac : Nat → Int32) (ps : Nat → Int32) (pp : Nat → Int32) (pu : Nat → Int32) (lo : Nat → Int32) (un : Nat) (op : Int32) (pi : Nat → Nat) (cn : Nat → Nat → Nat → Int32) (vl : Nat → Int32) (du : Nat → Int32) (io : Nat → Bool) (hp : Nat → Int32) (hs : Nat → Int32) : (zCl.mk st dy x br sp wa ac ps pp pu lo un op pi cn vl du io hp hs).pp = pp := rfl
theorem zp_pu (st : Nat → Int32) (dy : Int32) (x : Int32) (br : Nat → Int32) (sp : Nat → Nat → Int32) (wa : Nat → Nat → Int32) (ac : Nat → Int32) (ps : Nat → Int32) (pp : Nat → Int32) (pu : Nat → Int32) (lo : Nat → Int32) (un : Nat) (op : Int32) (pi : Nat → Nat) (cn : Nat → Nat → Nat → Int32) (vl : Nat → Int32) (du : Nat → Int32) (io : Nat → Bool) (hp : Nat → Int32) (hs : Nat → Int32) : (zCl.mk st dy x br sp wa ac ps pp pu lo un op pi cn vl du io hp hs).pu = pu := rfl
theorem zp_lo (st : Nat → Int32) (dy : Int32) (x : Int32) (br : Nat → Int32) (sp : Nat → Nat → Int32) (wa : Nat → Nat → Int32) (ac : Nat → Int32) (ps : Nat → Int32) (pp : Nat → Int32) (pu : Nat → Int32) (lo : Nat → Int32) (un : Nat) (op : Int32) (pi : Nat → Nat) (cn : Nat → Nat → Nat → Int32) (vl : Nat → Int32) (du : Nat → Int32) (io : Nat → Bool) (hp : Nat → Int32) (hs : Nat → Int32) : (zCl.mk st dy x br sp wa ac ps pp pu lo un op pi cn vl du io hp hs).lo = lo := rfl
theorem zp_un (st : Nat → Int32) (dy : Int32) (x : Int32) (br : Nat → Int32) (sp : Nat → Nat → Int32) (wa : Nat → Nat → Int32) (ac : Nat → Int32) (ps : Nat → Int32) (pp : Nat → Int32) (pu : Nat → Int32) (lo : Nat → Int32) (un : Nat) (op : Int32) (pi : Nat → Nat) (cn : Nat → Nat → Nat → Int32) (vl : Nat → Int32) (du : Nat → Int32) (io : Nat → Bool) (hp : Nat → Int32) (hs : Nat → Int32) : (zCl.mk st dy x br sp wa ac ps pp pu lo un op pi cn vl du io hp hs).un = un := rfl
theorem zp_op (st : Nat → Int32) (dy : Int32) (x : Int32) (br : Nat → Int32) (sp : Nat → Nat → Int32) (wa : Nat → Nat → Int32) (ac : Nat → Int32) (ps : Nat → Int32) (pp : Nat → Int32) (pu : Nat → Int32) (lo : Nat → Int32) (un : Nat) (op : Int32) (pi : Nat → Nat) (cn : Nat → Nat → Nat → Int32) (vl : Nat → Int32) (du : Nat → Int32) (io : Nat → Bool) (hp : Nat → Int32) (hs : Nat → Int32) : (zCl.mk st dy x br sp wa ac ps pp pu lo un op pi cn vl du io hp hs).op = op := rfl
theorem zp_pi (st : Nat → Int32) (dy : Int32) (x : Int32) (br : Nat → Int32) (sp : Nat → Nat → Int32) (wa : Nat → Nat → Int32) (ac : Nat → Int32) (ps : Nat → Int32) (pp : Nat → Int32) (pu : Nat → Int32) (lo : Nat → Int32) (un : Nat) (op : Int32) (pi : Nat → Nat) (cn : Nat → Nat → Nat → Int32) (vl : Nat → Int32) (du : Nat → Int32) (io : Nat → Bool) (hp : Nat → Int32) (hs : Nat → Int32) : (zCl.mk st dy x br sp wa ac ps pp pu lo un op pi cn vl du io hp hs).pi = pi := rfl
theorem zp_cn (st : Nat → Int32) (dy : Int32) (x : Int32) (br : Nat → Int32) (sp : Nat → Nat → Int32) (wa : Nat → Nat → Int32) (ac : Nat → Int32) (ps : Nat → Int32) (pp : Nat → Int32) (pu : Nat → Int32) (lo : Nat → Int32) (un : Nat) (op : Int32) (pi : Nat → Nat) (cn : Nat → Nat → Nat → Int32) (vl : Nat → Int32) (du : Nat → Int32) (io : Nat → Bool) (hp : Nat → Int32) (hs : Nat → Int32) : (zCl.mk st dy x br sp wa ac ps pp pu lo un op pi cn vl du io hp hs).cn = cn := rfl
theorem zp_vl (st : Nat → Int32) (dy : Int32) (x : Int32) (br : Nat → Int32) (sp : Nat → Nat → Int32) (wa : Nat → Nat → Int32) (ac : Nat → Int32) (ps : Nat → Int32) (pp : Nat → Int32) (pu : Nat → Int32) (lo : Nat → Int32) (un : Nat) (op : Int32) (pi : Nat → Nat) (cn : Nat → Nat → Nat → Int32) (vl : Nat → Int32) (du : Nat → Int32) (io : Nat → Bool) (hp : Nat → Int32) (hs : Nat → Int32) : (zCl.mk st dy x br sp wa ac ps pp pu lo un op pi cn vl du io hp hs).vl = vl := rfl
theorem zp_du (st : Nat → Int32) (dy : Int32) (x : Int32) (br : Nat → Int32) (sp : Nat → Nat → Int32) (wa : Nat → Nat → Int32) (ac : Nat → Int32) (ps : Nat → Int32) (pp : Nat → Int32) (pu : Nat → Int32) (lo : Nat → Int32) (un : Nat) (op : Int32) (pi : Nat → Nat) (cn : Nat → Nat → Nat → Int32) (vl : Nat → Int32) (du : Nat → Int32) (io : Nat → Bool) (hp : Nat → Int32) (hs : Nat → Int32) : (zCl.mk st dy x br sp wa ac ps pp pu lo un op pi cn vl du io hp hs).du = du := rfl
theorem zp_io (st : Nat → Int32) (dy : Int32) (x : Int32) (br : Nat → Int32) (sp : Nat → Nat → Int32) (wa : Nat → Nat → Int32) (ac : Nat → Int32) (ps : Nat → Int32) (pp : Nat → Int32) (pu : Nat → Int32) (lo : Nat → Int32) (un : Nat) (op : Int32) (pi : Nat → Nat) (cn : Nat → Nat → Nat → Int32) (vl : Nat → Int32) (du : Nat → Int32) (io : Nat → Bool) (hp : Nat → Int32) (hs : Nat → Int32) : (zCl.mk st dy x br sp wa ac ps pp pu lo un op pi cn vl du io hp hs).io = io := rfl
theorem zp_hp (st : Nat → Int32) (dy : Int32) (x : Int32) (br : Nat → Int32) (sp : Nat → Nat → Int32) (wa : Nat → Nat → Int32) (ac : Nat → Int32) (ps : Nat → Int32) (pp : Nat → Int32) (pu : Nat → Int32) (lo : Nat → Int32) (un : Nat) (op : Int32) (pi : Nat → Nat) (cn : Nat → Nat → Nat → Int32) (vl : Nat → Int32) (du : Nat → Int32) (io : Nat → Bool) (hp : Nat → Int32) (hs : Nat → Int32) : (zCl.mk st dy x br sp wa ac ps pp pu lo un op pi cn vl du io hp hs).hp = hp := rfl
theorem zp_hs (st : Nat → Int32) (dy : Int32) (x : Int32) (br : Nat → Int32) (sp : Nat → Nat → Int32) (wa : Nat → Nat → Int32) (ac : Nat → Int32) (ps : Nat → Int32) (pp : Nat → Int32) (pu : Nat → Int32) (lo : Nat → Int32) (un : Nat) (op : Int32) (pi : Nat → Nat) (cn : Nat → Nat → Nat → Int32) (vl : Nat → Int32) (du : Nat → Int32) (io : Nat → Bool) (hp : Nat → Int32) (hs : Nat → Int32) : (zCl.mk st dy x br sp wa ac ps pp pu lo un op pi cn vl du io hp hs).hs = hs := rfl
theorem va_up_up {α : Type} (f : Nat → α) (j : Nat) (a b : α) : va_up (va_up f j a) j b = va_up f j b := by
  funext i
  by_cases h : i = j
  · subst h; rw [va_up_self, va_up_self]
  · rw [va_up_ne _ _ h, va_up_ne _ _ h, va_up_ne _ _ h]
/-! a string is lost -/
def zFl (cn : Nat → Nat → Int32) (k : Nat) : Int32 := cn (k / 8) (k % 8)
def zLsC (f : Nat → Int32) (l : Int32) : Nat → Int32
  | 0 => l
  | k + 1 => zLsC f l k - f k
def zAtC (f : Nat → Int32) (l : Int32) : Nat → Nat → Nat
  | 0, k => k
  | n + 1, k => if zLsC f l k < f k then k else zAtC f l n (k + 1)
theorem zAtC_hit {f : Nat → Int32} {l : Int32} : ∀ {n k : Nat}, zAtC f l n k < k + n → zLsC f l (zAtC f l n k) < f (zAtC f l n k)
  | 0, k, h => by simp [zAtC] at h
  | n + 1, k, h => by
    unfold zAtC at h ⊢
    split
    · assumption
    · rename_i hc
      rw [if_neg hc] at h
      exact zAtC_hit (by omega)
theorem zAtC_miss {f : Nat → Int32} {l : Int32} : ∀ {n k : Nat}, ∀ j, k ≤ j → j < zAtC f l n k → ¬ zLsC f l j < f j
  | 0, k, j, h1, h2 => by simp [zAtC] at h2; omega
  | n + 1, k, j, h1, h2 => by
    unfold zAtC at h2
    split at h2
    · omega
    · rename_i hc
      rcases Nat.eq_or_lt_of_le h1 with e | e
      · subst e; exact hc
      · exact zAtC_miss j (by omega) h2
def zAtP (cn : Nat → Nat → Int32) (l : Int32) : Nat := zAtC (zFl cn) l 48 0
theorem zFl_at (cn : Nat → Nat → Int32) (m : Nat) {g : Nat} (hg : g < 8) : zFl cn (8 * m + g) = cn m g := by
  unfold zFl; rw [show (8 * m + g) / 8 = m by omega, show (8 * m + g) % 8 = g by omega]
theorem zLsP_s (cn : Nat → Nat → Int32) (l : Int32) (m : Nat) {g : Nat} (hg : g < 8) : zLsC (zFl cn) l (8 * m + g) - cn m g = zLsC (zFl cn) l (8 * m + (g + 1)) := by
  rw [← zFl_at cn m hg]; rfl
theorem zAtP_is {cn : Nat → Nat → Int32} {l : Int32} {m g : Nat} (hg : g < 8) (hle : 8 * m + g ≤ zAtP cn l) (h : zLsC (zFl cn) l (8 * m + g) < cn m g) : zAtP cn l = 8 * m + g := by
  rcases Nat.eq_or_lt_of_le hle with e | e
  · exact e.symm
  · have := zAtC_miss (f := zFl cn) (l := l) (n := 48) (k := 0) (8 * m + g) (Nat.zero_le _) e
    rw [zFl_at cn m hg] at this
    exact absurd h this
theorem zAtP_no {cn : Nat → Nat → Int32} {l : Int32} {m g : Nat} (hg : g < 8) (h48 : zAtP cn l < 48) (h : ¬ zLsC (zFl cn) l (8 * m + g) < cn m g) : zAtP cn l ≠ 8 * m + g := by
  intro e
  have := zAtC_hit (f := zFl cn) (l := l) (n := 48) (k := 0) (by show zAtP cn l < 0 + 48; omega)
  rw [show zAtC (zFl cn) l 48 0 = 8 * m + g from e, zFl_at cn m hg] at this
  exact h this
def zLosC (cn : Nat → Nat → Int32) (l : Int32) : Nat → Nat → Int32 := va_up cn (zAtP cn l / 8) (upd (cn (zAtP cn l / 8)) (zAtP cn l % 8) (cn (zAtP cn l / 8) (zAtP cn l % 8) - nI 1))
theorem zLosC_at {cn : Nat → Nat → Int32} {l : Int32} {m g : Nat} (hg : g < 8) (h : zAtP cn l = 8 * m + g) : zLosC cn l = va_up cn m (upd (cn m) g (cn m g - nI 1)) := by
  unfold zLosC; rw [h, show (8 * m + g) / 8 = m by omega, show (8 * m + g) % 8 = g by omega]
/-! the customs -/
def zPayC (c : zCl) (j : Nat) : zCl :=
  (zCl.mk c.st c.dy c.x c.br c.sp c.wa (zC0 c.ac (zSubF c.ac (zGets (zDutyC c.st (c.vl j)) (zC0 c.hp (zFpP c.cn j) 6) c.hs)) 6) c.ps c.pp (zC0 c.pu (zAdd c.pu (zGets (zDutyC c.st (c.vl j)) (zC0 c.hp (zFpP c.cn j) 6) c.hs)) 6) c.lo c.un c.op c.pi c.cn c.vl c.du c.io (zC0 c.hp (zFpP c.cn j) 6) (zGets (zDutyC c.st (c.vl j)) (zC0 c.hp (zFpP c.cn j) 6) c.hs))
def zOa1 (c : zCl) (j : Nat) : zCl := zPayC (zCl.mk c.st c.dy c.x c.br c.sp c.wa c.ac c.ps c.pp c.pu c.lo c.un (c.op + nI 1) c.pi c.cn c.vl (va_up c.du j (c.dy + c.st 4)) (va_up c.io j true) c.hp c.hs) j
def zOaP (c : zCl) (j : Nat) : Int32 := zDrC (zNx c.x) (zPie (c.cn j))
def zOaL (c : zCl) (j : Nat) : zCl := (zCl.mk (zOa1 c j).st (zOa1 c j).dy (zNx (zNx c.x)) (zOa1 c j).br (zOa1 c j).sp (zOa1 c j).wa (zOa1 c j).ac (zOa1 c j).ps (zOa1 c j).pp (zOa1 c j).pu (upd c.lo (zAtP (c.cn j) (zOaP c j) / 8) (c.lo (zAtP (c.cn j) (zOaP c j) / 8) + nI 1)) (zOa1 c j).un (zOa1 c j).op (zOa1 c j).pi (va_up c.cn j (zLosC (c.cn j) (zOaP c j))) (zOa1 c j).vl (zOa1 c j).du (zOa1 c j).io (zOa1 c j).hp (zOa1 c j).hs)
def zOaN (c : zCl) (j : Nat) : zCl := (zCl.mk (zOa1 c j).st (zOa1 c j).dy (zNx c.x) (zOa1 c j).br (zOa1 c j).sp (zOa1 c j).wa (zOa1 c j).ac (zOa1 c j).ps (zOa1 c j).pp (zOa1 c j).pu (zOa1 c j).lo (zOa1 c j).un (zOa1 c j).op (zOa1 c j).pi (zOa1 c j).cn (zOa1 c j).vl (zOa1 c j).du (zOa1 c j).io (zOa1 c j).hp (zOa1 c j).hs)
def zOa (c : zCl) (j : Nat) : zCl := if zDrC c.x (nI 100) < c.st 8 then zOaL c j else zOaN c j
def zCome (c : zCl) (j : Nat) : zCl := if c.io j = true then c else if zDrC c.x (nI 100) < c.st 7 then zOa (zCl.mk c.st c.dy (zNx c.x) c.br c.sp c.wa c.ac c.ps c.pp c.pu c.lo c.un c.op c.pi c.cn c.vl c.du c.io c.hp c.hs) j else (zCl.mk c.st c.dy (zNx c.x) c.br c.sp c.wa c.ac c.ps c.pp c.pu c.lo c.un c.op c.pi c.cn c.vl c.du c.io c.hp c.hs)
def zComeB (c : zCl) (j : Nat) : Bool := if c.io j = true then true else if zDrC c.x (nI 100) < c.st 7 then decide (c.st 4 = 0) else true
/-- what holds where a parcel is opened -/
def zOaOk (c : zCl) (j : Nat) : Prop := 0 ≤ lsum (zC0 c.hp (zFpP c.cn j) 6) 6 ∧ zAtP (c.cn j) (zOaP c j) < 48
def zMin99 (v : Int32) : Int32 := if nI 99 < v then nI 99 else v
def zUnF (sp cn : Nat → Nat → Int32) (m g : Nat) : Int32 := zMin99 (sp m g + cn m g)
def zUnO (sp cn : Nat → Nat → Int32) (m g : Nat) : Int32 := sp m g + cn m g - zUnF sp cn m g
def zUnL (lo : Nat → Int32) (sp cn : Nat → Nat → Int32) (m : Nat) : Int32 := lo m + lsum (zUnO sp cn m) 8
def zUnp (c : zCl) (j : Nat) : zCl := (zCl.mk c.st c.dy c.x c.br (zTab c.sp (zUnF c.sp (c.cn j)) 6) c.wa c.ac c.ps c.pp c.pu (zC0 c.lo (zUnL c.lo c.sp (c.cn j)) 6) c.un c.op c.pi c.cn c.vl c.du c.io c.hp c.hs)
/-! a new parcel -/
def zDpN (wa : Nat → Nat → Int32) (mm : Int32) (m : Nat) : Nat → Int32 := if zHas mm m = true then wa m else fun _ => nI 0
def zDpW (wa : Nat → Nat → Int32) (mm : Int32) (m : Nat) : Nat → Int32 := if zHas mm m = true then fun _ => nI 0 else wa m
def zDpA (ac sr : Nat → Int32) (wa : Nat → Nat → Int32) (pr : Nat → Int32) (mm : Int32) (m : Nat) : Int32 := if zHas mm m = true then ac m - (lsum (zOcT (wa m) pr) 8 + sr m) else ac m
def zDpS (ps : Nat → Int32) (wa : Nat → Nat → Int32) (pr : Nat → Int32) (mm : Int32) (m : Nat) : Int32 := if zHas mm m = true then ps m + lsum (zOcT (wa m) pr) 8 else ps m
def zDpP (pp sr : Nat → Int32) (mm : Int32) (m : Nat) : Int32 := if zHas mm m = true then pp m + sr m else pp m
theorem cb_pcvC {G : zG} {M : zM} {b : Nat} {st : Nat → Int32} {dy x : Int32} {br : Nat → Int32} {sp wa : Nat → Nat → Int32} {ac ps pp pu lo : Nat → Int32} {un op : Int32} {pi : Nat → Nat} {cn : Nat → Nat → Nat → Int32} {vl du : Nat → Int32} {io : Nat → Bool} {hp hs : Nat → Int32} {j : Nat} (hj : j < 5) (cn' : Nat → Nat → Int32) : pcM G (cbM G M b st dy x br sp wa ac ps pp pu lo un op pi cn vl du io hp hs) (b + 26 + 8 * j) cn' (vl j) (du j) (io j) = cbM G M b st dy x br sp wa ac ps pp pu lo un op pi (va_up cn j cn') vl du io hp hs := by
  rw [cb_pcv hj, va_up_same, va_up_same, va_up_same]
theorem zUn_e1 (sp cn : Nat → Nat → Int32) (m : Nat) : va_up (zTab sp (zUnF sp cn) m) m (zC0 (sp m) (zUnF sp cn m) 8) = zTab sp (zUnF sp cn) (m + 1) := by
  rw [← zTab_s]; unfold zTab; rw [if_neg (by omega)]
theorem zUn_e2 (lo : Nat → Int32) (sp cn : Nat → Nat → Int32) (m : Nat) : upd (zC0 lo (zUnL lo sp cn) m) m (lo m + lsum (zUnO sp cn m) 8) = zC0 lo (zUnL lo sp cn) (m + 1) := zC0_s lo (zUnL lo sp cn) m
theorem zUn_a1 (sp cn : Nat → Nat → Int32) (m : Nat) : zTab sp (zUnF sp cn) m = va_up (zTab sp (zUnF sp cn) m) m (zC0 (sp m) (zUnF sp cn m) 0) := by
  rw [zC0_0]
  have : sp m = zTab sp (zUnF sp cn) m m := by unfold zTab; rw [if_neg (by omega)]
  rw [this]
  exact (va_up_same (zTab sp (zUnF sp cn) m) m).symm
theorem zUn_a2 (lo : Nat → Int32) (sp cn : Nat → Nat → Int32) (m : Nat) : zC0 lo (zUnL lo sp cn) m = upd (zC0 lo (zUnL lo sp cn) m) m (lo m + lsum (zUnO sp cn m) 0) := by
  have e : lo m + lsum (zUnO sp cn m) 0 = zC0 lo (zUnL lo sp cn) m m := by
    rw [zC0_ge (Nat.le_refl _)]; exact Int32.add_zero _
  rw [e, upd_self]
