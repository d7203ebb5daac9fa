/-! copying a club -/
def zCpN (cn : Nat → Nat → Nat → Int32) (pi : Nat → Nat) (on : Nat → Nat → Nat → Int32) (oi : Nat → Nat) : Nat → (Nat → Nat → Nat → Int32)
  | 0 => cn
  | k + 1 => va_up (zCpN cn pi on oi k) (pi k) (zTab (zCpN cn pi on oi k (pi k)) (on (oi k)) 6)
def zCpV {α : Type} (f : Nat → α) (pi : Nat → Nat) (g : Nat → α) (oi : Nat → Nat) : Nat → (Nat → α)
  | 0 => f
  | k + 1 => va_up (zCpV f pi g oi k) (pi k) (g (oi k))
def zCpy (c o : zCl) : zCl := (zCl.mk (zC0 c.st o.st 9) (o.dy) (o.x) (zC0 c.br o.br 6) (zTab c.sp o.sp 6) (zTab c.wa o.wa 6) (zC0 c.ac o.ac 6) (zC0 c.ps o.ps 6) (zC0 c.pp o.pp 6) (zC0 c.pu o.pu 6) (zC0 c.lo o.lo 6) (o.un) (o.op) c.pi (zCpN c.cn c.pi o.cn o.pi o.un) (zCpV c.vl c.pi o.vl o.pi o.un) (zCpV c.du c.pi o.du o.pi o.un) (zCpV c.io c.pi o.io o.pi o.un) c.hp c.hs)
/-! sending, step by step -/
theorem zTab_ge {g f : Nat → Nat → Int32} {i m : Nat} (h : i ≤ m) : zTab g f i m = g m := if_neg (by omega)
theorem zC0_skip {d f : Nat → Int32} {k : Nat} (h : f k = d k) : zC0 d f k = zC0 d f (k + 1) := by
  rw [← zC0_s, h]
  have : d k = zC0 d f k k := (zC0_ge (Nat.le_refl _)).symm
  rw [this, upd_self]
theorem zC0_same (d : Nat → Int32) (n : Nat) : zC0 d d n = d := by funext j; unfold zC0; split <;> rfl
section DP
variable {wa cn g : Nat → Nat → Int32} {mm : Int32} {k J : Nat} {cc : Nat → Nat → Nat → Int32} {ac ps pp sr pr : Nat → Int32}
theorem zDp_i (cc : Nat → Nat → Nat → Int32) (J : Nat) (F : Nat → Nat → Int32) : cc = va_up cc J (zTab (cc J) F 0) := by rw [zTab_0, va_up_same]
theorem zDp_c0 (h : zHas mm k = false) : va_up (va_up cc J (zTab (cc J) (zDpN wa mm) k)) J (va_up ((va_up cc J (zTab (cc J) (zDpN wa mm) k)) J) k (zC0 ((va_up cc J (zTab (cc J) (zDpN wa mm) k)) J k) (fun _ => nI 0) 8)) = va_up cc J (zTab (cc J) (zDpN wa mm) (k + 1)) := by
  rw [va_up_self, va_up_up, ← zTab_s]; simp [zDpN, h]
theorem zDp_c1 (h : zHas mm k = true) : va_up (va_up (va_up cc J (zTab (cc J) (zDpN wa mm) k)) J (va_up ((va_up cc J (zTab (cc J) (zDpN wa mm) k)) J) k (zC0 ((va_up cc J (zTab (cc J) (zDpN wa mm) k)) J k) (fun _ => nI 0) 8))) J (va_up ((va_up (va_up cc J (zTab (cc J) (zDpN wa mm) k)) J (va_up ((va_up cc J (zTab (cc J) (zDpN wa mm) k)) J) k (zC0 ((va_up cc J (zTab (cc J) (zDpN wa mm) k)) J k) (fun _ => nI 0) 8))) J) k (zC0 ((va_up (va_up cc J (zTab (cc J) (zDpN wa mm) k)) J (va_up ((va_up cc J (zTab (cc J) (zDpN wa mm) k)) J) k (zC0 ((va_up cc J (zTab (cc J) (zDpN wa mm) k)) J k) (fun _ => nI 0) 8))) J k) (zTab wa (zDpW wa mm) k k) 8)) = va_up cc J (zTab (cc J) (zDpN wa mm) (k + 1)) := by
  simp only [va_up_self, va_up_up, zC0_zC0, zTab_ge (Nat.le_refl _)]
  rw [← zTab_s, zTab_ge (Nat.le_refl _)]; simp [zDpN, h]
theorem zDp_w0 (h : zHas mm k = false) : zTab wa (zDpW wa mm) k = zTab wa (zDpW wa mm) (k + 1) := by
  rw [← zTab_s]
  have e : zDpW wa mm k = zTab wa (zDpW wa mm) k k := by rw [zTab_ge (Nat.le_refl _)]; simp [zDpW, h]
  rw [e, zC0_same, va_up_same]
theorem zDp_w1 (h : zHas mm k = true) : va_up (zTab wa (zDpW wa mm) k) k (zC0 (zTab wa (zDpW wa mm) k k) (fun _ => nI 0) 8) = zTab wa (zDpW wa mm) (k + 1) := by
  rw [← zTab_s]; simp [zDpW, h]
theorem zDp_a0 (h : zHas mm k = false) : zC0 ac (zDpA ac sr wa pr mm) k = zC0 ac (zDpA ac sr wa pr mm) (k + 1) := zC0_skip (by simp [zDpA, h])
theorem zDp_a1 (h : zHas mm k = true) : upd (zC0 ac (zDpA ac sr wa pr mm) k) k (zC0 ac (zDpA ac sr wa pr mm) k k - (lsum (zOcT (zTab wa (zDpW wa mm) k k) pr) 8 + sr k)) = zC0 ac (zDpA ac sr wa pr mm) (k + 1) := by
  rw [← zC0_s, zTab_ge (Nat.le_refl _), zC0_ge (Nat.le_refl _)]; simp [zDpA, h]
theorem zDp_s0 (h : zHas mm k = false) : zC0 ps (zDpS ps wa pr mm) k = zC0 ps (zDpS ps wa pr mm) (k + 1) := zC0_skip (by simp [zDpS, h])
theorem zDp_s1 (h : zHas mm k = true) : upd (zC0 ps (zDpS ps wa pr mm) k) k (zC0 ps (zDpS ps wa pr mm) k k + lsum (zOcT (zTab wa (zDpW wa mm) k k) pr) 8) = zC0 ps (zDpS ps wa pr mm) (k + 1) := by
  rw [← zC0_s, zTab_ge (Nat.le_refl _), zC0_ge (Nat.le_refl _)]; simp [zDpS, h]
theorem zDp_p0 (h : zHas mm k = false) : zC0 pp (zDpP pp sr mm) k = zC0 pp (zDpP pp sr mm) (k + 1) := zC0_skip (by simp [zDpP, h])
theorem zDp_p1 (h : zHas mm k = true) : upd (zC0 pp (zDpP pp sr mm) k) k (zC0 pp (zDpP pp sr mm) k k + sr k) = zC0 pp (zDpP pp sr mm) (k + 1) := by
  rw [← zC0_s, zC0_ge (Nat.le_refl _)]; simp [zDpP, h]
end DP
/-! a day of a club -/
def zSwp (c : zCl) (k s : Nat) : zCl := (zCl.mk c.st c.dy c.x c.br c.sp c.wa c.ac c.ps c.pp c.pu c.lo c.un c.op (va_up (va_up c.pi k (c.pi s)) s (c.pi k)) c.cn c.vl c.du c.io c.hp c.hs)
def zBd1 (k : Nat) (e : zCl × Nat) : zCl × Nat :=
  if e.1.du (e.1.pi k) = e.1.dy then (if zComeB e.1 (e.1.pi k) = true then (zUnp (zCome e.1 (e.1.pi k)) (e.1.pi k), e.2) else (zSwp (zCome e.1 (e.1.pi k)) k e.2, e.2 + 1)) else (zSwp e.1 k e.2, e.2 + 1)
def zBdL (c : zCl) : Nat → zCl × Nat
  | 0 => (c, 0)
  | k + 1 => zBd1 k (zBdL c k)
def zDayC (c : zCl) : zCl := (zCl.mk c.st (c.dy + nI 1) c.x c.br c.sp c.wa c.ac c.ps c.pp c.pu c.lo c.un c.op c.pi c.cn c.vl c.du c.io c.hp c.hs)
def zBd (c : zCl) : zCl := (zCl.mk (zBdL (zDayC c) c.un).1.st (zBdL (zDayC c) c.un).1.dy (zBdL (zDayC c) c.un).1.x (zBdL (zDayC c) c.un).1.br (zBdL (zDayC c) c.un).1.sp (zBdL (zDayC c) c.un).1.wa (zBdL (zDayC c) c.un).1.ac (zBdL (zDayC c) c.un).1.ps (zBdL (zDayC c) c.un).1.pp (zBdL (zDayC c) c.un).1.pu (zBdL (zDayC c) c.un).1.lo ((zBdL (zDayC c) c.un).2) (zBdL (zDayC c) c.un).1.op (zBdL (zDayC c) c.un).1.pi (zBdL (zDayC c) c.un).1.cn (zBdL (zDayC c) c.un).1.vl (zBdL (zDayC c) c.un).1.du (zBdL (zDayC c) c.un).1.io (zBdL (zDayC c) c.un).1.hp (zBdL (zDayC c) c.un).1.hs)
def zBdOk (c : zCl) (k : Nat) : Prop := c.du (c.pi k) = c.dy → c.io (c.pi k) = false → zOaOk ((zCl.mk c.st c.dy (zNx c.x) c.br c.sp c.wa c.ac c.ps c.pp c.pu c.lo c.un c.op c.pi c.cn c.vl c.du c.io c.hp c.hs)) (c.pi k)
theorem zBd_ne {c : zCl} {k : Nat} (h : ¬ (zBdL c k).1.du ((zBdL c k).1.pi k) = (zBdL c k).1.dy) : zBdL c (k + 1) = (zSwp (zBdL c k).1 k (zBdL c k).2, (zBdL c k).2 + 1) := if_neg h
theorem zBd_home {c : zCl} {k : Nat} (h : (zBdL c k).1.du ((zBdL c k).1.pi k) = (zBdL c k).1.dy) (h2 : zComeB (zBdL c k).1 ((zBdL c k).1.pi k) = true) : zBdL c (k + 1) = (zUnp (zCome (zBdL c k).1 ((zBdL c k).1.pi k)) ((zBdL c k).1.pi k), (zBdL c k).2) := (if_pos h).trans (if_pos h2)
theorem zBd_stay {c : zCl} {k : Nat} (h : (zBdL c k).1.du ((zBdL c k).1.pi k) = (zBdL c k).1.dy) (h2 : zComeB (zBdL c k).1 ((zBdL c k).1.pi k) = false) : zBdL c (k + 1) = (zSwp (zCome (zBdL c k).1 ((zBdL c k).1.pi k)) k (zBdL c k).2, (zBdL c k).2 + 1) := (if_pos h).trans (if_neg (by rw [h2]; decide))
theorem zOa1_st (c : zCl) (j : Nat) : (zOa1 c j).st = c.st := by unfold zOa1 zPayC; rw [zp_st, zp_st]
theorem zOa_st (c : zCl) (j : Nat) : (zOa c j).st = c.st := by
  unfold zOa; split
  · unfold zOaL; rw [zp_st, zOa1_st]
  · unfold zOaN; rw [zp_st, zOa1_st]
theorem zCome_st (c : zCl) (j : Nat) : (zCome c j).st = c.st := by
  unfold zCome; split
  · rfl
  · split
    · rw [zOa_st, zp_st]
    · rw [zp_st]
theorem zOa1_dy (c : zCl) (j : Nat) : (zOa1 c j).dy = c.dy := by unfold zOa1 zPayC; rw [zp_dy, zp_dy]
theorem zOa_dy (c : zCl) (j : Nat) : (zOa c j).dy = c.dy := by
  unfold zOa; split
  · unfold zOaL; rw [zp_dy, zOa1_dy]
  · unfold zOaN; rw [zp_dy, zOa1_dy]
theorem zCome_dy (c : zCl) (j : Nat) : (zCome c j).dy = c.dy := by
  unfold zCome; split
  · rfl
  · split
    · rw [zOa_dy, zp_dy]
    · rw [zp_dy]
theorem zOa1_br (c : zCl) (j : Nat) : (zOa1 c j).br = c.br := by unfold zOa1 zPayC; rw [zp_br, zp_br]
theorem zOa_br (c : zCl) (j : Nat) : (zOa c j).br = c.br := by
  unfold zOa; split
  · unfold zOaL; rw [zp_br, zOa1_br]
  · unfold zOaN; rw [zp_br, zOa1_br]
theorem zCome_br (c : zCl) (j : Nat) : (zCome c j).br = c.br := by
  unfold zCome; split
  · rfl
  · split
    · rw [zOa_br, zp_br]
    · rw [zp_br]
theorem zOa1_sp (c : zCl) (j : Nat) : (zOa1 c j).sp = c.sp := by unfold zOa1 zPayC; rw [zp_sp, zp_sp]
theorem zOa_sp (c : zCl) (j : Nat) : (zOa c j).sp = c.sp := by
  unfold zOa; split
  · unfold zOaL; rw [zp_sp, zOa1_sp]
  · unfold zOaN; rw [zp_sp, zOa1_sp]
theorem zCome_sp (c : zCl) (j : Nat) : (zCome c j).sp = c.sp := by
  unfold zCome; split
  · rfl
  · split
    · rw [zOa_sp, zp_sp]
    · rw [zp_sp]
theorem zOa1_wa (c : zCl) (j : Nat) : (zOa1 c j).wa = c.wa := by unfold zOa1 zPayC; rw [zp_wa, zp_wa]
theorem zOa_wa (c : zCl) (j : Nat) : (zOa c j).wa = c.wa := by
  unfold zOa; split
  · unfold zOaL; rw [zp_wa, zOa1_wa]
  · unfold zOaN; rw [zp_wa, zOa1_wa]
theorem zCome_wa (c : zCl) (j : Nat) : (zCome c j).wa = c.wa := by
  unfold zCome; split
  · rfl
  · split
    · rw [zOa_wa, zp_wa]
    · rw [zp_wa]
theorem zOa1_ps (c : zCl) (j : Nat) : (zOa1 c j).ps = c.ps := by unfold zOa1 zPayC; rw [zp_ps, zp_ps]
theorem zOa_ps (c : zCl) (j : Nat) : (zOa c j).ps = c.ps := by
  unfold zOa; split
  · unfold zOaL; rw [zp_ps, zOa1_ps]
  · unfold zOaN; rw [zp_ps, zOa1_ps]
theorem zCome_ps (c : zCl) (j : Nat) : (zCome c j).ps = c.ps := by
  unfold zCome; split
  · rfl
  · split
    · rw [zOa_ps, zp_ps]
    · rw [zp_ps]
theorem zOa1_pp (c : zCl) (j : Nat) : (zOa1 c j).pp = c.pp := by unfold zOa1 zPayC; rw [zp_pp, zp_pp]
theorem zOa_pp (c : zCl) (j : Nat) : (zOa c j).pp = c.pp := by
  unfold zOa; split
  · unfold zOaL; rw [zp_pp, zOa1_pp]
  · unfold zOaN; rw [zp_pp, zOa1_pp]
theorem zCome_pp (c : zCl) (j : Nat) : (zCome c j).pp = c.pp := by
  unfold zCome; split
  · rfl
  · split
    · rw [zOa_pp, zp_pp]
    · rw [zp_pp]
theorem zOa1_un (c : zCl) (j : Nat) : (zOa1 c j).un = c.un := by unfold zOa1 zPayC; rw [zp_un, zp_un]
theorem zOa_un (c : zCl) (j : Nat) : (zOa c j).un = c.un := by
  unfold zOa; split
  · unfold zOaL; rw [zp_un, zOa1_un]
  · unfold zOaN; rw [zp_un, zOa1_un]
theorem zCome_un (c : zCl) (j : Nat) : (zCome c j).un = c.un := by
  unfold zCome; split
  · rfl
  · split
    · rw [zOa_un, zp_un]
    · rw [zp_un]
theorem zOa1_pi (c : zCl) (j : Nat) : (zOa1 c j).pi = c.pi := by unfold zOa1 zPayC; rw [zp_pi, zp_pi]
theorem zOa_pi (c : zCl) (j : Nat) : (zOa c j).pi = c.pi := by
  unfold zOa; split
  · unfold zOaL; rw [zp_pi, zOa1_pi]
  · unfold zOaN; rw [zp_pi, zOa1_pi]
theorem zCome_pi (c : zCl) (j : Nat) : (zCome c j).pi = c.pi := by
  unfold zCome; split
  · rfl
  · split
    · rw [zOa_pi, zp_pi]
    · rw [zp_pi]
theorem zOa1_vl (c : zCl) (j : Nat) : (zOa1 c j).vl = c.vl := by unfold zOa1 zPayC; rw [zp_vl, zp_vl]
theorem zOa_vl (c : zCl) (j : Nat) : (zOa c j).vl = c.vl := by
  unfold zOa; split
  · unfold zOaL; rw [zp_vl, zOa1_vl]
  · unfold zOaN; rw [zp_vl, zOa1_vl]
theorem zCome_vl (c : zCl) (j : Nat) : (zCome c j).vl = c.vl := by
  unfold zCome; split
  · rfl
  · split
    · rw [zOa_vl, zp_vl]
    · rw [zp_vl]
theorem zBdL_le (c : zCl) : ∀ k, (zBdL c k).2 ≤ k
  | 0 => Nat.le_refl _
  | k + 1 => by
    have ih := zBdL_le c k
    show (zBd1 k (zBdL c k)).2 ≤ k + 1
    unfold zBd1
    split
    · split
      · exact Nat.le_succ_of_le ih
      · exact Nat.succ_le_succ ih
    · exact Nat.succ_le_succ ih
theorem zSwp_pi {c : zCl} {k s : Nat} (h : ∀ i, i < 5 → c.pi i < 5) (hk : k < 5) (hs : s < 5) : ∀ i, i < 5 → (zSwp c k s).pi i < 5 := by
  intro i hi
  unfold zSwp; rw [zp_pi]
  by_cases h1 : i = s
  · subst h1; rw [va_up_self]; exact h k hk
  · rw [va_up_ne _ _ h1]
    by_cases h2 : i = k
    · subst h2; rw [va_up_self]; exact h s hs
    · rw [va_up_ne _ _ h2]; exact h i hi
theorem zBdL_pi {c : zCl} (h : ∀ i, i < 5 → c.pi i < 5) : ∀ k, k ≤ 5 → ∀ i, i < 5 → (zBdL c k).1.pi i < 5
  | 0, _ => h
  | k + 1, hk => by
    have ih := zBdL_pi h k (by omega)
    have hs := zBdL_le c k
    show ∀ i, i < 5 → (zBd1 k (zBdL c k)).1.pi i < 5
    unfold zBd1
    split
    · split
      · intro i hi
        unfold zUnp; rw [zp_pi, zCome_pi]; exact ih i hi
      · exact zSwp_pi (c := zCome (zBdL c k).1 ((zBdL c k).1.pi k)) (by rw [zCome_pi]; exact ih) (by omega) (by omega)
    · exact zSwp_pi ih (by omega) (by omega)
