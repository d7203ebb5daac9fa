/-! a parcel is home, both ways -/
theorem zOv1 (v : Int32) : v - zOver v = zMin99 v := by
  unfold zOver zMin99
  by_cases q : v ≤ nI 99
  · rw [if_pos q, if_neg (Int32.not_lt.mpr q)]; exact Int32.sub_zero v
  · rw [if_neg q, if_pos (Int32.not_le.mp q)]; grind
theorem zOv2 (v : Int32) : zOver v = v - zMin99 v := by rw [← zOv1]; grind
def zUc (c : zCl) (J m g : Nat) : zCl := (zCl.mk c.st c.dy c.x c.br (va_up (zTab c.sp (zUnF c.sp (c.cn J)) m) m (zC0 (c.sp m) (zUnF c.sp (c.cn J) m) g)) c.wa c.ac c.ps c.pp c.pu (upd (zC0 c.lo (zUnL c.lo c.sp (c.cn J)) m) m (c.lo m + lsum (zUnO c.sp (c.cn J) m) g)) c.un c.op c.pi c.cn c.vl c.du c.io c.hp c.hs)
def zUo (c : zCl) (J m : Nat) : zCl := (zCl.mk c.st c.dy c.x c.br (zTab c.sp (zUnF c.sp (c.cn J)) m) c.wa c.ac c.ps c.pp c.pu (zC0 c.lo (zUnL c.lo c.sp (c.cn J)) m) c.un c.op c.pi c.cn c.vl c.du c.io c.hp c.hs)
theorem zUc_0 (c : zCl) (J m : Nat) : zUc c J m 0 = zUo c J m := by
  unfold zUc zUo; rw [← zUn_a1, ← zUn_a2]
theorem zUc_8 (c : zCl) (J m : Nat) : zUc c J m 8 = zUo c J (m + 1) := by
  unfold zUc zUo; rw [zUn_e1, zUn_e2]
section HM
variable {c : zCl} {s : Nat → Int32} {n : Nat} {ix : Nat → Nat} {p : Nat}
theorem zCHi_R {S : Nat → Int32} {m : Nat} (hm : m < 6) (hp : p < n) (h : zRA (zUo c (c.pi (ix p)) m) S n ix) : ∀ g, g ≤ 8 → zRA (zUc c (c.pi (ix p)) m g) (zCHi S p m g) n ix ∧ zCHi S p m g 13 = S 13 + lsum (zUnO c.sp (c.cn (c.pi (ix p))) m) g
  | 0, _ => ⟨by rw [zUc_0]; exact h, (Int32.add_zero _).symm⟩
  | g + 1, hg => by
    obtain ⟨ih, i13⟩ := zCHi_R hm hp h g (by omega)
    generalize hS : zCHi S p m g = S' at ih i13
    have a1 : S' (15 + 22 * m + (6 + g)) = c.sp m g := by
      have := (ih.2.2.1 m hm g (by omega)).1
      unfold zUc at this
      rw [zpq_sp, va_up_self, zC0_ge (Nat.le_refl g)] at this
      exact this
    have a2 : S' (147 + 51 * p + (3 + 8 * m + g)) = c.cn (c.pi (ix p)) m g := by
      have := (ih.2.2.2 p hp).2.2.2 m hm g (by omega)
      unfold zUc at this
      rw [zpq_cn, zpq_pi] at this
      exact this
    have a3 : S' (15 + 22 * m + 5) = c.lo m + lsum (zUnO c.sp (c.cn (c.pi (ix p))) m) g := by
      have := (ih.2.1 m hm).2.2.2.2.2
      unfold zUc at this
      rw [zpq_lo, pk_us] at this
      exact this
    have o1 : c.sp m g + c.cn (c.pi (ix p)) m g - zOver (c.sp m g + c.cn (c.pi (ix p)) m g) = zUnF c.sp (c.cn (c.pi (ix p))) m g := zOv1 _
    have o2 : zOver (c.sp m g + c.cn (c.pi (ix p)) m g) = zUnO c.sp (c.cn (c.pi (ix p))) m g := zOv2 _
    have e : zCHi S p m (g + 1) = upd (upd (upd S' (15 + 22 * m + (6 + g)) (zUnF c.sp (c.cn (c.pi (ix p))) m g)) (15 + 22 * m + 5) (c.lo m + lsum (zUnO c.sp (c.cn (c.pi (ix p))) m) (g + 1))) 13 (S' 13 + zUnO c.sp (c.cn (c.pi (ix p))) m g) := by
      show upd (upd (upd (zCHi S p m g) _ _) _ _) _ _ = _
      rw [hS, a1, a2, pk_un (show 15 + 22 * m + 5 ≠ 15 + 22 * m + (6 + g) by omega), a3, o1, o2, Int32.add_assoc]
      rfl
    have h1 := w_13 (w_lo (w_sp ih hm (show g < 8 by omega) (zUnF c.sp (c.cn (c.pi (ix p))) m g)) hm (c.lo m + lsum (zUnO c.sp (c.cn (c.pi (ix p))) m) (g + 1))) (S' 13 + zUnO c.sp (c.cn (c.pi (ix p))) m g)
    rw [e]
    refine ⟨?_, ?_⟩
    · simp only [zpq_st, zpq_dy, zpq_x, zpq_br, zpq_sp, zpq_wa, zpq_ac, zpq_ps, zpq_pp, zpq_pu, zpq_lo, zpq_un, zpq_op, zpq_pi, zpq_cn, zpq_vl, zpq_du, zpq_io, zpq_hp, zpq_hs] at h1
      unfold zUc at h1 ⊢
      simp only [zpq_st, zpq_dy, zpq_x, zpq_br, zpq_sp, zpq_wa, zpq_ac, zpq_ps, zpq_pp, zpq_pu, zpq_lo, zpq_un, zpq_op, zpq_pi, zpq_cn, zpq_vl, zpq_du, zpq_io, zpq_hp, zpq_hs] at h1
      rw [va_up_self, va_up_up, zC0_s, upd_upd] at h1
      exact h1
    · rw [pk_us, i13, Int32.add_assoc]; rfl
theorem zCHo_R (h : zRB c s n ix) (hp : p < n) : ∀ m, m ≤ 6 → zRA (zUo c (c.pi (ix p)) m) (zCHo s p m) n ix ∧ zCHo s p m 13 = s 13 + lsum (fun k => lsum (zUnO c.sp (c.cn (c.pi (ix p))) k) 8) m
  | 0, _ => by
    refine ⟨?_, (Int32.add_zero _).symm⟩
    unfold zUo
    rw [zTab_0, zC0_0]
    exact h.1
  | m + 1, hm => by
    obtain ⟨ih, i13⟩ := zCHo_R h hp m (by omega)
    obtain ⟨h1, h2⟩ := zCHi_R (show m < 6 by omega) hp ih 8 (Nat.le_refl _)
    rw [zUc_8] at h1
    refine ⟨h1, ?_⟩
    show zCHi (zCHo s p m) p m 8 13 = _
    rw [h2, i13, Int32.add_assoc]; rfl
theorem zCHi_12 {S : Nat → Int32} {m : Nat} (i : Nat) (hi : i < 15) (h2 : i ≠ 13) {g : Nat} : zCHi S p m g i = S i := zCHi_lo hi h2
theorem zHome_R (h : zRB c s n ix) (hp : p < n) : zRB (zUnp c (c.pi (ix p))) (zCHo s p 6) n ix := by
  obtain ⟨h1, h2⟩ := zCHo_R h hp 6 (Nat.le_refl _)
  have e : zUo c (c.pi (ix p)) 6 = zUnp c (c.pi (ix p)) := rfl
  rw [e] at h1
  refine ⟨h1, ?_, ?_⟩
  · rw [zCHo_lo (by omega) (by omega), h.2.1]; unfold zUnp; rw [zpq_pu]
  · rw [h2, h.2.2]
    have e2 : (zUnp c (c.pi (ix p))).lo = zC0 c.lo (zUnL c.lo c.sp (c.cn (c.pi (ix p)))) 6 := by unfold zUnp; rw [zpq_lo]
    rw [e2, zC0_sum]
    exact (lsum_add c.lo (fun k => lsum (zUnO c.sp (c.cn (c.pi (ix p))) k) 8) 6).symm
theorem zCHs_at {S : Nat → Int32} : ∀ {k i : Nat}, zCHs S p k i = if 147 + 51 * p ≤ i ∧ i < 147 + 51 * p + k then S (i + 51) else S i
  | 0, i => by rw [if_neg (by omega)]; rfl
  | k + 1, i => by
    show upd (zCHs S p k) _ (zCHs S p k _) i = _
    by_cases q : i = 147 + 51 * p + 0 + k
    · subst q
      rw [pk_us, zCHs_at, if_neg (by omega), if_pos (by omega)]
    · rw [pk_un q, zCHs_at]
      by_cases r : 147 + 51 * p ≤ i ∧ i < 147 + 51 * p + k
      · rw [if_pos r, if_pos (by omega)]
      · rw [if_neg r, if_neg (by omega)]
theorem zCHz_at {S : Nat → Int32} {pn i : Nat} (h : i < 147 + 51 * (pn - 1)) : ∀ {k : Nat}, zCHz S pn k i = S i
  | 0 => rfl
  | k + 1 => by
    show upd (zCHz S pn k) _ _ i = _
    rw [pk_un (by omega)]
    exact zCHz_at h
/-- the parcels behind it move up -/
theorem zShift_R {S : Nat → Int32} (h : zRB c S n ix) (hp : p < n) (v : Int32) : zRB c (zCHz (zCHs (upd S 14 v) p (51 * (n - 1 - p))) n 51) (n - 1) (fun q => ix (if q < p then q else q + 1)) ∧ zCHz (zCHs (upd S 14 v) p (51 * (n - 1 - p))) n 51 14 = v := by
  obtain ⟨⟨⟨h1, h1a, h1b, h1c⟩, h2, h3, h4⟩, h12, h13⟩ := h
  have lo : ∀ i, i < 147 → zCHz (zCHs (upd S 14 v) p (51 * (n - 1 - p))) n 51 i = if i = 14 then v else S i := by
    intro i hi
    rw [zCHz_at (by omega), zCHs_at, if_neg (by omega)]
    by_cases q : i = 14
    · subst q; rw [pk_us, if_pos rfl]
    · rw [pk_un q, if_neg q]
  have hi : ∀ q, q < n - 1 → ∀ j, j < 51 → zCHz (zCHs (upd S 14 v) p (51 * (n - 1 - p))) n 51 (147 + 51 * q + j) = S (147 + 51 * (if q < p then q else q + 1) + j) := by
    intro q hq j hj
    rw [zCHz_at (by omega), zCHs_at]
    by_cases r : q < p
    · rw [if_neg (by omega), pk_un (by omega), if_pos r]
    · rw [if_pos (by omega), pk_un (by omega), if_neg r]
      congr 1; omega
  refine ⟨⟨⟨⟨fun i hi => ?_, ?_, ?_, ?_⟩, fun m hm => ?_, fun m hm g hg => ?_, fun q hq => ?_⟩, ?_, ?_⟩, ?_⟩
  · rw [lo i (by omega), if_neg (by omega)]; exact h1 i hi
  · rw [lo _ (by omega), if_neg (by omega)]; exact h1a
  · rw [lo _ (by omega), if_neg (by omega)]; exact h1b
  · rw [lo _ (by omega), if_neg (by omega)]; exact h1c
  · rw [lo _ (by omega), if_neg (by omega), lo _ (by omega), if_neg (by omega), lo _ (by omega), if_neg (by omega), lo _ (by omega), if_neg (by omega), lo _ (by omega), if_neg (by omega), lo _ (by omega), if_neg (by omega)]; exact h2 m hm
  · rw [lo _ (by omega), if_neg (by omega), lo _ (by omega), if_neg (by omega)]; exact h3 m hm g hg
  · have hq2 : (if q < p then q else q + 1) < n := by split <;> omega
    obtain ⟨a0, a1, a2, a3⟩ := h4 _ hq2
    refine ⟨?_, ?_, ?_, fun m hm g hg => ?_⟩
    · rw [hi q hq 0 (by omega)]; exact a0
    · rw [hi q hq 1 (by omega)]; exact a1
    · rw [hi q hq 2 (by omega)]; exact a2
    · rw [hi q hq (3 + 8 * m + g) (by omega)]; exact a3 m hm g hg
  · rw [lo _ (by omega), if_neg (by omega)]; exact h12
  · rw [lo _ (by omega), if_neg (by omega)]; exact h13
  · rw [lo _ (by omega), if_pos rfl]
theorem zCH_R (h : zRB c s n ix) (hp : p < n) : zRB (zUnp c (c.pi (ix p))) (zCH s p n) (n - 1) (fun q => ix (if q < p then q else q + 1)) ∧ zCH s p n 14 = nI (n - 1) := zShift_R (zHome_R h hp) hp (nI (n - 1))
end HM
/-! what stays within its bounds -/
section BD
variable {c : zCl} {J : Nat} {D K : Int}
theorem zAtP_pos {cn : Nat → Nat → Int32} {l : Int32} (hc : ∀ m, m < 6 → ∀ g, g < 8 → zRg (cn m g) 0 20) (h0 : 0 ≤ l.toInt) (hat : zAtP cn l < 48) : 0 < (zFl cn (zAtP cn l)).toInt := by
  have hf : ∀ k, k < 48 → zRg (zFl cn k) 0 20 := fun k hk => hc _ (by omega) _ (by omega)
  have hit := zAtC_hit (f := zFl cn) (l := l) (n := 48) (k := 0) (by show zAtP cn l < 0 + 48; omega)
  have hit2 : zLsC (zFl cn) l (zAtP cn l) < zFl cn (zAtP cn l) := hit
  have hl := Int32.toInt_lt l
  have key : 0 ≤ (zLsC (zFl cn) l (zAtP cn l)).toInt := by
    rcases Nat.eq_zero_or_pos (zAtP cn l) with q | q
    · rw [q]; exact h0
    · have hm := zAtC_miss (f := zFl cn) (l := l) (n := 48) (k := 0) (zAtP cn l - 1) (by omega) (by show zAtP cn l - 1 < zAtP cn l; omega)
      rw [zLsC_eq, Int32.lt_iff_toInt_lt] at hm
      obtain ⟨b1, b2⟩ := zg_lsum (f := zFl cn) (B := 20) (by omega) (zAtP cn l - 1) (by omega) (fun k hk => hf k (by omega))
      obtain ⟨d1, d2⟩ := hf (zAtP cn l - 1) (by omega)
      rw [zg_sub (by omega) (by omega)] at hm
      have e : lsum (zFl cn) (zAtP cn l) = lsum (zFl cn) (zAtP cn l - 1) + zFl cn (zAtP cn l - 1) := by
        obtain ⟨j, hj⟩ : ∃ j, zAtP cn l = j + 1 := ⟨zAtP cn l - 1, by omega⟩
        rw [hj]; rfl
      rw [zLsC_eq, e, zg_sub (by rw [zg_add (by omega) (by omega)]; omega) (by rw [zg_add (by omega) (by omega)]; omega), zg_add (by omega) (by omega)]
      omega
  rw [Int32.lt_iff_toInt_lt] at hit2
  omega
theorem zLosC_rg {cn : Nat → Nat → Int32} {l : Int32} (hc : ∀ m, m < 6 → ∀ g, g < 8 → zRg (cn m g) 0 20) (h0 : 0 ≤ l.toInt) (hat : zAtP cn l < 48) : ∀ m, m < 6 → ∀ g, g < 8 → zRg (zLosC cn l m g) 0 20 := by
  intro m hm g hg
  have hp := zAtP_pos hc h0 hat
  have h1 : (nI 1).toInt = 1 := rfl
  unfold zLosC
  by_cases q : m = zAtP cn l / 8
  · subst q
    rw [va_up_self]
    by_cases r : g = zAtP cn l % 8
    · subst r
      rw [pk_us]
      have hb : zRg (zFl cn (zAtP cn l)) 0 20 := hc _ hm _ hg
      have hp' : 0 < (cn (zAtP cn l / 8) (zAtP cn l % 8)).toInt := hp
      obtain ⟨b1, b2⟩ := hb
      have b2' : (cn (zAtP cn l / 8) (zAtP cn l % 8)).toInt ≤ 20 := b2
      unfold zRg
      rw [zg_sub (by omega) (by omega)]
      omega
    · rw [pk_un r]; exact hc _ hm g hg
  · rw [va_up_ne _ _ q]; exact hc m hm g hg
theorem zCome_oth {J' : Nat} (hJ : J' ≠ J) : (zCome c J).cn J' = c.cn J' ∧ (zCome c J).du J' = c.du J' ∧ (zCome c J).io J' = c.io J' := by
  unfold zCome
  split
  · exact ⟨rfl, rfl, rfl⟩
  · split
    · unfold zOa
      split
      · simp only [zOaL, zOa1, zPayC, zpq_st, zpq_dy, zpq_x, zpq_br, zpq_sp, zpq_wa, zpq_ac, zpq_ps, zpq_pp, zpq_pu, zpq_lo, zpq_un, zpq_op, zpq_pi, zpq_cn, zpq_vl, zpq_du, zpq_io, zpq_hp, zpq_hs]
        exact ⟨va_up_ne _ _ hJ, va_up_ne _ _ hJ, va_up_ne _ _ hJ⟩
      · simp only [zOaN, zOa1, zPayC, zpq_st, zpq_dy, zpq_x, zpq_br, zpq_sp, zpq_wa, zpq_ac, zpq_ps, zpq_pp, zpq_pu, zpq_lo, zpq_un, zpq_op, zpq_pi, zpq_cn, zpq_vl, zpq_du, zpq_io, zpq_hp, zpq_hs]
        exact ⟨trivial, va_up_ne _ _ hJ, va_up_ne _ _ hJ⟩
    · simp only [zpq_st, zpq_dy, zpq_x, zpq_br, zpq_sp, zpq_wa, zpq_ac, zpq_ps, zpq_pp, zpq_pu, zpq_lo, zpq_un, zpq_op, zpq_pi, zpq_cn, zpq_vl, zpq_du, zpq_io, zpq_hp, zpq_hs]; exact ⟨trivial, trivial, trivial⟩
theorem zCome_x (hx : zRg c.x 0 2147483647) : zRg (zCome c J).x 0 2147483647 := by
  have h1 := zNx_rg hx
  have h2 := zNx_rg h1
  have h3 := zNx_rg h2
  unfold zCome
  split
  · exact hx
  · split
    · unfold zOa
      split
      · simp only [zOaL, zpq_st, zpq_dy, zpq_x, zpq_br, zpq_sp, zpq_wa, zpq_ac, zpq_ps, zpq_pp, zpq_pu, zpq_lo, zpq_un, zpq_op, zpq_pi, zpq_cn, zpq_vl, zpq_du, zpq_io, zpq_hp, zpq_hs]; exact h3
      · simp only [zOaN, zpq_st, zpq_dy, zpq_x, zpq_br, zpq_sp, zpq_wa, zpq_ac, zpq_ps, zpq_pp, zpq_pu, zpq_lo, zpq_un, zpq_op, zpq_pi, zpq_cn, zpq_vl, zpq_du, zpq_io, zpq_hp, zpq_hs]; exact h2
    · simp only [zpq_st, zpq_dy, zpq_x, zpq_br, zpq_sp, zpq_wa, zpq_ac, zpq_ps, zpq_pp, zpq_pu, zpq_lo, zpq_un, zpq_op, zpq_pi, zpq_cn, zpq_vl, zpq_du, zpq_io, zpq_hp, zpq_hs]; exact h1
theorem zCome_I1 (h : zI1 c D) : zI1 (zCome c J) D := by
  unfold zI1
  rw [zCome_st, zCome_dy, zCome_br, zCome_sp, zCome_wa]
  exact ⟨h.1, h.2.1, zCome_x h.2.2.1, h.2.2.2⟩
theorem zCome_cn (hx : zRg c.x 0 2147483647) (hc : ∀ m, m < 6 → ∀ g, g < 8 → zRg (c.cn J m g) 0 20) (hpos : c.io J = false → 0 < (zPie (c.cn J)).toInt) : ∀ m, m < 6 → ∀ g, g < 8 → zRg ((zCome c J).cn J m g) 0 20 := by
  unfold zCome
  split
  · exact hc
  · rename_i hio
    have hpos' := hpos (Bool.eq_false_iff.mpr hio)
    split
    · unfold zOa
      split
      · simp only [zOaL, zOaP, zpq_st, zpq_dy, zpq_x, zpq_br, zpq_sp, zpq_wa, zpq_ac, zpq_ps, zpq_pp, zpq_pu, zpq_lo, zpq_un, zpq_op, zpq_pi, zpq_cn, zpq_vl, zpq_du, zpq_io, zpq_hp, zpq_hs]
        rw [va_up_self, zDrC_pos _ hpos']
        obtain ⟨l1, l2⟩ := zDr_rg (zNx_rg (zNx_rg (zNx_rg hx))) hpos'
        exact zLosC_rg hc l1 (zAtP_lt hc l1 l2)
      · simp only [zOaN, zOa1, zPayC, zpq_st, zpq_dy, zpq_x, zpq_br, zpq_sp, zpq_wa, zpq_ac, zpq_ps, zpq_pp, zpq_pu, zpq_lo, zpq_un, zpq_op, zpq_pi, zpq_cn, zpq_vl, zpq_du, zpq_io, zpq_hp, zpq_hs]; exact hc
    · simp only [zpq_st, zpq_dy, zpq_x, zpq_br, zpq_sp, zpq_wa, zpq_ac, zpq_ps, zpq_pp, zpq_pu, zpq_lo, zpq_un, zpq_op, zpq_pi, zpq_cn, zpq_vl, zpq_du, zpq_io, zpq_hp, zpq_hs]; exact hc
theorem zCome_stay (hB : zComeB c J = false) : (zCome c J).du J = c.dy + c.st 4 ∧ (zCome c J).io J = true ∧ ¬ c.st 4 = 0 ∧ c.io J = false := by
  unfold zComeB at hB
  split at hB
  · cases hB
  · rename_i hio
    split at hB
    · rename_i hd
      refine ⟨?_, ?_, of_decide_eq_false hB, Bool.eq_false_iff.mpr hio⟩
      · unfold zCome
        rw [if_neg hio, if_pos hd]
        unfold zOa
        split
        · simp only [zOaL, zOa1, zPayC, zpq_st, zpq_dy, zpq_x, zpq_br, zpq_sp, zpq_wa, zpq_ac, zpq_ps, zpq_pp, zpq_pu, zpq_lo, zpq_un, zpq_op, zpq_pi, zpq_cn, zpq_vl, zpq_du, zpq_io, zpq_hp, zpq_hs]; rw [va_up_self]
        · simp only [zOaN, zOa1, zPayC, zpq_st, zpq_dy, zpq_x, zpq_br, zpq_sp, zpq_wa, zpq_ac, zpq_ps, zpq_pp, zpq_pu, zpq_lo, zpq_un, zpq_op, zpq_pi, zpq_cn, zpq_vl, zpq_du, zpq_io, zpq_hp, zpq_hs]; rw [va_up_self]
      · unfold zCome
        rw [if_neg hio, if_pos hd]
        unfold zOa
        split
        · simp only [zOaL, zOa1, zPayC, zpq_st, zpq_dy, zpq_x, zpq_br, zpq_sp, zpq_wa, zpq_ac, zpq_ps, zpq_pp, zpq_pu, zpq_lo, zpq_un, zpq_op, zpq_pi, zpq_cn, zpq_vl, zpq_du, zpq_io, zpq_hp, zpq_hs]; rw [va_up_self]
        · simp only [zOaN, zOa1, zPayC, zpq_st, zpq_dy, zpq_x, zpq_br, zpq_sp, zpq_wa, zpq_ac, zpq_ps, zpq_pp, zpq_pu, zpq_lo, zpq_un, zpq_op, zpq_pi, zpq_cn, zpq_vl, zpq_du, zpq_io, zpq_hp, zpq_hs]; rw [va_up_self]
    · cases hB
theorem zIp_oth {e : Int} {J' : Nat} (hJ : J' ≠ J) (h : zIp c J' e K) : zIp (zCome c J) J' e K := by
  obtain ⟨f1, f2, f3⟩ := zCome_oth (c := c) hJ
  unfold zIp
  rw [f1, f2, f3, zCome_vl, zCome_dy]
  exact h
theorem zIp_stay (hI : zI1 c D) (hD : D ≤ 100000) (h : zIp c J 0 K) (hdu : c.du J = c.dy) (hB : zComeB c J = false) : zIp (zCome c J) J 1 K := by
  obtain ⟨a1, a2, a3, a4, a5⟩ := h
  obtain ⟨f1, f2, f3, f4⟩ := zCome_stay hB
  have hst := zSt_rg hI
  obtain ⟨d1, d2⟩ := hI.2.1
  have hz : (0 : Int32).toInt = 0 := rfl
  have hne : (c.st 4).toInt ≠ 0 := fun z => f3 (Int32.toInt_inj.mp (by omega))
  rw [hdu, f4, if_neg (by decide)] at a4
  refine ⟨zCome_cn hI.2.2.1 a1 a5, ?_, ?_, ?_, fun z => ?_⟩
  · rw [zCome_vl]; exact a2
  · rw [zCome_dy, f1, zg_add (by omega) (by omega)]; omega
  · rw [zCome_dy, f1, f2, if_pos rfl, zg_add (by omega) (by omega)]; omega
  · rw [f2] at z; cases z
theorem zUnp_I1 (h : zI1 c D) (hc : ∀ m, m < 6 → ∀ g, g < 8 → zRg (c.cn J m g) 0 20) : zI1 (zUnp c J) D := by
  refine ⟨h.1, h.2.1, h.2.2.1, h.2.2.2.1, fun m hm g hg => ⟨?_, (h.2.2.2.2 m hm g hg).2⟩⟩
  have e : (zUnp c J).sp m g = zUnF c.sp (c.cn J) m g := by
    unfold zUnp; rw [zpq_sp, zTab_at hm hg]
  rw [e]
  obtain ⟨s1, s2⟩ := (h.2.2.2.2 m hm g hg).1
  obtain ⟨c1, c2⟩ := hc m hm g hg
  have h99 : (nI 99).toInt = 99 := nI_toInt (by omega)
  have ha := zg_add (a := c.sp m g) (b := c.cn J m g) (by omega) (by omega)
  unfold zUnF zMin99
  split
  · unfold zRg; omega
  · rename_i q
    rw [Int32.lt_iff_toInt_lt] at q
    unfold zRg; omega
theorem zUnp_Ip {e : Int} {J' : Nat} (h : zIp c J' e K) : zIp (zUnp c J) J' e K := h
end BD
