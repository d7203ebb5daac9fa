/-! a day, both ways -/
theorem zRA_pi {c c' : zCl} {s : Nat → Int32} {n : Nat} {ix ix' : Nat → Nat} (h : zRA c s n ix) (hpi : ∀ q, q < n → c'.pi (ix' q) = c.pi (ix q)) (e1 : c'.st = c.st) (e2 : c'.dy = c.dy) (e3 : c'.x = c.x) (e4 : c'.br = c.br) (e5 : c'.sp = c.sp) (e6 : c'.wa = c.wa) (e7 : c'.ac = c.ac) (e8 : c'.ps = c.ps) (e9 : c'.pp = c.pp) (e10 : c'.pu = c.pu) (e11 : c'.lo = c.lo) (e12 : c'.op = c.op) (e14 : c'.cn = c.cn) (e15 : c'.vl = c.vl) (e16 : c'.du = c.du) (e17 : c'.io = c.io) : zRA c' s n ix' := by
  obtain ⟨h1, h2, h3, h4⟩ := h
  unfold zRA zR2 zR3 zRp at *
  rw [e1, e2, e3, e4, e5, e6, e7, e8, e9, e10, e11, e12, e14, e15, e16, e17]
  refine ⟨h1, h2, h3, fun p hp => ?_⟩
  rw [hpi p hp]
  exact h4 p hp
def zIx (k st : Nat) : Nat → Nat := fun q => if q < st then q else q + (k - st)
def zDI (un : Nat) (dy : Int32) (D K : Int) (k : Nat) (cl : zCl) (st : Nat) (e : zQd) : Prop :=
  st ≤ k ∧ e.2.2.2.1 = st ∧ e.2.2.2.2.1 = un - (k - st) ∧ e.2.2.2.2.2 = k - st ∧ zRB cl e.1 (un - (k - st)) (zIx k st) ∧ e.1 14 = nI (un - (k - st)) ∧ cl.un = un ∧ cl.dy = dy ∧ ((∀ i, i < 5 → cl.pi i < 5) ∧ ∀ i j, i < 5 → j < 5 → cl.pi i = cl.pi j → i = j) ∧ zI1 cl D ∧ (∀ q, q < st → zIp cl (cl.pi q) 1 K) ∧ ∀ q, k ≤ q → q < un → zIp cl (cl.pi q) 0 K
section DY
variable {un : Nat} {dy : Int32} {D K : Int} {k : Nat} {cl : zCl} {st : Nat} {e : zQd}
theorem zSwp_at (h : st ≤ k) (hk : k < un) : ∀ q, q < un - (k - st) → (zSwp cl k st).pi (zIx (k + 1) (st + 1) q) = cl.pi (zIx k st q) := by
  intro q hq
  have e1 : (zSwp cl k st).pi = va_up (va_up cl.pi k (cl.pi st)) st (cl.pi k) := by unfold zSwp; rw [zpq_pi]
  rw [e1]
  unfold zIx
  rcases Nat.lt_trichotomy q st with z | z | z
  · rw [if_pos (by omega), if_pos z, va_up_ne _ _ (by omega), va_up_ne _ _ (by omega)]
  · subst z
    rw [if_pos (by omega), if_neg (by omega), va_up_self]
    congr 1; omega
  · rw [if_neg (by omega), if_neg (by omega), va_up_ne _ _ (by omega), va_up_ne _ _ (by omega)]
    congr 1; omega
theorem zSwp_inj (h5 : un ≤ 5) (h : st ≤ k) (hk : k < un) (hp : (∀ i, i < 5 → cl.pi i < 5) ∧ ∀ i j, i < 5 → j < 5 → cl.pi i = cl.pi j → i = j) : (∀ i, i < 5 → (zSwp cl k st).pi i < 5) ∧ ∀ i j, i < 5 → j < 5 → (zSwp cl k st).pi i = (zSwp cl k st).pi j → i = j := by
  have e1 : (zSwp cl k st).pi = va_up (va_up cl.pi k (cl.pi st)) st (cl.pi k) := by unfold zSwp; rw [zpq_pi]
  have e2 : ∀ i, (zSwp cl k st).pi i = cl.pi (if i = st then k else if i = k then st else i) := by
    intro i
    rw [e1]
    by_cases a : i = st
    · subst a; rw [va_up_self, if_pos rfl]
    · rw [va_up_ne _ _ a, if_neg a]
      by_cases b : i = k
      · subst b; rw [va_up_self, if_pos rfl]
      · rw [va_up_ne _ _ b, if_neg b]
  refine ⟨fun i hi => ?_, fun i j hi hj z => ?_⟩
  · rw [e2]; exact hp.1 _ (by split <;> (try split) <;> omega)
  · rw [e2, e2] at z
    have := hp.2 _ _ (by split <;> (try split) <;> omega) (by split <;> (try split) <;> omega) z
    split at this <;> (try split at this) <;> (try split at this) <;> (try split at this) <;> omega
/-- a parcel stays -/
theorem zDI_stay (h5 : un ≤ 5) {s' sT' sG' : Nat → Int32} {c' : zCl} (hst : st ≤ k) (hk : k < un) (hR : zRB c' s' (un - (k - st)) (zIx k st)) (h14 : s' 14 = nI (un - (k - st))) (hun : c'.un = un) (hdy : c'.dy = dy) (hpi : (∀ i, i < 5 → c'.pi i < 5) ∧ ∀ i j, i < 5 → j < 5 → c'.pi i = c'.pi j → i = j) (hI : zI1 c' D) (h1 : ∀ q, q < st → zIp c' (c'.pi q) 1 K) (hJ : zIp c' (c'.pi k) 1 K) (h2 : ∀ q, k + 1 ≤ q → q < un → zIp c' (c'.pi q) 0 K) : zDI un dy D K (k + 1) (zSwp c' k st) (st + 1) (s', sT', sG', st + 1, un - (k - st), k - st) := by
  have e1 : (zSwp c' k st).pi = va_up (va_up c'.pi k (c'.pi st)) st (c'.pi k) := by unfold zSwp; rw [zpq_pi]
  have hn : un - (k + 1 - (st + 1)) = un - (k - st) := by omega
  have hip : ∀ J e K, zIp c' J e K → zIp (zSwp c' k st) J e K := fun J e K h => h
  unfold zDI
  rw [hn]
  refine ⟨by omega, rfl, rfl, by dsimp only; omega, ⟨zRA_pi hR.1 (zSwp_at hst hk) rfl rfl rfl rfl rfl rfl rfl rfl rfl rfl rfl rfl rfl rfl rfl rfl, hR.2⟩, h14, hun, hdy, zSwp_inj h5 hst hk hpi, hI, fun q hq => ?_, fun q hq hq2 => ?_⟩
  · apply hip
    rw [e1]
    by_cases a : q = st
    · subst a; rw [va_up_self]; exact hJ
    · rw [va_up_ne _ _ a, va_up_ne _ _ (by omega)]; exact h1 q (by omega)
  · apply hip
    rw [e1, va_up_ne _ _ (by omega), va_up_ne _ _ (by omega)]; exact h2 q hq hq2
/-- a parcel is home -/
theorem zDI_home {s' sT' sG' : Nat → Int32} {c' : zCl} (hst : st ≤ k) (hk : k < un) (hR : zRB c' s' (un - (k - st)) (zIx k st)) (hun : c'.un = un) (hdy : c'.dy = dy) (hpi : (∀ i, i < 5 → c'.pi i < 5) ∧ ∀ i j, i < 5 → j < 5 → c'.pi i = c'.pi j → i = j) (hI : zI1 c' D) (hc : ∀ m, m < 6 → ∀ g, g < 8 → zRg (c'.cn (c'.pi k) m g) 0 20) (h1 : ∀ q, q < st → zIp c' (c'.pi q) 1 K) (h2 : ∀ q, k + 1 ≤ q → q < un → zIp c' (c'.pi q) 0 K) : zDI un dy D K (k + 1) (zUnp c' (c'.pi k)) st (zCH s' st (un - (k - st)), sT', sG', st, un - (k - st) - 1, k - st + 1) := by
  have hix : zIx k st st = k := by unfold zIx; rw [if_neg (by omega)]; omega
  obtain ⟨h3, h4⟩ := zCH_R hR (show st < un - (k - st) by omega)
  rw [hix] at h3
  have hn : un - (k - st) - 1 = un - (k + 1 - st) := by omega
  have hf : (fun q => zIx k st (if q < st then q else q + 1)) = zIx (k + 1) st := by
    funext q
    unfold zIx
    by_cases a : q < st
    · rw [if_pos a, if_pos a, if_pos a]
    · rw [if_neg a, if_neg (by omega), if_neg a]; omega
  rw [hf, hn] at h3
  rw [hn] at h4
  unfold zDI
  refine ⟨by omega, rfl, hn, by dsimp only; omega, h3, h4, hun, hdy, hpi, zUnp_I1 hI hc, fun q hq => zUnp_Ip (h1 q hq), fun q hq hq2 => zUnp_Ip (h2 q hq hq2)⟩
theorem zDI_step (h5 : un ≤ 5) (hD : D ≤ 100000) (h : zDI un dy D K k cl st e) (hk : k < un) : zDI un dy D K (k + 1) (zBd1 k (cl, st)).1 (zBd1 k (cl, st)).2 (zDy1 e) ∧ zBdOk cl k ∧ zCuOk e := by
  obtain ⟨s, sT, sG, par, pn, cnt⟩ := e
  obtain ⟨hst, hpar, hpn, hcnt, hR, h14, hun, hdy, hpi, hI, h1, h2⟩ := h
  dsimp only at hpar hpn hcnt hR h14
  subst hpar
  subst hpn
  subst hcnt
  have hix : zIx k par par = k := by unfold zIx; rw [if_neg (by omega)]; omega
  have hp : par < un - (k - par) := by omega
  have hr := hR.1.2.2.2 par hp
  rw [hix] at hr
  have hJ := h2 k (Nat.le_refl _) hk
  have hj : ∀ q, q < un - (k - par) → cl.pi (zIx k par q) = cl.pi (zIx k par par) → q = par := by
    intro q hq z
    have hb : zIx k par q < 5 := by unfold zIx; split <;> omega
    have := hpi.2 _ _ hb (by rw [hix]; omega) z
    rw [hix] at this
    unfold zIx at this
    split at this <;> omega
  have hdq : s (147 + 51 * par + 1) = cl.du (cl.pi k) := hr.2.1
  have h9 : s 9 = cl.dy := hR.1.1.2.1
  have hoq : s (147 + 51 * par + 2) = zb (cl.io (cl.pi k)) := hr.2.2.1
  have hne : ∀ q, (q < par ∨ k + 1 ≤ q ∧ q < un) → cl.pi q ≠ cl.pi k := by
    intro q hq z
    have := hpi.2 q k (by omega) (by omega) z
    omega
  have hcu : cl.io (cl.pi k) = false → (¬ zPcs (zCu5 s sT sG par) par = 0 ∧ zLat (zCu5 s sT sG par) par < 48) ∧ zRB (zCome cl (cl.pi k)) (zCuS s sT sG par) (un - (k - par)) (zIx k par) ∧ zOaOk ((zCl.mk cl.st cl.dy (zNx cl.x) cl.br cl.sp cl.wa cl.ac cl.ps cl.pp cl.pu cl.lo cl.un cl.op cl.pi cl.cn cl.vl cl.du cl.io cl.hp cl.hs)) (cl.pi k) := by
    intro hio
    have := zCu_R (sT := sT) (sG := sG) hR hp hj hI (by rw [hix]; exact hio) (by rw [hix]; exact hJ.1) (by rw [hix]; exact hJ.2.1) (by rw [hix]; exact hJ.2.2.2.2 hio)
    rw [hix] at this
    exact this
  refine ⟨?_, fun _ hio => (hcu hio).2.2, fun _ hio => ?_⟩
  · by_cases hdue : cl.du (cl.pi k) = cl.dy
    · have hdr : s (147 + 51 * par + 1) = s 9 := by rw [hdq, h9, hdue]
      by_cases hio : cl.io (cl.pi k) = true
      · have eB : zComeB cl (cl.pi k) = true := by unfold zComeB; rw [if_pos hio]
        have eC : zCome cl (cl.pi k) = cl := by unfold zCome; rw [if_pos hio]
        have e1 : zBd1 k (cl, par) = (zUnp cl (cl.pi k), par) := by
          refine (if_pos hdue).trans ((if_pos eB).trans ?_)
          rw [eC]
        have e2 : zDy1 (s, sT, sG, par, un - (k - par), k - par) = (zCH s par (un - (k - par)), sT, sG, par, un - (k - par) - 1, k - par + 1) := (if_pos hdr).trans (if_pos (by dsimp only; rw [hoq, hio]; rfl))
        rw [e1, e2]
        exact zDI_home hst hk hR hun hdy hpi hI hJ.1 h1 (fun q hq hq2 => h2 q (by omega) hq2)
      · have hio' : cl.io (cl.pi k) = false := Bool.eq_false_iff.mpr hio
        obtain ⟨-, hC, -⟩ := hcu hio'
        have hnr : ¬ s (147 + 51 * par + 2) = nI 1 := by rw [hoq, hio']; decide
        have eCu : zCuB s = zComeB cl (cl.pi k) := zCu_B hR hio'
        have hpi' : (zCome cl (cl.pi k)).pi = cl.pi := zCome_pi cl _
        by_cases eB : zComeB cl (cl.pi k) = true
        · have e1 : zBd1 k (cl, par) = (zUnp (zCome cl (cl.pi k)) (cl.pi k), par) := (if_pos hdue).trans (if_pos eB)
          have e2 : zDy1 (s, sT, sG, par, un - (k - par), k - par) = (zCH (zCuS s sT sG par) par (un - (k - par)), zCuT s sT par, zCuG s sT sG par, par, un - (k - par) - 1, k - par + 1) := (if_pos hdr).trans ((if_neg hnr).trans (if_pos (eCu.trans eB)))
          rw [e1, e2]
          have := zDI_home (un := un) (dy := dy) (D := D) (K := K) (sT' := zCuT s sT par) (sG' := zCuG s sT sG par) hst hk hC (by rw [zCome_un]; exact hun) (by rw [zCome_dy]; exact hdy) (by rw [hpi']; exact hpi) (zCome_I1 hI) (by rw [hpi']; exact zCome_cn hI.2.2.1 hJ.1 hJ.2.2.2.2) (fun q hq => by rw [hpi']; exact zIp_oth (hne q (Or.inl hq)) (h1 q hq)) (fun q hq hq2 => by rw [hpi']; exact zIp_oth (hne q (Or.inr ⟨hq, hq2⟩)) (h2 q (by omega) hq2))
          rw [hpi'] at this
          exact this
        · have eB' : zComeB cl (cl.pi k) = false := Bool.eq_false_iff.mpr eB
          have e1 : zBd1 k (cl, par) = (zSwp (zCome cl (cl.pi k)) k par, par + 1) := (if_pos hdue).trans (if_neg eB)
          have e2 : zDy1 (s, sT, sG, par, un - (k - par), k - par) = (zCuS s sT sG par, zCuT s sT par, zCuG s sT sG par, par + 1, un - (k - par), k - par) := (if_pos hdr).trans ((if_neg hnr).trans (if_neg (by dsimp only; rw [eCu]; exact eB)))
          rw [e1, e2]
          exact zDI_stay h5 hst hk hC (by rw [zCuS_14]; exact h14) (by rw [zCome_un]; exact hun) (by rw [zCome_dy]; exact hdy) (by rw [hpi']; exact hpi) (zCome_I1 hI) (fun q hq => by rw [hpi']; exact zIp_oth (hne q (Or.inl hq)) (h1 q hq)) (by rw [hpi']; exact zIp_stay hI hD hJ hdue eB') (fun q hq hq2 => by rw [hpi']; exact zIp_oth (hne q (Or.inr ⟨hq, hq2⟩)) (h2 q (by omega) hq2))
    · have hdr : ¬ s (147 + 51 * par + 1) = s 9 := by rw [hdq, h9]; exact hdue
      have e1 : zBd1 k (cl, par) = (zSwp cl k par, par + 1) := if_neg hdue
      have e2 : zDy1 (s, sT, sG, par, un - (k - par), k - par) = (s, sT, sG, par + 1, un - (k - par), k - par) := if_neg hdr
      rw [e1, e2]
      refine zDI_stay h5 hst hk hR h14 hun hdy hpi hI h1 ?_ (fun q hq hq2 => h2 q (by omega) hq2)
      obtain ⟨a1, a2, a3, a4, a5⟩ := hJ
      refine ⟨a1, a2, ?_, a4, a5⟩
      have : (cl.du (cl.pi k)).toInt ≠ cl.dy.toInt := fun z => hdue (Int32.toInt_inj.mp z)
      omega
  · have hio' : ¬ cl.io (cl.pi k) = true := by
      intro z
      apply hio
      show s (147 + 51 * par + 2) = nI 1
      rw [hoq, z]; rfl
    exact (hcu (Bool.eq_false_iff.mpr hio')).1
end DY
def zOcD (c : zCl) (s : Nat → Int32) (D K : Int) : Prop := zWf c ∧ zRl c s ∧ zIv c D K
theorem zDI_0 {c : zCl} {s sT sG : Nat → Int32} {D K : Int} (h : zOcD c s D K) (hD : D ≤ 90000) : zDI c.un (c.dy + nI 1) (D + 1) (K - 1) 0 (zDayC c) 0 (zDy0 s sT sG c.un) := by
  obtain ⟨hw, hR, hI⟩ := h
  have h1 : (nI 1).toInt = 1 := rfl
  obtain ⟨d1, d2⟩ := hI.1.2.1
  have hd : (c.dy + nI 1).toInt = c.dy.toInt + 1 := by rw [zg_add (by omega) (by omega)]; rfl
  have hx := w_dy (zRR_A hR) (c.dy + nI 1)
  have e0 : (zDy0 s sT sG c.un).1 = upd s 9 (c.dy + nI 1) := by
    show upd s 9 (s 9 + nI 1) = _
    rw [hR.1.2.1]
  have hix : zIx 0 0 = fun p => p := by funext q; unfold zIx; rw [if_neg (by omega)]; rfl
  unfold zDI
  rw [e0, hix]
  refine ⟨Nat.le_refl _, rfl, rfl, rfl, ⟨hx, ?_, ?_⟩, ?_, rfl, rfl, hw.2, ⟨hI.1.1, ?_, hI.1.2.2⟩, fun q hq => absurd hq (Nat.not_lt_zero q), fun q _ hq => ?_⟩
  · rw [pk_un (by omega)]; exact hR.1.2.2.2.2.1
  · rw [pk_un (by omega)]; exact hR.1.2.2.2.2.2
  · rw [pk_un (by omega)]; exact hR.2.1
  · show zRg (c.dy + nI 1) 0 (D + 1)
    unfold zRg; omega
  · obtain ⟨a1, a2, a3, a4, a5⟩ := hI.2 q hq
    refine ⟨a1, a2, ?_, ?_, a5⟩
    · show (c.dy + nI 1).toInt + 0 ≤ (c.du (c.pi q)).toInt
      omega
    · show (c.du (c.pi q)).toInt ≤ (c.dy + nI 1).toInt + (K - 1) - (if c.io (c.pi q) = true then 0 else 30)
      omega
theorem zDI_all {c : zCl} {s sT sG : Nat → Int32} {D K : Int} (h : zOcD c s D K) (hD : D ≤ 90000) : ∀ k, k ≤ c.un → zDI c.un (c.dy + nI 1) (D + 1) (K - 1) k (zBdL (zDayC c) k).1 (zBdL (zDayC c) k).2 (zDyL (zDy0 s sT sG c.un) k)
  | 0, _ => zDI_0 h hD
  | k + 1, hk => (zDI_step h.1.1 (by omega) (zDI_all h hD k (by omega)) (by omega)).1
theorem zDay_ok {c : zCl} {e : zQr} {D K : Int} (h : zOcD c e.1 D K) (hD : D ≤ 90000) (he : e.2.2.2 = c.un) : zDayOk c ∧ zDyOkR e ∧ zOcD (zBd c) (zDyR e).1 (D + 1) (K - 1) ∧ (zDyR e).2.2.2 = (zBd c).un ∧ c.un - (zBdL (zDayC c) c.un).2 = (zDyE e).2.2.2.2.2 ∧ (zBd c).dy = c.dy + nI 1 := by
  obtain ⟨s, sT, sG, pn⟩ := e
  dsimp only at h he
  subst he
  have hk := zDI_all (sT := sT) (sG := sG) h hD
  have hs : ∀ k, k < c.un → zBdOk (zBdL (zDayC c) k).1 k ∧ zCuOk (zDyL (zDy0 s sT sG c.un) k) := fun k hk' => (zDI_step h.1.1 (by omega) (hk k (by omega)) hk').2
  obtain ⟨hst, hpar, hpn, hcnt, hR, h14, hun, hdy, hpi, hI, h1, h2⟩ := hk c.un (Nat.le_refl _)
  have hle := zBdL_le (zDayC c) c.un
  have hn : c.un - (c.un - (zBdL (zDayC c) c.un).2) = (zBdL (zDayC c) c.un).2 := by omega
  rw [hn] at hR h14 hpn
  have hu5 := h.1.1
  refine ⟨⟨hu5, h.1.2.1, fun k hk' => (hs k hk').1⟩, ⟨h.2.1.2.1, hu5, fun k hk' => (hs k hk').2⟩, ⟨⟨?_, hpi⟩, zRA_R ?_ hR.2.1 hR.2.2 h14, hI, h1⟩, hpn, hcnt.symm, hdy⟩
  · show (zBdL (zDayC c) c.un).2 ≤ 5
    omega
  · refine zRA_pi hR.1 (fun q hq => ?_) rfl rfl rfl rfl rfl rfl rfl rfl rfl rfl rfl rfl rfl rfl rfl rfl
    unfold zIx
    rw [if_pos (show q < (zBdL (zDayC c) c.un).2 from hq)]; rfl
/-! days -/
theorem zPs_ok {c : zCl} {e : zQr} {D K : Int} (h : zOcD c e.1 D K) (hD : D ≤ 80000) (he : e.2.2.2 = c.un) : ∀ k : Nat, k ≤ 100 → zOcD (zPs c k) (zPsR e k).1 (D + k) (K - k) ∧ (zPsR e k).2.2.2 = (zPs c k).un ∧ (zPs c k).dy = c.dy + nI k
  | 0, _ => ⟨by rw [show D + ((0 : Nat) : Int) = D by omega, show K - ((0 : Nat) : Int) = K by omega]; exact h, he, (Int32.add_zero _).symm⟩
  | k + 1, hk => by
    obtain ⟨h1, h2, h3⟩ := zPs_ok h hD he k (by omega)
    obtain ⟨-, -, h4, h5, -, h6⟩ := zDay_ok h1 (by omega) h2
    refine ⟨?_, h5, ?_⟩
    · rw [show D + ((k + 1 : Nat) : Int) = D + k + 1 by omega, show K - ((k + 1 : Nat) : Int) = K - k - 1 by omega]
      exact h4
    · show (zBd (zPs c k)).dy = _
      rw [h6, h3, Int32.add_assoc, nI_add]
theorem zPs_day {c : zCl} {e : zQr} {D K : Int} (h : zOcD c e.1 D K) (hD : D ≤ 80000) (he : e.2.2.2 = c.un) (k : Nat) (hk : k ≤ 100) : zDayOk (zPs c k) ∧ zDyOkR (zPsR e k) := by
  obtain ⟨h1, h2, -⟩ := zPs_ok h hD he k hk
  have := zDay_ok h1 (by omega) h2
  exact ⟨this.1, this.2.1⟩
theorem zPs_cnt {c : zCl} {e : zQr} {D K : Int} (h : zOcD c e.1 D K) (hD : D ≤ 80000) (he : e.2.2.2 = c.un) : ∀ k : Nat, k ≤ 100 → zPsH c k = zPsN e k
  | 0, _ => rfl
  | k + 1, hk => by
    obtain ⟨h1, h2, -⟩ := zPs_ok h hD he k (by omega)
    have h3 := (zDay_ok h1 (by omega) h2).2.2.2.2.1
    show zPsH c k + nI _ = zPsN e k + nI _
    rw [zPs_cnt h hD he k (by omega), h3]
theorem zIv_le {c : zCl} {D D' K K' : Int} (h : zIv c D K) (hd : c.dy.toInt ≤ D') (hK : K ≤ K') : zIv c D' K' := by
  refine ⟨⟨h.1.1, ⟨h.1.2.1.1, hd⟩, h.1.2.2⟩, fun p hp => ?_⟩
  obtain ⟨a1, a2, a3, a4, a5⟩ := h.2 p hp
  exact ⟨a1, a2, a3, by omega, a5⟩
theorem zDpass_eq {c : zCl} {s : Nat → Int32} (h : zRl c s) (v : Int32) : zDpass c v = zDpassR s v := by
  unfold zDpass zDpassR; rw [h.1.2.1]
theorem zDpass_in {c : zCl} {v : Int32} {n : Nat} (h : zDpass c v = .inr n) : n < 61 ∧ c.dy + nI n ≤ nI 9999 := by
  obtain ⟨i, hi, h⟩ := zOb_in h
  split at h
  · cases h
  · split at h
    · cases h; exact ⟨zix_lt hi, by assumption⟩
    · cases h
theorem ch_pass {c : zCl} {s sT sG : Nat → Int32} (h : zOc c s) {v : Int32} {n : Nat} (hd : zDpass c v = .inr n) : zOc (zPs c n) (zPsR (s, sT, sG, c.un) n).1 := by
  obtain ⟨h1, h2⟩ := zDpass_in hd
  obtain ⟨⟨a, b, e⟩, -, hdy⟩ := zPs_ok (c := c) (e := (s, sT, sG, c.un)) (D := 9999) (K := 50) h (by omega) rfl n (by omega)
  refine ⟨a, b, zIv_le e ?_ (by omega)⟩
  have h9 : (nI 9999).toInt = 9999 := nI_toInt (by omega)
  rw [hdy]
  have := Int32.le_iff_toInt_le.mp h2
  omega
theorem zUh_0 {c : zCl} {s sT sG : Nat → Int32} (h : zOc c s) : (zPs c 50).un = 0 := by
  obtain ⟨⟨a, b, e⟩, -, -⟩ := zPs_ok (c := c) (e := (s, sT, sG, c.un)) (D := 9999) (K := 50) h (by omega) rfl 50 (by omega)
  rcases Nat.eq_zero_or_pos (zPs c 50).un with z | z
  · exact z
  · obtain ⟨-, -, a3, a4, -⟩ := e.2 0 z
    split at a4 <;> omega
theorem zUh_eq {c : zCl} {s sT sG : Nat → Int32} (h : zOc c s) : zUhF c 50 0 = zUhR (s, sT, sG, c.un) := by
  have hk : ∀ k, k ≤ 100 → (zPsR (s, sT, sG, c.un) k).2.2.2 = (zPs c k).un := fun k hk => (zPs_ok (c := c) (e := (s, sT, sG, c.un)) (D := 9999) (K := 50) h (by omega) rfl k hk).2.1
  have key : ∀ n k, k + n ≤ 50 → zUhF c n k = zFst (fun k => !decide ((zPsR (s, sT, sG, c.un) k).2.2.2 = 0)) n k := by
    intro n
    induction n with
    | zero => intro k _; rfl
    | succ n ih =>
      intro k hkn
      unfold zUhF zFst
      rw [hk k (by omega), ih (k + 1) (by omega)]
      by_cases z : (zPs c k).un = 0
      · rw [if_pos z, decide_eq_true z]; rfl
      · rw [if_neg z, decide_eq_false z]; rfl
  exact key 50 0 (by omega)
