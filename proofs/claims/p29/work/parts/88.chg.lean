/-! what each change does to what was paid -/
theorem av_ext {c c' : zCl} {P E E' : Int} (h : zAv c P E) (hE : E ≤ E') (h30 : E' ≤ 30) (e1 : c'.ac = c.ac) (e2 : c'.ps = c.ps) (e3 : c'.pp = c.pp) (e4 : c'.pu = c.pu) (e5 : c'.un = c.un) (e6 : c'.pi = c.pi) (e7 : c'.io = c.io) (e8 : c'.vl = c.vl) : zAv c' P E' := by
  have hU : yUo c' = yUo c := by
    unfold yUo yUn
    rw [e5, e6]
    exact isum_congr (fun q hq => yTm_ext (by rw [e7]) (by rw [e8]))
  unfold zAv
  rw [hU]
  exact yAw_E (yAw_ext h e1 e2 e3 e4) hE h30
theorem iS_set {f : Nat → Int32} {i : Nat} (hi : i < 6) (v : Int32) : iS (upd f i v) = iS f + (v.toInt - (f i).toInt) := by
  have := isum_set (f := fun k => (f k).toInt) (g := fun k => (upd f i v k).toInt) hi (fun k hk hne => by simp [upd, hne])
  unfold iS
  rw [this]
  simp [upd]
theorem av_pay {c : zCl} {P E E' : Int} {v : Int32} {i : Nat} (h : zAv c P E) (hi : i < 6) (hv : zRg v 1 1000) (hE : E ≤ E') (h30 : E' ≤ 30) (hP : P + v.toInt ≤ 5400 + 1000 * E') : zAv (zPaC c v i) (P + v.toInt) E' := by
  obtain ⟨v1, v2⟩ := hv
  have hU : yUo (zPaC c v i) = yUo c := by
    unfold yUo yUn zPaC
    rw [zpq_un, zpq_pi]
    exact isum_congr (fun q hq => yTm_ext (by rw [zpq_io]) (by rw [zpq_vl]))
  unfold zAv
  rw [hU]
  obtain ⟨-, bd⟩ := yAw_bd h
  obtain ⟨a1, a2, a3, a4, a5, a6, a7, a8, a9⟩ := h
  have e1 : (zPaC c v i).ac = upd c.ac i (c.ac i + v) := by unfold zPaC; rw [zpq_ac]
  have e2 : (zPaC c v i).ps = c.ps := by unfold zPaC; rw [zpq_ps]
  have e3 : (zPaC c v i).pp = c.pp := by unfold zPaC; rw [zpq_pp]
  have e4 : (zPaC c v i).pu = c.pu := by unfold zPaC; rw [zpq_pu]
  obtain ⟨-, -, -, b1, b2⟩ := bd i hi
  have ev : (c.ac i + v).toInt = (c.ac i).toInt + v.toInt := zg_add (by omega) (by omega)
  unfold yAw
  rw [e1, e2, e3, e4, iS_set hi, ev]
  refine ⟨a1, fun m hm => ?_, by omega, by omega, a5, a6, by omega, h30, hP⟩
  obtain ⟨d1, d2⟩ := a2 m hm
  by_cases hmi : m = i
  · subst hmi
    have : upd c.ac m (c.ac m + v) m = c.ac m + v := by simp [upd]
    rw [this, ev]; omega
  · have : upd c.ac i (c.ac i + v) m = c.ac m := by simp [upd, hmi]
    rw [this]; omega
theorem zPrice5 : ∀ g, g < 8 → 10 ≤ (nI (10 + 5 * g)).toInt ∧ (nI (10 + 5 * g)).toInt ≤ 45 := by decide +kernel
theorem av_give {c : zCl} {P E : Int} {v : Int32} {i j g : Nat} (h : zAv c P E) (hi : i < 6) (hj : j < 6) (hij : i ≠ j) (hg : g < 8) (hv : zRg v 1 20) (h30 : E + 1 ≤ 30) : zAv (zGvC c v (i, j, g)) P (E + 1) ∧ (zGvA c v (i, j, g) i).toInt = (c.ac i).toInt + (v * nI (10 + 5 * g)).toInt ∧ 0 ≤ (v * nI (10 + 5 * g)).toInt := by
  obtain ⟨v1, v2⟩ := hv
  obtain ⟨p1, p2⟩ := zPrice5 g hg
  have m1 : v.toInt * (nI (10 + 5 * g)).toInt ≤ 20 * 45 := Int.mul_le_mul v2 p2 (by omega) (by omega)
  have m2 := Int.mul_nonneg (show 0 ≤ v.toInt by omega) (show 0 ≤ (nI (10 + 5 * g)).toInt by omega)
  have ew : (v * nI (10 + 5 * g)).toInt = v.toInt * (nI (10 + 5 * g)).toInt := zg_mul (by omega) (by omega)
  obtain ⟨w, hw⟩ : ∃ w, w = v * nI (10 + 5 * g) := ⟨_, rfl⟩
  have w1 : 0 ≤ w.toInt := by rw [hw, ew]; exact m2
  have w2 : w.toInt ≤ 900 := by rw [hw, ew]; omega
  have hU : yUo (zGvC c v (i, j, g)) = yUo c := by
    unfold yUo yUn zGvC
    rw [zpq_un, zpq_pi]
    exact isum_congr (fun q hq => yTm_ext (by rw [zpq_io]) (by rw [zpq_vl]))
  obtain ⟨-, bd⟩ := yAw_bd h
  obtain ⟨-, -, -, b1, b2⟩ := bd i hi
  obtain ⟨-, -, -, d1, d2⟩ := bd j hj
  have hu : upd c.ac i (c.ac i + w) j = c.ac j := by simp [upd, Ne.symm hij]
  have eA : zGvA c v (i, j, g) = upd (upd c.ac i (c.ac i + w)) j (c.ac j - w) := by
    unfold zGvA
    dsimp only
    rw [← hw, hu]
  have e1 : (zGvC c v (i, j, g)).ac = upd (upd c.ac i (c.ac i + w)) j (c.ac j - w) := by unfold zGvC; rw [zpq_ac, eA]
  have e2 : (zGvC c v (i, j, g)).ps = c.ps := by unfold zGvC; rw [zpq_ps]
  have e3 : (zGvC c v (i, j, g)).pp = c.pp := by unfold zGvC; rw [zpq_pp]
  have e4 : (zGvC c v (i, j, g)).pu = c.pu := by unfold zGvC; rw [zpq_pu]
  have x1 : (c.ac i + w).toInt = (c.ac i).toInt + w.toInt := zg_add (by omega) (by omega)
  have x2 : (c.ac j - w).toInt = (c.ac j).toInt - w.toInt := zg_sub (by omega) (by omega)
  refine ⟨?_, ?_, by rw [← hw]; exact w1⟩
  · unfold zAv
    rw [hU]
    obtain ⟨a1, a2, a3, a4, a5, a6, a7, a8, a9⟩ := h
    unfold yAw
    rw [e1, e2, e3, e4, iS_set hj, iS_set hi, hu, x1, x2]
    refine ⟨a1, fun m hm => ?_, by omega, a4, a5, a6, by omega, h30, by omega⟩
    obtain ⟨q1, q2⟩ := a2 m hm
    by_cases hmj : m = j
    · subst hmj
      have : upd (upd c.ac i (c.ac i + w)) m (c.ac m - w) m = c.ac m - w := by simp [upd]
      rw [this, x2]; omega
    · by_cases hmi : m = i
      · subst hmi
        have : upd (upd c.ac m (c.ac m + w)) j (c.ac j - w) m = c.ac m + w := by simp [upd, hmj]
        rw [this, x1]; omega
      · have : upd (upd c.ac i (c.ac i + w)) j (c.ac j - w) m = c.ac m := by simp [upd, hmj, hmi]
        rw [this]; omega
  · rw [eA, ← hw]
    have : upd (upd c.ac i (c.ac i + w)) j (c.ac j - w) i = c.ac i + w := by simp [upd, hij]
    rw [this, x1]
theorem av_send {c : zCl} {s : Nat → Int32} {mm : Int32} {d : zOd} {u : Unit} {P E : Int} (h : zOc c s) (hd : zDsendC c mm d = .inr u) (hA : zAv c P E) : zAv (zDiC c mm (zGaO c mm d)) P E := by
  have hw := zRw_of h.2.1
  have hI := h.2.2.1
  -- what was tested
  have hcost : zCoO (zGaO c mm d) ≤ lsum c.ac 6 := by
    unfold zDsendC at hd
    split at hd
    · cases hd
    · split at hd
      · split at hd
        · cases hd
        · split at hd
          · assumption
          · cases hd
      · cases hd
  obtain ⟨-, hun⟩ := zDsend_in hd
  obtain ⟨bs, bd⟩ := yAw_bd hA
  obtain ⟨t1, t2, t3, t4, t5, t6⟩ := bs
  obtain ⟨v1, v2⟩ := zVal_rg (zI1_wa hw hI) mm
  obtain ⟨o1, o2⟩ := zPost_rg (mm := mm) hw hI
  have hP := hA.2.2.1
  have hP4 := hA.2.2.2.1
  have eac : (lsum c.ac 6).toInt = iS c.ac := by
    rw [lsum_ofInt, Int32.toInt_ofInt_of_le]
    · rfl
    · show -2 ^ 31 ≤ iS c.ac; omega
    · show iS c.ac < 2 ^ 31; omega
  have hc2 : (zVal s mm).toInt + (zPost s mm).toInt ≤ iS c.ac := by
    rw [zGa_cost hw d] at hcost
    have := Int32.le_iff_toInt_le.mp hcost
    rw [eac] at this
    unfold zCost at this
    rw [zg_add (by omega) (by omega)] at this
    exact this
  -- the parts
  obtain ⟨hgp, hgs⟩ := zGets_p (mm := mm) hw hI (fun _ => 0)
  have own := fun m hm => zOwn_rg (mm := mm) hw hI (m := m) hm
  have io := lsum_int (f := zOwn s mm) (B := 7200) (by omega) 6 (by omega) own
  rw [zOwn_all] at io
  have ig := lsum_int (f := zGet (zPost s mm) (zParts s mm (fun _ => 0))) (B := 50001) (by omega) 6 (by omega) (fun m hm => (hgp m hm).1)
  rw [hgs] at ig
  have hsr : ∀ m, m < 6 → zGets (zGaO c mm d).po (zC0 (zGaO c mm d).pt (zOpt c.wa mm) 6) (zGaO c mm d).sr m = zGet (zPost s mm) (zParts s mm (fun _ => 0)) m := by
    intro m hm
    rw [zGets_at _ _ _ hm, zGa_pos hw d]
    exact zGet_congr _ (zParts_eq hw mm _ _) m hm
  have e1 : (zDiC c mm (zGaO c mm d)).ac = zC0 c.ac (zDpA c.ac (zGets (zGaO c mm d).po (zC0 (zGaO c mm d).pt (zOpt c.wa mm) 6) (zGaO c mm d).sr) c.wa (zGaO c mm d).pr mm) 6 := by unfold zDiC; rw [zpq_ac]
  have e2 : (zDiC c mm (zGaO c mm d)).ps = zC0 c.ps (zDpS c.ps c.wa (zGaO c mm d).pr mm) 6 := by unfold zDiC; rw [zpq_ps]
  have e3 : (zDiC c mm (zGaO c mm d)).pp = zC0 c.pp (zDpP c.pp (zGets (zGaO c mm d).po (zC0 (zGaO c mm d).pt (zOpt c.wa mm) 6) (zGaO c mm d).sr) mm) 6 := by unfold zDiC; rw [zpq_pp]
  have e4 : (zDiC c mm (zGaO c mm d)).pu = c.pu := by unfold zDiC; rw [zpq_pu]
  have hU : yUo (zDiC c mm (zGaO c mm d)) = yUo c + (zVal s mm).toInt := by
    unfold yUo yUn zDiC
    rw [zpq_un, zpq_pi]
    show isum _ c.un + _ = _
    congr 1
    · refine isum_congr (fun q hq => ?_)
      have hne : c.pi q ≠ c.pi c.un := fun z => by have := h.1.2.2 q c.un (by omega) hun z; omega
      refine yTm_ext ?_ ?_
      · rw [zpq_io, va_up_ne _ _ hne]
      · rw [zpq_vl, va_up_ne _ _ hne]
    · unfold yTm
      rw [zpq_io, zpq_vl]
      show (if va_up c.io (c.pi c.un) false (c.pi c.un) = true then (0 : Int) else (va_up c.vl (c.pi c.un) (zGaO c mm d).vl (c.pi c.un)).toInt) = _
      rw [va_up_self, va_up_self, if_neg (by decide), zGa_vl hw d]
  unfold zAv
  rw [hU]
  refine yAw_move (a := fun m => (zOwn s mm m).toInt) (b := fun m => (zGet (zPost s mm) (zParts s mm (fun _ => 0)) m).toInt) (g := fun _ => 0) hA (fun m hm => ?_) (fun m hm => ?_) (fun m hm => by omega) (fun m hm => ?_) (fun m hm => ?_) (fun m hm => ?_) (fun m hm => by rw [e4]; omega) ?_ ?_ ?_
  · obtain ⟨x1, x2⟩ := own m hm; omega
  · obtain ⟨x1, x2⟩ := (hgp m hm).1; omega
  · obtain ⟨x1, x2⟩ := own m hm
    obtain ⟨⟨y1, y2⟩, y3⟩ := hgp m hm
    obtain ⟨-, -, -, b1, b2⟩ := bd m hm
    rw [e1, zC0_lt hm]
    unfold zDpA
    by_cases hh : zHas mm m = true
    · rw [if_pos hh, hsr m hm]
      have ho := zOwn_eq (mm := mm) hw d hm
      rw [if_pos hh] at ho
      rw [← ho]
      rw [zg_sub (by rw [zg_add (by omega) (by omega)]; omega) (by rw [zg_add (by omega) (by omega)]; omega), zg_add (by omega) (by omega)]
      omega
    · have hf := Bool.eq_false_iff.mpr hh
      rw [if_neg hh, y3 hf, zOwn_not hf]
      have hz : (0 : Int32).toInt = 0 := rfl
      omega
  · obtain ⟨x1, x2⟩ := own m hm
    obtain ⟨⟨b1, b2⟩, -⟩ := bd m hm
    rw [e2, zC0_lt hm]
    unfold zDpS
    by_cases hh : zHas mm m = true
    · have ho := zOwn_eq (mm := mm) hw d hm
      rw [if_pos hh] at ho
      rw [if_pos hh, ← ho, zg_add (by omega) (by omega)]
    · rw [if_neg hh, zOwn_not (Bool.eq_false_iff.mpr hh)]
      have hz : (0 : Int32).toInt = 0 := rfl
      omega
  · obtain ⟨⟨y1, y2⟩, y3⟩ := hgp m hm
    obtain ⟨-, ⟨b1, b2⟩, -⟩ := bd m hm
    rw [e3, zC0_lt hm]
    unfold zDpP
    by_cases hh : zHas mm m = true
    · rw [if_pos hh, hsr m hm, zg_add (by omega) (by omega)]
    · rw [if_neg hh, y3 (Bool.eq_false_iff.mpr hh)]
      have hz : (0 : Int32).toInt = 0 := rfl
      omega
  · show iS c.ps + iS c.pp + (isum (fun m => (zOwn s mm m).toInt) 6 + isum (fun m => (zGet (zPost s mm) (zParts s mm (fun _ => 0)) m).toInt) 6) ≤ P
    rw [← io, ← ig]
    omega
  · show 2 * isum (fun _ => (0 : Int)) 6 + (yUo c + (zVal s mm).toInt) ≤ isum (fun m => (zOwn s mm m).toInt) 6 + yUo c
    rw [← io]
    have : isum (fun _ => (0 : Int)) 6 = 0 := rfl
    rw [this]; omega
  · have := hA.2.2.2.2.2.1
    omega
theorem av_pass {c : zCl} {s : Nat → Int32} {v : Int32} {n : Nat} {P E : Int} (h : zOc c s) (hd : zDpass c v = .inr n) (hA : zAv c P E) : zAv (zPs c n) P E := zPs_av (D := 9999) (K := 50) h (by omega) hA n (by have := (zDpass_in hd).1; omega)
/-- a new club -/
theorem av_0 : zAv zC0b 0 0 := by
  have hz : ∀ m : Nat, ((fun _ => (0 : Int32)) m).toInt = 0 := fun m => rfl
  have hS : iS (fun _ => (0 : Int32)) = 0 := rfl
  have hU : yUo zC0b = 0 := rfl
  unfold zAv
  rw [hU]
  exact ⟨fun m hm => ⟨Int.le_refl _, Int.le_refl _, Int.le_refl _⟩, fun m hm => ⟨by show -(900 * (0 : Int)) - (0 + 0 + 0) ≤ 0; omega, by show (0 : Int) ≤ 0 + 900 * 0; omega⟩, rfl, Int.le_refl _, Int.le_refl _, Int.le_refl _, Int.le_refl _, by omega, by omega⟩
