/-! the object as the law sees it -/
theorem ho_in {G : zG} (M M2 : zM) {a : Nat} {c t : zCl} {hc sc : Nat → zCl} {kp : Int32} {hi : Nat → Nat} {sv : Nat → Bool} {sg : Nat → Int32} {pl : Int32} {d : zOd} {q : Nat} (h1 : a ≤ q) (h2 : q < a + 672) : hoM G M a c t hc sc kp hi sv sg pl d q = hoM G M2 a c t hc sc kp hi sv sg pl d q := by
  have hn0 : ¬ (q < a ∨ a + 672 ≤ q) := by omega
  unfold hoM
  rw [if_neg hn0, if_neg hn0]
  by_cases g1 : q = a
  · rw [if_pos g1, if_pos g1]
  rw [if_neg g1, if_neg g1]
  by_cases g2 : q < a + 67
  · rw [if_pos g2, if_pos g2]; exact ck_in M M2 (by omega) (by omega)
  rw [if_neg g2, if_neg g2]
  by_cases g3 : q < a + 133
  · rw [if_pos g3, if_pos g3]; exact ck_in M M2 (by omega) (by omega)
  rw [if_neg g3, if_neg g3]
  by_cases g4 : q = a + 133
  · rw [if_pos g4, if_pos g4]
  rw [if_neg g4, if_neg g4]
  by_cases g5 : q = a + 134
  · rw [if_pos g5, if_pos g5]
  rw [if_neg g5, if_neg g5]
  by_cases g6 : q = a + 135
  · rw [if_pos g6, if_pos g6]
  rw [if_neg g6, if_neg g6]
  by_cases g7 : q < a + 138
  · rw [if_pos g7, if_pos g7]; exact pd_in M M2 (by omega) (by omega)
  rw [if_neg g7, if_neg g7]
  by_cases g8 : q < a + 144
  · rw [if_pos g8, if_pos g8]; exact ok_in M M2 (by omega) (by omega)
  rw [if_neg g8, if_neg g8]
  by_cases g9 : q < a + 540
  · rw [if_pos g9, if_pos g9]; exact ck_in M M2 (by omega) (by omega)
  rw [if_neg g9, if_neg g9]
  exact ck_in M M2 (by omega) (by omega)
theorem ho_zu {G : zG} {M : zM} {a : Nat} {c t : zCl} {hc sc : Nat → zCl} {kp : Int32} {hi : Nat → Nat} {sv : Nat → Bool} {sg : Nat → Int32} {pl : Int32} {d : zOd} {q : Nat} {e : va_E} (h : q < a ∨ a + 672 ≤ q) : zu (hoM G M a c t hc sc kp hi sv sg pl d) q e = hoM G (zu M q e) a c t hc sc kp hi sv sg pl d := by
  funext w
  by_cases hw : w = q
  · subst hw; rw [zu_self, ho_out h, zu_self]
  · rw [zu_ne _ _ hw]
    by_cases hr : w < a ∨ a + 672 ≤ w
    · rw [ho_out hr, ho_out hr, zu_ne _ _ hw]
    · exact ho_in M (zu M q e) (by omega) (by omega)
/-- a call's end: an answer, and what holds of the memory -/
def zPq (v : Option Value) (Pr : zM → Prop) : Option Value → zM → Prop := fun r M' => r = v ∧ Pr M'
theorem r_cSq {K : zK} {G : zG} {y : MethodName} {b : ByteArray} {nL : Nat} {R : Room} {ret : Option FieldType} {Q : State → Prop} {cells slots : Nat} {M : zM} {N pc : Nat} {lv : List (Nat × Value)} {st : List Value} (h : zOk K G y b nL R ret) {x : MethodName} {bx : ByteArray} {n np : Nat} {rx : Option FieldType} {f w index : Nat} {As : List Value} {v : Value} {Pr : zM → Prop} (rest : List Value) (hm : zMi x bx n rx np) (hlk : Cond.methodLink y.cls index x ∈ lw_tbl) (hstc : Cond.static x ∈ lw_tbl) (hd : decode b pc = .ok (.invokestatic index, 3)) (hC : zC K.2.1 G x bx n rx f w 0 0 As M N (zPq (some v) Pr)) (hnp : As.length = np) (hst : st = As.reverse ++ rest) (hR : f + 1 ≤ R.frames ∧ 8 + (n + 11) + w ≤ R.locals) (hW : (rest.map fun v => v.category).sum ≤ 8) (hf : cells ≤ R.cells ∧ slots ≤ R.slots)
    (kk : ∀ M', Pr M' → zW K G nL Q cells slots M' N (pc + 3) lv (v :: rest)) : zW K G nL Q cells slots M N pc lv st := r_callS h hm hlk hstc hd hC hnp hst hR hW hf (fun r M1 hP => by obtain ⟨rfl, h2⟩ := hP; exact kk M1 h2)
/-- what is asked changes but the draft and the trial -/
def zDm (G : zG) (M : zM) (a : Nat) (c : zCl) (hc sc : Nat → zCl) (kn : Nat) (hi : Nat → Nat) (sv : Nat → Bool) (sg : Nat → Int32) (pl : Int32) (M' : zM) : Prop := ∃ (t : zCl) (d : zOd), zWf t ∧ M' = hoM G M a c t hc sc (nI kn) hi sv sg pl d
theorem zDm_o {G : zG} {M M' : zM} {a : Nat} {c : zCl} {hc sc : Nat → zCl} {kn : Nat} {hi : Nat → Nat} {sv : Nat → Bool} {sg : Nat → Int32} {pl : Int32} (h : zDm G M a c hc sc kn hi sv sg pl M') : ∃ fs, M' a = some (zO 5 fs) := by
  obtain ⟨t, d, -, rfl⟩ := h
  exact ⟨_, ho_o⟩
theorem zDm_out {G : zG} {M M' : zM} {a : Nat} {c : zCl} {hc sc : Nat → zCl} {kn : Nat} {hi : Nat → Nat} {sv : Nat → Bool} {sg : Nat → Int32} {pl : Int32} (h : zDm G M a c hc sc kn hi sv sg pl M') {q : Nat} (hq : q < a ∨ a + 672 ≤ q) : M' q = M q := by
  obtain ⟨t, d, -, rfl⟩ := h
  exact ho_out hq
theorem zSel_n {w n : Nat} {l : List Int32} (hw : w < n) (hn : n < 2 ^ 31) : zSel (zix (nI w) n) l = l.getD w (-100002) := by
  rw [zix_nI hw hn]; rfl
theorem zSet_in {k : Nat} (hk : k < 64) : zbe (nI k) (nI 0) (nI 63) = true := (show ∀ k, k < 64 → zbe (nI k) (nI 0) (nI 63) = true by decide +kernel) k hk
section QU
variable (l : Launch) {G : zG} {M M' : zM} {a : Nat} (N : Nat) {c : zCl} {hc sc : Nat → zCl} {kn : Nat} {hi : Nat → Nat} {sv : Nat → Bool} {sg : Nat → Int32} {pl : Int32} {s : Nat → Int32}
theorem q_order (hO : zOc c s) (h : zDm G M a c hc sc kn hi sv sg pl M') {k : Nat} (hk : k < 64) (w : Nat) (hw : w < 5) {r : Int32} (hr : [zCost s (nI k), zVal s (nI k), zPost s (nI k), zStr s (nI k), zDuty s (zVal s (nI k))].getD w (-100002) = r) : ∃ M1, zC l G yX5_order cX5_order 3 (some .int) 3 67 0 0 [.ref a, .int (nI k), .int (nI w)] M' N (zP (some (.int (r))) M1) ∧ zDm G M a c hc sc kn hi sv sg pl M1 := by
  obtain ⟨t, d, hT, rfl⟩ := h
  have hC := c_X5_order l G M N a c t hc sc (nI kn) hi sv sg pl d (nI k) (nI w)
  have hd : zDord (nI k) = .inr () := if_pos (zSet_in hk)
  simp only [hd, zE_r, zU_r] at hC
  rw [zOrd_eq (zRw_of hO.2.1) hO.2.2.1] at hC
  have e : zRord s (nI k) (nI w) = r := (zSel_n hw (by omega)).trans hr
  rw [e] at hC
  exact ⟨_, hC, t, _, hT, rfl⟩
theorem q_share (hO : zOc c s) (h : zDm G M a c hc sc kn hi sv sg pl M') {k m : Nat} (hk : k < 64) (hm : m < 6) : ∃ M1, zC l G yX5_share cX5_share 3 (some .int) 3 72 0 0 [.ref a, .int (nI k), .int (nI m)] M' N (zP (some (.int (zShr s (nI k) m))) M1) ∧ zDm G M a c hc sc kn hi sv sg pl M1 := by
  obtain ⟨t, d, hT, rfl⟩ := h
  have hC := c_X5_share l G M N a c t hc sc (nI kn) hi sv sg pl d (nI k) (nI m) (zOpt_nn hO.2.2.1 (nI k) d.pt)
  have hd : zDshare (nI k) (nI m) = .inr m := by unfold zDshare; rw [zix_nI hm (by omega)]; exact if_pos (zSet_in hk)
  simp only [hd, zE_r, zU_r] at hC
  have e : zRshC c (nI k) d m = zShr s (nI k) m := by
    rw [zShare_eq (zRw_of hO.2.1) (nI k) d (fun _ => 0) (fun _ => 0) hm]
    unfold zRshare zShr
    rw [zGets_at _ _ _ hm]
  rw [e] at hC
  exact ⟨_, hC, t, _, hT, rfl⟩
theorem q_count (hO : zOc c s) (h : zDm G M a c hc sc kn hi sv sg pl M') (w : Nat) (hw : w < 19) {r : Int32} (hr : (if w < 9 then c.st w else [c.dy, lsum c.ac 6, nI c.un, c.op, lsum c.pu 6, lsum c.lo 6, lsum (zPopT c.br) 6, c.x, pl, nI kn].getD (w - 9) (-100002)) = r) : ∃ M1, zC l G yX5_count cX5_count 2 (some .int) 2 45 0 0 [.ref a, .int (nI w)] M' N (zP (some (.int (r))) M1) ∧ zDm G M a c hc sc kn hi sv sg pl M1 := by
  obtain ⟨t, d, hT, rfl⟩ := h
  have hC := c_X5_count l G M N a c t hc sc (nI kn) hi sv sg pl d kn (nI w)
  have e : zRcntC c kn pl (nI w) = r := by
    rw [← hr]
    unfold zRcntC
    by_cases h9 : w < 9
    · rw [zix_nI h9 (by omega), if_pos h9]
    · rw [zix_none h9 (by omega), zix_nI hw (by omega), if_neg h9]
  rw [e] at hC
  exact ⟨_, hC, t, d, hT, rfl⟩
theorem q_member (hO : zOc c s) (h : zDm G M a c hc sc kn hi sv sg pl M') {m : Nat} (hm : m < 6) (w : Nat) (hw : w < 9) {r : Int32} (hr : [c.ac m, c.br m, lsum (c.sp m) 8, lsum (c.wa m) 8, lsum (zUwT c.cn c.pi m) c.un, c.ps m, c.pp m, c.pu m, c.lo m].getD w (-100002) = r) : ∃ M1, zC l G yX5_member cX5_member 3 (some .int) 2 48 0 0 [.ref a, .int (nI m), .int (nI w)] M' N (zP (some (.int (r))) M1) ∧ zDm G M a c hc sc kn hi sv sg pl M1 := by
  obtain ⟨t, d, hT, rfl⟩ := h
  have hC := c_X5_member l G M N a c t hc sc (nI kn) hi sv sg pl d (nI m) (nI w) hO.1.1 hO.1.2.1
  have hd : zDmem (nI m) = .inr m := by unfold zDmem; rw [zix_nI hm (by omega)]; rfl
  simp only [hd, zE_r] at hC
  have e : zRmemC c (nI w) m = r := (zSel_n hw (by omega)).trans hr
  rw [e] at hC
  exact ⟨_, hC, t, d, hT, rfl⟩
theorem q_strings (hO : zOc c s) (h : zDm G M a c hc sc kn hi sv sg pl M') {m g : Nat} (hm : m < 6) (hg : g < 8) (w : Bool) {r : Int32} (hr : (if w then c.wa m g else c.sp m g) = r) : ∃ M1, zC l G yX5_strings cX5_strings 4 (some .int) 1 20 0 0 [.ref a, .int (nI m), .int (nI g), .int (zb w)] M' N (zP (some (.int (r))) M1) ∧ zDm G M a c hc sc kn hi sv sg pl M1 := by
  obtain ⟨t, d, hT, rfl⟩ := h
  have hC := c_X5_strings l G M N a c t hc sc (nI kn) hi sv sg pl d (nI m) (nI g) w
  have hd : zDstr (nI m) (nI g) = .inr (m, g) := by unfold zDstr; rw [zix_nI hm (by omega), zix_nI hg (by omega)]; rfl
  simp only [hd, zE_r, hr] at hC
  exact ⟨_, hC, t, d, hT, rfl⟩
theorem q_stand (hO : zOc c s) (h : zDm G M a c hc sc kn hi sv sg pl M') {m g : Nat} (hm : m < 6) (hg : g < 8) : ∃ M1, zC l G yX5_standIn cX5_standIn 4 (some .int) 1 21 0 0 [.ref a, .int (nI m), .int (nI g)] M' N (zP (some (.int (zRstC c (m, g)))) M1) ∧ zDm G M a c hc sc kn hi sv sg pl M1 := by
  obtain ⟨t, d, hT, rfl⟩ := h
  have hC := c_X5_standIn l G M N a c t hc sc (nI kn) hi sv sg pl d (nI m) (nI g)
  have hd : zDstr (nI m) (nI g) = .inr (m, g) := by unfold zDstr; rw [zix_nI hm (by omega), zix_nI hg (by omega)]; rfl
  simp only [hd, zE_r] at hC
  exact ⟨_, hC, t, d, hT, rfl⟩
theorem q_parcel (hO : zOc c s) (h : zDm G M a c hc sc kn hi sv sg pl M') {p : Nat} (hp : p < c.un) (w : Nat) (hw : w < 5) {r : Int32} (hr : [zPie (c.cn (c.pi p)), c.vl (c.pi p), zOwC (c.cn (c.pi p)) 6, c.du (c.pi p) - c.dy, if c.io (c.pi p) = true then 1 else 0].getD w (-100002) = r) : ∃ M1, zC l G yX5_parcel cX5_parcel 4 (some .int) 2 47 0 0 [.ref a, .int (nI p), .int (nI w)] M' N (zP (some (.int (r))) M1) ∧ zDm G M a c hc sc kn hi sv sg pl M1 := by
  obtain ⟨t, d, hT, rfl⟩ := h
  have hC := c_X5_parcel l G M N a c t hc sc (nI kn) hi sv sg pl d (nI p) (nI w) hO.1.1 hO.1.2.1
  have hu := hO.1.1
  have hd : zDpar c.un (nI p) = .inr p := by unfold zDpar; rw [zix_nI hp (by omega)]; rfl
  simp only [hd, zE_r] at hC
  have e : zRparC c (nI w) p = r := (zSel_n hw (by omega)).trans hr
  rw [e] at hC
  exact ⟨_, hC, t, d, hT, rfl⟩
theorem q_noparcel (hO : zOc c s) (h : zDm G M a c hc sc kn hi sv sg pl M') (w : Nat) : ∃ M1, zC l G yX5_parcel cX5_parcel 4 (some .int) 2 47 0 0 [.ref a, .int (nI c.un), .int (nI w)] M' N (zP (some (.int (-100001))) M1) ∧ zDm G M a c hc sc kn hi sv sg pl M1 := by
  obtain ⟨t, d, hT, rfl⟩ := h
  have hC := c_X5_parcel l G M N a c t hc sc (nI kn) hi sv sg pl d (nI c.un) (nI w) hO.1.1 hO.1.2.1
  have hu := hO.1.1
  have hd : zDpar c.un (nI c.un) = .inl (-100001) := by unfold zDpar; rw [zix_none (Nat.lt_irrefl _) (by omega)]; rfl
  simp only [hd, zE_l] at hC
  exact ⟨_, hC, t, d, hT, rfl⟩
theorem q_best (hO : zOc c s) (h : zDm G M a c hc sc kn hi sv sg pl M') (w : Nat) (hw : w < 2) {r : Int32} (hr : (if w = 0 then nI (zBest s 63) else zPt2 s (nI (zBest s 63))) = r) : ∃ M1, zC l G yX5_bestParting cX5_bestParting 6 (some .int) 6 130 0 0 [.ref a, .int (nI w)] M' N (zP (some (.int (r))) M1) ∧ zDm G M a c hc sc kn hi sv sg pl M1 := by
  obtain ⟨t, d, hT, rfl⟩ := h
  have hC := c_X5_bestParting l G M N a c t hc sc (nI kn) hi sv sg pl d (nI w)
  obtain ⟨b1, b2⟩ := zBp_best (zRw_of hO.2.1) hO.2.2.1 d
  have hd : zDbp (nI w) = .inr w := by unfold zDbp; rw [zix_nI hw (by omega)]; rfl
  simp only [hd, zE_r, zU_r, b1, b2, hr] at hC
  exact ⟨_, hC, t, _, hT, rfl⟩
theorem q_more (hO : zOc c s) (h : zDm G M a c hc sc kn hi sv sg pl M') {m g v : Nat} (hm : m < 6) (hg : g < 8) (hv : 1 ≤ v ∧ v ≤ 20) : ∃ M1, zC l G yX5_ifMore cX5_ifMore 5 (some .int) 4 88 0 0 [.ref a, .int (nI m), .int (nI g), .int (nI v)] M' N (zP (some (.int (zRmore s (nI v) (m, g)))) M1) ∧ zDm G M a c hc sc kn hi sv sg pl M1 := by
  obtain ⟨t, d, hT, rfl⟩ := h
  have hC := c_X5_ifMore l G M N a c t hc sc (nI kn) hi sv sg pl d (nI m) (nI g) (nI v)
  have hb : zbe (nI v) (nI 1) (nI 20) = true := (show ∀ v, v < 21 → 1 ≤ v → zbe (nI v) (nI 1) (nI 20) = true by decide +kernel) v (by omega) hv.1
  have hd : zDmore (nI m) (nI g) (nI v) = .inr (m, g) := by unfold zDmore; rw [zix_nI hm (by omega), zix_nI hg (by omega)]; exact if_pos hb
  simp only [hd, zE_r, zU_r] at hC
  rw [zMore_eq (q := (m, g)) (zRw_of hO.2.1) (nI v) d hm hg] at hC
  exact ⟨_, hC, t, _, hT, rfl⟩
/-- how many parcels are on their way k days on -/
def zUd (s : Nat → Int32) (u k : Nat) : Nat := (zPsR (s, fun _ => 0, fun _ => 0, u) k).2.2.2
theorem zUd_is (hO : zOc c s) {k : Nat} (hk : k ≤ 100) : (zPs c k).un = zUd s c.un k := ((zPs_ok (e := (s, fun _ => 0, fun _ => 0, c.un)) (D := 9999) (K := 50) hO (by omega) rfl k hk).2.1).symm
theorem zUhF_is {c : zCl} : ∀ {n k : Nat}, k + n ≤ 50 → (zPs c (k + n)).un = 0 → k ≤ zUhF c n k ∧ zUhF c n k ≤ k + n ∧ (zPs c (zUhF c n k)).un = 0 ∧ ∀ j, k ≤ j → j < zUhF c n k → (zPs c j).un ≠ 0
  | 0, k, _, h0 => ⟨Nat.le_refl _, Nat.le_refl _, h0, fun j h1 h2 => by unfold zUhF at h2; omega⟩
  | n + 1, k, hn, h0 => by
    by_cases z : (zPs c k).un = 0
    · have e : zUhF c (n + 1) k = k := if_pos z
      rw [e]
      exact ⟨Nat.le_refl _, by omega, z, fun j h1 h2 => by omega⟩
    · have e : zUhF c (n + 1) k = zUhF c n (k + 1) := if_neg z
      rw [e]
      obtain ⟨a1, a2, a3, a4⟩ := zUhF_is (n := n) (k := k + 1) (by omega) (by rw [show k + 1 + n = k + (n + 1) by omega]; exact h0)
      refine ⟨by omega, by omega, a3, fun j h1 h2 => ?_⟩
      rcases Nat.eq_or_lt_of_le h1 with q | q
      · subst q; exact z
      · exact a4 j (by omega) h2
theorem q_until (hO : zOc c s) (h : zDm G M a c hc sc kn hi sv sg pl M') : ∃ (n : Nat) (M1 : zM), n ≤ 50 ∧ zUd s c.un n = 0 ∧ (∀ j, j < n → zUd s c.un j ≠ 0) ∧ zC l G yX5_untilHome cX5_untilHome 2 (some .int) 6 138 0 0 [.ref a] M' N (zP (some (.int (nI n))) M1) ∧ zDm G M a c hc sc kn hi sv sg pl M1 := by
  obtain ⟨t, d, hT, rfl⟩ := h
  have hCp : zOc (zCpy t c) s := ⟨zCpy_wf hT hO.1, zCpy_R hT hO.1 hO.2.1, zCpy_I hT hO.1 hO.2.2⟩
  have hC := c_X5_untilHome l G M N a c t hc sc (nI kn) hi sv sg pl d hO.1.1 hO.1.2.1 hT.2.1 (fun k hk => (zPs_day (e := (s, fun _ => 0, fun _ => 0, c.un)) (D := 9999) (K := 50) hCp (by omega) rfl k (by omega)).1)
  obtain ⟨-, a2, a3, a4⟩ := zUhF_is (c := zCpy t c) (n := 50) (k := 0) (by omega) (by rw [Nat.zero_add]; exact zUh_0 (sT := fun _ => 0) (sG := fun _ => 0) hCp)
  have hcu : (zCpy t c).un = c.un := rfl
  refine ⟨zUhF (zCpy t c) 50 0, _, by omega, ?_, fun j hj => ?_, hC, zPs (zCpy t c) (zUhF (zCpy t c) 50 0), d, ?_, rfl⟩
  · rw [← hcu, ← zUd_is hCp (by omega)]; exact a3
  · rw [← hcu, ← zUd_is hCp (by omega)]; exact a4 j (Nat.zero_le _) hj
  · exact (zPs_ok (e := (s, fun _ => 0, fun _ => 0, c.un)) (D := 9999) (K := 50) hCp (by omega) rfl _ (by omega)).1.1
end QU
/-! changes -/
/-- between two changes -/
def zSM (G : zG) (M : zM) (a : Nat) (s : Nat → Int32) (kn : Nat) (P E : Int) (M' : zM) : Prop := ∃ (c : zCl) (hc sc : Nat → zCl) (hi : Nat → Nat) (sv : Nat → Bool) (sg : Nat → Int32) (pl : Int32) (sH : Nat → Int32), zOc c s ∧ zHS hc hi kn sH ∧ zAv c P E ∧ zDm G M a c hc sc kn hi sv sg pl M'
/-- behind a change that will be undone -/
def zST (G : zG) (M : zM) (a : Nat) (s' s : Nat → Int32) (kn : Nat) (P E : Int) (M' : zM) : Prop := ∃ (c : zCl) (hc sc : Nat → zCl) (hi : Nat → Nat) (sv : Nat → Bool) (sg : Nat → Int32) (pl : Int32) (sH : Nat → Int32) (c0 : zCl), zOc c s' ∧ zHS hc hi kn sH ∧ 0 < kn ∧ (∀ i, i < 402 → zHs sH (kn - 1) i = s i) ∧ (zWf c0 ∧ zRl c0 s ∧ zAv c0 P E) ∧ zDm G M a c hc sc kn hi sv sg pl M'
/-- a change's end: an error that changes nothing, or a change that is recorded -/
def yCh (G : zG) (M : zM) (a : Nat) (s : Nat → Int32) (kn : Nat) (P P' E : Int) (r : Int32) (M' : zM) : Prop := (r < -100000 ∧ zSM G M a s kn P E M') ∨ (¬ r < -100000 ∧ ∃ s', zSM G M a s' (zRecK kn) P' E M')
theorem zOb_err {α β : Type} {o : Option α} {e x : Int32} {f : α → Int32 ⊕ β} (h : zOb o e f = .inl x) : x = e ∨ ∃ i, o = some i ∧ f i = .inl x := by
  cases o with
  | none => exact Or.inl (Sum.inl.inj h).symm
  | some i => exact Or.inr ⟨i, rfl, h⟩
theorem zEr1 : ((-100001 : Int32) < -100000) ∧ ((-100002 : Int32) < -100000) ∧ ((-100004 : Int32) < -100000) ∧ ((-100005 : Int32) < -100000) := by decide
theorem zNer {v : Int32} (h : -100000 ≤ v.toInt) : ¬ v < -100000 := by
  rw [Int32.lt_iff_toInt_lt]
  have : (-100000 : Int32).toInt = -100000 := by decide +kernel
  omega
theorem zHS_top {s sH : Nat → Int32} {kn : Nat} (h6 : kn ≤ 6) : ∀ i, i < 402 → zHs (zRecH s sH kn) (zRecK kn - 1) i = s i := by
  intro i hi
  have e : zRecK kn - 1 = if kn = 6 then 5 else kn := by unfold zRecK; split <;> omega
  rw [e]; exact zRecH_hit hi
theorem zRecK_pos (kn : Nat) : 0 < zRecK kn := by unfold zRecK; split <;> omega
theorem zPsH_is (c : zCl) : ∀ k, (zPs c k).un ≤ c.un ∧ zPsH c k = nI (c.un - (zPs c k).un)
  | 0 => ⟨Nat.le_refl _, by show (0 : Int32) = nI (c.un - c.un); rw [Nat.sub_self]; rfl⟩
  | k + 1 => by
    obtain ⟨h1, h2⟩ := zPsH_is c k
    have hle := zBdL_le (zDayC (zPs c k)) (zPs c k).un
    have e : (zPs c (k + 1)).un = (zBdL (zDayC (zPs c k)) (zPs c k).un).2 := by
      show (zBd (zPs c k)).un = _
      unfold zBd; rw [zpq_un]
    refine ⟨by omega, ?_⟩
    show zPsH c k + nI ((zPs c k).un - (zBdL (zDayC (zPs c k)) (zPs c k).un).2) = _
    rw [h2, nI_add, e]
    congr 1; omega
section CH
variable (l : Launch) {G : zG} {M M' : zM} {a : Nat} (N : Nat) {s : Nat → Int32} {kn : Nat} {P E : Int}
theorem co_set (h : zSM G M a s kn P E M') (h30 : E + 1 ≤ 30) (p : Int32) (v : Int32)  : ∃ (r : Int32) (M1 : zM), zC l G yX5_set cX5_set 4 (some .int) 6 156 0 0 [.ref a, .int p, .int v] M' N (zP (some (.int r)) M1) ∧ yCh G M a s kn P P (E + 1) r M1 := by
  obtain ⟨c, hc, sc, hi, sv, sg, pl, sH, hO, hH, hA, t, d, hT, rfl⟩ := h
  have hC := c_X5_set l G M N a c t hc sc (nI kn) hi sv sg pl d kn p v hH.1 hH.2.1 hO.1.1 hO.1.2.1 (fun j hj => (hH.2.2.2.1 j hj).2.1)
  have hE : E ≤ E + 1 := by omega
  cases hD : zDset p v with
  | inl e =>
    have he : e < -100000 := by
      unfold zDset at hD
      rcases zOb_err hD with z | ⟨i0, -, hD⟩
      · rw [z]; exact zEr1.2.1
      (repeat' split at hD) <;> first | (cases hD; first | exact zEr1.1 | exact zEr1.2.1 | exact zEr1.2.2.1 | exact zEr1.2.2.2) | (cases hD)
    simp only [hD, zU_l, zE_l] at hC
    exact ⟨_, _, hC, Or.inl ⟨he, c, hc, sc, hi, sv, sg, pl, sH, hO, hH, yAw_E hA hE h30, t, d, hT, rfl⟩⟩
  | inr q =>
    simp only [hD, zU_r, zE_r] at hC
    have hn := (ch_set hO hD).1
    have hq := (zDset_in hD).1
    have ht : ¬ c.st q < -100000 := zNer (by
      have h1 := hO.2.2.1.1 q hq
      unfold zbe at h1
      simp only [Bool.and_eq_true, decide_eq_true_eq] at h1
      have h2 := Int32.le_iff_toInt_le.mp h1.1
      have h3 := (show ∀ i, i < 9 → 0 ≤ (zLeast i).toInt by decide +kernel) q hq
      omega)
    exact ⟨_, _, hC, Or.inr ⟨ht, _, _, zRmC hc hi kn c, sc, zRmI hi kn, sv, sg, pl, zRecH s sH kn, hn, zHS_rec hH hO.1 hO.2.1 hO.2.2, av_ext hA hE h30 (by rw [zpq_ac]) (by rw [zpq_ps]) (by rw [zpq_pp]) (by rw [zpq_pu]) (by rw [zpq_un]) (by rw [zpq_pi]) (by rw [zpq_io]) (by rw [zpq_vl]), t, d, hT, rfl⟩⟩
theorem co_snap (h : zSM G M a s kn P E M') (h30 : E + 1 ≤ 30) (m : Int32) (g : Int32)  : ∃ (r : Int32) (M1 : zM), zC l G yX5_snap cX5_snap 3 (some .int) 6 156 0 0 [.ref a, .int m, .int g] M' N (zP (some (.int r)) M1) ∧ yCh G M a s kn P P (E + 1) r M1 := by
  obtain ⟨c, hc, sc, hi, sv, sg, pl, sH, hO, hH, hA, t, d, hT, rfl⟩ := h
  have hC := c_X5_snap l G M N a c t hc sc (nI kn) hi sv sg pl d kn m g hH.1 hH.2.1 hO.1.1 hO.1.2.1 (fun j hj => (hH.2.2.2.1 j hj).2.1)
  have hE : E ≤ E + 1 := by omega
  cases hD : zDsnapC c m g with
  | inl e =>
    have he : e < -100000 := by
      unfold zDsnapC at hD
      rcases zOb_err hD with z | ⟨i0, -, hD⟩
      · rw [z]; exact zEr1.1
      rcases zOb_err hD with z | ⟨i1, -, hD⟩
      · rw [z]; exact zEr1.1
      (repeat' split at hD) <;> first | (cases hD; first | exact zEr1.1 | exact zEr1.2.1 | exact zEr1.2.2.1 | exact zEr1.2.2.2) | (cases hD)
    simp only [hD, zU_l, zE_l] at hC
    exact ⟨_, _, hC, Or.inl ⟨he, c, hc, sc, hi, sv, sg, pl, sH, hO, hH, yAw_E hA hE h30, t, d, hT, rfl⟩⟩
  | inr q =>
    simp only [hD, zU_r, zE_r] at hC
    have hd2 := hD
    rw [zDsnap_eq hO.2.1] at hd2
    obtain ⟨f1, f2⟩ := zDsnap_in hd2
    have hn := (ch_snap hO f1 f2).1
    have ht : ¬ zPop (zSnB c q) < -100000 := zNer (by
      have h2 := hn.2.2.1.2.2.2.1 q.1 f1
      rw [zpq_br] at h2
      have h3 : upd c.br q.1 (zSnB c q) q.1 = zSnB c q := by simp [upd]
      rw [h3] at h2
      obtain ⟨n, e1, e2, -, -⟩ := zg_is h2
      rw [e1]
      have := (show ∀ n, n < 256 → -100000 ≤ (zPop (nI n)).toInt by decide +kernel) n (by omega)
      exact this)
    exact ⟨_, _, hC, Or.inr ⟨ht, _, _, zRmC hc hi kn c, sc, zRmI hi kn, sv, sg, pl, zRecH s sH kn, hn, zHS_rec hH hO.1 hO.2.1 hO.2.2, av_ext hA hE h30 (by rw [zpq_ac]) (by rw [zpq_ps]) (by rw [zpq_pp]) (by rw [zpq_pu]) (by rw [zpq_un]) (by rw [zpq_pi]) (by rw [zpq_io]) (by rw [zpq_vl]), t, d, hT, rfl⟩⟩
theorem co_fit (h : zSM G M a s kn P E M') (h30 : E + 1 ≤ 30) (m : Int32) (g : Int32) (e : Int32)  : ∃ (r : Int32) (M1 : zM), zC l G yX5_fit cX5_fit 4 (some .int) 6 156 0 0 [.ref a, .int m, .int g, .int e] M' N (zP (some (.int r)) M1) ∧ yCh G M a s kn P P (E + 1) r M1 := by
  obtain ⟨c, hc, sc, hi, sv, sg, pl, sH, hO, hH, hA, t, d, hT, rfl⟩ := h
  have hC := c_X5_fit l G M N a c t hc sc (nI kn) hi sv sg pl d kn m g e hH.1 hH.2.1 hO.1.1 hO.1.2.1 (fun j hj => (hH.2.2.2.1 j hj).2.1)
  have hE : E ≤ E + 1 := by omega
  cases hD : zDfitC c m g e with
  | inl e =>
    have he : e < -100000 := by
      unfold zDfitC at hD
      rcases zOb_err hD with z | ⟨i0, -, hD⟩
      · rw [z]; exact zEr1.1
      rcases zOb_err hD with z | ⟨i1, -, hD⟩
      · rw [z]; exact zEr1.1
      rcases zOb_err hD with z | ⟨i2, -, hD⟩
      · rw [z]; exact zEr1.1
      (repeat' split at hD) <;> first | (cases hD; first | exact zEr1.1 | exact zEr1.2.1 | exact zEr1.2.2.1 | exact zEr1.2.2.2) | (cases hD)
    simp only [hD, zU_l, zE_l] at hC
    exact ⟨_, _, hC, Or.inl ⟨he, c, hc, sc, hi, sv, sg, pl, sH, hO, hH, yAw_E hA hE h30, t, d, hT, rfl⟩⟩
  | inr q =>
    simp only [hD, zU_r, zE_r] at hC
    obtain ⟨f1, f2, f3, f4, f5⟩ := zDfit_in hD
    have hn := (ch_fit hO f1 f2 f3 f4 f5).1
    have ht : ¬ c.sp q.1 q.2.2 - nI 1 < -100000 := zNer (by
      obtain ⟨s1, s2⟩ := (hO.2.2.1.2.2.2.2 q.1 f1 q.2.2 f3).1
      have h1 : (nI 1).toInt = 1 := rfl
      rw [zg_sub (by omega) (by omega)]; omega)
    exact ⟨_, _, hC, Or.inr ⟨ht, _, _, zRmC hc hi kn c, sc, zRmI hi kn, sv, sg, pl, zRecH s sH kn, hn, zHS_rec hH hO.1 hO.2.1 hO.2.2, av_ext hA hE h30 (by unfold zFiC; rw [zpq_ac]) (by unfold zFiC; rw [zpq_ps]) (by unfold zFiC; rw [zpq_pp]) (by unfold zFiC; rw [zpq_pu]) (by unfold zFiC; rw [zpq_un]) (by unfold zFiC; rw [zpq_pi]) (by unfold zFiC; rw [zpq_io]) (by unfold zFiC; rw [zpq_vl]), t, d, hT, rfl⟩⟩
theorem co_want (h : zSM G M a s kn P E M') (h30 : E + 1 ≤ 30) (m : Int32) (g : Int32) (v : Int32)  : ∃ (r : Int32) (M1 : zM), zC l G yX5_want cX5_want 4 (some .int) 6 156 0 0 [.ref a, .int m, .int g, .int v] M' N (zP (some (.int r)) M1) ∧ yCh G M a s kn P P (E + 1) r M1 := by
  obtain ⟨c, hc, sc, hi, sv, sg, pl, sH, hO, hH, hA, t, d, hT, rfl⟩ := h
  have hC := c_X5_want l G M N a c t hc sc (nI kn) hi sv sg pl d kn m g v hH.1 hH.2.1 hO.1.1 hO.1.2.1 (fun j hj => (hH.2.2.2.1 j hj).2.1)
  have hE : E ≤ E + 1 := by omega
  cases hD : zDwant m g v with
  | inl e =>
    have he : e < -100000 := by
      unfold zDwant at hD
      rcases zOb_err hD with z | ⟨i0, -, hD⟩
      · rw [z]; exact zEr1.1
      rcases zOb_err hD with z | ⟨i1, -, hD⟩
      · rw [z]; exact zEr1.1
      (repeat' split at hD) <;> first | (cases hD; first | exact zEr1.1 | exact zEr1.2.1 | exact zEr1.2.2.1 | exact zEr1.2.2.2) | (cases hD)
    simp only [hD, zU_l, zE_l] at hC
    exact ⟨_, _, hC, Or.inl ⟨he, c, hc, sc, hi, sv, sg, pl, sH, hO, hH, yAw_E hA hE h30, t, d, hT, rfl⟩⟩
  | inr q =>
    simp only [hD, zU_r, zE_r] at hC
    obtain ⟨hn, hk⟩ := ch_want hO d hD
    have ht : ¬ zCoO (zGaO (zWaC c v q) (nI 63) d) < -100000 := zNer (by
      rw [hk]
      have := (zCost_rg (mm := nI 63) (zRw_of hn.2.1) hn.2.2.1).1
      omega)
    exact ⟨_, _, hC, Or.inr ⟨ht, _, _, zRmC hc hi kn c, sc, zRmI hi kn, sv, sg, pl, zRecH s sH kn, hn, zHS_rec hH hO.1 hO.2.1 hO.2.2, av_ext hA hE h30 (by unfold zWaC; rw [zpq_ac]) (by unfold zWaC; rw [zpq_ps]) (by unfold zWaC; rw [zpq_pp]) (by unfold zWaC; rw [zpq_pu]) (by unfold zWaC; rw [zpq_un]) (by unfold zWaC; rw [zpq_pi]) (by unfold zWaC; rw [zpq_io]) (by unfold zWaC; rw [zpq_vl]), t, _, hT, rfl⟩⟩
theorem co_give (h : zSM G M a s kn P E M') (h30 : E + 1 ≤ 30) (m : Int32) (o : Int32) (g : Int32) (v : Int32)  : ∃ (r : Int32) (M1 : zM), zC l G yX5_give cX5_give 5 (some .int) 6 156 0 0 [.ref a, .int m, .int o, .int g, .int v] M' N (zP (some (.int r)) M1) ∧ yCh G M a s kn P P (E + 1) r M1 := by
  obtain ⟨c, hc, sc, hi, sv, sg, pl, sH, hO, hH, hA, t, d, hT, rfl⟩ := h
  have hC := c_X5_give l G M N a c t hc sc (nI kn) hi sv sg pl d kn m o g v hH.1 hH.2.1 hO.1.1 hO.1.2.1 (fun j hj => (hH.2.2.2.1 j hj).2.1)
  have hE : E ≤ E + 1 := by omega
  cases hD : zDgiveC c m o g v with
  | inl e =>
    have he : e < -100000 := by
      unfold zDgiveC at hD
      rcases zOb_err hD with z | ⟨i0, -, hD⟩
      · rw [z]; exact zEr1.1
      rcases zOb_err hD with z | ⟨i1, -, hD⟩
      · rw [z]; exact zEr1.1
      rcases zOb_err hD with z | ⟨i2, -, hD⟩
      · rw [z]; exact zEr1.1
      (repeat' split at hD) <;> first | (cases hD; first | exact zEr1.1 | exact zEr1.2.1 | exact zEr1.2.2.1 | exact zEr1.2.2.2) | (cases hD)
    simp only [hD, zU_l, zE_l] at hC
    exact ⟨_, _, hC, Or.inl ⟨he, c, hc, sc, hi, sv, sg, pl, sH, hO, hH, yAw_E hA hE h30, t, d, hT, rfl⟩⟩
  | inr q =>
    simp only [hD, zU_r, zE_r] at hC
    have hn := (ch_give hO hD).1
    obtain ⟨f1, f2, f3, f4, f5, -, -⟩ := zDgive_in hD
    obtain ⟨q1, q2, q3⟩ := q
    have hv := zbe_rg (a := 1) (b := 20) (by omega) (by omega) f5
    obtain ⟨g1, g2, g3⟩ := av_give hA f1 f2 f4 f3 hv h30
    change (zGvA c v (q1, q2, q3) q1).toInt = (c.ac q1).toInt + (v * nI (10 + 5 * q3)).toInt at g2
    change 0 ≤ (v * nI (10 + 5 * q3)).toInt at g3
    have ht : ¬ zGvA c v (q1, q2, q3) q1 < -100000 := zNer (by
      rw [g2]
      have := ((yAw_bd hA).2 q1 f1).2.2.2
      omega)
    exact ⟨_, _, hC, Or.inr ⟨ht, _, _, zRmC hc hi kn c, sc, zRmI hi kn, sv, sg, pl, zRecH s sH kn, hn, zHS_rec hH hO.1 hO.2.1 hO.2.2, g1, t, d, hT, rfl⟩⟩
theorem co_send (h : zSM G M a s kn P E M') (h30 : E + 1 ≤ 30) (mm : Int32)  : ∃ (r : Int32) (M1 : zM), zC l G yX5_send cX5_send 2 (some .int) 6 156 0 0 [.ref a, .int mm] M' N (zP (some (.int r)) M1) ∧ yCh G M a s kn P P (E + 1) r M1 := by
  obtain ⟨c, hc, sc, hi, sv, sg, pl, sH, hO, hH, hA, t, d, hT, rfl⟩ := h
  have hC := c_X5_send l G M N a c t hc sc (nI kn) hi sv sg pl d kn mm hH.1 hH.2.1 hO.1.1 hO.1.2.1 (fun j hj => (hH.2.2.2.1 j hj).2.1) (zOpt_nn hO.2.2.1 mm d.pt)
  have hE : E ≤ E + 1 := by omega
  cases hD : zDsendC c mm d with
  | inl e =>
    have he : e < -100000 := by
      unfold zDsendC at hD
      (repeat' split at hD) <;> first | (cases hD; first | exact zEr1.1 | exact zEr1.2.1 | exact zEr1.2.2.1 | exact zEr1.2.2.2) | (cases hD)
    simp only [hD, zU_l, zE_l] at hC
    exact ⟨_, _, hC, Or.inl ⟨he, c, hc, sc, hi, sv, sg, pl, sH, hO, hH, yAw_E hA hE h30, t, _, hT, rfl⟩⟩
  | inr q =>
    simp only [hD, zU_r, zE_r] at hC
    have hn := ch_send (sT := fun _ => 0) (sG := fun _ => 0) hO d hD
    have ht : ¬ zCoO (zGaO c mm d) < -100000 := zNer (by
      rw [zGa_cost (zRw_of hO.2.1) d]
      have := (zCost_rg (mm := mm) (zRw_of hO.2.1) hO.2.2.1).1
      omega)
    exact ⟨_, _, hC, Or.inr ⟨ht, _, _, zRmC hc hi kn c, sc, zRmI hi kn, sv, sg, pl, zRecH s sH kn, hn, zHS_rec hH hO.1 hO.2.1 hO.2.2, yAw_E (av_send hO hD hA) hE h30, t, _, hT, rfl⟩⟩
theorem co_pass (h : zSM G M a s kn P E M') (h30 : E + 1 ≤ 30) (v : Int32)  : ∃ (r : Int32) (M1 : zM), zC l G yX5_pass cX5_pass 4 (some .int) 6 156 0 0 [.ref a, .int v] M' N (zP (some (.int r)) M1) ∧ yCh G M a s kn P P (E + 1) r M1 := by
  obtain ⟨c, hc, sc, hi, sv, sg, pl, sH, hO, hH, hA, t, d, hT, rfl⟩ := h
  have hC := c_X5_pass l G M N a c t hc sc (nI kn) hi sv sg pl d kn v hH.1 hH.2.1 hO.1.1 hO.1.2.1 (fun j hj => (hH.2.2.2.1 j hj).2.1) (fun k hk => (zPs_day (e := (s, fun _ => 0, fun _ => 0, c.un)) (D := 9999) (K := 50) hO (by omega) rfl k (by omega)).1)
  have hE : E ≤ E + 1 := by omega
  cases hD : zDpass c v with
  | inl e =>
    have he : e < -100000 := by
      unfold zDpass at hD
      rcases zOb_err hD with z | ⟨i0, -, hD⟩
      · rw [z]; exact zEr1.2.1
      (repeat' split at hD) <;> first | (cases hD; first | exact zEr1.1 | exact zEr1.2.1 | exact zEr1.2.2.1 | exact zEr1.2.2.2) | (cases hD)
    simp only [hD, zU_l, zE_l] at hC
    exact ⟨_, _, hC, Or.inl ⟨he, c, hc, sc, hi, sv, sg, pl, sH, hO, hH, yAw_E hA hE h30, t, d, hT, rfl⟩⟩
  | inr q =>
    simp only [hD, zU_r, zE_r] at hC
    have hn := ch_pass (sT := fun _ => 0) (sG := fun _ => 0) hO hD
    have ht : ¬ zPsH c q < -100000 := zNer (by
      obtain ⟨z1, z2⟩ := zPsH_is c q
      have hu := hO.1.1
      rw [z2, nI_toInt (by omega)]; omega)
    exact ⟨_, _, hC, Or.inr ⟨ht, _, _, zRmC hc hi kn c, sc, zRmI hi kn, sv, sg, pl, zRecH s sH kn, hn, zHS_rec hH hO.1 hO.2.1 hO.2.2, yAw_E (av_pass hO hD hA) hE h30, t, d, hT, rfl⟩⟩
theorem co_shuffle (h : zSM G M a s kn P E M') (h30 : E + 1 ≤ 30) (v : Int32)  : ∃ (r : Int32) (M1 : zM), zC l G yX5_shuffle cX5_shuffle 3 (some .int) 6 156 0 0 [.ref a, .int v] M' N (zP (some (.int r)) M1) ∧ yCh G M a s kn P P (E + 1) r M1 := by
  obtain ⟨c, hc, sc, hi, sv, sg, pl, sH, hO, hH, hA, t, d, hT, rfl⟩ := h
  have hC := c_X5_shuffle l G M N a c t hc sc (nI kn) hi sv sg pl d kn v hH.1 hH.2.1 hO.1.1 hO.1.2.1 (fun j hj => (hH.2.2.2.1 j hj).2.1)
  have hE : E ≤ E + 1 := by omega
  cases hD : zDshuf v with
  | inl e =>
    have he : e < -100000 := by
      unfold zDshuf at hD
      (repeat' split at hD) <;> first | (cases hD; first | exact zEr1.1 | exact zEr1.2.1 | exact zEr1.2.2.1 | exact zEr1.2.2.2) | (cases hD)
    simp only [hD, zU_l, zE_l] at hC
    exact ⟨_, _, hC, Or.inl ⟨he, c, hc, sc, hi, sv, sg, pl, sH, hO, hH, yAw_E hA hE h30, t, d, hT, rfl⟩⟩
  | inr q =>
    simp only [hD, zU_r, zE_r] at hC
    have hn := (ch_shuf hO hD).1
    have ht : ¬ c.x < -100000 := zNer (by
      have := hO.2.2.1.2.2.1.1
      omega)
    exact ⟨_, _, hC, Or.inr ⟨ht, _, _, zRmC hc hi kn c, sc, zRmI hi kn, sv, sg, pl, zRecH s sH kn, hn, zHS_rec hH hO.1 hO.2.1 hO.2.2, av_ext hA hE h30 (by rw [zpq_ac]) (by rw [zpq_ps]) (by rw [zpq_pp]) (by rw [zpq_pu]) (by rw [zpq_un]) (by rw [zpq_pi]) (by rw [zpq_io]) (by rw [zpq_vl]), t, d, hT, rfl⟩⟩
theorem co_pay (h : zSM G M a s kn P E M') {E' : Int} (hE : E ≤ E') (h30 : E' ≤ 30) {m v : Nat} (hv : 1 ≤ v ∧ v ≤ 1000) (hP : P + v ≤ 5400 + 1000 * E') : ∃ (r : Int32) (M1 : zM), zC l G yX5_pay cX5_pay 3 (some .int) 6 156 0 0 [.ref a, .int (nI m), .int (nI v)] M' N (zP (some (.int r)) M1) ∧ (m < 6 → ¬ r < -100000 ∧ r = s (15 + 22 * m + 0) + nI v ∧ zSM G M a (zSpay s (nI v) m) (zRecK kn) (P + v) E' M1) ∧ (m = 6 → r < -100000 ∧ zSM G M a s kn P E' M1) := by
  obtain ⟨c, hc, sc, hi, sv, sg, pl, sH, hO, hH, hA, t, d, hT, rfl⟩ := h
  have hC := c_X5_pay l G M N a c t hc sc (nI kn) hi sv sg pl d kn (nI m) (nI v) hH.1 hH.2.1 hO.1.1 hO.1.2.1 (fun j hj => (hH.2.2.2.1 j hj).2.1)
  have hb : zbe (nI v) (nI 1) (nI 1000) = true := by
    refine zbe_ok (fun z => ?_) (fun z => ?_)
    · have := Int32.lt_iff_toInt_lt.mp z
      rw [nI_toInt (by omega), nI_toInt (by omega)] at this; omega
    · have := Int32.lt_iff_toInt_lt.mp z
      rw [nI_toInt (by omega), nI_toInt (by omega)] at this; omega
  have ev : (nI v).toInt = v := nI_toInt (by omega)
  by_cases hm : m < 6
  · have hD : zDpay (nI m) (nI v) = .inr m := by unfold zDpay; rw [zix_nI hm (by omega)]; exact if_pos hb
    simp only [hD, zU_r, zE_r] at hC
    obtain ⟨hn, he⟩ := ch_pay hO hD
    have hav := av_pay (v := nI v) hA hm ⟨by omega, by omega⟩ hE h30 (by rw [ev]; exact hP)
    rw [ev] at hav
    refine ⟨_, _, hC, fun _ => ⟨zNer ?_, he, ⟨_, zRmC hc hi kn c, sc, zRmI hi kn, sv, sg, pl, zRecH s sH kn, hn, zHS_rec hH hO.1 hO.2.1 hO.2.2, hav, t, d, hT, rfl⟩⟩, fun z => by omega⟩
    have := ((yAw_bd hA).2 m hm).2.2.2
    rw [zg_add (by omega) (by omega)]; omega
  · by_cases h6 : m = 6
    · have hD : zDpay (nI m) (nI v) = .inl (-100001) := by unfold zDpay; rw [zix_none hm (by omega)]; rfl
      simp only [hD, zU_l, zE_l] at hC
      exact ⟨_, _, hC, fun z => absurd z hm, fun _ => ⟨zEr1.1, c, hc, sc, hi, sv, sg, pl, sH, hO, hH, yAw_E hA hE h30, t, d, hT, rfl⟩⟩
    · cases hD : zDpay (nI m) (nI v) with
      | inl e =>
        simp only [hD, zU_l, zE_l] at hC
        exact ⟨_, _, hC, fun z => absurd z hm, fun z => absurd z h6⟩
      | inr q =>
        simp only [hD, zU_r, zE_r] at hC
        exact ⟨_, _, hC, fun z => absurd z hm, fun z => absurd z h6⟩
/-! changes that are undone -/
theorem t_want (h : zSM G M a s kn P E M') {m g : Nat} (hm : m < 6) (hg : g < 8) : ∃ M1 : zM, zC l G yX5_want cX5_want 4 (some .int) 6 156 0 0 [.ref a, .int (nI m), .int (nI g), .int (nI 20)] M' N (zP (some (.int (zCost (upd s (15 + 22 * m + (14 + g)) (nI 20)) (nI 63)))) M1) ∧ zST G M a (upd s (15 + 22 * m + (14 + g)) (nI 20)) s (zRecK kn) P E M1 := by
  obtain ⟨c, hc, sc, hi, sv, sg, pl, sH, hO, hH, hA, t, d, hT, rfl⟩ := h
  have hC := c_X5_want l G M N a c t hc sc (nI kn) hi sv sg pl d kn (nI m) (nI g) (nI 20) hH.1 hH.2.1 hO.1.1 hO.1.2.1 (fun j hj => (hH.2.2.2.1 j hj).2.1)
  have hD : zDwant (nI m) (nI g) (nI 20) = .inr (m, g) := by unfold zDwant; rw [zix_nI hm (by omega), zix_nI hg (by omega)]; show (if zbe (nI 20) (nI 0) (nI 20) = true then (Sum.inr (m, g) : Int32 ⊕ (Nat × Nat)) else .inl (-100002)) = _; exact if_pos (show zbe (nI 20) (nI 0) (nI 20) = true by decide +kernel)
  simp only [hD, zU_r, zE_r] at hC
  obtain ⟨hn, hk⟩ := ch_want hO d hD
  rw [hk] at hC
  exact ⟨_, hC, _, zRmC hc hi kn c, sc, zRmI hi kn, sv, sg, pl, zRecH s sH kn, c, hn, zHS_rec hH hO.1 hO.2.1 hO.2.2, zRecK_pos kn, zHS_top hH.1, ⟨hO.1, hO.2.1, hA⟩, t, _, hT, rfl⟩
theorem t_pass (h : zSM G M a s kn P E M') {u n : Nat} (hu5 : u ≤ 5) (hu : s 14 = nI u) (hn1 : 1 ≤ n) (hn2 : n ≤ 60) (hday : (s 9).toInt + n ≤ 9999) : ∃ (M1 : zM) (s' : Nat → Int32), zUd s u n ≤ u ∧ s' 14 = nI (zUd s u n) ∧ zC l G yX5_pass cX5_pass 4 (some .int) 6 156 0 0 [.ref a, .int (nI n)] M' N (zP (some (.int (nI (u - zUd s u n)))) M1) ∧ zST G M a s' s (zRecK kn) P E M1 := by
  obtain ⟨c, hc, sc, hi, sv, sg, pl, sH, hO, hH, hA, t, d, hT, rfl⟩ := h
  have hC := c_X5_pass l G M N a c t hc sc (nI kn) hi sv sg pl d kn (nI n) hH.1 hH.2.1 hO.1.1 hO.1.2.1 (fun j hj => (hH.2.2.2.1 j hj).2.1) (fun k hk => (zPs_day (e := (s, fun _ => 0, fun _ => 0, c.un)) (D := 9999) (K := 50) hO (by omega) rfl k (by omega)).1)
  have h9 : s 9 = c.dy := hO.2.1.1.2.1
  have hdy := hO.2.2.1.2.1
  have hD : zDpass c (nI n) = .inr n := by
    unfold zDpass
    rw [zix_nI (show n < 61 by omega) (by omega)]
    show (if n = 0 then _ else _) = _
    rw [if_neg (by omega), if_pos]
    rw [Int32.le_iff_toInt_le, ← h9]
    have e1 : (nI n).toInt = n := nI_toInt (by omega)
    have e2 : (nI 9999).toInt = 9999 := nI_toInt (by omega)
    rw [← h9] at hdy
    have := hdy.1
    rw [zg_add (by omega) (by omega)]; omega
  simp only [hD, zU_r, zE_r] at hC
  have hcu : c.un = u := by
    have e := hO.2.1.2.1.symm.trans hu
    have := congrArg Int32.toInt e
    have b1 := hO.1.1
    rw [nI_toInt (by omega), nI_toInt (by omega)] at this
    omega
  have hn := ch_pass (sT := fun _ => 0) (sG := fun _ => 0) hO hD
  obtain ⟨z1, z2⟩ := zPsH_is c n
  have hud := zUd_is hO (k := n) (by omega)
  rw [hcu] at hud z1 z2
  rw [hud] at z1 z2
  rw [z2] at hC
  exact ⟨_, _, z1, by rw [← hud]; exact hn.2.1.2.1, hC, _, zRmC hc hi kn c, sc, zRmI hi kn, sv, sg, pl, zRecH s sH kn, c, hn, zHS_rec hH hO.1 hO.2.1 hO.2.2, zRecK_pos kn, zHS_top hH.1, ⟨hO.1, hO.2.1, hA⟩, t, d, hT, rfl⟩
theorem t_undo {s' : Nat → Int32} (h : zST G M a s' s kn P E M') : ∃ M1 : zM, zC l G yX5_undo cX5_undo 1 (some .int) 5 134 0 0 [.ref a] M' N (zP (some (.int (nI (kn - 1)))) M1) ∧ zSM G M a s (kn - 1) P E M1 := by
  obtain ⟨c, hc, sc, hi, sv, sg, pl, sH, c0, hO, hH, hkn, hs, ⟨w0, r0, a0⟩, t, d, hT, rfl⟩ := h
  have hC := c_X5_undo l G M N a c t hc sc (nI kn) hi sv sg pl d kn hH.1 hH.2.1 hO.1.2.1 (fun j hj => (hH.2.2.2.1 j hj).2.1) (fun j hj => (hH.2.2.2.1 j hj).1)
  have hD : zDundo kn = .inr () := if_neg (by omega)
  simp only [hD, zU_r, zE_r] at hC
  have h6 := hH.1
  have hB : zWf (hc (hi (kn - 1))) := hH.2.2.2.1 _ (hH.2.1 _ (by omega))
  obtain ⟨hR, hI⟩ := hH.2.2.2.2 (kn - 1) (by omega)
  have hR2 : zRl (hc (hi (kn - 1))) s := zRl_eq hB.1 (fun i hi => (hs i hi).symm) hR
  have hn : zOc (zCpy c (hc (hi (kn - 1)))) s := ⟨zCpy_wf hO.1 hB, zCpy_R hO.1 hB hR2, zCpy_I hO.1 hB hI⟩
  exact ⟨_, hC, _, hc, sc, hi, sv, sg, pl, sH, hn, ⟨by omega, hH.2.1, hH.2.2.1, hH.2.2.2.1, fun i hi => hH.2.2.2.2 i (by omega)⟩, zAv_same w0 hn.1 r0 hn.2.1 a0, t, d, hT, rfl⟩
/-- nothing to undo -/
theorem t_undo0 (h : zSM G M a s 0 P E M') : ∃ M1 : zM, zC l G yX5_undo cX5_undo 1 (some .int) 5 134 0 0 [.ref a] M' N (zP (some (.int (-100005))) M1) ∧ zSM G M a s 0 P E M1 := by
  obtain ⟨c, hc, sc, hi, sv, sg, pl, sH, hO, hH, hA, t, d, hT, rfl⟩ := h
  have hC := c_X5_undo l G M N a c t hc sc (nI 0) hi sv sg pl d 0 hH.1 hH.2.1 hO.1.2.1 (fun j hj => (hH.2.2.2.1 j hj).2.1) (fun j hj => (hH.2.2.2.1 j hj).1)
  have hD : zDundo 0 = .inl (-100005) := rfl
  simp only [hD, zU_l, zE_l] at hC
  exact ⟨_, hC, c, hc, sc, hi, sv, sg, pl, sH, hO, hH, hA, t, d, hT, rfl⟩
end CH
