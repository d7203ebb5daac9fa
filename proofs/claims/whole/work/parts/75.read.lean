/-! reading a text, both ways; what both sides hold -/
section RD
variable {f : Nat → Int32} {n : Nat} {mi : Nat}
theorem zPaS_f (q : zQt) : ∀ k, (zPaS f n false mi q k).1 = q.1
  | 0 => rfl
  | k + 1 => zPaS_f q k
theorem zGoS_f (s : Nat → Int32) : ∀ k, (zGoS f n false s k).1 = s
  | 0 => rfl
  | k + 1 => by
    have ih := zGoS_f s k
    have h1 : (zPaE f n false (zGoS f n false s k)).1 = (zGoS f n false s k).1 := zPaS_f _ _
    show (zGo1 f n false (zGoS f n false s k)).1 = s
    unfold zGo1
    dsimp only
    split
    · exact h1.trans ih
    · exact h1.trans ih
theorem zGoE_f (s : Nat → Int32) : (zGoE f n false s).1 = s := zGoS_f s _
end RD
section RC
variable {f g : Nat → Int32} {n : Nat}
theorem zPn_congr (h : ∀ j, j < n → f j = g j) : ∀ k, k ≤ n → zPn f k = zPn g k
  | 0, _ => rfl
  | k + 1, hk => by
    show (zPlA (zPn f k) (f k)).getD 6 = (zPlA (zPn g k) (g k)).getD 6
    rw [zPn_congr h k (by omega), h k (by omega)]
theorem zFx_congr (h : ∀ j, j < n → f j = g j) : zFx f n = zFx g n := by
  have key : ∀ m k, k + m = n → zFxF f n m k = zFxF g n m k := by
    intro m
    induction m with
    | zero =>
      intro k hk
      show (if 4 ≤ zPn f n then (-100006 : Int32) else nI n) = if 4 ≤ zPn g n then (-100006 : Int32) else nI n
      rw [zPn_congr h n (Nat.le_refl n)]
    | succ m ih =>
      intro k hk
      unfold zFxF
      rw [zPn_congr h k (by omega), h k (by omega), ih (k + 1) (by omega)]
  exact key n 0 (by omega)
theorem zAdS_congr (wa : Nat → Nat → Int32) (h : ∀ j, j < n → f j = g j) : ∀ k, k ≤ n → zAdS wa f k = zAdS wa g k
  | 0, _ => rfl
  | k + 1, hk => by
    have ih := zAdS_congr wa h k (by omega)
    unfold zAdS
    rw [zPn_congr h k (by omega), h k (by omega), ih]
theorem zAdW_congr (wa : Nat → Nat → Int32) (h : ∀ j, j < n → f j = g j) : zAdW wa f n = zAdW wa g n := by
  unfold zAdW; rw [zAdS_congr wa h n (Nat.le_refl n)]
end RC
section RR
variable {c : zCl} {s sg sP : Nat → Int32} {n : Nat}
theorem zNm6 {k : Nat} (h : k ≤ 60) : nI k ≠ -100006 := by
  intro e
  have := congrArg Int32.toInt e
  rw [nI_toInt (by omega)] at this
  have h3 : ((-100006 : Int32)).toInt = -100006 := by decide +kernel
  omega
theorem zFault_eq (c : zCl) (hn : n ≤ 60) (h : ∀ j, j < n → sg j = sP j) : zFx sg n = if (zGoE sP n false s).2.2.1 = true then nI (zGoE sP n false s).2.1 else -100006 := by
  rw [zFx_congr h]
  rcases zGoE_is (f := sP) (n := n) (isD := false) (c := c) (s0 := s) (s := s) hn c.wa rfl with ⟨a, b⟩ | ⟨a, b, -, -⟩
  · rw [a, if_pos rfl]; exact b
  · rw [a, if_neg (by decide)]; exact b
theorem zDread_eq (c : zCl) (hn : n ≤ 60) (h : ∀ j, j < n → sg j = sP j) : zDread sg n = zDreadR sP n s := by
  unfold zDread zDreadR
  rw [zFx_congr h]
  have hle := zGoS_le (f := sP) (n := n) (isD := false) (s := s) (zGoN sP n false s)
  rcases zGoE_is (f := sP) (n := n) (isD := false) (c := c) (s0 := s) (s := s) hn c.wa rfl with ⟨a, b⟩ | ⟨a, b, -, -⟩
  · rw [a, b, if_pos rfl, if_neg (show ¬ nI (zGoE sP n false s).2.1 = -100006 from zNm6 (Nat.le_trans hle hn))]
  · rw [a, b, if_pos rfl, if_neg (by decide)]
theorem zRead_g (h : zOc c s) (hn : n ≤ 60) (ht : (zGoE sP n false s).2.2.1 = false) : zGoG sP n true (zGoE sP n false s).1 ∧ zFx sP n = -100006 := by
  rw [zGoE_f]
  rcases zGoE_is (f := sP) (n := n) (isD := false) (c := c) (s0 := s) (s := s) hn c.wa rfl with ⟨a, -⟩ | ⟨-, b, -, -⟩
  · rw [ht] at a; cases a
  · refine ⟨?_, b⟩
    rcases zGoE_is (f := sP) (n := n) (isD := true) (c := c) (s0 := s) (s := s) hn c.wa h with ⟨-, b2⟩ | ⟨-, -, g, -⟩
    · rw [b] at b2
      exact absurd b2.symm (zNm6 (Nat.le_trans (zGoS_le _) hn))
    · exact g
theorem ch_read (h : zOc c s) (hn : n ≤ 60) (hs : ∀ j, j < n → sg j = sP j) {u : Unit} (hd : zDreadR sP n s = .inr u) : zOc (zRdC c sg n) (zGoE sP n true s).1 := by
  have ht : (zGoE sP n false s).2.2.1 = false := by
    unfold zDreadR at hd
    split at hd
    · cases hd
    · rename_i q; exact Bool.eq_false_iff.mpr q
  have hb := (zRead_g h hn ht).2
  unfold zRdC
  rw [zAdW_congr c.wa hs]
  rcases zGoE_is (f := sP) (n := n) (isD := true) (c := c) (s0 := s) (s := s) hn c.wa h with ⟨-, b2⟩ | ⟨-, -, -, r⟩
  · rw [hb] at b2
    exact absurd b2.symm (zNm6 (Nat.le_trans (zGoS_le _) hn))
  · exact r
end RR
/-- what both sides hold between two calls -/
def zRS (c t : zCl) (hc sc : Nat → zCl) (kn : Nat) (hi : Nat → Nat) (sv : Nat → Bool) (sg : Nat → Int32) (ln : Nat) (s sH sL : Nat → Int32) (sI : Nat → Bool) (sP : Nat → Int32) : Prop := zOc c s ∧ zWf t ∧ zHS hc hi kn sH ∧ zSS sc sv sI sL ∧ ln ≤ 60 ∧ ∀ j, j < ln → sg j = sP j
def zLM (G : zG) (M : zM) (a b : Nat) (M' : zM) : Prop := ∃ (c t : zCl) (hc sc : Nat → zCl) (kn : Nat) (hi : Nat → Nat) (sv : Nat → Bool) (sg : Nat → Int32) (ln : Nat) (d : zOd) (s sA sH sL : Nat → Int32) (sI : Nat → Bool) (sP sT sG : Nat → Int32) (po : Int32) (wr : Bool), zRS c t hc sc kn hi sv sg ln s sH sL sI sP ∧ M' = hoM G (mdM G M b s sA sH sL sI sP sT sG (nI kn) (nI ln) po wr) a c t hc sc (nI kn) hi sv sg (nI ln) d
/-- a call on either side: the same answer, and both hold the same again -/
def zOp (l : Launch) (G : zG) (M : zM) (a b N : Nat) (yC : MethodName) (bC : ByteArray) (nC fC wC : Nat) (avC : List Value) (yR : MethodName) (bR : ByteArray) (nR fR wR : Nat) (avR : List Value) (M' : zM) : Prop := ∃ (r : Int32) (M1 M2 : zM), zC l G yC bC nC (some .int) fC wC 0 0 avC M' N (zP (some (.int r)) M1) ∧ (∃ fs, M1 b = some (zO 6 fs)) ∧ zC l G yR bR nR (some .int) fR wR 0 0 avR M1 N (zP (some (.int r)) M2) ∧ zLM G M a b M2
theorem ho_in {G : zG} (M M2 : zM) {a : Nat} {c t : zCl} {hc sc : Nat → zCl} {kp : Int32} {hi : Nat → Nat} {sv : Nat → Bool} {sg : Nat → Int32} {pl : Int32} {d : zOd} {q : Nat} (h1 : a ≤ q) (h2 : q < a + 672) : hoM G M a c t hc sc kp hi sv sg pl d q = hoM G M2 a c t hc sc kp hi sv sg pl d q := by
  have hn0 : ¬ (q < a ∨ a + 672 ≤ q) := by omega
  unfold hoM
  rw [if_neg hn0, if_neg hn0]
  by_cases g1 : q = a
  · rw [if_pos g1, if_pos g1]
  rw [if_neg g1, if_neg g1]
  by_cases g2 : q < a + 67
  · rw [if_pos g2, if_pos g2]; exact ck_in M M2 (by omega) (by omega)
  rw [if_neg g2, if_neg g2]
  by_cases g3 : q < a + 133
  · rw [if_pos g3, if_pos g3]; exact ck_in M M2 (by omega) (by omega)
  rw [if_neg g3, if_neg g3]
  by_cases g4 : q = a + 133
  · rw [if_pos g4, if_pos g4]
  rw [if_neg g4, if_neg g4]
  by_cases g5 : q = a + 134
  · rw [if_pos g5, if_pos g5]
  rw [if_neg g5, if_neg g5]
  by_cases g6 : q = a + 135
  · rw [if_pos g6, if_pos g6]
  rw [if_neg g6, if_neg g6]
  by_cases g7 : q < a + 138
  · rw [if_pos g7, if_pos g7]; exact pd_in M M2 (by omega) (by omega)
  rw [if_neg g7, if_neg g7]
  by_cases g8 : q < a + 144
  · rw [if_pos g8, if_pos g8]; exact ok_in M M2 (by omega) (by omega)
  rw [if_neg g8, if_neg g8]
  by_cases g9 : q < a + 540
  · rw [if_pos g9, if_pos g9]; exact ck_in M M2 (by omega) (by omega)
  rw [if_neg g9, if_neg g9]
  exact ck_in M M2 (by omega) (by omega)
theorem md_out' {G : zG} {M : zM} {b : Nat} {s sA sH sL : Nat → Int32} {sI : Nat → Bool} {sP sT sG : Nat → Int32} {kp ln po : Int32} {wr : Bool} {q : Nat} (h : q < b ∨ b + 9 ≤ q) : mdM G M b s sA sH sL sI sP sT sG kp ln po wr q = M q := by
  unfold mdM
  rw [if_neg (by omega), if_neg (by omega), if_neg (by omega), if_neg (by omega), if_neg (by omega), if_neg (by omega), if_neg (by omega), if_neg (by omega), if_neg (by omega)]
theorem md_in' {G : zG} (M M2 : zM) {b : Nat} {s sA sH sL : Nat → Int32} {sI : Nat → Bool} {sP sT sG : Nat → Int32} {kp ln po : Int32} {wr : Bool} {q : Nat} (h1 : b ≤ q) (h2 : q < b + 9) : mdM G M b s sA sH sL sI sP sT sG kp ln po wr q = mdM G M2 b s sA sH sL sI sP sT sG kp ln po wr q := by
  have : q = b ∨ q = b + 1 ∨ q = b + 2 ∨ q = b + 3 ∨ q = b + 4 ∨ q = b + 5 ∨ q = b + 6 ∨ q = b + 7 ∨ q = b + 8 := by omega
  rcases this with rfl | rfl | rfl | rfl | rfl | rfl | rfl | rfl | rfl
  · rw [md_o, md_o]
  · rw [md_s, md_s]
  · rw [md_sA, md_sA]
  · rw [md_sH, md_sH]
  · rw [md_sL, md_sL]
  · rw [md_sI, md_sI]
  · rw [md_sP, md_sP]
  · rw [md_sT, md_sT]
  · rw [md_sG, md_sG]
theorem ho_md {G : zG} {M : zM} {a b : Nat} (hab : a + 672 ≤ b) {c t : zCl} {hc sc : Nat → zCl} {kp : Int32} {hi : Nat → Nat} {sv : Nat → Bool} {sg : Nat → Int32} {pl : Int32} {d : zOd} {s sA sH sL : Nat → Int32} {sI : Nat → Bool} {sP sT sG : Nat → Int32} {kp2 ln2 po : Int32} {wr : Bool} : mdM G (hoM G M a c t hc sc kp hi sv sg pl d) b s sA sH sL sI sP sT sG kp2 ln2 po wr = hoM G (mdM G M b s sA sH sL sI sP sT sG kp2 ln2 po wr) a c t hc sc kp hi sv sg pl d := by
  funext q
  by_cases h : a ≤ q ∧ q < a + 672
  · rw [md_out' (by omega)]
    exact ho_in _ _ h.1 h.2
  · rw [ho_out (by omega)]
    by_cases h2 : b ≤ q ∧ q < b + 9
    · exact md_in' _ _ h2.1 h2.2
    · rw [md_out' (by omega), md_out' (by omega), ho_out (by omega)]
theorem op_mk {l : Launch} {G : zG} {M : zM} {a b N : Nat} (hab : a + 672 ≤ b) {yC : MethodName} {bC : ByteArray} {nC fC wC : Nat} {avC : List Value} {yR : MethodName} {bR : ByteArray} {nR fR wR : Nat} {avR : List Value}
    {c t c' t' : zCl} {hc sc hc' sc' : Nat → zCl} {kn kn' : Nat} {hi hi' : Nat → Nat} {sv sv' : Nat → Bool} {sg sg' : Nat → Int32} {ln ln' : Nat} {d d' : zOd} {s sA sH sL s' sA' sH' sL' : Nat → Int32} {sI sI' : Nat → Bool} {sP sT sG sP' sT' sG' : Nat → Int32} {po po' : Int32} {wr wr' : Bool} {r rr : Int32}
    (hC : zC l G yC bC nC (some .int) fC wC 0 0 avC (hoM G (mdM G M b s sA sH sL sI sP sT sG (nI kn) (nI ln) po wr) a c t hc sc (nI kn) hi sv sg (nI ln) d) N (zP (some (.int r)) (hoM G (mdM G M b s sA sH sL sI sP sT sG (nI kn) (nI ln) po wr) a c' t' hc' sc' (nI kn') hi' sv' sg' (nI ln') d')))
    (hX : ∀ M0, zC l G yR bR nR (some .int) fR wR 0 0 avR (mdM G M0 b s sA sH sL sI sP sT sG (nI kn) (nI ln) po wr) N (zP (some (.int rr)) (mdM G M0 b s' sA' sH' sL' sI' sP' sT' sG' (nI kn') (nI ln') po' wr')))
    (e : r = rr) (hRS : zRS c' t' hc' sc' kn' hi' sv' sg' ln' s' sH' sL' sI' sP') : zOp l G M a b N yC bC nC fC wC avC yR bR nR fR wR avR (hoM G (mdM G M b s sA sH sL sI sP sT sG (nI kn) (nI ln) po wr) a c t hc sc (nI kn) hi sv sg (nI ln) d) := by
  subst e
  have h2 := hX (hoM G M a c' t' hc' sc' (nI kn') hi' sv' sg' (nI ln') d')
  rw [ho_md hab, ho_md hab] at h2
  exact ⟨r, _, _, hC, ⟨_, (ho_out (by omega)).trans md_o⟩, h2, c', t', hc', sc', kn', hi', sv', sg', ln', d', s', sA', sH', sL', sI', sP', sT', sG', po', wr', hRS, rfl⟩
theorem zLM_a {G : zG} {M M' : zM} {a b : Nat} (h : zLM G M a b M') : ∃ fs, M' a = some (zO 5 fs) := by
  obtain ⟨c, t, hc, sc, kn, hi, sv, sg, ln, d, s, sA, sH, sL, sI, sP, sT, sG, po, wr, -, rfl⟩ := h
  exact ⟨_, ho_o⟩
