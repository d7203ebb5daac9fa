/-! each call, on either side -/
section OP
variable (l : Launch) (G : zG) (M : zM) (a b N : Nat) (M' : zM)
theorem op_set (hab : a + 672 ≤ b) (h : zLM G M a b M') (p v : Int32) : zOp l G M a b N yX5_set cX5_set 4 6 156 [.ref a, .int p, .int v] yX6_set cX6_set 3 2 44 [.ref b, .int p, .int v] M' := by
  obtain ⟨c, t, hc, sc, kn, hi, sv, sg, ln, d, s, sA, sH, sL, sI, sP, sT, sG, po, wr, hRS, rfl⟩ := h
  have hRS2 := hRS
  obtain ⟨hO, hT, hH, hS, hl, hP⟩ := hRS2
  have hC := c_X5_set l G (mdM G M b s sA sH sL sI sP sT sG (nI kn) (nI ln) po wr) N a c t hc sc (nI kn) hi sv sg (nI ln) d kn p v hH.1 hH.2.1 hO.1.1 hO.1.2.1 (fun j hj => (hH.2.2.2.1 j hj).2.1)
  have hX := fun M0 => c_X6_set l G M0 N b s sA sH sL sI sP sT sG (nI kn) (nI ln) po wr kn p v hH.1
  cases hD : zDset p v with
  | inl e =>
    simp only [hD, zU_l, zE_l] at hC hX
    exact op_mk hab hC hX rfl hRS
  | inr q =>
    simp only [hD, zU_r, zE_r] at hC hX
    exact op_mk hab hC hX ((ch_set hO hD).2) ⟨(ch_set hO hD).1, hT, zHS_rec hH hO.1 hO.2.1 hO.2.2, hS, hl, hP⟩
theorem op_snap (hab : a + 672 ≤ b) (h : zLM G M a b M') (m g : Int32) : zOp l G M a b N yX5_snap cX5_snap 3 6 156 [.ref a, .int m, .int g] yX6_snap cX6_snap 3 2 42 [.ref b, .int m, .int g] M' := by
  obtain ⟨c, t, hc, sc, kn, hi, sv, sg, ln, d, s, sA, sH, sL, sI, sP, sT, sG, po, wr, hRS, rfl⟩ := h
  have hRS2 := hRS
  obtain ⟨hO, hT, hH, hS, hl, hP⟩ := hRS2
  have hC := c_X5_snap l G (mdM G M b s sA sH sL sI sP sT sG (nI kn) (nI ln) po wr) N a c t hc sc (nI kn) hi sv sg (nI ln) d kn m g hH.1 hH.2.1 hO.1.1 hO.1.2.1 (fun j hj => (hH.2.2.2.1 j hj).2.1)
  have hX := fun M0 => c_X6_snap l G M0 N b s sA sH sL sI sP sT sG (nI kn) (nI ln) po wr kn m g hH.1
  rw [zDsnap_eq hO.2.1 m g] at hC
  cases hD : zDsnap s m g with
  | inl e =>
    simp only [hD, zU_l, zE_l] at hC hX
    exact op_mk hab hC hX rfl hRS
  | inr q =>
    simp only [hD, zU_r, zE_r] at hC hX
    exact op_mk hab hC hX ((ch_snap hO (zDsnap_in hD).1 (zDsnap_in hD).2).2) ⟨(ch_snap hO (zDsnap_in hD).1 (zDsnap_in hD).2).1, hT, zHS_rec hH hO.1 hO.2.1 hO.2.2, hS, hl, hP⟩
theorem op_fit (hab : a + 672 ≤ b) (h : zLM G M a b M') (m g e : Int32) : zOp l G M a b N yX5_fit cX5_fit 4 6 156 [.ref a, .int m, .int g, .int e] yX6_fit cX6_fit 4 3 65 [.ref b, .int m, .int g, .int e] M' := by
  obtain ⟨c, t, hc, sc, kn, hi, sv, sg, ln, d, s, sA, sH, sL, sI, sP, sT, sG, po, wr, hRS, rfl⟩ := h
  have hRS2 := hRS
  obtain ⟨hO, hT, hH, hS, hl, hP⟩ := hRS2
  have hC := c_X5_fit l G (mdM G M b s sA sH sL sI sP sT sG (nI kn) (nI ln) po wr) N a c t hc sc (nI kn) hi sv sg (nI ln) d kn m g e hH.1 hH.2.1 hO.1.1 hO.1.2.1 (fun j hj => (hH.2.2.2.1 j hj).2.1)
  have hX := fun M0 => c_X6_fit l G M0 N b s sA sH sL sI sP sT sG (nI kn) (nI ln) po wr kn m g e hH.1
  rw [zDfit_eq hO m g e] at hC
  cases hD : zDfit s m g e with
  | inl e =>
    simp only [hD, zU_l, zE_l] at hC hX
    exact op_mk hab hC hX rfl hRS
  | inr q =>
    obtain ⟨f1, f2, f3, f4, f5⟩ := zDfit_in ((zDfit_eq hO m g e).trans hD)
    simp only [hD, zU_r, zE_r] at hC hX
    exact op_mk hab hC hX ((ch_fit hO f1 f2 f3 f4 f5).2) ⟨(ch_fit hO f1 f2 f3 f4 f5).1, hT, zHS_rec hH hO.1 hO.2.1 hO.2.2, hS, hl, hP⟩
theorem op_want (hab : a + 672 ≤ b) (h : zLM G M a b M') (m g v : Int32) : zOp l G M a b N yX5_want cX5_want 4 6 156 [.ref a, .int m, .int g, .int v] yX6_want cX6_want 5 5 111 [.ref b, .int m, .int g, .int v] M' := by
  obtain ⟨c, t, hc, sc, kn, hi, sv, sg, ln, d, s, sA, sH, sL, sI, sP, sT, sG, po, wr, hRS, rfl⟩ := h
  have hRS2 := hRS
  obtain ⟨hO, hT, hH, hS, hl, hP⟩ := hRS2
  have hC := c_X5_want l G (mdM G M b s sA sH sL sI sP sT sG (nI kn) (nI ln) po wr) N a c t hc sc (nI kn) hi sv sg (nI ln) d kn m g v hH.1 hH.2.1 hO.1.1 hO.1.2.1 (fun j hj => (hH.2.2.2.1 j hj).2.1)
  have hX := fun M0 => c_X6_want l G M0 N b s sA sH sL sI sP sT sG (nI kn) (nI ln) po wr kn m g v hH.1
  cases hD : zDwant m g v with
  | inl e =>
    simp only [hD, zU_l, zE_l] at hC hX
    exact op_mk hab hC hX rfl hRS
  | inr q =>
    simp only [hD, zU_r, zE_r] at hC hX
    exact op_mk hab hC hX ((ch_want hO d hD).2) ⟨(ch_want hO d hD).1, hT, zHS_rec hH hO.1 hO.2.1 hO.2.2, hS, hl, hP⟩
theorem op_pay (hab : a + 672 ≤ b) (h : zLM G M a b M') (m v : Int32) : zOp l G M a b N yX5_pay cX5_pay 3 6 156 [.ref a, .int m, .int v] yX6_pay cX6_pay 3 2 44 [.ref b, .int m, .int v] M' := by
  obtain ⟨c, t, hc, sc, kn, hi, sv, sg, ln, d, s, sA, sH, sL, sI, sP, sT, sG, po, wr, hRS, rfl⟩ := h
  have hRS2 := hRS
  obtain ⟨hO, hT, hH, hS, hl, hP⟩ := hRS2
  have hC := c_X5_pay l G (mdM G M b s sA sH sL sI sP sT sG (nI kn) (nI ln) po wr) N a c t hc sc (nI kn) hi sv sg (nI ln) d kn m v hH.1 hH.2.1 hO.1.1 hO.1.2.1 (fun j hj => (hH.2.2.2.1 j hj).2.1)
  have hX := fun M0 => c_X6_pay l G M0 N b s sA sH sL sI sP sT sG (nI kn) (nI ln) po wr kn m v hH.1
  cases hD : zDpay m v with
  | inl e =>
    simp only [hD, zU_l, zE_l] at hC hX
    exact op_mk hab hC hX rfl hRS
  | inr q =>
    simp only [hD, zU_r, zE_r] at hC hX
    exact op_mk hab hC hX ((ch_pay hO hD).2) ⟨(ch_pay hO hD).1, hT, zHS_rec hH hO.1 hO.2.1 hO.2.2, hS, hl, hP⟩
theorem op_give (hab : a + 672 ≤ b) (h : zLM G M a b M') (m o g v : Int32) : zOp l G M a b N yX5_give cX5_give 5 6 156 [.ref a, .int m, .int o, .int g, .int v] yX6_give cX6_give 5 2 42 [.ref b, .int m, .int o, .int g, .int v] M' := by
  obtain ⟨c, t, hc, sc, kn, hi, sv, sg, ln, d, s, sA, sH, sL, sI, sP, sT, sG, po, wr, hRS, rfl⟩ := h
  have hRS2 := hRS
  obtain ⟨hO, hT, hH, hS, hl, hP⟩ := hRS2
  have hC := c_X5_give l G (mdM G M b s sA sH sL sI sP sT sG (nI kn) (nI ln) po wr) N a c t hc sc (nI kn) hi sv sg (nI ln) d kn m o g v hH.1 hH.2.1 hO.1.1 hO.1.2.1 (fun j hj => (hH.2.2.2.1 j hj).2.1)
  have hX := fun M0 => c_X6_give l G M0 N b s sA sH sL sI sP sT sG (nI kn) (nI ln) po wr kn m o g v hH.1
  rw [zDgive_eq hO.2.1 m o g v] at hC
  cases hD : zDgive s m o g v with
  | inl e =>
    simp only [hD, zU_l, zE_l] at hC hX
    exact op_mk hab hC hX rfl hRS
  | inr q =>
    simp only [hD, zU_r, zE_r] at hC hX
    exact op_mk hab hC hX ((ch_give hO ((zDgive_eq hO.2.1 m o g v).trans hD)).2) ⟨(ch_give hO ((zDgive_eq hO.2.1 m o g v).trans hD)).1, hT, zHS_rec hH hO.1 hO.2.1 hO.2.2, hS, hl, hP⟩
theorem op_shuffle (hab : a + 672 ≤ b) (h : zLM G M a b M') (v : Int32) : zOp l G M a b N yX5_shuffle cX5_shuffle 3 6 156 [.ref a, .int v] yX6_shuffle cX6_shuffle 2 2 44 [.ref b, .int v] M' := by
  obtain ⟨c, t, hc, sc, kn, hi, sv, sg, ln, d, s, sA, sH, sL, sI, sP, sT, sG, po, wr, hRS, rfl⟩ := h
  have hRS2 := hRS
  obtain ⟨hO, hT, hH, hS, hl, hP⟩ := hRS2
  have hC := c_X5_shuffle l G (mdM G M b s sA sH sL sI sP sT sG (nI kn) (nI ln) po wr) N a c t hc sc (nI kn) hi sv sg (nI ln) d kn v hH.1 hH.2.1 hO.1.1 hO.1.2.1 (fun j hj => (hH.2.2.2.1 j hj).2.1)
  have hX := fun M0 => c_X6_shuffle l G M0 N b s sA sH sL sI sP sT sG (nI kn) (nI ln) po wr kn v hH.1
  cases hD : zDshuf v with
  | inl e =>
    simp only [hD, zU_l, zE_l] at hC hX
    exact op_mk hab hC hX rfl hRS
  | inr q =>
    simp only [hD, zU_r, zE_r] at hC hX
    exact op_mk hab hC hX ((ch_shuf hO hD).2) ⟨(ch_shuf hO hD).1, hT, zHS_rec hH hO.1 hO.2.1 hO.2.2, hS, hl, hP⟩
theorem op_read (hab : a + 672 ≤ b) (h : zLM G M a b M')  : zOp l G M a b N yX5_read cX5_read 1 6 156 [.ref a] yX6_read cX6_read 1 5 117 [.ref b] M' := by
  obtain ⟨c, t, hc, sc, kn, hi, sv, sg, ln, d, s, sA, sH, sL, sI, sP, sT, sG, po, wr, hRS, rfl⟩ := h
  have hRS2 := hRS
  obtain ⟨hO, hT, hH, hS, hl, hP⟩ := hRS2
  have hC := c_X5_read l G (mdM G M b s sA sH sL sI sP sT sG (nI kn) (nI ln) po wr) N a c t hc sc (nI kn) hi sv sg (nI ln) d kn ln hH.1 hH.2.1 hO.1.1 hO.1.2.1 (fun j hj => (hH.2.2.2.1 j hj).2.1) hl
  have hX := fun M0 => c_X6_read l G M0 N b s sA sH sL sI sP sT sG (nI kn) (nI ln) po wr ln kn hl hH.1 (fun ht => (zRead_g hO hl ht).1)
  simp only [zGoE_f] at hX
  rw [zDread_eq (s := s) c hl hP] at hC
  cases hD : zDreadR sP ln s with
  | inl e =>
    simp only [hD, zU_l, zE_l] at hC hX
    exact op_mk hab hC hX rfl hRS
  | inr q =>
    simp only [hD, zU_r, zE_r] at hC hX
    exact op_mk hab hC hX (zGa_cost (zRw_of (ch_read hO hl hP hD).2.1) d) ⟨ch_read hO hl hP hD, hT, zHS_rec hH hO.1 hO.2.1 hO.2.2, hS, Nat.zero_le _, fun j hj => absurd hj (Nat.not_lt_zero j)⟩
theorem op_send (hab : a + 672 ≤ b) (h : zLM G M a b M') (mm : Int32) : zOp l G M a b N yX5_send cX5_send 2 6 156 [.ref a, .int mm] yX6_send cX6_send 3 6 136 [.ref b, .int mm] M' := by
  obtain ⟨c, t, hc, sc, kn, hi, sv, sg, ln, d, s, sA, sH, sL, sI, sP, sT, sG, po, wr, hRS, rfl⟩ := h
  have hRS2 := hRS
  obtain ⟨hO, hT, hH, hS, hl, hP⟩ := hRS2
  have hC := c_X5_send l G (mdM G M b s sA sH sL sI sP sT sG (nI kn) (nI ln) po wr) N a c t hc sc (nI kn) hi sv sg (nI ln) d kn mm hH.1 hH.2.1 hO.1.1 hO.1.2.1 (fun j hj => (hH.2.2.2.1 j hj).2.1) (zOpt_nn hO.2.2.1 mm d.pt)
  have hX := fun M0 => c_X6_send l G M0 N b s sA sH sL sI sP sT sG (nI kn) (nI ln) po wr kn c.un mm hH.1 hO.2.1.2.1 hO.1.1
  rw [zDsend_eq hO d] at hC
  cases hD : zDsend s mm c.un with
  | inl e =>
    simp only [hD, zU_l, zE_l] at hC hX
    exact op_mk hab hC hX rfl hRS
  | inr q =>
    simp only [hD, zU_r, zE_r] at hC hX
    exact op_mk hab hC hX (zGa_cost (zRw_of hO.2.1) d) ⟨ch_send hO d ((zDsend_eq hO d).trans hD), hT, zHS_rec hH hO.1 hO.2.1 hO.2.2, hS, hl, hP⟩
theorem op_pass (hab : a + 672 ≤ b) (h : zLM G M a b M') (v : Int32) : zOp l G M a b N yX5_pass cX5_pass 4 6 156 [.ref a, .int v] yX6_pass cX6_pass 4 5 112 [.ref b, .int v] M' := by
  obtain ⟨c, t, hc, sc, kn, hi, sv, sg, ln, d, s, sA, sH, sL, sI, sP, sT, sG, po, wr, hRS, rfl⟩ := h
  have hRS2 := hRS
  obtain ⟨hO, hT, hH, hS, hl, hP⟩ := hRS2
  have hC := c_X5_pass l G (mdM G M b s sA sH sL sI sP sT sG (nI kn) (nI ln) po wr) N a c t hc sc (nI kn) hi sv sg (nI ln) d kn v hH.1 hH.2.1 hO.1.1 hO.1.2.1 (fun j hj => (hH.2.2.2.1 j hj).2.1) (fun k hk => (zPs_day (e := (s, sT, sG, c.un)) (D := 9999) (K := 50) hO (by omega) rfl k (by omega)).1)
  have hX := fun M0 => c_X6_pass l G M0 N b s sA sH sL sI sP sT sG (nI kn) (nI ln) po wr kn c.un v hH.1 (fun k hk => (zPs_day (e := (s, sT, sG, c.un)) (D := 9999) (K := 50) hO (by omega) rfl k (by omega)).2)
  rw [zDpass_eq hO.2.1 v] at hC
  cases hD : zDpassR s v with
  | inl e =>
    simp only [hD, zU_l, zE_l] at hC hX
    exact op_mk hab hC hX rfl hRS
  | inr q =>
    simp only [hD, zU_r, zE_r] at hC hX
    exact op_mk hab hC hX (zPs_cnt (e := (s, sT, sG, c.un)) (D := 9999) (K := 50) hO (by omega) rfl _ (by have := (zDpass_in ((zDpass_eq hO.2.1 v).trans hD)).1; omega)) ⟨ch_pass hO ((zDpass_eq hO.2.1 v).trans hD), hT, zHS_rec hH hO.1 hO.2.1 hO.2.2, hS, hl, hP⟩
theorem op_member (hab : a + 672 ≤ b) (h : zLM G M a b M') (m w : Int32) : zOp l G M a b N yX5_member cX5_member 3 2 48 [.ref a, .int m, .int w] yX6_member cX6_member 3 3 66 [.ref b, .int m, .int w] M' := by
  obtain ⟨c, t, hc, sc, kn, hi, sv, sg, ln, d, s, sA, sH, sL, sI, sP, sT, sG, po, wr, hRS, rfl⟩ := h
  have hRS2 := hRS
  obtain ⟨hO, hT, hH, hS, hl, hP⟩ := hRS2
  have hC := c_X5_member l G (mdM G M b s sA sH sL sI sP sT sG (nI kn) (nI ln) po wr) N a c t hc sc (nI kn) hi sv sg (nI ln) d m w hO.1.1 hO.1.2.1
  have hX := fun M0 => c_X6_member l G M0 N b s sA sH sL sI sP sT sG (nI kn) (nI ln) po wr c.un m w hO.2.1.2.1 hO.1.1
  exact op_mk hab hC hX (zE_congr (fun q hq => zMem_eq hO.2.1 w (zDmem_in hq))) (hRS)
theorem op_strings (hab : a + 672 ≤ b) (h : zLM G M a b M') (m g : Int32) (w : Bool) : zOp l G M a b N yX5_strings cX5_strings 4 1 20 [.ref a, .int m, .int g, .int (zb w)] yX6_strings cX6_strings 4 2 42 [.ref b, .int m, .int g, .int (zb w)] M' := by
  obtain ⟨c, t, hc, sc, kn, hi, sv, sg, ln, d, s, sA, sH, sL, sI, sP, sT, sG, po, wr, hRS, rfl⟩ := h
  have hRS2 := hRS
  obtain ⟨hO, hT, hH, hS, hl, hP⟩ := hRS2
  have hC := c_X5_strings l G (mdM G M b s sA sH sL sI sP sT sG (nI kn) (nI ln) po wr) N a c t hc sc (nI kn) hi sv sg (nI ln) d m g w
  have hX := fun M0 => c_X6_strings l G M0 N b s sA sH sL sI sP sT sG (nI kn) (nI ln) po wr m g w
  exact op_mk hab hC hX (zE_congr (fun q hq => by obtain ⟨f1, f2⟩ := hO.2.1.2.2.2.1 q.1 (zDstr_in hq).1 q.2 (zDstr_in hq).2; cases w; exact f1.symm; exact f2.symm)) (hRS)
theorem op_parcel (hab : a + 672 ≤ b) (h : zLM G M a b M') (p w : Int32) : zOp l G M a b N yX5_parcel cX5_parcel 4 2 47 [.ref a, .int p, .int w] yX6_parcel cX6_parcel 3 2 44 [.ref b, .int p, .int w] M' := by
  obtain ⟨c, t, hc, sc, kn, hi, sv, sg, ln, d, s, sA, sH, sL, sI, sP, sT, sG, po, wr, hRS, rfl⟩ := h
  have hRS2 := hRS
  obtain ⟨hO, hT, hH, hS, hl, hP⟩ := hRS2
  have hC := c_X5_parcel l G (mdM G M b s sA sH sL sI sP sT sG (nI kn) (nI ln) po wr) N a c t hc sc (nI kn) hi sv sg (nI ln) d p w hO.1.1 hO.1.2.1
  have hX := fun M0 => c_X6_parcel l G M0 N b s sA sH sL sI sP sT sG (nI kn) (nI ln) po wr c.un p w hO.2.1.2.1 hO.1.1
  exact op_mk hab hC hX (zE_congr (fun q hq => by obtain ⟨j, hj, h⟩ := zOb_in hq; cases h; exact zPar_eq hO.2.1 hO.2.2 w (zix_lt hj))) (hRS)
theorem op_count (hab : a + 672 ≤ b) (h : zLM G M a b M') (w : Int32) : zOp l G M a b N yX5_count cX5_count 2 2 45 [.ref a, .int w] yX6_count cX6_count 2 2 44 [.ref b, .int w] M' := by
  obtain ⟨c, t, hc, sc, kn, hi, sv, sg, ln, d, s, sA, sH, sL, sI, sP, sT, sG, po, wr, hRS, rfl⟩ := h
  have hRS2 := hRS
  obtain ⟨hO, hT, hH, hS, hl, hP⟩ := hRS2
  have hC := c_X5_count l G (mdM G M b s sA sH sL sI sP sT sG (nI kn) (nI ln) po wr) N a c t hc sc (nI kn) hi sv sg (nI ln) d kn w
  have hX := fun M0 => c_X6_count l G M0 N b s sA sH sL sI sP sT sG (nI kn) (nI ln) po wr kn c.un w hO.2.1.2.1 hO.1.1
  exact op_mk hab hC hX (zCnt_eq hO.2.1 hO.2.2.1 kn (nI ln) w) (hRS)
theorem op_order (hab : a + 672 ≤ b) (h : zLM G M a b M') (mm w : Int32) : zOp l G M a b N yX5_order cX5_order 3 3 67 [.ref a, .int mm, .int w] yX6_order cX6_order 3 5 111 [.ref b, .int mm, .int w] M' := by
  obtain ⟨c, t, hc, sc, kn, hi, sv, sg, ln, d, s, sA, sH, sL, sI, sP, sT, sG, po, wr, hRS, rfl⟩ := h
  have hRS2 := hRS
  obtain ⟨hO, hT, hH, hS, hl, hP⟩ := hRS2
  have hC := c_X5_order l G (mdM G M b s sA sH sL sI sP sT sG (nI kn) (nI ln) po wr) N a c t hc sc (nI kn) hi sv sg (nI ln) d mm w
  have hX := fun M0 => c_X6_order l G M0 N b s sA sH sL sI sP sT sG (nI kn) (nI ln) po wr mm w
  exact op_mk hab hC hX (zE_congr (fun q hq => zOrd_eq (zRw_of hO.2.1) hO.2.2.1 mm w d)) (hRS)
theorem op_share (hab : a + 672 ≤ b) (h : zLM G M a b M') (mm m : Int32) : zOp l G M a b N yX5_share cX5_share 3 3 72 [.ref a, .int mm, .int m] yX6_share cX6_share 3 5 111 [.ref b, .int mm, .int m] M' := by
  obtain ⟨c, t, hc, sc, kn, hi, sv, sg, ln, d, s, sA, sH, sL, sI, sP, sT, sG, po, wr, hRS, rfl⟩ := h
  have hRS2 := hRS
  obtain ⟨hO, hT, hH, hS, hl, hP⟩ := hRS2
  have hC := c_X5_share l G (mdM G M b s sA sH sL sI sP sT sG (nI kn) (nI ln) po wr) N a c t hc sc (nI kn) hi sv sg (nI ln) d mm m (zOpt_nn hO.2.2.1 mm d.pt)
  have hX := fun M0 => c_X6_share l G M0 N b s sA sH sL sI sP sT sG (nI kn) (nI ln) po wr mm m
  exact op_mk hab hC hX (zE_congr (fun q hq => zShare_eq (zRw_of hO.2.1) mm d sT sG (zDshare_in hq))) (hRS)
theorem op_ifMore (hab : a + 672 ≤ b) (h : zLM G M a b M') (m g v : Int32) : zOp l G M a b N yX5_ifMore cX5_ifMore 5 4 88 [.ref a, .int m, .int g, .int v] yX6_ifMore cX6_ifMore 6 5 111 [.ref b, .int m, .int g, .int v] M' := by
  obtain ⟨c, t, hc, sc, kn, hi, sv, sg, ln, d, s, sA, sH, sL, sI, sP, sT, sG, po, wr, hRS, rfl⟩ := h
  have hRS2 := hRS
  obtain ⟨hO, hT, hH, hS, hl, hP⟩ := hRS2
  have hC := c_X5_ifMore l G (mdM G M b s sA sH sL sI sP sT sG (nI kn) (nI ln) po wr) N a c t hc sc (nI kn) hi sv sg (nI ln) d m g v
  have hX := fun M0 => c_X6_ifMore l G M0 N b s sA sH sL sI sP sT sG (nI kn) (nI ln) po wr m g v
  exact op_mk hab hC hX (zE_congr (fun q hq => zMore_eq (zRw_of hO.2.1) v d (zDmore_in hq).1 (zDmore_in hq).2)) (hRS)
theorem op_bestParting (hab : a + 672 ≤ b) (h : zLM G M a b M') (w : Int32) : zOp l G M a b N yX5_bestParting cX5_bestParting 6 6 130 [.ref a, .int w] yX6_bestParting cX6_bestParting 4 6 133 [.ref b, .int w] M' := by
  obtain ⟨c, t, hc, sc, kn, hi, sv, sg, ln, d, s, sA, sH, sL, sI, sP, sT, sG, po, wr, hRS, rfl⟩ := h
  have hRS2 := hRS
  obtain ⟨hO, hT, hH, hS, hl, hP⟩ := hRS2
  have hC := c_X5_bestParting l G (mdM G M b s sA sH sL sI sP sT sG (nI kn) (nI ln) po wr) N a c t hc sc (nI kn) hi sv sg (nI ln) d w
  have hX := fun M0 => c_X6_bestParting l G M0 N b s sA sH sL sI sP sT sG (nI kn) (nI ln) po wr w
  exact op_mk hab hC hX (zE_congr (fun q hq => by obtain ⟨b1, b2⟩ := zBp_best (zRw_of hO.2.1) hO.2.2.1 d; unfold zRbp; rw [b1, b2])) (hRS)
theorem op_standIn (hab : a + 672 ≤ b) (h : zLM G M a b M') (m g : Int32) : zOp l G M a b N yX5_standIn cX5_standIn 4 1 21 [.ref a, .int m, .int g] yX6_standIn cX6_standIn 3 3 65 [.ref b, .int m, .int g] M' := by
  obtain ⟨c, t, hc, sc, kn, hi, sv, sg, ln, d, s, sA, sH, sL, sI, sP, sT, sG, po, wr, hRS, rfl⟩ := h
  have hRS2 := hRS
  obtain ⟨hO, hT, hH, hS, hl, hP⟩ := hRS2
  have hC := c_X5_standIn l G (mdM G M b s sA sH sL sI sP sT sG (nI kn) (nI ln) po wr) N a c t hc sc (nI kn) hi sv sg (nI ln) d m g
  have hX := fun M0 => c_X6_standIn l G M0 N b s sA sH sL sI sP sT sG (nI kn) (nI ln) po wr m g
  exact op_mk hab hC hX (zE_congr (fun q hq => zStand_eq hO.2.1 (zDstr_in hq).1 (zDstr_in hq).2)) (hRS)
theorem op_untilHome (hab : a + 672 ≤ b) (h : zLM G M a b M')  : zOp l G M a b N yX5_untilHome cX5_untilHome 2 6 138 [.ref a] yX6_untilHome cX6_untilHome 3 5 112 [.ref b] M' := by
  obtain ⟨c, t, hc, sc, kn, hi, sv, sg, ln, d, s, sA, sH, sL, sI, sP, sT, sG, po, wr, hRS, rfl⟩ := h
  have hRS2 := hRS
  obtain ⟨hO, hT, hH, hS, hl, hP⟩ := hRS2
  have hCp : zOc (zCpy t c) s := ⟨zCpy_wf hT hO.1, zCpy_R hT hO.1 hO.2.1, zCpy_I hT hO.1 hO.2.2⟩
  have hC := c_X5_untilHome l G (mdM G M b s sA sH sL sI sP sT sG (nI kn) (nI ln) po wr) N a c t hc sc (nI kn) hi sv sg (nI ln) d hO.1.1 hO.1.2.1 hT.2.1 (fun k hk => (zPs_day (e := (s, sT, sG, c.un)) (D := 9999) (K := 50) hCp (by omega) rfl k (by omega)).1)
  have hX := fun M0 => c_X6_untilHome l G M0 N b s sA sH sL sI sP sT sG (nI kn) (nI ln) po wr c.un (fun k hk => (zPs_day (e := (s, sT, sG, c.un)) (D := 9999) (K := 50) hO (by omega) rfl k (by omega)).2) ((zPs_ok (e := (s, sT, sG, c.un)) (D := 9999) (K := 50) hO (by omega) rfl 50 (by omega)).2.1.trans (zUh_0 (sT := sT) (sG := sG) hO))
  exact op_mk hab hC hX (congrArg nI (zUh_eq (sT := sT) (sG := sG) hCp)) (⟨⟨hO.1, zRl_eq hO.1.1 (fun i hi => by rw [zC0_lt hi, zC0_lt hi]) hO.2.1, hO.2.2⟩, (zPs_ok (e := (s, sT, sG, c.un)) (D := 9999) (K := 50) hCp (by omega) rfl _ (by have := zUh_eq (sT := sT) (sG := sG) hCp; have := zUhR_le (s, sT, sG, (zCpy t c).un); omega)).1.1, hH, hS, hl, hP⟩)
theorem op_put (hab : a + 672 ≤ b) (h : zLM G M a b M') (x : Int64) : zOp l G M a b N yX5_put cX5_put 4 2 46 [.ref a, .long x] yX6_put cX6_put 8 1 22 [.ref b, .long x] M' := by
  obtain ⟨c, t, hc, sc, kn, hi, sv, sg, ln, d, s, sA, sH, sL, sI, sP, sT, sG, po, wr, hRS, rfl⟩ := h
  have hRS2 := hRS
  obtain ⟨hO, hT, hH, hS, hl, hP⟩ := hRS2
  have hC := c_X5_put l G (mdM G M b s sA sH sL sI sP sT sG (nI kn) (nI ln) po wr) N a c t hc sc (nI kn) hi sv sg (nI ln) d ln x hl
  have hX := fun M0 => c_X6_put l G M0 N b s sA sH sL sI sP sT sG (nI kn) (nI ln) po wr ln x hl
  rw [zDput_eq x ln] at hC
  cases hD : zDput x ln with
  | inl e =>
    simp only [hD, zU_l, zE_l] at hC hX
    exact op_mk hab hC hX rfl hRS
  | inr q =>
    obtain ⟨e1, e2⟩ := zDput_in ((zDput_eq x ln).trans hD)
    rw [e1] at hC
    simp only [hD, zU_r, zE_r] at hC hX
    exact op_mk hab hC hX (rfl) ⟨hO, hT, hH, hS, e2, zPut_same hP⟩
theorem op_wipe (hab : a + 672 ≤ b) (h : zLM G M a b M')  : zOp l G M a b N yX5_wipe cX5_wipe 2 0 0 [.ref a] yX6_wipe cX6_wipe 2 0 0 [.ref b] M' := by
  obtain ⟨c, t, hc, sc, kn, hi, sv, sg, ln, d, s, sA, sH, sL, sI, sP, sT, sG, po, wr, hRS, rfl⟩ := h
  have hRS2 := hRS
  obtain ⟨hO, hT, hH, hS, hl, hP⟩ := hRS2
  have hC := c_X5_wipe l G (mdM G M b s sA sH sL sI sP sT sG (nI kn) (nI ln) po wr) N a c t hc sc (nI kn) hi sv sg (nI ln) d 
  have hX := fun M0 => c_X6_wipe l G M0 N b s sA sH sL sI sP sT sG (nI kn) (nI ln) po wr 
  exact op_mk hab hC hX (rfl) (⟨hO, hT, hH, hS, Nat.zero_le _, fun j hj => absurd hj (Nat.not_lt_zero j)⟩)
theorem op_fault (hab : a + 672 ≤ b) (h : zLM G M a b M')  : zOp l G M a b N yX5_fault cX5_fault 1 3 63 [.ref a] yX6_fault cX6_fault 1 5 117 [.ref b] M' := by
  obtain ⟨c, t, hc, sc, kn, hi, sv, sg, ln, d, s, sA, sH, sL, sI, sP, sT, sG, po, wr, hRS, rfl⟩ := h
  have hRS2 := hRS
  obtain ⟨hO, hT, hH, hS, hl, hP⟩ := hRS2
  have hC := c_X5_fault l G (mdM G M b s sA sH sL sI sP sT sG (nI kn) (nI ln) po wr) N a c t hc sc (nI kn) hi sv sg (nI ln) d ln hl
  have hX := fun M0 => c_X6_fault l G M0 N b s sA sH sL sI sP sT sG (nI kn) (nI ln) po wr ln hl
  simp only [zGoE_f] at hX
  exact op_mk hab hC hX (zFault_eq c hl hP) (hRS)
theorem op_undo (hab : a + 672 ≤ b) (h : zLM G M a b M')  : zOp l G M a b N yX5_undo cX5_undo 1 5 134 [.ref a] yX6_undo cX6_undo 2 0 0 [.ref b] M' := by
  obtain ⟨c, t, hc, sc, kn, hi, sv, sg, ln, d, s, sA, sH, sL, sI, sP, sT, sG, po, wr, hRS, rfl⟩ := h
  have hRS2 := hRS
  obtain ⟨hO, hT, hH, hS, hl, hP⟩ := hRS2
  have hC := c_X5_undo l G (mdM G M b s sA sH sL sI sP sT sG (nI kn) (nI ln) po wr) N a c t hc sc (nI kn) hi sv sg (nI ln) d kn hH.1 hH.2.1 hO.1.2.1 (fun j hj => (hH.2.2.2.1 j hj).2.1) (fun j hj => (hH.2.2.2.1 j hj).1)
  have hX := fun M0 => c_X6_undo l G M0 N b s sA sH sL sI sP sT sG (nI kn) (nI ln) po wr kn hH.1
  cases hD : zDundo kn with
  | inl e =>
    simp only [hD, zU_l, zE_l] at hC hX
    exact op_mk hab hC hX rfl (by have hk0 : kn = 0 := (by unfold zDundo at hD; split at hD; assumption; cases hD); subst hk0; exact hRS)
  | inr q =>
    have hkn : ¬ kn = 0 := by unfold zDundo at hD; split at hD; cases hD; assumption
    have hB : zOc (hc (hi (kn - 1))) (zHs sH (kn - 1)) := ⟨hH.2.2.2.1 _ (hH.2.1 _ (by have := hH.1; omega)), hH.2.2.2.2 (kn - 1) (by omega)⟩
    simp only [hD, zU_r, zE_r] at hC hX
    exact op_mk hab hC hX (rfl) ⟨ch_copy hO.1 hB, hT, ⟨by have := hH.1; omega, hH.2.1, hH.2.2.1, hH.2.2.2.1, fun i hi => hH.2.2.2.2 i (by omega)⟩, hS, hl, hP⟩
theorem op_save (hab : a + 672 ≤ b) (h : zLM G M a b M') (w : Int32) : zOp l G M a b N yX5_save cX5_save 2 5 134 [.ref a, .int w] yX6_save cX6_save 3 1 22 [.ref b, .int w] M' := by
  obtain ⟨c, t, hc, sc, kn, hi, sv, sg, ln, d, s, sA, sH, sL, sI, sP, sT, sG, po, wr, hRS, rfl⟩ := h
  have hRS2 := hRS
  obtain ⟨hO, hT, hH, hS, hl, hP⟩ := hRS2
  have hC := c_X5_save l G (mdM G M b s sA sH sL sI sP sT sG (nI kn) (nI ln) po wr) N a c t hc sc (nI kn) hi sv sg (nI ln) d w hO.1.1 hO.1.2.1 (fun j hj => (hS.1 j hj).2.1)
  have hX := fun M0 => c_X6_save l G M0 N b s sA sH sL sI sP sT sG (nI kn) (nI ln) po wr w
  cases hD : zDsave w with
  | inl e =>
    simp only [hD, zU_l, zE_l] at hC hX
    exact op_mk hab hC hX rfl hRS
  | inr q =>
    have hi2 : q < 2 := by obtain ⟨j, hj, h⟩ := zOb_in hD; cases h; exact zix_lt hj
    simp only [hD, zU_r, zE_r] at hC hX
    exact op_mk hab hC hX (hO.2.1.1.2.1.symm) ⟨hO, hT, hH, zSS_save hS hi2 hO, hl, hP⟩
theorem op_restore (hab : a + 672 ≤ b) (h : zLM G M a b M') (w : Int32) : zOp l G M a b N yX5_restore cX5_restore 2 6 156 [.ref a, .int w] yX6_restore cX6_restore 3 1 22 [.ref b, .int w] M' := by
  obtain ⟨c, t, hc, sc, kn, hi, sv, sg, ln, d, s, sA, sH, sL, sI, sP, sT, sG, po, wr, hRS, rfl⟩ := h
  have hRS2 := hRS
  obtain ⟨hO, hT, hH, hS, hl, hP⟩ := hRS2
  have hC := c_X5_restore l G (mdM G M b s sA sH sL sI sP sT sG (nI kn) (nI ln) po wr) N a c t hc sc (nI kn) hi sv sg (nI ln) d kn w hH.1 hH.2.1 hO.1.1 hO.1.2.1 (fun j hj => (hH.2.2.2.1 j hj).2.1) (fun j hj => (hS.1 j hj).2.1) (fun j hj => (hS.1 j hj).1)
  have hX := fun M0 => c_X6_restore l G M0 N b s sA sH sL sI sP sT sG (nI kn) (nI ln) po wr kn w hH.1
  rw [(show zDrest sv w = zDrest sI w by rw [show sv = sI from funext hS.2.1])] at hC
  cases hD : zDrest sI w with
  | inl e =>
    simp only [hD, zU_l, zE_l] at hC hX
    exact op_mk hab hC hX rfl hRS
  | inr q =>
    have hi2 : q < 2 ∧ sI q = true := by
      obtain ⟨j, hj, h⟩ := zOb_in hD
      split at h
      · cases h; exact ⟨zix_lt hj, by assumption⟩
      · cases h
    have hB : zOc (sc q) (zHs sL q) := ⟨hS.1 q hi2.1, hS.2.2 q hi2.1 ((hS.2.1 q).trans hi2.2)⟩
    have hB2 : zOc (zCpy c (sc q)) (zC0 s (zHs sL q) 402) := ch_copy hO.1 hB
    simp only [hD, zU_r, zE_r] at hC hX
    exact op_mk hab hC hX (hB2.2.1.1.2.1.symm) ⟨hB2, hT, zHS_rec hH hO.1 hO.2.1 hO.2.2, hS, hl, hP⟩
end OP
