set_option maxHeartbeats 4000000 in
set_option maxRecDepth 100000 in
theorem c_X5_untilHome (l : Launch) (G : zG) (M : zM) (N a : Nat) (c t : zCl) (hc sc : Nat → zCl) (kp : Int32) (hi : Nat → Nat) (sv : Nat → Bool) (sg : Nat → Int32) (pl : Int32) (d : zOd)   (hu : c.un ≤ 5) (hpi : ∀ i, i < 5 → c.pi i < 5) (htp : ∀ i, i < 5 → t.pi i < 5) (hday : ∀ k, k < 51 → zDayOk (zPs (zCpy t c) k)) : zC l G yX5_untilHome cX5_untilHome 2 (some .int) 6 138 0 0 [.ref a] (hoM G M a c t hc sc kp hi sv sg pl d) N (zP (some (.int (nI (zUhF (zCpy t c) 50 0)))) (hoM G M a c (zPs (zCpy t c) (zUhF (zCpy t c) 50 0)) hc sc kp hi sv sg pl d)) := by
  refine zC.of (by decide +kernel) (Nat.le_of_ble_eq_true rfl) ?_
  intro K hKl ok
  subst hKl
  show zW K G 2 _ 0 0 _ N 0 [(0, .ref a)] []
  refine r_aload_n ok dX5_untilHome_0 0 rfl rfl ?_
  refine r_getf ok ci_X5 fl_X5_16 (by decide) dX5_untilHome_1 ho_o rfl ?_
  refine r_aload_n ok dX5_untilHome_4 0 rfl rfl ?_
  refine r_getf ok ci_X5 fl_X5_10 (by decide) dX5_untilHome_5 ho_o rfl ?_
  refine zW.to (M' := cbM G (cbM G (hoM G M a c t hc sc kp hi sv sg pl d) (a + 1) c.st c.dy c.x c.br c.sp c.wa c.ac c.ps c.pp c.pu c.lo (nI c.un) c.op c.pi c.cn c.vl c.du c.io c.hp c.hs) (a + 67) t.st t.dy t.x t.br t.sp t.wa t.ac t.ps t.pp t.pu t.lo (nI t.un) t.op t.pi t.cn t.vl t.du t.io t.hp t.hs) ?_ (((congrArg (fun z => cbM G z (a + 67) t.st t.dy t.x t.br t.sp t.wa t.ac t.ps t.pp t.pu t.lo (nI t.un) t.op t.pi t.cn t.vl t.du t.io t.hp t.hs) ho_cI).trans ho_tI)).symm rfl rfl
  refine r_cV0 ok [] mi_X0_copyFrom ci_X0 ml_X5_227 im_X0_copyFrom se_X0_copyFrom dX5_untilHome_8 (c_X0_copyFrom K.2.1 G (hoM G M a c t hc sc kp hi sv sg pl d) N (a + 1) c (a + 67) t   (by omega) htp hpi (by omega)) cb_o rfl rfl ⟨Nat.le_of_ble_eq_true rfl, Nat.le_of_ble_eq_true rfl⟩ (Nat.le_of_ble_eq_true rfl) ⟨Nat.zero_le _, Nat.zero_le _⟩ ?_
  refine zW.to (M' := hoM G M a c (zCpy t c) hc sc kp hi sv sg pl d) ?_ (((congrArg (fun z => cbM G z (a + 67) ((zCpy t c).st) ((zCpy t c).dy) ((zCpy t c).x) ((zCpy t c).br) ((zCpy t c).sp) ((zCpy t c).wa) ((zCpy t c).ac) ((zCpy t c).ps) ((zCpy t c).pp) ((zCpy t c).pu) ((zCpy t c).lo) (nI (zCpy t c).un) ((zCpy t c).op) ((zCpy t c).pi) ((zCpy t c).cn) ((zCpy t c).vl) ((zCpy t c).du) ((zCpy t c).io) ((zCpy t c).hp) ((zCpy t c).hs)) ho_cI).trans (ho_t (zCpy t c)))) rfl rfl
  refine r_iconst ok (nI 0) dX5_untilHome_11 (by rfl) ?_
  refine r_istore_n ok [(1, .int (nI 0)), (0, .ref a)] dX5_untilHome_12 rfl (by decide) rfl ?_
  have L1 : ∀ (nL1 : Nat) (k : Nat), ((k + nL1 = 50)) → (zUhF (zCpy t c) 50 0 = zUhF (zCpy t c) (50 - k) k) → zW K G 2 (zQ K G (N + 0) 0 0 (zP (some (.int (nI (zUhF (zCpy t c) 50 0)))) (hoM G M a c (zPs (zCpy t c) (zUhF (zCpy t c) 50 0)) hc sc kp hi sv sg pl d))) 0 0 (hoM G M a c (zPs (zCpy t c) k) hc sc kp hi sv sg pl d) N 13 [(0, .ref a), (1, .int (nI (k)))] [] := by
    intro nL1
    induction nL1 with
    | zero =>
      intro k hk_k hx
      have hdu := (hday k (by omega)).1
      obtain rfl : 50 = k := by omega
      refine r_aload_n ok dX5_untilHome_13 0 rfl rfl ?_
      refine r_getf ok ci_X5 fl_X5_16 (by decide) dX5_untilHome_14 ho_o rfl ?_
      refine r_getf ok ci_X0 fl_X5_132 (by decide) dX5_untilHome_17 (ho_rt cb_o) rfl ?_
      refine r_if_leN ok 43 (by omega) dX5_untilHome_20 (by decide) (fun c20_2 => ?_) (fun c20_2 => ?_)
      · skip
        have hr := hx.trans (zUh_e (by omega))
        refine r_iload_n ok dX5_untilHome_43 1 rfl rfl ?_
        exact r_iret ok dX5_untilHome_44 rfl ⟨congrArg (fun z => some (Value.int z)) (show nI (50) = nI (zUhF (zCpy t c) 50 0) from by first | exact congrArg nI hr.symm | exact congrArg nI hx.symm), (by first | rw [hr] | (rw [hx]; rfl))⟩
      · skip
        have hn : ¬ (zPs (zCpy t c) 50).un = 0 := by omega
        refine r_iload_n ok dX5_untilHome_23 1 rfl rfl ?_
        refine r_bipush ok (nI 50) dX5_untilHome_24 (by rfl) ?_
        refine r_icmp_geN ok 43 (by omega) (by omega) dX5_untilHome_26 (by decide) (fun _ => ?_) (fun c => absurd c (by decide))
        refine r_iload_n ok dX5_untilHome_43 1 rfl rfl ?_
        exact r_iret ok dX5_untilHome_44 rfl ⟨congrArg (fun z => some (Value.int z)) (show nI (50) = nI (zUhF (zCpy t c) 50 0) from by first | exact congrArg nI hr.symm | exact congrArg nI hx.symm), (by first | rw [hr] | (rw [hx]; rfl))⟩
    | succ nL1 ihL1 =>
      intro k hk_k hx
      have hdu := (hday k (by omega)).1
      refine r_aload_n ok dX5_untilHome_13 0 rfl rfl ?_
      refine r_getf ok ci_X5 fl_X5_16 (by decide) dX5_untilHome_14 ho_o rfl ?_
      refine r_getf ok ci_X0 fl_X5_132 (by decide) dX5_untilHome_17 (ho_rt cb_o) rfl ?_
      refine r_if_leN ok 43 (by omega) dX5_untilHome_20 (by decide) (fun c20_4 => ?_) (fun c20_4 => ?_)
      · skip
        have hr := hx.trans (zUh_e (by omega))
        refine r_iload_n ok dX5_untilHome_43 1 rfl rfl ?_
        exact r_iret ok dX5_untilHome_44 rfl ⟨congrArg (fun z => some (Value.int z)) (show nI (k) = nI (zUhF (zCpy t c) 50 0) from by first | exact congrArg nI hr.symm | exact congrArg nI hx.symm), (by first | rw [hr] | (rw [hx]; rfl))⟩
      · skip
        have hn : ¬ (zPs (zCpy t c) k).un = 0 := by omega
        refine r_iload_n ok dX5_untilHome_23 1 rfl rfl ?_
        refine r_bipush ok (nI 50) dX5_untilHome_24 (by rfl) ?_
        refine r_icmp_geN ok 43 (by omega) (by omega) dX5_untilHome_26 (by decide) (fun c26_5 => ?_) (fun c26_5 => ?_)
        · skip
          exact absurd c26_5 (by omega)
        · skip
          have hr := hx.trans (zUh_go (by omega) (by omega) hn)
          refine r_aload_n ok dX5_untilHome_29 0 rfl rfl ?_
          refine r_getf ok ci_X5 fl_X5_16 (by decide) dX5_untilHome_30 ho_o rfl ?_
          refine zW.to (M' := cbM G (hoM G M a c (zPs (zCpy t c) k) hc sc kp hi sv sg pl d) (a + 67) ((zPs (zCpy t c) k).st) ((zPs (zCpy t c) k).dy) ((zPs (zCpy t c) k).x) ((zPs (zCpy t c) k).br) ((zPs (zCpy t c) k).sp) ((zPs (zCpy t c) k).wa) ((zPs (zCpy t c) k).ac) ((zPs (zCpy t c) k).ps) ((zPs (zCpy t c) k).pp) ((zPs (zCpy t c) k).pu) ((zPs (zCpy t c) k).lo) (nI ((zPs (zCpy t c) k).un)) ((zPs (zCpy t c) k).op) ((zPs (zCpy t c) k).pi) ((zPs (zCpy t c) k).cn) ((zPs (zCpy t c) k).vl) ((zPs (zCpy t c) k).du) ((zPs (zCpy t c) k).io) ((zPs (zCpy t c) k).hp) ((zPs (zCpy t c) k).hs)) ?_ (ho_tI).symm rfl rfl
          refine r_cV1 ok [] mi_X0_beginDay ci_X0 ml_X5_143 im_X0_beginDay se_X0_beginDay dX5_untilHome_33 (c_X0_beginDay K.2.1 G (hoM G M a c (zPs (zCpy t c) k) hc sc kp hi sv sg pl d) N (a + 67) (zPs (zCpy t c) k)   (hday k (by omega)).1 (hday k (by omega)).2.1 (hday k (by omega)).2.2) cb_o rfl rfl ⟨Nat.le_of_ble_eq_true rfl, Nat.le_of_ble_eq_true rfl⟩ (Nat.le_of_ble_eq_true rfl) ⟨Nat.zero_le _, Nat.zero_le _⟩ ?_
          refine zW.to (M' := hoM G M a c (zBd ((zPs (zCpy t c) k))) hc sc kp hi sv sg pl d) ?_ ((ho_t (zBd ((zPs (zCpy t c) k))))) rfl rfl
          refine r_pop ok dX5_untilHome_36 rfl ?_
          refine r_iincN ok (c := 1) [(1, .int (nI (k + 1))), (0, .ref a)] dX5_untilHome_37 1 rfl (by rfl) (by decide) rfl ?_
          refine r_goto ok 13 dX5_untilHome_40 (by decide) ?_
          have q6 : ((zBd ((zPs (zCpy t c) k))) : zCl) = (zPs (zCpy t c) (k + 1)) := by first | with_reducible rfl | (rfl)
          refine zW.forget (lv' := [(0, .ref a), (1, .int (nI (k + 1)))]) ?_ [1, 0] rfl
          refine zW.to ?_ (congrArg (fun z => hoM G M a c z hc sc kp hi sv sg pl d) q6) rfl rfl
          exact ihL1 (k + 1) (by omega) (hr)
  have q7 : ((zCpy t c) : zCl) = (zPs (zCpy t c) 0) := by first | with_reducible rfl | (rfl)
  refine zW.forget (lv' := [(0, .ref a), (1, .int (nI 0))]) ?_ [1, 0] rfl
  refine zW.to ?_ (congrArg (fun z => hoM G M a c z hc sc kp hi sv sg pl d) q7) rfl rfl
  exact L1 50 0 (by omega) (rfl)
set_option maxHeartbeats 4000000 in
set_option maxRecDepth 100000 in
theorem c_X5_put (l : Launch) (G : zG) (M : zM) (N a : Nat) (c t : zCl) (hc sc : Nat → zCl) (kp : Int32) (hi : Nat → Nat) (sv : Nat → Bool) (sg : Nat → Int32) (pl : Int32) (d : zOd) (ln : Nat) (x : Int64) (hln : ln ≤ 60) : zC l G yX5_put cX5_put 4 (some .int) 2 46 0 0 [.ref a, .long (x)] (hoM G M a c t hc sc kp hi sv sg (nI ln) d) N (zP (some (.int (zE (zDputC x ln) (fun _ => nI (ln + zCIn x))))) (hoM G M a c t hc sc kp hi sv (zU (zDputC x ln) sg (fun _ => zApp sg x ln (zCIn x) (zCIn x))) (nI (zU (zDputC x ln) ln (fun _ => ln + zCIn x))) d)) := by
  refine zC.of (by decide +kernel) (Nat.le_of_ble_eq_true rfl) ?_
  intro K hKl ok
  subst hKl
  have hzc := zCIn_le x
  show zW K G 4 _ 0 0 _ N 0 [(0, .ref a), (1, .long (x))] []
  refine r_lload_n ok dX5_put_0 1 rfl rfl ?_
  refine r_cS1 ok [] mi_X2_charactersIn ml_X5_230 sm_X2_charactersIn dX5_put_1 (c_X2_charactersIn K.2.1 G (hoM G M a c t hc sc kp hi sv sg (nI ln) d) N  x ) rfl rfl ⟨Nat.le_of_ble_eq_true rfl, Nat.le_of_ble_eq_true rfl⟩ (Nat.le_of_ble_eq_true rfl) ⟨Nat.zero_le _, Nat.zero_le _⟩ ?_
  refine r_istore_n ok [(3, .int (nI (zCIn x))), (0, .ref a), (1, .long (x))] dX5_put_4 rfl (by decide) rfl ?_
  refine r_iload_n ok dX5_put_5 0 rfl rfl ?_
  refine r_if_neN ok 12 (by omega) dX5_put_6 (by decide) (fun c6_1 => ?_) (fun c6_1 => ?_)
  · skip
    have h0 : ¬ zCIn x = 0 := by omega
    refine r_aload_n ok dX5_put_12 1 rfl rfl ?_
    refine r_getf ok ci_X5 fl_X5_33 (by decide) dX5_put_13 ho_o rfl ?_
    refine r_getf ok ci_X2 fl_X5_105 (by decide) dX5_put_16 (ho_rp pd_o) rfl ?_
    refine r_iload_n ok dX5_put_19 0 rfl rfl ?_
    refine r_iaddN ok dX5_put_20 ?_
    refine r_bipush ok (nI 60) dX5_put_21 (by rfl) ?_
    refine r_icmp_leN ok 29 (by omega) (by omega) dX5_put_23 (by decide) (fun c23_2 => ?_) (fun c23_2 => ?_)
    · skip
      have hl := c23_2
      refine r_aload_n ok dX5_put_29 1 rfl rfl ?_
      refine r_getf ok ci_X5 fl_X5_33 (by decide) dX5_put_30 ho_o rfl ?_
      refine r_lload_n ok dX5_put_33 2 rfl rfl ?_
      refine r_iload_n ok dX5_put_34 0 rfl rfl ?_
      refine zW.to (M' := pdM G (hoM G M a c t hc sc kp hi sv sg (nI ln) d) (a + 136) sg (nI ln)) ?_ (ho_pI).symm rfl rfl
      refine r_cV0 ok [] mi_X2_append ci_X2 ml_X5_234 im_X2_append se_X2_append dX5_put_35 (c_X2_append K.2.1 G (hoM G M a c t hc sc kp hi sv sg (nI ln) d) N (a + 136) sg (nI ln) ln x (zCIn x) (by omega)) pd_o rfl rfl ⟨Nat.le_of_ble_eq_true rfl, Nat.le_of_ble_eq_true rfl⟩ (Nat.le_of_ble_eq_true rfl) ⟨Nat.zero_le _, Nat.zero_le _⟩ ?_
      refine zW.to (M' := hoM G M a c t hc sc kp hi sv (zApp sg x ln (zCIn x) (zCIn x)) (nI (ln + (zCIn x))) d) ?_ ((ho_p (zApp sg x ln (zCIn x) (zCIn x)) (nI (ln + (zCIn x))))) rfl rfl
      refine r_aload_n ok dX5_put_38 1 rfl rfl ?_
      refine r_getf ok ci_X5 fl_X5_33 (by decide) dX5_put_39 ho_o rfl ?_
      refine r_getf ok ci_X2 fl_X5_105 (by decide) dX5_put_42 (ho_rp pd_o) rfl ?_
      exact r_iret ok dX5_put_45 rfl ⟨congrArg (fun z => some (Value.int z)) (show nI (ln + (zCIn x)) = zE (zDputC x ln) (fun _ => nI (ln + zCIn x)) from by simp [zDputC, zE, zU, zOb, zCl_eta, zOd_eta, *]), (by simp [zDputC, zE, zU, zOb, zCl_eta, zOd_eta, *])⟩
    · skip
      have hl : ¬ ln + zCIn x ≤ 60 := by omega
      refine r_ldc ok ck_X5_135 dX5_put_26 ?_
      exact r_iret ok dX5_put_28 rfl ⟨congrArg (fun z => some (Value.int z)) (show -100004 = zE (zDputC x ln) (fun _ => nI (ln + zCIn x)) from by simp [zDputC, zE, zU, zOb, zCl_eta, zOd_eta, *]), (by simp [zDputC, zE, zU, zOb, zCl_eta, zOd_eta, *])⟩
  · skip
    have h0 : zCIn x = 0 := by omega
    refine r_ldc ok ck_X5_48 dX5_put_9 ?_
    exact r_iret ok dX5_put_11 rfl ⟨congrArg (fun z => some (Value.int z)) (show -100002 = zE (zDputC x ln) (fun _ => nI (ln + zCIn x)) from by simp [zDputC, zE, zU, zOb, zCl_eta, zOd_eta, *]), (by simp [zDputC, zE, zU, zOb, zCl_eta, zOd_eta, *])⟩
set_option maxHeartbeats 4000000 in
set_option maxRecDepth 100000 in
theorem c_X5_wipe (l : Launch) (G : zG) (M : zM) (N a : Nat) (c t : zCl) (hc sc : Nat → zCl) (kp : Int32) (hi : Nat → Nat) (sv : Nat → Bool) (sg : Nat → Int32) (pl : Int32) (d : zOd)    : zC l G yX5_wipe cX5_wipe 2 (some .int) 0 0 0 0 [.ref a] (hoM G M a c t hc sc kp hi sv sg pl d) N (zP (some (.int (pl))) (hoM G M a c t hc sc kp hi sv sg (nI 0) d)) := by
  refine zC.of (by decide +kernel) (Nat.le_of_ble_eq_true rfl) ?_
  intro K hKl ok
  subst hKl
  show zW K G 2 _ 0 0 _ N 0 [(0, .ref a)] []
  refine r_aload_n ok dX5_wipe_0 0 rfl rfl ?_
  refine r_getf ok ci_X5 fl_X5_33 (by decide) dX5_wipe_1 ho_o rfl ?_
  refine r_getf ok ci_X2 fl_X5_105 (by decide) dX5_wipe_4 (ho_rp pd_o) rfl ?_
  refine r_istore_n ok [(1, .int (pl)), (0, .ref a)] dX5_wipe_7 rfl (by decide) rfl ?_
  refine r_aload_n ok dX5_wipe_8 1 rfl rfl ?_
  refine r_getf ok ci_X5 fl_X5_33 (by decide) dX5_wipe_9 ho_o rfl ?_
  refine r_iconst ok (nI 0) dX5_wipe_12 (by rfl) ?_
  refine r_putf ok ci_X2 fl_X5_105 (by decide) rfl rfl rfl dX5_wipe_13 (ho_rp pd_o) rfl (ho_wp sg (nI 0) (pdw_o (nI 0))) ?_
  refine r_iload_n ok dX5_wipe_16 0 rfl rfl ?_
  exact r_iret ok dX5_wipe_17 rfl ⟨rfl, rfl⟩
set_option maxHeartbeats 4000000 in
set_option maxRecDepth 100000 in
theorem c_X5_fault (l : Launch) (G : zG) (M : zM) (N a : Nat) (c t : zCl) (hc sc : Nat → zCl) (kp : Int32) (hi : Nat → Nat) (sv : Nat → Bool) (sg : Nat → Int32) (pl : Int32) (d : zOd) (ln : Nat)  (hln : ln ≤ 60) : zC l G yX5_fault cX5_fault 1 (some .int) 3 63 0 0 [.ref a] (hoM G M a c t hc sc kp hi sv sg (nI ln) d) N (zP (some (.int (zFx sg ln))) (hoM G M a c t hc sc kp hi sv sg (nI ln) d)) := by
  refine zC.of (by decide +kernel) (Nat.le_of_ble_eq_true rfl) ?_
  intro K hKl ok
  subst hKl
  show zW K G 1 _ 0 0 _ N 0 [(0, .ref a)] []
  refine r_aload_n ok dX5_fault_0 0 rfl rfl ?_
  refine r_getf ok ci_X5 fl_X5_33 (by decide) dX5_fault_1 ho_o rfl ?_
  refine zW.to (M' := pdM G (hoM G M a c t hc sc kp hi sv sg (nI ln) d) (a + 136) sg (nI ln)) ?_ (ho_pI).symm rfl rfl
  refine r_cV1 ok [] mi_X2_faultIndex ci_X2 ml_X5_95 im_X2_faultIndex se_X2_faultIndex dX5_fault_4 (c_X2_faultIndex K.2.1 G (hoM G M a c t hc sc kp hi sv sg (nI ln) d) N (a + 136) sg (nI ln) ln  (by omega)) pd_o rfl rfl ⟨Nat.le_of_ble_eq_true rfl, Nat.le_of_ble_eq_true rfl⟩ (Nat.le_of_ble_eq_true rfl) ⟨Nat.zero_le _, Nat.zero_le _⟩ ?_
  refine zW.to (M' := hoM G M a c t hc sc kp hi sv sg (nI ln) d) ?_ (ho_pI) rfl rfl
  exact r_iret ok dX5_fault_7 rfl ⟨rfl, rfl⟩
set_option maxHeartbeats 4000000 in
set_option maxRecDepth 100000 in
theorem c_X5_undo (l : Launch) (G : zG) (M : zM) (N a : Nat) (c t : zCl) (hc sc : Nat → zCl) (kp : Int32) (hi : Nat → Nat) (sv : Nat → Bool) (sg : Nat → Int32) (pl : Int32) (d : zOd) (kn : Nat)  (hk : kn ≤ 6) (hhi : ∀ i, i < 6 → hi i < 6) (hpi : ∀ i, i < 5 → c.pi i < 5) (hhp : ∀ j, j < 6 → ∀ i, i < 5 → (hc j).pi i < 5) (hhu : ∀ j, j < 6 → (hc j).un ≤ 5) : zC l G yX5_undo cX5_undo 1 (some .int) 5 134 0 0 [.ref a] (hoM G M a c t hc sc (nI kn) hi sv sg pl d) N (zP (some (.int (zE (zDundo kn) (fun _ => nI (kn - 1))))) (hoM G M a (zU (zDundo kn) c (fun _ => zCpy c (hc (hi (kn - 1))))) t hc sc (nI (kn - 1)) hi sv sg pl d)) := by
  refine zC.of (by decide +kernel) (Nat.le_of_ble_eq_true rfl) ?_
  intro K hKl ok
  subst hKl
  show zW K G 1 _ 0 0 _ N 0 [(0, .ref a)] []
  refine r_aload_n ok dX5_undo_0 0 rfl rfl ?_
  refine r_getf ok ci_X5 fl_X5_191 (by decide) dX5_undo_1 ho_o rfl ?_
  refine r_if_leN ok 16 (by omega) dX5_undo_4 (by decide) (fun c4_1 => ?_) (fun c4_1 => ?_)
  · skip
    obtain rfl : kn = 0 := by omega
    refine r_ldc ok ck_X5_73 dX5_undo_16 ?_
    exact r_iret ok dX5_undo_18 rfl ⟨congrArg (fun z => some (Value.int z)) (show -100005 = zE (zDundo 0) (fun _ => nI (0 - 1)) from by simp [zDundo, zE, zU, zOb, zCl_eta, zOd_eta, *]), (by simp [zDundo, zE, zU, zOb, zCl_eta, zOd_eta, *])⟩
  · skip
    have h0 : ¬ kn = 0 := by omega
    have hJ := hhi (kn - 1) (by omega)
    refine r_aload_n ok dX5_undo_7 0 rfl rfl ?_
    refine r_getf ok ci_X5 fl_X5_191 (by decide) dX5_undo_8 ho_o rfl ?_
    refine r_bipush ok (nI 6) dX5_undo_11 (by rfl) ?_
    refine r_icmp_leN ok 19 (by omega) (by omega) dX5_undo_13 (by decide) (fun c13_2 => ?_) (fun c13_2 => ?_)
    · skip
      refine r_aload_n ok dX5_undo_19 0 rfl rfl ?_
      refine r_dup ok dX5_undo_20 rfl ?_
      refine r_getf ok ci_X5 fl_X5_191 (by decide) dX5_undo_21 ho_o rfl ?_
      refine r_iconst ok (nI 1) dX5_undo_24 (by rfl) ?_
      refine r_isubN ok (by omega) dX5_undo_25 ?_
      refine r_putf ok ci_X5 fl_X5_191 (by decide) rfl rfl rfl dX5_undo_26 ho_o rfl (how_o (nI (kn - 1))) ?_
      refine r_aload_n ok dX5_undo_29 0 rfl rfl ?_
      refine r_getf ok ci_X5 fl_X5_10 (by decide) dX5_undo_30 ho_o rfl ?_
      refine r_aload_n ok dX5_undo_33 0 rfl rfl ?_
      refine r_getf ok ci_X5 fl_X5_19 (by decide) dX5_undo_34 ho_o rfl ?_
      refine r_aload_n ok dX5_undo_37 0 rfl rfl ?_
      refine r_getf ok ci_X5 fl_X5_191 (by decide) dX5_undo_38 ho_o rfl ?_
      refine r_aaldN ok 5 (Or.inr (Or.inr rfl)) (a + 144 + 66 * (hi (kn - 1))) (by omega) (by omega) dX5_undo_41 ho_h (hoH_at (by omega)) ?_
      refine zW.to (M' := cbM G (cbM G (hoM G M a c t hc sc (nI (kn - 1)) hi sv sg pl d) (a + 144 + 66 * (hi (kn - 1))) ((hc (hi (kn - 1))).st) ((hc (hi (kn - 1))).dy) ((hc (hi (kn - 1))).x) ((hc (hi (kn - 1))).br) ((hc (hi (kn - 1))).sp) ((hc (hi (kn - 1))).wa) ((hc (hi (kn - 1))).ac) ((hc (hi (kn - 1))).ps) ((hc (hi (kn - 1))).pp) ((hc (hi (kn - 1))).pu) ((hc (hi (kn - 1))).lo) (nI (hc (hi (kn - 1))).un) ((hc (hi (kn - 1))).op) ((hc (hi (kn - 1))).pi) ((hc (hi (kn - 1))).cn) ((hc (hi (kn - 1))).vl) ((hc (hi (kn - 1))).du) ((hc (hi (kn - 1))).io) ((hc (hi (kn - 1))).hp) ((hc (hi (kn - 1))).hs)) (a + 1) c.st c.dy c.x c.br c.sp c.wa c.ac c.ps c.pp c.pu c.lo (nI c.un) c.op c.pi c.cn c.vl c.du c.io c.hp c.hs) ?_ (((congrArg (fun z => cbM G z (a + 1) c.st c.dy c.x c.br c.sp c.wa c.ac c.ps c.pp c.pu c.lo (nI c.un) c.op c.pi c.cn c.vl c.du c.io c.hp c.hs) (ho_hcs (by omega))).trans ho_cI)).symm rfl rfl
      refine r_cV0 ok [] mi_X0_copyFrom ci_X0 ml_X5_227 im_X0_copyFrom se_X0_copyFrom dX5_undo_42 (c_X0_copyFrom K.2.1 G (hoM G M a c t hc sc (nI (kn - 1)) hi sv sg pl d) N (a + 144 + 66 * (hi (kn - 1))) (hc (hi (kn - 1))) (a + 1) c   (hhu _ (by first | assumption | omega)) hpi (hhp _ (by first | assumption | omega)) (by omega)) cb_o rfl rfl ⟨Nat.le_of_ble_eq_true rfl, Nat.le_of_ble_eq_true rfl⟩ (Nat.le_of_ble_eq_true rfl) ⟨Nat.zero_le _, Nat.zero_le _⟩ ?_
      refine zW.to (M' := hoM G M a (zCpy c ((hc (hi (kn - 1))))) t hc sc (nI (kn - 1)) hi sv sg pl d) ?_ (((congrArg (fun z => cbM G z (a + 1) ((zCpy c ((hc (hi (kn - 1))))).st) ((zCpy c ((hc (hi (kn - 1))))).dy) ((zCpy c ((hc (hi (kn - 1))))).x) ((zCpy c ((hc (hi (kn - 1))))).br) ((zCpy c ((hc (hi (kn - 1))))).sp) ((zCpy c ((hc (hi (kn - 1))))).wa) ((zCpy c ((hc (hi (kn - 1))))).ac) ((zCpy c ((hc (hi (kn - 1))))).ps) ((zCpy c ((hc (hi (kn - 1))))).pp) ((zCpy c ((hc (hi (kn - 1))))).pu) ((zCpy c ((hc (hi (kn - 1))))).lo) (nI (zCpy c ((hc (hi (kn - 1))))).un) ((zCpy c ((hc (hi (kn - 1))))).op) ((zCpy c ((hc (hi (kn - 1))))).pi) ((zCpy c ((hc (hi (kn - 1))))).cn) ((zCpy c ((hc (hi (kn - 1))))).vl) ((zCpy c ((hc (hi (kn - 1))))).du) ((zCpy c ((hc (hi (kn - 1))))).io) ((zCpy c ((hc (hi (kn - 1))))).hp) ((zCpy c ((hc (hi (kn - 1))))).hs)) (ho_hcs (by omega))).trans (ho_c (zCpy c ((hc (hi (kn - 1)))))))) rfl rfl
      refine r_aload_n ok dX5_undo_45 0 rfl rfl ?_
      refine r_getf ok ci_X5 fl_X5_191 (by decide) dX5_undo_46 ho_o rfl ?_
      exact r_iret ok dX5_undo_49 rfl ⟨congrArg (fun z => some (Value.int z)) (show nI (kn - 1) = zE (zDundo kn) (fun _ => nI (kn - 1)) from by simp [zDundo, zE, zU, zOb, zCl_eta, zOd_eta, *]), (by simp [zDundo, zE, zU, zOb, zCl_eta, zOd_eta, *])⟩
    · skip
      exact absurd c13_2 (by omega)
set_option maxHeartbeats 4000000 in
set_option maxRecDepth 100000 in
theorem c_X5_save (l : Launch) (G : zG) (M : zM) (N a : Nat) (c t : zCl) (hc sc : Nat → zCl) (kp : Int32) (hi : Nat → Nat) (sv : Nat → Bool) (sg : Nat → Int32) (pl : Int32) (d : zOd)  (w : Int32) (hu : c.un ≤ 5) (hpi : ∀ i, i < 5 → c.pi i < 5) (hsp : ∀ j, j < 2 → ∀ i, i < 5 → (sc j).pi i < 5) : zC l G yX5_save cX5_save 2 (some .int) 5 134 0 0 [.ref a, .int (w)] (hoM G M a c t hc sc kp hi sv sg pl d) N (zP (some (.int (zE (zDsave w) (fun _ => c.dy)))) (hoM G M a c t hc (zU (zDsave w) sc (fun i => va_up sc i (zCpy (sc i) c))) kp hi (zU (zDsave w) sv (fun i => ub sv i true)) sg pl d)) := by
  refine zC.of (by decide +kernel) (Nat.le_of_ble_eq_true rfl) ?_
  intro K hKl ok
  subst hKl
  show zW K G 2 _ 0 0 _ N 0 [(0, .ref a), (1, .int (w))] []
  refine r_iload_n ok dX5_save_0 1 rfl rfl ?_
  refine r_if_lt ok 9 dX5_save_1 (by decide) (fun c1_1 => ?_) (fun c1_1 => ?_)
  · skip
    have n_w := zix_neg' (n := 2) c1_1
    refine r_ldc ok ck_X5_48 dX5_save_9 ?_
    exact r_iret ok dX5_save_11 rfl ⟨congrArg (fun z => some (Value.int z)) (show -100002 = zE (zDsave w) (fun _ => c.dy) from by simp [zDsave, zE, zU, zOb, zCl_eta, zOd_eta, *]), (by simp [zDsave, zE, zU, zOb, zCl_eta, zOd_eta, *])⟩
  · skip
    have l_w := c1_1
    refine r_iload_n ok dX5_save_4 1 rfl rfl ?_
    refine r_iconst ok (nI 2) dX5_save_5 (by rfl) ?_
    refine r_icmp_lt ok 12 dX5_save_6 (by decide) (fun c6_2 => ?_) (fun c6_2 => ?_)
    · skip
      obtain ⟨wi, h_w, e_w, z_w⟩ := zix_in' (n := 2) (by omega) l_w c6_2
      subst e_w
      refine r_aload_n ok dX5_save_12 0 rfl rfl ?_
      refine r_getf ok ci_X5 fl_X5_23 (by decide) dX5_save_13 ho_o rfl ?_
      refine r_iload_n ok dX5_save_16 1 rfl rfl ?_
      refine r_aaldN ok 5 (Or.inr (Or.inr rfl)) (a + 540 + 66 * wi) (by omega) (by omega) dX5_save_17 ho_s (hoS_at (by omega)) ?_
      refine r_aload_n ok dX5_save_18 0 rfl rfl ?_
      refine r_getf ok ci_X5 fl_X5_10 (by decide) dX5_save_19 ho_o rfl ?_
      refine zW.to (M' := cbM G (cbM G (hoM G M a c t hc sc kp hi sv sg pl d) (a + 1) c.st c.dy c.x c.br c.sp c.wa c.ac c.ps c.pp c.pu c.lo (nI c.un) c.op c.pi c.cn c.vl c.du c.io c.hp c.hs) (a + 540 + 66 * wi) ((sc wi).st) ((sc wi).dy) ((sc wi).x) ((sc wi).br) ((sc wi).sp) ((sc wi).wa) ((sc wi).ac) ((sc wi).ps) ((sc wi).pp) ((sc wi).pu) ((sc wi).lo) (nI (sc wi).un) ((sc wi).op) ((sc wi).pi) ((sc wi).cn) ((sc wi).vl) ((sc wi).du) ((sc wi).io) ((sc wi).hp) ((sc wi).hs)) ?_ (((congrArg (fun z => cbM G z (a + 540 + 66 * wi) ((sc wi).st) ((sc wi).dy) ((sc wi).x) ((sc wi).br) ((sc wi).sp) ((sc wi).wa) ((sc wi).ac) ((sc wi).ps) ((sc wi).pp) ((sc wi).pu) ((sc wi).lo) (nI (sc wi).un) ((sc wi).op) ((sc wi).pi) ((sc wi).cn) ((sc wi).vl) ((sc wi).du) ((sc wi).io) ((sc wi).hp) ((sc wi).hs)) ho_cI).trans (ho_scs (by omega)))).symm rfl rfl
      refine r_cV0 ok [] mi_X0_copyFrom ci_X0 ml_X5_227 im_X0_copyFrom se_X0_copyFrom dX5_save_22 (c_X0_copyFrom K.2.1 G (hoM G M a c t hc sc kp hi sv sg pl d) N (a + 1) c (a + 540 + 66 * wi) (sc wi)   (by omega) (hsp _ (by omega)) hpi (by omega)) cb_o rfl rfl ⟨Nat.le_of_ble_eq_true rfl, Nat.le_of_ble_eq_true rfl⟩ (Nat.le_of_ble_eq_true rfl) ⟨Nat.zero_le _, Nat.zero_le _⟩ ?_
      refine zW.to (M' := hoM G M a c t hc (va_up sc wi (zCpy ((sc wi)) c)) kp hi sv sg pl d) ?_ (((congrArg (fun z => cbM G z (a + 540 + 66 * wi) ((zCpy ((sc wi)) c).st) ((zCpy ((sc wi)) c).dy) ((zCpy ((sc wi)) c).x) ((zCpy ((sc wi)) c).br) ((zCpy ((sc wi)) c).sp) ((zCpy ((sc wi)) c).wa) ((zCpy ((sc wi)) c).ac) ((zCpy ((sc wi)) c).ps) ((zCpy ((sc wi)) c).pp) ((zCpy ((sc wi)) c).pu) ((zCpy ((sc wi)) c).lo) (nI (zCpy ((sc wi)) c).un) ((zCpy ((sc wi)) c).op) ((zCpy ((sc wi)) c).pi) ((zCpy ((sc wi)) c).cn) ((zCpy ((sc wi)) c).vl) ((zCpy ((sc wi)) c).du) ((zCpy ((sc wi)) c).io) ((zCpy ((sc wi)) c).hp) ((zCpy ((sc wi)) c).hs)) ho_cI).trans (ho_sc (by omega) (zCpy ((sc wi)) c)))) rfl rfl
      refine r_aload_n ok dX5_save_25 0 rfl rfl ?_
      refine r_getf ok ci_X5 fl_X5_26 (by decide) dX5_save_26 ho_o rfl ?_
      refine r_iload_n ok dX5_save_29 1 rfl rfl ?_
      refine r_iconst ok (nI 1) dX5_save_30 (by rfl) ?_
      refine zW.to (st' := [.int (zb true), .int (nI (wi)), .ref (a + 135)]) ?_ rfl rfl rfl
      refine r_zastN ok (by omega) (by omega) dX5_save_31 ho_v (how_v _) ?_
      refine r_aload_n ok dX5_save_32 0 rfl rfl ?_
      refine r_getf ok ci_X5 fl_X5_10 (by decide) dX5_save_33 ho_o rfl ?_
      refine r_getf ok ci_X0 fl_X5_140 (by decide) dX5_save_36 (ho_rc cb_o) rfl ?_
      exact r_iret ok dX5_save_39 rfl ⟨congrArg (fun z => some (Value.int z)) (show c.dy = zE (zDsave (nI (wi))) (fun _ => c.dy) from by simp [zDsave, zE, zU, zOb, zCl_eta, zOd_eta, *]), (by simp [zDsave, zE, zU, zOb, zCl_eta, zOd_eta, *])⟩
    · skip
      have n_w := zix_ge' (n := 2) (by omega) (Int32.not_lt.mp c6_2)
      refine r_ldc ok ck_X5_48 dX5_save_9 ?_
      exact r_iret ok dX5_save_11 rfl ⟨congrArg (fun z => some (Value.int z)) (show -100002 = zE (zDsave w) (fun _ => c.dy) from by simp [zDsave, zE, zU, zOb, zCl_eta, zOd_eta, *]), (by simp [zDsave, zE, zU, zOb, zCl_eta, zOd_eta, *])⟩
set_option maxHeartbeats 4000000 in
set_option maxRecDepth 100000 in
theorem c_X5_restore (l : Launch) (G : zG) (M : zM) (N a : Nat) (c t : zCl) (hc sc : Nat → zCl) (kp : Int32) (hi : Nat → Nat) (sv : Nat → Bool) (sg : Nat → Int32) (pl : Int32) (d : zOd) (kn : Nat) (w : Int32) (hk : kn ≤ 6) (hhi : ∀ i, i < 6 → hi i < 6) (hu : c.un ≤ 5) (hpi : ∀ i, i < 5 → c.pi i < 5) (hhp : ∀ j, j < 6 → ∀ i, i < 5 → (hc j).pi i < 5) (hsp : ∀ j, j < 2 → ∀ i, i < 5 → (sc j).pi i < 5) (hsu : ∀ j, j < 2 → (sc j).un ≤ 5) : zC l G yX5_restore cX5_restore 2 (some .int) 6 156 0 0 [.ref a, .int (w)] (hoM G M a c t hc sc (nI kn) hi sv sg pl d) N (zP (some (.int (zE (zDrest sv w) (fun i => (sc i).dy)))) (hoM G M a (zU (zDrest sv w) c (fun i => zCpy c (sc i))) t (zU (zDrest sv w) hc (fun _ => zRmC hc hi kn c)) sc (nI (zU (zDrest sv w) kn (fun _ => zRecK kn))) (zU (zDrest sv w) hi (fun _ => zRmI hi kn)) sv sg pl d)) := by
  refine zC.of (by decide +kernel) (Nat.le_of_ble_eq_true rfl) ?_
  intro K hKl ok
  subst hKl
  show zW K G 2 _ 0 0 _ N 0 [(0, .ref a), (1, .int (w))] []
  refine r_iload_n ok dX5_restore_0 1 rfl rfl ?_
  refine r_if_lt ok 9 dX5_restore_1 (by decide) (fun c1_1 => ?_) (fun c1_1 => ?_)
  · skip
    have n_w := zix_neg' (n := 2) c1_1
    refine r_ldc ok ck_X5_48 dX5_restore_9 ?_
    exact r_iret ok dX5_restore_11 rfl ⟨congrArg (fun z => some (Value.int z)) (show -100002 = zE (zDrest sv w) (fun i => (sc i).dy) from by simp [zDrest, zE, zOb, zCpy, zp_dy, *]), (by simp [zDrest, zE, zU, zOb, zCl_eta, zOd_eta, *])⟩
  · skip
    have l_w := c1_1
    refine r_iload_n ok dX5_restore_4 1 rfl rfl ?_
    refine r_iconst ok (nI 2) dX5_restore_5 (by rfl) ?_
    refine r_icmp_lt ok 12 dX5_restore_6 (by decide) (fun c6_2 => ?_) (fun c6_2 => ?_)
    · skip
      obtain ⟨wi, h_w, e_w, z_w⟩ := zix_in' (n := 2) (by omega) l_w c6_2
      subst e_w
      refine r_aload_n ok dX5_restore_12 0 rfl rfl ?_
      refine r_getf ok ci_X5 fl_X5_26 (by decide) dX5_restore_13 ho_o rfl ?_
      refine r_iload_n ok dX5_restore_16 1 rfl rfl ?_
      refine r_zaldN ok (by omega) (by omega) dX5_restore_17 ho_v ?_
      refine r_ifneZ ok 24 dX5_restore_18 (by decide) (fun c18_3 => ?_) (fun c18_3 => ?_)
      · skip
        refine r_aload_n ok dX5_restore_24 0 rfl rfl ?_
        refine r_cV0 ok [] mi_X5_remember ci_X5 ml_X5_52 im_X5_remember se_X5_remember dX5_restore_25 (c_X5_remember K.2.1 G M N a c t hc sc (nI kn) hi sv sg pl d kn  (by omega) hhi (by omega) hpi hhp) ho_o rfl rfl ⟨Nat.le_of_ble_eq_true rfl, Nat.le_of_ble_eq_true rfl⟩ (Nat.le_of_ble_eq_true rfl) ⟨Nat.zero_le _, Nat.zero_le _⟩ ?_
        refine r_aload_n ok dX5_restore_28 0 rfl rfl ?_
        refine r_getf ok ci_X5 fl_X5_10 (by decide) dX5_restore_29 ho_o rfl ?_
        refine r_aload_n ok dX5_restore_32 0 rfl rfl ?_
        refine r_getf ok ci_X5 fl_X5_23 (by decide) dX5_restore_33 ho_o rfl ?_
        refine r_iload_n ok dX5_restore_36 1 rfl rfl ?_
        refine r_aaldN ok 5 (Or.inr (Or.inr rfl)) (a + 540 + 66 * wi) (by omega) (by omega) dX5_restore_37 ho_s (hoS_at (by omega)) ?_
        refine zW.to (M' := cbM G (cbM G (hoM G M a c t (zRmC hc hi kn c) sc (nI (zRecK kn)) (zRmI hi kn) sv sg pl d) (a + 540 + 66 * wi) ((sc wi).st) ((sc wi).dy) ((sc wi).x) ((sc wi).br) ((sc wi).sp) ((sc wi).wa) ((sc wi).ac) ((sc wi).ps) ((sc wi).pp) ((sc wi).pu) ((sc wi).lo) (nI (sc wi).un) ((sc wi).op) ((sc wi).pi) ((sc wi).cn) ((sc wi).vl) ((sc wi).du) ((sc wi).io) ((sc wi).hp) ((sc wi).hs)) (a + 1) c.st c.dy c.x c.br c.sp c.wa c.ac c.ps c.pp c.pu c.lo (nI c.un) c.op c.pi c.cn c.vl c.du c.io c.hp c.hs) ?_ (((congrArg (fun z => cbM G z (a + 1) c.st c.dy c.x c.br c.sp c.wa c.ac c.ps c.pp c.pu c.lo (nI c.un) c.op c.pi c.cn c.vl c.du c.io c.hp c.hs) (ho_scs (by omega))).trans ho_cI)).symm rfl rfl
        refine r_cV0 ok [] mi_X0_copyFrom ci_X0 ml_X5_227 im_X0_copyFrom se_X0_copyFrom dX5_restore_38 (c_X0_copyFrom K.2.1 G (hoM G M a c t (zRmC hc hi kn c) sc (nI (zRecK kn)) (zRmI hi kn) sv sg pl d) N (a + 540 + 66 * wi) (sc wi) (a + 1) c   (hsu _ (by omega)) hpi (hsp _ (by omega)) (by omega)) cb_o rfl rfl ⟨Nat.le_of_ble_eq_true rfl, Nat.le_of_ble_eq_true rfl⟩ (Nat.le_of_ble_eq_true rfl) ⟨Nat.zero_le _, Nat.zero_le _⟩ ?_
        refine zW.to (M' := hoM G M a (zCpy c ((sc wi))) t (zRmC hc hi kn c) sc (nI (zRecK kn)) (zRmI hi kn) sv sg pl d) ?_ (((congrArg (fun z => cbM G z (a + 1) ((zCpy c ((sc wi))).st) ((zCpy c ((sc wi))).dy) ((zCpy c ((sc wi))).x) ((zCpy c ((sc wi))).br) ((zCpy c ((sc wi))).sp) ((zCpy c ((sc wi))).wa) ((zCpy c ((sc wi))).ac) ((zCpy c ((sc wi))).ps) ((zCpy c ((sc wi))).pp) ((zCpy c ((sc wi))).pu) ((zCpy c ((sc wi))).lo) (nI (zCpy c ((sc wi))).un) ((zCpy c ((sc wi))).op) ((zCpy c ((sc wi))).pi) ((zCpy c ((sc wi))).cn) ((zCpy c ((sc wi))).vl) ((zCpy c ((sc wi))).du) ((zCpy c ((sc wi))).io) ((zCpy c ((sc wi))).hp) ((zCpy c ((sc wi))).hs)) (ho_scs (by omega))).trans (ho_c (zCpy c ((sc wi)))))) rfl rfl
        refine r_aload_n ok dX5_restore_41 0 rfl rfl ?_
        refine r_getf ok ci_X5 fl_X5_10 (by decide) dX5_restore_42 ho_o rfl ?_
        refine r_getf ok ci_X0 fl_X5_140 (by decide) dX5_restore_45 (ho_rc cb_o) rfl ?_
        exact r_iret ok dX5_restore_48 rfl ⟨congrArg (fun z => some (Value.int z)) (show (zCpy c ((sc wi))).dy = zE (zDrest sv (nI (wi))) (fun i => (sc i).dy) from by simp [zDrest, zE, zOb, zCpy, zp_dy, *]), (by simp [zDrest, zE, zU, zOb, zCl_eta, zOd_eta, *])⟩
      · skip
        refine r_ldc ok ck_X5_73 dX5_restore_21 ?_
        exact r_iret ok dX5_restore_23 rfl ⟨congrArg (fun z => some (Value.int z)) (show -100005 = zE (zDrest sv (nI (wi))) (fun i => (sc i).dy) from by simp [zDrest, zE, zOb, zCpy, zp_dy, *]), (by simp [zDrest, zE, zU, zOb, zCl_eta, zOd_eta, *])⟩
    · skip
      have n_w := zix_ge' (n := 2) (by omega) (Int32.not_lt.mp c6_2)
      refine r_ldc ok ck_X5_48 dX5_restore_9 ?_
      exact r_iret ok dX5_restore_11 rfl ⟨congrArg (fun z => some (Value.int z)) (show -100002 = zE (zDrest sv w) (fun i => (sc i).dy) from by simp [zDrest, zE, zOb, zCpy, zp_dy, *]), (by simp [zDrest, zE, zU, zOb, zCl_eta, zOd_eta, *])⟩
