set_option maxHeartbeats 4000000 in
set_option maxRecDepth 100000 in
theorem c_X5_share (l : Launch) (G : zG) (M : zM) (N a : Nat) (c t : zCl) (hc sc : Nat → zCl) (kp : Int32) (hi : Nat → Nat) (sv : Nat → Bool) (sg : Nat → Int32) (pl : Int32) (d : zOd)  (mm : Int32) (m : Int32) (hnn : 0 ≤ lsum (zC0 d.pt (zOpt c.wa mm) 6) 6) : zC l G yX5_share cX5_share 3 (some .int) 3 72 0 0 [.ref a, .int (mm), .int (m)] (hoM G M a c t hc sc kp hi sv sg pl d) N (zP (some (.int (zE (zDshare mm m) (zRshC c mm d)))) (hoM G M a c t hc sc kp hi sv sg pl (zU (zDshare mm m) d (fun i => if zHas mm i = true then zShO c mm (zGaO c mm d) else d)))) := by
  refine zC.of (by decide +kernel) (Nat.le_of_ble_eq_true rfl) ?_
  intro K hKl ok
  subst hKl
  show zW K G 3 _ 0 0 _ N 0 [(0, .ref a), (1, .int (mm)), (2, .int (m))] []
  refine r_iload_n ok dX5_share_0 2 rfl rfl ?_
  refine r_cS1 ok [] mi_X5_isMember ml_X5_58 sm_X5_isMember dX5_share_1 (c_X5_isMember K.2.1 G (hoM G M a c t hc sc kp hi sv sg pl d) N  m ) rfl rfl ⟨Nat.le_of_ble_eq_true rfl, Nat.le_of_ble_eq_true rfl⟩ (Nat.le_of_ble_eq_true rfl) ⟨Nat.zero_le _, Nat.zero_le _⟩ ?_
  refine r_ifneZ ok 10 dX5_share_4 (by decide) (fun c4_1 => ?_) (fun c4_1 => ?_)
  · skip
    obtain ⟨mi, z_m⟩ := Option.isSome_iff_exists.mp c4_1
    obtain ⟨h_m, e_m⟩ := zix_some z_m (by omega)
    subst e_m
    refine r_iload_n ok dX5_share_10 1 rfl rfl ?_
    refine r_cS1 ok [] mi_X5_isSet ml_X5_115 sm_X5_isSet dX5_share_11 (c_X5_isSet K.2.1 G (hoM G M a c t hc sc kp hi sv sg pl d) N  mm ) rfl rfl ⟨Nat.le_of_ble_eq_true rfl, Nat.le_of_ble_eq_true rfl⟩ (Nat.le_of_ble_eq_true rfl) ⟨Nat.zero_le _, Nat.zero_le _⟩ ?_
    refine r_ifneZ ok 20 dX5_share_14 (by decide) (fun c14_2 => ?_) (fun c14_2 => ?_)
    · skip
      refine r_iload_n ok dX5_share_20 1 rfl rfl ?_
      refine r_iload_n ok dX5_share_21 2 rfl rfl ?_
      refine r_cS1 ok [] mi_X5_isIn ml_X5_69 sm_X5_isIn dX5_share_22 (c_X5_isIn K.2.1 G (hoM G M a c t hc sc kp hi sv sg pl d) N  mm mi ) rfl rfl ⟨Nat.le_of_ble_eq_true rfl, Nat.le_of_ble_eq_true rfl⟩ (Nat.le_of_ble_eq_true rfl) ⟨Nat.zero_le _, Nat.zero_le _⟩ ?_
      refine r_ifneZ ok 30 dX5_share_25 (by decide) (fun c25_3 => ?_) (fun c25_3 => ?_)
      · skip
        refine r_aload_n ok dX5_share_30 0 rfl rfl ?_
        refine r_getf ok ci_X5 fl_X5_40 (by decide) dX5_share_31 ho_o rfl ?_
        refine r_aload_n ok dX5_share_34 0 rfl rfl ?_
        refine r_getf ok ci_X5 fl_X5_10 (by decide) dX5_share_35 ho_o rfl ?_
        refine r_iload_n ok dX5_share_38 1 rfl rfl ?_
        refine zW.to (M' := odM G (cbM G (hoM G M a c t hc sc kp hi sv sg pl d) (a + 1) c.st c.dy c.x c.br c.sp c.wa c.ac c.ps c.pp c.pu c.lo (nI c.un) c.op c.pi c.cn c.vl c.du c.io c.hp c.hs) (a + 138) d.og d.pr d.pc d.vl d.po d.pt d.sr) ?_ (((congrArg (fun z => odM G z (a + 138) d.og d.pr d.pc d.vl d.po d.pt d.sr) ho_cI).trans ho_dI)).symm rfl rfl
        refine r_cV0 ok [] mi_X1_gather ci_X1 ml_X5_118 im_X1_gather se_X1_gather dX5_share_39 (c_X1_gather K.2.1 G (hoM G M a c t hc sc kp hi sv sg pl d) N (a + 1) c.st c.dy c.x c.br c.sp c.wa c.ac c.ps c.pp c.pu c.lo (nI c.un) c.op c.pi c.cn c.vl c.du c.io c.hp c.hs (a + 138) d.og d.pr d.pc d.vl d.po d.pt d.sr  mm (by omega)) od_o rfl rfl ⟨Nat.le_of_ble_eq_true rfl, Nat.le_of_ble_eq_true rfl⟩ (Nat.le_of_ble_eq_true rfl) ⟨Nat.zero_le _, Nat.zero_le _⟩ ?_
        refine zW.to (M' := hoM G M a c t hc sc kp hi sv sg pl (zOd.mk (zOgF c.wa mm d.og) (zC0 d.pr (zPrT c.st (zOgF c.wa mm d.og)) 8) (lsum (zOgF c.wa mm d.og) 8) (lsum (zOvT c.st (zOgF c.wa mm d.og)) 8) (zOpo c.st (zOgF c.wa mm d.og)) d.pt d.sr)) ?_ (((congrArg (fun z => odM G z (a + 138) (zOgF c.wa mm d.og) (zC0 d.pr (zPrT c.st (zOgF c.wa mm d.og)) 8) (lsum (zOgF c.wa mm d.og) 8) (lsum (zOvT c.st (zOgF c.wa mm d.og)) 8) (zOpo c.st (zOgF c.wa mm d.og)) d.pt d.sr) ho_cI).trans (ho_d (zOd.mk (zOgF c.wa mm d.og) (zC0 d.pr (zPrT c.st (zOgF c.wa mm d.og)) 8) (lsum (zOgF c.wa mm d.og) 8) (lsum (zOvT c.st (zOgF c.wa mm d.og)) 8) (zOpo c.st (zOgF c.wa mm d.og)) d.pt d.sr)))) rfl rfl
        refine zW.to (M' := hoM G M a c t hc sc kp hi sv sg pl (zGaO c mm d)) ?_ rfl rfl rfl
        refine r_aload_n ok dX5_share_42 0 rfl rfl ?_
        refine r_getf ok ci_X5 fl_X5_40 (by decide) dX5_share_43 ho_o rfl ?_
        refine r_aload_n ok dX5_share_46 0 rfl rfl ?_
        refine r_getf ok ci_X5 fl_X5_10 (by decide) dX5_share_47 ho_o rfl ?_
        refine r_iload_n ok dX5_share_50 1 rfl rfl ?_
        refine zW.to (M' := odM G (cbM G (hoM G M a c t hc sc kp hi sv sg pl (zGaO c mm d)) (a + 1) c.st c.dy c.x c.br c.sp c.wa c.ac c.ps c.pp c.pu c.lo (nI c.un) c.op c.pi c.cn c.vl c.du c.io c.hp c.hs) (a + 138) ((zGaO c mm d).og) ((zGaO c mm d).pr) ((zGaO c mm d).pc) ((zGaO c mm d).vl) ((zGaO c mm d).po) ((zGaO c mm d).pt) ((zGaO c mm d).sr)) ?_ (((congrArg (fun z => odM G z (a + 138) ((zGaO c mm d).og) ((zGaO c mm d).pr) ((zGaO c mm d).pc) ((zGaO c mm d).vl) ((zGaO c mm d).po) ((zGaO c mm d).pt) ((zGaO c mm d).sr)) ho_cI).trans ho_dI)).symm rfl rfl
        refine r_cV0 ok [] mi_X1_sharePost ci_X1 ml_X5_202 im_X1_sharePost se_X1_sharePost dX5_share_51 (c_X1_sharePost K.2.1 G (hoM G M a c t hc sc kp hi sv sg pl (zGaO c mm d)) N (a + 1) c.st c.dy c.x c.br c.sp c.wa c.ac c.ps c.pp c.pu c.lo (nI c.un) c.op c.pi c.cn c.vl c.du c.io c.hp c.hs (a + 138) ((zGaO c mm d).og) ((zGaO c mm d).pr) ((zGaO c mm d).pc) ((zGaO c mm d).vl) ((zGaO c mm d).po) ((zGaO c mm d).pt) ((zGaO c mm d).sr)  mm (by omega) hnn) od_o rfl rfl ⟨Nat.le_of_ble_eq_true rfl, Nat.le_of_ble_eq_true rfl⟩ (Nat.le_of_ble_eq_true rfl) ⟨Nat.zero_le _, Nat.zero_le _⟩ ?_
        refine zW.to (M' := hoM G M a c t hc sc kp hi sv sg pl (zOd.mk ((zGaO c mm d).og) ((zGaO c mm d).pr) ((zGaO c mm d).pc) ((zGaO c mm d).vl) ((zGaO c mm d).po) (zC0 ((zGaO c mm d).pt) (zOpt c.wa mm) 6) (zGets ((zGaO c mm d).po) (zC0 ((zGaO c mm d).pt) (zOpt c.wa mm) 6) ((zGaO c mm d).sr)))) ?_ (((congrArg (fun z => odM G z (a + 138) ((zGaO c mm d).og) ((zGaO c mm d).pr) ((zGaO c mm d).pc) ((zGaO c mm d).vl) ((zGaO c mm d).po) (zC0 ((zGaO c mm d).pt) (zOpt c.wa mm) 6) (zGets ((zGaO c mm d).po) (zC0 ((zGaO c mm d).pt) (zOpt c.wa mm) 6) ((zGaO c mm d).sr))) ho_cI).trans (ho_d (zOd.mk ((zGaO c mm d).og) ((zGaO c mm d).pr) ((zGaO c mm d).pc) ((zGaO c mm d).vl) ((zGaO c mm d).po) (zC0 ((zGaO c mm d).pt) (zOpt c.wa mm) 6) (zGets ((zGaO c mm d).po) (zC0 ((zGaO c mm d).pt) (zOpt c.wa mm) 6) ((zGaO c mm d).sr)))))) rfl rfl
        refine zW.to (M' := hoM G M a c t hc sc kp hi sv sg pl (zShO c mm (zGaO c mm d))) ?_ rfl rfl rfl
        refine r_aload_n ok dX5_share_54 0 rfl rfl ?_
        refine r_getf ok ci_X5 fl_X5_40 (by decide) dX5_share_55 ho_o rfl ?_
        refine r_aload_n ok dX5_share_58 0 rfl rfl ?_
        refine r_getf ok ci_X5 fl_X5_10 (by decide) dX5_share_59 ho_o rfl ?_
        refine r_getf ok ci_X0 fl_X5_89 (by decide) dX5_share_62 (ho_rc cb_o) rfl ?_
        refine r_iload_n ok dX5_share_65 2 rfl rfl ?_
        refine r_aaldN ok 3 (Or.inl rfl) (a + 1 + 11 + mi) (by omega) (by omega) dX5_share_66 (ho_rc cb_wa) (zRef6_at (by omega)) ?_
        refine zW.to (M' := odM G (hoM G M a c t hc sc kp hi sv sg pl (zShO c mm (zGaO c mm d))) (a + 138) ((zShO c mm (zGaO c mm d)).og) ((zShO c mm (zGaO c mm d)).pr) ((zShO c mm (zGaO c mm d)).pc) ((zShO c mm (zGaO c mm d)).vl) ((zShO c mm (zGaO c mm d)).po) ((zShO c mm (zGaO c mm d)).pt) ((zShO c mm (zGaO c mm d)).sr)) ?_ (ho_dI).symm rfl rfl
        refine r_cV1 ok [] mi_X1_ownCost ci_X1 ml_X5_205 im_X1_ownCost se_X1_ownCost dX5_share_67 (c_X1_ownCost K.2.1 G (hoM G M a c t hc sc kp hi sv sg pl (zShO c mm (zGaO c mm d))) N (a + 138) ((zShO c mm (zGaO c mm d)).og) ((zShO c mm (zGaO c mm d)).pr) ((zShO c mm (zGaO c mm d)).pc) ((zShO c mm (zGaO c mm d)).vl) ((zShO c mm (zGaO c mm d)).po) ((zShO c mm (zGaO c mm d)).pt) ((zShO c mm (zGaO c mm d)).sr) (c.wa mi) ((a + 1 + 11 + mi)) (ho_rc (cb_war (by omega))) (by omega)) od_o rfl rfl ⟨Nat.le_of_ble_eq_true rfl, Nat.le_of_ble_eq_true rfl⟩ (Nat.le_of_ble_eq_true rfl) ⟨Nat.zero_le _, Nat.zero_le _⟩ ?_
        refine zW.to (M' := hoM G M a c t hc sc kp hi sv sg pl (zShO c mm (zGaO c mm d))) ?_ (ho_dI) rfl rfl
        refine r_aload_n ok dX5_share_70 0 rfl rfl ?_
        refine r_getf ok ci_X5 fl_X5_40 (by decide) dX5_share_71 ho_o rfl ?_
        refine r_getf ok ci_X1 fl_X5_208 (by decide) dX5_share_74 (ho_rd od_o) rfl ?_
        refine r_getf ok ci_X4 fl_X5_212 (by decide) dX5_share_77 (ho_rd od_h) rfl ?_
        refine r_iload_n ok dX5_share_80 2 rfl rfl ?_
        refine r_ialdN ok (by omega) (by omega) dX5_share_81 (ho_rd od_s) ?_
        refine r_iadd ok dX5_share_82 ?_
        exact r_iret ok dX5_share_83 rfl ⟨congrArg (fun z => some (Value.int z)) (show (lsum (zOcT (c.wa mi) ((zShO c mm (zGaO c mm d)).pr)) 8) + (((zShO c mm (zGaO c mm d)).sr) mi) = zE (zDshare mm (nI (mi))) (zRshC c mm d) from by simp [zDshare, zRshC, zShO_pr, zE, zU, zOb, zCl_eta, zOd_eta, *] <;> rfl), (by simp [zDshare, zE, zU, zOb, zCl_eta, zOd_eta, *])⟩
      · skip
        refine r_iconst ok (nI 0) dX5_share_28 (by rfl) ?_
        exact r_iret ok dX5_share_29 rfl ⟨congrArg (fun z => some (Value.int z)) (show nI 0 = zE (zDshare mm (nI (mi))) (zRshC c mm d) from by simp [zDshare, zRshC, zShO_pr, zE, zU, zOb, zCl_eta, zOd_eta, *] <;> rfl), (by simp [zDshare, zE, zU, zOb, zCl_eta, zOd_eta, *])⟩
    · skip
      refine r_ldc ok ck_X5_48 dX5_share_17 ?_
      exact r_iret ok dX5_share_19 rfl ⟨congrArg (fun z => some (Value.int z)) (show -100002 = zE (zDshare mm (nI (mi))) (zRshC c mm d) from by simp [zDshare, zRshC, zShO_pr, zE, zU, zOb, zCl_eta, zOd_eta, *] <;> rfl), (by simp [zDshare, zE, zU, zOb, zCl_eta, zOd_eta, *])⟩
  · skip
    have n_m : zix m 6 = none := Option.not_isSome_iff_eq_none.mp (by rw [c4_1]; decide)
    refine r_ldc ok ck_X5_65 dX5_share_7 ?_
    exact r_iret ok dX5_share_9 rfl ⟨congrArg (fun z => some (Value.int z)) (show -100001 = zE (zDshare mm m) (zRshC c mm d) from by simp [zDshare, zRshC, zShO_pr, zE, zU, zOb, zCl_eta, zOd_eta, *] <;> rfl), (by simp [zDshare, zE, zU, zOb, zCl_eta, zOd_eta, *])⟩
set_option maxHeartbeats 4000000 in
set_option maxRecDepth 100000 in
theorem c_X5_ifMore (l : Launch) (G : zG) (M : zM) (N a : Nat) (c t : zCl) (hc sc : Nat → zCl) (kp : Int32) (hi : Nat → Nat) (sv : Nat → Bool) (sg : Nat → Int32) (pl : Int32) (d : zOd)  (m : Int32) (g : Int32) (v : Int32)  : zC l G yX5_ifMore cX5_ifMore 5 (some .int) 4 88 0 0 [.ref a, .int (m), .int (g), .int (v)] (hoM G M a c t hc sc kp hi sv sg pl d) N (zP (some (.int (zE (zDmore m g v) (fun q => zCoO (zMoO c v q.2 (zGaO c (nI 63) d)) - zCoO (zGaO c (nI 63) d))))) (hoM G M a c t hc sc kp hi sv sg pl (zU (zDmore m g v) d (fun q => zMoO c v q.2 (zGaO c (nI 63) d))))) := by
  refine zC.of (by decide +kernel) (Nat.le_of_ble_eq_true rfl) ?_
  intro K hKl ok
  subst hKl
  show zW K G 5 _ 0 0 _ N 0 [(0, .ref a), (1, .int (m)), (2, .int (g)), (3, .int (v))] []
  refine r_iload_n ok dX5_ifMore_0 1 rfl rfl ?_
  refine r_cS1 ok [] mi_X5_isMember ml_X5_58 sm_X5_isMember dX5_ifMore_1 (c_X5_isMember K.2.1 G (hoM G M a c t hc sc kp hi sv sg pl d) N  m ) rfl rfl ⟨Nat.le_of_ble_eq_true rfl, Nat.le_of_ble_eq_true rfl⟩ (Nat.le_of_ble_eq_true rfl) ⟨Nat.zero_le _, Nat.zero_le _⟩ ?_
  refine r_ifeqZ ok 14 dX5_ifMore_4 (by decide) (fun c4_1 => ?_) (fun c4_1 => ?_)
  · skip
    have n_m : zix m 6 = none := Option.not_isSome_iff_eq_none.mp (by rw [c4_1]; decide)
    refine r_ldc ok ck_X5_65 dX5_ifMore_14 ?_
    exact r_iret ok dX5_ifMore_16 rfl ⟨congrArg (fun z => some (Value.int z)) (show -100001 = zE (zDmore m g v) (fun q => zCoO (zMoO c v q.2 (zGaO c (nI 63) d)) - zCoO (zGaO c (nI 63) d)) from by simp [zDmore, zCoO, zE, zU, zOb, zCl_eta, zOd_eta, *]), (by simp [zDmore, zE, zU, zOb, zCl_eta, zOd_eta, *])⟩
  · skip
    obtain ⟨mi, z_m⟩ := Option.isSome_iff_exists.mp c4_1
    obtain ⟨h_m, e_m⟩ := zix_some z_m (by omega)
    subst e_m
    refine r_iload_n ok dX5_ifMore_7 2 rfl rfl ?_
    refine r_cS1 ok [] mi_X5_isGauge ml_X5_62 sm_X5_isGauge dX5_ifMore_8 (c_X5_isGauge K.2.1 G (hoM G M a c t hc sc kp hi sv sg pl d) N  g ) rfl rfl ⟨Nat.le_of_ble_eq_true rfl, Nat.le_of_ble_eq_true rfl⟩ (Nat.le_of_ble_eq_true rfl) ⟨Nat.zero_le _, Nat.zero_le _⟩ ?_
    refine r_ifneZ ok 17 dX5_ifMore_11 (by decide) (fun c11_2 => ?_) (fun c11_2 => ?_)
    · skip
      obtain ⟨gi, z_g⟩ := Option.isSome_iff_exists.mp c11_2
      obtain ⟨h_g, e_g⟩ := zix_some z_g (by omega)
      subst e_g
      refine r_iload_n ok dX5_ifMore_17 3 rfl rfl ?_
      refine r_iconst ok (nI 1) dX5_ifMore_18 (by rfl) ?_
      refine r_icmp_lt ok 28 dX5_ifMore_19 (by decide) (fun c19_3 => ?_) (fun c19_3 => ?_)
      · skip
        have zb19 : zbe v (nI 1) (nI 20) = false := zbe_lt c19_3
        refine r_ldc ok ck_X5_48 dX5_ifMore_28 ?_
        exact r_iret ok dX5_ifMore_30 rfl ⟨congrArg (fun z => some (Value.int z)) (show -100002 = zE (zDmore (nI (mi)) (nI (gi)) v) (fun q => zCoO (zMoO c v q.2 (zGaO c (nI 63) d)) - zCoO (zGaO c (nI 63) d)) from by simp [zDmore, zCoO, zE, zU, zOb, zCl_eta, zOd_eta, *]), (by simp [zDmore, zE, zU, zOb, zCl_eta, zOd_eta, *])⟩
      · skip
        have lb19 := c19_3
        refine r_iload_n ok dX5_ifMore_22 3 rfl rfl ?_
        refine r_bipush ok (nI 20) dX5_ifMore_23 (by rfl) ?_
        refine r_icmp_le ok 31 dX5_ifMore_25 (by decide) (fun c25_4 => ?_) (fun c25_4 => ?_)
        · skip
          have zb19 : zbe v (nI 1) (nI 20) = true := zbe_ok lb19 (Int32.not_lt.mpr c25_4)
          refine r_aload_n ok dX5_ifMore_31 0 rfl rfl ?_
          refine r_bipush ok (nI 63) dX5_ifMore_32 (by rfl) ?_
          refine r_cV1 ok [] mi_X5_costOf ci_X5 ml_X5_92 im_X5_costOf se_X5_costOf dX5_ifMore_34 (c_X5_costOf K.2.1 G M N a c t hc sc kp hi sv sg pl d  (nI 63) ) ho_o rfl rfl ⟨Nat.le_of_ble_eq_true rfl, Nat.le_of_ble_eq_true rfl⟩ (Nat.le_of_ble_eq_true rfl) ⟨Nat.zero_le _, Nat.zero_le _⟩ ?_
          refine r_istore ok [(4, .int (zCoO (zGaO c (nI 63) d))), (0, .ref a), (1, .int (nI (mi))), (2, .int (nI (gi))), (3, .int (v))] dX5_ifMore_37 (by decide) rfl ?_
          refine r_aload_n ok dX5_ifMore_39 1 rfl rfl ?_
          refine r_getf ok ci_X5 fl_X5_40 (by decide) dX5_ifMore_40 ho_o rfl ?_
          refine r_getf ok ci_X1 fl_X5_217 (by decide) dX5_ifMore_43 (ho_rd od_o) rfl ?_
          refine r_iload_n ok dX5_ifMore_46 3 rfl rfl ?_
          refine r_dup2 ok dX5_ifMore_47 rfl rfl ?_
          refine r_ialdN ok (by omega) (by omega) dX5_ifMore_48 (ho_rd od_g) ?_
          refine r_iload_n ok dX5_ifMore_49 4 rfl rfl ?_
          refine r_iadd ok dX5_ifMore_50 ?_
          refine r_iastN ok (by omega) (by omega) dX5_ifMore_51 (ho_rd od_g) (ho_wd (zOd.mk (upd ((zGaO c (nI 63) d).og) gi ((((zGaO c (nI 63) d).og) gi) + v)) ((zGaO c (nI 63) d).pr) ((zGaO c (nI 63) d).pc) ((zGaO c (nI 63) d).vl) ((zGaO c (nI 63) d).po) ((zGaO c (nI 63) d).pt) ((zGaO c (nI 63) d).sr)) (odw_g _)) ?_
          refine r_aload_n ok dX5_ifMore_52 1 rfl rfl ?_
          refine r_getf ok ci_X5 fl_X5_40 (by decide) dX5_ifMore_53 ho_o rfl ?_
          refine r_aload_n ok dX5_ifMore_56 1 rfl rfl ?_
          refine r_getf ok ci_X5 fl_X5_10 (by decide) dX5_ifMore_57 ho_o rfl ?_
          refine r_getf ok ci_X0 fl_X5_55 (by decide) dX5_ifMore_60 (ho_rc cb_o) rfl ?_
          refine zW.to (M' := odM G (hoM G M a c t hc sc kp hi sv sg pl (zOd.mk (upd ((zGaO c (nI 63) d).og) gi ((((zGaO c (nI 63) d).og) gi) + v)) ((zGaO c (nI 63) d).pr) ((zGaO c (nI 63) d).pc) ((zGaO c (nI 63) d).vl) ((zGaO c (nI 63) d).po) ((zGaO c (nI 63) d).pt) ((zGaO c (nI 63) d).sr))) (a + 138) (upd ((zGaO c (nI 63) d).og) gi ((((zGaO c (nI 63) d).og) gi) + v)) ((zGaO c (nI 63) d).pr) ((zGaO c (nI 63) d).pc) ((zGaO c (nI 63) d).vl) ((zGaO c (nI 63) d).po) ((zGaO c (nI 63) d).pt) ((zGaO c (nI 63) d).sr)) ?_ (ho_dI).symm rfl rfl
          refine r_cV0 ok [] mi_X1_reckon ci_X1 ml_X5_220 im_X1_reckon se_X1_reckon dX5_ifMore_63 (c_X1_reckon K.2.1 G (hoM G M a c t hc sc kp hi sv sg pl (zOd.mk (upd ((zGaO c (nI 63) d).og) gi ((((zGaO c (nI 63) d).og) gi) + v)) ((zGaO c (nI 63) d).pr) ((zGaO c (nI 63) d).pc) ((zGaO c (nI 63) d).vl) ((zGaO c (nI 63) d).po) ((zGaO c (nI 63) d).pt) ((zGaO c (nI 63) d).sr))) N (a + 138) (upd ((zGaO c (nI 63) d).og) gi ((((zGaO c (nI 63) d).og) gi) + v)) ((zGaO c (nI 63) d).pr) ((zGaO c (nI 63) d).pc) ((zGaO c (nI 63) d).vl) ((zGaO c (nI 63) d).po) ((zGaO c (nI 63) d).pt) ((zGaO c (nI 63) d).sr) c.st ((a + 1 + 1)) (ho_rc cb_st) (by omega)) od_o rfl rfl ⟨Nat.le_of_ble_eq_true rfl, Nat.le_of_ble_eq_true rfl⟩ (Nat.le_of_ble_eq_true rfl) ⟨Nat.zero_le _, Nat.zero_le _⟩ ?_
          refine zW.to (M' := hoM G M a c t hc sc kp hi sv sg pl (zOd.mk (upd ((zGaO c (nI 63) d).og) gi ((((zGaO c (nI 63) d).og) gi) + v)) (zC0 ((zGaO c (nI 63) d).pr) (zPrT c.st (upd ((zGaO c (nI 63) d).og) gi ((((zGaO c (nI 63) d).og) gi) + v))) 8) (lsum (upd ((zGaO c (nI 63) d).og) gi ((((zGaO c (nI 63) d).og) gi) + v)) 8) (lsum (zOvT c.st (upd ((zGaO c (nI 63) d).og) gi ((((zGaO c (nI 63) d).og) gi) + v))) 8) (zOpo c.st (upd ((zGaO c (nI 63) d).og) gi ((((zGaO c (nI 63) d).og) gi) + v))) ((zGaO c (nI 63) d).pt) ((zGaO c (nI 63) d).sr))) ?_ ((ho_d (zOd.mk (upd ((zGaO c (nI 63) d).og) gi ((((zGaO c (nI 63) d).og) gi) + v)) (zC0 ((zGaO c (nI 63) d).pr) (zPrT c.st (upd ((zGaO c (nI 63) d).og) gi ((((zGaO c (nI 63) d).og) gi) + v))) 8) (lsum (upd ((zGaO c (nI 63) d).og) gi ((((zGaO c (nI 63) d).og) gi) + v)) 8) (lsum (zOvT c.st (upd ((zGaO c (nI 63) d).og) gi ((((zGaO c (nI 63) d).og) gi) + v))) 8) (zOpo c.st (upd ((zGaO c (nI 63) d).og) gi ((((zGaO c (nI 63) d).og) gi) + v))) ((zGaO c (nI 63) d).pt) ((zGaO c (nI 63) d).sr)))) rfl rfl
          refine zW.to (M' := hoM G M a c t hc sc kp hi sv sg pl (zMoO c v gi (zGaO c (nI 63) d))) ?_ rfl rfl rfl
          refine r_aload_n ok dX5_ifMore_66 1 rfl rfl ?_
          refine r_getf ok ci_X5 fl_X5_40 (by decide) dX5_ifMore_67 ho_o rfl ?_
          refine zW.to (M' := odM G (hoM G M a c t hc sc kp hi sv sg pl (zMoO c v gi (zGaO c (nI 63) d))) (a + 138) ((zMoO c v gi (zGaO c (nI 63) d)).og) ((zMoO c v gi (zGaO c (nI 63) d)).pr) ((zMoO c v gi (zGaO c (nI 63) d)).pc) ((zMoO c v gi (zGaO c (nI 63) d)).vl) ((zMoO c v gi (zGaO c (nI 63) d)).po) ((zMoO c v gi (zGaO c (nI 63) d)).pt) ((zMoO c v gi (zGaO c (nI 63) d)).sr)) ?_ (ho_dI).symm rfl rfl
          refine r_cV1 ok [] mi_X1_cost ci_X1 ml_X5_125 im_X1_cost se_X1_cost dX5_ifMore_70 (c_X1_cost K.2.1 G (hoM G M a c t hc sc kp hi sv sg pl (zMoO c v gi (zGaO c (nI 63) d))) N (a + 138) ((zMoO c v gi (zGaO c (nI 63) d)).og) ((zMoO c v gi (zGaO c (nI 63) d)).pr) ((zMoO c v gi (zGaO c (nI 63) d)).pc) ((zMoO c v gi (zGaO c (nI 63) d)).vl) ((zMoO c v gi (zGaO c (nI 63) d)).po) ((zMoO c v gi (zGaO c (nI 63) d)).pt) ((zMoO c v gi (zGaO c (nI 63) d)).sr)   ) od_o rfl rfl ⟨Nat.le_of_ble_eq_true rfl, Nat.le_of_ble_eq_true rfl⟩ (Nat.le_of_ble_eq_true rfl) ⟨Nat.zero_le _, Nat.zero_le _⟩ ?_
          refine zW.to (M' := hoM G M a c t hc sc kp hi sv sg pl (zMoO c v gi (zGaO c (nI 63) d))) ?_ (ho_dI) rfl rfl
          refine r_iload ok dX5_ifMore_73 0 rfl ?_
          refine r_isub ok dX5_ifMore_75 ?_
          exact r_iret ok dX5_ifMore_76 rfl ⟨congrArg (fun z => some (Value.int z)) (show (((zMoO c v gi (zGaO c (nI 63) d)).vl) + ((zMoO c v gi (zGaO c (nI 63) d)).po)) - (zCoO (zGaO c (nI 63) d)) = zE (zDmore (nI (mi)) (nI (gi)) v) (fun q => zCoO (zMoO c v q.2 (zGaO c (nI 63) d)) - zCoO (zGaO c (nI 63) d)) from by simp [zDmore, zCoO, zE, zU, zOb, zCl_eta, zOd_eta, *]), (by simp [zDmore, zE, zU, zOb, zCl_eta, zOd_eta, *])⟩
        · skip
          have zb19 : zbe v (nI 1) (nI 20) = false := zbe_gt (Int32.not_le.mp c25_4)
          refine r_ldc ok ck_X5_48 dX5_ifMore_28 ?_
          exact r_iret ok dX5_ifMore_30 rfl ⟨congrArg (fun z => some (Value.int z)) (show -100002 = zE (zDmore (nI (mi)) (nI (gi)) v) (fun q => zCoO (zMoO c v q.2 (zGaO c (nI 63) d)) - zCoO (zGaO c (nI 63) d)) from by simp [zDmore, zCoO, zE, zU, zOb, zCl_eta, zOd_eta, *]), (by simp [zDmore, zE, zU, zOb, zCl_eta, zOd_eta, *])⟩
    · skip
      have n_g : zix g 8 = none := Option.not_isSome_iff_eq_none.mp (by rw [c11_2]; decide)
      refine r_ldc ok ck_X5_65 dX5_ifMore_14 ?_
      exact r_iret ok dX5_ifMore_16 rfl ⟨congrArg (fun z => some (Value.int z)) (show -100001 = zE (zDmore (nI (mi)) g v) (fun q => zCoO (zMoO c v q.2 (zGaO c (nI 63) d)) - zCoO (zGaO c (nI 63) d)) from by simp [zDmore, zCoO, zE, zU, zOb, zCl_eta, zOd_eta, *]), (by simp [zDmore, zE, zU, zOb, zCl_eta, zOd_eta, *])⟩
set_option maxHeartbeats 4000000 in
set_option maxRecDepth 100000 in
theorem c_X5_bestParting (l : Launch) (G : zG) (M : zM) (N a : Nat) (c t : zCl) (hc sc : Nat → zCl) (kp : Int32) (hi : Nat → Nat) (sv : Nat → Bool) (sg : Nat → Int32) (pl : Int32) (d : zOd)  (w : Int32)  : zC l G yX5_bestParting cX5_bestParting 6 (some .int) 6 130 0 0 [.ref a, .int (w)] (hoM G M a c t hc sc kp hi sv sg pl d) N (zP (some (.int (zE (zDbp w) (fun i => if i = 0 then nI (zBp c d 31).1 else (zBp c d 31).2.1)))) (hoM G M a c t hc sc kp hi sv sg pl (zU (zDbp w) d (fun _ => (zBp c d 31).2.2)))) := by
  refine zC.of (by decide +kernel) (Nat.le_of_ble_eq_true rfl) ?_
  intro K hKl ok
  subst hKl
  show zW K G 6 _ 0 0 _ N 0 [(0, .ref a), (1, .int (w))] []
  refine r_iload_n ok dX5_bestParting_0 1 rfl rfl ?_
  refine r_if_eq ok 12 dX5_bestParting_1 (by decide) (fun c1_1 => ?_) (fun c1_1 => ?_)
  · skip
    obtain rfl : w = nI 0 := c1_1
    have z_w : zix (nI 0) 2 = some 0 := by decide +kernel
    refine r_iconst ok (nI 0) dX5_bestParting_12 (by rfl) ?_
    refine r_istore_n ok [(2, .int (nI 0)), (0, .ref a), (1, .int (nI 0))] dX5_bestParting_13 rfl (by decide) rfl ?_
    refine r_aload_n ok dX5_bestParting_14 1 rfl rfl ?_
    refine r_iconst ok (nI 0) dX5_bestParting_15 (by rfl) ?_
    refine r_cV1 ok [] mi_X5_pencePartedAt ci_X5 ml_X5_224 im_X5_pencePartedAt se_X5_pencePartedAt dX5_bestParting_16 (c_X5_pencePartedAt K.2.1 G M N a c t hc sc kp hi sv sg pl d  (nI 0) ) ho_o rfl rfl ⟨Nat.le_of_ble_eq_true rfl, Nat.le_of_ble_eq_true rfl⟩ (Nat.le_of_ble_eq_true rfl) ⟨Nat.zero_le _, Nat.zero_le _⟩ ?_
    refine r_istore_n ok [(3, .int (zDuO c (nI 0) d + zDuO c (nI 63 - (nI 0)) (zGaO c (nI 0) d))), (2, .int (nI 0)), (0, .ref a), (1, .int (nI 0))] dX5_bestParting_19 rfl (by decide) rfl ?_
    refine r_iconst ok (nI 1) dX5_bestParting_20 (by rfl) ?_
    refine r_istore ok [(4, .int (nI 1)), (3, .int (zDuO c (nI 0) d + zDuO c (nI 63 - (nI 0)) (zGaO c (nI 0) d))), (2, .int (nI 0)), (0, .ref a), (1, .int (nI 0))] dX5_bestParting_21 (by decide) rfl ?_
    have L2 : ∀ (nL2 : Nat) (k : Nat), ((k + nL2 = 32)) → (1 ≤ k) → zW K G 6 (zQ K G (N + 0) 0 0 (zP (some (.int (zE (zDbp (nI 0)) (fun i => if i = 0 then nI (zBp c d 31).1 else (zBp c d 31).2.1)))) (hoM G M a c t hc sc kp hi sv sg pl (zU (zDbp (nI 0)) d (fun _ => (zBp c d 31).2.2))))) 0 0 (hoM G M a c t hc sc kp hi sv sg pl ((zBp c d (k - 1)).2.2)) N 23 [(0, .ref a), (1, .int (nI 0)), (2, .int (nI ((zBp c d (k - 1)).1))), (3, .int ((zBp c d (k - 1)).2.1)), (4, .int (nI (k)))] [] := by
      intro nL2
      induction nL2 with
      | zero =>
        intro k hk_k h1
        have hb := zBp_le c d (k - 1)
        obtain rfl : 32 = k := by omega
        refine r_iload ok dX5_bestParting_23 4 rfl ?_
        refine r_bipush ok (nI 31) dX5_bestParting_25 (by rfl) ?_
        refine r_icmp_gtN ok 56 (by omega) (by omega) dX5_bestParting_27 (by decide) (fun _ => ?_) (fun c => absurd c (by decide))
        refine r_iload_n ok dX5_bestParting_56 1 rfl rfl ?_
        refine r_if_neN ok 64 (by omega) dX5_bestParting_57 (by decide) (fun c => absurd c (by decide)) (fun _ => ?_)
        refine r_iload_n ok dX5_bestParting_60 2 rfl rfl ?_
        refine r_goto ok 65 dX5_bestParting_61 (by decide) ?_
        exact r_iret ok dX5_bestParting_65 rfl ⟨congrArg (fun z => some (Value.int z)) (show nI ((zBp c d (32 - 1)).1) = zE (zDbp (nI 0)) (fun i => if i = 0 then nI (zBp c d 31).1 else (zBp c d 31).2.1) from by first | (simp [zDbp, zOb, zE, z_w]; done) | (simp [zDbp, zOb, zE, n_w]; done)), (by first | (simp [zDbp, zOb, zU, z_w]; done) | (simp [zDbp, zOb, zU, n_w]; done))⟩
      | succ nL2 ihL2 =>
        intro k hk_k h1
        have hb := zBp_le c d (k - 1)
        refine r_iload ok dX5_bestParting_23 4 rfl ?_
        refine r_bipush ok (nI 31) dX5_bestParting_25 (by rfl) ?_
        refine r_icmp_gtN ok 56 (by omega) (by omega) dX5_bestParting_27 (by decide) (fun c27_5 => ?_) (fun c27_5 => ?_)
        · skip
          exact absurd c27_5 (by omega)
        · skip
          refine r_aload_n ok dX5_bestParting_30 0 rfl rfl ?_
          refine r_iload ok dX5_bestParting_31 4 rfl ?_
          refine r_cV1 ok [] mi_X5_pencePartedAt ci_X5 ml_X5_224 im_X5_pencePartedAt se_X5_pencePartedAt dX5_bestParting_33 (c_X5_pencePartedAt K.2.1 G M N a c t hc sc kp hi sv sg pl ((zBp c d (k - 1)).2.2)  (nI (k)) ) ho_o rfl rfl ⟨Nat.le_of_ble_eq_true rfl, Nat.le_of_ble_eq_true rfl⟩ (Nat.le_of_ble_eq_true rfl) ⟨Nat.zero_le _, Nat.zero_le _⟩ ?_
          refine r_istore ok [(5, .int (zDuO c (nI (k)) (((zBp c d (k - 1)).2.2)) + zDuO c (nI 63 - (nI (k))) (zGaO c (nI (k)) (((zBp c d (k - 1)).2.2))))), (0, .ref a), (1, .int (nI 0)), (2, .int (nI ((zBp c d (k - 1)).1))), (3, .int ((zBp c d (k - 1)).2.1)), (4, .int (nI (k)))] dX5_bestParting_36 (by decide) rfl ?_
          refine r_iload ok dX5_bestParting_38 0 rfl ?_
          refine r_iload_n ok dX5_bestParting_40 4 rfl rfl ?_
          refine r_icmp_ge ok 50 dX5_bestParting_41 (by decide) (fun c41_6 => ?_) (fun c41_6 => ?_)
          · skip
            have e := zBp_ge h1 (Int32.not_lt.mpr c41_6)
            refine r_iincN ok (c := 1) [(4, .int (nI (k + 1))), (5, .int (zDuO c (nI (k)) (((zBp c d (k - 1)).2.2)) + zDuO c (nI 63 - (nI (k))) (zGaO c (nI (k)) (((zBp c d (k - 1)).2.2))))), (0, .ref a), (1, .int (nI 0)), (2, .int (nI ((zBp c d (k - 1)).1))), (3, .int ((zBp c d (k - 1)).2.1))] dX5_bestParting_50 5 rfl (by rfl) (by decide) rfl ?_
            refine r_goto ok 23 dX5_bestParting_53 (by decide) ?_
            have q7 : Value.int (nI ((zBp c d (k - 1)).1)) = Value.int (nI ((zBp c d ((k + 1) - 1)).1)) := by first | with_reducible rfl | (first | (rw [e]; done) | (rw [e]; rfl))
            have q8 : Value.int ((zBp c d (k - 1)).2.1) = Value.int ((zBp c d ((k + 1) - 1)).2.1) := by first | with_reducible rfl | (first | (rw [e]; done) | (rw [e]; rfl))
            have q9 : ((zGaO c (nI 63 - (nI (k))) (zGaO c (nI (k)) (((zBp c d (k - 1)).2.2)))) : zOd) = ((zBp c d ((k + 1) - 1)).2.2) := by first | with_reducible rfl | (first | (rw [e]; done) | (rw [e]; rfl))
            refine zW.forget (lv' := [(0, .ref a), (1, .int (nI 0)), (2, .int (nI ((zBp c d (k - 1)).1))), (3, .int ((zBp c d (k - 1)).2.1)), (4, .int (nI (k + 1)))]) ?_ [2, 3, 4, 5, 0] rfl
            refine zW.to (lv' := [(0, .ref a), (1, .int (nI 0)), (2, .int (nI ((zBp c d ((k + 1) - 1)).1))), (3, .int ((zBp c d (k - 1)).2.1)), (4, .int (nI (k + 1)))]) ?_ rfl (congrArg (fun z => ([(0, .ref a), (1, .int (nI 0)), (2, z), (3, .int ((zBp c d (k - 1)).2.1)), (4, .int (nI (k + 1)))] : List (Nat × Value))) q7) rfl
            refine zW.to (lv' := [(0, .ref a), (1, .int (nI 0)), (2, .int (nI ((zBp c d ((k + 1) - 1)).1))), (3, .int ((zBp c d ((k + 1) - 1)).2.1)), (4, .int (nI (k + 1)))]) ?_ rfl (congrArg (fun z => ([(0, .ref a), (1, .int (nI 0)), (2, .int (nI ((zBp c d ((k + 1) - 1)).1))), (3, z), (4, .int (nI (k + 1)))] : List (Nat × Value))) q8) rfl
            refine zW.to ?_ (congrArg (fun z => hoM G M a c t hc sc kp hi sv sg pl z) q9) rfl rfl
            exact ihL2 (k + 1) (by omega) (by omega)
          · skip
            have e := zBp_lt h1 (Int32.not_le.mp c41_6)
            refine r_iload ok dX5_bestParting_44 0 rfl ?_
            refine r_istore_n ok [(3, .int (zDuO c (nI (k)) (((zBp c d (k - 1)).2.2)) + zDuO c (nI 63 - (nI (k))) (zGaO c (nI (k)) (((zBp c d (k - 1)).2.2))))), (5, .int (zDuO c (nI (k)) (((zBp c d (k - 1)).2.2)) + zDuO c (nI 63 - (nI (k))) (zGaO c (nI (k)) (((zBp c d (k - 1)).2.2))))), (0, .ref a), (1, .int (nI 0)), (2, .int (nI ((zBp c d (k - 1)).1))), (4, .int (nI (k)))] dX5_bestParting_46 rfl (by decide) rfl ?_
            refine r_iload ok dX5_bestParting_47 5 rfl ?_
            refine r_istore_n ok [(2, .int (nI (k))), (3, .int (zDuO c (nI (k)) (((zBp c d (k - 1)).2.2)) + zDuO c (nI 63 - (nI (k))) (zGaO c (nI (k)) (((zBp c d (k - 1)).2.2))))), (5, .int (zDuO c (nI (k)) (((zBp c d (k - 1)).2.2)) + zDuO c (nI 63 - (nI (k))) (zGaO c (nI (k)) (((zBp c d (k - 1)).2.2))))), (0, .ref a), (1, .int (nI 0)), (4, .int (nI (k)))] dX5_bestParting_49 rfl (by decide) rfl ?_
            refine r_iincN ok (c := 1) [(4, .int (nI (k + 1))), (2, .int (nI (k))), (3, .int (zDuO c (nI (k)) (((zBp c d (k - 1)).2.2)) + zDuO c (nI 63 - (nI (k))) (zGaO c (nI (k)) (((zBp c d (k - 1)).2.2))))), (5, .int (zDuO c (nI (k)) (((zBp c d (k - 1)).2.2)) + zDuO c (nI 63 - (nI (k))) (zGaO c (nI (k)) (((zBp c d (k - 1)).2.2))))), (0, .ref a), (1, .int (nI 0))] dX5_bestParting_50 5 rfl (by rfl) (by decide) rfl ?_
            refine r_goto ok 23 dX5_bestParting_53 (by decide) ?_
            have q10 : Value.int (nI (k)) = Value.int (nI ((zBp c d ((k + 1) - 1)).1)) := by first | with_reducible rfl | (first | (rw [e]; done) | (rw [e]; rfl))
            have q11 : Value.int (zDuO c (nI (k)) (((zBp c d (k - 1)).2.2)) + zDuO c (nI 63 - (nI (k))) (zGaO c (nI (k)) (((zBp c d (k - 1)).2.2)))) = Value.int ((zBp c d ((k + 1) - 1)).2.1) := by first | with_reducible rfl | (first | (rw [e]; done) | (rw [e]; rfl))
            have q12 : ((zGaO c (nI 63 - (nI (k))) (zGaO c (nI (k)) (((zBp c d (k - 1)).2.2)))) : zOd) = ((zBp c d ((k + 1) - 1)).2.2) := by first | with_reducible rfl | (first | (rw [e]; done) | (rw [e]; rfl))
            refine zW.forget (lv' := [(0, .ref a), (1, .int (nI 0)), (2, .int (nI (k))), (3, .int (zDuO c (nI (k)) (((zBp c d (k - 1)).2.2)) + zDuO c (nI 63 - (nI (k))) (zGaO c (nI (k)) (((zBp c d (k - 1)).2.2))))), (4, .int (nI (k + 1)))]) ?_ [4, 5, 1, 2, 0] rfl
            refine zW.to (lv' := [(0, .ref a), (1, .int (nI 0)), (2, .int (nI ((zBp c d ((k + 1) - 1)).1))), (3, .int (zDuO c (nI (k)) (((zBp c d (k - 1)).2.2)) + zDuO c (nI 63 - (nI (k))) (zGaO c (nI (k)) (((zBp c d (k - 1)).2.2))))), (4, .int (nI (k + 1)))]) ?_ rfl (congrArg (fun z => ([(0, .ref a), (1, .int (nI 0)), (2, z), (3, .int (zDuO c (nI (k)) (((zBp c d (k - 1)).2.2)) + zDuO c (nI 63 - (nI (k))) (zGaO c (nI (k)) (((zBp c d (k - 1)).2.2))))), (4, .int (nI (k + 1)))] : List (Nat × Value))) q10) rfl
            refine zW.to (lv' := [(0, .ref a), (1, .int (nI 0)), (2, .int (nI ((zBp c d ((k + 1) - 1)).1))), (3, .int ((zBp c d ((k + 1) - 1)).2.1)), (4, .int (nI (k + 1)))]) ?_ rfl (congrArg (fun z => ([(0, .ref a), (1, .int (nI 0)), (2, .int (nI ((zBp c d ((k + 1) - 1)).1))), (3, z), (4, .int (nI (k + 1)))] : List (Nat × Value))) q11) rfl
            refine zW.to ?_ (congrArg (fun z => hoM G M a c t hc sc kp hi sv sg pl z) q12) rfl rfl
            exact ihL2 (k + 1) (by omega) (by omega)
    have q13 : Value.int (nI 0) = Value.int (nI ((zBp c d (1 - 1)).1)) := by first | with_reducible rfl | (rfl)
    have q14 : Value.int (zDuO c (nI 0) d + zDuO c (nI 63 - (nI 0)) (zGaO c (nI 0) d)) = Value.int ((zBp c d (1 - 1)).2.1) := by first | with_reducible rfl | (rfl)
    have q15 : ((zGaO c (nI 63 - (nI 0)) (zGaO c (nI 0) d)) : zOd) = ((zBp c d (1 - 1)).2.2) := by first | with_reducible rfl | (rfl)
    refine zW.forget (lv' := [(0, .ref a), (1, .int (nI 0)), (2, .int (nI 0)), (3, .int (zDuO c (nI 0) d + zDuO c (nI 63 - (nI 0)) (zGaO c (nI 0) d))), (4, .int (nI 1))]) ?_ [3, 4, 2, 1, 0] rfl
    refine zW.to (lv' := [(0, .ref a), (1, .int (nI 0)), (2, .int (nI ((zBp c d (1 - 1)).1))), (3, .int (zDuO c (nI 0) d + zDuO c (nI 63 - (nI 0)) (zGaO c (nI 0) d))), (4, .int (nI 1))]) ?_ rfl (congrArg (fun z => ([(0, .ref a), (1, .int (nI 0)), (2, z), (3, .int (zDuO c (nI 0) d + zDuO c (nI 63 - (nI 0)) (zGaO c (nI 0) d))), (4, .int (nI 1))] : List (Nat × Value))) q13) rfl
    refine zW.to (lv' := [(0, .ref a), (1, .int (nI 0)), (2, .int (nI ((zBp c d (1 - 1)).1))), (3, .int ((zBp c d (1 - 1)).2.1)), (4, .int (nI 1))]) ?_ rfl (congrArg (fun z => ([(0, .ref a), (1, .int (nI 0)), (2, .int (nI ((zBp c d (1 - 1)).1))), (3, z), (4, .int (nI 1))] : List (Nat × Value))) q14) rfl
    refine zW.to ?_ (congrArg (fun z => hoM G M a c t hc sc kp hi sv sg pl z) q15) rfl rfl
    exact L2 (32 - 1) 1 (by omega) (by omega)
  · skip
    have c1_X := c1_1
    refine r_iload_n ok dX5_bestParting_4 1 rfl rfl ?_
    refine r_iconst ok (nI 1) dX5_bestParting_5 (by rfl) ?_
    refine r_icmp_eq ok 12 dX5_bestParting_6 (by decide) (fun c6_16 => ?_) (fun c6_16 => ?_)
    · skip
      obtain rfl : w = nI 1 := c6_16
      have z_w : zix (nI 1) 2 = some 1 := by decide +kernel
      refine r_iconst ok (nI 0) dX5_bestParting_12 (by rfl) ?_
      refine r_istore_n ok [(2, .int (nI 0)), (0, .ref a), (1, .int (nI 1))] dX5_bestParting_13 rfl (by decide) rfl ?_
      refine r_aload_n ok dX5_bestParting_14 1 rfl rfl ?_
      refine r_iconst ok (nI 0) dX5_bestParting_15 (by rfl) ?_
      refine r_cV1 ok [] mi_X5_pencePartedAt ci_X5 ml_X5_224 im_X5_pencePartedAt se_X5_pencePartedAt dX5_bestParting_16 (c_X5_pencePartedAt K.2.1 G M N a c t hc sc kp hi sv sg pl d  (nI 0) ) ho_o rfl rfl ⟨Nat.le_of_ble_eq_true rfl, Nat.le_of_ble_eq_true rfl⟩ (Nat.le_of_ble_eq_true rfl) ⟨Nat.zero_le _, Nat.zero_le _⟩ ?_
      refine r_istore_n ok [(3, .int (zDuO c (nI 0) d + zDuO c (nI 63 - (nI 0)) (zGaO c (nI 0) d))), (2, .int (nI 0)), (0, .ref a), (1, .int (nI 1))] dX5_bestParting_19 rfl (by decide) rfl ?_
      refine r_iconst ok (nI 1) dX5_bestParting_20 (by rfl) ?_
      refine r_istore ok [(4, .int (nI 1)), (3, .int (zDuO c (nI 0) d + zDuO c (nI 63 - (nI 0)) (zGaO c (nI 0) d))), (2, .int (nI 0)), (0, .ref a), (1, .int (nI 1))] dX5_bestParting_21 (by decide) rfl ?_
      have L17 : ∀ (nL17 : Nat) (k : Nat), ((k + nL17 = 32)) → (1 ≤ k) → zW K G 6 (zQ K G (N + 0) 0 0 (zP (some (.int (zE (zDbp (nI 1)) (fun i => if i = 0 then nI (zBp c d 31).1 else (zBp c d 31).2.1)))) (hoM G M a c t hc sc kp hi sv sg pl (zU (zDbp (nI 1)) d (fun _ => (zBp c d 31).2.2))))) 0 0 (hoM G M a c t hc sc kp hi sv sg pl ((zBp c d (k - 1)).2.2)) N 23 [(0, .ref a), (1, .int (nI 1)), (2, .int (nI ((zBp c d (k - 1)).1))), (3, .int ((zBp c d (k - 1)).2.1)), (4, .int (nI (k)))] [] := by
        intro nL17
        induction nL17 with
        | zero =>
          intro k hk_k h1
          have hb := zBp_le c d (k - 1)
          obtain rfl : 32 = k := by omega
          refine r_iload ok dX5_bestParting_23 4 rfl ?_
          refine r_bipush ok (nI 31) dX5_bestParting_25 (by rfl) ?_
          refine r_icmp_gtN ok 56 (by omega) (by omega) dX5_bestParting_27 (by decide) (fun _ => ?_) (fun c => absurd c (by decide))
          refine r_iload_n ok dX5_bestParting_56 1 rfl rfl ?_
          refine r_if_neN ok 64 (by omega) dX5_bestParting_57 (by decide) (fun _ => ?_) (fun c => absurd c (by decide))
          refine r_iload_n ok dX5_bestParting_64 3 rfl rfl ?_
          exact r_iret ok dX5_bestParting_65 rfl ⟨congrArg (fun z => some (Value.int z)) (show (zBp c d (32 - 1)).2.1 = zE (zDbp (nI 1)) (fun i => if i = 0 then nI (zBp c d 31).1 else (zBp c d 31).2.1) from by first | (simp [zDbp, zOb, zE, z_w]; done) | (simp [zDbp, zOb, zE, n_w]; done)), (by first | (simp [zDbp, zOb, zU, z_w]; done) | (simp [zDbp, zOb, zU, n_w]; done))⟩
        | succ nL17 ihL17 =>
          intro k hk_k h1
          have hb := zBp_le c d (k - 1)
          refine r_iload ok dX5_bestParting_23 4 rfl ?_
          refine r_bipush ok (nI 31) dX5_bestParting_25 (by rfl) ?_
          refine r_icmp_gtN ok 56 (by omega) (by omega) dX5_bestParting_27 (by decide) (fun c27_20 => ?_) (fun c27_20 => ?_)
          · skip
            exact absurd c27_20 (by omega)
          · skip
            refine r_aload_n ok dX5_bestParting_30 0 rfl rfl ?_
            refine r_iload ok dX5_bestParting_31 4 rfl ?_
            refine r_cV1 ok [] mi_X5_pencePartedAt ci_X5 ml_X5_224 im_X5_pencePartedAt se_X5_pencePartedAt dX5_bestParting_33 (c_X5_pencePartedAt K.2.1 G M N a c t hc sc kp hi sv sg pl ((zBp c d (k - 1)).2.2)  (nI (k)) ) ho_o rfl rfl ⟨Nat.le_of_ble_eq_true rfl, Nat.le_of_ble_eq_true rfl⟩ (Nat.le_of_ble_eq_true rfl) ⟨Nat.zero_le _, Nat.zero_le _⟩ ?_
            refine r_istore ok [(5, .int (zDuO c (nI (k)) (((zBp c d (k - 1)).2.2)) + zDuO c (nI 63 - (nI (k))) (zGaO c (nI (k)) (((zBp c d (k - 1)).2.2))))), (0, .ref a), (1, .int (nI 1)), (2, .int (nI ((zBp c d (k - 1)).1))), (3, .int ((zBp c d (k - 1)).2.1)), (4, .int (nI (k)))] dX5_bestParting_36 (by decide) rfl ?_
            refine r_iload ok dX5_bestParting_38 0 rfl ?_
            refine r_iload_n ok dX5_bestParting_40 4 rfl rfl ?_
            refine r_icmp_ge ok 50 dX5_bestParting_41 (by decide) (fun c41_21 => ?_) (fun c41_21 => ?_)
            · skip
              have e := zBp_ge h1 (Int32.not_lt.mpr c41_21)
              refine r_iincN ok (c := 1) [(4, .int (nI (k + 1))), (5, .int (zDuO c (nI (k)) (((zBp c d (k - 1)).2.2)) + zDuO c (nI 63 - (nI (k))) (zGaO c (nI (k)) (((zBp c d (k - 1)).2.2))))), (0, .ref a), (1, .int (nI 1)), (2, .int (nI ((zBp c d (k - 1)).1))), (3, .int ((zBp c d (k - 1)).2.1))] dX5_bestParting_50 5 rfl (by rfl) (by decide) rfl ?_
              refine r_goto ok 23 dX5_bestParting_53 (by decide) ?_
              have q22 : Value.int (nI ((zBp c d (k - 1)).1)) = Value.int (nI ((zBp c d ((k + 1) - 1)).1)) := by first | with_reducible rfl | (first | (rw [e]; done) | (rw [e]; rfl))
              have q23 : Value.int ((zBp c d (k - 1)).2.1) = Value.int ((zBp c d ((k + 1) - 1)).2.1) := by first | with_reducible rfl | (first | (rw [e]; done) | (rw [e]; rfl))
              have q24 : ((zGaO c (nI 63 - (nI (k))) (zGaO c (nI (k)) (((zBp c d (k - 1)).2.2)))) : zOd) = ((zBp c d ((k + 1) - 1)).2.2) := by first | with_reducible rfl | (first | (rw [e]; done) | (rw [e]; rfl))
              refine zW.forget (lv' := [(0, .ref a), (1, .int (nI 1)), (2, .int (nI ((zBp c d (k - 1)).1))), (3, .int ((zBp c d (k - 1)).2.1)), (4, .int (nI (k + 1)))]) ?_ [2, 3, 4, 5, 0] rfl
              refine zW.to (lv' := [(0, .ref a), (1, .int (nI 1)), (2, .int (nI ((zBp c d ((k + 1) - 1)).1))), (3, .int ((zBp c d (k - 1)).2.1)), (4, .int (nI (k + 1)))]) ?_ rfl (congrArg (fun z => ([(0, .ref a), (1, .int (nI 1)), (2, z), (3, .int ((zBp c d (k - 1)).2.1)), (4, .int (nI (k + 1)))] : List (Nat × Value))) q22) rfl
              refine zW.to (lv' := [(0, .ref a), (1, .int (nI 1)), (2, .int (nI ((zBp c d ((k + 1) - 1)).1))), (3, .int ((zBp c d ((k + 1) - 1)).2.1)), (4, .int (nI (k + 1)))]) ?_ rfl (congrArg (fun z => ([(0, .ref a), (1, .int (nI 1)), (2, .int (nI ((zBp c d ((k + 1) - 1)).1))), (3, z), (4, .int (nI (k + 1)))] : List (Nat × Value))) q23) rfl
              refine zW.to ?_ (congrArg (fun z => hoM G M a c t hc sc kp hi sv sg pl z) q24) rfl rfl
              exact ihL17 (k + 1) (by omega) (by omega)
            · skip
              have e := zBp_lt h1 (Int32.not_le.mp c41_21)
              refine r_iload ok dX5_bestParting_44 0 rfl ?_
              refine r_istore_n ok [(3, .int (zDuO c (nI (k)) (((zBp c d (k - 1)).2.2)) + zDuO c (nI 63 - (nI (k))) (zGaO c (nI (k)) (((zBp c d (k - 1)).2.2))))), (5, .int (zDuO c (nI (k)) (((zBp c d (k - 1)).2.2)) + zDuO c (nI 63 - (nI (k))) (zGaO c (nI (k)) (((zBp c d (k - 1)).2.2))))), (0, .ref a), (1, .int (nI 1)), (2, .int (nI ((zBp c d (k - 1)).1))), (4, .int (nI (k)))] dX5_bestParting_46 rfl (by decide) rfl ?_
              refine r_iload ok dX5_bestParting_47 5 rfl ?_
              refine r_istore_n ok [(2, .int (nI (k))), (3, .int (zDuO c (nI (k)) (((zBp c d (k - 1)).2.2)) + zDuO c (nI 63 - (nI (k))) (zGaO c (nI (k)) (((zBp c d (k - 1)).2.2))))), (5, .int (zDuO c (nI (k)) (((zBp c d (k - 1)).2.2)) + zDuO c (nI 63 - (nI (k))) (zGaO c (nI (k)) (((zBp c d (k - 1)).2.2))))), (0, .ref a), (1, .int (nI 1)), (4, .int (nI (k)))] dX5_bestParting_49 rfl (by decide) rfl ?_
              refine r_iincN ok (c := 1) [(4, .int (nI (k + 1))), (2, .int (nI (k))), (3, .int (zDuO c (nI (k)) (((zBp c d (k - 1)).2.2)) + zDuO c (nI 63 - (nI (k))) (zGaO c (nI (k)) (((zBp c d (k - 1)).2.2))))), (5, .int (zDuO c (nI (k)) (((zBp c d (k - 1)).2.2)) + zDuO c (nI 63 - (nI (k))) (zGaO c (nI (k)) (((zBp c d (k - 1)).2.2))))), (0, .ref a), (1, .int (nI 1))] dX5_bestParting_50 5 rfl (by rfl) (by decide) rfl ?_
              refine r_goto ok 23 dX5_bestParting_53 (by decide) ?_
              have q25 : Value.int (nI (k)) = Value.int (nI ((zBp c d ((k + 1) - 1)).1)) := by first | with_reducible rfl | (first | (rw [e]; done) | (rw [e]; rfl))
              have q26 : Value.int (zDuO c (nI (k)) (((zBp c d (k - 1)).2.2)) + zDuO c (nI 63 - (nI (k))) (zGaO c (nI (k)) (((zBp c d (k - 1)).2.2)))) = Value.int ((zBp c d ((k + 1) - 1)).2.1) := by first | with_reducible rfl | (first | (rw [e]; done) | (rw [e]; rfl))
              have q27 : ((zGaO c (nI 63 - (nI (k))) (zGaO c (nI (k)) (((zBp c d (k - 1)).2.2)))) : zOd) = ((zBp c d ((k + 1) - 1)).2.2) := by first | with_reducible rfl | (first | (rw [e]; done) | (rw [e]; rfl))
              refine zW.forget (lv' := [(0, .ref a), (1, .int (nI 1)), (2, .int (nI (k))), (3, .int (zDuO c (nI (k)) (((zBp c d (k - 1)).2.2)) + zDuO c (nI 63 - (nI (k))) (zGaO c (nI (k)) (((zBp c d (k - 1)).2.2))))), (4, .int (nI (k + 1)))]) ?_ [4, 5, 1, 2, 0] rfl
              refine zW.to (lv' := [(0, .ref a), (1, .int (nI 1)), (2, .int (nI ((zBp c d ((k + 1) - 1)).1))), (3, .int (zDuO c (nI (k)) (((zBp c d (k - 1)).2.2)) + zDuO c (nI 63 - (nI (k))) (zGaO c (nI (k)) (((zBp c d (k - 1)).2.2))))), (4, .int (nI (k + 1)))]) ?_ rfl (congrArg (fun z => ([(0, .ref a), (1, .int (nI 1)), (2, z), (3, .int (zDuO c (nI (k)) (((zBp c d (k - 1)).2.2)) + zDuO c (nI 63 - (nI (k))) (zGaO c (nI (k)) (((zBp c d (k - 1)).2.2))))), (4, .int (nI (k + 1)))] : List (Nat × Value))) q25) rfl
              refine zW.to (lv' := [(0, .ref a), (1, .int (nI 1)), (2, .int (nI ((zBp c d ((k + 1) - 1)).1))), (3, .int ((zBp c d ((k + 1) - 1)).2.1)), (4, .int (nI (k + 1)))]) ?_ rfl (congrArg (fun z => ([(0, .ref a), (1, .int (nI 1)), (2, .int (nI ((zBp c d ((k + 1) - 1)).1))), (3, z), (4, .int (nI (k + 1)))] : List (Nat × Value))) q26) rfl
              refine zW.to ?_ (congrArg (fun z => hoM G M a c t hc sc kp hi sv sg pl z) q27) rfl rfl
              exact ihL17 (k + 1) (by omega) (by omega)
      have q28 : Value.int (nI 0) = Value.int (nI ((zBp c d (1 - 1)).1)) := by first | with_reducible rfl | (rfl)
      have q29 : Value.int (zDuO c (nI 0) d + zDuO c (nI 63 - (nI 0)) (zGaO c (nI 0) d)) = Value.int ((zBp c d (1 - 1)).2.1) := by first | with_reducible rfl | (rfl)
      have q30 : ((zGaO c (nI 63 - (nI 0)) (zGaO c (nI 0) d)) : zOd) = ((zBp c d (1 - 1)).2.2) := by first | with_reducible rfl | (rfl)
      refine zW.forget (lv' := [(0, .ref a), (1, .int (nI 1)), (2, .int (nI 0)), (3, .int (zDuO c (nI 0) d + zDuO c (nI 63 - (nI 0)) (zGaO c (nI 0) d))), (4, .int (nI 1))]) ?_ [3, 4, 2, 1, 0] rfl
      refine zW.to (lv' := [(0, .ref a), (1, .int (nI 1)), (2, .int (nI ((zBp c d (1 - 1)).1))), (3, .int (zDuO c (nI 0) d + zDuO c (nI 63 - (nI 0)) (zGaO c (nI 0) d))), (4, .int (nI 1))]) ?_ rfl (congrArg (fun z => ([(0, .ref a), (1, .int (nI 1)), (2, z), (3, .int (zDuO c (nI 0) d + zDuO c (nI 63 - (nI 0)) (zGaO c (nI 0) d))), (4, .int (nI 1))] : List (Nat × Value))) q28) rfl
      refine zW.to (lv' := [(0, .ref a), (1, .int (nI 1)), (2, .int (nI ((zBp c d (1 - 1)).1))), (3, .int ((zBp c d (1 - 1)).2.1)), (4, .int (nI 1))]) ?_ rfl (congrArg (fun z => ([(0, .ref a), (1, .int (nI 1)), (2, .int (nI ((zBp c d (1 - 1)).1))), (3, z), (4, .int (nI 1))] : List (Nat × Value))) q29) rfl
      refine zW.to ?_ (congrArg (fun z => hoM G M a c t hc sc kp hi sv sg pl z) q30) rfl rfl
      exact L17 (32 - 1) 1 (by omega) (by omega)
    · skip
      have n_w := zix_n2 c1_X c6_16
      refine r_ldc ok ck_X5_48 dX5_bestParting_9 ?_
      exact r_iret ok dX5_bestParting_11 rfl ⟨congrArg (fun z => some (Value.int z)) (show -100002 = zE (zDbp w) (fun i => if i = 0 then nI (zBp c d 31).1 else (zBp c d 31).2.1) from by first | (simp [zDbp, zOb, zE, z_w]; done) | (simp [zDbp, zOb, zE, n_w]; done)), (by first | (simp [zDbp, zOb, zU, z_w]; done) | (simp [zDbp, zOb, zU, n_w]; done))⟩
set_option maxHeartbeats 4000000 in
set_option maxRecDepth 100000 in
theorem c_X5_standIn (l : Launch) (G : zG) (M : zM) (N a : Nat) (c t : zCl) (hc sc : Nat → zCl) (kp : Int32) (hi : Nat → Nat) (sv : Nat → Bool) (sg : Nat → Int32) (pl : Int32) (d : zOd)  (m : Int32) (g : Int32)  : zC l G yX5_standIn cX5_standIn 4 (some .int) 1 21 0 0 [.ref a, .int (m), .int (g)] (hoM G M a c t hc sc kp hi sv sg pl d) N (zP (some (.int (zE (zDstr m g) (zRstC c)))) (hoM G M a c t hc sc kp hi sv sg pl d)) := by
  refine zC.of (by decide +kernel) (Nat.le_of_ble_eq_true rfl) ?_
  intro K hKl ok
  subst hKl
  show zW K G 4 _ 0 0 _ N 0 [(0, .ref a), (1, .int (m)), (2, .int (g))] []
  refine r_iload_n ok dX5_standIn_0 1 rfl rfl ?_
  refine r_cS1 ok [] mi_X5_isMember ml_X5_58 sm_X5_isMember dX5_standIn_1 (c_X5_isMember K.2.1 G (hoM G M a c t hc sc kp hi sv sg pl d) N  m ) rfl rfl ⟨Nat.le_of_ble_eq_true rfl, Nat.le_of_ble_eq_true rfl⟩ (Nat.le_of_ble_eq_true rfl) ⟨Nat.zero_le _, Nat.zero_le _⟩ ?_
  refine r_ifeqZ ok 14 dX5_standIn_4 (by decide) (fun c4_1 => ?_) (fun c4_1 => ?_)
  · skip
    have n_m : zix m 6 = none := Option.not_isSome_iff_eq_none.mp (by rw [c4_1]; decide)
    refine r_ldc ok ck_X5_65 dX5_standIn_14 ?_
    exact r_iret ok dX5_standIn_16 rfl ⟨congrArg (fun z => some (Value.int z)) (show -100001 = zE (zDstr m g) (zRstC c) from by simp [zDstr, zRstC, zE, zU, zOb, zCl_eta, zOd_eta, *]), rfl⟩
  · skip
    obtain ⟨mi, z_m⟩ := Option.isSome_iff_exists.mp c4_1
    obtain ⟨h_m, e_m⟩ := zix_some z_m (by omega)
    subst e_m
    refine r_iload_n ok dX5_standIn_7 2 rfl rfl ?_
    refine r_cS1 ok [] mi_X5_isGauge ml_X5_62 sm_X5_isGauge dX5_standIn_8 (c_X5_isGauge K.2.1 G (hoM G M a c t hc sc kp hi sv sg pl d) N  g ) rfl rfl ⟨Nat.le_of_ble_eq_true rfl, Nat.le_of_ble_eq_true rfl⟩ (Nat.le_of_ble_eq_true rfl) ⟨Nat.zero_le _, Nat.zero_le _⟩ ?_
    refine r_ifneZ ok 17 dX5_standIn_11 (by decide) (fun c11_2 => ?_) (fun c11_2 => ?_)
    · skip
      obtain ⟨gi, z_g⟩ := Option.isSome_iff_exists.mp c11_2
      obtain ⟨h_g, e_g⟩ := zix_some z_g (by omega)
      subst e_g
      refine r_aload_n ok dX5_standIn_17 0 rfl rfl ?_
      refine r_getf ok ci_X5 fl_X5_10 (by decide) dX5_standIn_18 ho_o rfl ?_
      refine r_getf ok ci_X0 fl_X5_66 (by decide) dX5_standIn_21 (ho_rc cb_o) rfl ?_
      refine r_iload_n ok dX5_standIn_24 1 rfl rfl ?_
      refine r_ialdN ok (by omega) (by omega) dX5_standIn_25 (ho_rc cb_br) ?_
      refine r_iload_n ok dX5_standIn_26 2 rfl rfl ?_
      refine r_cS1 ok [] mi_X5_isIn ml_X5_69 sm_X5_isIn dX5_standIn_27 (c_X5_isIn K.2.1 G (hoM G M a c t hc sc kp hi sv sg pl d) N  (c.br mi) gi ) rfl rfl ⟨Nat.le_of_ble_eq_true rfl, Nat.le_of_ble_eq_true rfl⟩ (Nat.le_of_ble_eq_true rfl) ⟨Nat.zero_le _, Nat.zero_le _⟩ ?_
      refine r_ifneZ ok 36 dX5_standIn_30 (by decide) (fun c30_3 => ?_) (fun c30_3 => ?_)
      · skip
        refine r_aload_n ok dX5_standIn_36 0 rfl rfl ?_
        refine r_getf ok ci_X5 fl_X5_10 (by decide) dX5_standIn_37 ho_o rfl ?_
        refine r_getf ok ci_X0 fl_X5_85 (by decide) dX5_standIn_40 (ho_rc cb_o) rfl ?_
        refine r_iload_n ok dX5_standIn_43 1 rfl rfl ?_
        refine r_aaldN ok 3 (Or.inl rfl) (a + 1 + 4 + mi) (by omega) (by omega) dX5_standIn_44 (ho_rc cb_sp) (zRef6_at (by omega)) ?_
        refine r_astore_n ok [(3, .ref (a + 1 + 4 + mi)), (0, .ref a), (1, .int (nI (mi))), (2, .int (nI (gi)))] dX5_standIn_45 rfl (by decide) rfl ?_
        refine r_aload_n ok dX5_standIn_46 0 rfl rfl ?_
        refine r_iload_n ok dX5_standIn_47 3 rfl rfl ?_
        refine r_ialdN ok (by omega) (by omega) dX5_standIn_48 (ho_rc (cb_spr (by omega))) ?_
        refine r_if_le ok 54 dX5_standIn_49 (by decide) (fun c49_4 => ?_) (fun c49_4 => ?_)
        · skip
          refine r_iload_n ok dX5_standIn_54 3 rfl rfl ?_
          refine r_if_leN ok 70 (by omega) dX5_standIn_55 (by decide) (fun c55_5 => ?_) (fun c55_5 => ?_)
          · skip
            obtain rfl : gi = 0 := by omega
            refine r_iload_n ok dX5_standIn_70 3 rfl rfl ?_
            refine r_bipush ok (nI 7) dX5_standIn_71 (by rfl) ?_
            refine r_icmp_geN ok 88 (by omega) (by omega) dX5_standIn_73 (by decide) (fun c => absurd c (by decide)) (fun _ => ?_)
            refine r_aload_n ok dX5_standIn_76 0 rfl rfl ?_
            refine r_iload_n ok dX5_standIn_77 3 rfl rfl ?_
            refine r_iconst ok (nI 1) dX5_standIn_78 (by rfl) ?_
            refine r_iaddN ok dX5_standIn_79 ?_
            refine r_ialdN ok (by omega) (by omega) dX5_standIn_80 (ho_rc (cb_spr (by omega))) ?_
            refine r_if_le ok 88 dX5_standIn_81 (by decide) (fun c81_7 => ?_) (fun c81_7 => ?_)
            · skip
              refine r_ldc ok ck_X5_99 dX5_standIn_88 ?_
              exact r_iret ok dX5_standIn_90 rfl ⟨congrArg (fun z => some (Value.int z)) (show -100006 = zE (zDstr (nI (mi)) (nI (0))) (zRstC c) from by simp [zDstr, zRstC, zE, zU, zOb, zCl_eta, zOd_eta, *]), rfl⟩
            · skip
              refine r_iload_n ok dX5_standIn_84 3 rfl rfl ?_
              refine r_iconst ok (nI 1) dX5_standIn_85 (by rfl) ?_
              refine r_iaddN ok dX5_standIn_86 ?_
              exact r_iret ok dX5_standIn_87 rfl ⟨congrArg (fun z => some (Value.int z)) (show nI (0 + 1) = zE (zDstr (nI (mi)) (nI (0))) (zRstC c) from by simp [zDstr, zRstC, zE, zU, zOb, zCl_eta, zOd_eta, *]), rfl⟩
          · skip
            have g0 : ¬ gi = 0 := by omega
            refine r_aload_n ok dX5_standIn_58 0 rfl rfl ?_
            refine r_iload_n ok dX5_standIn_59 3 rfl rfl ?_
            refine r_iconst ok (nI 1) dX5_standIn_60 (by rfl) ?_
            refine r_isubN ok (by omega) dX5_standIn_61 ?_
            refine r_ialdN ok (by omega) (by omega) dX5_standIn_62 (ho_rc (cb_spr (by omega))) ?_
            refine r_if_le ok 70 dX5_standIn_63 (by decide) (fun c63_8 => ?_) (fun c63_8 => ?_)
            · skip
              refine r_iload_n ok dX5_standIn_70 3 rfl rfl ?_
              refine r_bipush ok (nI 7) dX5_standIn_71 (by rfl) ?_
              refine r_icmp_geN ok 88 (by omega) (by omega) dX5_standIn_73 (by decide) (fun c73_9 => ?_) (fun c73_9 => ?_)
              · skip
                have g7 : ¬ gi < 7 := by omega
                refine r_ldc ok ck_X5_99 dX5_standIn_88 ?_
                exact r_iret ok dX5_standIn_90 rfl ⟨congrArg (fun z => some (Value.int z)) (show -100006 = zE (zDstr (nI (mi)) (nI (gi))) (zRstC c) from by simp [zDstr, zRstC, zE, zU, zOb, zCl_eta, zOd_eta, *]), rfl⟩
              · skip
                have g7 : gi < 7 := by omega
                refine r_aload_n ok dX5_standIn_76 0 rfl rfl ?_
                refine r_iload_n ok dX5_standIn_77 3 rfl rfl ?_
                refine r_iconst ok (nI 1) dX5_standIn_78 (by rfl) ?_
                refine r_iaddN ok dX5_standIn_79 ?_
                refine r_ialdN ok (by omega) (by omega) dX5_standIn_80 (ho_rc (cb_spr (by omega))) ?_
                refine r_if_le ok 88 dX5_standIn_81 (by decide) (fun c81_10 => ?_) (fun c81_10 => ?_)
                · skip
                  refine r_ldc ok ck_X5_99 dX5_standIn_88 ?_
                  exact r_iret ok dX5_standIn_90 rfl ⟨congrArg (fun z => some (Value.int z)) (show -100006 = zE (zDstr (nI (mi)) (nI (gi))) (zRstC c) from by simp [zDstr, zRstC, zE, zU, zOb, zCl_eta, zOd_eta, *]), rfl⟩
                · skip
                  refine r_iload_n ok dX5_standIn_84 3 rfl rfl ?_
                  refine r_iconst ok (nI 1) dX5_standIn_85 (by rfl) ?_
                  refine r_iaddN ok dX5_standIn_86 ?_
                  exact r_iret ok dX5_standIn_87 rfl ⟨congrArg (fun z => some (Value.int z)) (show nI (gi + 1) = zE (zDstr (nI (mi)) (nI (gi))) (zRstC c) from by simp [zDstr, zRstC, zE, zU, zOb, zCl_eta, zOd_eta, *]), rfl⟩
            · skip
              refine r_iload_n ok dX5_standIn_66 3 rfl rfl ?_
              refine r_iconst ok (nI 1) dX5_standIn_67 (by rfl) ?_
              refine r_isubN ok (by omega) dX5_standIn_68 ?_
              exact r_iret ok dX5_standIn_69 rfl ⟨congrArg (fun z => some (Value.int z)) (show nI (gi - 1) = zE (zDstr (nI (mi)) (nI (gi))) (zRstC c) from by simp [zDstr, zRstC, zE, zU, zOb, zCl_eta, zOd_eta, *]), rfl⟩
        · skip
          refine r_iload_n ok dX5_standIn_52 3 rfl rfl ?_
          exact r_iret ok dX5_standIn_53 rfl ⟨congrArg (fun z => some (Value.int z)) (show nI (gi) = zE (zDstr (nI (mi)) (nI (gi))) (zRstC c) from by simp [zDstr, zRstC, zE, zU, zOb, zCl_eta, zOd_eta, *]), rfl⟩
      · skip
        refine r_ldc ok ck_X5_99 dX5_standIn_33 ?_
        exact r_iret ok dX5_standIn_35 rfl ⟨congrArg (fun z => some (Value.int z)) (show -100006 = zE (zDstr (nI (mi)) (nI (gi))) (zRstC c) from by simp [zDstr, zRstC, zE, zU, zOb, zCl_eta, zOd_eta, *]), rfl⟩
    · skip
      have n_g : zix g 8 = none := Option.not_isSome_iff_eq_none.mp (by rw [c11_2]; decide)
      refine r_ldc ok ck_X5_65 dX5_standIn_14 ?_
      exact r_iret ok dX5_standIn_16 rfl ⟨congrArg (fun z => some (Value.int z)) (show -100001 = zE (zDstr (nI (mi)) g) (zRstC c) from by simp [zDstr, zRstC, zE, zU, zOb, zCl_eta, zOd_eta, *]), rfl⟩
