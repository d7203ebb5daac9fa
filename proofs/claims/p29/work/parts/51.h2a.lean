set_option maxHeartbeats 4000000 in
set_option maxRecDepth 100000 in
theorem c_X5_send (l : Launch) (G : zG) (M : zM) (N a : Nat) (c t : zCl) (hc sc : Nat → zCl) (kp : Int32) (hi : Nat → Nat) (sv : Nat → Bool) (sg : Nat → Int32) (pl : Int32) (d : zOd) (kn : Nat) (mm : Int32) (hk : kn ≤ 6) (hhi : ∀ i, i < 6 → hi i < 6) (hu : c.un ≤ 5) (hpi : ∀ i, i < 5 → c.pi i < 5) (hhp : ∀ j, j < 6 → ∀ i, i < 5 → (hc j).pi i < 5) (hnn : 0 ≤ lsum (zC0 d.pt (zOpt c.wa mm) 6) 6) : zC l G yX5_send cX5_send 2 (some .int) 6 156 0 0 [.ref a, .int (mm)] (hoM G M a c t hc sc (nI kn) hi sv sg pl d) N (zP (some (.int (zE (zDsendC c mm d) (fun _ => zCoO (zGaO c mm d))))) (hoM G M a (zU (zDsendC c mm d) c (fun _ => zDiC c mm (zGaO c mm d))) t (zU (zDsendC c mm d) hc (fun _ => zRmC hc hi kn c)) sc (nI (zU (zDsendC c mm d) kn (fun _ => zRecK kn))) (zU (zDsendC c mm d) hi (fun _ => zRmI hi kn)) sv sg pl (zSeO c mm d))) := by
  refine zC.of (by decide +kernel) (Nat.le_of_ble_eq_true rfl) ?_
  intro K hKl ok
  subst hKl
  show zW K G 2 _ 0 0 _ N 0 [(0, .ref a), (1, .int (mm))] []
  refine r_iload_n ok dX5_send_0 1 rfl rfl ?_
  refine r_if_eq ok 11 dX5_send_1 (by decide) (fun c1_1 => ?_) (fun c1_1 => ?_)
  · skip
    have m0 : mm = 0 := c1_1
    refine r_ldc ok ck_X5_48 dX5_send_11 ?_
    exact r_iret ok dX5_send_13 rfl ⟨congrArg (fun z => some (Value.int z)) (show -100002 = zE (zDsendC c mm d) (fun _ => zCoO (zGaO c mm d)) from by simp [zDsendC, zE, zShO_vl, zShO_po, *] <;> rfl), (by simp [zSeO, zDsendC, zU, zCl_eta, zOd_eta, *])⟩
  · skip
    have m0 : ¬ mm = 0 := c1_1
    refine r_iload_n ok dX5_send_4 1 rfl rfl ?_
    refine r_cS1 ok [] mi_X5_isSet ml_X5_115 sm_X5_isSet dX5_send_5 (c_X5_isSet K.2.1 G (hoM G M a c t hc sc (nI kn) hi sv sg pl d) N  mm ) rfl rfl ⟨Nat.le_of_ble_eq_true rfl, Nat.le_of_ble_eq_true rfl⟩ (Nat.le_of_ble_eq_true rfl) ⟨Nat.zero_le _, Nat.zero_le _⟩ ?_
    refine r_ifneZ ok 14 dX5_send_8 (by decide) (fun c8_2 => ?_) (fun c8_2 => ?_)
    · skip
      refine r_aload_n ok dX5_send_14 0 rfl rfl ?_
      refine r_getf ok ci_X5 fl_X5_40 (by decide) dX5_send_15 ho_o rfl ?_
      refine r_aload_n ok dX5_send_18 0 rfl rfl ?_
      refine r_getf ok ci_X5 fl_X5_10 (by decide) dX5_send_19 ho_o rfl ?_
      refine r_iload_n ok dX5_send_22 1 rfl rfl ?_
      refine zW.to (M' := odM G (cbM G (hoM G M a c t hc sc (nI kn) hi sv sg pl d) (a + 1) c.st c.dy c.x c.br c.sp c.wa c.ac c.ps c.pp c.pu c.lo (nI c.un) c.op c.pi c.cn c.vl c.du c.io c.hp c.hs) (a + 138) d.og d.pr d.pc d.vl d.po d.pt d.sr) ?_ (((congrArg (fun z => odM G z (a + 138) d.og d.pr d.pc d.vl d.po d.pt d.sr) ho_cI).trans ho_dI)).symm rfl rfl
      refine r_cV0 ok [] mi_X1_gather ci_X1 ml_X5_118 im_X1_gather se_X1_gather dX5_send_23 (c_X1_gather K.2.1 G (hoM G M a c t hc sc (nI kn) hi sv sg pl d) N (a + 1) c.st c.dy c.x c.br c.sp c.wa c.ac c.ps c.pp c.pu c.lo (nI c.un) c.op c.pi c.cn c.vl c.du c.io c.hp c.hs (a + 138) d.og d.pr d.pc d.vl d.po d.pt d.sr  mm (by omega)) od_o rfl rfl ⟨Nat.le_of_ble_eq_true rfl, Nat.le_of_ble_eq_true rfl⟩ (Nat.le_of_ble_eq_true rfl) ⟨Nat.zero_le _, Nat.zero_le _⟩ ?_
      refine zW.to (M' := hoM G M a c t hc sc (nI kn) hi sv sg pl (zOd.mk (zOgF c.wa mm d.og) (zC0 d.pr (zPrT c.st (zOgF c.wa mm d.og)) 8) (lsum (zOgF c.wa mm d.og) 8) (lsum (zOvT c.st (zOgF c.wa mm d.og)) 8) (zOpo c.st (zOgF c.wa mm d.og)) d.pt d.sr)) ?_ (((congrArg (fun z => odM G z (a + 138) (zOgF c.wa mm d.og) (zC0 d.pr (zPrT c.st (zOgF c.wa mm d.og)) 8) (lsum (zOgF c.wa mm d.og) 8) (lsum (zOvT c.st (zOgF c.wa mm d.og)) 8) (zOpo c.st (zOgF c.wa mm d.og)) d.pt d.sr) ho_cI).trans (ho_d (zOd.mk (zOgF c.wa mm d.og) (zC0 d.pr (zPrT c.st (zOgF c.wa mm d.og)) 8) (lsum (zOgF c.wa mm d.og) 8) (lsum (zOvT c.st (zOgF c.wa mm d.og)) 8) (zOpo c.st (zOgF c.wa mm d.og)) d.pt d.sr)))) rfl rfl
      refine zW.to (M' := hoM G M a c t hc sc (nI kn) hi sv sg pl (zGaO c mm d)) ?_ rfl rfl rfl
      refine r_aload_n ok dX5_send_26 0 rfl rfl ?_
      refine r_getf ok ci_X5 fl_X5_40 (by decide) dX5_send_27 ho_o rfl ?_
      refine r_getf ok ci_X1 fl_X5_122 (by decide) dX5_send_30 (ho_rd od_o) rfl ?_
      refine r_if_eq ok 56 dX5_send_33 (by decide) (fun c33_3 => ?_) (fun c33_3 => ?_)
      · skip
        refine r_ldc ok ck_X5_73 dX5_send_56 ?_
        exact r_iret ok dX5_send_58 rfl ⟨congrArg (fun z => some (Value.int z)) (show -100005 = zE (zDsendC c mm d) (fun _ => zCoO (zGaO c mm d)) from by simp [zDsendC, zE, zShO_vl, zShO_po, *] <;> rfl), (by simp [zSeO, zDsendC, zU, zCl_eta, zOd_eta, *])⟩
      · skip
        refine r_aload_n ok dX5_send_36 0 rfl rfl ?_
        refine r_getf ok ci_X5 fl_X5_40 (by decide) dX5_send_37 ho_o rfl ?_
        refine zW.to (M' := odM G (hoM G M a c t hc sc (nI kn) hi sv sg pl (zGaO c mm d)) (a + 138) ((zGaO c mm d).og) ((zGaO c mm d).pr) ((zGaO c mm d).pc) ((zGaO c mm d).vl) ((zGaO c mm d).po) ((zGaO c mm d).pt) ((zGaO c mm d).sr)) ?_ (ho_dI).symm rfl rfl
        refine r_cV1 ok [] mi_X1_cost ci_X1 ml_X5_125 im_X1_cost se_X1_cost dX5_send_40 (c_X1_cost K.2.1 G (hoM G M a c t hc sc (nI kn) hi sv sg pl (zGaO c mm d)) N (a + 138) ((zGaO c mm d).og) ((zGaO c mm d).pr) ((zGaO c mm d).pc) ((zGaO c mm d).vl) ((zGaO c mm d).po) ((zGaO c mm d).pt) ((zGaO c mm d).sr)   ) od_o rfl rfl ⟨Nat.le_of_ble_eq_true rfl, Nat.le_of_ble_eq_true rfl⟩ (Nat.le_of_ble_eq_true rfl) ⟨Nat.zero_le _, Nat.zero_le _⟩ ?_
        refine zW.to (M' := hoM G M a c t hc sc (nI kn) hi sv sg pl (zGaO c mm d)) ?_ (ho_dI) rfl rfl
        refine r_aload_n ok dX5_send_43 0 rfl rfl ?_
        refine r_getf ok ci_X5 fl_X5_10 (by decide) dX5_send_44 ho_o rfl ?_
        refine r_getf ok ci_X0 fl_X5_109 (by decide) dX5_send_47 (ho_rc cb_o) rfl ?_
        refine r_cS1 ok [.int (((zGaO c mm d).vl) + ((zGaO c mm d).po))] mi_X5_sumOf ml_X5_128 sm_X5_sumOf dX5_send_50 (c_X5_sumOf K.2.1 G (hoM G M a c t hc sc (nI kn) hi sv sg pl (zGaO c mm d)) N 6 c.ac ((a + 1 + 17)) (ho_rc cb_ac) (by omega)) rfl rfl ⟨Nat.le_of_ble_eq_true rfl, Nat.le_of_ble_eq_true rfl⟩ (Nat.le_of_ble_eq_true rfl) ⟨Nat.zero_le _, Nat.zero_le _⟩ ?_
        refine r_icmp_le ok 59 dX5_send_53 (by decide) (fun c53_4 => ?_) (fun c53_4 => ?_)
        · skip
          have ce : zCoO (zGaO c mm d) ≤ lsum c.ac 6 := c53_4
          refine r_aload_n ok dX5_send_59 0 rfl rfl ?_
          refine r_getf ok ci_X5 fl_X5_10 (by decide) dX5_send_60 ho_o rfl ?_
          refine r_getf ok ci_X0 fl_X5_132 (by decide) dX5_send_63 (ho_rc cb_o) rfl ?_
          refine r_iconst ok (nI 5) dX5_send_66 (by rfl) ?_
          refine r_icmp_ltN ok 73 (by omega) (by omega) dX5_send_67 (by decide) (fun c67_5 => ?_) (fun c67_5 => ?_)
          · skip
            refine r_aload_n ok dX5_send_73 0 rfl rfl ?_
            refine r_cV0 ok [] mi_X5_remember ci_X5 ml_X5_52 im_X5_remember se_X5_remember dX5_send_74 (c_X5_remember K.2.1 G M N a c t hc sc (nI kn) hi sv sg pl (zGaO c mm d) kn  (by omega) hhi (by omega) hpi hhp) ho_o rfl rfl ⟨Nat.le_of_ble_eq_true rfl, Nat.le_of_ble_eq_true rfl⟩ (Nat.le_of_ble_eq_true rfl) ⟨Nat.zero_le _, Nat.zero_le _⟩ ?_
            refine r_aload_n ok dX5_send_77 0 rfl rfl ?_
            refine r_getf ok ci_X5 fl_X5_10 (by decide) dX5_send_78 ho_o rfl ?_
            refine r_aload_n ok dX5_send_81 0 rfl rfl ?_
            refine r_getf ok ci_X5 fl_X5_40 (by decide) dX5_send_82 ho_o rfl ?_
            refine r_iload_n ok dX5_send_85 1 rfl rfl ?_
            refine zW.to (M' := odM G (cbM G (hoM G M a c t (zRmC hc hi kn c) sc (nI (zRecK kn)) (zRmI hi kn) sv sg pl (zGaO c mm d)) (a + 1) c.st c.dy c.x c.br c.sp c.wa c.ac c.ps c.pp c.pu c.lo (nI c.un) c.op c.pi c.cn c.vl c.du c.io c.hp c.hs) (a + 138) ((zGaO c mm d).og) ((zGaO c mm d).pr) ((zGaO c mm d).pc) ((zGaO c mm d).vl) ((zGaO c mm d).po) ((zGaO c mm d).pt) ((zGaO c mm d).sr)) ?_ (((congrArg (fun z => odM G z (a + 138) ((zGaO c mm d).og) ((zGaO c mm d).pr) ((zGaO c mm d).pc) ((zGaO c mm d).vl) ((zGaO c mm d).po) ((zGaO c mm d).pt) ((zGaO c mm d).sr)) ho_cI).trans ho_dI)).symm rfl rfl
            refine r_cV0 ok [] mi_X0_dispatch ci_X0 ml_X5_136 im_X0_dispatch se_X0_dispatch dX5_send_86 (c_X0_dispatch K.2.1 G (hoM G M a c t (zRmC hc hi kn c) sc (nI (zRecK kn)) (zRmI hi kn) sv sg pl (zGaO c mm d)) N (a + 1) c (a + 138) ((zGaO c mm d).og) ((zGaO c mm d).pr) ((zGaO c mm d).pc) ((zGaO c mm d).vl) ((zGaO c mm d).po) ((zGaO c mm d).pt) ((zGaO c mm d).sr)  mm (by omega) (hpi _ (by omega)) (by omega) hnn) ((od_out (by omega)).trans cb_o) rfl rfl ⟨Nat.le_of_ble_eq_true rfl, Nat.le_of_ble_eq_true rfl⟩ (Nat.le_of_ble_eq_true rfl) ⟨Nat.zero_le _, Nat.zero_le _⟩ ?_
            refine zW.to (M' := hoM G M a (zCl.mk c.st c.dy c.x c.br c.sp (zTab c.wa (zDpW c.wa mm) 6) (zC0 c.ac (zDpA c.ac (zGets ((zGaO c mm d).po) (zC0 ((zGaO c mm d).pt) (zOpt c.wa mm) 6) ((zGaO c mm d).sr)) c.wa ((zGaO c mm d).pr) mm) 6) (zC0 c.ps (zDpS c.ps c.wa ((zGaO c mm d).pr) mm) 6) (zC0 c.pp (zDpP c.pp (zGets ((zGaO c mm d).po) (zC0 ((zGaO c mm d).pt) (zOpt c.wa mm) 6) ((zGaO c mm d).sr)) mm) 6) c.pu c.lo (c.un + 1) c.op c.pi (va_up c.cn (c.pi c.un) (zTab (c.cn (c.pi c.un)) (zDpN c.wa mm) 6)) (va_up c.vl (c.pi c.un) ((zGaO c mm d).vl)) (va_up c.du (c.pi c.un) (c.dy + c.st 3)) (va_up c.io (c.pi c.un) false) c.hp c.hs) t (zRmC hc hi kn c) sc (nI (zRecK kn)) (zRmI hi kn) sv sg pl (zOd.mk ((zGaO c mm d).og) ((zGaO c mm d).pr) ((zGaO c mm d).pc) ((zGaO c mm d).vl) ((zGaO c mm d).po) (zC0 ((zGaO c mm d).pt) (zOpt c.wa mm) 6) (zGets ((zGaO c mm d).po) (zC0 ((zGaO c mm d).pt) (zOpt c.wa mm) 6) ((zGaO c mm d).sr)))) ?_ (((congrArg (fun z => odM G z (a + 138) ((zGaO c mm d).og) ((zGaO c mm d).pr) ((zGaO c mm d).pc) ((zGaO c mm d).vl) ((zGaO c mm d).po) (zC0 ((zGaO c mm d).pt) (zOpt c.wa mm) 6) (zGets ((zGaO c mm d).po) (zC0 ((zGaO c mm d).pt) (zOpt c.wa mm) 6) ((zGaO c mm d).sr))) (ho_c (zCl.mk c.st c.dy c.x c.br c.sp (zTab c.wa (zDpW c.wa mm) 6) (zC0 c.ac (zDpA c.ac (zGets ((zGaO c mm d).po) (zC0 ((zGaO c mm d).pt) (zOpt c.wa mm) 6) ((zGaO c mm d).sr)) c.wa ((zGaO c mm d).pr) mm) 6) (zC0 c.ps (zDpS c.ps c.wa ((zGaO c mm d).pr) mm) 6) (zC0 c.pp (zDpP c.pp (zGets ((zGaO c mm d).po) (zC0 ((zGaO c mm d).pt) (zOpt c.wa mm) 6) ((zGaO c mm d).sr)) mm) 6) c.pu c.lo (c.un + 1) c.op c.pi (va_up c.cn (c.pi c.un) (zTab (c.cn (c.pi c.un)) (zDpN c.wa mm) 6)) (va_up c.vl (c.pi c.un) ((zGaO c mm d).vl)) (va_up c.du (c.pi c.un) (c.dy + c.st 3)) (va_up c.io (c.pi c.un) false) c.hp c.hs))).trans (ho_d (zOd.mk ((zGaO c mm d).og) ((zGaO c mm d).pr) ((zGaO c mm d).pc) ((zGaO c mm d).vl) ((zGaO c mm d).po) (zC0 ((zGaO c mm d).pt) (zOpt c.wa mm) 6) (zGets ((zGaO c mm d).po) (zC0 ((zGaO c mm d).pt) (zOpt c.wa mm) 6) ((zGaO c mm d).sr)))))) rfl rfl
            refine zW.to (M' := hoM G M a (zDiC c mm (zGaO c mm d)) t (zRmC hc hi kn c) sc (nI (zRecK kn)) (zRmI hi kn) sv sg pl (zOd.mk ((zGaO c mm d).og) ((zGaO c mm d).pr) ((zGaO c mm d).pc) ((zGaO c mm d).vl) ((zGaO c mm d).po) (zC0 ((zGaO c mm d).pt) (zOpt c.wa mm) 6) (zGets ((zGaO c mm d).po) (zC0 ((zGaO c mm d).pt) (zOpt c.wa mm) 6) ((zGaO c mm d).sr)))) ?_ rfl rfl rfl
            refine zW.to (M' := hoM G M a (zDiC c mm (zGaO c mm d)) t (zRmC hc hi kn c) sc (nI (zRecK kn)) (zRmI hi kn) sv sg pl (zShO c mm (zGaO c mm d))) ?_ rfl rfl rfl
            refine r_aload_n ok dX5_send_89 0 rfl rfl ?_
            refine r_getf ok ci_X5 fl_X5_40 (by decide) dX5_send_90 ho_o rfl ?_
            refine zW.to (M' := odM G (hoM G M a (zDiC c mm (zGaO c mm d)) t (zRmC hc hi kn c) sc (nI (zRecK kn)) (zRmI hi kn) sv sg pl (zShO c mm (zGaO c mm d))) (a + 138) ((zShO c mm (zGaO c mm d)).og) ((zShO c mm (zGaO c mm d)).pr) ((zShO c mm (zGaO c mm d)).pc) ((zShO c mm (zGaO c mm d)).vl) ((zShO c mm (zGaO c mm d)).po) ((zShO c mm (zGaO c mm d)).pt) ((zShO c mm (zGaO c mm d)).sr)) ?_ (ho_dI).symm rfl rfl
            refine r_cV1 ok [] mi_X1_cost ci_X1 ml_X5_125 im_X1_cost se_X1_cost dX5_send_93 (c_X1_cost K.2.1 G (hoM G M a (zDiC c mm (zGaO c mm d)) t (zRmC hc hi kn c) sc (nI (zRecK kn)) (zRmI hi kn) sv sg pl (zShO c mm (zGaO c mm d))) N (a + 138) ((zShO c mm (zGaO c mm d)).og) ((zShO c mm (zGaO c mm d)).pr) ((zShO c mm (zGaO c mm d)).pc) ((zShO c mm (zGaO c mm d)).vl) ((zShO c mm (zGaO c mm d)).po) ((zShO c mm (zGaO c mm d)).pt) ((zShO c mm (zGaO c mm d)).sr)   ) od_o rfl rfl ⟨Nat.le_of_ble_eq_true rfl, Nat.le_of_ble_eq_true rfl⟩ (Nat.le_of_ble_eq_true rfl) ⟨Nat.zero_le _, Nat.zero_le _⟩ ?_
            refine zW.to (M' := hoM G M a (zDiC c mm (zGaO c mm d)) t (zRmC hc hi kn c) sc (nI (zRecK kn)) (zRmI hi kn) sv sg pl (zShO c mm (zGaO c mm d))) ?_ (ho_dI) rfl rfl
            exact r_iret ok dX5_send_96 rfl ⟨congrArg (fun z => some (Value.int z)) (show ((zShO c mm (zGaO c mm d)).vl) + ((zShO c mm (zGaO c mm d)).po) = zE (zDsendC c mm d) (fun _ => zCoO (zGaO c mm d)) from by simp [zDsendC, zE, zShO_vl, zShO_po, *] <;> rfl), (by simp [zSeO, zDsendC, zU, zCl_eta, zOd_eta, *])⟩
          · skip
            have nu : ¬ c.un < 5 := by omega
            refine r_ldc ok ck_X5_135 dX5_send_70 ?_
            exact r_iret ok dX5_send_72 rfl ⟨congrArg (fun z => some (Value.int z)) (show -100004 = zE (zDsendC c mm d) (fun _ => zCoO (zGaO c mm d)) from by simp [zDsendC, zE, zShO_vl, zShO_po, *] <;> rfl), (by simp [zSeO, zDsendC, zU, zCl_eta, zOd_eta, *])⟩
        · skip
          have ce : ¬ zCoO (zGaO c mm d) ≤ lsum c.ac 6 := c53_4
          refine r_ldc ok ck_X5_73 dX5_send_56 ?_
          exact r_iret ok dX5_send_58 rfl ⟨congrArg (fun z => some (Value.int z)) (show -100005 = zE (zDsendC c mm d) (fun _ => zCoO (zGaO c mm d)) from by simp [zDsendC, zE, zShO_vl, zShO_po, *] <;> rfl), (by simp [zSeO, zDsendC, zU, zCl_eta, zOd_eta, *])⟩
    · skip
      refine r_ldc ok ck_X5_48 dX5_send_11 ?_
      exact r_iret ok dX5_send_13 rfl ⟨congrArg (fun z => some (Value.int z)) (show -100002 = zE (zDsendC c mm d) (fun _ => zCoO (zGaO c mm d)) from by simp [zDsendC, zE, zShO_vl, zShO_po, *] <;> rfl), (by simp [zSeO, zDsendC, zU, zCl_eta, zOd_eta, *])⟩
set_option maxHeartbeats 4000000 in
set_option maxRecDepth 100000 in
theorem c_X5_pass (l : Launch) (G : zG) (M : zM) (N a : Nat) (c t : zCl) (hc sc : Nat → zCl) (kp : Int32) (hi : Nat → Nat) (sv : Nat → Bool) (sg : Nat → Int32) (pl : Int32) (d : zOd) (kn : Nat) (v : Int32) (hk : kn ≤ 6) (hhi : ∀ i, i < 6 → hi i < 6) (hu : c.un ≤ 5) (hpi : ∀ i, i < 5 → c.pi i < 5) (hhp : ∀ j, j < 6 → ∀ i, i < 5 → (hc j).pi i < 5) (hday : ∀ k, k < 60 → zDayOk (zPs c k)) : zC l G yX5_pass cX5_pass 4 (some .int) 6 156 0 0 [.ref a, .int (v)] (hoM G M a c t hc sc (nI kn) hi sv sg pl d) N (zP (some (.int (zE (zDpass c v) (zPsH c)))) (hoM G M a (zU (zDpass c v) c (zPs c)) t (zU (zDpass c v) hc (fun _ => zRmC hc hi kn c)) sc (nI (zU (zDpass c v) kn (fun _ => zRecK kn))) (zU (zDpass c v) hi (fun _ => zRmI hi kn)) sv sg pl d)) := by
  refine zC.of (by decide +kernel) (Nat.le_of_ble_eq_true rfl) ?_
  intro K hKl ok
  subst hKl
  show zW K G 4 _ 0 0 _ N 0 [(0, .ref a), (1, .int (v))] []
  refine r_iload_n ok dX5_pass_0 1 rfl rfl ?_
  refine r_iconst ok (nI 1) dX5_pass_1 (by rfl) ?_
  refine r_icmp_lt ok 11 dX5_pass_2 (by decide) (fun c2_1 => ?_) (fun c2_1 => ?_)
  · skip
    have hD : zDpass c v = .inl (-100002) := zDp_lt c2_1
    refine r_ldc ok ck_X5_48 dX5_pass_11 ?_
    exact r_iret ok dX5_pass_13 rfl ⟨congrArg (fun z => some (Value.int z)) (show -100002 = zE (zDpass c v) (zPsH c) from by rw [hD]; rfl), (by rw [hD]; rfl)⟩
  · skip
    have lb_ := c2_1
    refine r_iload_n ok dX5_pass_5 1 rfl rfl ?_
    refine r_bipush ok (nI 60) dX5_pass_6 (by rfl) ?_
    refine r_icmp_le ok 14 dX5_pass_8 (by decide) (fun c8_2 => ?_) (fun c8_2 => ?_)
    · skip
      obtain ⟨vi, hv1, hv2, e_v, z_v⟩ := zDp_in lb_ c8_2
      subst e_v
      refine r_aload_n ok dX5_pass_14 0 rfl rfl ?_
      refine r_getf ok ci_X5 fl_X5_10 (by decide) dX5_pass_15 ho_o rfl ?_
      refine r_getf ok ci_X0 fl_X5_140 (by decide) dX5_pass_18 (ho_rc cb_o) rfl ?_
      refine r_iload_n ok dX5_pass_21 1 rfl rfl ?_
      refine r_iadd ok dX5_pass_22 ?_
      refine r_sipush ok (nI 9999) dX5_pass_23 (by rfl) ?_
      refine r_icmp_le ok 32 dX5_pass_26 (by decide) (fun c26_3 => ?_) (fun c26_3 => ?_)
      · skip
        have hD : zDpass c (nI vi) = .inr vi := by simp [zDpass, zOb, z_v, c26_3]; omega
        refine r_aload_n ok dX5_pass_32 0 rfl rfl ?_
        refine r_cV0 ok [] mi_X5_remember ci_X5 ml_X5_52 im_X5_remember se_X5_remember dX5_pass_33 (c_X5_remember K.2.1 G M N a c t hc sc (nI kn) hi sv sg pl d kn  (by omega) hhi (by omega) hpi hhp) ho_o rfl rfl ⟨Nat.le_of_ble_eq_true rfl, Nat.le_of_ble_eq_true rfl⟩ (Nat.le_of_ble_eq_true rfl) ⟨Nat.zero_le _, Nat.zero_le _⟩ ?_
        refine r_iconst ok (nI 0) dX5_pass_36 (by rfl) ?_
        refine r_istore_n ok [(2, .int (nI 0)), (0, .ref a), (1, .int (nI (vi)))] dX5_pass_37 rfl (by decide) rfl ?_
        refine r_iconst ok (nI 0) dX5_pass_38 (by rfl) ?_
        refine r_istore_n ok [(3, .int (nI 0)), (2, .int (nI 0)), (0, .ref a), (1, .int (nI (vi)))] dX5_pass_39 rfl (by decide) rfl ?_
        have L4 : ∀ (nL4 : Nat) (k : Nat), ((k + nL4 = vi)) → zW K G 4 (zQ K G (N + 0) 0 0 (zP (some (.int (zE (zDpass c (nI (vi))) (zPsH c)))) (hoM G M a (zU (zDpass c (nI (vi))) c (zPs c)) t (zU (zDpass c (nI (vi))) hc (fun _ => zRmC hc hi kn c)) sc (nI (zU (zDpass c (nI (vi))) kn (fun _ => zRecK kn))) (zU (zDpass c (nI (vi))) hi (fun _ => zRmI hi kn)) sv sg pl d))) 0 0 (hoM G M a (zPs c k) t (zRmC hc hi kn c) sc (nI (zRecK kn)) (zRmI hi kn) sv sg pl d) N 40 [(0, .ref a), (1, .int (nI (vi))), (2, .int (zPsH c k)), (3, .int (nI (k)))] [] := by
          intro nL4
          induction nL4 with
          | zero =>
            intro k hk_k 
            obtain rfl : vi = k := by omega
            refine r_iload_n ok dX5_pass_40 3 rfl rfl ?_
            refine r_iload_n ok dX5_pass_41 1 rfl rfl ?_
            refine r_icmp_geN ok 61 (by omega) (by omega) dX5_pass_42 (by decide) (fun c42_5 => ?_) (fun c42_5 => ?_)
            · skip
              refine r_iload_n ok dX5_pass_61 2 rfl rfl ?_
              exact r_iret ok dX5_pass_62 rfl ⟨congrArg (fun z => some (Value.int z)) (show zPsH c vi = zE (zDpass c (nI (vi))) (zPsH c) from by rw [hD]; rfl), (by rw [hD]; rfl)⟩
            · skip
              exact absurd c42_5 (by omega)
          | succ nL4 ihL4 =>
            intro k hk_k 
            refine r_iload_n ok dX5_pass_40 3 rfl rfl ?_
            refine r_iload_n ok dX5_pass_41 1 rfl rfl ?_
            refine r_icmp_geN ok 61 (by omega) (by omega) dX5_pass_42 (by decide) (fun c42_6 => ?_) (fun c42_6 => ?_)
            · skip
              exact absurd c42_6 (by omega)
            · skip
              refine r_iload_n ok dX5_pass_45 2 rfl rfl ?_
              refine r_aload_n ok dX5_pass_46 0 rfl rfl ?_
              refine r_getf ok ci_X5 fl_X5_10 (by decide) dX5_pass_47 ho_o rfl ?_
              refine zW.to (M' := cbM G (hoM G M a (zPs c k) t (zRmC hc hi kn c) sc (nI (zRecK kn)) (zRmI hi kn) sv sg pl d) (a + 1) ((zPs c k).st) ((zPs c k).dy) ((zPs c k).x) ((zPs c k).br) ((zPs c k).sp) ((zPs c k).wa) ((zPs c k).ac) ((zPs c k).ps) ((zPs c k).pp) ((zPs c k).pu) ((zPs c k).lo) (nI ((zPs c k).un)) ((zPs c k).op) ((zPs c k).pi) ((zPs c k).cn) ((zPs c k).vl) ((zPs c k).du) ((zPs c k).io) ((zPs c k).hp) ((zPs c k).hs)) ?_ (ho_cI).symm rfl rfl
              refine r_cV1 ok [.int (zPsH c k)] mi_X0_beginDay ci_X0 ml_X5_143 im_X0_beginDay se_X0_beginDay dX5_pass_50 (c_X0_beginDay K.2.1 G (hoM G M a (zPs c k) t (zRmC hc hi kn c) sc (nI (zRecK kn)) (zRmI hi kn) sv sg pl d) N (a + 1) (zPs c k)   (hday k (by omega)).1 (hday k (by omega)).2.1 (hday k (by omega)).2.2) cb_o rfl rfl ⟨Nat.le_of_ble_eq_true rfl, Nat.le_of_ble_eq_true rfl⟩ (Nat.le_of_ble_eq_true rfl) ⟨Nat.zero_le _, Nat.zero_le _⟩ ?_
              refine zW.to (M' := hoM G M a (zBd ((zPs c k))) t (zRmC hc hi kn c) sc (nI (zRecK kn)) (zRmI hi kn) sv sg pl d) ?_ ((ho_c (zBd ((zPs c k))))) rfl rfl
              refine r_iadd ok dX5_pass_53 ?_
              refine r_istore_n ok [(2, .int ((zPsH c k) + (nI (((zPs c k)).un - (zBdL (zDayC ((zPs c k))) ((zPs c k)).un).2)))), (0, .ref a), (1, .int (nI (vi))), (3, .int (nI (k)))] dX5_pass_54 rfl (by decide) rfl ?_
              refine r_iincN ok (c := 1) [(3, .int (nI (k + 1))), (2, .int ((zPsH c k) + (nI (((zPs c k)).un - (zBdL (zDayC ((zPs c k))) ((zPs c k)).un).2)))), (0, .ref a), (1, .int (nI (vi)))] dX5_pass_55 3 rfl (by rfl) (by decide) rfl ?_
              refine r_goto ok 40 dX5_pass_58 (by decide) ?_
              have q7 : Value.int ((zPsH c k) + (nI (((zPs c k)).un - (zBdL (zDayC ((zPs c k))) ((zPs c k)).un).2))) = Value.int (zPsH c (k + 1)) := by first | with_reducible rfl | (rfl)
              have q8 : ((zBd ((zPs c k))) : zCl) = (zPs c (k + 1)) := by first | with_reducible rfl | (rfl)
              refine zW.forget (lv' := [(0, .ref a), (1, .int (nI (vi))), (2, .int ((zPsH c k) + (nI (((zPs c k)).un - (zBdL (zDayC ((zPs c k))) ((zPs c k)).un).2)))), (3, .int (nI (k + 1)))]) ?_ [2, 3, 1, 0] rfl
              refine zW.to (lv' := [(0, .ref a), (1, .int (nI (vi))), (2, .int (zPsH c (k + 1))), (3, .int (nI (k + 1)))]) ?_ rfl (congrArg (fun z => ([(0, .ref a), (1, .int (nI (vi))), (2, z), (3, .int (nI (k + 1)))] : List (Nat × Value))) q7) rfl
              refine zW.to ?_ (congrArg (fun z => hoM G M a z t (zRmC hc hi kn c) sc (nI (zRecK kn)) (zRmI hi kn) sv sg pl d) q8) rfl rfl
              exact ihL4 (k + 1) (by omega)
        have q9 : Value.int (nI 0) = Value.int (zPsH c 0) := by first | with_reducible rfl | (rfl)
        have q10 : (c : zCl) = (zPs c 0) := by first | with_reducible rfl | (rfl)
        refine zW.forget (lv' := [(0, .ref a), (1, .int (nI (vi))), (2, .int (nI 0)), (3, .int (nI 0))]) ?_ [2, 3, 1, 0] rfl
        refine zW.to (lv' := [(0, .ref a), (1, .int (nI (vi))), (2, .int (zPsH c 0)), (3, .int (nI 0))]) ?_ rfl (congrArg (fun z => ([(0, .ref a), (1, .int (nI (vi))), (2, z), (3, .int (nI 0))] : List (Nat × Value))) q9) rfl
        refine zW.to ?_ (congrArg (fun z => hoM G M a z t (zRmC hc hi kn c) sc (nI (zRecK kn)) (zRmI hi kn) sv sg pl d) q10) rfl rfl
        exact L4 vi 0 (by omega)
      · skip
        have hD : zDpass c (nI vi) = .inl (-100004) := by simp [zDpass, zOb, z_v, c26_3]; omega
        refine r_ldc ok ck_X5_135 dX5_pass_29 ?_
        exact r_iret ok dX5_pass_31 rfl ⟨congrArg (fun z => some (Value.int z)) (show -100004 = zE (zDpass c (nI (vi))) (zPsH c) from by rw [hD]; rfl), (by rw [hD]; rfl)⟩
    · skip
      have hD : zDpass c v = .inl (-100002) := zDp_gt (Int32.not_le.mp c8_2)
      refine r_ldc ok ck_X5_48 dX5_pass_11 ?_
      exact r_iret ok dX5_pass_13 rfl ⟨congrArg (fun z => some (Value.int z)) (show -100002 = zE (zDpass c v) (zPsH c) from by rw [hD]; rfl), (by rw [hD]; rfl)⟩
