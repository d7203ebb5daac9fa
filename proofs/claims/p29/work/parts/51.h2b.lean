set_option maxHeartbeats 4000000 in
set_option maxRecDepth 100000 in
theorem c_X5_member (l : Launch) (G : zG) (M : zM) (N a : Nat) (c t : zCl) (hc sc : Nat → zCl) (kp : Int32) (hi : Nat → Nat) (sv : Nat → Bool) (sg : Nat → Int32) (pl : Int32) (d : zOd)  (m : Int32) (w : Int32) (hu : c.un ≤ 5) (hpi : ∀ i, i < 5 → c.pi i < 5) : zC l G yX5_member cX5_member 3 (some .int) 2 48 0 0 [.ref a, .int (m), .int (w)] (hoM G M a c t hc sc kp hi sv sg pl d) N (zP (some (.int (zE (zDmem m) (zRmemC c w)))) (hoM G M a c t hc sc kp hi sv sg pl d)) := by
  refine zC.of (by decide +kernel) (Nat.le_of_ble_eq_true rfl) ?_
  intro K hKl ok
  subst hKl
  show zW K G 3 _ 0 0 _ N 0 [(0, .ref a), (1, .int (m)), (2, .int (w))] []
  refine r_iload_n ok dX5_member_0 1 rfl rfl ?_
  refine r_cS1 ok [] mi_X5_isMember ml_X5_58 sm_X5_isMember dX5_member_1 (c_X5_isMember K.2.1 G (hoM G M a c t hc sc kp hi sv sg pl d) N  m ) rfl rfl ⟨Nat.le_of_ble_eq_true rfl, Nat.le_of_ble_eq_true rfl⟩ (Nat.le_of_ble_eq_true rfl) ⟨Nat.zero_le _, Nat.zero_le _⟩ ?_
  refine r_ifneZ ok 10 dX5_member_4 (by decide) (fun c4_1 => ?_) (fun c4_1 => ?_)
  · skip
    obtain ⟨mi, z_m⟩ := Option.isSome_iff_exists.mp c4_1
    obtain ⟨h_m, e_m⟩ := zix_some z_m (by omega)
    subst e_m
    refine r_iload_n ok dX5_member_10 2 rfl rfl ?_
    by_cases c11_2 : w = nI 0
    · skip
      subst c11_2
      refine r_table ok dX5_member_11 (t := 60) (by decide +kernel) (by decide +kernel) ?_
      have zx11_9 : zix (nI 0) 9 = some 0 := by decide +kernel
      refine r_aload_n ok dX5_member_60 0 rfl rfl ?_
      refine r_getf ok ci_X5 fl_X5_10 (by decide) dX5_member_61 ho_o rfl ?_
      refine r_getf ok ci_X0 fl_X5_109 (by decide) dX5_member_64 (ho_rc cb_o) rfl ?_
      refine r_iload_n ok dX5_member_67 1 rfl rfl ?_
      refine r_ialdN ok (by omega) (by omega) dX5_member_68 (ho_rc cb_ac) ?_
      exact r_iret ok dX5_member_69 rfl ⟨congrArg (fun z => some (Value.int z)) (show c.ac mi = zE (zDmem (nI (mi))) (zRmemC c (nI 0)) from by simp [zDmem, zRmemC, zSel, zE, zU, zOb, zCl_eta, zOd_eta, *]), rfl⟩
    by_cases c11_3 : w = nI 1
    · skip
      subst c11_3
      refine r_table ok dX5_member_11 (t := 70) (by decide +kernel) (by decide +kernel) ?_
      have zx11_9 : zix (nI 1) 9 = some 1 := by decide +kernel
      refine r_aload_n ok dX5_member_70 0 rfl rfl ?_
      refine r_getf ok ci_X5 fl_X5_10 (by decide) dX5_member_71 ho_o rfl ?_
      refine r_getf ok ci_X0 fl_X5_66 (by decide) dX5_member_74 (ho_rc cb_o) rfl ?_
      refine r_iload_n ok dX5_member_77 1 rfl rfl ?_
      refine r_ialdN ok (by omega) (by omega) dX5_member_78 (ho_rc cb_br) ?_
      exact r_iret ok dX5_member_79 rfl ⟨congrArg (fun z => some (Value.int z)) (show c.br mi = zE (zDmem (nI (mi))) (zRmemC c (nI 1)) from by simp [zDmem, zRmemC, zSel, zE, zU, zOb, zCl_eta, zOd_eta, *]), rfl⟩
    by_cases c11_4 : w = nI 2
    · skip
      subst c11_4
      refine r_table ok dX5_member_11 (t := 80) (by decide +kernel) (by decide +kernel) ?_
      have zx11_9 : zix (nI 2) 9 = some 2 := by decide +kernel
      refine r_aload_n ok dX5_member_80 0 rfl rfl ?_
      refine r_getf ok ci_X5 fl_X5_10 (by decide) dX5_member_81 ho_o rfl ?_
      refine r_getf ok ci_X0 fl_X5_85 (by decide) dX5_member_84 (ho_rc cb_o) rfl ?_
      refine r_iload_n ok dX5_member_87 1 rfl rfl ?_
      refine r_aaldN ok 3 (Or.inl rfl) (a + 1 + 4 + mi) (by omega) (by omega) dX5_member_88 (ho_rc cb_sp) (zRef6_at (by omega)) ?_
      refine r_cS1 ok [] mi_X5_sumOf ml_X5_128 sm_X5_sumOf dX5_member_89 (c_X5_sumOf K.2.1 G (hoM G M a c t hc sc kp hi sv sg pl d) N 8 (c.sp mi) ((a + 1 + 4 + mi)) (ho_rc (cb_spr (by omega))) (by omega)) rfl rfl ⟨Nat.le_of_ble_eq_true rfl, Nat.le_of_ble_eq_true rfl⟩ (Nat.le_of_ble_eq_true rfl) ⟨Nat.zero_le _, Nat.zero_le _⟩ ?_
      exact r_iret ok dX5_member_92 rfl ⟨congrArg (fun z => some (Value.int z)) (show lsum (c.sp mi) 8 = zE (zDmem (nI (mi))) (zRmemC c (nI 2)) from by simp [zDmem, zRmemC, zSel, zE, zU, zOb, zCl_eta, zOd_eta, *]), rfl⟩
    by_cases c11_5 : w = nI 3
    · skip
      subst c11_5
      refine r_table ok dX5_member_11 (t := 93) (by decide +kernel) (by decide +kernel) ?_
      have zx11_9 : zix (nI 3) 9 = some 3 := by decide +kernel
      refine r_aload_n ok dX5_member_93 0 rfl rfl ?_
      refine r_getf ok ci_X5 fl_X5_10 (by decide) dX5_member_94 ho_o rfl ?_
      refine r_getf ok ci_X0 fl_X5_89 (by decide) dX5_member_97 (ho_rc cb_o) rfl ?_
      refine r_iload_n ok dX5_member_100 1 rfl rfl ?_
      refine r_aaldN ok 3 (Or.inl rfl) (a + 1 + 11 + mi) (by omega) (by omega) dX5_member_101 (ho_rc cb_wa) (zRef6_at (by omega)) ?_
      refine r_cS1 ok [] mi_X5_sumOf ml_X5_128 sm_X5_sumOf dX5_member_102 (c_X5_sumOf K.2.1 G (hoM G M a c t hc sc kp hi sv sg pl d) N 8 (c.wa mi) ((a + 1 + 11 + mi)) (ho_rc (cb_war (by omega))) (by omega)) rfl rfl ⟨Nat.le_of_ble_eq_true rfl, Nat.le_of_ble_eq_true rfl⟩ (Nat.le_of_ble_eq_true rfl) ⟨Nat.zero_le _, Nat.zero_le _⟩ ?_
      exact r_iret ok dX5_member_105 rfl ⟨congrArg (fun z => some (Value.int z)) (show lsum (c.wa mi) 8 = zE (zDmem (nI (mi))) (zRmemC c (nI 3)) from by simp [zDmem, zRmemC, zSel, zE, zU, zOb, zCl_eta, zOd_eta, *]), rfl⟩
    by_cases c11_6 : w = nI 4
    · skip
      subst c11_6
      refine r_table ok dX5_member_11 (t := 106) (by decide +kernel) (by decide +kernel) ?_
      have zx11_9 : zix (nI 4) 9 = some 4 := by decide +kernel
      refine r_aload_n ok dX5_member_106 0 rfl rfl ?_
      refine r_getf ok ci_X5 fl_X5_10 (by decide) dX5_member_107 ho_o rfl ?_
      refine r_iload_n ok dX5_member_110 1 rfl rfl ?_
      refine zW.to (M' := cbM G (hoM G M a c t hc sc kp hi sv sg pl d) (a + 1) c.st c.dy c.x c.br c.sp c.wa c.ac c.ps c.pp c.pu c.lo (nI c.un) c.op c.pi c.cn c.vl c.du c.io c.hp c.hs) ?_ (ho_cI).symm rfl rfl
      refine r_cV1 ok [] mi_X0_underwayOf ci_X0 ml_X5_149 im_X0_underwayOf se_X0_underwayOf dX5_member_111 (c_X0_underwayOf K.2.1 G (hoM G M a c t hc sc kp hi sv sg pl d) N (a + 1) c.st c.dy c.x c.br c.sp c.wa c.ac c.ps c.pp c.pu c.lo (nI c.un) c.op c.pi c.cn c.vl c.du c.io c.hp c.hs c.un mi (by omega) (by omega) hpi) cb_o rfl rfl ⟨Nat.le_of_ble_eq_true rfl, Nat.le_of_ble_eq_true rfl⟩ (Nat.le_of_ble_eq_true rfl) ⟨Nat.zero_le _, Nat.zero_le _⟩ ?_
      refine zW.to (M' := hoM G M a c t hc sc kp hi sv sg pl d) ?_ (ho_cI) rfl rfl
      exact r_iret ok dX5_member_114 rfl ⟨congrArg (fun z => some (Value.int z)) (show lsum (zUwT c.cn c.pi mi) c.un = zE (zDmem (nI (mi))) (zRmemC c (nI 4)) from by simp [zDmem, zRmemC, zSel, zE, zU, zOb, zCl_eta, zOd_eta, *]), rfl⟩
    by_cases c11_7 : w = nI 5
    · skip
      subst c11_7
      refine r_table ok dX5_member_11 (t := 115) (by decide +kernel) (by decide +kernel) ?_
      have zx11_9 : zix (nI 5) 9 = some 5 := by decide +kernel
      refine r_aload_n ok dX5_member_115 0 rfl rfl ?_
      refine r_getf ok ci_X5 fl_X5_10 (by decide) dX5_member_116 ho_o rfl ?_
      refine r_getf ok ci_X0 fl_X5_152 (by decide) dX5_member_119 (ho_rc cb_o) rfl ?_
      refine r_iload_n ok dX5_member_122 1 rfl rfl ?_
      refine r_ialdN ok (by omega) (by omega) dX5_member_123 (ho_rc cb_ps) ?_
      exact r_iret ok dX5_member_124 rfl ⟨congrArg (fun z => some (Value.int z)) (show c.ps mi = zE (zDmem (nI (mi))) (zRmemC c (nI 5)) from by simp [zDmem, zRmemC, zSel, zE, zU, zOb, zCl_eta, zOd_eta, *]), rfl⟩
    by_cases c11_8 : w = nI 6
    · skip
      subst c11_8
      refine r_table ok dX5_member_11 (t := 125) (by decide +kernel) (by decide +kernel) ?_
      have zx11_9 : zix (nI 6) 9 = some 6 := by decide +kernel
      refine r_aload_n ok dX5_member_125 0 rfl rfl ?_
      refine r_getf ok ci_X5 fl_X5_10 (by decide) dX5_member_126 ho_o rfl ?_
      refine r_getf ok ci_X0 fl_X5_155 (by decide) dX5_member_129 (ho_rc cb_o) rfl ?_
      refine r_iload_n ok dX5_member_132 1 rfl rfl ?_
      refine r_ialdN ok (by omega) (by omega) dX5_member_133 (ho_rc cb_pp) ?_
      exact r_iret ok dX5_member_134 rfl ⟨congrArg (fun z => some (Value.int z)) (show c.pp mi = zE (zDmem (nI (mi))) (zRmemC c (nI 6)) from by simp [zDmem, zRmemC, zSel, zE, zU, zOb, zCl_eta, zOd_eta, *]), rfl⟩
    by_cases c11_9 : w = nI 7
    · skip
      subst c11_9
      refine r_table ok dX5_member_11 (t := 135) (by decide +kernel) (by decide +kernel) ?_
      have zx11_9 : zix (nI 7) 9 = some 7 := by decide +kernel
      refine r_aload_n ok dX5_member_135 0 rfl rfl ?_
      refine r_getf ok ci_X5 fl_X5_10 (by decide) dX5_member_136 ho_o rfl ?_
      refine r_getf ok ci_X0 fl_X5_158 (by decide) dX5_member_139 (ho_rc cb_o) rfl ?_
      refine r_iload_n ok dX5_member_142 1 rfl rfl ?_
      refine r_ialdN ok (by omega) (by omega) dX5_member_143 (ho_rc cb_pu) ?_
      exact r_iret ok dX5_member_144 rfl ⟨congrArg (fun z => some (Value.int z)) (show c.pu mi = zE (zDmem (nI (mi))) (zRmemC c (nI 7)) from by simp [zDmem, zRmemC, zSel, zE, zU, zOb, zCl_eta, zOd_eta, *]), rfl⟩
    by_cases c11_10 : w = nI 8
    · skip
      subst c11_10
      refine r_table ok dX5_member_11 (t := 145) (by decide +kernel) (by decide +kernel) ?_
      have zx11_9 : zix (nI 8) 9 = some 8 := by decide +kernel
      refine r_aload_n ok dX5_member_145 0 rfl rfl ?_
      refine r_getf ok ci_X5 fl_X5_10 (by decide) dX5_member_146 ho_o rfl ?_
      refine r_getf ok ci_X0 fl_X5_161 (by decide) dX5_member_149 (ho_rc cb_o) rfl ?_
      refine r_iload_n ok dX5_member_152 1 rfl rfl ?_
      refine r_ialdN ok (by omega) (by omega) dX5_member_153 (ho_rc cb_lo') ?_
      exact r_iret ok dX5_member_154 rfl ⟨congrArg (fun z => some (Value.int z)) (show c.lo mi = zE (zDmem (nI (mi))) (zRmemC c (nI 8)) from by simp [zDmem, zRmemC, zSel, zE, zU, zOb, zCl_eta, zOd_eta, *]), rfl⟩
    have hd11 : w.toInt < 0 ∨ 8 < w.toInt := by
      rcases Int.lt_or_le w.toInt 0 with q | q
      · exact Or.inl q
      rcases Int.lt_or_le 8 w.toInt with q2 | q2
      · exact Or.inr q2
      have w0 : w.toInt ≠ 0 := fun z => c11_2 (Int32.toInt_inj.mp (z.trans (by decide +kernel)))
      have w1 : w.toInt ≠ 1 := fun z => c11_3 (Int32.toInt_inj.mp (z.trans (by decide +kernel)))
      have w2 : w.toInt ≠ 2 := fun z => c11_4 (Int32.toInt_inj.mp (z.trans (by decide +kernel)))
      have w3 : w.toInt ≠ 3 := fun z => c11_5 (Int32.toInt_inj.mp (z.trans (by decide +kernel)))
      have w4 : w.toInt ≠ 4 := fun z => c11_6 (Int32.toInt_inj.mp (z.trans (by decide +kernel)))
      have w5 : w.toInt ≠ 5 := fun z => c11_7 (Int32.toInt_inj.mp (z.trans (by decide +kernel)))
      have w6 : w.toInt ≠ 6 := fun z => c11_8 (Int32.toInt_inj.mp (z.trans (by decide +kernel)))
      have w7 : w.toInt ≠ 7 := fun z => c11_9 (Int32.toInt_inj.mp (z.trans (by decide +kernel)))
      have w8 : w.toInt ≠ 8 := fun z => c11_10 (Int32.toInt_inj.mp (z.trans (by decide +kernel)))
      omega
    refine r_table ok dX5_member_11 (t := 155) (by rw [if_pos hd11]; decide) (by decide) ?_
    have zx11_9 : zix w 9 = none := by unfold zix; rw [if_neg (by omega)]
    refine r_ldc ok ck_X5_48 dX5_member_155 ?_
    exact r_iret ok dX5_member_157 rfl ⟨congrArg (fun z => some (Value.int z)) (show -100002 = zE (zDmem (nI (mi))) (zRmemC c w) from by simp [zDmem, zRmemC, zSel, zE, zU, zOb, zCl_eta, zOd_eta, *]), rfl⟩
  · skip
    have n_m : zix m 6 = none := Option.not_isSome_iff_eq_none.mp (by rw [c4_1]; decide)
    refine r_ldc ok ck_X5_65 dX5_member_7 ?_
    exact r_iret ok dX5_member_9 rfl ⟨congrArg (fun z => some (Value.int z)) (show -100001 = zE (zDmem m) (zRmemC c w) from by simp [zDmem, zRmemC, zSel, zE, zU, zOb, zCl_eta, zOd_eta, *]), rfl⟩
set_option maxHeartbeats 4000000 in
set_option maxRecDepth 100000 in
theorem c_X5_strings (l : Launch) (G : zG) (M : zM) (N a : Nat) (c t : zCl) (hc sc : Nat → zCl) (kp : Int32) (hi : Nat → Nat) (sv : Nat → Bool) (sg : Nat → Int32) (pl : Int32) (d : zOd)  (m : Int32) (g : Int32) (w : Bool)  : zC l G yX5_strings cX5_strings 4 (some .int) 1 20 0 0 [.ref a, .int (m), .int (g), .int (zb w)] (hoM G M a c t hc sc kp hi sv sg pl d) N (zP (some (.int (zE (zDstr m g) (fun q => if w then c.wa q.1 q.2 else c.sp q.1 q.2)))) (hoM G M a c t hc sc kp hi sv sg pl d)) := by
  refine zC.of (by decide +kernel) (Nat.le_of_ble_eq_true rfl) ?_
  intro K hKl ok
  subst hKl
  show zW K G 4 _ 0 0 _ N 0 [(0, .ref a), (1, .int (m)), (2, .int (g)), (3, .int (zb w))] []
  refine r_iload_n ok dX5_strings_0 1 rfl rfl ?_
  refine r_cS1 ok [] mi_X5_isMember ml_X5_58 sm_X5_isMember dX5_strings_1 (c_X5_isMember K.2.1 G (hoM G M a c t hc sc kp hi sv sg pl d) N  m ) rfl rfl ⟨Nat.le_of_ble_eq_true rfl, Nat.le_of_ble_eq_true rfl⟩ (Nat.le_of_ble_eq_true rfl) ⟨Nat.zero_le _, Nat.zero_le _⟩ ?_
  refine r_ifeqZ ok 14 dX5_strings_4 (by decide) (fun c4_1 => ?_) (fun c4_1 => ?_)
  · skip
    have n_m : zix m 6 = none := Option.not_isSome_iff_eq_none.mp (by rw [c4_1]; decide)
    refine r_ldc ok ck_X5_65 dX5_strings_14 ?_
    exact r_iret ok dX5_strings_16 rfl ⟨congrArg (fun z => some (Value.int z)) (show -100001 = zE (zDstr m g) (fun q => if w then c.wa q.1 q.2 else c.sp q.1 q.2) from by simp [zDstr, zE, zU, zOb, zCl_eta, zOd_eta, *]), rfl⟩
  · skip
    obtain ⟨mi, z_m⟩ := Option.isSome_iff_exists.mp c4_1
    obtain ⟨h_m, e_m⟩ := zix_some z_m (by omega)
    subst e_m
    refine r_iload_n ok dX5_strings_7 2 rfl rfl ?_
    refine r_cS1 ok [] mi_X5_isGauge ml_X5_62 sm_X5_isGauge dX5_strings_8 (c_X5_isGauge K.2.1 G (hoM G M a c t hc sc kp hi sv sg pl d) N  g ) rfl rfl ⟨Nat.le_of_ble_eq_true rfl, Nat.le_of_ble_eq_true rfl⟩ (Nat.le_of_ble_eq_true rfl) ⟨Nat.zero_le _, Nat.zero_le _⟩ ?_
    refine r_ifneZ ok 17 dX5_strings_11 (by decide) (fun c11_2 => ?_) (fun c11_2 => ?_)
    · skip
      obtain ⟨gi, z_g⟩ := Option.isSome_iff_exists.mp c11_2
      obtain ⟨h_g, e_g⟩ := zix_some z_g (by omega)
      subst e_g
      refine r_iload_n ok dX5_strings_17 3 rfl rfl ?_
      refine r_ifeqZ ok 35 dX5_strings_18 (by decide) (fun c18_3 => ?_) (fun c18_3 => ?_)
      · skip
        refine r_aload_n ok dX5_strings_35 0 rfl rfl ?_
        refine r_getf ok ci_X5 fl_X5_10 (by decide) dX5_strings_36 ho_o rfl ?_
        refine r_getf ok ci_X0 fl_X5_85 (by decide) dX5_strings_39 (ho_rc cb_o) rfl ?_
        refine r_iload_n ok dX5_strings_42 1 rfl rfl ?_
        refine r_aaldN ok 3 (Or.inl rfl) (a + 1 + 4 + mi) (by omega) (by omega) dX5_strings_43 (ho_rc cb_sp) (zRef6_at (by omega)) ?_
        refine r_iload_n ok dX5_strings_44 2 rfl rfl ?_
        refine r_ialdN ok (by omega) (by omega) dX5_strings_45 (ho_rc (cb_spr (by omega))) ?_
        exact r_iret ok dX5_strings_46 rfl ⟨congrArg (fun z => some (Value.int z)) (show (c.sp mi) gi = zE (zDstr (nI (mi)) (nI (gi))) (fun q => if w then c.wa q.1 q.2 else c.sp q.1 q.2) from by simp [zDstr, zE, zU, zOb, zCl_eta, zOd_eta, *]), rfl⟩
      · skip
        refine r_aload_n ok dX5_strings_21 0 rfl rfl ?_
        refine r_getf ok ci_X5 fl_X5_10 (by decide) dX5_strings_22 ho_o rfl ?_
        refine r_getf ok ci_X0 fl_X5_89 (by decide) dX5_strings_25 (ho_rc cb_o) rfl ?_
        refine r_iload_n ok dX5_strings_28 1 rfl rfl ?_
        refine r_aaldN ok 3 (Or.inl rfl) (a + 1 + 11 + mi) (by omega) (by omega) dX5_strings_29 (ho_rc cb_wa) (zRef6_at (by omega)) ?_
        refine r_iload_n ok dX5_strings_30 2 rfl rfl ?_
        refine r_ialdN ok (by omega) (by omega) dX5_strings_31 (ho_rc (cb_war (by omega))) ?_
        refine r_goto ok 46 dX5_strings_32 (by decide) ?_
        exact r_iret ok dX5_strings_46 rfl ⟨congrArg (fun z => some (Value.int z)) (show (c.wa mi) gi = zE (zDstr (nI (mi)) (nI (gi))) (fun q => if w then c.wa q.1 q.2 else c.sp q.1 q.2) from by simp [zDstr, zE, zU, zOb, zCl_eta, zOd_eta, *]), rfl⟩
    · skip
      have n_g : zix g 8 = none := Option.not_isSome_iff_eq_none.mp (by rw [c11_2]; decide)
      refine r_ldc ok ck_X5_65 dX5_strings_14 ?_
      exact r_iret ok dX5_strings_16 rfl ⟨congrArg (fun z => some (Value.int z)) (show -100001 = zE (zDstr (nI (mi)) g) (fun q => if w then c.wa q.1 q.2 else c.sp q.1 q.2) from by simp [zDstr, zE, zU, zOb, zCl_eta, zOd_eta, *]), rfl⟩
set_option maxHeartbeats 4000000 in
set_option maxRecDepth 100000 in
theorem c_X5_parcel (l : Launch) (G : zG) (M : zM) (N a : Nat) (c t : zCl) (hc sc : Nat → zCl) (kp : Int32) (hi : Nat → Nat) (sv : Nat → Bool) (sg : Nat → Int32) (pl : Int32) (d : zOd)  (q : Int32) (w : Int32) (hu : c.un ≤ 5) (hpi : ∀ i, i < 5 → c.pi i < 5) : zC l G yX5_parcel cX5_parcel 4 (some .int) 2 47 0 0 [.ref a, .int (q), .int (w)] (hoM G M a c t hc sc kp hi sv sg pl d) N (zP (some (.int (zE (zDpar c.un q) (zRparC c w)))) (hoM G M a c t hc sc kp hi sv sg pl d)) := by
  refine zC.of (by decide +kernel) (Nat.le_of_ble_eq_true rfl) ?_
  intro K hKl ok
  subst hKl
  show zW K G 4 _ 0 0 _ N 0 [(0, .ref a), (1, .int (q)), (2, .int (w))] []
  refine r_iload_n ok dX5_parcel_0 1 rfl rfl ?_
  refine r_if_lt ok 20 dX5_parcel_1 (by decide) (fun c1_1 => ?_) (fun c1_1 => ?_)
  · skip
    have n_q := zix_neg' (n := c.un) c1_1
    refine r_ldc ok ck_X5_65 dX5_parcel_20 ?_
    exact r_iret ok dX5_parcel_22 rfl ⟨congrArg (fun z => some (Value.int z)) (show -100001 = zE (zDpar c.un q) (zRparC c w) from by simp [zDpar, zRparC, zSel, zE, zU, zOb, zCl_eta, zOd_eta, *] <;> rfl), rfl⟩
  · skip
    have l_q := c1_1
    refine r_iload_n ok dX5_parcel_4 1 rfl rfl ?_
    refine r_aload_n ok dX5_parcel_5 0 rfl rfl ?_
    refine r_getf ok ci_X5 fl_X5_10 (by decide) dX5_parcel_6 ho_o rfl ?_
    refine r_getf ok ci_X0 fl_X5_132 (by decide) dX5_parcel_9 (ho_rc cb_o) rfl ?_
    refine r_icmp_ge ok 20 dX5_parcel_12 (by decide) (fun c12_2 => ?_) (fun c12_2 => ?_)
    · skip
      have n_q := zix_ge' (n := c.un) (by omega) c12_2
      refine r_ldc ok ck_X5_65 dX5_parcel_20 ?_
      exact r_iret ok dX5_parcel_22 rfl ⟨congrArg (fun z => some (Value.int z)) (show -100001 = zE (zDpar c.un q) (zRparC c w) from by simp [zDpar, zRparC, zSel, zE, zU, zOb, zCl_eta, zOd_eta, *] <;> rfl), rfl⟩
    · skip
      obtain ⟨qi, h_q, e_q, z_q⟩ := zix_in' (n := c.un) (by omega) l_q (Int32.not_le.mp c12_2)
      subst e_q
      have hj := hpi qi (by omega)
      refine r_iload_n ok dX5_parcel_15 1 rfl rfl ?_
      refine r_iconst ok (nI 5) dX5_parcel_16 (by rfl) ?_
      refine r_icmp_ltN ok 23 (by omega) (by omega) dX5_parcel_17 (by decide) (fun c17_3 => ?_) (fun c17_3 => ?_)
      · skip
        refine r_aload_n ok dX5_parcel_23 0 rfl rfl ?_
        refine r_getf ok ci_X5 fl_X5_10 (by decide) dX5_parcel_24 ho_o rfl ?_
        refine r_getf ok ci_X0 fl_X5_164 (by decide) dX5_parcel_27 (ho_rc cb_o) rfl ?_
        refine r_iload_n ok dX5_parcel_30 1 rfl rfl ?_
        refine r_aaldN ok 4 (Or.inr (Or.inl rfl)) (a + 1 + 26 + 8 * (c.pi qi)) (by omega) (by omega) dX5_parcel_31 (ho_rc cb_pi) (cbP_at (by omega)) ?_
        refine r_astore_n ok [(3, .ref (a + 1 + 26 + 8 * (c.pi qi))), (0, .ref a), (1, .int (nI (qi))), (2, .int (w))] dX5_parcel_32 rfl (by decide) rfl ?_
        refine r_iload_n ok dX5_parcel_33 3 rfl rfl ?_
        by_cases c34_4 : w = nI 0
        · skip
          subst c34_4
          refine r_table ok dX5_parcel_34 (t := 68) (by decide +kernel) (by decide +kernel) ?_
          have zx34_5 : zix (nI 0) 5 = some 0 := by decide +kernel
          refine r_aload_n ok dX5_parcel_68 0 rfl rfl ?_
          refine zW.to (M' := pcM G (hoM G M a c t hc sc kp hi sv sg pl d) (a + 1 + 26 + 8 * (c.pi qi)) (c.cn (c.pi qi)) (c.vl (c.pi qi)) (c.du (c.pi qi)) (c.io (c.pi qi))) ?_ (ho_pcs (by omega)).symm rfl rfl
          refine r_cV1 ok [] mi_X3_pieces ci_X3 ml_X5_168 im_X3_pieces se_X3_pieces dX5_parcel_69 (c_X3_pieces K.2.1 G (hoM G M a c t hc sc kp hi sv sg pl d) N (a + 1 + 26 + 8 * (c.pi qi)) (c.cn (c.pi qi)) (c.vl (c.pi qi)) (c.du (c.pi qi)) (c.io (c.pi qi))    ) pc_o rfl rfl ⟨Nat.le_of_ble_eq_true rfl, Nat.le_of_ble_eq_true rfl⟩ (Nat.le_of_ble_eq_true rfl) ⟨Nat.zero_le _, Nat.zero_le _⟩ ?_
          refine zW.to (M' := hoM G M a c t hc sc kp hi sv sg pl d) ?_ (ho_pcs (by omega)) rfl rfl
          exact r_iret ok dX5_parcel_72 rfl ⟨congrArg (fun z => some (Value.int z)) (show zPie (c.cn (c.pi qi)) = zE (zDpar c.un (nI (qi))) (zRparC c (nI 0)) from by simp [zDpar, zRparC, zSel, zE, zU, zOb, zCl_eta, zOd_eta, *] <;> rfl), rfl⟩
        by_cases c34_5 : w = nI 1
        · skip
          subst c34_5
          refine r_table ok dX5_parcel_34 (t := 73) (by decide +kernel) (by decide +kernel) ?_
          have zx34_5 : zix (nI 1) 5 = some 1 := by decide +kernel
          refine r_aload_n ok dX5_parcel_73 0 rfl rfl ?_
          refine r_getf ok ci_X3 fl_X5_172 (by decide) dX5_parcel_74 (ho_rc (cb_pc (by omega))) rfl ?_
          exact r_iret ok dX5_parcel_77 rfl ⟨congrArg (fun z => some (Value.int z)) (show c.vl (c.pi qi) = zE (zDpar c.un (nI (qi))) (zRparC c (nI 1)) from by simp [zDpar, zRparC, zSel, zE, zU, zOb, zCl_eta, zOd_eta, *] <;> rfl), rfl⟩
        by_cases c34_6 : w = nI 2
        · skip
          subst c34_6
          refine r_table ok dX5_parcel_34 (t := 78) (by decide +kernel) (by decide +kernel) ?_
          have zx34_5 : zix (nI 2) 5 = some 2 := by decide +kernel
          refine r_aload_n ok dX5_parcel_78 0 rfl rfl ?_
          refine zW.to (M' := pcM G (hoM G M a c t hc sc kp hi sv sg pl d) (a + 1 + 26 + 8 * (c.pi qi)) (c.cn (c.pi qi)) (c.vl (c.pi qi)) (c.du (c.pi qi)) (c.io (c.pi qi))) ?_ (ho_pcs (by omega)).symm rfl rfl
          refine r_cV1 ok [] mi_X3_owners ci_X3 ml_X5_175 im_X3_owners se_X3_owners dX5_parcel_79 (c_X3_owners K.2.1 G (hoM G M a c t hc sc kp hi sv sg pl d) N (a + 1 + 26 + 8 * (c.pi qi)) (c.cn (c.pi qi)) (c.vl (c.pi qi)) (c.du (c.pi qi)) (c.io (c.pi qi))    ) pc_o rfl rfl ⟨Nat.le_of_ble_eq_true rfl, Nat.le_of_ble_eq_true rfl⟩ (Nat.le_of_ble_eq_true rfl) ⟨Nat.zero_le _, Nat.zero_le _⟩ ?_
          refine zW.to (M' := hoM G M a c t hc sc kp hi sv sg pl d) ?_ (ho_pcs (by omega)) rfl rfl
          exact r_iret ok dX5_parcel_82 rfl ⟨congrArg (fun z => some (Value.int z)) (show zOwC (c.cn (c.pi qi)) 6 = zE (zDpar c.un (nI (qi))) (zRparC c (nI 2)) from by simp [zDpar, zRparC, zSel, zE, zU, zOb, zCl_eta, zOd_eta, *] <;> rfl), rfl⟩
        by_cases c34_7 : w = nI 3
        · skip
          subst c34_7
          refine r_table ok dX5_parcel_34 (t := 83) (by decide +kernel) (by decide +kernel) ?_
          have zx34_5 : zix (nI 3) 5 = some 3 := by decide +kernel
          refine r_aload_n ok dX5_parcel_83 0 rfl rfl ?_
          refine r_getf ok ci_X3 fl_X5_178 (by decide) dX5_parcel_84 (ho_rc (cb_pc (by omega))) rfl ?_
          refine r_aload_n ok dX5_parcel_87 1 rfl rfl ?_
          refine r_getf ok ci_X5 fl_X5_10 (by decide) dX5_parcel_88 ho_o rfl ?_
          refine r_getf ok ci_X0 fl_X5_140 (by decide) dX5_parcel_91 (ho_rc cb_o) rfl ?_
          refine r_isub ok dX5_parcel_94 ?_
          exact r_iret ok dX5_parcel_95 rfl ⟨congrArg (fun z => some (Value.int z)) (show (c.du (c.pi qi)) - c.dy = zE (zDpar c.un (nI (qi))) (zRparC c (nI 3)) from by simp [zDpar, zRparC, zSel, zE, zU, zOb, zCl_eta, zOd_eta, *] <;> rfl), rfl⟩
        by_cases c34_8 : w = nI 4
        · skip
          subst c34_8
          refine r_table ok dX5_parcel_34 (t := 96) (by decide +kernel) (by decide +kernel) ?_
          have zx34_5 : zix (nI 4) 5 = some 4 := by decide +kernel
          refine r_aload_n ok dX5_parcel_96 0 rfl rfl ?_
          refine r_getf ok ci_X3 fl_X5_181 (by decide) dX5_parcel_97 (ho_rc (cb_pc (by omega))) rfl ?_
          refine r_ifeqZ ok 107 dX5_parcel_100 (by decide) (fun c100_9 => ?_) (fun c100_9 => ?_)
          · skip
            refine r_iconst ok (nI 0) dX5_parcel_107 (by rfl) ?_
            exact r_iret ok dX5_parcel_108 rfl ⟨congrArg (fun z => some (Value.int z)) (show nI 0 = zE (zDpar c.un (nI (qi))) (zRparC c (nI 4)) from by simp [zDpar, zRparC, zSel, zE, zU, zOb, zCl_eta, zOd_eta, *] <;> rfl), rfl⟩
          · skip
            refine r_iconst ok (nI 1) dX5_parcel_103 (by rfl) ?_
            refine r_goto ok 108 dX5_parcel_104 (by decide) ?_
            exact r_iret ok dX5_parcel_108 rfl ⟨congrArg (fun z => some (Value.int z)) (show nI 1 = zE (zDpar c.un (nI (qi))) (zRparC c (nI 4)) from by simp [zDpar, zRparC, zSel, zE, zU, zOb, zCl_eta, zOd_eta, *] <;> rfl), rfl⟩
        have hd34 : w.toInt < 0 ∨ 4 < w.toInt := by
          rcases Int.lt_or_le w.toInt 0 with q | q
          · exact Or.inl q
          rcases Int.lt_or_le 4 w.toInt with q2 | q2
          · exact Or.inr q2
          have w0 : w.toInt ≠ 0 := fun z => c34_4 (Int32.toInt_inj.mp (z.trans (by decide +kernel)))
          have w1 : w.toInt ≠ 1 := fun z => c34_5 (Int32.toInt_inj.mp (z.trans (by decide +kernel)))
          have w2 : w.toInt ≠ 2 := fun z => c34_6 (Int32.toInt_inj.mp (z.trans (by decide +kernel)))
          have w3 : w.toInt ≠ 3 := fun z => c34_7 (Int32.toInt_inj.mp (z.trans (by decide +kernel)))
          have w4 : w.toInt ≠ 4 := fun z => c34_8 (Int32.toInt_inj.mp (z.trans (by decide +kernel)))
          omega
        refine r_table ok dX5_parcel_34 (t := 109) (by rw [if_pos hd34]; decide) (by decide) ?_
        have zx34_5 : zix w 5 = none := by unfold zix; rw [if_neg (by omega)]
        refine r_ldc ok ck_X5_48 dX5_parcel_109 ?_
        exact r_iret ok dX5_parcel_111 rfl ⟨congrArg (fun z => some (Value.int z)) (show -100002 = zE (zDpar c.un (nI (qi))) (zRparC c w) from by simp [zDpar, zRparC, zSel, zE, zU, zOb, zCl_eta, zOd_eta, *] <;> rfl), rfl⟩
      · skip
        exact absurd c17_3 (by omega)
set_option maxHeartbeats 4000000 in
set_option maxRecDepth 100000 in
theorem c_X5_count (l : Launch) (G : zG) (M : zM) (N a : Nat) (c t : zCl) (hc sc : Nat → zCl) (kp : Int32) (hi : Nat → Nat) (sv : Nat → Bool) (sg : Nat → Int32) (pl : Int32) (d : zOd) (kn : Nat) (w : Int32)  : zC l G yX5_count cX5_count 2 (some .int) 2 45 0 0 [.ref a, .int (w)] (hoM G M a c t hc sc (nI kn) hi sv sg pl d) N (zP (some (.int (zRcntC c kn pl w))) (hoM G M a c t hc sc (nI kn) hi sv sg pl d)) := by
  refine zC.of (by decide +kernel) (Nat.le_of_ble_eq_true rfl) ?_
  intro K hKl ok
  subst hKl
  show zW K G 2 _ 0 0 _ N 0 [(0, .ref a), (1, .int (w))] []
  refine r_iload_n ok dX5_count_0 1 rfl rfl ?_
  refine r_if_lt ok 26 dX5_count_1 (by decide) (fun c1_1 => ?_) (fun c1_1 => ?_)
  · skip
    have n_w := zix_neg' (n := 9) c1_1
    refine r_iload_n ok dX5_count_26 1 rfl rfl ?_
    by_cases c27_2 : w = nI 9
    · skip
      subst c27_2
      refine r_table ok dX5_count_27 (t := 80) (by decide +kernel) (by decide +kernel) ?_
      have zx27_19 : zix (nI 9) 19 = some 9 := by decide +kernel
      refine r_aload_n ok dX5_count_80 0 rfl rfl ?_
      refine r_getf ok ci_X5 fl_X5_10 (by decide) dX5_count_81 ho_o rfl ?_
      refine r_getf ok ci_X0 fl_X5_140 (by decide) dX5_count_84 (ho_rc cb_o) rfl ?_
      exact r_iret ok dX5_count_87 rfl ⟨congrArg (fun z => some (Value.int z)) (show c.dy = zRcntC c kn pl (nI 9) from by simp [zRcntC, zE, zU, zOb, zCl_eta, zOd_eta, *]), rfl⟩
    by_cases c27_3 : w = nI 10
    · skip
      subst c27_3
      refine r_table ok dX5_count_27 (t := 88) (by decide +kernel) (by decide +kernel) ?_
      have zx27_19 : zix (nI 10) 19 = some 10 := by decide +kernel
      refine r_aload_n ok dX5_count_88 0 rfl rfl ?_
      refine r_getf ok ci_X5 fl_X5_10 (by decide) dX5_count_89 ho_o rfl ?_
      refine r_getf ok ci_X0 fl_X5_109 (by decide) dX5_count_92 (ho_rc cb_o) rfl ?_
      refine r_cS1 ok [] mi_X5_sumOf ml_X5_128 sm_X5_sumOf dX5_count_95 (c_X5_sumOf K.2.1 G (hoM G M a c t hc sc (nI kn) hi sv sg pl d) N 6 c.ac ((a + 1 + 17)) (ho_rc cb_ac) (by omega)) rfl rfl ⟨Nat.le_of_ble_eq_true rfl, Nat.le_of_ble_eq_true rfl⟩ (Nat.le_of_ble_eq_true rfl) ⟨Nat.zero_le _, Nat.zero_le _⟩ ?_
      exact r_iret ok dX5_count_98 rfl ⟨congrArg (fun z => some (Value.int z)) (show lsum c.ac 6 = zRcntC c kn pl (nI 10) from by simp [zRcntC, zE, zU, zOb, zCl_eta, zOd_eta, *]), rfl⟩
    by_cases c27_4 : w = nI 11
    · skip
      subst c27_4
      refine r_table ok dX5_count_27 (t := 99) (by decide +kernel) (by decide +kernel) ?_
      have zx27_19 : zix (nI 11) 19 = some 11 := by decide +kernel
      refine r_aload_n ok dX5_count_99 0 rfl rfl ?_
      refine r_getf ok ci_X5 fl_X5_10 (by decide) dX5_count_100 ho_o rfl ?_
      refine r_getf ok ci_X0 fl_X5_132 (by decide) dX5_count_103 (ho_rc cb_o) rfl ?_
      exact r_iret ok dX5_count_106 rfl ⟨congrArg (fun z => some (Value.int z)) (show nI (c.un) = zRcntC c kn pl (nI 11) from by simp [zRcntC, zE, zU, zOb, zCl_eta, zOd_eta, *]), rfl⟩
    by_cases c27_5 : w = nI 12
    · skip
      subst c27_5
      refine r_table ok dX5_count_27 (t := 107) (by decide +kernel) (by decide +kernel) ?_
      have zx27_19 : zix (nI 12) 19 = some 12 := by decide +kernel
      refine r_aload_n ok dX5_count_107 0 rfl rfl ?_
      refine r_getf ok ci_X5 fl_X5_10 (by decide) dX5_count_108 ho_o rfl ?_
      refine r_getf ok ci_X0 fl_X5_185 (by decide) dX5_count_111 (ho_rc cb_o) rfl ?_
      exact r_iret ok dX5_count_114 rfl ⟨congrArg (fun z => some (Value.int z)) (show c.op = zRcntC c kn pl (nI 12) from by simp [zRcntC, zE, zU, zOb, zCl_eta, zOd_eta, *]), rfl⟩
    by_cases c27_6 : w = nI 13
    · skip
      subst c27_6
      refine r_table ok dX5_count_27 (t := 115) (by decide +kernel) (by decide +kernel) ?_
      have zx27_19 : zix (nI 13) 19 = some 13 := by decide +kernel
      refine r_aload_n ok dX5_count_115 0 rfl rfl ?_
      refine r_getf ok ci_X5 fl_X5_10 (by decide) dX5_count_116 ho_o rfl ?_
      refine r_getf ok ci_X0 fl_X5_158 (by decide) dX5_count_119 (ho_rc cb_o) rfl ?_
      refine r_cS1 ok [] mi_X5_sumOf ml_X5_128 sm_X5_sumOf dX5_count_122 (c_X5_sumOf K.2.1 G (hoM G M a c t hc sc (nI kn) hi sv sg pl d) N 6 c.pu ((a + 1 + 20)) (ho_rc cb_pu) (by omega)) rfl rfl ⟨Nat.le_of_ble_eq_true rfl, Nat.le_of_ble_eq_true rfl⟩ (Nat.le_of_ble_eq_true rfl) ⟨Nat.zero_le _, Nat.zero_le _⟩ ?_
      exact r_iret ok dX5_count_125 rfl ⟨congrArg (fun z => some (Value.int z)) (show lsum c.pu 6 = zRcntC c kn pl (nI 13) from by simp [zRcntC, zE, zU, zOb, zCl_eta, zOd_eta, *]), rfl⟩
    by_cases c27_7 : w = nI 14
    · skip
      subst c27_7
      refine r_table ok dX5_count_27 (t := 126) (by decide +kernel) (by decide +kernel) ?_
      have zx27_19 : zix (nI 14) 19 = some 14 := by decide +kernel
      refine r_aload_n ok dX5_count_126 0 rfl rfl ?_
      refine r_getf ok ci_X5 fl_X5_10 (by decide) dX5_count_127 ho_o rfl ?_
      refine r_getf ok ci_X0 fl_X5_161 (by decide) dX5_count_130 (ho_rc cb_o) rfl ?_
      refine r_cS1 ok [] mi_X5_sumOf ml_X5_128 sm_X5_sumOf dX5_count_133 (c_X5_sumOf K.2.1 G (hoM G M a c t hc sc (nI kn) hi sv sg pl d) N 6 c.lo ((a + 1 + 21)) (ho_rc cb_lo') (by omega)) rfl rfl ⟨Nat.le_of_ble_eq_true rfl, Nat.le_of_ble_eq_true rfl⟩ (Nat.le_of_ble_eq_true rfl) ⟨Nat.zero_le _, Nat.zero_le _⟩ ?_
      exact r_iret ok dX5_count_136 rfl ⟨congrArg (fun z => some (Value.int z)) (show lsum c.lo 6 = zRcntC c kn pl (nI 14) from by simp [zRcntC, zE, zU, zOb, zCl_eta, zOd_eta, *]), rfl⟩
    by_cases c27_8 : w = nI 15
    · skip
      subst c27_8
      refine r_table ok dX5_count_27 (t := 137) (by decide +kernel) (by decide +kernel) ?_
      have zx27_19 : zix (nI 15) 19 = some 15 := by decide +kernel
      refine r_aload_n ok dX5_count_137 0 rfl rfl ?_
      refine r_getf ok ci_X5 fl_X5_10 (by decide) dX5_count_138 ho_o rfl ?_
      refine zW.to (M' := cbM G (hoM G M a c t hc sc (nI kn) hi sv sg pl d) (a + 1) c.st c.dy c.x c.br c.sp c.wa c.ac c.ps c.pp c.pu c.lo (nI c.un) c.op c.pi c.cn c.vl c.du c.io c.hp c.hs) ?_ (ho_cI).symm rfl rfl
      refine r_cV1 ok [] mi_X0_brokenStrings ci_X0 ml_X5_188 im_X0_brokenStrings se_X0_brokenStrings dX5_count_141 (c_X0_brokenStrings K.2.1 G (hoM G M a c t hc sc (nI kn) hi sv sg pl d) N (a + 1) c.st c.dy c.x c.br c.sp c.wa c.ac c.ps c.pp c.pu c.lo (nI c.un) c.op c.pi c.cn c.vl c.du c.io c.hp c.hs   ) cb_o rfl rfl ⟨Nat.le_of_ble_eq_true rfl, Nat.le_of_ble_eq_true rfl⟩ (Nat.le_of_ble_eq_true rfl) ⟨Nat.zero_le _, Nat.zero_le _⟩ ?_
      refine zW.to (M' := hoM G M a c t hc sc (nI kn) hi sv sg pl d) ?_ (ho_cI) rfl rfl
      exact r_iret ok dX5_count_144 rfl ⟨congrArg (fun z => some (Value.int z)) (show lsum (zPopT c.br) 6 = zRcntC c kn pl (nI 15) from by simp [zRcntC, zE, zU, zOb, zCl_eta, zOd_eta, *]), rfl⟩
    by_cases c27_9 : w = nI 16
    · skip
      subst c27_9
      refine r_table ok dX5_count_27 (t := 145) (by decide +kernel) (by decide +kernel) ?_
      have zx27_19 : zix (nI 16) 19 = some 16 := by decide +kernel
      refine r_aload_n ok dX5_count_145 0 rfl rfl ?_
      refine r_getf ok ci_X5 fl_X5_10 (by decide) dX5_count_146 ho_o rfl ?_
      refine r_getf ok ci_X0 fl_X5_146 (by decide) dX5_count_149 (ho_rc cb_o) rfl ?_
      exact r_iret ok dX5_count_152 rfl ⟨congrArg (fun z => some (Value.int z)) (show c.x = zRcntC c kn pl (nI 16) from by simp [zRcntC, zE, zU, zOb, zCl_eta, zOd_eta, *]), rfl⟩
    by_cases c27_10 : w = nI 17
    · skip
      subst c27_10
      refine r_table ok dX5_count_27 (t := 153) (by decide +kernel) (by decide +kernel) ?_
      have zx27_19 : zix (nI 17) 19 = some 17 := by decide +kernel
      refine r_aload_n ok dX5_count_153 0 rfl rfl ?_
      refine r_getf ok ci_X5 fl_X5_33 (by decide) dX5_count_154 ho_o rfl ?_
      refine r_getf ok ci_X2 fl_X5_105 (by decide) dX5_count_157 (ho_rp pd_o) rfl ?_
      exact r_iret ok dX5_count_160 rfl ⟨congrArg (fun z => some (Value.int z)) (show pl = zRcntC c kn pl (nI 17) from by simp [zRcntC, zE, zU, zOb, zCl_eta, zOd_eta, *]), rfl⟩
    by_cases c27_11 : w = nI 18
    · skip
      subst c27_11
      refine r_table ok dX5_count_27 (t := 161) (by decide +kernel) (by decide +kernel) ?_
      have zx27_19 : zix (nI 18) 19 = some 18 := by decide +kernel
      refine r_aload_n ok dX5_count_161 0 rfl rfl ?_
      refine r_getf ok ci_X5 fl_X5_191 (by decide) dX5_count_162 ho_o rfl ?_
      exact r_iret ok dX5_count_165 rfl ⟨congrArg (fun z => some (Value.int z)) (show nI (kn) = zRcntC c kn pl (nI 18) from by simp [zRcntC, zE, zU, zOb, zCl_eta, zOd_eta, *]), rfl⟩
    have hd27 : w.toInt < 9 ∨ 18 < w.toInt := by
      rcases Int.lt_or_le w.toInt 9 with q | q
      · exact Or.inl q
      rcases Int.lt_or_le 18 w.toInt with q2 | q2
      · exact Or.inr q2
      have w9 : w.toInt ≠ 9 := fun z => c27_2 (Int32.toInt_inj.mp (z.trans (by decide +kernel)))
      have w10 : w.toInt ≠ 10 := fun z => c27_3 (Int32.toInt_inj.mp (z.trans (by decide +kernel)))
      have w11 : w.toInt ≠ 11 := fun z => c27_4 (Int32.toInt_inj.mp (z.trans (by decide +kernel)))
      have w12 : w.toInt ≠ 12 := fun z => c27_5 (Int32.toInt_inj.mp (z.trans (by decide +kernel)))
      have w13 : w.toInt ≠ 13 := fun z => c27_6 (Int32.toInt_inj.mp (z.trans (by decide +kernel)))
      have w14 : w.toInt ≠ 14 := fun z => c27_7 (Int32.toInt_inj.mp (z.trans (by decide +kernel)))
      have w15 : w.toInt ≠ 15 := fun z => c27_8 (Int32.toInt_inj.mp (z.trans (by decide +kernel)))
      have w16 : w.toInt ≠ 16 := fun z => c27_9 (Int32.toInt_inj.mp (z.trans (by decide +kernel)))
      have w17 : w.toInt ≠ 17 := fun z => c27_10 (Int32.toInt_inj.mp (z.trans (by decide +kernel)))
      have w18 : w.toInt ≠ 18 := fun z => c27_11 (Int32.toInt_inj.mp (z.trans (by decide +kernel)))
      omega
    refine r_table ok dX5_count_27 (t := 166) (by rw [if_pos hd27]; decide) (by decide) ?_
    have zx27_19 : zix w 19 = none := by unfold zix; rw [if_neg (by have := zix_noneN n_w; omega)]
    refine r_ldc ok ck_X5_48 dX5_count_166 ?_
    exact r_iret ok dX5_count_168 rfl ⟨congrArg (fun z => some (Value.int z)) (show -100002 = zRcntC c kn pl w from by simp [zRcntC, zE, zU, zOb, zCl_eta, zOd_eta, *]), rfl⟩
  · skip
    have l_w := c1_1
    refine r_iload_n ok dX5_count_4 1 rfl rfl ?_
    refine r_aload_n ok dX5_count_5 0 rfl rfl ?_
    refine r_getf ok ci_X5 fl_X5_10 (by decide) dX5_count_6 ho_o rfl ?_
    refine r_getf ok ci_X0 fl_X5_55 (by decide) dX5_count_9 (ho_rc cb_o) rfl ?_
    refine r_alen ok (nI 9) (t := 0) rfl dX5_count_12 (ho_rc cb_st) (by rfl) ?_
    refine r_icmp_ge ok 26 dX5_count_13 (by decide) (fun c13_12 => ?_) (fun c13_12 => ?_)
    · skip
      have n_w := zix_ge' (n := 9) (by omega) c13_12
      refine r_iload_n ok dX5_count_26 1 rfl rfl ?_
      by_cases c27_13 : w = nI 9
      · skip
        subst c27_13
        refine r_table ok dX5_count_27 (t := 80) (by decide +kernel) (by decide +kernel) ?_
        have zx27_19 : zix (nI 9) 19 = some 9 := by decide +kernel
        refine r_aload_n ok dX5_count_80 0 rfl rfl ?_
        refine r_getf ok ci_X5 fl_X5_10 (by decide) dX5_count_81 ho_o rfl ?_
        refine r_getf ok ci_X0 fl_X5_140 (by decide) dX5_count_84 (ho_rc cb_o) rfl ?_
        exact r_iret ok dX5_count_87 rfl ⟨congrArg (fun z => some (Value.int z)) (show c.dy = zRcntC c kn pl (nI 9) from by simp [zRcntC, zE, zU, zOb, zCl_eta, zOd_eta, *]), rfl⟩
      by_cases c27_14 : w = nI 10
      · skip
        subst c27_14
        refine r_table ok dX5_count_27 (t := 88) (by decide +kernel) (by decide +kernel) ?_
        have zx27_19 : zix (nI 10) 19 = some 10 := by decide +kernel
        refine r_aload_n ok dX5_count_88 0 rfl rfl ?_
        refine r_getf ok ci_X5 fl_X5_10 (by decide) dX5_count_89 ho_o rfl ?_
        refine r_getf ok ci_X0 fl_X5_109 (by decide) dX5_count_92 (ho_rc cb_o) rfl ?_
        refine r_cS1 ok [] mi_X5_sumOf ml_X5_128 sm_X5_sumOf dX5_count_95 (c_X5_sumOf K.2.1 G (hoM G M a c t hc sc (nI kn) hi sv sg pl d) N 6 c.ac ((a + 1 + 17)) (ho_rc cb_ac) (by omega)) rfl rfl ⟨Nat.le_of_ble_eq_true rfl, Nat.le_of_ble_eq_true rfl⟩ (Nat.le_of_ble_eq_true rfl) ⟨Nat.zero_le _, Nat.zero_le _⟩ ?_
        exact r_iret ok dX5_count_98 rfl ⟨congrArg (fun z => some (Value.int z)) (show lsum c.ac 6 = zRcntC c kn pl (nI 10) from by simp [zRcntC, zE, zU, zOb, zCl_eta, zOd_eta, *]), rfl⟩
      by_cases c27_15 : w = nI 11
      · skip
        subst c27_15
        refine r_table ok dX5_count_27 (t := 99) (by decide +kernel) (by decide +kernel) ?_
        have zx27_19 : zix (nI 11) 19 = some 11 := by decide +kernel
        refine r_aload_n ok dX5_count_99 0 rfl rfl ?_
        refine r_getf ok ci_X5 fl_X5_10 (by decide) dX5_count_100 ho_o rfl ?_
        refine r_getf ok ci_X0 fl_X5_132 (by decide) dX5_count_103 (ho_rc cb_o) rfl ?_
        exact r_iret ok dX5_count_106 rfl ⟨congrArg (fun z => some (Value.int z)) (show nI (c.un) = zRcntC c kn pl (nI 11) from by simp [zRcntC, zE, zU, zOb, zCl_eta, zOd_eta, *]), rfl⟩
      by_cases c27_16 : w = nI 12
      · skip
        subst c27_16
        refine r_table ok dX5_count_27 (t := 107) (by decide +kernel) (by decide +kernel) ?_
        have zx27_19 : zix (nI 12) 19 = some 12 := by decide +kernel
        refine r_aload_n ok dX5_count_107 0 rfl rfl ?_
        refine r_getf ok ci_X5 fl_X5_10 (by decide) dX5_count_108 ho_o rfl ?_
        refine r_getf ok ci_X0 fl_X5_185 (by decide) dX5_count_111 (ho_rc cb_o) rfl ?_
        exact r_iret ok dX5_count_114 rfl ⟨congrArg (fun z => some (Value.int z)) (show c.op = zRcntC c kn pl (nI 12) from by simp [zRcntC, zE, zU, zOb, zCl_eta, zOd_eta, *]), rfl⟩
      by_cases c27_17 : w = nI 13
      · skip
        subst c27_17
        refine r_table ok dX5_count_27 (t := 115) (by decide +kernel) (by decide +kernel) ?_
        have zx27_19 : zix (nI 13) 19 = some 13 := by decide +kernel
        refine r_aload_n ok dX5_count_115 0 rfl rfl ?_
        refine r_getf ok ci_X5 fl_X5_10 (by decide) dX5_count_116 ho_o rfl ?_
        refine r_getf ok ci_X0 fl_X5_158 (by decide) dX5_count_119 (ho_rc cb_o) rfl ?_
        refine r_cS1 ok [] mi_X5_sumOf ml_X5_128 sm_X5_sumOf dX5_count_122 (c_X5_sumOf K.2.1 G (hoM G M a c t hc sc (nI kn) hi sv sg pl d) N 6 c.pu ((a + 1 + 20)) (ho_rc cb_pu) (by omega)) rfl rfl ⟨Nat.le_of_ble_eq_true rfl, Nat.le_of_ble_eq_true rfl⟩ (Nat.le_of_ble_eq_true rfl) ⟨Nat.zero_le _, Nat.zero_le _⟩ ?_
        exact r_iret ok dX5_count_125 rfl ⟨congrArg (fun z => some (Value.int z)) (show lsum c.pu 6 = zRcntC c kn pl (nI 13) from by simp [zRcntC, zE, zU, zOb, zCl_eta, zOd_eta, *]), rfl⟩
      by_cases c27_18 : w = nI 14
      · skip
        subst c27_18
        refine r_table ok dX5_count_27 (t := 126) (by decide +kernel) (by decide +kernel) ?_
        have zx27_19 : zix (nI 14) 19 = some 14 := by decide +kernel
        refine r_aload_n ok dX5_count_126 0 rfl rfl ?_
        refine r_getf ok ci_X5 fl_X5_10 (by decide) dX5_count_127 ho_o rfl ?_
        refine r_getf ok ci_X0 fl_X5_161 (by decide) dX5_count_130 (ho_rc cb_o) rfl ?_
        refine r_cS1 ok [] mi_X5_sumOf ml_X5_128 sm_X5_sumOf dX5_count_133 (c_X5_sumOf K.2.1 G (hoM G M a c t hc sc (nI kn) hi sv sg pl d) N 6 c.lo ((a + 1 + 21)) (ho_rc cb_lo') (by omega)) rfl rfl ⟨Nat.le_of_ble_eq_true rfl, Nat.le_of_ble_eq_true rfl⟩ (Nat.le_of_ble_eq_true rfl) ⟨Nat.zero_le _, Nat.zero_le _⟩ ?_
        exact r_iret ok dX5_count_136 rfl ⟨congrArg (fun z => some (Value.int z)) (show lsum c.lo 6 = zRcntC c kn pl (nI 14) from by simp [zRcntC, zE, zU, zOb, zCl_eta, zOd_eta, *]), rfl⟩
      by_cases c27_19 : w = nI 15
      · skip
        subst c27_19
        refine r_table ok dX5_count_27 (t := 137) (by decide +kernel) (by decide +kernel) ?_
        have zx27_19 : zix (nI 15) 19 = some 15 := by decide +kernel
        refine r_aload_n ok dX5_count_137 0 rfl rfl ?_
        refine r_getf ok ci_X5 fl_X5_10 (by decide) dX5_count_138 ho_o rfl ?_
        refine zW.to (M' := cbM G (hoM G M a c t hc sc (nI kn) hi sv sg pl d) (a + 1) c.st c.dy c.x c.br c.sp c.wa c.ac c.ps c.pp c.pu c.lo (nI c.un) c.op c.pi c.cn c.vl c.du c.io c.hp c.hs) ?_ (ho_cI).symm rfl rfl
        refine r_cV1 ok [] mi_X0_brokenStrings ci_X0 ml_X5_188 im_X0_brokenStrings se_X0_brokenStrings dX5_count_141 (c_X0_brokenStrings K.2.1 G (hoM G M a c t hc sc (nI kn) hi sv sg pl d) N (a + 1) c.st c.dy c.x c.br c.sp c.wa c.ac c.ps c.pp c.pu c.lo (nI c.un) c.op c.pi c.cn c.vl c.du c.io c.hp c.hs   ) cb_o rfl rfl ⟨Nat.le_of_ble_eq_true rfl, Nat.le_of_ble_eq_true rfl⟩ (Nat.le_of_ble_eq_true rfl) ⟨Nat.zero_le _, Nat.zero_le _⟩ ?_
        refine zW.to (M' := hoM G M a c t hc sc (nI kn) hi sv sg pl d) ?_ (ho_cI) rfl rfl
        exact r_iret ok dX5_count_144 rfl ⟨congrArg (fun z => some (Value.int z)) (show lsum (zPopT c.br) 6 = zRcntC c kn pl (nI 15) from by simp [zRcntC, zE, zU, zOb, zCl_eta, zOd_eta, *]), rfl⟩
      by_cases c27_20 : w = nI 16
      · skip
        subst c27_20
        refine r_table ok dX5_count_27 (t := 145) (by decide +kernel) (by decide +kernel) ?_
        have zx27_19 : zix (nI 16) 19 = some 16 := by decide +kernel
        refine r_aload_n ok dX5_count_145 0 rfl rfl ?_
        refine r_getf ok ci_X5 fl_X5_10 (by decide) dX5_count_146 ho_o rfl ?_
        refine r_getf ok ci_X0 fl_X5_146 (by decide) dX5_count_149 (ho_rc cb_o) rfl ?_
        exact r_iret ok dX5_count_152 rfl ⟨congrArg (fun z => some (Value.int z)) (show c.x = zRcntC c kn pl (nI 16) from by simp [zRcntC, zE, zU, zOb, zCl_eta, zOd_eta, *]), rfl⟩
      by_cases c27_21 : w = nI 17
      · skip
        subst c27_21
        refine r_table ok dX5_count_27 (t := 153) (by decide +kernel) (by decide +kernel) ?_
        have zx27_19 : zix (nI 17) 19 = some 17 := by decide +kernel
        refine r_aload_n ok dX5_count_153 0 rfl rfl ?_
        refine r_getf ok ci_X5 fl_X5_33 (by decide) dX5_count_154 ho_o rfl ?_
        refine r_getf ok ci_X2 fl_X5_105 (by decide) dX5_count_157 (ho_rp pd_o) rfl ?_
        exact r_iret ok dX5_count_160 rfl ⟨congrArg (fun z => some (Value.int z)) (show pl = zRcntC c kn pl (nI 17) from by simp [zRcntC, zE, zU, zOb, zCl_eta, zOd_eta, *]), rfl⟩
      by_cases c27_22 : w = nI 18
      · skip
        subst c27_22
        refine r_table ok dX5_count_27 (t := 161) (by decide +kernel) (by decide +kernel) ?_
        have zx27_19 : zix (nI 18) 19 = some 18 := by decide +kernel
        refine r_aload_n ok dX5_count_161 0 rfl rfl ?_
        refine r_getf ok ci_X5 fl_X5_191 (by decide) dX5_count_162 ho_o rfl ?_
        exact r_iret ok dX5_count_165 rfl ⟨congrArg (fun z => some (Value.int z)) (show nI (kn) = zRcntC c kn pl (nI 18) from by simp [zRcntC, zE, zU, zOb, zCl_eta, zOd_eta, *]), rfl⟩
      have hd27 : w.toInt < 9 ∨ 18 < w.toInt := by
        rcases Int.lt_or_le w.toInt 9 with q | q
        · exact Or.inl q
        rcases Int.lt_or_le 18 w.toInt with q2 | q2
        · exact Or.inr q2
        have w9 : w.toInt ≠ 9 := fun z => c27_13 (Int32.toInt_inj.mp (z.trans (by decide +kernel)))
        have w10 : w.toInt ≠ 10 := fun z => c27_14 (Int32.toInt_inj.mp (z.trans (by decide +kernel)))
        have w11 : w.toInt ≠ 11 := fun z => c27_15 (Int32.toInt_inj.mp (z.trans (by decide +kernel)))
        have w12 : w.toInt ≠ 12 := fun z => c27_16 (Int32.toInt_inj.mp (z.trans (by decide +kernel)))
        have w13 : w.toInt ≠ 13 := fun z => c27_17 (Int32.toInt_inj.mp (z.trans (by decide +kernel)))
        have w14 : w.toInt ≠ 14 := fun z => c27_18 (Int32.toInt_inj.mp (z.trans (by decide +kernel)))
        have w15 : w.toInt ≠ 15 := fun z => c27_19 (Int32.toInt_inj.mp (z.trans (by decide +kernel)))
        have w16 : w.toInt ≠ 16 := fun z => c27_20 (Int32.toInt_inj.mp (z.trans (by decide +kernel)))
        have w17 : w.toInt ≠ 17 := fun z => c27_21 (Int32.toInt_inj.mp (z.trans (by decide +kernel)))
        have w18 : w.toInt ≠ 18 := fun z => c27_22 (Int32.toInt_inj.mp (z.trans (by decide +kernel)))
        omega
      refine r_table ok dX5_count_27 (t := 166) (by rw [if_pos hd27]; decide) (by decide) ?_
      have zx27_19 : zix w 19 = none := by unfold zix; rw [if_neg (by have := zix_noneN n_w; omega)]
      refine r_ldc ok ck_X5_48 dX5_count_166 ?_
      exact r_iret ok dX5_count_168 rfl ⟨congrArg (fun z => some (Value.int z)) (show -100002 = zRcntC c kn pl w from by simp [zRcntC, zE, zU, zOb, zCl_eta, zOd_eta, *]), rfl⟩
    · skip
      obtain ⟨wi, h_w, e_w, z_w⟩ := zix_in' (n := 9) (by omega) l_w (Int32.not_le.mp c13_12)
      subst e_w
      refine r_aload_n ok dX5_count_16 0 rfl rfl ?_
      refine r_getf ok ci_X5 fl_X5_10 (by decide) dX5_count_17 ho_o rfl ?_
      refine r_getf ok ci_X0 fl_X5_55 (by decide) dX5_count_20 (ho_rc cb_o) rfl ?_
      refine r_iload_n ok dX5_count_23 1 rfl rfl ?_
      refine r_ialdN ok (by omega) (by omega) dX5_count_24 (ho_rc cb_st) ?_
      exact r_iret ok dX5_count_25 rfl ⟨congrArg (fun z => some (Value.int z)) (show c.st wi = zRcntC c kn pl (nI (wi)) from by simp [zRcntC, zE, zU, zOb, zCl_eta, zOd_eta, *]), rfl⟩
set_option maxHeartbeats 4000000 in
set_option maxRecDepth 100000 in
theorem c_X5_order (l : Launch) (G : zG) (M : zM) (N a : Nat) (c t : zCl) (hc sc : Nat → zCl) (kp : Int32) (hi : Nat → Nat) (sv : Nat → Bool) (sg : Nat → Int32) (pl : Int32) (d : zOd)  (mm : Int32) (w : Int32)  : zC l G yX5_order cX5_order 3 (some .int) 3 67 0 0 [.ref a, .int (mm), .int (w)] (hoM G M a c t hc sc kp hi sv sg pl d) N (zP (some (.int (zE (zDord mm) (fun _ => zRordC c mm w d)))) (hoM G M a c t hc sc kp hi sv sg pl (zU (zDord mm) d (fun _ => zGaO c mm d)))) := by
  refine zC.of (by decide +kernel) (Nat.le_of_ble_eq_true rfl) ?_
  intro K hKl ok
  subst hKl
  show zW K G 3 _ 0 0 _ N 0 [(0, .ref a), (1, .int (mm)), (2, .int (w))] []
  refine r_iload_n ok dX5_order_0 1 rfl rfl ?_
  refine r_cS1 ok [] mi_X5_isSet ml_X5_115 sm_X5_isSet dX5_order_1 (c_X5_isSet K.2.1 G (hoM G M a c t hc sc kp hi sv sg pl d) N  mm ) rfl rfl ⟨Nat.le_of_ble_eq_true rfl, Nat.le_of_ble_eq_true rfl⟩ (Nat.le_of_ble_eq_true rfl) ⟨Nat.zero_le _, Nat.zero_le _⟩ ?_
  refine r_ifneZ ok 10 dX5_order_4 (by decide) (fun c4_1 => ?_) (fun c4_1 => ?_)
  · skip
    refine r_aload_n ok dX5_order_10 0 rfl rfl ?_
    refine r_getf ok ci_X5 fl_X5_40 (by decide) dX5_order_11 ho_o rfl ?_
    refine r_aload_n ok dX5_order_14 0 rfl rfl ?_
    refine r_getf ok ci_X5 fl_X5_10 (by decide) dX5_order_15 ho_o rfl ?_
    refine r_iload_n ok dX5_order_18 1 rfl rfl ?_
    refine zW.to (M' := odM G (cbM G (hoM G M a c t hc sc kp hi sv sg pl d) (a + 1) c.st c.dy c.x c.br c.sp c.wa c.ac c.ps c.pp c.pu c.lo (nI c.un) c.op c.pi c.cn c.vl c.du c.io c.hp c.hs) (a + 138) d.og d.pr d.pc d.vl d.po d.pt d.sr) ?_ (((congrArg (fun z => odM G z (a + 138) d.og d.pr d.pc d.vl d.po d.pt d.sr) ho_cI).trans ho_dI)).symm rfl rfl
    refine r_cV0 ok [] mi_X1_gather ci_X1 ml_X5_118 im_X1_gather se_X1_gather dX5_order_19 (c_X1_gather K.2.1 G (hoM G M a c t hc sc kp hi sv sg pl d) N (a + 1) c.st c.dy c.x c.br c.sp c.wa c.ac c.ps c.pp c.pu c.lo (nI c.un) c.op c.pi c.cn c.vl c.du c.io c.hp c.hs (a + 138) d.og d.pr d.pc d.vl d.po d.pt d.sr  mm (by omega)) od_o rfl rfl ⟨Nat.le_of_ble_eq_true rfl, Nat.le_of_ble_eq_true rfl⟩ (Nat.le_of_ble_eq_true rfl) ⟨Nat.zero_le _, Nat.zero_le _⟩ ?_
    refine zW.to (M' := hoM G M a c t hc sc kp hi sv sg pl (zOd.mk (zOgF c.wa mm d.og) (zC0 d.pr (zPrT c.st (zOgF c.wa mm d.og)) 8) (lsum (zOgF c.wa mm d.og) 8) (lsum (zOvT c.st (zOgF c.wa mm d.og)) 8) (zOpo c.st (zOgF c.wa mm d.og)) d.pt d.sr)) ?_ (((congrArg (fun z => odM G z (a + 138) (zOgF c.wa mm d.og) (zC0 d.pr (zPrT c.st (zOgF c.wa mm d.og)) 8) (lsum (zOgF c.wa mm d.og) 8) (lsum (zOvT c.st (zOgF c.wa mm d.og)) 8) (zOpo c.st (zOgF c.wa mm d.og)) d.pt d.sr) ho_cI).trans (ho_d (zOd.mk (zOgF c.wa mm d.og) (zC0 d.pr (zPrT c.st (zOgF c.wa mm d.og)) 8) (lsum (zOgF c.wa mm d.og) 8) (lsum (zOvT c.st (zOgF c.wa mm d.og)) 8) (zOpo c.st (zOgF c.wa mm d.og)) d.pt d.sr)))) rfl rfl
    refine zW.to (M' := hoM G M a c t hc sc kp hi sv sg pl (zGaO c mm d)) ?_ rfl rfl rfl
    refine r_iload_n ok dX5_order_22 2 rfl rfl ?_
    by_cases c23_2 : w = nI 0
    · skip
      subst c23_2
      refine r_table ok dX5_order_23 (t := 56) (by decide +kernel) (by decide +kernel) ?_
      have zx23_5 : zix (nI 0) 5 = some 0 := by decide +kernel
      refine r_aload_n ok dX5_order_56 0 rfl rfl ?_
      refine r_getf ok ci_X5 fl_X5_40 (by decide) dX5_order_57 ho_o rfl ?_
      refine zW.to (M' := odM G (hoM G M a c t hc sc kp hi sv sg pl (zGaO c mm d)) (a + 138) ((zGaO c mm d).og) ((zGaO c mm d).pr) ((zGaO c mm d).pc) ((zGaO c mm d).vl) ((zGaO c mm d).po) ((zGaO c mm d).pt) ((zGaO c mm d).sr)) ?_ (ho_dI).symm rfl rfl
      refine r_cV1 ok [] mi_X1_cost ci_X1 ml_X5_125 im_X1_cost se_X1_cost dX5_order_60 (c_X1_cost K.2.1 G (hoM G M a c t hc sc kp hi sv sg pl (zGaO c mm d)) N (a + 138) ((zGaO c mm d).og) ((zGaO c mm d).pr) ((zGaO c mm d).pc) ((zGaO c mm d).vl) ((zGaO c mm d).po) ((zGaO c mm d).pt) ((zGaO c mm d).sr)   ) od_o rfl rfl ⟨Nat.le_of_ble_eq_true rfl, Nat.le_of_ble_eq_true rfl⟩ (Nat.le_of_ble_eq_true rfl) ⟨Nat.zero_le _, Nat.zero_le _⟩ ?_
      refine zW.to (M' := hoM G M a c t hc sc kp hi sv sg pl (zGaO c mm d)) ?_ (ho_dI) rfl rfl
      exact r_iret ok dX5_order_63 rfl ⟨congrArg (fun z => some (Value.int z)) (show ((zGaO c mm d).vl) + ((zGaO c mm d).po) = zE (zDord mm) (fun _ => zRordC c mm (nI 0) d) from by simp [zDord, zRordC, zSel, zCoO, zE, zU, zOb, zCl_eta, zOd_eta, *]), (by simp [zDord, zE, zU, zOb, zCl_eta, zOd_eta, *])⟩
    by_cases c23_3 : w = nI 1
    · skip
      subst c23_3
      refine r_table ok dX5_order_23 (t := 64) (by decide +kernel) (by decide +kernel) ?_
      have zx23_5 : zix (nI 1) 5 = some 1 := by decide +kernel
      refine r_aload_n ok dX5_order_64 0 rfl rfl ?_
      refine r_getf ok ci_X5 fl_X5_40 (by decide) dX5_order_65 ho_o rfl ?_
      refine r_getf ok ci_X1 fl_X5_194 (by decide) dX5_order_68 (ho_rd od_o) rfl ?_
      exact r_iret ok dX5_order_71 rfl ⟨congrArg (fun z => some (Value.int z)) (show (zGaO c mm d).vl = zE (zDord mm) (fun _ => zRordC c mm (nI 1) d) from by simp [zDord, zRordC, zSel, zCoO, zE, zU, zOb, zCl_eta, zOd_eta, *]), (by simp [zDord, zE, zU, zOb, zCl_eta, zOd_eta, *])⟩
    by_cases c23_4 : w = nI 2
    · skip
      subst c23_4
      refine r_table ok dX5_order_23 (t := 72) (by decide +kernel) (by decide +kernel) ?_
      have zx23_5 : zix (nI 2) 5 = some 2 := by decide +kernel
      refine r_aload_n ok dX5_order_72 0 rfl rfl ?_
      refine r_getf ok ci_X5 fl_X5_40 (by decide) dX5_order_73 ho_o rfl ?_
      refine r_getf ok ci_X1 fl_X5_195 (by decide) dX5_order_76 (ho_rd od_o) rfl ?_
      exact r_iret ok dX5_order_79 rfl ⟨congrArg (fun z => some (Value.int z)) (show (zGaO c mm d).po = zE (zDord mm) (fun _ => zRordC c mm (nI 2) d) from by simp [zDord, zRordC, zSel, zCoO, zE, zU, zOb, zCl_eta, zOd_eta, *]), (by simp [zDord, zE, zU, zOb, zCl_eta, zOd_eta, *])⟩
    by_cases c23_5 : w = nI 3
    · skip
      subst c23_5
      refine r_table ok dX5_order_23 (t := 80) (by decide +kernel) (by decide +kernel) ?_
      have zx23_5 : zix (nI 3) 5 = some 3 := by decide +kernel
      refine r_aload_n ok dX5_order_80 0 rfl rfl ?_
      refine r_getf ok ci_X5 fl_X5_40 (by decide) dX5_order_81 ho_o rfl ?_
      refine r_getf ok ci_X1 fl_X5_122 (by decide) dX5_order_84 (ho_rd od_o) rfl ?_
      exact r_iret ok dX5_order_87 rfl ⟨congrArg (fun z => some (Value.int z)) (show (zGaO c mm d).pc = zE (zDord mm) (fun _ => zRordC c mm (nI 3) d) from by simp [zDord, zRordC, zSel, zCoO, zE, zU, zOb, zCl_eta, zOd_eta, *]), (by simp [zDord, zE, zU, zOb, zCl_eta, zOd_eta, *])⟩
    by_cases c23_6 : w = nI 4
    · skip
      subst c23_6
      refine r_table ok dX5_order_23 (t := 88) (by decide +kernel) (by decide +kernel) ?_
      have zx23_5 : zix (nI 4) 5 = some 4 := by decide +kernel
      refine r_aload_n ok dX5_order_88 0 rfl rfl ?_
      refine r_getf ok ci_X5 fl_X5_40 (by decide) dX5_order_89 ho_o rfl ?_
      refine r_getf ok ci_X1 fl_X5_194 (by decide) dX5_order_92 (ho_rd od_o) rfl ?_
      refine r_aload_n ok dX5_order_95 0 rfl rfl ?_
      refine r_getf ok ci_X5 fl_X5_10 (by decide) dX5_order_96 ho_o rfl ?_
      refine r_getf ok ci_X0 fl_X5_55 (by decide) dX5_order_99 (ho_rc cb_o) rfl ?_
      refine r_cS1 ok [] mi_X5_dutyOn ml_X5_198 sm_X5_dutyOn dX5_order_102 (c_X5_dutyOn K.2.1 G (hoM G M a c t hc sc kp hi sv sg pl (zGaO c mm d)) N c.st ((zGaO c mm d).vl) ((a + 1 + 1)) (ho_rc cb_st)) rfl rfl ⟨Nat.le_of_ble_eq_true rfl, Nat.le_of_ble_eq_true rfl⟩ (Nat.le_of_ble_eq_true rfl) ⟨Nat.zero_le _, Nat.zero_le _⟩ ?_
      exact r_iret ok dX5_order_105 rfl ⟨congrArg (fun z => some (Value.int z)) (show zDutyC c.st ((zGaO c mm d).vl) = zE (zDord mm) (fun _ => zRordC c mm (nI 4) d) from by simp [zDord, zRordC, zSel, zCoO, zE, zU, zOb, zCl_eta, zOd_eta, *]), (by simp [zDord, zE, zU, zOb, zCl_eta, zOd_eta, *])⟩
    have hd23 : w.toInt < 0 ∨ 4 < w.toInt := by
      rcases Int.lt_or_le w.toInt 0 with q | q
      · exact Or.inl q
      rcases Int.lt_or_le 4 w.toInt with q2 | q2
      · exact Or.inr q2
      have w0 : w.toInt ≠ 0 := fun z => c23_2 (Int32.toInt_inj.mp (z.trans (by decide +kernel)))
      have w1 : w.toInt ≠ 1 := fun z => c23_3 (Int32.toInt_inj.mp (z.trans (by decide +kernel)))
      have w2 : w.toInt ≠ 2 := fun z => c23_4 (Int32.toInt_inj.mp (z.trans (by decide +kernel)))
      have w3 : w.toInt ≠ 3 := fun z => c23_5 (Int32.toInt_inj.mp (z.trans (by decide +kernel)))
      have w4 : w.toInt ≠ 4 := fun z => c23_6 (Int32.toInt_inj.mp (z.trans (by decide +kernel)))
      omega
    refine r_table ok dX5_order_23 (t := 106) (by rw [if_pos hd23]; decide) (by decide) ?_
    have zx23_5 : zix w 5 = none := by unfold zix; rw [if_neg (by omega)]
    refine r_ldc ok ck_X5_48 dX5_order_106 ?_
    exact r_iret ok dX5_order_108 rfl ⟨congrArg (fun z => some (Value.int z)) (show -100002 = zE (zDord mm) (fun _ => zRordC c mm w d) from by simp [zDord, zRordC, zSel, zCoO, zE, zU, zOb, zCl_eta, zOd_eta, *]), (by simp [zDord, zE, zU, zOb, zCl_eta, zOd_eta, *])⟩
  · skip
    refine r_ldc ok ck_X5_48 dX5_order_7 ?_
    exact r_iret ok dX5_order_9 rfl ⟨congrArg (fun z => some (Value.int z)) (show -100002 = zE (zDord mm) (fun _ => zRordC c mm w d) from by simp [zDord, zRordC, zSel, zCoO, zE, zU, zOb, zCl_eta, zOd_eta, *]), (by simp [zDord, zE, zU, zOb, zCl_eta, zOd_eta, *])⟩
