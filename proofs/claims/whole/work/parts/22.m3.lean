set_option maxHeartbeats 4000000 in
set_option maxRecDepth 100000 in
theorem c_X6_bits (l : Launch) (G : zG) (M : zM) (N : Nat)  (x : Int32)  : zC l G yX6_bits cX6_bits 3 (some .int) 0 0 0 0 [.int (x)] (M) N (zP (some (.int (zBits x))) (M)) := by
  refine zC.of (by decide +kernel) (Nat.le_of_ble_eq_true rfl) ?_
  intro K hKl ok
  subst hKl
  show zW K G 3 _ 0 0 _ N 0 [(0, .int (x))] []
  refine r_iconst ok (nI 0) dX6_bits_0 (by rfl) ?_
  refine r_istore_n ok [(1, .int (nI 0)), (0, .int (x))] dX6_bits_1 rfl (by decide) rfl ?_
  refine r_iconst ok (nI 0) dX6_bits_2 (by rfl) ?_
  refine r_istore_n ok [(2, .int (nI 0)), (1, .int (nI 0)), (0, .int (x))] dX6_bits_3 rfl (by decide) rfl ?_
  have L1 : ∀ (nL1 : Nat) (k : Nat), ((k + nL1 = 8)) → zW K G 3 (zQ K G (N + 0) 0 0 (zP (some (.int (zBits x))) (M))) 0 0 (M) N 4 [(0, .int (x)), (1, .int (lsum (zBitT x) k)), (2, .int (nI (k)))] [] := by
    intro nL1
    induction nL1 with
    | zero =>
      intro k hk_k 
      obtain rfl : 8 = k := by omega
      refine r_iload_n ok dX6_bits_4 2 rfl rfl ?_
      refine r_bipush ok (nI 8) dX6_bits_5 (by rfl) ?_
      refine r_icmp_geN ok 24 (by omega) (by omega) dX6_bits_7 (by decide) (fun _ => ?_) (fun c => absurd c (by decide))
      refine r_iload_n ok dX6_bits_24 1 rfl rfl ?_
      exact r_iret ok dX6_bits_25 rfl ⟨congrArg (fun z => some (Value.int z)) (show lsum (zBitT x) 8 = zBits x from by rfl), rfl⟩
    | succ nL1 ihL1 =>
      intro k hk_k 
      refine r_iload_n ok dX6_bits_4 2 rfl rfl ?_
      refine r_bipush ok (nI 8) dX6_bits_5 (by rfl) ?_
      refine r_icmp_geN ok 24 (by omega) (by omega) dX6_bits_7 (by decide) (fun c7_3 => ?_) (fun c7_3 => ?_)
      · skip
        exact absurd c7_3 (by omega)
      · skip
        refine r_iload_n ok dX6_bits_10 1 rfl rfl ?_
        refine r_iload_n ok dX6_bits_11 0 rfl rfl ?_
        refine r_iload_n ok dX6_bits_12 2 rfl rfl ?_
        refine r_ishr ok dX6_bits_13 ?_
        refine r_iconst ok (nI 1) dX6_bits_14 (by rfl) ?_
        refine r_iand ok dX6_bits_15 ?_
        refine r_iadd ok dX6_bits_16 ?_
        refine r_istore_n ok [(1, .int ((lsum (zBitT x) k) + ((x >>> ((nI (k)) &&& 31)) &&& (nI 1)))), (0, .int (x)), (2, .int (nI (k)))] dX6_bits_17 rfl (by decide) rfl ?_
        refine r_iincN ok (c := 1) [(2, .int (nI (k + 1))), (1, .int ((lsum (zBitT x) k) + ((x >>> ((nI (k)) &&& 31)) &&& (nI 1)))), (0, .int (x))] dX6_bits_18 2 rfl (by rfl) (by decide) rfl ?_
        refine r_goto ok 4 dX6_bits_21 (by decide) ?_
        have q4 : Value.int ((lsum (zBitT x) k) + ((x >>> ((nI (k)) &&& 31)) &&& (nI 1))) = Value.int (lsum (zBitT x) (k + 1)) := by first | with_reducible rfl | (simp [lsum_s, zBitT, nI_one])
        refine zW.forget (lv' := [(0, .int (x)), (1, .int ((lsum (zBitT x) k) + ((x >>> ((nI (k)) &&& 31)) &&& (nI 1)))), (2, .int (nI (k + 1)))]) ?_ [2, 1, 0] rfl
        refine zW.to (lv' := [(0, .int (x)), (1, .int (lsum (zBitT x) (k + 1))), (2, .int (nI (k + 1)))]) ?_ rfl (congrArg (fun z => ([(0, .int (x)), (1, z), (2, .int (nI (k + 1)))] : List (Nat × Value))) q4) rfl
        exact ihL1 (k + 1) (by omega)
  have q5 : Value.int (nI 0) = Value.int (lsum (zBitT x) 0) := by first | with_reducible rfl | (rfl)
  refine zW.forget (lv' := [(0, .int (x)), (1, .int (nI 0)), (2, .int (nI 0))]) ?_ [2, 1, 0] rfl
  refine zW.to (lv' := [(0, .int (x)), (1, .int (lsum (zBitT x) 0)), (2, .int (nI 0))]) ?_ rfl (congrArg (fun z => ([(0, .int (x)), (1, z), (2, .int (nI 0))] : List (Nat × Value))) q5) rfl
  exact L1 8 0 (by omega)
set_option maxHeartbeats 4000000 in
set_option maxRecDepth 100000 in
theorem c_X6_set (l : Launch) (G : zG) (M : zM) (N a : Nat) (s sA sH sL : Nat → Int32) (sI : Nat → Bool) (sP sT sG : Nat → Int32) (kp ln po : Int32) (wr : Bool) (kn : Nat) (p : Int32) (v : Int32) (hk : kn ≤ 6) : zC l G yX6_set cX6_set 3 (some .int) 2 44 0 0 [.ref a, .int (p), .int (v)] (mdM G M a s sA sH sL sI sP sT sG (nI kn) ln po wr) N (zP (some (.int (zE (zDset p v) (fun i => s i)))) (mdM G M a (zU (zDset p v) s (fun i => upd s i v)) sA (zU (zDset p v) sH (fun _ => zRecH s sH kn)) sL sI sP sT sG (nI (zU (zDset p v) kn (fun _ => zRecK kn))) ln po wr)) := by
  refine zC.of (by decide +kernel) (Nat.le_of_ble_eq_true rfl) ?_
  intro K hKl ok
  subst hKl
  show zW K G 3 _ 0 0 _ N 0 [(0, .ref a), (1, .int (p)), (2, .int (v))] []
  refine r_iload_n ok dX6_set_0 1 rfl rfl ?_
  refine r_iconst ok (nI 0) dX6_set_1 (by rfl) ?_
  refine r_bipush ok (nI 8) dX6_set_2 (by rfl) ?_
  refine r_cS1 ok [] mi_X6_in ml_X6_35 sm_X6_in dX6_set_4 (c_X6_in K.2.1 G (mdM G M a s sA sH sL sI sP sT sG (nI kn) ln po wr) N  p (nI 0) (nI 8) ) rfl rfl ⟨Nat.le_of_ble_eq_true rfl, Nat.le_of_ble_eq_true rfl⟩ (Nat.le_of_ble_eq_true rfl) ⟨Nat.zero_le _, Nat.zero_le _⟩ ?_
  refine r_ifeqZ ok 34 dX6_set_7 (by decide) (fun c7_1 => ?_) (fun c7_1 => ?_)
  · skip
    have b_p := (zbe_ix p (n := 8) (by omega)).symm.trans c7_1
    have n_p : zix p 9 = none := Option.not_isSome_iff_eq_none.mp (by rw [b_p]; decide)
    refine r_ldc ok ck_X6_125 dX6_set_34 ?_
    exact r_iret ok dX6_set_36 rfl ⟨congrArg (fun z => some (Value.int z)) (show -100002 = zE (zDset p v) (fun i => s i) from by simp [zDset, zE, zOb, zMostI_eq, *]), (by simp [zDset, zU, zOb, *])⟩
  · skip
    have b_p := (zbe_ix p (n := 8) (by omega)).symm.trans c7_1
    obtain ⟨pi, z_p⟩ := Option.isSome_iff_exists.mp b_p
    obtain ⟨h_p, e_p⟩ := zix_some z_p (by omega)
    subst e_p
    refine r_iload_n ok dX6_set_10 2 rfl rfl ?_
    refine r_iload_n ok dX6_set_11 1 rfl rfl ?_
    refine r_cS1 ok [.int (v)] mi_X6_least ml_X6_116 sm_X6_least dX6_set_12 (c_X6_least K.2.1 G (mdM G M a s sA sH sL sI sP sT sG (nI kn) ln po wr) N  pi (by omega)) rfl rfl ⟨Nat.le_of_ble_eq_true rfl, Nat.le_of_ble_eq_true rfl⟩ (Nat.le_of_ble_eq_true rfl) ⟨Nat.zero_le _, Nat.zero_le _⟩ ?_
    refine r_iload_n ok dX6_set_15 1 rfl rfl ?_
    refine r_cS1 ok [.int (zLeast pi), .int (v)] mi_X6_most ml_X6_119 sm_X6_most dX6_set_16 (c_X6_most K.2.1 G (mdM G M a s sA sH sL sI sP sT sG (nI kn) ln po wr) N  (nI (pi)) ) rfl rfl ⟨Nat.le_of_ble_eq_true rfl, Nat.le_of_ble_eq_true rfl⟩ (Nat.le_of_ble_eq_true rfl) ⟨Nat.zero_le _, Nat.zero_le _⟩ ?_
    refine r_cS1 ok [] mi_X6_in ml_X6_35 sm_X6_in dX6_set_19 (c_X6_in K.2.1 G (mdM G M a s sA sH sL sI sP sT sG (nI kn) ln po wr) N  v (zLeast pi) (zMostI (nI (pi))) ) rfl rfl ⟨Nat.le_of_ble_eq_true rfl, Nat.le_of_ble_eq_true rfl⟩ (Nat.le_of_ble_eq_true rfl) ⟨Nat.zero_le _, Nat.zero_le _⟩ ?_
    refine r_ifeqZ ok 34 dX6_set_22 (by decide) (fun c22_2 => ?_) (fun c22_2 => ?_)
    · skip
      rw [zMostI_eq _ (by omega)] at c22_2
      refine r_ldc ok ck_X6_125 dX6_set_34 ?_
      exact r_iret ok dX6_set_36 rfl ⟨congrArg (fun z => some (Value.int z)) (show -100002 = zE (zDset (nI (pi)) v) (fun i => s i) from by simp [zDset, zE, zOb, zMostI_eq, *]), (by simp [zDset, zU, zOb, *])⟩
    · skip
      rw [zMostI_eq _ (by omega)] at c22_2
      refine r_aload_n ok dX6_set_25 0 rfl rfl ?_
      refine r_iload_n ok dX6_set_26 1 rfl rfl ?_
      refine r_iload_n ok dX6_set_27 2 rfl rfl ?_
      refine r_cV1 ok [] mi_X6_lays ci_X6 ml_X6_122 im_X6_lays se_X6_lays dX6_set_28 (c_X6_lays K.2.1 G M N a s sA sH sL sI sP sT sG (nI kn) ln po wr kn pi v (by omega) (by omega)) md_o rfl rfl ⟨Nat.le_of_ble_eq_true rfl, Nat.le_of_ble_eq_true rfl⟩ (Nat.le_of_ble_eq_true rfl) ⟨Nat.zero_le _, Nat.zero_le _⟩ ?_
      refine r_goto ok 36 dX6_set_31 (by decide) ?_
      exact r_iret ok dX6_set_36 rfl ⟨congrArg (fun z => some (Value.int z)) (show s pi = zE (zDset (nI (pi)) v) (fun i => s i) from by simp [zDset, zE, zOb, zMostI_eq, *]), (by simp [zDset, zU, zOb, *])⟩
set_option maxHeartbeats 4000000 in
set_option maxRecDepth 100000 in
theorem c_X6_snap (l : Launch) (G : zG) (M : zM) (N a : Nat) (s sA sH sL : Nat → Int32) (sI : Nat → Bool) (sP sT sG : Nat → Int32) (kp ln po : Int32) (wr : Bool) (kn : Nat) (m : Int32) (g : Int32) (hk : kn ≤ 6) : zC l G yX6_snap cX6_snap 3 (some .int) 2 42 0 0 [.ref a, .int (m), .int (g)] (mdM G M a s sA sH sL sI sP sT sG (nI kn) ln po wr) N (zP (some (.int (zE (zDsnap s m g) (fun q => zBits (zSsnap s q (15 + 22 * q.1 + 1)))))) (mdM G M a (zU (zDsnap s m g) s (zSsnap s)) sA (zU (zDsnap s m g) sH (fun _ => zRecH s sH kn)) sL sI sP sT sG (nI (zU (zDsnap s m g) kn (fun _ => zRecK kn))) ln po wr)) := by
  refine zC.of (by decide +kernel) (Nat.le_of_ble_eq_true rfl) ?_
  intro K hKl ok
  subst hKl
  show zW K G 3 _ 0 0 _ N 0 [(0, .ref a), (1, .int (m)), (2, .int (g))] []
  refine r_iload_n ok dX6_snap_0 1 rfl rfl ?_
  refine r_cS1 ok [] mi_X6_isMember ml_X6_126 sm_X6_isMember dX6_snap_1 (c_X6_isMember K.2.1 G (mdM G M a s sA sH sL sI sP sT sG (nI kn) ln po wr) N  m ) rfl rfl ⟨Nat.le_of_ble_eq_true rfl, Nat.le_of_ble_eq_true rfl⟩ (Nat.le_of_ble_eq_true rfl) ⟨Nat.zero_le _, Nat.zero_le _⟩ ?_
  refine r_ifeqZ ok 14 dX6_snap_4 (by decide) (fun c4_1 => ?_) (fun c4_1 => ?_)
  · skip
    have n_m : zix m 6 = none := Option.not_isSome_iff_eq_none.mp (by rw [c4_1]; decide)
    refine r_ldc ok ck_X6_132 dX6_snap_14 ?_
    exact r_iret ok dX6_snap_16 rfl ⟨congrArg (fun z => some (Value.int z)) (show -100001 = zE (zDsnap s m g) (fun q => zBits (zSsnap s q (15 + 22 * q.1 + 1))) from by simp [zDsnap, zE, zOb, zSsnap, upd, nI_one, *]), (by simp [zDsnap, zU, zOb, zSsnap, nI_one, *])⟩
  · skip
    obtain ⟨mi, z_m⟩ := Option.isSome_iff_exists.mp c4_1
    obtain ⟨h_m, e_m⟩ := zix_some z_m (by omega)
    subst e_m
    refine r_iload_n ok dX6_snap_7 2 rfl rfl ?_
    refine r_cS1 ok [] mi_X6_isGauge ml_X6_129 sm_X6_isGauge dX6_snap_8 (c_X6_isGauge K.2.1 G (mdM G M a s sA sH sL sI sP sT sG (nI kn) ln po wr) N  g ) rfl rfl ⟨Nat.le_of_ble_eq_true rfl, Nat.le_of_ble_eq_true rfl⟩ (Nat.le_of_ble_eq_true rfl) ⟨Nat.zero_le _, Nat.zero_le _⟩ ?_
    refine r_ifneZ ok 17 dX6_snap_11 (by decide) (fun c11_2 => ?_) (fun c11_2 => ?_)
    · skip
      obtain ⟨gi, z_g⟩ := Option.isSome_iff_exists.mp c11_2
      obtain ⟨h_g, e_g⟩ := zix_some z_g (by omega)
      subst e_g
      refine r_aload_n ok dX6_snap_17 0 rfl rfl ?_
      refine r_getf ok ci_X6 fl_X6_7 (by decide) dX6_snap_18 md_o rfl ?_
      refine r_iload_n ok dX6_snap_21 1 rfl rfl ?_
      refine r_iconst ok (nI 1) dX6_snap_22 (by rfl) ?_
      refine r_cS1 ok [.ref (a + 1)] mi_X6_of ml_X6_47 sm_X6_of dX6_snap_23 (c_X6_of K.2.1 G (mdM G M a s sA sH sL sI sP sT sG (nI kn) ln po wr) N  mi 1 ) rfl rfl ⟨Nat.le_of_ble_eq_true rfl, Nat.le_of_ble_eq_true rfl⟩ (Nat.le_of_ble_eq_true rfl) ⟨Nat.zero_le _, Nat.zero_le _⟩ ?_
      refine r_ialdN ok (by omega) (by omega) dX6_snap_26 md_s ?_
      refine r_iload_n ok dX6_snap_27 2 rfl rfl ?_
      refine r_cS1 ok [] mi_X6_has ml_X6_43 sm_X6_has dX6_snap_28 (c_X6_has K.2.1 G (mdM G M a s sA sH sL sI sP sT sG (nI kn) ln po wr) N  (s (15 + 22 * mi + 1)) gi ) rfl rfl ⟨Nat.le_of_ble_eq_true rfl, Nat.le_of_ble_eq_true rfl⟩ (Nat.le_of_ble_eq_true rfl) ⟨Nat.zero_le _, Nat.zero_le _⟩ ?_
      refine r_ifeqZ ok 37 dX6_snap_31 (by decide) (fun c31_3 => ?_) (fun c31_3 => ?_)
      · skip
        refine r_aload_n ok dX6_snap_37 0 rfl rfl ?_
        refine r_cV0 ok [] mi_X6_record ci_X6 ml_X6_113 im_X6_record se_X6_record dX6_snap_38 (c_X6_record K.2.1 G M N a s sA sH sL sI sP sT sG (nI kn) ln po wr kn  (by omega)) md_o rfl rfl ⟨Nat.le_of_ble_eq_true rfl, Nat.le_of_ble_eq_true rfl⟩ (Nat.le_of_ble_eq_true rfl) ⟨Nat.zero_le _, Nat.zero_le _⟩ ?_
        refine r_aload_n ok dX6_snap_41 0 rfl rfl ?_
        refine r_getf ok ci_X6 fl_X6_7 (by decide) dX6_snap_42 md_o rfl ?_
        refine r_iload_n ok dX6_snap_45 1 rfl rfl ?_
        refine r_iconst ok (nI 1) dX6_snap_46 (by rfl) ?_
        refine r_cS1 ok [.ref (a + 1)] mi_X6_of ml_X6_47 sm_X6_of dX6_snap_47 (c_X6_of K.2.1 G (mdM G M a s sA (zRecH s sH kn) sL sI sP sT sG (nI (zRecK kn)) ln po wr) N  mi 1 ) rfl rfl ⟨Nat.le_of_ble_eq_true rfl, Nat.le_of_ble_eq_true rfl⟩ (Nat.le_of_ble_eq_true rfl) ⟨Nat.zero_le _, Nat.zero_le _⟩ ?_
        refine r_dup2 ok dX6_snap_50 rfl rfl ?_
        refine r_ialdN ok (by omega) (by omega) dX6_snap_51 md_s ?_
        refine r_iconst ok (nI 1) dX6_snap_52 (by rfl) ?_
        refine r_iload_n ok dX6_snap_53 2 rfl rfl ?_
        refine r_ishl ok dX6_snap_54 ?_
        refine r_ior ok dX6_snap_55 ?_
        refine r_iastN ok (by omega) (by omega) dX6_snap_56 md_s (mdw_s _) ?_
        refine r_aload_n ok dX6_snap_57 0 rfl rfl ?_
        refine r_getf ok ci_X6 fl_X6_7 (by decide) dX6_snap_58 md_o rfl ?_
        refine r_iload_n ok dX6_snap_61 1 rfl rfl ?_
        refine r_iconst ok (nI 1) dX6_snap_62 (by rfl) ?_
        refine r_cS1 ok [.ref (a + 1)] mi_X6_of ml_X6_47 sm_X6_of dX6_snap_63 (c_X6_of K.2.1 G (mdM G M a (upd s (15 + 22 * mi + 1) ((s (15 + 22 * mi + 1)) ||| ((nI 1) <<< ((nI (gi)) &&& 31)))) sA (zRecH s sH kn) sL sI sP sT sG (nI (zRecK kn)) ln po wr) N  mi 1 ) rfl rfl ⟨Nat.le_of_ble_eq_true rfl, Nat.le_of_ble_eq_true rfl⟩ (Nat.le_of_ble_eq_true rfl) ⟨Nat.zero_le _, Nat.zero_le _⟩ ?_
        refine r_ialdN ok (by omega) (by omega) dX6_snap_66 md_s ?_
        refine zW.to (st' := [.int ((s (15 + 22 * mi + 1)) ||| ((nI 1) <<< ((nI (gi)) &&& 31)))]) ?_ rfl rfl (congrArg (fun z => (Value.int z :: [] : List Value)) (show (upd s (15 + 22 * mi + 1) ((s (15 + 22 * mi + 1)) ||| ((nI 1) <<< ((nI (gi)) &&& 31)))) (15 + 22 * mi + 1) = (s (15 + 22 * mi + 1)) ||| ((nI 1) <<< ((nI (gi)) &&& 31)) from pk_us))
        refine r_cS1 ok [] mi_X6_bits ml_X6_134 sm_X6_bits dX6_snap_67 (c_X6_bits K.2.1 G (mdM G M a (upd s (15 + 22 * mi + 1) ((s (15 + 22 * mi + 1)) ||| ((nI 1) <<< ((nI (gi)) &&& 31)))) sA (zRecH s sH kn) sL sI sP sT sG (nI (zRecK kn)) ln po wr) N  ((s (15 + 22 * mi + 1)) ||| ((nI 1) <<< ((nI (gi)) &&& 31))) ) rfl rfl ⟨Nat.le_of_ble_eq_true rfl, Nat.le_of_ble_eq_true rfl⟩ (Nat.le_of_ble_eq_true rfl) ⟨Nat.zero_le _, Nat.zero_le _⟩ ?_
        exact r_iret ok dX6_snap_70 rfl ⟨congrArg (fun z => some (Value.int z)) (show zBits ((s (15 + 22 * mi + 1)) ||| ((nI 1) <<< ((nI (gi)) &&& 31))) = zE (zDsnap s (nI (mi)) (nI (gi))) (fun q => zBits (zSsnap s q (15 + 22 * q.1 + 1))) from by simp [zDsnap, zE, zOb, zSsnap, upd, nI_one, *]), (by simp [zDsnap, zU, zOb, zSsnap, nI_one, *])⟩
      · skip
        refine r_ldc ok ck_X6_133 dX6_snap_34 ?_
        exact r_iret ok dX6_snap_36 rfl ⟨congrArg (fun z => some (Value.int z)) (show -100005 = zE (zDsnap s (nI (mi)) (nI (gi))) (fun q => zBits (zSsnap s q (15 + 22 * q.1 + 1))) from by simp [zDsnap, zE, zOb, zSsnap, upd, nI_one, *]), (by simp [zDsnap, zU, zOb, zSsnap, nI_one, *])⟩
    · skip
      have n_g : zix g 8 = none := Option.not_isSome_iff_eq_none.mp (by rw [c11_2]; decide)
      refine r_ldc ok ck_X6_132 dX6_snap_14 ?_
      exact r_iret ok dX6_snap_16 rfl ⟨congrArg (fun z => some (Value.int z)) (show -100001 = zE (zDsnap s (nI (mi)) g) (fun q => zBits (zSsnap s q (15 + 22 * q.1 + 1))) from by simp [zDsnap, zE, zOb, zSsnap, upd, nI_one, *]), (by simp [zDsnap, zU, zOb, zSsnap, nI_one, *])⟩
set_option maxHeartbeats 4000000 in
set_option maxRecDepth 100000 in
theorem c_X6_does (l : Launch) (G : zG) (M : zM) (N a : Nat) (s sA sH sL : Nat → Int32) (sI : Nat → Bool) (sP sT sG : Nat → Int32) (kp ln po : Int32) (wr : Bool)  (m : Nat) (j : Nat) (g : Int32) (hm : m < 6) (hj : j < 8) : zC l G yX6_does cX6_does 4 (some .boolean) 2 42 0 0 [.ref a, .int (nI (m)), .int (nI (j)), .int (g)] (mdM G M a s sA sH sL sI sP sT sG kp ln po wr) N (zP (some (.int (zb (zDoes s m j g)))) (mdM G M a s sA sH sL sI sP sT sG kp ln po wr)) := by
  refine zC.of (by decide +kernel) (Nat.le_of_ble_eq_true rfl) ?_
  intro K hKl ok
  subst hKl
  show zW K G 4 _ 0 0 _ N 0 [(0, .ref a), (1, .int (nI (m))), (2, .int (nI (j))), (3, .int (g))] []
  refine r_iload_n ok dX6_does_0 3 rfl rfl ?_
  refine r_cS1 ok [] mi_X6_isGauge ml_X6_129 sm_X6_isGauge dX6_does_1 (c_X6_isGauge K.2.1 G (mdM G M a s sA sH sL sI sP sT sG kp ln po wr) N  g ) rfl rfl ⟨Nat.le_of_ble_eq_true rfl, Nat.le_of_ble_eq_true rfl⟩ (Nat.le_of_ble_eq_true rfl) ⟨Nat.zero_le _, Nat.zero_le _⟩ ?_
  refine r_ifeqZ ok 57 dX6_does_4 (by decide) (fun c4_1 => ?_) (fun c4_1 => ?_)
  · skip
    have n_g : zix g 8 = none := Option.not_isSome_iff_eq_none.mp (by rw [c4_1]; decide)
    refine r_iconst ok (nI 0) dX6_does_57 (by rfl) ?_
    refine zW.to (st' := [.int (zb false)]) ?_ rfl rfl rfl
    exact r_zret ok dX6_does_58 (zb_n _) rfl ⟨congrArg (fun z => some (Value.int (zb z))) (show false = zDoes s m j g from by simp [zDoes, *]), rfl⟩
  · skip
    obtain ⟨gi, z_g⟩ := Option.isSome_iff_exists.mp c4_1
    obtain ⟨h_g, e_g⟩ := zix_some z_g (by omega)
    subst e_g
    refine r_iload_n ok dX6_does_7 3 rfl rfl ?_
    refine r_iload_n ok dX6_does_8 2 rfl rfl ?_
    refine r_iconst ok (nI 1) dX6_does_9 (by rfl) ?_
    refine r_isub ok dX6_does_10 ?_
    refine r_iload_n ok dX6_does_11 2 rfl rfl ?_
    refine r_iconst ok (nI 1) dX6_does_12 (by rfl) ?_
    refine r_iaddN ok dX6_does_13 ?_
    refine r_cS1 ok [] mi_X6_in ml_X6_35 sm_X6_in dX6_does_14 (c_X6_in K.2.1 G (mdM G M a s sA sH sL sI sP sT sG kp ln po wr) N  (nI (gi)) ((nI (j)) - (nI 1)) (nI (j + 1)) ) rfl rfl ⟨Nat.le_of_ble_eq_true rfl, Nat.le_of_ble_eq_true rfl⟩ (Nat.le_of_ble_eq_true rfl) ⟨Nat.zero_le _, Nat.zero_le _⟩ ?_
    refine r_ifeqZ ok 57 dX6_does_17 (by decide) (fun c17_2 => ?_) (fun c17_2 => ?_)
    · skip
      refine r_iconst ok (nI 0) dX6_does_57 (by rfl) ?_
      refine zW.to (st' := [.int (zb false)]) ?_ rfl rfl rfl
      exact r_zret ok dX6_does_58 (zb_n _) rfl ⟨congrArg (fun z => some (Value.int (zb z))) (show false = zDoes s m j (nI (gi)) from by simp [zDoes, *]), rfl⟩
    · skip
      refine r_aload_n ok dX6_does_20 0 rfl rfl ?_
      refine r_getf ok ci_X6 fl_X6_7 (by decide) dX6_does_21 md_o rfl ?_
      refine r_iload_n ok dX6_does_24 1 rfl rfl ?_
      refine r_iconst ok (nI 1) dX6_does_25 (by rfl) ?_
      refine r_cS1 ok [.ref (a + 1)] mi_X6_of ml_X6_47 sm_X6_of dX6_does_26 (c_X6_of K.2.1 G (mdM G M a s sA sH sL sI sP sT sG kp ln po wr) N  m 1 ) rfl rfl ⟨Nat.le_of_ble_eq_true rfl, Nat.le_of_ble_eq_true rfl⟩ (Nat.le_of_ble_eq_true rfl) ⟨Nat.zero_le _, Nat.zero_le _⟩ ?_
      refine r_ialdN ok (by omega) (by omega) dX6_does_29 md_s ?_
      refine r_iload_n ok dX6_does_30 2 rfl rfl ?_
      refine r_cS1 ok [] mi_X6_has ml_X6_43 sm_X6_has dX6_does_31 (c_X6_has K.2.1 G (mdM G M a s sA sH sL sI sP sT sG kp ln po wr) N  (s (15 + 22 * m + 1)) j ) rfl rfl ⟨Nat.le_of_ble_eq_true rfl, Nat.le_of_ble_eq_true rfl⟩ (Nat.le_of_ble_eq_true rfl) ⟨Nat.zero_le _, Nat.zero_le _⟩ ?_
      refine r_ifeqZ ok 57 dX6_does_34 (by decide) (fun c34_3 => ?_) (fun c34_3 => ?_)
      · skip
        refine r_iconst ok (nI 0) dX6_does_57 (by rfl) ?_
        refine zW.to (st' := [.int (zb false)]) ?_ rfl rfl rfl
        exact r_zret ok dX6_does_58 (zb_n _) rfl ⟨congrArg (fun z => some (Value.int (zb z))) (show false = zDoes s m j (nI (gi)) from by simp [zDoes, *]), rfl⟩
      · skip
        refine r_aload_n ok dX6_does_37 0 rfl rfl ?_
        refine r_getf ok ci_X6 fl_X6_7 (by decide) dX6_does_38 md_o rfl ?_
        refine r_iload_n ok dX6_does_41 1 rfl rfl ?_
        refine r_bipush ok (nI 6) dX6_does_42 (by rfl) ?_
        refine r_iload_n ok dX6_does_44 3 rfl rfl ?_
        refine r_iaddN ok dX6_does_45 ?_
        refine r_cS1 ok [.ref (a + 1)] mi_X6_of ml_X6_47 sm_X6_of dX6_does_46 (c_X6_of K.2.1 G (mdM G M a s sA sH sL sI sP sT sG kp ln po wr) N  m (6 + gi) ) rfl rfl ⟨Nat.le_of_ble_eq_true rfl, Nat.le_of_ble_eq_true rfl⟩ (Nat.le_of_ble_eq_true rfl) ⟨Nat.zero_le _, Nat.zero_le _⟩ ?_
        refine r_ialdN ok (by omega) (by omega) dX6_does_49 md_s ?_
        refine r_if_le ok 57 dX6_does_50 (by decide) (fun c50_4 => ?_) (fun c50_4 => ?_)
        · skip
          refine r_iconst ok (nI 0) dX6_does_57 (by rfl) ?_
          refine zW.to (st' := [.int (zb false)]) ?_ rfl rfl rfl
          exact r_zret ok dX6_does_58 (zb_n _) rfl ⟨congrArg (fun z => some (Value.int (zb z))) (show false = zDoes s m j (nI (gi)) from by simp [zDoes, *]), rfl⟩
        · skip
          refine r_iconst ok (nI 1) dX6_does_53 (by rfl) ?_
          refine r_goto ok 58 dX6_does_54 (by decide) ?_
          refine zW.to (st' := [.int (zb true)]) ?_ rfl rfl rfl
          exact r_zret ok dX6_does_58 (zb_n _) rfl ⟨congrArg (fun z => some (Value.int (zb z))) (show true = zDoes s m j (nI (gi)) from by simp [zDoes, *]), rfl⟩
set_option maxHeartbeats 4000000 in
set_option maxRecDepth 100000 in
theorem c_X6_fit (l : Launch) (G : zG) (M : zM) (N a : Nat) (s sA sH sL : Nat → Int32) (sI : Nat → Bool) (sP sT sG : Nat → Int32) (kp ln po : Int32) (wr : Bool) (kn : Nat) (m : Int32) (g : Int32) (h : Int32) (hk : kn ≤ 6) : zC l G yX6_fit cX6_fit 4 (some .int) 3 65 0 0 [.ref a, .int (m), .int (g), .int (h)] (mdM G M a s sA sH sL sI sP sT sG (nI kn) ln po wr) N (zP (some (.int (zE (zDfit s m g h) (fun q => zSfit s q (15 + 22 * q.1 + (6 + q.2.2)))))) (mdM G M a (zU (zDfit s m g h) s (zSfit s)) sA (zU (zDfit s m g h) sH (fun _ => zRecH s sH kn)) sL sI sP sT sG (nI (zU (zDfit s m g h) kn (fun _ => zRecK kn))) ln po wr)) := by
  refine zC.of (by decide +kernel) (Nat.le_of_ble_eq_true rfl) ?_
  intro K hKl ok
  subst hKl
  show zW K G 4 _ 0 0 _ N 0 [(0, .ref a), (1, .int (m)), (2, .int (g)), (3, .int (h))] []
  refine r_iload_n ok dX6_fit_0 1 rfl rfl ?_
  refine r_cS1 ok [] mi_X6_isMember ml_X6_126 sm_X6_isMember dX6_fit_1 (c_X6_isMember K.2.1 G (mdM G M a s sA sH sL sI sP sT sG (nI kn) ln po wr) N  m ) rfl rfl ⟨Nat.le_of_ble_eq_true rfl, Nat.le_of_ble_eq_true rfl⟩ (Nat.le_of_ble_eq_true rfl) ⟨Nat.zero_le _, Nat.zero_le _⟩ ?_
  refine r_ifeqZ ok 21 dX6_fit_4 (by decide) (fun c4_1 => ?_) (fun c4_1 => ?_)
  · skip
    have n_m : zix m 6 = none := Option.not_isSome_iff_eq_none.mp (by rw [c4_1]; decide)
    refine r_ldc ok ck_X6_132 dX6_fit_21 ?_
    exact r_iret ok dX6_fit_23 rfl ⟨congrArg (fun z => some (Value.int z)) (show -100001 = zE (zDfit s m g h) (fun q => zSfit s q (15 + 22 * q.1 + (6 + q.2.2))) from by simp [zDfit, zE, zOb, zSfit, upd, nI_one, *]), (by simp [zDfit, zU, zOb, zSfit, nI_one, *])⟩
  · skip
    obtain ⟨mi, z_m⟩ := Option.isSome_iff_exists.mp c4_1
    obtain ⟨h_m, e_m⟩ := zix_some z_m (by omega)
    subst e_m
    refine r_iload_n ok dX6_fit_7 2 rfl rfl ?_
    refine r_cS1 ok [] mi_X6_isGauge ml_X6_129 sm_X6_isGauge dX6_fit_8 (c_X6_isGauge K.2.1 G (mdM G M a s sA sH sL sI sP sT sG (nI kn) ln po wr) N  g ) rfl rfl ⟨Nat.le_of_ble_eq_true rfl, Nat.le_of_ble_eq_true rfl⟩ (Nat.le_of_ble_eq_true rfl) ⟨Nat.zero_le _, Nat.zero_le _⟩ ?_
    refine r_ifeqZ ok 21 dX6_fit_11 (by decide) (fun c11_2 => ?_) (fun c11_2 => ?_)
    · skip
      have n_g : zix g 8 = none := Option.not_isSome_iff_eq_none.mp (by rw [c11_2]; decide)
      refine r_ldc ok ck_X6_132 dX6_fit_21 ?_
      exact r_iret ok dX6_fit_23 rfl ⟨congrArg (fun z => some (Value.int z)) (show -100001 = zE (zDfit s (nI (mi)) g h) (fun q => zSfit s q (15 + 22 * q.1 + (6 + q.2.2))) from by simp [zDfit, zE, zOb, zSfit, upd, nI_one, *]), (by simp [zDfit, zU, zOb, zSfit, nI_one, *])⟩
    · skip
      obtain ⟨gi, z_g⟩ := Option.isSome_iff_exists.mp c11_2
      obtain ⟨h_g, e_g⟩ := zix_some z_g (by omega)
      subst e_g
      refine r_iload_n ok dX6_fit_14 3 rfl rfl ?_
      refine r_cS1 ok [] mi_X6_isGauge ml_X6_129 sm_X6_isGauge dX6_fit_15 (c_X6_isGauge K.2.1 G (mdM G M a s sA sH sL sI sP sT sG (nI kn) ln po wr) N  h ) rfl rfl ⟨Nat.le_of_ble_eq_true rfl, Nat.le_of_ble_eq_true rfl⟩ (Nat.le_of_ble_eq_true rfl) ⟨Nat.zero_le _, Nat.zero_le _⟩ ?_
      refine r_ifneZ ok 24 dX6_fit_18 (by decide) (fun c18_3 => ?_) (fun c18_3 => ?_)
      · skip
        obtain ⟨hi, z_h⟩ := Option.isSome_iff_exists.mp c18_3
        obtain ⟨h_h, e_h⟩ := zix_some z_h (by omega)
        subst e_h
        refine r_aload_n ok dX6_fit_24 0 rfl rfl ?_
        refine r_iload_n ok dX6_fit_25 1 rfl rfl ?_
        refine r_iload_n ok dX6_fit_26 2 rfl rfl ?_
        refine r_iload_n ok dX6_fit_27 3 rfl rfl ?_
        refine r_cV1 ok [] mi_X6_does ci_X6 ml_X6_137 im_X6_does se_X6_does dX6_fit_28 (c_X6_does K.2.1 G M N a s sA sH sL sI sP sT sG (nI kn) ln po wr  mi gi (nI (hi)) (by omega) (by omega)) md_o rfl rfl ⟨Nat.le_of_ble_eq_true rfl, Nat.le_of_ble_eq_true rfl⟩ (Nat.le_of_ble_eq_true rfl) ⟨Nat.zero_le _, Nat.zero_le _⟩ ?_
        refine r_ifneZ ok 37 dX6_fit_31 (by decide) (fun c31_4 => ?_) (fun c31_4 => ?_)
        · skip
          refine r_aload_n ok dX6_fit_37 0 rfl rfl ?_
          refine r_cV0 ok [] mi_X6_record ci_X6 ml_X6_113 im_X6_record se_X6_record dX6_fit_38 (c_X6_record K.2.1 G M N a s sA sH sL sI sP sT sG (nI kn) ln po wr kn  (by omega)) md_o rfl rfl ⟨Nat.le_of_ble_eq_true rfl, Nat.le_of_ble_eq_true rfl⟩ (Nat.le_of_ble_eq_true rfl) ⟨Nat.zero_le _, Nat.zero_le _⟩ ?_
          refine r_aload_n ok dX6_fit_41 0 rfl rfl ?_
          refine r_getf ok ci_X6 fl_X6_7 (by decide) dX6_fit_42 md_o rfl ?_
          refine r_iload_n ok dX6_fit_45 1 rfl rfl ?_
          refine r_iconst ok (nI 1) dX6_fit_46 (by rfl) ?_
          refine r_cS1 ok [.ref (a + 1)] mi_X6_of ml_X6_47 sm_X6_of dX6_fit_47 (c_X6_of K.2.1 G (mdM G M a s sA (zRecH s sH kn) sL sI sP sT sG (nI (zRecK kn)) ln po wr) N  mi 1 ) rfl rfl ⟨Nat.le_of_ble_eq_true rfl, Nat.le_of_ble_eq_true rfl⟩ (Nat.le_of_ble_eq_true rfl) ⟨Nat.zero_le _, Nat.zero_le _⟩ ?_
          refine r_dup2 ok dX6_fit_50 rfl rfl ?_
          refine r_ialdN ok (by omega) (by omega) dX6_fit_51 md_s ?_
          refine r_iconst ok (nI 1) dX6_fit_52 (by rfl) ?_
          refine r_iload_n ok dX6_fit_53 2 rfl rfl ?_
          refine r_ishl ok dX6_fit_54 ?_
          refine r_ixor ok dX6_fit_55 ?_
          refine r_iastN ok (by omega) (by omega) dX6_fit_56 md_s (mdw_s _) ?_
          refine r_aload_n ok dX6_fit_57 0 rfl rfl ?_
          refine r_getf ok ci_X6 fl_X6_7 (by decide) dX6_fit_58 md_o rfl ?_
          refine r_iload_n ok dX6_fit_61 1 rfl rfl ?_
          refine r_bipush ok (nI 6) dX6_fit_62 (by rfl) ?_
          refine r_iload_n ok dX6_fit_64 3 rfl rfl ?_
          refine r_iaddN ok dX6_fit_65 ?_
          refine r_cS1 ok [.ref (a + 1)] mi_X6_of ml_X6_47 sm_X6_of dX6_fit_66 (c_X6_of K.2.1 G (mdM G M a (upd s (15 + 22 * mi + 1) ((s (15 + 22 * mi + 1)) ^^^ ((nI 1) <<< ((nI (gi)) &&& 31)))) sA (zRecH s sH kn) sL sI sP sT sG (nI (zRecK kn)) ln po wr) N  mi (6 + hi) ) rfl rfl ⟨Nat.le_of_ble_eq_true rfl, Nat.le_of_ble_eq_true rfl⟩ (Nat.le_of_ble_eq_true rfl) ⟨Nat.zero_le _, Nat.zero_le _⟩ ?_
          refine r_dup2 ok dX6_fit_69 rfl rfl ?_
          refine r_ialdN ok (by omega) (by omega) dX6_fit_70 md_s ?_
          refine r_iconst ok (nI 1) dX6_fit_71 (by rfl) ?_
          refine r_isub ok dX6_fit_72 ?_
          refine r_iastN ok (by omega) (by omega) dX6_fit_73 md_s (mdw_s _) ?_
          refine r_aload_n ok dX6_fit_74 0 rfl rfl ?_
          refine r_getf ok ci_X6 fl_X6_7 (by decide) dX6_fit_75 md_o rfl ?_
          refine r_iload_n ok dX6_fit_78 1 rfl rfl ?_
          refine r_bipush ok (nI 6) dX6_fit_79 (by rfl) ?_
          refine r_iload_n ok dX6_fit_81 3 rfl rfl ?_
          refine r_iaddN ok dX6_fit_82 ?_
          refine r_cS1 ok [.ref (a + 1)] mi_X6_of ml_X6_47 sm_X6_of dX6_fit_83 (c_X6_of K.2.1 G (mdM G M a (upd (upd s (15 + 22 * mi + 1) ((s (15 + 22 * mi + 1)) ^^^ ((nI 1) <<< ((nI (gi)) &&& 31)))) (15 + 22 * mi + (6 + hi)) (((upd s (15 + 22 * mi + 1) ((s (15 + 22 * mi + 1)) ^^^ ((nI 1) <<< ((nI (gi)) &&& 31)))) (15 + 22 * mi + (6 + hi))) - (nI 1))) sA (zRecH s sH kn) sL sI sP sT sG (nI (zRecK kn)) ln po wr) N  mi (6 + hi) ) rfl rfl ⟨Nat.le_of_ble_eq_true rfl, Nat.le_of_ble_eq_true rfl⟩ (Nat.le_of_ble_eq_true rfl) ⟨Nat.zero_le _, Nat.zero_le _⟩ ?_
          refine r_ialdN ok (by omega) (by omega) dX6_fit_86 md_s ?_
          refine zW.to (st' := [.int (((upd s (15 + 22 * mi + 1) ((s (15 + 22 * mi + 1)) ^^^ ((nI 1) <<< ((nI (gi)) &&& 31)))) (15 + 22 * mi + (6 + hi))) - (nI 1))]) ?_ rfl rfl (congrArg (fun z => (Value.int z :: [] : List Value)) (show (upd (upd s (15 + 22 * mi + 1) ((s (15 + 22 * mi + 1)) ^^^ ((nI 1) <<< ((nI (gi)) &&& 31)))) (15 + 22 * mi + (6 + hi)) (((upd s (15 + 22 * mi + 1) ((s (15 + 22 * mi + 1)) ^^^ ((nI 1) <<< ((nI (gi)) &&& 31)))) (15 + 22 * mi + (6 + hi))) - (nI 1))) (15 + 22 * mi + (6 + hi)) = ((upd s (15 + 22 * mi + 1) ((s (15 + 22 * mi + 1)) ^^^ ((nI 1) <<< ((nI (gi)) &&& 31)))) (15 + 22 * mi + (6 + hi))) - (nI 1) from pk_us))
          exact r_iret ok dX6_fit_87 rfl ⟨congrArg (fun z => some (Value.int z)) (show ((upd s (15 + 22 * mi + 1) ((s (15 + 22 * mi + 1)) ^^^ ((nI 1) <<< ((nI (gi)) &&& 31)))) (15 + 22 * mi + (6 + hi))) - (nI 1) = zE (zDfit s (nI (mi)) (nI (gi)) (nI (hi))) (fun q => zSfit s q (15 + 22 * q.1 + (6 + q.2.2))) from by simp [zDfit, zE, zOb, zSfit, upd, nI_one, *]), (by simp [zDfit, zU, zOb, zSfit, nI_one, *])⟩
        · skip
          refine r_ldc ok ck_X6_133 dX6_fit_34 ?_
          exact r_iret ok dX6_fit_36 rfl ⟨congrArg (fun z => some (Value.int z)) (show -100005 = zE (zDfit s (nI (mi)) (nI (gi)) (nI (hi))) (fun q => zSfit s q (15 + 22 * q.1 + (6 + q.2.2))) from by simp [zDfit, zE, zOb, zSfit, upd, nI_one, *]), (by simp [zDfit, zU, zOb, zSfit, nI_one, *])⟩
      · skip
        have n_h : zix h 8 = none := Option.not_isSome_iff_eq_none.mp (by rw [c18_3]; decide)
        refine r_ldc ok ck_X6_132 dX6_fit_21 ?_
        exact r_iret ok dX6_fit_23 rfl ⟨congrArg (fun z => some (Value.int z)) (show -100001 = zE (zDfit s (nI (mi)) (nI (gi)) h) (fun q => zSfit s q (15 + 22 * q.1 + (6 + q.2.2))) from by simp [zDfit, zE, zOb, zSfit, upd, nI_one, *]), (by simp [zDfit, zU, zOb, zSfit, nI_one, *])⟩
set_option maxHeartbeats 4000000 in
set_option maxRecDepth 100000 in
theorem c_X6_want (l : Launch) (G : zG) (M : zM) (N a : Nat) (s sA sH sL : Nat → Int32) (sI : Nat → Bool) (sP sT sG : Nat → Int32) (kp ln po : Int32) (wr : Bool) (kn : Nat) (m : Int32) (g : Int32) (v : Int32) (hk : kn ≤ 6) : zC l G yX6_want cX6_want 5 (some .int) 5 111 0 0 [.ref a, .int (m), .int (g), .int (v)] (mdM G M a s sA sH sL sI sP sT sG (nI kn) ln po wr) N (zP (some (.int (zE (zDwant m g v) (fun q => zCost (zSwant s v q) (nI 63))))) (mdM G M a (zU (zDwant m g v) s (zSwant s v)) sA (zU (zDwant m g v) sH (fun _ => zRecH s sH kn)) sL sI sP sT sG (nI (zU (zDwant m g v) kn (fun _ => zRecK kn))) ln po wr)) := by
  refine zC.of (by decide +kernel) (Nat.le_of_ble_eq_true rfl) ?_
  intro K hKl ok
  subst hKl
  show zW K G 5 _ 0 0 _ N 0 [(0, .ref a), (1, .int (m)), (2, .int (g)), (3, .int (v))] []
  refine r_iload_n ok dX6_want_0 1 rfl rfl ?_
  refine r_cS1 ok [] mi_X6_isMember ml_X6_126 sm_X6_isMember dX6_want_1 (c_X6_isMember K.2.1 G (mdM G M a s sA sH sL sI sP sT sG (nI kn) ln po wr) N  m ) rfl rfl ⟨Nat.le_of_ble_eq_true rfl, Nat.le_of_ble_eq_true rfl⟩ (Nat.le_of_ble_eq_true rfl) ⟨Nat.zero_le _, Nat.zero_le _⟩ ?_
  refine r_ifeqZ ok 14 dX6_want_4 (by decide) (fun c4_1 => ?_) (fun c4_1 => ?_)
  · skip
    have n_m : zix m 6 = none := Option.not_isSome_iff_eq_none.mp (by rw [c4_1]; decide)
    refine r_ldc ok ck_X6_132 dX6_want_14 ?_
    exact r_iret ok dX6_want_16 rfl ⟨congrArg (fun z => some (Value.int z)) (show -100001 = zE (zDwant m g v) (fun q => zCost (zSwant s v q) (nI 63)) from by simp [zDwant, zE, zOb, zSwant, *]), (by simp [zDwant, zU, zOb, zSwant, *])⟩
  · skip
    obtain ⟨mi, z_m⟩ := Option.isSome_iff_exists.mp c4_1
    obtain ⟨h_m, e_m⟩ := zix_some z_m (by omega)
    subst e_m
    refine r_iload_n ok dX6_want_7 2 rfl rfl ?_
    refine r_cS1 ok [] mi_X6_isGauge ml_X6_129 sm_X6_isGauge dX6_want_8 (c_X6_isGauge K.2.1 G (mdM G M a s sA sH sL sI sP sT sG (nI kn) ln po wr) N  g ) rfl rfl ⟨Nat.le_of_ble_eq_true rfl, Nat.le_of_ble_eq_true rfl⟩ (Nat.le_of_ble_eq_true rfl) ⟨Nat.zero_le _, Nat.zero_le _⟩ ?_
    refine r_ifneZ ok 17 dX6_want_11 (by decide) (fun c11_2 => ?_) (fun c11_2 => ?_)
    · skip
      obtain ⟨gi, z_g⟩ := Option.isSome_iff_exists.mp c11_2
      obtain ⟨h_g, e_g⟩ := zix_some z_g (by omega)
      subst e_g
      refine r_iload_n ok dX6_want_17 3 rfl rfl ?_
      refine r_iconst ok (nI 0) dX6_want_18 (by rfl) ?_
      refine r_bipush ok (nI 20) dX6_want_19 (by rfl) ?_
      refine r_cS1 ok [] mi_X6_in ml_X6_35 sm_X6_in dX6_want_21 (c_X6_in K.2.1 G (mdM G M a s sA sH sL sI sP sT sG (nI kn) ln po wr) N  v (nI 0) (nI 20) ) rfl rfl ⟨Nat.le_of_ble_eq_true rfl, Nat.le_of_ble_eq_true rfl⟩ (Nat.le_of_ble_eq_true rfl) ⟨Nat.zero_le _, Nat.zero_le _⟩ ?_
      refine r_ifneZ ok 30 dX6_want_24 (by decide) (fun c24_3 => ?_) (fun c24_3 => ?_)
      · skip
        refine r_aload_n ok dX6_want_30 0 rfl rfl ?_
        refine r_iload_n ok dX6_want_31 1 rfl rfl ?_
        refine r_bipush ok (nI 14) dX6_want_32 (by rfl) ?_
        refine r_iload_n ok dX6_want_34 2 rfl rfl ?_
        refine r_iaddN ok dX6_want_35 ?_
        refine r_cS1 ok [.ref a] mi_X6_of ml_X6_47 sm_X6_of dX6_want_36 (c_X6_of K.2.1 G (mdM G M a s sA sH sL sI sP sT sG (nI kn) ln po wr) N  mi (14 + gi) ) rfl rfl ⟨Nat.le_of_ble_eq_true rfl, Nat.le_of_ble_eq_true rfl⟩ (Nat.le_of_ble_eq_true rfl) ⟨Nat.zero_le _, Nat.zero_le _⟩ ?_
        refine r_iload_n ok dX6_want_39 3 rfl rfl ?_
        refine r_cV1 ok [] mi_X6_lays ci_X6 ml_X6_122 im_X6_lays se_X6_lays dX6_want_40 (c_X6_lays K.2.1 G M N a s sA sH sL sI sP sT sG (nI kn) ln po wr kn (15 + 22 * mi + (14 + gi)) v (by omega) (by omega)) md_o rfl rfl ⟨Nat.le_of_ble_eq_true rfl, Nat.le_of_ble_eq_true rfl⟩ (Nat.le_of_ble_eq_true rfl) ⟨Nat.zero_le _, Nat.zero_le _⟩ ?_
        refine r_istore ok [(4, .int (s (15 + 22 * mi + (14 + gi)))), (0, .ref a), (1, .int (nI (mi))), (2, .int (nI (gi))), (3, .int (v))] dX6_want_43 (by decide) rfl ?_
        refine r_aload_n ok dX6_want_45 1 rfl rfl ?_
        refine r_bipush ok (nI 63) dX6_want_46 (by rfl) ?_
        refine r_cV1 ok [] mi_X6_costOf ci_X6 ml_X6_140 im_X6_costOf se_X6_costOf dX6_want_48 (c_X6_costOf K.2.1 G M N a (upd s (15 + 22 * mi + (14 + gi)) v) sA (zRecH s sH kn) sL sI sP sT sG (nI (zRecK kn)) ln po wr  (nI 63) ) md_o rfl rfl ⟨Nat.le_of_ble_eq_true rfl, Nat.le_of_ble_eq_true rfl⟩ (Nat.le_of_ble_eq_true rfl) ⟨Nat.zero_le _, Nat.zero_le _⟩ ?_
        exact r_iret ok dX6_want_51 rfl ⟨congrArg (fun z => some (Value.int z)) (show zCost (upd s (15 + 22 * mi + (14 + gi)) v) (nI 63) = zE (zDwant (nI (mi)) (nI (gi)) v) (fun q => zCost (zSwant s v q) (nI 63)) from by simp [zDwant, zE, zOb, zSwant, *]), (by simp [zDwant, zU, zOb, zSwant, *])⟩
      · skip
        refine r_ldc ok ck_X6_125 dX6_want_27 ?_
        exact r_iret ok dX6_want_29 rfl ⟨congrArg (fun z => some (Value.int z)) (show -100002 = zE (zDwant (nI (mi)) (nI (gi)) v) (fun q => zCost (zSwant s v q) (nI 63)) from by simp [zDwant, zE, zOb, zSwant, *]), (by simp [zDwant, zU, zOb, zSwant, *])⟩
    · skip
      have n_g : zix g 8 = none := Option.not_isSome_iff_eq_none.mp (by rw [c11_2]; decide)
      refine r_ldc ok ck_X6_132 dX6_want_14 ?_
      exact r_iret ok dX6_want_16 rfl ⟨congrArg (fun z => some (Value.int z)) (show -100001 = zE (zDwant (nI (mi)) g v) (fun q => zCost (zSwant s v q) (nI 63)) from by simp [zDwant, zE, zOb, zSwant, *]), (by simp [zDwant, zU, zOb, zSwant, *])⟩
set_option maxHeartbeats 4000000 in
set_option maxRecDepth 100000 in
theorem c_X6_pay (l : Launch) (G : zG) (M : zM) (N a : Nat) (s sA sH sL : Nat → Int32) (sI : Nat → Bool) (sP sT sG : Nat → Int32) (kp ln po : Int32) (wr : Bool) (kn : Nat) (m : Int32) (v : Int32) (hk : kn ≤ 6) : zC l G yX6_pay cX6_pay 3 (some .int) 2 44 0 0 [.ref a, .int (m), .int (v)] (mdM G M a s sA sH sL sI sP sT sG (nI kn) ln po wr) N (zP (some (.int (zE (zDpay m v) (fun i => s (15 + 22 * i + 0) + v)))) (mdM G M a (zU (zDpay m v) s (zSpay s v)) sA (zU (zDpay m v) sH (fun _ => zRecH s sH kn)) sL sI sP sT sG (nI (zU (zDpay m v) kn (fun _ => zRecK kn))) ln po wr)) := by
  refine zC.of (by decide +kernel) (Nat.le_of_ble_eq_true rfl) ?_
  intro K hKl ok
  subst hKl
  show zW K G 3 _ 0 0 _ N 0 [(0, .ref a), (1, .int (m)), (2, .int (v))] []
  refine r_iload_n ok dX6_pay_0 1 rfl rfl ?_
  refine r_cS1 ok [] mi_X6_isMember ml_X6_126 sm_X6_isMember dX6_pay_1 (c_X6_isMember K.2.1 G (mdM G M a s sA sH sL sI sP sT sG (nI kn) ln po wr) N  m ) rfl rfl ⟨Nat.le_of_ble_eq_true rfl, Nat.le_of_ble_eq_true rfl⟩ (Nat.le_of_ble_eq_true rfl) ⟨Nat.zero_le _, Nat.zero_le _⟩ ?_
  refine r_ifneZ ok 10 dX6_pay_4 (by decide) (fun c4_1 => ?_) (fun c4_1 => ?_)
  · skip
    obtain ⟨mi, z_m⟩ := Option.isSome_iff_exists.mp c4_1
    obtain ⟨h_m, e_m⟩ := zix_some z_m (by omega)
    subst e_m
    refine r_iload_n ok dX6_pay_10 2 rfl rfl ?_
    refine r_iconst ok (nI 1) dX6_pay_11 (by rfl) ?_
    refine r_sipush ok (nI 1000) dX6_pay_12 (by rfl) ?_
    refine r_cS1 ok [] mi_X6_in ml_X6_35 sm_X6_in dX6_pay_15 (c_X6_in K.2.1 G (mdM G M a s sA sH sL sI sP sT sG (nI kn) ln po wr) N  v (nI 1) (nI 1000) ) rfl rfl ⟨Nat.le_of_ble_eq_true rfl, Nat.le_of_ble_eq_true rfl⟩ (Nat.le_of_ble_eq_true rfl) ⟨Nat.zero_le _, Nat.zero_le _⟩ ?_
    refine r_ifeqZ ok 47 dX6_pay_18 (by decide) (fun c18_2 => ?_) (fun c18_2 => ?_)
    · skip
      refine r_ldc ok ck_X6_125 dX6_pay_47 ?_
      exact r_iret ok dX6_pay_49 rfl ⟨congrArg (fun z => some (Value.int z)) (show -100002 = zE (zDpay (nI (mi)) v) (fun i => s (15 + 22 * i + 0) + v) from by simp [zDpay, zE, zOb, *]), (by simp [zDpay, zU, zOb, zSpay, *])⟩
    · skip
      refine r_aload_n ok dX6_pay_21 0 rfl rfl ?_
      refine r_iload_n ok dX6_pay_22 1 rfl rfl ?_
      refine r_iconst ok (nI 0) dX6_pay_23 (by rfl) ?_
      refine r_cS1 ok [.ref a] mi_X6_of ml_X6_47 sm_X6_of dX6_pay_24 (c_X6_of K.2.1 G (mdM G M a s sA sH sL sI sP sT sG (nI kn) ln po wr) N  mi 0 ) rfl rfl ⟨Nat.le_of_ble_eq_true rfl, Nat.le_of_ble_eq_true rfl⟩ (Nat.le_of_ble_eq_true rfl) ⟨Nat.zero_le _, Nat.zero_le _⟩ ?_
      refine r_aload_n ok dX6_pay_27 0 rfl rfl ?_
      refine r_getf ok ci_X6 fl_X6_7 (by decide) dX6_pay_28 md_o rfl ?_
      refine r_iload_n ok dX6_pay_31 1 rfl rfl ?_
      refine r_iconst ok (nI 0) dX6_pay_32 (by rfl) ?_
      refine r_cS1 ok [.ref (a + 1), .int (nI (15 + 22 * mi + 0)), .ref a] mi_X6_of ml_X6_47 sm_X6_of dX6_pay_33 (c_X6_of K.2.1 G (mdM G M a s sA sH sL sI sP sT sG (nI kn) ln po wr) N  mi 0 ) rfl rfl ⟨Nat.le_of_ble_eq_true rfl, Nat.le_of_ble_eq_true rfl⟩ (Nat.le_of_ble_eq_true rfl) ⟨Nat.zero_le _, Nat.zero_le _⟩ ?_
      refine r_ialdN ok (by omega) (by omega) dX6_pay_36 md_s ?_
      refine r_iload_n ok dX6_pay_37 2 rfl rfl ?_
      refine r_iadd ok dX6_pay_38 ?_
      refine r_cV1 ok [] mi_X6_lays ci_X6 ml_X6_122 im_X6_lays se_X6_lays dX6_pay_39 (c_X6_lays K.2.1 G M N a s sA sH sL sI sP sT sG (nI kn) ln po wr kn (15 + 22 * mi + 0) ((s (15 + 22 * mi + 0)) + v) (by omega) (by omega)) md_o rfl rfl ⟨Nat.le_of_ble_eq_true rfl, Nat.le_of_ble_eq_true rfl⟩ (Nat.le_of_ble_eq_true rfl) ⟨Nat.zero_le _, Nat.zero_le _⟩ ?_
      refine r_iload_n ok dX6_pay_42 2 rfl rfl ?_
      refine r_iadd ok dX6_pay_43 ?_
      refine r_goto ok 49 dX6_pay_44 (by decide) ?_
      exact r_iret ok dX6_pay_49 rfl ⟨congrArg (fun z => some (Value.int z)) (show (s (15 + 22 * mi + 0)) + v = zE (zDpay (nI (mi)) v) (fun i => s (15 + 22 * i + 0) + v) from by simp [zDpay, zE, zOb, *]), (by simp [zDpay, zU, zOb, zSpay, *])⟩
  · skip
    have n_m : zix m 6 = none := Option.not_isSome_iff_eq_none.mp (by rw [c4_1]; decide)
    refine r_ldc ok ck_X6_132 dX6_pay_7 ?_
    exact r_iret ok dX6_pay_9 rfl ⟨congrArg (fun z => some (Value.int z)) (show -100001 = zE (zDpay m v) (fun i => s (15 + 22 * i + 0) + v) from by simp [zDpay, zE, zOb, *]), (by simp [zDpay, zU, zOb, zSpay, *])⟩
set_option maxHeartbeats 4000000 in
set_option maxRecDepth 100000 in
theorem c_X6_give (l : Launch) (G : zG) (M : zM) (N a : Nat) (s sA sH sL : Nat → Int32) (sI : Nat → Bool) (sP sT sG : Nat → Int32) (kp ln po : Int32) (wr : Bool) (kn : Nat) (m : Int32) (o : Int32) (g : Int32) (v : Int32) (hk : kn ≤ 6) : zC l G yX6_give cX6_give 5 (some .int) 2 42 0 0 [.ref a, .int (m), .int (o), .int (g), .int (v)] (mdM G M a s sA sH sL sI sP sT sG (nI kn) ln po wr) N (zP (some (.int (zE (zDgive s m o g v) (fun q => zSgive s v q (15 + 22 * q.1 + 0))))) (mdM G M a (zU (zDgive s m o g v) s (zSgive s v)) sA (zU (zDgive s m o g v) sH (fun _ => zRecH s sH kn)) sL sI sP sT sG (nI (zU (zDgive s m o g v) kn (fun _ => zRecK kn))) ln po wr)) := by
  refine zC.of (by decide +kernel) (Nat.le_of_ble_eq_true rfl) ?_
  intro K hKl ok
  subst hKl
  show zW K G 5 _ 0 0 _ N 0 [(0, .ref a), (1, .int (m)), (2, .int (o)), (3, .int (g)), (4, .int (v))] []
  refine r_iload_n ok dX6_give_0 1 rfl rfl ?_
  refine r_cS1 ok [] mi_X6_isMember ml_X6_126 sm_X6_isMember dX6_give_1 (c_X6_isMember K.2.1 G (mdM G M a s sA sH sL sI sP sT sG (nI kn) ln po wr) N  m ) rfl rfl ⟨Nat.le_of_ble_eq_true rfl, Nat.le_of_ble_eq_true rfl⟩ (Nat.le_of_ble_eq_true rfl) ⟨Nat.zero_le _, Nat.zero_le _⟩ ?_
  refine r_ifeqZ ok 21 dX6_give_4 (by decide) (fun c4_1 => ?_) (fun c4_1 => ?_)
  · skip
    have n_m : zix m 6 = none := Option.not_isSome_iff_eq_none.mp (by rw [c4_1]; decide)
    refine r_ldc ok ck_X6_132 dX6_give_21 ?_
    exact r_iret ok dX6_give_23 rfl ⟨congrArg (fun z => some (Value.int z)) (show -100001 = zE (zDgive s m o g v) (fun q => zSgive s v q (15 + 22 * q.1 + 0)) from by simp [zDgive, zE, zOb, zSgive, Int32.not_lt, Int32.not_le, *]), (by simp [zDgive, zU, zOb, zSgive, *])⟩
  · skip
    obtain ⟨mi, z_m⟩ := Option.isSome_iff_exists.mp c4_1
    obtain ⟨h_m, e_m⟩ := zix_some z_m (by omega)
    subst e_m
    refine r_iload_n ok dX6_give_7 2 rfl rfl ?_
    refine r_cS1 ok [] mi_X6_isMember ml_X6_126 sm_X6_isMember dX6_give_8 (c_X6_isMember K.2.1 G (mdM G M a s sA sH sL sI sP sT sG (nI kn) ln po wr) N  o ) rfl rfl ⟨Nat.le_of_ble_eq_true rfl, Nat.le_of_ble_eq_true rfl⟩ (Nat.le_of_ble_eq_true rfl) ⟨Nat.zero_le _, Nat.zero_le _⟩ ?_
    refine r_ifeqZ ok 21 dX6_give_11 (by decide) (fun c11_2 => ?_) (fun c11_2 => ?_)
    · skip
      have n_o : zix o 6 = none := Option.not_isSome_iff_eq_none.mp (by rw [c11_2]; decide)
      refine r_ldc ok ck_X6_132 dX6_give_21 ?_
      exact r_iret ok dX6_give_23 rfl ⟨congrArg (fun z => some (Value.int z)) (show -100001 = zE (zDgive s (nI (mi)) o g v) (fun q => zSgive s v q (15 + 22 * q.1 + 0)) from by simp [zDgive, zE, zOb, zSgive, Int32.not_lt, Int32.not_le, *]), (by simp [zDgive, zU, zOb, zSgive, *])⟩
    · skip
      obtain ⟨oi, z_o⟩ := Option.isSome_iff_exists.mp c11_2
      obtain ⟨h_o, e_o⟩ := zix_some z_o (by omega)
      subst e_o
      refine r_iload_n ok dX6_give_14 3 rfl rfl ?_
      refine r_cS1 ok [] mi_X6_isGauge ml_X6_129 sm_X6_isGauge dX6_give_15 (c_X6_isGauge K.2.1 G (mdM G M a s sA sH sL sI sP sT sG (nI kn) ln po wr) N  g ) rfl rfl ⟨Nat.le_of_ble_eq_true rfl, Nat.le_of_ble_eq_true rfl⟩ (Nat.le_of_ble_eq_true rfl) ⟨Nat.zero_le _, Nat.zero_le _⟩ ?_
      refine r_ifneZ ok 24 dX6_give_18 (by decide) (fun c18_3 => ?_) (fun c18_3 => ?_)
      · skip
        obtain ⟨gi, z_g⟩ := Option.isSome_iff_exists.mp c18_3
        obtain ⟨h_g, e_g⟩ := zix_some z_g (by omega)
        subst e_g
        refine r_iload_n ok dX6_give_24 1 rfl rfl ?_
        refine r_iload_n ok dX6_give_25 2 rfl rfl ?_
        refine r_icmp_eqN ok 40 (by omega) (by omega) dX6_give_26 (by decide) (fun c26_4 => ?_) (fun c26_4 => ?_)
        · skip
          refine r_ldc ok ck_X6_125 dX6_give_40 ?_
          exact r_iret ok dX6_give_42 rfl ⟨congrArg (fun z => some (Value.int z)) (show -100002 = zE (zDgive s (nI (mi)) (nI (oi)) (nI (gi)) v) (fun q => zSgive s v q (15 + 22 * q.1 + 0)) from by simp [zDgive, zE, zOb, zSgive, Int32.not_lt, Int32.not_le, *]), (by simp [zDgive, zU, zOb, zSgive, *])⟩
        · skip
          refine r_iload ok dX6_give_29 4 rfl ?_
          refine r_iconst ok (nI 1) dX6_give_31 (by rfl) ?_
          refine r_bipush ok (nI 20) dX6_give_32 (by rfl) ?_
          refine r_cS1 ok [] mi_X6_in ml_X6_35 sm_X6_in dX6_give_34 (c_X6_in K.2.1 G (mdM G M a s sA sH sL sI sP sT sG (nI kn) ln po wr) N  v (nI 1) (nI 20) ) rfl rfl ⟨Nat.le_of_ble_eq_true rfl, Nat.le_of_ble_eq_true rfl⟩ (Nat.le_of_ble_eq_true rfl) ⟨Nat.zero_le _, Nat.zero_le _⟩ ?_
          refine r_ifneZ ok 43 dX6_give_37 (by decide) (fun c37_5 => ?_) (fun c37_5 => ?_)
          · skip
            refine r_aload_n ok dX6_give_43 0 rfl rfl ?_
            refine r_getf ok ci_X6 fl_X6_7 (by decide) dX6_give_44 md_o rfl ?_
            refine r_iload_n ok dX6_give_47 1 rfl rfl ?_
            refine r_bipush ok (nI 6) dX6_give_48 (by rfl) ?_
            refine r_iload_n ok dX6_give_50 3 rfl rfl ?_
            refine r_iaddN ok dX6_give_51 ?_
            refine r_cS1 ok [.ref (a + 1)] mi_X6_of ml_X6_47 sm_X6_of dX6_give_52 (c_X6_of K.2.1 G (mdM G M a s sA sH sL sI sP sT sG (nI kn) ln po wr) N  mi (6 + gi) ) rfl rfl ⟨Nat.le_of_ble_eq_true rfl, Nat.le_of_ble_eq_true rfl⟩ (Nat.le_of_ble_eq_true rfl) ⟨Nat.zero_le _, Nat.zero_le _⟩ ?_
            refine r_ialdN ok (by omega) (by omega) dX6_give_55 md_s ?_
            refine r_iload ok dX6_give_56 4 rfl ?_
            refine r_icmp_lt ok 82 dX6_give_58 (by decide) (fun c58_6 => ?_) (fun c58_6 => ?_)
            · skip
              refine r_ldc ok ck_X6_133 dX6_give_82 ?_
              exact r_iret ok dX6_give_84 rfl ⟨congrArg (fun z => some (Value.int z)) (show -100005 = zE (zDgive s (nI (mi)) (nI (oi)) (nI (gi)) v) (fun q => zSgive s v q (15 + 22 * q.1 + 0)) from by simp [zDgive, zE, zOb, zSgive, Int32.not_lt, Int32.not_le, *]), (by simp [zDgive, zU, zOb, zSgive, *])⟩
            · skip
              refine r_aload_n ok dX6_give_61 0 rfl rfl ?_
              refine r_getf ok ci_X6 fl_X6_7 (by decide) dX6_give_62 md_o rfl ?_
              refine r_iload_n ok dX6_give_65 2 rfl rfl ?_
              refine r_bipush ok (nI 6) dX6_give_66 (by rfl) ?_
              refine r_iload_n ok dX6_give_68 3 rfl rfl ?_
              refine r_iaddN ok dX6_give_69 ?_
              refine r_cS1 ok [.ref (a + 1)] mi_X6_of ml_X6_47 sm_X6_of dX6_give_70 (c_X6_of K.2.1 G (mdM G M a s sA sH sL sI sP sT sG (nI kn) ln po wr) N  oi (6 + gi) ) rfl rfl ⟨Nat.le_of_ble_eq_true rfl, Nat.le_of_ble_eq_true rfl⟩ (Nat.le_of_ble_eq_true rfl) ⟨Nat.zero_le _, Nat.zero_le _⟩ ?_
              refine r_ialdN ok (by omega) (by omega) dX6_give_73 md_s ?_
              refine r_iload ok dX6_give_74 4 rfl ?_
              refine r_iadd ok dX6_give_76 ?_
              refine r_bipush ok (nI 99) dX6_give_77 (by rfl) ?_
              refine r_icmp_le ok 85 dX6_give_79 (by decide) (fun c79_7 => ?_) (fun c79_7 => ?_)
              · skip
                refine r_aload_n ok dX6_give_85 0 rfl rfl ?_
                refine r_cV0 ok [] mi_X6_record ci_X6 ml_X6_113 im_X6_record se_X6_record dX6_give_86 (c_X6_record K.2.1 G M N a s sA sH sL sI sP sT sG (nI kn) ln po wr kn  (by omega)) md_o rfl rfl ⟨Nat.le_of_ble_eq_true rfl, Nat.le_of_ble_eq_true rfl⟩ (Nat.le_of_ble_eq_true rfl) ⟨Nat.zero_le _, Nat.zero_le _⟩ ?_
                refine r_aload_n ok dX6_give_89 0 rfl rfl ?_
                refine r_getf ok ci_X6 fl_X6_7 (by decide) dX6_give_90 md_o rfl ?_
                refine r_iload_n ok dX6_give_93 1 rfl rfl ?_
                refine r_bipush ok (nI 6) dX6_give_94 (by rfl) ?_
                refine r_iload_n ok dX6_give_96 3 rfl rfl ?_
                refine r_iaddN ok dX6_give_97 ?_
                refine r_cS1 ok [.ref (a + 1)] mi_X6_of ml_X6_47 sm_X6_of dX6_give_98 (c_X6_of K.2.1 G (mdM G M a s sA (zRecH s sH kn) sL sI sP sT sG (nI (zRecK kn)) ln po wr) N  mi (6 + gi) ) rfl rfl ⟨Nat.le_of_ble_eq_true rfl, Nat.le_of_ble_eq_true rfl⟩ (Nat.le_of_ble_eq_true rfl) ⟨Nat.zero_le _, Nat.zero_le _⟩ ?_
                refine r_dup2 ok dX6_give_101 rfl rfl ?_
                refine r_ialdN ok (by omega) (by omega) dX6_give_102 md_s ?_
                refine r_iload ok dX6_give_103 4 rfl ?_
                refine r_isub ok dX6_give_105 ?_
                refine r_iastN ok (by omega) (by omega) dX6_give_106 md_s (mdw_s _) ?_
                refine r_aload_n ok dX6_give_107 0 rfl rfl ?_
                refine r_getf ok ci_X6 fl_X6_7 (by decide) dX6_give_108 md_o rfl ?_
                refine r_iload_n ok dX6_give_111 2 rfl rfl ?_
                refine r_bipush ok (nI 6) dX6_give_112 (by rfl) ?_
                refine r_iload_n ok dX6_give_114 3 rfl rfl ?_
                refine r_iaddN ok dX6_give_115 ?_
                refine r_cS1 ok [.ref (a + 1)] mi_X6_of ml_X6_47 sm_X6_of dX6_give_116 (c_X6_of K.2.1 G (mdM G M a (upd s (15 + 22 * mi + (6 + gi)) ((s (15 + 22 * mi + (6 + gi))) - v)) sA (zRecH s sH kn) sL sI sP sT sG (nI (zRecK kn)) ln po wr) N  oi (6 + gi) ) rfl rfl ⟨Nat.le_of_ble_eq_true rfl, Nat.le_of_ble_eq_true rfl⟩ (Nat.le_of_ble_eq_true rfl) ⟨Nat.zero_le _, Nat.zero_le _⟩ ?_
                refine r_dup2 ok dX6_give_119 rfl rfl ?_
                refine r_ialdN ok (by omega) (by omega) dX6_give_120 md_s ?_
                refine r_iload ok dX6_give_121 4 rfl ?_
                refine r_iadd ok dX6_give_123 ?_
                refine r_iastN ok (by omega) (by omega) dX6_give_124 md_s (mdw_s _) ?_
                refine r_aload_n ok dX6_give_125 0 rfl rfl ?_
                refine r_getf ok ci_X6 fl_X6_7 (by decide) dX6_give_126 md_o rfl ?_
                refine r_iload_n ok dX6_give_129 1 rfl rfl ?_
                refine r_iconst ok (nI 0) dX6_give_130 (by rfl) ?_
                refine r_cS1 ok [.ref (a + 1)] mi_X6_of ml_X6_47 sm_X6_of dX6_give_131 (c_X6_of K.2.1 G (mdM G M a (upd (upd s (15 + 22 * mi + (6 + gi)) ((s (15 + 22 * mi + (6 + gi))) - v)) (15 + 22 * oi + (6 + gi)) (((upd s (15 + 22 * mi + (6 + gi)) ((s (15 + 22 * mi + (6 + gi))) - v)) (15 + 22 * oi + (6 + gi))) + v)) sA (zRecH s sH kn) sL sI sP sT sG (nI (zRecK kn)) ln po wr) N  mi 0 ) rfl rfl ⟨Nat.le_of_ble_eq_true rfl, Nat.le_of_ble_eq_true rfl⟩ (Nat.le_of_ble_eq_true rfl) ⟨Nat.zero_le _, Nat.zero_le _⟩ ?_
                refine r_dup2 ok dX6_give_134 rfl rfl ?_
                refine r_ialdN ok (by omega) (by omega) dX6_give_135 md_s ?_
                refine r_iload ok dX6_give_136 4 rfl ?_
                refine r_iload_n ok dX6_give_138 3 rfl rfl ?_
                refine r_cS1 ok [.int (v), .int ((upd (upd s (15 + 22 * mi + (6 + gi)) ((s (15 + 22 * mi + (6 + gi))) - v)) (15 + 22 * oi + (6 + gi)) (((upd s (15 + 22 * mi + (6 + gi)) ((s (15 + 22 * mi + (6 + gi))) - v)) (15 + 22 * oi + (6 + gi))) + v)) (15 + 22 * mi + 0)), .int (nI (15 + 22 * mi + 0)), .ref (a + 1)] mi_X6_price ml_X6_54 sm_X6_price dX6_give_139 (c_X6_price K.2.1 G (mdM G M a (upd (upd s (15 + 22 * mi + (6 + gi)) ((s (15 + 22 * mi + (6 + gi))) - v)) (15 + 22 * oi + (6 + gi)) (((upd s (15 + 22 * mi + (6 + gi)) ((s (15 + 22 * mi + (6 + gi))) - v)) (15 + 22 * oi + (6 + gi))) + v)) sA (zRecH s sH kn) sL sI sP sT sG (nI (zRecK kn)) ln po wr) N  gi ) rfl rfl ⟨Nat.le_of_ble_eq_true rfl, Nat.le_of_ble_eq_true rfl⟩ (Nat.le_of_ble_eq_true rfl) ⟨Nat.zero_le _, Nat.zero_le _⟩ ?_
                refine r_imul ok dX6_give_142 ?_
                refine r_iadd ok dX6_give_143 ?_
                refine r_iastN ok (by omega) (by omega) dX6_give_144 md_s (mdw_s _) ?_
                refine r_aload_n ok dX6_give_145 0 rfl rfl ?_
                refine r_getf ok ci_X6 fl_X6_7 (by decide) dX6_give_146 md_o rfl ?_
                refine r_iload_n ok dX6_give_149 2 rfl rfl ?_
                refine r_iconst ok (nI 0) dX6_give_150 (by rfl) ?_
                refine r_cS1 ok [.ref (a + 1)] mi_X6_of ml_X6_47 sm_X6_of dX6_give_151 (c_X6_of K.2.1 G (mdM G M a (upd (upd (upd s (15 + 22 * mi + (6 + gi)) ((s (15 + 22 * mi + (6 + gi))) - v)) (15 + 22 * oi + (6 + gi)) (((upd s (15 + 22 * mi + (6 + gi)) ((s (15 + 22 * mi + (6 + gi))) - v)) (15 + 22 * oi + (6 + gi))) + v)) (15 + 22 * mi + 0) (((upd (upd s (15 + 22 * mi + (6 + gi)) ((s (15 + 22 * mi + (6 + gi))) - v)) (15 + 22 * oi + (6 + gi)) (((upd s (15 + 22 * mi + (6 + gi)) ((s (15 + 22 * mi + (6 + gi))) - v)) (15 + 22 * oi + (6 + gi))) + v)) (15 + 22 * mi + 0)) + (v * (nI (10 + 5 * gi))))) sA (zRecH s sH kn) sL sI sP sT sG (nI (zRecK kn)) ln po wr) N  oi 0 ) rfl rfl ⟨Nat.le_of_ble_eq_true rfl, Nat.le_of_ble_eq_true rfl⟩ (Nat.le_of_ble_eq_true rfl) ⟨Nat.zero_le _, Nat.zero_le _⟩ ?_
                refine r_dup2 ok dX6_give_154 rfl rfl ?_
                refine r_ialdN ok (by omega) (by omega) dX6_give_155 md_s ?_
                refine r_iload ok dX6_give_156 4 rfl ?_
                refine r_iload_n ok dX6_give_158 3 rfl rfl ?_
                refine r_cS1 ok [.int (v), .int ((upd (upd (upd s (15 + 22 * mi + (6 + gi)) ((s (15 + 22 * mi + (6 + gi))) - v)) (15 + 22 * oi + (6 + gi)) (((upd s (15 + 22 * mi + (6 + gi)) ((s (15 + 22 * mi + (6 + gi))) - v)) (15 + 22 * oi + (6 + gi))) + v)) (15 + 22 * mi + 0) (((upd (upd s (15 + 22 * mi + (6 + gi)) ((s (15 + 22 * mi + (6 + gi))) - v)) (15 + 22 * oi + (6 + gi)) (((upd s (15 + 22 * mi + (6 + gi)) ((s (15 + 22 * mi + (6 + gi))) - v)) (15 + 22 * oi + (6 + gi))) + v)) (15 + 22 * mi + 0)) + (v * (nI (10 + 5 * gi))))) (15 + 22 * oi + 0)), .int (nI (15 + 22 * oi + 0)), .ref (a + 1)] mi_X6_price ml_X6_54 sm_X6_price dX6_give_159 (c_X6_price K.2.1 G (mdM G M a (upd (upd (upd s (15 + 22 * mi + (6 + gi)) ((s (15 + 22 * mi + (6 + gi))) - v)) (15 + 22 * oi + (6 + gi)) (((upd s (15 + 22 * mi + (6 + gi)) ((s (15 + 22 * mi + (6 + gi))) - v)) (15 + 22 * oi + (6 + gi))) + v)) (15 + 22 * mi + 0) (((upd (upd s (15 + 22 * mi + (6 + gi)) ((s (15 + 22 * mi + (6 + gi))) - v)) (15 + 22 * oi + (6 + gi)) (((upd s (15 + 22 * mi + (6 + gi)) ((s (15 + 22 * mi + (6 + gi))) - v)) (15 + 22 * oi + (6 + gi))) + v)) (15 + 22 * mi + 0)) + (v * (nI (10 + 5 * gi))))) sA (zRecH s sH kn) sL sI sP sT sG (nI (zRecK kn)) ln po wr) N  gi ) rfl rfl ⟨Nat.le_of_ble_eq_true rfl, Nat.le_of_ble_eq_true rfl⟩ (Nat.le_of_ble_eq_true rfl) ⟨Nat.zero_le _, Nat.zero_le _⟩ ?_
                refine r_imul ok dX6_give_162 ?_
                refine r_isub ok dX6_give_163 ?_
                refine r_iastN ok (by omega) (by omega) dX6_give_164 md_s (mdw_s _) ?_
                refine r_aload_n ok dX6_give_165 0 rfl rfl ?_
                refine r_getf ok ci_X6 fl_X6_7 (by decide) dX6_give_166 md_o rfl ?_
                refine r_iload_n ok dX6_give_169 1 rfl rfl ?_
                refine r_iconst ok (nI 0) dX6_give_170 (by rfl) ?_
                refine r_cS1 ok [.ref (a + 1)] mi_X6_of ml_X6_47 sm_X6_of dX6_give_171 (c_X6_of K.2.1 G (mdM G M a (upd (upd (upd (upd s (15 + 22 * mi + (6 + gi)) ((s (15 + 22 * mi + (6 + gi))) - v)) (15 + 22 * oi + (6 + gi)) (((upd s (15 + 22 * mi + (6 + gi)) ((s (15 + 22 * mi + (6 + gi))) - v)) (15 + 22 * oi + (6 + gi))) + v)) (15 + 22 * mi + 0) (((upd (upd s (15 + 22 * mi + (6 + gi)) ((s (15 + 22 * mi + (6 + gi))) - v)) (15 + 22 * oi + (6 + gi)) (((upd s (15 + 22 * mi + (6 + gi)) ((s (15 + 22 * mi + (6 + gi))) - v)) (15 + 22 * oi + (6 + gi))) + v)) (15 + 22 * mi + 0)) + (v * (nI (10 + 5 * gi))))) (15 + 22 * oi + 0) (((upd (upd (upd s (15 + 22 * mi + (6 + gi)) ((s (15 + 22 * mi + (6 + gi))) - v)) (15 + 22 * oi + (6 + gi)) (((upd s (15 + 22 * mi + (6 + gi)) ((s (15 + 22 * mi + (6 + gi))) - v)) (15 + 22 * oi + (6 + gi))) + v)) (15 + 22 * mi + 0) (((upd (upd s (15 + 22 * mi + (6 + gi)) ((s (15 + 22 * mi + (6 + gi))) - v)) (15 + 22 * oi + (6 + gi)) (((upd s (15 + 22 * mi + (6 + gi)) ((s (15 + 22 * mi + (6 + gi))) - v)) (15 + 22 * oi + (6 + gi))) + v)) (15 + 22 * mi + 0)) + (v * (nI (10 + 5 * gi))))) (15 + 22 * oi + 0)) - (v * (nI (10 + 5 * gi))))) sA (zRecH s sH kn) sL sI sP sT sG (nI (zRecK kn)) ln po wr) N  mi 0 ) rfl rfl ⟨Nat.le_of_ble_eq_true rfl, Nat.le_of_ble_eq_true rfl⟩ (Nat.le_of_ble_eq_true rfl) ⟨Nat.zero_le _, Nat.zero_le _⟩ ?_
                refine r_ialdN ok (by omega) (by omega) dX6_give_174 md_s ?_
                exact r_iret ok dX6_give_175 rfl ⟨congrArg (fun z => some (Value.int z)) (show (upd (upd (upd (upd s (15 + 22 * mi + (6 + gi)) ((s (15 + 22 * mi + (6 + gi))) - v)) (15 + 22 * oi + (6 + gi)) (((upd s (15 + 22 * mi + (6 + gi)) ((s (15 + 22 * mi + (6 + gi))) - v)) (15 + 22 * oi + (6 + gi))) + v)) (15 + 22 * mi + 0) (((upd (upd s (15 + 22 * mi + (6 + gi)) ((s (15 + 22 * mi + (6 + gi))) - v)) (15 + 22 * oi + (6 + gi)) (((upd s (15 + 22 * mi + (6 + gi)) ((s (15 + 22 * mi + (6 + gi))) - v)) (15 + 22 * oi + (6 + gi))) + v)) (15 + 22 * mi + 0)) + (v * (nI (10 + 5 * gi))))) (15 + 22 * oi + 0) (((upd (upd (upd s (15 + 22 * mi + (6 + gi)) ((s (15 + 22 * mi + (6 + gi))) - v)) (15 + 22 * oi + (6 + gi)) (((upd s (15 + 22 * mi + (6 + gi)) ((s (15 + 22 * mi + (6 + gi))) - v)) (15 + 22 * oi + (6 + gi))) + v)) (15 + 22 * mi + 0) (((upd (upd s (15 + 22 * mi + (6 + gi)) ((s (15 + 22 * mi + (6 + gi))) - v)) (15 + 22 * oi + (6 + gi)) (((upd s (15 + 22 * mi + (6 + gi)) ((s (15 + 22 * mi + (6 + gi))) - v)) (15 + 22 * oi + (6 + gi))) + v)) (15 + 22 * mi + 0)) + (v * (nI (10 + 5 * gi))))) (15 + 22 * oi + 0)) - (v * (nI (10 + 5 * gi))))) (15 + 22 * mi + 0) = zE (zDgive s (nI (mi)) (nI (oi)) (nI (gi)) v) (fun q => zSgive s v q (15 + 22 * q.1 + 0)) from by simp [zDgive, zE, zOb, zSgive, Int32.not_lt, Int32.not_le, *]), (by simp [zDgive, zU, zOb, zSgive, *])⟩
              · skip
                refine r_ldc ok ck_X6_133 dX6_give_82 ?_
                exact r_iret ok dX6_give_84 rfl ⟨congrArg (fun z => some (Value.int z)) (show -100005 = zE (zDgive s (nI (mi)) (nI (oi)) (nI (gi)) v) (fun q => zSgive s v q (15 + 22 * q.1 + 0)) from by simp [zDgive, zE, zOb, zSgive, Int32.not_lt, Int32.not_le, *]), (by simp [zDgive, zU, zOb, zSgive, *])⟩
          · skip
            refine r_ldc ok ck_X6_125 dX6_give_40 ?_
            exact r_iret ok dX6_give_42 rfl ⟨congrArg (fun z => some (Value.int z)) (show -100002 = zE (zDgive s (nI (mi)) (nI (oi)) (nI (gi)) v) (fun q => zSgive s v q (15 + 22 * q.1 + 0)) from by simp [zDgive, zE, zOb, zSgive, Int32.not_lt, Int32.not_le, *]), (by simp [zDgive, zU, zOb, zSgive, *])⟩
      · skip
        have n_g : zix g 8 = none := Option.not_isSome_iff_eq_none.mp (by rw [c18_3]; decide)
        refine r_ldc ok ck_X6_132 dX6_give_21 ?_
        exact r_iret ok dX6_give_23 rfl ⟨congrArg (fun z => some (Value.int z)) (show -100001 = zE (zDgive s (nI (mi)) (nI (oi)) g v) (fun q => zSgive s v q (15 + 22 * q.1 + 0)) from by simp [zDgive, zE, zOb, zSgive, Int32.not_lt, Int32.not_le, *]), (by simp [zDgive, zU, zOb, zSgive, *])⟩
set_option maxHeartbeats 4000000 in
set_option maxRecDepth 100000 in
theorem c_X6_shuffle (l : Launch) (G : zG) (M : zM) (N a : Nat) (s sA sH sL : Nat → Int32) (sI : Nat → Bool) (sP sT sG : Nat → Int32) (kp ln po : Int32) (wr : Bool) (kn : Nat) (v : Int32) (hk : kn ≤ 6) : zC l G yX6_shuffle cX6_shuffle 2 (some .int) 2 44 0 0 [.ref a, .int (v)] (mdM G M a s sA sH sL sI sP sT sG (nI kn) ln po wr) N (zP (some (.int (zE (zDshuf v) (fun _ => s 10)))) (mdM G M a (zU (zDshuf v) s (fun _ => upd s 10 v)) sA (zU (zDshuf v) sH (fun _ => zRecH s sH kn)) sL sI sP sT sG (nI (zU (zDshuf v) kn (fun _ => zRecK kn))) ln po wr)) := by
  refine zC.of (by decide +kernel) (Nat.le_of_ble_eq_true rfl) ?_
  intro K hKl ok
  subst hKl
  show zW K G 2 _ 0 0 _ N 0 [(0, .ref a), (1, .int (v))] []
  refine r_iload_n ok dX6_shuffle_0 1 rfl rfl ?_
  refine r_if_lt ok 14 dX6_shuffle_1 (by decide) (fun c1_1 => ?_) (fun c1_1 => ?_)
  · skip
    refine r_ldc ok ck_X6_125 dX6_shuffle_14 ?_
    exact r_iret ok dX6_shuffle_16 rfl ⟨congrArg (fun z => some (Value.int z)) (show -100002 = zE (zDshuf v) (fun _ => s 10) from by simp [zDshuf, zE, *]), (by simp [zDshuf, zU, *])⟩
  · skip
    refine r_aload_n ok dX6_shuffle_4 0 rfl rfl ?_
    refine r_bipush ok (nI 10) dX6_shuffle_5 (by rfl) ?_
    refine r_iload_n ok dX6_shuffle_7 1 rfl rfl ?_
    refine r_cV1 ok [] mi_X6_lays ci_X6 ml_X6_122 im_X6_lays se_X6_lays dX6_shuffle_8 (c_X6_lays K.2.1 G M N a s sA sH sL sI sP sT sG (nI kn) ln po wr kn 10 v (by omega) (by omega)) md_o rfl rfl ⟨Nat.le_of_ble_eq_true rfl, Nat.le_of_ble_eq_true rfl⟩ (Nat.le_of_ble_eq_true rfl) ⟨Nat.zero_le _, Nat.zero_le _⟩ ?_
    refine r_goto ok 16 dX6_shuffle_11 (by decide) ?_
    exact r_iret ok dX6_shuffle_16 rfl ⟨congrArg (fun z => some (Value.int z)) (show s 10 = zE (zDshuf v) (fun _ => s 10) from by simp [zDshuf, zE, *]), (by simp [zDshuf, zU, *])⟩
set_option maxHeartbeats 4000000 in
set_option maxRecDepth 100000 in
theorem c_X6_sum (l : Launch) (G : zG) (M : zM) (N a : Nat) (s sA sH sL : Nat → Int32) (sI : Nat → Bool) (sP sT sG : Nat → Int32) (kp ln po : Int32) (wr : Bool)  (m : Nat) (f : Nat) (hm : m < 6) (hf : f ≤ 14) : zC l G yX6_sum cX6_sum 5 (some .int) 1 21 0 0 [.ref a, .int (nI (m)), .int (nI (f))] (mdM G M a s sA sH sL sI sP sT sG kp ln po wr) N (zP (some (.int (zSum s m f))) (mdM G M a s sA sH sL sI sP sT sG kp ln po wr)) := by
  refine zC.of (by decide +kernel) (Nat.le_of_ble_eq_true rfl) ?_
  intro K hKl ok
  subst hKl
  show zW K G 5 _ 0 0 _ N 0 [(0, .ref a), (1, .int (nI (m))), (2, .int (nI (f)))] []
  refine r_iconst ok (nI 0) dX6_sum_0 (by rfl) ?_
  refine r_istore_n ok [(3, .int (nI 0)), (0, .ref a), (1, .int (nI (m))), (2, .int (nI (f)))] dX6_sum_1 rfl (by decide) rfl ?_
  refine r_iconst ok (nI 0) dX6_sum_2 (by rfl) ?_
  refine r_istore ok [(4, .int (nI 0)), (3, .int (nI 0)), (0, .ref a), (1, .int (nI (m))), (2, .int (nI (f)))] dX6_sum_3 (by decide) rfl ?_
  have L1 : ∀ (nL1 : Nat) (k : Nat), ((k + nL1 = 8)) → zW K G 5 (zQ K G (N + 0) 0 0 (zP (some (.int (zSum s m f))) (mdM G M a s sA sH sL sI sP sT sG kp ln po wr))) 0 0 (mdM G M a s sA sH sL sI sP sT sG kp ln po wr) N 5 [(0, .ref a), (1, .int (nI (m))), (2, .int (nI (f))), (3, .int (lsum (zSumT s m f) k)), (4, .int (nI (k)))] [] := by
    intro nL1
    induction nL1 with
    | zero =>
      intro k hk_k 
      obtain rfl : 8 = k := by omega
      refine r_iload ok dX6_sum_5 4 rfl ?_
      refine r_bipush ok (nI 8) dX6_sum_7 (by rfl) ?_
      refine r_icmp_geN ok 34 (by omega) (by omega) dX6_sum_9 (by decide) (fun _ => ?_) (fun c => absurd c (by decide))
      refine r_iload_n ok dX6_sum_34 3 rfl rfl ?_
      exact r_iret ok dX6_sum_35 rfl ⟨congrArg (fun z => some (Value.int z)) (show lsum (zSumT s m f) 8 = zSum s m f from by rfl), rfl⟩
    | succ nL1 ihL1 =>
      intro k hk_k 
      refine r_iload ok dX6_sum_5 4 rfl ?_
      refine r_bipush ok (nI 8) dX6_sum_7 (by rfl) ?_
      refine r_icmp_geN ok 34 (by omega) (by omega) dX6_sum_9 (by decide) (fun c9_3 => ?_) (fun c9_3 => ?_)
      · skip
        exact absurd c9_3 (by omega)
      · skip
        refine r_iload_n ok dX6_sum_12 3 rfl rfl ?_
        refine r_aload_n ok dX6_sum_13 0 rfl rfl ?_
        refine r_getf ok ci_X6 fl_X6_7 (by decide) dX6_sum_14 md_o rfl ?_
        refine r_iload_n ok dX6_sum_17 1 rfl rfl ?_
        refine r_iload_n ok dX6_sum_18 2 rfl rfl ?_
        refine r_iload ok dX6_sum_19 4 rfl ?_
        refine r_iaddN ok dX6_sum_21 ?_
        refine r_cS1 ok [.ref (a + 1), .int (lsum (zSumT s m f) k)] mi_X6_of ml_X6_47 sm_X6_of dX6_sum_22 (c_X6_of K.2.1 G (mdM G M a s sA sH sL sI sP sT sG kp ln po wr) N  m (f + k) ) rfl rfl ⟨Nat.le_of_ble_eq_true rfl, Nat.le_of_ble_eq_true rfl⟩ (Nat.le_of_ble_eq_true rfl) ⟨Nat.zero_le _, Nat.zero_le _⟩ ?_
        refine r_ialdN ok (by omega) (by omega) dX6_sum_25 md_s ?_
        refine r_iadd ok dX6_sum_26 ?_
        refine r_istore_n ok [(3, .int ((lsum (zSumT s m f) k) + (s (15 + 22 * m + (f + k))))), (0, .ref a), (1, .int (nI (m))), (2, .int (nI (f))), (4, .int (nI (k)))] dX6_sum_27 rfl (by decide) rfl ?_
        refine r_iincN ok (c := 1) [(4, .int (nI (k + 1))), (3, .int ((lsum (zSumT s m f) k) + (s (15 + 22 * m + (f + k))))), (0, .ref a), (1, .int (nI (m))), (2, .int (nI (f)))] dX6_sum_28 4 rfl (by rfl) (by decide) rfl ?_
        refine r_goto ok 5 dX6_sum_31 (by decide) ?_
        have q4 : Value.int ((lsum (zSumT s m f) k) + (s (15 + 22 * m + (f + k)))) = Value.int (lsum (zSumT s m f) (k + 1)) := by first | with_reducible rfl | (simp [lsum_s, zSumT])
        refine zW.forget (lv' := [(0, .ref a), (1, .int (nI (m))), (2, .int (nI (f))), (3, .int ((lsum (zSumT s m f) k) + (s (15 + 22 * m + (f + k))))), (4, .int (nI (k + 1)))]) ?_ [2, 3, 4, 1, 0] rfl
        refine zW.to (lv' := [(0, .ref a), (1, .int (nI (m))), (2, .int (nI (f))), (3, .int (lsum (zSumT s m f) (k + 1))), (4, .int (nI (k + 1)))]) ?_ rfl (congrArg (fun z => ([(0, .ref a), (1, .int (nI (m))), (2, .int (nI (f))), (3, z), (4, .int (nI (k + 1)))] : List (Nat × Value))) q4) rfl
        exact ihL1 (k + 1) (by omega)
  have q5 : Value.int (nI 0) = Value.int (lsum (zSumT s m f) 0) := by first | with_reducible rfl | (rfl)
  refine zW.forget (lv' := [(0, .ref a), (1, .int (nI (m))), (2, .int (nI (f))), (3, .int (nI 0)), (4, .int (nI 0))]) ?_ [2, 3, 4, 1, 0] rfl
  refine zW.to (lv' := [(0, .ref a), (1, .int (nI (m))), (2, .int (nI (f))), (3, .int (lsum (zSumT s m f) 0)), (4, .int (nI 0))]) ?_ rfl (congrArg (fun z => ([(0, .ref a), (1, .int (nI (m))), (2, .int (nI (f))), (3, z), (4, .int (nI 0))] : List (Nat × Value))) q5) rfl
  exact L1 8 0 (by omega)
set_option maxHeartbeats 4000000 in
set_option maxRecDepth 100000 in
theorem c_X6_onTheWay (l : Launch) (G : zG) (M : zM) (N a : Nat) (s sA sH sL : Nat → Int32) (sI : Nat → Bool) (sP sT sG : Nat → Int32) (kp ln po : Int32) (wr : Bool) (pn : Nat) (m : Nat) (hm : m < 6) (hp : s 14 = nI pn) (hp5 : pn ≤ 5) : zC l G yX6_onTheWay cX6_onTheWay 4 (some .int) 2 43 0 0 [.ref a, .int (nI (m))] (mdM G M a s sA sH sL sI sP sT sG kp ln po wr) N (zP (some (.int (zWay s m pn))) (mdM G M a s sA sH sL sI sP sT sG kp ln po wr)) := by
  refine zC.of (by decide +kernel) (Nat.le_of_ble_eq_true rfl) ?_
  intro K hKl ok
  subst hKl
  show zW K G 4 _ 0 0 _ N 0 [(0, .ref a), (1, .int (nI (m)))] []
  refine r_iconst ok (nI 0) dX6_onTheWay_0 (by rfl) ?_
  refine r_istore_n ok [(2, .int (nI 0)), (0, .ref a), (1, .int (nI (m)))] dX6_onTheWay_1 rfl (by decide) rfl ?_
  refine r_iconst ok (nI 0) dX6_onTheWay_2 (by rfl) ?_
  refine r_istore_n ok [(3, .int (nI 0)), (2, .int (nI 0)), (0, .ref a), (1, .int (nI (m)))] dX6_onTheWay_3 rfl (by decide) rfl ?_
  have L1 : ∀ (nL1 : Nat) (k : Nat), ((k + nL1 = pn * 8)) → zW K G 4 (zQ K G (N + 0) 0 0 (zP (some (.int (zWay s m pn))) (mdM G M a s sA sH sL sI sP sT sG kp ln po wr))) 0 0 (mdM G M a s sA sH sL sI sP sT sG kp ln po wr) N 4 [(0, .ref a), (1, .int (nI (m))), (2, .int (lsum (zWayT s m) k)), (3, .int (nI (k)))] [] := by
    intro nL1
    induction nL1 with
    | zero =>
      intro k hk_k 
      obtain rfl : pn * 8 = k := by omega
      refine r_iload_n ok dX6_onTheWay_4 3 rfl rfl ?_
      refine r_aload_n ok dX6_onTheWay_5 0 rfl rfl ?_
      refine r_getf ok ci_X6 fl_X6_7 (by decide) dX6_onTheWay_6 md_o rfl ?_
      refine r_bipush ok (nI 14) dX6_onTheWay_9 (by rfl) ?_
      refine r_ialdN ok (by omega) (by omega) dX6_onTheWay_11 md_s ?_
      refine zW.to (st' := [.int (nI (pn)), .int (nI ((pn * 8)))]) ?_ rfl rfl (congrArg (fun z => (Value.int z :: [.int (nI ((pn * 8)))] : List Value)) (show s 14 = nI (pn) from hp))
      refine r_bipush ok (nI 8) dX6_onTheWay_12 (by rfl) ?_
      refine r_imulN ok dX6_onTheWay_14 ?_
      refine r_icmp_geN ok 44 (by omega) (by omega) dX6_onTheWay_15 (by decide) (fun c15_2 => ?_) (fun c15_2 => ?_)
      · skip
        refine r_iload_n ok dX6_onTheWay_44 2 rfl rfl ?_
        exact r_iret ok dX6_onTheWay_45 rfl ⟨congrArg (fun z => some (Value.int z)) (show lsum (zWayT s m) (pn * 8) = zWay s m pn from by rfl), rfl⟩
      · skip
        exact absurd c15_2 (by omega)
    | succ nL1 ihL1 =>
      intro k hk_k 
      refine r_iload_n ok dX6_onTheWay_4 3 rfl rfl ?_
      refine r_aload_n ok dX6_onTheWay_5 0 rfl rfl ?_
      refine r_getf ok ci_X6 fl_X6_7 (by decide) dX6_onTheWay_6 md_o rfl ?_
      refine r_bipush ok (nI 14) dX6_onTheWay_9 (by rfl) ?_
      refine r_ialdN ok (by omega) (by omega) dX6_onTheWay_11 md_s ?_
      refine zW.to (st' := [.int (nI (pn)), .int (nI (k))]) ?_ rfl rfl (congrArg (fun z => (Value.int z :: [.int (nI (k))] : List Value)) (show s 14 = nI (pn) from hp))
      refine r_bipush ok (nI 8) dX6_onTheWay_12 (by rfl) ?_
      refine r_imulN ok dX6_onTheWay_14 ?_
      refine r_icmp_geN ok 44 (by omega) (by omega) dX6_onTheWay_15 (by decide) (fun c15_3 => ?_) (fun c15_3 => ?_)
      · skip
        exact absurd c15_3 (by omega)
      · skip
        refine r_iload_n ok dX6_onTheWay_18 2 rfl rfl ?_
        refine r_aload_n ok dX6_onTheWay_19 0 rfl rfl ?_
        refine r_getf ok ci_X6 fl_X6_7 (by decide) dX6_onTheWay_20 md_o rfl ?_
        refine r_iload_n ok dX6_onTheWay_23 3 rfl rfl ?_
        refine r_bipush ok (nI 8) dX6_onTheWay_24 (by rfl) ?_
        refine r_idivN ok (by omega) (by omega) (by omega) dX6_onTheWay_26 ?_
        refine r_iload_n ok dX6_onTheWay_27 1 rfl rfl ?_
        refine r_iload_n ok dX6_onTheWay_28 3 rfl rfl ?_
        refine r_bipush ok (nI 8) dX6_onTheWay_29 (by rfl) ?_
        refine r_iremN ok (by omega) (by omega) (by omega) dX6_onTheWay_31 ?_
        refine r_cS1 ok [.ref (a + 1), .int (lsum (zWayT s m) k)] mi_X6_ofString ml_X6_87 sm_X6_ofString dX6_onTheWay_32 (c_X6_ofString K.2.1 G (mdM G M a s sA sH sL sI sP sT sG kp ln po wr) N  (k / 8) m (k % 8) ) rfl rfl ⟨Nat.le_of_ble_eq_true rfl, Nat.le_of_ble_eq_true rfl⟩ (Nat.le_of_ble_eq_true rfl) ⟨Nat.zero_le _, Nat.zero_le _⟩ ?_
        refine r_ialdN ok (by omega) (by omega) dX6_onTheWay_35 md_s ?_
        refine r_iadd ok dX6_onTheWay_36 ?_
        refine r_istore_n ok [(2, .int ((lsum (zWayT s m) k) + (s (147 + 51 * (k / 8) + (3 + 8 * m + (k % 8)))))), (0, .ref a), (1, .int (nI (m))), (3, .int (nI (k)))] dX6_onTheWay_37 rfl (by decide) rfl ?_
        refine r_iincN ok (c := 1) [(3, .int (nI (k + 1))), (2, .int ((lsum (zWayT s m) k) + (s (147 + 51 * (k / 8) + (3 + 8 * m + (k % 8)))))), (0, .ref a), (1, .int (nI (m)))] dX6_onTheWay_38 3 rfl (by rfl) (by decide) rfl ?_
        refine r_goto ok 4 dX6_onTheWay_41 (by decide) ?_
        have q4 : Value.int ((lsum (zWayT s m) k) + (s (147 + 51 * (k / 8) + (3 + 8 * m + (k % 8))))) = Value.int (lsum (zWayT s m) (k + 1)) := by first | with_reducible rfl | (simp [lsum_s, zWayT])
        refine zW.forget (lv' := [(0, .ref a), (1, .int (nI (m))), (2, .int ((lsum (zWayT s m) k) + (s (147 + 51 * (k / 8) + (3 + 8 * m + (k % 8)))))), (3, .int (nI (k + 1)))]) ?_ [2, 3, 1, 0] rfl
        refine zW.to (lv' := [(0, .ref a), (1, .int (nI (m))), (2, .int (lsum (zWayT s m) (k + 1))), (3, .int (nI (k + 1)))]) ?_ rfl (congrArg (fun z => ([(0, .ref a), (1, .int (nI (m))), (2, z), (3, .int (nI (k + 1)))] : List (Nat × Value))) q4) rfl
        exact ihL1 (k + 1) (by omega)
  have q5 : Value.int (nI 0) = Value.int (lsum (zWayT s m) 0) := by first | with_reducible rfl | (rfl)
  refine zW.forget (lv' := [(0, .ref a), (1, .int (nI (m))), (2, .int (nI 0)), (3, .int (nI 0))]) ?_ [2, 3, 1, 0] rfl
  refine zW.to (lv' := [(0, .ref a), (1, .int (nI (m))), (2, .int (lsum (zWayT s m) 0)), (3, .int (nI 0))]) ?_ rfl (congrArg (fun z => ([(0, .ref a), (1, .int (nI (m))), (2, z), (3, .int (nI 0))] : List (Nat × Value))) q5) rfl
  exact L1 (pn * 8) 0 (by omega)
set_option maxHeartbeats 4000000 in
set_option maxRecDepth 100000 in
theorem c_X6_member (l : Launch) (G : zG) (M : zM) (N a : Nat) (s sA sH sL : Nat → Int32) (sI : Nat → Bool) (sP sT sG : Nat → Int32) (kp ln po : Int32) (wr : Bool) (pn : Nat) (m : Int32) (w : Int32) (hp : s 14 = nI pn) (hp5 : pn ≤ 5) : zC l G yX6_member cX6_member 3 (some .int) 3 66 0 0 [.ref a, .int (m), .int (w)] (mdM G M a s sA sH sL sI sP sT sG kp ln po wr) N (zP (some (.int (zE (zDmem m) (zRmem s pn w)))) (mdM G M a s sA sH sL sI sP sT sG kp ln po wr)) := by
  refine zC.of (by decide +kernel) (Nat.le_of_ble_eq_true rfl) ?_
  intro K hKl ok
  subst hKl
  show zW K G 3 _ 0 0 _ N 0 [(0, .ref a), (1, .int (m)), (2, .int (w))] []
  refine r_iload_n ok dX6_member_0 1 rfl rfl ?_
  refine r_cS1 ok [] mi_X6_isMember ml_X6_126 sm_X6_isMember dX6_member_1 (c_X6_isMember K.2.1 G (mdM G M a s sA sH sL sI sP sT sG kp ln po wr) N  m ) rfl rfl ⟨Nat.le_of_ble_eq_true rfl, Nat.le_of_ble_eq_true rfl⟩ (Nat.le_of_ble_eq_true rfl) ⟨Nat.zero_le _, Nat.zero_le _⟩ ?_
  refine r_ifneZ ok 10 dX6_member_4 (by decide) (fun c4_1 => ?_) (fun c4_1 => ?_)
  · skip
    obtain ⟨mi, z_m⟩ := Option.isSome_iff_exists.mp c4_1
    obtain ⟨h_m, e_m⟩ := zix_some z_m (by omega)
    subst e_m
    refine r_iload_n ok dX6_member_10 2 rfl rfl ?_
    by_cases c11_2 : w = nI 0
    · skip
      subst c11_2
      refine r_table ok dX6_member_11 (t := 60) (by decide +kernel) (by decide +kernel) ?_
      have zx11_9 : zix (nI 0) 9 = some 0 := by decide +kernel
      refine r_aload_n ok dX6_member_60 0 rfl rfl ?_
      refine r_getf ok ci_X6 fl_X6_7 (by decide) dX6_member_61 md_o rfl ?_
      refine r_iload_n ok dX6_member_64 1 rfl rfl ?_
      refine r_iload_n ok dX6_member_65 2 rfl rfl ?_
      refine r_cS1 ok [.ref (a + 1)] mi_X6_of ml_X6_47 sm_X6_of dX6_member_66 (c_X6_of K.2.1 G (mdM G M a s sA sH sL sI sP sT sG kp ln po wr) N  mi 0 ) rfl rfl ⟨Nat.le_of_ble_eq_true rfl, Nat.le_of_ble_eq_true rfl⟩ (Nat.le_of_ble_eq_true rfl) ⟨Nat.zero_le _, Nat.zero_le _⟩ ?_
      refine r_ialdN ok (by omega) (by omega) dX6_member_69 md_s ?_
      exact r_iret ok dX6_member_70 rfl ⟨congrArg (fun z => some (Value.int z)) (show s (15 + 22 * mi + 0) = zE (zDmem (nI (mi))) (zRmem s pn (nI 0)) from by simp [zDmem, zRmem, zE, zOb, zSel, *]), rfl⟩
    by_cases c11_3 : w = nI 1
    · skip
      subst c11_3
      refine r_table ok dX6_member_11 (t := 60) (by decide +kernel) (by decide +kernel) ?_
      have zx11_9 : zix (nI 1) 9 = some 1 := by decide +kernel
      refine r_aload_n ok dX6_member_60 0 rfl rfl ?_
      refine r_getf ok ci_X6 fl_X6_7 (by decide) dX6_member_61 md_o rfl ?_
      refine r_iload_n ok dX6_member_64 1 rfl rfl ?_
      refine r_iload_n ok dX6_member_65 2 rfl rfl ?_
      refine r_cS1 ok [.ref (a + 1)] mi_X6_of ml_X6_47 sm_X6_of dX6_member_66 (c_X6_of K.2.1 G (mdM G M a s sA sH sL sI sP sT sG kp ln po wr) N  mi 1 ) rfl rfl ⟨Nat.le_of_ble_eq_true rfl, Nat.le_of_ble_eq_true rfl⟩ (Nat.le_of_ble_eq_true rfl) ⟨Nat.zero_le _, Nat.zero_le _⟩ ?_
      refine r_ialdN ok (by omega) (by omega) dX6_member_69 md_s ?_
      exact r_iret ok dX6_member_70 rfl ⟨congrArg (fun z => some (Value.int z)) (show s (15 + 22 * mi + 1) = zE (zDmem (nI (mi))) (zRmem s pn (nI 1)) from by simp [zDmem, zRmem, zE, zOb, zSel, *]), rfl⟩
    by_cases c11_4 : w = nI 2
    · skip
      subst c11_4
      refine r_table ok dX6_member_11 (t := 71) (by decide +kernel) (by decide +kernel) ?_
      have zx11_9 : zix (nI 2) 9 = some 2 := by decide +kernel
      refine r_aload_n ok dX6_member_71 0 rfl rfl ?_
      refine r_iload_n ok dX6_member_72 1 rfl rfl ?_
      refine r_bipush ok (nI 6) dX6_member_73 (by rfl) ?_
      refine r_cV1 ok [] mi_X6_sum ci_X6 ml_X6_160 im_X6_sum se_X6_sum dX6_member_75 (c_X6_sum K.2.1 G M N a s sA sH sL sI sP sT sG kp ln po wr  mi 6 (by omega) (by omega)) md_o rfl rfl ⟨Nat.le_of_ble_eq_true rfl, Nat.le_of_ble_eq_true rfl⟩ (Nat.le_of_ble_eq_true rfl) ⟨Nat.zero_le _, Nat.zero_le _⟩ ?_
      exact r_iret ok dX6_member_78 rfl ⟨congrArg (fun z => some (Value.int z)) (show zSum s mi 6 = zE (zDmem (nI (mi))) (zRmem s pn (nI 2)) from by simp [zDmem, zRmem, zE, zOb, zSel, *]), rfl⟩
    by_cases c11_5 : w = nI 3
    · skip
      subst c11_5
      refine r_table ok dX6_member_11 (t := 79) (by decide +kernel) (by decide +kernel) ?_
      have zx11_9 : zix (nI 3) 9 = some 3 := by decide +kernel
      refine r_aload_n ok dX6_member_79 0 rfl rfl ?_
      refine r_iload_n ok dX6_member_80 1 rfl rfl ?_
      refine r_bipush ok (nI 14) dX6_member_81 (by rfl) ?_
      refine r_cV1 ok [] mi_X6_sum ci_X6 ml_X6_160 im_X6_sum se_X6_sum dX6_member_83 (c_X6_sum K.2.1 G M N a s sA sH sL sI sP sT sG kp ln po wr  mi 14 (by omega) (by omega)) md_o rfl rfl ⟨Nat.le_of_ble_eq_true rfl, Nat.le_of_ble_eq_true rfl⟩ (Nat.le_of_ble_eq_true rfl) ⟨Nat.zero_le _, Nat.zero_le _⟩ ?_
      exact r_iret ok dX6_member_86 rfl ⟨congrArg (fun z => some (Value.int z)) (show zSum s mi 14 = zE (zDmem (nI (mi))) (zRmem s pn (nI 3)) from by simp [zDmem, zRmem, zE, zOb, zSel, *]), rfl⟩
    by_cases c11_6 : w = nI 4
    · skip
      subst c11_6
      refine r_table ok dX6_member_11 (t := 87) (by decide +kernel) (by decide +kernel) ?_
      have zx11_9 : zix (nI 4) 9 = some 4 := by decide +kernel
      refine r_aload_n ok dX6_member_87 0 rfl rfl ?_
      refine r_iload_n ok dX6_member_88 1 rfl rfl ?_
      refine r_cV1 ok [] mi_X6_onTheWay ci_X6 ml_X6_163 im_X6_onTheWay se_X6_onTheWay dX6_member_89 (c_X6_onTheWay K.2.1 G M N a s sA sH sL sI sP sT sG kp ln po wr pn mi (by omega) hp (by omega)) md_o rfl rfl ⟨Nat.le_of_ble_eq_true rfl, Nat.le_of_ble_eq_true rfl⟩ (Nat.le_of_ble_eq_true rfl) ⟨Nat.zero_le _, Nat.zero_le _⟩ ?_
      exact r_iret ok dX6_member_92 rfl ⟨congrArg (fun z => some (Value.int z)) (show zWay s mi pn = zE (zDmem (nI (mi))) (zRmem s pn (nI 4)) from by simp [zDmem, zRmem, zE, zOb, zSel, *]), rfl⟩
    by_cases c11_7 : w = nI 5
    · skip
      subst c11_7
      refine r_table ok dX6_member_11 (t := 93) (by decide +kernel) (by decide +kernel) ?_
      have zx11_9 : zix (nI 5) 9 = some 5 := by decide +kernel
      refine r_aload_n ok dX6_member_93 0 rfl rfl ?_
      refine r_getf ok ci_X6 fl_X6_7 (by decide) dX6_member_94 md_o rfl ?_
      refine r_iload_n ok dX6_member_97 1 rfl rfl ?_
      refine r_iconst ok (nI 2) dX6_member_98 (by rfl) ?_
      refine r_iload_n ok dX6_member_99 2 rfl rfl ?_
      refine r_iaddN ok dX6_member_100 ?_
      refine r_iconst ok (nI 5) dX6_member_101 (by rfl) ?_
      refine r_isubN ok (by omega) dX6_member_102 ?_
      refine r_cS1 ok [.ref (a + 1)] mi_X6_of ml_X6_47 sm_X6_of dX6_member_103 (c_X6_of K.2.1 G (mdM G M a s sA sH sL sI sP sT sG kp ln po wr) N  mi ((2 + 5) - 5) ) rfl rfl ⟨Nat.le_of_ble_eq_true rfl, Nat.le_of_ble_eq_true rfl⟩ (Nat.le_of_ble_eq_true rfl) ⟨Nat.zero_le _, Nat.zero_le _⟩ ?_
      refine r_ialdN ok (by omega) (by omega) dX6_member_106 md_s ?_
      exact r_iret ok dX6_member_107 rfl ⟨congrArg (fun z => some (Value.int z)) (show s (15 + 22 * mi + ((2 + 5) - 5)) = zE (zDmem (nI (mi))) (zRmem s pn (nI 5)) from by simp [zDmem, zRmem, zE, zOb, zSel, *]), rfl⟩
    by_cases c11_8 : w = nI 6
    · skip
      subst c11_8
      refine r_table ok dX6_member_11 (t := 93) (by decide +kernel) (by decide +kernel) ?_
      have zx11_9 : zix (nI 6) 9 = some 6 := by decide +kernel
      refine r_aload_n ok dX6_member_93 0 rfl rfl ?_
      refine r_getf ok ci_X6 fl_X6_7 (by decide) dX6_member_94 md_o rfl ?_
      refine r_iload_n ok dX6_member_97 1 rfl rfl ?_
      refine r_iconst ok (nI 2) dX6_member_98 (by rfl) ?_
      refine r_iload_n ok dX6_member_99 2 rfl rfl ?_
      refine r_iaddN ok dX6_member_100 ?_
      refine r_iconst ok (nI 5) dX6_member_101 (by rfl) ?_
      refine r_isubN ok (by omega) dX6_member_102 ?_
      refine r_cS1 ok [.ref (a + 1)] mi_X6_of ml_X6_47 sm_X6_of dX6_member_103 (c_X6_of K.2.1 G (mdM G M a s sA sH sL sI sP sT sG kp ln po wr) N  mi ((2 + 6) - 5) ) rfl rfl ⟨Nat.le_of_ble_eq_true rfl, Nat.le_of_ble_eq_true rfl⟩ (Nat.le_of_ble_eq_true rfl) ⟨Nat.zero_le _, Nat.zero_le _⟩ ?_
      refine r_ialdN ok (by omega) (by omega) dX6_member_106 md_s ?_
      exact r_iret ok dX6_member_107 rfl ⟨congrArg (fun z => some (Value.int z)) (show s (15 + 22 * mi + ((2 + 6) - 5)) = zE (zDmem (nI (mi))) (zRmem s pn (nI 6)) from by simp [zDmem, zRmem, zE, zOb, zSel, *]), rfl⟩
    by_cases c11_9 : w = nI 7
    · skip
      subst c11_9
      refine r_table ok dX6_member_11 (t := 93) (by decide +kernel) (by decide +kernel) ?_
      have zx11_9 : zix (nI 7) 9 = some 7 := by decide +kernel
      refine r_aload_n ok dX6_member_93 0 rfl rfl ?_
      refine r_getf ok ci_X6 fl_X6_7 (by decide) dX6_member_94 md_o rfl ?_
      refine r_iload_n ok dX6_member_97 1 rfl rfl ?_
      refine r_iconst ok (nI 2) dX6_member_98 (by rfl) ?_
      refine r_iload_n ok dX6_member_99 2 rfl rfl ?_
      refine r_iaddN ok dX6_member_100 ?_
      refine r_iconst ok (nI 5) dX6_member_101 (by rfl) ?_
      refine r_isubN ok (by omega) dX6_member_102 ?_
      refine r_cS1 ok [.ref (a + 1)] mi_X6_of ml_X6_47 sm_X6_of dX6_member_103 (c_X6_of K.2.1 G (mdM G M a s sA sH sL sI sP sT sG kp ln po wr) N  mi ((2 + 7) - 5) ) rfl rfl ⟨Nat.le_of_ble_eq_true rfl, Nat.le_of_ble_eq_true rfl⟩ (Nat.le_of_ble_eq_true rfl) ⟨Nat.zero_le _, Nat.zero_le _⟩ ?_
      refine r_ialdN ok (by omega) (by omega) dX6_member_106 md_s ?_
      exact r_iret ok dX6_member_107 rfl ⟨congrArg (fun z => some (Value.int z)) (show s (15 + 22 * mi + ((2 + 7) - 5)) = zE (zDmem (nI (mi))) (zRmem s pn (nI 7)) from by simp [zDmem, zRmem, zE, zOb, zSel, *]), rfl⟩
    by_cases c11_10 : w = nI 8
    · skip
      subst c11_10
      refine r_table ok dX6_member_11 (t := 93) (by decide +kernel) (by decide +kernel) ?_
      have zx11_9 : zix (nI 8) 9 = some 8 := by decide +kernel
      refine r_aload_n ok dX6_member_93 0 rfl rfl ?_
      refine r_getf ok ci_X6 fl_X6_7 (by decide) dX6_member_94 md_o rfl ?_
      refine r_iload_n ok dX6_member_97 1 rfl rfl ?_
      refine r_iconst ok (nI 2) dX6_member_98 (by rfl) ?_
      refine r_iload_n ok dX6_member_99 2 rfl rfl ?_
      refine r_iaddN ok dX6_member_100 ?_
      refine r_iconst ok (nI 5) dX6_member_101 (by rfl) ?_
      refine r_isubN ok (by omega) dX6_member_102 ?_
      refine r_cS1 ok [.ref (a + 1)] mi_X6_of ml_X6_47 sm_X6_of dX6_member_103 (c_X6_of K.2.1 G (mdM G M a s sA sH sL sI sP sT sG kp ln po wr) N  mi ((2 + 8) - 5) ) rfl rfl ⟨Nat.le_of_ble_eq_true rfl, Nat.le_of_ble_eq_true rfl⟩ (Nat.le_of_ble_eq_true rfl) ⟨Nat.zero_le _, Nat.zero_le _⟩ ?_
      refine r_ialdN ok (by omega) (by omega) dX6_member_106 md_s ?_
      exact r_iret ok dX6_member_107 rfl ⟨congrArg (fun z => some (Value.int z)) (show s (15 + 22 * mi + ((2 + 8) - 5)) = zE (zDmem (nI (mi))) (zRmem s pn (nI 8)) from by simp [zDmem, zRmem, zE, zOb, zSel, *]), rfl⟩
    have hd11 : w.toInt < 0 ∨ 8 < w.toInt := by
      rcases Int.lt_or_le w.toInt 0 with q | q
      · exact Or.inl q
      rcases Int.lt_or_le 8 w.toInt with q2 | q2
      · exact Or.inr q2
      have w0 : w.toInt ≠ 0 := fun z => c11_2 (Int32.toInt_inj.mp (z.trans (by decide +kernel)))
      have w1 : w.toInt ≠ 1 := fun z => c11_3 (Int32.toInt_inj.mp (z.trans (by decide +kernel)))
      have w2 : w.toInt ≠ 2 := fun z => c11_4 (Int32.toInt_inj.mp (z.trans (by decide +kernel)))
      have w3 : w.toInt ≠ 3 := fun z => c11_5 (Int32.toInt_inj.mp (z.trans (by decide +kernel)))
      have w4 : w.toInt ≠ 4 := fun z => c11_6 (Int32.toInt_inj.mp (z.trans (by decide +kernel)))
      have w5 : w.toInt ≠ 5 := fun z => c11_7 (Int32.toInt_inj.mp (z.trans (by decide +kernel)))
      have w6 : w.toInt ≠ 6 := fun z => c11_8 (Int32.toInt_inj.mp (z.trans (by decide +kernel)))
      have w7 : w.toInt ≠ 7 := fun z => c11_9 (Int32.toInt_inj.mp (z.trans (by decide +kernel)))
      have w8 : w.toInt ≠ 8 := fun z => c11_10 (Int32.toInt_inj.mp (z.trans (by decide +kernel)))
      omega
    refine r_table ok dX6_member_11 (t := 108) (by rw [if_pos hd11]; decide) (by decide) ?_
    have zx11_9 : zix w 9 = none := by unfold zix; rw [if_neg (by omega)]
    refine r_ldc ok ck_X6_125 dX6_member_108 ?_
    exact r_iret ok dX6_member_110 rfl ⟨congrArg (fun z => some (Value.int z)) (show -100002 = zE (zDmem (nI (mi))) (zRmem s pn w) from by simp [zDmem, zRmem, zE, zOb, zSel, *]), rfl⟩
  · skip
    have n_m : zix m 6 = none := Option.not_isSome_iff_eq_none.mp (by rw [c4_1]; decide)
    refine r_ldc ok ck_X6_132 dX6_member_7 ?_
    exact r_iret ok dX6_member_9 rfl ⟨congrArg (fun z => some (Value.int z)) (show -100001 = zE (zDmem m) (zRmem s pn w) from by simp [zDmem, zRmem, zE, zOb, zSel, *]), rfl⟩
set_option maxHeartbeats 4000000 in
set_option maxRecDepth 100000 in
theorem c_X6_strings (l : Launch) (G : zG) (M : zM) (N a : Nat) (s sA sH sL : Nat → Int32) (sI : Nat → Bool) (sP sT sG : Nat → Int32) (kp ln po : Int32) (wr : Bool)  (m : Int32) (g : Int32) (w : Bool)  : zC l G yX6_strings cX6_strings 4 (some .int) 2 42 0 0 [.ref a, .int (m), .int (g), .int (zb w)] (mdM G M a s sA sH sL sI sP sT sG kp ln po wr) N (zP (some (.int (zE (zDstr m g) (fun q => s (15 + 22 * q.1 + ((if w then 14 else 6) + q.2)))))) (mdM G M a s sA sH sL sI sP sT sG kp ln po wr)) := by
  refine zC.of (by decide +kernel) (Nat.le_of_ble_eq_true rfl) ?_
  intro K hKl ok
  subst hKl
  show zW K G 4 _ 0 0 _ N 0 [(0, .ref a), (1, .int (m)), (2, .int (g)), (3, .int (zb w))] []
  refine r_iload_n ok dX6_strings_0 1 rfl rfl ?_
  refine r_cS1 ok [] mi_X6_isMember ml_X6_126 sm_X6_isMember dX6_strings_1 (c_X6_isMember K.2.1 G (mdM G M a s sA sH sL sI sP sT sG kp ln po wr) N  m ) rfl rfl ⟨Nat.le_of_ble_eq_true rfl, Nat.le_of_ble_eq_true rfl⟩ (Nat.le_of_ble_eq_true rfl) ⟨Nat.zero_le _, Nat.zero_le _⟩ ?_
  refine r_ifeqZ ok 39 dX6_strings_4 (by decide) (fun c4_1 => ?_) (fun c4_1 => ?_)
  · skip
    have n_m : zix m 6 = none := Option.not_isSome_iff_eq_none.mp (by rw [c4_1]; decide)
    refine r_ldc ok ck_X6_132 dX6_strings_39 ?_
    exact r_iret ok dX6_strings_41 rfl ⟨congrArg (fun z => some (Value.int z)) (show -100001 = zE (zDstr m g) (fun q => s (15 + 22 * q.1 + ((if w then 14 else 6) + q.2))) from by simp [zDstr, zE, zOb, *]), rfl⟩
  · skip
    obtain ⟨mi, z_m⟩ := Option.isSome_iff_exists.mp c4_1
    obtain ⟨h_m, e_m⟩ := zix_some z_m (by omega)
    subst e_m
    refine r_iload_n ok dX6_strings_7 2 rfl rfl ?_
    refine r_cS1 ok [] mi_X6_isGauge ml_X6_129 sm_X6_isGauge dX6_strings_8 (c_X6_isGauge K.2.1 G (mdM G M a s sA sH sL sI sP sT sG kp ln po wr) N  g ) rfl rfl ⟨Nat.le_of_ble_eq_true rfl, Nat.le_of_ble_eq_true rfl⟩ (Nat.le_of_ble_eq_true rfl) ⟨Nat.zero_le _, Nat.zero_le _⟩ ?_
    refine r_ifeqZ ok 39 dX6_strings_11 (by decide) (fun c11_2 => ?_) (fun c11_2 => ?_)
    · skip
      have n_g : zix g 8 = none := Option.not_isSome_iff_eq_none.mp (by rw [c11_2]; decide)
      refine r_ldc ok ck_X6_132 dX6_strings_39 ?_
      exact r_iret ok dX6_strings_41 rfl ⟨congrArg (fun z => some (Value.int z)) (show -100001 = zE (zDstr (nI (mi)) g) (fun q => s (15 + 22 * q.1 + ((if w then 14 else 6) + q.2))) from by simp [zDstr, zE, zOb, *]), rfl⟩
    · skip
      obtain ⟨gi, z_g⟩ := Option.isSome_iff_exists.mp c11_2
      obtain ⟨h_g, e_g⟩ := zix_some z_g (by omega)
      subst e_g
      refine r_aload_n ok dX6_strings_14 0 rfl rfl ?_
      refine r_getf ok ci_X6 fl_X6_7 (by decide) dX6_strings_15 md_o rfl ?_
      refine r_iload_n ok dX6_strings_18 1 rfl rfl ?_
      refine r_iload_n ok dX6_strings_19 3 rfl rfl ?_
      refine r_ifeqZ ok 28 dX6_strings_20 (by decide) (fun c20_3 => ?_) (fun c20_3 => ?_)
      · skip
        refine r_bipush ok (nI 6) dX6_strings_28 (by rfl) ?_
        refine r_iload_n ok dX6_strings_30 2 rfl rfl ?_
        refine r_iaddN ok dX6_strings_31 ?_
        refine r_cS1 ok [.ref (a + 1)] mi_X6_of ml_X6_47 sm_X6_of dX6_strings_32 (c_X6_of K.2.1 G (mdM G M a s sA sH sL sI sP sT sG kp ln po wr) N  mi (6 + gi) ) rfl rfl ⟨Nat.le_of_ble_eq_true rfl, Nat.le_of_ble_eq_true rfl⟩ (Nat.le_of_ble_eq_true rfl) ⟨Nat.zero_le _, Nat.zero_le _⟩ ?_
        refine r_ialdN ok (by omega) (by omega) dX6_strings_35 md_s ?_
        refine r_goto ok 41 dX6_strings_36 (by decide) ?_
        exact r_iret ok dX6_strings_41 rfl ⟨congrArg (fun z => some (Value.int z)) (show s (15 + 22 * mi + (6 + gi)) = zE (zDstr (nI (mi)) (nI (gi))) (fun q => s (15 + 22 * q.1 + ((if w then 14 else 6) + q.2))) from by simp [zDstr, zE, zOb, *]), rfl⟩
      · skip
        refine r_bipush ok (nI 14) dX6_strings_23 (by rfl) ?_
        refine r_goto ok 30 dX6_strings_25 (by decide) ?_
        refine r_iload_n ok dX6_strings_30 2 rfl rfl ?_
        refine r_iaddN ok dX6_strings_31 ?_
        refine r_cS1 ok [.ref (a + 1)] mi_X6_of ml_X6_47 sm_X6_of dX6_strings_32 (c_X6_of K.2.1 G (mdM G M a s sA sH sL sI sP sT sG kp ln po wr) N  mi (14 + gi) ) rfl rfl ⟨Nat.le_of_ble_eq_true rfl, Nat.le_of_ble_eq_true rfl⟩ (Nat.le_of_ble_eq_true rfl) ⟨Nat.zero_le _, Nat.zero_le _⟩ ?_
        refine r_ialdN ok (by omega) (by omega) dX6_strings_35 md_s ?_
        refine r_goto ok 41 dX6_strings_36 (by decide) ?_
        exact r_iret ok dX6_strings_41 rfl ⟨congrArg (fun z => some (Value.int z)) (show s (15 + 22 * mi + (14 + gi)) = zE (zDstr (nI (mi)) (nI (gi))) (fun q => s (15 + 22 * q.1 + ((if w then 14 else 6) + q.2))) from by simp [zDstr, zE, zOb, *]), rfl⟩
set_option maxHeartbeats 4000000 in
set_option maxRecDepth 100000 in
theorem c_X6_membersOf (l : Launch) (G : zG) (M : zM) (N a : Nat) (s sA sH sL : Nat → Int32) (sI : Nat → Bool) (sP sT sG : Nat → Int32) (kp ln po : Int32) (wr : Bool)  (p : Nat) (hp : p < 5) : zC l G yX6_membersOf cX6_membersOf 4 (some .int) 1 21 0 0 [.ref a, .int (nI (p))] (mdM G M a s sA sH sL sI sP sT sG kp ln po wr) N (zP (some (.int (zOws s p 48))) (mdM G M a s sA sH sL sI sP sT sG kp ln po wr)) := by
  refine zC.of (by decide +kernel) (Nat.le_of_ble_eq_true rfl) ?_
  intro K hKl ok
  subst hKl
  show zW K G 4 _ 0 0 _ N 0 [(0, .ref a), (1, .int (nI (p)))] []
  refine r_iconst ok (nI 0) dX6_membersOf_0 (by rfl) ?_
  refine r_istore_n ok [(2, .int (nI 0)), (0, .ref a), (1, .int (nI (p)))] dX6_membersOf_1 rfl (by decide) rfl ?_
  refine r_iconst ok (nI 0) dX6_membersOf_2 (by rfl) ?_
  refine r_istore_n ok [(3, .int (nI 0)), (2, .int (nI 0)), (0, .ref a), (1, .int (nI (p)))] dX6_membersOf_3 rfl (by decide) rfl ?_
  have L1 : ∀ (nL1 : Nat) (k : Nat), ((k + nL1 = 48)) → zW K G 4 (zQ K G (N + 0) 0 0 (zP (some (.int (zOws s p 48))) (mdM G M a s sA sH sL sI sP sT sG kp ln po wr))) 0 0 (mdM G M a s sA sH sL sI sP sT sG kp ln po wr) N 4 [(0, .ref a), (1, .int (nI (p))), (2, .int (zOws s p k)), (3, .int (nI (k)))] [] := by
    intro nL1
    induction nL1 with
    | zero =>
      intro k hk_k 
      obtain rfl : 48 = k := by omega
      refine r_iload_n ok dX6_membersOf_4 3 rfl rfl ?_
      refine r_bipush ok (nI 48) dX6_membersOf_5 (by rfl) ?_
      refine r_icmp_geN ok 44 (by omega) (by omega) dX6_membersOf_7 (by decide) (fun _ => ?_) (fun c => absurd c (by decide))
      refine r_iload_n ok dX6_membersOf_44 2 rfl rfl ?_
      exact r_iret ok dX6_membersOf_45 rfl ⟨rfl, rfl⟩
    | succ nL1 ihL1 =>
      intro k hk_k 
      refine r_iload_n ok dX6_membersOf_4 3 rfl rfl ?_
      refine r_bipush ok (nI 48) dX6_membersOf_5 (by rfl) ?_
      refine r_icmp_geN ok 44 (by omega) (by omega) dX6_membersOf_7 (by decide) (fun c7_3 => ?_) (fun c7_3 => ?_)
      · skip
        exact absurd c7_3 (by omega)
      · skip
        refine r_iload_n ok dX6_membersOf_10 2 rfl rfl ?_
        refine r_aload_n ok dX6_membersOf_11 0 rfl rfl ?_
        refine r_getf ok ci_X6 fl_X6_7 (by decide) dX6_membersOf_12 md_o rfl ?_
        refine r_iload_n ok dX6_membersOf_15 1 rfl rfl ?_
        refine r_iconst ok (nI 3) dX6_membersOf_16 (by rfl) ?_
        refine r_iload_n ok dX6_membersOf_17 3 rfl rfl ?_
        refine r_iaddN ok dX6_membersOf_18 ?_
        refine r_cS1 ok [.ref (a + 1), .int (zOws s p k)] mi_X6_ofParcel ml_X6_84 sm_X6_ofParcel dX6_membersOf_19 (c_X6_ofParcel K.2.1 G (mdM G M a s sA sH sL sI sP sT sG kp ln po wr) N  p (3 + k) ) rfl rfl ⟨Nat.le_of_ble_eq_true rfl, Nat.le_of_ble_eq_true rfl⟩ (Nat.le_of_ble_eq_true rfl) ⟨Nat.zero_le _, Nat.zero_le _⟩ ?_
        refine r_ialdN ok (by omega) (by omega) dX6_membersOf_22 md_s ?_
        refine r_if_le ok 35 dX6_membersOf_23 (by decide) (fun c23_4 => ?_) (fun c23_4 => ?_)
        · skip
          refine r_iconst ok (nI 0) dX6_membersOf_35 (by rfl) ?_
          refine r_ior ok dX6_membersOf_36 ?_
          refine r_istore_n ok [(2, .int ((zOws s p k) ||| (nI 0))), (0, .ref a), (1, .int (nI (p))), (3, .int (nI (k)))] dX6_membersOf_37 rfl (by decide) rfl ?_
          refine r_iincN ok (c := 1) [(3, .int (nI (k + 1))), (2, .int ((zOws s p k) ||| (nI 0))), (0, .ref a), (1, .int (nI (p)))] dX6_membersOf_38 3 rfl (by rfl) (by decide) rfl ?_
          refine r_goto ok 4 dX6_membersOf_41 (by decide) ?_
          have q5 : Value.int ((zOws s p k) ||| (nI 0)) = Value.int (zOws s p (k + 1)) := by first | with_reducible rfl | (simp [zOws, zOwsT, nI_0, nI_one, *])
          refine zW.forget (lv' := [(0, .ref a), (1, .int (nI (p))), (2, .int ((zOws s p k) ||| (nI 0))), (3, .int (nI (k + 1)))]) ?_ [2, 3, 1, 0] rfl
          refine zW.to (lv' := [(0, .ref a), (1, .int (nI (p))), (2, .int (zOws s p (k + 1))), (3, .int (nI (k + 1)))]) ?_ rfl (congrArg (fun z => ([(0, .ref a), (1, .int (nI (p))), (2, z), (3, .int (nI (k + 1)))] : List (Nat × Value))) q5) rfl
          exact ihL1 (k + 1) (by omega)
        · skip
          refine r_iconst ok (nI 1) dX6_membersOf_26 (by rfl) ?_
          refine r_iload_n ok dX6_membersOf_27 3 rfl rfl ?_
          refine r_bipush ok (nI 8) dX6_membersOf_28 (by rfl) ?_
          refine r_idivN ok (by omega) (by omega) (by omega) dX6_membersOf_30 ?_
          refine r_ishl ok dX6_membersOf_31 ?_
          refine r_goto ok 36 dX6_membersOf_32 (by decide) ?_
          refine r_ior ok dX6_membersOf_36 ?_
          refine r_istore_n ok [(2, .int ((zOws s p k) ||| ((nI 1) <<< ((nI (k / 8)) &&& 31)))), (0, .ref a), (1, .int (nI (p))), (3, .int (nI (k)))] dX6_membersOf_37 rfl (by decide) rfl ?_
          refine r_iincN ok (c := 1) [(3, .int (nI (k + 1))), (2, .int ((zOws s p k) ||| ((nI 1) <<< ((nI (k / 8)) &&& 31)))), (0, .ref a), (1, .int (nI (p)))] dX6_membersOf_38 3 rfl (by rfl) (by decide) rfl ?_
          refine r_goto ok 4 dX6_membersOf_41 (by decide) ?_
          have q6 : Value.int ((zOws s p k) ||| ((nI 1) <<< ((nI (k / 8)) &&& 31))) = Value.int (zOws s p (k + 1)) := by first | with_reducible rfl | (simp [zOws, zOwsT, nI_0, nI_one, *])
          refine zW.forget (lv' := [(0, .ref a), (1, .int (nI (p))), (2, .int ((zOws s p k) ||| ((nI 1) <<< ((nI (k / 8)) &&& 31)))), (3, .int (nI (k + 1)))]) ?_ [2, 3, 1, 0] rfl
          refine zW.to (lv' := [(0, .ref a), (1, .int (nI (p))), (2, .int (zOws s p (k + 1))), (3, .int (nI (k + 1)))]) ?_ rfl (congrArg (fun z => ([(0, .ref a), (1, .int (nI (p))), (2, z), (3, .int (nI (k + 1)))] : List (Nat × Value))) q6) rfl
          exact ihL1 (k + 1) (by omega)
  have q7 : Value.int (nI 0) = Value.int (zOws s p 0) := by first | with_reducible rfl | (rfl)
  refine zW.forget (lv' := [(0, .ref a), (1, .int (nI (p))), (2, .int (nI 0)), (3, .int (nI 0))]) ?_ [2, 3, 1, 0] rfl
  refine zW.to (lv' := [(0, .ref a), (1, .int (nI (p))), (2, .int (zOws s p 0)), (3, .int (nI 0))]) ?_ rfl (congrArg (fun z => ([(0, .ref a), (1, .int (nI (p))), (2, z), (3, .int (nI 0))] : List (Nat × Value))) q7) rfl
  exact L1 48 0 (by omega)
set_option maxHeartbeats 4000000 in
set_option maxRecDepth 100000 in
theorem c_X6_parcel (l : Launch) (G : zG) (M : zM) (N a : Nat) (s sA sH sL : Nat → Int32) (sI : Nat → Bool) (sP sT sG : Nat → Int32) (kp ln po : Int32) (wr : Bool) (pn : Nat) (p : Int32) (w : Int32) (hp : s 14 = nI pn) (hp5 : pn ≤ 5) : zC l G yX6_parcel cX6_parcel 3 (some .int) 2 44 0 0 [.ref a, .int (p), .int (w)] (mdM G M a s sA sH sL sI sP sT sG kp ln po wr) N (zP (some (.int (zE (zDpar pn p) (zRpar s w)))) (mdM G M a s sA sH sL sI sP sT sG kp ln po wr)) := by
  refine zC.of (by decide +kernel) (Nat.le_of_ble_eq_true rfl) ?_
  intro K hKl ok
  subst hKl
  show zW K G 3 _ 0 0 _ N 0 [(0, .ref a), (1, .int (p)), (2, .int (w))] []
  refine r_iload_n ok dX6_parcel_0 1 rfl rfl ?_
  refine r_iconst ok (nI 0) dX6_parcel_1 (by rfl) ?_
  refine r_aload_n ok dX6_parcel_2 0 rfl rfl ?_
  refine r_getf ok ci_X6 fl_X6_7 (by decide) dX6_parcel_3 md_o rfl ?_
  refine r_bipush ok (nI 14) dX6_parcel_6 (by rfl) ?_
  refine r_ialdN ok (by omega) (by omega) dX6_parcel_8 md_s ?_
  refine zW.to (st' := [.int (nI (pn)), .int (nI 0), .int (p)]) ?_ rfl rfl (congrArg (fun z => (Value.int z :: [.int (nI 0), .int (p)] : List Value)) (show s 14 = nI (pn) from hp))
  refine r_iconst ok (nI 1) dX6_parcel_9 (by rfl) ?_
  refine r_isub ok dX6_parcel_10 ?_
  refine r_cS1 ok [] mi_X6_in ml_X6_35 sm_X6_in dX6_parcel_11 (c_X6_in K.2.1 G (mdM G M a s sA sH sL sI sP sT sG kp ln po wr) N  p (nI 0) ((nI (pn)) - (nI 1)) ) rfl rfl ⟨Nat.le_of_ble_eq_true rfl, Nat.le_of_ble_eq_true rfl⟩ (Nat.le_of_ble_eq_true rfl) ⟨Nat.zero_le _, Nat.zero_le _⟩ ?_
  refine r_ifneZ ok 20 dX6_parcel_14 (by decide) (fun c14_1 => ?_) (fun c14_1 => ?_)
  · skip
    have b_p := (zbe_pn p hp5).symm.trans c14_1
    obtain ⟨pi, z_p⟩ := Option.isSome_iff_exists.mp b_p
    obtain ⟨h_p, e_p⟩ := zix_some z_p (by omega)
    subst e_p
    refine r_iload_n ok dX6_parcel_20 2 rfl rfl ?_
    by_cases c21_2 : w = nI 0
    · skip
      subst c21_2
      refine r_table ok dX6_parcel_21 (t := 56) (by decide +kernel) (by decide +kernel) ?_
      have zx21_5 : zix (nI 0) 5 = some 0 := by decide +kernel
      refine r_aload_n ok dX6_parcel_56 0 rfl rfl ?_
      refine r_iload_n ok dX6_parcel_57 1 rfl rfl ?_
      refine r_cV1 ok [] mi_X6_stringsIn ci_X6 ml_X6_94 im_X6_stringsIn se_X6_stringsIn dX6_parcel_58 (c_X6_stringsIn K.2.1 G M N a s sA sH sL sI sP sT sG kp ln po wr  pi (by omega)) md_o rfl rfl ⟨Nat.le_of_ble_eq_true rfl, Nat.le_of_ble_eq_true rfl⟩ (Nat.le_of_ble_eq_true rfl) ⟨Nat.zero_le _, Nat.zero_le _⟩ ?_
      exact r_iret ok dX6_parcel_61 rfl ⟨congrArg (fun z => some (Value.int z)) (show zPcs s pi = zE (zDpar pn (nI (pi))) (zRpar s (nI 0)) from by simp [zDpar, zRpar, zE, zOb, zSel, *]), rfl⟩
    by_cases c21_3 : w = nI 1
    · skip
      subst c21_3
      refine r_table ok dX6_parcel_21 (t := 62) (by decide +kernel) (by decide +kernel) ?_
      have zx21_5 : zix (nI 1) 5 = some 1 := by decide +kernel
      refine r_aload_n ok dX6_parcel_62 0 rfl rfl ?_
      refine r_getf ok ci_X6 fl_X6_7 (by decide) dX6_parcel_63 md_o rfl ?_
      refine r_iload_n ok dX6_parcel_66 1 rfl rfl ?_
      refine r_iconst ok (nI 0) dX6_parcel_67 (by rfl) ?_
      refine r_cS1 ok [.ref (a + 1)] mi_X6_ofParcel ml_X6_84 sm_X6_ofParcel dX6_parcel_68 (c_X6_ofParcel K.2.1 G (mdM G M a s sA sH sL sI sP sT sG kp ln po wr) N  pi 0 ) rfl rfl ⟨Nat.le_of_ble_eq_true rfl, Nat.le_of_ble_eq_true rfl⟩ (Nat.le_of_ble_eq_true rfl) ⟨Nat.zero_le _, Nat.zero_le _⟩ ?_
      refine r_ialdN ok (by omega) (by omega) dX6_parcel_71 md_s ?_
      exact r_iret ok dX6_parcel_72 rfl ⟨congrArg (fun z => some (Value.int z)) (show s (147 + 51 * pi + 0) = zE (zDpar pn (nI (pi))) (zRpar s (nI 1)) from by simp [zDpar, zRpar, zE, zOb, zSel, *]), rfl⟩
    by_cases c21_4 : w = nI 2
    · skip
      subst c21_4
      refine r_table ok dX6_parcel_21 (t := 73) (by decide +kernel) (by decide +kernel) ?_
      have zx21_5 : zix (nI 2) 5 = some 2 := by decide +kernel
      refine r_aload_n ok dX6_parcel_73 0 rfl rfl ?_
      refine r_iload_n ok dX6_parcel_74 1 rfl rfl ?_
      refine r_cV1 ok [] mi_X6_membersOf ci_X6 ml_X6_166 im_X6_membersOf se_X6_membersOf dX6_parcel_75 (c_X6_membersOf K.2.1 G M N a s sA sH sL sI sP sT sG kp ln po wr  pi (by omega)) md_o rfl rfl ⟨Nat.le_of_ble_eq_true rfl, Nat.le_of_ble_eq_true rfl⟩ (Nat.le_of_ble_eq_true rfl) ⟨Nat.zero_le _, Nat.zero_le _⟩ ?_
      exact r_iret ok dX6_parcel_78 rfl ⟨congrArg (fun z => some (Value.int z)) (show zOws s pi 48 = zE (zDpar pn (nI (pi))) (zRpar s (nI 2)) from by simp [zDpar, zRpar, zE, zOb, zSel, *]), rfl⟩
    by_cases c21_5 : w = nI 3
    · skip
      subst c21_5
      refine r_table ok dX6_parcel_21 (t := 79) (by decide +kernel) (by decide +kernel) ?_
      have zx21_5 : zix (nI 3) 5 = some 3 := by decide +kernel
      refine r_aload_n ok dX6_parcel_79 0 rfl rfl ?_
      refine r_getf ok ci_X6 fl_X6_7 (by decide) dX6_parcel_80 md_o rfl ?_
      refine r_iload_n ok dX6_parcel_83 1 rfl rfl ?_
      refine r_iconst ok (nI 1) dX6_parcel_84 (by rfl) ?_
      refine r_cS1 ok [.ref (a + 1)] mi_X6_ofParcel ml_X6_84 sm_X6_ofParcel dX6_parcel_85 (c_X6_ofParcel K.2.1 G (mdM G M a s sA sH sL sI sP sT sG kp ln po wr) N  pi 1 ) rfl rfl ⟨Nat.le_of_ble_eq_true rfl, Nat.le_of_ble_eq_true rfl⟩ (Nat.le_of_ble_eq_true rfl) ⟨Nat.zero_le _, Nat.zero_le _⟩ ?_
      refine r_ialdN ok (by omega) (by omega) dX6_parcel_88 md_s ?_
      refine r_aload_n ok dX6_parcel_89 0 rfl rfl ?_
      refine r_getf ok ci_X6 fl_X6_7 (by decide) dX6_parcel_90 md_o rfl ?_
      refine r_bipush ok (nI 9) dX6_parcel_93 (by rfl) ?_
      refine r_ialdN ok (by omega) (by omega) dX6_parcel_95 md_s ?_
      refine r_isub ok dX6_parcel_96 ?_
      exact r_iret ok dX6_parcel_97 rfl ⟨congrArg (fun z => some (Value.int z)) (show (s (147 + 51 * pi + 1)) - (s 9) = zE (zDpar pn (nI (pi))) (zRpar s (nI 3)) from by simp [zDpar, zRpar, zE, zOb, zSel, *]), rfl⟩
    by_cases c21_6 : w = nI 4
    · skip
      subst c21_6
      refine r_table ok dX6_parcel_21 (t := 98) (by decide +kernel) (by decide +kernel) ?_
      have zx21_5 : zix (nI 4) 5 = some 4 := by decide +kernel
      refine r_aload_n ok dX6_parcel_98 0 rfl rfl ?_
      refine r_getf ok ci_X6 fl_X6_7 (by decide) dX6_parcel_99 md_o rfl ?_
      refine r_iload_n ok dX6_parcel_102 1 rfl rfl ?_
      refine r_iconst ok (nI 2) dX6_parcel_103 (by rfl) ?_
      refine r_cS1 ok [.ref (a + 1)] mi_X6_ofParcel ml_X6_84 sm_X6_ofParcel dX6_parcel_104 (c_X6_ofParcel K.2.1 G (mdM G M a s sA sH sL sI sP sT sG kp ln po wr) N  pi 2 ) rfl rfl ⟨Nat.le_of_ble_eq_true rfl, Nat.le_of_ble_eq_true rfl⟩ (Nat.le_of_ble_eq_true rfl) ⟨Nat.zero_le _, Nat.zero_le _⟩ ?_
      refine r_ialdN ok (by omega) (by omega) dX6_parcel_107 md_s ?_
      exact r_iret ok dX6_parcel_108 rfl ⟨congrArg (fun z => some (Value.int z)) (show s (147 + 51 * pi + 2) = zE (zDpar pn (nI (pi))) (zRpar s (nI 4)) from by simp [zDpar, zRpar, zE, zOb, zSel, *]), rfl⟩
    have hd21 : w.toInt < 0 ∨ 4 < w.toInt := by
      rcases Int.lt_or_le w.toInt 0 with q | q
      · exact Or.inl q
      rcases Int.lt_or_le 4 w.toInt with q2 | q2
      · exact Or.inr q2
      have w0 : w.toInt ≠ 0 := fun z => c21_2 (Int32.toInt_inj.mp (z.trans (by decide +kernel)))
      have w1 : w.toInt ≠ 1 := fun z => c21_3 (Int32.toInt_inj.mp (z.trans (by decide +kernel)))
      have w2 : w.toInt ≠ 2 := fun z => c21_4 (Int32.toInt_inj.mp (z.trans (by decide +kernel)))
      have w3 : w.toInt ≠ 3 := fun z => c21_5 (Int32.toInt_inj.mp (z.trans (by decide +kernel)))
      have w4 : w.toInt ≠ 4 := fun z => c21_6 (Int32.toInt_inj.mp (z.trans (by decide +kernel)))
      omega
    refine r_table ok dX6_parcel_21 (t := 109) (by rw [if_pos hd21]; decide) (by decide) ?_
    have zx21_5 : zix w 5 = none := by unfold zix; rw [if_neg (by omega)]
    refine r_ldc ok ck_X6_125 dX6_parcel_109 ?_
    exact r_iret ok dX6_parcel_111 rfl ⟨congrArg (fun z => some (Value.int z)) (show -100002 = zE (zDpar pn (nI (pi))) (zRpar s w) from by simp [zDpar, zRpar, zE, zOb, zSel, *]), rfl⟩
  · skip
    have n_p : zix p pn = none := Option.not_isSome_iff_eq_none.mp (by rw [(zbe_pn p hp5).symm.trans c14_1]; decide)
    refine r_ldc ok ck_X6_132 dX6_parcel_17 ?_
    exact r_iret ok dX6_parcel_19 rfl ⟨congrArg (fun z => some (Value.int z)) (show -100001 = zE (zDpar pn p) (zRpar s w) from by simp [zDpar, zRpar, zE, zOb, zSel, *]), rfl⟩
set_option maxHeartbeats 4000000 in
set_option maxRecDepth 100000 in
theorem c_X6_broken (l : Launch) (G : zG) (M : zM) (N a : Nat) (s sA sH sL : Nat → Int32) (sI : Nat → Bool) (sP sT sG : Nat → Int32) (kp ln po : Int32) (wr : Bool)    : zC l G yX6_broken cX6_broken 3 (some .int) 1 22 0 0 [.ref a] (mdM G M a s sA sH sL sI sP sT sG kp ln po wr) N (zP (some (.int (zBrk s))) (mdM G M a s sA sH sL sI sP sT sG kp ln po wr)) := by
  refine zC.of (by decide +kernel) (Nat.le_of_ble_eq_true rfl) ?_
  intro K hKl ok
  subst hKl
  show zW K G 3 _ 0 0 _ N 0 [(0, .ref a)] []
  refine r_iconst ok (nI 0) dX6_broken_0 (by rfl) ?_
  refine r_istore_n ok [(1, .int (nI 0)), (0, .ref a)] dX6_broken_1 rfl (by decide) rfl ?_
  refine r_iconst ok (nI 0) dX6_broken_2 (by rfl) ?_
  refine r_istore_n ok [(2, .int (nI 0)), (1, .int (nI 0)), (0, .ref a)] dX6_broken_3 rfl (by decide) rfl ?_
  have L1 : ∀ (nL1 : Nat) (k : Nat), ((k + nL1 = 6)) → zW K G 3 (zQ K G (N + 0) 0 0 (zP (some (.int (zBrk s))) (mdM G M a s sA sH sL sI sP sT sG kp ln po wr))) 0 0 (mdM G M a s sA sH sL sI sP sT sG kp ln po wr) N 4 [(0, .ref a), (1, .int (lsum (zBrkT s) k)), (2, .int (nI (k)))] [] := by
    intro nL1
    induction nL1 with
    | zero =>
      intro k hk_k 
      obtain rfl : 6 = k := by omega
      refine r_iload_n ok dX6_broken_4 2 rfl rfl ?_
      refine r_bipush ok (nI 6) dX6_broken_5 (by rfl) ?_
      refine r_icmp_geN ok 32 (by omega) (by omega) dX6_broken_7 (by decide) (fun _ => ?_) (fun c => absurd c (by decide))
      refine r_iload_n ok dX6_broken_32 1 rfl rfl ?_
      exact r_iret ok dX6_broken_33 rfl ⟨congrArg (fun z => some (Value.int z)) (show lsum (zBrkT s) 6 = zBrk s from by rfl), rfl⟩
    | succ nL1 ihL1 =>
      intro k hk_k 
      refine r_iload_n ok dX6_broken_4 2 rfl rfl ?_
      refine r_bipush ok (nI 6) dX6_broken_5 (by rfl) ?_
      refine r_icmp_geN ok 32 (by omega) (by omega) dX6_broken_7 (by decide) (fun c7_3 => ?_) (fun c7_3 => ?_)
      · skip
        exact absurd c7_3 (by omega)
      · skip
        refine r_iload_n ok dX6_broken_10 1 rfl rfl ?_
        refine r_aload_n ok dX6_broken_11 0 rfl rfl ?_
        refine r_getf ok ci_X6 fl_X6_7 (by decide) dX6_broken_12 md_o rfl ?_
        refine r_iload_n ok dX6_broken_15 2 rfl rfl ?_
        refine r_iconst ok (nI 1) dX6_broken_16 (by rfl) ?_
        refine r_cS1 ok [.ref (a + 1), .int (lsum (zBrkT s) k)] mi_X6_of ml_X6_47 sm_X6_of dX6_broken_17 (c_X6_of K.2.1 G (mdM G M a s sA sH sL sI sP sT sG kp ln po wr) N  k 1 ) rfl rfl ⟨Nat.le_of_ble_eq_true rfl, Nat.le_of_ble_eq_true rfl⟩ (Nat.le_of_ble_eq_true rfl) ⟨Nat.zero_le _, Nat.zero_le _⟩ ?_
        refine r_ialdN ok (by omega) (by omega) dX6_broken_20 md_s ?_
        refine r_cS1 ok [.int (lsum (zBrkT s) k)] mi_X6_bits ml_X6_134 sm_X6_bits dX6_broken_21 (c_X6_bits K.2.1 G (mdM G M a s sA sH sL sI sP sT sG kp ln po wr) N  (s (15 + 22 * k + 1)) ) rfl rfl ⟨Nat.le_of_ble_eq_true rfl, Nat.le_of_ble_eq_true rfl⟩ (Nat.le_of_ble_eq_true rfl) ⟨Nat.zero_le _, Nat.zero_le _⟩ ?_
        refine r_iadd ok dX6_broken_24 ?_
        refine r_istore_n ok [(1, .int ((lsum (zBrkT s) k) + (zBits (s (15 + 22 * k + 1))))), (0, .ref a), (2, .int (nI (k)))] dX6_broken_25 rfl (by decide) rfl ?_
        refine r_iincN ok (c := 1) [(2, .int (nI (k + 1))), (1, .int ((lsum (zBrkT s) k) + (zBits (s (15 + 22 * k + 1))))), (0, .ref a)] dX6_broken_26 2 rfl (by rfl) (by decide) rfl ?_
        refine r_goto ok 4 dX6_broken_29 (by decide) ?_
        have q4 : Value.int ((lsum (zBrkT s) k) + (zBits (s (15 + 22 * k + 1)))) = Value.int (lsum (zBrkT s) (k + 1)) := by first | with_reducible rfl | (simp [lsum_s, zBrkT])
        refine zW.forget (lv' := [(0, .ref a), (1, .int ((lsum (zBrkT s) k) + (zBits (s (15 + 22 * k + 1))))), (2, .int (nI (k + 1)))]) ?_ [2, 1, 0] rfl
        refine zW.to (lv' := [(0, .ref a), (1, .int (lsum (zBrkT s) (k + 1))), (2, .int (nI (k + 1)))]) ?_ rfl (congrArg (fun z => ([(0, .ref a), (1, z), (2, .int (nI (k + 1)))] : List (Nat × Value))) q4) rfl
        exact ihL1 (k + 1) (by omega)
  have q5 : Value.int (nI 0) = Value.int (lsum (zBrkT s) 0) := by first | with_reducible rfl | (rfl)
  refine zW.forget (lv' := [(0, .ref a), (1, .int (nI 0)), (2, .int (nI 0))]) ?_ [2, 1, 0] rfl
  refine zW.to (lv' := [(0, .ref a), (1, .int (lsum (zBrkT s) 0)), (2, .int (nI 0))]) ?_ rfl (congrArg (fun z => ([(0, .ref a), (1, z), (2, .int (nI 0))] : List (Nat × Value))) q5) rfl
  exact L1 6 0 (by omega)
set_option maxHeartbeats 4000000 in
set_option maxRecDepth 100000 in
theorem c_X6_count (l : Launch) (G : zG) (M : zM) (N a : Nat) (s sA sH sL : Nat → Int32) (sI : Nat → Bool) (sP sT sG : Nat → Int32) (kp ln po : Int32) (wr : Bool) (kn : Nat) (pn : Nat) (w : Int32) (hp : s 14 = nI pn) (hp5 : pn ≤ 5) : zC l G yX6_count cX6_count 2 (some .int) 2 44 0 0 [.ref a, .int (w)] (mdM G M a s sA sH sL sI sP sT sG (nI kn) ln po wr) N (zP (some (.int (zRcnt s kn pn ln w))) (mdM G M a s sA sH sL sI sP sT sG (nI kn) ln po wr)) := by
  refine zC.of (by decide +kernel) (Nat.le_of_ble_eq_true rfl) ?_
  intro K hKl ok
  subst hKl
  show zW K G 2 _ 0 0 _ N 0 [(0, .ref a), (1, .int (w))] []
  refine r_iload_n ok dX6_count_0 1 rfl rfl ?_
  refine r_iconst ok (nI 0) dX6_count_1 (by rfl) ?_
  refine r_bipush ok (nI 9) dX6_count_2 (by rfl) ?_
  refine r_cS1 ok [] mi_X6_in ml_X6_35 sm_X6_in dX6_count_4 (c_X6_in K.2.1 G (mdM G M a s sA sH sL sI sP sT sG (nI kn) ln po wr) N  w (nI 0) (nI 9) ) rfl rfl ⟨Nat.le_of_ble_eq_true rfl, Nat.le_of_ble_eq_true rfl⟩ (Nat.le_of_ble_eq_true rfl) ⟨Nat.zero_le _, Nat.zero_le _⟩ ?_
  refine r_ifeqZ ok 17 dX6_count_7 (by decide) (fun c7_1 => ?_) (fun c7_1 => ?_)
  · skip
    have b_w := (zbe_ix w (n := 9) (by omega)).symm.trans c7_1
    have n_w : zix w 10 = none := Option.not_isSome_iff_eq_none.mp (by rw [b_w]; decide)
    refine r_iload_n ok dX6_count_17 1 rfl rfl ?_
    by_cases c18_2 : w = nI 10
    · skip
      subst c18_2
      refine r_table ok dX6_count_18 (t := 68) (by decide +kernel) (by decide +kernel) ?_
      have zx18_10 : zix (nI 10) 10 = none := by decide +kernel
      have zx18_19 : zix (nI 10) 19 = some 10 := by decide +kernel
      refine r_aload_n ok dX6_count_68 0 rfl rfl ?_
      refine r_cV1 ok [] mi_X6_chest ci_X6 ml_X6_149 im_X6_chest se_X6_chest dX6_count_69 (c_X6_chest K.2.1 G M N a s sA sH sL sI sP sT sG (nI kn) ln po wr   ) md_o rfl rfl ⟨Nat.le_of_ble_eq_true rfl, Nat.le_of_ble_eq_true rfl⟩ (Nat.le_of_ble_eq_true rfl) ⟨Nat.zero_le _, Nat.zero_le _⟩ ?_
      exact r_iret ok dX6_count_72 rfl ⟨congrArg (fun z => some (Value.int z)) (show zChest s = zRcnt s kn pn ln (nI 10) from by simp [zRcnt, *]), rfl⟩
    by_cases c18_3 : w = nI 11
    · skip
      subst c18_3
      refine r_table ok dX6_count_18 (t := 73) (by decide +kernel) (by decide +kernel) ?_
      have zx18_10 : zix (nI 11) 10 = none := by decide +kernel
      have zx18_19 : zix (nI 11) 19 = some 11 := by decide +kernel
      refine r_aload_n ok dX6_count_73 0 rfl rfl ?_
      refine r_getf ok ci_X6 fl_X6_7 (by decide) dX6_count_74 md_o rfl ?_
      refine r_bipush ok (nI 14) dX6_count_77 (by rfl) ?_
      refine r_ialdN ok (by omega) (by omega) dX6_count_79 md_s ?_
      refine zW.to (st' := [.int (nI (pn))]) ?_ rfl rfl (congrArg (fun z => (Value.int z :: [] : List Value)) (show s 14 = nI (pn) from hp))
      exact r_iret ok dX6_count_80 rfl ⟨congrArg (fun z => some (Value.int z)) (show nI (pn) = zRcnt s kn pn ln (nI 11) from by simp [zRcnt, *]), rfl⟩
    by_cases c18_4 : w = nI 12
    · skip
      subst c18_4
      refine r_table ok dX6_count_18 (t := 81) (by decide +kernel) (by decide +kernel) ?_
      have zx18_10 : zix (nI 12) 10 = none := by decide +kernel
      have zx18_19 : zix (nI 12) 19 = some 12 := by decide +kernel
      refine r_aload_n ok dX6_count_81 0 rfl rfl ?_
      refine r_getf ok ci_X6 fl_X6_7 (by decide) dX6_count_82 md_o rfl ?_
      refine r_bipush ok (nI 11) dX6_count_85 (by rfl) ?_
      refine r_iload_n ok dX6_count_87 1 rfl rfl ?_
      refine r_iaddN ok dX6_count_88 ?_
      refine r_bipush ok (nI 12) dX6_count_89 (by rfl) ?_
      refine r_isubN ok (by omega) dX6_count_91 ?_
      refine r_ialdN ok (by omega) (by omega) dX6_count_92 md_s ?_
      exact r_iret ok dX6_count_93 rfl ⟨congrArg (fun z => some (Value.int z)) (show s ((11 + 12) - 12) = zRcnt s kn pn ln (nI 12) from by simp [zRcnt, *]), rfl⟩
    by_cases c18_5 : w = nI 13
    · skip
      subst c18_5
      refine r_table ok dX6_count_18 (t := 81) (by decide +kernel) (by decide +kernel) ?_
      have zx18_10 : zix (nI 13) 10 = none := by decide +kernel
      have zx18_19 : zix (nI 13) 19 = some 13 := by decide +kernel
      refine r_aload_n ok dX6_count_81 0 rfl rfl ?_
      refine r_getf ok ci_X6 fl_X6_7 (by decide) dX6_count_82 md_o rfl ?_
      refine r_bipush ok (nI 11) dX6_count_85 (by rfl) ?_
      refine r_iload_n ok dX6_count_87 1 rfl rfl ?_
      refine r_iaddN ok dX6_count_88 ?_
      refine r_bipush ok (nI 12) dX6_count_89 (by rfl) ?_
      refine r_isubN ok (by omega) dX6_count_91 ?_
      refine r_ialdN ok (by omega) (by omega) dX6_count_92 md_s ?_
      exact r_iret ok dX6_count_93 rfl ⟨congrArg (fun z => some (Value.int z)) (show s ((11 + 13) - 12) = zRcnt s kn pn ln (nI 13) from by simp [zRcnt, *]), rfl⟩
    by_cases c18_6 : w = nI 14
    · skip
      subst c18_6
      refine r_table ok dX6_count_18 (t := 81) (by decide +kernel) (by decide +kernel) ?_
      have zx18_10 : zix (nI 14) 10 = none := by decide +kernel
      have zx18_19 : zix (nI 14) 19 = some 14 := by decide +kernel
      refine r_aload_n ok dX6_count_81 0 rfl rfl ?_
      refine r_getf ok ci_X6 fl_X6_7 (by decide) dX6_count_82 md_o rfl ?_
      refine r_bipush ok (nI 11) dX6_count_85 (by rfl) ?_
      refine r_iload_n ok dX6_count_87 1 rfl rfl ?_
      refine r_iaddN ok dX6_count_88 ?_
      refine r_bipush ok (nI 12) dX6_count_89 (by rfl) ?_
      refine r_isubN ok (by omega) dX6_count_91 ?_
      refine r_ialdN ok (by omega) (by omega) dX6_count_92 md_s ?_
      exact r_iret ok dX6_count_93 rfl ⟨congrArg (fun z => some (Value.int z)) (show s ((11 + 14) - 12) = zRcnt s kn pn ln (nI 14) from by simp [zRcnt, *]), rfl⟩
    by_cases c18_7 : w = nI 15
    · skip
      subst c18_7
      refine r_table ok dX6_count_18 (t := 94) (by decide +kernel) (by decide +kernel) ?_
      have zx18_10 : zix (nI 15) 10 = none := by decide +kernel
      have zx18_19 : zix (nI 15) 19 = some 15 := by decide +kernel
      refine r_aload_n ok dX6_count_94 0 rfl rfl ?_
      refine r_cV1 ok [] mi_X6_broken ci_X6 ml_X6_169 im_X6_broken se_X6_broken dX6_count_95 (c_X6_broken K.2.1 G M N a s sA sH sL sI sP sT sG (nI kn) ln po wr   ) md_o rfl rfl ⟨Nat.le_of_ble_eq_true rfl, Nat.le_of_ble_eq_true rfl⟩ (Nat.le_of_ble_eq_true rfl) ⟨Nat.zero_le _, Nat.zero_le _⟩ ?_
      exact r_iret ok dX6_count_98 rfl ⟨congrArg (fun z => some (Value.int z)) (show zBrk s = zRcnt s kn pn ln (nI 15) from by simp [zRcnt, *]), rfl⟩
    by_cases c18_8 : w = nI 16
    · skip
      subst c18_8
      refine r_table ok dX6_count_18 (t := 99) (by decide +kernel) (by decide +kernel) ?_
      have zx18_10 : zix (nI 16) 10 = none := by decide +kernel
      have zx18_19 : zix (nI 16) 19 = some 16 := by decide +kernel
      refine r_aload_n ok dX6_count_99 0 rfl rfl ?_
      refine r_getf ok ci_X6 fl_X6_7 (by decide) dX6_count_100 md_o rfl ?_
      refine r_bipush ok (nI 10) dX6_count_103 (by rfl) ?_
      refine r_ialdN ok (by omega) (by omega) dX6_count_105 md_s ?_
      exact r_iret ok dX6_count_106 rfl ⟨congrArg (fun z => some (Value.int z)) (show s 10 = zRcnt s kn pn ln (nI 16) from by simp [zRcnt, *]), rfl⟩
    by_cases c18_9 : w = nI 17
    · skip
      subst c18_9
      refine r_table ok dX6_count_18 (t := 107) (by decide +kernel) (by decide +kernel) ?_
      have zx18_10 : zix (nI 17) 10 = none := by decide +kernel
      have zx18_19 : zix (nI 17) 19 = some 17 := by decide +kernel
      refine r_aload_n ok dX6_count_107 0 rfl rfl ?_
      refine r_getf ok ci_X6 fl_X6_172 (by decide) dX6_count_108 md_o rfl ?_
      exact r_iret ok dX6_count_111 rfl ⟨congrArg (fun z => some (Value.int z)) (show ln = zRcnt s kn pn ln (nI 17) from by simp [zRcnt, *]), rfl⟩
    by_cases c18_10 : w = nI 18
    · skip
      subst c18_10
      refine r_table ok dX6_count_18 (t := 112) (by decide +kernel) (by decide +kernel) ?_
      have zx18_10 : zix (nI 18) 10 = none := by decide +kernel
      have zx18_19 : zix (nI 18) 19 = some 18 := by decide +kernel
      refine r_aload_n ok dX6_count_112 0 rfl rfl ?_
      refine r_getf ok ci_X6 fl_X6_39 (by decide) dX6_count_113 md_o rfl ?_
      exact r_iret ok dX6_count_116 rfl ⟨congrArg (fun z => some (Value.int z)) (show nI (kn) = zRcnt s kn pn ln (nI 18) from by simp [zRcnt, *]), rfl⟩
    have hd18 : w.toInt < 10 ∨ 18 < w.toInt := by
      rcases Int.lt_or_le w.toInt 10 with q | q
      · exact Or.inl q
      rcases Int.lt_or_le 18 w.toInt with q2 | q2
      · exact Or.inr q2
      have w10 : w.toInt ≠ 10 := fun z => c18_2 (Int32.toInt_inj.mp (z.trans (by decide +kernel)))
      have w11 : w.toInt ≠ 11 := fun z => c18_3 (Int32.toInt_inj.mp (z.trans (by decide +kernel)))
      have w12 : w.toInt ≠ 12 := fun z => c18_4 (Int32.toInt_inj.mp (z.trans (by decide +kernel)))
      have w13 : w.toInt ≠ 13 := fun z => c18_5 (Int32.toInt_inj.mp (z.trans (by decide +kernel)))
      have w14 : w.toInt ≠ 14 := fun z => c18_6 (Int32.toInt_inj.mp (z.trans (by decide +kernel)))
      have w15 : w.toInt ≠ 15 := fun z => c18_7 (Int32.toInt_inj.mp (z.trans (by decide +kernel)))
      have w16 : w.toInt ≠ 16 := fun z => c18_8 (Int32.toInt_inj.mp (z.trans (by decide +kernel)))
      have w17 : w.toInt ≠ 17 := fun z => c18_9 (Int32.toInt_inj.mp (z.trans (by decide +kernel)))
      have w18 : w.toInt ≠ 18 := fun z => c18_10 (Int32.toInt_inj.mp (z.trans (by decide +kernel)))
      omega
    refine r_table ok dX6_count_18 (t := 117) (by rw [if_pos hd18]; decide) (by decide) ?_
    have zx18_10 : zix w 10 = none := by unfold zix; rw [if_neg (by have := zix_none10 n_w; omega)]
    have zx18_19 : zix w 19 = none := by unfold zix; rw [if_neg (by have := zix_none10 n_w; omega)]
    refine r_ldc ok ck_X6_125 dX6_count_117 ?_
    exact r_iret ok dX6_count_119 rfl ⟨congrArg (fun z => some (Value.int z)) (show -100002 = zRcnt s kn pn ln w from by simp [zRcnt, *]), rfl⟩
  · skip
    have b_w := (zbe_ix w (n := 9) (by omega)).symm.trans c7_1
    obtain ⟨wi, z_w⟩ := Option.isSome_iff_exists.mp b_w
    obtain ⟨h_w, e_w⟩ := zix_some z_w (by omega)
    subst e_w
    refine r_aload_n ok dX6_count_10 0 rfl rfl ?_
    refine r_getf ok ci_X6 fl_X6_7 (by decide) dX6_count_11 md_o rfl ?_
    refine r_iload_n ok dX6_count_14 1 rfl rfl ?_
    refine r_ialdN ok (by omega) (by omega) dX6_count_15 md_s ?_
    exact r_iret ok dX6_count_16 rfl ⟨congrArg (fun z => some (Value.int z)) (show s wi = zRcnt s kn pn ln (nI (wi)) from by simp [zRcnt, *]), rfl⟩
set_option maxHeartbeats 4000000 in
set_option maxRecDepth 100000 in
theorem c_X6_order (l : Launch) (G : zG) (M : zM) (N a : Nat) (s sA sH sL : Nat → Int32) (sI : Nat → Bool) (sP sT sG : Nat → Int32) (kp ln po : Int32) (wr : Bool)  (mm : Int32) (w : Int32)  : zC l G yX6_order cX6_order 3 (some .int) 5 111 0 0 [.ref a, .int (mm), .int (w)] (mdM G M a s sA sH sL sI sP sT sG kp ln po wr) N (zP (some (.int (zE (zDord mm) (fun _ => zRord s mm w)))) (mdM G M a s sA sH sL sI sP sT sG kp ln po wr)) := by
  refine zC.of (by decide +kernel) (Nat.le_of_ble_eq_true rfl) ?_
  intro K hKl ok
  subst hKl
  show zW K G 3 _ 0 0 _ N 0 [(0, .ref a), (1, .int (mm)), (2, .int (w))] []
  refine r_iload_n ok dX6_order_0 1 rfl rfl ?_
  refine r_iconst ok (nI 0) dX6_order_1 (by rfl) ?_
  refine r_bipush ok (nI 63) dX6_order_2 (by rfl) ?_
  refine r_cS1 ok [] mi_X6_in ml_X6_35 sm_X6_in dX6_order_4 (c_X6_in K.2.1 G (mdM G M a s sA sH sL sI sP sT sG kp ln po wr) N  mm (nI 0) (nI 63) ) rfl rfl ⟨Nat.le_of_ble_eq_true rfl, Nat.le_of_ble_eq_true rfl⟩ (Nat.le_of_ble_eq_true rfl) ⟨Nat.zero_le _, Nat.zero_le _⟩ ?_
  refine r_ifneZ ok 13 dX6_order_7 (by decide) (fun c7_1 => ?_) (fun c7_1 => ?_)
  · skip
    refine r_iload_n ok dX6_order_13 2 rfl rfl ?_
    by_cases c14_2 : w = nI 0
    · skip
      subst c14_2
      refine r_table ok dX6_order_14 (t := 48) (by decide +kernel) (by decide +kernel) ?_
      have zx14_5 : zix (nI 0) 5 = some 0 := by decide +kernel
      refine r_aload_n ok dX6_order_48 0 rfl rfl ?_
      refine r_iload_n ok dX6_order_49 1 rfl rfl ?_
      refine r_cV1 ok [] mi_X6_costOf ci_X6 ml_X6_140 im_X6_costOf se_X6_costOf dX6_order_50 (c_X6_costOf K.2.1 G M N a s sA sH sL sI sP sT sG kp ln po wr  mm ) md_o rfl rfl ⟨Nat.le_of_ble_eq_true rfl, Nat.le_of_ble_eq_true rfl⟩ (Nat.le_of_ble_eq_true rfl) ⟨Nat.zero_le _, Nat.zero_le _⟩ ?_
      exact r_iret ok dX6_order_53 rfl ⟨congrArg (fun z => some (Value.int z)) (show zCost s mm = zE (zDord mm) (fun _ => zRord s mm (nI 0)) from by simp [zDord, zRord, zE, zSel, *]), rfl⟩
    by_cases c14_3 : w = nI 1
    · skip
      subst c14_3
      refine r_table ok dX6_order_14 (t := 54) (by decide +kernel) (by decide +kernel) ?_
      have zx14_5 : zix (nI 1) 5 = some 1 := by decide +kernel
      refine r_aload_n ok dX6_order_54 0 rfl rfl ?_
      refine r_iload_n ok dX6_order_55 1 rfl rfl ?_
      refine r_cV1 ok [] mi_X6_valueOf ci_X6 ml_X6_67 im_X6_valueOf se_X6_valueOf dX6_order_56 (c_X6_valueOf K.2.1 G M N a s sA sH sL sI sP sT sG kp ln po wr  mm ) md_o rfl rfl ⟨Nat.le_of_ble_eq_true rfl, Nat.le_of_ble_eq_true rfl⟩ (Nat.le_of_ble_eq_true rfl) ⟨Nat.zero_le _, Nat.zero_le _⟩ ?_
      exact r_iret ok dX6_order_59 rfl ⟨congrArg (fun z => some (Value.int z)) (show zVal s mm = zE (zDord mm) (fun _ => zRord s mm (nI 1)) from by simp [zDord, zRord, zE, zSel, *]), rfl⟩
    by_cases c14_4 : w = nI 2
    · skip
      subst c14_4
      refine r_table ok dX6_order_14 (t := 60) (by decide +kernel) (by decide +kernel) ?_
      have zx14_5 : zix (nI 2) 5 = some 2 := by decide +kernel
      refine r_aload_n ok dX6_order_60 0 rfl rfl ?_
      refine r_iload_n ok dX6_order_61 1 rfl rfl ?_
      refine r_cV1 ok [] mi_X6_postOf ci_X6 ml_X6_70 im_X6_postOf se_X6_postOf dX6_order_62 (c_X6_postOf K.2.1 G M N a s sA sH sL sI sP sT sG kp ln po wr  mm ) md_o rfl rfl ⟨Nat.le_of_ble_eq_true rfl, Nat.le_of_ble_eq_true rfl⟩ (Nat.le_of_ble_eq_true rfl) ⟨Nat.zero_le _, Nat.zero_le _⟩ ?_
      exact r_iret ok dX6_order_65 rfl ⟨congrArg (fun z => some (Value.int z)) (show zPost s mm = zE (zDord mm) (fun _ => zRord s mm (nI 2)) from by simp [zDord, zRord, zE, zSel, *]), rfl⟩
    by_cases c14_5 : w = nI 3
    · skip
      subst c14_5
      refine r_table ok dX6_order_14 (t := 66) (by decide +kernel) (by decide +kernel) ?_
      have zx14_5 : zix (nI 3) 5 = some 3 := by decide +kernel
      refine r_aload_n ok dX6_order_66 0 rfl rfl ?_
      refine r_iload_n ok dX6_order_67 1 rfl rfl ?_
      refine r_cV1 ok [] mi_X6_stringsOf ci_X6 ml_X6_61 im_X6_stringsOf se_X6_stringsOf dX6_order_68 (c_X6_stringsOf K.2.1 G M N a s sA sH sL sI sP sT sG kp ln po wr  mm ) md_o rfl rfl ⟨Nat.le_of_ble_eq_true rfl, Nat.le_of_ble_eq_true rfl⟩ (Nat.le_of_ble_eq_true rfl) ⟨Nat.zero_le _, Nat.zero_le _⟩ ?_
      exact r_iret ok dX6_order_71 rfl ⟨congrArg (fun z => some (Value.int z)) (show zStr s mm = zE (zDord mm) (fun _ => zRord s mm (nI 3)) from by simp [zDord, zRord, zE, zSel, *]), rfl⟩
    by_cases c14_6 : w = nI 4
    · skip
      subst c14_6
      refine r_table ok dX6_order_14 (t := 72) (by decide +kernel) (by decide +kernel) ?_
      have zx14_5 : zix (nI 4) 5 = some 4 := by decide +kernel
      refine r_aload_n ok dX6_order_72 0 rfl rfl ?_
      refine r_aload_n ok dX6_order_73 0 rfl rfl ?_
      refine r_iload_n ok dX6_order_74 1 rfl rfl ?_
      refine r_cV1 ok [.ref a] mi_X6_valueOf ci_X6 ml_X6_67 im_X6_valueOf se_X6_valueOf dX6_order_75 (c_X6_valueOf K.2.1 G M N a s sA sH sL sI sP sT sG kp ln po wr  mm ) md_o rfl rfl ⟨Nat.le_of_ble_eq_true rfl, Nat.le_of_ble_eq_true rfl⟩ (Nat.le_of_ble_eq_true rfl) ⟨Nat.zero_le _, Nat.zero_le _⟩ ?_
      refine r_cV1 ok [] mi_X6_dutyOn ci_X6 ml_X6_91 im_X6_dutyOn se_X6_dutyOn dX6_order_78 (c_X6_dutyOn K.2.1 G M N a s sA sH sL sI sP sT sG kp ln po wr  (zVal s mm) ) md_o rfl rfl ⟨Nat.le_of_ble_eq_true rfl, Nat.le_of_ble_eq_true rfl⟩ (Nat.le_of_ble_eq_true rfl) ⟨Nat.zero_le _, Nat.zero_le _⟩ ?_
      exact r_iret ok dX6_order_81 rfl ⟨congrArg (fun z => some (Value.int z)) (show zDuty s (zVal s mm) = zE (zDord mm) (fun _ => zRord s mm (nI 4)) from by simp [zDord, zRord, zE, zSel, *]), rfl⟩
    have hd14 : w.toInt < 0 ∨ 4 < w.toInt := by
      rcases Int.lt_or_le w.toInt 0 with q | q
      · exact Or.inl q
      rcases Int.lt_or_le 4 w.toInt with q2 | q2
      · exact Or.inr q2
      have w0 : w.toInt ≠ 0 := fun z => c14_2 (Int32.toInt_inj.mp (z.trans (by decide +kernel)))
      have w1 : w.toInt ≠ 1 := fun z => c14_3 (Int32.toInt_inj.mp (z.trans (by decide +kernel)))
      have w2 : w.toInt ≠ 2 := fun z => c14_4 (Int32.toInt_inj.mp (z.trans (by decide +kernel)))
      have w3 : w.toInt ≠ 3 := fun z => c14_5 (Int32.toInt_inj.mp (z.trans (by decide +kernel)))
      have w4 : w.toInt ≠ 4 := fun z => c14_6 (Int32.toInt_inj.mp (z.trans (by decide +kernel)))
      omega
    refine r_table ok dX6_order_14 (t := 82) (by rw [if_pos hd14]; decide) (by decide) ?_
    have zx14_5 : zix w 5 = none := by unfold zix; rw [if_neg (by omega)]
    refine r_ldc ok ck_X6_125 dX6_order_82 ?_
    exact r_iret ok dX6_order_84 rfl ⟨congrArg (fun z => some (Value.int z)) (show -100002 = zE (zDord mm) (fun _ => zRord s mm w) from by simp [zDord, zRord, zE, zSel, *]), rfl⟩
  · skip
    refine r_ldc ok ck_X6_125 dX6_order_10 ?_
    exact r_iret ok dX6_order_12 rfl ⟨congrArg (fun z => some (Value.int z)) (show -100002 = zE (zDord mm) (fun _ => zRord s mm w) from by simp [zDord, zRord, zE, zSel, *]), rfl⟩
set_option maxHeartbeats 4000000 in
set_option maxRecDepth 100000 in
theorem c_X6_share (l : Launch) (G : zG) (M : zM) (N a : Nat) (s sA sH sL : Nat → Int32) (sI : Nat → Bool) (sP sT sG : Nat → Int32) (kp ln po : Int32) (wr : Bool)  (mm : Int32) (m : Int32)  : zC l G yX6_share cX6_share 3 (some .int) 5 111 0 0 [.ref a, .int (mm), .int (m)] (mdM G M a s sA sH sL sI sP sT sG kp ln po wr) N (zP (some (.int (zE (zDshare mm m) (zRshare s sT sG mm)))) (mdM G M a s sA sH sL sI sP (zU (zDshare mm m) sT (fun _ => zParts s mm sT)) (zU (zDshare mm m) sG (fun _ => zGets (zPost s mm) (zParts s mm sT) sG)) kp ln po wr)) := by
  refine zC.of (by decide +kernel) (Nat.le_of_ble_eq_true rfl) ?_
  intro K hKl ok
  subst hKl
  show zW K G 3 _ 0 0 _ N 0 [(0, .ref a), (1, .int (mm)), (2, .int (m))] []
  refine r_iload_n ok dX6_share_0 2 rfl rfl ?_
  refine r_cS1 ok [] mi_X6_isMember ml_X6_126 sm_X6_isMember dX6_share_1 (c_X6_isMember K.2.1 G (mdM G M a s sA sH sL sI sP sT sG kp ln po wr) N  m ) rfl rfl ⟨Nat.le_of_ble_eq_true rfl, Nat.le_of_ble_eq_true rfl⟩ (Nat.le_of_ble_eq_true rfl) ⟨Nat.zero_le _, Nat.zero_le _⟩ ?_
  refine r_ifneZ ok 10 dX6_share_4 (by decide) (fun c4_1 => ?_) (fun c4_1 => ?_)
  · skip
    obtain ⟨mi, z_m⟩ := Option.isSome_iff_exists.mp c4_1
    obtain ⟨h_m, e_m⟩ := zix_some z_m (by omega)
    subst e_m
    refine r_iload_n ok dX6_share_10 1 rfl rfl ?_
    refine r_iconst ok (nI 0) dX6_share_11 (by rfl) ?_
    refine r_bipush ok (nI 63) dX6_share_12 (by rfl) ?_
    refine r_cS1 ok [] mi_X6_in ml_X6_35 sm_X6_in dX6_share_14 (c_X6_in K.2.1 G (mdM G M a s sA sH sL sI sP sT sG kp ln po wr) N  mm (nI 0) (nI 63) ) rfl rfl ⟨Nat.le_of_ble_eq_true rfl, Nat.le_of_ble_eq_true rfl⟩ (Nat.le_of_ble_eq_true rfl) ⟨Nat.zero_le _, Nat.zero_le _⟩ ?_
    refine r_ifneZ ok 23 dX6_share_17 (by decide) (fun c17_2 => ?_) (fun c17_2 => ?_)
    · skip
      refine r_aload_n ok dX6_share_23 0 rfl rfl ?_
      refine r_iload_n ok dX6_share_24 1 rfl rfl ?_
      refine r_cV0 ok [] mi_X6_sharesPost ci_X6 ml_X6_143 im_X6_sharesPost se_X6_sharesPost dX6_share_25 (c_X6_sharesPost K.2.1 G M N a s sA sH sL sI sP sT sG kp ln po wr  mm ) md_o rfl rfl ⟨Nat.le_of_ble_eq_true rfl, Nat.le_of_ble_eq_true rfl⟩ (Nat.le_of_ble_eq_true rfl) ⟨Nat.zero_le _, Nat.zero_le _⟩ ?_
      refine r_aload_n ok dX6_share_28 0 rfl rfl ?_
      refine r_iload_n ok dX6_share_29 1 rfl rfl ?_
      refine r_iload_n ok dX6_share_30 2 rfl rfl ?_
      refine r_cV1 ok [] mi_X6_ownOf ci_X6 ml_X6_146 im_X6_ownOf se_X6_ownOf dX6_share_31 (c_X6_ownOf K.2.1 G M N a s sA sH sL sI sP (zParts s mm sT) (zGets (zPost s mm) (zParts s mm sT) sG) kp ln po wr  mm mi (by omega)) md_o rfl rfl ⟨Nat.le_of_ble_eq_true rfl, Nat.le_of_ble_eq_true rfl⟩ (Nat.le_of_ble_eq_true rfl) ⟨Nat.zero_le _, Nat.zero_le _⟩ ?_
      refine r_aload_n ok dX6_share_34 0 rfl rfl ?_
      refine r_getf ok ci_X6 fl_X6_32 (by decide) dX6_share_35 md_o rfl ?_
      refine r_iload_n ok dX6_share_38 2 rfl rfl ?_
      refine r_ialdN ok (by omega) (by omega) dX6_share_39 md_sG ?_
      refine r_iadd ok dX6_share_40 ?_
      exact r_iret ok dX6_share_41 rfl ⟨congrArg (fun z => some (Value.int z)) (show (zOwn s mm mi) + ((zGets (zPost s mm) (zParts s mm sT) sG) mi) = zE (zDshare mm (nI (mi))) (zRshare s sT sG mm) from by simp [zDshare, zRshare, zE, zOb, *]), (by simp [zDshare, zU, zOb, *])⟩
    · skip
      refine r_ldc ok ck_X6_125 dX6_share_20 ?_
      exact r_iret ok dX6_share_22 rfl ⟨congrArg (fun z => some (Value.int z)) (show -100002 = zE (zDshare mm (nI (mi))) (zRshare s sT sG mm) from by simp [zDshare, zRshare, zE, zOb, *]), (by simp [zDshare, zU, zOb, *])⟩
  · skip
    have n_m : zix m 6 = none := Option.not_isSome_iff_eq_none.mp (by rw [c4_1]; decide)
    refine r_ldc ok ck_X6_132 dX6_share_7 ?_
    exact r_iret ok dX6_share_9 rfl ⟨congrArg (fun z => some (Value.int z)) (show -100001 = zE (zDshare mm m) (zRshare s sT sG mm) from by simp [zDshare, zRshare, zE, zOb, *]), (by simp [zDshare, zU, zOb, *])⟩
set_option maxHeartbeats 4000000 in
set_option maxRecDepth 100000 in
theorem c_X6_ifMore (l : Launch) (G : zG) (M : zM) (N a : Nat) (s sA sH sL : Nat → Int32) (sI : Nat → Bool) (sP sT sG : Nat → Int32) (kp ln po : Int32) (wr : Bool)  (m : Int32) (g : Int32) (v : Int32)  : zC l G yX6_ifMore cX6_ifMore 6 (some .int) 5 111 0 0 [.ref a, .int (m), .int (g), .int (v)] (mdM G M a s sA sH sL sI sP sT sG kp ln po wr) N (zP (some (.int (zE (zDmore m g v) (zRmore s v)))) (mdM G M a s sA sH sL sI sP sT sG kp ln po wr)) := by
  refine zC.of (by decide +kernel) (Nat.le_of_ble_eq_true rfl) ?_
  intro K hKl ok
  subst hKl
  show zW K G 6 _ 0 0 _ N 0 [(0, .ref a), (1, .int (m)), (2, .int (g)), (3, .int (v))] []
  refine r_iload_n ok dX6_ifMore_0 1 rfl rfl ?_
  refine r_cS1 ok [] mi_X6_isMember ml_X6_126 sm_X6_isMember dX6_ifMore_1 (c_X6_isMember K.2.1 G (mdM G M a s sA sH sL sI sP sT sG kp ln po wr) N  m ) rfl rfl ⟨Nat.le_of_ble_eq_true rfl, Nat.le_of_ble_eq_true rfl⟩ (Nat.le_of_ble_eq_true rfl) ⟨Nat.zero_le _, Nat.zero_le _⟩ ?_
  refine r_ifeqZ ok 14 dX6_ifMore_4 (by decide) (fun c4_1 => ?_) (fun c4_1 => ?_)
  · skip
    have n_m : zix m 6 = none := Option.not_isSome_iff_eq_none.mp (by rw [c4_1]; decide)
    refine r_ldc ok ck_X6_132 dX6_ifMore_14 ?_
    exact r_iret ok dX6_ifMore_16 rfl ⟨congrArg (fun z => some (Value.int z)) (show -100001 = zE (zDmore m g v) (zRmore s v) from by simp [zDmore, zRmore, zE, zOb, *]), rfl⟩
  · skip
    obtain ⟨mi, z_m⟩ := Option.isSome_iff_exists.mp c4_1
    obtain ⟨h_m, e_m⟩ := zix_some z_m (by omega)
    subst e_m
    refine r_iload_n ok dX6_ifMore_7 2 rfl rfl ?_
    refine r_cS1 ok [] mi_X6_isGauge ml_X6_129 sm_X6_isGauge dX6_ifMore_8 (c_X6_isGauge K.2.1 G (mdM G M a s sA sH sL sI sP sT sG kp ln po wr) N  g ) rfl rfl ⟨Nat.le_of_ble_eq_true rfl, Nat.le_of_ble_eq_true rfl⟩ (Nat.le_of_ble_eq_true rfl) ⟨Nat.zero_le _, Nat.zero_le _⟩ ?_
    refine r_ifneZ ok 17 dX6_ifMore_11 (by decide) (fun c11_2 => ?_) (fun c11_2 => ?_)
    · skip
      obtain ⟨gi, z_g⟩ := Option.isSome_iff_exists.mp c11_2
      obtain ⟨h_g, e_g⟩ := zix_some z_g (by omega)
      subst e_g
      refine r_iload_n ok dX6_ifMore_17 3 rfl rfl ?_
      refine r_iconst ok (nI 1) dX6_ifMore_18 (by rfl) ?_
      refine r_bipush ok (nI 20) dX6_ifMore_19 (by rfl) ?_
      refine r_cS1 ok [] mi_X6_in ml_X6_35 sm_X6_in dX6_ifMore_21 (c_X6_in K.2.1 G (mdM G M a s sA sH sL sI sP sT sG kp ln po wr) N  v (nI 1) (nI 20) ) rfl rfl ⟨Nat.le_of_ble_eq_true rfl, Nat.le_of_ble_eq_true rfl⟩ (Nat.le_of_ble_eq_true rfl) ⟨Nat.zero_le _, Nat.zero_le _⟩ ?_
      refine r_ifneZ ok 30 dX6_ifMore_24 (by decide) (fun c24_3 => ?_) (fun c24_3 => ?_)
      · skip
        refine r_aload_n ok dX6_ifMore_30 0 rfl rfl ?_
        refine r_bipush ok (nI 63) dX6_ifMore_31 (by rfl) ?_
        refine r_cV1 ok [] mi_X6_costOf ci_X6 ml_X6_140 im_X6_costOf se_X6_costOf dX6_ifMore_33 (c_X6_costOf K.2.1 G M N a s sA sH sL sI sP sT sG kp ln po wr  (nI 63) ) md_o rfl rfl ⟨Nat.le_of_ble_eq_true rfl, Nat.le_of_ble_eq_true rfl⟩ (Nat.le_of_ble_eq_true rfl) ⟨Nat.zero_le _, Nat.zero_le _⟩ ?_
        refine r_istore ok [(4, .int (zCost s (nI 63))), (0, .ref a), (1, .int (nI (mi))), (2, .int (nI (gi))), (3, .int (v))] dX6_ifMore_36 (by decide) rfl ?_
        refine r_aload_n ok dX6_ifMore_38 1 rfl rfl ?_
        refine r_getf ok ci_X6 fl_X6_7 (by decide) dX6_ifMore_39 md_o rfl ?_
        refine r_iload_n ok dX6_ifMore_42 2 rfl rfl ?_
        refine r_bipush ok (nI 14) dX6_ifMore_43 (by rfl) ?_
        refine r_iload_n ok dX6_ifMore_45 3 rfl rfl ?_
        refine r_iaddN ok dX6_ifMore_46 ?_
        refine r_cS1 ok [.ref (a + 1)] mi_X6_of ml_X6_47 sm_X6_of dX6_ifMore_47 (c_X6_of K.2.1 G (mdM G M a s sA sH sL sI sP sT sG kp ln po wr) N  mi (14 + gi) ) rfl rfl ⟨Nat.le_of_ble_eq_true rfl, Nat.le_of_ble_eq_true rfl⟩ (Nat.le_of_ble_eq_true rfl) ⟨Nat.zero_le _, Nat.zero_le _⟩ ?_
        refine r_dup2 ok dX6_ifMore_50 rfl rfl ?_
        refine r_ialdN ok (by omega) (by omega) dX6_ifMore_51 md_s ?_
        refine r_iload_n ok dX6_ifMore_52 4 rfl rfl ?_
        refine r_iadd ok dX6_ifMore_53 ?_
        refine r_iastN ok (by omega) (by omega) dX6_ifMore_54 md_s (mdw_s _) ?_
        refine r_aload_n ok dX6_ifMore_55 1 rfl rfl ?_
        refine r_bipush ok (nI 63) dX6_ifMore_56 (by rfl) ?_
        refine r_cV1 ok [] mi_X6_costOf ci_X6 ml_X6_140 im_X6_costOf se_X6_costOf dX6_ifMore_58 (c_X6_costOf K.2.1 G M N a (upd s (15 + 22 * mi + (14 + gi)) ((s (15 + 22 * mi + (14 + gi))) + v)) sA sH sL sI sP sT sG kp ln po wr  (nI 63) ) md_o rfl rfl ⟨Nat.le_of_ble_eq_true rfl, Nat.le_of_ble_eq_true rfl⟩ (Nat.le_of_ble_eq_true rfl) ⟨Nat.zero_le _, Nat.zero_le _⟩ ?_
        refine r_iload ok dX6_ifMore_61 0 rfl ?_
        refine r_isub ok dX6_ifMore_63 ?_
        refine r_istore ok [(5, .int ((zCost (upd s (15 + 22 * mi + (14 + gi)) ((s (15 + 22 * mi + (14 + gi))) + v)) (nI 63)) - (zCost s (nI 63)))), (4, .int (zCost s (nI 63))), (0, .ref a), (1, .int (nI (mi))), (2, .int (nI (gi))), (3, .int (v))] dX6_ifMore_64 (by decide) rfl ?_
        refine r_aload_n ok dX6_ifMore_66 2 rfl rfl ?_
        refine r_getf ok ci_X6 fl_X6_7 (by decide) dX6_ifMore_67 md_o rfl ?_
        refine r_iload_n ok dX6_ifMore_70 3 rfl rfl ?_
        refine r_bipush ok (nI 14) dX6_ifMore_71 (by rfl) ?_
        refine r_iload_n ok dX6_ifMore_73 4 rfl rfl ?_
        refine r_iaddN ok dX6_ifMore_74 ?_
        refine r_cS1 ok [.ref (a + 1)] mi_X6_of ml_X6_47 sm_X6_of dX6_ifMore_75 (c_X6_of K.2.1 G (mdM G M a (upd s (15 + 22 * mi + (14 + gi)) ((s (15 + 22 * mi + (14 + gi))) + v)) sA sH sL sI sP sT sG kp ln po wr) N  mi (14 + gi) ) rfl rfl ⟨Nat.le_of_ble_eq_true rfl, Nat.le_of_ble_eq_true rfl⟩ (Nat.le_of_ble_eq_true rfl) ⟨Nat.zero_le _, Nat.zero_le _⟩ ?_
        refine r_dup2 ok dX6_ifMore_78 rfl rfl ?_
        refine r_ialdN ok (by omega) (by omega) dX6_ifMore_79 md_s ?_
        refine zW.to (st' := [.int ((s (15 + 22 * mi + (14 + gi))) + v), .int (nI (15 + 22 * mi + (14 + gi))), .ref (a + 1)]) ?_ rfl rfl (congrArg (fun z => (Value.int z :: [.int (nI (15 + 22 * mi + (14 + gi))), .ref (a + 1)] : List Value)) (show (upd s (15 + 22 * mi + (14 + gi)) ((s (15 + 22 * mi + (14 + gi))) + v)) (15 + 22 * mi + (14 + gi)) = (s (15 + 22 * mi + (14 + gi))) + v from pk_us))
        refine r_iload_n ok dX6_ifMore_80 5 rfl rfl ?_
        refine r_isub ok dX6_ifMore_81 ?_
        refine r_iastN ok (by omega) (by omega) dX6_ifMore_82 md_s (mdw_s _) ?_
        refine r_iload ok dX6_ifMore_83 0 rfl ?_
        exact r_iret ok dX6_ifMore_85 rfl ⟨congrArg (fun z => some (Value.int z)) (show (zCost (upd s (15 + 22 * mi + (14 + gi)) ((s (15 + 22 * mi + (14 + gi))) + v)) (nI 63)) - (zCost s (nI 63)) = zE (zDmore (nI (mi)) (nI (gi)) v) (zRmore s v) from by simp [zDmore, zRmore, zE, zOb, *]), (by rw [upd_back])⟩
      · skip
        refine r_ldc ok ck_X6_125 dX6_ifMore_27 ?_
        exact r_iret ok dX6_ifMore_29 rfl ⟨congrArg (fun z => some (Value.int z)) (show -100002 = zE (zDmore (nI (mi)) (nI (gi)) v) (zRmore s v) from by simp [zDmore, zRmore, zE, zOb, *]), rfl⟩
    · skip
      have n_g : zix g 8 = none := Option.not_isSome_iff_eq_none.mp (by rw [c11_2]; decide)
      refine r_ldc ok ck_X6_132 dX6_ifMore_14 ?_
      exact r_iret ok dX6_ifMore_16 rfl ⟨congrArg (fun z => some (Value.int z)) (show -100001 = zE (zDmore (nI (mi)) g v) (zRmore s v) from by simp [zDmore, zRmore, zE, zOb, *]), rfl⟩
set_option maxHeartbeats 4000000 in
set_option maxRecDepth 100000 in
theorem c_X6_parted (l : Launch) (G : zG) (M : zM) (N a : Nat) (s sA sH sL : Nat → Int32) (sI : Nat → Bool) (sP sT sG : Nat → Int32) (kp ln po : Int32) (wr : Bool)  (x : Int32)  : zC l G yX6_parted cX6_parted 3 (some .int) 5 111 0 0 [.ref a, .int (x)] (mdM G M a s sA sH sL sI sP sT sG kp ln po wr) N (zP (some (.int (zPt2 s x))) (mdM G M a s sA sH sL sI sP sT sG kp ln po wr)) := by
  refine zC.of (by decide +kernel) (Nat.le_of_ble_eq_true rfl) ?_
  intro K hKl ok
  subst hKl
  show zW K G 3 _ 0 0 _ N 0 [(0, .ref a), (1, .int (x))] []
  refine r_bipush ok (nI 63) dX6_parted_0 (by rfl) ?_
  refine r_iload_n ok dX6_parted_2 1 rfl rfl ?_
  refine r_ixor ok dX6_parted_3 ?_
  refine r_istore_n ok [(2, .int ((nI 63) ^^^ x)), (0, .ref a), (1, .int (x))] dX6_parted_4 rfl (by decide) rfl ?_
  refine r_aload_n ok dX6_parted_5 1 rfl rfl ?_
  refine r_iload_n ok dX6_parted_6 2 rfl rfl ?_
  refine r_cV1 ok [] mi_X6_costOf ci_X6 ml_X6_140 im_X6_costOf se_X6_costOf dX6_parted_7 (c_X6_costOf K.2.1 G M N a s sA sH sL sI sP sT sG kp ln po wr  x ) md_o rfl rfl ⟨Nat.le_of_ble_eq_true rfl, Nat.le_of_ble_eq_true rfl⟩ (Nat.le_of_ble_eq_true rfl) ⟨Nat.zero_le _, Nat.zero_le _⟩ ?_
  refine r_aload_n ok dX6_parted_10 1 rfl rfl ?_
  refine r_iload_n ok dX6_parted_11 0 rfl rfl ?_
  refine r_cV1 ok [.int (zCost s x)] mi_X6_costOf ci_X6 ml_X6_140 im_X6_costOf se_X6_costOf dX6_parted_12 (c_X6_costOf K.2.1 G M N a s sA sH sL sI sP sT sG kp ln po wr  ((nI 63) ^^^ x) ) md_o rfl rfl ⟨Nat.le_of_ble_eq_true rfl, Nat.le_of_ble_eq_true rfl⟩ (Nat.le_of_ble_eq_true rfl) ⟨Nat.zero_le _, Nat.zero_le _⟩ ?_
  refine r_iadd ok dX6_parted_15 ?_
  refine r_aload_n ok dX6_parted_16 1 rfl rfl ?_
  refine r_aload_n ok dX6_parted_17 1 rfl rfl ?_
  refine r_iload_n ok dX6_parted_18 2 rfl rfl ?_
  refine r_cV1 ok [.ref a, .int ((zCost s x) + (zCost s ((nI 63) ^^^ x)))] mi_X6_valueOf ci_X6 ml_X6_67 im_X6_valueOf se_X6_valueOf dX6_parted_19 (c_X6_valueOf K.2.1 G M N a s sA sH sL sI sP sT sG kp ln po wr  x ) md_o rfl rfl ⟨Nat.le_of_ble_eq_true rfl, Nat.le_of_ble_eq_true rfl⟩ (Nat.le_of_ble_eq_true rfl) ⟨Nat.zero_le _, Nat.zero_le _⟩ ?_
  refine r_cV1 ok [.int ((zCost s x) + (zCost s ((nI 63) ^^^ x)))] mi_X6_dutyOn ci_X6 ml_X6_91 im_X6_dutyOn se_X6_dutyOn dX6_parted_22 (c_X6_dutyOn K.2.1 G M N a s sA sH sL sI sP sT sG kp ln po wr  (zVal s x) ) md_o rfl rfl ⟨Nat.le_of_ble_eq_true rfl, Nat.le_of_ble_eq_true rfl⟩ (Nat.le_of_ble_eq_true rfl) ⟨Nat.zero_le _, Nat.zero_le _⟩ ?_
  refine r_iadd ok dX6_parted_25 ?_
  refine r_aload_n ok dX6_parted_26 1 rfl rfl ?_
  refine r_aload_n ok dX6_parted_27 1 rfl rfl ?_
  refine r_iload_n ok dX6_parted_28 0 rfl rfl ?_
  refine r_cV1 ok [.ref a, .int (((zCost s x) + (zCost s ((nI 63) ^^^ x))) + (zDuty s (zVal s x)))] mi_X6_valueOf ci_X6 ml_X6_67 im_X6_valueOf se_X6_valueOf dX6_parted_29 (c_X6_valueOf K.2.1 G M N a s sA sH sL sI sP sT sG kp ln po wr  ((nI 63) ^^^ x) ) md_o rfl rfl ⟨Nat.le_of_ble_eq_true rfl, Nat.le_of_ble_eq_true rfl⟩ (Nat.le_of_ble_eq_true rfl) ⟨Nat.zero_le _, Nat.zero_le _⟩ ?_
  refine r_cV1 ok [.int (((zCost s x) + (zCost s ((nI 63) ^^^ x))) + (zDuty s (zVal s x)))] mi_X6_dutyOn ci_X6 ml_X6_91 im_X6_dutyOn se_X6_dutyOn dX6_parted_32 (c_X6_dutyOn K.2.1 G M N a s sA sH sL sI sP sT sG kp ln po wr  (zVal s ((nI 63) ^^^ x)) ) md_o rfl rfl ⟨Nat.le_of_ble_eq_true rfl, Nat.le_of_ble_eq_true rfl⟩ (Nat.le_of_ble_eq_true rfl) ⟨Nat.zero_le _, Nat.zero_le _⟩ ?_
  refine r_iadd ok dX6_parted_35 ?_
  exact r_iret ok dX6_parted_36 rfl ⟨congrArg (fun z => some (Value.int z)) (show (((zCost s x) + (zCost s ((nI 63) ^^^ x))) + (zDuty s (zVal s x))) + (zDuty s (zVal s ((nI 63) ^^^ x))) = zPt2 s x from by rfl), rfl⟩
set_option maxHeartbeats 4000000 in
set_option maxRecDepth 100000 in
theorem c_X6_standIn (l : Launch) (G : zG) (M : zM) (N a : Nat) (s sA sH sL : Nat → Int32) (sI : Nat → Bool) (sP sT sG : Nat → Int32) (kp ln po : Int32) (wr : Bool)  (m : Int32) (g : Int32)  : zC l G yX6_standIn cX6_standIn 3 (some .int) 3 65 0 0 [.ref a, .int (m), .int (g)] (mdM G M a s sA sH sL sI sP sT sG kp ln po wr) N (zP (some (.int (zE (zDstr m g) (zRstand s)))) (mdM G M a s sA sH sL sI sP sT sG kp ln po wr)) := by
  refine zC.of (by decide +kernel) (Nat.le_of_ble_eq_true rfl) ?_
  intro K hKl ok
  subst hKl
  show zW K G 3 _ 0 0 _ N 0 [(0, .ref a), (1, .int (m)), (2, .int (g))] []
  refine r_iload_n ok dX6_standIn_0 1 rfl rfl ?_
  refine r_cS1 ok [] mi_X6_isMember ml_X6_126 sm_X6_isMember dX6_standIn_1 (c_X6_isMember K.2.1 G (mdM G M a s sA sH sL sI sP sT sG kp ln po wr) N  m ) rfl rfl ⟨Nat.le_of_ble_eq_true rfl, Nat.le_of_ble_eq_true rfl⟩ (Nat.le_of_ble_eq_true rfl) ⟨Nat.zero_le _, Nat.zero_le _⟩ ?_
  refine r_ifeqZ ok 14 dX6_standIn_4 (by decide) (fun c4_1 => ?_) (fun c4_1 => ?_)
  · skip
    have n_m : zix m 6 = none := Option.not_isSome_iff_eq_none.mp (by rw [c4_1]; decide)
    refine r_ldc ok ck_X6_132 dX6_standIn_14 ?_
    exact r_iret ok dX6_standIn_16 rfl ⟨congrArg (fun z => some (Value.int z)) (show -100001 = zE (zDstr m g) (zRstand s) from by simp [zDstr, zRstand, zE, zOb, *]), rfl⟩
  · skip
    obtain ⟨mi, z_m⟩ := Option.isSome_iff_exists.mp c4_1
    obtain ⟨h_m, e_m⟩ := zix_some z_m (by omega)
    subst e_m
    refine r_iload_n ok dX6_standIn_7 2 rfl rfl ?_
    refine r_cS1 ok [] mi_X6_isGauge ml_X6_129 sm_X6_isGauge dX6_standIn_8 (c_X6_isGauge K.2.1 G (mdM G M a s sA sH sL sI sP sT sG kp ln po wr) N  g ) rfl rfl ⟨Nat.le_of_ble_eq_true rfl, Nat.le_of_ble_eq_true rfl⟩ (Nat.le_of_ble_eq_true rfl) ⟨Nat.zero_le _, Nat.zero_le _⟩ ?_
    refine r_ifneZ ok 17 dX6_standIn_11 (by decide) (fun c11_2 => ?_) (fun c11_2 => ?_)
    · skip
      obtain ⟨gi, z_g⟩ := Option.isSome_iff_exists.mp c11_2
      obtain ⟨h_g, e_g⟩ := zix_some z_g (by omega)
      subst e_g
      refine r_aload_n ok dX6_standIn_17 0 rfl rfl ?_
      refine r_iload_n ok dX6_standIn_18 1 rfl rfl ?_
      refine r_iload_n ok dX6_standIn_19 2 rfl rfl ?_
      refine r_iload_n ok dX6_standIn_20 2 rfl rfl ?_
      refine r_cV1 ok [] mi_X6_does ci_X6 ml_X6_137 im_X6_does se_X6_does dX6_standIn_21 (c_X6_does K.2.1 G M N a s sA sH sL sI sP sT sG kp ln po wr  mi gi (nI (gi)) (by omega) (by omega)) md_o rfl rfl ⟨Nat.le_of_ble_eq_true rfl, Nat.le_of_ble_eq_true rfl⟩ (Nat.le_of_ble_eq_true rfl) ⟨Nat.zero_le _, Nat.zero_le _⟩ ?_
      refine r_ifeqZ ok 31 dX6_standIn_24 (by decide) (fun c24_3 => ?_) (fun c24_3 => ?_)
      · skip
        refine r_aload_n ok dX6_standIn_31 0 rfl rfl ?_
        refine r_iload_n ok dX6_standIn_32 1 rfl rfl ?_
        refine r_iload_n ok dX6_standIn_33 2 rfl rfl ?_
        refine r_iload_n ok dX6_standIn_34 2 rfl rfl ?_
        refine r_iconst ok (nI 1) dX6_standIn_35 (by rfl) ?_
        refine r_isub ok dX6_standIn_36 ?_
        refine r_cV1 ok [] mi_X6_does ci_X6 ml_X6_137 im_X6_does se_X6_does dX6_standIn_37 (c_X6_does K.2.1 G M N a s sA sH sL sI sP sT sG kp ln po wr  mi gi ((nI (gi)) - (nI 1)) (by omega) (by omega)) md_o rfl rfl ⟨Nat.le_of_ble_eq_true rfl, Nat.le_of_ble_eq_true rfl⟩ (Nat.le_of_ble_eq_true rfl) ⟨Nat.zero_le _, Nat.zero_le _⟩ ?_
        refine r_ifeqZ ok 49 dX6_standIn_40 (by decide) (fun c40_4 => ?_) (fun c40_4 => ?_)
        · skip
          refine r_aload_n ok dX6_standIn_49 0 rfl rfl ?_
          refine r_iload_n ok dX6_standIn_50 1 rfl rfl ?_
          refine r_iload_n ok dX6_standIn_51 2 rfl rfl ?_
          refine r_iload_n ok dX6_standIn_52 2 rfl rfl ?_
          refine r_iconst ok (nI 1) dX6_standIn_53 (by rfl) ?_
          refine r_iaddN ok dX6_standIn_54 ?_
          refine r_cV1 ok [] mi_X6_does ci_X6 ml_X6_137 im_X6_does se_X6_does dX6_standIn_55 (c_X6_does K.2.1 G M N a s sA sH sL sI sP sT sG kp ln po wr  mi gi (nI (gi + 1)) (by omega) (by omega)) md_o rfl rfl ⟨Nat.le_of_ble_eq_true rfl, Nat.le_of_ble_eq_true rfl⟩ (Nat.le_of_ble_eq_true rfl) ⟨Nat.zero_le _, Nat.zero_le _⟩ ?_
          refine r_ifeqZ ok 67 dX6_standIn_58 (by decide) (fun c58_5 => ?_) (fun c58_5 => ?_)
          · skip
            refine r_ldc ok ck_X6_178 dX6_standIn_67 ?_
            exact r_iret ok dX6_standIn_69 rfl ⟨congrArg (fun z => some (Value.int z)) (show -100006 = zE (zDstr (nI (mi)) (nI (gi))) (zRstand s) from by simp [zDstr, zRstand, zE, zOb, *]), rfl⟩
          · skip
            refine r_iload_n ok dX6_standIn_61 2 rfl rfl ?_
            refine r_iconst ok (nI 1) dX6_standIn_62 (by rfl) ?_
            refine r_iaddN ok dX6_standIn_63 ?_
            refine r_goto ok 69 dX6_standIn_64 (by decide) ?_
            exact r_iret ok dX6_standIn_69 rfl ⟨congrArg (fun z => some (Value.int z)) (show nI (gi + 1) = zE (zDstr (nI (mi)) (nI (gi))) (zRstand s) from by simp [zDstr, zRstand, zE, zOb, *]), rfl⟩
        · skip
          refine r_iload_n ok dX6_standIn_43 2 rfl rfl ?_
          refine r_iconst ok (nI 1) dX6_standIn_44 (by rfl) ?_
          refine r_isub ok dX6_standIn_45 ?_
          refine r_goto ok 69 dX6_standIn_46 (by decide) ?_
          exact r_iret ok dX6_standIn_69 rfl ⟨congrArg (fun z => some (Value.int z)) (show (nI (gi)) - (nI 1) = zE (zDstr (nI (mi)) (nI (gi))) (zRstand s) from by simp [zDstr, zRstand, zE, zOb, *]), rfl⟩
      · skip
        refine r_iload_n ok dX6_standIn_27 2 rfl rfl ?_
        refine r_goto ok 69 dX6_standIn_28 (by decide) ?_
        exact r_iret ok dX6_standIn_69 rfl ⟨congrArg (fun z => some (Value.int z)) (show nI (gi) = zE (zDstr (nI (mi)) (nI (gi))) (zRstand s) from by simp [zDstr, zRstand, zE, zOb, *]), rfl⟩
    · skip
      have n_g : zix g 8 = none := Option.not_isSome_iff_eq_none.mp (by rw [c11_2]; decide)
      refine r_ldc ok ck_X6_132 dX6_standIn_14 ?_
      exact r_iret ok dX6_standIn_16 rfl ⟨congrArg (fun z => some (Value.int z)) (show -100001 = zE (zDstr (nI (mi)) g) (zRstand s) from by simp [zDstr, zRstand, zE, zOb, *]), rfl⟩
set_option maxHeartbeats 4000000 in
set_option maxRecDepth 100000 in
theorem c_X6_wipe (l : Launch) (G : zG) (M : zM) (N a : Nat) (s sA sH sL : Nat → Int32) (sI : Nat → Bool) (sP sT sG : Nat → Int32) (kp ln po : Int32) (wr : Bool)    : zC l G yX6_wipe cX6_wipe 2 (some .int) 0 0 0 0 [.ref a] (mdM G M a s sA sH sL sI sP sT sG kp ln po wr) N (zP (some (.int (ln))) (mdM G M a s sA sH sL sI sP sT sG kp (nI 0) po wr)) := by
  refine zC.of (by decide +kernel) (Nat.le_of_ble_eq_true rfl) ?_
  intro K hKl ok
  subst hKl
  show zW K G 2 _ 0 0 _ N 0 [(0, .ref a)] []
  refine r_aload_n ok dX6_wipe_0 0 rfl rfl ?_
  refine r_getf ok ci_X6 fl_X6_172 (by decide) dX6_wipe_1 md_o rfl ?_
  refine r_istore_n ok [(1, .int (ln)), (0, .ref a)] dX6_wipe_4 rfl (by decide) rfl ?_
  refine r_aload_n ok dX6_wipe_5 1 rfl rfl ?_
  refine r_iconst ok (nI 0) dX6_wipe_6 (by rfl) ?_
  refine r_putf ok ci_X6 fl_X6_172 (by decide) rfl rfl rfl dX6_wipe_7 md_o rfl (mdw_o kp (nI 0) po wr) ?_
  refine r_iload_n ok dX6_wipe_10 0 rfl rfl ?_
  exact r_iret ok dX6_wipe_11 rfl ⟨rfl, rfl⟩
set_option maxHeartbeats 4000000 in
set_option maxRecDepth 100000 in
theorem c_X6_undo (l : Launch) (G : zG) (M : zM) (N a : Nat) (s sA sH sL : Nat → Int32) (sI : Nat → Bool) (sP sT sG : Nat → Int32) (kp ln po : Int32) (wr : Bool) (kn : Nat)  (hk : kn ≤ 6) : zC l G yX6_undo cX6_undo 2 (some .int) 0 0 0 0 [.ref a] (mdM G M a s sA sH sL sI sP sT sG (nI kn) ln po wr) N (zP (some (.int (zE (zDundo kn) (fun _ => nI (kn - 1))))) (mdM G M a (zU (zDundo kn) s (fun _ => zC0 s (zHs sH (kn - 1)) 402)) sA sH sL sI sP sT sG (nI (kn - 1)) ln po wr)) := by
  refine zC.of (by decide +kernel) (Nat.le_of_ble_eq_true rfl) ?_
  intro K hKl ok
  subst hKl
  show zW K G 2 _ 0 0 _ N 0 [(0, .ref a)] []
  refine r_aload_n ok dX6_undo_0 0 rfl rfl ?_
  refine r_getf ok ci_X6 fl_X6_39 (by decide) dX6_undo_1 md_o rfl ?_
  refine r_if_neN ok 10 (by omega) dX6_undo_4 (by decide) (fun c4_1 => ?_) (fun c4_1 => ?_)
  · skip
    refine r_aload_n ok dX6_undo_10 0 rfl rfl ?_
    refine r_dup ok dX6_undo_11 rfl ?_
    refine r_getf ok ci_X6 fl_X6_39 (by decide) dX6_undo_12 md_o rfl ?_
    refine r_iconst ok (nI 1) dX6_undo_15 (by rfl) ?_
    refine r_isubN ok (by omega) dX6_undo_16 ?_
    refine r_putf ok ci_X6 fl_X6_39 (by decide) rfl rfl rfl dX6_undo_17 md_o rfl (mdw_o (nI (kn - 1)) ln po wr) ?_
    refine r_iconst ok (nI 0) dX6_undo_20 (by rfl) ?_
    refine r_istore_n ok [(1, .int (nI 0)), (0, .ref a)] dX6_undo_21 rfl (by decide) rfl ?_
    have L2 : ∀ (nL2 : Nat) (k : Nat), ((k + nL2 = 402)) → zW K G 2 (zQ K G (N + 0) 0 0 (zP (some (.int (zE (zDundo kn) (fun _ => nI (kn - 1))))) (mdM G M a (zU (zDundo kn) s (fun _ => zC0 s (zHs sH (kn - 1)) 402)) sA sH sL sI sP sT sG (nI (kn - 1)) ln po wr))) 0 0 (mdM G M a (zC0 s (zHs sH (kn - 1)) k) sA sH sL sI sP sT sG (nI (kn - 1)) ln po wr) N 22 [(0, .ref a), (1, .int (nI (k)))] [] := by
      intro nL2
      induction nL2 with
      | zero =>
        intro k hk_k 
        obtain rfl : 402 = k := by omega
        refine r_iload_n ok dX6_undo_22 1 rfl rfl ?_
        refine r_sipush ok (nI 402) dX6_undo_23 (by rfl) ?_
        refine r_icmp_geN ok 56 (by omega) (by omega) dX6_undo_26 (by decide) (fun _ => ?_) (fun c => absurd c (by decide))
        refine r_aload_n ok dX6_undo_56 0 rfl rfl ?_
        refine r_getf ok ci_X6 fl_X6_39 (by decide) dX6_undo_57 md_o rfl ?_
        exact r_iret ok dX6_undo_60 rfl ⟨congrArg (fun z => some (Value.int z)) (show nI (kn - 1) = zE (zDundo kn) (fun _ => nI (kn - 1)) from by simp [zDundo, zE, *]), (by simp [zDundo, zU, *])⟩
      | succ nL2 ihL2 =>
        intro k hk_k 
        refine r_iload_n ok dX6_undo_22 1 rfl rfl ?_
        refine r_sipush ok (nI 402) dX6_undo_23 (by rfl) ?_
        refine r_icmp_geN ok 56 (by omega) (by omega) dX6_undo_26 (by decide) (fun c26_4 => ?_) (fun c26_4 => ?_)
        · skip
          exact absurd c26_4 (by omega)
        · skip
          refine r_aload_n ok dX6_undo_29 0 rfl rfl ?_
          refine r_getf ok ci_X6 fl_X6_7 (by decide) dX6_undo_30 md_o rfl ?_
          refine r_iload_n ok dX6_undo_33 1 rfl rfl ?_
          refine r_aload_n ok dX6_undo_34 0 rfl rfl ?_
          refine r_getf ok ci_X6 fl_X6_16 (by decide) dX6_undo_35 md_o rfl ?_
          refine r_sipush ok (nI 402) dX6_undo_38 (by rfl) ?_
          refine r_aload_n ok dX6_undo_41 0 rfl rfl ?_
          refine r_getf ok ci_X6 fl_X6_39 (by decide) dX6_undo_42 md_o rfl ?_
          refine r_imulN ok dX6_undo_45 ?_
          refine r_iload_n ok dX6_undo_46 1 rfl rfl ?_
          refine r_iaddN ok dX6_undo_47 ?_
          refine r_ialdN ok (by omega) (by omega) dX6_undo_48 md_sH ?_
          refine r_iastN ok (by omega) (by omega) dX6_undo_49 md_s (mdw_s _) ?_
          refine r_iincN ok (c := 1) [(1, .int (nI (k + 1))), (0, .ref a)] dX6_undo_50 1 rfl (by rfl) (by decide) rfl ?_
          refine r_goto ok 22 dX6_undo_53 (by decide) ?_
          have q5 : (upd (zC0 s (zHs sH (kn - 1)) k) k (sH ((402 * (kn - 1)) + k)) : Nat → Int32) = zC0 s (zHs sH (kn - 1)) (k + 1) := by first | with_reducible rfl | (exact zC0_s _ _ _)
          refine zW.forget (lv' := [(0, .ref a), (1, .int (nI (k + 1)))]) ?_ [1, 0] rfl
          refine zW.to ?_ (congrArg (fun z => mdM G M a z sA sH sL sI sP sT sG (nI (kn - 1)) ln po wr) q5) rfl rfl
          exact ihL2 (k + 1) (by omega)
    have q6 : (s : Nat → Int32) = zC0 s (zHs sH (kn - 1)) 0 := by first | with_reducible rfl | (exact (zC0_0 _ _).symm)
    refine zW.forget (lv' := [(0, .ref a), (1, .int (nI 0))]) ?_ [1, 0] rfl
    refine zW.to ?_ (congrArg (fun z => mdM G M a z sA sH sL sI sP sT sG (nI (kn - 1)) ln po wr) q6) rfl rfl
    exact L2 402 0 (by omega)
  · skip
    refine r_ldc ok ck_X6_133 dX6_undo_7 ?_
    exact r_iret ok dX6_undo_9 rfl ⟨congrArg (fun z => some (Value.int z)) (show -100005 = zE (zDundo kn) (fun _ => nI (kn - 1)) from by simp [zDundo, zE, *]), (by simp [zDundo, zU, *])⟩
set_option maxHeartbeats 4000000 in
set_option maxRecDepth 100000 in
theorem c_X6_save (l : Launch) (G : zG) (M : zM) (N a : Nat) (s sA sH sL : Nat → Int32) (sI : Nat → Bool) (sP sT sG : Nat → Int32) (kp ln po : Int32) (wr : Bool)  (w : Int32)  : zC l G yX6_save cX6_save 3 (some .int) 1 22 0 0 [.ref a, .int (w)] (mdM G M a s sA sH sL sI sP sT sG kp ln po wr) N (zP (some (.int (zE (zDsave w) (fun _ => s 9)))) (mdM G M a s sA sH (zU (zDsave w) sL (fun i => zCp sL s (402 * i) 402)) (zU (zDsave w) sI (fun i => ub sI i true)) sP sT sG kp ln po wr)) := by
  refine zC.of (by decide +kernel) (Nat.le_of_ble_eq_true rfl) ?_
  intro K hKl ok
  subst hKl
  show zW K G 3 _ 0 0 _ N 0 [(0, .ref a), (1, .int (w))] []
  refine r_iload_n ok dX6_save_0 1 rfl rfl ?_
  refine r_iconst ok (nI 0) dX6_save_1 (by rfl) ?_
  refine r_iconst ok (nI 1) dX6_save_2 (by rfl) ?_
  refine r_cS1 ok [] mi_X6_in ml_X6_35 sm_X6_in dX6_save_3 (c_X6_in K.2.1 G (mdM G M a s sA sH sL sI sP sT sG kp ln po wr) N  w (nI 0) (nI 1) ) rfl rfl ⟨Nat.le_of_ble_eq_true rfl, Nat.le_of_ble_eq_true rfl⟩ (Nat.le_of_ble_eq_true rfl) ⟨Nat.zero_le _, Nat.zero_le _⟩ ?_
  refine r_ifneZ ok 12 dX6_save_6 (by decide) (fun c6_1 => ?_) (fun c6_1 => ?_)
  · skip
    have b_w := (zbe_ix w (n := 1) (by omega)).symm.trans c6_1
    obtain ⟨wi, z_w⟩ := Option.isSome_iff_exists.mp b_w
    obtain ⟨h_w, e_w⟩ := zix_some z_w (by omega)
    subst e_w
    refine r_iconst ok (nI 0) dX6_save_12 (by rfl) ?_
    refine r_istore_n ok [(2, .int (nI 0)), (0, .ref a), (1, .int (nI (wi)))] dX6_save_13 rfl (by decide) rfl ?_
    have L2 : ∀ (nL2 : Nat) (k : Nat), ((k + nL2 = 402)) → zW K G 3 (zQ K G (N + 0) 0 0 (zP (some (.int (zE (zDsave (nI (wi))) (fun _ => s 9)))) (mdM G M a s sA sH (zU (zDsave (nI (wi))) sL (fun i => zCp sL s (402 * i) 402)) (zU (zDsave (nI (wi))) sI (fun i => ub sI i true)) sP sT sG kp ln po wr))) 0 0 (mdM G M a s sA sH (zCp sL s (402 * wi) k) sI sP sT sG kp ln po wr) N 14 [(0, .ref a), (1, .int (nI (wi))), (2, .int (nI (k)))] [] := by
      intro nL2
      induction nL2 with
      | zero =>
        intro k hk_k 
        obtain rfl : 402 = k := by omega
        refine r_iload_n ok dX6_save_14 2 rfl rfl ?_
        refine r_sipush ok (nI 402) dX6_save_15 (by rfl) ?_
        refine r_icmp_geN ok 45 (by omega) (by omega) dX6_save_18 (by decide) (fun _ => ?_) (fun c => absurd c (by decide))
        refine r_aload_n ok dX6_save_45 0 rfl rfl ?_
        refine r_getf ok ci_X6 fl_X6_22 (by decide) dX6_save_46 md_o rfl ?_
        refine r_iload_n ok dX6_save_49 1 rfl rfl ?_
        refine r_iconst ok (nI 1) dX6_save_50 (by rfl) ?_
        refine zW.to (st' := [.int (zb true), .int (nI (wi)), .ref (a + 5)]) ?_ rfl rfl rfl
        refine r_zastN ok (by omega) (by omega) dX6_save_51 md_sI (mdw_sI _) ?_
        refine r_aload_n ok dX6_save_52 0 rfl rfl ?_
        refine r_getf ok ci_X6 fl_X6_7 (by decide) dX6_save_53 md_o rfl ?_
        refine r_bipush ok (nI 9) dX6_save_56 (by rfl) ?_
        refine r_ialdN ok (by omega) (by omega) dX6_save_58 md_s ?_
        exact r_iret ok dX6_save_59 rfl ⟨congrArg (fun z => some (Value.int z)) (show s 9 = zE (zDsave (nI (wi))) (fun _ => s 9) from by simp [zDsave, zE, zOb, *]), (by simp [zDsave, zU, zOb, *])⟩
      | succ nL2 ihL2 =>
        intro k hk_k 
        refine r_iload_n ok dX6_save_14 2 rfl rfl ?_
        refine r_sipush ok (nI 402) dX6_save_15 (by rfl) ?_
        refine r_icmp_geN ok 45 (by omega) (by omega) dX6_save_18 (by decide) (fun c18_4 => ?_) (fun c18_4 => ?_)
        · skip
          exact absurd c18_4 (by omega)
        · skip
          refine r_aload_n ok dX6_save_21 0 rfl rfl ?_
          refine r_getf ok ci_X6 fl_X6_19 (by decide) dX6_save_22 md_o rfl ?_
          refine r_sipush ok (nI 402) dX6_save_25 (by rfl) ?_
          refine r_iload_n ok dX6_save_28 1 rfl rfl ?_
          refine r_imulN ok dX6_save_29 ?_
          refine r_iload_n ok dX6_save_30 2 rfl rfl ?_
          refine r_iaddN ok dX6_save_31 ?_
          refine r_aload_n ok dX6_save_32 0 rfl rfl ?_
          refine r_getf ok ci_X6 fl_X6_7 (by decide) dX6_save_33 md_o rfl ?_
          refine r_iload_n ok dX6_save_36 2 rfl rfl ?_
          refine r_ialdN ok (by omega) (by omega) dX6_save_37 md_s ?_
          refine r_iastN ok (by omega) (by omega) dX6_save_38 md_sL (mdw_sL _) ?_
          refine r_iincN ok (c := 1) [(2, .int (nI (k + 1))), (0, .ref a), (1, .int (nI (wi)))] dX6_save_39 2 rfl (by rfl) (by decide) rfl ?_
          refine r_goto ok 14 dX6_save_42 (by decide) ?_
          have q5 : (upd (zCp sL s (402 * wi) k) ((402 * wi) + k) (s k) : Nat → Int32) = zCp sL s (402 * wi) (k + 1) := by first | with_reducible rfl | (exact zCp_s _ _ _ _)
          refine zW.forget (lv' := [(0, .ref a), (1, .int (nI (wi))), (2, .int (nI (k + 1)))]) ?_ [1, 2, 0] rfl
          refine zW.to ?_ (congrArg (fun z => mdM G M a s sA sH z sI sP sT sG kp ln po wr) q5) rfl rfl
          exact ihL2 (k + 1) (by omega)
    have q6 : (sL : Nat → Int32) = zCp sL s (402 * wi) 0 := by first | with_reducible rfl | (exact (zCp_0 _ _ _).symm)
    refine zW.forget (lv' := [(0, .ref a), (1, .int (nI (wi))), (2, .int (nI 0))]) ?_ [1, 2, 0] rfl
    refine zW.to ?_ (congrArg (fun z => mdM G M a s sA sH z sI sP sT sG kp ln po wr) q6) rfl rfl
    exact L2 402 0 (by omega)
  · skip
    have b_w := (zbe_ix w (n := 1) (by omega)).symm.trans c6_1
    have n_w : zix w 2 = none := Option.not_isSome_iff_eq_none.mp (by rw [b_w]; decide)
    refine r_ldc ok ck_X6_125 dX6_save_9 ?_
    exact r_iret ok dX6_save_11 rfl ⟨congrArg (fun z => some (Value.int z)) (show -100002 = zE (zDsave w) (fun _ => s 9) from by simp [zDsave, zE, zOb, *]), (by simp [zDsave, zU, zOb, *])⟩
set_option maxHeartbeats 4000000 in
set_option maxRecDepth 100000 in
theorem c_X6_restore (l : Launch) (G : zG) (M : zM) (N a : Nat) (s sA sH sL : Nat → Int32) (sI : Nat → Bool) (sP sT sG : Nat → Int32) (kp ln po : Int32) (wr : Bool) (kn : Nat) (w : Int32) (hk : kn ≤ 6) : zC l G yX6_restore cX6_restore 3 (some .int) 1 22 0 0 [.ref a, .int (w)] (mdM G M a s sA sH sL sI sP sT sG (nI kn) ln po wr) N (zP (some (.int (zE (zDrest sI w) (fun i => zC0 s (zHs sL i) 402 9)))) (mdM G M a (zU (zDrest sI w) s (fun i => zC0 s (zHs sL i) 402)) sA (zU (zDrest sI w) sH (fun _ => zRecH s sH kn)) sL sI sP sT sG (nI (zU (zDrest sI w) kn (fun _ => zRecK kn))) ln po wr)) := by
  refine zC.of (by decide +kernel) (Nat.le_of_ble_eq_true rfl) ?_
  intro K hKl ok
  subst hKl
  show zW K G 3 _ 0 0 _ N 0 [(0, .ref a), (1, .int (w))] []
  refine r_iload_n ok dX6_restore_0 1 rfl rfl ?_
  refine r_iconst ok (nI 0) dX6_restore_1 (by rfl) ?_
  refine r_iconst ok (nI 1) dX6_restore_2 (by rfl) ?_
  refine r_cS1 ok [] mi_X6_in ml_X6_35 sm_X6_in dX6_restore_3 (c_X6_in K.2.1 G (mdM G M a s sA sH sL sI sP sT sG (nI kn) ln po wr) N  w (nI 0) (nI 1) ) rfl rfl ⟨Nat.le_of_ble_eq_true rfl, Nat.le_of_ble_eq_true rfl⟩ (Nat.le_of_ble_eq_true rfl) ⟨Nat.zero_le _, Nat.zero_le _⟩ ?_
  refine r_ifneZ ok 12 dX6_restore_6 (by decide) (fun c6_1 => ?_) (fun c6_1 => ?_)
  · skip
    have b_w := (zbe_ix w (n := 1) (by omega)).symm.trans c6_1
    obtain ⟨wi, z_w⟩ := Option.isSome_iff_exists.mp b_w
    obtain ⟨h_w, e_w⟩ := zix_some z_w (by omega)
    subst e_w
    refine r_aload_n ok dX6_restore_12 0 rfl rfl ?_
    refine r_getf ok ci_X6 fl_X6_22 (by decide) dX6_restore_13 md_o rfl ?_
    refine r_iload_n ok dX6_restore_16 1 rfl rfl ?_
    refine r_zaldN ok (by omega) (by omega) dX6_restore_17 md_sI ?_
    refine r_ifneZ ok 24 dX6_restore_18 (by decide) (fun c18_2 => ?_) (fun c18_2 => ?_)
    · skip
      refine r_aload_n ok dX6_restore_24 0 rfl rfl ?_
      refine r_cV0 ok [] mi_X6_record ci_X6 ml_X6_113 im_X6_record se_X6_record dX6_restore_25 (c_X6_record K.2.1 G M N a s sA sH sL sI sP sT sG (nI kn) ln po wr kn  (by omega)) md_o rfl rfl ⟨Nat.le_of_ble_eq_true rfl, Nat.le_of_ble_eq_true rfl⟩ (Nat.le_of_ble_eq_true rfl) ⟨Nat.zero_le _, Nat.zero_le _⟩ ?_
      refine r_iconst ok (nI 0) dX6_restore_28 (by rfl) ?_
      refine r_istore_n ok [(2, .int (nI 0)), (0, .ref a), (1, .int (nI (wi)))] dX6_restore_29 rfl (by decide) rfl ?_
      have L3 : ∀ (nL3 : Nat) (k : Nat), ((k + nL3 = 402)) → zW K G 3 (zQ K G (N + 0) 0 0 (zP (some (.int (zE (zDrest sI (nI (wi))) (fun i => zC0 s (zHs sL i) 402 9)))) (mdM G M a (zU (zDrest sI (nI (wi))) s (fun i => zC0 s (zHs sL i) 402)) sA (zU (zDrest sI (nI (wi))) sH (fun _ => zRecH s sH kn)) sL sI sP sT sG (nI (zU (zDrest sI (nI (wi))) kn (fun _ => zRecK kn))) ln po wr))) 0 0 (mdM G M a (zC0 s (zHs sL wi) k) sA (zRecH s sH kn) sL sI sP sT sG (nI (zRecK kn)) ln po wr) N 30 [(0, .ref a), (1, .int (nI (wi))), (2, .int (nI (k)))] [] := by
        intro nL3
        induction nL3 with
        | zero =>
          intro k hk_k 
          obtain rfl : 402 = k := by omega
          refine r_iload_n ok dX6_restore_30 2 rfl rfl ?_
          refine r_sipush ok (nI 402) dX6_restore_31 (by rfl) ?_
          refine r_icmp_geN ok 61 (by omega) (by omega) dX6_restore_34 (by decide) (fun _ => ?_) (fun c => absurd c (by decide))
          refine r_aload_n ok dX6_restore_61 0 rfl rfl ?_
          refine r_getf ok ci_X6 fl_X6_7 (by decide) dX6_restore_62 md_o rfl ?_
          refine r_bipush ok (nI 9) dX6_restore_65 (by rfl) ?_
          refine r_ialdN ok (by omega) (by omega) dX6_restore_67 md_s ?_
          exact r_iret ok dX6_restore_68 rfl ⟨congrArg (fun z => some (Value.int z)) (show (zC0 s (zHs sL wi) 402) 9 = zE (zDrest sI (nI (wi))) (fun i => zC0 s (zHs sL i) 402 9) from by simp [zDrest, zE, zOb, *]), (by simp [zDrest, zU, zOb, *])⟩
        | succ nL3 ihL3 =>
          intro k hk_k 
          refine r_iload_n ok dX6_restore_30 2 rfl rfl ?_
          refine r_sipush ok (nI 402) dX6_restore_31 (by rfl) ?_
          refine r_icmp_geN ok 61 (by omega) (by omega) dX6_restore_34 (by decide) (fun c34_5 => ?_) (fun c34_5 => ?_)
          · skip
            exact absurd c34_5 (by omega)
          · skip
            refine r_aload_n ok dX6_restore_37 0 rfl rfl ?_
            refine r_getf ok ci_X6 fl_X6_7 (by decide) dX6_restore_38 md_o rfl ?_
            refine r_iload_n ok dX6_restore_41 2 rfl rfl ?_
            refine r_aload_n ok dX6_restore_42 0 rfl rfl ?_
            refine r_getf ok ci_X6 fl_X6_19 (by decide) dX6_restore_43 md_o rfl ?_
            refine r_sipush ok (nI 402) dX6_restore_46 (by rfl) ?_
            refine r_iload_n ok dX6_restore_49 1 rfl rfl ?_
            refine r_imulN ok dX6_restore_50 ?_
            refine r_iload_n ok dX6_restore_51 2 rfl rfl ?_
            refine r_iaddN ok dX6_restore_52 ?_
            refine r_ialdN ok (by omega) (by omega) dX6_restore_53 md_sL ?_
            refine r_iastN ok (by omega) (by omega) dX6_restore_54 md_s (mdw_s _) ?_
            refine r_iincN ok (c := 1) [(2, .int (nI (k + 1))), (0, .ref a), (1, .int (nI (wi)))] dX6_restore_55 2 rfl (by rfl) (by decide) rfl ?_
            refine r_goto ok 30 dX6_restore_58 (by decide) ?_
            have q6 : (upd (zC0 s (zHs sL wi) k) k (sL ((402 * wi) + k)) : Nat → Int32) = zC0 s (zHs sL wi) (k + 1) := by first | with_reducible rfl | (exact zC0_s _ _ _)
            refine zW.forget (lv' := [(0, .ref a), (1, .int (nI (wi))), (2, .int (nI (k + 1)))]) ?_ [1, 2, 0] rfl
            refine zW.to ?_ (congrArg (fun z => mdM G M a z sA (zRecH s sH kn) sL sI sP sT sG (nI (zRecK kn)) ln po wr) q6) rfl rfl
            exact ihL3 (k + 1) (by omega)
      have q7 : (s : Nat → Int32) = zC0 s (zHs sL wi) 0 := by first | with_reducible rfl | (exact (zC0_0 _ _).symm)
      refine zW.forget (lv' := [(0, .ref a), (1, .int (nI (wi))), (2, .int (nI 0))]) ?_ [1, 2, 0] rfl
      refine zW.to ?_ (congrArg (fun z => mdM G M a z sA (zRecH s sH kn) sL sI sP sT sG (nI (zRecK kn)) ln po wr) q7) rfl rfl
      exact L3 402 0 (by omega)
    · skip
      refine r_ldc ok ck_X6_133 dX6_restore_21 ?_
      exact r_iret ok dX6_restore_23 rfl ⟨congrArg (fun z => some (Value.int z)) (show -100005 = zE (zDrest sI (nI (wi))) (fun i => zC0 s (zHs sL i) 402 9) from by simp [zDrest, zE, zOb, *]), (by simp [zDrest, zU, zOb, *])⟩
  · skip
    have b_w := (zbe_ix w (n := 1) (by omega)).symm.trans c6_1
    have n_w : zix w 2 = none := Option.not_isSome_iff_eq_none.mp (by rw [b_w]; decide)
    refine r_ldc ok ck_X6_125 dX6_restore_9 ?_
    exact r_iret ok dX6_restore_11 rfl ⟨congrArg (fun z => some (Value.int z)) (show -100002 = zE (zDrest sI w) (fun i => zC0 s (zHs sL i) 402 9) from by simp [zDrest, zE, zOb, *]), (by simp [zDrest, zU, zOb, *])⟩
