set_option maxHeartbeats 4000000 in
set_option maxRecDepth 100000 in
theorem c_X0_brokenStrings (l : Launch) (G : zG) (M : zM) (N : Nat) (b : Nat) (st : Nat → Int32) (dy : Int32) (x : Int32) (br : Nat → Int32) (sp : Nat → Nat → Int32) (wa : Nat → Nat → Int32) (ac : Nat → Int32) (ps : Nat → Int32) (pp : Nat → Int32) (pu : Nat → Int32) (lo : Nat → Int32) (un : Int32) (op : Int32) (pi : Nat → Nat) (cn : Nat → Nat → Nat → Int32) (vl : Nat → Int32) (du : Nat → Int32) (io : Nat → Bool) (hp : Nat → Int32) (hs : Nat → Int32)    : zC l G yX0_brokenStrings cX0_brokenStrings 6 (some .int) 1 20 0 0 [.ref b] (cbM G M b st dy x br sp wa ac ps pp pu lo un op pi cn vl du io hp hs) N (zP (some (.int (lsum (zPopT br) 6))) (cbM G M b st dy x br sp wa ac ps pp pu lo un op pi cn vl du io hp hs)) := by
  refine zC.of (by decide +kernel) (Nat.le_of_ble_eq_true rfl) ?_
  intro K hKl ok
  subst hKl
  show zW K G 6 _ 0 0 _ N 0 [(0, .ref b)] []
  refine r_iconst ok (nI 0) dX0_brokenStrings_0 (by rfl) ?_
  refine r_istore_n ok [(1, .int (nI 0)), (0, .ref b)] dX0_brokenStrings_1 rfl (by decide) rfl ?_
  refine r_aload_n ok dX0_brokenStrings_2 1 rfl rfl ?_
  refine r_getf ok ci_X0 fl_X0_27 (by decide) dX0_brokenStrings_3 cb_o rfl ?_
  refine r_astore_n ok [(2, .ref (b + 2)), (1, .int (nI 0)), (0, .ref b)] dX0_brokenStrings_6 rfl (by decide) rfl ?_
  refine r_aload_n ok dX0_brokenStrings_7 0 rfl rfl ?_
  refine r_alen ok (nI 6) (t := 0) rfl dX0_brokenStrings_8 cb_br (by rfl) ?_
  refine r_istore_n ok [(3, .int (nI 6)), (2, .ref (b + 2)), (1, .int (nI 0)), (0, .ref b)] dX0_brokenStrings_9 rfl (by decide) rfl ?_
  refine r_iconst ok (nI 0) dX0_brokenStrings_10 (by rfl) ?_
  refine r_istore ok [(4, .int (nI 0)), (3, .int (nI 6)), (2, .ref (b + 2)), (1, .int (nI 0)), (0, .ref b)] dX0_brokenStrings_11 (by decide) rfl ?_
  have L1 : ∀ (nL1 : Nat) (k : Nat), ((k + nL1 = 6)) → zW K G 6 (zQ K G (N + 0) 0 0 (zP (some (.int (lsum (zPopT br) 6))) (cbM G M b st dy x br sp wa ac ps pp pu lo un op pi cn vl du io hp hs))) 0 0 (cbM G M b st dy x br sp wa ac ps pp pu lo un op pi cn vl du io hp hs) N 13 [(0, .ref b), (1, .int (lsum (zPopT br) k)), (2, .ref (b + 2)), (3, .int (nI 6)), (4, .int (nI (k)))] [] := by
    intro nL1
    induction nL1 with
    | zero =>
      intro k hk_k 
      obtain rfl : 6 = k := by omega
      refine r_iload ok dX0_brokenStrings_13 4 rfl ?_
      refine r_iload_n ok dX0_brokenStrings_15 3 rfl rfl ?_
      refine r_icmp_geN ok 39 (by omega) (by omega) dX0_brokenStrings_16 (by decide) (fun _ => ?_) (fun c => absurd c (by decide))
      refine r_iload_n ok dX0_brokenStrings_39 1 rfl rfl ?_
      exact r_iret ok dX0_brokenStrings_40 rfl ⟨rfl, rfl⟩
    | succ nL1 ihL1 =>
      intro k hk_k 
      refine r_iload ok dX0_brokenStrings_13 4 rfl ?_
      refine r_iload_n ok dX0_brokenStrings_15 3 rfl rfl ?_
      refine r_icmp_geN ok 39 (by omega) (by omega) dX0_brokenStrings_16 (by decide) (fun c16_3 => ?_) (fun c16_3 => ?_)
      · skip
        exact absurd c16_3 (by omega)
      · skip
        refine r_aload_n ok dX0_brokenStrings_19 2 rfl rfl ?_
        refine r_iload ok dX0_brokenStrings_20 4 rfl ?_
        refine r_ialdN ok (by omega) (by omega) dX0_brokenStrings_22 cb_br ?_
        refine r_istore ok [(5, .int (br k)), (0, .ref b), (1, .int (lsum (zPopT br) k)), (2, .ref (b + 2)), (3, .int (nI 6)), (4, .int (nI (k)))] dX0_brokenStrings_23 (by decide) rfl ?_
        refine r_iload_n ok dX0_brokenStrings_25 2 rfl rfl ?_
        refine r_iload ok dX0_brokenStrings_26 0 rfl ?_
        refine r_cS1 ok [.int (lsum (zPopT br) k)] mi_J6_bitCount_0f7a4 ml_X0_88 sm_J6_bitCount_0f7a4 dX0_brokenStrings_28 (c_J6_bitCount_0f7a4 K.2.1 G (cbM G M b st dy x br sp wa ac ps pp pu lo un op pi cn vl du io hp hs) N  (br k) ) rfl rfl ⟨Nat.le_of_ble_eq_true rfl, Nat.le_of_ble_eq_true rfl⟩ (Nat.le_of_ble_eq_true rfl) ⟨Nat.zero_le _, Nat.zero_le _⟩ ?_
        refine r_iadd ok dX0_brokenStrings_31 ?_
        refine r_istore_n ok [(1, .int ((lsum (zPopT br) k) + (zPop (br k)))), (5, .int (br k)), (0, .ref b), (2, .ref (b + 2)), (3, .int (nI 6)), (4, .int (nI (k)))] dX0_brokenStrings_32 rfl (by decide) rfl ?_
        refine r_iincN ok (c := 1) [(4, .int (nI (k + 1))), (1, .int ((lsum (zPopT br) k) + (zPop (br k)))), (5, .int (br k)), (0, .ref b), (2, .ref (b + 2)), (3, .int (nI 6))] dX0_brokenStrings_33 5 rfl (by rfl) (by decide) rfl ?_
        refine r_goto ok 13 dX0_brokenStrings_36 (by decide) ?_
        have q4 : Value.int ((lsum (zPopT br) k) + (zPop (br k))) = Value.int (lsum (zPopT br) (k + 1)) := by first | with_reducible rfl | (simp [lsum_s, zPopT])
        refine zW.forget (lv' := [(0, .ref b), (1, .int ((lsum (zPopT br) k) + (zPop (br k)))), (2, .ref (b + 2)), (3, .int (nI 6)), (4, .int (nI (k + 1)))]) ?_ [3, 1, 4, 5, 0] rfl
        refine zW.to (lv' := [(0, .ref b), (1, .int (lsum (zPopT br) (k + 1))), (2, .ref (b + 2)), (3, .int (nI 6)), (4, .int (nI (k + 1)))]) ?_ rfl (congrArg (fun z => ([(0, .ref b), (1, z), (2, .ref (b + 2)), (3, .int (nI 6)), (4, .int (nI (k + 1)))] : List (Nat × Value))) q4) rfl
        exact ihL1 (k + 1) (by omega)
  have q5 : Value.int (nI 0) = Value.int (lsum (zPopT br) 0) := by first | with_reducible rfl | (rfl)
  refine zW.forget (lv' := [(0, .ref b), (1, .int (nI 0)), (2, .ref (b + 2)), (3, .int (nI 6)), (4, .int (nI 0))]) ?_ [4, 3, 2, 1, 0] rfl
  refine zW.to (lv' := [(0, .ref b), (1, .int (lsum (zPopT br) 0)), (2, .ref (b + 2)), (3, .int (nI 6)), (4, .int (nI 0))]) ?_ rfl (congrArg (fun z => ([(0, .ref b), (1, z), (2, .ref (b + 2)), (3, .int (nI 6)), (4, .int (nI 0))] : List (Nat × Value))) q5) rfl
  exact L1 6 0 (by omega)
set_option maxHeartbeats 4000000 in
set_option maxRecDepth 100000 in
theorem c_X0_underwayOf (l : Launch) (G : zG) (M : zM) (N : Nat) (b : Nat) (st : Nat → Int32) (dy : Int32) (x : Int32) (br : Nat → Int32) (sp : Nat → Nat → Int32) (wa : Nat → Nat → Int32) (ac : Nat → Int32) (ps : Nat → Int32) (pp : Nat → Int32) (pu : Nat → Int32) (lo : Nat → Int32) (un : Int32) (op : Int32) (pi : Nat → Nat) (cn : Nat → Nat → Nat → Int32) (vl : Nat → Int32) (du : Nat → Int32) (io : Nat → Bool) (hp : Nat → Int32) (hs : Nat → Int32) (unn : Nat) (m : Nat) (hm : m < 6) (hu : unn ≤ 5) (hpi : ∀ i, i < 5 → pi i < 5) : zC l G yX0_underwayOf cX0_underwayOf 4 (some .int) 1 25 0 0 [.ref b, .int (nI (m))] (cbM G M b st dy x br sp wa ac ps pp pu lo (nI unn) op pi cn vl du io hp hs) N (zP (some (.int (lsum (zUwT cn pi m) unn))) (cbM G M b st dy x br sp wa ac ps pp pu lo (nI unn) op pi cn vl du io hp hs)) := by
  refine zC.of (by decide +kernel) (Nat.le_of_ble_eq_true rfl) ?_
  intro K hKl ok
  subst hKl
  show zW K G 4 _ 0 0 _ N 0 [(0, .ref b), (1, .int (nI (m)))] []
  refine r_iconst ok (nI 0) dX0_underwayOf_0 (by rfl) ?_
  refine r_istore_n ok [(2, .int (nI 0)), (0, .ref b), (1, .int (nI (m)))] dX0_underwayOf_1 rfl (by decide) rfl ?_
  refine r_iconst ok (nI 0) dX0_underwayOf_2 (by rfl) ?_
  refine r_istore_n ok [(3, .int (nI 0)), (2, .int (nI 0)), (0, .ref b), (1, .int (nI (m)))] dX0_underwayOf_3 rfl (by decide) rfl ?_
  have L1 : ∀ (nL1 : Nat) (k : Nat), ((k + nL1 = unn)) → zW K G 4 (zQ K G (N + 0) 0 0 (zP (some (.int (lsum (zUwT cn pi m) unn))) (cbM G M b st dy x br sp wa ac ps pp pu lo (nI unn) op pi cn vl du io hp hs))) 0 0 (cbM G M b st dy x br sp wa ac ps pp pu lo (nI unn) op pi cn vl du io hp hs) N 4 [(0, .ref b), (1, .int (nI (m))), (2, .int (lsum (zUwT cn pi m) k)), (3, .int (nI (k)))] [] := by
    intro nL1
    induction nL1 with
    | zero =>
      intro k hk_k 
      obtain rfl : unn = k := by omega
      refine r_iload_n ok dX0_underwayOf_4 3 rfl rfl ?_
      refine r_aload_n ok dX0_underwayOf_5 0 rfl rfl ?_
      refine r_getf ok ci_X0 fl_X0_78 (by decide) dX0_underwayOf_6 cb_o rfl ?_
      refine r_icmp_geN ok 40 (by omega) (by omega) dX0_underwayOf_9 (by decide) (fun c9_2 => ?_) (fun c9_2 => ?_)
      · skip
        refine r_iload_n ok dX0_underwayOf_40 2 rfl rfl ?_
        exact r_iret ok dX0_underwayOf_41 rfl ⟨rfl, rfl⟩
      · skip
        exact absurd c9_2 (by omega)
    | succ nL1 ihL1 =>
      intro k hk_k 
      refine r_iload_n ok dX0_underwayOf_4 3 rfl rfl ?_
      refine r_aload_n ok dX0_underwayOf_5 0 rfl rfl ?_
      refine r_getf ok ci_X0 fl_X0_78 (by decide) dX0_underwayOf_6 cb_o rfl ?_
      refine r_icmp_geN ok 40 (by omega) (by omega) dX0_underwayOf_9 (by decide) (fun c9_3 => ?_) (fun c9_3 => ?_)
      · skip
        exact absurd c9_3 (by omega)
      · skip
        refine r_iload_n ok dX0_underwayOf_12 3 rfl rfl ?_
        refine r_iconst ok (nI 5) dX0_underwayOf_13 (by rfl) ?_
        refine r_icmp_geN ok 40 (by omega) (by omega) dX0_underwayOf_14 (by decide) (fun c14_4 => ?_) (fun c14_4 => ?_)
        · skip
          exact absurd c14_4 (by omega)
        · skip
          have hj := hpi k (by omega)
          refine r_iload_n ok dX0_underwayOf_17 2 rfl rfl ?_
          refine r_aload_n ok dX0_underwayOf_18 0 rfl rfl ?_
          refine r_getf ok ci_X0 fl_X0_55 (by decide) dX0_underwayOf_19 cb_o rfl ?_
          refine r_iload_n ok dX0_underwayOf_22 3 rfl rfl ?_
          refine r_aaldN ok 4 (Or.inr (Or.inl rfl)) (b + 26 + 8 * (pi k)) (by omega) (by omega) dX0_underwayOf_23 cb_pi (cbP_at (by omega)) ?_
          refine r_getf ok ci_X3 fl_X0_94 (by decide) dX0_underwayOf_24 (cb_pc (by omega)) rfl ?_
          refine r_iload_n ok dX0_underwayOf_27 1 rfl rfl ?_
          refine r_aaldN ok 3 (Or.inl rfl) (b + 26 + 8 * (pi k) + 2 + m) (by omega) (by omega) dX0_underwayOf_28 (cb_pcc (by omega)) (zRef6_at (by omega)) ?_
          refine r_cSN1 ok [.int (lsum (zUwT cn pi m) k)] mi_X5_sumOf mn_X0_97 sm_X5_sumOf dX0_underwayOf_29 (c_X5_sumOf K.2.1 G (cbM G M b st dy x br sp wa ac ps pp pu lo (nI unn) op pi cn vl du io hp hs) N 8 (cn (pi k) m) ((b + 26 + 8 * (pi k) + 2 + m)) (cb_pcr (by omega) (by omega)) (by omega)) rfl rfl ⟨Nat.le_of_ble_eq_true rfl, Nat.le_of_ble_eq_true rfl⟩ (Nat.le_of_ble_eq_true rfl) ⟨Nat.zero_le _, Nat.zero_le _⟩ ?_
          refine r_iadd ok dX0_underwayOf_32 ?_
          refine r_istore_n ok [(2, .int ((lsum (zUwT cn pi m) k) + (lsum (cn (pi k) m) 8))), (0, .ref b), (1, .int (nI (m))), (3, .int (nI (k)))] dX0_underwayOf_33 rfl (by decide) rfl ?_
          refine r_iincN ok (c := 1) [(3, .int (nI (k + 1))), (2, .int ((lsum (zUwT cn pi m) k) + (lsum (cn (pi k) m) 8))), (0, .ref b), (1, .int (nI (m)))] dX0_underwayOf_34 3 rfl (by rfl) (by decide) rfl ?_
          refine r_goto ok 4 dX0_underwayOf_37 (by decide) ?_
          have q5 : Value.int ((lsum (zUwT cn pi m) k) + (lsum (cn (pi k) m) 8)) = Value.int (lsum (zUwT cn pi m) (k + 1)) := by first | with_reducible rfl | (simp [lsum_s, zUwT])
          refine zW.forget (lv' := [(0, .ref b), (1, .int (nI (m))), (2, .int ((lsum (zUwT cn pi m) k) + (lsum (cn (pi k) m) 8))), (3, .int (nI (k + 1)))]) ?_ [2, 3, 1, 0] rfl
          refine zW.to (lv' := [(0, .ref b), (1, .int (nI (m))), (2, .int (lsum (zUwT cn pi m) (k + 1))), (3, .int (nI (k + 1)))]) ?_ rfl (congrArg (fun z => ([(0, .ref b), (1, .int (nI (m))), (2, z), (3, .int (nI (k + 1)))] : List (Nat × Value))) q5) rfl
          exact ihL1 (k + 1) (by omega)
  have q6 : Value.int (nI 0) = Value.int (lsum (zUwT cn pi m) 0) := by first | with_reducible rfl | (rfl)
  refine zW.forget (lv' := [(0, .ref b), (1, .int (nI (m))), (2, .int (nI 0)), (3, .int (nI 0))]) ?_ [2, 3, 1, 0] rfl
  refine zW.to (lv' := [(0, .ref b), (1, .int (nI (m))), (2, .int (lsum (zUwT cn pi m) 0)), (3, .int (nI 0))]) ?_ rfl (congrArg (fun z => ([(0, .ref b), (1, .int (nI (m))), (2, z), (3, .int (nI 0))] : List (Nat × Value))) q6) rfl
  exact L1 unn 0 (by omega)
set_option maxHeartbeats 4000000 in
set_option maxRecDepth 100000 in
theorem c_X0_draw (l : Launch) (G : zG) (M : zM) (N : Nat) (b : Nat) (st : Nat → Int32) (dy : Int32) (x : Int32) (br : Nat → Int32) (sp : Nat → Nat → Int32) (wa : Nat → Nat → Int32) (ac : Nat → Int32) (ps : Nat → Int32) (pp : Nat → Int32) (pu : Nat → Int32) (lo : Nat → Int32) (un : Int32) (op : Int32) (pi : Nat → Nat) (cn : Nat → Nat → Nat → Int32) (vl : Nat → Int32) (du : Nat → Int32) (io : Nat → Bool) (hp : Nat → Int32) (hs : Nat → Int32)  (below : Int32)  : zC l G yX0_draw cX0_draw 2 (some .int) 0 0 0 0 [.ref b, .int (below)] (cbM G M b st dy x br sp wa ac ps pp pu lo un op pi cn vl du io hp hs) N (zP (some (.int (zDrC x below))) (cbM G M b st dy (zNx x) br sp wa ac ps pp pu lo un op pi cn vl du io hp hs)) := by
  refine zC.of (by decide +kernel) (Nat.le_of_ble_eq_true rfl) ?_
  intro K hKl ok
  subst hKl
  show zW K G 2 _ 0 0 _ N 0 [(0, .ref b), (1, .int (below))] []
  refine r_aload_n ok dX0_draw_0 0 rfl rfl ?_
  refine r_aload_n ok dX0_draw_1 0 rfl rfl ?_
  refine r_getf ok ci_X0 fl_X0_23 (by decide) dX0_draw_2 cb_o rfl ?_
  refine r_i2l ok dX0_draw_5 ?_
  refine r_ldc2 ok cl_X0_192 dX0_draw_6 ?_
  refine r_lmul ok dX0_draw_9 ?_
  refine r_ldc2 ok cl_X0_194 dX0_draw_10 ?_
  refine r_ladd ok dX0_draw_13 ?_
  refine r_ldc2 ok cl_X0_196 dX0_draw_14 ?_
  refine r_lrem ok (by decide) dX0_draw_17 ?_
  refine r_l2i ok dX0_draw_18 ?_
  refine r_putf ok ci_X0 fl_X0_23 (by decide) rfl rfl rfl dX0_draw_19 cb_o rfl (cbw_o dy ((((x.toInt64 * 1103515245) + 12345) - ((x.toInt64 * 1103515245) + 12345) / 2147483648 * 2147483648).toInt32) un op) ?_
  refine r_iload_n ok dX0_draw_22 1 rfl rfl ?_
  refine r_if_gt ok 30 dX0_draw_23 (by decide) (fun c23_1 => ?_) (fun c23_1 => ?_)
  · skip
    have nz : ¬ below = 0 := fun q => by rw [q] at c23_1; exact absurd c23_1 (by decide)
    have hz : nI 0 < below := c23_1
    refine r_aload_n ok dX0_draw_30 0 rfl rfl ?_
    refine r_getf ok ci_X0 fl_X0_23 (by decide) dX0_draw_31 cb_o rfl ?_
    refine r_ldc ok ck_X0_198 dX0_draw_34 ?_
    refine zW.to (st' := [.int (nI 65536), .int ((((x.toInt64 * 1103515245) + 12345) - ((x.toInt64 * 1103515245) + 12345) / 2147483648 * 2147483648).toInt32)]) ?_ rfl rfl rfl
    refine r_idiv ok (by decide) dX0_draw_36 ?_
    refine r_iload_n ok dX0_draw_37 1 rfl rfl ?_
    refine r_irem ok nz dX0_draw_38 ?_
    exact r_iret ok dX0_draw_39 rfl ⟨congrArg (fun z => some (Value.int z)) (show (((((x.toInt64 * 1103515245) + 12345) - ((x.toInt64 * 1103515245) + 12345) / 2147483648 * 2147483648).toInt32) / (nI 65536)) - (((((x.toInt64 * 1103515245) + 12345) - ((x.toInt64 * 1103515245) + 12345) / 2147483648 * 2147483648).toInt32) / (nI 65536)) / below * below = zDrC x below from by first | exact (if_pos hz).symm | exact (if_neg hz).symm), (by rfl)⟩
  · skip
    have hz : ¬ nI 0 < below := c23_1
    refine r_iconst ok (nI 0) dX0_draw_26 (by rfl) ?_
    refine r_goto ok 39 dX0_draw_27 (by decide) ?_
    exact r_iret ok dX0_draw_39 rfl ⟨congrArg (fun z => some (Value.int z)) (show nI 0 = zDrC x below from by first | exact (if_pos hz).symm | exact (if_neg hz).symm), (by rfl)⟩
set_option maxHeartbeats 4000000 in
set_option maxRecDepth 100000 in
theorem c_X0_fullPriceOf (l : Launch) (G : zG) (M : zM) (N : Nat) (f : Nat → Int32) (x : Nat) (hx : M x = some (zI (G.2.1 0) 8 f)) : zC l G yX0_fullPriceOf cX0_fullPriceOf 3 (some .int) 1 20 0 0 [.ref x] (M) N (zP (some (.int (lsum (zFpT f) 8))) (M)) := by
  refine zC.of (by decide +kernel) (Nat.le_of_ble_eq_true rfl) ?_
  intro K hKl ok
  subst hKl
  show zW K G 3 _ 0 0 _ N 0 [(0, .ref x)] []
  refine r_iconst ok (nI 0) dX0_fullPriceOf_0 (by rfl) ?_
  refine r_istore_n ok [(1, .int (nI 0)), (0, .ref x)] dX0_fullPriceOf_1 rfl (by decide) rfl ?_
  refine r_iconst ok (nI 0) dX0_fullPriceOf_2 (by rfl) ?_
  refine r_istore_n ok [(2, .int (nI 0)), (1, .int (nI 0)), (0, .ref x)] dX0_fullPriceOf_3 rfl (by decide) rfl ?_
  have L1 : ∀ (nL1 : Nat) (k : Nat), ((k + nL1 = 8)) → zW K G 3 (zQ K G (N + 0) 0 0 (zP (some (.int (lsum (zFpT f) 8))) (M))) 0 0 (M) N 4 [(0, .ref x), (1, .int (lsum (zFpT f) k)), (2, .int (nI (k)))] [] := by
    intro nL1
    induction nL1 with
    | zero =>
      intro k hk_k 
      obtain rfl : 8 = k := by omega
      refine r_iload_n ok dX0_fullPriceOf_4 2 rfl rfl ?_
      refine r_aload_n ok dX0_fullPriceOf_5 0 rfl rfl ?_
      refine r_alen ok (nI 8) (t := 0) rfl dX0_fullPriceOf_6 hx (by rfl) ?_
      refine r_icmp_geN ok 27 (by omega) (by omega) dX0_fullPriceOf_7 (by decide) (fun _ => ?_) (fun c => absurd c (by decide))
      refine r_iload_n ok dX0_fullPriceOf_27 1 rfl rfl ?_
      exact r_iret ok dX0_fullPriceOf_28 rfl ⟨rfl, rfl⟩
    | succ nL1 ihL1 =>
      intro k hk_k 
      refine r_iload_n ok dX0_fullPriceOf_4 2 rfl rfl ?_
      refine r_aload_n ok dX0_fullPriceOf_5 0 rfl rfl ?_
      refine r_alen ok (nI 8) (t := 0) rfl dX0_fullPriceOf_6 hx (by rfl) ?_
      refine r_icmp_geN ok 27 (by omega) (by omega) dX0_fullPriceOf_7 (by decide) (fun c7_3 => ?_) (fun c7_3 => ?_)
      · skip
        exact absurd c7_3 (by omega)
      · skip
        refine r_iload_n ok dX0_fullPriceOf_10 1 rfl rfl ?_
        refine r_aload_n ok dX0_fullPriceOf_11 0 rfl rfl ?_
        refine r_iload_n ok dX0_fullPriceOf_12 2 rfl rfl ?_
        refine r_ialdN ok (by omega) (by omega) dX0_fullPriceOf_13 hx ?_
        refine r_iload_n ok dX0_fullPriceOf_14 2 rfl rfl ?_
        refine r_cSN1 ok [.int (f k), .int (lsum (zFpT f) k)] mi_X5_priceOf mn_X0_189 sm_X5_priceOf dX0_fullPriceOf_15 (c_X5_priceOf K.2.1 G (M) N  k ) rfl rfl ⟨Nat.le_of_ble_eq_true rfl, Nat.le_of_ble_eq_true rfl⟩ (Nat.le_of_ble_eq_true rfl) ⟨Nat.zero_le _, Nat.zero_le _⟩ ?_
        refine r_imul ok dX0_fullPriceOf_18 ?_
        refine r_iadd ok dX0_fullPriceOf_19 ?_
        refine r_istore_n ok [(1, .int ((lsum (zFpT f) k) + ((f k) * (nI (10 + 5 * k))))), (0, .ref x), (2, .int (nI (k)))] dX0_fullPriceOf_20 rfl (by decide) rfl ?_
        refine r_iincN ok (c := 1) [(2, .int (nI (k + 1))), (1, .int ((lsum (zFpT f) k) + ((f k) * (nI (10 + 5 * k))))), (0, .ref x)] dX0_fullPriceOf_21 2 rfl (by rfl) (by decide) rfl ?_
        refine r_goto ok 4 dX0_fullPriceOf_24 (by decide) ?_
        have q4 : Value.int ((lsum (zFpT f) k) + ((f k) * (nI (10 + 5 * k)))) = Value.int (lsum (zFpT f) (k + 1)) := by first | with_reducible rfl | (simp [lsum_s, zFpT])
        refine zW.forget (lv' := [(0, .ref x), (1, .int ((lsum (zFpT f) k) + ((f k) * (nI (10 + 5 * k))))), (2, .int (nI (k + 1)))]) ?_ [2, 1, 0] rfl
        refine zW.to (lv' := [(0, .ref x), (1, .int (lsum (zFpT f) (k + 1))), (2, .int (nI (k + 1)))]) ?_ rfl (congrArg (fun z => ([(0, .ref x), (1, z), (2, .int (nI (k + 1)))] : List (Nat × Value))) q4) rfl
        exact ihL1 (k + 1) (by omega)
  have q5 : Value.int (nI 0) = Value.int (lsum (zFpT f) 0) := by first | with_reducible rfl | (rfl)
  refine zW.forget (lv' := [(0, .ref x), (1, .int (nI 0)), (2, .int (nI 0))]) ?_ [2, 1, 0] rfl
  refine zW.to (lv' := [(0, .ref x), (1, .int (lsum (zFpT f) 0)), (2, .int (nI 0))]) ?_ rfl (congrArg (fun z => ([(0, .ref x), (1, z), (2, .int (nI 0))] : List (Nat × Value))) q5) rfl
  exact L1 8 0 (by omega)
set_option maxHeartbeats 4000000 in
set_option maxRecDepth 100000 in
theorem c_X0_payDuty (l : Launch) (G : zG) (M : zM) (N : Nat) (b : Nat) (st : Nat → Int32) (dy : Int32) (x : Int32) (br : Nat → Int32) (sp : Nat → Nat → Int32) (wa : Nat → Nat → Int32) (ac : Nat → Int32) (ps : Nat → Int32) (pp : Nat → Int32) (pu : Nat → Int32) (lo : Nat → Int32) (un : Int32) (op : Int32) (pi : Nat → Nat) (cn : Nat → Nat → Nat → Int32) (vl : Nat → Int32) (du : Nat → Int32) (io : Nat → Bool) (hp : Nat → Int32) (hs : Nat → Int32)  (j : Nat) (hj : j < 5) (hnn : 0 ≤ lsum (zC0 hp (zFpP cn j) 6) 6) : zC l G yX0_payDuty cX0_payDuty 3 (none) 2 49 0 0 [.ref b, .ref (b + 26 + 8 * j)] (cbM G M b st dy x br sp wa ac ps pp pu lo un op pi cn vl du io hp hs) N (zP none (cbM G M b st dy x br sp wa (zC0 ac (zSubF ac (zGets (zDutyC st (vl j)) (zC0 hp (zFpP cn j) 6) hs)) 6) ps pp (zC0 pu (zAdd pu (zGets (zDutyC st (vl j)) (zC0 hp (zFpP cn j) 6) hs)) 6) lo un op pi cn vl du io (zC0 hp (zFpP cn j) 6) (zGets (zDutyC st (vl j)) (zC0 hp (zFpP cn j) 6) hs))) := by
  refine zC.of (by decide +kernel) (Nat.le_of_ble_eq_true rfl) ?_
  intro K hKl ok
  subst hKl
  show zW K G 3 _ 0 0 _ N 0 [(0, .ref b), (1, .ref (b + 26 + 8 * j))] []
  refine r_iconst ok (nI 0) dX0_payDuty_0 (by rfl) ?_
  refine r_istore_n ok [(2, .int (nI 0)), (0, .ref b), (1, .ref (b + 26 + 8 * j))] dX0_payDuty_1 rfl (by decide) rfl ?_
  have L1 : ∀ (nL1 : Nat) (k : Nat), ((k + nL1 = 6)) → zW K G 3 (zQ K G (N + 0) 0 0 (zP none (cbM G M b st dy x br sp wa (zC0 ac (zSubF ac (zGets (zDutyC st (vl j)) (zC0 hp (zFpP cn j) 6) hs)) 6) ps pp (zC0 pu (zAdd pu (zGets (zDutyC st (vl j)) (zC0 hp (zFpP cn j) 6) hs)) 6) lo un op pi cn vl du io (zC0 hp (zFpP cn j) 6) (zGets (zDutyC st (vl j)) (zC0 hp (zFpP cn j) 6) hs)))) 0 0 (cbM G M b st dy x br sp wa ac ps pp pu lo un op pi cn vl du io (zC0 hp (zFpP cn j) k) hs) N 2 [(0, .ref b), (1, .ref (b + 26 + 8 * j)), (2, .int (nI (k)))] [] := by
    intro nL1
    induction nL1 with
    | zero =>
      intro k hk_k 
      obtain rfl : 6 = k := by omega
      refine r_iload_n ok dX0_payDuty_2 2 rfl rfl ?_
      refine r_bipush ok (nI 6) dX0_payDuty_3 (by rfl) ?_
      refine r_icmp_geN ok 32 (by omega) (by omega) dX0_payDuty_5 (by decide) (fun _ => ?_) (fun c => absurd c (by decide))
      refine r_aload_n ok dX0_payDuty_32 0 rfl rfl ?_
      refine r_getf ok ci_X0 fl_X0_62 (by decide) dX0_payDuty_33 cb_o rfl ?_
      refine r_aload_n ok dX0_payDuty_36 1 rfl rfl ?_
      refine r_getf ok ci_X3 fl_X0_123 (by decide) dX0_payDuty_37 (cb_pc (by omega)) rfl ?_
      refine r_aload_n ok dX0_payDuty_40 0 rfl rfl ?_
      refine r_getf ok ci_X0 fl_X0_18 (by decide) dX0_payDuty_41 cb_o rfl ?_
      refine r_cSN1 ok [.ref (b + 23)] mi_X5_dutyOn mn_X0_181 sm_X5_dutyOn dX0_payDuty_44 (c_X5_dutyOn K.2.1 G (cbM G M b st dy x br sp wa ac ps pp pu lo un op pi cn vl du io (zC0 hp (zFpP cn j) 6) hs) N st (vl j) ((b + 1)) cb_st) rfl rfl ⟨Nat.le_of_ble_eq_true rfl, Nat.le_of_ble_eq_true rfl⟩ (Nat.le_of_ble_eq_true rfl) ⟨Nat.zero_le _, Nat.zero_le _⟩ ?_
      refine zW.to (M' := shM G (cbM G M b st dy x br sp wa ac ps pp pu lo un op pi cn vl du io (zC0 hp (zFpP cn j) 6) hs) (b + 23) (zC0 hp (zFpP cn j) 6) hs) ?_ (cb_sh (zC0 hp (zFpP cn j) 6) hs).symm rfl rfl
      refine r_cV0 ok [] mi_X4_divide ci_X4 ml_X0_185 im_X4_divide se_X4_divide dX0_payDuty_47 (c_X4_divide K.2.1 G (cbM G M b st dy x br sp wa ac ps pp pu lo un op pi cn vl du io (zC0 hp (zFpP cn j) 6) hs) N (b + 23) (zC0 hp (zFpP cn j) 6) hs  (zDutyC st (vl j)) (by omega)) sh_o rfl rfl ⟨Nat.le_of_ble_eq_true rfl, Nat.le_of_ble_eq_true rfl⟩ (Nat.le_of_ble_eq_true rfl) ⟨Nat.zero_le _, Nat.zero_le _⟩ ?_
      refine zW.to (M' := cbM G M b st dy x br sp wa ac ps pp pu lo un op pi cn vl du io (zC0 hp (zFpP cn j) 6) (zGets (zDutyC st (vl j)) (zC0 hp (zFpP cn j) 6) hs)) ?_ (cb_sh (zC0 hp (zFpP cn j) 6) (zGets (zDutyC st (vl j)) (zC0 hp (zFpP cn j) 6) hs)) rfl rfl
      refine r_iconst ok (nI 0) dX0_payDuty_50 (by rfl) ?_
      refine r_istore_n ok [(2, .int (nI 0)), (0, .ref b), (1, .ref (b + 26 + 8 * j))] dX0_payDuty_51 rfl (by decide) rfl ?_
      have L3 : ∀ (nL3 : Nat) (k : Nat), ((k + nL3 = 6)) → zW K G 3 (zQ K G (N + 0) 0 0 (zP none (cbM G M b st dy x br sp wa (zC0 ac (zSubF ac (zGets (zDutyC st (vl j)) (zC0 hp (zFpP cn j) 6) hs)) 6) ps pp (zC0 pu (zAdd pu (zGets (zDutyC st (vl j)) (zC0 hp (zFpP cn j) 6) hs)) 6) lo un op pi cn vl du io (zC0 hp (zFpP cn j) 6) (zGets (zDutyC st (vl j)) (zC0 hp (zFpP cn j) 6) hs)))) 0 0 (cbM G M b st dy x br sp wa (zC0 ac (zSubF ac (zGets (zDutyC st (vl j)) (zC0 hp (zFpP cn j) 6) hs)) k) ps pp (zC0 pu (zAdd pu (zGets (zDutyC st (vl j)) (zC0 hp (zFpP cn j) 6) hs)) k) lo un op pi cn vl du io (zC0 hp (zFpP cn j) 6) (zGets (zDutyC st (vl j)) (zC0 hp (zFpP cn j) 6) hs)) N 52 [(0, .ref b), (1, .ref (b + 26 + 8 * j)), (2, .int (nI (k)))] [] := by
        intro nL3
        induction nL3 with
        | zero =>
          intro k hk_k 
          obtain rfl : 6 = k := by omega
          refine r_iload_n ok dX0_payDuty_52 2 rfl rfl ?_
          refine r_bipush ok (nI 6) dX0_payDuty_53 (by rfl) ?_
          refine r_icmp_geN ok 100 (by omega) (by omega) dX0_payDuty_55 (by decide) (fun _ => ?_) (fun c => absurd c (by decide))
          exact r_vret ok dX0_payDuty_100 rfl ⟨rfl, rfl⟩
        | succ nL3 ihL3 =>
          intro k hk_k 
          refine r_iload_n ok dX0_payDuty_52 2 rfl rfl ?_
          refine r_bipush ok (nI 6) dX0_payDuty_53 (by rfl) ?_
          refine r_icmp_geN ok 100 (by omega) (by omega) dX0_payDuty_55 (by decide) (fun c55_5 => ?_) (fun c55_5 => ?_)
          · skip
            exact absurd c55_5 (by omega)
          · skip
            refine r_aload_n ok dX0_payDuty_58 0 rfl rfl ?_
            refine r_getf ok ci_X0 fl_X0_38 (by decide) dX0_payDuty_59 cb_o rfl ?_
            refine r_iload_n ok dX0_payDuty_62 2 rfl rfl ?_
            refine r_dup2 ok dX0_payDuty_63 rfl rfl ?_
            refine r_ialdN ok (by omega) (by omega) dX0_payDuty_64 cb_ac ?_
            refine r_aload_n ok dX0_payDuty_65 0 rfl rfl ?_
            refine r_getf ok ci_X0 fl_X0_62 (by decide) dX0_payDuty_66 cb_o rfl ?_
            refine r_getf ok ci_X4 fl_X0_149 (by decide) dX0_payDuty_69 cb_h rfl ?_
            refine r_iload_n ok dX0_payDuty_72 2 rfl rfl ?_
            refine r_ialdN ok (by omega) (by omega) dX0_payDuty_73 cb_hs ?_
            refine r_isub ok dX0_payDuty_74 ?_
            refine r_iastN ok (by omega) (by omega) dX0_payDuty_75 cb_ac (cbw_ac _) ?_
            refine r_aload_n ok dX0_payDuty_76 0 rfl rfl ?_
            refine r_getf ok ci_X0 fl_X0_47 (by decide) dX0_payDuty_77 cb_o rfl ?_
            refine r_iload_n ok dX0_payDuty_80 2 rfl rfl ?_
            refine r_dup2 ok dX0_payDuty_81 rfl rfl ?_
            refine r_ialdN ok (by omega) (by omega) dX0_payDuty_82 cb_pu ?_
            refine r_aload_n ok dX0_payDuty_83 0 rfl rfl ?_
            refine r_getf ok ci_X0 fl_X0_62 (by decide) dX0_payDuty_84 cb_o rfl ?_
            refine r_getf ok ci_X4 fl_X0_149 (by decide) dX0_payDuty_87 cb_h rfl ?_
            refine r_iload_n ok dX0_payDuty_90 2 rfl rfl ?_
            refine r_ialdN ok (by omega) (by omega) dX0_payDuty_91 cb_hs ?_
            refine r_iadd ok dX0_payDuty_92 ?_
            refine r_iastN ok (by omega) (by omega) dX0_payDuty_93 cb_pu (cbw_pu _) ?_
            refine r_iincN ok (c := 1) [(2, .int (nI (k + 1))), (0, .ref b), (1, .ref (b + 26 + 8 * j))] dX0_payDuty_94 2 rfl (by rfl) (by decide) rfl ?_
            refine r_goto ok 52 dX0_payDuty_97 (by decide) ?_
            have q6 : (upd (zC0 ac (zSubF ac (zGets (zDutyC st (vl j)) (zC0 hp (zFpP cn j) 6) hs)) k) k (((zC0 ac (zSubF ac (zGets (zDutyC st (vl j)) (zC0 hp (zFpP cn j) 6) hs)) k) k) - ((zGets (zDutyC st (vl j)) (zC0 hp (zFpP cn j) 6) hs) k)) : Nat → Int32) = zC0 ac (zSubF ac (zGets (zDutyC st (vl j)) (zC0 hp (zFpP cn j) 6) hs)) (k + 1) := by first | with_reducible rfl | (first | exact zC0_addF _ _ _ | exact zC0_subF _ _ _)
            have q7 : (upd (zC0 pu (zAdd pu (zGets (zDutyC st (vl j)) (zC0 hp (zFpP cn j) 6) hs)) k) k (((zC0 pu (zAdd pu (zGets (zDutyC st (vl j)) (zC0 hp (zFpP cn j) 6) hs)) k) k) + ((zGets (zDutyC st (vl j)) (zC0 hp (zFpP cn j) 6) hs) k)) : Nat → Int32) = zC0 pu (zAdd pu (zGets (zDutyC st (vl j)) (zC0 hp (zFpP cn j) 6) hs)) (k + 1) := by first | with_reducible rfl | (first | exact zC0_addF _ _ _ | exact zC0_subF _ _ _)
            refine zW.forget (lv' := [(0, .ref b), (1, .ref (b + 26 + 8 * j)), (2, .int (nI (k + 1)))]) ?_ [1, 2, 0] rfl
            refine zW.to ?_ (congrArg (fun z => cbM G M b st dy x br sp wa z ps pp (upd (zC0 pu (zAdd pu (zGets (zDutyC st (vl j)) (zC0 hp (zFpP cn j) 6) hs)) k) k (((zC0 pu (zAdd pu (zGets (zDutyC st (vl j)) (zC0 hp (zFpP cn j) 6) hs)) k) k) + ((zGets (zDutyC st (vl j)) (zC0 hp (zFpP cn j) 6) hs) k))) lo un op pi cn vl du io (zC0 hp (zFpP cn j) 6) (zGets (zDutyC st (vl j)) (zC0 hp (zFpP cn j) 6) hs)) q6) rfl rfl
            refine zW.to ?_ (congrArg (fun z => cbM G M b st dy x br sp wa (zC0 ac (zSubF ac (zGets (zDutyC st (vl j)) (zC0 hp (zFpP cn j) 6) hs)) (k + 1)) ps pp z lo un op pi cn vl du io (zC0 hp (zFpP cn j) 6) (zGets (zDutyC st (vl j)) (zC0 hp (zFpP cn j) 6) hs)) q7) rfl rfl
            exact ihL3 (k + 1) (by omega)
      have q8 : (ac : Nat → Int32) = zC0 ac (zSubF ac (zGets (zDutyC st (vl j)) (zC0 hp (zFpP cn j) 6) hs)) 0 := by first | with_reducible rfl | (exact (zC0_0 _ _).symm)
      have q9 : (pu : Nat → Int32) = zC0 pu (zAdd pu (zGets (zDutyC st (vl j)) (zC0 hp (zFpP cn j) 6) hs)) 0 := by first | with_reducible rfl | (exact (zC0_0 _ _).symm)
      refine zW.forget (lv' := [(0, .ref b), (1, .ref (b + 26 + 8 * j)), (2, .int (nI 0))]) ?_ [1, 2, 0] rfl
      refine zW.to ?_ (congrArg (fun z => cbM G M b st dy x br sp wa z ps pp pu lo un op pi cn vl du io (zC0 hp (zFpP cn j) 6) (zGets (zDutyC st (vl j)) (zC0 hp (zFpP cn j) 6) hs)) q8) rfl rfl
      refine zW.to ?_ (congrArg (fun z => cbM G M b st dy x br sp wa (zC0 ac (zSubF ac (zGets (zDutyC st (vl j)) (zC0 hp (zFpP cn j) 6) hs)) 0) ps pp z lo un op pi cn vl du io (zC0 hp (zFpP cn j) 6) (zGets (zDutyC st (vl j)) (zC0 hp (zFpP cn j) 6) hs)) q9) rfl rfl
      exact L3 6 0 (by omega)
    | succ nL1 ihL1 =>
      intro k hk_k 
      refine r_iload_n ok dX0_payDuty_2 2 rfl rfl ?_
      refine r_bipush ok (nI 6) dX0_payDuty_3 (by rfl) ?_
      refine r_icmp_geN ok 32 (by omega) (by omega) dX0_payDuty_5 (by decide) (fun c5_10 => ?_) (fun c5_10 => ?_)
      · skip
        exact absurd c5_10 (by omega)
      · skip
        refine r_aload_n ok dX0_payDuty_8 0 rfl rfl ?_
        refine r_getf ok ci_X0 fl_X0_62 (by decide) dX0_payDuty_9 cb_o rfl ?_
        refine r_getf ok ci_X4 fl_X0_175 (by decide) dX0_payDuty_12 cb_h rfl ?_
        refine r_iload_n ok dX0_payDuty_15 2 rfl rfl ?_
        refine r_aload_n ok dX0_payDuty_16 1 rfl rfl ?_
        refine r_getf ok ci_X3 fl_X0_94 (by decide) dX0_payDuty_17 (cb_pc (by omega)) rfl ?_
        refine r_iload_n ok dX0_payDuty_20 2 rfl rfl ?_
        refine r_aaldN ok 3 (Or.inl rfl) (b + 26 + 8 * j + 2 + k) (by omega) (by omega) dX0_payDuty_21 (cb_pcc (by omega)) (zRef6_at (by omega)) ?_
        refine r_cS1 ok [.int (nI (k)), .ref (b + 24)] mi_X0_fullPriceOf ml_X0_178 sm_X0_fullPriceOf dX0_payDuty_22 (c_X0_fullPriceOf K.2.1 G (cbM G M b st dy x br sp wa ac ps pp pu lo un op pi cn vl du io (zC0 hp (zFpP cn j) k) hs) N (cn j k) ((b + 26 + 8 * j + 2 + k)) (cb_pcr (by omega) (by omega))) rfl rfl ⟨Nat.le_of_ble_eq_true rfl, Nat.le_of_ble_eq_true rfl⟩ (Nat.le_of_ble_eq_true rfl) ⟨Nat.zero_le _, Nat.zero_le _⟩ ?_
        refine r_iastN ok (by omega) (by omega) dX0_payDuty_25 cb_hp (cbw_hp _) ?_
        refine r_iincN ok (c := 1) [(2, .int (nI (k + 1))), (0, .ref b), (1, .ref (b + 26 + 8 * j))] dX0_payDuty_26 2 rfl (by rfl) (by decide) rfl ?_
        refine r_goto ok 2 dX0_payDuty_29 (by decide) ?_
        have q11 : (upd (zC0 hp (zFpP cn j) k) k (lsum (zFpT (cn j k)) 8) : Nat → Int32) = zC0 hp (zFpP cn j) (k + 1) := by first | with_reducible rfl | (exact zC0_s _ _ _)
        refine zW.forget (lv' := [(0, .ref b), (1, .ref (b + 26 + 8 * j)), (2, .int (nI (k + 1)))]) ?_ [1, 2, 0] rfl
        refine zW.to ?_ (congrArg (fun z => cbM G M b st dy x br sp wa ac ps pp pu lo un op pi cn vl du io z hs) q11) rfl rfl
        exact ihL1 (k + 1) (by omega)
  have q12 : (hp : Nat → Int32) = zC0 hp (zFpP cn j) 0 := by first | with_reducible rfl | (exact (zC0_0 _ _).symm)
  refine zW.forget (lv' := [(0, .ref b), (1, .ref (b + 26 + 8 * j)), (2, .int (nI 0))]) ?_ [1, 2, 0] rfl
  refine zW.to ?_ (congrArg (fun z => cbM G M b st dy x br sp wa ac ps pp pu lo un op pi cn vl du io z hs) q12) rfl rfl
  exact L1 6 0 (by omega)
set_option maxHeartbeats 4000000 in
set_option maxRecDepth 100000 in
theorem c_X3_loseString (l : Launch) (G : zG) (M : zM) (N : Nat) (h : Nat) (cn : Nat → Nat → Int32) (vl : Int32) (du : Int32) (io : Bool)  (pl : Int32) (h48 : zAtP cn pl < 48) : zC l G yX3_loseString cX3_loseString 5 (some .int) 0 0 0 0 [.ref h, .int (pl)] (pcM G M h cn vl du io) N (zP (some (.int (nI (zAtP cn pl / 8)))) (pcM G M h (zLosC cn pl) vl du io)) := by
  refine zC.of (by decide +kernel) (Nat.le_of_ble_eq_true rfl) ?_
  intro K hKl ok
  subst hKl
  show zW K G 5 _ 0 0 _ N 0 [(0, .ref h), (1, .int (pl))] []
  refine r_iload_n ok dX3_loseString_0 1 rfl rfl ?_
  refine r_istore_n ok [(2, .int (pl)), (0, .ref h), (1, .int (pl))] dX3_loseString_1 rfl (by decide) rfl ?_
  refine r_iconst ok (nI 0) dX3_loseString_2 (by rfl) ?_
  refine r_istore_n ok [(3, .int (nI 0)), (2, .int (pl)), (0, .ref h), (1, .int (pl))] dX3_loseString_3 rfl (by decide) rfl ?_
  have L1 : ∀ (nL1 : Nat) (m : Nat), ((m + nL1 = 6)) → (8 * m ≤ zAtP cn pl) → zW K G 5 (zQ K G (N + 0) 0 0 (zP (some (.int (nI (zAtP cn pl / 8)))) (pcM G M h (zLosC cn pl) vl du io))) 0 0 (pcM G M h cn vl du io) N 4 [(0, .ref h), (1, .int (pl)), (2, .int (zLsC (zFl cn) pl (8 * m))), (3, .int (nI (m)))] [] := by
    intro nL1
    induction nL1 with
    | zero =>
      intro m hk_m hle
      exact absurd hle (by omega)
    | succ nL1 ihL1 =>
      intro m hk_m hle
      refine r_iload_n ok dX3_loseString_4 3 rfl rfl ?_
      refine r_bipush ok (nI 6) dX3_loseString_5 (by rfl) ?_
      refine r_icmp_geN ok 72 (by omega) (by omega) dX3_loseString_7 (by decide) (fun c7_2 => ?_) (fun c7_2 => ?_)
      · skip
        exact absurd c7_2 (by omega)
      · skip
        refine r_iconst ok (nI 0) dX3_loseString_10 (by rfl) ?_
        refine r_istore ok [(4, .int (nI 0)), (0, .ref h), (1, .int (pl)), (2, .int (zLsC (zFl cn) pl (8 * m))), (3, .int (nI (m)))] dX3_loseString_11 (by decide) rfl ?_
        have L3 : ∀ (nL3 : Nat) (g : Nat), ((g + nL3 = 8)) → (8 * m + g ≤ zAtP cn pl) → zW K G 5 (zQ K G (N + 0) 0 0 (zP (some (.int (nI (zAtP cn pl / 8)))) (pcM G M h (zLosC cn pl) vl du io))) 0 0 (pcM G M h cn vl du io) N 13 [(0, .ref h), (1, .int (pl)), (2, .int (zLsC (zFl cn) pl (8 * m + g))), (3, .int (nI (m))), (4, .int (nI (g)))] [] := by
          intro nL3
          induction nL3 with
          | zero =>
            intro g hk_g hle2
            obtain rfl : 8 = g := by omega
            refine r_iload ok dX3_loseString_13 4 rfl ?_
            refine r_bipush ok (nI 8) dX3_loseString_15 (by rfl) ?_
            refine r_icmp_geN ok 66 (by omega) (by omega) dX3_loseString_17 (by decide) (fun _ => ?_) (fun c => absurd c (by decide))
            refine r_iincN ok (c := 1) [(3, .int (nI (m + 1))), (0, .ref h), (1, .int (pl)), (2, .int (zLsC (zFl cn) pl (8 * m + 8))), (4, .int (nI (8)))] dX3_loseString_66 3 rfl (by rfl) (by decide) rfl ?_
            refine r_goto ok 4 dX3_loseString_69 (by decide) ?_
            have q5 : Value.int (zLsC (zFl cn) pl (8 * m + 8)) = Value.int (zLsC (zFl cn) pl (8 * (m + 1))) := by first | with_reducible rfl | (rfl)
            refine zW.forget (lv' := [(0, .ref h), (1, .int (pl)), (2, .int (zLsC (zFl cn) pl (8 * m + 8))), (3, .int (nI (m + 1)))]) ?_ [1, 2, 3, 0] rfl
            refine zW.to (lv' := [(0, .ref h), (1, .int (pl)), (2, .int (zLsC (zFl cn) pl (8 * (m + 1)))), (3, .int (nI (m + 1)))]) ?_ rfl (congrArg (fun z => ([(0, .ref h), (1, .int (pl)), (2, z), (3, .int (nI (m + 1)))] : List (Nat × Value))) q5) rfl
            exact ihL1 (m + 1) (by omega) (by omega)
          | succ nL3 ihL3 =>
            intro g hk_g hle2
            refine r_iload ok dX3_loseString_13 4 rfl ?_
            refine r_bipush ok (nI 8) dX3_loseString_15 (by rfl) ?_
            refine r_icmp_geN ok 66 (by omega) (by omega) dX3_loseString_17 (by decide) (fun c17_6 => ?_) (fun c17_6 => ?_)
            · skip
              exact absurd c17_6 (by omega)
            · skip
              refine r_iload_n ok dX3_loseString_20 2 rfl rfl ?_
              refine r_aload_n ok dX3_loseString_21 0 rfl rfl ?_
              refine r_getf ok ci_X3 fl_X3_11 (by decide) dX3_loseString_22 pc_o rfl ?_
              refine r_iload_n ok dX3_loseString_25 3 rfl rfl ?_
              refine r_aaldN ok 3 (Or.inl rfl) (h + 2 + m) (by omega) (by omega) dX3_loseString_26 pc_c (zRef6_at (by omega)) ?_
              refine r_iload ok dX3_loseString_27 4 rfl ?_
              refine r_ialdN ok (by omega) (by omega) dX3_loseString_29 (pc_r (by omega)) ?_
              refine r_icmp_ge ok 48 dX3_loseString_30 (by decide) (fun c30_7 => ?_) (fun c30_7 => ?_)
              · skip
                have hne := zAtP_no (by omega) h48 (Int32.not_lt.mpr c30_7)
                refine r_iload_n ok dX3_loseString_48 2 rfl rfl ?_
                refine r_aload_n ok dX3_loseString_49 0 rfl rfl ?_
                refine r_getf ok ci_X3 fl_X3_11 (by decide) dX3_loseString_50 pc_o rfl ?_
                refine r_iload_n ok dX3_loseString_53 3 rfl rfl ?_
                refine r_aaldN ok 3 (Or.inl rfl) (h + 2 + m) (by omega) (by omega) dX3_loseString_54 pc_c (zRef6_at (by omega)) ?_
                refine r_iload ok dX3_loseString_55 4 rfl ?_
                refine r_ialdN ok (by omega) (by omega) dX3_loseString_57 (pc_r (by omega)) ?_
                refine r_isub ok dX3_loseString_58 ?_
                refine r_istore_n ok [(2, .int ((zLsC (zFl cn) pl (8 * m + g)) - ((cn m) g))), (0, .ref h), (1, .int (pl)), (3, .int (nI (m))), (4, .int (nI (g)))] dX3_loseString_59 rfl (by decide) rfl ?_
                refine r_iincN ok (c := 1) [(4, .int (nI (g + 1))), (2, .int ((zLsC (zFl cn) pl (8 * m + g)) - ((cn m) g))), (0, .ref h), (1, .int (pl)), (3, .int (nI (m)))] dX3_loseString_60 4 rfl (by rfl) (by decide) rfl ?_
                refine r_goto ok 13 dX3_loseString_63 (by decide) ?_
                have q8 : Value.int ((zLsC (zFl cn) pl (8 * m + g)) - ((cn m) g)) = Value.int (zLsC (zFl cn) pl (8 * m + (g + 1))) := by first | with_reducible rfl | (first | rfl | exact congrArg Value.int (zLsP_s cn pl m (by omega)))
                refine zW.forget (lv' := [(0, .ref h), (1, .int (pl)), (2, .int ((zLsC (zFl cn) pl (8 * m + g)) - ((cn m) g))), (3, .int (nI (m))), (4, .int (nI (g + 1)))]) ?_ [2, 3, 1, 4, 0] rfl
                refine zW.to (lv' := [(0, .ref h), (1, .int (pl)), (2, .int (zLsC (zFl cn) pl (8 * m + (g + 1)))), (3, .int (nI (m))), (4, .int (nI (g + 1)))]) ?_ rfl (congrArg (fun z => ([(0, .ref h), (1, .int (pl)), (2, z), (3, .int (nI (m))), (4, .int (nI (g + 1)))] : List (Nat × Value))) q8) rfl
                exact ihL3 (g + 1) (by omega) (by omega)
              · skip
                have he := zAtP_is (by omega) hle2 (Int32.not_le.mp c30_7)
                refine r_aload_n ok dX3_loseString_33 0 rfl rfl ?_
                refine r_getf ok ci_X3 fl_X3_11 (by decide) dX3_loseString_34 pc_o rfl ?_
                refine r_iload_n ok dX3_loseString_37 3 rfl rfl ?_
                refine r_aaldN ok 3 (Or.inl rfl) (h + 2 + m) (by omega) (by omega) dX3_loseString_38 pc_c (zRef6_at (by omega)) ?_
                refine r_iload ok dX3_loseString_39 4 rfl ?_
                refine r_dup2 ok dX3_loseString_41 rfl rfl ?_
                refine r_ialdN ok (by omega) (by omega) dX3_loseString_42 (pc_r (by omega)) ?_
                refine r_iconst ok (nI 1) dX3_loseString_43 (by rfl) ?_
                refine r_isub ok dX3_loseString_44 ?_
                refine r_iastN ok (by omega) (by omega) dX3_loseString_45 (pc_r (by omega)) (pcw_r (by omega) _) ?_
                refine r_iload_n ok dX3_loseString_46 3 rfl rfl ?_
                exact r_iret ok dX3_loseString_47 rfl ⟨congrArg (fun z => some (Value.int z)) (show nI (m) = nI (zAtP cn pl / 8) from by rw [he]; exact congrArg nI (by omega)), (by rw [zLosC_at (by omega) he])⟩
        have q9 : Value.int (zLsC (zFl cn) pl (8 * m)) = Value.int (zLsC (zFl cn) pl (8 * m + 0)) := by first | with_reducible rfl | (rfl)
        refine zW.forget (lv' := [(0, .ref h), (1, .int (pl)), (2, .int (zLsC (zFl cn) pl (8 * m))), (3, .int (nI (m))), (4, .int (nI 0))]) ?_ [1, 2, 3, 4, 0] rfl
        refine zW.to (lv' := [(0, .ref h), (1, .int (pl)), (2, .int (zLsC (zFl cn) pl (8 * m + 0))), (3, .int (nI (m))), (4, .int (nI 0))]) ?_ rfl (congrArg (fun z => ([(0, .ref h), (1, .int (pl)), (2, z), (3, .int (nI (m))), (4, .int (nI 0))] : List (Nat × Value))) q9) rfl
        exact L3 8 0 (by omega) (by omega)
  have q10 : Value.int (pl) = Value.int (zLsC (zFl cn) pl (8 * 0)) := by first | with_reducible rfl | (rfl)
  refine zW.forget (lv' := [(0, .ref h), (1, .int (pl)), (2, .int (pl)), (3, .int (nI 0))]) ?_ [2, 3, 1, 0] rfl
  refine zW.to (lv' := [(0, .ref h), (1, .int (pl)), (2, .int (zLsC (zFl cn) pl (8 * 0))), (3, .int (nI 0))]) ?_ rfl (congrArg (fun z => ([(0, .ref h), (1, .int (pl)), (2, z), (3, .int (nI 0))] : List (Nat × Value))) q10) rfl
  exact L1 6 0 (by omega) (by omega)
set_option maxHeartbeats 4000000 in
set_option maxRecDepth 100000 in
theorem c_X0_openAtCustoms (l : Launch) (G : zG) (M : zM) (N : Nat) (b : Nat) (st : Nat → Int32) (dy : Int32) (x : Int32) (br : Nat → Int32) (sp : Nat → Nat → Int32) (wa : Nat → Nat → Int32) (ac : Nat → Int32) (ps : Nat → Int32) (pp : Nat → Int32) (pu : Nat → Int32) (lo : Nat → Int32) (un : Int32) (op : Int32) (pi : Nat → Nat) (cn : Nat → Nat → Nat → Int32) (vl : Nat → Int32) (du : Nat → Int32) (io : Nat → Bool) (hp : Nat → Int32) (hs : Nat → Int32) (unn : Nat) (j : Nat) (hj : j < 5) (hok : zOaOk (zCl.mk st dy x br sp wa ac ps pp pu lo unn op pi cn vl du io hp hs) j) : zC l G yX0_openAtCustoms cX0_openAtCustoms 3 (none) 3 71 0 0 [.ref b, .ref (b + 26 + 8 * j)] (cbM G M b st dy x br sp wa ac ps pp pu lo (nI unn) op pi cn vl du io hp hs) N (zP none (cbM G M b st dy ((zOa (zCl.mk st dy x br sp wa ac ps pp pu lo unn op pi cn vl du io hp hs) j).x) br sp wa ((zOa (zCl.mk st dy x br sp wa ac ps pp pu lo unn op pi cn vl du io hp hs) j).ac) ps pp ((zOa (zCl.mk st dy x br sp wa ac ps pp pu lo unn op pi cn vl du io hp hs) j).pu) ((zOa (zCl.mk st dy x br sp wa ac ps pp pu lo unn op pi cn vl du io hp hs) j).lo) (nI unn) ((zOa (zCl.mk st dy x br sp wa ac ps pp pu lo unn op pi cn vl du io hp hs) j).op) pi ((zOa (zCl.mk st dy x br sp wa ac ps pp pu lo unn op pi cn vl du io hp hs) j).cn) vl ((zOa (zCl.mk st dy x br sp wa ac ps pp pu lo unn op pi cn vl du io hp hs) j).du) ((zOa (zCl.mk st dy x br sp wa ac ps pp pu lo unn op pi cn vl du io hp hs) j).io) ((zOa (zCl.mk st dy x br sp wa ac ps pp pu lo unn op pi cn vl du io hp hs) j).hp) ((zOa (zCl.mk st dy x br sp wa ac ps pp pu lo unn op pi cn vl du io hp hs) j).hs))) := by
  refine zC.of (by decide +kernel) (Nat.le_of_ble_eq_true rfl) ?_
  intro K hKl ok
  subst hKl
  have h48 := hok.2
  change zAtP (cn j) (zDrC (zNx x) (zPie (cn j))) < 48 at h48
  show zW K G 3 _ 0 0 _ N 0 [(0, .ref b), (1, .ref (b + 26 + 8 * j))] []
  refine r_aload_n ok dX0_openAtCustoms_0 0 rfl rfl ?_
  refine r_dup ok dX0_openAtCustoms_1 rfl ?_
  refine r_getf ok ci_X0 fl_X0_81 (by decide) dX0_openAtCustoms_2 cb_o rfl ?_
  refine r_iconst ok (nI 1) dX0_openAtCustoms_5 (by rfl) ?_
  refine r_iadd ok dX0_openAtCustoms_6 ?_
  refine r_putf ok ci_X0 fl_X0_81 (by decide) rfl rfl rfl dX0_openAtCustoms_7 cb_o rfl (cbw_o dy x (nI unn) (op + (nI 1))) ?_
  refine r_aload_n ok dX0_openAtCustoms_10 1 rfl rfl ?_
  refine r_iconst ok (nI 1) dX0_openAtCustoms_11 (by rfl) ?_
  refine zW.to (st' := [.int (zb true), .ref (b + 26 + 8 * j)]) ?_ rfl rfl rfl
  refine r_putf ok ci_X3 fl_X0_127 (by decide) rfl (zb_n _) (zb_fit _) dX0_openAtCustoms_12 (cb_pc (by omega)) rfl (cbw_pcI (by omega) _) ?_
  refine r_aload_n ok dX0_openAtCustoms_15 1 rfl rfl ?_
  refine r_aload_n ok dX0_openAtCustoms_16 0 rfl rfl ?_
  refine r_getf ok ci_X0 fl_X0_71 (by decide) dX0_openAtCustoms_17 cb_o rfl ?_
  refine r_aload_n ok dX0_openAtCustoms_20 0 rfl rfl ?_
  refine r_getf ok ci_X0 fl_X0_18 (by decide) dX0_openAtCustoms_21 cb_o rfl ?_
  refine r_iconst ok (nI 4) dX0_openAtCustoms_24 (by rfl) ?_
  refine r_ialdN ok (by omega) (by omega) dX0_openAtCustoms_25 cb_st ?_
  refine r_iadd ok dX0_openAtCustoms_26 ?_
  refine r_putf ok ci_X3 fl_X0_124 (by decide) rfl rfl rfl dX0_openAtCustoms_27 (cb_pc (by omega)) rfl (cbw_pcD (by omega) _) ?_
  refine r_aload_n ok dX0_openAtCustoms_30 0 rfl rfl ?_
  refine r_aload_n ok dX0_openAtCustoms_31 1 rfl rfl ?_
  refine r_cV0 ok [] mi_X0_payDuty ci_X0 ml_X0_165 im_X0_payDuty se_X0_payDuty dX0_openAtCustoms_32 (c_X0_payDuty K.2.1 G M N b st dy x br sp wa ac ps pp pu lo (nI unn) (op + (nI 1)) pi cn vl (va_up du j (dy + (st 4))) (va_up io j true) hp hs  j (by omega) hok.1) cb_o rfl rfl ⟨Nat.le_of_ble_eq_true rfl, Nat.le_of_ble_eq_true rfl⟩ (Nat.le_of_ble_eq_true rfl) ⟨Nat.zero_le _, Nat.zero_le _⟩ ?_
  refine r_aload_n ok dX0_openAtCustoms_35 0 rfl rfl ?_
  refine r_bipush ok (nI 100) dX0_openAtCustoms_36 (by rfl) ?_
  refine r_cV1 ok [] mi_X0_draw ci_X0 ml_X0_159 im_X0_draw se_X0_draw dX0_openAtCustoms_38 (c_X0_draw K.2.1 G M N b st dy x br sp wa (zC0 ac (zSubF ac (zGets (zDutyC st (vl j)) (zC0 hp (zFpP cn j) 6) hs)) 6) ps pp (zC0 pu (zAdd pu (zGets (zDutyC st (vl j)) (zC0 hp (zFpP cn j) 6) hs)) 6) lo (nI unn) (op + (nI 1)) pi cn vl (va_up du j (dy + (st 4))) (va_up io j true) (zC0 hp (zFpP cn j) 6) (zGets (zDutyC st (vl j)) (zC0 hp (zFpP cn j) 6) hs)  (nI 100) ) cb_o rfl rfl ⟨Nat.le_of_ble_eq_true rfl, Nat.le_of_ble_eq_true rfl⟩ (Nat.le_of_ble_eq_true rfl) ⟨Nat.zero_le _, Nat.zero_le _⟩ ?_
  refine r_aload_n ok dX0_openAtCustoms_41 0 rfl rfl ?_
  refine r_getf ok ci_X0 fl_X0_18 (by decide) dX0_openAtCustoms_42 cb_o rfl ?_
  refine r_bipush ok (nI 8) dX0_openAtCustoms_45 (by rfl) ?_
  refine r_ialdN ok (by omega) (by omega) dX0_openAtCustoms_47 cb_st ?_
  refine r_icmp_ge ok 81 dX0_openAtCustoms_48 (by decide) (fun c48_1 => ?_) (fun c48_1 => ?_)
  · skip
    have nl := Int32.not_lt.mpr c48_1
    exact r_vret ok dX0_openAtCustoms_81 rfl ⟨rfl, (by first | (have e : zOa (zCl.mk st dy x br sp wa ac ps pp pu lo unn op pi cn vl du io hp hs) j = zOaL (zCl.mk st dy x br sp wa ac ps pp pu lo unn op pi cn vl du io hp hs) j := if_pos nl; rw [e] <;> rfl) | (have e : zOa (zCl.mk st dy x br sp wa ac ps pp pu lo unn op pi cn vl du io hp hs) j = zOaN (zCl.mk st dy x br sp wa ac ps pp pu lo unn op pi cn vl du io hp hs) j := if_neg nl; rw [e] <;> rfl))⟩
  · skip
    have nl := Int32.not_le.mp c48_1
    refine r_aload_n ok dX0_openAtCustoms_51 1 rfl rfl ?_
    refine r_aload_n ok dX0_openAtCustoms_52 0 rfl rfl ?_
    refine r_aload_n ok dX0_openAtCustoms_53 1 rfl rfl ?_
    refine zW.to (M' := pcM G (cbM G M b st dy (zNx x) br sp wa (zC0 ac (zSubF ac (zGets (zDutyC st (vl j)) (zC0 hp (zFpP cn j) 6) hs)) 6) ps pp (zC0 pu (zAdd pu (zGets (zDutyC st (vl j)) (zC0 hp (zFpP cn j) 6) hs)) 6) lo (nI unn) (op + (nI 1)) pi cn vl (va_up du j (dy + (st 4))) (va_up io j true) (zC0 hp (zFpP cn j) 6) (zGets (zDutyC st (vl j)) (zC0 hp (zFpP cn j) 6) hs)) (b + 26 + 8 * j) (cn j) (vl j) (va_up du j (dy + (st 4)) j) (va_up io j true j)) ?_ (cb_pcs (by omega)).symm rfl rfl
    refine r_cV1 ok [.ref b, .ref (b + 26 + 8 * j)] mi_X3_pieces ci_X3 ml_X0_168 im_X3_pieces se_X3_pieces dX0_openAtCustoms_54 (c_X3_pieces K.2.1 G (cbM G M b st dy (zNx x) br sp wa (zC0 ac (zSubF ac (zGets (zDutyC st (vl j)) (zC0 hp (zFpP cn j) 6) hs)) 6) ps pp (zC0 pu (zAdd pu (zGets (zDutyC st (vl j)) (zC0 hp (zFpP cn j) 6) hs)) 6) lo (nI unn) (op + (nI 1)) pi cn vl (va_up du j (dy + (st 4))) (va_up io j true) (zC0 hp (zFpP cn j) 6) (zGets (zDutyC st (vl j)) (zC0 hp (zFpP cn j) 6) hs)) N (b + 26 + 8 * j) (cn j) (vl j) (va_up du j (dy + (st 4)) j) (va_up io j true j)   ) pc_o rfl rfl ⟨Nat.le_of_ble_eq_true rfl, Nat.le_of_ble_eq_true rfl⟩ (Nat.le_of_ble_eq_true rfl) ⟨Nat.zero_le _, Nat.zero_le _⟩ ?_
    refine zW.to (M' := cbM G M b st dy (zNx x) br sp wa (zC0 ac (zSubF ac (zGets (zDutyC st (vl j)) (zC0 hp (zFpP cn j) 6) hs)) 6) ps pp (zC0 pu (zAdd pu (zGets (zDutyC st (vl j)) (zC0 hp (zFpP cn j) 6) hs)) 6) lo (nI unn) (op + (nI 1)) pi cn vl (va_up du j (dy + (st 4))) (va_up io j true) (zC0 hp (zFpP cn j) 6) (zGets (zDutyC st (vl j)) (zC0 hp (zFpP cn j) 6) hs)) ?_ (cb_pcs (by omega)) rfl rfl
    refine r_cV1 ok [.ref (b + 26 + 8 * j)] mi_X0_draw ci_X0 ml_X0_159 im_X0_draw se_X0_draw dX0_openAtCustoms_57 (c_X0_draw K.2.1 G M N b st dy (zNx x) br sp wa (zC0 ac (zSubF ac (zGets (zDutyC st (vl j)) (zC0 hp (zFpP cn j) 6) hs)) 6) ps pp (zC0 pu (zAdd pu (zGets (zDutyC st (vl j)) (zC0 hp (zFpP cn j) 6) hs)) 6) lo (nI unn) (op + (nI 1)) pi cn vl (va_up du j (dy + (st 4))) (va_up io j true) (zC0 hp (zFpP cn j) 6) (zGets (zDutyC st (vl j)) (zC0 hp (zFpP cn j) 6) hs)  (zPie (cn j)) ) cb_o rfl rfl ⟨Nat.le_of_ble_eq_true rfl, Nat.le_of_ble_eq_true rfl⟩ (Nat.le_of_ble_eq_true rfl) ⟨Nat.zero_le _, Nat.zero_le _⟩ ?_
    refine zW.to (M' := pcM G (cbM G M b st dy (zNx (zNx x)) br sp wa (zC0 ac (zSubF ac (zGets (zDutyC st (vl j)) (zC0 hp (zFpP cn j) 6) hs)) 6) ps pp (zC0 pu (zAdd pu (zGets (zDutyC st (vl j)) (zC0 hp (zFpP cn j) 6) hs)) 6) lo (nI unn) (op + (nI 1)) pi cn vl (va_up du j (dy + (st 4))) (va_up io j true) (zC0 hp (zFpP cn j) 6) (zGets (zDutyC st (vl j)) (zC0 hp (zFpP cn j) 6) hs)) (b + 26 + 8 * j) (cn j) (vl j) (va_up du j (dy + (st 4)) j) (va_up io j true j)) ?_ (cb_pcs (by omega)).symm rfl rfl
    refine r_cV1 ok [] mi_X3_loseString ci_X3 ml_X0_172 im_X3_loseString se_X3_loseString dX0_openAtCustoms_60 (c_X3_loseString K.2.1 G (cbM G M b st dy (zNx (zNx x)) br sp wa (zC0 ac (zSubF ac (zGets (zDutyC st (vl j)) (zC0 hp (zFpP cn j) 6) hs)) 6) ps pp (zC0 pu (zAdd pu (zGets (zDutyC st (vl j)) (zC0 hp (zFpP cn j) 6) hs)) 6) lo (nI unn) (op + (nI 1)) pi cn vl (va_up du j (dy + (st 4))) (va_up io j true) (zC0 hp (zFpP cn j) 6) (zGets (zDutyC st (vl j)) (zC0 hp (zFpP cn j) 6) hs)) N (b + 26 + 8 * j) (cn j) (vl j) (va_up du j (dy + (st 4)) j) (va_up io j true j)  (zDrC (zNx x) (zPie (cn j))) hok.2) pc_o rfl rfl ⟨Nat.le_of_ble_eq_true rfl, Nat.le_of_ble_eq_true rfl⟩ (Nat.le_of_ble_eq_true rfl) ⟨Nat.zero_le _, Nat.zero_le _⟩ ?_
    refine zW.to (M' := cbM G M b st dy (zNx (zNx x)) br sp wa (zC0 ac (zSubF ac (zGets (zDutyC st (vl j)) (zC0 hp (zFpP cn j) 6) hs)) 6) ps pp (zC0 pu (zAdd pu (zGets (zDutyC st (vl j)) (zC0 hp (zFpP cn j) 6) hs)) 6) lo (nI unn) (op + (nI 1)) pi (va_up cn j (zLosC (cn j) (zDrC (zNx x) (zPie (cn j))))) vl (va_up du j (dy + (st 4))) (va_up io j true) (zC0 hp (zFpP cn j) 6) (zGets (zDutyC st (vl j)) (zC0 hp (zFpP cn j) 6) hs)) ?_ (cb_pcvC (by omega) (zLosC (cn j) (zDrC (zNx x) (zPie (cn j))))) rfl rfl
    refine r_istore_n ok [(2, .int (nI (zAtP (cn j) (zDrC (zNx x) (zPie (cn j))) / 8))), (0, .ref b), (1, .ref (b + 26 + 8 * j))] dX0_openAtCustoms_63 rfl (by decide) rfl ?_
    refine r_iload_n ok dX0_openAtCustoms_64 0 rfl rfl ?_
    refine r_cSN1 ok [] mi_X5_isMember mn_X0_101 sm_X5_isMember dX0_openAtCustoms_65 (c_X5_isMember K.2.1 G (cbM G M b st dy (zNx (zNx x)) br sp wa (zC0 ac (zSubF ac (zGets (zDutyC st (vl j)) (zC0 hp (zFpP cn j) 6) hs)) 6) ps pp (zC0 pu (zAdd pu (zGets (zDutyC st (vl j)) (zC0 hp (zFpP cn j) 6) hs)) 6) lo (nI unn) (op + (nI 1)) pi (va_up cn j (zLosC (cn j) (zDrC (zNx x) (zPie (cn j))))) vl (va_up du j (dy + (st 4))) (va_up io j true) (zC0 hp (zFpP cn j) 6) (zGets (zDutyC st (vl j)) (zC0 hp (zFpP cn j) 6) hs)) N  (nI (zAtP (cn j) (zDrC (zNx x) (zPie (cn j))) / 8)) ) rfl rfl ⟨Nat.le_of_ble_eq_true rfl, Nat.le_of_ble_eq_true rfl⟩ (Nat.le_of_ble_eq_true rfl) ⟨Nat.zero_le _, Nat.zero_le _⟩ ?_
    refine r_ifeqZ ok 81 dX0_openAtCustoms_68 (by decide) (fun c68_2 => ?_) (fun c68_2 => ?_)
    · skip
      exact absurd (show true = false from (congrArg Option.isSome (zix_nI (i := zAtP (cn j) (zDrC (zNx x) (zPie (cn j))) / 8) (n := 6) (by omega) (by omega))).symm.trans c68_2) (by decide)
    · skip
      refine r_aload_n ok dX0_openAtCustoms_71 1 rfl rfl ?_
      refine r_getf ok ci_X0 fl_X0_50 (by decide) dX0_openAtCustoms_72 cb_o rfl ?_
      refine r_iload_n ok dX0_openAtCustoms_75 0 rfl rfl ?_
      refine r_dup2 ok dX0_openAtCustoms_76 rfl rfl ?_
      refine r_ialdN ok (by omega) (by omega) dX0_openAtCustoms_77 cb_lo' ?_
      refine r_iconst ok (nI 1) dX0_openAtCustoms_78 (by rfl) ?_
      refine r_iadd ok dX0_openAtCustoms_79 ?_
      refine r_iastN ok (by omega) (by omega) dX0_openAtCustoms_80 cb_lo' (cbw_lo _) ?_
      exact r_vret ok dX0_openAtCustoms_81 rfl ⟨rfl, (by first | (have e : zOa (zCl.mk st dy x br sp wa ac ps pp pu lo unn op pi cn vl du io hp hs) j = zOaL (zCl.mk st dy x br sp wa ac ps pp pu lo unn op pi cn vl du io hp hs) j := if_pos nl; rw [e] <;> rfl) | (have e : zOa (zCl.mk st dy x br sp wa ac ps pp pu lo unn op pi cn vl du io hp hs) j = zOaN (zCl.mk st dy x br sp wa ac ps pp pu lo unn op pi cn vl du io hp hs) j := if_neg nl; rw [e] <;> rfl))⟩
set_option maxHeartbeats 4000000 in
set_option maxRecDepth 100000 in
theorem c_X0_comesHome (l : Launch) (G : zG) (M : zM) (N : Nat) (b : Nat) (st : Nat → Int32) (dy : Int32) (x : Int32) (br : Nat → Int32) (sp : Nat → Nat → Int32) (wa : Nat → Nat → Int32) (ac : Nat → Int32) (ps : Nat → Int32) (pp : Nat → Int32) (pu : Nat → Int32) (lo : Nat → Int32) (un : Int32) (op : Int32) (pi : Nat → Nat) (cn : Nat → Nat → Nat → Int32) (vl : Nat → Int32) (du : Nat → Int32) (io : Nat → Bool) (hp : Nat → Int32) (hs : Nat → Int32) (unn : Nat) (j : Nat) (hj : j < 5) (hok : io j = false → zOaOk (zCl.mk st dy (zNx x) br sp wa ac ps pp pu lo unn op pi cn vl du io hp hs) j) : zC l G yX0_comesHome cX0_comesHome 2 (some .boolean) 4 93 0 0 [.ref b, .ref (b + 26 + 8 * j)] (cbM G M b st dy x br sp wa ac ps pp pu lo (nI unn) op pi cn vl du io hp hs) N (zP (some (.int (zb (zComeB (zCl.mk st dy x br sp wa ac ps pp pu lo unn op pi cn vl du io hp hs) j)))) (cbM G M b st dy ((zCome (zCl.mk st dy x br sp wa ac ps pp pu lo unn op pi cn vl du io hp hs) j).x) br sp wa ((zCome (zCl.mk st dy x br sp wa ac ps pp pu lo unn op pi cn vl du io hp hs) j).ac) ps pp ((zCome (zCl.mk st dy x br sp wa ac ps pp pu lo unn op pi cn vl du io hp hs) j).pu) ((zCome (zCl.mk st dy x br sp wa ac ps pp pu lo unn op pi cn vl du io hp hs) j).lo) (nI unn) ((zCome (zCl.mk st dy x br sp wa ac ps pp pu lo unn op pi cn vl du io hp hs) j).op) pi ((zCome (zCl.mk st dy x br sp wa ac ps pp pu lo unn op pi cn vl du io hp hs) j).cn) vl ((zCome (zCl.mk st dy x br sp wa ac ps pp pu lo unn op pi cn vl du io hp hs) j).du) ((zCome (zCl.mk st dy x br sp wa ac ps pp pu lo unn op pi cn vl du io hp hs) j).io) ((zCome (zCl.mk st dy x br sp wa ac ps pp pu lo unn op pi cn vl du io hp hs) j).hp) ((zCome (zCl.mk st dy x br sp wa ac ps pp pu lo unn op pi cn vl du io hp hs) j).hs))) := by
  refine zC.of (by decide +kernel) (Nat.le_of_ble_eq_true rfl) ?_
  intro K hKl ok
  subst hKl
  show zW K G 2 _ 0 0 _ N 0 [(0, .ref b), (1, .ref (b + 26 + 8 * j))] []
  refine r_aload_n ok dX0_comesHome_0 1 rfl rfl ?_
  refine r_getf ok ci_X3 fl_X0_127 (by decide) dX0_comesHome_1 (cb_pc (by omega)) rfl ?_
  refine r_ifneZ ok 23 dX0_comesHome_4 (by decide) (fun c4_1 => ?_) (fun c4_1 => ?_)
  · skip
    have hio := c4_1
    refine r_iconst ok (nI 1) dX0_comesHome_23 (by rfl) ?_
    refine zW.to (st' := [.int (zb true)]) ?_ rfl rfl rfl
    exact r_zret ok dX0_comesHome_24 (zb_n _) rfl ⟨congrArg (fun z => some (Value.int (zb z))) (show true = zComeB (zCl.mk st dy x br sp wa ac ps pp pu lo unn op pi cn vl du io hp hs) j from by first | exact (if_pos hio : zComeB (zCl.mk st dy x br sp wa ac ps pp pu lo unn op pi cn vl du io hp hs) j = true).symm | exact ((if_neg hni).trans (if_neg nl) : zComeB (zCl.mk st dy x br sp wa ac ps pp pu lo unn op pi cn vl du io hp hs) j = true).symm | exact ((if_neg hni).trans ((if_pos nl).trans (decide_eq_true (by assumption))) : zComeB (zCl.mk st dy x br sp wa ac ps pp pu lo unn op pi cn vl du io hp hs) j = true).symm | exact ((if_neg hni).trans ((if_pos nl).trans (decide_eq_false (by assumption))) : zComeB (zCl.mk st dy x br sp wa ac ps pp pu lo unn op pi cn vl du io hp hs) j = false).symm), (by first | (have e : zCome (zCl.mk st dy x br sp wa ac ps pp pu lo unn op pi cn vl du io hp hs) j = (zCl.mk st dy x br sp wa ac ps pp pu lo unn op pi cn vl du io hp hs) := if_pos hio; rw [e] <;> rfl) | (have e : zCome (zCl.mk st dy x br sp wa ac ps pp pu lo unn op pi cn vl du io hp hs) j = (zCl.mk st dy (zNx x) br sp wa ac ps pp pu lo unn op pi cn vl du io hp hs) := (if_neg hni).trans (if_neg nl); rw [e] <;> rfl) | (have e : zCome (zCl.mk st dy x br sp wa ac ps pp pu lo unn op pi cn vl du io hp hs) j = zOa (zCl.mk st dy (zNx x) br sp wa ac ps pp pu lo unn op pi cn vl du io hp hs) j := (if_neg hni).trans (if_pos nl); rw [e] <;> rfl))⟩
  · skip
    have hio := c4_1
    have hni : ¬ io j = true := by rw [hio]; decide
    refine r_aload_n ok dX0_comesHome_7 0 rfl rfl ?_
    refine r_bipush ok (nI 100) dX0_comesHome_8 (by rfl) ?_
    refine r_cV1 ok [] mi_X0_draw ci_X0 ml_X0_159 im_X0_draw se_X0_draw dX0_comesHome_10 (c_X0_draw K.2.1 G M N b st dy x br sp wa ac ps pp pu lo (nI unn) op pi cn vl du io hp hs  (nI 100) ) cb_o rfl rfl ⟨Nat.le_of_ble_eq_true rfl, Nat.le_of_ble_eq_true rfl⟩ (Nat.le_of_ble_eq_true rfl) ⟨Nat.zero_le _, Nat.zero_le _⟩ ?_
    refine r_aload_n ok dX0_comesHome_13 0 rfl rfl ?_
    refine r_getf ok ci_X0 fl_X0_18 (by decide) dX0_comesHome_14 cb_o rfl ?_
    refine r_bipush ok (nI 7) dX0_comesHome_17 (by rfl) ?_
    refine r_ialdN ok (by omega) (by omega) dX0_comesHome_19 cb_st ?_
    refine r_icmp_lt ok 25 dX0_comesHome_20 (by decide) (fun c20_2 => ?_) (fun c20_2 => ?_)
    · skip
      have nl := c20_2
      refine r_aload_n ok dX0_comesHome_25 0 rfl rfl ?_
      refine r_aload_n ok dX0_comesHome_26 1 rfl rfl ?_
      refine r_cV0 ok [] mi_X0_openAtCustoms ci_X0 ml_X0_162 im_X0_openAtCustoms se_X0_openAtCustoms dX0_comesHome_27 (c_X0_openAtCustoms K.2.1 G M N b st dy (zNx x) br sp wa ac ps pp pu lo (nI unn) op pi cn vl du io hp hs unn j (by omega) (hok hio)) cb_o rfl rfl ⟨Nat.le_of_ble_eq_true rfl, Nat.le_of_ble_eq_true rfl⟩ (Nat.le_of_ble_eq_true rfl) ⟨Nat.zero_le _, Nat.zero_le _⟩ ?_
      refine r_aload_n ok dX0_comesHome_30 0 rfl rfl ?_
      refine r_getf ok ci_X0 fl_X0_18 (by decide) dX0_comesHome_31 cb_o rfl ?_
      refine r_iconst ok (nI 4) dX0_comesHome_34 (by rfl) ?_
      refine r_ialdN ok (by omega) (by omega) dX0_comesHome_35 cb_st ?_
      refine r_if_ne ok 43 dX0_comesHome_36 (by decide) (fun c36_3 => ?_) (fun c36_3 => ?_)
      · skip
        refine r_iconst ok (nI 0) dX0_comesHome_43 (by rfl) ?_
        refine zW.to (st' := [.int (zb false)]) ?_ rfl rfl rfl
        exact r_zret ok dX0_comesHome_44 (zb_n _) rfl ⟨congrArg (fun z => some (Value.int (zb z))) (show false = zComeB (zCl.mk st dy x br sp wa ac ps pp pu lo unn op pi cn vl du io hp hs) j from by first | exact (if_pos hio : zComeB (zCl.mk st dy x br sp wa ac ps pp pu lo unn op pi cn vl du io hp hs) j = true).symm | exact ((if_neg hni).trans (if_neg nl) : zComeB (zCl.mk st dy x br sp wa ac ps pp pu lo unn op pi cn vl du io hp hs) j = true).symm | exact ((if_neg hni).trans ((if_pos nl).trans (decide_eq_true (by assumption))) : zComeB (zCl.mk st dy x br sp wa ac ps pp pu lo unn op pi cn vl du io hp hs) j = true).symm | exact ((if_neg hni).trans ((if_pos nl).trans (decide_eq_false (by assumption))) : zComeB (zCl.mk st dy x br sp wa ac ps pp pu lo unn op pi cn vl du io hp hs) j = false).symm), (by first | (have e : zCome (zCl.mk st dy x br sp wa ac ps pp pu lo unn op pi cn vl du io hp hs) j = (zCl.mk st dy x br sp wa ac ps pp pu lo unn op pi cn vl du io hp hs) := if_pos hio; rw [e] <;> rfl) | (have e : zCome (zCl.mk st dy x br sp wa ac ps pp pu lo unn op pi cn vl du io hp hs) j = (zCl.mk st dy (zNx x) br sp wa ac ps pp pu lo unn op pi cn vl du io hp hs) := (if_neg hni).trans (if_neg nl); rw [e] <;> rfl) | (have e : zCome (zCl.mk st dy x br sp wa ac ps pp pu lo unn op pi cn vl du io hp hs) j = zOa (zCl.mk st dy (zNx x) br sp wa ac ps pp pu lo unn op pi cn vl du io hp hs) j := (if_neg hni).trans (if_pos nl); rw [e] <;> rfl))⟩
      · skip
        refine r_iconst ok (nI 1) dX0_comesHome_39 (by rfl) ?_
        refine r_goto ok 44 dX0_comesHome_40 (by decide) ?_
        refine zW.to (st' := [.int (zb true)]) ?_ rfl rfl rfl
        exact r_zret ok dX0_comesHome_44 (zb_n _) rfl ⟨congrArg (fun z => some (Value.int (zb z))) (show true = zComeB (zCl.mk st dy x br sp wa ac ps pp pu lo unn op pi cn vl du io hp hs) j from by first | exact (if_pos hio : zComeB (zCl.mk st dy x br sp wa ac ps pp pu lo unn op pi cn vl du io hp hs) j = true).symm | exact ((if_neg hni).trans (if_neg nl) : zComeB (zCl.mk st dy x br sp wa ac ps pp pu lo unn op pi cn vl du io hp hs) j = true).symm | exact ((if_neg hni).trans ((if_pos nl).trans (decide_eq_true (by assumption))) : zComeB (zCl.mk st dy x br sp wa ac ps pp pu lo unn op pi cn vl du io hp hs) j = true).symm | exact ((if_neg hni).trans ((if_pos nl).trans (decide_eq_false (by assumption))) : zComeB (zCl.mk st dy x br sp wa ac ps pp pu lo unn op pi cn vl du io hp hs) j = false).symm), (by first | (have e : zCome (zCl.mk st dy x br sp wa ac ps pp pu lo unn op pi cn vl du io hp hs) j = (zCl.mk st dy x br sp wa ac ps pp pu lo unn op pi cn vl du io hp hs) := if_pos hio; rw [e] <;> rfl) | (have e : zCome (zCl.mk st dy x br sp wa ac ps pp pu lo unn op pi cn vl du io hp hs) j = (zCl.mk st dy (zNx x) br sp wa ac ps pp pu lo unn op pi cn vl du io hp hs) := (if_neg hni).trans (if_neg nl); rw [e] <;> rfl) | (have e : zCome (zCl.mk st dy x br sp wa ac ps pp pu lo unn op pi cn vl du io hp hs) j = zOa (zCl.mk st dy (zNx x) br sp wa ac ps pp pu lo unn op pi cn vl du io hp hs) j := (if_neg hni).trans (if_pos nl); rw [e] <;> rfl))⟩
    · skip
      have nl := c20_2
      refine r_iconst ok (nI 1) dX0_comesHome_23 (by rfl) ?_
      refine zW.to (st' := [.int (zb true)]) ?_ rfl rfl rfl
      exact r_zret ok dX0_comesHome_24 (zb_n _) rfl ⟨congrArg (fun z => some (Value.int (zb z))) (show true = zComeB (zCl.mk st dy x br sp wa ac ps pp pu lo unn op pi cn vl du io hp hs) j from by first | exact (if_pos hio : zComeB (zCl.mk st dy x br sp wa ac ps pp pu lo unn op pi cn vl du io hp hs) j = true).symm | exact ((if_neg hni).trans (if_neg nl) : zComeB (zCl.mk st dy x br sp wa ac ps pp pu lo unn op pi cn vl du io hp hs) j = true).symm | exact ((if_neg hni).trans ((if_pos nl).trans (decide_eq_true (by assumption))) : zComeB (zCl.mk st dy x br sp wa ac ps pp pu lo unn op pi cn vl du io hp hs) j = true).symm | exact ((if_neg hni).trans ((if_pos nl).trans (decide_eq_false (by assumption))) : zComeB (zCl.mk st dy x br sp wa ac ps pp pu lo unn op pi cn vl du io hp hs) j = false).symm), (by first | (have e : zCome (zCl.mk st dy x br sp wa ac ps pp pu lo unn op pi cn vl du io hp hs) j = (zCl.mk st dy x br sp wa ac ps pp pu lo unn op pi cn vl du io hp hs) := if_pos hio; rw [e] <;> rfl) | (have e : zCome (zCl.mk st dy x br sp wa ac ps pp pu lo unn op pi cn vl du io hp hs) j = (zCl.mk st dy (zNx x) br sp wa ac ps pp pu lo unn op pi cn vl du io hp hs) := (if_neg hni).trans (if_neg nl); rw [e] <;> rfl) | (have e : zCome (zCl.mk st dy x br sp wa ac ps pp pu lo unn op pi cn vl du io hp hs) j = zOa (zCl.mk st dy (zNx x) br sp wa ac ps pp pu lo unn op pi cn vl du io hp hs) j := (if_neg hni).trans (if_pos nl); rw [e] <;> rfl))⟩
set_option maxHeartbeats 4000000 in
set_option maxRecDepth 100000 in
theorem c_X0_unpack (l : Launch) (G : zG) (M : zM) (N : Nat) (b : Nat) (st : Nat → Int32) (dy : Int32) (x : Int32) (br : Nat → Int32) (sp : Nat → Nat → Int32) (wa : Nat → Nat → Int32) (ac : Nat → Int32) (ps : Nat → Int32) (pp : Nat → Int32) (pu : Nat → Int32) (lo : Nat → Int32) (un : Int32) (op : Int32) (pi : Nat → Nat) (cn : Nat → Nat → Nat → Int32) (vl : Nat → Int32) (du : Nat → Int32) (io : Nat → Bool) (hp : Nat → Int32) (hs : Nat → Int32)  (j : Nat) (hj : j < 5) : zC l G yX0_unpack cX0_unpack 5 (none) 1 21 0 0 [.ref b, .ref (b + 26 + 8 * j)] (cbM G M b st dy x br sp wa ac ps pp pu lo un op pi cn vl du io hp hs) N (zP none (cbM G M b st dy x br (zTab sp (zUnF sp (cn j)) 6) wa ac ps pp pu (zC0 lo (zUnL lo sp (cn j)) 6) un op pi cn vl du io hp hs)) := by
  refine zC.of (by decide +kernel) (Nat.le_of_ble_eq_true rfl) ?_
  intro K hKl ok
  subst hKl
  show zW K G 5 _ 0 0 _ N 0 [(0, .ref b), (1, .ref (b + 26 + 8 * j))] []
  refine r_iconst ok (nI 0) dX0_unpack_0 (by rfl) ?_
  refine r_istore_n ok [(2, .int (nI 0)), (0, .ref b), (1, .ref (b + 26 + 8 * j))] dX0_unpack_1 rfl (by decide) rfl ?_
  have L1 : ∀ (nL1 : Nat) (m : Nat), ((m + nL1 = 6)) → zW K G 5 (zQ K G (N + 0) 0 0 (zP none (cbM G M b st dy x br (zTab sp (zUnF sp (cn j)) 6) wa ac ps pp pu (zC0 lo (zUnL lo sp (cn j)) 6) un op pi cn vl du io hp hs))) 0 0 (cbM G M b st dy x br (zTab sp (zUnF sp (cn j)) m) wa ac ps pp pu (zC0 lo (zUnL lo sp (cn j)) m) un op pi cn vl du io hp hs) N 2 [(0, .ref b), (1, .ref (b + 26 + 8 * j)), (2, .int (nI (m)))] [] := by
    intro nL1
    induction nL1 with
    | zero =>
      intro m hk_m 
      obtain rfl : 6 = m := by omega
      refine r_iload_n ok dX0_unpack_2 2 rfl rfl ?_
      refine r_bipush ok (nI 6) dX0_unpack_3 (by rfl) ?_
      refine r_icmp_geN ok 82 (by omega) (by omega) dX0_unpack_5 (by decide) (fun _ => ?_) (fun c => absurd c (by decide))
      exact r_vret ok dX0_unpack_82 rfl ⟨rfl, rfl⟩
    | succ nL1 ihL1 =>
      intro m hk_m 
      refine r_iload_n ok dX0_unpack_2 2 rfl rfl ?_
      refine r_bipush ok (nI 6) dX0_unpack_3 (by rfl) ?_
      refine r_icmp_geN ok 82 (by omega) (by omega) dX0_unpack_5 (by decide) (fun c5_3 => ?_) (fun c5_3 => ?_)
      · skip
        exact absurd c5_3 (by omega)
      · skip
        refine r_iconst ok (nI 0) dX0_unpack_8 (by rfl) ?_
        refine r_istore_n ok [(3, .int (nI 0)), (0, .ref b), (1, .ref (b + 26 + 8 * j)), (2, .int (nI (m)))] dX0_unpack_9 rfl (by decide) rfl ?_
        have L4 : ∀ (nL4 : Nat) (g : Nat), ((g + nL4 = 8)) → zW K G 5 (zQ K G (N + 0) 0 0 (zP none (cbM G M b st dy x br (zTab sp (zUnF sp (cn j)) 6) wa ac ps pp pu (zC0 lo (zUnL lo sp (cn j)) 6) un op pi cn vl du io hp hs))) 0 0 (cbM G M b st dy x br (va_up (zTab sp (zUnF sp (cn j)) m) m (zC0 (sp m) (zUnF sp (cn j) m) g)) wa ac ps pp pu (upd (zC0 lo (zUnL lo sp (cn j)) m) m (lo m + lsum (zUnO sp (cn j) m) g)) un op pi cn vl du io hp hs) N 10 [(0, .ref b), (1, .ref (b + 26 + 8 * j)), (2, .int (nI (m))), (3, .int (nI (g)))] [] := by
          intro nL4
          induction nL4 with
          | zero =>
            intro g hk_g 
            obtain rfl : 8 = g := by omega
            refine r_iload_n ok dX0_unpack_10 3 rfl rfl ?_
            refine r_bipush ok (nI 8) dX0_unpack_11 (by rfl) ?_
            refine r_icmp_geN ok 76 (by omega) (by omega) dX0_unpack_13 (by decide) (fun _ => ?_) (fun c => absurd c (by decide))
            refine r_iincN ok (c := 1) [(2, .int (nI (m + 1))), (0, .ref b), (1, .ref (b + 26 + 8 * j)), (3, .int (nI (8)))] dX0_unpack_76 2 rfl (by rfl) (by decide) rfl ?_
            refine r_goto ok 2 dX0_unpack_79 (by decide) ?_
            have q6 : (va_up (zTab sp (zUnF sp (cn j)) m) m (zC0 (sp m) (zUnF sp (cn j) m) 8) : Nat → Nat → Int32) = zTab sp (zUnF sp (cn j)) (m + 1) := by first | with_reducible rfl | (first | exact zUn_e1 _ _ _ | exact zUn_e2 _ _ _ _)
            have q7 : (upd (zC0 lo (zUnL lo sp (cn j)) m) m (lo m + lsum (zUnO sp (cn j) m) 8) : Nat → Int32) = zC0 lo (zUnL lo sp (cn j)) (m + 1) := by first | with_reducible rfl | (first | exact zUn_e1 _ _ _ | exact zUn_e2 _ _ _ _)
            refine zW.forget (lv' := [(0, .ref b), (1, .ref (b + 26 + 8 * j)), (2, .int (nI (m + 1)))]) ?_ [1, 2, 0] rfl
            refine zW.to ?_ (congrArg (fun z => cbM G M b st dy x br z wa ac ps pp pu (upd (zC0 lo (zUnL lo sp (cn j)) m) m (lo m + lsum (zUnO sp (cn j) m) 8)) un op pi cn vl du io hp hs) q6) rfl rfl
            refine zW.to ?_ (congrArg (fun z => cbM G M b st dy x br (zTab sp (zUnF sp (cn j)) (m + 1)) wa ac ps pp pu z un op pi cn vl du io hp hs) q7) rfl rfl
            exact ihL1 (m + 1) (by omega)
          | succ nL4 ihL4 =>
            intro g hk_g 
            refine r_iload_n ok dX0_unpack_10 3 rfl rfl ?_
            refine r_bipush ok (nI 8) dX0_unpack_11 (by rfl) ?_
            refine r_icmp_geN ok 76 (by omega) (by omega) dX0_unpack_13 (by decide) (fun c13_8 => ?_) (fun c13_8 => ?_)
            · skip
              exact absurd c13_8 (by omega)
            · skip
              refine r_aload_n ok dX0_unpack_16 0 rfl rfl ?_
              refine r_getf ok ci_X0 fl_X0_32 (by decide) dX0_unpack_17 cb_o rfl ?_
              refine r_iload_n ok dX0_unpack_20 2 rfl rfl ?_
              refine r_aaldN ok 3 (Or.inl rfl) (b + 4 + m) (by omega) (by omega) dX0_unpack_21 cb_sp (zRef6_at (by omega)) ?_
              refine r_iload_n ok dX0_unpack_22 3 rfl rfl ?_
              refine r_ialdN ok (by omega) (by omega) dX0_unpack_23 (cb_spr (by omega)) ?_
              refine zW.to (st' := [.int (sp m g)]) ?_ rfl rfl (congrArg (fun z => (Value.int z :: [] : List Value)) (show (va_up (zTab sp (zUnF sp (cn j)) m) m (zC0 (sp m) (zUnF sp (cn j) m) g) m) g = sp m g from Eq.trans (congrFun (va_up_self (zTab sp (zUnF sp (cn j)) m) m (zC0 (sp m) (zUnF sp (cn j) m) g)) g) ((zC0_ge (Nat.le_refl _)))))
              refine r_aload_n ok dX0_unpack_24 1 rfl rfl ?_
              refine r_getf ok ci_X3 fl_X0_94 (by decide) dX0_unpack_25 (cb_pc (by omega)) rfl ?_
              refine r_iload_n ok dX0_unpack_28 2 rfl rfl ?_
              refine r_aaldN ok 3 (Or.inl rfl) (b + 26 + 8 * j + 2 + m) (by omega) (by omega) dX0_unpack_29 (cb_pcc (by omega)) (zRef6_at (by omega)) ?_
              refine r_iload_n ok dX0_unpack_30 3 rfl rfl ?_
              refine r_ialdN ok (by omega) (by omega) dX0_unpack_31 (cb_pcr (by omega) (by omega)) ?_
              refine r_iadd ok dX0_unpack_32 ?_
              refine r_istore ok [(4, .int ((sp m g) + ((cn j m) g))), (0, .ref b), (1, .ref (b + 26 + 8 * j)), (2, .int (nI (m))), (3, .int (nI (g)))] dX0_unpack_33 (by decide) rfl ?_
              refine r_aload_n ok dX0_unpack_35 1 rfl rfl ?_
              refine r_getf ok ci_X0 fl_X0_32 (by decide) dX0_unpack_36 cb_o rfl ?_
              refine r_iload_n ok dX0_unpack_39 3 rfl rfl ?_
              refine r_aaldN ok 3 (Or.inl rfl) (b + 4 + m) (by omega) (by omega) dX0_unpack_40 cb_sp (zRef6_at (by omega)) ?_
              refine r_iload_n ok dX0_unpack_41 4 rfl rfl ?_
              refine r_iload ok dX0_unpack_42 0 rfl ?_
              refine r_bipush ok (nI 99) dX0_unpack_44 (by rfl) ?_
              refine r_mmin ok [.int (nI (g)), .ref (b + 4 + m)] ml_X0_108 sm_J9_min_7cf53 in_J9 lm_min_c dX0_unpack_46 (Nat.le_of_ble_eq_true rfl) (Nat.le_of_ble_eq_true rfl) (Nat.zero_le _) (Nat.zero_le _) ?_
              refine r_iastN ok (by omega) (by omega) dX0_unpack_49 (cb_spr (by omega)) (cbw_spr (by omega) _) ?_
              refine r_aload_n ok dX0_unpack_50 1 rfl rfl ?_
              refine r_getf ok ci_X0 fl_X0_50 (by decide) dX0_unpack_51 cb_o rfl ?_
              refine r_iload_n ok dX0_unpack_54 3 rfl rfl ?_
              refine r_dup2 ok dX0_unpack_55 rfl rfl ?_
              refine r_ialdN ok (by omega) (by omega) dX0_unpack_56 cb_lo' ?_
              refine zW.to (st' := [.int (lo m + lsum (zUnO sp (cn j) m) g), .int (nI (m)), .ref (b + 21)]) ?_ rfl rfl (congrArg (fun z => (Value.int z :: [.int (nI (m)), .ref (b + 21)] : List Value)) (show (upd (zC0 lo (zUnL lo sp (cn j)) m) m (lo m + lsum (zUnO sp (cn j) m) g)) m = lo m + lsum (zUnO sp (cn j) m) g from pk_us))
              refine r_iload ok dX0_unpack_57 0 rfl ?_
              refine r_aload_n ok dX0_unpack_59 1 rfl rfl ?_
              refine r_getf ok ci_X0 fl_X0_32 (by decide) dX0_unpack_60 cb_o rfl ?_
              refine r_iload_n ok dX0_unpack_63 3 rfl rfl ?_
              refine r_aaldN ok 3 (Or.inl rfl) (b + 4 + m) (by omega) (by omega) dX0_unpack_64 cb_sp (zRef6_at (by omega)) ?_
              refine r_iload_n ok dX0_unpack_65 4 rfl rfl ?_
              refine r_ialdN ok (by omega) (by omega) dX0_unpack_66 (cb_spr (by omega)) ?_
              refine zW.to (st' := [.int (if (nI 99) < ((sp m g) + ((cn j m) g)) then (nI 99) else ((sp m g) + ((cn j m) g))), .int ((sp m g) + ((cn j m) g)), .int (lo m + lsum (zUnO sp (cn j) m) g), .int (nI (m)), .ref (b + 21)]) ?_ rfl rfl (congrArg (fun z => (Value.int z :: [.int ((sp m g) + ((cn j m) g)), .int (lo m + lsum (zUnO sp (cn j) m) g), .int (nI (m)), .ref (b + 21)] : List Value)) (show (va_up (va_up (zTab sp (zUnF sp (cn j)) m) m (zC0 (sp m) (zUnF sp (cn j) m) g)) m (upd (va_up (zTab sp (zUnF sp (cn j)) m) m (zC0 (sp m) (zUnF sp (cn j) m) g) m) g (if (nI 99) < ((sp m g) + ((cn j m) g)) then (nI 99) else ((sp m g) + ((cn j m) g)))) m) g = if (nI 99) < ((sp m g) + ((cn j m) g)) then (nI 99) else ((sp m g) + ((cn j m) g)) from Eq.trans (congrFun (va_up_self (va_up (zTab sp (zUnF sp (cn j)) m) m (zC0 (sp m) (zUnF sp (cn j) m) g)) m (upd (va_up (zTab sp (zUnF sp (cn j)) m) m (zC0 (sp m) (zUnF sp (cn j) m) g) m) g (if (nI 99) < ((sp m g) + ((cn j m) g)) then (nI 99) else ((sp m g) + ((cn j m) g))))) g) pk_us))
              refine r_isub ok dX0_unpack_67 ?_
              refine r_iadd ok dX0_unpack_68 ?_
              refine r_iastN ok (by omega) (by omega) dX0_unpack_69 cb_lo' (cbw_lo _) ?_
              refine r_iincN ok (c := 1) [(3, .int (nI (g + 1))), (4, .int ((sp m g) + ((cn j m) g))), (0, .ref b), (1, .ref (b + 26 + 8 * j)), (2, .int (nI (m)))] dX0_unpack_70 4 rfl (by rfl) (by decide) rfl ?_
              refine r_goto ok 10 dX0_unpack_73 (by decide) ?_
              have q9 : (va_up (va_up (zTab sp (zUnF sp (cn j)) m) m (zC0 (sp m) (zUnF sp (cn j) m) g)) m (upd (va_up (zTab sp (zUnF sp (cn j)) m) m (zC0 (sp m) (zUnF sp (cn j) m) g) m) g (if (nI 99) < ((sp m g) + ((cn j m) g)) then (nI 99) else ((sp m g) + ((cn j m) g)))) : Nat → Nat → Int32) = va_up (zTab sp (zUnF sp (cn j)) m) m (zC0 (sp m) (zUnF sp (cn j) m) (g + 1)) := by first | with_reducible rfl | (first | (rw [va_up_self, va_up_up]; exact congrArg _ (zC0_s _ _ _)) | (rw [upd_upd]; exact congrArg _ (by rw [lsum_s, ← Int32.add_assoc]; rfl)))
              have q10 : (upd (upd (zC0 lo (zUnL lo sp (cn j)) m) m (lo m + lsum (zUnO sp (cn j) m) g)) m ((lo m + lsum (zUnO sp (cn j) m) g) + (((sp m g) + ((cn j m) g)) - (if (nI 99) < ((sp m g) + ((cn j m) g)) then (nI 99) else ((sp m g) + ((cn j m) g))))) : Nat → Int32) = upd (zC0 lo (zUnL lo sp (cn j)) m) m (lo m + lsum (zUnO sp (cn j) m) (g + 1)) := by first | with_reducible rfl | (first | (rw [va_up_self, va_up_up]; exact congrArg _ (zC0_s _ _ _)) | (rw [upd_upd]; exact congrArg _ (by rw [lsum_s, ← Int32.add_assoc]; rfl)))
              refine zW.forget (lv' := [(0, .ref b), (1, .ref (b + 26 + 8 * j)), (2, .int (nI (m))), (3, .int (nI (g + 1)))]) ?_ [2, 3, 4, 0] rfl
              refine zW.to ?_ (congrArg (fun z => cbM G M b st dy x br z wa ac ps pp pu (upd (upd (zC0 lo (zUnL lo sp (cn j)) m) m (lo m + lsum (zUnO sp (cn j) m) g)) m ((lo m + lsum (zUnO sp (cn j) m) g) + (((sp m g) + ((cn j m) g)) - (if (nI 99) < ((sp m g) + ((cn j m) g)) then (nI 99) else ((sp m g) + ((cn j m) g)))))) un op pi cn vl du io hp hs) q9) rfl rfl
              refine zW.to ?_ (congrArg (fun z => cbM G M b st dy x br (va_up (zTab sp (zUnF sp (cn j)) m) m (zC0 (sp m) (zUnF sp (cn j) m) (g + 1))) wa ac ps pp pu z un op pi cn vl du io hp hs) q10) rfl rfl
              exact ihL4 (g + 1) (by omega)
        have q11 : (zTab sp (zUnF sp (cn j)) m : Nat → Nat → Int32) = va_up (zTab sp (zUnF sp (cn j)) m) m (zC0 (sp m) (zUnF sp (cn j) m) 0) := by first | with_reducible rfl | (first | exact zUn_a1 _ _ _ | exact zUn_a2 _ _ _ _)
        have q12 : (zC0 lo (zUnL lo sp (cn j)) m : Nat → Int32) = upd (zC0 lo (zUnL lo sp (cn j)) m) m (lo m + lsum (zUnO sp (cn j) m) 0) := by first | with_reducible rfl | (first | exact zUn_a1 _ _ _ | exact zUn_a2 _ _ _ _)
        refine zW.forget (lv' := [(0, .ref b), (1, .ref (b + 26 + 8 * j)), (2, .int (nI (m))), (3, .int (nI 0))]) ?_ [1, 2, 3, 0] rfl
        refine zW.to ?_ (congrArg (fun z => cbM G M b st dy x br z wa ac ps pp pu (zC0 lo (zUnL lo sp (cn j)) m) un op pi cn vl du io hp hs) q11) rfl rfl
        refine zW.to ?_ (congrArg (fun z => cbM G M b st dy x br (va_up (zTab sp (zUnF sp (cn j)) m) m (zC0 (sp m) (zUnF sp (cn j) m) 0)) wa ac ps pp pu z un op pi cn vl du io hp hs) q12) rfl rfl
        exact L4 8 0 (by omega)
  have q13 : (sp : Nat → Nat → Int32) = zTab sp (zUnF sp (cn j)) 0 := by first | with_reducible rfl | (first | exact (zTab_0 _ _).symm | exact (zC0_0 _ _).symm)
  have q14 : (lo : Nat → Int32) = zC0 lo (zUnL lo sp (cn j)) 0 := by first | with_reducible rfl | (first | exact (zTab_0 _ _).symm | exact (zC0_0 _ _).symm)
  refine zW.forget (lv' := [(0, .ref b), (1, .ref (b + 26 + 8 * j)), (2, .int (nI 0))]) ?_ [1, 2, 0] rfl
  refine zW.to ?_ (congrArg (fun z => cbM G M b st dy x br z wa ac ps pp pu lo un op pi cn vl du io hp hs) q13) rfl rfl
  refine zW.to ?_ (congrArg (fun z => cbM G M b st dy x br (zTab sp (zUnF sp (cn j)) 0) wa ac ps pp pu z un op pi cn vl du io hp hs) q14) rfl rfl
  exact L1 6 0 (by omega)
set_option maxHeartbeats 4000000 in
set_option maxRecDepth 100000 in
theorem c_X0_charge (l : Launch) (G : zG) (M : zM) (N : Nat) (b : Nat) (st : Nat → Int32) (dy : Int32) (x : Int32) (br : Nat → Int32) (sp : Nat → Nat → Int32) (wa : Nat → Nat → Int32) (ac : Nat → Int32) (ps : Nat → Int32) (pp : Nat → Int32) (pu : Nat → Int32) (lo : Nat → Int32) (un : Int32) (op : Int32) (pi : Nat → Nat) (cn : Nat → Nat → Nat → Int32) (vl : Nat → Int32) (du : Nat → Int32) (io : Nat → Bool) (hp : Nat → Int32) (hs : Nat → Int32) (d : Nat) (oog : Nat → Int32) (opr : Nat → Int32) (opc : Int32) (ovl : Int32) (opo : Int32) (opt : Nat → Int32) (osr : Nat → Int32)  (m : Nat) (hm : m < 6) (hbd : b + 66 ≤ d ∨ d + 6 ≤ b) : zC l G yX0_charge cX0_charge 5 (none) 1 23 0 0 [.ref b, .int (nI (m)), .ref d] (odM G (cbM G M b st dy x br sp wa ac ps pp pu lo un op pi cn vl du io hp hs) d oog opr opc ovl opo opt osr) N (zP none (odM G (cbM G M b st dy x br sp wa (upd ac m (ac m - (lsum (zOcT (wa m) opr) 8 + osr m))) (upd ps m (ps m + lsum (zOcT (wa m) opr) 8)) (upd pp m (pp m + osr m)) pu lo un op pi cn vl du io hp hs) d oog opr opc ovl opo opt osr)) := by
  refine zC.of (by decide +kernel) (Nat.le_of_ble_eq_true rfl) ?_
  intro K hKl ok
  subst hKl
  show zW K G 5 _ 0 0 _ N 0 [(0, .ref b), (1, .int (nI (m))), (2, .ref d)] []
  refine r_aload_n ok dX0_charge_0 2 rfl rfl ?_
  refine r_aload_n ok dX0_charge_1 0 rfl rfl ?_
  refine r_getf ok ci_X0 fl_X0_35 (by decide) dX0_charge_2 ((od_out (by omega)).trans cb_o) rfl ?_
  refine r_iload_n ok dX0_charge_5 1 rfl rfl ?_
  refine r_aaldN ok 3 (Or.inl rfl) (b + 11 + m) (by omega) (by omega) dX0_charge_6 ((od_out (by omega)).trans cb_wa) (zRef6_at (by omega)) ?_
  refine r_cV1 ok [] mi_X1_ownCost ci_X1 ml_X0_145 im_X1_ownCost se_X1_ownCost dX0_charge_7 (c_X1_ownCost K.2.1 G (cbM G M b st dy x br sp wa ac ps pp pu lo un op pi cn vl du io hp hs) N d oog opr opc ovl opo opt osr (wa m) ((b + 11 + m)) (cb_war (by omega)) (by omega)) od_o rfl rfl ⟨Nat.le_of_ble_eq_true rfl, Nat.le_of_ble_eq_true rfl⟩ (Nat.le_of_ble_eq_true rfl) ⟨Nat.zero_le _, Nat.zero_le _⟩ ?_
  refine r_istore_n ok [(3, .int (lsum (zOcT (wa m) opr) 8)), (0, .ref b), (1, .int (nI (m))), (2, .ref d)] dX0_charge_10 rfl (by decide) rfl ?_
  refine r_aload_n ok dX0_charge_11 3 rfl rfl ?_
  refine r_getf ok ci_X1 fl_X0_148 (by decide) dX0_charge_12 od_o rfl ?_
  refine r_getf ok ci_X4 fl_X0_149 (by decide) dX0_charge_15 od_h rfl ?_
  refine r_iload_n ok dX0_charge_18 2 rfl rfl ?_
  refine r_ialdN ok (by omega) (by omega) dX0_charge_19 od_s ?_
  refine r_istore ok [(4, .int (osr m)), (3, .int (lsum (zOcT (wa m) opr) 8)), (0, .ref b), (1, .int (nI (m))), (2, .ref d)] dX0_charge_20 (by decide) rfl ?_
  refine r_aload_n ok dX0_charge_22 2 rfl rfl ?_
  refine r_getf ok ci_X0 fl_X0_38 (by decide) dX0_charge_23 ((od_out (by omega)).trans cb_o) rfl ?_
  refine r_iload_n ok dX0_charge_26 3 rfl rfl ?_
  refine r_dup2 ok dX0_charge_27 rfl rfl ?_
  refine r_ialdN ok (by omega) (by omega) dX0_charge_28 ((od_out (by omega)).trans cb_ac) ?_
  refine r_iload_n ok dX0_charge_29 1 rfl rfl ?_
  refine r_iload ok dX0_charge_30 0 rfl ?_
  refine r_iadd ok dX0_charge_32 ?_
  refine r_isub ok dX0_charge_33 ?_
  refine r_iastN ok (by omega) (by omega) dX0_charge_34 ((od_out (by omega)).trans cb_ac) ((od_zu (by omega)).trans (congrArg (fun z => odM G z d oog opr opc ovl opo opt osr) (cbw_ac _))) ?_
  refine r_aload_n ok dX0_charge_35 2 rfl rfl ?_
  refine r_getf ok ci_X0 fl_X0_41 (by decide) dX0_charge_36 ((od_out (by omega)).trans cb_o) rfl ?_
  refine r_iload_n ok dX0_charge_39 3 rfl rfl ?_
  refine r_dup2 ok dX0_charge_40 rfl rfl ?_
  refine r_ialdN ok (by omega) (by omega) dX0_charge_41 ((od_out (by omega)).trans cb_ps) ?_
  refine r_iload_n ok dX0_charge_42 1 rfl rfl ?_
  refine r_iadd ok dX0_charge_43 ?_
  refine r_iastN ok (by omega) (by omega) dX0_charge_44 ((od_out (by omega)).trans cb_ps) ((od_zu (by omega)).trans (congrArg (fun z => odM G z d oog opr opc ovl opo opt osr) (cbw_ps _))) ?_
  refine r_aload_n ok dX0_charge_45 2 rfl rfl ?_
  refine r_getf ok ci_X0 fl_X0_44 (by decide) dX0_charge_46 ((od_out (by omega)).trans cb_o) rfl ?_
  refine r_iload_n ok dX0_charge_49 3 rfl rfl ?_
  refine r_dup2 ok dX0_charge_50 rfl rfl ?_
  refine r_ialdN ok (by omega) (by omega) dX0_charge_51 ((od_out (by omega)).trans cb_pp) ?_
  refine r_iload ok dX0_charge_52 0 rfl ?_
  refine r_iadd ok dX0_charge_54 ?_
  refine r_iastN ok (by omega) (by omega) dX0_charge_55 ((od_out (by omega)).trans cb_pp) ((od_zu (by omega)).trans (congrArg (fun z => odM G z d oog opr opc ovl opo opt osr) (cbw_pp _))) ?_
  exact r_vret ok dX0_charge_56 rfl ⟨rfl, (by rfl)⟩
