set_option maxHeartbeats 4000000 in
set_option maxRecDepth 100000 in
theorem c_X6_day (l : Launch) (G : zG) (M : zM) (N a : Nat) (s sA sH sL : Nat → Int32) (sI : Nat → Bool) (sP sT sG : Nat → Int32) (kp ln po : Int32) (wr : Bool) (pn : Nat)  (hp : s 14 = nI pn) (hp5 : pn ≤ 5) (hok : zDyOkR (s, sT, sG, pn)) : zC l G yX6_day cX6_day 5 (some .int) 4 88 0 0 [.ref a] (mdM G M a s sA sH sL sI sP sT sG kp ln po wr) N (zP (some (.int (nI ((zDyE (s, sT, sG, pn)).2.2.2.2.2)))) (mdM G M a ((zDyE (s, sT, sG, pn)).1) sA sH sL sI sP ((zDyE (s, sT, sG, pn)).2.1) ((zDyE (s, sT, sG, pn)).2.2.1) kp ln po wr)) := by
  refine zC.of (by decide +kernel) (Nat.le_of_ble_eq_true rfl) ?_
  intro K hKl ok
  subst hKl
  show zW K G 5 _ 0 0 _ N 0 [(0, .ref a)] []
  refine r_aload_n ok dX6_day_0 0 rfl rfl ?_
  refine r_getf ok ci_X6 fl_X6_7 (by decide) dX6_day_1 md_o rfl ?_
  refine r_bipush ok (nI 9) dX6_day_4 (by rfl) ?_
  refine r_dup2 ok dX6_day_6 rfl rfl ?_
  refine r_ialdN ok (by omega) (by omega) dX6_day_7 md_s ?_
  refine r_iconst ok (nI 1) dX6_day_8 (by rfl) ?_
  refine r_iadd ok dX6_day_9 ?_
  refine r_iastN ok (by omega) (by omega) dX6_day_10 md_s (mdw_s _) ?_
  refine r_iconst ok (nI 0) dX6_day_11 (by rfl) ?_
  refine r_istore_n ok [(1, .int (nI 0)), (0, .ref a)] dX6_day_12 rfl (by decide) rfl ?_
  refine r_iconst ok (nI 0) dX6_day_13 (by rfl) ?_
  refine r_istore_n ok [(2, .int (nI 0)), (1, .int (nI 0)), (0, .ref a)] dX6_day_14 rfl (by decide) rfl ?_
  have L1 : ∀ (nL1 : Nat) (k : Nat), ((k + nL1 = pn)) → zW K G 5 (zQ K G (N + 0) 0 0 (zP (some (.int (nI ((zDyE (s, sT, sG, pn)).2.2.2.2.2)))) (mdM G M a ((zDyE (s, sT, sG, pn)).1) sA sH sL sI sP ((zDyE (s, sT, sG, pn)).2.1) ((zDyE (s, sT, sG, pn)).2.2.1) kp ln po wr))) 0 0 (mdM G M a ((zDyL (zDy0 s sT sG pn) k).1) sA sH sL sI sP ((zDyL (zDy0 s sT sG pn) k).2.1) ((zDyL (zDy0 s sT sG pn) k).2.2.1) kp ln po wr) N 15 [(0, .ref a), (1, .int (nI ((zDyL (zDy0 s sT sG pn) k).2.2.2.2.2))), (2, .int (nI ((zDyL (zDy0 s sT sG pn) k).2.2.2.1)))] [] := by
    intro nL1
    induction nL1 with
    | zero =>
      intro k hk_k 
      obtain ⟨hq, hpq, hqn⟩ := zDy_inv (sT := sT) (sG := sG) hp k (by omega)
      obtain rfl : pn = k := by omega
      refine r_iload_n ok dX6_day_15 2 rfl rfl ?_
      refine r_aload_n ok dX6_day_16 0 rfl rfl ?_
      refine r_getf ok ci_X6 fl_X6_7 (by decide) dX6_day_17 md_o rfl ?_
      refine r_bipush ok (nI 14) dX6_day_20 (by rfl) ?_
      refine r_ialdN ok (by omega) (by omega) dX6_day_22 md_s ?_
      refine zW.to (st' := [.int (nI ((zDyL (zDy0 s sT sG pn) pn).2.2.2.2.1)), .int (nI ((zDyL (zDy0 s sT sG pn) pn).2.2.2.1))]) ?_ rfl rfl (congrArg (fun z => (Value.int z :: [.int (nI ((zDyL (zDy0 s sT sG pn) pn).2.2.2.1))] : List Value)) (show ((zDyL (zDy0 s sT sG pn) pn).1) 14 = nI ((zDyL (zDy0 s sT sG pn) pn).2.2.2.2.1) from hq))
      refine r_icmp_geN ok 107 (by omega) (by omega) dX6_day_23 (by decide) (fun c23_2 => ?_) (fun c23_2 => ?_)
      · skip
        refine r_iload_n ok dX6_day_107 1 rfl rfl ?_
        exact r_iret ok dX6_day_108 rfl ⟨congrArg (fun z => some (Value.int z)) (show nI ((zDyL (zDy0 s sT sG pn) pn).2.2.2.2.2) = nI ((zDyE (s, sT, sG, pn)).2.2.2.2.2) from by rfl), (by rfl)⟩
      · skip
        exact absurd c23_2 (by omega)
    | succ nL1 ihL1 =>
      intro k hk_k 
      obtain ⟨hq, hpq, hqn⟩ := zDy_inv (sT := sT) (sG := sG) hp k (by omega)
      refine r_iload_n ok dX6_day_15 2 rfl rfl ?_
      refine r_aload_n ok dX6_day_16 0 rfl rfl ?_
      refine r_getf ok ci_X6 fl_X6_7 (by decide) dX6_day_17 md_o rfl ?_
      refine r_bipush ok (nI 14) dX6_day_20 (by rfl) ?_
      refine r_ialdN ok (by omega) (by omega) dX6_day_22 md_s ?_
      refine zW.to (st' := [.int (nI ((zDyL (zDy0 s sT sG pn) k).2.2.2.2.1)), .int (nI ((zDyL (zDy0 s sT sG pn) k).2.2.2.1))]) ?_ rfl rfl (congrArg (fun z => (Value.int z :: [.int (nI ((zDyL (zDy0 s sT sG pn) k).2.2.2.1))] : List Value)) (show ((zDyL (zDy0 s sT sG pn) k).1) 14 = nI ((zDyL (zDy0 s sT sG pn) k).2.2.2.2.1) from hq))
      refine r_icmp_geN ok 107 (by omega) (by omega) dX6_day_23 (by decide) (fun c23_3 => ?_) (fun c23_3 => ?_)
      · skip
        exact absurd c23_3 (by omega)
      · skip
        refine r_aload_n ok dX6_day_26 0 rfl rfl ?_
        refine r_getf ok ci_X6 fl_X6_7 (by decide) dX6_day_27 md_o rfl ?_
        refine r_iload_n ok dX6_day_30 2 rfl rfl ?_
        refine r_iconst ok (nI 1) dX6_day_31 (by rfl) ?_
        refine r_cS1 ok [.ref (a + 1)] mi_X6_ofParcel ml_X6_84 sm_X6_ofParcel dX6_day_32 (c_X6_ofParcel K.2.1 G (mdM G M a ((zDyL (zDy0 s sT sG pn) k).1) sA sH sL sI sP ((zDyL (zDy0 s sT sG pn) k).2.1) ((zDyL (zDy0 s sT sG pn) k).2.2.1) kp ln po wr) N  ((zDyL (zDy0 s sT sG pn) k).2.2.2.1) 1 ) rfl rfl ⟨Nat.le_of_ble_eq_true rfl, Nat.le_of_ble_eq_true rfl⟩ (Nat.le_of_ble_eq_true rfl) ⟨Nat.zero_le _, Nat.zero_le _⟩ ?_
        refine r_ialdN ok (by omega) (by omega) dX6_day_35 md_s ?_
        refine r_aload_n ok dX6_day_36 0 rfl rfl ?_
        refine r_getf ok ci_X6 fl_X6_7 (by decide) dX6_day_37 md_o rfl ?_
        refine r_bipush ok (nI 9) dX6_day_40 (by rfl) ?_
        refine r_ialdN ok (by omega) (by omega) dX6_day_42 md_s ?_
        refine r_icmp_ne ok 50 dX6_day_43 (by decide) (fun c43_4 => ?_) (fun c43_4 => ?_)
        · skip
          have e := zDy_ne (e := zDy0 s sT sG pn) (k := k) c43_4
          refine r_iconst ok (nI 0) dX6_day_50 (by rfl) ?_
          refine r_istore_n ok [(3, .int (nI 0)), (0, .ref a), (1, .int (nI ((zDyL (zDy0 s sT sG pn) k).2.2.2.2.2))), (2, .int (nI ((zDyL (zDy0 s sT sG pn) k).2.2.2.1)))] dX6_day_51 rfl (by decide) rfl ?_
          refine r_iload_n ok dX6_day_52 0 rfl rfl ?_
          refine r_if_eqN ok 82 (by omega) dX6_day_53 (by decide) (fun _ => ?_) (fun c => absurd c (by decide))
          refine r_iconst ok (nI 0) dX6_day_82 (by rfl) ?_
          refine r_istore ok [(4, .int (nI 0)), (3, .int (nI 0)), (0, .ref a), (1, .int (nI ((zDyL (zDy0 s sT sG pn) k).2.2.2.2.2))), (2, .int (nI ((zDyL (zDy0 s sT sG pn) k).2.2.2.1)))] dX6_day_83 (by decide) rfl ?_
          refine r_iload ok dX6_day_85 0 rfl ?_
          refine r_if_eqN ok 101 (by omega) dX6_day_87 (by decide) (fun _ => ?_) (fun c => absurd c (by decide))
          refine r_iincN ok (c := 1) [(2, .int (nI ((zDyL (zDy0 s sT sG pn) k).2.2.2.1 + 1))), (4, .int (nI 0)), (3, .int (nI 0)), (0, .ref a), (1, .int (nI ((zDyL (zDy0 s sT sG pn) k).2.2.2.2.2)))] dX6_day_101 4 rfl (by rfl) (by decide) rfl ?_
          refine r_goto ok 15 dX6_day_104 (by decide) ?_
          have q7 : Value.int (nI ((zDyL (zDy0 s sT sG pn) k).2.2.2.2.2)) = Value.int (nI ((zDyL (zDy0 s sT sG pn) (k + 1)).2.2.2.2.2)) := by first | with_reducible rfl | (rw [e])
          have q8 : Value.int (nI ((zDyL (zDy0 s sT sG pn) k).2.2.2.1 + 1)) = Value.int (nI ((zDyL (zDy0 s sT sG pn) (k + 1)).2.2.2.1)) := by first | with_reducible rfl | (rw [e])
          have q9 : ((zDyL (zDy0 s sT sG pn) k).1 : Nat → Int32) = (zDyL (zDy0 s sT sG pn) (k + 1)).1 := by first | with_reducible rfl | (rw [e])
          have q10 : ((zDyL (zDy0 s sT sG pn) k).2.1 : Nat → Int32) = (zDyL (zDy0 s sT sG pn) (k + 1)).2.1 := by first | with_reducible rfl | (rw [e])
          have q11 : ((zDyL (zDy0 s sT sG pn) k).2.2.1 : Nat → Int32) = (zDyL (zDy0 s sT sG pn) (k + 1)).2.2.1 := by first | with_reducible rfl | (rw [e])
          refine zW.forget (lv' := [(0, .ref a), (1, .int (nI ((zDyL (zDy0 s sT sG pn) k).2.2.2.2.2))), (2, .int (nI ((zDyL (zDy0 s sT sG pn) k).2.2.2.1 + 1)))]) ?_ [3, 4, 0] rfl
          refine zW.to (lv' := [(0, .ref a), (1, .int (nI ((zDyL (zDy0 s sT sG pn) (k + 1)).2.2.2.2.2))), (2, .int (nI ((zDyL (zDy0 s sT sG pn) k).2.2.2.1 + 1)))]) ?_ rfl (congrArg (fun z => ([(0, .ref a), (1, z), (2, .int (nI ((zDyL (zDy0 s sT sG pn) k).2.2.2.1 + 1)))] : List (Nat × Value))) q7) rfl
          refine zW.to (lv' := [(0, .ref a), (1, .int (nI ((zDyL (zDy0 s sT sG pn) (k + 1)).2.2.2.2.2))), (2, .int (nI ((zDyL (zDy0 s sT sG pn) (k + 1)).2.2.2.1)))]) ?_ rfl (congrArg (fun z => ([(0, .ref a), (1, .int (nI ((zDyL (zDy0 s sT sG pn) (k + 1)).2.2.2.2.2))), (2, z)] : List (Nat × Value))) q8) rfl
          refine zW.to ?_ (congrArg (fun z => mdM G M a z sA sH sL sI sP ((zDyL (zDy0 s sT sG pn) k).2.1) ((zDyL (zDy0 s sT sG pn) k).2.2.1) kp ln po wr) q9) rfl rfl
          refine zW.to ?_ (congrArg (fun z => mdM G M a ((zDyL (zDy0 s sT sG pn) (k + 1)).1) sA sH sL sI sP z ((zDyL (zDy0 s sT sG pn) k).2.2.1) kp ln po wr) q10) rfl rfl
          refine zW.to ?_ (congrArg (fun z => mdM G M a ((zDyL (zDy0 s sT sG pn) (k + 1)).1) sA sH sL sI sP ((zDyL (zDy0 s sT sG pn) (k + 1)).2.1) z kp ln po wr) q11) rfl rfl
          exact ihL1 (k + 1) (by omega)
        · skip
          have hd := c43_4
          refine r_iconst ok (nI 1) dX6_day_46 (by rfl) ?_
          refine r_goto ok 51 dX6_day_47 (by decide) ?_
          refine r_istore_n ok [(3, .int (nI 1)), (0, .ref a), (1, .int (nI ((zDyL (zDy0 s sT sG pn) k).2.2.2.2.2))), (2, .int (nI ((zDyL (zDy0 s sT sG pn) k).2.2.2.1)))] dX6_day_51 rfl (by decide) rfl ?_
          refine r_iload_n ok dX6_day_52 0 rfl rfl ?_
          refine r_if_eqN ok 82 (by omega) dX6_day_53 (by decide) (fun c => absurd c (by decide)) (fun _ => ?_)
          refine r_aload_n ok dX6_day_56 1 rfl rfl ?_
          refine r_getf ok ci_X6 fl_X6_7 (by decide) dX6_day_57 md_o rfl ?_
          refine r_iload_n ok dX6_day_60 3 rfl rfl ?_
          refine r_iconst ok (nI 2) dX6_day_61 (by rfl) ?_
          refine r_cS1 ok [.ref (a + 1)] mi_X6_ofParcel ml_X6_84 sm_X6_ofParcel dX6_day_62 (c_X6_ofParcel K.2.1 G (mdM G M a ((zDyL (zDy0 s sT sG pn) k).1) sA sH sL sI sP ((zDyL (zDy0 s sT sG pn) k).2.1) ((zDyL (zDy0 s sT sG pn) k).2.2.1) kp ln po wr) N  ((zDyL (zDy0 s sT sG pn) k).2.2.2.1) 2 ) rfl rfl ⟨Nat.le_of_ble_eq_true rfl, Nat.le_of_ble_eq_true rfl⟩ (Nat.le_of_ble_eq_true rfl) ⟨Nat.zero_le _, Nat.zero_le _⟩ ?_
          refine r_ialdN ok (by omega) (by omega) dX6_day_65 md_s ?_
          refine r_iconst ok (nI 1) dX6_day_66 (by rfl) ?_
          refine r_icmp_eq ok 78 dX6_day_67 (by decide) (fun c67_13 => ?_) (fun c67_13 => ?_)
          · skip
            have e := zDy_op (e := zDy0 s sT sG pn) (k := k) hd c67_13
            refine r_iconst ok (nI 1) dX6_day_78 (by rfl) ?_
            refine r_goto ok 83 dX6_day_79 (by decide) ?_
            refine r_istore ok [(4, .int (nI 1)), (3, .int (nI 1)), (0, .ref a), (1, .int (nI ((zDyL (zDy0 s sT sG pn) k).2.2.2.2.2))), (2, .int (nI ((zDyL (zDy0 s sT sG pn) k).2.2.2.1)))] dX6_day_83 (by decide) rfl ?_
            refine r_iload ok dX6_day_85 0 rfl ?_
            refine r_if_eqN ok 101 (by omega) dX6_day_87 (by decide) (fun c => absurd c (by decide)) (fun _ => ?_)
            refine r_aload_n ok dX6_day_90 2 rfl rfl ?_
            refine r_iload_n ok dX6_day_91 4 rfl rfl ?_
            refine r_cV0 ok [] mi_X6_comesHome ci_X6 ml_X6_110 im_X6_comesHome se_X6_comesHome dX6_day_92 (c_X6_comesHome K.2.1 G M N a ((zDyL (zDy0 s sT sG pn) k).1) sA sH sL sI sP ((zDyL (zDy0 s sT sG pn) k).2.1) ((zDyL (zDy0 s sT sG pn) k).2.2.1) kp ln po wr ((zDyL (zDy0 s sT sG pn) k).2.2.2.2.1) ((zDyL (zDy0 s sT sG pn) k).2.2.2.1) (by first | exact hq | exact zCuS_14.trans hq) (by omega) (by omega)) md_o rfl rfl ⟨Nat.le_of_ble_eq_true rfl, Nat.le_of_ble_eq_true rfl⟩ (Nat.le_of_ble_eq_true rfl) ⟨Nat.zero_le _, Nat.zero_le _⟩ ?_
            refine r_iincN ok (c := 1) [(1, .int (nI ((zDyL (zDy0 s sT sG pn) k).2.2.2.2.2 + 1))), (4, .int (nI 1)), (3, .int (nI 1)), (0, .ref a), (2, .int (nI ((zDyL (zDy0 s sT sG pn) k).2.2.2.1)))] dX6_day_95 3 rfl (by rfl) (by decide) rfl ?_
            refine r_goto ok 104 dX6_day_98 (by decide) ?_
            refine r_goto ok 15 dX6_day_104 (by decide) ?_
            have q15 : Value.int (nI ((zDyL (zDy0 s sT sG pn) k).2.2.2.2.2 + 1)) = Value.int (nI ((zDyL (zDy0 s sT sG pn) (k + 1)).2.2.2.2.2)) := by first | with_reducible rfl | (rw [e])
            have q16 : Value.int (nI ((zDyL (zDy0 s sT sG pn) k).2.2.2.1)) = Value.int (nI ((zDyL (zDy0 s sT sG pn) (k + 1)).2.2.2.1)) := by first | with_reducible rfl | (rw [e])
            have q17 : (zCH ((zDyL (zDy0 s sT sG pn) k).1) ((zDyL (zDy0 s sT sG pn) k).2.2.2.1) ((zDyL (zDy0 s sT sG pn) k).2.2.2.2.1) : Nat → Int32) = (zDyL (zDy0 s sT sG pn) (k + 1)).1 := by first | with_reducible rfl | (rw [e])
            have q18 : ((zDyL (zDy0 s sT sG pn) k).2.1 : Nat → Int32) = (zDyL (zDy0 s sT sG pn) (k + 1)).2.1 := by first | with_reducible rfl | (rw [e])
            have q19 : ((zDyL (zDy0 s sT sG pn) k).2.2.1 : Nat → Int32) = (zDyL (zDy0 s sT sG pn) (k + 1)).2.2.1 := by first | with_reducible rfl | (rw [e])
            refine zW.forget (lv' := [(0, .ref a), (1, .int (nI ((zDyL (zDy0 s sT sG pn) k).2.2.2.2.2 + 1))), (2, .int (nI ((zDyL (zDy0 s sT sG pn) k).2.2.2.1)))]) ?_ [3, 0, 4] rfl
            refine zW.to (lv' := [(0, .ref a), (1, .int (nI ((zDyL (zDy0 s sT sG pn) (k + 1)).2.2.2.2.2))), (2, .int (nI ((zDyL (zDy0 s sT sG pn) k).2.2.2.1)))]) ?_ rfl (congrArg (fun z => ([(0, .ref a), (1, z), (2, .int (nI ((zDyL (zDy0 s sT sG pn) k).2.2.2.1)))] : List (Nat × Value))) q15) rfl
            refine zW.to (lv' := [(0, .ref a), (1, .int (nI ((zDyL (zDy0 s sT sG pn) (k + 1)).2.2.2.2.2))), (2, .int (nI ((zDyL (zDy0 s sT sG pn) (k + 1)).2.2.2.1)))]) ?_ rfl (congrArg (fun z => ([(0, .ref a), (1, .int (nI ((zDyL (zDy0 s sT sG pn) (k + 1)).2.2.2.2.2))), (2, z)] : List (Nat × Value))) q16) rfl
            refine zW.to ?_ (congrArg (fun z => mdM G M a z sA sH sL sI sP ((zDyL (zDy0 s sT sG pn) k).2.1) ((zDyL (zDy0 s sT sG pn) k).2.2.1) kp ln po wr) q17) rfl rfl
            refine zW.to ?_ (congrArg (fun z => mdM G M a ((zDyL (zDy0 s sT sG pn) (k + 1)).1) sA sH sL sI sP z ((zDyL (zDy0 s sT sG pn) k).2.2.1) kp ln po wr) q18) rfl rfl
            refine zW.to ?_ (congrArg (fun z => mdM G M a ((zDyL (zDy0 s sT sG pn) (k + 1)).1) sA sH sL sI sP ((zDyL (zDy0 s sT sG pn) (k + 1)).2.1) z kp ln po wr) q19) rfl rfl
            exact ihL1 (k + 1) (by omega)
          · skip
            have ho := c67_13
            have hcu := hok.2.2 k (show k < pn from by omega) hd ho
            refine r_aload_n ok dX6_day_70 1 rfl rfl ?_
            refine r_iload_n ok dX6_day_71 3 rfl rfl ?_
            refine r_cV1 ok [] mi_X6_comesToCustoms ci_X6 ml_X6_106 im_X6_comesToCustoms se_X6_comesToCustoms dX6_day_72 (c_X6_comesToCustoms K.2.1 G M N a ((zDyL (zDy0 s sT sG pn) k).1) sA sH sL sI sP ((zDyL (zDy0 s sT sG pn) k).2.1) ((zDyL (zDy0 s sT sG pn) k).2.2.1) kp ln po wr  ((zDyL (zDy0 s sT sG pn) k).2.2.2.1) (by omega) hcu.1 hcu.2) md_o rfl rfl ⟨Nat.le_of_ble_eq_true rfl, Nat.le_of_ble_eq_true rfl⟩ (Nat.le_of_ble_eq_true rfl) ⟨Nat.zero_le _, Nat.zero_le _⟩ ?_
            refine r_ifeqZ ok 82 dX6_day_75 (by decide) (fun c75_20 => ?_) (fun c75_20 => ?_)
            · skip
              have e := zDy_st (e := zDy0 s sT sG pn) (k := k) hd ho c75_20
              refine r_iconst ok (nI 0) dX6_day_82 (by rfl) ?_
              refine r_istore ok [(4, .int (nI 0)), (3, .int (nI 1)), (0, .ref a), (1, .int (nI ((zDyL (zDy0 s sT sG pn) k).2.2.2.2.2))), (2, .int (nI ((zDyL (zDy0 s sT sG pn) k).2.2.2.1)))] dX6_day_83 (by decide) rfl ?_
              refine r_iload ok dX6_day_85 0 rfl ?_
              refine r_if_eqN ok 101 (by omega) dX6_day_87 (by decide) (fun _ => ?_) (fun c => absurd c (by decide))
              refine r_iincN ok (c := 1) [(2, .int (nI ((zDyL (zDy0 s sT sG pn) k).2.2.2.1 + 1))), (4, .int (nI 0)), (3, .int (nI 1)), (0, .ref a), (1, .int (nI ((zDyL (zDy0 s sT sG pn) k).2.2.2.2.2)))] dX6_day_101 4 rfl (by rfl) (by decide) rfl ?_
              refine r_goto ok 15 dX6_day_104 (by decide) ?_
              have q22 : Value.int (nI ((zDyL (zDy0 s sT sG pn) k).2.2.2.2.2)) = Value.int (nI ((zDyL (zDy0 s sT sG pn) (k + 1)).2.2.2.2.2)) := by first | with_reducible rfl | (rw [e])
              have q23 : Value.int (nI ((zDyL (zDy0 s sT sG pn) k).2.2.2.1 + 1)) = Value.int (nI ((zDyL (zDy0 s sT sG pn) (k + 1)).2.2.2.1)) := by first | with_reducible rfl | (rw [e])
              have q24 : (zCuS ((zDyL (zDy0 s sT sG pn) k).1) ((zDyL (zDy0 s sT sG pn) k).2.1) ((zDyL (zDy0 s sT sG pn) k).2.2.1) ((zDyL (zDy0 s sT sG pn) k).2.2.2.1) : Nat → Int32) = (zDyL (zDy0 s sT sG pn) (k + 1)).1 := by first | with_reducible rfl | (rw [e])
              have q25 : (zCuT ((zDyL (zDy0 s sT sG pn) k).1) ((zDyL (zDy0 s sT sG pn) k).2.1) ((zDyL (zDy0 s sT sG pn) k).2.2.2.1) : Nat → Int32) = (zDyL (zDy0 s sT sG pn) (k + 1)).2.1 := by first | with_reducible rfl | (rw [e])
              have q26 : (zCuG ((zDyL (zDy0 s sT sG pn) k).1) ((zDyL (zDy0 s sT sG pn) k).2.1) ((zDyL (zDy0 s sT sG pn) k).2.2.1) ((zDyL (zDy0 s sT sG pn) k).2.2.2.1) : Nat → Int32) = (zDyL (zDy0 s sT sG pn) (k + 1)).2.2.1 := by first | with_reducible rfl | (rw [e])
              refine zW.forget (lv' := [(0, .ref a), (1, .int (nI ((zDyL (zDy0 s sT sG pn) k).2.2.2.2.2))), (2, .int (nI ((zDyL (zDy0 s sT sG pn) k).2.2.2.1 + 1)))]) ?_ [3, 4, 0] rfl
              refine zW.to (lv' := [(0, .ref a), (1, .int (nI ((zDyL (zDy0 s sT sG pn) (k + 1)).2.2.2.2.2))), (2, .int (nI ((zDyL (zDy0 s sT sG pn) k).2.2.2.1 + 1)))]) ?_ rfl (congrArg (fun z => ([(0, .ref a), (1, z), (2, .int (nI ((zDyL (zDy0 s sT sG pn) k).2.2.2.1 + 1)))] : List (Nat × Value))) q22) rfl
              refine zW.to (lv' := [(0, .ref a), (1, .int (nI ((zDyL (zDy0 s sT sG pn) (k + 1)).2.2.2.2.2))), (2, .int (nI ((zDyL (zDy0 s sT sG pn) (k + 1)).2.2.2.1)))]) ?_ rfl (congrArg (fun z => ([(0, .ref a), (1, .int (nI ((zDyL (zDy0 s sT sG pn) (k + 1)).2.2.2.2.2))), (2, z)] : List (Nat × Value))) q23) rfl
              refine zW.to ?_ (congrArg (fun z => mdM G M a z sA sH sL sI sP (zCuT ((zDyL (zDy0 s sT sG pn) k).1) ((zDyL (zDy0 s sT sG pn) k).2.1) ((zDyL (zDy0 s sT sG pn) k).2.2.2.1)) (zCuG ((zDyL (zDy0 s sT sG pn) k).1) ((zDyL (zDy0 s sT sG pn) k).2.1) ((zDyL (zDy0 s sT sG pn) k).2.2.1) ((zDyL (zDy0 s sT sG pn) k).2.2.2.1)) kp ln po wr) q24) rfl rfl
              refine zW.to ?_ (congrArg (fun z => mdM G M a ((zDyL (zDy0 s sT sG pn) (k + 1)).1) sA sH sL sI sP z (zCuG ((zDyL (zDy0 s sT sG pn) k).1) ((zDyL (zDy0 s sT sG pn) k).2.1) ((zDyL (zDy0 s sT sG pn) k).2.2.1) ((zDyL (zDy0 s sT sG pn) k).2.2.2.1)) kp ln po wr) q25) rfl rfl
              refine zW.to ?_ (congrArg (fun z => mdM G M a ((zDyL (zDy0 s sT sG pn) (k + 1)).1) sA sH sL sI sP ((zDyL (zDy0 s sT sG pn) (k + 1)).2.1) z kp ln po wr) q26) rfl rfl
              exact ihL1 (k + 1) (by omega)
            · skip
              have e := zDy_cu (e := zDy0 s sT sG pn) (k := k) hd ho c75_20
              refine r_iconst ok (nI 1) dX6_day_78 (by rfl) ?_
              refine r_goto ok 83 dX6_day_79 (by decide) ?_
              refine r_istore ok [(4, .int (nI 1)), (3, .int (nI 1)), (0, .ref a), (1, .int (nI ((zDyL (zDy0 s sT sG pn) k).2.2.2.2.2))), (2, .int (nI ((zDyL (zDy0 s sT sG pn) k).2.2.2.1)))] dX6_day_83 (by decide) rfl ?_
              refine r_iload ok dX6_day_85 0 rfl ?_
              refine r_if_eqN ok 101 (by omega) dX6_day_87 (by decide) (fun c => absurd c (by decide)) (fun _ => ?_)
              refine r_aload_n ok dX6_day_90 2 rfl rfl ?_
              refine r_iload_n ok dX6_day_91 4 rfl rfl ?_
              refine r_cV0 ok [] mi_X6_comesHome ci_X6 ml_X6_110 im_X6_comesHome se_X6_comesHome dX6_day_92 (c_X6_comesHome K.2.1 G M N a (zCuS ((zDyL (zDy0 s sT sG pn) k).1) ((zDyL (zDy0 s sT sG pn) k).2.1) ((zDyL (zDy0 s sT sG pn) k).2.2.1) ((zDyL (zDy0 s sT sG pn) k).2.2.2.1)) sA sH sL sI sP (zCuT ((zDyL (zDy0 s sT sG pn) k).1) ((zDyL (zDy0 s sT sG pn) k).2.1) ((zDyL (zDy0 s sT sG pn) k).2.2.2.1)) (zCuG ((zDyL (zDy0 s sT sG pn) k).1) ((zDyL (zDy0 s sT sG pn) k).2.1) ((zDyL (zDy0 s sT sG pn) k).2.2.1) ((zDyL (zDy0 s sT sG pn) k).2.2.2.1)) kp ln po wr ((zDyL (zDy0 s sT sG pn) k).2.2.2.2.1) ((zDyL (zDy0 s sT sG pn) k).2.2.2.1) (by first | exact hq | exact zCuS_14.trans hq) (by omega) (by omega)) md_o rfl rfl ⟨Nat.le_of_ble_eq_true rfl, Nat.le_of_ble_eq_true rfl⟩ (Nat.le_of_ble_eq_true rfl) ⟨Nat.zero_le _, Nat.zero_le _⟩ ?_
              refine r_iincN ok (c := 1) [(1, .int (nI ((zDyL (zDy0 s sT sG pn) k).2.2.2.2.2 + 1))), (4, .int (nI 1)), (3, .int (nI 1)), (0, .ref a), (2, .int (nI ((zDyL (zDy0 s sT sG pn) k).2.2.2.1)))] dX6_day_95 3 rfl (by rfl) (by decide) rfl ?_
              refine r_goto ok 104 dX6_day_98 (by decide) ?_
              refine r_goto ok 15 dX6_day_104 (by decide) ?_
              have q28 : Value.int (nI ((zDyL (zDy0 s sT sG pn) k).2.2.2.2.2 + 1)) = Value.int (nI ((zDyL (zDy0 s sT sG pn) (k + 1)).2.2.2.2.2)) := by first | with_reducible rfl | (rw [e])
              have q29 : Value.int (nI ((zDyL (zDy0 s sT sG pn) k).2.2.2.1)) = Value.int (nI ((zDyL (zDy0 s sT sG pn) (k + 1)).2.2.2.1)) := by first | with_reducible rfl | (rw [e])
              have q30 : (zCH (zCuS ((zDyL (zDy0 s sT sG pn) k).1) ((zDyL (zDy0 s sT sG pn) k).2.1) ((zDyL (zDy0 s sT sG pn) k).2.2.1) ((zDyL (zDy0 s sT sG pn) k).2.2.2.1)) ((zDyL (zDy0 s sT sG pn) k).2.2.2.1) ((zDyL (zDy0 s sT sG pn) k).2.2.2.2.1) : Nat → Int32) = (zDyL (zDy0 s sT sG pn) (k + 1)).1 := by first | with_reducible rfl | (rw [e])
              have q31 : (zCuT ((zDyL (zDy0 s sT sG pn) k).1) ((zDyL (zDy0 s sT sG pn) k).2.1) ((zDyL (zDy0 s sT sG pn) k).2.2.2.1) : Nat → Int32) = (zDyL (zDy0 s sT sG pn) (k + 1)).2.1 := by first | with_reducible rfl | (rw [e])
              have q32 : (zCuG ((zDyL (zDy0 s sT sG pn) k).1) ((zDyL (zDy0 s sT sG pn) k).2.1) ((zDyL (zDy0 s sT sG pn) k).2.2.1) ((zDyL (zDy0 s sT sG pn) k).2.2.2.1) : Nat → Int32) = (zDyL (zDy0 s sT sG pn) (k + 1)).2.2.1 := by first | with_reducible rfl | (rw [e])
              refine zW.forget (lv' := [(0, .ref a), (1, .int (nI ((zDyL (zDy0 s sT sG pn) k).2.2.2.2.2 + 1))), (2, .int (nI ((zDyL (zDy0 s sT sG pn) k).2.2.2.1)))]) ?_ [3, 0, 4] rfl
              refine zW.to (lv' := [(0, .ref a), (1, .int (nI ((zDyL (zDy0 s sT sG pn) (k + 1)).2.2.2.2.2))), (2, .int (nI ((zDyL (zDy0 s sT sG pn) k).2.2.2.1)))]) ?_ rfl (congrArg (fun z => ([(0, .ref a), (1, z), (2, .int (nI ((zDyL (zDy0 s sT sG pn) k).2.2.2.1)))] : List (Nat × Value))) q28) rfl
              refine zW.to (lv' := [(0, .ref a), (1, .int (nI ((zDyL (zDy0 s sT sG pn) (k + 1)).2.2.2.2.2))), (2, .int (nI ((zDyL (zDy0 s sT sG pn) (k + 1)).2.2.2.1)))]) ?_ rfl (congrArg (fun z => ([(0, .ref a), (1, .int (nI ((zDyL (zDy0 s sT sG pn) (k + 1)).2.2.2.2.2))), (2, z)] : List (Nat × Value))) q29) rfl
              refine zW.to ?_ (congrArg (fun z => mdM G M a z sA sH sL sI sP (zCuT ((zDyL (zDy0 s sT sG pn) k).1) ((zDyL (zDy0 s sT sG pn) k).2.1) ((zDyL (zDy0 s sT sG pn) k).2.2.2.1)) (zCuG ((zDyL (zDy0 s sT sG pn) k).1) ((zDyL (zDy0 s sT sG pn) k).2.1) ((zDyL (zDy0 s sT sG pn) k).2.2.1) ((zDyL (zDy0 s sT sG pn) k).2.2.2.1)) kp ln po wr) q30) rfl rfl
              refine zW.to ?_ (congrArg (fun z => mdM G M a ((zDyL (zDy0 s sT sG pn) (k + 1)).1) sA sH sL sI sP z (zCuG ((zDyL (zDy0 s sT sG pn) k).1) ((zDyL (zDy0 s sT sG pn) k).2.1) ((zDyL (zDy0 s sT sG pn) k).2.2.1) ((zDyL (zDy0 s sT sG pn) k).2.2.2.1)) kp ln po wr) q31) rfl rfl
              refine zW.to ?_ (congrArg (fun z => mdM G M a ((zDyL (zDy0 s sT sG pn) (k + 1)).1) sA sH sL sI sP ((zDyL (zDy0 s sT sG pn) (k + 1)).2.1) z kp ln po wr) q32) rfl rfl
              exact ihL1 (k + 1) (by omega)
  have q33 : Value.int (nI 0) = Value.int (nI ((zDyL (zDy0 s sT sG pn) 0).2.2.2.2.2)) := by first | with_reducible rfl | (rfl)
  have q34 : Value.int (nI 0) = Value.int (nI ((zDyL (zDy0 s sT sG pn) 0).2.2.2.1)) := by first | with_reducible rfl | (rfl)
  have q35 : (upd s 9 ((s 9) + (nI 1)) : Nat → Int32) = (zDyL (zDy0 s sT sG pn) 0).1 := by first | with_reducible rfl | (rfl)
  have q36 : (sT : Nat → Int32) = (zDyL (zDy0 s sT sG pn) 0).2.1 := by first | with_reducible rfl | (rfl)
  have q37 : (sG : Nat → Int32) = (zDyL (zDy0 s sT sG pn) 0).2.2.1 := by first | with_reducible rfl | (rfl)
  refine zW.forget (lv' := [(0, .ref a), (1, .int (nI 0)), (2, .int (nI 0))]) ?_ [2, 1, 0] rfl
  refine zW.to (lv' := [(0, .ref a), (1, .int (nI ((zDyL (zDy0 s sT sG pn) 0).2.2.2.2.2))), (2, .int (nI 0))]) ?_ rfl (congrArg (fun z => ([(0, .ref a), (1, z), (2, .int (nI 0))] : List (Nat × Value))) q33) rfl
  refine zW.to (lv' := [(0, .ref a), (1, .int (nI ((zDyL (zDy0 s sT sG pn) 0).2.2.2.2.2))), (2, .int (nI ((zDyL (zDy0 s sT sG pn) 0).2.2.2.1)))]) ?_ rfl (congrArg (fun z => ([(0, .ref a), (1, .int (nI ((zDyL (zDy0 s sT sG pn) 0).2.2.2.2.2))), (2, z)] : List (Nat × Value))) q34) rfl
  refine zW.to ?_ (congrArg (fun z => mdM G M a z sA sH sL sI sP sT sG kp ln po wr) q35) rfl rfl
  refine zW.to ?_ (congrArg (fun z => mdM G M a ((zDyL (zDy0 s sT sG pn) 0).1) sA sH sL sI sP z sG kp ln po wr) q36) rfl rfl
  refine zW.to ?_ (congrArg (fun z => mdM G M a ((zDyL (zDy0 s sT sG pn) 0).1) sA sH sL sI sP ((zDyL (zDy0 s sT sG pn) 0).2.1) z kp ln po wr) q37) rfl rfl
  exact L1 pn 0 (by omega)
set_option maxHeartbeats 4000000 in
set_option maxRecDepth 100000 in
theorem c_X6_pass (l : Launch) (G : zG) (M : zM) (N a : Nat) (s sA sH sL : Nat → Int32) (sI : Nat → Bool) (sP sT sG : Nat → Int32) (kp ln po : Int32) (wr : Bool) (kn : Nat) (pn : Nat) (v : Int32) (hk : kn ≤ 6) (hday : ∀ k, k < 60 → zDyOkR (zPsR (s, sT, sG, pn) k)) : zC l G yX6_pass cX6_pass 4 (some .int) 5 112 0 0 [.ref a, .int (v)] (mdM G M a s sA sH sL sI sP sT sG (nI kn) ln po wr) N (zP (some (.int (zE (zDpassR s v) (zPsN (s, sT, sG, pn))))) (mdM G M a (zU (zDpassR s v) s (fun n => (zPsR (s, sT, sG, pn) n).1)) sA (zU ((zDpassR s v)) sH (fun _ => zRecH s sH kn)) sL sI sP (zU (zDpassR s v) sT (fun n => (zPsR (s, sT, sG, pn) n).2.1)) (zU (zDpassR s v) sG (fun n => (zPsR (s, sT, sG, pn) n).2.2.1)) (nI (zU ((zDpassR s v)) kn (fun _ => zRecK kn))) ln po wr)) := by
  refine zC.of (by decide +kernel) (Nat.le_of_ble_eq_true rfl) ?_
  intro K hKl ok
  subst hKl
  show zW K G 4 _ 0 0 _ N 0 [(0, .ref a), (1, .int (v))] []
  refine r_iload_n ok dX6_pass_0 1 rfl rfl ?_
  refine r_iconst ok (nI 1) dX6_pass_1 (by rfl) ?_
  refine r_bipush ok (nI 60) dX6_pass_2 (by rfl) ?_
  refine r_cS1 ok [] mi_X6_in ml_X6_35 sm_X6_in dX6_pass_4 (c_X6_in K.2.1 G (mdM G M a s sA sH sL sI sP sT sG (nI kn) ln po wr) N  v (nI 1) (nI 60) ) rfl rfl ⟨Nat.le_of_ble_eq_true rfl, Nat.le_of_ble_eq_true rfl⟩ (Nat.le_of_ble_eq_true rfl) ⟨Nat.zero_le _, Nat.zero_le _⟩ ?_
  refine r_ifneZ ok 13 dX6_pass_7 (by decide) (fun c7_1 => ?_) (fun c7_1 => ?_)
  · skip
    obtain ⟨vi, hv1, hv2, e_v, z_v⟩ := zDpR_in c7_1
    subst e_v
    refine r_aload_n ok dX6_pass_13 0 rfl rfl ?_
    refine r_getf ok ci_X6 fl_X6_7 (by decide) dX6_pass_14 md_o rfl ?_
    refine r_bipush ok (nI 9) dX6_pass_17 (by rfl) ?_
    refine r_ialdN ok (by omega) (by omega) dX6_pass_19 md_s ?_
    refine r_iload_n ok dX6_pass_20 1 rfl rfl ?_
    refine r_iadd ok dX6_pass_21 ?_
    refine r_sipush ok (nI 9999) dX6_pass_22 (by rfl) ?_
    refine r_icmp_le ok 31 dX6_pass_25 (by decide) (fun c25_2 => ?_) (fun c25_2 => ?_)
    · skip
      have hD : zDpassR s (nI vi) = .inr vi := by simp [zDpassR, zOb, z_v, c25_2]; omega
      refine r_aload_n ok dX6_pass_31 0 rfl rfl ?_
      refine r_cV0 ok [] mi_X6_record ci_X6 ml_X6_113 im_X6_record se_X6_record dX6_pass_32 (c_X6_record K.2.1 G M N a s sA sH sL sI sP sT sG (nI kn) ln po wr kn  (by omega)) md_o rfl rfl ⟨Nat.le_of_ble_eq_true rfl, Nat.le_of_ble_eq_true rfl⟩ (Nat.le_of_ble_eq_true rfl) ⟨Nat.zero_le _, Nat.zero_le _⟩ ?_
      refine r_iconst ok (nI 0) dX6_pass_35 (by rfl) ?_
      refine r_istore_n ok [(2, .int (nI 0)), (0, .ref a), (1, .int (nI (vi)))] dX6_pass_36 rfl (by decide) rfl ?_
      refine r_iconst ok (nI 0) dX6_pass_37 (by rfl) ?_
      refine r_istore_n ok [(3, .int (nI 0)), (2, .int (nI 0)), (0, .ref a), (1, .int (nI (vi)))] dX6_pass_38 rfl (by decide) rfl ?_
      have L3 : ∀ (nL3 : Nat) (k : Nat), ((k + nL3 = vi)) → zW K G 4 (zQ K G (N + 0) 0 0 (zP (some (.int (zE (zDpassR s (nI (vi))) (zPsN (s, sT, sG, pn))))) (mdM G M a (zU (zDpassR s (nI (vi))) s (fun n => (zPsR (s, sT, sG, pn) n).1)) sA (zU ((zDpassR s (nI (vi)))) sH (fun _ => zRecH s sH kn)) sL sI sP (zU (zDpassR s (nI (vi))) sT (fun n => (zPsR (s, sT, sG, pn) n).2.1)) (zU (zDpassR s (nI (vi))) sG (fun n => (zPsR (s, sT, sG, pn) n).2.2.1)) (nI (zU ((zDpassR s (nI (vi)))) kn (fun _ => zRecK kn))) ln po wr))) 0 0 (mdM G M a ((zPsR (s, sT, sG, pn) k).1) sA (zRecH s sH kn) sL sI sP ((zPsR (s, sT, sG, pn) k).2.1) ((zPsR (s, sT, sG, pn) k).2.2.1) (nI (zRecK kn)) ln po wr) N 39 [(0, .ref a), (1, .int (nI (vi))), (2, .int (zPsN (s, sT, sG, pn) k)), (3, .int (nI (k)))] [] := by
        intro nL3
        induction nL3 with
        | zero =>
          intro k hk_k 
          obtain rfl : vi = k := by omega
          refine r_iload_n ok dX6_pass_39 3 rfl rfl ?_
          refine r_iload_n ok dX6_pass_40 1 rfl rfl ?_
          refine r_icmp_geN ok 57 (by omega) (by omega) dX6_pass_41 (by decide) (fun c41_4 => ?_) (fun c41_4 => ?_)
          · skip
            refine r_iload_n ok dX6_pass_57 2 rfl rfl ?_
            exact r_iret ok dX6_pass_58 rfl ⟨congrArg (fun z => some (Value.int z)) (show zPsN (s, sT, sG, pn) vi = zE (zDpassR s (nI (vi))) (zPsN (s, sT, sG, pn)) from by rw [hD]; rfl), (by rw [hD]; rfl)⟩
          · skip
            exact absurd c41_4 (by omega)
        | succ nL3 ihL3 =>
          intro k hk_k 
          refine r_iload_n ok dX6_pass_39 3 rfl rfl ?_
          refine r_iload_n ok dX6_pass_40 1 rfl rfl ?_
          refine r_icmp_geN ok 57 (by omega) (by omega) dX6_pass_41 (by decide) (fun c41_5 => ?_) (fun c41_5 => ?_)
          · skip
            exact absurd c41_5 (by omega)
          · skip
            refine r_iload_n ok dX6_pass_44 2 rfl rfl ?_
            refine r_aload_n ok dX6_pass_45 0 rfl rfl ?_
            refine r_cV1 ok [.int (zPsN (s, sT, sG, pn) k)] mi_X6_day ci_X6 ml_X6_157 im_X6_day se_X6_day dX6_pass_46 (c_X6_day K.2.1 G M N a ((zPsR (s, sT, sG, pn) k).1) sA (zRecH s sH kn) sL sI sP ((zPsR (s, sT, sG, pn) k).2.1) ((zPsR (s, sT, sG, pn) k).2.2.1) (nI (zRecK kn)) ln po wr ((zPsR (s, sT, sG, pn) k).2.2.2)  (hday k (by omega)).1 (hday k (by omega)).2.1 (hday k (by omega))) md_o rfl rfl ⟨Nat.le_of_ble_eq_true rfl, Nat.le_of_ble_eq_true rfl⟩ (Nat.le_of_ble_eq_true rfl) ⟨Nat.zero_le _, Nat.zero_le _⟩ ?_
            refine r_iadd ok dX6_pass_49 ?_
            refine r_istore_n ok [(2, .int ((zPsN (s, sT, sG, pn) k) + (nI ((zDyE (((zPsR (s, sT, sG, pn) k).1), ((zPsR (s, sT, sG, pn) k).2.1), ((zPsR (s, sT, sG, pn) k).2.2.1), ((zPsR (s, sT, sG, pn) k).2.2.2))).2.2.2.2.2)))), (0, .ref a), (1, .int (nI (vi))), (3, .int (nI (k)))] dX6_pass_50 rfl (by decide) rfl ?_
            refine r_iincN ok (c := 1) [(3, .int (nI (k + 1))), (2, .int ((zPsN (s, sT, sG, pn) k) + (nI ((zDyE (((zPsR (s, sT, sG, pn) k).1), ((zPsR (s, sT, sG, pn) k).2.1), ((zPsR (s, sT, sG, pn) k).2.2.1), ((zPsR (s, sT, sG, pn) k).2.2.2))).2.2.2.2.2)))), (0, .ref a), (1, .int (nI (vi)))] dX6_pass_51 3 rfl (by rfl) (by decide) rfl ?_
            refine r_goto ok 39 dX6_pass_54 (by decide) ?_
            have q6 : Value.int ((zPsN (s, sT, sG, pn) k) + (nI ((zDyE (((zPsR (s, sT, sG, pn) k).1), ((zPsR (s, sT, sG, pn) k).2.1), ((zPsR (s, sT, sG, pn) k).2.2.1), ((zPsR (s, sT, sG, pn) k).2.2.2))).2.2.2.2.2))) = Value.int (zPsN (s, sT, sG, pn) (k + 1)) := by first | with_reducible rfl | (rfl)
            have q7 : ((zDyE (((zPsR (s, sT, sG, pn) k).1), ((zPsR (s, sT, sG, pn) k).2.1), ((zPsR (s, sT, sG, pn) k).2.2.1), ((zPsR (s, sT, sG, pn) k).2.2.2))).1 : Nat → Int32) = (zPsR (s, sT, sG, pn) (k + 1)).1 := by first | with_reducible rfl | (rfl)
            have q8 : ((zDyE (((zPsR (s, sT, sG, pn) k).1), ((zPsR (s, sT, sG, pn) k).2.1), ((zPsR (s, sT, sG, pn) k).2.2.1), ((zPsR (s, sT, sG, pn) k).2.2.2))).2.1 : Nat → Int32) = (zPsR (s, sT, sG, pn) (k + 1)).2.1 := by first | with_reducible rfl | (rfl)
            have q9 : ((zDyE (((zPsR (s, sT, sG, pn) k).1), ((zPsR (s, sT, sG, pn) k).2.1), ((zPsR (s, sT, sG, pn) k).2.2.1), ((zPsR (s, sT, sG, pn) k).2.2.2))).2.2.1 : Nat → Int32) = (zPsR (s, sT, sG, pn) (k + 1)).2.2.1 := by first | with_reducible rfl | (rfl)
            refine zW.forget (lv' := [(0, .ref a), (1, .int (nI (vi))), (2, .int ((zPsN (s, sT, sG, pn) k) + (nI ((zDyE (((zPsR (s, sT, sG, pn) k).1), ((zPsR (s, sT, sG, pn) k).2.1), ((zPsR (s, sT, sG, pn) k).2.2.1), ((zPsR (s, sT, sG, pn) k).2.2.2))).2.2.2.2.2)))), (3, .int (nI (k + 1)))]) ?_ [2, 3, 1, 0] rfl
            refine zW.to (lv' := [(0, .ref a), (1, .int (nI (vi))), (2, .int (zPsN (s, sT, sG, pn) (k + 1))), (3, .int (nI (k + 1)))]) ?_ rfl (congrArg (fun z => ([(0, .ref a), (1, .int (nI (vi))), (2, z), (3, .int (nI (k + 1)))] : List (Nat × Value))) q6) rfl
            refine zW.to ?_ (congrArg (fun z => mdM G M a z sA (zRecH s sH kn) sL sI sP ((zDyE (((zPsR (s, sT, sG, pn) k).1), ((zPsR (s, sT, sG, pn) k).2.1), ((zPsR (s, sT, sG, pn) k).2.2.1), ((zPsR (s, sT, sG, pn) k).2.2.2))).2.1) ((zDyE (((zPsR (s, sT, sG, pn) k).1), ((zPsR (s, sT, sG, pn) k).2.1), ((zPsR (s, sT, sG, pn) k).2.2.1), ((zPsR (s, sT, sG, pn) k).2.2.2))).2.2.1) (nI (zRecK kn)) ln po wr) q7) rfl rfl
            refine zW.to ?_ (congrArg (fun z => mdM G M a ((zPsR (s, sT, sG, pn) (k + 1)).1) sA (zRecH s sH kn) sL sI sP z ((zDyE (((zPsR (s, sT, sG, pn) k).1), ((zPsR (s, sT, sG, pn) k).2.1), ((zPsR (s, sT, sG, pn) k).2.2.1), ((zPsR (s, sT, sG, pn) k).2.2.2))).2.2.1) (nI (zRecK kn)) ln po wr) q8) rfl rfl
            refine zW.to ?_ (congrArg (fun z => mdM G M a ((zPsR (s, sT, sG, pn) (k + 1)).1) sA (zRecH s sH kn) sL sI sP ((zPsR (s, sT, sG, pn) (k + 1)).2.1) z (nI (zRecK kn)) ln po wr) q9) rfl rfl
            exact ihL3 (k + 1) (by omega)
      have q10 : Value.int (nI 0) = Value.int (zPsN (s, sT, sG, pn) 0) := by first | with_reducible rfl | (rfl)
      have q11 : (s : Nat → Int32) = (zPsR (s, sT, sG, pn) 0).1 := by first | with_reducible rfl | (rfl)
      have q12 : (sT : Nat → Int32) = (zPsR (s, sT, sG, pn) 0).2.1 := by first | with_reducible rfl | (rfl)
      have q13 : (sG : Nat → Int32) = (zPsR (s, sT, sG, pn) 0).2.2.1 := by first | with_reducible rfl | (rfl)
      refine zW.forget (lv' := [(0, .ref a), (1, .int (nI (vi))), (2, .int (nI 0)), (3, .int (nI 0))]) ?_ [2, 3, 1, 0] rfl
      refine zW.to (lv' := [(0, .ref a), (1, .int (nI (vi))), (2, .int (zPsN (s, sT, sG, pn) 0)), (3, .int (nI 0))]) ?_ rfl (congrArg (fun z => ([(0, .ref a), (1, .int (nI (vi))), (2, z), (3, .int (nI 0))] : List (Nat × Value))) q10) rfl
      refine zW.to ?_ (congrArg (fun z => mdM G M a z sA (zRecH s sH kn) sL sI sP sT sG (nI (zRecK kn)) ln po wr) q11) rfl rfl
      refine zW.to ?_ (congrArg (fun z => mdM G M a ((zPsR (s, sT, sG, pn) 0).1) sA (zRecH s sH kn) sL sI sP z sG (nI (zRecK kn)) ln po wr) q12) rfl rfl
      refine zW.to ?_ (congrArg (fun z => mdM G M a ((zPsR (s, sT, sG, pn) 0).1) sA (zRecH s sH kn) sL sI sP ((zPsR (s, sT, sG, pn) 0).2.1) z (nI (zRecK kn)) ln po wr) q13) rfl rfl
      exact L3 vi 0 (by omega)
    · skip
      have hD : zDpassR s (nI vi) = .inl (-100004) := by simp [zDpassR, zOb, z_v, c25_2]; omega
      refine r_ldc ok ck_X6_153 dX6_pass_28 ?_
      exact r_iret ok dX6_pass_30 rfl ⟨congrArg (fun z => some (Value.int z)) (show -100004 = zE (zDpassR s (nI (vi))) (zPsN (s, sT, sG, pn)) from by rw [hD]; rfl), (by rw [hD]; rfl)⟩
  · skip
    have hD : zDpassR s v = .inl (-100002) := zDpR_no c7_1
    refine r_ldc ok ck_X6_125 dX6_pass_10 ?_
    exact r_iret ok dX6_pass_12 rfl ⟨congrArg (fun z => some (Value.int z)) (show -100002 = zE (zDpassR s v) (zPsN (s, sT, sG, pn)) from by rw [hD]; rfl), (by rw [hD]; rfl)⟩
set_option maxHeartbeats 4000000 in
set_option maxRecDepth 100000 in
theorem c_X6_untilHome (l : Launch) (G : zG) (M : zM) (N a : Nat) (s sA sH sL : Nat → Int32) (sI : Nat → Bool) (sP sT sG : Nat → Int32) (kp ln po : Int32) (wr : Bool) (pn : Nat)  (hday : ∀ k, k < 51 → zDyOkR (zPsR (s, sT, sG, pn) k)) (h50 : (zPsR (s, sT, sG, pn) 50).2.2.2 = 0) : zC l G yX6_untilHome cX6_untilHome 3 (some .int) 5 112 0 0 [.ref a] (mdM G M a s sA sH sL sI sP sT sG kp ln po wr) N (zP (some (.int (nI (zUhR (s, sT, sG, pn))))) (mdM G M a (zC0 (zPsR (s, sT, sG, pn) (zUhR (s, sT, sG, pn))).1 (zC0 sA s 402) 402) (zC0 sA s 402) sH sL sI sP ((zPsR (s, sT, sG, pn) (zUhR (s, sT, sG, pn))).2.1) ((zPsR (s, sT, sG, pn) (zUhR (s, sT, sG, pn))).2.2.1) kp ln po wr)) := by
  refine zC.of (by decide +kernel) (Nat.le_of_ble_eq_true rfl) ?_
  intro K hKl ok
  subst hKl
  have hu := zUhR_le (s, sT, sG, pn)
  have hz := zUhR_at h50
  show zW K G 3 _ 0 0 _ N 0 [(0, .ref a)] []
  refine r_aload_n ok dX6_untilHome_0 0 rfl rfl ?_
  refine r_cV0 ok [] mi_X6_putAside ci_X6 ml_X6_179 im_X6_putAside se_X6_putAside dX6_untilHome_1 (c_X6_putAside K.2.1 G M N a s sA sH sL sI sP sT sG kp ln po wr   ) md_o rfl rfl ⟨Nat.le_of_ble_eq_true rfl, Nat.le_of_ble_eq_true rfl⟩ (Nat.le_of_ble_eq_true rfl) ⟨Nat.zero_le _, Nat.zero_le _⟩ ?_
  refine r_iconst ok (nI 0) dX6_untilHome_4 (by rfl) ?_
  refine r_istore_n ok [(1, .int (nI 0)), (0, .ref a)] dX6_untilHome_5 rfl (by decide) rfl ?_
  have L1 : ∀ (nL1 : Nat) (k : Nat), ((k + nL1 = zUhR (s, sT, sG, pn))) → zW K G 3 (zQ K G (N + 0) 0 0 (zP (some (.int (nI (zUhR (s, sT, sG, pn))))) (mdM G M a (zC0 (zPsR (s, sT, sG, pn) (zUhR (s, sT, sG, pn))).1 (zC0 sA s 402) 402) (zC0 sA s 402) sH sL sI sP ((zPsR (s, sT, sG, pn) (zUhR (s, sT, sG, pn))).2.1) ((zPsR (s, sT, sG, pn) (zUhR (s, sT, sG, pn))).2.2.1) kp ln po wr))) 0 0 (mdM G M a ((zPsR (s, sT, sG, pn) k).1) (zC0 sA s 402) sH sL sI sP ((zPsR (s, sT, sG, pn) k).2.1) ((zPsR (s, sT, sG, pn) k).2.2.1) kp ln po wr) N 6 [(0, .ref a), (1, .int (nI (k)))] [] := by
    intro nL1
    induction nL1 with
    | zero =>
      intro k hk_k 
      have h14 := (hday k (by omega)).1
      have hp5 := (hday k (by omega)).2.1
      obtain rfl : zUhR (s, sT, sG, pn) = k := by omega
      refine r_aload_n ok dX6_untilHome_6 0 rfl rfl ?_
      refine r_getf ok ci_X6 fl_X6_7 (by decide) dX6_untilHome_7 md_o rfl ?_
      refine r_bipush ok (nI 14) dX6_untilHome_10 (by rfl) ?_
      refine r_ialdN ok (by omega) (by omega) dX6_untilHome_12 md_s ?_
      refine zW.to (st' := [.int (nI ((zPsR (s, sT, sG, pn) (zUhR (s, sT, sG, pn))).2.2.2))]) ?_ rfl rfl (congrArg (fun z => (Value.int z :: [] : List Value)) (show ((zPsR (s, sT, sG, pn) (zUhR (s, sT, sG, pn))).1) 14 = nI ((zPsR (s, sT, sG, pn) (zUhR (s, sT, sG, pn))).2.2.2) from h14))
      refine r_if_leN ok 27 (by omega) dX6_untilHome_13 (by decide) (fun c13_2 => ?_) (fun c13_2 => ?_)
      · skip
        refine r_aload_n ok dX6_untilHome_27 0 rfl rfl ?_
        refine r_cV0 ok [] mi_X6_putBack ci_X6 ml_X6_182 im_X6_putBack se_X6_putBack dX6_untilHome_28 (c_X6_putBack K.2.1 G M N a ((zPsR (s, sT, sG, pn) (zUhR (s, sT, sG, pn))).1) (zC0 sA s 402) sH sL sI sP ((zPsR (s, sT, sG, pn) (zUhR (s, sT, sG, pn))).2.1) ((zPsR (s, sT, sG, pn) (zUhR (s, sT, sG, pn))).2.2.1) kp ln po wr   ) md_o rfl rfl ⟨Nat.le_of_ble_eq_true rfl, Nat.le_of_ble_eq_true rfl⟩ (Nat.le_of_ble_eq_true rfl) ⟨Nat.zero_le _, Nat.zero_le _⟩ ?_
        refine r_iload_n ok dX6_untilHome_31 1 rfl rfl ?_
        exact r_iret ok dX6_untilHome_32 rfl ⟨congrArg (fun z => some (Value.int z)) (show nI ((zUhR (s, sT, sG, pn))) = nI (zUhR (s, sT, sG, pn)) from by rfl), (by rfl)⟩
      · skip
        exact absurd hz (by omega)
    | succ nL1 ihL1 =>
      intro k hk_k 
      have h14 := (hday k (by omega)).1
      have hp5 := (hday k (by omega)).2.1
      refine r_aload_n ok dX6_untilHome_6 0 rfl rfl ?_
      refine r_getf ok ci_X6 fl_X6_7 (by decide) dX6_untilHome_7 md_o rfl ?_
      refine r_bipush ok (nI 14) dX6_untilHome_10 (by rfl) ?_
      refine r_ialdN ok (by omega) (by omega) dX6_untilHome_12 md_s ?_
      refine zW.to (st' := [.int (nI ((zPsR (s, sT, sG, pn) k).2.2.2))]) ?_ rfl rfl (congrArg (fun z => (Value.int z :: [] : List Value)) (show ((zPsR (s, sT, sG, pn) k).1) 14 = nI ((zPsR (s, sT, sG, pn) k).2.2.2) from h14))
      refine r_if_leN ok 27 (by omega) dX6_untilHome_13 (by decide) (fun c13_3 => ?_) (fun c13_3 => ?_)
      · skip
        exact absurd (zUhR_lt (e := (s, sT, sG, pn)) (k := k) (by omega)) (by omega)
      · skip
        refine r_aload_n ok dX6_untilHome_16 0 rfl rfl ?_
        refine r_cV1 ok [] mi_X6_day ci_X6 ml_X6_157 im_X6_day se_X6_day dX6_untilHome_17 (c_X6_day K.2.1 G M N a ((zPsR (s, sT, sG, pn) k).1) (zC0 sA s 402) sH sL sI sP ((zPsR (s, sT, sG, pn) k).2.1) ((zPsR (s, sT, sG, pn) k).2.2.1) kp ln po wr ((zPsR (s, sT, sG, pn) k).2.2.2)  (hday k (by omega)).1 (hday k (by omega)).2.1 (hday k (by omega))) md_o rfl rfl ⟨Nat.le_of_ble_eq_true rfl, Nat.le_of_ble_eq_true rfl⟩ (Nat.le_of_ble_eq_true rfl) ⟨Nat.zero_le _, Nat.zero_le _⟩ ?_
        refine r_istore_n ok [(2, .int (nI ((zDyE (((zPsR (s, sT, sG, pn) k).1), ((zPsR (s, sT, sG, pn) k).2.1), ((zPsR (s, sT, sG, pn) k).2.2.1), ((zPsR (s, sT, sG, pn) k).2.2.2))).2.2.2.2.2))), (0, .ref a), (1, .int (nI (k)))] dX6_untilHome_20 rfl (by decide) rfl ?_
        refine r_iincN ok (c := 1) [(1, .int (nI (k + 1))), (2, .int (nI ((zDyE (((zPsR (s, sT, sG, pn) k).1), ((zPsR (s, sT, sG, pn) k).2.1), ((zPsR (s, sT, sG, pn) k).2.2.1), ((zPsR (s, sT, sG, pn) k).2.2.2))).2.2.2.2.2))), (0, .ref a)] dX6_untilHome_21 2 rfl (by rfl) (by decide) rfl ?_
        refine r_goto ok 6 dX6_untilHome_24 (by decide) ?_
        have q4 : ((zDyE (((zPsR (s, sT, sG, pn) k).1), ((zPsR (s, sT, sG, pn) k).2.1), ((zPsR (s, sT, sG, pn) k).2.2.1), ((zPsR (s, sT, sG, pn) k).2.2.2))).1 : Nat → Int32) = (zPsR (s, sT, sG, pn) (k + 1)).1 := by first | with_reducible rfl | (rfl)
        have q5 : ((zDyE (((zPsR (s, sT, sG, pn) k).1), ((zPsR (s, sT, sG, pn) k).2.1), ((zPsR (s, sT, sG, pn) k).2.2.1), ((zPsR (s, sT, sG, pn) k).2.2.2))).2.1 : Nat → Int32) = (zPsR (s, sT, sG, pn) (k + 1)).2.1 := by first | with_reducible rfl | (rfl)
        have q6 : ((zDyE (((zPsR (s, sT, sG, pn) k).1), ((zPsR (s, sT, sG, pn) k).2.1), ((zPsR (s, sT, sG, pn) k).2.2.1), ((zPsR (s, sT, sG, pn) k).2.2.2))).2.2.1 : Nat → Int32) = (zPsR (s, sT, sG, pn) (k + 1)).2.2.1 := by first | with_reducible rfl | (rfl)
        refine zW.forget (lv' := [(0, .ref a), (1, .int (nI (k + 1)))]) ?_ [2, 0] rfl
        refine zW.to ?_ (congrArg (fun z => mdM G M a z (zC0 sA s 402) sH sL sI sP ((zDyE (((zPsR (s, sT, sG, pn) k).1), ((zPsR (s, sT, sG, pn) k).2.1), ((zPsR (s, sT, sG, pn) k).2.2.1), ((zPsR (s, sT, sG, pn) k).2.2.2))).2.1) ((zDyE (((zPsR (s, sT, sG, pn) k).1), ((zPsR (s, sT, sG, pn) k).2.1), ((zPsR (s, sT, sG, pn) k).2.2.1), ((zPsR (s, sT, sG, pn) k).2.2.2))).2.2.1) kp ln po wr) q4) rfl rfl
        refine zW.to ?_ (congrArg (fun z => mdM G M a ((zPsR (s, sT, sG, pn) (k + 1)).1) (zC0 sA s 402) sH sL sI sP z ((zDyE (((zPsR (s, sT, sG, pn) k).1), ((zPsR (s, sT, sG, pn) k).2.1), ((zPsR (s, sT, sG, pn) k).2.2.1), ((zPsR (s, sT, sG, pn) k).2.2.2))).2.2.1) kp ln po wr) q5) rfl rfl
        refine zW.to ?_ (congrArg (fun z => mdM G M a ((zPsR (s, sT, sG, pn) (k + 1)).1) (zC0 sA s 402) sH sL sI sP ((zPsR (s, sT, sG, pn) (k + 1)).2.1) z kp ln po wr) q6) rfl rfl
        exact ihL1 (k + 1) (by omega)
  have q7 : (s : Nat → Int32) = (zPsR (s, sT, sG, pn) 0).1 := by first | with_reducible rfl | (rfl)
  have q8 : (sT : Nat → Int32) = (zPsR (s, sT, sG, pn) 0).2.1 := by first | with_reducible rfl | (rfl)
  have q9 : (sG : Nat → Int32) = (zPsR (s, sT, sG, pn) 0).2.2.1 := by first | with_reducible rfl | (rfl)
  refine zW.forget (lv' := [(0, .ref a), (1, .int (nI 0))]) ?_ [1, 0] rfl
  refine zW.to ?_ (congrArg (fun z => mdM G M a z (zC0 sA s 402) sH sL sI sP sT sG kp ln po wr) q7) rfl rfl
  refine zW.to ?_ (congrArg (fun z => mdM G M a ((zPsR (s, sT, sG, pn) 0).1) (zC0 sA s 402) sH sL sI sP z sG kp ln po wr) q8) rfl rfl
  refine zW.to ?_ (congrArg (fun z => mdM G M a ((zPsR (s, sT, sG, pn) 0).1) (zC0 sA s 402) sH sL sI sP ((zPsR (s, sT, sG, pn) 0).2.1) z kp ln po wr) q9) rfl rfl
  exact L1 (zUhR (s, sT, sG, pn)) 0 (by omega)
