set_option maxHeartbeats 4000000 in
set_option maxRecDepth 100000 in
theorem c_X6_in (l : Launch) (G : zG) (M : zM) (N : Nat)  (v : Int32) (lo : Int32) (hi : Int32)  : zC l G yX6_in cX6_in 3 (some .boolean) 0 0 0 0 [.int (v), .int (lo), .int (hi)] (M) N (zP (some (.int (zb (zbe v lo hi)))) (M)) := by
  refine zC.of (by decide +kernel) (Nat.le_of_ble_eq_true rfl) ?_
  intro K hKl ok
  subst hKl
  show zW K G 3 _ 0 0 _ N 0 [(0, .int (v)), (1, .int (lo)), (2, .int (hi))] []
  refine r_iload_n ok dX6_in_0 0 rfl rfl ?_
  refine r_iload_n ok dX6_in_1 1 rfl rfl ?_
  refine r_icmp_lt ok 14 dX6_in_2 (by decide) (fun c2_1 => ?_) (fun c2_1 => ?_)
  · skip
    refine r_iconst ok (nI 0) dX6_in_14 (by rfl) ?_
    refine zW.to (st' := [.int (zb false)]) ?_ rfl rfl rfl
    exact r_zret ok dX6_in_15 (zb_n _) rfl ⟨congrArg (fun z => some (Value.int (zb z))) (show false = zbe v lo hi from by first | exact (zbe_lt (by assumption)).symm | exact (zbe_gt (by assumption)).symm | exact (zbe_ok (by assumption) (by assumption)).symm), rfl⟩
  · skip
    refine r_iload_n ok dX6_in_5 0 rfl rfl ?_
    refine r_iload_n ok dX6_in_6 2 rfl rfl ?_
    refine r_icmp_gt ok 14 dX6_in_7 (by decide) (fun c7_2 => ?_) (fun c7_2 => ?_)
    · skip
      refine r_iconst ok (nI 0) dX6_in_14 (by rfl) ?_
      refine zW.to (st' := [.int (zb false)]) ?_ rfl rfl rfl
      exact r_zret ok dX6_in_15 (zb_n _) rfl ⟨congrArg (fun z => some (Value.int (zb z))) (show false = zbe v lo hi from by first | exact (zbe_lt (by assumption)).symm | exact (zbe_gt (by assumption)).symm | exact (zbe_ok (by assumption) (by assumption)).symm), rfl⟩
    · skip
      refine r_iconst ok (nI 1) dX6_in_10 (by rfl) ?_
      refine r_goto ok 15 dX6_in_11 (by decide) ?_
      refine zW.to (st' := [.int (zb true)]) ?_ rfl rfl rfl
      exact r_zret ok dX6_in_15 (zb_n _) rfl ⟨congrArg (fun z => some (Value.int (zb z))) (show true = zbe v lo hi from by first | exact (zbe_lt (by assumption)).symm | exact (zbe_gt (by assumption)).symm | exact (zbe_ok (by assumption) (by assumption)).symm), rfl⟩
set_option maxHeartbeats 4000000 in
set_option maxRecDepth 100000 in
theorem c_X6_isMember (l : Launch) (G : zG) (M : zM) (N : Nat)  (v : Int32)  : zC l G yX6_isMember cX6_isMember 1 (some .boolean) 1 22 0 0 [.int (v)] (M) N (zP (some (.int (zb ((zix v 6).isSome)))) (M)) := by
  refine zC.of (by decide +kernel) (Nat.le_of_ble_eq_true rfl) ?_
  intro K hKl ok
  subst hKl
  show zW K G 1 _ 0 0 _ N 0 [(0, .int (v))] []
  refine r_iload_n ok dX6_isMember_0 0 rfl rfl ?_
  refine r_iconst ok (nI 0) dX6_isMember_1 (by rfl) ?_
  refine r_iconst ok (nI 5) dX6_isMember_2 (by rfl) ?_
  refine r_cS1 ok [] mi_X6_in ml_X6_35 sm_X6_in dX6_isMember_3 (c_X6_in K.2.1 G (M) N  v (nI 0) (nI 5) ) rfl rfl ⟨Nat.le_of_ble_eq_true rfl, Nat.le_of_ble_eq_true rfl⟩ (Nat.le_of_ble_eq_true rfl) ⟨Nat.zero_le _, Nat.zero_le _⟩ ?_
  exact r_zret ok dX6_isMember_6 (zb_n _) rfl ⟨congrArg (fun z => some (Value.int (zb z))) (show zbe v (nI 0) (nI 5) = (zix v 6).isSome from by exact zbe_ix v (n := 5) (by omega)), rfl⟩
set_option maxHeartbeats 4000000 in
set_option maxRecDepth 100000 in
theorem c_X6_isGauge (l : Launch) (G : zG) (M : zM) (N : Nat)  (v : Int32)  : zC l G yX6_isGauge cX6_isGauge 1 (some .boolean) 1 22 0 0 [.int (v)] (M) N (zP (some (.int (zb ((zix v 8).isSome)))) (M)) := by
  refine zC.of (by decide +kernel) (Nat.le_of_ble_eq_true rfl) ?_
  intro K hKl ok
  subst hKl
  show zW K G 1 _ 0 0 _ N 0 [(0, .int (v))] []
  refine r_iload_n ok dX6_isGauge_0 0 rfl rfl ?_
  refine r_iconst ok (nI 0) dX6_isGauge_1 (by rfl) ?_
  refine r_bipush ok (nI 7) dX6_isGauge_2 (by rfl) ?_
  refine r_cS1 ok [] mi_X6_in ml_X6_35 sm_X6_in dX6_isGauge_4 (c_X6_in K.2.1 G (M) N  v (nI 0) (nI 7) ) rfl rfl ⟨Nat.le_of_ble_eq_true rfl, Nat.le_of_ble_eq_true rfl⟩ (Nat.le_of_ble_eq_true rfl) ⟨Nat.zero_le _, Nat.zero_le _⟩ ?_
  exact r_zret ok dX6_isGauge_7 (zb_n _) rfl ⟨congrArg (fun z => some (Value.int (zb z))) (show zbe v (nI 0) (nI 7) = (zix v 8).isSome from by exact zbe_ix v (n := 7) (by omega)), rfl⟩
set_option maxHeartbeats 4000000 in
set_option maxRecDepth 100000 in
theorem c_X6_of (l : Launch) (G : zG) (M : zM) (N : Nat)  (m : Nat) (w : Nat)  : zC l G yX6_of cX6_of 2 (some .int) 0 0 0 0 [.int (nI (m)), .int (nI (w))] (M) N (zP (some (.int (nI (15 + 22 * m + w)))) (M)) := by
  refine zC.of (by decide +kernel) (Nat.le_of_ble_eq_true rfl) ?_
  intro K hKl ok
  subst hKl
  show zW K G 2 _ 0 0 _ N 0 [(0, .int (nI (m))), (1, .int (nI (w)))] []
  refine r_bipush ok (nI 15) dX6_of_0 (by rfl) ?_
  refine r_bipush ok (nI 22) dX6_of_2 (by rfl) ?_
  refine r_iload_n ok dX6_of_4 0 rfl rfl ?_
  refine r_imulN ok dX6_of_5 ?_
  refine r_iaddN ok dX6_of_6 ?_
  refine r_iload_n ok dX6_of_7 1 rfl rfl ?_
  refine r_iaddN ok dX6_of_8 ?_
  exact r_iret ok dX6_of_9 rfl ⟨congrArg (fun z => some (Value.int z)) (show nI ((15 + (22 * m)) + w) = nI (15 + 22 * m + w) from by first | rfl | (simp [*]; done)), rfl⟩
set_option maxHeartbeats 4000000 in
set_option maxRecDepth 100000 in
theorem c_X6_ofParcel (l : Launch) (G : zG) (M : zM) (N : Nat)  (p : Nat) (w : Nat)  : zC l G yX6_ofParcel cX6_ofParcel 2 (some .int) 0 0 0 0 [.int (nI (p)), .int (nI (w))] (M) N (zP (some (.int (nI (147 + 51 * p + w)))) (M)) := by
  refine zC.of (by decide +kernel) (Nat.le_of_ble_eq_true rfl) ?_
  intro K hKl ok
  subst hKl
  show zW K G 2 _ 0 0 _ N 0 [(0, .int (nI (p))), (1, .int (nI (w)))] []
  refine r_sipush ok (nI 147) dX6_ofParcel_0 (by rfl) ?_
  refine r_bipush ok (nI 51) dX6_ofParcel_3 (by rfl) ?_
  refine r_iload_n ok dX6_ofParcel_5 0 rfl rfl ?_
  refine r_imulN ok dX6_ofParcel_6 ?_
  refine r_iaddN ok dX6_ofParcel_7 ?_
  refine r_iload_n ok dX6_ofParcel_8 1 rfl rfl ?_
  refine r_iaddN ok dX6_ofParcel_9 ?_
  exact r_iret ok dX6_ofParcel_10 rfl ⟨congrArg (fun z => some (Value.int z)) (show nI ((147 + (51 * p)) + w) = nI (147 + 51 * p + w) from by first | rfl | (simp [*]; done)), rfl⟩
set_option maxHeartbeats 4000000 in
set_option maxRecDepth 100000 in
theorem c_X6_price (l : Launch) (G : zG) (M : zM) (N : Nat)  (g : Nat)  : zC l G yX6_price cX6_price 1 (some .int) 0 0 0 0 [.int (nI (g))] (M) N (zP (some (.int (nI (10 + 5 * g)))) (M)) := by
  refine zC.of (by decide +kernel) (Nat.le_of_ble_eq_true rfl) ?_
  intro K hKl ok
  subst hKl
  show zW K G 1 _ 0 0 _ N 0 [(0, .int (nI (g)))] []
  refine r_bipush ok (nI 10) dX6_price_0 (by rfl) ?_
  refine r_iconst ok (nI 5) dX6_price_2 (by rfl) ?_
  refine r_iload_n ok dX6_price_3 0 rfl rfl ?_
  refine r_imulN ok dX6_price_4 ?_
  refine r_iaddN ok dX6_price_5 ?_
  exact r_iret ok dX6_price_6 rfl ⟨congrArg (fun z => some (Value.int z)) (show nI (10 + (5 * g)) = nI (10 + 5 * g) from by first | rfl | (simp [*]; done)), rfl⟩
set_option maxHeartbeats 4000000 in
set_option maxRecDepth 100000 in
theorem c_X6_has (l : Launch) (G : zG) (M : zM) (N : Nat)  (x : Int32) (k : Nat)  : zC l G yX6_has cX6_has 2 (some .boolean) 0 0 0 0 [.int (x), .int (nI (k))] (M) N (zP (some (.int (zb (zHas x k)))) (M)) := by
  refine zC.of (by decide +kernel) (Nat.le_of_ble_eq_true rfl) ?_
  intro K hKl ok
  subst hKl
  show zW K G 2 _ 0 0 _ N 0 [(0, .int (x)), (1, .int (nI (k)))] []
  refine r_iload_n ok dX6_has_0 0 rfl rfl ?_
  refine r_iload_n ok dX6_has_1 1 rfl rfl ?_
  refine r_ishr ok dX6_has_2 ?_
  refine r_iconst ok (nI 1) dX6_has_3 (by rfl) ?_
  refine r_iand ok dX6_has_4 ?_
  refine r_iconst ok (nI 1) dX6_has_5 (by rfl) ?_
  refine r_icmp_ne ok 13 dX6_has_6 (by decide) (fun c6_1 => ?_) (fun c6_1 => ?_)
  · skip
    refine r_iconst ok (nI 0) dX6_has_13 (by rfl) ?_
    refine zW.to (st' := [.int (zb false)]) ?_ rfl rfl rfl
    exact r_zret ok dX6_has_14 (zb_n _) rfl ⟨congrArg (fun z => some (Value.int (zb z))) (show false = zHas x k from by unfold zHas; first | exact (decide_eq_true (by assumption)).symm | exact (decide_eq_false (by assumption)).symm), rfl⟩
  · skip
    refine r_iconst ok (nI 1) dX6_has_9 (by rfl) ?_
    refine r_goto ok 14 dX6_has_10 (by decide) ?_
    refine zW.to (st' := [.int (zb true)]) ?_ rfl rfl rfl
    exact r_zret ok dX6_has_14 (zb_n _) rfl ⟨congrArg (fun z => some (Value.int (zb z))) (show true = zHas x k from by unfold zHas; first | exact (decide_eq_true (by assumption)).symm | exact (decide_eq_false (by assumption)).symm), rfl⟩
set_option maxHeartbeats 4000000 in
set_option maxRecDepth 100000 in
theorem c_X6_wanted (l : Launch) (G : zG) (M : zM) (N a : Nat) (s sA sH sL : Nat → Int32) (sI : Nat → Bool) (sP sT sG : Nat → Int32) (kp ln po : Int32) (wr : Bool)  (mm : Int32) (g : Nat) (hg : g < 8) : zC l G yX6_wanted cX6_wanted 5 (some .int) 1 21 0 0 [.ref a, .int (mm), .int (nI (g))] (mdM G M a s sA sH sL sI sP sT sG kp ln po wr) N (zP (some (.int (zWant s mm g))) (mdM G M a s sA sH sL sI sP sT sG kp ln po wr)) := by
  refine zC.of (by decide +kernel) (Nat.le_of_ble_eq_true rfl) ?_
  intro K hKl ok
  subst hKl
  show zW K G 5 _ 0 0 _ N 0 [(0, .ref a), (1, .int (mm)), (2, .int (nI (g)))] []
  refine r_iconst ok (nI 0) dX6_wanted_0 (by rfl) ?_
  refine r_istore_n ok [(3, .int (nI 0)), (0, .ref a), (1, .int (mm)), (2, .int (nI (g)))] dX6_wanted_1 rfl (by decide) rfl ?_
  refine r_iconst ok (nI 0) dX6_wanted_2 (by rfl) ?_
  refine r_istore ok [(4, .int (nI 0)), (3, .int (nI 0)), (0, .ref a), (1, .int (mm)), (2, .int (nI (g)))] dX6_wanted_3 (by decide) rfl ?_
  have L1 : ∀ (nL1 : Nat) (k : Nat), ((k + nL1 = 6)) → zW K G 5 (zQ K G (N + 0) 0 0 (zP (some (.int (zWant s mm g))) (mdM G M a s sA sH sL sI sP sT sG kp ln po wr))) 0 0 (mdM G M a s sA sH sL sI sP sT sG kp ln po wr) N 5 [(0, .ref a), (1, .int (mm)), (2, .int (nI (g))), (3, .int (lsum (zWantT s mm g) k)), (4, .int (nI (k)))] [] := by
    intro nL1
    induction nL1 with
    | zero =>
      intro k hk_k 
      obtain rfl : 6 = k := by omega
      refine r_iload ok dX6_wanted_5 4 rfl ?_
      refine r_bipush ok (nI 6) dX6_wanted_7 (by rfl) ?_
      refine r_icmp_geN ok 48 (by omega) (by omega) dX6_wanted_9 (by decide) (fun _ => ?_) (fun c => absurd c (by decide))
      refine r_iload_n ok dX6_wanted_48 3 rfl rfl ?_
      exact r_iret ok dX6_wanted_49 rfl ⟨congrArg (fun z => some (Value.int z)) (show lsum (zWantT s mm g) 6 = zWant s mm g from by rfl), rfl⟩
    | succ nL1 ihL1 =>
      intro k hk_k 
      refine r_iload ok dX6_wanted_5 4 rfl ?_
      refine r_bipush ok (nI 6) dX6_wanted_7 (by rfl) ?_
      refine r_icmp_geN ok 48 (by omega) (by omega) dX6_wanted_9 (by decide) (fun c9_3 => ?_) (fun c9_3 => ?_)
      · skip
        exact absurd c9_3 (by omega)
      · skip
        refine r_iload_n ok dX6_wanted_12 3 rfl rfl ?_
        refine r_iload_n ok dX6_wanted_13 1 rfl rfl ?_
        refine r_iload ok dX6_wanted_14 4 rfl ?_
        refine r_cS1 ok [.int (lsum (zWantT s mm g) k)] mi_X6_has ml_X6_43 sm_X6_has dX6_wanted_16 (c_X6_has K.2.1 G (mdM G M a s sA sH sL sI sP sT sG kp ln po wr) N  mm k ) rfl rfl ⟨Nat.le_of_ble_eq_true rfl, Nat.le_of_ble_eq_true rfl⟩ (Nat.le_of_ble_eq_true rfl) ⟨Nat.zero_le _, Nat.zero_le _⟩ ?_
        refine r_ifeqZ ok 39 dX6_wanted_19 (by decide) (fun c19_4 => ?_) (fun c19_4 => ?_)
        · skip
          refine r_iconst ok (nI 0) dX6_wanted_39 (by rfl) ?_
          refine r_iadd ok dX6_wanted_40 ?_
          refine r_istore_n ok [(3, .int ((lsum (zWantT s mm g) k) + (nI 0))), (0, .ref a), (1, .int (mm)), (2, .int (nI (g))), (4, .int (nI (k)))] dX6_wanted_41 rfl (by decide) rfl ?_
          refine r_iincN ok (c := 1) [(4, .int (nI (k + 1))), (3, .int ((lsum (zWantT s mm g) k) + (nI 0))), (0, .ref a), (1, .int (mm)), (2, .int (nI (g)))] dX6_wanted_42 4 rfl (by rfl) (by decide) rfl ?_
          refine r_goto ok 5 dX6_wanted_45 (by decide) ?_
          have q5 : Value.int ((lsum (zWantT s mm g) k) + (nI 0)) = Value.int (lsum (zWantT s mm g) (k + 1)) := by first | with_reducible rfl | (simp [lsum_s, zWantT, nI_0, *])
          refine zW.forget (lv' := [(0, .ref a), (1, .int (mm)), (2, .int (nI (g))), (3, .int ((lsum (zWantT s mm g) k) + (nI 0))), (4, .int (nI (k + 1)))]) ?_ [2, 3, 4, 1, 0] rfl
          refine zW.to (lv' := [(0, .ref a), (1, .int (mm)), (2, .int (nI (g))), (3, .int (lsum (zWantT s mm g) (k + 1))), (4, .int (nI (k + 1)))]) ?_ rfl (congrArg (fun z => ([(0, .ref a), (1, .int (mm)), (2, .int (nI (g))), (3, z), (4, .int (nI (k + 1)))] : List (Nat × Value))) q5) rfl
          exact ihL1 (k + 1) (by omega)
        · skip
          refine r_aload_n ok dX6_wanted_22 0 rfl rfl ?_
          refine r_getf ok ci_X6 fl_X6_7 (by decide) dX6_wanted_23 md_o rfl ?_
          refine r_iload ok dX6_wanted_26 4 rfl ?_
          refine r_bipush ok (nI 14) dX6_wanted_28 (by rfl) ?_
          refine r_iload_n ok dX6_wanted_30 2 rfl rfl ?_
          refine r_iaddN ok dX6_wanted_31 ?_
          refine r_cS1 ok [.ref (a + 1), .int (lsum (zWantT s mm g) k)] mi_X6_of ml_X6_47 sm_X6_of dX6_wanted_32 (c_X6_of K.2.1 G (mdM G M a s sA sH sL sI sP sT sG kp ln po wr) N  k (14 + g) ) rfl rfl ⟨Nat.le_of_ble_eq_true rfl, Nat.le_of_ble_eq_true rfl⟩ (Nat.le_of_ble_eq_true rfl) ⟨Nat.zero_le _, Nat.zero_le _⟩ ?_
          refine r_ialdN ok (by omega) (by omega) dX6_wanted_35 md_s ?_
          refine r_goto ok 40 dX6_wanted_36 (by decide) ?_
          refine r_iadd ok dX6_wanted_40 ?_
          refine r_istore_n ok [(3, .int ((lsum (zWantT s mm g) k) + (s (15 + 22 * k + (14 + g))))), (0, .ref a), (1, .int (mm)), (2, .int (nI (g))), (4, .int (nI (k)))] dX6_wanted_41 rfl (by decide) rfl ?_
          refine r_iincN ok (c := 1) [(4, .int (nI (k + 1))), (3, .int ((lsum (zWantT s mm g) k) + (s (15 + 22 * k + (14 + g))))), (0, .ref a), (1, .int (mm)), (2, .int (nI (g)))] dX6_wanted_42 4 rfl (by rfl) (by decide) rfl ?_
          refine r_goto ok 5 dX6_wanted_45 (by decide) ?_
          have q6 : Value.int ((lsum (zWantT s mm g) k) + (s (15 + 22 * k + (14 + g)))) = Value.int (lsum (zWantT s mm g) (k + 1)) := by first | with_reducible rfl | (simp [lsum_s, zWantT, nI_0, *])
          refine zW.forget (lv' := [(0, .ref a), (1, .int (mm)), (2, .int (nI (g))), (3, .int ((lsum (zWantT s mm g) k) + (s (15 + 22 * k + (14 + g))))), (4, .int (nI (k + 1)))]) ?_ [2, 3, 4, 1, 0] rfl
          refine zW.to (lv' := [(0, .ref a), (1, .int (mm)), (2, .int (nI (g))), (3, .int (lsum (zWantT s mm g) (k + 1))), (4, .int (nI (k + 1)))]) ?_ rfl (congrArg (fun z => ([(0, .ref a), (1, .int (mm)), (2, .int (nI (g))), (3, z), (4, .int (nI (k + 1)))] : List (Nat × Value))) q6) rfl
          exact ihL1 (k + 1) (by omega)
  have q7 : Value.int (nI 0) = Value.int (lsum (zWantT s mm g) 0) := by first | with_reducible rfl | (rfl)
  refine zW.forget (lv' := [(0, .ref a), (1, .int (mm)), (2, .int (nI (g))), (3, .int (nI 0)), (4, .int (nI 0))]) ?_ [2, 3, 4, 1, 0] rfl
  refine zW.to (lv' := [(0, .ref a), (1, .int (mm)), (2, .int (nI (g))), (3, .int (lsum (zWantT s mm g) 0)), (4, .int (nI 0))]) ?_ rfl (congrArg (fun z => ([(0, .ref a), (1, .int (mm)), (2, .int (nI (g))), (3, z), (4, .int (nI 0))] : List (Nat × Value))) q7) rfl
  exact L1 6 0 (by omega)
set_option maxHeartbeats 4000000 in
set_option maxRecDepth 100000 in
theorem c_X6_priceIn (l : Launch) (G : zG) (M : zM) (N a : Nat) (s sA sH sL : Nat → Int32) (sI : Nat → Bool) (sP sT sG : Nat → Int32) (kp ln po : Int32) (wr : Bool)  (mm : Int32) (g : Nat) (hg : g < 8) : zC l G yX6_priceIn cX6_priceIn 3 (some .int) 2 45 0 0 [.ref a, .int (mm), .int (nI (g))] (mdM G M a s sA sH sL sI sP sT sG kp ln po wr) N (zP (some (.int (zPriceIn s mm g))) (mdM G M a s sA sH sL sI sP sT sG kp ln po wr)) := by
  refine zC.of (by decide +kernel) (Nat.le_of_ble_eq_true rfl) ?_
  intro K hKl ok
  subst hKl
  show zW K G 3 _ 0 0 _ N 0 [(0, .ref a), (1, .int (mm)), (2, .int (nI (g)))] []
  refine r_aload_n ok dX6_priceIn_0 0 rfl rfl ?_
  refine r_iload_n ok dX6_priceIn_1 1 rfl rfl ?_
  refine r_iload_n ok dX6_priceIn_2 2 rfl rfl ?_
  refine r_cV1 ok [] mi_X6_wanted ci_X6 ml_X6_51 im_X6_wanted se_X6_wanted dX6_priceIn_3 (c_X6_wanted K.2.1 G M N a s sA sH sL sI sP sT sG kp ln po wr  mm g (by omega)) md_o rfl rfl ⟨Nat.le_of_ble_eq_true rfl, Nat.le_of_ble_eq_true rfl⟩ (Nat.le_of_ble_eq_true rfl) ⟨Nat.zero_le _, Nat.zero_le _⟩ ?_
  refine r_aload_n ok dX6_priceIn_6 0 rfl rfl ?_
  refine r_getf ok ci_X6 fl_X6_7 (by decide) dX6_priceIn_7 md_o rfl ?_
  refine r_iconst ok (nI 0) dX6_priceIn_10 (by rfl) ?_
  refine r_ialdN ok (by omega) (by omega) dX6_priceIn_11 md_s ?_
  refine r_icmp_lt ok 29 dX6_priceIn_12 (by decide) (fun c12_1 => ?_) (fun c12_1 => ?_)
  · skip
    refine r_iload_n ok dX6_priceIn_29 2 rfl rfl ?_
    refine r_cS1 ok [] mi_X6_price ml_X6_54 sm_X6_price dX6_priceIn_30 (c_X6_price K.2.1 G (mdM G M a s sA sH sL sI sP sT sG kp ln po wr) N  g ) rfl rfl ⟨Nat.le_of_ble_eq_true rfl, Nat.le_of_ble_eq_true rfl⟩ (Nat.le_of_ble_eq_true rfl) ⟨Nat.zero_le _, Nat.zero_le _⟩ ?_
    exact r_iret ok dX6_priceIn_33 rfl ⟨congrArg (fun z => some (Value.int z)) (show nI (10 + 5 * g) = zPriceIn s mm g from by unfold zPriceIn; split <;> first | rfl | (exfalso; simp only [Int32.lt_iff_toInt_lt, Int32.le_iff_toInt_le] at *; omega)), rfl⟩
  · skip
    refine r_iload_n ok dX6_priceIn_15 2 rfl rfl ?_
    refine r_cS1 ok [] mi_X6_price ml_X6_54 sm_X6_price dX6_priceIn_16 (c_X6_price K.2.1 G (mdM G M a s sA sH sL sI sP sT sG kp ln po wr) N  g ) rfl rfl ⟨Nat.le_of_ble_eq_true rfl, Nat.le_of_ble_eq_true rfl⟩ (Nat.le_of_ble_eq_true rfl) ⟨Nat.zero_le _, Nat.zero_le _⟩ ?_
    refine r_iload_n ok dX6_priceIn_19 2 rfl rfl ?_
    refine r_cS1 ok [.int (nI (10 + 5 * g))] mi_X6_price ml_X6_54 sm_X6_price dX6_priceIn_20 (c_X6_price K.2.1 G (mdM G M a s sA sH sL sI sP sT sG kp ln po wr) N  g ) rfl rfl ⟨Nat.le_of_ble_eq_true rfl, Nat.le_of_ble_eq_true rfl⟩ (Nat.le_of_ble_eq_true rfl) ⟨Nat.zero_le _, Nat.zero_le _⟩ ?_
    refine r_iconst ok (nI 5) dX6_priceIn_23 (by rfl) ?_
    refine r_idivN ok (by omega) (by omega) (by omega) dX6_priceIn_24 ?_
    refine r_isub ok dX6_priceIn_25 ?_
    refine r_goto ok 33 dX6_priceIn_26 (by decide) ?_
    exact r_iret ok dX6_priceIn_33 rfl ⟨congrArg (fun z => some (Value.int z)) (show (nI (10 + 5 * g)) - (nI ((10 + 5 * g) / 5)) = zPriceIn s mm g from by unfold zPriceIn; split <;> first | rfl | (exfalso; simp only [Int32.lt_iff_toInt_lt, Int32.le_iff_toInt_le] at *; omega)), rfl⟩
set_option maxHeartbeats 4000000 in
set_option maxRecDepth 100000 in
theorem c_X6_stringsOf (l : Launch) (G : zG) (M : zM) (N a : Nat) (s sA sH sL : Nat → Int32) (sI : Nat → Bool) (sP sT sG : Nat → Int32) (kp ln po : Int32) (wr : Bool)  (mm : Int32)  : zC l G yX6_stringsOf cX6_stringsOf 4 (some .int) 2 45 0 0 [.ref a, .int (mm)] (mdM G M a s sA sH sL sI sP sT sG kp ln po wr) N (zP (some (.int (zStr s mm))) (mdM G M a s sA sH sL sI sP sT sG kp ln po wr)) := by
  refine zC.of (by decide +kernel) (Nat.le_of_ble_eq_true rfl) ?_
  intro K hKl ok
  subst hKl
  show zW K G 4 _ 0 0 _ N 0 [(0, .ref a), (1, .int (mm))] []
  refine r_iconst ok (nI 0) dX6_stringsOf_0 (by rfl) ?_
  refine r_istore_n ok [(2, .int (nI 0)), (0, .ref a), (1, .int (mm))] dX6_stringsOf_1 rfl (by decide) rfl ?_
  refine r_iconst ok (nI 0) dX6_stringsOf_2 (by rfl) ?_
  refine r_istore_n ok [(3, .int (nI 0)), (2, .int (nI 0)), (0, .ref a), (1, .int (mm))] dX6_stringsOf_3 rfl (by decide) rfl ?_
  have L1 : ∀ (nL1 : Nat) (k : Nat), ((k + nL1 = 8)) → zW K G 4 (zQ K G (N + 0) 0 0 (zP (some (.int (zStr s mm))) (mdM G M a s sA sH sL sI sP sT sG kp ln po wr))) 0 0 (mdM G M a s sA sH sL sI sP sT sG kp ln po wr) N 4 [(0, .ref a), (1, .int (mm)), (2, .int (lsum (fun g => zWant s mm g) k)), (3, .int (nI (k)))] [] := by
    intro nL1
    induction nL1 with
    | zero =>
      intro k hk_k 
      obtain rfl : 8 = k := by omega
      refine r_iload_n ok dX6_stringsOf_4 3 rfl rfl ?_
      refine r_bipush ok (nI 8) dX6_stringsOf_5 (by rfl) ?_
      refine r_icmp_geN ok 25 (by omega) (by omega) dX6_stringsOf_7 (by decide) (fun _ => ?_) (fun c => absurd c (by decide))
      refine r_iload_n ok dX6_stringsOf_25 2 rfl rfl ?_
      exact r_iret ok dX6_stringsOf_26 rfl ⟨congrArg (fun z => some (Value.int z)) (show lsum (fun g => zWant s mm g) 8 = zStr s mm from by rfl), rfl⟩
    | succ nL1 ihL1 =>
      intro k hk_k 
      refine r_iload_n ok dX6_stringsOf_4 3 rfl rfl ?_
      refine r_bipush ok (nI 8) dX6_stringsOf_5 (by rfl) ?_
      refine r_icmp_geN ok 25 (by omega) (by omega) dX6_stringsOf_7 (by decide) (fun c7_3 => ?_) (fun c7_3 => ?_)
      · skip
        exact absurd c7_3 (by omega)
      · skip
        refine r_iload_n ok dX6_stringsOf_10 2 rfl rfl ?_
        refine r_aload_n ok dX6_stringsOf_11 0 rfl rfl ?_
        refine r_iload_n ok dX6_stringsOf_12 1 rfl rfl ?_
        refine r_iload_n ok dX6_stringsOf_13 3 rfl rfl ?_
        refine r_cV1 ok [.int (lsum (fun g => zWant s mm g) k)] mi_X6_wanted ci_X6 ml_X6_51 im_X6_wanted se_X6_wanted dX6_stringsOf_14 (c_X6_wanted K.2.1 G M N a s sA sH sL sI sP sT sG kp ln po wr  mm k (by omega)) md_o rfl rfl ⟨Nat.le_of_ble_eq_true rfl, Nat.le_of_ble_eq_true rfl⟩ (Nat.le_of_ble_eq_true rfl) ⟨Nat.zero_le _, Nat.zero_le _⟩ ?_
        refine r_iadd ok dX6_stringsOf_17 ?_
        refine r_istore_n ok [(2, .int ((lsum (fun g => zWant s mm g) k) + (zWant s mm k))), (0, .ref a), (1, .int (mm)), (3, .int (nI (k)))] dX6_stringsOf_18 rfl (by decide) rfl ?_
        refine r_iincN ok (c := 1) [(3, .int (nI (k + 1))), (2, .int ((lsum (fun g => zWant s mm g) k) + (zWant s mm k))), (0, .ref a), (1, .int (mm))] dX6_stringsOf_19 3 rfl (by rfl) (by decide) rfl ?_
        refine r_goto ok 4 dX6_stringsOf_22 (by decide) ?_
        have q4 : Value.int ((lsum (fun g => zWant s mm g) k) + (zWant s mm k)) = Value.int (lsum (fun g => zWant s mm g) (k + 1)) := by first | with_reducible rfl | (simp [lsum_s, nI_0, *])
        refine zW.forget (lv' := [(0, .ref a), (1, .int (mm)), (2, .int ((lsum (fun g => zWant s mm g) k) + (zWant s mm k))), (3, .int (nI (k + 1)))]) ?_ [2, 3, 1, 0] rfl
        refine zW.to (lv' := [(0, .ref a), (1, .int (mm)), (2, .int (lsum (fun g => zWant s mm g) (k + 1))), (3, .int (nI (k + 1)))]) ?_ rfl (congrArg (fun z => ([(0, .ref a), (1, .int (mm)), (2, z), (3, .int (nI (k + 1)))] : List (Nat × Value))) q4) rfl
        exact ihL1 (k + 1) (by omega)
  have q5 : Value.int (nI 0) = Value.int (lsum (fun g => zWant s mm g) 0) := by first | with_reducible rfl | (rfl)
  refine zW.forget (lv' := [(0, .ref a), (1, .int (mm)), (2, .int (nI 0)), (3, .int (nI 0))]) ?_ [2, 3, 1, 0] rfl
  refine zW.to (lv' := [(0, .ref a), (1, .int (mm)), (2, .int (lsum (fun g => zWant s mm g) 0)), (3, .int (nI 0))]) ?_ rfl (congrArg (fun z => ([(0, .ref a), (1, .int (mm)), (2, z), (3, .int (nI 0))] : List (Nat × Value))) q5) rfl
  exact L1 8 0 (by omega)
set_option maxHeartbeats 4000000 in
set_option maxRecDepth 100000 in
theorem c_X6_weightOf (l : Launch) (G : zG) (M : zM) (N a : Nat) (s sA sH sL : Nat → Int32) (sI : Nat → Bool) (sP sT sG : Nat → Int32) (kp ln po : Int32) (wr : Bool)  (mm : Int32)  : zC l G yX6_weightOf cX6_weightOf 4 (some .int) 2 45 0 0 [.ref a, .int (mm)] (mdM G M a s sA sH sL sI sP sT sG kp ln po wr) N (zP (some (.int (zWei s mm))) (mdM G M a s sA sH sL sI sP sT sG kp ln po wr)) := by
  refine zC.of (by decide +kernel) (Nat.le_of_ble_eq_true rfl) ?_
  intro K hKl ok
  subst hKl
  show zW K G 4 _ 0 0 _ N 0 [(0, .ref a), (1, .int (mm))] []
  refine r_iconst ok (nI 0) dX6_weightOf_0 (by rfl) ?_
  refine r_istore_n ok [(2, .int (nI 0)), (0, .ref a), (1, .int (mm))] dX6_weightOf_1 rfl (by decide) rfl ?_
  refine r_iconst ok (nI 0) dX6_weightOf_2 (by rfl) ?_
  refine r_istore_n ok [(3, .int (nI 0)), (2, .int (nI 0)), (0, .ref a), (1, .int (mm))] dX6_weightOf_3 rfl (by decide) rfl ?_
  have L1 : ∀ (nL1 : Nat) (k : Nat), ((k + nL1 = 8)) → zW K G 4 (zQ K G (N + 0) 0 0 (zP (some (.int (zWei s mm))) (mdM G M a s sA sH sL sI sP sT sG kp ln po wr))) 0 0 (mdM G M a s sA sH sL sI sP sT sG kp ln po wr) N 4 [(0, .ref a), (1, .int (mm)), (2, .int (lsum (fun g => nI (1 + g) * zWant s mm g) k)), (3, .int (nI (k)))] [] := by
    intro nL1
    induction nL1 with
    | zero =>
      intro k hk_k 
      obtain rfl : 8 = k := by omega
      refine r_iload_n ok dX6_weightOf_4 3 rfl rfl ?_
      refine r_bipush ok (nI 8) dX6_weightOf_5 (by rfl) ?_
      refine r_icmp_geN ok 29 (by omega) (by omega) dX6_weightOf_7 (by decide) (fun _ => ?_) (fun c => absurd c (by decide))
      refine r_iload_n ok dX6_weightOf_29 2 rfl rfl ?_
      exact r_iret ok dX6_weightOf_30 rfl ⟨congrArg (fun z => some (Value.int z)) (show lsum (fun g => nI (1 + g) * zWant s mm g) 8 = zWei s mm from by rfl), rfl⟩
    | succ nL1 ihL1 =>
      intro k hk_k 
      refine r_iload_n ok dX6_weightOf_4 3 rfl rfl ?_
      refine r_bipush ok (nI 8) dX6_weightOf_5 (by rfl) ?_
      refine r_icmp_geN ok 29 (by omega) (by omega) dX6_weightOf_7 (by decide) (fun c7_3 => ?_) (fun c7_3 => ?_)
      · skip
        exact absurd c7_3 (by omega)
      · skip
        refine r_iload_n ok dX6_weightOf_10 2 rfl rfl ?_
        refine r_iconst ok (nI 1) dX6_weightOf_11 (by rfl) ?_
        refine r_iload_n ok dX6_weightOf_12 3 rfl rfl ?_
        refine r_iaddN ok dX6_weightOf_13 ?_
        refine r_aload_n ok dX6_weightOf_14 0 rfl rfl ?_
        refine r_iload_n ok dX6_weightOf_15 1 rfl rfl ?_
        refine r_iload_n ok dX6_weightOf_16 3 rfl rfl ?_
        refine r_cV1 ok [.int (nI (1 + k)), .int (lsum (fun g => nI (1 + g) * zWant s mm g) k)] mi_X6_wanted ci_X6 ml_X6_51 im_X6_wanted se_X6_wanted dX6_weightOf_17 (c_X6_wanted K.2.1 G M N a s sA sH sL sI sP sT sG kp ln po wr  mm k (by omega)) md_o rfl rfl ⟨Nat.le_of_ble_eq_true rfl, Nat.le_of_ble_eq_true rfl⟩ (Nat.le_of_ble_eq_true rfl) ⟨Nat.zero_le _, Nat.zero_le _⟩ ?_
        refine r_imul ok dX6_weightOf_20 ?_
        refine r_iadd ok dX6_weightOf_21 ?_
        refine r_istore_n ok [(2, .int ((lsum (fun g => nI (1 + g) * zWant s mm g) k) + ((nI (1 + k)) * (zWant s mm k)))), (0, .ref a), (1, .int (mm)), (3, .int (nI (k)))] dX6_weightOf_22 rfl (by decide) rfl ?_
        refine r_iincN ok (c := 1) [(3, .int (nI (k + 1))), (2, .int ((lsum (fun g => nI (1 + g) * zWant s mm g) k) + ((nI (1 + k)) * (zWant s mm k)))), (0, .ref a), (1, .int (mm))] dX6_weightOf_23 3 rfl (by rfl) (by decide) rfl ?_
        refine r_goto ok 4 dX6_weightOf_26 (by decide) ?_
        have q4 : Value.int ((lsum (fun g => nI (1 + g) * zWant s mm g) k) + ((nI (1 + k)) * (zWant s mm k))) = Value.int (lsum (fun g => nI (1 + g) * zWant s mm g) (k + 1)) := by first | with_reducible rfl | (simp [lsum_s, nI_0, *])
        refine zW.forget (lv' := [(0, .ref a), (1, .int (mm)), (2, .int ((lsum (fun g => nI (1 + g) * zWant s mm g) k) + ((nI (1 + k)) * (zWant s mm k)))), (3, .int (nI (k + 1)))]) ?_ [2, 3, 1, 0] rfl
        refine zW.to (lv' := [(0, .ref a), (1, .int (mm)), (2, .int (lsum (fun g => nI (1 + g) * zWant s mm g) (k + 1))), (3, .int (nI (k + 1)))]) ?_ rfl (congrArg (fun z => ([(0, .ref a), (1, .int (mm)), (2, z), (3, .int (nI (k + 1)))] : List (Nat × Value))) q4) rfl
        exact ihL1 (k + 1) (by omega)
  have q5 : Value.int (nI 0) = Value.int (lsum (fun g => nI (1 + g) * zWant s mm g) 0) := by first | with_reducible rfl | (rfl)
  refine zW.forget (lv' := [(0, .ref a), (1, .int (mm)), (2, .int (nI 0)), (3, .int (nI 0))]) ?_ [2, 3, 1, 0] rfl
  refine zW.to (lv' := [(0, .ref a), (1, .int (mm)), (2, .int (lsum (fun g => nI (1 + g) * zWant s mm g) 0)), (3, .int (nI 0))]) ?_ rfl (congrArg (fun z => ([(0, .ref a), (1, .int (mm)), (2, z), (3, .int (nI 0))] : List (Nat × Value))) q5) rfl
  exact L1 8 0 (by omega)
set_option maxHeartbeats 4000000 in
set_option maxRecDepth 100000 in
theorem c_X6_valueOf (l : Launch) (G : zG) (M : zM) (N a : Nat) (s sA sH sL : Nat → Int32) (sI : Nat → Bool) (sP sT sG : Nat → Int32) (kp ln po : Int32) (wr : Bool)  (mm : Int32)  : zC l G yX6_valueOf cX6_valueOf 4 (some .int) 3 67 0 0 [.ref a, .int (mm)] (mdM G M a s sA sH sL sI sP sT sG kp ln po wr) N (zP (some (.int (zVal s mm))) (mdM G M a s sA sH sL sI sP sT sG kp ln po wr)) := by
  refine zC.of (by decide +kernel) (Nat.le_of_ble_eq_true rfl) ?_
  intro K hKl ok
  subst hKl
  show zW K G 4 _ 0 0 _ N 0 [(0, .ref a), (1, .int (mm))] []
  refine r_iconst ok (nI 0) dX6_valueOf_0 (by rfl) ?_
  refine r_istore_n ok [(2, .int (nI 0)), (0, .ref a), (1, .int (mm))] dX6_valueOf_1 rfl (by decide) rfl ?_
  refine r_iconst ok (nI 0) dX6_valueOf_2 (by rfl) ?_
  refine r_istore_n ok [(3, .int (nI 0)), (2, .int (nI 0)), (0, .ref a), (1, .int (mm))] dX6_valueOf_3 rfl (by decide) rfl ?_
  have L1 : ∀ (nL1 : Nat) (k : Nat), ((k + nL1 = 8)) → zW K G 4 (zQ K G (N + 0) 0 0 (zP (some (.int (zVal s mm))) (mdM G M a s sA sH sL sI sP sT sG kp ln po wr))) 0 0 (mdM G M a s sA sH sL sI sP sT sG kp ln po wr) N 4 [(0, .ref a), (1, .int (mm)), (2, .int (lsum (fun g => zWant s mm g * zPriceIn s mm g) k)), (3, .int (nI (k)))] [] := by
    intro nL1
    induction nL1 with
    | zero =>
      intro k hk_k 
      obtain rfl : 8 = k := by omega
      refine r_iload_n ok dX6_valueOf_4 3 rfl rfl ?_
      refine r_bipush ok (nI 8) dX6_valueOf_5 (by rfl) ?_
      refine r_icmp_geN ok 32 (by omega) (by omega) dX6_valueOf_7 (by decide) (fun _ => ?_) (fun c => absurd c (by decide))
      refine r_iload_n ok dX6_valueOf_32 2 rfl rfl ?_
      exact r_iret ok dX6_valueOf_33 rfl ⟨congrArg (fun z => some (Value.int z)) (show lsum (fun g => zWant s mm g * zPriceIn s mm g) 8 = zVal s mm from by rfl), rfl⟩
    | succ nL1 ihL1 =>
      intro k hk_k 
      refine r_iload_n ok dX6_valueOf_4 3 rfl rfl ?_
      refine r_bipush ok (nI 8) dX6_valueOf_5 (by rfl) ?_
      refine r_icmp_geN ok 32 (by omega) (by omega) dX6_valueOf_7 (by decide) (fun c7_3 => ?_) (fun c7_3 => ?_)
      · skip
        exact absurd c7_3 (by omega)
      · skip
        refine r_iload_n ok dX6_valueOf_10 2 rfl rfl ?_
        refine r_aload_n ok dX6_valueOf_11 0 rfl rfl ?_
        refine r_iload_n ok dX6_valueOf_12 1 rfl rfl ?_
        refine r_iload_n ok dX6_valueOf_13 3 rfl rfl ?_
        refine r_cV1 ok [.int (lsum (fun g => zWant s mm g * zPriceIn s mm g) k)] mi_X6_wanted ci_X6 ml_X6_51 im_X6_wanted se_X6_wanted dX6_valueOf_14 (c_X6_wanted K.2.1 G M N a s sA sH sL sI sP sT sG kp ln po wr  mm k (by omega)) md_o rfl rfl ⟨Nat.le_of_ble_eq_true rfl, Nat.le_of_ble_eq_true rfl⟩ (Nat.le_of_ble_eq_true rfl) ⟨Nat.zero_le _, Nat.zero_le _⟩ ?_
        refine r_aload_n ok dX6_valueOf_17 0 rfl rfl ?_
        refine r_iload_n ok dX6_valueOf_18 1 rfl rfl ?_
        refine r_iload_n ok dX6_valueOf_19 3 rfl rfl ?_
        refine r_cV1 ok [.int (zWant s mm k), .int (lsum (fun g => zWant s mm g * zPriceIn s mm g) k)] mi_X6_priceIn ci_X6 ml_X6_58 im_X6_priceIn se_X6_priceIn dX6_valueOf_20 (c_X6_priceIn K.2.1 G M N a s sA sH sL sI sP sT sG kp ln po wr  mm k (by omega)) md_o rfl rfl ⟨Nat.le_of_ble_eq_true rfl, Nat.le_of_ble_eq_true rfl⟩ (Nat.le_of_ble_eq_true rfl) ⟨Nat.zero_le _, Nat.zero_le _⟩ ?_
        refine r_imul ok dX6_valueOf_23 ?_
        refine r_iadd ok dX6_valueOf_24 ?_
        refine r_istore_n ok [(2, .int ((lsum (fun g => zWant s mm g * zPriceIn s mm g) k) + ((zWant s mm k) * (zPriceIn s mm k)))), (0, .ref a), (1, .int (mm)), (3, .int (nI (k)))] dX6_valueOf_25 rfl (by decide) rfl ?_
        refine r_iincN ok (c := 1) [(3, .int (nI (k + 1))), (2, .int ((lsum (fun g => zWant s mm g * zPriceIn s mm g) k) + ((zWant s mm k) * (zPriceIn s mm k)))), (0, .ref a), (1, .int (mm))] dX6_valueOf_26 3 rfl (by rfl) (by decide) rfl ?_
        refine r_goto ok 4 dX6_valueOf_29 (by decide) ?_
        have q4 : Value.int ((lsum (fun g => zWant s mm g * zPriceIn s mm g) k) + ((zWant s mm k) * (zPriceIn s mm k))) = Value.int (lsum (fun g => zWant s mm g * zPriceIn s mm g) (k + 1)) := by first | with_reducible rfl | (simp [lsum_s, nI_0, *])
        refine zW.forget (lv' := [(0, .ref a), (1, .int (mm)), (2, .int ((lsum (fun g => zWant s mm g * zPriceIn s mm g) k) + ((zWant s mm k) * (zPriceIn s mm k)))), (3, .int (nI (k + 1)))]) ?_ [2, 3, 1, 0] rfl
        refine zW.to (lv' := [(0, .ref a), (1, .int (mm)), (2, .int (lsum (fun g => zWant s mm g * zPriceIn s mm g) (k + 1))), (3, .int (nI (k + 1)))]) ?_ rfl (congrArg (fun z => ([(0, .ref a), (1, .int (mm)), (2, z), (3, .int (nI (k + 1)))] : List (Nat × Value))) q4) rfl
        exact ihL1 (k + 1) (by omega)
  have q5 : Value.int (nI 0) = Value.int (lsum (fun g => zWant s mm g * zPriceIn s mm g) 0) := by first | with_reducible rfl | (rfl)
  refine zW.forget (lv' := [(0, .ref a), (1, .int (mm)), (2, .int (nI 0)), (3, .int (nI 0))]) ?_ [2, 3, 1, 0] rfl
  refine zW.to (lv' := [(0, .ref a), (1, .int (mm)), (2, .int (lsum (fun g => zWant s mm g * zPriceIn s mm g) 0)), (3, .int (nI 0))]) ?_ rfl (congrArg (fun z => ([(0, .ref a), (1, .int (mm)), (2, z), (3, .int (nI 0))] : List (Nat × Value))) q5) rfl
  exact L1 8 0 (by omega)
set_option maxHeartbeats 4000000 in
set_option maxRecDepth 100000 in
theorem c_X6_postOf (l : Launch) (G : zG) (M : zM) (N a : Nat) (s sA sH sL : Nat → Int32) (sI : Nat → Bool) (sP sT sG : Nat → Int32) (kp ln po : Int32) (wr : Bool)  (mm : Int32)  : zC l G yX6_postOf cX6_postOf 2 (some .int) 3 68 0 0 [.ref a, .int (mm)] (mdM G M a s sA sH sL sI sP sT sG kp ln po wr) N (zP (some (.int (zPost s mm))) (mdM G M a s sA sH sL sI sP sT sG kp ln po wr)) := by
  refine zC.of (by decide +kernel) (Nat.le_of_ble_eq_true rfl) ?_
  intro K hKl ok
  subst hKl
  show zW K G 2 _ 0 0 _ N 0 [(0, .ref a), (1, .int (mm))] []
  refine r_aload_n ok dX6_postOf_0 0 rfl rfl ?_
  refine r_iload_n ok dX6_postOf_1 1 rfl rfl ?_
  refine r_cV1 ok [] mi_X6_stringsOf ci_X6 ml_X6_61 im_X6_stringsOf se_X6_stringsOf dX6_postOf_2 (c_X6_stringsOf K.2.1 G M N a s sA sH sL sI sP sT sG kp ln po wr  mm ) md_o rfl rfl ⟨Nat.le_of_ble_eq_true rfl, Nat.le_of_ble_eq_true rfl⟩ (Nat.le_of_ble_eq_true rfl) ⟨Nat.zero_le _, Nat.zero_le _⟩ ?_
  refine r_if_ne ok 12 dX6_postOf_5 (by decide) (fun c5_1 => ?_) (fun c5_1 => ?_)
  · skip
    refine r_aload_n ok dX6_postOf_12 0 rfl rfl ?_
    refine r_getf ok ci_X6 fl_X6_7 (by decide) dX6_postOf_13 md_o rfl ?_
    refine r_iconst ok (nI 1) dX6_postOf_16 (by rfl) ?_
    refine r_ialdN ok (by omega) (by omega) dX6_postOf_17 md_s ?_
    refine r_aload_n ok dX6_postOf_18 0 rfl rfl ?_
    refine r_getf ok ci_X6 fl_X6_7 (by decide) dX6_postOf_19 md_o rfl ?_
    refine r_iconst ok (nI 2) dX6_postOf_22 (by rfl) ?_
    refine r_ialdN ok (by omega) (by omega) dX6_postOf_23 md_s ?_
    refine r_aload_n ok dX6_postOf_24 0 rfl rfl ?_
    refine r_iload_n ok dX6_postOf_25 1 rfl rfl ?_
    refine r_cV1 ok [.int (s 2), .int (s 1)] mi_X6_weightOf ci_X6 ml_X6_64 im_X6_weightOf se_X6_weightOf dX6_postOf_26 (c_X6_weightOf K.2.1 G M N a s sA sH sL sI sP sT sG kp ln po wr  mm ) md_o rfl rfl ⟨Nat.le_of_ble_eq_true rfl, Nat.le_of_ble_eq_true rfl⟩ (Nat.le_of_ble_eq_true rfl) ⟨Nat.zero_le _, Nat.zero_le _⟩ ?_
    refine r_imul ok dX6_postOf_29 ?_
    refine r_iadd ok dX6_postOf_30 ?_
    exact r_iret ok dX6_postOf_31 rfl ⟨congrArg (fun z => some (Value.int z)) (show (s 1) + ((s 2) * (zWei s mm)) = zPost s mm from by unfold zPost; first | exact (if_pos (by assumption)).symm | exact (if_neg (by assumption)).symm), rfl⟩
  · skip
    refine r_iconst ok (nI 0) dX6_postOf_8 (by rfl) ?_
    refine r_goto ok 31 dX6_postOf_9 (by decide) ?_
    exact r_iret ok dX6_postOf_31 rfl ⟨congrArg (fun z => some (Value.int z)) (show nI 0 = zPost s mm from by unfold zPost; first | exact (if_pos (by assumption)).symm | exact (if_neg (by assumption)).symm), rfl⟩
set_option maxHeartbeats 4000000 in
set_option maxRecDepth 100000 in
theorem c_X6_costOf (l : Launch) (G : zG) (M : zM) (N a : Nat) (s sA sH sL : Nat → Int32) (sI : Nat → Bool) (sP sT sG : Nat → Int32) (kp ln po : Int32) (wr : Bool)  (mm : Int32)  : zC l G yX6_costOf cX6_costOf 2 (some .int) 4 90 0 0 [.ref a, .int (mm)] (mdM G M a s sA sH sL sI sP sT sG kp ln po wr) N (zP (some (.int (zCost s mm))) (mdM G M a s sA sH sL sI sP sT sG kp ln po wr)) := by
  refine zC.of (by decide +kernel) (Nat.le_of_ble_eq_true rfl) ?_
  intro K hKl ok
  subst hKl
  show zW K G 2 _ 0 0 _ N 0 [(0, .ref a), (1, .int (mm))] []
  refine r_aload_n ok dX6_costOf_0 0 rfl rfl ?_
  refine r_iload_n ok dX6_costOf_1 1 rfl rfl ?_
  refine r_cV1 ok [] mi_X6_valueOf ci_X6 ml_X6_67 im_X6_valueOf se_X6_valueOf dX6_costOf_2 (c_X6_valueOf K.2.1 G M N a s sA sH sL sI sP sT sG kp ln po wr  mm ) md_o rfl rfl ⟨Nat.le_of_ble_eq_true rfl, Nat.le_of_ble_eq_true rfl⟩ (Nat.le_of_ble_eq_true rfl) ⟨Nat.zero_le _, Nat.zero_le _⟩ ?_
  refine r_aload_n ok dX6_costOf_5 0 rfl rfl ?_
  refine r_iload_n ok dX6_costOf_6 1 rfl rfl ?_
  refine r_cV1 ok [.int (zVal s mm)] mi_X6_postOf ci_X6 ml_X6_70 im_X6_postOf se_X6_postOf dX6_costOf_7 (c_X6_postOf K.2.1 G M N a s sA sH sL sI sP sT sG kp ln po wr  mm ) md_o rfl rfl ⟨Nat.le_of_ble_eq_true rfl, Nat.le_of_ble_eq_true rfl⟩ (Nat.le_of_ble_eq_true rfl) ⟨Nat.zero_le _, Nat.zero_le _⟩ ?_
  refine r_iadd ok dX6_costOf_10 ?_
  exact r_iret ok dX6_costOf_11 rfl ⟨congrArg (fun z => some (Value.int z)) (show (zVal s mm) + (zPost s mm) = zCost s mm from by rfl), rfl⟩
set_option maxHeartbeats 4000000 in
set_option maxRecDepth 100000 in
theorem c_X6_dutyOn (l : Launch) (G : zG) (M : zM) (N a : Nat) (s sA sH sL : Nat → Int32) (sI : Nat → Bool) (sP sT sG : Nat → Int32) (kp ln po : Int32) (wr : Bool)  (v : Int32)  : zC l G yX6_dutyOn cX6_dutyOn 2 (some .int) 0 0 0 0 [.ref a, .int (v)] (mdM G M a s sA sH sL sI sP sT sG kp ln po wr) N (zP (some (.int (zDuty s v))) (mdM G M a s sA sH sL sI sP sT sG kp ln po wr)) := by
  refine zC.of (by decide +kernel) (Nat.le_of_ble_eq_true rfl) ?_
  intro K hKl ok
  subst hKl
  show zW K G 2 _ 0 0 _ N 0 [(0, .ref a), (1, .int (v))] []
  refine r_iload_n ok dX6_dutyOn_0 1 rfl rfl ?_
  refine r_aload_n ok dX6_dutyOn_1 0 rfl rfl ?_
  refine r_getf ok ci_X6 fl_X6_7 (by decide) dX6_dutyOn_2 md_o rfl ?_
  refine r_iconst ok (nI 5) dX6_dutyOn_5 (by rfl) ?_
  refine r_ialdN ok (by omega) (by omega) dX6_dutyOn_6 md_s ?_
  refine r_icmp_le ok 32 dX6_dutyOn_7 (by decide) (fun c7_1 => ?_) (fun c7_1 => ?_)
  · skip
    refine r_iconst ok (nI 0) dX6_dutyOn_32 (by rfl) ?_
    exact r_iret ok dX6_dutyOn_33 rfl ⟨congrArg (fun z => some (Value.int z)) (show nI 0 = zDuty s v from by unfold zDuty; split <;> first | rfl | (exfalso; simp only [Int32.lt_iff_toInt_lt, Int32.le_iff_toInt_le] at *; omega)), rfl⟩
  · skip
    refine r_iload_n ok dX6_dutyOn_10 1 rfl rfl ?_
    refine r_aload_n ok dX6_dutyOn_11 0 rfl rfl ?_
    refine r_getf ok ci_X6 fl_X6_7 (by decide) dX6_dutyOn_12 md_o rfl ?_
    refine r_iconst ok (nI 5) dX6_dutyOn_15 (by rfl) ?_
    refine r_ialdN ok (by omega) (by omega) dX6_dutyOn_16 md_s ?_
    refine r_isub ok dX6_dutyOn_17 ?_
    refine r_aload_n ok dX6_dutyOn_18 0 rfl rfl ?_
    refine r_getf ok ci_X6 fl_X6_7 (by decide) dX6_dutyOn_19 md_o rfl ?_
    refine r_bipush ok (nI 6) dX6_dutyOn_22 (by rfl) ?_
    refine r_ialdN ok (by omega) (by omega) dX6_dutyOn_24 md_s ?_
    refine r_imul ok dX6_dutyOn_25 ?_
    refine r_bipush ok (nI 100) dX6_dutyOn_26 (by rfl) ?_
    refine r_idiv ok (by decide) dX6_dutyOn_28 ?_
    refine r_goto ok 33 dX6_dutyOn_29 (by decide) ?_
    exact r_iret ok dX6_dutyOn_33 rfl ⟨congrArg (fun z => some (Value.int z)) (show ((v - (s 5)) * (s 6)) / (nI 100) = zDuty s v from by unfold zDuty; split <;> first | rfl | (exfalso; simp only [Int32.lt_iff_toInt_lt, Int32.le_iff_toInt_le] at *; omega)), rfl⟩
