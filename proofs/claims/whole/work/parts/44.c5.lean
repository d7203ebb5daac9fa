set_option maxHeartbeats 4000000 in
set_option maxRecDepth 100000 in
theorem c_X2_characterAt (l : Launch) (G : zG) (M : zM) (N : Nat)  (x : Int64) (k : Nat)  : zC l G yX2_characterAt cX2_characterAt 3 (some .int) 0 0 0 0 [.long (x), .int (nI (k))] (M) N (zP (some (.int (zCh x k))) (M)) := by
  refine zC.of (by decide +kernel) (Nat.le_of_ble_eq_true rfl) ?_
  intro K hKl ok
  subst hKl
  show zW K G 3 _ 0 0 _ N 0 [(0, .long (x)), (2, .int (nI (k)))] []
  refine r_lload_n ok dX2_characterAt_0 0 rfl rfl ?_
  refine r_bipush ok (nI 8) dX2_characterAt_1 (by rfl) ?_
  refine r_iload_n ok dX2_characterAt_3 1 rfl rfl ?_
  refine r_imulN ok dX2_characterAt_4 ?_
  refine r_lushr ok dX2_characterAt_5 ?_
  refine r_ldc2 ok cl_X2_19 dX2_characterAt_6 ?_
  refine r_land ok dX2_characterAt_9 ?_
  refine r_l2i ok dX2_characterAt_10 ?_
  exact r_iret ok dX2_characterAt_11 rfl ⟨congrArg (fun z => some (Value.int z)) (show (((x.toUInt64 >>> ((nI (8 * k)).toInt64.toUInt64 &&& Int64.toUInt64 63)).toInt64) &&& 255).toInt32 = zCh x k from by rfl), rfl⟩
set_option maxHeartbeats 4000000 in
set_option maxRecDepth 100000 in
theorem c_X2_charactersIn (l : Launch) (G : zG) (M : zM) (N : Nat)  (x : Int64)  : zC l G yX2_charactersIn cX2_charactersIn 4 (some .int) 1 22 0 0 [.long (x)] (M) N (zP (some (.int (nI (zCIn x)))) (M)) := by
  refine zC.of (by decide +kernel) (Nat.le_of_ble_eq_true rfl) ?_
  intro K hKl ok
  subst hKl
  show zW K G 4 _ 0 0 _ N 0 [(0, .long (x))] []
  refine r_iconst ok (nI 0) dX2_charactersIn_0 (by rfl) ?_
  refine r_istore_n ok [(2, .int (nI 0)), (0, .long (x))] dX2_charactersIn_1 rfl (by decide) rfl ?_
  have L1 : ∀ (nL1 : Nat) (k : Nat), ((k + nL1 = 8)) → (zCIn x = zCg x (8 - k) k) → zW K G 4 (zQ K G (N + 0) 0 0 (zP (some (.int (nI (zCIn x)))) (M))) 0 0 (M) N 2 [(0, .long (x)), (2, .int (nI (k)))] [] := by
    intro nL1
    induction nL1 with
    | zero =>
      intro k hk_k hx
      obtain rfl : 8 = k := by omega
      refine r_iload_n ok dX2_charactersIn_2 1 rfl rfl ?_
      refine r_bipush ok (nI 8) dX2_charactersIn_3 (by rfl) ?_
      refine r_icmp_geN ok 42 (by omega) (by omega) dX2_charactersIn_5 (by decide) (fun _ => ?_) (fun c => absurd c (by decide))
      refine r_iload_n ok dX2_charactersIn_42 1 rfl rfl ?_
      refine r_bipush ok (nI 8) dX2_charactersIn_43 (by rfl) ?_
      refine r_icmp_geN ok 63 (by omega) (by omega) dX2_charactersIn_45 (by decide) (fun _ => ?_) (fun c => absurd c (by decide))
      refine r_iconst ok (nI 0) dX2_charactersIn_63 (by rfl) ?_
      refine r_istore_n ok [(3, .int (nI 0)), (0, .long (x)), (2, .int (nI (8)))] dX2_charactersIn_64 rfl (by decide) rfl ?_
      refine r_iload_n ok dX2_charactersIn_65 0 rfl rfl ?_
      refine r_if_eqN ok 73 (by omega) dX2_charactersIn_66 (by decide) (fun _ => ?_) (fun c => absurd c (by decide))
      refine r_iload_n ok dX2_charactersIn_73 2 rfl rfl ?_
      exact r_iret ok dX2_charactersIn_74 rfl ⟨congrArg (fun z => some (Value.int z)) (show nI (8) = nI (zCIn x) from by first | exact congrArg nI hr.symm | exact congrArg nI (hx.trans (zCg_8 x)).symm | exact congrArg nI (hr.trans (if_pos ⟨by omega, by assumption⟩)).symm | exact congrArg nI (hr.trans (if_neg (fun q => absurd q.1 (by omega)))).symm | exact congrArg nI (hr.trans (if_neg (fun q => q.2 (by assumption)))).symm), rfl⟩
    | succ nL1 ihL1 =>
      intro k hk_k hx
      refine r_iload_n ok dX2_charactersIn_2 1 rfl rfl ?_
      refine r_bipush ok (nI 8) dX2_charactersIn_3 (by rfl) ?_
      refine r_icmp_geN ok 42 (by omega) (by omega) dX2_charactersIn_5 (by decide) (fun c5_5 => ?_) (fun c5_5 => ?_)
      · skip
        exact absurd c5_5 (by omega)
      · skip
        refine r_lload_n ok dX2_charactersIn_8 0 rfl rfl ?_
        refine r_iload_n ok dX2_charactersIn_9 1 rfl rfl ?_
        refine r_cS1 ok [] mi_X2_characterAt ml_X2_15 sm_X2_characterAt dX2_charactersIn_10 (c_X2_characterAt K.2.1 G (M) N  x k ) rfl rfl ⟨Nat.le_of_ble_eq_true rfl, Nat.le_of_ble_eq_true rfl⟩ (Nat.le_of_ble_eq_true rfl) ⟨Nat.zero_le _, Nat.zero_le _⟩ ?_
        refine r_if_eq ok 42 dX2_charactersIn_13 (by decide) (fun c13_6 => ?_) (fun c13_6 => ?_)
        · skip
          have hr := hx.trans (zCg_e (by omega) (by omega) c13_6)
          refine r_iload_n ok dX2_charactersIn_42 1 rfl rfl ?_
          refine r_bipush ok (nI 8) dX2_charactersIn_43 (by rfl) ?_
          refine r_icmp_geN ok 63 (by omega) (by omega) dX2_charactersIn_45 (by decide) (fun c45_7 => ?_) (fun c45_7 => ?_)
          · skip
            refine r_iconst ok (nI 0) dX2_charactersIn_63 (by rfl) ?_
            refine r_istore_n ok [(3, .int (nI 0)), (0, .long (x)), (2, .int (nI (k)))] dX2_charactersIn_64 rfl (by decide) rfl ?_
            refine r_iload_n ok dX2_charactersIn_65 0 rfl rfl ?_
            refine r_if_eqN ok 73 (by omega) dX2_charactersIn_66 (by decide) (fun _ => ?_) (fun c => absurd c (by decide))
            refine r_iload_n ok dX2_charactersIn_73 2 rfl rfl ?_
            exact r_iret ok dX2_charactersIn_74 rfl ⟨congrArg (fun z => some (Value.int z)) (show nI (k) = nI (zCIn x) from by first | exact congrArg nI hr.symm | exact congrArg nI (hx.trans (zCg_8 x)).symm | exact congrArg nI (hr.trans (if_pos ⟨by omega, by assumption⟩)).symm | exact congrArg nI (hr.trans (if_neg (fun q => absurd q.1 (by omega)))).symm | exact congrArg nI (hr.trans (if_neg (fun q => q.2 (by assumption)))).symm), rfl⟩
          · skip
            refine r_lload_n ok dX2_charactersIn_48 0 rfl rfl ?_
            refine r_bipush ok (nI 8) dX2_charactersIn_49 (by rfl) ?_
            refine r_iload_n ok dX2_charactersIn_51 1 rfl rfl ?_
            refine r_imulN ok dX2_charactersIn_52 ?_
            refine r_lushr ok dX2_charactersIn_53 ?_
            refine r_lconst ok 0 dX2_charactersIn_54 (by rfl) ?_
            refine r_lcmp ok dX2_charactersIn_55 ?_
            refine r_if_eq ok 63 dX2_charactersIn_56 (by decide) (fun c56_9 => ?_) (fun c56_9 => ?_)
            · skip
              refine r_iconst ok (nI 0) dX2_charactersIn_63 (by rfl) ?_
              refine r_istore_n ok [(3, .int (nI 0)), (0, .long (x)), (2, .int (nI (k)))] dX2_charactersIn_64 rfl (by decide) rfl ?_
              refine r_iload_n ok dX2_charactersIn_65 0 rfl rfl ?_
              refine r_if_eqN ok 73 (by omega) dX2_charactersIn_66 (by decide) (fun _ => ?_) (fun c => absurd c (by decide))
              refine r_iload_n ok dX2_charactersIn_73 2 rfl rfl ?_
              exact r_iret ok dX2_charactersIn_74 rfl ⟨congrArg (fun z => some (Value.int z)) (show nI (k) = nI (zCIn x) from by first | exact congrArg nI hr.symm | exact congrArg nI (hx.trans (zCg_8 x)).symm | exact congrArg nI (hr.trans (if_pos ⟨by omega, by assumption⟩)).symm | exact congrArg nI (hr.trans (if_neg (fun q => absurd q.1 (by omega)))).symm | exact congrArg nI (hr.trans (if_neg (fun q => q.2 (by assumption)))).symm), rfl⟩
            · skip
              refine r_iconst ok (nI 1) dX2_charactersIn_59 (by rfl) ?_
              refine r_goto ok 64 dX2_charactersIn_60 (by decide) ?_
              refine r_istore_n ok [(3, .int (nI 1)), (0, .long (x)), (2, .int (nI (k)))] dX2_charactersIn_64 rfl (by decide) rfl ?_
              refine r_iload_n ok dX2_charactersIn_65 0 rfl rfl ?_
              refine r_if_eqN ok 73 (by omega) dX2_charactersIn_66 (by decide) (fun c => absurd c (by decide)) (fun _ => ?_)
              refine r_iconst ok (nI 0) dX2_charactersIn_69 (by rfl) ?_
              refine r_goto ok 74 dX2_charactersIn_70 (by decide) ?_
              exact r_iret ok dX2_charactersIn_74 rfl ⟨congrArg (fun z => some (Value.int z)) (show nI 0 = nI (zCIn x) from by first | exact congrArg nI hr.symm | exact congrArg nI (hx.trans (zCg_8 x)).symm | exact congrArg nI (hr.trans (if_pos ⟨by omega, by assumption⟩)).symm | exact congrArg nI (hr.trans (if_neg (fun q => absurd q.1 (by omega)))).symm | exact congrArg nI (hr.trans (if_neg (fun q => q.2 (by assumption)))).symm), rfl⟩
        · skip
          have hc := c13_6
          refine r_lload_n ok dX2_charactersIn_16 0 rfl rfl ?_
          refine r_iload_n ok dX2_charactersIn_17 1 rfl rfl ?_
          refine r_cS1 ok [] mi_X2_characterAt ml_X2_15 sm_X2_characterAt dX2_charactersIn_18 (c_X2_characterAt K.2.1 G (M) N  x k ) rfl rfl ⟨Nat.le_of_ble_eq_true rfl, Nat.le_of_ble_eq_true rfl⟩ (Nat.le_of_ble_eq_true rfl) ⟨Nat.zero_le _, Nat.zero_le _⟩ ?_
          refine r_istore_n ok [(3, .int (zCh x k)), (0, .long (x)), (2, .int (nI (k)))] dX2_charactersIn_21 rfl (by decide) rfl ?_
          refine r_iload_n ok dX2_charactersIn_22 0 rfl rfl ?_
          refine r_bipush ok (nI 33) dX2_charactersIn_23 (by rfl) ?_
          refine r_icmp_lt ok 34 dX2_charactersIn_25 (by decide) (fun c25_12 => ?_) (fun c25_12 => ?_)
          · skip
            have hr := hx.trans (zCg_bad (by omega) (by omega) hc (zbe_lt c25_12))
            refine r_iconst ok (nI 0) dX2_charactersIn_34 (by rfl) ?_
            exact r_iret ok dX2_charactersIn_35 rfl ⟨congrArg (fun z => some (Value.int z)) (show nI 0 = nI (zCIn x) from by first | exact congrArg nI hr.symm | exact congrArg nI (hx.trans (zCg_8 x)).symm | exact congrArg nI (hr.trans (if_pos ⟨by omega, by assumption⟩)).symm | exact congrArg nI (hr.trans (if_neg (fun q => absurd q.1 (by omega)))).symm | exact congrArg nI (hr.trans (if_neg (fun q => q.2 (by assumption)))).symm), rfl⟩
          · skip
            have hl := c25_12
            refine r_iload_n ok dX2_charactersIn_28 0 rfl rfl ?_
            refine r_bipush ok (nI 126) dX2_charactersIn_29 (by rfl) ?_
            refine r_icmp_le ok 36 dX2_charactersIn_31 (by decide) (fun c31_13 => ?_) (fun c31_13 => ?_)
            · skip
              have hr := hx.trans (zCg_go (by omega) (by omega) hc (zbe_ok hl (Int32.not_lt.mpr c31_13)))
              refine r_iincN ok (c := 1) [(2, .int (nI (k + 1))), (3, .int (zCh x k)), (0, .long (x))] dX2_charactersIn_36 2 rfl (by rfl) (by decide) rfl ?_
              refine r_goto ok 2 dX2_charactersIn_39 (by decide) ?_
              refine zW.forget (lv' := [(0, .long (x)), (2, .int (nI (k + 1)))]) ?_ [2, 0] rfl
              exact ihL1 (k + 1) (by omega) (hr)
            · skip
              have hr := hx.trans (zCg_bad (by omega) (by omega) hc (zbe_gt (Int32.not_le.mp c31_13)))
              refine r_iconst ok (nI 0) dX2_charactersIn_34 (by rfl) ?_
              exact r_iret ok dX2_charactersIn_35 rfl ⟨congrArg (fun z => some (Value.int z)) (show nI 0 = nI (zCIn x) from by first | exact congrArg nI hr.symm | exact congrArg nI (hx.trans (zCg_8 x)).symm | exact congrArg nI (hr.trans (if_pos ⟨by omega, by assumption⟩)).symm | exact congrArg nI (hr.trans (if_neg (fun q => absurd q.1 (by omega)))).symm | exact congrArg nI (hr.trans (if_neg (fun q => q.2 (by assumption)))).symm), rfl⟩
  refine zW.forget (lv' := [(0, .long (x)), (2, .int (nI 0))]) ?_ [1, 0] rfl
  exact L1 8 0 (by omega) (rfl)
set_option maxHeartbeats 4000000 in
set_option maxRecDepth 100000 in
theorem c_X2_append (l : Launch) (G : zG) (M : zM) (N : Nat) (h : Nat) (sg : Nat → Int32) (pl : Int32) (ln : Nat) (x : Int64) (mn : Nat) (hln : ln + mn ≤ 60) : zC l G yX2_append cX2_append 5 (none) 1 22 0 0 [.ref h, .long (x), .int (nI (mn))] (pdM G M h sg (nI ln)) N (zP none (pdM G M h (zApp sg x ln mn mn) (nI (ln + mn)))) := by
  refine zC.of (by decide +kernel) (Nat.le_of_ble_eq_true rfl) ?_
  intro K hKl ok
  subst hKl
  show zW K G 5 _ 0 0 _ N 0 [(0, .ref h), (1, .long (x)), (3, .int (nI (mn)))] []
  refine r_iload_n ok dX2_append_0 2 rfl rfl ?_
  refine r_iconst ok (nI 1) dX2_append_1 (by rfl) ?_
  refine r_isub ok dX2_append_2 ?_
  refine r_istore ok [(4, .int ((nI (mn)) - (nI 1))), (0, .ref h), (1, .long (x)), (3, .int (nI (mn)))] dX2_append_3 (by decide) rfl ?_
  have L1 : ∀ (nL1 : Nat) (k : Nat), ((k + nL1 = mn)) → zW K G 5 (zQ K G (N + 0) 0 0 (zP none (pdM G M h (zApp sg x ln mn mn) (nI (ln + mn))))) 0 0 (pdM G M h (zApp sg x ln mn k) (nI (ln + k))) N 5 [(0, .ref h), (1, .long (x)), (3, .int (nI (mn))), (4, .int (nI nL1 - 1))] [] := by
    intro nL1
    induction nL1 with
    | zero =>
      intro k hk_k 
      obtain rfl : mn = k := by omega
      refine r_iload ok dX2_append_5 3 rfl ?_
      refine r_if_lt ok 51 dX2_append_7 (by decide) (fun c7_2 => ?_) (fun c7_2 => ?_)
      · skip
        exact r_vret ok dX2_append_51 rfl ⟨rfl, rfl⟩
      · skip
        exact absurd (by decide +kernel) c7_2
    | succ nL1 ihL1 =>
      intro k hk_k 
      refine zW.to (lv' := [(0, .ref h), (1, .long (x)), (3, .int (nI (mn))), (4, .int (nI (nL1)))]) ?_ rfl (by rw [nI_pred]) rfl
      have e62 : nL1 = mn - 1 - k := by omega
      refine r_iload ok dX2_append_5 3 rfl ?_
      refine r_if_ltN ok 51 (by omega) dX2_append_7 (by decide) (fun c7_3 => ?_) (fun c7_3 => ?_)
      · skip
        exact c7_3.elim
      · skip
        refine r_aload_n ok dX2_append_10 0 rfl rfl ?_
        refine r_getf ok ci_X2 fl_X2_21 (by decide) dX2_append_11 pd_o rfl ?_
        refine r_bipush ok (nI 60) dX2_append_14 (by rfl) ?_
        refine r_icmp_geN ok 51 (by omega) (by omega) dX2_append_16 (by decide) (fun c16_4 => ?_) (fun c16_4 => ?_)
        · skip
          exact absurd c16_4 (by omega)
        · skip
          refine r_aload_n ok dX2_append_19 0 rfl rfl ?_
          refine r_getf ok ci_X2 fl_X2_11 (by decide) dX2_append_20 pd_o rfl ?_
          refine r_aload_n ok dX2_append_23 0 rfl rfl ?_
          refine r_getf ok ci_X2 fl_X2_21 (by decide) dX2_append_24 pd_o rfl ?_
          refine r_lload_n ok dX2_append_27 1 rfl rfl ?_
          refine r_iload ok dX2_append_28 3 rfl ?_
          refine r_cS1 ok [.int (nI (ln + k)), .ref (h + 1)] mi_X2_characterAt ml_X2_15 sm_X2_characterAt dX2_append_30 (c_X2_characterAt K.2.1 G (pdM G M h (zApp sg x ln mn k) (nI (ln + k))) N  x nL1 ) rfl rfl ⟨Nat.le_of_ble_eq_true rfl, Nat.le_of_ble_eq_true rfl⟩ (Nat.le_of_ble_eq_true rfl) ⟨Nat.zero_le _, Nat.zero_le _⟩ ?_
          refine r_i2c ok dX2_append_33 ?_
          refine zW.to (st' := [.int (zCh x nL1), .int (nI (ln + k)), .ref (h + 1)]) ?_ rfl rfl (congrArg (fun z => (Value.int z :: [.int (nI (ln + k)), .ref (h + 1)] : List Value)) (zCh_c _ _))
          refine r_castN ok (by omega) (by omega) (zCh_n _ _) dX2_append_34 pd_s (pdw_s _) ?_
          refine r_aload_n ok dX2_append_35 0 rfl rfl ?_
          refine r_dup ok dX2_append_36 rfl ?_
          refine r_getf ok ci_X2 fl_X2_21 (by decide) dX2_append_37 pd_o rfl ?_
          refine r_iconst ok (nI 1) dX2_append_40 (by rfl) ?_
          refine r_iaddN ok dX2_append_41 ?_
          refine r_putf ok ci_X2 fl_X2_21 (by decide) rfl rfl rfl dX2_append_42 pd_o rfl (pdw_o (nI ((ln + k) + 1))) ?_
          refine r_iinc ok ((nI (nL1)) + (-1)) [(4, .int ((nI (nL1)) + (-1))), (0, .ref h), (1, .long (x)), (3, .int (nI (mn)))] dX2_append_45 3 rfl (by rfl) (by decide) rfl ?_
          refine r_goto ok 5 dX2_append_48 (by decide) ?_
          have q5 : Value.int ((nI (nL1)) + (-1)) = Value.int (nI nL1 - 1) := by first | with_reducible rfl | (first | exact congrArg Value.int (nI_pm _) | (rw [e62]; rfl) | rfl)
          have q6 : (upd (zApp sg x ln mn k) (ln + k) (zCh x nL1) : Nat → Int32) = zApp sg x ln mn (k + 1) := by first | with_reducible rfl | (first | exact congrArg Value.int (nI_pm _) | (rw [e62]; rfl) | rfl)
          have q7 : (nI ((ln + k) + 1) : Int32) = nI (ln + (k + 1)) := by first | with_reducible rfl | (first | exact congrArg Value.int (nI_pm _) | (rw [e62]; rfl) | rfl)
          refine zW.forget (lv' := [(0, .ref h), (1, .long (x)), (3, .int (nI (mn))), (4, .int ((nI (nL1)) + (-1)))]) ?_ [1, 2, 3, 0] rfl
          refine zW.to (lv' := [(0, .ref h), (1, .long (x)), (3, .int (nI (mn))), (4, .int (nI nL1 - 1))]) ?_ rfl (congrArg (fun z => ([(0, .ref h), (1, .long (x)), (3, .int (nI (mn))), (4, z)] : List (Nat × Value))) q5) rfl
          refine zW.to ?_ (congrArg (fun z => pdM G M h z (nI ((ln + k) + 1))) q6) rfl rfl
          refine zW.to ?_ (congrArg (fun z => pdM G M h (zApp sg x ln mn (k + 1)) z) q7) rfl rfl
          exact ihL1 (k + 1) (by omega)
  have q8 : Value.int ((nI (mn)) - (nI 1)) = Value.int (nI mn - 1) := by first | with_reducible rfl | (first | rfl | (simp; done))
  have q9 : (sg : Nat → Int32) = zApp sg x ln mn 0 := by first | with_reducible rfl | (first | rfl | (simp; done))
  have q10 : (nI ln : Int32) = nI (ln + 0) := by first | with_reducible rfl | (first | rfl | (simp; done))
  refine zW.forget (lv' := [(0, .ref h), (1, .long (x)), (3, .int (nI (mn))), (4, .int ((nI (mn)) - (nI 1)))]) ?_ [1, 2, 3, 0] rfl
  refine zW.to (lv' := [(0, .ref h), (1, .long (x)), (3, .int (nI (mn))), (4, .int (nI mn - 1))]) ?_ rfl (congrArg (fun z => ([(0, .ref h), (1, .long (x)), (3, .int (nI (mn))), (4, z)] : List (Nat × Value))) q8) rfl
  refine zW.to ?_ (congrArg (fun z => pdM G M h z (nI ln)) q9) rfl rfl
  refine zW.to ?_ (congrArg (fun z => pdM G M h (zApp sg x ln mn 0) z) q10) rfl rfl
  exact L1 mn 0 (by omega)
set_option maxHeartbeats 4000000 in
set_option maxRecDepth 100000 in
theorem c_X2_placeAfterWant (l : Launch) (G : zG) (M : zM) (N : Nat)  (sg : Int32)  : zC l G yX2_placeAfterWant cX2_placeAfterWant 1 (some .int) 0 0 0 0 [.int (sg)] (M) N (zP (some (.int (zPlI (zPlW sg)))) (M)) := by
  refine zC.of (by decide +kernel) (Nat.le_of_ble_eq_true rfl) ?_
  intro K hKl ok
  subst hKl
  show zW K G 1 _ 0 0 _ N 0 [(0, .int (sg))] []
  refine r_iload_n ok dX2_placeAfterWant_0 0 rfl rfl ?_
  by_cases c1_1 : sg = nI 44
  · skip
    subst c1_1
    refine r_lookup ok dX2_placeAfterWant_1 (x := nI 44) (by decide +kernel) (t := 28) (by decide +kernel) ?_
    refine r_iconst ok (nI 1) dX2_placeAfterWant_28 (by rfl) ?_
    exact r_iret ok dX2_placeAfterWant_29 rfl ⟨congrArg (fun z => some (Value.int z)) (show nI 1 = zPlI (zPlW (nI 44)) from by simp [zPlW, zPlI, *]), rfl⟩
  by_cases c1_2 : sg = nI 59
  · skip
    subst c1_2
    refine r_lookup ok dX2_placeAfterWant_1 (x := nI 59) (by decide +kernel) (t := 30) (by decide +kernel) ?_
    refine r_iconst ok (nI 0) dX2_placeAfterWant_30 (by rfl) ?_
    exact r_iret ok dX2_placeAfterWant_31 rfl ⟨congrArg (fun z => some (Value.int z)) (show nI 0 = zPlI (zPlW (nI 59)) from by simp [zPlW, zPlI, *]), rfl⟩
  refine r_lookup ok dX2_placeAfterWant_1 (by decide +kernel) (t := 32) (by rw [lv_osw c1_1 (by decide), lv_osw c1_2 (by decide)]; rfl) ?_
  refine r_iconst ok (-1) dX2_placeAfterWant_32 (by rfl) ?_
  exact r_iret ok dX2_placeAfterWant_33 rfl ⟨congrArg (fun z => some (Value.int z)) (show -1 = zPlI (zPlW sg) from by simp [zPlW, zPlI, *]), rfl⟩
set_option maxHeartbeats 4000000 in
set_option maxRecDepth 100000 in
theorem c_X2_placeAfterFirstDigit (l : Launch) (G : zG) (M : zM) (N : Nat)  (sg : Int32)  : zC l G yX2_placeAfterFirstDigit cX2_placeAfterFirstDigit 1 (some .int) 0 0 0 0 [.int (sg)] (M) N (zP (some (.int (zPlI (zPlD sg)))) (M)) := by
  refine zC.of (by decide +kernel) (Nat.le_of_ble_eq_true rfl) ?_
  intro K hKl ok
  subst hKl
  show zW K G 1 _ 0 0 _ N 0 [(0, .int (sg))] []
  refine r_iload_n ok dX2_placeAfterFirstDigit_0 0 rfl rfl ?_
  by_cases c1_1 : sg = nI 49
  · skip
    subst c1_1
    refine r_lookup ok dX2_placeAfterFirstDigit_1 (x := nI 49) (by decide +kernel) (t := 28) (by decide +kernel) ?_
    refine r_iconst ok (nI 4) dX2_placeAfterFirstDigit_28 (by rfl) ?_
    exact r_iret ok dX2_placeAfterFirstDigit_29 rfl ⟨congrArg (fun z => some (Value.int z)) (show nI 4 = zPlI (zPlD (nI 49)) from by simp [zPlD, zPlI, *]), rfl⟩
  by_cases c1_2 : sg = nI 50
  · skip
    subst c1_2
    refine r_lookup ok dX2_placeAfterFirstDigit_1 (x := nI 50) (by decide +kernel) (t := 30) (by decide +kernel) ?_
    refine r_iconst ok (nI 5) dX2_placeAfterFirstDigit_30 (by rfl) ?_
    exact r_iret ok dX2_placeAfterFirstDigit_31 rfl ⟨congrArg (fun z => some (Value.int z)) (show nI 5 = zPlI (zPlD (nI 50)) from by simp [zPlD, zPlI, *]), rfl⟩
  refine r_lookup ok dX2_placeAfterFirstDigit_1 (by decide +kernel) (t := 32) (by rw [lv_osw c1_1 (by decide), lv_osw c1_2 (by decide)]; rfl) ?_
  refine r_iload_n ok dX2_placeAfterFirstDigit_32 0 rfl rfl ?_
  refine r_bipush ok (nI 51) dX2_placeAfterFirstDigit_33 (by rfl) ?_
  refine r_icmp_lt ok 49 dX2_placeAfterFirstDigit_35 (by decide) (fun c35_3 => ?_) (fun c35_3 => ?_)
  · skip
    have z35 : zbe sg (nI 51) (nI 57) = false := zbe_lt c35_3
    refine r_iconst ok (-1) dX2_placeAfterFirstDigit_49 (by rfl) ?_
    exact r_iret ok dX2_placeAfterFirstDigit_50 rfl ⟨congrArg (fun z => some (Value.int z)) (show -1 = zPlI (zPlD sg) from by simp [zPlD, zPlI, *]), rfl⟩
  · skip
    have l35 := c35_3
    refine r_iload_n ok dX2_placeAfterFirstDigit_38 0 rfl rfl ?_
    refine r_bipush ok (nI 57) dX2_placeAfterFirstDigit_39 (by rfl) ?_
    refine r_icmp_gt ok 49 dX2_placeAfterFirstDigit_41 (by decide) (fun c41_4 => ?_) (fun c41_4 => ?_)
    · skip
      have z35 : zbe sg (nI 51) (nI 57) = false := zbe_gt c41_4
      refine r_iconst ok (-1) dX2_placeAfterFirstDigit_49 (by rfl) ?_
      exact r_iret ok dX2_placeAfterFirstDigit_50 rfl ⟨congrArg (fun z => some (Value.int z)) (show -1 = zPlI (zPlD sg) from by simp [zPlD, zPlI, *]), rfl⟩
    · skip
      have z35 : zbe sg (nI 51) (nI 57) = true := zbe_ok l35 c41_4
      refine r_bipush ok (nI 6) dX2_placeAfterFirstDigit_44 (by rfl) ?_
      refine r_goto ok 50 dX2_placeAfterFirstDigit_46 (by decide) ?_
      exact r_iret ok dX2_placeAfterFirstDigit_50 rfl ⟨congrArg (fun z => some (Value.int z)) (show nI 6 = zPlI (zPlD sg) from by simp [zPlD, zPlI, *]), rfl⟩
set_option maxHeartbeats 4000000 in
set_option maxRecDepth 100000 in
theorem c_X2_placeAfter (l : Launch) (G : zG) (M : zM) (N : Nat)  (p : Nat) (sg : Int32) (hp : p < 7) : zC l G yX2_placeAfter cX2_placeAfter 2 (some .int) 1 20 0 0 [.int (nI (p)), .int (sg)] (M) N (zP (some (.int (zPlI (zPlA p sg)))) (M)) := by
  refine zC.of (by decide +kernel) (Nat.le_of_ble_eq_true rfl) ?_
  intro K hKl ok
  subst hKl
  show zW K G 2 _ 0 0 _ N 0 [(0, .int (nI (p))), (1, .int (sg))] []
  refine r_iload_n ok dX2_placeAfter_0 0 rfl rfl ?_
  by_cases c1_1 : p = 0
  · skip
    subst c1_1
    refine r_table ok dX2_placeAfter_1 (t := 40) (by decide +kernel) (by decide +kernel) ?_
    refine r_iload_n ok dX2_placeAfter_40 1 rfl rfl ?_
    refine r_bipush ok (nI 97) dX2_placeAfter_41 (by rfl) ?_
    refine r_icmp_lt ok 56 dX2_placeAfter_43 (by decide) (fun c43_2 => ?_) (fun c43_2 => ?_)
    · skip
      have z43 : zbe sg (nI 97) (nI 102) = false := zbe_lt c43_2
      refine r_iconst ok (-1) dX2_placeAfter_56 (by rfl) ?_
      exact r_iret ok dX2_placeAfter_57 rfl ⟨congrArg (fun z => some (Value.int z)) (show -1 = zPlI (zPlA 0 sg) from by simp [zPlA, zPlI, *]), rfl⟩
    · skip
      have l43 := c43_2
      refine r_iload_n ok dX2_placeAfter_46 1 rfl rfl ?_
      refine r_bipush ok (nI 102) dX2_placeAfter_47 (by rfl) ?_
      refine r_icmp_gt ok 56 dX2_placeAfter_49 (by decide) (fun c49_3 => ?_) (fun c49_3 => ?_)
      · skip
        have z43 : zbe sg (nI 97) (nI 102) = false := zbe_gt c49_3
        refine r_iconst ok (-1) dX2_placeAfter_56 (by rfl) ?_
        exact r_iret ok dX2_placeAfter_57 rfl ⟨congrArg (fun z => some (Value.int z)) (show -1 = zPlI (zPlA 0 sg) from by simp [zPlA, zPlI, *]), rfl⟩
      · skip
        have z43 : zbe sg (nI 97) (nI 102) = true := zbe_ok l43 c49_3
        refine r_iconst ok (nI 1) dX2_placeAfter_52 (by rfl) ?_
        refine r_goto ok 57 dX2_placeAfter_53 (by decide) ?_
        exact r_iret ok dX2_placeAfter_57 rfl ⟨congrArg (fun z => some (Value.int z)) (show nI 1 = zPlI (zPlA 0 sg) from by simp [zPlA, zPlI, *]), rfl⟩
  by_cases c1_4 : p = 1
  · skip
    subst c1_4
    refine r_table ok dX2_placeAfter_1 (t := 58) (by decide +kernel) (by decide +kernel) ?_
    refine r_iload_n ok dX2_placeAfter_58 1 rfl rfl ?_
    refine r_bipush ok (nI 48) dX2_placeAfter_59 (by rfl) ?_
    refine r_icmp_lt ok 74 dX2_placeAfter_61 (by decide) (fun c61_5 => ?_) (fun c61_5 => ?_)
    · skip
      have z61 : zbe sg (nI 48) (nI 55) = false := zbe_lt c61_5
      refine r_iconst ok (-1) dX2_placeAfter_74 (by rfl) ?_
      exact r_iret ok dX2_placeAfter_75 rfl ⟨congrArg (fun z => some (Value.int z)) (show -1 = zPlI (zPlA 1 sg) from by simp [zPlA, zPlI, *]), rfl⟩
    · skip
      have l61 := c61_5
      refine r_iload_n ok dX2_placeAfter_64 1 rfl rfl ?_
      refine r_bipush ok (nI 55) dX2_placeAfter_65 (by rfl) ?_
      refine r_icmp_gt ok 74 dX2_placeAfter_67 (by decide) (fun c67_6 => ?_) (fun c67_6 => ?_)
      · skip
        have z61 : zbe sg (nI 48) (nI 55) = false := zbe_gt c67_6
        refine r_iconst ok (-1) dX2_placeAfter_74 (by rfl) ?_
        exact r_iret ok dX2_placeAfter_75 rfl ⟨congrArg (fun z => some (Value.int z)) (show -1 = zPlI (zPlA 1 sg) from by simp [zPlA, zPlI, *]), rfl⟩
      · skip
        have z61 : zbe sg (nI 48) (nI 55) = true := zbe_ok l61 c67_6
        refine r_iconst ok (nI 2) dX2_placeAfter_70 (by rfl) ?_
        refine r_goto ok 75 dX2_placeAfter_71 (by decide) ?_
        exact r_iret ok dX2_placeAfter_75 rfl ⟨congrArg (fun z => some (Value.int z)) (show nI 2 = zPlI (zPlA 1 sg) from by simp [zPlA, zPlI, *]), rfl⟩
  by_cases c1_7 : p = 2
  · skip
    subst c1_7
    refine r_table ok dX2_placeAfter_1 (t := 76) (by decide +kernel) (by decide +kernel) ?_
    refine r_iload_n ok dX2_placeAfter_76 1 rfl rfl ?_
    refine r_bipush ok (nI 58) dX2_placeAfter_77 (by rfl) ?_
    refine r_icmp_ne ok 86 dX2_placeAfter_79 (by decide) (fun c79_8 => ?_) (fun c79_8 => ?_)
    · skip
      refine r_iconst ok (-1) dX2_placeAfter_86 (by rfl) ?_
      exact r_iret ok dX2_placeAfter_87 rfl ⟨congrArg (fun z => some (Value.int z)) (show -1 = zPlI (zPlA 2 sg) from by simp [zPlA, zPlI, *]), rfl⟩
    · skip
      refine r_iconst ok (nI 3) dX2_placeAfter_82 (by rfl) ?_
      refine r_goto ok 87 dX2_placeAfter_83 (by decide) ?_
      exact r_iret ok dX2_placeAfter_87 rfl ⟨congrArg (fun z => some (Value.int z)) (show nI 3 = zPlI (zPlA 2 sg) from by simp [zPlA, zPlI, *]), rfl⟩
  by_cases c1_9 : p = 3
  · skip
    subst c1_9
    refine r_table ok dX2_placeAfter_1 (t := 88) (by decide +kernel) (by decide +kernel) ?_
    refine r_iload_n ok dX2_placeAfter_88 1 rfl rfl ?_
    refine r_cS1 ok [] mi_X2_placeAfterFirstDigit ml_X2_30 sm_X2_placeAfterFirstDigit dX2_placeAfter_89 (c_X2_placeAfterFirstDigit K.2.1 G (M) N  sg ) rfl rfl ⟨Nat.le_of_ble_eq_true rfl, Nat.le_of_ble_eq_true rfl⟩ (Nat.le_of_ble_eq_true rfl) ⟨Nat.zero_le _, Nat.zero_le _⟩ ?_
    exact r_iret ok dX2_placeAfter_92 rfl ⟨congrArg (fun z => some (Value.int z)) (show zPlI (zPlD sg) = zPlI (zPlA 3 sg) from by simp [zPlA, zPlI, *]), rfl⟩
  by_cases c1_10 : p = 4
  · skip
    subst c1_10
    refine r_table ok dX2_placeAfter_1 (t := 93) (by decide +kernel) (by decide +kernel) ?_
    refine r_iload_n ok dX2_placeAfter_93 1 rfl rfl ?_
    refine r_bipush ok (nI 48) dX2_placeAfter_94 (by rfl) ?_
    refine r_icmp_lt ok 110 dX2_placeAfter_96 (by decide) (fun c96_11 => ?_) (fun c96_11 => ?_)
    · skip
      have z96 : zbe sg (nI 48) (nI 57) = false := zbe_lt c96_11
      refine r_iload_n ok dX2_placeAfter_110 1 rfl rfl ?_
      refine r_cS1 ok [] mi_X2_placeAfterWant ml_X2_34 sm_X2_placeAfterWant dX2_placeAfter_111 (c_X2_placeAfterWant K.2.1 G (M) N  sg ) rfl rfl ⟨Nat.le_of_ble_eq_true rfl, Nat.le_of_ble_eq_true rfl⟩ (Nat.le_of_ble_eq_true rfl) ⟨Nat.zero_le _, Nat.zero_le _⟩ ?_
      exact r_iret ok dX2_placeAfter_114 rfl ⟨congrArg (fun z => some (Value.int z)) (show zPlI (zPlW sg) = zPlI (zPlA 4 sg) from by simp [zPlA, zPlI, *]), rfl⟩
    · skip
      have l96 := c96_11
      refine r_iload_n ok dX2_placeAfter_99 1 rfl rfl ?_
      refine r_bipush ok (nI 57) dX2_placeAfter_100 (by rfl) ?_
      refine r_icmp_gt ok 110 dX2_placeAfter_102 (by decide) (fun c102_12 => ?_) (fun c102_12 => ?_)
      · skip
        have z96 : zbe sg (nI 48) (nI 57) = false := zbe_gt c102_12
        refine r_iload_n ok dX2_placeAfter_110 1 rfl rfl ?_
        refine r_cS1 ok [] mi_X2_placeAfterWant ml_X2_34 sm_X2_placeAfterWant dX2_placeAfter_111 (c_X2_placeAfterWant K.2.1 G (M) N  sg ) rfl rfl ⟨Nat.le_of_ble_eq_true rfl, Nat.le_of_ble_eq_true rfl⟩ (Nat.le_of_ble_eq_true rfl) ⟨Nat.zero_le _, Nat.zero_le _⟩ ?_
        exact r_iret ok dX2_placeAfter_114 rfl ⟨congrArg (fun z => some (Value.int z)) (show zPlI (zPlW sg) = zPlI (zPlA 4 sg) from by simp [zPlA, zPlI, *]), rfl⟩
      · skip
        have z96 : zbe sg (nI 48) (nI 57) = true := zbe_ok l96 c102_12
        refine r_bipush ok (nI 6) dX2_placeAfter_105 (by rfl) ?_
        refine r_goto ok 114 dX2_placeAfter_107 (by decide) ?_
        exact r_iret ok dX2_placeAfter_114 rfl ⟨congrArg (fun z => some (Value.int z)) (show nI 6 = zPlI (zPlA 4 sg) from by simp [zPlA, zPlI, *]), rfl⟩
  by_cases c1_13 : p = 5
  · skip
    subst c1_13
    refine r_table ok dX2_placeAfter_1 (t := 115) (by decide +kernel) (by decide +kernel) ?_
    refine r_iload_n ok dX2_placeAfter_115 1 rfl rfl ?_
    refine r_bipush ok (nI 48) dX2_placeAfter_116 (by rfl) ?_
    refine r_icmp_ne ok 126 dX2_placeAfter_118 (by decide) (fun c118_14 => ?_) (fun c118_14 => ?_)
    · skip
      refine r_iload_n ok dX2_placeAfter_126 1 rfl rfl ?_
      refine r_cS1 ok [] mi_X2_placeAfterWant ml_X2_34 sm_X2_placeAfterWant dX2_placeAfter_127 (c_X2_placeAfterWant K.2.1 G (M) N  sg ) rfl rfl ⟨Nat.le_of_ble_eq_true rfl, Nat.le_of_ble_eq_true rfl⟩ (Nat.le_of_ble_eq_true rfl) ⟨Nat.zero_le _, Nat.zero_le _⟩ ?_
      exact r_iret ok dX2_placeAfter_130 rfl ⟨congrArg (fun z => some (Value.int z)) (show zPlI (zPlW sg) = zPlI (zPlA 5 sg) from by simp [zPlA, zPlI, *]), rfl⟩
    · skip
      refine r_bipush ok (nI 6) dX2_placeAfter_121 (by rfl) ?_
      refine r_goto ok 130 dX2_placeAfter_123 (by decide) ?_
      exact r_iret ok dX2_placeAfter_130 rfl ⟨congrArg (fun z => some (Value.int z)) (show nI 6 = zPlI (zPlA 5 sg) from by simp [zPlA, zPlI, *]), rfl⟩
  have hd1 : (nI (p)).toInt < 0 ∨ 5 < (nI (p)).toInt := by rw [nI_toInt (by omega)]; omega
  refine r_table ok dX2_placeAfter_1 (t := 131) (by rw [if_pos hd1]; decide) (by decide) ?_
  refine r_iload_n ok dX2_placeAfter_131 1 rfl rfl ?_
  refine r_cS1 ok [] mi_X2_placeAfterWant ml_X2_34 sm_X2_placeAfterWant dX2_placeAfter_132 (c_X2_placeAfterWant K.2.1 G (M) N  sg ) rfl rfl ⟨Nat.le_of_ble_eq_true rfl, Nat.le_of_ble_eq_true rfl⟩ (Nat.le_of_ble_eq_true rfl) ⟨Nat.zero_le _, Nat.zero_le _⟩ ?_
  exact r_iret ok dX2_placeAfter_135 rfl ⟨congrArg (fun z => some (Value.int z)) (show zPlI (zPlW sg) = zPlI (zPlA p sg) from by simp [zPlA, zPlI, *]), rfl⟩
set_option maxHeartbeats 4000000 in
set_option maxRecDepth 100000 in
theorem c_X2_faultIndex (l : Launch) (G : zG) (M : zM) (N : Nat) (h : Nat) (sg : Nat → Int32) (pl : Int32) (ln : Nat)  (hln : ln ≤ 60) : zC l G yX2_faultIndex cX2_faultIndex 3 (some .int) 2 41 0 0 [.ref h] (pdM G M h sg (nI ln)) N (zP (some (.int (zFx sg ln))) (pdM G M h sg (nI ln))) := by
  refine zC.of (by decide +kernel) (Nat.le_of_ble_eq_true rfl) ?_
  intro K hKl ok
  subst hKl
  show zW K G 3 _ 0 0 _ N 0 [(0, .ref h)] []
  refine r_iconst ok (nI 0) dX2_faultIndex_0 (by rfl) ?_
  refine r_istore_n ok [(1, .int (nI 0)), (0, .ref h)] dX2_faultIndex_1 rfl (by decide) rfl ?_
  refine r_iconst ok (nI 0) dX2_faultIndex_2 (by rfl) ?_
  refine r_istore_n ok [(2, .int (nI 0)), (1, .int (nI 0)), (0, .ref h)] dX2_faultIndex_3 rfl (by decide) rfl ?_
  have L1 : ∀ (nL1 : Nat) (k : Nat), ((k + nL1 = ln)) → (zFx sg ln = zFxF sg ln (ln - k) k) → zW K G 3 (zQ K G (N + 0) 0 0 (zP (some (.int (zFx sg ln))) (pdM G M h sg (nI ln)))) 0 0 (pdM G M h sg (nI ln)) N 4 [(0, .ref h), (1, .int (nI (zPn sg k))), (2, .int (nI (k)))] [] := by
    intro nL1
    induction nL1 with
    | zero =>
      intro k hk_k hx
      have hp7 := zPn_lt sg k
      obtain rfl : ln = k := by omega
      refine r_iload_n ok dX2_faultIndex_4 2 rfl rfl ?_
      refine r_aload_n ok dX2_faultIndex_5 0 rfl rfl ?_
      refine r_getf ok ci_X2 fl_X2_21 (by decide) dX2_faultIndex_6 pd_o rfl ?_
      refine r_icmp_geN ok 42 (by omega) (by omega) dX2_faultIndex_9 (by decide) (fun c9_2 => ?_) (fun c9_2 => ?_)
      · skip
        refine r_iload_n ok dX2_faultIndex_42 1 rfl rfl ?_
        refine r_iconst ok (nI 4) dX2_faultIndex_43 (by rfl) ?_
        refine r_icmp_ltN ok 52 (by omega) (by omega) dX2_faultIndex_44 (by decide) (fun c44_3 => ?_) (fun c44_3 => ?_)
        · skip
          have hr := hx.trans (zFx_len ln sg (by omega))
          refine r_aload_n ok dX2_faultIndex_52 0 rfl rfl ?_
          refine r_getf ok ci_X2 fl_X2_21 (by decide) dX2_faultIndex_53 pd_o rfl ?_
          exact r_iret ok dX2_faultIndex_56 rfl ⟨congrArg (fun z => some (Value.int z)) (show nI (ln) = zFx sg ln from by exact hr.symm), rfl⟩
        · skip
          have hr := hx.trans (zFx_end ln sg (by omega))
          refine r_ldc ok ck_X2_29 dX2_faultIndex_47 ?_
          refine r_goto ok 56 dX2_faultIndex_49 (by decide) ?_
          exact r_iret ok dX2_faultIndex_56 rfl ⟨congrArg (fun z => some (Value.int z)) (show -100006 = zFx sg ln from by exact hr.symm), rfl⟩
      · skip
        exact absurd c9_2 (by omega)
    | succ nL1 ihL1 =>
      intro k hk_k hx
      have hp7 := zPn_lt sg k
      refine r_iload_n ok dX2_faultIndex_4 2 rfl rfl ?_
      refine r_aload_n ok dX2_faultIndex_5 0 rfl rfl ?_
      refine r_getf ok ci_X2 fl_X2_21 (by decide) dX2_faultIndex_6 pd_o rfl ?_
      refine r_icmp_geN ok 42 (by omega) (by omega) dX2_faultIndex_9 (by decide) (fun c9_4 => ?_) (fun c9_4 => ?_)
      · skip
        exact absurd c9_4 (by omega)
      · skip
        refine r_iload_n ok dX2_faultIndex_12 2 rfl rfl ?_
        refine r_bipush ok (nI 60) dX2_faultIndex_13 (by rfl) ?_
        refine r_icmp_geN ok 42 (by omega) (by omega) dX2_faultIndex_15 (by decide) (fun c15_5 => ?_) (fun c15_5 => ?_)
        · skip
          exact absurd c15_5 (by omega)
        · skip
          refine r_iload_n ok dX2_faultIndex_18 1 rfl rfl ?_
          refine r_aload_n ok dX2_faultIndex_19 0 rfl rfl ?_
          refine r_getf ok ci_X2 fl_X2_11 (by decide) dX2_faultIndex_20 pd_o rfl ?_
          refine r_iload_n ok dX2_faultIndex_23 2 rfl rfl ?_
          refine r_caldN ok (by omega) (by omega) dX2_faultIndex_24 pd_s ?_
          refine r_cS1 ok [] mi_X2_placeAfter ml_X2_25 sm_X2_placeAfter dX2_faultIndex_25 (c_X2_placeAfter K.2.1 G (pdM G M h sg (nI ln)) N  (zPn sg k) (sg k) (zPn_lt _ _)) rfl rfl ⟨Nat.le_of_ble_eq_true rfl, Nat.le_of_ble_eq_true rfl⟩ (Nat.le_of_ble_eq_true rfl) ⟨Nat.zero_le _, Nat.zero_le _⟩ ?_
          refine r_istore_n ok [(1, .int (zPlI (zPlA (zPn sg k) (sg k)))), (0, .ref h), (2, .int (nI (k)))] dX2_faultIndex_28 rfl (by decide) rfl ?_
          refine r_iload_n ok dX2_faultIndex_29 0 rfl rfl ?_
          refine r_iconst ok (-1) dX2_faultIndex_30 (by rfl) ?_
          refine r_icmp_ne ok 36 dX2_faultIndex_31 (by decide) (fun c31_6 => ?_) (fun c31_6 => ?_)
          · skip
            have hs := zPlI_some c31_6
            have hr := hx.trans (zFxF_go (by omega) (by omega) hs)
            refine r_iincN ok (c := 1) [(2, .int (nI (k + 1))), (1, .int (zPlI (zPlA (zPn sg k) (sg k)))), (0, .ref h)] dX2_faultIndex_36 2 rfl (by rfl) (by decide) rfl ?_
            refine r_goto ok 4 dX2_faultIndex_39 (by decide) ?_
            have q7 : Value.int (zPlI (zPlA (zPn sg k) (sg k))) = Value.int (nI (zPn sg (k + 1))) := by first | with_reducible rfl | (exact congrArg Value.int (zPn_s hs))
            refine zW.forget (lv' := [(0, .ref h), (1, .int (zPlI (zPlA (zPn sg k) (sg k)))), (2, .int (nI (k + 1)))]) ?_ [2, 1, 0] rfl
            refine zW.to (lv' := [(0, .ref h), (1, .int (nI (zPn sg (k + 1)))), (2, .int (nI (k + 1)))]) ?_ rfl (congrArg (fun z => ([(0, .ref h), (1, z), (2, .int (nI (k + 1)))] : List (Nat × Value))) q7) rfl
            exact ihL1 (k + 1) (by omega) (hr)
          · skip
            have hr := hx.trans (zFxF_no (by omega) (by omega) (zPlI_none c31_6))
            refine r_iload_n ok dX2_faultIndex_34 2 rfl rfl ?_
            exact r_iret ok dX2_faultIndex_35 rfl ⟨congrArg (fun z => some (Value.int z)) (show nI (k) = zFx sg ln from by exact hr.symm), rfl⟩
  have q8 : Value.int (nI 0) = Value.int (nI (zPn sg 0)) := by first | with_reducible rfl | (rfl)
  refine zW.forget (lv' := [(0, .ref h), (1, .int (nI 0)), (2, .int (nI 0))]) ?_ [2, 1, 0] rfl
  refine zW.to (lv' := [(0, .ref h), (1, .int (nI (zPn sg 0))), (2, .int (nI 0))]) ?_ rfl (congrArg (fun z => ([(0, .ref h), (1, z), (2, .int (nI 0))] : List (Nat × Value))) q8) rfl
  exact L1 ln 0 (by omega) (rfl)
set_option maxHeartbeats 4000000 in
set_option maxRecDepth 100000 in
theorem c_X2_addWants (l : Launch) (G : zG) (M : zM) (N : Nat) (h : Nat) (sg : Nat → Int32) (pl : Int32) (b : Nat) (st : Nat → Int32) (dy : Int32) (x : Int32) (br : Nat → Int32) (sp : Nat → Nat → Int32) (wa : Nat → Nat → Int32) (ac : Nat → Int32) (ps : Nat → Int32) (pp : Nat → Int32) (pu : Nat → Int32) (lo : Nat → Int32) (un : Int32) (op : Int32) (pi : Nat → Nat) (cn : Nat → Nat → Nat → Int32) (vl : Nat → Int32) (du : Nat → Int32) (io : Nat → Bool) (hp : Nat → Int32) (hs : Nat → Int32) (ln : Nat)  (hln : ln ≤ 60) (hbh : b + 66 ≤ h ∨ h + 2 ≤ b) (hrs : ∀ j, j < ln → (zPlA (zPn sg j) (sg j)).isSome = true) : zC l G yX2_addWants cX2_addWants 8 (none) 2 44 0 0 [.ref h, .ref b] (cbM G (pdM G M h sg (nI ln)) b st dy x br sp wa ac ps pp pu lo un op pi cn vl du io hp hs) N (zP none (cbM G (pdM G M h sg (nI ln)) b st dy x br sp (zAdW wa sg ln) ac ps pp pu lo un op pi cn vl du io hp hs)) := by
  refine zC.of (by decide +kernel) (Nat.le_of_ble_eq_true rfl) ?_
  intro K hKl ok
  subst hKl
  show zW K G 8 _ 0 0 _ N 0 [(0, .ref h), (1, .ref b)] []
  refine r_iconst ok (nI 0) dX2_addWants_0 (by rfl) ?_
  refine r_istore_n ok [(2, .int (nI 0)), (0, .ref h), (1, .ref b)] dX2_addWants_1 rfl (by decide) rfl ?_
  refine r_iconst ok (nI 0) dX2_addWants_2 (by rfl) ?_
  refine r_istore_n ok [(3, .int (nI 0)), (2, .int (nI 0)), (0, .ref h), (1, .ref b)] dX2_addWants_3 rfl (by decide) rfl ?_
  refine r_iconst ok (nI 0) dX2_addWants_4 (by rfl) ?_
  refine r_istore ok [(4, .int (nI 0)), (3, .int (nI 0)), (2, .int (nI 0)), (0, .ref h), (1, .ref b)] dX2_addWants_5 (by decide) rfl ?_
  refine r_iconst ok (nI 0) dX2_addWants_7 (by rfl) ?_
  refine r_istore ok [(5, .int (nI 0)), (4, .int (nI 0)), (3, .int (nI 0)), (2, .int (nI 0)), (0, .ref h), (1, .ref b)] dX2_addWants_8 (by decide) rfl ?_
  refine r_iconst ok (nI 0) dX2_addWants_10 (by rfl) ?_
  refine r_istore ok [(6, .int (nI 0)), (5, .int (nI 0)), (4, .int (nI 0)), (3, .int (nI 0)), (2, .int (nI 0)), (0, .ref h), (1, .ref b)] dX2_addWants_11 (by decide) rfl ?_
  have L1 : ∀ (nL1 : Nat) (k : Nat), ((k + nL1 = ln)) → zW K G 8 (zQ K G (N + 0) 0 0 (zP none (cbM G (pdM G M h sg (nI ln)) b st dy x br sp (zAdW wa sg ln) ac ps pp pu lo un op pi cn vl du io hp hs))) 0 0 (cbM G (pdM G M h sg (nI ln)) b st dy x br sp ((zAdS wa sg k).2.2.2) ac ps pp pu lo un op pi cn vl du io hp hs) N 13 [(0, .ref h), (1, .ref b), (2, .int (nI (zPn sg k))), (3, .int ((zAdS wa sg k).1)), (4, .int ((zAdS wa sg k).2.1)), (5, .int ((zAdS wa sg k).2.2.1)), (6, .int (nI (k)))] [] := by
    intro nL1
    induction nL1 with
    | zero =>
      intro k hk_k 
      have hp7 := zPn_lt sg k
      obtain rfl : ln = k := by omega
      refine r_iload ok dX2_addWants_13 6 rfl ?_
      refine r_aload_n ok dX2_addWants_15 0 rfl rfl ?_
      refine r_getf ok ci_X2 fl_X2_21 (by decide) dX2_addWants_16 ((cb_out (by omega)).trans pd_o) rfl ?_
      refine r_icmp_geN ok 128 (by omega) (by omega) dX2_addWants_19 (by decide) (fun c19_2 => ?_) (fun c19_2 => ?_)
      · skip
        refine r_aload_n ok dX2_addWants_128 1 rfl rfl ?_
        refine r_iload_n ok dX2_addWants_129 3 rfl rfl ?_
        refine r_iload ok dX2_addWants_130 4 rfl ?_
        refine r_iload ok dX2_addWants_132 5 rfl ?_
        refine r_cV0 ok [] mi_X0_addWant ci_X0 ml_X2_37 im_X0_addWant se_X0_addWant dX2_addWants_134 (c_X0_addWant K.2.1 G (pdM G M h sg (nI ln)) N b st dy x br sp ((zAdS wa sg ln).2.2.2) ac ps pp pu lo un op pi cn vl du io hp hs  ((zAdS wa sg ln).1) ((zAdS wa sg ln).2.1) ((zAdS wa sg ln).2.2.1) ) cb_o rfl rfl ⟨Nat.le_of_ble_eq_true rfl, Nat.le_of_ble_eq_true rfl⟩ (Nat.le_of_ble_eq_true rfl) ⟨Nat.zero_le _, Nat.zero_le _⟩ ?_
        exact r_vret ok dX2_addWants_137 rfl ⟨rfl, (by rfl)⟩
      · skip
        exact absurd c19_2 (by omega)
    | succ nL1 ihL1 =>
      intro k hk_k 
      have hp7 := zPn_lt sg k
      refine r_iload ok dX2_addWants_13 6 rfl ?_
      refine r_aload_n ok dX2_addWants_15 0 rfl rfl ?_
      refine r_getf ok ci_X2 fl_X2_21 (by decide) dX2_addWants_16 ((cb_out (by omega)).trans pd_o) rfl ?_
      refine r_icmp_geN ok 128 (by omega) (by omega) dX2_addWants_19 (by decide) (fun c19_3 => ?_) (fun c19_3 => ?_)
      · skip
        exact absurd c19_3 (by omega)
      · skip
        refine r_iload ok dX2_addWants_22 6 rfl ?_
        refine r_bipush ok (nI 60) dX2_addWants_24 (by rfl) ?_
        refine r_icmp_geN ok 128 (by omega) (by omega) dX2_addWants_26 (by decide) (fun c26_4 => ?_) (fun c26_4 => ?_)
        · skip
          exact absurd c26_4 (by omega)
        · skip
          refine r_aload_n ok dX2_addWants_29 0 rfl rfl ?_
          refine r_getf ok ci_X2 fl_X2_11 (by decide) dX2_addWants_30 ((cb_out (by omega)).trans pd_o) rfl ?_
          refine r_iload ok dX2_addWants_33 6 rfl ?_
          refine r_caldN ok (by omega) (by omega) dX2_addWants_35 ((cb_out (by omega)).trans pd_s) ?_
          refine r_istore ok [(7, .int (sg k)), (0, .ref h), (1, .ref b), (2, .int (nI (zPn sg k))), (3, .int ((zAdS wa sg k).1)), (4, .int ((zAdS wa sg k).2.1)), (5, .int ((zAdS wa sg k).2.2.1)), (6, .int (nI (k)))] dX2_addWants_36 (by decide) rfl ?_
          refine r_iload_n ok dX2_addWants_38 3 rfl rfl ?_
          refine r_if_neN ok 51 (by omega) dX2_addWants_39 (by decide) (fun c39_5 => ?_) (fun c39_5 => ?_)
          · skip
            have h0 := c39_5
            refine r_iload_n ok dX2_addWants_51 3 rfl rfl ?_
            refine r_iconst ok (nI 1) dX2_addWants_52 (by rfl) ?_
            refine r_icmp_neN ok 69 (by omega) (by omega) dX2_addWants_53 (by decide) (fun c53_6 => ?_) (fun c53_6 => ?_)
            · skip
              have h1 := c53_6
              refine r_iload ok dX2_addWants_69 0 rfl ?_
              refine r_bipush ok (nI 48) dX2_addWants_71 (by rfl) ?_
              refine r_icmp_lt ok 99 dX2_addWants_73 (by decide) (fun c73_7 => ?_) (fun c73_7 => ?_)
              · skip
                have z73 : zbe (sg k) (nI 48) (nI 57) = false := zbe_lt c73_7
                refine r_iload ok dX2_addWants_99 0 rfl ?_
                refine r_bipush ok (nI 58) dX2_addWants_101 (by rfl) ?_
                refine r_icmp_eq ok 115 dX2_addWants_103 (by decide) (fun c103_8 => ?_) (fun c103_8 => ?_)
                · skip
                  have e := zAd_c (wa := wa) h0 h1 z73 c103_8
                  refine r_iload_n ok dX2_addWants_115 3 rfl rfl ?_
                  refine r_iload ok dX2_addWants_116 0 rfl ?_
                  refine r_cS1 ok [] mi_X2_placeAfter ml_X2_25 sm_X2_placeAfter dX2_addWants_118 (c_X2_placeAfter K.2.1 G (cbM G (pdM G M h sg (nI ln)) b st dy x br sp ((zAdS wa sg k).2.2.2) ac ps pp pu lo un op pi cn vl du io hp hs) N  (zPn sg k) (sg k) (by omega)) rfl rfl ⟨Nat.le_of_ble_eq_true rfl, Nat.le_of_ble_eq_true rfl⟩ (Nat.le_of_ble_eq_true rfl) ⟨Nat.zero_le _, Nat.zero_le _⟩ ?_
                  refine r_istore_n ok [(2, .int (zPlI (zPlA (zPn sg k) (sg k)))), (7, .int (sg k)), (0, .ref h), (1, .ref b), (3, .int ((zAdS wa sg k).1)), (4, .int ((zAdS wa sg k).2.1)), (5, .int ((zAdS wa sg k).2.2.1)), (6, .int (nI (k)))] dX2_addWants_121 rfl (by decide) rfl ?_
                  refine r_iincN ok (c := 1) [(6, .int (nI (k + 1))), (2, .int (zPlI (zPlA (zPn sg k) (sg k)))), (7, .int (sg k)), (0, .ref h), (1, .ref b), (3, .int ((zAdS wa sg k).1)), (4, .int ((zAdS wa sg k).2.1)), (5, .int ((zAdS wa sg k).2.2.1))] dX2_addWants_122 7 rfl (by rfl) (by decide) rfl ?_
                  refine r_goto ok 13 dX2_addWants_125 (by decide) ?_
                  have q9 : Value.int (zPlI (zPlA (zPn sg k) (sg k))) = Value.int (nI (zPn sg (k + 1))) := by first | with_reducible rfl | (first | exact congrArg Value.int (zPn_s (hrs k (by omega))) | (rw [e]; done) | (rw [e]; rfl))
                  have q10 : Value.int ((zAdS wa sg k).1) = Value.int ((zAdS wa sg (k + 1)).1) := by first | with_reducible rfl | (first | exact congrArg Value.int (zPn_s (hrs k (by omega))) | (rw [e]; done) | (rw [e]; rfl))
                  have q11 : Value.int ((zAdS wa sg k).2.1) = Value.int ((zAdS wa sg (k + 1)).2.1) := by first | with_reducible rfl | (first | exact congrArg Value.int (zPn_s (hrs k (by omega))) | (rw [e]; done) | (rw [e]; rfl))
                  have q12 : Value.int ((zAdS wa sg k).2.2.1) = Value.int ((zAdS wa sg (k + 1)).2.2.1) := by first | with_reducible rfl | (first | exact congrArg Value.int (zPn_s (hrs k (by omega))) | (rw [e]; done) | (rw [e]; rfl))
                  have q13 : ((zAdS wa sg k).2.2.2 : Nat → Nat → Int32) = (zAdS wa sg (k + 1)).2.2.2 := by first | with_reducible rfl | (first | exact congrArg Value.int (zPn_s (hrs k (by omega))) | (rw [e]; done) | (rw [e]; rfl))
                  refine zW.forget (lv' := [(0, .ref h), (1, .ref b), (2, .int (zPlI (zPlA (zPn sg k) (sg k)))), (3, .int ((zAdS wa sg k).1)), (4, .int ((zAdS wa sg k).2.1)), (5, .int ((zAdS wa sg k).2.2.1)), (6, .int (nI (k + 1)))]) ?_ [3, 4, 1, 5, 6, 7, 0] rfl
                  refine zW.to (lv' := [(0, .ref h), (1, .ref b), (2, .int (nI (zPn sg (k + 1)))), (3, .int ((zAdS wa sg k).1)), (4, .int ((zAdS wa sg k).2.1)), (5, .int ((zAdS wa sg k).2.2.1)), (6, .int (nI (k + 1)))]) ?_ rfl (congrArg (fun z => ([(0, .ref h), (1, .ref b), (2, z), (3, .int ((zAdS wa sg k).1)), (4, .int ((zAdS wa sg k).2.1)), (5, .int ((zAdS wa sg k).2.2.1)), (6, .int (nI (k + 1)))] : List (Nat × Value))) q9) rfl
                  refine zW.to (lv' := [(0, .ref h), (1, .ref b), (2, .int (nI (zPn sg (k + 1)))), (3, .int ((zAdS wa sg (k + 1)).1)), (4, .int ((zAdS wa sg k).2.1)), (5, .int ((zAdS wa sg k).2.2.1)), (6, .int (nI (k + 1)))]) ?_ rfl (congrArg (fun z => ([(0, .ref h), (1, .ref b), (2, .int (nI (zPn sg (k + 1)))), (3, z), (4, .int ((zAdS wa sg k).2.1)), (5, .int ((zAdS wa sg k).2.2.1)), (6, .int (nI (k + 1)))] : List (Nat × Value))) q10) rfl
                  refine zW.to (lv' := [(0, .ref h), (1, .ref b), (2, .int (nI (zPn sg (k + 1)))), (3, .int ((zAdS wa sg (k + 1)).1)), (4, .int ((zAdS wa sg (k + 1)).2.1)), (5, .int ((zAdS wa sg k).2.2.1)), (6, .int (nI (k + 1)))]) ?_ rfl (congrArg (fun z => ([(0, .ref h), (1, .ref b), (2, .int (nI (zPn sg (k + 1)))), (3, .int ((zAdS wa sg (k + 1)).1)), (4, z), (5, .int ((zAdS wa sg k).2.2.1)), (6, .int (nI (k + 1)))] : List (Nat × Value))) q11) rfl
                  refine zW.to (lv' := [(0, .ref h), (1, .ref b), (2, .int (nI (zPn sg (k + 1)))), (3, .int ((zAdS wa sg (k + 1)).1)), (4, .int ((zAdS wa sg (k + 1)).2.1)), (5, .int ((zAdS wa sg (k + 1)).2.2.1)), (6, .int (nI (k + 1)))]) ?_ rfl (congrArg (fun z => ([(0, .ref h), (1, .ref b), (2, .int (nI (zPn sg (k + 1)))), (3, .int ((zAdS wa sg (k + 1)).1)), (4, .int ((zAdS wa sg (k + 1)).2.1)), (5, z), (6, .int (nI (k + 1)))] : List (Nat × Value))) q12) rfl
                  refine zW.to ?_ (congrArg (fun z => cbM G (pdM G M h sg (nI ln)) b st dy x br sp z ac ps pp pu lo un op pi cn vl du io hp hs) q13) rfl rfl
                  exact ihL1 (k + 1) (by omega)
                · skip
                  have e := zAd_w (wa := wa) h0 h1 z73 c103_8
                  refine r_aload_n ok dX2_addWants_106 2 rfl rfl ?_
                  refine r_iload_n ok dX2_addWants_107 4 rfl rfl ?_
                  refine r_iload ok dX2_addWants_108 5 rfl ?_
                  refine r_iload ok dX2_addWants_110 6 rfl ?_
                  refine r_cV0 ok [] mi_X0_addWant ci_X0 ml_X2_37 im_X0_addWant se_X0_addWant dX2_addWants_112 (c_X0_addWant K.2.1 G (pdM G M h sg (nI ln)) N b st dy x br sp ((zAdS wa sg k).2.2.2) ac ps pp pu lo un op pi cn vl du io hp hs  ((zAdS wa sg k).1) ((zAdS wa sg k).2.1) ((zAdS wa sg k).2.2.1) ) cb_o rfl rfl ⟨Nat.le_of_ble_eq_true rfl, Nat.le_of_ble_eq_true rfl⟩ (Nat.le_of_ble_eq_true rfl) ⟨Nat.zero_le _, Nat.zero_le _⟩ ?_
                  refine r_iload_n ok dX2_addWants_115 3 rfl rfl ?_
                  refine r_iload ok dX2_addWants_116 0 rfl ?_
                  refine r_cS1 ok [] mi_X2_placeAfter ml_X2_25 sm_X2_placeAfter dX2_addWants_118 (c_X2_placeAfter K.2.1 G (cbM G (pdM G M h sg (nI ln)) b st dy x br sp (zU (zDstr ((zAdS wa sg k).1) ((zAdS wa sg k).2.1)) ((zAdS wa sg k).2.2.2) (zAw ((zAdS wa sg k).2.2.2) ((zAdS wa sg k).2.2.1))) ac ps pp pu lo un op pi cn vl du io hp hs) N  (zPn sg k) (sg k) (by omega)) rfl rfl ⟨Nat.le_of_ble_eq_true rfl, Nat.le_of_ble_eq_true rfl⟩ (Nat.le_of_ble_eq_true rfl) ⟨Nat.zero_le _, Nat.zero_le _⟩ ?_
                  refine r_istore_n ok [(2, .int (zPlI (zPlA (zPn sg k) (sg k)))), (7, .int (sg k)), (0, .ref h), (1, .ref b), (3, .int ((zAdS wa sg k).1)), (4, .int ((zAdS wa sg k).2.1)), (5, .int ((zAdS wa sg k).2.2.1)), (6, .int (nI (k)))] dX2_addWants_121 rfl (by decide) rfl ?_
                  refine r_iincN ok (c := 1) [(6, .int (nI (k + 1))), (2, .int (zPlI (zPlA (zPn sg k) (sg k)))), (7, .int (sg k)), (0, .ref h), (1, .ref b), (3, .int ((zAdS wa sg k).1)), (4, .int ((zAdS wa sg k).2.1)), (5, .int ((zAdS wa sg k).2.2.1))] dX2_addWants_122 7 rfl (by rfl) (by decide) rfl ?_
                  refine r_goto ok 13 dX2_addWants_125 (by decide) ?_
                  have q14 : Value.int (zPlI (zPlA (zPn sg k) (sg k))) = Value.int (nI (zPn sg (k + 1))) := by first | with_reducible rfl | (first | exact congrArg Value.int (zPn_s (hrs k (by omega))) | (rw [e]; done) | (rw [e]; rfl))
                  have q15 : Value.int ((zAdS wa sg k).1) = Value.int ((zAdS wa sg (k + 1)).1) := by first | with_reducible rfl | (first | exact congrArg Value.int (zPn_s (hrs k (by omega))) | (rw [e]; done) | (rw [e]; rfl))
                  have q16 : Value.int ((zAdS wa sg k).2.1) = Value.int ((zAdS wa sg (k + 1)).2.1) := by first | with_reducible rfl | (first | exact congrArg Value.int (zPn_s (hrs k (by omega))) | (rw [e]; done) | (rw [e]; rfl))
                  have q17 : Value.int ((zAdS wa sg k).2.2.1) = Value.int ((zAdS wa sg (k + 1)).2.2.1) := by first | with_reducible rfl | (first | exact congrArg Value.int (zPn_s (hrs k (by omega))) | (rw [e]; done) | (rw [e]; rfl))
                  have q18 : (zU (zDstr ((zAdS wa sg k).1) ((zAdS wa sg k).2.1)) ((zAdS wa sg k).2.2.2) (zAw ((zAdS wa sg k).2.2.2) ((zAdS wa sg k).2.2.1)) : Nat → Nat → Int32) = (zAdS wa sg (k + 1)).2.2.2 := by first | with_reducible rfl | (first | exact congrArg Value.int (zPn_s (hrs k (by omega))) | (rw [e]; done) | (rw [e]; rfl))
                  refine zW.forget (lv' := [(0, .ref h), (1, .ref b), (2, .int (zPlI (zPlA (zPn sg k) (sg k)))), (3, .int ((zAdS wa sg k).1)), (4, .int ((zAdS wa sg k).2.1)), (5, .int ((zAdS wa sg k).2.2.1)), (6, .int (nI (k + 1)))]) ?_ [3, 4, 1, 5, 6, 7, 0] rfl
                  refine zW.to (lv' := [(0, .ref h), (1, .ref b), (2, .int (nI (zPn sg (k + 1)))), (3, .int ((zAdS wa sg k).1)), (4, .int ((zAdS wa sg k).2.1)), (5, .int ((zAdS wa sg k).2.2.1)), (6, .int (nI (k + 1)))]) ?_ rfl (congrArg (fun z => ([(0, .ref h), (1, .ref b), (2, z), (3, .int ((zAdS wa sg k).1)), (4, .int ((zAdS wa sg k).2.1)), (5, .int ((zAdS wa sg k).2.2.1)), (6, .int (nI (k + 1)))] : List (Nat × Value))) q14) rfl
                  refine zW.to (lv' := [(0, .ref h), (1, .ref b), (2, .int (nI (zPn sg (k + 1)))), (3, .int ((zAdS wa sg (k + 1)).1)), (4, .int ((zAdS wa sg k).2.1)), (5, .int ((zAdS wa sg k).2.2.1)), (6, .int (nI (k + 1)))]) ?_ rfl (congrArg (fun z => ([(0, .ref h), (1, .ref b), (2, .int (nI (zPn sg (k + 1)))), (3, z), (4, .int ((zAdS wa sg k).2.1)), (5, .int ((zAdS wa sg k).2.2.1)), (6, .int (nI (k + 1)))] : List (Nat × Value))) q15) rfl
                  refine zW.to (lv' := [(0, .ref h), (1, .ref b), (2, .int (nI (zPn sg (k + 1)))), (3, .int ((zAdS wa sg (k + 1)).1)), (4, .int ((zAdS wa sg (k + 1)).2.1)), (5, .int ((zAdS wa sg k).2.2.1)), (6, .int (nI (k + 1)))]) ?_ rfl (congrArg (fun z => ([(0, .ref h), (1, .ref b), (2, .int (nI (zPn sg (k + 1)))), (3, .int ((zAdS wa sg (k + 1)).1)), (4, z), (5, .int ((zAdS wa sg k).2.2.1)), (6, .int (nI (k + 1)))] : List (Nat × Value))) q16) rfl
                  refine zW.to (lv' := [(0, .ref h), (1, .ref b), (2, .int (nI (zPn sg (k + 1)))), (3, .int ((zAdS wa sg (k + 1)).1)), (4, .int ((zAdS wa sg (k + 1)).2.1)), (5, .int ((zAdS wa sg (k + 1)).2.2.1)), (6, .int (nI (k + 1)))]) ?_ rfl (congrArg (fun z => ([(0, .ref h), (1, .ref b), (2, .int (nI (zPn sg (k + 1)))), (3, .int ((zAdS wa sg (k + 1)).1)), (4, .int ((zAdS wa sg (k + 1)).2.1)), (5, z), (6, .int (nI (k + 1)))] : List (Nat × Value))) q17) rfl
                  refine zW.to ?_ (congrArg (fun z => cbM G (pdM G M h sg (nI ln)) b st dy x br sp z ac ps pp pu lo un op pi cn vl du io hp hs) q18) rfl rfl
                  exact ihL1 (k + 1) (by omega)
              · skip
                have l73 := c73_7
                refine r_iload ok dX2_addWants_76 0 rfl ?_
                refine r_bipush ok (nI 57) dX2_addWants_78 (by rfl) ?_
                refine r_icmp_gt ok 99 dX2_addWants_80 (by decide) (fun c80_19 => ?_) (fun c80_19 => ?_)
                · skip
                  have z73 : zbe (sg k) (nI 48) (nI 57) = false := zbe_gt c80_19
                  refine r_iload ok dX2_addWants_99 0 rfl ?_
                  refine r_bipush ok (nI 58) dX2_addWants_101 (by rfl) ?_
                  refine r_icmp_eq ok 115 dX2_addWants_103 (by decide) (fun c103_20 => ?_) (fun c103_20 => ?_)
                  · skip
                    have e := zAd_c (wa := wa) h0 h1 z73 c103_20
                    refine r_iload_n ok dX2_addWants_115 3 rfl rfl ?_
                    refine r_iload ok dX2_addWants_116 0 rfl ?_
                    refine r_cS1 ok [] mi_X2_placeAfter ml_X2_25 sm_X2_placeAfter dX2_addWants_118 (c_X2_placeAfter K.2.1 G (cbM G (pdM G M h sg (nI ln)) b st dy x br sp ((zAdS wa sg k).2.2.2) ac ps pp pu lo un op pi cn vl du io hp hs) N  (zPn sg k) (sg k) (by omega)) rfl rfl ⟨Nat.le_of_ble_eq_true rfl, Nat.le_of_ble_eq_true rfl⟩ (Nat.le_of_ble_eq_true rfl) ⟨Nat.zero_le _, Nat.zero_le _⟩ ?_
                    refine r_istore_n ok [(2, .int (zPlI (zPlA (zPn sg k) (sg k)))), (7, .int (sg k)), (0, .ref h), (1, .ref b), (3, .int ((zAdS wa sg k).1)), (4, .int ((zAdS wa sg k).2.1)), (5, .int ((zAdS wa sg k).2.2.1)), (6, .int (nI (k)))] dX2_addWants_121 rfl (by decide) rfl ?_
                    refine r_iincN ok (c := 1) [(6, .int (nI (k + 1))), (2, .int (zPlI (zPlA (zPn sg k) (sg k)))), (7, .int (sg k)), (0, .ref h), (1, .ref b), (3, .int ((zAdS wa sg k).1)), (4, .int ((zAdS wa sg k).2.1)), (5, .int ((zAdS wa sg k).2.2.1))] dX2_addWants_122 7 rfl (by rfl) (by decide) rfl ?_
                    refine r_goto ok 13 dX2_addWants_125 (by decide) ?_
                    have q21 : Value.int (zPlI (zPlA (zPn sg k) (sg k))) = Value.int (nI (zPn sg (k + 1))) := by first | with_reducible rfl | (first | exact congrArg Value.int (zPn_s (hrs k (by omega))) | (rw [e]; done) | (rw [e]; rfl))
                    have q22 : Value.int ((zAdS wa sg k).1) = Value.int ((zAdS wa sg (k + 1)).1) := by first | with_reducible rfl | (first | exact congrArg Value.int (zPn_s (hrs k (by omega))) | (rw [e]; done) | (rw [e]; rfl))
                    have q23 : Value.int ((zAdS wa sg k).2.1) = Value.int ((zAdS wa sg (k + 1)).2.1) := by first | with_reducible rfl | (first | exact congrArg Value.int (zPn_s (hrs k (by omega))) | (rw [e]; done) | (rw [e]; rfl))
                    have q24 : Value.int ((zAdS wa sg k).2.2.1) = Value.int ((zAdS wa sg (k + 1)).2.2.1) := by first | with_reducible rfl | (first | exact congrArg Value.int (zPn_s (hrs k (by omega))) | (rw [e]; done) | (rw [e]; rfl))
                    have q25 : ((zAdS wa sg k).2.2.2 : Nat → Nat → Int32) = (zAdS wa sg (k + 1)).2.2.2 := by first | with_reducible rfl | (first | exact congrArg Value.int (zPn_s (hrs k (by omega))) | (rw [e]; done) | (rw [e]; rfl))
                    refine zW.forget (lv' := [(0, .ref h), (1, .ref b), (2, .int (zPlI (zPlA (zPn sg k) (sg k)))), (3, .int ((zAdS wa sg k).1)), (4, .int ((zAdS wa sg k).2.1)), (5, .int ((zAdS wa sg k).2.2.1)), (6, .int (nI (k + 1)))]) ?_ [3, 4, 1, 5, 6, 7, 0] rfl
                    refine zW.to (lv' := [(0, .ref h), (1, .ref b), (2, .int (nI (zPn sg (k + 1)))), (3, .int ((zAdS wa sg k).1)), (4, .int ((zAdS wa sg k).2.1)), (5, .int ((zAdS wa sg k).2.2.1)), (6, .int (nI (k + 1)))]) ?_ rfl (congrArg (fun z => ([(0, .ref h), (1, .ref b), (2, z), (3, .int ((zAdS wa sg k).1)), (4, .int ((zAdS wa sg k).2.1)), (5, .int ((zAdS wa sg k).2.2.1)), (6, .int (nI (k + 1)))] : List (Nat × Value))) q21) rfl
                    refine zW.to (lv' := [(0, .ref h), (1, .ref b), (2, .int (nI (zPn sg (k + 1)))), (3, .int ((zAdS wa sg (k + 1)).1)), (4, .int ((zAdS wa sg k).2.1)), (5, .int ((zAdS wa sg k).2.2.1)), (6, .int (nI (k + 1)))]) ?_ rfl (congrArg (fun z => ([(0, .ref h), (1, .ref b), (2, .int (nI (zPn sg (k + 1)))), (3, z), (4, .int ((zAdS wa sg k).2.1)), (5, .int ((zAdS wa sg k).2.2.1)), (6, .int (nI (k + 1)))] : List (Nat × Value))) q22) rfl
                    refine zW.to (lv' := [(0, .ref h), (1, .ref b), (2, .int (nI (zPn sg (k + 1)))), (3, .int ((zAdS wa sg (k + 1)).1)), (4, .int ((zAdS wa sg (k + 1)).2.1)), (5, .int ((zAdS wa sg k).2.2.1)), (6, .int (nI (k + 1)))]) ?_ rfl (congrArg (fun z => ([(0, .ref h), (1, .ref b), (2, .int (nI (zPn sg (k + 1)))), (3, .int ((zAdS wa sg (k + 1)).1)), (4, z), (5, .int ((zAdS wa sg k).2.2.1)), (6, .int (nI (k + 1)))] : List (Nat × Value))) q23) rfl
                    refine zW.to (lv' := [(0, .ref h), (1, .ref b), (2, .int (nI (zPn sg (k + 1)))), (3, .int ((zAdS wa sg (k + 1)).1)), (4, .int ((zAdS wa sg (k + 1)).2.1)), (5, .int ((zAdS wa sg (k + 1)).2.2.1)), (6, .int (nI (k + 1)))]) ?_ rfl (congrArg (fun z => ([(0, .ref h), (1, .ref b), (2, .int (nI (zPn sg (k + 1)))), (3, .int ((zAdS wa sg (k + 1)).1)), (4, .int ((zAdS wa sg (k + 1)).2.1)), (5, z), (6, .int (nI (k + 1)))] : List (Nat × Value))) q24) rfl
                    refine zW.to ?_ (congrArg (fun z => cbM G (pdM G M h sg (nI ln)) b st dy x br sp z ac ps pp pu lo un op pi cn vl du io hp hs) q25) rfl rfl
                    exact ihL1 (k + 1) (by omega)
                  · skip
                    have e := zAd_w (wa := wa) h0 h1 z73 c103_20
                    refine r_aload_n ok dX2_addWants_106 2 rfl rfl ?_
                    refine r_iload_n ok dX2_addWants_107 4 rfl rfl ?_
                    refine r_iload ok dX2_addWants_108 5 rfl ?_
                    refine r_iload ok dX2_addWants_110 6 rfl ?_
                    refine r_cV0 ok [] mi_X0_addWant ci_X0 ml_X2_37 im_X0_addWant se_X0_addWant dX2_addWants_112 (c_X0_addWant K.2.1 G (pdM G M h sg (nI ln)) N b st dy x br sp ((zAdS wa sg k).2.2.2) ac ps pp pu lo un op pi cn vl du io hp hs  ((zAdS wa sg k).1) ((zAdS wa sg k).2.1) ((zAdS wa sg k).2.2.1) ) cb_o rfl rfl ⟨Nat.le_of_ble_eq_true rfl, Nat.le_of_ble_eq_true rfl⟩ (Nat.le_of_ble_eq_true rfl) ⟨Nat.zero_le _, Nat.zero_le _⟩ ?_
                    refine r_iload_n ok dX2_addWants_115 3 rfl rfl ?_
                    refine r_iload ok dX2_addWants_116 0 rfl ?_
                    refine r_cS1 ok [] mi_X2_placeAfter ml_X2_25 sm_X2_placeAfter dX2_addWants_118 (c_X2_placeAfter K.2.1 G (cbM G (pdM G M h sg (nI ln)) b st dy x br sp (zU (zDstr ((zAdS wa sg k).1) ((zAdS wa sg k).2.1)) ((zAdS wa sg k).2.2.2) (zAw ((zAdS wa sg k).2.2.2) ((zAdS wa sg k).2.2.1))) ac ps pp pu lo un op pi cn vl du io hp hs) N  (zPn sg k) (sg k) (by omega)) rfl rfl ⟨Nat.le_of_ble_eq_true rfl, Nat.le_of_ble_eq_true rfl⟩ (Nat.le_of_ble_eq_true rfl) ⟨Nat.zero_le _, Nat.zero_le _⟩ ?_
                    refine r_istore_n ok [(2, .int (zPlI (zPlA (zPn sg k) (sg k)))), (7, .int (sg k)), (0, .ref h), (1, .ref b), (3, .int ((zAdS wa sg k).1)), (4, .int ((zAdS wa sg k).2.1)), (5, .int ((zAdS wa sg k).2.2.1)), (6, .int (nI (k)))] dX2_addWants_121 rfl (by decide) rfl ?_
                    refine r_iincN ok (c := 1) [(6, .int (nI (k + 1))), (2, .int (zPlI (zPlA (zPn sg k) (sg k)))), (7, .int (sg k)), (0, .ref h), (1, .ref b), (3, .int ((zAdS wa sg k).1)), (4, .int ((zAdS wa sg k).2.1)), (5, .int ((zAdS wa sg k).2.2.1))] dX2_addWants_122 7 rfl (by rfl) (by decide) rfl ?_
                    refine r_goto ok 13 dX2_addWants_125 (by decide) ?_
                    have q26 : Value.int (zPlI (zPlA (zPn sg k) (sg k))) = Value.int (nI (zPn sg (k + 1))) := by first | with_reducible rfl | (first | exact congrArg Value.int (zPn_s (hrs k (by omega))) | (rw [e]; done) | (rw [e]; rfl))
                    have q27 : Value.int ((zAdS wa sg k).1) = Value.int ((zAdS wa sg (k + 1)).1) := by first | with_reducible rfl | (first | exact congrArg Value.int (zPn_s (hrs k (by omega))) | (rw [e]; done) | (rw [e]; rfl))
                    have q28 : Value.int ((zAdS wa sg k).2.1) = Value.int ((zAdS wa sg (k + 1)).2.1) := by first | with_reducible rfl | (first | exact congrArg Value.int (zPn_s (hrs k (by omega))) | (rw [e]; done) | (rw [e]; rfl))
                    have q29 : Value.int ((zAdS wa sg k).2.2.1) = Value.int ((zAdS wa sg (k + 1)).2.2.1) := by first | with_reducible rfl | (first | exact congrArg Value.int (zPn_s (hrs k (by omega))) | (rw [e]; done) | (rw [e]; rfl))
                    have q30 : (zU (zDstr ((zAdS wa sg k).1) ((zAdS wa sg k).2.1)) ((zAdS wa sg k).2.2.2) (zAw ((zAdS wa sg k).2.2.2) ((zAdS wa sg k).2.2.1)) : Nat → Nat → Int32) = (zAdS wa sg (k + 1)).2.2.2 := by first | with_reducible rfl | (first | exact congrArg Value.int (zPn_s (hrs k (by omega))) | (rw [e]; done) | (rw [e]; rfl))
                    refine zW.forget (lv' := [(0, .ref h), (1, .ref b), (2, .int (zPlI (zPlA (zPn sg k) (sg k)))), (3, .int ((zAdS wa sg k).1)), (4, .int ((zAdS wa sg k).2.1)), (5, .int ((zAdS wa sg k).2.2.1)), (6, .int (nI (k + 1)))]) ?_ [3, 4, 1, 5, 6, 7, 0] rfl
                    refine zW.to (lv' := [(0, .ref h), (1, .ref b), (2, .int (nI (zPn sg (k + 1)))), (3, .int ((zAdS wa sg k).1)), (4, .int ((zAdS wa sg k).2.1)), (5, .int ((zAdS wa sg k).2.2.1)), (6, .int (nI (k + 1)))]) ?_ rfl (congrArg (fun z => ([(0, .ref h), (1, .ref b), (2, z), (3, .int ((zAdS wa sg k).1)), (4, .int ((zAdS wa sg k).2.1)), (5, .int ((zAdS wa sg k).2.2.1)), (6, .int (nI (k + 1)))] : List (Nat × Value))) q26) rfl
                    refine zW.to (lv' := [(0, .ref h), (1, .ref b), (2, .int (nI (zPn sg (k + 1)))), (3, .int ((zAdS wa sg (k + 1)).1)), (4, .int ((zAdS wa sg k).2.1)), (5, .int ((zAdS wa sg k).2.2.1)), (6, .int (nI (k + 1)))]) ?_ rfl (congrArg (fun z => ([(0, .ref h), (1, .ref b), (2, .int (nI (zPn sg (k + 1)))), (3, z), (4, .int ((zAdS wa sg k).2.1)), (5, .int ((zAdS wa sg k).2.2.1)), (6, .int (nI (k + 1)))] : List (Nat × Value))) q27) rfl
                    refine zW.to (lv' := [(0, .ref h), (1, .ref b), (2, .int (nI (zPn sg (k + 1)))), (3, .int ((zAdS wa sg (k + 1)).1)), (4, .int ((zAdS wa sg (k + 1)).2.1)), (5, .int ((zAdS wa sg k).2.2.1)), (6, .int (nI (k + 1)))]) ?_ rfl (congrArg (fun z => ([(0, .ref h), (1, .ref b), (2, .int (nI (zPn sg (k + 1)))), (3, .int ((zAdS wa sg (k + 1)).1)), (4, z), (5, .int ((zAdS wa sg k).2.2.1)), (6, .int (nI (k + 1)))] : List (Nat × Value))) q28) rfl
                    refine zW.to (lv' := [(0, .ref h), (1, .ref b), (2, .int (nI (zPn sg (k + 1)))), (3, .int ((zAdS wa sg (k + 1)).1)), (4, .int ((zAdS wa sg (k + 1)).2.1)), (5, .int ((zAdS wa sg (k + 1)).2.2.1)), (6, .int (nI (k + 1)))]) ?_ rfl (congrArg (fun z => ([(0, .ref h), (1, .ref b), (2, .int (nI (zPn sg (k + 1)))), (3, .int ((zAdS wa sg (k + 1)).1)), (4, .int ((zAdS wa sg (k + 1)).2.1)), (5, z), (6, .int (nI (k + 1)))] : List (Nat × Value))) q29) rfl
                    refine zW.to ?_ (congrArg (fun z => cbM G (pdM G M h sg (nI ln)) b st dy x br sp z ac ps pp pu lo un op pi cn vl du io hp hs) q30) rfl rfl
                    exact ihL1 (k + 1) (by omega)
                · skip
                  have e := zAd_d (wa := wa) h0 h1 (zbe_ok l73 c80_19)
                  refine r_iload ok dX2_addWants_83 6 rfl ?_
                  refine r_bipush ok (nI 10) dX2_addWants_85 (by rfl) ?_
                  refine r_imul ok dX2_addWants_87 ?_
                  refine r_iload ok dX2_addWants_88 0 rfl ?_
                  refine r_iadd ok dX2_addWants_90 ?_
                  refine r_bipush ok (nI 48) dX2_addWants_91 (by rfl) ?_
                  refine r_isub ok dX2_addWants_93 ?_
                  refine r_istore ok [(5, .int (((((zAdS wa sg k).2.2.1) * (nI 10)) + (sg k)) - (nI 48))), (7, .int (sg k)), (0, .ref h), (1, .ref b), (2, .int (nI (zPn sg k))), (3, .int ((zAdS wa sg k).1)), (4, .int ((zAdS wa sg k).2.1)), (6, .int (nI (k)))] dX2_addWants_94 (by decide) rfl ?_
                  refine r_goto ok 115 dX2_addWants_96 (by decide) ?_
                  refine r_iload_n ok dX2_addWants_115 4 rfl rfl ?_
                  refine r_iload ok dX2_addWants_116 1 rfl ?_
                  refine r_cS1 ok [] mi_X2_placeAfter ml_X2_25 sm_X2_placeAfter dX2_addWants_118 (c_X2_placeAfter K.2.1 G (cbM G (pdM G M h sg (nI ln)) b st dy x br sp ((zAdS wa sg k).2.2.2) ac ps pp pu lo un op pi cn vl du io hp hs) N  (zPn sg k) (sg k) (by omega)) rfl rfl ⟨Nat.le_of_ble_eq_true rfl, Nat.le_of_ble_eq_true rfl⟩ (Nat.le_of_ble_eq_true rfl) ⟨Nat.zero_le _, Nat.zero_le _⟩ ?_
                  refine r_istore_n ok [(2, .int (zPlI (zPlA (zPn sg k) (sg k)))), (5, .int (((((zAdS wa sg k).2.2.1) * (nI 10)) + (sg k)) - (nI 48))), (7, .int (sg k)), (0, .ref h), (1, .ref b), (3, .int ((zAdS wa sg k).1)), (4, .int ((zAdS wa sg k).2.1)), (6, .int (nI (k)))] dX2_addWants_121 rfl (by decide) rfl ?_
                  refine r_iincN ok (c := 1) [(6, .int (nI (k + 1))), (2, .int (zPlI (zPlA (zPn sg k) (sg k)))), (5, .int (((((zAdS wa sg k).2.2.1) * (nI 10)) + (sg k)) - (nI 48))), (7, .int (sg k)), (0, .ref h), (1, .ref b), (3, .int ((zAdS wa sg k).1)), (4, .int ((zAdS wa sg k).2.1))] dX2_addWants_122 7 rfl (by rfl) (by decide) rfl ?_
                  refine r_goto ok 13 dX2_addWants_125 (by decide) ?_
                  have q31 : Value.int (zPlI (zPlA (zPn sg k) (sg k))) = Value.int (nI (zPn sg (k + 1))) := by first | with_reducible rfl | (first | exact congrArg Value.int (zPn_s (hrs k (by omega))) | (rw [e]; done) | (rw [e]; rfl))
                  have q32 : Value.int ((zAdS wa sg k).1) = Value.int ((zAdS wa sg (k + 1)).1) := by first | with_reducible rfl | (first | exact congrArg Value.int (zPn_s (hrs k (by omega))) | (rw [e]; done) | (rw [e]; rfl))
                  have q33 : Value.int ((zAdS wa sg k).2.1) = Value.int ((zAdS wa sg (k + 1)).2.1) := by first | with_reducible rfl | (first | exact congrArg Value.int (zPn_s (hrs k (by omega))) | (rw [e]; done) | (rw [e]; rfl))
                  have q34 : Value.int (((((zAdS wa sg k).2.2.1) * (nI 10)) + (sg k)) - (nI 48)) = Value.int ((zAdS wa sg (k + 1)).2.2.1) := by first | with_reducible rfl | (first | exact congrArg Value.int (zPn_s (hrs k (by omega))) | (rw [e]; done) | (rw [e]; rfl))
                  have q35 : ((zAdS wa sg k).2.2.2 : Nat → Nat → Int32) = (zAdS wa sg (k + 1)).2.2.2 := by first | with_reducible rfl | (first | exact congrArg Value.int (zPn_s (hrs k (by omega))) | (rw [e]; done) | (rw [e]; rfl))
                  refine zW.forget (lv' := [(0, .ref h), (1, .ref b), (2, .int (zPlI (zPlA (zPn sg k) (sg k)))), (3, .int ((zAdS wa sg k).1)), (4, .int ((zAdS wa sg k).2.1)), (5, .int (((((zAdS wa sg k).2.2.1) * (nI 10)) + (sg k)) - (nI 48))), (6, .int (nI (k + 1)))]) ?_ [4, 5, 1, 6, 7, 2, 0] rfl
                  refine zW.to (lv' := [(0, .ref h), (1, .ref b), (2, .int (nI (zPn sg (k + 1)))), (3, .int ((zAdS wa sg k).1)), (4, .int ((zAdS wa sg k).2.1)), (5, .int (((((zAdS wa sg k).2.2.1) * (nI 10)) + (sg k)) - (nI 48))), (6, .int (nI (k + 1)))]) ?_ rfl (congrArg (fun z => ([(0, .ref h), (1, .ref b), (2, z), (3, .int ((zAdS wa sg k).1)), (4, .int ((zAdS wa sg k).2.1)), (5, .int (((((zAdS wa sg k).2.2.1) * (nI 10)) + (sg k)) - (nI 48))), (6, .int (nI (k + 1)))] : List (Nat × Value))) q31) rfl
                  refine zW.to (lv' := [(0, .ref h), (1, .ref b), (2, .int (nI (zPn sg (k + 1)))), (3, .int ((zAdS wa sg (k + 1)).1)), (4, .int ((zAdS wa sg k).2.1)), (5, .int (((((zAdS wa sg k).2.2.1) * (nI 10)) + (sg k)) - (nI 48))), (6, .int (nI (k + 1)))]) ?_ rfl (congrArg (fun z => ([(0, .ref h), (1, .ref b), (2, .int (nI (zPn sg (k + 1)))), (3, z), (4, .int ((zAdS wa sg k).2.1)), (5, .int (((((zAdS wa sg k).2.2.1) * (nI 10)) + (sg k)) - (nI 48))), (6, .int (nI (k + 1)))] : List (Nat × Value))) q32) rfl
                  refine zW.to (lv' := [(0, .ref h), (1, .ref b), (2, .int (nI (zPn sg (k + 1)))), (3, .int ((zAdS wa sg (k + 1)).1)), (4, .int ((zAdS wa sg (k + 1)).2.1)), (5, .int (((((zAdS wa sg k).2.2.1) * (nI 10)) + (sg k)) - (nI 48))), (6, .int (nI (k + 1)))]) ?_ rfl (congrArg (fun z => ([(0, .ref h), (1, .ref b), (2, .int (nI (zPn sg (k + 1)))), (3, .int ((zAdS wa sg (k + 1)).1)), (4, z), (5, .int (((((zAdS wa sg k).2.2.1) * (nI 10)) + (sg k)) - (nI 48))), (6, .int (nI (k + 1)))] : List (Nat × Value))) q33) rfl
                  refine zW.to (lv' := [(0, .ref h), (1, .ref b), (2, .int (nI (zPn sg (k + 1)))), (3, .int ((zAdS wa sg (k + 1)).1)), (4, .int ((zAdS wa sg (k + 1)).2.1)), (5, .int ((zAdS wa sg (k + 1)).2.2.1)), (6, .int (nI (k + 1)))]) ?_ rfl (congrArg (fun z => ([(0, .ref h), (1, .ref b), (2, .int (nI (zPn sg (k + 1)))), (3, .int ((zAdS wa sg (k + 1)).1)), (4, .int ((zAdS wa sg (k + 1)).2.1)), (5, z), (6, .int (nI (k + 1)))] : List (Nat × Value))) q34) rfl
                  refine zW.to ?_ (congrArg (fun z => cbM G (pdM G M h sg (nI ln)) b st dy x br sp z ac ps pp pu lo un op pi cn vl du io hp hs) q35) rfl rfl
                  exact ihL1 (k + 1) (by omega)
            · skip
              have e := zAd_1 (wa := wa) (f := sg) (k := k) c53_6
              refine r_iload ok dX2_addWants_56 0 rfl ?_
              refine r_bipush ok (nI 48) dX2_addWants_58 (by rfl) ?_
              refine r_isub ok dX2_addWants_60 ?_
              refine r_istore ok [(4, .int ((sg k) - (nI 48))), (7, .int (sg k)), (0, .ref h), (1, .ref b), (2, .int (nI (zPn sg k))), (3, .int ((zAdS wa sg k).1)), (5, .int ((zAdS wa sg k).2.2.1)), (6, .int (nI (k)))] dX2_addWants_61 (by decide) rfl ?_
              refine r_iconst ok (nI 0) dX2_addWants_63 (by rfl) ?_
              refine r_istore ok [(5, .int (nI 0)), (4, .int ((sg k) - (nI 48))), (7, .int (sg k)), (0, .ref h), (1, .ref b), (2, .int (nI (zPn sg k))), (3, .int ((zAdS wa sg k).1)), (6, .int (nI (k)))] dX2_addWants_64 (by decide) rfl ?_
              refine r_goto ok 115 dX2_addWants_66 (by decide) ?_
              refine r_iload_n ok dX2_addWants_115 5 rfl rfl ?_
              refine r_iload ok dX2_addWants_116 2 rfl ?_
              refine r_cS1 ok [] mi_X2_placeAfter ml_X2_25 sm_X2_placeAfter dX2_addWants_118 (c_X2_placeAfter K.2.1 G (cbM G (pdM G M h sg (nI ln)) b st dy x br sp ((zAdS wa sg k).2.2.2) ac ps pp pu lo un op pi cn vl du io hp hs) N  (zPn sg k) (sg k) (by omega)) rfl rfl ⟨Nat.le_of_ble_eq_true rfl, Nat.le_of_ble_eq_true rfl⟩ (Nat.le_of_ble_eq_true rfl) ⟨Nat.zero_le _, Nat.zero_le _⟩ ?_
              refine r_istore_n ok [(2, .int (zPlI (zPlA (zPn sg k) (sg k)))), (5, .int (nI 0)), (4, .int ((sg k) - (nI 48))), (7, .int (sg k)), (0, .ref h), (1, .ref b), (3, .int ((zAdS wa sg k).1)), (6, .int (nI (k)))] dX2_addWants_121 rfl (by decide) rfl ?_
              refine r_iincN ok (c := 1) [(6, .int (nI (k + 1))), (2, .int (zPlI (zPlA (zPn sg k) (sg k)))), (5, .int (nI 0)), (4, .int ((sg k) - (nI 48))), (7, .int (sg k)), (0, .ref h), (1, .ref b), (3, .int ((zAdS wa sg k).1))] dX2_addWants_122 7 rfl (by rfl) (by decide) rfl ?_
              refine r_goto ok 13 dX2_addWants_125 (by decide) ?_
              have q36 : Value.int (zPlI (zPlA (zPn sg k) (sg k))) = Value.int (nI (zPn sg (k + 1))) := by first | with_reducible rfl | (first | exact congrArg Value.int (zPn_s (hrs k (by omega))) | (rw [e]; done) | (rw [e]; rfl))
              have q37 : Value.int ((zAdS wa sg k).1) = Value.int ((zAdS wa sg (k + 1)).1) := by first | with_reducible rfl | (first | exact congrArg Value.int (zPn_s (hrs k (by omega))) | (rw [e]; done) | (rw [e]; rfl))
              have q38 : Value.int ((sg k) - (nI 48)) = Value.int ((zAdS wa sg (k + 1)).2.1) := by first | with_reducible rfl | (first | exact congrArg Value.int (zPn_s (hrs k (by omega))) | (rw [e]; done) | (rw [e]; rfl))
              have q39 : Value.int (nI 0) = Value.int ((zAdS wa sg (k + 1)).2.2.1) := by first | with_reducible rfl | (first | exact congrArg Value.int (zPn_s (hrs k (by omega))) | (rw [e]; done) | (rw [e]; rfl))
              have q40 : ((zAdS wa sg k).2.2.2 : Nat → Nat → Int32) = (zAdS wa sg (k + 1)).2.2.2 := by first | with_reducible rfl | (first | exact congrArg Value.int (zPn_s (hrs k (by omega))) | (rw [e]; done) | (rw [e]; rfl))
              refine zW.forget (lv' := [(0, .ref h), (1, .ref b), (2, .int (zPlI (zPlA (zPn sg k) (sg k)))), (3, .int ((zAdS wa sg k).1)), (4, .int ((sg k) - (nI 48))), (5, .int (nI 0)), (6, .int (nI (k + 1)))]) ?_ [5, 6, 1, 7, 3, 2, 0] rfl
              refine zW.to (lv' := [(0, .ref h), (1, .ref b), (2, .int (nI (zPn sg (k + 1)))), (3, .int ((zAdS wa sg k).1)), (4, .int ((sg k) - (nI 48))), (5, .int (nI 0)), (6, .int (nI (k + 1)))]) ?_ rfl (congrArg (fun z => ([(0, .ref h), (1, .ref b), (2, z), (3, .int ((zAdS wa sg k).1)), (4, .int ((sg k) - (nI 48))), (5, .int (nI 0)), (6, .int (nI (k + 1)))] : List (Nat × Value))) q36) rfl
              refine zW.to (lv' := [(0, .ref h), (1, .ref b), (2, .int (nI (zPn sg (k + 1)))), (3, .int ((zAdS wa sg (k + 1)).1)), (4, .int ((sg k) - (nI 48))), (5, .int (nI 0)), (6, .int (nI (k + 1)))]) ?_ rfl (congrArg (fun z => ([(0, .ref h), (1, .ref b), (2, .int (nI (zPn sg (k + 1)))), (3, z), (4, .int ((sg k) - (nI 48))), (5, .int (nI 0)), (6, .int (nI (k + 1)))] : List (Nat × Value))) q37) rfl
              refine zW.to (lv' := [(0, .ref h), (1, .ref b), (2, .int (nI (zPn sg (k + 1)))), (3, .int ((zAdS wa sg (k + 1)).1)), (4, .int ((zAdS wa sg (k + 1)).2.1)), (5, .int (nI 0)), (6, .int (nI (k + 1)))]) ?_ rfl (congrArg (fun z => ([(0, .ref h), (1, .ref b), (2, .int (nI (zPn sg (k + 1)))), (3, .int ((zAdS wa sg (k + 1)).1)), (4, z), (5, .int (nI 0)), (6, .int (nI (k + 1)))] : List (Nat × Value))) q38) rfl
              refine zW.to (lv' := [(0, .ref h), (1, .ref b), (2, .int (nI (zPn sg (k + 1)))), (3, .int ((zAdS wa sg (k + 1)).1)), (4, .int ((zAdS wa sg (k + 1)).2.1)), (5, .int ((zAdS wa sg (k + 1)).2.2.1)), (6, .int (nI (k + 1)))]) ?_ rfl (congrArg (fun z => ([(0, .ref h), (1, .ref b), (2, .int (nI (zPn sg (k + 1)))), (3, .int ((zAdS wa sg (k + 1)).1)), (4, .int ((zAdS wa sg (k + 1)).2.1)), (5, z), (6, .int (nI (k + 1)))] : List (Nat × Value))) q39) rfl
              refine zW.to ?_ (congrArg (fun z => cbM G (pdM G M h sg (nI ln)) b st dy x br sp z ac ps pp pu lo un op pi cn vl du io hp hs) q40) rfl rfl
              exact ihL1 (k + 1) (by omega)
          · skip
            have e := zAd_0 (wa := wa) (f := sg) (k := k) c39_5
            refine r_iload ok dX2_addWants_42 0 rfl ?_
            refine r_bipush ok (nI 97) dX2_addWants_44 (by rfl) ?_
            refine r_isub ok dX2_addWants_46 ?_
            refine r_istore_n ok [(3, .int ((sg k) - (nI 97))), (7, .int (sg k)), (0, .ref h), (1, .ref b), (2, .int (nI (zPn sg k))), (4, .int ((zAdS wa sg k).2.1)), (5, .int ((zAdS wa sg k).2.2.1)), (6, .int (nI (k)))] dX2_addWants_47 rfl (by decide) rfl ?_
            refine r_goto ok 115 dX2_addWants_48 (by decide) ?_
            refine r_iload_n ok dX2_addWants_115 4 rfl rfl ?_
            refine r_iload ok dX2_addWants_116 1 rfl ?_
            refine r_cS1 ok [] mi_X2_placeAfter ml_X2_25 sm_X2_placeAfter dX2_addWants_118 (c_X2_placeAfter K.2.1 G (cbM G (pdM G M h sg (nI ln)) b st dy x br sp ((zAdS wa sg k).2.2.2) ac ps pp pu lo un op pi cn vl du io hp hs) N  (zPn sg k) (sg k) (by omega)) rfl rfl ⟨Nat.le_of_ble_eq_true rfl, Nat.le_of_ble_eq_true rfl⟩ (Nat.le_of_ble_eq_true rfl) ⟨Nat.zero_le _, Nat.zero_le _⟩ ?_
            refine r_istore_n ok [(2, .int (zPlI (zPlA (zPn sg k) (sg k)))), (3, .int ((sg k) - (nI 97))), (7, .int (sg k)), (0, .ref h), (1, .ref b), (4, .int ((zAdS wa sg k).2.1)), (5, .int ((zAdS wa sg k).2.2.1)), (6, .int (nI (k)))] dX2_addWants_121 rfl (by decide) rfl ?_
            refine r_iincN ok (c := 1) [(6, .int (nI (k + 1))), (2, .int (zPlI (zPlA (zPn sg k) (sg k)))), (3, .int ((sg k) - (nI 97))), (7, .int (sg k)), (0, .ref h), (1, .ref b), (4, .int ((zAdS wa sg k).2.1)), (5, .int ((zAdS wa sg k).2.2.1))] dX2_addWants_122 7 rfl (by rfl) (by decide) rfl ?_
            refine r_goto ok 13 dX2_addWants_125 (by decide) ?_
            have q41 : Value.int (zPlI (zPlA (zPn sg k) (sg k))) = Value.int (nI (zPn sg (k + 1))) := by first | with_reducible rfl | (first | exact congrArg Value.int (zPn_s (hrs k (by omega))) | (rw [e]; done) | (rw [e]; rfl))
            have q42 : Value.int ((sg k) - (nI 97)) = Value.int ((zAdS wa sg (k + 1)).1) := by first | with_reducible rfl | (first | exact congrArg Value.int (zPn_s (hrs k (by omega))) | (rw [e]; done) | (rw [e]; rfl))
            have q43 : Value.int ((zAdS wa sg k).2.1) = Value.int ((zAdS wa sg (k + 1)).2.1) := by first | with_reducible rfl | (first | exact congrArg Value.int (zPn_s (hrs k (by omega))) | (rw [e]; done) | (rw [e]; rfl))
            have q44 : Value.int ((zAdS wa sg k).2.2.1) = Value.int ((zAdS wa sg (k + 1)).2.2.1) := by first | with_reducible rfl | (first | exact congrArg Value.int (zPn_s (hrs k (by omega))) | (rw [e]; done) | (rw [e]; rfl))
            have q45 : ((zAdS wa sg k).2.2.2 : Nat → Nat → Int32) = (zAdS wa sg (k + 1)).2.2.2 := by first | with_reducible rfl | (first | exact congrArg Value.int (zPn_s (hrs k (by omega))) | (rw [e]; done) | (rw [e]; rfl))
            refine zW.forget (lv' := [(0, .ref h), (1, .ref b), (2, .int (zPlI (zPlA (zPn sg k) (sg k)))), (3, .int ((sg k) - (nI 97))), (4, .int ((zAdS wa sg k).2.1)), (5, .int ((zAdS wa sg k).2.2.1)), (6, .int (nI (k + 1)))]) ?_ [4, 5, 1, 2, 6, 7, 0] rfl
            refine zW.to (lv' := [(0, .ref h), (1, .ref b), (2, .int (nI (zPn sg (k + 1)))), (3, .int ((sg k) - (nI 97))), (4, .int ((zAdS wa sg k).2.1)), (5, .int ((zAdS wa sg k).2.2.1)), (6, .int (nI (k + 1)))]) ?_ rfl (congrArg (fun z => ([(0, .ref h), (1, .ref b), (2, z), (3, .int ((sg k) - (nI 97))), (4, .int ((zAdS wa sg k).2.1)), (5, .int ((zAdS wa sg k).2.2.1)), (6, .int (nI (k + 1)))] : List (Nat × Value))) q41) rfl
            refine zW.to (lv' := [(0, .ref h), (1, .ref b), (2, .int (nI (zPn sg (k + 1)))), (3, .int ((zAdS wa sg (k + 1)).1)), (4, .int ((zAdS wa sg k).2.1)), (5, .int ((zAdS wa sg k).2.2.1)), (6, .int (nI (k + 1)))]) ?_ rfl (congrArg (fun z => ([(0, .ref h), (1, .ref b), (2, .int (nI (zPn sg (k + 1)))), (3, z), (4, .int ((zAdS wa sg k).2.1)), (5, .int ((zAdS wa sg k).2.2.1)), (6, .int (nI (k + 1)))] : List (Nat × Value))) q42) rfl
            refine zW.to (lv' := [(0, .ref h), (1, .ref b), (2, .int (nI (zPn sg (k + 1)))), (3, .int ((zAdS wa sg (k + 1)).1)), (4, .int ((zAdS wa sg (k + 1)).2.1)), (5, .int ((zAdS wa sg k).2.2.1)), (6, .int (nI (k + 1)))]) ?_ rfl (congrArg (fun z => ([(0, .ref h), (1, .ref b), (2, .int (nI (zPn sg (k + 1)))), (3, .int ((zAdS wa sg (k + 1)).1)), (4, z), (5, .int ((zAdS wa sg k).2.2.1)), (6, .int (nI (k + 1)))] : List (Nat × Value))) q43) rfl
            refine zW.to (lv' := [(0, .ref h), (1, .ref b), (2, .int (nI (zPn sg (k + 1)))), (3, .int ((zAdS wa sg (k + 1)).1)), (4, .int ((zAdS wa sg (k + 1)).2.1)), (5, .int ((zAdS wa sg (k + 1)).2.2.1)), (6, .int (nI (k + 1)))]) ?_ rfl (congrArg (fun z => ([(0, .ref h), (1, .ref b), (2, .int (nI (zPn sg (k + 1)))), (3, .int ((zAdS wa sg (k + 1)).1)), (4, .int ((zAdS wa sg (k + 1)).2.1)), (5, z), (6, .int (nI (k + 1)))] : List (Nat × Value))) q44) rfl
            refine zW.to ?_ (congrArg (fun z => cbM G (pdM G M h sg (nI ln)) b st dy x br sp z ac ps pp pu lo un op pi cn vl du io hp hs) q45) rfl rfl
            exact ihL1 (k + 1) (by omega)
  have q46 : Value.int (nI 0) = Value.int (nI (zPn sg 0)) := by first | with_reducible rfl | (rfl)
  have q47 : Value.int (nI 0) = Value.int ((zAdS wa sg 0).1) := by first | with_reducible rfl | (rfl)
  have q48 : Value.int (nI 0) = Value.int ((zAdS wa sg 0).2.1) := by first | with_reducible rfl | (rfl)
  have q49 : Value.int (nI 0) = Value.int ((zAdS wa sg 0).2.2.1) := by first | with_reducible rfl | (rfl)
  have q50 : (wa : Nat → Nat → Int32) = (zAdS wa sg 0).2.2.2 := by first | with_reducible rfl | (rfl)
  refine zW.forget (lv' := [(0, .ref h), (1, .ref b), (2, .int (nI 0)), (3, .int (nI 0)), (4, .int (nI 0)), (5, .int (nI 0)), (6, .int (nI 0))]) ?_ [5, 6, 4, 3, 2, 1, 0] rfl
  refine zW.to (lv' := [(0, .ref h), (1, .ref b), (2, .int (nI (zPn sg 0))), (3, .int (nI 0)), (4, .int (nI 0)), (5, .int (nI 0)), (6, .int (nI 0))]) ?_ rfl (congrArg (fun z => ([(0, .ref h), (1, .ref b), (2, z), (3, .int (nI 0)), (4, .int (nI 0)), (5, .int (nI 0)), (6, .int (nI 0))] : List (Nat × Value))) q46) rfl
  refine zW.to (lv' := [(0, .ref h), (1, .ref b), (2, .int (nI (zPn sg 0))), (3, .int ((zAdS wa sg 0).1)), (4, .int (nI 0)), (5, .int (nI 0)), (6, .int (nI 0))]) ?_ rfl (congrArg (fun z => ([(0, .ref h), (1, .ref b), (2, .int (nI (zPn sg 0))), (3, z), (4, .int (nI 0)), (5, .int (nI 0)), (6, .int (nI 0))] : List (Nat × Value))) q47) rfl
  refine zW.to (lv' := [(0, .ref h), (1, .ref b), (2, .int (nI (zPn sg 0))), (3, .int ((zAdS wa sg 0).1)), (4, .int ((zAdS wa sg 0).2.1)), (5, .int (nI 0)), (6, .int (nI 0))]) ?_ rfl (congrArg (fun z => ([(0, .ref h), (1, .ref b), (2, .int (nI (zPn sg 0))), (3, .int ((zAdS wa sg 0).1)), (4, z), (5, .int (nI 0)), (6, .int (nI 0))] : List (Nat × Value))) q48) rfl
  refine zW.to (lv' := [(0, .ref h), (1, .ref b), (2, .int (nI (zPn sg 0))), (3, .int ((zAdS wa sg 0).1)), (4, .int ((zAdS wa sg 0).2.1)), (5, .int ((zAdS wa sg 0).2.2.1)), (6, .int (nI 0))]) ?_ rfl (congrArg (fun z => ([(0, .ref h), (1, .ref b), (2, .int (nI (zPn sg 0))), (3, .int ((zAdS wa sg 0).1)), (4, .int ((zAdS wa sg 0).2.1)), (5, z), (6, .int (nI 0))] : List (Nat × Value))) q49) rfl
  refine zW.to ?_ (congrArg (fun z => cbM G (pdM G M h sg (nI ln)) b st dy x br sp z ac ps pp pu lo un op pi cn vl du io hp hs) q50) rfl rfl
  exact L1 ln 0 (by omega)
