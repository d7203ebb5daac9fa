set_option maxHeartbeats 4000000 in
set_option maxRecDepth 100000 in
theorem c_X5_copyTable (l : Launch) (G : zG) (M : zM) (N : Nat) (r1 : Nat) (r2 : Nat) (f : Nat → Nat → Int32) (g : Nat → Nat → Int32) (t1 : Nat) (t2 : Nat) (ht1 : M t1 = some (zR (G.2.1 3) 6 (zRef6 r1))) (ht2 : M t2 = some (zR (G.2.1 3) 6 (zRef6 r2))) (h1 : ∀ i, i < 6 → M (r1 + i) = some (zI (G.2.1 0) 8 (f i))) (hg : ∀ i, i < 6 → M (r2 + i) = some (zI (G.2.1 0) 8 (g i))) (hd : r1 + 6 ≤ r2 ∨ r2 + 6 ≤ r1) (hq1 : t1 < r2 ∨ r2 + 6 ≤ t1) (hq2 : t2 < r2 ∨ r2 + 6 ≤ t2) : zC l G yX5_copyTable cX5_copyTable 3 (none) 2 69 0 0 [.ref t1, .ref t2] (M) N (zP none (tbM G M r2 (zTab g f 6))) := by
  refine zC.of (by decide +kernel) (Nat.le_of_ble_eq_true rfl) ?_
  intro K hKl ok
  subst hKl
  show zW K G 3 _ 0 0 _ N 0 [(0, .ref t1), (1, .ref t2)] []
  refine zW.to (M' := tbM G M r2 g) ?_ (tb_same hg).symm rfl rfl
  refine r_iconst ok (nI 0) dX5_copyTable_0 (by rfl) ?_
  refine r_istore_n ok [(2, .int (nI 0)), (0, .ref t1), (1, .ref t2)] dX5_copyTable_1 rfl (by decide) rfl ?_
  have L1 : ∀ (nL1 : Nat) (k : Nat), ((k + nL1 = 6)) → zW K G 3 (zQ K G (N + 0) 0 0 (zP none (tbM G M r2 (zTab g f 6)))) 0 0 (tbM G M r2 (zTab g f k)) N 2 [(0, .ref t1), (1, .ref t2), (2, .int (nI (k)))] [] := by
    intro nL1
    induction nL1 with
    | zero =>
      intro k hk_k 
      obtain rfl : 6 = k := by omega
      refine r_iload_n ok dX5_copyTable_2 2 rfl rfl ?_
      refine r_aload_n ok dX5_copyTable_3 0 rfl rfl ?_
      refine r_alenR ok (nI 6) (t := 3) rfl dX5_copyTable_4 ((tb_out (by omega)).trans ht1) (by rfl) ?_
      refine r_icmp_geN ok 29 (by omega) (by omega) dX5_copyTable_5 (by decide) (fun _ => ?_) (fun c => absurd c (by decide))
      exact r_vret ok dX5_copyTable_29 rfl ⟨rfl, rfl⟩
    | succ nL1 ihL1 =>
      intro k hk_k 
      refine r_iload_n ok dX5_copyTable_2 2 rfl rfl ?_
      refine r_aload_n ok dX5_copyTable_3 0 rfl rfl ?_
      refine r_alenR ok (nI 6) (t := 3) rfl dX5_copyTable_4 ((tb_out (by omega)).trans ht1) (by rfl) ?_
      refine r_icmp_geN ok 29 (by omega) (by omega) dX5_copyTable_5 (by decide) (fun c5_3 => ?_) (fun c5_3 => ?_)
      · skip
        exact absurd c5_3 (by omega)
      · skip
        refine r_iload_n ok dX5_copyTable_8 2 rfl rfl ?_
        refine r_aload_n ok dX5_copyTable_9 1 rfl rfl ?_
        refine r_alenR ok (nI 6) (t := 3) rfl dX5_copyTable_10 ((tb_out (by omega)).trans ht2) (by rfl) ?_
        refine r_icmp_geN ok 29 (by omega) (by omega) dX5_copyTable_11 (by decide) (fun c11_4 => ?_) (fun c11_4 => ?_)
        · skip
          exact absurd c11_4 (by omega)
        · skip
          refine r_aload_n ok dX5_copyTable_14 0 rfl rfl ?_
          refine r_iload_n ok dX5_copyTable_15 2 rfl rfl ?_
          refine r_aaldN ok 3 (Or.inl rfl) (r1 + k) (by omega) (by omega) dX5_copyTable_16 ((tb_out (by omega)).trans ht1) (zRef6_at (by omega)) ?_
          refine r_aload_n ok dX5_copyTable_17 1 rfl rfl ?_
          refine r_iload_n ok dX5_copyTable_18 2 rfl rfl ?_
          refine r_aaldN ok 3 (Or.inl rfl) (r2 + k) (by omega) (by omega) dX5_copyTable_19 ((tb_out (by omega)).trans ht2) (zRef6_at (by omega)) ?_
          refine r_cS0 ok [] mi_X5_copyRow ml_X5_254 sm_X5_copyRow dX5_copyTable_20 (c_X5_copyRow K.2.1 G (tbM G M r2 (zTab g f k)) N 8 (f k) (zTab g f k k) ((r1 + k)) ((r2 + k)) ((tb_out (by omega)).trans (h1 k (by omega))) (tb_r (by omega)) (by omega)) rfl rfl ⟨Nat.le_of_ble_eq_true rfl, Nat.le_of_ble_eq_true rfl⟩ (Nat.le_of_ble_eq_true rfl) ⟨Nat.zero_le _, Nat.zero_le _⟩ ?_
          refine zW.to (M' := tbM G M r2 (va_up (zTab g f k) k (zC0 (zTab g f k k) (f k) 8))) ?_ (tb_w (by omega) _) rfl rfl
          refine r_iincN ok (c := 1) [(2, .int (nI (k + 1))), (0, .ref t1), (1, .ref t2)] dX5_copyTable_23 2 rfl (by rfl) (by decide) rfl ?_
          refine r_goto ok 2 dX5_copyTable_26 (by decide) ?_
          have q5 : (va_up (zTab g f k) k (zC0 (zTab g f k k) (f k) 8) : Nat → Nat → Int32) = zTab g f (k + 1) := by first | with_reducible rfl | (exact zTab_s _ _ _)
          refine zW.forget (lv' := [(0, .ref t1), (1, .ref t2), (2, .int (nI (k + 1)))]) ?_ [1, 2, 0] rfl
          refine zW.to ?_ (congrArg (fun z => tbM G M r2 z) q5) rfl rfl
          exact ihL1 (k + 1) (by omega)
  have q6 : (g : Nat → Nat → Int32) = zTab g f 0 := by first | with_reducible rfl | (exact (zTab_0 _ _).symm)
  refine zW.forget (lv' := [(0, .ref t1), (1, .ref t2), (2, .int (nI 0))]) ?_ [1, 2, 0] rfl
  refine zW.to ?_ (congrArg (fun z => tbM G M r2 z) q6) rfl rfl
  exact L1 6 0 (by omega)
set_option maxHeartbeats 4000000 in
set_option maxRecDepth 100000 in
theorem c_X4_divide (l : Launch) (G : zG) (M : zM) (N : Nat) (h : Nat) (pt : Nat → Int32) (sr : Nat → Int32)  (am : Int32) (hnn : 0 ≤ lsum pt 6) : zC l G yX4_divide cX4_divide 5 (none) 1 25 0 0 [.ref h, .int (am)] (shM G M h pt sr) N (zP none (shM G M h pt (zGets am pt sr))) := by
  refine zC.of (by decide +kernel) (Nat.le_of_ble_eq_true rfl) ?_
  intro K hKl ok
  subst hKl
  show zW K G 5 _ 0 0 _ N 0 [(0, .ref h), (1, .int (am))] []
  refine r_aload_n ok dX4_divide_0 0 rfl rfl ?_
  refine r_getf ok ci_X4 fl_X4_15 (by decide) dX4_divide_1 sh_o rfl ?_
  refine r_iconst ok (nI 0) dX4_divide_4 (by rfl) ?_
  refine r_cS0 ok [] mi_J7_fill_53178 ml_X4_18 sm_J7_fill_53178 dX4_divide_5 (c_J7_fill_53178 K.2.1 G (shM G M h pt sr) N 6 sr ((h + 2)) (nI 0) sh_s (by omega)) rfl rfl ⟨Nat.le_of_ble_eq_true rfl, Nat.le_of_ble_eq_true rfl⟩ (Nat.le_of_ble_eq_true rfl) ⟨Nat.zero_le _, Nat.zero_le _⟩ ?_
  refine zW.to (M' := shM G M h pt (zC0 sr (fun _ => (nI 0)) 6)) ?_ (shw_s _) rfl rfl
  refine r_aload_n ok dX4_divide_8 0 rfl rfl ?_
  refine r_getf ok ci_X4 fl_X4_9 (by decide) dX4_divide_9 sh_o rfl ?_
  refine r_cSN1 ok [] mi_X5_sumOf mn_X4_24 sm_X5_sumOf dX4_divide_12 (c_X5_sumOf K.2.1 G (shM G M h pt (zC0 sr (fun _ => (nI 0)) 6)) N 6 pt ((h + 1)) sh_p (by omega)) rfl rfl ⟨Nat.le_of_ble_eq_true rfl, Nat.le_of_ble_eq_true rfl⟩ (Nat.le_of_ble_eq_true rfl) ⟨Nat.zero_le _, Nat.zero_le _⟩ ?_
  refine r_istore_n ok [(2, .int (lsum pt 6)), (0, .ref h), (1, .int (am))] dX4_divide_15 rfl (by decide) rfl ?_
  refine r_iload_n ok dX4_divide_16 0 rfl rfl ?_
  refine r_if_gt ok 21 dX4_divide_17 (by decide) (fun c17_1 => ?_) (fun c17_1 => ?_)
  · skip
    have hw : ¬ lsum pt 6 = 0 := fun q => absurd c17_1 (by rw [q]; decide)
    have hw2 : ¬ lsum pt 6 ≤ 0 := Int32.not_le.mpr c17_1
    refine r_iload_n ok dX4_divide_21 2 rfl rfl ?_
    refine r_istore_n ok [(3, .int (am)), (2, .int (lsum pt 6)), (0, .ref h), (1, .int (am))] dX4_divide_22 rfl (by decide) rfl ?_
    refine r_iconst ok (nI 0) dX4_divide_23 (by rfl) ?_
    refine r_istore ok [(4, .int (nI 0)), (3, .int (am)), (2, .int (lsum pt 6)), (0, .ref h), (1, .int (am))] dX4_divide_24 (by decide) rfl ?_
    have L2 : ∀ (nL2 : Nat) (k : Nat), ((k + nL2 = 6)) → zW K G 5 (zQ K G (N + 0) 0 0 (zP none (shM G M h pt (zGets am pt sr)))) 0 0 (shM G M h pt (zC0 (zC0 sr (fun _ => nI 0) 6) (zBase am pt) k)) N 26 [(0, .ref h), (1, .int (am)), (2, .int (lsum pt 6)), (3, .int (zLft am pt k)), (4, .int (nI (k)))] [] := by
      intro nL2
      induction nL2 with
      | zero =>
        intro k hk_k 
        obtain rfl : 6 = k := by omega
        refine r_iload ok dX4_divide_26 4 rfl ?_
        refine r_bipush ok (nI 6) dX4_divide_28 (by rfl) ?_
        refine r_icmp_geN ok 67 (by omega) (by omega) dX4_divide_30 (by decide) (fun _ => ?_) (fun c => absurd c (by decide))
        refine r_iconst ok (nI 0) dX4_divide_67 (by rfl) ?_
        refine r_istore ok [(4, .int (nI 0)), (0, .ref h), (1, .int (am)), (2, .int (lsum pt 6)), (3, .int (zLft am pt 6))] dX4_divide_68 (by decide) rfl ?_
        have L4 : ∀ (nL4 : Nat) (k : Nat), ((k + nL4 = 6)) → zW K G 5 (zQ K G (N + 0) 0 0 (zP none (shM G M h pt (zGets am pt sr)))) 0 0 (shM G M h pt (zG2 am pt (zC0 sr (fun _ => nI 0) 6) k)) N 70 [(0, .ref h), (1, .int (am)), (2, .int (lsum pt 6)), (3, .int (zLf2 am pt k)), (4, .int (nI (k)))] [] := by
          intro nL4
          induction nL4 with
          | zero =>
            intro k hk_k 
            obtain rfl : 6 = k := by omega
            refine r_iload ok dX4_divide_70 4 rfl ?_
            refine r_bipush ok (nI 6) dX4_divide_72 (by rfl) ?_
            refine r_icmp_geN ok 111 (by omega) (by omega) dX4_divide_74 (by decide) (fun _ => ?_) (fun c => absurd c (by decide))
            exact r_vret ok dX4_divide_111 rfl ⟨rfl, (by first | (rw [zGets_0 (by assumption) (by assumption)]) | (exact congrArg (fun z => shM G M h pt z) (zGets_C0 am pt sr (fun _ => nI 0))) | (rw [zG2_stop (by omega) (by assumption), zGets_C0]))⟩
          | succ nL4 ihL4 =>
            intro k hk_k 
            refine r_iload ok dX4_divide_70 4 rfl ?_
            refine r_bipush ok (nI 6) dX4_divide_72 (by rfl) ?_
            refine r_icmp_geN ok 111 (by omega) (by omega) dX4_divide_74 (by decide) (fun c74_6 => ?_) (fun c74_6 => ?_)
            · skip
              exact absurd c74_6 (by omega)
            · skip
              refine r_iload_n ok dX4_divide_77 3 rfl rfl ?_
              refine r_if_le ok 111 dX4_divide_78 (by decide) (fun c78_7 => ?_) (fun c78_7 => ?_)
              · skip
                exact r_vret ok dX4_divide_111 rfl ⟨rfl, (by first | (rw [zGets_0 (by assumption) (by assumption)]) | (exact congrArg (fun z => shM G M h pt z) (zGets_C0 am pt sr (fun _ => nI 0))) | (rw [zG2_stop (by omega) (by assumption), zGets_C0]))⟩
              · skip
                refine r_aload_n ok dX4_divide_81 0 rfl rfl ?_
                refine r_getf ok ci_X4 fl_X4_9 (by decide) dX4_divide_82 sh_o rfl ?_
                refine r_iload ok dX4_divide_85 4 rfl ?_
                refine r_ialdN ok (by omega) (by omega) dX4_divide_87 sh_p ?_
                refine r_if_le ok 105 dX4_divide_88 (by decide) (fun c88_8 => ?_) (fun c88_8 => ?_)
                · skip
                  refine r_iincN ok (c := 1) [(4, .int (nI (k + 1))), (0, .ref h), (1, .int (am)), (2, .int (lsum pt 6)), (3, .int (zLf2 am pt k))] dX4_divide_105 4 rfl (by rfl) (by decide) rfl ?_
                  refine r_goto ok 70 dX4_divide_108 (by decide) ?_
                  have q9 : Value.int (zLf2 am pt k) = Value.int (zLf2 am pt (k + 1)) := by first | with_reducible rfl | (first | (rw [zG2_skip _ _ _ (by omega) (by simp [zGiv, *])]; done) | (rw [← zG2_s]; simp [zGet, zGiv, nI_one, *]; done) | simp [zLf2, zGiv, Int32.sub_eq_add_neg, *])
                  have q10 : (zG2 am pt (zC0 sr (fun _ => nI 0) 6) k : Nat → Int32) = zG2 am pt (zC0 sr (fun _ => nI 0) 6) (k + 1) := by first | with_reducible rfl | (first | (rw [zG2_skip _ _ _ (by omega) (by simp [zGiv, *])]; done) | (rw [← zG2_s]; simp [zGet, zGiv, nI_one, *]; done) | simp [zLf2, zGiv, Int32.sub_eq_add_neg, *])
                  refine zW.forget (lv' := [(0, .ref h), (1, .int (am)), (2, .int (lsum pt 6)), (3, .int (zLf2 am pt k)), (4, .int (nI (k + 1)))]) ?_ [1, 2, 3, 4, 0] rfl
                  refine zW.to (lv' := [(0, .ref h), (1, .int (am)), (2, .int (lsum pt 6)), (3, .int (zLf2 am pt (k + 1))), (4, .int (nI (k + 1)))]) ?_ rfl (congrArg (fun z => ([(0, .ref h), (1, .int (am)), (2, .int (lsum pt 6)), (3, z), (4, .int (nI (k + 1)))] : List (Nat × Value))) q9) rfl
                  refine zW.to ?_ (congrArg (fun z => shM G M h pt z) q10) rfl rfl
                  exact ihL4 (k + 1) (by omega)
                · skip
                  refine r_aload_n ok dX4_divide_91 0 rfl rfl ?_
                  refine r_getf ok ci_X4 fl_X4_15 (by decide) dX4_divide_92 sh_o rfl ?_
                  refine r_iload ok dX4_divide_95 4 rfl ?_
                  refine r_dup2 ok dX4_divide_97 rfl rfl ?_
                  refine r_ialdN ok (by omega) (by omega) dX4_divide_98 sh_s ?_
                  refine zW.to (st' := [.int (zBase am pt k), .int (nI (k)), .ref (h + 2)]) ?_ rfl rfl (congrArg (fun z => (Value.int z :: [.int (nI (k)), .ref (h + 2)] : List Value)) (show (zG2 am pt (zC0 sr (fun _ => nI 0) 6) k) k = zBase am pt k from (zG2_at am pt _ (by omega))))
                  refine r_iconst ok (nI 1) dX4_divide_99 (by rfl) ?_
                  refine r_iadd ok dX4_divide_100 ?_
                  refine r_iastN ok (by omega) (by omega) dX4_divide_101 sh_s (shw_s _) ?_
                  refine r_iinc ok ((zLf2 am pt k) + (-1)) [(3, .int ((zLf2 am pt k) + (-1))), (0, .ref h), (1, .int (am)), (2, .int (lsum pt 6)), (4, .int (nI (k)))] dX4_divide_102 3 rfl (by rfl) (by decide) rfl ?_
                  refine r_iincN ok (c := 1) [(4, .int (nI (k + 1))), (3, .int ((zLf2 am pt k) + (-1))), (0, .ref h), (1, .int (am)), (2, .int (lsum pt 6))] dX4_divide_105 4 rfl (by rfl) (by decide) rfl ?_
                  refine r_goto ok 70 dX4_divide_108 (by decide) ?_
                  have q11 : Value.int ((zLf2 am pt k) + (-1)) = Value.int (zLf2 am pt (k + 1)) := by first | with_reducible rfl | (first | (rw [zG2_skip _ _ _ (by omega) (by simp [zGiv, *])]; done) | (rw [← zG2_s]; simp [zGet, zGiv, nI_one, *]; done) | simp [zLf2, zGiv, Int32.sub_eq_add_neg, *])
                  have q12 : (upd (zG2 am pt (zC0 sr (fun _ => nI 0) 6) k) k ((zBase am pt k) + (nI 1)) : Nat → Int32) = zG2 am pt (zC0 sr (fun _ => nI 0) 6) (k + 1) := by first | with_reducible rfl | (first | (rw [zG2_skip _ _ _ (by omega) (by simp [zGiv, *])]; done) | (rw [← zG2_s]; simp [zGet, zGiv, nI_one, *]; done) | simp [zLf2, zGiv, Int32.sub_eq_add_neg, *])
                  refine zW.forget (lv' := [(0, .ref h), (1, .int (am)), (2, .int (lsum pt 6)), (3, .int ((zLf2 am pt k) + (-1))), (4, .int (nI (k + 1)))]) ?_ [2, 3, 4, 1, 0] rfl
                  refine zW.to (lv' := [(0, .ref h), (1, .int (am)), (2, .int (lsum pt 6)), (3, .int (zLf2 am pt (k + 1))), (4, .int (nI (k + 1)))]) ?_ rfl (congrArg (fun z => ([(0, .ref h), (1, .int (am)), (2, .int (lsum pt 6)), (3, z), (4, .int (nI (k + 1)))] : List (Nat × Value))) q11) rfl
                  refine zW.to ?_ (congrArg (fun z => shM G M h pt z) q12) rfl rfl
                  exact ihL4 (k + 1) (by omega)
        have q13 : Value.int (zLft am pt 6) = Value.int (zLf2 am pt 0) := by first | with_reducible rfl | (first | rfl | exact (zC0_0 _ _).symm)
        have q14 : (zC0 (zC0 sr (fun _ => nI 0) 6) (zBase am pt) 6 : Nat → Int32) = zG2 am pt (zC0 sr (fun _ => nI 0) 6) 0 := by first | with_reducible rfl | (first | rfl | exact (zC0_0 _ _).symm)
        refine zW.forget (lv' := [(0, .ref h), (1, .int (am)), (2, .int (lsum pt 6)), (3, .int (zLft am pt 6)), (4, .int (nI 0))]) ?_ [1, 2, 3, 4, 0] rfl
        refine zW.to (lv' := [(0, .ref h), (1, .int (am)), (2, .int (lsum pt 6)), (3, .int (zLf2 am pt 0)), (4, .int (nI 0))]) ?_ rfl (congrArg (fun z => ([(0, .ref h), (1, .int (am)), (2, .int (lsum pt 6)), (3, z), (4, .int (nI 0))] : List (Nat × Value))) q13) rfl
        refine zW.to ?_ (congrArg (fun z => shM G M h pt z) q14) rfl rfl
        exact L4 6 0 (by omega)
      | succ nL2 ihL2 =>
        intro k hk_k 
        refine r_iload ok dX4_divide_26 4 rfl ?_
        refine r_bipush ok (nI 6) dX4_divide_28 (by rfl) ?_
        refine r_icmp_geN ok 67 (by omega) (by omega) dX4_divide_30 (by decide) (fun c30_15 => ?_) (fun c30_15 => ?_)
        · skip
          exact absurd c30_15 (by omega)
        · skip
          refine r_aload_n ok dX4_divide_33 0 rfl rfl ?_
          refine r_getf ok ci_X4 fl_X4_15 (by decide) dX4_divide_34 sh_o rfl ?_
          refine r_iload ok dX4_divide_37 4 rfl ?_
          refine r_iload_n ok dX4_divide_39 1 rfl rfl ?_
          refine r_aload_n ok dX4_divide_40 0 rfl rfl ?_
          refine r_getf ok ci_X4 fl_X4_9 (by decide) dX4_divide_41 sh_o rfl ?_
          refine r_iload ok dX4_divide_44 4 rfl ?_
          refine r_ialdN ok (by omega) (by omega) dX4_divide_46 sh_p ?_
          refine r_imul ok dX4_divide_47 ?_
          refine r_iload_n ok dX4_divide_48 2 rfl rfl ?_
          refine r_idiv ok (by assumption) dX4_divide_49 ?_
          refine r_iastN ok (by omega) (by omega) dX4_divide_50 sh_s (shw_s _) ?_
          refine r_iload_n ok dX4_divide_51 3 rfl rfl ?_
          refine r_aload_n ok dX4_divide_52 0 rfl rfl ?_
          refine r_getf ok ci_X4 fl_X4_15 (by decide) dX4_divide_53 sh_o rfl ?_
          refine r_iload ok dX4_divide_56 4 rfl ?_
          refine r_ialdN ok (by omega) (by omega) dX4_divide_58 sh_s ?_
          refine zW.to (st' := [.int ((am * (pt k)) / (lsum pt 6)), .int (zLft am pt k)]) ?_ rfl rfl (congrArg (fun z => (Value.int z :: [.int (zLft am pt k)] : List Value)) (show (upd (zC0 (zC0 sr (fun _ => nI 0) 6) (zBase am pt) k) k ((am * (pt k)) / (lsum pt 6))) k = (am * (pt k)) / (lsum pt 6) from pk_us))
          refine r_isub ok dX4_divide_59 ?_
          refine r_istore_n ok [(3, .int ((zLft am pt k) - ((am * (pt k)) / (lsum pt 6)))), (0, .ref h), (1, .int (am)), (2, .int (lsum pt 6)), (4, .int (nI (k)))] dX4_divide_60 rfl (by decide) rfl ?_
          refine r_iincN ok (c := 1) [(4, .int (nI (k + 1))), (3, .int ((zLft am pt k) - ((am * (pt k)) / (lsum pt 6)))), (0, .ref h), (1, .int (am)), (2, .int (lsum pt 6))] dX4_divide_61 4 rfl (by rfl) (by decide) rfl ?_
          refine r_goto ok 26 dX4_divide_64 (by decide) ?_
          have q16 : Value.int ((zLft am pt k) - ((am * (pt k)) / (lsum pt 6))) = Value.int (zLft am pt (k + 1)) := by first | with_reducible rfl | (first | (exact (by have e : am * pt k / lsum pt 6 = zBase am pt k := (by simp [zBase, *]); rw [e]; exact zC0_s _ _ _)) | simp [zLft, zBase, *])
          have q17 : (upd (zC0 (zC0 sr (fun _ => nI 0) 6) (zBase am pt) k) k ((am * (pt k)) / (lsum pt 6)) : Nat → Int32) = zC0 (zC0 sr (fun _ => nI 0) 6) (zBase am pt) (k + 1) := by first | with_reducible rfl | (first | (exact (by have e : am * pt k / lsum pt 6 = zBase am pt k := (by simp [zBase, *]); rw [e]; exact zC0_s _ _ _)) | simp [zLft, zBase, *])
          refine zW.forget (lv' := [(0, .ref h), (1, .int (am)), (2, .int (lsum pt 6)), (3, .int ((zLft am pt k) - ((am * (pt k)) / (lsum pt 6)))), (4, .int (nI (k + 1)))]) ?_ [2, 3, 4, 1, 0] rfl
          refine zW.to (lv' := [(0, .ref h), (1, .int (am)), (2, .int (lsum pt 6)), (3, .int (zLft am pt (k + 1))), (4, .int (nI (k + 1)))]) ?_ rfl (congrArg (fun z => ([(0, .ref h), (1, .int (am)), (2, .int (lsum pt 6)), (3, z), (4, .int (nI (k + 1)))] : List (Nat × Value))) q16) rfl
          refine zW.to ?_ (congrArg (fun z => shM G M h pt z) q17) rfl rfl
          exact ihL2 (k + 1) (by omega)
    have q18 : Value.int (am) = Value.int (zLft am pt 0) := by first | with_reducible rfl | (first | rfl | exact (zC0_0 _ _).symm)
    have q19 : (zC0 sr (fun _ => (nI 0)) 6 : Nat → Int32) = zC0 (zC0 sr (fun _ => nI 0) 6) (zBase am pt) 0 := by first | with_reducible rfl | (first | rfl | exact (zC0_0 _ _).symm)
    refine zW.forget (lv' := [(0, .ref h), (1, .int (am)), (2, .int (lsum pt 6)), (3, .int (am)), (4, .int (nI 0))]) ?_ [3, 4, 2, 1, 0] rfl
    refine zW.to (lv' := [(0, .ref h), (1, .int (am)), (2, .int (lsum pt 6)), (3, .int (zLft am pt 0)), (4, .int (nI 0))]) ?_ rfl (congrArg (fun z => ([(0, .ref h), (1, .int (am)), (2, .int (lsum pt 6)), (3, z), (4, .int (nI 0))] : List (Nat × Value))) q18) rfl
    refine zW.to ?_ (congrArg (fun z => shM G M h pt z) q19) rfl rfl
    exact L2 6 0 (by omega)
  · skip
    have hw2 : lsum pt 6 ≤ 0 := Int32.not_lt.mp c17_1
    exact r_vret ok dX4_divide_20 rfl ⟨rfl, (by first | (rw [zGets_0 (by assumption) (by assumption)]) | (exact congrArg (fun z => shM G M h pt z) (zGets_C0 am pt sr (fun _ => nI 0))) | (rw [zG2_stop (by omega) (by assumption), zGets_C0]))⟩
set_option maxHeartbeats 4000000 in
set_option maxRecDepth 100000 in
theorem c_X3_pieces (l : Launch) (G : zG) (M : zM) (N : Nat) (h : Nat) (cn : Nat → Nat → Int32) (vl : Int32) (du : Int32) (io : Bool)    : zC l G yX3_pieces cX3_pieces 3 (some .int) 1 25 0 0 [.ref h] (pcM G M h cn vl du io) N (zP (some (.int (zPie cn))) (pcM G M h cn vl du io)) := by
  refine zC.of (by decide +kernel) (Nat.le_of_ble_eq_true rfl) ?_
  intro K hKl ok
  subst hKl
  show zW K G 3 _ 0 0 _ N 0 [(0, .ref h)] []
  refine r_iconst ok (nI 0) dX3_pieces_0 (by rfl) ?_
  refine r_istore_n ok [(1, .int (nI 0)), (0, .ref h)] dX3_pieces_1 rfl (by decide) rfl ?_
  refine r_iconst ok (nI 0) dX3_pieces_2 (by rfl) ?_
  refine r_istore_n ok [(2, .int (nI 0)), (1, .int (nI 0)), (0, .ref h)] dX3_pieces_3 rfl (by decide) rfl ?_
  have L1 : ∀ (nL1 : Nat) (k : Nat), ((k + nL1 = 6)) → zW K G 3 (zQ K G (N + 0) 0 0 (zP (some (.int (zPie cn))) (pcM G M h cn vl du io))) 0 0 (pcM G M h cn vl du io) N 4 [(0, .ref h), (1, .int (lsum (zPieT cn) k)), (2, .int (nI (k)))] [] := by
    intro nL1
    induction nL1 with
    | zero =>
      intro k hk_k 
      obtain rfl : 6 = k := by omega
      refine r_iload_n ok dX3_pieces_4 2 rfl rfl ?_
      refine r_bipush ok (nI 6) dX3_pieces_5 (by rfl) ?_
      refine r_icmp_geN ok 28 (by omega) (by omega) dX3_pieces_7 (by decide) (fun _ => ?_) (fun c => absurd c (by decide))
      refine r_iload_n ok dX3_pieces_28 1 rfl rfl ?_
      exact r_iret ok dX3_pieces_29 rfl ⟨congrArg (fun z => some (Value.int z)) (show lsum (zPieT cn) 6 = zPie cn from by rfl), rfl⟩
    | succ nL1 ihL1 =>
      intro k hk_k 
      refine r_iload_n ok dX3_pieces_4 2 rfl rfl ?_
      refine r_bipush ok (nI 6) dX3_pieces_5 (by rfl) ?_
      refine r_icmp_geN ok 28 (by omega) (by omega) dX3_pieces_7 (by decide) (fun c7_3 => ?_) (fun c7_3 => ?_)
      · skip
        exact absurd c7_3 (by omega)
      · skip
        refine r_iload_n ok dX3_pieces_10 1 rfl rfl ?_
        refine r_aload_n ok dX3_pieces_11 0 rfl rfl ?_
        refine r_getf ok ci_X3 fl_X3_11 (by decide) dX3_pieces_12 pc_o rfl ?_
        refine r_iload_n ok dX3_pieces_15 2 rfl rfl ?_
        refine r_aaldN ok 3 (Or.inl rfl) (h + 2 + k) (by omega) (by omega) dX3_pieces_16 pc_c (zRef6_at (by omega)) ?_
        refine r_cSN1 ok [.int (lsum (zPieT cn) k)] mi_X5_sumOf mn_X3_31 sm_X5_sumOf dX3_pieces_17 (c_X5_sumOf K.2.1 G (pcM G M h cn vl du io) N 8 (cn k) ((h + 2 + k)) (pc_r (by omega)) (by omega)) rfl rfl ⟨Nat.le_of_ble_eq_true rfl, Nat.le_of_ble_eq_true rfl⟩ (Nat.le_of_ble_eq_true rfl) ⟨Nat.zero_le _, Nat.zero_le _⟩ ?_
        refine r_iadd ok dX3_pieces_20 ?_
        refine r_istore_n ok [(1, .int ((lsum (zPieT cn) k) + (lsum (cn k) 8))), (0, .ref h), (2, .int (nI (k)))] dX3_pieces_21 rfl (by decide) rfl ?_
        refine r_iincN ok (c := 1) [(2, .int (nI (k + 1))), (1, .int ((lsum (zPieT cn) k) + (lsum (cn k) 8))), (0, .ref h)] dX3_pieces_22 2 rfl (by rfl) (by decide) rfl ?_
        refine r_goto ok 4 dX3_pieces_25 (by decide) ?_
        have q4 : Value.int ((lsum (zPieT cn) k) + (lsum (cn k) 8)) = Value.int (lsum (zPieT cn) (k + 1)) := by first | with_reducible rfl | (simp [lsum_s, zPieT])
        refine zW.forget (lv' := [(0, .ref h), (1, .int ((lsum (zPieT cn) k) + (lsum (cn k) 8))), (2, .int (nI (k + 1)))]) ?_ [2, 1, 0] rfl
        refine zW.to (lv' := [(0, .ref h), (1, .int (lsum (zPieT cn) (k + 1))), (2, .int (nI (k + 1)))]) ?_ rfl (congrArg (fun z => ([(0, .ref h), (1, z), (2, .int (nI (k + 1)))] : List (Nat × Value))) q4) rfl
        exact ihL1 (k + 1) (by omega)
  have q5 : Value.int (nI 0) = Value.int (lsum (zPieT cn) 0) := by first | with_reducible rfl | (rfl)
  refine zW.forget (lv' := [(0, .ref h), (1, .int (nI 0)), (2, .int (nI 0))]) ?_ [2, 1, 0] rfl
  refine zW.to (lv' := [(0, .ref h), (1, .int (lsum (zPieT cn) 0)), (2, .int (nI 0))]) ?_ rfl (congrArg (fun z => ([(0, .ref h), (1, z), (2, .int (nI 0))] : List (Nat × Value))) q5) rfl
  exact L1 6 0 (by omega)
set_option maxHeartbeats 4000000 in
set_option maxRecDepth 100000 in
theorem c_X3_owners (l : Launch) (G : zG) (M : zM) (N : Nat) (h : Nat) (cn : Nat → Nat → Int32) (vl : Int32) (du : Int32) (io : Bool)    : zC l G yX3_owners cX3_owners 3 (some .int) 1 25 0 0 [.ref h] (pcM G M h cn vl du io) N (zP (some (.int (zOwC cn 6))) (pcM G M h cn vl du io)) := by
  refine zC.of (by decide +kernel) (Nat.le_of_ble_eq_true rfl) ?_
  intro K hKl ok
  subst hKl
  show zW K G 3 _ 0 0 _ N 0 [(0, .ref h)] []
  refine r_iconst ok (nI 0) dX3_owners_0 (by rfl) ?_
  refine r_istore_n ok [(1, .int (nI 0)), (0, .ref h)] dX3_owners_1 rfl (by decide) rfl ?_
  refine r_iconst ok (nI 0) dX3_owners_2 (by rfl) ?_
  refine r_istore_n ok [(2, .int (nI 0)), (1, .int (nI 0)), (0, .ref h)] dX3_owners_3 rfl (by decide) rfl ?_
  have L1 : ∀ (nL1 : Nat) (k : Nat), ((k + nL1 = 6)) → zW K G 3 (zQ K G (N + 0) 0 0 (zP (some (.int (zOwC cn 6))) (pcM G M h cn vl du io))) 0 0 (pcM G M h cn vl du io) N 4 [(0, .ref h), (1, .int (zOwC cn k)), (2, .int (nI (k)))] [] := by
    intro nL1
    induction nL1 with
    | zero =>
      intro k hk_k 
      obtain rfl : 6 = k := by omega
      refine r_iload_n ok dX3_owners_4 2 rfl rfl ?_
      refine r_bipush ok (nI 6) dX3_owners_5 (by rfl) ?_
      refine r_icmp_geN ok 34 (by omega) (by omega) dX3_owners_7 (by decide) (fun _ => ?_) (fun c => absurd c (by decide))
      refine r_iload_n ok dX3_owners_34 1 rfl rfl ?_
      exact r_iret ok dX3_owners_35 rfl ⟨rfl, rfl⟩
    | succ nL1 ihL1 =>
      intro k hk_k 
      refine r_iload_n ok dX3_owners_4 2 rfl rfl ?_
      refine r_bipush ok (nI 6) dX3_owners_5 (by rfl) ?_
      refine r_icmp_geN ok 34 (by omega) (by omega) dX3_owners_7 (by decide) (fun c7_3 => ?_) (fun c7_3 => ?_)
      · skip
        exact absurd c7_3 (by omega)
      · skip
        refine r_aload_n ok dX3_owners_10 0 rfl rfl ?_
        refine r_getf ok ci_X3 fl_X3_11 (by decide) dX3_owners_11 pc_o rfl ?_
        refine r_iload_n ok dX3_owners_14 2 rfl rfl ?_
        refine r_aaldN ok 3 (Or.inl rfl) (h + 2 + k) (by omega) (by omega) dX3_owners_15 pc_c (zRef6_at (by omega)) ?_
        refine r_cSN1 ok [] mi_X5_sumOf mn_X3_31 sm_X5_sumOf dX3_owners_16 (c_X5_sumOf K.2.1 G (pcM G M h cn vl du io) N 8 (cn k) ((h + 2 + k)) (pc_r (by omega)) (by omega)) rfl rfl ⟨Nat.le_of_ble_eq_true rfl, Nat.le_of_ble_eq_true rfl⟩ (Nat.le_of_ble_eq_true rfl) ⟨Nat.zero_le _, Nat.zero_le _⟩ ?_
        refine r_if_le ok 28 dX3_owners_19 (by decide) (fun c19_4 => ?_) (fun c19_4 => ?_)
        · skip
          refine r_iincN ok (c := 1) [(2, .int (nI (k + 1))), (0, .ref h), (1, .int (zOwC cn k))] dX3_owners_28 2 rfl (by rfl) (by decide) rfl ?_
          refine r_goto ok 4 dX3_owners_31 (by decide) ?_
          have q5 : Value.int (zOwC cn k) = Value.int (zOwC cn (k + 1)) := by first | with_reducible rfl | (simp [zOwC, nI_one, *])
          refine zW.forget (lv' := [(0, .ref h), (1, .int (zOwC cn k)), (2, .int (nI (k + 1)))]) ?_ [1, 2, 0] rfl
          refine zW.to (lv' := [(0, .ref h), (1, .int (zOwC cn (k + 1))), (2, .int (nI (k + 1)))]) ?_ rfl (congrArg (fun z => ([(0, .ref h), (1, z), (2, .int (nI (k + 1)))] : List (Nat × Value))) q5) rfl
          exact ihL1 (k + 1) (by omega)
        · skip
          refine r_iload_n ok dX3_owners_22 1 rfl rfl ?_
          refine r_iconst ok (nI 1) dX3_owners_23 (by rfl) ?_
          refine r_iload_n ok dX3_owners_24 2 rfl rfl ?_
          refine r_ishl ok dX3_owners_25 ?_
          refine r_ior ok dX3_owners_26 ?_
          refine r_istore_n ok [(1, .int ((zOwC cn k) ||| ((nI 1) <<< ((nI (k)) &&& 31)))), (0, .ref h), (2, .int (nI (k)))] dX3_owners_27 rfl (by decide) rfl ?_
          refine r_iincN ok (c := 1) [(2, .int (nI (k + 1))), (1, .int ((zOwC cn k) ||| ((nI 1) <<< ((nI (k)) &&& 31)))), (0, .ref h)] dX3_owners_28 2 rfl (by rfl) (by decide) rfl ?_
          refine r_goto ok 4 dX3_owners_31 (by decide) ?_
          have q6 : Value.int ((zOwC cn k) ||| ((nI 1) <<< ((nI (k)) &&& 31))) = Value.int (zOwC cn (k + 1)) := by first | with_reducible rfl | (simp [zOwC, nI_one, *])
          refine zW.forget (lv' := [(0, .ref h), (1, .int ((zOwC cn k) ||| ((nI 1) <<< ((nI (k)) &&& 31)))), (2, .int (nI (k + 1)))]) ?_ [2, 1, 0] rfl
          refine zW.to (lv' := [(0, .ref h), (1, .int (zOwC cn (k + 1))), (2, .int (nI (k + 1)))]) ?_ rfl (congrArg (fun z => ([(0, .ref h), (1, z), (2, .int (nI (k + 1)))] : List (Nat × Value))) q6) rfl
          exact ihL1 (k + 1) (by omega)
  have q7 : Value.int (nI 0) = Value.int (zOwC cn 0) := by first | with_reducible rfl | (rfl)
  refine zW.forget (lv' := [(0, .ref h), (1, .int (nI 0)), (2, .int (nI 0))]) ?_ [2, 1, 0] rfl
  refine zW.to (lv' := [(0, .ref h), (1, .int (zOwC cn 0)), (2, .int (nI 0))]) ?_ rfl (congrArg (fun z => ([(0, .ref h), (1, z), (2, .int (nI 0))] : List (Nat × Value))) q7) rfl
  exact L1 6 0 (by omega)
set_option maxHeartbeats 4000000 in
set_option maxRecDepth 100000 in
theorem c_X3_copyFrom (l : Launch) (G : zG) (M : zM) (N : Nat) (h : Nat) (cn : Nat → Nat → Int32) (vl : Int32) (du : Int32) (io : Bool) (cn2 : Nat → Nat → Int32) (vl2 : Int32) (du2 : Int32) (io2 : Bool) (q2 : Nat) (hq2 : M q2 = some (zO 3 [.ref (q2 + 1), .int vl2, .int du2, .int (zb io2)])) (hq3 : M (q2 + 1) = some (zR (G.2.1 3) 6 (zRef6 (q2 + 2)))) (hq4 : ∀ i, i < 6 → M (q2 + 2 + i) = some (zI (G.2.1 0) 8 (cn2 i))) (hdj : q2 + 8 ≤ h ∨ h + 8 ≤ q2) : zC l G yX3_copyFrom cX3_copyFrom 2 (none) 3 91 0 0 [.ref h, .ref q2] (pcM G M h cn vl du io) N (zP none (pcM G M h (zTab cn cn2 6) vl2 du2 io2)) := by
  refine zC.of (by decide +kernel) (Nat.le_of_ble_eq_true rfl) ?_
  intro K hKl ok
  subst hKl
  show zW K G 2 _ 0 0 _ N 0 [(0, .ref h), (1, .ref q2)] []
  refine r_aload_n ok dX3_copyFrom_0 1 rfl rfl ?_
  refine r_getf ok ci_X3 fl_X3_11 (by decide) dX3_copyFrom_1 ((pc_out (by omega)).trans hq2) rfl ?_
  refine r_aload_n ok dX3_copyFrom_4 0 rfl rfl ?_
  refine r_getf ok ci_X3 fl_X3_11 (by decide) dX3_copyFrom_5 pc_o rfl ?_
  refine r_cSN0 ok [] mi_X5_copyTable mn_X3_16 sm_X5_copyTable dX3_copyFrom_8 (c_X5_copyTable K.2.1 G (pcM G M h cn vl du io) N (q2 + 2) (h + 2) cn2 cn (q2 + 1) (h + 1) ((pc_out (by omega)).trans hq3) pc_c (fun i hi => ((pc_out (by omega)).trans (hq4 i hi))) (fun i hi => (pc_r hi)) (by omega) (by omega) (by omega)) rfl rfl ⟨Nat.le_of_ble_eq_true rfl, Nat.le_of_ble_eq_true rfl⟩ (Nat.le_of_ble_eq_true rfl) ⟨Nat.zero_le _, Nat.zero_le _⟩ ?_
  refine zW.to (M' := pcM G M h (zTab cn cn2 6) vl du io) ?_ (pc_tbt _) rfl rfl
  refine r_aload_n ok dX3_copyFrom_11 0 rfl rfl ?_
  refine r_aload_n ok dX3_copyFrom_12 1 rfl rfl ?_
  refine r_getf ok ci_X3 fl_X3_20 (by decide) dX3_copyFrom_13 ((pc_out (by omega)).trans hq2) rfl ?_
  refine r_putf ok ci_X3 fl_X3_20 (by decide) rfl rfl rfl dX3_copyFrom_16 pc_o rfl (pcw_o vl2 du io) ?_
  refine r_aload_n ok dX3_copyFrom_19 0 rfl rfl ?_
  refine r_aload_n ok dX3_copyFrom_20 1 rfl rfl ?_
  refine r_getf ok ci_X3 fl_X3_24 (by decide) dX3_copyFrom_21 ((pc_out (by omega)).trans hq2) rfl ?_
  refine r_putf ok ci_X3 fl_X3_24 (by decide) rfl rfl rfl dX3_copyFrom_24 pc_o rfl (pcw_o vl2 du2 io) ?_
  refine r_aload_n ok dX3_copyFrom_27 0 rfl rfl ?_
  refine r_aload_n ok dX3_copyFrom_28 1 rfl rfl ?_
  refine r_getf ok ci_X3 fl_X3_27 (by decide) dX3_copyFrom_29 ((pc_out (by omega)).trans hq2) rfl ?_
  refine r_putf ok ci_X3 fl_X3_27 (by decide) rfl (zb_n _) (zb_fit _) dX3_copyFrom_32 pc_o rfl (pcw_o vl2 du2 io2) ?_
  exact r_vret ok dX3_copyFrom_35 rfl ⟨rfl, rfl⟩
set_option maxHeartbeats 4000000 in
set_option maxRecDepth 100000 in
theorem c_X1_addRow (l : Launch) (G : zG) (M : zM) (N : Nat) (d : Nat) (og : Nat → Int32) (pr : Nat → Int32) (pc : Int32) (vl : Int32) (po : Int32) (pt : Nat → Int32) (sr : Nat → Int32) (f : Nat → Int32) (x : Nat) (hx : M x = some (zI (G.2.1 0) 8 f)) (hxd : x < d ∨ d + 6 ≤ x) : zC l G yX1_addRow cX1_addRow 3 (none) 0 0 0 0 [.ref d, .ref x] (odM G M d og pr pc vl po pt sr) N (zP none (odM G M d (zC0 og (zAdd og f) 8) pr pc vl po pt sr)) := by
  refine zC.of (by decide +kernel) (Nat.le_of_ble_eq_true rfl) ?_
  intro K hKl ok
  subst hKl
  show zW K G 3 _ 0 0 _ N 0 [(0, .ref d), (1, .ref x)] []
  refine r_iconst ok (nI 0) dX1_addRow_0 (by rfl) ?_
  refine r_istore_n ok [(2, .int (nI 0)), (0, .ref d), (1, .ref x)] dX1_addRow_1 rfl (by decide) rfl ?_
  have L1 : ∀ (nL1 : Nat) (k : Nat), ((k + nL1 = 8)) → zW K G 3 (zQ K G (N + 0) 0 0 (zP none (odM G M d (zC0 og (zAdd og f) 8) pr pc vl po pt sr))) 0 0 (odM G M d (zC0 og (zAdd og f) k) pr pc vl po pt sr) N 2 [(0, .ref d), (1, .ref x), (2, .int (nI (k)))] [] := by
    intro nL1
    induction nL1 with
    | zero =>
      intro k hk_k 
      obtain rfl : 8 = k := by omega
      refine r_iload_n ok dX1_addRow_2 2 rfl rfl ?_
      refine r_bipush ok (nI 8) dX1_addRow_3 (by rfl) ?_
      refine r_icmp_geN ok 26 (by omega) (by omega) dX1_addRow_5 (by decide) (fun _ => ?_) (fun c => absurd c (by decide))
      exact r_vret ok dX1_addRow_26 rfl ⟨rfl, rfl⟩
    | succ nL1 ihL1 =>
      intro k hk_k 
      refine r_iload_n ok dX1_addRow_2 2 rfl rfl ?_
      refine r_bipush ok (nI 8) dX1_addRow_3 (by rfl) ?_
      refine r_icmp_geN ok 26 (by omega) (by omega) dX1_addRow_5 (by decide) (fun c5_3 => ?_) (fun c5_3 => ?_)
      · skip
        exact absurd c5_3 (by omega)
      · skip
        refine r_aload_n ok dX1_addRow_8 0 rfl rfl ?_
        refine r_getf ok ci_X1 fl_X1_9 (by decide) dX1_addRow_9 od_o rfl ?_
        refine r_iload_n ok dX1_addRow_12 2 rfl rfl ?_
        refine r_dup2 ok dX1_addRow_13 rfl rfl ?_
        refine r_ialdN ok (by omega) (by omega) dX1_addRow_14 od_g ?_
        refine r_aload_n ok dX1_addRow_15 1 rfl rfl ?_
        refine r_iload_n ok dX1_addRow_16 2 rfl rfl ?_
        refine r_ialdN ok (by omega) (by omega) dX1_addRow_17 ((od_out (by omega)).trans hx) ?_
        refine r_iadd ok dX1_addRow_18 ?_
        refine r_iastN ok (by omega) (by omega) dX1_addRow_19 od_g (odw_g _) ?_
        refine r_iincN ok (c := 1) [(2, .int (nI (k + 1))), (0, .ref d), (1, .ref x)] dX1_addRow_20 2 rfl (by rfl) (by decide) rfl ?_
        refine r_goto ok 2 dX1_addRow_23 (by decide) ?_
        have q4 : (upd (zC0 og (zAdd og f) k) k (((zC0 og (zAdd og f) k) k) + (f k)) : Nat → Int32) = zC0 og (zAdd og f) (k + 1) := by first | with_reducible rfl | (exact zC0_addF _ _ _)
        refine zW.forget (lv' := [(0, .ref d), (1, .ref x), (2, .int (nI (k + 1)))]) ?_ [1, 2, 0] rfl
        refine zW.to ?_ (congrArg (fun z => odM G M d z pr pc vl po pt sr) q4) rfl rfl
        exact ihL1 (k + 1) (by omega)
  have q5 : (og : Nat → Int32) = zC0 og (zAdd og f) 0 := by first | with_reducible rfl | (exact (zC0_0 _ _).symm)
  refine zW.forget (lv' := [(0, .ref d), (1, .ref x), (2, .int (nI 0))]) ?_ [1, 2, 0] rfl
  refine zW.to ?_ (congrArg (fun z => odM G M d z pr pc vl po pt sr) q5) rfl rfl
  exact L1 8 0 (by omega)
set_option maxHeartbeats 4000000 in
set_option maxRecDepth 100000 in
theorem c_X1_reckon (l : Launch) (G : zG) (M : zM) (N : Nat) (d : Nat) (og : Nat → Int32) (pr : Nat → Int32) (pc : Int32) (vl : Int32) (po : Int32) (pt : Nat → Int32) (sr : Nat → Int32) (f : Nat → Int32) (x : Nat) (hx : M x = some (zI (G.2.1 0) 9 f)) (hxd : x < d ∨ d + 6 ≤ x) : zC l G yX1_reckon cX1_reckon 5 (none) 1 20 0 0 [.ref d, .ref x] (odM G M d og pr pc vl po pt sr) N (zP none (odM G M d og (zC0 pr (zPrT f og) 8) (lsum og 8) (lsum (zOvT f og) 8) (zOpo f og) pt sr)) := by
  refine zC.of (by decide +kernel) (Nat.le_of_ble_eq_true rfl) ?_
  intro K hKl ok
  subst hKl
  show zW K G 5 _ 0 0 _ N 0 [(0, .ref d), (1, .ref x)] []
  refine r_aload_n ok dX1_reckon_0 0 rfl rfl ?_
  refine r_iconst ok (nI 0) dX1_reckon_1 (by rfl) ?_
  refine r_putf ok ci_X1 fl_X1_51 (by decide) rfl rfl rfl dX1_reckon_2 od_o rfl (odw_o (nI 0) vl po) ?_
  refine r_aload_n ok dX1_reckon_5 0 rfl rfl ?_
  refine r_iconst ok (nI 0) dX1_reckon_6 (by rfl) ?_
  refine r_putf ok ci_X1 fl_X1_55 (by decide) rfl rfl rfl dX1_reckon_7 od_o rfl (odw_o (nI 0) (nI 0) po) ?_
  refine r_iconst ok (nI 0) dX1_reckon_10 (by rfl) ?_
  refine r_istore_n ok [(2, .int (nI 0)), (0, .ref d), (1, .ref x)] dX1_reckon_11 rfl (by decide) rfl ?_
  refine r_iconst ok (nI 0) dX1_reckon_12 (by rfl) ?_
  refine r_istore_n ok [(3, .int (nI 0)), (2, .int (nI 0)), (0, .ref d), (1, .ref x)] dX1_reckon_13 rfl (by decide) rfl ?_
  have L1 : ∀ (nL1 : Nat) (k : Nat), ((k + nL1 = 8)) → zW K G 5 (zQ K G (N + 0) 0 0 (zP none (odM G M d og (zC0 pr (zPrT f og) 8) (lsum og 8) (lsum (zOvT f og) 8) (zOpo f og) pt sr))) 0 0 (odM G M d og (zC0 pr (zPrT f og) k) (lsum og k) (lsum (zOvT f og) k) po pt sr) N 14 [(0, .ref d), (1, .ref x), (2, .int (lsum (zOw og) k)), (3, .int (nI (k)))] [] := by
    intro nL1
    induction nL1 with
    | zero =>
      intro k hk_k 
      obtain rfl : 8 = k := by omega
      refine r_iload_n ok dX1_reckon_14 3 rfl rfl ?_
      refine r_bipush ok (nI 8) dX1_reckon_15 (by rfl) ?_
      refine r_icmp_geN ok 113 (by omega) (by omega) dX1_reckon_17 (by decide) (fun _ => ?_) (fun c => absurd c (by decide))
      refine r_aload_n ok dX1_reckon_113 0 rfl rfl ?_
      refine r_aload_n ok dX1_reckon_114 0 rfl rfl ?_
      refine r_getf ok ci_X1 fl_X1_51 (by decide) dX1_reckon_115 od_o rfl ?_
      refine r_if_ne ok 125 dX1_reckon_118 (by decide) (fun c118_3 => ?_) (fun c118_3 => ?_)
      · skip
        refine r_aload_n ok dX1_reckon_125 1 rfl rfl ?_
        refine r_iconst ok (nI 1) dX1_reckon_126 (by rfl) ?_
        refine r_ialdN ok (by omega) (by omega) dX1_reckon_127 ((od_out (by omega)).trans hx) ?_
        refine r_aload_n ok dX1_reckon_128 1 rfl rfl ?_
        refine r_iconst ok (nI 2) dX1_reckon_129 (by rfl) ?_
        refine r_ialdN ok (by omega) (by omega) dX1_reckon_130 ((od_out (by omega)).trans hx) ?_
        refine r_iload_n ok dX1_reckon_131 2 rfl rfl ?_
        refine r_imul ok dX1_reckon_132 ?_
        refine r_iadd ok dX1_reckon_133 ?_
        refine r_putf ok ci_X1 fl_X1_65 (by decide) rfl rfl rfl dX1_reckon_134 od_o rfl (odw_o (lsum og 8) (lsum (zOvT f og) 8) ((f 1) + ((f 2) * (lsum (zOw og) 8)))) ?_
        exact r_vret ok dX1_reckon_137 rfl ⟨rfl, (by simp [zOpo, *])⟩
      · skip
        refine r_iconst ok (nI 0) dX1_reckon_121 (by rfl) ?_
        refine r_goto ok 134 dX1_reckon_122 (by decide) ?_
        refine r_putf ok ci_X1 fl_X1_65 (by decide) rfl rfl rfl dX1_reckon_134 od_o rfl (odw_o (lsum og 8) (lsum (zOvT f og) 8) (nI 0)) ?_
        exact r_vret ok dX1_reckon_137 rfl ⟨rfl, (by simp [zOpo, *])⟩
    | succ nL1 ihL1 =>
      intro k hk_k 
      refine r_iload_n ok dX1_reckon_14 3 rfl rfl ?_
      refine r_bipush ok (nI 8) dX1_reckon_15 (by rfl) ?_
      refine r_icmp_geN ok 113 (by omega) (by omega) dX1_reckon_17 (by decide) (fun c17_4 => ?_) (fun c17_4 => ?_)
      · skip
        exact absurd c17_4 (by omega)
      · skip
        refine r_iload_n ok dX1_reckon_20 3 rfl rfl ?_
        refine r_cSN1 ok [] mi_X5_priceOf mn_X1_58 sm_X5_priceOf dX1_reckon_21 (c_X5_priceOf K.2.1 G (odM G M d og (zC0 pr (zPrT f og) k) (lsum og k) (lsum (zOvT f og) k) po pt sr) N  k ) rfl rfl ⟨Nat.le_of_ble_eq_true rfl, Nat.le_of_ble_eq_true rfl⟩ (Nat.le_of_ble_eq_true rfl) ⟨Nat.zero_le _, Nat.zero_le _⟩ ?_
        refine r_istore ok [(4, .int (nI (10 + 5 * k))), (0, .ref d), (1, .ref x), (2, .int (lsum (zOw og) k)), (3, .int (nI (k)))] dX1_reckon_24 (by decide) rfl ?_
        refine r_aload_n ok dX1_reckon_26 1 rfl rfl ?_
        refine r_getf ok ci_X1 fl_X1_15 (by decide) dX1_reckon_27 od_o rfl ?_
        refine r_iload_n ok dX1_reckon_30 4 rfl rfl ?_
        refine r_aload_n ok dX1_reckon_31 1 rfl rfl ?_
        refine r_getf ok ci_X1 fl_X1_9 (by decide) dX1_reckon_32 od_o rfl ?_
        refine r_iload_n ok dX1_reckon_35 4 rfl rfl ?_
        refine r_ialdN ok (by omega) (by omega) dX1_reckon_36 od_g ?_
        refine r_aload_n ok dX1_reckon_37 2 rfl rfl ?_
        refine r_iconst ok (nI 0) dX1_reckon_38 (by rfl) ?_
        refine r_ialdN ok (by omega) (by omega) dX1_reckon_39 ((od_out (by omega)).trans hx) ?_
        refine r_icmp_lt ok 53 dX1_reckon_40 (by decide) (fun c40_5 => ?_) (fun c40_5 => ?_)
        · skip
          refine r_iload ok dX1_reckon_53 0 rfl ?_
          refine r_iastN ok (by omega) (by omega) dX1_reckon_55 od_p (odw_p _) ?_
          refine r_aload_n ok dX1_reckon_56 1 rfl rfl ?_
          refine r_dup ok dX1_reckon_57 rfl ?_
          refine r_getf ok ci_X1 fl_X1_51 (by decide) dX1_reckon_58 od_o rfl ?_
          refine r_aload_n ok dX1_reckon_61 1 rfl rfl ?_
          refine r_getf ok ci_X1 fl_X1_9 (by decide) dX1_reckon_62 od_o rfl ?_
          refine r_iload_n ok dX1_reckon_65 4 rfl rfl ?_
          refine r_ialdN ok (by omega) (by omega) dX1_reckon_66 od_g ?_
          refine r_iadd ok dX1_reckon_67 ?_
          refine r_putf ok ci_X1 fl_X1_51 (by decide) rfl rfl rfl dX1_reckon_68 od_o rfl (odw_o ((lsum og k) + (og k)) (lsum (zOvT f og) k) po) ?_
          refine r_aload_n ok dX1_reckon_71 1 rfl rfl ?_
          refine r_dup ok dX1_reckon_72 rfl ?_
          refine r_getf ok ci_X1 fl_X1_55 (by decide) dX1_reckon_73 od_o rfl ?_
          refine r_aload_n ok dX1_reckon_76 1 rfl rfl ?_
          refine r_getf ok ci_X1 fl_X1_9 (by decide) dX1_reckon_77 od_o rfl ?_
          refine r_iload_n ok dX1_reckon_80 4 rfl rfl ?_
          refine r_ialdN ok (by omega) (by omega) dX1_reckon_81 od_g ?_
          refine r_aload_n ok dX1_reckon_82 1 rfl rfl ?_
          refine r_getf ok ci_X1 fl_X1_15 (by decide) dX1_reckon_83 od_o rfl ?_
          refine r_iload_n ok dX1_reckon_86 4 rfl rfl ?_
          refine r_ialdN ok (by omega) (by omega) dX1_reckon_87 od_p ?_
          refine zW.to (st' := [.int (nI (10 + 5 * k)), .int (og k), .int (lsum (zOvT f og) k), .ref d]) ?_ rfl rfl (congrArg (fun z => (Value.int z :: [.int (og k), .int (lsum (zOvT f og) k), .ref d] : List Value)) (show (upd (zC0 pr (zPrT f og) k) k (nI (10 + 5 * k))) k = nI (10 + 5 * k) from pk_us))
          refine r_imul ok dX1_reckon_88 ?_
          refine r_iadd ok dX1_reckon_89 ?_
          refine r_putf ok ci_X1 fl_X1_55 (by decide) rfl rfl rfl dX1_reckon_90 od_o rfl (odw_o ((lsum og k) + (og k)) ((lsum (zOvT f og) k) + ((og k) * (nI (10 + 5 * k)))) po) ?_
          refine r_iload_n ok dX1_reckon_93 3 rfl rfl ?_
          refine r_aload_n ok dX1_reckon_94 1 rfl rfl ?_
          refine r_getf ok ci_X1 fl_X1_9 (by decide) dX1_reckon_95 od_o rfl ?_
          refine r_iload_n ok dX1_reckon_98 4 rfl rfl ?_
          refine r_ialdN ok (by omega) (by omega) dX1_reckon_99 od_g ?_
          refine r_iload_n ok dX1_reckon_100 4 rfl rfl ?_
          refine r_cSN1 ok [.int (og k), .int (lsum (zOw og) k)] mi_X5_weightOf mn_X1_62 sm_X5_weightOf dX1_reckon_101 (c_X5_weightOf K.2.1 G (odM G M d og (upd (zC0 pr (zPrT f og) k) k (nI (10 + 5 * k))) ((lsum og k) + (og k)) ((lsum (zOvT f og) k) + ((og k) * (nI (10 + 5 * k)))) po pt sr) N  k ) rfl rfl ⟨Nat.le_of_ble_eq_true rfl, Nat.le_of_ble_eq_true rfl⟩ (Nat.le_of_ble_eq_true rfl) ⟨Nat.zero_le _, Nat.zero_le _⟩ ?_
          refine r_imul ok dX1_reckon_104 ?_
          refine r_iadd ok dX1_reckon_105 ?_
          refine r_istore_n ok [(2, .int ((lsum (zOw og) k) + ((og k) * (nI (1 + k))))), (4, .int (nI (10 + 5 * k))), (0, .ref d), (1, .ref x), (3, .int (nI (k)))] dX1_reckon_106 rfl (by decide) rfl ?_
          refine r_iincN ok (c := 1) [(3, .int (nI (k + 1))), (2, .int ((lsum (zOw og) k) + ((og k) * (nI (1 + k))))), (4, .int (nI (10 + 5 * k))), (0, .ref d), (1, .ref x)] dX1_reckon_107 4 rfl (by rfl) (by decide) rfl ?_
          refine r_goto ok 14 dX1_reckon_110 (by decide) ?_
          have q6 : Value.int ((lsum (zOw og) k) + ((og k) * (nI (1 + k)))) = Value.int (lsum (zOw og) (k + 1)) := by first | with_reducible rfl | (first | (rw [← zC0_s]; simp [zPrT, *]; done) | simp [lsum_s, zOw, zOvT, zPrT, *])
          have q7 : (upd (zC0 pr (zPrT f og) k) k (nI (10 + 5 * k)) : Nat → Int32) = zC0 pr (zPrT f og) (k + 1) := by first | with_reducible rfl | (first | (rw [← zC0_s]; simp [zPrT, *]; done) | simp [lsum_s, zOw, zOvT, zPrT, *])
          have q8 : ((lsum og k) + (og k) : Int32) = lsum og (k + 1) := by first | with_reducible rfl | (first | (rw [← zC0_s]; simp [zPrT, *]; done) | simp [lsum_s, zOw, zOvT, zPrT, *])
          have q9 : ((lsum (zOvT f og) k) + ((og k) * (nI (10 + 5 * k))) : Int32) = lsum (zOvT f og) (k + 1) := by first | with_reducible rfl | (first | (rw [← zC0_s]; simp [zPrT, *]; done) | simp [lsum_s, zOw, zOvT, zPrT, *])
          refine zW.forget (lv' := [(0, .ref d), (1, .ref x), (2, .int ((lsum (zOw og) k) + ((og k) * (nI (1 + k))))), (3, .int (nI (k + 1)))]) ?_ [3, 4, 1, 0] rfl
          refine zW.to (lv' := [(0, .ref d), (1, .ref x), (2, .int (lsum (zOw og) (k + 1))), (3, .int (nI (k + 1)))]) ?_ rfl (congrArg (fun z => ([(0, .ref d), (1, .ref x), (2, z), (3, .int (nI (k + 1)))] : List (Nat × Value))) q6) rfl
          refine zW.to ?_ (congrArg (fun z => odM G M d og z ((lsum og k) + (og k)) ((lsum (zOvT f og) k) + ((og k) * (nI (10 + 5 * k)))) po pt sr) q7) rfl rfl
          refine zW.to ?_ (congrArg (fun z => odM G M d og (zC0 pr (zPrT f og) (k + 1)) z ((lsum (zOvT f og) k) + ((og k) * (nI (10 + 5 * k)))) po pt sr) q8) rfl rfl
          refine zW.to ?_ (congrArg (fun z => odM G M d og (zC0 pr (zPrT f og) (k + 1)) (lsum og (k + 1)) z po pt sr) q9) rfl rfl
          exact ihL1 (k + 1) (by omega)
        · skip
          refine r_iload ok dX1_reckon_43 0 rfl ?_
          refine r_iload ok dX1_reckon_45 0 rfl ?_
          refine r_iconst ok (nI 5) dX1_reckon_47 (by rfl) ?_
          refine r_idivN ok (by omega) (by omega) (by omega) dX1_reckon_48 ?_
          refine r_isub ok dX1_reckon_49 ?_
          refine r_goto ok 55 dX1_reckon_50 (by decide) ?_
          refine r_iastN ok (by omega) (by omega) dX1_reckon_55 od_p (odw_p _) ?_
          refine r_aload_n ok dX1_reckon_56 1 rfl rfl ?_
          refine r_dup ok dX1_reckon_57 rfl ?_
          refine r_getf ok ci_X1 fl_X1_51 (by decide) dX1_reckon_58 od_o rfl ?_
          refine r_aload_n ok dX1_reckon_61 1 rfl rfl ?_
          refine r_getf ok ci_X1 fl_X1_9 (by decide) dX1_reckon_62 od_o rfl ?_
          refine r_iload_n ok dX1_reckon_65 4 rfl rfl ?_
          refine r_ialdN ok (by omega) (by omega) dX1_reckon_66 od_g ?_
          refine r_iadd ok dX1_reckon_67 ?_
          refine r_putf ok ci_X1 fl_X1_51 (by decide) rfl rfl rfl dX1_reckon_68 od_o rfl (odw_o ((lsum og k) + (og k)) (lsum (zOvT f og) k) po) ?_
          refine r_aload_n ok dX1_reckon_71 1 rfl rfl ?_
          refine r_dup ok dX1_reckon_72 rfl ?_
          refine r_getf ok ci_X1 fl_X1_55 (by decide) dX1_reckon_73 od_o rfl ?_
          refine r_aload_n ok dX1_reckon_76 1 rfl rfl ?_
          refine r_getf ok ci_X1 fl_X1_9 (by decide) dX1_reckon_77 od_o rfl ?_
          refine r_iload_n ok dX1_reckon_80 4 rfl rfl ?_
          refine r_ialdN ok (by omega) (by omega) dX1_reckon_81 od_g ?_
          refine r_aload_n ok dX1_reckon_82 1 rfl rfl ?_
          refine r_getf ok ci_X1 fl_X1_15 (by decide) dX1_reckon_83 od_o rfl ?_
          refine r_iload_n ok dX1_reckon_86 4 rfl rfl ?_
          refine r_ialdN ok (by omega) (by omega) dX1_reckon_87 od_p ?_
          refine zW.to (st' := [.int ((nI (10 + 5 * k)) - (nI ((10 + 5 * k) / 5))), .int (og k), .int (lsum (zOvT f og) k), .ref d]) ?_ rfl rfl (congrArg (fun z => (Value.int z :: [.int (og k), .int (lsum (zOvT f og) k), .ref d] : List Value)) (show (upd (zC0 pr (zPrT f og) k) k ((nI (10 + 5 * k)) - (nI ((10 + 5 * k) / 5)))) k = (nI (10 + 5 * k)) - (nI ((10 + 5 * k) / 5)) from pk_us))
          refine r_imul ok dX1_reckon_88 ?_
          refine r_iadd ok dX1_reckon_89 ?_
          refine r_putf ok ci_X1 fl_X1_55 (by decide) rfl rfl rfl dX1_reckon_90 od_o rfl (odw_o ((lsum og k) + (og k)) ((lsum (zOvT f og) k) + ((og k) * ((nI (10 + 5 * k)) - (nI ((10 + 5 * k) / 5))))) po) ?_
          refine r_iload_n ok dX1_reckon_93 3 rfl rfl ?_
          refine r_aload_n ok dX1_reckon_94 1 rfl rfl ?_
          refine r_getf ok ci_X1 fl_X1_9 (by decide) dX1_reckon_95 od_o rfl ?_
          refine r_iload_n ok dX1_reckon_98 4 rfl rfl ?_
          refine r_ialdN ok (by omega) (by omega) dX1_reckon_99 od_g ?_
          refine r_iload_n ok dX1_reckon_100 4 rfl rfl ?_
          refine r_cSN1 ok [.int (og k), .int (lsum (zOw og) k)] mi_X5_weightOf mn_X1_62 sm_X5_weightOf dX1_reckon_101 (c_X5_weightOf K.2.1 G (odM G M d og (upd (zC0 pr (zPrT f og) k) k ((nI (10 + 5 * k)) - (nI ((10 + 5 * k) / 5)))) ((lsum og k) + (og k)) ((lsum (zOvT f og) k) + ((og k) * ((nI (10 + 5 * k)) - (nI ((10 + 5 * k) / 5))))) po pt sr) N  k ) rfl rfl ⟨Nat.le_of_ble_eq_true rfl, Nat.le_of_ble_eq_true rfl⟩ (Nat.le_of_ble_eq_true rfl) ⟨Nat.zero_le _, Nat.zero_le _⟩ ?_
          refine r_imul ok dX1_reckon_104 ?_
          refine r_iadd ok dX1_reckon_105 ?_
          refine r_istore_n ok [(2, .int ((lsum (zOw og) k) + ((og k) * (nI (1 + k))))), (4, .int (nI (10 + 5 * k))), (0, .ref d), (1, .ref x), (3, .int (nI (k)))] dX1_reckon_106 rfl (by decide) rfl ?_
          refine r_iincN ok (c := 1) [(3, .int (nI (k + 1))), (2, .int ((lsum (zOw og) k) + ((og k) * (nI (1 + k))))), (4, .int (nI (10 + 5 * k))), (0, .ref d), (1, .ref x)] dX1_reckon_107 4 rfl (by rfl) (by decide) rfl ?_
          refine r_goto ok 14 dX1_reckon_110 (by decide) ?_
          have q10 : Value.int ((lsum (zOw og) k) + ((og k) * (nI (1 + k)))) = Value.int (lsum (zOw og) (k + 1)) := by first | with_reducible rfl | (first | (rw [← zC0_s]; simp [zPrT, *]; done) | simp [lsum_s, zOw, zOvT, zPrT, *])
          have q11 : (upd (zC0 pr (zPrT f og) k) k ((nI (10 + 5 * k)) - (nI ((10 + 5 * k) / 5))) : Nat → Int32) = zC0 pr (zPrT f og) (k + 1) := by first | with_reducible rfl | (first | (rw [← zC0_s]; simp [zPrT, *]; done) | simp [lsum_s, zOw, zOvT, zPrT, *])
          have q12 : ((lsum og k) + (og k) : Int32) = lsum og (k + 1) := by first | with_reducible rfl | (first | (rw [← zC0_s]; simp [zPrT, *]; done) | simp [lsum_s, zOw, zOvT, zPrT, *])
          have q13 : ((lsum (zOvT f og) k) + ((og k) * ((nI (10 + 5 * k)) - (nI ((10 + 5 * k) / 5)))) : Int32) = lsum (zOvT f og) (k + 1) := by first | with_reducible rfl | (first | (rw [← zC0_s]; simp [zPrT, *]; done) | simp [lsum_s, zOw, zOvT, zPrT, *])
          refine zW.forget (lv' := [(0, .ref d), (1, .ref x), (2, .int ((lsum (zOw og) k) + ((og k) * (nI (1 + k))))), (3, .int (nI (k + 1)))]) ?_ [3, 4, 1, 0] rfl
          refine zW.to (lv' := [(0, .ref d), (1, .ref x), (2, .int (lsum (zOw og) (k + 1))), (3, .int (nI (k + 1)))]) ?_ rfl (congrArg (fun z => ([(0, .ref d), (1, .ref x), (2, z), (3, .int (nI (k + 1)))] : List (Nat × Value))) q10) rfl
          refine zW.to ?_ (congrArg (fun z => odM G M d og z ((lsum og k) + (og k)) ((lsum (zOvT f og) k) + ((og k) * ((nI (10 + 5 * k)) - (nI ((10 + 5 * k) / 5))))) po pt sr) q11) rfl rfl
          refine zW.to ?_ (congrArg (fun z => odM G M d og (zC0 pr (zPrT f og) (k + 1)) z ((lsum (zOvT f og) k) + ((og k) * ((nI (10 + 5 * k)) - (nI ((10 + 5 * k) / 5))))) po pt sr) q12) rfl rfl
          refine zW.to ?_ (congrArg (fun z => odM G M d og (zC0 pr (zPrT f og) (k + 1)) (lsum og (k + 1)) z po pt sr) q13) rfl rfl
          exact ihL1 (k + 1) (by omega)
  have q14 : Value.int (nI 0) = Value.int (lsum (zOw og) 0) := by first | with_reducible rfl | (first | rfl | exact (zC0_0 _ _).symm)
  have q15 : (pr : Nat → Int32) = zC0 pr (zPrT f og) 0 := by first | with_reducible rfl | (first | rfl | exact (zC0_0 _ _).symm)
  have q16 : (nI 0 : Int32) = lsum og 0 := by first | with_reducible rfl | (first | rfl | exact (zC0_0 _ _).symm)
  have q17 : (nI 0 : Int32) = lsum (zOvT f og) 0 := by first | with_reducible rfl | (first | rfl | exact (zC0_0 _ _).symm)
  refine zW.forget (lv' := [(0, .ref d), (1, .ref x), (2, .int (nI 0)), (3, .int (nI 0))]) ?_ [2, 3, 1, 0] rfl
  refine zW.to (lv' := [(0, .ref d), (1, .ref x), (2, .int (lsum (zOw og) 0)), (3, .int (nI 0))]) ?_ rfl (congrArg (fun z => ([(0, .ref d), (1, .ref x), (2, z), (3, .int (nI 0))] : List (Nat × Value))) q14) rfl
  refine zW.to ?_ (congrArg (fun z => odM G M d og z (nI 0) (nI 0) po pt sr) q15) rfl rfl
  refine zW.to ?_ (congrArg (fun z => odM G M d og (zC0 pr (zPrT f og) 0) z (nI 0) po pt sr) q16) rfl rfl
  refine zW.to ?_ (congrArg (fun z => odM G M d og (zC0 pr (zPrT f og) 0) (lsum og 0) z po pt sr) q17) rfl rfl
  exact L1 8 0 (by omega)
set_option maxHeartbeats 4000000 in
set_option maxRecDepth 100000 in
theorem c_X1_cost (l : Launch) (G : zG) (M : zM) (N : Nat) (d : Nat) (og : Nat → Int32) (pr : Nat → Int32) (pc : Int32) (vl : Int32) (po : Int32) (pt : Nat → Int32) (sr : Nat → Int32)    : zC l G yX1_cost cX1_cost 1 (some .int) 0 0 0 0 [.ref d] (odM G M d og pr pc vl po pt sr) N (zP (some (.int (vl + po))) (odM G M d og pr pc vl po pt sr)) := by
  refine zC.of (by decide +kernel) (Nat.le_of_ble_eq_true rfl) ?_
  intro K hKl ok
  subst hKl
  show zW K G 1 _ 0 0 _ N 0 [(0, .ref d)] []
  refine r_aload_n ok dX1_cost_0 0 rfl rfl ?_
  refine r_getf ok ci_X1 fl_X1_55 (by decide) dX1_cost_1 od_o rfl ?_
  refine r_aload_n ok dX1_cost_4 0 rfl rfl ?_
  refine r_getf ok ci_X1 fl_X1_65 (by decide) dX1_cost_5 od_o rfl ?_
  refine r_iadd ok dX1_cost_8 ?_
  exact r_iret ok dX1_cost_9 rfl ⟨rfl, rfl⟩
set_option maxHeartbeats 4000000 in
set_option maxRecDepth 100000 in
theorem c_X1_ownCost (l : Launch) (G : zG) (M : zM) (N : Nat) (d : Nat) (og : Nat → Int32) (pr : Nat → Int32) (pc : Int32) (vl : Int32) (po : Int32) (pt : Nat → Int32) (sr : Nat → Int32) (f : Nat → Int32) (x : Nat) (hx : M x = some (zI (G.2.1 0) 8 f)) (hxd : x < d ∨ d + 6 ≤ x) : zC l G yX1_ownCost cX1_ownCost 4 (some .int) 0 0 0 0 [.ref d, .ref x] (odM G M d og pr pc vl po pt sr) N (zP (some (.int (lsum (zOcT f pr) 8))) (odM G M d og pr pc vl po pt sr)) := by
  refine zC.of (by decide +kernel) (Nat.le_of_ble_eq_true rfl) ?_
  intro K hKl ok
  subst hKl
  show zW K G 4 _ 0 0 _ N 0 [(0, .ref d), (1, .ref x)] []
  refine r_iconst ok (nI 0) dX1_ownCost_0 (by rfl) ?_
  refine r_istore_n ok [(2, .int (nI 0)), (0, .ref d), (1, .ref x)] dX1_ownCost_1 rfl (by decide) rfl ?_
  refine r_iconst ok (nI 0) dX1_ownCost_2 (by rfl) ?_
  refine r_istore_n ok [(3, .int (nI 0)), (2, .int (nI 0)), (0, .ref d), (1, .ref x)] dX1_ownCost_3 rfl (by decide) rfl ?_
  have L1 : ∀ (nL1 : Nat) (k : Nat), ((k + nL1 = 8)) → zW K G 4 (zQ K G (N + 0) 0 0 (zP (some (.int (lsum (zOcT f pr) 8))) (odM G M d og pr pc vl po pt sr))) 0 0 (odM G M d og pr pc vl po pt sr) N 4 [(0, .ref d), (1, .ref x), (2, .int (lsum (zOcT f pr) k)), (3, .int (nI (k)))] [] := by
    intro nL1
    induction nL1 with
    | zero =>
      intro k hk_k 
      obtain rfl : 8 = k := by omega
      refine r_iload_n ok dX1_ownCost_4 3 rfl rfl ?_
      refine r_bipush ok (nI 8) dX1_ownCost_5 (by rfl) ?_
      refine r_icmp_geN ok 29 (by omega) (by omega) dX1_ownCost_7 (by decide) (fun _ => ?_) (fun c => absurd c (by decide))
      refine r_iload_n ok dX1_ownCost_29 2 rfl rfl ?_
      exact r_iret ok dX1_ownCost_30 rfl ⟨rfl, rfl⟩
    | succ nL1 ihL1 =>
      intro k hk_k 
      refine r_iload_n ok dX1_ownCost_4 3 rfl rfl ?_
      refine r_bipush ok (nI 8) dX1_ownCost_5 (by rfl) ?_
      refine r_icmp_geN ok 29 (by omega) (by omega) dX1_ownCost_7 (by decide) (fun c7_3 => ?_) (fun c7_3 => ?_)
      · skip
        exact absurd c7_3 (by omega)
      · skip
        refine r_iload_n ok dX1_ownCost_10 2 rfl rfl ?_
        refine r_aload_n ok dX1_ownCost_11 1 rfl rfl ?_
        refine r_iload_n ok dX1_ownCost_12 3 rfl rfl ?_
        refine r_ialdN ok (by omega) (by omega) dX1_ownCost_13 ((od_out (by omega)).trans hx) ?_
        refine r_aload_n ok dX1_ownCost_14 0 rfl rfl ?_
        refine r_getf ok ci_X1 fl_X1_15 (by decide) dX1_ownCost_15 od_o rfl ?_
        refine r_iload_n ok dX1_ownCost_18 3 rfl rfl ?_
        refine r_ialdN ok (by omega) (by omega) dX1_ownCost_19 od_p ?_
        refine r_imul ok dX1_ownCost_20 ?_
        refine r_iadd ok dX1_ownCost_21 ?_
        refine r_istore_n ok [(2, .int ((lsum (zOcT f pr) k) + ((f k) * (pr k)))), (0, .ref d), (1, .ref x), (3, .int (nI (k)))] dX1_ownCost_22 rfl (by decide) rfl ?_
        refine r_iincN ok (c := 1) [(3, .int (nI (k + 1))), (2, .int ((lsum (zOcT f pr) k) + ((f k) * (pr k)))), (0, .ref d), (1, .ref x)] dX1_ownCost_23 3 rfl (by rfl) (by decide) rfl ?_
        refine r_goto ok 4 dX1_ownCost_26 (by decide) ?_
        have q4 : Value.int ((lsum (zOcT f pr) k) + ((f k) * (pr k))) = Value.int (lsum (zOcT f pr) (k + 1)) := by first | with_reducible rfl | (simp [lsum_s, zOcT])
        refine zW.forget (lv' := [(0, .ref d), (1, .ref x), (2, .int ((lsum (zOcT f pr) k) + ((f k) * (pr k)))), (3, .int (nI (k + 1)))]) ?_ [2, 3, 1, 0] rfl
        refine zW.to (lv' := [(0, .ref d), (1, .ref x), (2, .int (lsum (zOcT f pr) (k + 1))), (3, .int (nI (k + 1)))]) ?_ rfl (congrArg (fun z => ([(0, .ref d), (1, .ref x), (2, z), (3, .int (nI (k + 1)))] : List (Nat × Value))) q4) rfl
        exact ihL1 (k + 1) (by omega)
  have q5 : Value.int (nI 0) = Value.int (lsum (zOcT f pr) 0) := by first | with_reducible rfl | (rfl)
  refine zW.forget (lv' := [(0, .ref d), (1, .ref x), (2, .int (nI 0)), (3, .int (nI 0))]) ?_ [2, 3, 1, 0] rfl
  refine zW.to (lv' := [(0, .ref d), (1, .ref x), (2, .int (lsum (zOcT f pr) 0)), (3, .int (nI 0))]) ?_ rfl (congrArg (fun z => ([(0, .ref d), (1, .ref x), (2, z), (3, .int (nI 0))] : List (Nat × Value))) q5) rfl
  exact L1 8 0 (by omega)
set_option maxHeartbeats 4000000 in
set_option maxRecDepth 100000 in
theorem c_X1_weightOfAll (l : Launch) (G : zG) (M : zM) (N : Nat) (f : Nat → Int32) (x : Nat) (hx : M x = some (zI (G.2.1 0) 8 f)) : zC l G yX1_weightOfAll cX1_weightOfAll 3 (some .int) 1 20 0 0 [.ref x] (M) N (zP (some (.int (lsum (zWof f) 8))) (M)) := by
  refine zC.of (by decide +kernel) (Nat.le_of_ble_eq_true rfl) ?_
  intro K hKl ok
  subst hKl
  show zW K G 3 _ 0 0 _ N 0 [(0, .ref x)] []
  refine r_iconst ok (nI 0) dX1_weightOfAll_0 (by rfl) ?_
  refine r_istore_n ok [(1, .int (nI 0)), (0, .ref x)] dX1_weightOfAll_1 rfl (by decide) rfl ?_
  refine r_iconst ok (nI 0) dX1_weightOfAll_2 (by rfl) ?_
  refine r_istore_n ok [(2, .int (nI 0)), (1, .int (nI 0)), (0, .ref x)] dX1_weightOfAll_3 rfl (by decide) rfl ?_
  have L1 : ∀ (nL1 : Nat) (k : Nat), ((k + nL1 = 8)) → zW K G 3 (zQ K G (N + 0) 0 0 (zP (some (.int (lsum (zWof f) 8))) (M))) 0 0 (M) N 4 [(0, .ref x), (1, .int (lsum (zWof f) k)), (2, .int (nI (k)))] [] := by
    intro nL1
    induction nL1 with
    | zero =>
      intro k hk_k 
      obtain rfl : 8 = k := by omega
      refine r_iload_n ok dX1_weightOfAll_4 2 rfl rfl ?_
      refine r_bipush ok (nI 8) dX1_weightOfAll_5 (by rfl) ?_
      refine r_icmp_geN ok 27 (by omega) (by omega) dX1_weightOfAll_7 (by decide) (fun _ => ?_) (fun c => absurd c (by decide))
      refine r_iload_n ok dX1_weightOfAll_27 1 rfl rfl ?_
      exact r_iret ok dX1_weightOfAll_28 rfl ⟨rfl, rfl⟩
    | succ nL1 ihL1 =>
      intro k hk_k 
      refine r_iload_n ok dX1_weightOfAll_4 2 rfl rfl ?_
      refine r_bipush ok (nI 8) dX1_weightOfAll_5 (by rfl) ?_
      refine r_icmp_geN ok 27 (by omega) (by omega) dX1_weightOfAll_7 (by decide) (fun c7_3 => ?_) (fun c7_3 => ?_)
      · skip
        exact absurd c7_3 (by omega)
      · skip
        refine r_iload_n ok dX1_weightOfAll_10 1 rfl rfl ?_
        refine r_aload_n ok dX1_weightOfAll_11 0 rfl rfl ?_
        refine r_iload_n ok dX1_weightOfAll_12 2 rfl rfl ?_
        refine r_ialdN ok (by omega) (by omega) dX1_weightOfAll_13 hx ?_
        refine r_iload_n ok dX1_weightOfAll_14 2 rfl rfl ?_
        refine r_cSN1 ok [.int (f k), .int (lsum (zWof f) k)] mi_X5_weightOf mn_X1_62 sm_X5_weightOf dX1_weightOfAll_15 (c_X5_weightOf K.2.1 G (M) N  k ) rfl rfl ⟨Nat.le_of_ble_eq_true rfl, Nat.le_of_ble_eq_true rfl⟩ (Nat.le_of_ble_eq_true rfl) ⟨Nat.zero_le _, Nat.zero_le _⟩ ?_
        refine r_imul ok dX1_weightOfAll_18 ?_
        refine r_iadd ok dX1_weightOfAll_19 ?_
        refine r_istore_n ok [(1, .int ((lsum (zWof f) k) + ((f k) * (nI (1 + k))))), (0, .ref x), (2, .int (nI (k)))] dX1_weightOfAll_20 rfl (by decide) rfl ?_
        refine r_iincN ok (c := 1) [(2, .int (nI (k + 1))), (1, .int ((lsum (zWof f) k) + ((f k) * (nI (1 + k))))), (0, .ref x)] dX1_weightOfAll_21 2 rfl (by rfl) (by decide) rfl ?_
        refine r_goto ok 4 dX1_weightOfAll_24 (by decide) ?_
        have q4 : Value.int ((lsum (zWof f) k) + ((f k) * (nI (1 + k)))) = Value.int (lsum (zWof f) (k + 1)) := by first | with_reducible rfl | (simp [lsum_s, zWof])
        refine zW.forget (lv' := [(0, .ref x), (1, .int ((lsum (zWof f) k) + ((f k) * (nI (1 + k))))), (2, .int (nI (k + 1)))]) ?_ [2, 1, 0] rfl
        refine zW.to (lv' := [(0, .ref x), (1, .int (lsum (zWof f) (k + 1))), (2, .int (nI (k + 1)))]) ?_ rfl (congrArg (fun z => ([(0, .ref x), (1, z), (2, .int (nI (k + 1)))] : List (Nat × Value))) q4) rfl
        exact ihL1 (k + 1) (by omega)
  have q5 : Value.int (nI 0) = Value.int (lsum (zWof f) 0) := by first | with_reducible rfl | (rfl)
  refine zW.forget (lv' := [(0, .ref x), (1, .int (nI 0)), (2, .int (nI 0))]) ?_ [2, 1, 0] rfl
  refine zW.to (lv' := [(0, .ref x), (1, .int (lsum (zWof f) 0)), (2, .int (nI 0))]) ?_ rfl (congrArg (fun z => ([(0, .ref x), (1, z), (2, .int (nI 0))] : List (Nat × Value))) q5) rfl
  exact L1 8 0 (by omega)
set_option maxHeartbeats 4000000 in
set_option maxRecDepth 100000 in
theorem c_X1_sharePost (l : Launch) (G : zG) (M : zM) (N : Nat) (b : Nat) (st : Nat → Int32) (dy : Int32) (x : Int32) (br : Nat → Int32) (sp : Nat → Nat → Int32) (wa : Nat → Nat → Int32) (ac : Nat → Int32) (ps : Nat → Int32) (pp : Nat → Int32) (pu : Nat → Int32) (lo : Nat → Int32) (un : Int32) (op : Int32) (pi : Nat → Nat) (cn : Nat → Nat → Nat → Int32) (vl : Nat → Int32) (du : Nat → Int32) (io : Nat → Bool) (hp : Nat → Int32) (hs : Nat → Int32) (d : Nat) (oog : Nat → Int32) (opr : Nat → Int32) (opc : Int32) (ovl : Int32) (opo : Int32) (opt : Nat → Int32) (osr : Nat → Int32)  (mm : Int32) (hbd : b + 66 ≤ d ∨ d + 6 ≤ b) (hnn : 0 ≤ lsum (zC0 opt (zOpt wa mm) 6) 6) : zC l G yX1_sharePost cX1_sharePost 4 (none) 2 49 0 0 [.ref d, .ref b, .int (mm)] (odM G (cbM G M b st dy x br sp wa ac ps pp pu lo un op pi cn vl du io hp hs) d oog opr opc ovl opo opt osr) N (zP none (odM G (cbM G M b st dy x br sp wa ac ps pp pu lo un op pi cn vl du io hp hs) d oog opr opc ovl opo (zC0 opt (zOpt wa mm) 6) (zGets opo (zC0 opt (zOpt wa mm) 6) osr))) := by
  refine zC.of (by decide +kernel) (Nat.le_of_ble_eq_true rfl) ?_
  intro K hKl ok
  subst hKl
  show zW K G 4 _ 0 0 _ N 0 [(0, .ref d), (1, .ref b), (2, .int (mm))] []
  refine r_iconst ok (nI 0) dX1_sharePost_0 (by rfl) ?_
  refine r_istore_n ok [(3, .int (nI 0)), (0, .ref d), (1, .ref b), (2, .int (mm))] dX1_sharePost_1 rfl (by decide) rfl ?_
  have L1 : ∀ (nL1 : Nat) (k : Nat), ((k + nL1 = 6)) → zW K G 4 (zQ K G (N + 0) 0 0 (zP none (odM G (cbM G M b st dy x br sp wa ac ps pp pu lo un op pi cn vl du io hp hs) d oog opr opc ovl opo (zC0 opt (zOpt wa mm) 6) (zGets opo (zC0 opt (zOpt wa mm) 6) osr)))) 0 0 (odM G (cbM G M b st dy x br sp wa ac ps pp pu lo un op pi cn vl du io hp hs) d oog opr opc ovl opo (zC0 opt (zOpt wa mm) k) osr) N 2 [(0, .ref d), (1, .ref b), (2, .int (mm)), (3, .int (nI (k)))] [] := by
    intro nL1
    induction nL1 with
    | zero =>
      intro k hk_k 
      obtain rfl : 6 = k := by omega
      refine r_iload_n ok dX1_sharePost_2 3 rfl rfl ?_
      refine r_bipush ok (nI 6) dX1_sharePost_3 (by rfl) ?_
      refine r_icmp_geN ok 44 (by omega) (by omega) dX1_sharePost_5 (by decide) (fun _ => ?_) (fun c => absurd c (by decide))
      refine r_aload_n ok dX1_sharePost_44 0 rfl rfl ?_
      refine r_getf ok ci_X1 fl_X1_21 (by decide) dX1_sharePost_45 od_o rfl ?_
      refine r_aload_n ok dX1_sharePost_48 0 rfl rfl ?_
      refine r_getf ok ci_X1 fl_X1_65 (by decide) dX1_sharePost_49 od_o rfl ?_
      refine zW.to (M' := shM G (odM G (cbM G M b st dy x br sp wa ac ps pp pu lo un op pi cn vl du io hp hs) d oog opr opc ovl opo (zC0 opt (zOpt wa mm) 6) osr) (d + 3) (zC0 opt (zOpt wa mm) 6) osr) ?_ (od_sh (zC0 opt (zOpt wa mm) 6) osr).symm rfl rfl
      refine r_cV0 ok [] mi_X4_divide ci_X4 ml_X1_75 im_X4_divide se_X4_divide dX1_sharePost_52 (c_X4_divide K.2.1 G (odM G (cbM G M b st dy x br sp wa ac ps pp pu lo un op pi cn vl du io hp hs) d oog opr opc ovl opo (zC0 opt (zOpt wa mm) 6) osr) N (d + 3) (zC0 opt (zOpt wa mm) 6) osr  opo (by omega)) sh_o rfl rfl ⟨Nat.le_of_ble_eq_true rfl, Nat.le_of_ble_eq_true rfl⟩ (Nat.le_of_ble_eq_true rfl) ⟨Nat.zero_le _, Nat.zero_le _⟩ ?_
      refine zW.to (M' := odM G (cbM G M b st dy x br sp wa ac ps pp pu lo un op pi cn vl du io hp hs) d oog opr opc ovl opo (zC0 opt (zOpt wa mm) 6) (zGets opo (zC0 opt (zOpt wa mm) 6) osr)) ?_ (od_sh (zC0 opt (zOpt wa mm) 6) (zGets opo (zC0 opt (zOpt wa mm) 6) osr)) rfl rfl
      exact r_vret ok dX1_sharePost_55 rfl ⟨rfl, rfl⟩
    | succ nL1 ihL1 =>
      intro k hk_k 
      refine r_iload_n ok dX1_sharePost_2 3 rfl rfl ?_
      refine r_bipush ok (nI 6) dX1_sharePost_3 (by rfl) ?_
      refine r_icmp_geN ok 44 (by omega) (by omega) dX1_sharePost_5 (by decide) (fun c5_3 => ?_) (fun c5_3 => ?_)
      · skip
        exact absurd c5_3 (by omega)
      · skip
        refine r_aload_n ok dX1_sharePost_8 0 rfl rfl ?_
        refine r_getf ok ci_X1 fl_X1_21 (by decide) dX1_sharePost_9 od_o rfl ?_
        refine r_getf ok ci_X4 fl_X1_68 (by decide) dX1_sharePost_12 od_h rfl ?_
        refine r_iload_n ok dX1_sharePost_15 3 rfl rfl ?_
        refine r_iload_n ok dX1_sharePost_16 2 rfl rfl ?_
        refine r_iload_n ok dX1_sharePost_17 3 rfl rfl ?_
        refine r_cSN1 ok [.int (nI (k)), .ref (d + 4)] mi_X5_isIn mn_X1_31 sm_X5_isIn dX1_sharePost_18 (c_X5_isIn K.2.1 G (odM G (cbM G M b st dy x br sp wa ac ps pp pu lo un op pi cn vl du io hp hs) d oog opr opc ovl opo (zC0 opt (zOpt wa mm) k) osr) N  mm k ) rfl rfl ⟨Nat.le_of_ble_eq_true rfl, Nat.le_of_ble_eq_true rfl⟩ (Nat.le_of_ble_eq_true rfl) ⟨Nat.zero_le _, Nat.zero_le _⟩ ?_
        refine r_ifeqZ ok 36 dX1_sharePost_21 (by decide) (fun c21_4 => ?_) (fun c21_4 => ?_)
        · skip
          refine r_iconst ok (nI 0) dX1_sharePost_36 (by rfl) ?_
          refine r_iastN ok (by omega) (by omega) dX1_sharePost_37 od_t (odw_t _) ?_
          refine r_iincN ok (c := 1) [(3, .int (nI (k + 1))), (0, .ref d), (1, .ref b), (2, .int (mm))] dX1_sharePost_38 3 rfl (by rfl) (by decide) rfl ?_
          refine r_goto ok 2 dX1_sharePost_41 (by decide) ?_
          have q5 : (upd (zC0 opt (zOpt wa mm) k) k (nI 0) : Nat → Int32) = zC0 opt (zOpt wa mm) (k + 1) := by first | with_reducible rfl | ((rw [← zC0_s]; simp [zOpt, *]))
          refine zW.forget (lv' := [(0, .ref d), (1, .ref b), (2, .int (mm)), (3, .int (nI (k + 1)))]) ?_ [1, 2, 3, 0] rfl
          refine zW.to ?_ (congrArg (fun z => odM G (cbM G M b st dy x br sp wa ac ps pp pu lo un op pi cn vl du io hp hs) d oog opr opc ovl opo z osr) q5) rfl rfl
          exact ihL1 (k + 1) (by omega)
        · skip
          refine r_aload_n ok dX1_sharePost_24 1 rfl rfl ?_
          refine r_getf ok ci_X0 fl_X1_35 (by decide) dX1_sharePost_25 ((od_out (by omega)).trans cb_o) rfl ?_
          refine r_iload_n ok dX1_sharePost_28 3 rfl rfl ?_
          refine r_aaldN ok 3 (Or.inl rfl) (b + 11 + k) (by omega) (by omega) dX1_sharePost_29 ((od_out (by omega)).trans cb_wa) (zRef6_at (by omega)) ?_
          refine r_cS1 ok [.int (nI (k)), .ref (d + 4)] mi_X1_weightOfAll ml_X1_71 sm_X1_weightOfAll dX1_sharePost_30 (c_X1_weightOfAll K.2.1 G (odM G (cbM G M b st dy x br sp wa ac ps pp pu lo un op pi cn vl du io hp hs) d oog opr opc ovl opo (zC0 opt (zOpt wa mm) k) osr) N (wa k) ((b + 11 + k)) ((od_out (by omega)).trans (cb_war (by omega)))) rfl rfl ⟨Nat.le_of_ble_eq_true rfl, Nat.le_of_ble_eq_true rfl⟩ (Nat.le_of_ble_eq_true rfl) ⟨Nat.zero_le _, Nat.zero_le _⟩ ?_
          refine r_goto ok 37 dX1_sharePost_33 (by decide) ?_
          refine r_iastN ok (by omega) (by omega) dX1_sharePost_37 od_t (odw_t _) ?_
          refine r_iincN ok (c := 1) [(3, .int (nI (k + 1))), (0, .ref d), (1, .ref b), (2, .int (mm))] dX1_sharePost_38 3 rfl (by rfl) (by decide) rfl ?_
          refine r_goto ok 2 dX1_sharePost_41 (by decide) ?_
          have q6 : (upd (zC0 opt (zOpt wa mm) k) k (lsum (zWof (wa k)) 8) : Nat → Int32) = zC0 opt (zOpt wa mm) (k + 1) := by first | with_reducible rfl | ((rw [← zC0_s]; simp [zOpt, *]))
          refine zW.forget (lv' := [(0, .ref d), (1, .ref b), (2, .int (mm)), (3, .int (nI (k + 1)))]) ?_ [1, 2, 3, 0] rfl
          refine zW.to ?_ (congrArg (fun z => odM G (cbM G M b st dy x br sp wa ac ps pp pu lo un op pi cn vl du io hp hs) d oog opr opc ovl opo z osr) q6) rfl rfl
          exact ihL1 (k + 1) (by omega)
  have q7 : (opt : Nat → Int32) = zC0 opt (zOpt wa mm) 0 := by first | with_reducible rfl | (exact (zC0_0 _ _).symm)
  refine zW.forget (lv' := [(0, .ref d), (1, .ref b), (2, .int (mm)), (3, .int (nI 0))]) ?_ [1, 2, 3, 0] rfl
  refine zW.to ?_ (congrArg (fun z => odM G (cbM G M b st dy x br sp wa ac ps pp pu lo un op pi cn vl du io hp hs) d oog opr opc ovl opo z osr) q7) rfl rfl
  exact L1 6 0 (by omega)
set_option maxHeartbeats 4000000 in
set_option maxRecDepth 100000 in
theorem c_X1_gather (l : Launch) (G : zG) (M : zM) (N : Nat) (b : Nat) (st : Nat → Int32) (dy : Int32) (x : Int32) (br : Nat → Int32) (sp : Nat → Nat → Int32) (wa : Nat → Nat → Int32) (ac : Nat → Int32) (ps : Nat → Int32) (pp : Nat → Int32) (pu : Nat → Int32) (lo : Nat → Int32) (un : Int32) (op : Int32) (pi : Nat → Nat) (cn : Nat → Nat → Nat → Int32) (vl : Nat → Int32) (du : Nat → Int32) (io : Nat → Bool) (hp : Nat → Int32) (hs : Nat → Int32) (d : Nat) (oog : Nat → Int32) (opr : Nat → Int32) (opc : Int32) (ovl : Int32) (opo : Int32) (opt : Nat → Int32) (osr : Nat → Int32)  (mm : Int32) (hbd : b + 66 ≤ d ∨ d + 6 ≤ b) : zC l G yX1_gather cX1_gather 4 (none) 2 44 0 0 [.ref d, .ref b, .int (mm)] (odM G (cbM G M b st dy x br sp wa ac ps pp pu lo un op pi cn vl du io hp hs) d oog opr opc ovl opo opt osr) N (zP none (odM G (cbM G M b st dy x br sp wa ac ps pp pu lo un op pi cn vl du io hp hs) d (zOgF wa mm oog) (zC0 opr (zPrT st (zOgF wa mm oog)) 8) (lsum (zOgF wa mm oog) 8) (lsum (zOvT st (zOgF wa mm oog)) 8) (zOpo st (zOgF wa mm oog)) opt osr)) := by
  refine zC.of (by decide +kernel) (Nat.le_of_ble_eq_true rfl) ?_
  intro K hKl ok
  subst hKl
  show zW K G 4 _ 0 0 _ N 0 [(0, .ref d), (1, .ref b), (2, .int (mm))] []
  refine r_aload_n ok dX1_gather_0 0 rfl rfl ?_
  refine r_getf ok ci_X1 fl_X1_9 (by decide) dX1_gather_1 od_o rfl ?_
  refine r_iconst ok (nI 0) dX1_gather_4 (by rfl) ?_
  refine r_cS0 ok [] mi_J7_fill_53178 ml_X1_25 sm_J7_fill_53178 dX1_gather_5 (c_J7_fill_53178 K.2.1 G (odM G (cbM G M b st dy x br sp wa ac ps pp pu lo un op pi cn vl du io hp hs) d oog opr opc ovl opo opt osr) N 8 oog ((d + 1)) (nI 0) od_g (by omega)) rfl rfl ⟨Nat.le_of_ble_eq_true rfl, Nat.le_of_ble_eq_true rfl⟩ (Nat.le_of_ble_eq_true rfl) ⟨Nat.zero_le _, Nat.zero_le _⟩ ?_
  refine zW.to (M' := odM G (cbM G M b st dy x br sp wa ac ps pp pu lo un op pi cn vl du io hp hs) d (zC0 oog (fun _ => (nI 0)) 8) opr opc ovl opo opt osr) ?_ (odw_g _) rfl rfl
  refine r_iconst ok (nI 0) dX1_gather_8 (by rfl) ?_
  refine r_istore_n ok [(3, .int (nI 0)), (0, .ref d), (1, .ref b), (2, .int (mm))] dX1_gather_9 rfl (by decide) rfl ?_
  have L1 : ∀ (nL1 : Nat) (k : Nat), ((k + nL1 = 6)) → zW K G 4 (zQ K G (N + 0) 0 0 (zP none (odM G (cbM G M b st dy x br sp wa ac ps pp pu lo un op pi cn vl du io hp hs) d (zOgF wa mm oog) (zC0 opr (zPrT st (zOgF wa mm oog)) 8) (lsum (zOgF wa mm oog) 8) (lsum (zOvT st (zOgF wa mm oog)) 8) (zOpo st (zOgF wa mm oog)) opt osr))) 0 0 (odM G (cbM G M b st dy x br sp wa ac ps pp pu lo un op pi cn vl du io hp hs) d (zOgR wa mm (zC0 oog (fun _ => nI 0) 8) k) opr opc ovl opo opt osr) N 10 [(0, .ref d), (1, .ref b), (2, .int (mm)), (3, .int (nI (k)))] [] := by
    intro nL1
    induction nL1 with
    | zero =>
      intro k hk_k 
      obtain rfl : 6 = k := by omega
      refine r_iload_n ok dX1_gather_10 3 rfl rfl ?_
      refine r_bipush ok (nI 6) dX1_gather_11 (by rfl) ?_
      refine r_icmp_geN ok 40 (by omega) (by omega) dX1_gather_13 (by decide) (fun _ => ?_) (fun c => absurd c (by decide))
      refine r_aload_n ok dX1_gather_40 0 rfl rfl ?_
      refine r_aload_n ok dX1_gather_41 1 rfl rfl ?_
      refine r_getf ok ci_X0 fl_X1_45 (by decide) dX1_gather_42 ((od_out (by omega)).trans cb_o) rfl ?_
      refine r_cV0 ok [] mi_X1_reckon ci_X1 ml_X1_48 im_X1_reckon se_X1_reckon dX1_gather_45 (c_X1_reckon K.2.1 G (cbM G M b st dy x br sp wa ac ps pp pu lo un op pi cn vl du io hp hs) N d (zOgR wa mm (zC0 oog (fun _ => nI 0) 8) 6) opr opc ovl opo opt osr st ((b + 1)) cb_st (by omega)) od_o rfl rfl ⟨Nat.le_of_ble_eq_true rfl, Nat.le_of_ble_eq_true rfl⟩ (Nat.le_of_ble_eq_true rfl) ⟨Nat.zero_le _, Nat.zero_le _⟩ ?_
      exact r_vret ok dX1_gather_48 rfl ⟨rfl, (by rfl)⟩
    | succ nL1 ihL1 =>
      intro k hk_k 
      refine r_iload_n ok dX1_gather_10 3 rfl rfl ?_
      refine r_bipush ok (nI 6) dX1_gather_11 (by rfl) ?_
      refine r_icmp_geN ok 40 (by omega) (by omega) dX1_gather_13 (by decide) (fun c13_3 => ?_) (fun c13_3 => ?_)
      · skip
        exact absurd c13_3 (by omega)
      · skip
        refine r_iload_n ok dX1_gather_16 2 rfl rfl ?_
        refine r_iload_n ok dX1_gather_17 3 rfl rfl ?_
        refine r_cSN1 ok [] mi_X5_isIn mn_X1_31 sm_X5_isIn dX1_gather_18 (c_X5_isIn K.2.1 G (odM G (cbM G M b st dy x br sp wa ac ps pp pu lo un op pi cn vl du io hp hs) d (zOgR wa mm (zC0 oog (fun _ => nI 0) 8) k) opr opc ovl opo opt osr) N  mm k ) rfl rfl ⟨Nat.le_of_ble_eq_true rfl, Nat.le_of_ble_eq_true rfl⟩ (Nat.le_of_ble_eq_true rfl) ⟨Nat.zero_le _, Nat.zero_le _⟩ ?_
        refine r_ifeqZ ok 34 dX1_gather_21 (by decide) (fun c21_4 => ?_) (fun c21_4 => ?_)
        · skip
          refine r_iincN ok (c := 1) [(3, .int (nI (k + 1))), (0, .ref d), (1, .ref b), (2, .int (mm))] dX1_gather_34 3 rfl (by rfl) (by decide) rfl ?_
          refine r_goto ok 10 dX1_gather_37 (by decide) ?_
          have q5 : (zOgR wa mm (zC0 oog (fun _ => nI 0) 8) k : Nat → Int32) = zOgR wa mm (zC0 oog (fun _ => nI 0) 8) (k + 1) := by first | with_reducible rfl | (simp [zOgR, *])
          refine zW.forget (lv' := [(0, .ref d), (1, .ref b), (2, .int (mm)), (3, .int (nI (k + 1)))]) ?_ [1, 2, 3, 0] rfl
          refine zW.to ?_ (congrArg (fun z => odM G (cbM G M b st dy x br sp wa ac ps pp pu lo un op pi cn vl du io hp hs) d z opr opc ovl opo opt osr) q5) rfl rfl
          exact ihL1 (k + 1) (by omega)
        · skip
          refine r_aload_n ok dX1_gather_24 0 rfl rfl ?_
          refine r_aload_n ok dX1_gather_25 1 rfl rfl ?_
          refine r_getf ok ci_X0 fl_X1_35 (by decide) dX1_gather_26 ((od_out (by omega)).trans cb_o) rfl ?_
          refine r_iload_n ok dX1_gather_29 3 rfl rfl ?_
          refine r_aaldN ok 3 (Or.inl rfl) (b + 11 + k) (by omega) (by omega) dX1_gather_30 ((od_out (by omega)).trans cb_wa) (zRef6_at (by omega)) ?_
          refine r_cV0 ok [] mi_X1_addRow ci_X1 ml_X1_41 im_X1_addRow se_X1_addRow dX1_gather_31 (c_X1_addRow K.2.1 G (cbM G M b st dy x br sp wa ac ps pp pu lo un op pi cn vl du io hp hs) N d (zOgR wa mm (zC0 oog (fun _ => nI 0) 8) k) opr opc ovl opo opt osr (wa k) ((b + 11 + k)) (cb_war (by omega)) (by omega)) od_o rfl rfl ⟨Nat.le_of_ble_eq_true rfl, Nat.le_of_ble_eq_true rfl⟩ (Nat.le_of_ble_eq_true rfl) ⟨Nat.zero_le _, Nat.zero_le _⟩ ?_
          refine r_iincN ok (c := 1) [(3, .int (nI (k + 1))), (0, .ref d), (1, .ref b), (2, .int (mm))] dX1_gather_34 3 rfl (by rfl) (by decide) rfl ?_
          refine r_goto ok 10 dX1_gather_37 (by decide) ?_
          have q6 : (zC0 (zOgR wa mm (zC0 oog (fun _ => nI 0) 8) k) (zAdd (zOgR wa mm (zC0 oog (fun _ => nI 0) 8) k) (wa k)) 8 : Nat → Int32) = zOgR wa mm (zC0 oog (fun _ => nI 0) 8) (k + 1) := by first | with_reducible rfl | (simp [zOgR, *])
          refine zW.forget (lv' := [(0, .ref d), (1, .ref b), (2, .int (mm)), (3, .int (nI (k + 1)))]) ?_ [1, 2, 3, 0] rfl
          refine zW.to ?_ (congrArg (fun z => odM G (cbM G M b st dy x br sp wa ac ps pp pu lo un op pi cn vl du io hp hs) d z opr opc ovl opo opt osr) q6) rfl rfl
          exact ihL1 (k + 1) (by omega)
  have q7 : (zC0 oog (fun _ => (nI 0)) 8 : Nat → Int32) = zOgR wa mm (zC0 oog (fun _ => nI 0) 8) 0 := by first | with_reducible rfl | (rfl)
  refine zW.forget (lv' := [(0, .ref d), (1, .ref b), (2, .int (mm)), (3, .int (nI 0))]) ?_ [1, 2, 3, 0] rfl
  refine zW.to ?_ (congrArg (fun z => odM G (cbM G M b st dy x br sp wa ac ps pp pu lo un op pi cn vl du io hp hs) d z opr opc ovl opo opt osr) q7) rfl rfl
  exact L1 6 0 (by omega)
