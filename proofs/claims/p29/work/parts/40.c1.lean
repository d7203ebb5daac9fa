set_option maxHeartbeats 4000000 in
set_option maxRecDepth 100000 in
theorem c_J6_bitCount_0f7a4 (l : Launch) (G : zG) (M : zM) (N : Nat)  (x : Int32)  : zC l G yJ6_bitCount_0f7a4 cJ6_bitCount_0f7a4 1 (some .int) 0 0 0 0 [.int (x)] (M) N (zP (some (.int (zPop x))) (M)) := by
  refine zC.of (by decide +kernel) (Nat.le_of_ble_eq_true rfl) ?_
  intro K hKl ok
  subst hKl
  show zW K G 1 _ 0 0 _ N 0 [(0, .int (x))] []
  refine r_iload_n ok dJ6_bitCount_0f7a4_0 0 rfl rfl ?_
  refine r_iload_n ok dJ6_bitCount_0f7a4_1 0 rfl rfl ?_
  refine r_iconst ok (nI 1) dJ6_bitCount_0f7a4_2 (by rfl) ?_
  refine r_iushr ok dJ6_bitCount_0f7a4_3 ?_
  refine r_ldcw ok ck_J6_265 dJ6_bitCount_0f7a4_4 ?_
  refine zW.to (st' := [.int (nI 1431655765), .int ((x.toUInt32 >>> ((nI 1).toUInt32 &&& Int32.toUInt32 31)).toInt32), .int (x)]) ?_ rfl rfl rfl
  refine r_iand ok dJ6_bitCount_0f7a4_7 ?_
  refine r_isub ok dJ6_bitCount_0f7a4_8 ?_
  refine r_istore_n ok [(0, .int (x - (((x.toUInt32 >>> ((nI 1).toUInt32 &&& Int32.toUInt32 31)).toInt32) &&& (nI 1431655765))))] dJ6_bitCount_0f7a4_9 rfl (by decide) rfl ?_
  refine r_iload_n ok dJ6_bitCount_0f7a4_10 0 rfl rfl ?_
  refine r_ldcw ok ck_J6_266 dJ6_bitCount_0f7a4_11 ?_
  refine zW.to (st' := [.int (nI 858993459), .int (x - (((x.toUInt32 >>> ((nI 1).toUInt32 &&& Int32.toUInt32 31)).toInt32) &&& (nI 1431655765)))]) ?_ rfl rfl rfl
  refine r_iand ok dJ6_bitCount_0f7a4_14 ?_
  refine r_iload_n ok dJ6_bitCount_0f7a4_15 0 rfl rfl ?_
  refine r_iconst ok (nI 2) dJ6_bitCount_0f7a4_16 (by rfl) ?_
  refine r_iushr ok dJ6_bitCount_0f7a4_17 ?_
  refine r_ldcw ok ck_J6_266 dJ6_bitCount_0f7a4_18 ?_
  refine zW.to (st' := [.int (nI 858993459), .int (((x - (((x.toUInt32 >>> ((nI 1).toUInt32 &&& Int32.toUInt32 31)).toInt32) &&& (nI 1431655765))).toUInt32 >>> ((nI 2).toUInt32 &&& Int32.toUInt32 31)).toInt32), .int ((x - (((x.toUInt32 >>> ((nI 1).toUInt32 &&& Int32.toUInt32 31)).toInt32) &&& (nI 1431655765))) &&& (nI 858993459))]) ?_ rfl rfl rfl
  refine r_iand ok dJ6_bitCount_0f7a4_21 ?_
  refine r_iadd ok dJ6_bitCount_0f7a4_22 ?_
  refine r_istore_n ok [(0, .int (((x - (((x.toUInt32 >>> ((nI 1).toUInt32 &&& Int32.toUInt32 31)).toInt32) &&& (nI 1431655765))) &&& (nI 858993459)) + ((((x - (((x.toUInt32 >>> ((nI 1).toUInt32 &&& Int32.toUInt32 31)).toInt32) &&& (nI 1431655765))).toUInt32 >>> ((nI 2).toUInt32 &&& Int32.toUInt32 31)).toInt32) &&& (nI 858993459))))] dJ6_bitCount_0f7a4_23 rfl (by decide) rfl ?_
  refine r_iload_n ok dJ6_bitCount_0f7a4_24 0 rfl rfl ?_
  refine r_iload_n ok dJ6_bitCount_0f7a4_25 0 rfl rfl ?_
  refine r_iconst ok (nI 4) dJ6_bitCount_0f7a4_26 (by rfl) ?_
  refine r_iushr ok dJ6_bitCount_0f7a4_27 ?_
  refine r_iadd ok dJ6_bitCount_0f7a4_28 ?_
  refine r_ldcw ok ck_J6_267 dJ6_bitCount_0f7a4_29 ?_
  refine zW.to (st' := [.int (nI 252645135), .int ((((x - (((x.toUInt32 >>> ((nI 1).toUInt32 &&& Int32.toUInt32 31)).toInt32) &&& (nI 1431655765))) &&& (nI 858993459)) + ((((x - (((x.toUInt32 >>> ((nI 1).toUInt32 &&& Int32.toUInt32 31)).toInt32) &&& (nI 1431655765))).toUInt32 >>> ((nI 2).toUInt32 &&& Int32.toUInt32 31)).toInt32) &&& (nI 858993459))) + (((((x - (((x.toUInt32 >>> ((nI 1).toUInt32 &&& Int32.toUInt32 31)).toInt32) &&& (nI 1431655765))) &&& (nI 858993459)) + ((((x - (((x.toUInt32 >>> ((nI 1).toUInt32 &&& Int32.toUInt32 31)).toInt32) &&& (nI 1431655765))).toUInt32 >>> ((nI 2).toUInt32 &&& Int32.toUInt32 31)).toInt32) &&& (nI 858993459))).toUInt32 >>> ((nI 4).toUInt32 &&& Int32.toUInt32 31)).toInt32))]) ?_ rfl rfl rfl
  refine r_iand ok dJ6_bitCount_0f7a4_32 ?_
  refine r_istore_n ok [(0, .int (((((x - (((x.toUInt32 >>> ((nI 1).toUInt32 &&& Int32.toUInt32 31)).toInt32) &&& (nI 1431655765))) &&& (nI 858993459)) + ((((x - (((x.toUInt32 >>> ((nI 1).toUInt32 &&& Int32.toUInt32 31)).toInt32) &&& (nI 1431655765))).toUInt32 >>> ((nI 2).toUInt32 &&& Int32.toUInt32 31)).toInt32) &&& (nI 858993459))) + (((((x - (((x.toUInt32 >>> ((nI 1).toUInt32 &&& Int32.toUInt32 31)).toInt32) &&& (nI 1431655765))) &&& (nI 858993459)) + ((((x - (((x.toUInt32 >>> ((nI 1).toUInt32 &&& Int32.toUInt32 31)).toInt32) &&& (nI 1431655765))).toUInt32 >>> ((nI 2).toUInt32 &&& Int32.toUInt32 31)).toInt32) &&& (nI 858993459))).toUInt32 >>> ((nI 4).toUInt32 &&& Int32.toUInt32 31)).toInt32)) &&& (nI 252645135)))] dJ6_bitCount_0f7a4_33 rfl (by decide) rfl ?_
  refine r_iload_n ok dJ6_bitCount_0f7a4_34 0 rfl rfl ?_
  refine r_iload_n ok dJ6_bitCount_0f7a4_35 0 rfl rfl ?_
  refine r_bipush ok (nI 8) dJ6_bitCount_0f7a4_36 (by rfl) ?_
  refine r_iushr ok dJ6_bitCount_0f7a4_38 ?_
  refine r_iadd ok dJ6_bitCount_0f7a4_39 ?_
  refine r_istore_n ok [(0, .int ((((((x - (((x.toUInt32 >>> ((nI 1).toUInt32 &&& Int32.toUInt32 31)).toInt32) &&& (nI 1431655765))) &&& (nI 858993459)) + ((((x - (((x.toUInt32 >>> ((nI 1).toUInt32 &&& Int32.toUInt32 31)).toInt32) &&& (nI 1431655765))).toUInt32 >>> ((nI 2).toUInt32 &&& Int32.toUInt32 31)).toInt32) &&& (nI 858993459))) + (((((x - (((x.toUInt32 >>> ((nI 1).toUInt32 &&& Int32.toUInt32 31)).toInt32) &&& (nI 1431655765))) &&& (nI 858993459)) + ((((x - (((x.toUInt32 >>> ((nI 1).toUInt32 &&& Int32.toUInt32 31)).toInt32) &&& (nI 1431655765))).toUInt32 >>> ((nI 2).toUInt32 &&& Int32.toUInt32 31)).toInt32) &&& (nI 858993459))).toUInt32 >>> ((nI 4).toUInt32 &&& Int32.toUInt32 31)).toInt32)) &&& (nI 252645135)) + (((((((x - (((x.toUInt32 >>> ((nI 1).toUInt32 &&& Int32.toUInt32 31)).toInt32) &&& (nI 1431655765))) &&& (nI 858993459)) + ((((x - (((x.toUInt32 >>> ((nI 1).toUInt32 &&& Int32.toUInt32 31)).toInt32) &&& (nI 1431655765))).toUInt32 >>> ((nI 2).toUInt32 &&& Int32.toUInt32 31)).toInt32) &&& (nI 858993459))) + (((((x - (((x.toUInt32 >>> ((nI 1).toUInt32 &&& Int32.toUInt32 31)).toInt32) &&& (nI 1431655765))) &&& (nI 858993459)) + ((((x - (((x.toUInt32 >>> ((nI 1).toUInt32 &&& Int32.toUInt32 31)).toInt32) &&& (nI 1431655765))).toUInt32 >>> ((nI 2).toUInt32 &&& Int32.toUInt32 31)).toInt32) &&& (nI 858993459))).toUInt32 >>> ((nI 4).toUInt32 &&& Int32.toUInt32 31)).toInt32)) &&& (nI 252645135)).toUInt32 >>> ((nI 8).toUInt32 &&& Int32.toUInt32 31)).toInt32)))] dJ6_bitCount_0f7a4_40 rfl (by decide) rfl ?_
  refine r_iload_n ok dJ6_bitCount_0f7a4_41 0 rfl rfl ?_
  refine r_iload_n ok dJ6_bitCount_0f7a4_42 0 rfl rfl ?_
  refine r_bipush ok (nI 16) dJ6_bitCount_0f7a4_43 (by rfl) ?_
  refine r_iushr ok dJ6_bitCount_0f7a4_45 ?_
  refine r_iadd ok dJ6_bitCount_0f7a4_46 ?_
  refine r_istore_n ok [(0, .int (((((((x - (((x.toUInt32 >>> ((nI 1).toUInt32 &&& Int32.toUInt32 31)).toInt32) &&& (nI 1431655765))) &&& (nI 858993459)) + ((((x - (((x.toUInt32 >>> ((nI 1).toUInt32 &&& Int32.toUInt32 31)).toInt32) &&& (nI 1431655765))).toUInt32 >>> ((nI 2).toUInt32 &&& Int32.toUInt32 31)).toInt32) &&& (nI 858993459))) + (((((x - (((x.toUInt32 >>> ((nI 1).toUInt32 &&& Int32.toUInt32 31)).toInt32) &&& (nI 1431655765))) &&& (nI 858993459)) + ((((x - (((x.toUInt32 >>> ((nI 1).toUInt32 &&& Int32.toUInt32 31)).toInt32) &&& (nI 1431655765))).toUInt32 >>> ((nI 2).toUInt32 &&& Int32.toUInt32 31)).toInt32) &&& (nI 858993459))).toUInt32 >>> ((nI 4).toUInt32 &&& Int32.toUInt32 31)).toInt32)) &&& (nI 252645135)) + (((((((x - (((x.toUInt32 >>> ((nI 1).toUInt32 &&& Int32.toUInt32 31)).toInt32) &&& (nI 1431655765))) &&& (nI 858993459)) + ((((x - (((x.toUInt32 >>> ((nI 1).toUInt32 &&& Int32.toUInt32 31)).toInt32) &&& (nI 1431655765))).toUInt32 >>> ((nI 2).toUInt32 &&& Int32.toUInt32 31)).toInt32) &&& (nI 858993459))) + (((((x - (((x.toUInt32 >>> ((nI 1).toUInt32 &&& Int32.toUInt32 31)).toInt32) &&& (nI 1431655765))) &&& (nI 858993459)) + ((((x - (((x.toUInt32 >>> ((nI 1).toUInt32 &&& Int32.toUInt32 31)).toInt32) &&& (nI 1431655765))).toUInt32 >>> ((nI 2).toUInt32 &&& Int32.toUInt32 31)).toInt32) &&& (nI 858993459))).toUInt32 >>> ((nI 4).toUInt32 &&& Int32.toUInt32 31)).toInt32)) &&& (nI 252645135)).toUInt32 >>> ((nI 8).toUInt32 &&& Int32.toUInt32 31)).toInt32)) + ((((((((x - (((x.toUInt32 >>> ((nI 1).toUInt32 &&& Int32.toUInt32 31)).toInt32) &&& (nI 1431655765))) &&& (nI 858993459)) + ((((x - (((x.toUInt32 >>> ((nI 1).toUInt32 &&& Int32.toUInt32 31)).toInt32) &&& (nI 1431655765))).toUInt32 >>> ((nI 2).toUInt32 &&& Int32.toUInt32 31)).toInt32) &&& (nI 858993459))) + (((((x - (((x.toUInt32 >>> ((nI 1).toUInt32 &&& Int32.toUInt32 31)).toInt32) &&& (nI 1431655765))) &&& (nI 858993459)) + ((((x - (((x.toUInt32 >>> ((nI 1).toUInt32 &&& Int32.toUInt32 31)).toInt32) &&& (nI 1431655765))).toUInt32 >>> ((nI 2).toUInt32 &&& Int32.toUInt32 31)).toInt32) &&& (nI 858993459))).toUInt32 >>> ((nI 4).toUInt32 &&& Int32.toUInt32 31)).toInt32)) &&& (nI 252645135)) + (((((((x - (((x.toUInt32 >>> ((nI 1).toUInt32 &&& Int32.toUInt32 31)).toInt32) &&& (nI 1431655765))) &&& (nI 858993459)) + ((((x - (((x.toUInt32 >>> ((nI 1).toUInt32 &&& Int32.toUInt32 31)).toInt32) &&& (nI 1431655765))).toUInt32 >>> ((nI 2).toUInt32 &&& Int32.toUInt32 31)).toInt32) &&& (nI 858993459))) + (((((x - (((x.toUInt32 >>> ((nI 1).toUInt32 &&& Int32.toUInt32 31)).toInt32) &&& (nI 1431655765))) &&& (nI 858993459)) + ((((x - (((x.toUInt32 >>> ((nI 1).toUInt32 &&& Int32.toUInt32 31)).toInt32) &&& (nI 1431655765))).toUInt32 >>> ((nI 2).toUInt32 &&& Int32.toUInt32 31)).toInt32) &&& (nI 858993459))).toUInt32 >>> ((nI 4).toUInt32 &&& Int32.toUInt32 31)).toInt32)) &&& (nI 252645135)).toUInt32 >>> ((nI 8).toUInt32 &&& Int32.toUInt32 31)).toInt32)).toUInt32 >>> ((nI 16).toUInt32 &&& Int32.toUInt32 31)).toInt32)))] dJ6_bitCount_0f7a4_47 rfl (by decide) rfl ?_
  refine r_iload_n ok dJ6_bitCount_0f7a4_48 0 rfl rfl ?_
  refine r_bipush ok (nI 63) dJ6_bitCount_0f7a4_49 (by rfl) ?_
  refine r_iand ok dJ6_bitCount_0f7a4_51 ?_
  exact r_iret ok dJ6_bitCount_0f7a4_52 rfl ⟨congrArg (fun z => some (Value.int z)) (show (((((((x - (((x.toUInt32 >>> ((nI 1).toUInt32 &&& Int32.toUInt32 31)).toInt32) &&& (nI 1431655765))) &&& (nI 858993459)) + ((((x - (((x.toUInt32 >>> ((nI 1).toUInt32 &&& Int32.toUInt32 31)).toInt32) &&& (nI 1431655765))).toUInt32 >>> ((nI 2).toUInt32 &&& Int32.toUInt32 31)).toInt32) &&& (nI 858993459))) + (((((x - (((x.toUInt32 >>> ((nI 1).toUInt32 &&& Int32.toUInt32 31)).toInt32) &&& (nI 1431655765))) &&& (nI 858993459)) + ((((x - (((x.toUInt32 >>> ((nI 1).toUInt32 &&& Int32.toUInt32 31)).toInt32) &&& (nI 1431655765))).toUInt32 >>> ((nI 2).toUInt32 &&& Int32.toUInt32 31)).toInt32) &&& (nI 858993459))).toUInt32 >>> ((nI 4).toUInt32 &&& Int32.toUInt32 31)).toInt32)) &&& (nI 252645135)) + (((((((x - (((x.toUInt32 >>> ((nI 1).toUInt32 &&& Int32.toUInt32 31)).toInt32) &&& (nI 1431655765))) &&& (nI 858993459)) + ((((x - (((x.toUInt32 >>> ((nI 1).toUInt32 &&& Int32.toUInt32 31)).toInt32) &&& (nI 1431655765))).toUInt32 >>> ((nI 2).toUInt32 &&& Int32.toUInt32 31)).toInt32) &&& (nI 858993459))) + (((((x - (((x.toUInt32 >>> ((nI 1).toUInt32 &&& Int32.toUInt32 31)).toInt32) &&& (nI 1431655765))) &&& (nI 858993459)) + ((((x - (((x.toUInt32 >>> ((nI 1).toUInt32 &&& Int32.toUInt32 31)).toInt32) &&& (nI 1431655765))).toUInt32 >>> ((nI 2).toUInt32 &&& Int32.toUInt32 31)).toInt32) &&& (nI 858993459))).toUInt32 >>> ((nI 4).toUInt32 &&& Int32.toUInt32 31)).toInt32)) &&& (nI 252645135)).toUInt32 >>> ((nI 8).toUInt32 &&& Int32.toUInt32 31)).toInt32)) + ((((((((x - (((x.toUInt32 >>> ((nI 1).toUInt32 &&& Int32.toUInt32 31)).toInt32) &&& (nI 1431655765))) &&& (nI 858993459)) + ((((x - (((x.toUInt32 >>> ((nI 1).toUInt32 &&& Int32.toUInt32 31)).toInt32) &&& (nI 1431655765))).toUInt32 >>> ((nI 2).toUInt32 &&& Int32.toUInt32 31)).toInt32) &&& (nI 858993459))) + (((((x - (((x.toUInt32 >>> ((nI 1).toUInt32 &&& Int32.toUInt32 31)).toInt32) &&& (nI 1431655765))) &&& (nI 858993459)) + ((((x - (((x.toUInt32 >>> ((nI 1).toUInt32 &&& Int32.toUInt32 31)).toInt32) &&& (nI 1431655765))).toUInt32 >>> ((nI 2).toUInt32 &&& Int32.toUInt32 31)).toInt32) &&& (nI 858993459))).toUInt32 >>> ((nI 4).toUInt32 &&& Int32.toUInt32 31)).toInt32)) &&& (nI 252645135)) + (((((((x - (((x.toUInt32 >>> ((nI 1).toUInt32 &&& Int32.toUInt32 31)).toInt32) &&& (nI 1431655765))) &&& (nI 858993459)) + ((((x - (((x.toUInt32 >>> ((nI 1).toUInt32 &&& Int32.toUInt32 31)).toInt32) &&& (nI 1431655765))).toUInt32 >>> ((nI 2).toUInt32 &&& Int32.toUInt32 31)).toInt32) &&& (nI 858993459))) + (((((x - (((x.toUInt32 >>> ((nI 1).toUInt32 &&& Int32.toUInt32 31)).toInt32) &&& (nI 1431655765))) &&& (nI 858993459)) + ((((x - (((x.toUInt32 >>> ((nI 1).toUInt32 &&& Int32.toUInt32 31)).toInt32) &&& (nI 1431655765))).toUInt32 >>> ((nI 2).toUInt32 &&& Int32.toUInt32 31)).toInt32) &&& (nI 858993459))).toUInt32 >>> ((nI 4).toUInt32 &&& Int32.toUInt32 31)).toInt32)) &&& (nI 252645135)).toUInt32 >>> ((nI 8).toUInt32 &&& Int32.toUInt32 31)).toInt32)).toUInt32 >>> ((nI 16).toUInt32 &&& Int32.toUInt32 31)).toInt32)) &&& (nI 63) = zPop x from by rfl), rfl⟩
set_option maxHeartbeats 4000000 in
set_option maxRecDepth 100000 in
theorem c_J7_fill_53178 (l : Launch) (G : zG) (M : zM) (N : Nat) (n : Nat) (f : Nat → Int32) (x : Nat) (v : Int32) (hx : M x = some (zI (G.2.1 0) n f)) (hn : n < 2 ^ 31) : zC l G yJ7_fill_53178 cJ7_fill_53178 4 (none) 0 0 0 0 [.ref x, .int (v)] (M) N (zP none (zu M x (zI (G.2.1 0) n (zC0 f (fun _ => v) n)))) := by
  refine zC.of (by decide +kernel) (Nat.le_of_ble_eq_true rfl) ?_
  intro K hKl ok
  subst hKl
  show zW K G 4 _ 0 0 _ N 0 [(0, .ref x), (1, .int (v))] []
  refine zW.to (M' := zu M x (zI (G.2.1 0) n f)) ?_ (zu_same hx).symm rfl rfl
  refine r_iconst ok (nI 0) dJ7_fill_53178_0 (by rfl) ?_
  refine r_istore_n ok [(2, .int (nI 0)), (0, .ref x), (1, .int (v))] dJ7_fill_53178_1 rfl (by decide) rfl ?_
  refine r_aload_n ok dJ7_fill_53178_2 1 rfl rfl ?_
  refine r_alen ok (nI n) (t := 0) rfl dJ7_fill_53178_3 (zu_self _ _ _) (by rfl) ?_
  refine r_istore_n ok [(3, .int (nI (n))), (2, .int (nI 0)), (0, .ref x), (1, .int (v))] dJ7_fill_53178_4 rfl (by decide) rfl ?_
  have L1 : ∀ (nL1 : Nat) (k : Nat), ((k + nL1 = n)) → zW K G 4 (zQ K G (N + 0) 0 0 (zP none (zu M x (zI (G.2.1 0) n (zC0 f (fun _ => v) n))))) 0 0 (zu M x (zI (G.2.1 0) n (zC0 f (fun _ => v) k))) N 5 [(0, .ref x), (1, .int (v)), (2, .int (nI (k))), (3, .int (nI (n)))] [] := by
    intro nL1
    induction nL1 with
    | zero =>
      intro k hk_k 
      obtain rfl : n = k := by omega
      refine r_iload_n ok dJ7_fill_53178_5 2 rfl rfl ?_
      refine r_iload_n ok dJ7_fill_53178_6 3 rfl rfl ?_
      refine r_icmp_geN ok 20 (by omega) (by omega) dJ7_fill_53178_7 (by decide) (fun c7_2 => ?_) (fun c7_2 => ?_)
      · skip
        exact r_vret ok dJ7_fill_53178_20 rfl ⟨rfl, rfl⟩
      · skip
        exact absurd c7_2 (by omega)
    | succ nL1 ihL1 =>
      intro k hk_k 
      refine r_iload_n ok dJ7_fill_53178_5 2 rfl rfl ?_
      refine r_iload_n ok dJ7_fill_53178_6 3 rfl rfl ?_
      refine r_icmp_geN ok 20 (by omega) (by omega) dJ7_fill_53178_7 (by decide) (fun c7_3 => ?_) (fun c7_3 => ?_)
      · skip
        exact absurd c7_3 (by omega)
      · skip
        refine r_aload_n ok dJ7_fill_53178_10 0 rfl rfl ?_
        refine r_iload_n ok dJ7_fill_53178_11 2 rfl rfl ?_
        refine r_iload_n ok dJ7_fill_53178_12 1 rfl rfl ?_
        refine r_iastN ok (by omega) (by omega) dJ7_fill_53178_13 (zu_self _ _ _) (zu_zu _ _ _ _) ?_
        refine r_iincN ok (c := 1) [(2, .int (nI (k + 1))), (0, .ref x), (1, .int (v)), (3, .int (nI (n)))] dJ7_fill_53178_14 2 rfl (by rfl) (by decide) rfl ?_
        refine r_goto ok 5 dJ7_fill_53178_17 (by decide) ?_
        have q4 : (upd (zC0 f (fun _ => v) k) k v : Nat → Int32) = zC0 f (fun _ => v) (k + 1) := by first | with_reducible rfl | (exact zC0_s _ _ _)
        refine zW.forget (lv' := [(0, .ref x), (1, .int (v)), (2, .int (nI (k + 1))), (3, .int (nI (n)))]) ?_ [1, 2, 0, 3] rfl
        refine zW.to ?_ (congrArg (fun z => zu M x (zI (G.2.1 0) n z)) q4) rfl rfl
        exact ihL1 (k + 1) (by omega)
  have q5 : (f : Nat → Int32) = zC0 f (fun _ => v) 0 := by first | with_reducible rfl | (exact (zC0_0 _ _).symm)
  refine zW.forget (lv' := [(0, .ref x), (1, .int (v)), (2, .int (nI 0)), (3, .int (nI (n)))]) ?_ [2, 3, 1, 0] rfl
  refine zW.to ?_ (congrArg (fun z => zu M x (zI (G.2.1 0) n z)) q5) rfl rfl
  exact L1 n 0 (by omega)
set_option maxHeartbeats 4000000 in
set_option maxRecDepth 100000 in
theorem c_X5_isMember (l : Launch) (G : zG) (M : zM) (N : Nat)  (v : Int32)  : zC l G yX5_isMember cX5_isMember 1 (some .boolean) 0 0 0 0 [.int (v)] (M) N (zP (some (.int (zb ((zix v 6).isSome)))) (M)) := by
  refine zC.of (by decide +kernel) (Nat.le_of_ble_eq_true rfl) ?_
  intro K hKl ok
  subst hKl
  show zW K G 1 _ 0 0 _ N 0 [(0, .int (v))] []
  refine r_iload_n ok dX5_isMember_0 0 rfl rfl ?_
  refine r_if_lt ok 14 dX5_isMember_1 (by decide) (fun c1_1 => ?_) (fun c1_1 => ?_)
  · skip
    refine r_iconst ok (nI 0) dX5_isMember_14 (by rfl) ?_
    refine zW.to (st' := [.int (zb false)]) ?_ rfl rfl rfl
    exact r_zret ok dX5_isMember_15 (zb_n _) rfl ⟨congrArg (fun z => some (Value.int (zb z))) (show false = (zix v 6).isSome from by first | exact (zixs_neg (by assumption)).symm | exact (zixs_ge (by omega) (by assumption)).symm | exact (zixs_in (by omega) (by assumption) (by assumption)).symm), rfl⟩
  · skip
    refine r_iload_n ok dX5_isMember_4 0 rfl rfl ?_
    refine r_bipush ok (nI 6) dX5_isMember_5 (by rfl) ?_
    refine r_icmp_ge ok 14 dX5_isMember_7 (by decide) (fun c7_2 => ?_) (fun c7_2 => ?_)
    · skip
      refine r_iconst ok (nI 0) dX5_isMember_14 (by rfl) ?_
      refine zW.to (st' := [.int (zb false)]) ?_ rfl rfl rfl
      exact r_zret ok dX5_isMember_15 (zb_n _) rfl ⟨congrArg (fun z => some (Value.int (zb z))) (show false = (zix v 6).isSome from by first | exact (zixs_neg (by assumption)).symm | exact (zixs_ge (by omega) (by assumption)).symm | exact (zixs_in (by omega) (by assumption) (by assumption)).symm), rfl⟩
    · skip
      refine r_iconst ok (nI 1) dX5_isMember_10 (by rfl) ?_
      refine r_goto ok 15 dX5_isMember_11 (by decide) ?_
      refine zW.to (st' := [.int (zb true)]) ?_ rfl rfl rfl
      exact r_zret ok dX5_isMember_15 (zb_n _) rfl ⟨congrArg (fun z => some (Value.int (zb z))) (show true = (zix v 6).isSome from by first | exact (zixs_neg (by assumption)).symm | exact (zixs_ge (by omega) (by assumption)).symm | exact (zixs_in (by omega) (by assumption) (by assumption)).symm), rfl⟩
set_option maxHeartbeats 4000000 in
set_option maxRecDepth 100000 in
theorem c_X5_isGauge (l : Launch) (G : zG) (M : zM) (N : Nat)  (v : Int32)  : zC l G yX5_isGauge cX5_isGauge 1 (some .boolean) 0 0 0 0 [.int (v)] (M) N (zP (some (.int (zb ((zix v 8).isSome)))) (M)) := by
  refine zC.of (by decide +kernel) (Nat.le_of_ble_eq_true rfl) ?_
  intro K hKl ok
  subst hKl
  show zW K G 1 _ 0 0 _ N 0 [(0, .int (v))] []
  refine r_iload_n ok dX5_isGauge_0 0 rfl rfl ?_
  refine r_if_lt ok 14 dX5_isGauge_1 (by decide) (fun c1_1 => ?_) (fun c1_1 => ?_)
  · skip
    refine r_iconst ok (nI 0) dX5_isGauge_14 (by rfl) ?_
    refine zW.to (st' := [.int (zb false)]) ?_ rfl rfl rfl
    exact r_zret ok dX5_isGauge_15 (zb_n _) rfl ⟨congrArg (fun z => some (Value.int (zb z))) (show false = (zix v 8).isSome from by first | exact (zixs_neg (by assumption)).symm | exact (zixs_ge (by omega) (by assumption)).symm | exact (zixs_in (by omega) (by assumption) (by assumption)).symm), rfl⟩
  · skip
    refine r_iload_n ok dX5_isGauge_4 0 rfl rfl ?_
    refine r_bipush ok (nI 8) dX5_isGauge_5 (by rfl) ?_
    refine r_icmp_ge ok 14 dX5_isGauge_7 (by decide) (fun c7_2 => ?_) (fun c7_2 => ?_)
    · skip
      refine r_iconst ok (nI 0) dX5_isGauge_14 (by rfl) ?_
      refine zW.to (st' := [.int (zb false)]) ?_ rfl rfl rfl
      exact r_zret ok dX5_isGauge_15 (zb_n _) rfl ⟨congrArg (fun z => some (Value.int (zb z))) (show false = (zix v 8).isSome from by first | exact (zixs_neg (by assumption)).symm | exact (zixs_ge (by omega) (by assumption)).symm | exact (zixs_in (by omega) (by assumption) (by assumption)).symm), rfl⟩
    · skip
      refine r_iconst ok (nI 1) dX5_isGauge_10 (by rfl) ?_
      refine r_goto ok 15 dX5_isGauge_11 (by decide) ?_
      refine zW.to (st' := [.int (zb true)]) ?_ rfl rfl rfl
      exact r_zret ok dX5_isGauge_15 (zb_n _) rfl ⟨congrArg (fun z => some (Value.int (zb z))) (show true = (zix v 8).isSome from by first | exact (zixs_neg (by assumption)).symm | exact (zixs_ge (by omega) (by assumption)).symm | exact (zixs_in (by omega) (by assumption) (by assumption)).symm), rfl⟩
set_option maxHeartbeats 4000000 in
set_option maxRecDepth 100000 in
theorem c_X5_isSet (l : Launch) (G : zG) (M : zM) (N : Nat)  (v : Int32)  : zC l G yX5_isSet cX5_isSet 1 (some .boolean) 0 0 0 0 [.int (v)] (M) N (zP (some (.int (zb (zbe v (nI 0) (nI 63))))) (M)) := by
  refine zC.of (by decide +kernel) (Nat.le_of_ble_eq_true rfl) ?_
  intro K hKl ok
  subst hKl
  show zW K G 1 _ 0 0 _ N 0 [(0, .int (v))] []
  refine r_iload_n ok dX5_isSet_0 0 rfl rfl ?_
  refine r_if_lt ok 14 dX5_isSet_1 (by decide) (fun c1_1 => ?_) (fun c1_1 => ?_)
  · skip
    refine r_iconst ok (nI 0) dX5_isSet_14 (by rfl) ?_
    refine zW.to (st' := [.int (zb false)]) ?_ rfl rfl rfl
    exact r_zret ok dX5_isSet_15 (zb_n _) rfl ⟨congrArg (fun z => some (Value.int (zb z))) (show false = zbe v (nI 0) (nI 63) from by first | exact (zbe_lt (by assumption)).symm | exact (zbe_gt (by assumption)).symm | exact (zbe_ok (by assumption) (by assumption)).symm), rfl⟩
  · skip
    refine r_iload_n ok dX5_isSet_4 0 rfl rfl ?_
    refine r_bipush ok (nI 63) dX5_isSet_5 (by rfl) ?_
    refine r_icmp_gt ok 14 dX5_isSet_7 (by decide) (fun c7_2 => ?_) (fun c7_2 => ?_)
    · skip
      refine r_iconst ok (nI 0) dX5_isSet_14 (by rfl) ?_
      refine zW.to (st' := [.int (zb false)]) ?_ rfl rfl rfl
      exact r_zret ok dX5_isSet_15 (zb_n _) rfl ⟨congrArg (fun z => some (Value.int (zb z))) (show false = zbe v (nI 0) (nI 63) from by first | exact (zbe_lt (by assumption)).symm | exact (zbe_gt (by assumption)).symm | exact (zbe_ok (by assumption) (by assumption)).symm), rfl⟩
    · skip
      refine r_iconst ok (nI 1) dX5_isSet_10 (by rfl) ?_
      refine r_goto ok 15 dX5_isSet_11 (by decide) ?_
      refine zW.to (st' := [.int (zb true)]) ?_ rfl rfl rfl
      exact r_zret ok dX5_isSet_15 (zb_n _) rfl ⟨congrArg (fun z => some (Value.int (zb z))) (show true = zbe v (nI 0) (nI 63) from by first | exact (zbe_lt (by assumption)).symm | exact (zbe_gt (by assumption)).symm | exact (zbe_ok (by assumption) (by assumption)).symm), rfl⟩
set_option maxHeartbeats 4000000 in
set_option maxRecDepth 100000 in
theorem c_X5_isIn (l : Launch) (G : zG) (M : zM) (N : Nat)  (x : Int32) (k : Nat)  : zC l G yX5_isIn cX5_isIn 2 (some .boolean) 0 0 0 0 [.int (x), .int (nI (k))] (M) N (zP (some (.int (zb (zHas x k)))) (M)) := by
  refine zC.of (by decide +kernel) (Nat.le_of_ble_eq_true rfl) ?_
  intro K hKl ok
  subst hKl
  show zW K G 2 _ 0 0 _ N 0 [(0, .int (x)), (1, .int (nI (k)))] []
  refine r_iload_n ok dX5_isIn_0 0 rfl rfl ?_
  refine r_iload_n ok dX5_isIn_1 1 rfl rfl ?_
  refine r_ishr ok dX5_isIn_2 ?_
  refine r_iconst ok (nI 1) dX5_isIn_3 (by rfl) ?_
  refine r_iand ok dX5_isIn_4 ?_
  refine r_iconst ok (nI 1) dX5_isIn_5 (by rfl) ?_
  refine r_icmp_ne ok 13 dX5_isIn_6 (by decide) (fun c6_1 => ?_) (fun c6_1 => ?_)
  · skip
    refine r_iconst ok (nI 0) dX5_isIn_13 (by rfl) ?_
    refine zW.to (st' := [.int (zb false)]) ?_ rfl rfl rfl
    exact r_zret ok dX5_isIn_14 (zb_n _) rfl ⟨congrArg (fun z => some (Value.int (zb z))) (show false = zHas x k from by unfold zHas; first | exact (decide_eq_true (by assumption)).symm | exact (decide_eq_false (by assumption)).symm), rfl⟩
  · skip
    refine r_iconst ok (nI 1) dX5_isIn_9 (by rfl) ?_
    refine r_goto ok 14 dX5_isIn_10 (by decide) ?_
    refine zW.to (st' := [.int (zb true)]) ?_ rfl rfl rfl
    exact r_zret ok dX5_isIn_14 (zb_n _) rfl ⟨congrArg (fun z => some (Value.int (zb z))) (show true = zHas x k from by unfold zHas; first | exact (decide_eq_true (by assumption)).symm | exact (decide_eq_false (by assumption)).symm), rfl⟩
set_option maxHeartbeats 4000000 in
set_option maxRecDepth 100000 in
theorem c_X5_priceOf (l : Launch) (G : zG) (M : zM) (N : Nat)  (g : Nat)  : zC l G yX5_priceOf cX5_priceOf 1 (some .int) 0 0 0 0 [.int (nI (g))] (M) N (zP (some (.int (nI (10 + 5 * g)))) (M)) := by
  refine zC.of (by decide +kernel) (Nat.le_of_ble_eq_true rfl) ?_
  intro K hKl ok
  subst hKl
  show zW K G 1 _ 0 0 _ N 0 [(0, .int (nI (g)))] []
  refine r_bipush ok (nI 10) dX5_priceOf_0 (by rfl) ?_
  refine r_iconst ok (nI 5) dX5_priceOf_2 (by rfl) ?_
  refine r_iload_n ok dX5_priceOf_3 0 rfl rfl ?_
  refine r_imulN ok dX5_priceOf_4 ?_
  refine r_iaddN ok dX5_priceOf_5 ?_
  exact r_iret ok dX5_priceOf_6 rfl ⟨congrArg (fun z => some (Value.int z)) (show nI (10 + (5 * g)) = nI (10 + 5 * g) from by first | rfl | (simp [*]; done)), rfl⟩
set_option maxHeartbeats 4000000 in
set_option maxRecDepth 100000 in
theorem c_X5_weightOf (l : Launch) (G : zG) (M : zM) (N : Nat)  (g : Nat)  : zC l G yX5_weightOf cX5_weightOf 1 (some .int) 0 0 0 0 [.int (nI (g))] (M) N (zP (some (.int (nI (1 + g)))) (M)) := by
  refine zC.of (by decide +kernel) (Nat.le_of_ble_eq_true rfl) ?_
  intro K hKl ok
  subst hKl
  show zW K G 1 _ 0 0 _ N 0 [(0, .int (nI (g)))] []
  refine r_iconst ok (nI 1) dX5_weightOf_0 (by rfl) ?_
  refine r_iload_n ok dX5_weightOf_1 0 rfl rfl ?_
  refine r_iaddN ok dX5_weightOf_2 ?_
  exact r_iret ok dX5_weightOf_3 rfl ⟨rfl, rfl⟩
set_option maxHeartbeats 4000000 in
set_option maxRecDepth 100000 in
theorem c_X5_sumOf (l : Launch) (G : zG) (M : zM) (N : Nat) (n : Nat) (f : Nat → Int32) (x : Nat) (hx : M x = some (zI (G.2.1 0) n f)) (hn : n < 2 ^ 31) : zC l G yX5_sumOf cX5_sumOf 6 (some .int) 0 0 0 0 [.ref x] (M) N (zP (some (.int (lsum f n))) (M)) := by
  refine zC.of (by decide +kernel) (Nat.le_of_ble_eq_true rfl) ?_
  intro K hKl ok
  subst hKl
  show zW K G 6 _ 0 0 _ N 0 [(0, .ref x)] []
  refine r_iconst ok (nI 0) dX5_sumOf_0 (by rfl) ?_
  refine r_istore_n ok [(1, .int (nI 0)), (0, .ref x)] dX5_sumOf_1 rfl (by decide) rfl ?_
  refine r_aload_n ok dX5_sumOf_2 1 rfl rfl ?_
  refine r_astore_n ok [(2, .ref x), (1, .int (nI 0)), (0, .ref x)] dX5_sumOf_3 rfl (by decide) rfl ?_
  refine r_aload_n ok dX5_sumOf_4 0 rfl rfl ?_
  refine r_alen ok (nI n) (t := 0) rfl dX5_sumOf_5 hx (by rfl) ?_
  refine r_istore_n ok [(3, .int (nI (n))), (2, .ref x), (1, .int (nI 0)), (0, .ref x)] dX5_sumOf_6 rfl (by decide) rfl ?_
  refine r_iconst ok (nI 0) dX5_sumOf_7 (by rfl) ?_
  refine r_istore ok [(4, .int (nI 0)), (3, .int (nI (n))), (2, .ref x), (1, .int (nI 0)), (0, .ref x)] dX5_sumOf_8 (by decide) rfl ?_
  have L1 : ∀ (nL1 : Nat) (k : Nat), ((k + nL1 = n)) → zW K G 6 (zQ K G (N + 0) 0 0 (zP (some (.int (lsum f n))) (M))) 0 0 (M) N 10 [(0, .ref x), (1, .int (lsum f k)), (2, .ref x), (3, .int (nI (n))), (4, .int (nI (k)))] [] := by
    intro nL1
    induction nL1 with
    | zero =>
      intro k hk_k 
      obtain rfl : n = k := by omega
      refine r_iload ok dX5_sumOf_10 4 rfl ?_
      refine r_iload_n ok dX5_sumOf_12 3 rfl rfl ?_
      refine r_icmp_geN ok 33 (by omega) (by omega) dX5_sumOf_13 (by decide) (fun c13_2 => ?_) (fun c13_2 => ?_)
      · skip
        refine r_iload_n ok dX5_sumOf_33 1 rfl rfl ?_
        exact r_iret ok dX5_sumOf_34 rfl ⟨rfl, rfl⟩
      · skip
        exact absurd c13_2 (by omega)
    | succ nL1 ihL1 =>
      intro k hk_k 
      refine r_iload ok dX5_sumOf_10 4 rfl ?_
      refine r_iload_n ok dX5_sumOf_12 3 rfl rfl ?_
      refine r_icmp_geN ok 33 (by omega) (by omega) dX5_sumOf_13 (by decide) (fun c13_3 => ?_) (fun c13_3 => ?_)
      · skip
        exact absurd c13_3 (by omega)
      · skip
        refine r_aload_n ok dX5_sumOf_16 2 rfl rfl ?_
        refine r_iload ok dX5_sumOf_17 4 rfl ?_
        refine r_ialdN ok (by omega) (by omega) dX5_sumOf_19 hx ?_
        refine r_istore ok [(5, .int (f k)), (0, .ref x), (1, .int (lsum f k)), (2, .ref x), (3, .int (nI (n))), (4, .int (nI (k)))] dX5_sumOf_20 (by decide) rfl ?_
        refine r_iload_n ok dX5_sumOf_22 2 rfl rfl ?_
        refine r_iload ok dX5_sumOf_23 0 rfl ?_
        refine r_iadd ok dX5_sumOf_25 ?_
        refine r_istore_n ok [(1, .int ((lsum f k) + (f k))), (5, .int (f k)), (0, .ref x), (2, .ref x), (3, .int (nI (n))), (4, .int (nI (k)))] dX5_sumOf_26 rfl (by decide) rfl ?_
        refine r_iincN ok (c := 1) [(4, .int (nI (k + 1))), (1, .int ((lsum f k) + (f k))), (5, .int (f k)), (0, .ref x), (2, .ref x), (3, .int (nI (n)))] dX5_sumOf_27 5 rfl (by rfl) (by decide) rfl ?_
        refine r_goto ok 10 dX5_sumOf_30 (by decide) ?_
        have q4 : Value.int ((lsum f k) + (f k)) = Value.int (lsum f (k + 1)) := by first | with_reducible rfl | (simp [lsum_s])
        refine zW.forget (lv' := [(0, .ref x), (1, .int ((lsum f k) + (f k))), (2, .ref x), (3, .int (nI (n))), (4, .int (nI (k + 1)))]) ?_ [3, 1, 4, 5, 0] rfl
        refine zW.to (lv' := [(0, .ref x), (1, .int (lsum f (k + 1))), (2, .ref x), (3, .int (nI (n))), (4, .int (nI (k + 1)))]) ?_ rfl (congrArg (fun z => ([(0, .ref x), (1, z), (2, .ref x), (3, .int (nI (n))), (4, .int (nI (k + 1)))] : List (Nat × Value))) q4) rfl
        exact ihL1 (k + 1) (by omega)
  have q5 : Value.int (nI 0) = Value.int (lsum f 0) := by first | with_reducible rfl | (rfl)
  refine zW.forget (lv' := [(0, .ref x), (1, .int (nI 0)), (2, .ref x), (3, .int (nI (n))), (4, .int (nI 0))]) ?_ [4, 3, 2, 1, 0] rfl
  refine zW.to (lv' := [(0, .ref x), (1, .int (lsum f 0)), (2, .ref x), (3, .int (nI (n))), (4, .int (nI 0))]) ?_ rfl (congrArg (fun z => ([(0, .ref x), (1, z), (2, .ref x), (3, .int (nI (n))), (4, .int (nI 0))] : List (Nat × Value))) q5) rfl
  exact L1 n 0 (by omega)
set_option maxHeartbeats 4000000 in
set_option maxRecDepth 100000 in
theorem c_X5_dutyOn (l : Launch) (G : zG) (M : zM) (N : Nat) (f : Nat → Int32) (v : Int32) (x : Nat) (hx : M x = some (zI (G.2.1 0) 9 f)) : zC l G yX5_dutyOn cX5_dutyOn 2 (some .int) 1 21 0 0 [.int (v), .ref x] (M) N (zP (some (.int (zDutyC f v))) (M)) := by
  refine zC.of (by decide +kernel) (Nat.le_of_ble_eq_true rfl) ?_
  intro K hKl ok
  subst hKl
  show zW K G 2 _ 0 0 _ N 0 [(0, .int (v)), (1, .ref x)] []
  refine r_iload_n ok dX5_dutyOn_0 0 rfl rfl ?_
  refine r_aload_n ok dX5_dutyOn_1 1 rfl rfl ?_
  refine r_iconst ok (nI 5) dX5_dutyOn_2 (by rfl) ?_
  refine r_ialdN ok (by omega) (by omega) dX5_dutyOn_3 hx ?_
  refine r_isub ok dX5_dutyOn_4 ?_
  refine r_iconst ok (nI 0) dX5_dutyOn_5 (by rfl) ?_
  refine r_mmax ok [] ml_X5_241 sm_J9_max_7cf53 in_J9 lm_max_c dX5_dutyOn_6 (Nat.le_of_ble_eq_true rfl) (Nat.le_of_ble_eq_true rfl) (Nat.zero_le _) (Nat.zero_le _) ?_
  refine r_aload_n ok dX5_dutyOn_9 1 rfl rfl ?_
  refine r_bipush ok (nI 6) dX5_dutyOn_10 (by rfl) ?_
  refine r_ialdN ok (by omega) (by omega) dX5_dutyOn_12 hx ?_
  refine r_imul ok dX5_dutyOn_13 ?_
  refine r_bipush ok (nI 100) dX5_dutyOn_14 (by rfl) ?_
  refine r_idiv ok (by decide) dX5_dutyOn_16 ?_
  exact r_iret ok dX5_dutyOn_17 rfl ⟨congrArg (fun z => some (Value.int z)) (show ((if (v - (f 5)) < (nI 0) then (nI 0) else (v - (f 5))) * (f 6)) / (nI 100) = zDutyC f v from by rfl), rfl⟩
set_option maxHeartbeats 4000000 in
set_option maxRecDepth 100000 in
theorem c_X5_copyRow (l : Launch) (G : zG) (M : zM) (N : Nat) (n : Nat) (f : Nat → Int32) (g : Nat → Int32) (x : Nat) (z : Nat) (hx : M x = some (zI (G.2.1 0) n f)) (hz : M z = some (zI (G.2.1 0) n g)) (hn : n < 2 ^ 31) : zC l G yX5_copyRow cX5_copyRow 2 (none) 1 48 0 0 [.ref x, .ref z] (M) N (zP none (zu M z (zI (G.2.1 0) n (zC0 g f n)))) := by
  refine zC.of (by decide +kernel) (Nat.le_of_ble_eq_true rfl) ?_
  intro K hKl ok
  subst hKl
  show zW K G 2 _ 0 0 _ N 0 [(0, .ref x), (1, .ref z)] []
  refine r_aload_n ok dX5_copyRow_0 0 rfl rfl ?_
  refine r_iconst ok (nI 0) dX5_copyRow_1 (by rfl) ?_
  refine r_aload_n ok dX5_copyRow_2 1 rfl rfl ?_
  refine r_iconst ok (nI 0) dX5_copyRow_3 (by rfl) ?_
  refine r_aload_n ok dX5_copyRow_4 0 rfl rfl ?_
  refine r_alen ok (nI n) (t := 0) rfl dX5_copyRow_5 hx (by rfl) ?_
  refine r_aload_n ok dX5_copyRow_6 1 rfl rfl ?_
  refine r_alen ok (nI n) (t := 0) rfl dX5_copyRow_7 hz (by rfl) ?_
  refine r_mmin ok [.int (nI 0), .ref z, .int (nI 0), .ref x] ml_X5_245 sm_J9_min_7cf53 in_J9 lm_min_c dX5_copyRow_8 (Nat.le_of_ble_eq_true rfl) (Nat.le_of_ble_eq_true rfl) (Nat.zero_le _) (Nat.zero_le _) ?_
  refine zW.to (st' := [.int (nI (n)), .int (nI 0), .ref z, .int (nI 0), .ref x]) ?_ rfl rfl (by simp)
  refine r_acopy ok [] ml_X5_248 nt_System_arraycopy__Ljava_lang_Object_ILjava_lang_Object_II_V sm_System_arraycopy__Ljava_lang_Object_ILjava_lang_Object_II_V in_java_lang_System dX5_copyRow_11 hx hz (by omega) (by omega) (by omega) (Nat.le_of_ble_eq_true rfl) (Nat.le_of_ble_eq_true rfl) rfl ?_
  exact r_vret ok dX5_copyRow_14 rfl ⟨rfl, rfl⟩
