set_option maxHeartbeats 4000000 in
set_option maxRecDepth 100000 in
theorem c_X6_shares (l : Launch) (G : zG) (M : zM) (N a : Nat) (s sA sH sL : Nat → Int32) (sI : Nat → Bool) (sP sT sG : Nat → Int32) (kp ln po : Int32) (wr : Bool)  (am : Int32)  : zC l G yX6_shares cX6_shares 6 (none) 0 0 0 0 [.ref a, .int (am)] (mdM G M a s sA sH sL sI sP sT sG kp ln po wr) N (zP none (mdM G M a s sA sH sL sI sP sT (zGets am sT sG) kp ln po wr)) := by
  refine zC.of (by decide +kernel) (Nat.le_of_ble_eq_true rfl) ?_
  intro K hKl ok
  subst hKl
  show zW K G 6 _ 0 0 _ N 0 [(0, .ref a), (1, .int (am))] []
  refine r_iconst ok (nI 0) dX6_shares_0 (by rfl) ?_
  refine r_istore_n ok [(2, .int (nI 0)), (0, .ref a), (1, .int (am))] dX6_shares_1 rfl (by decide) rfl ?_
  refine r_iconst ok (nI 0) dX6_shares_2 (by rfl) ?_
  refine r_istore_n ok [(3, .int (nI 0)), (2, .int (nI 0)), (0, .ref a), (1, .int (am))] dX6_shares_3 rfl (by decide) rfl ?_
  have L1 : ∀ (nL1 : Nat) (k : Nat), ((k + nL1 = 6)) → zW K G 6 (zQ K G (N + 0) 0 0 (zP none (mdM G M a s sA sH sL sI sP sT (zGets am sT sG) kp ln po wr))) 0 0 (mdM G M a s sA sH sL sI sP sT sG kp ln po wr) N 4 [(0, .ref a), (1, .int (am)), (2, .int (lsum sT k)), (3, .int (nI (k)))] [] := by
    intro nL1
    induction nL1 with
    | zero =>
      intro k hk_k 
      obtain rfl : 6 = k := by omega
      refine r_iload_n ok dX6_shares_4 3 rfl rfl ?_
      refine r_bipush ok (nI 6) dX6_shares_5 (by rfl) ?_
      refine r_icmp_geN ok 25 (by omega) (by omega) dX6_shares_7 (by decide) (fun _ => ?_) (fun c => absurd c (by decide))
      refine r_iload_n ok dX6_shares_25 1 rfl rfl ?_
      refine r_istore_n ok [(3, .int (am)), (0, .ref a), (1, .int (am)), (2, .int (lsum sT 6))] dX6_shares_26 rfl (by decide) rfl ?_
      refine r_iconst ok (nI 0) dX6_shares_27 (by rfl) ?_
      refine r_istore ok [(4, .int (nI 0)), (3, .int (am)), (0, .ref a), (1, .int (am)), (2, .int (lsum sT 6))] dX6_shares_28 (by decide) rfl ?_
      have L3 : ∀ (nL3 : Nat) (k : Nat), ((k + nL3 = 6)) → zW K G 6 (zQ K G (N + 0) 0 0 (zP none (mdM G M a s sA sH sL sI sP sT (zGets am sT sG) kp ln po wr))) 0 0 (mdM G M a s sA sH sL sI sP sT (zC0 sG (zBase am sT) k) kp ln po wr) N 30 [(0, .ref a), (1, .int (am)), (2, .int (lsum sT 6)), (3, .int (zLft am sT k)), (4, .int (nI (k)))] [] := by
        intro nL3
        induction nL3 with
        | zero =>
          intro k hk_k 
          obtain rfl : 6 = k := by omega
          refine r_iload ok dX6_shares_30 4 rfl ?_
          refine r_bipush ok (nI 6) dX6_shares_32 (by rfl) ?_
          refine r_icmp_geN ok 79 (by omega) (by omega) dX6_shares_34 (by decide) (fun _ => ?_) (fun c => absurd c (by decide))
          refine r_iconst ok (nI 0) dX6_shares_79 (by rfl) ?_
          refine r_istore ok [(4, .int (nI 0)), (0, .ref a), (1, .int (am)), (2, .int (lsum sT 6)), (3, .int (zLft am sT 6))] dX6_shares_80 (by decide) rfl ?_
          have L5 : ∀ (nL5 : Nat) (k : Nat), ((k + nL5 = 6)) → zW K G 6 (zQ K G (N + 0) 0 0 (zP none (mdM G M a s sA sH sL sI sP sT (zGets am sT sG) kp ln po wr))) 0 0 (mdM G M a s sA sH sL sI sP sT (zG2 am sT sG k) kp ln po wr) N 82 [(0, .ref a), (1, .int (am)), (2, .int (lsum sT 6)), (3, .int (zLf2 am sT k)), (4, .int (nI (k)))] [] := by
            intro nL5
            induction nL5 with
            | zero =>
              intro k hk_k 
              obtain rfl : 6 = k := by omega
              refine r_iload ok dX6_shares_82 4 rfl ?_
              refine r_bipush ok (nI 6) dX6_shares_84 (by rfl) ?_
              refine r_icmp_geN ok 153 (by omega) (by omega) dX6_shares_86 (by decide) (fun _ => ?_) (fun c => absurd c (by decide))
              exact r_vret ok dX6_shares_153 rfl ⟨rfl, (by first | rfl | (rw [zG2_le _ _ _ _ (by omega) (by assumption)]))⟩
            | succ nL5 ihL5 =>
              intro k hk_k 
              refine r_iload ok dX6_shares_82 4 rfl ?_
              refine r_bipush ok (nI 6) dX6_shares_84 (by rfl) ?_
              refine r_icmp_geN ok 153 (by omega) (by omega) dX6_shares_86 (by decide) (fun c86_7 => ?_) (fun c86_7 => ?_)
              · skip
                exact absurd c86_7 (by omega)
              · skip
                refine r_iload_n ok dX6_shares_89 2 rfl rfl ?_
                refine r_if_le ok 153 dX6_shares_90 (by decide) (fun c90_8 => ?_) (fun c90_8 => ?_)
                · skip
                  exact r_vret ok dX6_shares_153 rfl ⟨rfl, (by first | rfl | (rw [zG2_le _ _ _ _ (by omega) (by assumption)]))⟩
                · skip
                  refine r_aload_n ok dX6_shares_93 0 rfl rfl ?_
                  refine r_getf ok ci_X6 fl_X6_29 (by decide) dX6_shares_94 md_o rfl ?_
                  refine r_iload ok dX6_shares_97 4 rfl ?_
                  refine r_ialdN ok (by omega) (by omega) dX6_shares_99 md_sT ?_
                  refine r_if_le ok 111 dX6_shares_100 (by decide) (fun c100_9 => ?_) (fun c100_9 => ?_)
                  · skip
                    refine r_iconst ok (nI 0) dX6_shares_111 (by rfl) ?_
                    refine r_istore ok [(5, .int (nI 0)), (0, .ref a), (1, .int (am)), (2, .int (lsum sT 6)), (3, .int (zLf2 am sT k)), (4, .int (nI (k)))] dX6_shares_112 (by decide) rfl ?_
                    refine r_aload_n ok dX6_shares_114 1 rfl rfl ?_
                    refine r_getf ok ci_X6 fl_X6_32 (by decide) dX6_shares_115 md_o rfl ?_
                    refine r_iload ok dX6_shares_118 5 rfl ?_
                    refine r_dup2 ok dX6_shares_120 rfl rfl ?_
                    refine r_ialdN ok (by omega) (by omega) dX6_shares_121 md_sG ?_
                    refine zW.to (st' := [.int (zBase am sT k), .int (nI (k)), .ref (a + 8)]) ?_ rfl rfl (congrArg (fun z => (Value.int z :: [.int (nI (k)), .ref (a + 8)] : List Value)) (show (zG2 am sT sG k) k = zBase am sT k from (zG2_at am sT sG (by omega))))
                    refine r_iload ok dX6_shares_122 0 rfl ?_
                    refine r_if_eqN ok 131 (by omega) dX6_shares_124 (by decide) (fun _ => ?_) (fun c => absurd c (by decide))
                    refine r_iconst ok (nI 0) dX6_shares_131 (by rfl) ?_
                    refine r_iadd ok dX6_shares_132 ?_
                    refine r_iastN ok (by omega) (by omega) dX6_shares_133 md_sG (mdw_sG _) ?_
                    refine r_iload_n ok dX6_shares_134 4 rfl rfl ?_
                    refine r_iload ok dX6_shares_135 0 rfl ?_
                    refine r_if_eqN ok 144 (by omega) dX6_shares_137 (by decide) (fun _ => ?_) (fun c => absurd c (by decide))
                    refine r_iconst ok (nI 0) dX6_shares_144 (by rfl) ?_
                    refine r_isub ok dX6_shares_145 ?_
                    refine r_istore_n ok [(3, .int ((zLf2 am sT k) - (nI 0))), (5, .int (nI 0)), (0, .ref a), (1, .int (am)), (2, .int (lsum sT 6)), (4, .int (nI (k)))] dX6_shares_146 rfl (by decide) rfl ?_
                    refine r_iincN ok (c := 1) [(4, .int (nI (k + 1))), (3, .int ((zLf2 am sT k) - (nI 0))), (5, .int (nI 0)), (0, .ref a), (1, .int (am)), (2, .int (lsum sT 6))] dX6_shares_147 5 rfl (by rfl) (by decide) rfl ?_
                    refine r_goto ok 82 dX6_shares_150 (by decide) ?_
                    have q12 : Value.int ((zLf2 am sT k) - (nI 0)) = Value.int (zLf2 am sT (k + 1)) := by first | with_reducible rfl | (first | (rw [← zG2_s]; simp [zGet, zGiv, nI_0, nI_one, *]; done) | simp [zLf2, zGiv, nI_0, nI_one, *])
                    have q13 : (upd (zG2 am sT sG k) k ((zBase am sT k) + (nI 0)) : Nat → Int32) = zG2 am sT sG (k + 1) := by first | with_reducible rfl | (first | (rw [← zG2_s]; simp [zGet, zGiv, nI_0, nI_one, *]; done) | simp [zLf2, zGiv, nI_0, nI_one, *])
                    refine zW.forget (lv' := [(0, .ref a), (1, .int (am)), (2, .int (lsum sT 6)), (3, .int ((zLf2 am sT k) - (nI 0))), (4, .int (nI (k + 1)))]) ?_ [3, 4, 5, 1, 0] rfl
                    refine zW.to (lv' := [(0, .ref a), (1, .int (am)), (2, .int (lsum sT 6)), (3, .int (zLf2 am sT (k + 1))), (4, .int (nI (k + 1)))]) ?_ rfl (congrArg (fun z => ([(0, .ref a), (1, .int (am)), (2, .int (lsum sT 6)), (3, z), (4, .int (nI (k + 1)))] : List (Nat × Value))) q12) rfl
                    refine zW.to ?_ (congrArg (fun z => mdM G M a s sA sH sL sI sP sT z kp ln po wr) q13) rfl rfl
                    exact ihL5 (k + 1) (by omega)
                  · skip
                    refine r_iload_n ok dX6_shares_103 3 rfl rfl ?_
                    refine r_if_le ok 111 dX6_shares_104 (by decide) (fun c104_14 => ?_) (fun c104_14 => ?_)
                    · skip
                      refine r_iconst ok (nI 0) dX6_shares_111 (by rfl) ?_
                      refine r_istore ok [(5, .int (nI 0)), (0, .ref a), (1, .int (am)), (2, .int (lsum sT 6)), (3, .int (zLf2 am sT k)), (4, .int (nI (k)))] dX6_shares_112 (by decide) rfl ?_
                      refine r_aload_n ok dX6_shares_114 1 rfl rfl ?_
                      refine r_getf ok ci_X6 fl_X6_32 (by decide) dX6_shares_115 md_o rfl ?_
                      refine r_iload ok dX6_shares_118 5 rfl ?_
                      refine r_dup2 ok dX6_shares_120 rfl rfl ?_
                      refine r_ialdN ok (by omega) (by omega) dX6_shares_121 md_sG ?_
                      refine zW.to (st' := [.int (zBase am sT k), .int (nI (k)), .ref (a + 8)]) ?_ rfl rfl (congrArg (fun z => (Value.int z :: [.int (nI (k)), .ref (a + 8)] : List Value)) (show (zG2 am sT sG k) k = zBase am sT k from (zG2_at am sT sG (by omega))))
                      refine r_iload ok dX6_shares_122 0 rfl ?_
                      refine r_if_eqN ok 131 (by omega) dX6_shares_124 (by decide) (fun _ => ?_) (fun c => absurd c (by decide))
                      refine r_iconst ok (nI 0) dX6_shares_131 (by rfl) ?_
                      refine r_iadd ok dX6_shares_132 ?_
                      refine r_iastN ok (by omega) (by omega) dX6_shares_133 md_sG (mdw_sG _) ?_
                      refine r_iload_n ok dX6_shares_134 4 rfl rfl ?_
                      refine r_iload ok dX6_shares_135 0 rfl ?_
                      refine r_if_eqN ok 144 (by omega) dX6_shares_137 (by decide) (fun _ => ?_) (fun c => absurd c (by decide))
                      refine r_iconst ok (nI 0) dX6_shares_144 (by rfl) ?_
                      refine r_isub ok dX6_shares_145 ?_
                      refine r_istore_n ok [(3, .int ((zLf2 am sT k) - (nI 0))), (5, .int (nI 0)), (0, .ref a), (1, .int (am)), (2, .int (lsum sT 6)), (4, .int (nI (k)))] dX6_shares_146 rfl (by decide) rfl ?_
                      refine r_iincN ok (c := 1) [(4, .int (nI (k + 1))), (3, .int ((zLf2 am sT k) - (nI 0))), (5, .int (nI 0)), (0, .ref a), (1, .int (am)), (2, .int (lsum sT 6))] dX6_shares_147 5 rfl (by rfl) (by decide) rfl ?_
                      refine r_goto ok 82 dX6_shares_150 (by decide) ?_
                      have q17 : Value.int ((zLf2 am sT k) - (nI 0)) = Value.int (zLf2 am sT (k + 1)) := by first | with_reducible rfl | (first | (rw [← zG2_s]; simp [zGet, zGiv, nI_0, nI_one, *]; done) | simp [zLf2, zGiv, nI_0, nI_one, *])
                      have q18 : (upd (zG2 am sT sG k) k ((zBase am sT k) + (nI 0)) : Nat → Int32) = zG2 am sT sG (k + 1) := by first | with_reducible rfl | (first | (rw [← zG2_s]; simp [zGet, zGiv, nI_0, nI_one, *]; done) | simp [zLf2, zGiv, nI_0, nI_one, *])
                      refine zW.forget (lv' := [(0, .ref a), (1, .int (am)), (2, .int (lsum sT 6)), (3, .int ((zLf2 am sT k) - (nI 0))), (4, .int (nI (k + 1)))]) ?_ [3, 4, 5, 1, 0] rfl
                      refine zW.to (lv' := [(0, .ref a), (1, .int (am)), (2, .int (lsum sT 6)), (3, .int (zLf2 am sT (k + 1))), (4, .int (nI (k + 1)))]) ?_ rfl (congrArg (fun z => ([(0, .ref a), (1, .int (am)), (2, .int (lsum sT 6)), (3, z), (4, .int (nI (k + 1)))] : List (Nat × Value))) q17) rfl
                      refine zW.to ?_ (congrArg (fun z => mdM G M a s sA sH sL sI sP sT z kp ln po wr) q18) rfl rfl
                      exact ihL5 (k + 1) (by omega)
                    · skip
                      refine r_iconst ok (nI 1) dX6_shares_107 (by rfl) ?_
                      refine r_goto ok 112 dX6_shares_108 (by decide) ?_
                      refine r_istore ok [(5, .int (nI 1)), (0, .ref a), (1, .int (am)), (2, .int (lsum sT 6)), (3, .int (zLf2 am sT k)), (4, .int (nI (k)))] dX6_shares_112 (by decide) rfl ?_
                      refine r_aload_n ok dX6_shares_114 1 rfl rfl ?_
                      refine r_getf ok ci_X6 fl_X6_32 (by decide) dX6_shares_115 md_o rfl ?_
                      refine r_iload ok dX6_shares_118 5 rfl ?_
                      refine r_dup2 ok dX6_shares_120 rfl rfl ?_
                      refine r_ialdN ok (by omega) (by omega) dX6_shares_121 md_sG ?_
                      refine zW.to (st' := [.int (zBase am sT k), .int (nI (k)), .ref (a + 8)]) ?_ rfl rfl (congrArg (fun z => (Value.int z :: [.int (nI (k)), .ref (a + 8)] : List Value)) (show (zG2 am sT sG k) k = zBase am sT k from (zG2_at am sT sG (by omega))))
                      refine r_iload ok dX6_shares_122 0 rfl ?_
                      refine r_if_eqN ok 131 (by omega) dX6_shares_124 (by decide) (fun c => absurd c (by decide)) (fun _ => ?_)
                      refine r_iconst ok (nI 1) dX6_shares_127 (by rfl) ?_
                      refine r_goto ok 132 dX6_shares_128 (by decide) ?_
                      refine r_iadd ok dX6_shares_132 ?_
                      refine r_iastN ok (by omega) (by omega) dX6_shares_133 md_sG (mdw_sG _) ?_
                      refine r_iload_n ok dX6_shares_134 4 rfl rfl ?_
                      refine r_iload ok dX6_shares_135 0 rfl ?_
                      refine r_if_eqN ok 144 (by omega) dX6_shares_137 (by decide) (fun c => absurd c (by decide)) (fun _ => ?_)
                      refine r_iconst ok (nI 1) dX6_shares_140 (by rfl) ?_
                      refine r_goto ok 145 dX6_shares_141 (by decide) ?_
                      refine r_isub ok dX6_shares_145 ?_
                      refine r_istore_n ok [(3, .int ((zLf2 am sT k) - (nI 1))), (5, .int (nI 1)), (0, .ref a), (1, .int (am)), (2, .int (lsum sT 6)), (4, .int (nI (k)))] dX6_shares_146 rfl (by decide) rfl ?_
                      refine r_iincN ok (c := 1) [(4, .int (nI (k + 1))), (3, .int ((zLf2 am sT k) - (nI 1))), (5, .int (nI 1)), (0, .ref a), (1, .int (am)), (2, .int (lsum sT 6))] dX6_shares_147 5 rfl (by rfl) (by decide) rfl ?_
                      refine r_goto ok 82 dX6_shares_150 (by decide) ?_
                      have q21 : Value.int ((zLf2 am sT k) - (nI 1)) = Value.int (zLf2 am sT (k + 1)) := by first | with_reducible rfl | (first | (rw [← zG2_s]; simp [zGet, zGiv, nI_0, nI_one, *]; done) | simp [zLf2, zGiv, nI_0, nI_one, *])
                      have q22 : (upd (zG2 am sT sG k) k ((zBase am sT k) + (nI 1)) : Nat → Int32) = zG2 am sT sG (k + 1) := by first | with_reducible rfl | (first | (rw [← zG2_s]; simp [zGet, zGiv, nI_0, nI_one, *]; done) | simp [zLf2, zGiv, nI_0, nI_one, *])
                      refine zW.forget (lv' := [(0, .ref a), (1, .int (am)), (2, .int (lsum sT 6)), (3, .int ((zLf2 am sT k) - (nI 1))), (4, .int (nI (k + 1)))]) ?_ [3, 4, 5, 1, 0] rfl
                      refine zW.to (lv' := [(0, .ref a), (1, .int (am)), (2, .int (lsum sT 6)), (3, .int (zLf2 am sT (k + 1))), (4, .int (nI (k + 1)))]) ?_ rfl (congrArg (fun z => ([(0, .ref a), (1, .int (am)), (2, .int (lsum sT 6)), (3, z), (4, .int (nI (k + 1)))] : List (Nat × Value))) q21) rfl
                      refine zW.to ?_ (congrArg (fun z => mdM G M a s sA sH sL sI sP sT z kp ln po wr) q22) rfl rfl
                      exact ihL5 (k + 1) (by omega)
          have q23 : Value.int (zLft am sT 6) = Value.int (zLf2 am sT 0) := by first | with_reducible rfl | (first | rfl | (unfold zG2; rw [zC0_0]))
          have q24 : (zC0 sG (zBase am sT) 6 : Nat → Int32) = zG2 am sT sG 0 := by first | with_reducible rfl | (first | rfl | (unfold zG2; rw [zC0_0]))
          refine zW.forget (lv' := [(0, .ref a), (1, .int (am)), (2, .int (lsum sT 6)), (3, .int (zLft am sT 6)), (4, .int (nI 0))]) ?_ [1, 2, 3, 4, 0] rfl
          refine zW.to (lv' := [(0, .ref a), (1, .int (am)), (2, .int (lsum sT 6)), (3, .int (zLf2 am sT 0)), (4, .int (nI 0))]) ?_ rfl (congrArg (fun z => ([(0, .ref a), (1, .int (am)), (2, .int (lsum sT 6)), (3, z), (4, .int (nI 0))] : List (Nat × Value))) q23) rfl
          refine zW.to ?_ (congrArg (fun z => mdM G M a s sA sH sL sI sP sT z kp ln po wr) q24) rfl rfl
          exact L5 6 0 (by omega)
        | succ nL3 ihL3 =>
          intro k hk_k 
          refine r_iload ok dX6_shares_30 4 rfl ?_
          refine r_bipush ok (nI 6) dX6_shares_32 (by rfl) ?_
          refine r_icmp_geN ok 79 (by omega) (by omega) dX6_shares_34 (by decide) (fun c34_25 => ?_) (fun c34_25 => ?_)
          · skip
            exact absurd c34_25 (by omega)
          · skip
            refine r_aload_n ok dX6_shares_37 0 rfl rfl ?_
            refine r_getf ok ci_X6 fl_X6_32 (by decide) dX6_shares_38 md_o rfl ?_
            refine r_iload ok dX6_shares_41 4 rfl ?_
            refine r_iload_n ok dX6_shares_43 2 rfl rfl ?_
            refine r_if_ne ok 51 dX6_shares_44 (by decide) (fun c44_26 => ?_) (fun c44_26 => ?_)
            · skip
              refine r_iload_n ok dX6_shares_51 1 rfl rfl ?_
              refine r_aload_n ok dX6_shares_52 0 rfl rfl ?_
              refine r_getf ok ci_X6 fl_X6_29 (by decide) dX6_shares_53 md_o rfl ?_
              refine r_iload ok dX6_shares_56 4 rfl ?_
              refine r_ialdN ok (by omega) (by omega) dX6_shares_58 md_sT ?_
              refine r_imul ok dX6_shares_59 ?_
              refine r_iload_n ok dX6_shares_60 2 rfl rfl ?_
              refine r_idiv ok (by assumption) dX6_shares_61 ?_
              refine r_iastN ok (by omega) (by omega) dX6_shares_62 md_sG (mdw_sG _) ?_
              refine r_iload_n ok dX6_shares_63 3 rfl rfl ?_
              refine r_aload_n ok dX6_shares_64 0 rfl rfl ?_
              refine r_getf ok ci_X6 fl_X6_32 (by decide) dX6_shares_65 md_o rfl ?_
              refine r_iload ok dX6_shares_68 4 rfl ?_
              refine r_ialdN ok (by omega) (by omega) dX6_shares_70 md_sG ?_
              refine zW.to (st' := [.int ((am * (sT k)) / (lsum sT 6)), .int (zLft am sT k)]) ?_ rfl rfl (congrArg (fun z => (Value.int z :: [.int (zLft am sT k)] : List Value)) (show (upd (zC0 sG (zBase am sT) k) k ((am * (sT k)) / (lsum sT 6))) k = (am * (sT k)) / (lsum sT 6) from pk_us))
              refine r_isub ok dX6_shares_71 ?_
              refine r_istore_n ok [(3, .int ((zLft am sT k) - ((am * (sT k)) / (lsum sT 6)))), (0, .ref a), (1, .int (am)), (2, .int (lsum sT 6)), (4, .int (nI (k)))] dX6_shares_72 rfl (by decide) rfl ?_
              refine r_iincN ok (c := 1) [(4, .int (nI (k + 1))), (3, .int ((zLft am sT k) - ((am * (sT k)) / (lsum sT 6)))), (0, .ref a), (1, .int (am)), (2, .int (lsum sT 6))] dX6_shares_73 4 rfl (by rfl) (by decide) rfl ?_
              refine r_goto ok 30 dX6_shares_76 (by decide) ?_
              have q27 : Value.int ((zLft am sT k) - ((am * (sT k)) / (lsum sT 6))) = Value.int (zLft am sT (k + 1)) := by first | with_reducible rfl | (first | (rw [← zC0_s]; simp [zBase, nI_0, *]; done) | simp [zLft, zBase, nI_0, *])
              have q28 : (upd (zC0 sG (zBase am sT) k) k ((am * (sT k)) / (lsum sT 6)) : Nat → Int32) = zC0 sG (zBase am sT) (k + 1) := by first | with_reducible rfl | (first | (rw [← zC0_s]; simp [zBase, nI_0, *]; done) | simp [zLft, zBase, nI_0, *])
              refine zW.forget (lv' := [(0, .ref a), (1, .int (am)), (2, .int (lsum sT 6)), (3, .int ((zLft am sT k) - ((am * (sT k)) / (lsum sT 6)))), (4, .int (nI (k + 1)))]) ?_ [2, 3, 4, 1, 0] rfl
              refine zW.to (lv' := [(0, .ref a), (1, .int (am)), (2, .int (lsum sT 6)), (3, .int (zLft am sT (k + 1))), (4, .int (nI (k + 1)))]) ?_ rfl (congrArg (fun z => ([(0, .ref a), (1, .int (am)), (2, .int (lsum sT 6)), (3, z), (4, .int (nI (k + 1)))] : List (Nat × Value))) q27) rfl
              refine zW.to ?_ (congrArg (fun z => mdM G M a s sA sH sL sI sP sT z kp ln po wr) q28) rfl rfl
              exact ihL3 (k + 1) (by omega)
            · skip
              refine r_iconst ok (nI 0) dX6_shares_47 (by rfl) ?_
              refine r_goto ok 62 dX6_shares_48 (by decide) ?_
              refine r_iastN ok (by omega) (by omega) dX6_shares_62 md_sG (mdw_sG _) ?_
              refine r_iload_n ok dX6_shares_63 3 rfl rfl ?_
              refine r_aload_n ok dX6_shares_64 0 rfl rfl ?_
              refine r_getf ok ci_X6 fl_X6_32 (by decide) dX6_shares_65 md_o rfl ?_
              refine r_iload ok dX6_shares_68 4 rfl ?_
              refine r_ialdN ok (by omega) (by omega) dX6_shares_70 md_sG ?_
              refine zW.to (st' := [.int (nI 0), .int (zLft am sT k)]) ?_ rfl rfl (congrArg (fun z => (Value.int z :: [.int (zLft am sT k)] : List Value)) (show (upd (zC0 sG (zBase am sT) k) k (nI 0)) k = nI 0 from pk_us))
              refine r_isub ok dX6_shares_71 ?_
              refine r_istore_n ok [(3, .int ((zLft am sT k) - (nI 0))), (0, .ref a), (1, .int (am)), (2, .int (lsum sT 6)), (4, .int (nI (k)))] dX6_shares_72 rfl (by decide) rfl ?_
              refine r_iincN ok (c := 1) [(4, .int (nI (k + 1))), (3, .int ((zLft am sT k) - (nI 0))), (0, .ref a), (1, .int (am)), (2, .int (lsum sT 6))] dX6_shares_73 4 rfl (by rfl) (by decide) rfl ?_
              refine r_goto ok 30 dX6_shares_76 (by decide) ?_
              have q29 : Value.int ((zLft am sT k) - (nI 0)) = Value.int (zLft am sT (k + 1)) := by first | with_reducible rfl | (first | (rw [← zC0_s]; simp [zBase, nI_0, *]; done) | simp [zLft, zBase, nI_0, *])
              have q30 : (upd (zC0 sG (zBase am sT) k) k (nI 0) : Nat → Int32) = zC0 sG (zBase am sT) (k + 1) := by first | with_reducible rfl | (first | (rw [← zC0_s]; simp [zBase, nI_0, *]; done) | simp [zLft, zBase, nI_0, *])
              refine zW.forget (lv' := [(0, .ref a), (1, .int (am)), (2, .int (lsum sT 6)), (3, .int ((zLft am sT k) - (nI 0))), (4, .int (nI (k + 1)))]) ?_ [2, 3, 4, 1, 0] rfl
              refine zW.to (lv' := [(0, .ref a), (1, .int (am)), (2, .int (lsum sT 6)), (3, .int (zLft am sT (k + 1))), (4, .int (nI (k + 1)))]) ?_ rfl (congrArg (fun z => ([(0, .ref a), (1, .int (am)), (2, .int (lsum sT 6)), (3, z), (4, .int (nI (k + 1)))] : List (Nat × Value))) q29) rfl
              refine zW.to ?_ (congrArg (fun z => mdM G M a s sA sH sL sI sP sT z kp ln po wr) q30) rfl rfl
              exact ihL3 (k + 1) (by omega)
      have q31 : Value.int (am) = Value.int (zLft am sT 0) := by first | with_reducible rfl | (first | rfl | rw [zC0_0])
      have q32 : (sG : Nat → Int32) = zC0 sG (zBase am sT) 0 := by first | with_reducible rfl | (first | rfl | rw [zC0_0])
      refine zW.forget (lv' := [(0, .ref a), (1, .int (am)), (2, .int (lsum sT 6)), (3, .int (am)), (4, .int (nI 0))]) ?_ [2, 3, 4, 1, 0] rfl
      refine zW.to (lv' := [(0, .ref a), (1, .int (am)), (2, .int (lsum sT 6)), (3, .int (zLft am sT 0)), (4, .int (nI 0))]) ?_ rfl (congrArg (fun z => ([(0, .ref a), (1, .int (am)), (2, .int (lsum sT 6)), (3, z), (4, .int (nI 0))] : List (Nat × Value))) q31) rfl
      refine zW.to ?_ (congrArg (fun z => mdM G M a s sA sH sL sI sP sT z kp ln po wr) q32) rfl rfl
      exact L3 6 0 (by omega)
    | succ nL1 ihL1 =>
      intro k hk_k 
      refine r_iload_n ok dX6_shares_4 3 rfl rfl ?_
      refine r_bipush ok (nI 6) dX6_shares_5 (by rfl) ?_
      refine r_icmp_geN ok 25 (by omega) (by omega) dX6_shares_7 (by decide) (fun c7_33 => ?_) (fun c7_33 => ?_)
      · skip
        exact absurd c7_33 (by omega)
      · skip
        refine r_iload_n ok dX6_shares_10 2 rfl rfl ?_
        refine r_aload_n ok dX6_shares_11 0 rfl rfl ?_
        refine r_getf ok ci_X6 fl_X6_29 (by decide) dX6_shares_12 md_o rfl ?_
        refine r_iload_n ok dX6_shares_15 3 rfl rfl ?_
        refine r_ialdN ok (by omega) (by omega) dX6_shares_16 md_sT ?_
        refine r_iadd ok dX6_shares_17 ?_
        refine r_istore_n ok [(2, .int ((lsum sT k) + (sT k))), (0, .ref a), (1, .int (am)), (3, .int (nI (k)))] dX6_shares_18 rfl (by decide) rfl ?_
        refine r_iincN ok (c := 1) [(3, .int (nI (k + 1))), (2, .int ((lsum sT k) + (sT k))), (0, .ref a), (1, .int (am))] dX6_shares_19 3 rfl (by rfl) (by decide) rfl ?_
        refine r_goto ok 4 dX6_shares_22 (by decide) ?_
        have q34 : Value.int ((lsum sT k) + (sT k)) = Value.int (lsum sT (k + 1)) := by first | with_reducible rfl | (simp [lsum_s, *])
        refine zW.forget (lv' := [(0, .ref a), (1, .int (am)), (2, .int ((lsum sT k) + (sT k))), (3, .int (nI (k + 1)))]) ?_ [2, 3, 1, 0] rfl
        refine zW.to (lv' := [(0, .ref a), (1, .int (am)), (2, .int (lsum sT (k + 1))), (3, .int (nI (k + 1)))]) ?_ rfl (congrArg (fun z => ([(0, .ref a), (1, .int (am)), (2, z), (3, .int (nI (k + 1)))] : List (Nat × Value))) q34) rfl
        exact ihL1 (k + 1) (by omega)
  have q35 : Value.int (nI 0) = Value.int (lsum sT 0) := by first | with_reducible rfl | (rfl)
  refine zW.forget (lv' := [(0, .ref a), (1, .int (am)), (2, .int (nI 0)), (3, .int (nI 0))]) ?_ [2, 3, 1, 0] rfl
  refine zW.to (lv' := [(0, .ref a), (1, .int (am)), (2, .int (lsum sT 0)), (3, .int (nI 0))]) ?_ rfl (congrArg (fun z => ([(0, .ref a), (1, .int (am)), (2, z), (3, .int (nI 0))] : List (Nat × Value))) q35) rfl
  exact L1 6 0 (by omega)
set_option maxHeartbeats 4000000 in
set_option maxRecDepth 100000 in
theorem c_X6_ownOf (l : Launch) (G : zG) (M : zM) (N a : Nat) (s sA sH sL : Nat → Int32) (sI : Nat → Bool) (sP sT sG : Nat → Int32) (kp ln po : Int32) (wr : Bool)  (mm : Int32) (m : Nat) (hm : m < 6) : zC l G yX6_ownOf cX6_ownOf 5 (some .int) 3 67 0 0 [.ref a, .int (mm), .int (nI (m))] (mdM G M a s sA sH sL sI sP sT sG kp ln po wr) N (zP (some (.int (zOwn s mm m))) (mdM G M a s sA sH sL sI sP sT sG kp ln po wr)) := by
  refine zC.of (by decide +kernel) (Nat.le_of_ble_eq_true rfl) ?_
  intro K hKl ok
  subst hKl
  show zW K G 5 _ 0 0 _ N 0 [(0, .ref a), (1, .int (mm)), (2, .int (nI (m)))] []
  refine r_iconst ok (nI 0) dX6_ownOf_0 (by rfl) ?_
  refine r_istore_n ok [(3, .int (nI 0)), (0, .ref a), (1, .int (mm)), (2, .int (nI (m)))] dX6_ownOf_1 rfl (by decide) rfl ?_
  refine r_iconst ok (nI 0) dX6_ownOf_2 (by rfl) ?_
  refine r_istore ok [(4, .int (nI 0)), (3, .int (nI 0)), (0, .ref a), (1, .int (mm)), (2, .int (nI (m)))] dX6_ownOf_3 (by decide) rfl ?_
  have L1 : ∀ (nL1 : Nat) (k : Nat), ((k + nL1 = 8)) → zW K G 5 (zQ K G (N + 0) 0 0 (zP (some (.int (zOwn s mm m))) (mdM G M a s sA sH sL sI sP sT sG kp ln po wr))) 0 0 (mdM G M a s sA sH sL sI sP sT sG kp ln po wr) N 5 [(0, .ref a), (1, .int (mm)), (2, .int (nI (m))), (3, .int (lsum (zOwnT s mm m) k)), (4, .int (nI (k)))] [] := by
    intro nL1
    induction nL1 with
    | zero =>
      intro k hk_k 
      obtain rfl : 8 = k := by omega
      refine r_iload ok dX6_ownOf_5 4 rfl ?_
      refine r_bipush ok (nI 8) dX6_ownOf_7 (by rfl) ?_
      refine r_icmp_geN ok 51 (by omega) (by omega) dX6_ownOf_9 (by decide) (fun _ => ?_) (fun c => absurd c (by decide))
      refine r_iload_n ok dX6_ownOf_51 3 rfl rfl ?_
      exact r_iret ok dX6_ownOf_52 rfl ⟨congrArg (fun z => some (Value.int z)) (show lsum (zOwnT s mm m) 8 = zOwn s mm m from by first | rfl | exact zOwn_no (by assumption) _), rfl⟩
    | succ nL1 ihL1 =>
      intro k hk_k 
      refine r_iload ok dX6_ownOf_5 4 rfl ?_
      refine r_bipush ok (nI 8) dX6_ownOf_7 (by rfl) ?_
      refine r_icmp_geN ok 51 (by omega) (by omega) dX6_ownOf_9 (by decide) (fun c9_3 => ?_) (fun c9_3 => ?_)
      · skip
        exact absurd c9_3 (by omega)
      · skip
        refine r_iload_n ok dX6_ownOf_12 1 rfl rfl ?_
        refine r_iload_n ok dX6_ownOf_13 2 rfl rfl ?_
        refine r_cS1 ok [] mi_X6_has ml_X6_43 sm_X6_has dX6_ownOf_14 (c_X6_has K.2.1 G (mdM G M a s sA sH sL sI sP sT sG kp ln po wr) N  mm m ) rfl rfl ⟨Nat.le_of_ble_eq_true rfl, Nat.le_of_ble_eq_true rfl⟩ (Nat.le_of_ble_eq_true rfl) ⟨Nat.zero_le _, Nat.zero_le _⟩ ?_
        refine r_ifeqZ ok 51 dX6_ownOf_17 (by decide) (fun c17_4 => ?_) (fun c17_4 => ?_)
        · skip
          refine r_iload_n ok dX6_ownOf_51 3 rfl rfl ?_
          exact r_iret ok dX6_ownOf_52 rfl ⟨congrArg (fun z => some (Value.int z)) (show lsum (zOwnT s mm m) k = zOwn s mm m from by first | rfl | exact zOwn_no (by assumption) _), rfl⟩
        · skip
          refine r_iload_n ok dX6_ownOf_20 3 rfl rfl ?_
          refine r_aload_n ok dX6_ownOf_21 0 rfl rfl ?_
          refine r_getf ok ci_X6 fl_X6_7 (by decide) dX6_ownOf_22 md_o rfl ?_
          refine r_iload_n ok dX6_ownOf_25 2 rfl rfl ?_
          refine r_bipush ok (nI 14) dX6_ownOf_26 (by rfl) ?_
          refine r_iload ok dX6_ownOf_28 4 rfl ?_
          refine r_iaddN ok dX6_ownOf_30 ?_
          refine r_cS1 ok [.ref (a + 1), .int (lsum (zOwnT s mm m) k)] mi_X6_of ml_X6_47 sm_X6_of dX6_ownOf_31 (c_X6_of K.2.1 G (mdM G M a s sA sH sL sI sP sT sG kp ln po wr) N  m (14 + k) ) rfl rfl ⟨Nat.le_of_ble_eq_true rfl, Nat.le_of_ble_eq_true rfl⟩ (Nat.le_of_ble_eq_true rfl) ⟨Nat.zero_le _, Nat.zero_le _⟩ ?_
          refine r_ialdN ok (by omega) (by omega) dX6_ownOf_34 md_s ?_
          refine r_aload_n ok dX6_ownOf_35 0 rfl rfl ?_
          refine r_iload_n ok dX6_ownOf_36 1 rfl rfl ?_
          refine r_iload ok dX6_ownOf_37 4 rfl ?_
          refine r_cV1 ok [.int (s (15 + 22 * m + (14 + k))), .int (lsum (zOwnT s mm m) k)] mi_X6_priceIn ci_X6 ml_X6_58 im_X6_priceIn se_X6_priceIn dX6_ownOf_39 (c_X6_priceIn K.2.1 G M N a s sA sH sL sI sP sT sG kp ln po wr  mm k (by omega)) md_o rfl rfl ⟨Nat.le_of_ble_eq_true rfl, Nat.le_of_ble_eq_true rfl⟩ (Nat.le_of_ble_eq_true rfl) ⟨Nat.zero_le _, Nat.zero_le _⟩ ?_
          refine r_imul ok dX6_ownOf_42 ?_
          refine r_iadd ok dX6_ownOf_43 ?_
          refine r_istore_n ok [(3, .int ((lsum (zOwnT s mm m) k) + ((s (15 + 22 * m + (14 + k))) * (zPriceIn s mm k)))), (0, .ref a), (1, .int (mm)), (2, .int (nI (m))), (4, .int (nI (k)))] dX6_ownOf_44 rfl (by decide) rfl ?_
          refine r_iincN ok (c := 1) [(4, .int (nI (k + 1))), (3, .int ((lsum (zOwnT s mm m) k) + ((s (15 + 22 * m + (14 + k))) * (zPriceIn s mm k)))), (0, .ref a), (1, .int (mm)), (2, .int (nI (m)))] dX6_ownOf_45 4 rfl (by rfl) (by decide) rfl ?_
          refine r_goto ok 5 dX6_ownOf_48 (by decide) ?_
          have q5 : Value.int ((lsum (zOwnT s mm m) k) + ((s (15 + 22 * m + (14 + k))) * (zPriceIn s mm k))) = Value.int (lsum (zOwnT s mm m) (k + 1)) := by first | with_reducible rfl | (simp [lsum_s, zOwnT, nI_0, *])
          refine zW.forget (lv' := [(0, .ref a), (1, .int (mm)), (2, .int (nI (m))), (3, .int ((lsum (zOwnT s mm m) k) + ((s (15 + 22 * m + (14 + k))) * (zPriceIn s mm k)))), (4, .int (nI (k + 1)))]) ?_ [2, 3, 4, 1, 0] rfl
          refine zW.to (lv' := [(0, .ref a), (1, .int (mm)), (2, .int (nI (m))), (3, .int (lsum (zOwnT s mm m) (k + 1))), (4, .int (nI (k + 1)))]) ?_ rfl (congrArg (fun z => ([(0, .ref a), (1, .int (mm)), (2, .int (nI (m))), (3, z), (4, .int (nI (k + 1)))] : List (Nat × Value))) q5) rfl
          exact ihL1 (k + 1) (by omega)
  have q6 : Value.int (nI 0) = Value.int (lsum (zOwnT s mm m) 0) := by first | with_reducible rfl | (rfl)
  refine zW.forget (lv' := [(0, .ref a), (1, .int (mm)), (2, .int (nI (m))), (3, .int (nI 0)), (4, .int (nI 0))]) ?_ [2, 3, 4, 1, 0] rfl
  refine zW.to (lv' := [(0, .ref a), (1, .int (mm)), (2, .int (nI (m))), (3, .int (lsum (zOwnT s mm m) 0)), (4, .int (nI 0))]) ?_ rfl (congrArg (fun z => ([(0, .ref a), (1, .int (mm)), (2, .int (nI (m))), (3, z), (4, .int (nI 0))] : List (Nat × Value))) q6) rfl
  exact L1 8 0 (by omega)
set_option maxHeartbeats 4000000 in
set_option maxRecDepth 100000 in
theorem c_X6_sharesPost (l : Launch) (G : zG) (M : zM) (N a : Nat) (s sA sH sL : Nat → Int32) (sI : Nat → Bool) (sP sT sG : Nat → Int32) (kp ln po : Int32) (wr : Bool)  (mm : Int32)  : zC l G yX6_sharesPost cX6_sharesPost 3 (none) 4 89 0 0 [.ref a, .int (mm)] (mdM G M a s sA sH sL sI sP sT sG kp ln po wr) N (zP none (mdM G M a s sA sH sL sI sP (zParts s mm sT) (zGets (zPost s mm) (zParts s mm sT) sG) kp ln po wr)) := by
  refine zC.of (by decide +kernel) (Nat.le_of_ble_eq_true rfl) ?_
  intro K hKl ok
  subst hKl
  show zW K G 3 _ 0 0 _ N 0 [(0, .ref a), (1, .int (mm))] []
  refine r_iconst ok (nI 0) dX6_sharesPost_0 (by rfl) ?_
  refine r_istore_n ok [(2, .int (nI 0)), (0, .ref a), (1, .int (mm))] dX6_sharesPost_1 rfl (by decide) rfl ?_
  have L1 : ∀ (nL1 : Nat) (k : Nat), ((k + nL1 = 6)) → zW K G 3 (zQ K G (N + 0) 0 0 (zP none (mdM G M a s sA sH sL sI sP (zParts s mm sT) (zGets (zPost s mm) (zParts s mm sT) sG) kp ln po wr))) 0 0 (mdM G M a s sA sH sL sI sP (zC0 sT (zPart s mm) k) sG kp ln po wr) N 2 [(0, .ref a), (1, .int (mm)), (2, .int (nI (k)))] [] := by
    intro nL1
    induction nL1 with
    | zero =>
      intro k hk_k 
      obtain rfl : 6 = k := by omega
      refine r_iload_n ok dX6_sharesPost_2 2 rfl rfl ?_
      refine r_bipush ok (nI 6) dX6_sharesPost_3 (by rfl) ?_
      refine r_icmp_geN ok 39 (by omega) (by omega) dX6_sharesPost_5 (by decide) (fun _ => ?_) (fun c => absurd c (by decide))
      refine r_aload_n ok dX6_sharesPost_39 0 rfl rfl ?_
      refine r_aload_n ok dX6_sharesPost_40 0 rfl rfl ?_
      refine r_iload_n ok dX6_sharesPost_41 1 rfl rfl ?_
      refine r_cV1 ok [.ref a] mi_X6_postOf ci_X6 ml_X6_70 im_X6_postOf se_X6_postOf dX6_sharesPost_42 (c_X6_postOf K.2.1 G M N a s sA sH sL sI sP (zC0 sT (zPart s mm) 6) sG kp ln po wr  mm ) md_o rfl rfl ⟨Nat.le_of_ble_eq_true rfl, Nat.le_of_ble_eq_true rfl⟩ (Nat.le_of_ble_eq_true rfl) ⟨Nat.zero_le _, Nat.zero_le _⟩ ?_
      refine r_cV0 ok [] mi_X6_shares ci_X6 ml_X6_73 im_X6_shares se_X6_shares dX6_sharesPost_45 (c_X6_shares K.2.1 G M N a s sA sH sL sI sP (zC0 sT (zPart s mm) 6) sG kp ln po wr  (zPost s mm) ) md_o rfl rfl ⟨Nat.le_of_ble_eq_true rfl, Nat.le_of_ble_eq_true rfl⟩ (Nat.le_of_ble_eq_true rfl) ⟨Nat.zero_le _, Nat.zero_le _⟩ ?_
      exact r_vret ok dX6_sharesPost_48 rfl ⟨rfl, (by rfl)⟩
    | succ nL1 ihL1 =>
      intro k hk_k 
      refine r_iload_n ok dX6_sharesPost_2 2 rfl rfl ?_
      refine r_bipush ok (nI 6) dX6_sharesPost_3 (by rfl) ?_
      refine r_icmp_geN ok 39 (by omega) (by omega) dX6_sharesPost_5 (by decide) (fun c5_3 => ?_) (fun c5_3 => ?_)
      · skip
        exact absurd c5_3 (by omega)
      · skip
        refine r_aload_n ok dX6_sharesPost_8 0 rfl rfl ?_
        refine r_getf ok ci_X6 fl_X6_29 (by decide) dX6_sharesPost_9 md_o rfl ?_
        refine r_iload_n ok dX6_sharesPost_12 2 rfl rfl ?_
        refine r_iload_n ok dX6_sharesPost_13 1 rfl rfl ?_
        refine r_iload_n ok dX6_sharesPost_14 2 rfl rfl ?_
        refine r_cS1 ok [.int (nI (k)), .ref (a + 7)] mi_X6_has ml_X6_43 sm_X6_has dX6_sharesPost_15 (c_X6_has K.2.1 G (mdM G M a s sA sH sL sI sP (zC0 sT (zPart s mm) k) sG kp ln po wr) N  mm k ) rfl rfl ⟨Nat.le_of_ble_eq_true rfl, Nat.le_of_ble_eq_true rfl⟩ (Nat.le_of_ble_eq_true rfl) ⟨Nat.zero_le _, Nat.zero_le _⟩ ?_
        refine r_ifeqZ ok 31 dX6_sharesPost_18 (by decide) (fun c18_4 => ?_) (fun c18_4 => ?_)
        · skip
          refine r_iconst ok (nI 0) dX6_sharesPost_31 (by rfl) ?_
          refine r_iastN ok (by omega) (by omega) dX6_sharesPost_32 md_sT (mdw_sT _) ?_
          refine r_iincN ok (c := 1) [(2, .int (nI (k + 1))), (0, .ref a), (1, .int (mm))] dX6_sharesPost_33 2 rfl (by rfl) (by decide) rfl ?_
          refine r_goto ok 2 dX6_sharesPost_36 (by decide) ?_
          have q5 : (upd (zC0 sT (zPart s mm) k) k (nI 0) : Nat → Int32) = zC0 sT (zPart s mm) (k + 1) := by first | with_reducible rfl | ((rw [← zC0_s]; simp [zPart, nI_0, nI_one, *]))
          refine zW.forget (lv' := [(0, .ref a), (1, .int (mm)), (2, .int (nI (k + 1)))]) ?_ [1, 2, 0] rfl
          refine zW.to ?_ (congrArg (fun z => mdM G M a s sA sH sL sI sP z sG kp ln po wr) q5) rfl rfl
          exact ihL1 (k + 1) (by omega)
        · skip
          refine r_aload_n ok dX6_sharesPost_21 0 rfl rfl ?_
          refine r_iconst ok (nI 1) dX6_sharesPost_22 (by rfl) ?_
          refine r_iload_n ok dX6_sharesPost_23 2 rfl rfl ?_
          refine r_ishl ok dX6_sharesPost_24 ?_
          refine r_cV1 ok [.int (nI (k)), .ref (a + 7)] mi_X6_weightOf ci_X6 ml_X6_64 im_X6_weightOf se_X6_weightOf dX6_sharesPost_25 (c_X6_weightOf K.2.1 G M N a s sA sH sL sI sP (zC0 sT (zPart s mm) k) sG kp ln po wr  ((nI 1) <<< ((nI (k)) &&& 31)) ) md_o rfl rfl ⟨Nat.le_of_ble_eq_true rfl, Nat.le_of_ble_eq_true rfl⟩ (Nat.le_of_ble_eq_true rfl) ⟨Nat.zero_le _, Nat.zero_le _⟩ ?_
          refine r_goto ok 32 dX6_sharesPost_28 (by decide) ?_
          refine r_iastN ok (by omega) (by omega) dX6_sharesPost_32 md_sT (mdw_sT _) ?_
          refine r_iincN ok (c := 1) [(2, .int (nI (k + 1))), (0, .ref a), (1, .int (mm))] dX6_sharesPost_33 2 rfl (by rfl) (by decide) rfl ?_
          refine r_goto ok 2 dX6_sharesPost_36 (by decide) ?_
          have q6 : (upd (zC0 sT (zPart s mm) k) k (zWei s ((nI 1) <<< ((nI (k)) &&& 31))) : Nat → Int32) = zC0 sT (zPart s mm) (k + 1) := by first | with_reducible rfl | ((rw [← zC0_s]; simp [zPart, nI_0, nI_one, *]))
          refine zW.forget (lv' := [(0, .ref a), (1, .int (mm)), (2, .int (nI (k + 1)))]) ?_ [1, 2, 0] rfl
          refine zW.to ?_ (congrArg (fun z => mdM G M a s sA sH sL sI sP z sG kp ln po wr) q6) rfl rfl
          exact ihL1 (k + 1) (by omega)
  have q7 : (sT : Nat → Int32) = zC0 sT (zPart s mm) 0 := by first | with_reducible rfl | (rw [zC0_0])
  refine zW.forget (lv' := [(0, .ref a), (1, .int (mm)), (2, .int (nI 0))]) ?_ [1, 2, 0] rfl
  refine zW.to ?_ (congrArg (fun z => mdM G M a s sA sH sL sI sP z sG kp ln po wr) q7) rfl rfl
  exact L1 6 0 (by omega)
set_option maxHeartbeats 4000000 in
set_option maxRecDepth 100000 in
theorem c_X6_chest (l : Launch) (G : zG) (M : zM) (N a : Nat) (s sA sH sL : Nat → Int32) (sI : Nat → Bool) (sP sT sG : Nat → Int32) (kp ln po : Int32) (wr : Bool)    : zC l G yX6_chest cX6_chest 3 (some .int) 1 21 0 0 [.ref a] (mdM G M a s sA sH sL sI sP sT sG kp ln po wr) N (zP (some (.int (zChest s))) (mdM G M a s sA sH sL sI sP sT sG kp ln po wr)) := by
  refine zC.of (by decide +kernel) (Nat.le_of_ble_eq_true rfl) ?_
  intro K hKl ok
  subst hKl
  show zW K G 3 _ 0 0 _ N 0 [(0, .ref a)] []
  refine r_iconst ok (nI 0) dX6_chest_0 (by rfl) ?_
  refine r_istore_n ok [(1, .int (nI 0)), (0, .ref a)] dX6_chest_1 rfl (by decide) rfl ?_
  refine r_iconst ok (nI 0) dX6_chest_2 (by rfl) ?_
  refine r_istore_n ok [(2, .int (nI 0)), (1, .int (nI 0)), (0, .ref a)] dX6_chest_3 rfl (by decide) rfl ?_
  have L1 : ∀ (nL1 : Nat) (k : Nat), ((k + nL1 = 6)) → zW K G 3 (zQ K G (N + 0) 0 0 (zP (some (.int (zChest s))) (mdM G M a s sA sH sL sI sP sT sG kp ln po wr))) 0 0 (mdM G M a s sA sH sL sI sP sT sG kp ln po wr) N 4 [(0, .ref a), (1, .int (lsum (zAccT s) k)), (2, .int (nI (k)))] [] := by
    intro nL1
    induction nL1 with
    | zero =>
      intro k hk_k 
      obtain rfl : 6 = k := by omega
      refine r_iload_n ok dX6_chest_4 2 rfl rfl ?_
      refine r_bipush ok (nI 6) dX6_chest_5 (by rfl) ?_
      refine r_icmp_geN ok 29 (by omega) (by omega) dX6_chest_7 (by decide) (fun _ => ?_) (fun c => absurd c (by decide))
      refine r_iload_n ok dX6_chest_29 1 rfl rfl ?_
      exact r_iret ok dX6_chest_30 rfl ⟨congrArg (fun z => some (Value.int z)) (show lsum (zAccT s) 6 = zChest s from by rfl), rfl⟩
    | succ nL1 ihL1 =>
      intro k hk_k 
      refine r_iload_n ok dX6_chest_4 2 rfl rfl ?_
      refine r_bipush ok (nI 6) dX6_chest_5 (by rfl) ?_
      refine r_icmp_geN ok 29 (by omega) (by omega) dX6_chest_7 (by decide) (fun c7_3 => ?_) (fun c7_3 => ?_)
      · skip
        exact absurd c7_3 (by omega)
      · skip
        refine r_iload_n ok dX6_chest_10 1 rfl rfl ?_
        refine r_aload_n ok dX6_chest_11 0 rfl rfl ?_
        refine r_getf ok ci_X6 fl_X6_7 (by decide) dX6_chest_12 md_o rfl ?_
        refine r_iload_n ok dX6_chest_15 2 rfl rfl ?_
        refine r_iconst ok (nI 0) dX6_chest_16 (by rfl) ?_
        refine r_cS1 ok [.ref (a + 1), .int (lsum (zAccT s) k)] mi_X6_of ml_X6_47 sm_X6_of dX6_chest_17 (c_X6_of K.2.1 G (mdM G M a s sA sH sL sI sP sT sG kp ln po wr) N  k 0 ) rfl rfl ⟨Nat.le_of_ble_eq_true rfl, Nat.le_of_ble_eq_true rfl⟩ (Nat.le_of_ble_eq_true rfl) ⟨Nat.zero_le _, Nat.zero_le _⟩ ?_
        refine r_ialdN ok (by omega) (by omega) dX6_chest_20 md_s ?_
        refine r_iadd ok dX6_chest_21 ?_
        refine r_istore_n ok [(1, .int ((lsum (zAccT s) k) + (s (15 + 22 * k + 0)))), (0, .ref a), (2, .int (nI (k)))] dX6_chest_22 rfl (by decide) rfl ?_
        refine r_iincN ok (c := 1) [(2, .int (nI (k + 1))), (1, .int ((lsum (zAccT s) k) + (s (15 + 22 * k + 0)))), (0, .ref a)] dX6_chest_23 2 rfl (by rfl) (by decide) rfl ?_
        refine r_goto ok 4 dX6_chest_26 (by decide) ?_
        have q4 : Value.int ((lsum (zAccT s) k) + (s (15 + 22 * k + 0))) = Value.int (lsum (zAccT s) (k + 1)) := by first | with_reducible rfl | (simp [lsum_s, zAccT, *])
        refine zW.forget (lv' := [(0, .ref a), (1, .int ((lsum (zAccT s) k) + (s (15 + 22 * k + 0)))), (2, .int (nI (k + 1)))]) ?_ [2, 1, 0] rfl
        refine zW.to (lv' := [(0, .ref a), (1, .int (lsum (zAccT s) (k + 1))), (2, .int (nI (k + 1)))]) ?_ rfl (congrArg (fun z => ([(0, .ref a), (1, z), (2, .int (nI (k + 1)))] : List (Nat × Value))) q4) rfl
        exact ihL1 (k + 1) (by omega)
  have q5 : Value.int (nI 0) = Value.int (lsum (zAccT s) 0) := by first | with_reducible rfl | (rfl)
  refine zW.forget (lv' := [(0, .ref a), (1, .int (nI 0)), (2, .int (nI 0))]) ?_ [2, 1, 0] rfl
  refine zW.to (lv' := [(0, .ref a), (1, .int (lsum (zAccT s) 0)), (2, .int (nI 0))]) ?_ rfl (congrArg (fun z => ([(0, .ref a), (1, z), (2, .int (nI 0))] : List (Nat × Value))) q5) rfl
  exact L1 6 0 (by omega)
set_option maxHeartbeats 4000000 in
set_option maxRecDepth 100000 in
theorem c_X6_draw (l : Launch) (G : zG) (M : zM) (N a : Nat) (s sA sH sL : Nat → Int32) (sI : Nat → Bool) (sP sT sG : Nat → Int32) (kp ln po : Int32) (wr : Bool)  (many : Int32) (hm : ¬ many = 0) : zC l G yX6_draw cX6_draw 4 (some .int) 0 0 0 0 [.ref a, .int (many)] (mdM G M a s sA sH sL sI sP sT sG kp ln po wr) N (zP (some (.int (zDr (zNx (s 10)) many))) (mdM G M a (upd s 10 (zNx (s 10))) sA sH sL sI sP sT sG kp ln po wr)) := by
  refine zC.of (by decide +kernel) (Nat.le_of_ble_eq_true rfl) ?_
  intro K hKl ok
  subst hKl
  show zW K G 4 _ 0 0 _ N 0 [(0, .ref a), (1, .int (many))] []
  refine r_aload_n ok dX6_draw_0 0 rfl rfl ?_
  refine r_getf ok ci_X6 fl_X6_7 (by decide) dX6_draw_1 md_o rfl ?_
  refine r_bipush ok (nI 10) dX6_draw_4 (by rfl) ?_
  refine r_ialdN ok (by omega) (by omega) dX6_draw_6 md_s ?_
  refine r_i2l ok dX6_draw_7 ?_
  refine r_ldc2 ok cl_X6_77 dX6_draw_8 ?_
  refine r_lmul ok dX6_draw_11 ?_
  refine r_ldc2 ok cl_X6_79 dX6_draw_12 ?_
  refine r_ladd ok dX6_draw_15 ?_
  refine r_ldc2 ok cl_X6_81 dX6_draw_16 ?_
  refine r_lrem ok (by decide) dX6_draw_19 ?_
  refine r_lstore_n ok [(2, .long (((((s 10).toInt64) * 1103515245) + 12345) - ((((s 10).toInt64) * 1103515245) + 12345) / 2147483648 * 2147483648)), (0, .ref a), (1, .int (many))] dX6_draw_20 rfl (by decide) rfl ?_
  refine r_aload_n ok dX6_draw_21 1 rfl rfl ?_
  refine r_getf ok ci_X6 fl_X6_7 (by decide) dX6_draw_22 md_o rfl ?_
  refine r_bipush ok (nI 10) dX6_draw_25 (by rfl) ?_
  refine r_lload_n ok dX6_draw_27 0 rfl rfl ?_
  refine r_l2i ok dX6_draw_28 ?_
  refine r_iastN ok (by omega) (by omega) dX6_draw_29 md_s (mdw_s _) ?_
  refine r_aload_n ok dX6_draw_30 1 rfl rfl ?_
  refine r_getf ok ci_X6 fl_X6_7 (by decide) dX6_draw_31 md_o rfl ?_
  refine r_bipush ok (nI 10) dX6_draw_34 (by rfl) ?_
  refine r_ialdN ok (by omega) (by omega) dX6_draw_36 md_s ?_
  refine zW.to (st' := [.int ((((((s 10).toInt64) * 1103515245) + 12345) - ((((s 10).toInt64) * 1103515245) + 12345) / 2147483648 * 2147483648).toInt32)]) ?_ rfl rfl (congrArg (fun z => (Value.int z :: [] : List Value)) (show (upd s 10 ((((((s 10).toInt64) * 1103515245) + 12345) - ((((s 10).toInt64) * 1103515245) + 12345) / 2147483648 * 2147483648).toInt32)) 10 = (((((s 10).toInt64) * 1103515245) + 12345) - ((((s 10).toInt64) * 1103515245) + 12345) / 2147483648 * 2147483648).toInt32 from pk_us))
  refine r_ldc ok ck_X6_83 dX6_draw_37 ?_
  refine zW.to (st' := [.int (nI 65536), .int ((((((s 10).toInt64) * 1103515245) + 12345) - ((((s 10).toInt64) * 1103515245) + 12345) / 2147483648 * 2147483648).toInt32)]) ?_ rfl rfl rfl
  refine r_idiv ok (by decide) dX6_draw_39 ?_
  refine r_iload_n ok dX6_draw_40 2 rfl rfl ?_
  refine r_irem ok hm dX6_draw_41 ?_
  exact r_iret ok dX6_draw_42 rfl ⟨congrArg (fun z => some (Value.int z)) (show (((((((s 10).toInt64) * 1103515245) + 12345) - ((((s 10).toInt64) * 1103515245) + 12345) / 2147483648 * 2147483648).toInt32) / (nI 65536)) - (((((((s 10).toInt64) * 1103515245) + 12345) - ((((s 10).toInt64) * 1103515245) + 12345) / 2147483648 * 2147483648).toInt32) / (nI 65536)) / many * many = zDr (zNx (s 10)) many from by rfl), (by rfl)⟩
set_option maxHeartbeats 4000000 in
set_option maxRecDepth 100000 in
theorem c_X6_ofString (l : Launch) (G : zG) (M : zM) (N : Nat)  (p : Nat) (m : Nat) (g : Nat)  : zC l G yX6_ofString cX6_ofString 3 (some .int) 1 21 0 0 [.int (nI (p)), .int (nI (m)), .int (nI (g))] (M) N (zP (some (.int (nI (147 + 51 * p + (3 + 8 * m + g))))) (M)) := by
  refine zC.of (by decide +kernel) (Nat.le_of_ble_eq_true rfl) ?_
  intro K hKl ok
  subst hKl
  show zW K G 3 _ 0 0 _ N 0 [(0, .int (nI (p))), (1, .int (nI (m))), (2, .int (nI (g)))] []
  refine r_iload_n ok dX6_ofString_0 0 rfl rfl ?_
  refine r_iconst ok (nI 3) dX6_ofString_1 (by rfl) ?_
  refine r_bipush ok (nI 8) dX6_ofString_2 (by rfl) ?_
  refine r_iload_n ok dX6_ofString_4 1 rfl rfl ?_
  refine r_imulN ok dX6_ofString_5 ?_
  refine r_iaddN ok dX6_ofString_6 ?_
  refine r_iload_n ok dX6_ofString_7 2 rfl rfl ?_
  refine r_iaddN ok dX6_ofString_8 ?_
  refine r_cS1 ok [] mi_X6_ofParcel ml_X6_84 sm_X6_ofParcel dX6_ofString_9 (c_X6_ofParcel K.2.1 G (M) N  p ((3 + (8 * m)) + g) ) rfl rfl ⟨Nat.le_of_ble_eq_true rfl, Nat.le_of_ble_eq_true rfl⟩ (Nat.le_of_ble_eq_true rfl) ⟨Nat.zero_le _, Nat.zero_le _⟩ ?_
  exact r_iret ok dX6_ofString_12 rfl ⟨congrArg (fun z => some (Value.int z)) (show nI (147 + 51 * p + ((3 + (8 * m)) + g)) = nI (147 + 51 * p + (3 + 8 * m + g)) from by first | rfl | (simp [*]; done)), rfl⟩
set_option maxHeartbeats 4000000 in
set_option maxRecDepth 100000 in
theorem c_X6_stringsIn (l : Launch) (G : zG) (M : zM) (N a : Nat) (s sA sH sL : Nat → Int32) (sI : Nat → Bool) (sP sT sG : Nat → Int32) (kp ln po : Int32) (wr : Bool)  (p : Nat) (hp : p < 5) : zC l G yX6_stringsIn cX6_stringsIn 4 (some .int) 1 21 0 0 [.ref a, .int (nI (p))] (mdM G M a s sA sH sL sI sP sT sG kp ln po wr) N (zP (some (.int (zPcs s p))) (mdM G M a s sA sH sL sI sP sT sG kp ln po wr)) := by
  refine zC.of (by decide +kernel) (Nat.le_of_ble_eq_true rfl) ?_
  intro K hKl ok
  subst hKl
  show zW K G 4 _ 0 0 _ N 0 [(0, .ref a), (1, .int (nI (p)))] []
  refine r_iconst ok (nI 0) dX6_stringsIn_0 (by rfl) ?_
  refine r_istore_n ok [(2, .int (nI 0)), (0, .ref a), (1, .int (nI (p)))] dX6_stringsIn_1 rfl (by decide) rfl ?_
  refine r_iconst ok (nI 0) dX6_stringsIn_2 (by rfl) ?_
  refine r_istore_n ok [(3, .int (nI 0)), (2, .int (nI 0)), (0, .ref a), (1, .int (nI (p)))] dX6_stringsIn_3 rfl (by decide) rfl ?_
  have L1 : ∀ (nL1 : Nat) (k : Nat), ((k + nL1 = 48)) → zW K G 4 (zQ K G (N + 0) 0 0 (zP (some (.int (zPcs s p))) (mdM G M a s sA sH sL sI sP sT sG kp ln po wr))) 0 0 (mdM G M a s sA sH sL sI sP sT sG kp ln po wr) N 4 [(0, .ref a), (1, .int (nI (p))), (2, .int (lsum (zPcsT s p) k)), (3, .int (nI (k)))] [] := by
    intro nL1
    induction nL1 with
    | zero =>
      intro k hk_k 
      obtain rfl : 48 = k := by omega
      refine r_iload_n ok dX6_stringsIn_4 3 rfl rfl ?_
      refine r_bipush ok (nI 48) dX6_stringsIn_5 (by rfl) ?_
      refine r_icmp_geN ok 31 (by omega) (by omega) dX6_stringsIn_7 (by decide) (fun _ => ?_) (fun c => absurd c (by decide))
      refine r_iload_n ok dX6_stringsIn_31 2 rfl rfl ?_
      exact r_iret ok dX6_stringsIn_32 rfl ⟨congrArg (fun z => some (Value.int z)) (show lsum (zPcsT s p) 48 = zPcs s p from by rfl), rfl⟩
    | succ nL1 ihL1 =>
      intro k hk_k 
      refine r_iload_n ok dX6_stringsIn_4 3 rfl rfl ?_
      refine r_bipush ok (nI 48) dX6_stringsIn_5 (by rfl) ?_
      refine r_icmp_geN ok 31 (by omega) (by omega) dX6_stringsIn_7 (by decide) (fun c7_3 => ?_) (fun c7_3 => ?_)
      · skip
        exact absurd c7_3 (by omega)
      · skip
        refine r_iload_n ok dX6_stringsIn_10 2 rfl rfl ?_
        refine r_aload_n ok dX6_stringsIn_11 0 rfl rfl ?_
        refine r_getf ok ci_X6 fl_X6_7 (by decide) dX6_stringsIn_12 md_o rfl ?_
        refine r_iload_n ok dX6_stringsIn_15 1 rfl rfl ?_
        refine r_iconst ok (nI 3) dX6_stringsIn_16 (by rfl) ?_
        refine r_iload_n ok dX6_stringsIn_17 3 rfl rfl ?_
        refine r_iaddN ok dX6_stringsIn_18 ?_
        refine r_cS1 ok [.ref (a + 1), .int (lsum (zPcsT s p) k)] mi_X6_ofParcel ml_X6_84 sm_X6_ofParcel dX6_stringsIn_19 (c_X6_ofParcel K.2.1 G (mdM G M a s sA sH sL sI sP sT sG kp ln po wr) N  p (3 + k) ) rfl rfl ⟨Nat.le_of_ble_eq_true rfl, Nat.le_of_ble_eq_true rfl⟩ (Nat.le_of_ble_eq_true rfl) ⟨Nat.zero_le _, Nat.zero_le _⟩ ?_
        refine r_ialdN ok (by omega) (by omega) dX6_stringsIn_22 md_s ?_
        refine r_iadd ok dX6_stringsIn_23 ?_
        refine r_istore_n ok [(2, .int ((lsum (zPcsT s p) k) + (s (147 + 51 * p + (3 + k))))), (0, .ref a), (1, .int (nI (p))), (3, .int (nI (k)))] dX6_stringsIn_24 rfl (by decide) rfl ?_
        refine r_iincN ok (c := 1) [(3, .int (nI (k + 1))), (2, .int ((lsum (zPcsT s p) k) + (s (147 + 51 * p + (3 + k))))), (0, .ref a), (1, .int (nI (p)))] dX6_stringsIn_25 3 rfl (by rfl) (by decide) rfl ?_
        refine r_goto ok 4 dX6_stringsIn_28 (by decide) ?_
        have q4 : Value.int ((lsum (zPcsT s p) k) + (s (147 + 51 * p + (3 + k)))) = Value.int (lsum (zPcsT s p) (k + 1)) := by first | with_reducible rfl | (simp [lsum_s, zPcsT, *])
        refine zW.forget (lv' := [(0, .ref a), (1, .int (nI (p))), (2, .int ((lsum (zPcsT s p) k) + (s (147 + 51 * p + (3 + k))))), (3, .int (nI (k + 1)))]) ?_ [2, 3, 1, 0] rfl
        refine zW.to (lv' := [(0, .ref a), (1, .int (nI (p))), (2, .int (lsum (zPcsT s p) (k + 1))), (3, .int (nI (k + 1)))]) ?_ rfl (congrArg (fun z => ([(0, .ref a), (1, .int (nI (p))), (2, z), (3, .int (nI (k + 1)))] : List (Nat × Value))) q4) rfl
        exact ihL1 (k + 1) (by omega)
  have q5 : Value.int (nI 0) = Value.int (lsum (zPcsT s p) 0) := by first | with_reducible rfl | (rfl)
  refine zW.forget (lv' := [(0, .ref a), (1, .int (nI (p))), (2, .int (nI 0)), (3, .int (nI 0))]) ?_ [2, 3, 1, 0] rfl
  refine zW.to (lv' := [(0, .ref a), (1, .int (nI (p))), (2, .int (lsum (zPcsT s p) 0)), (3, .int (nI 0))]) ?_ rfl (congrArg (fun z => ([(0, .ref a), (1, .int (nI (p))), (2, z), (3, .int (nI 0))] : List (Nat × Value))) q5) rfl
  exact L1 48 0 (by omega)
set_option maxHeartbeats 4000000 in
set_option maxRecDepth 100000 in
theorem c_X6_paysDuty (l : Launch) (G : zG) (M : zM) (N a : Nat) (s sA sH sL : Nat → Int32) (sI : Nat → Bool) (sP sT sG : Nat → Int32) (kp ln po : Int32) (wr : Bool)  (p : Nat) (hp : p < 5) : zC l G yX6_paysDuty cX6_paysDuty 5 (none) 2 43 0 0 [.ref a, .int (nI (p))] (mdM G M a s sA sH sL sI sP sT sG kp ln po wr) N (zP none (mdM G M a (zPd s sT sG p) sA sH sL sI sP (zC0 sT (zPrc s p) 6) (zPdG s sT sG p) kp ln po wr)) := by
  refine zC.of (by decide +kernel) (Nat.le_of_ble_eq_true rfl) ?_
  intro K hKl ok
  subst hKl
  show zW K G 5 _ 0 0 _ N 0 [(0, .ref a), (1, .int (nI (p)))] []
  refine r_aload_n ok dX6_paysDuty_0 0 rfl rfl ?_
  refine r_aload_n ok dX6_paysDuty_1 0 rfl rfl ?_
  refine r_getf ok ci_X6 fl_X6_7 (by decide) dX6_paysDuty_2 md_o rfl ?_
  refine r_iload_n ok dX6_paysDuty_5 1 rfl rfl ?_
  refine r_iconst ok (nI 0) dX6_paysDuty_6 (by rfl) ?_
  refine r_cS1 ok [.ref (a + 1), .ref a] mi_X6_ofParcel ml_X6_84 sm_X6_ofParcel dX6_paysDuty_7 (c_X6_ofParcel K.2.1 G (mdM G M a s sA sH sL sI sP sT sG kp ln po wr) N  p 0 ) rfl rfl ⟨Nat.le_of_ble_eq_true rfl, Nat.le_of_ble_eq_true rfl⟩ (Nat.le_of_ble_eq_true rfl) ⟨Nat.zero_le _, Nat.zero_le _⟩ ?_
  refine r_ialdN ok (by omega) (by omega) dX6_paysDuty_10 md_s ?_
  refine r_cV1 ok [] mi_X6_dutyOn ci_X6 ml_X6_91 im_X6_dutyOn se_X6_dutyOn dX6_paysDuty_11 (c_X6_dutyOn K.2.1 G M N a s sA sH sL sI sP sT sG kp ln po wr  (s (147 + 51 * p + 0)) ) md_o rfl rfl ⟨Nat.le_of_ble_eq_true rfl, Nat.le_of_ble_eq_true rfl⟩ (Nat.le_of_ble_eq_true rfl) ⟨Nat.zero_le _, Nat.zero_le _⟩ ?_
  refine r_istore_n ok [(2, .int (zDuty s (s (147 + 51 * p + 0)))), (0, .ref a), (1, .int (nI (p)))] dX6_paysDuty_14 rfl (by decide) rfl ?_
  refine r_iconst ok (nI 0) dX6_paysDuty_15 (by rfl) ?_
  refine r_istore_n ok [(3, .int (nI 0)), (2, .int (zDuty s (s (147 + 51 * p + 0)))), (0, .ref a), (1, .int (nI (p)))] dX6_paysDuty_16 rfl (by decide) rfl ?_
  have L1 : ∀ (nL1 : Nat) (m : Nat), ((m + nL1 = 6)) → zW K G 5 (zQ K G (N + 0) 0 0 (zP none (mdM G M a (zPd s sT sG p) sA sH sL sI sP (zC0 sT (zPrc s p) 6) (zPdG s sT sG p) kp ln po wr))) 0 0 (mdM G M a s sA sH sL sI sP (zC0 sT (zPrc s p) m) sG kp ln po wr) N 17 [(0, .ref a), (1, .int (nI (p))), (2, .int (zDutyOf s p)), (3, .int (nI (m)))] [] := by
    intro nL1
    induction nL1 with
    | zero =>
      intro m hk_m 
      obtain rfl : 6 = m := by omega
      refine r_iload_n ok dX6_paysDuty_17 3 rfl rfl ?_
      refine r_bipush ok (nI 6) dX6_paysDuty_18 (by rfl) ?_
      refine r_icmp_geN ok 79 (by omega) (by omega) dX6_paysDuty_20 (by decide) (fun _ => ?_) (fun c => absurd c (by decide))
      refine r_aload_n ok dX6_paysDuty_79 0 rfl rfl ?_
      refine r_iload_n ok dX6_paysDuty_80 2 rfl rfl ?_
      refine r_cV0 ok [] mi_X6_shares ci_X6 ml_X6_73 im_X6_shares se_X6_shares dX6_paysDuty_81 (c_X6_shares K.2.1 G M N a s sA sH sL sI sP (zC0 sT (zPrc s p) 6) sG kp ln po wr  (zDutyOf s p) ) md_o rfl rfl ⟨Nat.le_of_ble_eq_true rfl, Nat.le_of_ble_eq_true rfl⟩ (Nat.le_of_ble_eq_true rfl) ⟨Nat.zero_le _, Nat.zero_le _⟩ ?_
      refine r_iconst ok (nI 0) dX6_paysDuty_84 (by rfl) ?_
      refine r_istore_n ok [(3, .int (nI 0)), (0, .ref a), (1, .int (nI (p))), (2, .int (zDutyOf s p))] dX6_paysDuty_85 rfl (by decide) rfl ?_
      have L3 : ∀ (nL3 : Nat) (k : Nat), ((k + nL3 = 6)) → zW K G 5 (zQ K G (N + 0) 0 0 (zP none (mdM G M a (zPd s sT sG p) sA sH sL sI sP (zC0 sT (zPrc s p) 6) (zPdG s sT sG p) kp ln po wr))) 0 0 (mdM G M a (zPayD s (zPdG s sT sG p) k) sA sH sL sI sP (zC0 sT (zPrc s p) 6) (zPdG s sT sG p) kp ln po wr) N 86 [(0, .ref a), (1, .int (nI (p))), (2, .int (zDutyOf s p)), (3, .int (nI (k)))] [] := by
        intro nL3
        induction nL3 with
        | zero =>
          intro k hk_k 
          obtain rfl : 6 = k := by omega
          refine r_iload_n ok dX6_paysDuty_86 3 rfl rfl ?_
          refine r_bipush ok (nI 6) dX6_paysDuty_87 (by rfl) ?_
          refine r_icmp_geN ok 136 (by omega) (by omega) dX6_paysDuty_89 (by decide) (fun _ => ?_) (fun c => absurd c (by decide))
          refine r_aload_n ok dX6_paysDuty_136 0 rfl rfl ?_
          refine r_getf ok ci_X6 fl_X6_7 (by decide) dX6_paysDuty_137 md_o rfl ?_
          refine r_bipush ok (nI 12) dX6_paysDuty_140 (by rfl) ?_
          refine r_dup2 ok dX6_paysDuty_142 rfl rfl ?_
          refine r_ialdN ok (by omega) (by omega) dX6_paysDuty_143 md_s ?_
          refine zW.to (st' := [.int (s 12), .int (nI 12), .ref (a + 1)]) ?_ rfl rfl (congrArg (fun z => (Value.int z :: [.int (nI 12), .ref (a + 1)] : List Value)) (show (zPayD s (zPdG s sT sG p) 6) 12 = s 12 from (zPayD_lo (by omega))))
          refine r_iload_n ok dX6_paysDuty_144 2 rfl rfl ?_
          refine r_iadd ok dX6_paysDuty_145 ?_
          refine r_iastN ok (by omega) (by omega) dX6_paysDuty_146 md_s (mdw_s _) ?_
          exact r_vret ok dX6_paysDuty_147 rfl ⟨rfl, (by rfl)⟩
        | succ nL3 ihL3 =>
          intro k hk_k 
          refine r_iload_n ok dX6_paysDuty_86 3 rfl rfl ?_
          refine r_bipush ok (nI 6) dX6_paysDuty_87 (by rfl) ?_
          refine r_icmp_geN ok 136 (by omega) (by omega) dX6_paysDuty_89 (by decide) (fun c89_5 => ?_) (fun c89_5 => ?_)
          · skip
            exact absurd c89_5 (by omega)
          · skip
            refine r_aload_n ok dX6_paysDuty_92 0 rfl rfl ?_
            refine r_getf ok ci_X6 fl_X6_7 (by decide) dX6_paysDuty_93 md_o rfl ?_
            refine r_iload_n ok dX6_paysDuty_96 3 rfl rfl ?_
            refine r_iconst ok (nI 0) dX6_paysDuty_97 (by rfl) ?_
            refine r_cS1 ok [.ref (a + 1)] mi_X6_of ml_X6_47 sm_X6_of dX6_paysDuty_98 (c_X6_of K.2.1 G (mdM G M a (zPayD s (zPdG s sT sG p) k) sA sH sL sI sP (zC0 sT (zPrc s p) 6) (zPdG s sT sG p) kp ln po wr) N  k 0 ) rfl rfl ⟨Nat.le_of_ble_eq_true rfl, Nat.le_of_ble_eq_true rfl⟩ (Nat.le_of_ble_eq_true rfl) ⟨Nat.zero_le _, Nat.zero_le _⟩ ?_
            refine r_dup2 ok dX6_paysDuty_101 rfl rfl ?_
            refine r_ialdN ok (by omega) (by omega) dX6_paysDuty_102 md_s ?_
            refine r_aload_n ok dX6_paysDuty_103 0 rfl rfl ?_
            refine r_getf ok ci_X6 fl_X6_32 (by decide) dX6_paysDuty_104 md_o rfl ?_
            refine r_iload_n ok dX6_paysDuty_107 3 rfl rfl ?_
            refine r_ialdN ok (by omega) (by omega) dX6_paysDuty_108 md_sG ?_
            refine r_isub ok dX6_paysDuty_109 ?_
            refine r_iastN ok (by omega) (by omega) dX6_paysDuty_110 md_s (mdw_s _) ?_
            refine r_aload_n ok dX6_paysDuty_111 0 rfl rfl ?_
            refine r_getf ok ci_X6 fl_X6_7 (by decide) dX6_paysDuty_112 md_o rfl ?_
            refine r_iload_n ok dX6_paysDuty_115 3 rfl rfl ?_
            refine r_iconst ok (nI 4) dX6_paysDuty_116 (by rfl) ?_
            refine r_cS1 ok [.ref (a + 1)] mi_X6_of ml_X6_47 sm_X6_of dX6_paysDuty_117 (c_X6_of K.2.1 G (mdM G M a (upd (zPayD s (zPdG s sT sG p) k) (15 + 22 * k + 0) (((zPayD s (zPdG s sT sG p) k) (15 + 22 * k + 0)) - ((zPdG s sT sG p) k))) sA sH sL sI sP (zC0 sT (zPrc s p) 6) (zPdG s sT sG p) kp ln po wr) N  k 4 ) rfl rfl ⟨Nat.le_of_ble_eq_true rfl, Nat.le_of_ble_eq_true rfl⟩ (Nat.le_of_ble_eq_true rfl) ⟨Nat.zero_le _, Nat.zero_le _⟩ ?_
            refine r_dup2 ok dX6_paysDuty_120 rfl rfl ?_
            refine r_ialdN ok (by omega) (by omega) dX6_paysDuty_121 md_s ?_
            refine r_aload_n ok dX6_paysDuty_122 0 rfl rfl ?_
            refine r_getf ok ci_X6 fl_X6_32 (by decide) dX6_paysDuty_123 md_o rfl ?_
            refine r_iload_n ok dX6_paysDuty_126 3 rfl rfl ?_
            refine r_ialdN ok (by omega) (by omega) dX6_paysDuty_127 md_sG ?_
            refine r_iadd ok dX6_paysDuty_128 ?_
            refine r_iastN ok (by omega) (by omega) dX6_paysDuty_129 md_s (mdw_s _) ?_
            refine r_iincN ok (c := 1) [(3, .int (nI (k + 1))), (0, .ref a), (1, .int (nI (p))), (2, .int (zDutyOf s p))] dX6_paysDuty_130 3 rfl (by rfl) (by decide) rfl ?_
            refine r_goto ok 86 dX6_paysDuty_133 (by decide) ?_
            have q6 : (upd (upd (zPayD s (zPdG s sT sG p) k) (15 + 22 * k + 0) (((zPayD s (zPdG s sT sG p) k) (15 + 22 * k + 0)) - ((zPdG s sT sG p) k))) (15 + 22 * k + 4) (((upd (zPayD s (zPdG s sT sG p) k) (15 + 22 * k + 0) (((zPayD s (zPdG s sT sG p) k) (15 + 22 * k + 0)) - ((zPdG s sT sG p) k))) (15 + 22 * k + 4)) + ((zPdG s sT sG p) k)) : Nat → Int32) = zPayD s (zPdG s sT sG p) (k + 1) := by first | with_reducible rfl | (rfl)
            refine zW.forget (lv' := [(0, .ref a), (1, .int (nI (p))), (2, .int (zDutyOf s p)), (3, .int (nI (k + 1)))]) ?_ [1, 2, 3, 0] rfl
            refine zW.to ?_ (congrArg (fun z => mdM G M a z sA sH sL sI sP (zC0 sT (zPrc s p) 6) (zPdG s sT sG p) kp ln po wr) q6) rfl rfl
            exact ihL3 (k + 1) (by omega)
      have q7 : (s : Nat → Int32) = zPayD s (zPdG s sT sG p) 0 := by first | with_reducible rfl | (rfl)
      have q8 : (zGets (zDutyOf s p) (zC0 sT (zPrc s p) 6) sG : Nat → Int32) = zPdG s sT sG p := by first | with_reducible rfl | (rfl)
      refine zW.forget (lv' := [(0, .ref a), (1, .int (nI (p))), (2, .int (zDutyOf s p)), (3, .int (nI 0))]) ?_ [1, 2, 3, 0] rfl
      refine zW.to ?_ (congrArg (fun z => mdM G M a z sA sH sL sI sP (zC0 sT (zPrc s p) 6) (zGets (zDutyOf s p) (zC0 sT (zPrc s p) 6) sG) kp ln po wr) q7) rfl rfl
      refine zW.to ?_ (congrArg (fun z => mdM G M a (zPayD s (zPdG s sT sG p) 0) sA sH sL sI sP (zC0 sT (zPrc s p) 6) z kp ln po wr) q8) rfl rfl
      exact L3 6 0 (by omega)
    | succ nL1 ihL1 =>
      intro m hk_m 
      refine r_iload_n ok dX6_paysDuty_17 3 rfl rfl ?_
      refine r_bipush ok (nI 6) dX6_paysDuty_18 (by rfl) ?_
      refine r_icmp_geN ok 79 (by omega) (by omega) dX6_paysDuty_20 (by decide) (fun c20_9 => ?_) (fun c20_9 => ?_)
      · skip
        exact absurd c20_9 (by omega)
      · skip
        refine r_aload_n ok dX6_paysDuty_23 0 rfl rfl ?_
        refine r_getf ok ci_X6 fl_X6_29 (by decide) dX6_paysDuty_24 md_o rfl ?_
        refine r_iload_n ok dX6_paysDuty_27 3 rfl rfl ?_
        refine r_iconst ok (nI 0) dX6_paysDuty_28 (by rfl) ?_
        refine r_iastN ok (by omega) (by omega) dX6_paysDuty_29 md_sT (mdw_sT _) ?_
        refine r_iconst ok (nI 0) dX6_paysDuty_30 (by rfl) ?_
        refine r_istore ok [(4, .int (nI 0)), (0, .ref a), (1, .int (nI (p))), (2, .int (zDutyOf s p)), (3, .int (nI (m)))] dX6_paysDuty_31 (by decide) rfl ?_
        have L10 : ∀ (nL10 : Nat) (g : Nat), ((g + nL10 = 8)) → zW K G 5 (zQ K G (N + 0) 0 0 (zP none (mdM G M a (zPd s sT sG p) sA sH sL sI sP (zC0 sT (zPrc s p) 6) (zPdG s sT sG p) kp ln po wr))) 0 0 (mdM G M a s sA sH sL sI sP (upd (zC0 sT (zPrc s p) m) m (lsum (zPrcT s p m) g)) sG kp ln po wr) N 33 [(0, .ref a), (1, .int (nI (p))), (2, .int (zDutyOf s p)), (3, .int (nI (m))), (4, .int (nI (g)))] [] := by
          intro nL10
          induction nL10 with
          | zero =>
            intro g hk_g 
            obtain rfl : 8 = g := by omega
            refine r_iload ok dX6_paysDuty_33 4 rfl ?_
            refine r_bipush ok (nI 8) dX6_paysDuty_35 (by rfl) ?_
            refine r_icmp_geN ok 73 (by omega) (by omega) dX6_paysDuty_37 (by decide) (fun _ => ?_) (fun c => absurd c (by decide))
            refine r_iincN ok (c := 1) [(3, .int (nI (m + 1))), (0, .ref a), (1, .int (nI (p))), (2, .int (zDutyOf s p)), (4, .int (nI (8)))] dX6_paysDuty_73 3 rfl (by rfl) (by decide) rfl ?_
            refine r_goto ok 17 dX6_paysDuty_76 (by decide) ?_
            have q12 : (upd (zC0 sT (zPrc s p) m) m (lsum (zPrcT s p m) 8) : Nat → Int32) = zC0 sT (zPrc s p) (m + 1) := by first | with_reducible rfl | (first | rfl | (rw [← zC0_s]; rfl))
            refine zW.forget (lv' := [(0, .ref a), (1, .int (nI (p))), (2, .int (zDutyOf s p)), (3, .int (nI (m + 1)))]) ?_ [1, 2, 3, 0] rfl
            refine zW.to ?_ (congrArg (fun z => mdM G M a s sA sH sL sI sP z sG kp ln po wr) q12) rfl rfl
            exact ihL1 (m + 1) (by omega)
          | succ nL10 ihL10 =>
            intro g hk_g 
            refine r_iload ok dX6_paysDuty_33 4 rfl ?_
            refine r_bipush ok (nI 8) dX6_paysDuty_35 (by rfl) ?_
            refine r_icmp_geN ok 73 (by omega) (by omega) dX6_paysDuty_37 (by decide) (fun c37_13 => ?_) (fun c37_13 => ?_)
            · skip
              exact absurd c37_13 (by omega)
            · skip
              refine r_aload_n ok dX6_paysDuty_40 0 rfl rfl ?_
              refine r_getf ok ci_X6 fl_X6_29 (by decide) dX6_paysDuty_41 md_o rfl ?_
              refine r_iload_n ok dX6_paysDuty_44 3 rfl rfl ?_
              refine r_dup2 ok dX6_paysDuty_45 rfl rfl ?_
              refine r_ialdN ok (by omega) (by omega) dX6_paysDuty_46 md_sT ?_
              refine zW.to (st' := [.int (lsum (zPrcT s p m) g), .int (nI (m)), .ref (a + 7)]) ?_ rfl rfl (congrArg (fun z => (Value.int z :: [.int (nI (m)), .ref (a + 7)] : List Value)) (show (upd (zC0 sT (zPrc s p) m) m (lsum (zPrcT s p m) g)) m = lsum (zPrcT s p m) g from pk_us))
              refine r_iload ok dX6_paysDuty_47 4 rfl ?_
              refine r_cS1 ok [.int (lsum (zPrcT s p m) g), .int (nI (m)), .ref (a + 7)] mi_X6_price ml_X6_54 sm_X6_price dX6_paysDuty_49 (c_X6_price K.2.1 G (mdM G M a s sA sH sL sI sP (upd (zC0 sT (zPrc s p) m) m (lsum (zPrcT s p m) g)) sG kp ln po wr) N  g ) rfl rfl ⟨Nat.le_of_ble_eq_true rfl, Nat.le_of_ble_eq_true rfl⟩ (Nat.le_of_ble_eq_true rfl) ⟨Nat.zero_le _, Nat.zero_le _⟩ ?_
              refine r_aload_n ok dX6_paysDuty_52 0 rfl rfl ?_
              refine r_getf ok ci_X6 fl_X6_7 (by decide) dX6_paysDuty_53 md_o rfl ?_
              refine r_iload_n ok dX6_paysDuty_56 1 rfl rfl ?_
              refine r_iload_n ok dX6_paysDuty_57 3 rfl rfl ?_
              refine r_iload ok dX6_paysDuty_58 4 rfl ?_
              refine r_cS1 ok [.ref (a + 1), .int (nI (10 + 5 * g)), .int (lsum (zPrcT s p m) g), .int (nI (m)), .ref (a + 7)] mi_X6_ofString ml_X6_87 sm_X6_ofString dX6_paysDuty_60 (c_X6_ofString K.2.1 G (mdM G M a s sA sH sL sI sP (upd (zC0 sT (zPrc s p) m) m (lsum (zPrcT s p m) g)) sG kp ln po wr) N  p m g ) rfl rfl ⟨Nat.le_of_ble_eq_true rfl, Nat.le_of_ble_eq_true rfl⟩ (Nat.le_of_ble_eq_true rfl) ⟨Nat.zero_le _, Nat.zero_le _⟩ ?_
              refine r_ialdN ok (by omega) (by omega) dX6_paysDuty_63 md_s ?_
              refine r_imul ok dX6_paysDuty_64 ?_
              refine r_iadd ok dX6_paysDuty_65 ?_
              refine r_iastN ok (by omega) (by omega) dX6_paysDuty_66 md_sT (mdw_sT _) ?_
              refine r_iincN ok (c := 1) [(4, .int (nI (g + 1))), (0, .ref a), (1, .int (nI (p))), (2, .int (zDutyOf s p)), (3, .int (nI (m)))] dX6_paysDuty_67 4 rfl (by rfl) (by decide) rfl ?_
              refine r_goto ok 33 dX6_paysDuty_70 (by decide) ?_
              have q14 : (upd (upd (zC0 sT (zPrc s p) m) m (lsum (zPrcT s p m) g)) m ((lsum (zPrcT s p m) g) + ((nI (10 + 5 * g)) * (s (147 + 51 * p + (3 + 8 * m + g))))) : Nat → Int32) = upd (zC0 sT (zPrc s p) m) m (lsum (zPrcT s p m) (g + 1)) := by first | with_reducible rfl | (simp [upd_upd, lsum_s, zPrcT])
              refine zW.forget (lv' := [(0, .ref a), (1, .int (nI (p))), (2, .int (zDutyOf s p)), (3, .int (nI (m))), (4, .int (nI (g + 1)))]) ?_ [1, 2, 3, 4, 0] rfl
              refine zW.to ?_ (congrArg (fun z => mdM G M a s sA sH sL sI sP z sG kp ln po wr) q14) rfl rfl
              exact ihL10 (g + 1) (by omega)
        have q15 : (upd (zC0 sT (zPrc s p) m) m (nI 0) : Nat → Int32) = upd (zC0 sT (zPrc s p) m) m (lsum (zPrcT s p m) 0) := by first | with_reducible rfl | (rfl)
        refine zW.forget (lv' := [(0, .ref a), (1, .int (nI (p))), (2, .int (zDutyOf s p)), (3, .int (nI (m))), (4, .int (nI 0))]) ?_ [1, 2, 3, 4, 0] rfl
        refine zW.to ?_ (congrArg (fun z => mdM G M a s sA sH sL sI sP z sG kp ln po wr) q15) rfl rfl
        exact L10 8 0 (by omega)
  have q16 : Value.int (zDuty s (s (147 + 51 * p + 0))) = Value.int (zDutyOf s p) := by first | with_reducible rfl | (first | rfl | rw [zC0_0])
  have q17 : (sT : Nat → Int32) = zC0 sT (zPrc s p) 0 := by first | with_reducible rfl | (first | rfl | rw [zC0_0])
  refine zW.forget (lv' := [(0, .ref a), (1, .int (nI (p))), (2, .int (zDuty s (s (147 + 51 * p + 0)))), (3, .int (nI 0))]) ?_ [2, 3, 1, 0] rfl
  refine zW.to (lv' := [(0, .ref a), (1, .int (nI (p))), (2, .int (zDutyOf s p)), (3, .int (nI 0))]) ?_ rfl (congrArg (fun z => ([(0, .ref a), (1, .int (nI (p))), (2, z), (3, .int (nI 0))] : List (Nat × Value))) q16) rfl
  refine zW.to ?_ (congrArg (fun z => mdM G M a s sA sH sL sI sP z sG kp ln po wr) q17) rfl rfl
  exact L1 6 0 (by omega)
set_option maxHeartbeats 4000000 in
set_option maxRecDepth 100000 in
theorem c_X6_record (l : Launch) (G : zG) (M : zM) (N a : Nat) (s sA sH sL : Nat → Int32) (sI : Nat → Bool) (sP sT sG : Nat → Int32) (kp ln po : Int32) (wr : Bool) (kn : Nat)  (hk : kn ≤ 6) : zC l G yX6_record cX6_record 2 (none) 0 0 0 0 [.ref a] (mdM G M a s sA sH sL sI sP sT sG (nI kn) ln po wr) N (zP none (mdM G M a s sA (zRecH s sH kn) sL sI sP sT sG (nI (zRecK kn)) ln po wr)) := by
  refine zC.of (by decide +kernel) (Nat.le_of_ble_eq_true rfl) ?_
  intro K hKl ok
  subst hKl
  show zW K G 2 _ 0 0 _ N 0 [(0, .ref a)] []
  refine r_aload_n ok dX6_record_0 0 rfl rfl ?_
  refine r_getf ok ci_X6 fl_X6_39 (by decide) dX6_record_1 md_o rfl ?_
  refine r_bipush ok (nI 6) dX6_record_4 (by rfl) ?_
  refine r_icmp_neN ok 50 (by omega) (by omega) dX6_record_6 (by decide) (fun c6_1 => ?_) (fun c6_1 => ?_)
  · skip
    refine r_iconst ok (nI 0) dX6_record_50 (by rfl) ?_
    refine r_istore_n ok [(1, .int (nI 0)), (0, .ref a)] dX6_record_51 rfl (by decide) rfl ?_
    have L2 : ∀ (nL2 : Nat) (k : Nat), ((k + nL2 = 402)) → zW K G 2 (zQ K G (N + 0) 0 0 (zP none (mdM G M a s sA (zRecH s sH kn) sL sI sP sT sG (nI (zRecK kn)) ln po wr))) 0 0 (mdM G M a s sA (zCp sH s (402 * kn) k) sL sI sP sT sG (nI kn) ln po wr) N 52 [(0, .ref a), (1, .int (nI (k)))] [] := by
      intro nL2
      induction nL2 with
      | zero =>
        intro k hk_k 
        obtain rfl : 402 = k := by omega
        refine r_iload_n ok dX6_record_52 1 rfl rfl ?_
        refine r_sipush ok (nI 402) dX6_record_53 (by rfl) ?_
        refine r_icmp_geN ok 86 (by omega) (by omega) dX6_record_56 (by decide) (fun _ => ?_) (fun c => absurd c (by decide))
        refine r_aload_n ok dX6_record_86 0 rfl rfl ?_
        refine r_dup ok dX6_record_87 rfl ?_
        refine r_getf ok ci_X6 fl_X6_39 (by decide) dX6_record_88 md_o rfl ?_
        refine r_iconst ok (nI 1) dX6_record_91 (by rfl) ?_
        refine r_iaddN ok dX6_record_92 ?_
        refine r_putf ok ci_X6 fl_X6_39 (by decide) rfl rfl rfl dX6_record_93 md_o rfl (mdw_o (nI (kn + 1)) ln po wr) ?_
        exact r_vret ok dX6_record_96 rfl ⟨rfl, (by first | rfl | simp [zRecH, zRecK, *])⟩
      | succ nL2 ihL2 =>
        intro k hk_k 
        refine r_iload_n ok dX6_record_52 1 rfl rfl ?_
        refine r_sipush ok (nI 402) dX6_record_53 (by rfl) ?_
        refine r_icmp_geN ok 86 (by omega) (by omega) dX6_record_56 (by decide) (fun c56_4 => ?_) (fun c56_4 => ?_)
        · skip
          exact absurd c56_4 (by omega)
        · skip
          refine r_aload_n ok dX6_record_59 0 rfl rfl ?_
          refine r_getf ok ci_X6 fl_X6_16 (by decide) dX6_record_60 md_o rfl ?_
          refine r_sipush ok (nI 402) dX6_record_63 (by rfl) ?_
          refine r_aload_n ok dX6_record_66 0 rfl rfl ?_
          refine r_getf ok ci_X6 fl_X6_39 (by decide) dX6_record_67 md_o rfl ?_
          refine r_imulN ok dX6_record_70 ?_
          refine r_iload_n ok dX6_record_71 1 rfl rfl ?_
          refine r_iaddN ok dX6_record_72 ?_
          refine r_aload_n ok dX6_record_73 0 rfl rfl ?_
          refine r_getf ok ci_X6 fl_X6_7 (by decide) dX6_record_74 md_o rfl ?_
          refine r_iload_n ok dX6_record_77 1 rfl rfl ?_
          refine r_ialdN ok (by omega) (by omega) dX6_record_78 md_s ?_
          refine r_iastN ok (by omega) (by omega) dX6_record_79 md_sH (mdw_sH _) ?_
          refine r_iincN ok (c := 1) [(1, .int (nI (k + 1))), (0, .ref a)] dX6_record_80 1 rfl (by rfl) (by decide) rfl ?_
          refine r_goto ok 52 dX6_record_83 (by decide) ?_
          have q5 : (upd (zCp sH s (402 * kn) k) ((402 * kn) + k) (s k) : Nat → Int32) = zCp sH s (402 * kn) (k + 1) := by first | with_reducible rfl | (rw [zCp_s])
          refine zW.forget (lv' := [(0, .ref a), (1, .int (nI (k + 1)))]) ?_ [1, 0] rfl
          refine zW.to ?_ (congrArg (fun z => mdM G M a s sA z sL sI sP sT sG (nI kn) ln po wr) q5) rfl rfl
          exact ihL2 (k + 1) (by omega)
    have q6 : (sH : Nat → Int32) = zCp sH s (402 * kn) 0 := by first | with_reducible rfl | (rw [zCp_0])
    refine zW.forget (lv' := [(0, .ref a), (1, .int (nI 0))]) ?_ [1, 0] rfl
    refine zW.to ?_ (congrArg (fun z => mdM G M a s sA z sL sI sP sT sG (nI kn) ln po wr) q6) rfl rfl
    exact L2 402 0 (by omega)
  · skip
    obtain rfl : kn = 6 := by omega
    refine r_iconst ok (nI 0) dX6_record_9 (by rfl) ?_
    refine r_istore_n ok [(1, .int (nI 0)), (0, .ref a)] dX6_record_10 rfl (by decide) rfl ?_
    have L7 : ∀ (nL7 : Nat) (k : Nat), ((k + nL7 = 2010)) → zW K G 2 (zQ K G (N + 0) 0 0 (zP none (mdM G M a s sA (zRecH s sH 6) sL sI sP sT sG (nI (zRecK 6)) ln po wr))) 0 0 (mdM G M a s sA (zSh sH k) sL sI sP sT sG (nI 6) ln po wr) N 11 [(0, .ref a), (1, .int (nI (k)))] [] := by
      intro nL7
      induction nL7 with
      | zero =>
        intro k hk_k 
        obtain rfl : 2010 = k := by omega
        refine r_iload_n ok dX6_record_11 1 rfl rfl ?_
        refine r_sipush ok (nI 2010) dX6_record_12 (by rfl) ?_
        refine r_icmp_geN ok 40 (by omega) (by omega) dX6_record_15 (by decide) (fun _ => ?_) (fun c => absurd c (by decide))
        refine r_aload_n ok dX6_record_40 0 rfl rfl ?_
        refine r_dup ok dX6_record_41 rfl ?_
        refine r_getf ok ci_X6 fl_X6_39 (by decide) dX6_record_42 md_o rfl ?_
        refine r_iconst ok (nI 1) dX6_record_45 (by rfl) ?_
        refine r_isubN ok (by omega) dX6_record_46 ?_
        refine r_putf ok ci_X6 fl_X6_39 (by decide) rfl rfl rfl dX6_record_47 md_o rfl (mdw_o (nI (6 - 1)) ln po wr) ?_
        refine r_iconst ok (nI 0) dX6_record_50 (by rfl) ?_
        refine r_istore_n ok [(1, .int (nI 0)), (0, .ref a)] dX6_record_51 rfl (by decide) rfl ?_
        have L9 : ∀ (nL9 : Nat) (k : Nat), ((k + nL9 = 402)) → zW K G 2 (zQ K G (N + 0) 0 0 (zP none (mdM G M a s sA (zRecH s sH 6) sL sI sP sT sG (nI (zRecK 6)) ln po wr))) 0 0 (mdM G M a s sA (zCp (zSh sH 2010) s (402 * (6 - 1)) k) sL sI sP sT sG (nI (6 - 1)) ln po wr) N 52 [(0, .ref a), (1, .int (nI (k)))] [] := by
          intro nL9
          induction nL9 with
          | zero =>
            intro k hk_k 
            obtain rfl : 402 = k := by omega
            refine r_iload_n ok dX6_record_52 1 rfl rfl ?_
            refine r_sipush ok (nI 402) dX6_record_53 (by rfl) ?_
            refine r_icmp_geN ok 86 (by omega) (by omega) dX6_record_56 (by decide) (fun _ => ?_) (fun c => absurd c (by decide))
            refine r_aload_n ok dX6_record_86 0 rfl rfl ?_
            refine r_dup ok dX6_record_87 rfl ?_
            refine r_getf ok ci_X6 fl_X6_39 (by decide) dX6_record_88 md_o rfl ?_
            refine r_iconst ok (nI 1) dX6_record_91 (by rfl) ?_
            refine r_iaddN ok dX6_record_92 ?_
            refine r_putf ok ci_X6 fl_X6_39 (by decide) rfl rfl rfl dX6_record_93 md_o rfl (mdw_o (nI ((6 - 1) + 1)) ln po wr) ?_
            exact r_vret ok dX6_record_96 rfl ⟨rfl, (by first | rfl | simp [zRecH, zRecK, *])⟩
          | succ nL9 ihL9 =>
            intro k hk_k 
            refine r_iload_n ok dX6_record_52 1 rfl rfl ?_
            refine r_sipush ok (nI 402) dX6_record_53 (by rfl) ?_
            refine r_icmp_geN ok 86 (by omega) (by omega) dX6_record_56 (by decide) (fun c56_11 => ?_) (fun c56_11 => ?_)
            · skip
              exact absurd c56_11 (by omega)
            · skip
              refine r_aload_n ok dX6_record_59 0 rfl rfl ?_
              refine r_getf ok ci_X6 fl_X6_16 (by decide) dX6_record_60 md_o rfl ?_
              refine r_sipush ok (nI 402) dX6_record_63 (by rfl) ?_
              refine r_aload_n ok dX6_record_66 0 rfl rfl ?_
              refine r_getf ok ci_X6 fl_X6_39 (by decide) dX6_record_67 md_o rfl ?_
              refine r_imulN ok dX6_record_70 ?_
              refine r_iload_n ok dX6_record_71 1 rfl rfl ?_
              refine r_iaddN ok dX6_record_72 ?_
              refine r_aload_n ok dX6_record_73 0 rfl rfl ?_
              refine r_getf ok ci_X6 fl_X6_7 (by decide) dX6_record_74 md_o rfl ?_
              refine r_iload_n ok dX6_record_77 1 rfl rfl ?_
              refine r_ialdN ok (by omega) (by omega) dX6_record_78 md_s ?_
              refine r_iastN ok (by omega) (by omega) dX6_record_79 md_sH (mdw_sH _) ?_
              refine r_iincN ok (c := 1) [(1, .int (nI (k + 1))), (0, .ref a)] dX6_record_80 1 rfl (by rfl) (by decide) rfl ?_
              refine r_goto ok 52 dX6_record_83 (by decide) ?_
              have q12 : (upd (zCp (zSh sH 2010) s (402 * (6 - 1)) k) ((402 * (6 - 1)) + k) (s k) : Nat → Int32) = zCp (zSh sH 2010) s (402 * (6 - 1)) (k + 1) := by first | with_reducible rfl | (rw [zCp_s])
              refine zW.forget (lv' := [(0, .ref a), (1, .int (nI (k + 1)))]) ?_ [1, 0] rfl
              refine zW.to ?_ (congrArg (fun z => mdM G M a s sA z sL sI sP sT sG (nI (6 - 1)) ln po wr) q12) rfl rfl
              exact ihL9 (k + 1) (by omega)
        have q13 : (zSh sH 2010 : Nat → Int32) = zCp (zSh sH 2010) s (402 * (6 - 1)) 0 := by first | with_reducible rfl | (rw [zCp_0])
        refine zW.forget (lv' := [(0, .ref a), (1, .int (nI 0))]) ?_ [1, 0] rfl
        refine zW.to ?_ (congrArg (fun z => mdM G M a s sA z sL sI sP sT sG (nI (6 - 1)) ln po wr) q13) rfl rfl
        exact L9 402 0 (by omega)
      | succ nL7 ihL7 =>
        intro k hk_k 
        refine r_iload_n ok dX6_record_11 1 rfl rfl ?_
        refine r_sipush ok (nI 2010) dX6_record_12 (by rfl) ?_
        refine r_icmp_geN ok 40 (by omega) (by omega) dX6_record_15 (by decide) (fun c15_14 => ?_) (fun c15_14 => ?_)
        · skip
          exact absurd c15_14 (by omega)
        · skip
          refine r_aload_n ok dX6_record_18 0 rfl rfl ?_
          refine r_getf ok ci_X6 fl_X6_16 (by decide) dX6_record_19 md_o rfl ?_
          refine r_iload_n ok dX6_record_22 1 rfl rfl ?_
          refine r_aload_n ok dX6_record_23 0 rfl rfl ?_
          refine r_getf ok ci_X6 fl_X6_16 (by decide) dX6_record_24 md_o rfl ?_
          refine r_iload_n ok dX6_record_27 1 rfl rfl ?_
          refine r_sipush ok (nI 402) dX6_record_28 (by rfl) ?_
          refine r_iaddN ok dX6_record_31 ?_
          refine r_ialdN ok (by omega) (by omega) dX6_record_32 md_sH ?_
          refine r_iastN ok (by omega) (by omega) dX6_record_33 md_sH (mdw_sH _) ?_
          refine r_iincN ok (c := 1) [(1, .int (nI (k + 1))), (0, .ref a)] dX6_record_34 1 rfl (by rfl) (by decide) rfl ?_
          refine r_goto ok 11 dX6_record_37 (by decide) ?_
          have q15 : (upd (zSh sH k) k ((zSh sH k) (k + 402)) : Nat → Int32) = zSh sH (k + 1) := by first | with_reducible rfl | (rw [zSh_s])
          refine zW.forget (lv' := [(0, .ref a), (1, .int (nI (k + 1)))]) ?_ [1, 0] rfl
          refine zW.to ?_ (congrArg (fun z => mdM G M a s sA z sL sI sP sT sG (nI 6) ln po wr) q15) rfl rfl
          exact ihL7 (k + 1) (by omega)
    have q16 : (sH : Nat → Int32) = zSh sH 0 := by first | with_reducible rfl | (exact (zC0_0 _ _).symm)
    refine zW.forget (lv' := [(0, .ref a), (1, .int (nI 0))]) ?_ [1, 0] rfl
    refine zW.to ?_ (congrArg (fun z => mdM G M a s sA z sL sI sP sT sG (nI 6) ln po wr) q16) rfl rfl
    exact L7 2010 0 (by omega)
set_option maxHeartbeats 4000000 in
set_option maxRecDepth 100000 in
theorem c_X6_putAside (l : Launch) (G : zG) (M : zM) (N a : Nat) (s sA sH sL : Nat → Int32) (sI : Nat → Bool) (sP sT sG : Nat → Int32) (kp ln po : Int32) (wr : Bool)    : zC l G yX6_putAside cX6_putAside 2 (none) 0 0 0 0 [.ref a] (mdM G M a s sA sH sL sI sP sT sG kp ln po wr) N (zP none (mdM G M a s (zC0 sA s 402) sH sL sI sP sT sG kp ln po wr)) := by
  refine zC.of (by decide +kernel) (Nat.le_of_ble_eq_true rfl) ?_
  intro K hKl ok
  subst hKl
  show zW K G 2 _ 0 0 _ N 0 [(0, .ref a)] []
  refine r_iconst ok (nI 0) dX6_putAside_0 (by rfl) ?_
  refine r_istore_n ok [(1, .int (nI 0)), (0, .ref a)] dX6_putAside_1 rfl (by decide) rfl ?_
  have L1 : ∀ (nL1 : Nat) (k : Nat), ((k + nL1 = 402)) → zW K G 2 (zQ K G (N + 0) 0 0 (zP none (mdM G M a s (zC0 sA s 402) sH sL sI sP sT sG kp ln po wr))) 0 0 (mdM G M a s (zC0 sA s k) sH sL sI sP sT sG kp ln po wr) N 2 [(0, .ref a), (1, .int (nI (k)))] [] := by
    intro nL1
    induction nL1 with
    | zero =>
      intro k hk_k 
      obtain rfl : 402 = k := by omega
      refine r_iload_n ok dX6_putAside_2 1 rfl rfl ?_
      refine r_sipush ok (nI 402) dX6_putAside_3 (by rfl) ?_
      refine r_icmp_geN ok 27 (by omega) (by omega) dX6_putAside_6 (by decide) (fun _ => ?_) (fun c => absurd c (by decide))
      exact r_vret ok dX6_putAside_27 rfl ⟨rfl, rfl⟩
    | succ nL1 ihL1 =>
      intro k hk_k 
      refine r_iload_n ok dX6_putAside_2 1 rfl rfl ?_
      refine r_sipush ok (nI 402) dX6_putAside_3 (by rfl) ?_
      refine r_icmp_geN ok 27 (by omega) (by omega) dX6_putAside_6 (by decide) (fun c6_3 => ?_) (fun c6_3 => ?_)
      · skip
        exact absurd c6_3 (by omega)
      · skip
        refine r_aload_n ok dX6_putAside_9 0 rfl rfl ?_
        refine r_getf ok ci_X6 fl_X6_13 (by decide) dX6_putAside_10 md_o rfl ?_
        refine r_iload_n ok dX6_putAside_13 1 rfl rfl ?_
        refine r_aload_n ok dX6_putAside_14 0 rfl rfl ?_
        refine r_getf ok ci_X6 fl_X6_7 (by decide) dX6_putAside_15 md_o rfl ?_
        refine r_iload_n ok dX6_putAside_18 1 rfl rfl ?_
        refine r_ialdN ok (by omega) (by omega) dX6_putAside_19 md_s ?_
        refine r_iastN ok (by omega) (by omega) dX6_putAside_20 md_sA (mdw_sA _) ?_
        refine r_iincN ok (c := 1) [(1, .int (nI (k + 1))), (0, .ref a)] dX6_putAside_21 1 rfl (by rfl) (by decide) rfl ?_
        refine r_goto ok 2 dX6_putAside_24 (by decide) ?_
        have q4 : (upd (zC0 sA s k) k (s k) : Nat → Int32) = zC0 sA s (k + 1) := by first | with_reducible rfl | (rw [zC0_s])
        refine zW.forget (lv' := [(0, .ref a), (1, .int (nI (k + 1)))]) ?_ [1, 0] rfl
        refine zW.to ?_ (congrArg (fun z => mdM G M a s z sH sL sI sP sT sG kp ln po wr) q4) rfl rfl
        exact ihL1 (k + 1) (by omega)
  have q5 : (sA : Nat → Int32) = zC0 sA s 0 := by first | with_reducible rfl | (rw [zC0_0])
  refine zW.forget (lv' := [(0, .ref a), (1, .int (nI 0))]) ?_ [1, 0] rfl
  refine zW.to ?_ (congrArg (fun z => mdM G M a s z sH sL sI sP sT sG kp ln po wr) q5) rfl rfl
  exact L1 402 0 (by omega)
set_option maxHeartbeats 4000000 in
set_option maxRecDepth 100000 in
theorem c_X6_putBack (l : Launch) (G : zG) (M : zM) (N a : Nat) (s sA sH sL : Nat → Int32) (sI : Nat → Bool) (sP sT sG : Nat → Int32) (kp ln po : Int32) (wr : Bool)    : zC l G yX6_putBack cX6_putBack 2 (none) 0 0 0 0 [.ref a] (mdM G M a s sA sH sL sI sP sT sG kp ln po wr) N (zP none (mdM G M a (zC0 s sA 402) sA sH sL sI sP sT sG kp ln po wr)) := by
  refine zC.of (by decide +kernel) (Nat.le_of_ble_eq_true rfl) ?_
  intro K hKl ok
  subst hKl
  show zW K G 2 _ 0 0 _ N 0 [(0, .ref a)] []
  refine r_iconst ok (nI 0) dX6_putBack_0 (by rfl) ?_
  refine r_istore_n ok [(1, .int (nI 0)), (0, .ref a)] dX6_putBack_1 rfl (by decide) rfl ?_
  have L1 : ∀ (nL1 : Nat) (k : Nat), ((k + nL1 = 402)) → zW K G 2 (zQ K G (N + 0) 0 0 (zP none (mdM G M a (zC0 s sA 402) sA sH sL sI sP sT sG kp ln po wr))) 0 0 (mdM G M a (zC0 s sA k) sA sH sL sI sP sT sG kp ln po wr) N 2 [(0, .ref a), (1, .int (nI (k)))] [] := by
    intro nL1
    induction nL1 with
    | zero =>
      intro k hk_k 
      obtain rfl : 402 = k := by omega
      refine r_iload_n ok dX6_putBack_2 1 rfl rfl ?_
      refine r_sipush ok (nI 402) dX6_putBack_3 (by rfl) ?_
      refine r_icmp_geN ok 27 (by omega) (by omega) dX6_putBack_6 (by decide) (fun _ => ?_) (fun c => absurd c (by decide))
      exact r_vret ok dX6_putBack_27 rfl ⟨rfl, rfl⟩
    | succ nL1 ihL1 =>
      intro k hk_k 
      refine r_iload_n ok dX6_putBack_2 1 rfl rfl ?_
      refine r_sipush ok (nI 402) dX6_putBack_3 (by rfl) ?_
      refine r_icmp_geN ok 27 (by omega) (by omega) dX6_putBack_6 (by decide) (fun c6_3 => ?_) (fun c6_3 => ?_)
      · skip
        exact absurd c6_3 (by omega)
      · skip
        refine r_aload_n ok dX6_putBack_9 0 rfl rfl ?_
        refine r_getf ok ci_X6 fl_X6_7 (by decide) dX6_putBack_10 md_o rfl ?_
        refine r_iload_n ok dX6_putBack_13 1 rfl rfl ?_
        refine r_aload_n ok dX6_putBack_14 0 rfl rfl ?_
        refine r_getf ok ci_X6 fl_X6_13 (by decide) dX6_putBack_15 md_o rfl ?_
        refine r_iload_n ok dX6_putBack_18 1 rfl rfl ?_
        refine r_ialdN ok (by omega) (by omega) dX6_putBack_19 md_sA ?_
        refine r_iastN ok (by omega) (by omega) dX6_putBack_20 md_s (mdw_s _) ?_
        refine r_iincN ok (c := 1) [(1, .int (nI (k + 1))), (0, .ref a)] dX6_putBack_21 1 rfl (by rfl) (by decide) rfl ?_
        refine r_goto ok 2 dX6_putBack_24 (by decide) ?_
        have q4 : (upd (zC0 s sA k) k (sA k) : Nat → Int32) = zC0 s sA (k + 1) := by first | with_reducible rfl | (rw [zC0_s])
        refine zW.forget (lv' := [(0, .ref a), (1, .int (nI (k + 1)))]) ?_ [1, 0] rfl
        refine zW.to ?_ (congrArg (fun z => mdM G M a z sA sH sL sI sP sT sG kp ln po wr) q4) rfl rfl
        exact ihL1 (k + 1) (by omega)
  have q5 : (s : Nat → Int32) = zC0 s sA 0 := by first | with_reducible rfl | (rw [zC0_0])
  refine zW.forget (lv' := [(0, .ref a), (1, .int (nI 0))]) ?_ [1, 0] rfl
  refine zW.to ?_ (congrArg (fun z => mdM G M a z sA sH sL sI sP sT sG kp ln po wr) q5) rfl rfl
  exact L1 402 0 (by omega)
set_option maxHeartbeats 4000000 in
set_option maxRecDepth 100000 in
theorem c_X6_lays (l : Launch) (G : zG) (M : zM) (N a : Nat) (s sA sH sL : Nat → Int32) (sI : Nat → Bool) (sP sT sG : Nat → Int32) (kp ln po : Int32) (wr : Bool) (kn : Nat) (ix : Nat) (v : Int32) (hk : kn ≤ 6) (hix : ix < 402) : zC l G yX6_lays cX6_lays 4 (some .int) 1 21 0 0 [.ref a, .int (nI (ix)), .int (v)] (mdM G M a s sA sH sL sI sP sT sG (nI kn) ln po wr) N (zP (some (.int (s ix))) (mdM G M a (upd s ix v) sA (zRecH s sH kn) sL sI sP sT sG (nI (zRecK kn)) ln po wr)) := by
  refine zC.of (by decide +kernel) (Nat.le_of_ble_eq_true rfl) ?_
  intro K hKl ok
  subst hKl
  show zW K G 4 _ 0 0 _ N 0 [(0, .ref a), (1, .int (nI (ix))), (2, .int (v))] []
  refine r_aload_n ok dX6_lays_0 0 rfl rfl ?_
  refine r_cV0 ok [] mi_X6_record ci_X6 ml_X6_113 im_X6_record se_X6_record dX6_lays_1 (c_X6_record K.2.1 G M N a s sA sH sL sI sP sT sG (nI kn) ln po wr kn  (by omega)) md_o rfl rfl ⟨Nat.le_of_ble_eq_true rfl, Nat.le_of_ble_eq_true rfl⟩ (Nat.le_of_ble_eq_true rfl) ⟨Nat.zero_le _, Nat.zero_le _⟩ ?_
  refine r_aload_n ok dX6_lays_4 0 rfl rfl ?_
  refine r_getf ok ci_X6 fl_X6_7 (by decide) dX6_lays_5 md_o rfl ?_
  refine r_iload_n ok dX6_lays_8 1 rfl rfl ?_
  refine r_ialdN ok (by omega) (by omega) dX6_lays_9 md_s ?_
  refine r_istore_n ok [(3, .int (s ix)), (0, .ref a), (1, .int (nI (ix))), (2, .int (v))] dX6_lays_10 rfl (by decide) rfl ?_
  refine r_aload_n ok dX6_lays_11 1 rfl rfl ?_
  refine r_getf ok ci_X6 fl_X6_7 (by decide) dX6_lays_12 md_o rfl ?_
  refine r_iload_n ok dX6_lays_15 2 rfl rfl ?_
  refine r_iload_n ok dX6_lays_16 3 rfl rfl ?_
  refine r_iastN ok (by omega) (by omega) dX6_lays_17 md_s (mdw_s _) ?_
  refine r_iload_n ok dX6_lays_18 0 rfl rfl ?_
  exact r_iret ok dX6_lays_19 rfl ⟨rfl, rfl⟩
set_option maxHeartbeats 4000000 in
set_option maxRecDepth 100000 in
theorem c_X6_least (l : Launch) (G : zG) (M : zM) (N : Nat)  (i : Nat) (hi : i < 9) : zC l G yX6_least cX6_least 1 (some .int) 0 0 0 0 [.int (nI (i))] (M) N (zP (some (.int (zLeast i))) (M)) := by
  refine zC.of (by decide +kernel) (Nat.le_of_ble_eq_true rfl) ?_
  intro K hKl ok
  subst hKl
  show zW K G 1 _ 0 0 _ N 0 [(0, .int (nI (i)))] []
  refine r_iload_n ok dX6_least_0 0 rfl rfl ?_
  refine r_if_neN ok 8 (by omega) dX6_least_1 (by decide) (fun c1_1 => ?_) (fun c1_1 => ?_)
  · skip
    refine r_iload_n ok dX6_least_8 0 rfl rfl ?_
    refine r_iconst ok (nI 3) dX6_least_9 (by rfl) ?_
    refine r_icmp_neN ok 17 (by omega) (by omega) dX6_least_10 (by decide) (fun c10_2 => ?_) (fun c10_2 => ?_)
    · skip
      refine r_iconst ok (nI 0) dX6_least_17 (by rfl) ?_
      exact r_iret ok dX6_least_18 rfl ⟨congrArg (fun z => some (Value.int z)) (show nI 0 = zLeast i from by (subst_vars; first | rfl | (rw [zLeast_eq _ (by omega), if_neg (by omega), if_neg (by omega)]; rfl))), rfl⟩
    · skip
      refine r_iconst ok (nI 1) dX6_least_13 (by rfl) ?_
      refine r_goto ok 18 dX6_least_14 (by decide) ?_
      exact r_iret ok dX6_least_18 rfl ⟨congrArg (fun z => some (Value.int z)) (show nI 1 = zLeast i from by (subst_vars; first | rfl | (rw [zLeast_eq _ (by omega), if_neg (by omega), if_neg (by omega)]; rfl))), rfl⟩
  · skip
    refine r_iconst ok (nI 2) dX6_least_4 (by rfl) ?_
    refine r_goto ok 18 dX6_least_5 (by decide) ?_
    exact r_iret ok dX6_least_18 rfl ⟨congrArg (fun z => some (Value.int z)) (show nI 2 = zLeast i from by (subst_vars; first | rfl | (rw [zLeast_eq _ (by omega), if_neg (by omega), if_neg (by omega)]; rfl))), rfl⟩
set_option maxHeartbeats 4000000 in
set_option maxRecDepth 100000 in
theorem c_X6_most (l : Launch) (G : zG) (M : zM) (N : Nat)  (v : Int32)  : zC l G yX6_most cX6_most 1 (some .int) 0 0 0 0 [.int (v)] (M) N (zP (some (.int (zMostI v))) (M)) := by
  refine zC.of (by decide +kernel) (Nat.le_of_ble_eq_true rfl) ?_
  intro K hKl ok
  subst hKl
  show zW K G 1 _ 0 0 _ N 0 [(0, .int (v))] []
  refine r_iload_n ok dX6_most_0 0 rfl rfl ?_
  by_cases c1_1 : v = nI 0
  · skip
    subst c1_1
    refine r_table ok dX6_most_1 (t := 44) (by decide +kernel) (by decide +kernel) ?_
    refine r_bipush ok (nI 20) dX6_most_44 (by rfl) ?_
    exact r_iret ok dX6_most_46 rfl ⟨congrArg (fun z => some (Value.int z)) (show nI 20 = zMostI (nI 0) from by first | rfl | (show (100 : Int32) = _; simp [zMostI, *])), rfl⟩
  by_cases c1_2 : v = nI 1
  · skip
    subst c1_2
    refine r_table ok dX6_most_1 (t := 47) (by decide +kernel) (by decide +kernel) ?_
    refine r_bipush ok (nI 99) dX6_most_47 (by rfl) ?_
    exact r_iret ok dX6_most_49 rfl ⟨congrArg (fun z => some (Value.int z)) (show nI 99 = zMostI (nI 1) from by first | rfl | (show (100 : Int32) = _; simp [zMostI, *])), rfl⟩
  by_cases c1_3 : v = nI 2
  · skip
    subst c1_3
    refine r_table ok dX6_most_1 (t := 50) (by decide +kernel) (by decide +kernel) ?_
    refine r_bipush ok (nI 9) dX6_most_50 (by rfl) ?_
    exact r_iret ok dX6_most_52 rfl ⟨congrArg (fun z => some (Value.int z)) (show nI 9 = zMostI (nI 2) from by first | rfl | (show (100 : Int32) = _; simp [zMostI, *])), rfl⟩
  by_cases c1_4 : v = nI 3
  · skip
    subst c1_4
    refine r_table ok dX6_most_1 (t := 44) (by decide +kernel) (by decide +kernel) ?_
    refine r_bipush ok (nI 20) dX6_most_44 (by rfl) ?_
    exact r_iret ok dX6_most_46 rfl ⟨congrArg (fun z => some (Value.int z)) (show nI 20 = zMostI (nI 3) from by first | rfl | (show (100 : Int32) = _; simp [zMostI, *])), rfl⟩
  by_cases c1_5 : v = nI 4
  · skip
    subst c1_5
    refine r_table ok dX6_most_1 (t := 53) (by decide +kernel) (by decide +kernel) ?_
    refine r_bipush ok (nI 30) dX6_most_53 (by rfl) ?_
    exact r_iret ok dX6_most_55 rfl ⟨congrArg (fun z => some (Value.int z)) (show nI 30 = zMostI (nI 4) from by first | rfl | (show (100 : Int32) = _; simp [zMostI, *])), rfl⟩
  by_cases c1_6 : v = nI 5
  · skip
    subst c1_6
    refine r_table ok dX6_most_1 (t := 56) (by decide +kernel) (by decide +kernel) ?_
    refine r_sipush ok (nI 500) dX6_most_56 (by rfl) ?_
    exact r_iret ok dX6_most_59 rfl ⟨congrArg (fun z => some (Value.int z)) (show nI 500 = zMostI (nI 5) from by first | rfl | (show (100 : Int32) = _; simp [zMostI, *])), rfl⟩
  by_cases c1_7 : v = nI 6
  · skip
    subst c1_7
    refine r_table ok dX6_most_1 (t := 60) (by decide +kernel) (by decide +kernel) ?_
    refine r_bipush ok (nI 50) dX6_most_60 (by rfl) ?_
    exact r_iret ok dX6_most_62 rfl ⟨congrArg (fun z => some (Value.int z)) (show nI 50 = zMostI (nI 6) from by first | rfl | (show (100 : Int32) = _; simp [zMostI, *])), rfl⟩
  have hd1 : v.toInt < 0 ∨ 6 < v.toInt := by
    rcases Int.lt_or_le v.toInt 0 with q | q
    · exact Or.inl q
    rcases Int.lt_or_le 6 v.toInt with q2 | q2
    · exact Or.inr q2
    have w0 : v.toInt ≠ 0 := fun z => c1_1 (Int32.toInt_inj.mp (z.trans (by decide +kernel)))
    have w1 : v.toInt ≠ 1 := fun z => c1_2 (Int32.toInt_inj.mp (z.trans (by decide +kernel)))
    have w2 : v.toInt ≠ 2 := fun z => c1_3 (Int32.toInt_inj.mp (z.trans (by decide +kernel)))
    have w3 : v.toInt ≠ 3 := fun z => c1_4 (Int32.toInt_inj.mp (z.trans (by decide +kernel)))
    have w4 : v.toInt ≠ 4 := fun z => c1_5 (Int32.toInt_inj.mp (z.trans (by decide +kernel)))
    have w5 : v.toInt ≠ 5 := fun z => c1_6 (Int32.toInt_inj.mp (z.trans (by decide +kernel)))
    have w6 : v.toInt ≠ 6 := fun z => c1_7 (Int32.toInt_inj.mp (z.trans (by decide +kernel)))
    omega
  refine r_table ok dX6_most_1 (t := 63) (by rw [if_pos hd1]; decide) (by decide) ?_
  refine r_bipush ok (nI 100) dX6_most_63 (by rfl) ?_
  exact r_iret ok dX6_most_65 rfl ⟨congrArg (fun z => some (Value.int z)) (show nI 100 = zMostI v from by first | rfl | (show (100 : Int32) = _; simp [zMostI, *])), rfl⟩
