set_option maxHeartbeats 4000000 in
set_option maxRecDepth 100000 in
theorem c_X6_sends (l : Launch) (G : zG) (M : zM) (N a : Nat) (s sA sH sL : Nat → Int32) (sI : Nat → Bool) (sP sT sG : Nat → Int32) (kp ln po : Int32) (wr : Bool) (pn : Nat) (mm : Int32) (hp : s 14 = nI pn) (hp4 : pn ≤ 4) : zC l G yX6_sends cX6_sends 6 (none) 5 111 0 0 [.ref a, .int (mm)] (mdM G M a s sA sH sL sI sP sT sG kp ln po wr) N (zP none (mdM G M a (zSends s sT sG mm pn) sA sH sL sI sP (zSdT s sT mm pn) (zSdG s sT sG mm pn) kp ln po wr)) := by
  refine zC.of (by decide +kernel) (Nat.le_of_ble_eq_true rfl) ?_
  intro K hKl ok
  subst hKl
  show zW K G 6 _ 0 0 _ N 0 [(0, .ref a), (1, .int (mm))] []
  refine r_aload_n ok dX6_sends_0 0 rfl rfl ?_
  refine r_getf ok ci_X6 fl_X6_7 (by decide) dX6_sends_1 md_o rfl ?_
  refine r_bipush ok (nI 14) dX6_sends_4 (by rfl) ?_
  refine r_ialdN ok (by omega) (by omega) dX6_sends_6 md_s ?_
  refine zW.to (st' := [.int (nI (pn))]) ?_ rfl rfl (congrArg (fun z => (Value.int z :: [] : List Value)) (show s 14 = nI (pn) from hp))
  refine r_istore_n ok [(2, .int (nI (pn))), (0, .ref a), (1, .int (mm))] dX6_sends_7 rfl (by decide) rfl ?_
  refine r_aload_n ok dX6_sends_8 1 rfl rfl ?_
  refine r_getf ok ci_X6 fl_X6_7 (by decide) dX6_sends_9 md_o rfl ?_
  refine r_iload_n ok dX6_sends_12 0 rfl rfl ?_
  refine r_iconst ok (nI 0) dX6_sends_13 (by rfl) ?_
  refine r_cS1 ok [.ref (a + 1)] mi_X6_ofParcel ml_X6_84 sm_X6_ofParcel dX6_sends_14 (c_X6_ofParcel K.2.1 G (mdM G M a s sA sH sL sI sP sT sG kp ln po wr) N  pn 0 ) rfl rfl ⟨Nat.le_of_ble_eq_true rfl, Nat.le_of_ble_eq_true rfl⟩ (Nat.le_of_ble_eq_true rfl) ⟨Nat.zero_le _, Nat.zero_le _⟩ ?_
  refine r_aload_n ok dX6_sends_17 1 rfl rfl ?_
  refine r_iload_n ok dX6_sends_18 2 rfl rfl ?_
  refine r_cV1 ok [.int (nI (147 + 51 * pn + 0)), .ref (a + 1)] mi_X6_valueOf ci_X6 ml_X6_67 im_X6_valueOf se_X6_valueOf dX6_sends_19 (c_X6_valueOf K.2.1 G M N a s sA sH sL sI sP sT sG kp ln po wr  mm ) md_o rfl rfl ⟨Nat.le_of_ble_eq_true rfl, Nat.le_of_ble_eq_true rfl⟩ (Nat.le_of_ble_eq_true rfl) ⟨Nat.zero_le _, Nat.zero_le _⟩ ?_
  refine r_iastN ok (by omega) (by omega) dX6_sends_22 md_s (mdw_s _) ?_
  refine r_aload_n ok dX6_sends_23 1 rfl rfl ?_
  refine r_getf ok ci_X6 fl_X6_7 (by decide) dX6_sends_24 md_o rfl ?_
  refine r_iload_n ok dX6_sends_27 0 rfl rfl ?_
  refine r_iconst ok (nI 1) dX6_sends_28 (by rfl) ?_
  refine r_cS1 ok [.ref (a + 1)] mi_X6_ofParcel ml_X6_84 sm_X6_ofParcel dX6_sends_29 (c_X6_ofParcel K.2.1 G (mdM G M a (upd s (147 + 51 * pn + 0) (zVal s mm)) sA sH sL sI sP sT sG kp ln po wr) N  pn 1 ) rfl rfl ⟨Nat.le_of_ble_eq_true rfl, Nat.le_of_ble_eq_true rfl⟩ (Nat.le_of_ble_eq_true rfl) ⟨Nat.zero_le _, Nat.zero_le _⟩ ?_
  refine r_aload_n ok dX6_sends_32 1 rfl rfl ?_
  refine r_getf ok ci_X6 fl_X6_7 (by decide) dX6_sends_33 md_o rfl ?_
  refine r_bipush ok (nI 9) dX6_sends_36 (by rfl) ?_
  refine r_ialdN ok (by omega) (by omega) dX6_sends_38 md_s ?_
  refine zW.to (st' := [.int (s 9), .int (nI (147 + 51 * pn + 1)), .ref (a + 1)]) ?_ rfl rfl (congrArg (fun z => (Value.int z :: [.int (nI (147 + 51 * pn + 1)), .ref (a + 1)] : List Value)) (show (upd s (147 + 51 * pn + 0) (zVal s mm)) 9 = s 9 from (pk_un (by omega))))
  refine r_aload_n ok dX6_sends_39 1 rfl rfl ?_
  refine r_getf ok ci_X6 fl_X6_7 (by decide) dX6_sends_40 md_o rfl ?_
  refine r_iconst ok (nI 3) dX6_sends_43 (by rfl) ?_
  refine r_ialdN ok (by omega) (by omega) dX6_sends_44 md_s ?_
  refine zW.to (st' := [.int (s 3), .int (s 9), .int (nI (147 + 51 * pn + 1)), .ref (a + 1)]) ?_ rfl rfl (congrArg (fun z => (Value.int z :: [.int (s 9), .int (nI (147 + 51 * pn + 1)), .ref (a + 1)] : List Value)) (show (upd s (147 + 51 * pn + 0) (zVal s mm)) 3 = s 3 from (pk_un (by omega))))
  refine r_iadd ok dX6_sends_45 ?_
  refine r_iastN ok (by omega) (by omega) dX6_sends_46 md_s (mdw_s _) ?_
  refine r_aload_n ok dX6_sends_47 1 rfl rfl ?_
  refine r_getf ok ci_X6 fl_X6_7 (by decide) dX6_sends_48 md_o rfl ?_
  refine r_iload_n ok dX6_sends_51 0 rfl rfl ?_
  refine r_iconst ok (nI 2) dX6_sends_52 (by rfl) ?_
  refine r_cS1 ok [.ref (a + 1)] mi_X6_ofParcel ml_X6_84 sm_X6_ofParcel dX6_sends_53 (c_X6_ofParcel K.2.1 G (mdM G M a (upd (upd s (147 + 51 * pn + 0) (zVal s mm)) (147 + 51 * pn + 1) ((s 9) + (s 3))) sA sH sL sI sP sT sG kp ln po wr) N  pn 2 ) rfl rfl ⟨Nat.le_of_ble_eq_true rfl, Nat.le_of_ble_eq_true rfl⟩ (Nat.le_of_ble_eq_true rfl) ⟨Nat.zero_le _, Nat.zero_le _⟩ ?_
  refine r_iconst ok (nI 0) dX6_sends_56 (by rfl) ?_
  refine r_iastN ok (by omega) (by omega) dX6_sends_57 md_s (mdw_s _) ?_
  refine r_aload_n ok dX6_sends_58 1 rfl rfl ?_
  refine r_iload_n ok dX6_sends_59 2 rfl rfl ?_
  refine r_cV0 ok [] mi_X6_sharesPost ci_X6 ml_X6_143 im_X6_sharesPost se_X6_sharesPost dX6_sends_60 (c_X6_sharesPost K.2.1 G M N a (upd (upd (upd s (147 + 51 * pn + 0) (zVal s mm)) (147 + 51 * pn + 1) ((s 9) + (s 3))) (147 + 51 * pn + 2) (nI 0)) sA sH sL sI sP sT sG kp ln po wr  mm ) md_o rfl rfl ⟨Nat.le_of_ble_eq_true rfl, Nat.le_of_ble_eq_true rfl⟩ (Nat.le_of_ble_eq_true rfl) ⟨Nat.zero_le _, Nat.zero_le _⟩ ?_
  refine r_iconst ok (nI 0) dX6_sends_63 (by rfl) ?_
  refine r_istore_n ok [(3, .int (nI 0)), (2, .int (nI (pn))), (0, .ref a), (1, .int (mm))] dX6_sends_64 rfl (by decide) rfl ?_
  have L1 : ∀ (nL1 : Nat) (k : Nat), ((k + nL1 = 6)) → zW K G 6 (zQ K G (N + 0) 0 0 (zP none (mdM G M a (zSends s sT sG mm pn) sA sH sL sI sP (zSdT s sT mm pn) (zSdG s sT sG mm pn) kp ln po wr))) 0 0 (mdM G M a (zSd2 (zSd1 s mm pn) (zSdG s sT sG mm pn) mm k) sA sH sL sI sP (zSdT s sT mm pn) (zSdG s sT sG mm pn) kp ln po wr) N 65 [(0, .ref a), (1, .int (mm)), (2, .int (nI (pn))), (3, .int (nI (k)))] [] := by
    intro nL1
    induction nL1 with
    | zero =>
      intro k hk_k 
      obtain rfl : 6 = k := by omega
      refine r_iload_n ok dX6_sends_65 3 rfl rfl ?_
      refine r_bipush ok (nI 6) dX6_sends_66 (by rfl) ?_
      refine r_icmp_geN ok 141 (by omega) (by omega) dX6_sends_68 (by decide) (fun _ => ?_) (fun c => absurd c (by decide))
      refine r_iconst ok (nI 0) dX6_sends_141 (by rfl) ?_
      refine r_istore_n ok [(3, .int (nI 0)), (0, .ref a), (1, .int (mm)), (2, .int (nI (pn)))] dX6_sends_142 rfl (by decide) rfl ?_
      have L3 : ∀ (nL3 : Nat) (k : Nat), ((k + nL3 = 48)) → zW K G 6 (zQ K G (N + 0) 0 0 (zP none (mdM G M a (zSends s sT sG mm pn) sA sH sL sI sP (zSdT s sT mm pn) (zSdG s sT sG mm pn) kp ln po wr))) 0 0 (mdM G M a (zSd3 (zSd2 (zSd1 s mm pn) (zSdG s sT sG mm pn) mm 6) mm pn k) sA sH sL sI sP (zSdT s sT mm pn) (zSdG s sT sG mm pn) kp ln po wr) N 143 [(0, .ref a), (1, .int (mm)), (2, .int (nI (pn))), (3, .int (nI (k)))] [] := by
        intro nL3
        induction nL3 with
        | zero =>
          intro k hk_k 
          obtain rfl : 48 = k := by omega
          refine r_iload_n ok dX6_sends_143 3 rfl rfl ?_
          refine r_bipush ok (nI 48) dX6_sends_144 (by rfl) ?_
          refine r_icmp_geN ok 250 (by omega) (by omega) dX6_sends_146 (by decide) (fun _ => ?_) (fun c => absurd c (by decide))
          refine r_aload_n ok dX6_sends_250 0 rfl rfl ?_
          refine r_getf ok ci_X6 fl_X6_7 (by decide) dX6_sends_251 md_o rfl ?_
          refine r_bipush ok (nI 14) dX6_sends_254 (by rfl) ?_
          refine r_dup2 ok dX6_sends_256 rfl rfl ?_
          refine r_ialdN ok (by omega) (by omega) dX6_sends_257 md_s ?_
          refine zW.to (st' := [.int (nI (pn)), .int (nI 14), .ref (a + 1)]) ?_ rfl rfl (congrArg (fun z => (Value.int z :: [.int (nI 14), .ref (a + 1)] : List Value)) (show (zSd3 (zSd2 (zSd1 s mm pn) (zSdG s sT sG mm pn) mm 6) mm pn 48) 14 = nI (pn) from Eq.trans (zSd3_lo (by omega)) (Eq.trans (zSd2_lo (by omega)) (Eq.trans (zSd1_lo (by omega)) hp))))
          refine r_iconst ok (nI 1) dX6_sends_258 (by rfl) ?_
          refine r_iaddN ok dX6_sends_259 ?_
          refine r_iastN ok (by omega) (by omega) dX6_sends_260 md_s (mdw_s _) ?_
          exact r_vret ok dX6_sends_261 rfl ⟨rfl, (by rfl)⟩
        | succ nL3 ihL3 =>
          intro k hk_k 
          refine r_iload_n ok dX6_sends_143 3 rfl rfl ?_
          refine r_bipush ok (nI 48) dX6_sends_144 (by rfl) ?_
          refine r_icmp_geN ok 250 (by omega) (by omega) dX6_sends_146 (by decide) (fun c146_5 => ?_) (fun c146_5 => ?_)
          · skip
            exact absurd c146_5 (by omega)
          · skip
            refine r_iload_n ok dX6_sends_149 3 rfl rfl ?_
            refine r_bipush ok (nI 8) dX6_sends_150 (by rfl) ?_
            refine r_idivN ok (by omega) (by omega) (by omega) dX6_sends_152 ?_
            refine r_istore ok [(4, .int (nI (k / 8))), (0, .ref a), (1, .int (mm)), (2, .int (nI (pn))), (3, .int (nI (k)))] dX6_sends_153 (by decide) rfl ?_
            refine r_iload_n ok dX6_sends_155 2 rfl rfl ?_
            refine r_iload ok dX6_sends_156 0 rfl ?_
            refine r_cS1 ok [] mi_X6_has ml_X6_43 sm_X6_has dX6_sends_158 (c_X6_has K.2.1 G (mdM G M a (zSd3 (zSd2 (zSd1 s mm pn) (zSdG s sT sG mm pn) mm 6) mm pn k) sA sH sL sI sP (zSdT s sT mm pn) (zSdG s sT sG mm pn) kp ln po wr) N  mm (k / 8) ) rfl rfl ⟨Nat.le_of_ble_eq_true rfl, Nat.le_of_ble_eq_true rfl⟩ (Nat.le_of_ble_eq_true rfl) ⟨Nat.zero_le _, Nat.zero_le _⟩ ?_
            refine r_istore ok [(5, .int (zb (zHas mm (k / 8)))), (4, .int (nI (k / 8))), (0, .ref a), (1, .int (mm)), (2, .int (nI (pn))), (3, .int (nI (k)))] dX6_sends_161 (by decide) rfl ?_
            refine r_aload_n ok dX6_sends_163 2 rfl rfl ?_
            refine r_getf ok ci_X6 fl_X6_7 (by decide) dX6_sends_164 md_o rfl ?_
            refine r_iload_n ok dX6_sends_167 4 rfl rfl ?_
            refine r_iconst ok (nI 3) dX6_sends_168 (by rfl) ?_
            refine r_iload_n ok dX6_sends_169 5 rfl rfl ?_
            refine r_iaddN ok dX6_sends_170 ?_
            refine r_cS1 ok [.ref (a + 1)] mi_X6_ofParcel ml_X6_84 sm_X6_ofParcel dX6_sends_171 (c_X6_ofParcel K.2.1 G (mdM G M a (zSd3 (zSd2 (zSd1 s mm pn) (zSdG s sT sG mm pn) mm 6) mm pn k) sA sH sL sI sP (zSdT s sT mm pn) (zSdG s sT sG mm pn) kp ln po wr) N  pn (3 + k) ) rfl rfl ⟨Nat.le_of_ble_eq_true rfl, Nat.le_of_ble_eq_true rfl⟩ (Nat.le_of_ble_eq_true rfl) ⟨Nat.zero_le _, Nat.zero_le _⟩ ?_
            refine r_iload ok dX6_sends_174 0 rfl ?_
            refine r_ifeqZ ok 199 dX6_sends_176 (by decide) (fun c176_6 => ?_) (fun c176_6 => ?_)
            · skip
              refine r_iconst ok (nI 0) dX6_sends_199 (by rfl) ?_
              refine r_iastN ok (by omega) (by omega) dX6_sends_200 md_s (mdw_s _) ?_
              refine r_aload_n ok dX6_sends_201 2 rfl rfl ?_
              refine r_getf ok ci_X6 fl_X6_7 (by decide) dX6_sends_202 md_o rfl ?_
              refine r_iload ok dX6_sends_205 1 rfl ?_
              refine r_bipush ok (nI 14) dX6_sends_207 (by rfl) ?_
              refine r_iload_n ok dX6_sends_209 5 rfl rfl ?_
              refine r_bipush ok (nI 8) dX6_sends_210 (by rfl) ?_
              refine r_iremN ok (by omega) (by omega) (by omega) dX6_sends_212 ?_
              refine r_iaddN ok dX6_sends_213 ?_
              refine r_cS1 ok [.ref (a + 1)] mi_X6_of ml_X6_47 sm_X6_of dX6_sends_214 (c_X6_of K.2.1 G (mdM G M a (upd (zSd3 (zSd2 (zSd1 s mm pn) (zSdG s sT sG mm pn) mm 6) mm pn k) (147 + 51 * pn + (3 + k)) (nI 0)) sA sH sL sI sP (zSdT s sT mm pn) (zSdG s sT sG mm pn) kp ln po wr) N  (k / 8) (14 + (k % 8)) ) rfl rfl ⟨Nat.le_of_ble_eq_true rfl, Nat.le_of_ble_eq_true rfl⟩ (Nat.le_of_ble_eq_true rfl) ⟨Nat.zero_le _, Nat.zero_le _⟩ ?_
              refine r_iload ok dX6_sends_217 0 rfl ?_
              refine r_ifeqZ ok 226 dX6_sends_219 (by decide) (fun _ => ?_) (fun c => absurd (c176_6.symm.trans c) (by decide))
              refine r_aload_n ok dX6_sends_226 2 rfl rfl ?_
              refine r_getf ok ci_X6 fl_X6_7 (by decide) dX6_sends_227 md_o rfl ?_
              refine r_iload ok dX6_sends_230 1 rfl ?_
              refine r_bipush ok (nI 14) dX6_sends_232 (by rfl) ?_
              refine r_iload_n ok dX6_sends_234 5 rfl rfl ?_
              refine r_bipush ok (nI 8) dX6_sends_235 (by rfl) ?_
              refine r_iremN ok (by omega) (by omega) (by omega) dX6_sends_237 ?_
              refine r_iaddN ok dX6_sends_238 ?_
              refine r_cS1 ok [.ref (a + 1), .int (nI (15 + 22 * (k / 8) + (14 + (k % 8)))), .ref (a + 1)] mi_X6_of ml_X6_47 sm_X6_of dX6_sends_239 (c_X6_of K.2.1 G (mdM G M a (upd (zSd3 (zSd2 (zSd1 s mm pn) (zSdG s sT sG mm pn) mm 6) mm pn k) (147 + 51 * pn + (3 + k)) (nI 0)) sA sH sL sI sP (zSdT s sT mm pn) (zSdG s sT sG mm pn) kp ln po wr) N  (k / 8) (14 + (k % 8)) ) rfl rfl ⟨Nat.le_of_ble_eq_true rfl, Nat.le_of_ble_eq_true rfl⟩ (Nat.le_of_ble_eq_true rfl) ⟨Nat.zero_le _, Nat.zero_le _⟩ ?_
              refine r_ialdN ok (by omega) (by omega) dX6_sends_242 md_s ?_
              refine r_iastN ok (by omega) (by omega) dX6_sends_243 md_s (mdw_s _) ?_
              refine r_iincN ok (c := 1) [(3, .int (nI (k + 1))), (5, .int (zb (zHas mm (k / 8)))), (4, .int (nI (k / 8))), (0, .ref a), (1, .int (mm)), (2, .int (nI (pn)))] dX6_sends_244 5 rfl (by rfl) (by decide) rfl ?_
              refine r_goto ok 143 dX6_sends_247 (by decide) ?_
              have q8 : (upd (upd (zSd3 (zSd2 (zSd1 s mm pn) (zSdG s sT sG mm pn) mm 6) mm pn k) (147 + 51 * pn + (3 + k)) (nI 0)) (15 + 22 * (k / 8) + (14 + (k % 8))) ((upd (zSd3 (zSd2 (zSd1 s mm pn) (zSdG s sT sG mm pn) mm 6) mm pn k) (147 + 51 * pn + (3 + k)) (nI 0)) (15 + 22 * (k / 8) + (14 + (k % 8)))) : Nat → Int32) = zSd3 (zSd2 (zSd1 s mm pn) (zSdG s sT sG mm pn) mm 6) mm pn (k + 1) := by first | with_reducible rfl | (simp [zSd3, *])
              refine zW.forget (lv' := [(0, .ref a), (1, .int (mm)), (2, .int (nI (pn))), (3, .int (nI (k + 1)))]) ?_ [3, 4, 5, 0] rfl
              refine zW.to ?_ (congrArg (fun z => mdM G M a z sA sH sL sI sP (zSdT s sT mm pn) (zSdG s sT sG mm pn) kp ln po wr) q8) rfl rfl
              exact ihL3 (k + 1) (by omega)
            · skip
              refine r_aload_n ok dX6_sends_179 2 rfl rfl ?_
              refine r_getf ok ci_X6 fl_X6_7 (by decide) dX6_sends_180 md_o rfl ?_
              refine r_iload ok dX6_sends_183 1 rfl ?_
              refine r_bipush ok (nI 14) dX6_sends_185 (by rfl) ?_
              refine r_iload_n ok dX6_sends_187 5 rfl rfl ?_
              refine r_bipush ok (nI 8) dX6_sends_188 (by rfl) ?_
              refine r_iremN ok (by omega) (by omega) (by omega) dX6_sends_190 ?_
              refine r_iaddN ok dX6_sends_191 ?_
              refine r_cS1 ok [.ref (a + 1), .int (nI (147 + 51 * pn + (3 + k))), .ref (a + 1)] mi_X6_of ml_X6_47 sm_X6_of dX6_sends_192 (c_X6_of K.2.1 G (mdM G M a (zSd3 (zSd2 (zSd1 s mm pn) (zSdG s sT sG mm pn) mm 6) mm pn k) sA sH sL sI sP (zSdT s sT mm pn) (zSdG s sT sG mm pn) kp ln po wr) N  (k / 8) (14 + (k % 8)) ) rfl rfl ⟨Nat.le_of_ble_eq_true rfl, Nat.le_of_ble_eq_true rfl⟩ (Nat.le_of_ble_eq_true rfl) ⟨Nat.zero_le _, Nat.zero_le _⟩ ?_
              refine r_ialdN ok (by omega) (by omega) dX6_sends_195 md_s ?_
              refine r_goto ok 200 dX6_sends_196 (by decide) ?_
              refine r_iastN ok (by omega) (by omega) dX6_sends_200 md_s (mdw_s _) ?_
              refine r_aload_n ok dX6_sends_201 2 rfl rfl ?_
              refine r_getf ok ci_X6 fl_X6_7 (by decide) dX6_sends_202 md_o rfl ?_
              refine r_iload ok dX6_sends_205 1 rfl ?_
              refine r_bipush ok (nI 14) dX6_sends_207 (by rfl) ?_
              refine r_iload_n ok dX6_sends_209 5 rfl rfl ?_
              refine r_bipush ok (nI 8) dX6_sends_210 (by rfl) ?_
              refine r_iremN ok (by omega) (by omega) (by omega) dX6_sends_212 ?_
              refine r_iaddN ok dX6_sends_213 ?_
              refine r_cS1 ok [.ref (a + 1)] mi_X6_of ml_X6_47 sm_X6_of dX6_sends_214 (c_X6_of K.2.1 G (mdM G M a (upd (zSd3 (zSd2 (zSd1 s mm pn) (zSdG s sT sG mm pn) mm 6) mm pn k) (147 + 51 * pn + (3 + k)) ((zSd3 (zSd2 (zSd1 s mm pn) (zSdG s sT sG mm pn) mm 6) mm pn k) (15 + 22 * (k / 8) + (14 + (k % 8))))) sA sH sL sI sP (zSdT s sT mm pn) (zSdG s sT sG mm pn) kp ln po wr) N  (k / 8) (14 + (k % 8)) ) rfl rfl ⟨Nat.le_of_ble_eq_true rfl, Nat.le_of_ble_eq_true rfl⟩ (Nat.le_of_ble_eq_true rfl) ⟨Nat.zero_le _, Nat.zero_le _⟩ ?_
              refine r_iload ok dX6_sends_217 0 rfl ?_
              refine r_ifeqZ ok 226 dX6_sends_219 (by decide) (fun c => absurd (c176_6.symm.trans c) (by decide)) (fun _ => ?_)
              refine r_iconst ok (nI 0) dX6_sends_222 (by rfl) ?_
              refine r_goto ok 243 dX6_sends_223 (by decide) ?_
              refine r_iastN ok (by omega) (by omega) dX6_sends_243 md_s (mdw_s _) ?_
              refine r_iincN ok (c := 1) [(3, .int (nI (k + 1))), (5, .int (zb (zHas mm (k / 8)))), (4, .int (nI (k / 8))), (0, .ref a), (1, .int (mm)), (2, .int (nI (pn)))] dX6_sends_244 5 rfl (by rfl) (by decide) rfl ?_
              refine r_goto ok 143 dX6_sends_247 (by decide) ?_
              have q10 : (upd (upd (zSd3 (zSd2 (zSd1 s mm pn) (zSdG s sT sG mm pn) mm 6) mm pn k) (147 + 51 * pn + (3 + k)) ((zSd3 (zSd2 (zSd1 s mm pn) (zSdG s sT sG mm pn) mm 6) mm pn k) (15 + 22 * (k / 8) + (14 + (k % 8))))) (15 + 22 * (k / 8) + (14 + (k % 8))) (nI 0) : Nat → Int32) = zSd3 (zSd2 (zSd1 s mm pn) (zSdG s sT sG mm pn) mm 6) mm pn (k + 1) := by first | with_reducible rfl | (simp [zSd3, *])
              refine zW.forget (lv' := [(0, .ref a), (1, .int (mm)), (2, .int (nI (pn))), (3, .int (nI (k + 1)))]) ?_ [3, 4, 5, 0] rfl
              refine zW.to ?_ (congrArg (fun z => mdM G M a z sA sH sL sI sP (zSdT s sT mm pn) (zSdG s sT sG mm pn) kp ln po wr) q10) rfl rfl
              exact ihL3 (k + 1) (by omega)
      have q11 : (zSd2 (zSd1 s mm pn) (zSdG s sT sG mm pn) mm 6 : Nat → Int32) = zSd3 (zSd2 (zSd1 s mm pn) (zSdG s sT sG mm pn) mm 6) mm pn 0 := by first | with_reducible rfl | (rfl)
      refine zW.forget (lv' := [(0, .ref a), (1, .int (mm)), (2, .int (nI (pn))), (3, .int (nI 0))]) ?_ [1, 2, 3, 0] rfl
      refine zW.to ?_ (congrArg (fun z => mdM G M a z sA sH sL sI sP (zSdT s sT mm pn) (zSdG s sT sG mm pn) kp ln po wr) q11) rfl rfl
      exact L3 48 0 (by omega)
    | succ nL1 ihL1 =>
      intro k hk_k 
      refine r_iload_n ok dX6_sends_65 3 rfl rfl ?_
      refine r_bipush ok (nI 6) dX6_sends_66 (by rfl) ?_
      refine r_icmp_geN ok 141 (by omega) (by omega) dX6_sends_68 (by decide) (fun c68_12 => ?_) (fun c68_12 => ?_)
      · skip
        exact absurd c68_12 (by omega)
      · skip
        refine r_aload_n ok dX6_sends_71 0 rfl rfl ?_
        refine r_iload_n ok dX6_sends_72 1 rfl rfl ?_
        refine r_iload_n ok dX6_sends_73 3 rfl rfl ?_
        refine r_cV1 ok [] mi_X6_ownOf ci_X6 ml_X6_146 im_X6_ownOf se_X6_ownOf dX6_sends_74 (c_X6_ownOf K.2.1 G M N a (zSd2 (zSd1 s mm pn) (zSdG s sT sG mm pn) mm k) sA sH sL sI sP (zSdT s sT mm pn) (zSdG s sT sG mm pn) kp ln po wr  mm k (by omega)) md_o rfl rfl ⟨Nat.le_of_ble_eq_true rfl, Nat.le_of_ble_eq_true rfl⟩ (Nat.le_of_ble_eq_true rfl) ⟨Nat.zero_le _, Nat.zero_le _⟩ ?_
        refine r_istore ok [(4, .int (zOwn (zSd2 (zSd1 s mm pn) (zSdG s sT sG mm pn) mm k) mm k)), (0, .ref a), (1, .int (mm)), (2, .int (nI (pn))), (3, .int (nI (k)))] dX6_sends_77 (by decide) rfl ?_
        refine r_aload_n ok dX6_sends_79 1 rfl rfl ?_
        refine r_getf ok ci_X6 fl_X6_7 (by decide) dX6_sends_80 md_o rfl ?_
        refine r_iload_n ok dX6_sends_83 4 rfl rfl ?_
        refine r_iconst ok (nI 0) dX6_sends_84 (by rfl) ?_
        refine r_cS1 ok [.ref (a + 1)] mi_X6_of ml_X6_47 sm_X6_of dX6_sends_85 (c_X6_of K.2.1 G (mdM G M a (zSd2 (zSd1 s mm pn) (zSdG s sT sG mm pn) mm k) sA sH sL sI sP (zSdT s sT mm pn) (zSdG s sT sG mm pn) kp ln po wr) N  k 0 ) rfl rfl ⟨Nat.le_of_ble_eq_true rfl, Nat.le_of_ble_eq_true rfl⟩ (Nat.le_of_ble_eq_true rfl) ⟨Nat.zero_le _, Nat.zero_le _⟩ ?_
        refine r_dup2 ok dX6_sends_88 rfl rfl ?_
        refine r_ialdN ok (by omega) (by omega) dX6_sends_89 md_s ?_
        refine r_iload ok dX6_sends_90 0 rfl ?_
        refine r_aload_n ok dX6_sends_92 1 rfl rfl ?_
        refine r_getf ok ci_X6 fl_X6_32 (by decide) dX6_sends_93 md_o rfl ?_
        refine r_iload_n ok dX6_sends_96 4 rfl rfl ?_
        refine r_ialdN ok (by omega) (by omega) dX6_sends_97 md_sG ?_
        refine r_iadd ok dX6_sends_98 ?_
        refine r_isub ok dX6_sends_99 ?_
        refine r_iastN ok (by omega) (by omega) dX6_sends_100 md_s (mdw_s _) ?_
        refine r_aload_n ok dX6_sends_101 1 rfl rfl ?_
        refine r_getf ok ci_X6 fl_X6_7 (by decide) dX6_sends_102 md_o rfl ?_
        refine r_iload_n ok dX6_sends_105 4 rfl rfl ?_
        refine r_iconst ok (nI 2) dX6_sends_106 (by rfl) ?_
        refine r_cS1 ok [.ref (a + 1)] mi_X6_of ml_X6_47 sm_X6_of dX6_sends_107 (c_X6_of K.2.1 G (mdM G M a (upd (zSd2 (zSd1 s mm pn) (zSdG s sT sG mm pn) mm k) (15 + 22 * k + 0) (((zSd2 (zSd1 s mm pn) (zSdG s sT sG mm pn) mm k) (15 + 22 * k + 0)) - ((zOwn (zSd2 (zSd1 s mm pn) (zSdG s sT sG mm pn) mm k) mm k) + ((zSdG s sT sG mm pn) k)))) sA sH sL sI sP (zSdT s sT mm pn) (zSdG s sT sG mm pn) kp ln po wr) N  k 2 ) rfl rfl ⟨Nat.le_of_ble_eq_true rfl, Nat.le_of_ble_eq_true rfl⟩ (Nat.le_of_ble_eq_true rfl) ⟨Nat.zero_le _, Nat.zero_le _⟩ ?_
        refine r_dup2 ok dX6_sends_110 rfl rfl ?_
        refine r_ialdN ok (by omega) (by omega) dX6_sends_111 md_s ?_
        refine r_iload ok dX6_sends_112 0 rfl ?_
        refine r_iadd ok dX6_sends_114 ?_
        refine r_iastN ok (by omega) (by omega) dX6_sends_115 md_s (mdw_s _) ?_
        refine r_aload_n ok dX6_sends_116 1 rfl rfl ?_
        refine r_getf ok ci_X6 fl_X6_7 (by decide) dX6_sends_117 md_o rfl ?_
        refine r_iload_n ok dX6_sends_120 4 rfl rfl ?_
        refine r_iconst ok (nI 3) dX6_sends_121 (by rfl) ?_
        refine r_cS1 ok [.ref (a + 1)] mi_X6_of ml_X6_47 sm_X6_of dX6_sends_122 (c_X6_of K.2.1 G (mdM G M a (upd (upd (zSd2 (zSd1 s mm pn) (zSdG s sT sG mm pn) mm k) (15 + 22 * k + 0) (((zSd2 (zSd1 s mm pn) (zSdG s sT sG mm pn) mm k) (15 + 22 * k + 0)) - ((zOwn (zSd2 (zSd1 s mm pn) (zSdG s sT sG mm pn) mm k) mm k) + ((zSdG s sT sG mm pn) k)))) (15 + 22 * k + 2) (((upd (zSd2 (zSd1 s mm pn) (zSdG s sT sG mm pn) mm k) (15 + 22 * k + 0) (((zSd2 (zSd1 s mm pn) (zSdG s sT sG mm pn) mm k) (15 + 22 * k + 0)) - ((zOwn (zSd2 (zSd1 s mm pn) (zSdG s sT sG mm pn) mm k) mm k) + ((zSdG s sT sG mm pn) k)))) (15 + 22 * k + 2)) + (zOwn (zSd2 (zSd1 s mm pn) (zSdG s sT sG mm pn) mm k) mm k))) sA sH sL sI sP (zSdT s sT mm pn) (zSdG s sT sG mm pn) kp ln po wr) N  k 3 ) rfl rfl ⟨Nat.le_of_ble_eq_true rfl, Nat.le_of_ble_eq_true rfl⟩ (Nat.le_of_ble_eq_true rfl) ⟨Nat.zero_le _, Nat.zero_le _⟩ ?_
        refine r_dup2 ok dX6_sends_125 rfl rfl ?_
        refine r_ialdN ok (by omega) (by omega) dX6_sends_126 md_s ?_
        refine r_aload_n ok dX6_sends_127 1 rfl rfl ?_
        refine r_getf ok ci_X6 fl_X6_32 (by decide) dX6_sends_128 md_o rfl ?_
        refine r_iload_n ok dX6_sends_131 4 rfl rfl ?_
        refine r_ialdN ok (by omega) (by omega) dX6_sends_132 md_sG ?_
        refine r_iadd ok dX6_sends_133 ?_
        refine r_iastN ok (by omega) (by omega) dX6_sends_134 md_s (mdw_s _) ?_
        refine r_iincN ok (c := 1) [(3, .int (nI (k + 1))), (4, .int (zOwn (zSd2 (zSd1 s mm pn) (zSdG s sT sG mm pn) mm k) mm k)), (0, .ref a), (1, .int (mm)), (2, .int (nI (pn)))] dX6_sends_135 4 rfl (by rfl) (by decide) rfl ?_
        refine r_goto ok 65 dX6_sends_138 (by decide) ?_
        have q13 : (upd (upd (upd (zSd2 (zSd1 s mm pn) (zSdG s sT sG mm pn) mm k) (15 + 22 * k + 0) (((zSd2 (zSd1 s mm pn) (zSdG s sT sG mm pn) mm k) (15 + 22 * k + 0)) - ((zOwn (zSd2 (zSd1 s mm pn) (zSdG s sT sG mm pn) mm k) mm k) + ((zSdG s sT sG mm pn) k)))) (15 + 22 * k + 2) (((upd (zSd2 (zSd1 s mm pn) (zSdG s sT sG mm pn) mm k) (15 + 22 * k + 0) (((zSd2 (zSd1 s mm pn) (zSdG s sT sG mm pn) mm k) (15 + 22 * k + 0)) - ((zOwn (zSd2 (zSd1 s mm pn) (zSdG s sT sG mm pn) mm k) mm k) + ((zSdG s sT sG mm pn) k)))) (15 + 22 * k + 2)) + (zOwn (zSd2 (zSd1 s mm pn) (zSdG s sT sG mm pn) mm k) mm k))) (15 + 22 * k + 3) (((upd (upd (zSd2 (zSd1 s mm pn) (zSdG s sT sG mm pn) mm k) (15 + 22 * k + 0) (((zSd2 (zSd1 s mm pn) (zSdG s sT sG mm pn) mm k) (15 + 22 * k + 0)) - ((zOwn (zSd2 (zSd1 s mm pn) (zSdG s sT sG mm pn) mm k) mm k) + ((zSdG s sT sG mm pn) k)))) (15 + 22 * k + 2) (((upd (zSd2 (zSd1 s mm pn) (zSdG s sT sG mm pn) mm k) (15 + 22 * k + 0) (((zSd2 (zSd1 s mm pn) (zSdG s sT sG mm pn) mm k) (15 + 22 * k + 0)) - ((zOwn (zSd2 (zSd1 s mm pn) (zSdG s sT sG mm pn) mm k) mm k) + ((zSdG s sT sG mm pn) k)))) (15 + 22 * k + 2)) + (zOwn (zSd2 (zSd1 s mm pn) (zSdG s sT sG mm pn) mm k) mm k))) (15 + 22 * k + 3)) + ((zSdG s sT sG mm pn) k)) : Nat → Int32) = zSd2 (zSd1 s mm pn) (zSdG s sT sG mm pn) mm (k + 1) := by first | with_reducible rfl | (rfl)
        refine zW.forget (lv' := [(0, .ref a), (1, .int (mm)), (2, .int (nI (pn))), (3, .int (nI (k + 1)))]) ?_ [2, 3, 4, 0] rfl
        refine zW.to ?_ (congrArg (fun z => mdM G M a z sA sH sL sI sP (zSdT s sT mm pn) (zSdG s sT sG mm pn) kp ln po wr) q13) rfl rfl
        exact ihL1 (k + 1) (by omega)
  have q14 : (upd (upd (upd s (147 + 51 * pn + 0) (zVal s mm)) (147 + 51 * pn + 1) ((s 9) + (s 3))) (147 + 51 * pn + 2) (nI 0) : Nat → Int32) = zSd2 (zSd1 s mm pn) (zSdG s sT sG mm pn) mm 0 := by first | with_reducible rfl | (rfl)
  have q15 : (zParts (upd (upd (upd s (147 + 51 * pn + 0) (zVal s mm)) (147 + 51 * pn + 1) ((s 9) + (s 3))) (147 + 51 * pn + 2) (nI 0)) mm sT : Nat → Int32) = zSdT s sT mm pn := by first | with_reducible rfl | (rfl)
  have q16 : (zGets (zPost (upd (upd (upd s (147 + 51 * pn + 0) (zVal s mm)) (147 + 51 * pn + 1) ((s 9) + (s 3))) (147 + 51 * pn + 2) (nI 0)) mm) (zParts (upd (upd (upd s (147 + 51 * pn + 0) (zVal s mm)) (147 + 51 * pn + 1) ((s 9) + (s 3))) (147 + 51 * pn + 2) (nI 0)) mm sT) sG : Nat → Int32) = zSdG s sT sG mm pn := by first | with_reducible rfl | (rfl)
  refine zW.forget (lv' := [(0, .ref a), (1, .int (mm)), (2, .int (nI (pn))), (3, .int (nI 0))]) ?_ [2, 3, 1, 0] rfl
  refine zW.to ?_ (congrArg (fun z => mdM G M a z sA sH sL sI sP (zParts (upd (upd (upd s (147 + 51 * pn + 0) (zVal s mm)) (147 + 51 * pn + 1) ((s 9) + (s 3))) (147 + 51 * pn + 2) (nI 0)) mm sT) (zGets (zPost (upd (upd (upd s (147 + 51 * pn + 0) (zVal s mm)) (147 + 51 * pn + 1) ((s 9) + (s 3))) (147 + 51 * pn + 2) (nI 0)) mm) (zParts (upd (upd (upd s (147 + 51 * pn + 0) (zVal s mm)) (147 + 51 * pn + 1) ((s 9) + (s 3))) (147 + 51 * pn + 2) (nI 0)) mm sT) sG) kp ln po wr) q14) rfl rfl
  refine zW.to ?_ (congrArg (fun z => mdM G M a (zSd2 (zSd1 s mm pn) (zSdG s sT sG mm pn) mm 0) sA sH sL sI sP z (zGets (zPost (upd (upd (upd s (147 + 51 * pn + 0) (zVal s mm)) (147 + 51 * pn + 1) ((s 9) + (s 3))) (147 + 51 * pn + 2) (nI 0)) mm) (zParts (upd (upd (upd s (147 + 51 * pn + 0) (zVal s mm)) (147 + 51 * pn + 1) ((s 9) + (s 3))) (147 + 51 * pn + 2) (nI 0)) mm sT) sG) kp ln po wr) q15) rfl rfl
  refine zW.to ?_ (congrArg (fun z => mdM G M a (zSd2 (zSd1 s mm pn) (zSdG s sT sG mm pn) mm 0) sA sH sL sI sP (zSdT s sT mm pn) z kp ln po wr) q16) rfl rfl
  exact L1 6 0 (by omega)
set_option maxHeartbeats 4000000 in
set_option maxRecDepth 100000 in
theorem c_X6_send (l : Launch) (G : zG) (M : zM) (N a : Nat) (s sA sH sL : Nat → Int32) (sI : Nat → Bool) (sP sT sG : Nat → Int32) (kp ln po : Int32) (wr : Bool) (kn : Nat) (pn : Nat) (mm : Int32) (hk : kn ≤ 6) (hp : s 14 = nI pn) (hp5 : pn ≤ 5) : zC l G yX6_send cX6_send 3 (some .int) 6 136 0 0 [.ref a, .int (mm)] (mdM G M a s sA sH sL sI sP sT sG (nI kn) ln po wr) N (zP (some (.int (zE (zDsend s mm pn) (fun _ => zCost s mm)))) (mdM G M a (zU (zDsend s mm pn) s (fun _ => zSends s sT sG mm pn)) sA (zU (zDsend s mm pn) sH (fun _ => zRecH s sH kn)) sL sI sP (zU (zDsend s mm pn) sT (fun _ => zSdT s sT mm pn)) (zU (zDsend s mm pn) sG (fun _ => zSdG s sT sG mm pn)) (nI (zU (zDsend s mm pn) kn (fun _ => zRecK kn))) ln po wr)) := by
  refine zC.of (by decide +kernel) (Nat.le_of_ble_eq_true rfl) ?_
  intro K hKl ok
  subst hKl
  show zW K G 3 _ 0 0 _ N 0 [(0, .ref a), (1, .int (mm))] []
  refine r_iload_n ok dX6_send_0 1 rfl rfl ?_
  refine r_iconst ok (nI 1) dX6_send_1 (by rfl) ?_
  refine r_bipush ok (nI 63) dX6_send_2 (by rfl) ?_
  refine r_cS1 ok [] mi_X6_in ml_X6_35 sm_X6_in dX6_send_4 (c_X6_in K.2.1 G (mdM G M a s sA sH sL sI sP sT sG (nI kn) ln po wr) N  mm (nI 1) (nI 63) ) rfl rfl ⟨Nat.le_of_ble_eq_true rfl, Nat.le_of_ble_eq_true rfl⟩ (Nat.le_of_ble_eq_true rfl) ⟨Nat.zero_le _, Nat.zero_le _⟩ ?_
  refine r_ifneZ ok 13 dX6_send_7 (by decide) (fun c7_1 => ?_) (fun c7_1 => ?_)
  · skip
    refine r_aload_n ok dX6_send_13 0 rfl rfl ?_
    refine r_iload_n ok dX6_send_14 1 rfl rfl ?_
    refine r_cV1 ok [] mi_X6_costOf ci_X6 ml_X6_140 im_X6_costOf se_X6_costOf dX6_send_15 (c_X6_costOf K.2.1 G M N a s sA sH sL sI sP sT sG (nI kn) ln po wr  mm ) md_o rfl rfl ⟨Nat.le_of_ble_eq_true rfl, Nat.le_of_ble_eq_true rfl⟩ (Nat.le_of_ble_eq_true rfl) ⟨Nat.zero_le _, Nat.zero_le _⟩ ?_
    refine r_istore_n ok [(2, .int (zCost s mm)), (0, .ref a), (1, .int (mm))] dX6_send_18 rfl (by decide) rfl ?_
    refine r_aload_n ok dX6_send_19 1 rfl rfl ?_
    refine r_iload_n ok dX6_send_20 2 rfl rfl ?_
    refine r_cV1 ok [] mi_X6_stringsOf ci_X6 ml_X6_61 im_X6_stringsOf se_X6_stringsOf dX6_send_21 (c_X6_stringsOf K.2.1 G M N a s sA sH sL sI sP sT sG (nI kn) ln po wr  mm ) md_o rfl rfl ⟨Nat.le_of_ble_eq_true rfl, Nat.le_of_ble_eq_true rfl⟩ (Nat.le_of_ble_eq_true rfl) ⟨Nat.zero_le _, Nat.zero_le _⟩ ?_
    refine r_if_eq ok 35 dX6_send_24 (by decide) (fun c24_2 => ?_) (fun c24_2 => ?_)
    · skip
      refine r_ldc ok ck_X6_133 dX6_send_35 ?_
      exact r_iret ok dX6_send_37 rfl ⟨congrArg (fun z => some (Value.int z)) (show -100005 = zE (zDsend s mm pn) (fun _ => zCost s mm) from by simp [zDsend, zE, Int32.not_le, *]), (by simp [zDsend, zU, Int32.not_le, *])⟩
    · skip
      refine r_iload_n ok dX6_send_27 0 rfl rfl ?_
      refine r_aload_n ok dX6_send_28 1 rfl rfl ?_
      refine r_cV1 ok [.int (zCost s mm)] mi_X6_chest ci_X6 ml_X6_149 im_X6_chest se_X6_chest dX6_send_29 (c_X6_chest K.2.1 G M N a s sA sH sL sI sP sT sG (nI kn) ln po wr   ) md_o rfl rfl ⟨Nat.le_of_ble_eq_true rfl, Nat.le_of_ble_eq_true rfl⟩ (Nat.le_of_ble_eq_true rfl) ⟨Nat.zero_le _, Nat.zero_le _⟩ ?_
      refine r_icmp_le ok 38 dX6_send_32 (by decide) (fun c32_3 => ?_) (fun c32_3 => ?_)
      · skip
        refine r_aload_n ok dX6_send_38 1 rfl rfl ?_
        refine r_getf ok ci_X6 fl_X6_7 (by decide) dX6_send_39 md_o rfl ?_
        refine r_bipush ok (nI 14) dX6_send_42 (by rfl) ?_
        refine r_ialdN ok (by omega) (by omega) dX6_send_44 md_s ?_
        refine zW.to (st' := [.int (nI (pn))]) ?_ rfl rfl (congrArg (fun z => (Value.int z :: [] : List Value)) (show s 14 = nI (pn) from hp))
        refine r_iconst ok (nI 5) dX6_send_45 (by rfl) ?_
        refine r_icmp_neN ok 52 (by omega) (by omega) dX6_send_46 (by decide) (fun c46_4 => ?_) (fun c46_4 => ?_)
        · skip
          refine r_aload_n ok dX6_send_52 1 rfl rfl ?_
          refine r_cV0 ok [] mi_X6_record ci_X6 ml_X6_113 im_X6_record se_X6_record dX6_send_53 (c_X6_record K.2.1 G M N a s sA sH sL sI sP sT sG (nI kn) ln po wr kn  (by omega)) md_o rfl rfl ⟨Nat.le_of_ble_eq_true rfl, Nat.le_of_ble_eq_true rfl⟩ (Nat.le_of_ble_eq_true rfl) ⟨Nat.zero_le _, Nat.zero_le _⟩ ?_
          refine r_aload_n ok dX6_send_56 1 rfl rfl ?_
          refine r_iload_n ok dX6_send_57 2 rfl rfl ?_
          refine r_cV0 ok [] mi_X6_sends ci_X6 ml_X6_154 im_X6_sends se_X6_sends dX6_send_58 (c_X6_sends K.2.1 G M N a s sA (zRecH s sH kn) sL sI sP sT sG (nI (zRecK kn)) ln po wr pn mm hp (by omega)) md_o rfl rfl ⟨Nat.le_of_ble_eq_true rfl, Nat.le_of_ble_eq_true rfl⟩ (Nat.le_of_ble_eq_true rfl) ⟨Nat.zero_le _, Nat.zero_le _⟩ ?_
          refine r_iload_n ok dX6_send_61 0 rfl rfl ?_
          exact r_iret ok dX6_send_62 rfl ⟨congrArg (fun z => some (Value.int z)) (show zCost s mm = zE (zDsend s mm pn) (fun _ => zCost s mm) from by simp [zDsend, zE, Int32.not_le, *]), (by simp [zDsend, zU, Int32.not_le, *])⟩
        · skip
          refine r_ldc ok ck_X6_153 dX6_send_49 ?_
          exact r_iret ok dX6_send_51 rfl ⟨congrArg (fun z => some (Value.int z)) (show -100004 = zE (zDsend s mm pn) (fun _ => zCost s mm) from by simp [zDsend, zE, Int32.not_le, *]), (by simp [zDsend, zU, Int32.not_le, *])⟩
      · skip
        refine r_ldc ok ck_X6_133 dX6_send_35 ?_
        exact r_iret ok dX6_send_37 rfl ⟨congrArg (fun z => some (Value.int z)) (show -100005 = zE (zDsend s mm pn) (fun _ => zCost s mm) from by simp [zDsend, zE, Int32.not_le, *]), (by simp [zDsend, zU, Int32.not_le, *])⟩
  · skip
    refine r_ldc ok ck_X6_125 dX6_send_10 ?_
    exact r_iret ok dX6_send_12 rfl ⟨congrArg (fun z => some (Value.int z)) (show -100002 = zE (zDsend s mm pn) (fun _ => zCost s mm) from by simp [zDsend, zE, Int32.not_le, *]), (by simp [zDsend, zU, Int32.not_le, *])⟩
set_option maxHeartbeats 4000000 in
set_option maxRecDepth 100000 in
theorem c_X6_comesHome (l : Launch) (G : zG) (M : zM) (N a : Nat) (s sA sH sL : Nat → Int32) (sI : Nat → Bool) (sP sT sG : Nat → Int32) (kp ln po : Int32) (wr : Bool) (pn : Nat) (p : Nat) (hp : s 14 = nI pn) (hp5 : pn ≤ 5) (hpp : p < pn) : zC l G yX6_comesHome cX6_comesHome 6 (none) 2 43 0 0 [.ref a, .int (nI (p))] (mdM G M a s sA sH sL sI sP sT sG kp ln po wr) N (zP none (mdM G M a (zCH s p pn) sA sH sL sI sP sT sG kp ln po wr)) := by
  refine zC.of (by decide +kernel) (Nat.le_of_ble_eq_true rfl) ?_
  intro K hKl ok
  subst hKl
  show zW K G 6 _ 0 0 _ N 0 [(0, .ref a), (1, .int (nI (p)))] []
  refine r_iconst ok (nI 0) dX6_comesHome_0 (by rfl) ?_
  refine r_istore_n ok [(2, .int (nI 0)), (0, .ref a), (1, .int (nI (p)))] dX6_comesHome_1 rfl (by decide) rfl ?_
  have L1 : ∀ (nL1 : Nat) (m : Nat), ((m + nL1 = 6)) → zW K G 6 (zQ K G (N + 0) 0 0 (zP none (mdM G M a (zCH s p pn) sA sH sL sI sP sT sG kp ln po wr))) 0 0 (mdM G M a (zCHo s p m) sA sH sL sI sP sT sG kp ln po wr) N 2 [(0, .ref a), (1, .int (nI (p))), (2, .int (nI (m)))] [] := by
    intro nL1
    induction nL1 with
    | zero =>
      intro m hk_m 
      obtain rfl : 6 = m := by omega
      refine r_iload_n ok dX6_comesHome_2 2 rfl rfl ?_
      refine r_bipush ok (nI 6) dX6_comesHome_3 (by rfl) ?_
      refine r_icmp_geN ok 118 (by omega) (by omega) dX6_comesHome_5 (by decide) (fun _ => ?_) (fun c => absurd c (by decide))
      refine r_aload_n ok dX6_comesHome_118 0 rfl rfl ?_
      refine r_getf ok ci_X6 fl_X6_7 (by decide) dX6_comesHome_119 md_o rfl ?_
      refine r_bipush ok (nI 14) dX6_comesHome_122 (by rfl) ?_
      refine r_dup2 ok dX6_comesHome_124 rfl rfl ?_
      refine r_ialdN ok (by omega) (by omega) dX6_comesHome_125 md_s ?_
      refine zW.to (st' := [.int (nI (pn)), .int (nI 14), .ref (a + 1)]) ?_ rfl rfl (congrArg (fun z => (Value.int z :: [.int (nI 14), .ref (a + 1)] : List Value)) (show (zCHo s p 6) 14 = nI (pn) from Eq.trans (zCHo_lo (by omega) (by omega)) hp))
      refine r_iconst ok (nI 1) dX6_comesHome_126 (by rfl) ?_
      refine r_isubN ok (by omega) dX6_comesHome_127 ?_
      refine r_iastN ok (by omega) (by omega) dX6_comesHome_128 md_s (mdw_s _) ?_
      refine r_iload_n ok dX6_comesHome_129 1 rfl rfl ?_
      refine r_iconst ok (nI 0) dX6_comesHome_130 (by rfl) ?_
      refine r_cS1 ok [] mi_X6_ofParcel ml_X6_84 sm_X6_ofParcel dX6_comesHome_131 (c_X6_ofParcel K.2.1 G (mdM G M a (upd (zCHo s p 6) 14 (nI (pn - 1))) sA sH sL sI sP sT sG kp ln po wr) N  p 0 ) rfl rfl ⟨Nat.le_of_ble_eq_true rfl, Nat.le_of_ble_eq_true rfl⟩ (Nat.le_of_ble_eq_true rfl) ⟨Nat.zero_le _, Nat.zero_le _⟩ ?_
      refine r_istore_n ok [(2, .int (nI (147 + 51 * p + 0))), (0, .ref a), (1, .int (nI (p)))] dX6_comesHome_134 rfl (by decide) rfl ?_
      have L3 : ∀ (nL3 : Nat) (i : Nat), ((i + nL3 = 51 * (pn - 1 - p))) → zW K G 6 (zQ K G (N + 0) 0 0 (zP none (mdM G M a (zCH s p pn) sA sH sL sI sP sT sG kp ln po wr))) 0 0 (mdM G M a (zCHs (upd (zCHo s p 6) 14 (nI (pn - 1))) p i) sA sH sL sI sP sT sG kp ln po wr) N 135 [(0, .ref a), (1, .int (nI (p))), (2, .int (nI (147 + 51 * p + 0 + i)))] [] := by
        intro nL3
        induction nL3 with
        | zero =>
          intro i hk_i 
          obtain rfl : 51 * (pn - 1 - p) = i := by omega
          refine r_iload_n ok dX6_comesHome_135 2 rfl rfl ?_
          refine r_aload_n ok dX6_comesHome_136 0 rfl rfl ?_
          refine r_getf ok ci_X6 fl_X6_7 (by decide) dX6_comesHome_137 md_o rfl ?_
          refine r_bipush ok (nI 14) dX6_comesHome_140 (by rfl) ?_
          refine r_ialdN ok (by omega) (by omega) dX6_comesHome_142 md_s ?_
          refine zW.to (st' := [.int (nI (pn - 1)), .int (nI (147 + 51 * p + 0 + (51 * (pn - 1 - p))))]) ?_ rfl rfl (congrArg (fun z => (Value.int z :: [.int (nI (147 + 51 * p + 0 + (51 * (pn - 1 - p))))] : List Value)) (show (zCHs (upd (zCHo s p 6) 14 (nI (pn - 1))) p (51 * (pn - 1 - p))) 14 = nI (pn - 1) from Eq.trans (zCHs_lo (by omega)) pk_us))
          refine r_iconst ok (nI 0) dX6_comesHome_143 (by rfl) ?_
          refine r_cS1 ok [.int (nI (147 + 51 * p + 0 + (51 * (pn - 1 - p))))] mi_X6_ofParcel ml_X6_84 sm_X6_ofParcel dX6_comesHome_144 (c_X6_ofParcel K.2.1 G (mdM G M a (zCHs (upd (zCHo s p 6) 14 (nI (pn - 1))) p (51 * (pn - 1 - p))) sA sH sL sI sP sT sG kp ln po wr) N  (pn - 1) 0 ) rfl rfl ⟨Nat.le_of_ble_eq_true rfl, Nat.le_of_ble_eq_true rfl⟩ (Nat.le_of_ble_eq_true rfl) ⟨Nat.zero_le _, Nat.zero_le _⟩ ?_
          refine r_icmp_geN ok 171 (by omega) (by omega) dX6_comesHome_147 (by decide) (fun c147_4 => ?_) (fun c147_4 => ?_)
          · skip
            refine r_iconst ok (nI 0) dX6_comesHome_171 (by rfl) ?_
            refine r_istore_n ok [(2, .int (nI 0)), (0, .ref a), (1, .int (nI (p)))] dX6_comesHome_172 rfl (by decide) rfl ?_
            have L5 : ∀ (nL5 : Nat) (k : Nat), ((k + nL5 = 51)) → zW K G 6 (zQ K G (N + 0) 0 0 (zP none (mdM G M a (zCH s p pn) sA sH sL sI sP sT sG kp ln po wr))) 0 0 (mdM G M a (zCHz (zCHs (upd (zCHo s p 6) 14 (nI (pn - 1))) p (51 * (pn - 1 - p))) pn k) sA sH sL sI sP sT sG kp ln po wr) N 173 [(0, .ref a), (1, .int (nI (p))), (2, .int (nI (k)))] [] := by
              intro nL5
              induction nL5 with
              | zero =>
                intro k hk_k 
                obtain rfl : 51 = k := by omega
                refine r_iload_n ok dX6_comesHome_173 2 rfl rfl ?_
                refine r_bipush ok (nI 51) dX6_comesHome_174 (by rfl) ?_
                refine r_icmp_geN ok 202 (by omega) (by omega) dX6_comesHome_176 (by decide) (fun _ => ?_) (fun c => absurd c (by decide))
                exact r_vret ok dX6_comesHome_202 rfl ⟨rfl, (by rfl)⟩
              | succ nL5 ihL5 =>
                intro k hk_k 
                refine r_iload_n ok dX6_comesHome_173 2 rfl rfl ?_
                refine r_bipush ok (nI 51) dX6_comesHome_174 (by rfl) ?_
                refine r_icmp_geN ok 202 (by omega) (by omega) dX6_comesHome_176 (by decide) (fun c176_7 => ?_) (fun c176_7 => ?_)
                · skip
                  exact absurd c176_7 (by omega)
                · skip
                  refine r_aload_n ok dX6_comesHome_179 0 rfl rfl ?_
                  refine r_getf ok ci_X6 fl_X6_7 (by decide) dX6_comesHome_180 md_o rfl ?_
                  refine r_aload_n ok dX6_comesHome_183 0 rfl rfl ?_
                  refine r_getf ok ci_X6 fl_X6_7 (by decide) dX6_comesHome_184 md_o rfl ?_
                  refine r_bipush ok (nI 14) dX6_comesHome_187 (by rfl) ?_
                  refine r_ialdN ok (by omega) (by omega) dX6_comesHome_189 md_s ?_
                  refine zW.to (st' := [.int (nI (pn - 1)), .ref (a + 1)]) ?_ rfl rfl (congrArg (fun z => (Value.int z :: [.ref (a + 1)] : List Value)) (show (zCHz (zCHs (upd (zCHo s p 6) 14 (nI (pn - 1))) p (51 * (pn - 1 - p))) pn k) 14 = nI (pn - 1) from Eq.trans (zCHz_lo (by omega)) (Eq.trans (zCHs_lo (by omega)) pk_us)))
                  refine r_iload_n ok dX6_comesHome_190 2 rfl rfl ?_
                  refine r_cS1 ok [.ref (a + 1)] mi_X6_ofParcel ml_X6_84 sm_X6_ofParcel dX6_comesHome_191 (c_X6_ofParcel K.2.1 G (mdM G M a (zCHz (zCHs (upd (zCHo s p 6) 14 (nI (pn - 1))) p (51 * (pn - 1 - p))) pn k) sA sH sL sI sP sT sG kp ln po wr) N  (pn - 1) k ) rfl rfl ⟨Nat.le_of_ble_eq_true rfl, Nat.le_of_ble_eq_true rfl⟩ (Nat.le_of_ble_eq_true rfl) ⟨Nat.zero_le _, Nat.zero_le _⟩ ?_
                  refine r_iconst ok (nI 0) dX6_comesHome_194 (by rfl) ?_
                  refine r_iastN ok (by omega) (by omega) dX6_comesHome_195 md_s (mdw_s _) ?_
                  refine r_iincN ok (c := 1) [(2, .int (nI (k + 1))), (0, .ref a), (1, .int (nI (p)))] dX6_comesHome_196 2 rfl (by rfl) (by decide) rfl ?_
                  refine r_goto ok 173 dX6_comesHome_199 (by decide) ?_
                  have q8 : (upd (zCHz (zCHs (upd (zCHo s p 6) 14 (nI (pn - 1))) p (51 * (pn - 1 - p))) pn k) (147 + 51 * (pn - 1) + k) (nI 0) : Nat → Int32) = zCHz (zCHs (upd (zCHo s p 6) 14 (nI (pn - 1))) p (51 * (pn - 1 - p))) pn (k + 1) := by first | with_reducible rfl | (rfl)
                  refine zW.forget (lv' := [(0, .ref a), (1, .int (nI (p))), (2, .int (nI (k + 1)))]) ?_ [1, 2, 0] rfl
                  refine zW.to ?_ (congrArg (fun z => mdM G M a z sA sH sL sI sP sT sG kp ln po wr) q8) rfl rfl
                  exact ihL5 (k + 1) (by omega)
            have q9 : (zCHs (upd (zCHo s p 6) 14 (nI (pn - 1))) p (51 * (pn - 1 - p)) : Nat → Int32) = zCHz (zCHs (upd (zCHo s p 6) 14 (nI (pn - 1))) p (51 * (pn - 1 - p))) pn 0 := by first | with_reducible rfl | (rfl)
            refine zW.forget (lv' := [(0, .ref a), (1, .int (nI (p))), (2, .int (nI 0))]) ?_ [1, 2, 0] rfl
            refine zW.to ?_ (congrArg (fun z => mdM G M a z sA sH sL sI sP sT sG kp ln po wr) q9) rfl rfl
            exact L5 51 0 (by omega)
          · skip
            exact absurd c147_4 (by omega)
        | succ nL3 ihL3 =>
          intro i hk_i 
          refine r_iload_n ok dX6_comesHome_135 2 rfl rfl ?_
          refine r_aload_n ok dX6_comesHome_136 0 rfl rfl ?_
          refine r_getf ok ci_X6 fl_X6_7 (by decide) dX6_comesHome_137 md_o rfl ?_
          refine r_bipush ok (nI 14) dX6_comesHome_140 (by rfl) ?_
          refine r_ialdN ok (by omega) (by omega) dX6_comesHome_142 md_s ?_
          refine zW.to (st' := [.int (nI (pn - 1)), .int (nI (147 + 51 * p + 0 + i))]) ?_ rfl rfl (congrArg (fun z => (Value.int z :: [.int (nI (147 + 51 * p + 0 + i))] : List Value)) (show (zCHs (upd (zCHo s p 6) 14 (nI (pn - 1))) p i) 14 = nI (pn - 1) from Eq.trans (zCHs_lo (by omega)) pk_us))
          refine r_iconst ok (nI 0) dX6_comesHome_143 (by rfl) ?_
          refine r_cS1 ok [.int (nI (147 + 51 * p + 0 + i))] mi_X6_ofParcel ml_X6_84 sm_X6_ofParcel dX6_comesHome_144 (c_X6_ofParcel K.2.1 G (mdM G M a (zCHs (upd (zCHo s p 6) 14 (nI (pn - 1))) p i) sA sH sL sI sP sT sG kp ln po wr) N  (pn - 1) 0 ) rfl rfl ⟨Nat.le_of_ble_eq_true rfl, Nat.le_of_ble_eq_true rfl⟩ (Nat.le_of_ble_eq_true rfl) ⟨Nat.zero_le _, Nat.zero_le _⟩ ?_
          refine r_icmp_geN ok 171 (by omega) (by omega) dX6_comesHome_147 (by decide) (fun c147_10 => ?_) (fun c147_10 => ?_)
          · skip
            exact absurd c147_10 (by omega)
          · skip
            refine r_aload_n ok dX6_comesHome_150 0 rfl rfl ?_
            refine r_getf ok ci_X6 fl_X6_7 (by decide) dX6_comesHome_151 md_o rfl ?_
            refine r_iload_n ok dX6_comesHome_154 2 rfl rfl ?_
            refine r_aload_n ok dX6_comesHome_155 0 rfl rfl ?_
            refine r_getf ok ci_X6 fl_X6_7 (by decide) dX6_comesHome_156 md_o rfl ?_
            refine r_iload_n ok dX6_comesHome_159 2 rfl rfl ?_
            refine r_bipush ok (nI 51) dX6_comesHome_160 (by rfl) ?_
            refine r_iaddN ok dX6_comesHome_162 ?_
            refine r_ialdN ok (by omega) (by omega) dX6_comesHome_163 md_s ?_
            refine r_iastN ok (by omega) (by omega) dX6_comesHome_164 md_s (mdw_s _) ?_
            refine r_iincN ok (c := 1) [(2, .int (nI (147 + 51 * p + 0 + i + 1))), (0, .ref a), (1, .int (nI (p)))] dX6_comesHome_165 2 rfl (by rfl) (by decide) rfl ?_
            refine r_goto ok 135 dX6_comesHome_168 (by decide) ?_
            have q11 : Value.int (nI (147 + 51 * p + 0 + i + 1)) = Value.int (nI (147 + 51 * p + 0 + (i + 1))) := by first | with_reducible rfl | (rfl)
            have q12 : (upd (zCHs (upd (zCHo s p 6) 14 (nI (pn - 1))) p i) (147 + 51 * p + 0 + i) ((zCHs (upd (zCHo s p 6) 14 (nI (pn - 1))) p i) ((147 + 51 * p + 0 + i) + 51)) : Nat → Int32) = zCHs (upd (zCHo s p 6) 14 (nI (pn - 1))) p (i + 1) := by first | with_reducible rfl | (rfl)
            refine zW.forget (lv' := [(0, .ref a), (1, .int (nI (p))), (2, .int (nI (147 + 51 * p + 0 + i + 1)))]) ?_ [1, 2, 0] rfl
            refine zW.to (lv' := [(0, .ref a), (1, .int (nI (p))), (2, .int (nI (147 + 51 * p + 0 + (i + 1))))]) ?_ rfl (congrArg (fun z => ([(0, .ref a), (1, .int (nI (p))), (2, z)] : List (Nat × Value))) q11) rfl
            refine zW.to ?_ (congrArg (fun z => mdM G M a z sA sH sL sI sP sT sG kp ln po wr) q12) rfl rfl
            exact ihL3 (i + 1) (by omega)
      have q13 : Value.int (nI (147 + 51 * p + 0)) = Value.int (nI (147 + 51 * p + 0 + 0)) := by first | with_reducible rfl | (rfl)
      have q14 : (upd (zCHo s p 6) 14 (nI (pn - 1)) : Nat → Int32) = zCHs (upd (zCHo s p 6) 14 (nI (pn - 1))) p 0 := by first | with_reducible rfl | (rfl)
      refine zW.forget (lv' := [(0, .ref a), (1, .int (nI (p))), (2, .int (nI (147 + 51 * p + 0)))]) ?_ [1, 2, 0] rfl
      refine zW.to (lv' := [(0, .ref a), (1, .int (nI (p))), (2, .int (nI (147 + 51 * p + 0 + 0)))]) ?_ rfl (congrArg (fun z => ([(0, .ref a), (1, .int (nI (p))), (2, z)] : List (Nat × Value))) q13) rfl
      refine zW.to ?_ (congrArg (fun z => mdM G M a z sA sH sL sI sP sT sG kp ln po wr) q14) rfl rfl
      exact L3 (51 * (pn - 1 - p)) 0 (by omega)
    | succ nL1 ihL1 =>
      intro m hk_m 
      refine r_iload_n ok dX6_comesHome_2 2 rfl rfl ?_
      refine r_bipush ok (nI 6) dX6_comesHome_3 (by rfl) ?_
      refine r_icmp_geN ok 118 (by omega) (by omega) dX6_comesHome_5 (by decide) (fun c5_15 => ?_) (fun c5_15 => ?_)
      · skip
        exact absurd c5_15 (by omega)
      · skip
        refine r_iconst ok (nI 0) dX6_comesHome_8 (by rfl) ?_
        refine r_istore_n ok [(3, .int (nI 0)), (0, .ref a), (1, .int (nI (p))), (2, .int (nI (m)))] dX6_comesHome_9 rfl (by decide) rfl ?_
        have L16 : ∀ (nL16 : Nat) (g : Nat), ((g + nL16 = 8)) → zW K G 6 (zQ K G (N + 0) 0 0 (zP none (mdM G M a (zCH s p pn) sA sH sL sI sP sT sG kp ln po wr))) 0 0 (mdM G M a (zCHi (zCHo s p m) p m g) sA sH sL sI sP sT sG kp ln po wr) N 10 [(0, .ref a), (1, .int (nI (p))), (2, .int (nI (m))), (3, .int (nI (g)))] [] := by
          intro nL16
          induction nL16 with
          | zero =>
            intro g hk_g 
            obtain rfl : 8 = g := by omega
            refine r_iload_n ok dX6_comesHome_10 3 rfl rfl ?_
            refine r_bipush ok (nI 8) dX6_comesHome_11 (by rfl) ?_
            refine r_icmp_geN ok 112 (by omega) (by omega) dX6_comesHome_13 (by decide) (fun _ => ?_) (fun c => absurd c (by decide))
            refine r_iincN ok (c := 1) [(2, .int (nI (m + 1))), (0, .ref a), (1, .int (nI (p))), (3, .int (nI (8)))] dX6_comesHome_112 2 rfl (by rfl) (by decide) rfl ?_
            refine r_goto ok 2 dX6_comesHome_115 (by decide) ?_
            have q18 : (zCHi (zCHo s p m) p m 8 : Nat → Int32) = zCHo s p (m + 1) := by first | with_reducible rfl | (rfl)
            refine zW.forget (lv' := [(0, .ref a), (1, .int (nI (p))), (2, .int (nI (m + 1)))]) ?_ [1, 2, 0] rfl
            refine zW.to ?_ (congrArg (fun z => mdM G M a z sA sH sL sI sP sT sG kp ln po wr) q18) rfl rfl
            exact ihL1 (m + 1) (by omega)
          | succ nL16 ihL16 =>
            intro g hk_g 
            refine r_iload_n ok dX6_comesHome_10 3 rfl rfl ?_
            refine r_bipush ok (nI 8) dX6_comesHome_11 (by rfl) ?_
            refine r_icmp_geN ok 112 (by omega) (by omega) dX6_comesHome_13 (by decide) (fun c13_19 => ?_) (fun c13_19 => ?_)
            · skip
              exact absurd c13_19 (by omega)
            · skip
              refine r_aload_n ok dX6_comesHome_16 0 rfl rfl ?_
              refine r_getf ok ci_X6 fl_X6_7 (by decide) dX6_comesHome_17 md_o rfl ?_
              refine r_iload_n ok dX6_comesHome_20 2 rfl rfl ?_
              refine r_bipush ok (nI 6) dX6_comesHome_21 (by rfl) ?_
              refine r_iload_n ok dX6_comesHome_23 3 rfl rfl ?_
              refine r_iaddN ok dX6_comesHome_24 ?_
              refine r_cS1 ok [.ref (a + 1)] mi_X6_of ml_X6_47 sm_X6_of dX6_comesHome_25 (c_X6_of K.2.1 G (mdM G M a (zCHi (zCHo s p m) p m g) sA sH sL sI sP sT sG kp ln po wr) N  m (6 + g) ) rfl rfl ⟨Nat.le_of_ble_eq_true rfl, Nat.le_of_ble_eq_true rfl⟩ (Nat.le_of_ble_eq_true rfl) ⟨Nat.zero_le _, Nat.zero_le _⟩ ?_
              refine r_ialdN ok (by omega) (by omega) dX6_comesHome_28 md_s ?_
              refine r_aload_n ok dX6_comesHome_29 0 rfl rfl ?_
              refine r_getf ok ci_X6 fl_X6_7 (by decide) dX6_comesHome_30 md_o rfl ?_
              refine r_iload_n ok dX6_comesHome_33 1 rfl rfl ?_
              refine r_iload_n ok dX6_comesHome_34 2 rfl rfl ?_
              refine r_iload_n ok dX6_comesHome_35 3 rfl rfl ?_
              refine r_cS1 ok [.ref (a + 1), .int ((zCHi (zCHo s p m) p m g) (15 + 22 * m + (6 + g)))] mi_X6_ofString ml_X6_87 sm_X6_ofString dX6_comesHome_36 (c_X6_ofString K.2.1 G (mdM G M a (zCHi (zCHo s p m) p m g) sA sH sL sI sP sT sG kp ln po wr) N  p m g ) rfl rfl ⟨Nat.le_of_ble_eq_true rfl, Nat.le_of_ble_eq_true rfl⟩ (Nat.le_of_ble_eq_true rfl) ⟨Nat.zero_le _, Nat.zero_le _⟩ ?_
              refine r_ialdN ok (by omega) (by omega) dX6_comesHome_39 md_s ?_
              refine r_iadd ok dX6_comesHome_40 ?_
              refine r_istore ok [(4, .int (((zCHi (zCHo s p m) p m g) (15 + 22 * m + (6 + g))) + ((zCHi (zCHo s p m) p m g) (147 + 51 * p + (3 + 8 * m + g))))), (0, .ref a), (1, .int (nI (p))), (2, .int (nI (m))), (3, .int (nI (g)))] dX6_comesHome_41 (by decide) rfl ?_
              refine r_iload ok dX6_comesHome_43 0 rfl ?_
              refine r_bipush ok (nI 99) dX6_comesHome_45 (by rfl) ?_
              refine r_icmp_le ok 58 dX6_comesHome_47 (by decide) (fun c47_20 => ?_) (fun c47_20 => ?_)
              · skip
                refine r_iconst ok (nI 0) dX6_comesHome_58 (by rfl) ?_
                refine r_istore ok [(5, .int (nI 0)), (4, .int (((zCHi (zCHo s p m) p m g) (15 + 22 * m + (6 + g))) + ((zCHi (zCHo s p m) p m g) (147 + 51 * p + (3 + 8 * m + g))))), (0, .ref a), (1, .int (nI (p))), (2, .int (nI (m))), (3, .int (nI (g)))] dX6_comesHome_59 (by decide) rfl ?_
                refine r_aload_n ok dX6_comesHome_61 2 rfl rfl ?_
                refine r_getf ok ci_X6 fl_X6_7 (by decide) dX6_comesHome_62 md_o rfl ?_
                refine r_iload_n ok dX6_comesHome_65 4 rfl rfl ?_
                refine r_bipush ok (nI 6) dX6_comesHome_66 (by rfl) ?_
                refine r_iload_n ok dX6_comesHome_68 5 rfl rfl ?_
                refine r_iaddN ok dX6_comesHome_69 ?_
                refine r_cS1 ok [.ref (a + 1)] mi_X6_of ml_X6_47 sm_X6_of dX6_comesHome_70 (c_X6_of K.2.1 G (mdM G M a (zCHi (zCHo s p m) p m g) sA sH sL sI sP sT sG kp ln po wr) N  m (6 + g) ) rfl rfl ⟨Nat.le_of_ble_eq_true rfl, Nat.le_of_ble_eq_true rfl⟩ (Nat.le_of_ble_eq_true rfl) ⟨Nat.zero_le _, Nat.zero_le _⟩ ?_
                refine r_iload ok dX6_comesHome_73 1 rfl ?_
                refine r_iload ok dX6_comesHome_75 0 rfl ?_
                refine r_isub ok dX6_comesHome_77 ?_
                refine r_iastN ok (by omega) (by omega) dX6_comesHome_78 md_s (mdw_s _) ?_
                refine r_aload_n ok dX6_comesHome_79 2 rfl rfl ?_
                refine r_getf ok ci_X6 fl_X6_7 (by decide) dX6_comesHome_80 md_o rfl ?_
                refine r_iload_n ok dX6_comesHome_83 4 rfl rfl ?_
                refine r_iconst ok (nI 5) dX6_comesHome_84 (by rfl) ?_
                refine r_cS1 ok [.ref (a + 1)] mi_X6_of ml_X6_47 sm_X6_of dX6_comesHome_85 (c_X6_of K.2.1 G (mdM G M a (upd (zCHi (zCHo s p m) p m g) (15 + 22 * m + (6 + g)) ((((zCHi (zCHo s p m) p m g) (15 + 22 * m + (6 + g))) + ((zCHi (zCHo s p m) p m g) (147 + 51 * p + (3 + 8 * m + g)))) - (nI 0))) sA sH sL sI sP sT sG kp ln po wr) N  m 5 ) rfl rfl ⟨Nat.le_of_ble_eq_true rfl, Nat.le_of_ble_eq_true rfl⟩ (Nat.le_of_ble_eq_true rfl) ⟨Nat.zero_le _, Nat.zero_le _⟩ ?_
                refine r_dup2 ok dX6_comesHome_88 rfl rfl ?_
                refine r_ialdN ok (by omega) (by omega) dX6_comesHome_89 md_s ?_
                refine r_iload ok dX6_comesHome_90 0 rfl ?_
                refine r_iadd ok dX6_comesHome_92 ?_
                refine r_iastN ok (by omega) (by omega) dX6_comesHome_93 md_s (mdw_s _) ?_
                refine r_aload_n ok dX6_comesHome_94 2 rfl rfl ?_
                refine r_getf ok ci_X6 fl_X6_7 (by decide) dX6_comesHome_95 md_o rfl ?_
                refine r_bipush ok (nI 13) dX6_comesHome_98 (by rfl) ?_
                refine r_dup2 ok dX6_comesHome_100 rfl rfl ?_
                refine r_ialdN ok (by omega) (by omega) dX6_comesHome_101 md_s ?_
                refine zW.to (st' := [.int ((zCHi (zCHo s p m) p m g) 13), .int (nI 13), .ref (a + 1)]) ?_ rfl rfl (congrArg (fun z => (Value.int z :: [.int (nI 13), .ref (a + 1)] : List Value)) (show (upd (upd (zCHi (zCHo s p m) p m g) (15 + 22 * m + (6 + g)) ((((zCHi (zCHo s p m) p m g) (15 + 22 * m + (6 + g))) + ((zCHi (zCHo s p m) p m g) (147 + 51 * p + (3 + 8 * m + g)))) - (nI 0))) (15 + 22 * m + 5) (((upd (zCHi (zCHo s p m) p m g) (15 + 22 * m + (6 + g)) ((((zCHi (zCHo s p m) p m g) (15 + 22 * m + (6 + g))) + ((zCHi (zCHo s p m) p m g) (147 + 51 * p + (3 + 8 * m + g)))) - (nI 0))) (15 + 22 * m + 5)) + (nI 0))) 13 = (zCHi (zCHo s p m) p m g) 13 from Eq.trans (pk_un (by omega)) ((pk_un (by omega)))))
                refine r_iload ok dX6_comesHome_102 0 rfl ?_
                refine r_iadd ok dX6_comesHome_104 ?_
                refine r_iastN ok (by omega) (by omega) dX6_comesHome_105 md_s (mdw_s _) ?_
                refine r_iincN ok (c := 1) [(3, .int (nI (g + 1))), (5, .int (nI 0)), (4, .int (((zCHi (zCHo s p m) p m g) (15 + 22 * m + (6 + g))) + ((zCHi (zCHo s p m) p m g) (147 + 51 * p + (3 + 8 * m + g))))), (0, .ref a), (1, .int (nI (p))), (2, .int (nI (m)))] dX6_comesHome_106 5 rfl (by rfl) (by decide) rfl ?_
                refine r_goto ok 10 dX6_comesHome_109 (by decide) ?_
                have q21 : (upd (upd (upd (zCHi (zCHo s p m) p m g) (15 + 22 * m + (6 + g)) ((((zCHi (zCHo s p m) p m g) (15 + 22 * m + (6 + g))) + ((zCHi (zCHo s p m) p m g) (147 + 51 * p + (3 + 8 * m + g)))) - (nI 0))) (15 + 22 * m + 5) (((upd (zCHi (zCHo s p m) p m g) (15 + 22 * m + (6 + g)) ((((zCHi (zCHo s p m) p m g) (15 + 22 * m + (6 + g))) + ((zCHi (zCHo s p m) p m g) (147 + 51 * p + (3 + 8 * m + g)))) - (nI 0))) (15 + 22 * m + 5)) + (nI 0))) 13 (((zCHi (zCHo s p m) p m g) 13) + (nI 0)) : Nat → Int32) = zCHi (zCHo s p m) p m (g + 1) := by first | with_reducible rfl | (simp [zCHi, zOver, *])
                refine zW.forget (lv' := [(0, .ref a), (1, .int (nI (p))), (2, .int (nI (m))), (3, .int (nI (g + 1)))]) ?_ [3, 4, 5, 0] rfl
                refine zW.to ?_ (congrArg (fun z => mdM G M a z sA sH sL sI sP sT sG kp ln po wr) q21) rfl rfl
                exact ihL16 (g + 1) (by omega)
              · skip
                refine r_iload ok dX6_comesHome_50 0 rfl ?_
                refine r_bipush ok (nI 99) dX6_comesHome_52 (by rfl) ?_
                refine r_isub ok dX6_comesHome_54 ?_
                refine r_goto ok 59 dX6_comesHome_55 (by decide) ?_
                refine r_istore ok [(5, .int ((((zCHi (zCHo s p m) p m g) (15 + 22 * m + (6 + g))) + ((zCHi (zCHo s p m) p m g) (147 + 51 * p + (3 + 8 * m + g)))) - (nI 99))), (4, .int (((zCHi (zCHo s p m) p m g) (15 + 22 * m + (6 + g))) + ((zCHi (zCHo s p m) p m g) (147 + 51 * p + (3 + 8 * m + g))))), (0, .ref a), (1, .int (nI (p))), (2, .int (nI (m))), (3, .int (nI (g)))] dX6_comesHome_59 (by decide) rfl ?_
                refine r_aload_n ok dX6_comesHome_61 2 rfl rfl ?_
                refine r_getf ok ci_X6 fl_X6_7 (by decide) dX6_comesHome_62 md_o rfl ?_
                refine r_iload_n ok dX6_comesHome_65 4 rfl rfl ?_
                refine r_bipush ok (nI 6) dX6_comesHome_66 (by rfl) ?_
                refine r_iload_n ok dX6_comesHome_68 5 rfl rfl ?_
                refine r_iaddN ok dX6_comesHome_69 ?_
                refine r_cS1 ok [.ref (a + 1)] mi_X6_of ml_X6_47 sm_X6_of dX6_comesHome_70 (c_X6_of K.2.1 G (mdM G M a (zCHi (zCHo s p m) p m g) sA sH sL sI sP sT sG kp ln po wr) N  m (6 + g) ) rfl rfl ⟨Nat.le_of_ble_eq_true rfl, Nat.le_of_ble_eq_true rfl⟩ (Nat.le_of_ble_eq_true rfl) ⟨Nat.zero_le _, Nat.zero_le _⟩ ?_
                refine r_iload ok dX6_comesHome_73 1 rfl ?_
                refine r_iload ok dX6_comesHome_75 0 rfl ?_
                refine r_isub ok dX6_comesHome_77 ?_
                refine r_iastN ok (by omega) (by omega) dX6_comesHome_78 md_s (mdw_s _) ?_
                refine r_aload_n ok dX6_comesHome_79 2 rfl rfl ?_
                refine r_getf ok ci_X6 fl_X6_7 (by decide) dX6_comesHome_80 md_o rfl ?_
                refine r_iload_n ok dX6_comesHome_83 4 rfl rfl ?_
                refine r_iconst ok (nI 5) dX6_comesHome_84 (by rfl) ?_
                refine r_cS1 ok [.ref (a + 1)] mi_X6_of ml_X6_47 sm_X6_of dX6_comesHome_85 (c_X6_of K.2.1 G (mdM G M a (upd (zCHi (zCHo s p m) p m g) (15 + 22 * m + (6 + g)) ((((zCHi (zCHo s p m) p m g) (15 + 22 * m + (6 + g))) + ((zCHi (zCHo s p m) p m g) (147 + 51 * p + (3 + 8 * m + g)))) - ((((zCHi (zCHo s p m) p m g) (15 + 22 * m + (6 + g))) + ((zCHi (zCHo s p m) p m g) (147 + 51 * p + (3 + 8 * m + g)))) - (nI 99)))) sA sH sL sI sP sT sG kp ln po wr) N  m 5 ) rfl rfl ⟨Nat.le_of_ble_eq_true rfl, Nat.le_of_ble_eq_true rfl⟩ (Nat.le_of_ble_eq_true rfl) ⟨Nat.zero_le _, Nat.zero_le _⟩ ?_
                refine r_dup2 ok dX6_comesHome_88 rfl rfl ?_
                refine r_ialdN ok (by omega) (by omega) dX6_comesHome_89 md_s ?_
                refine r_iload ok dX6_comesHome_90 0 rfl ?_
                refine r_iadd ok dX6_comesHome_92 ?_
                refine r_iastN ok (by omega) (by omega) dX6_comesHome_93 md_s (mdw_s _) ?_
                refine r_aload_n ok dX6_comesHome_94 2 rfl rfl ?_
                refine r_getf ok ci_X6 fl_X6_7 (by decide) dX6_comesHome_95 md_o rfl ?_
                refine r_bipush ok (nI 13) dX6_comesHome_98 (by rfl) ?_
                refine r_dup2 ok dX6_comesHome_100 rfl rfl ?_
                refine r_ialdN ok (by omega) (by omega) dX6_comesHome_101 md_s ?_
                refine zW.to (st' := [.int ((zCHi (zCHo s p m) p m g) 13), .int (nI 13), .ref (a + 1)]) ?_ rfl rfl (congrArg (fun z => (Value.int z :: [.int (nI 13), .ref (a + 1)] : List Value)) (show (upd (upd (zCHi (zCHo s p m) p m g) (15 + 22 * m + (6 + g)) ((((zCHi (zCHo s p m) p m g) (15 + 22 * m + (6 + g))) + ((zCHi (zCHo s p m) p m g) (147 + 51 * p + (3 + 8 * m + g)))) - ((((zCHi (zCHo s p m) p m g) (15 + 22 * m + (6 + g))) + ((zCHi (zCHo s p m) p m g) (147 + 51 * p + (3 + 8 * m + g)))) - (nI 99)))) (15 + 22 * m + 5) (((upd (zCHi (zCHo s p m) p m g) (15 + 22 * m + (6 + g)) ((((zCHi (zCHo s p m) p m g) (15 + 22 * m + (6 + g))) + ((zCHi (zCHo s p m) p m g) (147 + 51 * p + (3 + 8 * m + g)))) - ((((zCHi (zCHo s p m) p m g) (15 + 22 * m + (6 + g))) + ((zCHi (zCHo s p m) p m g) (147 + 51 * p + (3 + 8 * m + g)))) - (nI 99)))) (15 + 22 * m + 5)) + ((((zCHi (zCHo s p m) p m g) (15 + 22 * m + (6 + g))) + ((zCHi (zCHo s p m) p m g) (147 + 51 * p + (3 + 8 * m + g)))) - (nI 99)))) 13 = (zCHi (zCHo s p m) p m g) 13 from Eq.trans (pk_un (by omega)) ((pk_un (by omega)))))
                refine r_iload ok dX6_comesHome_102 0 rfl ?_
                refine r_iadd ok dX6_comesHome_104 ?_
                refine r_iastN ok (by omega) (by omega) dX6_comesHome_105 md_s (mdw_s _) ?_
                refine r_iincN ok (c := 1) [(3, .int (nI (g + 1))), (5, .int ((((zCHi (zCHo s p m) p m g) (15 + 22 * m + (6 + g))) + ((zCHi (zCHo s p m) p m g) (147 + 51 * p + (3 + 8 * m + g)))) - (nI 99))), (4, .int (((zCHi (zCHo s p m) p m g) (15 + 22 * m + (6 + g))) + ((zCHi (zCHo s p m) p m g) (147 + 51 * p + (3 + 8 * m + g))))), (0, .ref a), (1, .int (nI (p))), (2, .int (nI (m)))] dX6_comesHome_106 5 rfl (by rfl) (by decide) rfl ?_
                refine r_goto ok 10 dX6_comesHome_109 (by decide) ?_
                have q22 : (upd (upd (upd (zCHi (zCHo s p m) p m g) (15 + 22 * m + (6 + g)) ((((zCHi (zCHo s p m) p m g) (15 + 22 * m + (6 + g))) + ((zCHi (zCHo s p m) p m g) (147 + 51 * p + (3 + 8 * m + g)))) - ((((zCHi (zCHo s p m) p m g) (15 + 22 * m + (6 + g))) + ((zCHi (zCHo s p m) p m g) (147 + 51 * p + (3 + 8 * m + g)))) - (nI 99)))) (15 + 22 * m + 5) (((upd (zCHi (zCHo s p m) p m g) (15 + 22 * m + (6 + g)) ((((zCHi (zCHo s p m) p m g) (15 + 22 * m + (6 + g))) + ((zCHi (zCHo s p m) p m g) (147 + 51 * p + (3 + 8 * m + g)))) - ((((zCHi (zCHo s p m) p m g) (15 + 22 * m + (6 + g))) + ((zCHi (zCHo s p m) p m g) (147 + 51 * p + (3 + 8 * m + g)))) - (nI 99)))) (15 + 22 * m + 5)) + ((((zCHi (zCHo s p m) p m g) (15 + 22 * m + (6 + g))) + ((zCHi (zCHo s p m) p m g) (147 + 51 * p + (3 + 8 * m + g)))) - (nI 99)))) 13 (((zCHi (zCHo s p m) p m g) 13) + ((((zCHi (zCHo s p m) p m g) (15 + 22 * m + (6 + g))) + ((zCHi (zCHo s p m) p m g) (147 + 51 * p + (3 + 8 * m + g)))) - (nI 99))) : Nat → Int32) = zCHi (zCHo s p m) p m (g + 1) := by first | with_reducible rfl | (simp [zCHi, zOver, *])
                refine zW.forget (lv' := [(0, .ref a), (1, .int (nI (p))), (2, .int (nI (m))), (3, .int (nI (g + 1)))]) ?_ [3, 4, 5, 0] rfl
                refine zW.to ?_ (congrArg (fun z => mdM G M a z sA sH sL sI sP sT sG kp ln po wr) q22) rfl rfl
                exact ihL16 (g + 1) (by omega)
        have q23 : (zCHo s p m : Nat → Int32) = zCHi (zCHo s p m) p m 0 := by first | with_reducible rfl | (rfl)
        refine zW.forget (lv' := [(0, .ref a), (1, .int (nI (p))), (2, .int (nI (m))), (3, .int (nI 0))]) ?_ [1, 2, 3, 0] rfl
        refine zW.to ?_ (congrArg (fun z => mdM G M a z sA sH sL sI sP sT sG kp ln po wr) q23) rfl rfl
        exact L16 8 0 (by omega)
  have q24 : (s : Nat → Int32) = zCHo s p 0 := by first | with_reducible rfl | (rfl)
  refine zW.forget (lv' := [(0, .ref a), (1, .int (nI (p))), (2, .int (nI 0))]) ?_ [1, 2, 0] rfl
  refine zW.to ?_ (congrArg (fun z => mdM G M a z sA sH sL sI sP sT sG kp ln po wr) q24) rfl rfl
  exact L1 6 0 (by omega)
set_option maxHeartbeats 4000000 in
set_option maxRecDepth 100000 in
theorem c_X6_loses (l : Launch) (G : zG) (M : zM) (N a : Nat) (s sA sH sL : Nat → Int32) (sI : Nat → Bool) (sP sT sG : Nat → Int32) (kp ln po : Int32) (wr : Bool)  (p : Nat) (hp : p < 5) (hz : ¬ zPcs s p = 0) (h48 : zLat s p < 48) : zC l G yX6_loses cX6_loses 4 (none) 2 44 0 0 [.ref a, .int (nI (p))] (mdM G M a s sA sH sL sI sP sT sG kp ln po wr) N (zP none (mdM G M a (zLose s p) sA sH sL sI sP sT sG kp ln po wr)) := by
  refine zC.of (by decide +kernel) (Nat.le_of_ble_eq_true rfl) ?_
  intro K hKl ok
  subst hKl
  show zW K G 4 _ 0 0 _ N 0 [(0, .ref a), (1, .int (nI (p)))] []
  refine r_aload_n ok dX6_loses_0 0 rfl rfl ?_
  refine r_aload_n ok dX6_loses_1 0 rfl rfl ?_
  refine r_iload_n ok dX6_loses_2 1 rfl rfl ?_
  refine r_cV1 ok [.ref a] mi_X6_stringsIn ci_X6 ml_X6_94 im_X6_stringsIn se_X6_stringsIn dX6_loses_3 (c_X6_stringsIn K.2.1 G M N a s sA sH sL sI sP sT sG kp ln po wr  p (by omega)) md_o rfl rfl ⟨Nat.le_of_ble_eq_true rfl, Nat.le_of_ble_eq_true rfl⟩ (Nat.le_of_ble_eq_true rfl) ⟨Nat.zero_le _, Nat.zero_le _⟩ ?_
  refine r_cV1 ok [] mi_X6_draw ci_X6 ml_X6_97 im_X6_draw se_X6_draw dX6_loses_6 (c_X6_draw K.2.1 G M N a s sA sH sL sI sP sT sG kp ln po wr  (zPcs s p) (by omega)) md_o rfl rfl ⟨Nat.le_of_ble_eq_true rfl, Nat.le_of_ble_eq_true rfl⟩ (Nat.le_of_ble_eq_true rfl) ⟨Nat.zero_le _, Nat.zero_le _⟩ ?_
  refine r_istore_n ok [(2, .int (zDr (zNx (s 10)) (zPcs s p))), (0, .ref a), (1, .int (nI (p)))] dX6_loses_9 rfl (by decide) rfl ?_
  refine r_iconst ok (nI 0) dX6_loses_10 (by rfl) ?_
  refine r_istore_n ok [(3, .int (nI 0)), (2, .int (zDr (zNx (s 10)) (zPcs s p))), (0, .ref a), (1, .int (nI (p)))] dX6_loses_11 rfl (by decide) rfl ?_
  have L1 : ∀ (nL1 : Nat) (k : Nat), ((k + nL1 = zLat s p)) → zW K G 4 (zQ K G (N + 0) 0 0 (zP none (mdM G M a (zLose s p) sA sH sL sI sP sT sG kp ln po wr))) 0 0 (mdM G M a (zLd s) sA sH sL sI sP sT sG kp ln po wr) N 12 [(0, .ref a), (1, .int (nI (p))), (2, .int (zLs (zLd s) p (zDr (zNx (s 10)) (zPcs s p)) k)), (3, .int (nI (k)))] [] := by
    intro nL1
    induction nL1 with
    | zero =>
      intro k hk_k 
      obtain rfl : zLat s p = k := by omega
      refine r_iload_n ok dX6_loses_12 2 rfl rfl ?_
      refine r_aload_n ok dX6_loses_13 0 rfl rfl ?_
      refine r_getf ok ci_X6 fl_X6_7 (by decide) dX6_loses_14 md_o rfl ?_
      refine r_iload_n ok dX6_loses_17 1 rfl rfl ?_
      refine r_iconst ok (nI 3) dX6_loses_18 (by rfl) ?_
      refine r_iload_n ok dX6_loses_19 3 rfl rfl ?_
      refine r_iaddN ok dX6_loses_20 ?_
      refine r_cS1 ok [.ref (a + 1), .int (zLs (zLd s) p (zDr (zNx (s 10)) (zPcs s p)) (zLat s p))] mi_X6_ofParcel ml_X6_84 sm_X6_ofParcel dX6_loses_21 (c_X6_ofParcel K.2.1 G (mdM G M a (zLd s) sA sH sL sI sP sT sG kp ln po wr) N  p (3 + ((zLat s p))) ) rfl rfl ⟨Nat.le_of_ble_eq_true rfl, Nat.le_of_ble_eq_true rfl⟩ (Nat.le_of_ble_eq_true rfl) ⟨Nat.zero_le _, Nat.zero_le _⟩ ?_
      refine r_ialdN ok (by omega) (by omega) dX6_loses_24 md_s ?_
      refine r_icmp_lt ok 49 dX6_loses_25 (by decide) (fun c25_2 => ?_) (fun c25_2 => ?_)
      · skip
        refine r_aload_n ok dX6_loses_49 0 rfl rfl ?_
        refine r_getf ok ci_X6 fl_X6_7 (by decide) dX6_loses_50 md_o rfl ?_
        refine r_iload_n ok dX6_loses_53 1 rfl rfl ?_
        refine r_iconst ok (nI 3) dX6_loses_54 (by rfl) ?_
        refine r_iload_n ok dX6_loses_55 3 rfl rfl ?_
        refine r_iaddN ok dX6_loses_56 ?_
        refine r_cS1 ok [.ref (a + 1)] mi_X6_ofParcel ml_X6_84 sm_X6_ofParcel dX6_loses_57 (c_X6_ofParcel K.2.1 G (mdM G M a (zLd s) sA sH sL sI sP sT sG kp ln po wr) N  p (3 + ((zLat s p))) ) rfl rfl ⟨Nat.le_of_ble_eq_true rfl, Nat.le_of_ble_eq_true rfl⟩ (Nat.le_of_ble_eq_true rfl) ⟨Nat.zero_le _, Nat.zero_le _⟩ ?_
        refine r_dup2 ok dX6_loses_60 rfl rfl ?_
        refine r_ialdN ok (by omega) (by omega) dX6_loses_61 md_s ?_
        refine r_iconst ok (nI 1) dX6_loses_62 (by rfl) ?_
        refine r_isub ok dX6_loses_63 ?_
        refine r_iastN ok (by omega) (by omega) dX6_loses_64 md_s (mdw_s _) ?_
        refine r_aload_n ok dX6_loses_65 0 rfl rfl ?_
        refine r_getf ok ci_X6 fl_X6_7 (by decide) dX6_loses_66 md_o rfl ?_
        refine r_iload_n ok dX6_loses_69 3 rfl rfl ?_
        refine r_bipush ok (nI 8) dX6_loses_70 (by rfl) ?_
        refine r_idivN ok (by omega) (by omega) (by omega) dX6_loses_72 ?_
        refine r_iconst ok (nI 5) dX6_loses_73 (by rfl) ?_
        refine r_cS1 ok [.ref (a + 1)] mi_X6_of ml_X6_47 sm_X6_of dX6_loses_74 (c_X6_of K.2.1 G (mdM G M a (upd (zLd s) (147 + 51 * p + (3 + ((zLat s p)))) (((zLd s) (147 + 51 * p + (3 + ((zLat s p))))) - (nI 1))) sA sH sL sI sP sT sG kp ln po wr) N  (((zLat s p)) / 8) 5 ) rfl rfl ⟨Nat.le_of_ble_eq_true rfl, Nat.le_of_ble_eq_true rfl⟩ (Nat.le_of_ble_eq_true rfl) ⟨Nat.zero_le _, Nat.zero_le _⟩ ?_
        refine r_dup2 ok dX6_loses_77 rfl rfl ?_
        refine r_ialdN ok (by omega) (by omega) dX6_loses_78 md_s ?_
        refine r_iconst ok (nI 1) dX6_loses_79 (by rfl) ?_
        refine r_iadd ok dX6_loses_80 ?_
        refine r_iastN ok (by omega) (by omega) dX6_loses_81 md_s (mdw_s _) ?_
        refine r_aload_n ok dX6_loses_82 0 rfl rfl ?_
        refine r_getf ok ci_X6 fl_X6_7 (by decide) dX6_loses_83 md_o rfl ?_
        refine r_bipush ok (nI 13) dX6_loses_86 (by rfl) ?_
        refine r_dup2 ok dX6_loses_88 rfl rfl ?_
        refine r_ialdN ok (by omega) (by omega) dX6_loses_89 md_s ?_
        refine zW.to (st' := [.int ((zLd s) 13), .int (nI 13), .ref (a + 1)]) ?_ rfl rfl (congrArg (fun z => (Value.int z :: [.int (nI 13), .ref (a + 1)] : List Value)) (show (upd (upd (zLd s) (147 + 51 * p + (3 + ((zLat s p)))) (((zLd s) (147 + 51 * p + (3 + ((zLat s p))))) - (nI 1))) (15 + 22 * (((zLat s p)) / 8) + 5) (((upd (zLd s) (147 + 51 * p + (3 + ((zLat s p)))) (((zLd s) (147 + 51 * p + (3 + ((zLat s p))))) - (nI 1))) (15 + 22 * (((zLat s p)) / 8) + 5)) + (nI 1))) 13 = (zLd s) 13 from Eq.trans (pk_un (by omega)) ((pk_un (by omega)))))
        refine r_iconst ok (nI 1) dX6_loses_90 (by rfl) ?_
        refine r_iadd ok dX6_loses_91 ?_
        refine r_iastN ok (by omega) (by omega) dX6_loses_92 md_s (mdw_s _) ?_
        exact r_vret ok dX6_loses_93 rfl ⟨rfl, (by rfl)⟩
      · skip
        exact absurd (zAtF_hit (S := zLd s) (p := p) (l := zDr (zNx (s 10)) (zPcs s p)) (n := 48) (k := 0) (by show zLat s p < 0 + 48; omega)) c25_2
    | succ nL1 ihL1 =>
      intro k hk_k 
      refine r_iload_n ok dX6_loses_12 2 rfl rfl ?_
      refine r_aload_n ok dX6_loses_13 0 rfl rfl ?_
      refine r_getf ok ci_X6 fl_X6_7 (by decide) dX6_loses_14 md_o rfl ?_
      refine r_iload_n ok dX6_loses_17 1 rfl rfl ?_
      refine r_iconst ok (nI 3) dX6_loses_18 (by rfl) ?_
      refine r_iload_n ok dX6_loses_19 3 rfl rfl ?_
      refine r_iaddN ok dX6_loses_20 ?_
      refine r_cS1 ok [.ref (a + 1), .int (zLs (zLd s) p (zDr (zNx (s 10)) (zPcs s p)) k)] mi_X6_ofParcel ml_X6_84 sm_X6_ofParcel dX6_loses_21 (c_X6_ofParcel K.2.1 G (mdM G M a (zLd s) sA sH sL sI sP sT sG kp ln po wr) N  p (3 + k) ) rfl rfl ⟨Nat.le_of_ble_eq_true rfl, Nat.le_of_ble_eq_true rfl⟩ (Nat.le_of_ble_eq_true rfl) ⟨Nat.zero_le _, Nat.zero_le _⟩ ?_
      refine r_ialdN ok (by omega) (by omega) dX6_loses_24 md_s ?_
      refine r_icmp_lt ok 49 dX6_loses_25 (by decide) (fun c25_3 => ?_) (fun c25_3 => ?_)
      · skip
        exact absurd c25_3 (zAtF_miss (S := zLd s) (p := p) (l := zDr (zNx (s 10)) (zPcs s p)) (n := 48) (k := 0) k (Nat.zero_le _) (by show k < zLat s p; omega))
      · skip
        refine r_iload_n ok dX6_loses_28 2 rfl rfl ?_
        refine r_aload_n ok dX6_loses_29 0 rfl rfl ?_
        refine r_getf ok ci_X6 fl_X6_7 (by decide) dX6_loses_30 md_o rfl ?_
        refine r_iload_n ok dX6_loses_33 1 rfl rfl ?_
        refine r_iconst ok (nI 3) dX6_loses_34 (by rfl) ?_
        refine r_iload_n ok dX6_loses_35 3 rfl rfl ?_
        refine r_iaddN ok dX6_loses_36 ?_
        refine r_cS1 ok [.ref (a + 1), .int (zLs (zLd s) p (zDr (zNx (s 10)) (zPcs s p)) k)] mi_X6_ofParcel ml_X6_84 sm_X6_ofParcel dX6_loses_37 (c_X6_ofParcel K.2.1 G (mdM G M a (zLd s) sA sH sL sI sP sT sG kp ln po wr) N  p (3 + k) ) rfl rfl ⟨Nat.le_of_ble_eq_true rfl, Nat.le_of_ble_eq_true rfl⟩ (Nat.le_of_ble_eq_true rfl) ⟨Nat.zero_le _, Nat.zero_le _⟩ ?_
        refine r_ialdN ok (by omega) (by omega) dX6_loses_40 md_s ?_
        refine r_isub ok dX6_loses_41 ?_
        refine r_istore_n ok [(2, .int ((zLs (zLd s) p (zDr (zNx (s 10)) (zPcs s p)) k) - ((zLd s) (147 + 51 * p + (3 + k))))), (0, .ref a), (1, .int (nI (p))), (3, .int (nI (k)))] dX6_loses_42 rfl (by decide) rfl ?_
        refine r_iincN ok (c := 1) [(3, .int (nI (k + 1))), (2, .int ((zLs (zLd s) p (zDr (zNx (s 10)) (zPcs s p)) k) - ((zLd s) (147 + 51 * p + (3 + k))))), (0, .ref a), (1, .int (nI (p)))] dX6_loses_43 3 rfl (by rfl) (by decide) rfl ?_
        refine r_goto ok 12 dX6_loses_46 (by decide) ?_
        have q4 : Value.int ((zLs (zLd s) p (zDr (zNx (s 10)) (zPcs s p)) k) - ((zLd s) (147 + 51 * p + (3 + k)))) = Value.int (zLs (zLd s) p (zDr (zNx (s 10)) (zPcs s p)) (k + 1)) := by first | with_reducible rfl | (rfl)
        refine zW.forget (lv' := [(0, .ref a), (1, .int (nI (p))), (2, .int ((zLs (zLd s) p (zDr (zNx (s 10)) (zPcs s p)) k) - ((zLd s) (147 + 51 * p + (3 + k))))), (3, .int (nI (k + 1)))]) ?_ [2, 3, 1, 0] rfl
        refine zW.to (lv' := [(0, .ref a), (1, .int (nI (p))), (2, .int (zLs (zLd s) p (zDr (zNx (s 10)) (zPcs s p)) (k + 1))), (3, .int (nI (k + 1)))]) ?_ rfl (congrArg (fun z => ([(0, .ref a), (1, .int (nI (p))), (2, z), (3, .int (nI (k + 1)))] : List (Nat × Value))) q4) rfl
        exact ihL1 (k + 1) (by omega)
  have q5 : Value.int (zDr (zNx (s 10)) (zPcs s p)) = Value.int (zLs (zLd s) p (zDr (zNx (s 10)) (zPcs s p)) 0) := by first | with_reducible rfl | (rfl)
  have q6 : (upd s 10 (zNx (s 10)) : Nat → Int32) = zLd s := by first | with_reducible rfl | (rfl)
  refine zW.forget (lv' := [(0, .ref a), (1, .int (nI (p))), (2, .int (zDr (zNx (s 10)) (zPcs s p))), (3, .int (nI 0))]) ?_ [2, 3, 1, 0] rfl
  refine zW.to (lv' := [(0, .ref a), (1, .int (nI (p))), (2, .int (zLs (zLd s) p (zDr (zNx (s 10)) (zPcs s p)) 0)), (3, .int (nI 0))]) ?_ rfl (congrArg (fun z => ([(0, .ref a), (1, .int (nI (p))), (2, z), (3, .int (nI 0))] : List (Nat × Value))) q5) rfl
  refine zW.to ?_ (congrArg (fun z => mdM G M a z sA sH sL sI sP sT sG kp ln po wr) q6) rfl rfl
  exact L1 (zLat s p) 0 (by omega)
set_option maxHeartbeats 4000000 in
set_option maxRecDepth 100000 in
theorem c_X6_comesToCustoms (l : Launch) (G : zG) (M : zM) (N a : Nat) (s sA sH sL : Nat → Int32) (sI : Nat → Bool) (sP sT sG : Nat → Int32) (kp ln po : Int32) (wr : Bool)  (p : Nat) (hp : p < 5) (hz : ¬ zPcs (zCu5 s sT sG p) p = 0) (h48 : zLat (zCu5 s sT sG p) p < 48) : zC l G yX6_comesToCustoms cX6_comesToCustoms 2 (some .boolean) 3 67 0 0 [.ref a, .int (nI (p))] (mdM G M a s sA sH sL sI sP sT sG kp ln po wr) N (zP (some (.int (zb (zCuB s)))) (mdM G M a (zCuS s sT sG p) sA sH sL sI sP (zCuT s sT p) (zCuG s sT sG p) kp ln po wr)) := by
  refine zC.of (by decide +kernel) (Nat.le_of_ble_eq_true rfl) ?_
  intro K hKl ok
  subst hKl
  show zW K G 2 _ 0 0 _ N 0 [(0, .ref a), (1, .int (nI (p)))] []
  refine r_aload_n ok dX6_comesToCustoms_0 0 rfl rfl ?_
  refine r_bipush ok (nI 100) dX6_comesToCustoms_1 (by rfl) ?_
  refine r_cV1 ok [] mi_X6_draw ci_X6 ml_X6_97 im_X6_draw se_X6_draw dX6_comesToCustoms_3 (c_X6_draw K.2.1 G M N a s sA sH sL sI sP sT sG kp ln po wr  (nI 100) (by decide)) md_o rfl rfl ⟨Nat.le_of_ble_eq_true rfl, Nat.le_of_ble_eq_true rfl⟩ (Nat.le_of_ble_eq_true rfl) ⟨Nat.zero_le _, Nat.zero_le _⟩ ?_
  refine r_aload_n ok dX6_comesToCustoms_6 0 rfl rfl ?_
  refine r_getf ok ci_X6 fl_X6_7 (by decide) dX6_comesToCustoms_7 md_o rfl ?_
  refine r_bipush ok (nI 7) dX6_comesToCustoms_10 (by rfl) ?_
  refine r_ialdN ok (by omega) (by omega) dX6_comesToCustoms_12 md_s ?_
  refine zW.to (st' := [.int (s 7), .int (zDr (zNx (s 10)) (nI 100))]) ?_ rfl rfl (congrArg (fun z => (Value.int z :: [.int (zDr (zNx (s 10)) (nI 100))] : List Value)) (show (upd s 10 (zNx (s 10))) 7 = s 7 from (pk_un (by omega))))
  refine r_icmp_lt ok 18 dX6_comesToCustoms_13 (by decide) (fun c13_1 => ?_) (fun c13_1 => ?_)
  · skip
    refine r_aload_n ok dX6_comesToCustoms_18 0 rfl rfl ?_
    refine r_getf ok ci_X6 fl_X6_7 (by decide) dX6_comesToCustoms_19 md_o rfl ?_
    refine r_bipush ok (nI 11) dX6_comesToCustoms_22 (by rfl) ?_
    refine r_dup2 ok dX6_comesToCustoms_24 rfl rfl ?_
    refine r_ialdN ok (by omega) (by omega) dX6_comesToCustoms_25 md_s ?_
    refine zW.to (st' := [.int (s 11), .int (nI 11), .ref (a + 1)]) ?_ rfl rfl (congrArg (fun z => (Value.int z :: [.int (nI 11), .ref (a + 1)] : List Value)) (show (upd s 10 (zNx (s 10))) 11 = s 11 from (pk_un (by omega))))
    refine r_iconst ok (nI 1) dX6_comesToCustoms_26 (by rfl) ?_
    refine r_iadd ok dX6_comesToCustoms_27 ?_
    refine r_iastN ok (by omega) (by omega) dX6_comesToCustoms_28 md_s (mdw_s _) ?_
    refine r_aload_n ok dX6_comesToCustoms_29 0 rfl rfl ?_
    refine r_getf ok ci_X6 fl_X6_7 (by decide) dX6_comesToCustoms_30 md_o rfl ?_
    refine r_iload_n ok dX6_comesToCustoms_33 1 rfl rfl ?_
    refine r_iconst ok (nI 2) dX6_comesToCustoms_34 (by rfl) ?_
    refine r_cS1 ok [.ref (a + 1)] mi_X6_ofParcel ml_X6_84 sm_X6_ofParcel dX6_comesToCustoms_35 (c_X6_ofParcel K.2.1 G (mdM G M a (upd (upd s 10 (zNx (s 10))) 11 ((s 11) + (nI 1))) sA sH sL sI sP sT sG kp ln po wr) N  p 2 ) rfl rfl ⟨Nat.le_of_ble_eq_true rfl, Nat.le_of_ble_eq_true rfl⟩ (Nat.le_of_ble_eq_true rfl) ⟨Nat.zero_le _, Nat.zero_le _⟩ ?_
    refine r_iconst ok (nI 1) dX6_comesToCustoms_38 (by rfl) ?_
    refine r_iastN ok (by omega) (by omega) dX6_comesToCustoms_39 md_s (mdw_s _) ?_
    refine zW.to (M' := mdM G M a (zCu3 s p) sA sH sL sI sP sT sG kp ln po wr) ?_ rfl rfl rfl
    refine r_aload_n ok dX6_comesToCustoms_40 0 rfl rfl ?_
    refine r_iload_n ok dX6_comesToCustoms_41 1 rfl rfl ?_
    refine r_cV0 ok [] mi_X6_paysDuty ci_X6 ml_X6_100 im_X6_paysDuty se_X6_paysDuty dX6_comesToCustoms_42 (c_X6_paysDuty K.2.1 G M N a (zCu3 s p) sA sH sL sI sP sT sG kp ln po wr  p (by omega)) md_o rfl rfl ⟨Nat.le_of_ble_eq_true rfl, Nat.le_of_ble_eq_true rfl⟩ (Nat.le_of_ble_eq_true rfl) ⟨Nat.zero_le _, Nat.zero_le _⟩ ?_
    refine r_aload_n ok dX6_comesToCustoms_45 0 rfl rfl ?_
    refine r_bipush ok (nI 100) dX6_comesToCustoms_46 (by rfl) ?_
    refine r_cV1 ok [] mi_X6_draw ci_X6 ml_X6_97 im_X6_draw se_X6_draw dX6_comesToCustoms_48 (c_X6_draw K.2.1 G M N a (zPd (zCu3 s p) sT sG p) sA sH sL sI sP (zC0 sT (zPrc (zCu3 s p) p) 6) (zPdG (zCu3 s p) sT sG p) kp ln po wr  (nI 100) (by decide)) md_o rfl rfl ⟨Nat.le_of_ble_eq_true rfl, Nat.le_of_ble_eq_true rfl⟩ (Nat.le_of_ble_eq_true rfl) ⟨Nat.zero_le _, Nat.zero_le _⟩ ?_
    rw [zCu5_10]
    refine zW.to (M' := mdM G M a (zCu5 s sT sG p) sA sH sL sI sP (zC0 sT (zPrc (zCu3 s p) p) 6) (zPdG (zCu3 s p) sT sG p) kp ln po wr) ?_ rfl rfl rfl
    refine r_aload_n ok dX6_comesToCustoms_51 0 rfl rfl ?_
    refine r_getf ok ci_X6 fl_X6_7 (by decide) dX6_comesToCustoms_52 md_o rfl ?_
    refine r_bipush ok (nI 8) dX6_comesToCustoms_55 (by rfl) ?_
    refine r_ialdN ok (by omega) (by omega) dX6_comesToCustoms_57 md_s ?_
    refine zW.to (st' := [.int (s 8), .int (zDr (zNx (zNx (s 10))) (nI 100))]) ?_ rfl rfl (congrArg (fun z => (Value.int z :: [.int (zDr (zNx (zNx (s 10))) (nI 100))] : List Value)) (show (zCu5 s sT sG p) 8 = s 8 from (zCu5_lo (by omega) (by omega) (by omega) (by omega))))
    refine r_icmp_ge ok 66 dX6_comesToCustoms_58 (by decide) (fun c58_2 => ?_) (fun c58_2 => ?_)
    · skip
      have nl := Int32.not_lt.mpr c58_2
      refine r_aload_n ok dX6_comesToCustoms_66 0 rfl rfl ?_
      refine r_getf ok ci_X6 fl_X6_7 (by decide) dX6_comesToCustoms_67 md_o rfl ?_
      refine r_iload_n ok dX6_comesToCustoms_70 1 rfl rfl ?_
      refine r_iconst ok (nI 1) dX6_comesToCustoms_71 (by rfl) ?_
      refine r_cS1 ok [.ref (a + 1)] mi_X6_ofParcel ml_X6_84 sm_X6_ofParcel dX6_comesToCustoms_72 (c_X6_ofParcel K.2.1 G (mdM G M a (zCu5 s sT sG p) sA sH sL sI sP (zC0 sT (zPrc (zCu3 s p) p) 6) (zPdG (zCu3 s p) sT sG p) kp ln po wr) N  p 1 ) rfl rfl ⟨Nat.le_of_ble_eq_true rfl, Nat.le_of_ble_eq_true rfl⟩ (Nat.le_of_ble_eq_true rfl) ⟨Nat.zero_le _, Nat.zero_le _⟩ ?_
      refine r_aload_n ok dX6_comesToCustoms_75 0 rfl rfl ?_
      refine r_getf ok ci_X6 fl_X6_7 (by decide) dX6_comesToCustoms_76 md_o rfl ?_
      refine r_bipush ok (nI 9) dX6_comesToCustoms_79 (by rfl) ?_
      refine r_ialdN ok (by omega) (by omega) dX6_comesToCustoms_81 md_s ?_
      refine zW.to (st' := [.int (s 9), .int (nI (147 + 51 * p + 1)), .ref (a + 1)]) ?_ rfl rfl (congrArg (fun z => (Value.int z :: [.int (nI (147 + 51 * p + 1)), .ref (a + 1)] : List Value)) (show (zCu5 s sT sG p) 9 = s 9 from (zCu5_lo (by omega) (by omega) (by omega) (by omega))))
      refine r_aload_n ok dX6_comesToCustoms_82 0 rfl rfl ?_
      refine r_getf ok ci_X6 fl_X6_7 (by decide) dX6_comesToCustoms_83 md_o rfl ?_
      refine r_iconst ok (nI 4) dX6_comesToCustoms_86 (by rfl) ?_
      refine r_ialdN ok (by omega) (by omega) dX6_comesToCustoms_87 md_s ?_
      refine zW.to (st' := [.int (s 4), .int (s 9), .int (nI (147 + 51 * p + 1)), .ref (a + 1)]) ?_ rfl rfl (congrArg (fun z => (Value.int z :: [.int (s 9), .int (nI (147 + 51 * p + 1)), .ref (a + 1)] : List Value)) (show (zCu5 s sT sG p) 4 = s 4 from (zCu5_lo (by omega) (by omega) (by omega) (by omega))))
      refine r_iadd ok dX6_comesToCustoms_88 ?_
      refine r_iastN ok (by omega) (by omega) dX6_comesToCustoms_89 md_s (mdw_s _) ?_
      refine r_aload_n ok dX6_comesToCustoms_90 0 rfl rfl ?_
      refine r_getf ok ci_X6 fl_X6_7 (by decide) dX6_comesToCustoms_91 md_o rfl ?_
      refine r_iconst ok (nI 4) dX6_comesToCustoms_94 (by rfl) ?_
      refine r_ialdN ok (by omega) (by omega) dX6_comesToCustoms_95 md_s ?_
      refine zW.to (st' := [.int (s 4)]) ?_ rfl rfl (congrArg (fun z => (Value.int z :: [] : List Value)) (show (upd (zCu5 s sT sG p) (147 + 51 * p + 1) ((s 9) + (s 4))) 4 = s 4 from Eq.trans (pk_un (by omega)) ((zCu5_lo (by omega) (by omega) (by omega) (by omega)))))
      refine r_if_ne ok 103 dX6_comesToCustoms_96 (by decide) (fun c96_3 => ?_) (fun c96_3 => ?_)
      · skip
        refine r_iconst ok (nI 0) dX6_comesToCustoms_103 (by rfl) ?_
        refine zW.to (st' := [.int (zb false)]) ?_ rfl rfl rfl
        exact r_zret ok dX6_comesToCustoms_104 (zb_n _) rfl ⟨congrArg (fun z => some (Value.int (zb z))) (show false = zCuB s from by simp [zCuB, zCuO, nI_0, *]), (by simp [zCuS, zCuT, zCuG, zCuO, zCu6, zCuL, *])⟩
      · skip
        refine r_iconst ok (nI 1) dX6_comesToCustoms_99 (by rfl) ?_
        refine r_goto ok 104 dX6_comesToCustoms_100 (by decide) ?_
        refine zW.to (st' := [.int (zb true)]) ?_ rfl rfl rfl
        exact r_zret ok dX6_comesToCustoms_104 (zb_n _) rfl ⟨congrArg (fun z => some (Value.int (zb z))) (show true = zCuB s from by simp [zCuB, zCuO, nI_0, *]), (by simp [zCuS, zCuT, zCuG, zCuO, zCu6, zCuL, *])⟩
    · skip
      have nl := Int32.not_le.mp c58_2
      refine r_aload_n ok dX6_comesToCustoms_61 0 rfl rfl ?_
      refine r_iload_n ok dX6_comesToCustoms_62 1 rfl rfl ?_
      refine r_cV0 ok [] mi_X6_loses ci_X6 ml_X6_103 im_X6_loses se_X6_loses dX6_comesToCustoms_63 (c_X6_loses K.2.1 G M N a (zCu5 s sT sG p) sA sH sL sI sP (zC0 sT (zPrc (zCu3 s p) p) 6) (zPdG (zCu3 s p) sT sG p) kp ln po wr  p (by omega) hz (by omega)) md_o rfl rfl ⟨Nat.le_of_ble_eq_true rfl, Nat.le_of_ble_eq_true rfl⟩ (Nat.le_of_ble_eq_true rfl) ⟨Nat.zero_le _, Nat.zero_le _⟩ ?_
      refine r_aload_n ok dX6_comesToCustoms_66 0 rfl rfl ?_
      refine r_getf ok ci_X6 fl_X6_7 (by decide) dX6_comesToCustoms_67 md_o rfl ?_
      refine r_iload_n ok dX6_comesToCustoms_70 1 rfl rfl ?_
      refine r_iconst ok (nI 1) dX6_comesToCustoms_71 (by rfl) ?_
      refine r_cS1 ok [.ref (a + 1)] mi_X6_ofParcel ml_X6_84 sm_X6_ofParcel dX6_comesToCustoms_72 (c_X6_ofParcel K.2.1 G (mdM G M a (zLose (zCu5 s sT sG p) p) sA sH sL sI sP (zC0 sT (zPrc (zCu3 s p) p) 6) (zPdG (zCu3 s p) sT sG p) kp ln po wr) N  p 1 ) rfl rfl ⟨Nat.le_of_ble_eq_true rfl, Nat.le_of_ble_eq_true rfl⟩ (Nat.le_of_ble_eq_true rfl) ⟨Nat.zero_le _, Nat.zero_le _⟩ ?_
      refine r_aload_n ok dX6_comesToCustoms_75 0 rfl rfl ?_
      refine r_getf ok ci_X6 fl_X6_7 (by decide) dX6_comesToCustoms_76 md_o rfl ?_
      refine r_bipush ok (nI 9) dX6_comesToCustoms_79 (by rfl) ?_
      refine r_ialdN ok (by omega) (by omega) dX6_comesToCustoms_81 md_s ?_
      refine zW.to (st' := [.int (s 9), .int (nI (147 + 51 * p + 1)), .ref (a + 1)]) ?_ rfl rfl (congrArg (fun z => (Value.int z :: [.int (nI (147 + 51 * p + 1)), .ref (a + 1)] : List Value)) (show (zLose (zCu5 s sT sG p) p) 9 = s 9 from Eq.trans (zLose_lo (by omega) (by omega) (by omega)) ((zCu5_lo (by omega) (by omega) (by omega) (by omega)))))
      refine r_aload_n ok dX6_comesToCustoms_82 0 rfl rfl ?_
      refine r_getf ok ci_X6 fl_X6_7 (by decide) dX6_comesToCustoms_83 md_o rfl ?_
      refine r_iconst ok (nI 4) dX6_comesToCustoms_86 (by rfl) ?_
      refine r_ialdN ok (by omega) (by omega) dX6_comesToCustoms_87 md_s ?_
      refine zW.to (st' := [.int (s 4), .int (s 9), .int (nI (147 + 51 * p + 1)), .ref (a + 1)]) ?_ rfl rfl (congrArg (fun z => (Value.int z :: [.int (s 9), .int (nI (147 + 51 * p + 1)), .ref (a + 1)] : List Value)) (show (zLose (zCu5 s sT sG p) p) 4 = s 4 from Eq.trans (zLose_lo (by omega) (by omega) (by omega)) ((zCu5_lo (by omega) (by omega) (by omega) (by omega)))))
      refine r_iadd ok dX6_comesToCustoms_88 ?_
      refine r_iastN ok (by omega) (by omega) dX6_comesToCustoms_89 md_s (mdw_s _) ?_
      refine r_aload_n ok dX6_comesToCustoms_90 0 rfl rfl ?_
      refine r_getf ok ci_X6 fl_X6_7 (by decide) dX6_comesToCustoms_91 md_o rfl ?_
      refine r_iconst ok (nI 4) dX6_comesToCustoms_94 (by rfl) ?_
      refine r_ialdN ok (by omega) (by omega) dX6_comesToCustoms_95 md_s ?_
      refine zW.to (st' := [.int (s 4)]) ?_ rfl rfl (congrArg (fun z => (Value.int z :: [] : List Value)) (show (upd (zLose (zCu5 s sT sG p) p) (147 + 51 * p + 1) ((s 9) + (s 4))) 4 = s 4 from Eq.trans (pk_un (by omega)) (Eq.trans (zLose_lo (by omega) (by omega) (by omega)) ((zCu5_lo (by omega) (by omega) (by omega) (by omega))))))
      refine r_if_ne ok 103 dX6_comesToCustoms_96 (by decide) (fun c96_4 => ?_) (fun c96_4 => ?_)
      · skip
        refine r_iconst ok (nI 0) dX6_comesToCustoms_103 (by rfl) ?_
        refine zW.to (st' := [.int (zb false)]) ?_ rfl rfl rfl
        exact r_zret ok dX6_comesToCustoms_104 (zb_n _) rfl ⟨congrArg (fun z => some (Value.int (zb z))) (show false = zCuB s from by simp [zCuB, zCuO, nI_0, *]), (by simp [zCuS, zCuT, zCuG, zCuO, zCu6, zCuL, *])⟩
      · skip
        refine r_iconst ok (nI 1) dX6_comesToCustoms_99 (by rfl) ?_
        refine r_goto ok 104 dX6_comesToCustoms_100 (by decide) ?_
        refine zW.to (st' := [.int (zb true)]) ?_ rfl rfl rfl
        exact r_zret ok dX6_comesToCustoms_104 (zb_n _) rfl ⟨congrArg (fun z => some (Value.int (zb z))) (show true = zCuB s from by simp [zCuB, zCuO, nI_0, *]), (by simp [zCuS, zCuT, zCuG, zCuO, zCu6, zCuL, *])⟩
  · skip
    refine r_iconst ok (nI 1) dX6_comesToCustoms_16 (by rfl) ?_
    refine zW.to (st' := [.int (zb true)]) ?_ rfl rfl rfl
    exact r_zret ok dX6_comesToCustoms_17 (zb_n _) rfl ⟨congrArg (fun z => some (Value.int (zb z))) (show true = zCuB s from by simp [zCuB, zCuO, nI_0, *]), (by simp [zCuS, zCuT, zCuG, zCuO, zCu6, zCuL, *])⟩
set_option maxHeartbeats 4000000 in
set_option maxRecDepth 100000 in
theorem c_X6_bestParting (l : Launch) (G : zG) (M : zM) (N a : Nat) (s sA sH sL : Nat → Int32) (sI : Nat → Bool) (sP sT sG : Nat → Int32) (kp ln po : Int32) (wr : Bool)  (w : Int32)  : zC l G yX6_bestParting cX6_bestParting 4 (some .int) 6 133 0 0 [.ref a, .int (w)] (mdM G M a s sA sH sL sI sP sT sG kp ln po wr) N (zP (some (.int (zE (zDbp w) (zRbp s)))) (mdM G M a s sA sH sL sI sP sT sG kp ln po wr)) := by
  refine zC.of (by decide +kernel) (Nat.le_of_ble_eq_true rfl) ?_
  intro K hKl ok
  subst hKl
  show zW K G 4 _ 0 0 _ N 0 [(0, .ref a), (1, .int (w))] []
  refine r_iload_n ok dX6_bestParting_0 1 rfl rfl ?_
  refine r_iconst ok (nI 0) dX6_bestParting_1 (by rfl) ?_
  refine r_iconst ok (nI 1) dX6_bestParting_2 (by rfl) ?_
  refine r_cS1 ok [] mi_X6_in ml_X6_35 sm_X6_in dX6_bestParting_3 (c_X6_in K.2.1 G (mdM G M a s sA sH sL sI sP sT sG kp ln po wr) N  w (nI 0) (nI 1) ) rfl rfl ⟨Nat.le_of_ble_eq_true rfl, Nat.le_of_ble_eq_true rfl⟩ (Nat.le_of_ble_eq_true rfl) ⟨Nat.zero_le _, Nat.zero_le _⟩ ?_
  refine r_ifneZ ok 12 dX6_bestParting_6 (by decide) (fun c6_1 => ?_) (fun c6_1 => ?_)
  · skip
    have b_w := (zbe_ix w (n := 1) (by omega)).symm.trans c6_1
    obtain ⟨wi, z_w⟩ := Option.isSome_iff_exists.mp b_w
    obtain ⟨h_w, e_w⟩ := zix_some z_w (by omega)
    subst e_w
    refine r_bipush ok (nI 63) dX6_bestParting_12 (by rfl) ?_
    refine r_istore_n ok [(2, .int (nI 63)), (0, .ref a), (1, .int (nI (wi)))] dX6_bestParting_14 rfl (by decide) rfl ?_
    refine r_bipush ok (nI 62) dX6_bestParting_15 (by rfl) ?_
    refine r_istore_n ok [(3, .int (nI 62)), (2, .int (nI 63)), (0, .ref a), (1, .int (nI (wi)))] dX6_bestParting_17 rfl (by decide) rfl ?_
    have L2 : ∀ (nL2 : Nat) (k : Nat), ((k + nL2 = 63)) → zW K G 4 (zQ K G (N + 0) 0 0 (zP (some (.int (zE (zDbp (nI (wi))) (zRbp s)))) (mdM G M a s sA sH sL sI sP sT sG kp ln po wr))) 0 0 (mdM G M a s sA sH sL sI sP sT sG kp ln po wr) N 18 [(0, .ref a), (1, .int (nI (wi))), (2, .int (nI (zBest s k))), (3, .int (nI nL2 - 1))] [] := by
      intro nL2
      induction nL2 with
      | zero =>
        intro k hk_k 
        obtain rfl : 63 = k := by omega
        refine r_iload_n ok dX6_bestParting_18 3 rfl rfl ?_
        refine r_if_lt ok 47 dX6_bestParting_19 (by decide) (fun c19_3 => ?_) (fun c19_3 => ?_)
        · skip
          refine r_iload_n ok dX6_bestParting_47 1 rfl rfl ?_
          refine r_if_neN ok 55 (by omega) dX6_bestParting_48 (by decide) (fun c48_4 => ?_) (fun c48_4 => ?_)
          · skip
            have w0 : ¬ wi = 0 := by omega
            refine r_aload_n ok dX6_bestParting_55 0 rfl rfl ?_
            refine r_iload_n ok dX6_bestParting_56 2 rfl rfl ?_
            refine r_cV1 ok [] mi_X6_parted ci_X6 ml_X6_175 im_X6_parted se_X6_parted dX6_bestParting_57 (c_X6_parted K.2.1 G M N a s sA sH sL sI sP sT sG kp ln po wr  (nI (zBest s 63)) ) md_o rfl rfl ⟨Nat.le_of_ble_eq_true rfl, Nat.le_of_ble_eq_true rfl⟩ (Nat.le_of_ble_eq_true rfl) ⟨Nat.zero_le _, Nat.zero_le _⟩ ?_
            exact r_iret ok dX6_bestParting_60 rfl ⟨congrArg (fun z => some (Value.int z)) (show zPt2 s (nI (zBest s 63)) = zE (zDbp (nI (wi))) (zRbp s) from by simp [zDbp, zRbp, zE, zOb, *]), rfl⟩
          · skip
            obtain rfl : wi = 0 := by omega
            refine r_iload_n ok dX6_bestParting_51 2 rfl rfl ?_
            refine r_goto ok 60 dX6_bestParting_52 (by decide) ?_
            exact r_iret ok dX6_bestParting_60 rfl ⟨congrArg (fun z => some (Value.int z)) (show nI (zBest s 63) = zE (zDbp (nI (0))) (zRbp s) from by simp [zDbp, zRbp, zE, zOb, *]), rfl⟩
        · skip
          exact absurd (by decide +kernel) c19_3
      | succ nL2 ihL2 =>
        intro k hk_k 
        refine zW.to (lv' := [(0, .ref a), (1, .int (nI (wi))), (2, .int (nI (zBest s k))), (3, .int (nI (nL2)))]) ?_ rfl (by rw [nI_pred]) rfl
        have e62 : 62 - k = nL2 := by omega
        have bz := zBest_le s k
        refine r_iload_n ok dX6_bestParting_18 3 rfl rfl ?_
        refine r_if_ltN ok 47 (by omega) dX6_bestParting_19 (by decide) (fun c19_5 => ?_) (fun c19_5 => ?_)
        · skip
          exact c19_5.elim
        · skip
          refine r_aload_n ok dX6_bestParting_22 0 rfl rfl ?_
          refine r_iload_n ok dX6_bestParting_23 3 rfl rfl ?_
          refine r_cV1 ok [] mi_X6_parted ci_X6 ml_X6_175 im_X6_parted se_X6_parted dX6_bestParting_24 (c_X6_parted K.2.1 G M N a s sA sH sL sI sP sT sG kp ln po wr  (nI (nL2)) ) md_o rfl rfl ⟨Nat.le_of_ble_eq_true rfl, Nat.le_of_ble_eq_true rfl⟩ (Nat.le_of_ble_eq_true rfl) ⟨Nat.zero_le _, Nat.zero_le _⟩ ?_
          refine r_aload_n ok dX6_bestParting_27 0 rfl rfl ?_
          refine r_iload_n ok dX6_bestParting_28 2 rfl rfl ?_
          refine r_cV1 ok [.int (zPt2 s (nI (nL2)))] mi_X6_parted ci_X6 ml_X6_175 im_X6_parted se_X6_parted dX6_bestParting_29 (c_X6_parted K.2.1 G M N a s sA sH sL sI sP sT sG kp ln po wr  (nI (zBest s k)) ) md_o rfl rfl ⟨Nat.le_of_ble_eq_true rfl, Nat.le_of_ble_eq_true rfl⟩ (Nat.le_of_ble_eq_true rfl) ⟨Nat.zero_le _, Nat.zero_le _⟩ ?_
          refine r_icmp_gt ok 39 dX6_bestParting_32 (by decide) (fun c32_6 => ?_) (fun c32_6 => ?_)
          · skip
            have nl := Int32.not_le.mpr c32_6
            refine r_iload_n ok dX6_bestParting_39 2 rfl rfl ?_
            refine r_istore_n ok [(2, .int (nI (zBest s k))), (0, .ref a), (1, .int (nI (wi))), (3, .int (nI (nL2)))] dX6_bestParting_40 rfl (by decide) rfl ?_
            refine r_iinc ok ((nI (nL2)) + (-1)) [(3, .int ((nI (nL2)) + (-1))), (2, .int (nI (zBest s k))), (0, .ref a), (1, .int (nI (wi)))] dX6_bestParting_41 3 rfl (by rfl) (by decide) rfl ?_
            refine r_goto ok 18 dX6_bestParting_44 (by decide) ?_
            have q7 : Value.int (nI (zBest s k)) = Value.int (nI (zBest s (k + 1))) := by first | with_reducible rfl | (first | (simp [zBest, *]; done) | exact congrArg Value.int (nI_pm _))
            have q8 : Value.int ((nI (nL2)) + (-1)) = Value.int (nI nL2 - 1) := by first | with_reducible rfl | (first | (simp [zBest, *]; done) | exact congrArg Value.int (nI_pm _))
            refine zW.forget (lv' := [(0, .ref a), (1, .int (nI (wi))), (2, .int (nI (zBest s k))), (3, .int ((nI (nL2)) + (-1)))]) ?_ [2, 3, 1, 0] rfl
            refine zW.to (lv' := [(0, .ref a), (1, .int (nI (wi))), (2, .int (nI (zBest s (k + 1)))), (3, .int ((nI (nL2)) + (-1)))]) ?_ rfl (congrArg (fun z => ([(0, .ref a), (1, .int (nI (wi))), (2, z), (3, .int ((nI (nL2)) + (-1)))] : List (Nat × Value))) q7) rfl
            refine zW.to (lv' := [(0, .ref a), (1, .int (nI (wi))), (2, .int (nI (zBest s (k + 1)))), (3, .int (nI nL2 - 1))]) ?_ rfl (congrArg (fun z => ([(0, .ref a), (1, .int (nI (wi))), (2, .int (nI (zBest s (k + 1)))), (3, z)] : List (Nat × Value))) q8) rfl
            exact ihL2 (k + 1) (by omega)
          · skip
            have nl := Int32.not_lt.mp c32_6
            refine r_iload_n ok dX6_bestParting_35 3 rfl rfl ?_
            refine r_goto ok 40 dX6_bestParting_36 (by decide) ?_
            refine r_istore_n ok [(2, .int (nI (nL2))), (0, .ref a), (1, .int (nI (wi))), (3, .int (nI (nL2)))] dX6_bestParting_40 rfl (by decide) rfl ?_
            refine r_iinc ok ((nI (nL2)) + (-1)) [(3, .int ((nI (nL2)) + (-1))), (2, .int (nI (nL2))), (0, .ref a), (1, .int (nI (wi)))] dX6_bestParting_41 3 rfl (by rfl) (by decide) rfl ?_
            refine r_goto ok 18 dX6_bestParting_44 (by decide) ?_
            have q9 : Value.int (nI (nL2)) = Value.int (nI (zBest s (k + 1))) := by first | with_reducible rfl | (first | (simp [zBest, *]; done) | exact congrArg Value.int (nI_pm _))
            have q10 : Value.int ((nI (nL2)) + (-1)) = Value.int (nI nL2 - 1) := by first | with_reducible rfl | (first | (simp [zBest, *]; done) | exact congrArg Value.int (nI_pm _))
            refine zW.forget (lv' := [(0, .ref a), (1, .int (nI (wi))), (2, .int (nI (nL2))), (3, .int ((nI (nL2)) + (-1)))]) ?_ [2, 3, 1, 0] rfl
            refine zW.to (lv' := [(0, .ref a), (1, .int (nI (wi))), (2, .int (nI (zBest s (k + 1)))), (3, .int ((nI (nL2)) + (-1)))]) ?_ rfl (congrArg (fun z => ([(0, .ref a), (1, .int (nI (wi))), (2, z), (3, .int ((nI (nL2)) + (-1)))] : List (Nat × Value))) q9) rfl
            refine zW.to (lv' := [(0, .ref a), (1, .int (nI (wi))), (2, .int (nI (zBest s (k + 1)))), (3, .int (nI nL2 - 1))]) ?_ rfl (congrArg (fun z => ([(0, .ref a), (1, .int (nI (wi))), (2, .int (nI (zBest s (k + 1)))), (3, z)] : List (Nat × Value))) q10) rfl
            exact ihL2 (k + 1) (by omega)
    have q11 : Value.int (nI 63) = Value.int (nI (zBest s 0)) := by first | with_reducible rfl | (rfl)
    have q12 : Value.int (nI 62) = Value.int (nI 63 - 1) := by first | with_reducible rfl | (rfl)
    refine zW.forget (lv' := [(0, .ref a), (1, .int (nI (wi))), (2, .int (nI 63)), (3, .int (nI 62))]) ?_ [2, 3, 1, 0] rfl
    refine zW.to (lv' := [(0, .ref a), (1, .int (nI (wi))), (2, .int (nI (zBest s 0))), (3, .int (nI 62))]) ?_ rfl (congrArg (fun z => ([(0, .ref a), (1, .int (nI (wi))), (2, z), (3, .int (nI 62))] : List (Nat × Value))) q11) rfl
    refine zW.to (lv' := [(0, .ref a), (1, .int (nI (wi))), (2, .int (nI (zBest s 0))), (3, .int (nI 63 - 1))]) ?_ rfl (congrArg (fun z => ([(0, .ref a), (1, .int (nI (wi))), (2, .int (nI (zBest s 0))), (3, z)] : List (Nat × Value))) q12) rfl
    exact L2 63 0 (by omega)
  · skip
    have b_w := (zbe_ix w (n := 1) (by omega)).symm.trans c6_1
    have n_w : zix w 2 = none := Option.not_isSome_iff_eq_none.mp (by rw [b_w]; decide)
    refine r_ldc ok ck_X6_125 dX6_bestParting_9 ?_
    exact r_iret ok dX6_bestParting_11 rfl ⟨congrArg (fun z => some (Value.int z)) (show -100002 = zE (zDbp w) (zRbp s) from by simp [zDbp, zRbp, zE, zOb, *]), rfl⟩
set_option maxHeartbeats 4000000 in
set_option maxRecDepth 100000 in
theorem c_X6_put (l : Launch) (G : zG) (M : zM) (N a : Nat) (s sA sH sL : Nat → Int32) (sI : Nat → Bool) (sP sT sG : Nat → Int32) (kp ln po : Int32) (wr : Bool) (lnn : Nat) (x : Int64) (hl : lnn ≤ 60) : zC l G yX6_put cX6_put 8 (some .int) 1 22 0 0 [.ref a, .long (x)] (mdM G M a s sA sH sL sI sP sT sG kp (nI lnn) po wr) N (zP (some (.int (zE (zDput x lnn) (fun _ => nI (lnn + zPM x 8))))) (mdM G M a s sA sH sL sI (zU (zDput x lnn) sP (fun _ => zPw sP x lnn (zPM x 8) (zPM x 8))) sT sG kp (nI (zU (zDput x lnn) lnn (fun _ => lnn + zPM x 8))) po wr)) := by
  refine zC.of (by decide +kernel) (Nat.le_of_ble_eq_true rfl) ?_
  intro K hKl ok
  subst hKl
  have h8 := zPM_le x
  show zW K G 8 _ 0 0 _ N 0 [(0, .ref a), (1, .long (x))] []
  refine r_iconst ok (nI 0) dX6_put_0 (by rfl) ?_
  refine r_istore_n ok [(3, .int (nI 0)), (0, .ref a), (1, .long (x))] dX6_put_1 rfl (by decide) rfl ?_
  refine r_iconst ok (nI 0) dX6_put_2 (by rfl) ?_
  refine r_istore ok [(4, .int (nI 0)), (3, .int (nI 0)), (0, .ref a), (1, .long (x))] dX6_put_3 (by decide) rfl ?_
  refine r_iconst ok (nI 0) dX6_put_5 (by rfl) ?_
  refine r_istore ok [(5, .int (nI 0)), (4, .int (nI 0)), (3, .int (nI 0)), (0, .ref a), (1, .long (x))] dX6_put_6 (by decide) rfl ?_
  have L1 : ∀ (nL1 : Nat) (k : Nat), ((k + nL1 = 8)) → zW K G 8 (zQ K G (N + 0) 0 0 (zP (some (.int (zE (zDput x lnn) (fun _ => nI (lnn + zPM x 8))))) (mdM G M a s sA sH sL sI (zU (zDput x lnn) sP (fun _ => zPw sP x lnn (zPM x 8) (zPM x 8))) sT sG kp (nI (zU (zDput x lnn) lnn (fun _ => lnn + zPM x 8))) po wr))) 0 0 (mdM G M a s sA sH sL sI sP sT sG kp (nI lnn) po wr) N 8 [(0, .ref a), (1, .long (x)), (3, .int (nI (zPM x k))), (4, .int (zb (zPB x k))), (5, .int (nI (k)))] [] := by
    intro nL1
    induction nL1 with
    | zero =>
      intro k hk_k 
      obtain rfl : 8 = k := by omega
      refine r_iload ok dX6_put_8 4 rfl ?_
      refine r_bipush ok (nI 8) dX6_put_10 (by rfl) ?_
      refine r_icmp_geN ok 101 (by omega) (by omega) dX6_put_12 (by decide) (fun _ => ?_) (fun c => absurd c (by decide))
      refine r_iload ok dX6_put_101 3 rfl ?_
      refine r_ifeqZ ok 109 dX6_put_103 (by decide) (fun c103_3 => ?_) (fun c103_3 => ?_)
      · skip
        refine r_aload_n ok dX6_put_109 0 rfl rfl ?_
        refine r_getf ok ci_X6 fl_X6_172 (by decide) dX6_put_110 md_o rfl ?_
        refine r_iload_n ok dX6_put_113 2 rfl rfl ?_
        refine r_iaddN ok dX6_put_114 ?_
        refine r_bipush ok (nI 60) dX6_put_115 (by rfl) ?_
        refine r_icmp_leN ok 123 (by omega) (by omega) dX6_put_117 (by decide) (fun c117_4 => ?_) (fun c117_4 => ?_)
        · skip
          refine r_iconst ok (nI 0) dX6_put_123 (by rfl) ?_
          refine r_istore ok [(5, .int (nI 0)), (0, .ref a), (1, .long (x)), (3, .int (nI (zPM x 8))), (4, .int (zb (zPB x 8)))] dX6_put_124 (by decide) rfl ?_
          have L5 : ∀ (nL5 : Nat) (k : Nat), ((k + nL5 = zPM x 8)) → zW K G 8 (zQ K G (N + 0) 0 0 (zP (some (.int (zE (zDput x lnn) (fun _ => nI (lnn + zPM x 8))))) (mdM G M a s sA sH sL sI (zU (zDput x lnn) sP (fun _ => zPw sP x lnn (zPM x 8) (zPM x 8))) sT sG kp (nI (zU (zDput x lnn) lnn (fun _ => lnn + zPM x 8))) po wr))) 0 0 (mdM G M a s sA sH sL sI (zPw sP x lnn (zPM x 8) k) sT sG kp (nI lnn) po wr) N 126 [(0, .ref a), (1, .long (x)), (3, .int (nI (zPM x 8))), (5, .int (nI (k)))] [] := by
            intro nL5
            induction nL5 with
            | zero =>
              intro k hk_k 
              obtain rfl : zPM x 8 = k := by omega
              refine r_iload ok dX6_put_126 3 rfl ?_
              refine r_iload_n ok dX6_put_128 2 rfl rfl ?_
              refine r_icmp_geN ok 166 (by omega) (by omega) dX6_put_129 (by decide) (fun c129_6 => ?_) (fun c129_6 => ?_)
              · skip
                refine r_aload_n ok dX6_put_166 0 rfl rfl ?_
                refine r_dup ok dX6_put_167 rfl ?_
                refine r_getf ok ci_X6 fl_X6_172 (by decide) dX6_put_168 md_o rfl ?_
                refine r_iload_n ok dX6_put_171 2 rfl rfl ?_
                refine r_iaddN ok dX6_put_172 ?_
                refine r_putf ok ci_X6 fl_X6_172 (by decide) rfl rfl rfl dX6_put_173 md_o rfl (mdw_o kp (nI (lnn + (zPM x 8))) po wr) ?_
                refine r_aload_n ok dX6_put_176 0 rfl rfl ?_
                refine r_getf ok ci_X6 fl_X6_172 (by decide) dX6_put_177 md_o rfl ?_
                exact r_iret ok dX6_put_180 rfl ⟨congrArg (fun z => some (Value.int z)) (show nI (lnn + (zPM x 8)) = zE (zDput x lnn) (fun _ => nI (lnn + zPM x 8)) from by simp [zDput, zE, Nat.not_le, *]), (by simp [zDput, zU, Nat.not_le, *])⟩
              · skip
                exact absurd c129_6 (by omega)
            | succ nL5 ihL5 =>
              intro k hk_k 
              refine r_iload ok dX6_put_126 3 rfl ?_
              refine r_iload_n ok dX6_put_128 2 rfl rfl ?_
              refine r_icmp_geN ok 166 (by omega) (by omega) dX6_put_129 (by decide) (fun c129_7 => ?_) (fun c129_7 => ?_)
              · skip
                exact absurd c129_7 (by omega)
              · skip
                refine r_aload_n ok dX6_put_132 0 rfl rfl ?_
                refine r_getf ok ci_X6 fl_X6_26 (by decide) dX6_put_133 md_o rfl ?_
                refine r_aload_n ok dX6_put_136 0 rfl rfl ?_
                refine r_getf ok ci_X6 fl_X6_172 (by decide) dX6_put_137 md_o rfl ?_
                refine r_iload_n ok dX6_put_140 2 rfl rfl ?_
                refine r_iaddN ok dX6_put_141 ?_
                refine r_iconst ok (nI 1) dX6_put_142 (by rfl) ?_
                refine r_isubN ok (by omega) dX6_put_143 ?_
                refine r_iload ok dX6_put_144 3 rfl ?_
                refine r_isubN ok (by omega) dX6_put_146 ?_
                refine r_lload_n ok dX6_put_147 1 rfl rfl ?_
                refine r_bipush ok (nI 8) dX6_put_148 (by rfl) ?_
                refine r_iload ok dX6_put_150 3 rfl ?_
                refine r_imulN ok dX6_put_152 ?_
                refine r_lushr ok dX6_put_153 ?_
                refine r_ldc2 ok cl_X6_185 dX6_put_154 ?_
                refine r_land ok dX6_put_157 ?_
                refine r_l2i ok dX6_put_158 ?_
                refine r_iastN ok (by omega) (by omega) dX6_put_159 md_sP (mdw_sP _) ?_
                refine r_iincN ok (c := 1) [(5, .int (nI (k + 1))), (0, .ref a), (1, .long (x)), (3, .int (nI (zPM x 8)))] dX6_put_160 3 rfl (by rfl) (by decide) rfl ?_
                refine r_goto ok 126 dX6_put_163 (by decide) ?_
                have q8 : (upd (zPw sP x lnn (zPM x 8) k) (((lnn + (zPM x 8)) - 1) - k) ((((x.toUInt64 >>> ((nI (8 * k)).toInt64.toUInt64 &&& Int64.toUInt64 63)).toInt64) &&& 255).toInt32) : Nat → Int32) = zPw sP x lnn (zPM x 8) (k + 1) := by first | with_reducible rfl | (rfl)
                refine zW.forget (lv' := [(0, .ref a), (1, .long (x)), (3, .int (nI (zPM x 8))), (5, .int (nI (k + 1)))]) ?_ [1, 2, 3, 0] rfl
                refine zW.to ?_ (congrArg (fun z => mdM G M a s sA sH sL sI z sT sG kp (nI lnn) po wr) q8) rfl rfl
                exact ihL5 (k + 1) (by omega)
          have q9 : (sP : Nat → Int32) = zPw sP x lnn (zPM x 8) 0 := by first | with_reducible rfl | (rfl)
          refine zW.forget (lv' := [(0, .ref a), (1, .long (x)), (3, .int (nI (zPM x 8))), (5, .int (nI 0))]) ?_ [1, 2, 3, 0] rfl
          refine zW.to ?_ (congrArg (fun z => mdM G M a s sA sH sL sI z sT sG kp (nI lnn) po wr) q9) rfl rfl
          exact L5 (zPM x 8) 0 (by omega)
        · skip
          have nl := Nat.not_le.mpr c117_4
          refine r_ldc ok ck_X6_153 dX6_put_120 ?_
          exact r_iret ok dX6_put_122 rfl ⟨congrArg (fun z => some (Value.int z)) (show -100004 = zE (zDput x lnn) (fun _ => nI (lnn + zPM x 8)) from by simp [zDput, zE, Nat.not_le, *]), (by simp [zDput, zU, Nat.not_le, *])⟩
      · skip
        refine r_ldc ok ck_X6_125 dX6_put_106 ?_
        exact r_iret ok dX6_put_108 rfl ⟨congrArg (fun z => some (Value.int z)) (show -100002 = zE (zDput x lnn) (fun _ => nI (lnn + zPM x 8)) from by simp [zDput, zE, Nat.not_le, *]), (by simp [zDput, zU, Nat.not_le, *])⟩
    | succ nL1 ihL1 =>
      intro k hk_k 
      refine r_iload ok dX6_put_8 4 rfl ?_
      refine r_bipush ok (nI 8) dX6_put_10 (by rfl) ?_
      refine r_icmp_geN ok 101 (by omega) (by omega) dX6_put_12 (by decide) (fun c12_10 => ?_) (fun c12_10 => ?_)
      · skip
        exact absurd c12_10 (by omega)
      · skip
        refine r_lload_n ok dX6_put_15 1 rfl rfl ?_
        refine r_bipush ok (nI 8) dX6_put_16 (by rfl) ?_
        refine r_iload ok dX6_put_18 4 rfl ?_
        refine r_imulN ok dX6_put_20 ?_
        refine r_lushr ok dX6_put_21 ?_
        refine r_ldc2 ok cl_X6_185 dX6_put_22 ?_
        refine r_land ok dX6_put_25 ?_
        refine r_l2i ok dX6_put_26 ?_
        refine r_istore ok [(6, .int ((((x.toUInt64 >>> ((nI (8 * k)).toInt64.toUInt64 &&& Int64.toUInt64 63)).toInt64) &&& 255).toInt32)), (0, .ref a), (1, .long (x)), (3, .int (nI (zPM x k))), (4, .int (zb (zPB x k))), (5, .int (nI (k)))] dX6_put_27 (by decide) rfl ?_
        refine r_iload ok dX6_put_29 5 rfl ?_
        refine r_if_leN ok 50 (by omega) dX6_put_31 (by decide) (fun c31_11 => ?_) (fun c31_11 => ?_)
        · skip
          have e0 : zPE x k = false := by simp [zPE, c31_11]
          clear c31_11
          refine r_iconst ok (nI 0) dX6_put_50 (by rfl) ?_
          refine r_istore ok [(7, .int (nI 0)), (6, .int ((((x.toUInt64 >>> ((nI (8 * k)).toInt64.toUInt64 &&& Int64.toUInt64 63)).toInt64) &&& 255).toInt32)), (0, .ref a), (1, .long (x)), (3, .int (nI (zPM x k))), (4, .int (zb (zPB x k))), (5, .int (nI (k)))] dX6_put_51 (by decide) rfl ?_
          refine r_iload ok dX6_put_53 5 rfl ?_
          refine r_ifneZ ok 75 dX6_put_55 (by decide) (fun c55_12 => ?_) (fun c55_12 => ?_)
          · skip
            refine r_iconst ok (nI 1) dX6_put_75 (by rfl) ?_
            refine r_goto ok 80 dX6_put_76 (by decide) ?_
            refine r_istore ok [(4, .int (nI 1)), (7, .int (nI 0)), (6, .int ((((x.toUInt64 >>> ((nI (8 * k)).toInt64.toUInt64 &&& Int64.toUInt64 63)).toInt64) &&& 255).toInt32)), (0, .ref a), (1, .long (x)), (3, .int (nI (zPM x k))), (5, .int (nI (k)))] dX6_put_80 (by decide) rfl ?_
            refine r_iload_n ok dX6_put_82 5 rfl rfl ?_
            refine r_iload ok dX6_put_83 1 rfl ?_
            refine r_if_eqN ok 92 (by omega) dX6_put_85 (by decide) (fun _ => ?_) (fun c => absurd c (by decide))
            refine r_iconst ok (nI 1) dX6_put_92 (by rfl) ?_
            refine r_iaddN ok dX6_put_93 ?_
            refine r_istore_n ok [(3, .int (nI ((zPM x k) + 1))), (4, .int (nI 1)), (7, .int (nI 0)), (6, .int ((((x.toUInt64 >>> ((nI (8 * k)).toInt64.toUInt64 &&& Int64.toUInt64 63)).toInt64) &&& 255).toInt32)), (0, .ref a), (1, .long (x)), (5, .int (nI (k)))] dX6_put_94 rfl (by decide) rfl ?_
            refine r_iincN ok (c := 1) [(5, .int (nI (k + 1))), (3, .int (nI ((zPM x k) + 1))), (4, .int (nI 1)), (7, .int (nI 0)), (6, .int ((((x.toUInt64 >>> ((nI (8 * k)).toInt64.toUInt64 &&& Int64.toUInt64 63)).toInt64) &&& 255).toInt32)), (0, .ref a), (1, .long (x))] dX6_put_95 6 rfl (by rfl) (by decide) rfl ?_
            refine r_goto ok 8 dX6_put_98 (by decide) ?_
            have q14 : Value.int (nI ((zPM x k) + 1)) = Value.int (nI (zPM x (k + 1))) := by first | with_reducible rfl | (simp [zPB, zPM, zb_t, zb_f, nI_one, nI_0, *])
            have q15 : Value.int (nI 1) = Value.int (zb (zPB x (k + 1))) := by first | with_reducible rfl | (simp [zPB, zPM, zb_t, zb_f, nI_one, nI_0, *])
            refine zW.forget (lv' := [(0, .ref a), (1, .long (x)), (3, .int (nI ((zPM x k) + 1))), (4, .int (nI 1)), (5, .int (nI (k + 1)))]) ?_ [5, 6, 1, 2, 0] rfl
            refine zW.to (lv' := [(0, .ref a), (1, .long (x)), (3, .int (nI (zPM x (k + 1)))), (4, .int (nI 1)), (5, .int (nI (k + 1)))]) ?_ rfl (congrArg (fun z => ([(0, .ref a), (1, .long (x)), (3, z), (4, .int (nI 1)), (5, .int (nI (k + 1)))] : List (Nat × Value))) q14) rfl
            refine zW.to (lv' := [(0, .ref a), (1, .long (x)), (3, .int (nI (zPM x (k + 1)))), (4, .int (zb (zPB x (k + 1)))), (5, .int (nI (k + 1)))]) ?_ rfl (congrArg (fun z => ([(0, .ref a), (1, .long (x)), (3, .int (nI (zPM x (k + 1)))), (4, z), (5, .int (nI (k + 1)))] : List (Nat × Value))) q15) rfl
            exact ihL1 (k + 1) (by omega)
          · skip
            refine r_iload ok dX6_put_58 0 rfl ?_
            refine r_if_neN ok 79 (by omega) dX6_put_60 (by decide) (fun c => absurd c (by decide)) (fun _ => ?_)
            refine r_iload ok dX6_put_63 1 rfl ?_
            refine r_bipush ok (nI 33) dX6_put_65 (by rfl) ?_
            refine r_bipush ok (nI 126) dX6_put_67 (by rfl) ?_
            refine r_cS1 ok [] mi_X6_in ml_X6_35 sm_X6_in dX6_put_69 (c_X6_in K.2.1 G (mdM G M a s sA sH sL sI sP sT sG kp (nI lnn) po wr) N  ((((x.toUInt64 >>> ((nI (8 * k)).toInt64.toUInt64 &&& Int64.toUInt64 63)).toInt64) &&& 255).toInt32) (nI 33) (nI 126) ) rfl rfl ⟨Nat.le_of_ble_eq_true rfl, Nat.le_of_ble_eq_true rfl⟩ (Nat.le_of_ble_eq_true rfl) ⟨Nat.zero_le _, Nat.zero_le _⟩ ?_
            refine r_ifneZ ok 79 dX6_put_72 (by decide) (fun c72_17 => ?_) (fun c72_17 => ?_)
            · skip
              have z72 : zbe (zCh x k) (nI 33) (nI 126) = true := c72_17
              refine r_iconst ok (nI 0) dX6_put_79 (by rfl) ?_
              refine r_istore ok [(4, .int (nI 0)), (7, .int (nI 0)), (6, .int ((((x.toUInt64 >>> ((nI (8 * k)).toInt64.toUInt64 &&& Int64.toUInt64 63)).toInt64) &&& 255).toInt32)), (0, .ref a), (1, .long (x)), (3, .int (nI (zPM x k))), (5, .int (nI (k)))] dX6_put_80 (by decide) rfl ?_
              refine r_iload_n ok dX6_put_82 5 rfl rfl ?_
              refine r_iload ok dX6_put_83 1 rfl ?_
              refine r_if_eqN ok 92 (by omega) dX6_put_85 (by decide) (fun _ => ?_) (fun c => absurd c (by decide))
              refine r_iconst ok (nI 1) dX6_put_92 (by rfl) ?_
              refine r_iaddN ok dX6_put_93 ?_
              refine r_istore_n ok [(3, .int (nI ((zPM x k) + 1))), (4, .int (nI 0)), (7, .int (nI 0)), (6, .int ((((x.toUInt64 >>> ((nI (8 * k)).toInt64.toUInt64 &&& Int64.toUInt64 63)).toInt64) &&& 255).toInt32)), (0, .ref a), (1, .long (x)), (5, .int (nI (k)))] dX6_put_94 rfl (by decide) rfl ?_
              refine r_iincN ok (c := 1) [(5, .int (nI (k + 1))), (3, .int (nI ((zPM x k) + 1))), (4, .int (nI 0)), (7, .int (nI 0)), (6, .int ((((x.toUInt64 >>> ((nI (8 * k)).toInt64.toUInt64 &&& Int64.toUInt64 63)).toInt64) &&& 255).toInt32)), (0, .ref a), (1, .long (x))] dX6_put_95 6 rfl (by rfl) (by decide) rfl ?_
              refine r_goto ok 8 dX6_put_98 (by decide) ?_
              have q19 : Value.int (nI ((zPM x k) + 1)) = Value.int (nI (zPM x (k + 1))) := by first | with_reducible rfl | (simp [zPB, zPM, zb_t, zb_f, nI_one, nI_0, *])
              have q20 : Value.int (nI 0) = Value.int (zb (zPB x (k + 1))) := by first | with_reducible rfl | (simp [zPB, zPM, zb_t, zb_f, nI_one, nI_0, *])
              refine zW.forget (lv' := [(0, .ref a), (1, .long (x)), (3, .int (nI ((zPM x k) + 1))), (4, .int (nI 0)), (5, .int (nI (k + 1)))]) ?_ [5, 6, 1, 2, 0] rfl
              refine zW.to (lv' := [(0, .ref a), (1, .long (x)), (3, .int (nI (zPM x (k + 1)))), (4, .int (nI 0)), (5, .int (nI (k + 1)))]) ?_ rfl (congrArg (fun z => ([(0, .ref a), (1, .long (x)), (3, z), (4, .int (nI 0)), (5, .int (nI (k + 1)))] : List (Nat × Value))) q19) rfl
              refine zW.to (lv' := [(0, .ref a), (1, .long (x)), (3, .int (nI (zPM x (k + 1)))), (4, .int (zb (zPB x (k + 1)))), (5, .int (nI (k + 1)))]) ?_ rfl (congrArg (fun z => ([(0, .ref a), (1, .long (x)), (3, .int (nI (zPM x (k + 1)))), (4, z), (5, .int (nI (k + 1)))] : List (Nat × Value))) q20) rfl
              exact ihL1 (k + 1) (by omega)
            · skip
              have z72 : zbe (zCh x k) (nI 33) (nI 126) = false := c72_17
              refine r_iconst ok (nI 1) dX6_put_75 (by rfl) ?_
              refine r_goto ok 80 dX6_put_76 (by decide) ?_
              refine r_istore ok [(4, .int (nI 1)), (7, .int (nI 0)), (6, .int ((((x.toUInt64 >>> ((nI (8 * k)).toInt64.toUInt64 &&& Int64.toUInt64 63)).toInt64) &&& 255).toInt32)), (0, .ref a), (1, .long (x)), (3, .int (nI (zPM x k))), (5, .int (nI (k)))] dX6_put_80 (by decide) rfl ?_
              refine r_iload_n ok dX6_put_82 5 rfl rfl ?_
              refine r_iload ok dX6_put_83 1 rfl ?_
              refine r_if_eqN ok 92 (by omega) dX6_put_85 (by decide) (fun _ => ?_) (fun c => absurd c (by decide))
              refine r_iconst ok (nI 1) dX6_put_92 (by rfl) ?_
              refine r_iaddN ok dX6_put_93 ?_
              refine r_istore_n ok [(3, .int (nI ((zPM x k) + 1))), (4, .int (nI 1)), (7, .int (nI 0)), (6, .int ((((x.toUInt64 >>> ((nI (8 * k)).toInt64.toUInt64 &&& Int64.toUInt64 63)).toInt64) &&& 255).toInt32)), (0, .ref a), (1, .long (x)), (5, .int (nI (k)))] dX6_put_94 rfl (by decide) rfl ?_
              refine r_iincN ok (c := 1) [(5, .int (nI (k + 1))), (3, .int (nI ((zPM x k) + 1))), (4, .int (nI 1)), (7, .int (nI 0)), (6, .int ((((x.toUInt64 >>> ((nI (8 * k)).toInt64.toUInt64 &&& Int64.toUInt64 63)).toInt64) &&& 255).toInt32)), (0, .ref a), (1, .long (x))] dX6_put_95 6 rfl (by rfl) (by decide) rfl ?_
              refine r_goto ok 8 dX6_put_98 (by decide) ?_
              have q22 : Value.int (nI ((zPM x k) + 1)) = Value.int (nI (zPM x (k + 1))) := by first | with_reducible rfl | (simp [zPB, zPM, zb_t, zb_f, nI_one, nI_0, *])
              have q23 : Value.int (nI 1) = Value.int (zb (zPB x (k + 1))) := by first | with_reducible rfl | (simp [zPB, zPM, zb_t, zb_f, nI_one, nI_0, *])
              refine zW.forget (lv' := [(0, .ref a), (1, .long (x)), (3, .int (nI ((zPM x k) + 1))), (4, .int (nI 1)), (5, .int (nI (k + 1)))]) ?_ [5, 6, 1, 2, 0] rfl
              refine zW.to (lv' := [(0, .ref a), (1, .long (x)), (3, .int (nI (zPM x (k + 1)))), (4, .int (nI 1)), (5, .int (nI (k + 1)))]) ?_ rfl (congrArg (fun z => ([(0, .ref a), (1, .long (x)), (3, z), (4, .int (nI 1)), (5, .int (nI (k + 1)))] : List (Nat × Value))) q22) rfl
              refine zW.to (lv' := [(0, .ref a), (1, .long (x)), (3, .int (nI (zPM x (k + 1)))), (4, .int (zb (zPB x (k + 1)))), (5, .int (nI (k + 1)))]) ?_ rfl (congrArg (fun z => ([(0, .ref a), (1, .long (x)), (3, .int (nI (zPM x (k + 1)))), (4, z), (5, .int (nI (k + 1)))] : List (Nat × Value))) q23) rfl
              exact ihL1 (k + 1) (by omega)
        · skip
          refine r_lload_n ok dX6_put_34 2 rfl rfl ?_
          refine r_bipush ok (nI 8) dX6_put_35 (by rfl) ?_
          refine r_iload ok dX6_put_37 5 rfl ?_
          refine r_imulN ok dX6_put_39 ?_
          refine r_lushr ok dX6_put_40 ?_
          refine r_lconst ok 0 dX6_put_41 (by rfl) ?_
          refine r_lcmp ok dX6_put_42 ?_
          refine r_if_ne ok 50 dX6_put_43 (by decide) (fun c43_24 => ?_) (fun c43_24 => ?_)
          · skip
            have e0 : zPE x k = false := by simp [zPE, zPX, c43_24]
            refine r_iconst ok (nI 0) dX6_put_50 (by rfl) ?_
            refine r_istore ok [(7, .int (nI 0)), (6, .int ((((x.toUInt64 >>> ((nI (8 * k)).toInt64.toUInt64 &&& Int64.toUInt64 63)).toInt64) &&& 255).toInt32)), (0, .ref a), (1, .long (x)), (3, .int (nI (zPM x k))), (4, .int (zb (zPB x k))), (5, .int (nI (k)))] dX6_put_51 (by decide) rfl ?_
            refine r_iload ok dX6_put_53 5 rfl ?_
            refine r_ifneZ ok 75 dX6_put_55 (by decide) (fun c55_25 => ?_) (fun c55_25 => ?_)
            · skip
              refine r_iconst ok (nI 1) dX6_put_75 (by rfl) ?_
              refine r_goto ok 80 dX6_put_76 (by decide) ?_
              refine r_istore ok [(4, .int (nI 1)), (7, .int (nI 0)), (6, .int ((((x.toUInt64 >>> ((nI (8 * k)).toInt64.toUInt64 &&& Int64.toUInt64 63)).toInt64) &&& 255).toInt32)), (0, .ref a), (1, .long (x)), (3, .int (nI (zPM x k))), (5, .int (nI (k)))] dX6_put_80 (by decide) rfl ?_
              refine r_iload_n ok dX6_put_82 5 rfl rfl ?_
              refine r_iload ok dX6_put_83 1 rfl ?_
              refine r_if_eqN ok 92 (by omega) dX6_put_85 (by decide) (fun _ => ?_) (fun c => absurd c (by decide))
              refine r_iconst ok (nI 1) dX6_put_92 (by rfl) ?_
              refine r_iaddN ok dX6_put_93 ?_
              refine r_istore_n ok [(3, .int (nI ((zPM x k) + 1))), (4, .int (nI 1)), (7, .int (nI 0)), (6, .int ((((x.toUInt64 >>> ((nI (8 * k)).toInt64.toUInt64 &&& Int64.toUInt64 63)).toInt64) &&& 255).toInt32)), (0, .ref a), (1, .long (x)), (5, .int (nI (k)))] dX6_put_94 rfl (by decide) rfl ?_
              refine r_iincN ok (c := 1) [(5, .int (nI (k + 1))), (3, .int (nI ((zPM x k) + 1))), (4, .int (nI 1)), (7, .int (nI 0)), (6, .int ((((x.toUInt64 >>> ((nI (8 * k)).toInt64.toUInt64 &&& Int64.toUInt64 63)).toInt64) &&& 255).toInt32)), (0, .ref a), (1, .long (x))] dX6_put_95 6 rfl (by rfl) (by decide) rfl ?_
              refine r_goto ok 8 dX6_put_98 (by decide) ?_
              have q27 : Value.int (nI ((zPM x k) + 1)) = Value.int (nI (zPM x (k + 1))) := by first | with_reducible rfl | (simp [zPB, zPM, zb_t, zb_f, nI_one, nI_0, *])
              have q28 : Value.int (nI 1) = Value.int (zb (zPB x (k + 1))) := by first | with_reducible rfl | (simp [zPB, zPM, zb_t, zb_f, nI_one, nI_0, *])
              refine zW.forget (lv' := [(0, .ref a), (1, .long (x)), (3, .int (nI ((zPM x k) + 1))), (4, .int (nI 1)), (5, .int (nI (k + 1)))]) ?_ [5, 6, 1, 2, 0] rfl
              refine zW.to (lv' := [(0, .ref a), (1, .long (x)), (3, .int (nI (zPM x (k + 1)))), (4, .int (nI 1)), (5, .int (nI (k + 1)))]) ?_ rfl (congrArg (fun z => ([(0, .ref a), (1, .long (x)), (3, z), (4, .int (nI 1)), (5, .int (nI (k + 1)))] : List (Nat × Value))) q27) rfl
              refine zW.to (lv' := [(0, .ref a), (1, .long (x)), (3, .int (nI (zPM x (k + 1)))), (4, .int (zb (zPB x (k + 1)))), (5, .int (nI (k + 1)))]) ?_ rfl (congrArg (fun z => ([(0, .ref a), (1, .long (x)), (3, .int (nI (zPM x (k + 1)))), (4, z), (5, .int (nI (k + 1)))] : List (Nat × Value))) q28) rfl
              exact ihL1 (k + 1) (by omega)
            · skip
              refine r_iload ok dX6_put_58 0 rfl ?_
              refine r_if_neN ok 79 (by omega) dX6_put_60 (by decide) (fun c => absurd c (by decide)) (fun _ => ?_)
              refine r_iload ok dX6_put_63 1 rfl ?_
              refine r_bipush ok (nI 33) dX6_put_65 (by rfl) ?_
              refine r_bipush ok (nI 126) dX6_put_67 (by rfl) ?_
              refine r_cS1 ok [] mi_X6_in ml_X6_35 sm_X6_in dX6_put_69 (c_X6_in K.2.1 G (mdM G M a s sA sH sL sI sP sT sG kp (nI lnn) po wr) N  ((((x.toUInt64 >>> ((nI (8 * k)).toInt64.toUInt64 &&& Int64.toUInt64 63)).toInt64) &&& 255).toInt32) (nI 33) (nI 126) ) rfl rfl ⟨Nat.le_of_ble_eq_true rfl, Nat.le_of_ble_eq_true rfl⟩ (Nat.le_of_ble_eq_true rfl) ⟨Nat.zero_le _, Nat.zero_le _⟩ ?_
              refine r_ifneZ ok 79 dX6_put_72 (by decide) (fun c72_30 => ?_) (fun c72_30 => ?_)
              · skip
                have z72 : zbe (zCh x k) (nI 33) (nI 126) = true := c72_30
                refine r_iconst ok (nI 0) dX6_put_79 (by rfl) ?_
                refine r_istore ok [(4, .int (nI 0)), (7, .int (nI 0)), (6, .int ((((x.toUInt64 >>> ((nI (8 * k)).toInt64.toUInt64 &&& Int64.toUInt64 63)).toInt64) &&& 255).toInt32)), (0, .ref a), (1, .long (x)), (3, .int (nI (zPM x k))), (5, .int (nI (k)))] dX6_put_80 (by decide) rfl ?_
                refine r_iload_n ok dX6_put_82 5 rfl rfl ?_
                refine r_iload ok dX6_put_83 1 rfl ?_
                refine r_if_eqN ok 92 (by omega) dX6_put_85 (by decide) (fun _ => ?_) (fun c => absurd c (by decide))
                refine r_iconst ok (nI 1) dX6_put_92 (by rfl) ?_
                refine r_iaddN ok dX6_put_93 ?_
                refine r_istore_n ok [(3, .int (nI ((zPM x k) + 1))), (4, .int (nI 0)), (7, .int (nI 0)), (6, .int ((((x.toUInt64 >>> ((nI (8 * k)).toInt64.toUInt64 &&& Int64.toUInt64 63)).toInt64) &&& 255).toInt32)), (0, .ref a), (1, .long (x)), (5, .int (nI (k)))] dX6_put_94 rfl (by decide) rfl ?_
                refine r_iincN ok (c := 1) [(5, .int (nI (k + 1))), (3, .int (nI ((zPM x k) + 1))), (4, .int (nI 0)), (7, .int (nI 0)), (6, .int ((((x.toUInt64 >>> ((nI (8 * k)).toInt64.toUInt64 &&& Int64.toUInt64 63)).toInt64) &&& 255).toInt32)), (0, .ref a), (1, .long (x))] dX6_put_95 6 rfl (by rfl) (by decide) rfl ?_
                refine r_goto ok 8 dX6_put_98 (by decide) ?_
                have q32 : Value.int (nI ((zPM x k) + 1)) = Value.int (nI (zPM x (k + 1))) := by first | with_reducible rfl | (simp [zPB, zPM, zb_t, zb_f, nI_one, nI_0, *])
                have q33 : Value.int (nI 0) = Value.int (zb (zPB x (k + 1))) := by first | with_reducible rfl | (simp [zPB, zPM, zb_t, zb_f, nI_one, nI_0, *])
                refine zW.forget (lv' := [(0, .ref a), (1, .long (x)), (3, .int (nI ((zPM x k) + 1))), (4, .int (nI 0)), (5, .int (nI (k + 1)))]) ?_ [5, 6, 1, 2, 0] rfl
                refine zW.to (lv' := [(0, .ref a), (1, .long (x)), (3, .int (nI (zPM x (k + 1)))), (4, .int (nI 0)), (5, .int (nI (k + 1)))]) ?_ rfl (congrArg (fun z => ([(0, .ref a), (1, .long (x)), (3, z), (4, .int (nI 0)), (5, .int (nI (k + 1)))] : List (Nat × Value))) q32) rfl
                refine zW.to (lv' := [(0, .ref a), (1, .long (x)), (3, .int (nI (zPM x (k + 1)))), (4, .int (zb (zPB x (k + 1)))), (5, .int (nI (k + 1)))]) ?_ rfl (congrArg (fun z => ([(0, .ref a), (1, .long (x)), (3, .int (nI (zPM x (k + 1)))), (4, z), (5, .int (nI (k + 1)))] : List (Nat × Value))) q33) rfl
                exact ihL1 (k + 1) (by omega)
              · skip
                have z72 : zbe (zCh x k) (nI 33) (nI 126) = false := c72_30
                refine r_iconst ok (nI 1) dX6_put_75 (by rfl) ?_
                refine r_goto ok 80 dX6_put_76 (by decide) ?_
                refine r_istore ok [(4, .int (nI 1)), (7, .int (nI 0)), (6, .int ((((x.toUInt64 >>> ((nI (8 * k)).toInt64.toUInt64 &&& Int64.toUInt64 63)).toInt64) &&& 255).toInt32)), (0, .ref a), (1, .long (x)), (3, .int (nI (zPM x k))), (5, .int (nI (k)))] dX6_put_80 (by decide) rfl ?_
                refine r_iload_n ok dX6_put_82 5 rfl rfl ?_
                refine r_iload ok dX6_put_83 1 rfl ?_
                refine r_if_eqN ok 92 (by omega) dX6_put_85 (by decide) (fun _ => ?_) (fun c => absurd c (by decide))
                refine r_iconst ok (nI 1) dX6_put_92 (by rfl) ?_
                refine r_iaddN ok dX6_put_93 ?_
                refine r_istore_n ok [(3, .int (nI ((zPM x k) + 1))), (4, .int (nI 1)), (7, .int (nI 0)), (6, .int ((((x.toUInt64 >>> ((nI (8 * k)).toInt64.toUInt64 &&& Int64.toUInt64 63)).toInt64) &&& 255).toInt32)), (0, .ref a), (1, .long (x)), (5, .int (nI (k)))] dX6_put_94 rfl (by decide) rfl ?_
                refine r_iincN ok (c := 1) [(5, .int (nI (k + 1))), (3, .int (nI ((zPM x k) + 1))), (4, .int (nI 1)), (7, .int (nI 0)), (6, .int ((((x.toUInt64 >>> ((nI (8 * k)).toInt64.toUInt64 &&& Int64.toUInt64 63)).toInt64) &&& 255).toInt32)), (0, .ref a), (1, .long (x))] dX6_put_95 6 rfl (by rfl) (by decide) rfl ?_
                refine r_goto ok 8 dX6_put_98 (by decide) ?_
                have q35 : Value.int (nI ((zPM x k) + 1)) = Value.int (nI (zPM x (k + 1))) := by first | with_reducible rfl | (simp [zPB, zPM, zb_t, zb_f, nI_one, nI_0, *])
                have q36 : Value.int (nI 1) = Value.int (zb (zPB x (k + 1))) := by first | with_reducible rfl | (simp [zPB, zPM, zb_t, zb_f, nI_one, nI_0, *])
                refine zW.forget (lv' := [(0, .ref a), (1, .long (x)), (3, .int (nI ((zPM x k) + 1))), (4, .int (nI 1)), (5, .int (nI (k + 1)))]) ?_ [5, 6, 1, 2, 0] rfl
                refine zW.to (lv' := [(0, .ref a), (1, .long (x)), (3, .int (nI (zPM x (k + 1)))), (4, .int (nI 1)), (5, .int (nI (k + 1)))]) ?_ rfl (congrArg (fun z => ([(0, .ref a), (1, .long (x)), (3, z), (4, .int (nI 1)), (5, .int (nI (k + 1)))] : List (Nat × Value))) q35) rfl
                refine zW.to (lv' := [(0, .ref a), (1, .long (x)), (3, .int (nI (zPM x (k + 1)))), (4, .int (zb (zPB x (k + 1)))), (5, .int (nI (k + 1)))]) ?_ rfl (congrArg (fun z => ([(0, .ref a), (1, .long (x)), (3, .int (nI (zPM x (k + 1)))), (4, z), (5, .int (nI (k + 1)))] : List (Nat × Value))) q36) rfl
                exact ihL1 (k + 1) (by omega)
          · skip
            have e0 : zPE x k = true := by simp [zPE, zPX, c43_24]; omega
            refine r_iconst ok (nI 1) dX6_put_46 (by rfl) ?_
            refine r_goto ok 51 dX6_put_47 (by decide) ?_
            refine r_istore ok [(7, .int (nI 1)), (6, .int ((((x.toUInt64 >>> ((nI (8 * k)).toInt64.toUInt64 &&& Int64.toUInt64 63)).toInt64) &&& 255).toInt32)), (0, .ref a), (1, .long (x)), (3, .int (nI (zPM x k))), (4, .int (zb (zPB x k))), (5, .int (nI (k)))] dX6_put_51 (by decide) rfl ?_
            refine r_iload ok dX6_put_53 5 rfl ?_
            refine r_ifneZ ok 75 dX6_put_55 (by decide) (fun c55_37 => ?_) (fun c55_37 => ?_)
            · skip
              refine r_iconst ok (nI 1) dX6_put_75 (by rfl) ?_
              refine r_goto ok 80 dX6_put_76 (by decide) ?_
              refine r_istore ok [(4, .int (nI 1)), (7, .int (nI 1)), (6, .int ((((x.toUInt64 >>> ((nI (8 * k)).toInt64.toUInt64 &&& Int64.toUInt64 63)).toInt64) &&& 255).toInt32)), (0, .ref a), (1, .long (x)), (3, .int (nI (zPM x k))), (5, .int (nI (k)))] dX6_put_80 (by decide) rfl ?_
              refine r_iload_n ok dX6_put_82 5 rfl rfl ?_
              refine r_iload ok dX6_put_83 1 rfl ?_
              refine r_if_eqN ok 92 (by omega) dX6_put_85 (by decide) (fun c => absurd c (by decide)) (fun _ => ?_)
              refine r_iconst ok (nI 0) dX6_put_88 (by rfl) ?_
              refine r_goto ok 93 dX6_put_89 (by decide) ?_
              refine r_iaddN ok dX6_put_93 ?_
              refine r_istore_n ok [(3, .int (nI ((zPM x k) + 0))), (4, .int (nI 1)), (7, .int (nI 1)), (6, .int ((((x.toUInt64 >>> ((nI (8 * k)).toInt64.toUInt64 &&& Int64.toUInt64 63)).toInt64) &&& 255).toInt32)), (0, .ref a), (1, .long (x)), (5, .int (nI (k)))] dX6_put_94 rfl (by decide) rfl ?_
              refine r_iincN ok (c := 1) [(5, .int (nI (k + 1))), (3, .int (nI ((zPM x k) + 0))), (4, .int (nI 1)), (7, .int (nI 1)), (6, .int ((((x.toUInt64 >>> ((nI (8 * k)).toInt64.toUInt64 &&& Int64.toUInt64 63)).toInt64) &&& 255).toInt32)), (0, .ref a), (1, .long (x))] dX6_put_95 6 rfl (by rfl) (by decide) rfl ?_
              refine r_goto ok 8 dX6_put_98 (by decide) ?_
              have q39 : Value.int (nI ((zPM x k) + 0)) = Value.int (nI (zPM x (k + 1))) := by first | with_reducible rfl | (simp [zPB, zPM, zb_t, zb_f, nI_one, nI_0, *])
              have q40 : Value.int (nI 1) = Value.int (zb (zPB x (k + 1))) := by first | with_reducible rfl | (simp [zPB, zPM, zb_t, zb_f, nI_one, nI_0, *])
              refine zW.forget (lv' := [(0, .ref a), (1, .long (x)), (3, .int (nI ((zPM x k) + 0))), (4, .int (nI 1)), (5, .int (nI (k + 1)))]) ?_ [5, 6, 1, 2, 0] rfl
              refine zW.to (lv' := [(0, .ref a), (1, .long (x)), (3, .int (nI (zPM x (k + 1)))), (4, .int (nI 1)), (5, .int (nI (k + 1)))]) ?_ rfl (congrArg (fun z => ([(0, .ref a), (1, .long (x)), (3, z), (4, .int (nI 1)), (5, .int (nI (k + 1)))] : List (Nat × Value))) q39) rfl
              refine zW.to (lv' := [(0, .ref a), (1, .long (x)), (3, .int (nI (zPM x (k + 1)))), (4, .int (zb (zPB x (k + 1)))), (5, .int (nI (k + 1)))]) ?_ rfl (congrArg (fun z => ([(0, .ref a), (1, .long (x)), (3, .int (nI (zPM x (k + 1)))), (4, z), (5, .int (nI (k + 1)))] : List (Nat × Value))) q40) rfl
              exact ihL1 (k + 1) (by omega)
            · skip
              refine r_iload ok dX6_put_58 0 rfl ?_
              refine r_if_neN ok 79 (by omega) dX6_put_60 (by decide) (fun _ => ?_) (fun c => absurd c (by decide))
              refine r_iconst ok (nI 0) dX6_put_79 (by rfl) ?_
              refine r_istore ok [(4, .int (nI 0)), (7, .int (nI 1)), (6, .int ((((x.toUInt64 >>> ((nI (8 * k)).toInt64.toUInt64 &&& Int64.toUInt64 63)).toInt64) &&& 255).toInt32)), (0, .ref a), (1, .long (x)), (3, .int (nI (zPM x k))), (5, .int (nI (k)))] dX6_put_80 (by decide) rfl ?_
              refine r_iload_n ok dX6_put_82 5 rfl rfl ?_
              refine r_iload ok dX6_put_83 1 rfl ?_
              refine r_if_eqN ok 92 (by omega) dX6_put_85 (by decide) (fun c => absurd c (by decide)) (fun _ => ?_)
              refine r_iconst ok (nI 0) dX6_put_88 (by rfl) ?_
              refine r_goto ok 93 dX6_put_89 (by decide) ?_
              refine r_iaddN ok dX6_put_93 ?_
              refine r_istore_n ok [(3, .int (nI ((zPM x k) + 0))), (4, .int (nI 0)), (7, .int (nI 1)), (6, .int ((((x.toUInt64 >>> ((nI (8 * k)).toInt64.toUInt64 &&& Int64.toUInt64 63)).toInt64) &&& 255).toInt32)), (0, .ref a), (1, .long (x)), (5, .int (nI (k)))] dX6_put_94 rfl (by decide) rfl ?_
              refine r_iincN ok (c := 1) [(5, .int (nI (k + 1))), (3, .int (nI ((zPM x k) + 0))), (4, .int (nI 0)), (7, .int (nI 1)), (6, .int ((((x.toUInt64 >>> ((nI (8 * k)).toInt64.toUInt64 &&& Int64.toUInt64 63)).toInt64) &&& 255).toInt32)), (0, .ref a), (1, .long (x))] dX6_put_95 6 rfl (by rfl) (by decide) rfl ?_
              refine r_goto ok 8 dX6_put_98 (by decide) ?_
              have q43 : Value.int (nI ((zPM x k) + 0)) = Value.int (nI (zPM x (k + 1))) := by first | with_reducible rfl | (simp [zPB, zPM, zb_t, zb_f, nI_one, nI_0, *])
              have q44 : Value.int (nI 0) = Value.int (zb (zPB x (k + 1))) := by first | with_reducible rfl | (simp [zPB, zPM, zb_t, zb_f, nI_one, nI_0, *])
              refine zW.forget (lv' := [(0, .ref a), (1, .long (x)), (3, .int (nI ((zPM x k) + 0))), (4, .int (nI 0)), (5, .int (nI (k + 1)))]) ?_ [5, 6, 1, 2, 0] rfl
              refine zW.to (lv' := [(0, .ref a), (1, .long (x)), (3, .int (nI (zPM x (k + 1)))), (4, .int (nI 0)), (5, .int (nI (k + 1)))]) ?_ rfl (congrArg (fun z => ([(0, .ref a), (1, .long (x)), (3, z), (4, .int (nI 0)), (5, .int (nI (k + 1)))] : List (Nat × Value))) q43) rfl
              refine zW.to (lv' := [(0, .ref a), (1, .long (x)), (3, .int (nI (zPM x (k + 1)))), (4, .int (zb (zPB x (k + 1)))), (5, .int (nI (k + 1)))]) ?_ rfl (congrArg (fun z => ([(0, .ref a), (1, .long (x)), (3, .int (nI (zPM x (k + 1)))), (4, z), (5, .int (nI (k + 1)))] : List (Nat × Value))) q44) rfl
              exact ihL1 (k + 1) (by omega)
  have q45 : Value.int (nI 0) = Value.int (nI (zPM x 0)) := by first | with_reducible rfl | (rfl)
  have q46 : Value.int (nI 0) = Value.int (zb (zPB x 0)) := by first | with_reducible rfl | (rfl)
  refine zW.forget (lv' := [(0, .ref a), (1, .long (x)), (3, .int (nI 0)), (4, .int (nI 0)), (5, .int (nI 0))]) ?_ [3, 4, 2, 1, 0] rfl
  refine zW.to (lv' := [(0, .ref a), (1, .long (x)), (3, .int (nI (zPM x 0))), (4, .int (nI 0)), (5, .int (nI 0))]) ?_ rfl (congrArg (fun z => ([(0, .ref a), (1, .long (x)), (3, z), (4, .int (nI 0)), (5, .int (nI 0))] : List (Nat × Value))) q45) rfl
  refine zW.to (lv' := [(0, .ref a), (1, .long (x)), (3, .int (nI (zPM x 0))), (4, .int (zb (zPB x 0))), (5, .int (nI 0))]) ?_ rfl (congrArg (fun z => ([(0, .ref a), (1, .long (x)), (3, .int (nI (zPM x 0))), (4, z), (5, .int (nI 0))] : List (Nat × Value))) q46) rfl
  exact L1 8 0 (by omega)
