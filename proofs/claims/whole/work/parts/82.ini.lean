/-! the constructors -/
def zRow0 : Nat → Int32 := (upd (upd (upd (upd (upd (upd (upd (upd (upd (upd (fun _ => 0) 0 (nI 5)) 1 (nI 20)) 2 (nI 1)) 3 (nI 5)) 4 (nI 7)) 5 (nI 100)) 6 (nI 20)) 7 (nI 50)) 8 (nI 20)) 10 (nI 1))
theorem zTm_blk {G : zG} {M F : zM} {N ci K : Nat} {fs : List Value} (hK : 0 < K) (h0 : F (N + K) = some (zR (G.2.1 3) 6 (zRef6 (N + K + 1)))) (h1 : ∀ m, m < 6 → F (N + K + 1 + m) = some (zI (G.2.1 0) 8 (fun _ => 0))) : zTm G (zX M N ci fs F K) (N + K) = zX M N ci fs F (K + 7) := by
  refine zX_blk hK (fun q a1 a2 => ?_) (fun q hq => ?_)
  · rcases Nat.eq_or_lt_of_le a1 with h | h
    · subst h
      unfold zTm tbM
      rw [if_neg (by omega), zu_self, h0]
    · unfold zTm tbM
      rw [if_pos (by omega)]
      obtain ⟨m, rfl⟩ : ∃ m, q = N + K + 1 + m := ⟨q - (N + K + 1), by omega⟩
      exact (h1 m (by omega)).symm
  · unfold zTm tbM
    rw [if_neg (by omega), zu_ne _ _ (by omega)]
theorem c_X4_init (l : Launch) (G : zG) (M : zM) (N : Nat) : zC l G yX4_init cX4_init 1 none 1 12 2 12 [.ref N] (zu M N (zO 4 [.null, .null])) (N + 1) (zP none (shM G M N (fun _ => 0) (fun _ => 0))) := by
  refine zC.of (by decide +kernel) (Nat.le_of_ble_eq_true rfl) ?_
  intro K hKl ok
  subst hKl
  show zW K G 1 _ 0 0 _ _ 0 [(0, .ref N)] []
  refine zW.to (M' := zX M N 4 [.null, .null] (shM G M N (fun _ => 0) (fun _ => 0)) 1) ?_ zX_1 rfl rfl
  refine r_aload_n ok dX4_init_0 0 rfl rfl ?_
  refine r_oinit ok ml_X4_3 dX4_init_1 (Nat.le_of_ble_eq_true rfl) (Nat.le_of_ble_eq_true rfl) ?_
  refine r_aload_n ok dX4_init_4 0 rfl rfl ?_
  refine r_bipush ok (nI 6) dX4_init_5 (by rfl) ?_
  refine r_newaI ok (by omega) ⟨Nat.le_of_ble_eq_true rfl, Nat.le_of_ble_eq_true rfl⟩ dX4_init_7 ?_
  refine zW.to (M' := zX M N 4 [.null, .null] (shM G M N (fun _ => 0) (fun _ => 0)) 2) ?_ (zX_s (by omega) (sh_p)) rfl rfl
  refine zPut ok ci_X4 fl_X4_9 (by decide) (Or.inr ⟨rfl, rfl⟩) rfl rfl rfl dX4_init_9 zX_o ?_
  refine zW.to (M' := zX M N 4 [.ref (N + 1), .null] (shM G M N (fun _ => 0) (fun _ => 0)) 2) ?_ zX_w rfl rfl
  refine r_aload_n ok dX4_init_12 0 rfl rfl ?_
  refine r_bipush ok (nI 6) dX4_init_13 (by rfl) ?_
  refine r_newaI ok (by omega) ⟨Nat.le_of_ble_eq_true rfl, Nat.le_of_ble_eq_true rfl⟩ dX4_init_15 ?_
  refine zW.to (M' := zX M N 4 [.ref (N + 1), .null] (shM G M N (fun _ => 0) (fun _ => 0)) 3) ?_ (zX_s (by omega) (sh_s)) rfl rfl
  refine zPut ok ci_X4 fl_X4_15 (by decide) (Or.inr ⟨rfl, rfl⟩) rfl rfl rfl dX4_init_17 zX_o ?_
  refine zW.to (M' := zX M N 4 [.ref (N + 1), .ref (N + 2)] (shM G M N (fun _ => 0) (fun _ => 0)) 3) ?_ zX_w rfl rfl
  exact r_vret ok dX4_init_20 rfl ⟨rfl, zX_end (sh_o) (fun q hq => sh_out hq)⟩
theorem c_X2_init (l : Launch) (G : zG) (M : zM) (N : Nat) : zC l G yX2_init cX2_init 1 none 1 12 1 60 [.ref N] (zu M N (zO 2 [.null, .int 0])) (N + 1) (zP none (pdM G M N (fun _ => 0) 0)) := by
  refine zC.of (by decide +kernel) (Nat.le_of_ble_eq_true rfl) ?_
  intro K hKl ok
  subst hKl
  show zW K G 1 _ 0 0 _ _ 0 [(0, .ref N)] []
  refine zW.to (M' := zX M N 2 [.null, .int 0] (pdM G M N (fun _ => 0) 0) 1) ?_ zX_1 rfl rfl
  refine r_aload_n ok dX2_init_0 0 rfl rfl ?_
  refine r_oinit ok ml_X2_3 dX2_init_1 (Nat.le_of_ble_eq_true rfl) (Nat.le_of_ble_eq_true rfl) ?_
  refine r_aload_n ok dX2_init_4 0 rfl rfl ?_
  refine r_bipush ok (nI 60) dX2_init_5 (by rfl) ?_
  refine r_newaC ok (by omega) ⟨Nat.le_of_ble_eq_true rfl, Nat.le_of_ble_eq_true rfl⟩ dX2_init_7 ?_
  refine zW.to (M' := zX M N 2 [.null, .int 0] (pdM G M N (fun _ => 0) 0) 2) ?_ (zX_s (by omega) (pd_s)) rfl rfl
  refine zPut ok ci_X2 fl_X2_11 (by decide) (Or.inr ⟨rfl, rfl⟩) rfl rfl rfl dX2_init_9 zX_o ?_
  refine zW.to (M' := zX M N 2 [.ref (N + 1), .int 0] (pdM G M N (fun _ => 0) 0) 2) ?_ zX_w rfl rfl
  exact r_vret ok dX2_init_12 rfl ⟨rfl, zX_end (pd_o) (fun q hq => pd_out hq)⟩
theorem c_X3_init (l : Launch) (G : zG) (M : zM) (N : Nat) : zC l G yX3_init cX3_init 1 none 1 12 7 54 [.ref N] (zu M N (zO 3 [.null, .int 0, .int 0, .int 0])) (N + 1) (zP none (pcM G M N (fun _ _ => 0) 0 0 false)) := by
  refine zC.of (by decide +kernel) (Nat.le_of_ble_eq_true rfl) ?_
  intro K hKl ok
  subst hKl
  show zW K G 1 _ 0 0 _ _ 0 [(0, .ref N)] []
  refine zW.to (M' := zX M N 3 [.null, .int 0, .int 0, .int 0] (pcM G M N (fun _ _ => 0) 0 0 false) 1) ?_ zX_1 rfl rfl
  refine r_aload_n ok dX3_init_0 0 rfl rfl ?_
  refine r_oinit ok ml_X3_3 dX3_init_1 (Nat.le_of_ble_eq_true rfl) (Nat.le_of_ble_eq_true rfl) ?_
  refine r_aload_n ok dX3_init_4 0 rfl rfl ?_
  refine r_bipush ok (nI 6) dX3_init_5 (by rfl) ?_
  refine r_bipush ok (nI 8) dX3_init_7 (by rfl) ?_
  refine r_mna ok kl_X3_9 ⟨Nat.le_of_ble_eq_true rfl, Nat.le_of_ble_eq_true rfl⟩ dX3_init_9 ?_
  refine zW.to (M' := zX M N 3 [.null, .int 0, .int 0, .int 0] (pcM G M N (fun _ _ => 0) 0 0 false) 8) ?_ (zTm_blk (by omega) pc_c (fun m hm => pc_r hm)) rfl rfl
  refine zPut ok ci_X3 fl_X3_11 (by decide) (Or.inr ⟨rfl, rfl⟩) rfl rfl rfl dX3_init_13 zX_o ?_
  refine zW.to (M' := zX M N 3 [.ref (N + 1), .int 0, .int 0, .int 0] (pcM G M N (fun _ _ => 0) 0 0 false) 8) ?_ zX_w rfl rfl
  exact r_vret ok dX3_init_16 rfl ⟨rfl, zX_end (pc_o) (fun q hq => pc_out hq)⟩
theorem c_X1_init (l : Launch) (G : zG) (M : zM) (N : Nat) : zC l G yX1_init cX1_init 1 none 2 32 5 30 [.ref N] (zu M N (zO 1 [.null, .null, .int 0, .int 0, .int 0, .null])) (N + 1) (zP none (odM G M N (fun _ => 0) (fun _ => 0) 0 0 0 (fun _ => 0) (fun _ => 0))) := by
  refine zC.of (by decide +kernel) (Nat.le_of_ble_eq_true rfl) ?_
  intro K hKl ok
  subst hKl
  show zW K G 1 _ 0 0 _ _ 0 [(0, .ref N)] []
  refine zW.to (M' := zX M N 1 [.null, .null, .int 0, .int 0, .int 0, .null] (odM G M N (fun _ => 0) (fun _ => 0) 0 0 0 (fun _ => 0) (fun _ => 0)) 1) ?_ zX_1 rfl rfl
  refine r_aload_n ok dX1_init_0 0 rfl rfl ?_
  refine r_oinit ok ml_X1_3 dX1_init_1 (Nat.le_of_ble_eq_true rfl) (Nat.le_of_ble_eq_true rfl) ?_
  refine r_aload_n ok dX1_init_4 0 rfl rfl ?_
  refine r_bipush ok (nI 8) dX1_init_5 (by rfl) ?_
  refine r_newaI ok (by omega) ⟨Nat.le_of_ble_eq_true rfl, Nat.le_of_ble_eq_true rfl⟩ dX1_init_7 ?_
  refine zW.to (M' := zX M N 1 [.null, .null, .int 0, .int 0, .int 0, .null] (odM G M N (fun _ => 0) (fun _ => 0) 0 0 0 (fun _ => 0) (fun _ => 0)) 2) ?_ (zX_s (by omega) (od_g)) rfl rfl
  refine zPut ok ci_X1 fl_X1_9 (by decide) (Or.inr ⟨rfl, rfl⟩) rfl rfl rfl dX1_init_9 zX_o ?_
  refine zW.to (M' := zX M N 1 [.ref (N + 1), .null, .int 0, .int 0, .int 0, .null] (odM G M N (fun _ => 0) (fun _ => 0) 0 0 0 (fun _ => 0) (fun _ => 0)) 2) ?_ zX_w rfl rfl
  refine r_aload_n ok dX1_init_12 0 rfl rfl ?_
  refine r_bipush ok (nI 8) dX1_init_13 (by rfl) ?_
  refine r_newaI ok (by omega) ⟨Nat.le_of_ble_eq_true rfl, Nat.le_of_ble_eq_true rfl⟩ dX1_init_15 ?_
  refine zW.to (M' := zX M N 1 [.ref (N + 1), .null, .int 0, .int 0, .int 0, .null] (odM G M N (fun _ => 0) (fun _ => 0) 0 0 0 (fun _ => 0) (fun _ => 0)) 3) ?_ (zX_s (by omega) (od_p)) rfl rfl
  refine zPut ok ci_X1 fl_X1_15 (by decide) (Or.inr ⟨rfl, rfl⟩) rfl rfl rfl dX1_init_17 zX_o ?_
  refine zW.to (M' := zX M N 1 [.ref (N + 1), .ref (N + 2), .int 0, .int 0, .int 0, .null] (odM G M N (fun _ => 0) (fun _ => 0) 0 0 0 (fun _ => 0) (fun _ => 0)) 3) ?_ zX_w rfl rfl
  refine r_aload_n ok dX1_init_20 0 rfl rfl ?_
  refine r_new ok ci_X4 kl_X1_18 ia_X4 in_X4 [.null, .null] (fun j hj => by have h : j = 0 ∨ j = 1 := by omega
                                                                            rcases h with rfl | rfl <;> rfl) ⟨Nat.le_of_ble_eq_true rfl, Nat.le_of_ble_eq_true rfl⟩ dX1_init_21 ?_
  refine r_dup ok dX1_init_24 rfl ?_
  refine r_cIN ok mi_X4_init mn_X1_20 im_X4_init rfl dX1_init_25 (c_X4_init K.2.1 G _ _) ⟨Nat.le_of_ble_eq_true rfl, Nat.le_of_ble_eq_true rfl⟩ (Nat.le_of_ble_eq_true rfl) ⟨Nat.le_of_ble_eq_true rfl, Nat.le_of_ble_eq_true rfl⟩ ?_
  refine zW.to (M' := zX M N 1 [.ref (N + 1), .ref (N + 2), .int 0, .int 0, .int 0, .null] (odM G M N (fun _ => 0) (fun _ => 0) 0 0 0 (fun _ => 0) (fun _ => 0)) 6) ?_ (zX_blk (k := 3) (by omega) (fun q h1 h2 => by have h : q = N + 3 ∨ q = N + 3 + 1 ∨ q = N + 3 + 2 := by omega
                                                                                      rcases h with rfl | rfl | rfl
                                                                                      · exact sh_o.trans od_h.symm
                                                                                      · exact sh_p.trans od_t.symm
                                                                                      · exact sh_s.trans od_s.symm) (fun q hq => sh_out hq)) rfl rfl
  refine zPut ok ci_X1 fl_X1_21 (by decide) (Or.inr ⟨rfl, rfl⟩) rfl rfl rfl dX1_init_28 zX_o ?_
  refine zW.to (M' := zX M N 1 [.ref (N + 1), .ref (N + 2), .int 0, .int 0, .int 0, .ref (N + 3)] (odM G M N (fun _ => 0) (fun _ => 0) 0 0 0 (fun _ => 0) (fun _ => 0)) 6) ?_ zX_w rfl rfl
  exact r_vret ok dX1_init_31 rfl ⟨rfl, zX_end (od_o) (fun q hq => od_out hq)⟩
theorem c_X6_init (l : Launch) (G : zG) (M : zM) (N : Nat) : zC l G yX6_init cX6_init 1 none 1 12 8 4094 [.ref N] (zu M N (zO 6 [.null, .null, .null, .int 0, .null, .null, .null, .int 0, .null, .null, .int 0, .int 0])) (N + 1) (zP none (mdM G M N zRow0 (fun _ => 0) (fun _ => 0) (fun _ => 0) (fun _ => false) (fun _ => 0) (fun _ => 0) (fun _ => 0) 0 0 0 false)) := by
  refine zC.of (by decide +kernel) (Nat.le_of_ble_eq_true rfl) ?_
  intro K hKl ok
  subst hKl
  show zW K G 1 _ 0 0 _ _ 0 [(0, .ref N)] []
  refine zW.to (M' := zX M N 6 [.null, .null, .null, .int 0, .null, .null, .null, .int 0, .null, .null, .int 0, .int 0] (mdM G M N (fun _ => 0) (fun _ => 0) (fun _ => 0) (fun _ => 0) (fun _ => false) (fun _ => 0) (fun _ => 0) (fun _ => 0) 0 0 0 false) 1) ?_ zX_1 rfl rfl
  refine r_aload_n ok dX6_init_0 0 rfl rfl ?_
  refine r_oinit ok ml_X6_1 dX6_init_1 (Nat.le_of_ble_eq_true rfl) (Nat.le_of_ble_eq_true rfl) ?_
  refine r_aload_n ok dX6_init_4 0 rfl rfl ?_
  refine r_sipush ok (nI 402) dX6_init_5 (by rfl) ?_
  refine r_newaI ok (by omega) ⟨Nat.le_of_ble_eq_true rfl, Nat.le_of_ble_eq_true rfl⟩ dX6_init_8 ?_
  refine zW.to (M' := zX M N 6 [.null, .null, .null, .int 0, .null, .null, .null, .int 0, .null, .null, .int 0, .int 0] (mdM G M N (fun _ => 0) (fun _ => 0) (fun _ => 0) (fun _ => 0) (fun _ => false) (fun _ => 0) (fun _ => 0) (fun _ => 0) 0 0 0 false) 2) ?_ (zX_s (by omega) (md_s)) rfl rfl
  refine zPut ok ci_X6 fl_X6_7 (by decide) (Or.inr ⟨rfl, rfl⟩) rfl rfl rfl dX6_init_10 zX_o ?_
  refine zW.to (M' := zX M N 6 [.ref (N + 1), .null, .null, .int 0, .null, .null, .null, .int 0, .null, .null, .int 0, .int 0] (mdM G M N (fun _ => 0) (fun _ => 0) (fun _ => 0) (fun _ => 0) (fun _ => false) (fun _ => 0) (fun _ => 0) (fun _ => 0) 0 0 0 false) 2) ?_ zX_w rfl rfl
  refine r_aload_n ok dX6_init_13 0 rfl rfl ?_
  refine r_sipush ok (nI 402) dX6_init_14 (by rfl) ?_
  refine r_newaI ok (by omega) ⟨Nat.le_of_ble_eq_true rfl, Nat.le_of_ble_eq_true rfl⟩ dX6_init_17 ?_
  refine zW.to (M' := zX M N 6 [.ref (N + 1), .null, .null, .int 0, .null, .null, .null, .int 0, .null, .null, .int 0, .int 0] (mdM G M N (fun _ => 0) (fun _ => 0) (fun _ => 0) (fun _ => 0) (fun _ => false) (fun _ => 0) (fun _ => 0) (fun _ => 0) 0 0 0 false) 3) ?_ (zX_s (by omega) (md_sA)) rfl rfl
  refine zPut ok ci_X6 fl_X6_13 (by decide) (Or.inr ⟨rfl, rfl⟩) rfl rfl rfl dX6_init_19 zX_o ?_
  refine zW.to (M' := zX M N 6 [.ref (N + 1), .ref (N + 2), .null, .int 0, .null, .null, .null, .int 0, .null, .null, .int 0, .int 0] (mdM G M N (fun _ => 0) (fun _ => 0) (fun _ => 0) (fun _ => 0) (fun _ => false) (fun _ => 0) (fun _ => 0) (fun _ => 0) 0 0 0 false) 3) ?_ zX_w rfl rfl
  refine r_aload_n ok dX6_init_22 0 rfl rfl ?_
  refine r_sipush ok (nI 2412) dX6_init_23 (by rfl) ?_
  refine r_newaI ok (by omega) ⟨Nat.le_of_ble_eq_true rfl, Nat.le_of_ble_eq_true rfl⟩ dX6_init_26 ?_
  refine zW.to (M' := zX M N 6 [.ref (N + 1), .ref (N + 2), .null, .int 0, .null, .null, .null, .int 0, .null, .null, .int 0, .int 0] (mdM G M N (fun _ => 0) (fun _ => 0) (fun _ => 0) (fun _ => 0) (fun _ => false) (fun _ => 0) (fun _ => 0) (fun _ => 0) 0 0 0 false) 4) ?_ (zX_s (by omega) (md_sH)) rfl rfl
  refine zPut ok ci_X6 fl_X6_16 (by decide) (Or.inr ⟨rfl, rfl⟩) rfl rfl rfl dX6_init_28 zX_o ?_
  refine zW.to (M' := zX M N 6 [.ref (N + 1), .ref (N + 2), .ref (N + 3), .int 0, .null, .null, .null, .int 0, .null, .null, .int 0, .int 0] (mdM G M N (fun _ => 0) (fun _ => 0) (fun _ => 0) (fun _ => 0) (fun _ => false) (fun _ => 0) (fun _ => 0) (fun _ => 0) 0 0 0 false) 4) ?_ zX_w rfl rfl
  refine r_aload_n ok dX6_init_31 0 rfl rfl ?_
  refine r_sipush ok (nI 804) dX6_init_32 (by rfl) ?_
  refine r_newaI ok (by omega) ⟨Nat.le_of_ble_eq_true rfl, Nat.le_of_ble_eq_true rfl⟩ dX6_init_35 ?_
  refine zW.to (M' := zX M N 6 [.ref (N + 1), .ref (N + 2), .ref (N + 3), .int 0, .null, .null, .null, .int 0, .null, .null, .int 0, .int 0] (mdM G M N (fun _ => 0) (fun _ => 0) (fun _ => 0) (fun _ => 0) (fun _ => false) (fun _ => 0) (fun _ => 0) (fun _ => 0) 0 0 0 false) 5) ?_ (zX_s (by omega) (md_sL)) rfl rfl
  refine zPut ok ci_X6 fl_X6_19 (by decide) (Or.inr ⟨rfl, rfl⟩) rfl rfl rfl dX6_init_37 zX_o ?_
  refine zW.to (M' := zX M N 6 [.ref (N + 1), .ref (N + 2), .ref (N + 3), .int 0, .ref (N + 4), .null, .null, .int 0, .null, .null, .int 0, .int 0] (mdM G M N (fun _ => 0) (fun _ => 0) (fun _ => 0) (fun _ => 0) (fun _ => false) (fun _ => 0) (fun _ => 0) (fun _ => 0) 0 0 0 false) 5) ?_ zX_w rfl rfl
  refine r_aload_n ok dX6_init_40 0 rfl rfl ?_
  refine r_iconst ok (nI 2) dX6_init_41 (by rfl) ?_
  refine r_newaZ ok (by omega) ⟨Nat.le_of_ble_eq_true rfl, Nat.le_of_ble_eq_true rfl⟩ dX6_init_42 ?_
  refine zW.to (M' := zX M N 6 [.ref (N + 1), .ref (N + 2), .ref (N + 3), .int 0, .ref (N + 4), .null, .null, .int 0, .null, .null, .int 0, .int 0] (mdM G M N (fun _ => 0) (fun _ => 0) (fun _ => 0) (fun _ => 0) (fun _ => false) (fun _ => 0) (fun _ => 0) (fun _ => 0) 0 0 0 false) 6) ?_ (zX_s (by omega) (md_sI)) rfl rfl
  refine zPut ok ci_X6 fl_X6_22 (by decide) (Or.inr ⟨rfl, rfl⟩) rfl rfl rfl dX6_init_44 zX_o ?_
  refine zW.to (M' := zX M N 6 [.ref (N + 1), .ref (N + 2), .ref (N + 3), .int 0, .ref (N + 4), .ref (N + 5), .null, .int 0, .null, .null, .int 0, .int 0] (mdM G M N (fun _ => 0) (fun _ => 0) (fun _ => 0) (fun _ => 0) (fun _ => false) (fun _ => 0) (fun _ => 0) (fun _ => 0) 0 0 0 false) 6) ?_ zX_w rfl rfl
  refine r_aload_n ok dX6_init_47 0 rfl rfl ?_
  refine r_bipush ok (nI 60) dX6_init_48 (by rfl) ?_
  refine r_newaI ok (by omega) ⟨Nat.le_of_ble_eq_true rfl, Nat.le_of_ble_eq_true rfl⟩ dX6_init_50 ?_
  refine zW.to (M' := zX M N 6 [.ref (N + 1), .ref (N + 2), .ref (N + 3), .int 0, .ref (N + 4), .ref (N + 5), .null, .int 0, .null, .null, .int 0, .int 0] (mdM G M N (fun _ => 0) (fun _ => 0) (fun _ => 0) (fun _ => 0) (fun _ => false) (fun _ => 0) (fun _ => 0) (fun _ => 0) 0 0 0 false) 7) ?_ (zX_s (by omega) (md_sP)) rfl rfl
  refine zPut ok ci_X6 fl_X6_26 (by decide) (Or.inr ⟨rfl, rfl⟩) rfl rfl rfl dX6_init_52 zX_o ?_
  refine zW.to (M' := zX M N 6 [.ref (N + 1), .ref (N + 2), .ref (N + 3), .int 0, .ref (N + 4), .ref (N + 5), .ref (N + 6), .int 0, .null, .null, .int 0, .int 0] (mdM G M N (fun _ => 0) (fun _ => 0) (fun _ => 0) (fun _ => 0) (fun _ => false) (fun _ => 0) (fun _ => 0) (fun _ => 0) 0 0 0 false) 7) ?_ zX_w rfl rfl
  refine r_aload_n ok dX6_init_55 0 rfl rfl ?_
  refine r_bipush ok (nI 6) dX6_init_56 (by rfl) ?_
  refine r_newaI ok (by omega) ⟨Nat.le_of_ble_eq_true rfl, Nat.le_of_ble_eq_true rfl⟩ dX6_init_58 ?_
  refine zW.to (M' := zX M N 6 [.ref (N + 1), .ref (N + 2), .ref (N + 3), .int 0, .ref (N + 4), .ref (N + 5), .ref (N + 6), .int 0, .null, .null, .int 0, .int 0] (mdM G M N (fun _ => 0) (fun _ => 0) (fun _ => 0) (fun _ => 0) (fun _ => false) (fun _ => 0) (fun _ => 0) (fun _ => 0) 0 0 0 false) 8) ?_ (zX_s (by omega) (md_sT)) rfl rfl
  refine zPut ok ci_X6 fl_X6_29 (by decide) (Or.inr ⟨rfl, rfl⟩) rfl rfl rfl dX6_init_60 zX_o ?_
  refine zW.to (M' := zX M N 6 [.ref (N + 1), .ref (N + 2), .ref (N + 3), .int 0, .ref (N + 4), .ref (N + 5), .ref (N + 6), .int 0, .ref (N + 7), .null, .int 0, .int 0] (mdM G M N (fun _ => 0) (fun _ => 0) (fun _ => 0) (fun _ => 0) (fun _ => false) (fun _ => 0) (fun _ => 0) (fun _ => 0) 0 0 0 false) 8) ?_ zX_w rfl rfl
  refine r_aload_n ok dX6_init_63 0 rfl rfl ?_
  refine r_bipush ok (nI 6) dX6_init_64 (by rfl) ?_
  refine r_newaI ok (by omega) ⟨Nat.le_of_ble_eq_true rfl, Nat.le_of_ble_eq_true rfl⟩ dX6_init_66 ?_
  refine zW.to (M' := zX M N 6 [.ref (N + 1), .ref (N + 2), .ref (N + 3), .int 0, .ref (N + 4), .ref (N + 5), .ref (N + 6), .int 0, .ref (N + 7), .null, .int 0, .int 0] (mdM G M N (fun _ => 0) (fun _ => 0) (fun _ => 0) (fun _ => 0) (fun _ => false) (fun _ => 0) (fun _ => 0) (fun _ => 0) 0 0 0 false) 9) ?_ (zX_s (by omega) (md_sG)) rfl rfl
  refine zPut ok ci_X6 fl_X6_32 (by decide) (Or.inr ⟨rfl, rfl⟩) rfl rfl rfl dX6_init_68 zX_o ?_
  refine zW.to (M' := zX M N 6 [.ref (N + 1), .ref (N + 2), .ref (N + 3), .int 0, .ref (N + 4), .ref (N + 5), .ref (N + 6), .int 0, .ref (N + 7), .ref (N + 8), .int 0, .int 0] (mdM G M N (fun _ => 0) (fun _ => 0) (fun _ => 0) (fun _ => 0) (fun _ => false) (fun _ => 0) (fun _ => 0) (fun _ => 0) 0 0 0 false) 9) ?_ zX_w rfl rfl
  refine zW.to (M' := mdM G M N (fun _ => 0) (fun _ => 0) (fun _ => 0) (fun _ => 0) (fun _ => false) (fun _ => 0) (fun _ => 0) (fun _ => 0) 0 0 0 false) ?_ (zX_end md_o (fun q hq => md_out' hq)) rfl rfl
  refine r_aload_n ok dX6_init_71 0 rfl rfl ?_
  refine r_getf ok ci_X6 fl_X6_7 (by decide) dX6_init_72 md_o rfl ?_
  refine r_iconst ok (nI 0) dX6_init_75 (by rfl) ?_
  refine r_iconst ok (nI 5) dX6_init_76 (by rfl) ?_
  refine r_iastN ok (by omega) (by omega) dX6_init_77 md_s (mdw_s _) ?_
  refine r_aload_n ok dX6_init_78 0 rfl rfl ?_
  refine r_getf ok ci_X6 fl_X6_7 (by decide) dX6_init_79 md_o rfl ?_
  refine r_iconst ok (nI 1) dX6_init_82 (by rfl) ?_
  refine r_bipush ok (nI 20) dX6_init_83 (by rfl) ?_
  refine r_iastN ok (by omega) (by omega) dX6_init_85 md_s (mdw_s _) ?_
  refine r_aload_n ok dX6_init_86 0 rfl rfl ?_
  refine r_getf ok ci_X6 fl_X6_7 (by decide) dX6_init_87 md_o rfl ?_
  refine r_iconst ok (nI 2) dX6_init_90 (by rfl) ?_
  refine r_iconst ok (nI 1) dX6_init_91 (by rfl) ?_
  refine r_iastN ok (by omega) (by omega) dX6_init_92 md_s (mdw_s _) ?_
  refine r_aload_n ok dX6_init_93 0 rfl rfl ?_
  refine r_getf ok ci_X6 fl_X6_7 (by decide) dX6_init_94 md_o rfl ?_
  refine r_iconst ok (nI 3) dX6_init_97 (by rfl) ?_
  refine r_iconst ok (nI 5) dX6_init_98 (by rfl) ?_
  refine r_iastN ok (by omega) (by omega) dX6_init_99 md_s (mdw_s _) ?_
  refine r_aload_n ok dX6_init_100 0 rfl rfl ?_
  refine r_getf ok ci_X6 fl_X6_7 (by decide) dX6_init_101 md_o rfl ?_
  refine r_iconst ok (nI 4) dX6_init_104 (by rfl) ?_
  refine r_bipush ok (nI 7) dX6_init_105 (by rfl) ?_
  refine r_iastN ok (by omega) (by omega) dX6_init_107 md_s (mdw_s _) ?_
  refine r_aload_n ok dX6_init_108 0 rfl rfl ?_
  refine r_getf ok ci_X6 fl_X6_7 (by decide) dX6_init_109 md_o rfl ?_
  refine r_iconst ok (nI 5) dX6_init_112 (by rfl) ?_
  refine r_bipush ok (nI 100) dX6_init_113 (by rfl) ?_
  refine r_iastN ok (by omega) (by omega) dX6_init_115 md_s (mdw_s _) ?_
  refine r_aload_n ok dX6_init_116 0 rfl rfl ?_
  refine r_getf ok ci_X6 fl_X6_7 (by decide) dX6_init_117 md_o rfl ?_
  refine r_bipush ok (nI 6) dX6_init_120 (by rfl) ?_
  refine r_bipush ok (nI 20) dX6_init_122 (by rfl) ?_
  refine r_iastN ok (by omega) (by omega) dX6_init_124 md_s (mdw_s _) ?_
  refine r_aload_n ok dX6_init_125 0 rfl rfl ?_
  refine r_getf ok ci_X6 fl_X6_7 (by decide) dX6_init_126 md_o rfl ?_
  refine r_bipush ok (nI 7) dX6_init_129 (by rfl) ?_
  refine r_bipush ok (nI 50) dX6_init_131 (by rfl) ?_
  refine r_iastN ok (by omega) (by omega) dX6_init_133 md_s (mdw_s _) ?_
  refine r_aload_n ok dX6_init_134 0 rfl rfl ?_
  refine r_getf ok ci_X6 fl_X6_7 (by decide) dX6_init_135 md_o rfl ?_
  refine r_bipush ok (nI 8) dX6_init_138 (by rfl) ?_
  refine r_bipush ok (nI 20) dX6_init_140 (by rfl) ?_
  refine r_iastN ok (by omega) (by omega) dX6_init_142 md_s (mdw_s _) ?_
  refine r_aload_n ok dX6_init_143 0 rfl rfl ?_
  refine r_getf ok ci_X6 fl_X6_7 (by decide) dX6_init_144 md_o rfl ?_
  refine r_bipush ok (nI 10) dX6_init_147 (by rfl) ?_
  refine r_iconst ok (nI 1) dX6_init_149 (by rfl) ?_
  refine r_iastN ok (by omega) (by omega) dX6_init_150 md_s (mdw_s _) ?_
  exact r_vret ok dX6_init_151 rfl ⟨rfl, rfl⟩
