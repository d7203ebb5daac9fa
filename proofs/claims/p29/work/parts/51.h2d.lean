set_option maxHeartbeats 4000000 in
set_option maxRecDepth 100000 in
theorem c_X5_untilHome (l : Launch) (G : zG) (M : zM) (N a : Nat) (c t : zCl) (hc sc : Nat → zCl) (kp : Int32) (hi : Nat → Nat) (sv : Nat → Bool) (sg : Nat → Int32) (pl : Int32) (d : zOd)   (hu : c.un ≤ 5) (hpi : ∀ i, i < 5 → c.pi i < 5) (htp : ∀ i, i < 5 → t.pi i < 5) (hday : ∀ k, k < 51 → zDayOk (zPs (zCpy t c) k)) : zC l G yX5_untilHome cX5_untilHome 2 (some .int) 6 138 0 0 [.ref a] (hoM G M a c t hc sc kp hi sv sg pl d) N (zP (some (.int (nI (zUhF (zCpy t c) 50 0)))) (hoM G M a c (zPs (zCpy t c) (zUhF (zCpy t c) 50 0)) hc sc kp hi sv sg pl d)) := by
  refine zC.of (by decide +kernel) (Nat.le_of_ble_eq_true rfl) ?_
  intro K hKl ok
  subst hKl
  show zW K G 2 _ 0 0 _ N 0 [(0, .ref a)] []
  refine r_aload_n ok dX5_untilHome_0 0 rfl rfl ?_
  refine r_getf ok ci_X5 fl_X5_16 (by decide) dX5_untilHome_1 ho_o rfl ?_
  refine r_aload_n ok dX5_untilHome_4 0 rfl rfl ?_
  refine r_getf ok ci_X5 fl_X5_10 (by decide) dX5_untilHome_5 ho_o rfl ?_
  refine zW.to (M' := cbM G (cbM G (hoM G M a c t hc sc kp hi sv sg pl d) (a + 1) c.st c.dy c.x c.br c.sp c.wa c.ac c.ps c.pp c.pu c.lo (nI c.un) c.op c.pi c.cn c.vl c.du c.io c.hp c.hs) (a + 67) t.st t.dy t.x t.br t.sp t.wa t.ac t.ps t.pp t.pu t.lo (nI t.un) t.op t.pi t.cn t.vl t.du t.io t.hp t.hs) ?_ (((congrArg (fun z => cbM G z (a + 67) t.st t.dy t.x t.br t.sp t.wa t.ac t.ps t.pp t.pu t.lo (nI t.un) t.op t.pi t.cn t.vl t.du t.io t.hp t.hs) ho_cI).trans ho_tI)).symm rfl rfl
  refine r_cV0 ok [] mi_X0_copyFrom ci_X0 ml_X5_227 im_X0_copyFrom se_X0_copyFrom dX5_untilHome_8 (c_X0_copyFrom K.2.1 G (hoM G M a c t hc sc kp hi sv sg pl d) N (a + 1) c (a + 67) t   (by omega) htp hpi (by omega)) cb_o rfl rfl ⟨Nat.le_of_ble_eq_true rfl, Nat.le_of_ble_eq_true rfl⟩ (Nat.le_of_ble_eq_true rfl) ⟨Nat.zero_le _, Nat.zero_le _⟩ ?_
  refine zW.to (M' := hoM G M a c (zCpy t c) hc sc kp hi sv sg pl d) ?_ (((congrArg (fun z => cbM G z (a + 67) ((zCpy t c).st) ((zCpy t c).dy) ((zCpy t c).x) ((zCpy t c).br) ((zCpy t c).sp) ((zCpy t c).wa) ((zCpy t c).ac) ((zCpy t c).ps) ((zCpy t c).pp) ((zCpy t c).pu) ((zCpy t c).lo) (nI (zCpy t c).un) ((zCpy t c).op) ((zCpy t c).pi) ((zCpy t c).cn) ((zCpy t c).vl) ((zCpy t c).du) ((zCpy t c).io) ((zCpy t c).hp) ((zCpy t c).hs)) ho_cI).trans (ho_t (zCpy t c)))) rfl rfl
  refine r_iconst ok (nI 0) dX5_untilHome_11 (by rfl) ?_
  refine r_istore_n ok [(1, .int (nI 0)), (0, .ref a)] dX5_untilHome_12 rfl (by decide) rfl ?_
  have L1 : ∀ (nL1 : Nat) (k : Nat), ((k + nL1 = 50)) → (zUhF (zCpy t c) 50 0 = zUhF (zCpy t c) (50 - k) k) → zW K G 2 (zQ K G (N + 0) 0 0 (zP (some (.int (nI (zUhF (zCpy t c) 50 0)))) (hoM G M a c (zPs (zCpy t c) (zUhF (zCpy t c) 50 0)) hc sc kp hi sv sg pl d))) 0 0 (hoM G M a c (zPs (zCpy t c) k) hc sc kp hi sv sg pl d) N 13 [(0, .ref a), (1, .int (nI (k)))] [] := by
    intro nL1
    induction nL1 with
    | zero =>
      intro k hk_k hx
      have hdu := (hday k (by omega)).1
      obtain rfl : 50 = k := by omega
      refine r_aload_n ok dX5_untilHome_13 0 rfl rfl ?_
      refine r_getf ok ci_X5 fl_X5_16 (by decide) dX5_untilHome_14 ho_o rfl ?_
      refine r_getf ok ci_X0 fl_X5_132 (by decide) dX5_untilHome_17 (ho_rt cb_o) rfl ?_
      refine r_if_leN ok 43 (by omega) dX5_untilHome_20 (by decide) (fun c20_2 => ?_) (fun c20_2 => ?_)
      · skip
        have hr := hx.trans (zUh_e (by omega))
        refine r_iload_n ok dX5_untilHome_43 1 rfl rfl ?_
        exact r_iret ok dX5_untilHome_44 rfl ⟨congrArg (fun z => some (Value.int z)) (show nI (50) = nI (zUhF (zCpy t c) 50 0) from by first | exact congrArg nI hr.symm | exact congrArg nI hx.symm), (by first | rw [hr] | (rw [hx]; rfl))⟩
      · skip
        have hn : ¬ (zPs (zCpy t c) 50).un = 0 := by omega
        refine r_iload_n ok dX5_untilHome_23 1 rfl rfl ?_
        refine r_bipush ok (nI 50) dX5_untilHome_24 (by rfl) ?_
        refine r_icmp_geN ok 43 (by omega) (by omega) dX5_untilHome_26 (by decide) (fun _ => ?_) (fun c => absurd c (by decide))
        refine r_iload_n ok dX5_untilHome_43 1 rfl rfl ?_
        exact r_iret ok dX5_untilHome_44 rfl ⟨congrArg (fun z => some (Value.int z)) (show nI (50) = nI (zUhF (zCpy t c) 50 0) from by first | exact congrArg nI hr.symm | exact congrArg nI hx.symm), (by first | rw [hr] | (rw [hx]; rfl))⟩
    | succ nL1 ihL1 =>
      intro k hk_k hx
      have hdu := (hday k (by omega)).1
      refine r_aload_n ok dX5_untilHome_13 0 rfl rfl ?_
      refine r_getf ok ci_X5 fl_X5_16 (by decide) dX5_untilHome_14 ho_o rfl ?_
      refine r_getf ok ci_X0 fl_X5_132 (by decide) dX5_untilHome_17 (ho_rt cb_o) rfl ?_
      refine r_if_leN ok 43 (by omega) dX5_untilHome_20 (by decide) (fun c20_4 => ?_) (fun c20_4 => ?_)
      · skip
        have hr := hx.trans (zUh_e (by omega))
        refine r_iload_n ok dX5_untilHome_43 1 rfl rfl ?_
        exact r_iret ok dX5_untilHome_44 rfl ⟨congrArg (fun z => some (Value.int z)) (show nI (k) = nI (zUhF (zCpy t c) 50 0) from by first | exact congrArg nI hr.symm | exact congrArg nI hx.symm), (by first | rw [hr] | (rw [hx]; rfl))⟩
      · skip
        have hn : ¬ (zPs (zCpy t c) k).un = 0 := by omega
        refine r_iload_n ok dX5_untilHome_23 1 rfl rfl ?_
        refine r_bipush ok (nI 50) dX5_untilHome_24 (by rfl) ?_
        refine r_icmp_geN ok 43 (by omega) (by omega) dX5_untilHome_26 (by decide) (fun c26_5 => ?_) (fun c26_5 => ?_)
        · skip
          exact absurd c26_5 (by omega)
        · skip
          have hr := hx.trans (zUh_go (by omega) (by omega) hn)
          refine r_aload_n ok dX5_untilHome_29 0 rfl rfl ?_
          refine r_getf ok ci_X5 fl_X5_16 (by decide) dX5_untilHome_30 ho_o rfl ?_
          refine zW.to (M' := cbM G (hoM G M a c (zPs (zCpy t c) k) hc sc kp hi sv sg pl d) (a + 67) ((zPs (zCpy t c) k).st) ((zPs (zCpy t c) k).dy) ((zPs (zCpy t c) k).x) ((zPs (zCpy t c) k).br) ((zPs (zCpy t c) k).sp) ((zPs (zCpy t c) k).wa) ((zPs (zCpy t c) k).ac) ((zPs (zCpy t c) k).ps) ((zPs (zCpy t c) k).pp) ((zPs (zCpy t c) k).pu) ((zPs (zCpy t c) k).lo) (nI ((zPs (zCpy t c) k).un)) ((zPs (zCpy t c) k).op) ((zPs (zCpy t c) k).pi) ((zPs (zCpy t c) k).cn) ((zPs (zCpy t c) k).vl) ((zPs (zCpy t c) k).du) ((zPs (zCpy t c) k).io) ((zPs (zCpy t c) k).hp) ((zPs (zCpy t c) k).hs)) ?_ (ho_tI).symm rfl rfl
          refine r_cV1 ok [] mi_X0_beginDay ci_X0 ml_X5_143 im_X0_beginDay se_X0_beginDay dX5_untilHome_33 (c_X0_beginDay K.2.1 G (hoM G M a c (zPs (zCpy t c) k) hc sc kp hi sv sg pl d) N (a + 67) (zPs (zCpy t c) k)   (hday k (by omega)).1 (hday k (by omega)).2.1 (hday k (by omega)).2.2) cb_o rfl rfl ⟨Nat.le_of_ble_eq_true rfl, Nat.le_of_ble_eq_true rfl⟩ (Nat.le_of_ble_eq_true rfl) ⟨Nat.zero_le _, Nat.zero_le _⟩ ?_
          refine zW.to (M' := hoM G M a c (zBd ((zPs (zCpy t c) k))) hc sc kp hi sv sg pl d) ?_ ((ho_t (zBd ((zPs (zCpy t c) k))))) rfl rfl
          refine r_pop ok dX5_untilHome_36 rfl ?_
          refine r_iincN ok (c := 1) [(1, .int (nI (k + 1))), (0, .ref a)] dX5_untilHome_37 1 rfl (by rfl) (by decide) rfl ?_
          refine r_goto ok 13 dX5_untilHome_40 (by decide) ?_
          have q6 : ((zBd ((zPs (zCpy t c) k))) : zCl) = (zPs (zCpy t c) (k + 1)) := by first | with_reducible rfl | (rfl)
          refine zW.forget (lv' := [(0, .ref a), (1, .int (nI (k + 1)))]) ?_ [1, 0] rfl
          refine zW.to ?_ (congrArg (fun z => hoM G M a c z hc sc kp hi sv sg pl d) q6) rfl rfl
          exact ihL1 (k + 1) (by omega) (hr)
  have q7 : ((zCpy t c) : zCl) = (zPs (zCpy t c) 0) := by first | with_reducible rfl | (rfl)
  refine zW.forget (lv' := [(0, .ref a), (1, .int (nI 0))]) ?_ [1, 0] rfl
  refine zW.to ?_ (congrArg (fun z => hoM G M a c z hc sc kp hi sv sg pl d) q7) rfl rfl
  exact L1 50 0 (by omega) (rfl)
set_option maxHeartbeats 4000000 in
set_option maxRecDepth 100000 in
theorem c_X5_undo (l : Launch) (G : zG) (M : zM) (N a : Nat) (c t : zCl) (hc sc : Nat → zCl) (kp : Int32) (hi : Nat → Nat) (sv : Nat → Bool) (sg : Nat → Int32) (pl : Int32) (d : zOd) (kn : Nat)  (hk : kn ≤ 6) (hhi : ∀ i, i < 6 → hi i < 6) (hpi : ∀ i, i < 5 → c.pi i < 5) (hhp : ∀ j, j < 6 → ∀ i, i < 5 → (hc j).pi i < 5) (hhu : ∀ j, j < 6 → (hc j).un ≤ 5) : zC l G yX5_undo cX5_undo 1 (some .int) 5 134 0 0 [.ref a] (hoM G M a c t hc sc (nI kn) hi sv sg pl d) N (zP (some (.int (zE (zDundo kn) (fun _ => nI (kn - 1))))) (hoM G M a (zU (zDundo kn) c (fun _ => zCpy c (hc (hi (kn - 1))))) t hc sc (nI (kn - 1)) hi sv sg pl d)) := by
  refine zC.of (by decide +kernel) (Nat.le_of_ble_eq_true rfl) ?_
  intro K hKl ok
  subst hKl
  show zW K G 1 _ 0 0 _ N 0 [(0, .ref a)] []
  refine r_aload_n ok dX5_undo_0 0 rfl rfl ?_
  refine r_getf ok ci_X5 fl_X5_191 (by decide) dX5_undo_1 ho_o rfl ?_
  refine r_if_leN ok 16 (by omega) dX5_undo_4 (by decide) (fun c4_1 => ?_) (fun c4_1 => ?_)
  · skip
    obtain rfl : kn = 0 := by omega
    refine r_ldc ok ck_X5_73 dX5_undo_16 ?_
    exact r_iret ok dX5_undo_18 rfl ⟨congrArg (fun z => some (Value.int z)) (show -100005 = zE (zDundo 0) (fun _ => nI (0 - 1)) from by simp [zDundo, zE, zU, zOb, zCl_eta, zOd_eta, *]), (by simp [zDundo, zE, zU, zOb, zCl_eta, zOd_eta, *])⟩
  · skip
    have h0 : ¬ kn = 0 := by omega
    have hJ := hhi (kn - 1) (by omega)
    refine r_aload_n ok dX5_undo_7 0 rfl rfl ?_
    refine r_getf ok ci_X5 fl_X5_191 (by decide) dX5_undo_8 ho_o rfl ?_
    refine r_bipush ok (nI 6) dX5_undo_11 (by rfl) ?_
    refine r_icmp_leN ok 19 (by omega) (by omega) dX5_undo_13 (by decide) (fun c13_2 => ?_) (fun c13_2 => ?_)
    · skip
      refine r_aload_n ok dX5_undo_19 0 rfl rfl ?_
      refine r_dup ok dX5_undo_20 rfl ?_
      refine r_getf ok ci_X5 fl_X5_191 (by decide) dX5_undo_21 ho_o rfl ?_
      refine r_iconst ok (nI 1) dX5_undo_24 (by rfl) ?_
      refine r_isubN ok (by omega) dX5_undo_25 ?_
      refine r_putf ok ci_X5 fl_X5_191 (by decide) rfl rfl rfl dX5_undo_26 ho_o rfl (how_o (nI (kn - 1))) ?_
      refine r_aload_n ok dX5_undo_29 0 rfl rfl ?_
      refine r_getf ok ci_X5 fl_X5_10 (by decide) dX5_undo_30 ho_o rfl ?_
      refine r_aload_n ok dX5_undo_33 0 rfl rfl ?_
      refine r_getf ok ci_X5 fl_X5_19 (by decide) dX5_undo_34 ho_o rfl ?_
      refine r_aload_n ok dX5_undo_37 0 rfl rfl ?_
      refine r_getf ok ci_X5 fl_X5_191 (by decide) dX5_undo_38 ho_o rfl ?_
      refine r_aaldN ok 5 (Or.inr (Or.inr rfl)) (a + 144 + 66 * (hi (kn - 1))) (by omega) (by omega) dX5_undo_41 ho_h (hoH_at (by omega)) ?_
      refine zW.to (M' := cbM G (cbM G (hoM G M a c t hc sc (nI (kn - 1)) hi sv sg pl d) (a + 144 + 66 * (hi (kn - 1))) ((hc (hi (kn - 1))).st) ((hc (hi (kn - 1))).dy) ((hc (hi (kn - 1))).x) ((hc (hi (kn - 1))).br) ((hc (hi (kn - 1))).sp) ((hc (hi (kn - 1))).wa) ((hc (hi (kn - 1))).ac) ((hc (hi (kn - 1))).ps) ((hc (hi (kn - 1))).pp) ((hc (hi (kn - 1))).pu) ((hc (hi (kn - 1))).lo) (nI (hc (hi (kn - 1))).un) ((hc (hi (kn - 1))).op) ((hc (hi (kn - 1))).pi) ((hc (hi (kn - 1))).cn) ((hc (hi (kn - 1))).vl) ((hc (hi (kn - 1))).du) ((hc (hi (kn - 1))).io) ((hc (hi (kn - 1))).hp) ((hc (hi (kn - 1))).hs)) (a + 1) c.st c.dy c.x c.br c.sp c.wa c.ac c.ps c.pp c.pu c.lo (nI c.un) c.op c.pi c.cn c.vl c.du c.io c.hp c.hs) ?_ (((congrArg (fun z => cbM G z (a + 1) c.st c.dy c.x c.br c.sp c.wa c.ac c.ps c.pp c.pu c.lo (nI c.un) c.op c.pi c.cn c.vl c.du c.io c.hp c.hs) (ho_hcs (by omega))).trans ho_cI)).symm rfl rfl
      refine r_cV0 ok [] mi_X0_copyFrom ci_X0 ml_X5_227 im_X0_copyFrom se_X0_copyFrom dX5_undo_42 (c_X0_copyFrom K.2.1 G (hoM G M a c t hc sc (nI (kn - 1)) hi sv sg pl d) N (a + 144 + 66 * (hi (kn - 1))) (hc (hi (kn - 1))) (a + 1) c   (hhu _ (by first | assumption | omega)) hpi (hhp _ (by first | assumption | omega)) (by omega)) cb_o rfl rfl ⟨Nat.le_of_ble_eq_true rfl, Nat.le_of_ble_eq_true rfl⟩ (Nat.le_of_ble_eq_true rfl) ⟨Nat.zero_le _, Nat.zero_le _⟩ ?_
      refine zW.to (M' := hoM G M a (zCpy c ((hc (hi (kn - 1))))) t hc sc (nI (kn - 1)) hi sv sg pl d) ?_ (((congrArg (fun z => cbM G z (a + 1) ((zCpy c ((hc (hi (kn - 1))))).st) ((zCpy c ((hc (hi (kn - 1))))).dy) ((zCpy c ((hc (hi (kn - 1))))).x) ((zCpy c ((hc (hi (kn - 1))))).br) ((zCpy c ((hc (hi (kn - 1))))).sp) ((zCpy c ((hc (hi (kn - 1))))).wa) ((zCpy c ((hc (hi (kn - 1))))).ac) ((zCpy c ((hc (hi (kn - 1))))).ps) ((zCpy c ((hc (hi (kn - 1))))).pp) ((zCpy c ((hc (hi (kn - 1))))).pu) ((zCpy c ((hc (hi (kn - 1))))).lo) (nI (zCpy c ((hc (hi (kn - 1))))).un) ((zCpy c ((hc (hi (kn - 1))))).op) ((zCpy c ((hc (hi (kn - 1))))).pi) ((zCpy c ((hc (hi (kn - 1))))).cn) ((zCpy c ((hc (hi (kn - 1))))).vl) ((zCpy c ((hc (hi (kn - 1))))).du) ((zCpy c ((hc (hi (kn - 1))))).io) ((zCpy c ((hc (hi (kn - 1))))).hp) ((zCpy c ((hc (hi (kn - 1))))).hs)) (ho_hcs (by omega))).trans (ho_c (zCpy c ((hc (hi (kn - 1)))))))) rfl rfl
      refine r_aload_n ok dX5_undo_45 0 rfl rfl ?_
      refine r_getf ok ci_X5 fl_X5_191 (by decide) dX5_undo_46 ho_o rfl ?_
      exact r_iret ok dX5_undo_49 rfl ⟨congrArg (fun z => some (Value.int z)) (show nI (kn - 1) = zE (zDundo kn) (fun _ => nI (kn - 1)) from by simp [zDundo, zE, zU, zOb, zCl_eta, zOd_eta, *]), (by simp [zDundo, zE, zU, zOb, zCl_eta, zOd_eta, *])⟩
    · skip
      exact absurd c13_2 (by omega)
