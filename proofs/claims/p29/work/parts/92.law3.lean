/-! what is tried and undone -/
section SM
variable {G : zG} {M M' : zM} {a : Nat} {s s' : Nat → Int32} {kn : Nat} {P E : Int}
theorem zSM_o (h : zSM G M a s kn P E M') : ∃ fs, M' a = some (zO 5 fs) := by
  obtain ⟨c, hc, sc, hi, sv, sg, pl, sH, hO, hH, hA, hD⟩ := h
  exact zDm_o hD
theorem zST_o (h : zST G M a s' s kn P E M') : ∃ fs, M' a = some (zO 5 fs) := by
  obtain ⟨c, hc, sc, hi, sv, sg, pl, sH, c0, hO, hH, hk0, htop, hold, hD⟩ := h
  exact zDm_o hD
theorem zSM_out (h : zSM G M a s kn P E M') {q : Nat} (hq : q < a ∨ a + 672 ≤ q) : M' q = M q := by
  obtain ⟨c, hc, sc, hi, sv, sg, pl, sH, hO, hH, hA, hD⟩ := h
  exact zDm_out hD hq
theorem zSM_k (h : zSM G M a s kn P E M') : kn ≤ 6 := by
  obtain ⟨c, hc, sc, hi, sv, sg, pl, sH, hO, hH, hA, hD⟩ := h
  exact hH.1
theorem zSM_P (h : zSM G M a s kn P E M') : P ≤ 5400 + 1000 * E := by
  obtain ⟨c, hc, sc, hi, sv, sg, pl, sH, hO, hH, hA, hD⟩ := h
  exact hA.2.2.2.2.2.2.2.2
theorem zUn_of {c : zCl} {s : Nat → Int32} {u : Nat} (hO : zOc c s) (hu5 : u ≤ 5) (hu : s 14 = nI u) : c.un = u := by
  have e := hO.2.1.2.1.symm.trans hu
  have := congrArg Int32.toInt e
  have b1 := hO.1.1
  rw [nI_toInt (by omega), nI_toInt (by omega)] at this
  omega
theorem zSM_u (h : zSM G M a s kn P E M') : ∃ u : Nat, u ≤ 5 ∧ s 14 = nI u := by
  obtain ⟨c, hc, sc, hi, sv, sg, pl, sH, hO, hH, hA, hD⟩ := h
  exact ⟨c.un, hO.1.1, hO.2.1.2.1⟩
end SM
set_option maxHeartbeats 4000000 in
set_option maxRecDepth 100000 in
theorem yl_passes (l : Launch) {G : zG} {M M0 : zM} {a : Nat} {N : Nat} {s : Nat → Int32} {kn : Nat} {Pd Ed : Int} (h0 : zSM G M a s kn Pd Ed M0) {u n : Nat} (hu5 : u ≤ 5) (hu : s 14 = nI u) (hn : n ≤ 50) (hday : (s 9).toInt + n ≤ 9999) (x : Bool) (hx : x = decide (0 < zUd s u n)) : zC l G yL_passes cL_passes 8 (some .boolean) 7 179 0 0 [.ref a, .int (nI n), .int (nI u), .int (zb x)] M0 N (zPq (some (.int 1)) (fun M1 => ∃ kn1 : Nat, zSM G M a s kn1 Pd Ed M1)) := by
  refine zC.of (by decide +kernel) (Nat.le_of_ble_eq_true rfl) ?_
  intro K hKl ok
  subst hKl
  show zW K G 8 _ 0 0 _ N 0 [(0, .ref a), (1, .int (nI n)), (2, .int (nI u)), (3, .int (zb x))] []
  have hk6 := zSM_k h0
  have hrk := zRecK_le hk6
  by_cases hn0 : n = 0
  · subst hn0
    refine r_iconst ok (nI 0) dL_passes_0 (by rfl) ?_
    refine r_istore ok [(4, .int (nI 0)), (0, .ref a), (1, .int (nI 0)), (2, .int (nI u)), (3, .int (zb x))] dL_passes_1 (by decide) rfl ?_
    refine r_iconst ok (nI 0) dL_passes_3 (by rfl) ?_
    refine r_istore ok [(5, .int (nI 0)), (4, .int (nI 0)), (0, .ref a), (1, .int (nI 0)), (2, .int (nI u)), (3, .int (zb x))] dL_passes_4 (by decide) rfl ?_
    refine r_iload_n ok dL_passes_6 3 rfl rfl ?_
    refine r_istore ok [(6, .int (nI 0)), (5, .int (nI 0)), (4, .int (nI 0)), (0, .ref a), (1, .int (nI 0)), (2, .int (nI u)), (3, .int (zb x))] dL_passes_7 (by decide) rfl ?_
    refine r_iload ok dL_passes_9 0 rfl ?_
    refine r_if_leN ok 46 (by omega) dL_passes_11 (by decide) (fun _ => ?_) (fun c => absurd c (by omega))
    obtain ⟨c, hc, sc, hi, sv, sg, pl, sH, hO, hH, hA, hD1⟩ := h0
    have hcu := zUn_of hO hu5 hu
    have hz : zUd s u 0 = u := rfl
    rw [hz] at hx
    by_cases hp : 0 < u
    · have hp : 0 < u := hp
      obtain rfl : x = true := hx.trans (decide_eq_true hp)
      refine r_aload_n ok dL_passes_46 3 rfl rfl ?_
      refine r_bipush ok (nI 11) dL_passes_47 (by rfl) ?_
      obtain ⟨fs5, hM6⟩ := zDm_o hD1
      obtain ⟨M2, hC3, hD4⟩ := q_count K.2.1 N hO hD1 11 (by omega) (r := nI u) (by show nI c.un = _; rw [hcu])
      refine r_cV1 ok [] mi_X5_count ci_X5 ml_L_53 im_X5_count se_X5_count dL_passes_49 hC3 hM6 rfl rfl ⟨Nat.le_of_ble_eq_true rfl, Nat.le_of_ble_eq_true rfl⟩ (Nat.le_of_ble_eq_true rfl) ⟨Nat.zero_le _, Nat.zero_le _⟩ ?_
      refine r_iload_n ok dL_passes_52 5 rfl rfl ?_
      refine r_iload ok dL_passes_53 2 rfl ?_
      refine r_isubN ok (by omega) dL_passes_55 ?_
      refine r_icmp_neN ok 81 (by omega) (by omega) dL_passes_56 (by decide) (fun c => absurd c (by omega)) (fun _ => ?_)
      refine r_aload_n ok dL_passes_59 3 rfl rfl ?_
      refine r_bipush ok (nI 11) dL_passes_60 (by rfl) ?_
      obtain ⟨fs10, hM11⟩ := zDm_o hD4
      obtain ⟨M7, hC8, hD9⟩ := q_count K.2.1 N hO hD4 11 (by omega) (r := nI u) (by show nI c.un = _; rw [hcu])
      refine r_cV1 ok [] mi_X5_count ci_X5 ml_L_53 im_X5_count se_X5_count dL_passes_62 hC8 hM11 rfl rfl ⟨Nat.le_of_ble_eq_true rfl, Nat.le_of_ble_eq_true rfl⟩ (Nat.le_of_ble_eq_true rfl) ⟨Nat.zero_le _, Nat.zero_le _⟩ ?_
      refine r_if_leN ok 72 (by omega) dL_passes_65 (by decide) (fun c => absurd c (by omega)) (fun _ => ?_)
      refine r_iconst ok (zb true) dL_passes_68 (by rfl) ?_
      refine r_goto ok 73 dL_passes_69 (by decide) ?_
      refine r_iload_n ok dL_passes_73 6 rfl rfl ?_
      refine r_icmp_ne ok 81 dL_passes_74 (by decide) (fun c => (c rfl).elim) (fun _ => ?_)
      refine r_iconst ok (nI 1) dL_passes_77 (by rfl) ?_
      refine r_goto ok 82 dL_passes_78 (by decide) ?_
      refine r_istore ok [(6, .int (nI 1)), (5, .int (nI 0)), (4, .int (nI 0)), (0, .ref a), (1, .int (nI 0)), (2, .int (nI u)), (3, .int (zb true))] dL_passes_82 (by decide) rfl ?_
      refine r_iconst ok (nI 0) dL_passes_84 (by rfl) ?_
      refine r_istore ok [(7, .int (nI 0)), (6, .int (nI 1)), (5, .int (nI 0)), (4, .int (nI 0)), (0, .ref a), (1, .int (nI 0)), (2, .int (nI u)), (3, .int (zb true))] dL_passes_85 (by decide) rfl ?_
      refine r_iload ok dL_passes_87 0 rfl ?_
      refine r_iload ok dL_passes_89 2 rfl ?_
      refine r_icmp_geN ok 119 (by omega) (by omega) dL_passes_91 (by decide) (fun _ => ?_) (fun c => absurd c (by omega))
      refine r_iload ok dL_passes_119 1 rfl ?_
      exact r_zret ok dL_passes_121 (by rfl) rfl ⟨rfl, kn, ⟨c, hc, sc, hi, sv, sg, pl, sH, hO, hH, hA, hD9⟩⟩
    · have hp : ¬ 0 < u := hp
      obtain rfl : x = false := hx.trans (decide_eq_false hp)
      refine r_aload_n ok dL_passes_46 3 rfl rfl ?_
      refine r_bipush ok (nI 11) dL_passes_47 (by rfl) ?_
      obtain ⟨fs15, hM16⟩ := zDm_o hD1
      obtain ⟨M12, hC13, hD14⟩ := q_count K.2.1 N hO hD1 11 (by omega) (r := nI u) (by show nI c.un = _; rw [hcu])
      refine r_cV1 ok [] mi_X5_count ci_X5 ml_L_53 im_X5_count se_X5_count dL_passes_49 hC13 hM16 rfl rfl ⟨Nat.le_of_ble_eq_true rfl, Nat.le_of_ble_eq_true rfl⟩ (Nat.le_of_ble_eq_true rfl) ⟨Nat.zero_le _, Nat.zero_le _⟩ ?_
      refine r_iload_n ok dL_passes_52 5 rfl rfl ?_
      refine r_iload ok dL_passes_53 2 rfl ?_
      refine r_isubN ok (by omega) dL_passes_55 ?_
      refine r_icmp_neN ok 81 (by omega) (by omega) dL_passes_56 (by decide) (fun c => absurd c (by omega)) (fun _ => ?_)
      refine r_aload_n ok dL_passes_59 3 rfl rfl ?_
      refine r_bipush ok (nI 11) dL_passes_60 (by rfl) ?_
      obtain ⟨fs20, hM21⟩ := zDm_o hD14
      obtain ⟨M17, hC18, hD19⟩ := q_count K.2.1 N hO hD14 11 (by omega) (r := nI u) (by show nI c.un = _; rw [hcu])
      refine r_cV1 ok [] mi_X5_count ci_X5 ml_L_53 im_X5_count se_X5_count dL_passes_62 hC18 hM21 rfl rfl ⟨Nat.le_of_ble_eq_true rfl, Nat.le_of_ble_eq_true rfl⟩ (Nat.le_of_ble_eq_true rfl) ⟨Nat.zero_le _, Nat.zero_le _⟩ ?_
      refine r_if_leN ok 72 (by omega) dL_passes_65 (by decide) (fun _ => ?_) (fun c => absurd c (by omega))
      refine r_iconst ok (zb false) dL_passes_72 (by rfl) ?_
      refine r_iload_n ok dL_passes_73 6 rfl rfl ?_
      refine r_icmp_ne ok 81 dL_passes_74 (by decide) (fun c => (c rfl).elim) (fun _ => ?_)
      refine r_iconst ok (nI 1) dL_passes_77 (by rfl) ?_
      refine r_goto ok 82 dL_passes_78 (by decide) ?_
      refine r_istore ok [(6, .int (nI 1)), (5, .int (nI 0)), (4, .int (nI 0)), (0, .ref a), (1, .int (nI 0)), (2, .int (nI u)), (3, .int (zb false))] dL_passes_82 (by decide) rfl ?_
      refine r_iconst ok (nI 0) dL_passes_84 (by rfl) ?_
      refine r_istore ok [(7, .int (nI 0)), (6, .int (nI 1)), (5, .int (nI 0)), (4, .int (nI 0)), (0, .ref a), (1, .int (nI 0)), (2, .int (nI u)), (3, .int (zb false))] dL_passes_85 (by decide) rfl ?_
      refine r_iload ok dL_passes_87 0 rfl ?_
      refine r_iload ok dL_passes_89 2 rfl ?_
      refine r_icmp_geN ok 119 (by omega) (by omega) dL_passes_91 (by decide) (fun _ => ?_) (fun c => absurd c (by omega))
      refine r_iload ok dL_passes_119 1 rfl ?_
      exact r_zret ok dL_passes_121 (by rfl) rfl ⟨rfl, kn, ⟨c, hc, sc, hi, sv, sg, pl, sH, hO, hH, hA, hD19⟩⟩
  · skip
    refine r_iconst ok (nI 0) dL_passes_0 (by rfl) ?_
    refine r_istore ok [(4, .int (nI 0)), (0, .ref a), (1, .int (nI n)), (2, .int (nI u)), (3, .int (zb x))] dL_passes_1 (by decide) rfl ?_
    refine r_iconst ok (nI 0) dL_passes_3 (by rfl) ?_
    refine r_istore ok [(5, .int (nI 0)), (4, .int (nI 0)), (0, .ref a), (1, .int (nI n)), (2, .int (nI u)), (3, .int (zb x))] dL_passes_4 (by decide) rfl ?_
    refine r_iload_n ok dL_passes_6 3 rfl rfl ?_
    refine r_istore ok [(6, .int (nI n)), (5, .int (nI 0)), (4, .int (nI 0)), (0, .ref a), (1, .int (nI n)), (2, .int (nI u)), (3, .int (zb x))] dL_passes_7 (by decide) rfl ?_
    refine r_iload ok dL_passes_9 0 rfl ?_
    refine r_if_leN ok 46 (by omega) dL_passes_11 (by decide) (fun c => absurd c (by omega)) (fun _ => ?_)
    refine r_iload ok dL_passes_14 2 rfl ?_
    refine r_aload_n ok dL_passes_16 3 rfl rfl ?_
    refine r_iload ok dL_passes_17 0 rfl ?_
    refine r_bipush ok (nI 60) dL_passes_19 (by rfl) ?_
    refine r_icmp_leN ok 29 (by omega) (by omega) dL_passes_21 (by decide) (fun _ => ?_) (fun c => absurd c (by omega))
    refine r_iload ok dL_passes_29 0 rfl ?_
    obtain ⟨fsa, hMa⟩ := zSM_o h0
    obtain ⟨Mp, s1, hle, hs14, hCp, hSp⟩ := t_pass K.2.1 N h0 hu5 hu (by omega) (by omega) hday
    obtain ⟨ud, hud⟩ : ∃ ud : Nat, ud = zUd s u n := ⟨_, rfl⟩
    rw [← hud] at hx hle hs14 hCp
    refine r_cV1 ok [.int (nI 0)] mi_X5_pass ci_X5 ml_L_28 im_X5_pass se_X5_pass dL_passes_31 hCp hMa rfl rfl ⟨Nat.le_of_ble_eq_true rfl, Nat.le_of_ble_eq_true rfl⟩ (Nat.le_of_ble_eq_true rfl) ⟨Nat.zero_le _, Nat.zero_le _⟩ ?_
    refine r_iaddN ok dL_passes_34 ?_
    refine r_istore ok [(4, .int (nI (0 + (u - ud)))), (6, .int (nI n)), (5, .int (nI 0)), (0, .ref a), (1, .int (nI n)), (2, .int (nI u)), (3, .int (zb x))] dL_passes_35 (by decide) rfl ?_
    refine r_iincN ok (c := 1) [(5, .int (nI (0 + 1))), (4, .int (nI (0 + (u - ud)))), (6, .int (nI n)), (0, .ref a), (1, .int (nI n)), (2, .int (nI u)), (3, .int (zb x))] dL_passes_37 2 rfl (by rfl) (by decide) rfl ?_
    refine r_iinc ok (nI n + -60) [(6, .int (nI n + -60)), (5, .int (nI (0 + 1))), (4, .int (nI (0 + (u - ud)))), (0, .ref a), (1, .int (nI n)), (2, .int (nI u)), (3, .int (zb x))] dL_passes_40 2 rfl (by rfl) (by decide) rfl ?_
    refine r_goto ok 9 dL_passes_43 (by decide) ?_
    refine r_iload ok dL_passes_9 0 rfl ?_
    have hle0 : nI n + -60 ≤ 0 := by
      have e1 : (nI n).toInt = n := nI_toInt (by omega)
      have e2 : (-60 : Int32).toInt = -60 := by decide +kernel
      have e3 : (0 : Int32).toInt = 0 := rfl
      rw [Int32.le_iff_toInt_le, zg_add (by omega) (by omega)]; omega
    refine r_if_le ok 46 dL_passes_11 (by decide) (fun _ => ?_) (fun c => absurd hle0 c)
    obtain ⟨c, hc, sc, hi, sv, sg, pl, sH, c0, hO, hH, hk0, htop, hold, hD22⟩ := hSp
    have hcu := zUn_of hO (by omega) hs14
    by_cases hp : 0 < ud
    · have hp : 0 < ud := hp
      obtain rfl : x = true := hx.trans (decide_eq_true hp)
      refine r_aload_n ok dL_passes_46 3 rfl rfl ?_
      refine r_bipush ok (nI 11) dL_passes_47 (by rfl) ?_
      obtain ⟨fs26, hM27⟩ := zDm_o hD22
      obtain ⟨M23, hC24, hD25⟩ := q_count K.2.1 N hO hD22 11 (by omega) (r := nI ud) (by show nI c.un = _; rw [hcu])
      refine r_cV1 ok [] mi_X5_count ci_X5 ml_L_53 im_X5_count se_X5_count dL_passes_49 hC24 hM27 rfl rfl ⟨Nat.le_of_ble_eq_true rfl, Nat.le_of_ble_eq_true rfl⟩ (Nat.le_of_ble_eq_true rfl) ⟨Nat.zero_le _, Nat.zero_le _⟩ ?_
      refine r_iload_n ok dL_passes_52 5 rfl rfl ?_
      refine r_iload ok dL_passes_53 2 rfl ?_
      refine r_isubN ok (by omega) dL_passes_55 ?_
      refine r_icmp_neN ok 81 (by omega) (by omega) dL_passes_56 (by decide) (fun c => absurd c (by omega)) (fun _ => ?_)
      refine r_aload_n ok dL_passes_59 3 rfl rfl ?_
      refine r_bipush ok (nI 11) dL_passes_60 (by rfl) ?_
      obtain ⟨fs31, hM32⟩ := zDm_o hD25
      obtain ⟨M28, hC29, hD30⟩ := q_count K.2.1 N hO hD25 11 (by omega) (r := nI ud) (by show nI c.un = _; rw [hcu])
      refine r_cV1 ok [] mi_X5_count ci_X5 ml_L_53 im_X5_count se_X5_count dL_passes_62 hC29 hM32 rfl rfl ⟨Nat.le_of_ble_eq_true rfl, Nat.le_of_ble_eq_true rfl⟩ (Nat.le_of_ble_eq_true rfl) ⟨Nat.zero_le _, Nat.zero_le _⟩ ?_
      refine r_if_leN ok 72 (by omega) dL_passes_65 (by decide) (fun c => absurd c (by omega)) (fun _ => ?_)
      refine r_iconst ok (zb true) dL_passes_68 (by rfl) ?_
      refine r_goto ok 73 dL_passes_69 (by decide) ?_
      refine r_iload_n ok dL_passes_73 6 rfl rfl ?_
      refine r_icmp_ne ok 81 dL_passes_74 (by decide) (fun c => (c rfl).elim) (fun _ => ?_)
      refine r_iconst ok (nI 1) dL_passes_77 (by rfl) ?_
      refine r_goto ok 82 dL_passes_78 (by decide) ?_
      refine r_istore ok [(6, .int (nI 1)), (5, .int (nI (0 + 1))), (4, .int (nI (0 + (u - ud)))), (0, .ref a), (1, .int (nI n)), (2, .int (nI u)), (3, .int (zb true))] dL_passes_82 (by decide) rfl ?_
      refine r_iconst ok (nI 0) dL_passes_84 (by rfl) ?_
      refine r_istore ok [(7, .int (nI 0)), (6, .int (nI 1)), (5, .int (nI (0 + 1))), (4, .int (nI (0 + (u - ud)))), (0, .ref a), (1, .int (nI n)), (2, .int (nI u)), (3, .int (zb true))] dL_passes_85 (by decide) rfl ?_
      refine r_iload ok dL_passes_87 0 rfl ?_
      refine r_iload ok dL_passes_89 2 rfl ?_
      refine r_icmp_geN ok 119 (by omega) (by omega) dL_passes_91 (by decide) (fun c => absurd c (by omega)) (fun _ => ?_)
      have hST : zST G M a s1 s (zRecK kn) Pd Ed M28 := ⟨c, hc, sc, hi, sv, sg, pl, sH, c0, hO, hH, hk0, htop, hold, hD30⟩
      refine r_aload_n ok dL_passes_94 4 rfl rfl ?_
      obtain ⟨fs36, hM37⟩ := zST_o hST
      obtain ⟨M33, hC34, hS35⟩ := t_undo K.2.1 N hST
      refine r_cV1 ok [] mi_X5_undo ci_X5 ml_L_86 im_X5_undo se_X5_undo dL_passes_95 hC34 hM37 rfl rfl ⟨Nat.le_of_ble_eq_true rfl, Nat.le_of_ble_eq_true rfl⟩ (Nat.le_of_ble_eq_true rfl) ⟨Nat.zero_le _, Nat.zero_le _⟩ ?_
      refine r_if_ltN ok 110 (by omega) dL_passes_98 (by decide) (fun c => c.elim) (fun _ => ?_)
      refine r_iload ok dL_passes_101 1 rfl ?_
      refine r_if_eqN ok 110 (by omega) dL_passes_103 (by decide) (fun c => absurd c (by omega)) (fun _ => ?_)
      refine r_iconst ok (nI 1) dL_passes_106 (by rfl) ?_
      refine r_goto ok 111 dL_passes_107 (by decide) ?_
      refine r_istore ok [(6, .int (nI 1)), (7, .int (nI 0)), (5, .int (nI (0 + 1))), (4, .int (nI (0 + (u - ud)))), (0, .ref a), (1, .int (nI n)), (2, .int (nI u)), (3, .int (zb true))] dL_passes_111 (by decide) rfl ?_
      refine r_iincN ok (c := 1) [(7, .int (nI (0 + 1))), (6, .int (nI 1)), (5, .int (nI (0 + 1))), (4, .int (nI (0 + (u - ud)))), (0, .ref a), (1, .int (nI n)), (2, .int (nI u)), (3, .int (zb true))] dL_passes_113 1 rfl (by rfl) (by decide) rfl ?_
      refine r_goto ok 87 dL_passes_116 (by decide) ?_
      refine r_iload ok dL_passes_87 0 rfl ?_
      refine r_iload ok dL_passes_89 2 rfl ?_
      refine r_icmp_geN ok 119 (by omega) (by omega) dL_passes_91 (by decide) (fun _ => ?_) (fun c => absurd c (by omega))
      refine r_iload ok dL_passes_119 1 rfl ?_
      exact r_zret ok dL_passes_121 (by rfl) rfl ⟨rfl, zRecK kn - 1, hS35⟩
    · have hp : ¬ 0 < ud := hp
      obtain rfl : x = false := hx.trans (decide_eq_false hp)
      refine r_aload_n ok dL_passes_46 3 rfl rfl ?_
      refine r_bipush ok (nI 11) dL_passes_47 (by rfl) ?_
      obtain ⟨fs41, hM42⟩ := zDm_o hD22
      obtain ⟨M38, hC39, hD40⟩ := q_count K.2.1 N hO hD22 11 (by omega) (r := nI ud) (by show nI c.un = _; rw [hcu])
      refine r_cV1 ok [] mi_X5_count ci_X5 ml_L_53 im_X5_count se_X5_count dL_passes_49 hC39 hM42 rfl rfl ⟨Nat.le_of_ble_eq_true rfl, Nat.le_of_ble_eq_true rfl⟩ (Nat.le_of_ble_eq_true rfl) ⟨Nat.zero_le _, Nat.zero_le _⟩ ?_
      refine r_iload_n ok dL_passes_52 5 rfl rfl ?_
      refine r_iload ok dL_passes_53 2 rfl ?_
      refine r_isubN ok (by omega) dL_passes_55 ?_
      refine r_icmp_neN ok 81 (by omega) (by omega) dL_passes_56 (by decide) (fun c => absurd c (by omega)) (fun _ => ?_)
      refine r_aload_n ok dL_passes_59 3 rfl rfl ?_
      refine r_bipush ok (nI 11) dL_passes_60 (by rfl) ?_
      obtain ⟨fs46, hM47⟩ := zDm_o hD40
      obtain ⟨M43, hC44, hD45⟩ := q_count K.2.1 N hO hD40 11 (by omega) (r := nI ud) (by show nI c.un = _; rw [hcu])
      refine r_cV1 ok [] mi_X5_count ci_X5 ml_L_53 im_X5_count se_X5_count dL_passes_62 hC44 hM47 rfl rfl ⟨Nat.le_of_ble_eq_true rfl, Nat.le_of_ble_eq_true rfl⟩ (Nat.le_of_ble_eq_true rfl) ⟨Nat.zero_le _, Nat.zero_le _⟩ ?_
      refine r_if_leN ok 72 (by omega) dL_passes_65 (by decide) (fun _ => ?_) (fun c => absurd c (by omega))
      refine r_iconst ok (zb false) dL_passes_72 (by rfl) ?_
      refine r_iload_n ok dL_passes_73 6 rfl rfl ?_
      refine r_icmp_ne ok 81 dL_passes_74 (by decide) (fun c => (c rfl).elim) (fun _ => ?_)
      refine r_iconst ok (nI 1) dL_passes_77 (by rfl) ?_
      refine r_goto ok 82 dL_passes_78 (by decide) ?_
      refine r_istore ok [(6, .int (nI 1)), (5, .int (nI (0 + 1))), (4, .int (nI (0 + (u - ud)))), (0, .ref a), (1, .int (nI n)), (2, .int (nI u)), (3, .int (zb false))] dL_passes_82 (by decide) rfl ?_
      refine r_iconst ok (nI 0) dL_passes_84 (by rfl) ?_
      refine r_istore ok [(7, .int (nI 0)), (6, .int (nI 1)), (5, .int (nI (0 + 1))), (4, .int (nI (0 + (u - ud)))), (0, .ref a), (1, .int (nI n)), (2, .int (nI u)), (3, .int (zb false))] dL_passes_85 (by decide) rfl ?_
      refine r_iload ok dL_passes_87 0 rfl ?_
      refine r_iload ok dL_passes_89 2 rfl ?_
      refine r_icmp_geN ok 119 (by omega) (by omega) dL_passes_91 (by decide) (fun c => absurd c (by omega)) (fun _ => ?_)
      have hST : zST G M a s1 s (zRecK kn) Pd Ed M43 := ⟨c, hc, sc, hi, sv, sg, pl, sH, c0, hO, hH, hk0, htop, hold, hD45⟩
      refine r_aload_n ok dL_passes_94 4 rfl rfl ?_
      obtain ⟨fs51, hM52⟩ := zST_o hST
      obtain ⟨M48, hC49, hS50⟩ := t_undo K.2.1 N hST
      refine r_cV1 ok [] mi_X5_undo ci_X5 ml_L_86 im_X5_undo se_X5_undo dL_passes_95 hC49 hM52 rfl rfl ⟨Nat.le_of_ble_eq_true rfl, Nat.le_of_ble_eq_true rfl⟩ (Nat.le_of_ble_eq_true rfl) ⟨Nat.zero_le _, Nat.zero_le _⟩ ?_
      refine r_if_ltN ok 110 (by omega) dL_passes_98 (by decide) (fun c => c.elim) (fun _ => ?_)
      refine r_iload ok dL_passes_101 1 rfl ?_
      refine r_if_eqN ok 110 (by omega) dL_passes_103 (by decide) (fun c => absurd c (by omega)) (fun _ => ?_)
      refine r_iconst ok (nI 1) dL_passes_106 (by rfl) ?_
      refine r_goto ok 111 dL_passes_107 (by decide) ?_
      refine r_istore ok [(6, .int (nI 1)), (7, .int (nI 0)), (5, .int (nI (0 + 1))), (4, .int (nI (0 + (u - ud)))), (0, .ref a), (1, .int (nI n)), (2, .int (nI u)), (3, .int (zb false))] dL_passes_111 (by decide) rfl ?_
      refine r_iincN ok (c := 1) [(7, .int (nI (0 + 1))), (6, .int (nI 1)), (5, .int (nI (0 + 1))), (4, .int (nI (0 + (u - ud)))), (0, .ref a), (1, .int (nI n)), (2, .int (nI u)), (3, .int (zb false))] dL_passes_113 1 rfl (by rfl) (by decide) rfl ?_
      refine r_goto ok 87 dL_passes_116 (by decide) ?_
      refine r_iload ok dL_passes_87 0 rfl ?_
      refine r_iload ok dL_passes_89 2 rfl ?_
      refine r_icmp_geN ok 119 (by omega) (by omega) dL_passes_91 (by decide) (fun _ => ?_) (fun c => absurd c (by omega))
      refine r_iload ok dL_passes_119 1 rfl ?_
      exact r_zret ok dL_passes_121 (by rfl) rfl ⟨rfl, zRecK kn - 1, hS50⟩
theorem zMore20 (s : Nat → Int32) {m g wn : Nat} (hw : s (15 + 22 * m + (14 + g)) = nI wn) (h20 : wn ≤ 20) : zCost (upd s (15 + 22 * m + (14 + g)) (nI 20)) (nI 63) = zCost s (nI 63) + zRmore s (nI (20 - wn)) (m, g) := by
  unfold zRmore
  dsimp only
  have e : nI wn + nI (20 - wn) = nI 20 := by rw [nI_add]; congr 1; omega
  rw [hw, e]
  grind
set_option maxHeartbeats 4000000 in
set_option maxRecDepth 100000 in
theorem yl_tries (l : Launch) {G : zG} {M M0 : zM} {a : Nat} {N : Nat} {s : Nat → Int32} {kn : Nat} {Pd Ed : Int} {x : Int32} (h0 : zSM G M a s kn Pd Ed M0) : zC l G yL_tries cL_tries 10 (some .boolean) 8 206 0 0 [.ref a, .int (x)] M0 N (zPq (some (.int 1)) (fun M1 => ∃ kn1 : Nat, zSM G M a s kn1 Pd Ed M1)) := by
  refine zC.of (by decide +kernel) (Nat.le_of_ble_eq_true rfl) ?_
  intro K hKl ok
  subst hKl
  show zW K G 10 _ 0 0 _ N 0 [(0, .ref a), (1, .int (x))] []
  obtain ⟨u, hu5, hu⟩ := zSM_u h0
  refine r_iload_n ok dL_tries_0 1 rfl rfl ?_
  refine r_bipush ok (nI 6) dL_tries_1 (by rfl) ?_
  refine r_cS1 ok [] mi_L_low ml_L_9 sm_L_low dL_tries_3 (yl_low K.2.1 G M0 N x (n := 6) (by omega) (by omega)) rfl rfl ⟨Nat.le_of_ble_eq_true rfl, Nat.le_of_ble_eq_true rfl⟩ (Nat.le_of_ble_eq_true rfl) ⟨Nat.zero_le _, Nat.zero_le _⟩ ?_
  obtain ⟨m, em⟩ : ∃ m, m = zLow x 6 := ⟨_, rfl⟩
  have hm : m < 6 := by rw [em]; exact zLow_lt _ (by omega)
  rw [← em]
  refine r_istore_n ok [(2, .int (nI m)), (0, .ref a), (1, .int (x))] dL_tries_6 rfl (by decide) rfl ?_
  refine r_iload_n ok dL_tries_7 2 rfl rfl ?_
  refine r_iconst ok (nI 3) dL_tries_8 (by rfl) ?_
  refine r_ishr ok dL_tries_9 ?_
  refine r_bipush ok (nI 8) dL_tries_10 (by rfl) ?_
  refine r_cS1 ok [] mi_L_low ml_L_9 sm_L_low dL_tries_12 (yl_low K.2.1 G M0 N (x >>> (nI 3 &&& 31)) (n := 8) (by omega) (by omega)) rfl rfl ⟨Nat.le_of_ble_eq_true rfl, Nat.le_of_ble_eq_true rfl⟩ (Nat.le_of_ble_eq_true rfl) ⟨Nat.zero_le _, Nat.zero_le _⟩ ?_
  obtain ⟨g, eg⟩ : ∃ g, g = zLow (x >>> (nI 3 &&& 31)) 8 := ⟨_, rfl⟩
  have hg : g < 8 := by rw [eg]; exact zLow_lt _ (by omega)
  rw [← eg]
  obtain ⟨c, hc, sc, hi, sv, sg, pl, sH, hO, hH, hA, hD1⟩ := h0
  obtain ⟨wn, ewn, hw20, -, -⟩ := zg_is (hO.2.2.1.2.2.2.2 m hm g hg).2
  have hsw : s (15 + 22 * m + (14 + g)) = nI wn := by rw [(hO.2.1.2.2.2.1 m hm g hg).2]; exact ewn
  refine r_istore_n ok [(3, .int (nI g)), (2, .int (nI m)), (0, .ref a), (1, .int (x))] dL_tries_15 rfl (by decide) rfl ?_
  refine r_aload_n ok dL_tries_16 2 rfl rfl ?_
  refine r_iload_n ok dL_tries_17 1 rfl rfl ?_
  refine r_iload_n ok dL_tries_18 0 rfl rfl ?_
  refine r_iconst ok (zb true) dL_tries_19 (by rfl) ?_
  obtain ⟨fs5, hM6⟩ := zDm_o hD1
  obtain ⟨M2, hC3, hD4⟩ := q_strings K.2.1 N hO hD1 hm hg true ewn
  refine r_cV1 ok [] mi_X5_strings ci_X5 ml_L_63 im_X5_strings se_X5_strings dL_tries_20 hC3 hM6 rfl rfl ⟨Nat.le_of_ble_eq_true rfl, Nat.le_of_ble_eq_true rfl⟩ (Nat.le_of_ble_eq_true rfl) ⟨Nat.zero_le _, Nat.zero_le _⟩ ?_
  refine r_istore ok [(4, .int (nI wn)), (3, .int (nI g)), (2, .int (nI m)), (0, .ref a), (1, .int (x))] dL_tries_23 (by decide) rfl ?_
  refine r_aload_n ok dL_tries_25 3 rfl rfl ?_
  refine r_bipush ok (nI 63) dL_tries_26 (by rfl) ?_
  refine r_iconst ok (nI 0) dL_tries_28 (by rfl) ?_
  obtain ⟨fs10, hM11⟩ := zDm_o hD4
  obtain ⟨M7, hC8, hD9⟩ := q_order (r := zCost s (nI 63)) K.2.1 N hO hD4 (show 63 < 64 by omega) 0 (by omega) rfl
  refine r_cV1 ok [] mi_X5_order ci_X5 ml_L_47 im_X5_order se_X5_order dL_tries_29 hC8 hM11 rfl rfl ⟨Nat.le_of_ble_eq_true rfl, Nat.le_of_ble_eq_true rfl⟩ (Nat.le_of_ble_eq_true rfl) ⟨Nat.zero_le _, Nat.zero_le _⟩ ?_
  refine r_istore ok [(5, .int (zCost s (nI 63))), (4, .int (nI wn)), (3, .int (nI g)), (2, .int (nI m)), (0, .ref a), (1, .int (x))] dL_tries_32 (by decide) rfl ?_
  have hSa : zSM G M a s kn Pd Ed M7 := ⟨c, hc, sc, hi, sv, sg, pl, sH, hO, hH, hA, hD9⟩
  clear hO hH hA
  have j223 : ∀ (M5 : zM) (k5 : Nat) (n : Nat) (hn : n ≤ 50) (hz : zUd s u n = 0) (hnz : ∀ j, j < n → zUd s u j ≠ 0), zSM G M a s k5 Pd Ed M5 → zW K G 10 (zQ K G (N + 0) 0 0 (zPq (some (.int 1)) (fun M1 => ∃ kn1 : Nat, zSM G M a s kn1 Pd Ed M1))) 0 0 M5 N 223 [(9, .int (nI u)), (8, .int (nI n)), (6, .int (nI 1)), (0, .ref a)] [] := by
    intro M5 k5 n hn hz hnz h5
    refine r_iload ok dL_tries_223 2 rfl ?_
    refine r_if_eqN ok 266 (by omega) dL_tries_225 (by decide) (fun c => absurd c (by omega)) (fun _ => ?_)
    refine r_iload ok dL_tries_228 1 rfl ?_
    have hu0 : zUd s u 0 = u := rfl
    by_cases hn0 : n = 0
    · subst hn0
      refine r_if_neN ok 237 (by omega) dL_tries_230 (by decide) (fun c => absurd c (by omega)) (fun _ => ?_)
      refine r_iconst ok (nI 1) dL_tries_233 (by rfl) ?_
      refine r_goto ok 238 dL_tries_234 (by decide) ?_
      refine r_iload ok dL_tries_238 0 rfl ?_
      refine r_if_neN ok 247 (by omega) dL_tries_240 (by decide) (fun c => absurd c (by omega)) (fun _ => ?_)
      refine r_iconst ok (nI 1) dL_tries_243 (by rfl) ?_
      refine r_goto ok 248 dL_tries_244 (by decide) ?_
      refine r_icmp_neN ok 266 (by omega) (by omega) dL_tries_248 (by decide) (fun c => absurd c (by omega)) (fun _ => ?_)
      refine r_aload_n ok dL_tries_251 3 rfl rfl ?_
      refine r_bipush ok (nI 11) dL_tries_252 (by rfl) ?_
      obtain ⟨c, hc, sc, hi, sv, sg, pl, sH, hO, hH, hA, hD12⟩ := h5
      have hcu := zUn_of hO hu5 hu
      obtain ⟨fs16, hM17⟩ := zDm_o hD12
      obtain ⟨M13, hC14, hD15⟩ := q_count K.2.1 N hO hD12 11 (by omega) (r := nI u) (by show nI c.un = _; rw [hcu])
      refine r_cV1 ok [] mi_X5_count ci_X5 ml_L_53 im_X5_count se_X5_count dL_tries_254 hC14 hM17 rfl rfl ⟨Nat.le_of_ble_eq_true rfl, Nat.le_of_ble_eq_true rfl⟩ (Nat.le_of_ble_eq_true rfl) ⟨Nat.zero_le _, Nat.zero_le _⟩ ?_
      refine r_iload ok dL_tries_257 0 rfl ?_
      refine r_icmp_neN ok 266 (by omega) (by omega) dL_tries_259 (by decide) (fun c => absurd c (by omega)) (fun _ => ?_)
      refine r_iconst ok (nI 1) dL_tries_262 (by rfl) ?_
      refine r_goto ok 267 dL_tries_263 (by decide) ?_
      exact r_zret ok dL_tries_267 (by rfl) rfl ⟨rfl, k5, ⟨c, hc, sc, hi, sv, sg, pl, sH, hO, hH, hA, hD15⟩⟩
    · skip
      have hun := hnz 0 (by omega)
      rw [hu0] at hun
      refine r_if_neN ok 237 (by omega) dL_tries_230 (by decide) (fun _ => ?_) (fun c => absurd c (by omega))
      refine r_iconst ok (nI 0) dL_tries_237 (by rfl) ?_
      refine r_iload ok dL_tries_238 0 rfl ?_
      refine r_if_neN ok 247 (by omega) dL_tries_240 (by decide) (fun _ => ?_) (fun c => absurd c (by omega))
      refine r_iconst ok (nI 0) dL_tries_247 (by rfl) ?_
      refine r_icmp_neN ok 266 (by omega) (by omega) dL_tries_248 (by decide) (fun c => absurd c (by omega)) (fun _ => ?_)
      refine r_aload_n ok dL_tries_251 3 rfl rfl ?_
      refine r_bipush ok (nI 11) dL_tries_252 (by rfl) ?_
      obtain ⟨c, hc, sc, hi, sv, sg, pl, sH, hO, hH, hA, hD18⟩ := h5
      have hcu := zUn_of hO hu5 hu
      obtain ⟨fs22, hM23⟩ := zDm_o hD18
      obtain ⟨M19, hC20, hD21⟩ := q_count K.2.1 N hO hD18 11 (by omega) (r := nI u) (by show nI c.un = _; rw [hcu])
      refine r_cV1 ok [] mi_X5_count ci_X5 ml_L_53 im_X5_count se_X5_count dL_tries_254 hC20 hM23 rfl rfl ⟨Nat.le_of_ble_eq_true rfl, Nat.le_of_ble_eq_true rfl⟩ (Nat.le_of_ble_eq_true rfl) ⟨Nat.zero_le _, Nat.zero_le _⟩ ?_
      refine r_iload ok dL_tries_257 0 rfl ?_
      refine r_icmp_neN ok 266 (by omega) (by omega) dL_tries_259 (by decide) (fun c => absurd c (by omega)) (fun _ => ?_)
      refine r_iconst ok (nI 1) dL_tries_262 (by rfl) ?_
      refine r_goto ok 267 dL_tries_263 (by decide) ?_
      exact r_zret ok dL_tries_267 (by rfl) rfl ⟨rfl, k5, ⟨c, hc, sc, hi, sv, sg, pl, sH, hO, hH, hA, hD21⟩⟩
  have j151 : ∀ (M5 : zM) (k5 : Nat) (X7 : Int32), zSM G M a s k5 Pd Ed M5 → zW K G 10 (zQ K G (N + 0) 0 0 (zPq (some (.int 1)) (fun M1 => ∃ kn1 : Nat, zSM G M a s kn1 Pd Ed M1))) 0 0 M5 N 151 [(6, .int (nI 1)), (7, .int (X7)), (5, .int (zCost s (nI 63))), (4, .int (nI wn)), (3, .int (nI g)), (2, .int (nI m)), (0, .ref a), (1, .int (x))] [] := by
    intro M5 k5 X7 h5
    refine r_aload_n ok dL_tries_151 6 rfl rfl ?_
    obtain ⟨c, hc, sc, hi, sv, sg, pl, sH, hO, hH, hA, hD24⟩ := h5
    have hcu := zUn_of hO hu5 hu
    obtain ⟨fsu, hMu⟩ := zDm_o hD24
    obtain ⟨n, Mu, hn, hz, hnz, hCu, hDu⟩ := q_until K.2.1 N hO hD24
    rw [hcu] at hz
    have hnz2 : ∀ j, j < n → zUd s u j ≠ 0 := fun j hj => by rw [← hcu]; exact hnz j hj
    refine r_cV1 ok [] mi_X5_untilHome ci_X5 ml_L_93 im_X5_untilHome se_X5_untilHome dL_tries_152 hCu hMu rfl rfl ⟨Nat.le_of_ble_eq_true rfl, Nat.le_of_ble_eq_true rfl⟩ (Nat.le_of_ble_eq_true rfl) ⟨Nat.zero_le _, Nat.zero_le _⟩ ?_
    refine r_istore ok [(8, .int (nI n)), (6, .int (nI 1)), (7, .int (X7)), (5, .int (zCost s (nI 63))), (4, .int (nI wn)), (3, .int (nI g)), (2, .int (nI m)), (0, .ref a), (1, .int (x))] dL_tries_155 (by decide) rfl ?_
    refine r_aload_n ok dL_tries_157 7 rfl rfl ?_
    refine r_bipush ok (nI 11) dL_tries_158 (by rfl) ?_
    obtain ⟨fs28, hM29⟩ := zDm_o hDu
    obtain ⟨M25, hC26, hD27⟩ := q_count K.2.1 N hO hDu 11 (by omega) (r := nI u) (by show nI c.un = _; rw [hcu])
    refine r_cV1 ok [] mi_X5_count ci_X5 ml_L_53 im_X5_count se_X5_count dL_tries_160 hC26 hM29 rfl rfl ⟨Nat.le_of_ble_eq_true rfl, Nat.le_of_ble_eq_true rfl⟩ (Nat.le_of_ble_eq_true rfl) ⟨Nat.zero_le _, Nat.zero_le _⟩ ?_
    refine r_istore ok [(9, .int (nI u)), (8, .int (nI n)), (6, .int (nI 1)), (7, .int (X7)), (5, .int (zCost s (nI 63))), (4, .int (nI wn)), (3, .int (nI g)), (2, .int (nI m)), (0, .ref a), (1, .int (x))] dL_tries_163 (by decide) rfl ?_
    refine r_iload ok dL_tries_165 2 rfl ?_
    refine r_if_eqN ok 223 (by omega) dL_tries_167 (by decide) (fun c => absurd c (by omega)) (fun _ => ?_)
    refine r_iload ok dL_tries_170 1 rfl ?_
    refine r_if_leN ok 223 (by omega) dL_tries_172 (by decide) (fun cz => ?_) (fun cp => ?_)
    · skip
      refine zW.forget ?_ [0, 1, 2, 8] rfl
      exact j223 _ k5 n hn hz hnz2 ⟨c, hc, sc, hi, sv, sg, pl, sH, hO, hH, hA, hD27⟩
    · skip
      refine r_aload_n ok dL_tries_175 8 rfl rfl ?_
      refine r_bipush ok (nI 9) dL_tries_176 (by rfl) ?_
      obtain ⟨fs33, hM34⟩ := zDm_o hD27
      obtain ⟨M30, hC31, hD32⟩ := q_count (r := c.dy) K.2.1 N hO hD27 9 (by omega) rfl
      refine r_cV1 ok [] mi_X5_count ci_X5 ml_L_53 im_X5_count se_X5_count dL_tries_178 hC31 hM34 rfl rfl ⟨Nat.le_of_ble_eq_true rfl, Nat.le_of_ble_eq_true rfl⟩ (Nat.le_of_ble_eq_true rfl) ⟨Nat.zero_le _, Nat.zero_le _⟩ ?_
      refine r_iload ok dL_tries_181 1 rfl ?_
      refine r_iadd ok dL_tries_183 ?_
      refine r_sipush ok (nI 9999) dL_tries_184 (by rfl) ?_
      refine r_icmp_gt ok 223 dL_tries_187 (by decide) (fun cz => ?_) (fun cd => ?_)
      · skip
        refine zW.forget ?_ [0, 1, 2, 8] rfl
        exact j223 _ k5 n hn hz hnz2 ⟨c, hc, sc, hi, sv, sg, pl, sH, hO, hH, hA, hD32⟩
      · skip
        have hday : (s 9).toInt + n ≤ 9999 := by
          have h9 : s 9 = c.dy := hO.2.1.1.2.1
          have hdy := hO.2.2.1.2.1
          obtain ⟨d1, d2⟩ := hdy
          have e1 : (nI n).toInt = n := nI_toInt (by omega)
          have e2 : (nI 9999).toInt = 9999 := nI_toInt (by omega)
          have h1 := Int32.le_iff_toInt_le.mp (Int32.not_lt.mp cd)
          rw [zg_add (by omega) (by omega)] at h1
          rw [h9]; omega
        have hSb : zSM G M a s k5 Pd Ed M30 := ⟨c, hc, sc, hi, sv, sg, pl, sH, hO, hH, hA, hD32⟩
        refine r_aload_n ok dL_tries_190 8 rfl rfl ?_
        refine r_iload ok dL_tries_191 1 rfl ?_
        refine r_iconst ok (nI 1) dL_tries_193 (by rfl) ?_
        refine r_isubN ok (by omega) dL_tries_194 ?_
        refine r_iload ok dL_tries_195 0 rfl ?_
        refine r_iconst ok (zb true) dL_tries_197 (by rfl) ?_
        have hp1 := hnz2 (n - 1) (by omega)
        refine r_cSq ok [] mi_L_passes ml_L_96 sm_L_passes dL_tries_198 (yl_passes K.2.1 hSb hu5 hu (by omega) (by omega) true (decide_eq_true (by omega)).symm) rfl rfl ⟨Nat.le_of_ble_eq_true rfl, Nat.le_of_ble_eq_true rfl⟩ (Nat.le_of_ble_eq_true rfl) ⟨Nat.zero_le _, Nat.zero_le _⟩ (fun M35 hD36 => ?_)
        obtain ⟨k6, hSc⟩ := hD36
        refine r_if_eq ok 220 dL_tries_201 (by decide) (fun c => absurd c (by decide)) (fun _ => ?_)
        refine r_aload_n ok dL_tries_204 8 rfl rfl ?_
        refine r_iload ok dL_tries_205 1 rfl ?_
        refine r_iload ok dL_tries_207 0 rfl ?_
        refine r_iconst ok (zb false) dL_tries_209 (by rfl) ?_
        refine r_cSq ok [] mi_L_passes ml_L_96 sm_L_passes dL_tries_210 (yl_passes K.2.1 hSc hu5 hu hn hday false (decide_eq_false (by omega)).symm) rfl rfl ⟨Nat.le_of_ble_eq_true rfl, Nat.le_of_ble_eq_true rfl⟩ (Nat.le_of_ble_eq_true rfl) ⟨Nat.zero_le _, Nat.zero_le _⟩ (fun M37 hD38 => ?_)
        obtain ⟨k7, hSd⟩ := hD38
        refine r_if_eq ok 220 dL_tries_213 (by decide) (fun c => absurd c (by decide)) (fun _ => ?_)
        refine r_iconst ok (nI 1) dL_tries_216 (by rfl) ?_
        refine r_goto ok 221 dL_tries_217 (by decide) ?_
        refine r_istore ok [(6, .int (nI 1)), (9, .int (nI u)), (8, .int (nI n)), (7, .int (X7)), (5, .int (zCost s (nI 63))), (4, .int (nI wn)), (3, .int (nI g)), (2, .int (nI m)), (0, .ref a), (1, .int (x))] dL_tries_221 (by decide) rfl ?_
        refine zW.forget ?_ [1, 2, 0, 8] rfl
        exact j223 _ k7 n hn hz hnz2 hSd
  have j132 : ∀ (M5 : zM) (k5 : Nat) (X7 : Int32), zSM G M a s k5 Pd Ed M5 → zW K G 10 (zQ K G (N + 0) 0 0 (zPq (some (.int 1)) (fun M1 => ∃ kn1 : Nat, zSM G M a s kn1 Pd Ed M1))) 0 0 M5 N 132 [(7, .int (X7)), (6, .int (nI 1)), (5, .int (zCost s (nI 63))), (4, .int (nI wn)), (3, .int (nI g)), (2, .int (nI m)), (0, .ref a), (1, .int (x))] [] := by
    intro M5 k5 X7 h5
    refine r_aload_n ok dL_tries_132 6 rfl rfl ?_
    refine r_bipush ok (nI 63) dL_tries_133 (by rfl) ?_
    refine r_iconst ok (nI 0) dL_tries_135 (by rfl) ?_
    obtain ⟨c, hc, sc, hi, sv, sg, pl, sH, hO, hH, hA, hD39⟩ := h5
    obtain ⟨fs43, hM44⟩ := zDm_o hD39
    obtain ⟨M40, hC41, hD42⟩ := q_order (r := zCost s (nI 63)) K.2.1 N hO hD39 (show 63 < 64 by omega) 0 (by omega) rfl
    refine r_cV1 ok [] mi_X5_order ci_X5 ml_L_47 im_X5_order se_X5_order dL_tries_136 hC41 hM44 rfl rfl ⟨Nat.le_of_ble_eq_true rfl, Nat.le_of_ble_eq_true rfl⟩ (Nat.le_of_ble_eq_true rfl) ⟨Nat.zero_le _, Nat.zero_le _⟩ ?_
    refine r_iload ok dL_tries_139 2 rfl ?_
    refine r_icmp_ne ok 148 dL_tries_141 (by decide) (fun c => (c rfl).elim) (fun _ => ?_)
    refine r_iconst ok (nI 1) dL_tries_144 (by rfl) ?_
    refine r_goto ok 149 dL_tries_145 (by decide) ?_
    refine r_istore ok [(6, .int (nI 1)), (7, .int (X7)), (5, .int (zCost s (nI 63))), (4, .int (nI wn)), (3, .int (nI g)), (2, .int (nI m)), (0, .ref a), (1, .int (x))] dL_tries_149 (by decide) rfl ?_
    refine zW.forget ?_ [0, 1, 2, 3, 4, 5, 6, 7] rfl
    exact j151 _ k5 X7 ⟨c, hc, sc, hi, sv, sg, pl, sH, hO, hH, hA, hD42⟩
  have j95 : ∀ (M5 : zM) (k5 : Nat) (X7 : Int32) (hX : ¬ wn = 20 → zCost (upd s (15 + 22 * m + (14 + g)) (nI 20)) (nI 63) = zCost s (nI 63) + X7) (hk5 : k5 ≤ 6), zSM G M a s k5 Pd Ed M5 → zW K G 10 (zQ K G (N + 0) 0 0 (zPq (some (.int 1)) (fun M1 => ∃ kn1 : Nat, zSM G M a s kn1 Pd Ed M1))) 0 0 M5 N 95 [(6, .int (nI 1)), (5, .int (zCost s (nI 63))), (4, .int (nI wn)), (3, .int (nI g)), (2, .int (nI m)), (0, .ref a), (1, .int (x))] [.int (X7)] := by
    intro M5 k5 X7 hX hk5 h5
    have hrk5 := zRecK_le hk5
    refine r_istore ok [(7, .int (X7)), (6, .int (nI 1)), (5, .int (zCost s (nI 63))), (4, .int (nI wn)), (3, .int (nI g)), (2, .int (nI m)), (0, .ref a), (1, .int (x))] dL_tries_95 (by decide) rfl ?_
    refine r_iload ok dL_tries_97 1 rfl ?_
    refine r_if_eqN ok 148 (by omega) dL_tries_99 (by decide) (fun c => absurd c (by omega)) (fun _ => ?_)
    refine r_iload ok dL_tries_102 3 rfl ?_
    refine r_bipush ok (nI 20) dL_tries_104 (by rfl) ?_
    refine r_icmp_eqN ok 132 (by omega) (by omega) dL_tries_106 (by decide) (fun c20 => ?_) (fun n20 => ?_)
    · skip
      refine zW.forget ?_ [0, 1, 2, 3, 4, 5, 6, 7] rfl
      exact j132 _ k5 X7 h5
    · skip
      refine r_aload_n ok dL_tries_109 6 rfl rfl ?_
      refine r_iload_n ok dL_tries_110 5 rfl rfl ?_
      refine r_iload_n ok dL_tries_111 4 rfl rfl ?_
      refine r_bipush ok (nI 20) dL_tries_112 (by rfl) ?_
      obtain ⟨fs48, hM49⟩ := zSM_o h5
      obtain ⟨M45, hC46, hS47⟩ := t_want K.2.1 N h5 hm hg
      refine r_cV1 ok [] mi_X5_want ci_X5 ml_L_15 im_X5_want se_X5_want dL_tries_114 hC46 hM49 rfl rfl ⟨Nat.le_of_ble_eq_true rfl, Nat.le_of_ble_eq_true rfl⟩ (Nat.le_of_ble_eq_true rfl) ⟨Nat.zero_le _, Nat.zero_le _⟩ ?_
      refine r_iload ok dL_tries_117 2 rfl ?_
      refine r_iload ok dL_tries_119 0 rfl ?_
      refine r_iadd ok dL_tries_121 ?_
      refine r_icmp_ne ok 148 dL_tries_122 (by decide) (fun c => (c (hX n20)).elim) (fun _ => ?_)
      refine r_aload_n ok dL_tries_125 6 rfl rfl ?_
      obtain ⟨fs53, hM54⟩ := zST_o hS47
      obtain ⟨M50, hC51, hS52⟩ := t_undo K.2.1 N hS47
      refine r_cV1 ok [] mi_X5_undo ci_X5 ml_L_86 im_X5_undo se_X5_undo dL_tries_126 hC51 hM54 rfl rfl ⟨Nat.le_of_ble_eq_true rfl, Nat.le_of_ble_eq_true rfl⟩ (Nat.le_of_ble_eq_true rfl) ⟨Nat.zero_le _, Nat.zero_le _⟩ ?_
      refine r_if_ltN ok 148 (by omega) dL_tries_129 (by decide) (fun c => c.elim) (fun _ => ?_)
      refine zW.forget ?_ [0, 1, 2, 3, 4, 5, 6, 7] rfl
      exact j132 _ _ X7 hS52
  have j66 : ∀ (M5 : zM) (k5 : Nat) , zSM G M a s k5 Pd Ed M5 → zW K G 10 (zQ K G (N + 0) 0 0 (zPq (some (.int 1)) (fun M1 => ∃ kn1 : Nat, zSM G M a s kn1 Pd Ed M1))) 0 0 M5 N 66 [(5, .int (zCost s (nI 63))), (4, .int (nI wn)), (3, .int (nI g)), (2, .int (nI m)), (0, .ref a), (1, .int (x))] [] := by
    intro M5 k5  h5
    refine r_iconst ok (nI 1) dL_tries_66 (by rfl) ?_
    refine r_goto ok 71 dL_tries_67 (by decide) ?_
    refine r_istore ok [(6, .int (nI 1)), (5, .int (zCost s (nI 63))), (4, .int (nI wn)), (3, .int (nI g)), (2, .int (nI m)), (0, .ref a), (1, .int (x))] dL_tries_71 (by decide) rfl ?_
    refine r_iload ok dL_tries_73 2 rfl ?_
    refine r_bipush ok (nI 20) dL_tries_75 (by rfl) ?_
    refine r_icmp_neN ok 84 (by omega) (by omega) dL_tries_77 (by decide) (fun n20 => ?_) (fun c20 => ?_)
    · skip
      refine r_aload_n ok dL_tries_84 5 rfl rfl ?_
      refine r_iload_n ok dL_tries_85 4 rfl rfl ?_
      refine r_iload_n ok dL_tries_86 3 rfl rfl ?_
      refine r_bipush ok (nI 20) dL_tries_87 (by rfl) ?_
      refine r_iload ok dL_tries_89 2 rfl ?_
      refine r_isubN ok (by omega) dL_tries_91 ?_
      obtain ⟨c, hc, sc, hi, sv, sg, pl, sH, hO, hH, hA, hD55⟩ := h5
      obtain ⟨fs59, hM60⟩ := zDm_o hD55
      obtain ⟨M56, hC57, hD58⟩ := q_more K.2.1 N hO hD55 hm hg (show 1 ≤ 20 - wn ∧ 20 - wn ≤ 20 by omega)
      refine r_cV1 ok [] mi_X5_ifMore ci_X5 ml_L_90 im_X5_ifMore se_X5_ifMore dL_tries_92 hC57 hM60 rfl rfl ⟨Nat.le_of_ble_eq_true rfl, Nat.le_of_ble_eq_true rfl⟩ (Nat.le_of_ble_eq_true rfl) ⟨Nat.zero_le _, Nat.zero_le _⟩ ?_
      refine zW.forget ?_ [0, 1, 2, 3, 4, 5, 6] rfl
      exact j95 _ k5 _ (fun _ => zMore20 s hsw (by omega)) hH.1 ⟨c, hc, sc, hi, sv, sg, pl, sH, hO, hH, hA, hD58⟩
    · skip
      refine r_iconst ok (nI 0) dL_tries_80 (by rfl) ?_
      refine r_goto ok 95 dL_tries_81 (by decide) ?_
      refine zW.forget ?_ [0, 1, 2, 3, 4, 5, 6] rfl
      exact j95 _ k5 _ (fun z => absurd c20 z) (zSM_k h5) h5
  refine r_iload ok dL_tries_34 1 rfl ?_
  refine r_bipush ok (nI 20) dL_tries_36 (by rfl) ?_
  refine r_icmp_eqN ok 66 (by omega) (by omega) dL_tries_38 (by decide) (fun c20 => ?_) (fun n20 => ?_)
  · skip
    refine zW.forget ?_ [0, 1, 2, 3, 4, 5] rfl
    exact j66 _ kn hSa
  · skip
    refine r_aload_n ok dL_tries_41 4 rfl rfl ?_
    refine r_iload_n ok dL_tries_42 3 rfl rfl ?_
    refine r_iload_n ok dL_tries_43 2 rfl rfl ?_
    refine r_bipush ok (nI 20) dL_tries_44 (by rfl) ?_
    obtain ⟨fs64, hM65⟩ := zSM_o hSa
    obtain ⟨M61, hC62, hS63⟩ := t_want K.2.1 N hSa hm hg
    refine r_cV1 ok [] mi_X5_want ci_X5 ml_L_15 im_X5_want se_X5_want dL_tries_46 hC62 hM65 rfl rfl ⟨Nat.le_of_ble_eq_true rfl, Nat.le_of_ble_eq_true rfl⟩ (Nat.le_of_ble_eq_true rfl) ⟨Nat.zero_le _, Nat.zero_le _⟩ ?_
    refine r_aload_n ok dL_tries_49 4 rfl rfl ?_
    refine r_bipush ok (nI 63) dL_tries_50 (by rfl) ?_
    refine r_iconst ok (nI 0) dL_tries_52 (by rfl) ?_
    obtain ⟨c, hc, sc, hi, sv, sg, pl, sH, c0, hO, hH, hk0, htop, hold, hD66⟩ := hS63
    obtain ⟨fs70, hM71⟩ := zDm_o hD66
    obtain ⟨M67, hC68, hD69⟩ := q_order (r := zCost (upd s (15 + 22 * m + (14 + g)) (nI 20)) (nI 63)) K.2.1 N hO hD66 (show 63 < 64 by omega) 0 (by omega) rfl
    refine r_cV1 ok [.int (zCost (upd s (15 + 22 * m + (14 + g)) (nI 20)) (nI 63))] mi_X5_order ci_X5 ml_L_47 im_X5_order se_X5_order dL_tries_53 hC68 hM71 rfl rfl ⟨Nat.le_of_ble_eq_true rfl, Nat.le_of_ble_eq_true rfl⟩ (Nat.le_of_ble_eq_true rfl) ⟨Nat.zero_le _, Nat.zero_le _⟩ ?_
    refine r_icmp_ne ok 70 dL_tries_56 (by decide) (fun c => (c rfl).elim) (fun _ => ?_)
    have hST : zST G M a (upd s (15 + 22 * m + (14 + g)) (nI 20)) s (zRecK kn) Pd Ed M67 := ⟨c, hc, sc, hi, sv, sg, pl, sH, c0, hO, hH, hk0, htop, hold, hD69⟩
    have hk9 := hH.1
    clear hO hH
    refine r_aload_n ok dL_tries_59 4 rfl rfl ?_
    obtain ⟨fs75, hM76⟩ := zST_o hST
    obtain ⟨M72, hC73, hS74⟩ := t_undo K.2.1 N hST
    refine r_cV1 ok [] mi_X5_undo ci_X5 ml_L_86 im_X5_undo se_X5_undo dL_tries_60 hC73 hM76 rfl rfl ⟨Nat.le_of_ble_eq_true rfl, Nat.le_of_ble_eq_true rfl⟩ (Nat.le_of_ble_eq_true rfl) ⟨Nat.zero_le _, Nat.zero_le _⟩ ?_
    refine r_if_ltN ok 70 (by omega) dL_tries_63 (by decide) (fun c => c.elim) (fun _ => ?_)
    refine zW.forget ?_ [0, 1, 2, 3, 4, 5] rfl
    exact j66 _ _ hS74
