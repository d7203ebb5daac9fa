set_option maxHeartbeats 4000000 in
set_option maxRecDepth 100000 in
theorem c_X5_remember (l : Launch) (G : zG) (M : zM) (N a : Nat) (c t : zCl) (hc sc : Nat → zCl) (kp : Int32) (hi : Nat → Nat) (sv : Nat → Bool) (sg : Nat → Int32) (pl : Int32) (d : zOd) (kn : Nat)  (hk : kn ≤ 6) (hhi : ∀ i, i < 6 → hi i < 6) (hu : c.un ≤ 5) (hpi : ∀ i, i < 5 → c.pi i < 5) (hhp : ∀ j, j < 6 → ∀ i, i < 5 → (hc j).pi i < 5) : zC l G yX5_remember cX5_remember 3 (none) 5 134 0 0 [.ref a] (hoM G M a c t hc sc (nI kn) hi sv sg pl d) N (zP none (hoM G M a c t (zRmC hc hi kn c) sc (nI (zRecK kn)) (zRmI hi kn) sv sg pl d)) := by
  refine zC.of (by decide +kernel) (Nat.le_of_ble_eq_true rfl) ?_
  intro K hKl ok
  subst hKl
  show zW K G 3 _ 0 0 _ N 0 [(0, .ref a)] []
  refine r_aload_n ok dX5_remember_0 0 rfl rfl ?_
  refine r_getf ok ci_X5 fl_X5_191 (by decide) dX5_remember_1 ho_o rfl ?_
  refine r_bipush ok (nI 6) dX5_remember_4 (by rfl) ?_
  refine r_icmp_ltN ok 56 (by omega) (by omega) dX5_remember_6 (by decide) (fun c6_1 => ?_) (fun c6_1 => ?_)
  · skip
    have hJ := hhi kn (by omega)
    have hk6 : ¬ kn = 6 := by omega
    refine r_aload_n ok dX5_remember_56 0 rfl rfl ?_
    refine r_getf ok ci_X5 fl_X5_19 (by decide) dX5_remember_57 ho_o rfl ?_
    refine r_aload_n ok dX5_remember_60 0 rfl rfl ?_
    refine r_getf ok ci_X5 fl_X5_191 (by decide) dX5_remember_61 ho_o rfl ?_
    refine r_aaldN ok 5 (Or.inr (Or.inr rfl)) (a + 144 + 66 * (hi kn)) (by omega) (by omega) dX5_remember_64 ho_h (hoH_at (by omega)) ?_
    refine r_aload_n ok dX5_remember_65 0 rfl rfl ?_
    refine r_getf ok ci_X5 fl_X5_10 (by decide) dX5_remember_66 ho_o rfl ?_
    refine zW.to (M' := cbM G (cbM G (hoM G M a c t hc sc (nI kn) hi sv sg pl d) (a + 1) c.st c.dy c.x c.br c.sp c.wa c.ac c.ps c.pp c.pu c.lo (nI c.un) c.op c.pi c.cn c.vl c.du c.io c.hp c.hs) (a + 144 + 66 * (hi kn)) ((hc (hi kn)).st) ((hc (hi kn)).dy) ((hc (hi kn)).x) ((hc (hi kn)).br) ((hc (hi kn)).sp) ((hc (hi kn)).wa) ((hc (hi kn)).ac) ((hc (hi kn)).ps) ((hc (hi kn)).pp) ((hc (hi kn)).pu) ((hc (hi kn)).lo) (nI (hc (hi kn)).un) ((hc (hi kn)).op) ((hc (hi kn)).pi) ((hc (hi kn)).cn) ((hc (hi kn)).vl) ((hc (hi kn)).du) ((hc (hi kn)).io) ((hc (hi kn)).hp) ((hc (hi kn)).hs)) ?_ (((congrArg (fun z => cbM G z (a + 144 + 66 * (hi kn)) ((hc (hi kn)).st) ((hc (hi kn)).dy) ((hc (hi kn)).x) ((hc (hi kn)).br) ((hc (hi kn)).sp) ((hc (hi kn)).wa) ((hc (hi kn)).ac) ((hc (hi kn)).ps) ((hc (hi kn)).pp) ((hc (hi kn)).pu) ((hc (hi kn)).lo) (nI (hc (hi kn)).un) ((hc (hi kn)).op) ((hc (hi kn)).pi) ((hc (hi kn)).cn) ((hc (hi kn)).vl) ((hc (hi kn)).du) ((hc (hi kn)).io) ((hc (hi kn)).hp) ((hc (hi kn)).hs)) ho_cI).trans (ho_hcs (by omega)))).symm rfl rfl
    refine r_cV0 ok [] mi_X0_copyFrom ci_X0 ml_X5_227 im_X0_copyFrom se_X0_copyFrom dX5_remember_69 (c_X0_copyFrom K.2.1 G (hoM G M a c t hc sc (nI kn) hi sv sg pl d) N (a + 1) c (a + 144 + 66 * (hi kn)) (hc (hi kn))   (by omega) (hhp _ (by first | assumption | omega)) hpi (by omega)) cb_o rfl rfl ⟨Nat.le_of_ble_eq_true rfl, Nat.le_of_ble_eq_true rfl⟩ (Nat.le_of_ble_eq_true rfl) ⟨Nat.zero_le _, Nat.zero_le _⟩ ?_
    refine zW.to (M' := hoM G M a c t (va_up hc (hi kn) (zCpy ((hc (hi kn))) c)) sc (nI kn) hi sv sg pl d) ?_ (((congrArg (fun z => cbM G z (a + 144 + 66 * (hi kn)) ((zCpy ((hc (hi kn))) c).st) ((zCpy ((hc (hi kn))) c).dy) ((zCpy ((hc (hi kn))) c).x) ((zCpy ((hc (hi kn))) c).br) ((zCpy ((hc (hi kn))) c).sp) ((zCpy ((hc (hi kn))) c).wa) ((zCpy ((hc (hi kn))) c).ac) ((zCpy ((hc (hi kn))) c).ps) ((zCpy ((hc (hi kn))) c).pp) ((zCpy ((hc (hi kn))) c).pu) ((zCpy ((hc (hi kn))) c).lo) (nI (zCpy ((hc (hi kn))) c).un) ((zCpy ((hc (hi kn))) c).op) ((zCpy ((hc (hi kn))) c).pi) ((zCpy ((hc (hi kn))) c).cn) ((zCpy ((hc (hi kn))) c).vl) ((zCpy ((hc (hi kn))) c).du) ((zCpy ((hc (hi kn))) c).io) ((zCpy ((hc (hi kn))) c).hp) ((zCpy ((hc (hi kn))) c).hs)) ho_cI).trans (ho_hc (by omega) (zCpy ((hc (hi kn))) c)))) rfl rfl
    refine r_aload_n ok dX5_remember_72 0 rfl rfl ?_
    refine r_dup ok dX5_remember_73 rfl ?_
    refine r_getf ok ci_X5 fl_X5_191 (by decide) dX5_remember_74 ho_o rfl ?_
    refine r_iconst ok (nI 1) dX5_remember_77 (by rfl) ?_
    refine r_iaddN ok dX5_remember_78 ?_
    refine r_putf ok ci_X5 fl_X5_191 (by decide) rfl rfl rfl dX5_remember_79 ho_o rfl (how_o (nI (kn + 1))) ?_
    exact r_vret ok dX5_remember_82 rfl ⟨rfl, (by first | (simp only [zRmC, zRmI, zRmJ, zRecK, if_neg hk6]; done) | (simp only [zRmC, zRmI, zRmJ, zRecK, if_pos, va_up_self]))⟩
  · skip
    obtain rfl : kn = 6 := by omega
    have h0 := hhi 0 (by omega)
    refine r_aload_n ok dX5_remember_9 0 rfl rfl ?_
    refine r_getf ok ci_X5 fl_X5_19 (by decide) dX5_remember_10 ho_o rfl ?_
    refine r_iconst ok (nI 0) dX5_remember_13 (by rfl) ?_
    refine r_aaldN ok 5 (Or.inr (Or.inr rfl)) (a + 144 + 66 * (hi 0)) (by omega) (by omega) dX5_remember_14 ho_h (hoH_at (by omega)) ?_
    refine r_astore_n ok [(1, .ref (a + 144 + 66 * (hi 0))), (0, .ref a)] dX5_remember_15 rfl (by decide) rfl ?_
    refine r_iconst ok (nI 1) dX5_remember_16 (by rfl) ?_
    refine r_istore_n ok [(2, .int (nI 1)), (1, .ref (a + 144 + 66 * (hi 0))), (0, .ref a)] dX5_remember_17 rfl (by decide) rfl ?_
    have L2 : ∀ (nL2 : Nat) (k : Nat), ((k + nL2 = 6)) → (1 ≤ k) → zW K G 3 (zQ K G (N + 0) 0 0 (zP none (hoM G M a c t (zRmC hc hi 6 c) sc (nI (zRecK 6)) (zRmI hi 6) sv sg pl d))) 0 0 (hoM G M a c t hc sc (nI 6) (zRotS hi (k - 1)) sv sg pl d) N 18 [(0, .ref a), (1, .ref (a + 144 + 66 * (hi 0))), (2, .int (nI (k)))] [] := by
      intro nL2
      induction nL2 with
      | zero =>
        intro k hk_k h1
        obtain rfl : 6 = k := by omega
        refine r_iload_n ok dX5_remember_18 2 rfl rfl ?_
        refine r_bipush ok (nI 6) dX5_remember_19 (by rfl) ?_
        refine r_icmp_geN ok 44 (by omega) (by omega) dX5_remember_21 (by decide) (fun _ => ?_) (fun c => absurd c (by decide))
        refine r_aload_n ok dX5_remember_44 0 rfl rfl ?_
        refine r_getf ok ci_X5 fl_X5_19 (by decide) dX5_remember_45 ho_o rfl ?_
        refine r_iconst ok (nI 5) dX5_remember_48 (by rfl) ?_
        refine r_aload_n ok dX5_remember_49 1 rfl rfl ?_
        refine r_aastN ok 5 ci_X0 rfl (by omega) (by omega) dX5_remember_50 ho_h (ho_rh (by omega)) ((congrArg (zu _ _) (congrArg (fun z => zR (G.2.1 5) 6 z) (hoH_up (by omega)))).trans (how_h _)) ?_
        have hJ : va_up (zRotS hi (6 - 1)) 5 (hi 0) 5 < 6 := by rw [va_up_self]; exact h0
        refine r_aload_n ok dX5_remember_51 0 rfl rfl ?_
        refine r_iconst ok (nI 5) dX5_remember_52 (by rfl) ?_
        refine r_putf ok ci_X5 fl_X5_191 (by decide) rfl rfl rfl dX5_remember_53 ho_o rfl (how_o (nI 5)) ?_
        refine r_aload_n ok dX5_remember_56 0 rfl rfl ?_
        refine r_getf ok ci_X5 fl_X5_19 (by decide) dX5_remember_57 ho_o rfl ?_
        refine r_aload_n ok dX5_remember_60 0 rfl rfl ?_
        refine r_getf ok ci_X5 fl_X5_191 (by decide) dX5_remember_61 ho_o rfl ?_
        refine r_aaldN ok 5 (Or.inr (Or.inr rfl)) (a + 144 + 66 * (va_up (zRotS hi (6 - 1)) 5 (hi 0) 5)) (by omega) (by omega) dX5_remember_64 ho_h (hoH_at (by omega)) ?_
        refine r_aload_n ok dX5_remember_65 0 rfl rfl ?_
        refine r_getf ok ci_X5 fl_X5_10 (by decide) dX5_remember_66 ho_o rfl ?_
        refine zW.to (M' := cbM G (cbM G (hoM G M a c t hc sc (nI 5) (va_up (zRotS hi (6 - 1)) 5 (hi 0)) sv sg pl d) (a + 1) c.st c.dy c.x c.br c.sp c.wa c.ac c.ps c.pp c.pu c.lo (nI c.un) c.op c.pi c.cn c.vl c.du c.io c.hp c.hs) (a + 144 + 66 * (va_up (zRotS hi (6 - 1)) 5 (hi 0) 5)) ((hc (va_up (zRotS hi (6 - 1)) 5 (hi 0) 5)).st) ((hc (va_up (zRotS hi (6 - 1)) 5 (hi 0) 5)).dy) ((hc (va_up (zRotS hi (6 - 1)) 5 (hi 0) 5)).x) ((hc (va_up (zRotS hi (6 - 1)) 5 (hi 0) 5)).br) ((hc (va_up (zRotS hi (6 - 1)) 5 (hi 0) 5)).sp) ((hc (va_up (zRotS hi (6 - 1)) 5 (hi 0) 5)).wa) ((hc (va_up (zRotS hi (6 - 1)) 5 (hi 0) 5)).ac) ((hc (va_up (zRotS hi (6 - 1)) 5 (hi 0) 5)).ps) ((hc (va_up (zRotS hi (6 - 1)) 5 (hi 0) 5)).pp) ((hc (va_up (zRotS hi (6 - 1)) 5 (hi 0) 5)).pu) ((hc (va_up (zRotS hi (6 - 1)) 5 (hi 0) 5)).lo) (nI (hc (va_up (zRotS hi (6 - 1)) 5 (hi 0) 5)).un) ((hc (va_up (zRotS hi (6 - 1)) 5 (hi 0) 5)).op) ((hc (va_up (zRotS hi (6 - 1)) 5 (hi 0) 5)).pi) ((hc (va_up (zRotS hi (6 - 1)) 5 (hi 0) 5)).cn) ((hc (va_up (zRotS hi (6 - 1)) 5 (hi 0) 5)).vl) ((hc (va_up (zRotS hi (6 - 1)) 5 (hi 0) 5)).du) ((hc (va_up (zRotS hi (6 - 1)) 5 (hi 0) 5)).io) ((hc (va_up (zRotS hi (6 - 1)) 5 (hi 0) 5)).hp) ((hc (va_up (zRotS hi (6 - 1)) 5 (hi 0) 5)).hs)) ?_ (((congrArg (fun z => cbM G z (a + 144 + 66 * (va_up (zRotS hi (6 - 1)) 5 (hi 0) 5)) ((hc (va_up (zRotS hi (6 - 1)) 5 (hi 0) 5)).st) ((hc (va_up (zRotS hi (6 - 1)) 5 (hi 0) 5)).dy) ((hc (va_up (zRotS hi (6 - 1)) 5 (hi 0) 5)).x) ((hc (va_up (zRotS hi (6 - 1)) 5 (hi 0) 5)).br) ((hc (va_up (zRotS hi (6 - 1)) 5 (hi 0) 5)).sp) ((hc (va_up (zRotS hi (6 - 1)) 5 (hi 0) 5)).wa) ((hc (va_up (zRotS hi (6 - 1)) 5 (hi 0) 5)).ac) ((hc (va_up (zRotS hi (6 - 1)) 5 (hi 0) 5)).ps) ((hc (va_up (zRotS hi (6 - 1)) 5 (hi 0) 5)).pp) ((hc (va_up (zRotS hi (6 - 1)) 5 (hi 0) 5)).pu) ((hc (va_up (zRotS hi (6 - 1)) 5 (hi 0) 5)).lo) (nI (hc (va_up (zRotS hi (6 - 1)) 5 (hi 0) 5)).un) ((hc (va_up (zRotS hi (6 - 1)) 5 (hi 0) 5)).op) ((hc (va_up (zRotS hi (6 - 1)) 5 (hi 0) 5)).pi) ((hc (va_up (zRotS hi (6 - 1)) 5 (hi 0) 5)).cn) ((hc (va_up (zRotS hi (6 - 1)) 5 (hi 0) 5)).vl) ((hc (va_up (zRotS hi (6 - 1)) 5 (hi 0) 5)).du) ((hc (va_up (zRotS hi (6 - 1)) 5 (hi 0) 5)).io) ((hc (va_up (zRotS hi (6 - 1)) 5 (hi 0) 5)).hp) ((hc (va_up (zRotS hi (6 - 1)) 5 (hi 0) 5)).hs)) ho_cI).trans (ho_hcs (by omega)))).symm rfl rfl
        refine r_cV0 ok [] mi_X0_copyFrom ci_X0 ml_X5_227 im_X0_copyFrom se_X0_copyFrom dX5_remember_69 (c_X0_copyFrom K.2.1 G (hoM G M a c t hc sc (nI 5) (va_up (zRotS hi (6 - 1)) 5 (hi 0)) sv sg pl d) N (a + 1) c (a + 144 + 66 * (va_up (zRotS hi (6 - 1)) 5 (hi 0) 5)) (hc (va_up (zRotS hi (6 - 1)) 5 (hi 0) 5))   (by omega) (hhp _ (by first | assumption | omega)) hpi (by omega)) cb_o rfl rfl ⟨Nat.le_of_ble_eq_true rfl, Nat.le_of_ble_eq_true rfl⟩ (Nat.le_of_ble_eq_true rfl) ⟨Nat.zero_le _, Nat.zero_le _⟩ ?_
        refine zW.to (M' := hoM G M a c t (va_up hc (va_up (zRotS hi (6 - 1)) 5 (hi 0) 5) (zCpy ((hc (va_up (zRotS hi (6 - 1)) 5 (hi 0) 5))) c)) sc (nI 5) (va_up (zRotS hi (6 - 1)) 5 (hi 0)) sv sg pl d) ?_ (((congrArg (fun z => cbM G z (a + 144 + 66 * (va_up (zRotS hi (6 - 1)) 5 (hi 0) 5)) ((zCpy ((hc (va_up (zRotS hi (6 - 1)) 5 (hi 0) 5))) c).st) ((zCpy ((hc (va_up (zRotS hi (6 - 1)) 5 (hi 0) 5))) c).dy) ((zCpy ((hc (va_up (zRotS hi (6 - 1)) 5 (hi 0) 5))) c).x) ((zCpy ((hc (va_up (zRotS hi (6 - 1)) 5 (hi 0) 5))) c).br) ((zCpy ((hc (va_up (zRotS hi (6 - 1)) 5 (hi 0) 5))) c).sp) ((zCpy ((hc (va_up (zRotS hi (6 - 1)) 5 (hi 0) 5))) c).wa) ((zCpy ((hc (va_up (zRotS hi (6 - 1)) 5 (hi 0) 5))) c).ac) ((zCpy ((hc (va_up (zRotS hi (6 - 1)) 5 (hi 0) 5))) c).ps) ((zCpy ((hc (va_up (zRotS hi (6 - 1)) 5 (hi 0) 5))) c).pp) ((zCpy ((hc (va_up (zRotS hi (6 - 1)) 5 (hi 0) 5))) c).pu) ((zCpy ((hc (va_up (zRotS hi (6 - 1)) 5 (hi 0) 5))) c).lo) (nI (zCpy ((hc (va_up (zRotS hi (6 - 1)) 5 (hi 0) 5))) c).un) ((zCpy ((hc (va_up (zRotS hi (6 - 1)) 5 (hi 0) 5))) c).op) ((zCpy ((hc (va_up (zRotS hi (6 - 1)) 5 (hi 0) 5))) c).pi) ((zCpy ((hc (va_up (zRotS hi (6 - 1)) 5 (hi 0) 5))) c).cn) ((zCpy ((hc (va_up (zRotS hi (6 - 1)) 5 (hi 0) 5))) c).vl) ((zCpy ((hc (va_up (zRotS hi (6 - 1)) 5 (hi 0) 5))) c).du) ((zCpy ((hc (va_up (zRotS hi (6 - 1)) 5 (hi 0) 5))) c).io) ((zCpy ((hc (va_up (zRotS hi (6 - 1)) 5 (hi 0) 5))) c).hp) ((zCpy ((hc (va_up (zRotS hi (6 - 1)) 5 (hi 0) 5))) c).hs)) ho_cI).trans (ho_hc (by omega) (zCpy ((hc (va_up (zRotS hi (6 - 1)) 5 (hi 0) 5))) c)))) rfl rfl
        refine r_aload_n ok dX5_remember_72 0 rfl rfl ?_
        refine r_dup ok dX5_remember_73 rfl ?_
        refine r_getf ok ci_X5 fl_X5_191 (by decide) dX5_remember_74 ho_o rfl ?_
        refine r_iconst ok (nI 1) dX5_remember_77 (by rfl) ?_
        refine r_iaddN ok dX5_remember_78 ?_
        refine r_putf ok ci_X5 fl_X5_191 (by decide) rfl rfl rfl dX5_remember_79 ho_o rfl (how_o (nI (5 + 1))) ?_
        exact r_vret ok dX5_remember_82 rfl ⟨rfl, (by first | (simp only [zRmC, zRmI, zRmJ, zRecK, if_neg hk6]; done) | (simp only [zRmC, zRmI, zRmJ, zRecK, if_pos, va_up_self]))⟩
      | succ nL2 ihL2 =>
        intro k hk_k h1
        refine r_iload_n ok dX5_remember_18 2 rfl rfl ?_
        refine r_bipush ok (nI 6) dX5_remember_19 (by rfl) ?_
        refine r_icmp_geN ok 44 (by omega) (by omega) dX5_remember_21 (by decide) (fun c21_4 => ?_) (fun c21_4 => ?_)
        · skip
          exact absurd c21_4 (by omega)
        · skip
          have hz := zRotS_lt hhi (k := k - 1) (j := k) (by omega) (by omega)
          refine r_aload_n ok dX5_remember_24 0 rfl rfl ?_
          refine r_getf ok ci_X5 fl_X5_19 (by decide) dX5_remember_25 ho_o rfl ?_
          refine r_iload_n ok dX5_remember_28 2 rfl rfl ?_
          refine r_iconst ok (nI 1) dX5_remember_29 (by rfl) ?_
          refine r_isubN ok (by omega) dX5_remember_30 ?_
          refine r_aload_n ok dX5_remember_31 0 rfl rfl ?_
          refine r_getf ok ci_X5 fl_X5_19 (by decide) dX5_remember_32 ho_o rfl ?_
          refine r_iload_n ok dX5_remember_35 2 rfl rfl ?_
          refine r_aaldN ok 5 (Or.inr (Or.inr rfl)) (a + 144 + 66 * (zRotS hi (k - 1) k)) (by omega) (by omega) dX5_remember_36 ho_h (hoH_at (by omega)) ?_
          refine r_aastN ok 5 ci_X0 rfl (by omega) (by omega) dX5_remember_37 ho_h (ho_rh (by omega)) ((congrArg (zu _ _) (congrArg (fun z => zR (G.2.1 5) 6 z) (hoH_up (by omega)))).trans (how_h _)) ?_
          refine r_iincN ok (c := 1) [(2, .int (nI (k + 1))), (0, .ref a), (1, .ref (a + 144 + 66 * (hi 0)))] dX5_remember_38 2 rfl (by rfl) (by decide) rfl ?_
          refine r_goto ok 18 dX5_remember_41 (by decide) ?_
          have q5 : (va_up (zRotS hi (k - 1)) (k - 1) (zRotS hi (k - 1) k) : Nat → Nat) = zRotS hi ((k + 1) - 1) := by first | with_reducible rfl | (exact zRot_k _ (by omega))
          refine zW.forget (lv' := [(0, .ref a), (1, .ref (a + 144 + 66 * (hi 0))), (2, .int (nI (k + 1)))]) ?_ [1, 2, 0] rfl
          refine zW.to ?_ (congrArg (fun z => hoM G M a c t hc sc (nI 6) z sv sg pl d) q5) rfl rfl
          exact ihL2 (k + 1) (by omega) (by omega)
    have q6 : (hi : Nat → Nat) = zRotS hi (1 - 1) := by first | with_reducible rfl | (exact (zRotS_0 _).symm)
    refine zW.forget (lv' := [(0, .ref a), (1, .ref (a + 144 + 66 * (hi 0))), (2, .int (nI 1))]) ?_ [2, 1, 0] rfl
    refine zW.to ?_ (congrArg (fun z => hoM G M a c t hc sc (nI 6) z sv sg pl d) q6) rfl rfl
    exact L2 (6 - 1) 1 (by omega) (by omega)
set_option maxHeartbeats 4000000 in
set_option maxRecDepth 100000 in
theorem c_X5_costOf (l : Launch) (G : zG) (M : zM) (N a : Nat) (c t : zCl) (hc sc : Nat → zCl) (kp : Int32) (hi : Nat → Nat) (sv : Nat → Bool) (sg : Nat → Int32) (pl : Int32) (d : zOd)  (mm : Int32)  : zC l G yX5_costOf cX5_costOf 2 (some .int) 3 67 0 0 [.ref a, .int (mm)] (hoM G M a c t hc sc kp hi sv sg pl d) N (zP (some (.int (zCoO (zGaO c mm d)))) (hoM G M a c t hc sc kp hi sv sg pl (zGaO c mm d))) := by
  refine zC.of (by decide +kernel) (Nat.le_of_ble_eq_true rfl) ?_
  intro K hKl ok
  subst hKl
  show zW K G 2 _ 0 0 _ N 0 [(0, .ref a), (1, .int (mm))] []
  refine r_aload_n ok dX5_costOf_0 0 rfl rfl ?_
  refine r_getf ok ci_X5 fl_X5_40 (by decide) dX5_costOf_1 ho_o rfl ?_
  refine r_aload_n ok dX5_costOf_4 0 rfl rfl ?_
  refine r_getf ok ci_X5 fl_X5_10 (by decide) dX5_costOf_5 ho_o rfl ?_
  refine r_iload_n ok dX5_costOf_8 1 rfl rfl ?_
  refine zW.to (M' := odM G (cbM G (hoM G M a c t hc sc kp hi sv sg pl d) (a + 1) c.st c.dy c.x c.br c.sp c.wa c.ac c.ps c.pp c.pu c.lo (nI c.un) c.op c.pi c.cn c.vl c.du c.io c.hp c.hs) (a + 138) d.og d.pr d.pc d.vl d.po d.pt d.sr) ?_ (((congrArg (fun z => odM G z (a + 138) d.og d.pr d.pc d.vl d.po d.pt d.sr) ho_cI).trans ho_dI)).symm rfl rfl
  refine r_cV0 ok [] mi_X1_gather ci_X1 ml_X5_118 im_X1_gather se_X1_gather dX5_costOf_9 (c_X1_gather K.2.1 G (hoM G M a c t hc sc kp hi sv sg pl d) N (a + 1) c.st c.dy c.x c.br c.sp c.wa c.ac c.ps c.pp c.pu c.lo (nI c.un) c.op c.pi c.cn c.vl c.du c.io c.hp c.hs (a + 138) d.og d.pr d.pc d.vl d.po d.pt d.sr  mm (by omega)) od_o rfl rfl ⟨Nat.le_of_ble_eq_true rfl, Nat.le_of_ble_eq_true rfl⟩ (Nat.le_of_ble_eq_true rfl) ⟨Nat.zero_le _, Nat.zero_le _⟩ ?_
  refine zW.to (M' := hoM G M a c t hc sc kp hi sv sg pl (zOd.mk (zOgF c.wa mm d.og) (zC0 d.pr (zPrT c.st (zOgF c.wa mm d.og)) 8) (lsum (zOgF c.wa mm d.og) 8) (lsum (zOvT c.st (zOgF c.wa mm d.og)) 8) (zOpo c.st (zOgF c.wa mm d.og)) d.pt d.sr)) ?_ (((congrArg (fun z => odM G z (a + 138) (zOgF c.wa mm d.og) (zC0 d.pr (zPrT c.st (zOgF c.wa mm d.og)) 8) (lsum (zOgF c.wa mm d.og) 8) (lsum (zOvT c.st (zOgF c.wa mm d.og)) 8) (zOpo c.st (zOgF c.wa mm d.og)) d.pt d.sr) ho_cI).trans (ho_d (zOd.mk (zOgF c.wa mm d.og) (zC0 d.pr (zPrT c.st (zOgF c.wa mm d.og)) 8) (lsum (zOgF c.wa mm d.og) 8) (lsum (zOvT c.st (zOgF c.wa mm d.og)) 8) (zOpo c.st (zOgF c.wa mm d.og)) d.pt d.sr)))) rfl rfl
  refine r_aload_n ok dX5_costOf_12 0 rfl rfl ?_
  refine r_getf ok ci_X5 fl_X5_40 (by decide) dX5_costOf_13 ho_o rfl ?_
  refine zW.to (M' := odM G (hoM G M a c t hc sc kp hi sv sg pl (zOd.mk (zOgF c.wa mm d.og) (zC0 d.pr (zPrT c.st (zOgF c.wa mm d.og)) 8) (lsum (zOgF c.wa mm d.og) 8) (lsum (zOvT c.st (zOgF c.wa mm d.og)) 8) (zOpo c.st (zOgF c.wa mm d.og)) d.pt d.sr)) (a + 138) (zOgF c.wa mm d.og) (zC0 d.pr (zPrT c.st (zOgF c.wa mm d.og)) 8) (lsum (zOgF c.wa mm d.og) 8) (lsum (zOvT c.st (zOgF c.wa mm d.og)) 8) (zOpo c.st (zOgF c.wa mm d.og)) d.pt d.sr) ?_ (ho_dI).symm rfl rfl
  refine r_cV1 ok [] mi_X1_cost ci_X1 ml_X5_125 im_X1_cost se_X1_cost dX5_costOf_16 (c_X1_cost K.2.1 G (hoM G M a c t hc sc kp hi sv sg pl (zOd.mk (zOgF c.wa mm d.og) (zC0 d.pr (zPrT c.st (zOgF c.wa mm d.og)) 8) (lsum (zOgF c.wa mm d.og) 8) (lsum (zOvT c.st (zOgF c.wa mm d.og)) 8) (zOpo c.st (zOgF c.wa mm d.og)) d.pt d.sr)) N (a + 138) (zOgF c.wa mm d.og) (zC0 d.pr (zPrT c.st (zOgF c.wa mm d.og)) 8) (lsum (zOgF c.wa mm d.og) 8) (lsum (zOvT c.st (zOgF c.wa mm d.og)) 8) (zOpo c.st (zOgF c.wa mm d.og)) d.pt d.sr   ) od_o rfl rfl ⟨Nat.le_of_ble_eq_true rfl, Nat.le_of_ble_eq_true rfl⟩ (Nat.le_of_ble_eq_true rfl) ⟨Nat.zero_le _, Nat.zero_le _⟩ ?_
  refine zW.to (M' := hoM G M a c t hc sc kp hi sv sg pl (zOd.mk (zOgF c.wa mm d.og) (zC0 d.pr (zPrT c.st (zOgF c.wa mm d.og)) 8) (lsum (zOgF c.wa mm d.og) 8) (lsum (zOvT c.st (zOgF c.wa mm d.og)) 8) (zOpo c.st (zOgF c.wa mm d.og)) d.pt d.sr)) ?_ (ho_dI) rfl rfl
  exact r_iret ok dX5_costOf_19 rfl ⟨congrArg (fun z => some (Value.int z)) (show (lsum (zOvT c.st (zOgF c.wa mm d.og)) 8) + (zOpo c.st (zOgF c.wa mm d.og)) = zCoO (zGaO c mm d) from by rfl), (by rfl)⟩
set_option maxHeartbeats 4000000 in
set_option maxRecDepth 100000 in
theorem c_X5_costWithDuty (l : Launch) (G : zG) (M : zM) (N a : Nat) (c t : zCl) (hc sc : Nat → zCl) (kp : Int32) (hi : Nat → Nat) (sv : Nat → Bool) (sg : Nat → Int32) (pl : Int32) (d : zOd)  (mm : Int32)  : zC l G yX5_costWithDuty cX5_costWithDuty 2 (some .int) 4 88 0 0 [.ref a, .int (mm)] (hoM G M a c t hc sc kp hi sv sg pl d) N (zP (some (.int (zDuO c mm d))) (hoM G M a c t hc sc kp hi sv sg pl (zGaO c mm d))) := by
  refine zC.of (by decide +kernel) (Nat.le_of_ble_eq_true rfl) ?_
  intro K hKl ok
  subst hKl
  show zW K G 2 _ 0 0 _ N 0 [(0, .ref a), (1, .int (mm))] []
  refine r_aload_n ok dX5_costWithDuty_0 0 rfl rfl ?_
  refine r_iload_n ok dX5_costWithDuty_1 1 rfl rfl ?_
  refine r_cV1 ok [] mi_X5_costOf ci_X5 ml_X5_92 im_X5_costOf se_X5_costOf dX5_costWithDuty_2 (c_X5_costOf K.2.1 G M N a c t hc sc kp hi sv sg pl d  mm ) ho_o rfl rfl ⟨Nat.le_of_ble_eq_true rfl, Nat.le_of_ble_eq_true rfl⟩ (Nat.le_of_ble_eq_true rfl) ⟨Nat.zero_le _, Nat.zero_le _⟩ ?_
  refine r_aload_n ok dX5_costWithDuty_5 0 rfl rfl ?_
  refine r_getf ok ci_X5 fl_X5_40 (by decide) dX5_costWithDuty_6 ho_o rfl ?_
  refine r_getf ok ci_X1 fl_X5_194 (by decide) dX5_costWithDuty_9 (ho_rd od_o) rfl ?_
  refine r_aload_n ok dX5_costWithDuty_12 0 rfl rfl ?_
  refine r_getf ok ci_X5 fl_X5_10 (by decide) dX5_costWithDuty_13 ho_o rfl ?_
  refine r_getf ok ci_X0 fl_X5_55 (by decide) dX5_costWithDuty_16 (ho_rc cb_o) rfl ?_
  refine r_cS1 ok [.int (zCoO (zGaO c mm d))] mi_X5_dutyOn ml_X5_198 sm_X5_dutyOn dX5_costWithDuty_19 (c_X5_dutyOn K.2.1 G (hoM G M a c t hc sc kp hi sv sg pl (zGaO c mm d)) N c.st ((zGaO c mm d).vl) ((a + 1 + 1)) (ho_rc cb_st)) rfl rfl ⟨Nat.le_of_ble_eq_true rfl, Nat.le_of_ble_eq_true rfl⟩ (Nat.le_of_ble_eq_true rfl) ⟨Nat.zero_le _, Nat.zero_le _⟩ ?_
  refine r_iadd ok dX5_costWithDuty_22 ?_
  exact r_iret ok dX5_costWithDuty_23 rfl ⟨congrArg (fun z => some (Value.int z)) (show (zCoO (zGaO c mm d)) + (zDutyC c.st ((zGaO c mm d).vl)) = zDuO c mm d from by rfl), rfl⟩
set_option maxHeartbeats 4000000 in
set_option maxRecDepth 100000 in
theorem c_X5_pencePartedAt (l : Launch) (G : zG) (M : zM) (N a : Nat) (c t : zCl) (hc sc : Nat → zCl) (kp : Int32) (hi : Nat → Nat) (sv : Nat → Bool) (sg : Nat → Int32) (pl : Int32) (d : zOd)  (mm : Int32)  : zC l G yX5_pencePartedAt cX5_pencePartedAt 2 (some .int) 5 109 0 0 [.ref a, .int (mm)] (hoM G M a c t hc sc kp hi sv sg pl d) N (zP (some (.int (zDuO c mm d + zDuO c (nI 63 - mm) (zGaO c mm d)))) (hoM G M a c t hc sc kp hi sv sg pl (zGaO c (nI 63 - mm) (zGaO c mm d)))) := by
  refine zC.of (by decide +kernel) (Nat.le_of_ble_eq_true rfl) ?_
  intro K hKl ok
  subst hKl
  show zW K G 2 _ 0 0 _ N 0 [(0, .ref a), (1, .int (mm))] []
  refine r_aload_n ok dX5_pencePartedAt_0 0 rfl rfl ?_
  refine r_iload_n ok dX5_pencePartedAt_1 1 rfl rfl ?_
  refine r_cV1 ok [] mi_X5_costWithDuty ci_X5 ml_X5_238 im_X5_costWithDuty se_X5_costWithDuty dX5_pencePartedAt_2 (c_X5_costWithDuty K.2.1 G M N a c t hc sc kp hi sv sg pl d  mm ) ho_o rfl rfl ⟨Nat.le_of_ble_eq_true rfl, Nat.le_of_ble_eq_true rfl⟩ (Nat.le_of_ble_eq_true rfl) ⟨Nat.zero_le _, Nat.zero_le _⟩ ?_
  refine r_aload_n ok dX5_pencePartedAt_5 0 rfl rfl ?_
  refine r_bipush ok (nI 63) dX5_pencePartedAt_6 (by rfl) ?_
  refine r_iload_n ok dX5_pencePartedAt_8 1 rfl rfl ?_
  refine r_isub ok dX5_pencePartedAt_9 ?_
  refine r_cV1 ok [.int (zDuO c mm d)] mi_X5_costWithDuty ci_X5 ml_X5_238 im_X5_costWithDuty se_X5_costWithDuty dX5_pencePartedAt_10 (c_X5_costWithDuty K.2.1 G M N a c t hc sc kp hi sv sg pl (zGaO c mm d)  ((nI 63) - mm) ) ho_o rfl rfl ⟨Nat.le_of_ble_eq_true rfl, Nat.le_of_ble_eq_true rfl⟩ (Nat.le_of_ble_eq_true rfl) ⟨Nat.zero_le _, Nat.zero_le _⟩ ?_
  refine r_iadd ok dX5_pencePartedAt_13 ?_
  exact r_iret ok dX5_pencePartedAt_14 rfl ⟨congrArg (fun z => some (Value.int z)) (show (zDuO c mm d) + (zDuO c ((nI 63) - mm) ((zGaO c mm d))) = zDuO c mm d + zDuO c (nI 63 - mm) (zGaO c mm d) from by rfl), (by rfl)⟩
set_option maxHeartbeats 4000000 in
set_option maxRecDepth 100000 in
theorem c_X5_set (l : Launch) (G : zG) (M : zM) (N a : Nat) (c t : zCl) (hc sc : Nat → zCl) (kp : Int32) (hi : Nat → Nat) (sv : Nat → Bool) (sg : Nat → Int32) (pl : Int32) (d : zOd) (kn : Nat) (p : Int32) (v : Int32) (hk : kn ≤ 6) (hhi : ∀ i, i < 6 → hi i < 6) (hu : c.un ≤ 5) (hpi : ∀ i, i < 5 → c.pi i < 5) (hhp : ∀ j, j < 6 → ∀ i, i < 5 → (hc j).pi i < 5) : zC l G yX5_set cX5_set 4 (some .int) 6 156 0 0 [.ref a, .int (p), .int (v)] (hoM G M a c t hc sc (nI kn) hi sv sg pl d) N (zP (some (.int (zE (zDset p v) (fun i => c.st i)))) (hoM G M a (zU (zDset p v) c (fun i => (zCl.mk (upd c.st i v) c.dy c.x c.br c.sp c.wa c.ac c.ps c.pp c.pu c.lo c.un c.op c.pi c.cn c.vl c.du c.io c.hp c.hs))) t (zU (zDset p v) hc (fun _ => zRmC hc hi kn c)) sc (nI (zU (zDset p v) kn (fun _ => zRecK kn))) (zU (zDset p v) hi (fun _ => zRmI hi kn)) sv sg pl d)) := by
  refine zC.of (by decide +kernel) (Nat.le_of_ble_eq_true rfl) ?_
  intro K hKl ok
  subst hKl
  obtain ⟨⟨tL, ztL, atL⟩, ⟨tF, ztF, atF⟩, ⟨tM, ztM, atM⟩⟩ := ok.2.2.2.2.1.2.2
  show zW K G 4 _ 0 0 _ N 0 [(0, .ref a), (1, .int (p)), (2, .int (v))] []
  refine r_iload_n ok dX5_set_0 1 rfl rfl ?_
  refine r_if_lt ok 12 dX5_set_1 (by decide) (fun c1_1 => ?_) (fun c1_1 => ?_)
  · skip
    have n_p := zix_neg' (n := 9) c1_1
    refine r_ldc ok ck_X5_48 dX5_set_12 ?_
    exact r_iret ok dX5_set_14 rfl ⟨congrArg (fun z => some (Value.int z)) (show -100002 = zE (zDset p v) (fun i => c.st i) from by simp [zDset, zE, zU, zOb, zCl_eta, zOd_eta, *]), (by simp [zDset, zE, zU, zOb, zCl_eta, zOd_eta, *])⟩
  · skip
    have l_p := c1_1
    refine r_iload_n ok dX5_set_4 1 rfl rfl ?_
    refine r_gets ok ztL fl_X5_44 dX5_set_5 ?_
    refine r_alenS ok atL dX5_set_8 ?_
    refine r_icmp_lt ok 15 dX5_set_9 (by decide) (fun c9_2 => ?_) (fun c9_2 => ?_)
    · skip
      obtain ⟨pi, h_p, e_p, z_p⟩ := zix_in' (n := 9) (by omega) l_p c9_2
      subst e_p
      refine r_iload_n ok dX5_set_15 2 rfl rfl ?_
      refine r_gets ok ztL fl_X5_44 dX5_set_16 ?_
      refine r_iload_n ok dX5_set_19 1 rfl rfl ?_
      refine r_ialdS ok atL (by omega) (by omega) dX5_set_20 ?_
      refine r_icmp_lt ok 33 dX5_set_21 (by decide) (fun c21_3 => ?_) (fun c21_3 => ?_)
      · skip
        have zb_ : zbe v (zLeast pi) (zMost pi) = false := zbe_lt c21_3
        refine r_ldc ok ck_X5_48 dX5_set_33 ?_
        exact r_iret ok dX5_set_35 rfl ⟨congrArg (fun z => some (Value.int z)) (show -100002 = zE (zDset (nI (pi)) v) (fun i => c.st i) from by simp [zDset, zE, zU, zOb, zCl_eta, zOd_eta, *]), (by simp [zDset, zE, zU, zOb, zCl_eta, zOd_eta, *])⟩
      · skip
        have lb_ := c21_3
        refine r_iload_n ok dX5_set_24 2 rfl rfl ?_
        refine r_gets ok ztM fl_X5_49 dX5_set_25 ?_
        refine r_iload_n ok dX5_set_28 1 rfl rfl ?_
        refine r_ialdS ok atM (by omega) (by omega) dX5_set_29 ?_
        refine r_icmp_le ok 36 dX5_set_30 (by decide) (fun c30_4 => ?_) (fun c30_4 => ?_)
        · skip
          have zb_ : zbe v (zLeast pi) (zMost pi) = true := zbe_ok lb_ (Int32.not_lt.mpr c30_4)
          refine r_aload_n ok dX5_set_36 0 rfl rfl ?_
          refine r_cV0 ok [] mi_X5_remember ci_X5 ml_X5_52 im_X5_remember se_X5_remember dX5_set_37 (c_X5_remember K.2.1 G M N a c t hc sc (nI kn) hi sv sg pl d kn  (by omega) hhi (by omega) hpi hhp) ho_o rfl rfl ⟨Nat.le_of_ble_eq_true rfl, Nat.le_of_ble_eq_true rfl⟩ (Nat.le_of_ble_eq_true rfl) ⟨Nat.zero_le _, Nat.zero_le _⟩ ?_
          refine r_aload_n ok dX5_set_40 0 rfl rfl ?_
          refine r_getf ok ci_X5 fl_X5_10 (by decide) dX5_set_41 ho_o rfl ?_
          refine r_getf ok ci_X0 fl_X5_55 (by decide) dX5_set_44 (ho_rc cb_o) rfl ?_
          refine r_iload_n ok dX5_set_47 1 rfl rfl ?_
          refine r_ialdN ok (by omega) (by omega) dX5_set_48 (ho_rc cb_st) ?_
          refine r_istore_n ok [(3, .int (c.st pi)), (0, .ref a), (1, .int (nI (pi))), (2, .int (v))] dX5_set_49 rfl (by decide) rfl ?_
          refine r_aload_n ok dX5_set_50 1 rfl rfl ?_
          refine r_getf ok ci_X5 fl_X5_10 (by decide) dX5_set_51 ho_o rfl ?_
          refine r_getf ok ci_X0 fl_X5_55 (by decide) dX5_set_54 (ho_rc cb_o) rfl ?_
          refine r_iload_n ok dX5_set_57 2 rfl rfl ?_
          refine r_iload_n ok dX5_set_58 3 rfl rfl ?_
          refine r_iastN ok (by omega) (by omega) dX5_set_59 (ho_rc cb_st) (ho_wc (zCl.mk (upd c.st pi v) c.dy c.x c.br c.sp c.wa c.ac c.ps c.pp c.pu c.lo c.un c.op c.pi c.cn c.vl c.du c.io c.hp c.hs) (cbw_st _)) ?_
          refine r_iload_n ok dX5_set_60 0 rfl rfl ?_
          exact r_iret ok dX5_set_61 rfl ⟨congrArg (fun z => some (Value.int z)) (show c.st pi = zE (zDset (nI (pi)) v) (fun i => c.st i) from by simp [zDset, zE, zU, zOb, zCl_eta, zOd_eta, *]), (by simp [zDset, zE, zU, zOb, zCl_eta, zOd_eta, *])⟩
        · skip
          have zb_ : zbe v (zLeast pi) (zMost pi) = false := zbe_gt (Int32.not_le.mp c30_4)
          refine r_ldc ok ck_X5_48 dX5_set_33 ?_
          exact r_iret ok dX5_set_35 rfl ⟨congrArg (fun z => some (Value.int z)) (show -100002 = zE (zDset (nI (pi)) v) (fun i => c.st i) from by simp [zDset, zE, zU, zOb, zCl_eta, zOd_eta, *]), (by simp [zDset, zE, zU, zOb, zCl_eta, zOd_eta, *])⟩
    · skip
      have n_p := zix_ge' (n := 9) (by omega) (Int32.not_lt.mp c9_2)
      refine r_ldc ok ck_X5_48 dX5_set_12 ?_
      exact r_iret ok dX5_set_14 rfl ⟨congrArg (fun z => some (Value.int z)) (show -100002 = zE (zDset p v) (fun i => c.st i) from by simp [zDset, zE, zU, zOb, zCl_eta, zOd_eta, *]), (by simp [zDset, zE, zU, zOb, zCl_eta, zOd_eta, *])⟩
set_option maxHeartbeats 4000000 in
set_option maxRecDepth 100000 in
theorem c_X5_snap (l : Launch) (G : zG) (M : zM) (N a : Nat) (c t : zCl) (hc sc : Nat → zCl) (kp : Int32) (hi : Nat → Nat) (sv : Nat → Bool) (sg : Nat → Int32) (pl : Int32) (d : zOd) (kn : Nat) (m : Int32) (g : Int32) (hk : kn ≤ 6) (hhi : ∀ i, i < 6 → hi i < 6) (hu : c.un ≤ 5) (hpi : ∀ i, i < 5 → c.pi i < 5) (hhp : ∀ j, j < 6 → ∀ i, i < 5 → (hc j).pi i < 5) : zC l G yX5_snap cX5_snap 3 (some .int) 6 156 0 0 [.ref a, .int (m), .int (g)] (hoM G M a c t hc sc (nI kn) hi sv sg pl d) N (zP (some (.int (zE (zDsnapC c m g) (fun q => zPop (zSnB c q))))) (hoM G M a (zU (zDsnapC c m g) c (fun q => (zCl.mk c.st c.dy c.x (upd c.br q.1 (zSnB c q)) c.sp c.wa c.ac c.ps c.pp c.pu c.lo c.un c.op c.pi c.cn c.vl c.du c.io c.hp c.hs))) t (zU (zDsnapC c m g) hc (fun _ => zRmC hc hi kn c)) sc (nI (zU (zDsnapC c m g) kn (fun _ => zRecK kn))) (zU (zDsnapC c m g) hi (fun _ => zRmI hi kn)) sv sg pl d)) := by
  refine zC.of (by decide +kernel) (Nat.le_of_ble_eq_true rfl) ?_
  intro K hKl ok
  subst hKl
  show zW K G 3 _ 0 0 _ N 0 [(0, .ref a), (1, .int (m)), (2, .int (g))] []
  refine r_iload_n ok dX5_snap_0 1 rfl rfl ?_
  refine r_cS1 ok [] mi_X5_isMember ml_X5_58 sm_X5_isMember dX5_snap_1 (c_X5_isMember K.2.1 G (hoM G M a c t hc sc (nI kn) hi sv sg pl d) N  m ) rfl rfl ⟨Nat.le_of_ble_eq_true rfl, Nat.le_of_ble_eq_true rfl⟩ (Nat.le_of_ble_eq_true rfl) ⟨Nat.zero_le _, Nat.zero_le _⟩ ?_
  refine r_ifeqZ ok 14 dX5_snap_4 (by decide) (fun c4_1 => ?_) (fun c4_1 => ?_)
  · skip
    have n_m : zix m 6 = none := Option.not_isSome_iff_eq_none.mp (by rw [c4_1]; decide)
    refine r_ldc ok ck_X5_65 dX5_snap_14 ?_
    exact r_iret ok dX5_snap_16 rfl ⟨congrArg (fun z => some (Value.int z)) (show -100001 = zE (zDsnapC c m g) (fun q => zPop (zSnB c q)) from by simp [zDsnapC, zSnB, zE, zU, zOb, zCl_eta, zOd_eta, *]), (by simp [zDsnapC, zSnB, zE, zU, zOb, zCl_eta, zOd_eta, *])⟩
  · skip
    obtain ⟨mi, z_m⟩ := Option.isSome_iff_exists.mp c4_1
    obtain ⟨h_m, e_m⟩ := zix_some z_m (by omega)
    subst e_m
    refine r_iload_n ok dX5_snap_7 2 rfl rfl ?_
    refine r_cS1 ok [] mi_X5_isGauge ml_X5_62 sm_X5_isGauge dX5_snap_8 (c_X5_isGauge K.2.1 G (hoM G M a c t hc sc (nI kn) hi sv sg pl d) N  g ) rfl rfl ⟨Nat.le_of_ble_eq_true rfl, Nat.le_of_ble_eq_true rfl⟩ (Nat.le_of_ble_eq_true rfl) ⟨Nat.zero_le _, Nat.zero_le _⟩ ?_
    refine r_ifneZ ok 17 dX5_snap_11 (by decide) (fun c11_2 => ?_) (fun c11_2 => ?_)
    · skip
      obtain ⟨gi, z_g⟩ := Option.isSome_iff_exists.mp c11_2
      obtain ⟨h_g, e_g⟩ := zix_some z_g (by omega)
      subst e_g
      refine r_aload_n ok dX5_snap_17 0 rfl rfl ?_
      refine r_getf ok ci_X5 fl_X5_10 (by decide) dX5_snap_18 ho_o rfl ?_
      refine r_getf ok ci_X0 fl_X5_66 (by decide) dX5_snap_21 (ho_rc cb_o) rfl ?_
      refine r_iload_n ok dX5_snap_24 1 rfl rfl ?_
      refine r_ialdN ok (by omega) (by omega) dX5_snap_25 (ho_rc cb_br) ?_
      refine r_iload_n ok dX5_snap_26 2 rfl rfl ?_
      refine r_cS1 ok [] mi_X5_isIn ml_X5_69 sm_X5_isIn dX5_snap_27 (c_X5_isIn K.2.1 G (hoM G M a c t hc sc (nI kn) hi sv sg pl d) N  (c.br mi) gi ) rfl rfl ⟨Nat.le_of_ble_eq_true rfl, Nat.le_of_ble_eq_true rfl⟩ (Nat.le_of_ble_eq_true rfl) ⟨Nat.zero_le _, Nat.zero_le _⟩ ?_
      refine r_ifeqZ ok 36 dX5_snap_30 (by decide) (fun c30_3 => ?_) (fun c30_3 => ?_)
      · skip
        refine r_aload_n ok dX5_snap_36 0 rfl rfl ?_
        refine r_cV0 ok [] mi_X5_remember ci_X5 ml_X5_52 im_X5_remember se_X5_remember dX5_snap_37 (c_X5_remember K.2.1 G M N a c t hc sc (nI kn) hi sv sg pl d kn  (by omega) hhi (by omega) hpi hhp) ho_o rfl rfl ⟨Nat.le_of_ble_eq_true rfl, Nat.le_of_ble_eq_true rfl⟩ (Nat.le_of_ble_eq_true rfl) ⟨Nat.zero_le _, Nat.zero_le _⟩ ?_
        refine r_aload_n ok dX5_snap_40 0 rfl rfl ?_
        refine r_getf ok ci_X5 fl_X5_10 (by decide) dX5_snap_41 ho_o rfl ?_
        refine r_getf ok ci_X0 fl_X5_66 (by decide) dX5_snap_44 (ho_rc cb_o) rfl ?_
        refine r_iload_n ok dX5_snap_47 1 rfl rfl ?_
        refine r_dup2 ok dX5_snap_48 rfl rfl ?_
        refine r_ialdN ok (by omega) (by omega) dX5_snap_49 (ho_rc cb_br) ?_
        refine r_iconst ok (nI 1) dX5_snap_50 (by rfl) ?_
        refine r_iload_n ok dX5_snap_51 2 rfl rfl ?_
        refine r_ishl ok dX5_snap_52 ?_
        refine r_ior ok dX5_snap_53 ?_
        refine r_iastN ok (by omega) (by omega) dX5_snap_54 (ho_rc cb_br) (ho_wc (zCl.mk c.st c.dy c.x (upd c.br mi ((c.br mi) ||| ((nI 1) <<< ((nI (gi)) &&& 31)))) c.sp c.wa c.ac c.ps c.pp c.pu c.lo c.un c.op c.pi c.cn c.vl c.du c.io c.hp c.hs) (cbw_br _)) ?_
        refine r_aload_n ok dX5_snap_55 0 rfl rfl ?_
        refine r_getf ok ci_X5 fl_X5_10 (by decide) dX5_snap_56 ho_o rfl ?_
        refine r_getf ok ci_X0 fl_X5_66 (by decide) dX5_snap_59 (ho_rc cb_o) rfl ?_
        refine r_iload_n ok dX5_snap_62 1 rfl rfl ?_
        refine r_ialdN ok (by omega) (by omega) dX5_snap_63 (ho_rc cb_br) ?_
        refine zW.to (st' := [.int ((c.br mi) ||| ((nI 1) <<< ((nI (gi)) &&& 31)))]) ?_ rfl rfl (congrArg (fun z => (Value.int z :: [] : List Value)) (show (upd c.br mi ((c.br mi) ||| ((nI 1) <<< ((nI (gi)) &&& 31)))) mi = (c.br mi) ||| ((nI 1) <<< ((nI (gi)) &&& 31)) from pk_us))
        refine r_cS1 ok [] mi_J6_bitCount_0f7a4 ml_X5_74 sm_J6_bitCount_0f7a4 dX5_snap_64 (c_J6_bitCount_0f7a4 K.2.1 G (hoM G M a (zCl.mk c.st c.dy c.x (upd c.br mi ((c.br mi) ||| ((nI 1) <<< ((nI (gi)) &&& 31)))) c.sp c.wa c.ac c.ps c.pp c.pu c.lo c.un c.op c.pi c.cn c.vl c.du c.io c.hp c.hs) t (zRmC hc hi kn c) sc (nI (zRecK kn)) (zRmI hi kn) sv sg pl d) N  ((c.br mi) ||| ((nI 1) <<< ((nI (gi)) &&& 31))) ) rfl rfl ⟨Nat.le_of_ble_eq_true rfl, Nat.le_of_ble_eq_true rfl⟩ (Nat.le_of_ble_eq_true rfl) ⟨Nat.zero_le _, Nat.zero_le _⟩ ?_
        exact r_iret ok dX5_snap_67 rfl ⟨congrArg (fun z => some (Value.int z)) (show zPop ((c.br mi) ||| ((nI 1) <<< ((nI (gi)) &&& 31))) = zE (zDsnapC c (nI (mi)) (nI (gi))) (fun q => zPop (zSnB c q)) from by simp [zDsnapC, zSnB, zE, zU, zOb, zCl_eta, zOd_eta, *]), (by simp [zDsnapC, zSnB, zE, zU, zOb, zCl_eta, zOd_eta, *])⟩
      · skip
        refine r_ldc ok ck_X5_73 dX5_snap_33 ?_
        exact r_iret ok dX5_snap_35 rfl ⟨congrArg (fun z => some (Value.int z)) (show -100005 = zE (zDsnapC c (nI (mi)) (nI (gi))) (fun q => zPop (zSnB c q)) from by simp [zDsnapC, zSnB, zE, zU, zOb, zCl_eta, zOd_eta, *]), (by simp [zDsnapC, zSnB, zE, zU, zOb, zCl_eta, zOd_eta, *])⟩
    · skip
      have n_g : zix g 8 = none := Option.not_isSome_iff_eq_none.mp (by rw [c11_2]; decide)
      refine r_ldc ok ck_X5_65 dX5_snap_14 ?_
      exact r_iret ok dX5_snap_16 rfl ⟨congrArg (fun z => some (Value.int z)) (show -100001 = zE (zDsnapC c (nI (mi)) g) (fun q => zPop (zSnB c q)) from by simp [zDsnapC, zSnB, zE, zU, zOb, zCl_eta, zOd_eta, *]), (by simp [zDsnapC, zSnB, zE, zU, zOb, zCl_eta, zOd_eta, *])⟩
set_option maxHeartbeats 4000000 in
set_option maxRecDepth 100000 in
theorem c_X5_fit (l : Launch) (G : zG) (M : zM) (N a : Nat) (c t : zCl) (hc sc : Nat → zCl) (kp : Int32) (hi : Nat → Nat) (sv : Nat → Bool) (sg : Nat → Int32) (pl : Int32) (d : zOd) (kn : Nat) (m : Int32) (g : Int32) (e : Int32) (hk : kn ≤ 6) (hhi : ∀ i, i < 6 → hi i < 6) (hu : c.un ≤ 5) (hpi : ∀ i, i < 5 → c.pi i < 5) (hhp : ∀ j, j < 6 → ∀ i, i < 5 → (hc j).pi i < 5) : zC l G yX5_fit cX5_fit 4 (some .int) 6 156 0 0 [.ref a, .int (m), .int (g), .int (e)] (hoM G M a c t hc sc (nI kn) hi sv sg pl d) N (zP (some (.int (zE (zDfitC c m g e) (fun q => c.sp q.1 q.2.2 - nI 1)))) (hoM G M a (zU (zDfitC c m g e) c (zFiC c)) t (zU (zDfitC c m g e) hc (fun _ => zRmC hc hi kn c)) sc (nI (zU (zDfitC c m g e) kn (fun _ => zRecK kn))) (zU (zDfitC c m g e) hi (fun _ => zRmI hi kn)) sv sg pl d)) := by
  refine zC.of (by decide +kernel) (Nat.le_of_ble_eq_true rfl) ?_
  intro K hKl ok
  subst hKl
  show zW K G 4 _ 0 0 _ N 0 [(0, .ref a), (1, .int (m)), (2, .int (g)), (3, .int (e))] []
  refine r_iload_n ok dX5_fit_0 1 rfl rfl ?_
  refine r_cS1 ok [] mi_X5_isMember ml_X5_58 sm_X5_isMember dX5_fit_1 (c_X5_isMember K.2.1 G (hoM G M a c t hc sc (nI kn) hi sv sg pl d) N  m ) rfl rfl ⟨Nat.le_of_ble_eq_true rfl, Nat.le_of_ble_eq_true rfl⟩ (Nat.le_of_ble_eq_true rfl) ⟨Nat.zero_le _, Nat.zero_le _⟩ ?_
  refine r_ifeqZ ok 21 dX5_fit_4 (by decide) (fun c4_1 => ?_) (fun c4_1 => ?_)
  · skip
    have n_m : zix m 6 = none := Option.not_isSome_iff_eq_none.mp (by rw [c4_1]; decide)
    refine r_ldc ok ck_X5_65 dX5_fit_21 ?_
    exact r_iret ok dX5_fit_23 rfl ⟨congrArg (fun z => some (Value.int z)) (show -100001 = zE (zDfitC c m g e) (fun q => c.sp q.1 q.2.2 - nI 1) from by simp [zDfitC, zFiC, zE, zU, zOb, zCl_eta, zOd_eta, *]), (by simp [zDfitC, zFiC, zE, zU, zOb, zCl_eta, zOd_eta, *])⟩
  · skip
    obtain ⟨mi, z_m⟩ := Option.isSome_iff_exists.mp c4_1
    obtain ⟨h_m, e_m⟩ := zix_some z_m (by omega)
    subst e_m
    refine r_iload_n ok dX5_fit_7 2 rfl rfl ?_
    refine r_cS1 ok [] mi_X5_isGauge ml_X5_62 sm_X5_isGauge dX5_fit_8 (c_X5_isGauge K.2.1 G (hoM G M a c t hc sc (nI kn) hi sv sg pl d) N  g ) rfl rfl ⟨Nat.le_of_ble_eq_true rfl, Nat.le_of_ble_eq_true rfl⟩ (Nat.le_of_ble_eq_true rfl) ⟨Nat.zero_le _, Nat.zero_le _⟩ ?_
    refine r_ifeqZ ok 21 dX5_fit_11 (by decide) (fun c11_2 => ?_) (fun c11_2 => ?_)
    · skip
      have n_g : zix g 8 = none := Option.not_isSome_iff_eq_none.mp (by rw [c11_2]; decide)
      refine r_ldc ok ck_X5_65 dX5_fit_21 ?_
      exact r_iret ok dX5_fit_23 rfl ⟨congrArg (fun z => some (Value.int z)) (show -100001 = zE (zDfitC c (nI (mi)) g e) (fun q => c.sp q.1 q.2.2 - nI 1) from by simp [zDfitC, zFiC, zE, zU, zOb, zCl_eta, zOd_eta, *]), (by simp [zDfitC, zFiC, zE, zU, zOb, zCl_eta, zOd_eta, *])⟩
    · skip
      obtain ⟨gi, z_g⟩ := Option.isSome_iff_exists.mp c11_2
      obtain ⟨h_g, e_g⟩ := zix_some z_g (by omega)
      subst e_g
      refine r_iload_n ok dX5_fit_14 3 rfl rfl ?_
      refine r_cS1 ok [] mi_X5_isGauge ml_X5_62 sm_X5_isGauge dX5_fit_15 (c_X5_isGauge K.2.1 G (hoM G M a c t hc sc (nI kn) hi sv sg pl d) N  e ) rfl rfl ⟨Nat.le_of_ble_eq_true rfl, Nat.le_of_ble_eq_true rfl⟩ (Nat.le_of_ble_eq_true rfl) ⟨Nat.zero_le _, Nat.zero_le _⟩ ?_
      refine r_ifneZ ok 24 dX5_fit_18 (by decide) (fun c18_3 => ?_) (fun c18_3 => ?_)
      · skip
        obtain ⟨ei, z_e⟩ := Option.isSome_iff_exists.mp c18_3
        obtain ⟨h_e, e_e⟩ := zix_some z_e (by omega)
        subst e_e
        refine r_aload_n ok dX5_fit_24 0 rfl rfl ?_
        refine r_getf ok ci_X5 fl_X5_10 (by decide) dX5_fit_25 ho_o rfl ?_
        refine r_getf ok ci_X0 fl_X5_66 (by decide) dX5_fit_28 (ho_rc cb_o) rfl ?_
        refine r_iload_n ok dX5_fit_31 1 rfl rfl ?_
        refine r_ialdN ok (by omega) (by omega) dX5_fit_32 (ho_rc cb_br) ?_
        refine r_iload_n ok dX5_fit_33 2 rfl rfl ?_
        refine r_cS1 ok [] mi_X5_isIn ml_X5_69 sm_X5_isIn dX5_fit_34 (c_X5_isIn K.2.1 G (hoM G M a c t hc sc (nI kn) hi sv sg pl d) N  (c.br mi) gi ) rfl rfl ⟨Nat.le_of_ble_eq_true rfl, Nat.le_of_ble_eq_true rfl⟩ (Nat.le_of_ble_eq_true rfl) ⟨Nat.zero_le _, Nat.zero_le _⟩ ?_
        refine r_ifeqZ ok 50 dX5_fit_37 (by decide) (fun c37_4 => ?_) (fun c37_4 => ?_)
        · skip
          refine r_ldc ok ck_X5_73 dX5_fit_50 ?_
          exact r_iret ok dX5_fit_52 rfl ⟨congrArg (fun z => some (Value.int z)) (show -100005 = zE (zDfitC c (nI (mi)) (nI (gi)) (nI (ei))) (fun q => c.sp q.1 q.2.2 - nI 1) from by simp [zDfitC, zFiC, zE, zU, zOb, zCl_eta, zOd_eta, *]), (by simp [zDfitC, zFiC, zE, zU, zOb, zCl_eta, zOd_eta, *])⟩
        · skip
          refine r_iload_n ok dX5_fit_40 3 rfl rfl ?_
          refine r_iload_n ok dX5_fit_41 2 rfl rfl ?_
          refine r_isub ok dX5_fit_42 ?_
          refine r_mabs ok [] ml_X5_80 sm_J9_abs_0f7a4 in_J9 lm_abs_c dX5_fit_43 (Nat.le_of_ble_eq_true rfl) (Nat.le_of_ble_eq_true rfl) (Nat.zero_le _) (Nat.zero_le _) ?_
          refine r_iconst ok (nI 1) dX5_fit_46 (by rfl) ?_
          refine r_icmp_le ok 53 dX5_fit_47 (by decide) (fun c47_5 => ?_) (fun c47_5 => ?_)
          · skip
            have ab : zAbs (nI ei - nI gi) ≤ nI 1 := c47_5
            refine r_aload_n ok dX5_fit_53 0 rfl rfl ?_
            refine r_getf ok ci_X5 fl_X5_10 (by decide) dX5_fit_54 ho_o rfl ?_
            refine r_getf ok ci_X0 fl_X5_85 (by decide) dX5_fit_57 (ho_rc cb_o) rfl ?_
            refine r_iload_n ok dX5_fit_60 1 rfl rfl ?_
            refine r_aaldN ok 3 (Or.inl rfl) (a + 1 + 4 + mi) (by omega) (by omega) dX5_fit_61 (ho_rc cb_sp) (zRef6_at (by omega)) ?_
            refine r_iload_n ok dX5_fit_62 3 rfl rfl ?_
            refine r_ialdN ok (by omega) (by omega) dX5_fit_63 (ho_rc (cb_spr (by omega))) ?_
            refine r_if_ne ok 70 dX5_fit_64 (by decide) (fun c64_6 => ?_) (fun c64_6 => ?_)
            · skip
              refine r_aload_n ok dX5_fit_70 0 rfl rfl ?_
              refine r_cV0 ok [] mi_X5_remember ci_X5 ml_X5_52 im_X5_remember se_X5_remember dX5_fit_71 (c_X5_remember K.2.1 G M N a c t hc sc (nI kn) hi sv sg pl d kn  (by omega) hhi (by omega) hpi hhp) ho_o rfl rfl ⟨Nat.le_of_ble_eq_true rfl, Nat.le_of_ble_eq_true rfl⟩ (Nat.le_of_ble_eq_true rfl) ⟨Nat.zero_le _, Nat.zero_le _⟩ ?_
              refine r_aload_n ok dX5_fit_74 0 rfl rfl ?_
              refine r_getf ok ci_X5 fl_X5_10 (by decide) dX5_fit_75 ho_o rfl ?_
              refine r_getf ok ci_X0 fl_X5_66 (by decide) dX5_fit_78 (ho_rc cb_o) rfl ?_
              refine r_iload_n ok dX5_fit_81 1 rfl rfl ?_
              refine r_dup2 ok dX5_fit_82 rfl rfl ?_
              refine r_ialdN ok (by omega) (by omega) dX5_fit_83 (ho_rc cb_br) ?_
              refine r_iconst ok (nI 1) dX5_fit_84 (by rfl) ?_
              refine r_iload_n ok dX5_fit_85 2 rfl rfl ?_
              refine r_ishl ok dX5_fit_86 ?_
              refine r_iconst ok (-1) dX5_fit_87 (by rfl) ?_
              refine r_ixor ok dX5_fit_88 ?_
              refine r_iand ok dX5_fit_89 ?_
              refine r_iastN ok (by omega) (by omega) dX5_fit_90 (ho_rc cb_br) (ho_wc (zCl.mk c.st c.dy c.x (upd c.br mi ((c.br mi) &&& (((nI 1) <<< ((nI (gi)) &&& 31)) ^^^ (-1)))) c.sp c.wa c.ac c.ps c.pp c.pu c.lo c.un c.op c.pi c.cn c.vl c.du c.io c.hp c.hs) (cbw_br _)) ?_
              refine r_aload_n ok dX5_fit_91 0 rfl rfl ?_
              refine r_getf ok ci_X5 fl_X5_10 (by decide) dX5_fit_92 ho_o rfl ?_
              refine r_getf ok ci_X0 fl_X5_85 (by decide) dX5_fit_95 (ho_rc cb_o) rfl ?_
              refine r_iload_n ok dX5_fit_98 1 rfl rfl ?_
              refine r_aaldN ok 3 (Or.inl rfl) (a + 1 + 4 + mi) (by omega) (by omega) dX5_fit_99 (ho_rc cb_sp) (zRef6_at (by omega)) ?_
              refine r_iload_n ok dX5_fit_100 3 rfl rfl ?_
              refine r_dup2 ok dX5_fit_101 rfl rfl ?_
              refine r_ialdN ok (by omega) (by omega) dX5_fit_102 (ho_rc (cb_spr (by omega))) ?_
              refine r_iconst ok (nI 1) dX5_fit_103 (by rfl) ?_
              refine r_isub ok dX5_fit_104 ?_
              refine r_iastN ok (by omega) (by omega) dX5_fit_105 (ho_rc (cb_spr (by omega))) (ho_wc (zCl.mk c.st c.dy c.x (upd c.br mi ((c.br mi) &&& (((nI 1) <<< ((nI (gi)) &&& 31)) ^^^ (-1)))) (va_up c.sp mi (upd (c.sp mi) ei (((c.sp mi) ei) - (nI 1)))) c.wa c.ac c.ps c.pp c.pu c.lo c.un c.op c.pi c.cn c.vl c.du c.io c.hp c.hs) (cbw_spr (by omega) _)) ?_
              refine r_aload_n ok dX5_fit_106 0 rfl rfl ?_
              refine r_getf ok ci_X5 fl_X5_10 (by decide) dX5_fit_107 ho_o rfl ?_
              refine r_getf ok ci_X0 fl_X5_85 (by decide) dX5_fit_110 (ho_rc cb_o) rfl ?_
              refine r_iload_n ok dX5_fit_113 1 rfl rfl ?_
              refine r_aaldN ok 3 (Or.inl rfl) (a + 1 + 4 + mi) (by omega) (by omega) dX5_fit_114 (ho_rc cb_sp) (zRef6_at (by omega)) ?_
              refine r_iload_n ok dX5_fit_115 3 rfl rfl ?_
              refine r_ialdN ok (by omega) (by omega) dX5_fit_116 (ho_rc (cb_spr (by omega))) ?_
              refine zW.to (st' := [.int (((c.sp mi) ei) - (nI 1))]) ?_ rfl rfl (congrArg (fun z => (Value.int z :: [] : List Value)) (show (va_up c.sp mi (upd (c.sp mi) ei (((c.sp mi) ei) - (nI 1))) mi) ei = ((c.sp mi) ei) - (nI 1) from Eq.trans (congrFun (va_up_self c.sp mi (upd (c.sp mi) ei (((c.sp mi) ei) - (nI 1)))) ei) pk_us))
              exact r_iret ok dX5_fit_117 rfl ⟨congrArg (fun z => some (Value.int z)) (show ((c.sp mi) ei) - (nI 1) = zE (zDfitC c (nI (mi)) (nI (gi)) (nI (ei))) (fun q => c.sp q.1 q.2.2 - nI 1) from by simp [zDfitC, zFiC, zE, zU, zOb, zCl_eta, zOd_eta, *]), (by simp [zDfitC, zFiC, zE, zU, zOb, zCl_eta, zOd_eta, *])⟩
            · skip
              refine r_ldc ok ck_X5_73 dX5_fit_67 ?_
              exact r_iret ok dX5_fit_69 rfl ⟨congrArg (fun z => some (Value.int z)) (show -100005 = zE (zDfitC c (nI (mi)) (nI (gi)) (nI (ei))) (fun q => c.sp q.1 q.2.2 - nI 1) from by simp [zDfitC, zFiC, zE, zU, zOb, zCl_eta, zOd_eta, *]), (by simp [zDfitC, zFiC, zE, zU, zOb, zCl_eta, zOd_eta, *])⟩
          · skip
            have ab : ¬ zAbs (nI ei - nI gi) ≤ nI 1 := c47_5
            refine r_ldc ok ck_X5_73 dX5_fit_50 ?_
            exact r_iret ok dX5_fit_52 rfl ⟨congrArg (fun z => some (Value.int z)) (show -100005 = zE (zDfitC c (nI (mi)) (nI (gi)) (nI (ei))) (fun q => c.sp q.1 q.2.2 - nI 1) from by simp [zDfitC, zFiC, zE, zU, zOb, zCl_eta, zOd_eta, *]), (by simp [zDfitC, zFiC, zE, zU, zOb, zCl_eta, zOd_eta, *])⟩
      · skip
        have n_e : zix e 8 = none := Option.not_isSome_iff_eq_none.mp (by rw [c18_3]; decide)
        refine r_ldc ok ck_X5_65 dX5_fit_21 ?_
        exact r_iret ok dX5_fit_23 rfl ⟨congrArg (fun z => some (Value.int z)) (show -100001 = zE (zDfitC c (nI (mi)) (nI (gi)) e) (fun q => c.sp q.1 q.2.2 - nI 1) from by simp [zDfitC, zFiC, zE, zU, zOb, zCl_eta, zOd_eta, *]), (by simp [zDfitC, zFiC, zE, zU, zOb, zCl_eta, zOd_eta, *])⟩
set_option maxHeartbeats 4000000 in
set_option maxRecDepth 100000 in
theorem c_X5_want (l : Launch) (G : zG) (M : zM) (N a : Nat) (c t : zCl) (hc sc : Nat → zCl) (kp : Int32) (hi : Nat → Nat) (sv : Nat → Bool) (sg : Nat → Int32) (pl : Int32) (d : zOd) (kn : Nat) (m : Int32) (g : Int32) (v : Int32) (hk : kn ≤ 6) (hhi : ∀ i, i < 6 → hi i < 6) (hu : c.un ≤ 5) (hpi : ∀ i, i < 5 → c.pi i < 5) (hhp : ∀ j, j < 6 → ∀ i, i < 5 → (hc j).pi i < 5) : zC l G yX5_want cX5_want 4 (some .int) 6 156 0 0 [.ref a, .int (m), .int (g), .int (v)] (hoM G M a c t hc sc (nI kn) hi sv sg pl d) N (zP (some (.int (zE (zDwant m g v) (fun q => zCoO (zGaO (zWaC c v q) (nI 63) d))))) (hoM G M a (zU (zDwant m g v) c (zWaC c v)) t (zU (zDwant m g v) hc (fun _ => zRmC hc hi kn c)) sc (nI (zU (zDwant m g v) kn (fun _ => zRecK kn))) (zU (zDwant m g v) hi (fun _ => zRmI hi kn)) sv sg pl (zU (zDwant m g v) d (fun q => zGaO (zWaC c v q) (nI 63) d)))) := by
  refine zC.of (by decide +kernel) (Nat.le_of_ble_eq_true rfl) ?_
  intro K hKl ok
  subst hKl
  show zW K G 4 _ 0 0 _ N 0 [(0, .ref a), (1, .int (m)), (2, .int (g)), (3, .int (v))] []
  refine r_iload_n ok dX5_want_0 1 rfl rfl ?_
  refine r_cS1 ok [] mi_X5_isMember ml_X5_58 sm_X5_isMember dX5_want_1 (c_X5_isMember K.2.1 G (hoM G M a c t hc sc (nI kn) hi sv sg pl d) N  m ) rfl rfl ⟨Nat.le_of_ble_eq_true rfl, Nat.le_of_ble_eq_true rfl⟩ (Nat.le_of_ble_eq_true rfl) ⟨Nat.zero_le _, Nat.zero_le _⟩ ?_
  refine r_ifeqZ ok 14 dX5_want_4 (by decide) (fun c4_1 => ?_) (fun c4_1 => ?_)
  · skip
    have n_m : zix m 6 = none := Option.not_isSome_iff_eq_none.mp (by rw [c4_1]; decide)
    refine r_ldc ok ck_X5_65 dX5_want_14 ?_
    exact r_iret ok dX5_want_16 rfl ⟨congrArg (fun z => some (Value.int z)) (show -100001 = zE (zDwant m g v) (fun q => zCoO (zGaO (zWaC c v q) (nI 63) d)) from by simp [zDwant, zE, zU, zOb, zCl_eta, zOd_eta, *]), (by simp [zDwant, zE, zU, zOb, zCl_eta, zOd_eta, *])⟩
  · skip
    obtain ⟨mi, z_m⟩ := Option.isSome_iff_exists.mp c4_1
    obtain ⟨h_m, e_m⟩ := zix_some z_m (by omega)
    subst e_m
    refine r_iload_n ok dX5_want_7 2 rfl rfl ?_
    refine r_cS1 ok [] mi_X5_isGauge ml_X5_62 sm_X5_isGauge dX5_want_8 (c_X5_isGauge K.2.1 G (hoM G M a c t hc sc (nI kn) hi sv sg pl d) N  g ) rfl rfl ⟨Nat.le_of_ble_eq_true rfl, Nat.le_of_ble_eq_true rfl⟩ (Nat.le_of_ble_eq_true rfl) ⟨Nat.zero_le _, Nat.zero_le _⟩ ?_
    refine r_ifneZ ok 17 dX5_want_11 (by decide) (fun c11_2 => ?_) (fun c11_2 => ?_)
    · skip
      obtain ⟨gi, z_g⟩ := Option.isSome_iff_exists.mp c11_2
      obtain ⟨h_g, e_g⟩ := zix_some z_g (by omega)
      subst e_g
      refine r_iload_n ok dX5_want_17 3 rfl rfl ?_
      refine r_if_lt ok 27 dX5_want_18 (by decide) (fun c18_3 => ?_) (fun c18_3 => ?_)
      · skip
        have zb18 : zbe v (nI 0) (nI 20) = false := zbe_lt c18_3
        refine r_ldc ok ck_X5_48 dX5_want_27 ?_
        exact r_iret ok dX5_want_29 rfl ⟨congrArg (fun z => some (Value.int z)) (show -100002 = zE (zDwant (nI (mi)) (nI (gi)) v) (fun q => zCoO (zGaO (zWaC c v q) (nI 63) d)) from by simp [zDwant, zE, zU, zOb, zCl_eta, zOd_eta, *]), (by simp [zDwant, zE, zU, zOb, zCl_eta, zOd_eta, *])⟩
      · skip
        have lb18 := c18_3
        refine r_iload_n ok dX5_want_21 3 rfl rfl ?_
        refine r_bipush ok (nI 20) dX5_want_22 (by rfl) ?_
        refine r_icmp_le ok 30 dX5_want_24 (by decide) (fun c24_4 => ?_) (fun c24_4 => ?_)
        · skip
          have zb18 : zbe v (nI 0) (nI 20) = true := zbe_ok lb18 (Int32.not_lt.mpr c24_4)
          refine r_aload_n ok dX5_want_30 0 rfl rfl ?_
          refine r_cV0 ok [] mi_X5_remember ci_X5 ml_X5_52 im_X5_remember se_X5_remember dX5_want_31 (c_X5_remember K.2.1 G M N a c t hc sc (nI kn) hi sv sg pl d kn  (by omega) hhi (by omega) hpi hhp) ho_o rfl rfl ⟨Nat.le_of_ble_eq_true rfl, Nat.le_of_ble_eq_true rfl⟩ (Nat.le_of_ble_eq_true rfl) ⟨Nat.zero_le _, Nat.zero_le _⟩ ?_
          refine r_aload_n ok dX5_want_34 0 rfl rfl ?_
          refine r_getf ok ci_X5 fl_X5_10 (by decide) dX5_want_35 ho_o rfl ?_
          refine r_getf ok ci_X0 fl_X5_89 (by decide) dX5_want_38 (ho_rc cb_o) rfl ?_
          refine r_iload_n ok dX5_want_41 1 rfl rfl ?_
          refine r_aaldN ok 3 (Or.inl rfl) (a + 1 + 11 + mi) (by omega) (by omega) dX5_want_42 (ho_rc cb_wa) (zRef6_at (by omega)) ?_
          refine r_iload_n ok dX5_want_43 2 rfl rfl ?_
          refine r_iload_n ok dX5_want_44 3 rfl rfl ?_
          refine r_iastN ok (by omega) (by omega) dX5_want_45 (ho_rc (cb_war (by omega))) (ho_wc (zCl.mk c.st c.dy c.x c.br c.sp (va_up c.wa mi (upd (c.wa mi) gi v)) c.ac c.ps c.pp c.pu c.lo c.un c.op c.pi c.cn c.vl c.du c.io c.hp c.hs) (cbw_war (by omega) _)) ?_
          refine zW.to (M' := hoM G M a (zWaC c v (mi, gi)) t (zRmC hc hi kn c) sc (nI (zRecK kn)) (zRmI hi kn) sv sg pl d) ?_ rfl rfl rfl
          refine r_aload_n ok dX5_want_46 0 rfl rfl ?_
          refine r_bipush ok (nI 63) dX5_want_47 (by rfl) ?_
          refine r_cV1 ok [] mi_X5_costOf ci_X5 ml_X5_92 im_X5_costOf se_X5_costOf dX5_want_49 (c_X5_costOf K.2.1 G M N a (zWaC c v (mi, gi)) t (zRmC hc hi kn c) sc (nI (zRecK kn)) (zRmI hi kn) sv sg pl d  (nI 63) ) ho_o rfl rfl ⟨Nat.le_of_ble_eq_true rfl, Nat.le_of_ble_eq_true rfl⟩ (Nat.le_of_ble_eq_true rfl) ⟨Nat.zero_le _, Nat.zero_le _⟩ ?_
          exact r_iret ok dX5_want_52 rfl ⟨congrArg (fun z => some (Value.int z)) (show zCoO (zGaO ((zWaC c v (mi, gi))) (nI 63) d) = zE (zDwant (nI (mi)) (nI (gi)) v) (fun q => zCoO (zGaO (zWaC c v q) (nI 63) d)) from by simp [zDwant, zE, zU, zOb, zCl_eta, zOd_eta, *]), (by simp [zDwant, zE, zU, zOb, zCl_eta, zOd_eta, *])⟩
        · skip
          have zb18 : zbe v (nI 0) (nI 20) = false := zbe_gt (Int32.not_le.mp c24_4)
          refine r_ldc ok ck_X5_48 dX5_want_27 ?_
          exact r_iret ok dX5_want_29 rfl ⟨congrArg (fun z => some (Value.int z)) (show -100002 = zE (zDwant (nI (mi)) (nI (gi)) v) (fun q => zCoO (zGaO (zWaC c v q) (nI 63) d)) from by simp [zDwant, zE, zU, zOb, zCl_eta, zOd_eta, *]), (by simp [zDwant, zE, zU, zOb, zCl_eta, zOd_eta, *])⟩
    · skip
      have n_g : zix g 8 = none := Option.not_isSome_iff_eq_none.mp (by rw [c11_2]; decide)
      refine r_ldc ok ck_X5_65 dX5_want_14 ?_
      exact r_iret ok dX5_want_16 rfl ⟨congrArg (fun z => some (Value.int z)) (show -100001 = zE (zDwant (nI (mi)) g v) (fun q => zCoO (zGaO (zWaC c v q) (nI 63) d)) from by simp [zDwant, zE, zU, zOb, zCl_eta, zOd_eta, *]), (by simp [zDwant, zE, zU, zOb, zCl_eta, zOd_eta, *])⟩
set_option maxHeartbeats 4000000 in
set_option maxRecDepth 100000 in
theorem c_X5_pay (l : Launch) (G : zG) (M : zM) (N a : Nat) (c t : zCl) (hc sc : Nat → zCl) (kp : Int32) (hi : Nat → Nat) (sv : Nat → Bool) (sg : Nat → Int32) (pl : Int32) (d : zOd) (kn : Nat) (m : Int32) (v : Int32) (hk : kn ≤ 6) (hhi : ∀ i, i < 6 → hi i < 6) (hu : c.un ≤ 5) (hpi : ∀ i, i < 5 → c.pi i < 5) (hhp : ∀ j, j < 6 → ∀ i, i < 5 → (hc j).pi i < 5) : zC l G yX5_pay cX5_pay 3 (some .int) 6 156 0 0 [.ref a, .int (m), .int (v)] (hoM G M a c t hc sc (nI kn) hi sv sg pl d) N (zP (some (.int (zE (zDpay m v) (fun i => c.ac i + v)))) (hoM G M a (zU (zDpay m v) c (zPaC c v)) t (zU (zDpay m v) hc (fun _ => zRmC hc hi kn c)) sc (nI (zU (zDpay m v) kn (fun _ => zRecK kn))) (zU (zDpay m v) hi (fun _ => zRmI hi kn)) sv sg pl d)) := by
  refine zC.of (by decide +kernel) (Nat.le_of_ble_eq_true rfl) ?_
  intro K hKl ok
  subst hKl
  show zW K G 3 _ 0 0 _ N 0 [(0, .ref a), (1, .int (m)), (2, .int (v))] []
  refine r_iload_n ok dX5_pay_0 1 rfl rfl ?_
  refine r_cS1 ok [] mi_X5_isMember ml_X5_58 sm_X5_isMember dX5_pay_1 (c_X5_isMember K.2.1 G (hoM G M a c t hc sc (nI kn) hi sv sg pl d) N  m ) rfl rfl ⟨Nat.le_of_ble_eq_true rfl, Nat.le_of_ble_eq_true rfl⟩ (Nat.le_of_ble_eq_true rfl) ⟨Nat.zero_le _, Nat.zero_le _⟩ ?_
  refine r_ifneZ ok 10 dX5_pay_4 (by decide) (fun c4_1 => ?_) (fun c4_1 => ?_)
  · skip
    obtain ⟨mi, z_m⟩ := Option.isSome_iff_exists.mp c4_1
    obtain ⟨h_m, e_m⟩ := zix_some z_m (by omega)
    subst e_m
    refine r_iload_n ok dX5_pay_10 2 rfl rfl ?_
    refine r_iconst ok (nI 1) dX5_pay_11 (by rfl) ?_
    refine r_icmp_lt ok 22 dX5_pay_12 (by decide) (fun c12_2 => ?_) (fun c12_2 => ?_)
    · skip
      have zb12 : zbe v (nI 1) (nI 1000) = false := zbe_lt c12_2
      refine r_ldc ok ck_X5_48 dX5_pay_22 ?_
      exact r_iret ok dX5_pay_24 rfl ⟨congrArg (fun z => some (Value.int z)) (show -100002 = zE (zDpay (nI (mi)) v) (fun i => c.ac i + v) from by simp [zDpay, zPaC, zE, zU, zOb, zCl_eta, zOd_eta, *]), (by simp [zDpay, zPaC, zE, zU, zOb, zCl_eta, zOd_eta, *])⟩
    · skip
      have lb12 := c12_2
      refine r_iload_n ok dX5_pay_15 2 rfl rfl ?_
      refine r_sipush ok (nI 1000) dX5_pay_16 (by rfl) ?_
      refine r_icmp_le ok 25 dX5_pay_19 (by decide) (fun c19_3 => ?_) (fun c19_3 => ?_)
      · skip
        have zb12 : zbe v (nI 1) (nI 1000) = true := zbe_ok lb12 (Int32.not_lt.mpr c19_3)
        refine r_aload_n ok dX5_pay_25 0 rfl rfl ?_
        refine r_cV0 ok [] mi_X5_remember ci_X5 ml_X5_52 im_X5_remember se_X5_remember dX5_pay_26 (c_X5_remember K.2.1 G M N a c t hc sc (nI kn) hi sv sg pl d kn  (by omega) hhi (by omega) hpi hhp) ho_o rfl rfl ⟨Nat.le_of_ble_eq_true rfl, Nat.le_of_ble_eq_true rfl⟩ (Nat.le_of_ble_eq_true rfl) ⟨Nat.zero_le _, Nat.zero_le _⟩ ?_
        refine r_aload_n ok dX5_pay_29 0 rfl rfl ?_
        refine r_getf ok ci_X5 fl_X5_10 (by decide) dX5_pay_30 ho_o rfl ?_
        refine r_getf ok ci_X0 fl_X5_109 (by decide) dX5_pay_33 (ho_rc cb_o) rfl ?_
        refine r_iload_n ok dX5_pay_36 1 rfl rfl ?_
        refine r_dup2 ok dX5_pay_37 rfl rfl ?_
        refine r_ialdN ok (by omega) (by omega) dX5_pay_38 (ho_rc cb_ac) ?_
        refine r_iload_n ok dX5_pay_39 2 rfl rfl ?_
        refine r_iadd ok dX5_pay_40 ?_
        refine r_iastN ok (by omega) (by omega) dX5_pay_41 (ho_rc cb_ac) (ho_wc (zCl.mk c.st c.dy c.x c.br c.sp c.wa (upd c.ac mi ((c.ac mi) + v)) c.ps c.pp c.pu c.lo c.un c.op c.pi c.cn c.vl c.du c.io c.hp c.hs) (cbw_ac _)) ?_
        refine r_aload_n ok dX5_pay_42 0 rfl rfl ?_
        refine r_getf ok ci_X5 fl_X5_10 (by decide) dX5_pay_43 ho_o rfl ?_
        refine r_getf ok ci_X0 fl_X5_109 (by decide) dX5_pay_46 (ho_rc cb_o) rfl ?_
        refine r_iload_n ok dX5_pay_49 1 rfl rfl ?_
        refine r_ialdN ok (by omega) (by omega) dX5_pay_50 (ho_rc cb_ac) ?_
        refine zW.to (st' := [.int ((c.ac mi) + v)]) ?_ rfl rfl (congrArg (fun z => (Value.int z :: [] : List Value)) (show (upd c.ac mi ((c.ac mi) + v)) mi = (c.ac mi) + v from pk_us))
        exact r_iret ok dX5_pay_51 rfl ⟨congrArg (fun z => some (Value.int z)) (show (c.ac mi) + v = zE (zDpay (nI (mi)) v) (fun i => c.ac i + v) from by simp [zDpay, zPaC, zE, zU, zOb, zCl_eta, zOd_eta, *]), (by simp [zDpay, zPaC, zE, zU, zOb, zCl_eta, zOd_eta, *])⟩
      · skip
        have zb12 : zbe v (nI 1) (nI 1000) = false := zbe_gt (Int32.not_le.mp c19_3)
        refine r_ldc ok ck_X5_48 dX5_pay_22 ?_
        exact r_iret ok dX5_pay_24 rfl ⟨congrArg (fun z => some (Value.int z)) (show -100002 = zE (zDpay (nI (mi)) v) (fun i => c.ac i + v) from by simp [zDpay, zPaC, zE, zU, zOb, zCl_eta, zOd_eta, *]), (by simp [zDpay, zPaC, zE, zU, zOb, zCl_eta, zOd_eta, *])⟩
  · skip
    have n_m : zix m 6 = none := Option.not_isSome_iff_eq_none.mp (by rw [c4_1]; decide)
    refine r_ldc ok ck_X5_65 dX5_pay_7 ?_
    exact r_iret ok dX5_pay_9 rfl ⟨congrArg (fun z => some (Value.int z)) (show -100001 = zE (zDpay m v) (fun i => c.ac i + v) from by simp [zDpay, zPaC, zE, zU, zOb, zCl_eta, zOd_eta, *]), (by simp [zDpay, zPaC, zE, zU, zOb, zCl_eta, zOd_eta, *])⟩
set_option maxHeartbeats 4000000 in
set_option maxRecDepth 100000 in
theorem c_X5_give (l : Launch) (G : zG) (M : zM) (N a : Nat) (c t : zCl) (hc sc : Nat → zCl) (kp : Int32) (hi : Nat → Nat) (sv : Nat → Bool) (sg : Nat → Int32) (pl : Int32) (d : zOd) (kn : Nat) (m : Int32) (o : Int32) (g : Int32) (v : Int32) (hk : kn ≤ 6) (hhi : ∀ i, i < 6 → hi i < 6) (hu : c.un ≤ 5) (hpi : ∀ i, i < 5 → c.pi i < 5) (hhp : ∀ j, j < 6 → ∀ i, i < 5 → (hc j).pi i < 5) : zC l G yX5_give cX5_give 5 (some .int) 6 156 0 0 [.ref a, .int (m), .int (o), .int (g), .int (v)] (hoM G M a c t hc sc (nI kn) hi sv sg pl d) N (zP (some (.int (zE (zDgiveC c m o g v) (fun q => zGvA c v q q.1)))) (hoM G M a (zU (zDgiveC c m o g v) c (zGvC c v)) t (zU (zDgiveC c m o g v) hc (fun _ => zRmC hc hi kn c)) sc (nI (zU (zDgiveC c m o g v) kn (fun _ => zRecK kn))) (zU (zDgiveC c m o g v) hi (fun _ => zRmI hi kn)) sv sg pl d)) := by
  refine zC.of (by decide +kernel) (Nat.le_of_ble_eq_true rfl) ?_
  intro K hKl ok
  subst hKl
  show zW K G 5 _ 0 0 _ N 0 [(0, .ref a), (1, .int (m)), (2, .int (o)), (3, .int (g)), (4, .int (v))] []
  refine r_iload_n ok dX5_give_0 1 rfl rfl ?_
  refine r_cS1 ok [] mi_X5_isMember ml_X5_58 sm_X5_isMember dX5_give_1 (c_X5_isMember K.2.1 G (hoM G M a c t hc sc (nI kn) hi sv sg pl d) N  m ) rfl rfl ⟨Nat.le_of_ble_eq_true rfl, Nat.le_of_ble_eq_true rfl⟩ (Nat.le_of_ble_eq_true rfl) ⟨Nat.zero_le _, Nat.zero_le _⟩ ?_
  refine r_ifeqZ ok 21 dX5_give_4 (by decide) (fun c4_1 => ?_) (fun c4_1 => ?_)
  · skip
    have n_m : zix m 6 = none := Option.not_isSome_iff_eq_none.mp (by rw [c4_1]; decide)
    refine r_ldc ok ck_X5_65 dX5_give_21 ?_
    exact r_iret ok dX5_give_23 rfl ⟨congrArg (fun z => some (Value.int z)) (show -100001 = zE (zDgiveC c m o g v) (fun q => zGvA c v q q.1) from by simp [zDgiveC, zGvA, zE, zU, zOb, zCl_eta, zOd_eta, *]), (by simp [zDgiveC, zGvC, zGvS, zGvA, zE, zU, zOb, zCl_eta, zOd_eta, *])⟩
  · skip
    obtain ⟨mi, z_m⟩ := Option.isSome_iff_exists.mp c4_1
    obtain ⟨h_m, e_m⟩ := zix_some z_m (by omega)
    subst e_m
    refine r_iload_n ok dX5_give_7 2 rfl rfl ?_
    refine r_cS1 ok [] mi_X5_isMember ml_X5_58 sm_X5_isMember dX5_give_8 (c_X5_isMember K.2.1 G (hoM G M a c t hc sc (nI kn) hi sv sg pl d) N  o ) rfl rfl ⟨Nat.le_of_ble_eq_true rfl, Nat.le_of_ble_eq_true rfl⟩ (Nat.le_of_ble_eq_true rfl) ⟨Nat.zero_le _, Nat.zero_le _⟩ ?_
    refine r_ifeqZ ok 21 dX5_give_11 (by decide) (fun c11_2 => ?_) (fun c11_2 => ?_)
    · skip
      have n_o : zix o 6 = none := Option.not_isSome_iff_eq_none.mp (by rw [c11_2]; decide)
      refine r_ldc ok ck_X5_65 dX5_give_21 ?_
      exact r_iret ok dX5_give_23 rfl ⟨congrArg (fun z => some (Value.int z)) (show -100001 = zE (zDgiveC c (nI (mi)) o g v) (fun q => zGvA c v q q.1) from by simp [zDgiveC, zGvA, zE, zU, zOb, zCl_eta, zOd_eta, *]), (by simp [zDgiveC, zGvC, zGvS, zGvA, zE, zU, zOb, zCl_eta, zOd_eta, *])⟩
    · skip
      obtain ⟨oi, z_o⟩ := Option.isSome_iff_exists.mp c11_2
      obtain ⟨h_o, e_o⟩ := zix_some z_o (by omega)
      subst e_o
      refine r_iload_n ok dX5_give_14 3 rfl rfl ?_
      refine r_cS1 ok [] mi_X5_isGauge ml_X5_62 sm_X5_isGauge dX5_give_15 (c_X5_isGauge K.2.1 G (hoM G M a c t hc sc (nI kn) hi sv sg pl d) N  g ) rfl rfl ⟨Nat.le_of_ble_eq_true rfl, Nat.le_of_ble_eq_true rfl⟩ (Nat.le_of_ble_eq_true rfl) ⟨Nat.zero_le _, Nat.zero_le _⟩ ?_
      refine r_ifneZ ok 24 dX5_give_18 (by decide) (fun c18_3 => ?_) (fun c18_3 => ?_)
      · skip
        obtain ⟨gi, z_g⟩ := Option.isSome_iff_exists.mp c18_3
        obtain ⟨h_g, e_g⟩ := zix_some z_g (by omega)
        subst e_g
        refine r_iload_n ok dX5_give_24 1 rfl rfl ?_
        refine r_iload_n ok dX5_give_25 2 rfl rfl ?_
        refine r_icmp_eqN ok 42 (by omega) (by omega) dX5_give_26 (by decide) (fun c26_4 => ?_) (fun c26_4 => ?_)
        · skip
          refine r_ldc ok ck_X5_48 dX5_give_42 ?_
          exact r_iret ok dX5_give_44 rfl ⟨congrArg (fun z => some (Value.int z)) (show -100002 = zE (zDgiveC c (nI (mi)) (nI (oi)) (nI (gi)) v) (fun q => zGvA c v q q.1) from by simp [zDgiveC, zGvA, zE, zU, zOb, zCl_eta, zOd_eta, *]), (by simp [zDgiveC, zGvC, zGvS, zGvA, zE, zU, zOb, zCl_eta, zOd_eta, *])⟩
        · skip
          refine r_iload ok dX5_give_29 4 rfl ?_
          refine r_iconst ok (nI 1) dX5_give_31 (by rfl) ?_
          refine r_icmp_lt ok 42 dX5_give_32 (by decide) (fun c32_5 => ?_) (fun c32_5 => ?_)
          · skip
            have zb32 : zbe v (nI 1) (nI 20) = false := zbe_lt c32_5
            refine r_ldc ok ck_X5_48 dX5_give_42 ?_
            exact r_iret ok dX5_give_44 rfl ⟨congrArg (fun z => some (Value.int z)) (show -100002 = zE (zDgiveC c (nI (mi)) (nI (oi)) (nI (gi)) v) (fun q => zGvA c v q q.1) from by simp [zDgiveC, zGvA, zE, zU, zOb, zCl_eta, zOd_eta, *]), (by simp [zDgiveC, zGvC, zGvS, zGvA, zE, zU, zOb, zCl_eta, zOd_eta, *])⟩
          · skip
            have lb32 := c32_5
            refine r_iload ok dX5_give_35 4 rfl ?_
            refine r_bipush ok (nI 20) dX5_give_37 (by rfl) ?_
            refine r_icmp_le ok 45 dX5_give_39 (by decide) (fun c39_6 => ?_) (fun c39_6 => ?_)
            · skip
              have zb32 : zbe v (nI 1) (nI 20) = true := zbe_ok lb32 (Int32.not_lt.mpr c39_6)
              refine r_aload_n ok dX5_give_45 0 rfl rfl ?_
              refine r_getf ok ci_X5 fl_X5_10 (by decide) dX5_give_46 ho_o rfl ?_
              refine r_getf ok ci_X0 fl_X5_85 (by decide) dX5_give_49 (ho_rc cb_o) rfl ?_
              refine r_iload_n ok dX5_give_52 1 rfl rfl ?_
              refine r_aaldN ok 3 (Or.inl rfl) (a + 1 + 4 + mi) (by omega) (by omega) dX5_give_53 (ho_rc cb_sp) (zRef6_at (by omega)) ?_
              refine r_iload_n ok dX5_give_54 3 rfl rfl ?_
              refine r_ialdN ok (by omega) (by omega) dX5_give_55 (ho_rc (cb_spr (by omega))) ?_
              refine r_iload ok dX5_give_56 4 rfl ?_
              refine r_icmp_lt ok 80 dX5_give_58 (by decide) (fun c58_7 => ?_) (fun c58_7 => ?_)
              · skip
                refine r_ldc ok ck_X5_73 dX5_give_80 ?_
                exact r_iret ok dX5_give_82 rfl ⟨congrArg (fun z => some (Value.int z)) (show -100005 = zE (zDgiveC c (nI (mi)) (nI (oi)) (nI (gi)) v) (fun q => zGvA c v q q.1) from by simp [zDgiveC, zGvA, zE, zU, zOb, zCl_eta, zOd_eta, *]), (by simp [zDgiveC, zGvC, zGvS, zGvA, zE, zU, zOb, zCl_eta, zOd_eta, *])⟩
              · skip
                have nl := c58_7
                refine r_aload_n ok dX5_give_61 0 rfl rfl ?_
                refine r_getf ok ci_X5 fl_X5_10 (by decide) dX5_give_62 ho_o rfl ?_
                refine r_getf ok ci_X0 fl_X5_85 (by decide) dX5_give_65 (ho_rc cb_o) rfl ?_
                refine r_iload_n ok dX5_give_68 2 rfl rfl ?_
                refine r_aaldN ok 3 (Or.inl rfl) (a + 1 + 4 + oi) (by omega) (by omega) dX5_give_69 (ho_rc cb_sp) (zRef6_at (by omega)) ?_
                refine r_iload_n ok dX5_give_70 3 rfl rfl ?_
                refine r_ialdN ok (by omega) (by omega) dX5_give_71 (ho_rc (cb_spr (by omega))) ?_
                refine r_iload ok dX5_give_72 4 rfl ?_
                refine r_iadd ok dX5_give_74 ?_
                refine r_bipush ok (nI 99) dX5_give_75 (by rfl) ?_
                refine r_icmp_le ok 83 dX5_give_77 (by decide) (fun c77_8 => ?_) (fun c77_8 => ?_)
                · skip
                  have le := c77_8
                  refine r_aload_n ok dX5_give_83 0 rfl rfl ?_
                  refine r_cV0 ok [] mi_X5_remember ci_X5 ml_X5_52 im_X5_remember se_X5_remember dX5_give_84 (c_X5_remember K.2.1 G M N a c t hc sc (nI kn) hi sv sg pl d kn  (by omega) hhi (by omega) hpi hhp) ho_o rfl rfl ⟨Nat.le_of_ble_eq_true rfl, Nat.le_of_ble_eq_true rfl⟩ (Nat.le_of_ble_eq_true rfl) ⟨Nat.zero_le _, Nat.zero_le _⟩ ?_
                  refine r_aload_n ok dX5_give_87 0 rfl rfl ?_
                  refine r_getf ok ci_X5 fl_X5_10 (by decide) dX5_give_88 ho_o rfl ?_
                  refine r_getf ok ci_X0 fl_X5_85 (by decide) dX5_give_91 (ho_rc cb_o) rfl ?_
                  refine r_iload_n ok dX5_give_94 1 rfl rfl ?_
                  refine r_aaldN ok 3 (Or.inl rfl) (a + 1 + 4 + mi) (by omega) (by omega) dX5_give_95 (ho_rc cb_sp) (zRef6_at (by omega)) ?_
                  refine r_iload_n ok dX5_give_96 3 rfl rfl ?_
                  refine r_dup2 ok dX5_give_97 rfl rfl ?_
                  refine r_ialdN ok (by omega) (by omega) dX5_give_98 (ho_rc (cb_spr (by omega))) ?_
                  refine r_iload ok dX5_give_99 4 rfl ?_
                  refine r_isub ok dX5_give_101 ?_
                  refine r_iastN ok (by omega) (by omega) dX5_give_102 (ho_rc (cb_spr (by omega))) (ho_wc (zCl.mk c.st c.dy c.x c.br (va_up c.sp mi (upd (c.sp mi) gi (((c.sp mi) gi) - v))) c.wa c.ac c.ps c.pp c.pu c.lo c.un c.op c.pi c.cn c.vl c.du c.io c.hp c.hs) (cbw_spr (by omega) _)) ?_
                  refine r_aload_n ok dX5_give_103 0 rfl rfl ?_
                  refine r_getf ok ci_X5 fl_X5_10 (by decide) dX5_give_104 ho_o rfl ?_
                  refine r_getf ok ci_X0 fl_X5_85 (by decide) dX5_give_107 (ho_rc cb_o) rfl ?_
                  refine r_iload_n ok dX5_give_110 2 rfl rfl ?_
                  refine r_aaldN ok 3 (Or.inl rfl) (a + 1 + 4 + oi) (by omega) (by omega) dX5_give_111 (ho_rc cb_sp) (zRef6_at (by omega)) ?_
                  refine r_iload_n ok dX5_give_112 3 rfl rfl ?_
                  refine r_dup2 ok dX5_give_113 rfl rfl ?_
                  refine r_ialdN ok (by omega) (by omega) dX5_give_114 (ho_rc (cb_spr (by omega))) ?_
                  refine r_iload ok dX5_give_115 4 rfl ?_
                  refine r_iadd ok dX5_give_117 ?_
                  refine r_iastN ok (by omega) (by omega) dX5_give_118 (ho_rc (cb_spr (by omega))) (ho_wc (zCl.mk c.st c.dy c.x c.br (va_up (va_up c.sp mi (upd (c.sp mi) gi (((c.sp mi) gi) - v))) oi (upd (va_up c.sp mi (upd (c.sp mi) gi (((c.sp mi) gi) - v)) oi) gi (((va_up c.sp mi (upd (c.sp mi) gi (((c.sp mi) gi) - v)) oi) gi) + v))) c.wa c.ac c.ps c.pp c.pu c.lo c.un c.op c.pi c.cn c.vl c.du c.io c.hp c.hs) (cbw_spr (by omega) _)) ?_
                  refine r_aload_n ok dX5_give_119 0 rfl rfl ?_
                  refine r_getf ok ci_X5 fl_X5_10 (by decide) dX5_give_120 ho_o rfl ?_
                  refine r_getf ok ci_X0 fl_X5_109 (by decide) dX5_give_123 (ho_rc cb_o) rfl ?_
                  refine r_iload_n ok dX5_give_126 1 rfl rfl ?_
                  refine r_dup2 ok dX5_give_127 rfl rfl ?_
                  refine r_ialdN ok (by omega) (by omega) dX5_give_128 (ho_rc cb_ac) ?_
                  refine r_iload ok dX5_give_129 4 rfl ?_
                  refine r_iload_n ok dX5_give_131 3 rfl rfl ?_
                  refine r_cS1 ok [.int (v), .int (c.ac mi), .int (nI (mi)), .ref (a + 1 + 17)] mi_X5_priceOf ml_X5_112 sm_X5_priceOf dX5_give_132 (c_X5_priceOf K.2.1 G (hoM G M a (zCl.mk c.st c.dy c.x c.br (va_up (va_up c.sp mi (upd (c.sp mi) gi (((c.sp mi) gi) - v))) oi (upd (va_up c.sp mi (upd (c.sp mi) gi (((c.sp mi) gi) - v)) oi) gi (((va_up c.sp mi (upd (c.sp mi) gi (((c.sp mi) gi) - v)) oi) gi) + v))) c.wa c.ac c.ps c.pp c.pu c.lo c.un c.op c.pi c.cn c.vl c.du c.io c.hp c.hs) t (zRmC hc hi kn c) sc (nI (zRecK kn)) (zRmI hi kn) sv sg pl d) N  gi ) rfl rfl ⟨Nat.le_of_ble_eq_true rfl, Nat.le_of_ble_eq_true rfl⟩ (Nat.le_of_ble_eq_true rfl) ⟨Nat.zero_le _, Nat.zero_le _⟩ ?_
                  refine r_imul ok dX5_give_135 ?_
                  refine r_iadd ok dX5_give_136 ?_
                  refine r_iastN ok (by omega) (by omega) dX5_give_137 (ho_rc cb_ac) (ho_wc (zCl.mk c.st c.dy c.x c.br (va_up (va_up c.sp mi (upd (c.sp mi) gi (((c.sp mi) gi) - v))) oi (upd (va_up c.sp mi (upd (c.sp mi) gi (((c.sp mi) gi) - v)) oi) gi (((va_up c.sp mi (upd (c.sp mi) gi (((c.sp mi) gi) - v)) oi) gi) + v))) c.wa (upd c.ac mi ((c.ac mi) + (v * (nI (10 + 5 * gi))))) c.ps c.pp c.pu c.lo c.un c.op c.pi c.cn c.vl c.du c.io c.hp c.hs) (cbw_ac _)) ?_
                  refine r_aload_n ok dX5_give_138 0 rfl rfl ?_
                  refine r_getf ok ci_X5 fl_X5_10 (by decide) dX5_give_139 ho_o rfl ?_
                  refine r_getf ok ci_X0 fl_X5_109 (by decide) dX5_give_142 (ho_rc cb_o) rfl ?_
                  refine r_iload_n ok dX5_give_145 2 rfl rfl ?_
                  refine r_dup2 ok dX5_give_146 rfl rfl ?_
                  refine r_ialdN ok (by omega) (by omega) dX5_give_147 (ho_rc cb_ac) ?_
                  refine r_iload ok dX5_give_148 4 rfl ?_
                  refine r_iload_n ok dX5_give_150 3 rfl rfl ?_
                  refine r_cS1 ok [.int (v), .int ((upd c.ac mi ((c.ac mi) + (v * (nI (10 + 5 * gi))))) oi), .int (nI (oi)), .ref (a + 1 + 17)] mi_X5_priceOf ml_X5_112 sm_X5_priceOf dX5_give_151 (c_X5_priceOf K.2.1 G (hoM G M a (zCl.mk c.st c.dy c.x c.br (va_up (va_up c.sp mi (upd (c.sp mi) gi (((c.sp mi) gi) - v))) oi (upd (va_up c.sp mi (upd (c.sp mi) gi (((c.sp mi) gi) - v)) oi) gi (((va_up c.sp mi (upd (c.sp mi) gi (((c.sp mi) gi) - v)) oi) gi) + v))) c.wa (upd c.ac mi ((c.ac mi) + (v * (nI (10 + 5 * gi))))) c.ps c.pp c.pu c.lo c.un c.op c.pi c.cn c.vl c.du c.io c.hp c.hs) t (zRmC hc hi kn c) sc (nI (zRecK kn)) (zRmI hi kn) sv sg pl d) N  gi ) rfl rfl ⟨Nat.le_of_ble_eq_true rfl, Nat.le_of_ble_eq_true rfl⟩ (Nat.le_of_ble_eq_true rfl) ⟨Nat.zero_le _, Nat.zero_le _⟩ ?_
                  refine r_imul ok dX5_give_154 ?_
                  refine r_isub ok dX5_give_155 ?_
                  refine r_iastN ok (by omega) (by omega) dX5_give_156 (ho_rc cb_ac) (ho_wc (zCl.mk c.st c.dy c.x c.br (va_up (va_up c.sp mi (upd (c.sp mi) gi (((c.sp mi) gi) - v))) oi (upd (va_up c.sp mi (upd (c.sp mi) gi (((c.sp mi) gi) - v)) oi) gi (((va_up c.sp mi (upd (c.sp mi) gi (((c.sp mi) gi) - v)) oi) gi) + v))) c.wa (upd (upd c.ac mi ((c.ac mi) + (v * (nI (10 + 5 * gi))))) oi (((upd c.ac mi ((c.ac mi) + (v * (nI (10 + 5 * gi))))) oi) - (v * (nI (10 + 5 * gi))))) c.ps c.pp c.pu c.lo c.un c.op c.pi c.cn c.vl c.du c.io c.hp c.hs) (cbw_ac _)) ?_
                  refine r_aload_n ok dX5_give_157 0 rfl rfl ?_
                  refine r_getf ok ci_X5 fl_X5_10 (by decide) dX5_give_158 ho_o rfl ?_
                  refine r_getf ok ci_X0 fl_X5_109 (by decide) dX5_give_161 (ho_rc cb_o) rfl ?_
                  refine r_iload_n ok dX5_give_164 1 rfl rfl ?_
                  refine r_ialdN ok (by omega) (by omega) dX5_give_165 (ho_rc cb_ac) ?_
                  exact r_iret ok dX5_give_166 rfl ⟨congrArg (fun z => some (Value.int z)) (show (upd (upd c.ac mi ((c.ac mi) + (v * (nI (10 + 5 * gi))))) oi (((upd c.ac mi ((c.ac mi) + (v * (nI (10 + 5 * gi))))) oi) - (v * (nI (10 + 5 * gi))))) mi = zE (zDgiveC c (nI (mi)) (nI (oi)) (nI (gi)) v) (fun q => zGvA c v q q.1) from by simp [zDgiveC, zGvA, zE, zU, zOb, zCl_eta, zOd_eta, *]), (by simp [zDgiveC, zGvC, zGvS, zGvA, zE, zU, zOb, zCl_eta, zOd_eta, *])⟩
                · skip
                  have le := c77_8
                  refine r_ldc ok ck_X5_73 dX5_give_80 ?_
                  exact r_iret ok dX5_give_82 rfl ⟨congrArg (fun z => some (Value.int z)) (show -100005 = zE (zDgiveC c (nI (mi)) (nI (oi)) (nI (gi)) v) (fun q => zGvA c v q q.1) from by simp [zDgiveC, zGvA, zE, zU, zOb, zCl_eta, zOd_eta, *]), (by simp [zDgiveC, zGvC, zGvS, zGvA, zE, zU, zOb, zCl_eta, zOd_eta, *])⟩
            · skip
              have zb32 : zbe v (nI 1) (nI 20) = false := zbe_gt (Int32.not_le.mp c39_6)
              refine r_ldc ok ck_X5_48 dX5_give_42 ?_
              exact r_iret ok dX5_give_44 rfl ⟨congrArg (fun z => some (Value.int z)) (show -100002 = zE (zDgiveC c (nI (mi)) (nI (oi)) (nI (gi)) v) (fun q => zGvA c v q q.1) from by simp [zDgiveC, zGvA, zE, zU, zOb, zCl_eta, zOd_eta, *]), (by simp [zDgiveC, zGvC, zGvS, zGvA, zE, zU, zOb, zCl_eta, zOd_eta, *])⟩
      · skip
        have n_g : zix g 8 = none := Option.not_isSome_iff_eq_none.mp (by rw [c18_3]; decide)
        refine r_ldc ok ck_X5_65 dX5_give_21 ?_
        exact r_iret ok dX5_give_23 rfl ⟨congrArg (fun z => some (Value.int z)) (show -100001 = zE (zDgiveC c (nI (mi)) (nI (oi)) g v) (fun q => zGvA c v q q.1) from by simp [zDgiveC, zGvA, zE, zU, zOb, zCl_eta, zOd_eta, *]), (by simp [zDgiveC, zGvC, zGvS, zGvA, zE, zU, zOb, zCl_eta, zOd_eta, *])⟩
set_option maxHeartbeats 4000000 in
set_option maxRecDepth 100000 in
theorem c_X5_shuffle (l : Launch) (G : zG) (M : zM) (N a : Nat) (c t : zCl) (hc sc : Nat → zCl) (kp : Int32) (hi : Nat → Nat) (sv : Nat → Bool) (sg : Nat → Int32) (pl : Int32) (d : zOd) (kn : Nat) (v : Int32) (hk : kn ≤ 6) (hhi : ∀ i, i < 6 → hi i < 6) (hu : c.un ≤ 5) (hpi : ∀ i, i < 5 → c.pi i < 5) (hhp : ∀ j, j < 6 → ∀ i, i < 5 → (hc j).pi i < 5) : zC l G yX5_shuffle cX5_shuffle 3 (some .int) 6 156 0 0 [.ref a, .int (v)] (hoM G M a c t hc sc (nI kn) hi sv sg pl d) N (zP (some (.int (zE (zDshuf v) (fun _ => c.x)))) (hoM G M a (zU (zDshuf v) c (fun _ => (zCl.mk c.st c.dy (v) c.br c.sp c.wa c.ac c.ps c.pp c.pu c.lo c.un c.op c.pi c.cn c.vl c.du c.io c.hp c.hs))) t (zU (zDshuf v) hc (fun _ => zRmC hc hi kn c)) sc (nI (zU (zDshuf v) kn (fun _ => zRecK kn))) (zU (zDshuf v) hi (fun _ => zRmI hi kn)) sv sg pl d)) := by
  refine zC.of (by decide +kernel) (Nat.le_of_ble_eq_true rfl) ?_
  intro K hKl ok
  subst hKl
  show zW K G 3 _ 0 0 _ N 0 [(0, .ref a), (1, .int (v))] []
  refine r_iload_n ok dX5_shuffle_0 1 rfl rfl ?_
  refine r_if_ge ok 7 dX5_shuffle_1 (by decide) (fun c1_1 => ?_) (fun c1_1 => ?_)
  · skip
    have nn : ¬ v < 0 := Int32.not_lt.mpr c1_1
    refine r_aload_n ok dX5_shuffle_7 0 rfl rfl ?_
    refine r_cV0 ok [] mi_X5_remember ci_X5 ml_X5_52 im_X5_remember se_X5_remember dX5_shuffle_8 (c_X5_remember K.2.1 G M N a c t hc sc (nI kn) hi sv sg pl d kn  (by omega) hhi (by omega) hpi hhp) ho_o rfl rfl ⟨Nat.le_of_ble_eq_true rfl, Nat.le_of_ble_eq_true rfl⟩ (Nat.le_of_ble_eq_true rfl) ⟨Nat.zero_le _, Nat.zero_le _⟩ ?_
    refine r_aload_n ok dX5_shuffle_11 0 rfl rfl ?_
    refine r_getf ok ci_X5 fl_X5_10 (by decide) dX5_shuffle_12 ho_o rfl ?_
    refine r_getf ok ci_X0 fl_X5_146 (by decide) dX5_shuffle_15 (ho_rc cb_o) rfl ?_
    refine r_istore_n ok [(2, .int (c.x)), (0, .ref a), (1, .int (v))] dX5_shuffle_18 rfl (by decide) rfl ?_
    refine r_aload_n ok dX5_shuffle_19 1 rfl rfl ?_
    refine r_getf ok ci_X5 fl_X5_10 (by decide) dX5_shuffle_20 ho_o rfl ?_
    refine r_iload_n ok dX5_shuffle_23 2 rfl rfl ?_
    refine r_putf ok ci_X0 fl_X5_146 (by decide) rfl rfl rfl dX5_shuffle_24 (ho_rc cb_o) rfl (ho_wc (zCl.mk c.st c.dy v c.br c.sp c.wa c.ac c.ps c.pp c.pu c.lo c.un c.op c.pi c.cn c.vl c.du c.io c.hp c.hs) (cbw_o c.dy v (nI c.un) c.op)) ?_
    refine r_iload_n ok dX5_shuffle_27 0 rfl rfl ?_
    exact r_iret ok dX5_shuffle_28 rfl ⟨congrArg (fun z => some (Value.int z)) (show c.x = zE (zDshuf v) (fun _ => c.x) from by simp [zDshuf, zE, zU, zOb, zCl_eta, zOd_eta, *]), (by simp [zDshuf, zE, zU, zOb, zCl_eta, zOd_eta, *])⟩
  · skip
    have nn : v < 0 := Int32.not_le.mp c1_1
    refine r_ldc ok ck_X5_48 dX5_shuffle_4 ?_
    exact r_iret ok dX5_shuffle_6 rfl ⟨congrArg (fun z => some (Value.int z)) (show -100002 = zE (zDshuf v) (fun _ => c.x) from by simp [zDshuf, zE, zU, zOb, zCl_eta, zOd_eta, *]), (by simp [zDshuf, zE, zU, zOb, zCl_eta, zOd_eta, *])⟩
