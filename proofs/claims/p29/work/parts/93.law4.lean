/-! a change -/
/-- the memory but the object: what is paid in, a row of one -/
def zPb (G : zG) (b : Nat) (f : Nat → Int32) : zM := zu (fun _ => none) b (zI (G.2.1 0) 1 f)
theorem zPb_at {G : zG} {b : Nat} {f : Nat → Int32} : zPb G b f b = some (zI (G.2.1 0) 1 f) := zu_self _ _ _
def zSB (G : zG) (b a : Nat) (s : Nat → Int32) (kn : Nat) (P E : Int) (M' : zM) : Prop := ∃ f : Nat → Int32, f 0 = Int32.ofInt P ∧ zSM G (zPb G b f) a s kn P E M'
def zChB (G : zG) (b a : Nat) (s : Nat → Int32) (kn : Nat) (P E : Int) (r : Int32) (M' : zM) : Prop := (r < -100000 ∧ zSB G b a s kn P E M') ∨ (¬ r < -100000 ∧ ∃ (s' : Nat → Int32) (P' : Int), zSB G b a s' (zRecK kn) P' E M')
section CB2
variable {G : zG} {b a : Nat} {s : Nat → Int32} {kn : Nat} {P E : Int} {f : Nat → Int32} {M' : zM}
theorem yCh_B {r : Int32} (h : yCh G (zPb G b f) a s kn P P E r M') (hf : f 0 = Int32.ofInt P) : zChB G b a s kn P E r M' := by
  rcases h with ⟨h1, h2⟩ | ⟨h1, s', h2⟩
  · exact Or.inl ⟨h1, f, hf, h2⟩
  · exact Or.inr ⟨h1, s', P, f, hf, h2⟩
theorem zSM_paid (hb : b < a ∨ a + 672 ≤ b) (h : zSM G (zPb G b f) a s kn P E M') (f' : Nat → Int32) : zSM G (zPb G b f') a s kn P E (zu M' b (zI (G.2.1 0) 1 f')) := by
  obtain ⟨c, hc, sc, hi, sv, sg, pl, sH, hO, hH, hA, t, d, hT, rfl⟩ := h
  refine ⟨c, hc, sc, hi, sv, sg, pl, sH, hO, hH, hA, t, d, hT, ?_⟩
  rw [ho_zu hb]
  unfold zPb
  rw [zu_zu]
theorem zSM_pat (hb : b < a ∨ a + 672 ≤ b) (h : zSM G (zPb G b f) a s kn P E M') : M' b = some (zI (G.2.1 0) 1 f) := (zSM_out h hb).trans zPb_at
end CB2
theorem zOfNat (n : Nat) : Int32.ofInt (n : Int) = nI n := rfl
set_option maxHeartbeats 4000000 in
set_option maxRecDepth 100000 in
theorem yl_change (l : Launch) {G : zG} {M0 : zM} {a b : Nat} {N : Nat} {s : Nat → Int32} {kn : Nat} {Pd Ed : Int} {kd : Nat} {x y : Int32} (hb : b < a ∨ a + 672 ≤ b) (hkd : kd < 16) (hB : zSB G b a s kn Pd Ed M0) (h30 : Ed + 1 ≤ 30) : zC l G yL_change cL_change 8 (some .int) 7 180 0 0 [.ref a, .ref b, .int (nI kd), .int (x), .int (y)] M0 N (fun r M1 => ∃ rv : Int32, r = some (.int rv) ∧ zChB G b a s kn Pd (Ed + 1) rv M1) := by
  refine zC.of (by decide +kernel) (Nat.le_of_ble_eq_true rfl) ?_
  intro K hKl ok
  subst hKl
  show zW K G 8 _ 0 0 _ N 0 [(0, .ref a), (1, .ref b), (2, .int (nI kd)), (3, .int (x)), (4, .int (y))] []
  obtain ⟨f, hf, h0⟩ := hB
  refine r_iload_n ok dL_change_0 3 rfl rfl ?_
  refine r_bipush ok (nI 7) dL_change_1 (by rfl) ?_
  refine r_cS1 ok [] mi_L_low ml_L_9 sm_L_low dL_change_3 (yl_low K.2.1 G M0 N x (n := 7) (by omega) (by omega)) rfl rfl ⟨Nat.le_of_ble_eq_true rfl, Nat.le_of_ble_eq_true rfl⟩ (Nat.le_of_ble_eq_true rfl) ⟨Nat.zero_le _, Nat.zero_le _⟩ ?_
  obtain ⟨m, em⟩ : ∃ m, m = zLow x 7 := ⟨_, rfl⟩
  have hm : m < 7 := by rw [em]; exact zLow_lt _ (by omega)
  rw [← em]
  refine r_istore ok [(5, .int (nI m)), (0, .ref a), (1, .ref b), (2, .int (nI kd)), (3, .int (x)), (4, .int (y))] dL_change_6 (by decide) rfl ?_
  refine r_iload ok dL_change_8 5 rfl ?_
  refine r_bipush ok (nI 9) dL_change_10 (by rfl) ?_
  refine r_cS1 ok [] mi_L_low ml_L_9 sm_L_low dL_change_12 (yl_low K.2.1 G M0 N y (n := 9) (by omega) (by omega)) rfl rfl ⟨Nat.le_of_ble_eq_true rfl, Nat.le_of_ble_eq_true rfl⟩ (Nat.le_of_ble_eq_true rfl) ⟨Nat.zero_le _, Nat.zero_le _⟩ ?_
  obtain ⟨g, eg⟩ : ∃ g, g = zLow y 9 := ⟨_, rfl⟩
  have hg : g < 9 := by rw [eg]; exact zLow_lt _ (by omega)
  rw [← eg]
  refine r_istore ok [(6, .int (nI g)), (5, .int (nI m)), (0, .ref a), (1, .ref b), (2, .int (nI kd)), (3, .int (x)), (4, .int (y))] dL_change_15 (by decide) rfl ?_
  refine r_iload_n ok dL_change_17 4 rfl rfl ?_
  have h92 : zW K G 8 (zQ K G (N + 0) 0 0 (fun r M1 => ∃ rv : Int32, r = some (.int rv) ∧ zChB G b a s kn Pd (Ed + 1) rv M1)) 0 0 M0 N 92 [(6, .int (nI g)), (5, .int (nI m)), (0, .ref a), (1, .ref b), (2, .int (nI kd)), (3, .int (x)), (4, .int (y))] [] := by
    refine r_aload_n ok dL_change_92 2 rfl rfl ?_
    refine r_iload ok dL_change_93 1 rfl ?_
    refine r_iload ok dL_change_95 6 rfl ?_
    refine r_bipush ok (nI 8) dL_change_97 (by rfl) ?_
    refine r_cS1 ok [.int (nI m), .ref a] mi_L_low ml_L_9 sm_L_low dL_change_99 (yl_low K.2.1 G M0 N y (n := 8) (by omega) (by omega)) rfl rfl ⟨Nat.le_of_ble_eq_true rfl, Nat.le_of_ble_eq_true rfl⟩ (Nat.le_of_ble_eq_true rfl) ⟨Nat.zero_le _, Nat.zero_le _⟩ ?_
    refine r_iload ok dL_change_102 6 rfl ?_
    refine r_iconst ok (nI 4) dL_change_104 (by rfl) ?_
    refine r_ishr ok dL_change_105 ?_
    refine r_bipush ok (nI 22) dL_change_106 (by rfl) ?_
    refine r_cS1 ok [.int (nI (zLow y 8)), .int (nI m), .ref a] mi_L_low ml_L_9 sm_L_low dL_change_108 (yl_low K.2.1 G M0 N (y >>> (nI 4 &&& 31)) (n := 22) (by omega) (by omega)) rfl rfl ⟨Nat.le_of_ble_eq_true rfl, Nat.le_of_ble_eq_true rfl⟩ (Nat.le_of_ble_eq_true rfl) ⟨Nat.zero_le _, Nat.zero_le _⟩ ?_
    obtain ⟨fsa, hMa⟩ := zSM_o h0
    obtain ⟨rv, Mc, hCc, hCh⟩ := co_want K.2.1 N h0 h30 (nI m) (nI (zLow y 8)) (nI (zLow (y >>> (nI 4 &&& 31)) 22))
    refine r_cV1 ok [] mi_X5_want ci_X5 ml_L_15 im_X5_want se_X5_want dL_change_111 hCc hMa rfl rfl ⟨Nat.le_of_ble_eq_true rfl, Nat.le_of_ble_eq_true rfl⟩ (Nat.le_of_ble_eq_true rfl) ⟨Nat.zero_le _, Nat.zero_le _⟩ ?_
    exact r_iret ok dL_change_114 rfl ⟨rv, rfl, yCh_B hCh hf⟩
  have h115 : zW K G 8 (zQ K G (N + 0) 0 0 (fun r M1 => ∃ rv : Int32, r = some (.int rv) ∧ zChB G b a s kn Pd (Ed + 1) rv M1)) 0 0 M0 N 115 [(6, .int (nI g)), (5, .int (nI m)), (0, .ref a), (1, .ref b), (2, .int (nI kd)), (3, .int (x)), (4, .int (y))] [] := by
    refine r_iconst ok (nI 1) dL_change_115 (by rfl) ?_
    refine r_iload ok dL_change_116 6 rfl ?_
    refine r_sipush ok (nI 1000) dL_change_118 (by rfl) ?_
    refine r_cS1 ok [.int (nI 1)] mi_L_low ml_L_9 sm_L_low dL_change_121 (yl_low K.2.1 G M0 N y (n := 1000) (by omega) (by omega)) rfl rfl ⟨Nat.le_of_ble_eq_true rfl, Nat.le_of_ble_eq_true rfl⟩ (Nat.le_of_ble_eq_true rfl) ⟨Nat.zero_le _, Nat.zero_le _⟩ ?_
    have hpn : 1 + zLow y 1000 ≤ 1000 := by have := zLow_lt y (n := 1000) (by omega); omega
    refine r_iaddN ok dL_change_124 ?_
    obtain ⟨pn, epn⟩ : ∃ pn, pn = 1 + zLow y 1000 := ⟨_, rfl⟩
    rw [← epn] at hpn ⊢
    have hp1 : 1 ≤ pn := by omega
    refine r_istore ok [(7, .int (nI pn)), (6, .int (nI g)), (5, .int (nI m)), (0, .ref a), (1, .ref b), (2, .int (nI kd)), (3, .int (x)), (4, .int (y))] dL_change_125 (by decide) rfl ?_
    refine r_aload_n ok dL_change_127 4 rfl rfl ?_
    refine r_iconst ok (nI 0) dL_change_128 (by rfl) ?_
    refine r_dup2 ok dL_change_129 rfl rfl ?_
    have hpat := zSM_pat hb h0
    refine r_ialdN ok (by omega) (by omega) dL_change_130 hpat ?_
    refine r_iload ok dL_change_131 2 rfl ?_
    refine r_bipush ok (nI 6) dL_change_133 (by rfl) ?_
    have hP := zSM_P h0
    refine r_icmp_geN ok 143 (by omega) (by omega) dL_change_135 (by decide) (fun c6 => ?_) (fun m6 => ?_)
    · skip
      refine r_iconst ok (0) dL_change_143 (by rfl) ?_
      refine r_iadd ok dL_change_144 ?_
      refine r_iastN ok (by omega) (by omega) dL_change_145 hpat (M' := zu M0 b (zI (G.2.1 0) 1 (upd f 0 ((f 0) + 0)))) rfl ?_
      have h1 := zSM_paid hb h0 (upd f 0 ((f 0) + 0))
      have hfn : (upd f 0 ((f 0) + 0)) 0 = f 0 + 0 := by simp [upd]
      refine r_aload_n ok dL_change_146 3 rfl rfl ?_
      refine r_iload ok dL_change_147 2 rfl ?_
      refine r_iload ok dL_change_149 0 rfl ?_
      obtain ⟨fsa, hMa⟩ := zSM_o h1
      obtain ⟨rv, Mc, hCc, hok, her⟩ := co_pay K.2.1 N h1 (E' := Ed + 1) (by omega) h30 (m := m) (v := pn) ⟨hp1, hpn⟩ (by omega)
      refine r_cV1 ok [] mi_X5_pay ci_X5 ml_L_21 im_X5_pay se_X5_pay dL_change_151 hCc hMa rfl rfl ⟨Nat.le_of_ble_eq_true rfl, Nat.le_of_ble_eq_true rfl⟩ (Nat.le_of_ble_eq_true rfl) ⟨Nat.zero_le _, Nat.zero_le _⟩ ?_
      obtain ⟨k1, k3⟩ := her (by omega)
      exact r_iret ok dL_change_154 rfl ⟨rv, rfl, Or.inl ⟨k1, _, by rw [hfn, hf]; exact Int32.add_zero _, k3⟩⟩
    · skip
      refine r_iload ok dL_change_138 0 rfl ?_
      refine r_goto ok 144 dL_change_140 (by decide) ?_
      refine r_iadd ok dL_change_144 ?_
      refine r_iastN ok (by omega) (by omega) dL_change_145 hpat (M' := zu M0 b (zI (G.2.1 0) 1 (upd f 0 ((f 0) + (nI pn))))) rfl ?_
      have h1 := zSM_paid hb h0 (upd f 0 ((f 0) + (nI pn)))
      have hfn : (upd f 0 ((f 0) + (nI pn))) 0 = f 0 + nI pn := by simp [upd]
      refine r_aload_n ok dL_change_146 3 rfl rfl ?_
      refine r_iload ok dL_change_147 2 rfl ?_
      refine r_iload ok dL_change_149 0 rfl ?_
      obtain ⟨fsa, hMa⟩ := zSM_o h1
      obtain ⟨rv, Mc, hCc, hok, her⟩ := co_pay K.2.1 N h1 (E' := Ed + 1) (by omega) h30 (m := m) (v := pn) ⟨hp1, hpn⟩ (by omega)
      refine r_cV1 ok [] mi_X5_pay ci_X5 ml_L_21 im_X5_pay se_X5_pay dL_change_151 hCc hMa rfl rfl ⟨Nat.le_of_ble_eq_true rfl, Nat.le_of_ble_eq_true rfl⟩ (Nat.le_of_ble_eq_true rfl) ⟨Nat.zero_le _, Nat.zero_le _⟩ ?_
      obtain ⟨k1, -, k3⟩ := hok (by omega)
      exact r_iret ok dL_change_154 rfl ⟨rv, rfl, Or.inr ⟨k1, _, Pd + pn, _, by rw [hfn, hf, Int32.ofInt_add]; rfl, k3⟩⟩
  have h155 : zW K G 8 (zQ K G (N + 0) 0 0 (fun r M1 => ∃ rv : Int32, r = some (.int rv) ∧ zChB G b a s kn Pd (Ed + 1) rv M1)) 0 0 M0 N 155 [(6, .int (nI g)), (5, .int (nI m)), (0, .ref a), (1, .ref b), (2, .int (nI kd)), (3, .int (x)), (4, .int (y))] [] := by
    refine r_aload_n ok dL_change_155 2 rfl rfl ?_
    refine r_iload_n ok dL_change_156 5 rfl rfl ?_
    refine r_bipush ok (nI 65) dL_change_157 (by rfl) ?_
    refine r_cS1 ok [.ref a] mi_L_low ml_L_9 sm_L_low dL_change_159 (yl_low K.2.1 G M0 N x (n := 65) (by omega) (by omega)) rfl rfl ⟨Nat.le_of_ble_eq_true rfl, Nat.le_of_ble_eq_true rfl⟩ (Nat.le_of_ble_eq_true rfl) ⟨Nat.zero_le _, Nat.zero_le _⟩ ?_
    obtain ⟨fsa, hMa⟩ := zSM_o h0
    obtain ⟨rv, Mc, hCc, hCh⟩ := co_send K.2.1 N h0 h30 (nI (zLow x 65))
    refine r_cV1 ok [] mi_X5_send ci_X5 ml_L_24 im_X5_send se_X5_send dL_change_162 hCc hMa rfl rfl ⟨Nat.le_of_ble_eq_true rfl, Nat.le_of_ble_eq_true rfl⟩ (Nat.le_of_ble_eq_true rfl) ⟨Nat.zero_le _, Nat.zero_le _⟩ ?_
    exact r_iret ok dL_change_165 rfl ⟨rv, rfl, yCh_B hCh hf⟩
  have h166 : zW K G 8 (zQ K G (N + 0) 0 0 (fun r M1 => ∃ rv : Int32, r = some (.int rv) ∧ zChB G b a s kn Pd (Ed + 1) rv M1)) 0 0 M0 N 166 [(6, .int (nI g)), (5, .int (nI m)), (0, .ref a), (1, .ref b), (2, .int (nI kd)), (3, .int (x)), (4, .int (y))] [] := by
    refine r_aload_n ok dL_change_166 2 rfl rfl ?_
    refine r_iconst ok (nI 1) dL_change_167 (by rfl) ?_
    refine r_iload_n ok dL_change_168 5 rfl rfl ?_
    refine r_bipush ok (nI 9) dL_change_169 (by rfl) ?_
    refine r_cS1 ok [.int (nI 1), .ref a] mi_L_low ml_L_9 sm_L_low dL_change_171 (yl_low K.2.1 G M0 N x (n := 9) (by omega) (by omega)) rfl rfl ⟨Nat.le_of_ble_eq_true rfl, Nat.le_of_ble_eq_true rfl⟩ (Nat.le_of_ble_eq_true rfl) ⟨Nat.zero_le _, Nat.zero_le _⟩ ?_
    refine r_iaddN ok dL_change_174 ?_
    obtain ⟨fsa, hMa⟩ := zSM_o h0
    obtain ⟨rv, Mc, hCc, hCh⟩ := co_pass K.2.1 N h0 h30 (nI (1 + (zLow x 9)))
    refine r_cV1 ok [] mi_X5_pass ci_X5 ml_L_28 im_X5_pass se_X5_pass dL_change_175 hCc hMa rfl rfl ⟨Nat.le_of_ble_eq_true rfl, Nat.le_of_ble_eq_true rfl⟩ (Nat.le_of_ble_eq_true rfl) ⟨Nat.zero_le _, Nat.zero_le _⟩ ?_
    exact r_iret ok dL_change_178 rfl ⟨rv, rfl, yCh_B hCh hf⟩
  have h179 : zW K G 8 (zQ K G (N + 0) 0 0 (fun r M1 => ∃ rv : Int32, r = some (.int rv) ∧ zChB G b a s kn Pd (Ed + 1) rv M1)) 0 0 M0 N 179 [(6, .int (nI g)), (5, .int (nI m)), (0, .ref a), (1, .ref b), (2, .int (nI kd)), (3, .int (x)), (4, .int (y))] [] := by
    refine r_aload_n ok dL_change_179 2 rfl rfl ?_
    refine r_iload ok dL_change_180 1 rfl ?_
    refine r_iload ok dL_change_182 0 rfl ?_
    obtain ⟨fsa, hMa⟩ := zSM_o h0
    obtain ⟨rv, Mc, hCc, hCh⟩ := co_snap K.2.1 N h0 h30 (nI m) (nI g)
    refine r_cV1 ok [] mi_X5_snap ci_X5 ml_L_31 im_X5_snap se_X5_snap dL_change_184 hCc hMa rfl rfl ⟨Nat.le_of_ble_eq_true rfl, Nat.le_of_ble_eq_true rfl⟩ (Nat.le_of_ble_eq_true rfl) ⟨Nat.zero_le _, Nat.zero_le _⟩ ?_
    exact r_iret ok dL_change_187 rfl ⟨rv, rfl, yCh_B hCh hf⟩
  have h188 : zW K G 8 (zQ K G (N + 0) 0 0 (fun r M1 => ∃ rv : Int32, r = some (.int rv) ∧ zChB G b a s kn Pd (Ed + 1) rv M1)) 0 0 M0 N 188 [(6, .int (nI g)), (5, .int (nI m)), (0, .ref a), (1, .ref b), (2, .int (nI kd)), (3, .int (x)), (4, .int (y))] [] := by
    refine r_aload_n ok dL_change_188 2 rfl rfl ?_
    refine r_iload ok dL_change_189 1 rfl ?_
    refine r_iload ok dL_change_191 0 rfl ?_
    refine r_iload_n ok dL_change_193 5 rfl rfl ?_
    refine r_iconst ok (nI 4) dL_change_194 (by rfl) ?_
    refine r_ishr ok dL_change_195 ?_
    refine r_iconst ok (nI 3) dL_change_196 (by rfl) ?_
    refine r_cS1 ok [.int (nI g), .int (nI m), .ref a] mi_L_low ml_L_9 sm_L_low dL_change_197 (yl_low K.2.1 G M0 N (x >>> (nI 4 &&& 31)) (n := 3) (by omega) (by omega)) rfl rfl ⟨Nat.le_of_ble_eq_true rfl, Nat.le_of_ble_eq_true rfl⟩ (Nat.le_of_ble_eq_true rfl) ⟨Nat.zero_le _, Nat.zero_le _⟩ ?_
    have hl3 := zLow_lt (x >>> (nI 4 &&& 31)) (n := 3) (by omega)
    refine r_if_neN ok 208 (by omega) dL_change_200 (by decide) (fun cn => ?_) (fun cz => ?_)
    · skip
      refine r_iload ok dL_change_208 6 rfl ?_
      refine r_iconst ok (nI 4) dL_change_210 (by rfl) ?_
      refine r_ishr ok dL_change_211 ?_
      refine r_bipush ok (nI 8) dL_change_212 (by rfl) ?_
      refine r_cS1 ok [.int (nI g), .int (nI m), .ref a] mi_L_low ml_L_9 sm_L_low dL_change_214 (yl_low K.2.1 G M0 N (y >>> (nI 4 &&& 31)) (n := 8) (by omega) (by omega)) rfl rfl ⟨Nat.le_of_ble_eq_true rfl, Nat.le_of_ble_eq_true rfl⟩ (Nat.le_of_ble_eq_true rfl) ⟨Nat.zero_le _, Nat.zero_le _⟩ ?_
      obtain ⟨fsa, hMa⟩ := zSM_o h0
      obtain ⟨rv, Mc, hCc, hCh⟩ := co_fit K.2.1 N h0 h30 (nI m) (nI g) (nI (zLow (y >>> (nI 4 &&& 31)) 8))
      refine r_cV1 ok [] mi_X5_fit ci_X5 ml_L_34 im_X5_fit se_X5_fit dL_change_217 hCc hMa rfl rfl ⟨Nat.le_of_ble_eq_true rfl, Nat.le_of_ble_eq_true rfl⟩ (Nat.le_of_ble_eq_true rfl) ⟨Nat.zero_le _, Nat.zero_le _⟩ ?_
      exact r_iret ok dL_change_220 rfl ⟨rv, rfl, yCh_B hCh hf⟩
    · skip
      refine r_iload ok dL_change_203 0 rfl ?_
      refine r_goto ok 217 dL_change_205 (by decide) ?_
      obtain ⟨fsa, hMa⟩ := zSM_o h0
      obtain ⟨rv, Mc, hCc, hCh⟩ := co_fit K.2.1 N h0 h30 (nI m) (nI g) (nI g)
      refine r_cV1 ok [] mi_X5_fit ci_X5 ml_L_34 im_X5_fit se_X5_fit dL_change_217 hCc hMa rfl rfl ⟨Nat.le_of_ble_eq_true rfl, Nat.le_of_ble_eq_true rfl⟩ (Nat.le_of_ble_eq_true rfl) ⟨Nat.zero_le _, Nat.zero_le _⟩ ?_
      exact r_iret ok dL_change_220 rfl ⟨rv, rfl, yCh_B hCh hf⟩
  have h221 : zW K G 8 (zQ K G (N + 0) 0 0 (fun r M1 => ∃ rv : Int32, r = some (.int rv) ∧ zChB G b a s kn Pd (Ed + 1) rv M1)) 0 0 M0 N 221 [(6, .int (nI g)), (5, .int (nI m)), (0, .ref a), (1, .ref b), (2, .int (nI kd)), (3, .int (x)), (4, .int (y))] [] := by
    refine r_aload_n ok dL_change_221 2 rfl rfl ?_
    refine r_iload ok dL_change_222 1 rfl ?_
    refine r_iload_n ok dL_change_224 5 rfl rfl ?_
    refine r_iconst ok (nI 4) dL_change_225 (by rfl) ?_
    refine r_ishr ok dL_change_226 ?_
    refine r_bipush ok (nI 6) dL_change_227 (by rfl) ?_
    refine r_cS1 ok [.int (nI m), .ref a] mi_L_low ml_L_9 sm_L_low dL_change_229 (yl_low K.2.1 G M0 N (x >>> (nI 4 &&& 31)) (n := 6) (by omega) (by omega)) rfl rfl ⟨Nat.le_of_ble_eq_true rfl, Nat.le_of_ble_eq_true rfl⟩ (Nat.le_of_ble_eq_true rfl) ⟨Nat.zero_le _, Nat.zero_le _⟩ ?_
    refine r_iload ok dL_change_232 0 rfl ?_
    refine r_iload ok dL_change_234 6 rfl ?_
    refine r_iconst ok (nI 4) dL_change_236 (by rfl) ?_
    refine r_ishr ok dL_change_237 ?_
    refine r_bipush ok (nI 22) dL_change_238 (by rfl) ?_
    refine r_cS1 ok [.int (nI g), .int (nI (zLow (x >>> (nI 4 &&& 31)) 6)), .int (nI m), .ref a] mi_L_low ml_L_9 sm_L_low dL_change_240 (yl_low K.2.1 G M0 N (y >>> (nI 4 &&& 31)) (n := 22) (by omega) (by omega)) rfl rfl ⟨Nat.le_of_ble_eq_true rfl, Nat.le_of_ble_eq_true rfl⟩ (Nat.le_of_ble_eq_true rfl) ⟨Nat.zero_le _, Nat.zero_le _⟩ ?_
    obtain ⟨fsa, hMa⟩ := zSM_o h0
    obtain ⟨rv, Mc, hCc, hCh⟩ := co_give K.2.1 N h0 h30 (nI m) (nI (zLow (x >>> (nI 4 &&& 31)) 6)) (nI g) (nI (zLow (y >>> (nI 4 &&& 31)) 22))
    refine r_cV1 ok [] mi_X5_give ci_X5 ml_L_37 im_X5_give se_X5_give dL_change_243 hCc hMa rfl rfl ⟨Nat.le_of_ble_eq_true rfl, Nat.le_of_ble_eq_true rfl⟩ (Nat.le_of_ble_eq_true rfl) ⟨Nat.zero_le _, Nat.zero_le _⟩ ?_
    exact r_iret ok dL_change_246 rfl ⟨rv, rfl, yCh_B hCh hf⟩
  have h247 : zW K G 8 (zQ K G (N + 0) 0 0 (fun r M1 => ∃ rv : Int32, r = some (.int rv) ∧ zChB G b a s kn Pd (Ed + 1) rv M1)) 0 0 M0 N 247 [(6, .int (nI g)), (5, .int (nI m)), (0, .ref a), (1, .ref b), (2, .int (nI kd)), (3, .int (x)), (4, .int (y))] [] := by
    refine r_aload_n ok dL_change_247 2 rfl rfl ?_
    refine r_iload_n ok dL_change_248 5 rfl rfl ?_
    refine r_bipush ok (nI 10) dL_change_249 (by rfl) ?_
    refine r_cS1 ok [.ref a] mi_L_low ml_L_9 sm_L_low dL_change_251 (yl_low K.2.1 G M0 N x (n := 10) (by omega) (by omega)) rfl rfl ⟨Nat.le_of_ble_eq_true rfl, Nat.le_of_ble_eq_true rfl⟩ (Nat.le_of_ble_eq_true rfl) ⟨Nat.zero_le _, Nat.zero_le _⟩ ?_
    refine r_iload ok dL_change_254 6 rfl ?_
    refine r_bipush ok (nI 60) dL_change_256 (by rfl) ?_
    refine r_cS1 ok [.int (nI (zLow x 10)), .ref a] mi_L_low ml_L_9 sm_L_low dL_change_258 (yl_low K.2.1 G M0 N y (n := 60) (by omega) (by omega)) rfl rfl ⟨Nat.le_of_ble_eq_true rfl, Nat.le_of_ble_eq_true rfl⟩ (Nat.le_of_ble_eq_true rfl) ⟨Nat.zero_le _, Nat.zero_le _⟩ ?_
    obtain ⟨fsa, hMa⟩ := zSM_o h0
    obtain ⟨rv, Mc, hCc, hCh⟩ := co_set K.2.1 N h0 h30 (nI (zLow x 10)) (nI (zLow y 60))
    refine r_cV1 ok [] mi_X5_set ci_X5 ml_L_41 im_X5_set se_X5_set dL_change_261 hCc hMa rfl rfl ⟨Nat.le_of_ble_eq_true rfl, Nat.le_of_ble_eq_true rfl⟩ (Nat.le_of_ble_eq_true rfl) ⟨Nat.zero_le _, Nat.zero_le _⟩ ?_
    exact r_iret ok dL_change_264 rfl ⟨rv, rfl, yCh_B hCh hf⟩
  have h265 : zW K G 8 (zQ K G (N + 0) 0 0 (fun r M1 => ∃ rv : Int32, r = some (.int rv) ∧ zChB G b a s kn Pd (Ed + 1) rv M1)) 0 0 M0 N 265 [(6, .int (nI g)), (5, .int (nI m)), (0, .ref a), (1, .ref b), (2, .int (nI kd)), (3, .int (x)), (4, .int (y))] [] := by
    refine r_aload_n ok dL_change_265 2 rfl rfl ?_
    refine r_iload ok dL_change_266 6 rfl ?_
    obtain ⟨fsa, hMa⟩ := zSM_o h0
    obtain ⟨rv, Mc, hCc, hCh⟩ := co_shuffle K.2.1 N h0 h30 y
    refine r_cV1 ok [] mi_X5_shuffle ci_X5 ml_L_44 im_X5_shuffle se_X5_shuffle dL_change_268 hCc hMa rfl rfl ⟨Nat.le_of_ble_eq_true rfl, Nat.le_of_ble_eq_true rfl⟩ (Nat.le_of_ble_eq_true rfl) ⟨Nat.zero_le _, Nat.zero_le _⟩ ?_
    exact r_iret ok dL_change_271 rfl ⟨rv, rfl, yCh_B hCh hf⟩
  have hcase : kd = 0 ∨ kd = 1 ∨ kd = 2 ∨ kd = 3 ∨ kd = 4 ∨ kd = 5 ∨ kd = 6 ∨ kd = 7 ∨ kd = 8 ∨ kd = 9 ∨ kd = 10 ∨ kd = 11 ∨ kd = 12 ∨ kd = 13 ∨ kd = 14 ∨ kd = 15 := by omega
  rcases hcase with rfl | rfl | rfl | rfl | rfl | rfl | rfl | rfl | rfl | rfl | rfl | rfl | rfl | rfl | rfl | rfl
  · exact r_table ok dL_change_18 (t := 92) (by decide +kernel) (by decide +kernel) h92
  · exact r_table ok dL_change_18 (t := 92) (by decide +kernel) (by decide +kernel) h92
  · exact r_table ok dL_change_18 (t := 92) (by decide +kernel) (by decide +kernel) h92
  · exact r_table ok dL_change_18 (t := 92) (by decide +kernel) (by decide +kernel) h92
  · exact r_table ok dL_change_18 (t := 115) (by decide +kernel) (by decide +kernel) h115
  · exact r_table ok dL_change_18 (t := 155) (by decide +kernel) (by decide +kernel) h155
  · exact r_table ok dL_change_18 (t := 155) (by decide +kernel) (by decide +kernel) h155
  · exact r_table ok dL_change_18 (t := 166) (by decide +kernel) (by decide +kernel) h166
  · exact r_table ok dL_change_18 (t := 166) (by decide +kernel) (by decide +kernel) h166
  · exact r_table ok dL_change_18 (t := 166) (by decide +kernel) (by decide +kernel) h166
  · exact r_table ok dL_change_18 (t := 179) (by decide +kernel) (by decide +kernel) h179
  · exact r_table ok dL_change_18 (t := 188) (by decide +kernel) (by decide +kernel) h188
  · exact r_table ok dL_change_18 (t := 221) (by decide +kernel) (by decide +kernel) h221
  · exact r_table ok dL_change_18 (t := 247) (by decide +kernel) (by decide +kernel) h247
  · exact r_table ok dL_change_18 (t := 247) (by decide +kernel) (by decide +kernel) h247
  · exact r_table ok dL_change_18 (t := 265) (by decide +kernel) (by decide +kernel) h265
