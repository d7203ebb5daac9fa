/-! the law itself -/
theorem zSM_kk {G : zG} {b a : Nat} {s : Nat → Int32} {kn : Nat} {P E : Int} {M' : zM} (h : zSB G b a s kn P E M') : kn ≤ 6 := by
  obtain ⟨f, -, h1⟩ := h
  exact zSM_k h1
theorem zSB_0 {G : zG} {a b : Nat} (hb : b < a ∨ a + 672 ≤ b) : zSB G b a zRow0 0 0 0 (zu (hoM G (fun _ => none) a zC0b zC0b (fun _ => zC0b) (fun _ => zC0b) (nI 0) (fun i => i) (fun _ => false) (fun _ => 0) (nI 0) zD0) b (zI (G.2.1 0) 1 (fun _ => 0))) := by
  refine ⟨fun _ => 0, rfl, zC0b, fun _ => zC0b, fun _ => zC0b, fun i => i, fun _ => false, fun _ => 0, nI 0, fun _ => 0, zOc_0, ⟨by omega, fun i hi => hi, fun i j hi hj h => h, fun j hj => zOc_0.1, fun i hi => absurd hi (Nat.not_lt_zero i)⟩, av_0, zC0b, zD0, zOc_0.1, ?_⟩
  exact ho_zu hb
section LW
variable {K : zK} {G : zG} {nm : String} {Q : State → Prop} {cells slots N a b t L : Nat} {xs : Nat → Int32}
set_option maxHeartbeats 4000000 in
set_option maxRecDepth 100000 in
theorem lg_loop (ok : zOk K G ⟨RL, nm, ""⟩ cL_law 11 room_1 ret) (hcl : cells ≤ 617210) (hsl : slots ≤ 7250618) (hX : va_X t L xs K.2.2.2.2.1 G.2.2) (hbl : t < G.2.2.size) (hL : L ≤ 260) (hb : b < a ∨ a + 672 ≤ b) {T : Nat} (hT : T ≤ 30) (hend : ∀ (lv : List (Nat × Value)) (M2 : zM), zW K G 11 Q cells slots M2 N 317 lv [.int 1]) : ∀ (r e : Nat) (s : Nat → Int32) (kn : Nat) (P : Int) (M' : zM), e ≤ T → r = T - e → zSB G b a s kn P e M' → zW K G 11 Q cells slots M' N 117 [(5, .int (nI e)), (4, .int (nI T)), (3, .int (nI 1)), (2, .ref b), (1, .ref a), (0, .ref t)] [] := by
  intro r
  induction r with
  | zero =>
    intro e s kn P M' heT hr hB
    obtain rfl : e = T := by omega
    refine r_iload ok dL_law_117 0 rfl ?_
    refine r_iload ok dL_law_119 1 rfl ?_
    refine r_icmp_geN ok 316 (by omega) (by omega) dL_law_121 (by decide) (fun _ => ?_) (fun c => absurd c (by omega))
    refine r_iload_n ok dL_law_316 2 rfl rfl ?_
    exact zW.to (st' := [.int 1]) (hend _ _) rfl rfl rfl
  | succ r ih =>
    intro e s kn P M' heT hr hB
    have he : e < T := by omega
    have hk6 := zSM_kk hB
    have j253 : ∀ (M5 : zM) (s5 : Nat → Int32) (k5 : Nat) (P5 : Int), zSB G b a s5 k5 P5 ((e : Int) + 1) M5 → zW K G 11 Q cells slots M5 N 253 [(5, .int (nI e)), (4, .int (nI T)), (2, .ref b), (1, .ref a), (0, .ref t)] [] := by
      intro M5 s5 k5 P5 h5
      obtain ⟨f, hf, h5s⟩ := h5
      refine r_iconst ok (nI 1) dL_law_253 (by rfl) ?_
      refine r_goto ok 258 dL_law_254 (by decide) ?_
      refine r_istore_n ok [(3, .int (nI 1)), (5, .int (nI e)), (4, .int (nI T)), (2, .ref b), (1, .ref a), (0, .ref t)] dL_law_258 rfl (by decide) rfl ?_
      refine r_iload_n ok dL_law_259 0 rfl rfl ?_
      refine r_if_eqN ok 308 (by omega) dL_law_260 (by decide) (fun c => absurd c (by omega)) (fun _ => ?_)
      refine r_aload_n ok dL_law_263 4 rfl rfl ?_
      refine r_aload_n ok dL_law_264 3 rfl rfl ?_
      refine r_aload_n ok dL_law_265 5 rfl rfl ?_
      refine r_iconst ok (nI 3) dL_law_266 (by rfl) ?_
      refine r_iload ok dL_law_267 1 rfl ?_
      refine r_imulN ok dL_law_269 ?_
      refine r_callSx ok (Ex := fun U => va_X t L xs U G.2.2) [.ref b, .ref a] hX zXw mi_L_cell ml_L_106 sm_L_cell dL_law_270 (yl_cell K.2.1 G M5 N (k := 3 * e) hbl (by omega) (by omega)) rfl rfl ⟨Nat.le_of_ble_eq_true rfl, Nat.le_of_ble_eq_true rfl⟩ (Nat.le_of_ble_eq_true rfl) ⟨hcl, hsl⟩ ?_
      obtain ⟨c, hc, sc, hi, sv, sg, pl, sH, hO, hH, hA, hD1⟩ := h5s
      refine r_cSq ok [] mi_L_holds ml_L_102 sm_L_holds dL_law_273 (yl_holds K.2.1 hO hA hb zPb_at hf hD1) rfl rfl ⟨Nat.le_of_ble_eq_true rfl, Nat.le_of_ble_eq_true rfl⟩ (Nat.le_of_ble_eq_true rfl) ⟨hcl, hsl⟩ (fun M2 hD3 => ?_)
      refine r_if_eq ok 308 dL_law_276 (by decide) (fun c => absurd c (by decide)) (fun _ => ?_)
      have hSa : zSM G (zPb G b f) a s5 k5 P5 ((e : Int) + 1) M2 := ⟨c, hc, sc, hi, sv, sg, pl, sH, hO, hH, hA, hD3⟩
      refine r_iload ok dL_law_279 1 rfl ?_
      refine r_iconst ok (nI 4) dL_law_281 (by rfl) ?_
      refine r_iremN ok (by omega) (by omega) (by omega) dL_law_282 ?_
      refine r_iconst ok (nI 3) dL_law_283 (by rfl) ?_
      refine r_icmp_neN ok 304 (by omega) (by omega) dL_law_284 (by decide) (fun _ => ?_) (fun _ => ?_)
      · skip
        refine r_iconst ok (nI 1) dL_law_304 (by rfl) ?_
        refine r_goto ok 309 dL_law_305 (by decide) ?_
        refine r_istore_n ok [(3, .int (nI 1)), (5, .int (nI e)), (4, .int (nI T)), (2, .ref b), (1, .ref a), (0, .ref t)] dL_law_309 rfl (by decide) rfl ?_
        refine r_iincN ok (c := 1) [(5, .int (nI (e + 1))), (3, .int (nI 1)), (4, .int (nI T)), (2, .ref b), (1, .ref a), (0, .ref t)] dL_law_310 1 rfl (by rfl) (by decide) rfl ?_
        refine r_goto ok 117 dL_law_313 (by decide) ?_
        refine zW.forget ?_ [0, 2, 1, 3, 4, 5] rfl
        exact ih (e + 1) s5 k5 P5 _ (by omega) (by omega) (by rw [show ((e + 1 : Nat) : Int) = (e : Int) + 1 by omega]; exact ⟨f, hf, hSa⟩)
      · skip
        refine r_aload_n ok dL_law_287 4 rfl rfl ?_
        refine r_aload_n ok dL_law_288 5 rfl rfl ?_
        refine r_iconst ok (nI 3) dL_law_289 (by rfl) ?_
        refine r_iload ok dL_law_290 1 rfl ?_
        refine r_imulN ok dL_law_292 ?_
        refine r_iconst ok (nI 2) dL_law_293 (by rfl) ?_
        refine r_iaddN ok dL_law_294 ?_
        refine r_callSx ok (Ex := fun U => va_X t L xs U G.2.2) [.ref a] hX zXw mi_L_cell ml_L_106 sm_L_cell dL_law_295 (yl_cell K.2.1 G M2 N (k := (3 * e) + 2) hbl (by omega) (by omega)) rfl rfl ⟨Nat.le_of_ble_eq_true rfl, Nat.le_of_ble_eq_true rfl⟩ (Nat.le_of_ble_eq_true rfl) ⟨hcl, hsl⟩ ?_
        refine r_cSq ok [] mi_L_tries ml_L_115 sm_L_tries dL_law_298 (yl_tries K.2.1 hSa) rfl rfl ⟨Nat.le_of_ble_eq_true rfl, Nat.le_of_ble_eq_true rfl⟩ (Nat.le_of_ble_eq_true rfl) ⟨hcl, hsl⟩ (fun M4 hD5 => ?_)
        obtain ⟨k6, hSb⟩ := hD5
        refine r_if_eq ok 308 dL_law_301 (by decide) (fun c => absurd c (by decide)) (fun _ => ?_)
        refine r_iconst ok (nI 1) dL_law_304 (by rfl) ?_
        refine r_goto ok 309 dL_law_305 (by decide) ?_
        refine r_istore_n ok [(3, .int (nI 1)), (5, .int (nI e)), (4, .int (nI T)), (2, .ref b), (1, .ref a), (0, .ref t)] dL_law_309 rfl (by decide) rfl ?_
        refine r_iincN ok (c := 1) [(5, .int (nI (e + 1))), (3, .int (nI 1)), (4, .int (nI T)), (2, .ref b), (1, .ref a), (0, .ref t)] dL_law_310 1 rfl (by rfl) (by decide) rfl ?_
        refine r_goto ok 117 dL_law_313 (by decide) ?_
        refine zW.forget ?_ [0, 2, 1, 3, 4, 5] rfl
        exact ih (e + 1) s5 k6 P5 _ (by omega) (by omega) (by rw [show ((e + 1 : Nat) : Int) = (e : Int) + 1 by omega]; exact ⟨f, hf, hSb⟩)
    refine r_iload ok dL_law_117 0 rfl ?_
    refine r_iload ok dL_law_119 1 rfl ?_
    refine r_icmp_geN ok 316 (by omega) (by omega) dL_law_121 (by decide) (fun c => absurd c (by omega)) (fun _ => ?_)
    refine r_iload_n ok dL_law_124 2 rfl rfl ?_
    refine r_if_eqN ok 316 (by omega) dL_law_125 (by decide) (fun c => absurd c (by omega)) (fun _ => ?_)
    refine r_aload_n ok dL_law_128 5 rfl rfl ?_
    refine r_iconst ok (nI 3) dL_law_129 (by rfl) ?_
    refine r_iload ok dL_law_130 0 rfl ?_
    refine r_imulN ok dL_law_132 ?_
    refine r_callSx ok (Ex := fun U => va_X t L xs U G.2.2) [] hX zXw mi_L_cell ml_L_106 sm_L_cell dL_law_133 (yl_cell K.2.1 G M' N (k := 3 * e) hbl (by omega) (by omega)) rfl rfl ⟨Nat.le_of_ble_eq_true rfl, Nat.le_of_ble_eq_true rfl⟩ (Nat.le_of_ble_eq_true rfl) ⟨hcl, hsl⟩ ?_
    refine r_bipush ok (nI 16) dL_law_136 (by rfl) ?_
    refine r_cS1 ok [] mi_L_low ml_L_9 sm_L_low dL_law_138 (yl_low K.2.1 G M' N (zCell xs L (3 * e)) (n := 16) (by omega) (by omega)) rfl rfl ⟨Nat.le_of_ble_eq_true rfl, Nat.le_of_ble_eq_true rfl⟩ (Nat.le_of_ble_eq_true rfl) ⟨hcl, hsl⟩ ?_
    obtain ⟨kd, ekd⟩ : ∃ kd, kd = zLow (zCell xs L (3 * e)) 16 := ⟨_, rfl⟩
    have hkd : kd < 16 := by rw [ekd]; exact zLow_lt _ (by omega)
    rw [← ekd]
    obtain ⟨f, hf, hSM⟩ := hB
    obtain ⟨c, hc, sc, hi, sv, sg, pl, sH, hO, hH, hA, hD6⟩ := hSM
    refine r_istore ok [(6, .int (nI kd)), (5, .int (nI e)), (4, .int (nI T)), (3, .int (nI 1)), (2, .ref b), (1, .ref a), (0, .ref t)] dL_law_141 (by decide) rfl ?_
    refine r_aload_n ok dL_law_143 5 rfl rfl ?_
    refine r_bipush ok (nI 18) dL_law_144 (by rfl) ?_
    obtain ⟨fs10, hM11⟩ := zDm_o hD6
    obtain ⟨M7, hC8, hD9⟩ := q_count (r := nI kn) K.2.1 N hO hD6 18 (by omega) rfl
    refine r_cV1 ok [] mi_X5_count ci_X5 ml_L_53 im_X5_count se_X5_count dL_law_146 hC8 hM11 rfl rfl ⟨Nat.le_of_ble_eq_true rfl, Nat.le_of_ble_eq_true rfl⟩ (Nat.le_of_ble_eq_true rfl) ⟨hcl, hsl⟩ ?_
    refine r_istore ok [(7, .int (nI kn)), (6, .int (nI kd)), (5, .int (nI e)), (4, .int (nI T)), (3, .int (nI 1)), (2, .ref b), (1, .ref a), (0, .ref t)] dL_law_149 (by decide) rfl ?_
    refine r_aload_n ok dL_law_151 6 rfl rfl ?_
    refine r_bipush ok (nI 10) dL_law_152 (by rfl) ?_
    obtain ⟨fs15, hM16⟩ := zDm_o hD9
    obtain ⟨M12, hC13, hD14⟩ := q_count K.2.1 N hO hD9 10 (by omega) (r := zChest s) (by show lsum c.ac 6 = zChest s; exact zChest_eq hO.2.1)
    refine r_cV1 ok [] mi_X5_count ci_X5 ml_L_53 im_X5_count se_X5_count dL_law_154 hC13 hM16 rfl rfl ⟨Nat.le_of_ble_eq_true rfl, Nat.le_of_ble_eq_true rfl⟩ (Nat.le_of_ble_eq_true rfl) ⟨hcl, hsl⟩ ?_
    refine r_istore ok [(8, .int (zChest s)), (7, .int (nI kn)), (6, .int (nI kd)), (5, .int (nI e)), (4, .int (nI T)), (3, .int (nI 1)), (2, .ref b), (1, .ref a), (0, .ref t)] dL_law_157 (by decide) rfl ?_
    refine r_aload_n ok dL_law_159 7 rfl rfl ?_
    refine r_aload_n ok dL_law_160 6 rfl rfl ?_
    refine r_iload ok dL_law_161 2 rfl ?_
    refine r_aload_n ok dL_law_163 8 rfl rfl ?_
    refine r_iconst ok (nI 3) dL_law_164 (by rfl) ?_
    refine r_iload ok dL_law_165 3 rfl ?_
    refine r_imulN ok dL_law_167 ?_
    refine r_iconst ok (nI 1) dL_law_168 (by rfl) ?_
    refine r_iaddN ok dL_law_169 ?_
    refine r_callSx ok (Ex := fun U => va_X t L xs U G.2.2) [.int (nI kd), .ref b, .ref a] hX zXw mi_L_cell ml_L_106 sm_L_cell dL_law_170 (yl_cell K.2.1 G M12 N (k := (3 * e) + 1) hbl (by omega) (by omega)) rfl rfl ⟨Nat.le_of_ble_eq_true rfl, Nat.le_of_ble_eq_true rfl⟩ (Nat.le_of_ble_eq_true rfl) ⟨hcl, hsl⟩ ?_
    refine r_aload_n ok dL_law_173 8 rfl rfl ?_
    refine r_iconst ok (nI 3) dL_law_174 (by rfl) ?_
    refine r_iload ok dL_law_175 3 rfl ?_
    refine r_imulN ok dL_law_177 ?_
    refine r_iconst ok (nI 2) dL_law_178 (by rfl) ?_
    refine r_iaddN ok dL_law_179 ?_
    refine r_callSx ok (Ex := fun U => va_X t L xs U G.2.2) [.int (zCell xs L ((3 * e) + 1)), .int (nI kd), .ref b, .ref a] hX zXw mi_L_cell ml_L_106 sm_L_cell dL_law_180 (yl_cell K.2.1 G M12 N (k := (3 * e) + 2) hbl (by omega) (by omega)) rfl rfl ⟨Nat.le_of_ble_eq_true rfl, Nat.le_of_ble_eq_true rfl⟩ (Nat.le_of_ble_eq_true rfl) ⟨hcl, hsl⟩ ?_
    have hSB : zSB G b a s kn P e M12 := ⟨f, hf, ⟨c, hc, sc, hi, sv, sg, pl, sH, hO, hH, hA, hD14⟩⟩
    clear hO hH hA
    refine r_callS ok (rest := []) mi_L_change ml_L_110 sm_L_change dL_law_183 (yl_change K.2.1 hb hkd hSB (by omega)) rfl rfl ⟨Nat.le_of_ble_eq_true rfl, Nat.le_of_ble_eq_true rfl⟩ (Nat.le_of_ble_eq_true rfl) ⟨hcl, hsl⟩ (fun r1 Mc hPc => ?_)
    obtain ⟨rv, rfl, hch⟩ := hPc
    show zW K G 11 Q cells slots Mc N 186 [(8, .int (zChest s)), (7, .int (nI kn)), (6, .int (nI kd)), (5, .int (nI e)), (4, .int (nI T)), (3, .int (nI 1)), (2, .ref b), (1, .ref a), (0, .ref t)] [.int (rv)]
    refine r_istore ok [(9, .int (rv)), (8, .int (zChest s)), (7, .int (nI kn)), (6, .int (nI kd)), (5, .int (nI e)), (4, .int (nI T)), (3, .int (nI 1)), (2, .ref b), (1, .ref a), (0, .ref t)] dL_law_186 (by decide) rfl ?_
    refine r_iload ok dL_law_188 0 rfl ?_
    refine r_ldc ok ck_L_114 dL_law_190 ?_
    refine r_icmp_ge ok 199 dL_law_192 (by decide) (fun cg => ?_) (fun cl => ?_)
    · have hne : ¬ rv < -100000 := Int32.not_lt.mpr cg
      rcases hch with ⟨h1, -⟩ | ⟨-, s5, P5, hS5⟩
      · exact absurd h1 hne
      obtain ⟨f5, hf5, hS6⟩ := hS5
      refine r_iconst ok (nI 0) dL_law_199 (by rfl) ?_
      refine r_istore ok [(10, .int (nI 0)), (9, .int (rv)), (8, .int (zChest s)), (7, .int (nI kn)), (6, .int (nI kd)), (5, .int (nI e)), (4, .int (nI T)), (3, .int (nI 1)), (2, .ref b), (1, .ref a), (0, .ref t)] dL_law_200 (by decide) rfl ?_
      obtain ⟨c, hc, sc, hi, sv, sg, pl, sH, hO, hH, hA, hD17⟩ := hS6
      refine r_aload_n ok dL_law_202 9 rfl rfl ?_
      refine r_bipush ok (nI 18) dL_law_203 (by rfl) ?_
      obtain ⟨fs21, hM22⟩ := zDm_o hD17
      obtain ⟨M18, hC19, hD20⟩ := q_count (r := nI (zRecK kn)) K.2.1 N hO hD17 18 (by omega) rfl
      refine r_cV1 ok [] mi_X5_count ci_X5 ml_L_53 im_X5_count se_X5_count dL_law_205 hC19 hM22 rfl rfl ⟨Nat.le_of_ble_eq_true rfl, Nat.le_of_ble_eq_true rfl⟩ (Nat.le_of_ble_eq_true rfl) ⟨hcl, hsl⟩ ?_
      refine r_iload ok dL_law_208 0 rfl ?_
      have hrk := zRecK_le hk6
      refine r_if_eqN ok 218 (by omega) dL_law_210 (by decide) (fun _ => ?_) (fun c => absurd c (by omega))
      refine r_iload ok dL_law_218 3 rfl ?_
      refine r_bipush ok (nI 6) dL_law_220 (by rfl) ?_
      refine r_icmp_neN ok 230 (by omega) (by omega) dL_law_222 (by decide) (fun cne => ?_) (fun ceq => ?_)
      · have e6 : zRecK kn = kn + 1 := if_neg cne
        refine r_iload ok dL_law_230 3 rfl ?_
        refine r_iconst ok (nI 1) dL_law_232 (by rfl) ?_
        refine r_iaddN ok dL_law_233 ?_
        refine r_icmp_neN ok 257 (by omega) (by omega) dL_law_234 (by decide) (fun c => absurd c (by omega)) (fun _ => ?_)
        refine r_iload ok dL_law_237 0 rfl ?_
        refine r_if_eqN ok 253 (by omega) dL_law_239 (by decide) (fun _ => ?_) (fun c => absurd c (by omega))
        refine zW.forget ?_ [5, 6, 8, 9, 10] rfl
        exact j253 _ s5 _ P5 ⟨f5, hf5, ⟨c, hc, sc, hi, sv, sg, pl, sH, hO, hH, hA, hD20⟩⟩
      · have e6 : zRecK kn = 6 := if_pos ceq
        refine r_bipush ok (nI 6) dL_law_225 (by rfl) ?_
        refine r_goto ok 234 dL_law_227 (by decide) ?_
        refine r_icmp_neN ok 257 (by omega) (by omega) dL_law_234 (by decide) (fun c => absurd c (by omega)) (fun _ => ?_)
        refine r_iload ok dL_law_237 0 rfl ?_
        refine r_if_eqN ok 253 (by omega) dL_law_239 (by decide) (fun _ => ?_) (fun c => absurd c (by omega))
        refine zW.forget ?_ [5, 6, 8, 9, 10] rfl
        exact j253 _ s5 _ P5 ⟨f5, hf5, ⟨c, hc, sc, hi, sv, sg, pl, sH, hO, hH, hA, hD20⟩⟩
    · have hlt : rv < -100000 := Int32.not_le.mp cl
      rcases hch with ⟨-, hS5⟩ | ⟨h1, -⟩
      · skip
        obtain ⟨f5, hf5, hS6⟩ := hS5
        refine r_iconst ok (nI 1) dL_law_195 (by rfl) ?_
        refine r_goto ok 200 dL_law_196 (by decide) ?_
        refine r_istore ok [(10, .int (nI 1)), (9, .int (rv)), (8, .int (zChest s)), (7, .int (nI kn)), (6, .int (nI kd)), (5, .int (nI e)), (4, .int (nI T)), (3, .int (nI 1)), (2, .ref b), (1, .ref a), (0, .ref t)] dL_law_200 (by decide) rfl ?_
        obtain ⟨c, hc, sc, hi, sv, sg, pl, sH, hO, hH, hA, hD23⟩ := hS6
        refine r_aload_n ok dL_law_202 9 rfl rfl ?_
        refine r_bipush ok (nI 18) dL_law_203 (by rfl) ?_
        obtain ⟨fs27, hM28⟩ := zDm_o hD23
        obtain ⟨M24, hC25, hD26⟩ := q_count (r := nI kn) K.2.1 N hO hD23 18 (by omega) rfl
        refine r_cV1 ok [] mi_X5_count ci_X5 ml_L_53 im_X5_count se_X5_count dL_law_205 hC25 hM28 rfl rfl ⟨Nat.le_of_ble_eq_true rfl, Nat.le_of_ble_eq_true rfl⟩ (Nat.le_of_ble_eq_true rfl) ⟨hcl, hsl⟩ ?_
        refine r_iload ok dL_law_208 0 rfl ?_
        refine r_if_eqN ok 218 (by omega) dL_law_210 (by decide) (fun c => absurd c (by omega)) (fun _ => ?_)
        refine r_iload ok dL_law_213 3 rfl ?_
        refine r_goto ok 234 dL_law_215 (by decide) ?_
        refine r_icmp_neN ok 257 (by omega) (by omega) dL_law_234 (by decide) (fun c => absurd c (by omega)) (fun _ => ?_)
        refine r_iload ok dL_law_237 0 rfl ?_
        refine r_if_eqN ok 253 (by omega) dL_law_239 (by decide) (fun c => absurd c (by omega)) (fun _ => ?_)
        refine r_aload_n ok dL_law_242 9 rfl rfl ?_
        refine r_bipush ok (nI 10) dL_law_243 (by rfl) ?_
        obtain ⟨fs32, hM33⟩ := zDm_o hD26
        obtain ⟨M29, hC30, hD31⟩ := q_count K.2.1 N hO hD26 10 (by omega) (r := zChest s) (by show lsum c.ac 6 = zChest s; exact zChest_eq hO.2.1)
        refine r_cV1 ok [] mi_X5_count ci_X5 ml_L_53 im_X5_count se_X5_count dL_law_245 hC30 hM33 rfl rfl ⟨Nat.le_of_ble_eq_true rfl, Nat.le_of_ble_eq_true rfl⟩ (Nat.le_of_ble_eq_true rfl) ⟨hcl, hsl⟩ ?_
        refine r_iload ok dL_law_248 2 rfl ?_
        refine r_icmp_ne ok 257 dL_law_250 (by decide) (fun c => (c rfl).elim) (fun _ => ?_)
        refine zW.forget ?_ [5, 6, 8, 9, 10] rfl
        exact j253 _ s _ P ⟨f5, hf5, ⟨c, hc, sc, hi, sv, sg, pl, sH, hO, hH, hA, hD31⟩⟩
      · exact absurd hlt h1
set_option maxHeartbeats 4000000 in
set_option maxRecDepth 100000 in
theorem lg_pay (ok : zOk K G ⟨RL, nm, ""⟩ cL_law 11 room_1 ret) (hcl : cells ≤ 617210) (hsl : slots ≤ 7250618) (hX : va_X t L xs K.2.2.2.2.1 G.2.2) (hbl : t < G.2.2.size) (hL : L ≤ 260) (hb : b < a ∨ a + 672 ≤ b) (hend : ∀ (lv : List (Nat × Value)) (M2 : zM), zW K G 11 Q cells slots M2 N 317 lv [.int 1]) : ∀ (r m : Nat) (s : Nat → Int32) (kn : Nat) (P : Int) (M' : zM), m ≤ 6 → r = 6 - m → (∀ j, m ≤ j → j < 6 → s (15 + 22 * j + 0) = 0) → P = 900 * m → zSB G b a s kn P 0 M' → zW K G 11 Q cells slots M' N 47 [(4, .int (nI m)), (3, .int (nI 1)), (2, .ref b), (1, .ref a), (0, .ref t)] [] := by
  intro r
  induction r with
  | zero =>
    intro m s kn P M' hm6 hr h0s hP hB
    obtain rfl : m = 6 := by omega
    refine r_iload ok dL_law_47 0 rfl ?_
    refine r_bipush ok (nI 6) dL_law_49 (by rfl) ?_
    refine r_icmp_geN ok 94 (by omega) (by omega) dL_law_51 (by decide) (fun _ => ?_) (fun c => absurd c (by omega))
    refine r_aload_n ok dL_law_94 4 rfl rfl ?_
    refine r_slen ok hX hbl dL_law_95 ?_
    refine r_iconst ok (nI 3) dL_law_96 (by rfl) ?_
    refine r_idivN ok (by omega) (by omega) (by omega) dL_law_97 ?_
    refine r_bipush ok (nI 30) dL_law_98 (by rfl) ?_
    refine r_icmp_leN ok 108 (by omega) (by omega) dL_law_100 (by decide) (fun c30 => ?_) (fun c30 => ?_)
    · skip
      refine r_aload_n ok dL_law_108 4 rfl rfl ?_
      refine r_slen ok hX hbl dL_law_109 ?_
      refine r_iconst ok (nI 3) dL_law_110 (by rfl) ?_
      refine r_idivN ok (by omega) (by omega) (by omega) dL_law_111 ?_
      refine r_istore ok [(4, .int (nI (L / 3))), (3, .int (nI 1)), (2, .ref b), (1, .ref a), (0, .ref t)] dL_law_112 (by decide) rfl ?_
      refine r_iconst ok (nI 0) dL_law_114 (by rfl) ?_
      refine r_istore ok [(5, .int (nI 0)), (4, .int (nI (L / 3))), (3, .int (nI 1)), (2, .ref b), (1, .ref a), (0, .ref t)] dL_law_115 (by decide) rfl ?_
      refine zW.forget ?_ [0, 1, 2, 3, 4, 5] rfl
      exact lg_loop ok hcl hsl hX hbl hL hb (T := L / 3) (by omega) hend (L / 3) 0 s kn P _ (Nat.zero_le _) rfl hB
    · skip
      refine r_bipush ok (nI 30) dL_law_103 (by rfl) ?_
      refine r_goto ok 112 dL_law_105 (by decide) ?_
      refine r_istore ok [(4, .int (nI 30)), (3, .int (nI 1)), (2, .ref b), (1, .ref a), (0, .ref t)] dL_law_112 (by decide) rfl ?_
      refine r_iconst ok (nI 0) dL_law_114 (by rfl) ?_
      refine r_istore ok [(5, .int (nI 0)), (4, .int (nI 30)), (3, .int (nI 1)), (2, .ref b), (1, .ref a), (0, .ref t)] dL_law_115 (by decide) rfl ?_
      refine zW.forget ?_ [0, 1, 2, 3, 4, 5] rfl
      exact lg_loop ok hcl hsl hX hbl hL hb (T := 30) (by omega) hend (30) 0 s kn P _ (Nat.zero_le _) rfl hB
  | succ r ih =>
    intro m s kn P M' hm6 hr h0s hP hB
    have hm : m < 6 := by omega
    obtain ⟨f, hf, h0⟩ := hB
    refine r_iload ok dL_law_47 0 rfl ?_
    refine r_bipush ok (nI 6) dL_law_49 (by rfl) ?_
    refine r_icmp_geN ok 94 (by omega) (by omega) dL_law_51 (by decide) (fun c => absurd c (by omega)) (fun _ => ?_)
    refine r_aload_n ok dL_law_54 2 rfl rfl ?_
    refine r_iconst ok (nI 0) dL_law_55 (by rfl) ?_
    refine r_dup2 ok dL_law_56 rfl rfl ?_
    have hpat := zSM_pat hb h0
    refine r_ialdN ok (by omega) (by omega) dL_law_57 hpat ?_
    refine r_sipush ok (nI 900) dL_law_58 (by rfl) ?_
    refine r_iadd ok dL_law_61 ?_
    refine r_iastN ok (by omega) (by omega) dL_law_62 hpat (M' := zu M' b (zI (G.2.1 0) 1 (upd f 0 ((f 0) + (nI 900))))) rfl ?_
    have h1 := zSM_paid hb h0 (upd f 0 ((f 0) + (nI 900)))
    have hfn : (upd f 0 ((f 0) + (nI 900))) 0 = f 0 + nI 900 := by simp [upd]
    refine r_aload_n ok dL_law_63 3 rfl rfl ?_
    refine r_iload ok dL_law_64 0 rfl ?_
    refine r_sipush ok (nI 900) dL_law_66 (by rfl) ?_
    obtain ⟨fsa, hMa⟩ := zSM_o h1
    obtain ⟨rv, Mc, hCc, hok, -⟩ := co_pay K.2.1 N h1 (E' := 0) (by omega) (by omega) (m := m) (v := 900) ⟨by omega, by omega⟩ (by omega)
    obtain ⟨-, k2, k3⟩ := hok hm
    refine r_cV1 ok [] mi_X5_pay ci_X5 ml_L_21 im_X5_pay se_X5_pay dL_law_69 hCc hMa rfl rfl ⟨Nat.le_of_ble_eq_true rfl, Nat.le_of_ble_eq_true rfl⟩ (Nat.le_of_ble_eq_true rfl) ⟨hcl, hsl⟩ ?_
    rw [h0s m (Nat.le_refl _) hm] at k2
    have k4 : rv = nI 900 := k2.trans (Int32.zero_add _)
    refine r_sipush ok (nI 900) dL_law_72 (by rfl) ?_
    refine r_icmp_ne ok 86 dL_law_75 (by decide) (fun c => (c k4).elim) (fun _ => ?_)
    refine r_iload_n ok dL_law_78 1 rfl rfl ?_
    refine r_if_eqN ok 86 (by omega) dL_law_79 (by decide) (fun c => absurd c (by omega)) (fun _ => ?_)
    refine r_iconst ok (nI 1) dL_law_82 (by rfl) ?_
    refine r_goto ok 87 dL_law_83 (by decide) ?_
    refine r_istore_n ok [(3, .int (nI 1)), (4, .int (nI m)), (2, .ref b), (1, .ref a), (0, .ref t)] dL_law_87 rfl (by decide) rfl ?_
    refine r_iincN ok (c := 1) [(4, .int (nI (m + 1))), (3, .int (nI 1)), (2, .ref b), (1, .ref a), (0, .ref t)] dL_law_88 1 rfl (by rfl) (by decide) rfl ?_
    refine r_goto ok 47 dL_law_91 (by decide) ?_
    refine zW.forget ?_ [0, 1, 2, 3, 4] rfl
    refine ih (m + 1) _ _ (P + (900 : Nat)) _ (by omega) (by omega) (fun j hj hj6 => ?_) (by omega) ⟨_, by rw [hfn, hf, Int32.ofInt_add]; rfl, k3⟩
    have := h0s j (by omega) hj6
    unfold zSpay
    rw [pk_un (by omega)]; exact this
set_option maxHeartbeats 4000000 in
set_option maxRecDepth 100000 in
theorem lg_start (ok : zOk K G ⟨RL, nm, ""⟩ cL_law 11 room_1 ret) (hcl : cells ≤ 617210) (hsl : slots ≤ 7250618) (hX : va_X t L xs K.2.2.2.2.1 G.2.2) (hbl : t < G.2.2.size) (hL : L ≤ 260) (hb : b < a ∨ a + 672 ≤ b) (hend : ∀ (lv : List (Nat × Value)) (M2 : zM), zW K G 11 Q cells slots M2 N 317 lv [.int 1]) {M' : zM} (hB : zSB G b a zRow0 0 0 0 M') : zW K G 11 Q cells slots M' N 12 [(2, .ref b), (1, .ref a), (0, .ref t)] [] := by
  obtain ⟨f, hf, h0⟩ := hB
  refine r_aload_n ok dL_law_12 1 rfl rfl ?_
  obtain ⟨fsa, hMa⟩ := zSM_o h0
  obtain ⟨Mu, hCu, hSu⟩ := t_undo0 K.2.1 N h0
  refine r_cV1 ok [] mi_X5_undo ci_X5 ml_L_86 im_X5_undo se_X5_undo dL_law_13 hCu hMa rfl rfl ⟨Nat.le_of_ble_eq_true rfl, Nat.le_of_ble_eq_true rfl⟩ (Nat.le_of_ble_eq_true rfl) ⟨hcl, hsl⟩ ?_
  refine r_ldc ok ck_L_101 dL_law_16 ?_
  refine r_icmp_ne ok 42 dL_law_18 (by decide) (fun c => (c rfl).elim) (fun _ => ?_)
  refine r_aload_n ok dL_law_21 1 rfl rfl ?_
  refine r_aload_n ok dL_law_22 0 rfl rfl ?_
  refine r_bipush ok (nI 7) dL_law_23 (by rfl) ?_
  obtain ⟨c, hc, sc, hi, sv, sg, pl, sH, hO, hH, hA, hD1⟩ := hSu
  refine r_cSq ok [] mi_L_holds ml_L_102 sm_L_holds dL_law_25 (yl_holds K.2.1 hO hA hb zPb_at hf hD1) rfl rfl ⟨Nat.le_of_ble_eq_true rfl, Nat.le_of_ble_eq_true rfl⟩ (Nat.le_of_ble_eq_true rfl) ⟨hcl, hsl⟩ (fun M2 hD3 => ?_)
  refine r_if_eq ok 42 dL_law_28 (by decide) (fun c => absurd c (by decide)) (fun _ => ?_)
  refine r_aload_n ok dL_law_31 1 rfl rfl ?_
  have hu14 : zRow0 14 = nI 0 := by decide +kernel
  have hcu := zUn_of hO (u := 0) (by omega) hu14
  obtain ⟨fsu, hMu⟩ := zDm_o hD3
  obtain ⟨n, Mh, hn, hz, hnz, hCh, hDh⟩ := q_until K.2.1 N hO hD3
  have hn0 : n = 0 := by
    rcases Nat.eq_zero_or_pos n with z | z
    · exact z
    · have := hnz 0 z
      rw [hcu] at this
      exact absurd rfl this
  subst hn0
  refine r_cV1 ok [] mi_X5_untilHome ci_X5 ml_L_93 im_X5_untilHome se_X5_untilHome dL_law_32 hCh hMu rfl rfl ⟨Nat.le_of_ble_eq_true rfl, Nat.le_of_ble_eq_true rfl⟩ (Nat.le_of_ble_eq_true rfl) ⟨hcl, hsl⟩ ?_
  refine r_if_neN ok 42 (by omega) dL_law_35 (by decide) (fun c => absurd c (by omega)) (fun _ => ?_)
  refine r_iconst ok (nI 1) dL_law_38 (by rfl) ?_
  refine r_goto ok 43 dL_law_39 (by decide) ?_
  refine r_istore_n ok [(3, .int (nI 1)), (2, .ref b), (1, .ref a), (0, .ref t)] dL_law_43 rfl (by decide) rfl ?_
  refine r_iconst ok (nI 0) dL_law_44 (by rfl) ?_
  refine r_istore ok [(4, .int (nI 0)), (3, .int (nI 1)), (2, .ref b), (1, .ref a), (0, .ref t)] dL_law_45 (by decide) rfl ?_
  refine zW.forget ?_ [0, 1, 2, 3, 4] rfl
  refine lg_pay ok hcl hsl hX hbl hL hb hend 6 0 zRow0 0 0 _ (by omega) rfl (fun j hj hj6 => zRow0_hi (by omega)) rfl ⟨f, hf, ⟨c, hc, sc, hi, sv, sg, pl, sH, hO, hH, hA, hDh⟩⟩
end LW
/-- from the entry, for every script of at most 260 ints, the law comes to its end with true -/
theorem whole_start {p : Program} {e : Env} {s : State} {m : MethodId} {below : List Frame} {meth : Method} {c : Code} (l : Launch) (hflags : l.flags = flags0) {b L : Nat} {xs : Nat → Int32} (hL : L ≤ 260) (C0 : lw_At p s m meth c b L xs) : W p l e room_1 s m #[Value.ref b] below meth c s.heap [] 0 0 (lw_Z below #[Value.ref b] s) (entryFrame m ([Value.ref b] : List Value).toArray 11) := by
  obtain ⟨hx, hb, hr, hml, hown, hts, hX, hbl, hlocks, hgv⟩ := id C0
  obtain ⟨⟨D, cc, H0⟩, hG, hK⟩ := zKw_of hts hgv
  dsimp only at hG
  subst hG
  have hl := lv_entry ([.ref b]) (n := 11) (Nat.le_of_ble_eq_true rfl)
  rw [lg_entry_eq]
  have ok : zOk (p, l, e, room_1, s, m, #[Value.ref b], below, meth, c) (D, cc, s.heap) ⟨RL, meth.name, ""⟩ cL_law 11 room_1 ret := ⟨hx, hb, hml, hown, hK, rfl, hr, hlocks, rfl⟩
  have body : zW (p, l, e, room_1, s, m, #[Value.ref b], below, meth, c) (D, cc, s.heap) 11 (lw_Z below #[Value.ref b] s) 0 0 (fun _ => none) s.heap.size 0 [(0, .ref b)] [] := by
    refine r_new ok ci_X5 kl_L_16 ia_X5 in_X5 [.null, .null, .null, .int 0, .null, .null, .null, .null] zdf_X5 ⟨Nat.le_of_ble_eq_true rfl, Nat.le_of_ble_eq_true rfl⟩ dL_law_0 ?_
    refine r_dup ok dL_law_3 rfl ?_
    refine r_cI0 ok mi_X5_init ml_L_100 im_X5_init rfl dL_law_4 (c_X5_init l (D, cc, s.heap) _ _) ⟨Nat.le_of_ble_eq_true rfl, Nat.le_of_ble_eq_true rfl⟩ (Nat.le_of_ble_eq_true rfl) ⟨Nat.le_of_ble_eq_true rfl, Nat.le_of_ble_eq_true rfl⟩ ?_
    refine r_astore_n ok [(1, .ref s.heap.size), (0, .ref b)] dL_law_7 rfl (by decide) rfl ?_
    refine r_iconst ok (nI 1) dL_law_8 (by rfl) ?_
    refine r_newaI ok (n := 1) (by omega) ⟨Nat.le_of_ble_eq_true rfl, Nat.le_of_ble_eq_true rfl⟩ dL_law_9 ?_
    refine r_astore_n ok [(2, .ref (s.heap.size + 1 + 671)), (1, .ref s.heap.size), (0, .ref b)] dL_law_11 rfl (by decide) rfl ?_
    exact lg_start ok (Nat.le_of_ble_eq_true rfl) (Nat.le_of_ble_eq_true rfl) hX hbl hL (show s.heap.size + 1 + 671 < s.heap.size ∨ s.heap.size + 672 ≤ s.heap.size + 1 + 671 by omega) (fun lv M2 => r_lret rfl hx hb hr hlocks dL_law_317 (Nat.le_of_ble_eq_true rfl) (Nat.le_of_ble_eq_true rfl)) (zSB_0 (by omega))
  exact body s.heap [] _ ⟨rfl, fun q hq => rfl, Nat.le_refl _, fun a e h => by cases h⟩ (fun q hq => by cases hq) hl
