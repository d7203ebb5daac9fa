/-! the law's methods -/
theorem mi_L_cell : zMi yL_cell cL_cell 2 (some .int) 2 := ⟨cd_L_cell, in_L, ⟨by decide +kernel, by decide +kernel⟩, by decide +kernel⟩
theorem mi_L_low : zMi yL_low cL_low 2 (some .int) 2 := ⟨cd_L_low, in_L, ⟨by decide +kernel, by decide +kernel⟩, by decide +kernel⟩
theorem mi_L_change : zMi yL_change cL_change 8 (some .int) 5 := ⟨cd_L_change, in_L, ⟨by decide +kernel, by decide +kernel⟩, by decide +kernel⟩
theorem mi_L_isOrder : zMi yL_isOrder cL_isOrder 7 (some .boolean) 2 := ⟨cd_L_isOrder, in_L, ⟨by decide +kernel, by decide +kernel⟩, by decide +kernel⟩
theorem mi_L_parted : zMi yL_parted cL_parted 2 (some .int) 2 := ⟨cd_L_parted, in_L, ⟨by decide +kernel, by decide +kernel⟩, by decide +kernel⟩
theorem mi_L_isHarp : zMi yL_isHarp cL_isHarp 6 (some .boolean) 3 := ⟨cd_L_isHarp, in_L, ⟨by decide +kernel, by decide +kernel⟩, by decide +kernel⟩
theorem mi_L_holds : zMi yL_holds cL_holds 13 (some .boolean) 3 := ⟨cd_L_holds, in_L, ⟨by decide +kernel, by decide +kernel⟩, by decide +kernel⟩
theorem mi_L_tries : zMi yL_tries cL_tries 10 (some .boolean) 2 := ⟨cd_L_tries, in_L, ⟨by decide +kernel, by decide +kernel⟩, by decide +kernel⟩
theorem mi_L_passes : zMi yL_passes cL_passes 8 (some .boolean) 4 := ⟨cd_L_passes, in_L, ⟨by decide +kernel, by decide +kernel⟩, by decide +kernel⟩
def zLow (v : Int32) (n : Nat) : Nat := v.toBitVec.toNat % 2 ^ 31 % n
theorem zLow_lt (v : Int32) {n : Nat} (h : 0 < n) : zLow v n < n := Nat.mod_lt _ h
theorem zMsk (v : Int32) : v &&& 2147483647 = nI (v.toBitVec.toNat % 2 ^ 31) := by
  have hm : v.toBitVec.toNat % 2 ^ 31 < 2 ^ 31 := Nat.mod_lt _ (by decide)
  apply Int32.toBitVec_inj.mp
  apply BitVec.eq_of_toNat_eq
  have h1 : (v &&& 2147483647).toBitVec.toNat = v.toBitVec.toNat % 2 ^ 31 := by
    rw [Int32.toBitVec_and, BitVec.toNat_and]
    exact Nat.and_two_pow_sub_one_eq_mod _ 31
  have h2 : (nI (v.toBitVec.toNat % 2 ^ 31)).toBitVec.toNat = v.toBitVec.toNat % 2 ^ 31 := by
    generalize v.toBitVec.toNat % 2 ^ 31 = k at hm
    show (BitVec.ofNat 32 k).toNat = k
    rw [BitVec.toNat_ofNat, Nat.mod_eq_of_lt (by omega)]
  rw [h1, h2]
set_option maxHeartbeats 4000000 in
set_option maxRecDepth 100000 in
theorem yl_low (l : Launch) (G : zG) (M0 : zM) (N : Nat) (v : Int32) {n : Nat} (h0 : 0 < n) (hn : n < 2 ^ 31) : zC l G yL_low cL_low 2 (some .int) 0 0 0 0 [.int (v), .int (nI n)] M0 N (zP (some (.int (nI (zLow v n)))) M0) := by
  refine zC.of (by decide +kernel) (Nat.le_of_ble_eq_true rfl) ?_
  intro K hKl ok
  subst hKl
  show zW K G 2 _ 0 0 _ N 0 [(0, .int (v)), (1, .int (nI n))] []
  refine r_iload_n ok dL_low_0 0 rfl rfl ?_
  refine r_ldc ok ck_L_8 dL_low_1 ?_
  refine r_iand ok dL_low_3 ?_
  rw [zMsk v]
  refine r_iload_n ok dL_low_4 1 rfl rfl ?_
  refine r_iremN ok (Nat.mod_lt _ (by decide)) h0 hn dL_low_5 ?_
  exact r_iret ok dL_low_6 rfl ⟨rfl, rfl⟩
/-- what the law's script holds at k, or what stands for it -/
def zCell (xs : Nat → Int32) (L : Nat) (k : Nat) : Int32 := if k < L then xs k else 40503 * nI k + 977
/-- a contract with one thing more that is known of the state -/
def zCx (l : Launch) (G : zG) (y : MethodName) (b : ByteArray) (n : Nat) (ret : Option FieldType) (f w mc ms : Nat) (av : List Value) (M : zM) (N : Nat) (Ex : State → Prop) (Post : Option Value → zM → Prop) : Prop :=
  Met l y [.code y b n ret] { frames := f, cells := mc, slots := ms, locals := w } (va_Pc av (fun U => (zKw G U ∧ zHd G M N U.heap) ∧ Ex U)) (zQc G (N + mc) Post) mc ms (zF G)
theorem zCx.of {l : Launch} {G : zG} {y : MethodName} {b : ByteArray} {n : Nat} {ret : Option FieldType} {f w mc ms : Nat} {av : List Value} {M : zM} {N : Nat} {Ex : State → Prop} {Post : Option Value → zM → Prop} (hy : plainName y.cls = true) (hlen : (lg_sl av).length ≤ n)
    (body : ∀ K : zK, K.2.1 = l → zOk K G y b n (zRm f w mc ms) ret → Ex K.2.2.2.2.1 → zW K G n (zQ K G (N + mc) mc ms Post) 0 0 M N 0 (lv_args 0 av) []) : zCx l G y b n ret f w mc ms av M N Ex Post := by
  refine Met.ofW (cc := b) (maxL := n) (ret := ret) hy rfl ?_
  intro p e s m args below meth c s₁ B hml hv
  obtain ⟨rfl, ⟨hK, hH⟩, hEx⟩ := hv
  have h := body (p, l, e, zRm f w mc ms, s, m, av.toArray, below, meth, c) rfl ⟨B.exec, B.bytes, hml, findClass_of_methodNamed B.named, hK, rfl, B.returns, B.notSynchronized, (name_of_methodNamed B.named B.method).1⟩ hEx
  rw [lg_entry_eq]
  exact h s.heap [] _ hH (fun q hq => by cases hq) (lv_entry av hlen)
theorem r_callSx {K : zK} {G : zG} {y : MethodName} {b : ByteArray} {nL : Nat} {R : Room} {ret : Option FieldType} {Q : State → Prop} {cells slots : Nat} {M : zM} {N pc : Nat} {lv : List (Nat × Value)} {st : List Value} (h : zOk K G y b nL R ret) {x : MethodName} {bx : ByteArray} {n np : Nat} {rx : Option FieldType} {f w index : Nat} {As : List Value} {v : Value} {M1 : zM} {Ex : State → Prop} (rest : List Value) (hEx : Ex K.2.2.2.2.1) (hExw : ∀ U V : State, Ex U → U.WarmedH V.vm → Ex V) (hm : zMi x bx n rx np) (hlk : Cond.methodLink y.cls index x ∈ lw_tbl) (hstc : Cond.static x ∈ lw_tbl) (hd : decode b pc = .ok (.invokestatic index, 3)) (hC : zCx K.2.1 G x bx n rx f w 0 0 As M N Ex (zP (some v) M1)) (hnp : As.length = np) (hst : st = As.reverse ++ rest) (hR : f + 1 ≤ R.frames ∧ 8 + (n + 11) + w ≤ R.locals) (hW : (rest.map fun v => v.category).sum ≤ 8) (hf : cells ≤ R.cells ∧ slots ≤ R.slots)
    (kk : zW K G nL Q cells slots M1 N (pc + 3) lv (v :: rest)) : zW K G nL Q cells slots M N pc lv st := by
  refine zGo (mc := 0) (ms := 0) (Post := zP (some v) M1) (ax := As.toArray) (rest := rest) (fun H locs ls hH hl => ?_) (fun r M2 hP => by obtain ⟨rfl, rfl⟩ := hP; exact kk)
  clear kk
  obtain ⟨p, l, e, R0, s, m, args, below, meth, c⟩ := K
  obtain ⟨hx, hb, hml, hown, hK, hR0, hret, hlo, hnm⟩ := h
  dsimp only at hx hb hml hown hK hR0 hret hlo hnm hC hEx ⊢
  subst hR0
  refine va_runS (Ts := []) ⟨hx, hb, hml, hown, fun w hw => by cases hw⟩ hC ⟨zCallB hK.2.1 hm hlk args hR, hK.2.1.use hstc rfl args⟩ ⟨fun a U g mk q => ⟨q.1, ⟨zKw.warm (u := U) (U := U.calling g mk a) q.2.1.1 (State.WarmedH.refl U), q.2.1.2⟩, hExw U (U.calling g mk a) q.2.2 (State.WarmedH.refl U)⟩, fun U hU hW => ⟨rfl, ⟨hK.warm hW, by rw [hU]; exact hH⟩, hExw s U hEx hW⟩⟩ rfl hnp hl.1 hst ?_ hd hf
  exact lv_room hW
theorem zXw {t L : Nat} {xs : Nat → Int32} {H : Heap} : ∀ U V : State, va_X t L xs U H → U.WarmedH V.vm → va_X t L xs V H := fun U V h hW => h.moved hW.alike
set_option maxHeartbeats 4000000 in
set_option maxRecDepth 100000 in
theorem yl_cell (l : Launch) (G : zG) (M0 : zM) (N : Nat) {t L k : Nat} {xs : Nat → Int32} (hbl : t < G.2.2.size) (hL : L < 2 ^ 31) (hk : k < 2 ^ 31) : zCx l G yL_cell cL_cell 2 (some .int) 0 0 0 0 [.ref t, .int (nI k)] M0 N (fun U => va_X t L xs U G.2.2) (zP (some (.int (zCell xs L k))) M0) := by
  refine zCx.of (by decide +kernel) (Nat.le_of_ble_eq_true rfl) ?_
  intro K hKl ok hX
  subst hKl
  show zW K G 2 _ 0 0 _ N 0 [(0, .ref t), (1, .int (nI k))] []
  refine r_iload_n ok dL_cell_0 1 rfl rfl ?_
  refine r_aload_n ok dL_cell_1 0 rfl rfl ?_
  refine r_slen ok hX hbl dL_cell_2 ?_
  refine r_icmp_geN ok 12 (by omega) (by omega) dL_cell_3 (by decide) (fun c => ?_) (fun c => ?_)
  · skip
    refine r_ldc ok ck_L_7 dL_cell_12 ?_
    refine r_iload_n ok dL_cell_14 1 rfl rfl ?_
    refine r_imul ok dL_cell_15 ?_
    refine r_sipush ok (977) dL_cell_16 (by rfl) ?_
    refine r_iadd ok dL_cell_19 ?_
    exact r_iret ok dL_cell_20 rfl ⟨congrArg (fun z => some (Value.int z)) (if_neg (by omega)).symm, rfl⟩
  · skip
    refine r_aload_n ok dL_cell_6 0 rfl rfl ?_
    refine r_iload_n ok dL_cell_7 1 rfl rfl ?_
    refine r_sld ok hX hbl c hL dL_cell_8 ?_
    refine r_goto ok 20 dL_cell_9 (by decide) ?_
    exact r_iret ok dL_cell_20 rfl ⟨congrArg (fun z => some (Value.int z)) (if_pos c).symm, rfl⟩
set_option maxHeartbeats 4000000 in
set_option maxRecDepth 100000 in
theorem yl_parted (l : Launch) {G : zG} {M M0 : zM} {a : Nat} {N : Nat} {c : zCl} {hc sc : Nat → zCl} {kn : Nat} {hi : Nat → Nat} {sv : Nat → Bool} {sg : Nat → Int32} {pl : Int32} {s : Nat → Int32} (hO : zOc c s) (h0 : zDm G M a c hc sc kn hi sv sg pl M0) {k : Nat} (hk : k < 64) : zC l G yL_parted cL_parted 2 (some .int) 4 89 0 0 [.ref a, .int (nI k)] M0 N (zPq (some (.int (zPt2 s (nI k)))) (zDm G M a c hc sc kn hi sv sg pl)) := by
  refine zC.of (by decide +kernel) (Nat.le_of_ble_eq_true rfl) ?_
  intro K hKl ok
  subst hKl
  show zW K G 2 _ 0 0 _ N 0 [(0, .ref a), (1, .int (nI k))] []
  refine r_aload_n ok dL_parted_0 0 rfl rfl ?_
  refine r_iload_n ok dL_parted_1 1 rfl rfl ?_
  refine r_iconst ok (nI 0) dL_parted_2 (by rfl) ?_
  obtain ⟨fs4, hM5⟩ := zDm_o h0
  obtain ⟨M1, hC2, hD3⟩ := q_order (r := zCost s (nI k)) K.2.1 N hO h0 hk 0 (by omega) rfl
  refine r_cV1 ok [] mi_X5_order ci_X5 ml_L_47 im_X5_order se_X5_order dL_parted_3 hC2 hM5 rfl rfl ⟨Nat.le_of_ble_eq_true rfl, Nat.le_of_ble_eq_true rfl⟩ (Nat.le_of_ble_eq_true rfl) ⟨Nat.zero_le _, Nat.zero_le _⟩ ?_
  refine r_aload_n ok dL_parted_6 0 rfl rfl ?_
  refine r_bipush ok (nI 63) dL_parted_7 (by rfl) ?_
  refine r_iload_n ok dL_parted_9 1 rfl rfl ?_
  refine r_isubN ok (by omega) dL_parted_10 ?_
  refine r_iconst ok (nI 0) dL_parted_11 (by rfl) ?_
  obtain ⟨fs9, hM10⟩ := zDm_o hD3
  obtain ⟨M6, hC7, hD8⟩ := q_order (r := zCost s (nI (63 - k))) K.2.1 N hO hD3 (show 63 - k < 64 by omega) 0 (by omega) rfl
  refine r_cV1 ok [.int (zCost s (nI k))] mi_X5_order ci_X5 ml_L_47 im_X5_order se_X5_order dL_parted_12 hC7 hM10 rfl rfl ⟨Nat.le_of_ble_eq_true rfl, Nat.le_of_ble_eq_true rfl⟩ (Nat.le_of_ble_eq_true rfl) ⟨Nat.zero_le _, Nat.zero_le _⟩ ?_
  refine r_iadd ok dL_parted_15 ?_
  refine r_aload_n ok dL_parted_16 0 rfl rfl ?_
  refine r_iload_n ok dL_parted_17 1 rfl rfl ?_
  refine r_iconst ok (nI 4) dL_parted_18 (by rfl) ?_
  obtain ⟨fs14, hM15⟩ := zDm_o hD8
  obtain ⟨M11, hC12, hD13⟩ := q_order (r := zDuty s (zVal s (nI k))) K.2.1 N hO hD8 hk 4 (by omega) rfl
  refine r_cV1 ok [.int ((zCost s (nI k)) + (zCost s (nI (63 - k))))] mi_X5_order ci_X5 ml_L_47 im_X5_order se_X5_order dL_parted_19 hC12 hM15 rfl rfl ⟨Nat.le_of_ble_eq_true rfl, Nat.le_of_ble_eq_true rfl⟩ (Nat.le_of_ble_eq_true rfl) ⟨Nat.zero_le _, Nat.zero_le _⟩ ?_
  refine r_iadd ok dL_parted_22 ?_
  refine r_aload_n ok dL_parted_23 0 rfl rfl ?_
  refine r_bipush ok (nI 63) dL_parted_24 (by rfl) ?_
  refine r_iload_n ok dL_parted_26 1 rfl rfl ?_
  refine r_isubN ok (by omega) dL_parted_27 ?_
  refine r_iconst ok (nI 4) dL_parted_28 (by rfl) ?_
  obtain ⟨fs19, hM20⟩ := zDm_o hD13
  obtain ⟨M16, hC17, hD18⟩ := q_order (r := zDuty s (zVal s (nI (63 - k)))) K.2.1 N hO hD13 (show 63 - k < 64 by omega) 4 (by omega) rfl
  refine r_cV1 ok [.int (((zCost s (nI k)) + (zCost s (nI (63 - k)))) + (zDuty s (zVal s (nI k))))] mi_X5_order ci_X5 ml_L_47 im_X5_order se_X5_order dL_parted_29 hC17 hM20 rfl rfl ⟨Nat.le_of_ble_eq_true rfl, Nat.le_of_ble_eq_true rfl⟩ (Nat.le_of_ble_eq_true rfl) ⟨Nat.zero_le _, Nat.zero_le _⟩ ?_
  refine r_iadd ok dL_parted_32 ?_
  exact r_iret ok dL_parted_33 rfl ⟨congrArg (fun z => some (Value.int z)) (by unfold zPt2; rw [zX63 k hk]), hD18⟩
theorem zNlt {v : Int32} (h : 0 ≤ v.toInt) : ¬ v < 0 := fun z => by
  have := Int32.lt_iff_toInt_lt.mp z
  have e : (0 : Int32).toInt = 0 := rfl
  omega
theorem zDuty_le {s : Nat → Int32} {v f : Int32} (hf : s 5 = f) (hv : zRg v 0 100000) (h5 : zRg f 0 500) (h : v - f ≤ 0) : zDuty s v = 0 := by
  obtain ⟨v1, v2⟩ := hv
  obtain ⟨f1, f2⟩ := h5
  have e : (0 : Int32).toInt = 0 := rfl
  have h1 := Int32.le_iff_toInt_le.mp h
  rw [zg_sub (by omega) (by omega)] at h1
  unfold zDuty
  rw [hf, if_neg (fun z => by have := Int32.lt_iff_toInt_lt.mp z; omega)]
theorem zDuty_gt {s : Nat → Int32} {v f g : Int32} (hf : s 5 = f) (hg : s 6 = g) (hv : zRg v 0 100000) (h5 : zRg f 0 500) (h : ¬ v - f ≤ 0) : zDuty s v = (v - f) * g / nI 100 := by
  obtain ⟨v1, v2⟩ := hv
  obtain ⟨f1, f2⟩ := h5
  have e : (0 : Int32).toInt = 0 := rfl
  unfold zDuty
  rw [hf, hg, if_pos]
  · rfl
  · rw [Int32.lt_iff_toInt_lt]
    apply Int.not_le.mp
    intro z
    apply h
    rw [Int32.le_iff_toInt_le, zg_sub (by omega) (by omega)]
    omega
set_option maxHeartbeats 4000000 in
set_option maxRecDepth 100000 in
theorem yl_isOrder (l : Launch) {G : zG} {M M0 : zM} {a : Nat} {N : Nat} {c : zCl} {hc sc : Nat → zCl} {kn : Nat} {hi : Nat → Nat} {sv : Nat → Bool} {sg : Nat → Int32} {pl : Int32} {s : Nat → Int32} (hO : zOc c s) (h0 : zDm G M a c hc sc kn hi sv sg pl M0) {k : Nat} (hk : k < 64) : zC l G yL_isOrder cL_isOrder 7 (some .boolean) 4 94 0 0 [.ref a, .int (nI k)] M0 N (zPq (some (.int 1)) (zDm G M a c hc sc kn hi sv sg pl)) := by
  refine zC.of (by decide +kernel) (Nat.le_of_ble_eq_true rfl) ?_
  intro K hKl ok
  subst hKl
  have hw := zRw_of hO.2.1
  have hI := hO.2.2.1
  obtain ⟨hsh, hsum⟩ := zShr_is (mm := nI k) hw hI
  have hvr := zVal_rg (zI1_wa hw hI) (nI k)
  obtain ⟨-, -, -, -, -, h5, -, -, -⟩ := zSt_rg hI
  have e5 : s 5 = c.st 5 := hw.1 5 (by omega)
  have e6 : s 6 = c.st 6 := hw.1 6 (by omega)
  show zW K G 7 _ 0 0 _ N 0 [(0, .ref a), (1, .int (nI k))] []
  have hend : ∀ (M8 : zM), zDm G M a c hc sc kn hi sv sg pl M8 → zW K G 7 (zQ K G (N + 0) 0 0 (zPq (some (.int 1)) (zDm G M a c hc sc kn hi sv sg pl))) 0 0 M8 N 108 [(5, .int (nI 6)), (4, .int (nI 1)), (3, .int (lsum (zShr s (nI k)) 6)), (2, .int (zCost s (nI k))), (1, .int (nI k)), (0, .ref a)] [] := by
    intro M8 hM8
    refine r_aload_n ok dL_isOrder_108 5 rfl rfl ?_
    refine r_iload_n ok dL_isOrder_109 4 rfl rfl ?_
    refine r_iconst ok (nI 1) dL_isOrder_110 (by rfl) ?_
    obtain ⟨fs4, hM5⟩ := zDm_o hM8
    obtain ⟨M1, hC2, hD3⟩ := q_order (r := zVal s (nI k)) K.2.1 N hO hM8 hk 1 (by omega) rfl
    refine r_cV1 ok [] mi_X5_order ci_X5 ml_L_47 im_X5_order se_X5_order dL_isOrder_111 hC2 hM5 rfl rfl ⟨Nat.le_of_ble_eq_true rfl, Nat.le_of_ble_eq_true rfl⟩ (Nat.le_of_ble_eq_true rfl) ⟨Nat.zero_le _, Nat.zero_le _⟩ ?_
    refine r_aload_n ok dL_isOrder_114 5 rfl rfl ?_
    refine r_iconst ok (nI 5) dL_isOrder_115 (by rfl) ?_
    obtain ⟨fs9, hM10⟩ := zDm_o hD3
    obtain ⟨M6, hC7, hD8⟩ := q_count (r := c.st 5) K.2.1 N hO hD3 5 (by omega) rfl
    refine r_cV1 ok [.int (zVal s (nI k))] mi_X5_count ci_X5 ml_L_53 im_X5_count se_X5_count dL_isOrder_116 hC7 hM10 rfl rfl ⟨Nat.le_of_ble_eq_true rfl, Nat.le_of_ble_eq_true rfl⟩ (Nat.le_of_ble_eq_true rfl) ⟨Nat.zero_le _, Nat.zero_le _⟩ ?_
    refine r_isub ok dL_isOrder_119 ?_
    refine r_istore ok [(5, .int ((zVal s (nI k)) - (c.st 5))), (4, .int (nI 1)), (3, .int (lsum (zShr s (nI k)) 6)), (2, .int (zCost s (nI k))), (1, .int (nI k)), (0, .ref a)] dL_isOrder_120 (by decide) rfl ?_
    refine r_iload ok dL_isOrder_122 1 rfl ?_
    refine r_if_eqN ok 166 (by omega) dL_isOrder_124 (by decide) (fun c => absurd c (by omega)) (fun _ => ?_)
    refine r_iload_n ok dL_isOrder_127 2 rfl rfl ?_
    refine r_iload_n ok dL_isOrder_128 3 rfl rfl ?_
    refine r_icmp_ne ok 166 dL_isOrder_129 (by decide) (fun c => (c hsum).elim) (fun _ => ?_)
    refine r_aload_n ok dL_isOrder_132 5 rfl rfl ?_
    refine r_iload_n ok dL_isOrder_133 4 rfl rfl ?_
    refine r_iconst ok (nI 4) dL_isOrder_134 (by rfl) ?_
    obtain ⟨fs14, hM15⟩ := zDm_o hD8
    obtain ⟨M11, hC12, hD13⟩ := q_order (r := zDuty s (zVal s (nI k))) K.2.1 N hO hD8 hk 4 (by omega) rfl
    refine r_cV1 ok [] mi_X5_order ci_X5 ml_L_47 im_X5_order se_X5_order dL_isOrder_135 hC12 hM15 rfl rfl ⟨Nat.le_of_ble_eq_true rfl, Nat.le_of_ble_eq_true rfl⟩ (Nat.le_of_ble_eq_true rfl) ⟨Nat.zero_le _, Nat.zero_le _⟩ ?_
    refine r_iload ok dL_isOrder_138 0 rfl ?_
    have j159 : ∀ (M7 : zM) (X : Int32) (hX : zDuty s (zVal s (nI k)) = X), zDm G M a c hc sc kn hi sv sg pl M7 → zW K G 7 (zQ K G (N + 0) 0 0 (zPq (some (.int 1)) (zDm G M a c hc sc kn hi sv sg pl))) 0 0 M7 N 159 [(5, .int ((zVal s (nI k)) - (c.st 5))), (4, .int (nI 1)), (3, .int (lsum (zShr s (nI k)) 6)), (2, .int (zCost s (nI k))), (1, .int (nI k)), (0, .ref a)] [.int (X), .int (zDuty s (zVal s (nI k)))] := by
      intro M7 X hX hM7
      refine r_icmp_ne ok 166 dL_isOrder_159 (by decide) (fun c => absurd hX c) (fun _ => ?_)
      refine r_iconst ok (nI 1) dL_isOrder_162 (by rfl) ?_
      refine r_goto ok 167 dL_isOrder_163 (by decide) ?_
      exact r_zret ok dL_isOrder_167 (by rfl) rfl ⟨rfl, hM7⟩
    refine r_if_le ok 158 dL_isOrder_140 (by decide) (fun cl => ?_) (fun cg => ?_)
    · skip
      refine r_iconst ok (0) dL_isOrder_158 (by rfl) ?_
      exact j159 _ _ (zDuty_le e5 hvr h5 cl) hD13
    · skip
      refine r_iload ok dL_isOrder_143 0 rfl ?_
      refine r_aload_n ok dL_isOrder_145 5 rfl rfl ?_
      refine r_bipush ok (nI 6) dL_isOrder_146 (by rfl) ?_
      obtain ⟨fs19, hM20⟩ := zDm_o hD13
      obtain ⟨M16, hC17, hD18⟩ := q_count (r := c.st 6) K.2.1 N hO hD13 6 (by omega) rfl
      refine r_cV1 ok [.int ((zVal s (nI k)) - (c.st 5)), .int (zDuty s (zVal s (nI k)))] mi_X5_count ci_X5 ml_L_53 im_X5_count se_X5_count dL_isOrder_148 hC17 hM20 rfl rfl ⟨Nat.le_of_ble_eq_true rfl, Nat.le_of_ble_eq_true rfl⟩ (Nat.le_of_ble_eq_true rfl) ⟨Nat.zero_le _, Nat.zero_le _⟩ ?_
      refine r_imul ok dL_isOrder_151 ?_
      refine r_bipush ok (nI 100) dL_isOrder_152 (by rfl) ?_
      refine r_idiv ok (by decide) dL_isOrder_154 ?_
      refine r_goto ok 159 dL_isOrder_155 (by decide) ?_
      exact j159 _ _ (zDuty_gt e5 e6 hvr h5 cg) hD18
  have loop : ∀ (r m : Nat) (M9 : zM), m ≤ 6 → r = 6 - m → zDm G M a c hc sc kn hi sv sg pl M9 → zW K G 7 (zQ K G (N + 0) 0 0 (zPq (some (.int 1)) (zDm G M a c hc sc kn hi sv sg pl))) 0 0 M9 N 49 [(5, .int (nI m)), (4, .int (nI 1)), (3, .int (lsum (zShr s (nI k)) m)), (2, .int (zCost s (nI k))), (1, .int (nI k)), (0, .ref a)] [] := by
    intro r
    induction r with
    | zero =>
      intro m M9 hm6 hr hM9
      obtain rfl : m = 6 := by omega
      refine r_iload ok dL_isOrder_49 0 rfl ?_
      refine r_bipush ok (nI 6) dL_isOrder_51 (by rfl) ?_
      refine r_icmp_geN ok 108 (by omega) (by omega) dL_isOrder_53 (by decide) (fun _ => ?_) (fun c => absurd c (by omega))
      exact hend M9 hM9
    | succ r ih =>
      intro m M9 hm6 hr hM9
      have hm : m < 6 := by omega
      obtain ⟨hs1, hs2⟩ := hsh m hm
      refine r_iload ok dL_isOrder_49 0 rfl ?_
      refine r_bipush ok (nI 6) dL_isOrder_51 (by rfl) ?_
      refine r_icmp_geN ok 108 (by omega) (by omega) dL_isOrder_53 (by decide) (fun c => absurd c (by omega)) (fun _ => ?_)
      refine r_aload_n ok dL_isOrder_56 5 rfl rfl ?_
      refine r_iload_n ok dL_isOrder_57 4 rfl rfl ?_
      refine r_iload ok dL_isOrder_58 0 rfl ?_
      obtain ⟨fs24, hM25⟩ := zDm_o hM9
      obtain ⟨M21, hC22, hD23⟩ := q_share K.2.1 N hO hM9 hk hm
      refine r_cV1 ok [] mi_X5_share ci_X5 ml_L_50 im_X5_share se_X5_share dL_isOrder_60 hC22 hM25 rfl rfl ⟨Nat.le_of_ble_eq_true rfl, Nat.le_of_ble_eq_true rfl⟩ (Nat.le_of_ble_eq_true rfl) ⟨Nat.zero_le _, Nat.zero_le _⟩ ?_
      refine r_istore ok [(6, .int (zShr s (nI k) m)), (5, .int (nI m)), (4, .int (nI 1)), (3, .int (lsum (zShr s (nI k)) m)), (2, .int (zCost s (nI k))), (1, .int (nI k)), (0, .ref a)] dL_isOrder_63 (by decide) rfl ?_
      refine r_iload_n ok dL_isOrder_65 3 rfl rfl ?_
      refine r_iload ok dL_isOrder_66 0 rfl ?_
      refine r_iadd ok dL_isOrder_68 ?_
      refine r_istore_n ok [(3, .int (lsum (zShr s (nI k)) (m + 1))), (6, .int (zShr s (nI k) m)), (5, .int (nI m)), (4, .int (nI 1)), (2, .int (zCost s (nI k))), (1, .int (nI k)), (0, .ref a)] dL_isOrder_69 rfl (by decide) rfl ?_
      refine r_iload ok dL_isOrder_70 3 rfl ?_
      refine r_if_eqN ok 99 (by omega) dL_isOrder_72 (by decide) (fun c => absurd c (by omega)) (fun _ => ?_)
      refine r_iload ok dL_isOrder_75 1 rfl ?_
      refine r_if_lt ok 99 dL_isOrder_77 (by decide) (fun c => absurd c (zNlt hs1.1)) (fun _ => ?_)
      have j95 : ∀ (M6 : zM), zDm G M a c hc sc kn hi sv sg pl M6 → zW K G 7 (zQ K G (N + 0) 0 0 (zPq (some (.int 1)) (zDm G M a c hc sc kn hi sv sg pl))) 0 0 M6 N 95 [(3, .int (lsum (zShr s (nI k)) (m + 1))), (6, .int (zShr s (nI k) m)), (5, .int (nI m)), (4, .int (nI 1)), (2, .int (zCost s (nI k))), (1, .int (nI k)), (0, .ref a)] [] := by
        intro M6 hM6
        refine r_iconst ok (nI 1) dL_isOrder_95 (by rfl) ?_
        refine r_goto ok 100 dL_isOrder_96 (by decide) ?_
        refine r_istore ok [(4, .int (nI 1)), (3, .int (lsum (zShr s (nI k)) (m + 1))), (6, .int (zShr s (nI k) m)), (5, .int (nI m)), (2, .int (zCost s (nI k))), (1, .int (nI k)), (0, .ref a)] dL_isOrder_100 (by decide) rfl ?_
        refine r_iincN ok (c := 1) [(5, .int (nI (m + 1))), (4, .int (nI 1)), (3, .int (lsum (zShr s (nI k)) (m + 1))), (6, .int (zShr s (nI k) m)), (2, .int (zCost s (nI k))), (1, .int (nI k)), (0, .ref a)] dL_isOrder_102 3 rfl (by rfl) (by decide) rfl ?_
        refine r_goto ok 49 dL_isOrder_105 (by decide) ?_
        refine zW.forget ?_ [0, 1, 2, 4, 5, 6] rfl
        exact ih (m + 1) _ (by omega) (by omega) hM6
      refine r_iload_n ok dL_isOrder_80 5 rfl rfl ?_
      refine r_iload ok dL_isOrder_81 2 rfl ?_
      refine r_ishr ok dL_isOrder_83 ?_
      refine r_iconst ok (1) dL_isOrder_84 (by rfl) ?_
      refine r_iand ok dL_isOrder_85 ?_
      refine r_iconst ok (1) dL_isOrder_86 (by rfl) ?_
      refine r_icmp_eq ok 95 dL_isOrder_87 (by decide) (fun _ => ?_) (fun cn => ?_)
      · exact j95 _ hD23
      · skip
        refine r_iload ok dL_isOrder_90 1 rfl ?_
        have hf : zHas (nI k) m = false := decide_eq_false cn
        refine r_if_ne ok 99 dL_isOrder_92 (by decide) (fun c => (c (hs2 hf)).elim) (fun _ => ?_)
        exact j95 _ hD23
  refine r_aload_n ok dL_isOrder_0 0 rfl rfl ?_
  refine r_iload_n ok dL_isOrder_1 1 rfl rfl ?_
  refine r_iconst ok (nI 0) dL_isOrder_2 (by rfl) ?_
  obtain ⟨fs29, hM30⟩ := zDm_o h0
  obtain ⟨M26, hC27, hD28⟩ := q_order (r := zCost s (nI k)) K.2.1 N hO h0 hk 0 (by omega) rfl
  refine r_cV1 ok [] mi_X5_order ci_X5 ml_L_47 im_X5_order se_X5_order dL_isOrder_3 hC27 hM30 rfl rfl ⟨Nat.le_of_ble_eq_true rfl, Nat.le_of_ble_eq_true rfl⟩ (Nat.le_of_ble_eq_true rfl) ⟨Nat.zero_le _, Nat.zero_le _⟩ ?_
  refine r_istore_n ok [(2, .int (zCost s (nI k))), (0, .ref a), (1, .int (nI k))] dL_isOrder_6 rfl (by decide) rfl ?_
  refine r_iconst ok (lsum (zShr s (nI k)) 0) dL_isOrder_7 (by rfl) ?_
  refine r_istore_n ok [(3, .int (lsum (zShr s (nI k)) 0)), (2, .int (zCost s (nI k))), (0, .ref a), (1, .int (nI k))] dL_isOrder_8 rfl (by decide) rfl ?_
  refine r_iload_n ok dL_isOrder_9 1 rfl rfl ?_
  refine r_aload_n ok dL_isOrder_10 2 rfl rfl ?_
  refine r_iload_n ok dL_isOrder_11 3 rfl rfl ?_
  refine r_iconst ok (nI 1) dL_isOrder_12 (by rfl) ?_
  obtain ⟨fs34, hM35⟩ := zDm_o hD28
  obtain ⟨M31, hC32, hD33⟩ := q_order (r := zVal s (nI k)) K.2.1 N hO hD28 hk 1 (by omega) rfl
  refine r_cV1 ok [.int (zCost s (nI k))] mi_X5_order ci_X5 ml_L_47 im_X5_order se_X5_order dL_isOrder_13 hC32 hM35 rfl rfl ⟨Nat.le_of_ble_eq_true rfl, Nat.le_of_ble_eq_true rfl⟩ (Nat.le_of_ble_eq_true rfl) ⟨Nat.zero_le _, Nat.zero_le _⟩ ?_
  refine r_aload_n ok dL_isOrder_16 2 rfl rfl ?_
  refine r_iload_n ok dL_isOrder_17 3 rfl rfl ?_
  refine r_iconst ok (nI 2) dL_isOrder_18 (by rfl) ?_
  obtain ⟨fs39, hM40⟩ := zDm_o hD33
  obtain ⟨M36, hC37, hD38⟩ := q_order (r := zPost s (nI k)) K.2.1 N hO hD33 hk 2 (by omega) rfl
  refine r_cV1 ok [.int (zVal s (nI k)), .int (zCost s (nI k))] mi_X5_order ci_X5 ml_L_47 im_X5_order se_X5_order dL_isOrder_19 hC37 hM40 rfl rfl ⟨Nat.le_of_ble_eq_true rfl, Nat.le_of_ble_eq_true rfl⟩ (Nat.le_of_ble_eq_true rfl) ⟨Nat.zero_le _, Nat.zero_le _⟩ ?_
  refine r_iadd ok dL_isOrder_22 ?_
  refine r_icmp_ne ok 43 dL_isOrder_23 (by decide) (fun c => (c rfl).elim) (fun _ => ?_)
  refine r_aload_n ok dL_isOrder_26 2 rfl rfl ?_
  refine r_iload_n ok dL_isOrder_27 3 rfl rfl ?_
  refine r_iconst ok (nI 3) dL_isOrder_28 (by rfl) ?_
  obtain ⟨fs44, hM45⟩ := zDm_o hD38
  obtain ⟨M41, hC42, hD43⟩ := q_order (r := zStr s (nI k)) K.2.1 N hO hD38 hk 3 (by omega) rfl
  refine r_cV1 ok [] mi_X5_order ci_X5 ml_L_47 im_X5_order se_X5_order dL_isOrder_29 hC42 hM45 rfl rfl ⟨Nat.le_of_ble_eq_true rfl, Nat.le_of_ble_eq_true rfl⟩ (Nat.le_of_ble_eq_true rfl) ⟨Nat.zero_le _, Nat.zero_le _⟩ ?_
  have j39 : ∀ (M5 : zM), zDm G M a c hc sc kn hi sv sg pl M5 → zW K G 7 (zQ K G (N + 0) 0 0 (zPq (some (.int 1)) (zDm G M a c hc sc kn hi sv sg pl))) 0 0 M5 N 39 [(3, .int (lsum (zShr s (nI k)) 0)), (2, .int (zCost s (nI k))), (0, .ref a), (1, .int (nI k))] [] := by
    intro M5 hM5
    refine r_iconst ok (nI 1) dL_isOrder_39 (by rfl) ?_
    refine r_goto ok 44 dL_isOrder_40 (by decide) ?_
    refine r_istore ok [(4, .int (nI 1)), (3, .int (lsum (zShr s (nI k)) 0)), (2, .int (zCost s (nI k))), (0, .ref a), (1, .int (nI k))] dL_isOrder_44 (by decide) rfl ?_
    refine r_iconst ok (nI 0) dL_isOrder_46 (by rfl) ?_
    refine r_istore ok [(5, .int (nI 0)), (4, .int (nI 1)), (3, .int (lsum (zShr s (nI k)) 0)), (2, .int (zCost s (nI k))), (0, .ref a), (1, .int (nI k))] dL_isOrder_47 (by decide) rfl ?_
    refine zW.forget ?_ [0, 1, 2, 3, 5, 4] rfl
    exact loop 6 0 _ (by omega) rfl hM5
  refine r_if_gt ok 39 dL_isOrder_32 (by decide) (fun _ => ?_) (fun cz => ?_)
  · exact j39 _ hD43
  · skip
    refine r_iload_n ok dL_isOrder_35 1 rfl rfl ?_
    refine r_if_ne ok 43 dL_isOrder_36 (by decide) (fun c => (c (zCost_0 hw hI cz)).elim) (fun _ => ?_)
    exact j39 _ hD43
theorem zRst_is {c : zCl} {m g : Nat} (hg : g < 8) (hh : zHas (c.br m) g = true) {d1 d2 d3 : Int32} (h1 : d1 = if g < 7 then (if c.sp m (g + 1) ≤ 0 then -100006 else nI (g + 1)) else -100006) (h2 : d2 = if g = 0 then d1 else if c.sp m (g - 1) ≤ 0 then d1 else nI (g - 1)) (h3 : d3 = if c.sp m g ≤ 0 then d2 else nI g) : zRstC c (m, g) = d3 := by
  unfold zRstC
  dsimp only
  rw [if_pos hh, h3]
  by_cases p0 : c.sp m g ≤ 0
  · rw [if_pos p0, if_pos p0, h2]
    by_cases g0 : g = 0
    · subst g0
      rw [if_pos rfl, if_pos rfl, h1, if_pos (show 0 < 7 by omega)]
    · rw [if_neg g0, if_neg g0]
      by_cases pm : c.sp m (g - 1) ≤ 0
      · rw [if_pos pm, if_pos pm, h1]
      · rw [if_neg pm, if_neg pm]
  · rw [if_neg p0, if_neg p0]
theorem zRst_no {c : zCl} {m g : Nat} (hh : zHas (c.br m) g = false) : zRstC c (m, g) = -100006 := by
  unfold zRstC
  dsimp only
  rw [if_neg (by rw [hh]; decide)]
set_option maxHeartbeats 4000000 in
set_option maxRecDepth 100000 in
theorem yl_isHarp (l : Launch) {G : zG} {M M0 : zM} {a : Nat} {N : Nat} {c : zCl} {hc sc : Nat → zCl} {kn : Nat} {hi : Nat → Nat} {sv : Nat → Bool} {sg : Nat → Int32} {pl : Int32} {s : Nat → Int32} (hO : zOc c s) (h0 : zDm G M a c hc sc kn hi sv sg pl M0) {m g : Nat} (hm : m < 6) (hg : g < 8) : zC l G yL_isHarp cL_isHarp 6 (some .boolean) 3 70 0 0 [.ref a, .int (nI m), .int (nI g)] M0 N (zPq (some (.int 1)) (zDm G M a c hc sc kn hi sv sg pl)) := by
  refine zC.of (by decide +kernel) (Nat.le_of_ble_eq_true rfl) ?_
  intro K hKl ok
  subst hKl
  show zW K G 6 _ 0 0 _ N 0 [(0, .ref a), (1, .int (nI m)), (2, .int (nI g))] []
  refine r_aload_n ok dL_isHarp_0 0 rfl rfl ?_
  refine r_iload_n ok dL_isHarp_1 1 rfl rfl ?_
  refine r_iload_n ok dL_isHarp_2 2 rfl rfl ?_
  obtain ⟨fs4, hM5⟩ := zDm_o h0
  obtain ⟨M1, hC2, hD3⟩ := q_stand K.2.1 N hO h0 hm hg
  refine r_cV1 ok [] mi_X5_standIn ci_X5 ml_L_56 im_X5_standIn se_X5_standIn dL_isHarp_3 hC2 hM5 rfl rfl ⟨Nat.le_of_ble_eq_true rfl, Nat.le_of_ble_eq_true rfl⟩ (Nat.le_of_ble_eq_true rfl) ⟨Nat.zero_le _, Nat.zero_le _⟩ ?_
  refine r_istore_n ok [(3, .int (zRstC c (m, g))), (0, .ref a), (1, .int (nI m)), (2, .int (nI g))] dL_isHarp_6 rfl (by decide) rfl ?_
  refine r_aload_n ok dL_isHarp_7 1 rfl rfl ?_
  refine r_iload_n ok dL_isHarp_8 2 rfl rfl ?_
  refine r_iconst ok (nI 1) dL_isHarp_9 (by rfl) ?_
  obtain ⟨fs9, hM10⟩ := zDm_o hD3
  obtain ⟨M6, hC7, hD8⟩ := q_member (r := c.br m) K.2.1 N hO hD3 hm 1 (by omega) rfl
  refine r_cV1 ok [] mi_X5_member ci_X5 ml_L_59 im_X5_member se_X5_member dL_isHarp_10 hC7 hM10 rfl rfl ⟨Nat.le_of_ble_eq_true rfl, Nat.le_of_ble_eq_true rfl⟩ (Nat.le_of_ble_eq_true rfl) ⟨Nat.zero_le _, Nat.zero_le _⟩ ?_
  refine r_iload_n ok dL_isHarp_13 3 rfl rfl ?_
  refine r_ishr ok dL_isHarp_14 ?_
  refine r_iconst ok (1) dL_isHarp_15 (by rfl) ?_
  refine r_iand ok dL_isHarp_16 ?_
  refine r_iconst ok (1) dL_isHarp_17 (by rfl) ?_
  refine r_icmp_ne ok 25 dL_isHarp_18 (by decide) (fun cn => ?_) (fun cy => ?_)
  · have hh : zHas (c.br m) g = false := decide_eq_false cn
    refine r_iconst ok (nI 0) dL_isHarp_25 (by rfl) ?_
    refine r_istore ok [(4, .int (nI 0)), (3, .int (zRstC c (m, g))), (0, .ref a), (1, .int (nI m)), (2, .int (nI g))] dL_isHarp_26 (by decide) rfl ?_
    refine r_ldc ok ck_L_62 dL_isHarp_28 ?_
    refine r_istore ok [(5, .int (-100006)), (4, .int (nI 0)), (3, .int (zRstC c (m, g))), (0, .ref a), (1, .int (nI m)), (2, .int (nI g))] dL_isHarp_30 (by decide) rfl ?_
    refine r_iload ok dL_isHarp_32 1 rfl ?_
    refine r_if_eqN ok 109 (by omega) dL_isHarp_34 (by decide) (fun _ => ?_) (fun c => absurd c (by omega))
    refine r_iload_n ok dL_isHarp_109 2 rfl rfl ?_
    refine r_iload ok dL_isHarp_110 0 rfl ?_
    refine r_icmp_ne ok 119 dL_isHarp_112 (by decide) (fun c => (c (zRst_no hh)).elim) (fun _ => ?_)
    refine r_iconst ok (nI 1) dL_isHarp_115 (by rfl) ?_
    refine r_goto ok 120 dL_isHarp_116 (by decide) ?_
    exact r_zret ok dL_isHarp_120 (by rfl) rfl ⟨rfl, hD8⟩
  · have hh : zHas (c.br m) g = true := decide_eq_true cy
    refine r_iconst ok (nI 1) dL_isHarp_21 (by rfl) ?_
    refine r_goto ok 26 dL_isHarp_22 (by decide) ?_
    refine r_istore ok [(4, .int (nI 1)), (3, .int (zRstC c (m, g))), (0, .ref a), (1, .int (nI m)), (2, .int (nI g))] dL_isHarp_26 (by decide) rfl ?_
    refine r_ldc ok ck_L_62 dL_isHarp_28 ?_
    refine r_istore ok [(5, .int (-100006)), (4, .int (nI 1)), (3, .int (zRstC c (m, g))), (0, .ref a), (1, .int (nI m)), (2, .int (nI g))] dL_isHarp_30 (by decide) rfl ?_
    refine r_iload ok dL_isHarp_32 1 rfl ?_
    refine r_if_eqN ok 109 (by omega) dL_isHarp_34 (by decide) (fun c => absurd c (by omega)) (fun _ => ?_)
    obtain ⟨d1, hd1⟩ : ∃ d : Int32, d = if g < 7 then (if c.sp m (g + 1) ≤ 0 then -100006 else nI (g + 1)) else -100006 := ⟨_, rfl⟩
    obtain ⟨d2, hd2⟩ : ∃ d : Int32, d = if g = 0 then d1 else if c.sp m (g - 1) ≤ 0 then d1 else nI (g - 1) := ⟨_, rfl⟩
    obtain ⟨d3, hd3⟩ : ∃ d : Int32, d = if c.sp m g ≤ 0 then d2 else nI g := ⟨_, rfl⟩
    have hfin := zRst_is hg hh hd1 hd2 hd3
    have j107 : ∀ (M7 : zM), zDm G M a c hc sc kn hi sv sg pl M7 → zW K G 6 (zQ K G (N + 0) 0 0 (zPq (some (.int 1)) (zDm G M a c hc sc kn hi sv sg pl))) 0 0 M7 N 107 [(5, .int (d2)), (4, .int (nI 1)), (3, .int (zRstC c (m, g))), (0, .ref a), (1, .int (nI m)), (2, .int (nI g))] [.int (d3)] := by
      intro M7 hM7
      refine r_istore ok [(5, .int (d3)), (4, .int (nI 1)), (3, .int (zRstC c (m, g))), (0, .ref a), (1, .int (nI m)), (2, .int (nI g))] dL_isHarp_107 (by decide) rfl ?_
      refine r_iload_n ok dL_isHarp_109 2 rfl rfl ?_
      refine r_iload ok dL_isHarp_110 0 rfl ?_
      refine r_icmp_ne ok 119 dL_isHarp_112 (by decide) (fun c => absurd hfin c) (fun _ => ?_)
      refine r_iconst ok (nI 1) dL_isHarp_115 (by rfl) ?_
      refine r_goto ok 120 dL_isHarp_116 (by decide) ?_
      exact r_zret ok dL_isHarp_120 (by rfl) rfl ⟨rfl, hM7⟩
    have j89 : ∀ (M6 : zM), zDm G M a c hc sc kn hi sv sg pl M6 → zW K G 6 (zQ K G (N + 0) 0 0 (zPq (some (.int 1)) (zDm G M a c hc sc kn hi sv sg pl))) 0 0 M6 N 89 [(5, .int (d1)), (4, .int (nI 1)), (3, .int (zRstC c (m, g))), (0, .ref a), (1, .int (nI m)), (2, .int (nI g))] [.int (d2)] := by
      intro M6 hM6
      refine r_istore ok [(5, .int (d2)), (4, .int (nI 1)), (3, .int (zRstC c (m, g))), (0, .ref a), (1, .int (nI m)), (2, .int (nI g))] dL_isHarp_89 (by decide) rfl ?_
      refine r_aload_n ok dL_isHarp_91 3 rfl rfl ?_
      refine r_iload_n ok dL_isHarp_92 4 rfl rfl ?_
      refine r_iload_n ok dL_isHarp_93 5 rfl rfl ?_
      refine r_iconst ok (zb false) dL_isHarp_94 (by rfl) ?_
      obtain ⟨fs14, hM15⟩ := zDm_o hM6
      obtain ⟨M11, hC12, hD13⟩ := q_strings (r := c.sp m g) K.2.1 N hO hM6 hm hg false rfl
      refine r_cV1 ok [] mi_X5_strings ci_X5 ml_L_63 im_X5_strings se_X5_strings dL_isHarp_95 hC12 hM15 rfl rfl ⟨Nat.le_of_ble_eq_true rfl, Nat.le_of_ble_eq_true rfl⟩ (Nat.le_of_ble_eq_true rfl) ⟨Nat.zero_le _, Nat.zero_le _⟩ ?_
      refine r_if_le ok 105 dL_isHarp_98 (by decide) (fun c0 => ?_) (fun c0 => ?_)
      · skip
        refine r_iload ok dL_isHarp_105 0 rfl ?_
        refine zW.to (st' := [.int d3]) ?_ rfl rfl (by rw [hd3, if_pos c0])
        exact j107 _ hD13
      · skip
        refine r_iload_n ok dL_isHarp_101 5 rfl rfl ?_
        refine r_goto ok 107 dL_isHarp_102 (by decide) ?_
        refine zW.to (st' := [.int d3]) ?_ rfl rfl (by rw [hd3, if_neg c0])
        exact j107 _ hD13
    have j63 : ∀ (M5 : zM), zDm G M a c hc sc kn hi sv sg pl M5 → zW K G 6 (zQ K G (N + 0) 0 0 (zPq (some (.int 1)) (zDm G M a c hc sc kn hi sv sg pl))) 0 0 M5 N 63 [(5, .int (-100006)), (4, .int (nI 1)), (3, .int (zRstC c (m, g))), (0, .ref a), (1, .int (nI m)), (2, .int (nI g))] [.int (d1)] := by
      intro M5 hM5
      refine r_istore ok [(5, .int (d1)), (4, .int (nI 1)), (3, .int (zRstC c (m, g))), (0, .ref a), (1, .int (nI m)), (2, .int (nI g))] dL_isHarp_63 (by decide) rfl ?_
      refine r_iload_n ok dL_isHarp_65 5 rfl rfl ?_
      refine r_if_leN ok 87 (by omega) dL_isHarp_66 (by decide) (fun g0 => ?_) (fun g1 => ?_)
      · skip
        refine r_iload ok dL_isHarp_87 0 rfl ?_
        refine zW.to (st' := [.int d2]) ?_ rfl rfl (by rw [hd2, if_pos g0])
        exact j89 _ hM5
      · skip
        refine r_aload_n ok dL_isHarp_69 3 rfl rfl ?_
        refine r_iload_n ok dL_isHarp_70 4 rfl rfl ?_
        refine r_iload_n ok dL_isHarp_71 5 rfl rfl ?_
        refine r_iconst ok (nI 1) dL_isHarp_72 (by rfl) ?_
        refine r_isubN ok (by omega) dL_isHarp_73 ?_
        refine r_iconst ok (zb false) dL_isHarp_74 (by rfl) ?_
        obtain ⟨fs19, hM20⟩ := zDm_o hM5
        obtain ⟨M16, hC17, hD18⟩ := q_strings (r := c.sp m (g - 1)) K.2.1 N hO hM5 hm (show g - 1 < 8 by omega) false rfl
        refine r_cV1 ok [] mi_X5_strings ci_X5 ml_L_63 im_X5_strings se_X5_strings dL_isHarp_75 hC17 hM20 rfl rfl ⟨Nat.le_of_ble_eq_true rfl, Nat.le_of_ble_eq_true rfl⟩ (Nat.le_of_ble_eq_true rfl) ⟨Nat.zero_le _, Nat.zero_le _⟩ ?_
        refine r_if_le ok 87 dL_isHarp_78 (by decide) (fun cm => ?_) (fun cm => ?_)
        · skip
          refine r_iload ok dL_isHarp_87 0 rfl ?_
          refine zW.to (st' := [.int d2]) ?_ rfl rfl (by rw [hd2, if_neg (by omega), if_pos cm])
          exact j89 _ hD18
        · skip
          refine r_iload_n ok dL_isHarp_81 5 rfl rfl ?_
          refine r_iconst ok (nI 1) dL_isHarp_82 (by rfl) ?_
          refine r_isubN ok (by omega) dL_isHarp_83 ?_
          refine r_goto ok 89 dL_isHarp_84 (by decide) ?_
          refine zW.to (st' := [.int d2]) ?_ rfl rfl (by rw [hd2, if_neg (by omega), if_neg cm])
          exact j89 _ hD18
    refine r_iload_n ok dL_isHarp_37 5 rfl rfl ?_
    refine r_bipush ok (nI 7) dL_isHarp_38 (by rfl) ?_
    refine r_icmp_geN ok 61 (by omega) (by omega) dL_isHarp_40 (by decide) (fun g7 => ?_) (fun g7 => ?_)
    · skip
      refine r_iload ok dL_isHarp_61 0 rfl ?_
      refine zW.to (st' := [.int d1]) ?_ rfl rfl (by rw [hd1, if_neg (by omega)])
      exact j63 _ hD8
    · skip
      refine r_aload_n ok dL_isHarp_43 3 rfl rfl ?_
      refine r_iload_n ok dL_isHarp_44 4 rfl rfl ?_
      refine r_iload_n ok dL_isHarp_45 5 rfl rfl ?_
      refine r_iconst ok (nI 1) dL_isHarp_46 (by rfl) ?_
      refine r_iaddN ok dL_isHarp_47 ?_
      refine r_iconst ok (zb false) dL_isHarp_48 (by rfl) ?_
      obtain ⟨fs24, hM25⟩ := zDm_o hD8
      obtain ⟨M21, hC22, hD23⟩ := q_strings (r := c.sp m (g + 1)) K.2.1 N hO hD8 hm (show g + 1 < 8 by omega) false rfl
      refine r_cV1 ok [] mi_X5_strings ci_X5 ml_L_63 im_X5_strings se_X5_strings dL_isHarp_49 hC22 hM25 rfl rfl ⟨Nat.le_of_ble_eq_true rfl, Nat.le_of_ble_eq_true rfl⟩ (Nat.le_of_ble_eq_true rfl) ⟨Nat.zero_le _, Nat.zero_le _⟩ ?_
      refine r_if_le ok 61 dL_isHarp_52 (by decide) (fun cp => ?_) (fun cp => ?_)
      · skip
        refine r_iload ok dL_isHarp_61 0 rfl ?_
        refine zW.to (st' := [.int d1]) ?_ rfl rfl (by rw [hd1, if_pos g7, if_pos cp])
        exact j63 _ hD23
      · skip
        refine r_iload_n ok dL_isHarp_55 5 rfl rfl ?_
        refine r_iconst ok (nI 1) dL_isHarp_56 (by rfl) ?_
        refine r_iaddN ok dL_isHarp_57 ?_
        refine r_goto ok 63 dL_isHarp_58 (by decide) ?_
        refine zW.to (st' := [.int d1]) ?_ rfl rfl (by rw [hd1, if_pos g7, if_neg cp])
        exact j63 _ hD23
