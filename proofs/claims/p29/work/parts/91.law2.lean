/-! what is told together -/
theorem zPaid_is {c : zCl} {P E : Int} {f : Nat → Int32} (h : zAv c P E) (hf : f 0 = Int32.ofInt P) : lsum c.ac 6 = f 0 - lsum (fun m => c.ps m + c.pp m + c.pu m) 6 := by
  have e := h.2.2.1
  rw [hf, ← e, Int32.ofInt_add, Int32.ofInt_add, Int32.ofInt_add, lsum_add (fun m => c.ps m + c.pp m) c.pu, lsum_add c.ps c.pp]
  unfold iS
  rw [← lsum_ofInt, ← lsum_ofInt, ← lsum_ofInt, ← lsum_ofInt]
  grind
theorem zAway_is (c : zCl) : lsum (fun m => lsum (zUwT c.cn c.pi m) c.un) 6 = lsum (fun p => zPie (c.cn (c.pi p))) c.un := (lsum_swap (fun m p => zUwT c.cn c.pi m p) 6 c.un).symm
theorem yBest_le {c : zCl} {s : Nat → Int32} (hO : zOc c s) : zBest s 63 < 64 := by
  have h1 := (zBp_best (zRw_of hO.2.1) hO.2.2.1 zD0).1
  have h2 := zBp_le c zD0 31
  omega
theorem zMin_is (s : Nat → Int32) {j : Nat} (hj : j < 64) : ¬ zPt2 s (nI j) < zPt2 s (nI (zBest s 63)) := Int32.not_lt.mpr ((zBest_is s 63 (Nat.le_refl _)).2.2 j (by omega) (by omega))
theorem zDue_pos {c : zCl} {s : Nat → Int32} (hO : zOc c s) {p : Nat} (hp : p < c.un) : ¬ c.du (c.pi p) - c.dy ≤ 0 := by
  obtain ⟨-, -, h1, h2, -⟩ := hO.2.2.2 p hp
  obtain ⟨d1, d2⟩ := hO.2.2.1.2.1
  have e : (0 : Int32).toInt = 0 := rfl
  have h3 : (c.du (c.pi p)).toInt ≤ c.dy.toInt + 50 := by split at h2 <;> omega
  intro z
  have := Int32.le_iff_toInt_le.mp z
  rw [zg_sub (by omega) (by omega)] at this
  omega
theorem zPie_nn {c : zCl} {s : Nat → Int32} (hO : zOc c s) {p : Nat} (hp : p < c.un) : ¬ zPie (c.cn (c.pi p)) < 0 := by
  obtain ⟨h1, -⟩ := hO.2.2.2 p hp
  refine zNlt ?_
  have := zg_lsum (f := zPieT (c.cn (c.pi p))) (B := 160) (by omega) 6 (by omega) (fun m hm => zRg_le (zg_lsum (f := c.cn (c.pi p) m) (B := 20) (by omega) 8 (by omega) (fun g hg => h1 m hm g hg)) (by omega))
  exact this.1
theorem zNgt {v : Int32} {h : Int} {n : Nat} (h1 : v.toInt ≤ h) (h2 : h ≤ n ∧ n < 2 ^ 31) : ¬ nI n < v := fun z => by
  have := Int32.lt_iff_toInt_lt.mp z
  rw [nI_toInt (by omega)] at this
  omega
set_option maxHeartbeats 4000000 in
set_option maxRecDepth 100000 in
theorem yl_holds (l : Launch) {G : zG} {M M0 : zM} {a : Nat} {N : Nat} {c : zCl} {hc sc : Nat → zCl} {kn : Nat} {hi : Nat → Nat} {sv : Nat → Bool} {sg : Nat → Int32} {pl : Int32} {s : Nat → Int32} {b : Nat} {x : Int32} {f : Nat → Int32} {Pd Ed : Int} (hO : zOc c s) (hA : zAv c Pd Ed) (hb : b < a ∨ a + 672 ≤ b) (hf : M b = some (zI (G.2.1 0) 1 f)) (hf0 : f 0 = Int32.ofInt Pd) (h0 : zDm G M a c hc sc kn hi sv sg pl M0) : zC l G yL_holds cL_holds 13 (some .boolean) 7 155 0 0 [.ref a, .ref b, .int (x)] M0 N (zPq (some (.int 1)) (zDm G M a c hc sc kn hi sv sg pl)) := by
  refine zC.of (by decide +kernel) (Nat.le_of_ble_eq_true rfl) ?_
  intro K hKl ok
  subst hKl
  have hw := zRw_of hO.2.1
  have hI := hO.2.2.1
  show zW K G 13 _ 0 0 _ N 0 [(0, .ref a), (1, .ref b), (2, .int (x))] []
  have hend : ∀ (M8 : zM), zDm G M a c hc sc kn hi sv sg pl M8 → zW K G 13 (zQ K G (N + 0) 0 0 (zPq (some (.int 1)) (zDm G M a c hc sc kn hi sv sg pl))) 0 0 M8 N 341 [(10, .int (nI (c.un))), (9, .int (lsum (fun p => zPie (c.cn (c.pi p))) c.un)), (8, .int (nI 1)), (7, .int (lsum (fun m => lsum (zUwT c.cn c.pi m) c.un) 6)), (6, .int (lsum c.lo 6)), (5, .int (lsum c.pu 6)), (4, .int (lsum (fun m => c.ps m + c.pp m + c.pu m) 6)), (3, .int (lsum c.ac 6)), (2, .int (x)), (1, .ref b), (0, .ref a)] [] := by
    intro M8 hM8
    refine r_aload_n ok dL_holds_341 10 rfl rfl ?_
    refine r_iconst ok (nI 0) dL_holds_342 (by rfl) ?_
    obtain ⟨fs4, hM5⟩ := zDm_o hM8
    obtain ⟨M1, hC2, hD3⟩ := q_best (r := nI (zBest s 63)) K.2.1 N hO hM8 0 (by omega) rfl
    refine r_cV1 ok [] mi_X5_bestParting ci_X5 ml_L_78 im_X5_bestParting se_X5_bestParting dL_holds_343 hC2 hM5 rfl rfl ⟨Nat.le_of_ble_eq_true rfl, Nat.le_of_ble_eq_true rfl⟩ (Nat.le_of_ble_eq_true rfl) ⟨Nat.zero_le _, Nat.zero_le _⟩ ?_
    refine r_istore ok [(10, .int (nI (zBest s 63))), (9, .int (lsum (fun p => zPie (c.cn (c.pi p))) c.un)), (8, .int (nI 1)), (7, .int (lsum (fun m => lsum (zUwT c.cn c.pi m) c.un) 6)), (6, .int (lsum c.lo 6)), (5, .int (lsum c.pu 6)), (4, .int (lsum (fun m => c.ps m + c.pp m + c.pu m) 6)), (3, .int (lsum c.ac 6)), (2, .int (x)), (1, .ref b), (0, .ref a)] dL_holds_346 (by decide) rfl ?_
    refine r_iload ok dL_holds_348 2 rfl ?_
    refine r_if_eqN ok 392 (by omega) dL_holds_350 (by decide) (fun c => absurd c (by omega)) (fun _ => ?_)
    refine r_aload_n ok dL_holds_353 10 rfl rfl ?_
    refine r_iconst ok (nI 1) dL_holds_354 (by rfl) ?_
    obtain ⟨fs9, hM10⟩ := zDm_o hD3
    obtain ⟨M6, hC7, hD8⟩ := q_best (r := zPt2 s (nI (zBest s 63))) K.2.1 N hO hD3 1 (by omega) rfl
    refine r_cV1 ok [] mi_X5_bestParting ci_X5 ml_L_78 im_X5_bestParting se_X5_bestParting dL_holds_355 hC7 hM10 rfl rfl ⟨Nat.le_of_ble_eq_true rfl, Nat.le_of_ble_eq_true rfl⟩ (Nat.le_of_ble_eq_true rfl) ⟨Nat.zero_le _, Nat.zero_le _⟩ ?_
    refine r_aload_n ok dL_holds_358 10 rfl rfl ?_
    refine r_iload ok dL_holds_359 0 rfl ?_
    refine r_cSq ok [.int (zPt2 s (nI (zBest s 63)))] mi_L_parted ml_L_81 sm_L_parted dL_holds_361 (yl_parted K.2.1 hO hD8 (yBest_le hO)) rfl rfl ⟨Nat.le_of_ble_eq_true rfl, Nat.le_of_ble_eq_true rfl⟩ (Nat.le_of_ble_eq_true rfl) ⟨Nat.zero_le _, Nat.zero_le _⟩ (fun M11 hD12 => ?_)
    refine r_icmp_ne ok 392 dL_holds_364 (by decide) (fun c => (c rfl).elim) (fun _ => ?_)
    refine r_aload_n ok dL_holds_367 10 rfl rfl ?_
    refine r_iload_n ok dL_holds_368 8 rfl rfl ?_
    refine r_bipush ok (nI 6) dL_holds_369 (by rfl) ?_
    refine r_ishr ok dL_holds_371 ?_
    refine r_bipush ok (nI 64) dL_holds_372 (by rfl) ?_
    refine r_cS1 ok [.ref a] mi_L_low ml_L_9 sm_L_low dL_holds_374 (yl_low K.2.1 G M11 N (x >>> (nI 6 &&& 31)) (n := 64) (by omega) (by omega)) rfl rfl ⟨Nat.le_of_ble_eq_true rfl, Nat.le_of_ble_eq_true rfl⟩ (Nat.le_of_ble_eq_true rfl) ⟨Nat.zero_le _, Nat.zero_le _⟩ ?_
    refine r_cSq ok [] mi_L_parted ml_L_81 sm_L_parted dL_holds_377 (yl_parted K.2.1 hO hD12 (zLow_lt _ (by omega))) rfl rfl ⟨Nat.le_of_ble_eq_true rfl, Nat.le_of_ble_eq_true rfl⟩ (Nat.le_of_ble_eq_true rfl) ⟨Nat.zero_le _, Nat.zero_le _⟩ (fun M13 hD14 => ?_)
    refine r_aload_n ok dL_holds_380 10 rfl rfl ?_
    refine r_iconst ok (nI 1) dL_holds_381 (by rfl) ?_
    obtain ⟨fs18, hM19⟩ := zDm_o hD14
    obtain ⟨M15, hC16, hD17⟩ := q_best (r := zPt2 s (nI (zBest s 63))) K.2.1 N hO hD14 1 (by omega) rfl
    refine r_cV1 ok [.int (zPt2 s (nI (zLow (x >>> (nI 6 &&& 31)) 64)))] mi_X5_bestParting ci_X5 ml_L_78 im_X5_bestParting se_X5_bestParting dL_holds_382 hC16 hM19 rfl rfl ⟨Nat.le_of_ble_eq_true rfl, Nat.le_of_ble_eq_true rfl⟩ (Nat.le_of_ble_eq_true rfl) ⟨Nat.zero_le _, Nat.zero_le _⟩ ?_
    refine r_icmp_lt ok 392 dL_holds_385 (by decide) (fun c => absurd c (zMin_is s (zLow_lt _ (by omega)))) (fun _ => ?_)
    refine r_iconst ok (nI 1) dL_holds_388 (by rfl) ?_
    refine r_goto ok 393 dL_holds_389 (by decide) ?_
    refine r_istore ok [(8, .int (nI 1)), (10, .int (nI (zBest s 63))), (9, .int (lsum (fun p => zPie (c.cn (c.pi p))) c.un)), (7, .int (lsum (fun m => lsum (zUwT c.cn c.pi m) c.un) 6)), (6, .int (lsum c.lo 6)), (5, .int (lsum c.pu 6)), (4, .int (lsum (fun m => c.ps m + c.pp m + c.pu m) 6)), (3, .int (lsum c.ac 6)), (2, .int (x)), (1, .ref b), (0, .ref a)] dL_holds_393 (by decide) rfl ?_
    refine r_iload ok dL_holds_395 0 rfl ?_
    refine r_if_eqN ok 469 (by omega) dL_holds_397 (by decide) (fun c => absurd c (by omega)) (fun _ => ?_)
    refine r_iload_n ok dL_holds_400 7 rfl rfl ?_
    refine r_aload_n ok dL_holds_401 10 rfl rfl ?_
    refine r_bipush ok (nI 10) dL_holds_402 (by rfl) ?_
    obtain ⟨fs23, hM24⟩ := zDm_o hD17
    obtain ⟨M20, hC21, hD22⟩ := q_count (r := lsum c.ac 6) K.2.1 N hO hD17 10 (by omega) rfl
    refine r_cV1 ok [.int (lsum c.ac 6)] mi_X5_count ci_X5 ml_L_53 im_X5_count se_X5_count dL_holds_404 hC21 hM24 rfl rfl ⟨Nat.le_of_ble_eq_true rfl, Nat.le_of_ble_eq_true rfl⟩ (Nat.le_of_ble_eq_true rfl) ⟨Nat.zero_le _, Nat.zero_le _⟩ ?_
    refine r_icmp_ne ok 469 dL_holds_407 (by decide) (fun c => (c rfl).elim) (fun _ => ?_)
    refine r_iload_n ok dL_holds_410 7 rfl rfl ?_
    refine r_aload_n ok dL_holds_411 9 rfl rfl ?_
    refine r_iconst ok (nI 0) dL_holds_412 (by rfl) ?_
    have hpd : M20 b = some (zI (G.2.1 0) 1 f) := by rw [zDm_out hD22 hb]; exact hf
    refine r_ialdN ok (by omega) (by omega) dL_holds_413 hpd ?_
    refine r_iload ok dL_holds_414 6 rfl ?_
    refine r_isub ok dL_holds_416 ?_
    refine r_icmp_ne ok 469 dL_holds_417 (by decide) (fun c => (c (zPaid_is hA hf0)).elim) (fun _ => ?_)
    refine r_iload ok dL_holds_420 5 rfl ?_
    refine r_aload_n ok dL_holds_422 10 rfl rfl ?_
    refine r_bipush ok (nI 13) dL_holds_423 (by rfl) ?_
    obtain ⟨fs28, hM29⟩ := zDm_o hD22
    obtain ⟨M25, hC26, hD27⟩ := q_count (r := lsum c.pu 6) K.2.1 N hO hD22 13 (by omega) rfl
    refine r_cV1 ok [.int (lsum c.pu 6)] mi_X5_count ci_X5 ml_L_53 im_X5_count se_X5_count dL_holds_425 hC26 hM29 rfl rfl ⟨Nat.le_of_ble_eq_true rfl, Nat.le_of_ble_eq_true rfl⟩ (Nat.le_of_ble_eq_true rfl) ⟨Nat.zero_le _, Nat.zero_le _⟩ ?_
    refine r_icmp_ne ok 469 dL_holds_428 (by decide) (fun c => (c rfl).elim) (fun _ => ?_)
    refine r_iload ok dL_holds_431 4 rfl ?_
    refine r_aload_n ok dL_holds_433 10 rfl rfl ?_
    refine r_bipush ok (nI 14) dL_holds_434 (by rfl) ?_
    obtain ⟨fs33, hM34⟩ := zDm_o hD27
    obtain ⟨M30, hC31, hD32⟩ := q_count (r := lsum c.lo 6) K.2.1 N hO hD27 14 (by omega) rfl
    refine r_cV1 ok [.int (lsum c.lo 6)] mi_X5_count ci_X5 ml_L_53 im_X5_count se_X5_count dL_holds_436 hC31 hM34 rfl rfl ⟨Nat.le_of_ble_eq_true rfl, Nat.le_of_ble_eq_true rfl⟩ (Nat.le_of_ble_eq_true rfl) ⟨Nat.zero_le _, Nat.zero_le _⟩ ?_
    refine r_icmp_ne ok 469 dL_holds_439 (by decide) (fun c => (c rfl).elim) (fun _ => ?_)
    refine r_iload ok dL_holds_442 3 rfl ?_
    refine r_iload ok dL_holds_444 2 rfl ?_
    refine r_icmp_ne ok 469 dL_holds_446 (by decide) (fun c => absurd (zAway_is _) c) (fun _ => ?_)
    refine r_aload_n ok dL_holds_449 10 rfl rfl ?_
    refine r_aload_n ok dL_holds_450 10 rfl rfl ?_
    refine r_bipush ok (nI 11) dL_holds_451 (by rfl) ?_
    obtain ⟨fs38, hM39⟩ := zDm_o hD32
    obtain ⟨M35, hC36, hD37⟩ := q_count (r := nI (c.un)) K.2.1 N hO hD32 11 (by omega) rfl
    refine r_cV1 ok [.ref a] mi_X5_count ci_X5 ml_L_53 im_X5_count se_X5_count dL_holds_453 hC36 hM39 rfl rfl ⟨Nat.le_of_ble_eq_true rfl, Nat.le_of_ble_eq_true rfl⟩ (Nat.le_of_ble_eq_true rfl) ⟨Nat.zero_le _, Nat.zero_le _⟩ ?_
    refine r_iconst ok (nI 0) dL_holds_456 (by rfl) ?_
    obtain ⟨fs43, hM44⟩ := zDm_o hD37
    obtain ⟨M40, hC41, hD42⟩ := q_noparcel K.2.1 N hO hD37 0
    refine r_cV1 ok [] mi_X5_parcel ci_X5 ml_L_75 im_X5_parcel se_X5_parcel dL_holds_457 hC41 hM44 rfl rfl ⟨Nat.le_of_ble_eq_true rfl, Nat.le_of_ble_eq_true rfl⟩ (Nat.le_of_ble_eq_true rfl) ⟨Nat.zero_le _, Nat.zero_le _⟩ ?_
    refine r_ldc ok ck_L_85 dL_holds_460 ?_
    refine r_icmp_ne ok 469 dL_holds_462 (by decide) (fun c => (c rfl).elim) (fun _ => ?_)
    refine r_iconst ok (nI 1) dL_holds_465 (by rfl) ?_
    refine r_goto ok 470 dL_holds_466 (by decide) ?_
    exact r_zret ok dL_holds_470 (by rfl) rfl ⟨rfl, hD42⟩
  have hpar : ∀ (r p : Nat) (M9 : zM), p ≤ c.un → r = c.un - p → zDm G M a c hc sc kn hi sv sg pl M9 → zW K G 13 (zQ K G (N + 0) 0 0 (zPq (some (.int 1)) (zDm G M a c hc sc kn hi sv sg pl))) 0 0 M9 N 280 [(10, .int (nI p)), (9, .int (lsum (fun p => zPie (c.cn (c.pi p))) p)), (8, .int (nI 1)), (7, .int (lsum (fun m => lsum (zUwT c.cn c.pi m) c.un) 6)), (6, .int (lsum c.lo 6)), (5, .int (lsum c.pu 6)), (4, .int (lsum (fun m => c.ps m + c.pp m + c.pu m) 6)), (3, .int (lsum c.ac 6)), (2, .int (x)), (1, .ref b), (0, .ref a)] [] := by
    intro r
    induction r with
    | zero =>
      intro p M9 hpu hr hM9
      obtain rfl : p = c.un := by omega
      have hu5 := hO.1.1
      refine r_iload ok dL_holds_280 0 rfl ?_
      refine r_aload_n ok dL_holds_282 10 rfl rfl ?_
      refine r_bipush ok (nI 11) dL_holds_283 (by rfl) ?_
      obtain ⟨fs48, hM49⟩ := zDm_o hM9
      obtain ⟨M45, hC46, hD47⟩ := q_count (r := nI (c.un)) K.2.1 N hO hM9 11 (by omega) rfl
      refine r_cV1 ok [.int (nI (c.un))] mi_X5_count ci_X5 ml_L_53 im_X5_count se_X5_count dL_holds_285 hC46 hM49 rfl rfl ⟨Nat.le_of_ble_eq_true rfl, Nat.le_of_ble_eq_true rfl⟩ (Nat.le_of_ble_eq_true rfl) ⟨Nat.zero_le _, Nat.zero_le _⟩ ?_
      refine r_icmp_geN ok 341 (by omega) (by omega) dL_holds_288 (by decide) (fun _ => ?_) (fun c => absurd c (by omega))
      exact hend _ hD47
    | succ r ih =>
      intro p M9 hpu hr hM9
      have hp : p < c.un := by omega
      have hu5 := hO.1.1
      refine r_iload ok dL_holds_280 0 rfl ?_
      refine r_aload_n ok dL_holds_282 10 rfl rfl ?_
      refine r_bipush ok (nI 11) dL_holds_283 (by rfl) ?_
      obtain ⟨fs53, hM54⟩ := zDm_o hM9
      obtain ⟨M50, hC51, hD52⟩ := q_count (r := nI (c.un)) K.2.1 N hO hM9 11 (by omega) rfl
      refine r_cV1 ok [.int (nI p)] mi_X5_count ci_X5 ml_L_53 im_X5_count se_X5_count dL_holds_285 hC51 hM54 rfl rfl ⟨Nat.le_of_ble_eq_true rfl, Nat.le_of_ble_eq_true rfl⟩ (Nat.le_of_ble_eq_true rfl) ⟨Nat.zero_le _, Nat.zero_le _⟩ ?_
      refine r_icmp_geN ok 341 (by omega) (by omega) dL_holds_288 (by decide) (fun c => absurd c (by omega)) (fun _ => ?_)
      refine r_iload ok dL_holds_291 1 rfl ?_
      refine r_aload_n ok dL_holds_293 10 rfl rfl ?_
      refine r_iload ok dL_holds_294 0 rfl ?_
      refine r_iconst ok (nI 0) dL_holds_296 (by rfl) ?_
      obtain ⟨fs58, hM59⟩ := zDm_o hD52
      obtain ⟨M55, hC56, hD57⟩ := q_parcel (r := zPie (c.cn (c.pi p))) K.2.1 N hO hD52 hp 0 (by omega) rfl
      refine r_cV1 ok [.int (lsum (fun p => zPie (c.cn (c.pi p))) p)] mi_X5_parcel ci_X5 ml_L_75 im_X5_parcel se_X5_parcel dL_holds_297 hC56 hM59 rfl rfl ⟨Nat.le_of_ble_eq_true rfl, Nat.le_of_ble_eq_true rfl⟩ (Nat.le_of_ble_eq_true rfl) ⟨Nat.zero_le _, Nat.zero_le _⟩ ?_
      refine r_iadd ok dL_holds_300 ?_
      refine r_istore ok [(9, .int (lsum (fun p => zPie (c.cn (c.pi p))) (p + 1))), (10, .int (nI p)), (8, .int (nI 1)), (7, .int (lsum (fun m => lsum (zUwT c.cn c.pi m) c.un) 6)), (6, .int (lsum c.lo 6)), (5, .int (lsum c.pu 6)), (4, .int (lsum (fun m => c.ps m + c.pp m + c.pu m) 6)), (3, .int (lsum c.ac 6)), (2, .int (x)), (1, .ref b), (0, .ref a)] dL_holds_301 (by decide) rfl ?_
      refine r_iload ok dL_holds_303 2 rfl ?_
      refine r_if_eqN ok 332 (by omega) dL_holds_305 (by decide) (fun c => absurd c (by omega)) (fun _ => ?_)
      refine r_aload_n ok dL_holds_308 10 rfl rfl ?_
      refine r_iload ok dL_holds_309 1 rfl ?_
      refine r_iconst ok (nI 3) dL_holds_311 (by rfl) ?_
      obtain ⟨fs63, hM64⟩ := zDm_o hD57
      obtain ⟨M60, hC61, hD62⟩ := q_parcel (r := c.du (c.pi p) - c.dy) K.2.1 N hO hD57 hp 3 (by omega) rfl
      refine r_cV1 ok [] mi_X5_parcel ci_X5 ml_L_75 im_X5_parcel se_X5_parcel dL_holds_312 hC61 hM64 rfl rfl ⟨Nat.le_of_ble_eq_true rfl, Nat.le_of_ble_eq_true rfl⟩ (Nat.le_of_ble_eq_true rfl) ⟨Nat.zero_le _, Nat.zero_le _⟩ ?_
      refine r_if_le ok 332 dL_holds_315 (by decide) (fun c => absurd c (zDue_pos hO hp)) (fun _ => ?_)
      refine r_aload_n ok dL_holds_318 10 rfl rfl ?_
      refine r_iload ok dL_holds_319 1 rfl ?_
      refine r_iconst ok (nI 0) dL_holds_321 (by rfl) ?_
      obtain ⟨fs68, hM69⟩ := zDm_o hD62
      obtain ⟨M65, hC66, hD67⟩ := q_parcel (r := zPie (c.cn (c.pi p))) K.2.1 N hO hD62 hp 0 (by omega) rfl
      refine r_cV1 ok [] mi_X5_parcel ci_X5 ml_L_75 im_X5_parcel se_X5_parcel dL_holds_322 hC66 hM69 rfl rfl ⟨Nat.le_of_ble_eq_true rfl, Nat.le_of_ble_eq_true rfl⟩ (Nat.le_of_ble_eq_true rfl) ⟨Nat.zero_le _, Nat.zero_le _⟩ ?_
      refine r_if_lt ok 332 dL_holds_325 (by decide) (fun c => absurd c (zPie_nn hO hp)) (fun _ => ?_)
      refine r_iconst ok (nI 1) dL_holds_328 (by rfl) ?_
      refine r_goto ok 333 dL_holds_329 (by decide) ?_
      refine r_istore ok [(8, .int (nI 1)), (9, .int (lsum (fun p => zPie (c.cn (c.pi p))) (p + 1))), (10, .int (nI p)), (7, .int (lsum (fun m => lsum (zUwT c.cn c.pi m) c.un) 6)), (6, .int (lsum c.lo 6)), (5, .int (lsum c.pu 6)), (4, .int (lsum (fun m => c.ps m + c.pp m + c.pu m) 6)), (3, .int (lsum c.ac 6)), (2, .int (x)), (1, .ref b), (0, .ref a)] dL_holds_333 (by decide) rfl ?_
      refine r_iincN ok (c := 1) [(10, .int (nI (p + 1))), (8, .int (nI 1)), (9, .int (lsum (fun p => zPie (c.cn (c.pi p))) (p + 1))), (7, .int (lsum (fun m => lsum (zUwT c.cn c.pi m) c.un) 6)), (6, .int (lsum c.lo 6)), (5, .int (lsum c.pu 6)), (4, .int (lsum (fun m => c.ps m + c.pp m + c.pu m) 6)), (3, .int (lsum c.ac 6)), (2, .int (x)), (1, .ref b), (0, .ref a)] dL_holds_335 2 rfl (by rfl) (by decide) rfl ?_
      refine r_goto ok 280 dL_holds_338 (by decide) ?_
      refine zW.forget ?_ [0, 2, 1, 3, 4, 5, 6, 7, 8, 9, 10] rfl
      exact ih (p + 1) _ (by omega) (by omega) hD67
  have hmem : ∀ (r m : Nat) (M9 : zM), m ≤ 6 → r = 6 - m → zDm G M a c hc sc kn hi sv sg pl M9 → zW K G 13 (zQ K G (N + 0) 0 0 (zPq (some (.int 1)) (zDm G M a c hc sc kn hi sv sg pl))) 0 0 M9 N 46 [(9, .int (nI m)), (8, .int (nI 1)), (7, .int (lsum (fun m => lsum (zUwT c.cn c.pi m) c.un) m)), (6, .int (lsum c.lo m)), (5, .int (lsum c.pu m)), (4, .int (lsum (fun m => c.ps m + c.pp m + c.pu m) m)), (3, .int (lsum c.ac m)), (2, .int (x)), (1, .ref b), (0, .ref a)] [] := by
    intro r
    induction r with
    | zero =>
      intro m M9 hm6 hr hM9
      obtain rfl : m = 6 := by omega
      refine r_iload ok dL_holds_46 0 rfl ?_
      refine r_bipush ok (nI 6) dL_holds_48 (by rfl) ?_
      refine r_icmp_geN ok 274 (by omega) (by omega) dL_holds_50 (by decide) (fun _ => ?_) (fun c => absurd c (by omega))
      refine r_iconst ok (lsum (fun p => zPie (c.cn (c.pi p))) 0) dL_holds_274 (by rfl) ?_
      refine r_istore ok [(9, .int (lsum (fun p => zPie (c.cn (c.pi p))) 0)), (8, .int (nI 1)), (7, .int (lsum (fun m => lsum (zUwT c.cn c.pi m) c.un) 6)), (6, .int (lsum c.lo 6)), (5, .int (lsum c.pu 6)), (4, .int (lsum (fun m => c.ps m + c.pp m + c.pu m) 6)), (3, .int (lsum c.ac 6)), (2, .int (x)), (1, .ref b), (0, .ref a)] dL_holds_275 (by decide) rfl ?_
      refine r_iconst ok (nI 0) dL_holds_277 (by rfl) ?_
      refine r_istore ok [(10, .int (nI 0)), (9, .int (lsum (fun p => zPie (c.cn (c.pi p))) 0)), (8, .int (nI 1)), (7, .int (lsum (fun m => lsum (zUwT c.cn c.pi m) c.un) 6)), (6, .int (lsum c.lo 6)), (5, .int (lsum c.pu 6)), (4, .int (lsum (fun m => c.ps m + c.pp m + c.pu m) 6)), (3, .int (lsum c.ac 6)), (2, .int (x)), (1, .ref b), (0, .ref a)] dL_holds_278 (by decide) rfl ?_
      refine zW.forget ?_ [0, 1, 2, 3, 4, 5, 6, 7, 8, 9, 10] rfl
      exact hpar c.un 0 _ (Nat.zero_le _) rfl hM9
    | succ r ih =>
      intro m M9 hm6 hr hM9
      have hm : m < 6 := by omega
      have hgend : ∀ (M7 : zM), zDm G M a c hc sc kn hi sv sg pl M7 → zW K G 13 (zQ K G (N + 0) 0 0 (zPq (some (.int 1)) (zDm G M a c hc sc kn hi sv sg pl))) 0 0 M7 N 232 [(12, .int (nI 8)), (11, .int (lsum (c.wa m) 8)), (10, .int (lsum (c.sp m) 8)), (9, .int (nI m)), (8, .int (nI 1)), (7, .int (lsum (fun m => lsum (zUwT c.cn c.pi m) c.un) (m + 1))), (6, .int (lsum c.lo (m + 1))), (5, .int (lsum c.pu (m + 1))), (4, .int (lsum (fun m => c.ps m + c.pp m + c.pu m) (m + 1))), (3, .int (lsum c.ac (m + 1))), (2, .int (x)), (1, .ref b), (0, .ref a)] [] := by
        intro M7 hM7
        refine r_iload ok dL_holds_232 4 rfl ?_
        refine r_if_eqN ok 265 (by omega) dL_holds_234 (by decide) (fun c => absurd c (by omega)) (fun _ => ?_)
        refine r_iload ok dL_holds_237 2 rfl ?_
        refine r_aload_n ok dL_holds_239 12 rfl rfl ?_
        refine r_iload ok dL_holds_240 3 rfl ?_
        refine r_iconst ok (nI 2) dL_holds_242 (by rfl) ?_
        obtain ⟨fs73, hM74⟩ := zDm_o hM7
        obtain ⟨M70, hC71, hD72⟩ := q_member (r := lsum (c.sp m) 8) K.2.1 N hO hM7 hm 2 (by omega) rfl
        refine r_cV1 ok [.int (lsum (c.sp m) 8)] mi_X5_member ci_X5 ml_L_59 im_X5_member se_X5_member dL_holds_243 hC71 hM74 rfl rfl ⟨Nat.le_of_ble_eq_true rfl, Nat.le_of_ble_eq_true rfl⟩ (Nat.le_of_ble_eq_true rfl) ⟨Nat.zero_le _, Nat.zero_le _⟩ ?_
        refine r_icmp_ne ok 265 dL_holds_246 (by decide) (fun c => (c rfl).elim) (fun _ => ?_)
        refine r_iload ok dL_holds_249 1 rfl ?_
        refine r_aload_n ok dL_holds_251 12 rfl rfl ?_
        refine r_iload ok dL_holds_252 3 rfl ?_
        refine r_iconst ok (nI 3) dL_holds_254 (by rfl) ?_
        obtain ⟨fs78, hM79⟩ := zDm_o hD72
        obtain ⟨M75, hC76, hD77⟩ := q_member (r := lsum (c.wa m) 8) K.2.1 N hO hD72 hm 3 (by omega) rfl
        refine r_cV1 ok [.int (lsum (c.wa m) 8)] mi_X5_member ci_X5 ml_L_59 im_X5_member se_X5_member dL_holds_255 hC76 hM79 rfl rfl ⟨Nat.le_of_ble_eq_true rfl, Nat.le_of_ble_eq_true rfl⟩ (Nat.le_of_ble_eq_true rfl) ⟨Nat.zero_le _, Nat.zero_le _⟩ ?_
        refine r_icmp_ne ok 265 dL_holds_258 (by decide) (fun c => (c rfl).elim) (fun _ => ?_)
        refine r_iconst ok (nI 1) dL_holds_261 (by rfl) ?_
        refine r_goto ok 266 dL_holds_262 (by decide) ?_
        refine r_istore ok [(8, .int (nI 1)), (12, .int (nI 8)), (11, .int (lsum (c.wa m) 8)), (10, .int (lsum (c.sp m) 8)), (9, .int (nI m)), (7, .int (lsum (fun m => lsum (zUwT c.cn c.pi m) c.un) (m + 1))), (6, .int (lsum c.lo (m + 1))), (5, .int (lsum c.pu (m + 1))), (4, .int (lsum (fun m => c.ps m + c.pp m + c.pu m) (m + 1))), (3, .int (lsum c.ac (m + 1))), (2, .int (x)), (1, .ref b), (0, .ref a)] dL_holds_266 (by decide) rfl ?_
        refine r_iincN ok (c := 1) [(9, .int (nI (m + 1))), (8, .int (nI 1)), (12, .int (nI 8)), (11, .int (lsum (c.wa m) 8)), (10, .int (lsum (c.sp m) 8)), (7, .int (lsum (fun m => lsum (zUwT c.cn c.pi m) c.un) (m + 1))), (6, .int (lsum c.lo (m + 1))), (5, .int (lsum c.pu (m + 1))), (4, .int (lsum (fun m => c.ps m + c.pp m + c.pu m) (m + 1))), (3, .int (lsum c.ac (m + 1))), (2, .int (x)), (1, .ref b), (0, .ref a)] dL_holds_268 4 rfl (by rfl) (by decide) rfl ?_
        refine r_goto ok 46 dL_holds_271 (by decide) ?_
        refine zW.forget ?_ [0, 1, 5, 6, 7, 8, 9, 10, 11, 12] rfl
        exact ih (m + 1) _ (by omega) (by omega) hD77
      have hgau : ∀ (q g : Nat) (M6 : zM), g ≤ 8 → q = 8 - g → zDm G M a c hc sc kn hi sv sg pl M6 → zW K G 13 (zQ K G (N + 0) 0 0 (zPq (some (.int 1)) (zDm G M a c hc sc kn hi sv sg pl))) 0 0 M6 N 140 [(12, .int (nI g)), (11, .int (lsum (c.wa m) g)), (10, .int (lsum (c.sp m) g)), (9, .int (nI m)), (8, .int (nI 1)), (7, .int (lsum (fun m => lsum (zUwT c.cn c.pi m) c.un) (m + 1))), (6, .int (lsum c.lo (m + 1))), (5, .int (lsum c.pu (m + 1))), (4, .int (lsum (fun m => c.ps m + c.pp m + c.pu m) (m + 1))), (3, .int (lsum c.ac (m + 1))), (2, .int (x)), (1, .ref b), (0, .ref a)] [] := by
        intro q
        induction q with
        | zero =>
          intro g M6 hg8 hq hM6
          obtain rfl : g = 8 := by omega
          refine r_iload ok dL_holds_140 0 rfl ?_
          refine r_bipush ok (nI 8) dL_holds_142 (by rfl) ?_
          refine r_icmp_geN ok 232 (by omega) (by omega) dL_holds_144 (by decide) (fun _ => ?_) (fun c => absurd c (by omega))
          exact hgend _ hM6
        | succ q ihg =>
          intro g M6 hg8 hq hM6
          have hg : g < 8 := by omega
          obtain ⟨hsp, hwa⟩ := hI.2.2.2.2 m hm g hg
          refine r_iload ok dL_holds_140 0 rfl ?_
          refine r_bipush ok (nI 8) dL_holds_142 (by rfl) ?_
          refine r_icmp_geN ok 232 (by omega) (by omega) dL_holds_144 (by decide) (fun c => absurd c (by omega)) (fun _ => ?_)
          refine r_iload ok dL_holds_147 4 rfl ?_
          refine r_if_eqN ok 232 (by omega) dL_holds_149 (by decide) (fun c => absurd c (by omega)) (fun _ => ?_)
          refine r_iload ok dL_holds_152 2 rfl ?_
          refine r_aload_n ok dL_holds_154 12 rfl rfl ?_
          refine r_iload ok dL_holds_155 3 rfl ?_
          refine r_iload ok dL_holds_157 0 rfl ?_
          refine r_iconst ok (zb false) dL_holds_159 (by rfl) ?_
          obtain ⟨fs83, hM84⟩ := zDm_o hM6
          obtain ⟨M80, hC81, hD82⟩ := q_strings (r := c.sp m g) K.2.1 N hO hM6 hm hg false rfl
          refine r_cV1 ok [.int (lsum (c.sp m) g)] mi_X5_strings ci_X5 ml_L_63 im_X5_strings se_X5_strings dL_holds_160 hC81 hM84 rfl rfl ⟨Nat.le_of_ble_eq_true rfl, Nat.le_of_ble_eq_true rfl⟩ (Nat.le_of_ble_eq_true rfl) ⟨Nat.zero_le _, Nat.zero_le _⟩ ?_
          refine r_iadd ok dL_holds_163 ?_
          refine r_istore ok [(10, .int (lsum (c.sp m) (g + 1))), (12, .int (nI g)), (11, .int (lsum (c.wa m) g)), (9, .int (nI m)), (8, .int (nI 1)), (7, .int (lsum (fun m => lsum (zUwT c.cn c.pi m) c.un) (m + 1))), (6, .int (lsum c.lo (m + 1))), (5, .int (lsum c.pu (m + 1))), (4, .int (lsum (fun m => c.ps m + c.pp m + c.pu m) (m + 1))), (3, .int (lsum c.ac (m + 1))), (2, .int (x)), (1, .ref b), (0, .ref a)] dL_holds_164 (by decide) rfl ?_
          refine r_iload ok dL_holds_166 2 rfl ?_
          refine r_aload_n ok dL_holds_168 12 rfl rfl ?_
          refine r_iload ok dL_holds_169 3 rfl ?_
          refine r_iload ok dL_holds_171 1 rfl ?_
          refine r_iconst ok (zb true) dL_holds_173 (by rfl) ?_
          obtain ⟨fs88, hM89⟩ := zDm_o hD82
          obtain ⟨M85, hC86, hD87⟩ := q_strings (r := c.wa m g) K.2.1 N hO hD82 hm hg true rfl
          refine r_cV1 ok [.int (lsum (c.wa m) g)] mi_X5_strings ci_X5 ml_L_63 im_X5_strings se_X5_strings dL_holds_174 hC86 hM89 rfl rfl ⟨Nat.le_of_ble_eq_true rfl, Nat.le_of_ble_eq_true rfl⟩ (Nat.le_of_ble_eq_true rfl) ⟨Nat.zero_le _, Nat.zero_le _⟩ ?_
          refine r_iadd ok dL_holds_177 ?_
          refine r_istore ok [(11, .int (lsum (c.wa m) (g + 1))), (10, .int (lsum (c.sp m) (g + 1))), (12, .int (nI g)), (9, .int (nI m)), (8, .int (nI 1)), (7, .int (lsum (fun m => lsum (zUwT c.cn c.pi m) c.un) (m + 1))), (6, .int (lsum c.lo (m + 1))), (5, .int (lsum c.pu (m + 1))), (4, .int (lsum (fun m => c.ps m + c.pp m + c.pu m) (m + 1))), (3, .int (lsum c.ac (m + 1))), (2, .int (x)), (1, .ref b), (0, .ref a)] dL_holds_178 (by decide) rfl ?_
          refine r_aload_n ok dL_holds_180 12 rfl rfl ?_
          refine r_iload ok dL_holds_181 3 rfl ?_
          refine r_iload ok dL_holds_183 2 rfl ?_
          refine r_iconst ok (zb false) dL_holds_185 (by rfl) ?_
          obtain ⟨fs93, hM94⟩ := zDm_o hD87
          obtain ⟨M90, hC91, hD92⟩ := q_strings (r := c.sp m g) K.2.1 N hO hD87 hm hg false rfl
          refine r_cV1 ok [] mi_X5_strings ci_X5 ml_L_63 im_X5_strings se_X5_strings dL_holds_186 hC91 hM94 rfl rfl ⟨Nat.le_of_ble_eq_true rfl, Nat.le_of_ble_eq_true rfl⟩ (Nat.le_of_ble_eq_true rfl) ⟨Nat.zero_le _, Nat.zero_le _⟩ ?_
          refine r_bipush ok (nI 99) dL_holds_189 (by rfl) ?_
          refine r_icmp_gt ok 223 dL_holds_191 (by decide) (fun c => absurd c (zNgt hsp.2 (by omega))) (fun _ => ?_)
          refine r_aload_n ok dL_holds_194 12 rfl rfl ?_
          refine r_iload ok dL_holds_195 3 rfl ?_
          refine r_iload ok dL_holds_197 2 rfl ?_
          refine r_iconst ok (zb true) dL_holds_199 (by rfl) ?_
          obtain ⟨fs98, hM99⟩ := zDm_o hD92
          obtain ⟨M95, hC96, hD97⟩ := q_strings (r := c.wa m g) K.2.1 N hO hD92 hm hg true rfl
          refine r_cV1 ok [] mi_X5_strings ci_X5 ml_L_63 im_X5_strings se_X5_strings dL_holds_200 hC96 hM99 rfl rfl ⟨Nat.le_of_ble_eq_true rfl, Nat.le_of_ble_eq_true rfl⟩ (Nat.le_of_ble_eq_true rfl) ⟨Nat.zero_le _, Nat.zero_le _⟩ ?_
          refine r_bipush ok (nI 20) dL_holds_203 (by rfl) ?_
          refine r_icmp_gt ok 223 dL_holds_205 (by decide) (fun c => absurd c (zNgt hwa.2 (by omega))) (fun _ => ?_)
          refine r_aload_n ok dL_holds_208 12 rfl rfl ?_
          refine r_iload ok dL_holds_209 3 rfl ?_
          refine r_iload ok dL_holds_211 2 rfl ?_
          refine r_cSq ok [] mi_L_isHarp ml_L_71 sm_L_isHarp dL_holds_213 (yl_isHarp K.2.1 hO hD97 hm hg) rfl rfl ⟨Nat.le_of_ble_eq_true rfl, Nat.le_of_ble_eq_true rfl⟩ (Nat.le_of_ble_eq_true rfl) ⟨Nat.zero_le _, Nat.zero_le _⟩ (fun M100 hD101 => ?_)
          refine r_if_eq ok 223 dL_holds_216 (by decide) (fun c => absurd c (by decide)) (fun _ => ?_)
          refine r_iconst ok (nI 1) dL_holds_219 (by rfl) ?_
          refine r_goto ok 224 dL_holds_220 (by decide) ?_
          refine r_istore ok [(8, .int (nI 1)), (11, .int (lsum (c.wa m) (g + 1))), (10, .int (lsum (c.sp m) (g + 1))), (12, .int (nI g)), (9, .int (nI m)), (7, .int (lsum (fun m => lsum (zUwT c.cn c.pi m) c.un) (m + 1))), (6, .int (lsum c.lo (m + 1))), (5, .int (lsum c.pu (m + 1))), (4, .int (lsum (fun m => c.ps m + c.pp m + c.pu m) (m + 1))), (3, .int (lsum c.ac (m + 1))), (2, .int (x)), (1, .ref b), (0, .ref a)] dL_holds_224 (by decide) rfl ?_
          refine r_iincN ok (c := 1) [(12, .int (nI (g + 1))), (8, .int (nI 1)), (11, .int (lsum (c.wa m) (g + 1))), (10, .int (lsum (c.sp m) (g + 1))), (9, .int (nI m)), (7, .int (lsum (fun m => lsum (zUwT c.cn c.pi m) c.un) (m + 1))), (6, .int (lsum c.lo (m + 1))), (5, .int (lsum c.pu (m + 1))), (4, .int (lsum (fun m => c.ps m + c.pp m + c.pu m) (m + 1))), (3, .int (lsum c.ac (m + 1))), (2, .int (x)), (1, .ref b), (0, .ref a)] dL_holds_226 3 rfl (by rfl) (by decide) rfl ?_
          refine r_goto ok 140 dL_holds_229 (by decide) ?_
          refine zW.forget ?_ [0, 2, 3, 4, 1, 5, 6, 7, 8, 9, 10, 11, 12] rfl
          exact ihg (g + 1) _ (by omega) (by omega) hD101
      refine r_iload ok dL_holds_46 0 rfl ?_
      refine r_bipush ok (nI 6) dL_holds_48 (by rfl) ?_
      refine r_icmp_geN ok 274 (by omega) (by omega) dL_holds_50 (by decide) (fun c => absurd c (by omega)) (fun _ => ?_)
      refine r_iconst ok (lsum (c.sp m) 0) dL_holds_53 (by rfl) ?_
      refine r_istore ok [(10, .int (lsum (c.sp m) 0)), (9, .int (nI m)), (8, .int (nI 1)), (7, .int (lsum (fun m => lsum (zUwT c.cn c.pi m) c.un) m)), (6, .int (lsum c.lo m)), (5, .int (lsum c.pu m)), (4, .int (lsum (fun m => c.ps m + c.pp m + c.pu m) m)), (3, .int (lsum c.ac m)), (2, .int (x)), (1, .ref b), (0, .ref a)] dL_holds_54 (by decide) rfl ?_
      refine r_iconst ok (lsum (c.wa m) 0) dL_holds_56 (by rfl) ?_
      refine r_istore ok [(11, .int (lsum (c.wa m) 0)), (10, .int (lsum (c.sp m) 0)), (9, .int (nI m)), (8, .int (nI 1)), (7, .int (lsum (fun m => lsum (zUwT c.cn c.pi m) c.un) m)), (6, .int (lsum c.lo m)), (5, .int (lsum c.pu m)), (4, .int (lsum (fun m => c.ps m + c.pp m + c.pu m) m)), (3, .int (lsum c.ac m)), (2, .int (x)), (1, .ref b), (0, .ref a)] dL_holds_57 (by decide) rfl ?_
      refine r_iload_n ok dL_holds_59 8 rfl rfl ?_
      refine r_aload_n ok dL_holds_60 11 rfl rfl ?_
      refine r_iload ok dL_holds_61 2 rfl ?_
      refine r_iconst ok (nI 0) dL_holds_63 (by rfl) ?_
      obtain ⟨fs105, hM106⟩ := zDm_o hM9
      obtain ⟨M102, hC103, hD104⟩ := q_member (r := c.ac m) K.2.1 N hO hM9 hm 0 (by omega) rfl
      refine r_cV1 ok [.int (lsum c.ac m)] mi_X5_member ci_X5 ml_L_59 im_X5_member se_X5_member dL_holds_64 hC103 hM106 rfl rfl ⟨Nat.le_of_ble_eq_true rfl, Nat.le_of_ble_eq_true rfl⟩ (Nat.le_of_ble_eq_true rfl) ⟨Nat.zero_le _, Nat.zero_le _⟩ ?_
      refine r_iadd ok dL_holds_67 ?_
      refine r_istore_n ok [(3, .int (lsum c.ac (m + 1))), (11, .int (lsum (c.wa m) 0)), (10, .int (lsum (c.sp m) 0)), (9, .int (nI m)), (8, .int (nI 1)), (7, .int (lsum (fun m => lsum (zUwT c.cn c.pi m) c.un) m)), (6, .int (lsum c.lo m)), (5, .int (lsum c.pu m)), (4, .int (lsum (fun m => c.ps m + c.pp m + c.pu m) m)), (2, .int (x)), (1, .ref b), (0, .ref a)] dL_holds_68 rfl (by decide) rfl ?_
      refine r_iload ok dL_holds_69 8 rfl ?_
      refine r_aload_n ok dL_holds_71 11 rfl rfl ?_
      refine r_iload ok dL_holds_72 3 rfl ?_
      refine r_iconst ok (nI 5) dL_holds_74 (by rfl) ?_
      obtain ⟨fs110, hM111⟩ := zDm_o hD104
      obtain ⟨M107, hC108, hD109⟩ := q_member (r := c.ps m) K.2.1 N hO hD104 hm 5 (by omega) rfl
      refine r_cV1 ok [.int (lsum (fun m => c.ps m + c.pp m + c.pu m) m)] mi_X5_member ci_X5 ml_L_59 im_X5_member se_X5_member dL_holds_75 hC108 hM111 rfl rfl ⟨Nat.le_of_ble_eq_true rfl, Nat.le_of_ble_eq_true rfl⟩ (Nat.le_of_ble_eq_true rfl) ⟨Nat.zero_le _, Nat.zero_le _⟩ ?_
      refine r_aload_n ok dL_holds_78 11 rfl rfl ?_
      refine r_iload ok dL_holds_79 3 rfl ?_
      refine r_bipush ok (nI 6) dL_holds_81 (by rfl) ?_
      obtain ⟨fs115, hM116⟩ := zDm_o hD109
      obtain ⟨M112, hC113, hD114⟩ := q_member (r := c.pp m) K.2.1 N hO hD109 hm 6 (by omega) rfl
      refine r_cV1 ok [.int (c.ps m), .int (lsum (fun m => c.ps m + c.pp m + c.pu m) m)] mi_X5_member ci_X5 ml_L_59 im_X5_member se_X5_member dL_holds_83 hC113 hM116 rfl rfl ⟨Nat.le_of_ble_eq_true rfl, Nat.le_of_ble_eq_true rfl⟩ (Nat.le_of_ble_eq_true rfl) ⟨Nat.zero_le _, Nat.zero_le _⟩ ?_
      refine r_iadd ok dL_holds_86 ?_
      refine r_aload_n ok dL_holds_87 11 rfl rfl ?_
      refine r_iload ok dL_holds_88 3 rfl ?_
      refine r_bipush ok (nI 7) dL_holds_90 (by rfl) ?_
      obtain ⟨fs120, hM121⟩ := zDm_o hD114
      obtain ⟨M117, hC118, hD119⟩ := q_member (r := c.pu m) K.2.1 N hO hD114 hm 7 (by omega) rfl
      refine r_cV1 ok [.int ((c.ps m) + (c.pp m)), .int (lsum (fun m => c.ps m + c.pp m + c.pu m) m)] mi_X5_member ci_X5 ml_L_59 im_X5_member se_X5_member dL_holds_92 hC118 hM121 rfl rfl ⟨Nat.le_of_ble_eq_true rfl, Nat.le_of_ble_eq_true rfl⟩ (Nat.le_of_ble_eq_true rfl) ⟨Nat.zero_le _, Nat.zero_le _⟩ ?_
      refine r_iadd ok dL_holds_95 ?_
      refine r_iadd ok dL_holds_96 ?_
      refine r_istore ok [(4, .int (lsum (fun m => c.ps m + c.pp m + c.pu m) (m + 1))), (3, .int (lsum c.ac (m + 1))), (11, .int (lsum (c.wa m) 0)), (10, .int (lsum (c.sp m) 0)), (9, .int (nI m)), (8, .int (nI 1)), (7, .int (lsum (fun m => lsum (zUwT c.cn c.pi m) c.un) m)), (6, .int (lsum c.lo m)), (5, .int (lsum c.pu m)), (2, .int (x)), (1, .ref b), (0, .ref a)] dL_holds_97 (by decide) rfl ?_
      refine r_iload ok dL_holds_99 8 rfl ?_
      refine r_aload_n ok dL_holds_101 11 rfl rfl ?_
      refine r_iload ok dL_holds_102 4 rfl ?_
      refine r_bipush ok (nI 7) dL_holds_104 (by rfl) ?_
      obtain ⟨fs125, hM126⟩ := zDm_o hD119
      obtain ⟨M122, hC123, hD124⟩ := q_member (r := c.pu m) K.2.1 N hO hD119 hm 7 (by omega) rfl
      refine r_cV1 ok [.int (lsum c.pu m)] mi_X5_member ci_X5 ml_L_59 im_X5_member se_X5_member dL_holds_106 hC123 hM126 rfl rfl ⟨Nat.le_of_ble_eq_true rfl, Nat.le_of_ble_eq_true rfl⟩ (Nat.le_of_ble_eq_true rfl) ⟨Nat.zero_le _, Nat.zero_le _⟩ ?_
      refine r_iadd ok dL_holds_109 ?_
      refine r_istore ok [(5, .int (lsum c.pu (m + 1))), (4, .int (lsum (fun m => c.ps m + c.pp m + c.pu m) (m + 1))), (3, .int (lsum c.ac (m + 1))), (11, .int (lsum (c.wa m) 0)), (10, .int (lsum (c.sp m) 0)), (9, .int (nI m)), (8, .int (nI 1)), (7, .int (lsum (fun m => lsum (zUwT c.cn c.pi m) c.un) m)), (6, .int (lsum c.lo m)), (2, .int (x)), (1, .ref b), (0, .ref a)] dL_holds_110 (by decide) rfl ?_
      refine r_iload ok dL_holds_112 8 rfl ?_
      refine r_aload_n ok dL_holds_114 11 rfl rfl ?_
      refine r_iload ok dL_holds_115 5 rfl ?_
      refine r_bipush ok (nI 8) dL_holds_117 (by rfl) ?_
      obtain ⟨fs130, hM131⟩ := zDm_o hD124
      obtain ⟨M127, hC128, hD129⟩ := q_member (r := c.lo m) K.2.1 N hO hD124 hm 8 (by omega) rfl
      refine r_cV1 ok [.int (lsum c.lo m)] mi_X5_member ci_X5 ml_L_59 im_X5_member se_X5_member dL_holds_119 hC128 hM131 rfl rfl ⟨Nat.le_of_ble_eq_true rfl, Nat.le_of_ble_eq_true rfl⟩ (Nat.le_of_ble_eq_true rfl) ⟨Nat.zero_le _, Nat.zero_le _⟩ ?_
      refine r_iadd ok dL_holds_122 ?_
      refine r_istore ok [(6, .int (lsum c.lo (m + 1))), (5, .int (lsum c.pu (m + 1))), (4, .int (lsum (fun m => c.ps m + c.pp m + c.pu m) (m + 1))), (3, .int (lsum c.ac (m + 1))), (11, .int (lsum (c.wa m) 0)), (10, .int (lsum (c.sp m) 0)), (9, .int (nI m)), (8, .int (nI 1)), (7, .int (lsum (fun m => lsum (zUwT c.cn c.pi m) c.un) m)), (2, .int (x)), (1, .ref b), (0, .ref a)] dL_holds_123 (by decide) rfl ?_
      refine r_iload ok dL_holds_125 8 rfl ?_
      refine r_aload_n ok dL_holds_127 11 rfl rfl ?_
      refine r_iload ok dL_holds_128 6 rfl ?_
      refine r_iconst ok (nI 4) dL_holds_130 (by rfl) ?_
      obtain ⟨fs135, hM136⟩ := zDm_o hD129
      obtain ⟨M132, hC133, hD134⟩ := q_member (r := lsum (zUwT c.cn c.pi m) c.un) K.2.1 N hO hD129 hm 4 (by omega) rfl
      refine r_cV1 ok [.int (lsum (fun m => lsum (zUwT c.cn c.pi m) c.un) m)] mi_X5_member ci_X5 ml_L_59 im_X5_member se_X5_member dL_holds_131 hC133 hM136 rfl rfl ⟨Nat.le_of_ble_eq_true rfl, Nat.le_of_ble_eq_true rfl⟩ (Nat.le_of_ble_eq_true rfl) ⟨Nat.zero_le _, Nat.zero_le _⟩ ?_
      refine r_iadd ok dL_holds_134 ?_
      refine r_istore ok [(7, .int (lsum (fun m => lsum (zUwT c.cn c.pi m) c.un) (m + 1))), (6, .int (lsum c.lo (m + 1))), (5, .int (lsum c.pu (m + 1))), (4, .int (lsum (fun m => c.ps m + c.pp m + c.pu m) (m + 1))), (3, .int (lsum c.ac (m + 1))), (11, .int (lsum (c.wa m) 0)), (10, .int (lsum (c.sp m) 0)), (9, .int (nI m)), (8, .int (nI 1)), (2, .int (x)), (1, .ref b), (0, .ref a)] dL_holds_135 (by decide) rfl ?_
      refine r_iconst ok (nI 0) dL_holds_137 (by rfl) ?_
      refine r_istore ok [(12, .int (nI 0)), (7, .int (lsum (fun m => lsum (zUwT c.cn c.pi m) c.un) (m + 1))), (6, .int (lsum c.lo (m + 1))), (5, .int (lsum c.pu (m + 1))), (4, .int (lsum (fun m => c.ps m + c.pp m + c.pu m) (m + 1))), (3, .int (lsum c.ac (m + 1))), (11, .int (lsum (c.wa m) 0)), (10, .int (lsum (c.sp m) 0)), (9, .int (nI m)), (8, .int (nI 1)), (2, .int (x)), (1, .ref b), (0, .ref a)] dL_holds_138 (by decide) rfl ?_
      refine zW.forget ?_ [0, 6, 7, 8, 9, 1, 2, 3, 4, 5, 10, 11, 12] rfl
      exact hgau 8 0 _ (by omega) rfl hD134
  refine r_iconst ok (lsum c.ac 0) dL_holds_0 (by rfl) ?_
  refine r_istore_n ok [(3, .int (lsum c.ac 0)), (0, .ref a), (1, .ref b), (2, .int (x))] dL_holds_1 rfl (by decide) rfl ?_
  refine r_iconst ok (lsum (fun m => c.ps m + c.pp m + c.pu m) 0) dL_holds_2 (by rfl) ?_
  refine r_istore ok [(4, .int (lsum (fun m => c.ps m + c.pp m + c.pu m) 0)), (3, .int (lsum c.ac 0)), (0, .ref a), (1, .ref b), (2, .int (x))] dL_holds_3 (by decide) rfl ?_
  refine r_iconst ok (lsum c.pu 0) dL_holds_5 (by rfl) ?_
  refine r_istore ok [(5, .int (lsum c.pu 0)), (4, .int (lsum (fun m => c.ps m + c.pp m + c.pu m) 0)), (3, .int (lsum c.ac 0)), (0, .ref a), (1, .ref b), (2, .int (x))] dL_holds_6 (by decide) rfl ?_
  refine r_iconst ok (lsum c.lo 0) dL_holds_8 (by rfl) ?_
  refine r_istore ok [(6, .int (lsum c.lo 0)), (5, .int (lsum c.pu 0)), (4, .int (lsum (fun m => c.ps m + c.pp m + c.pu m) 0)), (3, .int (lsum c.ac 0)), (0, .ref a), (1, .ref b), (2, .int (x))] dL_holds_9 (by decide) rfl ?_
  refine r_iconst ok (lsum (fun m => lsum (zUwT c.cn c.pi m) c.un) 0) dL_holds_11 (by rfl) ?_
  refine r_istore ok [(7, .int (lsum (fun m => lsum (zUwT c.cn c.pi m) c.un) 0)), (6, .int (lsum c.lo 0)), (5, .int (lsum c.pu 0)), (4, .int (lsum (fun m => c.ps m + c.pp m + c.pu m) 0)), (3, .int (lsum c.ac 0)), (0, .ref a), (1, .ref b), (2, .int (x))] dL_holds_12 (by decide) rfl ?_
  refine r_aload_n ok dL_holds_14 5 rfl rfl ?_
  refine r_iload_n ok dL_holds_15 7 rfl rfl ?_
  refine r_bipush ok (nI 64) dL_holds_16 (by rfl) ?_
  refine r_cS1 ok [.ref a] mi_L_low ml_L_9 sm_L_low dL_holds_18 (yl_low K.2.1 G M0 N x (n := 64) (by omega) (by omega)) rfl rfl ⟨Nat.le_of_ble_eq_true rfl, Nat.le_of_ble_eq_true rfl⟩ (Nat.le_of_ble_eq_true rfl) ⟨Nat.zero_le _, Nat.zero_le _⟩ ?_
  refine r_cSq ok [] mi_L_isOrder ml_L_67 sm_L_isOrder dL_holds_21 (yl_isOrder K.2.1 hO h0 (zLow_lt _ (by omega))) rfl rfl ⟨Nat.le_of_ble_eq_true rfl, Nat.le_of_ble_eq_true rfl⟩ (Nat.le_of_ble_eq_true rfl) ⟨Nat.zero_le _, Nat.zero_le _⟩ (fun M137 hD138 => ?_)
  refine r_if_eq ok 40 dL_holds_24 (by decide) (fun c => absurd c (by decide)) (fun _ => ?_)
  refine r_aload_n ok dL_holds_27 5 rfl rfl ?_
  refine r_bipush ok (nI 63) dL_holds_28 (by rfl) ?_
  refine r_cSq ok [] mi_L_isOrder ml_L_67 sm_L_isOrder dL_holds_30 (yl_isOrder K.2.1 hO hD138 (show 63 < 64 by omega)) rfl rfl ⟨Nat.le_of_ble_eq_true rfl, Nat.le_of_ble_eq_true rfl⟩ (Nat.le_of_ble_eq_true rfl) ⟨Nat.zero_le _, Nat.zero_le _⟩ (fun M139 hD140 => ?_)
  refine r_if_eq ok 40 dL_holds_33 (by decide) (fun c => absurd c (by decide)) (fun _ => ?_)
  refine r_iconst ok (nI 1) dL_holds_36 (by rfl) ?_
  refine r_goto ok 41 dL_holds_37 (by decide) ?_
  refine r_istore ok [(8, .int (nI 1)), (7, .int (lsum (fun m => lsum (zUwT c.cn c.pi m) c.un) 0)), (6, .int (lsum c.lo 0)), (5, .int (lsum c.pu 0)), (4, .int (lsum (fun m => c.ps m + c.pp m + c.pu m) 0)), (3, .int (lsum c.ac 0)), (0, .ref a), (1, .ref b), (2, .int (x))] dL_holds_41 (by decide) rfl ?_
  refine r_iconst ok (nI 0) dL_holds_43 (by rfl) ?_
  refine r_istore ok [(9, .int (nI 0)), (8, .int (nI 1)), (7, .int (lsum (fun m => lsum (zUwT c.cn c.pi m) c.un) 0)), (6, .int (lsum c.lo 0)), (5, .int (lsum c.pu 0)), (4, .int (lsum (fun m => c.ps m + c.pp m + c.pu m) 0)), (3, .int (lsum c.ac 0)), (0, .ref a), (1, .ref b), (2, .int (x))] dL_holds_44 (by decide) rfl ?_
  refine zW.forget ?_ [0, 1, 2, 3, 4, 5, 6, 9, 8, 7] rfl
  exact hmem 6 0 _ (by omega) rfl hD140
