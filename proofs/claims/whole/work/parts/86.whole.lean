/-- from the entry, for every script of at most 2560 ints, the law comes to its end with true -/
theorem whole_start {p : Program} {e : Env} {s : State} {m : MethodId} {below : List Frame} {meth : Method} {c : Code} (l : Launch) (hflags : l.flags = flags0) {b L : Nat} {xs : Nat → Int32} (hL : L ≤ 2560) (C0 : lw_At p s m meth c b L xs) : W p l e room_1 s m #[Value.ref b] below meth c s.heap [] 0 0 (lw_Z below #[Value.ref b] s) (entryFrame m ([Value.ref b] : List Value).toArray 4) := by
  obtain ⟨hx, hb, hr, hml, hown, hts, hX, hbl, hlocks, hgv⟩ := id C0
  obtain ⟨⟨D, cc, H0⟩, hG, hK⟩ := zKw_of hts hgv
  dsimp only at hG
  subst hG
  have hl := lv_entry ([.ref b]) (n := 4) (Nat.le_of_ble_eq_true rfl)
  rw [lg_entry_eq]
  have ok : zOk (p, l, e, room_1, s, m, #[Value.ref b], below, meth, c) (D, cc, s.heap) ⟨RL, meth.name, ""⟩ cL_law 4 room_1 ret := ⟨hx, hb, hml, hown, hK, rfl, hr, hlocks, rfl⟩
  have body : zW (p, l, e, room_1, s, m, #[Value.ref b], below, meth, c) (D, cc, s.heap) 4 (lw_Z below #[Value.ref b] s) 0 0 (fun _ => none) s.heap.size 0 [(0, .ref b)] [] := by
    refine r_new ok ci_X5 kl_L_7 ia_X5 in_X5 [.null, .null, .null, .int 0, .null, .null, .null, .null] zdf_X5 ⟨Nat.le_of_ble_eq_true rfl, Nat.le_of_ble_eq_true rfl⟩ dL_law_0 ?_
    refine r_dup ok dL_law_3 rfl ?_
    refine r_cI0 ok mi_X5_init ml_L_9 im_X5_init rfl dL_law_4 (c_X5_init l (D, cc, s.heap) _ _) ⟨Nat.le_of_ble_eq_true rfl, Nat.le_of_ble_eq_true rfl⟩ (Nat.le_of_ble_eq_true rfl) ⟨Nat.le_of_ble_eq_true rfl, Nat.le_of_ble_eq_true rfl⟩ ?_
    refine r_astore_n ok [(1, .ref s.heap.size), (0, .ref b)] dL_law_7 rfl (by decide) rfl ?_
    refine r_new ok ci_X6 kl_L_10 ia_X6 in_X6 [.null, .null, .null, .int 0, .null, .null, .null, .int 0, .null, .null, .int 0, .int 0] zdf_X6 ⟨Nat.le_of_ble_eq_true rfl, Nat.le_of_ble_eq_true rfl⟩ dL_law_8 ?_
    refine r_dup ok dL_law_11 rfl ?_
    refine r_cI0 ok mi_X6_init ml_L_12 im_X6_init rfl dL_law_12 (c_X6_init l (D, cc, s.heap) _ _) ⟨Nat.le_of_ble_eq_true rfl, Nat.le_of_ble_eq_true rfl⟩ (Nat.le_of_ble_eq_true rfl) ⟨Nat.le_of_ble_eq_true rfl, Nat.le_of_ble_eq_true rfl⟩ ?_
    refine r_astore_n ok [(2, .ref (s.heap.size + 1 + 671)), (1, .ref s.heap.size), (0, .ref b)] dL_law_15 rfl (by decide) rfl ?_
    refine r_iconst ok (nI 0) dL_law_16 (by rfl) ?_
    refine r_istore_n ok [(3, .int (nI 0)), (2, .ref (s.heap.size + 1 + 671)), (1, .ref s.heap.size), (0, .ref b)] dL_law_17 rfl (by decide) rfl ?_
    exact lc_loop ok (Nat.le_of_ble_eq_true rfl) (Nat.le_of_ble_eq_true rfl) hX hbl hL (show s.heap.size + 672 ≤ s.heap.size + 1 + 671 by omega) (fun i M2 => r_lret rfl hx hb hr hlocks dL_law_943 (Nat.le_of_ble_eq_true rfl) (Nat.le_of_ble_eq_true rfl)) L 0 _ (Nat.zero_le _) (by omega) (zLM_0 (D, cc, s.heap) (fun _ => none) s.heap.size (s.heap.size + 1 + 671) (by omega))
  exact body s.heap [] _ ⟨rfl, fun q hq => rfl, Nat.le_refl _, fun a e h => by cases h⟩ (fun q hq => by cases hq) hl
