/-! what both sides hold when they are new -/
theorem zRow0_st : ∀ i, i < 9 → zRow0 i = zFirst i := by decide +kernel
theorem zRow0_hi {i : Nat} (h : 11 ≤ i) : zRow0 i = 0 := by
  unfold zRow0
  rw [pk_un (by omega), pk_un (by omega), pk_un (by omega), pk_un (by omega), pk_un (by omega), pk_un (by omega), pk_un (by omega), pk_un (by omega), pk_un (by omega), pk_un (by omega)]
theorem zOc_0 : zOc zC0b zRow0 := by
  refine ⟨⟨Nat.zero_le _, fun i hi => hi, fun i j hi hj h => h⟩, ⟨⟨zRow0_st, by decide +kernel, by decide +kernel, by decide +kernel, by decide +kernel, by decide +kernel⟩, by decide +kernel, fun m hm => ?_, fun m hm g hg => ?_, fun p hp => absurd hp (Nat.not_lt_zero p)⟩, ⟨⟨?_, ?_, ?_, fun m hm => ?_, fun m hm g hg => ⟨?_, ?_⟩⟩, fun p hp => absurd hp (Nat.not_lt_zero p)⟩⟩
  · exact ⟨zRow0_hi (by omega), zRow0_hi (by omega), zRow0_hi (by omega), zRow0_hi (by omega), zRow0_hi (by omega), zRow0_hi (by omega)⟩
  · exact ⟨zRow0_hi (by omega), zRow0_hi (by omega)⟩
  · exact (show ∀ i, i < 9 → zbe (zFirst i) (zLeast i) (zMost i) = true by decide +kernel)
  · exact zRg_0 (by omega)
  · exact ⟨by show (0 : Int) ≤ (1 : Int32).toInt; decide, by show (1 : Int32).toInt ≤ 2147483647; decide⟩
  · exact zRg_0 (by omega)
  · exact zRg_0 (by omega)
  · exact zRg_0 (by omega)
theorem zRS_0 (sH sL sP : Nat → Int32) : zRS zC0b zC0b (fun _ => zC0b) (fun _ => zC0b) 0 (fun i => i) (fun _ => false) (fun _ => 0) 0 zRow0 sH sL (fun _ => false) sP :=
  ⟨zOc_0, zOc_0.1, ⟨by omega, fun i hi => hi, fun i j hi hj h => h, fun j hj => zOc_0.1, fun i hi => absurd hi (Nat.not_lt_zero i)⟩, ⟨fun j hj => zOc_0.1, fun j => rfl, fun j hj h => by cases h⟩, by omega, fun j hj => absurd hj (Nat.not_lt_zero j)⟩
theorem zLM_0 (G : zG) (M : zM) (a b : Nat) (hab : a + 672 ≤ b) : zLM G M a b (mdM G (hoM G M a zC0b zC0b (fun _ => zC0b) (fun _ => zC0b) (nI 0) (fun i => i) (fun _ => false) (fun _ => 0) (nI 0) zD0) b zRow0 (fun _ => 0) (fun _ => 0) (fun _ => 0) (fun _ => false) (fun _ => 0) (fun _ => 0) (fun _ => 0) (nI 0) (nI 0) 0 false) :=
  ⟨zC0b, zC0b, fun _ => zC0b, fun _ => zC0b, 0, fun i => i, fun _ => false, fun _ => 0, 0, zD0, zRow0, fun _ => 0, fun _ => 0, fun _ => 0, fun _ => false, fun _ => 0, fun _ => 0, fun _ => 0, 0, false, zRS_0 _ _ _, ho_md hab⟩
