/-! what both sides hold when they are new -/
theorem zRow0_st : ∀ i, i < 9 → zRow0 i = zFirst i := by decide +kernel
theorem zRow0_hi {i : Nat} (h : 11 ≤ i) : zRow0 i = 0 := by
  unfold zRow0
  rw [pk_un (by omega), pk_un (by omega), pk_un (by omega), pk_un (by omega), pk_un (by omega), pk_un (by omega), pk_un (by omega), pk_un (by omega), pk_un (by omega), pk_un (by omega)]
theorem zOc_0 : zOc zC0b zRow0 := by
  refine ⟨⟨Nat.zero_le _, fun i hi => hi, fun i j hi hj h => h⟩, ⟨⟨zRow0_st, by decide +kernel, by decide +kernel, by decide +kernel, by decide +kernel, by decide +kernel⟩, by decide +kernel, fun m hm => ?_, fun m hm g hg => ?_, fun p hp => absurd hp (Nat.not_lt_zero p)⟩, ⟨⟨?_, ?_, ?_, fun m hm => ?_, fun m hm g hg => ⟨?_, ?_⟩⟩, fun p hp => absurd hp (Nat.not_lt_zero p)⟩⟩
  · exact ⟨zRow0_hi (by omega), zRow0_hi (by omega), zRow0_hi (by omega), zRow0_hi (by omega), zRow0_hi (by omega), zRow0_hi (by omega)⟩
  · exact ⟨zRow0_hi (by omega), zRow0_hi (by omega)⟩
  · exact (show ∀ i, i < 9 → zbe (zFirst i) (zLeast i) (zMost i) = true by decide +kernel)
  · exact zRg_0 (by omega)
  · exact ⟨by show (0 : Int) ≤ (1 : Int32).toInt; decide, by show (1 : Int32).toInt ≤ 2147483647; decide⟩
  · exact zRg_0 (by omega)
  · exact zRg_0 (by omega)
  · exact zRg_0 (by omega)
