/-! sums of whole numbers; what shares are together -/
theorem lsum_ofInt (f : Nat → Int32) : ∀ n : Nat, lsum f n = Int32.ofInt (isum (fun k => (f k).toInt) n)
  | 0 => rfl
  | n + 1 => by
    show lsum f n + f n = Int32.ofInt (isum (fun k => (f k).toInt) n + (f n).toInt)
    rw [Int32.ofInt_add, Int32.ofInt_toInt, lsum_ofInt f n]
theorem isum_congr {f g : Nat → Int} : ∀ {n : Nat}, (∀ k, k < n → f k = g k) → isum f n = isum g n
  | 0, _ => rfl
  | n + 1, h => by
    show isum f n + f n = isum g n + g n
    rw [isum_congr (fun k hk => h k (by omega)), h n (by omega)]
theorem isum_plus (f g : Nat → Int) : ∀ n, isum (fun k => f k + g k) n = isum f n + isum g n
  | 0 => rfl
  | n + 1 => by
    show isum (fun k => f k + g k) n + (f n + g n) = (isum f n + f n) + (isum g n + g n)
    rw [isum_plus f g n]; omega
theorem isum_minus (f g : Nat → Int) : ∀ n, isum (fun k => f k - g k) n = isum f n - isum g n
  | 0 => rfl
  | n + 1 => by
    show isum (fun k => f k - g k) n + (f n - g n) = (isum f n + f n) - (isum g n + g n)
    rw [isum_minus f g n]; omega
theorem isum_nn {f : Nat → Int} : ∀ {n : Nat}, (∀ k, k < n → 0 ≤ f k) → 0 ≤ isum f n
  | 0, _ => Int.le_refl _
  | n + 1, h => by
    have h1 := isum_nn (n := n) (fun k hk => h k (by omega))
    have h2 := h n (by omega)
    show 0 ≤ isum f n + f n
    omega
theorem isum_le1 {f : Nat → Int} {i : Nat} : ∀ {n : Nat}, (∀ k, k < n → 0 ≤ f k) → i < n → f i ≤ isum f n
  | 0, _, h => absurd h (Nat.not_lt_zero i)
  | n + 1, h, hi => by
    have h2 := h n (by omega)
    have h3 := isum_nn (f := f) (n := n) (fun k hk => h k (by omega))
    show f i ≤ isum f n + f n
    by_cases e : i = n
    · subst e; omega
    · have := isum_le1 (n := n) (fun k hk => h k (by omega)) (show i < n by omega)
      omega
theorem isum_set {f g : Nat → Int} {i : Nat} : ∀ {n : Nat}, i < n → (∀ k, k < n → k ≠ i → g k = f k) → isum g n = isum f n + (g i - f i)
  | 0, h, _ => absurd h (Nat.not_lt_zero i)
  | n + 1, hi, h => by
    show isum g n + g n = isum f n + f n + (g i - f i)
    by_cases e : i = n
    · subst e
      rw [isum_congr (f := g) (g := f) (fun k hk => h k (by omega) (by omega))]
      omega
    · rw [isum_set (n := n) (show i < n by omega) (fun k hk hne => h k (by omega) hne), h n (by omega) (by omega)]
      omega
theorem isum_skip (f : Nat → Int) {i : Nat} : ∀ {n : Nat}, i < n + 1 → isum (fun q => f (if q < i then q else q + 1)) n = isum f (n + 1) - f i
  | 0, h => by
    have : i = 0 := by omega
    subst this
    show (0 : Int) = 0 + f 0 - f 0
    omega
  | n + 1, hi => by
    show isum (fun q => f (if q < i then q else q + 1)) n + f (if n < i then n else n + 1) = isum f (n + 1) + f (n + 1) - f i
    by_cases e : i = n + 1
    · subst e
      rw [if_pos (by omega), isum_congr (f := fun q => f (if q < n + 1 then q else q + 1)) (g := f) (fun k hk => by rw [if_pos (by omega)])]
      show isum f n + f n = isum f n + f n + f (n + 1) - f (n + 1)
      omega
    · rw [if_neg (by omega), isum_skip f (n := n) (by omega)]
      omega
/-! shares -/
section SH
variable {am : Int32} {t : Nat → Int32}
theorem zGet_rg (ha : zRg am 0 50000) (ht : ∀ m, m < 6 → zRg (t m) 0 7200) (hT : 0 < (lsum t 6).toInt) {m : Nat} (hm : m < 6) : zRg (zGet am t m) 0 50001 := by
  obtain ⟨-, b1, b2⟩ := zBase_int ha ht hT hm
  unfold zGet
  split
  · have h1 : (1 : Int32).toInt = 1 := rfl
    unfold zRg
    rw [zg_add (by omega) (by omega)]
    omega
  · exact ⟨b1, by omega⟩
theorem zGet_isum (ha : zRg am 0 50000) (ht : ∀ m, m < 6 → zRg (t m) 0 7200) (hT : 0 < (lsum t 6).toInt) : isum (fun m => (zGet am t m).toInt) 6 = am.toInt := by
  rw [← lsum_int (f := zGet am t) (B := 50001) (by omega) 6 (by omega) (fun m hm => zGet_rg ha ht hT hm), zGet_all ha ht hT]
theorem zGet_z (h : lsum t 6 = 0) (m : Nat) : zGet am t m = 0 := by
  unfold zGet zGiv zBase
  rw [h]
  simp
end SH
/-! an order's shares -/
theorem lsum_mulr (F : Nat → Int32) (v : Int32) : ∀ n, lsum (fun m => F m * v) n = lsum F n * v
  | 0 => by show (0 : Int32) = 0 * v; grind
  | n + 1 => by
    show lsum (fun m => F m * v) n + F n * v = (lsum F n + F n) * v
    rw [lsum_mulr F v n]; grind
section OS
variable {s : Nat → Int32} {mm : Int32}
theorem zOwnT_w (m g : Nat) : zOwnT s mm m g = zWantT s mm g m * zPriceIn s mm g := by
  unfold zOwnT zWantT
  split
  · rfl
  · grind
theorem zOwn_all : lsum (zOwn s mm) 6 = zVal s mm := by
  show lsum (fun m => lsum (zOwnT s mm m) 8) 6 = zVal s mm
  have e := lsum_swap (fun m g => zOwnT s mm m g) 6 8
  have e2 : lsum (fun m => lsum ((fun m g => zOwnT s mm m g) m) 8) 6 = lsum (fun m => lsum (zOwnT s mm m) 8) 6 := rfl
  rw [← e2, ← e]
  unfold zVal
  refine lsum_congr (fun g hg => ?_)
  show lsum (fun m => zOwnT s mm m g) 6 = zWant s mm g * zPriceIn s mm g
  unfold zWant
  rw [← lsum_mulr]
  exact lsum_congr (fun m hm => zOwnT_w m g)
variable {c : zCl} {D : Int}
theorem zPost_rg (h : zRw c s) (hI : zI1 c D) : zRg (zPost s mm) 0 50000 := by
  obtain ⟨-, h1, h2, -⟩ := zSt_rg hI
  have hw := zI1_wa h hI
  unfold zPost
  split
  · exact zRg_0 (by omega)
  · have h8 : ∀ g, g < 8 → 0 ≤ (nI (1 + g)).toInt ∧ (nI (1 + g)).toInt ≤ 1 + g := by decide +kernel
    have hwr : zRg (zWei s mm) 0 4320 := by
      have hb : ∀ k, k ≤ 8 → zRg (lsum (fun g => nI (1 + g) * zWant s mm g) k) 0 (60 * k * (k + 1)) := by
        intro k
        induction k with
        | zero => intro _; exact zRg_0 (by omega)
        | succ k ih =>
          intro hk
          obtain ⟨i1, i2⟩ := ih (by omega)
          obtain ⟨p1, p2⟩ := h8 k (by omega)
          obtain ⟨q1, q2⟩ := zWant_rg hw mm (g := k) (by omega)
          have hk8 : k = 0 ∨ k = 1 ∨ k = 2 ∨ k = 3 ∨ k = 4 ∨ k = 5 ∨ k = 6 ∨ k = 7 := by omega
          have hm : (nI (1 + k)).toInt * (zWant s mm k).toInt ≤ (1 + k) * 120 := Int.mul_le_mul p2 q2 q1 (by omega)
          have hm0 : 0 ≤ (nI (1 + k)).toInt * (zWant s mm k).toInt := Int.mul_nonneg p1 q1
          have em : (nI (1 + k) * zWant s mm k).toInt = (nI (1 + k)).toInt * (zWant s mm k).toInt := zg_mul (by omega) (by omega)
          unfold zRg
          rw [lsum_s]
          rcases hk8 with rfl | rfl | rfl | rfl | rfl | rfl | rfl | rfl <;> (rw [zg_add (by rw [em]; omega) (by rw [em]; omega), em]; omega)
      exact zRg_le (hb 8 (by omega)) (by omega)
    have e1 : s 1 = c.st 1 := h.1 1 (by omega)
    have e2 : s 2 = c.st 2 := h.1 2 (by omega)
    rw [e1, e2]
    obtain ⟨m1, m2⟩ := zg_mulB (A := 9) (B := 4320) (show zRg (c.st 2) 0 9 from h2) hwr (by omega) (by omega)
    unfold zRg
    rw [zg_add (by omega) (by omega)]
    omega
theorem zPart_rg (h : zRw c s) (hI : zI1 c D) (sT : Nat → Int32) {m : Nat} (hm : m < 6) : zRg (zParts s mm sT m) 0 7200 := by
  have e := zParts_eq h mm (fun _ => 0) sT m hm
  rw [← e, zC0_lt hm]
  exact zRg_le (zOpt_rg hI mm hm) (by omega)
/-- there is a weight where there are strings -/
theorem zPart_pos (h : zRw c s) (hI : zI1 c D) (sT : Nat → Int32) : zStr s mm = 0 ∧ (∀ m, m < 6 → zParts s mm sT m = 0) ∨ 0 < (zStr s mm).toInt ∧ 0 < (lsum (zParts s mm sT) 6).toInt := by
  have hw := zI1_wa h hI
  have h8 : ∀ g, g < 8 → 1 ≤ (nI (1 + g)).toInt ∧ (nI (1 + g)).toInt ≤ 8 := by decide +kernel
  -- what a member wants, by gauges
  have a1 : ∀ m, m < 6 → ∀ g, g < 8 → zRg (zWantT s mm g m) 0 20 := by
    intro m hm g hg
    unfold zWantT; split
    · exact hw m hm g hg
    · exact zRg_0 (by omega)
  have b1 : ∀ m, m < 6 → zRg (lsum (fun g => zWantT s mm g m) 8) 0 160 := fun m hm => zRg_le (zg_lsum (f := fun g => zWantT s mm g m) (B := 20) (by omega) 8 (by omega) (fun g hg => a1 m hm g hg)) (by omega)
  have es : zStr s mm = lsum (fun m => lsum (fun g => zWantT s mm g m) 8) 6 := lsum_swap (fun m g => zWantT s mm g m) 6 8
  -- what that weighs
  have ep : ∀ m, m < 6 → zParts s mm sT m = lsum (fun g => nI (1 + g) * zWantT s mm g m) 8 := by
    intro m hm
    have e := zParts_eq h mm (fun _ => 0) sT m hm
    rw [← e, zC0_lt hm]
    unfold zOpt
    split
    · rename_i hh
      refine lsum_congr (fun g hg => ?_)
      show c.wa m g * nI (1 + g) = _
      unfold zWantT
      rw [if_pos hh, h.2 m hm g hg, Int32.mul_comm]
    · rename_i hh
      have : (fun g => nI (1 + g) * zWantT s mm g m) = fun g => (0 : Int32) := by
        funext g
        unfold zWantT
        rw [if_neg hh]
        grind
      rw [this, lsum_0 (fun k => rfl)]; rfl
  have ht : ∀ m, m < 6 → ∀ g, g < 8 → zRg (nI (1 + g) * zWantT s mm g m) 0 160 ∧ (zWantT s mm g m).toInt ≤ (nI (1 + g) * zWantT s mm g m).toInt := by
    intro m hm g hg
    obtain ⟨p1, p2⟩ := h8 g hg
    obtain ⟨q1, q2⟩ := a1 m hm g hg
    have m1 : (nI (1 + g)).toInt * (zWantT s mm g m).toInt ≤ 8 * 20 := Int.mul_le_mul p2 q2 q1 (by omega)
    have m2 : 1 * (zWantT s mm g m).toInt ≤ (nI (1 + g)).toInt * (zWantT s mm g m).toInt := Int.mul_le_mul_of_nonneg_right p1 q1
    unfold zRg
    rw [zg_mul (by omega) (by omega)]
    omega
  have hle : ∀ m, m < 6 → (lsum (fun g => zWantT s mm g m) 8).toInt ≤ (zParts s mm sT m).toInt := by
    intro m hm
    rw [ep m hm, lsum_int (f := fun g => zWantT s mm g m) (B := 20) (by omega) 8 (by omega) (fun g hg => a1 m hm g hg), lsum_int (f := fun g => nI (1 + g) * zWantT s mm g m) (B := 160) (by omega) 8 (by omega) (fun g hg => (ht m hm g hg).1)]
    exact isum_mono (fun g hg => (ht m hm g hg).2)
  have is := lsum_int (f := fun m => lsum (fun g => zWantT s mm g m) 8) (B := 160) (by omega) 6 (by omega) b1
  have ip := lsum_int (f := zParts s mm sT) (B := 7200) (by omega) 6 (by omega) (fun m hm => zPart_rg h hI sT hm)
  have hsr := zg_lsum (f := fun m => lsum (fun g => zWantT s mm g m) 8) (B := 160) (by omega) 6 (by omega) b1
  rcases Int.lt_or_le 0 (zStr s mm).toInt with hp | hp
  · refine Or.inr ⟨hp, ?_⟩
    rw [ip]
    rw [es, is] at hp
    exact Int.lt_of_lt_of_le hp (isum_mono (fun m hm => hle m hm))
  · have h0 : (zStr s mm).toInt = 0 := by rw [es]; rw [es] at hp; have := hsr.1; omega
    refine Or.inl ⟨Int32.toInt_inj.mp (by rw [h0]; rfl), fun m hm => ?_⟩
    rw [es, is] at h0
    have hz : ∀ k, k < 6 → 0 ≤ (fun m => (lsum (fun g => zWantT s mm g m) 8).toInt) k := fun k hk => (b1 k hk).1
    have hm0 : (lsum (fun g => zWantT s mm g m) 8).toInt ≤ 0 := by
      have := isum_le1 hz hm
      rw [h0] at this
      exact this
    have hm1 : (lsum (fun g => zWantT s mm g m) 8).toInt = 0 := by have := (b1 m hm).1; omega
    rw [lsum_int (f := fun g => zWantT s mm g m) (B := 20) (by omega) 8 (by omega) (fun g hg => a1 m hm g hg)] at hm1
    rw [ep m hm]
    have hg0 : ∀ g, g < 8 → zWantT s mm g m = 0 := by
      intro g hg
      have hn : ∀ k, k < 8 → 0 ≤ (fun g => (zWantT s mm g m).toInt) k := fun k hk => (a1 m hm k hk).1
      have := isum_le1 hn hg
      rw [hm1] at this
      have h3 := (a1 m hm g hg).1
      exact Int32.toInt_inj.mp (show (zWantT s mm g m).toInt = 0 by omega)
    have e0 : lsum (fun g => nI (1 + g) * zWantT s mm g m) 8 = lsum (fun _ => (0 : Int32)) 8 := lsum_congr (fun g hg => by
      show nI (1 + g) * zWantT s mm g m = 0
      rw [hg0 g hg]; grind)
    rw [e0]; exact lsum_0 (fun k => rfl) 8
/-- all shares together are the cost, each is not below 0, and 0 of who is not of them -/
theorem zGets_p (h : zRw c s) (hI : zI1 c D) (sT : Nat → Int32) : (∀ m, m < 6 → zRg (zGet (zPost s mm) (zParts s mm sT) m) 0 50001 ∧ (zHas mm m = false → zGet (zPost s mm) (zParts s mm sT) m = 0)) ∧ lsum (zGet (zPost s mm) (zParts s mm sT)) 6 = zPost s mm := by
  have h0 : ∀ m, m < 6 → zHas mm m = false → zGet (zPost s mm) (zParts s mm sT) m = 0 := by
    intro m hm hh
    refine zGet_no _ ?_
    unfold zParts
    rw [zC0_lt hm]
    unfold zPart
    rw [hh]; rfl
  rcases zPart_pos h hI sT with ⟨e1, e2⟩ | ⟨e1, e2⟩
  · have ez : ∀ m, m < 6 → zGet (zPost s mm) (zParts s mm sT) m = 0 := fun m hm => zGet_no _ (e2 m hm)
    refine ⟨fun m hm => ⟨?_, h0 m hm⟩, ?_⟩
    · rw [ez m hm]; exact zRg_0 (by omega)
    · rw [lsum_congr (g := fun _ => 0) ez, lsum_0 (fun k => rfl)]
      unfold zPost
      rw [if_pos e1]
  · exact ⟨fun m hm => ⟨zGet_rg (zPost_rg h hI) (fun k hk => zPart_rg h hI sT hk) e2 hm, h0 m hm⟩, zGet_all (zPost_rg h hI) (fun k hk => zPart_rg h hI sT hk) e2⟩
theorem zOwn_rg (h : zRw c s) (hI : zI1 c D) {m : Nat} (hm : m < 6) : zRg (zOwn s mm m) 0 7200 := by
  have hw := zI1_wa h hI
  have := zg_lsum (f := zOwnT s mm m) (B := 900) (by omega) 8 (by omega) (fun g hg => by
    unfold zOwnT
    split
    · exact zg_mulB (A := 20) (B := 45) (hw m hm g hg) (zPrice_rg s mm hg) (by omega) (by omega)
    · exact zRg_0 (by omega))
  exact zRg_le this (by omega)
theorem zOwn_not {m : Nat} (h : zHas mm m = false) : zOwn s mm m = 0 := by
  unfold zOwn zOwnT
  rw [h]
  exact lsum_0 (fun k => rfl) 8
def zShr (s : Nat → Int32) (mm : Int32) (m : Nat) : Int32 := zOwn s mm m + zGet (zPost s mm) (zParts s mm (fun _ => 0)) m
theorem zShr_is (h : zRw c s) (hI : zI1 c D) : (∀ m, m < 6 → zRg (zShr s mm m) 0 60000 ∧ (zHas mm m = false → zShr s mm m = 0)) ∧ lsum (zShr s mm) 6 = zCost s mm := by
  obtain ⟨h1, h2⟩ := zGets_p (mm := mm) h hI (fun _ => 0)
  refine ⟨fun m hm => ⟨?_, fun hh => ?_⟩, ?_⟩
  · obtain ⟨a1, a2⟩ := (h1 m hm).1
    obtain ⟨b1, b2⟩ := zOwn_rg (mm := mm) h hI hm
    unfold zRg zShr
    rw [zg_add (by omega) (by omega)]
    omega
  · unfold zShr
    rw [zOwn_not hh, (h1 m hm).2 hh]; rfl
  · show lsum (fun m => zOwn s mm m + zGet (zPost s mm) (zParts s mm (fun _ => 0)) m) 6 = _
    rw [lsum_add, h2]
    show lsum (fun m => zOwn s mm m) 6 + _ = _
    rw [show (fun m => zOwn s mm m) = zOwn s mm from rfl, zOwn_all]
    rfl
theorem zCost_rg (h : zRw c s) (hI : zI1 c D) : zRg (zCost s mm) 0 150000 := by
  obtain ⟨a1, a2⟩ := zVal_rg (zI1_wa h hI) mm
  obtain ⟨b1, b2⟩ := zPost_rg (mm := mm) h hI
  unfold zRg zCost
  rw [zg_add (by omega) (by omega)]
  omega
theorem zCost_0 (h : zRw c s) (hI : zI1 c D) (h0 : ¬ 0 < zStr s mm) : zCost s mm = 0 := by
  rcases zPart_pos (mm := mm) h hI (fun _ => 0) with ⟨e1, e2⟩ | ⟨e1, e2⟩
  · have hs := (zShr_is (mm := mm) h hI).2
    have hp : zPost s mm = 0 := by unfold zPost; rw [if_pos e1]
    have hw := zI1_wa h hI
    have hwz : ∀ g, g < 8 → zWant s mm g = 0 := by
      intro g hg
      have hn : ∀ k, k < 8 → 0 ≤ (fun g => (zWant s mm g).toInt) k := fun k hk => (zWant_rg hw mm hk).1
      have hi := lsum_int (f := fun g => zWant s mm g) (B := 120) (by omega) 8 (by omega) (fun k hk => zWant_rg hw mm hk)
      have e3 : lsum (fun g => zWant s mm g) 8 = 0 := e1
      rw [e3] at hi
      have := isum_le1 hn hg
      rw [← hi] at this
      have h3 := (zWant_rg hw mm hg).1
      have hz : (0 : Int32).toInt = 0 := rfl
      exact Int32.toInt_inj.mp (show (zWant s mm g).toInt = (0 : Int32).toInt by omega)
    have hv : zVal s mm = 0 := by
      unfold zVal
      rw [lsum_congr (g := fun _ => 0) (fun g hg => by rw [hwz g hg]; grind)]
      exact lsum_0 (fun k => rfl) 8
    unfold zCost
    rw [hv, hp]; rfl
  · exact absurd (show (0 : Int32) < zStr s mm from Int32.lt_iff_toInt_lt.mpr (show (0 : Int32).toInt < (zStr s mm).toInt from e1)) h0
end OS
