/-! texts, both ways -/
def zStt (f : Nat → Int32) (k q : Nat) : Prop := (∀ j, j < k → (zPlA (zPn f j) (f j)).isSome = true) ∧ zPn f k = q
section TX
variable {f : Nat → Int32} {n : Nat}
theorem zStt_go {k q r : Nat} (h : zStt f k q) (hr : zPlA q (f k) = some r) : zStt f (k + 1) r := by
  obtain ⟨h1, h2⟩ := h
  refine ⟨fun j hj => ?_, ?_⟩
  · by_cases z : j = k
    · subst z; rw [h2, hr]; rfl
    · exact h1 j (by omega)
  · show (zPlA (zPn f k) (f k)).getD 6 = r
    rw [h2, hr]; rfl
theorem zFx_at : ∀ {k : Nat}, k ≤ n → (∀ j, j < k → (zPlA (zPn f j) (f j)).isSome = true) → zFx f n = zFxF f n (n - k) k
  | 0, _, _ => rfl
  | k + 1, hk, h => by
    rw [zFx_at (k := k) (by omega) (fun j hj => h j (by omega)), zFxF_go rfl (by omega) (h k (by omega))]
theorem zStt_no {k q : Nat} (h : zStt f k q) (hk : k < n) (hn : zPlA q (f k) = none) : zFx f n = nI k := by
  rw [zFx_at (Nat.le_of_lt hk) h.1]
  exact zFxF_no rfl hk (by rw [h.2, hn]; rfl)
theorem zStt_len {q : Nat} (h : zStt f n q) (hq : q < 4) : zFx f n = nI n := by
  rw [zFx_at (Nat.le_refl n) h.1]
  exact zFx_len n f (by rw [h.2]; omega)
theorem zStt_end {q : Nat} (h : zStt f n q) (hq : 4 ≤ q) : zFx f n = -100006 := by
  rw [zFx_at (Nat.le_refl n) h.1]
  exact zFx_end n f (by rw [h.2]; exact hq)
theorem zTw_t {lo hi : Int32} {p : Nat} : zTw f n lo hi p true = true := rfl
theorem zTp_t {lo hi : Int32} {p : Nat} : zTp f n lo hi p true = p := if_pos rfl
theorem zTk {lo hi p q : Nat} (r : Int32 → Nat) (hs : zStt f p q) (hp : p ≤ n) (hlo : 0 < lo) (hl : lo < 2 ^ 31) (h4 : q < 4) (hA : ∀ c, zPlA q c = if zbe c (nI lo) (nI hi) = true then some (r c) else none) : (zTw f n (nI lo) (nI hi) p false = false ∧ zTp f n (nI lo) (nI hi) p false = p + 1 ∧ p < n ∧ zbe (f p) (nI lo) (nI hi) = true ∧ zTc f n p = f p ∧ zStt f (p + 1) (r (f p))) ∨ (zTw f n (nI lo) (nI hi) p false = true ∧ zTp f n (nI lo) (nI hi) p false = p ∧ zFx f n = nI p) := by
  rcases Nat.eq_or_lt_of_le hp with e | e
  · right
    have ec : zTc f n p = nI 0 := if_neg (by omega)
    have ew : zTw f n (nI lo) (nI hi) p false = true := by
      unfold zTw; rw [ec, zbe_z hlo hl]; rfl
    refine ⟨ew, if_pos ew, ?_⟩
    subst e; exact zStt_len hs h4
  · have ec : zTc f n p = f p := if_pos e
    by_cases z : zbe (f p) (nI lo) (nI hi) = true
    · left
      have ew : zTw f n (nI lo) (nI hi) p false = false := by
        unfold zTw; rw [ec, z]; rfl
      exact ⟨ew, if_neg (by rw [ew]; decide), e, z, ec, zStt_go hs (by rw [hA, if_pos z])⟩
    · right
      have ew : zTw f n (nI lo) (nI hi) p false = true := by
        unfold zTw; rw [ec, Bool.eq_false_iff.mpr z]; rfl
      exact ⟨ew, if_pos ew, zStt_no hs e (by rw [hA, if_neg z])⟩
theorem zbe_one (c a : Int32) : zbe c a a = true ↔ c = a := by
  unfold zbe
  simp only [Bool.and_eq_true, decide_eq_true_eq]
  constructor
  · intro h; exact Int32.le_antisymm h.2 h.1
  · intro h; subst h; exact ⟨Int32.le_refl _, Int32.le_refl _⟩
theorem zA_0 (c : Int32) : zPlA 0 c = if zbe c (nI 97) (nI 102) = true then some 1 else none := rfl
theorem zA_1 (c : Int32) : zPlA 1 c = if zbe c (nI 48) (nI 55) = true then some 2 else none := rfl
theorem zA_2 (c : Int32) : zPlA 2 c = if zbe c (nI 58) (nI 58) = true then some 3 else none := by
  show (if c = nI 58 then some 3 else none) = _
  by_cases h : c = nI 58
  · rw [if_pos h, if_pos ((zbe_one _ _).mpr h)]
  · rw [if_neg h, if_neg (fun z => h ((zbe_one _ _).mp z))]
def zDg (c : Int32) : Nat := if c = nI 49 then 4 else if c = nI 50 then 5 else 6
theorem zbe_iff (c : Int32) {a b : Nat} (ha : a < 2 ^ 31) (hb : b < 2 ^ 31) : zbe c (nI a) (nI b) = true ↔ (a : Int) ≤ c.toInt ∧ c.toInt ≤ b := by
  unfold zbe
  simp only [Bool.and_eq_true, decide_eq_true_eq]
  rw [Int32.le_iff_toInt_le, Int32.le_iff_toInt_le, nI_toInt ha, nI_toInt hb]
theorem zeq_iff (c : Int32) {a : Nat} (ha : a < 2 ^ 31) : c = nI a ↔ c.toInt = a := by
  rw [← Int32.toInt_inj, nI_toInt ha]
theorem zA_3 (c : Int32) : zPlA 3 c = if zbe c (nI 49) (nI 57) = true then some (zDg c) else none := by
  show zPlD c = _
  unfold zPlD zDg
  by_cases h1 : c = nI 49
  · rw [if_pos h1, if_pos (by rw [h1]; decide), if_pos h1]
  · rw [if_neg h1]
    by_cases h2 : c = nI 50
    · rw [if_pos h2, if_pos (by rw [h2]; decide), if_neg h1, if_pos h2]
    · rw [if_neg h2, if_neg h1, if_neg h2]
      have : zbe c (nI 51) (nI 57) = true ↔ zbe c (nI 49) (nI 57) = true := by
        rw [zbe_iff c (by omega) (by omega), zbe_iff c (by omega) (by omega)]
        rw [zeq_iff c (by omega)] at h1 h2
        omega
      by_cases h3 : zbe c (nI 49) (nI 57) = true
      · rw [if_pos h3, if_pos (this.mpr h3)]
      · rw [if_neg h3, if_neg (fun z => h3 (this.mp z))]
theorem zIn_t {lo hi : Int32} {p : Nat} : zIn f n lo hi p true = false := rfl
theorem zIn_f {lo hi : Int32} {p : Nat} : zIn f n lo hi p false = true ↔ p < n ∧ zbe (f p) lo hi = true := by
  unfold zIn
  simp only [Bool.not_false, Bool.true_and, Bool.and_eq_true, decide_eq_true_eq]
theorem zMnM_1 (c : Int32) : nI 1 + (c - nI 49) = nI 1 ↔ c = nI 49 := by
  constructor
  · intro h; have e : nI 1 + (c - nI 49) - nI 1 + nI 49 = nI 1 - nI 1 + nI 49 := by rw [h]
    have e2 : nI 1 + (c - nI 49) - nI 1 + nI 49 = c := by grind
    have e3 : nI 1 - nI 1 + nI 49 = nI 49 := by grind
    rw [← e2, e, e3]
  · intro h; subst h; decide
theorem zMnM_2 (c : Int32) : nI 1 + (c - nI 49) = nI 2 ↔ c = nI 50 := by
  constructor
  · intro h; have e : nI 1 + (c - nI 49) - nI 1 + nI 49 = nI 2 - nI 1 + nI 49 := by rw [h]
    have e2 : nI 1 + (c - nI 49) - nI 1 + nI 49 = c := by grind
    have e3 : nI 2 - nI 1 + nI 49 = nI 50 := by decide
    rw [← e2, e, e3]
  · intro h; subst h; decide
/-- how many -/
theorem zMn {p : Nat} (hs : zStt f p 3) (hp : p ≤ n) : (zMnW f n p false = true ∧ zMnP f n p false = p ∧ zFx f n = nI p) ∨ (zMnW f n p false = false ∧ zMnP f n p false ≤ n ∧ (∃ r, 4 ≤ r ∧ zStt f (zMnP f n p false) r ∧ (zMnP f n p false < n → zPlA r (f (zMnP f n p false)) = zPlW (f (zMnP f n p false)))) ∧ zRg (zMnV f n p false) 1 20 ∧ ∀ wa, (zAdS wa f p).2.2.1 = nI 0 → zAdS wa f (zMnP f n p false) = ((zAdS wa f p).1, (zAdS wa f p).2.1, zMnV f n p false, (zAdS wa f p).2.2.2)) := by
  rcases zTk (n := n) (lo := 49) (hi := 57) zDg hs hp (by omega) (by omega) (by omega) zA_3 with ⟨w1, p1, hlt, hb, hc, hst⟩ | ⟨w1, p1, hf⟩
  · right
    have w1' : zMnW1 f n p false = false := w1
    have p1' : zMnP1 f n p false = p + 1 := p1
    have hm : zMnM f n p = nI 1 + (f p - nI 49) := by unfold zMnM; rw [hc]
    have hb2 := (zbe_iff (f p) (a := 49) (b := 57) (by omega) (by omega)).mp hb
    have hd : zbe (f p) (nI 48) (nI 57) = true := (zbe_iff (f p) (by omega) (by omega)).mpr ⟨by omega, hb2.2⟩
    have h48 : (nI 48).toInt = 48 := nI_toInt (by omega)
    have h49 : (nI 49).toInt = 49 := nI_toInt (by omega)
    have h10 : (nI 10).toInt = 10 := nI_toInt (by omega)
    have h1 : (nI 1).toInt = 1 := rfl
    have hmi : (zMnM f n p).toInt = (f p).toInt - 48 := by
      rw [hm, zg_add (by rw [zg_sub (by omega) (by omega)]; omega) (by rw [zg_sub (by omega) (by omega)]; omega), zg_sub (by omega) (by omega)]; omega
    have hA1 : ∀ wa, (zAdS wa f p).2.2.1 = nI 0 → zAdS wa f (p + 1) = ((zAdS wa f p).1, (zAdS wa f p).2.1, zMnM f n p, (zAdS wa f p).2.2.2) := by
      intro wa h0
      rw [zAd_d (by rw [hs.2]; decide) (by rw [hs.2]; decide) hd, h0, hm]
      have : nI 0 * nI 10 + f p - nI 48 = nI 1 + (f p - nI 49) := by
        have e0 : nI 0 = 0 := rfl
        have e2 : nI 49 = nI 48 + nI 1 := by decide
        rw [e0, e2]; grind
      rw [this]
    by_cases hO : zMnO f n p false = true
    · -- a second digit
      have hO2 := hO
      unfold zMnO at hO2
      rw [w1', p1', Bool.or_eq_true, Bool.and_eq_true, Bool.and_eq_true, decide_eq_true_eq, decide_eq_true_eq, zIn_f, zIn_f, hm, zMnM_1, zMnM_2] at hO2
      have h3 : p + 1 < n ∧ zbe (f (p + 1)) (nI 48) (nI 57) = true ∧ zPlA (zDg (f p)) (f (p + 1)) = some 6 ∧ ((f p).toInt - 48) * 10 + (f (p + 1)).toInt - 48 ≤ 20 := by
        rcases hO2 with ⟨a, b, d⟩ | ⟨a, b, d⟩
        · have d2 := (zbe_iff (f (p + 1)) (a := 48) (b := 57) (by omega) (by omega)).mp d
          refine ⟨b, d, ?_, by rw [a, h49]; omega⟩
          unfold zDg; rw [if_pos a]
          show (if zbe (f (p + 1)) (nI 48) (nI 57) = true then some 6 else _) = _
          rw [if_pos d]
        · have d1 := (zbe_one _ _).mp d
          have d2 := (zbe_iff (f (p + 1)) (a := 48) (b := 48) (by omega) (by omega)).mp d
          have h50 : (nI 50).toInt = 50 := nI_toInt (by omega)
          refine ⟨b, (zbe_iff _ (by omega) (by omega)).mpr ⟨d2.1, by omega⟩, ?_, by rw [a, h50]; omega⟩
          unfold zDg; rw [a]
          show (if f (p + 1) = nI 48 then some 6 else _) = _
          rw [if_pos d1]
      obtain ⟨b1, b2, b3, b4⟩ := h3
      have b5 := (zbe_iff (f (p + 1)) (a := 48) (b := 57) (by omega) (by omega)).mp b2
      have c1 : zTc f n (p + 1) = f (p + 1) := if_pos b1
      have w2 : zTw f n (nI 48) (nI 57) (p + 1) false = false := by unfold zTw; rw [c1, b2]; rfl
      have eW : zMnW f n p false = false := by unfold zMnW; rw [if_pos hO, p1', w1', w2]
      have eP : zMnP f n p false = p + 1 + 1 := by
        unfold zMnP; rw [if_pos hO, p1', w1']; exact if_neg (by rw [w2]; decide)
      have eV : zMnV f n p false = nI 10 * zMnM f n p + (f (p + 1) - nI 48) := by unfold zMnV; rw [if_pos hO, p1', c1]
      have hst2 := zStt_go hst b3
      rw [eW, eP, eV]
      refine ⟨rfl, by omega, ⟨6, by omega, hst2, fun _ => rfl⟩, ?_, fun wa h0 => ?_⟩
      · have m1 : (nI 10 * zMnM f n p).toInt = 10 * ((f p).toInt - 48) := by
          rw [zg_mul (by rw [h10, hmi]; omega) (by rw [h10, hmi]; omega), h10, hmi]
        have m2 : (f (p + 1) - nI 48).toInt = (f (p + 1)).toInt - 48 := by rw [zg_sub (by omega) (by omega), h48]
        unfold zRg
        rw [zg_add (by omega) (by omega), m1, m2]
        omega
      · have e1 := hA1 wa h0
        have hq : zPn f (p + 1) = zDg (f p) := hst.2
        have hq4 : 4 ≤ zDg (f p) := by unfold zDg; split <;> (try split) <;> omega
        rw [zAd_d (k := p + 1) (by rw [hq]; omega) (by rw [hq]; omega) b2, e1]
        have : zMnM f n p * nI 10 + f (p + 1) - nI 48 = nI 10 * zMnM f n p + (f (p + 1) - nI 48) := by grind
        rw [this]
    · have hO' : zMnO f n p false = false := Bool.eq_false_iff.mpr hO
      have eW : zMnW f n p false = false := by unfold zMnW; rw [if_neg hO, w1']
      have eP : zMnP f n p false = p + 1 := by unfold zMnP; rw [if_neg hO, p1']
      have eV : zMnV f n p false = zMnM f n p := by unfold zMnV; rw [if_neg hO]
      rw [eW, eP, eV]
      refine ⟨rfl, by omega, ⟨zDg (f p), by unfold zDg; split <;> (try split) <;> omega, hst, fun hlt2 => ?_⟩, ?_, hA1⟩
      · have hO2 := hO
        unfold zMnO at hO2
        rw [w1', p1', Bool.or_eq_true, Bool.and_eq_true, Bool.and_eq_true, decide_eq_true_eq, decide_eq_true_eq, zIn_f, zIn_f, hm, zMnM_1, zMnM_2] at hO2
        unfold zDg
        by_cases a : f p = nI 49
        · rw [if_pos a]
          show (if zbe (f (p + 1)) (nI 48) (nI 57) = true then some 6 else zPlW (f (p + 1))) = _
          rw [if_neg (fun z => hO2 (Or.inl ⟨a, hlt2, z⟩))]
        · rw [if_neg a]
          by_cases b : f p = nI 50
          · rw [if_pos b]
            show (if f (p + 1) = nI 48 then some 6 else zPlW (f (p + 1))) = _
            rw [if_neg (fun z => hO2 (Or.inr ⟨b, hlt2, (zbe_one _ _).mpr z⟩))]
          · rw [if_neg b]; rfl
      · unfold zRg; rw [hmi]; omega
  · left
    have w1' : zMnW1 f n p false = true := w1
    have p1' : zMnP1 f n p false = p := p1
    have hO : zMnO f n p false = false := by
      unfold zMnO; rw [w1', zIn_t, zIn_t, Bool.and_false, Bool.and_false]; rfl
    refine ⟨?_, ?_, hf⟩
    · unfold zMnW; rw [hO, if_neg (by decide), w1']
    · unfold zMnP; rw [hO, if_neg (by decide), p1']
theorem zMn_t {p : Nat} : zMnW f n p true = true ∧ zMnP f n p true = p := by
  have w1' : zMnW1 f n p true = true := rfl
  have p1' : zMnP1 f n p true = p := zTp_t
  have hO : zMnO f n p true = false := by
    unfold zMnO; rw [w1', zIn_t, zIn_t, Bool.and_false, Bool.and_false]; rfl
  refine ⟨?_, ?_⟩
  · unfold zMnW; rw [hO, if_neg (by decide), w1']
  · unfold zMnP; rw [hO, if_neg (by decide), p1']
end TX
