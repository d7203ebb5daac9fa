/-! whole texts, both ways -/
def zEnd (f : Nat → Int32) (n p : Nat) : Prop := ∃ r, 4 ≤ r ∧ zStt f p r ∧ (p < n → zPlA r (f p) = if f p = nI 59 then some 0 else none)
def zRlT (isD : Bool) (c : zCl) (s0 : Nat → Int32) (W : Nat → Nat → Int32) (s : Nat → Int32) : Prop := if isD = true then zOc ((zCl.mk c.st c.dy c.x c.br c.sp (W) c.ac c.ps c.pp c.pu c.lo c.un c.op c.pi c.cn c.vl c.du c.io c.hp c.hs)) s else s = s0
theorem zAwU_at (W : Nat → Nat → Int32) {m g : Nat} (hm : m < 6) (hg : g < 8) (v : Int32) : zAwU W (nI m) (nI g) v = va_up W m (upd (W m) g (zMin20 (W m g + v))) := by
  unfold zAwU zDstr
  rw [zix_nI hm (by omega), zix_nI hg (by omega)]
  rfl
theorem zRlT_step {isD : Bool} {c : zCl} {s0 s : Nat → Int32} {W : Nat → Nat → Int32} (h : zRlT isD c s0 W s) {m g : Nat} (hm : m < 6) (hg : g < 8) {v : Int32} (hv : zRg v 1 20) : zRlT isD c s0 (zAwU W (nI m) (nI g) v) (if isD = true then upd s (15 + 22 * m + (14 + g)) (if s (15 + 22 * m + (14 + g)) + v ≤ nI 20 then s (15 + 22 * m + (14 + g)) + v else nI 20) else s) := by
  cases isD with
  | false => exact h
  | true =>
    have h' : zOc ((zCl.mk c.st c.dy c.x c.br c.sp (W) c.ac c.ps c.pp c.pu c.lo c.un c.op c.pi c.cn c.vl c.du c.io c.hp c.hs)) s := h
    rw [if_pos rfl]
    have e : s (15 + 22 * m + (14 + g)) = W m g := by
      have := (h'.2.1.2.2.2.1 m hm g hg).2
      rw [zpq_wa] at this; exact this
    have hb := (h'.2.2.1.2.2.2.2 m hm g hg).2
    rw [zpq_wa] at hb
    have h20 : (nI 20).toInt = 20 := nI_toInt (by omega)
    obtain ⟨b1, b2⟩ := hb
    obtain ⟨v1, v2⟩ := hv
    have ha := zg_add (a := W m g) (b := v) (by omega) (by omega)
    have e2 : (if W m g + v ≤ nI 20 then W m g + v else nI 20) = zMin20 (W m g + v) := by
      unfold zMin20
      by_cases q : W m g + v ≤ nI 20
      · rw [if_pos q, if_neg (Int32.not_lt.mpr q)]
      · rw [if_neg q, if_pos (Int32.not_le.mp q)]
    have hr : zRg (zMin20 (W m g + v)) 0 20 := by
      unfold zMin20
      split
      · unfold zRg; omega
      · rename_i q
        rw [Int32.lt_iff_toInt_lt] at q
        unfold zRg; omega
    have h3 := zOc_wa h' hm hg hr
    simp only [zpq_st, zpq_dy, zpq_x, zpq_br, zpq_sp, zpq_wa, zpq_ac, zpq_ps, zpq_pp, zpq_pu, zpq_lo, zpq_un, zpq_op, zpq_pi, zpq_cn, zpq_vl, zpq_du, zpq_io, zpq_hp, zpq_hs] at h3
    show zOc ((zCl.mk c.st c.dy c.x c.br c.sp (zAwU W (nI m) (nI g) v) c.ac c.ps c.pp c.pu c.lo c.un c.op c.pi c.cn c.vl c.du c.io c.hp c.hs)) _
    rw [e, e2, zAwU_at W hm hg]
    exact h3
section TY
variable {f : Nat → Int32} {n : Nat} {isD : Bool} {mi : Nat}
theorem zW_44 : zPlW (nI 44) = some 1 := rfl
theorem zW_n44 {c : Int32} (h : ¬ c = nI 44) : zPlW c = if c = nI 59 then some 0 else none := by
  unfold zPlW; rw [if_neg h]
/-- one want -/
theorem zPa1_is {s : Nat → Int32} {p : Nat} {mo : Bool} (hs : zStt f p 1) (hp : p ≤ n) :
    ((zPa1 f n isD mi (s, p, false, mo)).2.2.1 = true ∧ (zPa1 f n isD mi (s, p, false, mo)).2.2.2 = false ∧ zFx f n = nI (zPa1 f n isD mi (s, p, false, mo)).2.1) ∨
    ((zPa1 f n isD mi (s, p, false, mo)).2.2.1 = false ∧ (zPa1 f n isD mi (s, p, false, mo)).2.1 ≤ n ∧ zbe (zTc f n p) (nI 48) (nI 55) = true ∧ ∃ gi v, gi < 8 ∧ zRg v 1 20 ∧ (zPa1 f n isD mi (s, p, false, mo)).1 = (if isD = true then upd s (15 + 22 * mi + (14 + gi)) (if s (15 + 22 * mi + (14 + gi)) + v ≤ nI 20 then s (15 + 22 * mi + (14 + gi)) + v else nI 20) else s) ∧
      (((zPa1 f n isD mi (s, p, false, mo)).2.2.2 = true ∧ zStt f (zPa1 f n isD mi (s, p, false, mo)).2.1 1 ∧ ∀ wa, zAdS wa f (zPa1 f n isD mi (s, p, false, mo)).2.1 = ((zAdS wa f p).1, nI gi, v, zAwU (zAdS wa f p).2.2.2 (zAdS wa f p).1 (nI gi) v)) ∨
       ((zPa1 f n isD mi (s, p, false, mo)).2.2.2 = false ∧ zEnd f n (zPa1 f n isD mi (s, p, false, mo)).2.1 ∧ ∀ wa, zAdS wa f (zPa1 f n isD mi (s, p, false, mo)).2.1 = ((zAdS wa f p).1, nI gi, v, (zAdS wa f p).2.2.2)))) := by
  rcases zTk (n := n) (lo := 48) (hi := 55) (fun _ => 2) hs hp (by omega) (by omega) (by omega) zA_1 with ⟨w1, p1, hlt, hb, hc, hst⟩ | ⟨w1, p1, hf⟩
  · obtain ⟨g8, ge⟩ := zGi_ok hb
    rcases zTk (n := n) (lo := 58) (hi := 58) (fun _ => 3) hst (by omega) (by omega) (by omega) (by omega) zA_2 with ⟨w2, p2, hlt2, hb2, hc2, hst2⟩ | ⟨w2, p2, hf⟩
    · have hA1 : ∀ wa, zAdS wa f (p + 1) = ((zAdS wa f p).1, nI (zGi (f p)), nI 0, (zAdS wa f p).2.2.2) := by
        intro wa; rw [zAd_1 hs.2, ge]
      have h58 := (zbe_one _ _).mp hb2
      have hA2 : ∀ wa, zAdS wa f (p + 1 + 1) = ((zAdS wa f p).1, nI (zGi (f p)), nI 0, (zAdS wa f p).2.2.2) := by
        intro wa
        rw [zAd_c (by rw [hst.2]; decide) (by rw [hst.2]; decide) (by rw [h58]; decide) h58, hA1]
      rcases zMn (n := n) hst2 (by omega) with ⟨w3, p3, hf⟩ | ⟨w3, p3, ⟨r, hr4, hst3, hnx⟩, hv, hA3⟩
      · left
        have e : zPa1 f n isD mi (s, p, false, mo) = ((zPa1 f n isD mi (s, p, false, mo)).1, p + 1 + 1, true, false) := by
          unfold zPa1; dsimp only
          rw [w1, p1, w2, p2, w3, p3, zIn_t]
          rfl
        rw [e]
        exact ⟨rfl, rfl, hf⟩
      · right
        have hA4 : ∀ wa, zAdS wa f (zMnP f n (p + 1 + 1) false) = ((zAdS wa f p).1, nI (zGi (f p)), zMnV f n (p + 1 + 1) false, (zAdS wa f p).2.2.2) := by
          intro wa
          rw [hA3 wa (by rw [hA2]), hA2]
        have e : zPa1 f n isD mi (s, p, false, mo) = ((if isD = true then upd s (15 + 22 * mi + (14 + zGi (f p))) (if s (15 + 22 * mi + (14 + zGi (f p))) + zMnV f n (p + 1 + 1) false ≤ nI 20 then s (15 + 22 * mi + (14 + zGi (f p))) + zMnV f n (p + 1 + 1) false else nI 20) else s), (if zIn f n (nI 44) (nI 44) (zMnP f n (p + 1 + 1) false) false = true then zMnP f n (p + 1 + 1) false + 1 else zMnP f n (p + 1 + 1) false), false, zIn f n (nI 44) (nI 44) (zMnP f n (p + 1 + 1) false) false) := by
          unfold zPa1; dsimp only
          rw [w1, p1, w2, p2, w3, hc]
        have hz01 : ¬ zPn f (zMnP f n (p + 1 + 1) false) = 0 ∧ ¬ zPn f (zMnP f n (p + 1 + 1) false) = 1 := by rw [hst3.2]; omega
        rw [e]
        dsimp only
        by_cases hO : zIn f n (nI 44) (nI 44) (zMnP f n (p + 1 + 1) false) false = true
        · obtain ⟨o1, o2⟩ := zIn_f.mp hO
          have o3 := (zbe_one _ _).mp o2
          rw [if_pos hO]
          refine ⟨rfl, by omega, by rw [hc]; exact hb, zGi (f p), zMnV f n (p + 1 + 1) false, g8, hv, rfl, Or.inl ⟨hO, ?_, fun wa => ?_⟩⟩
          · exact zStt_go hst3 (by rw [hnx o1, o3]; rfl)
          · rw [zAd_w hz01.1 hz01.2 (by rw [o3]; decide) (by rw [o3]; decide), hA4]
        · rw [if_neg hO]
          refine ⟨rfl, p3, by rw [hc]; exact hb, zGi (f p), zMnV f n (p + 1 + 1) false, g8, hv, rfl, Or.inr ⟨Bool.eq_false_iff.mpr hO, ⟨r, hr4, hst3, fun hl => ?_⟩, hA4⟩⟩
          rw [hnx hl]
          exact zW_n44 (fun z => hO (zIn_f.mpr ⟨hl, (zbe_one _ _).mpr z⟩))
    · left
      have e : zPa1 f n isD mi (s, p, false, mo) = ((zPa1 f n isD mi (s, p, false, mo)).1, p + 1, true, false) := by
        unfold zPa1; dsimp only
        rw [w1, p1, w2, p2, zMn_t.1, zMn_t.2, zIn_t]
        rfl
      rw [e]
      exact ⟨rfl, rfl, hf⟩
  · left
    have e : zPa1 f n isD mi (s, p, false, mo) = ((zPa1 f n isD mi (s, p, false, mo)).1, p, true, false) := by
      unfold zPa1; dsimp only
      rw [w1, p1, zTw_t, zTp_t, zMn_t.1, zMn_t.2, zIn_t]
      rfl
    rw [e]
    exact ⟨rfl, rfl, hf⟩
theorem zPa1_t (q : zQt) (hw : q.2.2.1 = true) : (zPa1 f n isD mi q).2.1 = q.2.1 ∧ (zPa1 f n isD mi q).2.2.1 = true := by
  obtain ⟨s, p, w, mo⟩ := q
  dsimp only at hw
  subst hw
  have e : zPa1 f n isD mi (s, p, true, mo) = ((zPa1 f n isD mi (s, p, true, mo)).1, p, true, false) := by
    unfold zPa1; dsimp only
    rw [zTw_t, zTp_t, zTw_t, zTp_t, zMn_t.1, zMn_t.2, zIn_t]
    rfl
  rw [e]
  exact ⟨rfl, rfl⟩
theorem zPaS_t (q : zQt) (hw : q.2.2.1 = true) : ∀ k, (zPaS f n isD mi q k).2.1 = q.2.1 ∧ (zPaS f n isD mi q k).2.2.1 = true
  | 0 => ⟨rfl, hw⟩
  | k + 1 => by
    obtain ⟨h1, h2⟩ := zPaS_t q hw k
    have := zPa1_t (isD := isD) (mi := mi) (f := f) (n := n) (zPaS f n isD mi q k) h2
    exact ⟨this.1.trans h1, this.2⟩
/-- the wants of a part, as long as there are more -/
theorem zPaS_is {c : zCl} {s0 : Nat → Int32} (hmi : mi < 6) (q : zQt) (hw : q.2.2.1 = false) (hm : q.2.2.2 = true) (hs : zStt f q.2.1 1) (hp : q.2.1 ≤ n) (wa : Nat → Nat → Int32) (ha : (zAdS wa f q.2.1).1 = nI mi) (hr : zRlT isD c s0 (zAdS wa f q.2.1).2.2.2 q.1) : ∀ k, (∀ j, j ≤ k → (zPaS f n isD mi q j).2.2.2 = true) → (zPaS f n isD mi q k).2.2.1 = false ∧ zStt f (zPaS f n isD mi q k).2.1 1 ∧ (zAdS wa f (zPaS f n isD mi q k).2.1).1 = nI mi ∧ zRlT isD c s0 (zAdS wa f (zPaS f n isD mi q k).2.1).2.2.2 (zPaS f n isD mi q k).1
  | 0, _ => ⟨hw, hs, ha, hr⟩
  | k + 1, hj => by
    obtain ⟨i1, i2, i3, i4⟩ := zPaS_is hmi q hw hm hs hp wa ha hr k (fun j h => hj j (by omega))
    have hle := zPaS_le (f := f) (isD := isD) (mi := mi) hp k
    have hmo := hj (k + 1) (Nat.le_refl _)
    have e : zPaS f n isD mi q (k + 1) = zPa1 f n isD mi (zPaS f n isD mi q k) := rfl
    rw [e] at hmo ⊢
    generalize zPaS f n isD mi q k = q' at *
    obtain ⟨s, p, w, mo⟩ := q'
    dsimp only at i1 i2 i3 i4 hle
    subst i1
    rcases zPa1_is (isD := isD) (mi := mi) (s := s) (mo := mo) i2 hle with ⟨-, a2, -⟩ | ⟨a1, a2, a3, gi, v, a4, a5, a6, ⟨b1, b2, b3⟩ | ⟨b1, -, -⟩⟩
    · rw [a2] at hmo; cases hmo
    · refine ⟨a1, b2, ?_, ?_⟩
      · rw [b3]; exact i3
      · rw [b3, a6, i3]; exact zRlT_step i4 hmi a4 a5
    · rw [b1] at hmo; cases hmo
/-- a part -/
theorem zPaE_is {c : zCl} {s0 s : Nat → Int32} {p : Nat} {mo : Bool} (hn : n ≤ 60) (hs : zStt f p 0) (hp : p ≤ n) (wa : Nat → Nat → Int32) (hr : zRlT isD c s0 (zAdS wa f p).2.2.2 s) :
    ((zPaE f n isD (s, p, false, mo)).2.2.1 = true ∧ zFx f n = nI (zPaE f n isD (s, p, false, mo)).2.1) ∨
    ((zPaE f n isD (s, p, false, mo)).2.2.1 = false ∧ zEnd f n (zPaE f n isD (s, p, false, mo)).2.1 ∧ zPaG f n isD (s, p, false, mo) ∧ zRlT isD c s0 (zAwU (zAdS wa f (zPaE f n isD (s, p, false, mo)).2.1).2.2.2 (zAdS wa f (zPaE f n isD (s, p, false, mo)).2.1).1 (zAdS wa f (zPaE f n isD (s, p, false, mo)).2.1).2.1 (zAdS wa f (zPaE f n isD (s, p, false, mo)).2.1).2.2.1) (zPaE f n isD (s, p, false, mo)).1) := by
  rcases zTk (n := n) (lo := 97) (hi := 102) (fun _ => 1) hs hp (by omega) (by omega) (by omega) zA_0 with ⟨w1, p1, hlt, hb, hc, hst⟩ | ⟨w1, p1, hf⟩
  · obtain ⟨m6, me⟩ := zMb_ok hb
    have eq : zPaQ f n (s, p, false, mo) = (s, p + 1, false, true) := by
      unfold zPaQ; dsimp only; rw [w1, p1]
    have hA : zAdS wa f (p + 1) = (nI (zMb (f p)), (zAdS wa f p).2.1, (zAdS wa f p).2.2.1, (zAdS wa f p).2.2.2) := by
      rw [zAd_0 hs.2, me]
    have hE : zPaE f n isD (s, p, false, mo) = zPaS f n isD (zMb (f p)) (s, p + 1, false, true) (zPaN f n isD (zMb (f p)) (s, p + 1, false, true)) := by
      unfold zPaE; dsimp only; rw [hc, eq]
    have hend := zPaN_end (f := f) (isD := isD) (mi := zMb (f p)) (q := (s, p + 1, false, true)) hn (by dsimp only; omega)
    have hN : 0 < zPaN f n isD (zMb (f p)) (s, p + 1, false, true) := by
      rcases Nat.eq_zero_or_pos (zPaN f n isD (zMb (f p)) (s, p + 1, false, true)) with z | z
      · rw [z] at hend; cases hend
      · exact z
    obtain ⟨N, hNe⟩ : ∃ N, zPaN f n isD (zMb (f p)) (s, p + 1, false, true) = N + 1 := ⟨zPaN f n isD (zMb (f p)) (s, p + 1, false, true) - 1, by omega⟩
    have hall : ∀ k, k ≤ N → (zPaS f n isD (zMb (f p)) (s, p + 1, false, true) k).2.2.1 = false ∧ zStt f (zPaS f n isD (zMb (f p)) (s, p + 1, false, true) k).2.1 1 ∧ (zAdS wa f (zPaS f n isD (zMb (f p)) (s, p + 1, false, true) k).2.1).1 = nI (zMb (f p)) ∧ zRlT isD c s0 (zAdS wa f (zPaS f n isD (zMb (f p)) (s, p + 1, false, true) k).2.1).2.2.2 (zPaS f n isD (zMb (f p)) (s, p + 1, false, true) k).1 := by
      intro k hk
      exact zPaS_is m6 (s, p + 1, false, true) rfl rfl hst (by dsimp only; omega) wa (by dsimp only; rw [hA]) (by dsimp only; rw [hA]; exact hr) k (fun j hj => zPaN_more (by omega))
    have hdig : ∀ k, k < N → zbe (zTc f n (zPaS f n isD (zMb (f p)) (s, p + 1, false, true) k).2.1) (nI 48) (nI 55) = true := by
      intro k hk
      obtain ⟨i1, i2, -, -⟩ := hall k (by omega)
      have hle := zPaS_le (f := f) (n := n) (isD := isD) (mi := zMb (f p)) (q := (s, p + 1, false, true)) (by dsimp only; omega) k
      have hmo : (zPaS f n isD (zMb (f p)) (s, p + 1, false, true) (k + 1)).2.2.2 = true := zPaN_more (by omega)
      have e : zPaS f n isD (zMb (f p)) (s, p + 1, false, true) (k + 1) = zPa1 f n isD (zMb (f p)) (zPaS f n isD (zMb (f p)) (s, p + 1, false, true) k) := rfl
      rw [e] at hmo
      generalize zPaS f n isD (zMb (f p)) (s, p + 1, false, true) k = q' at *
      obtain ⟨s', p', w', mo'⟩ := q'
      dsimp only at i1 i2 hle
      subst i1
      rcases zPa1_is (isD := isD) (mi := zMb (f p)) (s := s') (mo := mo') i2 hle with ⟨-, a2, -⟩ | ⟨a1, a2, a3, -⟩
      · rw [a2] at hmo; cases hmo
      · exact a3
    obtain ⟨i1, i2, i3, i4⟩ := hall N (Nat.le_refl _)
    have hle := zPaS_le (f := f) (n := n) (isD := isD) (mi := zMb (f p)) (q := (s, p + 1, false, true)) (by dsimp only; omega) N
    have hG : zbe (zTc f n (zPaS f n isD (zMb (f p)) (s, p + 1, false, true) N).2.1) (nI 48) (nI 55) = true → zPaG f n isD (s, p, false, mo) := by
      intro hd
      unfold zPaG
      dsimp only
      intro _
      rw [hc, eq, hNe]
      refine ⟨hb, fun k hk => ?_⟩
      rcases Nat.eq_or_lt_of_le (show k ≤ N by omega) with z | z
      · subst z; exact hd
      · exact hdig k z
    rw [hE]
    rw [hNe] at hend ⊢
    have e : zPaS f n isD (zMb (f p)) (s, p + 1, false, true) (N + 1) = zPa1 f n isD (zMb (f p)) (zPaS f n isD (zMb (f p)) (s, p + 1, false, true) N) := rfl
    rw [e] at hend ⊢
    generalize zPaS f n isD (zMb (f p)) (s, p + 1, false, true) N = q' at *
    obtain ⟨s', p', w', mo'⟩ := q'
    dsimp only at i1 i2 i3 i4 hle hG
    subst i1
    rcases zPa1_is (isD := isD) (mi := zMb (f p)) (s := s') (mo := mo') i2 hle with ⟨a1, -, a3⟩ | ⟨a1, a2, a3, gi, v, a4, a5, a6, ⟨b1, -, -⟩ | ⟨b1, b2, b3⟩⟩
    · left; exact ⟨a1, a3⟩
    · rw [b1] at hend; cases hend
    · right
      refine ⟨a1, b2, hG a3, ?_⟩
      rw [b3, a6, i3]
      exact zRlT_step i4 m6 a4 a5
  · left
    have eq : zPaQ f n (s, p, false, mo) = (s, p, true, true) := by
      unfold zPaQ; dsimp only; rw [w1, p1]
    unfold zPaE
    dsimp only
    rw [eq]
    have := zPaS_t (f := f) (n := n) (isD := isD) (mi := zMb (zTc f n p)) (s, p, true, true) rfl (zPaN f n isD (zMb (zTc f n p)) (s, p, true, true))
    refine ⟨this.2, ?_⟩
    rw [this.1]; exact hf
/-- a part and what stands behind it -/
theorem zGo1_is {c : zCl} {s0 s : Nat → Int32} {p : Nat} {mo : Bool} (hn : n ≤ 60) (hs : zStt f p 0) (hp : p ≤ n) (wa : Nat → Nat → Int32) (hr : zRlT isD c s0 (zAdS wa f p).2.2.2 s) :
    ((zGo1 f n isD (s, p, false, mo)).2.2.1 = true ∧ (zGo1 f n isD (s, p, false, mo)).2.2.2 = false ∧ zFx f n = nI (zGo1 f n isD (s, p, false, mo)).2.1) ∨
    ((zGo1 f n isD (s, p, false, mo)).2.2.1 = false ∧ zPaG f n isD (s, p, false, mo) ∧
      (((zGo1 f n isD (s, p, false, mo)).2.2.2 = true ∧ zStt f (zGo1 f n isD (s, p, false, mo)).2.1 0 ∧ zRlT isD c s0 (zAdS wa f (zGo1 f n isD (s, p, false, mo)).2.1).2.2.2 (zGo1 f n isD (s, p, false, mo)).1) ∨
       ((zGo1 f n isD (s, p, false, mo)).2.2.2 = false ∧ zFx f n = -100006 ∧ zRlT isD c s0 (zAdW wa f n) (zGo1 f n isD (s, p, false, mo)).1))) := by
  have hle := zPaE_le (f := f) (n := n) (isD := isD) (q := (s, p, false, mo)) hp
  have eG : zGo1 f n isD (s, p, false, mo) = if (zPaE f n isD (s, p, false, mo)).2.2.1 = false ∧ (zPaE f n isD (s, p, false, mo)).2.1 < n then ((zPaE f n isD (s, p, false, mo)).1, zTp f n (nI 59) (nI 59) (zPaE f n isD (s, p, false, mo)).2.1 (zPaE f n isD (s, p, false, mo)).2.2.1, zTw f n (nI 59) (nI 59) (zPaE f n isD (s, p, false, mo)).2.1 (zPaE f n isD (s, p, false, mo)).2.2.1, !zTw f n (nI 59) (nI 59) (zPaE f n isD (s, p, false, mo)).2.1 (zPaE f n isD (s, p, false, mo)).2.2.1) else ((zPaE f n isD (s, p, false, mo)).1, (zPaE f n isD (s, p, false, mo)).2.1, (zPaE f n isD (s, p, false, mo)).2.2.1, false) := rfl
  have hE := zPaE_is (isD := isD) (mo := mo) (c := c) (s0 := s0) hn hs hp wa hr
  rw [eG]
  generalize zPaE f n isD (s, p, false, mo) = e at *
  obtain ⟨s', p', w', mo'⟩ := e
  dsimp only at hE hle ⊢
  rcases hE with ⟨a1, a2⟩ | ⟨a1, ⟨r, r4, hst, hnx⟩, hg, hrel⟩
  · subst a1
    rw [if_neg (fun z => by cases z.1)]
    left; exact ⟨rfl, rfl, a2⟩
  · subst a1
    rcases Nat.eq_or_lt_of_le hle with z | z
    · subst z
      rw [if_neg (fun z => by omega)]
      right
      exact ⟨rfl, hg, Or.inr ⟨rfl, zStt_end hst r4, hrel⟩⟩
    · rw [if_pos ⟨rfl, z⟩]
      have ec : zTc f n p' = f p' := if_pos z
      by_cases h59 : f p' = nI 59
      · right
        have ew : zTw f n (nI 59) (nI 59) p' false = false := by
          unfold zTw; rw [ec, (zbe_one _ _).mpr h59]; rfl
        have ep : zTp f n (nI 59) (nI 59) p' false = p' + 1 := if_neg (by rw [ew]; decide)
        rw [ew, ep]
        refine ⟨rfl, hg, Or.inl ⟨rfl, zStt_go hst (by rw [hnx z, if_pos h59]), ?_⟩⟩
        dsimp only
        rw [zAd_w (by rw [hst.2]; omega) (by rw [hst.2]; omega) (by rw [h59]; decide) (by rw [h59]; decide)]
        exact hrel
      · left
        have ew : zTw f n (nI 59) (nI 59) p' false = true := by
          unfold zTw
          rw [ec, Bool.eq_false_iff.mpr (fun z => h59 ((zbe_one _ _).mp z))]; rfl
        have ep : zTp f n (nI 59) (nI 59) p' false = p' := if_pos ew
        rw [ew, ep]
        exact ⟨rfl, rfl, zStt_no hst z (by rw [hnx z, if_neg h59])⟩
theorem zGoS_is {c : zCl} {s0 s : Nat → Int32} (hn : n ≤ 60) (wa : Nat → Nat → Int32) (hr : zRlT isD c s0 wa s) : ∀ k, (∀ j, j ≤ k → (zGoS f n isD s j).2.2.2 = true) → (zGoS f n isD s k).2.2.1 = false ∧ zStt f (zGoS f n isD s k).2.1 0 ∧ zRlT isD c s0 (zAdS wa f (zGoS f n isD s k).2.1).2.2.2 (zGoS f n isD s k).1 ∧ ∀ j, j < k → zPaG f n isD (zGoS f n isD s j)
  | 0, _ => ⟨rfl, ⟨fun j hj => absurd hj (Nat.not_lt_zero j), rfl⟩, hr, fun j hj => absurd hj (Nat.not_lt_zero j)⟩
  | k + 1, hj => by
    obtain ⟨i1, i2, i3, i4⟩ := zGoS_is hn wa hr k (fun j h => hj j (by omega))
    have hle := zGoS_le (f := f) (n := n) (isD := isD) (s := s) k
    have hmo := hj (k + 1) (Nat.le_refl _)
    have e : zGoS f n isD s (k + 1) = zGo1 f n isD (zGoS f n isD s k) := rfl
    have key : (zGo1 f n isD (zGoS f n isD s k)).2.2.1 = false ∧ zStt f (zGo1 f n isD (zGoS f n isD s k)).2.1 0 ∧ zRlT isD c s0 (zAdS wa f (zGo1 f n isD (zGoS f n isD s k)).2.1).2.2.2 (zGo1 f n isD (zGoS f n isD s k)).1 ∧ zPaG f n isD (zGoS f n isD s k) := by
      rw [e] at hmo
      generalize zGoS f n isD s k = q' at *
      obtain ⟨s', p', w', mo'⟩ := q'
      dsimp only at i1 i2 i3 hle
      subst i1
      rcases zGo1_is (isD := isD) (mo := mo') hn i2 hle wa i3 with ⟨-, a2, -⟩ | ⟨a1, a2, ⟨b1, b2, b3⟩ | ⟨b1, -, -⟩⟩
      · rw [a2] at hmo; cases hmo
      · exact ⟨a1, b2, b3, a2⟩
      · rw [b1] at hmo; cases hmo
    rw [e]
    refine ⟨key.1, key.2.1, key.2.2.1, fun j hj2 => ?_⟩
    rcases Nat.eq_or_lt_of_le (show j ≤ k by omega) with z | z
    · subst z; exact key.2.2.2
    · exact i4 j z
/-- a text -/
theorem zGoE_is {c : zCl} {s0 s : Nat → Int32} (hn : n ≤ 60) (wa : Nat → Nat → Int32) (hr : zRlT isD c s0 wa s) :
    ((zGoE f n isD s).2.2.1 = true ∧ zFx f n = nI (zGoE f n isD s).2.1) ∨
    ((zGoE f n isD s).2.2.1 = false ∧ zFx f n = -100006 ∧ zGoG f n isD s ∧ zRlT isD c s0 (zAdW wa f n) (zGoE f n isD s).1) := by
  have hend := zGoN_end (f := f) (isD := isD) (s := s) hn
  have hN : 0 < zGoN f n isD s := by
    rcases Nat.eq_zero_or_pos (zGoN f n isD s) with z | z
    · rw [z] at hend; cases hend
    · exact z
  obtain ⟨N, hNe⟩ : ∃ N, zGoN f n isD s = N + 1 := ⟨zGoN f n isD s - 1, by omega⟩
  obtain ⟨i1, i2, i3, i4⟩ := zGoS_is (f := f) (n := n) (isD := isD) (s := s) hn wa hr N (fun j hj => zGoN_more (by omega))
  have hle := zGoS_le (f := f) (n := n) (isD := isD) (s := s) N
  have hG : zPaG f n isD (zGoS f n isD s N) → zGoG f n isD s := by
    intro h k hk
    rw [hNe] at hk
    rcases Nat.eq_or_lt_of_le (show k ≤ N by omega) with z | z
    · subst z; exact h
    · exact i4 k z
  unfold zGoE
  rw [hNe] at hend ⊢
  have e : zGoS f n isD s (N + 1) = zGo1 f n isD (zGoS f n isD s N) := rfl
  rw [e] at hend ⊢
  generalize zGoS f n isD s N = q' at *
  obtain ⟨s', p', w', mo'⟩ := q'
  dsimp only at i1 i2 i3 hle
  subst i1
  rcases zGo1_is (isD := isD) (mo := mo') hn i2 hle wa i3 with ⟨a1, -, a3⟩ | ⟨a1, a2, ⟨b1, -, -⟩ | ⟨b1, b2, b3⟩⟩
  · left; exact ⟨a1, a3⟩
  · rw [b1] at hend; cases hend
  · right; exact ⟨a1, b2, hG a2, b3⟩
end TY
