/-! the constructors -/
def zRow0 : Nat → Int32 := (upd (upd (upd (upd (upd (upd (upd (upd (upd (upd (fun _ => 0) 0 (nI 5)) 1 (nI 20)) 2 (nI 1)) 3 (nI 5)) 4 (nI 7)) 5 (nI 100)) 6 (nI 20)) 7 (nI 50)) 8 (nI 20)) 10 (nI 1))
theorem zTm_blk {G : zG} {M F : zM} {N ci K : Nat} {fs : List Value} (hK : 0 < K) (h0 : F (N + K) = some (zR (G.2.1 3) 6 (zRef6 (N + K + 1)))) (h1 : ∀ m, m < 6 → F (N + K + 1 + m) = some (zI (G.2.1 0) 8 (fun _ => 0))) : zTm G (zX M N ci fs F K) (N + K) = zX M N ci fs F (K + 7) := by
  refine zX_blk hK (fun q a1 a2 => ?_) (fun q hq => ?_)
  · rcases Nat.eq_or_lt_of_le a1 with h | h
    · subst h
      unfold zTm tbM
      rw [if_neg (by omega), zu_self, h0]
    · unfold zTm tbM
      rw [if_pos (by omega)]
      obtain ⟨m, rfl⟩ : ∃ m, q = N + K + 1 + m := ⟨q - (N + K + 1), by omega⟩
      exact (h1 m (by omega)).symm
  · unfold zTm tbM
    rw [if_neg (by omega), zu_ne _ _ (by omega)]
def zC0b : zCl := zCl.mk zFirst 0 1 (fun _ => 0) (fun _ _ => 0) (fun _ _ => 0) (fun _ => 0) (fun _ => 0) (fun _ => 0) (fun _ => 0) (fun _ => 0) 0 0 (fun i => i) (fun _ _ _ => 0) (fun _ => 0) (fun _ => 0) (fun _ => false) (fun _ => 0) (fun _ => 0)
def zPart5 (N k : Nat) : Nat → Option Nat := fun j => if j < k then some (N + (26 + 8 * j)) else none
theorem zPart5_0 (N : Nat) : zPart5 N 0 = fun _ => none := by funext j; unfold zPart5; rw [if_neg (by omega)]
theorem zPart5_s {N k : Nat} (hk : k < 5) : va_up (zPart5 N k) k (some (N + (26 + 8 * k))) = zPart5 N (k + 1) := by
  funext j
  by_cases h : j = k
  · subst h; rw [va_up_self]; unfold zPart5; rw [if_pos (by omega)]
  · rw [va_up_ne _ _ h]; unfold zPart5
    by_cases h2 : j < k
    · rw [if_pos h2, if_pos (by omega)]
    · rw [if_neg h2, if_neg (by omega)]
theorem zPart5_5 (N : Nat) : zPart5 N 5 = cbP N (fun i => i) := by
  funext j; unfold zPart5 cbP
  by_cases h : j < 5
  · rw [if_pos h, if_pos h]; show some (N + (26 + 8 * j)) = some (N + 26 + 8 * j); congr 1; omega
  · rw [if_neg h, if_neg h]
theorem zPc_at {G : zG} {M : zM} {N k : Nat} (hk : k < 5) : cbK G M N zC0b (N + (26 + 8 * k)) = some (zO 3 [.ref (N + (26 + 8 * k) + 1), .int 0, .int 0, .int 0]) := by
  have := cb_pcs (G := G) (M := M) (b := N) (st := zC0b.st) (dy := zC0b.dy) (x := zC0b.x) (br := zC0b.br) (sp := zC0b.sp) (wa := zC0b.wa) (ac := zC0b.ac) (ps := zC0b.ps) (pp := zC0b.pp) (pu := zC0b.pu) (lo := zC0b.lo) (un := nI zC0b.un) (op := zC0b.op) (pi := zC0b.pi) (cn := zC0b.cn) (vl := zC0b.vl) (du := zC0b.du) (io := zC0b.io) (hp := zC0b.hp) (hs := zC0b.hs) hk
  refine (congrFun this.symm (N + (26 + 8 * k))).trans ?_
  rw [show N + (26 + 8 * k) = N + 26 + 8 * k by omega]
  exact pc_o
section BLK
variable {G : zG} {M F F0 : zM} {N ci K : Nat} {fs : List Value}
theorem zSh_blkE {pt sr : Nat → Int32} (hK : 0 < K) (h : shM G F0 (N + K) pt sr = F0) (hF : ∀ q, N + K ≤ q → q < N + K + 3 → F q = F0 q) : shM G (zX M N ci fs F K) (N + K) pt sr = zX M N ci fs F (K + 3) := by
  refine zX_blk hK (fun q a1 a2 => ?_) (fun q hq => sh_out hq)
  rw [hF q a1 a2, ← h]
  unfold shM
  by_cases g1 : q = N + K
  · rw [if_pos g1, if_pos g1]
  · rw [if_neg g1, if_neg g1]
    by_cases g2 : q = N + K + 1
    · rw [if_pos g2, if_pos g2]
    · rw [if_neg g2, if_neg g2, if_pos (by omega), if_pos (by omega)]
theorem zSh_blk {pt sr : Nat → Int32} (hK : 0 < K) (h : shM G F (N + K) pt sr = F) : shM G (zX M N ci fs F K) (N + K) pt sr = zX M N ci fs F (K + 3) := zSh_blkE hK h (fun _ _ _ => rfl)
theorem zPc_blkE {cn : Nat → Nat → Int32} {vl du : Int32} {io : Bool} (hK : 0 < K) (h : pcM G F0 (N + K) cn vl du io = F0) (hF : ∀ q, N + K ≤ q → q < N + K + 8 → F q = F0 q) : pcM G (zX M N ci fs F K) (N + K) cn vl du io = zX M N ci fs F (K + 8) := by
  refine zX_blk hK (fun q a1 a2 => ?_) (fun q hq => pc_out hq)
  rw [hF q a1 a2, ← h]
  unfold pcM
  rw [if_pos ⟨a1, a2⟩, if_pos ⟨a1, a2⟩]
theorem zPd_blkE {sg : Nat → Int32} {pl : Int32} (hK : 0 < K) (h : pdM G F0 (N + K) sg pl = F0) (hF : ∀ q, N + K ≤ q → q < N + K + 2 → F q = F0 q) : pdM G (zX M N ci fs F K) (N + K) sg pl = zX M N ci fs F (K + 2) := by
  refine zX_blk hK (fun q a1 a2 => ?_) (fun q hq => pd_out hq)
  rw [hF q a1 a2, pd_in _ F0 a1 a2, h]
theorem zOd_blkE {d : zOd} (hK : 0 < K) (h : odK G F0 (N + K) d = F0) (hF : ∀ q, N + K ≤ q → q < N + K + 6 → F q = F0 q) : odK G (zX M N ci fs F K) (N + K) d = zX M N ci fs F (K + 6) := by
  refine zX_blk hK (fun q a1 a2 => ?_) (fun q hq => ok_out hq)
  rw [hF q a1 a2, ok_in _ F0 a1 a2, h]
theorem zCb_blkE {c : zCl} (hK : 0 < K) (h : cbK G F0 (N + K) c = F0) (hF : ∀ q, N + K ≤ q → q < N + K + 66 → F q = F0 q) : cbK G (zX M N ci fs F K) (N + K) c = zX M N ci fs F (K + 66) := by
  refine zX_blk hK (fun q a1 a2 => ?_) (fun q hq => ck_out hq)
  rw [hF q a1 a2, ck_in _ F0 a1 a2, h]
end BLK
def zD0 : zOd := zOd.mk (fun _ => 0) (fun _ => 0) 0 0 0 (fun _ => 0) (fun _ => 0)
theorem zu_swap {M : zM} {a b : Nat} {e e' : va_E} (h : a ≠ b) : zu (zu M a e) b e' = zu (zu M b e') a e := by
  funext q
  by_cases h1 : q = a
  · subst h1; rw [zu_ne _ _ h, zu_self, zu_self]
  · by_cases h2 : q = b
    · subst h2; rw [zu_self, zu_ne _ _ h1, zu_self]
    · rw [zu_ne _ _ h2, zu_ne _ _ h1, zu_ne _ _ h1, zu_ne _ _ h2]
def zPartH (N k : Nat) : Nat → Option Nat := fun j => if j < k then some (N + (144 + 66 * j)) else none
theorem zPartH_0 (N : Nat) : zPartH N 0 = fun _ => none := by funext j; unfold zPartH; rw [if_neg (by omega)]
theorem zPartH_s {N k : Nat} (hk : k < 6) : va_up (zPartH N k) k (some (N + (144 + 66 * k))) = zPartH N (k + 1) := by
  funext j
  by_cases h : j = k
  · subst h; rw [va_up_self]; unfold zPartH; rw [if_pos (by omega)]
  · rw [va_up_ne _ _ h]; unfold zPartH
    by_cases h2 : j < k
    · rw [if_pos h2, if_pos (by omega)]
    · rw [if_neg h2, if_neg (by omega)]
theorem zPartH_6 (N : Nat) : zPartH N 6 = hoH N (fun i => i) := by
  funext j; unfold zPartH hoH
  by_cases h : j < 6
  · rw [if_pos h, if_pos h]; show some (N + (144 + 66 * j)) = some (N + 144 + 66 * j); congr 1; omega
  · rw [if_neg h, if_neg h]
def zPartS (N k : Nat) : Nat → Option Nat := fun j => if j < k then some (N + (540 + 66 * j)) else none
theorem zPartS_0 (N : Nat) : zPartS N 0 = fun _ => none := by funext j; unfold zPartS; rw [if_neg (by omega)]
theorem zPartS_s {N k : Nat} (hk : k < 2) : va_up (zPartS N k) k (some (N + (540 + 66 * k))) = zPartS N (k + 1) := by
  funext j
  by_cases h : j = k
  · subst h; rw [va_up_self]; unfold zPartS; rw [if_pos (by omega)]
  · rw [va_up_ne _ _ h]; unfold zPartS
    by_cases h2 : j < k
    · rw [if_pos h2, if_pos (by omega)]
    · rw [if_neg h2, if_neg (by omega)]
theorem zPartS_2 (N : Nat) : zPartS N 2 = hoS N := by
  funext j; unfold zPartS hoS
  by_cases h : j < 2
  · rw [if_pos h, if_pos h]; show some (N + (540 + 66 * j)) = some (N + 540 + 66 * j); congr 1; omega
  · rw [if_neg h, if_neg h]
theorem zHi_at {G : zG} {M : zM} {N k : Nat} (hk : k < 6) : hoM G M N zC0b zC0b (fun _ => zC0b) (fun _ => zC0b) (nI 0) (fun i => i) (fun _ => false) (fun _ => 0) (nI 0) zD0 (N + (144 + 66 * k)) = some (zO 0 (cbF (N + 144 + 66 * k) zC0b.dy zC0b.x (nI zC0b.un) zC0b.op)) := by
  rw [show N + (144 + 66 * k) = N + 144 + 66 * k by omega]
  exact ho_rh hk
theorem zSl_at {G : zG} {M : zM} {N k : Nat} (hk : k < 2) : hoM G M N zC0b zC0b (fun _ => zC0b) (fun _ => zC0b) (nI 0) (fun i => i) (fun _ => false) (fun _ => 0) (nI 0) zD0 (N + (540 + 66 * k)) = some (zO 0 (cbF (N + 540 + 66 * k) zC0b.dy zC0b.x (nI zC0b.un) zC0b.op)) := by
  rw [show N + (540 + 66 * k) = N + 540 + 66 * k by omega]
  have h := ho_scs (G := G) (M := M) (a := N) (c := zC0b) (t := zC0b) (hc := fun _ => zC0b) (sc := fun _ => zC0b) (kp := nI 0) (hi := fun i => i) (sv := fun _ => false) (sg := fun _ => 0) (pl := nI 0) (d := zD0) hk
  exact (congrFun h.symm (N + 540 + 66 * k)).trans cb_o
theorem zdf_X5 : ∀ j, j < 8 → defaultValue (tyX5 j) = vp_V [.null, .null, .null, .int 0, .null, .null, .null, .null] j := by decide +kernel
theorem zdf_X0 : ∀ j, j < 15 → defaultValue (tyX0 j) = vp_V [.null, .int 0, .int 0, .null, .null, .null, .null, .null, .null, .null, .null, .null, .int 0, .int 0, .null] j := by decide +kernel
theorem zdf_X1 : ∀ j, j < 6 → defaultValue (tyX1 j) = vp_V [.null, .null, .int 0, .int 0, .int 0, .null] j := by decide +kernel
theorem zdf_X2 : ∀ j, j < 2 → defaultValue (tyX2 j) = vp_V [.null, .int 0] j := by decide +kernel
theorem zdf_X3 : ∀ j, j < 4 → defaultValue (tyX3 j) = vp_V [.null, .int 0, .int 0, .int 0] j := by decide +kernel
theorem zdf_X4 : ∀ j, j < 2 → defaultValue (tyX4 j) = vp_V [.null, .null] j := by decide +kernel
theorem c_X4_init (l : Launch) (G : zG) (M : zM) (N : Nat) : zC l G yX4_init cX4_init 1 none 1 12 2 12 [.ref N] (zu M N (zO 4 [.null, .null])) (N + 1) (zP none (shM G M N (fun _ => 0) (fun _ => 0))) := by
  refine zC.of (by decide +kernel) (Nat.le_of_ble_eq_true rfl) ?_
  intro K hKl ok
  subst hKl
  show zW K G 1 _ 0 0 _ _ 0 [(0, .ref N)] []
  refine zW.to (M' := zX M N 4 [.null, .null] (shM G M N (fun _ => 0) (fun _ => 0)) 1) ?_ zX_1 rfl rfl
  refine r_aload_n ok dX4_init_0 0 rfl rfl ?_
  refine r_oinit ok ml_X4_3 dX4_init_1 (Nat.le_of_ble_eq_true rfl) (Nat.le_of_ble_eq_true rfl) ?_
  refine r_aload_n ok dX4_init_4 0 rfl rfl ?_
  refine r_bipush ok (nI 6) dX4_init_5 (by rfl) ?_
  refine r_newaI ok (by omega) ⟨Nat.le_of_ble_eq_true rfl, Nat.le_of_ble_eq_true rfl⟩ dX4_init_7 ?_
  refine zW.to (M' := zX M N 4 [.null, .null] (shM G M N (fun _ => 0) (fun _ => 0)) 2) ?_ (zX_s (by omega) (sh_p)) rfl rfl
  refine zPut ok ci_X4 fl_X4_9 (by decide) (Or.inr ⟨rfl, rfl⟩) rfl rfl rfl dX4_init_9 zX_o ?_
  refine zW.to (M' := zX M N 4 [.ref (N + 1), .null] (shM G M N (fun _ => 0) (fun _ => 0)) 2) ?_ zX_w rfl rfl
  refine r_aload_n ok dX4_init_12 0 rfl rfl ?_
  refine r_bipush ok (nI 6) dX4_init_13 (by rfl) ?_
  refine r_newaI ok (by omega) ⟨Nat.le_of_ble_eq_true rfl, Nat.le_of_ble_eq_true rfl⟩ dX4_init_15 ?_
  refine zW.to (M' := zX M N 4 [.ref (N + 1), .null] (shM G M N (fun _ => 0) (fun _ => 0)) 3) ?_ (zX_s (by omega) (sh_s)) rfl rfl
  refine zPut ok ci_X4 fl_X4_15 (by decide) (Or.inr ⟨rfl, rfl⟩) rfl rfl rfl dX4_init_17 zX_o ?_
  refine zW.to (M' := zX M N 4 [.ref (N + 1), .ref (N + 2)] (shM G M N (fun _ => 0) (fun _ => 0)) 3) ?_ zX_w rfl rfl
  exact r_vret ok dX4_init_20 rfl ⟨rfl, zX_end (sh_o) (fun q hq => sh_out hq)⟩
theorem c_X2_init (l : Launch) (G : zG) (M : zM) (N : Nat) : zC l G yX2_init cX2_init 1 none 1 12 1 60 [.ref N] (zu M N (zO 2 [.null, .int 0])) (N + 1) (zP none (pdM G M N (fun _ => 0) 0)) := by
  refine zC.of (by decide +kernel) (Nat.le_of_ble_eq_true rfl) ?_
  intro K hKl ok
  subst hKl
  show zW K G 1 _ 0 0 _ _ 0 [(0, .ref N)] []
  refine zW.to (M' := zX M N 2 [.null, .int 0] (pdM G M N (fun _ => 0) 0) 1) ?_ zX_1 rfl rfl
  refine r_aload_n ok dX2_init_0 0 rfl rfl ?_
  refine r_oinit ok ml_X2_3 dX2_init_1 (Nat.le_of_ble_eq_true rfl) (Nat.le_of_ble_eq_true rfl) ?_
  refine r_aload_n ok dX2_init_4 0 rfl rfl ?_
  refine r_bipush ok (nI 60) dX2_init_5 (by rfl) ?_
  refine r_newaC ok (by omega) ⟨Nat.le_of_ble_eq_true rfl, Nat.le_of_ble_eq_true rfl⟩ dX2_init_7 ?_
  refine zW.to (M' := zX M N 2 [.null, .int 0] (pdM G M N (fun _ => 0) 0) 2) ?_ (zX_s (by omega) (pd_s)) rfl rfl
  refine zPut ok ci_X2 fl_X2_11 (by decide) (Or.inr ⟨rfl, rfl⟩) rfl rfl rfl dX2_init_9 zX_o ?_
  refine zW.to (M' := zX M N 2 [.ref (N + 1), .int 0] (pdM G M N (fun _ => 0) 0) 2) ?_ zX_w rfl rfl
  exact r_vret ok dX2_init_12 rfl ⟨rfl, zX_end (pd_o) (fun q hq => pd_out hq)⟩
theorem c_X3_init (l : Launch) (G : zG) (M : zM) (N : Nat) : zC l G yX3_init cX3_init 1 none 1 12 7 54 [.ref N] (zu M N (zO 3 [.null, .int 0, .int 0, .int 0])) (N + 1) (zP none (pcM G M N (fun _ _ => 0) 0 0 false)) := by
  refine zC.of (by decide +kernel) (Nat.le_of_ble_eq_true rfl) ?_
  intro K hKl ok
  subst hKl
  show zW K G 1 _ 0 0 _ _ 0 [(0, .ref N)] []
  refine zW.to (M' := zX M N 3 [.null, .int 0, .int 0, .int 0] (pcM G M N (fun _ _ => 0) 0 0 false) 1) ?_ zX_1 rfl rfl
  refine r_aload_n ok dX3_init_0 0 rfl rfl ?_
  refine r_oinit ok ml_X3_3 dX3_init_1 (Nat.le_of_ble_eq_true rfl) (Nat.le_of_ble_eq_true rfl) ?_
  refine r_aload_n ok dX3_init_4 0 rfl rfl ?_
  refine r_bipush ok (nI 6) dX3_init_5 (by rfl) ?_
  refine r_bipush ok (nI 8) dX3_init_7 (by rfl) ?_
  refine r_mna ok kl_X3_9 ⟨Nat.le_of_ble_eq_true rfl, Nat.le_of_ble_eq_true rfl⟩ dX3_init_9 ?_
  refine zW.to (M' := zX M N 3 [.null, .int 0, .int 0, .int 0] (pcM G M N (fun _ _ => 0) 0 0 false) 8) ?_ (zTm_blk (by omega) pc_c (fun m hm => pc_r hm)) rfl rfl
  refine zPut ok ci_X3 fl_X3_11 (by decide) (Or.inr ⟨rfl, rfl⟩) rfl rfl rfl dX3_init_13 zX_o ?_
  refine zW.to (M' := zX M N 3 [.ref (N + 1), .int 0, .int 0, .int 0] (pcM G M N (fun _ _ => 0) 0 0 false) 8) ?_ zX_w rfl rfl
  exact r_vret ok dX3_init_16 rfl ⟨rfl, zX_end (pc_o) (fun q hq => pc_out hq)⟩
theorem c_X1_init (l : Launch) (G : zG) (M : zM) (N : Nat) : zC l G yX1_init cX1_init 1 none 2 32 5 30 [.ref N] (zu M N (zO 1 [.null, .null, .int 0, .int 0, .int 0, .null])) (N + 1) (zP none (odM G M N (fun _ => 0) (fun _ => 0) 0 0 0 (fun _ => 0) (fun _ => 0))) := by
  refine zC.of (by decide +kernel) (Nat.le_of_ble_eq_true rfl) ?_
  intro K hKl ok
  subst hKl
  show zW K G 1 _ 0 0 _ _ 0 [(0, .ref N)] []
  refine zW.to (M' := zX M N 1 [.null, .null, .int 0, .int 0, .int 0, .null] (odM G M N (fun _ => 0) (fun _ => 0) 0 0 0 (fun _ => 0) (fun _ => 0)) 1) ?_ zX_1 rfl rfl
  refine r_aload_n ok dX1_init_0 0 rfl rfl ?_
  refine r_oinit ok ml_X1_3 dX1_init_1 (Nat.le_of_ble_eq_true rfl) (Nat.le_of_ble_eq_true rfl) ?_
  refine r_aload_n ok dX1_init_4 0 rfl rfl ?_
  refine r_bipush ok (nI 8) dX1_init_5 (by rfl) ?_
  refine r_newaI ok (by omega) ⟨Nat.le_of_ble_eq_true rfl, Nat.le_of_ble_eq_true rfl⟩ dX1_init_7 ?_
  refine zW.to (M' := zX M N 1 [.null, .null, .int 0, .int 0, .int 0, .null] (odM G M N (fun _ => 0) (fun _ => 0) 0 0 0 (fun _ => 0) (fun _ => 0)) 2) ?_ (zX_s (by omega) (od_g)) rfl rfl
  refine zPut ok ci_X1 fl_X1_9 (by decide) (Or.inr ⟨rfl, rfl⟩) rfl rfl rfl dX1_init_9 zX_o ?_
  refine zW.to (M' := zX M N 1 [.ref (N + 1), .null, .int 0, .int 0, .int 0, .null] (odM G M N (fun _ => 0) (fun _ => 0) 0 0 0 (fun _ => 0) (fun _ => 0)) 2) ?_ zX_w rfl rfl
  refine r_aload_n ok dX1_init_12 0 rfl rfl ?_
  refine r_bipush ok (nI 8) dX1_init_13 (by rfl) ?_
  refine r_newaI ok (by omega) ⟨Nat.le_of_ble_eq_true rfl, Nat.le_of_ble_eq_true rfl⟩ dX1_init_15 ?_
  refine zW.to (M' := zX M N 1 [.ref (N + 1), .null, .int 0, .int 0, .int 0, .null] (odM G M N (fun _ => 0) (fun _ => 0) 0 0 0 (fun _ => 0) (fun _ => 0)) 3) ?_ (zX_s (by omega) (od_p)) rfl rfl
  refine zPut ok ci_X1 fl_X1_15 (by decide) (Or.inr ⟨rfl, rfl⟩) rfl rfl rfl dX1_init_17 zX_o ?_
  refine zW.to (M' := zX M N 1 [.ref (N + 1), .ref (N + 2), .int 0, .int 0, .int 0, .null] (odM G M N (fun _ => 0) (fun _ => 0) 0 0 0 (fun _ => 0) (fun _ => 0)) 3) ?_ zX_w rfl rfl
  refine r_aload_n ok dX1_init_20 0 rfl rfl ?_
  refine r_new ok ci_X4 kl_X1_18 ia_X4 in_X4 [.null, .null] zdf_X4 ⟨Nat.le_of_ble_eq_true rfl, Nat.le_of_ble_eq_true rfl⟩ dX1_init_21 ?_
  refine r_dup ok dX1_init_24 rfl ?_
  refine r_cIN ok mi_X4_init mn_X1_20 im_X4_init rfl dX1_init_25 (c_X4_init K.2.1 G _ _) ⟨Nat.le_of_ble_eq_true rfl, Nat.le_of_ble_eq_true rfl⟩ (Nat.le_of_ble_eq_true rfl) ⟨Nat.le_of_ble_eq_true rfl, Nat.le_of_ble_eq_true rfl⟩ ?_
  refine zW.to (M' := zX M N 1 [.ref (N + 1), .ref (N + 2), .int 0, .int 0, .int 0, .null] (odM G M N (fun _ => 0) (fun _ => 0) 0 0 0 (fun _ => 0) (fun _ => 0)) 6) ?_ (zSh_blk (by omega) (od_sh _ _)) rfl rfl
  refine zPut ok ci_X1 fl_X1_21 (by decide) (Or.inr ⟨rfl, rfl⟩) rfl rfl rfl dX1_init_28 zX_o ?_
  refine zW.to (M' := zX M N 1 [.ref (N + 1), .ref (N + 2), .int 0, .int 0, .int 0, .ref (N + 3)] (odM G M N (fun _ => 0) (fun _ => 0) 0 0 0 (fun _ => 0) (fun _ => 0)) 6) ?_ zX_w rfl rfl
  exact r_vret ok dX1_init_31 rfl ⟨rfl, zX_end (od_o) (fun q hq => od_out hq)⟩
theorem c_X0_init (l : Launch) (G : zG) (M : zM) (N : Nat) : zC l G yX0_init cX0_init 2 none 2 32 65 462 [.ref N] (zu M N (zO 0 [.null, .int 0, .int 0, .null, .null, .null, .null, .null, .null, .null, .null, .null, .int 0, .int 0, .null])) (N + 1) (zP none (cbK G M N zC0b)) := by
  refine zC.of (by decide +kernel) (Nat.le_of_ble_eq_true rfl) ?_
  intro K hKl ok
  subst hKl
  obtain ⟨tF, ztF, atF⟩ := ok.2.2.2.2.1.2.2.2.1
  show zW K G 2 _ 0 0 _ _ 0 [(0, .ref N)] []
  refine zW.to (M' := zX M N 0 [.null, .int 0, .int 0, .null, .null, .null, .null, .null, .null, .null, .null, .null, .int 0, .int 0, .null] (zu (cbK G M N zC0b) (N + 22) (zR (G.2.1 4) 5 (zPart5 N 0))) 1) ?_ zX_1 rfl rfl
  refine r_aload_n ok dX0_init_0 0 rfl rfl ?_
  refine r_oinit ok ml_X0_3 dX0_init_1 (Nat.le_of_ble_eq_true rfl) (Nat.le_of_ble_eq_true rfl) ?_
  refine r_aload_n ok dX0_init_4 0 rfl rfl ?_
  refine r_getsN ok ztF fn_X0_9 dX0_init_5 ?_
  refine r_clone ok atF ml_X0_13 im_Object_clone___Ljava_lang_Object_ sx__I_clone___Ljava_lang_Object_ ⟨Nat.le_of_ble_eq_true rfl, Nat.le_of_ble_eq_true rfl⟩ (Nat.le_of_ble_eq_true rfl) (Nat.le_of_ble_eq_true rfl) dX0_init_8 ?_
  refine zW.to (M' := zX M N 0 [.null, .int 0, .int 0, .null, .null, .null, .null, .null, .null, .null, .null, .null, .int 0, .int 0, .null] (zu (cbK G M N zC0b) (N + 22) (zR (G.2.1 4) 5 (zPart5 N 0))) 2) ?_ (zX_s (by omega) ((zu_ne _ _ (by omega)).trans cb_st)) rfl rfl
  refine r_castI ok kl_X0_14 ((zX_in (by omega) (by omega)).trans ((zu_ne _ _ (by omega)).trans cb_st)) dX0_init_11 ?_
  refine zPut ok ci_X0 fl_X0_18 (by decide) (Or.inr ⟨rfl, rfl⟩) rfl rfl rfl dX0_init_14 zX_o ?_
  refine zW.to (M' := zX M N 0 [.ref (N + 1), .int 0, .int 0, .null, .null, .null, .null, .null, .null, .null, .null, .null, .int 0, .int 0, .null] (zu (cbK G M N zC0b) (N + 22) (zR (G.2.1 4) 5 (zPart5 N 0))) 2) ?_ zX_w rfl rfl
  refine r_aload_n ok dX0_init_17 0 rfl rfl ?_
  refine r_iconst ok (nI 1) dX0_init_18 (by rfl) ?_
  refine zPut ok ci_X0 fl_X0_23 (by decide) (Or.inr ⟨rfl, rfl⟩) rfl rfl rfl dX0_init_19 zX_o ?_
  refine zW.to (M' := zX M N 0 [.ref (N + 1), .int 0, .int (nI 1), .null, .null, .null, .null, .null, .null, .null, .null, .null, .int 0, .int 0, .null] (zu (cbK G M N zC0b) (N + 22) (zR (G.2.1 4) 5 (zPart5 N 0))) 2) ?_ zX_w rfl rfl
  refine r_aload_n ok dX0_init_22 0 rfl rfl ?_
  refine r_bipush ok (nI 6) dX0_init_23 (by rfl) ?_
  refine r_newaI ok (by omega) ⟨Nat.le_of_ble_eq_true rfl, Nat.le_of_ble_eq_true rfl⟩ dX0_init_25 ?_
  refine zW.to (M' := zX M N 0 [.ref (N + 1), .int 0, .int (nI 1), .null, .null, .null, .null, .null, .null, .null, .null, .null, .int 0, .int 0, .null] (zu (cbK G M N zC0b) (N + 22) (zR (G.2.1 4) 5 (zPart5 N 0))) 3) ?_ (zX_s (by omega) ((zu_ne _ _ (by omega)).trans cb_br)) rfl rfl
  refine zPut ok ci_X0 fl_X0_27 (by decide) (Or.inr ⟨rfl, rfl⟩) rfl rfl rfl dX0_init_27 zX_o ?_
  refine zW.to (M' := zX M N 0 [.ref (N + 1), .int 0, .int (nI 1), .ref (N + 2), .null, .null, .null, .null, .null, .null, .null, .null, .int 0, .int 0, .null] (zu (cbK G M N zC0b) (N + 22) (zR (G.2.1 4) 5 (zPart5 N 0))) 3) ?_ zX_w rfl rfl
  refine r_aload_n ok dX0_init_30 0 rfl rfl ?_
  refine r_bipush ok (nI 6) dX0_init_31 (by rfl) ?_
  refine r_bipush ok (nI 8) dX0_init_33 (by rfl) ?_
  refine r_mna ok kl_X0_30 ⟨Nat.le_of_ble_eq_true rfl, Nat.le_of_ble_eq_true rfl⟩ dX0_init_35 ?_
  refine zW.to (M' := zX M N 0 [.ref (N + 1), .int 0, .int (nI 1), .ref (N + 2), .null, .null, .null, .null, .null, .null, .null, .null, .int 0, .int 0, .null] (zu (cbK G M N zC0b) (N + 22) (zR (G.2.1 4) 5 (zPart5 N 0))) 10) ?_ (zTm_blk (by omega) ((zu_ne _ _ (by omega)).trans cb_sp) (fun m hm => (zu_ne _ _ (by omega)).trans (cb_spr hm))) rfl rfl
  refine zPut ok ci_X0 fl_X0_32 (by decide) (Or.inr ⟨rfl, rfl⟩) rfl rfl rfl dX0_init_39 zX_o ?_
  refine zW.to (M' := zX M N 0 [.ref (N + 1), .int 0, .int (nI 1), .ref (N + 2), .ref (N + 3), .null, .null, .null, .null, .null, .null, .null, .int 0, .int 0, .null] (zu (cbK G M N zC0b) (N + 22) (zR (G.2.1 4) 5 (zPart5 N 0))) 10) ?_ zX_w rfl rfl
  refine r_aload_n ok dX0_init_42 0 rfl rfl ?_
  refine r_bipush ok (nI 6) dX0_init_43 (by rfl) ?_
  refine r_bipush ok (nI 8) dX0_init_45 (by rfl) ?_
  refine r_mna ok kl_X0_30 ⟨Nat.le_of_ble_eq_true rfl, Nat.le_of_ble_eq_true rfl⟩ dX0_init_47 ?_
  refine zW.to (M' := zX M N 0 [.ref (N + 1), .int 0, .int (nI 1), .ref (N + 2), .ref (N + 3), .null, .null, .null, .null, .null, .null, .null, .int 0, .int 0, .null] (zu (cbK G M N zC0b) (N + 22) (zR (G.2.1 4) 5 (zPart5 N 0))) 17) ?_ (zTm_blk (by omega) ((zu_ne _ _ (by omega)).trans cb_wa) (fun m hm => (zu_ne _ _ (by omega)).trans (cb_war hm))) rfl rfl
  refine zPut ok ci_X0 fl_X0_35 (by decide) (Or.inr ⟨rfl, rfl⟩) rfl rfl rfl dX0_init_51 zX_o ?_
  refine zW.to (M' := zX M N 0 [.ref (N + 1), .int 0, .int (nI 1), .ref (N + 2), .ref (N + 3), .ref (N + 10), .null, .null, .null, .null, .null, .null, .int 0, .int 0, .null] (zu (cbK G M N zC0b) (N + 22) (zR (G.2.1 4) 5 (zPart5 N 0))) 17) ?_ zX_w rfl rfl
  refine r_aload_n ok dX0_init_54 0 rfl rfl ?_
  refine r_bipush ok (nI 6) dX0_init_55 (by rfl) ?_
  refine r_newaI ok (by omega) ⟨Nat.le_of_ble_eq_true rfl, Nat.le_of_ble_eq_true rfl⟩ dX0_init_57 ?_
  refine zW.to (M' := zX M N 0 [.ref (N + 1), .int 0, .int (nI 1), .ref (N + 2), .ref (N + 3), .ref (N + 10), .null, .null, .null, .null, .null, .null, .int 0, .int 0, .null] (zu (cbK G M N zC0b) (N + 22) (zR (G.2.1 4) 5 (zPart5 N 0))) 18) ?_ (zX_s (by omega) ((zu_ne _ _ (by omega)).trans cb_ac)) rfl rfl
  refine zPut ok ci_X0 fl_X0_38 (by decide) (Or.inr ⟨rfl, rfl⟩) rfl rfl rfl dX0_init_59 zX_o ?_
  refine zW.to (M' := zX M N 0 [.ref (N + 1), .int 0, .int (nI 1), .ref (N + 2), .ref (N + 3), .ref (N + 10), .ref (N + 17), .null, .null, .null, .null, .null, .int 0, .int 0, .null] (zu (cbK G M N zC0b) (N + 22) (zR (G.2.1 4) 5 (zPart5 N 0))) 18) ?_ zX_w rfl rfl
  refine r_aload_n ok dX0_init_62 0 rfl rfl ?_
  refine r_bipush ok (nI 6) dX0_init_63 (by rfl) ?_
  refine r_newaI ok (by omega) ⟨Nat.le_of_ble_eq_true rfl, Nat.le_of_ble_eq_true rfl⟩ dX0_init_65 ?_
  refine zW.to (M' := zX M N 0 [.ref (N + 1), .int 0, .int (nI 1), .ref (N + 2), .ref (N + 3), .ref (N + 10), .ref (N + 17), .null, .null, .null, .null, .null, .int 0, .int 0, .null] (zu (cbK G M N zC0b) (N + 22) (zR (G.2.1 4) 5 (zPart5 N 0))) 19) ?_ (zX_s (by omega) ((zu_ne _ _ (by omega)).trans cb_ps)) rfl rfl
  refine zPut ok ci_X0 fl_X0_41 (by decide) (Or.inr ⟨rfl, rfl⟩) rfl rfl rfl dX0_init_67 zX_o ?_
  refine zW.to (M' := zX M N 0 [.ref (N + 1), .int 0, .int (nI 1), .ref (N + 2), .ref (N + 3), .ref (N + 10), .ref (N + 17), .ref (N + 18), .null, .null, .null, .null, .int 0, .int 0, .null] (zu (cbK G M N zC0b) (N + 22) (zR (G.2.1 4) 5 (zPart5 N 0))) 19) ?_ zX_w rfl rfl
  refine r_aload_n ok dX0_init_70 0 rfl rfl ?_
  refine r_bipush ok (nI 6) dX0_init_71 (by rfl) ?_
  refine r_newaI ok (by omega) ⟨Nat.le_of_ble_eq_true rfl, Nat.le_of_ble_eq_true rfl⟩ dX0_init_73 ?_
  refine zW.to (M' := zX M N 0 [.ref (N + 1), .int 0, .int (nI 1), .ref (N + 2), .ref (N + 3), .ref (N + 10), .ref (N + 17), .ref (N + 18), .null, .null, .null, .null, .int 0, .int 0, .null] (zu (cbK G M N zC0b) (N + 22) (zR (G.2.1 4) 5 (zPart5 N 0))) 20) ?_ (zX_s (by omega) ((zu_ne _ _ (by omega)).trans cb_pp)) rfl rfl
  refine zPut ok ci_X0 fl_X0_44 (by decide) (Or.inr ⟨rfl, rfl⟩) rfl rfl rfl dX0_init_75 zX_o ?_
  refine zW.to (M' := zX M N 0 [.ref (N + 1), .int 0, .int (nI 1), .ref (N + 2), .ref (N + 3), .ref (N + 10), .ref (N + 17), .ref (N + 18), .ref (N + 19), .null, .null, .null, .int 0, .int 0, .null] (zu (cbK G M N zC0b) (N + 22) (zR (G.2.1 4) 5 (zPart5 N 0))) 20) ?_ zX_w rfl rfl
  refine r_aload_n ok dX0_init_78 0 rfl rfl ?_
  refine r_bipush ok (nI 6) dX0_init_79 (by rfl) ?_
  refine r_newaI ok (by omega) ⟨Nat.le_of_ble_eq_true rfl, Nat.le_of_ble_eq_true rfl⟩ dX0_init_81 ?_
  refine zW.to (M' := zX M N 0 [.ref (N + 1), .int 0, .int (nI 1), .ref (N + 2), .ref (N + 3), .ref (N + 10), .ref (N + 17), .ref (N + 18), .ref (N + 19), .null, .null, .null, .int 0, .int 0, .null] (zu (cbK G M N zC0b) (N + 22) (zR (G.2.1 4) 5 (zPart5 N 0))) 21) ?_ (zX_s (by omega) ((zu_ne _ _ (by omega)).trans cb_pu)) rfl rfl
  refine zPut ok ci_X0 fl_X0_47 (by decide) (Or.inr ⟨rfl, rfl⟩) rfl rfl rfl dX0_init_83 zX_o ?_
  refine zW.to (M' := zX M N 0 [.ref (N + 1), .int 0, .int (nI 1), .ref (N + 2), .ref (N + 3), .ref (N + 10), .ref (N + 17), .ref (N + 18), .ref (N + 19), .ref (N + 20), .null, .null, .int 0, .int 0, .null] (zu (cbK G M N zC0b) (N + 22) (zR (G.2.1 4) 5 (zPart5 N 0))) 21) ?_ zX_w rfl rfl
  refine r_aload_n ok dX0_init_86 0 rfl rfl ?_
  refine r_bipush ok (nI 6) dX0_init_87 (by rfl) ?_
  refine r_newaI ok (by omega) ⟨Nat.le_of_ble_eq_true rfl, Nat.le_of_ble_eq_true rfl⟩ dX0_init_89 ?_
  refine zW.to (M' := zX M N 0 [.ref (N + 1), .int 0, .int (nI 1), .ref (N + 2), .ref (N + 3), .ref (N + 10), .ref (N + 17), .ref (N + 18), .ref (N + 19), .ref (N + 20), .null, .null, .int 0, .int 0, .null] (zu (cbK G M N zC0b) (N + 22) (zR (G.2.1 4) 5 (zPart5 N 0))) 22) ?_ (zX_s (by omega) ((zu_ne _ _ (by omega)).trans cb_lo')) rfl rfl
  refine zPut ok ci_X0 fl_X0_50 (by decide) (Or.inr ⟨rfl, rfl⟩) rfl rfl rfl dX0_init_91 zX_o ?_
  refine zW.to (M' := zX M N 0 [.ref (N + 1), .int 0, .int (nI 1), .ref (N + 2), .ref (N + 3), .ref (N + 10), .ref (N + 17), .ref (N + 18), .ref (N + 19), .ref (N + 20), .ref (N + 21), .null, .int 0, .int 0, .null] (zu (cbK G M N zC0b) (N + 22) (zR (G.2.1 4) 5 (zPart5 N 0))) 22) ?_ zX_w rfl rfl
  refine r_aload_n ok dX0_init_94 0 rfl rfl ?_
  refine r_iconst ok (nI 5) dX0_init_95 (by rfl) ?_
  refine r_anew ok (t0 := 4) kl_X0_53 ao_37 rfl (by omega) ⟨Nat.le_of_ble_eq_true rfl, Nat.le_of_ble_eq_true rfl⟩ dX0_init_96 ?_
  refine zW.to (M' := zX M N 0 [.ref (N + 1), .int 0, .int (nI 1), .ref (N + 2), .ref (N + 3), .ref (N + 10), .ref (N + 17), .ref (N + 18), .ref (N + 19), .ref (N + 20), .ref (N + 21), .null, .int 0, .int 0, .null] (zu (cbK G M N zC0b) (N + 22) (zR (G.2.1 4) 5 (zPart5 N 0))) 23) ?_ (zX_s (by omega) ((zu_self _ _ _).trans (by rw [zPart5_0]))) rfl rfl
  refine zPut ok ci_X0 fl_X0_55 (by decide) (Or.inr ⟨rfl, rfl⟩) rfl rfl rfl dX0_init_99 zX_o ?_
  refine zW.to (M' := zX M N 0 [.ref (N + 1), .int 0, .int (nI 1), .ref (N + 2), .ref (N + 3), .ref (N + 10), .ref (N + 17), .ref (N + 18), .ref (N + 19), .ref (N + 20), .ref (N + 21), .ref (N + 22), .int 0, .int 0, .null] (zu (cbK G M N zC0b) (N + 22) (zR (G.2.1 4) 5 (zPart5 N 0))) 23) ?_ zX_w rfl rfl
  refine r_aload_n ok dX0_init_102 0 rfl rfl ?_
  refine r_new ok ci_X4 kl_X0_59 ia_X4 in_X4 [.null, .null] zdf_X4 ⟨Nat.le_of_ble_eq_true rfl, Nat.le_of_ble_eq_true rfl⟩ dX0_init_103 ?_
  refine r_dup ok dX0_init_106 rfl ?_
  refine r_cIN ok mi_X4_init mn_X0_61 im_X4_init rfl dX0_init_107 (c_X4_init K.2.1 G _ _) ⟨Nat.le_of_ble_eq_true rfl, Nat.le_of_ble_eq_true rfl⟩ (Nat.le_of_ble_eq_true rfl) ⟨Nat.le_of_ble_eq_true rfl, Nat.le_of_ble_eq_true rfl⟩ ?_
  refine zW.to (M' := zX M N 0 [.ref (N + 1), .int 0, .int (nI 1), .ref (N + 2), .ref (N + 3), .ref (N + 10), .ref (N + 17), .ref (N + 18), .ref (N + 19), .ref (N + 20), .ref (N + 21), .ref (N + 22), .int 0, .int 0, .null] (zu (cbK G M N zC0b) (N + 22) (zR (G.2.1 4) 5 (zPart5 N 0))) 26) ?_ (zSh_blkE (F0 := cbK G M N zC0b) (by omega) (cb_sh _ _) (fun q h1 h2 => zu_ne _ _ (by omega))) rfl rfl
  refine zPut ok ci_X0 fl_X0_62 (by decide) (Or.inr ⟨rfl, rfl⟩) rfl rfl rfl dX0_init_110 zX_o ?_
  refine zW.to (M' := zX M N 0 [.ref (N + 1), .int 0, .int (nI 1), .ref (N + 2), .ref (N + 3), .ref (N + 10), .ref (N + 17), .ref (N + 18), .ref (N + 19), .ref (N + 20), .ref (N + 21), .ref (N + 22), .int 0, .int 0, .ref (N + 23)] (zu (cbK G M N zC0b) (N + 22) (zR (G.2.1 4) 5 (zPart5 N 0))) 26) ?_ zX_w rfl rfl
  refine r_iconst ok (nI 0) dX0_init_113 (by rfl) ?_
  refine r_istore_n ok [(1, .int (nI 0)), (0, .ref N)] dX0_init_114 rfl (by decide) rfl ?_
  suffices L : ∀ (r k : Nat), k + r = 5 → zW K G 2 (zQ K G (N + 1 + 65) 65 462 (zP none (cbK G M N zC0b))) (25 + 8 * k) (172 + 58 * k) (zX M N 0 [.ref (N + 1), .int 0, .int (nI 1), .ref (N + 2), .ref (N + 3), .ref (N + 10), .ref (N + 17), .ref (N + 18), .ref (N + 19), .ref (N + 20), .ref (N + 21), .ref (N + 22), .int 0, .int 0, .ref (N + 23)] (zu (cbK G M N zC0b) (N + 22) (zR (G.2.1 4) 5 (zPart5 N k))) (26 + 8 * k)) (N + (26 + 8 * k)) 115 [(1, .int (nI k)), (0, .ref N)] [] from L 5 0 rfl
  intro r
  induction r with
  | zero =>
    intro k hk
    obtain rfl : k = 5 := by omega
    refine r_iload_n ok dX0_init_115 0 rfl rfl ?_
    refine r_iconst ok (nI 5) dX0_init_116 (by rfl) ?_
    refine r_icmp_geN ok 139 (by omega) (by omega) dX0_init_117 (by decide) (fun _ => ?_) (fun c => absurd c (by omega))
    exact r_vret ok dX0_init_139 rfl ⟨rfl, by rw [zPart5_5]; exact (congrArg (fun z => zX M N 0 _ z _) (zu_same (M := cbK G M N zC0b) cb_pi)).trans (zX_end cb_o (fun q hq => cb_out hq))⟩
  | succ r ih =>
    intro k hk
    refine r_iload_n ok dX0_init_115 0 rfl rfl ?_
    refine r_iconst ok (nI 5) dX0_init_116 (by rfl) ?_
    refine r_icmp_geN ok 139 (by omega) (by omega) dX0_init_117 (by decide) (fun c => absurd c (by omega)) (fun _ => ?_)
    refine r_aload_n ok dX0_init_120 1 rfl rfl ?_
    refine r_getf ok ci_X0 fl_X0_55 (by decide) dX0_init_121 zX_o rfl ?_
    refine r_iload_n ok dX0_init_124 0 rfl rfl ?_
    refine r_new ok ci_X3 kl_X0_53 ia_X3 in_X3 [.null, .int 0, .int 0, .int 0] zdf_X3 ⟨by show _ ≤ 65; omega, by show _ ≤ 462; omega⟩ dX0_init_125 ?_
    refine r_dup ok dX0_init_128 rfl ?_
    refine r_cIN ok mi_X3_init mn_X0_66 im_X3_init rfl dX0_init_129 (c_X3_init K.2.1 G _ _) ⟨Nat.le_of_ble_eq_true rfl, Nat.le_of_ble_eq_true rfl⟩ (Nat.le_of_ble_eq_true rfl) ⟨by show _ ≤ 65; omega, by show _ ≤ 462; omega⟩ ?_
    refine zW.to (M' := zX M N 0 [.ref (N + 1), .int 0, .int (nI 1), .ref (N + 2), .ref (N + 3), .ref (N + 10), .ref (N + 17), .ref (N + 18), .ref (N + 19), .ref (N + 20), .ref (N + 21), .ref (N + 22), .int 0, .int 0, .ref (N + 23)] (zu (cbK G M N zC0b) (N + 22) (zR (G.2.1 4) 5 (zPart5 N k))) (26 + 8 * k + 8)) ?_ (zPc_blkE (F0 := cbK G M N zC0b) (by omega) (by have := cb_pcs (G := G) (M := M) (b := N) (st := zC0b.st) (dy := zC0b.dy) (x := zC0b.x) (br := zC0b.br) (sp := zC0b.sp) (wa := zC0b.wa) (ac := zC0b.ac) (ps := zC0b.ps) (pp := zC0b.pp) (pu := zC0b.pu) (lo := zC0b.lo) (un := nI zC0b.un) (op := zC0b.op) (pi := zC0b.pi) (cn := zC0b.cn) (vl := zC0b.vl) (du := zC0b.du) (io := zC0b.io) (hp := zC0b.hp) (hs := zC0b.hs) (show k < 5 by omega); rw [Nat.add_assoc] at this; exact this) (fun q h1 h2 => zu_ne _ _ (by omega))) rfl rfl
    refine r_aastN ok 4 ci_X3 rfl (show k < 5 by omega) (by omega) dX0_init_132 ((zX_in (by omega) (by omega)).trans (zu_self _ _ _)) ((zX_in (by omega) (by omega)).trans ((zu_ne _ _ (by omega)).trans (zPc_at (show k < 5 by omega)))) ((zX_ch (by omega) (by omega)).trans (by rw [zu_zu, zPart5_s (show k < 5 by omega)])) ?_
    refine r_iincN ok (c := 1) [(1, .int (nI (k + 1))), (0, .ref N)] dX0_init_133 0 rfl (by rfl) (by decide) rfl ?_
    refine r_goto ok 115 dX0_init_136 (by decide) ?_
    exact zW.cs (ih (k + 1) (by omega)) (by omega) (by omega) (by omega)
theorem c_X5_init (l : Launch) (G : zG) (M : zM) (N : Nat) : zC l G yX5_init cX5_init 2 none 3 53 671 4878 [.ref N] (zu M N (zO 5 [.null, .null, .null, .int 0, .null, .null, .null, .null])) (N + 1) (zP none (hoM G M N zC0b zC0b (fun _ => zC0b) (fun _ => zC0b) (nI 0) (fun i => i) (fun _ => false) (fun _ => 0) (nI 0) zD0)) := by
  refine zC.of (by decide +kernel) (Nat.le_of_ble_eq_true rfl) ?_
  intro K hKl ok
  subst hKl
  show zW K G 2 _ 0 0 _ _ 0 [(0, .ref N)] []
  refine zW.to (M' := zX M N 5 [.null, .null, .null, .int 0, .null, .null, .null, .null] (zu (zu (hoM G M N zC0b zC0b (fun _ => zC0b) (fun _ => zC0b) (nI 0) (fun i => i) (fun _ => false) (fun _ => 0) (nI 0) zD0) (N + 133) (zR (G.2.1 5) 6 (zPartH N (0)))) (N + 134) (zR (G.2.1 5) 2 (zPartS N (0)))) 1) ?_ zX_1 rfl rfl
  refine r_aload_n ok dX5_init_0 0 rfl rfl ?_
  refine r_oinit ok ml_X5_1 dX5_init_1 (Nat.le_of_ble_eq_true rfl) (Nat.le_of_ble_eq_true rfl) ?_
  refine r_aload_n ok dX5_init_4 0 rfl rfl ?_
  refine r_new ok ci_X0 kl_X5_7 ia_X0 in_X0 [.null, .int 0, .int 0, .null, .null, .null, .null, .null, .null, .null, .null, .null, .int 0, .int 0, .null] zdf_X0 ⟨Nat.le_of_ble_eq_true rfl, Nat.le_of_ble_eq_true rfl⟩ dX5_init_5 ?_
  refine r_dup ok dX5_init_8 rfl ?_
  refine r_cI0 ok mi_X0_init ml_X5_9 im_X0_init rfl dX5_init_9 (c_X0_init K.2.1 G _ _) ⟨Nat.le_of_ble_eq_true rfl, Nat.le_of_ble_eq_true rfl⟩ (Nat.le_of_ble_eq_true rfl) ⟨Nat.le_of_ble_eq_true rfl, Nat.le_of_ble_eq_true rfl⟩ ?_
  refine zW.to (M' := zX M N 5 [.null, .null, .null, .int 0, .null, .null, .null, .null] (zu (zu (hoM G M N zC0b zC0b (fun _ => zC0b) (fun _ => zC0b) (nI 0) (fun i => i) (fun _ => false) (fun _ => 0) (nI 0) zD0) (N + 133) (zR (G.2.1 5) 6 (zPartH N (0)))) (N + 134) (zR (G.2.1 5) 2 (zPartS N (0)))) 67) ?_ (zCb_blkE (F0 := hoM G M N zC0b zC0b (fun _ => zC0b) (fun _ => zC0b) (nI 0) (fun i => i) (fun _ => false) (fun _ => 0) (nI 0) zD0) (by omega) (ho_cI) (fun q h1 h2 => (zu_ne _ _ (by omega)).trans (zu_ne _ _ (by omega)))) rfl rfl
  refine zPut ok ci_X5 fl_X5_10 (by decide) (Or.inr ⟨rfl, rfl⟩) rfl rfl rfl dX5_init_12 zX_o ?_
  refine zW.to (M' := zX M N 5 [.ref (N + 1), .null, .null, .int 0, .null, .null, .null, .null] (zu (zu (hoM G M N zC0b zC0b (fun _ => zC0b) (fun _ => zC0b) (nI 0) (fun i => i) (fun _ => false) (fun _ => 0) (nI 0) zD0) (N + 133) (zR (G.2.1 5) 6 (zPartH N (0)))) (N + 134) (zR (G.2.1 5) 2 (zPartS N (0)))) 67) ?_ zX_w rfl rfl
  refine r_aload_n ok dX5_init_15 0 rfl rfl ?_
  refine r_new ok ci_X0 kl_X5_7 ia_X0 in_X0 [.null, .int 0, .int 0, .null, .null, .null, .null, .null, .null, .null, .null, .null, .int 0, .int 0, .null] zdf_X0 ⟨Nat.le_of_ble_eq_true rfl, Nat.le_of_ble_eq_true rfl⟩ dX5_init_16 ?_
  refine r_dup ok dX5_init_19 rfl ?_
  refine r_cI0 ok mi_X0_init ml_X5_9 im_X0_init rfl dX5_init_20 (c_X0_init K.2.1 G _ _) ⟨Nat.le_of_ble_eq_true rfl, Nat.le_of_ble_eq_true rfl⟩ (Nat.le_of_ble_eq_true rfl) ⟨Nat.le_of_ble_eq_true rfl, Nat.le_of_ble_eq_true rfl⟩ ?_
  refine zW.to (M' := zX M N 5 [.ref (N + 1), .null, .null, .int 0, .null, .null, .null, .null] (zu (zu (hoM G M N zC0b zC0b (fun _ => zC0b) (fun _ => zC0b) (nI 0) (fun i => i) (fun _ => false) (fun _ => 0) (nI 0) zD0) (N + 133) (zR (G.2.1 5) 6 (zPartH N (0)))) (N + 134) (zR (G.2.1 5) 2 (zPartS N (0)))) 133) ?_ (zCb_blkE (F0 := hoM G M N zC0b zC0b (fun _ => zC0b) (fun _ => zC0b) (nI 0) (fun i => i) (fun _ => false) (fun _ => 0) (nI 0) zD0) (by omega) (ho_tI) (fun q h1 h2 => (zu_ne _ _ (by omega)).trans (zu_ne _ _ (by omega)))) rfl rfl
  refine zPut ok ci_X5 fl_X5_16 (by decide) (Or.inr ⟨rfl, rfl⟩) rfl rfl rfl dX5_init_23 zX_o ?_
  refine zW.to (M' := zX M N 5 [.ref (N + 1), .ref (N + 67), .null, .int 0, .null, .null, .null, .null] (zu (zu (hoM G M N zC0b zC0b (fun _ => zC0b) (fun _ => zC0b) (nI 0) (fun i => i) (fun _ => false) (fun _ => 0) (nI 0) zD0) (N + 133) (zR (G.2.1 5) 6 (zPartH N (0)))) (N + 134) (zR (G.2.1 5) 2 (zPartS N (0)))) 133) ?_ zX_w rfl rfl
  refine r_aload_n ok dX5_init_26 0 rfl rfl ?_
  refine r_bipush ok (nI 6) dX5_init_27 (by rfl) ?_
  refine r_anew ok (t0 := 5) kl_X5_7 ao_144 rfl (by omega) ⟨Nat.le_of_ble_eq_true rfl, Nat.le_of_ble_eq_true rfl⟩ dX5_init_29 ?_
  refine zW.to (M' := zX M N 5 [.ref (N + 1), .ref (N + 67), .null, .int 0, .null, .null, .null, .null] (zu (zu (hoM G M N zC0b zC0b (fun _ => zC0b) (fun _ => zC0b) (nI 0) (fun i => i) (fun _ => false) (fun _ => 0) (nI 0) zD0) (N + 133) (zR (G.2.1 5) 6 (zPartH N (0)))) (N + 134) (zR (G.2.1 5) 2 (zPartS N (0)))) 134) ?_ (zX_s (by omega) ((zu_ne _ _ (by omega)).trans ((zu_self _ _ _).trans (by rw [zPartH_0])))) rfl rfl
  refine zPut ok ci_X5 fl_X5_19 (by decide) (Or.inr ⟨rfl, rfl⟩) rfl rfl rfl dX5_init_32 zX_o ?_
  refine zW.to (M' := zX M N 5 [.ref (N + 1), .ref (N + 67), .ref (N + 133), .int 0, .null, .null, .null, .null] (zu (zu (hoM G M N zC0b zC0b (fun _ => zC0b) (fun _ => zC0b) (nI 0) (fun i => i) (fun _ => false) (fun _ => 0) (nI 0) zD0) (N + 133) (zR (G.2.1 5) 6 (zPartH N (0)))) (N + 134) (zR (G.2.1 5) 2 (zPartS N (0)))) 134) ?_ zX_w rfl rfl
  refine r_aload_n ok dX5_init_35 0 rfl rfl ?_
  refine r_iconst ok (nI 2) dX5_init_36 (by rfl) ?_
  refine r_anew ok (t0 := 5) kl_X5_7 ao_144 rfl (by omega) ⟨Nat.le_of_ble_eq_true rfl, Nat.le_of_ble_eq_true rfl⟩ dX5_init_37 ?_
  refine zW.to (M' := zX M N 5 [.ref (N + 1), .ref (N + 67), .ref (N + 133), .int 0, .null, .null, .null, .null] (zu (zu (hoM G M N zC0b zC0b (fun _ => zC0b) (fun _ => zC0b) (nI 0) (fun i => i) (fun _ => false) (fun _ => 0) (nI 0) zD0) (N + 133) (zR (G.2.1 5) 6 (zPartH N (0)))) (N + 134) (zR (G.2.1 5) 2 (zPartS N (0)))) 135) ?_ (zX_s (by omega) ((zu_self _ _ _).trans (by rw [zPartS_0]))) rfl rfl
  refine zPut ok ci_X5 fl_X5_23 (by decide) (Or.inr ⟨rfl, rfl⟩) rfl rfl rfl dX5_init_40 zX_o ?_
  refine zW.to (M' := zX M N 5 [.ref (N + 1), .ref (N + 67), .ref (N + 133), .int 0, .ref (N + 134), .null, .null, .null] (zu (zu (hoM G M N zC0b zC0b (fun _ => zC0b) (fun _ => zC0b) (nI 0) (fun i => i) (fun _ => false) (fun _ => 0) (nI 0) zD0) (N + 133) (zR (G.2.1 5) 6 (zPartH N (0)))) (N + 134) (zR (G.2.1 5) 2 (zPartS N (0)))) 135) ?_ zX_w rfl rfl
  refine r_aload_n ok dX5_init_43 0 rfl rfl ?_
  refine r_iconst ok (nI 2) dX5_init_44 (by rfl) ?_
  refine r_newaZ ok (by omega) ⟨Nat.le_of_ble_eq_true rfl, Nat.le_of_ble_eq_true rfl⟩ dX5_init_45 ?_
  refine zW.to (M' := zX M N 5 [.ref (N + 1), .ref (N + 67), .ref (N + 133), .int 0, .ref (N + 134), .null, .null, .null] (zu (zu (hoM G M N zC0b zC0b (fun _ => zC0b) (fun _ => zC0b) (nI 0) (fun i => i) (fun _ => false) (fun _ => 0) (nI 0) zD0) (N + 133) (zR (G.2.1 5) 6 (zPartH N (0)))) (N + 134) (zR (G.2.1 5) 2 (zPartS N (0)))) 136) ?_ (zX_s (by omega) ((zu_ne _ _ (by omega)).trans ((zu_ne _ _ (by omega)).trans ho_v))) rfl rfl
  refine zPut ok ci_X5 fl_X5_26 (by decide) (Or.inr ⟨rfl, rfl⟩) rfl rfl rfl dX5_init_47 zX_o ?_
  refine zW.to (M' := zX M N 5 [.ref (N + 1), .ref (N + 67), .ref (N + 133), .int 0, .ref (N + 134), .ref (N + 135), .null, .null] (zu (zu (hoM G M N zC0b zC0b (fun _ => zC0b) (fun _ => zC0b) (nI 0) (fun i => i) (fun _ => false) (fun _ => 0) (nI 0) zD0) (N + 133) (zR (G.2.1 5) 6 (zPartH N (0)))) (N + 134) (zR (G.2.1 5) 2 (zPartS N (0)))) 136) ?_ zX_w rfl rfl
  refine r_aload_n ok dX5_init_50 0 rfl rfl ?_
  refine r_new ok ci_X2 kl_X5_30 ia_X2 in_X2 [.null, .int 0] zdf_X2 ⟨Nat.le_of_ble_eq_true rfl, Nat.le_of_ble_eq_true rfl⟩ dX5_init_51 ?_
  refine r_dup ok dX5_init_54 rfl ?_
  refine r_cIN ok mi_X2_init mn_X5_32 im_X2_init rfl dX5_init_55 (c_X2_init K.2.1 G _ _) ⟨Nat.le_of_ble_eq_true rfl, Nat.le_of_ble_eq_true rfl⟩ (Nat.le_of_ble_eq_true rfl) ⟨Nat.le_of_ble_eq_true rfl, Nat.le_of_ble_eq_true rfl⟩ ?_
  refine zW.to (M' := zX M N 5 [.ref (N + 1), .ref (N + 67), .ref (N + 133), .int 0, .ref (N + 134), .ref (N + 135), .null, .null] (zu (zu (hoM G M N zC0b zC0b (fun _ => zC0b) (fun _ => zC0b) (nI 0) (fun i => i) (fun _ => false) (fun _ => 0) (nI 0) zD0) (N + 133) (zR (G.2.1 5) 6 (zPartH N (0)))) (N + 134) (zR (G.2.1 5) 2 (zPartS N (0)))) 138) ?_ (zPd_blkE (F0 := hoM G M N zC0b zC0b (fun _ => zC0b) (fun _ => zC0b) (nI 0) (fun i => i) (fun _ => false) (fun _ => 0) (nI 0) zD0) (by omega) (ho_pI) (fun q h1 h2 => (zu_ne _ _ (by omega)).trans (zu_ne _ _ (by omega)))) rfl rfl
  refine zPut ok ci_X5 fl_X5_33 (by decide) (Or.inr ⟨rfl, rfl⟩) rfl rfl rfl dX5_init_58 zX_o ?_
  refine zW.to (M' := zX M N 5 [.ref (N + 1), .ref (N + 67), .ref (N + 133), .int 0, .ref (N + 134), .ref (N + 135), .ref (N + 136), .null] (zu (zu (hoM G M N zC0b zC0b (fun _ => zC0b) (fun _ => zC0b) (nI 0) (fun i => i) (fun _ => false) (fun _ => 0) (nI 0) zD0) (N + 133) (zR (G.2.1 5) 6 (zPartH N (0)))) (N + 134) (zR (G.2.1 5) 2 (zPartS N (0)))) 138) ?_ zX_w rfl rfl
  refine r_aload_n ok dX5_init_61 0 rfl rfl ?_
  refine r_new ok ci_X1 kl_X5_37 ia_X1 in_X1 [.null, .null, .int 0, .int 0, .int 0, .null] zdf_X1 ⟨Nat.le_of_ble_eq_true rfl, Nat.le_of_ble_eq_true rfl⟩ dX5_init_62 ?_
  refine r_dup ok dX5_init_65 rfl ?_
  refine r_cIN ok mi_X1_init mn_X5_39 im_X1_init rfl dX5_init_66 (c_X1_init K.2.1 G _ _) ⟨Nat.le_of_ble_eq_true rfl, Nat.le_of_ble_eq_true rfl⟩ (Nat.le_of_ble_eq_true rfl) ⟨Nat.le_of_ble_eq_true rfl, Nat.le_of_ble_eq_true rfl⟩ ?_
  refine zW.to (M' := zX M N 5 [.ref (N + 1), .ref (N + 67), .ref (N + 133), .int 0, .ref (N + 134), .ref (N + 135), .ref (N + 136), .null] (zu (zu (hoM G M N zC0b zC0b (fun _ => zC0b) (fun _ => zC0b) (nI 0) (fun i => i) (fun _ => false) (fun _ => 0) (nI 0) zD0) (N + 133) (zR (G.2.1 5) 6 (zPartH N (0)))) (N + 134) (zR (G.2.1 5) 2 (zPartS N (0)))) 144) ?_ (zOd_blkE (F0 := hoM G M N zC0b zC0b (fun _ => zC0b) (fun _ => zC0b) (nI 0) (fun i => i) (fun _ => false) (fun _ => 0) (nI 0) zD0) (by omega) (ho_dI) (fun q h1 h2 => (zu_ne _ _ (by omega)).trans (zu_ne _ _ (by omega)))) rfl rfl
  refine zPut ok ci_X5 fl_X5_40 (by decide) (Or.inr ⟨rfl, rfl⟩) rfl rfl rfl dX5_init_69 zX_o ?_
  refine zW.to (M' := zX M N 5 [.ref (N + 1), .ref (N + 67), .ref (N + 133), .int 0, .ref (N + 134), .ref (N + 135), .ref (N + 136), .ref (N + 138)] (zu (zu (hoM G M N zC0b zC0b (fun _ => zC0b) (fun _ => zC0b) (nI 0) (fun i => i) (fun _ => false) (fun _ => 0) (nI 0) zD0) (N + 133) (zR (G.2.1 5) 6 (zPartH N (0)))) (N + 134) (zR (G.2.1 5) 2 (zPartS N (0)))) 144) ?_ zX_w rfl rfl
  refine r_iconst ok (nI 0) dX5_init_72 (by rfl) ?_
  refine r_istore_n ok [(1, .int (nI 0)), (0, .ref N)] dX5_init_73 rfl (by decide) rfl ?_
  suffices L : ∀ (r k : Nat), k + r = 6 → zW K G 2 (zQ K G (N + 1 + 671) 671 4878 (zP none (hoM G M N zC0b zC0b (fun _ => zC0b) (fun _ => zC0b) (nI 0) (fun i => i) (fun _ => false) (fun _ => 0) (nI 0) zD0))) (143 + 66 * k) (1062 + 477 * k) (zX M N 5 [.ref (N + 1), .ref (N + 67), .ref (N + 133), .int 0, .ref (N + 134), .ref (N + 135), .ref (N + 136), .ref (N + 138)] (zu (zu (hoM G M N zC0b zC0b (fun _ => zC0b) (fun _ => zC0b) (nI 0) (fun i => i) (fun _ => false) (fun _ => 0) (nI 0) zD0) (N + 133) (zR (G.2.1 5) 6 (zPartH N (k)))) (N + 134) (zR (G.2.1 5) 2 (zPartS N (0)))) (144 + 66 * k)) (N + (144 + 66 * k)) 74 [(1, .int (nI k)), (0, .ref N)] [] from L 6 0 rfl
  intro r
  induction r with
  | zero =>
    intro k hk
    obtain rfl : k = 6 := by omega
    refine r_iload_n ok dX5_init_74 0 rfl rfl ?_
    refine r_bipush ok (nI 6) dX5_init_75 (by rfl) ?_
    refine r_icmp_geN ok 99 (by omega) (by omega) dX5_init_77 (by decide) (fun _ => ?_) (fun c => absurd c (by omega))
    refine r_iconst ok (nI 0) dX5_init_99 (by rfl) ?_
    refine r_istore_n ok [(1, .int (nI 0)), (0, .ref N)] dX5_init_100 rfl (by decide) rfl ?_
    suffices L2 : ∀ (r k : Nat), k + r = 2 → zW K G 2 (zQ K G (N + 1 + 671) 671 4878 (zP none (hoM G M N zC0b zC0b (fun _ => zC0b) (fun _ => zC0b) (nI 0) (fun i => i) (fun _ => false) (fun _ => 0) (nI 0) zD0))) (539 + 66 * k) (3924 + 477 * k) (zX M N 5 [.ref (N + 1), .ref (N + 67), .ref (N + 133), .int 0, .ref (N + 134), .ref (N + 135), .ref (N + 136), .ref (N + 138)] (zu (zu (hoM G M N zC0b zC0b (fun _ => zC0b) (fun _ => zC0b) (nI 0) (fun i => i) (fun _ => false) (fun _ => 0) (nI 0) zD0) (N + 133) (zR (G.2.1 5) 6 (zPartH N (6)))) (N + 134) (zR (G.2.1 5) 2 (zPartS N (k)))) (540 + 66 * k)) (N + (540 + 66 * k)) 101 [(1, .int (nI k)), (0, .ref N)] [] from L2 2 0 rfl
    intro r
    induction r with
    | zero =>
      intro k hk
      obtain rfl : k = 2 := by omega
      refine r_iload_n ok dX5_init_101 0 rfl rfl ?_
      refine r_iconst ok (nI 2) dX5_init_102 (by rfl) ?_
      refine r_icmp_geN ok 125 (by omega) (by omega) dX5_init_103 (by decide) (fun _ => ?_) (fun c => absurd c (by omega))
      exact r_vret ok dX5_init_125 rfl ⟨rfl, by rw [zPartH_6, zPartS_2]; exact (congrArg (fun z => zX M N 5 _ z _) ((congrArg (fun z => zu z _ _) (zu_same ho_h)).trans (zu_same ho_s))).trans (zX_end ho_o (fun q hq => ho_out hq))⟩
    | succ r ih =>
      intro k hk
      refine r_iload_n ok dX5_init_101 0 rfl rfl ?_
      refine r_iconst ok (nI 2) dX5_init_102 (by rfl) ?_
      refine r_icmp_geN ok 125 (by omega) (by omega) dX5_init_103 (by decide) (fun c => absurd c (by omega)) (fun _ => ?_)
      refine r_aload_n ok dX5_init_106 1 rfl rfl ?_
      refine r_getf ok ci_X5 fl_X5_23 (by decide) dX5_init_107 zX_o rfl ?_
      refine r_iload_n ok dX5_init_110 0 rfl rfl ?_
      refine r_new ok ci_X0 kl_X5_7 ia_X0 in_X0 [.null, .int 0, .int 0, .null, .null, .null, .null, .null, .null, .null, .null, .null, .int 0, .int 0, .null] zdf_X0 ⟨by show _ ≤ 671; omega, by show _ ≤ 4878; omega⟩ dX5_init_111 ?_
      refine r_dup ok dX5_init_114 rfl ?_
      refine r_cI0 ok mi_X0_init ml_X5_9 im_X0_init rfl dX5_init_115 (c_X0_init K.2.1 G _ _) ⟨Nat.le_of_ble_eq_true rfl, Nat.le_of_ble_eq_true rfl⟩ (Nat.le_of_ble_eq_true rfl) ⟨by show _ ≤ 671; omega, by show _ ≤ 4878; omega⟩ ?_
      refine zW.to (M' := zX M N 5 [.ref (N + 1), .ref (N + 67), .ref (N + 133), .int 0, .ref (N + 134), .ref (N + 135), .ref (N + 136), .ref (N + 138)] (zu (zu (hoM G M N zC0b zC0b (fun _ => zC0b) (fun _ => zC0b) (nI 0) (fun i => i) (fun _ => false) (fun _ => 0) (nI 0) zD0) (N + 133) (zR (G.2.1 5) 6 (zPartH N (6)))) (N + 134) (zR (G.2.1 5) 2 (zPartS N (k)))) (540 + 66 * k + 66)) ?_ (zCb_blkE (F0 := hoM G M N zC0b zC0b (fun _ => zC0b) (fun _ => zC0b) (nI 0) (fun i => i) (fun _ => false) (fun _ => 0) (nI 0) zD0) (by omega) (by have := ho_scs (G := G) (M := M) (a := N) (c := zC0b) (t := zC0b) (hc := fun _ => zC0b) (sc := fun _ => zC0b) (kp := nI 0) (hi := fun i => i) (sv := fun _ => false) (sg := fun _ => 0) (pl := nI 0) (d := zD0) (show k < 2 by omega); rw [Nat.add_assoc] at this; exact this) (fun q h1 h2 => (zu_ne _ _ (by omega)).trans (zu_ne _ _ (by omega)))) rfl rfl
      refine r_aastN ok 5 ci_X0 rfl (show k < 2 by omega) (by omega) dX5_init_118 ((zX_in (by omega) (by omega)).trans (zu_self _ _ _)) ((zX_in (by omega) (by omega)).trans ((zu_ne _ _ (by omega)).trans ((zu_ne _ _ (by omega)).trans (zSl_at (show k < 2 by omega))))) ((zX_ch (by omega) (by omega)).trans (by rw [zu_zu, zPartS_s (show k < 2 by omega)])) ?_
      refine r_iincN ok (c := 1) [(1, .int (nI (k + 1))), (0, .ref N)] dX5_init_119 0 rfl (by rfl) (by decide) rfl ?_
      refine r_goto ok 101 dX5_init_122 (by decide) ?_
      exact zW.cs (ih (k + 1) (by omega)) (by omega) (by omega) (by omega)
  | succ r ih =>
    intro k hk
    refine r_iload_n ok dX5_init_74 0 rfl rfl ?_
    refine r_bipush ok (nI 6) dX5_init_75 (by rfl) ?_
    refine r_icmp_geN ok 99 (by omega) (by omega) dX5_init_77 (by decide) (fun c => absurd c (by omega)) (fun _ => ?_)
    refine r_aload_n ok dX5_init_80 1 rfl rfl ?_
    refine r_getf ok ci_X5 fl_X5_19 (by decide) dX5_init_81 zX_o rfl ?_
    refine r_iload_n ok dX5_init_84 0 rfl rfl ?_
    refine r_new ok ci_X0 kl_X5_7 ia_X0 in_X0 [.null, .int 0, .int 0, .null, .null, .null, .null, .null, .null, .null, .null, .null, .int 0, .int 0, .null] zdf_X0 ⟨by show _ ≤ 671; omega, by show _ ≤ 4878; omega⟩ dX5_init_85 ?_
    refine r_dup ok dX5_init_88 rfl ?_
    refine r_cI0 ok mi_X0_init ml_X5_9 im_X0_init rfl dX5_init_89 (c_X0_init K.2.1 G _ _) ⟨Nat.le_of_ble_eq_true rfl, Nat.le_of_ble_eq_true rfl⟩ (Nat.le_of_ble_eq_true rfl) ⟨by show _ ≤ 671; omega, by show _ ≤ 4878; omega⟩ ?_
    refine zW.to (M' := zX M N 5 [.ref (N + 1), .ref (N + 67), .ref (N + 133), .int 0, .ref (N + 134), .ref (N + 135), .ref (N + 136), .ref (N + 138)] (zu (zu (hoM G M N zC0b zC0b (fun _ => zC0b) (fun _ => zC0b) (nI 0) (fun i => i) (fun _ => false) (fun _ => 0) (nI 0) zD0) (N + 133) (zR (G.2.1 5) 6 (zPartH N (k)))) (N + 134) (zR (G.2.1 5) 2 (zPartS N (0)))) (144 + 66 * k + 66)) ?_ (zCb_blkE (F0 := hoM G M N zC0b zC0b (fun _ => zC0b) (fun _ => zC0b) (nI 0) (fun i => i) (fun _ => false) (fun _ => 0) (nI 0) zD0) (by omega) (by have := ho_hcs (G := G) (M := M) (a := N) (c := zC0b) (t := zC0b) (hc := fun _ => zC0b) (sc := fun _ => zC0b) (kp := nI 0) (hi := fun i => i) (sv := fun _ => false) (sg := fun _ => 0) (pl := nI 0) (d := zD0) (show k < 6 by omega); rw [Nat.add_assoc] at this; exact this) (fun q h1 h2 => (zu_ne _ _ (by omega)).trans (zu_ne _ _ (by omega)))) rfl rfl
    refine r_aastN ok 5 ci_X0 rfl (show k < 6 by omega) (by omega) dX5_init_92 ((zX_in (by omega) (by omega)).trans ((zu_ne _ _ (by omega)).trans (zu_self _ _ _))) ((zX_in (by omega) (by omega)).trans ((zu_ne _ _ (by omega)).trans ((zu_ne _ _ (by omega)).trans (zHi_at (show k < 6 by omega))))) ((zX_ch (by omega) (by omega)).trans (by rw [zu_swap (by omega), zu_zu, zPartH_s (show k < 6 by omega)])) ?_
    refine r_iincN ok (c := 1) [(1, .int (nI (k + 1))), (0, .ref N)] dX5_init_93 0 rfl (by rfl) (by decide) rfl ?_
    refine r_goto ok 74 dX5_init_96 (by decide) ?_
    exact zW.cs (ih (k + 1) (by omega)) (by omega) (by omega) (by omega)
