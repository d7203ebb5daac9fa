/-! the reference's object and its rows, over any memory: the object at a, its rows behind it -/
def mdO (a : Nat) (kp ln po : Int32) (wr : Bool) : List Value := [.ref (a + 1), .ref (a + 2), .ref (a + 3), .int kp, .ref (a + 4), .ref (a + 5), .ref (a + 6), .int ln, .ref (a + 7), .ref (a + 8), .int po, .int (zb wr)]
def mdM (G : zG) (M : zM) (a : Nat) (s sA sH sL : Nat → Int32) (sI : Nat → Bool) (sP sT sG : Nat → Int32) (kp ln po : Int32) (wr : Bool) : zM := fun q =>
  if q = a then some (zO 6 (mdO a kp ln po wr)) else if q = a + 1 then some (zI (G.2.1 0) 402 s) else if q = a + 2 then some (zI (G.2.1 0) 402 sA) else if q = a + 3 then some (zI (G.2.1 0) 2412 sH) else if q = a + 4 then some (zI (G.2.1 0) 804 sL)
  else if q = a + 5 then some (zI (G.2.1 2) 2 (fun j => zb (sI j))) else if q = a + 6 then some (zI (G.2.1 0) 60 sP) else if q = a + 7 then some (zI (G.2.1 0) 6 sT) else if q = a + 8 then some (zI (G.2.1 0) 6 sG) else M q
section ZMD
variable {G : zG} {M : zM} {a : Nat} {s sA sH sL : Nat → Int32} {sI : Nat → Bool} {sP sT sG : Nat → Int32} {kp ln po : Int32} {wr : Bool}
theorem md_o : mdM G M a s sA sH sL sI sP sT sG kp ln po wr a = some (zO 6 (mdO a kp ln po wr)) := by simp [mdM]
theorem md_s : mdM G M a s sA sH sL sI sP sT sG kp ln po wr (a + 1) = some (zI (G.2.1 0) 402 s) := by simp [mdM]
theorem md_sA : mdM G M a s sA sH sL sI sP sT sG kp ln po wr (a + 2) = some (zI (G.2.1 0) 402 sA) := by simp [mdM]
theorem md_sH : mdM G M a s sA sH sL sI sP sT sG kp ln po wr (a + 3) = some (zI (G.2.1 0) 2412 sH) := by simp [mdM]
theorem md_sL : mdM G M a s sA sH sL sI sP sT sG kp ln po wr (a + 4) = some (zI (G.2.1 0) 804 sL) := by simp [mdM]
theorem md_sI : mdM G M a s sA sH sL sI sP sT sG kp ln po wr (a + 5) = some (zI (G.2.1 2) 2 (fun j => zb (sI j))) := by simp [mdM]
theorem md_sP : mdM G M a s sA sH sL sI sP sT sG kp ln po wr (a + 6) = some (zI (G.2.1 0) 60 sP) := by simp [mdM]
theorem md_sT : mdM G M a s sA sH sL sI sP sT sG kp ln po wr (a + 7) = some (zI (G.2.1 0) 6 sT) := by simp [mdM]
theorem md_sG : mdM G M a s sA sH sL sI sP sT sG kp ln po wr (a + 8) = some (zI (G.2.1 0) 6 sG) := by simp [mdM]
theorem mdw_o (kp' ln' po' : Int32) (wr' : Bool) : zu (mdM G M a s sA sH sL sI sP sT sG kp ln po wr) a (zO 6 (mdO a kp' ln' po' wr')) = mdM G M a s sA sH sL sI sP sT sG kp' ln' po' wr' := by
  funext q; simp only [zu, mdM]; split <;> rfl
theorem mdw_s (f' : Nat → Int32) : zu (mdM G M a s sA sH sL sI sP sT sG kp ln po wr) (a + 1) (zI (G.2.1 0) 402 f') = mdM G M a f' sA sH sL sI sP sT sG kp ln po wr := by
  funext q
  by_cases hq : q = a + 1
  · subst hq; simp [zu, mdM]
  · simp only [zu, mdM, if_neg hq]
theorem mdw_sA (f' : Nat → Int32) : zu (mdM G M a s sA sH sL sI sP sT sG kp ln po wr) (a + 2) (zI (G.2.1 0) 402 f') = mdM G M a s f' sH sL sI sP sT sG kp ln po wr := by
  funext q
  by_cases hq : q = a + 2
  · subst hq; simp [zu, mdM]
  · simp only [zu, mdM, if_neg hq]
theorem mdw_sH (f' : Nat → Int32) : zu (mdM G M a s sA sH sL sI sP sT sG kp ln po wr) (a + 3) (zI (G.2.1 0) 2412 f') = mdM G M a s sA f' sL sI sP sT sG kp ln po wr := by
  funext q
  by_cases hq : q = a + 3
  · subst hq; simp [zu, mdM]
  · simp only [zu, mdM, if_neg hq]
theorem mdw_sL (f' : Nat → Int32) : zu (mdM G M a s sA sH sL sI sP sT sG kp ln po wr) (a + 4) (zI (G.2.1 0) 804 f') = mdM G M a s sA sH f' sI sP sT sG kp ln po wr := by
  funext q
  by_cases hq : q = a + 4
  · subst hq; simp [zu, mdM]
  · simp only [zu, mdM, if_neg hq]
theorem mdw_sP (f' : Nat → Int32) : zu (mdM G M a s sA sH sL sI sP sT sG kp ln po wr) (a + 6) (zI (G.2.1 0) 60 f') = mdM G M a s sA sH sL sI f' sT sG kp ln po wr := by
  funext q
  by_cases hq : q = a + 6
  · subst hq; simp [zu, mdM]
  · simp only [zu, mdM, if_neg hq]
theorem mdw_sT (f' : Nat → Int32) : zu (mdM G M a s sA sH sL sI sP sT sG kp ln po wr) (a + 7) (zI (G.2.1 0) 6 f') = mdM G M a s sA sH sL sI sP f' sG kp ln po wr := by
  funext q
  by_cases hq : q = a + 7
  · subst hq; simp [zu, mdM]
  · simp only [zu, mdM, if_neg hq]
theorem mdw_sG (f' : Nat → Int32) : zu (mdM G M a s sA sH sL sI sP sT sG kp ln po wr) (a + 8) (zI (G.2.1 0) 6 f') = mdM G M a s sA sH sL sI sP sT f' kp ln po wr := by
  funext q
  by_cases hq : q = a + 8
  · subst hq; simp [zu, mdM]
  · simp only [zu, mdM, if_neg hq]
theorem mdw_sI (f' : Nat → Bool) : zu (mdM G M a s sA sH sL sI sP sT sG kp ln po wr) (a + 5) (zI (G.2.1 2) 2 (fun j => zb (f' j))) = mdM G M a s sA sH sL f' sP sT sG kp ln po wr := by
  funext q
  by_cases hq : q = a + 5
  · subst hq; simp [zu, mdM]
  · simp only [zu, mdM, if_neg hq]
end ZMD
