/-! what the reference reckons, as functions of its row of numbers -/
theorem zbe_lt {v lo hi : Int32} (h : v < lo) : zbe v lo hi = false := by
  unfold zbe
  have : ¬ lo ≤ v := Int32.not_le.mpr h
  simp [this]
theorem zbe_gt {v lo hi : Int32} (h : hi < v) : zbe v lo hi = false := by
  unfold zbe
  have : ¬ v ≤ hi := Int32.not_le.mpr h
  simp [this]
theorem zbe_ok {v lo hi : Int32} (h1 : ¬ v < lo) (h2 : ¬ hi < v) : zbe v lo hi = true := by
  unfold zbe
  have a := Int32.not_lt.mp h1
  have b := Int32.not_lt.mp h2
  simp [a, b]
def zWantT (s : Nat → Int32) (mm : Int32) (g m : Nat) : Int32 := if zHas mm m = true then s (15 + 22 * m + (14 + g)) else 0
def zWant (s : Nat → Int32) (mm : Int32) (g : Nat) : Int32 := lsum (zWantT s mm g) 6
def zPriceIn (s : Nat → Int32) (mm : Int32) (g : Nat) : Int32 := if s 0 ≤ zWant s mm g then nI (10 + 5 * g) - nI ((10 + 5 * g) / 5) else nI (10 + 5 * g)
def zStr (s : Nat → Int32) (mm : Int32) : Int32 := lsum (fun g => zWant s mm g) 8
def zWei (s : Nat → Int32) (mm : Int32) : Int32 := lsum (fun g => nI (1 + g) * zWant s mm g) 8
def zVal (s : Nat → Int32) (mm : Int32) : Int32 := lsum (fun g => zWant s mm g * zPriceIn s mm g) 8
def zPost (s : Nat → Int32) (mm : Int32) : Int32 := if zStr s mm = 0 then 0 else s 1 + s 2 * zWei s mm
def zCost (s : Nat → Int32) (mm : Int32) : Int32 := zVal s mm + zPost s mm
def zDuty (s : Nat → Int32) (v : Int32) : Int32 := if s 5 < v then (v - s 5) * s 6 / 100 else 0
theorem upd_lt (f g : Nat → Int32) (k : Nat) : upd (fun j => if j < k then f j else g j) k (f k) = fun j => if j < k + 1 then f j else g j := by
  funext j
  unfold upd
  by_cases h : j = k
  · subst h; simp
  · by_cases h2 : j < k
    · simp [h, h2, Nat.lt_succ_of_lt h2]
    · simp [h, h2, show ¬ j < k + 1 by omega]
