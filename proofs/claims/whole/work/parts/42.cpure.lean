/-! what the class's clocks do -/
theorem jabs_eq (x : Int32) : (if 0 ≤ x then x else 0 - x) = jabs x := by
  unfold jabs; rw [Int32.zero_sub]
def jmax (x y : Int32) : Int32 := if x < y then y else x
theorem mrow_mrow (M : MS) (k : Nat) (f h : Nat → Int32) : mrow (mrow M k f) k h = mrow M k h := by
  funext a; simp only [mrow]; split <;> rfl
def dayC (f : Nat → Int32) (c : Nat) (wd : Int32) : Nat → Int32 :=
  if f (12 + 8 * c + 6) = 0 then
    (if f (12 + 8 * c + 5) + 1 ≤ wd then upd f (12 + 8 * c + 5) (f (12 + 8 * c + 5) + 1)
     else upd (upd (upd f (12 + 8 * c + 5) (f (12 + 8 * c + 5) + 1)) (12 + 8 * c + 6) 0) (12 + 8 * c + 4) 43200)
  else
    (if f (12 + 8 * c + 5) + 1 ≤ wd then upd (upd f (12 + 8 * c + 4) (f (12 + 8 * c + 4) + rt f c)) (12 + 8 * c + 5) (f (12 + 8 * c + 5) + 1)
     else upd (upd (upd (upd f (12 + 8 * c + 4) (f (12 + 8 * c + 4) + rt f c)) (12 + 8 * c + 5) (f (12 + 8 * c + 5) + 1)) (12 + 8 * c + 6) 0) (12 + 8 * c + 4) 43200)
def begC (f : Nat → Int32) (c : Nat) (h u d : Int32) : Nat → Int32 := upd (upd (upd (upd (upd (upd (upd (upd f (12 + 8 * c + 0) h) (12 + 8 * c + 1) u) (12 + 8 * c + 2) d) (12 + 8 * c + 3) 0) (12 + 8 * c + 4) 0) (12 + 8 * c + 5) 0) (12 + 8 * c + 7) 0) (12 + 8 * c + 6) 1
def turC (f : Nat → Int32) (c : Nat) : Nat → Int32 :=
  if rt f c ≤ 0 then (if 0 ≤ rt f c then f else (if 20 ≤ f (12 + 8 * c + 3) then f else upd f (12 + 8 * c + 3) (f (12 + 8 * c + 3) + 1)))
  else (if f (12 + 8 * c + 3) ≤ -20 then (if 0 ≤ rt f c then f else (if 20 ≤ f (12 + 8 * c + 3) then f else upd f (12 + 8 * c + 3) (f (12 + 8 * c + 3) + 1))) else upd f (12 + 8 * c + 3) (f (12 + 8 * c + 3) - 1))
def setC (h : Nat → Int32) (c : Nat) : Nat → Int32 := upd (upd (upd (upd h (12 + 8 * c + 6) 1) (12 + 8 * c + 4) 0) (12 + 8 * c + 5) 0) (12 + 8 * c + 7) (h (12 + 8 * c + 7) + 1)
def winC (f : Nat → Int32) (c : Nat) (t : Int32) : Nat → Int32 :=
  if f (12 + 8 * c + 6) = 0 then setC f c else (if offB f c (t / 2) = true then setC (turC f c) c else setC f c)
def cpyC (f h : Nat → Int32) (c d : Nat) : Nat → Int32 := upd (upd (upd (upd (upd (upd (upd (upd f (12 + 8 * c + 0) (h (12 + 8 * d + 0))) (12 + 8 * c + 1) (h (12 + 8 * d + 1))) (12 + 8 * c + 2) (h (12 + 8 * d + 2))) (12 + 8 * c + 3) (h (12 + 8 * d + 3))) (12 + 8 * c + 4) (h (12 + 8 * d + 4))) (12 + 8 * c + 5) (h (12 + 8 * d + 5))) (12 + 8 * c + 7) (h (12 + 8 * d + 7))) (12 + 8 * c + 6) (h (12 + 8 * d + 6))
