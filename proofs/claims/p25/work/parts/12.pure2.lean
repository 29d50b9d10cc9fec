/-! what the methods do to the state, as the model does it -/
def mrow (M : MS) (k : Nat) (f : Nat → Int32) : MS := fun a => if a = k then f else M a
theorem mrow_s (M : MS) (k : Nat) (f : Nat → Int32) : mrow M k f k = f := by simp [mrow]
theorem mrow_n (M : MS) {k a : Nat} (h : a ≠ k) (f : Nat → Int32) : mrow M k f a = M a := by simp [mrow, h]
theorem mset_mrow (M : MS) (k j : Nat) (x : Int32) : mset M k j x = mrow M k (upd (M k) j x) := by
  funext a b; by_cases h : a = k
  · subst h; simp [mset, mrow, upd]
  · simp [mset, mrow, h]
theorem dayM_lo (f : Nat → Int32) (c : Nat) {j : Nat} (h : j < 12) : dayM f c j = f j := by
  have a : ∀ w, j ≠ 12 + 8 * c + w := fun w => by omega
  unfold dayM; split
  · split <;> simp [upd, a]
  · simp [upd, a]
def dayAll (f : Nat → Int32) : Nat → Nat → Int32
  | 0 => f
  | c + 1 => dayM (dayAll f c) c
theorem dayAll_lo (f : Nat → Int32) (n : Nat) {j : Nat} (h : j < 12) : dayAll f n j = f j := by
  induction n with
  | zero => rfl
  | succ n ih => show dayM _ _ j = _; rw [dayM_lo _ _ h, ih]
def passD (f : Nat → Int32) : Nat → Nat → Int32
  | 0 => f
  | d + 1 => dayAll (passD f d) (cn f)
theorem passD_lo (f : Nat → Int32) (n : Nat) {j : Nat} (h : j < 12) : passD f n j = f j := by
  induction n with
  | zero => rfl
  | succ n ih => show dayAll _ _ j = _; rw [dayAll_lo _ _ h, ih]
def chg1 (f : Nat → Int32) (a : Int32) (c : Nat) : Nat → Int32 := upd f (12 + 8 * c + 4) (f (12 + 8 * c + 4) + (if f (12 + 8 * c + 6) = 0 then 0 else if a = 1 then -3600 else 3600))
def chgA (f : Nat → Int32) (a : Int32) : Nat → Nat → Int32
  | 0 => f
  | c + 1 => chg1 (chgA f a c) a c
theorem chgA_lo (f : Nat → Int32) (a : Int32) (n : Nat) {j : Nat} (h : j < 12) : chgA f a n j = f j := by
  induction n with
  | zero => rfl
  | succ n ih =>
    show chg1 _ _ _ j = _
    unfold chg1
    rw [upd_ne (by omega), ih]
def wkS (f : Nat → Int32) (c : Nat) : Int32 := f (12 + 8 * c + 3) + (if ¬ rt f c ≤ 0 then -1 else if 0 ≤ rt f c then 0 else 1)
def workM (f : Nat → Int32) (c : Nat) : Nat → Int32 :=
  let h := if f (12 + 8 * c + 6) = 1 ∧ ¬ jabs (f (12 + 8 * c + 4)) ≤ f 0 / 2 then upd f (12 + 8 * c + 3) (if inB (wkS f c) (-20) 20 = true then wkS f c else f (12 + 8 * c + 3)) else f
  upd (upd (upd (upd h (12 + 8 * c + 6) 1) (12 + 8 * c + 4) 0) (12 + 8 * c + 5) 0) (12 + 8 * c + 7) (f (12 + 8 * c + 7) + 1)
theorem workM_lo (f : Nat → Int32) (c : Nat) {j : Nat} (h : j < 12) : workM f c j = f j := by
  have a : ∀ w, j ≠ 12 + 8 * c + w := fun w => by omega
  unfold workM; split <;> simp [upd, a]
/-- the minutes: sum, house, what is carried, when k of the row are gone -/
def miS (f w : Nat → Int32) : Nat → Int32 × Int32 × Int32
  | 0 => (0, 0, -6)
  | k + 1 =>
    let p := miS f w k
    let c := (w k).toNatClampNeg
    let t := f (12 + 8 * c + 0)
    let u := p.1 + jabs (p.2.1 - t) * f 2
    if canW f c = true then
      (u + f 3 + (if o2i (ladF f c) = -6 ∨ o2i (ladF f c) = p.2.2 then 0 else 2 * (jabs (t - 0) * f 2)), t, if o2i (ladF f c) = -6 then p.2.2 else o2i (ladF f c))
    else (u, t, p.2.2)
def miV (f w : Nat → Int32) (k : Nat) : Int32 := (miS f w k).1 + jabs ((miS f w k).2.1 - 0) * f 2
def goF (f w : Nat → Int32) : Nat → Nat → Int32
  | 0 => f
  | k + 1 => if canW (goF f w k) (w k).toNatClampNeg = true then workM (goF f w k) (w k).toNatClampNeg else goF f w k
theorem goF_lo (f w : Nat → Int32) (n : Nat) {j : Nat} (h : j < 12) : goF f w n j = f j := by
  induction n with
  | zero => rfl
  | succ n ih =>
    unfold goF; split
    · rw [workM_lo _ _ h, ih]
    · exact ih
/-- a row of clocks: its length and what it holds, when k clocks are looked at -/
def loW (n : Nat) (x : Int32) (b : Bool) (w : Nat → Int32) : Nat → Nat × (Nat → Int32)
  | 0 => (0, w)
  | k + 1 =>
    let p := loW n x b w k
    let c := if b then n - 1 - k else k
    if (x >>> (nI c &&& 31)) &&& 1 = 1 then (p.1 + 1, upd p.2 p.1 (nI c)) else p
theorem loW_le (n : Nat) (x : Int32) (b : Bool) (w : Nat → Int32) (k : Nat) : (loW n x b w k).1 ≤ k := by
  induction k with
  | zero => exact Nat.le_refl _
  | succ k ih =>
    have key : ∀ (P : Prop) [Decidable P] (a : Nat × (Nat → Int32)) (h : Nat → Int32), (if P then (a.1 + 1, h) else a).1 ≤ a.1 + 1 := by
      intro P _ a h
      split
      · exact Nat.le_refl _
      · exact Nat.le_succ _
    exact Nat.le_trans (key _ _ _) (Nat.succ_le_succ ih)
