/-! orders of a text, as they are read from p on -/
theorem mset_id {M : MS} {k j : Nat} {x : Int32} (h : M k j = x) : mset M k j x = M := by
  funext a b; simp only [mset]; split
  · next e => rw [e.1, e.2, h]
  · rfl
/-- more numbers behind commas: whether well, the place, how many, which -/
def rB (t : Nat → Int32) (len : Nat) : Nat → Nat → Nat → (Nat → Int32) → Bool × Nat × Nat × (Nat → Int32)
  | 0, p, n, w => (true, p, n, w)
  | u + 1, p, n, w => if nxB t len p 44 44 = true then
      (match rN t len (p + 1) with
       | none => (false, p + 1, n, w)
       | some v => rB t len u v.2 (n + 1) (upd w n v.1))
    else (true, p, n, w)
def rP (t : Nat → Int32) (len p : Nat) : Bool × Nat × Int32 × Int32 × Int32 :=
  match rN t len p with
  | none => (false, p, 0, 0, 0)
  | some a => if inB (chr t len a.2) 94 94 = true then
      (match rN t len (a.2 + 1) with
       | none => (false, a.2 + 1, 0, 0, 0)
       | some b => if inB (chr t len b.2) 126 126 = true then
          (if nxB t len (b.2 + 1) 45 45 = true then
            (match rN t len (b.2 + 1 + 1) with
             | none => (false, b.2 + 1 + 1, 0, 0, 0)
             | some c => (true, c.2, a.1, b.1, -c.1))
           else
            (match rN t len (b.2 + 1) with
             | none => (false, b.2 + 1, 0, 0, 0)
             | some c => (true, c.2, a.1, b.1, c.1)))
         else (false, b.2, 0, 0, 0))
    else (false, a.2, 0, 0, 0)
/-- an order: whether well; the place; its numbers; how many of a beat; which -/
def rO (t : Nat → Int32) (len p : Nat) : Bool × Nat × (Int32 × Int32 × Int32) × Nat × (Nat → Int32) :=
  let c := chr t len p
  if c = 115 then (true, p + 1, (0, 0, 0), 1, fun _ => 0)
  else if c = 97 then (true, p + 1, (0, 0, 0), 1, fun _ => 0)
  else if c = 43 then (let r := rP t len (p + 1); (r.1, r.2.1, r.2.2, 1, fun _ => r.2.2.1))
  else if c = 108 then (match rN t len (p + 1) with
    | none => (false, p + 1, (0, 0, 0), 1, fun _ => 0)
    | some a => (true, a.2, (a.1, 0, 0), 1, fun _ => a.1))
  else if c = 98 then (match rN t len (p + 1) with
    | none => (false, p + 1, (0, 0, 0), 1, fun _ => 0)
    | some a => (let r := rB t len 40 a.2 1 (fun _ => a.1); (r.1, r.2.1, (a.1, 0, 0), r.2.2.1, r.2.2.2)))
  else if c = 116 then (match rN t len (p + 1) with
    | none => (false, p + 1, (0, 0, 0), 1, fun _ => 0)
    | some a => (true, a.2, (a.1, 0, 0), 1, fun _ => a.1))
  else (false, p, (0, 0, 0), 1, fun _ => 0)
/-- what the model's table says behind an order that was read -/
def ordP (M M' : MS) (len p : Nat) : Prop :=
  let R := rO (M 6) len p
  (R.1 = true ∧ M' 12 0 = 0 ∧ M' 11 0 = nI R.2.1 ∧ M' 13 0 = chr (M 6) len p ∧ M' 14 0 = R.2.2.1.1 ∧ (chr (M 6) len p = 43 → M' 15 0 = R.2.2.1.2.1 ∧ M' 16 0 = R.2.2.1.2.2) ∧ M' 9 0 = nI R.2.2.2.1 ∧ (∀ j, j < R.2.2.2.1 → M' 8 j = R.2.2.2.2 j) ∧ Pk M M') ∨
  (R.1 = false ∧ M' 12 0 = 1 ∧ M' 11 0 = nI R.2.1 ∧ Pk M M')
theorem Pk.rf (M : MS) : Pk M M := fun _ _ _ _ _ _ _ _ _ => rfl
theorem Pk.set {M N : MS} (h : Pk M N) {k : Nat} (hk : k ∈ [8, 9, 11, 12, 13, 14, 15, 16]) (j : Nat) (x : Int32) : Pk M (mset N k j x) := by
  intro a a8 a9 a11 a12 a13 a14 a15 a16
  simp only [List.mem_cons, List.not_mem_nil, or_false] at hk
  rw [mset_ne _ (by rcases hk with rfl | rfl | rfl | rfl | rfl | rfl | rfl | rfl <;> assumption)]
  exact h a a8 a9 a11 a12 a13 a14 a15 a16
/-- the orders of the pad as clocks and ladders answer them: a fault (0: none), the state then -/
def rowE (f w : Nat → Int32) : Nat → Int32
  | 0 => 0
  | k + 1 => if isCb f (w k) = true then rowE f w k else -1
def exE (f : Nat → Int32) (c one two three : Int32) (L : Nat) (w : Nat → Int32) : Int32 :=
  if c = 43 then hangR f one two three else if c = 108 then lddR f one else if c = 98 then rowE f w L else if c = 116 then passR f one else 0
def exF (f : Nat → Int32) (c one two three : Int32) (L : Nat) (w : Nat → Int32) : Nat → Int32 :=
  if c = 43 then newC f (cn f) one two three else if c = 108 then upd (upd f (8 + ln f) one) 6 (nI (ln f + 1)) else if c = 98 then goFF f w L else if c = 116 then pasF f (ix one) else chgA f (if c = 97 then 1 else 0) (cn f)
