/-! orders of a text, as they are read from p on -/
theorem mset_id {M : MS} {k j : Nat} {x : Int32} (h : M k j = x) : mset M k j x = M := by
  funext a b; simp only [mset]; split
  · next e => rw [e.1, e.2, h]
  · rfl
/-- more numbers behind commas: whether well, the place, how many, which -/
def rB (t : Nat → Int32) (len : Nat) : Nat → Nat → Nat → (Nat → Int32) → Bool × Nat × Nat × (Nat → Int32)
  | 0, p, n, w => (true, p, n, w)
  | u + 1, p, n, w => if nxB t len p 44 44 = true then
      (match rN t len (p + 1) with
       | none => (false, p + 1, n, w)
       | some v => rB t len u v.2 (n + 1) (upd w n v.1))
    else (true, p, n, w)
def rP (t : Nat → Int32) (len p : Nat) : Bool × Nat × Int32 × Int32 × Int32 :=
  match rN t len p with
  | none => (false, p, 0, 0, 0)
  | some a => if inB (chr t len a.2) 94 94 = true then
      (match rN t len (a.2 + 1) with
       | none => (false, a.2 + 1, 0, 0, 0)
       | some b => if inB (chr t len b.2) 126 126 = true then
          (if nxB t len (b.2 + 1) 45 45 = true then
            (match rN t len (b.2 + 1 + 1) with
             | none => (false, b.2 + 1 + 1, 0, 0, 0)
             | some c => (true, c.2, a.1, b.1, -c.1))
           else
            (match rN t len (b.2 + 1) with
             | none => (false, b.2 + 1, 0, 0, 0)
             | some c => (true, c.2, a.1, b.1, c.1)))
         else (false, b.2, 0, 0, 0))
    else (false, a.2, 0, 0, 0)
def rBO (one : Int32) (r : Bool × Nat × Nat × (Nat → Int32)) : Bool × Nat × (Int32 × Int32 × Int32) × Nat × (Nat → Int32) := (r.1, r.2.1, (one, 0, 0), r.2.2.1, r.2.2.2)
/-- an order: whether well; the place; its numbers; how many of a beat; which -/
def rO (t : Nat → Int32) (len p : Nat) : Bool × Nat × (Int32 × Int32 × Int32) × Nat × (Nat → Int32) :=
  let c := chr t len p
  if c = 115 then (true, p + 1, (0, 0, 0), 1, fun _ => 0)
  else if c = 97 then (true, p + 1, (0, 0, 0), 1, fun _ => 0)
  else if c = 43 then (let r := rP t len (p + 1); (r.1, r.2.1, r.2.2, 1, fun _ => r.2.2.1))
  else if c = 108 then (match rN t len (p + 1) with
    | none => (false, p + 1, (0, 0, 0), 1, fun _ => 0)
    | some a => (true, a.2, (a.1, 0, 0), 1, fun _ => a.1))
  else if c = 98 then (match rN t len (p + 1) with
    | none => (false, p + 1, (0, 0, 0), 1, fun _ => 0)
    | some a => rBO a.1 (rB t len 40 a.2 1 (fun _ => a.1)))
  else if c = 116 then (match rN t len (p + 1) with
    | none => (false, p + 1, (0, 0, 0), 1, fun _ => 0)
    | some a => (true, a.2, (a.1, 0, 0), 1, fun _ => a.1))
  else (false, p, (0, 0, 0), 1, fun _ => 0)
/-- what the model's table says behind an order that was read -/
def ordP (M M' : MS) (len p : Nat) : Prop :=
  let R := rO (M 6) len p
  (R.1 = true ∧ M' 12 0 = 0 ∧ M' 11 0 = nI R.2.1 ∧ M' 13 0 = chr (M 6) len p ∧ M' 14 0 = R.2.2.1.1 ∧ (chr (M 6) len p = 43 → M' 15 0 = R.2.2.1.2.1 ∧ M' 16 0 = R.2.2.1.2.2) ∧ M' 9 0 = nI R.2.2.2.1 ∧ (∀ j, j < R.2.2.2.1 → M' 8 j = R.2.2.2.2 j) ∧ Pk M M') ∨
  (R.1 = false ∧ M' 12 0 = 1 ∧ M' 11 0 = nI R.2.1 ∧ Pk M M')
theorem Pk.rf (M : MS) : Pk M M := fun _ _ _ _ _ _ _ _ _ => rfl
theorem Pk.set {M N : MS} (h : Pk M N) {k : Nat} (hk : k ∈ [8, 9, 11, 12, 13, 14, 15, 16]) (j : Nat) (x : Int32) : Pk M (mset N k j x) := by
  intro a a8 a9 a11 a12 a13 a14 a15 a16
  simp only [List.mem_cons, List.not_mem_nil, or_false] at hk
  rw [mset_ne _ (by rcases hk with rfl | rfl | rfl | rfl | rfl | rfl | rfl | rfl <;> assumption)]
  exact h a a8 a9 a11 a12 a13 a14 a15 a16
/-- the orders of the pad as clocks and ladders answer them: a fault (0: none), the state then -/
def rowE (f w : Nat → Int32) : Nat → Int32
  | 0 => 0
  | k + 1 => if isCb f (w k) = true then rowE f w k else -1
def exE (f : Nat → Int32) (c one two three : Int32) (L : Nat) (w : Nat → Int32) : Int32 :=
  if c = 43 then hangR f one two three else if c = 108 then lddR f one else if c = 98 then rowE f w L else if c = 116 then passR f one else 0
def exF (f : Nat → Int32) (c one two three : Int32) (L : Nat) (w : Nat → Int32) : Nat → Int32 :=
  if c = 43 then newC f (cn f) one two three else if c = 108 then upd (upd f (8 + ln f) one) 6 (nI (ln f + 1)) else if c = 98 then goFF f w L else if c = 116 then pasF f (ix one) else chgA f (if c = 97 then 1 else 0) (cn f)
theorem ordP_ok {M M' : MS} {len p pl L : Nat} {one two three : Int32} {w : Nat → Int32} (hR : rO (M 6) len p = (true, pl, (one, two, three), L, w)) (h12 : M' 12 0 = 0) (h11 : M' 11 0 = nI pl) (h13 : M' 13 0 = chr (M 6) len p) (h14 : M' 14 0 = one) (h43 : chr (M 6) len p = 43 → M' 15 0 = two ∧ M' 16 0 = three) (h9 : M' 9 0 = nI L) (h8 : ∀ j, j < L → M' 8 j = w j) (hP : Pk M M') : ordP M M' len p := by
  unfold ordP; rw [hR]; exact Or.inl ⟨rfl, h12, h11, h13, h14, h43, h9, h8, hP⟩
theorem ordP_no {M M' : MS} {len p pl : Nat} (hR : (rO (M 6) len p).1 = false ∧ (rO (M 6) len p).2.1 = pl) (h12 : M' 12 0 = 1) (h11 : M' 11 0 = nI pl) (hP : Pk M M') : ordP M M' len p := by
  unfold ordP; exact Or.inr ⟨hR.1, h12, by rw [hR.2]; exact h11, hP⟩
theorem rB_t {t : Nat → Int32} {len n p : Nat} {w : Nat → Int32} {v : Int32} {p' : Nat} (hn : n < 41) (h : nxB t len p 44 44 = true) (hv : rN t len (p + 1) = some (v, p')) : rB t len (41 - n) p n w = rB t len (41 - (n + 1)) p' (n + 1) (upd w n v) := by
  rw [show 41 - n = (41 - (n + 1)) + 1 by omega]
  simp only [rB, h, hv, if_true]
theorem rB_f {t : Nat → Int32} {len n p : Nat} {w : Nat → Int32} (hn : n < 41) (h : nxB t len p 44 44 = true) (hv : rN t len (p + 1) = none) : rB t len (41 - n) p n w = (false, p + 1, n, w) := by
  rw [show 41 - n = (41 - (n + 1)) + 1 by omega]
  simp only [rB, h, hv, if_true]
theorem rB_e {t : Nat → Int32} {len n p : Nat} {w : Nat → Int32} (hn : n < 41) (h : nxB t len p 44 44 = false) : rB t len (41 - n) p n w = (true, p, n, w) := by
  rw [show 41 - n = (41 - (n + 1)) + 1 by omega]
  simp only [rB, h]
  rfl
theorem rowE_0 {f w : Nat → Int32} (W : Wk f) : ∀ L, rowE f w L = 0 → ∀ k, k < L → ∃ i, i < cn f ∧ w k = nI i := by
  intro L
  induction L with
  | zero => intro _ k hk; exact absurd hk (Nat.not_lt_zero _)
  | succ L ih =>
    intro h k hk
    unfold rowE at h
    split at h
    · next h1 =>
      by_cases e : k = L
      · subst e; exact (isC_iff W _).mp h1
      · exact ih h k (by omega)
    · exact absurd h (by decide)
theorem rowE_cases (f w : Nat → Int32) (L : Nat) : rowE f w L = 0 ∨ rowE f w L = -1 := by
  induction L with
  | zero => exact Or.inl rfl
  | succ L ih => unfold rowE; split
                 · exact ih
                 · exact Or.inr rfl
