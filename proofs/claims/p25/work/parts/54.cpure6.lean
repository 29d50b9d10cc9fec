/-! the class's reading, its history -/
def rdT (T : Nat → Int32) (C C1 : MS) (len p0 : Nat) (r : Int32) : Prop := ∃ (L : Nat) (w : Nat → Int32), C1 = pdM (mset C 10 3 (chr T len p0)) (rO T len p0).2.1 L w ∧ L ≤ 40 ∧ (((rO T len p0).1 = true ∧ r = 1 ∧ nmS (chr T len p0) (rO T len p0).2.2 L w) ∨ ((rO T len p0).1 = false ∧ r = 0))
theorem rdJ {C C1 : MS} {len pp : Nat} {r : Int32} {T : Nat → Int32} (hT : C 12 = T) (h : (0 < pp ∧ ¬ chr (C 12) len pp = 59 ∧ r = 0 ∧ C1 = C) ∨ (pp = 0 ∧ rdP C C1 len pp r) ∨ (0 < pp ∧ chr (C 12) len pp = 59 ∧ rdP C C1 len (pp + 1) r)) :
    (0 < pp ∧ ¬ chr T len pp = 59 ∧ r = 0 ∧ C1 = C) ∨ ((pp = 0 ∨ (0 < pp ∧ chr T len pp = 59)) ∧ rdT T C C1 len (p0of T len pp) r) := by
  subst hT
  rcases h with h | ⟨h, h2⟩ | ⟨h, h1, h2⟩
  · exact Or.inl h
  · refine Or.inr ⟨Or.inl h, ?_⟩
    subst h; exact h2
  · refine Or.inr ⟨Or.inr ⟨h, h1⟩, ?_⟩
    unfold p0of; rw [if_neg (by omega)]; exact h2
theorem p0of_le {t : Nat → Int32} {len p : Nat} (hp : p ≤ len) (h : p = 0 ∨ (0 < p ∧ chr t len p = 59)) : p0of t len p ≤ len ∧ p ≤ p0of t len p ∧ (0 < p → p0of t len p = p + 1) := by
  unfold p0of
  rcases h with rfl | ⟨h, h2⟩
  · rw [if_pos rfl]; omega
  · rw [if_neg (by omega)]
    have := chr_lt h2 (by decide)
    omega
def rtP (pi : Nat → Nat) (i : Nat) : Nat → Nat := fun j => if j < i then pi (j + 1) else pi j
theorem rtP_0 (pi : Nat → Nat) : rtP pi 0 = pi := by funext j; exact if_neg (by omega)
theorem rtP_s (pi : Nat → Nat) (i : Nat) : va_up (rtP pi i) i (rtP pi i (i + 1)) = rtP pi (i + 1) := by
  funext j
  unfold va_up rtP
  by_cases h : j = i
  · subst h; rw [if_pos rfl, if_neg (by omega), if_pos (by omega)]
  · rw [if_neg h]
    by_cases h2 : j < i
    · rw [if_pos h2, if_pos (by omega)]
    · rw [if_neg h2, if_neg (by omega)]
def rot (pi : Nat → Nat) : Nat → Nat := va_up (rtP pi 6) 6 (pi 0)
/-- the history's places hold the States 1 to 7 -/
def piOk (pi : Nat → Nat) : Prop := (∀ j, j < 7 → 1 ≤ pi j ∧ pi j ≤ 7) ∧ ∀ i j, i < 7 → j < 7 → pi i = pi j → i = j
theorem rtP_lt {pi : Nat → Nat} (h : piOk pi) (i j : Nat) (hi : i < 6) (hj : j < 7) : rtP pi i j < 10 := by
  unfold rtP
  split
  · have := h.1 (j + 1) (by omega); omega
  · have := h.1 j hj; omega
theorem rot_e {pi : Nat → Nat} {j : Nat} (hj : j < 7) : rot pi j = if j = 6 then pi 0 else pi (j + 1) := by
  unfold rot va_up rtP
  by_cases h : j = 6
  · rw [if_pos h, if_pos h]
  · rw [if_neg h, if_neg h, if_pos (by omega)]
theorem rot_ok {pi : Nat → Nat} (h : piOk pi) : piOk (rot pi) := by
  refine ⟨fun j hj => ?_, fun i j hi hj e => ?_⟩
  · rw [rot_e hj]; split
    · exact h.1 0 (by decide)
    · exact h.1 (j + 1) (by omega)
  · rw [rot_e hi, rot_e hj] at e
    split at e
    · split at e
      · omega
      · have := h.2 0 (j + 1) (by decide) (by omega) e; omega
    · split at e
      · have := h.2 (i + 1) 0 (by omega) (by decide) e; omega
      · have := h.2 (i + 1) (j + 1) (by omega) (by omega) e; omega
def goOk (f : Nat → Int32) : Prop := ∀ c, c < 16 → f (12 + 8 * c + 6) = 0 ∨ f (12 + 8 * c + 6) = 1
/-- the table behind history.prepare(now) -/
def prM (C : MS) (pi : Nat → Nat) (d : Nat) : MS := mrow C (pi d) (cpS (C (pi d)) (C 0))
/-- a call that changes the state to F and answers r, as prepare, keptIfDone leave it -/
def opC (C : MS) (pi : Nat → Nat) (d : Nat) (F : Nat → Int32) (r : Int32) (C1 : MS) (pi1 : Nat → Nat) : Prop :=
  (0 ≤ r ∧ d < 6 ∧ C1 = mset (mrow (prM C pi d) 0 F) 10 0 (nI (d + 1)) ∧ pi1 = pi) ∨ (0 ≤ r ∧ ¬ d < 6 ∧ C1 = mrow (prM C pi d) 0 F ∧ pi1 = rot pi) ∨ (¬ 0 ≤ r ∧ C1 = mrow (prM C pi d) 0 F ∧ pi1 = pi)
