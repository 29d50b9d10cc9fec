/-! carrying out -/
section CO
variable {T : Nat → Int32} {len u p : Nat} {f : Nat → Int32}
theorem ccO_no1 (h0 : 0 < p) (h : ¬ chr T len p = 59) : ccO T len u p f = (0, f) := by
  cases u with
  | zero => rfl
  | succ u => unfold ccO; rw [if_pos ⟨h0, h⟩]
theorem ccO_no2 (hz : p = 0 ∨ (0 < p ∧ chr T len p = 59)) (hR : (rO T len (p0of T len p)).1 = false) : ccO T len u p f = (0, f) := by
  cases u with
  | zero => rfl
  | succ u =>
    unfold ccO
    rw [if_neg (fun z => by rcases hz with h | h; omega; exact z.2 h.2), if_neg (by rw [hR]; decide)]
theorem ccO_no3 (hz : p = 0 ∨ (0 < p ∧ chr T len p = 59)) (hR : (rO T len (p0of T len p)).1 = true) (hr : ¬ 0 ≤ oneR f (chr T len (p0of T len p)) (rO T len (p0of T len p)).2.2) : ccO T len (u + 1) p f = (0, oneF f (chr T len (p0of T len p)) (rO T len (p0of T len p)).2.2) := by
  unfold ccO
  rw [if_neg (fun z => by rcases hz with h | h; omega; exact z.2 h.2), if_pos hR, if_pos (Int32.not_le.mp hr)]
theorem ccO_go (hz : p = 0 ∨ (0 < p ∧ chr T len p = 59)) (hR : (rO T len (p0of T len p)).1 = true) (hr : 0 ≤ oneR f (chr T len (p0of T len p)) (rO T len (p0of T len p)).2.2) : ccO T len (u + 1) p f = ((ccO T len u (rO T len (p0of T len p)).2.1 (oneF f (chr T len (p0of T len p)) (rO T len (p0of T len p)).2.2)).1 + 1, (ccO T len u (rO T len (p0of T len p)).2.1 (oneF f (chr T len (p0of T len p)) (rO T len (p0of T len p)).2.2)).2) := by
  conv => lhs; unfold ccO
  rw [if_neg (fun z => by rcases hz with h | h; omega; exact z.2 h.2), if_pos hR, if_neg (Int32.not_lt.mpr hr)]
end CO
theorem ccO_le (T : Nat → Int32) (len : Nat) : ∀ u p f, (ccO T len u p f).1 ≤ u := by
  intro u
  induction u with
  | zero => intro p f; exact Nat.le_refl _
  | succ u ih =>
    intro p f
    unfold ccO
    split
    · exact Nat.zero_le _
    · split
      · split
        · exact Nat.zero_le _
        · have := ih (rO T len (p0of T len p)).2.1 (oneF f (chr T len (p0of T len p)) (rO T len (p0of T len p)).2.2)
          show _ + 1 ≤ u + 1; omega
      · exact Nat.zero_le _
/-- what the orders carried out leave -/
def coC (C : MS) (pi : Nat → Nat) (d : Nat) (F : Nat → Int32) (C1 : MS) (pi1 : Nat → Nat) : Prop :=
  C1 0 = F ∧ C1 (pi d) = cpS (C (pi d)) (C 0) ∧ (∀ a, a ≠ 0 → a ≠ 10 → a ≠ 13 → a ≠ pi d → C1 a = C a) ∧ C1 10 1 = 0 ∧ C1 10 0 = nI (if d < 6 then d + 1 else d) ∧ pi1 = (if d < 6 then pi else rot pi)
