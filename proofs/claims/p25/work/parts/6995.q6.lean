/-! numbers of a clock, of a ladder; a step of the set -/
section Q6
variable {f : Nat → Int32} {c k : Nat} {x : Int32}
theorem cl_num (v : Iv f) (hc : c < cn f) : ∃ ru, ru ≤ 30 ∧ f (12 + 8 * c + 1) = nI ru ∧ ∃ s3, s3 ≤ 40 ∧ f (12 + 8 * c + 3) + 20 = nI s3 := by
  obtain ⟨D, hD, h4, W, S, vc⟩ := v
  obtain ⟨_, ⟨ru, h1, h2⟩, hs, _⟩ := vc c hc
  obtain ⟨s3, h3, e3⟩ := scr_ex hs
  refine ⟨ru, h1, h2, s3, by omega, ?_⟩
  rw [e3]; exact Int32.sub_add_cancel _ _
theorem la_num (v : Iv f) (hk : k < ln f) : ∃ la, la ≤ 30 ∧ f (8 + k) = nI la := by
  obtain ⟨a, _, h, e⟩ := v.S.2.2.2.2 k hk
  exact ⟨a, h, e⟩
theorem ho_num (v : Iv f) (hc : c < cn f) : ∃ a, a ≤ 99 ∧ f (12 + 8 * c + 0) = nI a := by
  obtain ⟨D, hD, h4, W, S, vc⟩ := v
  exact (vc c hc).1
theorem cl_go (v : Iv f) (hc : c < cn f) : f (12 + 8 * c + 6) = 1 ∨ (f (12 + 8 * c + 6) = 0 ∧ f (12 + 8 * c + 4) = 43200) := by
  obtain ⟨D, hD, h4, W, S, vc⟩ := v
  exact (vc c hc).2.2.2.2
theorem o2i_can (W : Wk f) (h : canW f c = true) {ru : Nat} (e : f (12 + 8 * c + 1) = nI ru) (hr : ru ≤ 30) : ¬ ru = 0 → ¬ o2i (ladF f c) < 0 := by
  intro h0
  rcases canW_t.mp h with y | y
  · rw [e] at y; exact absurd y (nI_ne0 (by omega) (by omega))
  · cases q : ladF f c with
    | none => exact absurd q y
    | some p =>
      have := ladF_lt W c p q
      exact nI_pos this
theorem fm_t {a : Nat} (h : bt x c) (e : f (12 + 8 * c + 0) = nI a) (ha : a < 2 ^ 31 := by omega) : fmN f x (c + 1) = max (fmN f x c) a := by
  show (if bt x c then _ else _) = _
  rw [if_pos h, e, ix_nI ha]
theorem fm_f (h : ¬ bt x c) : fmN f x (c + 1) = fmN f x c := by
  show (if bt x c then _ else _) = _
  rw [if_neg h]
theorem wr_t (h : bt x c) : wrN f x (c + 1) = if canW f c = true then wrN f x c + 1 else wrN f x c := by
  show (if bt x c then _ else _) = _
  rw [if_pos h]
theorem wr_f (h : ¬ bt x c) : wrN f x (c + 1) = wrN f x c := by
  show (if bt x c then _ else _) = _
  rw [if_neg h]
theorem fm_le (v : Iv f) (x : Int32) : ∀ c, c ≤ cn f → fmN f x c ≤ 99 := by
  intro c
  induction c with
  | zero => intro _; show 0 ≤ 99; omega
  | succ c ih =>
    intro hc
    have i := ih (by omega)
    by_cases h : bt x c
    · obtain ⟨a, ha, ea⟩ := ho_num v (show c < cn f by omega)
      rw [fm_t h ea]; omega
    · rw [fm_f h]; exact i
end Q6
