/-! turning round; slots -/
theorem trN_e (w : Nat → Int32) (L : Nat) : ∀ i, i ≤ L / 2 → ∀ j, j < L → trN w L i j = if j < i ∨ L - 1 - j < i then w (L - 1 - j) else w j := by
  intro i
  induction i with
  | zero => intro _ j hj; rw [if_neg (by omega)]; rfl
  | succ i ih =>
    intro hi j hj
    unfold trN
    rw [ih (by omega) (L - 1 - i) (by omega), ih (by omega) i (by omega), if_neg (by omega), if_neg (by omega)]
    by_cases h1 : j = L - 1 - i
    · subst h1
      rw [upd_self, if_pos (by omega), show L - 1 - (L - 1 - i) = i by omega]
    · rw [upd_ne h1]
      by_cases h2 : j = i
      · subst h2; rw [upd_self, if_pos (by omega)]
      · rw [upd_ne h2, ih (by omega) j hj]
        by_cases h3 : j < i ∨ L - 1 - j < i
        · rw [if_pos h3, if_pos (by omega)]
        · rw [if_neg h3, if_neg (by omega)]
theorem trN_rev (w : Nat → Int32) (L : Nat) {j : Nat} (hj : j < L) : trN w L (L / 2) j = w (L - 1 - j) := by
  rw [trN_e w L _ (Nat.le_refl _) j hj]
  split
  · rfl
  · rw [show L - 1 - j = j by omega]
theorem trN_gd {f w : Nat → Int32} {L : Nat} (h : gdN f w L) : gdN f (trN w L (L / 2)) L := fun j hj => by
  rw [trN_rev w L hj]; exact h _ (by omega)
theorem rwM_mrow {C : MS} {L : Nat} {w w' : Nat → Int32} : mrow (rwM C L w) 14 w' = rwM C L w' := by
  funext a b
  by_cases h2 : a = 14
  · subst h2; rw [mrow_s, rwM_14]
  · rw [mrow_n _ h2]
    by_cases h : a = 10
    · subst h
      by_cases h5 : b = 5
      · subst h5; rw [rwM_5, rwM_5]
      · rw [rwM_o h5, rwM_o h5]
    · rw [rwM_ne h h2, rwM_ne h h2]
def wayC (a b : Int32) : Int32 := if a = b then 2 else if b ≤ a then 1 else 0
theorem inB01_t {x : Int32} (h : ¬ x < 0) (h2 : ¬ 2 ≤ x) : inB x 0 1 = true := by
  rw [inB_t]; refine ⟨h, fun z => h2 ?_⟩
  have : (1 : Int32).toInt < x.toInt := Int32.lt_iff_toInt_lt.mp z
  rw [Int32.le_iff_toInt_le]
  rw [show (1 : Int32).toInt = 1 from by decide] at this
  rw [show (2 : Int32).toInt = 2 from by decide]; omega
theorem inB01_f1 {x : Int32} (h : x < 0) : inB x 0 1 = false := by rw [inB_f]; exact fun z => z.1 h
theorem inB01_f2 {x : Int32} (h : 2 ≤ x) : inB x 0 1 = false := by
  rw [inB_f]; intro z; apply z.2
  have := Int32.le_iff_toInt_le.mp h
  rw [show (2 : Int32).toInt = 2 from by decide] at this
  rw [Int32.lt_iff_toInt_lt, show (1 : Int32).toInt = 1 from by decide]; omega
theorem cpS_5 (f h : Nat → Int32) : cpS f h 5 = nI (cn h) := by
  unfold cpS; rw [upd_ne (by decide), upd_ne (by decide), upd_ne (by decide), upd_self]
