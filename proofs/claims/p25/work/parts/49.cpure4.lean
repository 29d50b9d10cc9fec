/-! the class's Pad: the place, how many numbers, the numbers -/
def pdM (C : MS) (q L : Nat) (w : Nat → Int32) : MS := mset (mset (mrow C 13 w) 10 4 (nI L)) 10 2 (nI q)
section PD
variable {C : MS} {q q' L L' : Nat} {w w' : Nat → Int32}
theorem pdM_13 : pdM C q L w 13 = w := by
  unfold pdM; rw [mset_ne _ (by decide), mset_ne _ (by decide), mrow_s]
theorem pdM_ne {a : Nat} (h : a ≠ 10) (h2 : a ≠ 13) : pdM C q L w a = C a := by
  unfold pdM; rw [mset_ne _ h, mset_ne _ h, mrow_n _ h2]
theorem pdM_q : pdM C q L w 10 2 = nI q := by unfold pdM; exact mset_eq _ _ _ _
theorem pdM_L : pdM C q L w 10 4 = nI L := by unfold pdM; rw [mset_nj _ (by decide)]; exact mset_eq _ _ _ _
theorem pdM_o {j : Nat} (h : j ≠ 2) (h4 : j ≠ 4) : pdM C q L w 10 j = C 10 j := by
  unfold pdM; rw [mset_nj _ h, mset_nj _ h4, mrow_n _ (by decide)]
theorem pdM_pdM : pdM (pdM C q L w) q' L' w' = pdM C q' L' w' := by
  funext a b
  by_cases h : a = 10
  · subst h
    by_cases h2 : b = 2
    · subst h2; rw [pdM_q, pdM_q]
    · by_cases h4 : b = 4
      · subst h4; rw [pdM_L, pdM_L]
      · rw [pdM_o h2 h4, pdM_o h2 h4, pdM_o h2 h4]
  · by_cases h2 : a = 13
    · subst h2; rw [pdM_13, pdM_13]
    · rw [pdM_ne h h2, pdM_ne h h2, pdM_ne h h2]
theorem pdM_tk : mset (pdM C q L w) 10 2 (nI q') = pdM C q' L w := by unfold pdM; rw [mset_mset]
theorem pdM_id (h2 : C 10 2 = nI q) (h4 : C 10 4 = nI L) : pdM C q L (C 13) = C := by
  unfold pdM; rw [mrow_self, mset_id h4, mset_id h2]
theorem pdM_add {x : Int32} : mset (mset (mset C 10 2 (nI q)) 13 L x) 10 4 (nI L') = pdM C q L' (upd (C 13) L x) := by
  funext a b
  by_cases h : a = 10
  · subst h
    by_cases h2 : b = 2
    · subst h2; rw [pdM_q, mset_nj _ (by decide), mset_nk _ (by decide), mset_eq]
    · by_cases h4 : b = 4
      · subst h4; rw [pdM_L, mset_eq]
      · rw [pdM_o h2 h4, mset_nj _ h4, mset_nk _ (by decide), mset_nj _ h2]
  · by_cases h2 : a = 13
    · subst h2; rw [pdM_13, mset_ne _ (by decide), mset_row, mset_ne _ (by decide)]
    · rw [pdM_ne h h2, mset_ne _ h, mset_ne _ h2, mset_ne _ h]
end PD
def rC (t : Nat → Int32) (len u q n : Nat) (w : Nat → Int32) : Bool × Nat × Nat × (Nat → Int32) :=
  match rN t len q with
  | none => (false, q, n, w)
  | some v => rB t len u v.2 (n + 1) (upd w n v.1)
def chOk (t : Nat → Int32) (len : Nat) : Prop := ∀ j, j < len → ∃ n, n < 128 ∧ t j = nI n
theorem nar_ch {t : Nat → Int32} {len p : Nat} (h : chOk t len) (hp : p < len) : narrow .char (.int (t p)) = .int (t p) := by
  obtain ⟨n, hn, e⟩ := h p hp
  rw [e]
  exact (show ∀ n, n < 128 → narrow .char (.int (nI n)) = .int (nI n) from by decide +kernel) n hn
theorem nxB_eq {t : Nat → Int32} {len p : Nat} {lo hi : Int32} (hlo : ¬ lo ≤ 0) : nxB t len p lo hi = inB (chr t len p) lo hi := by
  by_cases h : p < len
  · unfold nxB; rw [chr_in h]; simp [h]
  · rw [chr_out (by omega)]
    unfold nxB inB
    have : (0 : Int32) < lo := Int32.not_le.mp hlo
    simp [h, this]
