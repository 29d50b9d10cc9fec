/-! the class's public methods -/
def gdB (f w : Nat → Int32) : Nat → Bool
  | 0 => true
  | n + 1 => gdB f w n && isCb f (w n)
theorem gdB_t (f w : Nat → Int32) (n : Nat) : gdB f w n = true ↔ gdN f w n := by
  induction n with
  | zero => exact ⟨fun _ i h => absurd h (Nat.not_lt_zero _), fun _ => rfl⟩
  | succ n ih =>
    unfold gdB
    rw [Bool.and_eq_true, ih]
    exact ⟨fun h => gdN_s h.1 h.2, fun h => ⟨fun i hi => h i (by omega), h n (by omega)⟩⟩
def bwR (f w : Nat → Int32) (L : Nat) : Int32 := if gdB f w L = true then moN f w L else -1
def bwF (f w : Nat → Int32) (L : Nat) : Nat → Int32 := if gdB f w L = true then (if 0 ≤ moN f w L then upd (wbN f w L) 7 (f 7 + moN f w L) else f) else f
theorem prM_ne {C : MS} {pi : Nat → Nat} {d a : Nat} (h : a ≠ pi d) : prM C pi d a = C a := mrow_n _ h _
theorem Int32.nlt_le {x : Int32} (h : ¬ x < 0) : 0 ≤ x := Int32.not_lt.mp h
theorem Int32.lt_nle {x : Int32} (h : x < 0) : ¬ 0 ≤ x := Int32.not_le.mpr h
theorem lofR_in {f : Nat → Int32} (w : Wk f) {i : Nat} (h : i < ln f) : lofR f (nI i) = f (8 + i) := by
  have := w.2.2.2
  have e : inB (nI i) 0 (f 6 - 1) = true := by
    rw [w.2.2.1, show (1 : Int32) = nI 1 from rfl, pk_sub (by omega), inB_t]
    exact ⟨nI_pos (by omega), fun z => by have := (nI_ltI (by omega) (by omega)).mp z; omega⟩
  unfold lofR
  rw [if_pos e, ix_nI (by omega)]
theorem lofR_no {f : Nat → Int32} (w : Wk f) {x : Int32} (h : ¬ ∃ i, i < ln f ∧ x = nI i) : lofR f x = -1 := by
  unfold lofR
  rw [if_neg (fun z => h (lof_iff w z))]
def rwM (C : MS) (L : Nat) (w : Nat → Int32) : MS := mset (mrow C 14 w) 10 5 (nI L)
section RW0
variable {C : MS} {L L' : Nat} {w w' : Nat → Int32}
theorem rwM_5 : rwM C L w 10 5 = nI L := mset_eq _ _ _ _
theorem rwM_14 : rwM C L w 14 = w := by unfold rwM; rw [mset_ne _ (by decide), mrow_s]
theorem rwM_ne {a : Nat} (h : a ≠ 10) (h2 : a ≠ 14) : rwM C L w a = C a := by unfold rwM; rw [mset_ne _ h, mrow_n _ h2]
theorem rwM_o {j : Nat} (h : j ≠ 5) : rwM C L w 10 j = C 10 j := by unfold rwM; rw [mset_nj _ h, mrow_n _ (by decide)]
theorem rwM_add {x : Int32} : mset (mset (rwM C L w) 14 L x) 10 5 (nI L') = rwM C L' (upd w L x) := by
  funext a b
  by_cases h : a = 10
  · subst h
    by_cases h2 : b = 5
    · subst h2; rw [rwM_5, mset_eq]
    · rw [rwM_o h2, mset_nj _ h2, mset_nk _ (by decide), rwM_o h2]
  · by_cases h2 : a = 14
    · subst h2; rw [rwM_14, mset_ne _ (by decide), mset_row, rwM_14]
    · rw [rwM_ne h h2, mset_ne _ h, mset_ne _ h2, rwM_ne h h2]
theorem rwM_0 : mset C 10 5 0 = rwM C 0 (C 14) := by unfold rwM; rw [mrow_self]; rfl
end RW0
def chL (x : Int32) : Nat → Nat
  | 0 => 0
  | c + 1 => if (x >>> (nI c &&& 31)) &&& 1 = 1 then chL x c + 1 else chL x c
def chW (w : Nat → Int32) (x : Int32) : Nat → Nat → Int32
  | 0 => w
  | c + 1 => if (x >>> (nI c &&& 31)) &&& 1 = 1 then upd (chW w x c) (chL x c) (nI c) else chW w x c
theorem chL_le (x : Int32) (c : Nat) : chL x c ≤ c := by
  induction c with
  | zero => exact Nat.le_refl _
  | succ c ih => unfold chL; split <;> omega
theorem chW_ok (w : Nat → Int32) (x : Int32) (c : Nat) : ∀ j, j < chL x c → ∃ i, i < c ∧ chW w x c j = nI i := by
  induction c with
  | zero => intro j h; exact absurd h (Nat.not_lt_zero _)
  | succ c ih =>
    intro j hj
    unfold chW
    unfold chL at hj
    split at hj
    · next h =>
      rw [if_pos h]
      by_cases e : j = chL x c
      · subst e; exact ⟨c, by omega, upd_self⟩
      · rw [upd_ne e]; obtain ⟨i, a, b⟩ := ih j (by omega); exact ⟨i, by omega, b⟩
    · next h =>
      rw [if_neg h]
      obtain ⟨i, a, b⟩ := ih j hj; exact ⟨i, by omega, b⟩
theorem chW_gd {f : Nat → Int32} (hW : Wk f) (w : Nat → Int32) (x : Int32) : gdN f (chW w x (cn f)) (chL x (cn f)) := fun j hj => by
  obtain ⟨i, hi, e⟩ := chW_ok w x (cn f) j hj
  rw [e]; exact isCb_t hW ⟨hi, rfl⟩
def neC (f : Nat → Int32) (n : Nat) (x : Int32) : Nat → Int32
  | 0 => -1
  | k + 1 => if nI (raN f (n - (k + 1)) n) = x then nI (n - (k + 1)) else neC f n x k
theorem neC_out {f : Nat → Int32} {x : Int32} (hW : Wk f) (h : x < 0 ∨ ¬ x < nI (cn f)) : neC f (cn f) x (cn f) = -1 := by
  have h16 := hW.2.1
  have key : ∀ k, k ≤ cn f → neC f (cn f) x k = -1 := by
    intro k
    induction k with
    | zero => intro _; rfl
    | succ k ih =>
      intro hk
      unfold neC
      have hr := raN_lt f (cn f - (k + 1)) (cn f) (by omega)
      rw [if_neg, ih (by omega)]
      intro e
      rw [← e] at h
      rcases h with h | h
      · exact absurd ((nI_ltI (a := raN f (cn f - (k + 1)) (cn f)) (b := 0) (by omega) (by decide)).mp h) (Nat.not_lt_zero _)
      · exact h ((nI_ltI (by omega) (by omega)).mpr hr)
  exact key _ (Nat.le_refl _)
def lfC (f : Nat → Int32) : Int32 := if ln f < 4 then (if ruN f (cn f) = 0 then -6 else ruN f (cn f)) else -4
def cntC (f : Nat → Int32) (len kn : Int32) (w : Int32) : Int32 :=
  if w = 0 then f 4 else if w = 1 then f 5 else if w = 2 then f 6 else if w = 3 then stC f (cn f) else if w = 4 then nI (ofN f (cn f)) else if w = 5 then nI (cwN f (cn f)) else if w = 6 then f 7 else if w = 7 then twN f (cn f)
  else if w = 8 then f 0 else if w = 9 then f 1 else if w = 10 then f 2 else if w = 11 then f 3 else if w = 12 then len else if w = 13 then kn else -2
