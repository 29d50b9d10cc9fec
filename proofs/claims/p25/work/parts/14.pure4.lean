/-! what the public methods answer, and the table behind them -/
def isCb (f : Nat → Int32) (x : Int32) : Bool := inB x 0 (f 5 - 1)
theorem isCb_t {f : Nat → Int32} (w : Wk f) {x : Int32} {i : Nat} (h : isC f x i) : isCb f x = true := (isC_iff w x).mpr ⟨i, h⟩
theorem isCb_f {f : Nat → Int32} (w : Wk f) {x : Int32} (h : ¬ ∃ i, isC f x i) : isCb f x = false := by
  cases e : isCb f x with
  | false => rfl
  | true => exact absurd ((isC_iff w x).mp e) h
/-- a change: its fault (0: none), its answer, the state then; kn states are known before -/
def opP (flt v : Int32) (f' : Nat → Int32) (M : MS) (kn : Nat) (r : Int32) (M' : MS) : Prop := (flt = 0 ∧ r = v ∧ M' = ms0 (knM M kn) f') ∨ (flt ≠ 0 ∧ r = flt ∧ M' = M)
def setE (x v : Int32) : Int32 := if inB x 0 3 = true then (if inB v 1 (if x = 0 then 999 else 30) = true then 0 else -2) else -2
def ix (x : Int32) : Nat := x.toNatClampNeg
theorem ix_nI {i : Nat} (h : i < 2 ^ 31) : ix (nI i) = i := nI_clamp h
theorem inB_nI {x : Int32} {n : Nat} (hn : n < 2 ^ 31) (h : inB x 0 (nI n) = true) : ∃ i, i ≤ n ∧ x = nI i := by
  rw [inB_t] at h
  obtain ⟨j, hj, rfl⟩ := nI_of h.1
  exact ⟨j, Nat.le_of_not_lt fun z => h.2 ((nI_ltI hn hj).mpr z), rfl⟩
def scE (f : Nat → Int32) (x t : Int32) : Int32 := if isCb f x = true then (if inB t (-20) 20 = true then (if inB (f (12 + 8 * ix x + 3) + t) (-20) 20 = true then 0 else -5) else -2) else -1
def ofR (f : Nat → Int32) (x w : Int32) : Int32 := if isCb f x = true then
    (if w = 0 then f (12 + 8 * ix x + 0) else if w = 1 then f (12 + 8 * ix x + 1) else if w = 2 then f (12 + 8 * ix x + 2) + 100 else if w = 3 then f (12 + 8 * ix x + 3) + 20
     else if w = 4 then f (12 + 8 * ix x + 4) + 1000000000 else if w = 5 then f (12 + 8 * ix x + 5) else if w = 6 then f (12 + 8 * ix x + 6) else if w = 7 then (if offB f (ix x) (f 0) = true then 0 else 1)
     else if w = 8 then o2i (ladF f (ix x)) else if w = 9 then (if canW f (ix x) = true then 1 else 0) else if w = 10 then f (12 + 8 * ix x + 7) else -2)
  else -1
def lofR (f : Nat → Int32) (x : Int32) : Int32 := if inB x 0 (f 6 - 1) = true then f (8 + ix x) else -1
def cntR (f : Nat → Int32) (len kn : Int32) (w : Int32) : Int32 :=
  if w = 0 then f 4 else if w = 1 then f 5 else if w = 2 then f 6 else if w = 3 then stillN f (cn f) else if w = 4 then sumN f 4 (cn f) else if w = 5 then sumN f 5 (cn f) else if w = 6 then f 7 else if w = 7 then sumN f 7 (cn f)
  else if w = 8 then f 0 else if w = 9 then f 1 else if w = 10 then f 2 else if w = 11 then f 3 else if w = 12 then len else if w = 13 then kn else -2
theorem loN_ok (n : Nat) (x : Int32) (b : Bool) (w : Nat → Int32) : ∀ k, k ≤ n → ∀ j, j < loL n x b w k → ∃ i, i < n ∧ loN n x b w k j = nI i := by
  intro k
  induction k with
  | zero => intro _ j h; exact absurd h (Nat.not_lt_zero _)
  | succ k ih =>
    intro hk j hj
    by_cases h : (x >>> (nI (loC n b k) &&& 31)) &&& 1 = 1
    · obtain ⟨h1, h2⟩ := loW_t (w := w) h
      rw [h1] at hj; rw [h2]
      by_cases e : j = loL n x b w k
      · subst e; refine ⟨loC n b k, ?_, by simp [upd]⟩
        unfold loC; split <;> omega
      · rw [upd_ne e]; exact ih (by omega) j (by omega)
    · obtain ⟨h1, h2⟩ := loW_f (w := w) h
      rw [h1] at hj; rw [h2]; exact ih (by omega) j hj
theorem loM_8 (M : MS) (n : Nat) (x : Int32) (b : Bool) (k : Nat) : loM M n x b k 8 = loN n x b (M 8) k := by
  unfold loM; rw [mset_ne _ (by decide), mrow_s]
theorem loM_9 (M : MS) (n : Nat) (x : Int32) (b : Bool) (k : Nat) : loM M n x b k 9 0 = nI (loL n x b (M 8) k) := by
  unfold loM; exact mset_eq _ _ _ _
/-- a minute's way round: fewer, more, or as many -/
def wayR (a b : Int32) : Int32 := if b ≤ a then (if a ≤ b then 2 else 1) else 0
theorem lastN_lo (f : Nat → Int32) (c d : Nat) {j : Nat} (h : j < 12 + 8 * c ∨ 12 + 8 * c + 8 ≤ j) : lastN f c d j = f j := by
  induction d with
  | zero => rfl
  | succ d ih =>
    show dayM _ c j = _
    have a : ∀ w, w < 8 → j ≠ 12 + 8 * c + w := fun w hw => by omega
    unfold dayM
    split
    · split <;> simp [upd, a, ih]
    · simp [upd, a, ih]
/-- the first c of n whose count ahead is the rank -/
def needN (v : Nat → Int32) (n : Nat) (x : Int32) : Nat → Int32
  | 0 => -1
  | k + 1 => if aheadN v (n - (k + 1)) n = x then nI (n - (k + 1)) else needN v n x k
theorem hangR_0 {f : Nat → Int32} {h u d : Int32} (z : 0 ≤ hangR f h u d) : hangR f h u d = 0 ∧ inB h 0 99 = true ∧ inB u 0 30 = true ∧ inB d (-99) 99 = true ∧ cn f ≠ 16 := by
  unfold hangR at z ⊢
  split at z
  · next h1 =>
    split at z
    · next h2 =>
      split at z
      · next h3 =>
        split at z
        · exact absurd z (by decide)
        · next h4 => simp [h1, h2, h3, h4]
      · exact absurd z (by decide)
    · exact absurd z (by decide)
  · exact absurd z (by decide)
theorem lddR_0 {f : Nat → Int32} {u : Int32} (z : 0 ≤ lddR f u) : lddR f u = 0 ∧ inB u 1 30 = true ∧ ln f ≠ 4 := by
  unfold lddR at z ⊢
  split at z
  · next h1 =>
    split at z
    · exact absurd z (by decide)
    · next h4 => simp [h1, h4]
  · exact absurd z (by decide)
theorem passR_0 {f : Nat → Int32} {d : Int32} (z : 0 ≤ passR f d) : passR f d = 0 ∧ inB d 1 99 = true ∧ f 4 + d ≤ 9999 := by
  unfold passR at z ⊢
  split at z
  · next h1 =>
    split at z
    · next h4 => exact ⟨by simp only [if_pos h1, if_pos h4], h1, h4⟩
    · exact absurd z (by decide)
  · exact absurd z (by decide)
theorem inB1_nI {x : Int32} {n : Nat} (hn : n < 2 ^ 31) (h : inB x 1 (nI n) = true) : ∃ i, 1 ≤ i ∧ i ≤ n ∧ x = nI i := by
  rw [inB_t] at h
  obtain ⟨j, hj, rfl⟩ := nI_of (x := x) (fun z => h.1 (by
    rw [Int32.lt_iff_toInt_lt] at z ⊢
    rw [show (0 : Int32).toInt = 0 from by decide] at z
    rw [show (1 : Int32).toInt = 1 from by decide]
    omega))
  refine ⟨j, Nat.le_of_not_lt fun z => h.1 ((nI_ltI hj (show 1 < 2 ^ 31 by decide)).mpr z), Nat.le_of_not_lt fun z => h.2 ((nI_ltI hn hj).mpr z), rfl⟩
theorem lof_iff {f : Nat → Int32} (w : Wk f) {x : Int32} (h : inB x 0 (f 6 - 1) = true) : ∃ i, i < ln f ∧ x = nI i := by
  obtain ⟨-, -, h6, h4⟩ := w
  have e1 : (f 6 - 1).toInt = (ln f : Int) - 1 := by
    rw [h6]
    exact pk_sub_toInt (a := ln f) (b := 1) (by omega) (by omega)
  rw [inB_t] at h
  obtain ⟨j, hj, rfl⟩ := nI_of h.1
  refine ⟨j, ?_, rfl⟩
  have h3 : ¬ (f 6 - 1).toInt < (nI j).toInt := fun z => h.2 (Int32.lt_iff_toInt_lt.mpr z)
  rw [e1, nI_toInt hj] at h3
  omega
def pasF (f : Nat → Int32) (d : Nat) : Nat → Int32 := upd (passD f d) 4 (f 4 + nI d)
def stV (f : Nat → Int32) : Int32 := manyN (stillN f (cn f)) 16
def chE (a : Int32) : Int32 := if inB a 0 1 = true then 0 else -2
def goFF (f w : Nat → Int32) (L : Nat) : Nat → Int32 := upd (goF f w L) 7 (f 7 + miV f w L)
theorem loR_0 {x : Int32} {L : Nat} (z : 0 ≤ loR x L) : loR x L = 0 := by
  unfold loR at z ⊢
  split at z
  · next h1 =>
    split at z
    · exact absurd z (by decide)
    · next h2 => simp only [if_pos h1, if_neg h2]
  · exact absurd z (by decide)
theorem cp1_last (f : Nat → Int32) (c d : Nat) : cp1 (lastN f c d) (fun j => f (12 + 8 * c + j)) (12 + 8 * c) 8 = f := by
  funext j; simp only [cp1]
  by_cases h : 12 + 8 * c ≤ j ∧ j < 12 + 8 * c + 8
  · rw [if_pos h, show 12 + 8 * c + (j - (12 + 8 * c)) = j by omega]
  · rw [if_neg h]; exact lastN_lo f c d (by omega)
theorem sw_out11 {x : Int32} (h0 : ¬ x = 0) (h1 : ¬ x = 1) (h2 : ¬ x = 2) (h3 : ¬ x = 3) (h4 : ¬ x = 4) (h5 : ¬ x = 5) (h6 : ¬ x = 6) (h7 : ¬ x = 7) (h8 : ¬ x = 8) (h9 : ¬ x = 9) (h10 : ¬ x = 10) : x.toInt < 0 ∨ 10 < x.toInt := by
  by_cases z : x < 0
  · exact Or.inl (by have := Int32.lt_iff_toInt_lt.mp z; rw [show (0 : Int32).toInt = 0 from by decide] at this; exact this)
  · obtain ⟨j, hj, rfl⟩ := nI_of z
    refine Or.inr ?_
    rw [nI_toInt hj]
    have e0 : j ≠ 0 := fun z => h0 (by rw [z]; rfl)
    have e1 : j ≠ 1 := fun z => h1 (by rw [z]; rfl)
    have e2 : j ≠ 2 := fun z => h2 (by rw [z]; rfl)
    have e3 : j ≠ 3 := fun z => h3 (by rw [z]; rfl)
    have e4 : j ≠ 4 := fun z => h4 (by rw [z]; rfl)
    have e5 : j ≠ 5 := fun z => h5 (by rw [z]; rfl)
    have e6 : j ≠ 6 := fun z => h6 (by rw [z]; rfl)
    have e7 : j ≠ 7 := fun z => h7 (by rw [z]; rfl)
    have e8 : j ≠ 8 := fun z => h8 (by rw [z]; rfl)
    have e9 : j ≠ 9 := fun z => h9 (by rw [z]; rfl)
    have e10 : j ≠ 10 := fun z => h10 (by rw [z]; rfl)
    omega
theorem sw_out14 {x : Int32} (h0 : ¬ x = 0) (h1 : ¬ x = 1) (h2 : ¬ x = 2) (h3 : ¬ x = 3) (h4 : ¬ x = 4) (h5 : ¬ x = 5) (h6 : ¬ x = 6) (h7 : ¬ x = 7) (h8 : ¬ x = 8) (h9 : ¬ x = 9) (h10 : ¬ x = 10) (h11 : ¬ x = 11) (h12 : ¬ x = 12) (h13 : ¬ x = 13) : x.toInt < 0 ∨ 13 < x.toInt := by
  by_cases z : x < 0
  · exact Or.inl (by have := Int32.lt_iff_toInt_lt.mp z; rw [show (0 : Int32).toInt = 0 from by decide] at this; exact this)
  · obtain ⟨j, hj, rfl⟩ := nI_of z
    refine Or.inr ?_
    rw [nI_toInt hj]
    have e0 : j ≠ 0 := fun z => h0 (by rw [z]; rfl)
    have e1 : j ≠ 1 := fun z => h1 (by rw [z]; rfl)
    have e2 : j ≠ 2 := fun z => h2 (by rw [z]; rfl)
    have e3 : j ≠ 3 := fun z => h3 (by rw [z]; rfl)
    have e4 : j ≠ 4 := fun z => h4 (by rw [z]; rfl)
    have e5 : j ≠ 5 := fun z => h5 (by rw [z]; rfl)
    have e6 : j ≠ 6 := fun z => h6 (by rw [z]; rfl)
    have e7 : j ≠ 7 := fun z => h7 (by rw [z]; rfl)
    have e8 : j ≠ 8 := fun z => h8 (by rw [z]; rfl)
    have e9 : j ≠ 9 := fun z => h9 (by rw [z]; rfl)
    have e10 : j ≠ 10 := fun z => h10 (by rw [z]; rfl)
    have e11 : j ≠ 11 := fun z => h11 (by rw [z]; rfl)
    have e12 : j ≠ 12 := fun z => h12 (by rw [z]; rfl)
    have e13 : j ≠ 13 := fun z => h13 (by rw [z]; rfl)
    omega
