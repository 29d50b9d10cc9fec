/-! what the class's clocks do -/
theorem jabs_eq (x : Int32) : (if 0 ≤ x then x else 0 - x) = jabs x := by
  unfold jabs; rw [Int32.zero_sub]
def jmax (x y : Int32) : Int32 := if x < y then y else x
theorem mrow_mrow (M : MS) (k : Nat) (f h : Nat → Int32) : mrow (mrow M k f) k h = mrow M k h := by
  funext a; simp only [mrow]; split <;> rfl
def dayC (f : Nat → Int32) (c : Nat) (wd : Int32) : Nat → Int32 :=
  if f (12 + 8 * c + 6) = 0 then
    (if f (12 + 8 * c + 5) + 1 ≤ wd then upd f (12 + 8 * c + 5) (f (12 + 8 * c + 5) + 1)
     else upd (upd (upd f (12 + 8 * c + 5) (f (12 + 8 * c + 5) + 1)) (12 + 8 * c + 6) 0) (12 + 8 * c + 4) 43200)
  else
    (if f (12 + 8 * c + 5) + 1 ≤ wd then upd (upd f (12 + 8 * c + 4) (f (12 + 8 * c + 4) + rt f c)) (12 + 8 * c + 5) (f (12 + 8 * c + 5) + 1)
     else upd (upd (upd (upd f (12 + 8 * c + 4) (f (12 + 8 * c + 4) + rt f c)) (12 + 8 * c + 5) (f (12 + 8 * c + 5) + 1)) (12 + 8 * c + 6) 0) (12 + 8 * c + 4) 43200)
def begC (f : Nat → Int32) (c : Nat) (h u d : Int32) : Nat → Int32 := upd (upd (upd (upd (upd (upd (upd (upd f (12 + 8 * c + 0) h) (12 + 8 * c + 1) u) (12 + 8 * c + 2) d) (12 + 8 * c + 3) 0) (12 + 8 * c + 4) 0) (12 + 8 * c + 5) 0) (12 + 8 * c + 7) 0) (12 + 8 * c + 6) 1
def turC (f : Nat → Int32) (c : Nat) : Nat → Int32 :=
  if rt f c ≤ 0 then (if 0 ≤ rt f c then f else (if 20 ≤ f (12 + 8 * c + 3) then f else upd f (12 + 8 * c + 3) (f (12 + 8 * c + 3) + 1)))
  else (if f (12 + 8 * c + 3) ≤ -20 then (if 0 ≤ rt f c then f else (if 20 ≤ f (12 + 8 * c + 3) then f else upd f (12 + 8 * c + 3) (f (12 + 8 * c + 3) + 1))) else upd f (12 + 8 * c + 3) (f (12 + 8 * c + 3) - 1))
def setC (h : Nat → Int32) (c : Nat) : Nat → Int32 := upd (upd (upd (upd h (12 + 8 * c + 6) 1) (12 + 8 * c + 4) 0) (12 + 8 * c + 5) 0) (12 + 8 * c + 7) (h (12 + 8 * c + 7) + 1)
def winC (f : Nat → Int32) (c : Nat) (t : Int32) : Nat → Int32 :=
  if f (12 + 8 * c + 6) = 0 then setC f c else (if offB f c (t / 2) = true then setC (turC f c) c else setC f c)
def cpyC (f h : Nat → Int32) (c d : Nat) : Nat → Int32 := upd (upd (upd (upd (upd (upd (upd (upd f (12 + 8 * c + 0) (h (12 + 8 * d + 0))) (12 + 8 * c + 1) (h (12 + 8 * d + 1))) (12 + 8 * c + 2) (h (12 + 8 * d + 2))) (12 + 8 * c + 3) (h (12 + 8 * d + 3))) (12 + 8 * c + 4) (h (12 + 8 * d + 4))) (12 + 8 * c + 5) (h (12 + 8 * d + 5))) (12 + 8 * c + 7) (h (12 + 8 * d + 7))) (12 + 8 * c + 6) (h (12 + 8 * d + 6))
theorem isC_iff2 {f : Nat → Int32} (w : Wk f) (x : Int32) : (¬ x < 0 ∧ ¬ nI (cn f) ≤ x) ↔ ∃ i, isC f x i := by
  constructor
  · rintro ⟨h1, h2⟩
    obtain ⟨j, hj, rfl⟩ := nI_of h1
    exact ⟨j, Nat.lt_of_not_le fun z => h2 ((nI_leI (by have := w.2.1; omega) hj).mpr z), rfl⟩
  · rintro ⟨i, hi, rfl⟩
    have := w.2.1
    exact ⟨nI_pos (by omega), fun z => by have := (nI_leI (by omega) (by omega)).mp z; omega⟩
theorem lof_iff2 {f : Nat → Int32} (w : Wk f) (x : Int32) : (¬ x < 0 ∧ ¬ nI (ln f) ≤ x) ↔ ∃ i, i < ln f ∧ x = nI i := by
  constructor
  · rintro ⟨h1, h2⟩
    obtain ⟨j, hj, rfl⟩ := nI_of h1
    exact ⟨j, Nat.lt_of_not_le fun z => h2 ((nI_leI (by have := w.2.2.2; omega) hj).mpr z), rfl⟩
  · rintro ⟨i, hi, rfl⟩
    have := w.2.2.2
    exact ⟨nI_pos (by omega), fun z => by have := (nI_leI (by omega) (by omega)).mp z; omega⟩
/-- what the class's searches rest on -/
def Lad (f : Nat → Int32) : Prop := (∀ j, j < ln f → ¬ 31 ≤ f (8 + j)) ∧ ∀ c, c < cn f → 0 ≤ f (12 + 8 * c + 1)
def Tm (f : Nat → Int32) : Prop := (f 1 = nI (ix (f 1)) ∧ ix (f 1) ≤ 30) ∧ ∀ c, c < cn f → f (12 + 8 * c + 5) = nI (ix (f (12 + 8 * c + 5))) ∧ ix (f (12 + 8 * c + 5)) ≤ 20000
def duL (f : Nat → Int32) (c : Nat) (t : Int32) : Nat → Nat → Nat
  | 0, d => d
  | u + 1, d => if jabs (f (12 + 8 * c + 4) + nI d * rt f c) ≤ t then duL f c t u (d + 1) else d
def stD (f : Nat → Int32) (c : Nat) : Nat := max 1 (ix (f 1) + 1 - ix (f (12 + 8 * c + 5)))
def duC (f : Nat → Int32) (c : Nat) (t : Int32) (D : Nat) : Nat := if offB f c t = true then 0 else duL f c t (D - 1) 1
theorem jmax_nI {a b : Nat} (ha : a < 2 ^ 30) (hb : b < 2 ^ 30) : jmax 1 (nI a - nI b) = nI (max 1 (a - b)) := by
  unfold jmax
  by_cases h : b ≤ a
  · rw [pk_sub h]
    by_cases h1 : 1 < a - b
    · have h9 : (1 : Int32) < nI (a - b) := (nI_ltI (a := 1) (b := a - b) (by omega) (by omega)).mpr h1
      rw [if_pos h9, Nat.max_eq_right (by omega)]
    · have h9 : ¬ (1 : Int32) < nI (a - b) := fun z => h1 ((nI_ltI (a := 1) (b := a - b) (by omega) (by omega)).mp z)
      rw [if_neg h9, Nat.max_eq_left (by omega)]; rfl
  · have hs := pk_sneg (a := a) (b := b) hb (by omega)
    rw [if_neg (fun z => by
      rw [Int32.lt_iff_toInt_lt] at z hs
      rw [show (0 : Int32).toInt = 0 from by decide] at hs
      rw [show (1 : Int32).toInt = 1 from by decide] at z
      omega), Nat.max_eq_left (by omega)]; rfl
def goN (f : Nat → Int32) : Nat → Nat
  | 0 => 0
  | k + 1 => if f (12 + 8 * k + 6) = 0 then goN f k else goN f k + 1
theorem goN_le (f : Nat → Int32) (k : Nat) : goN f k ≤ k := by
  induction k with
  | zero => exact Nat.le_refl _
  | succ k ih => unfold goN; split <;> omega
def stC (f : Nat → Int32) : Nat → Int32
  | 0 => 0
  | k + 1 => if f (12 + 8 * k + 6) = 0 then stC f k ||| (1 : Int32) <<< (nI k &&& 31) else stC f k
def ofN (f : Nat → Int32) : Nat → Nat
  | 0 => 0
  | k + 1 => if offB f k (f 0) = true then ofN f k + 1 else ofN f k
theorem ofN_le (f : Nat → Int32) (k : Nat) : ofN f k ≤ k := by
  induction k with
  | zero => exact Nat.le_refl _
  | succ k ih => unfold ofN; split <;> omega
def cwN (f : Nat → Int32) : Nat → Nat
  | 0 => 0
  | k + 1 => if canW f k = true then cwN f k else cwN f k + 1
theorem cwN_le (f : Nat → Int32) (k : Nat) : cwN f k ≤ k := by
  induction k with
  | zero => exact Nat.le_refl _
  | succ k ih => unfold cwN; split <;> omega
def twN (f : Nat → Int32) : Nat → Int32
  | 0 => 0
  | k + 1 => twN f k + f (12 + 8 * k + 7)
def ruN (f : Nat → Int32) : Nat → Int32
  | 0 => 0
  | k + 1 => if canW f k = true then ruN f k else jmax (ruN f k) (f (12 + 8 * k + 1))
def duS (f : Nat → Int32) (c : Nat) : Nat := duC f c (f 0) (stD f c)
def raN (f : Nat → Int32) (c : Nat) : Nat → Nat
  | 0 => 0
  | k + 1 => if duS f k < duS f c then raN f c k + 1 else if duS f k = duS f c then (if c ≤ k then raN f c k else raN f c k + 1) else raN f c k
theorem raN_le (f : Nat → Int32) (c k : Nat) : raN f c k ≤ k := by
  induction k with
  | zero => exact Nat.le_refl _
  | succ k ih =>
    unfold raN
    split
    · omega
    · split
      · split <;> omega
      · omega
theorem duL_le (f : Nat → Int32) (c : Nat) (t : Int32) : ∀ u d, duL f c t u d ≤ d + u := by
  intro u
  induction u with
  | zero => intro d; exact Nat.le_refl _
  | succ u ih =>
    intro d; unfold duL; split
    · have := ih (d + 1); omega
    · omega
theorem duS_lt {f : Nat → Int32} (h : Tm f) (c : Nat) : duS f c < 2 ^ 31 := by
  have h1 := h.1.2
  unfold duS duC stD
  split
  · decide
  · have := duL_le f c (f 0) (max 1 (ix (f 1) + 1 - ix (f (12 + 8 * c + 5))) - 1) 1
    have : max 1 (ix (f 1) + 1 - ix (f (12 + 8 * c + 5))) ≤ 31 := by omega
    omega
def brC (f : Nat → Int32) (o : Option Nat) : Int32 := match o with | none => 31 | some p => f (8 + p)
theorem ladP_0 (f : Nat → Int32) (n : Nat) : ladP f 0 n = none := by
  induction n with
  | zero => rfl
  | succ n ih => unfold ladP; rw [ih]; simp
/-! what lasts() tells of the first n clocks, kept in a row -/
def lasW (f : Nat → Int32) (w : Nat → Int32) : Nat → Nat → Int32
  | 0 => w
  | n + 1 => upd (lasW f w n) n (nI (duS f n))
theorem lasW_get (f : Nat → Int32) (w : Nat → Int32) {n i : Nat} (h : i < n) : lasW f w n i = nI (duS f i) := by
  induction n with
  | zero => exact absurd h (Nat.not_lt_zero _)
  | succ n ih =>
    unfold lasW
    by_cases e : i = n
    · subst e; exact upd_self
    · rw [upd_ne e]; exact ih (by omega)
theorem lasW_0 (C : MS) (f : Nat → Int32) : mrow C 15 (lasW f (C 15) 0) = C := mrow_self C 15
theorem lasW_set (C : MS) (f w : Nat → Int32) (n : Nat) : mset (mrow C 15 (lasW f w n)) 15 n (nI (duS f n)) = mrow C 15 (lasW f w (n + 1)) := mset_mrow_s C 15 n _ _
theorem raN_lt (f : Nat → Int32) (c : Nat) : ∀ k, c < k → raN f c k < k := by
  intro k
  induction k with
  | zero => intro h; exact absurd h (Nat.not_lt_zero _)
  | succ k ih =>
    intro h
    have hle := raN_le f c k
    unfold raN
    by_cases e : c = k
    · subst e
      rw [if_neg (Nat.lt_irrefl _), if_pos rfl, if_pos (Nat.le_refl _)]; omega
    · have := ih (by omega)
      split
      · omega
      · split
        · split <;> omega
        · omega
