/-! the pad: a text t of len signs; what is read of it -/
def chr (t : Nat → Int32) (len p : Nat) : Int32 := if p < len then t p else 0
theorem chr_pos {t : Nat → Int32} {len p : Nat} {lo hi : Int32} (h : inB (chr t len p) lo hi = true) (hlo : ¬ lo ≤ 0) : p < len := by
  rw [inB_t] at h
  rcases Nat.lt_or_ge p len with z | z
  · exact z
  · have e : chr t len p = 0 := by unfold chr; rw [if_neg (by omega)]
    rw [e] at h
    exact absurd (Int32.not_lt.mp h.1) hlo
theorem chr_out {t : Nat → Int32} {len p : Nat} (h : len ≤ p) : chr t len p = 0 := if_neg (by omega)
theorem chr_in {t : Nat → Int32} {len p : Nat} (h : p < len) : chr t len p = t p := if_pos h
def nxB (t : Nat → Int32) (len p : Nat) (lo hi : Int32) : Bool := decide (p < len) && inB (t p) lo hi
theorem nxB_t {t : Nat → Int32} {len p : Nat} {lo hi : Int32} : nxB t len p lo hi = true ↔ p < len ∧ inB (t p) lo hi = true := by simp [nxB]
theorem nxB_chr {t : Nat → Int32} {len p : Nat} {lo hi : Int32} (h : nxB t len p lo hi = true) : inB (chr t len p) lo hi = true := by
  obtain ⟨a, b⟩ := nxB_t.mp h
  rw [chr_in a]; exact b
/-- a number at p: its value, and where it ends; or none, and the place stays -/
def rN (t : Nat → Int32) (len p : Nat) : Option (Int32 × Nat) :=
  if inB (chr t len p) 48 57 = true then
    (if chr t len p - 48 ≤ 0 then some (chr t len p - 48, p + 1)
     else if nxB t len (p + 1) 48 57 = true then some (10 * (chr t len p - 48) + chr t len (p + 1) - 48, p + 1 + 1)
     else some (chr t len p - 48, p + 1))
  else none
theorem rN_place {t : Nat → Int32} {len p : Nat} {v : Int32} {p' : Nat} (h : rN t len p = some (v, p')) : p < p' ∧ p' ≤ len ∧ p' ≤ p + 2 := by
  unfold rN at h
  split at h
  · next h1 =>
    have := chr_pos h1 (by decide)
    split at h
    · cases h; omega
    · split at h
      · next h3 =>
        have := (nxB_t.mp h3).1
        cases h; omega
      · cases h; omega
  · cases h
/-- what of the table reading changes -/
def Pk (M M' : MS) : Prop := ∀ k, k ≠ 8 → k ≠ 9 → k ≠ 11 → k ≠ 12 → k ≠ 13 → k ≠ 14 → k ≠ 15 → k ≠ 16 → M' k = M k
/-- the signs of a put -/
def shK (x : Int64) (k : Nat) : Int64 := (x.toUInt64 >>> ((nI (8 * k)).toInt64.toUInt64 &&& Int64.toUInt64 63)).toInt64
def chK (x : Int64) (k : Nat) : Int32 := (shK x k &&& 255).toInt32
def enK (x : Int64) (k : Nat) : Bool := !decide (k ≤ 0) && decide (lg_cmp (shK x k) 0 = 0)
def badS (x : Int64) : Nat → Bool
  | 0 => false
  | k + 1 => badS x k || (!enK x k && !inB (chK x k) 33 126)
def manS (x : Int64) : Nat → Nat
  | 0 => 0
  | k + 1 => manS x k + (if enK x k = true then 0 else 1)
theorem manS_le (x : Int64) (k : Nat) : manS x k ≤ k := by
  induction k with
  | zero => exact Nat.le_refl _
  | succ k ih => unfold manS; split <;> omega
/-- the pad when k of the signs are put -/
def putP (b : Nat → Int32) (x : Int64) (L n : Nat) (k : Nat) : Nat → Int32 := fun j => if L + n - k ≤ j ∧ j < L + n then chK x (L + n - 1 - j) else b j
theorem putP_0 (b : Nat → Int32) (x : Int64) (L n : Nat) : putP b x L n 0 = b := by
  funext j; simp only [putP]; rw [if_neg (by omega)]
theorem putP_s (b : Nat → Int32) (x : Int64) (L n k : Nat) (h : k < n) : upd (putP b x L n k) (L + n - 1 - k) (chK x k) = putP b x L n (k + 1) := by
  funext j; simp only [upd, putP]
  by_cases z : j = L + n - 1 - k
  · subst z; rw [if_pos rfl, if_pos (by omega), show L + n - 1 - (L + n - 1 - k) = k by omega]
  · rw [if_neg z]
    by_cases h2 : L + n - k ≤ j ∧ j < L + n
    · rw [if_pos h2, if_pos (by omega)]
    · rw [if_neg h2, if_neg (by omega)]
def putE (x : Int64) (L : Nat) : Int32 := if badS x 8 = true then -2 else if L + manS x 8 ≤ 80 then 0 else -4
section MBL
variable {p : Program} {l : Launch} {e : Env} {R : Room} {s : State} {m : MethodId} {args : Array Value} {below : List Frame} {meth : Method} {c : Code} {H : Heap} {locs : List Loc} {cells slots : Nat} {Q : State → Prop}
variable {pc : Nat} {ls : Array Slot} {rest : List Value}
theorem lv_rel {x y : Int64} (h : x = y) (k : W p l e R s m args below meth c H locs cells slots Q (F0 m pc ls (.long y :: rest))) : W p l e R s m args below meth c H locs cells slots Q (F0 m pc ls (.long x :: rest)) := h ▸ k
end MBL
