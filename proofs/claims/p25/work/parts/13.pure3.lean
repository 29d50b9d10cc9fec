/-! rows of places that are copied; the row of a beat -/
def loL (n : Nat) (x : Int32) (b : Bool) (w : Nat → Int32) (k : Nat) : Nat := (loW n x b w k).1
def loN (n : Nat) (x : Int32) (b : Bool) (w : Nat → Int32) (k : Nat) : Nat → Int32 := (loW n x b w k).2
def loC (n : Nat) (b : Bool) (k : Nat) : Nat := if b then n - 1 - k else k
theorem loL_le (n : Nat) (x : Int32) (b : Bool) (w : Nat → Int32) (k : Nat) : loL n x b w k ≤ k := loW_le n x b w k
theorem loW_t {n : Nat} {x : Int32} {b : Bool} {w : Nat → Int32} {k : Nat} (h : (x >>> (nI (loC n b k) &&& 31)) &&& 1 = 1) : loL n x b w (k + 1) = loL n x b w k + 1 ∧ loN n x b w (k + 1) = upd (loN n x b w k) (loL n x b w k) (nI (loC n b k)) := by
  unfold loL loN; unfold loC at h ⊢; simp only [loW, h, if_true]; exact ⟨trivial, trivial⟩
theorem loW_f {n : Nat} {x : Int32} {b : Bool} {w : Nat → Int32} {k : Nat} (h : ¬ (x >>> (nI (loC n b k) &&& 31)) &&& 1 = 1) : loL n x b w (k + 1) = loL n x b w k ∧ loN n x b w (k + 1) = loN n x b w k := by
  unfold loL loN; unfold loC at h; simp only [loW, h, if_false]; exact ⟨trivial, trivial⟩
def loM (M : MS) (n : Nat) (x : Int32) (b : Bool) (k : Nat) : MS := mset (mrow M 8 (loN n x b (M 8) k)) 9 0 (nI (loL n x b (M 8) k))
theorem mrow_self (M : MS) (k : Nat) : mrow M k (M k) = M := by
  funext a; simp only [mrow]; split
  · next h => rw [h]
  · rfl
theorem loM_0 (M : MS) (n : Nat) (x : Int32) (b : Bool) : mset M 9 0 0 = loM M n x b 0 := by
  show mset M 9 0 0 = mset (mrow M 8 (M 8)) 9 0 (nI 0)
  rw [mrow_self]; rfl
theorem loM_t {M : MS} {n : Nat} {x : Int32} {b : Bool} {k : Nat} (h : (x >>> (nI (loC n b k) &&& 31)) &&& 1 = 1) : mset (mset (loM M n x b k) 8 (loL n x b (M 8) k) (nI (loC n b k))) 9 0 (nI (loL n x b (M 8) k + 1)) = loM M n x b (k + 1) := by
  obtain ⟨h1, h2⟩ := loW_t (w := M 8) h
  unfold loM; rw [h1, h2]
  funext i j
  simp only [mset, mrow, upd]
  by_cases a : i = 9 ∧ j = 0
  · simp [a]
  · rw [if_neg a, if_neg a, if_neg a]
    by_cases e : i = 8
    · subst e; simp [upd]
    · simp [e]
theorem loM_f {M : MS} {n : Nat} {x : Int32} {b : Bool} {k : Nat} (h : ¬ (x >>> (nI (loC n b k) &&& 31)) &&& 1 = 1) : loM M n x b k = loM M n x b (k + 1) := by
  obtain ⟨h1, h2⟩ := loW_f (w := M 8) h
  unfold loM; rw [h1, h2]
theorem loM_k (M : MS) (n : Nat) (x : Int32) (b : Bool) (k : Nat) {a : Nat} (h8 : a ≠ 8) (h9 : a ≠ 9) : loM M n x b k a = M a := by
  unfold loM; rw [mset_ne _ h9, mrow_n _ h8]
def loR (x : Int32) (L : Nat) : Int32 := if 0 ≤ x then (if L = 0 then -5 else 0) else -2
def sh1 (b : Nat → Int32) (k : Nat) : Nat → Int32 := fun j => if j < k then b (140 + j) else b j
theorem sh1_0 (b : Nat → Int32) : sh1 b 0 = b := by funext j; simp [sh1]
theorem sh1_s (b : Nat → Int32) (k : Nat) : upd (sh1 b k) k (b (140 + k)) = sh1 b (k + 1) := by
  funext j; simp only [upd, sh1]
  by_cases h : j = k
  · subst h; simp
  · by_cases h2 : j < k
    · simp [h, h2, Nat.lt_succ_of_lt h2]
    · have : ¬ j < k + 1 := by omega
      simp [h, h2, this]
/-- the places a .. a+k-1 out of f -/
def cp1 (b f : Nat → Int32) (a k : Nat) : Nat → Int32 := fun j => if a ≤ j ∧ j < a + k then f (j - a) else b j
theorem cp1_0 (b f : Nat → Int32) (a : Nat) : cp1 b f a 0 = b := by
  funext j; simp only [cp1]; rw [if_neg (by omega)]
theorem cp1_s (b f : Nat → Int32) (a k : Nat) : upd (cp1 b f a k) (a + k) (f k) = cp1 b f a (k + 1) := by
  funext j; simp only [upd, cp1]
  by_cases h : j = a + k
  · subst h; rw [if_pos rfl, if_pos (by omega), show a + k - a = k by omega]
  · rw [if_neg h]
    by_cases h2 : a ≤ j ∧ j < a + k
    · rw [if_pos h2, if_pos (by omega)]
    · rw [if_neg h2, if_neg (by omega)]
/-- the first k places out of f's places from a on -/
def cp2 (b f : Nat → Int32) (a k : Nat) : Nat → Int32 := fun j => if j < k then f (a + j) else b j
theorem cp2_0 (b f : Nat → Int32) (a : Nat) : cp2 b f a 0 = b := by funext j; simp [cp2]
theorem cp2_s (b f : Nat → Int32) (a k : Nat) : upd (cp2 b f a k) k (f (a + k)) = cp2 b f a (k + 1) := by
  funext j; simp only [upd, cp2]
  by_cases h : j = k
  · subst h; rw [if_pos rfl, if_pos (by omega)]
  · rw [if_neg h]
    by_cases h2 : j < k
    · rw [if_pos h2, if_pos (by omega)]
    · rw [if_neg h2, if_neg (by omega)]
def knB (b f : Nat → Int32) (kn : Nat) : Nat → Int32 := if kn = 6 then cp1 (sh1 b 700) f 700 140 else cp1 b f (140 * kn) 140
def knN (kn : Nat) : Nat := if kn = 6 then 6 else kn + 1
def knM (M : MS) (kn : Nat) : MS := mset (mrow M 2 (knB (M 2) (M 0) kn)) 3 0 (nI (knN kn))
theorem knM_k (M : MS) (kn : Nat) {a : Nat} (h2 : a ≠ 2) (h3 : a ≠ 3) : knM M kn a = M a := by
  unfold knM; rw [mset_ne _ h3, mrow_n _ h2]
theorem mset_mset (M : MS) (k j : Nat) (x y : Int32) : mset (mset M k j x) k j y = mset M k j y := by
  funext a b; simp only [mset]; split <;> rfl
theorem mset_comm (M : MS) {k a : Nat} (h : a ≠ k) (j b : Nat) (x y : Int32) : mset (mset M k j x) a b y = mset (mset M a b y) k j x := by
  funext u v; simp only [mset]
  by_cases h1 : u = a ∧ v = b
  · have : ¬ (u = k ∧ v = j) := fun z => h (h1.1.symm.trans z.1)
    simp [h1, this]; intro z; exact absurd z h
  · by_cases h2 : u = k ∧ v = j
    · rw [if_neg h1, if_pos h2, if_pos h2]
    · rw [if_neg h1, if_neg h2, if_neg h2, if_neg h1]
theorem mset_mrow_s (M : MS) (k j : Nat) (f : Nat → Int32) (x : Int32) : mset (mrow M k f) k j x = mrow M k (upd f j x) := by
  funext a b; by_cases h : a = k
  · subst h; simp [mset, mrow, upd]
  · simp [mset, mrow, h]
/-- a clock is hung as number n -/
def newC (f : Nat → Int32) (n : Nat) (h r d : Int32) : Nat → Int32 := upd (upd (upd (upd (upd (fun j => if 12 + 8 * n ≤ j ∧ j < 12 + 8 * n + 8 then 0 else f j) (12 + 8 * n + 0) h) (12 + 8 * n + 1) r) (12 + 8 * n + 2) d) (12 + 8 * n + 6) 1) 5 (nI (n + 1))
def zr1 (f : Nat → Int32) (n k : Nat) : Nat → Int32 := fun j => if 12 + 8 * n ≤ j ∧ j < 12 + 8 * n + k then 0 else f j
theorem zr1_0 (f : Nat → Int32) (n : Nat) : zr1 f n 0 = f := by funext j; simp only [zr1]; rw [if_neg (by omega)]
theorem zr1_s (f : Nat → Int32) (n k : Nat) : upd (zr1 f n k) (12 + 8 * n + k) 0 = zr1 f n (k + 1) := by
  funext j; simp only [upd, zr1]
  by_cases h : j = 12 + 8 * n + k
  · subst h; rw [if_pos rfl, if_pos (by omega)]
  · rw [if_neg h]
    by_cases h2 : 12 + 8 * n ≤ j ∧ j < 12 + 8 * n + k
    · rw [if_pos h2, if_pos (by omega)]
    · rw [if_neg h2, if_neg (by omega)]
/-- clocks off by more than told (4), that can't be wound (5), how often wound (7) -/
def sumN (f : Nat → Int32) (w : Int32) : Nat → Int32
  | 0 => 0
  | k + 1 => sumN f w k + (if w = 7 then f (12 + 8 * k + 7) else (if w = 4 then (if offB f k (f 0) = true then 1 else 0) else (if canW f k = true then 0 else 1)))
def mostN (f : Nat → Int32) : Nat → Int32
  | 0 => -6
  | k + 1 => if canW f k = true then mostN f k else if f (12 + 8 * k + 1) ≤ mostN f k then mostN f k else f (12 + 8 * k + 1)
/-- days until off, by going on: at most n more -/
def lastN (f : Nat → Int32) (c : Nat) : Nat → Nat → Int32
  | 0 => f
  | d + 1 => dayM (lastN f c d) c
def aheadN (v : Nat → Int32) (c : Nat) : Nat → Int32
  | 0 => 0
  | k + 1 => aheadN v c k + (if v k < v c then 1 else if v k = v c then (if c ≤ k then 0 else 1) else 0)
def hangR (f : Nat → Int32) (h u d : Int32) : Int32 := if inB h 0 99 = true then (if inB u 0 30 = true then (if inB d (-99) 99 = true then (if cn f = 16 then -4 else 0) else -2) else -2) else -2
def lddR (f : Nat → Int32) (u : Int32) : Int32 := if inB u 1 30 = true then (if ln f = 4 then -4 else 0) else -2
def passR (f : Nat → Int32) (d : Int32) : Int32 := if inB d 1 99 = true then (if f 4 + d ≤ 9999 then 0 else -5) else -2
