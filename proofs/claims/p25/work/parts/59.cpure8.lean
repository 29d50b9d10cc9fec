/-! turning round; slots -/
theorem trN_e (w : Nat → Int32) (L : Nat) : ∀ i, i ≤ L / 2 → ∀ j, j < L → trN w L i j = if j < i ∨ L - 1 - j < i then w (L - 1 - j) else w j := by
  intro i
  induction i with
  | zero => intro _ j hj; rw [if_neg (by omega)]; rfl
  | succ i ih =>
    intro hi j hj
    unfold trN
    rw [ih (by omega) (L - 1 - i) (by omega), ih (by omega) i (by omega), if_neg (by omega), if_neg (by omega)]
    by_cases h1 : j = L - 1 - i
    · subst h1
      rw [upd_self, if_pos (by omega), show L - 1 - (L - 1 - i) = i by omega]
    · rw [upd_ne h1]
      by_cases h2 : j = i
      · subst h2; rw [upd_self, if_pos (by omega)]
      · rw [upd_ne h2, ih (by omega) j hj]
        by_cases h3 : j < i ∨ L - 1 - j < i
        · rw [if_pos h3, if_pos (by omega)]
        · rw [if_neg h3, if_neg (by omega)]
theorem trN_rev (w : Nat → Int32) (L : Nat) {j : Nat} (hj : j < L) : trN w L (L / 2) j = w (L - 1 - j) := by
  rw [trN_e w L _ (Nat.le_refl _) j hj]
  split
  · rfl
  · rw [show L - 1 - j = j by omega]
theorem trN_gd {f w : Nat → Int32} {L : Nat} (h : gdN f w L) : gdN f (trN w L (L / 2)) L := fun j hj => by
  rw [trN_rev w L hj]; exact h _ (by omega)
theorem rwM_mrow {C : MS} {L : Nat} {w w' : Nat → Int32} : mrow (rwM C L w) 14 w' = rwM C L w' := by
  funext a b
  by_cases h2 : a = 14
  · subst h2; rw [mrow_s, rwM_14]
  · rw [mrow_n _ h2]
    by_cases h : a = 10
    · subst h
      by_cases h5 : b = 5
      · subst h5; rw [rwM_5, rwM_5]
      · rw [rwM_o h5, rwM_o h5]
    · rw [rwM_ne h h2, rwM_ne h h2]
def wayC (a b : Int32) : Int32 := if a = b then 2 else if b ≤ a then 1 else 0
theorem inB01_t {x : Int32} (h : ¬ x < 0) (h2 : ¬ 2 ≤ x) : inB x 0 1 = true := by
  rw [inB_t]; refine ⟨h, fun z => h2 ?_⟩
  have : (1 : Int32).toInt < x.toInt := Int32.lt_iff_toInt_lt.mp z
  rw [Int32.le_iff_toInt_le]
  rw [show (1 : Int32).toInt = 1 from by decide] at this
  rw [show (2 : Int32).toInt = 2 from by decide]; omega
theorem inB01_f1 {x : Int32} (h : x < 0) : inB x 0 1 = false := by rw [inB_f]; exact fun z => z.1 h
theorem inB01_f2 {x : Int32} (h : 2 ≤ x) : inB x 0 1 = false := by
  rw [inB_f]; intro z; apply z.2
  have := Int32.le_iff_toInt_le.mp h
  rw [show (2 : Int32).toInt = 2 from by decide] at this
  rw [Int32.lt_iff_toInt_lt, show (1 : Int32).toInt = 1 from by decide]; omega
theorem cpS_5 (f h : Nat → Int32) : cpS f h 5 = nI (cn h) := by
  unfold cpS; rw [upd_ne (by decide), upd_ne (by decide), upd_ne (by decide), upd_self]
theorem chK_eq (x : Int64) (k : Nat) : (shK x k).toInt32 &&& 255 = chK x k := by
  unfold chK; rw [Int64.toInt32_and]; rfl
/-- how many signs the class finds in the number: from place i on, u places more -/
def siN (x : Int64) : Nat → Nat → Nat
  | 0, i => i
  | u + 1, i => if chK x i = 0 then (if lg_cmp (shK x i) 0 = 0 then i else 0) else if chK x i < 33 then 0 else if chK x i ≤ 126 then siN x u (i + 1) else 0
theorem siN_le (x : Int64) : ∀ u i, siN x u i ≤ i + u := by
  intro u
  induction u with
  | zero => intro i; exact Nat.le_refl _
  | succ u ih =>
    intro i; unfold siN
    split
    · split <;> omega
    · split
      · omega
      · split
        · have := ih (i + 1); omega
        · omega
theorem siN_ok (x : Int64) : ∀ u i, ∀ k, i ≤ k → k < siN x u i → inB (chK x k) 33 126 = true := by
  intro u
  induction u with
  | zero => intro i k h1 h2; exact absurd h2 (by show ¬ k < i; omega)
  | succ u ih =>
    intro i k h1 h2
    unfold siN at h2
    split at h2
    · split at h2 <;> omega
    · split at h2
      · omega
      · next h4 =>
        split at h2
        · next h5 =>
          by_cases e : k = i
          · subst e; rw [inB_t]; exact ⟨h4, Int32.not_lt.mpr h5⟩
          · exact ih (i + 1) k (by omega) h2
        · omega
theorem inB_sm {x : Int32} (h : inB x 33 126 = true) : ∃ n, n < 128 ∧ x = nI n := by
  obtain ⟨h1, h2⟩ := inB_t.mp h
  have h0 : ¬ x < 0 := fun z => h1 (by
    rw [Int32.lt_iff_toInt_lt] at z ⊢
    rw [show (0 : Int32).toInt = 0 from by decide] at z
    rw [show (33 : Int32).toInt = 33 from by decide]; omega)
  obtain ⟨n, hn, e⟩ := nI_of h0
  refine ⟨n, ?_, e⟩
  rw [e] at h2
  exact Nat.lt_of_not_le fun z => h2 ((nI_ltI (a := 126) (b := n) (by decide) hn).mpr (by omega))
theorem vpn_ch {x : Int32} (h : inB x 33 126 = true) : vp_nar .char x = x := by
  obtain ⟨n, hn, e⟩ := inB_sm h
  rw [e]; exact (show ∀ n, n < 128 → vp_nar .char (nI n) = nI n from by decide +kernel) n hn
theorem i2c_ch {x : Int32} (h : inB x 33 126 = true) : (x.toUInt32 % 65536).toInt32 = x := by
  obtain ⟨n, hn, e⟩ := inB_sm h
  rw [e]; exact (show ∀ n, n < 128 → ((nI n).toUInt32 % 65536).toInt32 = nI n from by decide +kernel) n hn
def sgM (C : MS) (L : Nat) (w : Nat → Int32) : MS := mset (mrow C 12 w) 10 1 (nI L)
section SG0
variable {C : MS} {L L' : Nat} {w w' : Nat → Int32}
theorem sgM_1 : sgM C L w 10 1 = nI L := mset_eq _ _ _ _
theorem sgM_12 : sgM C L w 12 = w := by unfold sgM; rw [mset_ne _ (by decide), mrow_s]
theorem sgM_ne {a : Nat} (h : a ≠ 10) (h2 : a ≠ 12) : sgM C L w a = C a := by unfold sgM; rw [mset_ne _ h, mrow_n _ h2]
theorem sgM_o {j : Nat} (h : j ≠ 1) : sgM C L w 10 j = C 10 j := by unfold sgM; rw [mset_nj _ h, mrow_n _ (by decide)]
theorem sgM_add {x : Int32} : mset (mset (sgM C L w) 12 L x) 10 1 (nI L') = sgM C L' (upd w L x) := by
  funext a b
  by_cases h : a = 10
  · subst h
    by_cases h2 : b = 1
    · subst h2; rw [sgM_1, mset_eq]
    · rw [sgM_o h2, mset_nj _ h2, mset_nk _ (by decide), sgM_o h2]
  · by_cases h2 : a = 12
    · subst h2; rw [sgM_12, mset_ne _ (by decide), mset_row, sgM_12]
    · rw [sgM_ne h h2, mset_ne _ h, mset_ne _ h2, sgM_ne h h2]
theorem sgM_id (h : C 10 1 = nI L) : sgM C L (C 12) = C := by unfold sgM; rw [mrow_self, mset_id h]
end SG0
/-- the signs when m of the n are put -/
def ptP (b : Nat → Int32) (x : Int64) (L n : Nat) : Nat → Nat → Int32
  | 0 => b
  | m + 1 => upd (ptP b x L n m) (L + m) (chK x (n - m - 1))
theorem jm1_lt {j : Nat} (h : j < 2 ^ 30) : nI j - 1 < 0 ↔ j = 0 := by
  constructor
  · intro z
    cases j with
    | zero => rfl
    | succ j => rw [show (1 : Int32) = nI 1 from rfl, pk_sub (by omega)] at z; exact absurd z (nI_pos (by omega))
  · rintro rfl; decide
def c1R (f : Nat → Int32) (c : Int32) (w : Nat → Int32) (L : Nat) : Int32 := if c = 43 then acR f (atR w L 0) (atR w L 1) (atR w L 2) else if c = 97 then ccR f 1 else if c = 98 then bwR f w L else if c = 108 then alR f (atR w L 0) else if c = 115 then ccR f 0 else if c = 116 then psR f (atR w L 0) else -3
def c1F (f : Nat → Int32) (c : Int32) (w : Nat → Int32) (L : Nat) : Nat → Int32 := if c = 43 then acF f (atR w L 0) (atR w L 1) (atR w L 2) else if c = 97 then ccF f 1 else if c = 98 then bwF f w L else if c = 108 then alF f (atR w L 0) else if c = 115 then ccF f 0 else if c = 116 then psF f (atR w L 0) else f
/-! orders carried out -/
def oneR (f : Nat → Int32) (c : Int32) (R : (Int32 × Int32 × Int32) × Nat × (Nat → Int32)) : Int32 := if c = 43 then acR f R.1.1 R.1.2.1 R.1.2.2 else if c = 97 then ccR f 1 else if c = 98 then bwR f R.2.2 R.2.1 else if c = 108 then alR f R.1.1 else if c = 115 then ccR f 0 else if c = 116 then psR f R.1.1 else -3
def oneF (f : Nat → Int32) (c : Int32) (R : (Int32 × Int32 × Int32) × Nat × (Nat → Int32)) : Nat → Int32 := if c = 43 then acF f R.1.1 R.1.2.1 R.1.2.2 else if c = 97 then ccF f 1 else if c = 98 then bwF f R.2.2 R.2.1 else if c = 108 then alF f R.1.1 else if c = 115 then ccF f 0 else if c = 116 then psF f R.1.1 else f
theorem hrN_cong {f w w2 : Nat → Int32} : ∀ n, (∀ j, j < n → w j = w2 j) → hrN f w n = hrN f w2 n := by
  intro n
  cases n with
  | zero => intro _; rfl
  | succ n => intro h; show f (12 + 8 * ix (w n) + 0) = f (12 + 8 * ix (w2 n) + 0); rw [h n (by omega)]
theorem caN_cong {f w w2 : Nat → Int32} : ∀ n, (∀ j, j < n → w j = w2 j) → caN f w n = caN f w2 n := by
  intro n
  induction n with
  | zero => intro _; rfl
  | succ n ih => intro h; unfold caN ndN; rw [h n (by omega), ih (fun j hj => h j (by omega))]
theorem spN_cong {f w w2 : Nat → Int32} : ∀ n, (∀ j, j < n → w j = w2 j) → spN f w n = spN f w2 n := by
  intro n
  induction n with
  | zero => intro _; rfl
  | succ n ih => intro h; unfold spN ndN; rw [h n (by omega), ih (fun j hj => h j (by omega)), caN_cong n (fun j hj => h j (by omega)), hrN_cong n (fun j hj => h j (by omega))]
theorem wkN_cong {f w w2 : Nat → Int32} : ∀ n, (∀ j, j < n → w j = w2 j) → wkN f w n = wkN f w2 n := by
  intro n
  induction n with
  | zero => intro _; rfl
  | succ n ih => intro h; unfold wkN; rw [h n (by omega), ih (fun j hj => h j (by omega))]
theorem moN_cong {f w w2 : Nat → Int32} (n : Nat) (h : ∀ j, j < n → w j = w2 j) : moN f w n = moN f w2 n := by
  unfold moN; rw [spN_cong n h, hrN_cong n h, wkN_cong n h]
theorem gdB_cong {f w w2 : Nat → Int32} : ∀ n, (∀ j, j < n → w j = w2 j) → gdB f w n = gdB f w2 n := by
  intro n
  induction n with
  | zero => intro _; rfl
  | succ n ih => intro h; unfold gdB; rw [h n (by omega), ih (fun j hj => h j (by omega))]
theorem wbN_cong {f w w2 : Nat → Int32} : ∀ n, (∀ j, j < n → w j = w2 j) → wbN f w n = wbN f w2 n := by
  intro n
  induction n with
  | zero => intro _; rfl
  | succ n ih => intro h; unfold wbN; rw [h n (by omega), ih (fun j hj => h j (by omega))]
theorem bw_cong {f w w2 : Nat → Int32} {n : Nat} (h : ∀ j, j < n → w j = w2 j) : bwR f w n = bwR f w2 n ∧ bwF f w n = bwF f w2 n := by
  unfold bwR bwF; rw [moN_cong n h, gdB_cong n h, wbN_cong n h]; exact ⟨rfl, rfl⟩
theorem c1_one {f : Nat → Int32} {c : Int32} {w : Nat → Int32} {L : Nat} {R : (Int32 × Int32 × Int32) × Nat × (Nat → Int32)} (h : nmS c R L w) : c1R f c w L = oneR f c R ∧ c1F f c w L = oneF f c R := by
  obtain ⟨h1, h2, h3, h4⟩ := h
  unfold c1R c1F oneR oneF
  by_cases e : c = 43
  · obtain ⟨a, b, d, g⟩ := h1 e
    subst a
    rw [if_pos e, if_pos e, if_pos e, if_pos e, show (0 : Int32) = nI 0 from rfl, show (1 : Int32) = nI 1 from rfl, show (2 : Int32) = nI 2 from rfl, atR_in (by decide) (by decide), atR_in (by decide) (by decide), atR_in (by decide) (by decide), b, d, g]
    exact ⟨rfl, rfl⟩
  rw [if_neg e, if_neg e, if_neg e, if_neg e]
  by_cases e : c = 97
  · rw [if_pos e, if_pos e, if_pos e, if_pos e]; exact ⟨rfl, rfl⟩
  rw [if_neg e, if_neg e, if_neg e, if_neg e]
  by_cases e : c = 98
  · obtain ⟨a, b⟩ := h4 e
    rw [if_pos e, if_pos e, if_pos e, if_pos e, ← a]
    exact bw_cong b
  rw [if_neg e, if_neg e, if_neg e, if_neg e]
  by_cases e : c = 108
  · obtain ⟨a, b⟩ := h2 e
    subst a
    rw [if_pos e, if_pos e, if_pos e, if_pos e, show (0 : Int32) = nI 0 from rfl, atR_in (by decide) (by decide), b]; exact ⟨rfl, rfl⟩
  rw [if_neg e, if_neg e, if_neg e, if_neg e]
  by_cases e : c = 115
  · rw [if_pos e, if_pos e, if_pos e, if_pos e]; exact ⟨rfl, rfl⟩
  rw [if_neg e, if_neg e, if_neg e, if_neg e]
  by_cases e : c = 116
  · obtain ⟨a, b⟩ := h3 e
    subst a
    rw [if_pos e, if_pos e, if_pos e, if_pos e, show (0 : Int32) = nI 0 from rfl, atR_in (by decide) (by decide), b]; exact ⟨rfl, rfl⟩
  rw [if_neg e, if_neg e, if_neg e, if_neg e]; exact ⟨rfl, rfl⟩
/-- the orders from p on, as the class carries them out: how many; the state then -/
def ccO (T : Nat → Int32) (len : Nat) : Nat → Nat → (Nat → Int32) → Nat × (Nat → Int32)
  | 0, _, f => (0, f)
  | u + 1, p, f =>
    if 0 < p ∧ ¬ chr T len p = 59 then (0, f)
    else if (rO T len (p0of T len p)).1 = true then
      (if oneR f (chr T len (p0of T len p)) (rO T len (p0of T len p)).2.2 < 0 then (0, oneF f (chr T len (p0of T len p)) (rO T len (p0of T len p)).2.2)
       else ((ccO T len u (rO T len (p0of T len p)).2.1 (oneF f (chr T len (p0of T len p)) (rO T len (p0of T len p)).2.2)).1 + 1, (ccO T len u (rO T len (p0of T len p)).2.1 (oneF f (chr T len (p0of T len p)) (rO T len (p0of T len p)).2.2)).2))
    else (0, f)
/-- all but the state and what reading writes -/
def Pg (C C1 : MS) : Prop := (∀ a, a ≠ 0 → a ≠ 10 → a ≠ 13 → C1 a = C a) ∧ ∀ j, j ≠ 2 → j ≠ 3 → j ≠ 4 → C1 10 j = C 10 j
theorem Pf.pg {C C1 : MS} (h : Pf C C1) : Pg C C1 := ⟨fun a _ x y => h.1 a x y, h.2⟩
theorem Pg.trans {A B D : MS} (h : Pg A B) (h2 : Pg B D) : Pg A D := ⟨fun a x z y => (h2.1 a x z y).trans (h.1 a x z y), fun j a b c => (h2.2 j a b c).trans (h.2 j a b c)⟩
theorem Pg.row {C : MS} {f : Nat → Int32} : Pg C (mrow C 0 f) := ⟨fun a h _ _ => mrow_n _ h _, fun j _ _ _ => by rw [mrow_n _ (by decide)]⟩
theorem ptP_ok {b : Nat → Int32} {x : Int64} {L n : Nat} : ∀ m, m ≤ n → ∀ j, ptP b x L n m j = if L ≤ j ∧ j < L + m then chK x (n - (j - L) - 1) else b j := by
  intro m
  induction m with
  | zero => intro _ j; rw [if_neg (by omega)]; rfl
  | succ m ih =>
    intro hm j
    unfold ptP
    by_cases h : j = L + m
    · subst h; rw [upd_self, if_pos (by omega), show L + m - L = m by omega]
    · rw [upd_ne h, ih (by omega) j]
      by_cases h2 : L ≤ j ∧ j < L + m
      · rw [if_pos h2, if_pos (by omega)]
      · rw [if_neg h2, if_neg (by omega)]
