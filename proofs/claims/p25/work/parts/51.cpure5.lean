/-! orders as the class's Pad reads them -/
theorem chr_lt {t : Nat → Int32} {len p : Nat} {x : Int32} (h : chr t len p = x) (hx : x ≠ 0) : p < len := by
  rcases Nat.lt_or_ge p len with z | z
  · exact z
  · exact absurd ((chr_out z).symm.trans h).symm hx
theorem inB_self (x : Int32) : inB x x x = true := by rw [inB_t]; exact ⟨fun z => Int32.lt_irrefl z, fun z => Int32.lt_irrefl z⟩
theorem inB_eq {x y : Int32} (h : inB x y y = true) : x = y := by
  rw [inB_t, Int32.not_lt, Int32.not_lt] at h
  exact Int32.le_antisymm h.2 h.1
theorem inB_yes {x y : Int32} (h : x = y) : inB x y y = true := by rw [h]; exact inB_self y
theorem inB_no {x y : Int32} (h : ¬ x = y) : inB x y y = false := by
  cases e : inB x y y
  · rfl
  · exact absurd (inB_eq e) h
theorem nxB_yes {t : Nat → Int32} {len p : Nat} {x : Int32} (h : chr t len p = x) (hx : ¬ x ≤ 0) : nxB t len p x x = true := by rw [nxB_eq hx]; exact inB_yes h
theorem nxB_no {t : Nat → Int32} {len p : Nat} {x : Int32} (h : ¬ chr t len p = x) (hx : ¬ x ≤ 0) : nxB t len p x x = false := by rw [nxB_eq hx]; exact inB_no h
theorem rC_no {t : Nat → Int32} {len u q n : Nat} {w : Nat → Int32} (h : rN t len q = none) : rC t len u q n w = (false, q, n, w) := by unfold rC; rw [h]
theorem rC_end {t : Nat → Int32} {len i q n p' : Nat} {w : Nat → Int32} {v : Int32} (h : rN t len q = some (v, p')) (h2 : ¬ chr t len p' = 44) : rC t len (40 - i) q n w = (true, p', n + 1, upd w n v) := by
  unfold rC; rw [h]
  show rB t len (40 - i) p' (n + 1) (upd w n v) = _
  have h3 := nxB_no h2 (by decide)
  cases e : 40 - i with
  | zero => rfl
  | succ u => unfold rB; rw [h3]; rfl
theorem rC_go {t : Nat → Int32} {len i q n p' : Nat} {w : Nat → Int32} {v : Int32} (hi : i < 40) (h : rN t len q = some (v, p')) (h2 : chr t len p' = 44) : rC t len (40 - i) q n w = rC t len (40 - (i + 1)) (p' + 1) (n + 1) (upd w n v) := by
  have h3 := nxB_yes h2 (by decide)
  rw [show 40 - i = (40 - (i + 1)) + 1 by omega]
  generalize 40 - (i + 1) = u
  conv => lhs; unfold rC; rw [h]
  show rB t len (u + 1) p' (n + 1) (upd w n v) = _
  unfold rB; rw [h3]; rfl
theorem rB_cong (t : Nat → Int32) (len : Nat) : ∀ (u p n : Nat) (w w2 : Nat → Int32), (∀ j, j < n → w j = w2 j) → (rB t len u p n w).1 = (rB t len u p n w2).1 ∧ (rB t len u p n w).2.1 = (rB t len u p n w2).2.1 ∧ (rB t len u p n w).2.2.1 = (rB t len u p n w2).2.2.1 ∧ ∀ j, j < (rB t len u p n w).2.2.1 → (rB t len u p n w).2.2.2 j = (rB t len u p n w2).2.2.2 j := by
  intro u
  induction u with
  | zero => intro p n w w2 h; exact ⟨rfl, rfl, rfl, h⟩
  | succ u ih =>
    intro p n w w2 h
    unfold rB
    split
    · cases e : rN t len (p + 1) with
      | none => exact ⟨rfl, rfl, rfl, h⟩
      | some v =>
        refine ih v.2 (n + 1) (upd w n v.1) (upd w2 n v.1) (fun j hj => ?_)
        by_cases z : j = n
        · subst z; rw [upd_self, upd_self]
        · rw [upd_ne z, upd_ne z]; exact h j (by omega)
    · exact ⟨rfl, rfl, rfl, h⟩
/-- what the row holds behind an order that was read well -/
def nmS (c : Int32) (R : (Int32 × Int32 × Int32) × Nat × (Nat → Int32)) (L : Nat) (w : Nat → Int32) : Prop :=
  (c = 43 → L = 3 ∧ w 0 = R.1.1 ∧ w 1 = R.1.2.1 ∧ w 2 = R.1.2.2) ∧ (c = 108 → L = 1 ∧ w 0 = R.1.1) ∧ (c = 116 → L = 1 ∧ w 0 = R.1.1) ∧ (c = 98 → L = R.2.1 ∧ ∀ j, j < L → w j = R.2.2 j)
def rdP (C C1 : MS) (len p0 : Nat) (r : Int32) : Prop := ∃ (L : Nat) (w : Nat → Int32), C1 = pdM (mset C 10 3 (chr (C 12) len p0)) (rO (C 12) len p0).2.1 L w ∧ L ≤ 40 ∧ (((rO (C 12) len p0).1 = true ∧ r = 1 ∧ nmS (chr (C 12) len p0) (rO (C 12) len p0).2.2 L w) ∨ ((rO (C 12) len p0).1 = false ∧ r = 0))
theorem rdP_no {C : MS} {len p0 q L : Nat} {w : Nat → Int32} {c : Int32} (hc : c = chr (C 12) len p0) (h : (rO (C 12) len p0).1 = false ∧ (rO (C 12) len p0).2.1 = q) (hL : L ≤ 40) : rdP C (pdM (mset C 10 3 c) q L w) len p0 0 := ⟨L, w, by rw [h.2, hc], hL, Or.inr ⟨h.1, rfl⟩⟩
theorem rdP_ok {C : MS} {len p0 q L : Nat} {w : Nat → Int32} {c : Int32} (hc : c = chr (C 12) len p0) (h : (rO (C 12) len p0).1 = true ∧ (rO (C 12) len p0).2.1 = q) (hL : L ≤ 40) (hn : nmS c (rO (C 12) len p0).2.2 L w) : rdP C (pdM (mset C 10 3 c) q L w) len p0 1 := ⟨L, w, by rw [h.2, hc], hL, Or.inl ⟨h.1, rfl, by rw [← hc]; exact hn⟩⟩
theorem rO_98 {t : Nat → Int32} {len p : Nat} (h : chr t len p = 98) (w0 : Nat → Int32) : (rO t len p).1 = (rC t len 40 (p + 1) 0 w0).1 ∧ (rO t len p).2.1 = (rC t len 40 (p + 1) 0 w0).2.1 ∧ ((rO t len p).1 = true → (rC t len 40 (p + 1) 0 w0).2.2.1 = (rO t len p).2.2.2.1 ∧ ∀ j, j < (rC t len 40 (p + 1) 0 w0).2.2.1 → (rC t len 40 (p + 1) 0 w0).2.2.2 j = (rO t len p).2.2.2.2 j) := by
  unfold rO rC
  simp only [h]
  cases e : rN t len (p + 1) with
  | none => exact ⟨rfl, rfl, fun z => by simp at z⟩
  | some v =>
    obtain ⟨a, b, c, d⟩ := rB_cong t len 40 v.2 1 (upd w0 0 v.1) (fun _ => v.1) (fun j hj => by rw [show j = 0 by omega, upd_self])
    exact ⟨a.symm, b.symm, fun _ => ⟨c, d⟩⟩
theorem pdM_k1 {C : MS} {q : Nat} {x : Int32} : mset (mset (mset C 10 2 (nI q)) 10 4 0) 10 3 x = pdM (mset C 10 3 x) q 0 (C 13) := by
  funext a b
  by_cases h : a = 10
  · subst h
    by_cases h2 : b = 2
    · subst h2; rw [pdM_q, mset_nj _ (by decide), mset_nj _ (by decide), mset_eq]
    · by_cases h4 : b = 4
      · subst h4; rw [pdM_L, mset_nj _ (by decide), mset_eq]; rfl
      · rw [pdM_o h2 h4]
        by_cases h3 : b = 3
        · subst h3; rw [mset_eq, mset_eq]
        · rw [mset_nj _ h3, mset_nj _ h4, mset_nj _ h2, mset_nj _ h3]
  · by_cases h2 : a = 13
    · subst h2; rw [pdM_13, mset_ne _ (by decide), mset_ne _ (by decide), mset_ne _ (by decide)]
    · rw [pdM_ne h h2, mset_ne _ h, mset_ne _ h, mset_ne _ h, mset_ne _ h]
theorem pdM_k2 {C : MS} {q : Nat} {x : Int32} (h : C 10 2 = nI q) : mset (mset C 10 4 0) 10 3 x = pdM (mset C 10 3 x) q 0 (C 13) := by
  conv => lhs; rw [show C = mset C 10 2 (nI q) from (mset_id h).symm]
  exact pdM_k1
/-- all but what reading writes -/
def Pf (C C1 : MS) : Prop := (∀ a, a ≠ 10 → a ≠ 13 → C1 a = C a) ∧ ∀ j, j ≠ 2 → j ≠ 3 → j ≠ 4 → C1 10 j = C 10 j
theorem Pf.rf (C : MS) : Pf C C := ⟨fun _ _ _ => rfl, fun _ _ _ _ => rfl⟩
theorem Pf.trans {A B D : MS} (h : Pf A B) (h2 : Pf B D) : Pf A D := ⟨fun a z y => (h2.1 a z y).trans (h.1 a z y), fun j a b c => (h2.2 j a b c).trans (h.2 j a b c)⟩
theorem Pf.pd {C : MS} {x : Int32} {q L : Nat} {w : Nat → Int32} : Pf C (pdM (mset C 10 3 x) q L w) := ⟨fun a h h2 => by rw [pdM_ne h h2, mset_ne _ h], fun j h h3 h4 => by rw [pdM_o h h4, mset_nj _ h3]⟩
theorem Pf.q {C : MS} {x : Int32} : Pf C (mset C 10 2 x) := ⟨fun a h _ => mset_ne _ h _ _, fun j h _ _ => mset_nj _ h _ _⟩
/-- what the reading finds that stands at p, "behind an order" if p is not 0 -/
def gS (t : Nat → Int32) (len u p : Nat) : Option Nat := if p = 0 then gF t len u 0 else if chr t len p = 59 then gF t len u (p + 1) else some p
theorem gS_no {t : Nat → Int32} {len u p : Nat} (h0 : 0 < p) (h : ¬ chr t len p = 59) : gS t len u p = some p := by unfold gS; rw [if_neg (by omega), if_neg h]
def p0of (t : Nat → Int32) (len p : Nat) : Nat := if p = 0 then 0 else p + 1
theorem gS_p0 {t : Nat → Int32} {len u p : Nat} (h : p = 0 ∨ (0 < p ∧ chr t len p = 59)) : gS t len u p = gF t len u (p0of t len p) := by
  unfold gS p0of
  rcases h with rfl | ⟨h, h2⟩
  · rw [if_pos rfl, if_pos rfl]
  · rw [if_neg (by omega), if_pos h2, if_neg (by omega)]
theorem gF_s {t : Nat → Int32} {len u p : Nat} (h : (rO t len p).1 = true) (h2 : (rO t len p).2.1 < len) (h3 : 0 < (rO t len p).2.1) : gF t len (u + 1) p = gS t len u (rO t len p).2.1 := by
  unfold gS
  rw [if_neg (by omega)]
  by_cases z : chr t len (rO t len p).2.1 = 59
  · rw [if_pos z, gF_go h h2 (inB_yes z)]
  · rw [if_neg z, gF_sep h h2 (inB_no z)]
theorem mulm1 (x : Int32) : x * (-1) = -x := by
  rw [Int32.mul_neg, Int32.mul_one]
