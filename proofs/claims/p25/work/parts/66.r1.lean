/-! the relation, first: a row of the class is the reference's row on the clocks that there are, and anything behind them -/
def Mx (n : Nat) (h f : Nat → Int32) : Nat → Int32 := fun j => if j < 12 + 8 * n then h j else f j
section MX
variable {n : Nat} {h f : Nat → Int32}
theorem Mx_in {j : Nat} (hj : j < 12 + 8 * n) : Mx n h f j = h j := if_pos hj
theorem Mx_out {j : Nat} (hj : ¬ j < 12 + 8 * n) : Mx n h f j = f j := if_neg hj
theorem Mx_upd {j : Nat} {x : Int32} (hj : j < 12 + 8 * n) : upd (Mx n h f) j x = Mx n (upd h j x) f := by
  funext k
  by_cases e : k = j
  · subst e; rw [upd_self, Mx_in hj, upd_self]
  · rw [upd_ne e]
    by_cases hk : k < 12 + 8 * n
    · rw [Mx_in hk, Mx_in hk, upd_ne e]
    · rw [Mx_out hk, Mx_out hk]
theorem Mx_Mx {h' : Nat → Int32} : Mx n h (Mx n h' f) = Mx n h f := by
  funext k
  by_cases hk : k < 12 + 8 * n
  · rw [Mx_in hk, Mx_in hk]
  · rw [Mx_out hk, Mx_out hk, Mx_out hk]
theorem Mx_self : Mx n h h = h := by
  funext k
  by_cases hk : k < 12 + 8 * n
  · rw [Mx_in hk]
  · rw [Mx_out hk]
theorem Mx_of (e : ∀ j, j < 12 + 8 * n → f j = h j) : f = Mx n h f := by
  funext k
  by_cases hk : k < 12 + 8 * n
  · rw [Mx_in hk, e k hk]
  · rw [Mx_out hk]
theorem rt_Mx {c : Nat} (hc : c < n) : rt (Mx n h f) c = rt h c := by
  unfold rt; rw [Mx_in (by omega), Mx_in (by omega)]
theorem offB_Mx {c : Nat} (hc : c < n) (t : Int32) : offB (Mx n h f) c t = offB h c t := by
  unfold offB; rw [Mx_in (by omega)]
theorem ladP_Mx (r : Int32) : ∀ k, k ≤ 4 → ladP (Mx n h f) r k = ladP h r k := by
  intro k
  induction k with
  | zero => intro _; rfl
  | succ k ih =>
    intro hk
    unfold ladP
    rw [ih (by omega)]
    cases e : ladP h r k with
    | none => simp only [Mx_in (n := n) (h := h) (f := f) (show 8 + k < 12 + 8 * n by omega)]
    | some j =>
      have hj := ladP_lt h r k j e
      simp only [Mx_in (n := n) (h := h) (f := f) (show 8 + k < 12 + 8 * n by omega), Mx_in (n := n) (h := h) (f := f) (show 8 + j < 12 + 8 * n by omega)]
theorem ln_Mx : ln (Mx n h f) = ln h := by unfold ln; rw [Mx_in (by omega)]
theorem cn_Mx : cn (Mx n h f) = cn h := by unfold cn; rw [Mx_in (by omega)]
theorem Wk_Mx (w : Wk h) : Wk (Mx n h f) := w.low (Mx_in (by omega)) (Mx_in (by omega))
theorem ladF_Mx {c : Nat} (hc : c < n) (hl : ln h ≤ 4) : ladF (Mx n h f) c = ladF h c := by
  unfold ladF; rw [ln_Mx, ladP_Mx _ _ hl, Mx_in (by omega)]
theorem canW_Mx {c : Nat} (hc : c < n) (hl : ln h ≤ 4) : canW (Mx n h f) c = canW h c := by
  unfold canW; rw [ladF_Mx hc hl, Mx_in (by omega)]
theorem isCb_Mx (x : Int32) : isCb (Mx n h f) x = isCb h x := by unfold isCb; rw [Mx_in (by omega)]
end MX
theorem upd_comm {f : Nat → Int32} {a b : Nat} {x y : Int32} (h : a ≠ b) : upd (upd f a x) b y = upd (upd f b y) a x := by
  funext k
  by_cases e : k = b
  · subst e; rw [upd_self, upd_ne (Ne.symm h), upd_self]
  · rw [upd_ne e]
    by_cases e2 : k = a
    · subst e2; rw [upd_self, upd_self]
    · rw [upd_ne e2, upd_ne e2, upd_ne e]
theorem upd_same {f : Nat → Int32} {k : Nat} {x : Int32} (h : f k = x) : upd f k x = f := by subst h; exact upd_id f k
/-! what the relation needs of the reference's row -/
def IvC (h : Nat → Int32) (D c : Nat) : Prop := (∃ a, a ≤ 99 ∧ h (12 + 8 * c + 0) = nI a) ∧ (∃ a, a ≤ 30 ∧ h (12 + 8 * c + 1) = nI a) ∧ inB (h (12 + 8 * c + 3)) (-20) 20 = true ∧ (∃ a, a ≤ D ∧ h (12 + 8 * c + 5) = nI a) ∧ (h (12 + 8 * c + 6) = 1 ∨ (h (12 + 8 * c + 6) = 0 ∧ h (12 + 8 * c + 4) = 43200))
def IvS (h : Nat → Int32) : Prop := (∃ a, 1 ≤ a ∧ a ≤ 999 ∧ h 0 = nI a) ∧ (∃ a, 1 ≤ a ∧ a ≤ 30 ∧ h 1 = nI a) ∧ (∃ a, 1 ≤ a ∧ a ≤ 30 ∧ h 2 = nI a) ∧ (∃ a, 1 ≤ a ∧ a ≤ 30 ∧ h 3 = nI a) ∧ ∀ j, j < ln h → ∃ a, 1 ≤ a ∧ a ≤ 30 ∧ h (8 + j) = nI a
def IvD (h : Nat → Int32) (D : Nat) : Prop := Wk h ∧ IvS h ∧ ∀ c, c < cn h → IvC h D c
def Iv (h : Nat → Int32) : Prop := ∃ D, D ≤ 9999 ∧ h 4 = nI D ∧ IvD h D
theorem Iv.W {h : Nat → Int32} (v : Iv h) : Wk h := by obtain ⟨D, _, _, w, _⟩ := v; exact w
theorem Iv.S {h : Nat → Int32} (v : Iv h) : IvS h := by obtain ⟨D, _, _, _, w, _⟩ := v; exact w
theorem IvC.congr {h h' : Nat → Int32} {D c : Nat} (v : IvC h D c) (e : ∀ w, w < 8 → h' (12 + 8 * c + w) = h (12 + 8 * c + w)) : IvC h' D c := by
  unfold IvC
  rw [e 0 (by decide), e 1 (by decide), e 3 (by decide), e 4 (by decide), e 5 (by decide), e 6 (by decide)]
  exact v
theorem IvS.congr {h h' : Nat → Int32} (v : IvS h) (w : ln h ≤ 4) (e : ∀ j, j < 12 → h' j = h j) : IvS h' := by
  unfold IvS
  rw [e 0 (by decide), e 1 (by decide), e 2 (by decide), e 3 (by decide), ln_low (e 6 (by decide))]
  refine ⟨v.1, v.2.1, v.2.2.1, v.2.2.2.1, fun j hj => ?_⟩
  rw [e (8 + j) (by omega)]; exact v.2.2.2.2 j hj
theorem Iv.congr {h h' : Nat → Int32} (v : Iv h) (e : ∀ j, j < 12 + 8 * cn h → h' j = h j) : Iv h' := by
  obtain ⟨D, hD, h4, W, S, c⟩ := v
  refine ⟨D, hD, by rw [e 4 (by omega)]; exact h4, W.low (e 5 (by omega)) (e 6 (by omega)), S.congr W.2.2.2 (fun j hj => e j (by omega)), fun k hk => ?_⟩
  rw [cn_low (e 5 (by omega))] at hk
  exact (c k hk).congr (fun w hw => e _ (by omega))
/-- a row of the class beside a row of the reference -/
def Ro (f h : Nat → Int32) : Prop := Iv h ∧ ∀ j, j < 12 + 8 * cn h → f j = h j
theorem Ro.mx {f h : Nat → Int32} (r : Ro f h) : f = Mx (cn h) h f := Mx_of r.2
theorem Ro.of {f h : Nat → Int32} (v : Iv h) (f0 : Nat → Int32) (e : f = Mx (cn h) h f0) : Ro f h := ⟨v, fun j hj => by rw [e, Mx_in hj]⟩
theorem Ro.congr {f f' h h' : Nat → Int32} (r : Ro f h) (e : ∀ j, j < 140 → h' j = h j) (e2 : ∀ j, j < 140 → f' j = f j) : Ro f' h' := by
  have hc := r.1.W.2.1
  refine ⟨r.1.congr (fun j hj => e j (by omega)), fun j hj => ?_⟩
  rw [cn_low (e 5 (by decide))] at hj
  rw [e j (by omega), e2 j (by omega)]; exact r.2 j hj
theorem Ro.W {f h : Nat → Int32} (r : Ro f h) : Wk f := by rw [r.mx]; exact Wk_Mx r.1.W
theorem Ro.ec {f h : Nat → Int32} (r : Ro f h) : cn f = cn h := cn_low (r.2 5 (by omega))
theorem Ro.L {f h : Nat → Int32} (r : Ro f h) : Lad f := by
  obtain ⟨⟨D, hD, h4, W, S, c⟩, e⟩ := r
  have l4 := W.2.2.2
  refine ⟨fun j hj => ?_, fun k hk => ?_⟩
  · rw [ln_low (e 6 (by omega))] at hj
    obtain ⟨a, h1, h2, h3⟩ := S.2.2.2.2 j hj
    rw [e (8 + j) (by omega), h3, show (31 : Int32) = nI 31 from rfl, nI_leI (by decide) (by omega)]; omega
  · rw [cn_low (e 5 (by omega))] at hk
    obtain ⟨a, h2, h3⟩ := (c k hk).2.1
    rw [e _ (by omega), h3, show (0 : Int32) = nI 0 from rfl, nI_leI (by decide) (by omega)]; omega
theorem Ro.T {f h : Nat → Int32} (r : Ro f h) : Tm f := by
  obtain ⟨⟨D, hD, h4, W, S, c⟩, e⟩ := r
  refine ⟨?_, fun k hk => ?_⟩
  · obtain ⟨a, h1, h2, h3⟩ := S.2.1
    rw [e 1 (by omega), h3, ix_nI (by omega)]; exact ⟨rfl, h2⟩
  · rw [cn_low (e 5 (by omega))] at hk
    obtain ⟨a, h2, h3⟩ := (c k hk).2.2.2.1
    rw [e _ (by omega), h3, ix_nI (by omega)]; exact ⟨rfl, by omega⟩
theorem goOk_Mx {f h : Nat → Int32} (v : Iv h) (g : goOk f) : goOk (Mx (cn h) h f) := by
  obtain ⟨D, hD, h4, W, S, c⟩ := v
  intro k hk
  by_cases z : k < cn h
  · rw [Mx_in (by omega)]
    rcases (c k z).2.2.2.2 with h1 | h1
    · exact Or.inr h1
    · exact Or.inl h1.1
  · rw [Mx_out (by omega)]; exact g k hk
/-! copying a State -/
theorem cpK_e (f h : Nat → Int32) : ∀ n j, cpK f h n j = if 12 ≤ j ∧ j < 12 + 8 * n then h j else f j := by
  intro n
  induction n with
  | zero => intro j; rw [if_neg (by omega)]; rfl
  | succ n ih =>
    intro j
    unfold cpK cpyC
    by_cases h1 : 12 + 8 * n ≤ j ∧ j < 12 + 8 * n + 8
    · rw [if_pos (by omega)]
      obtain ⟨w, hw, rfl⟩ : ∃ w, w < 8 ∧ j = 12 + 8 * n + w := ⟨j - (12 + 8 * n), by omega, by omega⟩
      rcases (show w = 0 ∨ w = 1 ∨ w = 2 ∨ w = 3 ∨ w = 4 ∨ w = 5 ∨ w = 6 ∨ w = 7 by omega) with rfl | rfl | rfl | rfl | rfl | rfl | rfl | rfl <;> simp [upd]
    · have e : ∀ w, w < 8 → j ≠ 12 + 8 * n + w := fun w hw => by omega
      rw [upd_ne (e 6 (by decide)), upd_ne (e 7 (by decide)), upd_ne (e 5 (by decide)), upd_ne (e 4 (by decide)), upd_ne (e 3 (by decide)), upd_ne (e 2 (by decide)), upd_ne (e 1 (by decide)), upd_ne (e 0 (by decide)), ih]
      by_cases h2 : 12 ≤ j ∧ j < 12 + 8 * n
      · rw [if_pos h2, if_pos (by omega)]
      · rw [if_neg h2, if_neg (by omega)]
theorem cpS_Mx {f g : Nat → Int32} (w : Wk g) : cpS f g = Mx (cn g) g f := by
  funext j
  unfold cpS
  by_cases h7 : j = 7
  · subst h7; rw [upd_self, Mx_in (by omega)]
  rw [upd_ne h7]
  by_cases h4 : j = 4
  · subst h4; rw [upd_self, Mx_in (by omega)]
  rw [upd_ne h4]
  by_cases h6 : j = 6
  · subst h6; rw [upd_self, Mx_in (by omega)]
  rw [upd_ne h6]
  by_cases h5 : j = 5
  · subst h5; rw [upd_self, Mx_in (by omega)]; exact w.1.symm
  rw [upd_ne h5, cpK_e]
  by_cases h1 : 12 ≤ j ∧ j < 12 + 8 * cn g
  · rw [if_pos h1, Mx_in h1.2]
  rw [if_neg h1]
  by_cases h2 : j < 12 + 8 * cn g
  · rw [Mx_in h2]
    unfold laS stS
    by_cases h3 : 8 ≤ j ∧ j < 12
    · rw [if_pos h3]
    · rw [if_neg h3, if_pos (by omega)]
  · rw [Mx_out h2]
    unfold laS stS
    rw [if_neg (by omega), if_neg (by omega)]
theorem Ro.cpd {g h : Nat → Int32} (r : Ro g h) (f : Nat → Int32) : Ro (cpS f g) h := by
  rw [cpS_Mx r.W, r.ec]
  refine ⟨r.1, fun j hj => ?_⟩
  rw [Mx_in hj]; exact r.2 j hj
theorem goOk_cpS {g h f : Nat → Int32} (r : Ro g h) (k : goOk f) : goOk (cpS f g) := by
  rw [cpS_Mx r.W, r.ec]
  have e : Mx (cn h) g f = Mx (cn h) h f := by
    funext j
    by_cases z : j < 12 + 8 * cn h
    · rw [Mx_in z, Mx_in z]; exact r.2 j z
    · rw [Mx_out z, Mx_out z]
  rw [e]; exact goOk_Mx r.1 k
