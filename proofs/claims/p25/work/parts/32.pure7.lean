/-! rows that agree on their first L places; places of an order; the orders of a whole text -/
theorem rowE_congr (f : Nat → Int32) {w v : Nat → Int32} : ∀ L, (∀ j, j < L → w j = v j) → rowE f w L = rowE f v L := by
  intro L
  induction L with
  | zero => intro _; rfl
  | succ L ih => intro h; unfold rowE; rw [h L (by omega), ih (fun j hj => h j (by omega))]
theorem miS_congr (f : Nat → Int32) {w v : Nat → Int32} : ∀ L, (∀ j, j < L → w j = v j) → miS f w L = miS f v L := by
  intro L
  induction L with
  | zero => intro _; rfl
  | succ L ih => intro h; unfold miS; rw [h L (by omega), ih (fun j hj => h j (by omega))]
theorem goF_congr (f : Nat → Int32) {w v : Nat → Int32} : ∀ L, (∀ j, j < L → w j = v j) → goF f w L = goF f v L := by
  intro L
  induction L with
  | zero => intro _; rfl
  | succ L ih => intro h; unfold goF; rw [h L (by omega), ih (fun j hj => h j (by omega))]
theorem goFF_congr (f : Nat → Int32) {w v : Nat → Int32} {L : Nat} (h : ∀ j, j < L → w j = v j) : goFF f w L = goFF f v L := by
  unfold goFF miV; rw [goF_congr f L h, miS_congr f L h]
theorem exE_congr (f : Nat → Int32) {c one two three two' three' : Int32} {L : Nat} {w v : Nat → Int32} (h43 : c = 43 → two = two' ∧ three = three') (h : ∀ j, j < L → w j = v j) : exE f c one two three L w = exE f c one two' three' L v := by
  unfold exE
  by_cases z : c = 43
  · rw [if_pos z, if_pos z, (h43 z).1, (h43 z).2]
  · rw [if_neg z, if_neg z, rowE_congr f L h]
theorem exF_congr (f : Nat → Int32) {c one two three two' three' : Int32} {L : Nat} {w v : Nat → Int32} (h43 : c = 43 → two = two' ∧ three = three') (h : ∀ j, j < L → w j = v j) : exF f c one two three L w = exF f c one two' three' L v := by
  unfold exF
  by_cases z : c = 43
  · rw [if_pos z, if_pos z, (h43 z).1, (h43 z).2]
  · rw [if_neg z, if_neg z, goFF_congr f h]
theorem rN_lt {t : Nat → Int32} {len p : Nat} (h : p ≤ len) : (match rN t len p with | none => p | some a => a.2) ≤ len := by
  split
  · exact h
  · next a e => exact (rN_place (v := a.1) (p' := a.2) (by rw [e])).2.1
theorem rB_place (t : Nat → Int32) (len : Nat) : ∀ u p n w, p ≤ len → (rB t len u p n w).2.1 ≤ len ∧ p ≤ (rB t len u p n w).2.1 := by
  intro u
  induction u with
  | zero => intro p n w h; exact ⟨h, Nat.le_refl _⟩
  | succ u ih =>
    intro p n w h
    unfold rB
    split
    · next h1 =>
      have h2 := (nxB_t.mp h1).1
      split
      · exact ⟨h2, by show p ≤ p + 1; omega⟩
      · next v e =>
        have h3 := rN_place (v := v.1) (p' := v.2) (by rw [e])
        have h4 := ih v.2 (n + 1) (upd w n v.1) h3.2.1
        exact ⟨h4.1, by omega⟩
    · exact ⟨h, Nat.le_refl _⟩
theorem rP_place (t : Nat → Int32) (len p : Nat) (h : p ≤ len) : (rP t len p).2.1 ≤ len ∧ p ≤ (rP t len p).2.1 := by
  unfold rP
  split
  · exact ⟨h, Nat.le_refl _⟩
  · next a e =>
    have h1 := rN_place (v := a.1) (p' := a.2) (by rw [e])
    split
    · next h2 =>
      have h2' := chr_pos h2 (by decide)
      split
      · exact ⟨h2', by show p ≤ a.2 + 1; omega⟩
      · next b e2 =>
        have h3 := rN_place (v := b.1) (p' := b.2) (by rw [e2])
        split
        · next h4 =>
          have h4' := chr_pos h4 (by decide)
          split
          · next h5 =>
            have h5' := (nxB_t.mp h5).1
            split
            · exact ⟨h5', by show p ≤ b.2 + 1 + 1; omega⟩
            · next c e3 =>
              have h6 := rN_place (v := c.1) (p' := c.2) (by rw [e3])
              exact ⟨h6.2.1, by show p ≤ c.2; omega⟩
          · split
            · exact ⟨h4', by show p ≤ b.2 + 1; omega⟩
            · next c e3 =>
              have h6 := rN_place (v := c.1) (p' := c.2) (by rw [e3])
              exact ⟨h6.2.1, by show p ≤ c.2; omega⟩
        · exact ⟨h3.2.1, by show p ≤ b.2; omega⟩
    · exact ⟨h1.2.1, by show p ≤ a.2; omega⟩
theorem rO_place (t : Nat → Int32) (len p : Nat) (h : p ≤ len) : (rO t len p).2.1 ≤ len ∧ p ≤ (rO t len p).2.1 ∧ ((rO t len p).1 = true → p < (rO t len p).2.1) := by
  by_cases hp : p < len
  · unfold rO
    dsimp only
    split
    · exact ⟨hp, by show p ≤ p + 1; omega, fun _ => Nat.lt_succ_self p⟩
    · split
      · exact ⟨hp, by show p ≤ p + 1; omega, fun _ => Nat.lt_succ_self p⟩
      · split
        · have := rP_place t len (p + 1) hp
          exact ⟨this.1, by show p ≤ (rP t len (p + 1)).2.1; omega, fun _ => by show p < (rP t len (p + 1)).2.1; omega⟩
        · split
          · split
            · exact ⟨hp, by show p ≤ p + 1; omega, fun z => by cases z⟩
            · next a e =>
              have h1 := rN_place (v := a.1) (p' := a.2) (by rw [e])
              exact ⟨h1.2.1, by show p ≤ a.2; omega, fun _ => by show p < a.2; omega⟩
          · split
            · split
              · exact ⟨hp, by show p ≤ p + 1; omega, fun z => by cases z⟩
              · next a e =>
                have h1 := rN_place (v := a.1) (p' := a.2) (by rw [e])
                have h2 := rB_place t len 40 a.2 1 (fun _ => a.1) h1.2.1
                exact ⟨h2.1, by show p ≤ (rB t len 40 a.2 1 (fun _ => a.1)).2.1; omega, fun _ => by show p < (rB t len 40 a.2 1 (fun _ => a.1)).2.1; omega⟩
            · split
              · split
                · exact ⟨hp, by show p ≤ p + 1; omega, fun z => by cases z⟩
                · next a e =>
                  have h1 := rN_place (v := a.1) (p' := a.2) (by rw [e])
                  exact ⟨h1.2.1, by show p ≤ a.2; omega, fun _ => by show p < a.2; omega⟩
              · exact ⟨h, Nat.le_refl _, fun z => by cases z⟩
  · have ec : chr t len p = 0 := chr_out (by omega)
    have e : rO t len p = (false, p, (0, 0, 0), 1, fun _ => 0) := by simp [rO, ec]
    rw [e]
    exact ⟨h, Nat.le_refl _, fun z => by cases z⟩
/-- the fault of a text from p on -/
def gF (t : Nat → Int32) (len : Nat) : Nat → Nat → Option Nat
  | 0, _ => none
  | u + 1, p => if (rO t len p).1 = true then (if (rO t len p).2.1 < len then (if inB (chr t len (rO t len p).2.1) 59 59 = true then gF t len u ((rO t len p).2.1 + 1) else some (rO t len p).2.1) else none) else some (rO t len p).2.1
def exE' (t : Nat → Int32) (len p : Nat) (f : Nat → Int32) : Int32 := let R := (rO t len p).2.2; exE f (chr t len p) R.1.1 R.1.2.1 R.1.2.2 R.2.1 R.2.2
def exF' (t : Nat → Int32) (len p : Nat) (f : Nat → Int32) : Nat → Int32 := let R := (rO t len p).2.2; exF f (chr t len p) R.1.1 R.1.2.1 R.1.2.2 R.2.1 R.2.2
/-- the orders carried out from p on: how many, the state then -/
def cO (t : Nat → Int32) (len : Nat) : Nat → Nat → (Nat → Int32) → Nat × (Nat → Int32)
  | 0, _, f => (0, f)
  | u + 1, p, f => if exE' t len p f = 0 then
      (if (rO t len p).2.1 < len then ((cO t len u ((rO t len p).2.1 + 1) (exF' t len p f)).1 + 1, (cO t len u ((rO t len p).2.1 + 1) (exF' t len p f)).2) else (1, exF' t len p f))
    else (0, f)
/-- all but the state and what reading changes -/
def Pk0 (M M' : MS) : Prop := ∀ k, k ≠ 0 → k ≠ 8 → k ≠ 9 → k ≠ 11 → k ≠ 12 → k ≠ 13 → k ≠ 14 → k ≠ 15 → k ≠ 16 → M' k = M k
theorem Pk.pk0 {M N : MS} (h : Pk M N) : Pk0 M N := fun k _ a b c d e f g i => h k a b c d e f g i
theorem Pk0.trans {M N O : MS} (h : Pk0 M N) (h2 : Pk0 N O) : Pk0 M O := fun k z a b c d e f g i => (h2 k z a b c d e f g i).trans (h k z a b c d e f g i)
theorem Pk.trans {M N O : MS} (h : Pk M N) (h2 : Pk N O) : Pk M O := fun k a b c d e f g i => (h2 k a b c d e f g i).trans (h k a b c d e f g i)
theorem Pk0.ms {M N : MS} (h : Pk0 M N) (f : Nat → Int32) : Pk0 M (ms0 N f) := fun k z a b c d e f g i => by rw [ms0_k _ _ z]; exact h k z a b c d e f g i
theorem Pk0.set {M N : MS} (h : Pk0 M N) {k : Nat} (hk : k ∈ [8, 9, 11, 12, 13, 14, 15, 16]) (j : Nat) (x : Int32) : Pk0 M (mset N k j x) := by
  intro a a0 a8 a9 a11 a12 a13 a14 a15 a16
  simp only [List.mem_cons, List.not_mem_nil, or_false] at hk
  rw [mset_ne _ (by rcases hk with rfl | rfl | rfl | rfl | rfl | rfl | rfl | rfl <;> assumption)]
  exact h a a0 a8 a9 a11 a12 a13 a14 a15 a16
theorem rO_len (t : Nat → Int32) (len p : Nat) (h : p ≤ len) (hl : len ≤ 80) : (rO t len p).2.2.2.1 ≤ 80 := by
  have key : ∀ u q n w, n + u ≤ 41 → (rB t len u q n w).2.2.1 ≤ 41 := by
    intro u
    induction u with
    | zero => intro q n w h; exact h
    | succ u ih =>
      intro q n w h
      unfold rB
      split
      · split
        · show n ≤ 41; omega
        · exact ih _ _ _ (by omega)
      · show n ≤ 41; omega
  have one : ∀ (x y : Bool × Nat × (Int32 × Int32 × Int32) × Nat × (Nat → Int32)) (P : Prop) [Decidable P], x.2.2.2.1 ≤ 80 → y.2.2.2.1 ≤ 80 → (if P then x else y).2.2.2.1 ≤ 80 := by
    intro x y P _ h1 h2; split
    · exact h1
    · exact h2
  have o1 : 1 ≤ 80 := by decide
  unfold rO
  dsimp only
  refine one _ _ _ o1 (one _ _ _ o1 (one _ _ _ o1 (one _ _ _ ?_ (one _ _ _ ?_ (one _ _ _ ?_ o1)))))
  · split <;> exact o1
  · split
    · exact o1
    · exact Nat.le_trans (key 40 _ 1 _ (by omega)) (by decide)
  · split <;> exact o1
theorem Wk_exF {f w : Nat → Int32} {c one two three : Int32} {L : Nat} (W : Wk f) (h : exE f c one two three L w = 0) : Wk (exF f c one two three L w) := by
  unfold exE at h
  unfold exF
  by_cases h1 : c = 43
  · rw [if_pos h1] at h ⊢
    have h2 := hangR_0 (f := f) (h := one) (u := two) (d := three) (by rw [h]; decide)
    have hn : cn f < 16 := by have := W.2.1; have := h2.2.2.2.2; omega
    have e5 : newC f (cn f) one two three 5 = nI (cn f + 1) := by unfold newC; exact upd_self
    have e6 : newC f (cn f) one two three 6 = f 6 := by
      unfold newC
      rw [upd_ne (by decide), upd_ne (by omega), upd_ne (by omega), upd_ne (by omega), upd_ne (by omega)]
      exact if_neg (by omega)
    have c5 : cn (newC f (cn f) one two three) = cn f + 1 := by unfold cn at hn ⊢; rw [show newC f (f 5).toNatClampNeg one two three 5 = _ from e5]; exact nI_clamp (by unfold cn; omega)
    have l6 : ln (newC f (cn f) one two three) = ln f := by unfold ln; rw [e6]
    exact ⟨by rw [e5, c5], by rw [c5]; omega, by rw [e6, l6]; exact W.2.2.1, by rw [l6]; exact W.2.2.2⟩
  · rw [if_neg h1] at h ⊢
    by_cases h3 : c = 108
    · rw [if_pos h3] at h ⊢
      have h2 := lddR_0 (f := f) (u := one) (by rw [h]; decide)
      have hn : ln f < 4 := by have := W.2.2.2; have := h2.2.2; omega
      have e5 : upd (upd f (8 + ln f) one) 6 (nI (ln f + 1)) 5 = f 5 := by rw [upd_ne (by decide), upd_ne (by omega)]
      have e6 : upd (upd f (8 + ln f) one) 6 (nI (ln f + 1)) 6 = nI (ln f + 1) := upd_self
      have c5 : cn (upd (upd f (8 + ln f) one) 6 (nI (ln f + 1))) = cn f := by unfold cn; rw [e5]
      have l6 : ln (upd (upd f (8 + ln f) one) 6 (nI (ln f + 1))) = ln f + 1 := by unfold ln; rw [show upd (upd f (8 + (f 6).toNatClampNeg) one) 6 (nI ((f 6).toNatClampNeg + 1)) 6 = _ from e6]; exact nI_clamp (by unfold ln at *; omega)
      exact ⟨by rw [e5, c5]; exact W.1, by rw [c5]; exact W.2.1, by rw [e6, l6], by rw [l6]; omega⟩
    · rw [if_neg h3] at h ⊢
      by_cases h4 : c = 98
      · rw [if_pos h4]
        exact (W.congr (by unfold goFF; rw [upd_ne (by decide), goF_lo _ _ _ (by decide)]) (by unfold goFF; rw [upd_ne (by decide), goF_lo _ _ _ (by decide)])).1
      · rw [if_neg h4]
        by_cases h5 : c = 116
        · rw [if_pos h5]
          exact (W.congr (by unfold pasF; rw [upd_ne (by decide), passD_lo _ _ (by decide)]) (by unfold pasF; rw [upd_ne (by decide), passD_lo _ _ (by decide)])).1
        · rw [if_neg h5]
          exact (W.congr (chgA_lo _ _ _ (by decide)) (chgA_lo _ _ _ (by decide))).1
theorem gF_no {t : Nat → Int32} {len u p : Nat} (h : (rO t len p).1 = false) : gF t len (u + 1) p = some (rO t len p).2.1 := by simp [gF, h]
theorem gF_end {t : Nat → Int32} {len u p : Nat} (h : (rO t len p).1 = true) (h2 : ¬ (rO t len p).2.1 < len) : gF t len (u + 1) p = none := by simp only [gF, if_pos h, if_neg h2]
theorem gF_sep {t : Nat → Int32} {len u p : Nat} (h : (rO t len p).1 = true) (h2 : (rO t len p).2.1 < len) (h3 : inB (chr t len (rO t len p).2.1) 59 59 = false) : gF t len (u + 1) p = some (rO t len p).2.1 := by simp [gF, h, h2, h3]
theorem gF_go {t : Nat → Int32} {len u p : Nat} (h : (rO t len p).1 = true) (h2 : (rO t len p).2.1 < len) (h3 : inB (chr t len (rO t len p).2.1) 59 59 = true) : gF t len (u + 1) p = gF t len u ((rO t len p).2.1 + 1) := by simp [gF, h, h2, h3]
theorem cO_no {t : Nat → Int32} {len u p : Nat} {f : Nat → Int32} (h : exE' t len p f ≠ 0) : cO t len (u + 1) p f = (0, f) := by simp [cO, h]
theorem cO_end {t : Nat → Int32} {len u p : Nat} {f : Nat → Int32} (h : exE' t len p f = 0) (h2 : ¬ (rO t len p).2.1 < len) : cO t len (u + 1) p f = (1, exF' t len p f) := by simp only [cO, if_pos h, if_neg h2]
theorem cO_go {t : Nat → Int32} {len u p : Nat} {f : Nat → Int32} (h : exE' t len p f = 0) (h2 : (rO t len p).2.1 < len) : cO t len (u + 1) p f = ((cO t len u ((rO t len p).2.1 + 1) (exF' t len p f)).1 + 1, (cO t len u ((rO t len p).2.1 + 1) (exF' t len p f)).2) := by simp only [cO, if_pos h, if_pos h2]
