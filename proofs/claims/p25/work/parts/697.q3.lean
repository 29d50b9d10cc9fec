/-! days until off; which ladder to buy -/
def LSt (f : Nat → Int32) (c m D : Nat) (g : Nat → Int32) : Prop := (∀ w, w < 8 → g (12 + 8 * c + w) = lastN f c m (12 + 8 * c + w)) ∧ g 0 = f 0 ∧ g 1 = f 1 ∧ cn g = cn f ∧ g 4 = nI (D + m)
theorem LSt_0 {f : Nat → Int32} {c D : Nat} (h : f 4 = nI D) : LSt f c 0 D f := ⟨fun _ _ => rfl, rfl, rfl, rfl, h⟩
theorem ps_at {f : Nat → Int32} {c i D : Nat} (v : Iv f) (hc : c < cn f) (h1 : 1 ≤ i) (h2 : i ≤ 99) (h4 : f 4 = nI D) (h : D + i ≤ 9999) : 0 ≤ psR f (nI i) ∧ LSt f c i D (psF f (nI i)) := by
  obtain ⟨D', hD, h4', W, S, vc⟩ := id v
  have l16 := W.2.1
  have d1 := (dcD_Mx (f := f) W vc i).1
  rw [Mx_self] at d1
  have e1 : psW f (nI i) = Mx (cn f) (pasF f i) f := by
    unfold psW pasF
    rw [ix_nI (by omega), d1, Mx_upd (by omega)]
  have b1 : inB (nI i) 1 99 = true := by
    rw [inB_t]
    exact ⟨fun z => by have := (nI_ltI (a := i) (b := 1) (by omega) (by decide)).mp z; omega, fun z => by have := (nI_ltI (a := 99) (b := i) (by decide) (by omega)).mp z; omega⟩
  have b2 : f 4 + nI i ≤ 9999 := by
    rw [h4, nI_add]; exact (nI_leI (a := D + i) (b := 9999) (by omega) (by decide)).mpr h
  have eF : psF f (nI i) = psW f (nI i) := by unfold psF; rw [if_pos b1, if_pos b2]
  have lo : ∀ j, j < 12 → j ≠ 4 → psW f (nI i) j = f j := fun j hj hne => by
    unfold psW; rw [upd_ne hne]; exact dcD_low _ _ _ _ hj
  refine ⟨?_, fun w hw => ?_, ?_, ?_, ?_, ?_⟩
  · unfold psR; rw [if_pos b1, if_pos b2]; exact nI_pos' (by omega)
  · rw [eF, e1, Mx_in (by omega)]
    unfold pasF
    rw [upd_ne (by omega)]
    exact passD_last hc i w hw
  · rw [eF]; exact lo 0 (by decide) (by decide)
  · rw [eF]; exact lo 1 (by decide) (by decide)
  · rw [eF]; exact cn_low (lo 5 (by decide) (by decide))
  · rw [eF]; unfold psW; rw [upd_self, h4, nI_add]
theorem offB_eq {g h : Nat → Int32} {c : Nat} {t t' : Int32} (e : g (12 + 8 * c + 4) = h (12 + 8 * c + 4)) (et : t = t') : offB g c t = offB h c t' := by unfold offB; rw [e, et]
theorem LSt_no {f g : Nat → Int32} {c m D : Nat} (v : Iv f) (hc : c < cn f) (hd : duS f c = m + 1) (L : LSt f c m D g) : offB g c (g 0) = false := by
  rw [offB_eq (h := lastN f c m) (t' := lastN f c m 0) (L.1 4 (by decide)) (by rw [L.2.1, lastN_lo f c m (by omega)])]
  exact (lasts_spec v hc).2 m (by omega)
theorem LSt_yes {f g : Nat → Int32} {c m D : Nat} (v : Iv f) (vg : Iv g) (hc : c < cn f) (hd : duS f c = m + 1) (L : LSt f c m D g) (h : D + m + 1 ≤ 9999) : 0 ≤ psR g 1 ∧ offB (psF g 1) c (psF g 1 0) = true ∧ cn (psF g 1) = cn f := by
  obtain ⟨l1, l2, l3, l4, l5⟩ := L
  obtain ⟨p1, p2, p3, p4, p5, p6⟩ := ps_at (f := g) (c := c) (i := 1) (D := D + m) vg (by rw [l4]; exact hc) (by decide) (by decide) l5 h
  refine ⟨p1, ?_, by rw [← l4]; exact p5⟩
  have e : ∀ w, w < 8 → psF g 1 (12 + 8 * c + w) = lastN f c (m + 1) (12 + 8 * c + w) := fun w hw => (p2 w hw).trans (dayM_cg l1 (by rw [l3, lastN_lo f c m (by omega)]) w hw)
  rw [offB_eq (h := lastN f c (m + 1)) (t' := lastN f c (m + 1) 0) (e 4 (by decide)) (by rw [show psF g 1 0 = g 0 from p3, l2, lastN_lo f c (m + 1) (by omega)]), ← hd]
  exact (lasts_spec v hc).1
theorem ladP_none {f : Nat → Int32} {r : Int32} : ∀ k, ladP f r k = none ↔ ∀ j, j < k → ¬ (¬ r ≤ 0 ∧ ¬ f (8 + j) < r) := by
  intro k
  induction k with
  | zero => exact ⟨fun _ j hj => absurd hj (Nat.not_lt_zero _), fun _ => rfl⟩
  | succ k ih =>
    unfold ladP
    cases e : ladP f r k with
    | none =>
      have i := ih.mp e
      show (if ¬ r ≤ 0 ∧ ¬ f (8 + k) < r then some k else none) = none ↔ _
      split
      · next h => exact ⟨fun z => (by cases z), fun z => absurd h (z k (by omega))⟩
      · next h =>
        refine ⟨fun _ j hj => ?_, fun _ => rfl⟩
        by_cases q : j = k
        · subst q; exact h
        · exact i j (by omega)
    | some p =>
      have h2 : ¬ ladP f r k = none := by rw [e]; intro z; cases z
      constructor
      · intro z
        exfalso
        have z : (if (¬ r ≤ 0 ∧ ¬ f (8 + k) < r) ∧ ¬ f (8 + p) ≤ f (8 + k) then some k else some p) = none := z
        split at z <;> cases z
      · intro z
        exact absurd (ih.mpr (fun j hj => z j (by omega))) h2
theorem canW_iff {f : Nat → Int32} {c : Nat} : canW f c = true ↔ f (12 + 8 * c + 1) = 0 ∨ ∃ j, j < ln f ∧ ¬ f (12 + 8 * c + 1) ≤ 0 ∧ ¬ f (8 + j) < f (12 + 8 * c + 1) := by
  rw [canW_t]
  unfold ladF
  constructor
  · rintro (h | h)
    · exact Or.inl h
    · refine Or.inr ?_
      apply Classical.byContradiction
      intro z
      exact h ((ladP_none _).mpr (fun j hj q => z ⟨j, hj, q⟩))
  · rintro (h | ⟨j, hj, q⟩)
    · exact Or.inl h
    · exact Or.inr (fun z => (ladP_none _).mp z j hj q)
theorem cwN_0 {f : Nat → Int32} : ∀ k, cwN f k = 0 ↔ ∀ c, c < k → canW f c = true := by
  intro k
  induction k with
  | zero => exact ⟨fun _ c hc => absurd hc (Nat.not_lt_zero _), fun _ => rfl⟩
  | succ k ih =>
    unfold cwN
    split
    · next h =>
      rw [ih]
      refine ⟨fun z c hc => ?_, fun z c hc => z c (by omega)⟩
      by_cases q : c = k
      · subst q; exact h
      · exact z c (by omega)
    · next h => exact ⟨fun z => by omega, fun z => absurd (z k (by omega)) h⟩
/-- the highest clock out of reach is R rungs high -/
def NF (f : Nat → Int32) (R : Nat) : Prop := ln f < 4 ∧ 1 ≤ R ∧ R ≤ 30 ∧ (∃ c, c < cn f ∧ canW f c = false ∧ f (12 + 8 * c + 1) = nI R) ∧ ∀ c, c < cn f → canW f c = false → ∃ a, a ≤ R ∧ f (12 + 8 * c + 1) = nI a
theorem ru_spec {f : Nat → Int32} (v : Iv f) : ∀ k, k ≤ cn f → (ruN f k = 0 ∧ ∀ c, c < k → canW f c = true) ∨ ∃ R, 1 ≤ R ∧ R ≤ 30 ∧ ruN f k = nI R ∧ (∃ c, c < k ∧ canW f c = false ∧ f (12 + 8 * c + 1) = nI R) ∧ ∀ c, c < k → canW f c = false → ∃ a, a ≤ R ∧ f (12 + 8 * c + 1) = nI a := by
  obtain ⟨D, hD, h4, W, S, vc⟩ := id v
  intro k
  induction k with
  | zero => intro _; exact Or.inl ⟨rfl, fun c hc => absurd hc (Nat.not_lt_zero _)⟩
  | succ k ih =>
    intro hk
    unfold ruN
    by_cases z : canW f k = true
    · rw [if_pos z]
      rcases ih (by omega) with ⟨e1, e2⟩ | ⟨R, r1, r2, e1, ⟨c, hc, c1, c2⟩, e3⟩
      · exact Or.inl ⟨e1, fun c hc => if q : c = k then q ▸ z else e2 c (by omega)⟩
      · refine Or.inr ⟨R, r1, r2, e1, ⟨c, by omega, c1, c2⟩, fun c hc q => ?_⟩
        by_cases y : c = k
        · subst y; rw [z] at q; cases q
        · exact e3 c (by omega) q
    · rw [if_neg z]
      obtain ⟨a, ha, ea⟩ := (vc k (by omega)).2.1
      have zf : canW f k = false := by
        cases q : canW f k with
        | false => rfl
        | true => exact absurd q z
      have a0 : a ≠ 0 := fun y => z (canW_t.mpr (Or.inl (by rw [ea, y]; rfl)))
      rw [ea]
      rcases ih (by omega) with ⟨e1, e2⟩ | ⟨R, r1, r2, e1, ⟨c, hc, c1, c2⟩, e3⟩
      · have j1 : jmax 0 (nI a) = nI a := by
          unfold jmax; rw [if_pos (show (0 : Int32) < nI a from (nI_ltI (a := 0) (b := a) (by decide) (by omega)).mpr (by omega))]
        rw [e1, j1]
        refine Or.inr ⟨a, by omega, ha, rfl, ⟨k, by omega, zf, ea⟩, fun c hc q => ?_⟩
        by_cases y : c = k
        · subst y; exact ⟨a, Nat.le_refl _, ea⟩
        · rw [e2 c (by omega)] at q; cases q
      · rw [e1]
        by_cases y : a ≤ R
        · have j1 : jmax (nI R) (nI a) = nI R := by
            unfold jmax; rw [if_neg (fun q => by have := (nI_ltI (a := R) (b := a) (by omega) (by omega)).mp q; omega)]
          rw [j1]
          refine Or.inr ⟨R, r1, r2, rfl, ⟨c, by omega, c1, c2⟩, fun c hc q => ?_⟩
          by_cases y2 : c = k
          · subst y2; exact ⟨a, y, ea⟩
          · exact e3 c (by omega) q
        · have j1 : jmax (nI R) (nI a) = nI a := by
            unfold jmax; rw [if_pos ((nI_ltI (by omega) (by omega)).mpr (by omega))]
          rw [j1]
          refine Or.inr ⟨a, by omega, ha, rfl, ⟨k, by omega, zf, ea⟩, fun c hc q => ?_⟩
          by_cases y2 : c = k
          · subst y2; exact ⟨a, Nat.le_refl _, ea⟩
          · obtain ⟨b, b1, b2⟩ := e3 c (by omega) q
            exact ⟨b, by omega, b2⟩
theorem lf_cases {f : Nat → Int32} (v : Iv f) : (ln f = 4 ∧ lfC f = -4) ∨ (ln f < 4 ∧ lfC f = -6 ∧ cwN f (cn f) = 0) ∨ ∃ R, NF f R ∧ lfC f = nI R ∧ 0 < cwN f (cn f) := by
  have l4 := v.W.2.2.2
  unfold lfC
  by_cases z : ln f < 4
  · rw [if_pos z]
    rcases ru_spec v _ (Nat.le_refl _) with ⟨e1, e2⟩ | ⟨R, r1, r2, e1, e2, e3⟩
    · rw [e1, if_pos rfl]
      exact Or.inr (Or.inl ⟨z, rfl, (cwN_0 _).mpr e2⟩)
    · rw [e1, if_neg (nI_ne0 (by omega) (by omega))]
      refine Or.inr (Or.inr ⟨R, ⟨z, r1, r2, e2, e3⟩, rfl, ?_⟩)
      apply Nat.pos_of_ne_zero
      intro q
      obtain ⟨c, hc, c1, _⟩ := e2
      rw [(cwN_0 _).mp q c hc] at c1; cases c1
  · rw [if_neg z]; exact Or.inl ⟨by omega, rfl⟩
theorem NF.ro {f f1 : Nat → Int32} {R : Nat} (n : NF f R) (r : Ro f1 f) : NF f1 R := by
  obtain ⟨n1, n2, n3, ⟨c, hc, c1, c2⟩, n5⟩ := n
  refine ⟨by rw [Ro_ln r]; exact n1, n2, n3, ⟨c, by rw [r.ec]; exact hc, by rw [Ro_can r hc]; exact c1, by rw [r.2 _ (by omega)]; exact c2⟩, fun c hc q => ?_⟩
  rw [r.ec] at hc
  rw [Ro_can r hc] at q
  rw [r.2 _ (by omega)]; exact n5 c hc q
theorem al_at {f : Nat → Int32} {u : Nat} (v : Iv f) (hl : ln f < 4) (h1 : 1 ≤ u) (h2 : u ≤ 30) : 0 ≤ alR f (nI u) ∧ cn (alF f (nI u)) = cn f ∧ ln (alF f (nI u)) = ln f + 1 ∧ (∀ c, alF f (nI u) (12 + 8 * c + 1) = f (12 + 8 * c + 1)) ∧ (∀ j, j < ln f → alF f (nI u) (8 + j) = f (8 + j)) ∧ alF f (nI u) (8 + ln f) = nI u := by
  have b1 : inB (nI u) 1 30 = true := by
    rw [inB_t]
    exact ⟨fun z => by have := (nI_ltI (a := u) (b := 1) (by omega) (by decide)).mp z; omega, fun z => by have := (nI_ltI (a := 30) (b := u) (by decide) (by omega)).mp z; omega⟩
  unfold alR alF
  rw [if_pos b1, if_pos hl, if_pos b1, if_pos hl]
  refine ⟨nI_pos' (by omega), cn_low (by rw [upd_ne (by decide), upd_ne (by omega)]), ?_, fun c => by rw [upd_ne (by omega), upd_ne (by omega)], fun j hj => by rw [upd_ne (by omega), upd_ne (by omega)], by rw [upd_ne (by omega), upd_self]⟩
  show (upd _ 6 _ 6).toNatClampNeg = _
  rw [upd_self]; exact nI_clamp (by omega)
theorem NF_less {f : Nat → Int32} {R : Nat} (v : Iv f) (n : NF f R) (h : 1 < R) : 0 ≤ alR f (nI (R - 1)) ∧ 0 < cwN (alF f (nI (R - 1))) (cn (alF f (nI (R - 1)))) := by
  obtain ⟨n1, n2, n3, ⟨c, hc, c1, c2⟩, n5⟩ := n
  obtain ⟨a1, a2, a3, a4, a5, a6⟩ := al_at v n1 (show 1 ≤ R - 1 by omega) (by omega)
  refine ⟨a1, Nat.pos_of_ne_zero fun q => ?_⟩
  have := (cwN_0 _).mp q c (by rw [a2]; exact hc)
  rw [canW_iff, a4, a3] at this
  rw [canW_f, ← canW_t, canW_iff] at c1
  rcases this with y | ⟨j, hj, y1, y2⟩
  · exact c1 (Or.inl y)
  · by_cases e : j = ln f
    · subst e
      rw [a6, c2] at y2
      exact y2 ((nI_ltI (by omega) (by omega)).mpr (by omega))
    · rw [a5 j (by omega)] at y2
      exact c1 (Or.inr ⟨j, by omega, y1, y2⟩)
theorem NF_full {f : Nat → Int32} {R : Nat} (v : Iv f) (n : NF f R) : 0 ≤ alR f (nI R) ∧ cwN (alF f (nI R)) (cn (alF f (nI R))) = 0 := by
  obtain ⟨n1, n2, n3, -, n5⟩ := n
  obtain ⟨a1, a2, a3, a4, a5, a6⟩ := al_at v n1 n2 n3
  refine ⟨a1, (cwN_0 _).mpr fun c hc => ?_⟩
  rw [a2] at hc
  rw [canW_iff, a4, a3]
  by_cases q : canW f c = true
  · rcases canW_iff.mp q with y | ⟨j, hj, y1, y2⟩
    · exact Or.inl y
    · exact Or.inr ⟨j, by omega, y1, by rw [a5 j hj]; exact y2⟩
  · have qf : canW f c = false := by
      cases e : canW f c with
      | false => rfl
      | true => exact absurd e q
    obtain ⟨a, ha, ea⟩ := n5 c hc qf
    by_cases y : a = 0
    · subst y; exact Or.inl ea
    · refine Or.inr ⟨ln f, by omega, ?_, ?_⟩
      · rw [ea]; exact nI_nle (by omega) (by omega)
      · rw [a6, ea]; exact fun z => by have := (nI_ltI (by omega) (by omega)).mp z; omega
