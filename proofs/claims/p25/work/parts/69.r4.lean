/-! the relation, fourth: a change on either side -/
def Cg (f0 : Nat → Int32) (Rc : Int32) (F : Nat → Int32) (flt v : Int32) (f' : Nat → Int32) : Prop := (flt = 0 ∧ Rc = v ∧ 0 ≤ v ∧ Iv f' ∧ F = Mx (cn f') f' f0) ∨ (flt < 0 ∧ Rc = flt ∧ F = f0)
section R4
variable {f h : Nat → Int32}
theorem upd_Ro (r : Ro f h) {j : Nat} {x : Int32} (hj : j < 12 + 8 * cn h) : upd f j x = Mx (cn h) (upd h j x) f := by
  conv => lhs; rw [r.mx]
  exact Mx_upd hj
theorem Ro_lad (r : Ro f h) {c : Nat} (hc : c < cn h) : ladF f c = ladF h c := by rw [r.mx]; exact ladF_Mx hc r.1.W.2.2.2
theorem Ro_can (r : Ro f h) {c : Nat} (hc : c < cn h) : canW f c = canW h c := by rw [r.mx]; exact canW_Mx hc r.1.W.2.2.2
theorem Ro_isC (r : Ro f h) (x : Int32) : isCb f x = isCb h x := by rw [r.mx]; exact isCb_Mx x
theorem Ro_ln (r : Ro f h) : ln f = ln h := ln_low (r.2 6 (by omega))
theorem Iv_set {i : Nat} {x : Int32} (v : Iv h) (hi : i < 4) (hx : ∃ a, 1 ≤ a ∧ a ≤ (if i = 0 then 999 else 30) ∧ x = nI a) : Iv (upd h i x) := by
  obtain ⟨D, hD, h4, W, ⟨s0, s1, s2, s3, s4⟩, vc⟩ := v
  have e5 : upd h i x 5 = h 5 := upd_ne (by omega)
  have e6 : upd h i x 6 = h 6 := upd_ne (by omega)
  have l4 := W.2.2.2
  obtain ⟨a, a1, a2, rfl⟩ := hx
  refine ⟨D, hD, by rw [upd_ne (by omega)]; exact h4, W.low e5 e6, ⟨?_, ?_, ?_, ?_, fun j hj => ?_⟩, fun c hc => ?_⟩
  · by_cases z : i = 0
    · subst z; exact ⟨a, a1, a2, upd_self⟩
    · rw [upd_ne (by omega)]; exact s0
  · by_cases z : i = 1
    · subst z; exact ⟨a, a1, a2, upd_self⟩
    · rw [upd_ne (by omega)]; exact s1
  · by_cases z : i = 2
    · subst z; exact ⟨a, a1, a2, upd_self⟩
    · rw [upd_ne (by omega)]; exact s2
  · by_cases z : i = 3
    · subst z; exact ⟨a, a1, a2, upd_self⟩
    · rw [upd_ne (by omega)]; exact s3
  · rw [ln_low e6] at hj
    rw [upd_ne (by omega)]; exact s4 j hj
  · rw [cn_low e5] at hc
    exact (vc c hc).congr (fun w hw => upd_ne (by omega))
theorem Iv_get {i : Nat} (v : Iv h) (hi : i < 4) : ∃ a, a ≤ 999 ∧ h i = nI a := by
  obtain ⟨⟨a0, _, b0, c0⟩, ⟨a1, _, b1, c1⟩, ⟨a2, _, b2, c2⟩, ⟨a3, _, b3, c3⟩, _⟩ := v.S
  rcases (show i = 0 ∨ i = 1 ∨ i = 2 ∨ i = 3 by omega) with rfl | rfl | rfl | rfl
  · exact ⟨a0, b0, c0⟩
  · exact ⟨a1, by omega, c1⟩
  · exact ⟨a2, by omega, c2⟩
  · exact ⟨a3, by omega, c3⟩
theorem Cg_set (r : Ro f h) (x v : Int32) : Cg f (rsR f x v) (rsF f x v) (setE x v) (h (ix x)) (upd h (ix x) v) := by
  unfold rsR rsF setE
  by_cases hx : inB x 0 3 = true
  · rw [if_pos hx]
    obtain ⟨i, hi, rfl⟩ := inB_nI (n := 3) (by decide) hx
    have e : ix (nI i) = i := ix_nI (by omega)
    have h4 : ¬ (4 : Int32) ≤ nI i := fun z => by have := (nI_leI (a := 4) (b := i) (by decide) (by omega)).mp z; omega
    have hz : (nI i = 0) = (i = 0) := propext ⟨fun z => (nI_eq (a := i) (b := 0) (by omega) (by decide)).mp z, fun z => by rw [z]; rfl⟩
    rw [if_neg (nI_pos (by omega)), if_neg (nI_pos (by omega)), if_neg h4, if_neg h4, e]
    simp only [hz]
    by_cases hv : inB v 1 (if i = 0 then 999 else 30) = true
    · rw [if_pos hv, if_pos hv, if_pos hv]
      have hv2 : ∃ a, 1 ≤ a ∧ a ≤ (if i = 0 then 999 else 30) ∧ v = nI a := by
        by_cases z : i = 0
        · rw [if_pos z] at hv ⊢; exact inB1_nI (n := 999) (by decide) hv
        · rw [if_neg z] at hv ⊢; exact inB1_nI (n := 30) (by decide) hv
      obtain ⟨a, ha, ea⟩ := Iv_get r.1 (show i < 4 by omega)
      refine Or.inl ⟨rfl, r.2 i (by omega), by rw [ea]; exact nI_pos' (by omega), Iv_set r.1 (by omega) hv2, ?_⟩
      rw [cn_low (f := h) (h := upd h i v) (upd_ne (by omega))]
      exact upd_Ro r (by omega)
    · rw [if_neg hv, if_neg hv, if_neg hv]
      exact Or.inr ⟨by decide, rfl, rfl⟩
  · rw [if_neg hx]
    have : x < 0 ∨ 4 ≤ x := by
      by_cases z : x < 0
      · exact Or.inl z
      · refine Or.inr (Int32.not_lt.mp fun z4 => hx (inB_t.mpr ⟨z, fun z3 => ?_⟩))
        rw [Int32.lt_iff_toInt_lt] at z3 z4
        rw [show (4 : Int32).toInt = 4 from by decide] at z4
        rw [show (3 : Int32).toInt = 3 from by decide] at z3
        omega
    rcases this with z | z
    · rw [if_pos z, if_pos z]; exact Or.inr ⟨by decide, rfl, rfl⟩
    · by_cases z0 : x < 0
      · rw [if_pos z0, if_pos z0]; exact Or.inr ⟨by decide, rfl, rfl⟩
      · rw [if_neg z0, if_neg z0, if_pos z, if_pos z]; exact Or.inr ⟨by decide, rfl, rfl⟩
/-! a clock is hung -/
theorem newC_lo {n : Nat} {H U D : Int32} {j : Nat} (hj : j < 12 + 8 * n) (h5 : j ≠ 5) : newC h n H U D j = h j := by
  unfold newC
  rw [upd_ne h5, upd_ne (by omega), upd_ne (by omega), upd_ne (by omega), upd_ne (by omega)]
  exact if_neg (by omega)
theorem newC_5 {n : Nat} {H U D : Int32} : newC h n H U D 5 = nI (n + 1) := by unfold newC; exact upd_self
theorem newC_w {n : Nat} {H U D : Int32} {w : Nat} (hw : w < 8) : newC h n H U D (12 + 8 * n + w) = begC f n H U D (12 + 8 * n + w) := by
  have h5 : 12 + 8 * n + w ≠ 5 := by omega
  unfold newC begC
  rw [upd_ne h5]
  rcases (show w = 0 ∨ w = 1 ∨ w = 2 ∨ w = 3 ∨ w = 4 ∨ w = 5 ∨ w = 6 ∨ w = 7 by omega) with rfl | rfl | rfl | rfl | rfl | rfl | rfl | rfl <;> simp [upd]
theorem begC_out {n : Nat} {H U D : Int32} {j : Nat} (hj : ¬ (12 + 8 * n ≤ j ∧ j < 12 + 8 * n + 8)) : begC f n H U D j = f j := by
  unfold begC
  iterate 8 rw [upd_ne (by omega)]
theorem hang_Mx {n : Nat} {H U D : Int32} (e : ∀ j, j < 12 + 8 * n → f j = h j) : upd (begC f n H U D) 5 (nI (n + 1)) = Mx (n + 1) (newC h n H U D) f := by
  funext j
  by_cases h5 : j = 5
  · subst h5; rw [upd_self, Mx_in (by omega), newC_5]
  rw [upd_ne h5]
  by_cases h1 : j < 12 + 8 * n
  · rw [Mx_in (by omega), newC_lo h1 h5, begC_out (by omega), e j h1]
  by_cases h2 : j < 12 + 8 * n + 8
  · obtain ⟨w, hw, rfl⟩ : ∃ w, w < 8 ∧ j = 12 + 8 * n + w := ⟨j - (12 + 8 * n), by omega, by omega⟩
    rw [Mx_in (by omega), newC_w hw]
  · rw [Mx_out (by omega), begC_out (by omega)]
theorem newC_Iv {H U D : Int32} (v : Iv h) (hn : cn h < 16) (hH : inB H 0 99 = true) (hU : inB U 0 30 = true) : Iv (newC h (cn h) H U D) ∧ cn (newC h (cn h) H U D) = cn h + 1 := by
  obtain ⟨T, hD, h4, W, S, vc⟩ := v
  have c5 : cn (newC h (cn h) H U D) = cn h + 1 := by
    show (newC h (cn h) H U D 5).toNatClampNeg = _
    rw [newC_5]; exact nI_clamp (by omega)
  have e6 : newC h (cn h) H U D 6 = h 6 := newC_lo (by omega) (by decide)
  have l6 := ln_low e6
  refine ⟨⟨T, hD, by rw [newC_lo (by omega) (by decide)]; exact h4, ⟨by rw [newC_5, c5], by rw [c5]; omega, by rw [e6, l6]; exact W.2.2.1, by rw [l6]; exact W.2.2.2⟩, ?_, fun c hc => ?_⟩, c5⟩
  · unfold IvS
    rw [l6, newC_lo (by omega) (by decide), newC_lo (by omega) (by decide), newC_lo (by omega) (by decide), newC_lo (by omega) (by decide)]
    refine ⟨S.1, S.2.1, S.2.2.1, S.2.2.2.1, fun j hj => ?_⟩
    have := W.2.2.2
    rw [newC_lo (by omega) (by omega)]; exact S.2.2.2.2 j hj
  · rw [c5] at hc
    by_cases z : c < cn h
    · exact (vc c z).congr (fun w hw => newC_lo (by omega) (by omega))
    · rw [show c = cn h by omega]
      have g := fun (w : Nat) (hw : w < 8) => newC_w (f := h) (h := h) (n := cn h) (H := H) (U := U) (D := D) hw
      unfold IvC
      rw [g 0 (by decide), g 1 (by decide), g 3 (by decide), g 5 (by decide), g 6 (by decide)]
      obtain ⟨a, ha, ea⟩ := inB_nI (n := 99) (by decide) hH
      obtain ⟨b, hb, eb⟩ := inB_nI (n := 30) (by decide) hU
      refine ⟨⟨a, ha, ?_⟩, ⟨b, hb, ?_⟩, ?_, ⟨0, Nat.zero_le _, ?_⟩, Or.inl ?_⟩
      · rw [← ea]; simp [begC, upd]
      · rw [← eb]; simp [begC, upd]
      · simp [begC, upd, inB]
      · simp [begC, upd]; rfl
      · simp [begC, upd]
theorem Cg_hang (r : Ro f h) (H U D : Int32) : Cg f (acR f H U D) (acF f H U D) (hangR h H U D) (nI (cn h)) (newC h (cn h) H U D) := by
  have h16 := r.1.W.2.1
  unfold acR acF hangR
  rw [r.ec]
  by_cases h1 : inB H 0 99 = true
  · rw [if_pos h1, if_pos h1, if_pos h1]
    by_cases h2 : inB U 0 30 = true
    · rw [if_pos h2, if_pos h2, if_pos h2]
      by_cases h3 : inB D (-99) 99 = true
      · rw [if_pos h3, if_pos h3, if_pos h3]
        by_cases h4 : cn h < 16
        · rw [if_pos h4, if_pos h4, if_neg (by omega)]
          obtain ⟨v, c5⟩ := newC_Iv (D := D) r.1 h4 h1 h2
          refine Or.inl ⟨rfl, rfl, nI_pos' (by omega), v, ?_⟩
          rw [c5]; exact hang_Mx r.2
        · rw [if_neg h4, if_neg h4, if_pos (by omega)]; exact Or.inr ⟨by decide, rfl, rfl⟩
      · rw [if_neg h3, if_neg h3, if_neg h3]; exact Or.inr ⟨by decide, rfl, rfl⟩
    · rw [if_neg h2, if_neg h2, if_neg h2]; exact Or.inr ⟨by decide, rfl, rfl⟩
  · rw [if_neg h1, if_neg h1, if_neg h1]; exact Or.inr ⟨by decide, rfl, rfl⟩
/-! a ladder -/
theorem lad_Iv {u : Int32} (v : Iv h) (hl : ln h < 4) (hu : inB u 1 30 = true) : Iv (upd (upd h (8 + ln h) u) 6 (nI (ln h + 1))) ∧ cn (upd (upd h (8 + ln h) u) 6 (nI (ln h + 1))) = cn h := by
  obtain ⟨T, hD, h4, W, S, vc⟩ := v
  have o : ∀ j, j ≠ 6 → j ≠ 8 + ln h → upd (upd h (8 + ln h) u) 6 (nI (ln h + 1)) j = h j := fun j a b => by rw [upd_ne a, upd_ne b]
  have c5 := cn_low (o 5 (by decide) (by omega))
  have e6 : upd (upd h (8 + ln h) u) 6 (nI (ln h + 1)) 6 = nI (ln h + 1) := upd_self
  have l6 : ln (upd (upd h (8 + ln h) u) 6 (nI (ln h + 1))) = ln h + 1 := by
    show (upd (upd h (8 + ln h) u) 6 (nI (ln h + 1)) 6).toNatClampNeg = _
    rw [e6]; exact nI_clamp (by omega)
  refine ⟨⟨T, hD, by rw [o 4 (by decide) (by omega)]; exact h4, ⟨by rw [o 5 (by decide) (by omega), c5]; exact W.1, by rw [c5]; exact W.2.1, by rw [e6, l6], by rw [l6]; omega⟩, ?_, fun c hc => ?_⟩, c5⟩
  · unfold IvS
    rw [l6, o 0 (by decide) (by omega), o 1 (by decide) (by omega), o 2 (by decide) (by omega), o 3 (by decide) (by omega)]
    refine ⟨S.1, S.2.1, S.2.2.1, S.2.2.2.1, fun j hj => ?_⟩
    by_cases z : j = ln h
    · subst z
      rw [upd_ne (by omega), upd_self]
      exact inB1_nI (n := 30) (by decide) hu
    · rw [o (8 + j) (by omega) (by omega)]; exact S.2.2.2.2 j (by omega)
  · rw [c5] at hc
    exact (vc c hc).congr (fun w hw => o _ (by omega) (by omega))
theorem Cg_lad (r : Ro f h) (u : Int32) : Cg f (alR f u) (alF f u) (lddR h u) (nI (ln h)) (upd (upd h (8 + ln h) u) 6 (nI (ln h + 1))) := by
  have h4 := r.1.W.2.2.2
  unfold alR alF lddR
  rw [Ro_ln r]
  by_cases h1 : inB u 1 30 = true
  · rw [if_pos h1, if_pos h1, if_pos h1]
    by_cases h2 : ln h < 4
    · rw [if_pos h2, if_pos h2, if_neg (by omega)]
      obtain ⟨v, c5⟩ := lad_Iv r.1 h2 h1
      refine Or.inl ⟨rfl, rfl, nI_pos' (by omega), v, ?_⟩
      rw [c5, upd_Ro r (by omega), Mx_upd (by omega)]
    · rw [if_neg h2, if_neg h2, if_pos (by omega)]; exact Or.inr ⟨by decide, rfl, rfl⟩
  · rw [if_neg h1, if_neg h1, if_neg h1]; exact Or.inr ⟨by decide, rfl, rfl⟩
/-! a screw -/
theorem scr_Iv {i : Nat} {x : Int32} (v : Iv h) (hi : i < cn h) (hx : inB x (-20) 20 = true) : Iv (upd h (12 + 8 * i + 3) x) := by
  obtain ⟨T, hD, h4, W, S, vc⟩ := v
  have lo : ∀ j, j < 12 → upd h (12 + 8 * i + 3) x j = h j := fun j hj => upd_ne (by omega)
  refine ⟨T, hD, by rw [lo 4 (by decide)]; exact h4, W.low (lo 5 (by decide)) (lo 6 (by decide)), S.congr W.2.2.2 lo, fun c hc => ?_⟩
  rw [cn_low (lo 5 (by decide))] at hc
  by_cases z : c = i
  · subst z
    obtain ⟨v0, v1, v3, v5, v6⟩ := vc c hc
    unfold IvC
    rw [upd_ne (by omega), upd_ne (by omega), upd_self, upd_ne (by omega), upd_ne (by omega), upd_ne (by omega)]
    exact ⟨v0, v1, hx, v5, v6⟩
  · exact (vc c hc).congr (fun w hw => upd_ne (by omega))
theorem Cg_scr (r : Ro f h) (x t : Int32) : Cg f (tsR f x t) (tsF f x t) (scE h x t) (h (12 + 8 * ix x + 3) + t + 20) (upd h (12 + 8 * ix x + 3) (h (12 + 8 * ix x + 3) + t)) := by
  unfold tsR tsF scE
  rw [Ro_isC r]
  by_cases h1 : isCb h x = true
  · obtain ⟨i, hi, rfl⟩ := (isC_iff r.1.W x).mp h1
    have h16 := r.1.W.2.1
    rw [if_pos h1, if_pos h1, if_pos h1, ix_nI (by omega), r.2 (12 + 8 * i + 3) (by omega)]
    by_cases h2 : inB t (-20) 20 = true
    · rw [if_pos h2, if_pos h2, if_pos h2]
      by_cases h3 : inB (h (12 + 8 * i + 3) + t) (-20) 20 = true
      · rw [if_pos h3, if_pos h3, if_pos h3]
        refine Or.inl ⟨rfl, rfl, ?_, scr_Iv r.1 hi h3, ?_⟩
        · obtain ⟨k, hk, e⟩ := scr_ex h3
          rw [e, Int32.sub_add_cancel]; exact nI_pos' (by omega)
        · rw [cn_low (upd_ne (by omega))]; exact upd_Ro r (by omega)
      · rw [if_neg h3, if_neg h3, if_neg h3]; exact Or.inr ⟨by decide, rfl, rfl⟩
    · rw [if_neg h2, if_neg h2, if_neg h2]; exact Or.inr ⟨by decide, rfl, rfl⟩
  · rw [if_neg h1, if_neg h1, if_neg h1]; exact Or.inr ⟨by decide, rfl, rfl⟩
/-! days -/
theorem Cg_pass (r : Ro f h) (m : Int32) : Cg f (psR f m) (psF f m) (passR h m) (stV (pasF h (ix m))) (pasF h (ix m)) := by
  obtain ⟨T, hD, h4, W, S, vc⟩ := r.1
  have h16 := W.2.1
  unfold psR psF passR
  rw [r.ec, r.2 4 (by omega)]
  by_cases h1 : inB m 1 99 = true
  · rw [if_pos h1, if_pos h1, if_pos h1]
    obtain ⟨i, hi1, hi2, rfl⟩ := inB1_nI (n := 99) (by decide) h1
    by_cases h2 : h 4 + nI i ≤ 9999
    · rw [if_pos h2, if_pos h2, if_pos h2, ix_nI (by omega)]
      have h2' : T + i ≤ 9999 := by
        rw [h4, nI_add] at h2
        exact (nI_leI (a := T + i) (b := 9999) (by omega) (by decide)).mp h2
      obtain ⟨d1, d2⟩ := dcD_Mx (f := f) W vc i
      have lo := fun j (hj : j < 12) => passD_lo h i hj
      have lo2 : ∀ j, j < 12 → j ≠ 4 → pasF h i j = h j := fun j hj hne => by unfold pasF; rw [upd_ne hne]; exact lo j hj
      have c5 := cn_low (lo2 5 (by decide) (by decide))
      have ic : ∀ c, c < cn h → IvC (pasF h i) (T + i) c := fun c hc => (d2 c hc).congr (fun w hw => by unfold pasF; exact upd_ne (by omega))
      have v : Iv (pasF h i) := by
        refine ⟨T + i, h2', ?_, W.low (lo2 5 (by decide) (by decide)) (lo2 6 (by decide) (by decide)), ?_, fun c hc => ic c (by rw [c5] at hc; exact hc)⟩
        · unfold pasF; rw [upd_self, h4, nI_add]
        · unfold IvS
          rw [ln_low (lo2 6 (by decide) (by decide)), lo2 0 (by decide) (by decide), lo2 1 (by decide) (by decide), lo2 2 (by decide) (by decide), lo2 3 (by decide) (by decide)]
          refine ⟨S.1, S.2.1, S.2.2.1, S.2.2.2.1, fun j hj => ?_⟩
          have := W.2.2.2
          rw [lo2 (8 + j) (by omega) (by omega)]; exact S.2.2.2.2 j hj
      have e1 : psW f (nI i) = Mx (cn h) (pasF h i) f := by
        unfold psW pasF
        rw [r.ec, r.2 4 (by omega), r.2 1 (by omega), ix_nI (by omega)]
        conv => lhs; rw [r.mx]
        rw [d1, Mx_upd (by omega)]
      have g : ∀ c, c < cn (pasF h i) → GoO (pasF h i) c := fun c hc => (ic c (by rw [c5] at hc; exact hc)).go
      have hs := stV_go v.W g
      refine Or.inl ⟨rfl, ?_, ?_, v, by rw [c5]; exact e1⟩
      · rw [e1, goN_Mx _ (Nat.le_refl _), hs, c5]
      · rw [hs, c5]; exact nI_pos' (by omega)
    · rw [if_neg h2, if_neg h2, if_neg h2]; exact Or.inr ⟨by decide, rfl, rfl⟩
  · rw [if_neg h1, if_neg h1, if_neg h1]; exact Or.inr ⟨by decide, rfl, rfl⟩
/-! the change -/
theorem Cg_chg (r : Ro f h) (x : Int32) : Cg f (ccR f x) (ccF f x) (chE x) (nI (cn h) - stV (chgA h x (cn h))) (chgA h x (cn h)) := by
  obtain ⟨T, hD, h4, W, S, vc⟩ := r.1
  have h16 := W.2.1
  have v := chgA_Iv x r.1
  have c5 : cn (chgA h x (cn h)) = cn h := cn_low (chgA_lo h x (cn h) (by decide))
  have hs := stV_go v.W (by rw [c5]; exact chgA_st x (cn h) (fun c hc => (vc c hc).go))
  rw [c5] at hs
  have hg := goN_le (chgA h x (cn h)) (cn h)
  have e : nI (cn h) - stV (chgA h x (cn h)) = nI (goN (chgA h x (cn h)) (cn h)) := by
    rw [hs, pk_sub (by omega), show cn h - (cn h - goN (chgA h x (cn h)) (cn h)) = goN (chgA h x (cn h)) (cn h) by omega]
  have key := chC_Mx (n := cn h) (h := h) (f := f) x (cn h) (Nat.le_refl _)
  rw [← r.mx] at key
  rw [e]
  unfold ccR ccF chE
  rw [r.ec]
  by_cases h0 : x = 0
  · subst h0
    rw [if_neg (by decide)] at key
    rw [if_pos rfl, if_pos rfl, if_pos (by decide), key]
    exact Or.inl ⟨rfl, by rw [goN_Mx _ (Nat.le_refl _)], nI_pos' (by omega), v, by rw [c5]⟩
  · rw [if_neg h0, if_neg h0]
    by_cases h1 : x = 1
    · subst h1
      rw [if_pos rfl] at key
      rw [if_pos rfl, if_pos rfl, if_pos (by decide), key]
      exact Or.inl ⟨rfl, by rw [goN_Mx _ (Nat.le_refl _)], nI_pos' (by omega), v, by rw [c5]⟩
    · rw [if_neg h1, if_neg h1, if_neg (fun z => by
        obtain ⟨i, hi, ei⟩ := inB_nI (n := 1) (by decide) z
        rcases (show i = 0 ∨ i = 1 by omega) with rfl | rfl
        · exact h0 ei
        · exact h1 ei)]
      exact Or.inr ⟨by decide, rfl, rfl⟩
end R4
