/-! a beat of a set: how far, how many are wound, what it leaves -/
abbrev bt (x : Int32) (c : Nat) : Prop := (x >>> (nI c &&& 31)) &&& 1 = 1
def fmN (f : Nat → Int32) (x : Int32) : Nat → Nat
  | 0 => 0
  | c + 1 => if bt x c then max (fmN f x c) (ix (f (12 + 8 * c + 0))) else fmN f x c
def wrN (f : Nat → Int32) (x : Int32) : Nat → Nat
  | 0 => 0
  | c + 1 => if bt x c then (if canW f c = true then wrN f x c + 1 else wrN f x c) else wrN f x c
def wbC (f : Nat → Int32) (x : Int32) : Nat → Nat → Int32
  | 0 => f
  | c + 1 => if bt x c then (if canW f c = true then winC (wbC f x c) c (f 0) else wbC f x c) else wbC f x c
theorem wrN_le (f : Nat → Int32) (x : Int32) (c : Nat) : wrN f x c ≤ c := by
  induction c with
  | zero => exact Nat.le_refl _
  | succ c ih =>
    unfold wrN
    split
    · split <;> omega
    · omega
theorem ch_any (x : Int32) (w w' : Nat → Int32) (k : Nat) : ∀ j, j < chL x k → chW w x k j = chW w' x k j := fun j hj =>
  ((ch_lo x 0 w (fun _ => 0) k).2 j hj).trans ((ch_lo x 0 w' (fun _ => 0) k).2 j hj).symm
theorem chW_s {w : Nat → Int32} {x : Int32} {c : Nat} (h : bt x c) : chW w x (c + 1) = upd (chW w x c) (chL x c) (nI c) ∧ chL x (c + 1) = chL x c + 1 := by
  constructor
  · show (if (x >>> (nI c &&& 31)) &&& 1 = 1 then _ else _) = _; rw [if_pos h]
  · show (if (x >>> (nI c &&& 31)) &&& 1 = 1 then _ else _) = _; rw [if_pos h]
theorem chW_n {w : Nat → Int32} {x : Int32} {c : Nat} (h : ¬ bt x c) : chW w x (c + 1) = chW w x c ∧ chL x (c + 1) = chL x c := by
  constructor
  · show (if (x >>> (nI c &&& 31)) &&& 1 = 1 then _ else _) = _; rw [if_neg h]
  · show (if (x >>> (nI c &&& 31)) &&& 1 = 1 then _ else _) = _; rw [if_neg h]
theorem upd_lt {w : Nat → Int32} {L : Nat} {y : Int32} : ∀ j, j < L → upd w L y j = w j := fun j hj => upd_ne (by omega)
theorem wy_spec {f : Nat → Int32} (v : Iv f) (x : Int32) (w : Nat → Int32) : ∀ c, c ≤ cn f → wkN f (chW w x c) (chL x c) = wrN f x c ∧ ∃ A b, spN f (chW w x c) (chL x c) = nI A ∧ hrN f (chW w x c) (chL x c) = nI b ∧ b ≤ 99 ∧ A ≤ 300 * c ∧ b ≤ fmN f x c ∧ 2 * fmN f x c ≤ A + b := by
  obtain ⟨D, hD, h4, W, S, vc⟩ := id v
  intro c
  induction c with
  | zero => intro _; exact ⟨rfl, 0, 0, rfl, rfl, by omega, by omega, Nat.le_refl _, Nat.le_refl _⟩
  | succ c ih =>
    intro hc
    obtain ⟨i0, A, b, i1, i2, i3, i4, i5, i6⟩ := ih (by omega)
    by_cases h : bt x c
    · obtain ⟨e1, e2⟩ := chW_s (w := w) h
      obtain ⟨a, ha, ea⟩ := (vc c (by omega)).1
      have l16 := W.2.1
      have eL : ix (upd (chW w x c) (chL x c) (nI c) (chL x c)) = c := by rw [upd_self]; exact ix_nI (by omega)
      have s1 := (spN_cong (f := f) (w := upd (chW w x c) (chL x c) (nI c)) (w2 := chW w x c) (chL x c) upd_lt).trans i1
      have s2 := (hrN_cong (f := f) (w := upd (chW w x c) (chL x c) (nI c)) (w2 := chW w x c) (chL x c) upd_lt).trans i2
      have s3 := (wkN_cong (f := f) (w := upd (chW w x c) (chL x c) (nI c)) (w2 := chW w x c) (chL x c) upd_lt).trans i0
      obtain ⟨B, hB, d1, d2, d3⟩ : ∃ B, B ≤ 99 ∧ jabs (nI a - nI b) = nI B ∧ b ≤ a + B ∧ a ≤ b + B := by
        by_cases z : b ≤ a
        · exact ⟨a - b, by omega, by rw [jabs_d (by omega) (by omega), if_pos z], by omega, by omega⟩
        · exact ⟨b - a, by omega, by rw [jabs_d (by omega) (by omega), if_neg z], by omega, by omega⟩
      have em : fmN f x (c + 1) = max (fmN f x c) a := by
        show (if bt x c then _ else _) = _
        rw [if_pos h, ea, ix_nI (by omega)]
      have hm : max (fmN f x c) a ≤ fmN f x c ∨ max (fmN f x c) a ≤ a := by omega
      have hm2 : fmN f x c ≤ max (fmN f x c) a ∧ a ≤ max (fmN f x c) a := by omega
      rw [e1, e2, em]
      refine ⟨?_, ?_⟩
      · rw [wkN_s, eL, s3]
        show _ = (if bt x c then _ else _)
        rw [if_pos h]
      · rw [spN_s, eL, s1, s2, ea, d1]
        have eh : hrN f (upd (chW w x c) (chL x c) (nI c)) (chL x c + 1) = nI a := by
          show f (12 + 8 * ix (upd (chW w x c) (chL x c) (nI c) (chL x c)) + 0) = _
          rw [eL]; exact ea
        rw [eh]
        split
        · exact ⟨A + B, a, nI_add _ _, rfl, by omega, by omega, by omega, by omega⟩
        · split
          · exact ⟨A + B, a, nI_add _ _, rfl, by omega, by omega, by omega, by omega⟩
          · exact ⟨A + B + 2 * a, a, by rw [show (2 : Int32) = nI 2 from rfl, pk_mul, nI_add, nI_add], rfl, by omega, by omega, by omega, by omega⟩
    · obtain ⟨e1, e2⟩ := chW_n (w := w) h
      rw [e1, e2]
      have em : fmN f x (c + 1) = fmN f x c := by show (if bt x c then _ else _) = _; rw [if_neg h]
      have ew : wrN f x (c + 1) = wrN f x c := by show (if bt x c then _ else _) = _; rw [if_neg h]
      rw [em, ew]
      exact ⟨i0, A, b, i1, i2, i3, by omega, i5, i6⟩
theorem mo_ge {f : Nat → Int32} (v : Iv f) (x : Int32) (w : Nat → Int32) {st wo : Nat} (e2 : f 2 = nI st) (e3 : f 3 = nI wo) (s30 : st ≤ 30) (w30 : wo ≤ 30) : ∃ t, t < 2 ^ 30 ∧ moN f (chW w x (cn f)) (chL x (cn f)) = nI t ∧ 2 * fmN f x (cn f) * st + wrN f x (cn f) * wo ≤ t ∧ 2 * fmN f x (cn f) * st + wrN f x (cn f) * wo < 2 ^ 30 := by
  obtain ⟨i0, A, b, i1, i2, i3, i4, i5, i6⟩ := wy_spec v x w (cn f) (Nat.le_refl _)
  have l16 := v.W.2.1
  have wl := wrN_le f x (cn f)
  have q1 : (A + b) * st ≤ 4899 * 30 := Nat.mul_le_mul (by omega) s30
  have q2 : wrN f x (cn f) * wo ≤ 16 * 30 := Nat.mul_le_mul (by omega) w30
  have q3 : 2 * fmN f x (cn f) * st ≤ (A + b) * st := Nat.mul_le_mul_right st (by omega)
  refine ⟨(A + b) * st + wrN f x (cn f) * wo, by omega, ?_, by omega, by omega⟩
  unfold moN
  rw [i0, i1, i2, e2, e3, nI_add, pk_mul, pk_mul, nI_add]
theorem canW_cg {f g : Nat → Int32} {c : Nat} (W : Wk f) (hl : ∀ j, j < 12 → j ≠ 7 → g j = f j) (hr : g (12 + 8 * c + 1) = f (12 + 8 * c + 1)) : canW g c = canW f c := by
  have l4 := W.2.2.2
  have el : ln g = ln f := ln_low (hl 6 (by decide) (by decide))
  have key : canW g c = true ↔ canW f c = true := by
    rw [canW_iff, canW_iff, hr, el]
    constructor
    · rintro (y | ⟨j, hj, y1, y2⟩)
      · exact Or.inl y
      · exact Or.inr ⟨j, hj, y1, by rw [← hl (8 + j) (by omega) (by omega)]; exact y2⟩
    · rintro (y | ⟨j, hj, y1, y2⟩)
      · exact Or.inl y
      · exact Or.inr ⟨j, hj, y1, by rw [hl (8 + j) (by omega) (by omega)]; exact y2⟩
  cases e : canW f c with
  | true => exact key.mpr e
  | false =>
    cases e2 : canW g c with
    | false => rfl
    | true => rw [key.mp e2] at e; cases e
theorem wb_eq {f : Nat → Int32} (W : Wk f) (x : Int32) (w : Nat → Int32) : ∀ c, c ≤ cn f → wbN f (chW w x c) (chL x c) = wbC f x c := by
  have l16 := W.2.1
  intro c
  induction c with
  | zero => intro _; rfl
  | succ c ih =>
    intro hc
    have i := ih (by omega)
    by_cases h : bt x c
    · obtain ⟨e1, e2⟩ := chW_s (w := w) h
      have eL : ix (upd (chW w x c) (chL x c) (nI c) (chL x c)) = c := by rw [upd_self]; exact ix_nI (by omega)
      have s1 := (wbN_cong (f := f) (w := upd (chW w x c) (chL x c) (nI c)) (w2 := chW w x c) (chL x c) upd_lt).trans i
      have ec : canW (wbC f x c) c = canW f c := by
        rw [← i]
        exact canW_cg W (fun j hj _ => wbN_low _ _ _ hj) (wbN_rungs _ _ _ _)
      rw [e1, e2]
      show (if canW (wbN f _ (chL x c)) (ix (upd (chW w x c) (chL x c) (nI c) (chL x c))) = true then winC (wbN f _ (chL x c)) (ix (upd (chW w x c) (chL x c) (nI c) (chL x c))) (f 0) else wbN f _ (chL x c)) = (if bt x c then _ else _)
      rw [eL, s1, ec, if_pos h]
    · obtain ⟨e1, e2⟩ := chW_n (w := w) h
      rw [e1, e2, i]
      show _ = (if bt x c then _ else _)
      rw [if_neg h]
theorem turC_ot {h : Nat → Int32} {k i w : Nat} (hw : w < 8) (hn : i ≠ k ∨ w ≠ 3) : turC h k (12 + 8 * i + w) = h (12 + 8 * i + w) := by
  unfold turC
  split
  · split
    · rfl
    · split
      · rfl
      · rw [upd_ne (by omega)]
  · split
    · split
      · rfl
      · split
        · rfl
        · rw [upd_ne (by omega)]
    · rw [upd_ne (by omega)]
theorem setC_ot {h : Nat → Int32} {k i w : Nat} (hw : w < 8) (hn : i ≠ k) : setC h k (12 + 8 * i + w) = h (12 + 8 * i + w) := by
  unfold setC
  rw [upd_ne (by omega), upd_ne (by omega), upd_ne (by omega), upd_ne (by omega)]
theorem winC_ot {h : Nat → Int32} {k i w : Nat} {t : Int32} (hw : w < 8) (hn : i ≠ k) : winC h k t (12 + 8 * i + w) = h (12 + 8 * i + w) := by
  unfold winC
  split
  · exact setC_ot hw hn
  · split
    · rw [setC_ot hw hn, turC_ot hw (Or.inl hn)]
    · exact setC_ot hw hn
theorem setC_do {h : Nat → Int32} {k : Nat} : setC h k (12 + 8 * k + 6) = 1 ∧ setC h k (12 + 8 * k + 4) = 0 ∧ setC h k (12 + 8 * k + 5) = 0 ∧ setC h k (12 + 8 * k + 7) = h (12 + 8 * k + 7) + 1 := by
  unfold setC
  refine ⟨?_, ?_, ?_, upd_self⟩
  · rw [upd_ne (by omega), upd_ne (by omega), upd_ne (by omega), upd_self]
  · rw [upd_ne (by omega), upd_ne (by omega), upd_self]
  · rw [upd_ne (by omega), upd_self]
theorem winC_do {h : Nat → Int32} {k : Nat} {t : Int32} : winC h k t (12 + 8 * k + 6) = 1 ∧ winC h k t (12 + 8 * k + 4) = 0 ∧ winC h k t (12 + 8 * k + 5) = 0 ∧ winC h k t (12 + 8 * k + 7) = h (12 + 8 * k + 7) + 1 := by
  unfold winC
  split
  · exact setC_do
  · split
    · have := setC_do (h := turC h k) (k := k)
      rw [turC_ot (i := k) (w := 7) (by decide) (Or.inr (by decide))] at this; exact this
    · exact setC_do
theorem wb7 {f : Nat → Int32} {x : Int32} : ∀ c i, wbC f x c (12 + 8 * i + 7) = f (12 + 8 * i + 7) + (if i < c ∧ bt x i ∧ canW f i = true then 1 else 0) := by
  intro c
  induction c with
  | zero => intro i; rw [if_neg (fun z => absurd z.1 (Nat.not_lt_zero _)), Int32.add_zero]; rfl
  | succ c ih =>
    intro i
    show (if bt x c then (if canW f c = true then winC (wbC f x c) c (f 0) else wbC f x c) else wbC f x c) (12 + 8 * i + 7) = _
    by_cases q : i = c
    · subst q
      by_cases h : bt x i
      · by_cases k : canW f i = true
        · rw [if_pos h, if_pos k, winC_do.2.2.2, ih, if_neg (fun z => absurd z.1 (Nat.lt_irrefl _)), Int32.add_zero, if_pos ⟨by omega, h, k⟩]
        · rw [if_pos h, if_neg k, ih, if_neg (fun z => k z.2.2), if_neg (fun z => k z.2.2)]
      · rw [if_neg h, ih, if_neg (fun z => h z.2.1), if_neg (fun z => h z.2.1)]
    · have e : (if i < c + 1 ∧ bt x i ∧ canW f i = true then (1 : Int32) else 0) = (if i < c ∧ bt x i ∧ canW f i = true then 1 else 0) := by
        by_cases y : i < c ∧ bt x i ∧ canW f i = true
        · rw [if_pos y, if_pos ⟨by omega, y.2⟩]
        · rw [if_neg y, if_neg (fun z => y ⟨by omega, z.2⟩)]
      rw [e, ← ih i]
      by_cases h : bt x c
      · by_cases k : canW f c = true
        · rw [if_pos h, if_pos k, winC_ot (by decide) q]
        · rw [if_pos h, if_neg k]
      · rw [if_neg h]
theorem wb_do {f : Nat → Int32} {x : Int32} {i : Nat} (h : bt x i) (k : canW f i = true) : ∀ c, i < c → wbC f x c (12 + 8 * i + 6) = 1 ∧ wbC f x c (12 + 8 * i + 4) = 0 ∧ wbC f x c (12 + 8 * i + 5) = 0 := by
  intro c
  induction c with
  | zero => intro z; exact absurd z (Nat.not_lt_zero _)
  | succ c ih =>
    intro hc
    have e : wbC f x (c + 1) = (if bt x c then (if canW f c = true then winC (wbC f x c) c (f 0) else wbC f x c) else wbC f x c) := rfl
    rw [e]
    by_cases q : i = c
    · subst q
      rw [if_pos h, if_pos k]
      obtain ⟨a, b, d, _⟩ := winC_do (h := wbC f x i) (k := i) (t := f 0)
      exact ⟨a, b, d⟩
    · have i3 := ih (by omega)
      by_cases h2 : bt x c
      · by_cases k2 : canW f c = true
        · rw [if_pos h2, if_pos k2, winC_ot (by decide) q, winC_ot (by decide) q, winC_ot (by decide) q]; exact i3
        · rw [if_pos h2, if_neg k2]; exact i3
      · rw [if_neg h2]; exact i3
theorem tw_wb {f g : Nat → Int32} {x : Int32} {n : Nat} (e : ∀ i, i < n → g (12 + 8 * i + 7) = wbC f x n (12 + 8 * i + 7)) : ∀ k, k ≤ n → twN g k = twN f k + nI (wrN f x k) := by
  intro k
  induction k with
  | zero => intro _; rfl
  | succ k ih =>
    intro hk
    show twN g k + g (12 + 8 * k + 7) = twN f k + f (12 + 8 * k + 7) + nI (if bt x k then (if canW f k = true then wrN f x k + 1 else wrN f x k) else wrN f x k)
    rw [ih (by omega), e k (by omega), wb7]
    by_cases h : bt x k
    · by_cases y : canW f k = true
      · rw [if_pos ⟨by omega, h, y⟩, if_pos h, if_pos y, nI_succ]
        ac_rfl
      · rw [if_neg (fun z => y z.2.2), if_pos h, if_neg y, Int32.add_zero]
        ac_rfl
    · rw [if_neg (fun z => h z.2.1), if_neg h, Int32.add_zero]
      ac_rfl
/-- all that a beat of a set leaves -/
def BW (f : Nat → Int32) (x : Int32) (F : Nat → Int32) (t : Nat) : Prop := cn F = cn f ∧ F 7 = f 7 + nI t ∧ F 2 = f 2 ∧ F 3 = f 3 ∧ (∀ c, c < cn f → canW F c = canW f c) ∧ (∀ c, c < cn f → bt x c → canW f c = true → F (12 + 8 * c + 6) = 1 ∧ F (12 + 8 * c + 4) = 0 ∧ F (12 + 8 * c + 5) = 0) ∧ twN F (cn f) = twN f (cn f) + nI (wrN f x (cn f))
theorem bw_all {f : Nat → Int32} (v : Iv f) (x : Int32) (w : Nat → Int32) {t : Nat} (ht : t < 2 ^ 30) (e : moN f (chW w x (cn f)) (chL x (cn f)) = nI t) : bwR f (chW w x (cn f)) (chL x (cn f)) = nI t ∧ BW f x (bwF f (chW w x (cn f)) (chL x (cn f))) t := by
  have gb := (gdB_t f _ _).mpr (chW_gd v.W w x)
  unfold bwR bwF
  rw [if_pos gb, if_pos gb, e, if_pos (nI_pos' (by omega)), wb_eq v.W x w _ (Nat.le_refl _)]
  have lo : ∀ j, j < 12 → wbC f x (cn f) j = f j := fun j hj => by rw [← wb_eq v.W x w _ (Nat.le_refl _)]; exact wbN_low _ _ _ hj
  have ru : ∀ c, wbC f x (cn f) (12 + 8 * c + 1) = f (12 + 8 * c + 1) := fun c => by rw [← wb_eq v.W x w _ (Nat.le_refl _)]; exact wbN_rungs _ _ _ _
  refine ⟨rfl, cn_low (by rw [upd_ne (by decide)]; exact lo 5 (by decide)), upd_self, by rw [upd_ne (by decide)]; exact lo 2 (by decide), by rw [upd_ne (by decide)]; exact lo 3 (by decide), fun c hc => ?_, fun c hc h k => ?_, ?_⟩
  · exact canW_cg v.W (fun j hj h7 => by rw [upd_ne h7]; exact lo j hj) (by rw [upd_ne (by omega)]; exact ru c)
  · rw [upd_ne (by omega), upd_ne (by omega), upd_ne (by omega)]
    exact wb_do h k _ hc
  · exact tw_wb (fun i hi => by rw [upd_ne (by omega)]) _ (Nat.le_refl _)
theorem way_1 {f w : Nat → Int32} : wayC (moN f w 1) (moN f (trN w 1 (1 / 2)) 1) = 2 := by
  show wayC (moN f w 1) (moN f w 1) = 2
  unfold wayC; rw [if_pos rfl]
theorem way_3 (a b : Int32) : ∃ t, t < 3 ∧ wayC a b = nI t := by
  unfold wayC
  split
  · exact ⟨2, by decide, rfl⟩
  · split
    · exact ⟨1, by decide, rfl⟩
    · exact ⟨0, by decide, rfl⟩
