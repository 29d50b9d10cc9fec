/-! the relation, fifth: beats -/
section R5
variable {f h : Nat → Int32}
theorem gdN_at {w : Nat → Int32} {L k : Nat} (W : Wk h) (g : gdN h w L) (hk : k < L) : ∃ i, i < cn h ∧ w k = nI i ∧ ix (w k) = i := by
  obtain ⟨i, hi, e⟩ := (isC_iff W _).mp (g k hk)
  have := W.2.1
  exact ⟨i, hi, e, by rw [e]; exact ix_nI (by omega)⟩
theorem gdN_lt {w : Nat → Int32} {L k : Nat} (g : gdN h w L) (hk : k ≤ L) : gdN h w k := fun i hi => g i (by omega)
theorem goF_s (w : Nat → Int32) (k : Nat) : goF h w (k + 1) = if canW (goF h w k) (ix (w k)) = true then workM (goF h w k) (ix (w k)) else goF h w k := rfl
theorem wbN_Mx {D : Nat} {w : Nat → Int32} (W : Wk h) (v : ∀ c, c < cn h → IvC h D c) (h0 : f 0 = h 0) : ∀ k, gdN h w k → (wbN (Mx (cn h) h f) w k = Mx (cn h) (goF h w k) f) ∧ ∀ c, c < cn h → IvC (goF h w k) D c := by
  intro k
  induction k with
  | zero => intro _; exact ⟨rfl, v⟩
  | succ k ih =>
    intro g
    obtain ⟨i1, i2⟩ := ih (gdN_lt g (by omega))
    obtain ⟨i, hi, e, ei⟩ := gdN_at W g (show k < k + 1 by omega)
    have lo : ∀ j, j < 12 → goF h w k j = h j := fun j hj => goF_lo h w k hj
    have l4 : ln (goF h w k) ≤ 4 := by rw [ln_low (lo 6 (by decide))]; exact W.2.2.2
    unfold wbN
    rw [goF_s, i1, ei, canW_Mx hi l4, Mx_in (show 0 < 12 + 8 * cn h by omega)]
    by_cases z : canW (goF h w k) i = true
    · rw [if_pos z, if_pos z]
      refine ⟨?_, fun c hc => ?_⟩
      · rw [winC_Mx hi, ← lo 0 (by decide), winC_M (i2 i hi).go (i2 i hi).2.2.1]
      · by_cases zc : c = i
        · subst zc; exact workM_IvC (i2 c hc)
        · exact (i2 c hc).congr (fun w hw => workM_ot hw zc)
    · rw [if_neg z, if_neg z]; exact ⟨rfl, i2⟩
theorem miS_s (w : Nat → Int32) (k : Nat) : miS h w (k + 1) = (if canW h (ix (w k)) = true then ((miS h w k).1 + jabs ((miS h w k).2.1 - h (12 + 8 * ix (w k) + 0)) * h 2 + h 3 + (if o2i (ladF h (ix (w k))) = -6 ∨ o2i (ladF h (ix (w k))) = (miS h w k).2.2 then 0 else 2 * (jabs (h (12 + 8 * ix (w k) + 0) - 0) * h 2)), h (12 + 8 * ix (w k) + 0), if o2i (ladF h (ix (w k))) = -6 then (miS h w k).2.2 else o2i (ladF h (ix (w k)))) else ((miS h w k).1 + jabs ((miS h w k).2.1 - h (12 + 8 * ix (w k) + 0)) * h 2, h (12 + 8 * ix (w k) + 0), (miS h w k).2.2)) := rfl
theorem jabs_d {a b : Nat} (ha : a < 2 ^ 30) (hb : b < 2 ^ 30) : jabs (nI a - nI b) = nI (if b ≤ a then a - b else b - a) := by
  unfold jabs
  by_cases z : b ≤ a
  · rw [if_pos z, pk_sub z, if_pos (nI_pos' (by omega))]
  · rw [if_neg z, if_neg (fun q => absurd (pk_sneg (a := a) (b := b) hb (by omega)) (Int32.not_lt.mpr q)), Int32.neg_sub, pk_sub (by omega)]
theorem canW_no {c : Nat} (z : ¬ canW h c = true) : o2i (ladF h c) = -6 := by
  unfold canW at z
  cases e : ladF h c with
  | none => rfl
  | some k => rw [e] at z; exact absurd (by simp) z
theorem spN_s (w : Nat → Int32) (n : Nat) : spN f w (n + 1) = if ndN f w n = -6 then spN f w n + jabs (f (12 + 8 * ix (w n) + 0) - hrN f w n) else if ndN f w n = caN f w n then spN f w n + jabs (f (12 + 8 * ix (w n) + 0) - hrN f w n) else spN f w n + jabs (f (12 + 8 * ix (w n) + 0) - hrN f w n) + 2 * f (12 + 8 * ix (w n) + 0) := rfl
theorem caN_s (w : Nat → Int32) (n : Nat) : caN f w (n + 1) = if ndN f w n = -6 then caN f w n else if ndN f w n = caN f w n then caN f w n else ndN f w n := rfl
theorem wkN_s (w : Nat → Int32) (n : Nat) : wkN f w (n + 1) = if canW f (ix (w n)) = true then wkN f w n + 1 else wkN f w n := rfl
theorem mo_mi (r : Ro f h) {w : Nat → Int32} {st wo : Nat} (e2 : h 2 = nI st) (e3 : h 3 = nI wo) : ∀ k, gdN h w k → ∃ A b, A ≤ 300 * k ∧ b ≤ 99 ∧ spN f w k = nI A ∧ hrN f w k = nI b ∧ (miS h w k).2.1 = nI b ∧ (miS h w k).2.2 = caN f w k ∧ (miS h w k).1 = nI (A * st + wkN f w k * wo) := by
  intro k
  induction k with
  | zero => intro _; exact ⟨0, 0, by omega, by omega, rfl, rfl, rfl, rfl, by rw [Nat.zero_mul, show wkN f w 0 = 0 from rfl, Nat.zero_mul]; rfl⟩
  | succ k ih =>
    intro g
    obtain ⟨A, b, hA, hb, i1, i2, i3, i4, i5⟩ := ih (gdN_lt g (by omega))
    obtain ⟨i, hi, e, ei⟩ := gdN_at r.1.W g (show k < k + 1 by omega)
    obtain ⟨D, hD, h4, W, S, vc⟩ := id r.1
    obtain ⟨a, ha, ea⟩ := (vc i hi).1
    have efa : f (12 + 8 * i + 0) = nI a := by rw [r.2 _ (by omega)]; exact ea
    obtain ⟨B, hB, d1, d2⟩ : ∃ B, B ≤ 99 ∧ jabs (nI a - nI b) = nI B ∧ jabs (nI b - nI a) = nI B := by
      by_cases z : b ≤ a
      · refine ⟨a - b, by omega, ?_, ?_⟩
        · rw [jabs_d (by omega) (by omega), if_pos z]
        · rw [jabs_d (by omega) (by omega)]
          by_cases z2 : a ≤ b
          · rw [if_pos z2, show b - a = a - b by omega]
          · rw [if_neg z2]
      · refine ⟨b - a, by omega, ?_, ?_⟩
        · rw [jabs_d (by omega) (by omega), if_neg z]
        · rw [jabs_d (by omega) (by omega), if_pos (by omega)]
    have d3 : jabs (nI a - 0) = nI a := by
      rw [show (0 : Int32) = nI 0 from rfl, jabs_d (by omega) (by omega), if_pos (by omega)]; rfl
    have hn : hrN f w (k + 1) = nI a := by
      show f (12 + 8 * ix (w k) + 0) = _
      rw [ei]; exact efa
    have nd : ndN f w k = o2i (ladF h i) := by unfold ndN; rw [ei, Ro_lad r hi]
    have cw : canW f i = canW h i := Ro_can r hi
    rw [miS_s, hn]
    rw [spN_s, caN_s, wkN_s]
    rw [nd, ei, efa, ea, cw, i1, i2, i3, i4, i5, d1, d2, d3, e2, e3]
    by_cases z : canW h i = true
    · rw [if_pos z, if_pos z]
      by_cases y : o2i (ladF h i) = -6
      · rw [if_pos y, if_pos y, if_pos y, if_pos (Or.inl y)]
        refine ⟨A + B, a, by omega, by omega, nI_add _ _, rfl, rfl, rfl, ?_⟩
        show nI (A * st + wkN f w k * wo) + nI B * nI st + nI wo + 0 = _
        rw [Int32.add_zero, pk_mul, nI_add, nI_add]
        refine congrArg nI ?_
        simp only [Nat.add_mul, Nat.one_mul]; omega
      · rw [if_neg y, if_neg y, if_neg y]
        by_cases x : o2i (ladF h i) = caN f w k
        · rw [if_pos x, if_pos x, if_pos (Or.inr x)]
          refine ⟨A + B, a, by omega, by omega, nI_add _ _, rfl, rfl, x, ?_⟩
          show nI (A * st + wkN f w k * wo) + nI B * nI st + nI wo + 0 = _
          rw [Int32.add_zero, pk_mul, nI_add, nI_add]
          refine congrArg nI ?_
          simp only [Nat.add_mul, Nat.one_mul]; omega
        · rw [if_neg x, if_neg x, if_neg (fun q => q.elim y x)]
          refine ⟨A + B + 2 * a, a, by omega, by omega, ?_, rfl, rfl, rfl, ?_⟩
          · rw [show (2 : Int32) = nI 2 from rfl, pk_mul, nI_add, nI_add]
          · show nI (A * st + wkN f w k * wo) + nI B * nI st + nI wo + 2 * (nI a * nI st) = _
            rw [show (2 : Int32) = nI 2 from rfl, pk_mul, pk_mul, pk_mul, nI_add, nI_add, nI_add]
            refine congrArg nI ?_
            simp only [Nat.add_mul, Nat.one_mul, Nat.mul_assoc]; omega
    · rw [if_neg z, if_neg z]
      have y := canW_no z
      rw [if_pos y, if_pos y]
      refine ⟨A + B, a, by omega, by omega, nI_add _ _, rfl, rfl, rfl, ?_⟩
      show nI (A * st + wkN f w k * wo) + nI B * nI st = _
      rw [pk_mul, nI_add]
      refine congrArg nI ?_
      simp only [Nat.add_mul]; omega
theorem mo_eq (r : Ro f h) {w : Nat → Int32} {L : Nat} (g : gdN h w L) (hL : L ≤ 80) : moN f w L = miV h w L ∧ ∃ t, t < 2 ^ 30 ∧ miV h w L = nI t := by
  obtain ⟨D, hD, h4, W, S, vc⟩ := id r.1
  obtain ⟨st, _, s2, e2⟩ := S.2.2.1
  obtain ⟨wo, _, o2, e3⟩ := S.2.2.2.1
  obtain ⟨A, b, hA, hb, i1, i2, i3, i4, i5⟩ := mo_mi r e2 e3 L g
  have d3 : jabs (nI b - 0) = nI b := by
    rw [show (0 : Int32) = nI 0 from rfl, jabs_d (by omega) (by omega), if_pos (by omega)]; rfl
  have hv : miV h w L = nI (A * st + wkN f w L * wo + b * st) := by
    unfold miV; rw [i3, d3, i5, e2, pk_mul, nI_add]
  have hk := wkN_le f w L
  have q1 : A * st ≤ (300 * 80) * 30 := Nat.mul_le_mul (by omega) s2
  have q2 : wkN f w L * wo ≤ 80 * 30 := Nat.mul_le_mul (by omega) o2
  have q3 : b * st ≤ 99 * 30 := Nat.mul_le_mul hb s2
  refine ⟨?_, _, ?_, hv⟩
  · rw [hv]; unfold moN
    rw [i1, i2, r.2 2 (by omega), r.2 3 (by omega), e2, e3, nI_add, pk_mul, pk_mul, nI_add]
    congr 1
    simp only [Nat.add_mul]; omega
  · omega
theorem bw_Iv {w : Nat → Int32} {L : Nat} {x : Int32} (v : Iv h) (g : gdN h w L) : Iv (upd (goF h w L) 7 x) ∧ cn (upd (goF h w L) 7 x) = cn h := by
  obtain ⟨D, hD, h4, W, S, vc⟩ := v
  obtain ⟨_, b2⟩ := wbN_Mx (f := h) W vc rfl L g
  have lo : ∀ j, j < 12 → j ≠ 7 → upd (goF h w L) 7 x j = h j := fun j hj hne => by rw [upd_ne hne]; exact goF_lo h w L hj
  have c5 := cn_low (lo 5 (by decide) (by decide))
  refine ⟨⟨D, hD, by rw [lo 4 (by decide) (by decide)]; exact h4, W.low (lo 5 (by decide) (by decide)) (lo 6 (by decide) (by decide)), ?_, fun c hc => ?_⟩, c5⟩
  · unfold IvS
    rw [ln_low (lo 6 (by decide) (by decide)), lo 0 (by decide) (by decide), lo 1 (by decide) (by decide), lo 2 (by decide) (by decide), lo 3 (by decide) (by decide)]
    refine ⟨S.1, S.2.1, S.2.2.1, S.2.2.2.1, fun j hj => ?_⟩
    have := W.2.2.2
    rw [lo (8 + j) (by omega) (by omega)]; exact S.2.2.2.2 j hj
  · rw [c5] at hc
    exact (b2 c hc).congr (fun w hw => upd_ne (by omega))
theorem gdN_Ro (r : Ro f h) {w : Nat → Int32} {L : Nat} : gdN f w L ↔ gdN h w L := by
  unfold gdN
  constructor
  · intro g i hi; rw [← Ro_isC r]; exact g i hi
  · intro g i hi; rw [Ro_isC r]; exact g i hi
theorem bwF_Mx (r : Ro f h) {w : Nat → Int32} {L : Nat} (g : gdN h w L) (x : Int32) : upd (wbN f w L) 7 x = Mx (cn h) (upd (goF h w L) 7 x) f := by
  obtain ⟨D, hD, h4, W, S, vc⟩ := id r.1
  obtain ⟨b1, b2⟩ := wbN_Mx (f := f) W vc (r.2 0 (by omega)) L g
  rw [← r.mx] at b1
  rw [b1, Mx_upd (by omega)]
/-- a beat to clocks that there are -/
theorem Cg_bw (r : Ro f h) {w : Nat → Int32} {L : Nat} (g : gdN h w L) (hL : L ≤ 80) : Cg f (bwR f w L) (bwF f w L) 0 (miV h w L) (goFF h w L) := by
  obtain ⟨e1, t, ht, e2⟩ := mo_eq r g hL
  have gb := (gdB_t f w L).mpr ((gdN_Ro r).mpr g)
  have h0 : 0 ≤ miV h w L := by rw [e2]; exact nI_pos' (by omega)
  unfold bwR bwF goFF
  rw [if_pos gb, if_pos gb, e1, if_pos h0, r.2 7 (by omega), bwF_Mx r g]
  obtain ⟨v, c5⟩ := bw_Iv (x := h 7 + miV h w L) r.1 g
  exact Or.inl ⟨rfl, rfl, h0, v, by rw [c5]⟩
theorem rowE_gd {w : Nat → Int32} : ∀ L, (rowE h w L = 0 ∧ gdN h w L) ∨ (rowE h w L = -1 ∧ ¬ gdN h w L) := by
  intro L
  induction L with
  | zero => exact Or.inl ⟨rfl, fun i hi => absurd hi (Nat.not_lt_zero _)⟩
  | succ L ih =>
    unfold rowE
    by_cases z : isCb h (w L) = true
    · rw [if_pos z]
      rcases ih with ⟨a, b⟩ | ⟨a, b⟩
      · exact Or.inl ⟨a, gdN_s b z⟩
      · exact Or.inr ⟨a, fun q => b (gdN_lt q (by omega))⟩
    · rw [if_neg z]; exact Or.inr ⟨rfl, fun q => z (q L (by omega))⟩
/-- an order -/
theorem Cg_one (r : Ro f h) {c : Int32} {one two three : Int32} {L : Nat} {w : Nat → Int32} (hL : L ≤ 80) (hc : c = 43 ∨ c = 97 ∨ c = 98 ∨ c = 108 ∨ c = 115 ∨ c = 116) :
    (exE h c one two three L w = 0 ∧ 0 ≤ oneR f c ((one, two, three), L, w) ∧ Iv (exF h c one two three L w) ∧ oneF f c ((one, two, three), L, w) = Mx (cn (exF h c one two three L w)) (exF h c one two three L w) f) ∨ (exE h c one two three L w ≠ 0 ∧ ¬ 0 ≤ oneR f c ((one, two, three), L, w) ∧ oneF f c ((one, two, three), L, w) = f) := by
  have fin : ∀ {Rc : Int32} {F f' : Nat → Int32} {flt v : Int32}, Cg f Rc F flt v f' → (flt = 0 ∧ 0 ≤ Rc ∧ Iv f' ∧ F = Mx (cn f') f' f) ∨ (flt ≠ 0 ∧ ¬ 0 ≤ Rc ∧ F = f) := by
    intro Rc F f' flt v k
    rcases k with ⟨a, b, c, d, e⟩ | ⟨a, b, c⟩
    · exact Or.inl ⟨a, by rw [b]; exact c, d, e⟩
    · exact Or.inr ⟨fun z => by rw [z] at a; exact absurd a (by decide), by rw [b]; exact Int32.lt_nle a, c⟩
  unfold exE exF oneR oneF
  have n1 : chE 1 = 0 := by decide
  have n0 : chE 0 = 0 := by decide
  rcases hc with e | e | e | e | e | e
  · rw [if_pos e, if_pos e, if_pos e, if_pos e]
    exact fin (Cg_hang r one two three)
  · have a43 : ¬ c = 43 := by rw [e]; decide
    have a98 : ¬ c = 98 := by rw [e]; decide
    have a108 : ¬ c = 108 := by rw [e]; decide
    have a116 : ¬ c = 116 := by rw [e]; decide
    simp only [if_neg a43, if_neg a98, if_neg a108, if_neg a116, if_pos e]
    have := fin (Cg_chg r 1)
    rw [n1] at this
    rcases this with ⟨_, a⟩ | a
    · exact Or.inl ⟨trivial, a⟩
    · exact Or.inr a
  · have a43 : ¬ c = 43 := by rw [e]; decide
    have a97 : ¬ c = 97 := by rw [e]; decide
    have a108 : ¬ c = 108 := by rw [e]; decide
    simp only [if_neg a43, if_neg a97, if_neg a108, if_pos e]
    rcases rowE_gd (h := h) (w := w) L with ⟨a, b⟩ | ⟨a, b⟩
    · rw [a]
      exact fin (Cg_bw r b hL)
    · have gn : ¬ gdB f w L = true := fun z => b ((gdN_Ro r).mp ((gdB_t f w L).mp z))
      refine Or.inr ⟨by rw [a]; decide, ?_, ?_⟩
      · show ¬ 0 ≤ bwR f w L
        unfold bwR
        rw [if_neg gn]; decide
      · show bwF f w L = f
        unfold bwF
        rw [if_neg gn]
  · have a43 : ¬ c = 43 := by rw [e]; decide
    have a97 : ¬ c = 97 := by rw [e]; decide
    have a98 : ¬ c = 98 := by rw [e]; decide
    simp only [if_neg a43, if_neg a97, if_neg a98, if_pos e]
    exact fin (Cg_lad r one)
  · have a43 : ¬ c = 43 := by rw [e]; decide
    have a97 : ¬ c = 97 := by rw [e]; decide
    have a98 : ¬ c = 98 := by rw [e]; decide
    have a108 : ¬ c = 108 := by rw [e]; decide
    have a116 : ¬ c = 116 := by rw [e]; decide
    simp only [if_neg a43, if_neg a97, if_neg a98, if_neg a108, if_neg a116, if_pos e]
    have := fin (Cg_chg r 0)
    rw [n0] at this
    rcases this with ⟨_, a⟩ | a
    · exact Or.inl ⟨trivial, a⟩
    · exact Or.inr a
  · have a43 : ¬ c = 43 := by rw [e]; decide
    have a97 : ¬ c = 97 := by rw [e]; decide
    have a98 : ¬ c = 98 := by rw [e]; decide
    have a108 : ¬ c = 108 := by rw [e]; decide
    have a115 : ¬ c = 115 := by rw [e]; decide
    simp only [if_neg a43, if_neg a97, if_neg a98, if_neg a108, if_neg a115, if_pos e]
    exact fin (Cg_pass r one)
end R5
