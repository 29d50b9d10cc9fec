/-! the relation, sixth: the answers -/
section R6
variable {f h : Nat → Int32}
theorem Ro_off (r : Ro f h) {c : Nat} (hc : c < cn h) (t : Int32) : offB f c t = offB h c t := by rw [r.mx]; exact offB_Mx hc t
theorem of_eq (r : Ro f h) (x w : Int32) : ofR f x w = ofR h x w := by
  unfold ofR
  rw [Ro_isC r]
  by_cases hb : isCb h x = true
  · obtain ⟨i, hi, rfl⟩ := (isC_iff r.1.W x).mp hb
    have e : ix (nI i) = i := ix_nI (by have := r.1.W.2.1; omega)
    rw [if_pos hb, if_pos hb, e, r.2 (12 + 8 * i + 0) (by omega), r.2 (12 + 8 * i + 1) (by omega), r.2 (12 + 8 * i + 2) (by omega), r.2 (12 + 8 * i + 3) (by omega), r.2 (12 + 8 * i + 4) (by omega), r.2 (12 + 8 * i + 5) (by omega), r.2 (12 + 8 * i + 6) (by omega), r.2 (12 + 8 * i + 7) (by omega), r.2 0 (by omega), Ro_off r hi, Ro_lad r hi, Ro_can r hi]
  · rw [if_neg hb, if_neg hb]
theorem lof_eq (r : Ro f h) (x : Int32) : lofR f x = lofR h x := by
  unfold lofR
  rw [r.2 6 (by omega)]
  by_cases hb : inB x 0 (h 6 - 1) = true
  · obtain ⟨i, hi, rfl⟩ := lof_iff r.1.W hb
    have := r.1.W.2.2.2
    rw [if_pos hb, if_pos hb, ix_nI (by omega), r.2 (8 + i) (by omega)]
  · rw [if_neg hb, if_neg hb]
theorem stC_Ro (r : Ro f h) : ∀ k, k ≤ cn h → stC f k = stC h k := by
  intro k
  induction k with
  | zero => intro _; rfl
  | succ k ih => intro hk; unfold stC; rw [ih (by omega), r.2 _ (by omega)]
theorem of4 (r : Ro f h) : ∀ k, k ≤ cn h → nI (ofN f k) = sumN h 4 k := by
  intro k
  induction k with
  | zero => intro _; rfl
  | succ k ih =>
    intro hk
    unfold ofN sumN
    rw [← ih (by omega), if_neg (show ¬ (4 : Int32) = 7 by decide), if_pos (rfl : (4 : Int32) = 4), Ro_off r (by omega), r.2 0 (by omega)]
    by_cases z : offB h k (h 0) = true
    · rw [if_pos z, if_pos z, nI_1]
    · rw [if_neg z, if_neg z, Int32.add_zero]
theorem cw5 (r : Ro f h) : ∀ k, k ≤ cn h → nI (cwN f k) = sumN h 5 k := by
  intro k
  induction k with
  | zero => intro _; rfl
  | succ k ih =>
    intro hk
    unfold cwN sumN
    rw [← ih (by omega), if_neg (show ¬ (5 : Int32) = 7 by decide), if_neg (show ¬ (5 : Int32) = 4 by decide), Ro_can r (by omega)]
    by_cases z : canW h k = true
    · rw [if_pos z, if_pos z, Int32.add_zero]
    · rw [if_neg z, if_neg z, nI_1]
theorem tw7 (r : Ro f h) : ∀ k, k ≤ cn h → twN f k = sumN h 7 k := by
  intro k
  induction k with
  | zero => intro _; rfl
  | succ k ih =>
    intro hk
    unfold twN sumN
    rw [← ih (by omega), if_pos (rfl : (7 : Int32) = 7), r.2 _ (by omega)]
theorem cnt_eq (r : Ro f h) (len kn w : Int32) : cntC f len kn w = cntR h len kn w := by
  obtain ⟨D, hD, h4, W, S, vc⟩ := id r.1
  unfold cntC cntR
  rw [r.ec, stC_Ro r _ (Nat.le_refl _), stillN_e _ (fun c hc => (vc c hc).go), of4 r _ (Nat.le_refl _), cw5 r _ (Nat.le_refl _), tw7 r _ (Nat.le_refl _), r.2 0 (by omega), r.2 1 (by omega), r.2 2 (by omega), r.2 3 (by omega), r.2 4 (by omega), r.2 5 (by omega), r.2 6 (by omega), r.2 7 (by omega)]
/-! which ladder to buy -/
theorem ru_mo (r : Ro f h) : ∀ k, k ≤ cn h → (ruN f k = 0 ∧ mostN h k = -6) ∨ (∃ a, 1 ≤ a ∧ a ≤ 30 ∧ ruN f k = nI a ∧ mostN h k = nI a) := by
  obtain ⟨D, hD, h4, W, S, vc⟩ := id r.1
  intro k
  induction k with
  | zero => intro _; exact Or.inl ⟨rfl, rfl⟩
  | succ k ih =>
    intro hk
    unfold ruN mostN
    rw [Ro_can r (by omega)]
    by_cases z : canW h k = true
    · rw [if_pos z, if_pos z]; exact ih (by omega)
    · rw [if_neg z, if_neg z]
      obtain ⟨a, ha, ea⟩ := (vc k (by omega)).2.1
      have a0 : a ≠ 0 := fun y => z (canW_t.mpr (Or.inl (by rw [ea, y]; rfl)))
      rw [r.2 _ (by omega), ea]
      rcases ih (by omega) with ⟨e1, e2⟩ | ⟨b, hb1, hb, e1, e2⟩
      · rw [e1, e2]
        have j1 : jmax 0 (nI a) = nI a := by
          unfold jmax; rw [if_pos (show (0 : Int32) < nI a from (nI_ltI (a := 0) (b := a) (by decide) (by omega)).mpr (by omega))]
        have j2 : ¬ nI a ≤ -6 := fun q => by
          rw [Int32.le_iff_toInt_le, nI_toInt (by omega), show (-6 : Int32).toInt = -6 from by decide] at q; omega
        rw [j1, if_neg j2]
        exact Or.inr ⟨a, by omega, ha, rfl, rfl⟩
      · rw [e1, e2]
        by_cases y : a ≤ b
        · have j1 : jmax (nI b) (nI a) = nI b := by
            unfold jmax; rw [if_neg (fun q => by have := (nI_ltI (a := b) (b := a) (by omega) (by omega)).mp q; omega)]
          rw [j1, if_pos ((nI_leI (by omega) (by omega)).mpr y)]
          exact Or.inr ⟨b, hb1, hb, rfl, rfl⟩
        · have j1 : jmax (nI b) (nI a) = nI a := by
            unfold jmax; rw [if_pos ((nI_ltI (by omega) (by omega)).mpr (by omega))]
          rw [j1, if_neg (fun q => y ((nI_leI (by omega) (by omega)).mp q))]
          exact Or.inr ⟨a, by omega, ha, rfl, rfl⟩
theorem lf_eq (r : Ro f h) : lfC f = if ln h = 4 then -4 else mostN h (cn h) := by
  have l4 := r.1.W.2.2.2
  unfold lfC
  rw [Ro_ln r, r.ec]
  by_cases z : ln h < 4
  · rw [if_pos z, if_neg (show ¬ ln h = 4 by omega)]
    rcases ru_mo r _ (Nat.le_refl _) with ⟨e1, e2⟩ | ⟨b, hb1, hb, e1, e2⟩
    · rw [e1, e2, if_pos rfl]
    · rw [e1, e2, if_neg (nI_ne0 (by omega) (by omega))]
  · rw [if_neg z, if_pos (show ln h = 4 by omega)]
/-! the row of a set of clocks -/
theorem ch_lo (x : Int32) (n : Nat) (w w' : Nat → Int32) : ∀ k, chL x k = loL n x false w' k ∧ ∀ j, j < chL x k → chW w x k j = loN n x false w' k j := by
  intro k
  induction k with
  | zero => exact ⟨rfl, fun j hj => absurd hj (Nat.not_lt_zero _)⟩
  | succ k ih =>
    obtain ⟨i1, i2⟩ := ih
    unfold chL chW
    by_cases z : (x >>> (nI k &&& 31)) &&& 1 = 1
    · obtain ⟨a, b⟩ := loW_t (n := n) (b := false) (w := w') (k := k) z
      rw [if_pos z, if_pos z, a, b, i1]
      refine ⟨rfl, fun j hj => ?_⟩
      by_cases e : j = loL n x false w' k
      · subst e; rw [upd_self, upd_self]; rfl
      · rw [upd_ne e, upd_ne e]; exact i2 j (by rw [i1]; omega)
    · obtain ⟨a, b⟩ := loW_f (n := n) (b := false) (w := w') (k := k) z
      rw [if_neg z, if_neg z, a, b]
      exact ⟨i1, i2⟩
theorem miV_cong {w w2 : Nat → Int32} (L : Nat) (e : ∀ j, j < L → w j = w2 j) : miV h w L = miV h w2 L := by
  unfold miV; rw [miS_congr h L e]
/-- the same row from the last clock to the first -/
theorem lo_rev (x : Int32) (n : Nat) (w w' : Nat → Int32) : ∀ k, k ≤ n → loL n x true w' k + loL n x false w (n - k) = loL n x false w n ∧ ∀ j, j < loL n x true w' k → loN n x true w' k j = loN n x false w n (loL n x false w n - 1 - j) := by
  have mono : ∀ a b, a ≤ b → loL n x false w a ≤ loL n x false w b ∧ ∀ j, j < loL n x false w a → loN n x false w b j = loN n x false w a j := by
    intro a b hab
    obtain ⟨d, rfl⟩ : ∃ d, b = a + d := ⟨b - a, by omega⟩
    clear hab
    induction d with
    | zero => exact ⟨Nat.le_refl _, fun _ _ => rfl⟩
    | succ d ih =>
      by_cases z : (x >>> (nI (loC n false (a + d)) &&& 31)) &&& 1 = 1
      · obtain ⟨u, v⟩ := loW_t (w := w) z
        rw [show a + (d + 1) = a + d + 1 by omega, u, v]
        refine ⟨by omega, fun j hj => ?_⟩
        rw [upd_ne (by omega)]; exact ih.2 j hj
      · obtain ⟨u, v⟩ := loW_f (w := w) z
        rw [show a + (d + 1) = a + d + 1 by omega, u, v]
        exact ih
  intro k
  induction k with
  | zero => intro _; exact ⟨by show 0 + _ = _; rw [Nat.zero_add, Nat.sub_zero], fun j hj => absurd hj (Nat.not_lt_zero _)⟩
  | succ k ih =>
    intro hk
    obtain ⟨i1, i2⟩ := ih (by omega)
    have ec : loC n true k = n - (k + 1) := by show n - 1 - k = _; omega
    have ec2 : loC n false (n - (k + 1)) = n - (k + 1) := rfl
    have es : n - k = n - (k + 1) + 1 := by omega
    by_cases z : (x >>> (nI (n - (k + 1)) &&& 31)) &&& 1 = 1
    · obtain ⟨u, v⟩ := loW_t (n := n) (b := true) (w := w') (k := k) (by rw [ec]; exact z)
      obtain ⟨u2, v2⟩ := loW_t (n := n) (b := false) (w := w) (k := n - (k + 1)) (by rw [ec2]; exact z)
      rw [es, u2] at i1
      rw [u, v, ec]
      refine ⟨by omega, fun j hj => ?_⟩
      by_cases e : j = loL n x true w' k
      · have m := mono (n - (k + 1) + 1) n (by omega)
        rw [u2, v2, ec2] at m
        have m2 := m.2 (loL n x false w (n - (k + 1))) (by omega)
        rw [upd_self] at m2
        rw [e, upd_self, show loL n x false w n - 1 - loL n x true w' k = loL n x false w (n - (k + 1)) by omega, m2]
      · rw [upd_ne e]; exact i2 j (by omega)
    · obtain ⟨u, v⟩ := loW_f (n := n) (b := true) (w := w') (k := k) (by rw [ec]; exact z)
      obtain ⟨u2, v2⟩ := loW_f (n := n) (b := false) (w := w) (k := n - (k + 1)) (by rw [ec2]; exact z)
      rw [es, u2] at i1
      rw [u, v]
      exact ⟨i1, i2⟩
theorem way_eq (a b : Nat) (ha : a < 2 ^ 30) (hb : b < 2 ^ 30) : wayC (nI a) (nI b) = wayR (nI a) (nI b) := by
  unfold wayC wayR
  by_cases e : a = b
  · subst e; rw [if_pos rfl, if_pos (nI_le (Nat.le_refl _) (by omega)), if_pos (nI_le (Nat.le_refl _) (by omega))]
  · rw [if_neg (fun z => e ((nI_eq (by omega) (by omega)).mp z))]
    by_cases y : b ≤ a
    · rw [if_pos (nI_le y (by omega)), if_pos (nI_le y (by omega)), if_neg (fun z => by have := (nI_leI (by omega) (by omega)).mp z; omega)]
    · rw [if_neg (fun z => y ((nI_leI (by omega) (by omega)).mp z)), if_neg (fun z => y ((nI_leI (by omega) (by omega)).mp z))]
/-! days until a clock is off -/
theorem duL_spec (c : Nat) (t : Int32) : ∀ u d, d ≤ duL h c t u d ∧ duL h c t u d ≤ d + u ∧ (∀ e, d ≤ e → e < duL h c t u d → jabs (h (12 + 8 * c + 4) + nI e * rt h c) ≤ t) ∧ (duL h c t u d < d + u → ¬ jabs (h (12 + 8 * c + 4) + nI (duL h c t u d) * rt h c) ≤ t) := by
  intro u
  induction u with
  | zero => intro d; exact ⟨Nat.le_refl _, Nat.le_refl _, fun e h1 h2 => absurd h2 (by show ¬ e < d; omega), fun z => absurd z (by show ¬ d < d + 0; omega)⟩
  | succ u ih =>
    intro d
    unfold duL
    by_cases z : jabs (h (12 + 8 * c + 4) + nI d * rt h c) ≤ t
    · rw [if_pos z]
      obtain ⟨i1, i2, i3, i4⟩ := ih (d + 1)
      refine ⟨by omega, by omega, fun e h1 h2 => ?_, fun q => i4 (by omega)⟩
      by_cases y : e = d
      · rw [y]; exact z
      · exact i3 e (by omega) h2
    · rw [if_neg z]
      exact ⟨Nat.le_refl _, by omega, fun e h1 h2 => by omega, fun _ => z⟩
theorem last_spec {c s0 wd : Nat} (g : h (12 + 8 * c + 6) = 1) (e5 : h (12 + 8 * c + 5) = nI s0) (hs : s0 ≤ 20000) (e1 : h 1 = nI wd) (hw : wd ≤ 30) : ∀ d, (d = 0 ∨ s0 + d ≤ wd) → lastN h c d (12 + 8 * c + 6) = 1 ∧ lastN h c d (12 + 8 * c + 5) = nI (s0 + d) ∧ lastN h c d (12 + 8 * c + 4) = h (12 + 8 * c + 4) + nI d * rt h c ∧ rt (lastN h c d) c = rt h c := by
  intro d
  induction d with
  | zero => intro _; exact ⟨g, e5, by rw [show nI 0 = 0 from rfl, Int32.zero_mul, Int32.add_zero]; rfl, rfl⟩
  | succ d ih =>
    intro hd
    obtain ⟨i1, i2, i3, i4⟩ := ih (by omega)
    have l1 : lastN h c d 1 = nI wd := by rw [lastN_lo h c d (by omega)]; exact e1
    have le : lastN h c d (12 + 8 * c + 5) + 1 ≤ lastN h c d 1 := by rw [i2, nI_1, l1, nI_leI (by omega) (by omega)]; omega
    have e : lastN h c (d + 1) = upd (upd (lastN h c d) (12 + 8 * c + 5) (lastN h c d (12 + 8 * c + 5) + 1)) (12 + 8 * c + 4) (lastN h c d (12 + 8 * c + 4) + rt (lastN h c d) c) := by
      show dayM (lastN h c d) c = _
      unfold dayM
      rw [if_pos i1, if_neg (fun z => z le)]
    refine ⟨?_, ?_, ?_, ?_⟩
    · rw [e, upd_ne (by omega), upd_ne (by omega)]; exact i1
    · rw [e, upd_ne (by omega), upd_self, i2, nI_1]; rfl
    · rw [e, upd_self, i3, i4, nI_succ, Int32.add_mul, Int32.one_mul, Int32.add_assoc]
    · rw [← i4]
      unfold rt
      rw [e, upd_ne (by omega), upd_ne (by omega), upd_ne (by omega), upd_ne (by omega)]
theorem lasts_spec (v : Iv h) {c : Nat} (hc : c < cn h) : offB (lastN h c (duS h c)) c (lastN h c (duS h c) 0) = true ∧ ∀ d, d < duS h c → offB (lastN h c d) c (lastN h c d 0) = false := by
  obtain ⟨D, hD, h4, W, S, vc⟩ := v
  obtain ⟨told, t1, t2, e0⟩ := S.1
  obtain ⟨wd, w1, w2, e1⟩ := S.2.1
  obtain ⟨v0, v1, v3, ⟨s0, hs, e5⟩, vg⟩ := vc c hc
  have l0 : ∀ d, lastN h c d 0 = h 0 := fun d => lastN_lo h c d (by omega)
  have l1 : ∀ d, lastN h c d 1 = h 1 := fun d => lastN_lo h c d (by omega)
  have still : ∀ k : Nat → Int32, k (12 + 8 * c + 4) = 43200 → offB k c (h 0) = true := by
    intro k ek
    unfold offB
    rw [ek, e0, decide_eq_true_iff]
    intro z
    rw [show jabs 43200 = nI 43200 from by decide] at z
    have := (nI_leI (by omega) (by omega)).mp z
    omega
  unfold duS duC
  by_cases z : offB h c (h 0) = true
  · rw [if_pos z]
    exact ⟨z, fun d hd => absurd hd (Nat.not_lt_zero _)⟩
  · rw [if_neg z]
    have g : h (12 + 8 * c + 6) = 1 := by
      rcases vg with a | ⟨_, a⟩
      · exact a
      · exact absurd (still h a) z
    have es : stD h c = max 1 (wd + 1 - s0) := by
      unfold stD; rw [e1, e5, ix_nI (by omega), ix_nI (by omega)]
    obtain ⟨p1, p2, p3, p4⟩ := duL_spec (h := h) c (h 0) (stD h c - 1) 1
    have ls := last_spec g e5 (by omega) e1 w2
    have in1 : ∀ d, d < stD h c → d = 0 ∨ s0 + d ≤ wd := fun d hd => by rw [es] at hd; omega
    refine ⟨?_, fun d hd => ?_⟩
    · rw [l0]
      by_cases y : duL h c (h 0) (stD h c - 1) 1 < 1 + (stD h c - 1)
      · unfold offB
        rw [(ls _ (in1 _ (by omega))).2.2.1]
        exact decide_eq_true (p4 y)
      · have ed : duL h c (h 0) (stD h c - 1) 1 = (stD h c - 1) + 1 := by omega
        rw [ed]
        obtain ⟨q1, q2, q3, q4⟩ := ls (stD h c - 1) (in1 _ (by omega))
        apply still
        show dayM (lastN h c (stD h c - 1)) c _ = _
        unfold dayM
        rw [if_pos q1, q2, nI_1, l1, e1, if_pos (fun z => by
          have := (nI_leI (by omega) (by omega)).mp z
          omega), upd_self]
    · rw [l0]
      by_cases y : d = 0
      · subst y
        have : offB h c (h 0) = false := by
          cases q : offB h c (h 0) with
          | false => rfl
          | true => exact absurd q z
        exact this
      · unfold offB
        rw [(ls _ (in1 _ (by omega))).2.2.1]
        have := p3 d (by omega) hd
        simp [this]
theorem Ro_duS (r : Ro f h) {c : Nat} (hc : c < cn h) : duS f c = duS h c := by
  have a : ∀ u d, duL f c (h 0) u d = duL h c (h 0) u d := by
    intro u
    induction u with
    | zero => intro d; rfl
    | succ u ih =>
      intro d
      unfold duL
      rw [ih, r.2 _ (by omega), show rt f c = rt h c by rw [r.mx]; exact rt_Mx hc]
  unfold duS duC stD
  rw [r.2 0 (by omega), r.2 1 (by omega), r.2 (12 + 8 * c + 5) (by omega), a, Ro_off r hc]
theorem ahead_eq (T : Tm h) (c : Nat) : ∀ k, aheadN (fun i => nI (duS h i)) c k = nI (raN h c k) := by
  intro k
  induction k with
  | zero => rfl
  | succ k ih =>
    have l1 := duS_lt T k
    have l2 := duS_lt T c
    unfold aheadN raN
    rw [ih]
    by_cases z : duS h k < duS h c
    · rw [if_pos z, if_pos ((nI_ltI l1 l2).mpr z), nI_1]
    · rw [if_neg z, if_neg (fun q => z ((nI_ltI l1 l2).mp q))]
      by_cases y : duS h k = duS h c
      · rw [if_pos y, if_pos (by rw [y])]
        by_cases x : c ≤ k
        · rw [if_pos x, if_pos x, Int32.add_zero]
        · rw [if_neg x, if_neg x, nI_1]
      · rw [if_neg y, if_neg (fun q => y ((nI_eq l1 l2).mp q)), Int32.add_zero]
theorem Ro_raN (r : Ro f h) {c : Nat} (hc : c < cn h) : ∀ k, k ≤ cn h → raN f c k = raN h c k := by
  intro k
  induction k with
  | zero => intro _; rfl
  | succ k ih =>
    intro hk
    unfold raN
    rw [ih (by omega), Ro_duS r hc, Ro_duS r (show k < cn h by omega)]
theorem ne_eq (r : Ro f h) (x : Int32) : neC f (cn h) x (cn h) = needN (fun i => nI (duS h i)) (cn h) x (cn h) := by
  have T : Tm h := Ro.T ⟨r.1, fun _ _ => rfl⟩
  have key : ∀ k, k ≤ cn h → neC f (cn h) x k = needN (fun i => nI (duS h i)) (cn h) x k := by
    intro k
    induction k with
    | zero => intro _; rfl
    | succ k ih =>
      intro hk
      unfold neC needN
      rw [ih (by omega), ahead_eq T, Ro_raN r (by omega) _ (Nat.le_refl _)]
  exact key _ (Nat.le_refl _)
end R6
