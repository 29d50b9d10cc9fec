/-! the relation, second: what the changes do, on either side -/
def GoO (h : Nat → Int32) (c : Nat) : Prop := h (12 + 8 * c + 6) = 1 ∨ (h (12 + 8 * c + 6) = 0 ∧ h (12 + 8 * c + 4) = 43200)
theorem IvC.go {h : Nat → Int32} {D c : Nat} (v : IvC h D c) : GoO h c := v.2.2.2.2
section R2
variable {n c : Nat} {h f : Nat → Int32}
theorem dayC_Mx (hc : c < n) (wd : Int32) : dayC (Mx n h f) c wd = Mx n (dayC h c wd) f := by
  unfold dayC
  rw [rt_Mx hc, Mx_in (show 12 + 8 * c + 6 < 12 + 8 * n by omega), Mx_in (show 12 + 8 * c + 5 < 12 + 8 * n by omega), Mx_in (show 12 + 8 * c + 4 < 12 + 8 * n by omega)]
  by_cases h1 : h (12 + 8 * c + 6) = 0
  · rw [if_pos h1, if_pos h1]
    by_cases h2 : h (12 + 8 * c + 5) + 1 ≤ wd
    · rw [if_pos h2, if_pos h2, Mx_upd (by omega)]
    · rw [if_neg h2, if_neg h2, Mx_upd (by omega), Mx_upd (by omega), Mx_upd (by omega)]
  · rw [if_neg h1, if_neg h1]
    by_cases h2 : h (12 + 8 * c + 5) + 1 ≤ wd
    · rw [if_pos h2, if_pos h2, Mx_upd (by omega), Mx_upd (by omega)]
    · rw [if_neg h2, if_neg h2, Mx_upd (by omega), Mx_upd (by omega), Mx_upd (by omega), Mx_upd (by omega)]
theorem dayC_M (g : GoO h c) : dayC h c (h 1) = dayM h c := by
  unfold dayC dayM
  rcases g with g | ⟨g, g4⟩
  · rw [if_neg (by rw [g]; decide), if_pos g]
    by_cases h2 : h (12 + 8 * c + 5) + 1 ≤ h 1
    · rw [if_pos h2, if_neg (fun z => z h2), upd_comm (by omega)]
    · rw [if_neg h2, if_pos h2]
      rw [upd_comm (f := h) (a := 12 + 8 * c + 4) (b := 12 + 8 * c + 5) (by omega)]
  · rw [if_pos g, if_neg (show ¬ h (12 + 8 * c + 6) = 1 by rw [g]; decide)]
    by_cases h2 : h (12 + 8 * c + 5) + 1 ≤ h 1
    · rw [if_pos h2]
    · rw [if_neg h2, upd_same (f := upd h (12 + 8 * c + 5) _) (k := 12 + 8 * c + 6) (by rw [upd_ne (by omega)]; exact g), upd_same (by rw [upd_ne (by omega)]; exact g4)]
/-- another clock's places, and a clock's places that a day leaves -/
theorem dayM_ot {c' w : Nat} (hw : w < 8) (hne : c' ≠ c) : dayM h c (12 + 8 * c' + w) = h (12 + 8 * c' + w) := by
  have a : ∀ v, v < 8 → 12 + 8 * c' + w ≠ 12 + 8 * c + v := fun v hv => by omega
  unfold dayM
  split
  · split
    · rw [upd_ne (a 4 (by decide)), upd_ne (a 6 (by decide)), upd_ne (a 4 (by decide)), upd_ne (a 5 (by decide))]
    · rw [upd_ne (a 4 (by decide)), upd_ne (a 5 (by decide))]
  · rw [upd_ne (a 5 (by decide))]
theorem dayM_st {w : Nat} (hw : w < 4 ∨ w = 7) : dayM h c (12 + 8 * c + w) = h (12 + 8 * c + w) := by
  unfold dayM
  split
  · split
    · rw [upd_ne (by omega), upd_ne (by omega), upd_ne (by omega), upd_ne (by omega)]
    · rw [upd_ne (by omega), upd_ne (by omega)]
  · rw [upd_ne (by omega)]
theorem dayM_5 : dayM h c (12 + 8 * c + 5) = h (12 + 8 * c + 5) + 1 := by
  unfold dayM
  split
  · split
    · rw [upd_ne (by omega), upd_ne (by omega), upd_ne (by omega), upd_self]
    · rw [upd_ne (by omega), upd_self]
  · rw [upd_self]
theorem dayM_go (g : GoO h c) : GoO (dayM h c) c := by
  unfold GoO dayM
  rcases g with g | ⟨g, g4⟩
  · rw [if_pos g]
    split
    · exact Or.inr ⟨by rw [upd_ne (by omega), upd_self], by rw [upd_self]⟩
    · exact Or.inl (by rw [upd_ne (by omega), upd_ne (by omega)]; exact g)
  · rw [if_neg (by rw [g]; decide)]
    exact Or.inr ⟨by rw [upd_ne (by omega)]; exact g, by rw [upd_ne (by omega)]; exact g4⟩
theorem dayM_IvC {D : Nat} (v : IvC h D c) : IvC (dayM h c) (D + 1) c := by
  obtain ⟨v0, v1, v3, ⟨a, ha, v5⟩, v6⟩ := v
  refine ⟨by rw [dayM_st (by omega)]; exact v0, by rw [dayM_st (by omega)]; exact v1, by rw [dayM_st (by omega)]; exact v3, ⟨a + 1, by omega, by rw [dayM_5, v5]; exact nI_1 a⟩, dayM_go v6⟩
theorem dayAll_ot (k : Nat) {c' w : Nat} (hw : w < 8) (hk : k ≤ c') : dayAll h k (12 + 8 * c' + w) = h (12 + 8 * c' + w) := by
  induction k with
  | zero => rfl
  | succ k ih => unfold dayAll; rw [dayM_ot hw (by omega)]; exact ih (by omega)
theorem dayAll_IvC {D : Nat} (k : Nat) (v : ∀ c, c < n → IvC h D c) (hk : k ≤ n) : ∀ c, c < n → IvC (dayAll h k) (if c < k then D + 1 else D) c := by
  induction k with
  | zero => intro c hc; rw [if_neg (by omega)]; exact v c hc
  | succ k ih =>
    intro c hc
    have i1 := ih (by omega) c hc
    unfold dayAll
    by_cases e : c = k
    · subst e
      rw [if_neg (by omega)] at i1
      rw [if_pos (by omega)]
      exact dayM_IvC i1
    · have i2 : IvC (dayM (dayAll h k) k) (if c < k then D + 1 else D) c := i1.congr (fun w hw => dayM_ot hw e)
      by_cases z : c < k
      · rw [if_pos z] at i2; rw [if_pos (by omega)]; exact i2
      · rw [if_neg z] at i2; rw [if_neg (by omega)]; exact i2
theorem dcA_Mx {D : Nat} (v : ∀ c, c < n → IvC h D c) : ∀ k, k ≤ n → dcA (Mx n h f) (h 1) k = Mx n (dayAll h k) f := by
  intro k
  induction k with
  | zero => intro _; rfl
  | succ k ih =>
    intro hk
    have g := (dayAll_IvC k v (by omega) k (by omega)).go
    unfold dcA dayAll
    rw [ih (by omega), dayC_Mx (by omega), ← dayAll_lo h k (show 1 < 12 by decide), dayC_M g]
theorem dcD_Mx {D : Nat} (W : Wk h) (v : ∀ c, c < cn h → IvC h D c) : ∀ d, (dcD (Mx (cn h) h f) (h 1) (cn h) d = Mx (cn h) (passD h d) f) ∧ ∀ c, c < cn h → IvC (passD h d) (D + d) c := by
  intro d
  induction d with
  | zero => exact ⟨rfl, v⟩
  | succ d ih =>
    obtain ⟨i1, i2⟩ := ih
    refine ⟨?_, fun c hc => ?_⟩
    · unfold dcD passD
      rw [i1, ← passD_lo h d (show 1 < 12 by decide)]
      exact dcA_Mx i2 _ (Nat.le_refl _)
    · unfold passD
      have := dayAll_IvC (cn h) i2 (Nat.le_refl _) c hc
      rw [if_pos hc] at this
      exact this
/-! winding -/
theorem turC_Mx (hc : c < n) : turC (Mx n h f) c = Mx n (turC h c) f := by
  unfold turC
  rw [rt_Mx hc, Mx_in (show 12 + 8 * c + 3 < 12 + 8 * n by omega)]
  by_cases h1 : rt h c ≤ 0
  · rw [if_pos h1, if_pos h1]
    by_cases h2 : 0 ≤ rt h c
    · rw [if_pos h2, if_pos h2]
    · rw [if_neg h2, if_neg h2]
      by_cases h3 : 20 ≤ h (12 + 8 * c + 3)
      · rw [if_pos h3, if_pos h3]
      · rw [if_neg h3, if_neg h3, Mx_upd (by omega)]
  · rw [if_neg h1, if_neg h1]
    by_cases h4 : h (12 + 8 * c + 3) ≤ -20
    · rw [if_pos h4, if_pos h4]
      by_cases h2 : 0 ≤ rt h c
      · rw [if_pos h2, if_pos h2]
      · rw [if_neg h2, if_neg h2]
        by_cases h3 : 20 ≤ h (12 + 8 * c + 3)
        · rw [if_pos h3, if_pos h3]
        · rw [if_neg h3, if_neg h3, Mx_upd (by omega)]
    · rw [if_neg h4, if_neg h4, Mx_upd (by omega)]
theorem setC_Mx (hc : c < n) : setC (Mx n h f) c = Mx n (setC h c) f := by
  unfold setC
  rw [Mx_in (show 12 + 8 * c + 7 < 12 + 8 * n by omega), Mx_upd (by omega), Mx_upd (by omega), Mx_upd (by omega), Mx_upd (by omega)]
theorem winC_Mx (hc : c < n) (t : Int32) : winC (Mx n h f) c t = Mx n (winC h c t) f := by
  unfold winC
  rw [offB_Mx hc, turC_Mx hc, setC_Mx hc, setC_Mx hc, Mx_in (show 12 + 8 * c + 6 < 12 + 8 * n by omega)]
  by_cases h1 : h (12 + 8 * c + 6) = 0
  · rw [if_pos h1, if_pos h1]
  · rw [if_neg h1, if_neg h1]
    by_cases h2 : offB h c (t / 2) = true
    · rw [if_pos h2, if_pos h2]
    · rw [if_neg h2, if_neg h2]
theorem scr_ex {s : Int32} (hs : inB s (-20) 20 = true) : ∃ k, k < 41 ∧ s = nI k - 20 := by
  obtain ⟨h1, h2⟩ := inB_t.mp hs
  have e1 : ¬ s.toInt < -20 := fun z => h1 (Int32.lt_iff_toInt_lt.mpr (by rw [show (-20 : Int32).toInt = -20 from by decide]; exact z))
  have e2 : ¬ 20 < s.toInt := fun z => h2 (Int32.lt_iff_toInt_lt.mpr (by rw [show (20 : Int32).toInt = 20 from by decide]; exact z))
  refine ⟨(s.toInt + 20).toNat, by omega, Int32.toInt_inj.mp ?_⟩
  have := pk_sub_toInt (a := (s.toInt + 20).toNat) (b := 20) (by omega) (by omega)
  rw [show (20 : Int32) = nI 20 from rfl, this]
  omega
theorem scr_tab : ∀ k, k < 41 → (inB (nI k - 20 + 0) (-20) 20 = true) ∧ (inB (nI k - 20 + 1) (-20) 20 = !decide (20 ≤ nI k - 20)) ∧ (inB (nI k - 20 + -1) (-20) 20 = !decide (nI k - 20 ≤ -20)) ∧ nI k - 20 + 0 = nI k - 20 ∧ nI k - 20 - 1 = nI k - 20 + -1 := by decide +kernel
theorem turC_M (hs : inB (h (12 + 8 * c + 3)) (-20) 20 = true) : turC h c = upd h (12 + 8 * c + 3) (if inB (wkS h c) (-20) 20 = true then wkS h c else h (12 + 8 * c + 3)) := by
  obtain ⟨k, hk, e⟩ := scr_ex hs
  obtain ⟨t0, t1, t2, t3, t4⟩ := scr_tab k hk
  unfold turC wkS
  by_cases h1 : rt h c ≤ 0
  · rw [if_pos h1, if_neg (show ¬ ¬ rt h c ≤ 0 from fun z => z h1)]
    by_cases h2 : 0 ≤ rt h c
    · rw [if_pos h2, if_pos h2, e, if_pos t0, t3, ← e, upd_id]
    · rw [if_neg h2, if_neg h2, e, t1]
      by_cases h3 : 20 ≤ nI k - 20
      · rw [if_pos h3, if_neg (by simp [h3]), ← e, upd_id]
      · rw [if_neg h3, if_pos (by simp [h3])]
  · rw [if_neg h1, if_pos (show ¬ rt h c ≤ 0 from h1), e, t2]
    by_cases h4 : nI k - 20 ≤ -20
    · have h2 : 0 ≤ rt h c := by
        rw [Int32.le_iff_toInt_le] at h1 ⊢
        rw [show (0 : Int32).toInt = 0 from by decide] at h1 ⊢
        omega
      rw [if_pos h4, if_pos h2, if_neg (show ¬ (!decide (nI k - 20 ≤ -20)) = true by simp [h4]), ← e, upd_id]
    · rw [if_neg h4, if_pos (by simp [h4]), t4]
theorem workM_eq : workM h c = (let k := if h (12 + 8 * c + 6) = 1 ∧ ¬ jabs (h (12 + 8 * c + 4)) ≤ h 0 / 2 then upd h (12 + 8 * c + 3) (if inB (wkS h c) (-20) 20 = true then wkS h c else h (12 + 8 * c + 3)) else h
    upd (upd (upd (upd k (12 + 8 * c + 6) 1) (12 + 8 * c + 4) 0) (12 + 8 * c + 5) 0) (12 + 8 * c + 7) (h (12 + 8 * c + 7) + 1)) := rfl
theorem winC_M (g : GoO h c) (hs : inB (h (12 + 8 * c + 3)) (-20) 20 = true) : winC h c (h 0) = workM h c := by
  rw [workM_eq]
  have h7 : turC h c (12 + 8 * c + 7) = h (12 + 8 * c + 7) := by rw [turC_M hs, upd_ne (by omega)]
  unfold winC
  rcases g with g | ⟨g, g4⟩
  · rw [if_neg (by rw [g]; decide)]
    by_cases h2 : jabs (h (12 + 8 * c + 4)) ≤ h 0 / 2
    · rw [if_neg (by unfold offB; simp [h2])]
      simp only [g, h2, not_true_eq_false, and_false, if_false]
      rfl
    · rw [if_pos (by unfold offB; simp [h2])]
      simp only [g, h2, not_false_eq_true, and_true, if_true]
      unfold setC
      rw [h7, turC_M hs]
  · rw [if_pos g, if_neg (by rw [g]; simp)]
    rfl
theorem workM_ot {c' w : Nat} (hw : w < 8) (hne : c' ≠ c) : workM h c (12 + 8 * c' + w) = h (12 + 8 * c' + w) := by
  have a : ∀ v, v < 8 → 12 + 8 * c' + w ≠ 12 + 8 * c + v := fun v hv => by omega
  rw [workM_eq]
  dsimp only
  rw [upd_ne (a 7 (by decide)), upd_ne (a 5 (by decide)), upd_ne (a 4 (by decide)), upd_ne (a 6 (by decide))]
  split
  · rw [upd_ne (a 3 (by decide))]
  · rfl
theorem workM_IvC {D : Nat} (v : IvC h D c) : IvC (workM h c) D c := by
  obtain ⟨v0, v1, v3, v5, v6⟩ := v
  rw [workM_eq]
  dsimp only
  refine ⟨?_, ?_, ?_, ⟨0, Nat.zero_le _, ?_⟩, Or.inl ?_⟩
  · rw [upd_ne (by omega), upd_ne (by omega), upd_ne (by omega), upd_ne (by omega)]
    split
    · rw [upd_ne (by omega)]; exact v0
    · exact v0
  · rw [upd_ne (by omega), upd_ne (by omega), upd_ne (by omega), upd_ne (by omega)]
    split
    · rw [upd_ne (by omega)]; exact v1
    · exact v1
  · rw [upd_ne (by omega), upd_ne (by omega), upd_ne (by omega), upd_ne (by omega)]
    split
    · rw [upd_self]
      split
      · next z => exact z
      · exact v3
    · exact v3
  · rw [upd_ne (by omega), upd_self]; rfl
  · rw [upd_ne (by omega), upd_ne (by omega), upd_ne (by omega), upd_self]
end R2
