/-! what the law's walk needs of a State: bounds of the drift and of what a clock is off; what each change keeps -/
theorem tI_add {x y : Int32} {a b : Int} (ha : x.toInt = a) (hb : y.toInt = b) (h1 : -2147483648 ≤ a + b) (h2 : a + b < 2147483648) : (x + y).toInt = a + b := by
  rw [Int32.toInt_add, ha, hb]; exact Int.bmod_eq_of_le (by omega) (by omega)
theorem tI_mul {x y : Int32} {a b : Int} (ha : x.toInt = a) (hb : y.toInt = b) (h1 : -2147483648 ≤ a * b) (h2 : a * b < 2147483648) : (x * y).toInt = a * b := by
  rw [Int32.toInt_mul, ha, hb]; exact Int.bmod_eq_of_le (by omega) (by omega)
theorem tI_neg {x : Int32} {a : Int} (ha : x.toInt = a) (h1 : -2147483648 < a) : (-x).toInt = -a := by
  have := Int32.le_toInt x
  have h3 := Int32.toInt_lt x
  rw [Int32.toInt_neg, ha]; exact Int.bmod_eq_of_le (by omega) (by omega)
theorem inB_tI {v lo hi : Int32} (h : inB v lo hi = true) : lo.toInt ≤ v.toInt ∧ v.toInt ≤ hi.toInt := by
  rw [inB_t, Int32.lt_iff_toInt_lt, Int32.lt_iff_toInt_lt] at h; omega
def Bd (f : Nat → Int32) (B c : Nat) : Prop := inB (f (12 + 8 * c + 2)) (-99) 99 = true ∧ -(B : Int) ≤ (f (12 + 8 * c + 4)).toInt ∧ (f (12 + 8 * c + 4)).toInt ≤ (B : Int)
def Iz (f : Nat → Int32) (B : Nat) : Prop := Iv f ∧ ∀ c, c < cn f → Bd f B c
theorem Bd.congr {f h : Nat → Int32} {B c : Nat} (b : Bd f B c) (e2 : h (12 + 8 * c + 2) = f (12 + 8 * c + 2)) (e4 : h (12 + 8 * c + 4) = f (12 + 8 * c + 4)) : Bd h B c := by
  unfold Bd; rw [e2, e4]; exact b
theorem Bd.mono {f : Nat → Int32} {B B' c : Nat} (b : Bd f B c) (h : B ≤ B') : Bd f B' c := ⟨b.1, by have := b.2.1; omega, by have := b.2.2; omega⟩
theorem Iz.mono {f : Nat → Int32} {B B' : Nat} (b : Iz f B) (h : B ≤ B') : Iz f B' := ⟨b.1, fun c hc => (b.2 c hc).mono h⟩
theorem Iz.ro {f h : Nat → Int32} {B : Nat} (z : Iz h B) (r : ∀ j, j < 12 + 8 * cn h → f j = h j) : Iz f B := by
  refine ⟨z.1.congr r, fun c hc => ?_⟩
  rw [cn_low (r 5 (by omega))] at hc
  exact (z.2 c hc).congr (r _ (by omega)) (r _ (by omega))
theorem Iv.ro {f : Nat → Int32} (v : Iv f) : Ro f f := ⟨v, fun _ _ => rfl⟩
/-- how the law finds a clock off -/
theorem off_iff {x t : Int32} {B : Nat} (h1 : -(B : Int) ≤ x.toInt) (h2 : x.toInt ≤ (B : Int)) (hB : B < 2 ^ 30) {a : Nat} (ha : a ≤ 999) (ht : t = nI a) : (¬ jabs x ≤ t) ↔ (t < x ∨ x < -t) := by
  subst ht
  have e1 : (nI a).toInt = (a : Int) := nI_toInt (by omega)
  have e2 : (-nI a).toInt = -(a : Int) := tI_neg e1 (by omega)
  rw [Int32.le_iff_toInt_le, Int32.lt_iff_toInt_lt, Int32.lt_iff_toInt_lt, e1, e2]
  unfold jabs
  by_cases z : 0 ≤ x
  · rw [if_pos z]
    rw [Int32.le_iff_toInt_le, show (0 : Int32).toInt = 0 from by decide] at z
    omega
  · rw [if_neg z, tI_neg rfl (by omega)]
    rw [Int32.le_iff_toInt_le, show (0 : Int32).toInt = 0 from by decide] at z
    omega
theorem Iz.off {f : Nat → Int32} {B : Nat} (z : Iz f B) (hB : B < 2 ^ 30) {c : Nat} (hc : c < cn f) : offB f c (f 0) = true ↔ (f 0 < f (12 + 8 * c + 4) ∨ f (12 + 8 * c + 4) < -f 0) := by
  obtain ⟨a, _, ha, e⟩ := z.1.S.1
  unfold offB
  rw [decide_eq_true_iff]
  exact off_iff (z.2 c hc).2.1 (z.2 c hc).2.2 hB ha e
theorem rt_B {f : Nat → Int32} {B c : Nat} (b : Bd f B c) (hs : inB (f (12 + 8 * c + 3)) (-20) 20 = true) : -159 ≤ (rt f c).toInt ∧ (rt f c).toInt ≤ 159 := by
  have h1 := inB_tI b.1
  have h2 := inB_tI hs
  rw [show (-99 : Int32).toInt = -99 from by decide, show (99 : Int32).toInt = 99 from by decide] at h1
  rw [show (-20 : Int32).toInt = -20 from by decide, show (20 : Int32).toInt = 20 from by decide] at h2
  unfold rt
  have e : (3 * f (12 + 8 * c + 3)).toInt = 3 * (f (12 + 8 * c + 3)).toInt := tI_mul (by decide) rfl (by omega) (by omega)
  rw [tI_add rfl e (by omega) (by omega)]
  omega
/-! a day -/
theorem dayM_cg {h h' : Nat → Int32} {c : Nat} (e : ∀ w, w < 8 → h' (12 + 8 * c + w) = h (12 + 8 * c + w)) (e1 : h' 1 = h 1) : ∀ w, w < 8 → dayM h' c (12 + 8 * c + w) = dayM h c (12 + 8 * c + w) := by
  intro w hw
  have r : rt h' c = rt h c := by unfold rt; rw [e 2 (by decide), e 3 (by decide)]
  have e0 : h' (12 + 8 * c) = h (12 + 8 * c) := e 0 (by decide)
  unfold dayM
  rw [e 6 (by decide), e 5 (by decide), e 4 (by decide), r, e1]
  rcases (show w = 0 ∨ w = 1 ∨ w = 2 ∨ w = 3 ∨ w = 4 ∨ w = 5 ∨ w = 6 ∨ w = 7 by omega) with rfl | rfl | rfl | rfl | rfl | rfl | rfl | rfl <;> (split <;> (try split) <;> simp [upd, e0, e 1, e 2, e 3, e 4, e 5, e 6, e 7])
theorem dayAll_at {h : Nat → Int32} {c : Nat} : ∀ n, c < n → ∀ w, w < 8 → dayAll h n (12 + 8 * c + w) = dayM h c (12 + 8 * c + w) := by
  intro n
  induction n with
  | zero => intro hc; exact absurd hc (Nat.not_lt_zero _)
  | succ n ih =>
    intro hc w hw
    show dayM (dayAll h n) n (12 + 8 * c + w) = _
    by_cases z : c = n
    · subst z
      exact dayM_cg (fun w hw => dayAll_ot c hw (Nat.le_refl _)) (dayAll_lo h c (by decide)) w hw
    · rw [dayM_ot hw z]; exact ih (by omega) w hw
theorem passD_last {h : Nat → Int32} {c : Nat} (hc : c < cn h) : ∀ d, ∀ w, w < 8 → passD h d (12 + 8 * c + w) = lastN h c d (12 + 8 * c + w) := by
  intro d
  induction d with
  | zero => intro w _; rfl
  | succ d ih =>
    intro w hw
    show dayAll (passD h d) (cn h) (12 + 8 * c + w) = dayM (lastN h c d) c (12 + 8 * c + w)
    rw [dayAll_at _ hc w hw]
    exact dayM_cg ih (by rw [passD_lo h d (by decide), lastN_lo h c d (by omega)]) w hw
theorem dayM_B {h : Nat → Int32} {B c : Nat} (b : Bd h B c) (hs : inB (h (12 + 8 * c + 3)) (-20) 20 = true) (h1 : 43200 ≤ B) (h2 : B + 159 < 2 ^ 30) : Bd (dayM h c) (B + 159) c := by
  obtain ⟨r1, r2⟩ := rt_B b hs
  obtain ⟨b1, b2, b3⟩ := b
  have e : (h (12 + 8 * c + 4) + rt h c).toInt = (h (12 + 8 * c + 4)).toInt + (rt h c).toInt := tI_add rfl rfl (by omega) (by omega)
  refine ⟨by rw [dayM_st (Or.inl (by decide))]; exact b1, ?_⟩
  unfold dayM
  split
  · split
    · rw [upd_self, show (43200 : Int32).toInt = 43200 from by decide]; omega
    · rw [upd_self, e]; omega
  · rw [upd_ne (by omega)]; omega
theorem passD_B {h : Nat → Int32} {D B : Nat} (W : Wk h) (v : ∀ c, c < cn h → IvC h D c) (b : ∀ c, c < cn h → Bd h B c) (h1 : 43200 ≤ B) : ∀ d, B + 159 * d < 2 ^ 30 → ∀ c, c < cn h → Bd (passD h d) (B + 159 * d) c := by
  intro d
  induction d with
  | zero => intro _ c hc; exact b c hc
  | succ d ih =>
    intro h2 c hc
    have i := ((dcD_Mx (f := h) W v d).2 c hc).2.2.1
    have := dayM_B (ih (by omega) c hc) i (by omega) (by omega)
    refine (this.congr ?_ ?_).mono (by omega)
    · exact dayAll_at _ hc 2 (by decide)
    · exact dayAll_at _ hc 4 (by decide)
/-! what each change keeps: (0 ≤ r, and the new State is well) or (r < 0, and nothing is changed) -/
def Ck (f F : Nat → Int32) (r : Int32) (B : Nat) : Prop := (0 ≤ r ∧ Iz F B ∧ goOk F) ∨ (r < 0 ∧ ¬ r < -6 ∧ F = f)
theorem Cg_z {f F f' : Nat → Int32} {r flt v : Int32} {B : Nat} (h : Cg f r F flt v f') (hf : ¬ flt < -6) (g : goOk f) (b : 0 ≤ r → ∀ c, c < cn F → Bd F B c) : Ck f F r B := by
  rcases h with ⟨_, e, h0, v1, eF⟩ | ⟨h1, e, eF⟩
  · have r0 := Ro.of v1 f eF
    refine Or.inl ⟨by rw [e]; exact h0, ⟨v1.congr r0.2, b (by rw [e]; exact h0)⟩, ?_⟩
    rw [eF]; exact goOk_Mx v1 g
  · exact Or.inr ⟨by rw [e]; exact h1, by rw [e]; exact hf, eF⟩
theorem rsF_hi {f : Nat → Int32} {x v : Int32} {j : Nat} (hj : 4 ≤ j) : rsF f x v j = f j := by
  unfold rsF
  by_cases h1 : x < 0
  · rw [if_pos h1]
  · rw [if_neg h1]
    by_cases h2 : 4 ≤ x
    · rw [if_pos h2]
    · rw [if_neg h2]
      by_cases h3 : inB v 1 (if ix x = 0 then 999 else 30) = true
      · rw [if_pos h3]
        obtain ⟨k, hk, rfl⟩ := nI_of h1
        have h4 : ¬ 4 ≤ k := fun z => h2 ((nI_leI (a := 4) (b := k) (by decide) hk).mpr z)
        rw [ix_nI hk, upd_ne (by omega)]
      · rw [if_neg h3]
section QC
variable {f : Nat → Int32} {B : Nat}
theorem ck_set (z : Iz f B) (g : goOk f) (x v : Int32) : Ck f (rsF f x v) (rsR f x v) B := Cg_z (Cg_set z.1.ro x v) (by unfold setE; first | (split <;> first | decide | (split <;> first | decide | (split <;> first | decide | (split <;> decide)))) | decide) g (fun _ c hc => by
  rw [cn_low (rsF_hi (by decide))] at hc
  exact (z.2 c hc).congr (rsF_hi (by omega)) (rsF_hi (by omega)))
theorem ck_hang (z : Iz f B) (g : goOk f) (h u d : Int32) : Ck f (acF f h u d) (acR f h u d) B := Cg_z (Cg_hang z.1.ro h u d) (by unfold hangR; first | (split <;> first | decide | (split <;> first | decide | (split <;> first | decide | (split <;> decide)))) | decide) g (fun _ => by
  unfold acF
  split
  · split
    · split
      · next hd =>
        split
        · next hn =>
          intro c hc
          rw [show cn (upd (begC f (cn f) h u d) 5 (nI (cn f + 1))) = cn f + 1 by show (upd _ 5 _ 5).toNatClampNeg = _; rw [upd_self]; exact nI_clamp (by omega)] at hc
          by_cases y : c < cn f
          · exact (z.2 c y).congr (by rw [upd_ne (by omega), begC_out (by omega)]) (by rw [upd_ne (by omega), begC_out (by omega)])
          · have ec : c = cn f := by omega
            subst ec
            unfold Bd
            rw [upd_ne (by omega), upd_ne (by omega)]
            have e2 : begC f (cn f) h u d (12 + 8 * cn f + 2) = d := by simp [begC, upd]
            have e4 : begC f (cn f) h u d (12 + 8 * cn f + 4) = 0 := by simp [begC, upd]
            rw [e2, e4, show (0 : Int32).toInt = 0 from by decide]
            exact ⟨hd, by omega, by omega⟩
        · exact z.2
      · exact z.2
    · exact z.2
  · exact z.2)
theorem ck_lad (z : Iz f B) (g : goOk f) (u : Int32) : Ck f (alF f u) (alR f u) B := Cg_z (Cg_lad z.1.ro u) (by unfold lddR; first | (split <;> first | decide | (split <;> first | decide | (split <;> first | decide | (split <;> decide)))) | decide) g (fun _ => by
  unfold alF
  split
  · split
    · next hl =>
      intro c hc
      rw [cn_low (by rw [upd_ne (by decide), upd_ne (by omega)])] at hc
      exact (z.2 c hc).congr (by rw [upd_ne (by omega), upd_ne (by omega)]) (by rw [upd_ne (by omega), upd_ne (by omega)])
    · exact z.2
  · exact z.2)
theorem ck_scr (z : Iz f B) (g : goOk f) (x t : Int32) : Ck f (tsF f x t) (tsR f x t) B := Cg_z (Cg_scr z.1.ro x t) (by unfold scE; first | (split <;> first | decide | (split <;> first | decide | (split <;> first | decide | (split <;> decide)))) | decide) g (fun _ => by
  unfold tsF
  split
  · split
    · split
      · intro c hc
        rw [cn_low (by rw [upd_ne (by omega)])] at hc
        exact (z.2 c hc).congr (by rw [upd_ne (by omega)]) (by rw [upd_ne (by omega)])
      · exact z.2
    · exact z.2
  · exact z.2)
theorem chC_B {s : Int32} {S : Int} (hs : s.toInt = S) (h1 : -3600 ≤ S) (h2 : S ≤ 3600) (hB : B < 2 ^ 30) (b : ∀ c, c < cn f → Bd f B c) : ∀ k, k ≤ cn f → ∀ c, c < cn f → (k ≤ c → Bd (chC f s k) B c) ∧ (c < k → Bd (chC f s k) (B + 3600) c) := by
  intro k
  induction k with
  | zero => intro _ c hc; exact ⟨fun _ => b c hc, fun y => absurd y (Nat.not_lt_zero _)⟩
  | succ k ih =>
    intro hk c hc
    obtain ⟨i1, i2⟩ := ih (by omega) c hc
    unfold chC
    split
    · exact ⟨fun y => i1 (by omega), fun y => if q : c < k then i2 q else (i1 (by omega)).mono (by omega)⟩
    · refine ⟨fun y => (i1 (by omega)).congr (by rw [upd_ne (by omega)]) (by rw [upd_ne (by omega)]), fun y => ?_⟩
      by_cases q : c = k
      · subst q
        obtain ⟨b1, b2, b3⟩ := i1 (Nat.le_refl _)
        refine ⟨by rw [upd_ne (by omega)]; exact b1, ?_⟩
        rw [upd_self, tI_add rfl hs (by omega) (by omega)]; omega
      · exact (i2 (by omega)).congr (by rw [upd_ne (by omega)]) (by rw [upd_ne (by omega)])
theorem ck_chg (z : Iz f B) (g : goOk f) (hB : B < 2 ^ 30) (x : Int32) : Ck f (ccF f x) (ccR f x) (B + 3600) := Cg_z (Cg_chg z.1.ro x) (by unfold chE; first | (split <;> first | decide | (split <;> first | decide | (split <;> first | decide | (split <;> decide)))) | decide) g (fun _ => by
  unfold ccF
  split
  · intro c hc
    rw [cn_low (chC_low f 3600 _ (by decide))] at hc
    exact (chC_B (s := 3600) (S := 3600) (by decide) (by decide) (by decide) hB z.2 (cn f) (Nat.le_refl _) c hc).2 hc
  · split
    · intro c hc
      rw [cn_low (chC_low f (-3600) _ (by decide))] at hc
      exact (chC_B (s := -3600) (S := -3600) (by decide) (by decide) (by decide) hB z.2 (cn f) (Nat.le_refl _) c hc).2 hc
    · exact fun c hc => (z.2 c hc).mono (by omega))
theorem ps_B (z : Iz f B) (hB1 : 43200 ≤ B) {i : Nat} (hi : i ≤ 99) (hB : B + 159 * i < 2 ^ 30) : ∀ c, c < cn f → Bd (psW f (nI i)) (B + 159 * i) c := by
  intro c hc
  obtain ⟨D, hD, h4, W, S, vc⟩ := id z.1
  have d1 := (dcD_Mx (f := f) W vc i).1
  rw [Mx_self] at d1
  have e1 : psW f (nI i) = Mx (cn f) (pasF f i) f := by
    unfold psW pasF
    rw [ix_nI (by omega), d1, Mx_upd (by omega)]
  have b := passD_B W vc z.2 hB1 i hB c hc
  refine b.congr ?_ ?_
  · rw [e1, Mx_in (by omega)]; unfold pasF; rw [upd_ne (by omega)]
  · rw [e1, Mx_in (by omega)]; unfold pasF; rw [upd_ne (by omega)]
theorem ck_pass (z : Iz f B) (g : goOk f) (hB1 : 43200 ≤ B) {i : Nat} (hi : i ≤ 99) (hB : B + 159 * i < 2 ^ 30) : Ck f (psF f (nI i)) (psR f (nI i)) (B + 159 * i) := Cg_z (Cg_pass z.1.ro (nI i)) (by unfold passR; first | (split <;> first | decide | (split <;> first | decide | (split <;> first | decide | (split <;> decide)))) | decide) g (fun _ => by
  unfold psF
  split
  · split
    · intro c hc
      have e5 : psW f (nI i) 5 = f 5 := by unfold psW; rw [upd_ne (by decide)]; exact dcD_low _ _ _ _ (by decide)
      rw [cn_low e5] at hc
      exact ps_B z hB1 hi hB c hc
    · exact fun c hc => (z.2 c hc).mono (by omega)
  · exact fun c hc => (z.2 c hc).mono (by omega))
theorem winC_24 {f : Nat → Int32} {B c k : Nat} {t : Int32} (b : Bd f B c) : Bd (winC f k t) B c := by
  have s4 : ∀ h : Nat → Int32, Bd h B c → Bd (setC h k) B c := by
    intro h b
    unfold setC
    refine ⟨by rw [upd_ne (by omega), upd_ne (by omega), upd_ne (by omega), upd_ne (by omega)]; exact b.1, ?_⟩
    rw [upd_ne (by omega), upd_ne (by omega)]
    by_cases q : c = k
    · subst q; rw [upd_self, show (0 : Int32).toInt = 0 from by decide]; omega
    · rw [upd_ne (by omega), upd_ne (by omega)]; exact b.2
  have t4 : Bd (turC f k) B c := by
    unfold turC
    split
    · split
      · exact b
      · split
        · exact b
        · exact b.congr (by rw [upd_ne (by omega)]) (by rw [upd_ne (by omega)])
    · split
      · split
        · exact b
        · split
          · exact b
          · exact b.congr (by rw [upd_ne (by omega)]) (by rw [upd_ne (by omega)])
      · exact b.congr (by rw [upd_ne (by omega)]) (by rw [upd_ne (by omega)])
  unfold winC
  split
  · exact s4 _ b
  · split
    · exact s4 _ t4
    · exact s4 _ b
theorem wbN_B {f w : Nat → Int32} {B c : Nat} (b : Bd f B c) : ∀ k, Bd (wbN f w k) B c := by
  intro k
  induction k with
  | zero => exact b
  | succ k ih => unfold wbN; split; exact winC_24 ih; exact ih
theorem ck_bw (z : Iz f B) (g : goOk f) {w : Nat → Int32} {L : Nat} (gd : gdN f w L) (hL : L ≤ 80) : Ck f (bwF f w L) (bwR f w L) B := Cg_z (Cg_bw z.1.ro gd hL) (by decide) g (fun _ => by
  unfold bwF
  split
  · split
    · intro c hc
      have e5 : upd (wbN f w L) 7 (f 7 + moN f w L) 5 = f 5 := by rw [upd_ne (by decide)]; exact wbN_low f w L (by decide)
      rw [cn_low e5] at hc
      exact (wbN_B (z.2 c hc) L).congr (by rw [upd_ne (by omega)]) (by rw [upd_ne (by omega)])
    · exact z.2
  · exact z.2)
end QC
