/-! the object, as the law knows it -/
def IN (C : MS) (pi : Nat → Nat) (d B : Nat) : Prop := d ≤ 6 ∧ C 10 0 = nI d ∧ piOk pi ∧ Iz (C 0) B ∧ (∀ k, k < 10 → goOk (C k)) ∧ ∀ j, j < d → Wk (C (pi j))
section INs
variable {C C1 : MS} {pi pi1 : Nat → Nat} {d B B' : Nat}
theorem IN.V (h : IN C pi d B) : Iv (C 0) := h.2.2.2.1.1
theorem IN.W (h : IN C pi d B) : Wk (C 0) := h.V.W
theorem IN.n16 (h : IN C pi d B) : cn (C 0) ≤ 16 := h.W.2.1
theorem IN.l4 (h : IN C pi d B) : ln (C 0) ≤ 4 := h.W.2.2.2
theorem IN.g (h : IN C pi d B) : goOk (C 0) := h.2.2.2.2.1 0 (by decide)
theorem IN.Ld (h : IN C pi d B) : Lad (C 0) := h.V.ro.L
theorem IN.Tt (h : IN C pi d B) : Tm (C 0) := h.V.ro.T
theorem IN.hist (h : IN C pi d B) : ∀ j, j < d → Wk (C (pi j)) ∧ goOk (C (pi j)) := fun j hj => ⟨h.2.2.2.2.2 j hj, h.2.2.2.2.1 _ (by have := h.2.2.1.1 j (by have := h.1; omega); omega)⟩
theorem IN.mono (h : IN C pi d B) (hB : B ≤ B') : IN C pi d B' := ⟨h.1, h.2.1, h.2.2.1, h.2.2.2.1.mono hB, h.2.2.2.2⟩
/-- what only rows behind the States change -/
theorem IN.row (h : IN C pi d B) (e : ∀ a, a < 10 → C1 a = C a) (e2 : C1 10 0 = C 10 0) : IN C1 pi d B := by
  refine ⟨h.1, by rw [e2]; exact h.2.1, h.2.2.1, by rw [e 0 (by decide)]; exact h.2.2.2.1, fun k hk => by rw [e k hk]; exact h.2.2.2.2.1 k hk, fun j hj => ?_⟩
  have := h.2.2.1.1 j (by have := h.1; omega)
  rw [e _ (by omega)]; exact h.2.2.2.2.2 j hj
theorem IN.rw (h : IN C pi d B) {L : Nat} {w : Nat → Int32} : IN (rwM C L w) pi d B := h.row (fun a ha => rwM_ne (by omega) (by omega)) (rwM_o (by decide))
theorem IN.m15 (h : IN C pi d B) {w : Nat → Int32} : IN (mrow C 15 w) pi d B := h.row (fun a ha => mrow_n _ (by omega) _) (by rw [mrow_n _ (by decide)])
/-- behind a change: the State before it is the one that is undone -/
def TP (C1 : MS) (pi1 : Nat → Nat) (d1 : Nat) (C : MS) (pi : Nat → Nat) (d : Nat) : Prop := 0 < d1 ∧ Ro (C1 (pi1 (d1 - 1))) (C 0) ∧ (0 < d → 1 < d1 ∧ C1 (pi1 (d1 - 2)) = C (pi (d - 1)))
theorem IN.op {F : Nat → Int32} {r : Int32} (h : IN C pi d B) (o : opC C pi d F r C1 pi1) (z : Ck (C 0) F r B') (hB : B ≤ B') : ∃ d1, IN C1 pi1 d1 B' ∧ C1 0 = F ∧ (0 ≤ r → TP C1 pi1 d1 C pi d) := by
  obtain ⟨h6, hd, hp, hz, hg, hw⟩ := id h
  have r0 : Ro (C 0) (C 0) := hz.1.ro
  have gF : Iz F B' ∧ goOk F := by
    rcases z with ⟨_, a, b⟩ | ⟨_, _, e⟩
    · exact ⟨a, b⟩
    · rw [e]; exact ⟨hz.mono hB, hg 0 (by decide)⟩
  have pj : ∀ j, j < 7 → 1 ≤ pi j ∧ pi j ≤ 7 := hp.1
  have hpd := pj d (by omega)
  have q1 : ∀ a, a ≠ pi d → prM C pi d a = C a := fun a ha => prM_ne ha
  have q2 : prM C pi d (pi d) = cpS (C (pi d)) (C 0) := mrow_s _ _ _
  have gs : goOk (cpS (C (pi d)) (C 0)) := goOk_cpS r0 (hg _ (by omega))
  have ws : Ro (cpS (C (pi d)) (C 0)) (C 0) := Ro.cpd r0 _
  have gp : ∀ k, k < 10 → goOk (prM C pi d k) := fun k hk => by
    by_cases e : k = pi d
    · rw [e, q2]; exact gs
    · rw [q1 k e]; exact hg k hk
  rcases o with ⟨h0, d6, rfl, ep⟩ | ⟨h0, d6, rfl, rfl⟩ | ⟨h0, rfl, ep⟩
  · have ep := ep.symm
    subst ep
    have t0 : ∀ a, a ≠ 0 → a ≠ 10 → mset (mrow (prM C pi d) 0 F) 10 0 (nI (d + 1)) a = prM C pi d a := fun a a0 a1 => by rw [mset_ne _ a1, mrow_n _ a0]
    have tF : mset (mrow (prM C pi d) 0 F) 10 0 (nI (d + 1)) 0 = F := by rw [mset_ne _ (by decide), mrow_s]
    have tp : ∀ j, j < 7 → mset (mrow (prM C pi d) 0 F) 10 0 (nI (d + 1)) (pi j) = if j = d then cpS (C (pi d)) (C 0) else C (pi j) := fun j hj => by
      have := pj j hj
      rw [t0 _ (by omega) (by omega)]
      by_cases e : j = d
      · rw [if_pos e, e, q2]
      · rw [if_neg e, q1 _ (fun y => e (hp.2 j d hj (by omega) y))]
    refine ⟨d + 1, ⟨by omega, mset_eq _ _ _ _, hp, by rw [tF]; exact gF.1, fun k hk => ?_, fun j hj => ?_⟩, tF, fun _ => ⟨by omega, ?_, fun dp => ⟨by omega, ?_⟩⟩⟩
    · by_cases k0 : k = 0
      · rw [k0, tF]; exact gF.2
      · rw [t0 k k0 (by omega)]; exact gp k hk
    · rw [tp j (by omega)]
      by_cases e : j = d
      · rw [if_pos e]; exact ws.W
      · rw [if_neg e]; exact hw j (by omega)
    · rw [show d + 1 - 1 = d by omega, tp d (by omega), if_pos rfl]; exact ws
    · rw [show d + 1 - 2 = d - 1 by omega, tp (d - 1) (by omega), if_neg (by omega)]
  · have ed : d = 6 := by omega
    subst ed
    have t0 : ∀ a, a ≠ 0 → mrow (prM C pi 6) 0 F a = prM C pi 6 a := fun a a0 => mrow_n _ a0 _
    have tp : ∀ j, j < 7 → mrow (prM C pi 6) 0 F (pi j) = if j = 6 then cpS (C (pi 6)) (C 0) else C (pi j) := fun j hj => by
      have := pj j hj
      rw [t0 _ (by omega)]
      by_cases e : j = 6
      · rw [if_pos e, e, q2]
      · rw [if_neg e, q1 _ (fun y => e (hp.2 j 6 hj (by omega) y))]
    have rp : ∀ j, j < 6 → mrow (prM C pi 6) 0 F (rot pi j) = if j = 5 then cpS (C (pi 6)) (C 0) else C (pi (j + 1)) := fun j hj => by
      rw [rot_e (by omega), if_neg (by omega), tp (j + 1) (by omega)]
      by_cases e : j = 5
      · rw [if_pos e, if_pos (by omega)]
      · rw [if_neg e, if_neg (by omega)]
    refine ⟨6, ⟨by omega, by rw [t0 _ (by decide), q1 _ (by omega)]; exact hd, rot_ok hp, by rw [mrow_s]; exact gF.1, fun k hk => ?_, fun j hj => ?_⟩, mrow_s _ _ _, fun _ => ⟨by omega, ?_, fun dp => ⟨by omega, ?_⟩⟩⟩
    · by_cases k0 : k = 0
      · rw [k0, mrow_s]; exact gF.2
      · rw [t0 k k0]; exact gp k hk
    · rw [rp j hj]
      by_cases e : j = 5
      · rw [if_pos e]; exact ws.W
      · rw [if_neg e]; exact hw (j + 1) (by omega)
    · rw [show 6 - 1 = 5 by omega, rp 5 (by decide), if_pos rfl]; exact ws
    · rw [show 6 - 2 = 4 by omega, rp 4 (by decide), if_neg (by decide)]
  · have ep := ep.symm
    subst ep
    have eF : F = C 0 := by
      rcases z with ⟨a, _⟩ | ⟨_, _, e⟩
      · exact absurd a h0
      · exact e
    subst eF
    refine ⟨d, ⟨h6, by rw [mrow_n _ (by decide), q1 _ (by omega)]; exact hd, hp, by rw [mrow_s]; exact gF.1, fun k hk => ?_, fun j hj => ?_⟩, mrow_s _ _ _, fun y => absurd y h0⟩
    · by_cases k0 : k = 0
      · rw [k0, mrow_s]; exact gF.2
      · rw [mrow_n _ k0]; exact gp k hk
    · have := pj j (by omega)
      rw [mrow_n _ (by omega), q1 _ (fun y => by have := hp.2 j d (by omega) (by omega) y; omega)]
      exact hw j hj
theorem IN.un (h : IN C pi d B) (hd : 0 < d) {f0 : Nat → Int32} (r : Ro (C (pi (d - 1))) f0) (z : Iz f0 B') (e : C1 = mrow (mset C 10 0 (nI (d - 1))) 0 (cpS (C 0) (C (pi (d - 1))))) : IN C1 pi (d - 1) B' ∧ Ro (C1 0) f0 ∧ (1 < d → C1 (pi (d - 2)) = C (pi (d - 2))) := by
  subst e
  obtain ⟨h6, hd0, hp, hz, hg, hw⟩ := id h
  have pj : ∀ j, j < 7 → 1 ≤ pi j ∧ pi j ≤ 7 := hp.1
  have t0 : ∀ a, a ≠ 0 → a ≠ 10 → mrow (mset C 10 0 (nI (d - 1))) 0 (cpS (C 0) (C (pi (d - 1)))) a = C a := fun a a0 a1 => by rw [mrow_n _ a0, mset_ne _ a1]
  have r1 : Ro (cpS (C 0) (C (pi (d - 1)))) f0 := Ro.cpd r _
  refine ⟨⟨by omega, by rw [mrow_n _ (by decide)]; exact mset_eq _ _ _ _, hp, by rw [mrow_s]; exact z.ro r1.2, fun k hk => ?_, fun j hj => ?_⟩, by rw [mrow_s]; exact r1, fun dp => ?_⟩
  · by_cases k0 : k = 0
    · rw [k0, mrow_s]; exact goOk_cpS r (hg 0 (by decide))
    · rw [t0 k k0 (by omega)]; exact hg k hk
  · have := pj j (by omega)
    rw [t0 _ (by omega) (by omega)]; exact hw j (by omega)
  · have := pj (d - 2) (by omega)
    exact t0 _ (by omega) (by omega)
theorem Ck.ng {f F : Nat → Int32} {r : Int32} {B : Nat} (z : Ck f F r B) : ¬ r < -6 := by
  rcases z with ⟨a, _⟩ | ⟨_, b, _⟩
  · intro y
    rw [Int32.le_iff_toInt_le, show (0 : Int32).toInt = 0 from by decide] at a
    rw [Int32.lt_iff_toInt_lt, show (-6 : Int32).toInt = -6 from by decide] at y
    omega
  · exact b
theorem IN.dn {F : Nat → Int32} {r r0 : Int32} (h : IN C pi d B) (p : r0 = r ∧ opC C pi d F r C1 pi1) (z : Ck (C 0) F r B') (hB : B ≤ B') (hB2 : B' ≤ B + 5000) : ¬ r0 < -6 ∧ ∃ d1, IN C1 pi1 d1 (B + 5000) := by
  obtain ⟨d1, i, _⟩ := h.op p.2 z hB
  exact ⟨by rw [p.1]; exact z.ng, d1, i.mono hB2⟩
theorem IN.dr {x r : Int32} (h : IN C pi d B) (p : (x < 0 ∧ r = -2 ∧ C1 = C ∧ pi1 = pi) ∨ (¬ x < 0 ∧ (chL x (cn (C 0))) = 0 ∧ r = -5 ∧ C1 = (rwM C (chL x (cn (C 0))) (chW (C 14) x (cn (C 0)))) ∧ pi1 = pi) ∨ (¬ x < 0 ∧ ¬ (chL x (cn (C 0))) = 0 ∧ r = bwR (C 0) (chW (C 14) x (cn (C 0))) (chL x (cn (C 0))) ∧ opC (rwM C (chL x (cn (C 0))) (chW (C 14) x (cn (C 0)))) pi d (bwF (C 0) (chW (C 14) x (cn (C 0))) (chL x (cn (C 0)))) (bwR (C 0) (chW (C 14) x (cn (C 0))) (chL x (cn (C 0)))) C1 pi1)) : ¬ r < -6 ∧ ∃ d1, IN C1 pi1 d1 (B + 5000) := by
  have hL := chL_le x (cn (C 0))
  have h16 := h.n16
  rcases p with ⟨_, rfl, rfl, rfl⟩ | ⟨_, _, rfl, rfl, rfl⟩ | ⟨_, _, e, o⟩
  · exact ⟨by decide, d, h.mono (by omega)⟩
  · exact ⟨by decide, d, h.rw.mono (by omega)⟩
  · have z : Ck (rwM C (chL x (cn (C 0))) (chW (C 14) x (cn (C 0))) 0) (bwF (C 0) (chW (C 14) x (cn (C 0))) (chL x (cn (C 0)))) (bwR (C 0) (chW (C 14) x (cn (C 0))) (chL x (cn (C 0)))) B := by
      rw [rwM_ne (by decide) (by decide)]
      exact ck_bw h.2.2.2.1 h.g (chW_gd h.W _ _) (by omega)
    exact h.rw.dn ⟨e, o⟩ z (Nat.le_refl _) (by omega)
/-! what the questions answer -/
theorem q_c0 (f : Nat → Int32) (a b : Int32) : cntC f a b 0 = f 4 := by simp [cntC]
theorem q_c1 {f : Nat → Int32} (W : Wk f) (a b : Int32) : cntC f a b 1 = nI (cn f) := by rw [← W.1]; simp [cntC]
theorem q_c2 {f : Nat → Int32} (W : Wk f) (a b : Int32) : cntC f a b 2 = nI (ln f) := by rw [← W.2.2.1]; simp [cntC]
theorem q_c3 (f : Nat → Int32) (a b : Int32) : cntC f a b 3 = stC f (cn f) := by simp [cntC]
theorem q_c4 (f : Nat → Int32) (a b : Int32) : cntC f a b 4 = nI (ofN f (cn f)) := by simp [cntC]
theorem q_c5 (f : Nat → Int32) (a b : Int32) : cntC f a b 5 = nI (cwN f (cn f)) := by simp [cntC]
theorem q_c6 (f : Nat → Int32) (a b : Int32) : cntC f a b 6 = f 7 := by simp [cntC]
theorem q_c7 (f : Nat → Int32) (a b : Int32) : cntC f a b 7 = twN f (cn f) := by simp [cntC]
theorem q_c8 (f : Nat → Int32) (a b : Int32) : cntC f a b 8 = f 0 := by simp [cntC]
theorem q_c10 (f : Nat → Int32) (a b : Int32) : cntC f a b 10 = f 2 := by simp [cntC]
theorem q_c11 (f : Nat → Int32) (a b : Int32) : cntC f a b 11 = f 3 := by simp [cntC]
section OF
variable {f : Nat → Int32} {c : Nat}
theorem q_ix (W : Wk f) (hc : c < cn f) : isCb f (nI c) = true ∧ ix (nI c) = c := ⟨isCb_t W ⟨hc, rfl⟩, ix_nI (by have := W.2.1; omega)⟩
theorem q_on (W : Wk f) (w : Int32) : ofR f (nI (cn f)) w = -1 := by
  unfold ofR
  rw [isCb_f W]
  · rfl
  · rintro ⟨i, hi, e⟩
    have := W.2.1
    have := (nI_eq (by omega) (by omega)).mp e; omega
theorem q_of {w v : Int32} (W : Wk f) (hc : c < cn f) (h : (if w = 0 then f (12 + 8 * c + 0) else if w = 1 then f (12 + 8 * c + 1) else if w = 2 then f (12 + 8 * c + 2) + 100 else if w = 3 then f (12 + 8 * c + 3) + 20
     else if w = 4 then f (12 + 8 * c + 4) + 1000000000 else if w = 5 then f (12 + 8 * c + 5) else if w = 6 then f (12 + 8 * c + 6) else if w = 7 then (if offB f c (f 0) = true then 0 else 1)
     else if w = 8 then o2i (ladF f c) else if w = 9 then (if canW f c = true then 1 else 0) else if w = 10 then f (12 + 8 * c + 7) else -2) = v) : ofR f (nI c) w = v := by
  unfold ofR
  obtain ⟨a, b⟩ := q_ix W hc
  rw [if_pos a, b]; exact h
theorem q_o0 (W : Wk f) (hc : c < cn f) : ofR f (nI c) 0 = f (12 + 8 * c + 0) := q_of W hc (by simp)
theorem q_o1 (W : Wk f) (hc : c < cn f) : ofR f (nI c) 1 = f (12 + 8 * c + 1) := q_of W hc (by simp)
theorem q_o3 (W : Wk f) (hc : c < cn f) : ofR f (nI c) 3 = f (12 + 8 * c + 3) + 20 := q_of W hc (by simp)
theorem q_o4 (W : Wk f) (hc : c < cn f) : ofR f (nI c) 4 = f (12 + 8 * c + 4) + 1000000000 := q_of W hc (by simp)
theorem q_o5 (W : Wk f) (hc : c < cn f) : ofR f (nI c) 5 = f (12 + 8 * c + 5) := q_of W hc (by simp)
theorem q_o6 (W : Wk f) (hc : c < cn f) : ofR f (nI c) 6 = f (12 + 8 * c + 6) := q_of W hc (by simp)
theorem q_o7t (W : Wk f) (hc : c < cn f) (h : offB f c (f 0) = true) : ofR f (nI c) 7 = 0 := q_of W hc (by simp [h])
theorem q_o7f (W : Wk f) (hc : c < cn f) (h : offB f c (f 0) = false) : ofR f (nI c) 7 = 1 := q_of W hc (by simp [h])
theorem q_o8 (W : Wk f) (hc : c < cn f) : ofR f (nI c) 8 = o2i (ladF f c) := q_of W hc (by simp)
theorem q_o9t (W : Wk f) (hc : c < cn f) (h : canW f c = true) : ofR f (nI c) 9 = 1 := q_of W hc (by simp [h])
theorem q_o9f (W : Wk f) (hc : c < cn f) (h : canW f c = false) : ofR f (nI c) 9 = 0 := q_of W hc (by simp [h])
theorem q_o10 (W : Wk f) (hc : c < cn f) : ofR f (nI c) 10 = f (12 + 8 * c + 7) := q_of W hc (by simp)
theorem q_la (W : Wk f) : (if isCb f (nI c) = true then nI (duS f (ix (nI c))) else -1) = nI (duS f c) ∨ ¬ c < cn f := by
  by_cases hc : c < cn f
  · obtain ⟨a, b⟩ := q_ix W hc
    rw [if_pos a, b]; exact Or.inl rfl
  · exact Or.inr hc
theorem q_las (W : Wk f) (hc : c < cn f) : (if isCb f (nI c) = true then nI (duS f (ix (nI c))) else -1) = nI (duS f c) := by
  obtain ⟨a, b⟩ := q_ix W hc
  rw [if_pos a, b]
theorem q_ln (W : Wk f) : lofR f (nI (ln f)) = -1 := lofR_no W (fun ⟨i, hi, e⟩ => by
  have := W.2.2.2
  have := (nI_eq (by omega) (by omega)).mp e; omega)
end OF
section BT
variable {f : Nat → Int32} {x r : Int32} {t : Nat}
theorem IN.tk0 (h : IN C pi d B) (e : C 0 = f) (x0 : ¬ x < 0) (hL : chL x (cn f) = 0) {v : Int32} {T2 : MS} (p : ((x < 0 ∧ r = -2 ∧ C1 = C) ∨ (¬ x < 0 ∧ (chL x (cn (C 0))) = 0 ∧ r = -5 ∧ C1 = (rwM C (chL x (cn (C 0))) (chW (C 14) x (cn (C 0))))) ∨ (¬ x < 0 ∧ ¬ (chL x (cn (C 0))) = 0 ∧ r = v ∧ C1 = T2)) ∧ pi1 = pi) : r = -5 ∧ IN C1 pi d B ∧ C1 0 = f ∧ pi1 = pi := by
  subst e
  obtain ⟨p, rfl⟩ := p
  rcases p with ⟨a, _⟩ | ⟨_, _, rfl, rfl⟩ | ⟨_, a, _⟩
  · exact absurd a x0
  · exact ⟨rfl, h.rw, rwM_ne (by decide) (by decide), rfl⟩
  · exact absurd hL a
theorem IN.tk (h : IN C pi d B) (e : C 0 = f) (x0 : ¬ x < 0) (hL : ¬ chL x (cn f) = 0) (w : Nat → Int32) (ht : moN f (chW w x (cn f)) (chL x (cn f)) = nI t) (p : ((x < 0 ∧ r = -2 ∧ C1 = C) ∨ (¬ x < 0 ∧ (chL x (cn (C 0))) = 0 ∧ r = -5 ∧ C1 = (rwM C (chL x (cn (C 0))) (chW (C 14) x (cn (C 0))))) ∨ (¬ x < 0 ∧ ¬ (chL x (cn (C 0))) = 0 ∧ r = moN (C 0) (chW (C 14) x (cn (C 0))) (chL x (cn (C 0))) ∧ C1 = (rwM C (chL x (cn (C 0))) (chW (C 14) x (cn (C 0)))))) ∧ pi1 = pi) : r = nI t ∧ IN C1 pi d B ∧ C1 0 = f ∧ pi1 = pi := by
  subst e
  obtain ⟨p, rfl⟩ := p
  rcases p with ⟨a, _⟩ | ⟨_, a, _⟩ | ⟨_, _, rfl, rfl⟩
  · exact absurd a x0
  · exact absurd a hL
  · exact ⟨(moN_cong _ (ch_any x _ _ _)).trans ht, h.rw, rwM_ne (by decide) (by decide), rfl⟩
theorem IN.wy (h : IN C pi d B) (e : C 0 = f) (x0 : ¬ x < 0) (hL : ¬ chL x (cn f) = 0) (p : ((x < 0 ∧ r = -2 ∧ C1 = C) ∨ (¬ x < 0 ∧ (chL x (cn (C 0))) = 0 ∧ r = -5 ∧ C1 = (rwM C (chL x (cn (C 0))) (chW (C 14) x (cn (C 0))))) ∨ (¬ x < 0 ∧ ¬ (chL x (cn (C 0))) = 0 ∧ r = wayC (moN (C 0) (chW (C 14) x (cn (C 0))) (chL x (cn (C 0)))) (moN (C 0) (trN (chW (C 14) x (cn (C 0))) (chL x (cn (C 0))) ((chL x (cn (C 0))) / 2)) (chL x (cn (C 0)))) ∧ C1 = (rwM C (chL x (cn (C 0))) (trN (chW (C 14) x (cn (C 0))) (chL x (cn (C 0))) ((chL x (cn (C 0))) / 2))))) ∧ pi1 = pi) : ∃ wy, wy < 3 ∧ r = nI wy ∧ (chL x (cn f) = 1 → wy = 2) ∧ IN C1 pi d B ∧ C1 0 = f ∧ pi1 = pi := by
  subst e
  obtain ⟨p, rfl⟩ := p
  rcases p with ⟨a, _⟩ | ⟨_, a, _⟩ | ⟨_, _, er, rfl⟩
  · exact absurd a x0
  · exact absurd a hL
  · by_cases z : chL x (cn (C 0)) = 1
    · refine ⟨2, by decide, ?_, fun _ => rfl, h.rw, rwM_ne (by decide) (by decide), rfl⟩
      rw [er, z, way_1]; rfl
    · obtain ⟨wy, h3, ew⟩ := way_3 (moN (C 0) (chW (C 14) x (cn (C 0))) (chL x (cn (C 0)))) (moN (C 0) (trN (chW (C 14) x (cn (C 0))) (chL x (cn (C 0))) ((chL x (cn (C 0))) / 2)) (chL x (cn (C 0))))
      exact ⟨wy, h3, er.trans ew, fun y => absurd y z, h.rw, rwM_ne (by decide) (by decide), rfl⟩
def RP (C : MS) (pi : Nat → Nat) (d : Nat) (x r : Int32) (C1 : MS) (pi1 : Nat → Nat) : Prop := (x < 0 ∧ r = -2 ∧ C1 = C ∧ pi1 = pi) ∨ (¬ x < 0 ∧ (chL x (cn (C 0))) = 0 ∧ r = -5 ∧ C1 = (rwM C (chL x (cn (C 0))) (chW (C 14) x (cn (C 0)))) ∧ pi1 = pi) ∨ (¬ x < 0 ∧ ¬ (chL x (cn (C 0))) = 0 ∧ r = bwR (C 0) (chW (C 14) x (cn (C 0))) (chL x (cn (C 0))) ∧ opC (rwM C (chL x (cn (C 0))) (chW (C 14) x (cn (C 0)))) pi d (bwF (C 0) (chW (C 14) x (cn (C 0))) (chL x (cn (C 0)))) (bwR (C 0) (chW (C 14) x (cn (C 0))) (chL x (cn (C 0)))) C1 pi1)
theorem IN.rd0 (h : IN C pi d B) (e : C 0 = f) (x0 : ¬ x < 0) (hL : chL x (cn f) = 0) (p : RP C pi d x r C1 pi1) : r = -5 ∧ IN C1 pi1 d B := by
  subst e
  rcases p with ⟨a, _⟩ | ⟨_, _, rfl, rfl, rfl⟩ | ⟨_, a, _⟩
  · exact absurd a x0
  · exact ⟨rfl, h.rw⟩
  · exact absurd hL a
theorem IN.rd (h : IN C pi d B) (e : C 0 = f) (x0 : ¬ x < 0) (hL : ¬ chL x (cn f) = 0) (w : Nat → Int32) (h30 : t < 2 ^ 30) (ht : moN f (chW w x (cn f)) (chL x (cn f)) = nI t) (p : RP C pi d x r C1 pi1) : r = nI t ∧ ∃ d1, IN C1 pi1 d1 B ∧ BW f x (C1 0) t ∧ 0 < d1 ∧ Ro (C1 (pi1 (d1 - 1))) f := by
  subst e
  have hl := chL_le x (cn (C 0))
  have h16 := h.n16
  rcases p with ⟨a, _⟩ | ⟨_, a, _⟩ | ⟨_, _, er, o⟩
  · exact absurd a x0
  · exact absurd a hL
  · have ht2 : moN (C 0) (chW (C 14) x (cn (C 0))) (chL x (cn (C 0))) = nI t := (moN_cong _ (ch_any x _ _ _)).trans ht
    obtain ⟨b1, b2⟩ := bw_all h.V x (C 14) h30 ht2
    have z : Ck (rwM C (chL x (cn (C 0))) (chW (C 14) x (cn (C 0))) 0) (bwF (C 0) (chW (C 14) x (cn (C 0))) (chL x (cn (C 0)))) (bwR (C 0) (chW (C 14) x (cn (C 0))) (chL x (cn (C 0)))) B := by
      rw [rwM_ne (by decide) (by decide)]
      exact ck_bw h.2.2.2.1 h.g (chW_gd h.W _ _) (by omega)
    obtain ⟨d1, i1, i2, i3⟩ := h.rw.op o z (Nat.le_refl _)
    obtain ⟨t1, t2, _⟩ := i3 (by rw [b1]; exact nI_pos' (by omega))
    rw [rwM_ne (by decide) (by decide)] at t2
    exact ⟨er.trans b1, d1, i1, by rw [i2]; exact b2, t1, t2⟩
end BT
theorem un_ok {r : Int32} (hd : 0 < d) {T2 : MS} (p : ((d = 0 ∧ r = -5 ∧ C1 = C) ∨ (0 < d ∧ r = nI (d - 1) ∧ C1 = T2)) ∧ pi1 = pi) : r = nI (d - 1) ∧ C1 = T2 ∧ pi1 = pi := by
  obtain ⟨p, e⟩ := p
  rcases p with ⟨a, _⟩ | ⟨_, a, b⟩
  · omega
  · exact ⟨a, b, e⟩
theorem lad_st {f : Nat → Int32} {k ru la : Nat} {r : Int32} (er : r = nI ru) (hru : ru < 2 ^ 31) (ela : f (8 + k) = nI la) (hla : la < 2 ^ 31) : (ladP f r k = none → o2i (ladP f r (k + 1)) = if 0 < ru ∧ ru ≤ la then nI k else -6) ∧ ∀ p lp, ladP f r k = some p → f (8 + p) = nI lp → lp < 2 ^ 31 → o2i (ladP f r (k + 1)) = if (0 < ru ∧ ru ≤ la) ∧ la < lp then nI k else nI p := by
  subst er
  have k1 : (¬ nI ru ≤ 0 ∧ ¬ f (8 + k) < nI ru) ↔ (0 < ru ∧ ru ≤ la) := by
    rw [ela, show (0 : Int32) = nI 0 from rfl, nI_leI hru (by decide), nI_ltI hla hru]; omega
  constructor
  · intro e
    unfold ladP
    rw [e]
    show o2i (if ¬ nI ru ≤ 0 ∧ ¬ f (8 + k) < nI ru then some k else none) = _
    by_cases z : 0 < ru ∧ ru ≤ la
    · rw [if_pos z, if_pos (k1.mpr z)]; rfl
    · rw [if_neg z, if_neg (fun y => z (k1.mp y))]; rfl
  · intro p lp e elp hlp
    unfold ladP
    rw [e]
    show o2i (if (¬ nI ru ≤ 0 ∧ ¬ f (8 + k) < nI ru) ∧ ¬ f (8 + p) ≤ f (8 + k) then some k else some p) = _
    have k2 : (¬ f (8 + p) ≤ f (8 + k)) ↔ la < lp := by rw [ela, elp, nI_leI hlp hla]; omega
    by_cases z : (0 < ru ∧ ru ≤ la) ∧ la < lp
    · rw [if_pos z, if_pos ⟨k1.mpr z.1, k2.mpr z.2⟩]; rfl
    · rw [if_neg z, if_neg (fun y => z ⟨k1.mp y.1, k2.mp y.2⟩)]; rfl
end INs
