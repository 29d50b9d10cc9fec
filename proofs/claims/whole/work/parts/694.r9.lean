/-! every call keeps the relation and is answered alike: what either side promises, put together -/
section R9
variable {C C1 : MS} {pi pi1 : Nat → Nat} {M M1 : MS} {d len : Nat} {r r2 : Int32}
theorem Rel.ro (R : Rel C pi M d len) : Ro (C 0) (M 0) := R.2.2.1
theorem Rel.g0 (R : Rel C pi M d len) : goOk (C 0) := R.2.2.2.1 0 (by decide)
theorem Rel.hh (R : Rel C pi M d len) : ∀ j, j < d → Wk (C (pi j)) ∧ goOk (C (pi j)) := fun j hj => by
  have p := R.1.1.1 j (by have := R.1.2.1; omega)
  exact ⟨(R.2.2.2.2.1 j hj).W, R.2.2.2.1 (pi j) (by omega)⟩
theorem Rel.sl (R : Rel C pi M d len) : ∀ j, j < 2 → C 11 j ≠ 0 → Wk (C (8 + j)) ∧ goOk (C (8 + j)) := fun j hj h => by
  rcases R.2.2.2.2.2 j hj with ⟨_, z⟩ | ⟨_, _, z⟩
  · exact absurd z h
  · exact ⟨z.W, R.2.2.2.1 (8 + j) (by omega)⟩
theorem Rel.z5 (R : Rel C pi M d len) : ∀ i, i < 2 → M 5 i = 0 ∨ M 5 i = 1 := fun j hj => by
  rcases R.2.2.2.2.2 j hj with ⟨z, _⟩ | ⟨z, _⟩
  · exact Or.inl z
  · exact Or.inr z
theorem rel_set (R : Rel C pi M d len) {x v : Int32} (hc : r = rsR (C 0) x v ∧ opC C pi d (rsF (C 0) x v) (rsR (C 0) x v) C1 pi1) (hm : opP (setE x v) (M 0 (ix x)) (upd (M 0) (ix x) v) M d r2 M1) : r = r2 ∧ RelE C1 pi1 M1 := by
  obtain ⟨a, b⟩ := R.op (Cg_set R.ro x v) hc.2 hm
  exact ⟨hc.1.trans a, b⟩
theorem rel_hang (R : Rel C pi M d len) {x y z : Int32} (hc : r = acR (C 0) x y z ∧ opC C pi d (acF (C 0) x y z) (acR (C 0) x y z) C1 pi1) (hm : opP (hangR (M 0) x y z) (nI (cn (M 0))) (newC (M 0) (cn (M 0)) x y z) M d r2 M1) : r = r2 ∧ RelE C1 pi1 M1 := by
  obtain ⟨a, b⟩ := R.op (Cg_hang R.ro x y z) hc.2 hm
  exact ⟨hc.1.trans a, b⟩
theorem rel_ladder (R : Rel C pi M d len) {x : Int32} (hc : r = alR (C 0) x ∧ opC C pi d (alF (C 0) x) (alR (C 0) x) C1 pi1) (hm : opP (lddR (M 0) x) (nI (ln (M 0))) (upd (upd (M 0) (8 + ln (M 0)) x) 6 (nI (ln (M 0) + 1))) M d r2 M1) : r = r2 ∧ RelE C1 pi1 M1 := by
  obtain ⟨a, b⟩ := R.op (Cg_lad R.ro x) hc.2 hm
  exact ⟨hc.1.trans a, b⟩
theorem rel_screw (R : Rel C pi M d len) {x t : Int32} (hc : r = tsR (C 0) x t ∧ opC C pi d (tsF (C 0) x t) (tsR (C 0) x t) C1 pi1) (hm : opP (scE (M 0) x t) (M 0 (12 + 8 * ix x + 3) + t + 20) (upd (M 0) (12 + 8 * ix x + 3) (M 0 (12 + 8 * ix x + 3) + t)) M d r2 M1) : r = r2 ∧ RelE C1 pi1 M1 := by
  obtain ⟨a, b⟩ := R.op (Cg_scr R.ro x t) hc.2 hm
  exact ⟨hc.1.trans a, b⟩
theorem rel_pass (R : Rel C pi M d len) {x : Int32} (hc : r = psR (C 0) x ∧ opC C pi d (psF (C 0) x) (psR (C 0) x) C1 pi1) (hm : opP (passR (M 0) x) (stV (pasF (M 0) (ix x))) (pasF (M 0) (ix x)) M d r2 M1) : r = r2 ∧ RelE C1 pi1 M1 := by
  obtain ⟨a, b⟩ := R.op (Cg_pass R.ro x) hc.2 hm
  exact ⟨hc.1.trans a, b⟩
theorem rel_change (R : Rel C pi M d len) {x : Int32} (hc : r = ccR (C 0) x ∧ opC C pi d (ccF (C 0) x) (ccR (C 0) x) C1 pi1) (hm : opP (chE x) (nI (cn (M 0)) - stV (chgA (M 0) x (cn (M 0)))) (chgA (M 0) x (cn (M 0))) M d r2 M1) : r = r2 ∧ RelE C1 pi1 M1 := by
  obtain ⟨a, b⟩ := R.op (Cg_chg R.ro x) hc.2 hm
  exact ⟨hc.1.trans a, b⟩
/-! beats -/
theorem Rel.rw (R : Rel C pi M d len) (L : Nat) (w : Nat → Int32) : Rel (rwM C L w) pi M d len :=
  R.cC (fun a ha => rwM_ne (by omega) (by omega)) (rwM_o (by decide)) (rwM_o (by decide)) (rwM_ne (by decide) (by decide)) (rwM_ne (by decide) (by decide))
theorem Rel.lo (R : Rel C pi M d len) (n : Nat) (x : Int32) (b : Bool) (k : Nat) : Rel C pi (loM M n x b k) d len :=
  R.cM (loM_k _ _ _ _ _ (by decide) (by decide)) (loM_k _ _ _ _ _ (by decide) (by decide)) (by rw [loM_k _ _ _ _ _ (by decide) (by decide)]) (loM_k _ _ _ _ _ (by decide) (by decide)) (loM_k _ _ _ _ _ (by decide) (by decide)) (loM_k _ _ _ _ _ (by decide) (by decide)) (by rw [loM_k _ _ _ _ _ (by decide) (by decide)])
theorem loR_lt {x : Int32} {L : Nat} (h : x < 0) : loR x L = -2 := if_neg (Int32.lt_nle h)
theorem loR_n {x : Int32} {L : Nat} (h : ¬ x < 0) : loR x L = if L = 0 then -5 else 0 := if_pos (Int32.nlt_le h)
theorem rel_round (R : Rel C pi M d len) {x : Int32}
    (hc : (x < 0 ∧ r = -2 ∧ C1 = C ∧ pi1 = pi) ∨ (¬ x < 0 ∧ chL x (cn (C 0)) = 0 ∧ r = -5 ∧ C1 = rwM C (chL x (cn (C 0))) (chW (C 14) x (cn (C 0))) ∧ pi1 = pi) ∨ (¬ x < 0 ∧ ¬ chL x (cn (C 0)) = 0 ∧ r = bwR (C 0) (chW (C 14) x (cn (C 0))) (chL x (cn (C 0))) ∧ opC (rwM C (chL x (cn (C 0))) (chW (C 14) x (cn (C 0)))) pi d (bwF (C 0) (chW (C 14) x (cn (C 0))) (chL x (cn (C 0)))) (bwR (C 0) (chW (C 14) x (cn (C 0))) (chL x (cn (C 0)))) C1 pi1))
    (hm : opP (loR x (loL (cn (M 0)) x false (M 8) (cn (M 0)))) (miV (M 0) (loN (cn (M 0)) x false (M 8) (cn (M 0))) (loL (cn (M 0)) x false (M 8) (cn (M 0)))) (goFF (M 0) (loN (cn (M 0)) x false (M 8) (cn (M 0))) (loL (cn (M 0)) x false (M 8) (cn (M 0)))) (loM M (cn (M 0)) x false (cn (M 0))) d r2 M1) : r = r2 ∧ RelE C1 pi1 M1 := by
  obtain ⟨e1, e2⟩ := ch_lo x (cn (M 0)) (C 14) (M 8) (cn (M 0))
  have g := chW_gd R.ro.W (C 14) x
  have hL := chL_le x (cn (M 0))
  have h16 := R.ro.1.W.2.1
  rw [R.ro.ec] at hc g
  rw [← e1] at hm
  rcases hc with ⟨h1, h2, h3, h4⟩ | ⟨h1, h2, h3, h4, h5⟩ | ⟨h1, h2, h3, h4⟩
  · rw [loR_lt h1] at hm
    rcases hm with ⟨z, _⟩ | ⟨_, hr, hM⟩
    · exact absurd z (by decide)
    · rw [h2, hr, h3, h4, hM]; exact ⟨rfl, (R.lo _ _ _ _).E⟩
  · rw [loR_n h1, if_pos h2] at hm
    rcases hm with ⟨z, _⟩ | ⟨_, hr, hM⟩
    · exact absurd z (by decide)
    · rw [h3, hr, h4, h5, hM]; exact ⟨rfl, ((R.rw _ _).lo _ _ _ _).E⟩
  · rw [loR_n h1, if_neg h2] at hm
    have g2 := (gdN_Ro R.ro).mp g
    have key := Cg_bw R.ro g2 (by omega)
    rw [miV_cong _ e2, goFF_congr _ e2] at key
    have b0 : rwM C (chL x (cn (M 0))) (chW (C 14) x (cn (M 0))) 0 = C 0 := rwM_ne (by decide) (by decide)
    rw [← b0] at key
    rw [← b0] at h3 h4
    obtain ⟨a, b⟩ := ((R.rw (chL x (cn (M 0))) (chW (C 14) x (cn (M 0)))).lo (cn (M 0)) x false (cn (M 0))).op key (by rw [b0] at h4 ⊢; exact h4) hm
    exact ⟨h3.trans a, b⟩
theorem rel_takes (R : Rel C pi M d len) {x : Int32}
    (hc : ((x < 0 ∧ r = -2 ∧ C1 = C) ∨ (¬ x < 0 ∧ chL x (cn (C 0)) = 0 ∧ r = -5 ∧ C1 = rwM C (chL x (cn (C 0))) (chW (C 14) x (cn (C 0)))) ∨ (¬ x < 0 ∧ ¬ chL x (cn (C 0)) = 0 ∧ r = moN (C 0) (chW (C 14) x (cn (C 0))) (chL x (cn (C 0))) ∧ C1 = rwM C (chL x (cn (C 0))) (chW (C 14) x (cn (C 0))))) ∧ pi1 = pi)
    (hm : r2 = (if loR x (loL (cn (M 0)) x false (M 8) (cn (M 0))) = 0 then miV (M 0) (loN (cn (M 0)) x false (M 8) (cn (M 0))) (loL (cn (M 0)) x false (M 8) (cn (M 0))) else loR x (loL (cn (M 0)) x false (M 8) (cn (M 0)))) ∧ M1 = loM M (cn (M 0)) x false (cn (M 0))) : r = r2 ∧ RelE C1 pi1 M1 := by
  obtain ⟨e1, e2⟩ := ch_lo x (cn (M 0)) (C 14) (M 8) (cn (M 0))
  have g := chW_gd R.ro.W (C 14) x
  have hL := chL_le x (cn (M 0))
  have h16 := R.ro.1.W.2.1
  obtain ⟨hc, hp⟩ := hc
  obtain ⟨hm, hM⟩ := hm
  rw [R.ro.ec] at hc g
  rw [← e1] at hm
  subst hp; subst hM
  rcases hc with ⟨h1, h2, h3⟩ | ⟨h1, h2, h3, h4⟩ | ⟨h1, h2, h3, h4⟩
  · rw [loR_lt h1, if_neg (by decide)] at hm
    rw [h2, hm, h3]; exact ⟨rfl, (R.lo _ _ _ _).E⟩
  · rw [loR_n h1, if_pos h2, if_neg (by decide)] at hm
    rw [h3, hm, h4]; exact ⟨rfl, ((R.rw _ _).lo _ _ _ _).E⟩
  · rw [loR_n h1, if_neg h2, if_pos rfl, ← miV_cong _ e2] at hm
    rw [h3, hm, h4, (mo_eq R.ro ((gdN_Ro R.ro).mp g) (by omega)).1]; exact ⟨rfl, ((R.rw _ _).lo _ _ _ _).E⟩
theorem rel_way (R : Rel C pi M d len) {x : Int32}
    (hc : ((x < 0 ∧ r = -2 ∧ C1 = C) ∨ (¬ x < 0 ∧ chL x (cn (C 0)) = 0 ∧ r = -5 ∧ C1 = rwM C (chL x (cn (C 0))) (chW (C 14) x (cn (C 0)))) ∨ (¬ x < 0 ∧ ¬ chL x (cn (C 0)) = 0 ∧ r = wayC (moN (C 0) (chW (C 14) x (cn (C 0))) (chL x (cn (C 0)))) (moN (C 0) (trN (chW (C 14) x (cn (C 0))) (chL x (cn (C 0))) (chL x (cn (C 0)) / 2)) (chL x (cn (C 0)))) ∧ C1 = rwM C (chL x (cn (C 0))) (trN (chW (C 14) x (cn (C 0))) (chL x (cn (C 0))) (chL x (cn (C 0)) / 2)))) ∧ pi1 = pi)
    (hm : r2 = (if loR x (loL (cn (M 0)) x false (M 8) (cn (M 0))) = 0 then wayR (miV (M 0) (loN (cn (M 0)) x false (M 8) (cn (M 0))) (loL (cn (M 0)) x false (M 8) (cn (M 0)))) (miV (M 0) (loN (cn (M 0)) x true (loN (cn (M 0)) x false (M 8) (cn (M 0))) (cn (M 0))) (loL (cn (M 0)) x true (loN (cn (M 0)) x false (M 8) (cn (M 0))) (cn (M 0)))) else loR x (loL (cn (M 0)) x false (M 8) (cn (M 0)))) ∧ M1 0 = M 0 ∧ ∀ k, k ≠ 8 → k ≠ 9 → M1 k = M k) : r = r2 ∧ RelE C1 pi1 M1 := by
  obtain ⟨e1, e2⟩ := ch_lo x (cn (M 0)) (C 14) (M 8) (cn (M 0))
  have g := chW_gd R.ro.W (C 14) x
  have hL := chL_le x (cn (M 0))
  have h16 := R.ro.1.W.2.1
  obtain ⟨hc, hp⟩ := hc
  obtain ⟨hm, hM0, hM⟩ := hm
  obtain ⟨v1, v2⟩ := lo_rev x (cn (M 0)) (M 8) (loN (cn (M 0)) x false (M 8) (cn (M 0))) (cn (M 0)) (Nat.le_refl _)
  rw [Nat.sub_self, show loL (cn (M 0)) x false (M 8) 0 = 0 from rfl, Nat.add_zero] at v1
  rw [v1] at v2 hm
  rw [R.ro.ec] at hc g
  rw [← e1] at hm v2
  subst hp
  have RM : ∀ {C' : MS}, Rel C' pi1 M d len → Rel C' pi1 M1 d len := fun R => R.cM hM0 (hM 2 (by decide) (by decide)) (by rw [hM 3 (by decide) (by decide)]) (hM 4 (by decide) (by decide)) (hM 5 (by decide) (by decide)) (hM 6 (by decide) (by decide)) (by rw [hM 7 (by decide) (by decide)])
  rcases hc with ⟨h1, h2, h3⟩ | ⟨h1, h2, h3, h4⟩ | ⟨h1, h2, h3, h4⟩
  · rw [loR_lt h1, if_neg (by decide)] at hm
    rw [h2, hm, h3]; exact ⟨rfl, (RM R).E⟩
  · rw [loR_n h1, if_pos h2, if_neg (by decide)] at hm
    rw [h3, hm, h4]; exact ⟨rfl, (RM (R.rw _ _)).E⟩
  · rw [loR_n h1, if_neg h2, if_pos rfl, ← miV_cong _ e2] at hm
    have g2 := (gdN_Ro R.ro).mp g
    obtain ⟨a1, t1, b1, c1⟩ := mo_eq R.ro g2 (by omega)
    obtain ⟨a2, t2, b2, c2⟩ := mo_eq R.ro (trN_gd g2) (by omega)
    have e3 : miV (M 0) (loN (cn (M 0)) x true (loN (cn (M 0)) x false (M 8) (cn (M 0))) (cn (M 0))) (chL x (cn (M 0))) = miV (M 0) (trN (chW (C 14) x (cn (M 0))) (chL x (cn (M 0))) (chL x (cn (M 0)) / 2)) (chL x (cn (M 0))) := by
      refine miV_cong _ (fun j hj => ?_)
      rw [trN_rev _ _ hj, v2 j hj, e2 _ (by omega)]
    rw [e3] at hm
    rw [h3, hm, h4, a1, a2, c1, c2, way_eq t1 t2 b1 b2]; exact ⟨rfl, (RM (R.rw _ _)).E⟩
/-! answers -/
theorem rel_of (R : Rel C pi M d len) {x w : Int32} (hc : r = ofR (C 0) x w ∧ C1 = C ∧ pi1 = pi) (hm : r2 = ofR (M 0) x w ∧ M1 = M) : r = r2 ∧ RelE C1 pi1 M1 := by
  obtain ⟨a, rfl, rfl⟩ := hc
  obtain ⟨b, rfl⟩ := hm
  exact ⟨by rw [a, b, of_eq R.ro], R.E⟩
theorem rel_ofLadder (R : Rel C pi M d len) {x : Int32} (hc : r = lofR (C 0) x ∧ C1 = C ∧ pi1 = pi) (hm : r2 = lofR (M 0) x ∧ M1 = M) : r = r2 ∧ RelE C1 pi1 M1 := by
  obtain ⟨a, rfl, rfl⟩ := hc
  obtain ⟨b, rfl⟩ := hm
  exact ⟨by rw [a, b, lof_eq R.ro], R.E⟩
theorem rel_count (R : Rel C pi M d len) {w : Int32} (hc : r = cntC (C 0) (C 10 1) (C 10 0) w ∧ C1 = C ∧ pi1 = pi) (hm : r2 = cntR (M 0) (M 7 0) (M 3 0) w ∧ M1 = M) : r = r2 ∧ RelE C1 pi1 M1 := by
  obtain ⟨a, rfl, rfl⟩ := hc
  obtain ⟨b, rfl⟩ := hm
  exact ⟨by rw [a, b, cnt_eq R.ro, R.2.1.2.1, R.2.1.2.2.1, R.1.2.2.1, R.1.2.2.2], R.E⟩
theorem rel_lasts (R : Rel C pi M d len) {x : Int32} (hc : r = (if isCb (C 0) x = true then nI (duS (C 0) (ix x)) else -1) ∧ C1 = C ∧ pi1 = pi) (hm : r2 = (if isCb (M 0) x = true then nI (duS (M 0) (ix x)) else -1) ∧ ∀ k, k ≠ 1 → M1 k = M k) : r = r2 ∧ RelE C1 pi1 M1 := by
  obtain ⟨a, rfl, rfl⟩ := hc
  obtain ⟨b, h⟩ := hm
  refine ⟨?_, (R.cM (h 0 (by decide)) (h 2 (by decide)) (by rw [h 3 (by decide)]) (h 4 (by decide)) (h 5 (by decide)) (h 6 (by decide)) (by rw [h 7 (by decide)])).E⟩
  rw [a, b, Ro_isC R.ro]
  by_cases z : isCb (M 0) x = true
  · obtain ⟨i, hi, rfl⟩ := (isC_iff R.ro.1.W x).mp z
    have := R.ro.1.W.2.1
    rw [if_pos z, if_pos z, ix_nI (by omega), Ro_duS R.ro hi]
  · rw [if_neg z, if_neg z]
theorem Rel.la (R : Rel C pi M d len) (w : Nat → Int32) : Rel (mrow C 15 w) pi M d len :=
  R.cC (fun a ha => mrow_n C (k := 15) (a := a) (by omega) w) (by rw [mrow_n C (k := 15) (a := 10) (by decide) w]) (by rw [mrow_n C (k := 15) (a := 10) (by decide) w]) (mrow_n C (k := 15) (a := 11) (by decide) w) (mrow_n C (k := 15) (a := 12) (by decide) w)
theorem rel_needs (R : Rel C pi M d len) {x : Int32} (hc : r = neC (C 0) (cn (C 0)) x (cn (C 0)) ∧ (∃ w, C1 = mrow C 15 w) ∧ pi1 = pi) (hm : r2 = needN (fun i => nI (duS (M 0) i)) (cn (M 0)) x (cn (M 0)) ∧ ∀ k, k ≠ 1 → k ≠ 10 → M1 k = M k) : r = r2 ∧ RelE C1 pi1 M1 := by
  obtain ⟨a, ⟨w, rfl⟩, rfl⟩ := hc
  obtain ⟨b, h⟩ := hm
  refine ⟨?_, ((R.la w).cM (h 0 (by decide) (by decide)) (h 2 (by decide) (by decide)) (by rw [h 3 (by decide) (by decide)]) (h 4 (by decide) (by decide)) (h 5 (by decide) (by decide)) (h 6 (by decide) (by decide)) (by rw [h 7 (by decide) (by decide)])).E⟩
  rw [a, b, R.ro.ec, ne_eq R.ro]
theorem rel_ladderFor (R : Rel C pi M d len) (hc : r = lfC (C 0) ∧ C1 = C ∧ pi1 = pi) (hm : r2 = (if ln (M 0) = 4 then -4 else mostN (M 0) (cn (M 0))) ∧ M1 = M) : r = r2 ∧ RelE C1 pi1 M1 := by
  obtain ⟨a, rfl, rfl⟩ := hc
  obtain ⟨b, rfl⟩ := hm
  exact ⟨by rw [a, b, lf_eq R.ro], R.E⟩
/-! texts -/
theorem Rel.cT {C' M' : MS} {len' : Nat} (R : Rel C pi M d len) (e : ∀ a, a < 10 → C' a = C a) (e0 : C' 10 0 = C 10 0) (e11 : C' 11 = C 11) (m0 : M' 0 = M 0) (m2 : M' 2 = M 2) (m3 : M' 3 0 = M 3 0) (m4 : M' 4 = M 4) (m5 : M' 5 = M 5) (T : RelT C' M' len') : RelE C' pi M' := by
  obtain ⟨⟨p1, p2, p3, p4⟩, -, h0, hg, hh, hs⟩ := R
  refine ⟨d, len', ⟨p1, p2, by rw [e0]; exact p3, by rw [m3]; exact p4⟩, T, by rw [e 0 (by decide), m0]; exact h0, fun k hk => by rw [e k hk]; exact hg k hk, fun j hj => ?_, fun j hj => ?_⟩
  · have := p1.1 j (by omega)
    rw [e (pi j) (by omega), m2]; exact hh j hj
  · rw [e11, m5, m4, e (8 + j) (by omega)]; exact hs j hj
theorem rel_put (R : Rel C pi M d len) {x : Int64}
    (hc : ((siN x 8 0 = 0 ∧ r = -2 ∧ C1 = C) ∨ (¬ siN x 8 0 = 0 ∧ 80 < len + siN x 8 0 ∧ r = -4 ∧ C1 = C) ∨ (¬ siN x 8 0 = 0 ∧ len + siN x 8 0 ≤ 80 ∧ r = nI (len + siN x 8 0) ∧ C1 = sgM C (len + siN x 8 0) (ptP (C 12) x len (siN x 8 0) (siN x 8 0)))) ∧ pi1 = pi)
    (hm : (putE x len ≠ 0 ∧ r2 = putE x len ∧ M1 = M) ∨ (putE x len = 0 ∧ r2 = nI (len + manS x 8) ∧ M1 = mset (mrow M 6 (putP (M 6) x len (manS x 8) (manS x 8))) 7 0 (nI (len + manS x 8)))) : r = r2 ∧ RelE C1 pi1 M1 := by
  obtain ⟨hc, rfl⟩ := hc
  obtain ⟨t1, t2, t3, t4, t5⟩ := R.2.1
  rcases put_eq (x := x) (len := len) with ⟨a, b⟩ | ⟨a, a2, b⟩ | ⟨a, a2, b, b2⟩
  · rw [b] at hm
    rcases hm with ⟨_, m1, m2⟩ | ⟨z, _⟩
    · rcases hc with ⟨_, c2, c3⟩ | ⟨z, _⟩ | ⟨z, _⟩
      · rw [c2, c3, m1, m2]; exact ⟨rfl, R.E⟩
      · exact absurd a z
      · exact absurd a z
    · exact absurd z (by decide)
  · rw [b] at hm
    rcases hm with ⟨_, m1, m2⟩ | ⟨z, _⟩
    · rcases hc with ⟨z, _⟩ | ⟨_, _, c2, c3⟩ | ⟨_, z, _⟩
      · exact absurd z a
      · rw [c2, c3, m1, m2]; exact ⟨rfl, R.E⟩
      · omega
    · exact absurd z (by decide)
  · rw [b, b2] at hm
    rcases hm with ⟨z, _⟩ | ⟨_, m1, m2⟩
    · exact absurd rfl z
    · rcases hc with ⟨z, _⟩ | ⟨_, z, _⟩ | ⟨_, _, c2, c3⟩
      · exact absurd z a
      · omega
      · refine ⟨by rw [c2, m1], ?_⟩
        have mk : ∀ k, k ≠ 6 → k ≠ 7 → M1 k = M k := fun k h6 h7 => by rw [m2, mset_ne _ h7, mrow_n _ h6]
        refine R.cT (len' := len + siN x 8 0) (fun k hk => by rw [c3]; exact sgM_ne (by omega) (by omega)) (by rw [c3]; exact sgM_o (by decide)) (by rw [c3]; exact sgM_ne (by decide) (by decide)) (mk 0 (by decide) (by decide)) (mk 2 (by decide) (by decide)) (by rw [mk 3 (by decide) (by decide)]) (mk 4 (by decide) (by decide)) (mk 5 (by decide) (by decide)) ⟨a2, by rw [c3]; exact sgM_1, by rw [m2]; exact mset_eq _ _ _ _, ?_, ?_⟩
        · rw [c3, sgM_12, m2, mset_ne _ (by decide), mrow_s]
          exact put_row t4
        · rw [c3, sgM_12]; exact put_ch t5
theorem rel_wipe (R : Rel C pi M d len) (hc : r = C 10 1 ∧ C1 = mset C 10 1 0 ∧ pi1 = pi) (hm : r2 = M 7 0 ∧ M1 = mset M 7 0 0) : r = r2 ∧ RelE C1 pi1 M1 := by
  obtain ⟨a, rfl, rfl⟩ := hc
  obtain ⟨b, rfl⟩ := hm
  obtain ⟨t1, t2, t3, t4, t5⟩ := R.2.1
  refine ⟨by rw [a, b, t2, t3], ?_⟩
  exact R.cT (len' := 0) (fun k hk => mset_ne _ (by omega) _ _) (mset_nj _ (by decide) _ _) (mset_ne _ (by decide) _ _) (mset_ne _ (by decide) _ _) (mset_ne _ (by decide) _ _) (by rw [mset_ne _ (by decide)]) (mset_ne _ (by decide) _ _) (mset_ne _ (by decide) _ _) ⟨by omega, mset_eq _ _ _ _, mset_eq _ _ _ _, fun j hj => absurd hj (Nat.not_lt_zero _), fun j hj => absurd hj (Nat.not_lt_zero _)⟩
theorem Rel.pf (R : Rel C pi M d len) (hc : Pf C C1) (hm : Pk M M1) : RelE C1 pi M1 := by
  have R1 := R.cM (M1 := M1) (hm 0 (by decide) (by decide) (by decide) (by decide) (by decide) (by decide) (by decide) (by decide)) (hm 2 (by decide) (by decide) (by decide) (by decide) (by decide) (by decide) (by decide) (by decide)) (by rw [hm 3 (by decide) (by decide) (by decide) (by decide) (by decide) (by decide) (by decide) (by decide)]) (hm 4 (by decide) (by decide) (by decide) (by decide) (by decide) (by decide) (by decide) (by decide)) (hm 5 (by decide) (by decide) (by decide) (by decide) (by decide) (by decide) (by decide) (by decide)) (hm 6 (by decide) (by decide) (by decide) (by decide) (by decide) (by decide) (by decide) (by decide)) (by rw [hm 7 (by decide) (by decide) (by decide) (by decide) (by decide) (by decide) (by decide) (by decide)])
  exact (R1.cC (fun a ha => hc.1 a (by omega) (by omega)) (hc.2 0 (by decide) (by decide) (by decide)) (hc.2 1 (by decide) (by decide) (by decide)) (hc.1 11 (by decide) (by decide)) (hc.1 12 (by decide) (by decide))).E
theorem rel_fault (R : Rel C pi M d len) (hc : r = o2i (gF (C 12) len 81 0) ∧ Pf C C1 ∧ pi1 = pi) (hm : r2 = o2i (gF (M 6) len 81 0) ∧ Pk M M1) : r = r2 ∧ RelE C1 pi1 M1 := by
  obtain ⟨a, h, rfl⟩ := hc
  obtain ⟨t1, t2, t3, t4, t5⟩ := R.2.1
  exact ⟨by rw [a, hm.1, gF_cong t4], R.pf h hm.2⟩
theorem gF_le {t : Nat → Int32} : ∀ u p k, p ≤ len → gF t len u p = some k → k ≤ len := by
  intro u
  induction u with
  | zero => intro p k _ h; cases h
  | succ u ih =>
    intro p k hp h
    have pl := rO_place t len p hp
    unfold gF at h
    split at h
    · split at h
      · next hl =>
        split at h
        · exact ih _ _ hl h
        · cases h; omega
      · cases h
    · cases h; omega
theorem gF_6 {t : Nat → Int32} (h80 : len ≤ 80) : o2i (gF t len 81 0) = -6 ↔ gF t len 81 0 = none := by
  have := o2i_ne (o := gF t len 81 0) (fun k hk => by have := gF_le _ _ _ (Nat.zero_le _) hk; omega)
  constructor
  · intro h
    cases e : gF t len 81 0 with
    | none => rfl
    | some k => exact absurd h (this.mpr (by rw [e]; simp))
  · intro h; rw [h]; rfl
theorem rel_carryOut (R : Rel C pi M d len)
    (hc : (¬ o2i (gF (C 12) len 81 0) = -6 ∧ r = -3 ∧ Pf C C1 ∧ pi1 = pi) ∨ (o2i (gF (C 12) len 81 0) = -6 ∧ r = nI (ccO (C 12) len 80 0 (C 0)).1 ∧ coC C pi d (ccO (C 12) len 80 0 (C 0)).2 C1 pi1))
    (hm : (gF (M 6) len 81 0 ≠ none ∧ r2 = -3 ∧ Pk M M1) ∨ (gF (M 6) len 81 0 = none ∧ r2 = nI (cO (M 6) len 81 0 (M 0)).1 ∧ M1 0 = (cO (M 6) len 81 0 (M 0)).2 ∧ M1 7 0 = 0 ∧ M1 2 = knB (M 2) (M 0) d ∧ M1 3 0 = nI (knN d) ∧ M1 4 = M 4 ∧ M1 5 = M 5 ∧ M1 6 = M 6)) : r = r2 ∧ RelE C1 pi1 M1 := by
  obtain ⟨t1, t2, t3, t4, t5⟩ := R.2.1
  obtain ⟨p1, p2, p3, p4⟩ := R.1
  have pd := p1.1 d (by omega)
  rw [← gF_cong t4, ← cO_cong t4] at hm
  rw [gF_6 t1] at hc
  rcases hc with ⟨h1, h2, h3, h4⟩ | ⟨h1, h2, h3⟩
  · rcases hm with ⟨_, m2, m3⟩ | ⟨z, _⟩
    · rw [h2, m2, h4]; exact ⟨rfl, R.pf h3 m3⟩
    · exact absurd z h1
  · rcases hm with ⟨z, _⟩ | ⟨_, m1, m0, m7, m2, m3, m4, m5, m6⟩
    · exact absurd h1 z
    · obtain ⟨k1, k2, k3⟩ := cc_co (T := C 12) t1 81 0 (M 0) (C 0) 0 80 R.ro R.g0 (Or.inl ⟨rfl, rfl⟩) (Nat.zero_le _) (by omega) (by omega) h1
      obtain ⟨c0, cd, cr, c1, ck, cp⟩ := h3
      refine ⟨by rw [h2, m1, k1], R.push (len' := 0) k2 k3 c0 cd (fun a h1 h2 h3 => cr a h2 (by omega) (by omega) h3) (cr 11 (by decide) (by decide) (by decide) (by omega)) ?_ m0 m2 m3 m4 m5 ⟨by omega, c1, m7, fun j hj => absurd hj (Nat.not_lt_zero _), fun j hj => absurd hj (Nat.not_lt_zero _)⟩⟩
      by_cases z : d < 6
      · rw [if_pos z] at ck cp; exact Or.inl ⟨z, ck, cp⟩
      · rw [if_neg z] at ck cp; exact Or.inr ⟨z, ck, cp⟩
/-! undo, slots -/
theorem Rel.back {C' M' : MS} {d' : Nat} {F : Nat → Int32} (R : Rel C pi M d len) (hd' : d' ≤ d) (hF : Ro F (M' 0)) (gF : goOk F) (c0 : C' 0 = F) (cr : ∀ a, a ≠ 0 → a ≠ 10 → C' a = C a) (k0 : C' 10 0 = nI d') (k1 : C' 10 1 = C 10 1) (mr : ∀ a, a ≠ 0 → a ≠ 3 → M' a = M a) (m3 : M' 3 0 = nI d') : RelE C' pi M' := by
  obtain ⟨⟨p1, p2, p3, p4⟩, ⟨t1, t2, t3, t4, t5⟩, h0, hg, hh, hs⟩ := R
  refine ⟨d', len, ⟨p1, by omega, k0, m3⟩, ⟨t1, by rw [k1]; exact t2, by rw [mr 7 (by decide) (by decide)]; exact t3, by rw [cr 12 (by decide) (by decide), mr 6 (by decide) (by decide)]; exact t4, by rw [cr 12 (by decide) (by decide)]; exact t5⟩, by rw [c0]; exact hF, fun k hk => ?_, fun j hj => ?_, fun j hj => ?_⟩
  · by_cases z : k = 0
    · rw [z, c0]; exact gF
    · rw [cr k z (by omega)]; exact hg k hk
  · have := p1.1 j (by omega)
    rw [cr (pi j) (by omega) (by omega), mr 2 (by decide) (by decide)]; exact hh j (by omega)
  · rw [cr 11 (by decide) (by decide), cr (8 + j) (by omega) (by omega), mr 5 (by decide) (by decide), mr 4 (by decide) (by decide)]; exact hs j hj
theorem rel_undo (R : Rel C pi M d len)
    (hc : ((d = 0 ∧ r = -5 ∧ C1 = C) ∨ (0 < d ∧ r = nI (d - 1) ∧ C1 = mrow (mset C 10 0 (nI (d - 1))) 0 (cpS (C 0) (C (pi (d - 1)))))) ∧ pi1 = pi)
    (hm : (d = 0 ∧ r2 = -5 ∧ M1 = M) ∨ (d ≠ 0 ∧ r2 = nI (d - 1) ∧ M1 = mset (mrow M 0 (cp2 (M 0) (M 2) (140 * (d - 1)) 140)) 3 0 (nI (d - 1)))) : r = r2 ∧ RelE C1 pi1 M1 := by
  obtain ⟨hc, rfl⟩ := hc
  rcases hc with ⟨a, b, c⟩ | ⟨a, b, c⟩
  · rcases hm with ⟨_, m1, m2⟩ | ⟨z, _⟩
    · rw [b, c, m1, m2]; exact ⟨rfl, R.E⟩
    · exact absurd a z
  · rcases hm with ⟨z, _⟩ | ⟨_, m1, m2⟩
    · omega
    · refine ⟨by rw [b, m1], ?_⟩
      have rh := R.2.2.2.2.1 (d - 1) (by omega)
      have m0 : M1 0 = cp2 (M 0) (M 2) (140 * (d - 1)) 140 := by rw [m2, mset_ne _ (by decide), mrow_s]
      refine R.back (d' := d - 1) (F := cpS (C 0) (C (pi1 (d - 1)))) (by omega) ?_ (goOk_cpS rh R.g0) (by rw [c, mrow_s]) (fun k h0 h10 => by rw [c, mrow_n _ h0, mset_ne _ h10]) (by rw [c, mrow_n _ (by decide)]; exact mset_eq _ _ _ _) (by rw [c, mrow_n _ (by decide)]; exact mset_nj _ (by decide) _ _) (fun k h0 h3 => by rw [m2, mset_ne _ h3, mrow_n _ h0]) (by rw [m2]; exact mset_eq _ _ _ _)
      rw [m0]
      refine (rh.cpd (C 0)).congr (fun i hi => ?_) (fun _ _ => rfl)
      unfold cp2 Sg
      rw [if_pos hi]
theorem rel_save (R : Rel C pi M d len) {x : Int32}
    (hc : ((inB x 0 1 = false ∧ r = -2 ∧ C1 = C) ∨ (inB x 0 1 = true ∧ r = nI (cn (C 0)) ∧ C1 = mset (mrow C (8 + ix x) (cpS (C (8 + ix x)) (C 0))) 11 (ix x) 1)) ∧ pi1 = pi)
    (hm : (inB x 0 1 = false ∧ r2 = -2 ∧ M1 = M) ∨ (inB x 0 1 = true ∧ r2 = nI (cn (M 0)) ∧ M1 = mset (mrow M 4 (cp1 (M 4) (M 0) (140 * ix x) 140)) 5 (ix x) 1)) : r = r2 ∧ RelE C1 pi1 M1 := by
  obtain ⟨hc, rfl⟩ := hc
  rcases hc with ⟨a, b, c⟩ | ⟨a, b, c⟩
  · rcases hm with ⟨_, m1, m2⟩ | ⟨z, _⟩
    · rw [b, c, m1, m2]; exact ⟨rfl, R.E⟩
    · rw [a] at z; cases z
  · rcases hm with ⟨z, _⟩ | ⟨_, m1, m2⟩
    · rw [a] at z; cases z
    · obtain ⟨i, hi, rfl⟩ := inB_nI (n := 1) (by decide) a
      rw [ix_nI (by omega)] at c m2
      refine ⟨by rw [b, m1, R.ro.ec], ?_⟩
      have cr : ∀ k, k ≠ 8 + i → k ≠ 11 → C1 k = C k := fun k h1 h2 => by rw [c, mset_ne _ h2, mrow_n _ h1]
      have mr : ∀ k, k ≠ 4 → k ≠ 5 → M1 k = M k := fun k h1 h2 => by rw [m2, mset_ne _ h2, mrow_n _ h1]
      have c8 : C1 (8 + i) = cpS (C (8 + i)) (C 0) := by rw [c, mset_ne _ (by omega), mrow_s]
      have m4 : M1 4 = cp1 (M 4) (M 0) (140 * i) 140 := by rw [m2, mset_ne _ (by decide), mrow_s]
      obtain ⟨⟨p1, p2, p3, p4⟩, ⟨t1, t2, t3, t4, t5⟩, h0, hg, hh, hs⟩ := R
      refine ⟨d, len, ⟨p1, p2, by rw [cr 10 (by omega) (by decide)]; exact p3, by rw [mr 3 (by decide) (by decide)]; exact p4⟩, ⟨t1, by rw [cr 10 (by omega) (by decide)]; exact t2, by rw [mr 7 (by decide) (by decide)]; exact t3, by rw [cr 12 (by omega) (by decide), mr 6 (by decide) (by decide)]; exact t4, by rw [cr 12 (by omega) (by decide)]; exact t5⟩, by rw [cr 0 (by omega) (by decide), mr 0 (by decide) (by decide)]; exact h0, fun k hk => ?_, fun j hj => ?_, fun j hj => ?_⟩
      · by_cases z : k = 8 + i
        · rw [z, c8]; exact goOk_cpS h0 (hg (8 + i) (by omega))
        · rw [cr k z (by omega)]; exact hg k hk
      · have := p1.1 j (by omega)
        rw [cr (pi1 j) (by omega) (by omega), mr 2 (by decide) (by decide)]; exact hh j hj
      · by_cases z : j = i
        · subst z
          refine Or.inr ⟨by rw [m2]; exact mset_eq _ _ _ _, by rw [c]; exact mset_eq _ _ _ _, ?_⟩
          rw [c8, m4]
          refine (h0.cpd (C (8 + j))).congr (fun k hk => ?_) (fun _ _ => rfl)
          unfold Sg cp1
          rw [if_pos (by omega), Nat.add_sub_cancel_left]
        · have e5 : M1 5 j = M 5 j := by rw [m2, mset_nj _ z, mrow_n _ (by decide)]
          have e11 : C1 11 j = C 11 j := by rw [c, mset_nj _ z, mrow_n _ (by omega)]
          rw [e5, e11, cr (8 + j) (by omega) (by omega), m4]
          rcases hs j hj with q | ⟨q1, q2, q3⟩
          · exact Or.inl q
          · refine Or.inr ⟨q1, q2, q3.congr (fun k hk => ?_) (fun _ _ => rfl)⟩
            unfold Sg cp1
            rw [if_neg (by omega)]
theorem rel_restore (R : Rel C pi M d len) {x : Int32}
    (hc : (inB x 0 1 = false ∧ r = -2 ∧ C1 = C ∧ pi1 = pi) ∨ (inB x 0 1 = true ∧ C 11 (ix x) = 0 ∧ r = -5 ∧ C1 = C ∧ pi1 = pi) ∨ (inB x 0 1 = true ∧ ¬ C 11 (ix x) = 0 ∧ r = nI (cn (C (8 + ix x))) ∧ opC C pi d (cpS (C 0) (C (8 + ix x))) (nI (cn (C (8 + ix x)))) C1 pi1))
    (hm : (inB x 0 1 = false ∧ r2 = -2 ∧ M1 = M) ∨ (inB x 0 1 = true ∧ M 5 (ix x) = 0 ∧ r2 = -5 ∧ M1 = M) ∨ (inB x 0 1 = true ∧ ¬ M 5 (ix x) = 0 ∧ r2 = M 4 (140 * ix x + 5) ∧ M1 = mrow (knM M d) 0 (cp2 (M 0) (M 4) (140 * ix x) 140))) : r = r2 ∧ RelE C1 pi1 M1 := by
  rcases hc with ⟨a, b, c, e⟩ | ⟨a, a2, b, c, e⟩ | ⟨a, a2, b, c⟩
  · rcases hm with ⟨_, m1, m2⟩ | ⟨z, _⟩ | ⟨z, _⟩
    · rw [b, c, e, m1, m2]; exact ⟨rfl, R.E⟩
    · rw [a] at z; cases z
    · rw [a] at z; cases z
  · obtain ⟨i, hi, rfl⟩ := inB_nI (n := 1) (by decide) a
    have hs := R.2.2.2.2.2 i (by omega)
    rw [ix_nI (by omega)] at hm a2
    rcases hm with ⟨z, _⟩ | ⟨_, _, m1, m2⟩ | ⟨_, z, _⟩
    · rw [a] at z; cases z
    · rw [b, c, e, m1, m2]; exact ⟨rfl, R.E⟩
    · rcases hs with ⟨q, _⟩ | ⟨_, q, _⟩
      · exact absurd q z
      · rw [a2] at q; exact absurd q (by decide)
  · obtain ⟨i, hi, rfl⟩ := inB_nI (n := 1) (by decide) a
    have hs := R.2.2.2.2.2 i (by omega)
    rw [ix_nI (by omega)] at hm a2 b c
    rcases hs with ⟨_, q⟩ | ⟨q5, q, ro⟩
    · exact absurd q a2
    · rcases hm with ⟨z, _⟩ | ⟨_, z, _⟩ | ⟨_, _, m1, m2⟩
      · rw [a] at z; cases z
      · rw [q5] at z; exact absurd z (by decide)
      · have e5 : M 4 (140 * i + 5) = nI (cn (C (8 + i))) := by
          have w := ro.1.W.1
          rw [ro.ec]; exact w
        have f1 : ∀ j, j < 140 → cp2 (M 0) (M 4) (140 * i) 140 j = Sg (M 4) i j := fun j hj => by
          unfold cp2 Sg; rw [if_pos hj]
        have ro2 : Ro (C (8 + i)) (cp2 (M 0) (M 4) (140 * i) 140) := ro.congr f1 (fun _ _ => rfl)
        have h16 := ro2.1.W.2.1
        have key : Cg (C 0) (nI (cn (C (8 + i)))) (cpS (C 0) (C (8 + i))) 0 (nI (cn (C (8 + i)))) (cp2 (M 0) (M 4) (140 * i) 140) := by
          refine Or.inl ⟨rfl, rfl, nI_pos' (by rw [ro2.ec]; omega), ro2.1, ?_⟩
          rw [cpS_Mx ro2.W, ro2.ec]
          funext j
          by_cases z : j < 12 + 8 * cn (cp2 (M 0) (M 4) (140 * i) 140)
          · rw [Mx_in z, Mx_in z]; exact ro2.2 j z
          · rw [Mx_out z, Mx_out z]
        obtain ⟨u, v⟩ := R.op key c (Or.inl ⟨rfl, rfl, m2⟩ : opP 0 (nI (cn (C (8 + i)))) (cp2 (M 0) (M 4) (140 * i) 140) M d (nI (cn (C (8 + i)))) M1)
        exact ⟨by rw [b, m1, e5], v⟩
end R9
