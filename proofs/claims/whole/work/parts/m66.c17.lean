set_option maxHeartbeats 4000000 in
set_option maxRecDepth 100000 in
theorem k_X5_carryOrdersOut (l : Launch) (dd : va_G) (g : Nat → ClassId) (ad pi : Nat → Nat) (A : Nat → Prop) (hA : cA A ad) (C : MS) (len : Nat) (hl80 : len ≤ 80) (hl1 : C 10 1 = nI len) (hch : chOk (C 12) len) (Inv : (Nat → Int32) → Prop) (hiw : ∀ f, Inv f → Wk f ∧ Lad f) (his : ∀ f c R, Inv f → 0 ≤ oneR f c R → Inv (oneF f c R)) (hinv0 : Inv (C 0))  : Met l yX5_carryOrdersOut wsX5_carryOrdersOut ({ frames := 5, cells := 0, slots := 0, locals := 119 }) (cPre dd g ad pi A C [.ref (ad 0)]) (cQi dd g ad A (fun r C1 pi1 => r = nI (ccO (C 12) len 80 0 (C 0)).1 ∧ C1 0 = (ccO (C 12) len 80 0 (C 0)).2 ∧ Pg C C1 ∧ pi1 = pi)) 0 0 A := by
  refine Met.ofW (cc := cX5_carryOrdersOut) (maxL := 2) (ret := (some .int)) (by decide) rfl ?_
  intro p e s m args below meth c s₁ B hml hv
  obtain ⟨rfl, hP0, hK, hX⟩ := hv
  have hx := B.exec
  have hb := B.bytes
  have hr := B.returns
  have hts := atoms_spec (ws := wsX5_carryOrdersOut) B.pre
  have hown : s.vm.findClass RX5 = some m.cls := findClass_of_methodNamed B.named
  have hlocks := B.notSynchronized
  have hinX5 : ∀ w ∈ wsX50, w ∈ wsX5_carryOrdersOut := by decide +kernel
  have hI : cI dd g ad pi A s.heap s.heap [] C := ⟨hP0, va_S.rf⟩
  have hl := lv_entry ([.ref (ad 0)]) (n := 2) (Nat.le_of_ble_eq_true rfl)
  rw [lg_entry_eq]
  generalize (lg_sl ([.ref (ad 0)]) ++ List.replicate (2 - (lg_sl ([.ref (ad 0)])).length) Slot.unset).toArray = ls at hl ⊢
  have hl : lv_has ls 2 [(0, .ref (ad 0))] := hl
  refine lv_aload_n hx hb dX5_carryOrdersOut_0 rfl (lv_at hl 0 rfl) ?_
  refine c_get hx hb hts hown hK hI 0 (by omega) cE_0 rfl hinX5 4 (by decide) (hts (.fieldLink RX5 34 "WinderLadders" "pad" "LWinderLadders$Pad;") (by decide +kernel)) (v := .ref (ad 5)) rfl dX5_carryOrdersOut_1 ?_
  refine c_callv (As := []) (rest := []) hx hb hml hown hts hK hX hI 5 (by omega) cE_5 rfl (k_X2_goToStart l dd g ad pi A hA C) (cwV 0 hts gX5_carryOrdersOut_X2_goToStart rfl rfl rfl (by decide +kernel) ⟨Nat.le_of_ble_eq_true rfl, Nat.le_of_ble_eq_true rfl⟩) rfl hl (Nat.le_of_ble_eq_true rfl) ⟨Nat.zero_le _, Nat.zero_le _⟩ dX5_carryOrdersOut_4 rfl (fun C1 pi1 H locs h1 hI => ?_)
  obtain ⟨hc9, hp9⟩ := h1
  rw [hc9, hp9] at hI
  refine lv_iconst (v := 0) hx hb dX5_carryOrdersOut_7 (by decide) ?_
  refine lv_istore_n (lv' := [(1, .int 0), (0, .ref (ad 0))]) hx hb dX5_carryOrdersOut_8 rfl hl (by decide) rfl (fun ls hl => ?_)
  have L9 : ∀ (fuel : Nat) (N : MS) (i p1 : Nat) (h1 : i ≤ 80) (h2 : 80 < fuel + i) (hN12 : N 12 = C 12) (hN1 : N 10 1 = nI len) (hN2 : N 10 2 = nI p1) (hPg : Pg C N) (hp1 : p1 ≤ len) (hinv : Inv (N 0)) (hg : ccO (C 12) len 80 0 (C 0) = (i + (ccO (C 12) len (80 - i) p1 (N 0)).1, (ccO (C 12) len (80 - i) p1 (N 0)).2)) (H : Heap) (locs : List Loc) (ls : Array Slot), cI dd g ad pi A s.heap H locs N → lv_has ls 2 [(1, .int (nI i)), (0, .ref (ad 0))] → wk p l e wsX5_carryOrdersOut { frames := 5, cells := 0, slots := 0, locals := 119 } s m [.ref (ad 0)] below meth c H locs (cQi dd g ad A (fun r C1 pi1 => r = nI (ccO (C 12) len 80 0 (C 0)).1 ∧ C1 0 = (ccO (C 12) len 80 0 (C 0)).2 ∧ Pg C C1 ∧ pi1 = pi)) (A) (F0 m 9 ls []) := by
    intro fuel
    induction fuel with
    | zero =>
      intro N i p1 h1 h2 hN12 hN1 hN2 hPg hp1 hinv hg H locs ls hI hl
      exact absurd h2 (by omega)
    | succ fuel ih =>
      intro N i p1 h1 h2 hN12 hN1 hN2 hPg hp1 hinv hg H locs ls hI hl
      refine lv_iload_n hx hb dX5_carryOrdersOut_9 rfl (lv_at hl 0 rfl) ?_
      refine lv_bipush (v := 80) hx hb dX5_carryOrdersOut_10 (by decide) ?_
      refine lv_icmp_ge (tgt := 40) hx hb dX5_carryOrdersOut_12 (by decide) (fun c2 => ?_) (fun c2 => ?_)
      · skip
        have nc2 : 80 ≤ i := (nI_leI (a := 80) (b := i) (by omega) (by omega)).mp c2
        refine lv_bipush (v := 80) hx hb dX5_carryOrdersOut_40 (by decide) ?_
        exact c_iret (v := 80) hx hb hr hI (⟨by rw [hg, show 80 - i = 0 by omega]; show _ = nI (i + 0); rw [show i + 0 = 80 by omega]; rfl, by rw [hg, show 80 - i = 0 by omega]; rfl, hPg, rfl⟩) dX5_carryOrdersOut_42 hlocks
      · skip
        have nc2 : ¬ (80 ≤ i) := fun h => c2 ((nI_leI (a := 80) (b := i) (by omega) (by omega)).mpr h)
        refine lv_aload_n hx hb dX5_carryOrdersOut_15 rfl (lv_at hl 1 rfl) ?_
        refine c_get hx hb hts hown hK hI 0 (by omega) cE_0 rfl hinX5 4 (by decide) (hts (.fieldLink RX5 34 "WinderLadders" "pad" "LWinderLadders$Pad;") (by decide +kernel)) (v := .ref (ad 5)) rfl dX5_carryOrdersOut_16 ?_
        refine c_calli (As := []) (rest := []) hx hb hml hown hts hK hX hI 5 (by omega) cE_5 rfl (k_X2_readNext l dd g ad pi A hA N len p1 hl80 (by omega) hN1 hN2 (by rw [hN12]; exact hch)) (cwV 0 hts gX5_carryOrdersOut_X2_readNext rfl rfl rfl (by decide +kernel) ⟨Nat.le_of_ble_eq_true rfl, Nat.le_of_ble_eq_true rfl⟩) rfl hl (Nat.le_of_ble_eq_true rfl) ⟨Nat.zero_le _, Nat.zero_le _⟩ dX5_carryOrdersOut_19 rfl (fun r C1 pi1 H locs h4 hI => ?_)
        obtain ⟨h4, hp9⟩ := h4
        rw [hp9] at hI
        have h4 := rdJ hN12 h4
        rcases h4 with ⟨az3, z3, hr9, hc9⟩ | ⟨gz3, Lz3, wz3, hc9, hLz3, ⟨z3, hr9, hnz3⟩ | ⟨z3, hr9⟩⟩
        · skip
          rw [hc9] at hI
          subst hr9
          refine lv_if_eq (tgt := 32) hx hb dX5_carryOrdersOut_22 (by decide) (fun _ => ?_) (fun c5 => absurd (by decide) c5)
          refine lv_iload_n hx hb dX5_carryOrdersOut_32 rfl (lv_at hl 0 rfl) ?_
          exact c_iret (v := nI i) hx hb hr hI (⟨by rw [hg, ccO_no1 az3 z3]; rfl, by rw [hg, ccO_no1 az3 z3], hPg, rfl⟩) dX5_carryOrdersOut_33 hlocks
        · skip
          have l_z3 := p0of_le (by omega) gz3
          have m_z3 := rO_place (C 12) len (p0of (C 12) len p1) l_z3.1
          obtain ⟨qz3, ez3⟩ : ∃ q, q = (rO (C 12) len (p0of (C 12) len p1)).2.1 := ⟨_, rfl⟩
          rw [← ez3] at hc9 m_z3
          rw [hc9] at hI
          subst hr9
          refine lv_if_eq (tgt := 32) hx hb dX5_carryOrdersOut_22 (by decide) (fun c6 => absurd c6 (by decide)) (fun _ => ?_)
          refine lv_aload_n hx hb dX5_carryOrdersOut_25 rfl (lv_at hl 1 rfl) ?_
          refine c_calli (As := []) (rest := []) hx hb hml hown hts hK hX hI 0 (by omega) cE_0 rfl (k_X5_carryOneOut l dd g ad pi A hA (pdM (mset N 10 3 (chr (C 12) len (p0of (C 12) len p1))) qz3 Lz3 wz3) (by simp only [pdM_13, pdM_ne (show (0 : Nat) ≠ 10 by decide) (show (0 : Nat) ≠ 13 by decide), mset_ne _ (show (0 : Nat) ≠ 10 by decide)]; exact (hiw _ hinv).1) (by simp only [pdM_13, pdM_ne (show (0 : Nat) ≠ 10 by decide) (show (0 : Nat) ≠ 13 by decide), mset_ne _ (show (0 : Nat) ≠ 10 by decide)]; exact (hiw _ hinv).2) Lz3 hLz3 pdM_L (chr (C 12) len (p0of (C 12) len p1)) ((pdM_o (by decide) (by decide)).trans (mset_eq _ _ _ _))) (cwV 0 hts gX5_carryOrdersOut_X5_carryOneOut rfl rfl rfl (by decide +kernel) ⟨Nat.le_of_ble_eq_true rfl, Nat.le_of_ble_eq_true rfl⟩) rfl hl (Nat.le_of_ble_eq_true rfl) ⟨Nat.zero_le _, Nat.zero_le _⟩ dX5_carryOrdersOut_26 rfl (fun r C1 pi1 H locs h7 hI => ?_)
          obtain ⟨hr9, hc9, hp9⟩ := h7
          simp only [pdM_13, pdM_ne (show (0 : Nat) ≠ 10 by decide) (show (0 : Nat) ≠ 13 by decide), mset_ne _ (show (0 : Nat) ≠ 10 by decide)] at hr9 hc9
          rw [(c1_one hnz3).1] at hr9
          rw [(c1_one hnz3).2] at hc9
          rw [hc9, hp9] at hI
          subst hr9
          refine lv_if_ge (tgt := 34) hx hb dX5_carryOrdersOut_29 (by decide) (fun c8 => ?_) (fun c8 => ?_)
          · skip
            refine lv_iinc (v := nI (i + 1)) (lv' := [(1, .int (nI (i + 1))), (0, .ref (ad 0))]) hx hb dX5_carryOrdersOut_34 hl (k := 0) rfl (by rw [show Int32.ofInt 1 = nI 1 from rfl, nI_add]) (by decide) rfl (fun ls hl => ?_)
            refine lv_goto (tgt := 9) hx hb dX5_carryOrdersOut_37 (by decide) ?_
            exact ih (mrow (pdM (mset N 10 3 (chr (C 12) len (p0of (C 12) len p1))) qz3 Lz3 wz3) 0 (oneF (N 0) (chr (C 12) len (p0of (C 12) len p1)) (rO (C 12) len (p0of (C 12) len p1)).2.2)) (i + 1) qz3 (by omega) (by omega) (by rw [mrow_n _ (by decide), pdM_ne (by decide) (by decide), mset_ne _ (by decide)]; exact hN12) ((congrFun (mrow_n _ (by decide) _) _).trans ((pdM_o (by decide) (by decide)).trans ((mset_nj _ (by decide) _ _).trans hN1))) ((congrFun (mrow_n _ (by decide) _) _).trans pdM_q) (hPg.trans (Pf.pd.pg.trans Pg.row)) m_z3.1 (by rw [mrow_s]; exact his _ _ _ hinv c8) (by rw [hg, show 80 - i = (80 - (i + 1)) + 1 by omega, ccO_go gz3 z3 c8, ← ez3, mrow_s]; congr 1; omega) _ _ _ hI (lv_sub hl [0, 1] rfl)
          · skip
            refine lv_iload_n hx hb dX5_carryOrdersOut_32 rfl (lv_at hl 0 rfl) ?_
            exact c_iret (v := nI i) hx hb hr hI (⟨by rw [hg, show 80 - i = (80 - (i + 1)) + 1 by omega, ccO_no3 gz3 z3 c8]; rfl, by rw [hg, show 80 - i = (80 - (i + 1)) + 1 by omega, ccO_no3 gz3 z3 c8]; exact mrow_s _ _ _, hPg.trans (Pf.pd.pg.trans Pg.row), rfl⟩) dX5_carryOrdersOut_33 hlocks
        · skip
          have l_z3 := p0of_le (by omega) gz3
          have m_z3 := rO_place (C 12) len (p0of (C 12) len p1) l_z3.1
          obtain ⟨qz3, ez3⟩ : ∃ q, q = (rO (C 12) len (p0of (C 12) len p1)).2.1 := ⟨_, rfl⟩
          rw [← ez3] at hc9 m_z3
          rw [hc9] at hI
          subst hr9
          refine lv_if_eq (tgt := 32) hx hb dX5_carryOrdersOut_22 (by decide) (fun _ => ?_) (fun c9 => absurd (by decide) c9)
          refine lv_iload_n hx hb dX5_carryOrdersOut_32 rfl (lv_at hl 0 rfl) ?_
          exact c_iret (v := nI i) hx hb hr hI (⟨by rw [hg, ccO_no2 gz3 z3]; rfl, by rw [hg, ccO_no2 gz3 z3]; exact (pdM_ne (by decide) (by decide)).trans (mset_ne _ (by decide) _ _), hPg.trans Pf.pd.pg, rfl⟩) dX5_carryOrdersOut_33 hlocks
  exact L9 81 (mset C 10 (2) (0)) 0 0 (by omega) (by omega) (mset_ne _ (by decide) _ _) ((mset_nj _ (by decide) _ _).trans hl1) (mset_eq _ _ _ _) Pf.q.pg (Nat.zero_le _) (by rw [mset_ne _ (by decide)]; exact hinv0) (by rw [mset_ne _ (by decide), Nat.zero_add]) _ _ _ hI (lv_sub hl [0, 1] rfl)

set_option maxHeartbeats 4000000 in
set_option maxRecDepth 100000 in
theorem k_X5_carryOut (l : Launch) (dd : va_G) (g : Nat → ClassId) (ad pi : Nat → Nat) (A : Nat → Prop) (hA : cA A ad) (C : MS) (d : Nat) (hd6 : d ≤ 6) (hd : C 10 0 = nI d) (hpi : piOk pi) (hW0 : Wk (C 0)) (hgo0 : goOk (C 0)) (len : Nat) (hl80 : len ≤ 80) (hl1 : C 10 1 = nI len) (hch : chOk (C 12) len) (Inv : (Nat → Int32) → Prop) (hiw : ∀ f, Inv f → Wk f ∧ Lad f) (his : ∀ f c R, Inv f → 0 ≤ oneR f c R → Inv (oneF f c R)) (hinv0 : Inv (C 0))  : Met l yX5_carryOut wsX5_carryOut ({ frames := 6, cells := 0, slots := 0, locals := 140 }) (cPre dd g ad pi A C [.ref (ad 0)]) (cQi dd g ad A (fun r C1 pi1 => (¬ o2i (gF (C 12) len 81 0) = -6 ∧ r = -3 ∧ Pf C C1 ∧ pi1 = pi) ∨ (o2i (gF (C 12) len 81 0) = -6 ∧ r = nI (ccO (C 12) len 80 0 (C 0)).1 ∧ coC C pi d (ccO (C 12) len 80 0 (C 0)).2 C1 pi1))) 0 0 A := by
  refine Met.ofW (cc := cX5_carryOut) (maxL := 2) (ret := (some .int)) (by decide) rfl ?_
  intro p e s m args below meth c s₁ B hml hv
  obtain ⟨rfl, hP0, hK, hX⟩ := hv
  have hx := B.exec
  have hb := B.bytes
  have hr := B.returns
  have hts := atoms_spec (ws := wsX5_carryOut) B.pre
  have hown : s.vm.findClass RX5 = some m.cls := findClass_of_methodNamed B.named
  have hlocks := B.notSynchronized
  have hinX2 : ∀ w ∈ wsX20, w ∈ wsX5_carryOut := by decide +kernel
  have hinX5 : ∀ w ∈ wsX50, w ∈ wsX5_carryOut := by decide +kernel
  have hI : cI dd g ad pi A s.heap s.heap [] C := ⟨hP0, va_S.rf⟩
  have hl := lv_entry ([.ref (ad 0)]) (n := 2) (Nat.le_of_ble_eq_true rfl)
  rw [lg_entry_eq]
  generalize (lg_sl ([.ref (ad 0)]) ++ List.replicate (2 - (lg_sl ([.ref (ad 0)])).length) Slot.unset).toArray = ls at hl ⊢
  have hl : lv_has ls 2 [(0, .ref (ad 0))] := hl
  have hpd := hpi.1 d (by omega)
  have hc16 := hW0.2.1
  have hl4 := hW0.2.2.2
  refine lv_aload_n hx hb dX5_carryOut_0 rfl (lv_at hl 0 rfl) ?_
  refine c_get hx hb hts hown hK hI 0 (by omega) cE_0 rfl hinX5 4 (by decide) (hts (.fieldLink RX5 34 "WinderLadders" "pad" "LWinderLadders$Pad;") (by decide +kernel)) (v := .ref (ad 5)) rfl dX5_carryOut_1 ?_
  refine c_calli (As := []) (rest := []) hx hb hml hown hts hK hX hI 5 (by omega) cE_5 rfl (k_X2_findFault l dd g ad pi A hA C len hl80 hl1 hch) (cwV 0 hts gX5_carryOut_X2_findFault rfl rfl rfl (by decide +kernel) ⟨Nat.le_of_ble_eq_true rfl, Nat.le_of_ble_eq_true rfl⟩) rfl hl (Nat.le_of_ble_eq_true rfl) ⟨Nat.zero_le _, Nat.zero_le _⟩ dX5_carryOut_4 rfl (fun r N1 pi1 H locs h1 hI => ?_)
  obtain ⟨hr9, hPf1, hp9⟩ := h1
  rw [hp9] at hI
  subst hr9
  refine lv_bipush (v := (-6)) hx hb dX5_carryOut_7 (by decide) ?_
  refine lv_icmp_eq (tgt := 15) hx hb dX5_carryOut_9 (by decide) (fun c2 => ?_) (fun c2 => ?_)
  · skip
    have hN10 : N1 0 = C 0 := hPf1.1 0 (by decide) (by decide)
    have hN112 : N1 12 = C 12 := hPf1.1 12 (by decide) (by decide)
    have hN1d : N1 10 0 = nI d := (hPf1.2 0 (by decide) (by decide) (by decide)).trans hd
    have hN11 : N1 10 1 = nI len := (hPf1.2 1 (by decide) (by decide) (by decide)).trans hl1
    refine lv_aload_n hx hb dX5_carryOut_15 rfl (lv_at hl 0 rfl) ?_
    refine c_get hx hb hts hown hK hI 0 (by omega) cE_0 rfl hinX5 1 (by decide) (hts (.fieldLink RX5 19 "WinderLadders" "history" "LWinderLadders$History;") (by decide +kernel)) (v := .ref (ad 1)) rfl dX5_carryOut_16 ?_
    refine lv_aload_n hx hb dX5_carryOut_19 rfl (lv_at hl 0 rfl) ?_
    refine c_get hx hb hts hown hK hI 0 (by omega) cE_0 rfl hinX5 0 (by decide) (hts (.fieldLink RX5 12 "WinderLadders" "now" "LWinderLadders$State;") (by decide +kernel)) (v := .ref (ad (11 + 20 * 0))) rfl dX5_carryOut_20 ?_
    refine c_callv (As := [.ref (ad (11 + 20 * 0))]) (rest := []) hx hb hml hown hts hK hX hI 1 (by omega) cE_1 rfl (k_X1_prepare l dd g ad pi A hA N1 d hd6 hN1d hpi (by rw [hN10]; exact hW0) (by rw [hN10]; exact hgo0)) (cwV 1 hts gX5_carryOut_X1_prepare rfl rfl rfl (by decide +kernel) ⟨Nat.le_of_ble_eq_true rfl, Nat.le_of_ble_eq_true rfl⟩) rfl hl (Nat.le_of_ble_eq_true rfl) ⟨Nat.zero_le _, Nat.zero_le _⟩ dX5_carryOut_23 rfl (fun C1 pi1 H locs h3 hI => ?_)
    obtain ⟨hc9, hp9⟩ := h3
    rw [hc9, hp9] at hI
    refine lv_aload_n hx hb dX5_carryOut_26 rfl (lv_at hl 0 rfl) ?_
    refine c_calli (As := []) (rest := []) hx hb hml hown hts hK hX hI 0 (by omega) cE_0 rfl (k_X5_carryOrdersOut l dd g ad pi A hA (prM N1 pi d) len hl80 (by rw [prM_ne (by omega)]; exact hN11) (by rw [prM_ne (by omega), hN112]; exact hch) Inv hiw his (by rw [prM_ne (by omega), hN10]; exact hinv0)) (cwV 0 hts gX5_carryOut_X5_carryOrdersOut rfl rfl rfl (by decide +kernel) ⟨Nat.le_of_ble_eq_true rfl, Nat.le_of_ble_eq_true rfl⟩) rfl hl (Nat.le_of_ble_eq_true rfl) ⟨Nat.zero_le _, Nat.zero_le _⟩ dX5_carryOut_27 rfl (fun r N2 pi1 H locs h4 hI => ?_)
    obtain ⟨hr9, hG0, hG, hp9⟩ := h4
    rw [prM_ne (C := N1) (pi := pi) (d := d) (a := 12) (by omega), prM_ne (C := N1) (pi := pi) (d := d) (a := 0) (by omega), hN112, hN10] at hr9 hG0
    rw [hp9] at hI
    subst hr9
    refine lv_istore_n (lv' := [(1, .int (nI (ccO (C 12) len 80 0 (C 0)).1)), (0, .ref (ad 0))]) hx hb dX5_carryOut_30 rfl hl (by decide) rfl (fun ls hl => ?_)
    refine lv_aload_n hx hb dX5_carryOut_31 rfl (lv_at hl 1 rfl) ?_
    refine c_get hx hb hts hown hK hI 0 (by omega) cE_0 rfl hinX5 4 (by decide) (hts (.fieldLink RX5 34 "WinderLadders" "pad" "LWinderLadders$Pad;") (by decide +kernel)) (v := .ref (ad 5)) rfl dX5_carryOut_32 ?_
    refine lv_iconst (v := 0) hx hb dX5_carryOut_35 (by decide) ?_
    refine c_putP hx hb hts hinX2 hown hK hA hI 1 2 (by decide) (hts (.fieldLink RX5 166 "WinderLadders$Pad" "length" "I") (by decide +kernel)) dX5_carryOut_36 (fun H locs hI => ?_)
    refine lv_aload_n hx hb dX5_carryOut_39 rfl (lv_at hl 1 rfl) ?_
    refine lv_iload_n hx hb dX5_carryOut_40 rfl (lv_at hl 0 rfl) ?_
    refine c_calli (As := [.int (nI (ccO (C 12) len 80 0 (C 0)).1)]) (rest := []) hx hb hml hown hts hK hX hI 0 (by omega) cE_0 rfl (k_X5_keptIfDone l dd g ad pi A hA (mset N2 10 (1) (0)) d hd6 (by rw [mset_nj _ (by decide), hG.2 0 (by decide) (by decide) (by decide), prM_ne (by omega)]; exact hN1d) hpi (nI (ccO (C 12) len 80 0 (C 0)).1)) (cwV 1 hts gX5_carryOut_X5_keptIfDone rfl rfl rfl (by decide +kernel) ⟨Nat.le_of_ble_eq_true rfl, Nat.le_of_ble_eq_true rfl⟩) rfl hl (Nat.le_of_ble_eq_true rfl) ⟨Nat.zero_le _, Nat.zero_le _⟩ dX5_carryOut_41 rfl (fun r C1 pi1 H locs h6 hI => ?_)
    obtain ⟨hr9, h6⟩ := h6
    subst hr9
    rcases h6 with ⟨k5, nk5, hc9, hp9⟩ | ⟨k5, nk5, hc9, hp9⟩ | ⟨k5, hc9, hp9⟩
    · skip
      rw [hc9, hp9] at hI
      exact c_iret (v := nI (ccO (C 12) len 80 0 (C 0)).1) hx hb hr hI (Or.inr ⟨c2, rfl, (by simp only [mset_ne _ (show (0 : Nat) ≠ 10 by decide)]; exact hG0), (by rw [mset_ne _ (show pi d ≠ 10 by omega), mset_ne _ (show pi d ≠ 10 by omega)]; rw [hG.1 _ (by omega) (by omega) (by omega)]; unfold prM; rw [mrow_s, hPf1.1 _ (by omega) (by omega), hN10]), (fun a a0 a1 a2 a3 => by rw [mset_ne _ a1, mset_ne _ a1, hG.1 a a0 a1 a2, prM_ne a3, hPf1.1 a a1 a2]), (by rw [mset_nj _ (by decide)]; exact mset_eq _ _ _ _), (by rw [if_pos nk5]; exact mset_eq _ _ _ _), (by rw [if_pos nk5])⟩) dX5_carryOut_44 hlocks
    · skip
      rw [hc9, hp9] at hI
      exact c_iret (v := nI (ccO (C 12) len 80 0 (C 0)).1) hx hb hr hI (Or.inr ⟨c2, rfl, (by simp only [mset_ne _ (show (0 : Nat) ≠ 10 by decide)]; exact hG0), (by rw [mset_ne _ (show pi d ≠ 10 by omega)]; rw [hG.1 _ (by omega) (by omega) (by omega)]; unfold prM; rw [mrow_s, hPf1.1 _ (by omega) (by omega), hN10]), (fun a a0 a1 a2 a3 => by rw [mset_ne _ a1, hG.1 a a0 a1 a2, prM_ne a3, hPf1.1 a a1 a2]), (by exact mset_eq _ _ _ _), (by rw [if_neg nk5]; rw [mset_nj _ (by decide), hG.2 0 (by decide) (by decide) (by decide), prM_ne (by omega)]; exact hN1d), (by rw [if_neg nk5])⟩) dX5_carryOut_44 hlocks
    · skip
      rw [hc9, hp9] at hI
      exact c_iret (v := nI (ccO (C 12) len 80 0 (C 0)).1) hx hb hr hI (absurd (Int32.nlt_le (nI_pos (by have := ccO_le (C 12) len 80 0 (C 0); omega))) k5) dX5_carryOut_44 hlocks
  · skip
    refine lv_bipush (v := (-3)) hx hb dX5_carryOut_12 (by decide) ?_
    exact c_iret (v := (-3)) hx hb hr hI (Or.inl ⟨c2, rfl, hPf1, rfl⟩) dX5_carryOut_14 hlocks
