set_option maxHeartbeats 4000000 in
set_option maxRecDepth 100000 in
theorem k_X5_lasts (l : Launch) (dd : va_G) (g : Nat → ClassId) (ad pi : Nat → Nat) (A : Nat → Prop) (hA : cA A ad) (C : MS) (hW0 : Wk (C 0)) (hgo0 : goOk (C 0)) (hTm0 : Tm (C 0)) (x : Int32)  : Met l yX5_lasts wsX5_lasts ({ frames := 4, cells := 0, slots := 0, locals := 90 }) (cPre dd g ad pi A C [.ref (ad 0), .int x]) (cQi dd g ad A (fun r C1 pi1 => r = (if isCb (C 0) x = true then nI (duS (C 0) (ix x)) else -1) ∧ C1 = C ∧ pi1 = pi)) 0 0 A := by
  refine Met.ofW (cc := cX5_lasts) (maxL := 2) (ret := (some .int)) (by decide) rfl ?_
  intro p e s m args below meth c s₁ B hml hv
  obtain ⟨rfl, hP0, hK, hX⟩ := hv
  have hx := B.exec
  have hb := B.bytes
  have hr := B.returns
  have hts := atoms_spec (ws := wsX5_lasts) B.pre
  have hown : s.vm.findClass RX5 = some m.cls := findClass_of_methodNamed B.named
  have hlocks := B.notSynchronized
  have hinX5 : ∀ w ∈ wsX50, w ∈ wsX5_lasts := by decide +kernel
  have hI : cI dd g ad pi A s.heap s.heap [] C := ⟨hP0, va_S.rf⟩
  have hl := lv_entry ([.ref (ad 0), .int x]) (n := 2) (Nat.le_of_ble_eq_true rfl)
  rw [lg_entry_eq]
  generalize (lg_sl ([.ref (ad 0), .int x]) ++ List.replicate (2 - (lg_sl ([.ref (ad 0), .int x])).length) Slot.unset).toArray = ls at hl ⊢
  have hl : lv_has ls 2 [(0, .ref (ad 0)), (1, .int x)] := hl
  have hc16 := hW0.2.1
  have hl4 := hW0.2.2.2
  refine lv_aload_n hx hb dX5_lasts_0 rfl (lv_at hl 0 rfl) ?_
  refine c_get hx hb hts hown hK hI 0 (by omega) cE_0 rfl hinX5 0 (by decide) (hts (.fieldLink RX5 12 "WinderLadders" "now" "LWinderLadders$State;") (by decide +kernel)) (v := .ref (ad (11 + 20 * 0))) rfl dX5_lasts_1 ?_
  refine lv_iload_n hx hb dX5_lasts_4 rfl (lv_at hl 1 rfl) ?_
  refine c_calli (As := [.int x]) (rest := []) hx hb hml hown hts hK hX hI (11 + 20 * 0) (by omega) cE_st rfl (k_X4_hasClock l dd g ad pi A hA C 0 (by omega) x hW0) (cwV 1 hts gX5_lasts_X4_hasClock rfl rfl rfl (by decide +kernel) ⟨Nat.le_of_ble_eq_true rfl, Nat.le_of_ble_eq_true rfl⟩) rfl hl (Nat.le_of_ble_eq_true rfl) ⟨Nat.zero_le _, Nat.zero_le _⟩ dX5_lasts_5 rfl (fun r C1 pi1 H locs h2 hI => ?_)
  obtain ⟨h2, hc9, hp9⟩ := h2
  rw [hc9, hp9] at hI
  rcases h2 with ⟨⟨i1, hi_i1, e_i1⟩, rfl⟩ | ⟨b_i1, rfl⟩
  · skip
    have b_i1 : isCb (C 0) x = true := isCb_t hW0 ⟨hi_i1, e_i1⟩
    have x_i1 : ix x = i1 := by rw [e_i1]; exact ix_nI (by omega)
    subst e_i1
    refine lv_if_eq (tgt := 22) hx hb dX5_lasts_8 (by decide) (fun c3 => absurd c3 (by decide)) (fun _ => ?_)
    refine lv_aload_n hx hb dX5_lasts_11 rfl (lv_at hl 0 rfl) ?_
    refine c_get hx hb hts hown hK hI 0 (by omega) cE_0 rfl hinX5 0 (by decide) (hts (.fieldLink RX5 12 "WinderLadders" "now" "LWinderLadders$State;") (by decide +kernel)) (v := .ref (ad (11 + 20 * 0))) rfl dX5_lasts_12 ?_
    refine lv_iload_n hx hb dX5_lasts_15 rfl (lv_at hl 1 rfl) ?_
    refine c_calli (As := [.int (nI i1)]) (rest := []) hx hb hml hown hts hK hX hI (11 + 20 * 0) (by omega) cE_st rfl (k_X4_daysUntilOff l dd g ad pi A hA C 0 (by omega) (nI i1) hW0 hTm0) (cwV 1 hts gX5_lasts_X4_daysUntilOff rfl rfl rfl (by decide +kernel) ⟨Nat.le_of_ble_eq_true rfl, Nat.le_of_ble_eq_true rfl⟩) rfl hl (Nat.le_of_ble_eq_true rfl) ⟨Nat.zero_le _, Nat.zero_le _⟩ dX5_lasts_16 rfl (fun r C1 pi1 H locs h4 hI => ?_)
    obtain ⟨hr9, hc9, hp9⟩ := h4
    rw [hc9, hp9] at hI
    rw [if_pos (isCb_t hW0 ⟨by omega, rfl⟩), ix_nI (by omega)] at hr9
    subst hr9
    refine lv_goto (tgt := 23) hx hb dX5_lasts_19 (by decide) ?_
    exact c_iret (v := nI (duS (C 0) i1)) hx hb hr hI (⟨by simp only [x_i1, if_pos b_i1], rfl, rfl⟩) dX5_lasts_23 hlocks
  · skip
    have b_i1 := isCb_f hW0 b_i1
    refine lv_if_eq (tgt := 22) hx hb dX5_lasts_8 (by decide) (fun _ => ?_) (fun c5 => absurd (by decide) c5)
    refine lv_iconst (v := (-1)) hx hb dX5_lasts_22 (by decide) ?_
    exact c_iret (v := (-1)) hx hb hr hI (⟨by simp only [if_neg (Bool.eq_false_iff.mp b_i1)], rfl, rfl⟩) dX5_lasts_23 hlocks

set_option maxHeartbeats 4000000 in
set_option maxRecDepth 100000 in
theorem k_X5_ladderFor (l : Launch) (dd : va_G) (g : Nat → ClassId) (ad pi : Nat → Nat) (A : Nat → Prop) (hA : cA A ad) (C : MS) (hW0 : Wk (C 0)) (hgo0 : goOk (C 0)) (hLd0 : Lad (C 0))  : Met l yX5_ladderFor wsX5_ladderFor ({ frames := 3, cells := 0, slots := 0, locals := 67 }) (cPre dd g ad pi A C [.ref (ad 0)]) (cQi dd g ad A (fun r C1 pi1 => r = lfC (C 0) ∧ C1 = C ∧ pi1 = pi)) 0 0 A := by
  refine Met.ofW (cc := cX5_ladderFor) (maxL := 2) (ret := (some .int)) (by decide) rfl ?_
  intro p e s m args below meth c s₁ B hml hv
  obtain ⟨rfl, hP0, hK, hX⟩ := hv
  have hx := B.exec
  have hb := B.bytes
  have hr := B.returns
  have hts := atoms_spec (ws := wsX5_ladderFor) B.pre
  have hown : s.vm.findClass RX5 = some m.cls := findClass_of_methodNamed B.named
  have hlocks := B.notSynchronized
  have hinX4 : ∀ w ∈ wsX40, w ∈ wsX5_ladderFor := by decide +kernel
  have hinX5 : ∀ w ∈ wsX50, w ∈ wsX5_ladderFor := by decide +kernel
  have hI : cI dd g ad pi A s.heap s.heap [] C := ⟨hP0, va_S.rf⟩
  have hl := lv_entry ([.ref (ad 0)]) (n := 2) (Nat.le_of_ble_eq_true rfl)
  rw [lg_entry_eq]
  generalize (lg_sl ([.ref (ad 0)]) ++ List.replicate (2 - (lg_sl ([.ref (ad 0)])).length) Slot.unset).toArray = ls at hl ⊢
  have hl : lv_has ls 2 [(0, .ref (ad 0))] := hl
  have hc16 := hW0.2.1
  have hl4 := hW0.2.2.2
  refine lv_aload_n hx hb dX5_ladderFor_0 rfl (lv_at hl 0 rfl) ?_
  refine c_get hx hb hts hown hK hI 0 (by omega) cE_0 rfl hinX5 0 (by decide) (hts (.fieldLink RX5 12 "WinderLadders" "now" "LWinderLadders$State;") (by decide +kernel)) (v := .ref (ad (11 + 20 * 0))) rfl dX5_ladderFor_1 ?_
  refine c_get hx hb hts hown hK hI (11 + 20 * 0) (by omega) cE_st rfl hinX4 4 (by decide) (hts (.fieldLink RX5 147 "WinderLadders$State" "ladderCount" "I") (by decide +kernel)) (v := .int (nI (ln (C 0)))) (congrArg (fun z => some (Value.int z)) hW0.2.2.1) dX5_ladderFor_4 ?_
  refine lv_iconst (v := 4) hx hb dX5_ladderFor_7 (by decide) ?_
  refine lv_icmp_lt (tgt := 14) hx hb dX5_ladderFor_8 (by decide) (fun c1 => ?_) (fun c1 => ?_)
  · skip
    have nc1 : ln (C 0) < 4 := (nI_ltI (a := ln (C 0)) (b := 4) (by omega) (by omega)).mp c1
    refine lv_aload_n hx hb dX5_ladderFor_14 rfl (lv_at hl 0 rfl) ?_
    refine c_get hx hb hts hown hK hI 0 (by omega) cE_0 rfl hinX5 0 (by decide) (hts (.fieldLink RX5 12 "WinderLadders" "now" "LWinderLadders$State;") (by decide +kernel)) (v := .ref (ad (11 + 20 * 0))) rfl dX5_ladderFor_15 ?_
    refine c_calli (As := []) (rest := []) hx hb hml hown hts hK hX hI (11 + 20 * 0) (by omega) cE_st rfl (k_X4_rungsOutOfReach l dd g ad pi A hA C 0 (by omega) hW0 hLd0) (cwV 0 hts gX5_ladderFor_X4_rungsOutOfReach rfl rfl rfl (by decide +kernel) ⟨Nat.le_of_ble_eq_true rfl, Nat.le_of_ble_eq_true rfl⟩) rfl hl (Nat.le_of_ble_eq_true rfl) ⟨Nat.zero_le _, Nat.zero_le _⟩ dX5_ladderFor_18 rfl (fun r C1 pi1 H locs h2 hI => ?_)
    obtain ⟨hr9, hc9, hp9⟩ := h2
    rw [hc9, hp9] at hI
    subst hr9
    refine lv_istore_n (lv' := [(1, .int (ruN (C 0) (cn (C 0)))), (0, .ref (ad 0))]) hx hb dX5_ladderFor_21 rfl hl (by decide) rfl (fun ls hl => ?_)
    refine lv_iload_n hx hb dX5_ladderFor_22 rfl (lv_at hl 0 rfl) ?_
    refine lv_if_ne (tgt := 31) hx hb dX5_ladderFor_23 (by decide) (fun c3 => ?_) (fun c3 => ?_)
    · skip
      refine lv_iload_n hx hb dX5_ladderFor_31 rfl (lv_at hl 0 rfl) ?_
      exact c_iret (v := ruN (C 0) (cn (C 0))) hx hb hr hI (⟨by simp only [lfC, if_pos c1, if_pos nc1, if_neg c3], rfl, rfl⟩) dX5_ladderFor_32 hlocks
    · skip
      refine lv_bipush (v := (-6)) hx hb dX5_ladderFor_26 (by decide) ?_
      refine lv_goto (tgt := 32) hx hb dX5_ladderFor_28 (by decide) ?_
      exact c_iret (v := (-6)) hx hb hr hI (⟨by simp only [lfC, if_pos c1, if_pos nc1, if_pos c3], rfl, rfl⟩) dX5_ladderFor_32 hlocks
  · skip
    have nc1 : ¬ (ln (C 0) < 4) := fun h => c1 ((nI_ltI (a := ln (C 0)) (b := 4) (by omega) (by omega)).mpr h)
    refine lv_bipush (v := (-4)) hx hb dX5_ladderFor_11 (by decide) ?_
    exact c_iret (v := (-4)) hx hb hr hI (⟨by simp only [lfC, if_neg c1, if_neg nc1], rfl, rfl⟩) dX5_ladderFor_13 hlocks

set_option maxHeartbeats 4000000 in
set_option maxRecDepth 100000 in
theorem k_X5_needs (l : Launch) (dd : va_G) (g : Nat → ClassId) (ad pi : Nat → Nat) (A : Nat → Prop) (hA : cA A ad) (C : MS) (hW0 : Wk (C 0)) (hgo0 : goOk (C 0)) (hTm0 : Tm (C 0)) (x : Int32)  : Met l yX5_needs wsX5_needs ({ frames := 5, cells := 0, slots := 0, locals := 112 }) (cPre dd g ad pi A C [.ref (ad 0), .int x]) (cQi dd g ad A (fun r C1 pi1 => r = neC (C 0) (cn (C 0)) x (cn (C 0)) ∧ (∃ w, C1 = mrow C 15 w) ∧ pi1 = pi)) 0 0 A := by
  refine Met.ofW (cc := cX5_needs) (maxL := 3) (ret := (some .int)) (by decide) rfl ?_
  intro p e s m args below meth c s₁ B hml hv
  obtain ⟨rfl, hP0, hK, hX⟩ := hv
  have hx := B.exec
  have hb := B.bytes
  have hr := B.returns
  have hts := atoms_spec (ws := wsX5_needs) B.pre
  have hown : s.vm.findClass RX5 = some m.cls := findClass_of_methodNamed B.named
  have hlocks := B.notSynchronized
  have hinX4 : ∀ w ∈ wsX40, w ∈ wsX5_needs := by decide +kernel
  have hinX5 : ∀ w ∈ wsX50, w ∈ wsX5_needs := by decide +kernel
  have hI : cI dd g ad pi A s.heap s.heap [] C := ⟨hP0, va_S.rf⟩
  have hl := lv_entry ([.ref (ad 0), .int x]) (n := 3) (Nat.le_of_ble_eq_true rfl)
  rw [lg_entry_eq]
  generalize (lg_sl ([.ref (ad 0), .int x]) ++ List.replicate (3 - (lg_sl ([.ref (ad 0), .int x])).length) Slot.unset).toArray = ls at hl ⊢
  have hl : lv_has ls 3 [(0, .ref (ad 0)), (1, .int x)] := hl
  have hc16 := hW0.2.1
  have hl4 := hW0.2.2.2
  refine lv_iload_n hx hb dX5_needs_0 rfl (lv_at hl 1 rfl) ?_
  refine lv_if_lt (tgt := 15) hx hb dX5_needs_1 (by decide) (fun c1 => ?_) (fun c1 => ?_)
  · skip
    refine lv_iconst (v := (-1)) hx hb dX5_needs_15 (by decide) ?_
    exact c_iret (v := (-1)) hx hb hr hI (⟨(neC_out hW0 (Or.inl c1)).symm, ⟨C 15, (mrow_self _ _).symm⟩, rfl⟩) dX5_needs_16 hlocks
  · skip
    refine lv_iload_n hx hb dX5_needs_4 rfl (lv_at hl 1 rfl) ?_
    refine lv_aload_n hx hb dX5_needs_5 rfl (lv_at hl 0 rfl) ?_
    refine c_get hx hb hts hown hK hI 0 (by omega) cE_0 rfl hinX5 0 (by decide) (hts (.fieldLink RX5 12 "WinderLadders" "now" "LWinderLadders$State;") (by decide +kernel)) (v := .ref (ad (11 + 20 * 0))) rfl dX5_needs_6 ?_
    refine c_get hx hb hts hown hK hI (11 + 20 * 0) (by omega) cE_st rfl hinX4 3 (by decide) (hts (.fieldLink RX5 144 "WinderLadders$State" "clockCount" "I") (by decide +kernel)) (v := .int (nI (cn (C 0)))) (congrArg (fun z => some (Value.int z)) hW0.1) dX5_needs_9 ?_
    refine lv_icmp_lt (tgt := 17) hx hb dX5_needs_12 (by decide) (fun c2 => ?_) (fun c2 => ?_)
    · skip
      refine lv_aload_n hx hb dX5_needs_17 rfl (lv_at hl 0 rfl) ?_
      refine c_get hx hb hts hown hK hI 0 (by omega) cE_0 rfl hinX5 0 (by decide) (hts (.fieldLink RX5 12 "WinderLadders" "now" "LWinderLadders$State;") (by decide +kernel)) (v := .ref (ad (11 + 20 * 0))) rfl dX5_needs_18 ?_
      refine lv_aload_n hx hb dX5_needs_21 rfl (lv_at hl 0 rfl) ?_
      refine c_get hx hb hts hown hK hI 0 (by omega) cE_0 rfl hinX5 6 (by decide) (hts (.fieldLink RX5 45 "WinderLadders" "lasting" "[I") (by decide +kernel)) (v := .ref (ad 211)) rfl dX5_needs_22 ?_
      refine c_callv (As := [.ref (ad 211)]) (rest := []) hx hb hml hown hts hK hX hI (11 + 20 * 0) (by omega) cE_st rfl (k_X4_tellDaysUntilOff l dd g ad pi A hA C 0 (by omega) hW0 hTm0) (cwV 1 hts gX5_needs_X4_tellDaysUntilOff rfl rfl rfl (by decide +kernel) ⟨Nat.le_of_ble_eq_true rfl, Nat.le_of_ble_eq_true rfl⟩) rfl hl (Nat.le_of_ble_eq_true rfl) ⟨Nat.zero_le _, Nat.zero_le _⟩ dX5_needs_25 rfl (fun C1 pi1 H locs h3 hI => ?_)
      obtain ⟨hc9, hp9⟩ := h3
      rw [hc9, hp9] at hI
      refine lv_iconst (v := 0) hx hb dX5_needs_28 (by decide) ?_
      refine lv_istore_n (lv' := [(2, .int 0), (0, .ref (ad 0)), (1, .int x)]) hx hb dX5_needs_29 rfl hl (by decide) rfl (fun ls hl => ?_)
      have L30 : ∀ (fuel : Nat) (i : Nat) (h1 : i ≤ cn (C 0)) (h2 : cn (C 0) < fuel + i) (hg : neC (C 0) (cn (C 0)) x (cn (C 0)) = neC (C 0) (cn (C 0)) x (cn (C 0) - i)) (H : Heap) (locs : List Loc) (ls : Array Slot), cI dd g ad pi A s.heap H locs (mrow C 15 (lasW (C 0) (C 15) (cn (C 0)))) → lv_has ls 3 [(2, .int (nI i)), (0, .ref (ad 0)), (1, .int x)] → wk p l e wsX5_needs { frames := 5, cells := 0, slots := 0, locals := 112 } s m [.ref (ad 0), .int x] below meth c H locs (cQi dd g ad A (fun r C1 pi1 => r = neC (C 0) (cn (C 0)) x (cn (C 0)) ∧ (∃ w, C1 = mrow C 15 w) ∧ pi1 = pi)) (A) (F0 m 30 ls []) := by
        intro fuel
        induction fuel with
        | zero =>
          intro i h1 h2 hg H locs ls hI hl
          exact absurd h2 (by omega)
        | succ fuel ih =>
          intro i h1 h2 hg H locs ls hI hl
          refine lv_iload_n hx hb dX5_needs_30 rfl (lv_at hl 0 rfl) ?_
          refine lv_aload_n hx hb dX5_needs_31 rfl (lv_at hl 1 rfl) ?_
          refine c_get hx hb hts hown hK hI 0 (by omega) cE_0 rfl hinX5 0 (by decide) (hts (.fieldLink RX5 12 "WinderLadders" "now" "LWinderLadders$State;") (by decide +kernel)) (v := .ref (ad (11 + 20 * 0))) rfl dX5_needs_32 ?_
          refine c_get hx hb hts hown hK hI (11 + 20 * 0) (by omega) cE_st rfl hinX4 3 (by decide) (hts (.fieldLink RX5 144 "WinderLadders$State" "clockCount" "I") (by decide +kernel)) (v := .int (nI (cn (C 0)))) (congrArg (fun z => some (Value.int z)) (((congrFun (mrow_n C (k := 15) (a := 0) (by decide) _) _).trans hW0.1))) dX5_needs_35 ?_
          refine lv_icmp_ge (tgt := 65) hx hb dX5_needs_38 (by decide) (fun c4 => ?_) (fun c4 => ?_)
          · skip
            have nc4 : cn (C 0) ≤ i := (nI_leI (a := cn (C 0)) (b := i) (by omega) (by omega)).mp c4
            refine lv_iconst (v := (-1)) hx hb dX5_needs_65 (by decide) ?_
            exact c_iret (v := (-1)) hx hb hr hI (⟨by rw [hg, show cn (C 0) - i = 0 by omega]; rfl, ⟨_, rfl⟩, rfl⟩) dX5_needs_66 hlocks
          · skip
            have nc4 : ¬ (cn (C 0) ≤ i) := fun h => c4 ((nI_leI (a := cn (C 0)) (b := i) (by omega) (by omega)).mpr h)
            refine lv_aload_n hx hb dX5_needs_41 rfl (lv_at hl 1 rfl) ?_
            refine c_get hx hb hts hown hK hI 0 (by omega) cE_0 rfl hinX5 0 (by decide) (hts (.fieldLink RX5 12 "WinderLadders" "now" "LWinderLadders$State;") (by decide +kernel)) (v := .ref (ad (11 + 20 * 0))) rfl dX5_needs_42 ?_
            refine lv_iload_n hx hb dX5_needs_45 rfl (lv_at hl 0 rfl) ?_
            refine lv_aload_n hx hb dX5_needs_46 rfl (lv_at hl 1 rfl) ?_
            refine c_get hx hb hts hown hK hI 0 (by omega) cE_0 rfl hinX5 6 (by decide) (hts (.fieldLink RX5 45 "WinderLadders" "lasting" "[I") (by decide +kernel)) (v := .ref (ad 211)) rfl dX5_needs_47 ?_
            refine c_calli (As := [.int (nI i), .ref (ad 211)]) (rest := []) hx hb hml hown hts hK hX hI (11 + 20 * 0) (by omega) cE_st rfl (k_X4_rankOf l dd g ad pi A hA (mrow C 15 (lasW (C 0) (C 15) (cn (C 0)))) 0 (by omega) i (by rw [mrow_n C (k := 15) (a := 0) (by decide) _]; omega) (by rw [mrow_n C (k := 15) (a := 0) (by decide) _]; exact hW0) (by rw [mrow_n C (k := 15) (a := 0) (by decide) _]; exact hTm0) (fun j9 hj9 => by rw [mrow_n C (k := 15) (a := 0) (by decide) _] at hj9 ⊢; rw [mrow_s]; exact lasW_get _ _ hj9)) (cwV 2 hts gX5_needs_X4_rankOf rfl rfl rfl (by decide +kernel) ⟨Nat.le_of_ble_eq_true rfl, Nat.le_of_ble_eq_true rfl⟩) rfl hl (Nat.le_of_ble_eq_true rfl) ⟨Nat.zero_le _, Nat.zero_le _⟩ dX5_needs_50 rfl (fun r C1 pi1 H locs h5 hI => ?_)
            obtain ⟨hr9, hc9, hp9⟩ := h5
            rw [hc9, hp9] at hI
            rw [mrow_n C (k := 15) (a := 0) (by decide) _] at hr9
            subst hr9
            refine lv_iload_n hx hb dX5_needs_53 rfl (lv_at hl 2 rfl) ?_
            refine lv_icmp_ne (tgt := 59) hx hb dX5_needs_54 (by decide) (fun c6 => ?_) (fun c6 => ?_)
            · skip
              refine lv_iinc (v := nI (i + 1)) (lv' := [(2, .int (nI (i + 1))), (0, .ref (ad 0)), (1, .int x)]) hx hb dX5_needs_59 hl (k := 0) rfl (by rw [show Int32.ofInt 1 = nI 1 from rfl, nI_add]) (by decide) rfl (fun ls hl => ?_)
              refine lv_goto (tgt := 30) hx hb dX5_needs_62 (by decide) ?_
              exact ih (i + 1) (by omega) (by omega) (by rw [hg, show cn (C 0) - i = (cn (C 0) - (i + 1)) + 1 by omega, neC, show cn (C 0) - (cn (C 0) - (i + 1) + 1) = i by omega, if_neg c6]) _ _ _ hI (lv_sub hl [0, 1, 2] rfl)
            · skip
              refine lv_iload_n hx hb dX5_needs_57 rfl (lv_at hl 0 rfl) ?_
              exact c_iret (v := nI i) hx hb hr hI (⟨by rw [hg, show cn (C 0) - i = (cn (C 0) - (i + 1)) + 1 by omega, neC, show cn (C 0) - (cn (C 0) - (i + 1) + 1) = i by omega, if_pos c6], ⟨_, rfl⟩, rfl⟩) dX5_needs_58 hlocks
      exact L30 17 0 (by omega) (by omega) rfl _ _ _ hI (lv_sub hl [0, 1, 2] rfl)
    · skip
      refine lv_iconst (v := (-1)) hx hb dX5_needs_15 (by decide) ?_
      exact c_iret (v := (-1)) hx hb hr hI (⟨(neC_out hW0 (Or.inr c2)).symm, ⟨C 15, (mrow_self _ _).symm⟩, rfl⟩) dX5_needs_16 hlocks

set_option maxHeartbeats 4000000 in
set_option maxRecDepth 100000 in
theorem k_X5_chooseRow (l : Launch) (dd : va_G) (g : Nat → ClassId) (ad pi : Nat → Nat) (A : Nat → Prop) (hA : cA A ad) (C : MS) (hW0 : Wk (C 0)) (x : Int32)  : Met l yX5_chooseRow wsX5_chooseRow ({ frames := 1, cells := 0, slots := 0, locals := 21 }) (cPre dd g ad pi A C [.ref (ad 0), .int x]) (cQi dd g ad A (fun r C1 pi1 => ((x < 0 ∧ r = -2 ∧ C1 = C) ∨ (¬ x < 0 ∧ (chL x (cn (C 0))) = 0 ∧ r = -5 ∧ C1 = (rwM C (chL x (cn (C 0))) (chW (C 14) x (cn (C 0))))) ∨ (¬ x < 0 ∧ ¬ (chL x (cn (C 0))) = 0 ∧ r = nI (chL x (cn (C 0))) ∧ C1 = (rwM C (chL x (cn (C 0))) (chW (C 14) x (cn (C 0)))))) ∧ pi1 = pi)) 0 0 A := by
  refine Met.ofW (cc := cX5_chooseRow) (maxL := 3) (ret := (some .int)) (by decide) rfl ?_
  intro p e s m args below meth c s₁ B hml hv
  obtain ⟨rfl, hP0, hK, hX⟩ := hv
  have hx := B.exec
  have hb := B.bytes
  have hr := B.returns
  have hts := atoms_spec (ws := wsX5_chooseRow) B.pre
  have hown : s.vm.findClass RX5 = some m.cls := findClass_of_methodNamed B.named
  have hlocks := B.notSynchronized
  have hinX3 : ∀ w ∈ wsX30, w ∈ wsX5_chooseRow := by decide +kernel
  have hinX4 : ∀ w ∈ wsX40, w ∈ wsX5_chooseRow := by decide +kernel
  have hinX5 : ∀ w ∈ wsX50, w ∈ wsX5_chooseRow := by decide +kernel
  have hI : cI dd g ad pi A s.heap s.heap [] C := ⟨hP0, va_S.rf⟩
  have hl := lv_entry ([.ref (ad 0), .int x]) (n := 3) (Nat.le_of_ble_eq_true rfl)
  rw [lg_entry_eq]
  generalize (lg_sl ([.ref (ad 0), .int x]) ++ List.replicate (3 - (lg_sl ([.ref (ad 0), .int x])).length) Slot.unset).toArray = ls at hl ⊢
  have hl : lv_has ls 3 [(0, .ref (ad 0)), (1, .int x)] := hl
  have hc16 := hW0.2.1
  have hl4 := hW0.2.2.2
  refine lv_iload_n hx hb dX5_chooseRow_0 rfl (lv_at hl 1 rfl) ?_
  refine lv_if_ge (tgt := 7) hx hb dX5_chooseRow_1 (by decide) (fun c1 => ?_) (fun c1 => ?_)
  · skip
    refine lv_aload_n hx hb dX5_chooseRow_7 rfl (lv_at hl 0 rfl) ?_
    refine c_get hx hb hts hown hK hI 0 (by omega) cE_0 rfl hinX5 5 (by decide) (hts (.fieldLink RX5 41 "WinderLadders" "row" "LWinderLadders$Row;") (by decide +kernel)) (v := .ref (ad 9)) rfl dX5_chooseRow_8 ?_
    refine c_callv (As := []) (rest := []) hx hb hml hown hts hK hX hI 9 (by omega) cE_9 rfl (k_X3_clear_r l dd g ad pi A hA C) (cwV 0 hts gX5_chooseRow_X3_clear rfl rfl rfl (by decide +kernel) ⟨Nat.le_of_ble_eq_true rfl, Nat.le_of_ble_eq_true rfl⟩) rfl hl (Nat.le_of_ble_eq_true rfl) ⟨Nat.zero_le _, Nat.zero_le _⟩ dX5_chooseRow_11 rfl (fun C1 pi1 H locs h2 hI => ?_)
    obtain ⟨hc9, hp9⟩ := h2
    rw [hc9, hp9] at hI
    refine lv_iconst (v := 0) hx hb dX5_chooseRow_14 (by decide) ?_
    refine lv_istore_n (lv' := [(2, .int 0), (0, .ref (ad 0)), (1, .int x)]) hx hb dX5_chooseRow_15 rfl hl (by decide) rfl (fun ls hl => ?_)
    have L16 : ∀ (fuel : Nat) (j : Nat) (h1 : j ≤ cn (C 0)) (h2 : cn (C 0) < fuel + j) (H : Heap) (locs : List Loc) (ls : Array Slot), cI dd g ad pi A s.heap H locs (rwM C (chL x j) (chW (C 14) x j)) → lv_has ls 3 [(2, .int (nI j)), (0, .ref (ad 0)), (1, .int x)] → wk p l e wsX5_chooseRow { frames := 1, cells := 0, slots := 0, locals := 21 } s m [.ref (ad 0), .int x] below meth c H locs (cQi dd g ad A (fun r C1 pi1 => ((x < 0 ∧ r = -2 ∧ C1 = C) ∨ (¬ x < 0 ∧ (chL x (cn (C 0))) = 0 ∧ r = -5 ∧ C1 = (rwM C (chL x (cn (C 0))) (chW (C 14) x (cn (C 0))))) ∨ (¬ x < 0 ∧ ¬ (chL x (cn (C 0))) = 0 ∧ r = nI (chL x (cn (C 0))) ∧ C1 = (rwM C (chL x (cn (C 0))) (chW (C 14) x (cn (C 0)))))) ∧ pi1 = pi)) (A) (F0 m 16 ls []) := by
      intro fuel
      induction fuel with
      | zero =>
        intro j h1 h2 H locs ls hI hl
        exact absurd h2 (by omega)
      | succ fuel ih =>
        intro j h1 h2 H locs ls hI hl
        have hcl := chL_le x j
        refine lv_iload_n hx hb dX5_chooseRow_16 rfl (lv_at hl 0 rfl) ?_
        refine lv_aload_n hx hb dX5_chooseRow_17 rfl (lv_at hl 1 rfl) ?_
        refine c_get hx hb hts hown hK hI 0 (by omega) cE_0 rfl hinX5 0 (by decide) (hts (.fieldLink RX5 12 "WinderLadders" "now" "LWinderLadders$State;") (by decide +kernel)) (v := .ref (ad (11 + 20 * 0))) rfl dX5_chooseRow_18 ?_
        refine c_get hx hb hts hown hK hI (11 + 20 * 0) (by omega) cE_st rfl hinX4 3 (by decide) (hts (.fieldLink RX5 144 "WinderLadders$State" "clockCount" "I") (by decide +kernel)) (v := .int (nI (cn (C 0)))) (congrArg (fun z => some (Value.int z)) (((congrFun (rwM_ne (by decide) (by decide)) _).trans hW0.1))) dX5_chooseRow_21 ?_
        refine lv_icmp_ge (tgt := 51) hx hb dX5_chooseRow_24 (by decide) (fun c3 => ?_) (fun c3 => ?_)
        · skip
          have nc3 : cn (C 0) ≤ j := (nI_leI (a := cn (C 0)) (b := j) (by omega) (by omega)).mp c3
          have ej : cn (C 0) = j := by omega
          refine lv_aload_n hx hb dX5_chooseRow_51 rfl (lv_at hl 1 rfl) ?_
          refine c_get hx hb hts hown hK hI 0 (by omega) cE_0 rfl hinX5 5 (by decide) (hts (.fieldLink RX5 41 "WinderLadders" "row" "LWinderLadders$Row;") (by decide +kernel)) (v := .ref (ad 9)) rfl dX5_chooseRow_52 ?_
          refine c_get hx hb hts hown hK hI 9 (by omega) cE_9 rfl hinX3 1 (by decide) (hts (.fieldLink RX5 226 "WinderLadders$Row" "length" "I") (by decide +kernel)) (v := .int (nI (chL x j))) (congrArg (fun z => some (Value.int z)) rwM_5) dX5_chooseRow_55 ?_
          refine lv_if_ne (tgt := 66) hx hb dX5_chooseRow_58 (by decide) (fun c4 => ?_) (fun c4 => ?_)
          · skip
            have nc4 : ¬ (chL x j = 0) := fun h => c4 ((nI_eq (a := chL x j) (b := 0) (by omega) (by omega)).mpr h)
            refine lv_aload_n hx hb dX5_chooseRow_66 rfl (lv_at hl 1 rfl) ?_
            refine c_get hx hb hts hown hK hI 0 (by omega) cE_0 rfl hinX5 5 (by decide) (hts (.fieldLink RX5 41 "WinderLadders" "row" "LWinderLadders$Row;") (by decide +kernel)) (v := .ref (ad 9)) rfl dX5_chooseRow_67 ?_
            refine c_get hx hb hts hown hK hI 9 (by omega) cE_9 rfl hinX3 1 (by decide) (hts (.fieldLink RX5 226 "WinderLadders$Row" "length" "I") (by decide +kernel)) (v := .int (nI (chL x j))) (congrArg (fun z => some (Value.int z)) rwM_5) dX5_chooseRow_70 ?_
            exact c_iret (v := nI (chL x j)) hx hb hr hI (⟨Or.inr (Or.inr ⟨Int32.not_lt.mpr c1, by rw [ej]; omega, by rw [ej], by rw [ej]⟩), rfl⟩) dX5_chooseRow_73 hlocks
          · skip
            have nc4 : chL x j = 0 := (nI_eq (a := chL x j) (b := 0) (by omega) (by omega)).mp c4
            refine lv_bipush (v := (-5)) hx hb dX5_chooseRow_61 (by decide) ?_
            refine lv_goto (tgt := 73) hx hb dX5_chooseRow_63 (by decide) ?_
            exact c_iret (v := (-5)) hx hb hr hI (⟨Or.inr (Or.inl ⟨Int32.not_lt.mpr c1, by rw [ej]; omega, rfl, by rw [ej]⟩), rfl⟩) dX5_chooseRow_73 hlocks
        · skip
          have nc3 : ¬ (cn (C 0) ≤ j) := fun h => c3 ((nI_leI (a := cn (C 0)) (b := j) (by omega) (by omega)).mpr h)
          refine lv_iload_n hx hb dX5_chooseRow_27 rfl (lv_at hl 2 rfl) ?_
          refine lv_iload_n hx hb dX5_chooseRow_28 rfl (lv_at hl 0 rfl) ?_
          refine lv_ishr hx hb dX5_chooseRow_29 ?_
          refine lv_iconst (v := 1) hx hb dX5_chooseRow_30 (by decide) ?_
          refine lv_iand hx hb dX5_chooseRow_31 ?_
          refine lv_iconst (v := 1) hx hb dX5_chooseRow_32 (by decide) ?_
          refine lv_icmp_ne (tgt := 45) hx hb dX5_chooseRow_33 (by decide) (fun c5 => ?_) (fun c5 => ?_)
          · skip
            refine lv_iinc (v := nI (j + 1)) (lv' := [(2, .int (nI (j + 1))), (0, .ref (ad 0)), (1, .int x)]) hx hb dX5_chooseRow_45 hl (k := 0) rfl (by rw [show Int32.ofInt 1 = nI 1 from rfl, nI_add]) (by decide) rfl (fun ls hl => ?_)
            refine lv_goto (tgt := 16) hx hb dX5_chooseRow_48 (by decide) ?_
            exact ih (j + 1) (by omega) (by omega) _ _ _ (by rw [show chL x (j + 1) = (chL x j) by simp only [chL, if_pos c1, if_neg c3, if_neg nc3, if_neg c5], show chW (C 14) x (j + 1) = (chW (C 14) x j) by simp only [chW, if_pos c1, if_neg c3, if_neg nc3, if_neg c5]]; exact hI) (lv_sub hl [0, 1, 2] rfl)
          · skip
            refine lv_aload_n hx hb dX5_chooseRow_36 rfl (lv_at hl 1 rfl) ?_
            refine c_get hx hb hts hown hK hI 0 (by omega) cE_0 rfl hinX5 5 (by decide) (hts (.fieldLink RX5 41 "WinderLadders" "row" "LWinderLadders$Row;") (by decide +kernel)) (v := .ref (ad 9)) rfl dX5_chooseRow_37 ?_
            refine lv_iload_n hx hb dX5_chooseRow_40 rfl (lv_at hl 0 rfl) ?_
            refine c_calli (As := [.int (nI j)]) (rest := []) hx hb hml hown hts hK hX hI 9 (by omega) cE_9 rfl (k_X3_add_r l dd g ad pi A hA (rwM C (chL x j) (chW (C 14) x j)) (chL x j) (by omega) rwM_5 (nI j)) (cwV 1 hts gX5_chooseRow_X3_add rfl rfl rfl (by decide +kernel) ⟨Nat.le_of_ble_eq_true rfl, Nat.le_of_ble_eq_true rfl⟩) rfl hl (Nat.le_of_ble_eq_true rfl) ⟨Nat.zero_le _, Nat.zero_le _⟩ dX5_chooseRow_41 rfl (fun r C1 pi1 H locs h6 hI => ?_)
            obtain ⟨h6, hp9⟩ := h6
            rcases h6 with ⟨-, hr9, hc9⟩ | ⟨hz9, -, -⟩
            rotate_left
            · exact absurd hz9 (by omega)
            rw [rwM_add] at hc9
            rw [hc9, hp9] at hI
            subst hr9
            refine lv_pop hx hb dX5_chooseRow_44 rfl ?_
            refine lv_iinc (v := nI (j + 1)) (lv' := [(2, .int (nI (j + 1))), (0, .ref (ad 0)), (1, .int x)]) hx hb dX5_chooseRow_45 hl (k := 0) rfl (by rw [show Int32.ofInt 1 = nI 1 from rfl, nI_add]) (by decide) rfl (fun ls hl => ?_)
            refine lv_goto (tgt := 16) hx hb dX5_chooseRow_48 (by decide) ?_
            exact ih (j + 1) (by omega) (by omega) _ _ _ (by rw [show chL x (j + 1) = ((chL x j) + 1) by simp only [chL, if_pos c1, if_neg c3, if_neg nc3, if_pos c5], show chW (C 14) x (j + 1) = (upd (chW (C 14) x j) (chL x j) (nI j)) by simp only [chW, if_pos c1, if_neg c3, if_neg nc3, if_pos c5]]; exact hI) (lv_sub hl [0, 1, 2] rfl)
    exact L16 17 0 (by omega) (by omega) _ _ _ (by rw [rwM_0] at hI; exact hI) (lv_sub hl [0, 1, 2] rfl)
  · skip
    refine lv_bipush (v := (-2)) hx hb dX5_chooseRow_4 (by decide) ?_
    exact c_iret (v := (-2)) hx hb hr hI (⟨Or.inl ⟨Int32.not_le.mp c1, rfl, rfl⟩, rfl⟩) dX5_chooseRow_6 hlocks

set_option maxHeartbeats 4000000 in
set_option maxRecDepth 100000 in
theorem k_X5_takes (l : Launch) (dd : va_G) (g : Nat → ClassId) (ad pi : Nat → Nat) (A : Nat → Prop) (hA : cA A ad) (C : MS) (hW0 : Wk (C 0)) (hLd0 : Lad (C 0)) (x : Int32)  : Met l yX5_takes wsX5_takes ({ frames := 3, cells := 0, slots := 0, locals := 74 }) (cPre dd g ad pi A C [.ref (ad 0), .int x]) (cQi dd g ad A (fun r C1 pi1 => ((x < 0 ∧ r = -2 ∧ C1 = C) ∨ (¬ x < 0 ∧ (chL x (cn (C 0))) = 0 ∧ r = -5 ∧ C1 = (rwM C (chL x (cn (C 0))) (chW (C 14) x (cn (C 0))))) ∨ (¬ x < 0 ∧ ¬ (chL x (cn (C 0))) = 0 ∧ r = moN (C 0) (chW (C 14) x (cn (C 0))) (chL x (cn (C 0))) ∧ C1 = (rwM C (chL x (cn (C 0))) (chW (C 14) x (cn (C 0)))))) ∧ pi1 = pi)) 0 0 A := by
  refine Met.ofW (cc := cX5_takes) (maxL := 3) (ret := (some .int)) (by decide) rfl ?_
  intro p e s m args below meth c s₁ B hml hv
  obtain ⟨rfl, hP0, hK, hX⟩ := hv
  have hx := B.exec
  have hb := B.bytes
  have hr := B.returns
  have hts := atoms_spec (ws := wsX5_takes) B.pre
  have hown : s.vm.findClass RX5 = some m.cls := findClass_of_methodNamed B.named
  have hlocks := B.notSynchronized
  have hinX5 : ∀ w ∈ wsX50, w ∈ wsX5_takes := by decide +kernel
  have hI : cI dd g ad pi A s.heap s.heap [] C := ⟨hP0, va_S.rf⟩
  have hl := lv_entry ([.ref (ad 0), .int x]) (n := 3) (Nat.le_of_ble_eq_true rfl)
  rw [lg_entry_eq]
  generalize (lg_sl ([.ref (ad 0), .int x]) ++ List.replicate (3 - (lg_sl ([.ref (ad 0), .int x])).length) Slot.unset).toArray = ls at hl ⊢
  have hl : lv_has ls 3 [(0, .ref (ad 0)), (1, .int x)] := hl
  have hc16 := hW0.2.1
  have hl4 := hW0.2.2.2
  refine lv_aload_n hx hb dX5_takes_0 rfl (lv_at hl 0 rfl) ?_
  refine lv_iload_n hx hb dX5_takes_1 rfl (lv_at hl 1 rfl) ?_
  refine c_calli (As := [.int x]) (rest := []) hx hb hml hown hts hK hX hI 0 (by omega) cE_0 rfl (k_X5_chooseRow l dd g ad pi A hA C hW0 x) (cwV 1 hts gX5_takes_X5_chooseRow rfl rfl rfl (by decide +kernel) ⟨Nat.le_of_ble_eq_true rfl, Nat.le_of_ble_eq_true rfl⟩) rfl hl (Nat.le_of_ble_eq_true rfl) ⟨Nat.zero_le _, Nat.zero_le _⟩ dX5_takes_2 rfl (fun r C1 pi1 H locs h2 hI => ?_)
  obtain ⟨h2, hp9⟩ := h2
  rw [hp9] at hI
  rcases h2 with ⟨x1, hr9, hc9⟩ | ⟨x1, lx1, hr9, hc9⟩ | ⟨x1, lx1, hr9, hc9⟩
  · skip
    rw [hc9] at hI
    subst hr9
    refine lv_istore_n (lv' := [(2, .int ((-2))), (0, .ref (ad 0)), (1, .int x)]) hx hb dX5_takes_5 rfl hl (by decide) rfl (fun ls hl => ?_)
    refine lv_iload_n hx hb dX5_takes_6 rfl (lv_at hl 0 rfl) ?_
    refine lv_if_ge (tgt := 14) hx hb dX5_takes_7 (by decide) (fun c3 => absurd c3 (by decide)) (fun _ => ?_)
    refine lv_iload_n hx hb dX5_takes_10 rfl (lv_at hl 0 rfl) ?_
    refine lv_goto (tgt := 25) hx hb dX5_takes_11 (by decide) ?_
    exact c_iret (v := (-2)) hx hb hr hI (⟨Or.inl ⟨x1, rfl, rfl⟩, rfl⟩) dX5_takes_25 hlocks
  · skip
    rw [hc9] at hI
    subst hr9
    refine lv_istore_n (lv' := [(2, .int ((-5))), (0, .ref (ad 0)), (1, .int x)]) hx hb dX5_takes_5 rfl hl (by decide) rfl (fun ls hl => ?_)
    refine lv_iload_n hx hb dX5_takes_6 rfl (lv_at hl 0 rfl) ?_
    refine lv_if_ge (tgt := 14) hx hb dX5_takes_7 (by decide) (fun c4 => absurd c4 (by decide)) (fun _ => ?_)
    refine lv_iload_n hx hb dX5_takes_10 rfl (lv_at hl 0 rfl) ?_
    refine lv_goto (tgt := 25) hx hb dX5_takes_11 (by decide) ?_
    exact c_iret (v := (-5)) hx hb hr hI (⟨Or.inr (Or.inl ⟨x1, lx1, rfl, rfl⟩), rfl⟩) dX5_takes_25 hlocks
  · skip
    rw [hc9] at hI
    subst hr9
    have hlx := chL_le x (cn (C 0))
    refine lv_istore_n (lv' := [(2, .int (nI (chL x (cn (C 0))))), (0, .ref (ad 0)), (1, .int x)]) hx hb dX5_takes_5 rfl hl (by decide) rfl (fun ls hl => ?_)
    refine lv_iload_n hx hb dX5_takes_6 rfl (lv_at hl 0 rfl) ?_
    refine lv_if_ge (tgt := 14) hx hb dX5_takes_7 (by decide) (fun c5 => ?_) (fun c5 => ?_)
    · skip
      have nc5 : 0 ≤ chL x (cn (C 0)) := (nI_leI (a := 0) (b := chL x (cn (C 0))) (by omega) (by omega)).mp c5
      refine lv_aload_n hx hb dX5_takes_14 rfl (lv_at hl 1 rfl) ?_
      refine c_get hx hb hts hown hK hI 0 (by omega) cE_0 rfl hinX5 0 (by decide) (hts (.fieldLink RX5 12 "WinderLadders" "now" "LWinderLadders$State;") (by decide +kernel)) (v := .ref (ad (11 + 20 * 0))) rfl dX5_takes_15 ?_
      refine lv_aload_n hx hb dX5_takes_18 rfl (lv_at hl 1 rfl) ?_
      refine c_get hx hb hts hown hK hI 0 (by omega) cE_0 rfl hinX5 5 (by decide) (hts (.fieldLink RX5 41 "WinderLadders" "row" "LWinderLadders$Row;") (by decide +kernel)) (v := .ref (ad 9)) rfl dX5_takes_19 ?_
      refine c_calli (As := [.ref (ad 9)]) (rest := []) hx hb hml hown hts hK hX hI (11 + 20 * 0) (by omega) cE_st rfl (k_X4_minutesOf_r l dd g ad pi A hA (rwM C (chL x (cn (C 0))) (chW (C 14) x (cn (C 0)))) 0 (by omega) (chL x (cn (C 0))) (by omega) rwM_5 (by rw [rwM_ne (by decide) (by decide)]; exact hW0) (by rw [rwM_ne (by decide) (by decide)]; exact hLd0)) (cwV 1 hts gX5_takes_X4_minutesOf rfl rfl rfl (by decide +kernel) ⟨Nat.le_of_ble_eq_true rfl, Nat.le_of_ble_eq_true rfl⟩) rfl hl (Nat.le_of_ble_eq_true rfl) ⟨Nat.zero_le _, Nat.zero_le _⟩ dX5_takes_22 rfl (fun r C1 pi1 H locs h7 hI => ?_)
      simp only [rwM_14, rwM_ne (show (0 : Nat) ≠ 10 by decide) (show (0 : Nat) ≠ 14 by decide)] at h7
      obtain ⟨h7, hc9, hp9⟩ := h7
      rw [hc9, hp9] at hI
      rcases h7 with ⟨g6, hr9⟩ | ⟨g6, hr9⟩
      · skip
        subst hr9
        exact c_iret (v := moN (C 0) (chW (C 14) x (cn (C 0))) (chL x (cn (C 0)))) hx hb hr hI (⟨Or.inr (Or.inr ⟨x1, lx1, rfl, rfl⟩), rfl⟩) dX5_takes_25 hlocks
      · skip
        exact absurd (chW_gd hW0 _ _) g6
    · skip
      have nc5 : ¬ (0 ≤ chL x (cn (C 0))) := fun h => c5 ((nI_leI (a := 0) (b := chL x (cn (C 0))) (by omega) (by omega)).mpr h)
      exact absurd (Nat.zero_le _) nc5

set_option maxHeartbeats 4000000 in
set_option maxRecDepth 100000 in
theorem k_X5_wayRound (l : Launch) (dd : va_G) (g : Nat → ClassId) (ad pi : Nat → Nat) (A : Nat → Prop) (hA : cA A ad) (C : MS) (hW0 : Wk (C 0)) (hLd0 : Lad (C 0)) (x : Int32)  : Met l yX5_wayRound wsX5_wayRound ({ frames := 3, cells := 0, slots := 0, locals := 74 }) (cPre dd g ad pi A C [.ref (ad 0), .int x]) (cQi dd g ad A (fun r C1 pi1 => ((x < 0 ∧ r = -2 ∧ C1 = C) ∨ (¬ x < 0 ∧ (chL x (cn (C 0))) = 0 ∧ r = -5 ∧ C1 = (rwM C (chL x (cn (C 0))) (chW (C 14) x (cn (C 0))))) ∨ (¬ x < 0 ∧ ¬ (chL x (cn (C 0))) = 0 ∧ r = wayC (moN (C 0) (chW (C 14) x (cn (C 0))) (chL x (cn (C 0)))) (moN (C 0) (trN (chW (C 14) x (cn (C 0))) (chL x (cn (C 0))) ((chL x (cn (C 0))) / 2)) (chL x (cn (C 0)))) ∧ C1 = (rwM C (chL x (cn (C 0))) (trN (chW (C 14) x (cn (C 0))) (chL x (cn (C 0))) ((chL x (cn (C 0))) / 2))))) ∧ pi1 = pi)) 0 0 A := by
  refine Met.ofW (cc := cX5_wayRound) (maxL := 5) (ret := (some .int)) (by decide) rfl ?_
  intro p e s m args below meth c s₁ B hml hv
  obtain ⟨rfl, hP0, hK, hX⟩ := hv
  have hx := B.exec
  have hb := B.bytes
  have hr := B.returns
  have hts := atoms_spec (ws := wsX5_wayRound) B.pre
  have hown : s.vm.findClass RX5 = some m.cls := findClass_of_methodNamed B.named
  have hlocks := B.notSynchronized
  have hinX5 : ∀ w ∈ wsX50, w ∈ wsX5_wayRound := by decide +kernel
  have hI : cI dd g ad pi A s.heap s.heap [] C := ⟨hP0, va_S.rf⟩
  have hl := lv_entry ([.ref (ad 0), .int x]) (n := 5) (Nat.le_of_ble_eq_true rfl)
  rw [lg_entry_eq]
  generalize (lg_sl ([.ref (ad 0), .int x]) ++ List.replicate (5 - (lg_sl ([.ref (ad 0), .int x])).length) Slot.unset).toArray = ls at hl ⊢
  have hl : lv_has ls 5 [(0, .ref (ad 0)), (1, .int x)] := hl
  have hc16 := hW0.2.1
  have hl4 := hW0.2.2.2
  refine lv_aload_n hx hb dX5_wayRound_0 rfl (lv_at hl 0 rfl) ?_
  refine lv_iload_n hx hb dX5_wayRound_1 rfl (lv_at hl 1 rfl) ?_
  refine c_calli (As := [.int x]) (rest := []) hx hb hml hown hts hK hX hI 0 (by omega) cE_0 rfl (k_X5_chooseRow l dd g ad pi A hA C hW0 x) (cwV 1 hts gX5_wayRound_X5_chooseRow rfl rfl rfl (by decide +kernel) ⟨Nat.le_of_ble_eq_true rfl, Nat.le_of_ble_eq_true rfl⟩) rfl hl (Nat.le_of_ble_eq_true rfl) ⟨Nat.zero_le _, Nat.zero_le _⟩ dX5_wayRound_2 rfl (fun r C1 pi1 H locs h2 hI => ?_)
  obtain ⟨h2, hp9⟩ := h2
  rw [hp9] at hI
  rcases h2 with ⟨x1, hr9, hc9⟩ | ⟨x1, lx1, hr9, hc9⟩ | ⟨x1, lx1, hr9, hc9⟩
  · skip
    rw [hc9] at hI
    subst hr9
    refine lv_istore_n (lv' := [(2, .int ((-2))), (0, .ref (ad 0)), (1, .int x)]) hx hb dX5_wayRound_5 rfl hl (by decide) rfl (fun ls hl => ?_)
    refine lv_iload_n hx hb dX5_wayRound_6 rfl (lv_at hl 0 rfl) ?_
    refine lv_if_ge (tgt := 12) hx hb dX5_wayRound_7 (by decide) (fun c3 => absurd c3 (by decide)) (fun _ => ?_)
    refine lv_iload_n hx hb dX5_wayRound_10 rfl (lv_at hl 0 rfl) ?_
    exact c_iret (v := (-2)) hx hb hr hI (⟨Or.inl ⟨x1, rfl, rfl⟩, rfl⟩) dX5_wayRound_11 hlocks
  · skip
    rw [hc9] at hI
    subst hr9
    refine lv_istore_n (lv' := [(2, .int ((-5))), (0, .ref (ad 0)), (1, .int x)]) hx hb dX5_wayRound_5 rfl hl (by decide) rfl (fun ls hl => ?_)
    refine lv_iload_n hx hb dX5_wayRound_6 rfl (lv_at hl 0 rfl) ?_
    refine lv_if_ge (tgt := 12) hx hb dX5_wayRound_7 (by decide) (fun c4 => absurd c4 (by decide)) (fun _ => ?_)
    refine lv_iload_n hx hb dX5_wayRound_10 rfl (lv_at hl 0 rfl) ?_
    exact c_iret (v := (-5)) hx hb hr hI (⟨Or.inr (Or.inl ⟨x1, lx1, rfl, rfl⟩), rfl⟩) dX5_wayRound_11 hlocks
  · skip
    rw [hc9] at hI
    subst hr9
    have hlx := chL_le x (cn (C 0))
    refine lv_istore_n (lv' := [(2, .int (nI (chL x (cn (C 0))))), (0, .ref (ad 0)), (1, .int x)]) hx hb dX5_wayRound_5 rfl hl (by decide) rfl (fun ls hl => ?_)
    refine lv_iload_n hx hb dX5_wayRound_6 rfl (lv_at hl 0 rfl) ?_
    refine lv_if_ge (tgt := 12) hx hb dX5_wayRound_7 (by decide) (fun c5 => ?_) (fun c5 => ?_)
    · skip
      have nc5 : 0 ≤ chL x (cn (C 0)) := (nI_leI (a := 0) (b := chL x (cn (C 0))) (by omega) (by omega)).mp c5
      refine lv_aload_n hx hb dX5_wayRound_12 rfl (lv_at hl 1 rfl) ?_
      refine c_get hx hb hts hown hK hI 0 (by omega) cE_0 rfl hinX5 0 (by decide) (hts (.fieldLink RX5 12 "WinderLadders" "now" "LWinderLadders$State;") (by decide +kernel)) (v := .ref (ad (11 + 20 * 0))) rfl dX5_wayRound_13 ?_
      refine lv_aload_n hx hb dX5_wayRound_16 rfl (lv_at hl 1 rfl) ?_
      refine c_get hx hb hts hown hK hI 0 (by omega) cE_0 rfl hinX5 5 (by decide) (hts (.fieldLink RX5 41 "WinderLadders" "row" "LWinderLadders$Row;") (by decide +kernel)) (v := .ref (ad 9)) rfl dX5_wayRound_17 ?_
      refine c_calli (As := [.ref (ad 9)]) (rest := []) hx hb hml hown hts hK hX hI (11 + 20 * 0) (by omega) cE_st rfl (k_X4_minutesOf_r l dd g ad pi A hA (rwM C (chL x (cn (C 0))) (chW (C 14) x (cn (C 0)))) 0 (by omega) (chL x (cn (C 0))) (by omega) rwM_5 (by rw [rwM_ne (by decide) (by decide)]; exact hW0) (by rw [rwM_ne (by decide) (by decide)]; exact hLd0)) (cwV 1 hts gX5_wayRound_X4_minutesOf rfl rfl rfl (by decide +kernel) ⟨Nat.le_of_ble_eq_true rfl, Nat.le_of_ble_eq_true rfl⟩) rfl hl (Nat.le_of_ble_eq_true rfl) ⟨Nat.zero_le _, Nat.zero_le _⟩ dX5_wayRound_20 rfl (fun r C1 pi1 H locs h7 hI => ?_)
      simp only [rwM_14, rwM_ne (show (0 : Nat) ≠ 10 by decide) (show (0 : Nat) ≠ 14 by decide)] at h7
      obtain ⟨h7, hc9, hp9⟩ := h7
      rw [hc9, hp9] at hI
      rcases h7 with ⟨g6, hr9⟩ | ⟨g6, hr9⟩
      · skip
        subst hr9
        refine lv_istore_n (lv' := [(3, .int (moN (C 0) (chW (C 14) x (cn (C 0))) (chL x (cn (C 0))))), (2, .int (nI (chL x (cn (C 0))))), (0, .ref (ad 0)), (1, .int x)]) hx hb dX5_wayRound_23 rfl hl (by decide) rfl (fun ls hl => ?_)
        refine lv_aload_n hx hb dX5_wayRound_24 rfl (lv_at hl 2 rfl) ?_
        refine c_get hx hb hts hown hK hI 0 (by omega) cE_0 rfl hinX5 5 (by decide) (hts (.fieldLink RX5 41 "WinderLadders" "row" "LWinderLadders$Row;") (by decide +kernel)) (v := .ref (ad 9)) rfl dX5_wayRound_25 ?_
        refine c_callv (As := []) (rest := []) hx hb hml hown hts hK hX hI 9 (by omega) cE_9 rfl (k_X3_turnRound_r l dd g ad pi A hA (rwM C (chL x (cn (C 0))) (chW (C 14) x (cn (C 0)))) (chL x (cn (C 0))) (by omega) rwM_5) (cwV 0 hts gX5_wayRound_X3_turnRound rfl rfl rfl (by decide +kernel) ⟨Nat.le_of_ble_eq_true rfl, Nat.le_of_ble_eq_true rfl⟩) rfl hl (Nat.le_of_ble_eq_true rfl) ⟨Nat.zero_le _, Nat.zero_le _⟩ dX5_wayRound_28 rfl (fun C1 pi1 H locs h8 hI => ?_)
        obtain ⟨hc9, hp9⟩ := h8
        rw [rwM_14, rwM_mrow] at hc9
        rw [hc9, hp9] at hI
        refine lv_aload_n hx hb dX5_wayRound_31 rfl (lv_at hl 2 rfl) ?_
        refine c_get hx hb hts hown hK hI 0 (by omega) cE_0 rfl hinX5 0 (by decide) (hts (.fieldLink RX5 12 "WinderLadders" "now" "LWinderLadders$State;") (by decide +kernel)) (v := .ref (ad (11 + 20 * 0))) rfl dX5_wayRound_32 ?_
        refine lv_aload_n hx hb dX5_wayRound_35 rfl (lv_at hl 2 rfl) ?_
        refine c_get hx hb hts hown hK hI 0 (by omega) cE_0 rfl hinX5 5 (by decide) (hts (.fieldLink RX5 41 "WinderLadders" "row" "LWinderLadders$Row;") (by decide +kernel)) (v := .ref (ad 9)) rfl dX5_wayRound_36 ?_
        refine c_calli (As := [.ref (ad 9)]) (rest := []) hx hb hml hown hts hK hX hI (11 + 20 * 0) (by omega) cE_st rfl (k_X4_minutesOf_r l dd g ad pi A hA (rwM C (chL x (cn (C 0))) (trN (chW (C 14) x (cn (C 0))) (chL x (cn (C 0))) ((chL x (cn (C 0))) / 2))) 0 (by omega) (chL x (cn (C 0))) (by omega) rwM_5 (by rw [rwM_ne (by decide) (by decide)]; exact hW0) (by rw [rwM_ne (by decide) (by decide)]; exact hLd0)) (cwV 1 hts gX5_wayRound_X4_minutesOf rfl rfl rfl (by decide +kernel) ⟨Nat.le_of_ble_eq_true rfl, Nat.le_of_ble_eq_true rfl⟩) rfl hl (Nat.le_of_ble_eq_true rfl) ⟨Nat.zero_le _, Nat.zero_le _⟩ dX5_wayRound_39 rfl (fun r C1 pi1 H locs h10 hI => ?_)
        simp only [rwM_14, rwM_ne (show (0 : Nat) ≠ 10 by decide) (show (0 : Nat) ≠ 14 by decide)] at h10
        obtain ⟨h10, hc9, hp9⟩ := h10
        rw [hc9, hp9] at hI
        rcases h10 with ⟨g9, hr9⟩ | ⟨g9, hr9⟩
        · skip
          subst hr9
          refine lv_istore (lv' := [(4, .int (moN (C 0) (trN (chW (C 14) x (cn (C 0))) (chL x (cn (C 0))) ((chL x (cn (C 0))) / 2)) (chL x (cn (C 0))))), (3, .int (moN (C 0) (chW (C 14) x (cn (C 0))) (chL x (cn (C 0))))), (2, .int (nI (chL x (cn (C 0))))), (0, .ref (ad 0)), (1, .int x)]) hx hb dX5_wayRound_42 hl (by decide) rfl (fun ls hl => ?_)
          refine lv_iload_n hx hb dX5_wayRound_44 rfl (lv_at hl 1 rfl) ?_
          refine lv_iload hx hb dX5_wayRound_45 (lv_at hl 0 rfl) ?_
          refine lv_icmp_ne (tgt := 52) hx hb dX5_wayRound_47 (by decide) (fun c11 => ?_) (fun c11 => ?_)
          · skip
            refine lv_iload_n hx hb dX5_wayRound_52 rfl (lv_at hl 1 rfl) ?_
            refine lv_iload hx hb dX5_wayRound_53 (lv_at hl 0 rfl) ?_
            refine lv_icmp_ge (tgt := 62) hx hb dX5_wayRound_55 (by decide) (fun c12 => ?_) (fun c12 => ?_)
            · skip
              refine lv_iconst (v := 1) hx hb dX5_wayRound_62 (by decide) ?_
              exact c_iret (v := 1) hx hb hr hI (⟨Or.inr (Or.inr ⟨x1, lx1, by simp only [wayC, if_pos c5, if_pos nc5, if_neg c11, if_pos c12], rfl⟩), rfl⟩) dX5_wayRound_63 hlocks
            · skip
              refine lv_iconst (v := 0) hx hb dX5_wayRound_58 (by decide) ?_
              refine lv_goto (tgt := 63) hx hb dX5_wayRound_59 (by decide) ?_
              exact c_iret (v := 0) hx hb hr hI (⟨Or.inr (Or.inr ⟨x1, lx1, by simp only [wayC, if_pos c5, if_pos nc5, if_neg c11, if_neg c12], rfl⟩), rfl⟩) dX5_wayRound_63 hlocks
          · skip
            refine lv_iconst (v := 2) hx hb dX5_wayRound_50 (by decide) ?_
            exact c_iret (v := 2) hx hb hr hI (⟨Or.inr (Or.inr ⟨x1, lx1, by simp only [wayC, if_pos c5, if_pos nc5, if_pos c11], rfl⟩), rfl⟩) dX5_wayRound_51 hlocks
        · skip
          exact absurd (trN_gd (chW_gd hW0 _ _)) g9
      · skip
        exact absurd (chW_gd hW0 _ _) g6
    · skip
      have nc5 : ¬ (0 ≤ chL x (cn (C 0))) := fun h => c5 ((nI_leI (a := 0) (b := chL x (cn (C 0))) (by omega) (by omega)).mpr h)
      exact absurd (Nat.zero_le _) nc5
