set_option maxHeartbeats 4000000 in
set_option maxRecDepth 100000 in
theorem k_X0_daysUntilOff (l : Launch) (dd : va_G) (g : Nat → ClassId) (ad pi : Nat → Nat) (A : Nat → Prop) (hA : cA A ad) (C : MS) (k c0 : Nat) (hk : k < 10) (hc : c0 < 16) (t : Int32) (wd sn : Nat) (hwd : wd ≤ 30) (hsn : sn ≤ 20000) (hs5 : C k (12 + 8 * c0 + 5) = nI sn) : Met l yX0_daysUntilOff wsX0_daysUntilOff ({ frames := 2, cells := 0, slots := 0, locals := 45 }) (cPre dd g ad pi A C [.ref (ad (15 + 20 * k + c0)), .int t, .int (nI wd)]) (cQi dd g ad A (fun r C1 pi1 => r = nI (duC (C k) c0 t (max 1 (wd + 1 - sn))) ∧ C1 = C ∧ pi1 = pi)) 0 0 A := by
  refine Met.ofW (cc := cX0_daysUntilOff) (maxL := 5) (ret := (some .int)) (by decide) rfl ?_
  intro p e s m args below meth c s₁ B hml hv
  obtain ⟨rfl, hP0, hK, hX⟩ := hv
  have hx := B.exec
  have hb := B.bytes
  have hr := B.returns
  have hts := atoms_spec (ws := wsX0_daysUntilOff) B.pre
  have hown : s.vm.findClass RX0 = some m.cls := findClass_of_methodNamed B.named
  have hlocks := B.notSynchronized
  have hinX0 : ∀ w ∈ wsX00, w ∈ wsX0_daysUntilOff := by decide +kernel
  have hI : cI dd g ad pi A s.heap s.heap [] C := ⟨hP0, va_S.rf⟩
  have hl := lv_entry ([.ref (ad (15 + 20 * k + c0)), .int t, .int (nI wd)]) (n := 5) (Nat.le_of_ble_eq_true rfl)
  rw [lg_entry_eq]
  generalize (lg_sl ([.ref (ad (15 + 20 * k + c0)), .int t, .int (nI wd)]) ++ List.replicate (5 - (lg_sl ([.ref (ad (15 + 20 * k + c0)), .int t, .int (nI wd)])).length) Slot.unset).toArray = ls at hl ⊢
  have hl : lv_has ls 5 [(0, .ref (ad (15 + 20 * k + c0))), (1, .int t), (2, .int (nI wd))] := hl
  refine lv_aload_n hx hb dX0_daysUntilOff_0 rfl (lv_at hl 0 rfl) ?_
  refine lv_iload_n hx hb dX0_daysUntilOff_1 rfl (lv_at hl 1 rfl) ?_
  refine c_calli (As := [.int t]) (rest := []) hx hb hml hown hts hK hX hI (15 + 20 * k + c0) (by omega) (cE_cl (by omega)) rfl (k_X0_isOffBeyond l dd g ad pi A hA C k c0 (by omega) (by omega) t) (cwV 1 hts gX0_daysUntilOff_X0_isOffBeyond rfl rfl rfl (by decide +kernel) ⟨Nat.le_of_ble_eq_true rfl, Nat.le_of_ble_eq_true rfl⟩) rfl hl (Nat.le_of_ble_eq_true rfl) ⟨Nat.zero_le _, Nat.zero_le _⟩ dX0_daysUntilOff_2 rfl (fun r C1 pi1 H locs h2 hI => ?_)
  obtain ⟨h2, hc9, hp9⟩ := h2
  rw [hc9, hp9] at hI
  rcases h2 with ⟨b1, rfl⟩ | ⟨b1, rfl⟩
  · skip
    have b1 : offB (C k) c0 t = true := b1
    refine lv_if_eq (tgt := 10) hx hb dX0_daysUntilOff_5 (by decide) (fun c3 => absurd c3 (by decide)) (fun _ => ?_)
    refine lv_iconst (v := 0) hx hb dX0_daysUntilOff_8 (by decide) ?_
    exact c_iret (v := 0) hx hb hr hI (⟨by simp only [duC, if_pos b1]; rfl, rfl, rfl⟩) dX0_daysUntilOff_9 hlocks
  · skip
    have b1 : offB (C k) c0 t = false := b1
    refine lv_if_eq (tgt := 10) hx hb dX0_daysUntilOff_5 (by decide) (fun _ => ?_) (fun c4 => absurd (by decide) c4)
    refine lv_iconst (v := 1) hx hb dX0_daysUntilOff_10 (by decide) ?_
    refine lv_iload_n hx hb dX0_daysUntilOff_11 rfl (lv_at hl 2 rfl) ?_
    refine lv_iconst (v := 1) hx hb dX0_daysUntilOff_12 (by decide) ?_
    refine lv_iadd hx hb dX0_daysUntilOff_13 ?_
    refine lv_re (y := nI (wd + 1)) (nI_add (wd) (1)) ?_
    refine lv_aload_n hx hb dX0_daysUntilOff_14 rfl (lv_at hl 0 rfl) ?_
    refine c_get hx hb hts hown hK hI (15 + 20 * k + c0) (by omega) (cE_cl (by omega)) rfl hinX0 5 (by decide) (hts (.fieldLink RX0 27 "WinderLadders$Clock" "daysSinceWound" "I") (by decide +kernel)) (v := .int (nI sn)) (congrArg (fun z => some (Value.int z)) hs5) dX0_daysUntilOff_15 ?_
    refine lv_isub hx hb dX0_daysUntilOff_18 ?_
    refine va_mmax hx hb (hml.trans hl.1.symm) hown (hts (.methodLink RX0 55 Lib.Math.max.name) (by decide +kernel)) (hts (.static Lib.Math.max.name) (by decide +kernel)) (hts (.initialized "java/lang/Math") (by decide +kernel)) (hts (.code Lib.Math.max.name Lib.Math.max.code 2 (some .int)) (by decide +kernel)) (Nat.le_of_ble_eq_true rfl) (Nat.le_of_ble_eq_true rfl) (Nat.zero_le _) (Nat.zero_le _) dX0_daysUntilOff_19 ?_
    refine lv_re (y := jmax 1 ((nI (wd + 1)) - (nI sn))) rfl ?_
    refine lv_re (y := nI (max 1 (wd + 1 - sn))) (jmax_nI (by omega) (by omega)) ?_
    refine lv_istore_n (lv' := [(3, .int (nI (max 1 (wd + 1 - sn)))), (0, .ref (ad (15 + 20 * k + c0))), (1, .int t), (2, .int (nI wd))]) hx hb dX0_daysUntilOff_22 rfl hl (by decide) rfl (fun ls hl => ?_)
    refine lv_iconst (v := 1) hx hb dX0_daysUntilOff_23 (by decide) ?_
    refine lv_istore (lv' := [(4, .int 1), (3, .int (nI (max 1 (wd + 1 - sn)))), (0, .ref (ad (15 + 20 * k + c0))), (1, .int t), (2, .int (nI wd))]) hx hb dX0_daysUntilOff_24 hl (by decide) rfl (fun ls hl => ?_)
    have L26 : ∀ (fuel : Nat) (d u : Nat) (h1 : d + u = max 1 (wd + 1 - sn)) (h2 : u < fuel) (hd9 : duL (C k) c0 t (max 1 (wd + 1 - sn) - 1) 1 = duL (C k) c0 t u d) (H : Heap) (locs : List Loc) (ls : Array Slot), cI dd g ad pi A s.heap H locs C → lv_has ls 5 [(4, .int (nI d)), (3, .int (nI (max 1 (wd + 1 - sn)))), (0, .ref (ad (15 + 20 * k + c0))), (1, .int t), (2, .int (nI wd))] → wk p l e wsX0_daysUntilOff { frames := 2, cells := 0, slots := 0, locals := 45 } s m [.ref (ad (15 + 20 * k + c0)), .int t, .int (nI wd)] below meth c H locs (cQi dd g ad A (fun r C1 pi1 => r = nI (duC (C k) c0 t (max 1 (wd + 1 - sn))) ∧ C1 = C ∧ pi1 = pi)) (A) (F0 m 26 ls []) := by
      intro fuel
      induction fuel with
      | zero =>
        intro d u h1 h2 hd9 H locs ls hI hl
        exact absurd h2 (by omega)
      | succ fuel ih =>
        intro d u h1 h2 hd9 H locs ls hI hl
        refine lv_iload hx hb dX0_daysUntilOff_26 (lv_at hl 0 rfl) ?_
        refine lv_iload_n hx hb dX0_daysUntilOff_28 rfl (lv_at hl 1 rfl) ?_
        refine lv_icmp_ge (tgt := 60) hx hb dX0_daysUntilOff_29 (by decide) (fun c5 => ?_) (fun c5 => ?_)
        · skip
          have nc5 : max 1 (wd + 1 - sn) ≤ d := (nI_leI (a := max 1 (wd + 1 - sn)) (b := d) (by omega) (by omega)).mp c5
          refine lv_iload_n hx hb dX0_daysUntilOff_60 rfl (lv_at hl 1 rfl) ?_
          exact c_iret (v := nI (max 1 (wd + 1 - sn))) hx hb hr hI (⟨by rw [duC, if_neg (Bool.eq_false_iff.mp b1), hd9, show u = 0 by omega]; show _ = nI d; rw [show max 1 (wd + 1 - sn) = d by omega], rfl, rfl⟩) dX0_daysUntilOff_61 hlocks
        · skip
          have nc5 : ¬ (max 1 (wd + 1 - sn) ≤ d) := fun h => c5 ((nI_leI (a := max 1 (wd + 1 - sn)) (b := d) (by omega) (by omega)).mpr h)
          refine lv_aload_n hx hb dX0_daysUntilOff_32 rfl (lv_at hl 2 rfl) ?_
          refine c_get hx hb hts hown hK hI (15 + 20 * k + c0) (by omega) (cE_cl (by omega)) rfl hinX0 4 (by decide) (hts (.fieldLink RX0 24 "WinderLadders$Clock" "off" "I") (by decide +kernel)) (v := .int (C k (12 + 8 * c0 + 4))) rfl dX0_daysUntilOff_33 ?_
          refine lv_iload hx hb dX0_daysUntilOff_36 (lv_at hl 0 rfl) ?_
          refine lv_aload_n hx hb dX0_daysUntilOff_38 rfl (lv_at hl 2 rfl) ?_
          refine c_calli (As := []) (rest := [.int (nI d), .int (C k (12 + 8 * c0 + 4))]) hx hb hml hown hts hK hX hI (15 + 20 * k + c0) (by omega) (cE_cl (by omega)) rfl (k_X0_driftWithScrew l dd g ad pi A hA C k c0 (by omega) (by omega)) (cwV 0 hts gX0_daysUntilOff_X0_driftWithScrew rfl rfl rfl (by decide +kernel) ⟨Nat.le_of_ble_eq_true rfl, Nat.le_of_ble_eq_true rfl⟩) rfl hl (Nat.le_of_ble_eq_true rfl) ⟨Nat.zero_le _, Nat.zero_le _⟩ dX0_daysUntilOff_39 rfl (fun r C1 pi1 H locs h6 hI => ?_)
          obtain ⟨hr9, hc9, hp9⟩ := h6
          rw [hc9, hp9] at hI
          subst hr9
          refine lv_imul hx hb dX0_daysUntilOff_42 ?_
          refine lv_iadd hx hb dX0_daysUntilOff_43 ?_
          refine va_mabs hx hb (hml.trans hl.1.symm) hown (hts (.methodLink RX0 37 Lib.Math.abs.name) (by decide +kernel)) (hts (.static Lib.Math.abs.name) (by decide +kernel)) (hts (.initialized "java/lang/Math") (by decide +kernel)) (hts (.code Lib.Math.abs.name Lib.Math.abs.code 1 (some .int)) (by decide +kernel)) (Nat.le_of_ble_eq_true rfl) (Nat.le_of_ble_eq_true rfl) (Nat.zero_le _) (Nat.zero_le _) dX0_daysUntilOff_44 ?_
          refine lv_re (jabs_eq ((C k (12 + 8 * c0 + 4)) + ((nI d) * (rt (C k) c0)))) ?_
          refine lv_iload_n hx hb dX0_daysUntilOff_47 rfl (lv_at hl 3 rfl) ?_
          refine lv_icmp_le (tgt := 54) hx hb dX0_daysUntilOff_48 (by decide) (fun c7 => ?_) (fun c7 => ?_)
          · skip
            refine lv_iinc (v := nI (d + 1)) (lv' := [(4, .int (nI (d + 1))), (3, .int (nI (max 1 (wd + 1 - sn)))), (0, .ref (ad (15 + 20 * k + c0))), (1, .int t), (2, .int (nI wd))]) hx hb dX0_daysUntilOff_54 hl (k := 0) rfl (by rw [show Int32.ofInt 1 = nI 1 from rfl, nI_add]) (by decide) rfl (fun ls hl => ?_)
            refine lv_goto (tgt := 26) hx hb dX0_daysUntilOff_57 (by decide) ?_
            exact ih (d + 1) (u - 1) (by omega) (by omega) (by rw [hd9, show u = (u - 1) + 1 by omega]; simp only [duL, if_neg (Bool.eq_false_iff.mp b1), if_neg c5, if_neg nc5, if_pos c7]; rfl) _ _ _ hI (lv_sub hl [0, 1, 2, 3, 4] rfl)
          · skip
            refine lv_iload hx hb dX0_daysUntilOff_51 (lv_at hl 0 rfl) ?_
            exact c_iret (v := nI d) hx hb hr hI (⟨by rw [duC, if_neg (Bool.eq_false_iff.mp b1), hd9, show u = (u - 1) + 1 by omega]; simp only [duL, if_neg (Bool.eq_false_iff.mp b1), if_neg c5, if_neg nc5, if_neg c7], rfl, rfl⟩) dX0_daysUntilOff_53 hlocks
    exact L26 100 1 (max 1 (wd + 1 - sn) - 1) (by omega) (by omega) rfl _ _ _ hI (lv_sub hl [0, 1, 2, 3, 4] rfl)

set_option maxHeartbeats 4000000 in
set_option maxRecDepth 100000 in
theorem k_X4_hasClock (l : Launch) (dd : va_G) (g : Nat → ClassId) (ad pi : Nat → Nat) (A : Nat → Prop) (hA : cA A ad) (C : MS) (k : Nat) (hk : k < 10) (x : Int32) (hW : Wk (C k))  : Met l yX4_hasClock wsX4_hasClock ({ frames := 0, cells := 0, slots := 0, locals := 0 }) (cPre dd g ad pi A C [.ref (ad (11 + 20 * k)), .int x]) (cQi dd g ad A (fun r C1 pi1 => (((∃ i, isC (C k) x i) ∧ r = 1) ∨ ((¬ ∃ i, isC (C k) x i) ∧ r = 0)) ∧ C1 = C ∧ pi1 = pi)) 0 0 A := by
  refine Met.ofW (cc := cX4_hasClock) (maxL := 2) (ret := (some .boolean)) (by decide) rfl ?_
  intro p e s m args below meth c s₁ B hml hv
  obtain ⟨rfl, hP0, hK, hX⟩ := hv
  have hx := B.exec
  have hb := B.bytes
  have hr := B.returns
  have hts := atoms_spec (ws := wsX4_hasClock) B.pre
  have hown : s.vm.findClass RX4 = some m.cls := findClass_of_methodNamed B.named
  have hlocks := B.notSynchronized
  have hinX4 : ∀ w ∈ wsX40, w ∈ wsX4_hasClock := by decide +kernel
  have hI : cI dd g ad pi A s.heap s.heap [] C := ⟨hP0, va_S.rf⟩
  have hl := lv_entry ([.ref (ad (11 + 20 * k)), .int x]) (n := 2) (Nat.le_of_ble_eq_true rfl)
  rw [lg_entry_eq]
  generalize (lg_sl ([.ref (ad (11 + 20 * k)), .int x]) ++ List.replicate (2 - (lg_sl ([.ref (ad (11 + 20 * k)), .int x])).length) Slot.unset).toArray = ls at hl ⊢
  have hl : lv_has ls 2 [(0, .ref (ad (11 + 20 * k))), (1, .int x)] := hl
  have hc16 := hW.2.1
  have hl4 := hW.2.2.2
  refine lv_iload_n hx hb dX4_hasClock_0 rfl (lv_at hl 1 rfl) ?_
  refine lv_if_lt (tgt := 16) hx hb dX4_hasClock_1 (by decide) (fun c1 => ?_) (fun c1 => ?_)
  · skip
    refine lv_iconst (v := 0) hx hb dX4_hasClock_16 (by decide) ?_
    exact c_zret (v := 0) hx hb hr (by first | rfl | decide) hI (⟨Or.inr ⟨fun h => absurd c1 ((isC_iff2 hW x).mpr h).1, rfl⟩, rfl, rfl⟩) dX4_hasClock_17 hlocks
  · skip
    refine lv_iload_n hx hb dX4_hasClock_4 rfl (lv_at hl 1 rfl) ?_
    refine lv_aload_n hx hb dX4_hasClock_5 rfl (lv_at hl 0 rfl) ?_
    refine c_get hx hb hts hown hK hI (11 + 20 * k) (by omega) cE_st rfl hinX4 3 (by decide) (hts (.fieldLink RX4 34 "WinderLadders$State" "clockCount" "I") (by decide +kernel)) (v := .int (nI (cn (C k)))) (congrArg (fun z => some (Value.int z)) hW.1) dX4_hasClock_6 ?_
    refine lv_icmp_ge (tgt := 16) hx hb dX4_hasClock_9 (by decide) (fun c2 => ?_) (fun c2 => ?_)
    · skip
      refine lv_iconst (v := 0) hx hb dX4_hasClock_16 (by decide) ?_
      exact c_zret (v := 0) hx hb hr (by first | rfl | decide) hI (⟨Or.inr ⟨fun h => absurd c2 ((isC_iff2 hW x).mpr h).2, rfl⟩, rfl, rfl⟩) dX4_hasClock_17 hlocks
    · skip
      refine lv_iconst (v := 1) hx hb dX4_hasClock_12 (by decide) ?_
      refine lv_goto (tgt := 17) hx hb dX4_hasClock_13 (by decide) ?_
      exact c_zret (v := 1) hx hb hr (by first | rfl | decide) hI (⟨Or.inl ⟨(isC_iff2 hW x).mp ⟨c1, c2⟩, rfl⟩, rfl, rfl⟩) dX4_hasClock_17 hlocks

set_option maxHeartbeats 4000000 in
set_option maxRecDepth 100000 in
theorem k_X4_hasLadder (l : Launch) (dd : va_G) (g : Nat → ClassId) (ad pi : Nat → Nat) (A : Nat → Prop) (hA : cA A ad) (C : MS) (k : Nat) (hk : k < 10) (x : Int32) (hW : Wk (C k))  : Met l yX4_hasLadder wsX4_hasLadder ({ frames := 0, cells := 0, slots := 0, locals := 0 }) (cPre dd g ad pi A C [.ref (ad (11 + 20 * k)), .int x]) (cQi dd g ad A (fun r C1 pi1 => (((∃ i, i < ln (C k) ∧ x = nI i) ∧ r = 1) ∨ ((¬ ∃ i, i < ln (C k) ∧ x = nI i) ∧ r = 0)) ∧ C1 = C ∧ pi1 = pi)) 0 0 A := by
  refine Met.ofW (cc := cX4_hasLadder) (maxL := 2) (ret := (some .boolean)) (by decide) rfl ?_
  intro p e s m args below meth c s₁ B hml hv
  obtain ⟨rfl, hP0, hK, hX⟩ := hv
  have hx := B.exec
  have hb := B.bytes
  have hr := B.returns
  have hts := atoms_spec (ws := wsX4_hasLadder) B.pre
  have hown : s.vm.findClass RX4 = some m.cls := findClass_of_methodNamed B.named
  have hlocks := B.notSynchronized
  have hinX4 : ∀ w ∈ wsX40, w ∈ wsX4_hasLadder := by decide +kernel
  have hI : cI dd g ad pi A s.heap s.heap [] C := ⟨hP0, va_S.rf⟩
  have hl := lv_entry ([.ref (ad (11 + 20 * k)), .int x]) (n := 2) (Nat.le_of_ble_eq_true rfl)
  rw [lg_entry_eq]
  generalize (lg_sl ([.ref (ad (11 + 20 * k)), .int x]) ++ List.replicate (2 - (lg_sl ([.ref (ad (11 + 20 * k)), .int x])).length) Slot.unset).toArray = ls at hl ⊢
  have hl : lv_has ls 2 [(0, .ref (ad (11 + 20 * k))), (1, .int x)] := hl
  have hc16 := hW.2.1
  have hl4 := hW.2.2.2
  refine lv_iload_n hx hb dX4_hasLadder_0 rfl (lv_at hl 1 rfl) ?_
  refine lv_if_lt (tgt := 16) hx hb dX4_hasLadder_1 (by decide) (fun c1 => ?_) (fun c1 => ?_)
  · skip
    refine lv_iconst (v := 0) hx hb dX4_hasLadder_16 (by decide) ?_
    exact c_zret (v := 0) hx hb hr (by first | rfl | decide) hI (⟨Or.inr ⟨fun h => absurd c1 ((lof_iff2 hW x).mpr h).1, rfl⟩, rfl, rfl⟩) dX4_hasLadder_17 hlocks
  · skip
    refine lv_iload_n hx hb dX4_hasLadder_4 rfl (lv_at hl 1 rfl) ?_
    refine lv_aload_n hx hb dX4_hasLadder_5 rfl (lv_at hl 0 rfl) ?_
    refine c_get hx hb hts hown hK hI (11 + 20 * k) (by omega) cE_st rfl hinX4 4 (by decide) (hts (.fieldLink RX4 42 "WinderLadders$State" "ladderCount" "I") (by decide +kernel)) (v := .int (nI (ln (C k)))) (congrArg (fun z => some (Value.int z)) hW.2.2.1) dX4_hasLadder_6 ?_
    refine lv_icmp_ge (tgt := 16) hx hb dX4_hasLadder_9 (by decide) (fun c2 => ?_) (fun c2 => ?_)
    · skip
      refine lv_iconst (v := 0) hx hb dX4_hasLadder_16 (by decide) ?_
      exact c_zret (v := 0) hx hb hr (by first | rfl | decide) hI (⟨Or.inr ⟨fun h => absurd c2 ((lof_iff2 hW x).mpr h).2, rfl⟩, rfl, rfl⟩) dX4_hasLadder_17 hlocks
    · skip
      refine lv_iconst (v := 1) hx hb dX4_hasLadder_12 (by decide) ?_
      refine lv_goto (tgt := 17) hx hb dX4_hasLadder_13 (by decide) ?_
      exact c_zret (v := 1) hx hb hr (by first | rfl | decide) hI (⟨Or.inl ⟨(lof_iff2 hW x).mp ⟨c1, c2⟩, rfl⟩, rfl, rfl⟩) dX4_hasLadder_17 hlocks

set_option maxHeartbeats 4000000 in
set_option maxRecDepth 100000 in
theorem k_X4_ladderNeeded (l : Launch) (dd : va_G) (g : Nat → ClassId) (ad pi : Nat → Nat) (A : Nat → Prop) (hA : cA A ad) (C : MS) (k : Nat) (hk : k < 10) (c0 : Nat) (hc0 : c0 < cn (C k)) (hW : Wk (C k)) (hLd : Lad (C k))  : Met l yX4_ladderNeeded wsX4_ladderNeeded ({ frames := 0, cells := 0, slots := 0, locals := 0 }) (cPre dd g ad pi A C [.ref (ad (11 + 20 * k)), .ref (ad (15 + 20 * k + c0))]) (cQi dd g ad A (fun r C1 pi1 => r = o2i (ladF (C k) c0) ∧ C1 = C ∧ pi1 = pi)) 0 0 A := by
  refine Met.ofW (cc := cX4_ladderNeeded) (maxL := 5) (ret := (some .int)) (by decide) rfl ?_
  intro p e s m args below meth c s₁ B hml hv
  obtain ⟨rfl, hP0, hK, hX⟩ := hv
  have hx := B.exec
  have hb := B.bytes
  have hr := B.returns
  have hts := atoms_spec (ws := wsX4_ladderNeeded) B.pre
  have hown : s.vm.findClass RX4 = some m.cls := findClass_of_methodNamed B.named
  have hlocks := B.notSynchronized
  have hinX0 : ∀ w ∈ wsX00, w ∈ wsX4_ladderNeeded := by decide +kernel
  have hinX4 : ∀ w ∈ wsX40, w ∈ wsX4_ladderNeeded := by decide +kernel
  have hI : cI dd g ad pi A s.heap s.heap [] C := ⟨hP0, va_S.rf⟩
  have hl := lv_entry ([.ref (ad (11 + 20 * k)), .ref (ad (15 + 20 * k + c0))]) (n := 5) (Nat.le_of_ble_eq_true rfl)
  rw [lg_entry_eq]
  generalize (lg_sl ([.ref (ad (11 + 20 * k)), .ref (ad (15 + 20 * k + c0))]) ++ List.replicate (5 - (lg_sl ([.ref (ad (11 + 20 * k)), .ref (ad (15 + 20 * k + c0))])).length) Slot.unset).toArray = ls at hl ⊢
  have hl : lv_has ls 5 [(0, .ref (ad (11 + 20 * k))), (1, .ref (ad (15 + 20 * k + c0)))] := hl
  have hc16 := hW.2.1
  have hl4 := hW.2.2.2
  refine lv_aload_n hx hb dX4_ladderNeeded_0 rfl (lv_at hl 1 rfl) ?_
  refine c_get hx hb hts hown hK hI (15 + 20 * k + c0) (by omega) (cE_cl (by omega)) rfl hinX0 1 (by decide) (hts (.fieldLink RX4 116 "WinderLadders$Clock" "rungs" "I") (by decide +kernel)) (v := .int (C k (12 + 8 * c0 + 1))) rfl dX4_ladderNeeded_1 ?_
  refine lv_if_ne (tgt := 10) hx hb dX4_ladderNeeded_4 (by decide) (fun c1 => ?_) (fun c1 => ?_)
  · skip
    have hr0 : ¬ C k (12 + 8 * c0 + 1) ≤ 0 := fun z => c1 (Int32.le_antisymm z (hLd.2 c0 hc0))
    refine lv_bipush (v := (-6)) hx hb dX4_ladderNeeded_10 (by decide) ?_
    refine lv_istore_n (lv' := [(2, .int ((-6))), (0, .ref (ad (11 + 20 * k))), (1, .ref (ad (15 + 20 * k + c0)))]) hx hb dX4_ladderNeeded_12 rfl hl (by decide) rfl (fun ls hl => ?_)
    refine lv_bipush (v := 31) hx hb dX4_ladderNeeded_13 (by decide) ?_
    refine lv_istore_n (lv' := [(3, .int 31), (2, .int ((-6))), (0, .ref (ad (11 + 20 * k))), (1, .ref (ad (15 + 20 * k + c0)))]) hx hb dX4_ladderNeeded_15 rfl hl (by decide) rfl (fun ls hl => ?_)
    refine lv_iconst (v := 0) hx hb dX4_ladderNeeded_16 (by decide) ?_
    refine lv_istore (lv' := [(4, .int 0), (3, .int 31), (2, .int ((-6))), (0, .ref (ad (11 + 20 * k))), (1, .ref (ad (15 + 20 * k + c0)))]) hx hb dX4_ladderNeeded_17 hl (by decide) rfl (fun ls hl => ?_)
    have L19 : ∀ (fuel : Nat) (j : Nat) (o : Option Nat) (h1 : j ≤ ln (C k)) (h2 : ln (C k) < fuel + j) (ho : ladP (C k) (C k (12 + 8 * c0 + 1)) j = o) (H : Heap) (locs : List Loc) (ls : Array Slot), cI dd g ad pi A s.heap H locs C → lv_has ls 5 [(4, .int (nI j)), (3, .int (brC (C k) o)), (2, .int (o2i o)), (0, .ref (ad (11 + 20 * k))), (1, .ref (ad (15 + 20 * k + c0)))] → wk p l e wsX4_ladderNeeded { frames := 0, cells := 0, slots := 0, locals := 0 } s m [.ref (ad (11 + 20 * k)), .ref (ad (15 + 20 * k + c0))] below meth c H locs (cQi dd g ad A (fun r C1 pi1 => r = o2i (ladF (C k) c0) ∧ C1 = C ∧ pi1 = pi)) (A) (F0 m 19 ls []) := by
      intro fuel
      induction fuel with
      | zero =>
        intro j o h1 h2 ho H locs ls hI hl
        exact absurd h2 (by omega)
      | succ fuel ih =>
        intro j o h1 h2 ho H locs ls hI hl
        rcases o with _ | p1
        · have hl : lv_has ls 5 [(4, .int (nI j)), (3, .int 31), (2, .int ((-6))), (0, .ref (ad (11 + 20 * k))), (1, .ref (ad (15 + 20 * k + c0)))] := hl
          refine lv_iload hx hb dX4_ladderNeeded_19 (lv_at hl 0 rfl) ?_
          refine lv_aload_n hx hb dX4_ladderNeeded_21 rfl (lv_at hl 3 rfl) ?_
          refine c_get hx hb hts hown hK hI (11 + 20 * k) (by omega) cE_st rfl hinX4 4 (by decide) (hts (.fieldLink RX4 42 "WinderLadders$State" "ladderCount" "I") (by decide +kernel)) (v := .int (nI (ln (C k)))) (congrArg (fun z => some (Value.int z)) hW.2.2.1) dX4_ladderNeeded_22 ?_
          refine lv_icmp_ge (tgt := 70) hx hb dX4_ladderNeeded_25 (by decide) (fun c2 => ?_) (fun c2 => ?_)
          · skip
            have nc2 : ln (C k) ≤ j := (nI_leI (a := ln (C k)) (b := j) (by omega) (by omega)).mp c2
            refine lv_iload_n hx hb dX4_ladderNeeded_70 rfl (lv_at hl 2 rfl) ?_
            exact c_iret (v := (-6)) hx hb hr hI (⟨by unfold ladF; rw [show ln (C k) = j by omega, ho]; rfl, rfl, rfl⟩) dX4_ladderNeeded_71 hlocks
          · skip
            have nc2 : ¬ (ln (C k) ≤ j) := fun h => c2 ((nI_leI (a := ln (C k)) (b := j) (by omega) (by omega)).mpr h)
            refine lv_aload_n hx hb dX4_ladderNeeded_28 rfl (lv_at hl 3 rfl) ?_
            refine c_get hx hb hts hown hK hI (11 + 20 * k) (by omega) cE_st rfl hinX4 2 (by decide) (hts (.fieldLink RX4 21 "WinderLadders$State" "ladders" "[I") (by decide +kernel)) (v := .ref (ad (14 + 20 * k))) rfl dX4_ladderNeeded_29 ?_
            refine lv_iload hx hb dX4_ladderNeeded_32 (lv_at hl 0 rfl) ?_
            refine c_ald hx hb hK hI (14 + 20 * k) (by omega) cE_la (by decide) (j) (by omega) rfl (v := C k (8 + j)) ((if_pos (show (j) < 4 by omega)).trans rfl) dX4_ladderNeeded_34 ?_
            refine lv_aload_n hx hb dX4_ladderNeeded_35 rfl (lv_at hl 4 rfl) ?_
            refine c_get hx hb hts hown hK hI (15 + 20 * k + c0) (by omega) (cE_cl (by omega)) rfl hinX0 1 (by decide) (hts (.fieldLink RX4 116 "WinderLadders$Clock" "rungs" "I") (by decide +kernel)) (v := .int (C k (12 + 8 * c0 + 1))) rfl dX4_ladderNeeded_36 ?_
            refine lv_icmp_lt (tgt := 64) hx hb dX4_ladderNeeded_39 (by decide) (fun c3 => ?_) (fun c3 => ?_)
            · skip
              refine lv_iinc (v := nI (j + 1)) (lv' := [(4, .int (nI (j + 1))), (3, .int 31), (2, .int ((-6))), (0, .ref (ad (11 + 20 * k))), (1, .ref (ad (15 + 20 * k + c0)))]) hx hb dX4_ladderNeeded_64 hl (k := 0) rfl (by rw [show Int32.ofInt 1 = nI 1 from rfl, nI_add]) (by decide) rfl (fun ls hl => ?_)
              refine lv_goto (tgt := 19) hx hb dX4_ladderNeeded_67 (by decide) ?_
              exact ih (j + 1) none (by omega) (by omega) (by first | (simp [ladP, -Int32.not_le, -Int32.not_lt, ho, hr0, c1, c2, nc2, c3]; done) | exact absurd c3 (hLd.1 j (by omega))) _ _ _ hI (lv_sub hl [0, 1, 2, 3, 4] rfl)
            · skip
              refine lv_aload_n hx hb dX4_ladderNeeded_42 rfl (lv_at hl 3 rfl) ?_
              refine c_get hx hb hts hown hK hI (11 + 20 * k) (by omega) cE_st rfl hinX4 2 (by decide) (hts (.fieldLink RX4 21 "WinderLadders$State" "ladders" "[I") (by decide +kernel)) (v := .ref (ad (14 + 20 * k))) rfl dX4_ladderNeeded_43 ?_
              refine lv_iload hx hb dX4_ladderNeeded_46 (lv_at hl 0 rfl) ?_
              refine c_ald hx hb hK hI (14 + 20 * k) (by omega) cE_la (by decide) (j) (by omega) rfl (v := C k (8 + j)) ((if_pos (show (j) < 4 by omega)).trans rfl) dX4_ladderNeeded_48 ?_
              refine lv_iload_n hx hb dX4_ladderNeeded_49 rfl (lv_at hl 1 rfl) ?_
              refine lv_icmp_ge (tgt := 64) hx hb dX4_ladderNeeded_50 (by decide) (fun c4 => ?_) (fun c4 => ?_)
              · skip
                refine lv_iinc (v := nI (j + 1)) (lv' := [(4, .int (nI (j + 1))), (3, .int 31), (2, .int ((-6))), (0, .ref (ad (11 + 20 * k))), (1, .ref (ad (15 + 20 * k + c0)))]) hx hb dX4_ladderNeeded_64 hl (k := 0) rfl (by rw [show Int32.ofInt 1 = nI 1 from rfl, nI_add]) (by decide) rfl (fun ls hl => ?_)
                refine lv_goto (tgt := 19) hx hb dX4_ladderNeeded_67 (by decide) ?_
                exact ih (j + 1) none (by omega) (by omega) (by first | (simp [ladP, -Int32.not_le, -Int32.not_lt, ho, hr0, c1, c2, nc2, c3, c4]; done) | exact absurd c4 (hLd.1 j (by omega))) _ _ _ hI (lv_sub hl [0, 1, 2, 3, 4] rfl)
              · skip
                refine lv_iload hx hb dX4_ladderNeeded_53 (lv_at hl 0 rfl) ?_
                refine lv_istore_n (lv' := [(2, .int (nI j)), (4, .int (nI j)), (3, .int 31), (0, .ref (ad (11 + 20 * k))), (1, .ref (ad (15 + 20 * k + c0)))]) hx hb dX4_ladderNeeded_55 rfl hl (by decide) rfl (fun ls hl => ?_)
                refine lv_aload_n hx hb dX4_ladderNeeded_56 rfl (lv_at hl 3 rfl) ?_
                refine c_get hx hb hts hown hK hI (11 + 20 * k) (by omega) cE_st rfl hinX4 2 (by decide) (hts (.fieldLink RX4 21 "WinderLadders$State" "ladders" "[I") (by decide +kernel)) (v := .ref (ad (14 + 20 * k))) rfl dX4_ladderNeeded_57 ?_
                refine lv_iload hx hb dX4_ladderNeeded_60 (lv_at hl 1 rfl) ?_
                refine c_ald hx hb hK hI (14 + 20 * k) (by omega) cE_la (by decide) (j) (by omega) rfl (v := C k (8 + j)) ((if_pos (show (j) < 4 by omega)).trans rfl) dX4_ladderNeeded_62 ?_
                refine lv_istore_n (lv' := [(3, .int (C k (8 + j))), (2, .int (nI j)), (4, .int (nI j)), (0, .ref (ad (11 + 20 * k))), (1, .ref (ad (15 + 20 * k + c0)))]) hx hb dX4_ladderNeeded_63 rfl hl (by decide) rfl (fun ls hl => ?_)
                refine lv_iinc (v := nI (j + 1)) (lv' := [(4, .int (nI (j + 1))), (3, .int (C k (8 + j))), (2, .int (nI j)), (0, .ref (ad (11 + 20 * k))), (1, .ref (ad (15 + 20 * k + c0)))]) hx hb dX4_ladderNeeded_64 hl (k := 2) rfl (by rw [show Int32.ofInt 1 = nI 1 from rfl, nI_add]) (by decide) rfl (fun ls hl => ?_)
                refine lv_goto (tgt := 19) hx hb dX4_ladderNeeded_67 (by decide) ?_
                exact ih (j + 1) (some (j)) (by omega) (by omega) (by first | (simp [ladP, -Int32.not_le, -Int32.not_lt, ho, hr0, c1, c2, nc2, c3, c4]; done) | exact absurd c4 (hLd.1 j (by omega))) _ _ _ hI (lv_sub hl [0, 1, 2, 3, 4] rfl)
        · have hl : lv_has ls 5 [(4, .int (nI j)), (3, .int (C k (8 + p1))), (2, .int (nI p1)), (0, .ref (ad (11 + 20 * k))), (1, .ref (ad (15 + 20 * k + c0)))] := hl
          have hp1 := ladP_lt _ _ _ _ ho
          refine lv_iload hx hb dX4_ladderNeeded_19 (lv_at hl 0 rfl) ?_
          refine lv_aload_n hx hb dX4_ladderNeeded_21 rfl (lv_at hl 3 rfl) ?_
          refine c_get hx hb hts hown hK hI (11 + 20 * k) (by omega) cE_st rfl hinX4 4 (by decide) (hts (.fieldLink RX4 42 "WinderLadders$State" "ladderCount" "I") (by decide +kernel)) (v := .int (nI (ln (C k)))) (congrArg (fun z => some (Value.int z)) hW.2.2.1) dX4_ladderNeeded_22 ?_
          refine lv_icmp_ge (tgt := 70) hx hb dX4_ladderNeeded_25 (by decide) (fun c5 => ?_) (fun c5 => ?_)
          · skip
            have nc5 : ln (C k) ≤ j := (nI_leI (a := ln (C k)) (b := j) (by omega) (by omega)).mp c5
            refine lv_iload_n hx hb dX4_ladderNeeded_70 rfl (lv_at hl 2 rfl) ?_
            exact c_iret (v := nI p1) hx hb hr hI (⟨by unfold ladF; rw [show ln (C k) = j by omega, ho]; rfl, rfl, rfl⟩) dX4_ladderNeeded_71 hlocks
          · skip
            have nc5 : ¬ (ln (C k) ≤ j) := fun h => c5 ((nI_leI (a := ln (C k)) (b := j) (by omega) (by omega)).mpr h)
            refine lv_aload_n hx hb dX4_ladderNeeded_28 rfl (lv_at hl 3 rfl) ?_
            refine c_get hx hb hts hown hK hI (11 + 20 * k) (by omega) cE_st rfl hinX4 2 (by decide) (hts (.fieldLink RX4 21 "WinderLadders$State" "ladders" "[I") (by decide +kernel)) (v := .ref (ad (14 + 20 * k))) rfl dX4_ladderNeeded_29 ?_
            refine lv_iload hx hb dX4_ladderNeeded_32 (lv_at hl 0 rfl) ?_
            refine c_ald hx hb hK hI (14 + 20 * k) (by omega) cE_la (by decide) (j) (by omega) rfl (v := C k (8 + j)) ((if_pos (show (j) < 4 by omega)).trans rfl) dX4_ladderNeeded_34 ?_
            refine lv_aload_n hx hb dX4_ladderNeeded_35 rfl (lv_at hl 4 rfl) ?_
            refine c_get hx hb hts hown hK hI (15 + 20 * k + c0) (by omega) (cE_cl (by omega)) rfl hinX0 1 (by decide) (hts (.fieldLink RX4 116 "WinderLadders$Clock" "rungs" "I") (by decide +kernel)) (v := .int (C k (12 + 8 * c0 + 1))) rfl dX4_ladderNeeded_36 ?_
            refine lv_icmp_lt (tgt := 64) hx hb dX4_ladderNeeded_39 (by decide) (fun c6 => ?_) (fun c6 => ?_)
            · skip
              refine lv_iinc (v := nI (j + 1)) (lv' := [(4, .int (nI (j + 1))), (3, .int (C k (8 + p1))), (2, .int (nI p1)), (0, .ref (ad (11 + 20 * k))), (1, .ref (ad (15 + 20 * k + c0)))]) hx hb dX4_ladderNeeded_64 hl (k := 0) rfl (by rw [show Int32.ofInt 1 = nI 1 from rfl, nI_add]) (by decide) rfl (fun ls hl => ?_)
              refine lv_goto (tgt := 19) hx hb dX4_ladderNeeded_67 (by decide) ?_
              exact ih (j + 1) (some (p1)) (by omega) (by omega) (by first | (simp [ladP, -Int32.not_le, -Int32.not_lt, ho, hr0, c1, c5, nc5, c6]; done) | exact absurd c6 (hLd.1 j (by omega))) _ _ _ hI (lv_sub hl [0, 1, 2, 3, 4] rfl)
            · skip
              refine lv_aload_n hx hb dX4_ladderNeeded_42 rfl (lv_at hl 3 rfl) ?_
              refine c_get hx hb hts hown hK hI (11 + 20 * k) (by omega) cE_st rfl hinX4 2 (by decide) (hts (.fieldLink RX4 21 "WinderLadders$State" "ladders" "[I") (by decide +kernel)) (v := .ref (ad (14 + 20 * k))) rfl dX4_ladderNeeded_43 ?_
              refine lv_iload hx hb dX4_ladderNeeded_46 (lv_at hl 0 rfl) ?_
              refine c_ald hx hb hK hI (14 + 20 * k) (by omega) cE_la (by decide) (j) (by omega) rfl (v := C k (8 + j)) ((if_pos (show (j) < 4 by omega)).trans rfl) dX4_ladderNeeded_48 ?_
              refine lv_iload_n hx hb dX4_ladderNeeded_49 rfl (lv_at hl 1 rfl) ?_
              refine lv_icmp_ge (tgt := 64) hx hb dX4_ladderNeeded_50 (by decide) (fun c7 => ?_) (fun c7 => ?_)
              · skip
                refine lv_iinc (v := nI (j + 1)) (lv' := [(4, .int (nI (j + 1))), (3, .int (C k (8 + p1))), (2, .int (nI p1)), (0, .ref (ad (11 + 20 * k))), (1, .ref (ad (15 + 20 * k + c0)))]) hx hb dX4_ladderNeeded_64 hl (k := 0) rfl (by rw [show Int32.ofInt 1 = nI 1 from rfl, nI_add]) (by decide) rfl (fun ls hl => ?_)
                refine lv_goto (tgt := 19) hx hb dX4_ladderNeeded_67 (by decide) ?_
                exact ih (j + 1) (some (p1)) (by omega) (by omega) (by first | (simp [ladP, -Int32.not_le, -Int32.not_lt, ho, hr0, c1, c5, nc5, c6, c7]; done) | exact absurd c7 (hLd.1 j (by omega))) _ _ _ hI (lv_sub hl [0, 1, 2, 3, 4] rfl)
              · skip
                refine lv_iload hx hb dX4_ladderNeeded_53 (lv_at hl 0 rfl) ?_
                refine lv_istore_n (lv' := [(2, .int (nI j)), (4, .int (nI j)), (3, .int (C k (8 + p1))), (0, .ref (ad (11 + 20 * k))), (1, .ref (ad (15 + 20 * k + c0)))]) hx hb dX4_ladderNeeded_55 rfl hl (by decide) rfl (fun ls hl => ?_)
                refine lv_aload_n hx hb dX4_ladderNeeded_56 rfl (lv_at hl 3 rfl) ?_
                refine c_get hx hb hts hown hK hI (11 + 20 * k) (by omega) cE_st rfl hinX4 2 (by decide) (hts (.fieldLink RX4 21 "WinderLadders$State" "ladders" "[I") (by decide +kernel)) (v := .ref (ad (14 + 20 * k))) rfl dX4_ladderNeeded_57 ?_
                refine lv_iload hx hb dX4_ladderNeeded_60 (lv_at hl 1 rfl) ?_
                refine c_ald hx hb hK hI (14 + 20 * k) (by omega) cE_la (by decide) (j) (by omega) rfl (v := C k (8 + j)) ((if_pos (show (j) < 4 by omega)).trans rfl) dX4_ladderNeeded_62 ?_
                refine lv_istore_n (lv' := [(3, .int (C k (8 + j))), (2, .int (nI j)), (4, .int (nI j)), (0, .ref (ad (11 + 20 * k))), (1, .ref (ad (15 + 20 * k + c0)))]) hx hb dX4_ladderNeeded_63 rfl hl (by decide) rfl (fun ls hl => ?_)
                refine lv_iinc (v := nI (j + 1)) (lv' := [(4, .int (nI (j + 1))), (3, .int (C k (8 + j))), (2, .int (nI j)), (0, .ref (ad (11 + 20 * k))), (1, .ref (ad (15 + 20 * k + c0)))]) hx hb dX4_ladderNeeded_64 hl (k := 2) rfl (by rw [show Int32.ofInt 1 = nI 1 from rfl, nI_add]) (by decide) rfl (fun ls hl => ?_)
                refine lv_goto (tgt := 19) hx hb dX4_ladderNeeded_67 (by decide) ?_
                exact ih (j + 1) (some (j)) (by omega) (by omega) (by first | (simp [ladP, -Int32.not_le, -Int32.not_lt, ho, hr0, c1, c5, nc5, c6, c7]; done) | exact absurd c7 (hLd.1 j (by omega))) _ _ _ hI (lv_sub hl [0, 1, 2, 3, 4] rfl)
    exact L19 5 0 none (by omega) (by omega) rfl _ _ _ hI (lv_sub hl [0, 1, 2, 3, 4] rfl)
  · skip
    refine lv_bipush (v := (-6)) hx hb dX4_ladderNeeded_7 (by decide) ?_
    exact c_iret (v := (-6)) hx hb hr hI (⟨by unfold ladF; rw [c1, ladP_0]; rfl, rfl, rfl⟩) dX4_ladderNeeded_9 hlocks

set_option maxHeartbeats 4000000 in
set_option maxRecDepth 100000 in
theorem k_X4_canBeWound (l : Launch) (dd : va_G) (g : Nat → ClassId) (ad pi : Nat → Nat) (A : Nat → Prop) (hA : cA A ad) (C : MS) (k : Nat) (hk : k < 10) (c0 : Nat) (hc0 : c0 < cn (C k)) (hW : Wk (C k)) (hLd : Lad (C k))  : Met l yX4_canBeWound wsX4_canBeWound ({ frames := 1, cells := 0, slots := 0, locals := 24 }) (cPre dd g ad pi A C [.ref (ad (11 + 20 * k)), .ref (ad (15 + 20 * k + c0))]) (cQi dd g ad A (fun r C1 pi1 => ((canW (C k) c0 = true ∧ r = 1) ∨ (canW (C k) c0 = false ∧ r = 0)) ∧ C1 = C ∧ pi1 = pi)) 0 0 A := by
  refine Met.ofW (cc := cX4_canBeWound) (maxL := 2) (ret := (some .boolean)) (by decide) rfl ?_
  intro p e s m args below meth c s₁ B hml hv
  obtain ⟨rfl, hP0, hK, hX⟩ := hv
  have hx := B.exec
  have hb := B.bytes
  have hr := B.returns
  have hts := atoms_spec (ws := wsX4_canBeWound) B.pre
  have hown : s.vm.findClass RX4 = some m.cls := findClass_of_methodNamed B.named
  have hlocks := B.notSynchronized
  have hinX0 : ∀ w ∈ wsX00, w ∈ wsX4_canBeWound := by decide +kernel
  have hI : cI dd g ad pi A s.heap s.heap [] C := ⟨hP0, va_S.rf⟩
  have hl := lv_entry ([.ref (ad (11 + 20 * k)), .ref (ad (15 + 20 * k + c0))]) (n := 2) (Nat.le_of_ble_eq_true rfl)
  rw [lg_entry_eq]
  generalize (lg_sl ([.ref (ad (11 + 20 * k)), .ref (ad (15 + 20 * k + c0))]) ++ List.replicate (2 - (lg_sl ([.ref (ad (11 + 20 * k)), .ref (ad (15 + 20 * k + c0))])).length) Slot.unset).toArray = ls at hl ⊢
  have hl : lv_has ls 2 [(0, .ref (ad (11 + 20 * k))), (1, .ref (ad (15 + 20 * k + c0)))] := hl
  have hc16 := hW.2.1
  have hl4 := hW.2.2.2
  have hlf := ladF_lt hW c0
  refine lv_aload_n hx hb dX4_canBeWound_0 rfl (lv_at hl 1 rfl) ?_
  refine c_get hx hb hts hown hK hI (15 + 20 * k + c0) (by omega) (cE_cl (by omega)) rfl hinX0 1 (by decide) (hts (.fieldLink RX4 116 "WinderLadders$Clock" "rungs" "I") (by decide +kernel)) (v := .int (C k (12 + 8 * c0 + 1))) rfl dX4_canBeWound_1 ?_
  refine lv_if_eq (tgt := 17) hx hb dX4_canBeWound_4 (by decide) (fun c1 => ?_) (fun c1 => ?_)
  · skip
    refine lv_iconst (v := 1) hx hb dX4_canBeWound_17 (by decide) ?_
    refine lv_goto (tgt := 22) hx hb dX4_canBeWound_18 (by decide) ?_
    exact c_zret (v := 1) hx hb hr (by first | rfl | decide) hI (⟨Or.inl ⟨canW_t.mpr (by first | exact Or.inl c1 | exact Or.inr ((o2i_ne hlf).mp c1)), rfl⟩, rfl, rfl⟩) dX4_canBeWound_22 hlocks
  · skip
    refine lv_aload_n hx hb dX4_canBeWound_7 rfl (lv_at hl 0 rfl) ?_
    refine lv_aload_n hx hb dX4_canBeWound_8 rfl (lv_at hl 1 rfl) ?_
    refine c_calli (As := [.ref (ad (15 + 20 * k + c0))]) (rest := []) hx hb hml hown hts hK hX hI (11 + 20 * k) (by omega) cE_st rfl (k_X4_ladderNeeded l dd g ad pi A hA C k (by omega) c0 (by omega) hW hLd) (cwV 1 hts gX4_canBeWound_X4_ladderNeeded rfl rfl rfl (by decide +kernel) ⟨Nat.le_of_ble_eq_true rfl, Nat.le_of_ble_eq_true rfl⟩) rfl hl (Nat.le_of_ble_eq_true rfl) ⟨Nat.zero_le _, Nat.zero_le _⟩ dX4_canBeWound_9 rfl (fun r C1 pi1 H locs h2 hI => ?_)
    obtain ⟨hr9, hc9, hp9⟩ := h2
    rw [hc9, hp9] at hI
    subst hr9
    refine lv_bipush (v := (-6)) hx hb dX4_canBeWound_12 (by decide) ?_
    refine lv_icmp_eq (tgt := 21) hx hb dX4_canBeWound_14 (by decide) (fun c3 => ?_) (fun c3 => ?_)
    · skip
      refine lv_iconst (v := 0) hx hb dX4_canBeWound_21 (by decide) ?_
      exact c_zret (v := 0) hx hb hr (by first | rfl | decide) hI (⟨Or.inr ⟨canW_f.mpr (fun h => h.elim c1 (fun h => (o2i_ne hlf).mpr h c3)), rfl⟩, rfl, rfl⟩) dX4_canBeWound_22 hlocks
    · skip
      refine lv_iconst (v := 1) hx hb dX4_canBeWound_17 (by decide) ?_
      refine lv_goto (tgt := 22) hx hb dX4_canBeWound_18 (by decide) ?_
      exact c_zret (v := 1) hx hb hr (by first | rfl | decide) hI (⟨Or.inl ⟨canW_t.mpr (by first | exact Or.inl c1 | exact Or.inr ((o2i_ne hlf).mp c3)), rfl⟩, rfl, rfl⟩) dX4_canBeWound_22 hlocks

set_option maxHeartbeats 4000000 in
set_option maxRecDepth 100000 in
theorem k_X4_numberThatGo (l : Launch) (dd : va_G) (g : Nat → ClassId) (ad pi : Nat → Nat) (A : Nat → Prop) (hA : cA A ad) (C : MS) (k : Nat) (hk : k < 10) (hW : Wk (C k))  : Met l yX4_numberThatGo wsX4_numberThatGo ({ frames := 0, cells := 0, slots := 0, locals := 0 }) (cPre dd g ad pi A C [.ref (ad (11 + 20 * k))]) (cQi dd g ad A (fun r C1 pi1 => r = nI (goN (C k) (cn (C k))) ∧ C1 = C ∧ pi1 = pi)) 0 0 A := by
  refine Met.ofW (cc := cX4_numberThatGo) (maxL := 3) (ret := (some .int)) (by decide) rfl ?_
  intro p e s m args below meth c s₁ B hml hv
  obtain ⟨rfl, hP0, hK, hX⟩ := hv
  have hx := B.exec
  have hb := B.bytes
  have hr := B.returns
  have hts := atoms_spec (ws := wsX4_numberThatGo) B.pre
  have hown : s.vm.findClass RX4 = some m.cls := findClass_of_methodNamed B.named
  have hlocks := B.notSynchronized
  have hinX0 : ∀ w ∈ wsX00, w ∈ wsX4_numberThatGo := by decide +kernel
  have hinX4 : ∀ w ∈ wsX40, w ∈ wsX4_numberThatGo := by decide +kernel
  have hI : cI dd g ad pi A s.heap s.heap [] C := ⟨hP0, va_S.rf⟩
  have hl := lv_entry ([.ref (ad (11 + 20 * k))]) (n := 3) (Nat.le_of_ble_eq_true rfl)
  rw [lg_entry_eq]
  generalize (lg_sl ([.ref (ad (11 + 20 * k))]) ++ List.replicate (3 - (lg_sl ([.ref (ad (11 + 20 * k))])).length) Slot.unset).toArray = ls at hl ⊢
  have hl : lv_has ls 3 [(0, .ref (ad (11 + 20 * k)))] := hl
  have hc16 := hW.2.1
  have hl4 := hW.2.2.2
  refine lv_iconst (v := 0) hx hb dX4_numberThatGo_0 (by decide) ?_
  refine lv_istore_n (lv' := [(1, .int 0), (0, .ref (ad (11 + 20 * k)))]) hx hb dX4_numberThatGo_1 rfl hl (by decide) rfl (fun ls hl => ?_)
  refine lv_iconst (v := 0) hx hb dX4_numberThatGo_2 (by decide) ?_
  refine lv_istore_n (lv' := [(2, .int 0), (1, .int 0), (0, .ref (ad (11 + 20 * k)))]) hx hb dX4_numberThatGo_3 rfl hl (by decide) rfl (fun ls hl => ?_)
  have L4 : ∀ (fuel : Nat) (j : Nat) (h1 : j ≤ cn (C k)) (h2 : cn (C k) < fuel + j) (H : Heap) (locs : List Loc) (ls : Array Slot), cI dd g ad pi A s.heap H locs C → lv_has ls 3 [(2, .int (nI j)), (1, .int (nI (goN (C k) j))), (0, .ref (ad (11 + 20 * k)))] → wk p l e wsX4_numberThatGo { frames := 0, cells := 0, slots := 0, locals := 0 } s m [.ref (ad (11 + 20 * k))] below meth c H locs (cQi dd g ad A (fun r C1 pi1 => r = nI (goN (C k) (cn (C k))) ∧ C1 = C ∧ pi1 = pi)) (A) (F0 m 4 ls []) := by
    intro fuel
    induction fuel with
    | zero =>
      intro j h1 h2 H locs ls hI hl
      exact absurd h2 (by omega)
    | succ fuel ih =>
      intro j h1 h2 H locs ls hI hl
      have hle := goN_le (C k) j
      refine lv_iload_n hx hb dX4_numberThatGo_4 rfl (lv_at hl 0 rfl) ?_
      refine lv_aload_n hx hb dX4_numberThatGo_5 rfl (lv_at hl 2 rfl) ?_
      refine c_get hx hb hts hown hK hI (11 + 20 * k) (by omega) cE_st rfl hinX4 3 (by decide) (hts (.fieldLink RX4 34 "WinderLadders$State" "clockCount" "I") (by decide +kernel)) (v := .int (nI (cn (C k)))) (congrArg (fun z => some (Value.int z)) hW.1) dX4_numberThatGo_6 ?_
      refine lv_icmp_ge (tgt := 33) hx hb dX4_numberThatGo_9 (by decide) (fun c1 => ?_) (fun c1 => ?_)
      · skip
        have nc1 : cn (C k) ≤ j := (nI_leI (a := cn (C k)) (b := j) (by omega) (by omega)).mp c1
        refine lv_iload_n hx hb dX4_numberThatGo_33 rfl (lv_at hl 1 rfl) ?_
        exact c_iret (v := nI (goN (C k) j)) hx hb hr hI (⟨by rw [show cn (C k) = j by omega], rfl, rfl⟩) dX4_numberThatGo_34 hlocks
      · skip
        have nc1 : ¬ (cn (C k) ≤ j) := fun h => c1 ((nI_leI (a := cn (C k)) (b := j) (by omega) (by omega)).mpr h)
        refine lv_aload_n hx hb dX4_numberThatGo_12 rfl (lv_at hl 2 rfl) ?_
        refine c_get hx hb hts hown hK hI (11 + 20 * k) (by omega) cE_st rfl hinX4 1 (by decide) (hts (.fieldLink RX4 17 "WinderLadders$State" "clocks" "[LWinderLadders$Clock;") (by decide +kernel)) (v := .ref (ad (13 + 20 * k))) rfl dX4_numberThatGo_13 ?_
        refine lv_iload_n hx hb dX4_numberThatGo_16 rfl (lv_at hl 0 rfl) ?_
        refine c_aldC hx hb hK hI k (by omega) (j) (by omega) rfl dX4_numberThatGo_17 ?_
        refine c_get hx hb hts hown hK hI (15 + 20 * k + j) (by omega) (cE_cl (by omega)) rfl hinX0 7 (by decide) (hts (.fieldLink RX4 77 "WinderLadders$Clock" "goes" "Z") (by decide +kernel)) (v := .int (C k (12 + 8 * j + 6))) rfl dX4_numberThatGo_18 ?_
        refine lv_if_eq (tgt := 27) hx hb dX4_numberThatGo_21 (by decide) (fun c2 => ?_) (fun c2 => ?_)
        · skip
          refine lv_iinc (v := nI (j + 1)) (lv' := [(2, .int (nI (j + 1))), (1, .int (nI (goN (C k) j))), (0, .ref (ad (11 + 20 * k)))]) hx hb dX4_numberThatGo_27 hl (k := 0) rfl (by rw [show Int32.ofInt 1 = nI 1 from rfl, nI_add]) (by decide) rfl (fun ls hl => ?_)
          refine lv_goto (tgt := 4) hx hb dX4_numberThatGo_30 (by decide) ?_
          exact ih (j + 1) (by omega) (by omega) _ _ _ hI (by rw [show goN (C k) (j + 1) = goN (C k) j by simp only [goN, if_neg c1, if_neg nc1, if_pos c2]]; exact (lv_sub hl [0, 1, 2] rfl))
        · skip
          refine lv_iinc (v := nI (goN (C k) j + 1)) (lv' := [(1, .int (nI (goN (C k) j + 1))), (2, .int (nI j)), (0, .ref (ad (11 + 20 * k)))]) hx hb dX4_numberThatGo_24 hl (k := 1) rfl (by rw [show Int32.ofInt 1 = nI 1 from rfl, nI_add]) (by decide) rfl (fun ls hl => ?_)
          refine lv_iinc (v := nI (j + 1)) (lv' := [(2, .int (nI (j + 1))), (1, .int (nI (goN (C k) j + 1))), (0, .ref (ad (11 + 20 * k)))]) hx hb dX4_numberThatGo_27 hl (k := 1) rfl (by rw [show Int32.ofInt 1 = nI 1 from rfl, nI_add]) (by decide) rfl (fun ls hl => ?_)
          refine lv_goto (tgt := 4) hx hb dX4_numberThatGo_30 (by decide) ?_
          exact ih (j + 1) (by omega) (by omega) _ _ _ hI (by rw [show goN (C k) (j + 1) = goN (C k) j + 1 by simp only [goN, if_neg c1, if_neg nc1, if_neg c2]]; exact (lv_sub hl [0, 1, 2] rfl))
  exact L4 17 0 (by omega) (by omega) _ _ _ hI (lv_sub hl [0, 1, 2] rfl)

set_option maxHeartbeats 4000000 in
set_option maxRecDepth 100000 in
theorem k_X4_setOfStill (l : Launch) (dd : va_G) (g : Nat → ClassId) (ad pi : Nat → Nat) (A : Nat → Prop) (hA : cA A ad) (C : MS) (k : Nat) (hk : k < 10) (hW : Wk (C k))  : Met l yX4_setOfStill wsX4_setOfStill ({ frames := 0, cells := 0, slots := 0, locals := 0 }) (cPre dd g ad pi A C [.ref (ad (11 + 20 * k))]) (cQi dd g ad A (fun r C1 pi1 => r = stC (C k) (cn (C k)) ∧ C1 = C ∧ pi1 = pi)) 0 0 A := by
  refine Met.ofW (cc := cX4_setOfStill) (maxL := 3) (ret := (some .int)) (by decide) rfl ?_
  intro p e s m args below meth c s₁ B hml hv
  obtain ⟨rfl, hP0, hK, hX⟩ := hv
  have hx := B.exec
  have hb := B.bytes
  have hr := B.returns
  have hts := atoms_spec (ws := wsX4_setOfStill) B.pre
  have hown : s.vm.findClass RX4 = some m.cls := findClass_of_methodNamed B.named
  have hlocks := B.notSynchronized
  have hinX0 : ∀ w ∈ wsX00, w ∈ wsX4_setOfStill := by decide +kernel
  have hinX4 : ∀ w ∈ wsX40, w ∈ wsX4_setOfStill := by decide +kernel
  have hI : cI dd g ad pi A s.heap s.heap [] C := ⟨hP0, va_S.rf⟩
  have hl := lv_entry ([.ref (ad (11 + 20 * k))]) (n := 3) (Nat.le_of_ble_eq_true rfl)
  rw [lg_entry_eq]
  generalize (lg_sl ([.ref (ad (11 + 20 * k))]) ++ List.replicate (3 - (lg_sl ([.ref (ad (11 + 20 * k))])).length) Slot.unset).toArray = ls at hl ⊢
  have hl : lv_has ls 3 [(0, .ref (ad (11 + 20 * k)))] := hl
  have hc16 := hW.2.1
  have hl4 := hW.2.2.2
  refine lv_iconst (v := 0) hx hb dX4_setOfStill_0 (by decide) ?_
  refine lv_istore_n (lv' := [(1, .int 0), (0, .ref (ad (11 + 20 * k)))]) hx hb dX4_setOfStill_1 rfl hl (by decide) rfl (fun ls hl => ?_)
  refine lv_iconst (v := 0) hx hb dX4_setOfStill_2 (by decide) ?_
  refine lv_istore_n (lv' := [(2, .int 0), (1, .int 0), (0, .ref (ad (11 + 20 * k)))]) hx hb dX4_setOfStill_3 rfl hl (by decide) rfl (fun ls hl => ?_)
  have L4 : ∀ (fuel : Nat) (j : Nat) (z : Int32) (h1 : j ≤ cn (C k)) (h2 : cn (C k) < fuel + j) (hz : z = stC (C k) j) (H : Heap) (locs : List Loc) (ls : Array Slot), cI dd g ad pi A s.heap H locs C → lv_has ls 3 [(2, .int (nI j)), (1, .int z), (0, .ref (ad (11 + 20 * k)))] → wk p l e wsX4_setOfStill { frames := 0, cells := 0, slots := 0, locals := 0 } s m [.ref (ad (11 + 20 * k))] below meth c H locs (cQi dd g ad A (fun r C1 pi1 => r = stC (C k) (cn (C k)) ∧ C1 = C ∧ pi1 = pi)) (A) (F0 m 4 ls []) := by
    intro fuel
    induction fuel with
    | zero =>
      intro j z h1 h2 hz H locs ls hI hl
      exact absurd h2 (by omega)
    | succ fuel ih =>
      intro j z h1 h2 hz H locs ls hI hl
      refine lv_iload_n hx hb dX4_setOfStill_4 rfl (lv_at hl 0 rfl) ?_
      refine lv_aload_n hx hb dX4_setOfStill_5 rfl (lv_at hl 2 rfl) ?_
      refine c_get hx hb hts hown hK hI (11 + 20 * k) (by omega) cE_st rfl hinX4 3 (by decide) (hts (.fieldLink RX4 34 "WinderLadders$State" "clockCount" "I") (by decide +kernel)) (v := .int (nI (cn (C k)))) (congrArg (fun z => some (Value.int z)) hW.1) dX4_setOfStill_6 ?_
      refine lv_icmp_ge (tgt := 36) hx hb dX4_setOfStill_9 (by decide) (fun c1 => ?_) (fun c1 => ?_)
      · skip
        have nc1 : cn (C k) ≤ j := (nI_leI (a := cn (C k)) (b := j) (by omega) (by omega)).mp c1
        refine lv_iload_n hx hb dX4_setOfStill_36 rfl (lv_at hl 1 rfl) ?_
        exact c_iret (v := z) hx hb hr hI (⟨by rw [hz, show cn (C k) = j by omega], rfl, rfl⟩) dX4_setOfStill_37 hlocks
      · skip
        have nc1 : ¬ (cn (C k) ≤ j) := fun h => c1 ((nI_leI (a := cn (C k)) (b := j) (by omega) (by omega)).mpr h)
        refine lv_aload_n hx hb dX4_setOfStill_12 rfl (lv_at hl 2 rfl) ?_
        refine c_get hx hb hts hown hK hI (11 + 20 * k) (by omega) cE_st rfl hinX4 1 (by decide) (hts (.fieldLink RX4 17 "WinderLadders$State" "clocks" "[LWinderLadders$Clock;") (by decide +kernel)) (v := .ref (ad (13 + 20 * k))) rfl dX4_setOfStill_13 ?_
        refine lv_iload_n hx hb dX4_setOfStill_16 rfl (lv_at hl 0 rfl) ?_
        refine c_aldC hx hb hK hI k (by omega) (j) (by omega) rfl dX4_setOfStill_17 ?_
        refine c_get hx hb hts hown hK hI (15 + 20 * k + j) (by omega) (cE_cl (by omega)) rfl hinX0 7 (by decide) (hts (.fieldLink RX4 77 "WinderLadders$Clock" "goes" "Z") (by decide +kernel)) (v := .int (C k (12 + 8 * j + 6))) rfl dX4_setOfStill_18 ?_
        refine lv_if_ne (tgt := 30) hx hb dX4_setOfStill_21 (by decide) (fun c2 => ?_) (fun c2 => ?_)
        · skip
          refine lv_iinc (v := nI (j + 1)) (lv' := [(2, .int (nI (j + 1))), (1, .int z), (0, .ref (ad (11 + 20 * k)))]) hx hb dX4_setOfStill_30 hl (k := 0) rfl (by rw [show Int32.ofInt 1 = nI 1 from rfl, nI_add]) (by decide) rfl (fun ls hl => ?_)
          refine lv_goto (tgt := 4) hx hb dX4_setOfStill_33 (by decide) ?_
          exact ih (j + 1) (z) (by omega) (by omega) (by rw [hz]; simp only [stC, if_neg c1, if_neg nc1, if_neg c2]) _ _ _ hI (lv_sub hl [0, 1, 2] rfl)
        · skip
          refine lv_iload_n hx hb dX4_setOfStill_24 rfl (lv_at hl 1 rfl) ?_
          refine lv_iconst (v := 1) hx hb dX4_setOfStill_25 (by decide) ?_
          refine lv_iload_n hx hb dX4_setOfStill_26 rfl (lv_at hl 0 rfl) ?_
          refine lv_ishl hx hb dX4_setOfStill_27 ?_
          refine lv_ior hx hb dX4_setOfStill_28 ?_
          refine lv_istore_n (lv' := [(1, .int (z ||| (1 <<< ((nI j) &&& 31)))), (2, .int (nI j)), (0, .ref (ad (11 + 20 * k)))]) hx hb dX4_setOfStill_29 rfl hl (by decide) rfl (fun ls hl => ?_)
          refine lv_iinc (v := nI (j + 1)) (lv' := [(2, .int (nI (j + 1))), (1, .int (z ||| (1 <<< ((nI j) &&& 31)))), (0, .ref (ad (11 + 20 * k)))]) hx hb dX4_setOfStill_30 hl (k := 1) rfl (by rw [show Int32.ofInt 1 = nI 1 from rfl, nI_add]) (by decide) rfl (fun ls hl => ?_)
          refine lv_goto (tgt := 4) hx hb dX4_setOfStill_33 (by decide) ?_
          exact ih (j + 1) (z ||| (1 <<< ((nI j) &&& 31))) (by omega) (by omega) (by rw [hz]; simp only [stC, if_neg c1, if_neg nc1, if_pos c2]) _ _ _ hI (lv_sub hl [0, 1, 2] rfl)
  exact L4 17 0 0 (by omega) (by omega) rfl _ _ _ hI (lv_sub hl [0, 1, 2] rfl)

set_option maxHeartbeats 4000000 in
set_option maxRecDepth 100000 in
theorem k_X4_numberOffBeyondTold (l : Launch) (dd : va_G) (g : Nat → ClassId) (ad pi : Nat → Nat) (A : Nat → Prop) (hA : cA A ad) (C : MS) (k : Nat) (hk : k < 10) (hW : Wk (C k))  : Met l yX4_numberOffBeyondTold wsX4_numberOffBeyondTold ({ frames := 2, cells := 0, slots := 0, locals := 45 }) (cPre dd g ad pi A C [.ref (ad (11 + 20 * k))]) (cQi dd g ad A (fun r C1 pi1 => r = nI (ofN (C k) (cn (C k))) ∧ C1 = C ∧ pi1 = pi)) 0 0 A := by
  refine Met.ofW (cc := cX4_numberOffBeyondTold) (maxL := 3) (ret := (some .int)) (by decide) rfl ?_
  intro p e s m args below meth c s₁ B hml hv
  obtain ⟨rfl, hP0, hK, hX⟩ := hv
  have hx := B.exec
  have hb := B.bytes
  have hr := B.returns
  have hts := atoms_spec (ws := wsX4_numberOffBeyondTold) B.pre
  have hown : s.vm.findClass RX4 = some m.cls := findClass_of_methodNamed B.named
  have hlocks := B.notSynchronized
  have hinX4 : ∀ w ∈ wsX40, w ∈ wsX4_numberOffBeyondTold := by decide +kernel
  have hI : cI dd g ad pi A s.heap s.heap [] C := ⟨hP0, va_S.rf⟩
  have hl := lv_entry ([.ref (ad (11 + 20 * k))]) (n := 3) (Nat.le_of_ble_eq_true rfl)
  rw [lg_entry_eq]
  generalize (lg_sl ([.ref (ad (11 + 20 * k))]) ++ List.replicate (3 - (lg_sl ([.ref (ad (11 + 20 * k))])).length) Slot.unset).toArray = ls at hl ⊢
  have hl : lv_has ls 3 [(0, .ref (ad (11 + 20 * k)))] := hl
  have hc16 := hW.2.1
  have hl4 := hW.2.2.2
  refine lv_iconst (v := 0) hx hb dX4_numberOffBeyondTold_0 (by decide) ?_
  refine lv_istore_n (lv' := [(1, .int 0), (0, .ref (ad (11 + 20 * k)))]) hx hb dX4_numberOffBeyondTold_1 rfl hl (by decide) rfl (fun ls hl => ?_)
  refine lv_iconst (v := 0) hx hb dX4_numberOffBeyondTold_2 (by decide) ?_
  refine lv_istore_n (lv' := [(2, .int 0), (1, .int 0), (0, .ref (ad (11 + 20 * k)))]) hx hb dX4_numberOffBeyondTold_3 rfl hl (by decide) rfl (fun ls hl => ?_)
  have L4 : ∀ (fuel : Nat) (j : Nat) (h1 : j ≤ cn (C k)) (h2 : cn (C k) < fuel + j) (H : Heap) (locs : List Loc) (ls : Array Slot), cI dd g ad pi A s.heap H locs C → lv_has ls 3 [(2, .int (nI j)), (1, .int (nI (ofN (C k) j))), (0, .ref (ad (11 + 20 * k)))] → wk p l e wsX4_numberOffBeyondTold { frames := 2, cells := 0, slots := 0, locals := 45 } s m [.ref (ad (11 + 20 * k))] below meth c H locs (cQi dd g ad A (fun r C1 pi1 => r = nI (ofN (C k) (cn (C k))) ∧ C1 = C ∧ pi1 = pi)) (A) (F0 m 4 ls []) := by
    intro fuel
    induction fuel with
    | zero =>
      intro j h1 h2 H locs ls hI hl
      exact absurd h2 (by omega)
    | succ fuel ih =>
      intro j h1 h2 H locs ls hI hl
      have hle := ofN_le (C k) j
      refine lv_iload_n hx hb dX4_numberOffBeyondTold_4 rfl (lv_at hl 0 rfl) ?_
      refine lv_aload_n hx hb dX4_numberOffBeyondTold_5 rfl (lv_at hl 2 rfl) ?_
      refine c_get hx hb hts hown hK hI (11 + 20 * k) (by omega) cE_st rfl hinX4 3 (by decide) (hts (.fieldLink RX4 34 "WinderLadders$State" "clockCount" "I") (by decide +kernel)) (v := .int (nI (cn (C k)))) (congrArg (fun z => some (Value.int z)) hW.1) dX4_numberOffBeyondTold_6 ?_
      refine lv_icmp_ge (tgt := 39) hx hb dX4_numberOffBeyondTold_9 (by decide) (fun c1 => ?_) (fun c1 => ?_)
      · skip
        have nc1 : cn (C k) ≤ j := (nI_leI (a := cn (C k)) (b := j) (by omega) (by omega)).mp c1
        refine lv_iload_n hx hb dX4_numberOffBeyondTold_39 rfl (lv_at hl 1 rfl) ?_
        exact c_iret (v := nI (ofN (C k) j)) hx hb hr hI (⟨by rw [show cn (C k) = j by omega], rfl, rfl⟩) dX4_numberOffBeyondTold_40 hlocks
      · skip
        have nc1 : ¬ (cn (C k) ≤ j) := fun h => c1 ((nI_leI (a := cn (C k)) (b := j) (by omega) (by omega)).mpr h)
        refine lv_aload_n hx hb dX4_numberOffBeyondTold_12 rfl (lv_at hl 2 rfl) ?_
        refine c_get hx hb hts hown hK hI (11 + 20 * k) (by omega) cE_st rfl hinX4 1 (by decide) (hts (.fieldLink RX4 17 "WinderLadders$State" "clocks" "[LWinderLadders$Clock;") (by decide +kernel)) (v := .ref (ad (13 + 20 * k))) rfl dX4_numberOffBeyondTold_13 ?_
        refine lv_iload_n hx hb dX4_numberOffBeyondTold_16 rfl (lv_at hl 0 rfl) ?_
        refine c_aldC hx hb hK hI k (by omega) (j) (by omega) rfl dX4_numberOffBeyondTold_17 ?_
        refine lv_aload_n hx hb dX4_numberOffBeyondTold_18 rfl (lv_at hl 2 rfl) ?_
        refine c_get hx hb hts hown hK hI (11 + 20 * k) (by omega) cE_st rfl hinX4 0 (by decide) (hts (.fieldLink RX4 9 "WinderLadders$State" "settings" "[I") (by decide +kernel)) (v := .ref (ad (12 + 20 * k))) rfl dX4_numberOffBeyondTold_19 ?_
        refine lv_iconst (v := 0) hx hb dX4_numberOffBeyondTold_22 (by decide) ?_
        refine c_ald hx hb hK hI (12 + 20 * k) (by omega) cE_se (by decide) (0) (by omega) rfl (v := C k 0) ((if_pos (show (0) < 4 by omega)).trans rfl) dX4_numberOffBeyondTold_23 ?_
        refine c_calli (As := [.int (C k 0)]) (rest := []) hx hb hml hown hts hK hX hI (15 + 20 * k + j) (by omega) (cE_cl (by omega)) rfl (k_X0_isOffBeyond l dd g ad pi A hA C k j (by omega) (by omega) (C k 0)) (cwV 1 hts gX4_numberOffBeyondTold_X0_isOffBeyond rfl rfl rfl (by decide +kernel) ⟨Nat.le_of_ble_eq_true rfl, Nat.le_of_ble_eq_true rfl⟩) rfl hl (Nat.le_of_ble_eq_true rfl) ⟨Nat.zero_le _, Nat.zero_le _⟩ dX4_numberOffBeyondTold_24 rfl (fun r C1 pi1 H locs h3 hI => ?_)
        obtain ⟨h3, hc9, hp9⟩ := h3
        rw [hc9, hp9] at hI
        rcases h3 with ⟨b2, rfl⟩ | ⟨b2, rfl⟩
        · skip
          have b2 : offB (C k) j (C k 0) = true := b2
          refine lv_if_eq (tgt := 33) hx hb dX4_numberOffBeyondTold_27 (by decide) (fun c4 => absurd c4 (by decide)) (fun _ => ?_)
          refine lv_iinc (v := nI (ofN (C k) j + 1)) (lv' := [(1, .int (nI (ofN (C k) j + 1))), (2, .int (nI j)), (0, .ref (ad (11 + 20 * k)))]) hx hb dX4_numberOffBeyondTold_30 hl (k := 1) rfl (by rw [show Int32.ofInt 1 = nI 1 from rfl, nI_add]) (by decide) rfl (fun ls hl => ?_)
          refine lv_iinc (v := nI (j + 1)) (lv' := [(2, .int (nI (j + 1))), (1, .int (nI (ofN (C k) j + 1))), (0, .ref (ad (11 + 20 * k)))]) hx hb dX4_numberOffBeyondTold_33 hl (k := 1) rfl (by rw [show Int32.ofInt 1 = nI 1 from rfl, nI_add]) (by decide) rfl (fun ls hl => ?_)
          refine lv_goto (tgt := 4) hx hb dX4_numberOffBeyondTold_36 (by decide) ?_
          exact ih (j + 1) (by omega) (by omega) _ _ _ hI (by rw [show ofN (C k) (j + 1) = ofN (C k) j + 1 by simp only [ofN, if_neg c1, if_neg nc1, if_pos b2]]; exact (lv_sub hl [0, 1, 2] rfl))
        · skip
          have b2 : offB (C k) j (C k 0) = false := b2
          refine lv_if_eq (tgt := 33) hx hb dX4_numberOffBeyondTold_27 (by decide) (fun _ => ?_) (fun c5 => absurd (by decide) c5)
          refine lv_iinc (v := nI (j + 1)) (lv' := [(2, .int (nI (j + 1))), (1, .int (nI (ofN (C k) j))), (0, .ref (ad (11 + 20 * k)))]) hx hb dX4_numberOffBeyondTold_33 hl (k := 0) rfl (by rw [show Int32.ofInt 1 = nI 1 from rfl, nI_add]) (by decide) rfl (fun ls hl => ?_)
          refine lv_goto (tgt := 4) hx hb dX4_numberOffBeyondTold_36 (by decide) ?_
          exact ih (j + 1) (by omega) (by omega) _ _ _ hI (by rw [show ofN (C k) (j + 1) = ofN (C k) j by simp only [ofN, if_neg c1, if_neg nc1, if_neg (Bool.eq_false_iff.mp b2)]]; exact (lv_sub hl [0, 1, 2] rfl))
  exact L4 17 0 (by omega) (by omega) _ _ _ hI (lv_sub hl [0, 1, 2] rfl)

set_option maxHeartbeats 4000000 in
set_option maxRecDepth 100000 in
theorem k_X4_numberThatCannotBeWound (l : Launch) (dd : va_G) (g : Nat → ClassId) (ad pi : Nat → Nat) (A : Nat → Prop) (hA : cA A ad) (C : MS) (k : Nat) (hk : k < 10) (hW : Wk (C k)) (hLd : Lad (C k))  : Met l yX4_numberThatCannotBeWound wsX4_numberThatCannotBeWound ({ frames := 2, cells := 0, slots := 0, locals := 45 }) (cPre dd g ad pi A C [.ref (ad (11 + 20 * k))]) (cQi dd g ad A (fun r C1 pi1 => r = nI (cwN (C k) (cn (C k))) ∧ C1 = C ∧ pi1 = pi)) 0 0 A := by
  refine Met.ofW (cc := cX4_numberThatCannotBeWound) (maxL := 3) (ret := (some .int)) (by decide) rfl ?_
  intro p e s m args below meth c s₁ B hml hv
  obtain ⟨rfl, hP0, hK, hX⟩ := hv
  have hx := B.exec
  have hb := B.bytes
  have hr := B.returns
  have hts := atoms_spec (ws := wsX4_numberThatCannotBeWound) B.pre
  have hown : s.vm.findClass RX4 = some m.cls := findClass_of_methodNamed B.named
  have hlocks := B.notSynchronized
  have hinX4 : ∀ w ∈ wsX40, w ∈ wsX4_numberThatCannotBeWound := by decide +kernel
  have hI : cI dd g ad pi A s.heap s.heap [] C := ⟨hP0, va_S.rf⟩
  have hl := lv_entry ([.ref (ad (11 + 20 * k))]) (n := 3) (Nat.le_of_ble_eq_true rfl)
  rw [lg_entry_eq]
  generalize (lg_sl ([.ref (ad (11 + 20 * k))]) ++ List.replicate (3 - (lg_sl ([.ref (ad (11 + 20 * k))])).length) Slot.unset).toArray = ls at hl ⊢
  have hl : lv_has ls 3 [(0, .ref (ad (11 + 20 * k)))] := hl
  have hc16 := hW.2.1
  have hl4 := hW.2.2.2
  refine lv_iconst (v := 0) hx hb dX4_numberThatCannotBeWound_0 (by decide) ?_
  refine lv_istore_n (lv' := [(1, .int 0), (0, .ref (ad (11 + 20 * k)))]) hx hb dX4_numberThatCannotBeWound_1 rfl hl (by decide) rfl (fun ls hl => ?_)
  refine lv_iconst (v := 0) hx hb dX4_numberThatCannotBeWound_2 (by decide) ?_
  refine lv_istore_n (lv' := [(2, .int 0), (1, .int 0), (0, .ref (ad (11 + 20 * k)))]) hx hb dX4_numberThatCannotBeWound_3 rfl hl (by decide) rfl (fun ls hl => ?_)
  have L4 : ∀ (fuel : Nat) (j : Nat) (h1 : j ≤ cn (C k)) (h2 : cn (C k) < fuel + j) (H : Heap) (locs : List Loc) (ls : Array Slot), cI dd g ad pi A s.heap H locs C → lv_has ls 3 [(2, .int (nI j)), (1, .int (nI (cwN (C k) j))), (0, .ref (ad (11 + 20 * k)))] → wk p l e wsX4_numberThatCannotBeWound { frames := 2, cells := 0, slots := 0, locals := 45 } s m [.ref (ad (11 + 20 * k))] below meth c H locs (cQi dd g ad A (fun r C1 pi1 => r = nI (cwN (C k) (cn (C k))) ∧ C1 = C ∧ pi1 = pi)) (A) (F0 m 4 ls []) := by
    intro fuel
    induction fuel with
    | zero =>
      intro j h1 h2 H locs ls hI hl
      exact absurd h2 (by omega)
    | succ fuel ih =>
      intro j h1 h2 H locs ls hI hl
      have hle := cwN_le (C k) j
      refine lv_iload_n hx hb dX4_numberThatCannotBeWound_4 rfl (lv_at hl 0 rfl) ?_
      refine lv_aload_n hx hb dX4_numberThatCannotBeWound_5 rfl (lv_at hl 2 rfl) ?_
      refine c_get hx hb hts hown hK hI (11 + 20 * k) (by omega) cE_st rfl hinX4 3 (by decide) (hts (.fieldLink RX4 34 "WinderLadders$State" "clockCount" "I") (by decide +kernel)) (v := .int (nI (cn (C k)))) (congrArg (fun z => some (Value.int z)) hW.1) dX4_numberThatCannotBeWound_6 ?_
      refine lv_icmp_ge (tgt := 34) hx hb dX4_numberThatCannotBeWound_9 (by decide) (fun c1 => ?_) (fun c1 => ?_)
      · skip
        have nc1 : cn (C k) ≤ j := (nI_leI (a := cn (C k)) (b := j) (by omega) (by omega)).mp c1
        refine lv_iload_n hx hb dX4_numberThatCannotBeWound_34 rfl (lv_at hl 1 rfl) ?_
        exact c_iret (v := nI (cwN (C k) j)) hx hb hr hI (⟨by rw [show cn (C k) = j by omega], rfl, rfl⟩) dX4_numberThatCannotBeWound_35 hlocks
      · skip
        have nc1 : ¬ (cn (C k) ≤ j) := fun h => c1 ((nI_leI (a := cn (C k)) (b := j) (by omega) (by omega)).mpr h)
        refine lv_aload_n hx hb dX4_numberThatCannotBeWound_12 rfl (lv_at hl 2 rfl) ?_
        refine lv_aload_n hx hb dX4_numberThatCannotBeWound_13 rfl (lv_at hl 2 rfl) ?_
        refine c_get hx hb hts hown hK hI (11 + 20 * k) (by omega) cE_st rfl hinX4 1 (by decide) (hts (.fieldLink RX4 17 "WinderLadders$State" "clocks" "[LWinderLadders$Clock;") (by decide +kernel)) (v := .ref (ad (13 + 20 * k))) rfl dX4_numberThatCannotBeWound_14 ?_
        refine lv_iload_n hx hb dX4_numberThatCannotBeWound_17 rfl (lv_at hl 0 rfl) ?_
        refine c_aldC hx hb hK hI k (by omega) (j) (by omega) rfl dX4_numberThatCannotBeWound_18 ?_
        refine c_calli (As := [.ref (ad (15 + 20 * k + j))]) (rest := []) hx hb hml hown hts hK hX hI (11 + 20 * k) (by omega) cE_st rfl (k_X4_canBeWound l dd g ad pi A hA C k (by omega) j (by omega) hW hLd) (cwV 1 hts gX4_numberThatCannotBeWound_X4_canBeWound rfl rfl rfl (by decide +kernel) ⟨Nat.le_of_ble_eq_true rfl, Nat.le_of_ble_eq_true rfl⟩) rfl hl (Nat.le_of_ble_eq_true rfl) ⟨Nat.zero_le _, Nat.zero_le _⟩ dX4_numberThatCannotBeWound_19 rfl (fun r C1 pi1 H locs h3 hI => ?_)
        obtain ⟨h3, hc9, hp9⟩ := h3
        rw [hc9, hp9] at hI
        rcases h3 with ⟨b2, rfl⟩ | ⟨b2, rfl⟩
        · skip
          have b2 : canW (C k) j = true := b2
          refine lv_if_ne (tgt := 28) hx hb dX4_numberThatCannotBeWound_22 (by decide) (fun _ => ?_) (fun c4 => absurd c4 (by decide))
          refine lv_iinc (v := nI (j + 1)) (lv' := [(2, .int (nI (j + 1))), (1, .int (nI (cwN (C k) j))), (0, .ref (ad (11 + 20 * k)))]) hx hb dX4_numberThatCannotBeWound_28 hl (k := 0) rfl (by rw [show Int32.ofInt 1 = nI 1 from rfl, nI_add]) (by decide) rfl (fun ls hl => ?_)
          refine lv_goto (tgt := 4) hx hb dX4_numberThatCannotBeWound_31 (by decide) ?_
          exact ih (j + 1) (by omega) (by omega) _ _ _ hI (by rw [show cwN (C k) (j + 1) = cwN (C k) j by simp only [cwN, if_neg c1, if_neg nc1, if_pos b2]]; exact (lv_sub hl [0, 1, 2] rfl))
        · skip
          have b2 : canW (C k) j = false := b2
          refine lv_if_ne (tgt := 28) hx hb dX4_numberThatCannotBeWound_22 (by decide) (fun c5 => absurd (by decide) c5) (fun _ => ?_)
          refine lv_iinc (v := nI (cwN (C k) j + 1)) (lv' := [(1, .int (nI (cwN (C k) j + 1))), (2, .int (nI j)), (0, .ref (ad (11 + 20 * k)))]) hx hb dX4_numberThatCannotBeWound_25 hl (k := 1) rfl (by rw [show Int32.ofInt 1 = nI 1 from rfl, nI_add]) (by decide) rfl (fun ls hl => ?_)
          refine lv_iinc (v := nI (j + 1)) (lv' := [(2, .int (nI (j + 1))), (1, .int (nI (cwN (C k) j + 1))), (0, .ref (ad (11 + 20 * k)))]) hx hb dX4_numberThatCannotBeWound_28 hl (k := 1) rfl (by rw [show Int32.ofInt 1 = nI 1 from rfl, nI_add]) (by decide) rfl (fun ls hl => ?_)
          refine lv_goto (tgt := 4) hx hb dX4_numberThatCannotBeWound_31 (by decide) ?_
          exact ih (j + 1) (by omega) (by omega) _ _ _ hI (by rw [show cwN (C k) (j + 1) = cwN (C k) j + 1 by simp only [cwN, if_neg c1, if_neg nc1, if_neg (Bool.eq_false_iff.mp b2)]]; exact (lv_sub hl [0, 1, 2] rfl))
  exact L4 17 0 (by omega) (by omega) _ _ _ hI (lv_sub hl [0, 1, 2] rfl)

set_option maxHeartbeats 4000000 in
set_option maxRecDepth 100000 in
theorem k_X4_timesWoundInAll (l : Launch) (dd : va_G) (g : Nat → ClassId) (ad pi : Nat → Nat) (A : Nat → Prop) (hA : cA A ad) (C : MS) (k : Nat) (hk : k < 10) (hW : Wk (C k))  : Met l yX4_timesWoundInAll wsX4_timesWoundInAll ({ frames := 0, cells := 0, slots := 0, locals := 0 }) (cPre dd g ad pi A C [.ref (ad (11 + 20 * k))]) (cQi dd g ad A (fun r C1 pi1 => r = twN (C k) (cn (C k)) ∧ C1 = C ∧ pi1 = pi)) 0 0 A := by
  refine Met.ofW (cc := cX4_timesWoundInAll) (maxL := 3) (ret := (some .int)) (by decide) rfl ?_
  intro p e s m args below meth c s₁ B hml hv
  obtain ⟨rfl, hP0, hK, hX⟩ := hv
  have hx := B.exec
  have hb := B.bytes
  have hr := B.returns
  have hts := atoms_spec (ws := wsX4_timesWoundInAll) B.pre
  have hown : s.vm.findClass RX4 = some m.cls := findClass_of_methodNamed B.named
  have hlocks := B.notSynchronized
  have hinX0 : ∀ w ∈ wsX00, w ∈ wsX4_timesWoundInAll := by decide +kernel
  have hinX4 : ∀ w ∈ wsX40, w ∈ wsX4_timesWoundInAll := by decide +kernel
  have hI : cI dd g ad pi A s.heap s.heap [] C := ⟨hP0, va_S.rf⟩
  have hl := lv_entry ([.ref (ad (11 + 20 * k))]) (n := 3) (Nat.le_of_ble_eq_true rfl)
  rw [lg_entry_eq]
  generalize (lg_sl ([.ref (ad (11 + 20 * k))]) ++ List.replicate (3 - (lg_sl ([.ref (ad (11 + 20 * k))])).length) Slot.unset).toArray = ls at hl ⊢
  have hl : lv_has ls 3 [(0, .ref (ad (11 + 20 * k)))] := hl
  have hc16 := hW.2.1
  have hl4 := hW.2.2.2
  refine lv_iconst (v := 0) hx hb dX4_timesWoundInAll_0 (by decide) ?_
  refine lv_istore_n (lv' := [(1, .int 0), (0, .ref (ad (11 + 20 * k)))]) hx hb dX4_timesWoundInAll_1 rfl hl (by decide) rfl (fun ls hl => ?_)
  refine lv_iconst (v := 0) hx hb dX4_timesWoundInAll_2 (by decide) ?_
  refine lv_istore_n (lv' := [(2, .int 0), (1, .int 0), (0, .ref (ad (11 + 20 * k)))]) hx hb dX4_timesWoundInAll_3 rfl hl (by decide) rfl (fun ls hl => ?_)
  have L4 : ∀ (fuel : Nat) (j : Nat) (z : Int32) (h1 : j ≤ cn (C k)) (h2 : cn (C k) < fuel + j) (hz : z = twN (C k) j) (H : Heap) (locs : List Loc) (ls : Array Slot), cI dd g ad pi A s.heap H locs C → lv_has ls 3 [(2, .int (nI j)), (1, .int z), (0, .ref (ad (11 + 20 * k)))] → wk p l e wsX4_timesWoundInAll { frames := 0, cells := 0, slots := 0, locals := 0 } s m [.ref (ad (11 + 20 * k))] below meth c H locs (cQi dd g ad A (fun r C1 pi1 => r = twN (C k) (cn (C k)) ∧ C1 = C ∧ pi1 = pi)) (A) (F0 m 4 ls []) := by
    intro fuel
    induction fuel with
    | zero =>
      intro j z h1 h2 hz H locs ls hI hl
      exact absurd h2 (by omega)
    | succ fuel ih =>
      intro j z h1 h2 hz H locs ls hI hl
      refine lv_iload_n hx hb dX4_timesWoundInAll_4 rfl (lv_at hl 0 rfl) ?_
      refine lv_aload_n hx hb dX4_timesWoundInAll_5 rfl (lv_at hl 2 rfl) ?_
      refine c_get hx hb hts hown hK hI (11 + 20 * k) (by omega) cE_st rfl hinX4 3 (by decide) (hts (.fieldLink RX4 34 "WinderLadders$State" "clockCount" "I") (by decide +kernel)) (v := .int (nI (cn (C k)))) (congrArg (fun z => some (Value.int z)) hW.1) dX4_timesWoundInAll_6 ?_
      refine lv_icmp_ge (tgt := 30) hx hb dX4_timesWoundInAll_9 (by decide) (fun c1 => ?_) (fun c1 => ?_)
      · skip
        have nc1 : cn (C k) ≤ j := (nI_leI (a := cn (C k)) (b := j) (by omega) (by omega)).mp c1
        refine lv_iload_n hx hb dX4_timesWoundInAll_30 rfl (lv_at hl 1 rfl) ?_
        exact c_iret (v := z) hx hb hr hI (⟨by rw [hz, show cn (C k) = j by omega], rfl, rfl⟩) dX4_timesWoundInAll_31 hlocks
      · skip
        have nc1 : ¬ (cn (C k) ≤ j) := fun h => c1 ((nI_leI (a := cn (C k)) (b := j) (by omega) (by omega)).mpr h)
        refine lv_iload_n hx hb dX4_timesWoundInAll_12 rfl (lv_at hl 1 rfl) ?_
        refine lv_aload_n hx hb dX4_timesWoundInAll_13 rfl (lv_at hl 2 rfl) ?_
        refine c_get hx hb hts hown hK hI (11 + 20 * k) (by omega) cE_st rfl hinX4 1 (by decide) (hts (.fieldLink RX4 17 "WinderLadders$State" "clocks" "[LWinderLadders$Clock;") (by decide +kernel)) (v := .ref (ad (13 + 20 * k))) rfl dX4_timesWoundInAll_14 ?_
        refine lv_iload_n hx hb dX4_timesWoundInAll_17 rfl (lv_at hl 0 rfl) ?_
        refine c_aldC hx hb hK hI k (by omega) (j) (by omega) rfl dX4_timesWoundInAll_18 ?_
        refine c_get hx hb hts hown hK hI (15 + 20 * k + j) (by omega) (cE_cl (by omega)) rfl hinX0 6 (by decide) (hts (.fieldLink RX4 122 "WinderLadders$Clock" "timesWound" "I") (by decide +kernel)) (v := .int (C k (12 + 8 * j + 7))) rfl dX4_timesWoundInAll_19 ?_
        refine lv_iadd hx hb dX4_timesWoundInAll_22 ?_
        refine lv_istore_n (lv' := [(1, .int (z + (C k (12 + 8 * j + 7)))), (2, .int (nI j)), (0, .ref (ad (11 + 20 * k)))]) hx hb dX4_timesWoundInAll_23 rfl hl (by decide) rfl (fun ls hl => ?_)
        refine lv_iinc (v := nI (j + 1)) (lv' := [(2, .int (nI (j + 1))), (1, .int (z + (C k (12 + 8 * j + 7)))), (0, .ref (ad (11 + 20 * k)))]) hx hb dX4_timesWoundInAll_24 hl (k := 1) rfl (by rw [show Int32.ofInt 1 = nI 1 from rfl, nI_add]) (by decide) rfl (fun ls hl => ?_)
        refine lv_goto (tgt := 4) hx hb dX4_timesWoundInAll_27 (by decide) ?_
        exact ih (j + 1) (z + (C k (12 + 8 * j + 7))) (by omega) (by omega) (by rw [hz]; simp only [twN, if_neg c1, if_neg nc1]) _ _ _ hI (lv_sub hl [0, 1, 2] rfl)
  exact L4 17 0 0 (by omega) (by omega) rfl _ _ _ hI (lv_sub hl [0, 1, 2] rfl)

set_option maxHeartbeats 4000000 in
set_option maxRecDepth 100000 in
theorem k_X4_rungsOutOfReach (l : Launch) (dd : va_G) (g : Nat → ClassId) (ad pi : Nat → Nat) (A : Nat → Prop) (hA : cA A ad) (C : MS) (k : Nat) (hk : k < 10) (hW : Wk (C k)) (hLd : Lad (C k))  : Met l yX4_rungsOutOfReach wsX4_rungsOutOfReach ({ frames := 2, cells := 0, slots := 0, locals := 45 }) (cPre dd g ad pi A C [.ref (ad (11 + 20 * k))]) (cQi dd g ad A (fun r C1 pi1 => r = ruN (C k) (cn (C k)) ∧ C1 = C ∧ pi1 = pi)) 0 0 A := by
  refine Met.ofW (cc := cX4_rungsOutOfReach) (maxL := 3) (ret := (some .int)) (by decide) rfl ?_
  intro p e s m args below meth c s₁ B hml hv
  obtain ⟨rfl, hP0, hK, hX⟩ := hv
  have hx := B.exec
  have hb := B.bytes
  have hr := B.returns
  have hts := atoms_spec (ws := wsX4_rungsOutOfReach) B.pre
  have hown : s.vm.findClass RX4 = some m.cls := findClass_of_methodNamed B.named
  have hlocks := B.notSynchronized
  have hinX0 : ∀ w ∈ wsX00, w ∈ wsX4_rungsOutOfReach := by decide +kernel
  have hinX4 : ∀ w ∈ wsX40, w ∈ wsX4_rungsOutOfReach := by decide +kernel
  have hI : cI dd g ad pi A s.heap s.heap [] C := ⟨hP0, va_S.rf⟩
  have hl := lv_entry ([.ref (ad (11 + 20 * k))]) (n := 3) (Nat.le_of_ble_eq_true rfl)
  rw [lg_entry_eq]
  generalize (lg_sl ([.ref (ad (11 + 20 * k))]) ++ List.replicate (3 - (lg_sl ([.ref (ad (11 + 20 * k))])).length) Slot.unset).toArray = ls at hl ⊢
  have hl : lv_has ls 3 [(0, .ref (ad (11 + 20 * k)))] := hl
  have hc16 := hW.2.1
  have hl4 := hW.2.2.2
  refine lv_iconst (v := 0) hx hb dX4_rungsOutOfReach_0 (by decide) ?_
  refine lv_istore_n (lv' := [(1, .int 0), (0, .ref (ad (11 + 20 * k)))]) hx hb dX4_rungsOutOfReach_1 rfl hl (by decide) rfl (fun ls hl => ?_)
  refine lv_iconst (v := 0) hx hb dX4_rungsOutOfReach_2 (by decide) ?_
  refine lv_istore_n (lv' := [(2, .int 0), (1, .int 0), (0, .ref (ad (11 + 20 * k)))]) hx hb dX4_rungsOutOfReach_3 rfl hl (by decide) rfl (fun ls hl => ?_)
  have L4 : ∀ (fuel : Nat) (j : Nat) (z : Int32) (h1 : j ≤ cn (C k)) (h2 : cn (C k) < fuel + j) (hz : z = ruN (C k) j) (H : Heap) (locs : List Loc) (ls : Array Slot), cI dd g ad pi A s.heap H locs C → lv_has ls 3 [(2, .int (nI j)), (1, .int z), (0, .ref (ad (11 + 20 * k)))] → wk p l e wsX4_rungsOutOfReach { frames := 2, cells := 0, slots := 0, locals := 45 } s m [.ref (ad (11 + 20 * k))] below meth c H locs (cQi dd g ad A (fun r C1 pi1 => r = ruN (C k) (cn (C k)) ∧ C1 = C ∧ pi1 = pi)) (A) (F0 m 4 ls []) := by
    intro fuel
    induction fuel with
    | zero =>
      intro j z h1 h2 hz H locs ls hI hl
      exact absurd h2 (by omega)
    | succ fuel ih =>
      intro j z h1 h2 hz H locs ls hI hl
      refine lv_iload_n hx hb dX4_rungsOutOfReach_4 rfl (lv_at hl 0 rfl) ?_
      refine lv_aload_n hx hb dX4_rungsOutOfReach_5 rfl (lv_at hl 2 rfl) ?_
      refine c_get hx hb hts hown hK hI (11 + 20 * k) (by omega) cE_st rfl hinX4 3 (by decide) (hts (.fieldLink RX4 34 "WinderLadders$State" "clockCount" "I") (by decide +kernel)) (v := .int (nI (cn (C k)))) (congrArg (fun z => some (Value.int z)) hW.1) dX4_rungsOutOfReach_6 ?_
      refine lv_icmp_ge (tgt := 45) hx hb dX4_rungsOutOfReach_9 (by decide) (fun c1 => ?_) (fun c1 => ?_)
      · skip
        have nc1 : cn (C k) ≤ j := (nI_leI (a := cn (C k)) (b := j) (by omega) (by omega)).mp c1
        refine lv_iload_n hx hb dX4_rungsOutOfReach_45 rfl (lv_at hl 1 rfl) ?_
        exact c_iret (v := z) hx hb hr hI (⟨by rw [hz, show cn (C k) = j by omega], rfl, rfl⟩) dX4_rungsOutOfReach_46 hlocks
      · skip
        have nc1 : ¬ (cn (C k) ≤ j) := fun h => c1 ((nI_leI (a := cn (C k)) (b := j) (by omega) (by omega)).mpr h)
        refine lv_aload_n hx hb dX4_rungsOutOfReach_12 rfl (lv_at hl 2 rfl) ?_
        refine lv_aload_n hx hb dX4_rungsOutOfReach_13 rfl (lv_at hl 2 rfl) ?_
        refine c_get hx hb hts hown hK hI (11 + 20 * k) (by omega) cE_st rfl hinX4 1 (by decide) (hts (.fieldLink RX4 17 "WinderLadders$State" "clocks" "[LWinderLadders$Clock;") (by decide +kernel)) (v := .ref (ad (13 + 20 * k))) rfl dX4_rungsOutOfReach_14 ?_
        refine lv_iload_n hx hb dX4_rungsOutOfReach_17 rfl (lv_at hl 0 rfl) ?_
        refine c_aldC hx hb hK hI k (by omega) (j) (by omega) rfl dX4_rungsOutOfReach_18 ?_
        refine c_calli (As := [.ref (ad (15 + 20 * k + j))]) (rest := []) hx hb hml hown hts hK hX hI (11 + 20 * k) (by omega) cE_st rfl (k_X4_canBeWound l dd g ad pi A hA C k (by omega) j (by omega) hW hLd) (cwV 1 hts gX4_rungsOutOfReach_X4_canBeWound rfl rfl rfl (by decide +kernel) ⟨Nat.le_of_ble_eq_true rfl, Nat.le_of_ble_eq_true rfl⟩) rfl hl (Nat.le_of_ble_eq_true rfl) ⟨Nat.zero_le _, Nat.zero_le _⟩ dX4_rungsOutOfReach_19 rfl (fun r C1 pi1 H locs h3 hI => ?_)
        obtain ⟨h3, hc9, hp9⟩ := h3
        rw [hc9, hp9] at hI
        rcases h3 with ⟨b2, rfl⟩ | ⟨b2, rfl⟩
        · skip
          have b2 : canW (C k) j = true := b2
          refine lv_if_ne (tgt := 39) hx hb dX4_rungsOutOfReach_22 (by decide) (fun _ => ?_) (fun c4 => absurd c4 (by decide))
          refine lv_iinc (v := nI (j + 1)) (lv' := [(2, .int (nI (j + 1))), (1, .int z), (0, .ref (ad (11 + 20 * k)))]) hx hb dX4_rungsOutOfReach_39 hl (k := 0) rfl (by rw [show Int32.ofInt 1 = nI 1 from rfl, nI_add]) (by decide) rfl (fun ls hl => ?_)
          refine lv_goto (tgt := 4) hx hb dX4_rungsOutOfReach_42 (by decide) ?_
          exact ih (j + 1) (z) (by omega) (by omega) (by rw [hz]; simp only [ruN, if_neg c1, if_neg nc1, if_pos b2]) _ _ _ hI (lv_sub hl [0, 1, 2] rfl)
        · skip
          have b2 : canW (C k) j = false := b2
          refine lv_if_ne (tgt := 39) hx hb dX4_rungsOutOfReach_22 (by decide) (fun c5 => absurd (by decide) c5) (fun _ => ?_)
          refine lv_iload_n hx hb dX4_rungsOutOfReach_25 rfl (lv_at hl 1 rfl) ?_
          refine lv_aload_n hx hb dX4_rungsOutOfReach_26 rfl (lv_at hl 2 rfl) ?_
          refine c_get hx hb hts hown hK hI (11 + 20 * k) (by omega) cE_st rfl hinX4 1 (by decide) (hts (.fieldLink RX4 17 "WinderLadders$State" "clocks" "[LWinderLadders$Clock;") (by decide +kernel)) (v := .ref (ad (13 + 20 * k))) rfl dX4_rungsOutOfReach_27 ?_
          refine lv_iload_n hx hb dX4_rungsOutOfReach_30 rfl (lv_at hl 0 rfl) ?_
          refine c_aldC hx hb hK hI k (by omega) (j) (by omega) rfl dX4_rungsOutOfReach_31 ?_
          refine c_get hx hb hts hown hK hI (15 + 20 * k + j) (by omega) (cE_cl (by omega)) rfl hinX0 1 (by decide) (hts (.fieldLink RX4 116 "WinderLadders$Clock" "rungs" "I") (by decide +kernel)) (v := .int (C k (12 + 8 * j + 1))) rfl dX4_rungsOutOfReach_32 ?_
          refine va_mmax hx hb (hml.trans hl.1.symm) hown (hts (.methodLink RX4 125 Lib.Math.max.name) (by decide +kernel)) (hts (.static Lib.Math.max.name) (by decide +kernel)) (hts (.initialized "java/lang/Math") (by decide +kernel)) (hts (.code Lib.Math.max.name Lib.Math.max.code 2 (some .int)) (by decide +kernel)) (Nat.le_of_ble_eq_true rfl) (Nat.le_of_ble_eq_true rfl) (Nat.zero_le _) (Nat.zero_le _) dX4_rungsOutOfReach_35 ?_
          refine lv_re (y := jmax z (C k (12 + 8 * j + 1))) rfl ?_
          refine lv_istore_n (lv' := [(1, .int (jmax z (C k (12 + 8 * j + 1)))), (2, .int (nI j)), (0, .ref (ad (11 + 20 * k)))]) hx hb dX4_rungsOutOfReach_38 rfl hl (by decide) rfl (fun ls hl => ?_)
          refine lv_iinc (v := nI (j + 1)) (lv' := [(2, .int (nI (j + 1))), (1, .int (jmax z (C k (12 + 8 * j + 1)))), (0, .ref (ad (11 + 20 * k)))]) hx hb dX4_rungsOutOfReach_39 hl (k := 1) rfl (by rw [show Int32.ofInt 1 = nI 1 from rfl, nI_add]) (by decide) rfl (fun ls hl => ?_)
          refine lv_goto (tgt := 4) hx hb dX4_rungsOutOfReach_42 (by decide) ?_
          exact ih (j + 1) (jmax z (C k (12 + 8 * j + 1))) (by omega) (by omega) (by rw [hz]; simp only [ruN, if_neg c1, if_neg nc1, if_neg (Bool.eq_false_iff.mp b2)]) _ _ _ hI (lv_sub hl [0, 1, 2] rfl)
  exact L4 17 0 0 (by omega) (by omega) rfl _ _ _ hI (lv_sub hl [0, 1, 2] rfl)

set_option maxHeartbeats 4000000 in
set_option maxRecDepth 100000 in
theorem k_X4_daysUntilOff (l : Launch) (dd : va_G) (g : Nat → ClassId) (ad pi : Nat → Nat) (A : Nat → Prop) (hA : cA A ad) (C : MS) (k : Nat) (hk : k < 10) (x : Int32) (hW : Wk (C k)) (hTm : Tm (C k))  : Met l yX4_daysUntilOff wsX4_daysUntilOff ({ frames := 3, cells := 0, slots := 0, locals := 69 }) (cPre dd g ad pi A C [.ref (ad (11 + 20 * k)), .int x]) (cQi dd g ad A (fun r C1 pi1 => r = (if isCb (C k) x = true then nI (duS (C k) (ix x)) else -1) ∧ C1 = C ∧ pi1 = pi)) 0 0 A := by
  refine Met.ofW (cc := cX4_daysUntilOff) (maxL := 2) (ret := (some .int)) (by decide) rfl ?_
  intro p e s m args below meth c s₁ B hml hv
  obtain ⟨rfl, hP0, hK, hX⟩ := hv
  have hx := B.exec
  have hb := B.bytes
  have hr := B.returns
  have hts := atoms_spec (ws := wsX4_daysUntilOff) B.pre
  have hown : s.vm.findClass RX4 = some m.cls := findClass_of_methodNamed B.named
  have hlocks := B.notSynchronized
  have hinX4 : ∀ w ∈ wsX40, w ∈ wsX4_daysUntilOff := by decide +kernel
  have hI : cI dd g ad pi A s.heap s.heap [] C := ⟨hP0, va_S.rf⟩
  have hl := lv_entry ([.ref (ad (11 + 20 * k)), .int x]) (n := 2) (Nat.le_of_ble_eq_true rfl)
  rw [lg_entry_eq]
  generalize (lg_sl ([.ref (ad (11 + 20 * k)), .int x]) ++ List.replicate (2 - (lg_sl ([.ref (ad (11 + 20 * k)), .int x])).length) Slot.unset).toArray = ls at hl ⊢
  have hl : lv_has ls 2 [(0, .ref (ad (11 + 20 * k))), (1, .int x)] := hl
  have hc16 := hW.2.1
  have hl4 := hW.2.2.2
  obtain ⟨hT1, hT2⟩ := hTm
  refine lv_aload_n hx hb dX4_daysUntilOff_0 rfl (lv_at hl 0 rfl) ?_
  refine lv_iload_n hx hb dX4_daysUntilOff_1 rfl (lv_at hl 1 rfl) ?_
  refine c_calli (As := [.int x]) (rest := []) hx hb hml hown hts hK hX hI (11 + 20 * k) (by omega) cE_st rfl (k_X4_hasClock l dd g ad pi A hA C k (by omega) x hW) (cwV 1 hts gX4_daysUntilOff_X4_hasClock rfl rfl rfl (by decide +kernel) ⟨Nat.le_of_ble_eq_true rfl, Nat.le_of_ble_eq_true rfl⟩) rfl hl (Nat.le_of_ble_eq_true rfl) ⟨Nat.zero_le _, Nat.zero_le _⟩ dX4_daysUntilOff_2 rfl (fun r C1 pi1 H locs h2 hI => ?_)
  obtain ⟨h2, hc9, hp9⟩ := h2
  rw [hc9, hp9] at hI
  rcases h2 with ⟨⟨i1, hi_i1, e_i1⟩, rfl⟩ | ⟨b_i1, rfl⟩
  · skip
    have b_i1 : isCb (C k) x = true := isCb_t hW ⟨hi_i1, e_i1⟩
    have x_i1 : ix x = i1 := by rw [e_i1]; exact ix_nI (by omega)
    subst e_i1
    refine lv_if_eq (tgt := 32) hx hb dX4_daysUntilOff_5 (by decide) (fun c3 => absurd c3 (by decide)) (fun _ => ?_)
    refine lv_aload_n hx hb dX4_daysUntilOff_8 rfl (lv_at hl 0 rfl) ?_
    refine c_get hx hb hts hown hK hI (11 + 20 * k) (by omega) cE_st rfl hinX4 1 (by decide) (hts (.fieldLink RX4 17 "WinderLadders$State" "clocks" "[LWinderLadders$Clock;") (by decide +kernel)) (v := .ref (ad (13 + 20 * k))) rfl dX4_daysUntilOff_9 ?_
    refine lv_iload_n hx hb dX4_daysUntilOff_12 rfl (lv_at hl 1 rfl) ?_
    refine c_aldC hx hb hK hI k (by omega) (i1) (by omega) rfl dX4_daysUntilOff_13 ?_
    refine lv_aload_n hx hb dX4_daysUntilOff_14 rfl (lv_at hl 0 rfl) ?_
    refine c_get hx hb hts hown hK hI (11 + 20 * k) (by omega) cE_st rfl hinX4 0 (by decide) (hts (.fieldLink RX4 9 "WinderLadders$State" "settings" "[I") (by decide +kernel)) (v := .ref (ad (12 + 20 * k))) rfl dX4_daysUntilOff_15 ?_
    refine lv_iconst (v := 0) hx hb dX4_daysUntilOff_18 (by decide) ?_
    refine c_ald hx hb hK hI (12 + 20 * k) (by omega) cE_se (by decide) (0) (by omega) rfl (v := C k 0) ((if_pos (show (0) < 4 by omega)).trans rfl) dX4_daysUntilOff_19 ?_
    refine lv_aload_n hx hb dX4_daysUntilOff_20 rfl (lv_at hl 0 rfl) ?_
    refine c_get hx hb hts hown hK hI (11 + 20 * k) (by omega) cE_st rfl hinX4 0 (by decide) (hts (.fieldLink RX4 9 "WinderLadders$State" "settings" "[I") (by decide +kernel)) (v := .ref (ad (12 + 20 * k))) rfl dX4_daysUntilOff_21 ?_
    refine lv_iconst (v := 1) hx hb dX4_daysUntilOff_24 (by decide) ?_
    refine c_ald hx hb hK hI (12 + 20 * k) (by omega) cE_se (by decide) (1) (by omega) rfl (v := nI (ix (C k 1))) ((if_pos (show (1) < 4 by omega)).trans hT1.1) dX4_daysUntilOff_25 ?_
    refine c_calli (As := [.int (C k 0), .int (nI (ix (C k 1)))]) (rest := []) hx hb hml hown hts hK hX hI (15 + 20 * k + i1) (by omega) (cE_cl (by omega)) rfl (k_X0_daysUntilOff l dd g ad pi A hA C k i1 (by omega) (by omega) (C k 0) (ix (C k 1)) (ix (C k (12 + 8 * i1 + 5))) hT1.2 (hT2 i1 (by omega)).2 (hT2 i1 (by omega)).1) (cwV 2 hts gX4_daysUntilOff_X0_daysUntilOff rfl rfl rfl (by decide +kernel) ⟨Nat.le_of_ble_eq_true rfl, Nat.le_of_ble_eq_true rfl⟩) rfl hl (Nat.le_of_ble_eq_true rfl) ⟨Nat.zero_le _, Nat.zero_le _⟩ dX4_daysUntilOff_26 rfl (fun r C1 pi1 H locs h4 hI => ?_)
    obtain ⟨hr9, hc9, hp9⟩ := h4
    rw [hc9, hp9] at hI
    subst hr9
    refine lv_goto (tgt := 33) hx hb dX4_daysUntilOff_29 (by decide) ?_
    exact c_iret (v := nI (duS (C k) i1)) hx hb hr hI (⟨by simp only [x_i1, if_pos b_i1], rfl, rfl⟩) dX4_daysUntilOff_33 hlocks
  · skip
    have b_i1 := isCb_f hW b_i1
    refine lv_if_eq (tgt := 32) hx hb dX4_daysUntilOff_5 (by decide) (fun _ => ?_) (fun c5 => absurd (by decide) c5)
    refine lv_iconst (v := (-1)) hx hb dX4_daysUntilOff_32 (by decide) ?_
    exact c_iret (v := (-1)) hx hb hr hI (⟨by simp only [if_neg (Bool.eq_false_iff.mp b_i1)], rfl, rfl⟩) dX4_daysUntilOff_33 hlocks

set_option maxHeartbeats 4000000 in
set_option maxRecDepth 100000 in
theorem k_X4_tellDaysUntilOff (l : Launch) (dd : va_G) (g : Nat → ClassId) (ad pi : Nat → Nat) (A : Nat → Prop) (hA : cA A ad) (C : MS) (k : Nat) (hk : k < 10) (hW : Wk (C k)) (hTm : Tm (C k))  : Met l yX4_tellDaysUntilOff wsX4_tellDaysUntilOff ({ frames := 4, cells := 0, slots := 0, locals := 90 }) (cPre dd g ad pi A C [.ref (ad (11 + 20 * k)), .ref (ad 211)]) (cQv dd g ad A (fun C1 pi1 => C1 = mrow C 15 (lasW (C k) (C 15) (cn (C k))) ∧ pi1 = pi)) 0 0 A := by
  refine Met.ofW (cc := cX4_tellDaysUntilOff) (maxL := 3) (ret := none) (by decide) rfl ?_
  intro p e s m args below meth c s₁ B hml hv
  obtain ⟨rfl, hP0, hK, hX⟩ := hv
  have hx := B.exec
  have hb := B.bytes
  have hr := B.returns
  have hts := atoms_spec (ws := wsX4_tellDaysUntilOff) B.pre
  have hown : s.vm.findClass RX4 = some m.cls := findClass_of_methodNamed B.named
  have hlocks := B.notSynchronized
  have hinX4 : ∀ w ∈ wsX40, w ∈ wsX4_tellDaysUntilOff := by decide +kernel
  have hI : cI dd g ad pi A s.heap s.heap [] C := ⟨hP0, va_S.rf⟩
  have hl := lv_entry ([.ref (ad (11 + 20 * k)), .ref (ad 211)]) (n := 3) (Nat.le_of_ble_eq_true rfl)
  rw [lg_entry_eq]
  generalize (lg_sl ([.ref (ad (11 + 20 * k)), .ref (ad 211)]) ++ List.replicate (3 - (lg_sl ([.ref (ad (11 + 20 * k)), .ref (ad 211)])).length) Slot.unset).toArray = ls at hl ⊢
  have hl : lv_has ls 3 [(0, .ref (ad (11 + 20 * k))), (1, .ref (ad 211))] := hl
  have hc16 := hW.2.1
  have hl4 := hW.2.2.2
  refine lv_iconst (v := 0) hx hb dX4_tellDaysUntilOff_0 (by decide) ?_
  refine lv_istore_n (lv' := [(2, .int 0), (0, .ref (ad (11 + 20 * k))), (1, .ref (ad 211))]) hx hb dX4_tellDaysUntilOff_1 rfl hl (by decide) rfl (fun ls hl => ?_)
  have L2 : ∀ (fuel : Nat) (j : Nat) (h1 : j ≤ cn (C k)) (h2 : cn (C k) < fuel + j) (H : Heap) (locs : List Loc) (ls : Array Slot), cI dd g ad pi A s.heap H locs (mrow C 15 (lasW (C k) (C 15) j)) → lv_has ls 3 [(2, .int (nI j)), (0, .ref (ad (11 + 20 * k))), (1, .ref (ad 211))] → wk p l e wsX4_tellDaysUntilOff { frames := 4, cells := 0, slots := 0, locals := 90 } s m [.ref (ad (11 + 20 * k)), .ref (ad 211)] below meth c H locs (cQv dd g ad A (fun C1 pi1 => C1 = mrow C 15 (lasW (C k) (C 15) (cn (C k))) ∧ pi1 = pi)) (A) (F0 m 2 ls []) := by
    intro fuel
    induction fuel with
    | zero =>
      intro j h1 h2 H locs ls hI hl
      exact absurd h2 (by omega)
    | succ fuel ih =>
      intro j h1 h2 H locs ls hI hl
      refine lv_iload_n hx hb dX4_tellDaysUntilOff_2 rfl (lv_at hl 0 rfl) ?_
      refine lv_aload_n hx hb dX4_tellDaysUntilOff_3 rfl (lv_at hl 1 rfl) ?_
      refine c_get hx hb hts hown hK hI (11 + 20 * k) (by omega) cE_st rfl hinX4 3 (by decide) (hts (.fieldLink RX4 34 "WinderLadders$State" "clockCount" "I") (by decide +kernel)) (v := .int (nI (cn (C k)))) (congrArg (fun z => some (Value.int z)) (((congrFun (mrow_n C (k := 15) (a := k) (by omega) _) _).trans hW.1))) dX4_tellDaysUntilOff_4 ?_
      refine lv_icmp_ge (tgt := 30) hx hb dX4_tellDaysUntilOff_7 (by decide) (fun c1 => ?_) (fun c1 => ?_)
      · skip
        have nc1 : cn (C k) ≤ j := (nI_leI (a := cn (C k)) (b := j) (by omega) (by omega)).mp c1
        exact c_vret hx hb hr hI (⟨by rw [show cn (C k) = j by omega], rfl⟩) dX4_tellDaysUntilOff_30 hlocks
      · skip
        have nc1 : ¬ (cn (C k) ≤ j) := fun h => c1 ((nI_leI (a := cn (C k)) (b := j) (by omega) (by omega)).mpr h)
        refine lv_iload_n hx hb dX4_tellDaysUntilOff_10 rfl (lv_at hl 0 rfl) ?_
        refine lv_aload_n hx hb dX4_tellDaysUntilOff_11 rfl (lv_at hl 2 rfl) ?_
        refine c_len hx hb hK hI dX4_tellDaysUntilOff_12 ?_
        refine lv_icmp_ge (tgt := 30) hx hb dX4_tellDaysUntilOff_13 (by decide) (fun c2 => ?_) (fun c2 => ?_)
        · skip
          have nc2 : 16 ≤ j := (nI_leI (a := 16) (b := j) (by omega) (by omega)).mp c2
          exact c_vret hx hb hr hI (⟨by rw [show cn (C k) = j by omega], rfl⟩) dX4_tellDaysUntilOff_30 hlocks
        · skip
          have nc2 : ¬ (16 ≤ j) := fun h => c2 ((nI_leI (a := 16) (b := j) (by omega) (by omega)).mpr h)
          refine lv_aload_n hx hb dX4_tellDaysUntilOff_16 rfl (lv_at hl 2 rfl) ?_
          refine lv_iload_n hx hb dX4_tellDaysUntilOff_17 rfl (lv_at hl 0 rfl) ?_
          refine lv_aload_n hx hb dX4_tellDaysUntilOff_18 rfl (lv_at hl 1 rfl) ?_
          refine lv_iload_n hx hb dX4_tellDaysUntilOff_19 rfl (lv_at hl 0 rfl) ?_
          refine c_calli (As := [.int (nI j)]) (rest := [.int (nI j), .ref (ad 211)]) hx hb hml hown hts hK hX hI (11 + 20 * k) (by omega) cE_st rfl (k_X4_daysUntilOff l dd g ad pi A hA (mrow C 15 (lasW (C k) (C 15) j)) k (by omega) (nI j) (by rw [mrow_n C (k := 15) (a := k) (by omega) _]; exact hW) (by rw [mrow_n C (k := 15) (a := k) (by omega) _]; exact hTm)) (cwV 1 hts gX4_tellDaysUntilOff_X4_daysUntilOff rfl rfl rfl (by decide +kernel) ⟨Nat.le_of_ble_eq_true rfl, Nat.le_of_ble_eq_true rfl⟩) rfl hl (Nat.le_of_ble_eq_true rfl) ⟨Nat.zero_le _, Nat.zero_le _⟩ dX4_tellDaysUntilOff_20 rfl (fun r C1 pi1 H locs h3 hI => ?_)
          obtain ⟨hr9, hc9, hp9⟩ := h3
          rw [hc9, hp9] at hI
          rw [mrow_n C (k := 15) (a := k) (by omega) _, if_pos (isCb_t hW ⟨by omega, rfl⟩), ix_nI (by omega)] at hr9
          subst hr9
          refine c_astW hx hb hK hA hI (j) (by omega) rfl dX4_tellDaysUntilOff_23 (fun H locs hI => ?_)
          refine lv_iinc (v := nI (j + 1)) (lv' := [(2, .int (nI (j + 1))), (0, .ref (ad (11 + 20 * k))), (1, .ref (ad 211))]) hx hb dX4_tellDaysUntilOff_24 hl (k := 0) rfl (by rw [show Int32.ofInt 1 = nI 1 from rfl, nI_add]) (by decide) rfl (fun ls hl => ?_)
          refine lv_goto (tgt := 2) hx hb dX4_tellDaysUntilOff_27 (by decide) ?_
          exact ih (j + 1) (by omega) (by omega) _ _ _ (by rw [lasW_set] at hI; exact hI) (lv_sub hl [0, 1, 2] rfl)
  exact L2 17 0 (by omega) (by omega) _ _ _ (by rw [lasW_0]; exact hI) (lv_sub hl [0, 1, 2] rfl)

set_option maxHeartbeats 4000000 in
set_option maxRecDepth 100000 in
theorem k_X4_rankOf (l : Launch) (dd : va_G) (g : Nat → ClassId) (ad pi : Nat → Nat) (A : Nat → Prop) (hA : cA A ad) (C : MS) (k : Nat) (hk : k < 10) (c0 : Nat) (hc0 : c0 < cn (C k)) (hW : Wk (C k)) (hTm : Tm (C k)) (hLa : ∀ j, j < cn (C k) → C 15 j = nI (duS (C k) j))  : Met l yX4_rankOf wsX4_rankOf ({ frames := 1, cells := 0, slots := 0, locals := 21 }) (cPre dd g ad pi A C [.ref (ad (11 + 20 * k)), .int (nI c0), .ref (ad 211)]) (cQi dd g ad A (fun r C1 pi1 => r = nI (raN (C k) c0 (cn (C k))) ∧ C1 = C ∧ pi1 = pi)) 0 0 A := by
  refine Met.ofW (cc := cX4_rankOf) (maxL := 5) (ret := (some .int)) (by decide) rfl ?_
  intro p e s m args below meth c s₁ B hml hv
  obtain ⟨rfl, hP0, hK, hX⟩ := hv
  have hx := B.exec
  have hb := B.bytes
  have hr := B.returns
  have hts := atoms_spec (ws := wsX4_rankOf) B.pre
  have hown : s.vm.findClass RX4 = some m.cls := findClass_of_methodNamed B.named
  have hlocks := B.notSynchronized
  have hinX4 : ∀ w ∈ wsX40, w ∈ wsX4_rankOf := by decide +kernel
  have hI : cI dd g ad pi A s.heap s.heap [] C := ⟨hP0, va_S.rf⟩
  have hl := lv_entry ([.ref (ad (11 + 20 * k)), .int (nI c0), .ref (ad 211)]) (n := 5) (Nat.le_of_ble_eq_true rfl)
  rw [lg_entry_eq]
  generalize (lg_sl ([.ref (ad (11 + 20 * k)), .int (nI c0), .ref (ad 211)]) ++ List.replicate (5 - (lg_sl ([.ref (ad (11 + 20 * k)), .int (nI c0), .ref (ad 211)])).length) Slot.unset).toArray = ls at hl ⊢
  have hl : lv_has ls 5 [(0, .ref (ad (11 + 20 * k))), (1, .int (nI c0)), (2, .ref (ad 211))] := hl
  have hc16 := hW.2.1
  have hl4 := hW.2.2.2
  have hd0 := duS_lt hTm c0
  refine lv_aload_n hx hb dX4_rankOf_0 rfl (lv_at hl 0 rfl) ?_
  refine lv_iload_n hx hb dX4_rankOf_1 rfl (lv_at hl 1 rfl) ?_
  refine c_calli (As := [.int (nI c0)]) (rest := []) hx hb hml hown hts hK hX hI (11 + 20 * k) (by omega) cE_st rfl (k_X4_hasClock l dd g ad pi A hA C k (by omega) (nI c0) hW) (cwV 1 hts gX4_rankOf_X4_hasClock rfl rfl rfl (by decide +kernel) ⟨Nat.le_of_ble_eq_true rfl, Nat.le_of_ble_eq_true rfl⟩) rfl hl (Nat.le_of_ble_eq_true rfl) ⟨Nat.zero_le _, Nat.zero_le _⟩ dX4_rankOf_2 rfl (fun r C1 pi1 H locs h2 hI => ?_)
  obtain ⟨h2, hc9, hp9⟩ := h2
  rw [hc9, hp9] at hI
  rcases h2 with ⟨⟨i1, hi_i1, e_i1⟩, rfl⟩ | ⟨b_i1, rfl⟩
  · skip
    have b_i1 : isCb (C k) (nI c0) = true := isCb_t hW ⟨hi_i1, e_i1⟩
    have x_i1 : ix (nI c0) = i1 := by rw [e_i1]; exact ix_nI (by omega)
    refine lv_if_eq (tgt := 14) hx hb dX4_rankOf_5 (by decide) (fun c3 => absurd c3 (by decide)) (fun _ => ?_)
    refine lv_iload_n hx hb dX4_rankOf_8 rfl (lv_at hl 1 rfl) ?_
    refine lv_aload_n hx hb dX4_rankOf_9 rfl (lv_at hl 2 rfl) ?_
    refine c_len hx hb hK hI dX4_rankOf_10 ?_
    refine lv_icmp_lt (tgt := 16) hx hb dX4_rankOf_11 (by decide) (fun c4 => ?_) (fun c4 => ?_)
    · skip
      have nc4 : c0 < 16 := (nI_ltI (a := c0) (b := 16) (by omega) (by omega)).mp c4
      refine lv_iconst (v := 0) hx hb dX4_rankOf_16 (by decide) ?_
      refine lv_istore_n (lv' := [(3, .int 0), (0, .ref (ad (11 + 20 * k))), (1, .int (nI c0)), (2, .ref (ad 211))]) hx hb dX4_rankOf_17 rfl hl (by decide) rfl (fun ls hl => ?_)
      refine lv_iconst (v := 0) hx hb dX4_rankOf_18 (by decide) ?_
      refine lv_istore (lv' := [(4, .int 0), (3, .int 0), (0, .ref (ad (11 + 20 * k))), (1, .int (nI c0)), (2, .ref (ad 211))]) hx hb dX4_rankOf_19 hl (by decide) rfl (fun ls hl => ?_)
      have L21 : ∀ (fuel : Nat) (j : Nat) (h1 : j ≤ cn (C k)) (h2 : cn (C k) < fuel + j) (H : Heap) (locs : List Loc) (ls : Array Slot), cI dd g ad pi A s.heap H locs C → lv_has ls 5 [(4, .int (nI j)), (3, .int (nI (raN (C k) c0 j))), (0, .ref (ad (11 + 20 * k))), (1, .int (nI c0)), (2, .ref (ad 211))] → wk p l e wsX4_rankOf { frames := 1, cells := 0, slots := 0, locals := 21 } s m [.ref (ad (11 + 20 * k)), .int (nI c0), .ref (ad 211)] below meth c H locs (cQi dd g ad A (fun r C1 pi1 => r = nI (raN (C k) c0 (cn (C k))) ∧ C1 = C ∧ pi1 = pi)) (A) (F0 m 21 ls []) := by
        intro fuel
        induction fuel with
        | zero =>
          intro j h1 h2 H locs ls hI hl
          exact absurd h2 (by omega)
        | succ fuel ih =>
          intro j h1 h2 H locs ls hI hl
          have hle := raN_le (C k) c0 j
          have hdj := duS_lt hTm j
          refine lv_iload hx hb dX4_rankOf_21 (lv_at hl 0 rfl) ?_
          refine lv_aload_n hx hb dX4_rankOf_23 rfl (lv_at hl 2 rfl) ?_
          refine c_get hx hb hts hown hK hI (11 + 20 * k) (by omega) cE_st rfl hinX4 3 (by decide) (hts (.fieldLink RX4 34 "WinderLadders$State" "clockCount" "I") (by decide +kernel)) (v := .int (nI (cn (C k)))) (congrArg (fun z => some (Value.int z)) hW.1) dX4_rankOf_24 ?_
          refine lv_icmp_ge (tgt := 72) hx hb dX4_rankOf_27 (by decide) (fun c5 => ?_) (fun c5 => ?_)
          · skip
            have nc5 : cn (C k) ≤ j := (nI_leI (a := cn (C k)) (b := j) (by omega) (by omega)).mp c5
            refine lv_iload_n hx hb dX4_rankOf_72 rfl (lv_at hl 1 rfl) ?_
            exact c_iret (v := nI (raN (C k) c0 j)) hx hb hr hI (⟨by rw [show cn (C k) = j by omega], rfl, rfl⟩) dX4_rankOf_73 hlocks
          · skip
            have nc5 : ¬ (cn (C k) ≤ j) := fun h => c5 ((nI_leI (a := cn (C k)) (b := j) (by omega) (by omega)).mpr h)
            refine lv_iload hx hb dX4_rankOf_30 (lv_at hl 0 rfl) ?_
            refine lv_aload_n hx hb dX4_rankOf_32 rfl (lv_at hl 4 rfl) ?_
            refine c_len hx hb hK hI dX4_rankOf_33 ?_
            refine lv_icmp_ge (tgt := 72) hx hb dX4_rankOf_34 (by decide) (fun c6 => ?_) (fun c6 => ?_)
            · skip
              have nc6 : 16 ≤ j := (nI_leI (a := 16) (b := j) (by omega) (by omega)).mp c6
              refine lv_iload_n hx hb dX4_rankOf_72 rfl (lv_at hl 1 rfl) ?_
              exact c_iret (v := nI (raN (C k) c0 j)) hx hb hr hI (⟨by rw [show cn (C k) = j by omega], rfl, rfl⟩) dX4_rankOf_73 hlocks
            · skip
              have nc6 : ¬ (16 ≤ j) := fun h => c6 ((nI_leI (a := 16) (b := j) (by omega) (by omega)).mpr h)
              refine lv_aload_n hx hb dX4_rankOf_37 rfl (lv_at hl 4 rfl) ?_
              refine lv_iload hx hb dX4_rankOf_38 (lv_at hl 0 rfl) ?_
              refine c_ald hx hb hK hI 211 (by decide) cE_211 (by decide) (j) (by omega) rfl (v := nI (duS (C k) j)) ((hLa j (by omega))) dX4_rankOf_40 ?_
              refine lv_aload_n hx hb dX4_rankOf_41 rfl (lv_at hl 4 rfl) ?_
              refine lv_iload_n hx hb dX4_rankOf_42 rfl (lv_at hl 3 rfl) ?_
              refine c_ald hx hb hK hI 211 (by decide) cE_211 (by decide) (c0) (by omega) rfl (v := nI (duS (C k) c0)) ((hLa c0 hc0)) dX4_rankOf_43 ?_
              refine lv_icmp_lt (tgt := 63) hx hb dX4_rankOf_44 (by decide) (fun c7 => ?_) (fun c7 => ?_)
              · skip
                have nc7 : duS (C k) j < duS (C k) c0 := (nI_ltI (a := duS (C k) j) (b := duS (C k) c0) (by omega) (by omega)).mp c7
                refine lv_iinc (v := nI (raN (C k) c0 j + 1)) (lv' := [(3, .int (nI (raN (C k) c0 j + 1))), (4, .int (nI j)), (0, .ref (ad (11 + 20 * k))), (1, .int (nI c0)), (2, .ref (ad 211))]) hx hb dX4_rankOf_63 hl (k := 1) rfl (by rw [show Int32.ofInt 1 = nI 1 from rfl, nI_add]) (by decide) rfl (fun ls hl => ?_)
                refine lv_iinc (v := nI (j + 1)) (lv' := [(4, .int (nI (j + 1))), (3, .int (nI (raN (C k) c0 j + 1))), (0, .ref (ad (11 + 20 * k))), (1, .int (nI c0)), (2, .ref (ad 211))]) hx hb dX4_rankOf_66 hl (k := 1) rfl (by rw [show Int32.ofInt 1 = nI 1 from rfl, nI_add]) (by decide) rfl (fun ls hl => ?_)
                refine lv_goto (tgt := 21) hx hb dX4_rankOf_69 (by decide) ?_
                exact ih (j + 1) (by omega) (by omega) _ _ _ hI (by rw [show raN (C k) c0 (j + 1) = raN (C k) c0 j + 1 by simp only [raN, if_pos b_i1, if_pos c4, if_pos nc4, if_neg c5, if_neg nc5, if_neg c6, if_neg nc6, if_pos c7, if_pos nc7]]; exact (lv_sub hl [0, 1, 2, 3, 4] rfl))
              · skip
                have nc7 : ¬ (duS (C k) j < duS (C k) c0) := fun h => c7 ((nI_ltI (a := duS (C k) j) (b := duS (C k) c0) (by omega) (by omega)).mpr h)
                refine lv_aload_n hx hb dX4_rankOf_47 rfl (lv_at hl 4 rfl) ?_
                refine lv_iload hx hb dX4_rankOf_48 (lv_at hl 0 rfl) ?_
                refine c_ald hx hb hK hI 211 (by decide) cE_211 (by decide) (j) (by omega) rfl (v := nI (duS (C k) j)) ((hLa j (by omega))) dX4_rankOf_50 ?_
                refine lv_aload_n hx hb dX4_rankOf_51 rfl (lv_at hl 4 rfl) ?_
                refine lv_iload_n hx hb dX4_rankOf_52 rfl (lv_at hl 3 rfl) ?_
                refine c_ald hx hb hK hI 211 (by decide) cE_211 (by decide) (c0) (by omega) rfl (v := nI (duS (C k) c0)) ((hLa c0 hc0)) dX4_rankOf_53 ?_
                refine lv_icmp_ne (tgt := 66) hx hb dX4_rankOf_54 (by decide) (fun c8 => ?_) (fun c8 => ?_)
                · skip
                  have nc8 : ¬ (duS (C k) j = duS (C k) c0) := fun h => c8 ((nI_eq (a := duS (C k) j) (b := duS (C k) c0) (by omega) (by omega)).mpr h)
                  refine lv_iinc (v := nI (j + 1)) (lv' := [(4, .int (nI (j + 1))), (3, .int (nI (raN (C k) c0 j))), (0, .ref (ad (11 + 20 * k))), (1, .int (nI c0)), (2, .ref (ad 211))]) hx hb dX4_rankOf_66 hl (k := 0) rfl (by rw [show Int32.ofInt 1 = nI 1 from rfl, nI_add]) (by decide) rfl (fun ls hl => ?_)
                  refine lv_goto (tgt := 21) hx hb dX4_rankOf_69 (by decide) ?_
                  exact ih (j + 1) (by omega) (by omega) _ _ _ hI (by rw [show raN (C k) c0 (j + 1) = raN (C k) c0 j by simp only [raN, if_pos b_i1, if_pos c4, if_pos nc4, if_neg c5, if_neg nc5, if_neg c6, if_neg nc6, if_neg c7, if_neg nc7, if_neg c8, if_neg nc8]]; exact (lv_sub hl [0, 1, 2, 3, 4] rfl))
                · skip
                  have nc8 : duS (C k) j = duS (C k) c0 := (nI_eq (a := duS (C k) j) (b := duS (C k) c0) (by omega) (by omega)).mp c8
                  refine lv_iload hx hb dX4_rankOf_57 (lv_at hl 0 rfl) ?_
                  refine lv_iload_n hx hb dX4_rankOf_59 rfl (lv_at hl 3 rfl) ?_
                  refine lv_icmp_ge (tgt := 66) hx hb dX4_rankOf_60 (by decide) (fun c9 => ?_) (fun c9 => ?_)
                  · skip
                    have nc9 : c0 ≤ j := (nI_leI (a := c0) (b := j) (by omega) (by omega)).mp c9
                    refine lv_iinc (v := nI (j + 1)) (lv' := [(4, .int (nI (j + 1))), (3, .int (nI (raN (C k) c0 j))), (0, .ref (ad (11 + 20 * k))), (1, .int (nI c0)), (2, .ref (ad 211))]) hx hb dX4_rankOf_66 hl (k := 0) rfl (by rw [show Int32.ofInt 1 = nI 1 from rfl, nI_add]) (by decide) rfl (fun ls hl => ?_)
                    refine lv_goto (tgt := 21) hx hb dX4_rankOf_69 (by decide) ?_
                    exact ih (j + 1) (by omega) (by omega) _ _ _ hI (by rw [show raN (C k) c0 (j + 1) = raN (C k) c0 j by simp only [raN, if_pos b_i1, if_pos c4, if_pos nc4, if_neg c5, if_neg nc5, if_neg c6, if_neg nc6, if_neg c7, if_neg nc7, if_pos c8, if_pos nc8, if_pos c9, if_pos nc9]]; exact (lv_sub hl [0, 1, 2, 3, 4] rfl))
                  · skip
                    have nc9 : ¬ (c0 ≤ j) := fun h => c9 ((nI_leI (a := c0) (b := j) (by omega) (by omega)).mpr h)
                    refine lv_iinc (v := nI (raN (C k) c0 j + 1)) (lv' := [(3, .int (nI (raN (C k) c0 j + 1))), (4, .int (nI j)), (0, .ref (ad (11 + 20 * k))), (1, .int (nI c0)), (2, .ref (ad 211))]) hx hb dX4_rankOf_63 hl (k := 1) rfl (by rw [show Int32.ofInt 1 = nI 1 from rfl, nI_add]) (by decide) rfl (fun ls hl => ?_)
                    refine lv_iinc (v := nI (j + 1)) (lv' := [(4, .int (nI (j + 1))), (3, .int (nI (raN (C k) c0 j + 1))), (0, .ref (ad (11 + 20 * k))), (1, .int (nI c0)), (2, .ref (ad 211))]) hx hb dX4_rankOf_66 hl (k := 1) rfl (by rw [show Int32.ofInt 1 = nI 1 from rfl, nI_add]) (by decide) rfl (fun ls hl => ?_)
                    refine lv_goto (tgt := 21) hx hb dX4_rankOf_69 (by decide) ?_
                    exact ih (j + 1) (by omega) (by omega) _ _ _ hI (by rw [show raN (C k) c0 (j + 1) = raN (C k) c0 j + 1 by simp only [raN, if_pos b_i1, if_pos c4, if_pos nc4, if_neg c5, if_neg nc5, if_neg c6, if_neg nc6, if_neg c7, if_neg nc7, if_pos c8, if_pos nc8, if_neg c9, if_neg nc9]]; exact (lv_sub hl [0, 1, 2, 3, 4] rfl))
      exact L21 17 0 (by omega) (by omega) _ _ _ hI (lv_sub hl [0, 1, 2, 3, 4] rfl)
    · skip
      have nc4 : ¬ (c0 < 16) := fun h => c4 ((nI_ltI (a := c0) (b := 16) (by omega) (by omega)).mpr h)
      exact absurd (show c0 < 16 by omega) nc4
  · skip
    have b_i1 := isCb_f hW b_i1
    exact absurd (isCb_t hW ⟨hc0, rfl⟩) (Bool.eq_false_iff.mp b_i1)
