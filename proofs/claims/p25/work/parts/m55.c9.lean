set_option maxHeartbeats 4000000 in
set_option maxRecDepth 100000 in
theorem k_X1_prepare (l : Launch) (dd : va_G) (g : Nat → ClassId) (ad pi : Nat → Nat) (A : Nat → Prop) (hA : cA A ad) (C : MS) (d : Nat) (hd6 : d ≤ 6) (hd : C 10 0 = nI d) (hpi : piOk pi) (hW0 : Wk (C 0)) (hgo0 : goOk (C 0))  : Met l yX1_prepare wsX1_prepare ({ frames := 2, cells := 0, slots := 0, locals := 62 }) (cPre dd g ad pi A C [.ref (ad 1), .ref (ad (11 + 20 * 0))]) (cQv dd g ad A (fun C1 pi1 => C1 = prM C pi d ∧ pi1 = pi)) 0 0 A := by
  refine Met.ofW (cc := cX1_prepare) (maxL := 2) (ret := none) (by decide) rfl ?_
  intro p e s m args below meth c s₁ B hml hv
  obtain ⟨rfl, hP0, hK, hX⟩ := hv
  have hx := B.exec
  have hb := B.bytes
  have hr := B.returns
  have hts := atoms_spec (ws := wsX1_prepare) B.pre
  have hown : s.vm.findClass RX1 = some m.cls := findClass_of_methodNamed B.named
  have hlocks := B.notSynchronized
  have hinX1 : ∀ w ∈ wsX10, w ∈ wsX1_prepare := by decide +kernel
  have hI : cI dd g ad pi A s.heap s.heap [] C := ⟨hP0, va_S.rf⟩
  have hl := lv_entry ([.ref (ad 1), .ref (ad (11 + 20 * 0))]) (n := 2) (Nat.le_of_ble_eq_true rfl)
  rw [lg_entry_eq]
  generalize (lg_sl ([.ref (ad 1), .ref (ad (11 + 20 * 0))]) ++ List.replicate (2 - (lg_sl ([.ref (ad 1), .ref (ad (11 + 20 * 0))])).length) Slot.unset).toArray = ls at hl ⊢
  have hl : lv_has ls 2 [(0, .ref (ad 1)), (1, .ref (ad (11 + 20 * 0)))] := hl
  have hpd := hpi.1 d (by omega)
  refine lv_aload_n hx hb dX1_prepare_0 rfl (lv_at hl 0 rfl) ?_
  refine c_get hx hb hts hown hK hI 1 (by omega) cE_1 rfl hinX1 1 (by decide) (hts (.fieldLink RX1 18 "WinderLadders$History" "depth" "I") (by decide +kernel)) (v := .int (nI d)) (congrArg (fun z => some (Value.int z)) hd) dX1_prepare_1 ?_
  refine lv_if_lt (tgt := 29) hx hb dX1_prepare_4 (by decide) (fun c1 => ?_) (fun c1 => ?_)
  · skip
    have nc1 : d < 0 := (nI_ltI (a := d) (b := 0) (by omega) (by omega)).mp c1
    exact absurd nc1 (by omega)
  · skip
    have nc1 : ¬ (d < 0) := fun h => c1 ((nI_ltI (a := d) (b := 0) (by omega) (by omega)).mpr h)
    refine lv_aload_n hx hb dX1_prepare_7 rfl (lv_at hl 0 rfl) ?_
    refine c_get hx hb hts hown hK hI 1 (by omega) cE_1 rfl hinX1 1 (by decide) (hts (.fieldLink RX1 18 "WinderLadders$History" "depth" "I") (by decide +kernel)) (v := .int (nI d)) (congrArg (fun z => some (Value.int z)) hd) dX1_prepare_8 ?_
    refine lv_bipush (v := 6) hx hb dX1_prepare_11 (by decide) ?_
    refine lv_icmp_gt (tgt := 29) hx hb dX1_prepare_13 (by decide) (fun c2 => ?_) (fun c2 => ?_)
    · skip
      have nc2 : 6 < d := (nI_ltI (a := 6) (b := d) (by omega) (by omega)).mp c2
      exact absurd nc2 (by omega)
    · skip
      have nc2 : ¬ (6 < d) := fun h => c2 ((nI_ltI (a := 6) (b := d) (by omega) (by omega)).mpr h)
      refine lv_aload_n hx hb dX1_prepare_16 rfl (lv_at hl 0 rfl) ?_
      refine c_get hx hb hts hown hK hI 1 (by omega) cE_1 rfl hinX1 0 (by decide) (hts (.fieldLink RX1 11 "WinderLadders$History" "states" "[LWinderLadders$State;") (by decide +kernel)) (v := .ref (ad 2)) rfl dX1_prepare_17 ?_
      refine lv_aload_n hx hb dX1_prepare_20 rfl (lv_at hl 0 rfl) ?_
      refine c_get hx hb hts hown hK hI 1 (by omega) cE_1 rfl hinX1 1 (by decide) (hts (.fieldLink RX1 18 "WinderLadders$History" "depth" "I") (by decide +kernel)) (v := .int (nI d)) (congrArg (fun z => some (Value.int z)) hd) dX1_prepare_21 ?_
      refine c_aldH hx hb hK hI (d) (by omega) rfl dX1_prepare_24 ?_
      refine lv_aload_n hx hb dX1_prepare_25 rfl (lv_at hl 1 rfl) ?_
      refine c_callv (As := [.ref (ad (11 + 20 * 0))]) (rest := []) hx hb hml hown hts hK hX hI (11 + 20 * (pi d)) (by omega) cE_st rfl (k_X4_copyFrom l dd g ad pi A hA C (pi d) 0 (by omega) (by omega) (by omega) hW0 hgo0) (cwV 1 hts gX1_prepare_X4_copyFrom rfl rfl rfl (by decide +kernel) ⟨Nat.le_of_ble_eq_true rfl, Nat.le_of_ble_eq_true rfl⟩) rfl hl (Nat.le_of_ble_eq_true rfl) ⟨Nat.zero_le _, Nat.zero_le _⟩ dX1_prepare_26 rfl (fun C1 pi1 H locs h3 hI => ?_)
      obtain ⟨hc9, hp9⟩ := h3
      rw [hc9, hp9] at hI
      exact c_vret hx hb hr hI (⟨rfl, rfl⟩) dX1_prepare_29 hlocks

set_option maxHeartbeats 4000000 in
set_option maxRecDepth 100000 in
theorem k_X1_dropOldest (l : Launch) (dd : va_G) (g : Nat → ClassId) (ad pi : Nat → Nat) (A : Nat → Prop) (hA : cA A ad) (C : MS) (hpi : piOk pi)  : Met l yX1_dropOldest wsX1_dropOldest ({ frames := 0, cells := 0, slots := 0, locals := 0 }) (cPre dd g ad pi A C [.ref (ad 1)]) (cQv dd g ad A (fun C1 pi1 => C1 = C ∧ pi1 = rot pi)) 0 0 A := by
  refine Met.ofW (cc := cX1_dropOldest) (maxL := 3) (ret := none) (by decide) rfl ?_
  intro p e s m args below meth c s₁ B hml hv
  obtain ⟨rfl, hP0, hK, hX⟩ := hv
  have hx := B.exec
  have hb := B.bytes
  have hr := B.returns
  have hts := atoms_spec (ws := wsX1_dropOldest) B.pre
  have hown : s.vm.findClass RX1 = some m.cls := findClass_of_methodNamed B.named
  have hlocks := B.notSynchronized
  have hinX1 : ∀ w ∈ wsX10, w ∈ wsX1_dropOldest := by decide +kernel
  have hI : cI dd g ad pi A s.heap s.heap [] C := ⟨hP0, va_S.rf⟩
  have hl := lv_entry ([.ref (ad 1)]) (n := 3) (Nat.le_of_ble_eq_true rfl)
  rw [lg_entry_eq]
  generalize (lg_sl ([.ref (ad 1)]) ++ List.replicate (3 - (lg_sl ([.ref (ad 1)])).length) Slot.unset).toArray = ls at hl ⊢
  have hl : lv_has ls 3 [(0, .ref (ad 1))] := hl
  have hp0 := hpi.1 0 (by omega)
  refine lv_aload_n hx hb dX1_dropOldest_0 rfl (lv_at hl 0 rfl) ?_
  refine c_get hx hb hts hown hK hI 1 (by omega) cE_1 rfl hinX1 0 (by decide) (hts (.fieldLink RX1 11 "WinderLadders$History" "states" "[LWinderLadders$State;") (by decide +kernel)) (v := .ref (ad 2)) rfl dX1_dropOldest_1 ?_
  refine lv_iconst (v := 0) hx hb dX1_dropOldest_4 (by decide) ?_
  refine c_aldH hx hb hK hI (0) (by omega) rfl dX1_dropOldest_5 ?_
  refine lv_astore_n (lv' := [(1, .ref (ad (11 + 20 * (pi 0)))), (0, .ref (ad 1))]) hx hb dX1_dropOldest_6 rfl hl (by decide) rfl (fun ls hl => ?_)
  refine lv_iconst (v := 0) hx hb dX1_dropOldest_7 (by decide) ?_
  refine lv_istore_n (lv' := [(2, .int 0), (1, .ref (ad (11 + 20 * (pi 0)))), (0, .ref (ad 1))]) hx hb dX1_dropOldest_8 rfl hl (by decide) rfl (fun ls hl => ?_)
  have L9 : ∀ (fuel : Nat) (i : Nat) (h1 : i ≤ 6) (h2 : 6 < fuel + i) (H : Heap) (locs : List Loc) (ls : Array Slot), cI dd g ad (rtP pi i) A s.heap H locs C → lv_has ls 3 [(2, .int (nI i)), (1, .ref (ad (11 + 20 * (pi 0)))), (0, .ref (ad 1))] → wk p l e wsX1_dropOldest { frames := 0, cells := 0, slots := 0, locals := 0 } s m [.ref (ad 1)] below meth c H locs (cQv dd g ad A (fun C1 pi1 => C1 = C ∧ pi1 = rot pi)) (A) (F0 m 9 ls []) := by
    intro fuel
    induction fuel with
    | zero =>
      intro i h1 h2 H locs ls hI hl
      exact absurd h2 (by omega)
    | succ fuel ih =>
      intro i h1 h2 H locs ls hI hl
      refine lv_iload_n hx hb dX1_dropOldest_9 rfl (lv_at hl 0 rfl) ?_
      refine lv_bipush (v := 6) hx hb dX1_dropOldest_10 (by decide) ?_
      refine lv_icmp_ge (tgt := 35) hx hb dX1_dropOldest_12 (by decide) (fun c1 => ?_) (fun c1 => ?_)
      · skip
        have nc1 : 6 ≤ i := (nI_leI (a := 6) (b := i) (by omega) (by omega)).mp c1
        refine lv_aload_n hx hb dX1_dropOldest_35 rfl (lv_at hl 2 rfl) ?_
        refine c_get hx hb hts hown hK hI 1 (by omega) cE_1 rfl hinX1 0 (by decide) (hts (.fieldLink RX1 11 "WinderLadders$History" "states" "[LWinderLadders$State;") (by decide +kernel)) (v := .ref (ad 2)) rfl dX1_dropOldest_36 ?_
        refine lv_bipush (v := 6) hx hb dX1_dropOldest_39 (by decide) ?_
        refine lv_aload_n hx hb dX1_dropOldest_41 rfl (lv_at hl 1 rfl) ?_
        refine c_astH hx hb hK hA hI (6) (by omega) rfl (pi 0) (by omega) dX1_dropOldest_42 (fun H locs hI => ?_)
        exact c_vret hx hb hr hI (⟨rfl, by rw [show i = 6 by omega]; rfl⟩) dX1_dropOldest_43 hlocks
      · skip
        have nc1 : ¬ (6 ≤ i) := fun h => c1 ((nI_leI (a := 6) (b := i) (by omega) (by omega)).mpr h)
        have hb9 := rtP_lt hpi i (i + 1) (by omega) (by omega)
        refine lv_aload_n hx hb dX1_dropOldest_15 rfl (lv_at hl 2 rfl) ?_
        refine c_get hx hb hts hown hK hI 1 (by omega) cE_1 rfl hinX1 0 (by decide) (hts (.fieldLink RX1 11 "WinderLadders$History" "states" "[LWinderLadders$State;") (by decide +kernel)) (v := .ref (ad 2)) rfl dX1_dropOldest_16 ?_
        refine lv_iload_n hx hb dX1_dropOldest_19 rfl (lv_at hl 0 rfl) ?_
        refine lv_aload_n hx hb dX1_dropOldest_20 rfl (lv_at hl 2 rfl) ?_
        refine c_get hx hb hts hown hK hI 1 (by omega) cE_1 rfl hinX1 0 (by decide) (hts (.fieldLink RX1 11 "WinderLadders$History" "states" "[LWinderLadders$State;") (by decide +kernel)) (v := .ref (ad 2)) rfl dX1_dropOldest_21 ?_
        refine lv_iload_n hx hb dX1_dropOldest_24 rfl (lv_at hl 0 rfl) ?_
        refine lv_iconst (v := 1) hx hb dX1_dropOldest_25 (by decide) ?_
        refine lv_iadd hx hb dX1_dropOldest_26 ?_
        refine lv_re (y := nI (i + 1)) (nI_add (i) (1)) ?_
        refine c_aldH hx hb hK hI (i + 1) (by omega) rfl dX1_dropOldest_27 ?_
        refine c_astH hx hb hK hA hI (i) (by omega) rfl ((rtP pi i) (i + 1)) (by omega) dX1_dropOldest_28 (fun H locs hI => ?_)
        refine lv_iinc (v := nI (i + 1)) (lv' := [(2, .int (nI (i + 1))), (1, .ref (ad (11 + 20 * (pi 0)))), (0, .ref (ad 1))]) hx hb dX1_dropOldest_29 hl (k := 0) rfl (by rw [show Int32.ofInt 1 = nI 1 from rfl, nI_add]) (by decide) rfl (fun ls hl => ?_)
        refine lv_goto (tgt := 9) hx hb dX1_dropOldest_32 (by decide) ?_
        exact ih (i + 1) (by omega) (by omega) _ _ _ (by rw [← rtP_s]; exact hI) (lv_sub hl [0, 1, 2] rfl)
  exact L9 7 0 (by omega) (by omega) _ _ _ (by rw [rtP_0]; exact hI) (lv_sub hl [0, 1, 2] rfl)

set_option maxHeartbeats 4000000 in
set_option maxRecDepth 100000 in
theorem k_X1_keepPrepared (l : Launch) (dd : va_G) (g : Nat → ClassId) (ad pi : Nat → Nat) (A : Nat → Prop) (hA : cA A ad) (C : MS) (d : Nat) (hd6 : d ≤ 6) (hd : C 10 0 = nI d) (hpi : piOk pi)  : Met l yX1_keepPrepared wsX1_keepPrepared ({ frames := 1, cells := 0, slots := 0, locals := 22 }) (cPre dd g ad pi A C [.ref (ad 1)]) (cQv dd g ad A (fun C1 pi1 => (d < 6 ∧ C1 = mset C 10 0 (nI (d + 1)) ∧ pi1 = pi) ∨ (¬ d < 6 ∧ C1 = C ∧ pi1 = rot pi))) 0 0 A := by
  refine Met.ofW (cc := cX1_keepPrepared) (maxL := 1) (ret := none) (by decide) rfl ?_
  intro p e s m args below meth c s₁ B hml hv
  obtain ⟨rfl, hP0, hK, hX⟩ := hv
  have hx := B.exec
  have hb := B.bytes
  have hr := B.returns
  have hts := atoms_spec (ws := wsX1_keepPrepared) B.pre
  have hown : s.vm.findClass RX1 = some m.cls := findClass_of_methodNamed B.named
  have hlocks := B.notSynchronized
  have hinX1 : ∀ w ∈ wsX10, w ∈ wsX1_keepPrepared := by decide +kernel
  have hI : cI dd g ad pi A s.heap s.heap [] C := ⟨hP0, va_S.rf⟩
  have hl := lv_entry ([.ref (ad 1)]) (n := 1) (Nat.le_of_ble_eq_true rfl)
  rw [lg_entry_eq]
  generalize (lg_sl ([.ref (ad 1)]) ++ List.replicate (1 - (lg_sl ([.ref (ad 1)])).length) Slot.unset).toArray = ls at hl ⊢
  have hl : lv_has ls 1 [(0, .ref (ad 1))] := hl
  refine lv_aload_n hx hb dX1_keepPrepared_0 rfl (lv_at hl 0 rfl) ?_
  refine c_get hx hb hts hown hK hI 1 (by omega) cE_1 rfl hinX1 1 (by decide) (hts (.fieldLink RX1 18 "WinderLadders$History" "depth" "I") (by decide +kernel)) (v := .int (nI d)) (congrArg (fun z => some (Value.int z)) hd) dX1_keepPrepared_1 ?_
  refine lv_bipush (v := 6) hx hb dX1_keepPrepared_4 (by decide) ?_
  refine lv_icmp_ge (tgt := 22) hx hb dX1_keepPrepared_6 (by decide) (fun c1 => ?_) (fun c1 => ?_)
  · skip
    have nc1 : 6 ≤ d := (nI_leI (a := 6) (b := d) (by omega) (by omega)).mp c1
    refine lv_aload_n hx hb dX1_keepPrepared_22 rfl (lv_at hl 0 rfl) ?_
    refine c_callv (As := []) (rest := []) hx hb hml hown hts hK hX hI 1 (by omega) cE_1 rfl (k_X1_dropOldest l dd g ad pi A hA C hpi) (cwV 0 hts gX1_keepPrepared_X1_dropOldest rfl rfl rfl (by decide +kernel) ⟨Nat.le_of_ble_eq_true rfl, Nat.le_of_ble_eq_true rfl⟩) rfl hl (Nat.le_of_ble_eq_true rfl) ⟨Nat.zero_le _, Nat.zero_le _⟩ dX1_keepPrepared_23 rfl (fun C1 pi1 H locs h2 hI => ?_)
    obtain ⟨hc9, hp9⟩ := h2
    rw [hc9, hp9] at hI
    exact c_vret hx hb hr hI (Or.inr ⟨by omega, rfl, rfl⟩) dX1_keepPrepared_26 hlocks
  · skip
    have nc1 : ¬ (6 ≤ d) := fun h => c1 ((nI_leI (a := 6) (b := d) (by omega) (by omega)).mpr h)
    refine lv_aload_n hx hb dX1_keepPrepared_9 rfl (lv_at hl 0 rfl) ?_
    refine lv_dup hx hb dX1_keepPrepared_10 rfl ?_
    refine c_get hx hb hts hown hK hI 1 (by omega) cE_1 rfl hinX1 1 (by decide) (hts (.fieldLink RX1 18 "WinderLadders$History" "depth" "I") (by decide +kernel)) (v := .int (nI d)) (congrArg (fun z => some (Value.int z)) hd) dX1_keepPrepared_11 ?_
    refine lv_iconst (v := 1) hx hb dX1_keepPrepared_14 (by decide) ?_
    refine lv_iadd hx hb dX1_keepPrepared_15 ?_
    refine lv_re (y := nI (d + 1)) (nI_add (d) (1)) ?_
    refine c_putH hx hb hts hinX1 hown hK hA hI (hts (.fieldLink RX1 18 "WinderLadders$History" "depth" "I") (by decide +kernel)) dX1_keepPrepared_16 (fun H locs hI => ?_)
    refine lv_goto (tgt := 26) hx hb dX1_keepPrepared_19 (by decide) ?_
    exact c_vret hx hb hr hI (Or.inl ⟨by omega, rfl, rfl⟩) dX1_keepPrepared_26 hlocks

set_option maxHeartbeats 4000000 in
set_option maxRecDepth 100000 in
theorem k_X1_takeBack (l : Launch) (dd : va_G) (g : Nat → ClassId) (ad pi : Nat → Nat) (A : Nat → Prop) (hA : cA A ad) (C : MS) (d : Nat) (hd6 : d ≤ 6) (hd : C 10 0 = nI d) (hpi : piOk pi) (hWh : ∀ j, j < d → Wk (C (pi j)) ∧ goOk (C (pi j)))  : Met l yX1_takeBack wsX1_takeBack ({ frames := 2, cells := 0, slots := 0, locals := 62 }) (cPre dd g ad pi A C [.ref (ad 1), .ref (ad (11 + 20 * 0))]) (cQi dd g ad A (fun r C1 pi1 => ((d = 0 ∧ r = 0 ∧ C1 = C) ∨ (0 < d ∧ r = 1 ∧ C1 = mrow (mset C 10 0 (nI (d - 1))) 0 (cpS (C 0) (C (pi (d - 1)))))) ∧ pi1 = pi)) 0 0 A := by
  refine Met.ofW (cc := cX1_takeBack) (maxL := 2) (ret := (some .boolean)) (by decide) rfl ?_
  intro p e s m args below meth c s₁ B hml hv
  obtain ⟨rfl, hP0, hK, hX⟩ := hv
  have hx := B.exec
  have hb := B.bytes
  have hr := B.returns
  have hts := atoms_spec (ws := wsX1_takeBack) B.pre
  have hown : s.vm.findClass RX1 = some m.cls := findClass_of_methodNamed B.named
  have hlocks := B.notSynchronized
  have hinX1 : ∀ w ∈ wsX10, w ∈ wsX1_takeBack := by decide +kernel
  have hI : cI dd g ad pi A s.heap s.heap [] C := ⟨hP0, va_S.rf⟩
  have hl := lv_entry ([.ref (ad 1), .ref (ad (11 + 20 * 0))]) (n := 2) (Nat.le_of_ble_eq_true rfl)
  rw [lg_entry_eq]
  generalize (lg_sl ([.ref (ad 1), .ref (ad (11 + 20 * 0))]) ++ List.replicate (2 - (lg_sl ([.ref (ad 1), .ref (ad (11 + 20 * 0))])).length) Slot.unset).toArray = ls at hl ⊢
  have hl : lv_has ls 2 [(0, .ref (ad 1)), (1, .ref (ad (11 + 20 * 0)))] := hl
  refine lv_aload_n hx hb dX1_takeBack_0 rfl (lv_at hl 0 rfl) ?_
  refine c_get hx hb hts hown hK hI 1 (by omega) cE_1 rfl hinX1 1 (by decide) (hts (.fieldLink RX1 18 "WinderLadders$History" "depth" "I") (by decide +kernel)) (v := .int (nI d)) (congrArg (fun z => some (Value.int z)) hd) dX1_takeBack_1 ?_
  refine lv_if_le (tgt := 16) hx hb dX1_takeBack_4 (by decide) (fun c1 => ?_) (fun c1 => ?_)
  · skip
    have nc1 : d ≤ 0 := (nI_leI (a := d) (b := 0) (by omega) (by omega)).mp c1
    refine lv_iconst (v := 0) hx hb dX1_takeBack_16 (by decide) ?_
    exact c_zret (v := 0) hx hb hr (by first | rfl | decide) hI (⟨Or.inl ⟨by omega, rfl, rfl⟩, rfl⟩) dX1_takeBack_17 hlocks
  · skip
    have nc1 : ¬ (d ≤ 0) := fun h => c1 ((nI_leI (a := d) (b := 0) (by omega) (by omega)).mpr h)
    refine lv_aload_n hx hb dX1_takeBack_7 rfl (lv_at hl 0 rfl) ?_
    refine c_get hx hb hts hown hK hI 1 (by omega) cE_1 rfl hinX1 1 (by decide) (hts (.fieldLink RX1 18 "WinderLadders$History" "depth" "I") (by decide +kernel)) (v := .int (nI d)) (congrArg (fun z => some (Value.int z)) hd) dX1_takeBack_8 ?_
    refine lv_bipush (v := 6) hx hb dX1_takeBack_11 (by decide) ?_
    refine lv_icmp_le (tgt := 18) hx hb dX1_takeBack_13 (by decide) (fun c2 => ?_) (fun c2 => ?_)
    · skip
      have nc2 : d ≤ 6 := (nI_leI (a := d) (b := 6) (by omega) (by omega)).mp c2
      refine lv_aload_n hx hb dX1_takeBack_18 rfl (lv_at hl 0 rfl) ?_
      refine lv_dup hx hb dX1_takeBack_19 rfl ?_
      refine c_get hx hb hts hown hK hI 1 (by omega) cE_1 rfl hinX1 1 (by decide) (hts (.fieldLink RX1 18 "WinderLadders$History" "depth" "I") (by decide +kernel)) (v := .int (nI d)) (congrArg (fun z => some (Value.int z)) hd) dX1_takeBack_20 ?_
      refine lv_iconst (v := 1) hx hb dX1_takeBack_23 (by decide) ?_
      refine lv_isub hx hb dX1_takeBack_24 ?_
      refine lv_re (y := nI (d - 1)) (pk_sub (a := d) (b := 1) (by omega)) ?_
      refine c_putH hx hb hts hinX1 hown hK hA hI (hts (.fieldLink RX1 18 "WinderLadders$History" "depth" "I") (by decide +kernel)) dX1_takeBack_25 (fun H locs hI => ?_)
      have hpd := hpi.1 (d - 1) (by omega)
      have hwh := hWh (d - 1) (by omega)
      refine lv_aload_n hx hb dX1_takeBack_28 rfl (lv_at hl 1 rfl) ?_
      refine lv_aload_n hx hb dX1_takeBack_29 rfl (lv_at hl 0 rfl) ?_
      refine c_get hx hb hts hown hK hI 1 (by omega) cE_1 rfl hinX1 0 (by decide) (hts (.fieldLink RX1 11 "WinderLadders$History" "states" "[LWinderLadders$State;") (by decide +kernel)) (v := .ref (ad 2)) rfl dX1_takeBack_30 ?_
      refine lv_aload_n hx hb dX1_takeBack_33 rfl (lv_at hl 0 rfl) ?_
      refine c_get hx hb hts hown hK hI 1 (by omega) cE_1 rfl hinX1 1 (by decide) (hts (.fieldLink RX1 18 "WinderLadders$History" "depth" "I") (by decide +kernel)) (v := .int (nI (d - 1))) (congrArg (fun z => some (Value.int z)) (mset_eq _ _ _ _)) dX1_takeBack_34 ?_
      refine c_aldH hx hb hK hI (d - 1) (by omega) rfl dX1_takeBack_37 ?_
      refine c_callv (As := [.ref (ad (11 + 20 * (pi (d - 1))))]) (rest := []) hx hb hml hown hts hK hX hI (11 + 20 * 0) (by omega) cE_st rfl (k_X4_copyFrom l dd g ad pi A hA (mset C 10 (0) (nI (d - 1))) 0 (pi (d - 1)) (by omega) (by omega) (by omega) (by rw [mset_ne _ (by omega)]; exact hwh.1) (by rw [mset_ne _ (by omega)]; exact hwh.2)) (cwV 1 hts gX1_takeBack_X4_copyFrom rfl rfl rfl (by decide +kernel) ⟨Nat.le_of_ble_eq_true rfl, Nat.le_of_ble_eq_true rfl⟩) rfl hl (Nat.le_of_ble_eq_true rfl) ⟨Nat.zero_le _, Nat.zero_le _⟩ dX1_takeBack_38 rfl (fun C1 pi1 H locs h3 hI => ?_)
      obtain ⟨hc9, hp9⟩ := h3
      rw [mset_ne C (k := 10) (a := 0) (by omega), mset_ne C (k := 10) (a := pi (d - 1)) (by omega)] at hc9
      rw [hc9, hp9] at hI
      refine lv_iconst (v := 1) hx hb dX1_takeBack_41 (by decide) ?_
      exact c_zret (v := 1) hx hb hr (by first | rfl | decide) hI (⟨Or.inr ⟨by omega, rfl, rfl⟩, rfl⟩) dX1_takeBack_42 hlocks
    · skip
      have nc2 : ¬ (d ≤ 6) := fun h => c2 ((nI_leI (a := d) (b := 6) (by omega) (by omega)).mpr h)
      exact absurd hd6 nc2
