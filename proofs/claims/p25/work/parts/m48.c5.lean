set_option maxHeartbeats 4000000 in
set_option maxRecDepth 100000 in
theorem k_X4_copyFrom (l : Launch) (dd : va_G) (g : Nat → ClassId) (ad pi : Nat → Nat) (A : Nat → Prop) (hA : cA A ad) (C : MS) (k k2 : Nat) (hk : k < 10) (hk2 : k2 < 10) (hne : k ≠ k2) (hW2 : Wk (C k2)) (hgo2 : ∀ c, c < 16 → C k2 (12 + 8 * c + 6) = 0 ∨ C k2 (12 + 8 * c + 6) = 1)  : Met l yX4_copyFrom wsX4_copyFrom ({ frames := 1, cells := 0, slots := 0, locals := 40 }) (cPre dd g ad pi A C [.ref (ad (11 + 20 * k)), .ref (ad (11 + 20 * k2))]) (cQv dd g ad A (fun C1 pi1 => C1 = mrow C k (cpS (C k) (C k2)) ∧ pi1 = pi)) 0 0 A := by
  refine Met.ofW (cc := cX4_copyFrom) (maxL := 3) (ret := none) (by decide) rfl ?_
  intro p e s m args below meth c s₁ B hml hv
  obtain ⟨rfl, hP0, hK, hX⟩ := hv
  have hx := B.exec
  have hb := B.bytes
  have hr := B.returns
  have hts := atoms_spec (ws := wsX4_copyFrom) B.pre
  have hown : s.vm.findClass RX4 = some m.cls := findClass_of_methodNamed B.named
  have hlocks := B.notSynchronized
  have hinX4 : ∀ w ∈ wsX40, w ∈ wsX4_copyFrom := by decide +kernel
  have hI : cI dd g ad pi A s.heap s.heap [] C := ⟨hP0, va_S.rf⟩
  have hl := lv_entry ([.ref (ad (11 + 20 * k)), .ref (ad (11 + 20 * k2))]) (n := 3) (Nat.le_of_ble_eq_true rfl)
  rw [lg_entry_eq]
  generalize (lg_sl ([.ref (ad (11 + 20 * k)), .ref (ad (11 + 20 * k2))]) ++ List.replicate (3 - (lg_sl ([.ref (ad (11 + 20 * k)), .ref (ad (11 + 20 * k2))])).length) Slot.unset).toArray = ls at hl ⊢
  have hl : lv_has ls 3 [(0, .ref (ad (11 + 20 * k))), (1, .ref (ad (11 + 20 * k2)))] := hl
  have hc16 := hW2.2.1
  refine lv_aload_n hx hb dX4_copyFrom_0 rfl (lv_at hl 1 rfl) ?_
  refine c_get hx hb hts hown hK hI (11 + 20 * k2) (by omega) cE_st rfl hinX4 0 (by decide) (hts (.fieldLink RX4 9 "WinderLadders$State" "settings" "[I") (by decide +kernel)) (v := .ref (ad (12 + 20 * k2))) rfl dX4_copyFrom_1 ?_
  refine lv_iconst (v := 0) hx hb dX4_copyFrom_4 (by decide) ?_
  refine lv_aload_n hx hb dX4_copyFrom_5 rfl (lv_at hl 0 rfl) ?_
  refine c_get hx hb hts hown hK hI (11 + 20 * k) (by omega) cE_st rfl hinX4 0 (by decide) (hts (.fieldLink RX4 9 "WinderLadders$State" "settings" "[I") (by decide +kernel)) (v := .ref (ad (12 + 20 * k))) rfl dX4_copyFrom_6 ?_
  refine lv_iconst (v := 0) hx hb dX4_copyFrom_9 (by decide) ?_
  refine lv_iconst (v := 4) hx hb dX4_copyFrom_10 (by decide) ?_
  refine c_cpyS hx hb (hml.trans hl.1.symm) hown (hts (.methodLink RX4 27 arraycopyName) (by decide +kernel)) (hts (.native arraycopyName) (by decide +kernel)) (hts (.static arraycopyName) (by decide +kernel)) (hts (.initialized "java/lang/System") (by decide +kernel)) hK hA hI k k2 (by omega) (by omega) (by omega) (by decide) (by decide) dX4_copyFrom_11 (fun H locs hI => ?_)
  refine lv_aload_n hx hb dX4_copyFrom_14 rfl (lv_at hl 1 rfl) ?_
  refine c_get hx hb hts hown hK hI (11 + 20 * k2) (by omega) cE_st rfl hinX4 2 (by decide) (hts (.fieldLink RX4 21 "WinderLadders$State" "ladders" "[I") (by decide +kernel)) (v := .ref (ad (14 + 20 * k2))) rfl dX4_copyFrom_15 ?_
  refine lv_iconst (v := 0) hx hb dX4_copyFrom_18 (by decide) ?_
  refine lv_aload_n hx hb dX4_copyFrom_19 rfl (lv_at hl 0 rfl) ?_
  refine c_get hx hb hts hown hK hI (11 + 20 * k) (by omega) cE_st rfl hinX4 2 (by decide) (hts (.fieldLink RX4 21 "WinderLadders$State" "ladders" "[I") (by decide +kernel)) (v := .ref (ad (14 + 20 * k))) rfl dX4_copyFrom_20 ?_
  refine lv_iconst (v := 0) hx hb dX4_copyFrom_23 (by decide) ?_
  refine lv_iconst (v := 4) hx hb dX4_copyFrom_24 (by decide) ?_
  refine c_cpyL hx hb (hml.trans hl.1.symm) hown (hts (.methodLink RX4 27 arraycopyName) (by decide +kernel)) (hts (.native arraycopyName) (by decide +kernel)) (hts (.static arraycopyName) (by decide +kernel)) (hts (.initialized "java/lang/System") (by decide +kernel)) hK hA hI k k2 (by omega) (by omega) (by omega) (by decide) (by decide) dX4_copyFrom_25 (fun H locs hI => ?_)
  rw [mrow_n C (k := k) (a := k2) (by omega) _] at hI
  try simp only [mrow_s, mrow_mrow] at hI
  refine lv_iconst (v := 0) hx hb dX4_copyFrom_28 (by decide) ?_
  refine lv_istore_n (lv' := [(2, .int 0), (0, .ref (ad (11 + 20 * k))), (1, .ref (ad (11 + 20 * k2)))]) hx hb dX4_copyFrom_29 rfl hl (by decide) rfl (fun ls hl => ?_)
  have L30 : ∀ (fuel : Nat) (j : Nat) (h1 : j ≤ cn (C k2)) (h2 : cn (C k2) < fuel + j) (H : Heap) (locs : List Loc) (ls : Array Slot), cI dd g ad pi A s.heap H locs (mrow C k (cpK (laS (stS (C k) (C k2)) (C k2)) (C k2) j)) → lv_has ls 3 [(2, .int (nI j)), (0, .ref (ad (11 + 20 * k))), (1, .ref (ad (11 + 20 * k2)))] → wk p l e wsX4_copyFrom { frames := 1, cells := 0, slots := 0, locals := 40 } s m [.ref (ad (11 + 20 * k)), .ref (ad (11 + 20 * k2))] below meth c H locs (cQv dd g ad A (fun C1 pi1 => C1 = mrow C k (cpS (C k) (C k2)) ∧ pi1 = pi)) (A) (F0 m 30 ls []) := by
    intro fuel
    induction fuel with
    | zero =>
      intro j h1 h2 H locs ls hI hl
      exact absurd h2 (by omega)
    | succ fuel ih =>
      intro j h1 h2 H locs ls hI hl
      refine lv_iload_n hx hb dX4_copyFrom_30 rfl (lv_at hl 0 rfl) ?_
      refine lv_aload_n hx hb dX4_copyFrom_31 rfl (lv_at hl 2 rfl) ?_
      refine c_get hx hb hts hown hK hI (11 + 20 * k2) (by omega) cE_st rfl hinX4 3 (by decide) (hts (.fieldLink RX4 34 "WinderLadders$State" "clockCount" "I") (by decide +kernel)) (v := .int (nI (cn (C k2)))) (congrArg (fun z => some (Value.int z)) ((by rw [mrow_n _ (by omega)]; exact hW2.1))) dX4_copyFrom_32 ?_
      refine lv_icmp_ge (tgt := 59) hx hb dX4_copyFrom_35 (by decide) (fun c1 => ?_) (fun c1 => ?_)
      · skip
        have nc1 : cn (C k2) ≤ j := (nI_leI (a := cn (C k2)) (b := j) (by omega) (by omega)).mp c1
        refine lv_aload_n hx hb dX4_copyFrom_59 rfl (lv_at hl 1 rfl) ?_
        refine lv_aload_n hx hb dX4_copyFrom_60 rfl (lv_at hl 2 rfl) ?_
        refine c_get hx hb hts hown hK hI (11 + 20 * k2) (by omega) cE_st rfl hinX4 3 (by decide) (hts (.fieldLink RX4 34 "WinderLadders$State" "clockCount" "I") (by decide +kernel)) (v := .int (nI (cn (C k2)))) (congrArg (fun z => some (Value.int z)) ((by rw [mrow_n _ (by omega)]; exact hW2.1))) dX4_copyFrom_61 ?_
        refine c_putS hx hb hts hinX4 hown hK hA hI k 5 3 (by omega) (by decide) (hts (.fieldLink RX4 34 "WinderLadders$State" "clockCount" "I") (by decide +kernel)) dX4_copyFrom_64 (fun H locs hI => ?_)
        refine lv_aload_n hx hb dX4_copyFrom_67 rfl (lv_at hl 1 rfl) ?_
        refine lv_aload_n hx hb dX4_copyFrom_68 rfl (lv_at hl 2 rfl) ?_
        refine c_get hx hb hts hown hK hI (11 + 20 * k2) (by omega) cE_st rfl hinX4 4 (by decide) (hts (.fieldLink RX4 42 "WinderLadders$State" "ladderCount" "I") (by decide +kernel)) (v := .int (C k2 6)) (congrArg (fun z => some (Value.int z)) ((mset_nk _ (by omega) _ _ _).trans (congrFun (mrow_n _ (by omega) _) _))) dX4_copyFrom_69 ?_
        refine c_putS hx hb hts hinX4 hown hK hA hI k 6 4 (by omega) (by decide) (hts (.fieldLink RX4 42 "WinderLadders$State" "ladderCount" "I") (by decide +kernel)) dX4_copyFrom_72 (fun H locs hI => ?_)
        refine lv_aload_n hx hb dX4_copyFrom_75 rfl (lv_at hl 1 rfl) ?_
        refine lv_aload_n hx hb dX4_copyFrom_76 rfl (lv_at hl 2 rfl) ?_
        refine c_get hx hb hts hown hK hI (11 + 20 * k2) (by omega) cE_st rfl hinX4 5 (by decide) (hts (.fieldLink RX4 45 "WinderLadders$State" "days" "I") (by decide +kernel)) (v := .int (C k2 4)) (congrArg (fun z => some (Value.int z)) ((mset_nk _ (by omega) _ _ _).trans ((mset_nk _ (by omega) _ _ _).trans (congrFun (mrow_n _ (by omega) _) _)))) dX4_copyFrom_77 ?_
        refine c_putS hx hb hts hinX4 hown hK hA hI k 4 5 (by omega) (by decide) (hts (.fieldLink RX4 45 "WinderLadders$State" "days" "I") (by decide +kernel)) dX4_copyFrom_80 (fun H locs hI => ?_)
        refine lv_aload_n hx hb dX4_copyFrom_83 rfl (lv_at hl 1 rfl) ?_
        refine lv_aload_n hx hb dX4_copyFrom_84 rfl (lv_at hl 2 rfl) ?_
        refine c_get hx hb hts hown hK hI (11 + 20 * k2) (by omega) cE_st rfl hinX4 6 (by decide) (hts (.fieldLink RX4 48 "WinderLadders$State" "minutes" "I") (by decide +kernel)) (v := .int (C k2 7)) (congrArg (fun z => some (Value.int z)) ((mset_nk _ (by omega) _ _ _).trans ((mset_nk _ (by omega) _ _ _).trans ((mset_nk _ (by omega) _ _ _).trans (congrFun (mrow_n _ (by omega) _) _))))) dX4_copyFrom_85 ?_
        refine c_putS hx hb hts hinX4 hown hK hA hI k 7 6 (by omega) (by decide) (hts (.fieldLink RX4 48 "WinderLadders$State" "minutes" "I") (by decide +kernel)) dX4_copyFrom_88 (fun H locs hI => ?_)
        exact c_vret hx hb hr hI (⟨by simp only [mset_mrow_s]; unfold cpS; rw [show j = cn (C k2) by omega], rfl⟩) dX4_copyFrom_91 hlocks
      · skip
        have nc1 : ¬ (cn (C k2) ≤ j) := fun h => c1 ((nI_leI (a := cn (C k2)) (b := j) (by omega) (by omega)).mpr h)
        refine lv_aload_n hx hb dX4_copyFrom_38 rfl (lv_at hl 1 rfl) ?_
        refine c_get hx hb hts hown hK hI (11 + 20 * k) (by omega) cE_st rfl hinX4 1 (by decide) (hts (.fieldLink RX4 17 "WinderLadders$State" "clocks" "[LWinderLadders$Clock;") (by decide +kernel)) (v := .ref (ad (13 + 20 * k))) rfl dX4_copyFrom_39 ?_
        refine lv_iload_n hx hb dX4_copyFrom_42 rfl (lv_at hl 0 rfl) ?_
        refine c_aldC hx hb hK hI k (by omega) (j) (by omega) rfl dX4_copyFrom_43 ?_
        refine lv_aload_n hx hb dX4_copyFrom_44 rfl (lv_at hl 2 rfl) ?_
        refine c_get hx hb hts hown hK hI (11 + 20 * k2) (by omega) cE_st rfl hinX4 1 (by decide) (hts (.fieldLink RX4 17 "WinderLadders$State" "clocks" "[LWinderLadders$Clock;") (by decide +kernel)) (v := .ref (ad (13 + 20 * k2))) rfl dX4_copyFrom_45 ?_
        refine lv_iload_n hx hb dX4_copyFrom_48 rfl (lv_at hl 0 rfl) ?_
        refine c_aldC hx hb hK hI k2 (by omega) (j) (by omega) rfl dX4_copyFrom_49 ?_
        refine c_callv (As := [.ref (ad (15 + 20 * k2 + j))]) (rest := []) hx hb hml hown hts hK hX hI (15 + 20 * k + j) (by omega) (cE_cl (by omega)) rfl (k_X0_copyFrom l dd g ad pi A hA (mrow C k (cpK (laS (stS (C k) (C k2)) (C k2)) (C k2) j)) k j (by omega) (by omega) k2 j (by omega) (by omega) hne (by rw [mrow_n _ (by omega)]; exact hgo2 _ (by omega))) (cwV 1 hts gX4_copyFrom_X0_copyFrom rfl rfl rfl (by decide +kernel) ⟨Nat.le_of_ble_eq_true rfl, Nat.le_of_ble_eq_true rfl⟩) rfl hl (Nat.le_of_ble_eq_true rfl) ⟨Nat.zero_le _, Nat.zero_le _⟩ dX4_copyFrom_50 rfl (fun C1 pi1 H locs h2 hI => ?_)
        obtain ⟨hc9, hp9⟩ := h2
        rw [mrow_n C (k := k) (a := k2) (by omega) _] at hc9
        try simp only [mrow_s, mrow_mrow] at hc9
        rw [hc9, hp9] at hI
        refine lv_iinc (v := nI (j + 1)) (lv' := [(2, .int (nI (j + 1))), (0, .ref (ad (11 + 20 * k))), (1, .ref (ad (11 + 20 * k2)))]) hx hb dX4_copyFrom_53 hl (k := 0) rfl (by rw [show Int32.ofInt 1 = nI 1 from rfl, nI_add]) (by decide) rfl (fun ls hl => ?_)
        refine lv_goto (tgt := 30) hx hb dX4_copyFrom_56 (by decide) ?_
        exact ih (j + 1) (by omega) (by omega) _ _ _ hI (lv_sub hl [0, 1, 2] rfl)
  exact L30 17 0 (by omega) (by omega) _ _ _ hI (lv_sub hl [0, 1, 2] rfl)

set_option maxHeartbeats 4000000 in
set_option maxRecDepth 100000 in
theorem k_X3_clear_p (l : Launch) (dd : va_G) (g : Nat → ClassId) (ad pi : Nat → Nat) (A : Nat → Prop) (hA : cA A ad) (C : MS)  : Met l yX3_clear wsX3_clear ({ frames := 0, cells := 0, slots := 0, locals := 0 }) (cPre dd g ad pi A C [.ref (ad 7)]) (cQv dd g ad A (fun C1 pi1 => C1 = mset C 10 4 0 ∧ pi1 = pi)) 0 0 A := by
  refine Met.ofW (cc := cX3_clear) (maxL := 1) (ret := none) (by decide) rfl ?_
  intro p e s m args below meth c s₁ B hml hv
  obtain ⟨rfl, hP0, hK, hX⟩ := hv
  have hx := B.exec
  have hb := B.bytes
  have hr := B.returns
  have hts := atoms_spec (ws := wsX3_clear) B.pre
  have hown : s.vm.findClass RX3 = some m.cls := findClass_of_methodNamed B.named
  have hlocks := B.notSynchronized
  have hinX3 : ∀ w ∈ wsX30, w ∈ wsX3_clear := by decide +kernel
  have hI : cI dd g ad pi A s.heap s.heap [] C := ⟨hP0, va_S.rf⟩
  have hl := lv_entry ([.ref (ad 7)]) (n := 1) (Nat.le_of_ble_eq_true rfl)
  rw [lg_entry_eq]
  generalize (lg_sl ([.ref (ad 7)]) ++ List.replicate (1 - (lg_sl ([.ref (ad 7)])).length) Slot.unset).toArray = ls at hl ⊢
  have hl : lv_has ls 1 [(0, .ref (ad 7))] := hl
  refine lv_aload_n hx hb dX3_clear_0 rfl (lv_at hl 0 rfl) ?_
  refine lv_iconst (v := 0) hx hb dX3_clear_1 (by decide) ?_
  refine c_putR hx hb hts hinX3 hown hK hA hI 7 4 (by decide) (hts (.fieldLink RX3 15 "WinderLadders$Row" "length" "I") (by decide +kernel)) dX3_clear_2 (fun H locs hI => ?_)
  exact c_vret hx hb hr hI (⟨rfl, rfl⟩) dX3_clear_5 hlocks

set_option maxHeartbeats 4000000 in
set_option maxRecDepth 100000 in
theorem k_X3_add_p (l : Launch) (dd : va_G) (g : Nat → ClassId) (ad pi : Nat → Nat) (A : Nat → Prop) (hA : cA A ad) (C : MS) (L : Nat) (hL : L ≤ 40) (hl9 : C 10 4 = nI L) (x : Int32) : Met l yX3_add wsX3_add ({ frames := 0, cells := 0, slots := 0, locals := 0 }) (cPre dd g ad pi A C [.ref (ad 7), .int x]) (cQi dd g ad A (fun r C1 pi1 => ((L < 40 ∧ r = 1 ∧ C1 = mset (mset C 13 L x) 10 4 (nI (L + 1))) ∨ (¬ L < 40 ∧ r = 0 ∧ C1 = C)) ∧ pi1 = pi)) 0 0 A := by
  refine Met.ofW (cc := cX3_add) (maxL := 2) (ret := (some .boolean)) (by decide) rfl ?_
  intro p e s m args below meth c s₁ B hml hv
  obtain ⟨rfl, hP0, hK, hX⟩ := hv
  have hx := B.exec
  have hb := B.bytes
  have hr := B.returns
  have hts := atoms_spec (ws := wsX3_add) B.pre
  have hown : s.vm.findClass RX3 = some m.cls := findClass_of_methodNamed B.named
  have hlocks := B.notSynchronized
  have hinX3 : ∀ w ∈ wsX30, w ∈ wsX3_add := by decide +kernel
  have hI : cI dd g ad pi A s.heap s.heap [] C := ⟨hP0, va_S.rf⟩
  have hl := lv_entry ([.ref (ad 7), .int x]) (n := 2) (Nat.le_of_ble_eq_true rfl)
  rw [lg_entry_eq]
  generalize (lg_sl ([.ref (ad 7), .int x]) ++ List.replicate (2 - (lg_sl ([.ref (ad 7), .int x])).length) Slot.unset).toArray = ls at hl ⊢
  have hl : lv_has ls 2 [(0, .ref (ad 7)), (1, .int x)] := hl
  refine lv_aload_n hx hb dX3_add_0 rfl (lv_at hl 0 rfl) ?_
  refine c_get hx hb hts hown hK hI 7 (by omega) cE_7 rfl hinX3 1 (by decide) (hts (.fieldLink RX3 15 "WinderLadders$Row" "length" "I") (by decide +kernel)) (v := .int (nI L)) (congrArg (fun z => some (Value.int z)) hl9) dX3_add_1 ?_
  refine lv_bipush (v := 40) hx hb dX3_add_4 (by decide) ?_
  refine lv_icmp_lt (tgt := 11) hx hb dX3_add_6 (by decide) (fun c1 => ?_) (fun c1 => ?_)
  · skip
    have nc1 : L < 40 := (nI_ltI (a := L) (b := 40) (by omega) (by omega)).mp c1
    refine lv_aload_n hx hb dX3_add_11 rfl (lv_at hl 0 rfl) ?_
    refine c_get hx hb hts hown hK hI 7 (by omega) cE_7 rfl hinX3 0 (by decide) (hts (.fieldLink RX3 9 "WinderLadders$Row" "numbers" "[I") (by decide +kernel)) (v := .ref (ad 8)) rfl dX3_add_12 ?_
    refine lv_aload_n hx hb dX3_add_15 rfl (lv_at hl 0 rfl) ?_
    refine c_get hx hb hts hown hK hI 7 (by omega) cE_7 rfl hinX3 1 (by decide) (hts (.fieldLink RX3 15 "WinderLadders$Row" "length" "I") (by decide +kernel)) (v := .int (nI L)) (congrArg (fun z => some (Value.int z)) hl9) dX3_add_16 ?_
    refine lv_iload_n hx hb dX3_add_19 rfl (lv_at hl 1 rfl) ?_
    refine c_astR hx hb hK hA hI 8 13 (by decide) (L) (by omega) rfl dX3_add_20 (fun H locs hI => ?_)
    refine lv_aload_n hx hb dX3_add_21 rfl (lv_at hl 0 rfl) ?_
    refine lv_dup hx hb dX3_add_22 rfl ?_
    refine c_get hx hb hts hown hK hI 7 (by omega) cE_7 rfl hinX3 1 (by decide) (hts (.fieldLink RX3 15 "WinderLadders$Row" "length" "I") (by decide +kernel)) (v := .int (nI L)) (congrArg (fun z => some (Value.int z)) ((mset_nk _ (by omega) _ _ _).trans (hl9))) dX3_add_23 ?_
    refine lv_iconst (v := 1) hx hb dX3_add_26 (by decide) ?_
    refine lv_iadd hx hb dX3_add_27 ?_
    refine lv_re (y := nI (L + 1)) (nI_add (L) (1)) ?_
    refine c_putR hx hb hts hinX3 hown hK hA hI 7 4 (by decide) (hts (.fieldLink RX3 15 "WinderLadders$Row" "length" "I") (by decide +kernel)) dX3_add_28 (fun H locs hI => ?_)
    refine lv_iconst (v := 1) hx hb dX3_add_31 (by decide) ?_
    exact c_zret (v := 1) hx hb hr (by first | rfl | decide) hI (⟨Or.inl ⟨by omega, rfl, rfl⟩, rfl⟩) dX3_add_32 hlocks
  · skip
    have nc1 : ¬ (L < 40) := fun h => c1 ((nI_ltI (a := L) (b := 40) (by omega) (by omega)).mpr h)
    refine lv_iconst (v := 0) hx hb dX3_add_9 (by decide) ?_
    exact c_zret (v := 0) hx hb hr (by first | rfl | decide) hI (⟨Or.inr ⟨by omega, rfl, rfl⟩, rfl⟩) dX3_add_10 hlocks

set_option maxHeartbeats 4000000 in
set_option maxRecDepth 100000 in
theorem k_X3_at_p (l : Launch) (dd : va_G) (g : Nat → ClassId) (ad pi : Nat → Nat) (A : Nat → Prop) (hA : cA A ad) (C : MS) (L : Nat) (hL : L ≤ 40) (hl9 : C 10 4 = nI L) (x : Int32) : Met l yX3_at wsX3_at ({ frames := 0, cells := 0, slots := 0, locals := 0 }) (cPre dd g ad pi A C [.ref (ad 7), .int x]) (cQi dd g ad A (fun r C1 pi1 => r = atR (C 13) L x ∧ C1 = C ∧ pi1 = pi)) 0 0 A := by
  refine Met.ofW (cc := cX3_at) (maxL := 2) (ret := (some .int)) (by decide) rfl ?_
  intro p e s m args below meth c s₁ B hml hv
  obtain ⟨rfl, hP0, hK, hX⟩ := hv
  have hx := B.exec
  have hb := B.bytes
  have hr := B.returns
  have hts := atoms_spec (ws := wsX3_at) B.pre
  have hown : s.vm.findClass RX3 = some m.cls := findClass_of_methodNamed B.named
  have hlocks := B.notSynchronized
  have hinX3 : ∀ w ∈ wsX30, w ∈ wsX3_at := by decide +kernel
  have hI : cI dd g ad pi A s.heap s.heap [] C := ⟨hP0, va_S.rf⟩
  have hl := lv_entry ([.ref (ad 7), .int x]) (n := 2) (Nat.le_of_ble_eq_true rfl)
  rw [lg_entry_eq]
  generalize (lg_sl ([.ref (ad 7), .int x]) ++ List.replicate (2 - (lg_sl ([.ref (ad 7), .int x])).length) Slot.unset).toArray = ls at hl ⊢
  have hl : lv_has ls 2 [(0, .ref (ad 7)), (1, .int x)] := hl
  refine lv_iload_n hx hb dX3_at_0 rfl (lv_at hl 1 rfl) ?_
  refine lv_if_lt (tgt := 21) hx hb dX3_at_1 (by decide) (fun c1 => ?_) (fun c1 => ?_)
  · skip
    refine lv_bipush (v := (-6)) hx hb dX3_at_21 (by decide) ?_
    exact c_iret (v := (-6)) hx hb hr hI (⟨by simp only [atR, if_pos c1], rfl, rfl⟩) dX3_at_23 hlocks
  · skip
    refine lv_iload_n hx hb dX3_at_4 rfl (lv_at hl 1 rfl) ?_
    refine lv_aload_n hx hb dX3_at_5 rfl (lv_at hl 0 rfl) ?_
    refine c_get hx hb hts hown hK hI 7 (by omega) cE_7 rfl hinX3 1 (by decide) (hts (.fieldLink RX3 15 "WinderLadders$Row" "length" "I") (by decide +kernel)) (v := .int (nI L)) (congrArg (fun z => some (Value.int z)) hl9) dX3_at_6 ?_
    refine lv_icmp_ge (tgt := 21) hx hb dX3_at_9 (by decide) (fun c2 => ?_) (fun c2 => ?_)
    · skip
      refine lv_bipush (v := (-6)) hx hb dX3_at_21 (by decide) ?_
      exact c_iret (v := (-6)) hx hb hr hI (⟨by simp only [atR, if_neg c1, if_pos c2], rfl, rfl⟩) dX3_at_23 hlocks
    · skip
      obtain ⟨j0, hj1, e0⟩ := nI_of c1
      have hj0 : j0 < L := Nat.lt_of_not_le fun z => c2 (by rw [e0]; exact (nI_leI (a := L) (b := j0) (by omega) (by omega)).mpr z)
      subst e0
      refine lv_aload_n hx hb dX3_at_12 rfl (lv_at hl 0 rfl) ?_
      refine c_get hx hb hts hown hK hI 7 (by omega) cE_7 rfl hinX3 0 (by decide) (hts (.fieldLink RX3 9 "WinderLadders$Row" "numbers" "[I") (by decide +kernel)) (v := .ref (ad 8)) rfl dX3_at_13 ?_
      refine lv_iload_n hx hb dX3_at_16 rfl (lv_at hl 1 rfl) ?_
      refine c_ald hx hb hK hI 8 (by decide) cE_8 (by decide) (j0) (by omega) rfl (v := C 13 j0) rfl dX3_at_17 ?_
      refine lv_goto (tgt := 23) hx hb dX3_at_18 (by decide) ?_
      exact c_iret (v := C 13 j0) hx hb hr hI (⟨(atR_in hL hj0).symm, rfl, rfl⟩) dX3_at_23 hlocks

set_option maxHeartbeats 4000000 in
set_option maxRecDepth 100000 in
theorem k_X3_clear_r (l : Launch) (dd : va_G) (g : Nat → ClassId) (ad pi : Nat → Nat) (A : Nat → Prop) (hA : cA A ad) (C : MS)  : Met l yX3_clear wsX3_clear ({ frames := 0, cells := 0, slots := 0, locals := 0 }) (cPre dd g ad pi A C [.ref (ad 9)]) (cQv dd g ad A (fun C1 pi1 => C1 = mset C 10 5 0 ∧ pi1 = pi)) 0 0 A := by
  refine Met.ofW (cc := cX3_clear) (maxL := 1) (ret := none) (by decide) rfl ?_
  intro p e s m args below meth c s₁ B hml hv
  obtain ⟨rfl, hP0, hK, hX⟩ := hv
  have hx := B.exec
  have hb := B.bytes
  have hr := B.returns
  have hts := atoms_spec (ws := wsX3_clear) B.pre
  have hown : s.vm.findClass RX3 = some m.cls := findClass_of_methodNamed B.named
  have hlocks := B.notSynchronized
  have hinX3 : ∀ w ∈ wsX30, w ∈ wsX3_clear := by decide +kernel
  have hI : cI dd g ad pi A s.heap s.heap [] C := ⟨hP0, va_S.rf⟩
  have hl := lv_entry ([.ref (ad 9)]) (n := 1) (Nat.le_of_ble_eq_true rfl)
  rw [lg_entry_eq]
  generalize (lg_sl ([.ref (ad 9)]) ++ List.replicate (1 - (lg_sl ([.ref (ad 9)])).length) Slot.unset).toArray = ls at hl ⊢
  have hl : lv_has ls 1 [(0, .ref (ad 9))] := hl
  refine lv_aload_n hx hb dX3_clear_0 rfl (lv_at hl 0 rfl) ?_
  refine lv_iconst (v := 0) hx hb dX3_clear_1 (by decide) ?_
  refine c_putR hx hb hts hinX3 hown hK hA hI 9 5 (by decide) (hts (.fieldLink RX3 15 "WinderLadders$Row" "length" "I") (by decide +kernel)) dX3_clear_2 (fun H locs hI => ?_)
  exact c_vret hx hb hr hI (⟨rfl, rfl⟩) dX3_clear_5 hlocks

set_option maxHeartbeats 4000000 in
set_option maxRecDepth 100000 in
theorem k_X3_add_r (l : Launch) (dd : va_G) (g : Nat → ClassId) (ad pi : Nat → Nat) (A : Nat → Prop) (hA : cA A ad) (C : MS) (L : Nat) (hL : L ≤ 40) (hl9 : C 10 5 = nI L) (x : Int32) : Met l yX3_add wsX3_add ({ frames := 0, cells := 0, slots := 0, locals := 0 }) (cPre dd g ad pi A C [.ref (ad 9), .int x]) (cQi dd g ad A (fun r C1 pi1 => ((L < 40 ∧ r = 1 ∧ C1 = mset (mset C 14 L x) 10 5 (nI (L + 1))) ∨ (¬ L < 40 ∧ r = 0 ∧ C1 = C)) ∧ pi1 = pi)) 0 0 A := by
  refine Met.ofW (cc := cX3_add) (maxL := 2) (ret := (some .boolean)) (by decide) rfl ?_
  intro p e s m args below meth c s₁ B hml hv
  obtain ⟨rfl, hP0, hK, hX⟩ := hv
  have hx := B.exec
  have hb := B.bytes
  have hr := B.returns
  have hts := atoms_spec (ws := wsX3_add) B.pre
  have hown : s.vm.findClass RX3 = some m.cls := findClass_of_methodNamed B.named
  have hlocks := B.notSynchronized
  have hinX3 : ∀ w ∈ wsX30, w ∈ wsX3_add := by decide +kernel
  have hI : cI dd g ad pi A s.heap s.heap [] C := ⟨hP0, va_S.rf⟩
  have hl := lv_entry ([.ref (ad 9), .int x]) (n := 2) (Nat.le_of_ble_eq_true rfl)
  rw [lg_entry_eq]
  generalize (lg_sl ([.ref (ad 9), .int x]) ++ List.replicate (2 - (lg_sl ([.ref (ad 9), .int x])).length) Slot.unset).toArray = ls at hl ⊢
  have hl : lv_has ls 2 [(0, .ref (ad 9)), (1, .int x)] := hl
  refine lv_aload_n hx hb dX3_add_0 rfl (lv_at hl 0 rfl) ?_
  refine c_get hx hb hts hown hK hI 9 (by omega) cE_9 rfl hinX3 1 (by decide) (hts (.fieldLink RX3 15 "WinderLadders$Row" "length" "I") (by decide +kernel)) (v := .int (nI L)) (congrArg (fun z => some (Value.int z)) hl9) dX3_add_1 ?_
  refine lv_bipush (v := 40) hx hb dX3_add_4 (by decide) ?_
  refine lv_icmp_lt (tgt := 11) hx hb dX3_add_6 (by decide) (fun c1 => ?_) (fun c1 => ?_)
  · skip
    have nc1 : L < 40 := (nI_ltI (a := L) (b := 40) (by omega) (by omega)).mp c1
    refine lv_aload_n hx hb dX3_add_11 rfl (lv_at hl 0 rfl) ?_
    refine c_get hx hb hts hown hK hI 9 (by omega) cE_9 rfl hinX3 0 (by decide) (hts (.fieldLink RX3 9 "WinderLadders$Row" "numbers" "[I") (by decide +kernel)) (v := .ref (ad 10)) rfl dX3_add_12 ?_
    refine lv_aload_n hx hb dX3_add_15 rfl (lv_at hl 0 rfl) ?_
    refine c_get hx hb hts hown hK hI 9 (by omega) cE_9 rfl hinX3 1 (by decide) (hts (.fieldLink RX3 15 "WinderLadders$Row" "length" "I") (by decide +kernel)) (v := .int (nI L)) (congrArg (fun z => some (Value.int z)) hl9) dX3_add_16 ?_
    refine lv_iload_n hx hb dX3_add_19 rfl (lv_at hl 1 rfl) ?_
    refine c_astR hx hb hK hA hI 10 14 (by decide) (L) (by omega) rfl dX3_add_20 (fun H locs hI => ?_)
    refine lv_aload_n hx hb dX3_add_21 rfl (lv_at hl 0 rfl) ?_
    refine lv_dup hx hb dX3_add_22 rfl ?_
    refine c_get hx hb hts hown hK hI 9 (by omega) cE_9 rfl hinX3 1 (by decide) (hts (.fieldLink RX3 15 "WinderLadders$Row" "length" "I") (by decide +kernel)) (v := .int (nI L)) (congrArg (fun z => some (Value.int z)) ((mset_nk _ (by omega) _ _ _).trans (hl9))) dX3_add_23 ?_
    refine lv_iconst (v := 1) hx hb dX3_add_26 (by decide) ?_
    refine lv_iadd hx hb dX3_add_27 ?_
    refine lv_re (y := nI (L + 1)) (nI_add (L) (1)) ?_
    refine c_putR hx hb hts hinX3 hown hK hA hI 9 5 (by decide) (hts (.fieldLink RX3 15 "WinderLadders$Row" "length" "I") (by decide +kernel)) dX3_add_28 (fun H locs hI => ?_)
    refine lv_iconst (v := 1) hx hb dX3_add_31 (by decide) ?_
    exact c_zret (v := 1) hx hb hr (by first | rfl | decide) hI (⟨Or.inl ⟨by omega, rfl, rfl⟩, rfl⟩) dX3_add_32 hlocks
  · skip
    have nc1 : ¬ (L < 40) := fun h => c1 ((nI_ltI (a := L) (b := 40) (by omega) (by omega)).mpr h)
    refine lv_iconst (v := 0) hx hb dX3_add_9 (by decide) ?_
    exact c_zret (v := 0) hx hb hr (by first | rfl | decide) hI (⟨Or.inr ⟨by omega, rfl, rfl⟩, rfl⟩) dX3_add_10 hlocks

set_option maxHeartbeats 4000000 in
set_option maxRecDepth 100000 in
theorem k_X3_at_r (l : Launch) (dd : va_G) (g : Nat → ClassId) (ad pi : Nat → Nat) (A : Nat → Prop) (hA : cA A ad) (C : MS) (L : Nat) (hL : L ≤ 40) (hl9 : C 10 5 = nI L) (x : Int32) : Met l yX3_at wsX3_at ({ frames := 0, cells := 0, slots := 0, locals := 0 }) (cPre dd g ad pi A C [.ref (ad 9), .int x]) (cQi dd g ad A (fun r C1 pi1 => r = atR (C 14) L x ∧ C1 = C ∧ pi1 = pi)) 0 0 A := by
  refine Met.ofW (cc := cX3_at) (maxL := 2) (ret := (some .int)) (by decide) rfl ?_
  intro p e s m args below meth c s₁ B hml hv
  obtain ⟨rfl, hP0, hK, hX⟩ := hv
  have hx := B.exec
  have hb := B.bytes
  have hr := B.returns
  have hts := atoms_spec (ws := wsX3_at) B.pre
  have hown : s.vm.findClass RX3 = some m.cls := findClass_of_methodNamed B.named
  have hlocks := B.notSynchronized
  have hinX3 : ∀ w ∈ wsX30, w ∈ wsX3_at := by decide +kernel
  have hI : cI dd g ad pi A s.heap s.heap [] C := ⟨hP0, va_S.rf⟩
  have hl := lv_entry ([.ref (ad 9), .int x]) (n := 2) (Nat.le_of_ble_eq_true rfl)
  rw [lg_entry_eq]
  generalize (lg_sl ([.ref (ad 9), .int x]) ++ List.replicate (2 - (lg_sl ([.ref (ad 9), .int x])).length) Slot.unset).toArray = ls at hl ⊢
  have hl : lv_has ls 2 [(0, .ref (ad 9)), (1, .int x)] := hl
  refine lv_iload_n hx hb dX3_at_0 rfl (lv_at hl 1 rfl) ?_
  refine lv_if_lt (tgt := 21) hx hb dX3_at_1 (by decide) (fun c1 => ?_) (fun c1 => ?_)
  · skip
    refine lv_bipush (v := (-6)) hx hb dX3_at_21 (by decide) ?_
    exact c_iret (v := (-6)) hx hb hr hI (⟨by simp only [atR, if_pos c1], rfl, rfl⟩) dX3_at_23 hlocks
  · skip
    refine lv_iload_n hx hb dX3_at_4 rfl (lv_at hl 1 rfl) ?_
    refine lv_aload_n hx hb dX3_at_5 rfl (lv_at hl 0 rfl) ?_
    refine c_get hx hb hts hown hK hI 9 (by omega) cE_9 rfl hinX3 1 (by decide) (hts (.fieldLink RX3 15 "WinderLadders$Row" "length" "I") (by decide +kernel)) (v := .int (nI L)) (congrArg (fun z => some (Value.int z)) hl9) dX3_at_6 ?_
    refine lv_icmp_ge (tgt := 21) hx hb dX3_at_9 (by decide) (fun c2 => ?_) (fun c2 => ?_)
    · skip
      refine lv_bipush (v := (-6)) hx hb dX3_at_21 (by decide) ?_
      exact c_iret (v := (-6)) hx hb hr hI (⟨by simp only [atR, if_neg c1, if_pos c2], rfl, rfl⟩) dX3_at_23 hlocks
    · skip
      obtain ⟨j0, hj1, e0⟩ := nI_of c1
      have hj0 : j0 < L := Nat.lt_of_not_le fun z => c2 (by rw [e0]; exact (nI_leI (a := L) (b := j0) (by omega) (by omega)).mpr z)
      subst e0
      refine lv_aload_n hx hb dX3_at_12 rfl (lv_at hl 0 rfl) ?_
      refine c_get hx hb hts hown hK hI 9 (by omega) cE_9 rfl hinX3 0 (by decide) (hts (.fieldLink RX3 9 "WinderLadders$Row" "numbers" "[I") (by decide +kernel)) (v := .ref (ad 10)) rfl dX3_at_13 ?_
      refine lv_iload_n hx hb dX3_at_16 rfl (lv_at hl 1 rfl) ?_
      refine c_ald hx hb hK hI 10 (by decide) cE_10 (by decide) (j0) (by omega) rfl (v := C 14 j0) rfl dX3_at_17 ?_
      refine lv_goto (tgt := 23) hx hb dX3_at_18 (by decide) ?_
      exact c_iret (v := C 14 j0) hx hb hr hI (⟨(atR_in hL hj0).symm, rfl, rfl⟩) dX3_at_23 hlocks

set_option maxHeartbeats 4000000 in
set_option maxRecDepth 100000 in
theorem k_X3_turnRound_r (l : Launch) (dd : va_G) (g : Nat → ClassId) (ad pi : Nat → Nat) (A : Nat → Prop) (hA : cA A ad) (C : MS) (L : Nat) (hL : L ≤ 40) (hl9 : C 10 5 = nI L)  : Met l yX3_turnRound wsX3_turnRound ({ frames := 0, cells := 0, slots := 0, locals := 0 }) (cPre dd g ad pi A C [.ref (ad 9)]) (cQv dd g ad A (fun C1 pi1 => C1 = mrow C 14 (trN (C 14) L (L / 2)) ∧ pi1 = pi)) 0 0 A := by
  refine Met.ofW (cc := cX3_turnRound) (maxL := 3) (ret := none) (by decide) rfl ?_
  intro p e s m args below meth c s₁ B hml hv
  obtain ⟨rfl, hP0, hK, hX⟩ := hv
  have hx := B.exec
  have hb := B.bytes
  have hr := B.returns
  have hts := atoms_spec (ws := wsX3_turnRound) B.pre
  have hown : s.vm.findClass RX3 = some m.cls := findClass_of_methodNamed B.named
  have hlocks := B.notSynchronized
  have hinX3 : ∀ w ∈ wsX30, w ∈ wsX3_turnRound := by decide +kernel
  have hI : cI dd g ad pi A s.heap s.heap [] C := ⟨hP0, va_S.rf⟩
  have hl := lv_entry ([.ref (ad 9)]) (n := 3) (Nat.le_of_ble_eq_true rfl)
  rw [lg_entry_eq]
  generalize (lg_sl ([.ref (ad 9)]) ++ List.replicate (3 - (lg_sl ([.ref (ad 9)])).length) Slot.unset).toArray = ls at hl ⊢
  have hl : lv_has ls 3 [(0, .ref (ad 9))] := hl
  refine lv_iconst (v := 0) hx hb dX3_turnRound_0 (by decide) ?_
  refine lv_istore_n (lv' := [(1, .int 0), (0, .ref (ad 9))]) hx hb dX3_turnRound_1 rfl hl (by decide) rfl (fun ls hl => ?_)
  have L2 : ∀ (fuel : Nat) (i : Nat) (h1 : i ≤ L / 2) (h2 : L < fuel + i) (H : Heap) (locs : List Loc) (ls : Array Slot), cI dd g ad pi A s.heap H locs (mrow C 14 (trN (C 14) L i)) → lv_has ls 3 [(1, .int (nI i)), (0, .ref (ad 9))] → wk p l e wsX3_turnRound { frames := 0, cells := 0, slots := 0, locals := 0 } s m [.ref (ad 9)] below meth c H locs (cQv dd g ad A (fun C1 pi1 => C1 = mrow C 14 (trN (C 14) L (L / 2)) ∧ pi1 = pi)) (A) (F0 m 2 ls []) := by
    intro fuel
    induction fuel with
    | zero =>
      intro i h1 h2 H locs ls hI hl
      exact absurd h2 (by omega)
    | succ fuel ih =>
      intro i h1 h2 H locs ls hI hl
      refine lv_iload_n hx hb dX3_turnRound_2 rfl (lv_at hl 0 rfl) ?_
      refine lv_aload_n hx hb dX3_turnRound_3 rfl (lv_at hl 1 rfl) ?_
      refine c_get hx hb hts hown hK hI 9 (by omega) cE_9 rfl hinX3 1 (by decide) (hts (.fieldLink RX3 15 "WinderLadders$Row" "length" "I") (by decide +kernel)) (v := .int (nI L)) (congrArg (fun z => some (Value.int z)) ((by rw [mrow_n _ (by decide)]; exact hl9))) dX3_turnRound_4 ?_
      refine lv_iconst (v := 2) hx hb dX3_turnRound_7 (by decide) ?_
      refine lv_idiv hx hb dX3_turnRound_8 (by decide) ?_
      refine lv_re (y := nI (L / 2)) (pk_div (a := L) (d := 2) (by omega) (by decide) (by decide)) ?_
      refine lv_icmp_ge (tgt := 58) hx hb dX3_turnRound_9 (by decide) (fun c1 => ?_) (fun c1 => ?_)
      · skip
        have nc1 : L / 2 ≤ i := (nI_leI (a := L / 2) (b := i) (by omega) (by omega)).mp c1
        exact c_vret hx hb hr hI (⟨by rw [show i = L / 2 by omega], rfl⟩) dX3_turnRound_58 hlocks
      · skip
        have nc1 : ¬ (L / 2 ≤ i) := fun h => c1 ((nI_leI (a := L / 2) (b := i) (by omega) (by omega)).mpr h)
        refine lv_aload_n hx hb dX3_turnRound_12 rfl (lv_at hl 1 rfl) ?_
        refine c_get hx hb hts hown hK hI 9 (by omega) cE_9 rfl hinX3 0 (by decide) (hts (.fieldLink RX3 9 "WinderLadders$Row" "numbers" "[I") (by decide +kernel)) (v := .ref (ad 10)) rfl dX3_turnRound_13 ?_
        refine lv_iload_n hx hb dX3_turnRound_16 rfl (lv_at hl 0 rfl) ?_
        refine c_ald hx hb hK hI 10 (by decide) cE_10 (by decide) (i) (by omega) rfl (v := (trN (C 14) L i) i) ((congrFun (mrow_s _ _ _) _)) dX3_turnRound_17 ?_
        refine lv_istore_n (lv' := [(2, .int ((trN (C 14) L i) i)), (1, .int (nI i)), (0, .ref (ad 9))]) hx hb dX3_turnRound_18 rfl hl (by decide) rfl (fun ls hl => ?_)
        refine lv_aload_n hx hb dX3_turnRound_19 rfl (lv_at hl 2 rfl) ?_
        refine c_get hx hb hts hown hK hI 9 (by omega) cE_9 rfl hinX3 0 (by decide) (hts (.fieldLink RX3 9 "WinderLadders$Row" "numbers" "[I") (by decide +kernel)) (v := .ref (ad 10)) rfl dX3_turnRound_20 ?_
        refine lv_iload_n hx hb dX3_turnRound_23 rfl (lv_at hl 1 rfl) ?_
        refine lv_aload_n hx hb dX3_turnRound_24 rfl (lv_at hl 2 rfl) ?_
        refine c_get hx hb hts hown hK hI 9 (by omega) cE_9 rfl hinX3 0 (by decide) (hts (.fieldLink RX3 9 "WinderLadders$Row" "numbers" "[I") (by decide +kernel)) (v := .ref (ad 10)) rfl dX3_turnRound_25 ?_
        refine lv_aload_n hx hb dX3_turnRound_28 rfl (lv_at hl 2 rfl) ?_
        refine c_get hx hb hts hown hK hI 9 (by omega) cE_9 rfl hinX3 1 (by decide) (hts (.fieldLink RX3 15 "WinderLadders$Row" "length" "I") (by decide +kernel)) (v := .int (nI L)) (congrArg (fun z => some (Value.int z)) ((by rw [mrow_n _ (by decide)]; exact hl9))) dX3_turnRound_29 ?_
        refine lv_iconst (v := 1) hx hb dX3_turnRound_32 (by decide) ?_
        refine lv_isub hx hb dX3_turnRound_33 ?_
        refine lv_re (y := nI (L - 1)) (pk_sub (a := L) (b := 1) (by omega)) ?_
        refine lv_iload_n hx hb dX3_turnRound_34 rfl (lv_at hl 1 rfl) ?_
        refine lv_isub hx hb dX3_turnRound_35 ?_
        refine lv_re (y := nI (L - 1 - i)) (pk_sub (a := L - 1) (b := i) (by omega)) ?_
        refine c_ald hx hb hK hI 10 (by decide) cE_10 (by decide) (L - 1 - i) (by omega) rfl (v := (trN (C 14) L i) (L - 1 - i)) ((congrFun (mrow_s _ _ _) _)) dX3_turnRound_36 ?_
        refine c_astR hx hb hK hA hI 10 14 (by decide) (i) (by omega) rfl dX3_turnRound_37 (fun H locs hI => ?_)
        refine lv_aload_n hx hb dX3_turnRound_38 rfl (lv_at hl 2 rfl) ?_
        refine c_get hx hb hts hown hK hI 9 (by omega) cE_9 rfl hinX3 0 (by decide) (hts (.fieldLink RX3 9 "WinderLadders$Row" "numbers" "[I") (by decide +kernel)) (v := .ref (ad 10)) rfl dX3_turnRound_39 ?_
        refine lv_aload_n hx hb dX3_turnRound_42 rfl (lv_at hl 2 rfl) ?_
        refine c_get hx hb hts hown hK hI 9 (by omega) cE_9 rfl hinX3 1 (by decide) (hts (.fieldLink RX3 15 "WinderLadders$Row" "length" "I") (by decide +kernel)) (v := .int (nI L)) (congrArg (fun z => some (Value.int z)) ((mset_nk _ (by omega) _ _ _).trans ((by rw [mrow_n _ (by decide)]; exact hl9)))) dX3_turnRound_43 ?_
        refine lv_iconst (v := 1) hx hb dX3_turnRound_46 (by decide) ?_
        refine lv_isub hx hb dX3_turnRound_47 ?_
        refine lv_re (y := nI (L - 1)) (pk_sub (a := L) (b := 1) (by omega)) ?_
        refine lv_iload_n hx hb dX3_turnRound_48 rfl (lv_at hl 1 rfl) ?_
        refine lv_isub hx hb dX3_turnRound_49 ?_
        refine lv_re (y := nI (L - 1 - i)) (pk_sub (a := L - 1) (b := i) (by omega)) ?_
        refine lv_iload_n hx hb dX3_turnRound_50 rfl (lv_at hl 0 rfl) ?_
        refine c_astR hx hb hK hA hI 10 14 (by decide) (L - 1 - i) (by omega) rfl dX3_turnRound_51 (fun H locs hI => ?_)
        refine lv_iinc (v := nI (i + 1)) (lv' := [(1, .int (nI (i + 1))), (2, .int ((trN (C 14) L i) i)), (0, .ref (ad 9))]) hx hb dX3_turnRound_52 hl (k := 1) rfl (by rw [show Int32.ofInt 1 = nI 1 from rfl, nI_add]) (by decide) rfl (fun ls hl => ?_)
        refine lv_goto (tgt := 2) hx hb dX3_turnRound_55 (by decide) ?_
        exact ih (i + 1) (by omega) (by omega) _ _ _ (by rw [mset_mrow_s, mset_mrow_s] at hI; exact hI) (lv_sub hl [0, 2] rfl)
  exact L2 41 0 (by omega) (by omega) _ _ _ (by rw [show trN (C 14) L 0 = C 14 from rfl, mrow_self]; exact hI) (lv_sub hl [0, 1] rfl)

set_option maxHeartbeats 4000000 in
set_option maxRecDepth 100000 in
theorem k_X4_minutesOf_p (l : Launch) (dd : va_G) (g : Nat → ClassId) (ad pi : Nat → Nat) (A : Nat → Prop) (hA : cA A ad) (C : MS) (k : Nat) (hk : k < 10) (L : Nat) (hL : L ≤ 40) (hl9 : C 10 4 = nI L) (hW : Wk (C k)) (hLd : Lad (C k))  : Met l yX4_minutesOf wsX4_minutesOf ({ frames := 2, cells := 0, slots := 0, locals := 45 }) (cPre dd g ad pi A C [.ref (ad (11 + 20 * k)), .ref (ad 7)]) (cQi dd g ad A (fun r C1 pi1 => ((gdN (C k) (C 13) L ∧ r = moN (C k) (C 13) L) ∨ (¬ gdN (C k) (C 13) L ∧ r = -1)) ∧ C1 = C ∧ pi1 = pi)) 0 0 A := by
  refine Met.ofW (cc := cX4_minutesOf) (maxL := 10) (ret := (some .int)) (by decide) rfl ?_
  intro p e s m args below meth c s₁ B hml hv
  obtain ⟨rfl, hP0, hK, hX⟩ := hv
  have hx := B.exec
  have hb := B.bytes
  have hr := B.returns
  have hts := atoms_spec (ws := wsX4_minutesOf) B.pre
  have hown : s.vm.findClass RX4 = some m.cls := findClass_of_methodNamed B.named
  have hlocks := B.notSynchronized
  have hinX0 : ∀ w ∈ wsX00, w ∈ wsX4_minutesOf := by decide +kernel
  have hinX3 : ∀ w ∈ wsX30, w ∈ wsX4_minutesOf := by decide +kernel
  have hinX4 : ∀ w ∈ wsX40, w ∈ wsX4_minutesOf := by decide +kernel
  have hI : cI dd g ad pi A s.heap s.heap [] C := ⟨hP0, va_S.rf⟩
  have hl := lv_entry ([.ref (ad (11 + 20 * k)), .ref (ad 7)]) (n := 10) (Nat.le_of_ble_eq_true rfl)
  rw [lg_entry_eq]
  generalize (lg_sl ([.ref (ad (11 + 20 * k)), .ref (ad 7)]) ++ List.replicate (10 - (lg_sl ([.ref (ad (11 + 20 * k)), .ref (ad 7)])).length) Slot.unset).toArray = ls at hl ⊢
  have hl : lv_has ls 10 [(0, .ref (ad (11 + 20 * k))), (1, .ref (ad 7))] := hl
  have hc16 := hW.2.1
  have hl4 := hW.2.2.2
  refine lv_iconst (v := 0) hx hb dX4_minutesOf_0 (by decide) ?_
  refine lv_istore_n (lv' := [(2, .int 0), (0, .ref (ad (11 + 20 * k))), (1, .ref (ad 7))]) hx hb dX4_minutesOf_1 rfl hl (by decide) rfl (fun ls hl => ?_)
  refine lv_bipush (v := (-6)) hx hb dX4_minutesOf_2 (by decide) ?_
  refine lv_istore_n (lv' := [(3, .int ((-6))), (2, .int 0), (0, .ref (ad (11 + 20 * k))), (1, .ref (ad 7))]) hx hb dX4_minutesOf_4 rfl hl (by decide) rfl (fun ls hl => ?_)
  refine lv_iconst (v := 0) hx hb dX4_minutesOf_5 (by decide) ?_
  refine lv_istore (lv' := [(4, .int 0), (3, .int ((-6))), (2, .int 0), (0, .ref (ad (11 + 20 * k))), (1, .ref (ad 7))]) hx hb dX4_minutesOf_6 hl (by decide) rfl (fun ls hl => ?_)
  refine lv_iconst (v := 0) hx hb dX4_minutesOf_8 (by decide) ?_
  refine lv_istore (lv' := [(5, .int 0), (4, .int 0), (3, .int ((-6))), (2, .int 0), (0, .ref (ad (11 + 20 * k))), (1, .ref (ad 7))]) hx hb dX4_minutesOf_9 hl (by decide) rfl (fun ls hl => ?_)
  refine lv_iconst (v := 0) hx hb dX4_minutesOf_11 (by decide) ?_
  refine lv_istore (lv' := [(6, .int 0), (5, .int 0), (4, .int 0), (3, .int ((-6))), (2, .int 0), (0, .ref (ad (11 + 20 * k))), (1, .ref (ad 7))]) hx hb dX4_minutesOf_12 hl (by decide) rfl (fun ls hl => ?_)
  have L14 : ∀ (fuel : Nat) (j : Nat) (h1 : j ≤ L) (h2 : L < fuel + j) (hg : gdN (C k) (C 13) j) (H : Heap) (locs : List Loc) (ls : Array Slot), cI dd g ad pi A s.heap H locs C → lv_has ls 10 [(6, .int (nI j)), (5, .int (nI (wkN (C k) (C 13) j))), (4, .int (spN (C k) (C 13) j)), (3, .int (caN (C k) (C 13) j)), (2, .int (hrN (C k) (C 13) j)), (0, .ref (ad (11 + 20 * k))), (1, .ref (ad 7))] → wk p l e wsX4_minutesOf { frames := 2, cells := 0, slots := 0, locals := 45 } s m [.ref (ad (11 + 20 * k)), .ref (ad 7)] below meth c H locs (cQi dd g ad A (fun r C1 pi1 => ((gdN (C k) (C 13) L ∧ r = moN (C k) (C 13) L) ∨ (¬ gdN (C k) (C 13) L ∧ r = -1)) ∧ C1 = C ∧ pi1 = pi)) (A) (F0 m 14 ls []) := by
    intro fuel
    induction fuel with
    | zero =>
      intro j h1 h2 hg H locs ls hI hl
      exact absurd h2 (by omega)
    | succ fuel ih =>
      intro j h1 h2 hg H locs ls hI hl
      have hwk := wkN_le (C k) (C 13) j
      refine lv_iload hx hb dX4_minutesOf_14 (lv_at hl 0 rfl) ?_
      refine lv_aload_n hx hb dX4_minutesOf_16 rfl (lv_at hl 6 rfl) ?_
      refine c_get hx hb hts hown hK hI 7 (by omega) cE_7 rfl hinX3 1 (by decide) (hts (.fieldLink RX4 88 "WinderLadders$Row" "length" "I") (by decide +kernel)) (v := .int (nI L)) (congrArg (fun z => some (Value.int z)) hl9) dX4_minutesOf_17 ?_
      refine lv_icmp_ge (tgt := 122) hx hb dX4_minutesOf_20 (by decide) (fun c1 => ?_) (fun c1 => ?_)
      · skip
        have nc1 : L ≤ j := (nI_leI (a := L) (b := j) (by omega) (by omega)).mp c1
        refine lv_iload hx hb dX4_minutesOf_122 (lv_at hl 2 rfl) ?_
        refine lv_iload_n hx hb dX4_minutesOf_124 rfl (lv_at hl 4 rfl) ?_
        refine lv_iadd hx hb dX4_minutesOf_125 ?_
        refine lv_aload_n hx hb dX4_minutesOf_126 rfl (lv_at hl 5 rfl) ?_
        refine c_get hx hb hts hown hK hI (11 + 20 * k) (by omega) cE_st rfl hinX4 0 (by decide) (hts (.fieldLink RX4 9 "WinderLadders$State" "settings" "[I") (by decide +kernel)) (v := .ref (ad (12 + 20 * k))) rfl dX4_minutesOf_127 ?_
        refine lv_iconst (v := 2) hx hb dX4_minutesOf_130 (by decide) ?_
        refine c_ald hx hb hK hI (12 + 20 * k) (by omega) cE_se (by decide) (2) (by omega) rfl (v := C k 2) ((if_pos (show (2) < 4 by omega)).trans rfl) dX4_minutesOf_131 ?_
        refine lv_imul hx hb dX4_minutesOf_132 ?_
        refine lv_iload hx hb dX4_minutesOf_133 (lv_at hl 1 rfl) ?_
        refine lv_aload_n hx hb dX4_minutesOf_135 rfl (lv_at hl 5 rfl) ?_
        refine c_get hx hb hts hown hK hI (11 + 20 * k) (by omega) cE_st rfl hinX4 0 (by decide) (hts (.fieldLink RX4 9 "WinderLadders$State" "settings" "[I") (by decide +kernel)) (v := .ref (ad (12 + 20 * k))) rfl dX4_minutesOf_136 ?_
        refine lv_iconst (v := 3) hx hb dX4_minutesOf_139 (by decide) ?_
        refine c_ald hx hb hK hI (12 + 20 * k) (by omega) cE_se (by decide) (3) (by omega) rfl (v := C k 3) ((if_pos (show (3) < 4 by omega)).trans rfl) dX4_minutesOf_140 ?_
        refine lv_imul hx hb dX4_minutesOf_141 ?_
        refine lv_iadd hx hb dX4_minutesOf_142 ?_
        exact c_iret (v := (((spN (C k) (C 13) j) + (hrN (C k) (C 13) j)) * (C k 2)) + ((nI (wkN (C k) (C 13) j)) * (C k 3))) hx hb hr hI (⟨Or.inl ⟨by rw [show L = j by omega]; exact hg, by rw [show L = j by omega]; rfl⟩, rfl, rfl⟩) dX4_minutesOf_143 hlocks
      · skip
        have nc1 : ¬ (L ≤ j) := fun h => c1 ((nI_leI (a := L) (b := j) (by omega) (by omega)).mpr h)
        refine lv_aload_n hx hb dX4_minutesOf_23 rfl (lv_at hl 6 rfl) ?_
        refine lv_iload hx hb dX4_minutesOf_24 (lv_at hl 0 rfl) ?_
        refine c_calli (As := [.int (nI j)]) (rest := []) hx hb hml hown hts hK hX hI 7 (by omega) cE_7 rfl (k_X3_at_p l dd g ad pi A hA C L hL hl9 (nI j)) (cwV 1 hts gX4_minutesOf_X3_at rfl rfl rfl (by decide +kernel) ⟨Nat.le_of_ble_eq_true rfl, Nat.le_of_ble_eq_true rfl⟩) rfl hl (Nat.le_of_ble_eq_true rfl) ⟨Nat.zero_le _, Nat.zero_le _⟩ dX4_minutesOf_26 rfl (fun r2 C1 pi1 H locs h3 hI => ?_)
        obtain ⟨h3, hc9, hp9⟩ := h3
        rw [hc9, hp9] at hI
        rw [atR_in hL (by omega)] at h3
        have e_r2 := h3
        refine lv_istore (lv' := [(7, .int r2), (6, .int (nI j)), (5, .int (nI (wkN (C k) (C 13) j))), (4, .int (spN (C k) (C 13) j)), (3, .int (caN (C k) (C 13) j)), (2, .int (hrN (C k) (C 13) j)), (0, .ref (ad (11 + 20 * k))), (1, .ref (ad 7))]) hx hb dX4_minutesOf_29 hl (by decide) rfl (fun ls hl => ?_)
        refine lv_aload_n hx hb dX4_minutesOf_31 rfl (lv_at hl 6 rfl) ?_
        refine lv_iload hx hb dX4_minutesOf_32 (lv_at hl 0 rfl) ?_
        refine c_calli (As := [.int r2]) (rest := []) hx hb hml hown hts hK hX hI (11 + 20 * k) (by omega) cE_st rfl (k_X4_hasClock l dd g ad pi A hA C k (by omega) r2 hW) (cwV 1 hts gX4_minutesOf_X4_hasClock rfl rfl rfl (by decide +kernel) ⟨Nat.le_of_ble_eq_true rfl, Nat.le_of_ble_eq_true rfl⟩) rfl hl (Nat.le_of_ble_eq_true rfl) ⟨Nat.zero_le _, Nat.zero_le _⟩ dX4_minutesOf_34 rfl (fun r C1 pi1 H locs h5 hI => ?_)
        obtain ⟨h5, hc9, hp9⟩ := h5
        rw [hc9, hp9] at hI
        rcases h5 with ⟨⟨i4, hi_i4, e_i4⟩, rfl⟩ | ⟨b_i4, rfl⟩
        · skip
          have b_i4 : isCb (C k) r2 = true := isCb_t hW ⟨hi_i4, e_i4⟩
          have x_i4 : ix r2 = i4 := by rw [e_i4]; exact ix_nI (by omega)
          subst e_i4
          refine lv_if_ne (tgt := 42) hx hb dX4_minutesOf_37 (by decide) (fun _ => ?_) (fun c6 => absurd c6 (by decide))
          have hix : ix (C 13 j) = i4 := by rw [← e_r2]; exact ix_nI (by omega)
          refine lv_aload_n hx hb dX4_minutesOf_42 rfl (lv_at hl 6 rfl) ?_
          refine c_get hx hb hts hown hK hI (11 + 20 * k) (by omega) cE_st rfl hinX4 1 (by decide) (hts (.fieldLink RX4 17 "WinderLadders$State" "clocks" "[LWinderLadders$Clock;") (by decide +kernel)) (v := .ref (ad (13 + 20 * k))) rfl dX4_minutesOf_43 ?_
          refine lv_iload hx hb dX4_minutesOf_46 (lv_at hl 0 rfl) ?_
          refine c_aldC hx hb hK hI k (by omega) (i4) (by omega) rfl dX4_minutesOf_48 ?_
          refine lv_astore (lv' := [(8, .ref (ad (15 + 20 * k + i4))), (7, .int (nI i4)), (6, .int (nI j)), (5, .int (nI (wkN (C k) (C 13) j))), (4, .int (spN (C k) (C 13) j)), (3, .int (caN (C k) (C 13) j)), (2, .int (hrN (C k) (C 13) j)), (0, .ref (ad (11 + 20 * k))), (1, .ref (ad 7))]) hx hb dX4_minutesOf_49 hl (by decide) rfl (fun ls hl => ?_)
          refine lv_iload hx hb dX4_minutesOf_51 (lv_at hl 4 rfl) ?_
          refine lv_aload hx hb dX4_minutesOf_53 (lv_at hl 0 rfl) ?_
          refine c_get hx hb hts hown hK hI (15 + 20 * k + i4) (by omega) (cE_cl (by omega)) rfl hinX0 0 (by decide) (hts (.fieldLink RX4 104 "WinderLadders$Clock" "house" "I") (by decide +kernel)) (v := .int (C k (12 + 8 * i4 + 0))) rfl dX4_minutesOf_55 ?_
          refine lv_iload_n hx hb dX4_minutesOf_58 rfl (lv_at hl 6 rfl) ?_
          refine lv_isub hx hb dX4_minutesOf_59 ?_
          refine va_mabs hx hb (hml.trans hl.1.symm) hown (hts (.methodLink RX4 107 Lib.Math.abs.name) (by decide +kernel)) (hts (.static Lib.Math.abs.name) (by decide +kernel)) (hts (.initialized "java/lang/Math") (by decide +kernel)) (hts (.code Lib.Math.abs.name Lib.Math.abs.code 1 (some .int)) (by decide +kernel)) (Nat.le_of_ble_eq_true rfl) (Nat.le_of_ble_eq_true rfl) (Nat.zero_le _) (Nat.zero_le _) dX4_minutesOf_60 ?_
          refine lv_re (jabs_eq ((C k (12 + 8 * i4 + 0)) - (hrN (C k) (C 13) j))) ?_
          refine lv_iadd hx hb dX4_minutesOf_63 ?_
          refine lv_istore (lv' := [(4, .int ((spN (C k) (C 13) j) + (jabs ((C k (12 + 8 * i4 + 0)) - (hrN (C k) (C 13) j))))), (8, .ref (ad (15 + 20 * k + i4))), (7, .int (nI i4)), (6, .int (nI j)), (5, .int (nI (wkN (C k) (C 13) j))), (3, .int (caN (C k) (C 13) j)), (2, .int (hrN (C k) (C 13) j)), (0, .ref (ad (11 + 20 * k))), (1, .ref (ad 7))]) hx hb dX4_minutesOf_64 hl (by decide) rfl (fun ls hl => ?_)
          refine lv_aload hx hb dX4_minutesOf_66 (lv_at hl 1 rfl) ?_
          refine c_get hx hb hts hown hK hI (15 + 20 * k + i4) (by omega) (cE_cl (by omega)) rfl hinX0 0 (by decide) (hts (.fieldLink RX4 104 "WinderLadders$Clock" "house" "I") (by decide +kernel)) (v := .int (C k (12 + 8 * i4 + 0))) rfl dX4_minutesOf_68 ?_
          refine lv_istore_n (lv' := [(2, .int (C k (12 + 8 * i4 + 0))), (4, .int ((spN (C k) (C 13) j) + (jabs ((C k (12 + 8 * i4 + 0)) - (hrN (C k) (C 13) j))))), (8, .ref (ad (15 + 20 * k + i4))), (7, .int (nI i4)), (6, .int (nI j)), (5, .int (nI (wkN (C k) (C 13) j))), (3, .int (caN (C k) (C 13) j)), (0, .ref (ad (11 + 20 * k))), (1, .ref (ad 7))]) hx hb dX4_minutesOf_71 rfl hl (by decide) rfl (fun ls hl => ?_)
          refine lv_aload_n hx hb dX4_minutesOf_72 rfl (lv_at hl 7 rfl) ?_
          refine lv_aload hx hb dX4_minutesOf_73 (lv_at hl 2 rfl) ?_
          refine c_calli (As := [.ref (ad (15 + 20 * k + i4))]) (rest := []) hx hb hml hown hts hK hX hI (11 + 20 * k) (by omega) cE_st rfl (k_X4_ladderNeeded l dd g ad pi A hA C k (by omega) i4 (by omega) hW hLd) (cwV 1 hts gX4_minutesOf_X4_ladderNeeded rfl rfl rfl (by decide +kernel) ⟨Nat.le_of_ble_eq_true rfl, Nat.le_of_ble_eq_true rfl⟩) rfl hl (Nat.le_of_ble_eq_true rfl) ⟨Nat.zero_le _, Nat.zero_le _⟩ dX4_minutesOf_75 rfl (fun r C1 pi1 H locs h7 hI => ?_)
          obtain ⟨hr9, hc9, hp9⟩ := h7
          rw [hc9, hp9] at hI
          subst hr9
          refine lv_istore (lv' := [(9, .int (o2i (ladF (C k) i4))), (2, .int (C k (12 + 8 * i4 + 0))), (4, .int ((spN (C k) (C 13) j) + (jabs ((C k (12 + 8 * i4 + 0)) - (hrN (C k) (C 13) j))))), (8, .ref (ad (15 + 20 * k + i4))), (7, .int (nI i4)), (6, .int (nI j)), (5, .int (nI (wkN (C k) (C 13) j))), (3, .int (caN (C k) (C 13) j)), (0, .ref (ad (11 + 20 * k))), (1, .ref (ad 7))]) hx hb dX4_minutesOf_78 hl (by decide) rfl (fun ls hl => ?_)
          refine lv_iload hx hb dX4_minutesOf_80 (lv_at hl 0 rfl) ?_
          refine lv_bipush (v := (-6)) hx hb dX4_minutesOf_82 (by decide) ?_
          refine lv_icmp_eq (tgt := 104) hx hb dX4_minutesOf_84 (by decide) (fun c8 => ?_) (fun c8 => ?_)
          · skip
            refine lv_aload_n hx hb dX4_minutesOf_104 rfl (lv_at hl 8 rfl) ?_
            refine lv_aload hx hb dX4_minutesOf_105 (lv_at hl 3 rfl) ?_
            refine c_calli (As := [.ref (ad (15 + 20 * k + i4))]) (rest := []) hx hb hml hown hts hK hX hI (11 + 20 * k) (by omega) cE_st rfl (k_X4_canBeWound l dd g ad pi A hA C k (by omega) i4 (by omega) hW hLd) (cwV 1 hts gX4_minutesOf_X4_canBeWound rfl rfl rfl (by decide +kernel) ⟨Nat.le_of_ble_eq_true rfl, Nat.le_of_ble_eq_true rfl⟩) rfl hl (Nat.le_of_ble_eq_true rfl) ⟨Nat.zero_le _, Nat.zero_le _⟩ dX4_minutesOf_107 rfl (fun r C1 pi1 H locs h10 hI => ?_)
            obtain ⟨h10, hc9, hp9⟩ := h10
            rw [hc9, hp9] at hI
            rcases h10 with ⟨b9, rfl⟩ | ⟨b9, rfl⟩
            · skip
              have b9 : canW (C k) i4 = true := b9
              refine lv_if_eq (tgt := 116) hx hb dX4_minutesOf_110 (by decide) (fun c11 => absurd c11 (by decide)) (fun _ => ?_)
              refine lv_iinc (v := nI (wkN (C k) (C 13) j + 1)) (lv' := [(5, .int (nI (wkN (C k) (C 13) j + 1))), (9, .int (o2i (ladF (C k) i4))), (2, .int (C k (12 + 8 * i4 + 0))), (4, .int ((spN (C k) (C 13) j) + (jabs ((C k (12 + 8 * i4 + 0)) - (hrN (C k) (C 13) j))))), (8, .ref (ad (15 + 20 * k + i4))), (7, .int (nI i4)), (6, .int (nI j)), (3, .int (caN (C k) (C 13) j)), (0, .ref (ad (11 + 20 * k))), (1, .ref (ad 7))]) hx hb dX4_minutesOf_113 hl (k := 6) rfl (by rw [show Int32.ofInt 1 = nI 1 from rfl, nI_add]) (by decide) rfl (fun ls hl => ?_)
              refine lv_iinc (v := nI (j + 1)) (lv' := [(6, .int (nI (j + 1))), (5, .int (nI (wkN (C k) (C 13) j + 1))), (9, .int (o2i (ladF (C k) i4))), (2, .int (C k (12 + 8 * i4 + 0))), (4, .int ((spN (C k) (C 13) j) + (jabs ((C k (12 + 8 * i4 + 0)) - (hrN (C k) (C 13) j))))), (8, .ref (ad (15 + 20 * k + i4))), (7, .int (nI i4)), (3, .int (caN (C k) (C 13) j)), (0, .ref (ad (11 + 20 * k))), (1, .ref (ad 7))]) hx hb dX4_minutesOf_116 hl (k := 6) rfl (by rw [show Int32.ofInt 1 = nI 1 from rfl, nI_add]) (by decide) rfl (fun ls hl => ?_)
              refine lv_goto (tgt := 14) hx hb dX4_minutesOf_119 (by decide) ?_
              exact ih (j + 1) (by omega) (by omega) (gdN_s hg (by rw [← e_r2]; exact b_i4)) _ _ _ hI (by rw [show wkN (C k) (C 13) (j + 1) = wkN (C k) (C 13) j + 1 by simp only [wkN, ndN, hix, if_neg c1, if_neg nc1, if_pos b_i4, if_pos c8, if_pos b9], show spN (C k) (C 13) (j + 1) = (spN (C k) (C 13) j) + (jabs ((C k (12 + 8 * i4 + 0)) - (hrN (C k) (C 13) j))) by simp only [spN, ndN, hix, if_neg c1, if_neg nc1, if_pos b_i4, if_pos c8, if_pos b9], show caN (C k) (C 13) (j + 1) = caN (C k) (C 13) j by simp only [caN, ndN, hix, if_neg c1, if_neg nc1, if_pos b_i4, if_pos c8, if_pos b9], show hrN (C k) (C 13) (j + 1) = C k (12 + 8 * i4 + 0) by simp only [hrN, ndN, hix, if_neg c1, if_neg nc1, if_pos b_i4, if_pos c8, if_pos b9]]; exact (lv_sub hl [0, 1, 4, 7, 3, 8, 9] rfl))
            · skip
              have b9 : canW (C k) i4 = false := b9
              refine lv_if_eq (tgt := 116) hx hb dX4_minutesOf_110 (by decide) (fun _ => ?_) (fun c12 => absurd (by decide) c12)
              refine lv_iinc (v := nI (j + 1)) (lv' := [(6, .int (nI (j + 1))), (9, .int (o2i (ladF (C k) i4))), (2, .int (C k (12 + 8 * i4 + 0))), (4, .int ((spN (C k) (C 13) j) + (jabs ((C k (12 + 8 * i4 + 0)) - (hrN (C k) (C 13) j))))), (8, .ref (ad (15 + 20 * k + i4))), (7, .int (nI i4)), (5, .int (nI (wkN (C k) (C 13) j))), (3, .int (caN (C k) (C 13) j)), (0, .ref (ad (11 + 20 * k))), (1, .ref (ad 7))]) hx hb dX4_minutesOf_116 hl (k := 5) rfl (by rw [show Int32.ofInt 1 = nI 1 from rfl, nI_add]) (by decide) rfl (fun ls hl => ?_)
              refine lv_goto (tgt := 14) hx hb dX4_minutesOf_119 (by decide) ?_
              exact ih (j + 1) (by omega) (by omega) (gdN_s hg (by rw [← e_r2]; exact b_i4)) _ _ _ hI (by rw [show wkN (C k) (C 13) (j + 1) = wkN (C k) (C 13) j by simp only [wkN, ndN, hix, if_neg c1, if_neg nc1, if_pos b_i4, if_pos c8, if_neg (Bool.eq_false_iff.mp b9)], show spN (C k) (C 13) (j + 1) = (spN (C k) (C 13) j) + (jabs ((C k (12 + 8 * i4 + 0)) - (hrN (C k) (C 13) j))) by simp only [spN, ndN, hix, if_neg c1, if_neg nc1, if_pos b_i4, if_pos c8, if_neg (Bool.eq_false_iff.mp b9)], show caN (C k) (C 13) (j + 1) = caN (C k) (C 13) j by simp only [caN, ndN, hix, if_neg c1, if_neg nc1, if_pos b_i4, if_pos c8, if_neg (Bool.eq_false_iff.mp b9)], show hrN (C k) (C 13) (j + 1) = C k (12 + 8 * i4 + 0) by simp only [hrN, ndN, hix, if_neg c1, if_neg nc1, if_pos b_i4, if_pos c8, if_neg (Bool.eq_false_iff.mp b9)]]; exact (lv_sub hl [0, 6, 3, 7, 2, 8, 9] rfl))
          · skip
            refine lv_iload hx hb dX4_minutesOf_87 (lv_at hl 0 rfl) ?_
            refine lv_iload_n hx hb dX4_minutesOf_89 rfl (lv_at hl 7 rfl) ?_
            refine lv_icmp_eq (tgt := 104) hx hb dX4_minutesOf_90 (by decide) (fun c13 => ?_) (fun c13 => ?_)
            · skip
              refine lv_aload_n hx hb dX4_minutesOf_104 rfl (lv_at hl 8 rfl) ?_
              refine lv_aload hx hb dX4_minutesOf_105 (lv_at hl 3 rfl) ?_
              refine c_calli (As := [.ref (ad (15 + 20 * k + i4))]) (rest := []) hx hb hml hown hts hK hX hI (11 + 20 * k) (by omega) cE_st rfl (k_X4_canBeWound l dd g ad pi A hA C k (by omega) i4 (by omega) hW hLd) (cwV 1 hts gX4_minutesOf_X4_canBeWound rfl rfl rfl (by decide +kernel) ⟨Nat.le_of_ble_eq_true rfl, Nat.le_of_ble_eq_true rfl⟩) rfl hl (Nat.le_of_ble_eq_true rfl) ⟨Nat.zero_le _, Nat.zero_le _⟩ dX4_minutesOf_107 rfl (fun r C1 pi1 H locs h15 hI => ?_)
              obtain ⟨h15, hc9, hp9⟩ := h15
              rw [hc9, hp9] at hI
              rcases h15 with ⟨b14, rfl⟩ | ⟨b14, rfl⟩
              · skip
                have b14 : canW (C k) i4 = true := b14
                refine lv_if_eq (tgt := 116) hx hb dX4_minutesOf_110 (by decide) (fun c16 => absurd c16 (by decide)) (fun _ => ?_)
                refine lv_iinc (v := nI (wkN (C k) (C 13) j + 1)) (lv' := [(5, .int (nI (wkN (C k) (C 13) j + 1))), (9, .int (o2i (ladF (C k) i4))), (2, .int (C k (12 + 8 * i4 + 0))), (4, .int ((spN (C k) (C 13) j) + (jabs ((C k (12 + 8 * i4 + 0)) - (hrN (C k) (C 13) j))))), (8, .ref (ad (15 + 20 * k + i4))), (7, .int (nI i4)), (6, .int (nI j)), (3, .int (caN (C k) (C 13) j)), (0, .ref (ad (11 + 20 * k))), (1, .ref (ad 7))]) hx hb dX4_minutesOf_113 hl (k := 6) rfl (by rw [show Int32.ofInt 1 = nI 1 from rfl, nI_add]) (by decide) rfl (fun ls hl => ?_)
                refine lv_iinc (v := nI (j + 1)) (lv' := [(6, .int (nI (j + 1))), (5, .int (nI (wkN (C k) (C 13) j + 1))), (9, .int (o2i (ladF (C k) i4))), (2, .int (C k (12 + 8 * i4 + 0))), (4, .int ((spN (C k) (C 13) j) + (jabs ((C k (12 + 8 * i4 + 0)) - (hrN (C k) (C 13) j))))), (8, .ref (ad (15 + 20 * k + i4))), (7, .int (nI i4)), (3, .int (caN (C k) (C 13) j)), (0, .ref (ad (11 + 20 * k))), (1, .ref (ad 7))]) hx hb dX4_minutesOf_116 hl (k := 6) rfl (by rw [show Int32.ofInt 1 = nI 1 from rfl, nI_add]) (by decide) rfl (fun ls hl => ?_)
                refine lv_goto (tgt := 14) hx hb dX4_minutesOf_119 (by decide) ?_
                exact ih (j + 1) (by omega) (by omega) (gdN_s hg (by rw [← e_r2]; exact b_i4)) _ _ _ hI (by rw [show wkN (C k) (C 13) (j + 1) = wkN (C k) (C 13) j + 1 by simp only [wkN, ndN, hix, if_neg c1, if_neg nc1, if_pos b_i4, if_neg c8, if_pos c13, if_pos b14], show spN (C k) (C 13) (j + 1) = (spN (C k) (C 13) j) + (jabs ((C k (12 + 8 * i4 + 0)) - (hrN (C k) (C 13) j))) by simp only [spN, ndN, hix, if_neg c1, if_neg nc1, if_pos b_i4, if_neg c8, if_pos c13, if_pos b14], show caN (C k) (C 13) (j + 1) = caN (C k) (C 13) j by simp only [caN, ndN, hix, if_neg c1, if_neg nc1, if_pos b_i4, if_neg c8, if_pos c13, if_pos b14], show hrN (C k) (C 13) (j + 1) = C k (12 + 8 * i4 + 0) by simp only [hrN, ndN, hix, if_neg c1, if_neg nc1, if_pos b_i4, if_neg c8, if_pos c13, if_pos b14]]; exact (lv_sub hl [0, 1, 4, 7, 3, 8, 9] rfl))
              · skip
                have b14 : canW (C k) i4 = false := b14
                refine lv_if_eq (tgt := 116) hx hb dX4_minutesOf_110 (by decide) (fun _ => ?_) (fun c17 => absurd (by decide) c17)
                refine lv_iinc (v := nI (j + 1)) (lv' := [(6, .int (nI (j + 1))), (9, .int (o2i (ladF (C k) i4))), (2, .int (C k (12 + 8 * i4 + 0))), (4, .int ((spN (C k) (C 13) j) + (jabs ((C k (12 + 8 * i4 + 0)) - (hrN (C k) (C 13) j))))), (8, .ref (ad (15 + 20 * k + i4))), (7, .int (nI i4)), (5, .int (nI (wkN (C k) (C 13) j))), (3, .int (caN (C k) (C 13) j)), (0, .ref (ad (11 + 20 * k))), (1, .ref (ad 7))]) hx hb dX4_minutesOf_116 hl (k := 5) rfl (by rw [show Int32.ofInt 1 = nI 1 from rfl, nI_add]) (by decide) rfl (fun ls hl => ?_)
                refine lv_goto (tgt := 14) hx hb dX4_minutesOf_119 (by decide) ?_
                exact ih (j + 1) (by omega) (by omega) (gdN_s hg (by rw [← e_r2]; exact b_i4)) _ _ _ hI (by rw [show wkN (C k) (C 13) (j + 1) = wkN (C k) (C 13) j by simp only [wkN, ndN, hix, if_neg c1, if_neg nc1, if_pos b_i4, if_neg c8, if_pos c13, if_neg (Bool.eq_false_iff.mp b14)], show spN (C k) (C 13) (j + 1) = (spN (C k) (C 13) j) + (jabs ((C k (12 + 8 * i4 + 0)) - (hrN (C k) (C 13) j))) by simp only [spN, ndN, hix, if_neg c1, if_neg nc1, if_pos b_i4, if_neg c8, if_pos c13, if_neg (Bool.eq_false_iff.mp b14)], show caN (C k) (C 13) (j + 1) = caN (C k) (C 13) j by simp only [caN, ndN, hix, if_neg c1, if_neg nc1, if_pos b_i4, if_neg c8, if_pos c13, if_neg (Bool.eq_false_iff.mp b14)], show hrN (C k) (C 13) (j + 1) = C k (12 + 8 * i4 + 0) by simp only [hrN, ndN, hix, if_neg c1, if_neg nc1, if_pos b_i4, if_neg c8, if_pos c13, if_neg (Bool.eq_false_iff.mp b14)]]; exact (lv_sub hl [0, 6, 3, 7, 2, 8, 9] rfl))
            · skip
              refine lv_iload hx hb dX4_minutesOf_93 (lv_at hl 2 rfl) ?_
              refine lv_iconst (v := 2) hx hb dX4_minutesOf_95 (by decide) ?_
              refine lv_iload_n hx hb dX4_minutesOf_96 rfl (lv_at hl 1 rfl) ?_
              refine lv_imul hx hb dX4_minutesOf_97 ?_
              refine lv_iadd hx hb dX4_minutesOf_98 ?_
              refine lv_istore (lv' := [(4, .int (((spN (C k) (C 13) j) + (jabs ((C k (12 + 8 * i4 + 0)) - (hrN (C k) (C 13) j)))) + (2 * (C k (12 + 8 * i4 + 0))))), (9, .int (o2i (ladF (C k) i4))), (2, .int (C k (12 + 8 * i4 + 0))), (8, .ref (ad (15 + 20 * k + i4))), (7, .int (nI i4)), (6, .int (nI j)), (5, .int (nI (wkN (C k) (C 13) j))), (3, .int (caN (C k) (C 13) j)), (0, .ref (ad (11 + 20 * k))), (1, .ref (ad 7))]) hx hb dX4_minutesOf_99 hl (by decide) rfl (fun ls hl => ?_)
              refine lv_iload hx hb dX4_minutesOf_101 (lv_at hl 1 rfl) ?_
              refine lv_istore_n (lv' := [(3, .int (o2i (ladF (C k) i4))), (4, .int (((spN (C k) (C 13) j) + (jabs ((C k (12 + 8 * i4 + 0)) - (hrN (C k) (C 13) j)))) + (2 * (C k (12 + 8 * i4 + 0))))), (9, .int (o2i (ladF (C k) i4))), (2, .int (C k (12 + 8 * i4 + 0))), (8, .ref (ad (15 + 20 * k + i4))), (7, .int (nI i4)), (6, .int (nI j)), (5, .int (nI (wkN (C k) (C 13) j))), (0, .ref (ad (11 + 20 * k))), (1, .ref (ad 7))]) hx hb dX4_minutesOf_103 rfl hl (by decide) rfl (fun ls hl => ?_)
              refine lv_aload_n hx hb dX4_minutesOf_104 rfl (lv_at hl 8 rfl) ?_
              refine lv_aload hx hb dX4_minutesOf_105 (lv_at hl 4 rfl) ?_
              refine c_calli (As := [.ref (ad (15 + 20 * k + i4))]) (rest := []) hx hb hml hown hts hK hX hI (11 + 20 * k) (by omega) cE_st rfl (k_X4_canBeWound l dd g ad pi A hA C k (by omega) i4 (by omega) hW hLd) (cwV 1 hts gX4_minutesOf_X4_canBeWound rfl rfl rfl (by decide +kernel) ⟨Nat.le_of_ble_eq_true rfl, Nat.le_of_ble_eq_true rfl⟩) rfl hl (Nat.le_of_ble_eq_true rfl) ⟨Nat.zero_le _, Nat.zero_le _⟩ dX4_minutesOf_107 rfl (fun r C1 pi1 H locs h19 hI => ?_)
              obtain ⟨h19, hc9, hp9⟩ := h19
              rw [hc9, hp9] at hI
              rcases h19 with ⟨b18, rfl⟩ | ⟨b18, rfl⟩
              · skip
                have b18 : canW (C k) i4 = true := b18
                refine lv_if_eq (tgt := 116) hx hb dX4_minutesOf_110 (by decide) (fun c20 => absurd c20 (by decide)) (fun _ => ?_)
                refine lv_iinc (v := nI (wkN (C k) (C 13) j + 1)) (lv' := [(5, .int (nI (wkN (C k) (C 13) j + 1))), (3, .int (o2i (ladF (C k) i4))), (4, .int (((spN (C k) (C 13) j) + (jabs ((C k (12 + 8 * i4 + 0)) - (hrN (C k) (C 13) j)))) + (2 * (C k (12 + 8 * i4 + 0))))), (9, .int (o2i (ladF (C k) i4))), (2, .int (C k (12 + 8 * i4 + 0))), (8, .ref (ad (15 + 20 * k + i4))), (7, .int (nI i4)), (6, .int (nI j)), (0, .ref (ad (11 + 20 * k))), (1, .ref (ad 7))]) hx hb dX4_minutesOf_113 hl (k := 7) rfl (by rw [show Int32.ofInt 1 = nI 1 from rfl, nI_add]) (by decide) rfl (fun ls hl => ?_)
                refine lv_iinc (v := nI (j + 1)) (lv' := [(6, .int (nI (j + 1))), (5, .int (nI (wkN (C k) (C 13) j + 1))), (3, .int (o2i (ladF (C k) i4))), (4, .int (((spN (C k) (C 13) j) + (jabs ((C k (12 + 8 * i4 + 0)) - (hrN (C k) (C 13) j)))) + (2 * (C k (12 + 8 * i4 + 0))))), (9, .int (o2i (ladF (C k) i4))), (2, .int (C k (12 + 8 * i4 + 0))), (8, .ref (ad (15 + 20 * k + i4))), (7, .int (nI i4)), (0, .ref (ad (11 + 20 * k))), (1, .ref (ad 7))]) hx hb dX4_minutesOf_116 hl (k := 7) rfl (by rw [show Int32.ofInt 1 = nI 1 from rfl, nI_add]) (by decide) rfl (fun ls hl => ?_)
                refine lv_goto (tgt := 14) hx hb dX4_minutesOf_119 (by decide) ?_
                exact ih (j + 1) (by omega) (by omega) (gdN_s hg (by rw [← e_r2]; exact b_i4)) _ _ _ hI (by rw [show wkN (C k) (C 13) (j + 1) = wkN (C k) (C 13) j + 1 by simp only [wkN, ndN, hix, if_neg c1, if_neg nc1, if_pos b_i4, if_neg c8, if_neg c13, if_pos b18], show spN (C k) (C 13) (j + 1) = ((spN (C k) (C 13) j) + (jabs ((C k (12 + 8 * i4 + 0)) - (hrN (C k) (C 13) j)))) + (2 * (C k (12 + 8 * i4 + 0))) by simp only [spN, ndN, hix, if_neg c1, if_neg nc1, if_pos b_i4, if_neg c8, if_neg c13, if_pos b18], show caN (C k) (C 13) (j + 1) = o2i (ladF (C k) i4) by simp only [caN, ndN, hix, if_neg c1, if_neg nc1, if_pos b_i4, if_neg c8, if_neg c13, if_pos b18], show hrN (C k) (C 13) (j + 1) = C k (12 + 8 * i4 + 0) by simp only [hrN, ndN, hix, if_neg c1, if_neg nc1, if_pos b_i4, if_neg c8, if_neg c13, if_pos b18]]; exact (lv_sub hl [0, 1, 3, 2, 5, 8, 9] rfl))
              · skip
                have b18 : canW (C k) i4 = false := b18
                refine lv_if_eq (tgt := 116) hx hb dX4_minutesOf_110 (by decide) (fun _ => ?_) (fun c21 => absurd (by decide) c21)
                refine lv_iinc (v := nI (j + 1)) (lv' := [(6, .int (nI (j + 1))), (3, .int (o2i (ladF (C k) i4))), (4, .int (((spN (C k) (C 13) j) + (jabs ((C k (12 + 8 * i4 + 0)) - (hrN (C k) (C 13) j)))) + (2 * (C k (12 + 8 * i4 + 0))))), (9, .int (o2i (ladF (C k) i4))), (2, .int (C k (12 + 8 * i4 + 0))), (8, .ref (ad (15 + 20 * k + i4))), (7, .int (nI i4)), (5, .int (nI (wkN (C k) (C 13) j))), (0, .ref (ad (11 + 20 * k))), (1, .ref (ad 7))]) hx hb dX4_minutesOf_116 hl (k := 6) rfl (by rw [show Int32.ofInt 1 = nI 1 from rfl, nI_add]) (by decide) rfl (fun ls hl => ?_)
                refine lv_goto (tgt := 14) hx hb dX4_minutesOf_119 (by decide) ?_
                exact ih (j + 1) (by omega) (by omega) (gdN_s hg (by rw [← e_r2]; exact b_i4)) _ _ _ hI (by rw [show wkN (C k) (C 13) (j + 1) = wkN (C k) (C 13) j by simp only [wkN, ndN, hix, if_neg c1, if_neg nc1, if_pos b_i4, if_neg c8, if_neg c13, if_neg (Bool.eq_false_iff.mp b18)], show spN (C k) (C 13) (j + 1) = ((spN (C k) (C 13) j) + (jabs ((C k (12 + 8 * i4 + 0)) - (hrN (C k) (C 13) j)))) + (2 * (C k (12 + 8 * i4 + 0))) by simp only [spN, ndN, hix, if_neg c1, if_neg nc1, if_pos b_i4, if_neg c8, if_neg c13, if_neg (Bool.eq_false_iff.mp b18)], show caN (C k) (C 13) (j + 1) = o2i (ladF (C k) i4) by simp only [caN, ndN, hix, if_neg c1, if_neg nc1, if_pos b_i4, if_neg c8, if_neg c13, if_neg (Bool.eq_false_iff.mp b18)], show hrN (C k) (C 13) (j + 1) = C k (12 + 8 * i4 + 0) by simp only [hrN, ndN, hix, if_neg c1, if_neg nc1, if_pos b_i4, if_neg c8, if_neg c13, if_neg (Bool.eq_false_iff.mp b18)]]; exact (lv_sub hl [0, 7, 2, 1, 4, 8, 9] rfl))
        · skip
          have b_i4 := isCb_f hW b_i4
          refine lv_if_ne (tgt := 42) hx hb dX4_minutesOf_37 (by decide) (fun c22 => absurd (by decide) c22) (fun _ => ?_)
          refine lv_iconst (v := (-1)) hx hb dX4_minutesOf_40 (by decide) ?_
          exact c_iret (v := (-1)) hx hb hr hI (⟨Or.inr ⟨fun z => absurd (z j (by omega)) (by rw [← e_r2, b_i4]; decide), rfl⟩, rfl, rfl⟩) dX4_minutesOf_41 hlocks
  exact L14 42 0 (by omega) (by omega) (fun i hi => absurd hi (by omega)) _ _ _ hI (lv_sub hl [0, 1, 2, 3, 4, 5, 6] rfl)

set_option maxHeartbeats 4000000 in
set_option maxRecDepth 100000 in
theorem k_X4_minutesOf_r (l : Launch) (dd : va_G) (g : Nat → ClassId) (ad pi : Nat → Nat) (A : Nat → Prop) (hA : cA A ad) (C : MS) (k : Nat) (hk : k < 10) (L : Nat) (hL : L ≤ 40) (hl9 : C 10 5 = nI L) (hW : Wk (C k)) (hLd : Lad (C k))  : Met l yX4_minutesOf wsX4_minutesOf ({ frames := 2, cells := 0, slots := 0, locals := 45 }) (cPre dd g ad pi A C [.ref (ad (11 + 20 * k)), .ref (ad 9)]) (cQi dd g ad A (fun r C1 pi1 => ((gdN (C k) (C 14) L ∧ r = moN (C k) (C 14) L) ∨ (¬ gdN (C k) (C 14) L ∧ r = -1)) ∧ C1 = C ∧ pi1 = pi)) 0 0 A := by
  refine Met.ofW (cc := cX4_minutesOf) (maxL := 10) (ret := (some .int)) (by decide) rfl ?_
  intro p e s m args below meth c s₁ B hml hv
  obtain ⟨rfl, hP0, hK, hX⟩ := hv
  have hx := B.exec
  have hb := B.bytes
  have hr := B.returns
  have hts := atoms_spec (ws := wsX4_minutesOf) B.pre
  have hown : s.vm.findClass RX4 = some m.cls := findClass_of_methodNamed B.named
  have hlocks := B.notSynchronized
  have hinX0 : ∀ w ∈ wsX00, w ∈ wsX4_minutesOf := by decide +kernel
  have hinX3 : ∀ w ∈ wsX30, w ∈ wsX4_minutesOf := by decide +kernel
  have hinX4 : ∀ w ∈ wsX40, w ∈ wsX4_minutesOf := by decide +kernel
  have hI : cI dd g ad pi A s.heap s.heap [] C := ⟨hP0, va_S.rf⟩
  have hl := lv_entry ([.ref (ad (11 + 20 * k)), .ref (ad 9)]) (n := 10) (Nat.le_of_ble_eq_true rfl)
  rw [lg_entry_eq]
  generalize (lg_sl ([.ref (ad (11 + 20 * k)), .ref (ad 9)]) ++ List.replicate (10 - (lg_sl ([.ref (ad (11 + 20 * k)), .ref (ad 9)])).length) Slot.unset).toArray = ls at hl ⊢
  have hl : lv_has ls 10 [(0, .ref (ad (11 + 20 * k))), (1, .ref (ad 9))] := hl
  have hc16 := hW.2.1
  have hl4 := hW.2.2.2
  refine lv_iconst (v := 0) hx hb dX4_minutesOf_0 (by decide) ?_
  refine lv_istore_n (lv' := [(2, .int 0), (0, .ref (ad (11 + 20 * k))), (1, .ref (ad 9))]) hx hb dX4_minutesOf_1 rfl hl (by decide) rfl (fun ls hl => ?_)
  refine lv_bipush (v := (-6)) hx hb dX4_minutesOf_2 (by decide) ?_
  refine lv_istore_n (lv' := [(3, .int ((-6))), (2, .int 0), (0, .ref (ad (11 + 20 * k))), (1, .ref (ad 9))]) hx hb dX4_minutesOf_4 rfl hl (by decide) rfl (fun ls hl => ?_)
  refine lv_iconst (v := 0) hx hb dX4_minutesOf_5 (by decide) ?_
  refine lv_istore (lv' := [(4, .int 0), (3, .int ((-6))), (2, .int 0), (0, .ref (ad (11 + 20 * k))), (1, .ref (ad 9))]) hx hb dX4_minutesOf_6 hl (by decide) rfl (fun ls hl => ?_)
  refine lv_iconst (v := 0) hx hb dX4_minutesOf_8 (by decide) ?_
  refine lv_istore (lv' := [(5, .int 0), (4, .int 0), (3, .int ((-6))), (2, .int 0), (0, .ref (ad (11 + 20 * k))), (1, .ref (ad 9))]) hx hb dX4_minutesOf_9 hl (by decide) rfl (fun ls hl => ?_)
  refine lv_iconst (v := 0) hx hb dX4_minutesOf_11 (by decide) ?_
  refine lv_istore (lv' := [(6, .int 0), (5, .int 0), (4, .int 0), (3, .int ((-6))), (2, .int 0), (0, .ref (ad (11 + 20 * k))), (1, .ref (ad 9))]) hx hb dX4_minutesOf_12 hl (by decide) rfl (fun ls hl => ?_)
  have L14 : ∀ (fuel : Nat) (j : Nat) (h1 : j ≤ L) (h2 : L < fuel + j) (hg : gdN (C k) (C 14) j) (H : Heap) (locs : List Loc) (ls : Array Slot), cI dd g ad pi A s.heap H locs C → lv_has ls 10 [(6, .int (nI j)), (5, .int (nI (wkN (C k) (C 14) j))), (4, .int (spN (C k) (C 14) j)), (3, .int (caN (C k) (C 14) j)), (2, .int (hrN (C k) (C 14) j)), (0, .ref (ad (11 + 20 * k))), (1, .ref (ad 9))] → wk p l e wsX4_minutesOf { frames := 2, cells := 0, slots := 0, locals := 45 } s m [.ref (ad (11 + 20 * k)), .ref (ad 9)] below meth c H locs (cQi dd g ad A (fun r C1 pi1 => ((gdN (C k) (C 14) L ∧ r = moN (C k) (C 14) L) ∨ (¬ gdN (C k) (C 14) L ∧ r = -1)) ∧ C1 = C ∧ pi1 = pi)) (A) (F0 m 14 ls []) := by
    intro fuel
    induction fuel with
    | zero =>
      intro j h1 h2 hg H locs ls hI hl
      exact absurd h2 (by omega)
    | succ fuel ih =>
      intro j h1 h2 hg H locs ls hI hl
      have hwk := wkN_le (C k) (C 14) j
      refine lv_iload hx hb dX4_minutesOf_14 (lv_at hl 0 rfl) ?_
      refine lv_aload_n hx hb dX4_minutesOf_16 rfl (lv_at hl 6 rfl) ?_
      refine c_get hx hb hts hown hK hI 9 (by omega) cE_9 rfl hinX3 1 (by decide) (hts (.fieldLink RX4 88 "WinderLadders$Row" "length" "I") (by decide +kernel)) (v := .int (nI L)) (congrArg (fun z => some (Value.int z)) hl9) dX4_minutesOf_17 ?_
      refine lv_icmp_ge (tgt := 122) hx hb dX4_minutesOf_20 (by decide) (fun c1 => ?_) (fun c1 => ?_)
      · skip
        have nc1 : L ≤ j := (nI_leI (a := L) (b := j) (by omega) (by omega)).mp c1
        refine lv_iload hx hb dX4_minutesOf_122 (lv_at hl 2 rfl) ?_
        refine lv_iload_n hx hb dX4_minutesOf_124 rfl (lv_at hl 4 rfl) ?_
        refine lv_iadd hx hb dX4_minutesOf_125 ?_
        refine lv_aload_n hx hb dX4_minutesOf_126 rfl (lv_at hl 5 rfl) ?_
        refine c_get hx hb hts hown hK hI (11 + 20 * k) (by omega) cE_st rfl hinX4 0 (by decide) (hts (.fieldLink RX4 9 "WinderLadders$State" "settings" "[I") (by decide +kernel)) (v := .ref (ad (12 + 20 * k))) rfl dX4_minutesOf_127 ?_
        refine lv_iconst (v := 2) hx hb dX4_minutesOf_130 (by decide) ?_
        refine c_ald hx hb hK hI (12 + 20 * k) (by omega) cE_se (by decide) (2) (by omega) rfl (v := C k 2) ((if_pos (show (2) < 4 by omega)).trans rfl) dX4_minutesOf_131 ?_
        refine lv_imul hx hb dX4_minutesOf_132 ?_
        refine lv_iload hx hb dX4_minutesOf_133 (lv_at hl 1 rfl) ?_
        refine lv_aload_n hx hb dX4_minutesOf_135 rfl (lv_at hl 5 rfl) ?_
        refine c_get hx hb hts hown hK hI (11 + 20 * k) (by omega) cE_st rfl hinX4 0 (by decide) (hts (.fieldLink RX4 9 "WinderLadders$State" "settings" "[I") (by decide +kernel)) (v := .ref (ad (12 + 20 * k))) rfl dX4_minutesOf_136 ?_
        refine lv_iconst (v := 3) hx hb dX4_minutesOf_139 (by decide) ?_
        refine c_ald hx hb hK hI (12 + 20 * k) (by omega) cE_se (by decide) (3) (by omega) rfl (v := C k 3) ((if_pos (show (3) < 4 by omega)).trans rfl) dX4_minutesOf_140 ?_
        refine lv_imul hx hb dX4_minutesOf_141 ?_
        refine lv_iadd hx hb dX4_minutesOf_142 ?_
        exact c_iret (v := (((spN (C k) (C 14) j) + (hrN (C k) (C 14) j)) * (C k 2)) + ((nI (wkN (C k) (C 14) j)) * (C k 3))) hx hb hr hI (⟨Or.inl ⟨by rw [show L = j by omega]; exact hg, by rw [show L = j by omega]; rfl⟩, rfl, rfl⟩) dX4_minutesOf_143 hlocks
      · skip
        have nc1 : ¬ (L ≤ j) := fun h => c1 ((nI_leI (a := L) (b := j) (by omega) (by omega)).mpr h)
        refine lv_aload_n hx hb dX4_minutesOf_23 rfl (lv_at hl 6 rfl) ?_
        refine lv_iload hx hb dX4_minutesOf_24 (lv_at hl 0 rfl) ?_
        refine c_calli (As := [.int (nI j)]) (rest := []) hx hb hml hown hts hK hX hI 9 (by omega) cE_9 rfl (k_X3_at_r l dd g ad pi A hA C L hL hl9 (nI j)) (cwV 1 hts gX4_minutesOf_X3_at rfl rfl rfl (by decide +kernel) ⟨Nat.le_of_ble_eq_true rfl, Nat.le_of_ble_eq_true rfl⟩) rfl hl (Nat.le_of_ble_eq_true rfl) ⟨Nat.zero_le _, Nat.zero_le _⟩ dX4_minutesOf_26 rfl (fun r2 C1 pi1 H locs h3 hI => ?_)
        obtain ⟨h3, hc9, hp9⟩ := h3
        rw [hc9, hp9] at hI
        rw [atR_in hL (by omega)] at h3
        have e_r2 := h3
        refine lv_istore (lv' := [(7, .int r2), (6, .int (nI j)), (5, .int (nI (wkN (C k) (C 14) j))), (4, .int (spN (C k) (C 14) j)), (3, .int (caN (C k) (C 14) j)), (2, .int (hrN (C k) (C 14) j)), (0, .ref (ad (11 + 20 * k))), (1, .ref (ad 9))]) hx hb dX4_minutesOf_29 hl (by decide) rfl (fun ls hl => ?_)
        refine lv_aload_n hx hb dX4_minutesOf_31 rfl (lv_at hl 6 rfl) ?_
        refine lv_iload hx hb dX4_minutesOf_32 (lv_at hl 0 rfl) ?_
        refine c_calli (As := [.int r2]) (rest := []) hx hb hml hown hts hK hX hI (11 + 20 * k) (by omega) cE_st rfl (k_X4_hasClock l dd g ad pi A hA C k (by omega) r2 hW) (cwV 1 hts gX4_minutesOf_X4_hasClock rfl rfl rfl (by decide +kernel) ⟨Nat.le_of_ble_eq_true rfl, Nat.le_of_ble_eq_true rfl⟩) rfl hl (Nat.le_of_ble_eq_true rfl) ⟨Nat.zero_le _, Nat.zero_le _⟩ dX4_minutesOf_34 rfl (fun r C1 pi1 H locs h5 hI => ?_)
        obtain ⟨h5, hc9, hp9⟩ := h5
        rw [hc9, hp9] at hI
        rcases h5 with ⟨⟨i4, hi_i4, e_i4⟩, rfl⟩ | ⟨b_i4, rfl⟩
        · skip
          have b_i4 : isCb (C k) r2 = true := isCb_t hW ⟨hi_i4, e_i4⟩
          have x_i4 : ix r2 = i4 := by rw [e_i4]; exact ix_nI (by omega)
          subst e_i4
          refine lv_if_ne (tgt := 42) hx hb dX4_minutesOf_37 (by decide) (fun _ => ?_) (fun c6 => absurd c6 (by decide))
          have hix : ix (C 14 j) = i4 := by rw [← e_r2]; exact ix_nI (by omega)
          refine lv_aload_n hx hb dX4_minutesOf_42 rfl (lv_at hl 6 rfl) ?_
          refine c_get hx hb hts hown hK hI (11 + 20 * k) (by omega) cE_st rfl hinX4 1 (by decide) (hts (.fieldLink RX4 17 "WinderLadders$State" "clocks" "[LWinderLadders$Clock;") (by decide +kernel)) (v := .ref (ad (13 + 20 * k))) rfl dX4_minutesOf_43 ?_
          refine lv_iload hx hb dX4_minutesOf_46 (lv_at hl 0 rfl) ?_
          refine c_aldC hx hb hK hI k (by omega) (i4) (by omega) rfl dX4_minutesOf_48 ?_
          refine lv_astore (lv' := [(8, .ref (ad (15 + 20 * k + i4))), (7, .int (nI i4)), (6, .int (nI j)), (5, .int (nI (wkN (C k) (C 14) j))), (4, .int (spN (C k) (C 14) j)), (3, .int (caN (C k) (C 14) j)), (2, .int (hrN (C k) (C 14) j)), (0, .ref (ad (11 + 20 * k))), (1, .ref (ad 9))]) hx hb dX4_minutesOf_49 hl (by decide) rfl (fun ls hl => ?_)
          refine lv_iload hx hb dX4_minutesOf_51 (lv_at hl 4 rfl) ?_
          refine lv_aload hx hb dX4_minutesOf_53 (lv_at hl 0 rfl) ?_
          refine c_get hx hb hts hown hK hI (15 + 20 * k + i4) (by omega) (cE_cl (by omega)) rfl hinX0 0 (by decide) (hts (.fieldLink RX4 104 "WinderLadders$Clock" "house" "I") (by decide +kernel)) (v := .int (C k (12 + 8 * i4 + 0))) rfl dX4_minutesOf_55 ?_
          refine lv_iload_n hx hb dX4_minutesOf_58 rfl (lv_at hl 6 rfl) ?_
          refine lv_isub hx hb dX4_minutesOf_59 ?_
          refine va_mabs hx hb (hml.trans hl.1.symm) hown (hts (.methodLink RX4 107 Lib.Math.abs.name) (by decide +kernel)) (hts (.static Lib.Math.abs.name) (by decide +kernel)) (hts (.initialized "java/lang/Math") (by decide +kernel)) (hts (.code Lib.Math.abs.name Lib.Math.abs.code 1 (some .int)) (by decide +kernel)) (Nat.le_of_ble_eq_true rfl) (Nat.le_of_ble_eq_true rfl) (Nat.zero_le _) (Nat.zero_le _) dX4_minutesOf_60 ?_
          refine lv_re (jabs_eq ((C k (12 + 8 * i4 + 0)) - (hrN (C k) (C 14) j))) ?_
          refine lv_iadd hx hb dX4_minutesOf_63 ?_
          refine lv_istore (lv' := [(4, .int ((spN (C k) (C 14) j) + (jabs ((C k (12 + 8 * i4 + 0)) - (hrN (C k) (C 14) j))))), (8, .ref (ad (15 + 20 * k + i4))), (7, .int (nI i4)), (6, .int (nI j)), (5, .int (nI (wkN (C k) (C 14) j))), (3, .int (caN (C k) (C 14) j)), (2, .int (hrN (C k) (C 14) j)), (0, .ref (ad (11 + 20 * k))), (1, .ref (ad 9))]) hx hb dX4_minutesOf_64 hl (by decide) rfl (fun ls hl => ?_)
          refine lv_aload hx hb dX4_minutesOf_66 (lv_at hl 1 rfl) ?_
          refine c_get hx hb hts hown hK hI (15 + 20 * k + i4) (by omega) (cE_cl (by omega)) rfl hinX0 0 (by decide) (hts (.fieldLink RX4 104 "WinderLadders$Clock" "house" "I") (by decide +kernel)) (v := .int (C k (12 + 8 * i4 + 0))) rfl dX4_minutesOf_68 ?_
          refine lv_istore_n (lv' := [(2, .int (C k (12 + 8 * i4 + 0))), (4, .int ((spN (C k) (C 14) j) + (jabs ((C k (12 + 8 * i4 + 0)) - (hrN (C k) (C 14) j))))), (8, .ref (ad (15 + 20 * k + i4))), (7, .int (nI i4)), (6, .int (nI j)), (5, .int (nI (wkN (C k) (C 14) j))), (3, .int (caN (C k) (C 14) j)), (0, .ref (ad (11 + 20 * k))), (1, .ref (ad 9))]) hx hb dX4_minutesOf_71 rfl hl (by decide) rfl (fun ls hl => ?_)
          refine lv_aload_n hx hb dX4_minutesOf_72 rfl (lv_at hl 7 rfl) ?_
          refine lv_aload hx hb dX4_minutesOf_73 (lv_at hl 2 rfl) ?_
          refine c_calli (As := [.ref (ad (15 + 20 * k + i4))]) (rest := []) hx hb hml hown hts hK hX hI (11 + 20 * k) (by omega) cE_st rfl (k_X4_ladderNeeded l dd g ad pi A hA C k (by omega) i4 (by omega) hW hLd) (cwV 1 hts gX4_minutesOf_X4_ladderNeeded rfl rfl rfl (by decide +kernel) ⟨Nat.le_of_ble_eq_true rfl, Nat.le_of_ble_eq_true rfl⟩) rfl hl (Nat.le_of_ble_eq_true rfl) ⟨Nat.zero_le _, Nat.zero_le _⟩ dX4_minutesOf_75 rfl (fun r C1 pi1 H locs h7 hI => ?_)
          obtain ⟨hr9, hc9, hp9⟩ := h7
          rw [hc9, hp9] at hI
          subst hr9
          refine lv_istore (lv' := [(9, .int (o2i (ladF (C k) i4))), (2, .int (C k (12 + 8 * i4 + 0))), (4, .int ((spN (C k) (C 14) j) + (jabs ((C k (12 + 8 * i4 + 0)) - (hrN (C k) (C 14) j))))), (8, .ref (ad (15 + 20 * k + i4))), (7, .int (nI i4)), (6, .int (nI j)), (5, .int (nI (wkN (C k) (C 14) j))), (3, .int (caN (C k) (C 14) j)), (0, .ref (ad (11 + 20 * k))), (1, .ref (ad 9))]) hx hb dX4_minutesOf_78 hl (by decide) rfl (fun ls hl => ?_)
          refine lv_iload hx hb dX4_minutesOf_80 (lv_at hl 0 rfl) ?_
          refine lv_bipush (v := (-6)) hx hb dX4_minutesOf_82 (by decide) ?_
          refine lv_icmp_eq (tgt := 104) hx hb dX4_minutesOf_84 (by decide) (fun c8 => ?_) (fun c8 => ?_)
          · skip
            refine lv_aload_n hx hb dX4_minutesOf_104 rfl (lv_at hl 8 rfl) ?_
            refine lv_aload hx hb dX4_minutesOf_105 (lv_at hl 3 rfl) ?_
            refine c_calli (As := [.ref (ad (15 + 20 * k + i4))]) (rest := []) hx hb hml hown hts hK hX hI (11 + 20 * k) (by omega) cE_st rfl (k_X4_canBeWound l dd g ad pi A hA C k (by omega) i4 (by omega) hW hLd) (cwV 1 hts gX4_minutesOf_X4_canBeWound rfl rfl rfl (by decide +kernel) ⟨Nat.le_of_ble_eq_true rfl, Nat.le_of_ble_eq_true rfl⟩) rfl hl (Nat.le_of_ble_eq_true rfl) ⟨Nat.zero_le _, Nat.zero_le _⟩ dX4_minutesOf_107 rfl (fun r C1 pi1 H locs h10 hI => ?_)
            obtain ⟨h10, hc9, hp9⟩ := h10
            rw [hc9, hp9] at hI
            rcases h10 with ⟨b9, rfl⟩ | ⟨b9, rfl⟩
            · skip
              have b9 : canW (C k) i4 = true := b9
              refine lv_if_eq (tgt := 116) hx hb dX4_minutesOf_110 (by decide) (fun c11 => absurd c11 (by decide)) (fun _ => ?_)
              refine lv_iinc (v := nI (wkN (C k) (C 14) j + 1)) (lv' := [(5, .int (nI (wkN (C k) (C 14) j + 1))), (9, .int (o2i (ladF (C k) i4))), (2, .int (C k (12 + 8 * i4 + 0))), (4, .int ((spN (C k) (C 14) j) + (jabs ((C k (12 + 8 * i4 + 0)) - (hrN (C k) (C 14) j))))), (8, .ref (ad (15 + 20 * k + i4))), (7, .int (nI i4)), (6, .int (nI j)), (3, .int (caN (C k) (C 14) j)), (0, .ref (ad (11 + 20 * k))), (1, .ref (ad 9))]) hx hb dX4_minutesOf_113 hl (k := 6) rfl (by rw [show Int32.ofInt 1 = nI 1 from rfl, nI_add]) (by decide) rfl (fun ls hl => ?_)
              refine lv_iinc (v := nI (j + 1)) (lv' := [(6, .int (nI (j + 1))), (5, .int (nI (wkN (C k) (C 14) j + 1))), (9, .int (o2i (ladF (C k) i4))), (2, .int (C k (12 + 8 * i4 + 0))), (4, .int ((spN (C k) (C 14) j) + (jabs ((C k (12 + 8 * i4 + 0)) - (hrN (C k) (C 14) j))))), (8, .ref (ad (15 + 20 * k + i4))), (7, .int (nI i4)), (3, .int (caN (C k) (C 14) j)), (0, .ref (ad (11 + 20 * k))), (1, .ref (ad 9))]) hx hb dX4_minutesOf_116 hl (k := 6) rfl (by rw [show Int32.ofInt 1 = nI 1 from rfl, nI_add]) (by decide) rfl (fun ls hl => ?_)
              refine lv_goto (tgt := 14) hx hb dX4_minutesOf_119 (by decide) ?_
              exact ih (j + 1) (by omega) (by omega) (gdN_s hg (by rw [← e_r2]; exact b_i4)) _ _ _ hI (by rw [show wkN (C k) (C 14) (j + 1) = wkN (C k) (C 14) j + 1 by simp only [wkN, ndN, hix, if_neg c1, if_neg nc1, if_pos b_i4, if_pos c8, if_pos b9], show spN (C k) (C 14) (j + 1) = (spN (C k) (C 14) j) + (jabs ((C k (12 + 8 * i4 + 0)) - (hrN (C k) (C 14) j))) by simp only [spN, ndN, hix, if_neg c1, if_neg nc1, if_pos b_i4, if_pos c8, if_pos b9], show caN (C k) (C 14) (j + 1) = caN (C k) (C 14) j by simp only [caN, ndN, hix, if_neg c1, if_neg nc1, if_pos b_i4, if_pos c8, if_pos b9], show hrN (C k) (C 14) (j + 1) = C k (12 + 8 * i4 + 0) by simp only [hrN, ndN, hix, if_neg c1, if_neg nc1, if_pos b_i4, if_pos c8, if_pos b9]]; exact (lv_sub hl [0, 1, 4, 7, 3, 8, 9] rfl))
            · skip
              have b9 : canW (C k) i4 = false := b9
              refine lv_if_eq (tgt := 116) hx hb dX4_minutesOf_110 (by decide) (fun _ => ?_) (fun c12 => absurd (by decide) c12)
              refine lv_iinc (v := nI (j + 1)) (lv' := [(6, .int (nI (j + 1))), (9, .int (o2i (ladF (C k) i4))), (2, .int (C k (12 + 8 * i4 + 0))), (4, .int ((spN (C k) (C 14) j) + (jabs ((C k (12 + 8 * i4 + 0)) - (hrN (C k) (C 14) j))))), (8, .ref (ad (15 + 20 * k + i4))), (7, .int (nI i4)), (5, .int (nI (wkN (C k) (C 14) j))), (3, .int (caN (C k) (C 14) j)), (0, .ref (ad (11 + 20 * k))), (1, .ref (ad 9))]) hx hb dX4_minutesOf_116 hl (k := 5) rfl (by rw [show Int32.ofInt 1 = nI 1 from rfl, nI_add]) (by decide) rfl (fun ls hl => ?_)
              refine lv_goto (tgt := 14) hx hb dX4_minutesOf_119 (by decide) ?_
              exact ih (j + 1) (by omega) (by omega) (gdN_s hg (by rw [← e_r2]; exact b_i4)) _ _ _ hI (by rw [show wkN (C k) (C 14) (j + 1) = wkN (C k) (C 14) j by simp only [wkN, ndN, hix, if_neg c1, if_neg nc1, if_pos b_i4, if_pos c8, if_neg (Bool.eq_false_iff.mp b9)], show spN (C k) (C 14) (j + 1) = (spN (C k) (C 14) j) + (jabs ((C k (12 + 8 * i4 + 0)) - (hrN (C k) (C 14) j))) by simp only [spN, ndN, hix, if_neg c1, if_neg nc1, if_pos b_i4, if_pos c8, if_neg (Bool.eq_false_iff.mp b9)], show caN (C k) (C 14) (j + 1) = caN (C k) (C 14) j by simp only [caN, ndN, hix, if_neg c1, if_neg nc1, if_pos b_i4, if_pos c8, if_neg (Bool.eq_false_iff.mp b9)], show hrN (C k) (C 14) (j + 1) = C k (12 + 8 * i4 + 0) by simp only [hrN, ndN, hix, if_neg c1, if_neg nc1, if_pos b_i4, if_pos c8, if_neg (Bool.eq_false_iff.mp b9)]]; exact (lv_sub hl [0, 6, 3, 7, 2, 8, 9] rfl))
          · skip
            refine lv_iload hx hb dX4_minutesOf_87 (lv_at hl 0 rfl) ?_
            refine lv_iload_n hx hb dX4_minutesOf_89 rfl (lv_at hl 7 rfl) ?_
            refine lv_icmp_eq (tgt := 104) hx hb dX4_minutesOf_90 (by decide) (fun c13 => ?_) (fun c13 => ?_)
            · skip
              refine lv_aload_n hx hb dX4_minutesOf_104 rfl (lv_at hl 8 rfl) ?_
              refine lv_aload hx hb dX4_minutesOf_105 (lv_at hl 3 rfl) ?_
              refine c_calli (As := [.ref (ad (15 + 20 * k + i4))]) (rest := []) hx hb hml hown hts hK hX hI (11 + 20 * k) (by omega) cE_st rfl (k_X4_canBeWound l dd g ad pi A hA C k (by omega) i4 (by omega) hW hLd) (cwV 1 hts gX4_minutesOf_X4_canBeWound rfl rfl rfl (by decide +kernel) ⟨Nat.le_of_ble_eq_true rfl, Nat.le_of_ble_eq_true rfl⟩) rfl hl (Nat.le_of_ble_eq_true rfl) ⟨Nat.zero_le _, Nat.zero_le _⟩ dX4_minutesOf_107 rfl (fun r C1 pi1 H locs h15 hI => ?_)
              obtain ⟨h15, hc9, hp9⟩ := h15
              rw [hc9, hp9] at hI
              rcases h15 with ⟨b14, rfl⟩ | ⟨b14, rfl⟩
              · skip
                have b14 : canW (C k) i4 = true := b14
                refine lv_if_eq (tgt := 116) hx hb dX4_minutesOf_110 (by decide) (fun c16 => absurd c16 (by decide)) (fun _ => ?_)
                refine lv_iinc (v := nI (wkN (C k) (C 14) j + 1)) (lv' := [(5, .int (nI (wkN (C k) (C 14) j + 1))), (9, .int (o2i (ladF (C k) i4))), (2, .int (C k (12 + 8 * i4 + 0))), (4, .int ((spN (C k) (C 14) j) + (jabs ((C k (12 + 8 * i4 + 0)) - (hrN (C k) (C 14) j))))), (8, .ref (ad (15 + 20 * k + i4))), (7, .int (nI i4)), (6, .int (nI j)), (3, .int (caN (C k) (C 14) j)), (0, .ref (ad (11 + 20 * k))), (1, .ref (ad 9))]) hx hb dX4_minutesOf_113 hl (k := 6) rfl (by rw [show Int32.ofInt 1 = nI 1 from rfl, nI_add]) (by decide) rfl (fun ls hl => ?_)
                refine lv_iinc (v := nI (j + 1)) (lv' := [(6, .int (nI (j + 1))), (5, .int (nI (wkN (C k) (C 14) j + 1))), (9, .int (o2i (ladF (C k) i4))), (2, .int (C k (12 + 8 * i4 + 0))), (4, .int ((spN (C k) (C 14) j) + (jabs ((C k (12 + 8 * i4 + 0)) - (hrN (C k) (C 14) j))))), (8, .ref (ad (15 + 20 * k + i4))), (7, .int (nI i4)), (3, .int (caN (C k) (C 14) j)), (0, .ref (ad (11 + 20 * k))), (1, .ref (ad 9))]) hx hb dX4_minutesOf_116 hl (k := 6) rfl (by rw [show Int32.ofInt 1 = nI 1 from rfl, nI_add]) (by decide) rfl (fun ls hl => ?_)
                refine lv_goto (tgt := 14) hx hb dX4_minutesOf_119 (by decide) ?_
                exact ih (j + 1) (by omega) (by omega) (gdN_s hg (by rw [← e_r2]; exact b_i4)) _ _ _ hI (by rw [show wkN (C k) (C 14) (j + 1) = wkN (C k) (C 14) j + 1 by simp only [wkN, ndN, hix, if_neg c1, if_neg nc1, if_pos b_i4, if_neg c8, if_pos c13, if_pos b14], show spN (C k) (C 14) (j + 1) = (spN (C k) (C 14) j) + (jabs ((C k (12 + 8 * i4 + 0)) - (hrN (C k) (C 14) j))) by simp only [spN, ndN, hix, if_neg c1, if_neg nc1, if_pos b_i4, if_neg c8, if_pos c13, if_pos b14], show caN (C k) (C 14) (j + 1) = caN (C k) (C 14) j by simp only [caN, ndN, hix, if_neg c1, if_neg nc1, if_pos b_i4, if_neg c8, if_pos c13, if_pos b14], show hrN (C k) (C 14) (j + 1) = C k (12 + 8 * i4 + 0) by simp only [hrN, ndN, hix, if_neg c1, if_neg nc1, if_pos b_i4, if_neg c8, if_pos c13, if_pos b14]]; exact (lv_sub hl [0, 1, 4, 7, 3, 8, 9] rfl))
              · skip
                have b14 : canW (C k) i4 = false := b14
                refine lv_if_eq (tgt := 116) hx hb dX4_minutesOf_110 (by decide) (fun _ => ?_) (fun c17 => absurd (by decide) c17)
                refine lv_iinc (v := nI (j + 1)) (lv' := [(6, .int (nI (j + 1))), (9, .int (o2i (ladF (C k) i4))), (2, .int (C k (12 + 8 * i4 + 0))), (4, .int ((spN (C k) (C 14) j) + (jabs ((C k (12 + 8 * i4 + 0)) - (hrN (C k) (C 14) j))))), (8, .ref (ad (15 + 20 * k + i4))), (7, .int (nI i4)), (5, .int (nI (wkN (C k) (C 14) j))), (3, .int (caN (C k) (C 14) j)), (0, .ref (ad (11 + 20 * k))), (1, .ref (ad 9))]) hx hb dX4_minutesOf_116 hl (k := 5) rfl (by rw [show Int32.ofInt 1 = nI 1 from rfl, nI_add]) (by decide) rfl (fun ls hl => ?_)
                refine lv_goto (tgt := 14) hx hb dX4_minutesOf_119 (by decide) ?_
                exact ih (j + 1) (by omega) (by omega) (gdN_s hg (by rw [← e_r2]; exact b_i4)) _ _ _ hI (by rw [show wkN (C k) (C 14) (j + 1) = wkN (C k) (C 14) j by simp only [wkN, ndN, hix, if_neg c1, if_neg nc1, if_pos b_i4, if_neg c8, if_pos c13, if_neg (Bool.eq_false_iff.mp b14)], show spN (C k) (C 14) (j + 1) = (spN (C k) (C 14) j) + (jabs ((C k (12 + 8 * i4 + 0)) - (hrN (C k) (C 14) j))) by simp only [spN, ndN, hix, if_neg c1, if_neg nc1, if_pos b_i4, if_neg c8, if_pos c13, if_neg (Bool.eq_false_iff.mp b14)], show caN (C k) (C 14) (j + 1) = caN (C k) (C 14) j by simp only [caN, ndN, hix, if_neg c1, if_neg nc1, if_pos b_i4, if_neg c8, if_pos c13, if_neg (Bool.eq_false_iff.mp b14)], show hrN (C k) (C 14) (j + 1) = C k (12 + 8 * i4 + 0) by simp only [hrN, ndN, hix, if_neg c1, if_neg nc1, if_pos b_i4, if_neg c8, if_pos c13, if_neg (Bool.eq_false_iff.mp b14)]]; exact (lv_sub hl [0, 6, 3, 7, 2, 8, 9] rfl))
            · skip
              refine lv_iload hx hb dX4_minutesOf_93 (lv_at hl 2 rfl) ?_
              refine lv_iconst (v := 2) hx hb dX4_minutesOf_95 (by decide) ?_
              refine lv_iload_n hx hb dX4_minutesOf_96 rfl (lv_at hl 1 rfl) ?_
              refine lv_imul hx hb dX4_minutesOf_97 ?_
              refine lv_iadd hx hb dX4_minutesOf_98 ?_
              refine lv_istore (lv' := [(4, .int (((spN (C k) (C 14) j) + (jabs ((C k (12 + 8 * i4 + 0)) - (hrN (C k) (C 14) j)))) + (2 * (C k (12 + 8 * i4 + 0))))), (9, .int (o2i (ladF (C k) i4))), (2, .int (C k (12 + 8 * i4 + 0))), (8, .ref (ad (15 + 20 * k + i4))), (7, .int (nI i4)), (6, .int (nI j)), (5, .int (nI (wkN (C k) (C 14) j))), (3, .int (caN (C k) (C 14) j)), (0, .ref (ad (11 + 20 * k))), (1, .ref (ad 9))]) hx hb dX4_minutesOf_99 hl (by decide) rfl (fun ls hl => ?_)
              refine lv_iload hx hb dX4_minutesOf_101 (lv_at hl 1 rfl) ?_
              refine lv_istore_n (lv' := [(3, .int (o2i (ladF (C k) i4))), (4, .int (((spN (C k) (C 14) j) + (jabs ((C k (12 + 8 * i4 + 0)) - (hrN (C k) (C 14) j)))) + (2 * (C k (12 + 8 * i4 + 0))))), (9, .int (o2i (ladF (C k) i4))), (2, .int (C k (12 + 8 * i4 + 0))), (8, .ref (ad (15 + 20 * k + i4))), (7, .int (nI i4)), (6, .int (nI j)), (5, .int (nI (wkN (C k) (C 14) j))), (0, .ref (ad (11 + 20 * k))), (1, .ref (ad 9))]) hx hb dX4_minutesOf_103 rfl hl (by decide) rfl (fun ls hl => ?_)
              refine lv_aload_n hx hb dX4_minutesOf_104 rfl (lv_at hl 8 rfl) ?_
              refine lv_aload hx hb dX4_minutesOf_105 (lv_at hl 4 rfl) ?_
              refine c_calli (As := [.ref (ad (15 + 20 * k + i4))]) (rest := []) hx hb hml hown hts hK hX hI (11 + 20 * k) (by omega) cE_st rfl (k_X4_canBeWound l dd g ad pi A hA C k (by omega) i4 (by omega) hW hLd) (cwV 1 hts gX4_minutesOf_X4_canBeWound rfl rfl rfl (by decide +kernel) ⟨Nat.le_of_ble_eq_true rfl, Nat.le_of_ble_eq_true rfl⟩) rfl hl (Nat.le_of_ble_eq_true rfl) ⟨Nat.zero_le _, Nat.zero_le _⟩ dX4_minutesOf_107 rfl (fun r C1 pi1 H locs h19 hI => ?_)
              obtain ⟨h19, hc9, hp9⟩ := h19
              rw [hc9, hp9] at hI
              rcases h19 with ⟨b18, rfl⟩ | ⟨b18, rfl⟩
              · skip
                have b18 : canW (C k) i4 = true := b18
                refine lv_if_eq (tgt := 116) hx hb dX4_minutesOf_110 (by decide) (fun c20 => absurd c20 (by decide)) (fun _ => ?_)
                refine lv_iinc (v := nI (wkN (C k) (C 14) j + 1)) (lv' := [(5, .int (nI (wkN (C k) (C 14) j + 1))), (3, .int (o2i (ladF (C k) i4))), (4, .int (((spN (C k) (C 14) j) + (jabs ((C k (12 + 8 * i4 + 0)) - (hrN (C k) (C 14) j)))) + (2 * (C k (12 + 8 * i4 + 0))))), (9, .int (o2i (ladF (C k) i4))), (2, .int (C k (12 + 8 * i4 + 0))), (8, .ref (ad (15 + 20 * k + i4))), (7, .int (nI i4)), (6, .int (nI j)), (0, .ref (ad (11 + 20 * k))), (1, .ref (ad 9))]) hx hb dX4_minutesOf_113 hl (k := 7) rfl (by rw [show Int32.ofInt 1 = nI 1 from rfl, nI_add]) (by decide) rfl (fun ls hl => ?_)
                refine lv_iinc (v := nI (j + 1)) (lv' := [(6, .int (nI (j + 1))), (5, .int (nI (wkN (C k) (C 14) j + 1))), (3, .int (o2i (ladF (C k) i4))), (4, .int (((spN (C k) (C 14) j) + (jabs ((C k (12 + 8 * i4 + 0)) - (hrN (C k) (C 14) j)))) + (2 * (C k (12 + 8 * i4 + 0))))), (9, .int (o2i (ladF (C k) i4))), (2, .int (C k (12 + 8 * i4 + 0))), (8, .ref (ad (15 + 20 * k + i4))), (7, .int (nI i4)), (0, .ref (ad (11 + 20 * k))), (1, .ref (ad 9))]) hx hb dX4_minutesOf_116 hl (k := 7) rfl (by rw [show Int32.ofInt 1 = nI 1 from rfl, nI_add]) (by decide) rfl (fun ls hl => ?_)
                refine lv_goto (tgt := 14) hx hb dX4_minutesOf_119 (by decide) ?_
                exact ih (j + 1) (by omega) (by omega) (gdN_s hg (by rw [← e_r2]; exact b_i4)) _ _ _ hI (by rw [show wkN (C k) (C 14) (j + 1) = wkN (C k) (C 14) j + 1 by simp only [wkN, ndN, hix, if_neg c1, if_neg nc1, if_pos b_i4, if_neg c8, if_neg c13, if_pos b18], show spN (C k) (C 14) (j + 1) = ((spN (C k) (C 14) j) + (jabs ((C k (12 + 8 * i4 + 0)) - (hrN (C k) (C 14) j)))) + (2 * (C k (12 + 8 * i4 + 0))) by simp only [spN, ndN, hix, if_neg c1, if_neg nc1, if_pos b_i4, if_neg c8, if_neg c13, if_pos b18], show caN (C k) (C 14) (j + 1) = o2i (ladF (C k) i4) by simp only [caN, ndN, hix, if_neg c1, if_neg nc1, if_pos b_i4, if_neg c8, if_neg c13, if_pos b18], show hrN (C k) (C 14) (j + 1) = C k (12 + 8 * i4 + 0) by simp only [hrN, ndN, hix, if_neg c1, if_neg nc1, if_pos b_i4, if_neg c8, if_neg c13, if_pos b18]]; exact (lv_sub hl [0, 1, 3, 2, 5, 8, 9] rfl))
              · skip
                have b18 : canW (C k) i4 = false := b18
                refine lv_if_eq (tgt := 116) hx hb dX4_minutesOf_110 (by decide) (fun _ => ?_) (fun c21 => absurd (by decide) c21)
                refine lv_iinc (v := nI (j + 1)) (lv' := [(6, .int (nI (j + 1))), (3, .int (o2i (ladF (C k) i4))), (4, .int (((spN (C k) (C 14) j) + (jabs ((C k (12 + 8 * i4 + 0)) - (hrN (C k) (C 14) j)))) + (2 * (C k (12 + 8 * i4 + 0))))), (9, .int (o2i (ladF (C k) i4))), (2, .int (C k (12 + 8 * i4 + 0))), (8, .ref (ad (15 + 20 * k + i4))), (7, .int (nI i4)), (5, .int (nI (wkN (C k) (C 14) j))), (0, .ref (ad (11 + 20 * k))), (1, .ref (ad 9))]) hx hb dX4_minutesOf_116 hl (k := 6) rfl (by rw [show Int32.ofInt 1 = nI 1 from rfl, nI_add]) (by decide) rfl (fun ls hl => ?_)
                refine lv_goto (tgt := 14) hx hb dX4_minutesOf_119 (by decide) ?_
                exact ih (j + 1) (by omega) (by omega) (gdN_s hg (by rw [← e_r2]; exact b_i4)) _ _ _ hI (by rw [show wkN (C k) (C 14) (j + 1) = wkN (C k) (C 14) j by simp only [wkN, ndN, hix, if_neg c1, if_neg nc1, if_pos b_i4, if_neg c8, if_neg c13, if_neg (Bool.eq_false_iff.mp b18)], show spN (C k) (C 14) (j + 1) = ((spN (C k) (C 14) j) + (jabs ((C k (12 + 8 * i4 + 0)) - (hrN (C k) (C 14) j)))) + (2 * (C k (12 + 8 * i4 + 0))) by simp only [spN, ndN, hix, if_neg c1, if_neg nc1, if_pos b_i4, if_neg c8, if_neg c13, if_neg (Bool.eq_false_iff.mp b18)], show caN (C k) (C 14) (j + 1) = o2i (ladF (C k) i4) by simp only [caN, ndN, hix, if_neg c1, if_neg nc1, if_pos b_i4, if_neg c8, if_neg c13, if_neg (Bool.eq_false_iff.mp b18)], show hrN (C k) (C 14) (j + 1) = C k (12 + 8 * i4 + 0) by simp only [hrN, ndN, hix, if_neg c1, if_neg nc1, if_pos b_i4, if_neg c8, if_neg c13, if_neg (Bool.eq_false_iff.mp b18)]]; exact (lv_sub hl [0, 7, 2, 1, 4, 8, 9] rfl))
        · skip
          have b_i4 := isCb_f hW b_i4
          refine lv_if_ne (tgt := 42) hx hb dX4_minutesOf_37 (by decide) (fun c22 => absurd (by decide) c22) (fun _ => ?_)
          refine lv_iconst (v := (-1)) hx hb dX4_minutesOf_40 (by decide) ?_
          exact c_iret (v := (-1)) hx hb hr hI (⟨Or.inr ⟨fun z => absurd (z j (by omega)) (by rw [← e_r2, b_i4]; decide), rfl⟩, rfl, rfl⟩) dX4_minutesOf_41 hlocks
  exact L14 42 0 (by omega) (by omega) (fun i hi => absurd hi (by omega)) _ _ _ hI (lv_sub hl [0, 1, 2, 3, 4, 5, 6] rfl)
