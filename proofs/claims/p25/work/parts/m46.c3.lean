set_option maxHeartbeats 4000000 in
set_option maxRecDepth 100000 in
theorem k_X4_replaceSetting (l : Launch) (dd : va_G) (g : Nat → ClassId) (ad pi : Nat → Nat) (A : Nat → Prop) (hA : cA A ad) (C : MS) (k : Nat) (hk : k < 10) (x v : Int32) : Met l yX4_replaceSetting wsX4_replaceSetting ({ frames := 1, cells := 0, slots := 0, locals := 22 }) (cPre dd g ad pi A C [.ref (ad (11 + 20 * k)), .int x, .int v]) (cQi dd g ad A (fun r C1 pi1 => r = rsR (C k) x v ∧ C1 = mrow C k (rsF (C k) x v) ∧ pi1 = pi)) 0 0 A := by
  refine Met.ofW (cc := cX4_replaceSetting) (maxL := 4) (ret := (some .int)) (by decide) rfl ?_
  intro p e s m args below meth c s₁ B hml hv
  obtain ⟨rfl, hP0, hK, hX⟩ := hv
  have hx := B.exec
  have hb := B.bytes
  have hr := B.returns
  have hts := atoms_spec (ws := wsX4_replaceSetting) B.pre
  have hown : s.vm.findClass RX4 = some m.cls := findClass_of_methodNamed B.named
  have hlocks := B.notSynchronized
  have hinX4 : ∀ w ∈ wsX40, w ∈ wsX4_replaceSetting := by decide +kernel
  have hI : cI dd g ad pi A s.heap s.heap [] C := ⟨hP0, va_S.rf⟩
  obtain ⟨hN9, tMS, hZ, hT⟩ := hX.2
  have hl := lv_entry ([.ref (ad (11 + 20 * k)), .int x, .int v]) (n := 4) (Nat.le_of_ble_eq_true rfl)
  rw [lg_entry_eq]
  generalize (lg_sl ([.ref (ad (11 + 20 * k)), .int x, .int v]) ++ List.replicate (4 - (lg_sl ([.ref (ad (11 + 20 * k)), .int x, .int v])).length) Slot.unset).toArray = ls at hl ⊢
  have hl : lv_has ls 4 [(0, .ref (ad (11 + 20 * k))), (1, .int x), (2, .int v)] := hl
  refine lv_iload_n hx hb dX4_replaceSetting_0 rfl (lv_at hl 1 rfl) ?_
  refine lv_if_lt (tgt := 22) hx hb dX4_replaceSetting_1 (by decide) (fun c1 => ?_) (fun c1 => ?_)
  · skip
    refine lv_bipush (v := (-2)) hx hb dX4_replaceSetting_22 (by decide) ?_
    exact c_iret (v := (-2)) hx hb hr hI (⟨by simp only [rsR, if_pos c1], by simp only [rsF, if_pos c1]; first | exact (mrow_self _ _).symm | rfl | (simp only [mset_mrow, mset_mrow_s, mrow_s, mrow_mrow]; done) | (simp only [mset_mrow, mset_mrow_s, mrow_s, mrow_mrow]; rfl), rfl⟩) dX4_replaceSetting_24 hlocks
  · skip
    refine lv_iload_n hx hb dX4_replaceSetting_4 rfl (lv_at hl 1 rfl) ?_
    refine lv_iconst (v := 4) hx hb dX4_replaceSetting_5 (by decide) ?_
    refine lv_icmp_ge (tgt := 22) hx hb dX4_replaceSetting_6 (by decide) (fun c2 => ?_) (fun c2 => ?_)
    · skip
      refine lv_bipush (v := (-2)) hx hb dX4_replaceSetting_22 (by decide) ?_
      exact c_iret (v := (-2)) hx hb hr hI (⟨by simp only [rsR, if_neg c1, if_pos c2], by simp only [rsF, if_neg c1, if_pos c2]; first | exact (mrow_self _ _).symm | rfl | (simp only [mset_mrow, mset_mrow_s, mrow_s, mrow_mrow]; done) | (simp only [mset_mrow, mset_mrow_s, mrow_s, mrow_mrow]; rfl), rfl⟩) dX4_replaceSetting_24 hlocks
    · skip
      obtain ⟨j0, hj1, e0⟩ := nI_of c1
      have hj0 : j0 < 4 := Nat.lt_of_not_le fun z => c2 (by rw [e0]; exact (nI_leI (a := 4) (b := j0) (by omega) (by omega)).mpr z)
      have x0 : ix x = j0 := by rw [e0]; exact ix_nI (by omega)
      subst e0
      refine lv_iload_n hx hb dX4_replaceSetting_9 rfl (lv_at hl 2 rfl) ?_
      refine lv_iconst (v := 1) hx hb dX4_replaceSetting_10 (by decide) ?_
      refine va_getsN hx hb hZ hI.2 hown (va_Nw.use rfl hN9) (fun _ h => h) dX4_replaceSetting_11 ?_
      refine lv_iload_n hx hb dX4_replaceSetting_14 rfl (lv_at hl 1 rfl) ?_
      refine va_ti hx hb hT hI.2 (vp_in_nI (n := j0) (N := 4) (by omega) (by decide)) (v := .int (if j0 = 0 then 999 else 30)) (by rw [nI_clamp (by omega)]) dX4_replaceSetting_15 ?_
      refine c_calln (As := [.int v, .int 1, .int (if j0 = 0 then 999 else 30)]) (rest := []) (host := "WinderLadders") hx hb hml hown hts hI (k_X5_isWithin l v 1 (if j0 = 0 then 999 else 30)) ⟨va_cnB 3 hts gX4_replaceSetting_X5_isWithin_n54 rfl rfl rfl hX.1 (hts (.initialized RX5) (by decide +kernel)) (by decide +kernel) ⟨Nat.le_of_ble_eq_true rfl, Nat.le_of_ble_eq_true rfl⟩, hts (.static yX5_isWithin) (by decide +kernel), trivial⟩ rfl hl (Nat.le_of_ble_eq_true rfl) ⟨Nat.zero_le _, Nat.zero_le _⟩ dX4_replaceSetting_16 rfl (fun r H locs h4 hI => ?_)
      rcases h4 with ⟨b3, rfl⟩ | ⟨b3, rfl⟩
      · skip
        refine lv_if_ne (tgt := 25) hx hb dX4_replaceSetting_19 (by decide) (fun _ => ?_) (fun c5 => absurd c5 (by decide))
        refine lv_aload_n hx hb dX4_replaceSetting_25 rfl (lv_at hl 0 rfl) ?_
        refine c_get hx hb hts hown hK hI (11 + 20 * k) (by omega) cE_st rfl hinX4 0 (by decide) (hts (.fieldLink RX4 9 "WinderLadders$State" "settings" "[I") (by decide +kernel)) (v := .ref (ad (12 + 20 * k))) rfl dX4_replaceSetting_26 ?_
        refine lv_iload_n hx hb dX4_replaceSetting_29 rfl (lv_at hl 1 rfl) ?_
        refine c_ald hx hb hK hI (12 + 20 * k) (by omega) cE_se (by decide) (j0) (by omega) rfl (v := C k j0) ((if_pos (show (j0) < 4 by omega)).trans rfl) dX4_replaceSetting_30 ?_
        refine lv_istore_n (lv' := [(3, .int (C k j0)), (0, .ref (ad (11 + 20 * k))), (1, .int (nI j0)), (2, .int v)]) hx hb dX4_replaceSetting_31 rfl hl (by decide) rfl (fun ls hl => ?_)
        refine lv_aload_n hx hb dX4_replaceSetting_32 rfl (lv_at hl 1 rfl) ?_
        refine c_get hx hb hts hown hK hI (11 + 20 * k) (by omega) cE_st rfl hinX4 0 (by decide) (hts (.fieldLink RX4 9 "WinderLadders$State" "settings" "[I") (by decide +kernel)) (v := .ref (ad (12 + 20 * k))) rfl dX4_replaceSetting_33 ?_
        refine lv_iload_n hx hb dX4_replaceSetting_36 rfl (lv_at hl 2 rfl) ?_
        refine lv_iload_n hx hb dX4_replaceSetting_37 rfl (lv_at hl 3 rfl) ?_
        refine c_astS hx hb hK hA hI k (by omega) (j0) (by omega) rfl dX4_replaceSetting_38 (fun H locs hI => ?_)
        refine lv_iload_n hx hb dX4_replaceSetting_39 rfl (lv_at hl 0 rfl) ?_
        exact c_iret (v := C k j0) hx hb hr hI (⟨by simp only [rsR, x0, if_neg c1, if_neg c2, if_pos b3], by simp only [rsF, x0, if_neg c1, if_neg c2, if_pos b3]; first | exact (mrow_self _ _).symm | rfl | (simp only [mset_mrow, mset_mrow_s, mrow_s, mrow_mrow]; done) | (simp only [mset_mrow, mset_mrow_s, mrow_s, mrow_mrow]; rfl), rfl⟩) dX4_replaceSetting_40 hlocks
      · skip
        refine lv_if_ne (tgt := 25) hx hb dX4_replaceSetting_19 (by decide) (fun c6 => absurd (by decide) c6) (fun _ => ?_)
        refine lv_bipush (v := (-2)) hx hb dX4_replaceSetting_22 (by decide) ?_
        exact c_iret (v := (-2)) hx hb hr hI (⟨by simp only [rsR, x0, if_neg c1, if_neg c2, if_neg (Bool.eq_false_iff.mp b3)], by simp only [rsF, x0, if_neg c1, if_neg c2, if_neg (Bool.eq_false_iff.mp b3)]; first | exact (mrow_self _ _).symm | rfl | (simp only [mset_mrow, mset_mrow_s, mrow_s, mrow_mrow]; done) | (simp only [mset_mrow, mset_mrow_s, mrow_s, mrow_mrow]; rfl), rfl⟩) dX4_replaceSetting_24 hlocks

set_option maxHeartbeats 4000000 in
set_option maxRecDepth 100000 in
theorem k_X4_addClock (l : Launch) (dd : va_G) (g : Nat → ClassId) (ad pi : Nat → Nat) (A : Nat → Prop) (hA : cA A ad) (C : MS) (k : Nat) (hk : k < 10) (h u d : Int32) (hW : Wk (C k))  : Met l yX4_addClock wsX4_addClock ({ frames := 1, cells := 0, slots := 0, locals := 23 }) (cPre dd g ad pi A C [.ref (ad (11 + 20 * k)), .int h, .int u, .int d]) (cQi dd g ad A (fun r C1 pi1 => r = acR (C k) h u d ∧ C1 = mrow C k (acF (C k) h u d) ∧ pi1 = pi)) 0 0 A := by
  refine Met.ofW (cc := cX4_addClock) (maxL := 4) (ret := (some .int)) (by decide) rfl ?_
  intro p e s m args below meth c s₁ B hml hv
  obtain ⟨rfl, hP0, hK, hX⟩ := hv
  have hx := B.exec
  have hb := B.bytes
  have hr := B.returns
  have hts := atoms_spec (ws := wsX4_addClock) B.pre
  have hown : s.vm.findClass RX4 = some m.cls := findClass_of_methodNamed B.named
  have hlocks := B.notSynchronized
  have hinX4 : ∀ w ∈ wsX40, w ∈ wsX4_addClock := by decide +kernel
  have hI : cI dd g ad pi A s.heap s.heap [] C := ⟨hP0, va_S.rf⟩
  have hl := lv_entry ([.ref (ad (11 + 20 * k)), .int h, .int u, .int d]) (n := 4) (Nat.le_of_ble_eq_true rfl)
  rw [lg_entry_eq]
  generalize (lg_sl ([.ref (ad (11 + 20 * k)), .int h, .int u, .int d]) ++ List.replicate (4 - (lg_sl ([.ref (ad (11 + 20 * k)), .int h, .int u, .int d])).length) Slot.unset).toArray = ls at hl ⊢
  have hl : lv_has ls 4 [(0, .ref (ad (11 + 20 * k))), (1, .int h), (2, .int u), (3, .int d)] := hl
  have hc16 := hW.2.1
  have hl4 := hW.2.2.2
  refine lv_iload_n hx hb dX4_addClock_0 rfl (lv_at hl 1 rfl) ?_
  refine lv_iconst (v := 0) hx hb dX4_addClock_1 (by decide) ?_
  refine lv_bipush (v := 99) hx hb dX4_addClock_2 (by decide) ?_
  refine c_calln (As := [.int h, .int 0, .int 99]) (rest := []) (host := "WinderLadders") hx hb hml hown hts hI (k_X5_isWithin l h 0 99) ⟨va_cnB 3 hts gX4_addClock_X5_isWithin_n54 rfl rfl rfl hX.1 (hts (.initialized RX5) (by decide +kernel)) (by decide +kernel) ⟨Nat.le_of_ble_eq_true rfl, Nat.le_of_ble_eq_true rfl⟩, hts (.static yX5_isWithin) (by decide +kernel), trivial⟩ rfl hl (Nat.le_of_ble_eq_true rfl) ⟨Nat.zero_le _, Nat.zero_le _⟩ dX4_addClock_4 rfl (fun r H locs h2 hI => ?_)
  rcases h2 with ⟨b1, rfl⟩ | ⟨b1, rfl⟩
  · skip
    refine lv_if_eq (tgt := 31) hx hb dX4_addClock_7 (by decide) (fun c3 => absurd c3 (by decide)) (fun _ => ?_)
    refine lv_iload_n hx hb dX4_addClock_10 rfl (lv_at hl 2 rfl) ?_
    refine lv_iconst (v := 0) hx hb dX4_addClock_11 (by decide) ?_
    refine lv_bipush (v := 30) hx hb dX4_addClock_12 (by decide) ?_
    refine c_calln (As := [.int u, .int 0, .int 30]) (rest := []) (host := "WinderLadders") hx hb hml hown hts hI (k_X5_isWithin l u 0 30) ⟨va_cnB 3 hts gX4_addClock_X5_isWithin_n54 rfl rfl rfl hX.1 (hts (.initialized RX5) (by decide +kernel)) (by decide +kernel) ⟨Nat.le_of_ble_eq_true rfl, Nat.le_of_ble_eq_true rfl⟩, hts (.static yX5_isWithin) (by decide +kernel), trivial⟩ rfl hl (Nat.le_of_ble_eq_true rfl) ⟨Nat.zero_le _, Nat.zero_le _⟩ dX4_addClock_14 rfl (fun r H locs h5 hI => ?_)
    rcases h5 with ⟨b4, rfl⟩ | ⟨b4, rfl⟩
    · skip
      refine lv_if_eq (tgt := 31) hx hb dX4_addClock_17 (by decide) (fun c6 => absurd c6 (by decide)) (fun _ => ?_)
      refine lv_iload_n hx hb dX4_addClock_20 rfl (lv_at hl 3 rfl) ?_
      refine lv_bipush (v := (-99)) hx hb dX4_addClock_21 (by decide) ?_
      refine lv_bipush (v := 99) hx hb dX4_addClock_23 (by decide) ?_
      refine c_calln (As := [.int d, .int ((-99)), .int 99]) (rest := []) (host := "WinderLadders") hx hb hml hown hts hI (k_X5_isWithin l d (-99) 99) ⟨va_cnB 3 hts gX4_addClock_X5_isWithin_n54 rfl rfl rfl hX.1 (hts (.initialized RX5) (by decide +kernel)) (by decide +kernel) ⟨Nat.le_of_ble_eq_true rfl, Nat.le_of_ble_eq_true rfl⟩, hts (.static yX5_isWithin) (by decide +kernel), trivial⟩ rfl hl (Nat.le_of_ble_eq_true rfl) ⟨Nat.zero_le _, Nat.zero_le _⟩ dX4_addClock_25 rfl (fun r H locs h8 hI => ?_)
      rcases h8 with ⟨b7, rfl⟩ | ⟨b7, rfl⟩
      · skip
        refine lv_if_ne (tgt := 34) hx hb dX4_addClock_28 (by decide) (fun _ => ?_) (fun c9 => absurd c9 (by decide))
        refine lv_aload_n hx hb dX4_addClock_34 rfl (lv_at hl 0 rfl) ?_
        refine c_get hx hb hts hown hK hI (11 + 20 * k) (by omega) cE_st rfl hinX4 3 (by decide) (hts (.fieldLink RX4 34 "WinderLadders$State" "clockCount" "I") (by decide +kernel)) (v := .int (nI (cn (C k)))) (congrArg (fun z => some (Value.int z)) hW.1) dX4_addClock_35 ?_
        refine lv_bipush (v := 16) hx hb dX4_addClock_38 (by decide) ?_
        refine lv_icmp_lt (tgt := 46) hx hb dX4_addClock_40 (by decide) (fun c10 => ?_) (fun c10 => ?_)
        · skip
          have nc10 : cn (C k) < 16 := (nI_ltI (a := cn (C k)) (b := 16) (by omega) (by omega)).mp c10
          refine lv_aload_n hx hb dX4_addClock_46 rfl (lv_at hl 0 rfl) ?_
          refine c_get hx hb hts hown hK hI (11 + 20 * k) (by omega) cE_st rfl hinX4 1 (by decide) (hts (.fieldLink RX4 17 "WinderLadders$State" "clocks" "[LWinderLadders$Clock;") (by decide +kernel)) (v := .ref (ad (13 + 20 * k))) rfl dX4_addClock_47 ?_
          refine lv_aload_n hx hb dX4_addClock_50 rfl (lv_at hl 0 rfl) ?_
          refine c_get hx hb hts hown hK hI (11 + 20 * k) (by omega) cE_st rfl hinX4 3 (by decide) (hts (.fieldLink RX4 34 "WinderLadders$State" "clockCount" "I") (by decide +kernel)) (v := .int (nI (cn (C k)))) (congrArg (fun z => some (Value.int z)) hW.1) dX4_addClock_51 ?_
          refine c_aldC hx hb hK hI k (by omega) (cn (C k)) (by omega) rfl dX4_addClock_54 ?_
          refine lv_iload_n hx hb dX4_addClock_55 rfl (lv_at hl 1 rfl) ?_
          refine lv_iload_n hx hb dX4_addClock_56 rfl (lv_at hl 2 rfl) ?_
          refine lv_iload_n hx hb dX4_addClock_57 rfl (lv_at hl 3 rfl) ?_
          refine c_callv (As := [.int h, .int u, .int d]) (rest := []) hx hb hml hown hts hK hX hI (15 + 20 * k + (cn (C k))) (by omega) (cE_cl (by omega)) rfl (k_X0_begin l dd g ad pi A hA C k (cn (C k)) (by omega) (by omega) h u d) (cwV 3 hts gX4_addClock_X0_begin rfl rfl rfl (by decide +kernel) ⟨Nat.le_of_ble_eq_true rfl, Nat.le_of_ble_eq_true rfl⟩) rfl hl (Nat.le_of_ble_eq_true rfl) ⟨Nat.zero_le _, Nat.zero_le _⟩ dX4_addClock_58 rfl (fun C1 pi1 H locs h11 hI => ?_)
          obtain ⟨hc9, hp9⟩ := h11
          rw [hc9, hp9] at hI
          refine lv_aload_n hx hb dX4_addClock_61 rfl (lv_at hl 0 rfl) ?_
          refine lv_dup hx hb dX4_addClock_62 rfl ?_
          refine c_get hx hb hts hown hK hI (11 + 20 * k) (by omega) cE_st rfl hinX4 3 (by decide) (hts (.fieldLink RX4 34 "WinderLadders$State" "clockCount" "I") (by decide +kernel)) (v := .int (nI (cn (C k)))) (congrArg (fun z => some (Value.int z)) ((by rw [mrow_s, begC_low _ _ _ _ _ (by decide)]; exact hW.1))) dX4_addClock_63 ?_
          refine lv_iconst (v := 1) hx hb dX4_addClock_66 (by decide) ?_
          refine lv_iadd hx hb dX4_addClock_67 ?_
          refine lv_re (y := nI (cn (C k) + 1)) (nI_add (cn (C k)) (1)) ?_
          refine c_putS hx hb hts hinX4 hown hK hA hI k 5 3 (by omega) (by decide) (hts (.fieldLink RX4 34 "WinderLadders$State" "clockCount" "I") (by decide +kernel)) dX4_addClock_68 (fun H locs hI => ?_)
          refine lv_aload_n hx hb dX4_addClock_71 rfl (lv_at hl 0 rfl) ?_
          refine c_get hx hb hts hown hK hI (11 + 20 * k) (by omega) cE_st rfl hinX4 3 (by decide) (hts (.fieldLink RX4 34 "WinderLadders$State" "clockCount" "I") (by decide +kernel)) (v := .int (nI (cn (C k) + 1))) (congrArg (fun z => some (Value.int z)) (mset_eq _ _ _ _)) dX4_addClock_72 ?_
          refine lv_iconst (v := 1) hx hb dX4_addClock_75 (by decide) ?_
          refine lv_isub hx hb dX4_addClock_76 ?_
          refine lv_re (y := nI (cn (C k))) (pk_sub (a := cn (C k) + 1) (b := 1) (by omega)) ?_
          exact c_iret (v := nI (cn (C k))) hx hb hr hI (⟨by simp only [acR, if_pos b1, if_pos b4, if_pos b7, if_pos c10, if_pos nc10], by simp only [acF, if_pos b1, if_pos b4, if_pos b7, if_pos c10, if_pos nc10]; first | exact (mrow_self _ _).symm | rfl | (simp only [mset_mrow, mset_mrow_s, mrow_s, mrow_mrow]; done) | (simp only [mset_mrow, mset_mrow_s, mrow_s, mrow_mrow]; rfl), rfl⟩) dX4_addClock_77 hlocks
        · skip
          have nc10 : ¬ (cn (C k) < 16) := fun h => c10 ((nI_ltI (a := cn (C k)) (b := 16) (by omega) (by omega)).mpr h)
          refine lv_bipush (v := (-4)) hx hb dX4_addClock_43 (by decide) ?_
          exact c_iret (v := (-4)) hx hb hr hI (⟨by simp only [acR, if_pos b1, if_pos b4, if_pos b7, if_neg c10, if_neg nc10], by simp only [acF, if_pos b1, if_pos b4, if_pos b7, if_neg c10, if_neg nc10]; first | exact (mrow_self _ _).symm | rfl | (simp only [mset_mrow, mset_mrow_s, mrow_s, mrow_mrow]; done) | (simp only [mset_mrow, mset_mrow_s, mrow_s, mrow_mrow]; rfl), rfl⟩) dX4_addClock_45 hlocks
      · skip
        refine lv_if_ne (tgt := 34) hx hb dX4_addClock_28 (by decide) (fun c12 => absurd (by decide) c12) (fun _ => ?_)
        refine lv_bipush (v := (-2)) hx hb dX4_addClock_31 (by decide) ?_
        exact c_iret (v := (-2)) hx hb hr hI (⟨by simp only [acR, if_pos b1, if_pos b4, if_neg (Bool.eq_false_iff.mp b7)], by simp only [acF, if_pos b1, if_pos b4, if_neg (Bool.eq_false_iff.mp b7)]; first | exact (mrow_self _ _).symm | rfl | (simp only [mset_mrow, mset_mrow_s, mrow_s, mrow_mrow]; done) | (simp only [mset_mrow, mset_mrow_s, mrow_s, mrow_mrow]; rfl), rfl⟩) dX4_addClock_33 hlocks
    · skip
      refine lv_if_eq (tgt := 31) hx hb dX4_addClock_17 (by decide) (fun _ => ?_) (fun c13 => absurd (by decide) c13)
      refine lv_bipush (v := (-2)) hx hb dX4_addClock_31 (by decide) ?_
      exact c_iret (v := (-2)) hx hb hr hI (⟨by simp only [acR, if_pos b1, if_neg (Bool.eq_false_iff.mp b4)], by simp only [acF, if_pos b1, if_neg (Bool.eq_false_iff.mp b4)]; first | exact (mrow_self _ _).symm | rfl | (simp only [mset_mrow, mset_mrow_s, mrow_s, mrow_mrow]; done) | (simp only [mset_mrow, mset_mrow_s, mrow_s, mrow_mrow]; rfl), rfl⟩) dX4_addClock_33 hlocks
  · skip
    refine lv_if_eq (tgt := 31) hx hb dX4_addClock_7 (by decide) (fun _ => ?_) (fun c14 => absurd (by decide) c14)
    refine lv_bipush (v := (-2)) hx hb dX4_addClock_31 (by decide) ?_
    exact c_iret (v := (-2)) hx hb hr hI (⟨by simp only [acR, if_neg (Bool.eq_false_iff.mp b1)], by simp only [acF, if_neg (Bool.eq_false_iff.mp b1)]; first | exact (mrow_self _ _).symm | rfl | (simp only [mset_mrow, mset_mrow_s, mrow_s, mrow_mrow]; done) | (simp only [mset_mrow, mset_mrow_s, mrow_s, mrow_mrow]; rfl), rfl⟩) dX4_addClock_33 hlocks

set_option maxHeartbeats 4000000 in
set_option maxRecDepth 100000 in
theorem k_X4_addLadder (l : Launch) (dd : va_G) (g : Nat → ClassId) (ad pi : Nat → Nat) (A : Nat → Prop) (hA : cA A ad) (C : MS) (k : Nat) (hk : k < 10) (u : Int32) (hW : Wk (C k))  : Met l yX4_addLadder wsX4_addLadder ({ frames := 1, cells := 0, slots := 0, locals := 22 }) (cPre dd g ad pi A C [.ref (ad (11 + 20 * k)), .int u]) (cQi dd g ad A (fun r C1 pi1 => r = alR (C k) u ∧ C1 = mrow C k (alF (C k) u) ∧ pi1 = pi)) 0 0 A := by
  refine Met.ofW (cc := cX4_addLadder) (maxL := 2) (ret := (some .int)) (by decide) rfl ?_
  intro p e s m args below meth c s₁ B hml hv
  obtain ⟨rfl, hP0, hK, hX⟩ := hv
  have hx := B.exec
  have hb := B.bytes
  have hr := B.returns
  have hts := atoms_spec (ws := wsX4_addLadder) B.pre
  have hown : s.vm.findClass RX4 = some m.cls := findClass_of_methodNamed B.named
  have hlocks := B.notSynchronized
  have hinX4 : ∀ w ∈ wsX40, w ∈ wsX4_addLadder := by decide +kernel
  have hI : cI dd g ad pi A s.heap s.heap [] C := ⟨hP0, va_S.rf⟩
  have hl := lv_entry ([.ref (ad (11 + 20 * k)), .int u]) (n := 2) (Nat.le_of_ble_eq_true rfl)
  rw [lg_entry_eq]
  generalize (lg_sl ([.ref (ad (11 + 20 * k)), .int u]) ++ List.replicate (2 - (lg_sl ([.ref (ad (11 + 20 * k)), .int u])).length) Slot.unset).toArray = ls at hl ⊢
  have hl : lv_has ls 2 [(0, .ref (ad (11 + 20 * k))), (1, .int u)] := hl
  have hc16 := hW.2.1
  have hl4 := hW.2.2.2
  refine lv_iload_n hx hb dX4_addLadder_0 rfl (lv_at hl 1 rfl) ?_
  refine lv_iconst (v := 1) hx hb dX4_addLadder_1 (by decide) ?_
  refine lv_bipush (v := 30) hx hb dX4_addLadder_2 (by decide) ?_
  refine c_calln (As := [.int u, .int 1, .int 30]) (rest := []) (host := "WinderLadders") hx hb hml hown hts hI (k_X5_isWithin l u 1 30) ⟨va_cnB 3 hts gX4_addLadder_X5_isWithin_n54 rfl rfl rfl hX.1 (hts (.initialized RX5) (by decide +kernel)) (by decide +kernel) ⟨Nat.le_of_ble_eq_true rfl, Nat.le_of_ble_eq_true rfl⟩, hts (.static yX5_isWithin) (by decide +kernel), trivial⟩ rfl hl (Nat.le_of_ble_eq_true rfl) ⟨Nat.zero_le _, Nat.zero_le _⟩ dX4_addLadder_4 rfl (fun r H locs h2 hI => ?_)
  rcases h2 with ⟨b1, rfl⟩ | ⟨b1, rfl⟩
  · skip
    refine lv_if_ne (tgt := 13) hx hb dX4_addLadder_7 (by decide) (fun _ => ?_) (fun c3 => absurd c3 (by decide))
    refine lv_aload_n hx hb dX4_addLadder_13 rfl (lv_at hl 0 rfl) ?_
    refine c_get hx hb hts hown hK hI (11 + 20 * k) (by omega) cE_st rfl hinX4 4 (by decide) (hts (.fieldLink RX4 42 "WinderLadders$State" "ladderCount" "I") (by decide +kernel)) (v := .int (nI (ln (C k)))) (congrArg (fun z => some (Value.int z)) hW.2.2.1) dX4_addLadder_14 ?_
    refine lv_iconst (v := 4) hx hb dX4_addLadder_17 (by decide) ?_
    refine lv_icmp_lt (tgt := 24) hx hb dX4_addLadder_18 (by decide) (fun c4 => ?_) (fun c4 => ?_)
    · skip
      have nc4 : ln (C k) < 4 := (nI_ltI (a := ln (C k)) (b := 4) (by omega) (by omega)).mp c4
      refine lv_aload_n hx hb dX4_addLadder_24 rfl (lv_at hl 0 rfl) ?_
      refine c_get hx hb hts hown hK hI (11 + 20 * k) (by omega) cE_st rfl hinX4 2 (by decide) (hts (.fieldLink RX4 21 "WinderLadders$State" "ladders" "[I") (by decide +kernel)) (v := .ref (ad (14 + 20 * k))) rfl dX4_addLadder_25 ?_
      refine lv_aload_n hx hb dX4_addLadder_28 rfl (lv_at hl 0 rfl) ?_
      refine c_get hx hb hts hown hK hI (11 + 20 * k) (by omega) cE_st rfl hinX4 4 (by decide) (hts (.fieldLink RX4 42 "WinderLadders$State" "ladderCount" "I") (by decide +kernel)) (v := .int (nI (ln (C k)))) (congrArg (fun z => some (Value.int z)) hW.2.2.1) dX4_addLadder_29 ?_
      refine lv_iload_n hx hb dX4_addLadder_32 rfl (lv_at hl 1 rfl) ?_
      refine c_astL hx hb hK hA hI k (by omega) (ln (C k)) (by omega) rfl dX4_addLadder_33 (fun H locs hI => ?_)
      refine lv_aload_n hx hb dX4_addLadder_34 rfl (lv_at hl 0 rfl) ?_
      refine lv_dup hx hb dX4_addLadder_35 rfl ?_
      refine c_get hx hb hts hown hK hI (11 + 20 * k) (by omega) cE_st rfl hinX4 4 (by decide) (hts (.fieldLink RX4 42 "WinderLadders$State" "ladderCount" "I") (by decide +kernel)) (v := .int (nI (ln (C k)))) (congrArg (fun z => some (Value.int z)) ((mset_nj _ (by omega) _ _).trans (hW.2.2.1))) dX4_addLadder_36 ?_
      refine lv_iconst (v := 1) hx hb dX4_addLadder_39 (by decide) ?_
      refine lv_iadd hx hb dX4_addLadder_40 ?_
      refine lv_re (y := nI (ln (C k) + 1)) (nI_add (ln (C k)) (1)) ?_
      refine c_putS hx hb hts hinX4 hown hK hA hI k 6 4 (by omega) (by decide) (hts (.fieldLink RX4 42 "WinderLadders$State" "ladderCount" "I") (by decide +kernel)) dX4_addLadder_41 (fun H locs hI => ?_)
      refine lv_aload_n hx hb dX4_addLadder_44 rfl (lv_at hl 0 rfl) ?_
      refine c_get hx hb hts hown hK hI (11 + 20 * k) (by omega) cE_st rfl hinX4 4 (by decide) (hts (.fieldLink RX4 42 "WinderLadders$State" "ladderCount" "I") (by decide +kernel)) (v := .int (nI (ln (C k) + 1))) (congrArg (fun z => some (Value.int z)) (mset_eq _ _ _ _)) dX4_addLadder_45 ?_
      refine lv_iconst (v := 1) hx hb dX4_addLadder_48 (by decide) ?_
      refine lv_isub hx hb dX4_addLadder_49 ?_
      refine lv_re (y := nI (ln (C k))) (pk_sub (a := ln (C k) + 1) (b := 1) (by omega)) ?_
      exact c_iret (v := nI (ln (C k))) hx hb hr hI (⟨by simp only [alR, if_pos b1, if_pos c4, if_pos nc4], by simp only [alF, if_pos b1, if_pos c4, if_pos nc4]; first | exact (mrow_self _ _).symm | rfl | (simp only [mset_mrow, mset_mrow_s, mrow_s, mrow_mrow]; done) | (simp only [mset_mrow, mset_mrow_s, mrow_s, mrow_mrow]; rfl), rfl⟩) dX4_addLadder_50 hlocks
    · skip
      have nc4 : ¬ (ln (C k) < 4) := fun h => c4 ((nI_ltI (a := ln (C k)) (b := 4) (by omega) (by omega)).mpr h)
      refine lv_bipush (v := (-4)) hx hb dX4_addLadder_21 (by decide) ?_
      exact c_iret (v := (-4)) hx hb hr hI (⟨by simp only [alR, if_pos b1, if_neg c4, if_neg nc4], by simp only [alF, if_pos b1, if_neg c4, if_neg nc4]; first | exact (mrow_self _ _).symm | rfl | (simp only [mset_mrow, mset_mrow_s, mrow_s, mrow_mrow]; done) | (simp only [mset_mrow, mset_mrow_s, mrow_s, mrow_mrow]; rfl), rfl⟩) dX4_addLadder_23 hlocks
  · skip
    refine lv_if_ne (tgt := 13) hx hb dX4_addLadder_7 (by decide) (fun c5 => absurd (by decide) c5) (fun _ => ?_)
    refine lv_bipush (v := (-2)) hx hb dX4_addLadder_10 (by decide) ?_
    exact c_iret (v := (-2)) hx hb hr hI (⟨by simp only [alR, if_neg (Bool.eq_false_iff.mp b1)], by simp only [alF, if_neg (Bool.eq_false_iff.mp b1)]; first | exact (mrow_self _ _).symm | rfl | (simp only [mset_mrow, mset_mrow_s, mrow_s, mrow_mrow]; done) | (simp only [mset_mrow, mset_mrow_s, mrow_s, mrow_mrow]; rfl), rfl⟩) dX4_addLadder_12 hlocks

set_option maxHeartbeats 4000000 in
set_option maxRecDepth 100000 in
theorem k_X4_turnScrew (l : Launch) (dd : va_G) (g : Nat → ClassId) (ad pi : Nat → Nat) (A : Nat → Prop) (hA : cA A ad) (C : MS) (k : Nat) (hk : k < 10) (x t : Int32) (hW : Wk (C k))  : Met l yX4_turnScrew wsX4_turnScrew ({ frames := 1, cells := 0, slots := 0, locals := 22 }) (cPre dd g ad pi A C [.ref (ad (11 + 20 * k)), .int x, .int t]) (cQi dd g ad A (fun r C1 pi1 => r = tsR (C k) x t ∧ C1 = mrow C k (tsF (C k) x t) ∧ pi1 = pi)) 0 0 A := by
  refine Met.ofW (cc := cX4_turnScrew) (maxL := 4) (ret := (some .int)) (by decide) rfl ?_
  intro p e s m args below meth c s₁ B hml hv
  obtain ⟨rfl, hP0, hK, hX⟩ := hv
  have hx := B.exec
  have hb := B.bytes
  have hr := B.returns
  have hts := atoms_spec (ws := wsX4_turnScrew) B.pre
  have hown : s.vm.findClass RX4 = some m.cls := findClass_of_methodNamed B.named
  have hlocks := B.notSynchronized
  have hinX0 : ∀ w ∈ wsX00, w ∈ wsX4_turnScrew := by decide +kernel
  have hinX4 : ∀ w ∈ wsX40, w ∈ wsX4_turnScrew := by decide +kernel
  have hI : cI dd g ad pi A s.heap s.heap [] C := ⟨hP0, va_S.rf⟩
  have hl := lv_entry ([.ref (ad (11 + 20 * k)), .int x, .int t]) (n := 4) (Nat.le_of_ble_eq_true rfl)
  rw [lg_entry_eq]
  generalize (lg_sl ([.ref (ad (11 + 20 * k)), .int x, .int t]) ++ List.replicate (4 - (lg_sl ([.ref (ad (11 + 20 * k)), .int x, .int t])).length) Slot.unset).toArray = ls at hl ⊢
  have hl : lv_has ls 4 [(0, .ref (ad (11 + 20 * k))), (1, .int x), (2, .int t)] := hl
  have hc16 := hW.2.1
  have hl4 := hW.2.2.2
  refine lv_aload_n hx hb dX4_turnScrew_0 rfl (lv_at hl 0 rfl) ?_
  refine lv_iload_n hx hb dX4_turnScrew_1 rfl (lv_at hl 1 rfl) ?_
  refine c_calli (As := [.int x]) (rest := []) hx hb hml hown hts hK hX hI (11 + 20 * k) (by omega) cE_st rfl (k_X4_hasClock l dd g ad pi A hA C k (by omega) x hW) (cwV 1 hts gX4_turnScrew_X4_hasClock rfl rfl rfl (by decide +kernel) ⟨Nat.le_of_ble_eq_true rfl, Nat.le_of_ble_eq_true rfl⟩) rfl hl (Nat.le_of_ble_eq_true rfl) ⟨Nat.zero_le _, Nat.zero_le _⟩ dX4_turnScrew_2 rfl (fun r C1 pi1 H locs h2 hI => ?_)
  obtain ⟨h2, hc9, hp9⟩ := h2
  rw [hc9, hp9] at hI
  rcases h2 with ⟨⟨i1, hi_i1, e_i1⟩, rfl⟩ | ⟨b_i1, rfl⟩
  · skip
    have b_i1 : isCb (C k) x = true := isCb_t hW ⟨hi_i1, e_i1⟩
    have x_i1 : ix x = i1 := by rw [e_i1]; exact ix_nI (by omega)
    subst e_i1
    refine lv_if_ne (tgt := 10) hx hb dX4_turnScrew_5 (by decide) (fun _ => ?_) (fun c3 => absurd c3 (by decide))
    refine lv_iload_n hx hb dX4_turnScrew_10 rfl (lv_at hl 2 rfl) ?_
    refine lv_bipush (v := (-20)) hx hb dX4_turnScrew_11 (by decide) ?_
    refine lv_bipush (v := 20) hx hb dX4_turnScrew_13 (by decide) ?_
    refine c_calln (As := [.int t, .int ((-20)), .int 20]) (rest := []) (host := "WinderLadders") hx hb hml hown hts hI (k_X5_isWithin l t (-20) 20) ⟨va_cnB 3 hts gX4_turnScrew_X5_isWithin_n54 rfl rfl rfl hX.1 (hts (.initialized RX5) (by decide +kernel)) (by decide +kernel) ⟨Nat.le_of_ble_eq_true rfl, Nat.le_of_ble_eq_true rfl⟩, hts (.static yX5_isWithin) (by decide +kernel), trivial⟩ rfl hl (Nat.le_of_ble_eq_true rfl) ⟨Nat.zero_le _, Nat.zero_le _⟩ dX4_turnScrew_15 rfl (fun r H locs h5 hI => ?_)
    rcases h5 with ⟨b4, rfl⟩ | ⟨b4, rfl⟩
    · skip
      refine lv_if_ne (tgt := 24) hx hb dX4_turnScrew_18 (by decide) (fun _ => ?_) (fun c6 => absurd c6 (by decide))
      refine lv_aload_n hx hb dX4_turnScrew_24 rfl (lv_at hl 0 rfl) ?_
      refine c_get hx hb hts hown hK hI (11 + 20 * k) (by omega) cE_st rfl hinX4 1 (by decide) (hts (.fieldLink RX4 17 "WinderLadders$State" "clocks" "[LWinderLadders$Clock;") (by decide +kernel)) (v := .ref (ad (13 + 20 * k))) rfl dX4_turnScrew_25 ?_
      refine lv_iload_n hx hb dX4_turnScrew_28 rfl (lv_at hl 1 rfl) ?_
      refine c_aldC hx hb hK hI k (by omega) (i1) (by omega) rfl dX4_turnScrew_29 ?_
      refine c_get hx hb hts hown hK hI (15 + 20 * k + i1) (by omega) (cE_cl (by omega)) rfl hinX0 3 (by decide) (hts (.fieldLink RX4 66 "WinderLadders$Clock" "screw" "I") (by decide +kernel)) (v := .int (C k (12 + 8 * i1 + 3))) rfl dX4_turnScrew_30 ?_
      refine lv_iload_n hx hb dX4_turnScrew_33 rfl (lv_at hl 2 rfl) ?_
      refine lv_iadd hx hb dX4_turnScrew_34 ?_
      refine lv_istore_n (lv' := [(3, .int ((C k (12 + 8 * i1 + 3)) + t)), (0, .ref (ad (11 + 20 * k))), (1, .int (nI i1)), (2, .int t)]) hx hb dX4_turnScrew_35 rfl hl (by decide) rfl (fun ls hl => ?_)
      refine lv_iload_n hx hb dX4_turnScrew_36 rfl (lv_at hl 0 rfl) ?_
      refine lv_bipush (v := (-20)) hx hb dX4_turnScrew_37 (by decide) ?_
      refine lv_bipush (v := 20) hx hb dX4_turnScrew_39 (by decide) ?_
      refine c_calln (As := [.int ((C k (12 + 8 * i1 + 3)) + t), .int ((-20)), .int 20]) (rest := []) (host := "WinderLadders") hx hb hml hown hts hI (k_X5_isWithin l ((C k (12 + 8 * i1 + 3)) + t) (-20) 20) ⟨va_cnB 3 hts gX4_turnScrew_X5_isWithin_n54 rfl rfl rfl hX.1 (hts (.initialized RX5) (by decide +kernel)) (by decide +kernel) ⟨Nat.le_of_ble_eq_true rfl, Nat.le_of_ble_eq_true rfl⟩, hts (.static yX5_isWithin) (by decide +kernel), trivial⟩ rfl hl (Nat.le_of_ble_eq_true rfl) ⟨Nat.zero_le _, Nat.zero_le _⟩ dX4_turnScrew_41 rfl (fun r H locs h8 hI => ?_)
      rcases h8 with ⟨b7, rfl⟩ | ⟨b7, rfl⟩
      · skip
        refine lv_if_ne (tgt := 50) hx hb dX4_turnScrew_44 (by decide) (fun _ => ?_) (fun c9 => absurd c9 (by decide))
        refine lv_aload_n hx hb dX4_turnScrew_50 rfl (lv_at hl 1 rfl) ?_
        refine c_get hx hb hts hown hK hI (11 + 20 * k) (by omega) cE_st rfl hinX4 1 (by decide) (hts (.fieldLink RX4 17 "WinderLadders$State" "clocks" "[LWinderLadders$Clock;") (by decide +kernel)) (v := .ref (ad (13 + 20 * k))) rfl dX4_turnScrew_51 ?_
        refine lv_iload_n hx hb dX4_turnScrew_54 rfl (lv_at hl 2 rfl) ?_
        refine c_aldC hx hb hK hI k (by omega) (i1) (by omega) rfl dX4_turnScrew_55 ?_
        refine lv_iload_n hx hb dX4_turnScrew_56 rfl (lv_at hl 0 rfl) ?_
        refine c_putC hx hb hts hinX0 hown hK hA hI k i1 3 3 (by omega) (by omega) (by decide) (hts (.fieldLink RX4 66 "WinderLadders$Clock" "screw" "I") (by decide +kernel)) (fun h => absurd h (by decide)) dX4_turnScrew_57 (fun H locs hI => ?_)
        refine lv_iload_n hx hb dX4_turnScrew_60 rfl (lv_at hl 0 rfl) ?_
        refine lv_bipush (v := 20) hx hb dX4_turnScrew_61 (by decide) ?_
        refine lv_iadd hx hb dX4_turnScrew_63 ?_
        exact c_iret (v := ((C k (12 + 8 * i1 + 3)) + t) + 20) hx hb hr hI (⟨by simp only [tsR, x_i1, if_pos b_i1, if_pos b4, if_pos b7], by simp only [tsF, x_i1, if_pos b_i1, if_pos b4, if_pos b7]; first | exact (mrow_self _ _).symm | rfl | (simp only [mset_mrow, mset_mrow_s, mrow_s, mrow_mrow]; done) | (simp only [mset_mrow, mset_mrow_s, mrow_s, mrow_mrow]; rfl), rfl⟩) dX4_turnScrew_64 hlocks
      · skip
        refine lv_if_ne (tgt := 50) hx hb dX4_turnScrew_44 (by decide) (fun c10 => absurd (by decide) c10) (fun _ => ?_)
        refine lv_bipush (v := (-5)) hx hb dX4_turnScrew_47 (by decide) ?_
        exact c_iret (v := (-5)) hx hb hr hI (⟨by simp only [tsR, x_i1, if_pos b_i1, if_pos b4, if_neg (Bool.eq_false_iff.mp b7)], by simp only [tsF, x_i1, if_pos b_i1, if_pos b4, if_neg (Bool.eq_false_iff.mp b7)]; first | exact (mrow_self _ _).symm | rfl | (simp only [mset_mrow, mset_mrow_s, mrow_s, mrow_mrow]; done) | (simp only [mset_mrow, mset_mrow_s, mrow_s, mrow_mrow]; rfl), rfl⟩) dX4_turnScrew_49 hlocks
    · skip
      refine lv_if_ne (tgt := 24) hx hb dX4_turnScrew_18 (by decide) (fun c11 => absurd (by decide) c11) (fun _ => ?_)
      refine lv_bipush (v := (-2)) hx hb dX4_turnScrew_21 (by decide) ?_
      exact c_iret (v := (-2)) hx hb hr hI (⟨by simp only [tsR, x_i1, if_pos b_i1, if_neg (Bool.eq_false_iff.mp b4)], by simp only [tsF, x_i1, if_pos b_i1, if_neg (Bool.eq_false_iff.mp b4)]; first | exact (mrow_self _ _).symm | rfl | (simp only [mset_mrow, mset_mrow_s, mrow_s, mrow_mrow]; done) | (simp only [mset_mrow, mset_mrow_s, mrow_s, mrow_mrow]; rfl), rfl⟩) dX4_turnScrew_23 hlocks
  · skip
    have b_i1 := isCb_f hW b_i1
    refine lv_if_ne (tgt := 10) hx hb dX4_turnScrew_5 (by decide) (fun c12 => absurd (by decide) c12) (fun _ => ?_)
    refine lv_iconst (v := (-1)) hx hb dX4_turnScrew_8 (by decide) ?_
    exact c_iret (v := (-1)) hx hb hr hI (⟨by simp only [tsR, if_neg (Bool.eq_false_iff.mp b_i1)], by simp only [tsF, if_neg (Bool.eq_false_iff.mp b_i1)]; first | exact (mrow_self _ _).symm | rfl | (simp only [mset_mrow, mset_mrow_s, mrow_s, mrow_mrow]; done) | (simp only [mset_mrow, mset_mrow_s, mrow_s, mrow_mrow]; rfl), rfl⟩) dX4_turnScrew_9 hlocks
