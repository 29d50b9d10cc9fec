set_option maxHeartbeats 4000000 in
set_option maxRecDepth 100000 in
theorem k_X4_passDays (l : Launch) (dd : va_G) (g : Nat → ClassId) (ad pi : Nat → Nat) (A : Nat → Prop) (hA : cA A ad) (C : MS) (k : Nat) (hk : k < 10) (y : Int32) (hW : Wk (C k))  : Met l yX4_passDays wsX4_passDays ({ frames := 2, cells := 0, slots := 0, locals := 41 }) (cPre dd g ad pi A C [.ref (ad (11 + 20 * k)), .int y]) (cQi dd g ad A (fun r C1 pi1 => r = psR (C k) y ∧ C1 = mrow C k (psF (C k) y) ∧ pi1 = pi)) 0 0 A := by
  refine Met.ofW (cc := cX4_passDays) (maxL := 4) (ret := (some .int)) (by decide) rfl ?_
  intro p e s m args below meth c s₁ B hml hv
  obtain ⟨rfl, hP0, hK, hX⟩ := hv
  have hx := B.exec
  have hb := B.bytes
  have hr := B.returns
  have hts := atoms_spec (ws := wsX4_passDays) B.pre
  have hown : s.vm.findClass RX4 = some m.cls := findClass_of_methodNamed B.named
  have hlocks := B.notSynchronized
  have hinX4 : ∀ w ∈ wsX40, w ∈ wsX4_passDays := by decide +kernel
  have hI : cI dd g ad pi A s.heap s.heap [] C := ⟨hP0, va_S.rf⟩
  have hl := lv_entry ([.ref (ad (11 + 20 * k)), .int y]) (n := 4) (Nat.le_of_ble_eq_true rfl)
  rw [lg_entry_eq]
  generalize (lg_sl ([.ref (ad (11 + 20 * k)), .int y]) ++ List.replicate (4 - (lg_sl ([.ref (ad (11 + 20 * k)), .int y])).length) Slot.unset).toArray = ls at hl ⊢
  have hl : lv_has ls 4 [(0, .ref (ad (11 + 20 * k))), (1, .int y)] := hl
  have hc16 := hW.2.1
  have hl4 := hW.2.2.2
  refine lv_iload_n hx hb dX4_passDays_0 rfl (lv_at hl 1 rfl) ?_
  refine lv_iconst (v := 1) hx hb dX4_passDays_1 (by decide) ?_
  refine lv_bipush (v := 99) hx hb dX4_passDays_2 (by decide) ?_
  refine c_calln (As := [.int y, .int 1, .int 99]) (rest := []) (host := "WinderLadders") hx hb hml hown hts hI (k_X5_isWithin l y 1 99) ⟨va_cnB 3 hts gX4_passDays_X5_isWithin_n54 rfl rfl rfl hX.1 (hts (.initialized RX5) (by decide +kernel)) (by decide +kernel) ⟨Nat.le_of_ble_eq_true rfl, Nat.le_of_ble_eq_true rfl⟩, hts (.static yX5_isWithin) (by decide +kernel), trivial⟩ rfl hl (Nat.le_of_ble_eq_true rfl) ⟨Nat.zero_le _, Nat.zero_le _⟩ dX4_passDays_4 rfl (fun r H locs h2 hI => ?_)
  rcases h2 with ⟨b1, rfl⟩ | ⟨b1, rfl⟩
  · skip
    refine lv_if_ne (tgt := 13) hx hb dX4_passDays_7 (by decide) (fun _ => ?_) (fun c3 => absurd c3 (by decide))
    refine lv_aload_n hx hb dX4_passDays_13 rfl (lv_at hl 0 rfl) ?_
    refine c_get hx hb hts hown hK hI (11 + 20 * k) (by omega) cE_st rfl hinX4 5 (by decide) (hts (.fieldLink RX4 45 "WinderLadders$State" "days" "I") (by decide +kernel)) (v := .int (C k 4)) rfl dX4_passDays_14 ?_
    refine lv_iload_n hx hb dX4_passDays_17 rfl (lv_at hl 1 rfl) ?_
    refine lv_iadd hx hb dX4_passDays_18 ?_
    refine lv_sipush (v := 9999) hx hb dX4_passDays_19 (by decide) ?_
    refine lv_icmp_le (tgt := 28) hx hb dX4_passDays_22 (by decide) (fun c4 => ?_) (fun c4 => ?_)
    · skip
      obtain ⟨D, hD1, hD2, e0⟩ := inB1_nI (n := 99) (by decide) b1
      have x0 : ix y = D := by rw [e0]; exact ix_nI (by omega)
      subst e0
      refine lv_iconst (v := 0) hx hb dX4_passDays_28 (by decide) ?_
      refine lv_istore_n (lv' := [(2, .int 0), (0, .ref (ad (11 + 20 * k))), (1, .int (nI D))]) hx hb dX4_passDays_29 rfl hl (by decide) rfl (fun ls hl => ?_)
      have L30 : ∀ (fuel : Nat) (d : Nat) (h1 : d ≤ D) (h2 : D < fuel + d) (H : Heap) (locs : List Loc) (ls : Array Slot), cI dd g ad pi A s.heap H locs (mrow C k (dcD (C k) (C k 1) (cn (C k)) d)) → lv_has ls 4 [(2, .int (nI d)), (0, .ref (ad (11 + 20 * k))), (1, .int (nI D))] → wk p l e wsX4_passDays { frames := 2, cells := 0, slots := 0, locals := 41 } s m [.ref (ad (11 + 20 * k)), .int (nI D)] below meth c H locs (cQi dd g ad A (fun r C1 pi1 => r = psR (C k) (nI D) ∧ C1 = mrow C k (psF (C k) (nI D)) ∧ pi1 = pi)) (A) (F0 m 30 ls []) := by
        intro fuel
        induction fuel with
        | zero =>
          intro d h1 h2 H locs ls hI hl
          exact absurd h2 (by omega)
        | succ fuel ih =>
          intro d h1 h2 H locs ls hI hl
          refine lv_iload_n hx hb dX4_passDays_30 rfl (lv_at hl 0 rfl) ?_
          refine lv_iload_n hx hb dX4_passDays_31 rfl (lv_at hl 2 rfl) ?_
          refine lv_icmp_ge (tgt := 72) hx hb dX4_passDays_32 (by decide) (fun c5 => ?_) (fun c5 => ?_)
          · skip
            have nc5 : D ≤ d := (nI_leI (a := D) (b := d) (by omega) (by omega)).mp c5
            refine lv_aload_n hx hb dX4_passDays_72 rfl (lv_at hl 1 rfl) ?_
            refine lv_dup hx hb dX4_passDays_73 rfl ?_
            refine c_get hx hb hts hown hK hI (11 + 20 * k) (by omega) cE_st rfl hinX4 5 (by decide) (hts (.fieldLink RX4 45 "WinderLadders$State" "days" "I") (by decide +kernel)) (v := .int (C k 4)) (congrArg (fun z => some (Value.int z)) ((by rw [mrow_s, dcD_low _ _ _ _ (by decide)]))) dX4_passDays_74 ?_
            refine lv_iload_n hx hb dX4_passDays_77 rfl (lv_at hl 2 rfl) ?_
            refine lv_iadd hx hb dX4_passDays_78 ?_
            refine c_putS hx hb hts hinX4 hown hK hA hI k 4 5 (by omega) (by decide) (hts (.fieldLink RX4 45 "WinderLadders$State" "days" "I") (by decide +kernel)) dX4_passDays_79 (fun H locs hI => ?_)
            refine lv_aload_n hx hb dX4_passDays_82 rfl (lv_at hl 1 rfl) ?_
            refine c_get hx hb hts hown hK hI (11 + 20 * k) (by omega) cE_st rfl hinX4 3 (by decide) (hts (.fieldLink RX4 34 "WinderLadders$State" "clockCount" "I") (by decide +kernel)) (v := .int (nI (cn (C k)))) (congrArg (fun z => some (Value.int z)) ((mset_nj _ (by omega) _ _).trans ((by rw [mrow_s, dcD_low _ _ _ _ (by decide)]; exact hW.1)))) dX4_passDays_83 ?_
            refine lv_aload_n hx hb dX4_passDays_86 rfl (lv_at hl 1 rfl) ?_
            refine c_calli (As := []) (rest := [.int (nI (cn (C k)))]) hx hb hml hown hts hK hX hI (11 + 20 * k) (by omega) cE_st rfl (k_X4_numberThatGo l dd g ad pi A hA (mset (mrow C k (dcD (C k) (C k 1) (cn (C k)) d)) k (4) ((C k 4) + (nI D))) k (by omega) (by rw [mset_mrow_s, mrow_s]; exact hW.low (by rw [upd_ne (by decide), dcD_low _ _ _ _ (by decide)]) (by rw [upd_ne (by decide), dcD_low _ _ _ _ (by decide)]))) (cwV 0 hts gX4_passDays_X4_numberThatGo rfl rfl rfl (by decide +kernel) ⟨Nat.le_of_ble_eq_true rfl, Nat.le_of_ble_eq_true rfl⟩) rfl hl (Nat.le_of_ble_eq_true rfl) ⟨Nat.zero_le _, Nat.zero_le _⟩ dX4_passDays_87 rfl (fun r C1 pi1 H locs h6 hI => ?_)
            obtain ⟨hr9, hc9, hp9⟩ := h6
            rw [hc9, hp9] at hI
            rw [mset_mrow_s, mrow_s, show upd (dcD (C k) (C k 1) (cn (C k)) d) 4 (C k 4 + nI D) = psW (C k) (nI D) by unfold psW; rw [x0, show d = D by omega], show cn (psW (C k) (nI D)) = cn (C k) from cn_low (by unfold psW; rw [upd_ne (by decide), dcD_low _ _ _ _ (by decide)])] at hr9
            subst hr9
            refine lv_isub hx hb dX4_passDays_90 ?_
            refine lv_re (y := nI (cn (C k) - goN (psW (C k) (nI D)) (cn (C k)))) (pk_sub (goN_le _ _)) ?_
            exact c_iret (v := nI (cn (C k) - goN (psW (C k) (nI D)) (cn (C k)))) hx hb hr hI (⟨by simp only [psR, if_pos b1, if_pos c4, if_pos c5, if_pos nc5], by simp only [psF, if_pos b1, if_pos c4, if_pos c5, if_pos nc5]; rw [mset_mrow_s]; unfold psW; rw [x0, show d = D by omega], rfl⟩) dX4_passDays_91 hlocks
          · skip
            have nc5 : ¬ (D ≤ d) := fun h => c5 ((nI_leI (a := D) (b := d) (by omega) (by omega)).mpr h)
            refine lv_iconst (v := 0) hx hb dX4_passDays_35 (by decide) ?_
            refine lv_istore_n (lv' := [(3, .int 0), (2, .int (nI d)), (0, .ref (ad (11 + 20 * k))), (1, .int (nI D))]) hx hb dX4_passDays_36 rfl hl (by decide) rfl (fun ls hl => ?_)
            have L37 : ∀ (fuel2 : Nat) (j : Nat) (g1 : j ≤ cn (C k)) (g2 : cn (C k) < fuel2 + j) (H : Heap) (locs : List Loc) (ls : Array Slot), cI dd g ad pi A s.heap H locs (mrow C k (dcA (dcD (C k) (C k 1) (cn (C k)) d) (C k 1) j)) → lv_has ls 4 [(3, .int (nI j)), (2, .int (nI d)), (0, .ref (ad (11 + 20 * k))), (1, .int (nI D))] → wk p l e wsX4_passDays { frames := 2, cells := 0, slots := 0, locals := 41 } s m [.ref (ad (11 + 20 * k)), .int (nI D)] below meth c H locs (cQi dd g ad A (fun r C1 pi1 => r = psR (C k) (nI D) ∧ C1 = mrow C k (psF (C k) (nI D)) ∧ pi1 = pi)) (A) (F0 m 37 ls []) := by
              intro fuel2
              induction fuel2 with
              | zero =>
                intro j g1 g2 H locs ls hI hl
                exact absurd g2 (by omega)
              | succ fuel2 ih2 =>
                intro j g1 g2 H locs ls hI hl
                refine lv_iload_n hx hb dX4_passDays_37 rfl (lv_at hl 0 rfl) ?_
                refine lv_aload_n hx hb dX4_passDays_38 rfl (lv_at hl 2 rfl) ?_
                refine c_get hx hb hts hown hK hI (11 + 20 * k) (by omega) cE_st rfl hinX4 3 (by decide) (hts (.fieldLink RX4 34 "WinderLadders$State" "clockCount" "I") (by decide +kernel)) (v := .int (nI (cn (C k)))) (congrArg (fun z => some (Value.int z)) ((by rw [mrow_s, dcA_low _ _ _ (by decide), dcD_low _ _ _ _ (by decide)]; exact hW.1))) dX4_passDays_39 ?_
                refine lv_icmp_ge (tgt := 66) hx hb dX4_passDays_42 (by decide) (fun c7 => ?_) (fun c7 => ?_)
                · skip
                  have nc7 : cn (C k) ≤ j := (nI_leI (a := cn (C k)) (b := j) (by omega) (by omega)).mp c7
                  refine lv_iinc (v := nI (d + 1)) (lv' := [(2, .int (nI (d + 1))), (3, .int (nI j)), (0, .ref (ad (11 + 20 * k))), (1, .int (nI D))]) hx hb dX4_passDays_66 hl (k := 1) rfl (by rw [show Int32.ofInt 1 = nI 1 from rfl, nI_add]) (by decide) rfl (fun ls hl => ?_)
                  refine lv_goto (tgt := 30) hx hb dX4_passDays_69 (by decide) ?_
                  exact ih (d + 1) (by omega) (by omega) _ _ _ (by rw [show j = cn (C k) by omega] at hI; exact hI) (lv_sub hl [0, 2, 3] rfl)
                · skip
                  have nc7 : ¬ (cn (C k) ≤ j) := fun h => c7 ((nI_leI (a := cn (C k)) (b := j) (by omega) (by omega)).mpr h)
                  refine lv_aload_n hx hb dX4_passDays_45 rfl (lv_at hl 2 rfl) ?_
                  refine c_get hx hb hts hown hK hI (11 + 20 * k) (by omega) cE_st rfl hinX4 1 (by decide) (hts (.fieldLink RX4 17 "WinderLadders$State" "clocks" "[LWinderLadders$Clock;") (by decide +kernel)) (v := .ref (ad (13 + 20 * k))) rfl dX4_passDays_46 ?_
                  refine lv_iload_n hx hb dX4_passDays_49 rfl (lv_at hl 0 rfl) ?_
                  refine c_aldC hx hb hK hI k (by omega) (j) (by omega) rfl dX4_passDays_50 ?_
                  refine lv_aload_n hx hb dX4_passDays_51 rfl (lv_at hl 2 rfl) ?_
                  refine c_get hx hb hts hown hK hI (11 + 20 * k) (by omega) cE_st rfl hinX4 0 (by decide) (hts (.fieldLink RX4 9 "WinderLadders$State" "settings" "[I") (by decide +kernel)) (v := .ref (ad (12 + 20 * k))) rfl dX4_passDays_52 ?_
                  refine lv_iconst (v := 1) hx hb dX4_passDays_55 (by decide) ?_
                  refine c_ald hx hb hK hI (12 + 20 * k) (by omega) cE_se (by decide) (1) (by omega) rfl (v := C k 1) ((if_pos (show (1) < 4 by omega)).trans ((by rw [mrow_s, dcA_low _ _ _ (by decide), dcD_low _ _ _ _ (by decide)]))) dX4_passDays_56 ?_
                  refine c_callv (As := [.int (C k 1)]) (rest := []) hx hb hml hown hts hK hX hI (15 + 20 * k + j) (by omega) (cE_cl (by omega)) rfl (k_X0_passDay l dd g ad pi A hA (mrow C k (dcA (dcD (C k) (C k 1) (cn (C k)) d) (C k 1) j)) k j (by omega) (by omega) (C k 1)) (cwV 1 hts gX4_passDays_X0_passDay rfl rfl rfl (by decide +kernel) ⟨Nat.le_of_ble_eq_true rfl, Nat.le_of_ble_eq_true rfl⟩) rfl hl (Nat.le_of_ble_eq_true rfl) ⟨Nat.zero_le _, Nat.zero_le _⟩ dX4_passDays_57 rfl (fun C1 pi1 H locs h8 hI => ?_)
                  obtain ⟨hc9, hp9⟩ := h8
                  try simp only [mrow_s, mrow_mrow] at hc9
                  rw [hc9, hp9] at hI
                  refine lv_iinc (v := nI (j + 1)) (lv' := [(3, .int (nI (j + 1))), (2, .int (nI d)), (0, .ref (ad (11 + 20 * k))), (1, .int (nI D))]) hx hb dX4_passDays_60 hl (k := 0) rfl (by rw [show Int32.ofInt 1 = nI 1 from rfl, nI_add]) (by decide) rfl (fun ls hl => ?_)
                  refine lv_goto (tgt := 37) hx hb dX4_passDays_63 (by decide) ?_
                  exact ih2 (j + 1) (by omega) (by omega) _ _ _ hI (lv_sub hl [0, 1, 2, 3] rfl)
            exact L37 17 0 (by omega) (by omega) _ _ _ hI (lv_sub hl [0, 1, 2, 3] rfl)
      exact L30 100 0 (by omega) (by omega) _ _ _ (by rw [show dcD (C k) (C k 1) (cn (C k)) 0 = C k from rfl, mrow_self]; exact hI) (lv_sub hl [0, 1, 2] rfl)
    · skip
      refine lv_bipush (v := (-5)) hx hb dX4_passDays_25 (by decide) ?_
      exact c_iret (v := (-5)) hx hb hr hI (⟨by simp only [psR, if_pos b1, if_neg c4], by simp only [psF, if_pos b1, if_neg c4]; first | exact (mrow_self _ _).symm | rfl | (simp only [mset_mrow, mset_mrow_s, mrow_s, mrow_mrow]; done) | (simp only [mset_mrow, mset_mrow_s, mrow_s, mrow_mrow]; rfl), rfl⟩) dX4_passDays_27 hlocks
  · skip
    refine lv_if_ne (tgt := 13) hx hb dX4_passDays_7 (by decide) (fun c9 => absurd (by decide) c9) (fun _ => ?_)
    refine lv_bipush (v := (-2)) hx hb dX4_passDays_10 (by decide) ?_
    exact c_iret (v := (-2)) hx hb hr hI (⟨by simp only [psR, if_neg (Bool.eq_false_iff.mp b1)], by simp only [psF, if_neg (Bool.eq_false_iff.mp b1)]; first | exact (mrow_self _ _).symm | rfl | (simp only [mset_mrow, mset_mrow_s, mrow_s, mrow_mrow]; done) | (simp only [mset_mrow, mset_mrow_s, mrow_s, mrow_mrow]; rfl), rfl⟩) dX4_passDays_12 hlocks

set_option maxHeartbeats 4000000 in
set_option maxRecDepth 100000 in
theorem k_X4_changeClocks (l : Launch) (dd : va_G) (g : Nat → ClassId) (ad pi : Nat → Nat) (A : Nat → Prop) (hA : cA A ad) (C : MS) (k : Nat) (hk : k < 10) (y : Int32) (hW : Wk (C k))  : Met l yX4_changeClocks wsX4_changeClocks ({ frames := 1, cells := 0, slots := 0, locals := 22 }) (cPre dd g ad pi A C [.ref (ad (11 + 20 * k)), .int y]) (cQi dd g ad A (fun r C1 pi1 => r = ccR (C k) y ∧ C1 = mrow C k (ccF (C k) y) ∧ pi1 = pi)) 0 0 A := by
  refine Met.ofW (cc := cX4_changeClocks) (maxL := 4) (ret := (some .int)) (by decide) rfl ?_
  intro p e s m args below meth c s₁ B hml hv
  obtain ⟨rfl, hP0, hK, hX⟩ := hv
  have hx := B.exec
  have hb := B.bytes
  have hr := B.returns
  have hts := atoms_spec (ws := wsX4_changeClocks) B.pre
  have hown : s.vm.findClass RX4 = some m.cls := findClass_of_methodNamed B.named
  have hlocks := B.notSynchronized
  have hinX0 : ∀ w ∈ wsX00, w ∈ wsX4_changeClocks := by decide +kernel
  have hinX4 : ∀ w ∈ wsX40, w ∈ wsX4_changeClocks := by decide +kernel
  have hI : cI dd g ad pi A s.heap s.heap [] C := ⟨hP0, va_S.rf⟩
  have hl := lv_entry ([.ref (ad (11 + 20 * k)), .int y]) (n := 4) (Nat.le_of_ble_eq_true rfl)
  rw [lg_entry_eq]
  generalize (lg_sl ([.ref (ad (11 + 20 * k)), .int y]) ++ List.replicate (4 - (lg_sl ([.ref (ad (11 + 20 * k)), .int y])).length) Slot.unset).toArray = ls at hl ⊢
  have hl : lv_has ls 4 [(0, .ref (ad (11 + 20 * k))), (1, .int y)] := hl
  have hc16 := hW.2.1
  have hl4 := hW.2.2.2
  refine lv_iload_n hx hb dX4_changeClocks_0 rfl (lv_at hl 1 rfl) ?_
  refine lv_if_eq (tgt := 12) hx hb dX4_changeClocks_1 (by decide) (fun c1 => ?_) (fun c1 => ?_)
  · skip
    refine lv_iload_n hx hb dX4_changeClocks_12 rfl (lv_at hl 1 rfl) ?_
    refine lv_if_ne (tgt := 22) hx hb dX4_changeClocks_13 (by decide) (fun c2 => ?_) (fun c2 => ?_)
    · skip
      exact absurd c1 c2
    · skip
      refine lv_sipush (v := 3600) hx hb dX4_changeClocks_16 (by decide) ?_
      refine lv_goto (tgt := 25) hx hb dX4_changeClocks_19 (by decide) ?_
      refine lv_istore_n (lv' := [(2, .int 3600), (0, .ref (ad (11 + 20 * k))), (1, .int y)]) hx hb dX4_changeClocks_25 rfl hl (by decide) rfl (fun ls hl => ?_)
      refine lv_iconst (v := 0) hx hb dX4_changeClocks_26 (by decide) ?_
      refine lv_istore_n (lv' := [(3, .int 0), (2, .int 3600), (0, .ref (ad (11 + 20 * k))), (1, .int y)]) hx hb dX4_changeClocks_27 rfl hl (by decide) rfl (fun ls hl => ?_)
      have L28 : ∀ (fuel : Nat) (j : Nat) (sec : Int32) (h1 : j ≤ cn (C k)) (h2 : cn (C k) < fuel + j) (hs9 : sec = ccS y) (H : Heap) (locs : List Loc) (ls : Array Slot), cI dd g ad pi A s.heap H locs (mrow C k (chC (C k) sec j)) → lv_has ls 4 [(3, .int (nI j)), (2, .int sec), (0, .ref (ad (11 + 20 * k))), (1, .int y)] → wk p l e wsX4_changeClocks { frames := 1, cells := 0, slots := 0, locals := 22 } s m [.ref (ad (11 + 20 * k)), .int y] below meth c H locs (cQi dd g ad A (fun r C1 pi1 => r = ccR (C k) y ∧ C1 = mrow C k (ccF (C k) y) ∧ pi1 = pi)) (A) (F0 m 28 ls []) := by
        intro fuel
        induction fuel with
        | zero =>
          intro j sec h1 h2 hs9 H locs ls hI hl
          exact absurd h2 (by omega)
        | succ fuel ih =>
          intro j sec h1 h2 hs9 H locs ls hI hl
          refine lv_iload_n hx hb dX4_changeClocks_28 rfl (lv_at hl 0 rfl) ?_
          refine lv_aload_n hx hb dX4_changeClocks_29 rfl (lv_at hl 2 rfl) ?_
          refine c_get hx hb hts hown hK hI (11 + 20 * k) (by omega) cE_st rfl hinX4 3 (by decide) (hts (.fieldLink RX4 34 "WinderLadders$State" "clockCount" "I") (by decide +kernel)) (v := .int (nI (cn (C k)))) (congrArg (fun z => some (Value.int z)) ((by rw [mrow_s, chC_low _ _ _ (by decide)]; exact hW.1))) dX4_changeClocks_30 ?_
          refine lv_icmp_ge (tgt := 69) hx hb dX4_changeClocks_33 (by decide) (fun c3 => ?_) (fun c3 => ?_)
          · skip
            have nc3 : cn (C k) ≤ j := (nI_leI (a := cn (C k)) (b := j) (by omega) (by omega)).mp c3
            refine lv_aload_n hx hb dX4_changeClocks_69 rfl (lv_at hl 2 rfl) ?_
            refine c_calli (As := []) (rest := []) hx hb hml hown hts hK hX hI (11 + 20 * k) (by omega) cE_st rfl (k_X4_numberThatGo l dd g ad pi A hA (mrow C k (chC (C k) sec j)) k (by omega) (by rw [mrow_s]; exact hW.low (chC_low _ _ _ (by decide)) (chC_low _ _ _ (by decide)))) (cwV 0 hts gX4_changeClocks_X4_numberThatGo rfl rfl rfl (by decide +kernel) ⟨Nat.le_of_ble_eq_true rfl, Nat.le_of_ble_eq_true rfl⟩) rfl hl (Nat.le_of_ble_eq_true rfl) ⟨Nat.zero_le _, Nat.zero_le _⟩ dX4_changeClocks_70 rfl (fun r C1 pi1 H locs h4 hI => ?_)
            obtain ⟨hr9, hc9, hp9⟩ := h4
            rw [hc9, hp9] at hI
            rw [mrow_s, show j = cn (C k) by omega, show cn (chC (C k) sec (cn (C k))) = cn (C k) from cn_low (chC_low _ _ _ (by decide))] at hr9
            subst hr9
            exact c_iret (v := nI (goN (chC (C k) sec (cn (C k))) (cn (C k)))) hx hb hr hI (⟨by simp only [ccR, hs9, ccS, if_pos c1, if_pos c2, if_pos c3, if_pos nc3], by rw [show j = cn (C k) by omega]; simp only [ccF, hs9, ccS, if_pos c1, if_pos c2, if_pos c3, if_pos nc3], rfl⟩) dX4_changeClocks_73 hlocks
          · skip
            have nc3 : ¬ (cn (C k) ≤ j) := fun h => c3 ((nI_leI (a := cn (C k)) (b := j) (by omega) (by omega)).mpr h)
            refine lv_aload_n hx hb dX4_changeClocks_36 rfl (lv_at hl 2 rfl) ?_
            refine c_get hx hb hts hown hK hI (11 + 20 * k) (by omega) cE_st rfl hinX4 1 (by decide) (hts (.fieldLink RX4 17 "WinderLadders$State" "clocks" "[LWinderLadders$Clock;") (by decide +kernel)) (v := .ref (ad (13 + 20 * k))) rfl dX4_changeClocks_37 ?_
            refine lv_iload_n hx hb dX4_changeClocks_40 rfl (lv_at hl 0 rfl) ?_
            refine c_aldC hx hb hK hI k (by omega) (j) (by omega) rfl dX4_changeClocks_41 ?_
            refine c_get hx hb hts hown hK hI (15 + 20 * k + j) (by omega) (cE_cl (by omega)) rfl hinX0 7 (by decide) (hts (.fieldLink RX4 77 "WinderLadders$Clock" "goes" "Z") (by decide +kernel)) (v := .int ((chC (C k) sec j) (12 + 8 * j + 6))) (congrArg (fun z => some (Value.int z)) ((congrFun (mrow_s _ _ _) _))) dX4_changeClocks_42 ?_
            refine lv_if_eq (tgt := 63) hx hb dX4_changeClocks_45 (by decide) (fun c5 => ?_) (fun c5 => ?_)
            · skip
              refine lv_iinc (v := nI (j + 1)) (lv' := [(3, .int (nI (j + 1))), (2, .int sec), (0, .ref (ad (11 + 20 * k))), (1, .int y)]) hx hb dX4_changeClocks_63 hl (k := 0) rfl (by rw [show Int32.ofInt 1 = nI 1 from rfl, nI_add]) (by decide) rfl (fun ls hl => ?_)
              refine lv_goto (tgt := 28) hx hb dX4_changeClocks_66 (by decide) ?_
              exact ih (j + 1) sec (by omega) (by omega) hs9 _ _ _ (by rw [show chC (C k) sec (j + 1) = chC (C k) sec j by simp only [chC, if_pos c1, if_pos c2, if_neg c3, if_neg nc3, if_pos c5]]; exact hI) (lv_sub hl [0, 1, 2, 3] rfl)
            · skip
              refine lv_aload_n hx hb dX4_changeClocks_48 rfl (lv_at hl 2 rfl) ?_
              refine c_get hx hb hts hown hK hI (11 + 20 * k) (by omega) cE_st rfl hinX4 1 (by decide) (hts (.fieldLink RX4 17 "WinderLadders$State" "clocks" "[LWinderLadders$Clock;") (by decide +kernel)) (v := .ref (ad (13 + 20 * k))) rfl dX4_changeClocks_49 ?_
              refine lv_iload_n hx hb dX4_changeClocks_52 rfl (lv_at hl 0 rfl) ?_
              refine c_aldC hx hb hK hI k (by omega) (j) (by omega) rfl dX4_changeClocks_53 ?_
              refine lv_dup hx hb dX4_changeClocks_54 rfl ?_
              refine c_get hx hb hts hown hK hI (15 + 20 * k + j) (by omega) (cE_cl (by omega)) rfl hinX0 4 (by decide) (hts (.fieldLink RX4 81 "WinderLadders$Clock" "off" "I") (by decide +kernel)) (v := .int ((chC (C k) sec j) (12 + 8 * j + 4))) (congrArg (fun z => some (Value.int z)) ((congrFun (mrow_s _ _ _) _))) dX4_changeClocks_55 ?_
              refine lv_iload_n hx hb dX4_changeClocks_58 rfl (lv_at hl 1 rfl) ?_
              refine lv_iadd hx hb dX4_changeClocks_59 ?_
              refine c_putC hx hb hts hinX0 hown hK hA hI k j 4 4 (by omega) (by omega) (by decide) (hts (.fieldLink RX4 81 "WinderLadders$Clock" "off" "I") (by decide +kernel)) (fun h => absurd h (by decide)) dX4_changeClocks_60 (fun H locs hI => ?_)
              refine lv_iinc (v := nI (j + 1)) (lv' := [(3, .int (nI (j + 1))), (2, .int sec), (0, .ref (ad (11 + 20 * k))), (1, .int y)]) hx hb dX4_changeClocks_63 hl (k := 0) rfl (by rw [show Int32.ofInt 1 = nI 1 from rfl, nI_add]) (by decide) rfl (fun ls hl => ?_)
              refine lv_goto (tgt := 28) hx hb dX4_changeClocks_66 (by decide) ?_
              exact ih (j + 1) sec (by omega) (by omega) hs9 _ _ _ (by rw [mset_mrow_s] at hI; rw [show chC (C k) sec (j + 1) = upd (chC (C k) sec j) (12 + 8 * j + 4) (chC (C k) sec j (12 + 8 * j + 4) + sec) by simp only [chC, if_pos c1, if_pos c2, if_neg c3, if_neg nc3, if_neg c5]]; exact hI) (lv_sub hl [0, 1, 2, 3] rfl)
      exact L28 17 0 3600 (by omega) (by omega) (by simp only [ccS, if_pos c1, if_pos c2]) _ _ _ (by rw [show chC (C k) 3600 0 = C k from rfl, mrow_self]; exact hI) (lv_sub hl [0, 1, 2, 3] rfl)
  · skip
    refine lv_iload_n hx hb dX4_changeClocks_4 rfl (lv_at hl 1 rfl) ?_
    refine lv_iconst (v := 1) hx hb dX4_changeClocks_5 (by decide) ?_
    refine lv_icmp_eq (tgt := 12) hx hb dX4_changeClocks_6 (by decide) (fun c6 => ?_) (fun c6 => ?_)
    · skip
      refine lv_iload_n hx hb dX4_changeClocks_12 rfl (lv_at hl 1 rfl) ?_
      refine lv_if_ne (tgt := 22) hx hb dX4_changeClocks_13 (by decide) (fun c7 => ?_) (fun c7 => ?_)
      · skip
        refine lv_sipush (v := (-3600)) hx hb dX4_changeClocks_22 (by decide) ?_
        refine lv_istore_n (lv' := [(2, .int ((-3600))), (0, .ref (ad (11 + 20 * k))), (1, .int y)]) hx hb dX4_changeClocks_25 rfl hl (by decide) rfl (fun ls hl => ?_)
        refine lv_iconst (v := 0) hx hb dX4_changeClocks_26 (by decide) ?_
        refine lv_istore_n (lv' := [(3, .int 0), (2, .int ((-3600))), (0, .ref (ad (11 + 20 * k))), (1, .int y)]) hx hb dX4_changeClocks_27 rfl hl (by decide) rfl (fun ls hl => ?_)
        have L28 : ∀ (fuel : Nat) (j : Nat) (sec : Int32) (h1 : j ≤ cn (C k)) (h2 : cn (C k) < fuel + j) (hs9 : sec = ccS y) (H : Heap) (locs : List Loc) (ls : Array Slot), cI dd g ad pi A s.heap H locs (mrow C k (chC (C k) sec j)) → lv_has ls 4 [(3, .int (nI j)), (2, .int sec), (0, .ref (ad (11 + 20 * k))), (1, .int y)] → wk p l e wsX4_changeClocks { frames := 1, cells := 0, slots := 0, locals := 22 } s m [.ref (ad (11 + 20 * k)), .int y] below meth c H locs (cQi dd g ad A (fun r C1 pi1 => r = ccR (C k) y ∧ C1 = mrow C k (ccF (C k) y) ∧ pi1 = pi)) (A) (F0 m 28 ls []) := by
          intro fuel
          induction fuel with
          | zero =>
            intro j sec h1 h2 hs9 H locs ls hI hl
            exact absurd h2 (by omega)
          | succ fuel ih =>
            intro j sec h1 h2 hs9 H locs ls hI hl
            refine lv_iload_n hx hb dX4_changeClocks_28 rfl (lv_at hl 0 rfl) ?_
            refine lv_aload_n hx hb dX4_changeClocks_29 rfl (lv_at hl 2 rfl) ?_
            refine c_get hx hb hts hown hK hI (11 + 20 * k) (by omega) cE_st rfl hinX4 3 (by decide) (hts (.fieldLink RX4 34 "WinderLadders$State" "clockCount" "I") (by decide +kernel)) (v := .int (nI (cn (C k)))) (congrArg (fun z => some (Value.int z)) ((by rw [mrow_s, chC_low _ _ _ (by decide)]; exact hW.1))) dX4_changeClocks_30 ?_
            refine lv_icmp_ge (tgt := 69) hx hb dX4_changeClocks_33 (by decide) (fun c8 => ?_) (fun c8 => ?_)
            · skip
              have nc8 : cn (C k) ≤ j := (nI_leI (a := cn (C k)) (b := j) (by omega) (by omega)).mp c8
              refine lv_aload_n hx hb dX4_changeClocks_69 rfl (lv_at hl 2 rfl) ?_
              refine c_calli (As := []) (rest := []) hx hb hml hown hts hK hX hI (11 + 20 * k) (by omega) cE_st rfl (k_X4_numberThatGo l dd g ad pi A hA (mrow C k (chC (C k) sec j)) k (by omega) (by rw [mrow_s]; exact hW.low (chC_low _ _ _ (by decide)) (chC_low _ _ _ (by decide)))) (cwV 0 hts gX4_changeClocks_X4_numberThatGo rfl rfl rfl (by decide +kernel) ⟨Nat.le_of_ble_eq_true rfl, Nat.le_of_ble_eq_true rfl⟩) rfl hl (Nat.le_of_ble_eq_true rfl) ⟨Nat.zero_le _, Nat.zero_le _⟩ dX4_changeClocks_70 rfl (fun r C1 pi1 H locs h9 hI => ?_)
              obtain ⟨hr9, hc9, hp9⟩ := h9
              rw [hc9, hp9] at hI
              rw [mrow_s, show j = cn (C k) by omega, show cn (chC (C k) sec (cn (C k))) = cn (C k) from cn_low (chC_low _ _ _ (by decide))] at hr9
              subst hr9
              exact c_iret (v := nI (goN (chC (C k) sec (cn (C k))) (cn (C k)))) hx hb hr hI (⟨by simp only [ccR, hs9, ccS, if_neg c1, if_pos c6, if_neg c7, if_pos c8, if_pos nc8], by rw [show j = cn (C k) by omega]; simp only [ccF, hs9, ccS, if_neg c1, if_pos c6, if_neg c7, if_pos c8, if_pos nc8], rfl⟩) dX4_changeClocks_73 hlocks
            · skip
              have nc8 : ¬ (cn (C k) ≤ j) := fun h => c8 ((nI_leI (a := cn (C k)) (b := j) (by omega) (by omega)).mpr h)
              refine lv_aload_n hx hb dX4_changeClocks_36 rfl (lv_at hl 2 rfl) ?_
              refine c_get hx hb hts hown hK hI (11 + 20 * k) (by omega) cE_st rfl hinX4 1 (by decide) (hts (.fieldLink RX4 17 "WinderLadders$State" "clocks" "[LWinderLadders$Clock;") (by decide +kernel)) (v := .ref (ad (13 + 20 * k))) rfl dX4_changeClocks_37 ?_
              refine lv_iload_n hx hb dX4_changeClocks_40 rfl (lv_at hl 0 rfl) ?_
              refine c_aldC hx hb hK hI k (by omega) (j) (by omega) rfl dX4_changeClocks_41 ?_
              refine c_get hx hb hts hown hK hI (15 + 20 * k + j) (by omega) (cE_cl (by omega)) rfl hinX0 7 (by decide) (hts (.fieldLink RX4 77 "WinderLadders$Clock" "goes" "Z") (by decide +kernel)) (v := .int ((chC (C k) sec j) (12 + 8 * j + 6))) (congrArg (fun z => some (Value.int z)) ((congrFun (mrow_s _ _ _) _))) dX4_changeClocks_42 ?_
              refine lv_if_eq (tgt := 63) hx hb dX4_changeClocks_45 (by decide) (fun c10 => ?_) (fun c10 => ?_)
              · skip
                refine lv_iinc (v := nI (j + 1)) (lv' := [(3, .int (nI (j + 1))), (2, .int sec), (0, .ref (ad (11 + 20 * k))), (1, .int y)]) hx hb dX4_changeClocks_63 hl (k := 0) rfl (by rw [show Int32.ofInt 1 = nI 1 from rfl, nI_add]) (by decide) rfl (fun ls hl => ?_)
                refine lv_goto (tgt := 28) hx hb dX4_changeClocks_66 (by decide) ?_
                exact ih (j + 1) sec (by omega) (by omega) hs9 _ _ _ (by rw [show chC (C k) sec (j + 1) = chC (C k) sec j by simp only [chC, if_neg c1, if_pos c6, if_neg c7, if_neg c8, if_neg nc8, if_pos c10]]; exact hI) (lv_sub hl [0, 1, 2, 3] rfl)
              · skip
                refine lv_aload_n hx hb dX4_changeClocks_48 rfl (lv_at hl 2 rfl) ?_
                refine c_get hx hb hts hown hK hI (11 + 20 * k) (by omega) cE_st rfl hinX4 1 (by decide) (hts (.fieldLink RX4 17 "WinderLadders$State" "clocks" "[LWinderLadders$Clock;") (by decide +kernel)) (v := .ref (ad (13 + 20 * k))) rfl dX4_changeClocks_49 ?_
                refine lv_iload_n hx hb dX4_changeClocks_52 rfl (lv_at hl 0 rfl) ?_
                refine c_aldC hx hb hK hI k (by omega) (j) (by omega) rfl dX4_changeClocks_53 ?_
                refine lv_dup hx hb dX4_changeClocks_54 rfl ?_
                refine c_get hx hb hts hown hK hI (15 + 20 * k + j) (by omega) (cE_cl (by omega)) rfl hinX0 4 (by decide) (hts (.fieldLink RX4 81 "WinderLadders$Clock" "off" "I") (by decide +kernel)) (v := .int ((chC (C k) sec j) (12 + 8 * j + 4))) (congrArg (fun z => some (Value.int z)) ((congrFun (mrow_s _ _ _) _))) dX4_changeClocks_55 ?_
                refine lv_iload_n hx hb dX4_changeClocks_58 rfl (lv_at hl 1 rfl) ?_
                refine lv_iadd hx hb dX4_changeClocks_59 ?_
                refine c_putC hx hb hts hinX0 hown hK hA hI k j 4 4 (by omega) (by omega) (by decide) (hts (.fieldLink RX4 81 "WinderLadders$Clock" "off" "I") (by decide +kernel)) (fun h => absurd h (by decide)) dX4_changeClocks_60 (fun H locs hI => ?_)
                refine lv_iinc (v := nI (j + 1)) (lv' := [(3, .int (nI (j + 1))), (2, .int sec), (0, .ref (ad (11 + 20 * k))), (1, .int y)]) hx hb dX4_changeClocks_63 hl (k := 0) rfl (by rw [show Int32.ofInt 1 = nI 1 from rfl, nI_add]) (by decide) rfl (fun ls hl => ?_)
                refine lv_goto (tgt := 28) hx hb dX4_changeClocks_66 (by decide) ?_
                exact ih (j + 1) sec (by omega) (by omega) hs9 _ _ _ (by rw [mset_mrow_s] at hI; rw [show chC (C k) sec (j + 1) = upd (chC (C k) sec j) (12 + 8 * j + 4) (chC (C k) sec j (12 + 8 * j + 4) + sec) by simp only [chC, if_neg c1, if_pos c6, if_neg c7, if_neg c8, if_neg nc8, if_neg c10]]; exact hI) (lv_sub hl [0, 1, 2, 3] rfl)
        exact L28 17 0 (-3600) (by omega) (by omega) (by simp only [ccS, if_neg c1, if_pos c6, if_neg c7]) _ _ _ (by rw [show chC (C k) (-3600) 0 = C k from rfl, mrow_self]; exact hI) (lv_sub hl [0, 1, 2, 3] rfl)
      · skip
        exact absurd c7 c1
    · skip
      refine lv_bipush (v := (-2)) hx hb dX4_changeClocks_9 (by decide) ?_
      exact c_iret (v := (-2)) hx hb hr hI (⟨by simp only [ccR, if_neg c1, if_neg c6], by simp only [ccF, if_neg c1, if_neg c6]; first | exact (mrow_self _ _).symm | rfl | (simp only [mset_mrow, mset_mrow_s, mrow_s, mrow_mrow]; done) | (simp only [mset_mrow, mset_mrow_s, mrow_s, mrow_mrow]; rfl), rfl⟩) dX4_changeClocks_11 hlocks
