set_option maxHeartbeats 4000000 in
set_option maxRecDepth 100000 in
theorem k_X4_walkBeat_p (l : Launch) (dd : va_G) (g : Nat → ClassId) (ad pi : Nat → Nat) (A : Nat → Prop) (hA : cA A ad) (C : MS) (k : Nat) (hk : k < 10) (L : Nat) (hL : L ≤ 40) (hl9 : C 10 4 = nI L) (hW : Wk (C k)) (hLd : Lad (C k))  : Met l yX4_walkBeat wsX4_walkBeat ({ frames := 3, cells := 0, slots := 0, locals := 74 }) (cPre dd g ad pi A C [.ref (ad (11 + 20 * k)), .ref (ad 7)]) (cQi dd g ad A (fun r C1 pi1 => r = bwR (C k) (C 13) L ∧ C1 = mrow C k (bwF (C k) (C 13) L) ∧ pi1 = pi)) 0 0 A := by
  refine Met.ofW (cc := cX4_walkBeat) (maxL := 5) (ret := (some .int)) (by decide) rfl ?_
  intro p e s m args below meth c s₁ B hml hv
  obtain ⟨rfl, hP0, hK, hX⟩ := hv
  have hx := B.exec
  have hb := B.bytes
  have hr := B.returns
  have hts := atoms_spec (ws := wsX4_walkBeat) B.pre
  have hown : s.vm.findClass RX4 = some m.cls := findClass_of_methodNamed B.named
  have hlocks := B.notSynchronized
  have hinX3 : ∀ w ∈ wsX30, w ∈ wsX4_walkBeat := by decide +kernel
  have hinX4 : ∀ w ∈ wsX40, w ∈ wsX4_walkBeat := by decide +kernel
  have hI : cI dd g ad pi A s.heap s.heap [] C := ⟨hP0, va_S.rf⟩
  have hl := lv_entry ([.ref (ad (11 + 20 * k)), .ref (ad 7)]) (n := 5) (Nat.le_of_ble_eq_true rfl)
  rw [lg_entry_eq]
  generalize (lg_sl ([.ref (ad (11 + 20 * k)), .ref (ad 7)]) ++ List.replicate (5 - (lg_sl ([.ref (ad (11 + 20 * k)), .ref (ad 7)])).length) Slot.unset).toArray = ls at hl ⊢
  have hl : lv_has ls 5 [(0, .ref (ad (11 + 20 * k))), (1, .ref (ad 7))] := hl
  have hc16 := hW.2.1
  have hl4 := hW.2.2.2
  refine lv_aload_n hx hb dX4_walkBeat_0 rfl (lv_at hl 0 rfl) ?_
  refine lv_aload_n hx hb dX4_walkBeat_1 rfl (lv_at hl 1 rfl) ?_
  refine c_calli (As := [.ref (ad 7)]) (rest := []) hx hb hml hown hts hK hX hI (11 + 20 * k) (by omega) cE_st rfl (k_X4_minutesOf_p l dd g ad pi A hA C k (by omega) L hL hl9 hW hLd) (cwV 1 hts gX4_walkBeat_X4_minutesOf rfl rfl rfl (by decide +kernel) ⟨Nat.le_of_ble_eq_true rfl, Nat.le_of_ble_eq_true rfl⟩) rfl hl (Nat.le_of_ble_eq_true rfl) ⟨Nat.zero_le _, Nat.zero_le _⟩ dX4_walkBeat_2 rfl (fun r C1 pi1 H locs h2 hI => ?_)
  obtain ⟨h2, hc9, hp9⟩ := h2
  rw [hc9, hp9] at hI
  rcases h2 with ⟨g1, hr9⟩ | ⟨g1, hr9⟩
  · skip
    subst hr9
    refine lv_istore_n (lv' := [(2, .int (moN (C k) (C 13) L)), (0, .ref (ad (11 + 20 * k))), (1, .ref (ad 7))]) hx hb dX4_walkBeat_5 rfl hl (by decide) rfl (fun ls hl => ?_)
    refine lv_iload_n hx hb dX4_walkBeat_6 rfl (lv_at hl 0 rfl) ?_
    refine lv_if_ge (tgt := 12) hx hb dX4_walkBeat_7 (by decide) (fun c3 => ?_) (fun c3 => ?_)
    · skip
      have g_ok := g1
      refine lv_iconst (v := 0) hx hb dX4_walkBeat_12 (by decide) ?_
      refine lv_istore_n (lv' := [(3, .int 0), (2, .int (moN (C k) (C 13) L)), (0, .ref (ad (11 + 20 * k))), (1, .ref (ad 7))]) hx hb dX4_walkBeat_13 rfl hl (by decide) rfl (fun ls hl => ?_)
      have L14 : ∀ (fuel : Nat) (j : Nat) (h1 : j ≤ L) (h2 : L < fuel + j) (H : Heap) (locs : List Loc) (ls : Array Slot), cI dd g ad pi A s.heap H locs (mrow C k (wbN (C k) (C 13) j)) → lv_has ls 5 [(3, .int (nI j)), (2, .int (moN (C k) (C 13) L)), (0, .ref (ad (11 + 20 * k))), (1, .ref (ad 7))] → wk p l e wsX4_walkBeat { frames := 3, cells := 0, slots := 0, locals := 74 } s m [.ref (ad (11 + 20 * k)), .ref (ad 7)] below meth c H locs (cQi dd g ad A (fun r C1 pi1 => r = bwR (C k) (C 13) L ∧ C1 = mrow C k (bwF (C k) (C 13) L) ∧ pi1 = pi)) (A) (F0 m 14 ls []) := by
        intro fuel
        induction fuel with
        | zero =>
          intro j h1 h2 H locs ls hI hl
          exact absurd h2 (by omega)
        | succ fuel ih =>
          intro j h1 h2 H locs ls hI hl
          have hcw := cn_low (f := C k) (h := (wbN (C k) (C 13) j)) (wbN_low _ _ _ (by decide))
          refine lv_iload_n hx hb dX4_walkBeat_14 rfl (lv_at hl 0 rfl) ?_
          refine lv_aload_n hx hb dX4_walkBeat_15 rfl (lv_at hl 3 rfl) ?_
          refine c_get hx hb hts hown hK hI 7 (by omega) cE_7 rfl hinX3 1 (by decide) (hts (.fieldLink RX4 88 "WinderLadders$Row" "length" "I") (by decide +kernel)) (v := .int (nI L)) (congrArg (fun z => some (Value.int z)) (((congrFun (mrow_n _ (by omega) _) _).trans hl9))) dX4_walkBeat_16 ?_
          refine lv_icmp_ge (tgt := 74) hx hb dX4_walkBeat_19 (by decide) (fun c4 => ?_) (fun c4 => ?_)
          · skip
            have nc4 : L ≤ j := (nI_leI (a := L) (b := j) (by omega) (by omega)).mp c4
            refine lv_aload_n hx hb dX4_walkBeat_74 rfl (lv_at hl 2 rfl) ?_
            refine lv_dup hx hb dX4_walkBeat_75 rfl ?_
            refine c_get hx hb hts hown hK hI (11 + 20 * k) (by omega) cE_st rfl hinX4 6 (by decide) (hts (.fieldLink RX4 48 "WinderLadders$State" "minutes" "I") (by decide +kernel)) (v := .int (C k 7)) (congrArg (fun z => some (Value.int z)) ((by rw [mrow_s, wbN_low _ _ _ (by decide)]))) dX4_walkBeat_76 ?_
            refine lv_iload_n hx hb dX4_walkBeat_79 rfl (lv_at hl 1 rfl) ?_
            refine lv_iadd hx hb dX4_walkBeat_80 ?_
            refine c_putS hx hb hts hinX4 hown hK hA hI k 7 6 (by omega) (by decide) (hts (.fieldLink RX4 48 "WinderLadders$State" "minutes" "I") (by decide +kernel)) dX4_walkBeat_81 (fun H locs hI => ?_)
            refine lv_iload_n hx hb dX4_walkBeat_84 rfl (lv_at hl 1 rfl) ?_
            exact c_iret (v := moN (C k) (C 13) L) hx hb hr hI (⟨by simp only [bwR, if_pos ((gdB_t _ _ _).mpr g1)], by simp only [bwF, if_pos ((gdB_t _ _ _).mpr g1), if_pos c3, if_pos c4, if_pos nc4]; rw [mset_mrow_s, show j = L by omega], rfl⟩) dX4_walkBeat_85 hlocks
          · skip
            have nc4 : ¬ (L ≤ j) := fun h => c4 ((nI_leI (a := L) (b := j) (by omega) (by omega)).mpr h)
            refine lv_aload_n hx hb dX4_walkBeat_22 rfl (lv_at hl 3 rfl) ?_
            refine lv_iload_n hx hb dX4_walkBeat_23 rfl (lv_at hl 0 rfl) ?_
            refine c_calli (As := [.int (nI j)]) (rest := []) hx hb hml hown hts hK hX hI 7 (by omega) cE_7 rfl (k_X3_at_p l dd g ad pi A hA (mrow C k (wbN (C k) (C 13) j)) L hL (by rw [mrow_n _ (by omega)]; exact hl9) (nI j)) (cwV 1 hts gX4_walkBeat_X3_at rfl rfl rfl (by decide +kernel) ⟨Nat.le_of_ble_eq_true rfl, Nat.le_of_ble_eq_true rfl⟩) rfl hl (Nat.le_of_ble_eq_true rfl) ⟨Nat.zero_le _, Nat.zero_le _⟩ dX4_walkBeat_24 rfl (fun r5 C1 pi1 H locs h6 hI => ?_)
            rw [mrow_n _ (by omega)] at h6
            obtain ⟨h6, hc9, hp9⟩ := h6
            rw [hc9, hp9] at hI
            rw [atR_in hL (by omega)] at h6
            have e_r5 := h6
            refine lv_istore (lv' := [(4, .int r5), (3, .int (nI j)), (2, .int (moN (C k) (C 13) L)), (0, .ref (ad (11 + 20 * k))), (1, .ref (ad 7))]) hx hb dX4_walkBeat_27 hl (by decide) rfl (fun ls hl => ?_)
            refine lv_aload_n hx hb dX4_walkBeat_29 rfl (lv_at hl 3 rfl) ?_
            refine lv_iload hx hb dX4_walkBeat_30 (lv_at hl 0 rfl) ?_
            refine c_calli (As := [.int r5]) (rest := []) hx hb hml hown hts hK hX hI (11 + 20 * k) (by omega) cE_st rfl (k_X4_hasClock l dd g ad pi A hA (mrow C k (wbN (C k) (C 13) j)) k (by omega) r5 (by rw [mrow_s]; exact (hW.low (wbN_low _ _ _ (by decide)) (wbN_low _ _ _ (by decide))))) (cwV 1 hts gX4_walkBeat_X4_hasClock rfl rfl rfl (by decide +kernel) ⟨Nat.le_of_ble_eq_true rfl, Nat.le_of_ble_eq_true rfl⟩) rfl hl (Nat.le_of_ble_eq_true rfl) ⟨Nat.zero_le _, Nat.zero_le _⟩ dX4_walkBeat_32 rfl (fun r C1 pi1 H locs h8 hI => ?_)
            simp only [mrow_s] at h8
            obtain ⟨h8, hc9, hp9⟩ := h8
            rw [hc9, hp9] at hI
            rcases h8 with ⟨⟨i7, hi_i7, e_i7⟩, rfl⟩ | ⟨b_i7, rfl⟩
            · skip
              have b_i7 : isCb (wbN (C k) (C 13) j) r5 = true := isCb_t (hW.low (wbN_low _ _ _ (by decide)) (wbN_low _ _ _ (by decide))) ⟨hi_i7, e_i7⟩
              have x_i7 : ix r5 = i7 := by rw [e_i7]; exact ix_nI (by omega)
              subst e_i7
              refine lv_if_eq (tgt := 68) hx hb dX4_walkBeat_35 (by decide) (fun c9 => absurd c9 (by decide)) (fun _ => ?_)
              have hix : ix (C 13 j) = i7 := by rw [← e_r5]; exact ix_nI (by omega)
              refine lv_aload_n hx hb dX4_walkBeat_38 rfl (lv_at hl 3 rfl) ?_
              refine lv_aload_n hx hb dX4_walkBeat_39 rfl (lv_at hl 3 rfl) ?_
              refine c_get hx hb hts hown hK hI (11 + 20 * k) (by omega) cE_st rfl hinX4 1 (by decide) (hts (.fieldLink RX4 17 "WinderLadders$State" "clocks" "[LWinderLadders$Clock;") (by decide +kernel)) (v := .ref (ad (13 + 20 * k))) rfl dX4_walkBeat_40 ?_
              refine lv_iload hx hb dX4_walkBeat_43 (lv_at hl 0 rfl) ?_
              refine c_aldC hx hb hK hI k (by omega) (i7) (by omega) rfl dX4_walkBeat_45 ?_
              refine c_calli (As := [.ref (ad (15 + 20 * k + i7))]) (rest := []) hx hb hml hown hts hK hX hI (11 + 20 * k) (by omega) cE_st rfl (k_X4_canBeWound l dd g ad pi A hA (mrow C k (wbN (C k) (C 13) j)) k (by omega) i7 (by rw [mrow_s]; omega) (by rw [mrow_s]; exact (hW.low (wbN_low _ _ _ (by decide)) (wbN_low _ _ _ (by decide)))) (by rw [mrow_s]; exact (hLd.low (fun _ hj => wbN_low _ _ _ hj) (wbN_rungs _ _ _) hW))) (cwV 1 hts gX4_walkBeat_X4_canBeWound rfl rfl rfl (by decide +kernel) ⟨Nat.le_of_ble_eq_true rfl, Nat.le_of_ble_eq_true rfl⟩) rfl hl (Nat.le_of_ble_eq_true rfl) ⟨Nat.zero_le _, Nat.zero_le _⟩ dX4_walkBeat_46 rfl (fun r C1 pi1 H locs h11 hI => ?_)
              simp only [mrow_s] at h11
              obtain ⟨h11, hc9, hp9⟩ := h11
              rw [hc9, hp9] at hI
              rcases h11 with ⟨b10, rfl⟩ | ⟨b10, rfl⟩
              · skip
                have b10 : canW (wbN (C k) (C 13) j) i7 = true := b10
                refine lv_if_eq (tgt := 68) hx hb dX4_walkBeat_49 (by decide) (fun c12 => absurd c12 (by decide)) (fun _ => ?_)
                refine lv_aload_n hx hb dX4_walkBeat_52 rfl (lv_at hl 3 rfl) ?_
                refine c_get hx hb hts hown hK hI (11 + 20 * k) (by omega) cE_st rfl hinX4 1 (by decide) (hts (.fieldLink RX4 17 "WinderLadders$State" "clocks" "[LWinderLadders$Clock;") (by decide +kernel)) (v := .ref (ad (13 + 20 * k))) rfl dX4_walkBeat_53 ?_
                refine lv_iload hx hb dX4_walkBeat_56 (lv_at hl 0 rfl) ?_
                refine c_aldC hx hb hK hI k (by omega) (i7) (by omega) rfl dX4_walkBeat_58 ?_
                refine lv_aload_n hx hb dX4_walkBeat_59 rfl (lv_at hl 3 rfl) ?_
                refine c_get hx hb hts hown hK hI (11 + 20 * k) (by omega) cE_st rfl hinX4 0 (by decide) (hts (.fieldLink RX4 9 "WinderLadders$State" "settings" "[I") (by decide +kernel)) (v := .ref (ad (12 + 20 * k))) rfl dX4_walkBeat_60 ?_
                refine lv_iconst (v := 0) hx hb dX4_walkBeat_63 (by decide) ?_
                refine c_ald hx hb hK hI (12 + 20 * k) (by omega) cE_se (by decide) (0) (by omega) rfl (v := C k 0) ((if_pos (show (0) < 4 by omega)).trans ((by rw [mrow_s, wbN_low _ _ _ (by decide)]))) dX4_walkBeat_64 ?_
                refine c_callv (As := [.int (C k 0)]) (rest := []) hx hb hml hown hts hK hX hI (15 + 20 * k + i7) (by omega) (cE_cl (by omega)) rfl (k_X0_windAndSet l dd g ad pi A hA (mrow C k (wbN (C k) (C 13) j)) k i7 (by omega) (by omega) (C k 0)) (cwV 1 hts gX4_walkBeat_X0_windAndSet rfl rfl rfl (by decide +kernel) ⟨Nat.le_of_ble_eq_true rfl, Nat.le_of_ble_eq_true rfl⟩) rfl hl (Nat.le_of_ble_eq_true rfl) ⟨Nat.zero_le _, Nat.zero_le _⟩ dX4_walkBeat_65 rfl (fun C1 pi1 H locs h13 hI => ?_)
                obtain ⟨hc9, hp9⟩ := h13
                try simp only [mrow_s, mrow_mrow] at hc9
                rw [hc9, hp9] at hI
                refine lv_iinc (v := nI (j + 1)) (lv' := [(3, .int (nI (j + 1))), (4, .int (nI i7)), (2, .int (moN (C k) (C 13) L)), (0, .ref (ad (11 + 20 * k))), (1, .ref (ad 7))]) hx hb dX4_walkBeat_68 hl (k := 1) rfl (by rw [show Int32.ofInt 1 = nI 1 from rfl, nI_add]) (by decide) rfl (fun ls hl => ?_)
                refine lv_goto (tgt := 14) hx hb dX4_walkBeat_71 (by decide) ?_
                exact ih (j + 1) (by omega) (by omega) _ _ _ (by rw [show wbN (C k) (C 13) (j + 1) = (winC (wbN (C k) (C 13) j) i7 (C k 0)) by simp only [wbN, hix, if_pos c3, if_neg c4, if_neg nc4, if_pos b_i7, if_pos b10]]; exact hI) (lv_sub hl [0, 2, 3, 4] rfl)
              · skip
                have b10 : canW (wbN (C k) (C 13) j) i7 = false := b10
                refine lv_if_eq (tgt := 68) hx hb dX4_walkBeat_49 (by decide) (fun _ => ?_) (fun c14 => absurd (by decide) c14)
                refine lv_iinc (v := nI (j + 1)) (lv' := [(3, .int (nI (j + 1))), (4, .int (nI i7)), (2, .int (moN (C k) (C 13) L)), (0, .ref (ad (11 + 20 * k))), (1, .ref (ad 7))]) hx hb dX4_walkBeat_68 hl (k := 1) rfl (by rw [show Int32.ofInt 1 = nI 1 from rfl, nI_add]) (by decide) rfl (fun ls hl => ?_)
                refine lv_goto (tgt := 14) hx hb dX4_walkBeat_71 (by decide) ?_
                exact ih (j + 1) (by omega) (by omega) _ _ _ (by rw [show wbN (C k) (C 13) (j + 1) = (wbN (C k) (C 13) j) by simp only [wbN, hix, if_pos c3, if_neg c4, if_neg nc4, if_pos b_i7, if_neg (Bool.eq_false_iff.mp b10)]]; exact hI) (lv_sub hl [0, 2, 3, 4] rfl)
            · skip
              have b_i7 := isCb_f (hW.low (wbN_low _ _ _ (by decide)) (wbN_low _ _ _ (by decide))) b_i7
              exact absurd ((isCb_low (wbN_low _ _ _ (by decide))).trans (by rw [e_r5]; exact g_ok j (by omega))) (Bool.eq_false_iff.mp b_i7)
      exact L14 42 0 (by omega) (by omega) _ _ _ (by rw [show ∀ w0, wbN (C k) w0 0 = C k from fun _ => rfl, mrow_self]; exact hI) (lv_sub hl [0, 1, 2, 3] rfl)
    · skip
      refine lv_iload_n hx hb dX4_walkBeat_10 rfl (lv_at hl 0 rfl) ?_
      exact c_iret (v := moN (C k) (C 13) L) hx hb hr hI (⟨by simp only [bwR, if_pos ((gdB_t _ _ _).mpr g1)], by simp only [bwF, if_pos ((gdB_t _ _ _).mpr g1), if_neg c3]; exact (mrow_self _ _).symm, rfl⟩) dX4_walkBeat_11 hlocks
  · skip
    subst hr9
    refine lv_istore_n (lv' := [(2, .int ((-1))), (0, .ref (ad (11 + 20 * k))), (1, .ref (ad 7))]) hx hb dX4_walkBeat_5 rfl hl (by decide) rfl (fun ls hl => ?_)
    refine lv_iload_n hx hb dX4_walkBeat_6 rfl (lv_at hl 0 rfl) ?_
    refine lv_if_ge (tgt := 12) hx hb dX4_walkBeat_7 (by decide) (fun c15 => absurd c15 (by decide)) (fun _ => ?_)
    refine lv_iload_n hx hb dX4_walkBeat_10 rfl (lv_at hl 0 rfl) ?_
    exact c_iret (v := (-1)) hx hb hr hI (⟨by simp only [bwR, if_neg (fun z => g1 ((gdB_t _ _ _).mp z))], by simp only [bwF, if_neg (fun z => g1 ((gdB_t _ _ _).mp z))]; exact (mrow_self _ _).symm, rfl⟩) dX4_walkBeat_11 hlocks

set_option maxHeartbeats 4000000 in
set_option maxRecDepth 100000 in
theorem k_X4_walkBeat_r (l : Launch) (dd : va_G) (g : Nat → ClassId) (ad pi : Nat → Nat) (A : Nat → Prop) (hA : cA A ad) (C : MS) (k : Nat) (hk : k < 10) (L : Nat) (hL : L ≤ 40) (hl9 : C 10 5 = nI L) (hW : Wk (C k)) (hLd : Lad (C k))  : Met l yX4_walkBeat wsX4_walkBeat ({ frames := 3, cells := 0, slots := 0, locals := 74 }) (cPre dd g ad pi A C [.ref (ad (11 + 20 * k)), .ref (ad 9)]) (cQi dd g ad A (fun r C1 pi1 => r = bwR (C k) (C 14) L ∧ C1 = mrow C k (bwF (C k) (C 14) L) ∧ pi1 = pi)) 0 0 A := by
  refine Met.ofW (cc := cX4_walkBeat) (maxL := 5) (ret := (some .int)) (by decide) rfl ?_
  intro p e s m args below meth c s₁ B hml hv
  obtain ⟨rfl, hP0, hK, hX⟩ := hv
  have hx := B.exec
  have hb := B.bytes
  have hr := B.returns
  have hts := atoms_spec (ws := wsX4_walkBeat) B.pre
  have hown : s.vm.findClass RX4 = some m.cls := findClass_of_methodNamed B.named
  have hlocks := B.notSynchronized
  have hinX3 : ∀ w ∈ wsX30, w ∈ wsX4_walkBeat := by decide +kernel
  have hinX4 : ∀ w ∈ wsX40, w ∈ wsX4_walkBeat := by decide +kernel
  have hI : cI dd g ad pi A s.heap s.heap [] C := ⟨hP0, va_S.rf⟩
  have hl := lv_entry ([.ref (ad (11 + 20 * k)), .ref (ad 9)]) (n := 5) (Nat.le_of_ble_eq_true rfl)
  rw [lg_entry_eq]
  generalize (lg_sl ([.ref (ad (11 + 20 * k)), .ref (ad 9)]) ++ List.replicate (5 - (lg_sl ([.ref (ad (11 + 20 * k)), .ref (ad 9)])).length) Slot.unset).toArray = ls at hl ⊢
  have hl : lv_has ls 5 [(0, .ref (ad (11 + 20 * k))), (1, .ref (ad 9))] := hl
  have hc16 := hW.2.1
  have hl4 := hW.2.2.2
  refine lv_aload_n hx hb dX4_walkBeat_0 rfl (lv_at hl 0 rfl) ?_
  refine lv_aload_n hx hb dX4_walkBeat_1 rfl (lv_at hl 1 rfl) ?_
  refine c_calli (As := [.ref (ad 9)]) (rest := []) hx hb hml hown hts hK hX hI (11 + 20 * k) (by omega) cE_st rfl (k_X4_minutesOf_r l dd g ad pi A hA C k (by omega) L hL hl9 hW hLd) (cwV 1 hts gX4_walkBeat_X4_minutesOf rfl rfl rfl (by decide +kernel) ⟨Nat.le_of_ble_eq_true rfl, Nat.le_of_ble_eq_true rfl⟩) rfl hl (Nat.le_of_ble_eq_true rfl) ⟨Nat.zero_le _, Nat.zero_le _⟩ dX4_walkBeat_2 rfl (fun r C1 pi1 H locs h2 hI => ?_)
  obtain ⟨h2, hc9, hp9⟩ := h2
  rw [hc9, hp9] at hI
  rcases h2 with ⟨g1, hr9⟩ | ⟨g1, hr9⟩
  · skip
    subst hr9
    refine lv_istore_n (lv' := [(2, .int (moN (C k) (C 14) L)), (0, .ref (ad (11 + 20 * k))), (1, .ref (ad 9))]) hx hb dX4_walkBeat_5 rfl hl (by decide) rfl (fun ls hl => ?_)
    refine lv_iload_n hx hb dX4_walkBeat_6 rfl (lv_at hl 0 rfl) ?_
    refine lv_if_ge (tgt := 12) hx hb dX4_walkBeat_7 (by decide) (fun c3 => ?_) (fun c3 => ?_)
    · skip
      have g_ok := g1
      refine lv_iconst (v := 0) hx hb dX4_walkBeat_12 (by decide) ?_
      refine lv_istore_n (lv' := [(3, .int 0), (2, .int (moN (C k) (C 14) L)), (0, .ref (ad (11 + 20 * k))), (1, .ref (ad 9))]) hx hb dX4_walkBeat_13 rfl hl (by decide) rfl (fun ls hl => ?_)
      have L14 : ∀ (fuel : Nat) (j : Nat) (h1 : j ≤ L) (h2 : L < fuel + j) (H : Heap) (locs : List Loc) (ls : Array Slot), cI dd g ad pi A s.heap H locs (mrow C k (wbN (C k) (C 14) j)) → lv_has ls 5 [(3, .int (nI j)), (2, .int (moN (C k) (C 14) L)), (0, .ref (ad (11 + 20 * k))), (1, .ref (ad 9))] → wk p l e wsX4_walkBeat { frames := 3, cells := 0, slots := 0, locals := 74 } s m [.ref (ad (11 + 20 * k)), .ref (ad 9)] below meth c H locs (cQi dd g ad A (fun r C1 pi1 => r = bwR (C k) (C 14) L ∧ C1 = mrow C k (bwF (C k) (C 14) L) ∧ pi1 = pi)) (A) (F0 m 14 ls []) := by
        intro fuel
        induction fuel with
        | zero =>
          intro j h1 h2 H locs ls hI hl
          exact absurd h2 (by omega)
        | succ fuel ih =>
          intro j h1 h2 H locs ls hI hl
          have hcw := cn_low (f := C k) (h := (wbN (C k) (C 14) j)) (wbN_low _ _ _ (by decide))
          refine lv_iload_n hx hb dX4_walkBeat_14 rfl (lv_at hl 0 rfl) ?_
          refine lv_aload_n hx hb dX4_walkBeat_15 rfl (lv_at hl 3 rfl) ?_
          refine c_get hx hb hts hown hK hI 9 (by omega) cE_9 rfl hinX3 1 (by decide) (hts (.fieldLink RX4 88 "WinderLadders$Row" "length" "I") (by decide +kernel)) (v := .int (nI L)) (congrArg (fun z => some (Value.int z)) (((congrFun (mrow_n _ (by omega) _) _).trans hl9))) dX4_walkBeat_16 ?_
          refine lv_icmp_ge (tgt := 74) hx hb dX4_walkBeat_19 (by decide) (fun c4 => ?_) (fun c4 => ?_)
          · skip
            have nc4 : L ≤ j := (nI_leI (a := L) (b := j) (by omega) (by omega)).mp c4
            refine lv_aload_n hx hb dX4_walkBeat_74 rfl (lv_at hl 2 rfl) ?_
            refine lv_dup hx hb dX4_walkBeat_75 rfl ?_
            refine c_get hx hb hts hown hK hI (11 + 20 * k) (by omega) cE_st rfl hinX4 6 (by decide) (hts (.fieldLink RX4 48 "WinderLadders$State" "minutes" "I") (by decide +kernel)) (v := .int (C k 7)) (congrArg (fun z => some (Value.int z)) ((by rw [mrow_s, wbN_low _ _ _ (by decide)]))) dX4_walkBeat_76 ?_
            refine lv_iload_n hx hb dX4_walkBeat_79 rfl (lv_at hl 1 rfl) ?_
            refine lv_iadd hx hb dX4_walkBeat_80 ?_
            refine c_putS hx hb hts hinX4 hown hK hA hI k 7 6 (by omega) (by decide) (hts (.fieldLink RX4 48 "WinderLadders$State" "minutes" "I") (by decide +kernel)) dX4_walkBeat_81 (fun H locs hI => ?_)
            refine lv_iload_n hx hb dX4_walkBeat_84 rfl (lv_at hl 1 rfl) ?_
            exact c_iret (v := moN (C k) (C 14) L) hx hb hr hI (⟨by simp only [bwR, if_pos ((gdB_t _ _ _).mpr g1)], by simp only [bwF, if_pos ((gdB_t _ _ _).mpr g1), if_pos c3, if_pos c4, if_pos nc4]; rw [mset_mrow_s, show j = L by omega], rfl⟩) dX4_walkBeat_85 hlocks
          · skip
            have nc4 : ¬ (L ≤ j) := fun h => c4 ((nI_leI (a := L) (b := j) (by omega) (by omega)).mpr h)
            refine lv_aload_n hx hb dX4_walkBeat_22 rfl (lv_at hl 3 rfl) ?_
            refine lv_iload_n hx hb dX4_walkBeat_23 rfl (lv_at hl 0 rfl) ?_
            refine c_calli (As := [.int (nI j)]) (rest := []) hx hb hml hown hts hK hX hI 9 (by omega) cE_9 rfl (k_X3_at_r l dd g ad pi A hA (mrow C k (wbN (C k) (C 14) j)) L hL (by rw [mrow_n _ (by omega)]; exact hl9) (nI j)) (cwV 1 hts gX4_walkBeat_X3_at rfl rfl rfl (by decide +kernel) ⟨Nat.le_of_ble_eq_true rfl, Nat.le_of_ble_eq_true rfl⟩) rfl hl (Nat.le_of_ble_eq_true rfl) ⟨Nat.zero_le _, Nat.zero_le _⟩ dX4_walkBeat_24 rfl (fun r5 C1 pi1 H locs h6 hI => ?_)
            rw [mrow_n _ (by omega)] at h6
            obtain ⟨h6, hc9, hp9⟩ := h6
            rw [hc9, hp9] at hI
            rw [atR_in hL (by omega)] at h6
            have e_r5 := h6
            refine lv_istore (lv' := [(4, .int r5), (3, .int (nI j)), (2, .int (moN (C k) (C 14) L)), (0, .ref (ad (11 + 20 * k))), (1, .ref (ad 9))]) hx hb dX4_walkBeat_27 hl (by decide) rfl (fun ls hl => ?_)
            refine lv_aload_n hx hb dX4_walkBeat_29 rfl (lv_at hl 3 rfl) ?_
            refine lv_iload hx hb dX4_walkBeat_30 (lv_at hl 0 rfl) ?_
            refine c_calli (As := [.int r5]) (rest := []) hx hb hml hown hts hK hX hI (11 + 20 * k) (by omega) cE_st rfl (k_X4_hasClock l dd g ad pi A hA (mrow C k (wbN (C k) (C 14) j)) k (by omega) r5 (by rw [mrow_s]; exact (hW.low (wbN_low _ _ _ (by decide)) (wbN_low _ _ _ (by decide))))) (cwV 1 hts gX4_walkBeat_X4_hasClock rfl rfl rfl (by decide +kernel) ⟨Nat.le_of_ble_eq_true rfl, Nat.le_of_ble_eq_true rfl⟩) rfl hl (Nat.le_of_ble_eq_true rfl) ⟨Nat.zero_le _, Nat.zero_le _⟩ dX4_walkBeat_32 rfl (fun r C1 pi1 H locs h8 hI => ?_)
            simp only [mrow_s] at h8
            obtain ⟨h8, hc9, hp9⟩ := h8
            rw [hc9, hp9] at hI
            rcases h8 with ⟨⟨i7, hi_i7, e_i7⟩, rfl⟩ | ⟨b_i7, rfl⟩
            · skip
              have b_i7 : isCb (wbN (C k) (C 14) j) r5 = true := isCb_t (hW.low (wbN_low _ _ _ (by decide)) (wbN_low _ _ _ (by decide))) ⟨hi_i7, e_i7⟩
              have x_i7 : ix r5 = i7 := by rw [e_i7]; exact ix_nI (by omega)
              subst e_i7
              refine lv_if_eq (tgt := 68) hx hb dX4_walkBeat_35 (by decide) (fun c9 => absurd c9 (by decide)) (fun _ => ?_)
              have hix : ix (C 14 j) = i7 := by rw [← e_r5]; exact ix_nI (by omega)
              refine lv_aload_n hx hb dX4_walkBeat_38 rfl (lv_at hl 3 rfl) ?_
              refine lv_aload_n hx hb dX4_walkBeat_39 rfl (lv_at hl 3 rfl) ?_
              refine c_get hx hb hts hown hK hI (11 + 20 * k) (by omega) cE_st rfl hinX4 1 (by decide) (hts (.fieldLink RX4 17 "WinderLadders$State" "clocks" "[LWinderLadders$Clock;") (by decide +kernel)) (v := .ref (ad (13 + 20 * k))) rfl dX4_walkBeat_40 ?_
              refine lv_iload hx hb dX4_walkBeat_43 (lv_at hl 0 rfl) ?_
              refine c_aldC hx hb hK hI k (by omega) (i7) (by omega) rfl dX4_walkBeat_45 ?_
              refine c_calli (As := [.ref (ad (15 + 20 * k + i7))]) (rest := []) hx hb hml hown hts hK hX hI (11 + 20 * k) (by omega) cE_st rfl (k_X4_canBeWound l dd g ad pi A hA (mrow C k (wbN (C k) (C 14) j)) k (by omega) i7 (by rw [mrow_s]; omega) (by rw [mrow_s]; exact (hW.low (wbN_low _ _ _ (by decide)) (wbN_low _ _ _ (by decide)))) (by rw [mrow_s]; exact (hLd.low (fun _ hj => wbN_low _ _ _ hj) (wbN_rungs _ _ _) hW))) (cwV 1 hts gX4_walkBeat_X4_canBeWound rfl rfl rfl (by decide +kernel) ⟨Nat.le_of_ble_eq_true rfl, Nat.le_of_ble_eq_true rfl⟩) rfl hl (Nat.le_of_ble_eq_true rfl) ⟨Nat.zero_le _, Nat.zero_le _⟩ dX4_walkBeat_46 rfl (fun r C1 pi1 H locs h11 hI => ?_)
              simp only [mrow_s] at h11
              obtain ⟨h11, hc9, hp9⟩ := h11
              rw [hc9, hp9] at hI
              rcases h11 with ⟨b10, rfl⟩ | ⟨b10, rfl⟩
              · skip
                have b10 : canW (wbN (C k) (C 14) j) i7 = true := b10
                refine lv_if_eq (tgt := 68) hx hb dX4_walkBeat_49 (by decide) (fun c12 => absurd c12 (by decide)) (fun _ => ?_)
                refine lv_aload_n hx hb dX4_walkBeat_52 rfl (lv_at hl 3 rfl) ?_
                refine c_get hx hb hts hown hK hI (11 + 20 * k) (by omega) cE_st rfl hinX4 1 (by decide) (hts (.fieldLink RX4 17 "WinderLadders$State" "clocks" "[LWinderLadders$Clock;") (by decide +kernel)) (v := .ref (ad (13 + 20 * k))) rfl dX4_walkBeat_53 ?_
                refine lv_iload hx hb dX4_walkBeat_56 (lv_at hl 0 rfl) ?_
                refine c_aldC hx hb hK hI k (by omega) (i7) (by omega) rfl dX4_walkBeat_58 ?_
                refine lv_aload_n hx hb dX4_walkBeat_59 rfl (lv_at hl 3 rfl) ?_
                refine c_get hx hb hts hown hK hI (11 + 20 * k) (by omega) cE_st rfl hinX4 0 (by decide) (hts (.fieldLink RX4 9 "WinderLadders$State" "settings" "[I") (by decide +kernel)) (v := .ref (ad (12 + 20 * k))) rfl dX4_walkBeat_60 ?_
                refine lv_iconst (v := 0) hx hb dX4_walkBeat_63 (by decide) ?_
                refine c_ald hx hb hK hI (12 + 20 * k) (by omega) cE_se (by decide) (0) (by omega) rfl (v := C k 0) ((if_pos (show (0) < 4 by omega)).trans ((by rw [mrow_s, wbN_low _ _ _ (by decide)]))) dX4_walkBeat_64 ?_
                refine c_callv (As := [.int (C k 0)]) (rest := []) hx hb hml hown hts hK hX hI (15 + 20 * k + i7) (by omega) (cE_cl (by omega)) rfl (k_X0_windAndSet l dd g ad pi A hA (mrow C k (wbN (C k) (C 14) j)) k i7 (by omega) (by omega) (C k 0)) (cwV 1 hts gX4_walkBeat_X0_windAndSet rfl rfl rfl (by decide +kernel) ⟨Nat.le_of_ble_eq_true rfl, Nat.le_of_ble_eq_true rfl⟩) rfl hl (Nat.le_of_ble_eq_true rfl) ⟨Nat.zero_le _, Nat.zero_le _⟩ dX4_walkBeat_65 rfl (fun C1 pi1 H locs h13 hI => ?_)
                obtain ⟨hc9, hp9⟩ := h13
                try simp only [mrow_s, mrow_mrow] at hc9
                rw [hc9, hp9] at hI
                refine lv_iinc (v := nI (j + 1)) (lv' := [(3, .int (nI (j + 1))), (4, .int (nI i7)), (2, .int (moN (C k) (C 14) L)), (0, .ref (ad (11 + 20 * k))), (1, .ref (ad 9))]) hx hb dX4_walkBeat_68 hl (k := 1) rfl (by rw [show Int32.ofInt 1 = nI 1 from rfl, nI_add]) (by decide) rfl (fun ls hl => ?_)
                refine lv_goto (tgt := 14) hx hb dX4_walkBeat_71 (by decide) ?_
                exact ih (j + 1) (by omega) (by omega) _ _ _ (by rw [show wbN (C k) (C 14) (j + 1) = (winC (wbN (C k) (C 14) j) i7 (C k 0)) by simp only [wbN, hix, if_pos c3, if_neg c4, if_neg nc4, if_pos b_i7, if_pos b10]]; exact hI) (lv_sub hl [0, 2, 3, 4] rfl)
              · skip
                have b10 : canW (wbN (C k) (C 14) j) i7 = false := b10
                refine lv_if_eq (tgt := 68) hx hb dX4_walkBeat_49 (by decide) (fun _ => ?_) (fun c14 => absurd (by decide) c14)
                refine lv_iinc (v := nI (j + 1)) (lv' := [(3, .int (nI (j + 1))), (4, .int (nI i7)), (2, .int (moN (C k) (C 14) L)), (0, .ref (ad (11 + 20 * k))), (1, .ref (ad 9))]) hx hb dX4_walkBeat_68 hl (k := 1) rfl (by rw [show Int32.ofInt 1 = nI 1 from rfl, nI_add]) (by decide) rfl (fun ls hl => ?_)
                refine lv_goto (tgt := 14) hx hb dX4_walkBeat_71 (by decide) ?_
                exact ih (j + 1) (by omega) (by omega) _ _ _ (by rw [show wbN (C k) (C 14) (j + 1) = (wbN (C k) (C 14) j) by simp only [wbN, hix, if_pos c3, if_neg c4, if_neg nc4, if_pos b_i7, if_neg (Bool.eq_false_iff.mp b10)]]; exact hI) (lv_sub hl [0, 2, 3, 4] rfl)
            · skip
              have b_i7 := isCb_f (hW.low (wbN_low _ _ _ (by decide)) (wbN_low _ _ _ (by decide))) b_i7
              exact absurd ((isCb_low (wbN_low _ _ _ (by decide))).trans (by rw [e_r5]; exact g_ok j (by omega))) (Bool.eq_false_iff.mp b_i7)
      exact L14 42 0 (by omega) (by omega) _ _ _ (by rw [show ∀ w0, wbN (C k) w0 0 = C k from fun _ => rfl, mrow_self]; exact hI) (lv_sub hl [0, 1, 2, 3] rfl)
    · skip
      refine lv_iload_n hx hb dX4_walkBeat_10 rfl (lv_at hl 0 rfl) ?_
      exact c_iret (v := moN (C k) (C 14) L) hx hb hr hI (⟨by simp only [bwR, if_pos ((gdB_t _ _ _).mpr g1)], by simp only [bwF, if_pos ((gdB_t _ _ _).mpr g1), if_neg c3]; exact (mrow_self _ _).symm, rfl⟩) dX4_walkBeat_11 hlocks
  · skip
    subst hr9
    refine lv_istore_n (lv' := [(2, .int ((-1))), (0, .ref (ad (11 + 20 * k))), (1, .ref (ad 9))]) hx hb dX4_walkBeat_5 rfl hl (by decide) rfl (fun ls hl => ?_)
    refine lv_iload_n hx hb dX4_walkBeat_6 rfl (lv_at hl 0 rfl) ?_
    refine lv_if_ge (tgt := 12) hx hb dX4_walkBeat_7 (by decide) (fun c15 => absurd c15 (by decide)) (fun _ => ?_)
    refine lv_iload_n hx hb dX4_walkBeat_10 rfl (lv_at hl 0 rfl) ?_
    exact c_iret (v := (-1)) hx hb hr hI (⟨by simp only [bwR, if_neg (fun z => g1 ((gdB_t _ _ _).mp z))], by simp only [bwF, if_neg (fun z => g1 ((gdB_t _ _ _).mp z))]; exact (mrow_self _ _).symm, rfl⟩) dX4_walkBeat_11 hlocks
