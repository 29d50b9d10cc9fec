set_option maxHeartbeats 4000000 in
set_option maxRecDepth 100000 in
theorem k_X6_sum (l : Launch) (dd : va_G) (g : Nat → ClassId) (q : Nat → Nat) (A : Nat → Prop) (hA : mA A q) (M : MS) (w : Int32) (hW : Wk (M 0)) : Met l yX6_sum wsX6_sum ({ frames := 3, cells := 0, slots := 0, locals := 66 }) (mPre dd g q M [.ref (q 0), .int w]) (mQi dd g q A (fun r M' => r = sumN (M 0) w (cn (M 0)) ∧ M' = M)) 0 0 A := by
  refine Met.ofW (cc := cX6_sum) (maxL := 4) (ret := (some .int)) (by decide) rfl ?_
  intro p e s m args below meth c s₁ B hml hv
  obtain ⟨rfl, hP0, hK⟩ := hv
  have hx := B.exec
  have hb := B.bytes
  have hr := B.returns
  have hts := atoms_spec (ws := wsX6_sum) B.pre
  have hown : s.vm.findClass RX6 = some m.cls := findClass_of_methodNamed B.named
  have hlocks := B.notSynchronized
  have hin : ∀ w ∈ wsX60, w ∈ wsX6_sum := by decide +kernel
  have hI : mI dd g q A s.heap s.heap [] M := ⟨hP0, va_S.rf⟩
  have hl := lv_entry ([.ref (q 0), .int w]) (n := 4) (Nat.le_of_ble_eq_true rfl)
  rw [lg_entry_eq]
  generalize (lg_sl ([.ref (q 0), .int w]) ++ List.replicate (4 - (lg_sl ([.ref (q 0), .int w])).length) Slot.unset).toArray = ls at hl ⊢
  have hl : lv_has ls 4 [(0, .ref (q 0)), (1, .int w)] := hl
  have hc16 := hW.2.1
  have hl4 := hW.2.2.2
  refine lv_iconst (v := 0) hx hb dX6_sum_0 (by decide) ?_
  refine lv_istore_n (lv' := [(2, .int 0), (0, .ref (q 0)), (1, .int w)]) hx hb dX6_sum_1 rfl hl (by decide) rfl (fun ls hl => ?_)
  refine lv_iconst (v := 0) hx hb dX6_sum_2 (by decide) ?_
  refine lv_istore_n (lv' := [(3, .int 0), (2, .int 0), (0, .ref (q 0)), (1, .int w)]) hx hb dX6_sum_3 rfl hl (by decide) rfl (fun ls hl => ?_)
  have L4 : ∀ (fuel : Nat) (k : Nat) (z : Int32) (h1 : k ≤ cn (M 0)) (h2 : cn (M 0) < fuel + k) (hx2 : z = sumN (M 0) w k) (H : Heap) (locs : List Loc) (ls : Array Slot), mI dd g q A s.heap H locs M → lv_has ls 4 [(3, .int (nI k)), (2, .int z), (0, .ref (q 0)), (1, .int w)] → wk p l e wsX6_sum { frames := 3, cells := 0, slots := 0, locals := 66 } s m [.ref (q 0), .int w] below meth c H locs (mQi dd g q A (fun r M' => r = sumN (M 0) w (cn (M 0)) ∧ M' = M)) (A) (F0 m 4 ls []) := by
    intro fuel
    induction fuel with
    | zero =>
      intro k z h1 h2 hx2 H locs ls hI hl
      exact absurd h2 (by omega)
    | succ fuel ih =>
      intro k z h1 h2 hx2 H locs ls hI hl
      refine lv_iload_n hx hb dX6_sum_4 rfl (lv_at hl 0 rfl) ?_
      refine lv_aload_n hx hb dX6_sum_5 rfl (lv_at hl 2 rfl) ?_
      refine m_get hx hb hts hin hown hK hI 0 (by decide) (hts (.fieldLink RX6 7 "WinderLaddersModel" "s" "[I") (by decide +kernel)) (v := .ref (q 1)) rfl dX6_sum_6 ?_
      refine lv_iconst (v := 5) hx hb dX6_sum_9 (by decide) ?_
      refine m_ald hx hb hK hI 0 (by decide) (5) (by show _ < 140; omega) rfl (v := nI (cn (M 0))) hW.1 dX6_sum_10 ?_
      refine lv_icmp_ge (tgt := 72) hx hb dX6_sum_11 (by decide) (fun c1 => ?_) (fun c1 => ?_)
      · skip
        have nc1 : cn (M 0) ≤ k := (nI_leI (a := cn (M 0)) (b := k) (by omega) (by omega)).mp c1
        refine lv_iload_n hx hb dX6_sum_72 rfl (lv_at hl 1 rfl) ?_
        exact m_iret (v := z) hx hb hr hI (⟨by rw [hx2, show k = cn (M 0) by omega], rfl⟩) dX6_sum_73 hlocks
      · skip
        have nc1 : ¬ (cn (M 0) ≤ k) := fun h => c1 ((nI_leI (a := cn (M 0)) (b := k) (by omega) (by omega)).mpr h)
        refine lv_iload_n hx hb dX6_sum_14 rfl (lv_at hl 1 rfl) ?_
        refine lv_iload_n hx hb dX6_sum_15 rfl (lv_at hl 3 rfl) ?_
        refine lv_bipush (v := 7) hx hb dX6_sum_16 (by decide) ?_
        refine lv_icmp_ne (tgt := 35) hx hb dX6_sum_18 (by decide) (fun c2 => ?_) (fun c2 => ?_)
        · skip
          refine lv_iload_n hx hb dX6_sum_35 rfl (lv_at hl 3 rfl) ?_
          refine lv_iconst (v := 4) hx hb dX6_sum_36 (by decide) ?_
          refine lv_icmp_ne (tgt := 51) hx hb dX6_sum_37 (by decide) (fun c3 => ?_) (fun c3 => ?_)
          · skip
            refine lv_aload_n hx hb dX6_sum_51 rfl (lv_at hl 2 rfl) ?_
            refine lv_iload_n hx hb dX6_sum_52 rfl (lv_at hl 0 rfl) ?_
            refine m_calli (As := [.int (nI k)]) (rest := [.int z]) hx hb hml hown hts hK hI (k_X6_canWind l dd g q A hA M k (by omega) hW) (cwV 1 hts gX6_sum_X6_canWind rfl rfl rfl (by decide +kernel) ⟨Nat.le_of_ble_eq_true rfl, Nat.le_of_ble_eq_true rfl⟩) rfl hl (Nat.le_of_ble_eq_true rfl) ⟨Nat.zero_le _, Nat.zero_le _⟩ dX6_sum_53 rfl (fun r M1 H locs h5 hI => ?_)
            obtain ⟨h5, hm9⟩ := h5
            rw [hm9] at hI
            rcases h5 with ⟨b4, rfl⟩ | ⟨b4, rfl⟩
            · skip
              have b4 : canW (M 0) k = true := b4
              refine lv_if_ne (tgt := 63) hx hb dX6_sum_56 (by decide) (fun _ => ?_) (fun c6 => absurd c6 (by decide))
              refine lv_iconst (v := 0) hx hb dX6_sum_63 (by decide) ?_
              refine lv_iadd hx hb dX6_sum_64 ?_
              refine lv_istore_n (lv' := [(2, .int (z + 0)), (3, .int (nI k)), (0, .ref (q 0)), (1, .int w)]) hx hb dX6_sum_65 rfl hl (by decide) rfl (fun ls hl => ?_)
              refine lv_iinc (v := nI (k + 1)) (lv' := [(3, .int (nI (k + 1))), (2, .int (z + 0)), (0, .ref (q 0)), (1, .int w)]) hx hb dX6_sum_66 hl (k := 1) rfl (by rw [show Int32.ofInt 1 = nI 1 from rfl, nI_add]) (by decide) rfl (fun ls hl => ?_)
              refine lv_goto (tgt := 4) hx hb dX6_sum_69 (by decide) ?_
              exact ih (k + 1) (z + 0) (by omega) (by omega) (by rw [hx2]; simp only [sumN, if_neg c1, if_neg c2, if_neg c3, if_pos b4]) _ _ _ hI (lv_sub hl [0, 1, 2, 3] rfl)
            · skip
              have b4 : canW (M 0) k = false := b4
              refine lv_if_ne (tgt := 63) hx hb dX6_sum_56 (by decide) (fun c7 => absurd (by decide) c7) (fun _ => ?_)
              refine lv_iconst (v := 1) hx hb dX6_sum_59 (by decide) ?_
              refine lv_goto (tgt := 64) hx hb dX6_sum_60 (by decide) ?_
              refine lv_iadd hx hb dX6_sum_64 ?_
              refine lv_istore_n (lv' := [(2, .int (z + 1)), (3, .int (nI k)), (0, .ref (q 0)), (1, .int w)]) hx hb dX6_sum_65 rfl hl (by decide) rfl (fun ls hl => ?_)
              refine lv_iinc (v := nI (k + 1)) (lv' := [(3, .int (nI (k + 1))), (2, .int (z + 1)), (0, .ref (q 0)), (1, .int w)]) hx hb dX6_sum_66 hl (k := 1) rfl (by rw [show Int32.ofInt 1 = nI 1 from rfl, nI_add]) (by decide) rfl (fun ls hl => ?_)
              refine lv_goto (tgt := 4) hx hb dX6_sum_69 (by decide) ?_
              exact ih (k + 1) (z + 1) (by omega) (by omega) (by rw [hx2]; simp only [sumN, if_neg c1, if_neg c2, if_neg c3, if_neg (Bool.eq_false_iff.mp b4)]) _ _ _ hI (lv_sub hl [0, 1, 2, 3] rfl)
          · skip
            refine lv_aload_n hx hb dX6_sum_40 rfl (lv_at hl 2 rfl) ?_
            refine lv_iload_n hx hb dX6_sum_41 rfl (lv_at hl 0 rfl) ?_
            refine m_calli (As := [.int (nI k)]) (rest := [.int z]) hx hb hml hown hts hK hI (k_X6_isOff l dd g q A hA M k (by omega)) (cwV 1 hts gX6_sum_X6_isOff rfl rfl rfl (by decide +kernel) ⟨Nat.le_of_ble_eq_true rfl, Nat.le_of_ble_eq_true rfl⟩) rfl hl (Nat.le_of_ble_eq_true rfl) ⟨Nat.zero_le _, Nat.zero_le _⟩ dX6_sum_42 rfl (fun r M1 H locs h9 hI => ?_)
            obtain ⟨h9, hm9⟩ := h9
            rw [hm9] at hI
            rcases h9 with ⟨b8, rfl⟩ | ⟨b8, rfl⟩
            · skip
              have b8 : offB (M 0) k ((M 0) 0) = true := b8
              refine lv_if_eq (tgt := 63) hx hb dX6_sum_45 (by decide) (fun c10 => absurd c10 (by decide)) (fun _ => ?_)
              refine lv_goto (tgt := 59) hx hb dX6_sum_48 (by decide) ?_
              refine lv_iconst (v := 1) hx hb dX6_sum_59 (by decide) ?_
              refine lv_goto (tgt := 64) hx hb dX6_sum_60 (by decide) ?_
              refine lv_iadd hx hb dX6_sum_64 ?_
              refine lv_istore_n (lv' := [(2, .int (z + 1)), (3, .int (nI k)), (0, .ref (q 0)), (1, .int w)]) hx hb dX6_sum_65 rfl hl (by decide) rfl (fun ls hl => ?_)
              refine lv_iinc (v := nI (k + 1)) (lv' := [(3, .int (nI (k + 1))), (2, .int (z + 1)), (0, .ref (q 0)), (1, .int w)]) hx hb dX6_sum_66 hl (k := 1) rfl (by rw [show Int32.ofInt 1 = nI 1 from rfl, nI_add]) (by decide) rfl (fun ls hl => ?_)
              refine lv_goto (tgt := 4) hx hb dX6_sum_69 (by decide) ?_
              exact ih (k + 1) (z + 1) (by omega) (by omega) (by rw [hx2]; simp only [sumN, if_neg c1, if_neg c2, if_pos c3, if_pos b8]) _ _ _ hI (lv_sub hl [0, 1, 2, 3] rfl)
            · skip
              have b8 : offB (M 0) k ((M 0) 0) = false := b8
              refine lv_if_eq (tgt := 63) hx hb dX6_sum_45 (by decide) (fun _ => ?_) (fun c11 => absurd (by decide) c11)
              refine lv_iconst (v := 0) hx hb dX6_sum_63 (by decide) ?_
              refine lv_iadd hx hb dX6_sum_64 ?_
              refine lv_istore_n (lv' := [(2, .int (z + 0)), (3, .int (nI k)), (0, .ref (q 0)), (1, .int w)]) hx hb dX6_sum_65 rfl hl (by decide) rfl (fun ls hl => ?_)
              refine lv_iinc (v := nI (k + 1)) (lv' := [(3, .int (nI (k + 1))), (2, .int (z + 0)), (0, .ref (q 0)), (1, .int w)]) hx hb dX6_sum_66 hl (k := 1) rfl (by rw [show Int32.ofInt 1 = nI 1 from rfl, nI_add]) (by decide) rfl (fun ls hl => ?_)
              refine lv_goto (tgt := 4) hx hb dX6_sum_69 (by decide) ?_
              exact ih (k + 1) (z + 0) (by omega) (by omega) (by rw [hx2]; simp only [sumN, if_neg c1, if_neg c2, if_pos c3, if_neg (Bool.eq_false_iff.mp b8)]) _ _ _ hI (lv_sub hl [0, 1, 2, 3] rfl)
        · skip
          refine lv_aload_n hx hb dX6_sum_21 rfl (lv_at hl 2 rfl) ?_
          refine m_get hx hb hts hin hown hK hI 0 (by decide) (hts (.fieldLink RX6 7 "WinderLaddersModel" "s" "[I") (by decide +kernel)) (v := .ref (q 1)) rfl dX6_sum_22 ?_
          refine lv_iload_n hx hb dX6_sum_25 rfl (lv_at hl 0 rfl) ?_
          refine lv_bipush (v := 7) hx hb dX6_sum_26 (by decide) ?_
          refine m_calls (As := [.int (nI k), .int 7]) (rest := [.ref (q 1), .int z]) hx hb hml hown hts hI (k_X6_at l (k) (7)) (va_cwS 2 hts gX6_sum_X6_at rfl rfl rfl (by decide +kernel) ⟨Nat.le_of_ble_eq_true rfl, Nat.le_of_ble_eq_true rfl⟩) rfl hl (Nat.le_of_ble_eq_true rfl) ⟨Nat.zero_le _, Nat.zero_le _⟩ dX6_sum_28 rfl (fun r H locs h12 hI => ?_)
          subst h12
          refine m_ald hx hb hK hI 0 (by decide) (12 + 8 * k + 7) (by show _ < 140; omega) rfl (v := M 0 (12 + 8 * k + 7)) rfl dX6_sum_31 ?_
          refine lv_goto (tgt := 64) hx hb dX6_sum_32 (by decide) ?_
          refine lv_iadd hx hb dX6_sum_64 ?_
          refine lv_istore_n (lv' := [(2, .int (z + (M 0 (12 + 8 * k + 7)))), (3, .int (nI k)), (0, .ref (q 0)), (1, .int w)]) hx hb dX6_sum_65 rfl hl (by decide) rfl (fun ls hl => ?_)
          refine lv_iinc (v := nI (k + 1)) (lv' := [(3, .int (nI (k + 1))), (2, .int (z + (M 0 (12 + 8 * k + 7)))), (0, .ref (q 0)), (1, .int w)]) hx hb dX6_sum_66 hl (k := 1) rfl (by rw [show Int32.ofInt 1 = nI 1 from rfl, nI_add]) (by decide) rfl (fun ls hl => ?_)
          refine lv_goto (tgt := 4) hx hb dX6_sum_69 (by decide) ?_
          exact ih (k + 1) (z + (M 0 (12 + 8 * k + 7))) (by omega) (by omega) (by rw [hx2]; simp only [sumN, if_neg c1, if_pos c2]) _ _ _ hI (lv_sub hl [0, 1, 2, 3] rfl)
  exact L4 17 0 0 (by omega) (by omega) rfl _ _ _ hI (lv_sub hl [0, 1, 2, 3] rfl)

set_option maxHeartbeats 4000000 in
set_option maxRecDepth 100000 in
theorem k_X6_of (l : Launch) (dd : va_G) (g : Nat → ClassId) (q : Nat → Nat) (A : Nat → Prop) (hA : mA A q) (M : MS) (x w : Int32) (hW : Wk (M 0)) : Met l yX6_of wsX6_of ({ frames := 3, cells := 0, slots := 0, locals := 66 }) (mPre dd g q M [.ref (q 0), .int x, .int w]) (mQi dd g q A (fun r M' => r = ofR (M 0) x w ∧ M' = M)) 0 0 A := by
  refine Met.ofW (cc := cX6_of) (maxL := 3) (ret := (some .int)) (by decide) rfl ?_
  intro p e s m args below meth c s₁ B hml hv
  obtain ⟨rfl, hP0, hK⟩ := hv
  have hx := B.exec
  have hb := B.bytes
  have hr := B.returns
  have hts := atoms_spec (ws := wsX6_of) B.pre
  have hown : s.vm.findClass RX6 = some m.cls := findClass_of_methodNamed B.named
  have hlocks := B.notSynchronized
  have hin : ∀ w ∈ wsX60, w ∈ wsX6_of := by decide +kernel
  have hI : mI dd g q A s.heap s.heap [] M := ⟨hP0, va_S.rf⟩
  have hl := lv_entry ([.ref (q 0), .int x, .int w]) (n := 3) (Nat.le_of_ble_eq_true rfl)
  rw [lg_entry_eq]
  generalize (lg_sl ([.ref (q 0), .int x, .int w]) ++ List.replicate (3 - (lg_sl ([.ref (q 0), .int x, .int w])).length) Slot.unset).toArray = ls at hl ⊢
  have hl : lv_has ls 3 [(0, .ref (q 0)), (1, .int x), (2, .int w)] := hl
  have hc16 := hW.2.1
  have hl4 := hW.2.2.2
  refine lv_aload_n hx hb dX6_of_0 rfl (lv_at hl 0 rfl) ?_
  refine lv_iload_n hx hb dX6_of_1 rfl (lv_at hl 1 rfl) ?_
  refine m_calli (As := [.int x]) (rest := []) hx hb hml hown hts hK hI (k_X6_isClock l dd g q A hA M x hW) (cwV 1 hts gX6_of_X6_isClock rfl rfl rfl (by decide +kernel) ⟨Nat.le_of_ble_eq_true rfl, Nat.le_of_ble_eq_true rfl⟩) rfl hl (Nat.le_of_ble_eq_true rfl) ⟨Nat.zero_le _, Nat.zero_le _⟩ dX6_of_2 rfl (fun r M1 H locs h2 hI => ?_)
  obtain ⟨h2, hm9⟩ := h2
  rw [hm9] at hI
  rcases h2 with ⟨⟨i1, hi_i1, e_i1⟩, rfl⟩ | ⟨b_i1, rfl⟩
  · skip
    have b_i1 : isCb (M 0) x = true := isCb_t hW ⟨hi_i1, e_i1⟩
    have x_i1 : ix x = i1 := by rw [e_i1]; exact ix_nI (by omega)
    subst e_i1
    refine lv_if_ne (tgt := 10) hx hb dX6_of_5 (by decide) (fun _ => ?_) (fun c3 => absurd c3 (by decide))
    refine lv_iload_n hx hb dX6_of_10 rfl (lv_at hl 2 rfl) ?_
    by_cases c4_0 : w = 0
    · subst c4_0
      refine lv_tableIn (tgt := 68) (off := 57) hx hb dX6_of_11 (by decide) (by decide) (by decide +kernel) (by decide) ?_
      refine lv_aload_n hx hb dX6_of_68 rfl (lv_at hl 0 rfl) ?_
      refine m_get hx hb hts hin hown hK hI 0 (by decide) (hts (.fieldLink RX6 7 "WinderLaddersModel" "s" "[I") (by decide +kernel)) (v := .ref (q 1)) rfl dX6_of_69 ?_
      refine lv_iload_n hx hb dX6_of_72 rfl (lv_at hl 1 rfl) ?_
      refine lv_iload_n hx hb dX6_of_73 rfl (lv_at hl 2 rfl) ?_
      refine m_calls (As := [.int (nI i1), .int 0]) (rest := [.ref (q 1)]) hx hb hml hown hts hI (k_X6_at l (i1) (0)) (va_cwS 2 hts gX6_of_X6_at rfl rfl rfl (by decide +kernel) ⟨Nat.le_of_ble_eq_true rfl, Nat.le_of_ble_eq_true rfl⟩) rfl hl (Nat.le_of_ble_eq_true rfl) ⟨Nat.zero_le _, Nat.zero_le _⟩ dX6_of_74 rfl (fun r H locs h5 hI => ?_)
      subst h5
      refine m_ald hx hb hK hI 0 (by decide) (12 + 8 * i1 + 0) (by show _ < 140; omega) rfl (v := M 0 (12 + 8 * i1 + 0)) rfl dX6_of_77 ?_
      exact m_iret (v := M 0 (12 + 8 * i1 + 0)) hx hb hr hI (⟨by first | (simp only [ofR, x_i1, if_pos b_i1]; done) | (simp only [ofR, x_i1, if_pos b_i1]; first | rfl | simp), rfl⟩) dX6_of_78 hlocks
    by_cases c4_1 : w = 1
    · subst c4_1
      refine lv_tableIn (tgt := 68) (off := 57) hx hb dX6_of_11 (by decide) (by decide) (by decide +kernel) (by decide) ?_
      refine lv_aload_n hx hb dX6_of_68 rfl (lv_at hl 0 rfl) ?_
      refine m_get hx hb hts hin hown hK hI 0 (by decide) (hts (.fieldLink RX6 7 "WinderLaddersModel" "s" "[I") (by decide +kernel)) (v := .ref (q 1)) rfl dX6_of_69 ?_
      refine lv_iload_n hx hb dX6_of_72 rfl (lv_at hl 1 rfl) ?_
      refine lv_iload_n hx hb dX6_of_73 rfl (lv_at hl 2 rfl) ?_
      refine m_calls (As := [.int (nI i1), .int 1]) (rest := [.ref (q 1)]) hx hb hml hown hts hI (k_X6_at l (i1) (1)) (va_cwS 2 hts gX6_of_X6_at rfl rfl rfl (by decide +kernel) ⟨Nat.le_of_ble_eq_true rfl, Nat.le_of_ble_eq_true rfl⟩) rfl hl (Nat.le_of_ble_eq_true rfl) ⟨Nat.zero_le _, Nat.zero_le _⟩ dX6_of_74 rfl (fun r H locs h6 hI => ?_)
      subst h6
      refine m_ald hx hb hK hI 0 (by decide) (12 + 8 * i1 + 1) (by show _ < 140; omega) rfl (v := M 0 (12 + 8 * i1 + 1)) rfl dX6_of_77 ?_
      exact m_iret (v := M 0 (12 + 8 * i1 + 1)) hx hb hr hI (⟨by first | (simp only [ofR, x_i1, if_pos b_i1, if_neg c4_0]; done) | (simp only [ofR, x_i1, if_pos b_i1, if_neg c4_0]; first | rfl | simp), rfl⟩) dX6_of_78 hlocks
    by_cases c4_2 : w = 2
    · subst c4_2
      refine lv_tableIn (tgt := 79) (off := 68) hx hb dX6_of_11 (by decide) (by decide) (by decide +kernel) (by decide) ?_
      refine lv_aload_n hx hb dX6_of_79 rfl (lv_at hl 0 rfl) ?_
      refine m_get hx hb hts hin hown hK hI 0 (by decide) (hts (.fieldLink RX6 7 "WinderLaddersModel" "s" "[I") (by decide +kernel)) (v := .ref (q 1)) rfl dX6_of_80 ?_
      refine lv_iload_n hx hb dX6_of_83 rfl (lv_at hl 1 rfl) ?_
      refine lv_iconst (v := 2) hx hb dX6_of_84 (by decide) ?_
      refine m_calls (As := [.int (nI i1), .int 2]) (rest := [.ref (q 1)]) hx hb hml hown hts hI (k_X6_at l (i1) (2)) (va_cwS 2 hts gX6_of_X6_at rfl rfl rfl (by decide +kernel) ⟨Nat.le_of_ble_eq_true rfl, Nat.le_of_ble_eq_true rfl⟩) rfl hl (Nat.le_of_ble_eq_true rfl) ⟨Nat.zero_le _, Nat.zero_le _⟩ dX6_of_85 rfl (fun r H locs h7 hI => ?_)
      subst h7
      refine m_ald hx hb hK hI 0 (by decide) (12 + 8 * i1 + 2) (by show _ < 140; omega) rfl (v := M 0 (12 + 8 * i1 + 2)) rfl dX6_of_88 ?_
      refine lv_bipush (v := 100) hx hb dX6_of_89 (by decide) ?_
      refine lv_iadd hx hb dX6_of_91 ?_
      exact m_iret (v := (M 0 (12 + 8 * i1 + 2)) + 100) hx hb hr hI (⟨by first | (simp only [ofR, x_i1, if_pos b_i1, if_neg c4_0, if_neg c4_1]; done) | (simp only [ofR, x_i1, if_pos b_i1, if_neg c4_0, if_neg c4_1]; first | rfl | simp), rfl⟩) dX6_of_92 hlocks
    by_cases c4_3 : w = 3
    · subst c4_3
      refine lv_tableIn (tgt := 93) (off := 82) hx hb dX6_of_11 (by decide) (by decide) (by decide +kernel) (by decide) ?_
      refine lv_aload_n hx hb dX6_of_93 rfl (lv_at hl 0 rfl) ?_
      refine m_get hx hb hts hin hown hK hI 0 (by decide) (hts (.fieldLink RX6 7 "WinderLaddersModel" "s" "[I") (by decide +kernel)) (v := .ref (q 1)) rfl dX6_of_94 ?_
      refine lv_iload_n hx hb dX6_of_97 rfl (lv_at hl 1 rfl) ?_
      refine lv_iconst (v := 3) hx hb dX6_of_98 (by decide) ?_
      refine m_calls (As := [.int (nI i1), .int 3]) (rest := [.ref (q 1)]) hx hb hml hown hts hI (k_X6_at l (i1) (3)) (va_cwS 2 hts gX6_of_X6_at rfl rfl rfl (by decide +kernel) ⟨Nat.le_of_ble_eq_true rfl, Nat.le_of_ble_eq_true rfl⟩) rfl hl (Nat.le_of_ble_eq_true rfl) ⟨Nat.zero_le _, Nat.zero_le _⟩ dX6_of_99 rfl (fun r H locs h8 hI => ?_)
      subst h8
      refine m_ald hx hb hK hI 0 (by decide) (12 + 8 * i1 + 3) (by show _ < 140; omega) rfl (v := M 0 (12 + 8 * i1 + 3)) rfl dX6_of_102 ?_
      refine lv_bipush (v := 20) hx hb dX6_of_103 (by decide) ?_
      refine lv_iadd hx hb dX6_of_105 ?_
      exact m_iret (v := (M 0 (12 + 8 * i1 + 3)) + 20) hx hb hr hI (⟨by first | (simp only [ofR, x_i1, if_pos b_i1, if_neg c4_0, if_neg c4_1, if_neg c4_2]; done) | (simp only [ofR, x_i1, if_pos b_i1, if_neg c4_0, if_neg c4_1, if_neg c4_2]; first | rfl | simp), rfl⟩) dX6_of_106 hlocks
    by_cases c4_4 : w = 4
    · subst c4_4
      refine lv_tableIn (tgt := 107) (off := 96) hx hb dX6_of_11 (by decide) (by decide) (by decide +kernel) (by decide) ?_
      refine lv_aload_n hx hb dX6_of_107 rfl (lv_at hl 0 rfl) ?_
      refine m_get hx hb hts hin hown hK hI 0 (by decide) (hts (.fieldLink RX6 7 "WinderLaddersModel" "s" "[I") (by decide +kernel)) (v := .ref (q 1)) rfl dX6_of_108 ?_
      refine lv_iload_n hx hb dX6_of_111 rfl (lv_at hl 1 rfl) ?_
      refine lv_iconst (v := 4) hx hb dX6_of_112 (by decide) ?_
      refine m_calls (As := [.int (nI i1), .int 4]) (rest := [.ref (q 1)]) hx hb hml hown hts hI (k_X6_at l (i1) (4)) (va_cwS 2 hts gX6_of_X6_at rfl rfl rfl (by decide +kernel) ⟨Nat.le_of_ble_eq_true rfl, Nat.le_of_ble_eq_true rfl⟩) rfl hl (Nat.le_of_ble_eq_true rfl) ⟨Nat.zero_le _, Nat.zero_le _⟩ dX6_of_113 rfl (fun r H locs h9 hI => ?_)
      subst h9
      refine m_ald hx hb hK hI 0 (by decide) (12 + 8 * i1 + 4) (by show _ < 140; omega) rfl (v := M 0 (12 + 8 * i1 + 4)) rfl dX6_of_116 ?_
      refine lv_ldc hx hb hown (hts (.constant RX6 120 (1000000000)) (by decide +kernel)) dX6_of_117 ?_
      refine lv_iadd hx hb dX6_of_119 ?_
      exact m_iret (v := (M 0 (12 + 8 * i1 + 4)) + 1000000000) hx hb hr hI (⟨by first | (simp only [ofR, x_i1, if_pos b_i1, if_neg c4_0, if_neg c4_1, if_neg c4_2, if_neg c4_3]; done) | (simp only [ofR, x_i1, if_pos b_i1, if_neg c4_0, if_neg c4_1, if_neg c4_2, if_neg c4_3]; first | rfl | simp), rfl⟩) dX6_of_120 hlocks
    by_cases c4_5 : w = 5
    · subst c4_5
      refine lv_tableIn (tgt := 121) (off := 110) hx hb dX6_of_11 (by decide) (by decide) (by decide +kernel) (by decide) ?_
      refine lv_aload_n hx hb dX6_of_121 rfl (lv_at hl 0 rfl) ?_
      refine m_get hx hb hts hin hown hK hI 0 (by decide) (hts (.fieldLink RX6 7 "WinderLaddersModel" "s" "[I") (by decide +kernel)) (v := .ref (q 1)) rfl dX6_of_122 ?_
      refine lv_iload_n hx hb dX6_of_125 rfl (lv_at hl 1 rfl) ?_
      refine lv_iload_n hx hb dX6_of_126 rfl (lv_at hl 2 rfl) ?_
      refine m_calls (As := [.int (nI i1), .int 5]) (rest := [.ref (q 1)]) hx hb hml hown hts hI (k_X6_at l (i1) (5)) (va_cwS 2 hts gX6_of_X6_at rfl rfl rfl (by decide +kernel) ⟨Nat.le_of_ble_eq_true rfl, Nat.le_of_ble_eq_true rfl⟩) rfl hl (Nat.le_of_ble_eq_true rfl) ⟨Nat.zero_le _, Nat.zero_le _⟩ dX6_of_127 rfl (fun r H locs h10 hI => ?_)
      subst h10
      refine m_ald hx hb hK hI 0 (by decide) (12 + 8 * i1 + 5) (by show _ < 140; omega) rfl (v := M 0 (12 + 8 * i1 + 5)) rfl dX6_of_130 ?_
      exact m_iret (v := M 0 (12 + 8 * i1 + 5)) hx hb hr hI (⟨by first | (simp only [ofR, x_i1, if_pos b_i1, if_neg c4_0, if_neg c4_1, if_neg c4_2, if_neg c4_3, if_neg c4_4]; done) | (simp only [ofR, x_i1, if_pos b_i1, if_neg c4_0, if_neg c4_1, if_neg c4_2, if_neg c4_3, if_neg c4_4]; first | rfl | simp), rfl⟩) dX6_of_131 hlocks
    by_cases c4_6 : w = 6
    · subst c4_6
      refine lv_tableIn (tgt := 121) (off := 110) hx hb dX6_of_11 (by decide) (by decide) (by decide +kernel) (by decide) ?_
      refine lv_aload_n hx hb dX6_of_121 rfl (lv_at hl 0 rfl) ?_
      refine m_get hx hb hts hin hown hK hI 0 (by decide) (hts (.fieldLink RX6 7 "WinderLaddersModel" "s" "[I") (by decide +kernel)) (v := .ref (q 1)) rfl dX6_of_122 ?_
      refine lv_iload_n hx hb dX6_of_125 rfl (lv_at hl 1 rfl) ?_
      refine lv_iload_n hx hb dX6_of_126 rfl (lv_at hl 2 rfl) ?_
      refine m_calls (As := [.int (nI i1), .int 6]) (rest := [.ref (q 1)]) hx hb hml hown hts hI (k_X6_at l (i1) (6)) (va_cwS 2 hts gX6_of_X6_at rfl rfl rfl (by decide +kernel) ⟨Nat.le_of_ble_eq_true rfl, Nat.le_of_ble_eq_true rfl⟩) rfl hl (Nat.le_of_ble_eq_true rfl) ⟨Nat.zero_le _, Nat.zero_le _⟩ dX6_of_127 rfl (fun r H locs h11 hI => ?_)
      subst h11
      refine m_ald hx hb hK hI 0 (by decide) (12 + 8 * i1 + 6) (by show _ < 140; omega) rfl (v := M 0 (12 + 8 * i1 + 6)) rfl dX6_of_130 ?_
      exact m_iret (v := M 0 (12 + 8 * i1 + 6)) hx hb hr hI (⟨by first | (simp only [ofR, x_i1, if_pos b_i1, if_neg c4_0, if_neg c4_1, if_neg c4_2, if_neg c4_3, if_neg c4_4, if_neg c4_5]; done) | (simp only [ofR, x_i1, if_pos b_i1, if_neg c4_0, if_neg c4_1, if_neg c4_2, if_neg c4_3, if_neg c4_4, if_neg c4_5]; first | rfl | simp), rfl⟩) dX6_of_131 hlocks
    by_cases c4_7 : w = 7
    · subst c4_7
      refine lv_tableIn (tgt := 132) (off := 121) hx hb dX6_of_11 (by decide) (by decide) (by decide +kernel) (by decide) ?_
      refine lv_aload_n hx hb dX6_of_132 rfl (lv_at hl 0 rfl) ?_
      refine lv_iload_n hx hb dX6_of_133 rfl (lv_at hl 1 rfl) ?_
      refine m_calli (As := [.int (nI i1)]) (rest := []) hx hb hml hown hts hK hI (k_X6_isOff l dd g q A hA M i1 (by omega)) (cwV 1 hts gX6_of_X6_isOff rfl rfl rfl (by decide +kernel) ⟨Nat.le_of_ble_eq_true rfl, Nat.le_of_ble_eq_true rfl⟩) rfl hl (Nat.le_of_ble_eq_true rfl) ⟨Nat.zero_le _, Nat.zero_le _⟩ dX6_of_134 rfl (fun r M1 H locs h13 hI => ?_)
      obtain ⟨h13, hm9⟩ := h13
      rw [hm9] at hI
      rcases h13 with ⟨b12, rfl⟩ | ⟨b12, rfl⟩
      · skip
        have b12 : offB (M 0) i1 ((M 0) 0) = true := b12
        refine lv_if_eq (tgt := 144) hx hb dX6_of_137 (by decide) (fun c14 => absurd c14 (by decide)) (fun _ => ?_)
        refine lv_iconst (v := 0) hx hb dX6_of_140 (by decide) ?_
        refine lv_goto (tgt := 145) hx hb dX6_of_141 (by decide) ?_
        exact m_iret (v := 0) hx hb hr hI (⟨by first | (simp only [ofR, x_i1, if_pos b_i1, if_neg c4_0, if_neg c4_1, if_neg c4_2, if_neg c4_3, if_neg c4_4, if_neg c4_5, if_neg c4_6, if_pos b12]; done) | (simp only [ofR, x_i1, if_pos b_i1, if_neg c4_0, if_neg c4_1, if_neg c4_2, if_neg c4_3, if_neg c4_4, if_neg c4_5, if_neg c4_6, if_pos b12]; first | rfl | simp), rfl⟩) dX6_of_145 hlocks
      · skip
        have b12 : offB (M 0) i1 ((M 0) 0) = false := b12
        refine lv_if_eq (tgt := 144) hx hb dX6_of_137 (by decide) (fun _ => ?_) (fun c15 => absurd (by decide) c15)
        refine lv_iconst (v := 1) hx hb dX6_of_144 (by decide) ?_
        exact m_iret (v := 1) hx hb hr hI (⟨by first | (simp only [ofR, x_i1, if_pos b_i1, if_neg c4_0, if_neg c4_1, if_neg c4_2, if_neg c4_3, if_neg c4_4, if_neg c4_5, if_neg c4_6, if_neg (Bool.eq_false_iff.mp b12)]; done) | (simp only [ofR, x_i1, if_pos b_i1, if_neg c4_0, if_neg c4_1, if_neg c4_2, if_neg c4_3, if_neg c4_4, if_neg c4_5, if_neg c4_6, if_neg (Bool.eq_false_iff.mp b12)]; first | rfl | simp), rfl⟩) dX6_of_145 hlocks
    by_cases c4_8 : w = 8
    · subst c4_8
      refine lv_tableIn (tgt := 146) (off := 135) hx hb dX6_of_11 (by decide) (by decide) (by decide +kernel) (by decide) ?_
      refine lv_aload_n hx hb dX6_of_146 rfl (lv_at hl 0 rfl) ?_
      refine lv_iload_n hx hb dX6_of_147 rfl (lv_at hl 1 rfl) ?_
      refine m_calli (As := [.int (nI i1)]) (rest := []) hx hb hml hown hts hK hI (k_X6_ladderOf l dd g q A hA M i1 (by omega) hW) (cwV 1 hts gX6_of_X6_ladderOf rfl rfl rfl (by decide +kernel) ⟨Nat.le_of_ble_eq_true rfl, Nat.le_of_ble_eq_true rfl⟩) rfl hl (Nat.le_of_ble_eq_true rfl) ⟨Nat.zero_le _, Nat.zero_le _⟩ dX6_of_148 rfl (fun r M1 H locs h16 hI => ?_)
      obtain ⟨hr9, hm9⟩ := h16
      rw [hm9] at hI
      subst hr9
      exact m_iret (v := o2i (ladF (M 0) i1)) hx hb hr hI (⟨by first | (simp only [ofR, x_i1, if_pos b_i1, if_neg c4_0, if_neg c4_1, if_neg c4_2, if_neg c4_3, if_neg c4_4, if_neg c4_5, if_neg c4_6, if_neg c4_7]; done) | (simp only [ofR, x_i1, if_pos b_i1, if_neg c4_0, if_neg c4_1, if_neg c4_2, if_neg c4_3, if_neg c4_4, if_neg c4_5, if_neg c4_6, if_neg c4_7]; first | rfl | simp), rfl⟩) dX6_of_151 hlocks
    by_cases c4_9 : w = 9
    · subst c4_9
      refine lv_tableIn (tgt := 152) (off := 141) hx hb dX6_of_11 (by decide) (by decide) (by decide +kernel) (by decide) ?_
      refine lv_aload_n hx hb dX6_of_152 rfl (lv_at hl 0 rfl) ?_
      refine lv_iload_n hx hb dX6_of_153 rfl (lv_at hl 1 rfl) ?_
      refine m_calli (As := [.int (nI i1)]) (rest := []) hx hb hml hown hts hK hI (k_X6_canWind l dd g q A hA M i1 (by omega) hW) (cwV 1 hts gX6_of_X6_canWind rfl rfl rfl (by decide +kernel) ⟨Nat.le_of_ble_eq_true rfl, Nat.le_of_ble_eq_true rfl⟩) rfl hl (Nat.le_of_ble_eq_true rfl) ⟨Nat.zero_le _, Nat.zero_le _⟩ dX6_of_154 rfl (fun r M1 H locs h18 hI => ?_)
      obtain ⟨h18, hm9⟩ := h18
      rw [hm9] at hI
      rcases h18 with ⟨b17, rfl⟩ | ⟨b17, rfl⟩
      · skip
        have b17 : canW (M 0) i1 = true := b17
        refine lv_if_eq (tgt := 164) hx hb dX6_of_157 (by decide) (fun c19 => absurd c19 (by decide)) (fun _ => ?_)
        refine lv_iconst (v := 1) hx hb dX6_of_160 (by decide) ?_
        refine lv_goto (tgt := 165) hx hb dX6_of_161 (by decide) ?_
        exact m_iret (v := 1) hx hb hr hI (⟨by first | (simp only [ofR, x_i1, if_pos b_i1, if_neg c4_0, if_neg c4_1, if_neg c4_2, if_neg c4_3, if_neg c4_4, if_neg c4_5, if_neg c4_6, if_neg c4_7, if_neg c4_8, if_pos b17]; done) | (simp only [ofR, x_i1, if_pos b_i1, if_neg c4_0, if_neg c4_1, if_neg c4_2, if_neg c4_3, if_neg c4_4, if_neg c4_5, if_neg c4_6, if_neg c4_7, if_neg c4_8, if_pos b17]; first | rfl | simp), rfl⟩) dX6_of_165 hlocks
      · skip
        have b17 : canW (M 0) i1 = false := b17
        refine lv_if_eq (tgt := 164) hx hb dX6_of_157 (by decide) (fun _ => ?_) (fun c20 => absurd (by decide) c20)
        refine lv_iconst (v := 0) hx hb dX6_of_164 (by decide) ?_
        exact m_iret (v := 0) hx hb hr hI (⟨by first | (simp only [ofR, x_i1, if_pos b_i1, if_neg c4_0, if_neg c4_1, if_neg c4_2, if_neg c4_3, if_neg c4_4, if_neg c4_5, if_neg c4_6, if_neg c4_7, if_neg c4_8, if_neg (Bool.eq_false_iff.mp b17)]; done) | (simp only [ofR, x_i1, if_pos b_i1, if_neg c4_0, if_neg c4_1, if_neg c4_2, if_neg c4_3, if_neg c4_4, if_neg c4_5, if_neg c4_6, if_neg c4_7, if_neg c4_8, if_neg (Bool.eq_false_iff.mp b17)]; first | rfl | simp), rfl⟩) dX6_of_165 hlocks
    by_cases c4_10 : w = 10
    · subst c4_10
      refine lv_tableIn (tgt := 166) (off := 155) hx hb dX6_of_11 (by decide) (by decide) (by decide +kernel) (by decide) ?_
      refine lv_aload_n hx hb dX6_of_166 rfl (lv_at hl 0 rfl) ?_
      refine m_get hx hb hts hin hown hK hI 0 (by decide) (hts (.fieldLink RX6 7 "WinderLaddersModel" "s" "[I") (by decide +kernel)) (v := .ref (q 1)) rfl dX6_of_167 ?_
      refine lv_iload_n hx hb dX6_of_170 rfl (lv_at hl 1 rfl) ?_
      refine lv_bipush (v := 7) hx hb dX6_of_171 (by decide) ?_
      refine m_calls (As := [.int (nI i1), .int 7]) (rest := [.ref (q 1)]) hx hb hml hown hts hI (k_X6_at l (i1) (7)) (va_cwS 2 hts gX6_of_X6_at rfl rfl rfl (by decide +kernel) ⟨Nat.le_of_ble_eq_true rfl, Nat.le_of_ble_eq_true rfl⟩) rfl hl (Nat.le_of_ble_eq_true rfl) ⟨Nat.zero_le _, Nat.zero_le _⟩ dX6_of_173 rfl (fun r H locs h21 hI => ?_)
      subst h21
      refine m_ald hx hb hK hI 0 (by decide) (12 + 8 * i1 + 7) (by show _ < 140; omega) rfl (v := M 0 (12 + 8 * i1 + 7)) rfl dX6_of_176 ?_
      exact m_iret (v := M 0 (12 + 8 * i1 + 7)) hx hb hr hI (⟨by first | (simp only [ofR, x_i1, if_pos b_i1, if_neg c4_0, if_neg c4_1, if_neg c4_2, if_neg c4_3, if_neg c4_4, if_neg c4_5, if_neg c4_6, if_neg c4_7, if_neg c4_8, if_neg c4_9]; done) | (simp only [ofR, x_i1, if_pos b_i1, if_neg c4_0, if_neg c4_1, if_neg c4_2, if_neg c4_3, if_neg c4_4, if_neg c4_5, if_neg c4_6, if_neg c4_7, if_neg c4_8, if_neg c4_9]; first | rfl | simp), rfl⟩) dX6_of_177 hlocks
    refine lv_tableOut (tgt := 178) hx hb dX6_of_11 (sw_out11 c4_0 c4_1 c4_2 c4_3 c4_4 c4_5 c4_6 c4_7 c4_8 c4_9 c4_10) (by decide) ?_
    refine lv_bipush (v := (-2)) hx hb dX6_of_178 (by decide) ?_
    exact m_iret (v := (-2)) hx hb hr hI (⟨by first | (simp only [ofR, x_i1, if_pos b_i1, if_neg c4_0, if_neg c4_1, if_neg c4_2, if_neg c4_3, if_neg c4_4, if_neg c4_5, if_neg c4_6, if_neg c4_7, if_neg c4_8, if_neg c4_9, if_neg c4_10]; done) | (simp only [ofR, x_i1, if_pos b_i1, if_neg c4_0, if_neg c4_1, if_neg c4_2, if_neg c4_3, if_neg c4_4, if_neg c4_5, if_neg c4_6, if_neg c4_7, if_neg c4_8, if_neg c4_9, if_neg c4_10]; first | rfl | simp), rfl⟩) dX6_of_180 hlocks
  · skip
    have b_i1 := isCb_f hW b_i1
    refine lv_if_ne (tgt := 10) hx hb dX6_of_5 (by decide) (fun c22 => absurd (by decide) c22) (fun _ => ?_)
    refine lv_iconst (v := (-1)) hx hb dX6_of_8 (by decide) ?_
    exact m_iret (v := (-1)) hx hb hr hI (⟨by simp only [ofR, if_neg (Bool.eq_false_iff.mp b_i1)], rfl⟩) dX6_of_9 hlocks

set_option maxHeartbeats 4000000 in
set_option maxRecDepth 100000 in
theorem k_X6_ofLadder (l : Launch) (dd : va_G) (g : Nat → ClassId) (q : Nat → Nat) (A : Nat → Prop) (hA : mA A q) (M : MS) (x : Int32) (hW : Wk (M 0)) : Met l yX6_ofLadder wsX6_ofLadder ({ frames := 1, cells := 0, slots := 0, locals := 22 }) (mPre dd g q M [.ref (q 0), .int x]) (mQi dd g q A (fun r M' => r = lofR (M 0) x ∧ M' = M)) 0 0 A := by
  refine Met.ofW (cc := cX6_ofLadder) (maxL := 2) (ret := (some .int)) (by decide) rfl ?_
  intro p e s m args below meth c s₁ B hml hv
  obtain ⟨rfl, hP0, hK⟩ := hv
  have hx := B.exec
  have hb := B.bytes
  have hr := B.returns
  have hts := atoms_spec (ws := wsX6_ofLadder) B.pre
  have hown : s.vm.findClass RX6 = some m.cls := findClass_of_methodNamed B.named
  have hlocks := B.notSynchronized
  have hin : ∀ w ∈ wsX60, w ∈ wsX6_ofLadder := by decide +kernel
  have hI : mI dd g q A s.heap s.heap [] M := ⟨hP0, va_S.rf⟩
  have hl := lv_entry ([.ref (q 0), .int x]) (n := 2) (Nat.le_of_ble_eq_true rfl)
  rw [lg_entry_eq]
  generalize (lg_sl ([.ref (q 0), .int x]) ++ List.replicate (2 - (lg_sl ([.ref (q 0), .int x])).length) Slot.unset).toArray = ls at hl ⊢
  have hl : lv_has ls 2 [(0, .ref (q 0)), (1, .int x)] := hl
  have hc16 := hW.2.1
  have hl4 := hW.2.2.2
  refine lv_iload_n hx hb dX6_ofLadder_0 rfl (lv_at hl 1 rfl) ?_
  refine lv_iconst (v := 0) hx hb dX6_ofLadder_1 (by decide) ?_
  refine lv_aload_n hx hb dX6_ofLadder_2 rfl (lv_at hl 0 rfl) ?_
  refine m_get hx hb hts hin hown hK hI 0 (by decide) (hts (.fieldLink RX6 7 "WinderLaddersModel" "s" "[I") (by decide +kernel)) (v := .ref (q 1)) rfl dX6_ofLadder_3 ?_
  refine lv_bipush (v := 6) hx hb dX6_ofLadder_6 (by decide) ?_
  refine m_ald hx hb hK hI 0 (by decide) (6) (by show _ < 140; omega) rfl (v := M 0 6) rfl dX6_ofLadder_8 ?_
  refine lv_iconst (v := 1) hx hb dX6_ofLadder_9 (by decide) ?_
  refine lv_isub hx hb dX6_ofLadder_10 ?_
  refine m_calls (As := [.int x, .int 0, .int ((M 0 6) - 1)]) (rest := []) hx hb hml hown hts hI (k_X6_in l x 0 ((M 0 6) - 1)) (va_cwS 3 hts gX6_ofLadder_X6_in rfl rfl rfl (by decide +kernel) ⟨Nat.le_of_ble_eq_true rfl, Nat.le_of_ble_eq_true rfl⟩) rfl hl (Nat.le_of_ble_eq_true rfl) ⟨Nat.zero_le _, Nat.zero_le _⟩ dX6_ofLadder_11 rfl (fun r H locs h2 hI => ?_)
  rcases h2 with ⟨b1, rfl⟩ | ⟨b1, rfl⟩
  · skip
    refine lv_if_eq (tgt := 29) hx hb dX6_ofLadder_14 (by decide) (fun c3 => absurd c3 (by decide)) (fun _ => ?_)
    obtain ⟨i0, hi0, e0⟩ := lof_iff hW b1
    have x0 : ix x = i0 := by rw [e0]; exact ix_nI (by omega)
    refine lv_aload_n hx hb dX6_ofLadder_17 rfl (lv_at hl 0 rfl) ?_
    refine m_get hx hb hts hin hown hK hI 0 (by decide) (hts (.fieldLink RX6 7 "WinderLaddersModel" "s" "[I") (by decide +kernel)) (v := .ref (q 1)) rfl dX6_ofLadder_18 ?_
    refine lv_bipush (v := 8) hx hb dX6_ofLadder_21 (by decide) ?_
    refine lv_iload_n hx hb dX6_ofLadder_23 rfl (lv_at hl 1 rfl) ?_
    refine lv_iadd hx hb dX6_ofLadder_24 ?_
    refine lv_re (y := nI (8 + i0)) (by rw [e0]; exact nI_add 8 i0) ?_
    refine m_ald hx hb hK hI 0 (by decide) (8 + i0) (by show _ < 140; omega) rfl (v := M 0 (8 + i0)) rfl dX6_ofLadder_25 ?_
    refine lv_goto (tgt := 30) hx hb dX6_ofLadder_26 (by decide) ?_
    exact m_iret (v := M 0 (8 + i0)) hx hb hr hI (⟨by simp only [lofR, x0, if_pos b1], rfl⟩) dX6_ofLadder_30 hlocks
  · skip
    refine lv_if_eq (tgt := 29) hx hb dX6_ofLadder_14 (by decide) (fun _ => ?_) (fun c4 => absurd (by decide) c4)
    refine lv_iconst (v := (-1)) hx hb dX6_ofLadder_29 (by decide) ?_
    exact m_iret (v := (-1)) hx hb hr hI (⟨by simp only [lofR, if_neg (Bool.eq_false_iff.mp b1)], rfl⟩) dX6_ofLadder_30 hlocks

set_option maxHeartbeats 4000000 in
set_option maxRecDepth 100000 in
theorem k_X6_count (l : Launch) (dd : va_G) (g : Nat → ClassId) (q : Nat → Nat) (A : Nat → Prop) (hA : mA A q) (M : MS) (w : Int32) (hW : Wk (M 0)) : Met l yX6_count wsX6_count ({ frames := 4, cells := 0, slots := 0, locals := 89 }) (mPre dd g q M [.ref (q 0), .int w]) (mQi dd g q A (fun r M' => r = cntR (M 0) (M 7 0) (M 3 0) w ∧ M' = M)) 0 0 A := by
  refine Met.ofW (cc := cX6_count) (maxL := 2) (ret := (some .int)) (by decide) rfl ?_
  intro p e s m args below meth c s₁ B hml hv
  obtain ⟨rfl, hP0, hK⟩ := hv
  have hx := B.exec
  have hb := B.bytes
  have hr := B.returns
  have hts := atoms_spec (ws := wsX6_count) B.pre
  have hown : s.vm.findClass RX6 = some m.cls := findClass_of_methodNamed B.named
  have hlocks := B.notSynchronized
  have hin : ∀ w ∈ wsX60, w ∈ wsX6_count := by decide +kernel
  have hI : mI dd g q A s.heap s.heap [] M := ⟨hP0, va_S.rf⟩
  have hl := lv_entry ([.ref (q 0), .int w]) (n := 2) (Nat.le_of_ble_eq_true rfl)
  rw [lg_entry_eq]
  generalize (lg_sl ([.ref (q 0), .int w]) ++ List.replicate (2 - (lg_sl ([.ref (q 0), .int w])).length) Slot.unset).toArray = ls at hl ⊢
  have hl : lv_has ls 2 [(0, .ref (q 0)), (1, .int w)] := hl
  have hc16 := hW.2.1
  have hl4 := hW.2.2.2
  refine lv_iload_n hx hb dX6_count_0 rfl (lv_at hl 1 rfl) ?_
  by_cases c1_0 : w = 0
  · subst c1_0
    refine lv_tableIn (tgt := 72) (off := 71) hx hb dX6_count_1 (by decide) (by decide) (by decide +kernel) (by decide) ?_
    refine lv_aload_n hx hb dX6_count_72 rfl (lv_at hl 0 rfl) ?_
    refine m_get hx hb hts hin hown hK hI 0 (by decide) (hts (.fieldLink RX6 7 "WinderLaddersModel" "s" "[I") (by decide +kernel)) (v := .ref (q 1)) rfl dX6_count_73 ?_
    refine lv_iconst (v := 4) hx hb dX6_count_76 (by decide) ?_
    refine lv_iload_n hx hb dX6_count_77 rfl (lv_at hl 1 rfl) ?_
    refine lv_iadd hx hb dX6_count_78 ?_
    refine lv_re (y := 4) (by decide) ?_
    refine m_ald hx hb hK hI 0 (by decide) (4) (by show _ < 140; omega) rfl (v := M 0 4) rfl dX6_count_79 ?_
    exact m_iret (v := M 0 4) hx hb hr hI (⟨by simp [cntR], rfl⟩) dX6_count_80 hlocks
  by_cases c1_1 : w = 1
  · subst c1_1
    refine lv_tableIn (tgt := 72) (off := 71) hx hb dX6_count_1 (by decide) (by decide) (by decide +kernel) (by decide) ?_
    refine lv_aload_n hx hb dX6_count_72 rfl (lv_at hl 0 rfl) ?_
    refine m_get hx hb hts hin hown hK hI 0 (by decide) (hts (.fieldLink RX6 7 "WinderLaddersModel" "s" "[I") (by decide +kernel)) (v := .ref (q 1)) rfl dX6_count_73 ?_
    refine lv_iconst (v := 4) hx hb dX6_count_76 (by decide) ?_
    refine lv_iload_n hx hb dX6_count_77 rfl (lv_at hl 1 rfl) ?_
    refine lv_iadd hx hb dX6_count_78 ?_
    refine lv_re (y := 5) (by decide) ?_
    refine m_ald hx hb hK hI 0 (by decide) (5) (by show _ < 140; omega) rfl (v := M 0 5) rfl dX6_count_79 ?_
    exact m_iret (v := M 0 5) hx hb hr hI (⟨by simp [cntR], rfl⟩) dX6_count_80 hlocks
  by_cases c1_2 : w = 2
  · subst c1_2
    refine lv_tableIn (tgt := 72) (off := 71) hx hb dX6_count_1 (by decide) (by decide) (by decide +kernel) (by decide) ?_
    refine lv_aload_n hx hb dX6_count_72 rfl (lv_at hl 0 rfl) ?_
    refine m_get hx hb hts hin hown hK hI 0 (by decide) (hts (.fieldLink RX6 7 "WinderLaddersModel" "s" "[I") (by decide +kernel)) (v := .ref (q 1)) rfl dX6_count_73 ?_
    refine lv_iconst (v := 4) hx hb dX6_count_76 (by decide) ?_
    refine lv_iload_n hx hb dX6_count_77 rfl (lv_at hl 1 rfl) ?_
    refine lv_iadd hx hb dX6_count_78 ?_
    refine lv_re (y := 6) (by decide) ?_
    refine m_ald hx hb hK hI 0 (by decide) (6) (by show _ < 140; omega) rfl (v := M 0 6) rfl dX6_count_79 ?_
    exact m_iret (v := M 0 6) hx hb hr hI (⟨by simp [cntR], rfl⟩) dX6_count_80 hlocks
  by_cases c1_3 : w = 3
  · subst c1_3
    refine lv_tableIn (tgt := 81) (off := 80) hx hb dX6_count_1 (by decide) (by decide) (by decide +kernel) (by decide) ?_
    refine lv_aload_n hx hb dX6_count_81 rfl (lv_at hl 0 rfl) ?_
    refine m_calli (As := []) (rest := []) hx hb hml hown hts hK hI (k_X6_still l dd g q A hA M hW) (cwV 0 hts gX6_count_X6_still rfl rfl rfl (by decide +kernel) ⟨Nat.le_of_ble_eq_true rfl, Nat.le_of_ble_eq_true rfl⟩) rfl hl (Nat.le_of_ble_eq_true rfl) ⟨Nat.zero_le _, Nat.zero_le _⟩ dX6_count_82 rfl (fun r M1 H locs h2 hI => ?_)
    obtain ⟨hr9, hm9⟩ := h2
    rw [hm9] at hI
    subst hr9
    exact m_iret (v := stillN (M 0) (cn (M 0))) hx hb hr hI (⟨by simp [cntR], rfl⟩) dX6_count_85 hlocks
  by_cases c1_4 : w = 4
  · subst c1_4
    refine lv_tableIn (tgt := 86) (off := 85) hx hb dX6_count_1 (by decide) (by decide) (by decide +kernel) (by decide) ?_
    refine lv_aload_n hx hb dX6_count_86 rfl (lv_at hl 0 rfl) ?_
    refine lv_iload_n hx hb dX6_count_87 rfl (lv_at hl 1 rfl) ?_
    refine m_calli (As := [.int 4]) (rest := []) hx hb hml hown hts hK hI (k_X6_sum l dd g q A hA M 4 hW) (cwV 1 hts gX6_count_X6_sum rfl rfl rfl (by decide +kernel) ⟨Nat.le_of_ble_eq_true rfl, Nat.le_of_ble_eq_true rfl⟩) rfl hl (Nat.le_of_ble_eq_true rfl) ⟨Nat.zero_le _, Nat.zero_le _⟩ dX6_count_88 rfl (fun r M1 H locs h3 hI => ?_)
    obtain ⟨hr9, hm9⟩ := h3
    rw [hm9] at hI
    subst hr9
    exact m_iret (v := sumN (M 0) 4 (cn (M 0))) hx hb hr hI (⟨by simp [cntR], rfl⟩) dX6_count_91 hlocks
  by_cases c1_5 : w = 5
  · subst c1_5
    refine lv_tableIn (tgt := 86) (off := 85) hx hb dX6_count_1 (by decide) (by decide) (by decide +kernel) (by decide) ?_
    refine lv_aload_n hx hb dX6_count_86 rfl (lv_at hl 0 rfl) ?_
    refine lv_iload_n hx hb dX6_count_87 rfl (lv_at hl 1 rfl) ?_
    refine m_calli (As := [.int 5]) (rest := []) hx hb hml hown hts hK hI (k_X6_sum l dd g q A hA M 5 hW) (cwV 1 hts gX6_count_X6_sum rfl rfl rfl (by decide +kernel) ⟨Nat.le_of_ble_eq_true rfl, Nat.le_of_ble_eq_true rfl⟩) rfl hl (Nat.le_of_ble_eq_true rfl) ⟨Nat.zero_le _, Nat.zero_le _⟩ dX6_count_88 rfl (fun r M1 H locs h4 hI => ?_)
    obtain ⟨hr9, hm9⟩ := h4
    rw [hm9] at hI
    subst hr9
    exact m_iret (v := sumN (M 0) 5 (cn (M 0))) hx hb hr hI (⟨by simp [cntR], rfl⟩) dX6_count_91 hlocks
  by_cases c1_6 : w = 6
  · subst c1_6
    refine lv_tableIn (tgt := 92) (off := 91) hx hb dX6_count_1 (by decide) (by decide) (by decide +kernel) (by decide) ?_
    refine lv_aload_n hx hb dX6_count_92 rfl (lv_at hl 0 rfl) ?_
    refine m_get hx hb hts hin hown hK hI 0 (by decide) (hts (.fieldLink RX6 7 "WinderLaddersModel" "s" "[I") (by decide +kernel)) (v := .ref (q 1)) rfl dX6_count_93 ?_
    refine lv_bipush (v := 7) hx hb dX6_count_96 (by decide) ?_
    refine m_ald hx hb hK hI 0 (by decide) (7) (by show _ < 140; omega) rfl (v := M 0 7) rfl dX6_count_98 ?_
    exact m_iret (v := M 0 7) hx hb hr hI (⟨by simp [cntR], rfl⟩) dX6_count_99 hlocks
  by_cases c1_7 : w = 7
  · subst c1_7
    refine lv_tableIn (tgt := 86) (off := 85) hx hb dX6_count_1 (by decide) (by decide) (by decide +kernel) (by decide) ?_
    refine lv_aload_n hx hb dX6_count_86 rfl (lv_at hl 0 rfl) ?_
    refine lv_iload_n hx hb dX6_count_87 rfl (lv_at hl 1 rfl) ?_
    refine m_calli (As := [.int 7]) (rest := []) hx hb hml hown hts hK hI (k_X6_sum l dd g q A hA M 7 hW) (cwV 1 hts gX6_count_X6_sum rfl rfl rfl (by decide +kernel) ⟨Nat.le_of_ble_eq_true rfl, Nat.le_of_ble_eq_true rfl⟩) rfl hl (Nat.le_of_ble_eq_true rfl) ⟨Nat.zero_le _, Nat.zero_le _⟩ dX6_count_88 rfl (fun r M1 H locs h5 hI => ?_)
    obtain ⟨hr9, hm9⟩ := h5
    rw [hm9] at hI
    subst hr9
    exact m_iret (v := sumN (M 0) 7 (cn (M 0))) hx hb hr hI (⟨by simp [cntR], rfl⟩) dX6_count_91 hlocks
  by_cases c1_8 : w = 8
  · subst c1_8
    refine lv_tableIn (tgt := 100) (off := 99) hx hb dX6_count_1 (by decide) (by decide) (by decide +kernel) (by decide) ?_
    refine lv_aload_n hx hb dX6_count_100 rfl (lv_at hl 0 rfl) ?_
    refine m_get hx hb hts hin hown hK hI 0 (by decide) (hts (.fieldLink RX6 7 "WinderLaddersModel" "s" "[I") (by decide +kernel)) (v := .ref (q 1)) rfl dX6_count_101 ?_
    refine lv_iconst (v := 0) hx hb dX6_count_104 (by decide) ?_
    refine lv_iload_n hx hb dX6_count_105 rfl (lv_at hl 1 rfl) ?_
    refine lv_iadd hx hb dX6_count_106 ?_
    refine lv_re (y := 8) (by decide) ?_
    refine lv_bipush (v := 8) hx hb dX6_count_107 (by decide) ?_
    refine lv_isub hx hb dX6_count_109 ?_
    refine lv_re (y := 0) (by decide) ?_
    refine m_ald hx hb hK hI 0 (by decide) (0) (by show _ < 140; omega) rfl (v := M 0 0) rfl dX6_count_110 ?_
    exact m_iret (v := M 0 0) hx hb hr hI (⟨by simp [cntR], rfl⟩) dX6_count_111 hlocks
  by_cases c1_9 : w = 9
  · subst c1_9
    refine lv_tableIn (tgt := 100) (off := 99) hx hb dX6_count_1 (by decide) (by decide) (by decide +kernel) (by decide) ?_
    refine lv_aload_n hx hb dX6_count_100 rfl (lv_at hl 0 rfl) ?_
    refine m_get hx hb hts hin hown hK hI 0 (by decide) (hts (.fieldLink RX6 7 "WinderLaddersModel" "s" "[I") (by decide +kernel)) (v := .ref (q 1)) rfl dX6_count_101 ?_
    refine lv_iconst (v := 0) hx hb dX6_count_104 (by decide) ?_
    refine lv_iload_n hx hb dX6_count_105 rfl (lv_at hl 1 rfl) ?_
    refine lv_iadd hx hb dX6_count_106 ?_
    refine lv_re (y := 9) (by decide) ?_
    refine lv_bipush (v := 8) hx hb dX6_count_107 (by decide) ?_
    refine lv_isub hx hb dX6_count_109 ?_
    refine lv_re (y := 1) (by decide) ?_
    refine m_ald hx hb hK hI 0 (by decide) (1) (by show _ < 140; omega) rfl (v := M 0 1) rfl dX6_count_110 ?_
    exact m_iret (v := M 0 1) hx hb hr hI (⟨by simp [cntR], rfl⟩) dX6_count_111 hlocks
  by_cases c1_10 : w = 10
  · subst c1_10
    refine lv_tableIn (tgt := 100) (off := 99) hx hb dX6_count_1 (by decide) (by decide) (by decide +kernel) (by decide) ?_
    refine lv_aload_n hx hb dX6_count_100 rfl (lv_at hl 0 rfl) ?_
    refine m_get hx hb hts hin hown hK hI 0 (by decide) (hts (.fieldLink RX6 7 "WinderLaddersModel" "s" "[I") (by decide +kernel)) (v := .ref (q 1)) rfl dX6_count_101 ?_
    refine lv_iconst (v := 0) hx hb dX6_count_104 (by decide) ?_
    refine lv_iload_n hx hb dX6_count_105 rfl (lv_at hl 1 rfl) ?_
    refine lv_iadd hx hb dX6_count_106 ?_
    refine lv_re (y := 10) (by decide) ?_
    refine lv_bipush (v := 8) hx hb dX6_count_107 (by decide) ?_
    refine lv_isub hx hb dX6_count_109 ?_
    refine lv_re (y := 2) (by decide) ?_
    refine m_ald hx hb hK hI 0 (by decide) (2) (by show _ < 140; omega) rfl (v := M 0 2) rfl dX6_count_110 ?_
    exact m_iret (v := M 0 2) hx hb hr hI (⟨by simp [cntR], rfl⟩) dX6_count_111 hlocks
  by_cases c1_11 : w = 11
  · subst c1_11
    refine lv_tableIn (tgt := 100) (off := 99) hx hb dX6_count_1 (by decide) (by decide) (by decide +kernel) (by decide) ?_
    refine lv_aload_n hx hb dX6_count_100 rfl (lv_at hl 0 rfl) ?_
    refine m_get hx hb hts hin hown hK hI 0 (by decide) (hts (.fieldLink RX6 7 "WinderLaddersModel" "s" "[I") (by decide +kernel)) (v := .ref (q 1)) rfl dX6_count_101 ?_
    refine lv_iconst (v := 0) hx hb dX6_count_104 (by decide) ?_
    refine lv_iload_n hx hb dX6_count_105 rfl (lv_at hl 1 rfl) ?_
    refine lv_iadd hx hb dX6_count_106 ?_
    refine lv_re (y := 11) (by decide) ?_
    refine lv_bipush (v := 8) hx hb dX6_count_107 (by decide) ?_
    refine lv_isub hx hb dX6_count_109 ?_
    refine lv_re (y := 3) (by decide) ?_
    refine m_ald hx hb hK hI 0 (by decide) (3) (by show _ < 140; omega) rfl (v := M 0 3) rfl dX6_count_110 ?_
    exact m_iret (v := M 0 3) hx hb hr hI (⟨by simp [cntR], rfl⟩) dX6_count_111 hlocks
  by_cases c1_12 : w = 12
  · subst c1_12
    refine lv_tableIn (tgt := 112) (off := 111) hx hb dX6_count_1 (by decide) (by decide) (by decide +kernel) (by decide) ?_
    refine lv_aload_n hx hb dX6_count_112 rfl (lv_at hl 0 rfl) ?_
    refine m_get hx hb hts hin hown hK hI 7 (by decide) (hts (.fieldLink RX6 127 "WinderLaddersModel" "length" "I") (by decide +kernel)) (v := .int (M 7 0)) rfl dX6_count_113 ?_
    exact m_iret (v := M 7 0) hx hb hr hI (⟨by simp [cntR], rfl⟩) dX6_count_116 hlocks
  by_cases c1_13 : w = 13
  · subst c1_13
    refine lv_tableIn (tgt := 117) (off := 116) hx hb dX6_count_1 (by decide) (by decide) (by decide +kernel) (by decide) ?_
    refine lv_aload_n hx hb dX6_count_117 rfl (lv_at hl 0 rfl) ?_
    refine m_get hx hb hts hin hown hK hI 3 (by decide) (hts (.fieldLink RX6 39 "WinderLaddersModel" "known" "I") (by decide +kernel)) (v := .int (M 3 0)) rfl dX6_count_118 ?_
    exact m_iret (v := M 3 0) hx hb hr hI (⟨by simp [cntR], rfl⟩) dX6_count_121 hlocks
  refine lv_tableOut (tgt := 122) hx hb dX6_count_1 (sw_out14 c1_0 c1_1 c1_2 c1_3 c1_4 c1_5 c1_6 c1_7 c1_8 c1_9 c1_10 c1_11 c1_12 c1_13) (by decide) ?_
  refine lv_bipush (v := (-2)) hx hb dX6_count_122 (by decide) ?_
  exact m_iret (v := (-2)) hx hb hr hI (⟨by simp only [cntR, if_neg c1_0, if_neg c1_1, if_neg c1_2, if_neg c1_3, if_neg c1_4, if_neg c1_5, if_neg c1_6, if_neg c1_7, if_neg c1_8, if_neg c1_9, if_neg c1_10, if_neg c1_11, if_neg c1_12, if_neg c1_13], rfl⟩) dX6_count_124 hlocks

set_option maxHeartbeats 4000000 in
set_option maxRecDepth 100000 in
theorem k_X6_ladderFor (l : Launch) (dd : va_G) (g : Nat → ClassId) (q : Nat → Nat) (A : Nat → Prop) (hA : mA A q) (M : MS) (hW : Wk (M 0)) : Met l yX6_ladderFor wsX6_ladderFor ({ frames := 3, cells := 0, slots := 0, locals := 66 }) (mPre dd g q M [.ref (q 0)]) (mQi dd g q A (fun r M' => r = (if ln (M 0) = 4 then -4 else mostN (M 0) (cn (M 0))) ∧ M' = M)) 0 0 A := by
  refine Met.ofW (cc := cX6_ladderFor) (maxL := 3) (ret := (some .int)) (by decide) rfl ?_
  intro p e s m args below meth c s₁ B hml hv
  obtain ⟨rfl, hP0, hK⟩ := hv
  have hx := B.exec
  have hb := B.bytes
  have hr := B.returns
  have hts := atoms_spec (ws := wsX6_ladderFor) B.pre
  have hown : s.vm.findClass RX6 = some m.cls := findClass_of_methodNamed B.named
  have hlocks := B.notSynchronized
  have hin : ∀ w ∈ wsX60, w ∈ wsX6_ladderFor := by decide +kernel
  have hI : mI dd g q A s.heap s.heap [] M := ⟨hP0, va_S.rf⟩
  have hl := lv_entry ([.ref (q 0)]) (n := 3) (Nat.le_of_ble_eq_true rfl)
  rw [lg_entry_eq]
  generalize (lg_sl ([.ref (q 0)]) ++ List.replicate (3 - (lg_sl ([.ref (q 0)])).length) Slot.unset).toArray = ls at hl ⊢
  have hl : lv_has ls 3 [(0, .ref (q 0))] := hl
  have hc16 := hW.2.1
  have hl4 := hW.2.2.2
  refine lv_aload_n hx hb dX6_ladderFor_0 rfl (lv_at hl 0 rfl) ?_
  refine m_get hx hb hts hin hown hK hI 0 (by decide) (hts (.fieldLink RX6 7 "WinderLaddersModel" "s" "[I") (by decide +kernel)) (v := .ref (q 1)) rfl dX6_ladderFor_1 ?_
  refine lv_bipush (v := 6) hx hb dX6_ladderFor_4 (by decide) ?_
  refine m_ald hx hb hK hI 0 (by decide) (6) (by show _ < 140; omega) rfl (v := nI (ln (M 0))) hW.2.2.1 dX6_ladderFor_6 ?_
  refine lv_iconst (v := 4) hx hb dX6_ladderFor_7 (by decide) ?_
  refine lv_icmp_ne (tgt := 14) hx hb dX6_ladderFor_8 (by decide) (fun c1 => ?_) (fun c1 => ?_)
  · skip
    have nc1 : ¬ (ln (M 0) = 4) := fun h => c1 ((nI_eq (a := ln (M 0)) (b := 4) (by omega) (by omega)).mpr h)
    refine lv_bipush (v := (-6)) hx hb dX6_ladderFor_14 (by decide) ?_
    refine lv_istore_n (lv' := [(1, .int ((-6))), (0, .ref (q 0))]) hx hb dX6_ladderFor_16 rfl hl (by decide) rfl (fun ls hl => ?_)
    refine lv_iconst (v := 0) hx hb dX6_ladderFor_17 (by decide) ?_
    refine lv_istore_n (lv' := [(2, .int 0), (1, .int ((-6))), (0, .ref (q 0))]) hx hb dX6_ladderFor_18 rfl hl (by decide) rfl (fun ls hl => ?_)
    have L19 : ∀ (fuel : Nat) (k : Nat) (z : Int32) (h1 : k ≤ cn (M 0)) (h2 : cn (M 0) < fuel + k) (hx2 : z = mostN (M 0) k) (H : Heap) (locs : List Loc) (ls : Array Slot), mI dd g q A s.heap H locs M → lv_has ls 3 [(2, .int (nI k)), (1, .int z), (0, .ref (q 0))] → wk p l e wsX6_ladderFor { frames := 3, cells := 0, slots := 0, locals := 66 } s m [.ref (q 0)] below meth c H locs (mQi dd g q A (fun r M' => r = (if ln (M 0) = 4 then -4 else mostN (M 0) (cn (M 0))) ∧ M' = M)) (A) (F0 m 19 ls []) := by
      intro fuel
      induction fuel with
      | zero =>
        intro k z h1 h2 hx2 H locs ls hI hl
        exact absurd h2 (by omega)
      | succ fuel ih =>
        intro k z h1 h2 hx2 H locs ls hI hl
        refine lv_iload_n hx hb dX6_ladderFor_19 rfl (lv_at hl 0 rfl) ?_
        refine lv_aload_n hx hb dX6_ladderFor_20 rfl (lv_at hl 2 rfl) ?_
        refine m_get hx hb hts hin hown hK hI 0 (by decide) (hts (.fieldLink RX6 7 "WinderLaddersModel" "s" "[I") (by decide +kernel)) (v := .ref (q 1)) rfl dX6_ladderFor_21 ?_
        refine lv_iconst (v := 5) hx hb dX6_ladderFor_24 (by decide) ?_
        refine m_ald hx hb hK hI 0 (by decide) (5) (by show _ < 140; omega) rfl (v := nI (cn (M 0))) hW.1 dX6_ladderFor_25 ?_
        refine lv_icmp_ge (tgt := 72) hx hb dX6_ladderFor_26 (by decide) (fun c2 => ?_) (fun c2 => ?_)
        · skip
          have nc2 : cn (M 0) ≤ k := (nI_leI (a := cn (M 0)) (b := k) (by omega) (by omega)).mp c2
          refine lv_iload_n hx hb dX6_ladderFor_72 rfl (lv_at hl 1 rfl) ?_
          exact m_iret (v := z) hx hb hr hI (⟨by rw [if_neg nc1, hx2, show k = cn (M 0) by omega], rfl⟩) dX6_ladderFor_73 hlocks
        · skip
          have nc2 : ¬ (cn (M 0) ≤ k) := fun h => c2 ((nI_leI (a := cn (M 0)) (b := k) (by omega) (by omega)).mpr h)
          refine lv_aload_n hx hb dX6_ladderFor_29 rfl (lv_at hl 2 rfl) ?_
          refine lv_iload_n hx hb dX6_ladderFor_30 rfl (lv_at hl 0 rfl) ?_
          refine m_calli (As := [.int (nI k)]) (rest := []) hx hb hml hown hts hK hI (k_X6_canWind l dd g q A hA M k (by omega) hW) (cwV 1 hts gX6_ladderFor_X6_canWind rfl rfl rfl (by decide +kernel) ⟨Nat.le_of_ble_eq_true rfl, Nat.le_of_ble_eq_true rfl⟩) rfl hl (Nat.le_of_ble_eq_true rfl) ⟨Nat.zero_le _, Nat.zero_le _⟩ dX6_ladderFor_31 rfl (fun r M1 H locs h4 hI => ?_)
          obtain ⟨h4, hm9⟩ := h4
          rw [hm9] at hI
          rcases h4 with ⟨b3, rfl⟩ | ⟨b3, rfl⟩
          · skip
            have b3 : canW (M 0) k = true := b3
            refine lv_if_ne (tgt := 64) hx hb dX6_ladderFor_34 (by decide) (fun _ => ?_) (fun c5 => absurd c5 (by decide))
            refine lv_iload_n hx hb dX6_ladderFor_64 rfl (lv_at hl 1 rfl) ?_
            refine lv_istore_n (lv' := [(1, .int z), (2, .int (nI k)), (0, .ref (q 0))]) hx hb dX6_ladderFor_65 rfl hl (by decide) rfl (fun ls hl => ?_)
            refine lv_iinc (v := nI (k + 1)) (lv' := [(2, .int (nI (k + 1))), (1, .int z), (0, .ref (q 0))]) hx hb dX6_ladderFor_66 hl (k := 1) rfl (by rw [show Int32.ofInt 1 = nI 1 from rfl, nI_add]) (by decide) rfl (fun ls hl => ?_)
            refine lv_goto (tgt := 19) hx hb dX6_ladderFor_69 (by decide) ?_
            exact ih (k + 1) (z) (by omega) (by omega) (by simp only [mostN, ← hx2, if_neg c1, if_neg c2, if_pos b3]) _ _ _ hI (lv_sub hl [0, 1, 2] rfl)
          · skip
            have b3 : canW (M 0) k = false := b3
            refine lv_if_ne (tgt := 64) hx hb dX6_ladderFor_34 (by decide) (fun c6 => absurd (by decide) c6) (fun _ => ?_)
            refine lv_aload_n hx hb dX6_ladderFor_37 rfl (lv_at hl 2 rfl) ?_
            refine m_get hx hb hts hin hown hK hI 0 (by decide) (hts (.fieldLink RX6 7 "WinderLaddersModel" "s" "[I") (by decide +kernel)) (v := .ref (q 1)) rfl dX6_ladderFor_38 ?_
            refine lv_iload_n hx hb dX6_ladderFor_41 rfl (lv_at hl 0 rfl) ?_
            refine lv_iconst (v := 1) hx hb dX6_ladderFor_42 (by decide) ?_
            refine m_calls (As := [.int (nI k), .int 1]) (rest := [.ref (q 1)]) hx hb hml hown hts hI (k_X6_at l (k) (1)) (va_cwS 2 hts gX6_ladderFor_X6_at rfl rfl rfl (by decide +kernel) ⟨Nat.le_of_ble_eq_true rfl, Nat.le_of_ble_eq_true rfl⟩) rfl hl (Nat.le_of_ble_eq_true rfl) ⟨Nat.zero_le _, Nat.zero_le _⟩ dX6_ladderFor_43 rfl (fun r H locs h7 hI => ?_)
            subst h7
            refine m_ald hx hb hK hI 0 (by decide) (12 + 8 * k + 1) (by show _ < 140; omega) rfl (v := M 0 (12 + 8 * k + 1)) rfl dX6_ladderFor_46 ?_
            refine lv_iload_n hx hb dX6_ladderFor_47 rfl (lv_at hl 1 rfl) ?_
            refine lv_icmp_le (tgt := 64) hx hb dX6_ladderFor_48 (by decide) (fun c8 => ?_) (fun c8 => ?_)
            · skip
              refine lv_iload_n hx hb dX6_ladderFor_64 rfl (lv_at hl 1 rfl) ?_
              refine lv_istore_n (lv' := [(1, .int z), (2, .int (nI k)), (0, .ref (q 0))]) hx hb dX6_ladderFor_65 rfl hl (by decide) rfl (fun ls hl => ?_)
              refine lv_iinc (v := nI (k + 1)) (lv' := [(2, .int (nI (k + 1))), (1, .int z), (0, .ref (q 0))]) hx hb dX6_ladderFor_66 hl (k := 1) rfl (by rw [show Int32.ofInt 1 = nI 1 from rfl, nI_add]) (by decide) rfl (fun ls hl => ?_)
              refine lv_goto (tgt := 19) hx hb dX6_ladderFor_69 (by decide) ?_
              exact ih (k + 1) (z) (by omega) (by omega) (by simp only [mostN, ← hx2, if_neg c1, if_neg c2, if_neg (Bool.eq_false_iff.mp b3), if_pos c8]) _ _ _ hI (lv_sub hl [0, 1, 2] rfl)
            · skip
              refine lv_aload_n hx hb dX6_ladderFor_51 rfl (lv_at hl 2 rfl) ?_
              refine m_get hx hb hts hin hown hK hI 0 (by decide) (hts (.fieldLink RX6 7 "WinderLaddersModel" "s" "[I") (by decide +kernel)) (v := .ref (q 1)) rfl dX6_ladderFor_52 ?_
              refine lv_iload_n hx hb dX6_ladderFor_55 rfl (lv_at hl 0 rfl) ?_
              refine lv_iconst (v := 1) hx hb dX6_ladderFor_56 (by decide) ?_
              refine m_calls (As := [.int (nI k), .int 1]) (rest := [.ref (q 1)]) hx hb hml hown hts hI (k_X6_at l (k) (1)) (va_cwS 2 hts gX6_ladderFor_X6_at rfl rfl rfl (by decide +kernel) ⟨Nat.le_of_ble_eq_true rfl, Nat.le_of_ble_eq_true rfl⟩) rfl hl (Nat.le_of_ble_eq_true rfl) ⟨Nat.zero_le _, Nat.zero_le _⟩ dX6_ladderFor_57 rfl (fun r H locs h9 hI => ?_)
              subst h9
              refine m_ald hx hb hK hI 0 (by decide) (12 + 8 * k + 1) (by show _ < 140; omega) rfl (v := M 0 (12 + 8 * k + 1)) rfl dX6_ladderFor_60 ?_
              refine lv_goto (tgt := 65) hx hb dX6_ladderFor_61 (by decide) ?_
              refine lv_istore_n (lv' := [(1, .int (M 0 (12 + 8 * k + 1))), (2, .int (nI k)), (0, .ref (q 0))]) hx hb dX6_ladderFor_65 rfl hl (by decide) rfl (fun ls hl => ?_)
              refine lv_iinc (v := nI (k + 1)) (lv' := [(2, .int (nI (k + 1))), (1, .int (M 0 (12 + 8 * k + 1))), (0, .ref (q 0))]) hx hb dX6_ladderFor_66 hl (k := 1) rfl (by rw [show Int32.ofInt 1 = nI 1 from rfl, nI_add]) (by decide) rfl (fun ls hl => ?_)
              refine lv_goto (tgt := 19) hx hb dX6_ladderFor_69 (by decide) ?_
              exact ih (k + 1) (M 0 (12 + 8 * k + 1)) (by omega) (by omega) (by simp only [mostN, ← hx2, if_neg c1, if_neg c2, if_neg (Bool.eq_false_iff.mp b3), if_neg c8]) _ _ _ hI (lv_sub hl [0, 1, 2] rfl)
    exact L19 17 0 (-6) (by omega) (by omega) rfl _ _ _ hI (lv_sub hl [0, 1, 2] rfl)
  · skip
    have nc1 : ln (M 0) = 4 := (nI_eq (a := ln (M 0)) (b := 4) (by omega) (by omega)).mp c1
    refine lv_bipush (v := (-4)) hx hb dX6_ladderFor_11 (by decide) ?_
    exact m_iret (v := (-4)) hx hb hr hI (⟨(if_pos nc1).symm, rfl⟩) dX6_ladderFor_13 hlocks

set_option maxHeartbeats 4000000 in
set_option maxRecDepth 100000 in
theorem k_X6_wayRound (l : Launch) (dd : va_G) (g : Nat → ClassId) (q : Nat → Nat) (A : Nat → Prop) (hA : mA A q) (M : MS) (x : Int32) (hW : Wk (M 0)) : Met l yX6_wayRound wsX6_wayRound ({ frames := 4, cells := 0, slots := 0, locals := 93 }) (mPre dd g q M [.ref (q 0), .int x]) (mQi dd g q A (fun r M' => r = (if loR x (loL (cn (M 0)) x false (M 8) (cn (M 0))) = 0 then wayR (miV (M 0) (loN (cn (M 0)) x false (M 8) (cn (M 0))) (loL (cn (M 0)) x false (M 8) (cn (M 0)))) (miV (M 0) (loN (cn (M 0)) x true (loN (cn (M 0)) x false (M 8) (cn (M 0))) (cn (M 0))) (loL (cn (M 0)) x true (loN (cn (M 0)) x false (M 8) (cn (M 0))) (cn (M 0)))) else loR x (loL (cn (M 0)) x false (M 8) (cn (M 0)))) ∧ M' 0 = M 0 ∧ ∀ k, k ≠ 8 → k ≠ 9 → M' k = M k)) 0 0 A := by
  refine Met.ofW (cc := cX6_wayRound) (maxL := 6) (ret := (some .int)) (by decide) rfl ?_
  intro p e s m args below meth c s₁ B hml hv
  obtain ⟨rfl, hP0, hK⟩ := hv
  have hx := B.exec
  have hb := B.bytes
  have hr := B.returns
  have hts := atoms_spec (ws := wsX6_wayRound) B.pre
  have hown : s.vm.findClass RX6 = some m.cls := findClass_of_methodNamed B.named
  have hlocks := B.notSynchronized
  have hI : mI dd g q A s.heap s.heap [] M := ⟨hP0, va_S.rf⟩
  have hl := lv_entry ([.ref (q 0), .int x]) (n := 6) (Nat.le_of_ble_eq_true rfl)
  rw [lg_entry_eq]
  generalize (lg_sl ([.ref (q 0), .int x]) ++ List.replicate (6 - (lg_sl ([.ref (q 0), .int x])).length) Slot.unset).toArray = ls at hl ⊢
  have hl : lv_has ls 6 [(0, .ref (q 0)), (1, .int x)] := hl
  have hc16 := hW.2.1
  have hl4 := hW.2.2.2
  refine lv_aload_n hx hb dX6_wayRound_0 rfl (lv_at hl 0 rfl) ?_
  refine lv_iload_n hx hb dX6_wayRound_1 rfl (lv_at hl 1 rfl) ?_
  refine lv_iconst (v := 0) hx hb dX6_wayRound_2 (by decide) ?_
  refine m_calli (As := [.int x, .int 0]) (rest := []) hx hb hml hown hts hK hI (k_X6_layOut0 l dd g q A hA M x hW) (cwV 2 hts gX6_wayRound_X6_layOut rfl rfl rfl (by decide +kernel) ⟨Nat.le_of_ble_eq_true rfl, Nat.le_of_ble_eq_true rfl⟩) rfl hl (Nat.le_of_ble_eq_true rfl) ⟨Nat.zero_le _, Nat.zero_le _⟩ dX6_wayRound_3 rfl (fun r M1 H locs h1 hI => ?_)
  obtain ⟨hr9, hm9⟩ := h1
  rw [hm9] at hI
  subst hr9
  refine lv_istore_n (lv' := [(2, .int (loR x (loL (cn (M 0)) x false (M 8) (cn (M 0))))), (0, .ref (q 0)), (1, .int x)]) hx hb dX6_wayRound_6 rfl hl (by decide) rfl (fun ls hl => ?_)
  refine lv_iload_n hx hb dX6_wayRound_7 rfl (lv_at hl 0 rfl) ?_
  refine lv_if_ge (tgt := 13) hx hb dX6_wayRound_8 (by decide) (fun c2 => ?_) (fun c2 => ?_)
  · skip
    refine lv_aload_n hx hb dX6_wayRound_13 rfl (lv_at hl 1 rfl) ?_
    refine m_calli (As := []) (rest := []) hx hb hml hown hts hK hI (k_X6_minutes l dd g q A hA (loM M (cn (M 0)) x false (cn (M 0))) (loL (cn (M 0)) x false (M 8) (cn (M 0))) (by have := loL_le (cn (M 0)) x false (M 8) (cn (M 0)); omega) (loM_9 _ _ _ _ _) (fun k hk9 => by rw [loM_8]; exact loN_ok _ _ _ _ _ (Nat.le_refl _) k hk9) hW) (cwV 0 hts gX6_wayRound_X6_minutes rfl rfl rfl (by decide +kernel) ⟨Nat.le_of_ble_eq_true rfl, Nat.le_of_ble_eq_true rfl⟩) rfl hl (Nat.le_of_ble_eq_true rfl) ⟨Nat.zero_le _, Nat.zero_le _⟩ dX6_wayRound_14 rfl (fun r M1 H locs h3 hI => ?_)
    obtain ⟨hr9, hm9⟩ := h3
    rw [hm9] at hI
    subst hr9
    refine lv_istore_n (lv' := [(3, .int (miV (M 0) ((loM M (cn (M 0)) x false (cn (M 0))) 8) (loL (cn (M 0)) x false (M 8) (cn (M 0))))), (2, .int (loR x (loL (cn (M 0)) x false (M 8) (cn (M 0))))), (0, .ref (q 0)), (1, .int x)]) hx hb dX6_wayRound_17 rfl hl (by decide) rfl (fun ls hl => ?_)
    refine lv_aload_n hx hb dX6_wayRound_18 rfl (lv_at hl 2 rfl) ?_
    refine lv_iload_n hx hb dX6_wayRound_19 rfl (lv_at hl 3 rfl) ?_
    refine lv_iconst (v := 1) hx hb dX6_wayRound_20 (by decide) ?_
    refine m_calli (As := [.int x, .int 1]) (rest := []) hx hb hml hown hts hK hI (k_X6_layOut1 l dd g q A hA (loM M (cn (M 0)) x false (cn (M 0))) x hW) (cwV 2 hts gX6_wayRound_X6_layOut rfl rfl rfl (by decide +kernel) ⟨Nat.le_of_ble_eq_true rfl, Nat.le_of_ble_eq_true rfl⟩) rfl hl (Nat.le_of_ble_eq_true rfl) ⟨Nat.zero_le _, Nat.zero_le _⟩ dX6_wayRound_21 rfl (fun r M1 H locs h4 hI => ?_)
    obtain ⟨hr9, hm9⟩ := h4
    rw [hm9] at hI
    subst hr9
    refine lv_istore (lv' := [(4, .int (loR x (loL (cn (M 0)) x true ((loM M (cn (M 0)) x false (cn (M 0))) 8) (cn (M 0))))), (3, .int (miV (M 0) ((loM M (cn (M 0)) x false (cn (M 0))) 8) (loL (cn (M 0)) x false (M 8) (cn (M 0))))), (2, .int (loR x (loL (cn (M 0)) x false (M 8) (cn (M 0))))), (0, .ref (q 0)), (1, .int x)]) hx hb dX6_wayRound_24 hl (by decide) rfl (fun ls hl => ?_)
    refine lv_aload_n hx hb dX6_wayRound_26 rfl (lv_at hl 3 rfl) ?_
    refine m_calli (As := []) (rest := []) hx hb hml hown hts hK hI (k_X6_minutes l dd g q A hA (loM (loM M (cn (M 0)) x false (cn (M 0))) (cn (M 0)) x true (cn (M 0))) (loL (cn (M 0)) x true (loN (cn (M 0)) x false (M 8) (cn (M 0))) (cn (M 0))) (by have := loL_le (cn (M 0)) x true (loN (cn (M 0)) x false (M 8) (cn (M 0))) (cn (M 0)); omega) (loM_9 _ _ _ _ _) (fun k hk9 => loN_ok (cn (M 0)) x true (loN (cn (M 0)) x false (M 8) (cn (M 0))) (cn (M 0)) (Nat.le_refl _) k hk9) hW) (cwV 0 hts gX6_wayRound_X6_minutes rfl rfl rfl (by decide +kernel) ⟨Nat.le_of_ble_eq_true rfl, Nat.le_of_ble_eq_true rfl⟩) rfl hl (Nat.le_of_ble_eq_true rfl) ⟨Nat.zero_le _, Nat.zero_le _⟩ dX6_wayRound_27 rfl (fun r M1 H locs h5 hI => ?_)
    obtain ⟨hr9, hm9⟩ := h5
    rw [hm9] at hI
    subst hr9
    refine lv_istore (lv' := [(5, .int (miV (M 0) ((loM (loM M (cn (M 0)) x false (cn (M 0))) (cn (M 0)) x true (cn (M 0))) 8) (loL (cn (M 0)) x true (loN (cn (M 0)) x false (M 8) (cn (M 0))) (cn (M 0))))), (4, .int (loR x (loL (cn (M 0)) x true ((loM M (cn (M 0)) x false (cn (M 0))) 8) (cn (M 0))))), (3, .int (miV (M 0) ((loM M (cn (M 0)) x false (cn (M 0))) 8) (loL (cn (M 0)) x false (M 8) (cn (M 0))))), (2, .int (loR x (loL (cn (M 0)) x false (M 8) (cn (M 0))))), (0, .ref (q 0)), (1, .int x)]) hx hb dX6_wayRound_30 hl (by decide) rfl (fun ls hl => ?_)
    refine lv_iload_n hx hb dX6_wayRound_32 rfl (lv_at hl 2 rfl) ?_
    refine lv_iload hx hb dX6_wayRound_33 (lv_at hl 0 rfl) ?_
    refine lv_icmp_ge (tgt := 42) hx hb dX6_wayRound_35 (by decide) (fun c6 => ?_) (fun c6 => ?_)
    · skip
      refine lv_iload hx hb dX6_wayRound_42 (lv_at hl 0 rfl) ?_
      refine lv_iload_n hx hb dX6_wayRound_44 rfl (lv_at hl 2 rfl) ?_
      refine lv_icmp_ge (tgt := 52) hx hb dX6_wayRound_45 (by decide) (fun c7 => ?_) (fun c7 => ?_)
      · skip
        refine lv_iconst (v := 2) hx hb dX6_wayRound_52 (by decide) ?_
        exact m_iret (v := 2) hx hb hr hI (⟨by rw [if_pos (loR_0 c2)]; exact (show _ = wayR (miV (M 0) (loN (cn (M 0)) x false (M 8) (cn (M 0))) (loL (cn (M 0)) x false (M 8) (cn (M 0)))) (miV (M 0) (loN (cn (M 0)) x true (loN (cn (M 0)) x false (M 8) (cn (M 0))) (cn (M 0))) (loL (cn (M 0)) x true (loN (cn (M 0)) x false (M 8) (cn (M 0))) (cn (M 0)))) by simp only [wayR]; first | exact (if_neg c6).symm | (exact (if_pos c6).trans (if_neg c7) |>.symm) | (exact (if_pos c6).trans (if_pos c7) |>.symm)), rfl, fun k a b => (loM_k _ _ _ _ _ a b).trans (loM_k _ _ _ _ _ a b)⟩) dX6_wayRound_53 hlocks
      · skip
        refine lv_iconst (v := 1) hx hb dX6_wayRound_48 (by decide) ?_
        refine lv_goto (tgt := 53) hx hb dX6_wayRound_49 (by decide) ?_
        exact m_iret (v := 1) hx hb hr hI (⟨by rw [if_pos (loR_0 c2)]; exact (show _ = wayR (miV (M 0) (loN (cn (M 0)) x false (M 8) (cn (M 0))) (loL (cn (M 0)) x false (M 8) (cn (M 0)))) (miV (M 0) (loN (cn (M 0)) x true (loN (cn (M 0)) x false (M 8) (cn (M 0))) (cn (M 0))) (loL (cn (M 0)) x true (loN (cn (M 0)) x false (M 8) (cn (M 0))) (cn (M 0)))) by simp only [wayR]; first | exact (if_neg c6).symm | (exact (if_pos c6).trans (if_neg c7) |>.symm) | (exact (if_pos c6).trans (if_pos c7) |>.symm)), rfl, fun k a b => (loM_k _ _ _ _ _ a b).trans (loM_k _ _ _ _ _ a b)⟩) dX6_wayRound_53 hlocks
    · skip
      refine lv_iconst (v := 0) hx hb dX6_wayRound_38 (by decide) ?_
      refine lv_goto (tgt := 53) hx hb dX6_wayRound_39 (by decide) ?_
      exact m_iret (v := 0) hx hb hr hI (⟨by rw [if_pos (loR_0 c2)]; exact (show _ = wayR (miV (M 0) (loN (cn (M 0)) x false (M 8) (cn (M 0))) (loL (cn (M 0)) x false (M 8) (cn (M 0)))) (miV (M 0) (loN (cn (M 0)) x true (loN (cn (M 0)) x false (M 8) (cn (M 0))) (cn (M 0))) (loL (cn (M 0)) x true (loN (cn (M 0)) x false (M 8) (cn (M 0))) (cn (M 0)))) by simp only [wayR]; first | exact (if_neg c6).symm | (exact (if_pos c6).trans (if_neg c6) |>.symm) | (exact (if_pos c6).trans (if_pos c6) |>.symm)), rfl, fun k a b => (loM_k _ _ _ _ _ a b).trans (loM_k _ _ _ _ _ a b)⟩) dX6_wayRound_53 hlocks
  · skip
    refine lv_iload_n hx hb dX6_wayRound_11 rfl (lv_at hl 0 rfl) ?_
    exact m_iret (v := loR x (loL (cn (M 0)) x false (M 8) (cn (M 0)))) hx hb hr hI (⟨(if_neg (fun z => c2 (by rw [z]; decide))).symm, rfl, fun k a b => loM_k _ _ _ _ _ a b⟩) dX6_wayRound_12 hlocks

set_option maxHeartbeats 4000000 in
set_option maxRecDepth 100000 in
theorem k_X6_keepClock (l : Launch) (dd : va_G) (g : Nat → ClassId) (q : Nat → Nat) (A : Nat → Prop) (hA : mA A q) (M : MS) (c0 : Nat) (hc : c0 < 16) : Met l yX6_keepClock wsX6_keepClock ({ frames := 1, cells := 0, slots := 0, locals := 21 }) (mPre dd g q M [.ref (q 0), .int (nI c0)]) (mQv dd g q A (fun M' => M' = mrow M 1 (cp2 (M 1) (M 0) (12 + 8 * c0) 8))) 0 0 A := by
  refine Met.ofW (cc := cX6_keepClock) (maxL := 3) (ret := none) (by decide) rfl ?_
  intro p e s m args below meth c s₁ B hml hv
  obtain ⟨rfl, hP0, hK⟩ := hv
  have hx := B.exec
  have hb := B.bytes
  have hr := B.returns
  have hts := atoms_spec (ws := wsX6_keepClock) B.pre
  have hown : s.vm.findClass RX6 = some m.cls := findClass_of_methodNamed B.named
  have hlocks := B.notSynchronized
  have hin : ∀ w ∈ wsX60, w ∈ wsX6_keepClock := by decide +kernel
  have hI : mI dd g q A s.heap s.heap [] M := ⟨hP0, va_S.rf⟩
  have hl := lv_entry ([.ref (q 0), .int (nI c0)]) (n := 3) (Nat.le_of_ble_eq_true rfl)
  rw [lg_entry_eq]
  generalize (lg_sl ([.ref (q 0), .int (nI c0)]) ++ List.replicate (3 - (lg_sl ([.ref (q 0), .int (nI c0)])).length) Slot.unset).toArray = ls at hl ⊢
  have hl : lv_has ls 3 [(0, .ref (q 0)), (1, .int (nI c0))] := hl
  refine lv_iconst (v := 0) hx hb dX6_keepClock_0 (by decide) ?_
  refine lv_istore_n (lv' := [(2, .int 0), (0, .ref (q 0)), (1, .int (nI c0))]) hx hb dX6_keepClock_1 rfl hl (by decide) rfl (fun ls hl => ?_)
  have L2 : ∀ (fuel : Nat) (k : Nat) (h1 : k ≤ 8) (h2 : 8 < fuel + k) (H : Heap) (locs : List Loc) (ls : Array Slot), mI dd g q A s.heap H locs (mrow M 1 (cp2 (M 1) (M 0) (12 + 8 * c0) k)) → lv_has ls 3 [(2, .int (nI k)), (0, .ref (q 0)), (1, .int (nI c0))] → wk p l e wsX6_keepClock { frames := 1, cells := 0, slots := 0, locals := 21 } s m [.ref (q 0), .int (nI c0)] below meth c H locs (mQv dd g q A (fun M' => M' = mrow M 1 (cp2 (M 1) (M 0) (12 + 8 * c0) 8))) (A) (F0 m 2 ls []) := by
    intro fuel
    induction fuel with
    | zero =>
      intro k h1 h2 H locs ls hI hl
      exact absurd h2 (by omega)
    | succ fuel ih =>
      intro k h1 h2 H locs ls hI hl
      refine lv_iload_n hx hb dX6_keepClock_2 rfl (lv_at hl 0 rfl) ?_
      refine lv_bipush (v := 8) hx hb dX6_keepClock_3 (by decide) ?_
      refine lv_icmp_ge (tgt := 30) hx hb dX6_keepClock_5 (by decide) (fun c1 => ?_) (fun c1 => ?_)
      · skip
        have nc1 : 8 ≤ k := (nI_leI (a := 8) (b := k) (by omega) (by omega)).mp c1
        exact m_vret hx hb hr hI (by rw [show k = 8 by omega]) dX6_keepClock_30 hlocks
      · skip
        have nc1 : ¬ (8 ≤ k) := fun h => c1 ((nI_leI (a := 8) (b := k) (by omega) (by omega)).mpr h)
        refine lv_aload_n hx hb dX6_keepClock_8 rfl (lv_at hl 1 rfl) ?_
        refine m_get hx hb hts hin hown hK hI 1 (by decide) (hts (.fieldLink RX6 13 "WinderLaddersModel" "aside" "[I") (by decide +kernel)) (v := .ref (q 2)) rfl dX6_keepClock_9 ?_
        refine lv_iload_n hx hb dX6_keepClock_12 rfl (lv_at hl 0 rfl) ?_
        refine lv_aload_n hx hb dX6_keepClock_13 rfl (lv_at hl 1 rfl) ?_
        refine m_get hx hb hts hin hown hK hI 0 (by decide) (hts (.fieldLink RX6 7 "WinderLaddersModel" "s" "[I") (by decide +kernel)) (v := .ref (q 1)) rfl dX6_keepClock_14 ?_
        refine lv_iload_n hx hb dX6_keepClock_17 rfl (lv_at hl 2 rfl) ?_
        refine lv_iload_n hx hb dX6_keepClock_18 rfl (lv_at hl 0 rfl) ?_
        refine m_calls (As := [.int (nI c0), .int (nI k)]) (rest := [.ref (q 1), .int (nI k), .ref (q 2)]) hx hb hml hown hts hI (k_X6_at l (c0) (k)) (va_cwS 2 hts gX6_keepClock_X6_at rfl rfl rfl (by decide +kernel) ⟨Nat.le_of_ble_eq_true rfl, Nat.le_of_ble_eq_true rfl⟩) rfl hl (Nat.le_of_ble_eq_true rfl) ⟨Nat.zero_le _, Nat.zero_le _⟩ dX6_keepClock_19 rfl (fun r H locs h2 hI => ?_)
        subst h2
        refine m_ald hx hb hK hI 0 (by decide) (12 + 8 * c0 + k) (by show _ < 140; omega) rfl (v := M 0 (12 + 8 * c0 + k)) rfl dX6_keepClock_22 ?_
        refine m_ast hx hb hK hA hI 1 (by decide) (k) (by show _ < 140; omega) rfl dX6_keepClock_23 (fun H locs hI => ?_)
        refine lv_iinc (v := nI (k + 1)) (lv' := [(2, .int (nI (k + 1))), (0, .ref (q 0)), (1, .int (nI c0))]) hx hb dX6_keepClock_24 hl (k := 0) rfl (by rw [show Int32.ofInt 1 = nI 1 from rfl, nI_add]) (by decide) rfl (fun ls hl => ?_)
        refine lv_goto (tgt := 2) hx hb dX6_keepClock_27 (by decide) ?_
        exact ih (k + 1) (by omega) (by omega) _ _ _ (by rw [mset_mrow_s, cp2_s] at hI; exact hI) (lv_sub hl [0, 1, 2] rfl)
  exact L2 9 0 (by omega) (by omega) _ _ _ (by rw [cp2_0, mrow_self]; exact hI) (lv_sub hl [0, 1, 2] rfl)

set_option maxHeartbeats 4000000 in
set_option maxRecDepth 100000 in
theorem k_X6_lasts (l : Launch) (dd : va_G) (g : Nat → ClassId) (q : Nat → Nat) (A : Nat → Prop) (hA : mA A q) (M : MS) (x : Int32) (D : Nat) (hD9 : D < 2 ^ 31) (hD : isCb (M 0) x = true → offB (lastN (M 0) (ix x) D) (ix x) (lastN (M 0) (ix x) D 0) = true ∧ ∀ d, d < D → offB (lastN (M 0) (ix x) d) (ix x) (lastN (M 0) (ix x) d 0) = false) (hW : Wk (M 0)) : Met l yX6_lasts wsX6_lasts ({ frames := 3, cells := 0, slots := 0, locals := 63 }) (mPre dd g q M [.ref (q 0), .int x]) (mQi dd g q A (fun r M' => r = (if isCb (M 0) x = true then nI D else -1) ∧ ∀ k, k ≠ 1 → M' k = M k)) 0 0 A := by
  refine Met.ofW (cc := cX6_lasts) (maxL := 4) (ret := (some .int)) (by decide) rfl ?_
  intro p e s m args below meth c s₁ B hml hv
  obtain ⟨rfl, hP0, hK⟩ := hv
  have hx := B.exec
  have hb := B.bytes
  have hr := B.returns
  have hts := atoms_spec (ws := wsX6_lasts) B.pre
  have hown : s.vm.findClass RX6 = some m.cls := findClass_of_methodNamed B.named
  have hlocks := B.notSynchronized
  have hin : ∀ w ∈ wsX60, w ∈ wsX6_lasts := by decide +kernel
  have hI : mI dd g q A s.heap s.heap [] M := ⟨hP0, va_S.rf⟩
  have hl := lv_entry ([.ref (q 0), .int x]) (n := 4) (Nat.le_of_ble_eq_true rfl)
  rw [lg_entry_eq]
  generalize (lg_sl ([.ref (q 0), .int x]) ++ List.replicate (4 - (lg_sl ([.ref (q 0), .int x])).length) Slot.unset).toArray = ls at hl ⊢
  have hl : lv_has ls 4 [(0, .ref (q 0)), (1, .int x)] := hl
  have hc16 := hW.2.1
  have hl4 := hW.2.2.2
  refine lv_aload_n hx hb dX6_lasts_0 rfl (lv_at hl 0 rfl) ?_
  refine lv_iload_n hx hb dX6_lasts_1 rfl (lv_at hl 1 rfl) ?_
  refine m_calli (As := [.int x]) (rest := []) hx hb hml hown hts hK hI (k_X6_isClock l dd g q A hA M x hW) (cwV 1 hts gX6_lasts_X6_isClock rfl rfl rfl (by decide +kernel) ⟨Nat.le_of_ble_eq_true rfl, Nat.le_of_ble_eq_true rfl⟩) rfl hl (Nat.le_of_ble_eq_true rfl) ⟨Nat.zero_le _, Nat.zero_le _⟩ dX6_lasts_2 rfl (fun r M1 H locs h2 hI => ?_)
  obtain ⟨h2, hm9⟩ := h2
  rw [hm9] at hI
  rcases h2 with ⟨⟨i1, hi_i1, e_i1⟩, rfl⟩ | ⟨b_i1, rfl⟩
  · skip
    have b_i1 : isCb (M 0) x = true := isCb_t hW ⟨hi_i1, e_i1⟩
    have x_i1 : ix x = i1 := by rw [e_i1]; exact ix_nI (by omega)
    subst e_i1
    refine lv_if_ne (tgt := 10) hx hb dX6_lasts_5 (by decide) (fun _ => ?_) (fun c3 => absurd c3 (by decide))
    obtain ⟨hD1, hD2⟩ := hD b_i1
    rw [x_i1] at hD1 hD2
    refine lv_aload_n hx hb dX6_lasts_10 rfl (lv_at hl 0 rfl) ?_
    refine lv_iload_n hx hb dX6_lasts_11 rfl (lv_at hl 1 rfl) ?_
    refine m_callv (As := [.int (nI i1)]) (rest := []) hx hb hml hown hts hK hI (k_X6_keepClock l dd g q A hA M i1 (by omega)) (cwV 1 hts gX6_lasts_X6_keepClock rfl rfl rfl (by decide +kernel) ⟨Nat.le_of_ble_eq_true rfl, Nat.le_of_ble_eq_true rfl⟩) rfl hl (Nat.le_of_ble_eq_true rfl) ⟨Nat.zero_le _, Nat.zero_le _⟩ dX6_lasts_12 rfl (fun M1 H locs h4 hI => ?_)
    subst h4
    refine lv_iconst (v := 0) hx hb dX6_lasts_15 (by decide) ?_
    refine lv_istore_n (lv' := [(2, .int 0), (0, .ref (q 0)), (1, .int (nI i1))]) hx hb dX6_lasts_16 rfl hl (by decide) rfl (fun ls hl => ?_)
    have L17 : ∀ (fuel : Nat) (k : Nat) (h1 : k ≤ D) (h2 : D < fuel + k) (H : Heap) (locs : List Loc) (ls : Array Slot), mI dd g q A s.heap H locs (ms0 (mrow M 1 (cp2 (M 1) (M 0) (12 + 8 * i1) 8)) (lastN (M 0) i1 k)) → lv_has ls 4 [(2, .int (nI k)), (0, .ref (q 0)), (1, .int (nI i1))] → wk p l e wsX6_lasts { frames := 3, cells := 0, slots := 0, locals := 63 } s m [.ref (q 0), .int (nI i1)] below meth c H locs (mQi dd g q A (fun r M' => r = (if isCb (M 0) (nI i1) = true then nI D else -1) ∧ ∀ k, k ≠ 1 → M' k = M k)) (A) (F0 m 17 ls []) := by
      intro fuel
      induction fuel with
      | zero =>
        intro k h1 h2 H locs ls hI hl
        exact absurd h2 (by omega)
      | succ fuel ih =>
        intro k h1 h2 H locs ls hI hl
        refine lv_aload_n hx hb dX6_lasts_17 rfl (lv_at hl 1 rfl) ?_
        refine lv_iload_n hx hb dX6_lasts_18 rfl (lv_at hl 2 rfl) ?_
        refine m_calli (As := [.int (nI i1)]) (rest := []) hx hb hml hown hts hK hI (k_X6_isOff l dd g q A hA (ms0 (mrow M 1 (cp2 (M 1) (M 0) (12 + 8 * i1) 8)) (lastN (M 0) i1 k)) i1 (by omega)) (cwV 1 hts gX6_lasts_X6_isOff rfl rfl rfl (by decide +kernel) ⟨Nat.le_of_ble_eq_true rfl, Nat.le_of_ble_eq_true rfl⟩) rfl hl (Nat.le_of_ble_eq_true rfl) ⟨Nat.zero_le _, Nat.zero_le _⟩ dX6_lasts_19 rfl (fun r M1 H locs h6 hI => ?_)
        obtain ⟨h6, hm9⟩ := h6
        rw [hm9] at hI
        rcases h6 with ⟨b5, rfl⟩ | ⟨b5, rfl⟩
        · skip
          have b5 : offB (lastN (M 0) i1 k) i1 ((lastN (M 0) i1 k) 0) = true := b5
          refine lv_if_ne (tgt := 36) hx hb dX6_lasts_22 (by decide) (fun _ => ?_) (fun c7 => absurd c7 (by decide))
          have ekD : k = D := (Nat.lt_or_ge k D).elim (fun z => Bool.noConfusion (b5.symm.trans (hD2 k z))) (fun z => by omega)
          refine lv_iconst (v := 0) hx hb dX6_lasts_36 (by decide) ?_
          refine lv_istore_n (lv' := [(3, .int 0), (2, .int (nI k)), (0, .ref (q 0)), (1, .int (nI i1))]) hx hb dX6_lasts_37 rfl hl (by decide) rfl (fun ls hl => ?_)
          have L38 : ∀ (fuel2 : Nat) (k2 : Nat) (g1 : k2 ≤ 8) (g2 : 8 < fuel2 + k2) (H : Heap) (locs : List Loc) (ls : Array Slot), mI dd g q A s.heap H locs (ms0 (mrow M 1 (cp2 (M 1) (M 0) (12 + 8 * i1) 8)) (cp1 (lastN (M 0) i1 D) (fun j => M 0 (12 + 8 * i1 + j)) (12 + 8 * i1) k2)) → lv_has ls 4 [(3, .int (nI k2)), (2, .int (nI D)), (0, .ref (q 0)), (1, .int (nI i1))] → wk p l e wsX6_lasts { frames := 3, cells := 0, slots := 0, locals := 63 } s m [.ref (q 0), .int (nI i1)] below meth c H locs (mQi dd g q A (fun r M' => r = (if isCb (M 0) (nI i1) = true then nI D else -1) ∧ ∀ k, k ≠ 1 → M' k = M k)) (A) (F0 m 38 ls []) := by
            intro fuel2
            induction fuel2 with
            | zero =>
              intro k2 g1 g2 H locs ls hI hl
              exact absurd g2 (by omega)
            | succ fuel2 ih2 =>
              intro k2 g1 g2 H locs ls hI hl
              refine lv_iload_n hx hb dX6_lasts_38 rfl (lv_at hl 0 rfl) ?_
              refine lv_bipush (v := 8) hx hb dX6_lasts_39 (by decide) ?_
              refine lv_icmp_ge (tgt := 66) hx hb dX6_lasts_41 (by decide) (fun c8 => ?_) (fun c8 => ?_)
              · skip
                have nc8 : 8 ≤ k2 := (nI_leI (a := 8) (b := k2) (by omega) (by omega)).mp c8
                refine lv_iload_n hx hb dX6_lasts_66 rfl (lv_at hl 1 rfl) ?_
                exact m_iret (v := nI D) hx hb hr hI (⟨(if_pos b_i1).symm, fun k a => if z : k = 0 then (by subst z; rw [ms0_0, show k2 = 8 by omega]; exact cp1_last _ _ _) else (by rw [ms0_k _ _ z, mrow_n _ a])⟩) dX6_lasts_67 hlocks
              · skip
                have nc8 : ¬ (8 ≤ k2) := fun h => c8 ((nI_leI (a := 8) (b := k2) (by omega) (by omega)).mpr h)
                refine lv_aload_n hx hb dX6_lasts_44 rfl (lv_at hl 2 rfl) ?_
                refine m_get hx hb hts hin hown hK hI 0 (by decide) (hts (.fieldLink RX6 7 "WinderLaddersModel" "s" "[I") (by decide +kernel)) (v := .ref (q 1)) rfl dX6_lasts_45 ?_
                refine lv_iload_n hx hb dX6_lasts_48 rfl (lv_at hl 3 rfl) ?_
                refine lv_iload_n hx hb dX6_lasts_49 rfl (lv_at hl 0 rfl) ?_
                refine m_calls (As := [.int (nI i1), .int (nI k2)]) (rest := [.ref (q 1)]) hx hb hml hown hts hI (k_X6_at l (i1) (k2)) (va_cwS 2 hts gX6_lasts_X6_at rfl rfl rfl (by decide +kernel) ⟨Nat.le_of_ble_eq_true rfl, Nat.le_of_ble_eq_true rfl⟩) rfl hl (Nat.le_of_ble_eq_true rfl) ⟨Nat.zero_le _, Nat.zero_le _⟩ dX6_lasts_50 rfl (fun r H locs h9 hI => ?_)
                subst h9
                refine lv_aload_n hx hb dX6_lasts_53 rfl (lv_at hl 2 rfl) ?_
                refine m_get hx hb hts hin hown hK hI 1 (by decide) (hts (.fieldLink RX6 13 "WinderLaddersModel" "aside" "[I") (by decide +kernel)) (v := .ref (q 2)) rfl dX6_lasts_54 ?_
                refine lv_iload_n hx hb dX6_lasts_57 rfl (lv_at hl 0 rfl) ?_
                refine m_ald hx hb hK hI 1 (by decide) (k2) (by show _ < 140; omega) rfl (v := M 0 (12 + 8 * i1 + k2)) ((show cp2 (M 1) (M 0) (12 + 8 * i1) 8 k2 = _ from if_pos (by omega))) dX6_lasts_58 ?_
                refine m_ast hx hb hK hA hI 0 (by decide) (12 + 8 * i1 + k2) (by show _ < 140; omega) rfl dX6_lasts_59 (fun H locs hI => ?_)
                refine lv_iinc (v := nI (k2 + 1)) (lv' := [(3, .int (nI (k2 + 1))), (2, .int (nI D)), (0, .ref (q 0)), (1, .int (nI i1))]) hx hb dX6_lasts_60 hl (k := 0) rfl (by rw [show Int32.ofInt 1 = nI 1 from rfl, nI_add]) (by decide) rfl (fun ls hl => ?_)
                refine lv_goto (tgt := 38) hx hb dX6_lasts_63 (by decide) ?_
                exact ih2 (k2 + 1) (by omega) (by omega) _ _ _ (by rw [mset_0, ms0_0, ms0_ms0] at hI; have e9 := cp1_s (lastN (M 0) i1 D) (fun j => M 0 (12 + 8 * i1 + j)) (12 + 8 * i1) k2; rw [e9] at hI; exact hI) (lv_sub hl [0, 1, 2, 3] rfl)
          exact L38 9 0 (by omega) (by omega) _ _ _ (by rw [cp1_0]; rw [ekD] at hI; exact hI) (by rw [ekD] at hl; exact (lv_sub hl [0, 1, 2, 3] rfl))
        · skip
          have b5 : offB (lastN (M 0) i1 k) i1 ((lastN (M 0) i1 k) 0) = false := b5
          refine lv_if_ne (tgt := 36) hx hb dX6_lasts_22 (by decide) (fun c10 => absurd (by decide) c10) (fun _ => ?_)
          refine lv_aload_n hx hb dX6_lasts_25 rfl (lv_at hl 1 rfl) ?_
          refine lv_iload_n hx hb dX6_lasts_26 rfl (lv_at hl 2 rfl) ?_
          refine m_callv (As := [.int (nI i1)]) (rest := []) hx hb hml hown hts hK hI (k_X6_day l dd g q A hA (ms0 (mrow M 1 (cp2 (M 1) (M 0) (12 + 8 * i1) 8)) (lastN (M 0) i1 k)) i1 (by omega)) (cwV 1 hts gX6_lasts_X6_day rfl rfl rfl (by decide +kernel) ⟨Nat.le_of_ble_eq_true rfl, Nat.le_of_ble_eq_true rfl⟩) rfl hl (Nat.le_of_ble_eq_true rfl) ⟨Nat.zero_le _, Nat.zero_le _⟩ dX6_lasts_27 rfl (fun M1 H locs h11 hI => ?_)
          subst h11
          refine lv_iinc (v := nI (k + 1)) (lv' := [(2, .int (nI (k + 1))), (0, .ref (q 0)), (1, .int (nI i1))]) hx hb dX6_lasts_30 hl (k := 0) rfl (by rw [show Int32.ofInt 1 = nI 1 from rfl, nI_add]) (by decide) rfl (fun ls hl => ?_)
          refine lv_goto (tgt := 17) hx hb dX6_lasts_33 (by decide) ?_
          exact ih (k + 1) ((Nat.lt_or_ge k D).elim id (fun z => by rw [show D = k from by omega] at hD1; exact Bool.noConfusion (hD1.symm.trans b5))) (by omega) _ _ _ (by rw [ms0_ms0] at hI; exact hI) (lv_sub hl [0, 1, 2] rfl)
    exact L17 (D + 1) 0 (by omega) (by omega) _ _ _ (by rw [show ms0 (mrow M 1 (cp2 (M 1) (M 0) (12 + 8 * i1) 8)) (lastN (M 0) i1 0) = mrow M 1 (cp2 (M 1) (M 0) (12 + 8 * i1) 8) from ms0_self (mrow M 1 (cp2 (M 1) (M 0) (12 + 8 * i1) 8))]; exact hI) (lv_sub hl [0, 1, 2] rfl)
  · skip
    have b_i1 := isCb_f hW b_i1
    refine lv_if_ne (tgt := 10) hx hb dX6_lasts_5 (by decide) (fun c12 => absurd (by decide) c12) (fun _ => ?_)
    refine lv_iconst (v := (-1)) hx hb dX6_lasts_8 (by decide) ?_
    exact m_iret (v := (-1)) hx hb hr hI (⟨(if_neg (Bool.eq_false_iff.mp b_i1)).symm, fun _ _ => rfl⟩) dX6_lasts_9 hlocks
