set_option maxHeartbeats 4000000 in
set_option maxRecDepth 100000 in
theorem k_X6_sign0 (l : Launch) (dd : va_G) (g : Nat → ClassId) (q : Nat → Nat) (A : Nat → Prop) (hA : mA A q) (M : MS) (lo hi : Int32) (pp len : Nat) (hp : M 11 0 = nI pp) (hlen : M 7 0 = nI len) (hl80 : len ≤ 80) (hpl : pp ≤ len) (hw : M 12 0 = 0) : Met l yX6_sign wsX6_sign ({ frames := 1, cells := 0, slots := 0, locals := 22 }) (mPre dd g q M [.ref (q 0), .int lo, .int hi]) (mQi dd g q A (fun r M' => (inB (chr (M 6) len pp) lo hi = true ∧ r = chr (M 6) len pp ∧ M' = mset M 11 0 (nI (pp + 1))) ∨ (inB (chr (M 6) len pp) lo hi = false ∧ M' = mset M 12 0 1))) 0 0 A := by
  refine Met.ofW (cc := cX6_sign) (maxL := 4) (ret := (some .int)) (by decide) rfl ?_
  intro p e s m args below meth c s₁ B hml hv
  obtain ⟨rfl, hP0, hK⟩ := hv
  have hx := B.exec
  have hb := B.bytes
  have hr := B.returns
  have hts := atoms_spec (ws := wsX6_sign) B.pre
  have hown : s.vm.findClass RX6 = some m.cls := findClass_of_methodNamed B.named
  have hlocks := B.notSynchronized
  have hin : ∀ w ∈ wsX60, w ∈ wsX6_sign := by decide +kernel
  have hI : mI dd g q A s.heap s.heap [] M := ⟨hP0, va_S.rf⟩
  have hl := lv_entry ([.ref (q 0), .int lo, .int hi]) (n := 4) (Nat.le_of_ble_eq_true rfl)
  rw [lg_entry_eq]
  generalize (lg_sl ([.ref (q 0), .int lo, .int hi]) ++ List.replicate (4 - (lg_sl ([.ref (q 0), .int lo, .int hi])).length) Slot.unset).toArray = ls at hl ⊢
  have hl : lv_has ls 4 [(0, .ref (q 0)), (1, .int lo), (2, .int hi)] := hl
  refine lv_aload_n hx hb dX6_sign_0 rfl (lv_at hl 0 rfl) ?_
  refine m_get hx hb hts hin hown hK hI 11 (by decide) (hts (.fieldLink RX6 138 "WinderLaddersModel" "place" "I") (by decide +kernel)) (v := .int (nI pp)) (congrArg (fun z => some (Value.int z)) hp) dX6_sign_1 ?_
  refine lv_aload_n hx hb dX6_sign_4 rfl (lv_at hl 0 rfl) ?_
  refine m_get hx hb hts hin hown hK hI 7 (by decide) (hts (.fieldLink RX6 127 "WinderLaddersModel" "length" "I") (by decide +kernel)) (v := .int (nI len)) (congrArg (fun z => some (Value.int z)) hlen) dX6_sign_5 ?_
  refine lv_icmp_ge (tgt := 23) hx hb dX6_sign_8 (by decide) (fun c1 => ?_) (fun c1 => ?_)
  · skip
    have nc1 : len ≤ pp := (nI_leI (a := len) (b := pp) (by omega) (by omega)).mp c1
    refine lv_iconst (v := 0) hx hb dX6_sign_23 (by decide) ?_
    have ec : chr (M 6) len pp = 0 := chr_out (by omega)
    refine lv_istore_n (lv' := [(3, .int 0), (0, .ref (q 0)), (1, .int lo), (2, .int hi)]) hx hb dX6_sign_24 rfl hl (by decide) rfl (fun ls hl => ?_)
    refine lv_aload_n hx hb dX6_sign_25 rfl (lv_at hl 1 rfl) ?_
    refine lv_aload_n hx hb dX6_sign_26 rfl (lv_at hl 1 rfl) ?_
    refine m_get hx hb hts hin hown hK hI 12 (by decide) (hts (.fieldLink RX6 141 "WinderLaddersModel" "isWrong" "Z") (by decide +kernel)) (v := .int 0) (congrArg (fun z => some (Value.int z)) hw) dX6_sign_27 ?_
    refine lv_if_ne (tgt := 42) hx hb dX6_sign_30 (by decide) (fun c2 => absurd (by decide) c2) (fun _ => ?_)
    refine lv_iload_n hx hb dX6_sign_33 rfl (lv_at hl 0 rfl) ?_
    refine lv_iload_n hx hb dX6_sign_34 rfl (lv_at hl 2 rfl) ?_
    refine lv_iload_n hx hb dX6_sign_35 rfl (lv_at hl 3 rfl) ?_
    refine m_calls (As := [.int 0, .int lo, .int hi]) (rest := [.ref (q 0)]) hx hb hml hown hts hI (k_X6_in l 0 lo hi) (va_cwS 3 hts gX6_sign_X6_in rfl rfl rfl (by decide +kernel) ⟨Nat.le_of_ble_eq_true rfl, Nat.le_of_ble_eq_true rfl⟩) rfl hl (Nat.le_of_ble_eq_true rfl) ⟨Nat.zero_le _, Nat.zero_le _⟩ dX6_sign_36 rfl (fun r H locs h4 hI => ?_)
    rcases h4 with ⟨b3, rfl⟩ | ⟨b3, rfl⟩
    · skip
      refine lv_if_ne (tgt := 46) hx hb dX6_sign_39 (by decide) (fun _ => ?_) (fun c5 => absurd c5 (by decide))
      refine lv_iconst (v := 0) hx hb dX6_sign_46 (by decide) ?_
      refine m_put hx hb hts hin hown hK hA hI 12 (by decide) (hts (.fieldLink RX6 141 "WinderLaddersModel" "isWrong" "Z") (by decide +kernel)) (fun _ => by first | exact Or.inl rfl | exact Or.inr rfl) dX6_sign_47 (fun H locs hI => ?_)
      refine lv_aload_n hx hb dX6_sign_50 rfl (lv_at hl 1 rfl) ?_
      refine lv_dup hx hb dX6_sign_51 rfl ?_
      refine m_get hx hb hts hin hown hK hI 11 (by decide) (hts (.fieldLink RX6 138 "WinderLaddersModel" "place" "I") (by decide +kernel)) (v := .int (nI pp)) (congrArg (fun z => some (Value.int z)) ((mset_nk _ (by decide) _ _ _).trans (hp))) dX6_sign_52 ?_
      refine lv_aload_n hx hb dX6_sign_55 rfl (lv_at hl 1 rfl) ?_
      refine m_get hx hb hts hin hown hK hI 12 (by decide) (hts (.fieldLink RX6 141 "WinderLaddersModel" "isWrong" "Z") (by decide +kernel)) (v := .int 0) (congrArg (fun z => some (Value.int z)) (mset_eq _ _ _ _)) dX6_sign_56 ?_
      refine lv_if_eq (tgt := 66) hx hb dX6_sign_59 (by decide) (fun _ => ?_) (fun c6 => absurd (by decide) c6)
      refine lv_iconst (v := 1) hx hb dX6_sign_66 (by decide) ?_
      refine lv_iadd hx hb dX6_sign_67 ?_
      refine lv_re (y := nI (pp + 1)) (nI_add (pp) (1)) ?_
      refine m_put hx hb hts hin hown hK hA hI 11 (by decide) (hts (.fieldLink RX6 138 "WinderLaddersModel" "place" "I") (by decide +kernel)) (fun h => absurd h (by decide)) dX6_sign_68 (fun H locs hI => ?_)
      refine lv_iload_n hx hb dX6_sign_71 rfl (lv_at hl 0 rfl) ?_
      exact m_iret (v := 0) hx hb hr hI (Or.inl ⟨by rw [ec]; exact b3, by rw [ec], by rw [mset_id (M := M) (k := 12) (j := 0) (x := 0) hw]⟩) dX6_sign_72 hlocks
    · skip
      refine lv_if_ne (tgt := 46) hx hb dX6_sign_39 (by decide) (fun c7 => absurd (by decide) c7) (fun _ => ?_)
      refine lv_iconst (v := 1) hx hb dX6_sign_42 (by decide) ?_
      refine lv_goto (tgt := 47) hx hb dX6_sign_43 (by decide) ?_
      refine m_put hx hb hts hin hown hK hA hI 12 (by decide) (hts (.fieldLink RX6 141 "WinderLaddersModel" "isWrong" "Z") (by decide +kernel)) (fun _ => by first | exact Or.inl rfl | exact Or.inr rfl) dX6_sign_47 (fun H locs hI => ?_)
      refine lv_aload_n hx hb dX6_sign_50 rfl (lv_at hl 1 rfl) ?_
      refine lv_dup hx hb dX6_sign_51 rfl ?_
      refine m_get hx hb hts hin hown hK hI 11 (by decide) (hts (.fieldLink RX6 138 "WinderLaddersModel" "place" "I") (by decide +kernel)) (v := .int (nI pp)) (congrArg (fun z => some (Value.int z)) ((mset_nk _ (by decide) _ _ _).trans (hp))) dX6_sign_52 ?_
      refine lv_aload_n hx hb dX6_sign_55 rfl (lv_at hl 1 rfl) ?_
      refine m_get hx hb hts hin hown hK hI 12 (by decide) (hts (.fieldLink RX6 141 "WinderLaddersModel" "isWrong" "Z") (by decide +kernel)) (v := .int 1) (congrArg (fun z => some (Value.int z)) (mset_eq _ _ _ _)) dX6_sign_56 ?_
      refine lv_if_eq (tgt := 66) hx hb dX6_sign_59 (by decide) (fun c8 => absurd c8 (by decide)) (fun _ => ?_)
      refine lv_iconst (v := 0) hx hb dX6_sign_62 (by decide) ?_
      refine lv_goto (tgt := 67) hx hb dX6_sign_63 (by decide) ?_
      refine lv_iadd hx hb dX6_sign_67 ?_
      refine lv_re (y := nI (pp + 0)) (nI_add (pp) (0)) ?_
      refine m_put hx hb hts hin hown hK hA hI 11 (by decide) (hts (.fieldLink RX6 138 "WinderLaddersModel" "place" "I") (by decide +kernel)) (fun h => absurd h (by decide)) dX6_sign_68 (fun H locs hI => ?_)
      refine lv_iload_n hx hb dX6_sign_71 rfl (lv_at hl 0 rfl) ?_
      exact m_iret (v := 0) hx hb hr hI (Or.inr ⟨by rw [ec]; exact b3, mset_id (by rw [mset_nk _ (by decide)]; exact hp)⟩) dX6_sign_72 hlocks
  · skip
    have nc1 : ¬ (len ≤ pp) := fun h => c1 ((nI_leI (a := len) (b := pp) (by omega) (by omega)).mpr h)
    refine lv_aload_n hx hb dX6_sign_11 rfl (lv_at hl 0 rfl) ?_
    refine m_get hx hb hts hin hown hK hI 6 (by decide) (hts (.fieldLink RX6 26 "WinderLaddersModel" "pad" "[I") (by decide +kernel)) (v := .ref (q 6)) rfl dX6_sign_12 ?_
    refine lv_aload_n hx hb dX6_sign_15 rfl (lv_at hl 0 rfl) ?_
    refine m_get hx hb hts hin hown hK hI 11 (by decide) (hts (.fieldLink RX6 138 "WinderLaddersModel" "place" "I") (by decide +kernel)) (v := .int (nI pp)) (congrArg (fun z => some (Value.int z)) hp) dX6_sign_16 ?_
    refine m_ald hx hb hK hI 6 (by decide) (pp) (by show _ < 80; omega) rfl (v := M 6 pp) rfl dX6_sign_19 ?_
    refine lv_goto (tgt := 24) hx hb dX6_sign_20 (by decide) ?_
    have ec : chr (M 6) len pp = M 6 pp := chr_in (by omega)
    refine lv_istore_n (lv' := [(3, .int (M 6 pp)), (0, .ref (q 0)), (1, .int lo), (2, .int hi)]) hx hb dX6_sign_24 rfl hl (by decide) rfl (fun ls hl => ?_)
    refine lv_aload_n hx hb dX6_sign_25 rfl (lv_at hl 1 rfl) ?_
    refine lv_aload_n hx hb dX6_sign_26 rfl (lv_at hl 1 rfl) ?_
    refine m_get hx hb hts hin hown hK hI 12 (by decide) (hts (.fieldLink RX6 141 "WinderLaddersModel" "isWrong" "Z") (by decide +kernel)) (v := .int 0) (congrArg (fun z => some (Value.int z)) hw) dX6_sign_27 ?_
    refine lv_if_ne (tgt := 42) hx hb dX6_sign_30 (by decide) (fun c9 => absurd (by decide) c9) (fun _ => ?_)
    refine lv_iload_n hx hb dX6_sign_33 rfl (lv_at hl 0 rfl) ?_
    refine lv_iload_n hx hb dX6_sign_34 rfl (lv_at hl 2 rfl) ?_
    refine lv_iload_n hx hb dX6_sign_35 rfl (lv_at hl 3 rfl) ?_
    refine m_calls (As := [.int (M 6 pp), .int lo, .int hi]) (rest := [.ref (q 0)]) hx hb hml hown hts hI (k_X6_in l (M 6 pp) lo hi) (va_cwS 3 hts gX6_sign_X6_in rfl rfl rfl (by decide +kernel) ⟨Nat.le_of_ble_eq_true rfl, Nat.le_of_ble_eq_true rfl⟩) rfl hl (Nat.le_of_ble_eq_true rfl) ⟨Nat.zero_le _, Nat.zero_le _⟩ dX6_sign_36 rfl (fun r H locs h11 hI => ?_)
    rcases h11 with ⟨b10, rfl⟩ | ⟨b10, rfl⟩
    · skip
      refine lv_if_ne (tgt := 46) hx hb dX6_sign_39 (by decide) (fun _ => ?_) (fun c12 => absurd c12 (by decide))
      refine lv_iconst (v := 0) hx hb dX6_sign_46 (by decide) ?_
      refine m_put hx hb hts hin hown hK hA hI 12 (by decide) (hts (.fieldLink RX6 141 "WinderLaddersModel" "isWrong" "Z") (by decide +kernel)) (fun _ => by first | exact Or.inl rfl | exact Or.inr rfl) dX6_sign_47 (fun H locs hI => ?_)
      refine lv_aload_n hx hb dX6_sign_50 rfl (lv_at hl 1 rfl) ?_
      refine lv_dup hx hb dX6_sign_51 rfl ?_
      refine m_get hx hb hts hin hown hK hI 11 (by decide) (hts (.fieldLink RX6 138 "WinderLaddersModel" "place" "I") (by decide +kernel)) (v := .int (nI pp)) (congrArg (fun z => some (Value.int z)) ((mset_nk _ (by decide) _ _ _).trans (hp))) dX6_sign_52 ?_
      refine lv_aload_n hx hb dX6_sign_55 rfl (lv_at hl 1 rfl) ?_
      refine m_get hx hb hts hin hown hK hI 12 (by decide) (hts (.fieldLink RX6 141 "WinderLaddersModel" "isWrong" "Z") (by decide +kernel)) (v := .int 0) (congrArg (fun z => some (Value.int z)) (mset_eq _ _ _ _)) dX6_sign_56 ?_
      refine lv_if_eq (tgt := 66) hx hb dX6_sign_59 (by decide) (fun _ => ?_) (fun c13 => absurd (by decide) c13)
      refine lv_iconst (v := 1) hx hb dX6_sign_66 (by decide) ?_
      refine lv_iadd hx hb dX6_sign_67 ?_
      refine lv_re (y := nI (pp + 1)) (nI_add (pp) (1)) ?_
      refine m_put hx hb hts hin hown hK hA hI 11 (by decide) (hts (.fieldLink RX6 138 "WinderLaddersModel" "place" "I") (by decide +kernel)) (fun h => absurd h (by decide)) dX6_sign_68 (fun H locs hI => ?_)
      refine lv_iload_n hx hb dX6_sign_71 rfl (lv_at hl 0 rfl) ?_
      exact m_iret (v := M 6 pp) hx hb hr hI (Or.inl ⟨by rw [ec]; exact b10, by rw [ec], by rw [mset_id (M := M) (k := 12) (j := 0) (x := 0) hw]⟩) dX6_sign_72 hlocks
    · skip
      refine lv_if_ne (tgt := 46) hx hb dX6_sign_39 (by decide) (fun c14 => absurd (by decide) c14) (fun _ => ?_)
      refine lv_iconst (v := 1) hx hb dX6_sign_42 (by decide) ?_
      refine lv_goto (tgt := 47) hx hb dX6_sign_43 (by decide) ?_
      refine m_put hx hb hts hin hown hK hA hI 12 (by decide) (hts (.fieldLink RX6 141 "WinderLaddersModel" "isWrong" "Z") (by decide +kernel)) (fun _ => by first | exact Or.inl rfl | exact Or.inr rfl) dX6_sign_47 (fun H locs hI => ?_)
      refine lv_aload_n hx hb dX6_sign_50 rfl (lv_at hl 1 rfl) ?_
      refine lv_dup hx hb dX6_sign_51 rfl ?_
      refine m_get hx hb hts hin hown hK hI 11 (by decide) (hts (.fieldLink RX6 138 "WinderLaddersModel" "place" "I") (by decide +kernel)) (v := .int (nI pp)) (congrArg (fun z => some (Value.int z)) ((mset_nk _ (by decide) _ _ _).trans (hp))) dX6_sign_52 ?_
      refine lv_aload_n hx hb dX6_sign_55 rfl (lv_at hl 1 rfl) ?_
      refine m_get hx hb hts hin hown hK hI 12 (by decide) (hts (.fieldLink RX6 141 "WinderLaddersModel" "isWrong" "Z") (by decide +kernel)) (v := .int 1) (congrArg (fun z => some (Value.int z)) (mset_eq _ _ _ _)) dX6_sign_56 ?_
      refine lv_if_eq (tgt := 66) hx hb dX6_sign_59 (by decide) (fun c15 => absurd c15 (by decide)) (fun _ => ?_)
      refine lv_iconst (v := 0) hx hb dX6_sign_62 (by decide) ?_
      refine lv_goto (tgt := 67) hx hb dX6_sign_63 (by decide) ?_
      refine lv_iadd hx hb dX6_sign_67 ?_
      refine lv_re (y := nI (pp + 0)) (nI_add (pp) (0)) ?_
      refine m_put hx hb hts hin hown hK hA hI 11 (by decide) (hts (.fieldLink RX6 138 "WinderLaddersModel" "place" "I") (by decide +kernel)) (fun h => absurd h (by decide)) dX6_sign_68 (fun H locs hI => ?_)
      refine lv_iload_n hx hb dX6_sign_71 rfl (lv_at hl 0 rfl) ?_
      exact m_iret (v := M 6 pp) hx hb hr hI (Or.inr ⟨by rw [ec]; exact b10, mset_id (by rw [mset_nk _ (by decide)]; exact hp)⟩) dX6_sign_72 hlocks

set_option maxHeartbeats 4000000 in
set_option maxRecDepth 100000 in
theorem k_X6_sign1 (l : Launch) (dd : va_G) (g : Nat → ClassId) (q : Nat → Nat) (A : Nat → Prop) (hA : mA A q) (M : MS) (lo hi : Int32) (pp len : Nat) (hp : M 11 0 = nI pp) (hlen : M 7 0 = nI len) (hl80 : len ≤ 80) (hpl : pp ≤ len) (hw : M 12 0 = 1) : Met l yX6_sign wsX6_sign ({ frames := 1, cells := 0, slots := 0, locals := 22 }) (mPre dd g q M [.ref (q 0), .int lo, .int hi]) (mQi dd g q A (fun r M' => M' = M)) 0 0 A := by
  refine Met.ofW (cc := cX6_sign) (maxL := 4) (ret := (some .int)) (by decide) rfl ?_
  intro p e s m args below meth c s₁ B hml hv
  obtain ⟨rfl, hP0, hK⟩ := hv
  have hx := B.exec
  have hb := B.bytes
  have hr := B.returns
  have hts := atoms_spec (ws := wsX6_sign) B.pre
  have hown : s.vm.findClass RX6 = some m.cls := findClass_of_methodNamed B.named
  have hlocks := B.notSynchronized
  have hin : ∀ w ∈ wsX60, w ∈ wsX6_sign := by decide +kernel
  have hI : mI dd g q A s.heap s.heap [] M := ⟨hP0, va_S.rf⟩
  have hl := lv_entry ([.ref (q 0), .int lo, .int hi]) (n := 4) (Nat.le_of_ble_eq_true rfl)
  rw [lg_entry_eq]
  generalize (lg_sl ([.ref (q 0), .int lo, .int hi]) ++ List.replicate (4 - (lg_sl ([.ref (q 0), .int lo, .int hi])).length) Slot.unset).toArray = ls at hl ⊢
  have hl : lv_has ls 4 [(0, .ref (q 0)), (1, .int lo), (2, .int hi)] := hl
  refine lv_aload_n hx hb dX6_sign_0 rfl (lv_at hl 0 rfl) ?_
  refine m_get hx hb hts hin hown hK hI 11 (by decide) (hts (.fieldLink RX6 138 "WinderLaddersModel" "place" "I") (by decide +kernel)) (v := .int (nI pp)) (congrArg (fun z => some (Value.int z)) hp) dX6_sign_1 ?_
  refine lv_aload_n hx hb dX6_sign_4 rfl (lv_at hl 0 rfl) ?_
  refine m_get hx hb hts hin hown hK hI 7 (by decide) (hts (.fieldLink RX6 127 "WinderLaddersModel" "length" "I") (by decide +kernel)) (v := .int (nI len)) (congrArg (fun z => some (Value.int z)) hlen) dX6_sign_5 ?_
  refine lv_icmp_ge (tgt := 23) hx hb dX6_sign_8 (by decide) (fun c1 => ?_) (fun c1 => ?_)
  · skip
    have nc1 : len ≤ pp := (nI_leI (a := len) (b := pp) (by omega) (by omega)).mp c1
    refine lv_iconst (v := 0) hx hb dX6_sign_23 (by decide) ?_
    refine lv_istore_n (lv' := [(3, .int 0), (0, .ref (q 0)), (1, .int lo), (2, .int hi)]) hx hb dX6_sign_24 rfl hl (by decide) rfl (fun ls hl => ?_)
    refine lv_aload_n hx hb dX6_sign_25 rfl (lv_at hl 1 rfl) ?_
    refine lv_aload_n hx hb dX6_sign_26 rfl (lv_at hl 1 rfl) ?_
    refine m_get hx hb hts hin hown hK hI 12 (by decide) (hts (.fieldLink RX6 141 "WinderLaddersModel" "isWrong" "Z") (by decide +kernel)) (v := .int 1) (congrArg (fun z => some (Value.int z)) hw) dX6_sign_27 ?_
    refine lv_if_ne (tgt := 42) hx hb dX6_sign_30 (by decide) (fun _ => ?_) (fun c2 => absurd c2 (by decide))
    refine lv_iconst (v := 1) hx hb dX6_sign_42 (by decide) ?_
    refine lv_goto (tgt := 47) hx hb dX6_sign_43 (by decide) ?_
    refine m_put hx hb hts hin hown hK hA hI 12 (by decide) (hts (.fieldLink RX6 141 "WinderLaddersModel" "isWrong" "Z") (by decide +kernel)) (fun _ => by first | exact Or.inl rfl | exact Or.inr rfl) dX6_sign_47 (fun H locs hI => ?_)
    refine lv_aload_n hx hb dX6_sign_50 rfl (lv_at hl 1 rfl) ?_
    refine lv_dup hx hb dX6_sign_51 rfl ?_
    refine m_get hx hb hts hin hown hK hI 11 (by decide) (hts (.fieldLink RX6 138 "WinderLaddersModel" "place" "I") (by decide +kernel)) (v := .int (nI pp)) (congrArg (fun z => some (Value.int z)) ((mset_nk _ (by decide) _ _ _).trans (hp))) dX6_sign_52 ?_
    refine lv_aload_n hx hb dX6_sign_55 rfl (lv_at hl 1 rfl) ?_
    refine m_get hx hb hts hin hown hK hI 12 (by decide) (hts (.fieldLink RX6 141 "WinderLaddersModel" "isWrong" "Z") (by decide +kernel)) (v := .int 1) (congrArg (fun z => some (Value.int z)) (mset_eq _ _ _ _)) dX6_sign_56 ?_
    refine lv_if_eq (tgt := 66) hx hb dX6_sign_59 (by decide) (fun c3 => absurd c3 (by decide)) (fun _ => ?_)
    refine lv_iconst (v := 0) hx hb dX6_sign_62 (by decide) ?_
    refine lv_goto (tgt := 67) hx hb dX6_sign_63 (by decide) ?_
    refine lv_iadd hx hb dX6_sign_67 ?_
    refine lv_re (y := nI (pp + 0)) (nI_add (pp) (0)) ?_
    refine m_put hx hb hts hin hown hK hA hI 11 (by decide) (hts (.fieldLink RX6 138 "WinderLaddersModel" "place" "I") (by decide +kernel)) (fun h => absurd h (by decide)) dX6_sign_68 (fun H locs hI => ?_)
    refine lv_iload_n hx hb dX6_sign_71 rfl (lv_at hl 0 rfl) ?_
    exact m_iret (v := 0) hx hb hr hI (by rw [mset_id (M := M) (k := 12) (j := 0) (x := 1) hw]; exact mset_id hp) dX6_sign_72 hlocks
  · skip
    have nc1 : ¬ (len ≤ pp) := fun h => c1 ((nI_leI (a := len) (b := pp) (by omega) (by omega)).mpr h)
    refine lv_aload_n hx hb dX6_sign_11 rfl (lv_at hl 0 rfl) ?_
    refine m_get hx hb hts hin hown hK hI 6 (by decide) (hts (.fieldLink RX6 26 "WinderLaddersModel" "pad" "[I") (by decide +kernel)) (v := .ref (q 6)) rfl dX6_sign_12 ?_
    refine lv_aload_n hx hb dX6_sign_15 rfl (lv_at hl 0 rfl) ?_
    refine m_get hx hb hts hin hown hK hI 11 (by decide) (hts (.fieldLink RX6 138 "WinderLaddersModel" "place" "I") (by decide +kernel)) (v := .int (nI pp)) (congrArg (fun z => some (Value.int z)) hp) dX6_sign_16 ?_
    refine m_ald hx hb hK hI 6 (by decide) (pp) (by show _ < 80; omega) rfl (v := M 6 pp) rfl dX6_sign_19 ?_
    refine lv_goto (tgt := 24) hx hb dX6_sign_20 (by decide) ?_
    refine lv_istore_n (lv' := [(3, .int (M 6 pp)), (0, .ref (q 0)), (1, .int lo), (2, .int hi)]) hx hb dX6_sign_24 rfl hl (by decide) rfl (fun ls hl => ?_)
    refine lv_aload_n hx hb dX6_sign_25 rfl (lv_at hl 1 rfl) ?_
    refine lv_aload_n hx hb dX6_sign_26 rfl (lv_at hl 1 rfl) ?_
    refine m_get hx hb hts hin hown hK hI 12 (by decide) (hts (.fieldLink RX6 141 "WinderLaddersModel" "isWrong" "Z") (by decide +kernel)) (v := .int 1) (congrArg (fun z => some (Value.int z)) hw) dX6_sign_27 ?_
    refine lv_if_ne (tgt := 42) hx hb dX6_sign_30 (by decide) (fun _ => ?_) (fun c4 => absurd c4 (by decide))
    refine lv_iconst (v := 1) hx hb dX6_sign_42 (by decide) ?_
    refine lv_goto (tgt := 47) hx hb dX6_sign_43 (by decide) ?_
    refine m_put hx hb hts hin hown hK hA hI 12 (by decide) (hts (.fieldLink RX6 141 "WinderLaddersModel" "isWrong" "Z") (by decide +kernel)) (fun _ => by first | exact Or.inl rfl | exact Or.inr rfl) dX6_sign_47 (fun H locs hI => ?_)
    refine lv_aload_n hx hb dX6_sign_50 rfl (lv_at hl 1 rfl) ?_
    refine lv_dup hx hb dX6_sign_51 rfl ?_
    refine m_get hx hb hts hin hown hK hI 11 (by decide) (hts (.fieldLink RX6 138 "WinderLaddersModel" "place" "I") (by decide +kernel)) (v := .int (nI pp)) (congrArg (fun z => some (Value.int z)) ((mset_nk _ (by decide) _ _ _).trans (hp))) dX6_sign_52 ?_
    refine lv_aload_n hx hb dX6_sign_55 rfl (lv_at hl 1 rfl) ?_
    refine m_get hx hb hts hin hown hK hI 12 (by decide) (hts (.fieldLink RX6 141 "WinderLaddersModel" "isWrong" "Z") (by decide +kernel)) (v := .int 1) (congrArg (fun z => some (Value.int z)) (mset_eq _ _ _ _)) dX6_sign_56 ?_
    refine lv_if_eq (tgt := 66) hx hb dX6_sign_59 (by decide) (fun c5 => absurd c5 (by decide)) (fun _ => ?_)
    refine lv_iconst (v := 0) hx hb dX6_sign_62 (by decide) ?_
    refine lv_goto (tgt := 67) hx hb dX6_sign_63 (by decide) ?_
    refine lv_iadd hx hb dX6_sign_67 ?_
    refine lv_re (y := nI (pp + 0)) (nI_add (pp) (0)) ?_
    refine m_put hx hb hts hin hown hK hA hI 11 (by decide) (hts (.fieldLink RX6 138 "WinderLaddersModel" "place" "I") (by decide +kernel)) (fun h => absurd h (by decide)) dX6_sign_68 (fun H locs hI => ?_)
    refine lv_iload_n hx hb dX6_sign_71 rfl (lv_at hl 0 rfl) ?_
    exact m_iret (v := M 6 pp) hx hb hr hI (by rw [mset_id (M := M) (k := 12) (j := 0) (x := 1) hw]; exact mset_id hp) dX6_sign_72 hlocks

set_option maxHeartbeats 4000000 in
set_option maxRecDepth 100000 in
theorem k_X6_isNext0 (l : Launch) (dd : va_G) (g : Nat → ClassId) (q : Nat → Nat) (A : Nat → Prop) (hA : mA A q) (M : MS) (lo hi : Int32) (pp len : Nat) (hp : M 11 0 = nI pp) (hlen : M 7 0 = nI len) (hl80 : len ≤ 80) (hpl : pp ≤ len) (hw : M 12 0 = 0) : Met l yX6_isNext wsX6_isNext ({ frames := 1, cells := 0, slots := 0, locals := 22 }) (mPre dd g q M [.ref (q 0), .int lo, .int hi]) (mQi dd g q A (fun r M' => ((nxB (M 6) len pp lo hi = true ∧ r = 1) ∨ (nxB (M 6) len pp lo hi = false ∧ r = 0)) ∧ M' = M)) 0 0 A := by
  refine Met.ofW (cc := cX6_isNext) (maxL := 3) (ret := (some .boolean)) (by decide) rfl ?_
  intro p e s m args below meth c s₁ B hml hv
  obtain ⟨rfl, hP0, hK⟩ := hv
  have hx := B.exec
  have hb := B.bytes
  have hr := B.returns
  have hts := atoms_spec (ws := wsX6_isNext) B.pre
  have hown : s.vm.findClass RX6 = some m.cls := findClass_of_methodNamed B.named
  have hlocks := B.notSynchronized
  have hin : ∀ w ∈ wsX60, w ∈ wsX6_isNext := by decide +kernel
  have hI : mI dd g q A s.heap s.heap [] M := ⟨hP0, va_S.rf⟩
  have hl := lv_entry ([.ref (q 0), .int lo, .int hi]) (n := 3) (Nat.le_of_ble_eq_true rfl)
  rw [lg_entry_eq]
  generalize (lg_sl ([.ref (q 0), .int lo, .int hi]) ++ List.replicate (3 - (lg_sl ([.ref (q 0), .int lo, .int hi])).length) Slot.unset).toArray = ls at hl ⊢
  have hl : lv_has ls 3 [(0, .ref (q 0)), (1, .int lo), (2, .int hi)] := hl
  refine lv_aload_n hx hb dX6_isNext_0 rfl (lv_at hl 0 rfl) ?_
  refine m_get hx hb hts hin hown hK hI 12 (by decide) (hts (.fieldLink RX6 141 "WinderLaddersModel" "isWrong" "Z") (by decide +kernel)) (v := .int 0) (congrArg (fun z => some (Value.int z)) hw) dX6_isNext_1 ?_
  refine lv_if_ne (tgt := 39) hx hb dX6_isNext_4 (by decide) (fun c1 => absurd (by decide) c1) (fun _ => ?_)
  refine lv_aload_n hx hb dX6_isNext_7 rfl (lv_at hl 0 rfl) ?_
  refine m_get hx hb hts hin hown hK hI 11 (by decide) (hts (.fieldLink RX6 138 "WinderLaddersModel" "place" "I") (by decide +kernel)) (v := .int (nI pp)) (congrArg (fun z => some (Value.int z)) hp) dX6_isNext_8 ?_
  refine lv_aload_n hx hb dX6_isNext_11 rfl (lv_at hl 0 rfl) ?_
  refine m_get hx hb hts hin hown hK hI 7 (by decide) (hts (.fieldLink RX6 127 "WinderLaddersModel" "length" "I") (by decide +kernel)) (v := .int (nI len)) (congrArg (fun z => some (Value.int z)) hlen) dX6_isNext_12 ?_
  refine lv_icmp_ge (tgt := 39) hx hb dX6_isNext_15 (by decide) (fun c2 => ?_) (fun c2 => ?_)
  · skip
    have nc2 : len ≤ pp := (nI_leI (a := len) (b := pp) (by omega) (by omega)).mp c2
    refine lv_iconst (v := 0) hx hb dX6_isNext_39 (by decide) ?_
    exact m_zret (v := 0) hx hb hr (by first | rfl | decide) hI (⟨by simp [nxB, ← Nat.not_le, c2, nc2], rfl⟩) dX6_isNext_40 hlocks
  · skip
    have nc2 : ¬ (len ≤ pp) := fun h => c2 ((nI_leI (a := len) (b := pp) (by omega) (by omega)).mpr h)
    refine lv_aload_n hx hb dX6_isNext_18 rfl (lv_at hl 0 rfl) ?_
    refine m_get hx hb hts hin hown hK hI 6 (by decide) (hts (.fieldLink RX6 26 "WinderLaddersModel" "pad" "[I") (by decide +kernel)) (v := .ref (q 6)) rfl dX6_isNext_19 ?_
    refine lv_aload_n hx hb dX6_isNext_22 rfl (lv_at hl 0 rfl) ?_
    refine m_get hx hb hts hin hown hK hI 11 (by decide) (hts (.fieldLink RX6 138 "WinderLaddersModel" "place" "I") (by decide +kernel)) (v := .int (nI pp)) (congrArg (fun z => some (Value.int z)) hp) dX6_isNext_23 ?_
    refine m_ald hx hb hK hI 6 (by decide) (pp) (by show _ < 80; omega) rfl (v := M 6 pp) rfl dX6_isNext_26 ?_
    refine lv_iload_n hx hb dX6_isNext_27 rfl (lv_at hl 1 rfl) ?_
    refine lv_iload_n hx hb dX6_isNext_28 rfl (lv_at hl 2 rfl) ?_
    refine m_calls (As := [.int (M 6 pp), .int lo, .int hi]) (rest := []) hx hb hml hown hts hI (k_X6_in l (M 6 pp) lo hi) (va_cwS 3 hts gX6_isNext_X6_in rfl rfl rfl (by decide +kernel) ⟨Nat.le_of_ble_eq_true rfl, Nat.le_of_ble_eq_true rfl⟩) rfl hl (Nat.le_of_ble_eq_true rfl) ⟨Nat.zero_le _, Nat.zero_le _⟩ dX6_isNext_29 rfl (fun r H locs h4 hI => ?_)
    rcases h4 with ⟨b3, rfl⟩ | ⟨b3, rfl⟩
    · skip
      refine lv_if_eq (tgt := 39) hx hb dX6_isNext_32 (by decide) (fun c5 => absurd c5 (by decide)) (fun _ => ?_)
      refine lv_iconst (v := 1) hx hb dX6_isNext_35 (by decide) ?_
      refine lv_goto (tgt := 40) hx hb dX6_isNext_36 (by decide) ?_
      exact m_zret (v := 1) hx hb hr (by first | rfl | decide) hI (⟨by simp [nxB, ← Nat.not_le, c2, nc2, b3], rfl⟩) dX6_isNext_40 hlocks
    · skip
      refine lv_if_eq (tgt := 39) hx hb dX6_isNext_32 (by decide) (fun _ => ?_) (fun c6 => absurd (by decide) c6)
      refine lv_iconst (v := 0) hx hb dX6_isNext_39 (by decide) ?_
      exact m_zret (v := 0) hx hb hr (by first | rfl | decide) hI (⟨by simp [nxB, ← Nat.not_le, c2, nc2, b3], rfl⟩) dX6_isNext_40 hlocks

set_option maxHeartbeats 4000000 in
set_option maxRecDepth 100000 in
theorem k_X6_isNext1 (l : Launch) (dd : va_G) (g : Nat → ClassId) (q : Nat → Nat) (A : Nat → Prop) (hA : mA A q) (M : MS) (lo hi : Int32) (pp len : Nat) (hp : M 11 0 = nI pp) (hlen : M 7 0 = nI len) (hl80 : len ≤ 80) (hpl : pp ≤ len) (hw : M 12 0 = 1) : Met l yX6_isNext wsX6_isNext ({ frames := 1, cells := 0, slots := 0, locals := 22 }) (mPre dd g q M [.ref (q 0), .int lo, .int hi]) (mQi dd g q A (fun r M' => r = 0 ∧ M' = M)) 0 0 A := by
  refine Met.ofW (cc := cX6_isNext) (maxL := 3) (ret := (some .boolean)) (by decide) rfl ?_
  intro p e s m args below meth c s₁ B hml hv
  obtain ⟨rfl, hP0, hK⟩ := hv
  have hx := B.exec
  have hb := B.bytes
  have hr := B.returns
  have hts := atoms_spec (ws := wsX6_isNext) B.pre
  have hown : s.vm.findClass RX6 = some m.cls := findClass_of_methodNamed B.named
  have hlocks := B.notSynchronized
  have hin : ∀ w ∈ wsX60, w ∈ wsX6_isNext := by decide +kernel
  have hI : mI dd g q A s.heap s.heap [] M := ⟨hP0, va_S.rf⟩
  have hl := lv_entry ([.ref (q 0), .int lo, .int hi]) (n := 3) (Nat.le_of_ble_eq_true rfl)
  rw [lg_entry_eq]
  generalize (lg_sl ([.ref (q 0), .int lo, .int hi]) ++ List.replicate (3 - (lg_sl ([.ref (q 0), .int lo, .int hi])).length) Slot.unset).toArray = ls at hl ⊢
  have hl : lv_has ls 3 [(0, .ref (q 0)), (1, .int lo), (2, .int hi)] := hl
  refine lv_aload_n hx hb dX6_isNext_0 rfl (lv_at hl 0 rfl) ?_
  refine m_get hx hb hts hin hown hK hI 12 (by decide) (hts (.fieldLink RX6 141 "WinderLaddersModel" "isWrong" "Z") (by decide +kernel)) (v := .int 1) (congrArg (fun z => some (Value.int z)) hw) dX6_isNext_1 ?_
  refine lv_if_ne (tgt := 39) hx hb dX6_isNext_4 (by decide) (fun _ => ?_) (fun c1 => absurd c1 (by decide))
  refine lv_iconst (v := 0) hx hb dX6_isNext_39 (by decide) ?_
  exact m_zret (v := 0) hx hb hr (by first | rfl | decide) hI (⟨rfl, rfl⟩) dX6_isNext_40 hlocks

set_option maxHeartbeats 4000000 in
set_option maxRecDepth 100000 in
theorem k_X6_number1 (l : Launch) (dd : va_G) (g : Nat → ClassId) (q : Nat → Nat) (A : Nat → Prop) (hA : mA A q) (M : MS) (pp len : Nat) (hp : M 11 0 = nI pp) (hlen : M 7 0 = nI len) (hl80 : len ≤ 80) (hpl : pp ≤ len) (hw : M 12 0 = 1) : Met l yX6_number wsX6_number ({ frames := 2, cells := 0, slots := 0, locals := 45 }) (mPre dd g q M [.ref (q 0)]) (mQi dd g q A (fun r M' => M' = M)) 0 0 A := by
  refine Met.ofW (cc := cX6_number) (maxL := 2) (ret := (some .int)) (by decide) rfl ?_
  intro p e s m args below meth c s₁ B hml hv
  obtain ⟨rfl, hP0, hK⟩ := hv
  have hx := B.exec
  have hb := B.bytes
  have hr := B.returns
  have hts := atoms_spec (ws := wsX6_number) B.pre
  have hown : s.vm.findClass RX6 = some m.cls := findClass_of_methodNamed B.named
  have hlocks := B.notSynchronized
  have hI : mI dd g q A s.heap s.heap [] M := ⟨hP0, va_S.rf⟩
  have hl := lv_entry ([.ref (q 0)]) (n := 2) (Nat.le_of_ble_eq_true rfl)
  rw [lg_entry_eq]
  generalize (lg_sl ([.ref (q 0)]) ++ List.replicate (2 - (lg_sl ([.ref (q 0)])).length) Slot.unset).toArray = ls at hl ⊢
  have hl : lv_has ls 2 [(0, .ref (q 0))] := hl
  refine lv_aload_n hx hb dX6_number_0 rfl (lv_at hl 0 rfl) ?_
  refine lv_bipush (v := 48) hx hb dX6_number_1 (by decide) ?_
  refine lv_bipush (v := 57) hx hb dX6_number_3 (by decide) ?_
  refine m_calli (As := [.int 48, .int 57]) (rest := []) hx hb hml hown hts hK hI (k_X6_sign1 l dd g q A hA M 48 57 pp len hp hlen hl80 (by omega) hw) (cwV 2 hts gX6_number_X6_sign rfl rfl rfl (by decide +kernel) ⟨Nat.le_of_ble_eq_true rfl, Nat.le_of_ble_eq_true rfl⟩) rfl hl (Nat.le_of_ble_eq_true rfl) ⟨Nat.zero_le _, Nat.zero_le _⟩ dX6_number_5 rfl (fun rb1 M1 H locs h2 hI => ?_)
  rw [h2] at hI
  refine lv_bipush (v := 48) hx hb dX6_number_8 (by decide) ?_
  refine lv_isub hx hb dX6_number_10 ?_
  refine lv_istore_n (lv' := [(1, .int (rb1 - 48)), (0, .ref (q 0))]) hx hb dX6_number_11 rfl hl (by decide) rfl (fun ls hl => ?_)
  refine lv_iload_n hx hb dX6_number_12 rfl (lv_at hl 0 rfl) ?_
  refine lv_if_le (tgt := 46) hx hb dX6_number_13 (by decide) (fun c3 => ?_) (fun c3 => ?_)
  · skip
    refine lv_iload_n hx hb dX6_number_46 rfl (lv_at hl 0 rfl) ?_
    exact m_iret (v := rb1 - 48) hx hb hr hI (rfl) dX6_number_47 hlocks
  · skip
    refine lv_aload_n hx hb dX6_number_16 rfl (lv_at hl 1 rfl) ?_
    refine lv_bipush (v := 48) hx hb dX6_number_17 (by decide) ?_
    refine lv_bipush (v := 57) hx hb dX6_number_19 (by decide) ?_
    refine m_calli (As := [.int 48, .int 57]) (rest := []) hx hb hml hown hts hK hI (k_X6_isNext1 l dd g q A hA M 48 57 pp len hp hlen hl80 (by omega) hw) (cwV 2 hts gX6_number_X6_isNext rfl rfl rfl (by decide +kernel) ⟨Nat.le_of_ble_eq_true rfl, Nat.le_of_ble_eq_true rfl⟩) rfl hl (Nat.le_of_ble_eq_true rfl) ⟨Nat.zero_le _, Nat.zero_le _⟩ dX6_number_21 rfl (fun r M1 H locs h5 hI => ?_)
    obtain ⟨hr9, hm9⟩ := h5
    rw [hm9] at hI
    subst hr9
    refine lv_if_eq (tgt := 46) hx hb dX6_number_24 (by decide) (fun _ => ?_) (fun c6 => absurd (by decide) c6)
    refine lv_iload_n hx hb dX6_number_46 rfl (lv_at hl 0 rfl) ?_
    exact m_iret (v := rb1 - 48) hx hb hr hI (rfl) dX6_number_47 hlocks

set_option maxHeartbeats 4000000 in
set_option maxRecDepth 100000 in
theorem k_X6_number0 (l : Launch) (dd : va_G) (g : Nat → ClassId) (q : Nat → Nat) (A : Nat → Prop) (hA : mA A q) (M : MS) (pp len : Nat) (hp : M 11 0 = nI pp) (hlen : M 7 0 = nI len) (hl80 : len ≤ 80) (hpl : pp ≤ len) (hw : M 12 0 = 0) : Met l yX6_number wsX6_number ({ frames := 2, cells := 0, slots := 0, locals := 45 }) (mPre dd g q M [.ref (q 0)]) (mQi dd g q A (fun r M' => (∃ v p1, rN (M 6) len pp = some (v, p1) ∧ r = v ∧ M' = mset M 11 0 (nI p1)) ∨ (rN (M 6) len pp = none ∧ M' = mset M 12 0 1))) 0 0 A := by
  refine Met.ofW (cc := cX6_number) (maxL := 2) (ret := (some .int)) (by decide) rfl ?_
  intro p e s m args below meth c s₁ B hml hv
  obtain ⟨rfl, hP0, hK⟩ := hv
  have hx := B.exec
  have hb := B.bytes
  have hr := B.returns
  have hts := atoms_spec (ws := wsX6_number) B.pre
  have hown : s.vm.findClass RX6 = some m.cls := findClass_of_methodNamed B.named
  have hlocks := B.notSynchronized
  have hI : mI dd g q A s.heap s.heap [] M := ⟨hP0, va_S.rf⟩
  have hl := lv_entry ([.ref (q 0)]) (n := 2) (Nat.le_of_ble_eq_true rfl)
  rw [lg_entry_eq]
  generalize (lg_sl ([.ref (q 0)]) ++ List.replicate (2 - (lg_sl ([.ref (q 0)])).length) Slot.unset).toArray = ls at hl ⊢
  have hl : lv_has ls 2 [(0, .ref (q 0))] := hl
  refine lv_aload_n hx hb dX6_number_0 rfl (lv_at hl 0 rfl) ?_
  refine lv_bipush (v := 48) hx hb dX6_number_1 (by decide) ?_
  refine lv_bipush (v := 57) hx hb dX6_number_3 (by decide) ?_
  refine m_calli (As := [.int 48, .int 57]) (rest := []) hx hb hml hown hts hK hI (k_X6_sign0 l dd g q A hA M 48 57 pp len hp hlen hl80 (by omega) hw) (cwV 2 hts gX6_number_X6_sign rfl rfl rfl (by decide +kernel) ⟨Nat.le_of_ble_eq_true rfl, Nat.le_of_ble_eq_true rfl⟩) rfl hl (Nat.le_of_ble_eq_true rfl) ⟨Nat.zero_le _, Nat.zero_le _⟩ dX6_number_5 rfl (fun r M1 H locs h2 hI => ?_)
  rw [show M 6 = (M 6) from rfl] at h2
  rcases h2 with ⟨b1, hr9, hm9⟩ | ⟨b1, hm9⟩
  · skip
    subst hr9
    rw [hm9] at hI
    have lb1 := chr_pos b1 (by decide)
    refine lv_bipush (v := 48) hx hb dX6_number_8 (by decide) ?_
    refine lv_isub hx hb dX6_number_10 ?_
    refine lv_istore_n (lv' := [(1, .int ((chr (M 6) len pp) - 48)), (0, .ref (q 0))]) hx hb dX6_number_11 rfl hl (by decide) rfl (fun ls hl => ?_)
    refine lv_iload_n hx hb dX6_number_12 rfl (lv_at hl 0 rfl) ?_
    refine lv_if_le (tgt := 46) hx hb dX6_number_13 (by decide) (fun c3 => ?_) (fun c3 => ?_)
    · skip
      refine lv_iload_n hx hb dX6_number_46 rfl (lv_at hl 0 rfl) ?_
      exact m_iret (v := (chr (M 6) len pp) - 48) hx hb hr hI (Or.inl ⟨_, _, by simp only [rN, if_pos b1, if_pos c3]; rfl, rfl, by first | rfl | exact mset_mset _ _ _ _ _⟩) dX6_number_47 hlocks
    · skip
      refine lv_aload_n hx hb dX6_number_16 rfl (lv_at hl 1 rfl) ?_
      refine lv_bipush (v := 48) hx hb dX6_number_17 (by decide) ?_
      refine lv_bipush (v := 57) hx hb dX6_number_19 (by decide) ?_
      refine m_calli (As := [.int 48, .int 57]) (rest := []) hx hb hml hown hts hK hI (k_X6_isNext0 l dd g q A hA (mset M 11 (0) (nI (pp + 1))) 48 57 (pp + 1) len (mset_eq _ _ _ _) ((mset_nk _ (by decide) _ _ _).trans (hlen)) hl80 (by omega) ((mset_nk _ (by decide) _ _ _).trans (hw))) (cwV 2 hts gX6_number_X6_isNext rfl rfl rfl (by decide +kernel) ⟨Nat.le_of_ble_eq_true rfl, Nat.le_of_ble_eq_true rfl⟩) rfl hl (Nat.le_of_ble_eq_true rfl) ⟨Nat.zero_le _, Nat.zero_le _⟩ dX6_number_21 rfl (fun r M1 H locs h5 hI => ?_)
      rw [show (mset M 11 (0) (nI (pp + 1))) 6 = (M 6) from rfl] at h5
      obtain ⟨h5, hm9⟩ := h5
      rw [hm9] at hI
      rcases h5 with ⟨b4, rfl⟩ | ⟨b4, rfl⟩
      · skip
        have lb4 := (nxB_t.mp b4).1
        have kb4 := nxB_chr b4
        refine lv_if_eq (tgt := 46) hx hb dX6_number_24 (by decide) (fun c6 => absurd c6 (by decide)) (fun _ => ?_)
        refine lv_bipush (v := 10) hx hb dX6_number_27 (by decide) ?_
        refine lv_iload_n hx hb dX6_number_29 rfl (lv_at hl 0 rfl) ?_
        refine lv_imul hx hb dX6_number_30 ?_
        refine lv_aload_n hx hb dX6_number_31 rfl (lv_at hl 1 rfl) ?_
        refine lv_bipush (v := 48) hx hb dX6_number_32 (by decide) ?_
        refine lv_bipush (v := 57) hx hb dX6_number_34 (by decide) ?_
        refine m_calli (As := [.int 48, .int 57]) (rest := [.int (10 * ((chr (M 6) len pp) - 48))]) hx hb hml hown hts hK hI (k_X6_sign0 l dd g q A hA (mset M 11 (0) (nI (pp + 1))) 48 57 (pp + 1) len (mset_eq _ _ _ _) ((mset_nk _ (by decide) _ _ _).trans (hlen)) hl80 (by omega) ((mset_nk _ (by decide) _ _ _).trans (hw))) (cwV 2 hts gX6_number_X6_sign rfl rfl rfl (by decide +kernel) ⟨Nat.le_of_ble_eq_true rfl, Nat.le_of_ble_eq_true rfl⟩) rfl hl (Nat.le_of_ble_eq_true rfl) ⟨Nat.zero_le _, Nat.zero_le _⟩ dX6_number_36 rfl (fun r M1 H locs h8 hI => ?_)
        rw [show (mset M 11 (0) (nI (pp + 1))) 6 = (M 6) from rfl] at h8
        rcases h8 with ⟨b7, hr9, hm9⟩ | ⟨b7, hm9⟩
        · skip
          subst hr9
          rw [hm9] at hI
          have lb7 := chr_pos b7 (by decide)
          refine lv_iadd hx hb dX6_number_39 ?_
          refine lv_bipush (v := 48) hx hb dX6_number_40 (by decide) ?_
          refine lv_isub hx hb dX6_number_42 ?_
          refine lv_goto (tgt := 47) hx hb dX6_number_43 (by decide) ?_
          exact m_iret (v := ((10 * ((chr (M 6) len pp) - 48)) + (chr (M 6) len (pp + 1))) - 48) hx hb hr hI (Or.inl ⟨_, _, by simp only [rN, if_pos b1, if_neg c3, if_pos b4, if_pos b7]; rfl, rfl, by first | rfl | exact mset_mset _ _ _ _ _⟩) dX6_number_47 hlocks
        · skip
          rw [hm9] at hI
          exact Bool.noConfusion (kb4.symm.trans b7)
      · skip
        refine lv_if_eq (tgt := 46) hx hb dX6_number_24 (by decide) (fun _ => ?_) (fun c9 => absurd (by decide) c9)
        refine lv_iload_n hx hb dX6_number_46 rfl (lv_at hl 0 rfl) ?_
        exact m_iret (v := (chr (M 6) len pp) - 48) hx hb hr hI (Or.inl ⟨_, _, by simp only [rN, if_pos b1, if_neg c3, if_neg (Bool.eq_false_iff.mp b4)]; rfl, rfl, by first | rfl | exact mset_mset _ _ _ _ _⟩) dX6_number_47 hlocks
  · skip
    rw [hm9] at hI
    refine lv_bipush (v := 48) hx hb dX6_number_8 (by decide) ?_
    refine lv_isub hx hb dX6_number_10 ?_
    refine lv_istore_n (lv' := [(1, .int (r - 48)), (0, .ref (q 0))]) hx hb dX6_number_11 rfl hl (by decide) rfl (fun ls hl => ?_)
    refine lv_iload_n hx hb dX6_number_12 rfl (lv_at hl 0 rfl) ?_
    refine lv_if_le (tgt := 46) hx hb dX6_number_13 (by decide) (fun c10 => ?_) (fun c10 => ?_)
    · skip
      refine lv_iload_n hx hb dX6_number_46 rfl (lv_at hl 0 rfl) ?_
      exact m_iret (v := r - 48) hx hb hr hI (Or.inr ⟨by simp only [rN, if_neg (Bool.eq_false_iff.mp b1), if_pos c10], rfl⟩) dX6_number_47 hlocks
    · skip
      refine lv_aload_n hx hb dX6_number_16 rfl (lv_at hl 1 rfl) ?_
      refine lv_bipush (v := 48) hx hb dX6_number_17 (by decide) ?_
      refine lv_bipush (v := 57) hx hb dX6_number_19 (by decide) ?_
      refine m_calli (As := [.int 48, .int 57]) (rest := []) hx hb hml hown hts hK hI (k_X6_isNext1 l dd g q A hA (mset M 12 (0) (1)) 48 57 pp len ((mset_nk _ (by decide) _ _ _).trans (hp)) ((mset_nk _ (by decide) _ _ _).trans (hlen)) hl80 (by omega) (mset_eq _ _ _ _)) (cwV 2 hts gX6_number_X6_isNext rfl rfl rfl (by decide +kernel) ⟨Nat.le_of_ble_eq_true rfl, Nat.le_of_ble_eq_true rfl⟩) rfl hl (Nat.le_of_ble_eq_true rfl) ⟨Nat.zero_le _, Nat.zero_le _⟩ dX6_number_21 rfl (fun r M1 H locs h12 hI => ?_)
      obtain ⟨hr9, hm9⟩ := h12
      rw [hm9] at hI
      subst hr9
      refine lv_if_eq (tgt := 46) hx hb dX6_number_24 (by decide) (fun _ => ?_) (fun c13 => absurd (by decide) c13)
      refine lv_iload_n hx hb dX6_number_46 rfl (lv_at hl 0 rfl) ?_
      exact m_iret (v := r - 48) hx hb hr hI (Or.inr ⟨by simp only [rN, if_neg (Bool.eq_false_iff.mp b1), if_neg c10], rfl⟩) dX6_number_47 hlocks
