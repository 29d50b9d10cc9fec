set_option maxHeartbeats 4000000 in
set_option maxRecDepth 100000 in
theorem k_X6_order (l : Launch) (dd : va_G) (g : Nat → ClassId) (q : Nat → Nat) (A : Nat → Prop) (hA : mA A q) (M : MS) (pp len : Nat) (hp : M 11 0 = nI pp) (hlen : M 7 0 = nI len) (hl80 : len ≤ 80) (hpl : pp ≤ len) (hw : M 12 0 = 0) : Met l yX6_order wsX6_order ({ frames := 3, cells := 0, slots := 0, locals := 66 }) (mPre dd g q M [.ref (q 0)]) (mQv dd g q A (fun M' => ordP M M' len pp)) 0 0 A := by
  refine Met.ofW (cc := cX6_order) (maxL := 5) (ret := none) (by decide) rfl ?_
  intro p e s m args below meth c s₁ B hml hv
  obtain ⟨rfl, hP0, hK⟩ := hv
  have hx := B.exec
  have hb := B.bytes
  have hr := B.returns
  have hts := atoms_spec (ws := wsX6_order) B.pre
  have hown : s.vm.findClass RX6 = some m.cls := findClass_of_methodNamed B.named
  have hlocks := B.notSynchronized
  have hin : ∀ w ∈ wsX60, w ∈ wsX6_order := by decide +kernel
  have hI : mI dd g q A s.heap s.heap [] M := ⟨hP0, va_S.rf⟩
  have hl := lv_entry ([.ref (q 0)]) (n := 5) (Nat.le_of_ble_eq_true rfl)
  rw [lg_entry_eq]
  generalize (lg_sl ([.ref (q 0)]) ++ List.replicate (5 - (lg_sl ([.ref (q 0)])).length) Slot.unset).toArray = ls at hl ⊢
  have hl : lv_has ls 5 [(0, .ref (q 0))] := hl
  refine lv_aload_n hx hb dX6_order_0 rfl (lv_at hl 0 rfl) ?_
  refine m_get hx hb hts hin hown hK hI 11 (by decide) (hts (.fieldLink RX6 138 "WinderLaddersModel" "place" "I") (by decide +kernel)) (v := .int (nI pp)) (congrArg (fun z => some (Value.int z)) hp) dX6_order_1 ?_
  refine lv_aload_n hx hb dX6_order_4 rfl (lv_at hl 0 rfl) ?_
  refine m_get hx hb hts hin hown hK hI 7 (by decide) (hts (.fieldLink RX6 127 "WinderLaddersModel" "length" "I") (by decide +kernel)) (v := .int (nI len)) (congrArg (fun z => some (Value.int z)) hlen) dX6_order_5 ?_
  refine lv_icmp_ge (tgt := 23) hx hb dX6_order_8 (by decide) (fun c1 => ?_) (fun c1 => ?_)
  · skip
    have nc1 : len ≤ pp := (nI_leI (a := len) (b := pp) (by omega) (by omega)).mp c1
    refine lv_iconst (v := 0) hx hb dX6_order_23 (by decide) ?_
    have ec : chr (M 6) len pp = 0 := chr_out (by omega)
    refine lv_istore_n (lv' := [(1, .int 0), (0, .ref (q 0))]) hx hb dX6_order_24 rfl hl (by decide) rfl (fun ls hl => ?_)
    refine lv_iload_n hx hb dX6_order_25 rfl (lv_at hl 0 rfl) ?_
    refine lv_bipush (v := 115) hx hb dX6_order_26 (by decide) ?_
    refine lv_icmp_eq (tgt := 37) hx hb dX6_order_28 (by decide) (fun c2 => absurd c2 (by decide)) (fun _ => ?_)
    refine lv_iload_n hx hb dX6_order_31 rfl (lv_at hl 0 rfl) ?_
    refine lv_bipush (v := 97) hx hb dX6_order_32 (by decide) ?_
    refine lv_icmp_ne (tgt := 41) hx hb dX6_order_34 (by decide) (fun _ => ?_) (fun c3 => absurd c3 (by decide))
    refine lv_iconst (v := 0) hx hb dX6_order_41 (by decide) ?_
    refine lv_istore_n (lv' := [(2, .int 0), (1, .int 0), (0, .ref (q 0))]) hx hb dX6_order_42 rfl hl (by decide) rfl (fun ls hl => ?_)
    refine lv_aload_n hx hb dX6_order_43 rfl (lv_at hl 2 rfl) ?_
    refine lv_aload_n hx hb dX6_order_44 rfl (lv_at hl 2 rfl) ?_
    refine m_get hx hb hts hin hown hK hI 12 (by decide) (hts (.fieldLink RX6 141 "WinderLaddersModel" "isWrong" "Z") (by decide +kernel)) (v := .int 0) (congrArg (fun z => some (Value.int z)) hw) dX6_order_45 ?_
    refine lv_if_ne (tgt := 79) hx hb dX6_order_48 (by decide) (fun c4 => absurd (by decide) c4) (fun _ => ?_)
    refine lv_iload_n hx hb dX6_order_51 rfl (lv_at hl 0 rfl) ?_
    refine lv_if_ne (tgt := 83) hx hb dX6_order_52 (by decide) (fun c5 => absurd (by decide) c5) (fun _ => ?_)
    refine lv_iload_n hx hb dX6_order_55 rfl (lv_at hl 1 rfl) ?_
    refine lv_bipush (v := 43) hx hb dX6_order_56 (by decide) ?_
    refine lv_icmp_eq (tgt := 83) hx hb dX6_order_58 (by decide) (fun c6 => absurd c6 (by decide)) (fun _ => ?_)
    refine lv_iload_n hx hb dX6_order_61 rfl (lv_at hl 1 rfl) ?_
    refine lv_bipush (v := 108) hx hb dX6_order_62 (by decide) ?_
    refine lv_icmp_eq (tgt := 83) hx hb dX6_order_64 (by decide) (fun c7 => absurd c7 (by decide)) (fun _ => ?_)
    refine lv_iload_n hx hb dX6_order_67 rfl (lv_at hl 1 rfl) ?_
    refine lv_bipush (v := 98) hx hb dX6_order_68 (by decide) ?_
    refine lv_icmp_eq (tgt := 83) hx hb dX6_order_70 (by decide) (fun c8 => absurd c8 (by decide)) (fun _ => ?_)
    refine lv_iload_n hx hb dX6_order_73 rfl (lv_at hl 1 rfl) ?_
    refine lv_bipush (v := 116) hx hb dX6_order_74 (by decide) ?_
    refine lv_icmp_eq (tgt := 83) hx hb dX6_order_76 (by decide) (fun c9 => absurd c9 (by decide)) (fun _ => ?_)
    refine lv_iconst (v := 1) hx hb dX6_order_79 (by decide) ?_
    refine lv_goto (tgt := 84) hx hb dX6_order_80 (by decide) ?_
    refine m_put hx hb hts hin hown hK hA hI 12 (by decide) (hts (.fieldLink RX6 141 "WinderLaddersModel" "isWrong" "Z") (by decide +kernel)) (fun _ => by first | exact Or.inl rfl | exact Or.inr rfl) dX6_order_84 (fun H locs hI => ?_)
    refine lv_aload_n hx hb dX6_order_87 rfl (lv_at hl 2 rfl) ?_
    refine lv_dup hx hb dX6_order_88 rfl ?_
    refine m_get hx hb hts hin hown hK hI 11 (by decide) (hts (.fieldLink RX6 138 "WinderLaddersModel" "place" "I") (by decide +kernel)) (v := .int (nI pp)) (congrArg (fun z => some (Value.int z)) ((mset_nk _ (by decide) _ _ _).trans (hp))) dX6_order_89 ?_
    refine lv_aload_n hx hb dX6_order_92 rfl (lv_at hl 2 rfl) ?_
    refine m_get hx hb hts hin hown hK hI 12 (by decide) (hts (.fieldLink RX6 141 "WinderLaddersModel" "isWrong" "Z") (by decide +kernel)) (v := .int 1) (congrArg (fun z => some (Value.int z)) (mset_eq _ _ _ _)) dX6_order_93 ?_
    refine lv_if_eq (tgt := 103) hx hb dX6_order_96 (by decide) (fun c10 => absurd c10 (by decide)) (fun _ => ?_)
    refine lv_iconst (v := 0) hx hb dX6_order_99 (by decide) ?_
    refine lv_goto (tgt := 104) hx hb dX6_order_100 (by decide) ?_
    refine lv_iadd hx hb dX6_order_104 ?_
    refine lv_re (y := nI (pp + 0)) (nI_add (pp) (0)) ?_
    refine m_put hx hb hts hin hown hK hA hI 11 (by decide) (hts (.fieldLink RX6 138 "WinderLaddersModel" "place" "I") (by decide +kernel)) (fun h => absurd h (by decide)) dX6_order_105 (fun H locs hI => ?_)
    refine lv_aload_n hx hb dX6_order_108 rfl (lv_at hl 2 rfl) ?_
    refine lv_iload_n hx hb dX6_order_109 rfl (lv_at hl 1 rfl) ?_
    refine m_put hx hb hts hin hown hK hA hI 13 (by decide) (hts (.fieldLink RX6 152 "WinderLaddersModel" "letter" "I") (by decide +kernel)) (fun h => absurd h (by decide)) dX6_order_110 (fun H locs hI => ?_)
    refine lv_aload_n hx hb dX6_order_113 rfl (lv_at hl 2 rfl) ?_
    refine lv_iload_n hx hb dX6_order_114 rfl (lv_at hl 0 rfl) ?_
    refine lv_if_eq (tgt := 122) hx hb dX6_order_115 (by decide) (fun _ => ?_) (fun c11 => absurd (by decide) c11)
    refine lv_aload_n hx hb dX6_order_122 rfl (lv_at hl 2 rfl) ?_
    refine m_calli (As := []) (rest := [.ref (q 0)]) hx hb hml hown hts hK hI (k_X6_number1 l dd g q A hA (mset (mset (mset M 12 (0) (1)) 11 (0) (nI (pp + 0))) 13 (0) (0)) (pp + 0) len ((mset_nk _ (by decide) _ _ _).trans (mset_eq _ _ _ _)) ((mset_nk _ (by decide) _ _ _).trans ((mset_nk _ (by decide) _ _ _).trans ((mset_nk _ (by decide) _ _ _).trans (hlen)))) hl80 (by omega) ((mset_nk _ (by decide) _ _ _).trans ((mset_nk _ (by decide) _ _ _).trans (mset_eq _ _ _ _)))) (cwV 0 hts gX6_order_X6_number rfl rfl rfl (by decide +kernel) ⟨Nat.le_of_ble_eq_true rfl, Nat.le_of_ble_eq_true rfl⟩) rfl hl (Nat.le_of_ble_eq_true rfl) ⟨Nat.zero_le _, Nat.zero_le _⟩ dX6_order_123 rfl (fun rb12 M1 H locs h13 hI => ?_)
    rw [h13] at hI
    refine m_put hx hb hts hin hown hK hA hI 14 (by decide) (hts (.fieldLink RX6 158 "WinderLaddersModel" "one" "I") (by decide +kernel)) (fun h => absurd h (by decide)) dX6_order_126 (fun H locs hI => ?_)
    refine lv_iload_n hx hb dX6_order_129 rfl (lv_at hl 1 rfl) ?_
    refine lv_bipush (v := 43) hx hb dX6_order_130 (by decide) ?_
    refine lv_icmp_ne (tgt := 210) hx hb dX6_order_132 (by decide) (fun _ => ?_) (fun c14 => absurd c14 (by decide))
    refine lv_aload_n hx hb dX6_order_210 rfl (lv_at hl 2 rfl) ?_
    refine m_get hx hb hts hin hown hK hI 8 (by decide) (hts (.fieldLink RX6 29 "WinderLaddersModel" "row" "[I") (by decide +kernel)) (v := .ref (q 7)) rfl dX6_order_211 ?_
    refine lv_iconst (v := 0) hx hb dX6_order_214 (by decide) ?_
    refine lv_aload_n hx hb dX6_order_215 rfl (lv_at hl 2 rfl) ?_
    refine m_get hx hb hts hin hown hK hI 14 (by decide) (hts (.fieldLink RX6 158 "WinderLaddersModel" "one" "I") (by decide +kernel)) (v := .int rb12) (congrArg (fun z => some (Value.int z)) (mset_eq _ _ _ _)) dX6_order_216 ?_
    refine m_ast hx hb hK hA hI 8 (by decide) (0) (by show _ < 80; omega) rfl dX6_order_219 (fun H locs hI => ?_)
    refine lv_aload_n hx hb dX6_order_220 rfl (lv_at hl 2 rfl) ?_
    refine lv_iconst (v := 1) hx hb dX6_order_221 (by decide) ?_
    refine m_put hx hb hts hin hown hK hA hI 9 (by decide) (hts (.fieldLink RX6 58 "WinderLaddersModel" "inRow" "I") (by decide +kernel)) (fun h => absurd h (by decide)) dX6_order_222 (fun H locs hI => ?_)
    refine lv_iload_n hx hb dX6_order_225 rfl (lv_at hl 1 rfl) ?_
    refine lv_bipush (v := 98) hx hb dX6_order_226 (by decide) ?_
    refine lv_icmp_ne (tgt := 277) hx hb dX6_order_228 (by decide) (fun _ => ?_) (fun c15 => absurd c15 (by decide))
    exact m_vret hx hb hr hI (ordP_no (pl := pp + 0) (by simp [rO, rP, ec, c1, nc1]) (by simp [mset]) (by simp [mset, hp]) (((((((Pk.rf M).set (by decide) _ _).set (by decide) _ _).set (by decide) _ _).set (by decide) _ _).set (by decide) _ _).set (by decide) _ _)) dX6_order_277 hlocks
  · skip
    have nc1 : ¬ (len ≤ pp) := fun h => c1 ((nI_leI (a := len) (b := pp) (by omega) (by omega)).mpr h)
    refine lv_aload_n hx hb dX6_order_11 rfl (lv_at hl 0 rfl) ?_
    refine m_get hx hb hts hin hown hK hI 6 (by decide) (hts (.fieldLink RX6 26 "WinderLaddersModel" "pad" "[I") (by decide +kernel)) (v := .ref (q 6)) rfl dX6_order_12 ?_
    refine lv_aload_n hx hb dX6_order_15 rfl (lv_at hl 0 rfl) ?_
    refine m_get hx hb hts hin hown hK hI 11 (by decide) (hts (.fieldLink RX6 138 "WinderLaddersModel" "place" "I") (by decide +kernel)) (v := .int (nI pp)) (congrArg (fun z => some (Value.int z)) hp) dX6_order_16 ?_
    refine m_ald hx hb hK hI 6 (by decide) (pp) (by show _ < 80; omega) rfl (v := M 6 pp) rfl dX6_order_19 ?_
    refine lv_goto (tgt := 24) hx hb dX6_order_20 (by decide) ?_
    obtain ⟨cv, hcv⟩ : ∃ z, z = M 6 pp := ⟨_, rfl⟩
    refine lv_re (y := cv) hcv.symm ?_
    have ec : chr (M 6) len pp = cv := by rw [hcv]; exact chr_in (by omega)
    refine lv_istore_n (lv' := [(1, .int cv), (0, .ref (q 0))]) hx hb dX6_order_24 rfl hl (by decide) rfl (fun ls hl => ?_)
    refine lv_iload_n hx hb dX6_order_25 rfl (lv_at hl 0 rfl) ?_
    refine lv_bipush (v := 115) hx hb dX6_order_26 (by decide) ?_
    refine lv_icmp_eq (tgt := 37) hx hb dX6_order_28 (by decide) (fun c16 => ?_) (fun c16 => ?_)
    · skip
      subst c16
      refine lv_iconst (v := 1) hx hb dX6_order_37 (by decide) ?_
      refine lv_goto (tgt := 42) hx hb dX6_order_38 (by decide) ?_
      refine lv_istore_n (lv' := [(2, .int 1), (1, .int 115), (0, .ref (q 0))]) hx hb dX6_order_42 rfl hl (by decide) rfl (fun ls hl => ?_)
      refine lv_aload_n hx hb dX6_order_43 rfl (lv_at hl 2 rfl) ?_
      refine lv_aload_n hx hb dX6_order_44 rfl (lv_at hl 2 rfl) ?_
      refine m_get hx hb hts hin hown hK hI 12 (by decide) (hts (.fieldLink RX6 141 "WinderLaddersModel" "isWrong" "Z") (by decide +kernel)) (v := .int 0) (congrArg (fun z => some (Value.int z)) hw) dX6_order_45 ?_
      refine lv_if_ne (tgt := 79) hx hb dX6_order_48 (by decide) (fun c17 => absurd (by decide) c17) (fun _ => ?_)
      refine lv_iload_n hx hb dX6_order_51 rfl (lv_at hl 0 rfl) ?_
      refine lv_if_ne (tgt := 83) hx hb dX6_order_52 (by decide) (fun _ => ?_) (fun c18 => absurd c18 (by decide))
      refine lv_iconst (v := 0) hx hb dX6_order_83 (by decide) ?_
      refine m_put hx hb hts hin hown hK hA hI 12 (by decide) (hts (.fieldLink RX6 141 "WinderLaddersModel" "isWrong" "Z") (by decide +kernel)) (fun _ => by first | exact Or.inl rfl | exact Or.inr rfl) dX6_order_84 (fun H locs hI => ?_)
      refine lv_aload_n hx hb dX6_order_87 rfl (lv_at hl 2 rfl) ?_
      refine lv_dup hx hb dX6_order_88 rfl ?_
      refine m_get hx hb hts hin hown hK hI 11 (by decide) (hts (.fieldLink RX6 138 "WinderLaddersModel" "place" "I") (by decide +kernel)) (v := .int (nI pp)) (congrArg (fun z => some (Value.int z)) ((mset_nk _ (by decide) _ _ _).trans (hp))) dX6_order_89 ?_
      refine lv_aload_n hx hb dX6_order_92 rfl (lv_at hl 2 rfl) ?_
      refine m_get hx hb hts hin hown hK hI 12 (by decide) (hts (.fieldLink RX6 141 "WinderLaddersModel" "isWrong" "Z") (by decide +kernel)) (v := .int 0) (congrArg (fun z => some (Value.int z)) (mset_eq _ _ _ _)) dX6_order_93 ?_
      refine lv_if_eq (tgt := 103) hx hb dX6_order_96 (by decide) (fun _ => ?_) (fun c19 => absurd (by decide) c19)
      refine lv_iconst (v := 1) hx hb dX6_order_103 (by decide) ?_
      refine lv_iadd hx hb dX6_order_104 ?_
      refine lv_re (y := nI (pp + 1)) (nI_add (pp) (1)) ?_
      refine m_put hx hb hts hin hown hK hA hI 11 (by decide) (hts (.fieldLink RX6 138 "WinderLaddersModel" "place" "I") (by decide +kernel)) (fun h => absurd h (by decide)) dX6_order_105 (fun H locs hI => ?_)
      refine lv_aload_n hx hb dX6_order_108 rfl (lv_at hl 2 rfl) ?_
      refine lv_iload_n hx hb dX6_order_109 rfl (lv_at hl 1 rfl) ?_
      refine m_put hx hb hts hin hown hK hA hI 13 (by decide) (hts (.fieldLink RX6 152 "WinderLaddersModel" "letter" "I") (by decide +kernel)) (fun h => absurd h (by decide)) dX6_order_110 (fun H locs hI => ?_)
      refine lv_aload_n hx hb dX6_order_113 rfl (lv_at hl 2 rfl) ?_
      refine lv_iload_n hx hb dX6_order_114 rfl (lv_at hl 0 rfl) ?_
      refine lv_if_eq (tgt := 122) hx hb dX6_order_115 (by decide) (fun c20 => absurd c20 (by decide)) (fun _ => ?_)
      refine lv_iconst (v := 0) hx hb dX6_order_118 (by decide) ?_
      refine lv_goto (tgt := 126) hx hb dX6_order_119 (by decide) ?_
      refine m_put hx hb hts hin hown hK hA hI 14 (by decide) (hts (.fieldLink RX6 158 "WinderLaddersModel" "one" "I") (by decide +kernel)) (fun h => absurd h (by decide)) dX6_order_126 (fun H locs hI => ?_)
      refine lv_iload_n hx hb dX6_order_129 rfl (lv_at hl 1 rfl) ?_
      refine lv_bipush (v := 43) hx hb dX6_order_130 (by decide) ?_
      refine lv_icmp_ne (tgt := 210) hx hb dX6_order_132 (by decide) (fun _ => ?_) (fun c21 => absurd c21 (by decide))
      refine lv_aload_n hx hb dX6_order_210 rfl (lv_at hl 2 rfl) ?_
      refine m_get hx hb hts hin hown hK hI 8 (by decide) (hts (.fieldLink RX6 29 "WinderLaddersModel" "row" "[I") (by decide +kernel)) (v := .ref (q 7)) rfl dX6_order_211 ?_
      refine lv_iconst (v := 0) hx hb dX6_order_214 (by decide) ?_
      refine lv_aload_n hx hb dX6_order_215 rfl (lv_at hl 2 rfl) ?_
      refine m_get hx hb hts hin hown hK hI 14 (by decide) (hts (.fieldLink RX6 158 "WinderLaddersModel" "one" "I") (by decide +kernel)) (v := .int 0) (congrArg (fun z => some (Value.int z)) (mset_eq _ _ _ _)) dX6_order_216 ?_
      refine m_ast hx hb hK hA hI 8 (by decide) (0) (by show _ < 80; omega) rfl dX6_order_219 (fun H locs hI => ?_)
      refine lv_aload_n hx hb dX6_order_220 rfl (lv_at hl 2 rfl) ?_
      refine lv_iconst (v := 1) hx hb dX6_order_221 (by decide) ?_
      refine m_put hx hb hts hin hown hK hA hI 9 (by decide) (hts (.fieldLink RX6 58 "WinderLaddersModel" "inRow" "I") (by decide +kernel)) (fun h => absurd h (by decide)) dX6_order_222 (fun H locs hI => ?_)
      refine lv_iload_n hx hb dX6_order_225 rfl (lv_at hl 1 rfl) ?_
      refine lv_bipush (v := 98) hx hb dX6_order_226 (by decide) ?_
      refine lv_icmp_ne (tgt := 277) hx hb dX6_order_228 (by decide) (fun _ => ?_) (fun c22 => absurd c22 (by decide))
      exact m_vret hx hb hr hI (ordP_ok (pl := pp + 1) (one := 0) (two := 0) (three := 0) (L := 1) (w := fun _ => 0) (by simp [rO, rP, ec, c1, nc1]) (by simp [mset, hw]) (by simp [mset]) (by simp [mset, ec]) (by simp [mset]) (by rw [ec]; exact fun z => absurd z (by decide)) (by simp [mset]; rfl) (fun j hj => by rw [show j = 0 by omega]; simp [mset]) (((((((Pk.rf M).set (by decide) _ _).set (by decide) _ _).set (by decide) _ _).set (by decide) _ _).set (by decide) _ _).set (by decide) _ _)) dX6_order_277 hlocks
    · skip
      refine lv_iload_n hx hb dX6_order_31 rfl (lv_at hl 0 rfl) ?_
      refine lv_bipush (v := 97) hx hb dX6_order_32 (by decide) ?_
      refine lv_icmp_ne (tgt := 41) hx hb dX6_order_34 (by decide) (fun c23 => ?_) (fun c23 => ?_)
      · skip
        refine lv_iconst (v := 0) hx hb dX6_order_41 (by decide) ?_
        refine lv_istore_n (lv' := [(2, .int 0), (1, .int cv), (0, .ref (q 0))]) hx hb dX6_order_42 rfl hl (by decide) rfl (fun ls hl => ?_)
        refine lv_aload_n hx hb dX6_order_43 rfl (lv_at hl 2 rfl) ?_
        refine lv_aload_n hx hb dX6_order_44 rfl (lv_at hl 2 rfl) ?_
        refine m_get hx hb hts hin hown hK hI 12 (by decide) (hts (.fieldLink RX6 141 "WinderLaddersModel" "isWrong" "Z") (by decide +kernel)) (v := .int 0) (congrArg (fun z => some (Value.int z)) hw) dX6_order_45 ?_
        refine lv_if_ne (tgt := 79) hx hb dX6_order_48 (by decide) (fun c24 => absurd (by decide) c24) (fun _ => ?_)
        refine lv_iload_n hx hb dX6_order_51 rfl (lv_at hl 0 rfl) ?_
        refine lv_if_ne (tgt := 83) hx hb dX6_order_52 (by decide) (fun c25 => absurd (by decide) c25) (fun _ => ?_)
        refine lv_iload_n hx hb dX6_order_55 rfl (lv_at hl 1 rfl) ?_
        refine lv_bipush (v := 43) hx hb dX6_order_56 (by decide) ?_
        refine lv_icmp_eq (tgt := 83) hx hb dX6_order_58 (by decide) (fun c26 => ?_) (fun c26 => ?_)
        · skip
          subst c26
          refine lv_iconst (v := 0) hx hb dX6_order_83 (by decide) ?_
          refine m_put hx hb hts hin hown hK hA hI 12 (by decide) (hts (.fieldLink RX6 141 "WinderLaddersModel" "isWrong" "Z") (by decide +kernel)) (fun _ => by first | exact Or.inl rfl | exact Or.inr rfl) dX6_order_84 (fun H locs hI => ?_)
          refine lv_aload_n hx hb dX6_order_87 rfl (lv_at hl 2 rfl) ?_
          refine lv_dup hx hb dX6_order_88 rfl ?_
          refine m_get hx hb hts hin hown hK hI 11 (by decide) (hts (.fieldLink RX6 138 "WinderLaddersModel" "place" "I") (by decide +kernel)) (v := .int (nI pp)) (congrArg (fun z => some (Value.int z)) ((mset_nk _ (by decide) _ _ _).trans (hp))) dX6_order_89 ?_
          refine lv_aload_n hx hb dX6_order_92 rfl (lv_at hl 2 rfl) ?_
          refine m_get hx hb hts hin hown hK hI 12 (by decide) (hts (.fieldLink RX6 141 "WinderLaddersModel" "isWrong" "Z") (by decide +kernel)) (v := .int 0) (congrArg (fun z => some (Value.int z)) (mset_eq _ _ _ _)) dX6_order_93 ?_
          refine lv_if_eq (tgt := 103) hx hb dX6_order_96 (by decide) (fun _ => ?_) (fun c27 => absurd (by decide) c27)
          refine lv_iconst (v := 1) hx hb dX6_order_103 (by decide) ?_
          refine lv_iadd hx hb dX6_order_104 ?_
          refine lv_re (y := nI (pp + 1)) (nI_add (pp) (1)) ?_
          refine m_put hx hb hts hin hown hK hA hI 11 (by decide) (hts (.fieldLink RX6 138 "WinderLaddersModel" "place" "I") (by decide +kernel)) (fun h => absurd h (by decide)) dX6_order_105 (fun H locs hI => ?_)
          refine lv_aload_n hx hb dX6_order_108 rfl (lv_at hl 2 rfl) ?_
          refine lv_iload_n hx hb dX6_order_109 rfl (lv_at hl 1 rfl) ?_
          refine m_put hx hb hts hin hown hK hA hI 13 (by decide) (hts (.fieldLink RX6 152 "WinderLaddersModel" "letter" "I") (by decide +kernel)) (fun h => absurd h (by decide)) dX6_order_110 (fun H locs hI => ?_)
          refine lv_aload_n hx hb dX6_order_113 rfl (lv_at hl 2 rfl) ?_
          refine lv_iload_n hx hb dX6_order_114 rfl (lv_at hl 0 rfl) ?_
          refine lv_if_eq (tgt := 122) hx hb dX6_order_115 (by decide) (fun _ => ?_) (fun c28 => absurd (by decide) c28)
          refine lv_aload_n hx hb dX6_order_122 rfl (lv_at hl 2 rfl) ?_
          refine m_calli (As := []) (rest := [.ref (q 0)]) hx hb hml hown hts hK hI (k_X6_number0 l dd g q A hA (mset (mset (mset M 12 (0) (0)) 11 (0) (nI (pp + 1))) 13 (0) (43)) (pp + 1) len ((mset_nk _ (by decide) _ _ _).trans (mset_eq _ _ _ _)) ((mset_nk _ (by decide) _ _ _).trans ((mset_nk _ (by decide) _ _ _).trans ((mset_nk _ (by decide) _ _ _).trans (hlen)))) hl80 (by omega) ((mset_nk _ (by decide) _ _ _).trans ((mset_nk _ (by decide) _ _ _).trans (mset_eq _ _ _ _)))) (cwV 0 hts gX6_order_X6_number rfl rfl rfl (by decide +kernel) ⟨Nat.le_of_ble_eq_true rfl, Nat.le_of_ble_eq_true rfl⟩) rfl hl (Nat.le_of_ble_eq_true rfl) ⟨Nat.zero_le _, Nat.zero_le _⟩ dX6_order_123 rfl (fun rb29 M1 H locs h30 hI => ?_)
          rw [show (mset (mset (mset M 12 (0) (0)) 11 (0) (nI (pp + 1))) 13 (0) (43)) 6 = (M 6) from rfl] at h30
          rcases h30 with ⟨vb29, pb29, b29, hr9, hm9⟩ | ⟨b29, hm9⟩
          · skip
            rw [hr9]
            rw [hm9] at hI
            have lb29 := rN_place b29
            refine m_put hx hb hts hin hown hK hA hI 14 (by decide) (hts (.fieldLink RX6 158 "WinderLaddersModel" "one" "I") (by decide +kernel)) (fun h => absurd h (by decide)) dX6_order_126 (fun H locs hI => ?_)
            refine lv_iload_n hx hb dX6_order_129 rfl (lv_at hl 1 rfl) ?_
            refine lv_bipush (v := 43) hx hb dX6_order_130 (by decide) ?_
            refine lv_icmp_ne (tgt := 210) hx hb dX6_order_132 (by decide) (fun c31 => absurd (by decide) c31) (fun _ => ?_)
            refine lv_aload_n hx hb dX6_order_135 rfl (lv_at hl 2 rfl) ?_
            refine lv_bipush (v := 94) hx hb dX6_order_136 (by decide) ?_
            refine lv_bipush (v := 94) hx hb dX6_order_138 (by decide) ?_
            refine m_calli (As := [.int 94, .int 94]) (rest := []) hx hb hml hown hts hK hI (k_X6_sign0 l dd g q A hA (mset (mset (mset (mset (mset M 12 (0) (0)) 11 (0) (nI (pp + 1))) 13 (0) (43)) 11 (0) (nI pb29)) 14 (0) (vb29)) 94 94 pb29 len ((mset_nk _ (by decide) _ _ _).trans (mset_eq _ _ _ _)) ((mset_nk _ (by decide) _ _ _).trans ((mset_nk _ (by decide) _ _ _).trans ((mset_nk _ (by decide) _ _ _).trans ((mset_nk _ (by decide) _ _ _).trans ((mset_nk _ (by decide) _ _ _).trans (hlen)))))) hl80 (by omega) ((mset_nk _ (by decide) _ _ _).trans ((mset_nk _ (by decide) _ _ _).trans ((mset_nk _ (by decide) _ _ _).trans ((mset_nk _ (by decide) _ _ _).trans (mset_eq _ _ _ _)))))) (cwV 2 hts gX6_order_X6_sign rfl rfl rfl (by decide +kernel) ⟨Nat.le_of_ble_eq_true rfl, Nat.le_of_ble_eq_true rfl⟩) rfl hl (Nat.le_of_ble_eq_true rfl) ⟨Nat.zero_le _, Nat.zero_le _⟩ dX6_order_140 rfl (fun r M1 H locs h33 hI => ?_)
            rw [show (mset (mset (mset (mset (mset M 12 (0) (0)) 11 (0) (nI (pp + 1))) 13 (0) (43)) 11 (0) (nI pb29)) 14 (0) (vb29)) 6 = (M 6) from rfl] at h33
            rcases h33 with ⟨b32, hr9, hm9⟩ | ⟨b32, hm9⟩
            · skip
              subst hr9
              rw [hm9] at hI
              have lb32 := chr_pos b32 (by decide)
              refine lv_istore_n (lv' := [(3, .int (chr (M 6) len pb29)), (2, .int 0), (1, .int 43), (0, .ref (q 0))]) hx hb dX6_order_143 rfl hl (by decide) rfl (fun ls hl => ?_)
              refine lv_aload_n hx hb dX6_order_144 rfl (lv_at hl 3 rfl) ?_
              refine lv_aload_n hx hb dX6_order_145 rfl (lv_at hl 3 rfl) ?_
              refine m_calli (As := []) (rest := [.ref (q 0)]) hx hb hml hown hts hK hI (k_X6_number0 l dd g q A hA (mset (mset (mset (mset (mset (mset M 12 (0) (0)) 11 (0) (nI (pp + 1))) 13 (0) (43)) 11 (0) (nI pb29)) 14 (0) (vb29)) 11 (0) (nI (pb29 + 1))) (pb29 + 1) len (mset_eq _ _ _ _) ((mset_nk _ (by decide) _ _ _).trans ((mset_nk _ (by decide) _ _ _).trans ((mset_nk _ (by decide) _ _ _).trans ((mset_nk _ (by decide) _ _ _).trans ((mset_nk _ (by decide) _ _ _).trans ((mset_nk _ (by decide) _ _ _).trans (hlen))))))) hl80 (by omega) ((mset_nk _ (by decide) _ _ _).trans ((mset_nk _ (by decide) _ _ _).trans ((mset_nk _ (by decide) _ _ _).trans ((mset_nk _ (by decide) _ _ _).trans ((mset_nk _ (by decide) _ _ _).trans (mset_eq _ _ _ _))))))) (cwV 0 hts gX6_order_X6_number rfl rfl rfl (by decide +kernel) ⟨Nat.le_of_ble_eq_true rfl, Nat.le_of_ble_eq_true rfl⟩) rfl hl (Nat.le_of_ble_eq_true rfl) ⟨Nat.zero_le _, Nat.zero_le _⟩ dX6_order_146 rfl (fun rb34 M1 H locs h35 hI => ?_)
              rw [show (mset (mset (mset (mset (mset (mset M 12 (0) (0)) 11 (0) (nI (pp + 1))) 13 (0) (43)) 11 (0) (nI pb29)) 14 (0) (vb29)) 11 (0) (nI (pb29 + 1))) 6 = (M 6) from rfl] at h35
              rcases h35 with ⟨vb34, pb34, b34, hr9, hm9⟩ | ⟨b34, hm9⟩
              · skip
                rw [hr9]
                rw [hm9] at hI
                have lb34 := rN_place b34
                refine m_put hx hb hts hin hown hK hA hI 15 (by decide) (hts (.fieldLink RX6 161 "WinderLaddersModel" "two" "I") (by decide +kernel)) (fun h => absurd h (by decide)) dX6_order_149 (fun H locs hI => ?_)
                refine lv_aload_n hx hb dX6_order_152 rfl (lv_at hl 3 rfl) ?_
                refine lv_bipush (v := 126) hx hb dX6_order_153 (by decide) ?_
                refine lv_bipush (v := 126) hx hb dX6_order_155 (by decide) ?_
                refine m_calli (As := [.int 126, .int 126]) (rest := []) hx hb hml hown hts hK hI (k_X6_sign0 l dd g q A hA (mset (mset (mset (mset (mset (mset (mset (mset M 12 (0) (0)) 11 (0) (nI (pp + 1))) 13 (0) (43)) 11 (0) (nI pb29)) 14 (0) (vb29)) 11 (0) (nI (pb29 + 1))) 11 (0) (nI pb34)) 15 (0) (vb34)) 126 126 pb34 len ((mset_nk _ (by decide) _ _ _).trans (mset_eq _ _ _ _)) ((mset_nk _ (by decide) _ _ _).trans ((mset_nk _ (by decide) _ _ _).trans ((mset_nk _ (by decide) _ _ _).trans ((mset_nk _ (by decide) _ _ _).trans ((mset_nk _ (by decide) _ _ _).trans ((mset_nk _ (by decide) _ _ _).trans ((mset_nk _ (by decide) _ _ _).trans ((mset_nk _ (by decide) _ _ _).trans (hlen))))))))) hl80 (by omega) ((mset_nk _ (by decide) _ _ _).trans ((mset_nk _ (by decide) _ _ _).trans ((mset_nk _ (by decide) _ _ _).trans ((mset_nk _ (by decide) _ _ _).trans ((mset_nk _ (by decide) _ _ _).trans ((mset_nk _ (by decide) _ _ _).trans ((mset_nk _ (by decide) _ _ _).trans (mset_eq _ _ _ _))))))))) (cwV 2 hts gX6_order_X6_sign rfl rfl rfl (by decide +kernel) ⟨Nat.le_of_ble_eq_true rfl, Nat.le_of_ble_eq_true rfl⟩) rfl hl (Nat.le_of_ble_eq_true rfl) ⟨Nat.zero_le _, Nat.zero_le _⟩ dX6_order_157 rfl (fun r M1 H locs h37 hI => ?_)
                rw [show (mset (mset (mset (mset (mset (mset (mset (mset M 12 (0) (0)) 11 (0) (nI (pp + 1))) 13 (0) (43)) 11 (0) (nI pb29)) 14 (0) (vb29)) 11 (0) (nI (pb29 + 1))) 11 (0) (nI pb34)) 15 (0) (vb34)) 6 = (M 6) from rfl] at h37
                rcases h37 with ⟨b36, hr9, hm9⟩ | ⟨b36, hm9⟩
                · skip
                  subst hr9
                  rw [hm9] at hI
                  have lb36 := chr_pos b36 (by decide)
                  refine lv_istore_n (lv' := [(3, .int (chr (M 6) len pb34)), (2, .int 0), (1, .int 43), (0, .ref (q 0))]) hx hb dX6_order_160 rfl hl (by decide) rfl (fun ls hl => ?_)
                  refine lv_aload_n hx hb dX6_order_161 rfl (lv_at hl 3 rfl) ?_
                  refine lv_bipush (v := 45) hx hb dX6_order_162 (by decide) ?_
                  refine lv_bipush (v := 45) hx hb dX6_order_164 (by decide) ?_
                  refine m_calli (As := [.int 45, .int 45]) (rest := []) hx hb hml hown hts hK hI (k_X6_isNext0 l dd g q A hA (mset (mset (mset (mset (mset (mset (mset (mset (mset M 12 (0) (0)) 11 (0) (nI (pp + 1))) 13 (0) (43)) 11 (0) (nI pb29)) 14 (0) (vb29)) 11 (0) (nI (pb29 + 1))) 11 (0) (nI pb34)) 15 (0) (vb34)) 11 (0) (nI (pb34 + 1))) 45 45 (pb34 + 1) len (mset_eq _ _ _ _) ((mset_nk _ (by decide) _ _ _).trans ((mset_nk _ (by decide) _ _ _).trans ((mset_nk _ (by decide) _ _ _).trans ((mset_nk _ (by decide) _ _ _).trans ((mset_nk _ (by decide) _ _ _).trans ((mset_nk _ (by decide) _ _ _).trans ((mset_nk _ (by decide) _ _ _).trans ((mset_nk _ (by decide) _ _ _).trans ((mset_nk _ (by decide) _ _ _).trans (hlen)))))))))) hl80 (by omega) ((mset_nk _ (by decide) _ _ _).trans ((mset_nk _ (by decide) _ _ _).trans ((mset_nk _ (by decide) _ _ _).trans ((mset_nk _ (by decide) _ _ _).trans ((mset_nk _ (by decide) _ _ _).trans ((mset_nk _ (by decide) _ _ _).trans ((mset_nk _ (by decide) _ _ _).trans ((mset_nk _ (by decide) _ _ _).trans (mset_eq _ _ _ _)))))))))) (cwV 2 hts gX6_order_X6_isNext rfl rfl rfl (by decide +kernel) ⟨Nat.le_of_ble_eq_true rfl, Nat.le_of_ble_eq_true rfl⟩) rfl hl (Nat.le_of_ble_eq_true rfl) ⟨Nat.zero_le _, Nat.zero_le _⟩ dX6_order_166 rfl (fun r M1 H locs h39 hI => ?_)
                  rw [show (mset (mset (mset (mset (mset (mset (mset (mset (mset M 12 (0) (0)) 11 (0) (nI (pp + 1))) 13 (0) (43)) 11 (0) (nI pb29)) 14 (0) (vb29)) 11 (0) (nI (pb29 + 1))) 11 (0) (nI pb34)) 15 (0) (vb34)) 11 (0) (nI (pb34 + 1))) 6 = (M 6) from rfl] at h39
                  obtain ⟨h39, hm9⟩ := h39
                  rw [hm9] at hI
                  rcases h39 with ⟨b38, rfl⟩ | ⟨b38, rfl⟩
                  · skip
                    have lb38 := (nxB_t.mp b38).1
                    have kb38 := nxB_chr b38
                    refine lv_istore (lv' := [(4, .int 1), (3, .int (chr (M 6) len pb34)), (2, .int 0), (1, .int 43), (0, .ref (q 0))]) hx hb dX6_order_169 hl (by decide) rfl (fun ls hl => ?_)
                    refine lv_iload hx hb dX6_order_171 (lv_at hl 0 rfl) ?_
                    refine lv_if_eq (tgt := 187) hx hb dX6_order_173 (by decide) (fun c40 => absurd c40 (by decide)) (fun _ => ?_)
                    refine lv_aload_n hx hb dX6_order_176 rfl (lv_at hl 4 rfl) ?_
                    refine lv_bipush (v := 45) hx hb dX6_order_177 (by decide) ?_
                    refine lv_bipush (v := 45) hx hb dX6_order_179 (by decide) ?_
                    refine m_calli (As := [.int 45, .int 45]) (rest := []) hx hb hml hown hts hK hI (k_X6_sign0 l dd g q A hA (mset (mset (mset (mset (mset (mset (mset (mset (mset M 12 (0) (0)) 11 (0) (nI (pp + 1))) 13 (0) (43)) 11 (0) (nI pb29)) 14 (0) (vb29)) 11 (0) (nI (pb29 + 1))) 11 (0) (nI pb34)) 15 (0) (vb34)) 11 (0) (nI (pb34 + 1))) 45 45 (pb34 + 1) len (mset_eq _ _ _ _) ((mset_nk _ (by decide) _ _ _).trans ((mset_nk _ (by decide) _ _ _).trans ((mset_nk _ (by decide) _ _ _).trans ((mset_nk _ (by decide) _ _ _).trans ((mset_nk _ (by decide) _ _ _).trans ((mset_nk _ (by decide) _ _ _).trans ((mset_nk _ (by decide) _ _ _).trans ((mset_nk _ (by decide) _ _ _).trans ((mset_nk _ (by decide) _ _ _).trans (hlen)))))))))) hl80 (by omega) ((mset_nk _ (by decide) _ _ _).trans ((mset_nk _ (by decide) _ _ _).trans ((mset_nk _ (by decide) _ _ _).trans ((mset_nk _ (by decide) _ _ _).trans ((mset_nk _ (by decide) _ _ _).trans ((mset_nk _ (by decide) _ _ _).trans ((mset_nk _ (by decide) _ _ _).trans ((mset_nk _ (by decide) _ _ _).trans (mset_eq _ _ _ _)))))))))) (cwV 2 hts gX6_order_X6_sign rfl rfl rfl (by decide +kernel) ⟨Nat.le_of_ble_eq_true rfl, Nat.le_of_ble_eq_true rfl⟩) rfl hl (Nat.le_of_ble_eq_true rfl) ⟨Nat.zero_le _, Nat.zero_le _⟩ dX6_order_181 rfl (fun r M1 H locs h42 hI => ?_)
                    rw [show (mset (mset (mset (mset (mset (mset (mset (mset (mset M 12 (0) (0)) 11 (0) (nI (pp + 1))) 13 (0) (43)) 11 (0) (nI pb29)) 14 (0) (vb29)) 11 (0) (nI (pb29 + 1))) 11 (0) (nI pb34)) 15 (0) (vb34)) 11 (0) (nI (pb34 + 1))) 6 = (M 6) from rfl] at h42
                    rcases h42 with ⟨b41, hr9, hm9⟩ | ⟨b41, hm9⟩
                    · skip
                      subst hr9
                      rw [hm9] at hI
                      have lb41 := chr_pos b41 (by decide)
                      refine lv_goto (tgt := 188) hx hb dX6_order_184 (by decide) ?_
                      refine lv_istore_n (lv' := [(3, .int (chr (M 6) len (pb34 + 1))), (4, .int 1), (2, .int 0), (1, .int 43), (0, .ref (q 0))]) hx hb dX6_order_188 rfl hl (by decide) rfl (fun ls hl => ?_)
                      refine lv_aload_n hx hb dX6_order_189 rfl (lv_at hl 4 rfl) ?_
                      refine lv_iload hx hb dX6_order_190 (lv_at hl 1 rfl) ?_
                      refine lv_if_eq (tgt := 203) hx hb dX6_order_192 (by decide) (fun c43 => absurd c43 (by decide)) (fun _ => ?_)
                      refine lv_aload_n hx hb dX6_order_195 rfl (lv_at hl 4 rfl) ?_
                      refine m_calli (As := []) (rest := [.ref (q 0)]) hx hb hml hown hts hK hI (k_X6_number0 l dd g q A hA (mset (mset (mset (mset (mset (mset (mset (mset (mset (mset M 12 (0) (0)) 11 (0) (nI (pp + 1))) 13 (0) (43)) 11 (0) (nI pb29)) 14 (0) (vb29)) 11 (0) (nI (pb29 + 1))) 11 (0) (nI pb34)) 15 (0) (vb34)) 11 (0) (nI (pb34 + 1))) 11 (0) (nI (pb34 + 1 + 1))) (pb34 + 1 + 1) len (mset_eq _ _ _ _) ((mset_nk _ (by decide) _ _ _).trans ((mset_nk _ (by decide) _ _ _).trans ((mset_nk _ (by decide) _ _ _).trans ((mset_nk _ (by decide) _ _ _).trans ((mset_nk _ (by decide) _ _ _).trans ((mset_nk _ (by decide) _ _ _).trans ((mset_nk _ (by decide) _ _ _).trans ((mset_nk _ (by decide) _ _ _).trans ((mset_nk _ (by decide) _ _ _).trans ((mset_nk _ (by decide) _ _ _).trans (hlen))))))))))) hl80 (by omega) ((mset_nk _ (by decide) _ _ _).trans ((mset_nk _ (by decide) _ _ _).trans ((mset_nk _ (by decide) _ _ _).trans ((mset_nk _ (by decide) _ _ _).trans ((mset_nk _ (by decide) _ _ _).trans ((mset_nk _ (by decide) _ _ _).trans ((mset_nk _ (by decide) _ _ _).trans ((mset_nk _ (by decide) _ _ _).trans ((mset_nk _ (by decide) _ _ _).trans (mset_eq _ _ _ _))))))))))) (cwV 0 hts gX6_order_X6_number rfl rfl rfl (by decide +kernel) ⟨Nat.le_of_ble_eq_true rfl, Nat.le_of_ble_eq_true rfl⟩) rfl hl (Nat.le_of_ble_eq_true rfl) ⟨Nat.zero_le _, Nat.zero_le _⟩ dX6_order_196 rfl (fun rb44 M1 H locs h45 hI => ?_)
                      rw [show (mset (mset (mset (mset (mset (mset (mset (mset (mset (mset M 12 (0) (0)) 11 (0) (nI (pp + 1))) 13 (0) (43)) 11 (0) (nI pb29)) 14 (0) (vb29)) 11 (0) (nI (pb29 + 1))) 11 (0) (nI pb34)) 15 (0) (vb34)) 11 (0) (nI (pb34 + 1))) 11 (0) (nI (pb34 + 1 + 1))) 6 = (M 6) from rfl] at h45
                      rcases h45 with ⟨vb44, pb44, b44, hr9, hm9⟩ | ⟨b44, hm9⟩
                      · skip
                        rw [hr9]
                        rw [hm9] at hI
                        have lb44 := rN_place b44
                        refine lv_ineg hx hb dX6_order_199 ?_
                        refine lv_goto (tgt := 207) hx hb dX6_order_200 (by decide) ?_
                        refine m_put hx hb hts hin hown hK hA hI 16 (by decide) (hts (.fieldLink RX6 164 "WinderLaddersModel" "three" "I") (by decide +kernel)) (fun h => absurd h (by decide)) dX6_order_207 (fun H locs hI => ?_)
                        refine lv_aload_n hx hb dX6_order_210 rfl (lv_at hl 4 rfl) ?_
                        refine m_get hx hb hts hin hown hK hI 8 (by decide) (hts (.fieldLink RX6 29 "WinderLaddersModel" "row" "[I") (by decide +kernel)) (v := .ref (q 7)) rfl dX6_order_211 ?_
                        refine lv_iconst (v := 0) hx hb dX6_order_214 (by decide) ?_
                        refine lv_aload_n hx hb dX6_order_215 rfl (lv_at hl 4 rfl) ?_
                        refine m_get hx hb hts hin hown hK hI 14 (by decide) (hts (.fieldLink RX6 158 "WinderLaddersModel" "one" "I") (by decide +kernel)) (v := .int vb29) (congrArg (fun z => some (Value.int z)) ((mset_nk _ (by decide) _ _ _).trans ((mset_nk _ (by decide) _ _ _).trans ((mset_nk _ (by decide) _ _ _).trans ((mset_nk _ (by decide) _ _ _).trans ((mset_nk _ (by decide) _ _ _).trans ((mset_nk _ (by decide) _ _ _).trans ((mset_nk _ (by decide) _ _ _).trans (mset_eq _ _ _ _))))))))) dX6_order_216 ?_
                        refine m_ast hx hb hK hA hI 8 (by decide) (0) (by show _ < 80; omega) rfl dX6_order_219 (fun H locs hI => ?_)
                        refine lv_aload_n hx hb dX6_order_220 rfl (lv_at hl 4 rfl) ?_
                        refine lv_iconst (v := 1) hx hb dX6_order_221 (by decide) ?_
                        refine m_put hx hb hts hin hown hK hA hI 9 (by decide) (hts (.fieldLink RX6 58 "WinderLaddersModel" "inRow" "I") (by decide +kernel)) (fun h => absurd h (by decide)) dX6_order_222 (fun H locs hI => ?_)
                        refine lv_iload_n hx hb dX6_order_225 rfl (lv_at hl 3 rfl) ?_
                        refine lv_bipush (v := 98) hx hb dX6_order_226 (by decide) ?_
                        refine lv_icmp_ne (tgt := 277) hx hb dX6_order_228 (by decide) (fun _ => ?_) (fun c46 => absurd c46 (by decide))
                        exact m_vret hx hb hr hI (ordP_ok (pl := pb44) (one := vb29) (two := vb34) (three := (-vb44)) (L := 1) (w := fun _ => vb29) (by simp [rO, rP, ec, c1, nc1, c16, c23, b29, b32, b34, b36, b38, b41, b44]) (by simp [mset, hw]) (by simp [mset]) (by simp [mset, ec]) (by simp [mset]) (by simp [mset]) (by simp [mset]; rfl) (fun j hj => by rw [show j = 0 by omega]; simp [mset]) (((((((((((((((Pk.rf M).set (by decide) _ _).set (by decide) _ _).set (by decide) _ _).set (by decide) _ _).set (by decide) _ _).set (by decide) _ _).set (by decide) _ _).set (by decide) _ _).set (by decide) _ _).set (by decide) _ _).set (by decide) _ _).set (by decide) _ _).set (by decide) _ _).set (by decide) _ _)) dX6_order_277 hlocks
                      · skip
                        rw [hm9] at hI
                        refine lv_ineg hx hb dX6_order_199 ?_
                        refine lv_goto (tgt := 207) hx hb dX6_order_200 (by decide) ?_
                        refine m_put hx hb hts hin hown hK hA hI 16 (by decide) (hts (.fieldLink RX6 164 "WinderLaddersModel" "three" "I") (by decide +kernel)) (fun h => absurd h (by decide)) dX6_order_207 (fun H locs hI => ?_)
                        refine lv_aload_n hx hb dX6_order_210 rfl (lv_at hl 4 rfl) ?_
                        refine m_get hx hb hts hin hown hK hI 8 (by decide) (hts (.fieldLink RX6 29 "WinderLaddersModel" "row" "[I") (by decide +kernel)) (v := .ref (q 7)) rfl dX6_order_211 ?_
                        refine lv_iconst (v := 0) hx hb dX6_order_214 (by decide) ?_
                        refine lv_aload_n hx hb dX6_order_215 rfl (lv_at hl 4 rfl) ?_
                        refine m_get hx hb hts hin hown hK hI 14 (by decide) (hts (.fieldLink RX6 158 "WinderLaddersModel" "one" "I") (by decide +kernel)) (v := .int vb29) (congrArg (fun z => some (Value.int z)) ((mset_nk _ (by decide) _ _ _).trans ((mset_nk _ (by decide) _ _ _).trans ((mset_nk _ (by decide) _ _ _).trans ((mset_nk _ (by decide) _ _ _).trans ((mset_nk _ (by decide) _ _ _).trans ((mset_nk _ (by decide) _ _ _).trans ((mset_nk _ (by decide) _ _ _).trans (mset_eq _ _ _ _))))))))) dX6_order_216 ?_
                        refine m_ast hx hb hK hA hI 8 (by decide) (0) (by show _ < 80; omega) rfl dX6_order_219 (fun H locs hI => ?_)
                        refine lv_aload_n hx hb dX6_order_220 rfl (lv_at hl 4 rfl) ?_
                        refine lv_iconst (v := 1) hx hb dX6_order_221 (by decide) ?_
                        refine m_put hx hb hts hin hown hK hA hI 9 (by decide) (hts (.fieldLink RX6 58 "WinderLaddersModel" "inRow" "I") (by decide +kernel)) (fun h => absurd h (by decide)) dX6_order_222 (fun H locs hI => ?_)
                        refine lv_iload_n hx hb dX6_order_225 rfl (lv_at hl 3 rfl) ?_
                        refine lv_bipush (v := 98) hx hb dX6_order_226 (by decide) ?_
                        refine lv_icmp_ne (tgt := 277) hx hb dX6_order_228 (by decide) (fun _ => ?_) (fun c47 => absurd c47 (by decide))
                        exact m_vret hx hb hr hI (ordP_no (pl := pb34 + 1 + 1) (by simp [rO, rP, ec, c1, nc1, c16, c23, b29, b32, b34, b36, b38, b41, b44]) (by simp [mset]) (by simp [mset, hp]) (((((((((((((((Pk.rf M).set (by decide) _ _).set (by decide) _ _).set (by decide) _ _).set (by decide) _ _).set (by decide) _ _).set (by decide) _ _).set (by decide) _ _).set (by decide) _ _).set (by decide) _ _).set (by decide) _ _).set (by decide) _ _).set (by decide) _ _).set (by decide) _ _).set (by decide) _ _)) dX6_order_277 hlocks
                    · skip
                      rw [hm9] at hI
                      exact Bool.noConfusion (kb38.symm.trans b41)
                  · skip
                    refine lv_istore (lv' := [(4, .int 0), (3, .int (chr (M 6) len pb34)), (2, .int 0), (1, .int 43), (0, .ref (q 0))]) hx hb dX6_order_169 hl (by decide) rfl (fun ls hl => ?_)
                    refine lv_iload hx hb dX6_order_171 (lv_at hl 0 rfl) ?_
                    refine lv_if_eq (tgt := 187) hx hb dX6_order_173 (by decide) (fun _ => ?_) (fun c48 => absurd (by decide) c48)
                    refine lv_iconst (v := 0) hx hb dX6_order_187 (by decide) ?_
                    refine lv_istore_n (lv' := [(3, .int 0), (4, .int 0), (2, .int 0), (1, .int 43), (0, .ref (q 0))]) hx hb dX6_order_188 rfl hl (by decide) rfl (fun ls hl => ?_)
                    refine lv_aload_n hx hb dX6_order_189 rfl (lv_at hl 4 rfl) ?_
                    refine lv_iload hx hb dX6_order_190 (lv_at hl 1 rfl) ?_
                    refine lv_if_eq (tgt := 203) hx hb dX6_order_192 (by decide) (fun _ => ?_) (fun c49 => absurd (by decide) c49)
                    refine lv_aload_n hx hb dX6_order_203 rfl (lv_at hl 4 rfl) ?_
                    refine m_calli (As := []) (rest := [.ref (q 0)]) hx hb hml hown hts hK hI (k_X6_number0 l dd g q A hA (mset (mset (mset (mset (mset (mset (mset (mset (mset M 12 (0) (0)) 11 (0) (nI (pp + 1))) 13 (0) (43)) 11 (0) (nI pb29)) 14 (0) (vb29)) 11 (0) (nI (pb29 + 1))) 11 (0) (nI pb34)) 15 (0) (vb34)) 11 (0) (nI (pb34 + 1))) (pb34 + 1) len (mset_eq _ _ _ _) ((mset_nk _ (by decide) _ _ _).trans ((mset_nk _ (by decide) _ _ _).trans ((mset_nk _ (by decide) _ _ _).trans ((mset_nk _ (by decide) _ _ _).trans ((mset_nk _ (by decide) _ _ _).trans ((mset_nk _ (by decide) _ _ _).trans ((mset_nk _ (by decide) _ _ _).trans ((mset_nk _ (by decide) _ _ _).trans ((mset_nk _ (by decide) _ _ _).trans (hlen)))))))))) hl80 (by omega) ((mset_nk _ (by decide) _ _ _).trans ((mset_nk _ (by decide) _ _ _).trans ((mset_nk _ (by decide) _ _ _).trans ((mset_nk _ (by decide) _ _ _).trans ((mset_nk _ (by decide) _ _ _).trans ((mset_nk _ (by decide) _ _ _).trans ((mset_nk _ (by decide) _ _ _).trans ((mset_nk _ (by decide) _ _ _).trans (mset_eq _ _ _ _)))))))))) (cwV 0 hts gX6_order_X6_number rfl rfl rfl (by decide +kernel) ⟨Nat.le_of_ble_eq_true rfl, Nat.le_of_ble_eq_true rfl⟩) rfl hl (Nat.le_of_ble_eq_true rfl) ⟨Nat.zero_le _, Nat.zero_le _⟩ dX6_order_204 rfl (fun rb50 M1 H locs h51 hI => ?_)
                    rw [show (mset (mset (mset (mset (mset (mset (mset (mset (mset M 12 (0) (0)) 11 (0) (nI (pp + 1))) 13 (0) (43)) 11 (0) (nI pb29)) 14 (0) (vb29)) 11 (0) (nI (pb29 + 1))) 11 (0) (nI pb34)) 15 (0) (vb34)) 11 (0) (nI (pb34 + 1))) 6 = (M 6) from rfl] at h51
                    rcases h51 with ⟨vb50, pb50, b50, hr9, hm9⟩ | ⟨b50, hm9⟩
                    · skip
                      rw [hr9]
                      rw [hm9] at hI
                      have lb50 := rN_place b50
                      refine m_put hx hb hts hin hown hK hA hI 16 (by decide) (hts (.fieldLink RX6 164 "WinderLaddersModel" "three" "I") (by decide +kernel)) (fun h => absurd h (by decide)) dX6_order_207 (fun H locs hI => ?_)
                      refine lv_aload_n hx hb dX6_order_210 rfl (lv_at hl 4 rfl) ?_
                      refine m_get hx hb hts hin hown hK hI 8 (by decide) (hts (.fieldLink RX6 29 "WinderLaddersModel" "row" "[I") (by decide +kernel)) (v := .ref (q 7)) rfl dX6_order_211 ?_
                      refine lv_iconst (v := 0) hx hb dX6_order_214 (by decide) ?_
                      refine lv_aload_n hx hb dX6_order_215 rfl (lv_at hl 4 rfl) ?_
                      refine m_get hx hb hts hin hown hK hI 14 (by decide) (hts (.fieldLink RX6 158 "WinderLaddersModel" "one" "I") (by decide +kernel)) (v := .int vb29) (congrArg (fun z => some (Value.int z)) ((mset_nk _ (by decide) _ _ _).trans ((mset_nk _ (by decide) _ _ _).trans ((mset_nk _ (by decide) _ _ _).trans ((mset_nk _ (by decide) _ _ _).trans ((mset_nk _ (by decide) _ _ _).trans ((mset_nk _ (by decide) _ _ _).trans (mset_eq _ _ _ _)))))))) dX6_order_216 ?_
                      refine m_ast hx hb hK hA hI 8 (by decide) (0) (by show _ < 80; omega) rfl dX6_order_219 (fun H locs hI => ?_)
                      refine lv_aload_n hx hb dX6_order_220 rfl (lv_at hl 4 rfl) ?_
                      refine lv_iconst (v := 1) hx hb dX6_order_221 (by decide) ?_
                      refine m_put hx hb hts hin hown hK hA hI 9 (by decide) (hts (.fieldLink RX6 58 "WinderLaddersModel" "inRow" "I") (by decide +kernel)) (fun h => absurd h (by decide)) dX6_order_222 (fun H locs hI => ?_)
                      refine lv_iload_n hx hb dX6_order_225 rfl (lv_at hl 3 rfl) ?_
                      refine lv_bipush (v := 98) hx hb dX6_order_226 (by decide) ?_
                      refine lv_icmp_ne (tgt := 277) hx hb dX6_order_228 (by decide) (fun _ => ?_) (fun c52 => absurd c52 (by decide))
                      exact m_vret hx hb hr hI (ordP_ok (pl := pb50) (one := vb29) (two := vb34) (three := vb50) (L := 1) (w := fun _ => vb29) (by simp [rO, rP, ec, c1, nc1, c16, c23, b29, b32, b34, b36, b38, b50]) (by simp [mset, hw]) (by simp [mset]) (by simp [mset, ec]) (by simp [mset]) (by simp [mset]) (by simp [mset]; rfl) (fun j hj => by rw [show j = 0 by omega]; simp [mset]) ((((((((((((((Pk.rf M).set (by decide) _ _).set (by decide) _ _).set (by decide) _ _).set (by decide) _ _).set (by decide) _ _).set (by decide) _ _).set (by decide) _ _).set (by decide) _ _).set (by decide) _ _).set (by decide) _ _).set (by decide) _ _).set (by decide) _ _).set (by decide) _ _)) dX6_order_277 hlocks
                    · skip
                      rw [hm9] at hI
                      refine m_put hx hb hts hin hown hK hA hI 16 (by decide) (hts (.fieldLink RX6 164 "WinderLaddersModel" "three" "I") (by decide +kernel)) (fun h => absurd h (by decide)) dX6_order_207 (fun H locs hI => ?_)
                      refine lv_aload_n hx hb dX6_order_210 rfl (lv_at hl 4 rfl) ?_
                      refine m_get hx hb hts hin hown hK hI 8 (by decide) (hts (.fieldLink RX6 29 "WinderLaddersModel" "row" "[I") (by decide +kernel)) (v := .ref (q 7)) rfl dX6_order_211 ?_
                      refine lv_iconst (v := 0) hx hb dX6_order_214 (by decide) ?_
                      refine lv_aload_n hx hb dX6_order_215 rfl (lv_at hl 4 rfl) ?_
                      refine m_get hx hb hts hin hown hK hI 14 (by decide) (hts (.fieldLink RX6 158 "WinderLaddersModel" "one" "I") (by decide +kernel)) (v := .int vb29) (congrArg (fun z => some (Value.int z)) ((mset_nk _ (by decide) _ _ _).trans ((mset_nk _ (by decide) _ _ _).trans ((mset_nk _ (by decide) _ _ _).trans ((mset_nk _ (by decide) _ _ _).trans ((mset_nk _ (by decide) _ _ _).trans ((mset_nk _ (by decide) _ _ _).trans (mset_eq _ _ _ _)))))))) dX6_order_216 ?_
                      refine m_ast hx hb hK hA hI 8 (by decide) (0) (by show _ < 80; omega) rfl dX6_order_219 (fun H locs hI => ?_)
                      refine lv_aload_n hx hb dX6_order_220 rfl (lv_at hl 4 rfl) ?_
                      refine lv_iconst (v := 1) hx hb dX6_order_221 (by decide) ?_
                      refine m_put hx hb hts hin hown hK hA hI 9 (by decide) (hts (.fieldLink RX6 58 "WinderLaddersModel" "inRow" "I") (by decide +kernel)) (fun h => absurd h (by decide)) dX6_order_222 (fun H locs hI => ?_)
                      refine lv_iload_n hx hb dX6_order_225 rfl (lv_at hl 3 rfl) ?_
                      refine lv_bipush (v := 98) hx hb dX6_order_226 (by decide) ?_
                      refine lv_icmp_ne (tgt := 277) hx hb dX6_order_228 (by decide) (fun _ => ?_) (fun c53 => absurd c53 (by decide))
                      exact m_vret hx hb hr hI (ordP_no (pl := pb34 + 1) (by simp [rO, rP, ec, c1, nc1, c16, c23, b29, b32, b34, b36, b38, b50]) (by simp [mset]) (by simp [mset, hp]) ((((((((((((((Pk.rf M).set (by decide) _ _).set (by decide) _ _).set (by decide) _ _).set (by decide) _ _).set (by decide) _ _).set (by decide) _ _).set (by decide) _ _).set (by decide) _ _).set (by decide) _ _).set (by decide) _ _).set (by decide) _ _).set (by decide) _ _).set (by decide) _ _)) dX6_order_277 hlocks
                · skip
                  rw [hm9] at hI
                  refine lv_istore_n (lv' := [(3, .int r), (2, .int 0), (1, .int 43), (0, .ref (q 0))]) hx hb dX6_order_160 rfl hl (by decide) rfl (fun ls hl => ?_)
                  refine lv_aload_n hx hb dX6_order_161 rfl (lv_at hl 3 rfl) ?_
                  refine lv_bipush (v := 45) hx hb dX6_order_162 (by decide) ?_
                  refine lv_bipush (v := 45) hx hb dX6_order_164 (by decide) ?_
                  refine m_calli (As := [.int 45, .int 45]) (rest := []) hx hb hml hown hts hK hI (k_X6_isNext1 l dd g q A hA (mset (mset (mset (mset (mset (mset (mset (mset (mset M 12 (0) (0)) 11 (0) (nI (pp + 1))) 13 (0) (43)) 11 (0) (nI pb29)) 14 (0) (vb29)) 11 (0) (nI (pb29 + 1))) 11 (0) (nI pb34)) 15 (0) (vb34)) 12 (0) (1)) 45 45 pb34 len ((mset_nk _ (by decide) _ _ _).trans ((mset_nk _ (by decide) _ _ _).trans (mset_eq _ _ _ _))) ((mset_nk _ (by decide) _ _ _).trans ((mset_nk _ (by decide) _ _ _).trans ((mset_nk _ (by decide) _ _ _).trans ((mset_nk _ (by decide) _ _ _).trans ((mset_nk _ (by decide) _ _ _).trans ((mset_nk _ (by decide) _ _ _).trans ((mset_nk _ (by decide) _ _ _).trans ((mset_nk _ (by decide) _ _ _).trans ((mset_nk _ (by decide) _ _ _).trans (hlen)))))))))) hl80 (by omega) (mset_eq _ _ _ _)) (cwV 2 hts gX6_order_X6_isNext rfl rfl rfl (by decide +kernel) ⟨Nat.le_of_ble_eq_true rfl, Nat.le_of_ble_eq_true rfl⟩) rfl hl (Nat.le_of_ble_eq_true rfl) ⟨Nat.zero_le _, Nat.zero_le _⟩ dX6_order_166 rfl (fun r M1 H locs h55 hI => ?_)
                  obtain ⟨hr9, hm9⟩ := h55
                  rw [hm9] at hI
                  subst hr9
                  refine lv_istore (lv' := [(4, .int 0), (3, .int r), (2, .int 0), (1, .int 43), (0, .ref (q 0))]) hx hb dX6_order_169 hl (by decide) rfl (fun ls hl => ?_)
                  refine lv_iload hx hb dX6_order_171 (lv_at hl 0 rfl) ?_
                  refine lv_if_eq (tgt := 187) hx hb dX6_order_173 (by decide) (fun _ => ?_) (fun c56 => absurd (by decide) c56)
                  refine lv_iconst (v := 0) hx hb dX6_order_187 (by decide) ?_
                  refine lv_istore_n (lv' := [(3, .int 0), (4, .int 0), (2, .int 0), (1, .int 43), (0, .ref (q 0))]) hx hb dX6_order_188 rfl hl (by decide) rfl (fun ls hl => ?_)
                  refine lv_aload_n hx hb dX6_order_189 rfl (lv_at hl 4 rfl) ?_
                  refine lv_iload hx hb dX6_order_190 (lv_at hl 1 rfl) ?_
                  refine lv_if_eq (tgt := 203) hx hb dX6_order_192 (by decide) (fun _ => ?_) (fun c57 => absurd (by decide) c57)
                  refine lv_aload_n hx hb dX6_order_203 rfl (lv_at hl 4 rfl) ?_
                  refine m_calli (As := []) (rest := [.ref (q 0)]) hx hb hml hown hts hK hI (k_X6_number1 l dd g q A hA (mset (mset (mset (mset (mset (mset (mset (mset (mset M 12 (0) (0)) 11 (0) (nI (pp + 1))) 13 (0) (43)) 11 (0) (nI pb29)) 14 (0) (vb29)) 11 (0) (nI (pb29 + 1))) 11 (0) (nI pb34)) 15 (0) (vb34)) 12 (0) (1)) pb34 len ((mset_nk _ (by decide) _ _ _).trans ((mset_nk _ (by decide) _ _ _).trans (mset_eq _ _ _ _))) ((mset_nk _ (by decide) _ _ _).trans ((mset_nk _ (by decide) _ _ _).trans ((mset_nk _ (by decide) _ _ _).trans ((mset_nk _ (by decide) _ _ _).trans ((mset_nk _ (by decide) _ _ _).trans ((mset_nk _ (by decide) _ _ _).trans ((mset_nk _ (by decide) _ _ _).trans ((mset_nk _ (by decide) _ _ _).trans ((mset_nk _ (by decide) _ _ _).trans (hlen)))))))))) hl80 (by omega) (mset_eq _ _ _ _)) (cwV 0 hts gX6_order_X6_number rfl rfl rfl (by decide +kernel) ⟨Nat.le_of_ble_eq_true rfl, Nat.le_of_ble_eq_true rfl⟩) rfl hl (Nat.le_of_ble_eq_true rfl) ⟨Nat.zero_le _, Nat.zero_le _⟩ dX6_order_204 rfl (fun rb58 M1 H locs h59 hI => ?_)
                  rw [h59] at hI
                  refine m_put hx hb hts hin hown hK hA hI 16 (by decide) (hts (.fieldLink RX6 164 "WinderLaddersModel" "three" "I") (by decide +kernel)) (fun h => absurd h (by decide)) dX6_order_207 (fun H locs hI => ?_)
                  refine lv_aload_n hx hb dX6_order_210 rfl (lv_at hl 4 rfl) ?_
                  refine m_get hx hb hts hin hown hK hI 8 (by decide) (hts (.fieldLink RX6 29 "WinderLaddersModel" "row" "[I") (by decide +kernel)) (v := .ref (q 7)) rfl dX6_order_211 ?_
                  refine lv_iconst (v := 0) hx hb dX6_order_214 (by decide) ?_
                  refine lv_aload_n hx hb dX6_order_215 rfl (lv_at hl 4 rfl) ?_
                  refine m_get hx hb hts hin hown hK hI 14 (by decide) (hts (.fieldLink RX6 158 "WinderLaddersModel" "one" "I") (by decide +kernel)) (v := .int vb29) (congrArg (fun z => some (Value.int z)) ((mset_nk _ (by decide) _ _ _).trans ((mset_nk _ (by decide) _ _ _).trans ((mset_nk _ (by decide) _ _ _).trans ((mset_nk _ (by decide) _ _ _).trans ((mset_nk _ (by decide) _ _ _).trans (mset_eq _ _ _ _))))))) dX6_order_216 ?_
                  refine m_ast hx hb hK hA hI 8 (by decide) (0) (by show _ < 80; omega) rfl dX6_order_219 (fun H locs hI => ?_)
                  refine lv_aload_n hx hb dX6_order_220 rfl (lv_at hl 4 rfl) ?_
                  refine lv_iconst (v := 1) hx hb dX6_order_221 (by decide) ?_
                  refine m_put hx hb hts hin hown hK hA hI 9 (by decide) (hts (.fieldLink RX6 58 "WinderLaddersModel" "inRow" "I") (by decide +kernel)) (fun h => absurd h (by decide)) dX6_order_222 (fun H locs hI => ?_)
                  refine lv_iload_n hx hb dX6_order_225 rfl (lv_at hl 3 rfl) ?_
                  refine lv_bipush (v := 98) hx hb dX6_order_226 (by decide) ?_
                  refine lv_icmp_ne (tgt := 277) hx hb dX6_order_228 (by decide) (fun _ => ?_) (fun c60 => absurd c60 (by decide))
                  exact m_vret hx hb hr hI (ordP_no (pl := pb34) (by simp [rO, rP, ec, c1, nc1, c16, c23, b29, b32, b34, b36]) (by simp [mset]) (by simp [mset, hp]) (((((((((((((Pk.rf M).set (by decide) _ _).set (by decide) _ _).set (by decide) _ _).set (by decide) _ _).set (by decide) _ _).set (by decide) _ _).set (by decide) _ _).set (by decide) _ _).set (by decide) _ _).set (by decide) _ _).set (by decide) _ _).set (by decide) _ _)) dX6_order_277 hlocks
              · skip
                rw [hm9] at hI
                refine m_put hx hb hts hin hown hK hA hI 15 (by decide) (hts (.fieldLink RX6 161 "WinderLaddersModel" "two" "I") (by decide +kernel)) (fun h => absurd h (by decide)) dX6_order_149 (fun H locs hI => ?_)
                refine lv_aload_n hx hb dX6_order_152 rfl (lv_at hl 3 rfl) ?_
                refine lv_bipush (v := 126) hx hb dX6_order_153 (by decide) ?_
                refine lv_bipush (v := 126) hx hb dX6_order_155 (by decide) ?_
                refine m_calli (As := [.int 126, .int 126]) (rest := []) hx hb hml hown hts hK hI (k_X6_sign1 l dd g q A hA (mset (mset (mset (mset (mset (mset (mset (mset M 12 (0) (0)) 11 (0) (nI (pp + 1))) 13 (0) (43)) 11 (0) (nI pb29)) 14 (0) (vb29)) 11 (0) (nI (pb29 + 1))) 12 (0) (1)) 15 (0) (rb34)) 126 126 (pb29 + 1) len ((mset_nk _ (by decide) _ _ _).trans ((mset_nk _ (by decide) _ _ _).trans (mset_eq _ _ _ _))) ((mset_nk _ (by decide) _ _ _).trans ((mset_nk _ (by decide) _ _ _).trans ((mset_nk _ (by decide) _ _ _).trans ((mset_nk _ (by decide) _ _ _).trans ((mset_nk _ (by decide) _ _ _).trans ((mset_nk _ (by decide) _ _ _).trans ((mset_nk _ (by decide) _ _ _).trans ((mset_nk _ (by decide) _ _ _).trans (hlen))))))))) hl80 (by omega) ((mset_nk _ (by decide) _ _ _).trans (mset_eq _ _ _ _))) (cwV 2 hts gX6_order_X6_sign rfl rfl rfl (by decide +kernel) ⟨Nat.le_of_ble_eq_true rfl, Nat.le_of_ble_eq_true rfl⟩) rfl hl (Nat.le_of_ble_eq_true rfl) ⟨Nat.zero_le _, Nat.zero_le _⟩ dX6_order_157 rfl (fun rb61 M1 H locs h62 hI => ?_)
                rw [h62] at hI
                refine lv_istore_n (lv' := [(3, .int rb61), (2, .int 0), (1, .int 43), (0, .ref (q 0))]) hx hb dX6_order_160 rfl hl (by decide) rfl (fun ls hl => ?_)
                refine lv_aload_n hx hb dX6_order_161 rfl (lv_at hl 3 rfl) ?_
                refine lv_bipush (v := 45) hx hb dX6_order_162 (by decide) ?_
                refine lv_bipush (v := 45) hx hb dX6_order_164 (by decide) ?_
                refine m_calli (As := [.int 45, .int 45]) (rest := []) hx hb hml hown hts hK hI (k_X6_isNext1 l dd g q A hA (mset (mset (mset (mset (mset (mset (mset (mset M 12 (0) (0)) 11 (0) (nI (pp + 1))) 13 (0) (43)) 11 (0) (nI pb29)) 14 (0) (vb29)) 11 (0) (nI (pb29 + 1))) 12 (0) (1)) 15 (0) (rb34)) 45 45 (pb29 + 1) len ((mset_nk _ (by decide) _ _ _).trans ((mset_nk _ (by decide) _ _ _).trans (mset_eq _ _ _ _))) ((mset_nk _ (by decide) _ _ _).trans ((mset_nk _ (by decide) _ _ _).trans ((mset_nk _ (by decide) _ _ _).trans ((mset_nk _ (by decide) _ _ _).trans ((mset_nk _ (by decide) _ _ _).trans ((mset_nk _ (by decide) _ _ _).trans ((mset_nk _ (by decide) _ _ _).trans ((mset_nk _ (by decide) _ _ _).trans (hlen))))))))) hl80 (by omega) ((mset_nk _ (by decide) _ _ _).trans (mset_eq _ _ _ _))) (cwV 2 hts gX6_order_X6_isNext rfl rfl rfl (by decide +kernel) ⟨Nat.le_of_ble_eq_true rfl, Nat.le_of_ble_eq_true rfl⟩) rfl hl (Nat.le_of_ble_eq_true rfl) ⟨Nat.zero_le _, Nat.zero_le _⟩ dX6_order_166 rfl (fun r M1 H locs h64 hI => ?_)
                obtain ⟨hr9, hm9⟩ := h64
                rw [hm9] at hI
                subst hr9
                refine lv_istore (lv' := [(4, .int 0), (3, .int rb61), (2, .int 0), (1, .int 43), (0, .ref (q 0))]) hx hb dX6_order_169 hl (by decide) rfl (fun ls hl => ?_)
                refine lv_iload hx hb dX6_order_171 (lv_at hl 0 rfl) ?_
                refine lv_if_eq (tgt := 187) hx hb dX6_order_173 (by decide) (fun _ => ?_) (fun c65 => absurd (by decide) c65)
                refine lv_iconst (v := 0) hx hb dX6_order_187 (by decide) ?_
                refine lv_istore_n (lv' := [(3, .int 0), (4, .int 0), (2, .int 0), (1, .int 43), (0, .ref (q 0))]) hx hb dX6_order_188 rfl hl (by decide) rfl (fun ls hl => ?_)
                refine lv_aload_n hx hb dX6_order_189 rfl (lv_at hl 4 rfl) ?_
                refine lv_iload hx hb dX6_order_190 (lv_at hl 1 rfl) ?_
                refine lv_if_eq (tgt := 203) hx hb dX6_order_192 (by decide) (fun _ => ?_) (fun c66 => absurd (by decide) c66)
                refine lv_aload_n hx hb dX6_order_203 rfl (lv_at hl 4 rfl) ?_
                refine m_calli (As := []) (rest := [.ref (q 0)]) hx hb hml hown hts hK hI (k_X6_number1 l dd g q A hA (mset (mset (mset (mset (mset (mset (mset (mset M 12 (0) (0)) 11 (0) (nI (pp + 1))) 13 (0) (43)) 11 (0) (nI pb29)) 14 (0) (vb29)) 11 (0) (nI (pb29 + 1))) 12 (0) (1)) 15 (0) (rb34)) (pb29 + 1) len ((mset_nk _ (by decide) _ _ _).trans ((mset_nk _ (by decide) _ _ _).trans (mset_eq _ _ _ _))) ((mset_nk _ (by decide) _ _ _).trans ((mset_nk _ (by decide) _ _ _).trans ((mset_nk _ (by decide) _ _ _).trans ((mset_nk _ (by decide) _ _ _).trans ((mset_nk _ (by decide) _ _ _).trans ((mset_nk _ (by decide) _ _ _).trans ((mset_nk _ (by decide) _ _ _).trans ((mset_nk _ (by decide) _ _ _).trans (hlen))))))))) hl80 (by omega) ((mset_nk _ (by decide) _ _ _).trans (mset_eq _ _ _ _))) (cwV 0 hts gX6_order_X6_number rfl rfl rfl (by decide +kernel) ⟨Nat.le_of_ble_eq_true rfl, Nat.le_of_ble_eq_true rfl⟩) rfl hl (Nat.le_of_ble_eq_true rfl) ⟨Nat.zero_le _, Nat.zero_le _⟩ dX6_order_204 rfl (fun rb67 M1 H locs h68 hI => ?_)
                rw [h68] at hI
                refine m_put hx hb hts hin hown hK hA hI 16 (by decide) (hts (.fieldLink RX6 164 "WinderLaddersModel" "three" "I") (by decide +kernel)) (fun h => absurd h (by decide)) dX6_order_207 (fun H locs hI => ?_)
                refine lv_aload_n hx hb dX6_order_210 rfl (lv_at hl 4 rfl) ?_
                refine m_get hx hb hts hin hown hK hI 8 (by decide) (hts (.fieldLink RX6 29 "WinderLaddersModel" "row" "[I") (by decide +kernel)) (v := .ref (q 7)) rfl dX6_order_211 ?_
                refine lv_iconst (v := 0) hx hb dX6_order_214 (by decide) ?_
                refine lv_aload_n hx hb dX6_order_215 rfl (lv_at hl 4 rfl) ?_
                refine m_get hx hb hts hin hown hK hI 14 (by decide) (hts (.fieldLink RX6 158 "WinderLaddersModel" "one" "I") (by decide +kernel)) (v := .int vb29) (congrArg (fun z => some (Value.int z)) ((mset_nk _ (by decide) _ _ _).trans ((mset_nk _ (by decide) _ _ _).trans ((mset_nk _ (by decide) _ _ _).trans ((mset_nk _ (by decide) _ _ _).trans (mset_eq _ _ _ _)))))) dX6_order_216 ?_
                refine m_ast hx hb hK hA hI 8 (by decide) (0) (by show _ < 80; omega) rfl dX6_order_219 (fun H locs hI => ?_)
                refine lv_aload_n hx hb dX6_order_220 rfl (lv_at hl 4 rfl) ?_
                refine lv_iconst (v := 1) hx hb dX6_order_221 (by decide) ?_
                refine m_put hx hb hts hin hown hK hA hI 9 (by decide) (hts (.fieldLink RX6 58 "WinderLaddersModel" "inRow" "I") (by decide +kernel)) (fun h => absurd h (by decide)) dX6_order_222 (fun H locs hI => ?_)
                refine lv_iload_n hx hb dX6_order_225 rfl (lv_at hl 3 rfl) ?_
                refine lv_bipush (v := 98) hx hb dX6_order_226 (by decide) ?_
                refine lv_icmp_ne (tgt := 277) hx hb dX6_order_228 (by decide) (fun _ => ?_) (fun c69 => absurd c69 (by decide))
                exact m_vret hx hb hr hI (ordP_no (pl := pb29 + 1) (by simp [rO, rP, ec, c1, nc1, c16, c23, b29, b32, b34]) (by simp [mset]) (by simp [mset, hp]) ((((((((((((Pk.rf M).set (by decide) _ _).set (by decide) _ _).set (by decide) _ _).set (by decide) _ _).set (by decide) _ _).set (by decide) _ _).set (by decide) _ _).set (by decide) _ _).set (by decide) _ _).set (by decide) _ _).set (by decide) _ _)) dX6_order_277 hlocks
            · skip
              rw [hm9] at hI
              refine lv_istore_n (lv' := [(3, .int r), (2, .int 0), (1, .int 43), (0, .ref (q 0))]) hx hb dX6_order_143 rfl hl (by decide) rfl (fun ls hl => ?_)
              refine lv_aload_n hx hb dX6_order_144 rfl (lv_at hl 3 rfl) ?_
              refine lv_aload_n hx hb dX6_order_145 rfl (lv_at hl 3 rfl) ?_
              refine m_calli (As := []) (rest := [.ref (q 0)]) hx hb hml hown hts hK hI (k_X6_number1 l dd g q A hA (mset (mset (mset (mset (mset (mset M 12 (0) (0)) 11 (0) (nI (pp + 1))) 13 (0) (43)) 11 (0) (nI pb29)) 14 (0) (vb29)) 12 (0) (1)) pb29 len ((mset_nk _ (by decide) _ _ _).trans ((mset_nk _ (by decide) _ _ _).trans (mset_eq _ _ _ _))) ((mset_nk _ (by decide) _ _ _).trans ((mset_nk _ (by decide) _ _ _).trans ((mset_nk _ (by decide) _ _ _).trans ((mset_nk _ (by decide) _ _ _).trans ((mset_nk _ (by decide) _ _ _).trans ((mset_nk _ (by decide) _ _ _).trans (hlen))))))) hl80 (by omega) (mset_eq _ _ _ _)) (cwV 0 hts gX6_order_X6_number rfl rfl rfl (by decide +kernel) ⟨Nat.le_of_ble_eq_true rfl, Nat.le_of_ble_eq_true rfl⟩) rfl hl (Nat.le_of_ble_eq_true rfl) ⟨Nat.zero_le _, Nat.zero_le _⟩ dX6_order_146 rfl (fun rb70 M1 H locs h71 hI => ?_)
              rw [h71] at hI
              refine m_put hx hb hts hin hown hK hA hI 15 (by decide) (hts (.fieldLink RX6 161 "WinderLaddersModel" "two" "I") (by decide +kernel)) (fun h => absurd h (by decide)) dX6_order_149 (fun H locs hI => ?_)
              refine lv_aload_n hx hb dX6_order_152 rfl (lv_at hl 3 rfl) ?_
              refine lv_bipush (v := 126) hx hb dX6_order_153 (by decide) ?_
              refine lv_bipush (v := 126) hx hb dX6_order_155 (by decide) ?_
              refine m_calli (As := [.int 126, .int 126]) (rest := []) hx hb hml hown hts hK hI (k_X6_sign1 l dd g q A hA (mset (mset (mset (mset (mset (mset (mset M 12 (0) (0)) 11 (0) (nI (pp + 1))) 13 (0) (43)) 11 (0) (nI pb29)) 14 (0) (vb29)) 12 (0) (1)) 15 (0) (rb70)) 126 126 pb29 len ((mset_nk _ (by decide) _ _ _).trans ((mset_nk _ (by decide) _ _ _).trans ((mset_nk _ (by decide) _ _ _).trans (mset_eq _ _ _ _)))) ((mset_nk _ (by decide) _ _ _).trans ((mset_nk _ (by decide) _ _ _).trans ((mset_nk _ (by decide) _ _ _).trans ((mset_nk _ (by decide) _ _ _).trans ((mset_nk _ (by decide) _ _ _).trans ((mset_nk _ (by decide) _ _ _).trans ((mset_nk _ (by decide) _ _ _).trans (hlen)))))))) hl80 (by omega) ((mset_nk _ (by decide) _ _ _).trans (mset_eq _ _ _ _))) (cwV 2 hts gX6_order_X6_sign rfl rfl rfl (by decide +kernel) ⟨Nat.le_of_ble_eq_true rfl, Nat.le_of_ble_eq_true rfl⟩) rfl hl (Nat.le_of_ble_eq_true rfl) ⟨Nat.zero_le _, Nat.zero_le _⟩ dX6_order_157 rfl (fun rb72 M1 H locs h73 hI => ?_)
              rw [h73] at hI
              refine lv_istore_n (lv' := [(3, .int rb72), (2, .int 0), (1, .int 43), (0, .ref (q 0))]) hx hb dX6_order_160 rfl hl (by decide) rfl (fun ls hl => ?_)
              refine lv_aload_n hx hb dX6_order_161 rfl (lv_at hl 3 rfl) ?_
              refine lv_bipush (v := 45) hx hb dX6_order_162 (by decide) ?_
              refine lv_bipush (v := 45) hx hb dX6_order_164 (by decide) ?_
              refine m_calli (As := [.int 45, .int 45]) (rest := []) hx hb hml hown hts hK hI (k_X6_isNext1 l dd g q A hA (mset (mset (mset (mset (mset (mset (mset M 12 (0) (0)) 11 (0) (nI (pp + 1))) 13 (0) (43)) 11 (0) (nI pb29)) 14 (0) (vb29)) 12 (0) (1)) 15 (0) (rb70)) 45 45 pb29 len ((mset_nk _ (by decide) _ _ _).trans ((mset_nk _ (by decide) _ _ _).trans ((mset_nk _ (by decide) _ _ _).trans (mset_eq _ _ _ _)))) ((mset_nk _ (by decide) _ _ _).trans ((mset_nk _ (by decide) _ _ _).trans ((mset_nk _ (by decide) _ _ _).trans ((mset_nk _ (by decide) _ _ _).trans ((mset_nk _ (by decide) _ _ _).trans ((mset_nk _ (by decide) _ _ _).trans ((mset_nk _ (by decide) _ _ _).trans (hlen)))))))) hl80 (by omega) ((mset_nk _ (by decide) _ _ _).trans (mset_eq _ _ _ _))) (cwV 2 hts gX6_order_X6_isNext rfl rfl rfl (by decide +kernel) ⟨Nat.le_of_ble_eq_true rfl, Nat.le_of_ble_eq_true rfl⟩) rfl hl (Nat.le_of_ble_eq_true rfl) ⟨Nat.zero_le _, Nat.zero_le _⟩ dX6_order_166 rfl (fun r M1 H locs h75 hI => ?_)
              obtain ⟨hr9, hm9⟩ := h75
              rw [hm9] at hI
              subst hr9
              refine lv_istore (lv' := [(4, .int 0), (3, .int rb72), (2, .int 0), (1, .int 43), (0, .ref (q 0))]) hx hb dX6_order_169 hl (by decide) rfl (fun ls hl => ?_)
              refine lv_iload hx hb dX6_order_171 (lv_at hl 0 rfl) ?_
              refine lv_if_eq (tgt := 187) hx hb dX6_order_173 (by decide) (fun _ => ?_) (fun c76 => absurd (by decide) c76)
              refine lv_iconst (v := 0) hx hb dX6_order_187 (by decide) ?_
              refine lv_istore_n (lv' := [(3, .int 0), (4, .int 0), (2, .int 0), (1, .int 43), (0, .ref (q 0))]) hx hb dX6_order_188 rfl hl (by decide) rfl (fun ls hl => ?_)
              refine lv_aload_n hx hb dX6_order_189 rfl (lv_at hl 4 rfl) ?_
              refine lv_iload hx hb dX6_order_190 (lv_at hl 1 rfl) ?_
              refine lv_if_eq (tgt := 203) hx hb dX6_order_192 (by decide) (fun _ => ?_) (fun c77 => absurd (by decide) c77)
              refine lv_aload_n hx hb dX6_order_203 rfl (lv_at hl 4 rfl) ?_
              refine m_calli (As := []) (rest := [.ref (q 0)]) hx hb hml hown hts hK hI (k_X6_number1 l dd g q A hA (mset (mset (mset (mset (mset (mset (mset M 12 (0) (0)) 11 (0) (nI (pp + 1))) 13 (0) (43)) 11 (0) (nI pb29)) 14 (0) (vb29)) 12 (0) (1)) 15 (0) (rb70)) pb29 len ((mset_nk _ (by decide) _ _ _).trans ((mset_nk _ (by decide) _ _ _).trans ((mset_nk _ (by decide) _ _ _).trans (mset_eq _ _ _ _)))) ((mset_nk _ (by decide) _ _ _).trans ((mset_nk _ (by decide) _ _ _).trans ((mset_nk _ (by decide) _ _ _).trans ((mset_nk _ (by decide) _ _ _).trans ((mset_nk _ (by decide) _ _ _).trans ((mset_nk _ (by decide) _ _ _).trans ((mset_nk _ (by decide) _ _ _).trans (hlen)))))))) hl80 (by omega) ((mset_nk _ (by decide) _ _ _).trans (mset_eq _ _ _ _))) (cwV 0 hts gX6_order_X6_number rfl rfl rfl (by decide +kernel) ⟨Nat.le_of_ble_eq_true rfl, Nat.le_of_ble_eq_true rfl⟩) rfl hl (Nat.le_of_ble_eq_true rfl) ⟨Nat.zero_le _, Nat.zero_le _⟩ dX6_order_204 rfl (fun rb78 M1 H locs h79 hI => ?_)
              rw [h79] at hI
              refine m_put hx hb hts hin hown hK hA hI 16 (by decide) (hts (.fieldLink RX6 164 "WinderLaddersModel" "three" "I") (by decide +kernel)) (fun h => absurd h (by decide)) dX6_order_207 (fun H locs hI => ?_)
              refine lv_aload_n hx hb dX6_order_210 rfl (lv_at hl 4 rfl) ?_
              refine m_get hx hb hts hin hown hK hI 8 (by decide) (hts (.fieldLink RX6 29 "WinderLaddersModel" "row" "[I") (by decide +kernel)) (v := .ref (q 7)) rfl dX6_order_211 ?_
              refine lv_iconst (v := 0) hx hb dX6_order_214 (by decide) ?_
              refine lv_aload_n hx hb dX6_order_215 rfl (lv_at hl 4 rfl) ?_
              refine m_get hx hb hts hin hown hK hI 14 (by decide) (hts (.fieldLink RX6 158 "WinderLaddersModel" "one" "I") (by decide +kernel)) (v := .int vb29) (congrArg (fun z => some (Value.int z)) ((mset_nk _ (by decide) _ _ _).trans ((mset_nk _ (by decide) _ _ _).trans ((mset_nk _ (by decide) _ _ _).trans (mset_eq _ _ _ _))))) dX6_order_216 ?_
              refine m_ast hx hb hK hA hI 8 (by decide) (0) (by show _ < 80; omega) rfl dX6_order_219 (fun H locs hI => ?_)
              refine lv_aload_n hx hb dX6_order_220 rfl (lv_at hl 4 rfl) ?_
              refine lv_iconst (v := 1) hx hb dX6_order_221 (by decide) ?_
              refine m_put hx hb hts hin hown hK hA hI 9 (by decide) (hts (.fieldLink RX6 58 "WinderLaddersModel" "inRow" "I") (by decide +kernel)) (fun h => absurd h (by decide)) dX6_order_222 (fun H locs hI => ?_)
              refine lv_iload_n hx hb dX6_order_225 rfl (lv_at hl 3 rfl) ?_
              refine lv_bipush (v := 98) hx hb dX6_order_226 (by decide) ?_
              refine lv_icmp_ne (tgt := 277) hx hb dX6_order_228 (by decide) (fun _ => ?_) (fun c80 => absurd c80 (by decide))
              exact m_vret hx hb hr hI (ordP_no (pl := pb29) (by simp [rO, rP, ec, c1, nc1, c16, c23, b29, b32]) (by simp [mset]) (by simp [mset, hp]) (((((((((((Pk.rf M).set (by decide) _ _).set (by decide) _ _).set (by decide) _ _).set (by decide) _ _).set (by decide) _ _).set (by decide) _ _).set (by decide) _ _).set (by decide) _ _).set (by decide) _ _).set (by decide) _ _)) dX6_order_277 hlocks
          · skip
            rw [hm9] at hI
            refine m_put hx hb hts hin hown hK hA hI 14 (by decide) (hts (.fieldLink RX6 158 "WinderLaddersModel" "one" "I") (by decide +kernel)) (fun h => absurd h (by decide)) dX6_order_126 (fun H locs hI => ?_)
            refine lv_iload_n hx hb dX6_order_129 rfl (lv_at hl 1 rfl) ?_
            refine lv_bipush (v := 43) hx hb dX6_order_130 (by decide) ?_
            refine lv_icmp_ne (tgt := 210) hx hb dX6_order_132 (by decide) (fun c81 => absurd (by decide) c81) (fun _ => ?_)
            refine lv_aload_n hx hb dX6_order_135 rfl (lv_at hl 2 rfl) ?_
            refine lv_bipush (v := 94) hx hb dX6_order_136 (by decide) ?_
            refine lv_bipush (v := 94) hx hb dX6_order_138 (by decide) ?_
            refine m_calli (As := [.int 94, .int 94]) (rest := []) hx hb hml hown hts hK hI (k_X6_sign1 l dd g q A hA (mset (mset (mset (mset (mset M 12 (0) (0)) 11 (0) (nI (pp + 1))) 13 (0) (43)) 12 (0) (1)) 14 (0) (rb29)) 94 94 (pp + 1) len ((mset_nk _ (by decide) _ _ _).trans ((mset_nk _ (by decide) _ _ _).trans ((mset_nk _ (by decide) _ _ _).trans (mset_eq _ _ _ _)))) ((mset_nk _ (by decide) _ _ _).trans ((mset_nk _ (by decide) _ _ _).trans ((mset_nk _ (by decide) _ _ _).trans ((mset_nk _ (by decide) _ _ _).trans ((mset_nk _ (by decide) _ _ _).trans (hlen)))))) hl80 (by omega) ((mset_nk _ (by decide) _ _ _).trans (mset_eq _ _ _ _))) (cwV 2 hts gX6_order_X6_sign rfl rfl rfl (by decide +kernel) ⟨Nat.le_of_ble_eq_true rfl, Nat.le_of_ble_eq_true rfl⟩) rfl hl (Nat.le_of_ble_eq_true rfl) ⟨Nat.zero_le _, Nat.zero_le _⟩ dX6_order_140 rfl (fun rb82 M1 H locs h83 hI => ?_)
            rw [h83] at hI
            refine lv_istore_n (lv' := [(3, .int rb82), (2, .int 0), (1, .int 43), (0, .ref (q 0))]) hx hb dX6_order_143 rfl hl (by decide) rfl (fun ls hl => ?_)
            refine lv_aload_n hx hb dX6_order_144 rfl (lv_at hl 3 rfl) ?_
            refine lv_aload_n hx hb dX6_order_145 rfl (lv_at hl 3 rfl) ?_
            refine m_calli (As := []) (rest := [.ref (q 0)]) hx hb hml hown hts hK hI (k_X6_number1 l dd g q A hA (mset (mset (mset (mset (mset M 12 (0) (0)) 11 (0) (nI (pp + 1))) 13 (0) (43)) 12 (0) (1)) 14 (0) (rb29)) (pp + 1) len ((mset_nk _ (by decide) _ _ _).trans ((mset_nk _ (by decide) _ _ _).trans ((mset_nk _ (by decide) _ _ _).trans (mset_eq _ _ _ _)))) ((mset_nk _ (by decide) _ _ _).trans ((mset_nk _ (by decide) _ _ _).trans ((mset_nk _ (by decide) _ _ _).trans ((mset_nk _ (by decide) _ _ _).trans ((mset_nk _ (by decide) _ _ _).trans (hlen)))))) hl80 (by omega) ((mset_nk _ (by decide) _ _ _).trans (mset_eq _ _ _ _))) (cwV 0 hts gX6_order_X6_number rfl rfl rfl (by decide +kernel) ⟨Nat.le_of_ble_eq_true rfl, Nat.le_of_ble_eq_true rfl⟩) rfl hl (Nat.le_of_ble_eq_true rfl) ⟨Nat.zero_le _, Nat.zero_le _⟩ dX6_order_146 rfl (fun rb84 M1 H locs h85 hI => ?_)
            rw [h85] at hI
            refine m_put hx hb hts hin hown hK hA hI 15 (by decide) (hts (.fieldLink RX6 161 "WinderLaddersModel" "two" "I") (by decide +kernel)) (fun h => absurd h (by decide)) dX6_order_149 (fun H locs hI => ?_)
            refine lv_aload_n hx hb dX6_order_152 rfl (lv_at hl 3 rfl) ?_
            refine lv_bipush (v := 126) hx hb dX6_order_153 (by decide) ?_
            refine lv_bipush (v := 126) hx hb dX6_order_155 (by decide) ?_
            refine m_calli (As := [.int 126, .int 126]) (rest := []) hx hb hml hown hts hK hI (k_X6_sign1 l dd g q A hA (mset (mset (mset (mset (mset (mset M 12 (0) (0)) 11 (0) (nI (pp + 1))) 13 (0) (43)) 12 (0) (1)) 14 (0) (rb29)) 15 (0) (rb84)) 126 126 (pp + 1) len ((mset_nk _ (by decide) _ _ _).trans ((mset_nk _ (by decide) _ _ _).trans ((mset_nk _ (by decide) _ _ _).trans ((mset_nk _ (by decide) _ _ _).trans (mset_eq _ _ _ _))))) ((mset_nk _ (by decide) _ _ _).trans ((mset_nk _ (by decide) _ _ _).trans ((mset_nk _ (by decide) _ _ _).trans ((mset_nk _ (by decide) _ _ _).trans ((mset_nk _ (by decide) _ _ _).trans ((mset_nk _ (by decide) _ _ _).trans (hlen))))))) hl80 (by omega) ((mset_nk _ (by decide) _ _ _).trans ((mset_nk _ (by decide) _ _ _).trans (mset_eq _ _ _ _)))) (cwV 2 hts gX6_order_X6_sign rfl rfl rfl (by decide +kernel) ⟨Nat.le_of_ble_eq_true rfl, Nat.le_of_ble_eq_true rfl⟩) rfl hl (Nat.le_of_ble_eq_true rfl) ⟨Nat.zero_le _, Nat.zero_le _⟩ dX6_order_157 rfl (fun rb86 M1 H locs h87 hI => ?_)
            rw [h87] at hI
            refine lv_istore_n (lv' := [(3, .int rb86), (2, .int 0), (1, .int 43), (0, .ref (q 0))]) hx hb dX6_order_160 rfl hl (by decide) rfl (fun ls hl => ?_)
            refine lv_aload_n hx hb dX6_order_161 rfl (lv_at hl 3 rfl) ?_
            refine lv_bipush (v := 45) hx hb dX6_order_162 (by decide) ?_
            refine lv_bipush (v := 45) hx hb dX6_order_164 (by decide) ?_
            refine m_calli (As := [.int 45, .int 45]) (rest := []) hx hb hml hown hts hK hI (k_X6_isNext1 l dd g q A hA (mset (mset (mset (mset (mset (mset M 12 (0) (0)) 11 (0) (nI (pp + 1))) 13 (0) (43)) 12 (0) (1)) 14 (0) (rb29)) 15 (0) (rb84)) 45 45 (pp + 1) len ((mset_nk _ (by decide) _ _ _).trans ((mset_nk _ (by decide) _ _ _).trans ((mset_nk _ (by decide) _ _ _).trans ((mset_nk _ (by decide) _ _ _).trans (mset_eq _ _ _ _))))) ((mset_nk _ (by decide) _ _ _).trans ((mset_nk _ (by decide) _ _ _).trans ((mset_nk _ (by decide) _ _ _).trans ((mset_nk _ (by decide) _ _ _).trans ((mset_nk _ (by decide) _ _ _).trans ((mset_nk _ (by decide) _ _ _).trans (hlen))))))) hl80 (by omega) ((mset_nk _ (by decide) _ _ _).trans ((mset_nk _ (by decide) _ _ _).trans (mset_eq _ _ _ _)))) (cwV 2 hts gX6_order_X6_isNext rfl rfl rfl (by decide +kernel) ⟨Nat.le_of_ble_eq_true rfl, Nat.le_of_ble_eq_true rfl⟩) rfl hl (Nat.le_of_ble_eq_true rfl) ⟨Nat.zero_le _, Nat.zero_le _⟩ dX6_order_166 rfl (fun r M1 H locs h89 hI => ?_)
            obtain ⟨hr9, hm9⟩ := h89
            rw [hm9] at hI
            subst hr9
            refine lv_istore (lv' := [(4, .int 0), (3, .int rb86), (2, .int 0), (1, .int 43), (0, .ref (q 0))]) hx hb dX6_order_169 hl (by decide) rfl (fun ls hl => ?_)
            refine lv_iload hx hb dX6_order_171 (lv_at hl 0 rfl) ?_
            refine lv_if_eq (tgt := 187) hx hb dX6_order_173 (by decide) (fun _ => ?_) (fun c90 => absurd (by decide) c90)
            refine lv_iconst (v := 0) hx hb dX6_order_187 (by decide) ?_
            refine lv_istore_n (lv' := [(3, .int 0), (4, .int 0), (2, .int 0), (1, .int 43), (0, .ref (q 0))]) hx hb dX6_order_188 rfl hl (by decide) rfl (fun ls hl => ?_)
            refine lv_aload_n hx hb dX6_order_189 rfl (lv_at hl 4 rfl) ?_
            refine lv_iload hx hb dX6_order_190 (lv_at hl 1 rfl) ?_
            refine lv_if_eq (tgt := 203) hx hb dX6_order_192 (by decide) (fun _ => ?_) (fun c91 => absurd (by decide) c91)
            refine lv_aload_n hx hb dX6_order_203 rfl (lv_at hl 4 rfl) ?_
            refine m_calli (As := []) (rest := [.ref (q 0)]) hx hb hml hown hts hK hI (k_X6_number1 l dd g q A hA (mset (mset (mset (mset (mset (mset M 12 (0) (0)) 11 (0) (nI (pp + 1))) 13 (0) (43)) 12 (0) (1)) 14 (0) (rb29)) 15 (0) (rb84)) (pp + 1) len ((mset_nk _ (by decide) _ _ _).trans ((mset_nk _ (by decide) _ _ _).trans ((mset_nk _ (by decide) _ _ _).trans ((mset_nk _ (by decide) _ _ _).trans (mset_eq _ _ _ _))))) ((mset_nk _ (by decide) _ _ _).trans ((mset_nk _ (by decide) _ _ _).trans ((mset_nk _ (by decide) _ _ _).trans ((mset_nk _ (by decide) _ _ _).trans ((mset_nk _ (by decide) _ _ _).trans ((mset_nk _ (by decide) _ _ _).trans (hlen))))))) hl80 (by omega) ((mset_nk _ (by decide) _ _ _).trans ((mset_nk _ (by decide) _ _ _).trans (mset_eq _ _ _ _)))) (cwV 0 hts gX6_order_X6_number rfl rfl rfl (by decide +kernel) ⟨Nat.le_of_ble_eq_true rfl, Nat.le_of_ble_eq_true rfl⟩) rfl hl (Nat.le_of_ble_eq_true rfl) ⟨Nat.zero_le _, Nat.zero_le _⟩ dX6_order_204 rfl (fun rb92 M1 H locs h93 hI => ?_)
            rw [h93] at hI
            refine m_put hx hb hts hin hown hK hA hI 16 (by decide) (hts (.fieldLink RX6 164 "WinderLaddersModel" "three" "I") (by decide +kernel)) (fun h => absurd h (by decide)) dX6_order_207 (fun H locs hI => ?_)
            refine lv_aload_n hx hb dX6_order_210 rfl (lv_at hl 4 rfl) ?_
            refine m_get hx hb hts hin hown hK hI 8 (by decide) (hts (.fieldLink RX6 29 "WinderLaddersModel" "row" "[I") (by decide +kernel)) (v := .ref (q 7)) rfl dX6_order_211 ?_
            refine lv_iconst (v := 0) hx hb dX6_order_214 (by decide) ?_
            refine lv_aload_n hx hb dX6_order_215 rfl (lv_at hl 4 rfl) ?_
            refine m_get hx hb hts hin hown hK hI 14 (by decide) (hts (.fieldLink RX6 158 "WinderLaddersModel" "one" "I") (by decide +kernel)) (v := .int rb29) (congrArg (fun z => some (Value.int z)) ((mset_nk _ (by decide) _ _ _).trans ((mset_nk _ (by decide) _ _ _).trans (mset_eq _ _ _ _)))) dX6_order_216 ?_
            refine m_ast hx hb hK hA hI 8 (by decide) (0) (by show _ < 80; omega) rfl dX6_order_219 (fun H locs hI => ?_)
            refine lv_aload_n hx hb dX6_order_220 rfl (lv_at hl 4 rfl) ?_
            refine lv_iconst (v := 1) hx hb dX6_order_221 (by decide) ?_
            refine m_put hx hb hts hin hown hK hA hI 9 (by decide) (hts (.fieldLink RX6 58 "WinderLaddersModel" "inRow" "I") (by decide +kernel)) (fun h => absurd h (by decide)) dX6_order_222 (fun H locs hI => ?_)
            refine lv_iload_n hx hb dX6_order_225 rfl (lv_at hl 3 rfl) ?_
            refine lv_bipush (v := 98) hx hb dX6_order_226 (by decide) ?_
            refine lv_icmp_ne (tgt := 277) hx hb dX6_order_228 (by decide) (fun _ => ?_) (fun c94 => absurd c94 (by decide))
            exact m_vret hx hb hr hI (ordP_no (pl := pp + 1) (by simp [rO, rP, ec, c1, nc1, c16, c23, b29]) (by simp [mset]) (by simp [mset, hp]) ((((((((((Pk.rf M).set (by decide) _ _).set (by decide) _ _).set (by decide) _ _).set (by decide) _ _).set (by decide) _ _).set (by decide) _ _).set (by decide) _ _).set (by decide) _ _).set (by decide) _ _)) dX6_order_277 hlocks
        · skip
          refine lv_iload_n hx hb dX6_order_61 rfl (lv_at hl 1 rfl) ?_
          refine lv_bipush (v := 108) hx hb dX6_order_62 (by decide) ?_
          refine lv_icmp_eq (tgt := 83) hx hb dX6_order_64 (by decide) (fun c95 => ?_) (fun c95 => ?_)
          · skip
            subst c95
            refine lv_iconst (v := 0) hx hb dX6_order_83 (by decide) ?_
            refine m_put hx hb hts hin hown hK hA hI 12 (by decide) (hts (.fieldLink RX6 141 "WinderLaddersModel" "isWrong" "Z") (by decide +kernel)) (fun _ => by first | exact Or.inl rfl | exact Or.inr rfl) dX6_order_84 (fun H locs hI => ?_)
            refine lv_aload_n hx hb dX6_order_87 rfl (lv_at hl 2 rfl) ?_
            refine lv_dup hx hb dX6_order_88 rfl ?_
            refine m_get hx hb hts hin hown hK hI 11 (by decide) (hts (.fieldLink RX6 138 "WinderLaddersModel" "place" "I") (by decide +kernel)) (v := .int (nI pp)) (congrArg (fun z => some (Value.int z)) ((mset_nk _ (by decide) _ _ _).trans (hp))) dX6_order_89 ?_
            refine lv_aload_n hx hb dX6_order_92 rfl (lv_at hl 2 rfl) ?_
            refine m_get hx hb hts hin hown hK hI 12 (by decide) (hts (.fieldLink RX6 141 "WinderLaddersModel" "isWrong" "Z") (by decide +kernel)) (v := .int 0) (congrArg (fun z => some (Value.int z)) (mset_eq _ _ _ _)) dX6_order_93 ?_
            refine lv_if_eq (tgt := 103) hx hb dX6_order_96 (by decide) (fun _ => ?_) (fun c96 => absurd (by decide) c96)
            refine lv_iconst (v := 1) hx hb dX6_order_103 (by decide) ?_
            refine lv_iadd hx hb dX6_order_104 ?_
            refine lv_re (y := nI (pp + 1)) (nI_add (pp) (1)) ?_
            refine m_put hx hb hts hin hown hK hA hI 11 (by decide) (hts (.fieldLink RX6 138 "WinderLaddersModel" "place" "I") (by decide +kernel)) (fun h => absurd h (by decide)) dX6_order_105 (fun H locs hI => ?_)
            refine lv_aload_n hx hb dX6_order_108 rfl (lv_at hl 2 rfl) ?_
            refine lv_iload_n hx hb dX6_order_109 rfl (lv_at hl 1 rfl) ?_
            refine m_put hx hb hts hin hown hK hA hI 13 (by decide) (hts (.fieldLink RX6 152 "WinderLaddersModel" "letter" "I") (by decide +kernel)) (fun h => absurd h (by decide)) dX6_order_110 (fun H locs hI => ?_)
            refine lv_aload_n hx hb dX6_order_113 rfl (lv_at hl 2 rfl) ?_
            refine lv_iload_n hx hb dX6_order_114 rfl (lv_at hl 0 rfl) ?_
            refine lv_if_eq (tgt := 122) hx hb dX6_order_115 (by decide) (fun _ => ?_) (fun c97 => absurd (by decide) c97)
            refine lv_aload_n hx hb dX6_order_122 rfl (lv_at hl 2 rfl) ?_
            refine m_calli (As := []) (rest := [.ref (q 0)]) hx hb hml hown hts hK hI (k_X6_number0 l dd g q A hA (mset (mset (mset M 12 (0) (0)) 11 (0) (nI (pp + 1))) 13 (0) (108)) (pp + 1) len ((mset_nk _ (by decide) _ _ _).trans (mset_eq _ _ _ _)) ((mset_nk _ (by decide) _ _ _).trans ((mset_nk _ (by decide) _ _ _).trans ((mset_nk _ (by decide) _ _ _).trans (hlen)))) hl80 (by omega) ((mset_nk _ (by decide) _ _ _).trans ((mset_nk _ (by decide) _ _ _).trans (mset_eq _ _ _ _)))) (cwV 0 hts gX6_order_X6_number rfl rfl rfl (by decide +kernel) ⟨Nat.le_of_ble_eq_true rfl, Nat.le_of_ble_eq_true rfl⟩) rfl hl (Nat.le_of_ble_eq_true rfl) ⟨Nat.zero_le _, Nat.zero_le _⟩ dX6_order_123 rfl (fun rb98 M1 H locs h99 hI => ?_)
            rw [show (mset (mset (mset M 12 (0) (0)) 11 (0) (nI (pp + 1))) 13 (0) (108)) 6 = (M 6) from rfl] at h99
            rcases h99 with ⟨vb98, pb98, b98, hr9, hm9⟩ | ⟨b98, hm9⟩
            · skip
              rw [hr9]
              rw [hm9] at hI
              have lb98 := rN_place b98
              refine m_put hx hb hts hin hown hK hA hI 14 (by decide) (hts (.fieldLink RX6 158 "WinderLaddersModel" "one" "I") (by decide +kernel)) (fun h => absurd h (by decide)) dX6_order_126 (fun H locs hI => ?_)
              refine lv_iload_n hx hb dX6_order_129 rfl (lv_at hl 1 rfl) ?_
              refine lv_bipush (v := 43) hx hb dX6_order_130 (by decide) ?_
              refine lv_icmp_ne (tgt := 210) hx hb dX6_order_132 (by decide) (fun _ => ?_) (fun c100 => absurd c100 (by decide))
              refine lv_aload_n hx hb dX6_order_210 rfl (lv_at hl 2 rfl) ?_
              refine m_get hx hb hts hin hown hK hI 8 (by decide) (hts (.fieldLink RX6 29 "WinderLaddersModel" "row" "[I") (by decide +kernel)) (v := .ref (q 7)) rfl dX6_order_211 ?_
              refine lv_iconst (v := 0) hx hb dX6_order_214 (by decide) ?_
              refine lv_aload_n hx hb dX6_order_215 rfl (lv_at hl 2 rfl) ?_
              refine m_get hx hb hts hin hown hK hI 14 (by decide) (hts (.fieldLink RX6 158 "WinderLaddersModel" "one" "I") (by decide +kernel)) (v := .int vb98) (congrArg (fun z => some (Value.int z)) (mset_eq _ _ _ _)) dX6_order_216 ?_
              refine m_ast hx hb hK hA hI 8 (by decide) (0) (by show _ < 80; omega) rfl dX6_order_219 (fun H locs hI => ?_)
              refine lv_aload_n hx hb dX6_order_220 rfl (lv_at hl 2 rfl) ?_
              refine lv_iconst (v := 1) hx hb dX6_order_221 (by decide) ?_
              refine m_put hx hb hts hin hown hK hA hI 9 (by decide) (hts (.fieldLink RX6 58 "WinderLaddersModel" "inRow" "I") (by decide +kernel)) (fun h => absurd h (by decide)) dX6_order_222 (fun H locs hI => ?_)
              refine lv_iload_n hx hb dX6_order_225 rfl (lv_at hl 1 rfl) ?_
              refine lv_bipush (v := 98) hx hb dX6_order_226 (by decide) ?_
              refine lv_icmp_ne (tgt := 277) hx hb dX6_order_228 (by decide) (fun _ => ?_) (fun c101 => absurd c101 (by decide))
              exact m_vret hx hb hr hI (ordP_ok (pl := pb98) (one := vb98) (two := 0) (three := 0) (L := 1) (w := fun _ => vb98) (by simp [rO, rP, ec, c1, nc1, c16, c23, c26, b98]) (by simp [mset, hw]) (by simp [mset]) (by simp [mset, ec]) (by simp [mset]) (by rw [ec]; exact fun z => absurd z (by decide)) (by simp [mset]; rfl) (fun j hj => by rw [show j = 0 by omega]; simp [mset]) ((((((((Pk.rf M).set (by decide) _ _).set (by decide) _ _).set (by decide) _ _).set (by decide) _ _).set (by decide) _ _).set (by decide) _ _).set (by decide) _ _)) dX6_order_277 hlocks
            · skip
              rw [hm9] at hI
              refine m_put hx hb hts hin hown hK hA hI 14 (by decide) (hts (.fieldLink RX6 158 "WinderLaddersModel" "one" "I") (by decide +kernel)) (fun h => absurd h (by decide)) dX6_order_126 (fun H locs hI => ?_)
              refine lv_iload_n hx hb dX6_order_129 rfl (lv_at hl 1 rfl) ?_
              refine lv_bipush (v := 43) hx hb dX6_order_130 (by decide) ?_
              refine lv_icmp_ne (tgt := 210) hx hb dX6_order_132 (by decide) (fun _ => ?_) (fun c102 => absurd c102 (by decide))
              refine lv_aload_n hx hb dX6_order_210 rfl (lv_at hl 2 rfl) ?_
              refine m_get hx hb hts hin hown hK hI 8 (by decide) (hts (.fieldLink RX6 29 "WinderLaddersModel" "row" "[I") (by decide +kernel)) (v := .ref (q 7)) rfl dX6_order_211 ?_
              refine lv_iconst (v := 0) hx hb dX6_order_214 (by decide) ?_
              refine lv_aload_n hx hb dX6_order_215 rfl (lv_at hl 2 rfl) ?_
              refine m_get hx hb hts hin hown hK hI 14 (by decide) (hts (.fieldLink RX6 158 "WinderLaddersModel" "one" "I") (by decide +kernel)) (v := .int rb98) (congrArg (fun z => some (Value.int z)) (mset_eq _ _ _ _)) dX6_order_216 ?_
              refine m_ast hx hb hK hA hI 8 (by decide) (0) (by show _ < 80; omega) rfl dX6_order_219 (fun H locs hI => ?_)
              refine lv_aload_n hx hb dX6_order_220 rfl (lv_at hl 2 rfl) ?_
              refine lv_iconst (v := 1) hx hb dX6_order_221 (by decide) ?_
              refine m_put hx hb hts hin hown hK hA hI 9 (by decide) (hts (.fieldLink RX6 58 "WinderLaddersModel" "inRow" "I") (by decide +kernel)) (fun h => absurd h (by decide)) dX6_order_222 (fun H locs hI => ?_)
              refine lv_iload_n hx hb dX6_order_225 rfl (lv_at hl 1 rfl) ?_
              refine lv_bipush (v := 98) hx hb dX6_order_226 (by decide) ?_
              refine lv_icmp_ne (tgt := 277) hx hb dX6_order_228 (by decide) (fun _ => ?_) (fun c103 => absurd c103 (by decide))
              exact m_vret hx hb hr hI (ordP_no (pl := pp + 1) (by simp [rO, rP, ec, c1, nc1, c16, c23, c26, b98]) (by simp [mset]) (by simp [mset, hp]) ((((((((Pk.rf M).set (by decide) _ _).set (by decide) _ _).set (by decide) _ _).set (by decide) _ _).set (by decide) _ _).set (by decide) _ _).set (by decide) _ _)) dX6_order_277 hlocks
          · skip
            refine lv_iload_n hx hb dX6_order_67 rfl (lv_at hl 1 rfl) ?_
            refine lv_bipush (v := 98) hx hb dX6_order_68 (by decide) ?_
            refine lv_icmp_eq (tgt := 83) hx hb dX6_order_70 (by decide) (fun c104 => ?_) (fun c104 => ?_)
            · skip
              subst c104
              refine lv_iconst (v := 0) hx hb dX6_order_83 (by decide) ?_
              refine m_put hx hb hts hin hown hK hA hI 12 (by decide) (hts (.fieldLink RX6 141 "WinderLaddersModel" "isWrong" "Z") (by decide +kernel)) (fun _ => by first | exact Or.inl rfl | exact Or.inr rfl) dX6_order_84 (fun H locs hI => ?_)
              refine lv_aload_n hx hb dX6_order_87 rfl (lv_at hl 2 rfl) ?_
              refine lv_dup hx hb dX6_order_88 rfl ?_
              refine m_get hx hb hts hin hown hK hI 11 (by decide) (hts (.fieldLink RX6 138 "WinderLaddersModel" "place" "I") (by decide +kernel)) (v := .int (nI pp)) (congrArg (fun z => some (Value.int z)) ((mset_nk _ (by decide) _ _ _).trans (hp))) dX6_order_89 ?_
              refine lv_aload_n hx hb dX6_order_92 rfl (lv_at hl 2 rfl) ?_
              refine m_get hx hb hts hin hown hK hI 12 (by decide) (hts (.fieldLink RX6 141 "WinderLaddersModel" "isWrong" "Z") (by decide +kernel)) (v := .int 0) (congrArg (fun z => some (Value.int z)) (mset_eq _ _ _ _)) dX6_order_93 ?_
              refine lv_if_eq (tgt := 103) hx hb dX6_order_96 (by decide) (fun _ => ?_) (fun c105 => absurd (by decide) c105)
              refine lv_iconst (v := 1) hx hb dX6_order_103 (by decide) ?_
              refine lv_iadd hx hb dX6_order_104 ?_
              refine lv_re (y := nI (pp + 1)) (nI_add (pp) (1)) ?_
              refine m_put hx hb hts hin hown hK hA hI 11 (by decide) (hts (.fieldLink RX6 138 "WinderLaddersModel" "place" "I") (by decide +kernel)) (fun h => absurd h (by decide)) dX6_order_105 (fun H locs hI => ?_)
              refine lv_aload_n hx hb dX6_order_108 rfl (lv_at hl 2 rfl) ?_
              refine lv_iload_n hx hb dX6_order_109 rfl (lv_at hl 1 rfl) ?_
              refine m_put hx hb hts hin hown hK hA hI 13 (by decide) (hts (.fieldLink RX6 152 "WinderLaddersModel" "letter" "I") (by decide +kernel)) (fun h => absurd h (by decide)) dX6_order_110 (fun H locs hI => ?_)
              refine lv_aload_n hx hb dX6_order_113 rfl (lv_at hl 2 rfl) ?_
              refine lv_iload_n hx hb dX6_order_114 rfl (lv_at hl 0 rfl) ?_
              refine lv_if_eq (tgt := 122) hx hb dX6_order_115 (by decide) (fun _ => ?_) (fun c106 => absurd (by decide) c106)
              refine lv_aload_n hx hb dX6_order_122 rfl (lv_at hl 2 rfl) ?_
              refine m_calli (As := []) (rest := [.ref (q 0)]) hx hb hml hown hts hK hI (k_X6_number0 l dd g q A hA (mset (mset (mset M 12 (0) (0)) 11 (0) (nI (pp + 1))) 13 (0) (98)) (pp + 1) len ((mset_nk _ (by decide) _ _ _).trans (mset_eq _ _ _ _)) ((mset_nk _ (by decide) _ _ _).trans ((mset_nk _ (by decide) _ _ _).trans ((mset_nk _ (by decide) _ _ _).trans (hlen)))) hl80 (by omega) ((mset_nk _ (by decide) _ _ _).trans ((mset_nk _ (by decide) _ _ _).trans (mset_eq _ _ _ _)))) (cwV 0 hts gX6_order_X6_number rfl rfl rfl (by decide +kernel) ⟨Nat.le_of_ble_eq_true rfl, Nat.le_of_ble_eq_true rfl⟩) rfl hl (Nat.le_of_ble_eq_true rfl) ⟨Nat.zero_le _, Nat.zero_le _⟩ dX6_order_123 rfl (fun rb107 M1 H locs h108 hI => ?_)
              rw [show (mset (mset (mset M 12 (0) (0)) 11 (0) (nI (pp + 1))) 13 (0) (98)) 6 = (M 6) from rfl] at h108
              rcases h108 with ⟨vb107, pb107, b107, hr9, hm9⟩ | ⟨b107, hm9⟩
              · skip
                rw [hr9]
                rw [hm9] at hI
                have lb107 := rN_place b107
                refine m_put hx hb hts hin hown hK hA hI 14 (by decide) (hts (.fieldLink RX6 158 "WinderLaddersModel" "one" "I") (by decide +kernel)) (fun h => absurd h (by decide)) dX6_order_126 (fun H locs hI => ?_)
                refine lv_iload_n hx hb dX6_order_129 rfl (lv_at hl 1 rfl) ?_
                refine lv_bipush (v := 43) hx hb dX6_order_130 (by decide) ?_
                refine lv_icmp_ne (tgt := 210) hx hb dX6_order_132 (by decide) (fun _ => ?_) (fun c109 => absurd c109 (by decide))
                refine lv_aload_n hx hb dX6_order_210 rfl (lv_at hl 2 rfl) ?_
                refine m_get hx hb hts hin hown hK hI 8 (by decide) (hts (.fieldLink RX6 29 "WinderLaddersModel" "row" "[I") (by decide +kernel)) (v := .ref (q 7)) rfl dX6_order_211 ?_
                refine lv_iconst (v := 0) hx hb dX6_order_214 (by decide) ?_
                refine lv_aload_n hx hb dX6_order_215 rfl (lv_at hl 2 rfl) ?_
                refine m_get hx hb hts hin hown hK hI 14 (by decide) (hts (.fieldLink RX6 158 "WinderLaddersModel" "one" "I") (by decide +kernel)) (v := .int vb107) (congrArg (fun z => some (Value.int z)) (mset_eq _ _ _ _)) dX6_order_216 ?_
                refine m_ast hx hb hK hA hI 8 (by decide) (0) (by show _ < 80; omega) rfl dX6_order_219 (fun H locs hI => ?_)
                refine lv_aload_n hx hb dX6_order_220 rfl (lv_at hl 2 rfl) ?_
                refine lv_iconst (v := 1) hx hb dX6_order_221 (by decide) ?_
                refine m_put hx hb hts hin hown hK hA hI 9 (by decide) (hts (.fieldLink RX6 58 "WinderLaddersModel" "inRow" "I") (by decide +kernel)) (fun h => absurd h (by decide)) dX6_order_222 (fun H locs hI => ?_)
                have L225 : ∀ (fuel : Nat) (N : MS) (p1 n1 : Nat) (w1 : Nat → Int32) (o1v : Int32) (g1 : p1 ≤ len) (g2 : pp + 2 * n1 ≤ p1) (g3 : 41 < fuel + n1) (g4 : 1 ≤ n1) (h11 : N 11 0 = nI p1) (h12 : N 12 0 = 0) (h7 : N 7 0 = nI len) (h9 : N 9 0 = nI n1) (h13 : N 13 0 = 98) (h14 : N 14 0 = o1v) (h8 : ∀ j, j < n1 → N 8 j = w1 j) (hN6 : N 6 = M 6) (hPk : Pk M N) (hR1 : rO (M 6) len pp = rBO o1v (rB (M 6) len (41 - n1) p1 n1 w1)) (H : Heap) (locs : List Loc) (ls : Array Slot), mI dd g q A s.heap H locs N → lv_has ls 5 [(1, .int 98), (0, .ref (q 0))] → wk p l e wsX6_order { frames := 3, cells := 0, slots := 0, locals := 66 } s m [.ref (q 0)] below meth c H locs (mQv dd g q A (fun M' => ordP M M' len pp)) (A) (F0 m 225 ls []) := by
                  intro fuel
                  induction fuel with
                  | zero =>
                    intro N p1 n1 w1 o1v g1 g2 g3 g4 h11 h12 h7 h9 h13 h14 h8 hN6 hPk hR1 H locs ls hI hl
                    exact absurd g3 (by omega)
                  | succ fuel ih =>
                    intro N p1 n1 w1 o1v g1 g2 g3 g4 h11 h12 h7 h9 h13 h14 h8 hN6 hPk hR1 H locs ls hI hl
                    refine lv_iload_n hx hb dX6_order_225 rfl (lv_at hl 0 rfl) ?_
                    refine lv_bipush (v := 98) hx hb dX6_order_226 (by decide) ?_
                    refine lv_icmp_ne (tgt := 277) hx hb dX6_order_228 (by decide) (fun c110 => absurd (by decide) c110) (fun _ => ?_)
                    refine lv_aload_n hx hb dX6_order_231 rfl (lv_at hl 1 rfl) ?_
                    refine lv_bipush (v := 44) hx hb dX6_order_232 (by decide) ?_
                    refine lv_bipush (v := 44) hx hb dX6_order_234 (by decide) ?_
                    refine m_calli (As := [.int 44, .int 44]) (rest := []) hx hb hml hown hts hK hI (k_X6_isNext0 l dd g q A hA N 44 44 p1 len h11 h7 hl80 (by omega) h12) (cwV 2 hts gX6_order_X6_isNext rfl rfl rfl (by decide +kernel) ⟨Nat.le_of_ble_eq_true rfl, Nat.le_of_ble_eq_true rfl⟩) rfl hl (Nat.le_of_ble_eq_true rfl) ⟨Nat.zero_le _, Nat.zero_le _⟩ dX6_order_236 rfl (fun r M1 H locs h112 hI => ?_)
                    rw [show N 6 = (M 6) from hN6] at h112
                    obtain ⟨h112, hm9⟩ := h112
                    rw [hm9] at hI
                    rcases h112 with ⟨b111, rfl⟩ | ⟨b111, rfl⟩
                    · skip
                      have lb111 := (nxB_t.mp b111).1
                      have kb111 := nxB_chr b111
                      refine lv_if_eq (tgt := 277) hx hb dX6_order_239 (by decide) (fun c113 => absurd c113 (by decide)) (fun _ => ?_)
                      refine lv_aload_n hx hb dX6_order_242 rfl (lv_at hl 1 rfl) ?_
                      refine lv_bipush (v := 44) hx hb dX6_order_243 (by decide) ?_
                      refine lv_bipush (v := 44) hx hb dX6_order_245 (by decide) ?_
                      refine m_calli (As := [.int 44, .int 44]) (rest := []) hx hb hml hown hts hK hI (k_X6_sign0 l dd g q A hA N 44 44 p1 len h11 h7 hl80 (by omega) h12) (cwV 2 hts gX6_order_X6_sign rfl rfl rfl (by decide +kernel) ⟨Nat.le_of_ble_eq_true rfl, Nat.le_of_ble_eq_true rfl⟩) rfl hl (Nat.le_of_ble_eq_true rfl) ⟨Nat.zero_le _, Nat.zero_le _⟩ dX6_order_247 rfl (fun r M1 H locs h115 hI => ?_)
                      rw [show N 6 = (M 6) from hN6] at h115
                      rcases h115 with ⟨b114, hr9, hm9⟩ | ⟨b114, hm9⟩
                      · skip
                        subst hr9
                        rw [hm9] at hI
                        have lb114 := chr_pos b114 (by decide)
                        refine lv_istore_n (lv' := [(3, .int (chr (M 6) len p1)), (1, .int 98), (0, .ref (q 0))]) hx hb dX6_order_250 rfl hl (by decide) rfl (fun ls hl => ?_)
                        refine lv_aload_n hx hb dX6_order_251 rfl (lv_at hl 2 rfl) ?_
                        refine m_get hx hb hts hin hown hK hI 8 (by decide) (hts (.fieldLink RX6 29 "WinderLaddersModel" "row" "[I") (by decide +kernel)) (v := .ref (q 7)) rfl dX6_order_252 ?_
                        refine lv_aload_n hx hb dX6_order_255 rfl (lv_at hl 2 rfl) ?_
                        refine m_get hx hb hts hin hown hK hI 9 (by decide) (hts (.fieldLink RX6 58 "WinderLaddersModel" "inRow" "I") (by decide +kernel)) (v := .int (nI n1)) (congrArg (fun z => some (Value.int z)) ((mset_nk _ (by decide) _ _ _).trans (h9))) dX6_order_256 ?_
                        refine lv_aload_n hx hb dX6_order_259 rfl (lv_at hl 2 rfl) ?_
                        refine m_calli (As := []) (rest := [.int (nI n1), .ref (q 7)]) hx hb hml hown hts hK hI (k_X6_number0 l dd g q A hA (mset N 11 (0) (nI (p1 + 1))) (p1 + 1) len (mset_eq _ _ _ _) ((mset_nk _ (by decide) _ _ _).trans (h7)) hl80 (by omega) ((mset_nk _ (by decide) _ _ _).trans (h12))) (cwV 0 hts gX6_order_X6_number rfl rfl rfl (by decide +kernel) ⟨Nat.le_of_ble_eq_true rfl, Nat.le_of_ble_eq_true rfl⟩) rfl hl (Nat.le_of_ble_eq_true rfl) ⟨Nat.zero_le _, Nat.zero_le _⟩ dX6_order_260 rfl (fun rb116 M1 H locs h117 hI => ?_)
                        rw [show (mset N 11 (0) (nI (p1 + 1))) 6 = (M 6) from hN6] at h117
                        rcases h117 with ⟨vb116, pb116, b116, hr9, hm9⟩ | ⟨b116, hm9⟩
                        · skip
                          rw [hr9]
                          rw [hm9] at hI
                          have lb116 := rN_place b116
                          refine m_ast hx hb hK hA hI 8 (by decide) (n1) (by show _ < 80; omega) rfl dX6_order_263 (fun H locs hI => ?_)
                          refine lv_aload_n hx hb dX6_order_264 rfl (lv_at hl 2 rfl) ?_
                          refine lv_dup hx hb dX6_order_265 rfl ?_
                          refine m_get hx hb hts hin hown hK hI 9 (by decide) (hts (.fieldLink RX6 58 "WinderLaddersModel" "inRow" "I") (by decide +kernel)) (v := .int (nI n1)) (congrArg (fun z => some (Value.int z)) ((mset_nk _ (by decide) _ _ _).trans ((mset_nk _ (by decide) _ _ _).trans ((mset_nk _ (by decide) _ _ _).trans (h9))))) dX6_order_266 ?_
                          refine lv_iconst (v := 1) hx hb dX6_order_269 (by decide) ?_
                          refine lv_iadd hx hb dX6_order_270 ?_
                          refine lv_re (y := nI (n1 + 1)) (nI_add (n1) (1)) ?_
                          refine m_put hx hb hts hin hown hK hA hI 9 (by decide) (hts (.fieldLink RX6 58 "WinderLaddersModel" "inRow" "I") (by decide +kernel)) (fun h => absurd h (by decide)) dX6_order_271 (fun H locs hI => ?_)
                          refine lv_goto (tgt := 225) hx hb dX6_order_274 (by decide) ?_
                          exact ih (mset (mset (mset (mset N 11 (0) (nI (p1 + 1))) 11 (0) (nI pb116)) 8 (n1) (vb116)) 9 (0) (nI (n1 + 1))) pb116 (n1 + 1) (upd w1 n1 vb116) o1v (by omega) (by omega) (by omega) (by omega) (by simp [mset]) (by simp [mset, h12]) (by simp [mset, h7]) (by simp [mset]) (by simp [mset, h13]) (by simp [mset, h14]) (fun j hj => if z : j = n1 then (by subst z; simp [mset, upd]) else (by simp [mset, upd, z]; exact h8 j (by omega))) (by rw [← hN6]; funext j; simp [mset]) ((((hPk.set (by decide) _ _).set (by decide) _ _).set (by decide) _ _).set (by decide) _ _) (by rw [hR1, rB_t (by omega) b111 b116]) _ _ _ hI (lv_sub hl [1, 2] rfl)
                        · skip
                          rw [hm9] at hI
                          refine m_ast hx hb hK hA hI 8 (by decide) (n1) (by show _ < 80; omega) rfl dX6_order_263 (fun H locs hI => ?_)
                          refine lv_aload_n hx hb dX6_order_264 rfl (lv_at hl 2 rfl) ?_
                          refine lv_dup hx hb dX6_order_265 rfl ?_
                          refine m_get hx hb hts hin hown hK hI 9 (by decide) (hts (.fieldLink RX6 58 "WinderLaddersModel" "inRow" "I") (by decide +kernel)) (v := .int (nI n1)) (congrArg (fun z => some (Value.int z)) ((mset_nk _ (by decide) _ _ _).trans ((mset_nk _ (by decide) _ _ _).trans ((mset_nk _ (by decide) _ _ _).trans (h9))))) dX6_order_266 ?_
                          refine lv_iconst (v := 1) hx hb dX6_order_269 (by decide) ?_
                          refine lv_iadd hx hb dX6_order_270 ?_
                          refine lv_re (y := nI (n1 + 1)) (nI_add (n1) (1)) ?_
                          refine m_put hx hb hts hin hown hK hA hI 9 (by decide) (hts (.fieldLink RX6 58 "WinderLaddersModel" "inRow" "I") (by decide +kernel)) (fun h => absurd h (by decide)) dX6_order_271 (fun H locs hI => ?_)
                          refine lv_goto (tgt := 225) hx hb dX6_order_274 (by decide) ?_
                          refine lv_iload_n hx hb dX6_order_225 rfl (lv_at hl 1 rfl) ?_
                          refine lv_bipush (v := 98) hx hb dX6_order_226 (by decide) ?_
                          refine lv_icmp_ne (tgt := 277) hx hb dX6_order_228 (by decide) (fun c118 => absurd (by decide) c118) (fun _ => ?_)
                          refine lv_aload_n hx hb dX6_order_231 rfl (lv_at hl 2 rfl) ?_
                          refine lv_bipush (v := 44) hx hb dX6_order_232 (by decide) ?_
                          refine lv_bipush (v := 44) hx hb dX6_order_234 (by decide) ?_
                          refine m_calli (As := [.int 44, .int 44]) (rest := []) hx hb hml hown hts hK hI (k_X6_isNext1 l dd g q A hA (mset (mset (mset (mset N 11 (0) (nI (p1 + 1))) 12 (0) (1)) 8 (n1) (rb116)) 9 (0) (nI (n1 + 1))) 44 44 (p1 + 1) len ((mset_nk _ (by decide) _ _ _).trans ((mset_nk _ (by decide) _ _ _).trans ((mset_nk _ (by decide) _ _ _).trans (mset_eq _ _ _ _)))) ((mset_nk _ (by decide) _ _ _).trans ((mset_nk _ (by decide) _ _ _).trans ((mset_nk _ (by decide) _ _ _).trans ((mset_nk _ (by decide) _ _ _).trans (h7))))) hl80 (by omega) ((mset_nk _ (by decide) _ _ _).trans ((mset_nk _ (by decide) _ _ _).trans (mset_eq _ _ _ _)))) (cwV 2 hts gX6_order_X6_isNext rfl rfl rfl (by decide +kernel) ⟨Nat.le_of_ble_eq_true rfl, Nat.le_of_ble_eq_true rfl⟩) rfl hl (Nat.le_of_ble_eq_true rfl) ⟨Nat.zero_le _, Nat.zero_le _⟩ dX6_order_236 rfl (fun r M1 H locs h120 hI => ?_)
                          obtain ⟨hr9, hm9⟩ := h120
                          rw [hm9] at hI
                          subst hr9
                          refine lv_if_eq (tgt := 277) hx hb dX6_order_239 (by decide) (fun _ => ?_) (fun c121 => absurd (by decide) c121)
                          exact m_vret hx hb hr hI (ordP_no (pl := p1 + 1) (by rw [hR1, rB_f (by omega) b111 b116]; exact ⟨rfl, rfl⟩) (by simp [mset]) (by simp [mset]) ((((hPk.set (by decide) _ _).set (by decide) _ _).set (by decide) _ _).set (by decide) _ _)) dX6_order_277 hlocks
                      · skip
                        rw [hm9] at hI
                        exact Bool.noConfusion (kb111.symm.trans b114)
                    · skip
                      refine lv_if_eq (tgt := 277) hx hb dX6_order_239 (by decide) (fun _ => ?_) (fun c122 => absurd (by decide) c122)
                      exact m_vret hx hb hr hI (ordP_ok (pl := p1) (one := o1v) (two := 0) (three := 0) (L := n1) (w := w1) (by rw [hR1, rB_e (by omega) b111]; rfl) h12 h11 (by rw [h13, ec]) h14 (by rw [ec]; exact fun z => absurd z (by decide)) h9 h8 hPk) dX6_order_277 hlocks
                exact L225 41 (mset (mset (mset (mset (mset (mset (mset M 12 (0) (0)) 11 (0) (nI (pp + 1))) 13 (0) (98)) 11 (0) (nI pb107)) 14 (0) (vb107)) 8 (0) (vb107)) 9 (0) (1)) pb107 1 (fun _ => vb107) vb107 (by omega) (by omega) (by omega) (by omega) (by simp [mset]) (by simp [mset, hw]) (by simp [mset, hlen]) (by simp [mset]; rfl) (by simp [mset]) (by simp [mset]) (fun j hj => by rw [show j = 0 by omega]; simp [mset]) (by funext j; simp [mset]) ((((((((Pk.rf M).set (by decide) _ _).set (by decide) _ _).set (by decide) _ _).set (by decide) _ _).set (by decide) _ _).set (by decide) _ _).set (by decide) _ _) (by simp [rO, ec, b107]) _ _ _ hI (lv_sub hl [1, 2] rfl)
              · skip
                rw [hm9] at hI
                refine m_put hx hb hts hin hown hK hA hI 14 (by decide) (hts (.fieldLink RX6 158 "WinderLaddersModel" "one" "I") (by decide +kernel)) (fun h => absurd h (by decide)) dX6_order_126 (fun H locs hI => ?_)
                refine lv_iload_n hx hb dX6_order_129 rfl (lv_at hl 1 rfl) ?_
                refine lv_bipush (v := 43) hx hb dX6_order_130 (by decide) ?_
                refine lv_icmp_ne (tgt := 210) hx hb dX6_order_132 (by decide) (fun _ => ?_) (fun c123 => absurd c123 (by decide))
                refine lv_aload_n hx hb dX6_order_210 rfl (lv_at hl 2 rfl) ?_
                refine m_get hx hb hts hin hown hK hI 8 (by decide) (hts (.fieldLink RX6 29 "WinderLaddersModel" "row" "[I") (by decide +kernel)) (v := .ref (q 7)) rfl dX6_order_211 ?_
                refine lv_iconst (v := 0) hx hb dX6_order_214 (by decide) ?_
                refine lv_aload_n hx hb dX6_order_215 rfl (lv_at hl 2 rfl) ?_
                refine m_get hx hb hts hin hown hK hI 14 (by decide) (hts (.fieldLink RX6 158 "WinderLaddersModel" "one" "I") (by decide +kernel)) (v := .int rb107) (congrArg (fun z => some (Value.int z)) (mset_eq _ _ _ _)) dX6_order_216 ?_
                refine m_ast hx hb hK hA hI 8 (by decide) (0) (by show _ < 80; omega) rfl dX6_order_219 (fun H locs hI => ?_)
                refine lv_aload_n hx hb dX6_order_220 rfl (lv_at hl 2 rfl) ?_
                refine lv_iconst (v := 1) hx hb dX6_order_221 (by decide) ?_
                refine m_put hx hb hts hin hown hK hA hI 9 (by decide) (hts (.fieldLink RX6 58 "WinderLaddersModel" "inRow" "I") (by decide +kernel)) (fun h => absurd h (by decide)) dX6_order_222 (fun H locs hI => ?_)
                refine lv_iload_n hx hb dX6_order_225 rfl (lv_at hl 1 rfl) ?_
                refine lv_bipush (v := 98) hx hb dX6_order_226 (by decide) ?_
                refine lv_icmp_ne (tgt := 277) hx hb dX6_order_228 (by decide) (fun c124 => absurd (by decide) c124) (fun _ => ?_)
                refine lv_aload_n hx hb dX6_order_231 rfl (lv_at hl 2 rfl) ?_
                refine lv_bipush (v := 44) hx hb dX6_order_232 (by decide) ?_
                refine lv_bipush (v := 44) hx hb dX6_order_234 (by decide) ?_
                refine m_calli (As := [.int 44, .int 44]) (rest := []) hx hb hml hown hts hK hI (k_X6_isNext1 l dd g q A hA (mset (mset (mset (mset (mset (mset (mset M 12 (0) (0)) 11 (0) (nI (pp + 1))) 13 (0) (98)) 12 (0) (1)) 14 (0) (rb107)) 8 (0) (rb107)) 9 (0) (1)) 44 44 (pp + 1) len ((mset_nk _ (by decide) _ _ _).trans ((mset_nk _ (by decide) _ _ _).trans ((mset_nk _ (by decide) _ _ _).trans ((mset_nk _ (by decide) _ _ _).trans ((mset_nk _ (by decide) _ _ _).trans (mset_eq _ _ _ _)))))) ((mset_nk _ (by decide) _ _ _).trans ((mset_nk _ (by decide) _ _ _).trans ((mset_nk _ (by decide) _ _ _).trans ((mset_nk _ (by decide) _ _ _).trans ((mset_nk _ (by decide) _ _ _).trans ((mset_nk _ (by decide) _ _ _).trans ((mset_nk _ (by decide) _ _ _).trans (hlen)))))))) hl80 (by omega) ((mset_nk _ (by decide) _ _ _).trans ((mset_nk _ (by decide) _ _ _).trans ((mset_nk _ (by decide) _ _ _).trans (mset_eq _ _ _ _))))) (cwV 2 hts gX6_order_X6_isNext rfl rfl rfl (by decide +kernel) ⟨Nat.le_of_ble_eq_true rfl, Nat.le_of_ble_eq_true rfl⟩) rfl hl (Nat.le_of_ble_eq_true rfl) ⟨Nat.zero_le _, Nat.zero_le _⟩ dX6_order_236 rfl (fun r M1 H locs h126 hI => ?_)
                obtain ⟨hr9, hm9⟩ := h126
                rw [hm9] at hI
                subst hr9
                refine lv_if_eq (tgt := 277) hx hb dX6_order_239 (by decide) (fun _ => ?_) (fun c127 => absurd (by decide) c127)
                exact m_vret hx hb hr hI (ordP_no (pl := pp + 1) (by simp [rO, rP, ec, c1, nc1, c16, c23, c26, c95, b107]) (by simp [mset]) (by simp [mset, hp]) ((((((((Pk.rf M).set (by decide) _ _).set (by decide) _ _).set (by decide) _ _).set (by decide) _ _).set (by decide) _ _).set (by decide) _ _).set (by decide) _ _)) dX6_order_277 hlocks
            · skip
              refine lv_iload_n hx hb dX6_order_73 rfl (lv_at hl 1 rfl) ?_
              refine lv_bipush (v := 116) hx hb dX6_order_74 (by decide) ?_
              refine lv_icmp_eq (tgt := 83) hx hb dX6_order_76 (by decide) (fun c128 => ?_) (fun c128 => ?_)
              · skip
                subst c128
                refine lv_iconst (v := 0) hx hb dX6_order_83 (by decide) ?_
                refine m_put hx hb hts hin hown hK hA hI 12 (by decide) (hts (.fieldLink RX6 141 "WinderLaddersModel" "isWrong" "Z") (by decide +kernel)) (fun _ => by first | exact Or.inl rfl | exact Or.inr rfl) dX6_order_84 (fun H locs hI => ?_)
                refine lv_aload_n hx hb dX6_order_87 rfl (lv_at hl 2 rfl) ?_
                refine lv_dup hx hb dX6_order_88 rfl ?_
                refine m_get hx hb hts hin hown hK hI 11 (by decide) (hts (.fieldLink RX6 138 "WinderLaddersModel" "place" "I") (by decide +kernel)) (v := .int (nI pp)) (congrArg (fun z => some (Value.int z)) ((mset_nk _ (by decide) _ _ _).trans (hp))) dX6_order_89 ?_
                refine lv_aload_n hx hb dX6_order_92 rfl (lv_at hl 2 rfl) ?_
                refine m_get hx hb hts hin hown hK hI 12 (by decide) (hts (.fieldLink RX6 141 "WinderLaddersModel" "isWrong" "Z") (by decide +kernel)) (v := .int 0) (congrArg (fun z => some (Value.int z)) (mset_eq _ _ _ _)) dX6_order_93 ?_
                refine lv_if_eq (tgt := 103) hx hb dX6_order_96 (by decide) (fun _ => ?_) (fun c129 => absurd (by decide) c129)
                refine lv_iconst (v := 1) hx hb dX6_order_103 (by decide) ?_
                refine lv_iadd hx hb dX6_order_104 ?_
                refine lv_re (y := nI (pp + 1)) (nI_add (pp) (1)) ?_
                refine m_put hx hb hts hin hown hK hA hI 11 (by decide) (hts (.fieldLink RX6 138 "WinderLaddersModel" "place" "I") (by decide +kernel)) (fun h => absurd h (by decide)) dX6_order_105 (fun H locs hI => ?_)
                refine lv_aload_n hx hb dX6_order_108 rfl (lv_at hl 2 rfl) ?_
                refine lv_iload_n hx hb dX6_order_109 rfl (lv_at hl 1 rfl) ?_
                refine m_put hx hb hts hin hown hK hA hI 13 (by decide) (hts (.fieldLink RX6 152 "WinderLaddersModel" "letter" "I") (by decide +kernel)) (fun h => absurd h (by decide)) dX6_order_110 (fun H locs hI => ?_)
                refine lv_aload_n hx hb dX6_order_113 rfl (lv_at hl 2 rfl) ?_
                refine lv_iload_n hx hb dX6_order_114 rfl (lv_at hl 0 rfl) ?_
                refine lv_if_eq (tgt := 122) hx hb dX6_order_115 (by decide) (fun _ => ?_) (fun c130 => absurd (by decide) c130)
                refine lv_aload_n hx hb dX6_order_122 rfl (lv_at hl 2 rfl) ?_
                refine m_calli (As := []) (rest := [.ref (q 0)]) hx hb hml hown hts hK hI (k_X6_number0 l dd g q A hA (mset (mset (mset M 12 (0) (0)) 11 (0) (nI (pp + 1))) 13 (0) (116)) (pp + 1) len ((mset_nk _ (by decide) _ _ _).trans (mset_eq _ _ _ _)) ((mset_nk _ (by decide) _ _ _).trans ((mset_nk _ (by decide) _ _ _).trans ((mset_nk _ (by decide) _ _ _).trans (hlen)))) hl80 (by omega) ((mset_nk _ (by decide) _ _ _).trans ((mset_nk _ (by decide) _ _ _).trans (mset_eq _ _ _ _)))) (cwV 0 hts gX6_order_X6_number rfl rfl rfl (by decide +kernel) ⟨Nat.le_of_ble_eq_true rfl, Nat.le_of_ble_eq_true rfl⟩) rfl hl (Nat.le_of_ble_eq_true rfl) ⟨Nat.zero_le _, Nat.zero_le _⟩ dX6_order_123 rfl (fun rb131 M1 H locs h132 hI => ?_)
                rw [show (mset (mset (mset M 12 (0) (0)) 11 (0) (nI (pp + 1))) 13 (0) (116)) 6 = (M 6) from rfl] at h132
                rcases h132 with ⟨vb131, pb131, b131, hr9, hm9⟩ | ⟨b131, hm9⟩
                · skip
                  rw [hr9]
                  rw [hm9] at hI
                  have lb131 := rN_place b131
                  refine m_put hx hb hts hin hown hK hA hI 14 (by decide) (hts (.fieldLink RX6 158 "WinderLaddersModel" "one" "I") (by decide +kernel)) (fun h => absurd h (by decide)) dX6_order_126 (fun H locs hI => ?_)
                  refine lv_iload_n hx hb dX6_order_129 rfl (lv_at hl 1 rfl) ?_
                  refine lv_bipush (v := 43) hx hb dX6_order_130 (by decide) ?_
                  refine lv_icmp_ne (tgt := 210) hx hb dX6_order_132 (by decide) (fun _ => ?_) (fun c133 => absurd c133 (by decide))
                  refine lv_aload_n hx hb dX6_order_210 rfl (lv_at hl 2 rfl) ?_
                  refine m_get hx hb hts hin hown hK hI 8 (by decide) (hts (.fieldLink RX6 29 "WinderLaddersModel" "row" "[I") (by decide +kernel)) (v := .ref (q 7)) rfl dX6_order_211 ?_
                  refine lv_iconst (v := 0) hx hb dX6_order_214 (by decide) ?_
                  refine lv_aload_n hx hb dX6_order_215 rfl (lv_at hl 2 rfl) ?_
                  refine m_get hx hb hts hin hown hK hI 14 (by decide) (hts (.fieldLink RX6 158 "WinderLaddersModel" "one" "I") (by decide +kernel)) (v := .int vb131) (congrArg (fun z => some (Value.int z)) (mset_eq _ _ _ _)) dX6_order_216 ?_
                  refine m_ast hx hb hK hA hI 8 (by decide) (0) (by show _ < 80; omega) rfl dX6_order_219 (fun H locs hI => ?_)
                  refine lv_aload_n hx hb dX6_order_220 rfl (lv_at hl 2 rfl) ?_
                  refine lv_iconst (v := 1) hx hb dX6_order_221 (by decide) ?_
                  refine m_put hx hb hts hin hown hK hA hI 9 (by decide) (hts (.fieldLink RX6 58 "WinderLaddersModel" "inRow" "I") (by decide +kernel)) (fun h => absurd h (by decide)) dX6_order_222 (fun H locs hI => ?_)
                  refine lv_iload_n hx hb dX6_order_225 rfl (lv_at hl 1 rfl) ?_
                  refine lv_bipush (v := 98) hx hb dX6_order_226 (by decide) ?_
                  refine lv_icmp_ne (tgt := 277) hx hb dX6_order_228 (by decide) (fun _ => ?_) (fun c134 => absurd c134 (by decide))
                  exact m_vret hx hb hr hI (ordP_ok (pl := pb131) (one := vb131) (two := 0) (three := 0) (L := 1) (w := fun _ => vb131) (by simp [rO, rP, ec, c1, nc1, c16, c23, c26, c95, c104, b131]) (by simp [mset, hw]) (by simp [mset]) (by simp [mset, ec]) (by simp [mset]) (by rw [ec]; exact fun z => absurd z (by decide)) (by simp [mset]; rfl) (fun j hj => by rw [show j = 0 by omega]; simp [mset]) ((((((((Pk.rf M).set (by decide) _ _).set (by decide) _ _).set (by decide) _ _).set (by decide) _ _).set (by decide) _ _).set (by decide) _ _).set (by decide) _ _)) dX6_order_277 hlocks
                · skip
                  rw [hm9] at hI
                  refine m_put hx hb hts hin hown hK hA hI 14 (by decide) (hts (.fieldLink RX6 158 "WinderLaddersModel" "one" "I") (by decide +kernel)) (fun h => absurd h (by decide)) dX6_order_126 (fun H locs hI => ?_)
                  refine lv_iload_n hx hb dX6_order_129 rfl (lv_at hl 1 rfl) ?_
                  refine lv_bipush (v := 43) hx hb dX6_order_130 (by decide) ?_
                  refine lv_icmp_ne (tgt := 210) hx hb dX6_order_132 (by decide) (fun _ => ?_) (fun c135 => absurd c135 (by decide))
                  refine lv_aload_n hx hb dX6_order_210 rfl (lv_at hl 2 rfl) ?_
                  refine m_get hx hb hts hin hown hK hI 8 (by decide) (hts (.fieldLink RX6 29 "WinderLaddersModel" "row" "[I") (by decide +kernel)) (v := .ref (q 7)) rfl dX6_order_211 ?_
                  refine lv_iconst (v := 0) hx hb dX6_order_214 (by decide) ?_
                  refine lv_aload_n hx hb dX6_order_215 rfl (lv_at hl 2 rfl) ?_
                  refine m_get hx hb hts hin hown hK hI 14 (by decide) (hts (.fieldLink RX6 158 "WinderLaddersModel" "one" "I") (by decide +kernel)) (v := .int rb131) (congrArg (fun z => some (Value.int z)) (mset_eq _ _ _ _)) dX6_order_216 ?_
                  refine m_ast hx hb hK hA hI 8 (by decide) (0) (by show _ < 80; omega) rfl dX6_order_219 (fun H locs hI => ?_)
                  refine lv_aload_n hx hb dX6_order_220 rfl (lv_at hl 2 rfl) ?_
                  refine lv_iconst (v := 1) hx hb dX6_order_221 (by decide) ?_
                  refine m_put hx hb hts hin hown hK hA hI 9 (by decide) (hts (.fieldLink RX6 58 "WinderLaddersModel" "inRow" "I") (by decide +kernel)) (fun h => absurd h (by decide)) dX6_order_222 (fun H locs hI => ?_)
                  refine lv_iload_n hx hb dX6_order_225 rfl (lv_at hl 1 rfl) ?_
                  refine lv_bipush (v := 98) hx hb dX6_order_226 (by decide) ?_
                  refine lv_icmp_ne (tgt := 277) hx hb dX6_order_228 (by decide) (fun _ => ?_) (fun c136 => absurd c136 (by decide))
                  exact m_vret hx hb hr hI (ordP_no (pl := pp + 1) (by simp [rO, rP, ec, c1, nc1, c16, c23, c26, c95, c104, b131]) (by simp [mset]) (by simp [mset, hp]) ((((((((Pk.rf M).set (by decide) _ _).set (by decide) _ _).set (by decide) _ _).set (by decide) _ _).set (by decide) _ _).set (by decide) _ _).set (by decide) _ _)) dX6_order_277 hlocks
              · skip
                refine lv_iconst (v := 1) hx hb dX6_order_79 (by decide) ?_
                refine lv_goto (tgt := 84) hx hb dX6_order_80 (by decide) ?_
                refine m_put hx hb hts hin hown hK hA hI 12 (by decide) (hts (.fieldLink RX6 141 "WinderLaddersModel" "isWrong" "Z") (by decide +kernel)) (fun _ => by first | exact Or.inl rfl | exact Or.inr rfl) dX6_order_84 (fun H locs hI => ?_)
                refine lv_aload_n hx hb dX6_order_87 rfl (lv_at hl 2 rfl) ?_
                refine lv_dup hx hb dX6_order_88 rfl ?_
                refine m_get hx hb hts hin hown hK hI 11 (by decide) (hts (.fieldLink RX6 138 "WinderLaddersModel" "place" "I") (by decide +kernel)) (v := .int (nI pp)) (congrArg (fun z => some (Value.int z)) ((mset_nk _ (by decide) _ _ _).trans (hp))) dX6_order_89 ?_
                refine lv_aload_n hx hb dX6_order_92 rfl (lv_at hl 2 rfl) ?_
                refine m_get hx hb hts hin hown hK hI 12 (by decide) (hts (.fieldLink RX6 141 "WinderLaddersModel" "isWrong" "Z") (by decide +kernel)) (v := .int 1) (congrArg (fun z => some (Value.int z)) (mset_eq _ _ _ _)) dX6_order_93 ?_
                refine lv_if_eq (tgt := 103) hx hb dX6_order_96 (by decide) (fun c137 => absurd c137 (by decide)) (fun _ => ?_)
                refine lv_iconst (v := 0) hx hb dX6_order_99 (by decide) ?_
                refine lv_goto (tgt := 104) hx hb dX6_order_100 (by decide) ?_
                refine lv_iadd hx hb dX6_order_104 ?_
                refine lv_re (y := nI (pp + 0)) (nI_add (pp) (0)) ?_
                refine m_put hx hb hts hin hown hK hA hI 11 (by decide) (hts (.fieldLink RX6 138 "WinderLaddersModel" "place" "I") (by decide +kernel)) (fun h => absurd h (by decide)) dX6_order_105 (fun H locs hI => ?_)
                refine lv_aload_n hx hb dX6_order_108 rfl (lv_at hl 2 rfl) ?_
                refine lv_iload_n hx hb dX6_order_109 rfl (lv_at hl 1 rfl) ?_
                refine m_put hx hb hts hin hown hK hA hI 13 (by decide) (hts (.fieldLink RX6 152 "WinderLaddersModel" "letter" "I") (by decide +kernel)) (fun h => absurd h (by decide)) dX6_order_110 (fun H locs hI => ?_)
                refine lv_aload_n hx hb dX6_order_113 rfl (lv_at hl 2 rfl) ?_
                refine lv_iload_n hx hb dX6_order_114 rfl (lv_at hl 0 rfl) ?_
                refine lv_if_eq (tgt := 122) hx hb dX6_order_115 (by decide) (fun _ => ?_) (fun c138 => absurd (by decide) c138)
                refine lv_aload_n hx hb dX6_order_122 rfl (lv_at hl 2 rfl) ?_
                refine m_calli (As := []) (rest := [.ref (q 0)]) hx hb hml hown hts hK hI (k_X6_number1 l dd g q A hA (mset (mset (mset M 12 (0) (1)) 11 (0) (nI (pp + 0))) 13 (0) (cv)) (pp + 0) len ((mset_nk _ (by decide) _ _ _).trans (mset_eq _ _ _ _)) ((mset_nk _ (by decide) _ _ _).trans ((mset_nk _ (by decide) _ _ _).trans ((mset_nk _ (by decide) _ _ _).trans (hlen)))) hl80 (by omega) ((mset_nk _ (by decide) _ _ _).trans ((mset_nk _ (by decide) _ _ _).trans (mset_eq _ _ _ _)))) (cwV 0 hts gX6_order_X6_number rfl rfl rfl (by decide +kernel) ⟨Nat.le_of_ble_eq_true rfl, Nat.le_of_ble_eq_true rfl⟩) rfl hl (Nat.le_of_ble_eq_true rfl) ⟨Nat.zero_le _, Nat.zero_le _⟩ dX6_order_123 rfl (fun rb139 M1 H locs h140 hI => ?_)
                rw [h140] at hI
                refine m_put hx hb hts hin hown hK hA hI 14 (by decide) (hts (.fieldLink RX6 158 "WinderLaddersModel" "one" "I") (by decide +kernel)) (fun h => absurd h (by decide)) dX6_order_126 (fun H locs hI => ?_)
                refine lv_iload_n hx hb dX6_order_129 rfl (lv_at hl 1 rfl) ?_
                refine lv_bipush (v := 43) hx hb dX6_order_130 (by decide) ?_
                refine lv_icmp_ne (tgt := 210) hx hb dX6_order_132 (by decide) (fun c141 => ?_) (fun c141 => ?_)
                · skip
                  refine lv_aload_n hx hb dX6_order_210 rfl (lv_at hl 2 rfl) ?_
                  refine m_get hx hb hts hin hown hK hI 8 (by decide) (hts (.fieldLink RX6 29 "WinderLaddersModel" "row" "[I") (by decide +kernel)) (v := .ref (q 7)) rfl dX6_order_211 ?_
                  refine lv_iconst (v := 0) hx hb dX6_order_214 (by decide) ?_
                  refine lv_aload_n hx hb dX6_order_215 rfl (lv_at hl 2 rfl) ?_
                  refine m_get hx hb hts hin hown hK hI 14 (by decide) (hts (.fieldLink RX6 158 "WinderLaddersModel" "one" "I") (by decide +kernel)) (v := .int rb139) (congrArg (fun z => some (Value.int z)) (mset_eq _ _ _ _)) dX6_order_216 ?_
                  refine m_ast hx hb hK hA hI 8 (by decide) (0) (by show _ < 80; omega) rfl dX6_order_219 (fun H locs hI => ?_)
                  refine lv_aload_n hx hb dX6_order_220 rfl (lv_at hl 2 rfl) ?_
                  refine lv_iconst (v := 1) hx hb dX6_order_221 (by decide) ?_
                  refine m_put hx hb hts hin hown hK hA hI 9 (by decide) (hts (.fieldLink RX6 58 "WinderLaddersModel" "inRow" "I") (by decide +kernel)) (fun h => absurd h (by decide)) dX6_order_222 (fun H locs hI => ?_)
                  refine lv_iload_n hx hb dX6_order_225 rfl (lv_at hl 1 rfl) ?_
                  refine lv_bipush (v := 98) hx hb dX6_order_226 (by decide) ?_
                  refine lv_icmp_ne (tgt := 277) hx hb dX6_order_228 (by decide) (fun c142 => ?_) (fun c142 => ?_)
                  · skip
                    exact m_vret hx hb hr hI (ordP_no (pl := pp + 0) (by simp [rO, rP, ec, c1, nc1, c16, c23, c26, c95, c104, c128, c141, c142]) (by simp [mset]) (by simp [mset, hp]) (((((((Pk.rf M).set (by decide) _ _).set (by decide) _ _).set (by decide) _ _).set (by decide) _ _).set (by decide) _ _).set (by decide) _ _)) dX6_order_277 hlocks
                  · skip
                    exact absurd c142 c104
                · skip
                  exact absurd c141 c26
      · skip
        subst c23
        refine lv_iconst (v := 1) hx hb dX6_order_37 (by decide) ?_
        refine lv_goto (tgt := 42) hx hb dX6_order_38 (by decide) ?_
        refine lv_istore_n (lv' := [(2, .int 1), (1, .int 97), (0, .ref (q 0))]) hx hb dX6_order_42 rfl hl (by decide) rfl (fun ls hl => ?_)
        refine lv_aload_n hx hb dX6_order_43 rfl (lv_at hl 2 rfl) ?_
        refine lv_aload_n hx hb dX6_order_44 rfl (lv_at hl 2 rfl) ?_
        refine m_get hx hb hts hin hown hK hI 12 (by decide) (hts (.fieldLink RX6 141 "WinderLaddersModel" "isWrong" "Z") (by decide +kernel)) (v := .int 0) (congrArg (fun z => some (Value.int z)) hw) dX6_order_45 ?_
        refine lv_if_ne (tgt := 79) hx hb dX6_order_48 (by decide) (fun c143 => absurd (by decide) c143) (fun _ => ?_)
        refine lv_iload_n hx hb dX6_order_51 rfl (lv_at hl 0 rfl) ?_
        refine lv_if_ne (tgt := 83) hx hb dX6_order_52 (by decide) (fun _ => ?_) (fun c144 => absurd c144 (by decide))
        refine lv_iconst (v := 0) hx hb dX6_order_83 (by decide) ?_
        refine m_put hx hb hts hin hown hK hA hI 12 (by decide) (hts (.fieldLink RX6 141 "WinderLaddersModel" "isWrong" "Z") (by decide +kernel)) (fun _ => by first | exact Or.inl rfl | exact Or.inr rfl) dX6_order_84 (fun H locs hI => ?_)
        refine lv_aload_n hx hb dX6_order_87 rfl (lv_at hl 2 rfl) ?_
        refine lv_dup hx hb dX6_order_88 rfl ?_
        refine m_get hx hb hts hin hown hK hI 11 (by decide) (hts (.fieldLink RX6 138 "WinderLaddersModel" "place" "I") (by decide +kernel)) (v := .int (nI pp)) (congrArg (fun z => some (Value.int z)) ((mset_nk _ (by decide) _ _ _).trans (hp))) dX6_order_89 ?_
        refine lv_aload_n hx hb dX6_order_92 rfl (lv_at hl 2 rfl) ?_
        refine m_get hx hb hts hin hown hK hI 12 (by decide) (hts (.fieldLink RX6 141 "WinderLaddersModel" "isWrong" "Z") (by decide +kernel)) (v := .int 0) (congrArg (fun z => some (Value.int z)) (mset_eq _ _ _ _)) dX6_order_93 ?_
        refine lv_if_eq (tgt := 103) hx hb dX6_order_96 (by decide) (fun _ => ?_) (fun c145 => absurd (by decide) c145)
        refine lv_iconst (v := 1) hx hb dX6_order_103 (by decide) ?_
        refine lv_iadd hx hb dX6_order_104 ?_
        refine lv_re (y := nI (pp + 1)) (nI_add (pp) (1)) ?_
        refine m_put hx hb hts hin hown hK hA hI 11 (by decide) (hts (.fieldLink RX6 138 "WinderLaddersModel" "place" "I") (by decide +kernel)) (fun h => absurd h (by decide)) dX6_order_105 (fun H locs hI => ?_)
        refine lv_aload_n hx hb dX6_order_108 rfl (lv_at hl 2 rfl) ?_
        refine lv_iload_n hx hb dX6_order_109 rfl (lv_at hl 1 rfl) ?_
        refine m_put hx hb hts hin hown hK hA hI 13 (by decide) (hts (.fieldLink RX6 152 "WinderLaddersModel" "letter" "I") (by decide +kernel)) (fun h => absurd h (by decide)) dX6_order_110 (fun H locs hI => ?_)
        refine lv_aload_n hx hb dX6_order_113 rfl (lv_at hl 2 rfl) ?_
        refine lv_iload_n hx hb dX6_order_114 rfl (lv_at hl 0 rfl) ?_
        refine lv_if_eq (tgt := 122) hx hb dX6_order_115 (by decide) (fun c146 => absurd c146 (by decide)) (fun _ => ?_)
        refine lv_iconst (v := 0) hx hb dX6_order_118 (by decide) ?_
        refine lv_goto (tgt := 126) hx hb dX6_order_119 (by decide) ?_
        refine m_put hx hb hts hin hown hK hA hI 14 (by decide) (hts (.fieldLink RX6 158 "WinderLaddersModel" "one" "I") (by decide +kernel)) (fun h => absurd h (by decide)) dX6_order_126 (fun H locs hI => ?_)
        refine lv_iload_n hx hb dX6_order_129 rfl (lv_at hl 1 rfl) ?_
        refine lv_bipush (v := 43) hx hb dX6_order_130 (by decide) ?_
        refine lv_icmp_ne (tgt := 210) hx hb dX6_order_132 (by decide) (fun _ => ?_) (fun c147 => absurd c147 (by decide))
        refine lv_aload_n hx hb dX6_order_210 rfl (lv_at hl 2 rfl) ?_
        refine m_get hx hb hts hin hown hK hI 8 (by decide) (hts (.fieldLink RX6 29 "WinderLaddersModel" "row" "[I") (by decide +kernel)) (v := .ref (q 7)) rfl dX6_order_211 ?_
        refine lv_iconst (v := 0) hx hb dX6_order_214 (by decide) ?_
        refine lv_aload_n hx hb dX6_order_215 rfl (lv_at hl 2 rfl) ?_
        refine m_get hx hb hts hin hown hK hI 14 (by decide) (hts (.fieldLink RX6 158 "WinderLaddersModel" "one" "I") (by decide +kernel)) (v := .int 0) (congrArg (fun z => some (Value.int z)) (mset_eq _ _ _ _)) dX6_order_216 ?_
        refine m_ast hx hb hK hA hI 8 (by decide) (0) (by show _ < 80; omega) rfl dX6_order_219 (fun H locs hI => ?_)
        refine lv_aload_n hx hb dX6_order_220 rfl (lv_at hl 2 rfl) ?_
        refine lv_iconst (v := 1) hx hb dX6_order_221 (by decide) ?_
        refine m_put hx hb hts hin hown hK hA hI 9 (by decide) (hts (.fieldLink RX6 58 "WinderLaddersModel" "inRow" "I") (by decide +kernel)) (fun h => absurd h (by decide)) dX6_order_222 (fun H locs hI => ?_)
        refine lv_iload_n hx hb dX6_order_225 rfl (lv_at hl 1 rfl) ?_
        refine lv_bipush (v := 98) hx hb dX6_order_226 (by decide) ?_
        refine lv_icmp_ne (tgt := 277) hx hb dX6_order_228 (by decide) (fun _ => ?_) (fun c148 => absurd c148 (by decide))
        exact m_vret hx hb hr hI (ordP_ok (pl := pp + 1) (one := 0) (two := 0) (three := 0) (L := 1) (w := fun _ => 0) (by simp [rO, rP, ec, c1, nc1, c16]) (by simp [mset, hw]) (by simp [mset]) (by simp [mset, ec]) (by simp [mset]) (by rw [ec]; exact fun z => absurd z (by decide)) (by simp [mset]; rfl) (fun j hj => by rw [show j = 0 by omega]; simp [mset]) (((((((Pk.rf M).set (by decide) _ _).set (by decide) _ _).set (by decide) _ _).set (by decide) _ _).set (by decide) _ _).set (by decide) _ _)) dX6_order_277 hlocks
