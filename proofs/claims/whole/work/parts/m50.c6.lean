set_option maxHeartbeats 4000000 in
set_option maxRecDepth 100000 in
theorem k_X2_here (l : Launch) (dd : va_G) (g : Nat → ClassId) (ad pi : Nat → Nat) (A : Nat → Prop) (hA : cA A ad) (C : MS) (len pp : Nat) (hl80 : len ≤ 80) (hp80 : pp ≤ len) (hl1 : C 10 1 = nI len) (hp2 : C 10 2 = nI pp) (hch : chOk (C 12) len)  : Met l yX2_here wsX2_here ({ frames := 0, cells := 0, slots := 0, locals := 0 }) (cPre dd g ad pi A C [.ref (ad 5)]) (cQi dd g ad A (fun r C1 pi1 => r = chr (C 12) len pp ∧ C1 = C ∧ pi1 = pi)) 0 0 A := by
  refine Met.ofW (cc := cX2_here) (maxL := 1) (ret := (some .char)) (by decide) rfl ?_
  intro p e s m args below meth c s₁ B hml hv
  obtain ⟨rfl, hP0, hK, hX⟩ := hv
  have hx := B.exec
  have hb := B.bytes
  have hr := B.returns
  have hts := atoms_spec (ws := wsX2_here) B.pre
  have hown : s.vm.findClass RX2 = some m.cls := findClass_of_methodNamed B.named
  have hlocks := B.notSynchronized
  have hinX2 : ∀ w ∈ wsX20, w ∈ wsX2_here := by decide +kernel
  have hI : cI dd g ad pi A s.heap s.heap [] C := ⟨hP0, va_S.rf⟩
  have hl := lv_entry ([.ref (ad 5)]) (n := 1) (Nat.le_of_ble_eq_true rfl)
  rw [lg_entry_eq]
  generalize (lg_sl ([.ref (ad 5)]) ++ List.replicate (1 - (lg_sl ([.ref (ad 5)])).length) Slot.unset).toArray = ls at hl ⊢
  have hl : lv_has ls 1 [(0, .ref (ad 5))] := hl
  refine lv_aload_n hx hb dX2_here_0 rfl (lv_at hl 0 rfl) ?_
  refine c_get hx hb hts hown hK hI 5 (by omega) cE_5 rfl hinX2 3 (by decide) (hts (.fieldLink RX2 33 "WinderLadders$Pad" "place" "I") (by decide +kernel)) (v := .int (nI pp)) (congrArg (fun z => some (Value.int z)) hp2) dX2_here_1 ?_
  refine lv_if_lt (tgt := 30) hx hb dX2_here_4 (by decide) (fun c1 => ?_) (fun c1 => ?_)
  · skip
    have nc1 : pp < 0 := (nI_ltI (a := pp) (b := 0) (by omega) (by omega)).mp c1
    exact absurd nc1 (by omega)
  · skip
    have nc1 : ¬ (pp < 0) := fun h => c1 ((nI_ltI (a := pp) (b := 0) (by omega) (by omega)).mpr h)
    refine lv_aload_n hx hb dX2_here_7 rfl (lv_at hl 0 rfl) ?_
    refine c_get hx hb hts hown hK hI 5 (by omega) cE_5 rfl hinX2 3 (by decide) (hts (.fieldLink RX2 33 "WinderLadders$Pad" "place" "I") (by decide +kernel)) (v := .int (nI pp)) (congrArg (fun z => some (Value.int z)) hp2) dX2_here_8 ?_
    refine lv_aload_n hx hb dX2_here_11 rfl (lv_at hl 0 rfl) ?_
    refine c_get hx hb hts hown hK hI 5 (by omega) cE_5 rfl hinX2 2 (by decide) (hts (.fieldLink RX2 22 "WinderLadders$Pad" "length" "I") (by decide +kernel)) (v := .int (nI len)) (congrArg (fun z => some (Value.int z)) hl1) dX2_here_12 ?_
    refine lv_icmp_ge (tgt := 30) hx hb dX2_here_15 (by decide) (fun c2 => ?_) (fun c2 => ?_)
    · skip
      have nc2 : len ≤ pp := (nI_leI (a := len) (b := pp) (by omega) (by omega)).mp c2
      refine lv_iconst (v := 0) hx hb dX2_here_30 (by decide) ?_
      exact c_zret (v := 0) hx hb hr (by first | rfl | exact nar_ch hch (by omega)) hI (⟨(chr_out (by omega)).symm, rfl, rfl⟩) dX2_here_31 hlocks
    · skip
      have nc2 : ¬ (len ≤ pp) := fun h => c2 ((nI_leI (a := len) (b := pp) (by omega) (by omega)).mpr h)
      refine lv_aload_n hx hb dX2_here_18 rfl (lv_at hl 0 rfl) ?_
      refine c_get hx hb hts hown hK hI 5 (by omega) cE_5 rfl hinX2 0 (by decide) (hts (.fieldLink RX2 9 "WinderLadders$Pad" "signs" "[C") (by decide +kernel)) (v := .ref (ad 6)) rfl dX2_here_19 ?_
      refine lv_aload_n hx hb dX2_here_22 rfl (lv_at hl 0 rfl) ?_
      refine c_get hx hb hts hown hK hI 5 (by omega) cE_5 rfl hinX2 3 (by decide) (hts (.fieldLink RX2 33 "WinderLadders$Pad" "place" "I") (by decide +kernel)) (v := .int (nI pp)) (congrArg (fun z => some (Value.int z)) hp2) dX2_here_23 ?_
      refine c_cld hx hb hK hI (pp) (by omega) rfl (v := C 12 pp) rfl dX2_here_26 ?_
      refine lv_goto (tgt := 31) hx hb dX2_here_27 (by decide) ?_
      exact c_zret (v := C 12 pp) hx hb hr (by first | rfl | exact nar_ch hch (by omega)) hI (⟨(chr_in (by omega)).symm, rfl, rfl⟩) dX2_here_31 hlocks

set_option maxHeartbeats 4000000 in
set_option maxRecDepth 100000 in
theorem k_X2_take (l : Launch) (dd : va_G) (g : Nat → ClassId) (ad pi : Nat → Nat) (A : Nat → Prop) (hA : cA A ad) (C : MS) (len pp : Nat) (hl80 : len ≤ 80) (hp80 : pp ≤ len) (hl1 : C 10 1 = nI len) (hp2 : C 10 2 = nI pp) (hch : chOk (C 12) len) (x : Int32) : Met l yX2_take wsX2_take ({ frames := 1, cells := 0, slots := 0, locals := 20 }) (cPre dd g ad pi A C [.ref (ad 5), .int x]) (cQi dd g ad A (fun r C1 pi1 => ((chr (C 12) len pp = x ∧ r = 1 ∧ C1 = mset C 10 2 (nI (pp + 1))) ∨ (¬ chr (C 12) len pp = x ∧ r = 0 ∧ C1 = C)) ∧ pi1 = pi)) 0 0 A := by
  refine Met.ofW (cc := cX2_take) (maxL := 2) (ret := (some .boolean)) (by decide) rfl ?_
  intro p e s m args below meth c s₁ B hml hv
  obtain ⟨rfl, hP0, hK, hX⟩ := hv
  have hx := B.exec
  have hb := B.bytes
  have hr := B.returns
  have hts := atoms_spec (ws := wsX2_take) B.pre
  have hown : s.vm.findClass RX2 = some m.cls := findClass_of_methodNamed B.named
  have hlocks := B.notSynchronized
  have hinX2 : ∀ w ∈ wsX20, w ∈ wsX2_take := by decide +kernel
  have hI : cI dd g ad pi A s.heap s.heap [] C := ⟨hP0, va_S.rf⟩
  have hl := lv_entry ([.ref (ad 5), .int x]) (n := 2) (Nat.le_of_ble_eq_true rfl)
  rw [lg_entry_eq]
  generalize (lg_sl ([.ref (ad 5), .int x]) ++ List.replicate (2 - (lg_sl ([.ref (ad 5), .int x])).length) Slot.unset).toArray = ls at hl ⊢
  have hl : lv_has ls 2 [(0, .ref (ad 5)), (1, .int x)] := hl
  refine lv_aload_n hx hb dX2_take_0 rfl (lv_at hl 0 rfl) ?_
  refine c_calli (As := []) (rest := []) hx hb hml hown hts hK hX hI 5 (by omega) cE_5 rfl (k_X2_here l dd g ad pi A hA C len pp hl80 (by omega) hl1 hp2 hch) (cwV 0 hts gX2_take_X2_here rfl rfl rfl (by decide +kernel) ⟨Nat.le_of_ble_eq_true rfl, Nat.le_of_ble_eq_true rfl⟩) rfl hl (Nat.le_of_ble_eq_true rfl) ⟨Nat.zero_le _, Nat.zero_le _⟩ dX2_take_1 rfl (fun r C1 pi1 H locs h1 hI => ?_)
  obtain ⟨hr9, hc9, hp9⟩ := h1
  rw [hc9, hp9] at hI
  subst hr9
  refine lv_iload_n hx hb dX2_take_4 rfl (lv_at hl 1 rfl) ?_
  refine lv_icmp_eq (tgt := 10) hx hb dX2_take_5 (by decide) (fun c2 => ?_) (fun c2 => ?_)
  · skip
    refine lv_aload_n hx hb dX2_take_10 rfl (lv_at hl 0 rfl) ?_
    refine lv_dup hx hb dX2_take_11 rfl ?_
    refine c_get hx hb hts hown hK hI 5 (by omega) cE_5 rfl hinX2 3 (by decide) (hts (.fieldLink RX2 33 "WinderLadders$Pad" "place" "I") (by decide +kernel)) (v := .int (nI pp)) (congrArg (fun z => some (Value.int z)) hp2) dX2_take_12 ?_
    refine lv_iconst (v := 1) hx hb dX2_take_15 (by decide) ?_
    refine lv_iadd hx hb dX2_take_16 ?_
    refine lv_re (y := nI (pp + 1)) (nI_add (pp) (1)) ?_
    refine c_putP hx hb hts hinX2 hown hK hA hI 2 3 (by decide) (hts (.fieldLink RX2 33 "WinderLadders$Pad" "place" "I") (by decide +kernel)) dX2_take_17 (fun H locs hI => ?_)
    refine lv_iconst (v := 1) hx hb dX2_take_20 (by decide) ?_
    exact c_zret (v := 1) hx hb hr (by first | rfl | decide) hI (⟨Or.inl ⟨c2, rfl, rfl⟩, rfl⟩) dX2_take_21 hlocks
  · skip
    refine lv_iconst (v := 0) hx hb dX2_take_8 (by decide) ?_
    exact c_zret (v := 0) hx hb hr (by first | rfl | decide) hI (⟨Or.inr ⟨c2, rfl, rfl⟩, rfl⟩) dX2_take_9 hlocks

set_option maxHeartbeats 4000000 in
set_option maxRecDepth 100000 in
theorem k_X2_goToStart (l : Launch) (dd : va_G) (g : Nat → ClassId) (ad pi : Nat → Nat) (A : Nat → Prop) (hA : cA A ad) (C : MS)  : Met l yX2_goToStart wsX2_goToStart ({ frames := 0, cells := 0, slots := 0, locals := 0 }) (cPre dd g ad pi A C [.ref (ad 5)]) (cQv dd g ad A (fun C1 pi1 => C1 = mset C 10 2 0 ∧ pi1 = pi)) 0 0 A := by
  refine Met.ofW (cc := cX2_goToStart) (maxL := 1) (ret := none) (by decide) rfl ?_
  intro p e s m args below meth c s₁ B hml hv
  obtain ⟨rfl, hP0, hK, hX⟩ := hv
  have hx := B.exec
  have hb := B.bytes
  have hr := B.returns
  have hts := atoms_spec (ws := wsX2_goToStart) B.pre
  have hown : s.vm.findClass RX2 = some m.cls := findClass_of_methodNamed B.named
  have hlocks := B.notSynchronized
  have hinX2 : ∀ w ∈ wsX20, w ∈ wsX2_goToStart := by decide +kernel
  have hI : cI dd g ad pi A s.heap s.heap [] C := ⟨hP0, va_S.rf⟩
  have hl := lv_entry ([.ref (ad 5)]) (n := 1) (Nat.le_of_ble_eq_true rfl)
  rw [lg_entry_eq]
  generalize (lg_sl ([.ref (ad 5)]) ++ List.replicate (1 - (lg_sl ([.ref (ad 5)])).length) Slot.unset).toArray = ls at hl ⊢
  have hl : lv_has ls 1 [(0, .ref (ad 5))] := hl
  refine lv_aload_n hx hb dX2_goToStart_0 rfl (lv_at hl 0 rfl) ?_
  refine lv_iconst (v := 0) hx hb dX2_goToStart_1 (by decide) ?_
  refine c_putP hx hb hts hinX2 hown hK hA hI 2 3 (by decide) (hts (.fieldLink RX2 33 "WinderLadders$Pad" "place" "I") (by decide +kernel)) dX2_goToStart_2 (fun H locs hI => ?_)
  exact c_vret hx hb hr hI (⟨rfl, rfl⟩) dX2_goToStart_5 hlocks

set_option maxHeartbeats 4000000 in
set_option maxRecDepth 100000 in
theorem k_X2_append (l : Launch) (dd : va_G) (g : Nat → ClassId) (ad pi : Nat → Nat) (A : Nat → Prop) (hA : cA A ad) (C : MS) (len : Nat) (hl80 : len ≤ 80) (hl1 : C 10 1 = nI len) (x : Int32) (hx9 : vp_nar .char x = x) : Met l yX2_append wsX2_append ({ frames := 0, cells := 0, slots := 0, locals := 0 }) (cPre dd g ad pi A C [.ref (ad 5), .int x]) (cQv dd g ad A (fun C1 pi1 => ((len < 80 ∧ C1 = mset (mset C 12 len x) 10 1 (nI (len + 1))) ∨ (¬ len < 80 ∧ C1 = C)) ∧ pi1 = pi)) 0 0 A := by
  refine Met.ofW (cc := cX2_append) (maxL := 2) (ret := none) (by decide) rfl ?_
  intro p e s m args below meth c s₁ B hml hv
  obtain ⟨rfl, hP0, hK, hX⟩ := hv
  have hx := B.exec
  have hb := B.bytes
  have hr := B.returns
  have hts := atoms_spec (ws := wsX2_append) B.pre
  have hown : s.vm.findClass RX2 = some m.cls := findClass_of_methodNamed B.named
  have hlocks := B.notSynchronized
  have hinX2 : ∀ w ∈ wsX20, w ∈ wsX2_append := by decide +kernel
  have hI : cI dd g ad pi A s.heap s.heap [] C := ⟨hP0, va_S.rf⟩
  have hl := lv_entry ([.ref (ad 5), .int x]) (n := 2) (Nat.le_of_ble_eq_true rfl)
  rw [lg_entry_eq]
  generalize (lg_sl ([.ref (ad 5), .int x]) ++ List.replicate (2 - (lg_sl ([.ref (ad 5), .int x])).length) Slot.unset).toArray = ls at hl ⊢
  have hl : lv_has ls 2 [(0, .ref (ad 5)), (1, .int x)] := hl
  refine lv_aload_n hx hb dX2_append_0 rfl (lv_at hl 0 rfl) ?_
  refine c_get hx hb hts hown hK hI 5 (by omega) cE_5 rfl hinX2 2 (by decide) (hts (.fieldLink RX2 22 "WinderLadders$Pad" "length" "I") (by decide +kernel)) (v := .int (nI len)) (congrArg (fun z => some (Value.int z)) hl1) dX2_append_1 ?_
  refine lv_bipush (v := 80) hx hb dX2_append_4 (by decide) ?_
  refine lv_icmp_ge (tgt := 29) hx hb dX2_append_6 (by decide) (fun c1 => ?_) (fun c1 => ?_)
  · skip
    have nc1 : 80 ≤ len := (nI_leI (a := 80) (b := len) (by omega) (by omega)).mp c1
    exact c_vret hx hb hr hI (⟨Or.inr ⟨by omega, rfl⟩, rfl⟩) dX2_append_29 hlocks
  · skip
    have nc1 : ¬ (80 ≤ len) := fun h => c1 ((nI_leI (a := 80) (b := len) (by omega) (by omega)).mpr h)
    refine lv_aload_n hx hb dX2_append_9 rfl (lv_at hl 0 rfl) ?_
    refine c_get hx hb hts hown hK hI 5 (by omega) cE_5 rfl hinX2 0 (by decide) (hts (.fieldLink RX2 9 "WinderLadders$Pad" "signs" "[C") (by decide +kernel)) (v := .ref (ad 6)) rfl dX2_append_10 ?_
    refine lv_aload_n hx hb dX2_append_13 rfl (lv_at hl 0 rfl) ?_
    refine c_get hx hb hts hown hK hI 5 (by omega) cE_5 rfl hinX2 2 (by decide) (hts (.fieldLink RX2 22 "WinderLadders$Pad" "length" "I") (by decide +kernel)) (v := .int (nI len)) (congrArg (fun z => some (Value.int z)) hl1) dX2_append_14 ?_
    refine lv_iload_n hx hb dX2_append_17 rfl (lv_at hl 1 rfl) ?_
    refine c_cst hx hb hK hA hI (len) (by omega) rfl hx9 dX2_append_18 (fun H locs hI => ?_)
    refine lv_aload_n hx hb dX2_append_19 rfl (lv_at hl 0 rfl) ?_
    refine lv_dup hx hb dX2_append_20 rfl ?_
    refine c_get hx hb hts hown hK hI 5 (by omega) cE_5 rfl hinX2 2 (by decide) (hts (.fieldLink RX2 22 "WinderLadders$Pad" "length" "I") (by decide +kernel)) (v := .int (nI len)) (congrArg (fun z => some (Value.int z)) ((mset_nk _ (by omega) _ _ _).trans (hl1))) dX2_append_21 ?_
    refine lv_iconst (v := 1) hx hb dX2_append_24 (by decide) ?_
    refine lv_iadd hx hb dX2_append_25 ?_
    refine lv_re (y := nI (len + 1)) (nI_add (len) (1)) ?_
    refine c_putP hx hb hts hinX2 hown hK hA hI 1 2 (by decide) (hts (.fieldLink RX2 22 "WinderLadders$Pad" "length" "I") (by decide +kernel)) dX2_append_26 (fun H locs hI => ?_)
    exact c_vret hx hb hr hI (⟨Or.inl ⟨by omega, rfl⟩, rfl⟩) dX2_append_29 hlocks

set_option maxHeartbeats 4000000 in
set_option maxRecDepth 100000 in
theorem k_X2_readNumber (l : Launch) (dd : va_G) (g : Nat → ClassId) (ad pi : Nat → Nat) (A : Nat → Prop) (hA : cA A ad) (C : MS) (len pp : Nat) (hl80 : len ≤ 80) (hp80 : pp ≤ len) (hl1 : C 10 1 = nI len) (hp2 : C 10 2 = nI pp) (hch : chOk (C 12) len) (L : Nat) (hL : L < 40) (hl4 : C 10 4 = nI L) (fac : Int32) : Met l yX2_readNumber wsX2_readNumber ({ frames := 1, cells := 0, slots := 0, locals := 21 }) (cPre dd g ad pi A C [.ref (ad 5), .int fac]) (cQi dd g ad A (fun r C1 pi1 => ((∃ v p', rN (C 12) len pp = some (v, p') ∧ r = 1 ∧ C1 = pdM C p' (L + 1) (upd (C 13) L (v * fac))) ∨ (rN (C 12) len pp = none ∧ r = 0 ∧ C1 = C)) ∧ pi1 = pi)) 0 0 A := by
  refine Met.ofW (cc := cX2_readNumber) (maxL := 3) (ret := (some .boolean)) (by decide) rfl ?_
  intro p e s m args below meth c s₁ B hml hv
  obtain ⟨rfl, hP0, hK, hX⟩ := hv
  have hx := B.exec
  have hb := B.bytes
  have hr := B.returns
  have hts := atoms_spec (ws := wsX2_readNumber) B.pre
  have hown : s.vm.findClass RX2 = some m.cls := findClass_of_methodNamed B.named
  have hlocks := B.notSynchronized
  have hinX2 : ∀ w ∈ wsX20, w ∈ wsX2_readNumber := by decide +kernel
  have hI : cI dd g ad pi A s.heap s.heap [] C := ⟨hP0, va_S.rf⟩
  have hl := lv_entry ([.ref (ad 5), .int fac]) (n := 3) (Nat.le_of_ble_eq_true rfl)
  rw [lg_entry_eq]
  generalize (lg_sl ([.ref (ad 5), .int fac]) ++ List.replicate (3 - (lg_sl ([.ref (ad 5), .int fac])).length) Slot.unset).toArray = ls at hl ⊢
  have hl : lv_has ls 3 [(0, .ref (ad 5)), (1, .int fac)] := hl
  refine lv_aload_n hx hb dX2_readNumber_0 rfl (lv_at hl 0 rfl) ?_
  refine c_calli (As := []) (rest := []) hx hb hml hown hts hK hX hI 5 (by omega) cE_5 rfl (k_X2_here l dd g ad pi A hA C len pp hl80 (by omega) hl1 hp2 hch) (cwV 0 hts gX2_readNumber_X2_here rfl rfl rfl (by decide +kernel) ⟨Nat.le_of_ble_eq_true rfl, Nat.le_of_ble_eq_true rfl⟩) rfl hl (Nat.le_of_ble_eq_true rfl) ⟨Nat.zero_le _, Nat.zero_le _⟩ dX2_readNumber_1 rfl (fun r C1 pi1 H locs h1 hI => ?_)
  obtain ⟨hr9, hc9, hp9⟩ := h1
  rw [hc9, hp9] at hI
  subst hr9
  refine c_calls (As := [.int (chr (C 12) len pp)]) (rest := []) hx hb hml hown hts hI (k_X2_isDigit l (chr (C 12) len pp)) (va_cwS 1 hts gX2_readNumber_X2_isDigit rfl rfl rfl (by decide +kernel) ⟨Nat.le_of_ble_eq_true rfl, Nat.le_of_ble_eq_true rfl⟩) rfl hl (Nat.le_of_ble_eq_true rfl) ⟨Nat.zero_le _, Nat.zero_le _⟩ dX2_readNumber_4 rfl (fun r H locs h3 hI => ?_)
  rcases h3 with ⟨b2, rfl⟩ | ⟨b2, rfl⟩
  · skip
    have i_b2 := chr_pos b2 (by decide)
    refine lv_if_ne (tgt := 12) hx hb dX2_readNumber_7 (by decide) (fun _ => ?_) (fun c4 => absurd c4 (by decide))
    refine lv_aload_n hx hb dX2_readNumber_12 rfl (lv_at hl 0 rfl) ?_
    refine c_calli (As := []) (rest := []) hx hb hml hown hts hK hX hI 5 (by omega) cE_5 rfl (k_X2_here l dd g ad pi A hA C len pp hl80 (by omega) hl1 hp2 hch) (cwV 0 hts gX2_readNumber_X2_here rfl rfl rfl (by decide +kernel) ⟨Nat.le_of_ble_eq_true rfl, Nat.le_of_ble_eq_true rfl⟩) rfl hl (Nat.le_of_ble_eq_true rfl) ⟨Nat.zero_le _, Nat.zero_le _⟩ dX2_readNumber_13 rfl (fun r C1 pi1 H locs h5 hI => ?_)
    obtain ⟨hr9, hc9, hp9⟩ := h5
    rw [hc9, hp9] at hI
    subst hr9
    refine lv_bipush (v := 48) hx hb dX2_readNumber_16 (by decide) ?_
    refine lv_isub hx hb dX2_readNumber_18 ?_
    refine lv_istore_n (lv' := [(2, .int ((chr (C 12) len pp) - 48)), (0, .ref (ad 5)), (1, .int fac)]) hx hb dX2_readNumber_19 rfl hl (by decide) rfl (fun ls hl => ?_)
    refine lv_aload_n hx hb dX2_readNumber_20 rfl (lv_at hl 1 rfl) ?_
    refine lv_dup hx hb dX2_readNumber_21 rfl ?_
    refine c_get hx hb hts hown hK hI 5 (by omega) cE_5 rfl hinX2 3 (by decide) (hts (.fieldLink RX2 33 "WinderLadders$Pad" "place" "I") (by decide +kernel)) (v := .int (nI pp)) (congrArg (fun z => some (Value.int z)) hp2) dX2_readNumber_22 ?_
    refine lv_iconst (v := 1) hx hb dX2_readNumber_25 (by decide) ?_
    refine lv_iadd hx hb dX2_readNumber_26 ?_
    refine lv_re (y := nI (pp + 1)) (nI_add (pp) (1)) ?_
    refine c_putP hx hb hts hinX2 hown hK hA hI 2 3 (by decide) (hts (.fieldLink RX2 33 "WinderLadders$Pad" "place" "I") (by decide +kernel)) dX2_readNumber_27 (fun H locs hI => ?_)
    refine lv_iload_n hx hb dX2_readNumber_30 rfl (lv_at hl 0 rfl) ?_
    refine lv_if_le (tgt := 67) hx hb dX2_readNumber_31 (by decide) (fun c6 => ?_) (fun c6 => ?_)
    · skip
      refine lv_aload_n hx hb dX2_readNumber_67 rfl (lv_at hl 1 rfl) ?_
      refine c_get hx hb hts hown hK hI 5 (by omega) cE_5 rfl hinX2 1 (by decide) (hts (.fieldLink RX2 18 "WinderLadders$Pad" "numbers" "LWinderLadders$Row;") (by decide +kernel)) (v := .ref (ad 7)) rfl dX2_readNumber_68 ?_
      refine lv_iload_n hx hb dX2_readNumber_71 rfl (lv_at hl 0 rfl) ?_
      refine lv_iload_n hx hb dX2_readNumber_72 rfl (lv_at hl 2 rfl) ?_
      refine lv_imul hx hb dX2_readNumber_73 ?_
      refine c_calli (As := [.int (((chr (C 12) len pp) - 48) * fac)]) (rest := []) hx hb hml hown hts hK hX hI 7 (by omega) cE_7 rfl (k_X3_add_p l dd g ad pi A hA (mset C 10 (2) (nI (pp + 1))) L (by omega) ((mset_nj _ (by omega) _ _).trans (hl4)) (((chr (C 12) len pp) - 48) * fac)) (cwV 1 hts gX2_readNumber_X3_add rfl rfl rfl (by decide +kernel) ⟨Nat.le_of_ble_eq_true rfl, Nat.le_of_ble_eq_true rfl⟩) rfl hl (Nat.le_of_ble_eq_true rfl) ⟨Nat.zero_le _, Nat.zero_le _⟩ dX2_readNumber_74 rfl (fun r C1 pi1 H locs h7 hI => ?_)
      obtain ⟨h7, hp9⟩ := h7
      rcases h7 with ⟨-, hr9, hc9⟩ | ⟨hz9, -, -⟩
      rotate_left
      · exact absurd hz9 (by omega)
      rw [hc9, hp9] at hI
      subst hr9
      exact c_zret (v := 1) hx hb hr (by first | rfl | decide) hI (⟨Or.inl ⟨_, _, by simp only [rN, nxB_eq (t := C 12) (len := len) (p := pp + 1) (lo := 48) (hi := 57) (by decide), if_pos b2, if_pos c6]; first | rfl | (rw [Int32.mul_comm]; done), rfl, by first | exact pdM_add | (rw [mset_mset]; exact pdM_add)⟩, rfl⟩) dX2_readNumber_77 hlocks
    · skip
      refine lv_aload_n hx hb dX2_readNumber_34 rfl (lv_at hl 1 rfl) ?_
      refine c_calli (As := []) (rest := []) hx hb hml hown hts hK hX hI 5 (by omega) cE_5 rfl (k_X2_here l dd g ad pi A hA (mset C 10 (2) (nI (pp + 1))) len (pp + 1) hl80 (by omega) ((mset_nj _ (by omega) _ _).trans (hl1)) (mset_eq _ _ _ _) (by simp only [mset_ne _ (show (12 : Nat) ≠ 10 by decide), mset_ne _ (show (12 : Nat) ≠ 13 by decide), pdM_ne (show (12 : Nat) ≠ 10 by decide) (show (12 : Nat) ≠ 13 by decide)]; exact hch)) (cwV 0 hts gX2_readNumber_X2_here rfl rfl rfl (by decide +kernel) ⟨Nat.le_of_ble_eq_true rfl, Nat.le_of_ble_eq_true rfl⟩) rfl hl (Nat.le_of_ble_eq_true rfl) ⟨Nat.zero_le _, Nat.zero_le _⟩ dX2_readNumber_35 rfl (fun r C1 pi1 H locs h8 hI => ?_)
      simp only [mset_ne _ (show (12 : Nat) ≠ 10 by decide), mset_ne _ (show (12 : Nat) ≠ 13 by decide), pdM_ne (show (12 : Nat) ≠ 10 by decide) (show (12 : Nat) ≠ 13 by decide)] at h8
      obtain ⟨hr9, hc9, hp9⟩ := h8
      rw [hc9, hp9] at hI
      subst hr9
      refine c_calls (As := [.int (chr (C 12) len (pp + 1))]) (rest := []) hx hb hml hown hts hI (k_X2_isDigit l (chr (C 12) len (pp + 1))) (va_cwS 1 hts gX2_readNumber_X2_isDigit rfl rfl rfl (by decide +kernel) ⟨Nat.le_of_ble_eq_true rfl, Nat.le_of_ble_eq_true rfl⟩) rfl hl (Nat.le_of_ble_eq_true rfl) ⟨Nat.zero_le _, Nat.zero_le _⟩ dX2_readNumber_38 rfl (fun r H locs h10 hI => ?_)
      rcases h10 with ⟨b9, rfl⟩ | ⟨b9, rfl⟩
      · skip
        have i_b9 := chr_pos b9 (by decide)
        refine lv_if_eq (tgt := 67) hx hb dX2_readNumber_41 (by decide) (fun c11 => absurd c11 (by decide)) (fun _ => ?_)
        refine lv_iload_n hx hb dX2_readNumber_44 rfl (lv_at hl 0 rfl) ?_
        refine lv_bipush (v := 10) hx hb dX2_readNumber_45 (by decide) ?_
        refine lv_imul hx hb dX2_readNumber_47 ?_
        refine lv_re (y := 10 * ((chr (C 12) len pp) - 48)) (Int32.mul_comm _ _) ?_
        refine lv_aload_n hx hb dX2_readNumber_48 rfl (lv_at hl 1 rfl) ?_
        refine c_calli (As := []) (rest := [.int (10 * ((chr (C 12) len pp) - 48))]) hx hb hml hown hts hK hX hI 5 (by omega) cE_5 rfl (k_X2_here l dd g ad pi A hA (mset C 10 (2) (nI (pp + 1))) len (pp + 1) hl80 (by omega) ((mset_nj _ (by omega) _ _).trans (hl1)) (mset_eq _ _ _ _) (by simp only [mset_ne _ (show (12 : Nat) ≠ 10 by decide), mset_ne _ (show (12 : Nat) ≠ 13 by decide), pdM_ne (show (12 : Nat) ≠ 10 by decide) (show (12 : Nat) ≠ 13 by decide)]; exact hch)) (cwV 0 hts gX2_readNumber_X2_here rfl rfl rfl (by decide +kernel) ⟨Nat.le_of_ble_eq_true rfl, Nat.le_of_ble_eq_true rfl⟩) rfl hl (Nat.le_of_ble_eq_true rfl) ⟨Nat.zero_le _, Nat.zero_le _⟩ dX2_readNumber_49 rfl (fun r C1 pi1 H locs h12 hI => ?_)
        simp only [mset_ne _ (show (12 : Nat) ≠ 10 by decide), mset_ne _ (show (12 : Nat) ≠ 13 by decide), pdM_ne (show (12 : Nat) ≠ 10 by decide) (show (12 : Nat) ≠ 13 by decide)] at h12
        obtain ⟨hr9, hc9, hp9⟩ := h12
        rw [hc9, hp9] at hI
        subst hr9
        refine lv_iadd hx hb dX2_readNumber_52 ?_
        refine lv_bipush (v := 48) hx hb dX2_readNumber_53 (by decide) ?_
        refine lv_isub hx hb dX2_readNumber_55 ?_
        refine lv_istore_n (lv' := [(2, .int (((10 * ((chr (C 12) len pp) - 48)) + (chr (C 12) len (pp + 1))) - 48)), (0, .ref (ad 5)), (1, .int fac)]) hx hb dX2_readNumber_56 rfl hl (by decide) rfl (fun ls hl => ?_)
        refine lv_aload_n hx hb dX2_readNumber_57 rfl (lv_at hl 1 rfl) ?_
        refine lv_dup hx hb dX2_readNumber_58 rfl ?_
        refine c_get hx hb hts hown hK hI 5 (by omega) cE_5 rfl hinX2 3 (by decide) (hts (.fieldLink RX2 33 "WinderLadders$Pad" "place" "I") (by decide +kernel)) (v := .int (nI (pp + 1))) (congrArg (fun z => some (Value.int z)) (mset_eq _ _ _ _)) dX2_readNumber_59 ?_
        refine lv_iconst (v := 1) hx hb dX2_readNumber_62 (by decide) ?_
        refine lv_iadd hx hb dX2_readNumber_63 ?_
        refine lv_re (y := nI (pp + 1 + 1)) (nI_add (pp + 1) (1)) ?_
        refine c_putP hx hb hts hinX2 hown hK hA hI 2 3 (by decide) (hts (.fieldLink RX2 33 "WinderLadders$Pad" "place" "I") (by decide +kernel)) dX2_readNumber_64 (fun H locs hI => ?_)
        refine lv_aload_n hx hb dX2_readNumber_67 rfl (lv_at hl 1 rfl) ?_
        refine c_get hx hb hts hown hK hI 5 (by omega) cE_5 rfl hinX2 1 (by decide) (hts (.fieldLink RX2 18 "WinderLadders$Pad" "numbers" "LWinderLadders$Row;") (by decide +kernel)) (v := .ref (ad 7)) rfl dX2_readNumber_68 ?_
        refine lv_iload_n hx hb dX2_readNumber_71 rfl (lv_at hl 0 rfl) ?_
        refine lv_iload_n hx hb dX2_readNumber_72 rfl (lv_at hl 2 rfl) ?_
        refine lv_imul hx hb dX2_readNumber_73 ?_
        refine c_calli (As := [.int ((((10 * ((chr (C 12) len pp) - 48)) + (chr (C 12) len (pp + 1))) - 48) * fac)]) (rest := []) hx hb hml hown hts hK hX hI 7 (by omega) cE_7 rfl (k_X3_add_p l dd g ad pi A hA (mset (mset C 10 (2) (nI (pp + 1))) 10 (2) (nI (pp + 1 + 1))) L (by omega) ((mset_nj _ (by omega) _ _).trans ((mset_nj _ (by omega) _ _).trans (hl4))) ((((10 * ((chr (C 12) len pp) - 48)) + (chr (C 12) len (pp + 1))) - 48) * fac)) (cwV 1 hts gX2_readNumber_X3_add rfl rfl rfl (by decide +kernel) ⟨Nat.le_of_ble_eq_true rfl, Nat.le_of_ble_eq_true rfl⟩) rfl hl (Nat.le_of_ble_eq_true rfl) ⟨Nat.zero_le _, Nat.zero_le _⟩ dX2_readNumber_74 rfl (fun r C1 pi1 H locs h13 hI => ?_)
        obtain ⟨h13, hp9⟩ := h13
        rcases h13 with ⟨-, hr9, hc9⟩ | ⟨hz9, -, -⟩
        rotate_left
        · exact absurd hz9 (by omega)
        rw [hc9, hp9] at hI
        subst hr9
        exact c_zret (v := 1) hx hb hr (by first | rfl | decide) hI (⟨Or.inl ⟨_, _, by simp only [rN, nxB_eq (t := C 12) (len := len) (p := pp + 1) (lo := 48) (hi := 57) (by decide), if_pos b2, if_neg c6, if_pos b9]; first | rfl | (rw [Int32.mul_comm]; done), rfl, by first | exact pdM_add | (rw [mset_mset]; exact pdM_add)⟩, rfl⟩) dX2_readNumber_77 hlocks
      · skip
        refine lv_if_eq (tgt := 67) hx hb dX2_readNumber_41 (by decide) (fun _ => ?_) (fun c14 => absurd (by decide) c14)
        refine lv_aload_n hx hb dX2_readNumber_67 rfl (lv_at hl 1 rfl) ?_
        refine c_get hx hb hts hown hK hI 5 (by omega) cE_5 rfl hinX2 1 (by decide) (hts (.fieldLink RX2 18 "WinderLadders$Pad" "numbers" "LWinderLadders$Row;") (by decide +kernel)) (v := .ref (ad 7)) rfl dX2_readNumber_68 ?_
        refine lv_iload_n hx hb dX2_readNumber_71 rfl (lv_at hl 0 rfl) ?_
        refine lv_iload_n hx hb dX2_readNumber_72 rfl (lv_at hl 2 rfl) ?_
        refine lv_imul hx hb dX2_readNumber_73 ?_
        refine c_calli (As := [.int (((chr (C 12) len pp) - 48) * fac)]) (rest := []) hx hb hml hown hts hK hX hI 7 (by omega) cE_7 rfl (k_X3_add_p l dd g ad pi A hA (mset C 10 (2) (nI (pp + 1))) L (by omega) ((mset_nj _ (by omega) _ _).trans (hl4)) (((chr (C 12) len pp) - 48) * fac)) (cwV 1 hts gX2_readNumber_X3_add rfl rfl rfl (by decide +kernel) ⟨Nat.le_of_ble_eq_true rfl, Nat.le_of_ble_eq_true rfl⟩) rfl hl (Nat.le_of_ble_eq_true rfl) ⟨Nat.zero_le _, Nat.zero_le _⟩ dX2_readNumber_74 rfl (fun r C1 pi1 H locs h15 hI => ?_)
        obtain ⟨h15, hp9⟩ := h15
        rcases h15 with ⟨-, hr9, hc9⟩ | ⟨hz9, -, -⟩
        rotate_left
        · exact absurd hz9 (by omega)
        rw [hc9, hp9] at hI
        subst hr9
        exact c_zret (v := 1) hx hb hr (by first | rfl | decide) hI (⟨Or.inl ⟨_, _, by simp only [rN, nxB_eq (t := C 12) (len := len) (p := pp + 1) (lo := 48) (hi := 57) (by decide), if_pos b2, if_neg c6, if_neg (Bool.eq_false_iff.mp b9)]; first | rfl | (rw [Int32.mul_comm]; done), rfl, by first | exact pdM_add | (rw [mset_mset]; exact pdM_add)⟩, rfl⟩) dX2_readNumber_77 hlocks
  · skip
    refine lv_if_ne (tgt := 12) hx hb dX2_readNumber_7 (by decide) (fun c16 => absurd (by decide) c16) (fun _ => ?_)
    refine lv_iconst (v := 0) hx hb dX2_readNumber_10 (by decide) ?_
    exact c_zret (v := 0) hx hb hr (by first | rfl | decide) hI (⟨Or.inr ⟨by simp only [rN, if_neg (Bool.eq_false_iff.mp b2)], rfl, rfl⟩, rfl⟩) dX2_readNumber_11 hlocks
