set_option maxHeartbeats 4000000 in
set_option maxRecDepth 100000 in
theorem k_X5_carryOneOut (l : Launch) (dd : va_G) (g : Nat → ClassId) (ad pi : Nat → Nat) (A : Nat → Prop) (hA : cA A ad) (C : MS) (hW0 : Wk (C 0)) (hLd0 : Lad (C 0)) (L : Nat) (hL : L ≤ 40) (hl4 : C 10 4 = nI L) (cv : Int32) (h3 : C 10 3 = cv)  : Met l yX5_carryOneOut wsX5_carryOneOut ({ frames := 4, cells := 0, slots := 0, locals := 98 }) (cPre dd g ad pi A C [.ref (ad 0)]) (cQi dd g ad A (fun r C1 pi1 => r = c1R (C 0) cv (C 13) L ∧ C1 = mrow C 0 (c1F (C 0) cv (C 13) L) ∧ pi1 = pi)) 0 0 A := by
  refine Met.ofW (cc := cX5_carryOneOut) (maxL := 2) (ret := (some .int)) (by decide) rfl ?_
  intro p e s m args below meth c s₁ B hml hv
  obtain ⟨rfl, hP0, hK, hX⟩ := hv
  have hx := B.exec
  have hb := B.bytes
  have hr := B.returns
  have hts := atoms_spec (ws := wsX5_carryOneOut) B.pre
  have hown : s.vm.findClass RX5 = some m.cls := findClass_of_methodNamed B.named
  have hlocks := B.notSynchronized
  have hinX2 : ∀ w ∈ wsX20, w ∈ wsX5_carryOneOut := by decide +kernel
  have hinX5 : ∀ w ∈ wsX50, w ∈ wsX5_carryOneOut := by decide +kernel
  have hI : cI dd g ad pi A s.heap s.heap [] C := ⟨hP0, va_S.rf⟩
  have hl := lv_entry ([.ref (ad 0)]) (n := 2) (Nat.le_of_ble_eq_true rfl)
  rw [lg_entry_eq]
  generalize (lg_sl ([.ref (ad 0)]) ++ List.replicate (2 - (lg_sl ([.ref (ad 0)])).length) Slot.unset).toArray = ls at hl ⊢
  have hl : lv_has ls 2 [(0, .ref (ad 0))] := hl
  refine lv_aload_n hx hb dX5_carryOneOut_0 rfl (lv_at hl 0 rfl) ?_
  refine c_get hx hb hts hown hK hI 0 (by omega) cE_0 rfl hinX5 4 (by decide) (hts (.fieldLink RX5 34 "WinderLadders" "pad" "LWinderLadders$Pad;") (by decide +kernel)) (v := .ref (ad 5)) rfl dX5_carryOneOut_1 ?_
  refine c_get hx hb hts hown hK hI 5 (by omega) cE_5 rfl hinX2 1 (by decide) (hts (.fieldLink RX5 237 "WinderLadders$Pad" "numbers" "LWinderLadders$Row;") (by decide +kernel)) (v := .ref (ad 7)) rfl dX5_carryOneOut_4 ?_
  refine lv_astore_n (lv' := [(1, .ref (ad 7)), (0, .ref (ad 0))]) hx hb dX5_carryOneOut_7 rfl hl (by decide) rfl (fun ls hl => ?_)
  refine lv_aload_n hx hb dX5_carryOneOut_8 rfl (lv_at hl 1 rfl) ?_
  refine c_get hx hb hts hown hK hI 0 (by omega) cE_0 rfl hinX5 4 (by decide) (hts (.fieldLink RX5 34 "WinderLadders" "pad" "LWinderLadders$Pad;") (by decide +kernel)) (v := .ref (ad 5)) rfl dX5_carryOneOut_9 ?_
  refine c_get hx hb hts hown hK hI 5 (by omega) cE_5 rfl hinX2 4 (by decide) (hts (.fieldLink RX5 240 "WinderLadders$Pad" "kind" "I") (by decide +kernel)) (v := .int cv) (congrArg (fun z => some (Value.int z)) h3) dX5_carryOneOut_12 ?_
  by_cases c1_0 : cv = 43
  · rw [c1_0]
    refine lv_lookup (tgt := 72) (off := 57) hx hb dX5_carryOneOut_15 (by decide +kernel) (by decide +kernel) (by decide) ?_
    refine lv_aload_n hx hb dX5_carryOneOut_72 rfl (lv_at hl 1 rfl) ?_
    refine c_get hx hb hts hown hK hI 0 (by omega) cE_0 rfl hinX5 0 (by decide) (hts (.fieldLink RX5 12 "WinderLadders" "now" "LWinderLadders$State;") (by decide +kernel)) (v := .ref (ad (11 + 20 * 0))) rfl dX5_carryOneOut_73 ?_
    refine lv_aload_n hx hb dX5_carryOneOut_76 rfl (lv_at hl 0 rfl) ?_
    refine lv_iconst (v := 0) hx hb dX5_carryOneOut_77 (by decide) ?_
    refine c_calli (As := [.int 0]) (rest := [.ref (ad (11 + 20 * 0))]) hx hb hml hown hts hK hX hI 7 (by omega) cE_7 rfl (k_X3_at_p l dd g ad pi A hA C L hL hl4 0) (cwV 1 hts gX5_carryOneOut_X3_at rfl rfl rfl (by decide +kernel) ⟨Nat.le_of_ble_eq_true rfl, Nat.le_of_ble_eq_true rfl⟩) rfl hl (Nat.le_of_ble_eq_true rfl) ⟨Nat.zero_le _, Nat.zero_le _⟩ dX5_carryOneOut_78 rfl (fun r C1 pi1 H locs h2 hI => ?_)
    obtain ⟨hr9, hc9, hp9⟩ := h2
    rw [hc9, hp9] at hI
    subst hr9
    refine lv_aload_n hx hb dX5_carryOneOut_81 rfl (lv_at hl 0 rfl) ?_
    refine lv_iconst (v := 1) hx hb dX5_carryOneOut_82 (by decide) ?_
    refine c_calli (As := [.int 1]) (rest := [.int (atR (C 13) L 0), .ref (ad (11 + 20 * 0))]) hx hb hml hown hts hK hX hI 7 (by omega) cE_7 rfl (k_X3_at_p l dd g ad pi A hA C L hL hl4 1) (cwV 1 hts gX5_carryOneOut_X3_at rfl rfl rfl (by decide +kernel) ⟨Nat.le_of_ble_eq_true rfl, Nat.le_of_ble_eq_true rfl⟩) rfl hl (Nat.le_of_ble_eq_true rfl) ⟨Nat.zero_le _, Nat.zero_le _⟩ dX5_carryOneOut_83 rfl (fun r C1 pi1 H locs h3 hI => ?_)
    obtain ⟨hr9, hc9, hp9⟩ := h3
    rw [hc9, hp9] at hI
    subst hr9
    refine lv_aload_n hx hb dX5_carryOneOut_86 rfl (lv_at hl 0 rfl) ?_
    refine lv_iconst (v := 2) hx hb dX5_carryOneOut_87 (by decide) ?_
    refine c_calli (As := [.int 2]) (rest := [.int (atR (C 13) L 1), .int (atR (C 13) L 0), .ref (ad (11 + 20 * 0))]) hx hb hml hown hts hK hX hI 7 (by omega) cE_7 rfl (k_X3_at_p l dd g ad pi A hA C L hL hl4 2) (cwV 1 hts gX5_carryOneOut_X3_at rfl rfl rfl (by decide +kernel) ⟨Nat.le_of_ble_eq_true rfl, Nat.le_of_ble_eq_true rfl⟩) rfl hl (Nat.le_of_ble_eq_true rfl) ⟨Nat.zero_le _, Nat.zero_le _⟩ dX5_carryOneOut_88 rfl (fun r C1 pi1 H locs h4 hI => ?_)
    obtain ⟨hr9, hc9, hp9⟩ := h4
    rw [hc9, hp9] at hI
    subst hr9
    refine c_calli (As := [.int (atR (C 13) L 0), .int (atR (C 13) L 1), .int (atR (C 13) L 2)]) (rest := []) hx hb hml hown hts hK hX hI (11 + 20 * 0) (by omega) cE_st rfl (k_X4_addClock l dd g ad pi A hA C 0 (by omega) (atR (C 13) L 0) (atR (C 13) L 1) (atR (C 13) L 2) hW0) (cwV 3 hts gX5_carryOneOut_X4_addClock rfl rfl rfl (by decide +kernel) ⟨Nat.le_of_ble_eq_true rfl, Nat.le_of_ble_eq_true rfl⟩) rfl hl (Nat.le_of_ble_eq_true rfl) ⟨Nat.zero_le _, Nat.zero_le _⟩ dX5_carryOneOut_91 rfl (fun r C1 pi1 H locs h5 hI => ?_)
    obtain ⟨hr9, hc9, hp9⟩ := h5
    rw [hc9, hp9] at hI
    subst hr9
    exact c_iret (v := acR (C 0) (atR (C 13) L 0) (atR (C 13) L 1) (atR (C 13) L 2)) hx hb hr hI (⟨by simp [c1R], by simp [c1F], rfl⟩) dX5_carryOneOut_94 hlocks
  by_cases c1_1 : cv = 97
  · rw [c1_1]
    refine lv_lookup (tgt := 139) (off := 124) hx hb dX5_carryOneOut_15 (by decide +kernel) (by decide +kernel) (by decide) ?_
    refine lv_aload_n hx hb dX5_carryOneOut_139 rfl (lv_at hl 1 rfl) ?_
    refine c_get hx hb hts hown hK hI 0 (by omega) cE_0 rfl hinX5 0 (by decide) (hts (.fieldLink RX5 12 "WinderLadders" "now" "LWinderLadders$State;") (by decide +kernel)) (v := .ref (ad (11 + 20 * 0))) rfl dX5_carryOneOut_140 ?_
    refine lv_iconst (v := 1) hx hb dX5_carryOneOut_143 (by decide) ?_
    refine c_calli (As := [.int 1]) (rest := []) hx hb hml hown hts hK hX hI (11 + 20 * 0) (by omega) cE_st rfl (k_X4_changeClocks l dd g ad pi A hA C 0 (by omega) 1 hW0) (cwV 1 hts gX5_carryOneOut_X4_changeClocks rfl rfl rfl (by decide +kernel) ⟨Nat.le_of_ble_eq_true rfl, Nat.le_of_ble_eq_true rfl⟩) rfl hl (Nat.le_of_ble_eq_true rfl) ⟨Nat.zero_le _, Nat.zero_le _⟩ dX5_carryOneOut_144 rfl (fun r C1 pi1 H locs h6 hI => ?_)
    obtain ⟨hr9, hc9, hp9⟩ := h6
    rw [hc9, hp9] at hI
    subst hr9
    exact c_iret (v := ccR (C 0) 1) hx hb hr hI (⟨by simp [c1R], by simp [c1F], rfl⟩) dX5_carryOneOut_147 hlocks
  by_cases c1_2 : cv = 98
  · rw [c1_2]
    refine lv_lookup (tgt := 108) (off := 93) hx hb dX5_carryOneOut_15 (by decide +kernel) (by decide +kernel) (by decide) ?_
    refine lv_aload_n hx hb dX5_carryOneOut_108 rfl (lv_at hl 1 rfl) ?_
    refine c_get hx hb hts hown hK hI 0 (by omega) cE_0 rfl hinX5 0 (by decide) (hts (.fieldLink RX5 12 "WinderLadders" "now" "LWinderLadders$State;") (by decide +kernel)) (v := .ref (ad (11 + 20 * 0))) rfl dX5_carryOneOut_109 ?_
    refine lv_aload_n hx hb dX5_carryOneOut_112 rfl (lv_at hl 0 rfl) ?_
    refine c_calli (As := [.ref (ad 7)]) (rest := []) hx hb hml hown hts hK hX hI (11 + 20 * 0) (by omega) cE_st rfl (k_X4_walkBeat_p l dd g ad pi A hA C 0 (by omega) L hL hl4 hW0 hLd0) (cwV 1 hts gX5_carryOneOut_X4_walkBeat rfl rfl rfl (by decide +kernel) ⟨Nat.le_of_ble_eq_true rfl, Nat.le_of_ble_eq_true rfl⟩) rfl hl (Nat.le_of_ble_eq_true rfl) ⟨Nat.zero_le _, Nat.zero_le _⟩ dX5_carryOneOut_113 rfl (fun r C1 pi1 H locs h7 hI => ?_)
    obtain ⟨hr9, hc9, hp9⟩ := h7
    rw [hc9, hp9] at hI
    subst hr9
    exact c_iret (v := bwR (C 0) (C 13) L) hx hb hr hI (⟨by simp [c1R], by simp [c1F], rfl⟩) dX5_carryOneOut_116 hlocks
  by_cases c1_3 : cv = 108
  · rw [c1_3]
    refine lv_lookup (tgt := 95) (off := 80) hx hb dX5_carryOneOut_15 (by decide +kernel) (by decide +kernel) (by decide) ?_
    refine lv_aload_n hx hb dX5_carryOneOut_95 rfl (lv_at hl 1 rfl) ?_
    refine c_get hx hb hts hown hK hI 0 (by omega) cE_0 rfl hinX5 0 (by decide) (hts (.fieldLink RX5 12 "WinderLadders" "now" "LWinderLadders$State;") (by decide +kernel)) (v := .ref (ad (11 + 20 * 0))) rfl dX5_carryOneOut_96 ?_
    refine lv_aload_n hx hb dX5_carryOneOut_99 rfl (lv_at hl 0 rfl) ?_
    refine lv_iconst (v := 0) hx hb dX5_carryOneOut_100 (by decide) ?_
    refine c_calli (As := [.int 0]) (rest := [.ref (ad (11 + 20 * 0))]) hx hb hml hown hts hK hX hI 7 (by omega) cE_7 rfl (k_X3_at_p l dd g ad pi A hA C L hL hl4 0) (cwV 1 hts gX5_carryOneOut_X3_at rfl rfl rfl (by decide +kernel) ⟨Nat.le_of_ble_eq_true rfl, Nat.le_of_ble_eq_true rfl⟩) rfl hl (Nat.le_of_ble_eq_true rfl) ⟨Nat.zero_le _, Nat.zero_le _⟩ dX5_carryOneOut_101 rfl (fun r C1 pi1 H locs h8 hI => ?_)
    obtain ⟨hr9, hc9, hp9⟩ := h8
    rw [hc9, hp9] at hI
    subst hr9
    refine c_calli (As := [.int (atR (C 13) L 0)]) (rest := []) hx hb hml hown hts hK hX hI (11 + 20 * 0) (by omega) cE_st rfl (k_X4_addLadder l dd g ad pi A hA C 0 (by omega) (atR (C 13) L 0) hW0) (cwV 1 hts gX5_carryOneOut_X4_addLadder rfl rfl rfl (by decide +kernel) ⟨Nat.le_of_ble_eq_true rfl, Nat.le_of_ble_eq_true rfl⟩) rfl hl (Nat.le_of_ble_eq_true rfl) ⟨Nat.zero_le _, Nat.zero_le _⟩ dX5_carryOneOut_104 rfl (fun r C1 pi1 H locs h9 hI => ?_)
    obtain ⟨hr9, hc9, hp9⟩ := h9
    rw [hc9, hp9] at hI
    subst hr9
    exact c_iret (v := alR (C 0) (atR (C 13) L 0)) hx hb hr hI (⟨by simp [c1R], by simp [c1F], rfl⟩) dX5_carryOneOut_107 hlocks
  by_cases c1_4 : cv = 115
  · rw [c1_4]
    refine lv_lookup (tgt := 130) (off := 115) hx hb dX5_carryOneOut_15 (by decide +kernel) (by decide +kernel) (by decide) ?_
    refine lv_aload_n hx hb dX5_carryOneOut_130 rfl (lv_at hl 1 rfl) ?_
    refine c_get hx hb hts hown hK hI 0 (by omega) cE_0 rfl hinX5 0 (by decide) (hts (.fieldLink RX5 12 "WinderLadders" "now" "LWinderLadders$State;") (by decide +kernel)) (v := .ref (ad (11 + 20 * 0))) rfl dX5_carryOneOut_131 ?_
    refine lv_iconst (v := 0) hx hb dX5_carryOneOut_134 (by decide) ?_
    refine c_calli (As := [.int 0]) (rest := []) hx hb hml hown hts hK hX hI (11 + 20 * 0) (by omega) cE_st rfl (k_X4_changeClocks l dd g ad pi A hA C 0 (by omega) 0 hW0) (cwV 1 hts gX5_carryOneOut_X4_changeClocks rfl rfl rfl (by decide +kernel) ⟨Nat.le_of_ble_eq_true rfl, Nat.le_of_ble_eq_true rfl⟩) rfl hl (Nat.le_of_ble_eq_true rfl) ⟨Nat.zero_le _, Nat.zero_le _⟩ dX5_carryOneOut_135 rfl (fun r C1 pi1 H locs h10 hI => ?_)
    obtain ⟨hr9, hc9, hp9⟩ := h10
    rw [hc9, hp9] at hI
    subst hr9
    exact c_iret (v := ccR (C 0) 0) hx hb hr hI (⟨by simp [c1R], by simp [c1F], rfl⟩) dX5_carryOneOut_138 hlocks
  by_cases c1_5 : cv = 116
  · rw [c1_5]
    refine lv_lookup (tgt := 117) (off := 102) hx hb dX5_carryOneOut_15 (by decide +kernel) (by decide +kernel) (by decide) ?_
    refine lv_aload_n hx hb dX5_carryOneOut_117 rfl (lv_at hl 1 rfl) ?_
    refine c_get hx hb hts hown hK hI 0 (by omega) cE_0 rfl hinX5 0 (by decide) (hts (.fieldLink RX5 12 "WinderLadders" "now" "LWinderLadders$State;") (by decide +kernel)) (v := .ref (ad (11 + 20 * 0))) rfl dX5_carryOneOut_118 ?_
    refine lv_aload_n hx hb dX5_carryOneOut_121 rfl (lv_at hl 0 rfl) ?_
    refine lv_iconst (v := 0) hx hb dX5_carryOneOut_122 (by decide) ?_
    refine c_calli (As := [.int 0]) (rest := [.ref (ad (11 + 20 * 0))]) hx hb hml hown hts hK hX hI 7 (by omega) cE_7 rfl (k_X3_at_p l dd g ad pi A hA C L hL hl4 0) (cwV 1 hts gX5_carryOneOut_X3_at rfl rfl rfl (by decide +kernel) ⟨Nat.le_of_ble_eq_true rfl, Nat.le_of_ble_eq_true rfl⟩) rfl hl (Nat.le_of_ble_eq_true rfl) ⟨Nat.zero_le _, Nat.zero_le _⟩ dX5_carryOneOut_123 rfl (fun r C1 pi1 H locs h11 hI => ?_)
    obtain ⟨hr9, hc9, hp9⟩ := h11
    rw [hc9, hp9] at hI
    subst hr9
    refine c_calli (As := [.int (atR (C 13) L 0)]) (rest := []) hx hb hml hown hts hK hX hI (11 + 20 * 0) (by omega) cE_st rfl (k_X4_passDays l dd g ad pi A hA C 0 (by omega) (atR (C 13) L 0) hW0) (cwV 1 hts gX5_carryOneOut_X4_passDays rfl rfl rfl (by decide +kernel) ⟨Nat.le_of_ble_eq_true rfl, Nat.le_of_ble_eq_true rfl⟩) rfl hl (Nat.le_of_ble_eq_true rfl) ⟨Nat.zero_le _, Nat.zero_le _⟩ dX5_carryOneOut_126 rfl (fun r C1 pi1 H locs h12 hI => ?_)
    obtain ⟨hr9, hc9, hp9⟩ := h12
    rw [hc9, hp9] at hI
    subst hr9
    exact c_iret (v := psR (C 0) (atR (C 13) L 0)) hx hb hr hI (⟨by simp [c1R], by simp [c1F], rfl⟩) dX5_carryOneOut_129 hlocks
  refine lv_lookup (tgt := 148) (off := 133) hx hb dX5_carryOneOut_15 (by decide +kernel) (by show Op.lookupswitch.offset [(43, 57), (97, 124), (98, 93), (108, 80), (115, 115), (116, 102)] _ _ = _; rw [lv_osw (a := 43) c1_0 (by decide), lv_osw (a := 97) c1_1 (by decide), lv_osw (a := 98) c1_2 (by decide), lv_osw (a := 108) c1_3 (by decide), lv_osw (a := 115) c1_4 (by decide), lv_osw (a := 116) c1_5 (by decide)]; rfl) (by decide) ?_
  refine lv_bipush (v := (-3)) hx hb dX5_carryOneOut_148 (by decide) ?_
  exact c_iret (v := (-3)) hx hb hr hI (⟨by simp [c1R, c1_0, c1_1, c1_2, c1_3, c1_4, c1_5], by simp only [c1F, if_neg c1_0, if_neg c1_1, if_neg c1_2, if_neg c1_3, if_neg c1_4, if_neg c1_5]; exact (mrow_self _ _).symm, rfl⟩) dX5_carryOneOut_150 hlocks
