set_option maxHeartbeats 4000000 in
set_option maxRecDepth 100000 in
theorem k_X5_round (l : Launch) (dd : va_G) (g : Nat → ClassId) (ad pi : Nat → Nat) (A : Nat → Prop) (hA : cA A ad) (C : MS) (d : Nat) (hd6 : d ≤ 6) (hd : C 10 0 = nI d) (hpi : piOk pi) (hW0 : Wk (C 0)) (hgo0 : goOk (C 0)) (hLd0 : Lad (C 0)) (x : Int32)  : Met l yX5_round wsX5_round ({ frames := 4, cells := 0, slots := 0, locals := 98 }) (cPre dd g ad pi A C [.ref (ad 0), .int x]) (cQi dd g ad A (fun r C1 pi1 => (x < 0 ∧ r = -2 ∧ C1 = C ∧ pi1 = pi) ∨ (¬ x < 0 ∧ (chL x (cn (C 0))) = 0 ∧ r = -5 ∧ C1 = (rwM C (chL x (cn (C 0))) (chW (C 14) x (cn (C 0)))) ∧ pi1 = pi) ∨ (¬ x < 0 ∧ ¬ (chL x (cn (C 0))) = 0 ∧ r = bwR (C 0) (chW (C 14) x (cn (C 0))) (chL x (cn (C 0))) ∧ opC (rwM C (chL x (cn (C 0))) (chW (C 14) x (cn (C 0)))) pi d (bwF (C 0) (chW (C 14) x (cn (C 0))) (chL x (cn (C 0)))) (bwR (C 0) (chW (C 14) x (cn (C 0))) (chL x (cn (C 0)))) C1 pi1))) 0 0 A := by
  refine Met.ofW (cc := cX5_round) (maxL := 3) (ret := (some .int)) (by decide) rfl ?_
  intro p e s m args below meth c s₁ B hml hv
  obtain ⟨rfl, hP0, hK, hX⟩ := hv
  have hx := B.exec
  have hb := B.bytes
  have hr := B.returns
  have hts := atoms_spec (ws := wsX5_round) B.pre
  have hown : s.vm.findClass RX5 = some m.cls := findClass_of_methodNamed B.named
  have hlocks := B.notSynchronized
  have hinX5 : ∀ w ∈ wsX50, w ∈ wsX5_round := by decide +kernel
  have hI : cI dd g ad pi A s.heap s.heap [] C := ⟨hP0, va_S.rf⟩
  have hl := lv_entry ([.ref (ad 0), .int x]) (n := 3) (Nat.le_of_ble_eq_true rfl)
  rw [lg_entry_eq]
  generalize (lg_sl ([.ref (ad 0), .int x]) ++ List.replicate (3 - (lg_sl ([.ref (ad 0), .int x])).length) Slot.unset).toArray = ls at hl ⊢
  have hl : lv_has ls 3 [(0, .ref (ad 0)), (1, .int x)] := hl
  have hpd := hpi.1 d (by omega)
  have hc16 := hW0.2.1
  have hl4 := hW0.2.2.2
  refine lv_aload_n hx hb dX5_round_0 rfl (lv_at hl 0 rfl) ?_
  refine lv_iload_n hx hb dX5_round_1 rfl (lv_at hl 1 rfl) ?_
  refine c_calli (As := [.int x]) (rest := []) hx hb hml hown hts hK hX hI 0 (by omega) cE_0 rfl (k_X5_chooseRow l dd g ad pi A hA C hW0 x) (cwV 1 hts gX5_round_X5_chooseRow rfl rfl rfl (by decide +kernel) ⟨Nat.le_of_ble_eq_true rfl, Nat.le_of_ble_eq_true rfl⟩) rfl hl (Nat.le_of_ble_eq_true rfl) ⟨Nat.zero_le _, Nat.zero_le _⟩ dX5_round_2 rfl (fun r C1 pi1 H locs h2 hI => ?_)
  obtain ⟨h2, hp9⟩ := h2
  rw [hp9] at hI
  rcases h2 with ⟨x1, hr9, hc9⟩ | ⟨x1, lx1, hr9, hc9⟩ | ⟨x1, lx1, hr9, hc9⟩
  · skip
    rw [hc9] at hI
    subst hr9
    refine lv_istore_n (lv' := [(2, .int ((-2))), (0, .ref (ad 0)), (1, .int x)]) hx hb dX5_round_5 rfl hl (by decide) rfl (fun ls hl => ?_)
    refine lv_iload_n hx hb dX5_round_6 rfl (lv_at hl 0 rfl) ?_
    refine lv_if_ge (tgt := 12) hx hb dX5_round_7 (by decide) (fun c3 => absurd c3 (by decide)) (fun _ => ?_)
    refine lv_iload_n hx hb dX5_round_10 rfl (lv_at hl 0 rfl) ?_
    exact c_iret (v := (-2)) hx hb hr hI (Or.inl ⟨x1, rfl, rfl, rfl⟩) dX5_round_11 hlocks
  · skip
    rw [hc9] at hI
    subst hr9
    refine lv_istore_n (lv' := [(2, .int ((-5))), (0, .ref (ad 0)), (1, .int x)]) hx hb dX5_round_5 rfl hl (by decide) rfl (fun ls hl => ?_)
    refine lv_iload_n hx hb dX5_round_6 rfl (lv_at hl 0 rfl) ?_
    refine lv_if_ge (tgt := 12) hx hb dX5_round_7 (by decide) (fun c4 => absurd c4 (by decide)) (fun _ => ?_)
    refine lv_iload_n hx hb dX5_round_10 rfl (lv_at hl 0 rfl) ?_
    exact c_iret (v := (-5)) hx hb hr hI (Or.inr (Or.inl ⟨x1, lx1, rfl, rfl, rfl⟩)) dX5_round_11 hlocks
  · skip
    rw [hc9] at hI
    subst hr9
    have hlx := chL_le x (cn (C 0))
    refine lv_istore_n (lv' := [(2, .int (nI (chL x (cn (C 0))))), (0, .ref (ad 0)), (1, .int x)]) hx hb dX5_round_5 rfl hl (by decide) rfl (fun ls hl => ?_)
    refine lv_iload_n hx hb dX5_round_6 rfl (lv_at hl 0 rfl) ?_
    refine lv_if_ge (tgt := 12) hx hb dX5_round_7 (by decide) (fun c5 => ?_) (fun c5 => ?_)
    · skip
      have nc5 : 0 ≤ chL x (cn (C 0)) := (nI_leI (a := 0) (b := chL x (cn (C 0))) (by omega) (by omega)).mp c5
      refine lv_aload_n hx hb dX5_round_12 rfl (lv_at hl 1 rfl) ?_
      refine c_get hx hb hts hown hK hI 0 (by omega) cE_0 rfl hinX5 1 (by decide) (hts (.fieldLink RX5 19 "WinderLadders" "history" "LWinderLadders$History;") (by decide +kernel)) (v := .ref (ad 1)) rfl dX5_round_13 ?_
      refine lv_aload_n hx hb dX5_round_16 rfl (lv_at hl 1 rfl) ?_
      refine c_get hx hb hts hown hK hI 0 (by omega) cE_0 rfl hinX5 0 (by decide) (hts (.fieldLink RX5 12 "WinderLadders" "now" "LWinderLadders$State;") (by decide +kernel)) (v := .ref (ad (11 + 20 * 0))) rfl dX5_round_17 ?_
      obtain ⟨N, hN⟩ : ∃ N, N = (rwM C (chL x (cn (C 0))) (chW (C 14) x (cn (C 0)))) := ⟨_, rfl⟩
      rw [← hN] at hI
      have hN0 : N 0 = C 0 := by rw [hN]; exact rwM_ne (by decide) (by decide)
      have hNd : N 10 0 = nI d := by rw [hN, rwM_o (by decide)]; exact hd
      have hN5 : N 10 5 = nI (chL x (cn (C 0))) := by rw [hN]; exact rwM_5
      have hN14 : N 14 = (chW (C 14) x (cn (C 0))) := by rw [hN]; exact rwM_14
      refine c_callv (As := [.ref (ad (11 + 20 * 0))]) (rest := []) hx hb hml hown hts hK hX hI 1 (by omega) cE_1 rfl (k_X1_prepare l dd g ad pi A hA N d hd6 hNd hpi (by rw [hN0]; exact hW0) (by rw [hN0]; exact hgo0)) (cwV 1 hts gX5_round_X1_prepare rfl rfl rfl (by decide +kernel) ⟨Nat.le_of_ble_eq_true rfl, Nat.le_of_ble_eq_true rfl⟩) rfl hl (Nat.le_of_ble_eq_true rfl) ⟨Nat.zero_le _, Nat.zero_le _⟩ dX5_round_20 rfl (fun C1 pi1 H locs h6 hI => ?_)
      obtain ⟨hc9, hp9⟩ := h6
      rw [hc9, hp9] at hI
      refine lv_aload_n hx hb dX5_round_23 rfl (lv_at hl 1 rfl) ?_
      refine lv_aload_n hx hb dX5_round_24 rfl (lv_at hl 1 rfl) ?_
      refine c_get hx hb hts hown hK hI 0 (by omega) cE_0 rfl hinX5 0 (by decide) (hts (.fieldLink RX5 12 "WinderLadders" "now" "LWinderLadders$State;") (by decide +kernel)) (v := .ref (ad (11 + 20 * 0))) rfl dX5_round_25 ?_
      refine lv_aload_n hx hb dX5_round_28 rfl (lv_at hl 1 rfl) ?_
      refine c_get hx hb hts hown hK hI 0 (by omega) cE_0 rfl hinX5 5 (by decide) (hts (.fieldLink RX5 41 "WinderLadders" "row" "LWinderLadders$Row;") (by decide +kernel)) (v := .ref (ad 9)) rfl dX5_round_29 ?_
      refine c_calli (As := [.ref (ad 9)]) (rest := [.ref (ad 0)]) hx hb hml hown hts hK hX hI (11 + 20 * 0) (by omega) cE_st rfl (k_X4_walkBeat_r l dd g ad pi A hA (prM N pi d) 0 (by omega) (chL x (cn (C 0))) (by omega) (by rw [prM_ne (by omega)]; exact hN5) (by rw [prM_ne (by omega), hN0]; exact hW0) (by rw [prM_ne (by omega), hN0]; exact hLd0)) (cwV 1 hts gX5_round_X4_walkBeat rfl rfl rfl (by decide +kernel) ⟨Nat.le_of_ble_eq_true rfl, Nat.le_of_ble_eq_true rfl⟩) rfl hl (Nat.le_of_ble_eq_true rfl) ⟨Nat.zero_le _, Nat.zero_le _⟩ dX5_round_32 rfl (fun r C1 pi1 H locs h7 hI => ?_)
      obtain ⟨hr9, hc9, hp9⟩ := h7
      rw [prM_ne (C := N) (pi := pi) (d := d) (a := 0) (by omega), prM_ne (C := N) (pi := pi) (d := d) (a := 14) (by omega), hN0, hN14] at hr9 hc9
      rw [hc9, hp9] at hI
      subst hr9
      refine c_calli (As := [.int (bwR (C 0) (chW (C 14) x (cn (C 0))) (chL x (cn (C 0))))]) (rest := []) hx hb hml hown hts hK hX hI 0 (by omega) cE_0 rfl (k_X5_keptIfDone l dd g ad pi A hA (mrow (prM N pi d) 0 (bwF (C 0) (chW (C 14) x (cn (C 0))) (chL x (cn (C 0))))) d hd6 (by rw [mrow_n _ (by decide), prM_ne (by omega)]; exact hNd) hpi (bwR (C 0) (chW (C 14) x (cn (C 0))) (chL x (cn (C 0))))) (cwV 1 hts gX5_round_X5_keptIfDone rfl rfl rfl (by decide +kernel) ⟨Nat.le_of_ble_eq_true rfl, Nat.le_of_ble_eq_true rfl⟩) rfl hl (Nat.le_of_ble_eq_true rfl) ⟨Nat.zero_le _, Nat.zero_le _⟩ dX5_round_35 rfl (fun r C1 pi1 H locs h9 hI => ?_)
      obtain ⟨hr9, h9⟩ := h9
      subst hr9
      rcases h9 with ⟨k8, nk8, hc9, hp9⟩ | ⟨k8, nk8, hc9, hp9⟩ | ⟨k8, hc9, hp9⟩
      · skip
        rw [hc9, hp9] at hI
        exact c_iret (v := bwR (C 0) (chW (C 14) x (cn (C 0))) (chL x (cn (C 0)))) hx hb hr hI (Or.inr (Or.inr ⟨x1, lx1, rfl, by rw [← hN]; exact Or.inl ⟨k8, nk8, rfl, rfl⟩⟩)) dX5_round_38 hlocks
      · skip
        rw [hc9, hp9] at hI
        exact c_iret (v := bwR (C 0) (chW (C 14) x (cn (C 0))) (chL x (cn (C 0)))) hx hb hr hI (Or.inr (Or.inr ⟨x1, lx1, rfl, by rw [← hN]; exact Or.inr (Or.inl ⟨k8, nk8, rfl, rfl⟩)⟩)) dX5_round_38 hlocks
      · skip
        rw [hc9, hp9] at hI
        exact c_iret (v := bwR (C 0) (chW (C 14) x (cn (C 0))) (chL x (cn (C 0)))) hx hb hr hI (Or.inr (Or.inr ⟨x1, lx1, rfl, by rw [← hN]; exact Or.inr (Or.inr ⟨k8, rfl, rfl⟩)⟩)) dX5_round_38 hlocks
    · skip
      have nc5 : ¬ (0 ≤ chL x (cn (C 0))) := fun h => c5 ((nI_leI (a := 0) (b := chL x (cn (C 0))) (by omega) (by omega)).mpr h)
      exact absurd (Nat.zero_le _) nc5

set_option maxHeartbeats 4000000 in
set_option maxRecDepth 100000 in
theorem k_X5_wipe (l : Launch) (dd : va_G) (g : Nat → ClassId) (ad pi : Nat → Nat) (A : Nat → Prop) (hA : cA A ad) (C : MS)  : Met l yX5_wipe wsX5_wipe ({ frames := 0, cells := 0, slots := 0, locals := 0 }) (cPre dd g ad pi A C [.ref (ad 0)]) (cQi dd g ad A (fun r C1 pi1 => r = C 10 1 ∧ C1 = mset C 10 1 0 ∧ pi1 = pi)) 0 0 A := by
  refine Met.ofW (cc := cX5_wipe) (maxL := 2) (ret := (some .int)) (by decide) rfl ?_
  intro p e s m args below meth c s₁ B hml hv
  obtain ⟨rfl, hP0, hK, hX⟩ := hv
  have hx := B.exec
  have hb := B.bytes
  have hr := B.returns
  have hts := atoms_spec (ws := wsX5_wipe) B.pre
  have hown : s.vm.findClass RX5 = some m.cls := findClass_of_methodNamed B.named
  have hlocks := B.notSynchronized
  have hinX2 : ∀ w ∈ wsX20, w ∈ wsX5_wipe := by decide +kernel
  have hinX5 : ∀ w ∈ wsX50, w ∈ wsX5_wipe := by decide +kernel
  have hI : cI dd g ad pi A s.heap s.heap [] C := ⟨hP0, va_S.rf⟩
  have hl := lv_entry ([.ref (ad 0)]) (n := 2) (Nat.le_of_ble_eq_true rfl)
  rw [lg_entry_eq]
  generalize (lg_sl ([.ref (ad 0)]) ++ List.replicate (2 - (lg_sl ([.ref (ad 0)])).length) Slot.unset).toArray = ls at hl ⊢
  have hl : lv_has ls 2 [(0, .ref (ad 0))] := hl
  refine lv_aload_n hx hb dX5_wipe_0 rfl (lv_at hl 0 rfl) ?_
  refine c_get hx hb hts hown hK hI 0 (by omega) cE_0 rfl hinX5 4 (by decide) (hts (.fieldLink RX5 34 "WinderLadders" "pad" "LWinderLadders$Pad;") (by decide +kernel)) (v := .ref (ad 5)) rfl dX5_wipe_1 ?_
  refine c_get hx hb hts hown hK hI 5 (by omega) cE_5 rfl hinX2 2 (by decide) (hts (.fieldLink RX5 166 "WinderLadders$Pad" "length" "I") (by decide +kernel)) (v := .int (C 10 1)) rfl dX5_wipe_4 ?_
  refine lv_istore_n (lv' := [(1, .int (C 10 1)), (0, .ref (ad 0))]) hx hb dX5_wipe_7 rfl hl (by decide) rfl (fun ls hl => ?_)
  refine lv_aload_n hx hb dX5_wipe_8 rfl (lv_at hl 1 rfl) ?_
  refine c_get hx hb hts hown hK hI 0 (by omega) cE_0 rfl hinX5 4 (by decide) (hts (.fieldLink RX5 34 "WinderLadders" "pad" "LWinderLadders$Pad;") (by decide +kernel)) (v := .ref (ad 5)) rfl dX5_wipe_9 ?_
  refine lv_iconst (v := 0) hx hb dX5_wipe_12 (by decide) ?_
  refine c_putP hx hb hts hinX2 hown hK hA hI 1 2 (by decide) (hts (.fieldLink RX5 166 "WinderLadders$Pad" "length" "I") (by decide +kernel)) dX5_wipe_13 (fun H locs hI => ?_)
  refine lv_iload_n hx hb dX5_wipe_16 rfl (lv_at hl 0 rfl) ?_
  exact c_iret (v := C 10 1) hx hb hr hI (⟨rfl, rfl, rfl⟩) dX5_wipe_17 hlocks

set_option maxHeartbeats 4000000 in
set_option maxRecDepth 100000 in
theorem k_X5_fault (l : Launch) (dd : va_G) (g : Nat → ClassId) (ad pi : Nat → Nat) (A : Nat → Prop) (hA : cA A ad) (C : MS) (len : Nat) (hl80 : len ≤ 80) (hl1 : C 10 1 = nI len) (hch : chOk (C 12) len)  : Met l yX5_fault wsX5_fault ({ frames := 5, cells := 0, slots := 0, locals := 105 }) (cPre dd g ad pi A C [.ref (ad 0)]) (cQi dd g ad A (fun r C1 pi1 => r = o2i (gF (C 12) len 81 0) ∧ Pf C C1 ∧ pi1 = pi)) 0 0 A := by
  refine Met.ofW (cc := cX5_fault) (maxL := 1) (ret := (some .int)) (by decide) rfl ?_
  intro p e s m args below meth c s₁ B hml hv
  obtain ⟨rfl, hP0, hK, hX⟩ := hv
  have hx := B.exec
  have hb := B.bytes
  have hr := B.returns
  have hts := atoms_spec (ws := wsX5_fault) B.pre
  have hown : s.vm.findClass RX5 = some m.cls := findClass_of_methodNamed B.named
  have hlocks := B.notSynchronized
  have hinX5 : ∀ w ∈ wsX50, w ∈ wsX5_fault := by decide +kernel
  have hI : cI dd g ad pi A s.heap s.heap [] C := ⟨hP0, va_S.rf⟩
  have hl := lv_entry ([.ref (ad 0)]) (n := 1) (Nat.le_of_ble_eq_true rfl)
  rw [lg_entry_eq]
  generalize (lg_sl ([.ref (ad 0)]) ++ List.replicate (1 - (lg_sl ([.ref (ad 0)])).length) Slot.unset).toArray = ls at hl ⊢
  have hl : lv_has ls 1 [(0, .ref (ad 0))] := hl
  refine lv_aload_n hx hb dX5_fault_0 rfl (lv_at hl 0 rfl) ?_
  refine c_get hx hb hts hown hK hI 0 (by omega) cE_0 rfl hinX5 4 (by decide) (hts (.fieldLink RX5 34 "WinderLadders" "pad" "LWinderLadders$Pad;") (by decide +kernel)) (v := .ref (ad 5)) rfl dX5_fault_1 ?_
  refine c_calli (As := []) (rest := []) hx hb hml hown hts hK hX hI 5 (by omega) cE_5 rfl (k_X2_findFault l dd g ad pi A hA C len hl80 hl1 hch) (cwV 0 hts gX5_fault_X2_findFault rfl rfl rfl (by decide +kernel) ⟨Nat.le_of_ble_eq_true rfl, Nat.le_of_ble_eq_true rfl⟩) rfl hl (Nat.le_of_ble_eq_true rfl) ⟨Nat.zero_le _, Nat.zero_le _⟩ dX5_fault_4 rfl (fun r N1 pi1 H locs h1 hI => ?_)
  obtain ⟨hr9, hPf1, hp9⟩ := h1
  rw [hp9] at hI
  subst hr9
  exact c_iret (v := o2i (gF (C 12) len 81 0)) hx hb hr hI (⟨rfl, hPf1, rfl⟩) dX5_fault_7 hlocks

set_option maxHeartbeats 4000000 in
set_option maxRecDepth 100000 in
theorem k_X5_undo (l : Launch) (dd : va_G) (g : Nat → ClassId) (ad pi : Nat → Nat) (A : Nat → Prop) (hA : cA A ad) (C : MS) (d : Nat) (hd6 : d ≤ 6) (hd : C 10 0 = nI d) (hpi : piOk pi) (hWh : ∀ j, j < d → Wk (C (pi j)) ∧ goOk (C (pi j)))  : Met l yX5_undo wsX5_undo ({ frames := 3, cells := 0, slots := 0, locals := 83 }) (cPre dd g ad pi A C [.ref (ad 0)]) (cQi dd g ad A (fun r C1 pi1 => ((d = 0 ∧ r = -5 ∧ C1 = C) ∨ (0 < d ∧ r = nI (d - 1) ∧ C1 = mrow (mset C 10 0 (nI (d - 1))) 0 (cpS (C 0) (C (pi (d - 1)))))) ∧ pi1 = pi)) 0 0 A := by
  refine Met.ofW (cc := cX5_undo) (maxL := 1) (ret := (some .int)) (by decide) rfl ?_
  intro p e s m args below meth c s₁ B hml hv
  obtain ⟨rfl, hP0, hK, hX⟩ := hv
  have hx := B.exec
  have hb := B.bytes
  have hr := B.returns
  have hts := atoms_spec (ws := wsX5_undo) B.pre
  have hown : s.vm.findClass RX5 = some m.cls := findClass_of_methodNamed B.named
  have hlocks := B.notSynchronized
  have hinX1 : ∀ w ∈ wsX10, w ∈ wsX5_undo := by decide +kernel
  have hinX5 : ∀ w ∈ wsX50, w ∈ wsX5_undo := by decide +kernel
  have hI : cI dd g ad pi A s.heap s.heap [] C := ⟨hP0, va_S.rf⟩
  have hl := lv_entry ([.ref (ad 0)]) (n := 1) (Nat.le_of_ble_eq_true rfl)
  rw [lg_entry_eq]
  generalize (lg_sl ([.ref (ad 0)]) ++ List.replicate (1 - (lg_sl ([.ref (ad 0)])).length) Slot.unset).toArray = ls at hl ⊢
  have hl : lv_has ls 1 [(0, .ref (ad 0))] := hl
  refine lv_aload_n hx hb dX5_undo_0 rfl (lv_at hl 0 rfl) ?_
  refine c_get hx hb hts hown hK hI 0 (by omega) cE_0 rfl hinX5 1 (by decide) (hts (.fieldLink RX5 19 "WinderLadders" "history" "LWinderLadders$History;") (by decide +kernel)) (v := .ref (ad 1)) rfl dX5_undo_1 ?_
  refine lv_aload_n hx hb dX5_undo_4 rfl (lv_at hl 0 rfl) ?_
  refine c_get hx hb hts hown hK hI 0 (by omega) cE_0 rfl hinX5 0 (by decide) (hts (.fieldLink RX5 12 "WinderLadders" "now" "LWinderLadders$State;") (by decide +kernel)) (v := .ref (ad (11 + 20 * 0))) rfl dX5_undo_5 ?_
  refine c_calli (As := [.ref (ad (11 + 20 * 0))]) (rest := []) hx hb hml hown hts hK hX hI 1 (by omega) cE_1 rfl (k_X1_takeBack l dd g ad pi A hA C d hd6 hd hpi hWh) (cwV 1 hts gX5_undo_X1_takeBack rfl rfl rfl (by decide +kernel) ⟨Nat.le_of_ble_eq_true rfl, Nat.le_of_ble_eq_true rfl⟩) rfl hl (Nat.le_of_ble_eq_true rfl) ⟨Nat.zero_le _, Nat.zero_le _⟩ dX5_undo_8 rfl (fun r C1 pi1 H locs h2 hI => ?_)
  obtain ⟨h2, hp9⟩ := h2
  rw [hp9] at hI
  rcases h2 with ⟨k1, hr9, hc9⟩ | ⟨k1, hr9, hc9⟩
  · skip
    rw [hc9] at hI
    subst hr9
    refine lv_if_eq (tgt := 24) hx hb dX5_undo_11 (by decide) (fun _ => ?_) (fun c3 => absurd (by decide) c3)
    refine lv_bipush (v := (-5)) hx hb dX5_undo_24 (by decide) ?_
    exact c_iret (v := (-5)) hx hb hr hI (⟨Or.inl ⟨k1, rfl, rfl⟩, rfl⟩) dX5_undo_26 hlocks
  · skip
    rw [hc9] at hI
    subst hr9
    refine lv_if_eq (tgt := 24) hx hb dX5_undo_11 (by decide) (fun c4 => absurd c4 (by decide)) (fun _ => ?_)
    refine lv_aload_n hx hb dX5_undo_14 rfl (lv_at hl 0 rfl) ?_
    refine c_get hx hb hts hown hK hI 0 (by omega) cE_0 rfl hinX5 1 (by decide) (hts (.fieldLink RX5 19 "WinderLadders" "history" "LWinderLadders$History;") (by decide +kernel)) (v := .ref (ad 1)) rfl dX5_undo_15 ?_
    refine c_get hx hb hts hown hK hI 1 (by omega) cE_1 rfl hinX1 1 (by decide) (hts (.fieldLink RX5 169 "WinderLadders$History" "depth" "I") (by decide +kernel)) (v := .int (nI (d - 1))) (congrArg (fun z => some (Value.int z)) (((congrFun (mrow_n _ (by decide) _) _).trans (mset_eq _ _ _ _)))) dX5_undo_18 ?_
    refine lv_goto (tgt := 26) hx hb dX5_undo_21 (by decide) ?_
    exact c_iret (v := nI (d - 1)) hx hb hr hI (⟨Or.inr ⟨k1, rfl, rfl⟩, rfl⟩) dX5_undo_26 hlocks

set_option maxHeartbeats 4000000 in
set_option maxRecDepth 100000 in
theorem k_X5_save (l : Launch) (dd : va_G) (g : Nat → ClassId) (ad pi : Nat → Nat) (A : Nat → Prop) (hA : cA A ad) (C : MS) (hW0 : Wk (C 0)) (hgo0 : goOk (C 0)) (x : Int32)  : Met l yX5_save wsX5_save ({ frames := 2, cells := 0, slots := 0, locals := 62 }) (cPre dd g ad pi A C [.ref (ad 0), .int x]) (cQi dd g ad A (fun r C1 pi1 => ((inB x 0 1 = false ∧ r = -2 ∧ C1 = C) ∨ (inB x 0 1 = true ∧ r = nI (cn (C 0)) ∧ C1 = mset (mrow C (8 + ix x) (cpS (C (8 + ix x)) (C 0))) 11 (ix x) 1)) ∧ pi1 = pi)) 0 0 A := by
  refine Met.ofW (cc := cX5_save) (maxL := 2) (ret := (some .int)) (by decide) rfl ?_
  intro p e s m args below meth c s₁ B hml hv
  obtain ⟨rfl, hP0, hK, hX⟩ := hv
  have hx := B.exec
  have hb := B.bytes
  have hr := B.returns
  have hts := atoms_spec (ws := wsX5_save) B.pre
  have hown : s.vm.findClass RX5 = some m.cls := findClass_of_methodNamed B.named
  have hlocks := B.notSynchronized
  have hinX4 : ∀ w ∈ wsX40, w ∈ wsX5_save := by decide +kernel
  have hinX5 : ∀ w ∈ wsX50, w ∈ wsX5_save := by decide +kernel
  have hI : cI dd g ad pi A s.heap s.heap [] C := ⟨hP0, va_S.rf⟩
  have hl := lv_entry ([.ref (ad 0), .int x]) (n := 2) (Nat.le_of_ble_eq_true rfl)
  rw [lg_entry_eq]
  generalize (lg_sl ([.ref (ad 0), .int x]) ++ List.replicate (2 - (lg_sl ([.ref (ad 0), .int x])).length) Slot.unset).toArray = ls at hl ⊢
  have hl : lv_has ls 2 [(0, .ref (ad 0)), (1, .int x)] := hl
  have hc16 := hW0.2.1
  have hl4 := hW0.2.2.2
  refine lv_iload_n hx hb dX5_save_0 rfl (lv_at hl 1 rfl) ?_
  refine lv_if_lt (tgt := 9) hx hb dX5_save_1 (by decide) (fun c1 => ?_) (fun c1 => ?_)
  · skip
    refine lv_bipush (v := (-2)) hx hb dX5_save_9 (by decide) ?_
    exact c_iret (v := (-2)) hx hb hr hI (⟨Or.inl ⟨inB01_f1 c1, rfl, rfl⟩, rfl⟩) dX5_save_11 hlocks
  · skip
    refine lv_iload_n hx hb dX5_save_4 rfl (lv_at hl 1 rfl) ?_
    refine lv_iconst (v := 2) hx hb dX5_save_5 (by decide) ?_
    refine lv_icmp_lt (tgt := 12) hx hb dX5_save_6 (by decide) (fun c2 => ?_) (fun c2 => ?_)
    · skip
      have hB9 := inB01_t c1 (Int32.not_le.mpr c2)
      obtain ⟨j0, hj0, e0⟩ := inB_nI (n := 1) (by decide) hB9
      have x0 : ix x = j0 := by rw [e0]; exact ix_nI (by omega)
      subst e0
      refine lv_aload_n hx hb dX5_save_12 rfl (lv_at hl 0 rfl) ?_
      refine c_get hx hb hts hown hK hI 0 (by omega) cE_0 rfl hinX5 2 (by decide) (hts (.fieldLink RX5 23 "WinderLadders" "slots" "[LWinderLadders$State;") (by decide +kernel)) (v := .ref (ad 3)) rfl dX5_save_13 ?_
      refine lv_iload_n hx hb dX5_save_16 rfl (lv_at hl 1 rfl) ?_
      refine c_aldL hx hb hK hI (j0) (by omega) rfl dX5_save_17 ?_
      refine lv_aload_n hx hb dX5_save_18 rfl (lv_at hl 0 rfl) ?_
      refine c_get hx hb hts hown hK hI 0 (by omega) cE_0 rfl hinX5 0 (by decide) (hts (.fieldLink RX5 12 "WinderLadders" "now" "LWinderLadders$State;") (by decide +kernel)) (v := .ref (ad (11 + 20 * 0))) rfl dX5_save_19 ?_
      refine c_callv (As := [.ref (ad (11 + 20 * 0))]) (rest := []) hx hb hml hown hts hK hX hI (11 + 20 * (8 + j0)) (by omega) cE_st rfl (k_X4_copyFrom l dd g ad pi A hA C (8 + j0) 0 (by omega) (by omega) (by omega) hW0 hgo0) (cwV 1 hts gX5_save_X4_copyFrom rfl rfl rfl (by decide +kernel) ⟨Nat.le_of_ble_eq_true rfl, Nat.le_of_ble_eq_true rfl⟩) rfl hl (Nat.le_of_ble_eq_true rfl) ⟨Nat.zero_le _, Nat.zero_le _⟩ dX5_save_22 rfl (fun C1 pi1 H locs h3 hI => ?_)
      obtain ⟨hc9, hp9⟩ := h3
      rw [hc9, hp9] at hI
      refine lv_aload_n hx hb dX5_save_25 rfl (lv_at hl 0 rfl) ?_
      refine c_get hx hb hts hown hK hI 0 (by omega) cE_0 rfl hinX5 3 (by decide) (hts (.fieldLink RX5 27 "WinderLadders" "slotHolds" "[Z") (by decide +kernel)) (v := .ref (ad 4)) rfl dX5_save_26 ?_
      refine lv_iload_n hx hb dX5_save_29 rfl (lv_at hl 1 rfl) ?_
      refine lv_iconst (v := 1) hx hb dX5_save_30 (by decide) ?_
      refine c_zst hx hb hK hA hI (j0) (by omega) rfl (by first | exact Or.inl rfl | exact Or.inr rfl) dX5_save_31 (fun H locs hI => ?_)
      refine lv_aload_n hx hb dX5_save_32 rfl (lv_at hl 0 rfl) ?_
      refine c_get hx hb hts hown hK hI 0 (by omega) cE_0 rfl hinX5 0 (by decide) (hts (.fieldLink RX5 12 "WinderLadders" "now" "LWinderLadders$State;") (by decide +kernel)) (v := .ref (ad (11 + 20 * 0))) rfl dX5_save_33 ?_
      refine c_get hx hb hts hown hK hI (11 + 20 * 0) (by omega) cE_st rfl hinX4 3 (by decide) (hts (.fieldLink RX5 144 "WinderLadders$State" "clockCount" "I") (by decide +kernel)) (v := .int (nI (cn (C 0)))) (congrArg (fun z => some (Value.int z)) ((mset_nk _ (by omega) _ _ _).trans (((congrFun (mrow_n _ (by omega) _) _).trans hW0.1)))) dX5_save_36 ?_
      exact c_iret (v := nI (cn (C 0))) hx hb hr hI (⟨Or.inr ⟨hB9, rfl, by rw [x0]⟩, rfl⟩) dX5_save_39 hlocks
    · skip
      refine lv_bipush (v := (-2)) hx hb dX5_save_9 (by decide) ?_
      exact c_iret (v := (-2)) hx hb hr hI (⟨Or.inl ⟨inB01_f2 (Int32.not_lt.mp c2), rfl, rfl⟩, rfl⟩) dX5_save_11 hlocks

set_option maxHeartbeats 4000000 in
set_option maxRecDepth 100000 in
theorem k_X5_restore (l : Launch) (dd : va_G) (g : Nat → ClassId) (ad pi : Nat → Nat) (A : Nat → Prop) (hA : cA A ad) (C : MS) (d : Nat) (hd6 : d ≤ 6) (hd : C 10 0 = nI d) (hpi : piOk pi) (hW0 : Wk (C 0)) (hgo0 : goOk (C 0)) (hsl : ∀ j, j < 2 → C 11 j ≠ 0 → Wk (C (8 + j)) ∧ goOk (C (8 + j))) (x : Int32)  : Met l yX5_restore wsX5_restore ({ frames := 3, cells := 0, slots := 0, locals := 83 }) (cPre dd g ad pi A C [.ref (ad 0), .int x]) (cQi dd g ad A (fun r C1 pi1 => (inB x 0 1 = false ∧ r = -2 ∧ C1 = C ∧ pi1 = pi) ∨ (inB x 0 1 = true ∧ C 11 (ix x) = 0 ∧ r = -5 ∧ C1 = C ∧ pi1 = pi) ∨ (inB x 0 1 = true ∧ ¬ C 11 (ix x) = 0 ∧ r = nI (cn (C (8 + ix x))) ∧ opC C pi d (cpS (C 0) (C (8 + ix x))) (nI (cn (C (8 + ix x)))) C1 pi1))) 0 0 A := by
  refine Met.ofW (cc := cX5_restore) (maxL := 2) (ret := (some .int)) (by decide) rfl ?_
  intro p e s m args below meth c s₁ B hml hv
  obtain ⟨rfl, hP0, hK, hX⟩ := hv
  have hx := B.exec
  have hb := B.bytes
  have hr := B.returns
  have hts := atoms_spec (ws := wsX5_restore) B.pre
  have hown : s.vm.findClass RX5 = some m.cls := findClass_of_methodNamed B.named
  have hlocks := B.notSynchronized
  have hinX4 : ∀ w ∈ wsX40, w ∈ wsX5_restore := by decide +kernel
  have hinX5 : ∀ w ∈ wsX50, w ∈ wsX5_restore := by decide +kernel
  have hI : cI dd g ad pi A s.heap s.heap [] C := ⟨hP0, va_S.rf⟩
  have hl := lv_entry ([.ref (ad 0), .int x]) (n := 2) (Nat.le_of_ble_eq_true rfl)
  rw [lg_entry_eq]
  generalize (lg_sl ([.ref (ad 0), .int x]) ++ List.replicate (2 - (lg_sl ([.ref (ad 0), .int x])).length) Slot.unset).toArray = ls at hl ⊢
  have hl : lv_has ls 2 [(0, .ref (ad 0)), (1, .int x)] := hl
  have hpd := hpi.1 d (by omega)
  have hc16 := hW0.2.1
  have hl4 := hW0.2.2.2
  refine lv_iload_n hx hb dX5_restore_0 rfl (lv_at hl 1 rfl) ?_
  refine lv_if_lt (tgt := 9) hx hb dX5_restore_1 (by decide) (fun c1 => ?_) (fun c1 => ?_)
  · skip
    refine lv_bipush (v := (-2)) hx hb dX5_restore_9 (by decide) ?_
    exact c_iret (v := (-2)) hx hb hr hI (Or.inl ⟨inB01_f1 c1, rfl, rfl, rfl⟩) dX5_restore_11 hlocks
  · skip
    refine lv_iload_n hx hb dX5_restore_4 rfl (lv_at hl 1 rfl) ?_
    refine lv_iconst (v := 2) hx hb dX5_restore_5 (by decide) ?_
    refine lv_icmp_lt (tgt := 12) hx hb dX5_restore_6 (by decide) (fun c2 => ?_) (fun c2 => ?_)
    · skip
      have hB9 := inB01_t c1 (Int32.not_le.mpr c2)
      obtain ⟨j0, hj0, e0⟩ := inB_nI (n := 1) (by decide) hB9
      have x0 : ix x = j0 := by rw [e0]; exact ix_nI (by omega)
      subst e0
      refine lv_aload_n hx hb dX5_restore_12 rfl (lv_at hl 0 rfl) ?_
      refine c_get hx hb hts hown hK hI 0 (by omega) cE_0 rfl hinX5 3 (by decide) (hts (.fieldLink RX5 27 "WinderLadders" "slotHolds" "[Z") (by decide +kernel)) (v := .ref (ad 4)) rfl dX5_restore_13 ?_
      refine lv_iload_n hx hb dX5_restore_16 rfl (lv_at hl 1 rfl) ?_
      refine c_zld hx hb hK hI (j0) (by omega) rfl (v := C 11 j0) rfl dX5_restore_17 ?_
      refine lv_if_ne (tgt := 24) hx hb dX5_restore_18 (by decide) (fun c3 => ?_) (fun c3 => ?_)
      · skip
        have hs9 := hsl j0 (by omega) c3
        refine lv_aload_n hx hb dX5_restore_24 rfl (lv_at hl 0 rfl) ?_
        refine c_get hx hb hts hown hK hI 0 (by omega) cE_0 rfl hinX5 1 (by decide) (hts (.fieldLink RX5 19 "WinderLadders" "history" "LWinderLadders$History;") (by decide +kernel)) (v := .ref (ad 1)) rfl dX5_restore_25 ?_
        refine lv_aload_n hx hb dX5_restore_28 rfl (lv_at hl 0 rfl) ?_
        refine c_get hx hb hts hown hK hI 0 (by omega) cE_0 rfl hinX5 0 (by decide) (hts (.fieldLink RX5 12 "WinderLadders" "now" "LWinderLadders$State;") (by decide +kernel)) (v := .ref (ad (11 + 20 * 0))) rfl dX5_restore_29 ?_
        refine c_callv (As := [.ref (ad (11 + 20 * 0))]) (rest := []) hx hb hml hown hts hK hX hI 1 (by omega) cE_1 rfl (k_X1_prepare l dd g ad pi A hA C d hd6 hd hpi hW0 hgo0) (cwV 1 hts gX5_restore_X1_prepare rfl rfl rfl (by decide +kernel) ⟨Nat.le_of_ble_eq_true rfl, Nat.le_of_ble_eq_true rfl⟩) rfl hl (Nat.le_of_ble_eq_true rfl) ⟨Nat.zero_le _, Nat.zero_le _⟩ dX5_restore_32 rfl (fun C1 pi1 H locs h4 hI => ?_)
        obtain ⟨hc9, hp9⟩ := h4
        rw [hc9, hp9] at hI
        refine lv_aload_n hx hb dX5_restore_35 rfl (lv_at hl 0 rfl) ?_
        refine c_get hx hb hts hown hK hI 0 (by omega) cE_0 rfl hinX5 0 (by decide) (hts (.fieldLink RX5 12 "WinderLadders" "now" "LWinderLadders$State;") (by decide +kernel)) (v := .ref (ad (11 + 20 * 0))) rfl dX5_restore_36 ?_
        refine lv_aload_n hx hb dX5_restore_39 rfl (lv_at hl 0 rfl) ?_
        refine c_get hx hb hts hown hK hI 0 (by omega) cE_0 rfl hinX5 2 (by decide) (hts (.fieldLink RX5 23 "WinderLadders" "slots" "[LWinderLadders$State;") (by decide +kernel)) (v := .ref (ad 3)) rfl dX5_restore_40 ?_
        refine lv_iload_n hx hb dX5_restore_43 rfl (lv_at hl 1 rfl) ?_
        refine c_aldL hx hb hK hI (j0) (by omega) rfl dX5_restore_44 ?_
        refine c_callv (As := [.ref (ad (11 + 20 * (8 + j0)))]) (rest := []) hx hb hml hown hts hK hX hI (11 + 20 * 0) (by omega) cE_st rfl (k_X4_copyFrom l dd g ad pi A hA (prM C pi d) 0 (8 + j0) (by omega) (by omega) (by omega) (by rw [prM_ne (by omega)]; exact hs9.1) (by rw [prM_ne (by omega)]; exact hs9.2)) (cwV 1 hts gX5_restore_X4_copyFrom rfl rfl rfl (by decide +kernel) ⟨Nat.le_of_ble_eq_true rfl, Nat.le_of_ble_eq_true rfl⟩) rfl hl (Nat.le_of_ble_eq_true rfl) ⟨Nat.zero_le _, Nat.zero_le _⟩ dX5_restore_45 rfl (fun C1 pi1 H locs h5 hI => ?_)
        obtain ⟨hc9, hp9⟩ := h5
        rw [prM_ne (C := C) (pi := pi) (d := d) (a := 0) (by omega), prM_ne (C := C) (pi := pi) (d := d) (a := 8 + j0) (by omega)] at hc9
        rw [hc9, hp9] at hI
        refine lv_aload_n hx hb dX5_restore_48 rfl (lv_at hl 0 rfl) ?_
        refine lv_aload_n hx hb dX5_restore_49 rfl (lv_at hl 0 rfl) ?_
        refine c_get hx hb hts hown hK hI 0 (by omega) cE_0 rfl hinX5 0 (by decide) (hts (.fieldLink RX5 12 "WinderLadders" "now" "LWinderLadders$State;") (by decide +kernel)) (v := .ref (ad (11 + 20 * 0))) rfl dX5_restore_50 ?_
        refine c_get hx hb hts hown hK hI (11 + 20 * 0) (by omega) cE_st rfl hinX4 3 (by decide) (hts (.fieldLink RX5 144 "WinderLadders$State" "clockCount" "I") (by decide +kernel)) (v := .int (nI (cn (C (8 + j0))))) (congrArg (fun z => some (Value.int z)) (((congrFun (mrow_s _ _ _) _).trans (cpS_5 _ _)))) dX5_restore_53 ?_
        refine c_calli (As := [.int (nI (cn (C (8 + j0))))]) (rest := []) hx hb hml hown hts hK hX hI 0 (by omega) cE_0 rfl (k_X5_keptIfDone l dd g ad pi A hA (mrow (prM C pi d) 0 (cpS (C 0) (C (8 + j0)))) d hd6 (by rw [mrow_n _ (by decide), prM_ne (by omega)]; exact hd) hpi (nI (cn (C (8 + j0))))) (cwV 1 hts gX5_restore_X5_keptIfDone rfl rfl rfl (by decide +kernel) ⟨Nat.le_of_ble_eq_true rfl, Nat.le_of_ble_eq_true rfl⟩) rfl hl (Nat.le_of_ble_eq_true rfl) ⟨Nat.zero_le _, Nat.zero_le _⟩ dX5_restore_56 rfl (fun r C1 pi1 H locs h7 hI => ?_)
        obtain ⟨hr9, h7⟩ := h7
        subst hr9
        rcases h7 with ⟨k6, nk6, hc9, hp9⟩ | ⟨k6, nk6, hc9, hp9⟩ | ⟨k6, hc9, hp9⟩
        · skip
          rw [hc9, hp9] at hI
          exact c_iret (v := nI (cn (C (8 + j0)))) hx hb hr hI (Or.inr (Or.inr ⟨hB9, by rw [x0]; exact c3, by rw [x0], by rw [x0]; exact Or.inl ⟨k6, nk6, rfl, rfl⟩⟩)) dX5_restore_59 hlocks
        · skip
          rw [hc9, hp9] at hI
          exact c_iret (v := nI (cn (C (8 + j0)))) hx hb hr hI (Or.inr (Or.inr ⟨hB9, by rw [x0]; exact c3, by rw [x0], by rw [x0]; exact Or.inr (Or.inl ⟨k6, nk6, rfl, rfl⟩)⟩)) dX5_restore_59 hlocks
        · skip
          rw [hc9, hp9] at hI
          exact c_iret (v := nI (cn (C (8 + j0)))) hx hb hr hI (Or.inr (Or.inr ⟨hB9, by rw [x0]; exact c3, by rw [x0], by rw [x0]; exact Or.inr (Or.inr ⟨k6, rfl, rfl⟩)⟩)) dX5_restore_59 hlocks
      · skip
        refine lv_bipush (v := (-5)) hx hb dX5_restore_21 (by decide) ?_
        exact c_iret (v := (-5)) hx hb hr hI (Or.inr (Or.inl ⟨hB9, by rw [x0]; exact c3, rfl, rfl, rfl⟩)) dX5_restore_23 hlocks
    · skip
      refine lv_bipush (v := (-2)) hx hb dX5_restore_9 (by decide) ?_
      exact c_iret (v := (-2)) hx hb hr hI (Or.inl ⟨inB01_f2 (Int32.not_lt.mp c2), rfl, rfl, rfl⟩) dX5_restore_11 hlocks
