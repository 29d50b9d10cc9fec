set_option maxHeartbeats 4000000 in
set_option maxRecDepth 100000 in
theorem k_X5_round (l : Launch) (dd : va_G) (g : Nat → ClassId) (ad pi : Nat → Nat) (A : Nat → Prop) (hA : cA A ad) (C : MS) (d : Nat) (hd6 : d ≤ 6) (hd : C 10 0 = nI d) (hpi : piOk pi) (hW0 : Wk (C 0)) (hgo0 : goOk (C 0)) (hLd0 : Lad (C 0)) (x : Int32)  : Met l yX5_round wsX5_round ({ frames := 4, cells := 0, slots := 0, locals := 98 }) (cPre dd g ad pi A C [.ref (ad 0), .int x]) (cQi dd g ad A (fun r C1 pi1 => (x < 0 ∧ r = -2 ∧ C1 = C ∧ pi1 = pi) ∨ (¬ x < 0 ∧ (chL x (cn (C 0))) = 0 ∧ r = -5 ∧ C1 = (rwM C (chL x (cn (C 0))) (chW (C 14) x (cn (C 0)))) ∧ pi1 = pi) ∨ (¬ x < 0 ∧ ¬ (chL x (cn (C 0))) = 0 ∧ r = bwR (C 0) (chW (C 14) x (cn (C 0))) (chL x (cn (C 0))) ∧ opC (rwM C (chL x (cn (C 0))) (chW (C 14) x (cn (C 0)))) pi d (bwF (C 0) (chW (C 14) x (cn (C 0))) (chL x (cn (C 0)))) (bwR (C 0) (chW (C 14) x (cn (C 0))) (chL x (cn (C 0)))) C1 pi1))) 0 0 A := by
  refine Met.ofW (cc := cX5_round) (maxL := 3) (ret := (some .int)) (by decide) rfl ?_
  intro p e s m args below meth c s₁ B hml hv
  obtain ⟨rfl, hP0, hK, hX⟩ := hv
  have hx := B.exec
  have hb := B.bytes
  have hr := B.returns
  have hts := atoms_spec (ws := wsX5_round) B.pre
  have hown : s.vm.findClass RX5 = some m.cls := findClass_of_methodNamed B.named
  have hlocks := B.notSynchronized
  have hinX5 : ∀ w ∈ wsX50, w ∈ wsX5_round := by decide +kernel
  have hI : cI dd g ad pi A s.heap s.heap [] C := ⟨hP0, va_S.rf⟩
  have hl := lv_entry ([.ref (ad 0), .int x]) (n := 3) (Nat.le_of_ble_eq_true rfl)
  rw [lg_entry_eq]
  generalize (lg_sl ([.ref (ad 0), .int x]) ++ List.replicate (3 - (lg_sl ([.ref (ad 0), .int x])).length) Slot.unset).toArray = ls at hl ⊢
  have hl : lv_has ls 3 [(0, .ref (ad 0)), (1, .int x)] := hl
  have hpd := hpi.1 d (by omega)
  have hc16 := hW0.2.1
  have hl4 := hW0.2.2.2
  refine lv_aload_n hx hb dX5_round_0 rfl (lv_at hl 0 rfl) ?_
  refine lv_iload_n hx hb dX5_round_1 rfl (lv_at hl 1 rfl) ?_
  refine c_calli (As := [.int x]) (rest := []) hx hb hml hown hts hK hX hI 0 (by omega) cE_0 rfl (k_X5_chooseRow l dd g ad pi A hA C hW0 x) (cwV 1 hts gX5_round_X5_chooseRow rfl rfl rfl (by decide +kernel) ⟨Nat.le_of_ble_eq_true rfl, Nat.le_of_ble_eq_true rfl⟩) rfl hl (Nat.le_of_ble_eq_true rfl) ⟨Nat.zero_le _, Nat.zero_le _⟩ dX5_round_2 rfl (fun r C1 pi1 H locs h2 hI => ?_)
  obtain ⟨h2, hp9⟩ := h2
  rw [hp9] at hI
  rcases h2 with ⟨x1, hr9, hc9⟩ | ⟨x1, lx1, hr9, hc9⟩ | ⟨x1, lx1, hr9, hc9⟩
  · skip
    rw [hc9] at hI
    subst hr9
    refine lv_istore_n (lv' := [(2, .int ((-2))), (0, .ref (ad 0)), (1, .int x)]) hx hb dX5_round_5 rfl hl (by decide) rfl (fun ls hl => ?_)
    refine lv_iload_n hx hb dX5_round_6 rfl (lv_at hl 0 rfl) ?_
    refine lv_if_ge (tgt := 12) hx hb dX5_round_7 (by decide) (fun c3 => absurd c3 (by decide)) (fun _ => ?_)
    refine lv_iload_n hx hb dX5_round_10 rfl (lv_at hl 0 rfl) ?_
    exact c_iret (v := (-2)) hx hb hr hI (Or.inl ⟨x1, rfl, rfl, rfl⟩) dX5_round_11 hlocks
  · skip
    rw [hc9] at hI
    subst hr9
    refine lv_istore_n (lv' := [(2, .int ((-5))), (0, .ref (ad 0)), (1, .int x)]) hx hb dX5_round_5 rfl hl (by decide) rfl (fun ls hl => ?_)
    refine lv_iload_n hx hb dX5_round_6 rfl (lv_at hl 0 rfl) ?_
    refine lv_if_ge (tgt := 12) hx hb dX5_round_7 (by decide) (fun c4 => absurd c4 (by decide)) (fun _ => ?_)
    refine lv_iload_n hx hb dX5_round_10 rfl (lv_at hl 0 rfl) ?_
    exact c_iret (v := (-5)) hx hb hr hI (Or.inr (Or.inl ⟨x1, lx1, rfl, rfl, rfl⟩)) dX5_round_11 hlocks
  · skip
    rw [hc9] at hI
    subst hr9
    have hlx := chL_le x (cn (C 0))
    refine lv_istore_n (lv' := [(2, .int (nI (chL x (cn (C 0))))), (0, .ref (ad 0)), (1, .int x)]) hx hb dX5_round_5 rfl hl (by decide) rfl (fun ls hl => ?_)
    refine lv_iload_n hx hb dX5_round_6 rfl (lv_at hl 0 rfl) ?_
    refine lv_if_ge (tgt := 12) hx hb dX5_round_7 (by decide) (fun c5 => ?_) (fun c5 => ?_)
    · skip
      have nc5 : 0 ≤ chL x (cn (C 0)) := (nI_leI (a := 0) (b := chL x (cn (C 0))) (by omega) (by omega)).mp c5
      refine lv_aload_n hx hb dX5_round_12 rfl (lv_at hl 1 rfl) ?_
      refine c_get hx hb hts hown hK hI 0 (by omega) cE_0 rfl hinX5 1 (by decide) (hts (.fieldLink RX5 19 "WinderLadders" "history" "LWinderLadders$History;") (by decide +kernel)) (v := .ref (ad 1)) rfl dX5_round_13 ?_
      refine lv_aload_n hx hb dX5_round_16 rfl (lv_at hl 1 rfl) ?_
      refine c_get hx hb hts hown hK hI 0 (by omega) cE_0 rfl hinX5 0 (by decide) (hts (.fieldLink RX5 12 "WinderLadders" "now" "LWinderLadders$State;") (by decide +kernel)) (v := .ref (ad (11 + 20 * 0))) rfl dX5_round_17 ?_
      obtain ⟨N, hN⟩ : ∃ N, N = (rwM C (chL x (cn (C 0))) (chW (C 14) x (cn (C 0)))) := ⟨_, rfl⟩
      rw [← hN] at hI
      have hN0 : N 0 = C 0 := by rw [hN]; exact rwM_ne (by decide) (by decide)
      have hNd : N 10 0 = nI d := by rw [hN, rwM_o (by decide)]; exact hd
      have hN5 : N 10 5 = nI (chL x (cn (C 0))) := by rw [hN]; exact rwM_5
      have hN14 : N 14 = (chW (C 14) x (cn (C 0))) := by rw [hN]; exact rwM_14
      refine c_callv (As := [.ref (ad (11 + 20 * 0))]) (rest := []) hx hb hml hown hts hK hX hI 1 (by omega) cE_1 rfl (k_X1_prepare l dd g ad pi A hA N d hd6 hNd hpi (by rw [hN0]; exact hW0) (by rw [hN0]; exact hgo0)) (cwV 1 hts gX5_round_X1_prepare rfl rfl rfl (by decide +kernel) ⟨Nat.le_of_ble_eq_true rfl, Nat.le_of_ble_eq_true rfl⟩) rfl hl (Nat.le_of_ble_eq_true rfl) ⟨Nat.zero_le _, Nat.zero_le _⟩ dX5_round_20 rfl (fun C1 pi1 H locs h6 hI => ?_)
      obtain ⟨hc9, hp9⟩ := h6
      rw [hc9, hp9] at hI
      refine lv_aload_n hx hb dX5_round_23 rfl (lv_at hl 1 rfl) ?_
      refine lv_aload_n hx hb dX5_round_24 rfl (lv_at hl 1 rfl) ?_
      refine c_get hx hb hts hown hK hI 0 (by omega) cE_0 rfl hinX5 0 (by decide) (hts (.fieldLink RX5 12 "WinderLadders" "now" "LWinderLadders$State;") (by decide +kernel)) (v := .ref (ad (11 + 20 * 0))) rfl dX5_round_25 ?_
      refine lv_aload_n hx hb dX5_round_28 rfl (lv_at hl 1 rfl) ?_
      refine c_get hx hb hts hown hK hI 0 (by omega) cE_0 rfl hinX5 5 (by decide) (hts (.fieldLink RX5 41 "WinderLadders" "row" "LWinderLadders$Row;") (by decide +kernel)) (v := .ref (ad 9)) rfl dX5_round_29 ?_
      refine c_calli (As := [.ref (ad 9)]) (rest := [.ref (ad 0)]) hx hb hml hown hts hK hX hI (11 + 20 * 0) (by omega) cE_st rfl (k_X4_walkBeat_r l dd g ad pi A hA (prM N pi d) 0 (by omega) (chL x (cn (C 0))) (by omega) (by rw [prM_ne (by omega)]; exact hN5) (by rw [prM_ne (by omega), hN0]; exact hW0) (by rw [prM_ne (by omega), hN0]; exact hLd0)) (cwV 1 hts gX5_round_X4_walkBeat rfl rfl rfl (by decide +kernel) ⟨Nat.le_of_ble_eq_true rfl, Nat.le_of_ble_eq_true rfl⟩) rfl hl (Nat.le_of_ble_eq_true rfl) ⟨Nat.zero_le _, Nat.zero_le _⟩ dX5_round_32 rfl (fun r C1 pi1 H locs h7 hI => ?_)
      obtain ⟨hr9, hc9, hp9⟩ := h7
      rw [prM_ne (C := N) (pi := pi) (d := d) (a := 0) (by omega), prM_ne (C := N) (pi := pi) (d := d) (a := 14) (by omega), hN0, hN14] at hr9 hc9
      rw [hc9, hp9] at hI
      subst hr9
      refine c_calli (As := [.int (bwR (C 0) (chW (C 14) x (cn (C 0))) (chL x (cn (C 0))))]) (rest := []) hx hb hml hown hts hK hX hI 0 (by omega) cE_0 rfl (k_X5_keptIfDone l dd g ad pi A hA (mrow (prM N pi d) 0 (bwF (C 0) (chW (C 14) x (cn (C 0))) (chL x (cn (C 0))))) d hd6 (by rw [mrow_n _ (by decide), prM_ne (by omega)]; exact hNd) hpi (bwR (C 0) (chW (C 14) x (cn (C 0))) (chL x (cn (C 0))))) (cwV 1 hts gX5_round_X5_keptIfDone rfl rfl rfl (by decide +kernel) ⟨Nat.le_of_ble_eq_true rfl, Nat.le_of_ble_eq_true rfl⟩) rfl hl (Nat.le_of_ble_eq_true rfl) ⟨Nat.zero_le _, Nat.zero_le _⟩ dX5_round_35 rfl (fun r C1 pi1 H locs h9 hI => ?_)
      obtain ⟨hr9, h9⟩ := h9
      subst hr9
      rcases h9 with ⟨k8, nk8, hc9, hp9⟩ | ⟨k8, nk8, hc9, hp9⟩ | ⟨k8, hc9, hp9⟩
      · skip
        rw [hc9, hp9] at hI
        exact c_iret (v := bwR (C 0) (chW (C 14) x (cn (C 0))) (chL x (cn (C 0)))) hx hb hr hI (Or.inr (Or.inr ⟨x1, lx1, rfl, by rw [← hN]; exact Or.inl ⟨k8, nk8, rfl, rfl⟩⟩)) dX5_round_38 hlocks
      · skip
        rw [hc9, hp9] at hI
        exact c_iret (v := bwR (C 0) (chW (C 14) x (cn (C 0))) (chL x (cn (C 0)))) hx hb hr hI (Or.inr (Or.inr ⟨x1, lx1, rfl, by rw [← hN]; exact Or.inr (Or.inl ⟨k8, nk8, rfl, rfl⟩)⟩)) dX5_round_38 hlocks
      · skip
        rw [hc9, hp9] at hI
        exact c_iret (v := bwR (C 0) (chW (C 14) x (cn (C 0))) (chL x (cn (C 0)))) hx hb hr hI (Or.inr (Or.inr ⟨x1, lx1, rfl, by rw [← hN]; exact Or.inr (Or.inr ⟨k8, rfl, rfl⟩)⟩)) dX5_round_38 hlocks
    · skip
      have nc5 : ¬ (0 ≤ chL x (cn (C 0))) := fun h => c5 ((nI_leI (a := 0) (b := chL x (cn (C 0))) (by omega) (by omega)).mpr h)
      exact absurd (Nat.zero_le _) nc5

set_option maxHeartbeats 4000000 in
set_option maxRecDepth 100000 in
theorem k_X5_undo (l : Launch) (dd : va_G) (g : Nat → ClassId) (ad pi : Nat → Nat) (A : Nat → Prop) (hA : cA A ad) (C : MS) (d : Nat) (hd6 : d ≤ 6) (hd : C 10 0 = nI d) (hpi : piOk pi) (hWh : ∀ j, j < d → Wk (C (pi j)) ∧ goOk (C (pi j)))  : Met l yX5_undo wsX5_undo ({ frames := 3, cells := 0, slots := 0, locals := 83 }) (cPre dd g ad pi A C [.ref (ad 0)]) (cQi dd g ad A (fun r C1 pi1 => ((d = 0 ∧ r = -5 ∧ C1 = C) ∨ (0 < d ∧ r = nI (d - 1) ∧ C1 = mrow (mset C 10 0 (nI (d - 1))) 0 (cpS (C 0) (C (pi (d - 1)))))) ∧ pi1 = pi)) 0 0 A := by
  refine Met.ofW (cc := cX5_undo) (maxL := 1) (ret := (some .int)) (by decide) rfl ?_
  intro p e s m args below meth c s₁ B hml hv
  obtain ⟨rfl, hP0, hK, hX⟩ := hv
  have hx := B.exec
  have hb := B.bytes
  have hr := B.returns
  have hts := atoms_spec (ws := wsX5_undo) B.pre
  have hown : s.vm.findClass RX5 = some m.cls := findClass_of_methodNamed B.named
  have hlocks := B.notSynchronized
  have hinX1 : ∀ w ∈ wsX10, w ∈ wsX5_undo := by decide +kernel
  have hinX5 : ∀ w ∈ wsX50, w ∈ wsX5_undo := by decide +kernel
  have hI : cI dd g ad pi A s.heap s.heap [] C := ⟨hP0, va_S.rf⟩
  have hl := lv_entry ([.ref (ad 0)]) (n := 1) (Nat.le_of_ble_eq_true rfl)
  rw [lg_entry_eq]
  generalize (lg_sl ([.ref (ad 0)]) ++ List.replicate (1 - (lg_sl ([.ref (ad 0)])).length) Slot.unset).toArray = ls at hl ⊢
  have hl : lv_has ls 1 [(0, .ref (ad 0))] := hl
  refine lv_aload_n hx hb dX5_undo_0 rfl (lv_at hl 0 rfl) ?_
  refine c_get hx hb hts hown hK hI 0 (by omega) cE_0 rfl hinX5 1 (by decide) (hts (.fieldLink RX5 19 "WinderLadders" "history" "LWinderLadders$History;") (by decide +kernel)) (v := .ref (ad 1)) rfl dX5_undo_1 ?_
  refine lv_aload_n hx hb dX5_undo_4 rfl (lv_at hl 0 rfl) ?_
  refine c_get hx hb hts hown hK hI 0 (by omega) cE_0 rfl hinX5 0 (by decide) (hts (.fieldLink RX5 12 "WinderLadders" "now" "LWinderLadders$State;") (by decide +kernel)) (v := .ref (ad (11 + 20 * 0))) rfl dX5_undo_5 ?_
  refine c_calli (As := [.ref (ad (11 + 20 * 0))]) (rest := []) hx hb hml hown hts hK hX hI 1 (by omega) cE_1 rfl (k_X1_takeBack l dd g ad pi A hA C d hd6 hd hpi hWh) (cwV 1 hts gX5_undo_X1_takeBack rfl rfl rfl (by decide +kernel) ⟨Nat.le_of_ble_eq_true rfl, Nat.le_of_ble_eq_true rfl⟩) rfl hl (Nat.le_of_ble_eq_true rfl) ⟨Nat.zero_le _, Nat.zero_le _⟩ dX5_undo_8 rfl (fun r C1 pi1 H locs h2 hI => ?_)
  obtain ⟨h2, hp9⟩ := h2
  rw [hp9] at hI
  rcases h2 with ⟨k1, hr9, hc9⟩ | ⟨k1, hr9, hc9⟩
  · skip
    rw [hc9] at hI
    subst hr9
    refine lv_if_eq (tgt := 24) hx hb dX5_undo_11 (by decide) (fun _ => ?_) (fun c3 => absurd (by decide) c3)
    refine lv_bipush (v := (-5)) hx hb dX5_undo_24 (by decide) ?_
    exact c_iret (v := (-5)) hx hb hr hI (⟨Or.inl ⟨k1, rfl, rfl⟩, rfl⟩) dX5_undo_26 hlocks
  · skip
    rw [hc9] at hI
    subst hr9
    refine lv_if_eq (tgt := 24) hx hb dX5_undo_11 (by decide) (fun c4 => absurd c4 (by decide)) (fun _ => ?_)
    refine lv_aload_n hx hb dX5_undo_14 rfl (lv_at hl 0 rfl) ?_
    refine c_get hx hb hts hown hK hI 0 (by omega) cE_0 rfl hinX5 1 (by decide) (hts (.fieldLink RX5 19 "WinderLadders" "history" "LWinderLadders$History;") (by decide +kernel)) (v := .ref (ad 1)) rfl dX5_undo_15 ?_
    refine c_get hx hb hts hown hK hI 1 (by omega) cE_1 rfl hinX1 1 (by decide) (hts (.fieldLink RX5 169 "WinderLadders$History" "depth" "I") (by decide +kernel)) (v := .int (nI (d - 1))) (congrArg (fun z => some (Value.int z)) (((congrFun (mrow_n _ (by decide) _) _).trans (mset_eq _ _ _ _)))) dX5_undo_18 ?_
    refine lv_goto (tgt := 26) hx hb dX5_undo_21 (by decide) ?_
    exact c_iret (v := nI (d - 1)) hx hb hr hI (⟨Or.inr ⟨k1, rfl, rfl⟩, rfl⟩) dX5_undo_26 hlocks
