set_option maxHeartbeats 4000000 in
set_option maxRecDepth 100000 in
theorem k_X5_keptIfDone (l : Launch) (dd : va_G) (g : Nat → ClassId) (ad pi : Nat → Nat) (A : Nat → Prop) (hA : cA A ad) (C : MS) (d : Nat) (hd6 : d ≤ 6) (hd : C 10 0 = nI d) (hpi : piOk pi) (x : Int32)  : Met l yX5_keptIfDone wsX5_keptIfDone ({ frames := 2, cells := 0, slots := 0, locals := 42 }) (cPre dd g ad pi A C [.ref (ad 0), .int x]) (cQi dd g ad A (fun r C1 pi1 => r = x ∧ ((0 ≤ x ∧ d < 6 ∧ C1 = mset C 10 0 (nI (d + 1)) ∧ pi1 = pi) ∨ (0 ≤ x ∧ ¬ d < 6 ∧ C1 = C ∧ pi1 = rot pi) ∨ (¬ 0 ≤ x ∧ C1 = C ∧ pi1 = pi)))) 0 0 A := by
  refine Met.ofW (cc := cX5_keptIfDone) (maxL := 2) (ret := (some .int)) (by decide) rfl ?_
  intro p e s m args below meth c s₁ B hml hv
  obtain ⟨rfl, hP0, hK, hX⟩ := hv
  have hx := B.exec
  have hb := B.bytes
  have hr := B.returns
  have hts := atoms_spec (ws := wsX5_keptIfDone) B.pre
  have hown : s.vm.findClass RX5 = some m.cls := findClass_of_methodNamed B.named
  have hlocks := B.notSynchronized
  have hinX5 : ∀ w ∈ wsX50, w ∈ wsX5_keptIfDone := by decide +kernel
  have hI : cI dd g ad pi A s.heap s.heap [] C := ⟨hP0, va_S.rf⟩
  have hl := lv_entry ([.ref (ad 0), .int x]) (n := 2) (Nat.le_of_ble_eq_true rfl)
  rw [lg_entry_eq]
  generalize (lg_sl ([.ref (ad 0), .int x]) ++ List.replicate (2 - (lg_sl ([.ref (ad 0), .int x])).length) Slot.unset).toArray = ls at hl ⊢
  have hl : lv_has ls 2 [(0, .ref (ad 0)), (1, .int x)] := hl
  refine lv_iload_n hx hb dX5_keptIfDone_0 rfl (lv_at hl 1 rfl) ?_
  refine lv_if_lt (tgt := 11) hx hb dX5_keptIfDone_1 (by decide) (fun c1 => ?_) (fun c1 => ?_)
  · skip
    refine lv_iload_n hx hb dX5_keptIfDone_11 rfl (lv_at hl 1 rfl) ?_
    exact c_iret (v := x) hx hb hr hI (⟨rfl, Or.inr (Or.inr ⟨Int32.lt_nle c1, rfl, rfl⟩)⟩) dX5_keptIfDone_12 hlocks
  · skip
    refine lv_aload_n hx hb dX5_keptIfDone_4 rfl (lv_at hl 0 rfl) ?_
    refine c_get hx hb hts hown hK hI 0 (by omega) cE_0 rfl hinX5 1 (by decide) (hts (.fieldLink RX5 19 "WinderLadders" "history" "LWinderLadders$History;") (by decide +kernel)) (v := .ref (ad 1)) rfl dX5_keptIfDone_5 ?_
    refine c_callv (As := []) (rest := []) hx hb hml hown hts hK hX hI 1 (by omega) cE_1 rfl (k_X1_keepPrepared l dd g ad pi A hA C d hd6 hd hpi) (cwV 0 hts gX5_keptIfDone_X1_keepPrepared rfl rfl rfl (by decide +kernel) ⟨Nat.le_of_ble_eq_true rfl, Nat.le_of_ble_eq_true rfl⟩) rfl hl (Nat.le_of_ble_eq_true rfl) ⟨Nat.zero_le _, Nat.zero_le _⟩ dX5_keptIfDone_8 rfl (fun C1 pi1 H locs h3 hI => ?_)
    rcases h3 with ⟨k2, hc9, hp9⟩ | ⟨k2, hc9, hp9⟩
    · skip
      rw [hc9, hp9] at hI
      refine lv_iload_n hx hb dX5_keptIfDone_11 rfl (lv_at hl 1 rfl) ?_
      exact c_iret (v := x) hx hb hr hI (⟨rfl, Or.inl ⟨Int32.nlt_le c1, k2, rfl, rfl⟩⟩) dX5_keptIfDone_12 hlocks
    · skip
      rw [hc9, hp9] at hI
      refine lv_iload_n hx hb dX5_keptIfDone_11 rfl (lv_at hl 1 rfl) ?_
      exact c_iret (v := x) hx hb hr hI (⟨rfl, Or.inr (Or.inl ⟨Int32.nlt_le c1, k2, rfl, rfl⟩)⟩) dX5_keptIfDone_12 hlocks

set_option maxHeartbeats 4000000 in
set_option maxRecDepth 100000 in
theorem k_X5_set (l : Launch) (dd : va_G) (g : Nat → ClassId) (ad pi : Nat → Nat) (A : Nat → Prop) (hA : cA A ad) (C : MS) (d : Nat) (hd6 : d ≤ 6) (hd : C 10 0 = nI d) (hpi : piOk pi) (hW0 : Wk (C 0)) (hgo0 : goOk (C 0)) (x v : Int32)  : Met l yX5_set wsX5_set ({ frames := 3, cells := 0, slots := 0, locals := 83 }) (cPre dd g ad pi A C [.ref (ad 0), .int x, .int v]) (cQi dd g ad A (fun r C1 pi1 => r = rsR (C 0) x v ∧ opC C pi d (rsF (C 0) x v) (rsR (C 0) x v) C1 pi1)) 0 0 A := by
  refine Met.ofW (cc := cX5_set) (maxL := 3) (ret := (some .int)) (by decide) rfl ?_
  intro p e s m args below meth c s₁ B hml hv
  obtain ⟨rfl, hP0, hK, hX⟩ := hv
  have hx := B.exec
  have hb := B.bytes
  have hr := B.returns
  have hts := atoms_spec (ws := wsX5_set) B.pre
  have hown : s.vm.findClass RX5 = some m.cls := findClass_of_methodNamed B.named
  have hlocks := B.notSynchronized
  have hinX5 : ∀ w ∈ wsX50, w ∈ wsX5_set := by decide +kernel
  have hI : cI dd g ad pi A s.heap s.heap [] C := ⟨hP0, va_S.rf⟩
  have hl := lv_entry ([.ref (ad 0), .int x, .int v]) (n := 3) (Nat.le_of_ble_eq_true rfl)
  rw [lg_entry_eq]
  generalize (lg_sl ([.ref (ad 0), .int x, .int v]) ++ List.replicate (3 - (lg_sl ([.ref (ad 0), .int x, .int v])).length) Slot.unset).toArray = ls at hl ⊢
  have hl : lv_has ls 3 [(0, .ref (ad 0)), (1, .int x), (2, .int v)] := hl
  have hpd := hpi.1 d (by omega)
  have hc16 := hW0.2.1
  have hl4 := hW0.2.2.2
  refine lv_aload_n hx hb dX5_set_0 rfl (lv_at hl 0 rfl) ?_
  refine c_get hx hb hts hown hK hI 0 (by omega) cE_0 rfl hinX5 1 (by decide) (hts (.fieldLink RX5 19 "WinderLadders" "history" "LWinderLadders$History;") (by decide +kernel)) (v := .ref (ad 1)) rfl dX5_set_1 ?_
  refine lv_aload_n hx hb dX5_set_4 rfl (lv_at hl 0 rfl) ?_
  refine c_get hx hb hts hown hK hI 0 (by omega) cE_0 rfl hinX5 0 (by decide) (hts (.fieldLink RX5 12 "WinderLadders" "now" "LWinderLadders$State;") (by decide +kernel)) (v := .ref (ad (11 + 20 * 0))) rfl dX5_set_5 ?_
  refine c_callv (As := [.ref (ad (11 + 20 * 0))]) (rest := []) hx hb hml hown hts hK hX hI 1 (by omega) cE_1 rfl (k_X1_prepare l dd g ad pi A hA C d hd6 hd hpi hW0 hgo0) (cwV 1 hts gX5_set_X1_prepare rfl rfl rfl (by decide +kernel) ⟨Nat.le_of_ble_eq_true rfl, Nat.le_of_ble_eq_true rfl⟩) rfl hl (Nat.le_of_ble_eq_true rfl) ⟨Nat.zero_le _, Nat.zero_le _⟩ dX5_set_8 rfl (fun C1 pi1 H locs h1 hI => ?_)
  obtain ⟨hc9, hp9⟩ := h1
  rw [hc9, hp9] at hI
  refine lv_aload_n hx hb dX5_set_11 rfl (lv_at hl 0 rfl) ?_
  refine lv_aload_n hx hb dX5_set_12 rfl (lv_at hl 0 rfl) ?_
  refine c_get hx hb hts hown hK hI 0 (by omega) cE_0 rfl hinX5 0 (by decide) (hts (.fieldLink RX5 12 "WinderLadders" "now" "LWinderLadders$State;") (by decide +kernel)) (v := .ref (ad (11 + 20 * 0))) rfl dX5_set_13 ?_
  refine lv_iload_n hx hb dX5_set_16 rfl (lv_at hl 1 rfl) ?_
  refine lv_iload_n hx hb dX5_set_17 rfl (lv_at hl 2 rfl) ?_
  refine c_calli (As := [.int x, .int v]) (rest := [.ref (ad 0)]) hx hb hml hown hts hK hX hI (11 + 20 * 0) (by omega) cE_st rfl (k_X4_replaceSetting l dd g ad pi A hA (prM C pi d) 0 (by omega) x v ) (cwV 2 hts gX5_set_X4_replaceSetting rfl rfl rfl (by decide +kernel) ⟨Nat.le_of_ble_eq_true rfl, Nat.le_of_ble_eq_true rfl⟩) rfl hl (Nat.le_of_ble_eq_true rfl) ⟨Nat.zero_le _, Nat.zero_le _⟩ dX5_set_18 rfl (fun r C1 pi1 H locs h3 hI => ?_)
  obtain ⟨hr9, hc9, hp9⟩ := h3
  rw [prM_ne (C := C) (pi := pi) (d := d) (a := 0) (by omega)] at hr9 hc9
  rw [hc9, hp9] at hI
  subst hr9
  refine c_calli (As := [.int (rsR (C 0) x v)]) (rest := []) hx hb hml hown hts hK hX hI 0 (by omega) cE_0 rfl (k_X5_keptIfDone l dd g ad pi A hA (mrow (prM C pi d) 0 (rsF (C 0) x v)) d hd6 (by rw [mrow_n _ (by decide), prM_ne (by omega)]; exact hd) hpi (rsR (C 0) x v)) (cwV 1 hts gX5_set_X5_keptIfDone rfl rfl rfl (by decide +kernel) ⟨Nat.le_of_ble_eq_true rfl, Nat.le_of_ble_eq_true rfl⟩) rfl hl (Nat.le_of_ble_eq_true rfl) ⟨Nat.zero_le _, Nat.zero_le _⟩ dX5_set_21 rfl (fun r C1 pi1 H locs h5 hI => ?_)
  obtain ⟨hr9, h5⟩ := h5
  subst hr9
  rcases h5 with ⟨k4, nk4, hc9, hp9⟩ | ⟨k4, nk4, hc9, hp9⟩ | ⟨k4, hc9, hp9⟩
  · skip
    rw [hc9, hp9] at hI
    exact c_iret (v := rsR (C 0) x v) hx hb hr hI (⟨rfl, Or.inl ⟨k4, nk4, rfl, rfl⟩⟩) dX5_set_24 hlocks
  · skip
    rw [hc9, hp9] at hI
    exact c_iret (v := rsR (C 0) x v) hx hb hr hI (⟨rfl, Or.inr (Or.inl ⟨k4, nk4, rfl, rfl⟩)⟩) dX5_set_24 hlocks
  · skip
    rw [hc9, hp9] at hI
    exact c_iret (v := rsR (C 0) x v) hx hb hr hI (⟨rfl, Or.inr (Or.inr ⟨k4, rfl, rfl⟩)⟩) dX5_set_24 hlocks

set_option maxHeartbeats 4000000 in
set_option maxRecDepth 100000 in
theorem k_X5_hang (l : Launch) (dd : va_G) (g : Nat → ClassId) (ad pi : Nat → Nat) (A : Nat → Prop) (hA : cA A ad) (C : MS) (d : Nat) (hd6 : d ≤ 6) (hd : C 10 0 = nI d) (hpi : piOk pi) (hW0 : Wk (C 0)) (hgo0 : goOk (C 0)) (h9 u v : Int32)  : Met l yX5_hang wsX5_hang ({ frames := 3, cells := 0, slots := 0, locals := 83 }) (cPre dd g ad pi A C [.ref (ad 0), .int h9, .int u, .int v]) (cQi dd g ad A (fun r C1 pi1 => r = acR (C 0) h9 u v ∧ opC C pi d (acF (C 0) h9 u v) (acR (C 0) h9 u v) C1 pi1)) 0 0 A := by
  refine Met.ofW (cc := cX5_hang) (maxL := 4) (ret := (some .int)) (by decide) rfl ?_
  intro p e s m args below meth c s₁ B hml hv
  obtain ⟨rfl, hP0, hK, hX⟩ := hv
  have hx := B.exec
  have hb := B.bytes
  have hr := B.returns
  have hts := atoms_spec (ws := wsX5_hang) B.pre
  have hown : s.vm.findClass RX5 = some m.cls := findClass_of_methodNamed B.named
  have hlocks := B.notSynchronized
  have hinX5 : ∀ w ∈ wsX50, w ∈ wsX5_hang := by decide +kernel
  have hI : cI dd g ad pi A s.heap s.heap [] C := ⟨hP0, va_S.rf⟩
  have hl := lv_entry ([.ref (ad 0), .int h9, .int u, .int v]) (n := 4) (Nat.le_of_ble_eq_true rfl)
  rw [lg_entry_eq]
  generalize (lg_sl ([.ref (ad 0), .int h9, .int u, .int v]) ++ List.replicate (4 - (lg_sl ([.ref (ad 0), .int h9, .int u, .int v])).length) Slot.unset).toArray = ls at hl ⊢
  have hl : lv_has ls 4 [(0, .ref (ad 0)), (1, .int h9), (2, .int u), (3, .int v)] := hl
  have hpd := hpi.1 d (by omega)
  have hc16 := hW0.2.1
  have hl4 := hW0.2.2.2
  refine lv_aload_n hx hb dX5_hang_0 rfl (lv_at hl 0 rfl) ?_
  refine c_get hx hb hts hown hK hI 0 (by omega) cE_0 rfl hinX5 1 (by decide) (hts (.fieldLink RX5 19 "WinderLadders" "history" "LWinderLadders$History;") (by decide +kernel)) (v := .ref (ad 1)) rfl dX5_hang_1 ?_
  refine lv_aload_n hx hb dX5_hang_4 rfl (lv_at hl 0 rfl) ?_
  refine c_get hx hb hts hown hK hI 0 (by omega) cE_0 rfl hinX5 0 (by decide) (hts (.fieldLink RX5 12 "WinderLadders" "now" "LWinderLadders$State;") (by decide +kernel)) (v := .ref (ad (11 + 20 * 0))) rfl dX5_hang_5 ?_
  refine c_callv (As := [.ref (ad (11 + 20 * 0))]) (rest := []) hx hb hml hown hts hK hX hI 1 (by omega) cE_1 rfl (k_X1_prepare l dd g ad pi A hA C d hd6 hd hpi hW0 hgo0) (cwV 1 hts gX5_hang_X1_prepare rfl rfl rfl (by decide +kernel) ⟨Nat.le_of_ble_eq_true rfl, Nat.le_of_ble_eq_true rfl⟩) rfl hl (Nat.le_of_ble_eq_true rfl) ⟨Nat.zero_le _, Nat.zero_le _⟩ dX5_hang_8 rfl (fun C1 pi1 H locs h1 hI => ?_)
  obtain ⟨hc9, hp9⟩ := h1
  rw [hc9, hp9] at hI
  refine lv_aload_n hx hb dX5_hang_11 rfl (lv_at hl 0 rfl) ?_
  refine lv_aload_n hx hb dX5_hang_12 rfl (lv_at hl 0 rfl) ?_
  refine c_get hx hb hts hown hK hI 0 (by omega) cE_0 rfl hinX5 0 (by decide) (hts (.fieldLink RX5 12 "WinderLadders" "now" "LWinderLadders$State;") (by decide +kernel)) (v := .ref (ad (11 + 20 * 0))) rfl dX5_hang_13 ?_
  refine lv_iload_n hx hb dX5_hang_16 rfl (lv_at hl 1 rfl) ?_
  refine lv_iload_n hx hb dX5_hang_17 rfl (lv_at hl 2 rfl) ?_
  refine lv_iload_n hx hb dX5_hang_18 rfl (lv_at hl 3 rfl) ?_
  refine c_calli (As := [.int h9, .int u, .int v]) (rest := [.ref (ad 0)]) hx hb hml hown hts hK hX hI (11 + 20 * 0) (by omega) cE_st rfl (k_X4_addClock l dd g ad pi A hA (prM C pi d) 0 (by omega) h9 u v (by rw [prM_ne (by omega)]; exact hW0)) (cwV 3 hts gX5_hang_X4_addClock rfl rfl rfl (by decide +kernel) ⟨Nat.le_of_ble_eq_true rfl, Nat.le_of_ble_eq_true rfl⟩) rfl hl (Nat.le_of_ble_eq_true rfl) ⟨Nat.zero_le _, Nat.zero_le _⟩ dX5_hang_19 rfl (fun r C1 pi1 H locs h3 hI => ?_)
  obtain ⟨hr9, hc9, hp9⟩ := h3
  rw [prM_ne (C := C) (pi := pi) (d := d) (a := 0) (by omega)] at hr9 hc9
  rw [hc9, hp9] at hI
  subst hr9
  refine c_calli (As := [.int (acR (C 0) h9 u v)]) (rest := []) hx hb hml hown hts hK hX hI 0 (by omega) cE_0 rfl (k_X5_keptIfDone l dd g ad pi A hA (mrow (prM C pi d) 0 (acF (C 0) h9 u v)) d hd6 (by rw [mrow_n _ (by decide), prM_ne (by omega)]; exact hd) hpi (acR (C 0) h9 u v)) (cwV 1 hts gX5_hang_X5_keptIfDone rfl rfl rfl (by decide +kernel) ⟨Nat.le_of_ble_eq_true rfl, Nat.le_of_ble_eq_true rfl⟩) rfl hl (Nat.le_of_ble_eq_true rfl) ⟨Nat.zero_le _, Nat.zero_le _⟩ dX5_hang_22 rfl (fun r C1 pi1 H locs h5 hI => ?_)
  obtain ⟨hr9, h5⟩ := h5
  subst hr9
  rcases h5 with ⟨k4, nk4, hc9, hp9⟩ | ⟨k4, nk4, hc9, hp9⟩ | ⟨k4, hc9, hp9⟩
  · skip
    rw [hc9, hp9] at hI
    exact c_iret (v := acR (C 0) h9 u v) hx hb hr hI (⟨rfl, Or.inl ⟨k4, nk4, rfl, rfl⟩⟩) dX5_hang_25 hlocks
  · skip
    rw [hc9, hp9] at hI
    exact c_iret (v := acR (C 0) h9 u v) hx hb hr hI (⟨rfl, Or.inr (Or.inl ⟨k4, nk4, rfl, rfl⟩)⟩) dX5_hang_25 hlocks
  · skip
    rw [hc9, hp9] at hI
    exact c_iret (v := acR (C 0) h9 u v) hx hb hr hI (⟨rfl, Or.inr (Or.inr ⟨k4, rfl, rfl⟩)⟩) dX5_hang_25 hlocks

set_option maxHeartbeats 4000000 in
set_option maxRecDepth 100000 in
theorem k_X5_ladder (l : Launch) (dd : va_G) (g : Nat → ClassId) (ad pi : Nat → Nat) (A : Nat → Prop) (hA : cA A ad) (C : MS) (d : Nat) (hd6 : d ≤ 6) (hd : C 10 0 = nI d) (hpi : piOk pi) (hW0 : Wk (C 0)) (hgo0 : goOk (C 0)) (u : Int32)  : Met l yX5_ladder wsX5_ladder ({ frames := 3, cells := 0, slots := 0, locals := 83 }) (cPre dd g ad pi A C [.ref (ad 0), .int u]) (cQi dd g ad A (fun r C1 pi1 => r = alR (C 0) u ∧ opC C pi d (alF (C 0) u) (alR (C 0) u) C1 pi1)) 0 0 A := by
  refine Met.ofW (cc := cX5_ladder) (maxL := 2) (ret := (some .int)) (by decide) rfl ?_
  intro p e s m args below meth c s₁ B hml hv
  obtain ⟨rfl, hP0, hK, hX⟩ := hv
  have hx := B.exec
  have hb := B.bytes
  have hr := B.returns
  have hts := atoms_spec (ws := wsX5_ladder) B.pre
  have hown : s.vm.findClass RX5 = some m.cls := findClass_of_methodNamed B.named
  have hlocks := B.notSynchronized
  have hinX5 : ∀ w ∈ wsX50, w ∈ wsX5_ladder := by decide +kernel
  have hI : cI dd g ad pi A s.heap s.heap [] C := ⟨hP0, va_S.rf⟩
  have hl := lv_entry ([.ref (ad 0), .int u]) (n := 2) (Nat.le_of_ble_eq_true rfl)
  rw [lg_entry_eq]
  generalize (lg_sl ([.ref (ad 0), .int u]) ++ List.replicate (2 - (lg_sl ([.ref (ad 0), .int u])).length) Slot.unset).toArray = ls at hl ⊢
  have hl : lv_has ls 2 [(0, .ref (ad 0)), (1, .int u)] := hl
  have hpd := hpi.1 d (by omega)
  have hc16 := hW0.2.1
  have hl4 := hW0.2.2.2
  refine lv_aload_n hx hb dX5_ladder_0 rfl (lv_at hl 0 rfl) ?_
  refine c_get hx hb hts hown hK hI 0 (by omega) cE_0 rfl hinX5 1 (by decide) (hts (.fieldLink RX5 19 "WinderLadders" "history" "LWinderLadders$History;") (by decide +kernel)) (v := .ref (ad 1)) rfl dX5_ladder_1 ?_
  refine lv_aload_n hx hb dX5_ladder_4 rfl (lv_at hl 0 rfl) ?_
  refine c_get hx hb hts hown hK hI 0 (by omega) cE_0 rfl hinX5 0 (by decide) (hts (.fieldLink RX5 12 "WinderLadders" "now" "LWinderLadders$State;") (by decide +kernel)) (v := .ref (ad (11 + 20 * 0))) rfl dX5_ladder_5 ?_
  refine c_callv (As := [.ref (ad (11 + 20 * 0))]) (rest := []) hx hb hml hown hts hK hX hI 1 (by omega) cE_1 rfl (k_X1_prepare l dd g ad pi A hA C d hd6 hd hpi hW0 hgo0) (cwV 1 hts gX5_ladder_X1_prepare rfl rfl rfl (by decide +kernel) ⟨Nat.le_of_ble_eq_true rfl, Nat.le_of_ble_eq_true rfl⟩) rfl hl (Nat.le_of_ble_eq_true rfl) ⟨Nat.zero_le _, Nat.zero_le _⟩ dX5_ladder_8 rfl (fun C1 pi1 H locs h1 hI => ?_)
  obtain ⟨hc9, hp9⟩ := h1
  rw [hc9, hp9] at hI
  refine lv_aload_n hx hb dX5_ladder_11 rfl (lv_at hl 0 rfl) ?_
  refine lv_aload_n hx hb dX5_ladder_12 rfl (lv_at hl 0 rfl) ?_
  refine c_get hx hb hts hown hK hI 0 (by omega) cE_0 rfl hinX5 0 (by decide) (hts (.fieldLink RX5 12 "WinderLadders" "now" "LWinderLadders$State;") (by decide +kernel)) (v := .ref (ad (11 + 20 * 0))) rfl dX5_ladder_13 ?_
  refine lv_iload_n hx hb dX5_ladder_16 rfl (lv_at hl 1 rfl) ?_
  refine c_calli (As := [.int u]) (rest := [.ref (ad 0)]) hx hb hml hown hts hK hX hI (11 + 20 * 0) (by omega) cE_st rfl (k_X4_addLadder l dd g ad pi A hA (prM C pi d) 0 (by omega) u (by rw [prM_ne (by omega)]; exact hW0)) (cwV 1 hts gX5_ladder_X4_addLadder rfl rfl rfl (by decide +kernel) ⟨Nat.le_of_ble_eq_true rfl, Nat.le_of_ble_eq_true rfl⟩) rfl hl (Nat.le_of_ble_eq_true rfl) ⟨Nat.zero_le _, Nat.zero_le _⟩ dX5_ladder_17 rfl (fun r C1 pi1 H locs h3 hI => ?_)
  obtain ⟨hr9, hc9, hp9⟩ := h3
  rw [prM_ne (C := C) (pi := pi) (d := d) (a := 0) (by omega)] at hr9 hc9
  rw [hc9, hp9] at hI
  subst hr9
  refine c_calli (As := [.int (alR (C 0) u)]) (rest := []) hx hb hml hown hts hK hX hI 0 (by omega) cE_0 rfl (k_X5_keptIfDone l dd g ad pi A hA (mrow (prM C pi d) 0 (alF (C 0) u)) d hd6 (by rw [mrow_n _ (by decide), prM_ne (by omega)]; exact hd) hpi (alR (C 0) u)) (cwV 1 hts gX5_ladder_X5_keptIfDone rfl rfl rfl (by decide +kernel) ⟨Nat.le_of_ble_eq_true rfl, Nat.le_of_ble_eq_true rfl⟩) rfl hl (Nat.le_of_ble_eq_true rfl) ⟨Nat.zero_le _, Nat.zero_le _⟩ dX5_ladder_20 rfl (fun r C1 pi1 H locs h5 hI => ?_)
  obtain ⟨hr9, h5⟩ := h5
  subst hr9
  rcases h5 with ⟨k4, nk4, hc9, hp9⟩ | ⟨k4, nk4, hc9, hp9⟩ | ⟨k4, hc9, hp9⟩
  · skip
    rw [hc9, hp9] at hI
    exact c_iret (v := alR (C 0) u) hx hb hr hI (⟨rfl, Or.inl ⟨k4, nk4, rfl, rfl⟩⟩) dX5_ladder_23 hlocks
  · skip
    rw [hc9, hp9] at hI
    exact c_iret (v := alR (C 0) u) hx hb hr hI (⟨rfl, Or.inr (Or.inl ⟨k4, nk4, rfl, rfl⟩)⟩) dX5_ladder_23 hlocks
  · skip
    rw [hc9, hp9] at hI
    exact c_iret (v := alR (C 0) u) hx hb hr hI (⟨rfl, Or.inr (Or.inr ⟨k4, rfl, rfl⟩)⟩) dX5_ladder_23 hlocks

set_option maxHeartbeats 4000000 in
set_option maxRecDepth 100000 in
theorem k_X5_screw (l : Launch) (dd : va_G) (g : Nat → ClassId) (ad pi : Nat → Nat) (A : Nat → Prop) (hA : cA A ad) (C : MS) (d : Nat) (hd6 : d ≤ 6) (hd : C 10 0 = nI d) (hpi : piOk pi) (hW0 : Wk (C 0)) (hgo0 : goOk (C 0)) (x v : Int32)  : Met l yX5_screw wsX5_screw ({ frames := 3, cells := 0, slots := 0, locals := 83 }) (cPre dd g ad pi A C [.ref (ad 0), .int x, .int v]) (cQi dd g ad A (fun r C1 pi1 => r = tsR (C 0) x v ∧ opC C pi d (tsF (C 0) x v) (tsR (C 0) x v) C1 pi1)) 0 0 A := by
  refine Met.ofW (cc := cX5_screw) (maxL := 3) (ret := (some .int)) (by decide) rfl ?_
  intro p e s m args below meth c s₁ B hml hv
  obtain ⟨rfl, hP0, hK, hX⟩ := hv
  have hx := B.exec
  have hb := B.bytes
  have hr := B.returns
  have hts := atoms_spec (ws := wsX5_screw) B.pre
  have hown : s.vm.findClass RX5 = some m.cls := findClass_of_methodNamed B.named
  have hlocks := B.notSynchronized
  have hinX5 : ∀ w ∈ wsX50, w ∈ wsX5_screw := by decide +kernel
  have hI : cI dd g ad pi A s.heap s.heap [] C := ⟨hP0, va_S.rf⟩
  have hl := lv_entry ([.ref (ad 0), .int x, .int v]) (n := 3) (Nat.le_of_ble_eq_true rfl)
  rw [lg_entry_eq]
  generalize (lg_sl ([.ref (ad 0), .int x, .int v]) ++ List.replicate (3 - (lg_sl ([.ref (ad 0), .int x, .int v])).length) Slot.unset).toArray = ls at hl ⊢
  have hl : lv_has ls 3 [(0, .ref (ad 0)), (1, .int x), (2, .int v)] := hl
  have hpd := hpi.1 d (by omega)
  have hc16 := hW0.2.1
  have hl4 := hW0.2.2.2
  refine lv_aload_n hx hb dX5_screw_0 rfl (lv_at hl 0 rfl) ?_
  refine c_get hx hb hts hown hK hI 0 (by omega) cE_0 rfl hinX5 1 (by decide) (hts (.fieldLink RX5 19 "WinderLadders" "history" "LWinderLadders$History;") (by decide +kernel)) (v := .ref (ad 1)) rfl dX5_screw_1 ?_
  refine lv_aload_n hx hb dX5_screw_4 rfl (lv_at hl 0 rfl) ?_
  refine c_get hx hb hts hown hK hI 0 (by omega) cE_0 rfl hinX5 0 (by decide) (hts (.fieldLink RX5 12 "WinderLadders" "now" "LWinderLadders$State;") (by decide +kernel)) (v := .ref (ad (11 + 20 * 0))) rfl dX5_screw_5 ?_
  refine c_callv (As := [.ref (ad (11 + 20 * 0))]) (rest := []) hx hb hml hown hts hK hX hI 1 (by omega) cE_1 rfl (k_X1_prepare l dd g ad pi A hA C d hd6 hd hpi hW0 hgo0) (cwV 1 hts gX5_screw_X1_prepare rfl rfl rfl (by decide +kernel) ⟨Nat.le_of_ble_eq_true rfl, Nat.le_of_ble_eq_true rfl⟩) rfl hl (Nat.le_of_ble_eq_true rfl) ⟨Nat.zero_le _, Nat.zero_le _⟩ dX5_screw_8 rfl (fun C1 pi1 H locs h1 hI => ?_)
  obtain ⟨hc9, hp9⟩ := h1
  rw [hc9, hp9] at hI
  refine lv_aload_n hx hb dX5_screw_11 rfl (lv_at hl 0 rfl) ?_
  refine lv_aload_n hx hb dX5_screw_12 rfl (lv_at hl 0 rfl) ?_
  refine c_get hx hb hts hown hK hI 0 (by omega) cE_0 rfl hinX5 0 (by decide) (hts (.fieldLink RX5 12 "WinderLadders" "now" "LWinderLadders$State;") (by decide +kernel)) (v := .ref (ad (11 + 20 * 0))) rfl dX5_screw_13 ?_
  refine lv_iload_n hx hb dX5_screw_16 rfl (lv_at hl 1 rfl) ?_
  refine lv_iload_n hx hb dX5_screw_17 rfl (lv_at hl 2 rfl) ?_
  refine c_calli (As := [.int x, .int v]) (rest := [.ref (ad 0)]) hx hb hml hown hts hK hX hI (11 + 20 * 0) (by omega) cE_st rfl (k_X4_turnScrew l dd g ad pi A hA (prM C pi d) 0 (by omega) x v (by rw [prM_ne (by omega)]; exact hW0)) (cwV 2 hts gX5_screw_X4_turnScrew rfl rfl rfl (by decide +kernel) ⟨Nat.le_of_ble_eq_true rfl, Nat.le_of_ble_eq_true rfl⟩) rfl hl (Nat.le_of_ble_eq_true rfl) ⟨Nat.zero_le _, Nat.zero_le _⟩ dX5_screw_18 rfl (fun r C1 pi1 H locs h3 hI => ?_)
  obtain ⟨hr9, hc9, hp9⟩ := h3
  rw [prM_ne (C := C) (pi := pi) (d := d) (a := 0) (by omega)] at hr9 hc9
  rw [hc9, hp9] at hI
  subst hr9
  refine c_calli (As := [.int (tsR (C 0) x v)]) (rest := []) hx hb hml hown hts hK hX hI 0 (by omega) cE_0 rfl (k_X5_keptIfDone l dd g ad pi A hA (mrow (prM C pi d) 0 (tsF (C 0) x v)) d hd6 (by rw [mrow_n _ (by decide), prM_ne (by omega)]; exact hd) hpi (tsR (C 0) x v)) (cwV 1 hts gX5_screw_X5_keptIfDone rfl rfl rfl (by decide +kernel) ⟨Nat.le_of_ble_eq_true rfl, Nat.le_of_ble_eq_true rfl⟩) rfl hl (Nat.le_of_ble_eq_true rfl) ⟨Nat.zero_le _, Nat.zero_le _⟩ dX5_screw_21 rfl (fun r C1 pi1 H locs h5 hI => ?_)
  obtain ⟨hr9, h5⟩ := h5
  subst hr9
  rcases h5 with ⟨k4, nk4, hc9, hp9⟩ | ⟨k4, nk4, hc9, hp9⟩ | ⟨k4, hc9, hp9⟩
  · skip
    rw [hc9, hp9] at hI
    exact c_iret (v := tsR (C 0) x v) hx hb hr hI (⟨rfl, Or.inl ⟨k4, nk4, rfl, rfl⟩⟩) dX5_screw_24 hlocks
  · skip
    rw [hc9, hp9] at hI
    exact c_iret (v := tsR (C 0) x v) hx hb hr hI (⟨rfl, Or.inr (Or.inl ⟨k4, nk4, rfl, rfl⟩)⟩) dX5_screw_24 hlocks
  · skip
    rw [hc9, hp9] at hI
    exact c_iret (v := tsR (C 0) x v) hx hb hr hI (⟨rfl, Or.inr (Or.inr ⟨k4, rfl, rfl⟩)⟩) dX5_screw_24 hlocks

set_option maxHeartbeats 4000000 in
set_option maxRecDepth 100000 in
theorem k_X5_pass (l : Launch) (dd : va_G) (g : Nat → ClassId) (ad pi : Nat → Nat) (A : Nat → Prop) (hA : cA A ad) (C : MS) (d : Nat) (hd6 : d ≤ 6) (hd : C 10 0 = nI d) (hpi : piOk pi) (hW0 : Wk (C 0)) (hgo0 : goOk (C 0)) (x : Int32)  : Met l yX5_pass wsX5_pass ({ frames := 3, cells := 0, slots := 0, locals := 83 }) (cPre dd g ad pi A C [.ref (ad 0), .int x]) (cQi dd g ad A (fun r C1 pi1 => r = psR (C 0) x ∧ opC C pi d (psF (C 0) x) (psR (C 0) x) C1 pi1)) 0 0 A := by
  refine Met.ofW (cc := cX5_pass) (maxL := 2) (ret := (some .int)) (by decide) rfl ?_
  intro p e s m args below meth c s₁ B hml hv
  obtain ⟨rfl, hP0, hK, hX⟩ := hv
  have hx := B.exec
  have hb := B.bytes
  have hr := B.returns
  have hts := atoms_spec (ws := wsX5_pass) B.pre
  have hown : s.vm.findClass RX5 = some m.cls := findClass_of_methodNamed B.named
  have hlocks := B.notSynchronized
  have hinX5 : ∀ w ∈ wsX50, w ∈ wsX5_pass := by decide +kernel
  have hI : cI dd g ad pi A s.heap s.heap [] C := ⟨hP0, va_S.rf⟩
  have hl := lv_entry ([.ref (ad 0), .int x]) (n := 2) (Nat.le_of_ble_eq_true rfl)
  rw [lg_entry_eq]
  generalize (lg_sl ([.ref (ad 0), .int x]) ++ List.replicate (2 - (lg_sl ([.ref (ad 0), .int x])).length) Slot.unset).toArray = ls at hl ⊢
  have hl : lv_has ls 2 [(0, .ref (ad 0)), (1, .int x)] := hl
  have hpd := hpi.1 d (by omega)
  have hc16 := hW0.2.1
  have hl4 := hW0.2.2.2
  refine lv_aload_n hx hb dX5_pass_0 rfl (lv_at hl 0 rfl) ?_
  refine c_get hx hb hts hown hK hI 0 (by omega) cE_0 rfl hinX5 1 (by decide) (hts (.fieldLink RX5 19 "WinderLadders" "history" "LWinderLadders$History;") (by decide +kernel)) (v := .ref (ad 1)) rfl dX5_pass_1 ?_
  refine lv_aload_n hx hb dX5_pass_4 rfl (lv_at hl 0 rfl) ?_
  refine c_get hx hb hts hown hK hI 0 (by omega) cE_0 rfl hinX5 0 (by decide) (hts (.fieldLink RX5 12 "WinderLadders" "now" "LWinderLadders$State;") (by decide +kernel)) (v := .ref (ad (11 + 20 * 0))) rfl dX5_pass_5 ?_
  refine c_callv (As := [.ref (ad (11 + 20 * 0))]) (rest := []) hx hb hml hown hts hK hX hI 1 (by omega) cE_1 rfl (k_X1_prepare l dd g ad pi A hA C d hd6 hd hpi hW0 hgo0) (cwV 1 hts gX5_pass_X1_prepare rfl rfl rfl (by decide +kernel) ⟨Nat.le_of_ble_eq_true rfl, Nat.le_of_ble_eq_true rfl⟩) rfl hl (Nat.le_of_ble_eq_true rfl) ⟨Nat.zero_le _, Nat.zero_le _⟩ dX5_pass_8 rfl (fun C1 pi1 H locs h1 hI => ?_)
  obtain ⟨hc9, hp9⟩ := h1
  rw [hc9, hp9] at hI
  refine lv_aload_n hx hb dX5_pass_11 rfl (lv_at hl 0 rfl) ?_
  refine lv_aload_n hx hb dX5_pass_12 rfl (lv_at hl 0 rfl) ?_
  refine c_get hx hb hts hown hK hI 0 (by omega) cE_0 rfl hinX5 0 (by decide) (hts (.fieldLink RX5 12 "WinderLadders" "now" "LWinderLadders$State;") (by decide +kernel)) (v := .ref (ad (11 + 20 * 0))) rfl dX5_pass_13 ?_
  refine lv_iload_n hx hb dX5_pass_16 rfl (lv_at hl 1 rfl) ?_
  refine c_calli (As := [.int x]) (rest := [.ref (ad 0)]) hx hb hml hown hts hK hX hI (11 + 20 * 0) (by omega) cE_st rfl (k_X4_passDays l dd g ad pi A hA (prM C pi d) 0 (by omega) x (by rw [prM_ne (by omega)]; exact hW0)) (cwV 1 hts gX5_pass_X4_passDays rfl rfl rfl (by decide +kernel) ⟨Nat.le_of_ble_eq_true rfl, Nat.le_of_ble_eq_true rfl⟩) rfl hl (Nat.le_of_ble_eq_true rfl) ⟨Nat.zero_le _, Nat.zero_le _⟩ dX5_pass_17 rfl (fun r C1 pi1 H locs h3 hI => ?_)
  obtain ⟨hr9, hc9, hp9⟩ := h3
  rw [prM_ne (C := C) (pi := pi) (d := d) (a := 0) (by omega)] at hr9 hc9
  rw [hc9, hp9] at hI
  subst hr9
  refine c_calli (As := [.int (psR (C 0) x)]) (rest := []) hx hb hml hown hts hK hX hI 0 (by omega) cE_0 rfl (k_X5_keptIfDone l dd g ad pi A hA (mrow (prM C pi d) 0 (psF (C 0) x)) d hd6 (by rw [mrow_n _ (by decide), prM_ne (by omega)]; exact hd) hpi (psR (C 0) x)) (cwV 1 hts gX5_pass_X5_keptIfDone rfl rfl rfl (by decide +kernel) ⟨Nat.le_of_ble_eq_true rfl, Nat.le_of_ble_eq_true rfl⟩) rfl hl (Nat.le_of_ble_eq_true rfl) ⟨Nat.zero_le _, Nat.zero_le _⟩ dX5_pass_20 rfl (fun r C1 pi1 H locs h5 hI => ?_)
  obtain ⟨hr9, h5⟩ := h5
  subst hr9
  rcases h5 with ⟨k4, nk4, hc9, hp9⟩ | ⟨k4, nk4, hc9, hp9⟩ | ⟨k4, hc9, hp9⟩
  · skip
    rw [hc9, hp9] at hI
    exact c_iret (v := psR (C 0) x) hx hb hr hI (⟨rfl, Or.inl ⟨k4, nk4, rfl, rfl⟩⟩) dX5_pass_23 hlocks
  · skip
    rw [hc9, hp9] at hI
    exact c_iret (v := psR (C 0) x) hx hb hr hI (⟨rfl, Or.inr (Or.inl ⟨k4, nk4, rfl, rfl⟩)⟩) dX5_pass_23 hlocks
  · skip
    rw [hc9, hp9] at hI
    exact c_iret (v := psR (C 0) x) hx hb hr hI (⟨rfl, Or.inr (Or.inr ⟨k4, rfl, rfl⟩)⟩) dX5_pass_23 hlocks

set_option maxHeartbeats 4000000 in
set_option maxRecDepth 100000 in
theorem k_X5_change (l : Launch) (dd : va_G) (g : Nat → ClassId) (ad pi : Nat → Nat) (A : Nat → Prop) (hA : cA A ad) (C : MS) (d : Nat) (hd6 : d ≤ 6) (hd : C 10 0 = nI d) (hpi : piOk pi) (hW0 : Wk (C 0)) (hgo0 : goOk (C 0)) (x : Int32)  : Met l yX5_change wsX5_change ({ frames := 3, cells := 0, slots := 0, locals := 83 }) (cPre dd g ad pi A C [.ref (ad 0), .int x]) (cQi dd g ad A (fun r C1 pi1 => r = ccR (C 0) x ∧ opC C pi d (ccF (C 0) x) (ccR (C 0) x) C1 pi1)) 0 0 A := by
  refine Met.ofW (cc := cX5_change) (maxL := 2) (ret := (some .int)) (by decide) rfl ?_
  intro p e s m args below meth c s₁ B hml hv
  obtain ⟨rfl, hP0, hK, hX⟩ := hv
  have hx := B.exec
  have hb := B.bytes
  have hr := B.returns
  have hts := atoms_spec (ws := wsX5_change) B.pre
  have hown : s.vm.findClass RX5 = some m.cls := findClass_of_methodNamed B.named
  have hlocks := B.notSynchronized
  have hinX5 : ∀ w ∈ wsX50, w ∈ wsX5_change := by decide +kernel
  have hI : cI dd g ad pi A s.heap s.heap [] C := ⟨hP0, va_S.rf⟩
  have hl := lv_entry ([.ref (ad 0), .int x]) (n := 2) (Nat.le_of_ble_eq_true rfl)
  rw [lg_entry_eq]
  generalize (lg_sl ([.ref (ad 0), .int x]) ++ List.replicate (2 - (lg_sl ([.ref (ad 0), .int x])).length) Slot.unset).toArray = ls at hl ⊢
  have hl : lv_has ls 2 [(0, .ref (ad 0)), (1, .int x)] := hl
  have hpd := hpi.1 d (by omega)
  have hc16 := hW0.2.1
  have hl4 := hW0.2.2.2
  refine lv_aload_n hx hb dX5_change_0 rfl (lv_at hl 0 rfl) ?_
  refine c_get hx hb hts hown hK hI 0 (by omega) cE_0 rfl hinX5 1 (by decide) (hts (.fieldLink RX5 19 "WinderLadders" "history" "LWinderLadders$History;") (by decide +kernel)) (v := .ref (ad 1)) rfl dX5_change_1 ?_
  refine lv_aload_n hx hb dX5_change_4 rfl (lv_at hl 0 rfl) ?_
  refine c_get hx hb hts hown hK hI 0 (by omega) cE_0 rfl hinX5 0 (by decide) (hts (.fieldLink RX5 12 "WinderLadders" "now" "LWinderLadders$State;") (by decide +kernel)) (v := .ref (ad (11 + 20 * 0))) rfl dX5_change_5 ?_
  refine c_callv (As := [.ref (ad (11 + 20 * 0))]) (rest := []) hx hb hml hown hts hK hX hI 1 (by omega) cE_1 rfl (k_X1_prepare l dd g ad pi A hA C d hd6 hd hpi hW0 hgo0) (cwV 1 hts gX5_change_X1_prepare rfl rfl rfl (by decide +kernel) ⟨Nat.le_of_ble_eq_true rfl, Nat.le_of_ble_eq_true rfl⟩) rfl hl (Nat.le_of_ble_eq_true rfl) ⟨Nat.zero_le _, Nat.zero_le _⟩ dX5_change_8 rfl (fun C1 pi1 H locs h1 hI => ?_)
  obtain ⟨hc9, hp9⟩ := h1
  rw [hc9, hp9] at hI
  refine lv_aload_n hx hb dX5_change_11 rfl (lv_at hl 0 rfl) ?_
  refine lv_aload_n hx hb dX5_change_12 rfl (lv_at hl 0 rfl) ?_
  refine c_get hx hb hts hown hK hI 0 (by omega) cE_0 rfl hinX5 0 (by decide) (hts (.fieldLink RX5 12 "WinderLadders" "now" "LWinderLadders$State;") (by decide +kernel)) (v := .ref (ad (11 + 20 * 0))) rfl dX5_change_13 ?_
  refine lv_iload_n hx hb dX5_change_16 rfl (lv_at hl 1 rfl) ?_
  refine c_calli (As := [.int x]) (rest := [.ref (ad 0)]) hx hb hml hown hts hK hX hI (11 + 20 * 0) (by omega) cE_st rfl (k_X4_changeClocks l dd g ad pi A hA (prM C pi d) 0 (by omega) x (by rw [prM_ne (by omega)]; exact hW0)) (cwV 1 hts gX5_change_X4_changeClocks rfl rfl rfl (by decide +kernel) ⟨Nat.le_of_ble_eq_true rfl, Nat.le_of_ble_eq_true rfl⟩) rfl hl (Nat.le_of_ble_eq_true rfl) ⟨Nat.zero_le _, Nat.zero_le _⟩ dX5_change_17 rfl (fun r C1 pi1 H locs h3 hI => ?_)
  obtain ⟨hr9, hc9, hp9⟩ := h3
  rw [prM_ne (C := C) (pi := pi) (d := d) (a := 0) (by omega)] at hr9 hc9
  rw [hc9, hp9] at hI
  subst hr9
  refine c_calli (As := [.int (ccR (C 0) x)]) (rest := []) hx hb hml hown hts hK hX hI 0 (by omega) cE_0 rfl (k_X5_keptIfDone l dd g ad pi A hA (mrow (prM C pi d) 0 (ccF (C 0) x)) d hd6 (by rw [mrow_n _ (by decide), prM_ne (by omega)]; exact hd) hpi (ccR (C 0) x)) (cwV 1 hts gX5_change_X5_keptIfDone rfl rfl rfl (by decide +kernel) ⟨Nat.le_of_ble_eq_true rfl, Nat.le_of_ble_eq_true rfl⟩) rfl hl (Nat.le_of_ble_eq_true rfl) ⟨Nat.zero_le _, Nat.zero_le _⟩ dX5_change_20 rfl (fun r C1 pi1 H locs h5 hI => ?_)
  obtain ⟨hr9, h5⟩ := h5
  subst hr9
  rcases h5 with ⟨k4, nk4, hc9, hp9⟩ | ⟨k4, nk4, hc9, hp9⟩ | ⟨k4, hc9, hp9⟩
  · skip
    rw [hc9, hp9] at hI
    exact c_iret (v := ccR (C 0) x) hx hb hr hI (⟨rfl, Or.inl ⟨k4, nk4, rfl, rfl⟩⟩) dX5_change_23 hlocks
  · skip
    rw [hc9, hp9] at hI
    exact c_iret (v := ccR (C 0) x) hx hb hr hI (⟨rfl, Or.inr (Or.inl ⟨k4, nk4, rfl, rfl⟩)⟩) dX5_change_23 hlocks
  · skip
    rw [hc9, hp9] at hI
    exact c_iret (v := ccR (C 0) x) hx hb hr hI (⟨rfl, Or.inr (Or.inr ⟨k4, rfl, rfl⟩)⟩) dX5_change_23 hlocks

set_option maxHeartbeats 4000000 in
set_option maxRecDepth 100000 in
theorem k_X5_of (l : Launch) (dd : va_G) (g : Nat → ClassId) (ad pi : Nat → Nat) (A : Nat → Prop) (hA : cA A ad) (C : MS) (hW0 : Wk (C 0)) (hgo0 : goOk (C 0)) (hLd0 : Lad (C 0)) (x w : Int32)  : Met l yX5_of wsX5_of ({ frames := 2, cells := 0, slots := 0, locals := 45 }) (cPre dd g ad pi A C [.ref (ad 0), .int x, .int w]) (cQi dd g ad A (fun r C1 pi1 => r = ofR (C 0) x w ∧ C1 = C ∧ pi1 = pi)) 0 0 A := by
  refine Met.ofW (cc := cX5_of) (maxL := 4) (ret := (some .int)) (by decide) rfl ?_
  intro p e s m args below meth c s₁ B hml hv
  obtain ⟨rfl, hP0, hK, hX⟩ := hv
  have hx := B.exec
  have hb := B.bytes
  have hr := B.returns
  have hts := atoms_spec (ws := wsX5_of) B.pre
  have hown : s.vm.findClass RX5 = some m.cls := findClass_of_methodNamed B.named
  have hlocks := B.notSynchronized
  have hinX0 : ∀ w ∈ wsX00, w ∈ wsX5_of := by decide +kernel
  have hinX4 : ∀ w ∈ wsX40, w ∈ wsX5_of := by decide +kernel
  have hinX5 : ∀ w ∈ wsX50, w ∈ wsX5_of := by decide +kernel
  have hI : cI dd g ad pi A s.heap s.heap [] C := ⟨hP0, va_S.rf⟩
  have hl := lv_entry ([.ref (ad 0), .int x, .int w]) (n := 4) (Nat.le_of_ble_eq_true rfl)
  rw [lg_entry_eq]
  generalize (lg_sl ([.ref (ad 0), .int x, .int w]) ++ List.replicate (4 - (lg_sl ([.ref (ad 0), .int x, .int w])).length) Slot.unset).toArray = ls at hl ⊢
  have hl : lv_has ls 4 [(0, .ref (ad 0)), (1, .int x), (2, .int w)] := hl
  have hc16 := hW0.2.1
  have hl4 := hW0.2.2.2
  refine lv_aload_n hx hb dX5_of_0 rfl (lv_at hl 0 rfl) ?_
  refine c_get hx hb hts hown hK hI 0 (by omega) cE_0 rfl hinX5 0 (by decide) (hts (.fieldLink RX5 12 "WinderLadders" "now" "LWinderLadders$State;") (by decide +kernel)) (v := .ref (ad (11 + 20 * 0))) rfl dX5_of_1 ?_
  refine lv_iload_n hx hb dX5_of_4 rfl (lv_at hl 1 rfl) ?_
  refine c_calli (As := [.int x]) (rest := []) hx hb hml hown hts hK hX hI (11 + 20 * 0) (by omega) cE_st rfl (k_X4_hasClock l dd g ad pi A hA C 0 (by omega) x hW0) (cwV 1 hts gX5_of_X4_hasClock rfl rfl rfl (by decide +kernel) ⟨Nat.le_of_ble_eq_true rfl, Nat.le_of_ble_eq_true rfl⟩) rfl hl (Nat.le_of_ble_eq_true rfl) ⟨Nat.zero_le _, Nat.zero_le _⟩ dX5_of_5 rfl (fun r C1 pi1 H locs h2 hI => ?_)
  obtain ⟨h2, hc9, hp9⟩ := h2
  rw [hc9, hp9] at hI
  rcases h2 with ⟨⟨i1, hi_i1, e_i1⟩, rfl⟩ | ⟨b_i1, rfl⟩
  · skip
    have b_i1 : isCb (C 0) x = true := isCb_t hW0 ⟨hi_i1, e_i1⟩
    have x_i1 : ix x = i1 := by rw [e_i1]; exact ix_nI (by omega)
    subst e_i1
    refine lv_if_ne (tgt := 13) hx hb dX5_of_8 (by decide) (fun _ => ?_) (fun c3 => absurd c3 (by decide))
    refine lv_aload_n hx hb dX5_of_13 rfl (lv_at hl 0 rfl) ?_
    refine c_get hx hb hts hown hK hI 0 (by omega) cE_0 rfl hinX5 0 (by decide) (hts (.fieldLink RX5 12 "WinderLadders" "now" "LWinderLadders$State;") (by decide +kernel)) (v := .ref (ad (11 + 20 * 0))) rfl dX5_of_14 ?_
    refine c_get hx hb hts hown hK hI (11 + 20 * 0) (by omega) cE_st rfl hinX4 1 (by decide) (hts (.fieldLink RX5 88 "WinderLadders$State" "clocks" "[LWinderLadders$Clock;") (by decide +kernel)) (v := .ref (ad (13 + 20 * 0))) rfl dX5_of_17 ?_
    refine lv_iload_n hx hb dX5_of_20 rfl (lv_at hl 1 rfl) ?_
    refine c_aldC hx hb hK hI 0 (by omega) (i1) (by omega) rfl dX5_of_21 ?_
    refine lv_astore_n (lv' := [(3, .ref (ad (15 + 20 * 0 + i1))), (0, .ref (ad 0)), (1, .int (nI i1)), (2, .int w)]) hx hb dX5_of_22 rfl hl (by decide) rfl (fun ls hl => ?_)
    refine lv_iload_n hx hb dX5_of_23 rfl (lv_at hl 3 rfl) ?_
    by_cases c4_0 : w = 0
    · subst c4_0
      refine lv_tableIn (tgt := 84) (off := 60) hx hb dX5_of_24 (by decide) (by decide) (by decide +kernel) (by decide) ?_
      refine lv_aload_n hx hb dX5_of_84 rfl (lv_at hl 0 rfl) ?_
      refine c_get hx hb hts hown hK hI (15 + 20 * 0 + i1) (by omega) (cE_cl (by omega)) rfl hinX0 0 (by decide) (hts (.fieldLink RX5 92 "WinderLadders$Clock" "house" "I") (by decide +kernel)) (v := .int (C 0 (12 + 8 * i1 + 0))) rfl dX5_of_85 ?_
      exact c_iret (v := C 0 (12 + 8 * i1 + 0)) hx hb hr hI (⟨by first | (simp only [ofR, x_i1, if_pos b_i1]; done) | (simp [ofR, x_i1, b_i1]; done) | (have hg9 := hgo0 i1 (by omega); simp only [ofR, x_i1, if_pos b_i1]; simp; first | (rcases hg9 with hg9 | hg9 <;> simp_all; done) | simp_all), rfl, rfl⟩) dX5_of_88 hlocks
    by_cases c4_1 : w = 1
    · subst c4_1
      refine lv_tableIn (tgt := 89) (off := 65) hx hb dX5_of_24 (by decide) (by decide) (by decide +kernel) (by decide) ?_
      refine lv_aload_n hx hb dX5_of_89 rfl (lv_at hl 0 rfl) ?_
      refine c_get hx hb hts hown hK hI (15 + 20 * 0 + i1) (by omega) (cE_cl (by omega)) rfl hinX0 1 (by decide) (hts (.fieldLink RX5 98 "WinderLadders$Clock" "rungs" "I") (by decide +kernel)) (v := .int (C 0 (12 + 8 * i1 + 1))) rfl dX5_of_90 ?_
      exact c_iret (v := C 0 (12 + 8 * i1 + 1)) hx hb hr hI (⟨by first | (simp only [ofR, x_i1, if_pos b_i1, if_neg c4_0]; done) | (simp [ofR, x_i1, b_i1, c4_0]; done) | (have hg9 := hgo0 i1 (by omega); simp only [ofR, x_i1, if_pos b_i1, if_neg c4_0]; simp; first | (rcases hg9 with hg9 | hg9 <;> simp_all; done) | simp_all), rfl, rfl⟩) dX5_of_93 hlocks
    by_cases c4_2 : w = 2
    · subst c4_2
      refine lv_tableIn (tgt := 94) (off := 70) hx hb dX5_of_24 (by decide) (by decide) (by decide +kernel) (by decide) ?_
      refine lv_aload_n hx hb dX5_of_94 rfl (lv_at hl 0 rfl) ?_
      refine c_get hx hb hts hown hK hI (15 + 20 * 0 + i1) (by omega) (cE_cl (by omega)) rfl hinX0 2 (by decide) (hts (.fieldLink RX5 101 "WinderLadders$Clock" "drift" "I") (by decide +kernel)) (v := .int (C 0 (12 + 8 * i1 + 2))) rfl dX5_of_95 ?_
      refine lv_bipush (v := 100) hx hb dX5_of_98 (by decide) ?_
      refine lv_iadd hx hb dX5_of_100 ?_
      exact c_iret (v := (C 0 (12 + 8 * i1 + 2)) + 100) hx hb hr hI (⟨by first | (simp only [ofR, x_i1, if_pos b_i1, if_neg c4_0, if_neg c4_1]; done) | (simp [ofR, x_i1, b_i1, c4_0, c4_1]; done) | (have hg9 := hgo0 i1 (by omega); simp only [ofR, x_i1, if_pos b_i1, if_neg c4_0, if_neg c4_1]; simp; first | (rcases hg9 with hg9 | hg9 <;> simp_all; done) | simp_all), rfl, rfl⟩) dX5_of_101 hlocks
    by_cases c4_3 : w = 3
    · subst c4_3
      refine lv_tableIn (tgt := 102) (off := 78) hx hb dX5_of_24 (by decide) (by decide) (by decide +kernel) (by decide) ?_
      refine lv_aload_n hx hb dX5_of_102 rfl (lv_at hl 0 rfl) ?_
      refine c_get hx hb hts hown hK hI (15 + 20 * 0 + i1) (by omega) (cE_cl (by omega)) rfl hinX0 3 (by decide) (hts (.fieldLink RX5 104 "WinderLadders$Clock" "screw" "I") (by decide +kernel)) (v := .int (C 0 (12 + 8 * i1 + 3))) rfl dX5_of_103 ?_
      refine lv_bipush (v := 20) hx hb dX5_of_106 (by decide) ?_
      refine lv_iadd hx hb dX5_of_108 ?_
      exact c_iret (v := (C 0 (12 + 8 * i1 + 3)) + 20) hx hb hr hI (⟨by first | (simp only [ofR, x_i1, if_pos b_i1, if_neg c4_0, if_neg c4_1, if_neg c4_2]; done) | (simp [ofR, x_i1, b_i1, c4_0, c4_1, c4_2]; done) | (have hg9 := hgo0 i1 (by omega); simp only [ofR, x_i1, if_pos b_i1, if_neg c4_0, if_neg c4_1, if_neg c4_2]; simp; first | (rcases hg9 with hg9 | hg9 <;> simp_all; done) | simp_all), rfl, rfl⟩) dX5_of_109 hlocks
    by_cases c4_4 : w = 4
    · subst c4_4
      refine lv_tableIn (tgt := 110) (off := 86) hx hb dX5_of_24 (by decide) (by decide) (by decide +kernel) (by decide) ?_
      refine lv_aload_n hx hb dX5_of_110 rfl (lv_at hl 0 rfl) ?_
      refine c_get hx hb hts hown hK hI (15 + 20 * 0 + i1) (by omega) (cE_cl (by omega)) rfl hinX0 4 (by decide) (hts (.fieldLink RX5 107 "WinderLadders$Clock" "off" "I") (by decide +kernel)) (v := .int (C 0 (12 + 8 * i1 + 4))) rfl dX5_of_111 ?_
      refine lv_ldc hx hb hown (hts (.constant RX5 110 (1000000000)) (by decide +kernel)) dX5_of_114 ?_
      refine lv_iadd hx hb dX5_of_116 ?_
      exact c_iret (v := (C 0 (12 + 8 * i1 + 4)) + 1000000000) hx hb hr hI (⟨by first | (simp only [ofR, x_i1, if_pos b_i1, if_neg c4_0, if_neg c4_1, if_neg c4_2, if_neg c4_3]; done) | (simp [ofR, x_i1, b_i1, c4_0, c4_1, c4_2, c4_3]; done) | (have hg9 := hgo0 i1 (by omega); simp only [ofR, x_i1, if_pos b_i1, if_neg c4_0, if_neg c4_1, if_neg c4_2, if_neg c4_3]; simp; first | (rcases hg9 with hg9 | hg9 <;> simp_all; done) | simp_all), rfl, rfl⟩) dX5_of_117 hlocks
    by_cases c4_5 : w = 5
    · subst c4_5
      refine lv_tableIn (tgt := 118) (off := 94) hx hb dX5_of_24 (by decide) (by decide) (by decide +kernel) (by decide) ?_
      refine lv_aload_n hx hb dX5_of_118 rfl (lv_at hl 0 rfl) ?_
      refine c_get hx hb hts hown hK hI (15 + 20 * 0 + i1) (by omega) (cE_cl (by omega)) rfl hinX0 5 (by decide) (hts (.fieldLink RX5 111 "WinderLadders$Clock" "daysSinceWound" "I") (by decide +kernel)) (v := .int (C 0 (12 + 8 * i1 + 5))) rfl dX5_of_119 ?_
      exact c_iret (v := C 0 (12 + 8 * i1 + 5)) hx hb hr hI (⟨by first | (simp only [ofR, x_i1, if_pos b_i1, if_neg c4_0, if_neg c4_1, if_neg c4_2, if_neg c4_3, if_neg c4_4]; done) | (simp [ofR, x_i1, b_i1, c4_0, c4_1, c4_2, c4_3, c4_4]; done) | (have hg9 := hgo0 i1 (by omega); simp only [ofR, x_i1, if_pos b_i1, if_neg c4_0, if_neg c4_1, if_neg c4_2, if_neg c4_3, if_neg c4_4]; simp; first | (rcases hg9 with hg9 | hg9 <;> simp_all; done) | simp_all), rfl, rfl⟩) dX5_of_122 hlocks
    by_cases c4_6 : w = 6
    · subst c4_6
      refine lv_tableIn (tgt := 123) (off := 99) hx hb dX5_of_24 (by decide) (by decide) (by decide +kernel) (by decide) ?_
      refine lv_aload_n hx hb dX5_of_123 rfl (lv_at hl 0 rfl) ?_
      refine c_get hx hb hts hown hK hI (15 + 20 * 0 + i1) (by omega) (cE_cl (by omega)) rfl hinX0 7 (by decide) (hts (.fieldLink RX5 114 "WinderLadders$Clock" "goes" "Z") (by decide +kernel)) (v := .int (C 0 (12 + 8 * i1 + 6))) rfl dX5_of_124 ?_
      refine lv_if_eq (tgt := 134) hx hb dX5_of_127 (by decide) (fun c5 => ?_) (fun c5 => ?_)
      · skip
        refine lv_iconst (v := 0) hx hb dX5_of_134 (by decide) ?_
        exact c_iret (v := 0) hx hb hr hI (⟨by first | (simp only [ofR, x_i1, if_pos b_i1, if_neg c4_0, if_neg c4_1, if_neg c4_2, if_neg c4_3, if_neg c4_4, if_neg c4_5, if_pos c5]; done) | (simp [ofR, x_i1, b_i1, c4_0, c4_1, c4_2, c4_3, c4_4, c4_5, c5]; done) | (have hg9 := hgo0 i1 (by omega); simp only [ofR, x_i1, if_pos b_i1, if_neg c4_0, if_neg c4_1, if_neg c4_2, if_neg c4_3, if_neg c4_4, if_neg c4_5, if_pos c5]; simp; first | (rcases hg9 with hg9 | hg9 <;> simp_all; done) | simp_all), rfl, rfl⟩) dX5_of_135 hlocks
      · skip
        refine lv_iconst (v := 1) hx hb dX5_of_130 (by decide) ?_
        refine lv_goto (tgt := 135) hx hb dX5_of_131 (by decide) ?_
        exact c_iret (v := 1) hx hb hr hI (⟨by first | (simp only [ofR, x_i1, if_pos b_i1, if_neg c4_0, if_neg c4_1, if_neg c4_2, if_neg c4_3, if_neg c4_4, if_neg c4_5, if_neg c5]; done) | (simp [ofR, x_i1, b_i1, c4_0, c4_1, c4_2, c4_3, c4_4, c4_5, c5]; done) | (have hg9 := hgo0 i1 (by omega); simp only [ofR, x_i1, if_pos b_i1, if_neg c4_0, if_neg c4_1, if_neg c4_2, if_neg c4_3, if_neg c4_4, if_neg c4_5, if_neg c5]; simp; first | (rcases hg9 with hg9 | hg9 <;> simp_all; done) | simp_all), rfl, rfl⟩) dX5_of_135 hlocks
    by_cases c4_7 : w = 7
    · subst c4_7
      refine lv_tableIn (tgt := 136) (off := 112) hx hb dX5_of_24 (by decide) (by decide) (by decide +kernel) (by decide) ?_
      refine lv_aload_n hx hb dX5_of_136 rfl (lv_at hl 0 rfl) ?_
      refine lv_aload_n hx hb dX5_of_137 rfl (lv_at hl 1 rfl) ?_
      refine c_get hx hb hts hown hK hI 0 (by omega) cE_0 rfl hinX5 0 (by decide) (hts (.fieldLink RX5 12 "WinderLadders" "now" "LWinderLadders$State;") (by decide +kernel)) (v := .ref (ad (11 + 20 * 0))) rfl dX5_of_138 ?_
      refine c_get hx hb hts hown hK hI (11 + 20 * 0) (by omega) cE_st rfl hinX4 0 (by decide) (hts (.fieldLink RX5 118 "WinderLadders$State" "settings" "[I") (by decide +kernel)) (v := .ref (ad (12 + 20 * 0))) rfl dX5_of_141 ?_
      refine lv_iconst (v := 0) hx hb dX5_of_144 (by decide) ?_
      refine c_ald hx hb hK hI (12 + 20 * 0) (by omega) cE_se (by decide) (0) (by omega) rfl (v := C 0 0) ((if_pos (show (0) < 4 by omega)).trans rfl) dX5_of_145 ?_
      refine c_calli (As := [.int (C 0 0)]) (rest := []) hx hb hml hown hts hK hX hI (15 + 20 * 0 + i1) (by omega) (cE_cl (by omega)) rfl (k_X0_isOffBeyond l dd g ad pi A hA C 0 i1 (by omega) (by omega) (C 0 0)) (cwV 1 hts gX5_of_X0_isOffBeyond rfl rfl rfl (by decide +kernel) ⟨Nat.le_of_ble_eq_true rfl, Nat.le_of_ble_eq_true rfl⟩) rfl hl (Nat.le_of_ble_eq_true rfl) ⟨Nat.zero_le _, Nat.zero_le _⟩ dX5_of_146 rfl (fun r C1 pi1 H locs h7 hI => ?_)
      obtain ⟨h7, hc9, hp9⟩ := h7
      rw [hc9, hp9] at hI
      rcases h7 with ⟨b6, rfl⟩ | ⟨b6, rfl⟩
      · skip
        have b6 : offB (C 0) i1 (C 0 0) = true := b6
        refine lv_if_eq (tgt := 156) hx hb dX5_of_149 (by decide) (fun c8 => absurd c8 (by decide)) (fun _ => ?_)
        refine lv_iconst (v := 0) hx hb dX5_of_152 (by decide) ?_
        refine lv_goto (tgt := 157) hx hb dX5_of_153 (by decide) ?_
        exact c_iret (v := 0) hx hb hr hI (⟨by first | (simp only [ofR, x_i1, if_pos b_i1, if_neg c4_0, if_neg c4_1, if_neg c4_2, if_neg c4_3, if_neg c4_4, if_neg c4_5, if_neg c4_6, if_pos b6]; done) | (simp [ofR, x_i1, b_i1, c4_0, c4_1, c4_2, c4_3, c4_4, c4_5, c4_6, b6]; done) | (have hg9 := hgo0 i1 (by omega); simp only [ofR, x_i1, if_pos b_i1, if_neg c4_0, if_neg c4_1, if_neg c4_2, if_neg c4_3, if_neg c4_4, if_neg c4_5, if_neg c4_6, if_pos b6]; simp; first | (rcases hg9 with hg9 | hg9 <;> simp_all; done) | simp_all), rfl, rfl⟩) dX5_of_157 hlocks
      · skip
        have b6 : offB (C 0) i1 (C 0 0) = false := b6
        refine lv_if_eq (tgt := 156) hx hb dX5_of_149 (by decide) (fun _ => ?_) (fun c9 => absurd (by decide) c9)
        refine lv_iconst (v := 1) hx hb dX5_of_156 (by decide) ?_
        exact c_iret (v := 1) hx hb hr hI (⟨by first | (simp only [ofR, x_i1, if_pos b_i1, if_neg c4_0, if_neg c4_1, if_neg c4_2, if_neg c4_3, if_neg c4_4, if_neg c4_5, if_neg c4_6, if_neg (Bool.eq_false_iff.mp b6)]; done) | (simp [ofR, x_i1, b_i1, c4_0, c4_1, c4_2, c4_3, c4_4, c4_5, c4_6, b6]; done) | (have hg9 := hgo0 i1 (by omega); simp only [ofR, x_i1, if_pos b_i1, if_neg c4_0, if_neg c4_1, if_neg c4_2, if_neg c4_3, if_neg c4_4, if_neg c4_5, if_neg c4_6, if_neg (Bool.eq_false_iff.mp b6)]; simp; first | (rcases hg9 with hg9 | hg9 <;> simp_all; done) | simp_all), rfl, rfl⟩) dX5_of_157 hlocks
    by_cases c4_8 : w = 8
    · subst c4_8
      refine lv_tableIn (tgt := 158) (off := 134) hx hb dX5_of_24 (by decide) (by decide) (by decide +kernel) (by decide) ?_
      refine lv_aload_n hx hb dX5_of_158 rfl (lv_at hl 1 rfl) ?_
      refine c_get hx hb hts hown hK hI 0 (by omega) cE_0 rfl hinX5 0 (by decide) (hts (.fieldLink RX5 12 "WinderLadders" "now" "LWinderLadders$State;") (by decide +kernel)) (v := .ref (ad (11 + 20 * 0))) rfl dX5_of_159 ?_
      refine lv_aload_n hx hb dX5_of_162 rfl (lv_at hl 0 rfl) ?_
      refine c_calli (As := [.ref (ad (15 + 20 * 0 + i1))]) (rest := []) hx hb hml hown hts hK hX hI (11 + 20 * 0) (by omega) cE_st rfl (k_X4_ladderNeeded l dd g ad pi A hA C 0 (by omega) i1 (by omega) hW0 hLd0) (cwV 1 hts gX5_of_X4_ladderNeeded rfl rfl rfl (by decide +kernel) ⟨Nat.le_of_ble_eq_true rfl, Nat.le_of_ble_eq_true rfl⟩) rfl hl (Nat.le_of_ble_eq_true rfl) ⟨Nat.zero_le _, Nat.zero_le _⟩ dX5_of_163 rfl (fun r C1 pi1 H locs h10 hI => ?_)
      obtain ⟨hr9, hc9, hp9⟩ := h10
      rw [hc9, hp9] at hI
      subst hr9
      exact c_iret (v := o2i (ladF (C 0) i1)) hx hb hr hI (⟨by first | (simp only [ofR, x_i1, if_pos b_i1, if_neg c4_0, if_neg c4_1, if_neg c4_2, if_neg c4_3, if_neg c4_4, if_neg c4_5, if_neg c4_6, if_neg c4_7]; done) | (simp [ofR, x_i1, b_i1, c4_0, c4_1, c4_2, c4_3, c4_4, c4_5, c4_6, c4_7]; done) | (have hg9 := hgo0 i1 (by omega); simp only [ofR, x_i1, if_pos b_i1, if_neg c4_0, if_neg c4_1, if_neg c4_2, if_neg c4_3, if_neg c4_4, if_neg c4_5, if_neg c4_6, if_neg c4_7]; simp; first | (rcases hg9 with hg9 | hg9 <;> simp_all; done) | simp_all), rfl, rfl⟩) dX5_of_166 hlocks
    by_cases c4_9 : w = 9
    · subst c4_9
      refine lv_tableIn (tgt := 167) (off := 143) hx hb dX5_of_24 (by decide) (by decide) (by decide +kernel) (by decide) ?_
      refine lv_aload_n hx hb dX5_of_167 rfl (lv_at hl 1 rfl) ?_
      refine c_get hx hb hts hown hK hI 0 (by omega) cE_0 rfl hinX5 0 (by decide) (hts (.fieldLink RX5 12 "WinderLadders" "now" "LWinderLadders$State;") (by decide +kernel)) (v := .ref (ad (11 + 20 * 0))) rfl dX5_of_168 ?_
      refine lv_aload_n hx hb dX5_of_171 rfl (lv_at hl 0 rfl) ?_
      refine c_calli (As := [.ref (ad (15 + 20 * 0 + i1))]) (rest := []) hx hb hml hown hts hK hX hI (11 + 20 * 0) (by omega) cE_st rfl (k_X4_canBeWound l dd g ad pi A hA C 0 (by omega) i1 (by omega) hW0 hLd0) (cwV 1 hts gX5_of_X4_canBeWound rfl rfl rfl (by decide +kernel) ⟨Nat.le_of_ble_eq_true rfl, Nat.le_of_ble_eq_true rfl⟩) rfl hl (Nat.le_of_ble_eq_true rfl) ⟨Nat.zero_le _, Nat.zero_le _⟩ dX5_of_172 rfl (fun r C1 pi1 H locs h12 hI => ?_)
      obtain ⟨h12, hc9, hp9⟩ := h12
      rw [hc9, hp9] at hI
      rcases h12 with ⟨b11, rfl⟩ | ⟨b11, rfl⟩
      · skip
        have b11 : canW (C 0) i1 = true := b11
        refine lv_if_eq (tgt := 182) hx hb dX5_of_175 (by decide) (fun c13 => absurd c13 (by decide)) (fun _ => ?_)
        refine lv_iconst (v := 1) hx hb dX5_of_178 (by decide) ?_
        refine lv_goto (tgt := 183) hx hb dX5_of_179 (by decide) ?_
        exact c_iret (v := 1) hx hb hr hI (⟨by first | (simp only [ofR, x_i1, if_pos b_i1, if_neg c4_0, if_neg c4_1, if_neg c4_2, if_neg c4_3, if_neg c4_4, if_neg c4_5, if_neg c4_6, if_neg c4_7, if_neg c4_8, if_pos b11]; done) | (simp [ofR, x_i1, b_i1, c4_0, c4_1, c4_2, c4_3, c4_4, c4_5, c4_6, c4_7, c4_8, b11]; done) | (have hg9 := hgo0 i1 (by omega); simp only [ofR, x_i1, if_pos b_i1, if_neg c4_0, if_neg c4_1, if_neg c4_2, if_neg c4_3, if_neg c4_4, if_neg c4_5, if_neg c4_6, if_neg c4_7, if_neg c4_8, if_pos b11]; simp; first | (rcases hg9 with hg9 | hg9 <;> simp_all; done) | simp_all), rfl, rfl⟩) dX5_of_183 hlocks
      · skip
        have b11 : canW (C 0) i1 = false := b11
        refine lv_if_eq (tgt := 182) hx hb dX5_of_175 (by decide) (fun _ => ?_) (fun c14 => absurd (by decide) c14)
        refine lv_iconst (v := 0) hx hb dX5_of_182 (by decide) ?_
        exact c_iret (v := 0) hx hb hr hI (⟨by first | (simp only [ofR, x_i1, if_pos b_i1, if_neg c4_0, if_neg c4_1, if_neg c4_2, if_neg c4_3, if_neg c4_4, if_neg c4_5, if_neg c4_6, if_neg c4_7, if_neg c4_8, if_neg (Bool.eq_false_iff.mp b11)]; done) | (simp [ofR, x_i1, b_i1, c4_0, c4_1, c4_2, c4_3, c4_4, c4_5, c4_6, c4_7, c4_8, b11]; done) | (have hg9 := hgo0 i1 (by omega); simp only [ofR, x_i1, if_pos b_i1, if_neg c4_0, if_neg c4_1, if_neg c4_2, if_neg c4_3, if_neg c4_4, if_neg c4_5, if_neg c4_6, if_neg c4_7, if_neg c4_8, if_neg (Bool.eq_false_iff.mp b11)]; simp; first | (rcases hg9 with hg9 | hg9 <;> simp_all; done) | simp_all), rfl, rfl⟩) dX5_of_183 hlocks
    by_cases c4_10 : w = 10
    · subst c4_10
      refine lv_tableIn (tgt := 184) (off := 160) hx hb dX5_of_24 (by decide) (by decide) (by decide +kernel) (by decide) ?_
      refine lv_aload_n hx hb dX5_of_184 rfl (lv_at hl 0 rfl) ?_
      refine c_get hx hb hts hown hK hI (15 + 20 * 0 + i1) (by omega) (cE_cl (by omega)) rfl hinX0 6 (by decide) (hts (.fieldLink RX5 132 "WinderLadders$Clock" "timesWound" "I") (by decide +kernel)) (v := .int (C 0 (12 + 8 * i1 + 7))) rfl dX5_of_185 ?_
      exact c_iret (v := C 0 (12 + 8 * i1 + 7)) hx hb hr hI (⟨by first | (simp only [ofR, x_i1, if_pos b_i1, if_neg c4_0, if_neg c4_1, if_neg c4_2, if_neg c4_3, if_neg c4_4, if_neg c4_5, if_neg c4_6, if_neg c4_7, if_neg c4_8, if_neg c4_9]; done) | (simp [ofR, x_i1, b_i1, c4_0, c4_1, c4_2, c4_3, c4_4, c4_5, c4_6, c4_7, c4_8, c4_9]; done) | (have hg9 := hgo0 i1 (by omega); simp only [ofR, x_i1, if_pos b_i1, if_neg c4_0, if_neg c4_1, if_neg c4_2, if_neg c4_3, if_neg c4_4, if_neg c4_5, if_neg c4_6, if_neg c4_7, if_neg c4_8, if_neg c4_9]; simp; first | (rcases hg9 with hg9 | hg9 <;> simp_all; done) | simp_all), rfl, rfl⟩) dX5_of_188 hlocks
    refine lv_tableOut (tgt := 189) hx hb dX5_of_24 (sw_out11 c4_0 c4_1 c4_2 c4_3 c4_4 c4_5 c4_6 c4_7 c4_8 c4_9 c4_10) (by decide) ?_
    refine lv_bipush (v := (-2)) hx hb dX5_of_189 (by decide) ?_
    exact c_iret (v := (-2)) hx hb hr hI (⟨by first | (simp only [ofR, x_i1, if_pos b_i1, if_neg c4_0, if_neg c4_1, if_neg c4_2, if_neg c4_3, if_neg c4_4, if_neg c4_5, if_neg c4_6, if_neg c4_7, if_neg c4_8, if_neg c4_9, if_neg c4_10]; done) | (simp [ofR, x_i1, b_i1, c4_0, c4_1, c4_2, c4_3, c4_4, c4_5, c4_6, c4_7, c4_8, c4_9, c4_10]; done) | (have hg9 := hgo0 i1 (by omega); simp only [ofR, x_i1, if_pos b_i1, if_neg c4_0, if_neg c4_1, if_neg c4_2, if_neg c4_3, if_neg c4_4, if_neg c4_5, if_neg c4_6, if_neg c4_7, if_neg c4_8, if_neg c4_9, if_neg c4_10]; simp; first | (rcases hg9 with hg9 | hg9 <;> simp_all; done) | simp_all), rfl, rfl⟩) dX5_of_191 hlocks
  · skip
    have b_i1 := isCb_f hW0 b_i1
    refine lv_if_ne (tgt := 13) hx hb dX5_of_8 (by decide) (fun c15 => absurd (by decide) c15) (fun _ => ?_)
    refine lv_iconst (v := (-1)) hx hb dX5_of_11 (by decide) ?_
    exact c_iret (v := (-1)) hx hb hr hI (⟨by simp only [ofR, if_neg (Bool.eq_false_iff.mp b_i1)], rfl, rfl⟩) dX5_of_12 hlocks

set_option maxHeartbeats 4000000 in
set_option maxRecDepth 100000 in
theorem k_X5_ofLadder (l : Launch) (dd : va_G) (g : Nat → ClassId) (ad pi : Nat → Nat) (A : Nat → Prop) (hA : cA A ad) (C : MS) (hW0 : Wk (C 0)) (hgo0 : goOk (C 0)) (x : Int32)  : Met l yX5_ofLadder wsX5_ofLadder ({ frames := 1, cells := 0, slots := 0, locals := 21 }) (cPre dd g ad pi A C [.ref (ad 0), .int x]) (cQi dd g ad A (fun r C1 pi1 => r = lofR (C 0) x ∧ C1 = C ∧ pi1 = pi)) 0 0 A := by
  refine Met.ofW (cc := cX5_ofLadder) (maxL := 2) (ret := (some .int)) (by decide) rfl ?_
  intro p e s m args below meth c s₁ B hml hv
  obtain ⟨rfl, hP0, hK, hX⟩ := hv
  have hx := B.exec
  have hb := B.bytes
  have hr := B.returns
  have hts := atoms_spec (ws := wsX5_ofLadder) B.pre
  have hown : s.vm.findClass RX5 = some m.cls := findClass_of_methodNamed B.named
  have hlocks := B.notSynchronized
  have hinX4 : ∀ w ∈ wsX40, w ∈ wsX5_ofLadder := by decide +kernel
  have hinX5 : ∀ w ∈ wsX50, w ∈ wsX5_ofLadder := by decide +kernel
  have hI : cI dd g ad pi A s.heap s.heap [] C := ⟨hP0, va_S.rf⟩
  have hl := lv_entry ([.ref (ad 0), .int x]) (n := 2) (Nat.le_of_ble_eq_true rfl)
  rw [lg_entry_eq]
  generalize (lg_sl ([.ref (ad 0), .int x]) ++ List.replicate (2 - (lg_sl ([.ref (ad 0), .int x])).length) Slot.unset).toArray = ls at hl ⊢
  have hl : lv_has ls 2 [(0, .ref (ad 0)), (1, .int x)] := hl
  have hc16 := hW0.2.1
  have hl4 := hW0.2.2.2
  refine lv_aload_n hx hb dX5_ofLadder_0 rfl (lv_at hl 0 rfl) ?_
  refine c_get hx hb hts hown hK hI 0 (by omega) cE_0 rfl hinX5 0 (by decide) (hts (.fieldLink RX5 12 "WinderLadders" "now" "LWinderLadders$State;") (by decide +kernel)) (v := .ref (ad (11 + 20 * 0))) rfl dX5_ofLadder_1 ?_
  refine lv_iload_n hx hb dX5_ofLadder_4 rfl (lv_at hl 1 rfl) ?_
  refine c_calli (As := [.int x]) (rest := []) hx hb hml hown hts hK hX hI (11 + 20 * 0) (by omega) cE_st rfl (k_X4_hasLadder l dd g ad pi A hA C 0 (by omega) x hW0) (cwV 1 hts gX5_ofLadder_X4_hasLadder rfl rfl rfl (by decide +kernel) ⟨Nat.le_of_ble_eq_true rfl, Nat.le_of_ble_eq_true rfl⟩) rfl hl (Nat.le_of_ble_eq_true rfl) ⟨Nat.zero_le _, Nat.zero_le _⟩ dX5_ofLadder_5 rfl (fun r C1 pi1 H locs h2 hI => ?_)
  obtain ⟨h2, hc9, hp9⟩ := h2
  rw [hc9, hp9] at hI
  rcases h2 with ⟨⟨i1, hi_i1, e_i1⟩, rfl⟩ | ⟨b_i1, rfl⟩
  · skip
    have x_i1 : ix x = i1 := by rw [e_i1]; exact ix_nI (by omega)
    subst e_i1
    refine lv_if_eq (tgt := 23) hx hb dX5_ofLadder_8 (by decide) (fun c3 => absurd c3 (by decide)) (fun _ => ?_)
    refine lv_aload_n hx hb dX5_ofLadder_11 rfl (lv_at hl 0 rfl) ?_
    refine c_get hx hb hts hown hK hI 0 (by omega) cE_0 rfl hinX5 0 (by decide) (hts (.fieldLink RX5 12 "WinderLadders" "now" "LWinderLadders$State;") (by decide +kernel)) (v := .ref (ad (11 + 20 * 0))) rfl dX5_ofLadder_12 ?_
    refine c_get hx hb hts hown hK hI (11 + 20 * 0) (by omega) cE_st rfl hinX4 2 (by decide) (hts (.fieldLink RX5 138 "WinderLadders$State" "ladders" "[I") (by decide +kernel)) (v := .ref (ad (14 + 20 * 0))) rfl dX5_ofLadder_15 ?_
    refine lv_iload_n hx hb dX5_ofLadder_18 rfl (lv_at hl 1 rfl) ?_
    refine c_ald hx hb hK hI (14 + 20 * 0) (by omega) cE_la (by decide) (i1) (by omega) rfl (v := C 0 (8 + i1)) ((if_pos (show (i1) < 4 by omega)).trans rfl) dX5_ofLadder_19 ?_
    refine lv_goto (tgt := 24) hx hb dX5_ofLadder_20 (by decide) ?_
    exact c_iret (v := C 0 (8 + i1)) hx hb hr hI (⟨(lofR_in hW0 (by assumption)).symm, rfl, rfl⟩) dX5_ofLadder_24 hlocks
  · skip
    refine lv_if_eq (tgt := 23) hx hb dX5_ofLadder_8 (by decide) (fun _ => ?_) (fun c4 => absurd (by decide) c4)
    refine lv_iconst (v := (-1)) hx hb dX5_ofLadder_23 (by decide) ?_
    exact c_iret (v := (-1)) hx hb hr hI (⟨(lofR_no hW0 (by assumption)).symm, rfl, rfl⟩) dX5_ofLadder_24 hlocks

set_option maxHeartbeats 4000000 in
set_option maxRecDepth 100000 in
theorem k_X5_count (l : Launch) (dd : va_G) (g : Nat → ClassId) (ad pi : Nat → Nat) (A : Nat → Prop) (hA : cA A ad) (C : MS) (hW0 : Wk (C 0)) (hgo0 : goOk (C 0)) (hLd0 : Lad (C 0)) (w : Int32)  : Met l yX5_count wsX5_count ({ frames := 3, cells := 0, slots := 0, locals := 67 }) (cPre dd g ad pi A C [.ref (ad 0), .int w]) (cQi dd g ad A (fun r C1 pi1 => r = cntC (C 0) (C 10 1) (C 10 0) w ∧ C1 = C ∧ pi1 = pi)) 0 0 A := by
  refine Met.ofW (cc := cX5_count) (maxL := 2) (ret := (some .int)) (by decide) rfl ?_
  intro p e s m args below meth c s₁ B hml hv
  obtain ⟨rfl, hP0, hK, hX⟩ := hv
  have hx := B.exec
  have hb := B.bytes
  have hr := B.returns
  have hts := atoms_spec (ws := wsX5_count) B.pre
  have hown : s.vm.findClass RX5 = some m.cls := findClass_of_methodNamed B.named
  have hlocks := B.notSynchronized
  have hinX1 : ∀ w ∈ wsX10, w ∈ wsX5_count := by decide +kernel
  have hinX2 : ∀ w ∈ wsX20, w ∈ wsX5_count := by decide +kernel
  have hinX4 : ∀ w ∈ wsX40, w ∈ wsX5_count := by decide +kernel
  have hinX5 : ∀ w ∈ wsX50, w ∈ wsX5_count := by decide +kernel
  have hI : cI dd g ad pi A s.heap s.heap [] C := ⟨hP0, va_S.rf⟩
  have hl := lv_entry ([.ref (ad 0), .int w]) (n := 2) (Nat.le_of_ble_eq_true rfl)
  rw [lg_entry_eq]
  generalize (lg_sl ([.ref (ad 0), .int w]) ++ List.replicate (2 - (lg_sl ([.ref (ad 0), .int w])).length) Slot.unset).toArray = ls at hl ⊢
  have hl : lv_has ls 2 [(0, .ref (ad 0)), (1, .int w)] := hl
  have hc16 := hW0.2.1
  have hl4 := hW0.2.2.2
  refine lv_iload_n hx hb dX5_count_0 rfl (lv_at hl 1 rfl) ?_
  by_cases c1_0 : w = 0
  · subst c1_0
    refine lv_tableIn (tgt := 72) (off := 71) hx hb dX5_count_1 (by decide) (by decide) (by decide +kernel) (by decide) ?_
    refine lv_aload_n hx hb dX5_count_72 rfl (lv_at hl 0 rfl) ?_
    refine c_get hx hb hts hown hK hI 0 (by omega) cE_0 rfl hinX5 0 (by decide) (hts (.fieldLink RX5 12 "WinderLadders" "now" "LWinderLadders$State;") (by decide +kernel)) (v := .ref (ad (11 + 20 * 0))) rfl dX5_count_73 ?_
    refine c_get hx hb hts hown hK hI (11 + 20 * 0) (by omega) cE_st rfl hinX4 5 (by decide) (hts (.fieldLink RX5 141 "WinderLadders$State" "days" "I") (by decide +kernel)) (v := .int (C 0 4)) rfl dX5_count_76 ?_
    exact c_iret (v := C 0 4) hx hb hr hI (⟨by simp [cntC], rfl, rfl⟩) dX5_count_79 hlocks
  by_cases c1_1 : w = 1
  · subst c1_1
    refine lv_tableIn (tgt := 80) (off := 79) hx hb dX5_count_1 (by decide) (by decide) (by decide +kernel) (by decide) ?_
    refine lv_aload_n hx hb dX5_count_80 rfl (lv_at hl 0 rfl) ?_
    refine c_get hx hb hts hown hK hI 0 (by omega) cE_0 rfl hinX5 0 (by decide) (hts (.fieldLink RX5 12 "WinderLadders" "now" "LWinderLadders$State;") (by decide +kernel)) (v := .ref (ad (11 + 20 * 0))) rfl dX5_count_81 ?_
    refine c_get hx hb hts hown hK hI (11 + 20 * 0) (by omega) cE_st rfl hinX4 3 (by decide) (hts (.fieldLink RX5 144 "WinderLadders$State" "clockCount" "I") (by decide +kernel)) (v := .int (C 0 5)) rfl dX5_count_84 ?_
    exact c_iret (v := C 0 5) hx hb hr hI (⟨by simp [cntC], rfl, rfl⟩) dX5_count_87 hlocks
  by_cases c1_2 : w = 2
  · subst c1_2
    refine lv_tableIn (tgt := 88) (off := 87) hx hb dX5_count_1 (by decide) (by decide) (by decide +kernel) (by decide) ?_
    refine lv_aload_n hx hb dX5_count_88 rfl (lv_at hl 0 rfl) ?_
    refine c_get hx hb hts hown hK hI 0 (by omega) cE_0 rfl hinX5 0 (by decide) (hts (.fieldLink RX5 12 "WinderLadders" "now" "LWinderLadders$State;") (by decide +kernel)) (v := .ref (ad (11 + 20 * 0))) rfl dX5_count_89 ?_
    refine c_get hx hb hts hown hK hI (11 + 20 * 0) (by omega) cE_st rfl hinX4 4 (by decide) (hts (.fieldLink RX5 147 "WinderLadders$State" "ladderCount" "I") (by decide +kernel)) (v := .int (C 0 6)) rfl dX5_count_92 ?_
    exact c_iret (v := C 0 6) hx hb hr hI (⟨by simp [cntC], rfl, rfl⟩) dX5_count_95 hlocks
  by_cases c1_3 : w = 3
  · subst c1_3
    refine lv_tableIn (tgt := 96) (off := 95) hx hb dX5_count_1 (by decide) (by decide) (by decide +kernel) (by decide) ?_
    refine lv_aload_n hx hb dX5_count_96 rfl (lv_at hl 0 rfl) ?_
    refine c_get hx hb hts hown hK hI 0 (by omega) cE_0 rfl hinX5 0 (by decide) (hts (.fieldLink RX5 12 "WinderLadders" "now" "LWinderLadders$State;") (by decide +kernel)) (v := .ref (ad (11 + 20 * 0))) rfl dX5_count_97 ?_
    refine c_calli (As := []) (rest := []) hx hb hml hown hts hK hX hI (11 + 20 * 0) (by omega) cE_st rfl (k_X4_setOfStill l dd g ad pi A hA C 0 (by omega) hW0) (cwV 0 hts gX5_count_X4_setOfStill rfl rfl rfl (by decide +kernel) ⟨Nat.le_of_ble_eq_true rfl, Nat.le_of_ble_eq_true rfl⟩) rfl hl (Nat.le_of_ble_eq_true rfl) ⟨Nat.zero_le _, Nat.zero_le _⟩ dX5_count_100 rfl (fun r C1 pi1 H locs h2 hI => ?_)
    obtain ⟨hr9, hc9, hp9⟩ := h2
    rw [hc9, hp9] at hI
    subst hr9
    exact c_iret (v := stC (C 0) (cn (C 0))) hx hb hr hI (⟨by simp [cntC], rfl, rfl⟩) dX5_count_103 hlocks
  by_cases c1_4 : w = 4
  · subst c1_4
    refine lv_tableIn (tgt := 104) (off := 103) hx hb dX5_count_1 (by decide) (by decide) (by decide +kernel) (by decide) ?_
    refine lv_aload_n hx hb dX5_count_104 rfl (lv_at hl 0 rfl) ?_
    refine c_get hx hb hts hown hK hI 0 (by omega) cE_0 rfl hinX5 0 (by decide) (hts (.fieldLink RX5 12 "WinderLadders" "now" "LWinderLadders$State;") (by decide +kernel)) (v := .ref (ad (11 + 20 * 0))) rfl dX5_count_105 ?_
    refine c_calli (As := []) (rest := []) hx hb hml hown hts hK hX hI (11 + 20 * 0) (by omega) cE_st rfl (k_X4_numberOffBeyondTold l dd g ad pi A hA C 0 (by omega) hW0) (cwV 0 hts gX5_count_X4_numberOffBeyondTold rfl rfl rfl (by decide +kernel) ⟨Nat.le_of_ble_eq_true rfl, Nat.le_of_ble_eq_true rfl⟩) rfl hl (Nat.le_of_ble_eq_true rfl) ⟨Nat.zero_le _, Nat.zero_le _⟩ dX5_count_108 rfl (fun r C1 pi1 H locs h3 hI => ?_)
    obtain ⟨hr9, hc9, hp9⟩ := h3
    rw [hc9, hp9] at hI
    subst hr9
    exact c_iret (v := nI (ofN (C 0) (cn (C 0)))) hx hb hr hI (⟨by simp [cntC], rfl, rfl⟩) dX5_count_111 hlocks
  by_cases c1_5 : w = 5
  · subst c1_5
    refine lv_tableIn (tgt := 112) (off := 111) hx hb dX5_count_1 (by decide) (by decide) (by decide +kernel) (by decide) ?_
    refine lv_aload_n hx hb dX5_count_112 rfl (lv_at hl 0 rfl) ?_
    refine c_get hx hb hts hown hK hI 0 (by omega) cE_0 rfl hinX5 0 (by decide) (hts (.fieldLink RX5 12 "WinderLadders" "now" "LWinderLadders$State;") (by decide +kernel)) (v := .ref (ad (11 + 20 * 0))) rfl dX5_count_113 ?_
    refine c_calli (As := []) (rest := []) hx hb hml hown hts hK hX hI (11 + 20 * 0) (by omega) cE_st rfl (k_X4_numberThatCannotBeWound l dd g ad pi A hA C 0 (by omega) hW0 hLd0) (cwV 0 hts gX5_count_X4_numberThatCannotBeWound rfl rfl rfl (by decide +kernel) ⟨Nat.le_of_ble_eq_true rfl, Nat.le_of_ble_eq_true rfl⟩) rfl hl (Nat.le_of_ble_eq_true rfl) ⟨Nat.zero_le _, Nat.zero_le _⟩ dX5_count_116 rfl (fun r C1 pi1 H locs h4 hI => ?_)
    obtain ⟨hr9, hc9, hp9⟩ := h4
    rw [hc9, hp9] at hI
    subst hr9
    exact c_iret (v := nI (cwN (C 0) (cn (C 0)))) hx hb hr hI (⟨by simp [cntC], rfl, rfl⟩) dX5_count_119 hlocks
  by_cases c1_6 : w = 6
  · subst c1_6
    refine lv_tableIn (tgt := 120) (off := 119) hx hb dX5_count_1 (by decide) (by decide) (by decide +kernel) (by decide) ?_
    refine lv_aload_n hx hb dX5_count_120 rfl (lv_at hl 0 rfl) ?_
    refine c_get hx hb hts hown hK hI 0 (by omega) cE_0 rfl hinX5 0 (by decide) (hts (.fieldLink RX5 12 "WinderLadders" "now" "LWinderLadders$State;") (by decide +kernel)) (v := .ref (ad (11 + 20 * 0))) rfl dX5_count_121 ?_
    refine c_get hx hb hts hown hK hI (11 + 20 * 0) (by omega) cE_st rfl hinX4 6 (by decide) (hts (.fieldLink RX5 160 "WinderLadders$State" "minutes" "I") (by decide +kernel)) (v := .int (C 0 7)) rfl dX5_count_124 ?_
    exact c_iret (v := C 0 7) hx hb hr hI (⟨by simp [cntC], rfl, rfl⟩) dX5_count_127 hlocks
  by_cases c1_7 : w = 7
  · subst c1_7
    refine lv_tableIn (tgt := 128) (off := 127) hx hb dX5_count_1 (by decide) (by decide) (by decide +kernel) (by decide) ?_
    refine lv_aload_n hx hb dX5_count_128 rfl (lv_at hl 0 rfl) ?_
    refine c_get hx hb hts hown hK hI 0 (by omega) cE_0 rfl hinX5 0 (by decide) (hts (.fieldLink RX5 12 "WinderLadders" "now" "LWinderLadders$State;") (by decide +kernel)) (v := .ref (ad (11 + 20 * 0))) rfl dX5_count_129 ?_
    refine c_calli (As := []) (rest := []) hx hb hml hown hts hK hX hI (11 + 20 * 0) (by omega) cE_st rfl (k_X4_timesWoundInAll l dd g ad pi A hA C 0 (by omega) hW0) (cwV 0 hts gX5_count_X4_timesWoundInAll rfl rfl rfl (by decide +kernel) ⟨Nat.le_of_ble_eq_true rfl, Nat.le_of_ble_eq_true rfl⟩) rfl hl (Nat.le_of_ble_eq_true rfl) ⟨Nat.zero_le _, Nat.zero_le _⟩ dX5_count_132 rfl (fun r C1 pi1 H locs h5 hI => ?_)
    obtain ⟨hr9, hc9, hp9⟩ := h5
    rw [hc9, hp9] at hI
    subst hr9
    exact c_iret (v := twN (C 0) (cn (C 0))) hx hb hr hI (⟨by simp [cntC], rfl, rfl⟩) dX5_count_135 hlocks
  by_cases c1_8 : w = 8
  · subst c1_8
    refine lv_tableIn (tgt := 136) (off := 135) hx hb dX5_count_1 (by decide) (by decide) (by decide +kernel) (by decide) ?_
    refine lv_aload_n hx hb dX5_count_136 rfl (lv_at hl 0 rfl) ?_
    refine c_get hx hb hts hown hK hI 0 (by omega) cE_0 rfl hinX5 0 (by decide) (hts (.fieldLink RX5 12 "WinderLadders" "now" "LWinderLadders$State;") (by decide +kernel)) (v := .ref (ad (11 + 20 * 0))) rfl dX5_count_137 ?_
    refine c_get hx hb hts hown hK hI (11 + 20 * 0) (by omega) cE_st rfl hinX4 0 (by decide) (hts (.fieldLink RX5 118 "WinderLadders$State" "settings" "[I") (by decide +kernel)) (v := .ref (ad (12 + 20 * 0))) rfl dX5_count_140 ?_
    refine lv_iconst (v := 0) hx hb dX5_count_143 (by decide) ?_
    refine c_ald hx hb hK hI (12 + 20 * 0) (by omega) cE_se (by decide) (0) (by omega) rfl (v := C 0 0) ((if_pos (show (0) < 4 by omega)).trans rfl) dX5_count_144 ?_
    exact c_iret (v := C 0 0) hx hb hr hI (⟨by simp [cntC], rfl, rfl⟩) dX5_count_145 hlocks
  by_cases c1_9 : w = 9
  · subst c1_9
    refine lv_tableIn (tgt := 146) (off := 145) hx hb dX5_count_1 (by decide) (by decide) (by decide +kernel) (by decide) ?_
    refine lv_aload_n hx hb dX5_count_146 rfl (lv_at hl 0 rfl) ?_
    refine c_get hx hb hts hown hK hI 0 (by omega) cE_0 rfl hinX5 0 (by decide) (hts (.fieldLink RX5 12 "WinderLadders" "now" "LWinderLadders$State;") (by decide +kernel)) (v := .ref (ad (11 + 20 * 0))) rfl dX5_count_147 ?_
    refine c_get hx hb hts hown hK hI (11 + 20 * 0) (by omega) cE_st rfl hinX4 0 (by decide) (hts (.fieldLink RX5 118 "WinderLadders$State" "settings" "[I") (by decide +kernel)) (v := .ref (ad (12 + 20 * 0))) rfl dX5_count_150 ?_
    refine lv_iconst (v := 1) hx hb dX5_count_153 (by decide) ?_
    refine c_ald hx hb hK hI (12 + 20 * 0) (by omega) cE_se (by decide) (1) (by omega) rfl (v := C 0 1) ((if_pos (show (1) < 4 by omega)).trans rfl) dX5_count_154 ?_
    exact c_iret (v := C 0 1) hx hb hr hI (⟨by simp [cntC], rfl, rfl⟩) dX5_count_155 hlocks
  by_cases c1_10 : w = 10
  · subst c1_10
    refine lv_tableIn (tgt := 156) (off := 155) hx hb dX5_count_1 (by decide) (by decide) (by decide +kernel) (by decide) ?_
    refine lv_aload_n hx hb dX5_count_156 rfl (lv_at hl 0 rfl) ?_
    refine c_get hx hb hts hown hK hI 0 (by omega) cE_0 rfl hinX5 0 (by decide) (hts (.fieldLink RX5 12 "WinderLadders" "now" "LWinderLadders$State;") (by decide +kernel)) (v := .ref (ad (11 + 20 * 0))) rfl dX5_count_157 ?_
    refine c_get hx hb hts hown hK hI (11 + 20 * 0) (by omega) cE_st rfl hinX4 0 (by decide) (hts (.fieldLink RX5 118 "WinderLadders$State" "settings" "[I") (by decide +kernel)) (v := .ref (ad (12 + 20 * 0))) rfl dX5_count_160 ?_
    refine lv_iconst (v := 2) hx hb dX5_count_163 (by decide) ?_
    refine c_ald hx hb hK hI (12 + 20 * 0) (by omega) cE_se (by decide) (2) (by omega) rfl (v := C 0 2) ((if_pos (show (2) < 4 by omega)).trans rfl) dX5_count_164 ?_
    exact c_iret (v := C 0 2) hx hb hr hI (⟨by simp [cntC], rfl, rfl⟩) dX5_count_165 hlocks
  by_cases c1_11 : w = 11
  · subst c1_11
    refine lv_tableIn (tgt := 166) (off := 165) hx hb dX5_count_1 (by decide) (by decide) (by decide +kernel) (by decide) ?_
    refine lv_aload_n hx hb dX5_count_166 rfl (lv_at hl 0 rfl) ?_
    refine c_get hx hb hts hown hK hI 0 (by omega) cE_0 rfl hinX5 0 (by decide) (hts (.fieldLink RX5 12 "WinderLadders" "now" "LWinderLadders$State;") (by decide +kernel)) (v := .ref (ad (11 + 20 * 0))) rfl dX5_count_167 ?_
    refine c_get hx hb hts hown hK hI (11 + 20 * 0) (by omega) cE_st rfl hinX4 0 (by decide) (hts (.fieldLink RX5 118 "WinderLadders$State" "settings" "[I") (by decide +kernel)) (v := .ref (ad (12 + 20 * 0))) rfl dX5_count_170 ?_
    refine lv_iconst (v := 3) hx hb dX5_count_173 (by decide) ?_
    refine c_ald hx hb hK hI (12 + 20 * 0) (by omega) cE_se (by decide) (3) (by omega) rfl (v := C 0 3) ((if_pos (show (3) < 4 by omega)).trans rfl) dX5_count_174 ?_
    exact c_iret (v := C 0 3) hx hb hr hI (⟨by simp [cntC], rfl, rfl⟩) dX5_count_175 hlocks
  by_cases c1_12 : w = 12
  · subst c1_12
    refine lv_tableIn (tgt := 176) (off := 175) hx hb dX5_count_1 (by decide) (by decide) (by decide +kernel) (by decide) ?_
    refine lv_aload_n hx hb dX5_count_176 rfl (lv_at hl 0 rfl) ?_
    refine c_get hx hb hts hown hK hI 0 (by omega) cE_0 rfl hinX5 4 (by decide) (hts (.fieldLink RX5 34 "WinderLadders" "pad" "LWinderLadders$Pad;") (by decide +kernel)) (v := .ref (ad 5)) rfl dX5_count_177 ?_
    refine c_get hx hb hts hown hK hI 5 (by omega) cE_5 rfl hinX2 2 (by decide) (hts (.fieldLink RX5 166 "WinderLadders$Pad" "length" "I") (by decide +kernel)) (v := .int (C 10 1)) rfl dX5_count_180 ?_
    exact c_iret (v := C 10 1) hx hb hr hI (⟨by simp [cntC], rfl, rfl⟩) dX5_count_183 hlocks
  by_cases c1_13 : w = 13
  · subst c1_13
    refine lv_tableIn (tgt := 184) (off := 183) hx hb dX5_count_1 (by decide) (by decide) (by decide +kernel) (by decide) ?_
    refine lv_aload_n hx hb dX5_count_184 rfl (lv_at hl 0 rfl) ?_
    refine c_get hx hb hts hown hK hI 0 (by omega) cE_0 rfl hinX5 1 (by decide) (hts (.fieldLink RX5 19 "WinderLadders" "history" "LWinderLadders$History;") (by decide +kernel)) (v := .ref (ad 1)) rfl dX5_count_185 ?_
    refine c_get hx hb hts hown hK hI 1 (by omega) cE_1 rfl hinX1 1 (by decide) (hts (.fieldLink RX5 169 "WinderLadders$History" "depth" "I") (by decide +kernel)) (v := .int (C 10 0)) rfl dX5_count_188 ?_
    exact c_iret (v := C 10 0) hx hb hr hI (⟨by simp [cntC], rfl, rfl⟩) dX5_count_191 hlocks
  refine lv_tableOut (tgt := 192) hx hb dX5_count_1 (sw_out14 c1_0 c1_1 c1_2 c1_3 c1_4 c1_5 c1_6 c1_7 c1_8 c1_9 c1_10 c1_11 c1_12 c1_13) (by decide) ?_
  refine lv_bipush (v := (-2)) hx hb dX5_count_192 (by decide) ?_
  exact c_iret (v := (-2)) hx hb hr hI (⟨by simp only [cntC, if_neg c1_0, if_neg c1_1, if_neg c1_2, if_neg c1_3, if_neg c1_4, if_neg c1_5, if_neg c1_6, if_neg c1_7, if_neg c1_8, if_neg c1_9, if_neg c1_10, if_neg c1_11, if_neg c1_12, if_neg c1_13], rfl, rfl⟩) dX5_count_194 hlocks
