set_option maxHeartbeats 4000000 in
set_option maxRecDepth 100000 in
theorem k_X5_isWithin (l : Launch) (v lo hi : Int32) : Met l yX5_isWithin wsX5_isWithin ({ frames := 0, cells := 0, slots := 0, locals := 0 }) (sPre [.int v, .int lo, .int hi]) (sQi (fun r => (inB v lo hi = true ∧ r = 1) ∨ (inB v lo hi = false ∧ r = 0))) 0 0 (fun _ => False) := by
  refine Met.ofW (cc := cX5_isWithin) (maxL := 3) (ret := (some .boolean)) (by decide) rfl ?_
  intro p e s m args below meth c s₁ B hml hv
  obtain ⟨rfl, _⟩ := hv
  have hx := B.exec
  have hb := B.bytes
  have hr := B.returns
  have hts := atoms_spec (ws := wsX5_isWithin) B.pre
  have hown : s.vm.findClass RX5 = some m.cls := findClass_of_methodNamed B.named
  have hlocks := B.notSynchronized
  have hI : va_S (fun _ => False) s.heap s.heap [] := va_S.rf
  have hl := lv_entry ([.int v, .int lo, .int hi]) (n := 3) (Nat.le_of_ble_eq_true rfl)
  rw [lg_entry_eq]
  generalize (lg_sl ([.int v, .int lo, .int hi]) ++ List.replicate (3 - (lg_sl ([.int v, .int lo, .int hi])).length) Slot.unset).toArray = ls at hl ⊢
  have hl : lv_has ls 3 [(0, .int v), (1, .int lo), (2, .int hi)] := hl
  refine lv_iload_n hx hb dX5_isWithin_0 rfl (lv_at hl 0 rfl) ?_
  refine lv_iload_n hx hb dX5_isWithin_1 rfl (lv_at hl 1 rfl) ?_
  refine lv_icmp_lt (tgt := 14) hx hb dX5_isWithin_2 (by decide) (fun c1 => ?_) (fun c1 => ?_)
  · skip
    refine lv_iconst (v := 0) hx hb dX5_isWithin_14 (by decide) ?_
    exact s_zret (v := 0) hx hb hr (by first | rfl | decide) hI (by simp [inB, c1]) dX5_isWithin_15 hlocks
  · skip
    refine lv_iload_n hx hb dX5_isWithin_5 rfl (lv_at hl 0 rfl) ?_
    refine lv_iload_n hx hb dX5_isWithin_6 rfl (lv_at hl 2 rfl) ?_
    refine lv_icmp_gt (tgt := 14) hx hb dX5_isWithin_7 (by decide) (fun c2 => ?_) (fun c2 => ?_)
    · skip
      refine lv_iconst (v := 0) hx hb dX5_isWithin_14 (by decide) ?_
      exact s_zret (v := 0) hx hb hr (by first | rfl | decide) hI (by simp [inB, c1, c2]) dX5_isWithin_15 hlocks
    · skip
      refine lv_iconst (v := 1) hx hb dX5_isWithin_10 (by decide) ?_
      refine lv_goto (tgt := 15) hx hb dX5_isWithin_11 (by decide) ?_
      exact s_zret (v := 1) hx hb hr (by first | rfl | decide) hI (by simp [inB, c1, c2]) dX5_isWithin_15 hlocks

set_option maxHeartbeats 4000000 in
set_option maxRecDepth 100000 in
theorem k_X0_driftWithScrew (l : Launch) (dd : va_G) (g : Nat → ClassId) (ad pi : Nat → Nat) (A : Nat → Prop) (hA : cA A ad) (C : MS) (k c0 : Nat) (hk : k < 10) (hc : c0 < 16) : Met l yX0_driftWithScrew wsX0_driftWithScrew ({ frames := 0, cells := 0, slots := 0, locals := 0 }) (cPre dd g ad pi A C [.ref (ad (15 + 20 * k + c0))]) (cQi dd g ad A (fun r C1 pi1 => r = rt (C k) c0 ∧ C1 = C ∧ pi1 = pi)) 0 0 A := by
  refine Met.ofW (cc := cX0_driftWithScrew) (maxL := 1) (ret := (some .int)) (by decide) rfl ?_
  intro p e s m args below meth c s₁ B hml hv
  obtain ⟨rfl, hP0, hK, hX⟩ := hv
  have hx := B.exec
  have hb := B.bytes
  have hr := B.returns
  have hts := atoms_spec (ws := wsX0_driftWithScrew) B.pre
  have hown : s.vm.findClass RX0 = some m.cls := findClass_of_methodNamed B.named
  have hlocks := B.notSynchronized
  have hinX0 : ∀ w ∈ wsX00, w ∈ wsX0_driftWithScrew := by decide +kernel
  have hI : cI dd g ad pi A s.heap s.heap [] C := ⟨hP0, va_S.rf⟩
  have hl := lv_entry ([.ref (ad (15 + 20 * k + c0))]) (n := 1) (Nat.le_of_ble_eq_true rfl)
  rw [lg_entry_eq]
  generalize (lg_sl ([.ref (ad (15 + 20 * k + c0))]) ++ List.replicate (1 - (lg_sl ([.ref (ad (15 + 20 * k + c0))])).length) Slot.unset).toArray = ls at hl ⊢
  have hl : lv_has ls 1 [(0, .ref (ad (15 + 20 * k + c0)))] := hl
  refine lv_aload_n hx hb dX0_driftWithScrew_0 rfl (lv_at hl 0 rfl) ?_
  refine c_get hx hb hts hown hK hI (15 + 20 * k + c0) (by omega) (cE_cl (by omega)) rfl hinX0 2 (by decide) (hts (.fieldLink RX0 18 "WinderLadders$Clock" "drift" "I") (by decide +kernel)) (v := .int (C k (12 + 8 * c0 + 2))) rfl dX0_driftWithScrew_1 ?_
  refine lv_iconst (v := 3) hx hb dX0_driftWithScrew_4 (by decide) ?_
  refine lv_aload_n hx hb dX0_driftWithScrew_5 rfl (lv_at hl 0 rfl) ?_
  refine c_get hx hb hts hown hK hI (15 + 20 * k + c0) (by omega) (cE_cl (by omega)) rfl hinX0 3 (by decide) (hts (.fieldLink RX0 21 "WinderLadders$Clock" "screw" "I") (by decide +kernel)) (v := .int (C k (12 + 8 * c0 + 3))) rfl dX0_driftWithScrew_6 ?_
  refine lv_imul hx hb dX0_driftWithScrew_9 ?_
  refine lv_iadd hx hb dX0_driftWithScrew_10 ?_
  exact c_iret (v := (C k (12 + 8 * c0 + 2)) + (3 * (C k (12 + 8 * c0 + 3)))) hx hb hr hI (⟨rfl, rfl, rfl⟩) dX0_driftWithScrew_11 hlocks

set_option maxHeartbeats 4000000 in
set_option maxRecDepth 100000 in
theorem k_X0_isOffBeyond (l : Launch) (dd : va_G) (g : Nat → ClassId) (ad pi : Nat → Nat) (A : Nat → Prop) (hA : cA A ad) (C : MS) (k c0 : Nat) (hk : k < 10) (hc : c0 < 16) (t : Int32) : Met l yX0_isOffBeyond wsX0_isOffBeyond ({ frames := 1, cells := 0, slots := 0, locals := 24 }) (cPre dd g ad pi A C [.ref (ad (15 + 20 * k + c0)), .int t]) (cQi dd g ad A (fun r C1 pi1 => ((offB (C k) c0 t = true ∧ r = 1) ∨ (offB (C k) c0 t = false ∧ r = 0)) ∧ C1 = C ∧ pi1 = pi)) 0 0 A := by
  refine Met.ofW (cc := cX0_isOffBeyond) (maxL := 2) (ret := (some .boolean)) (by decide) rfl ?_
  intro p e s m args below meth c s₁ B hml hv
  obtain ⟨rfl, hP0, hK, hX⟩ := hv
  have hx := B.exec
  have hb := B.bytes
  have hr := B.returns
  have hts := atoms_spec (ws := wsX0_isOffBeyond) B.pre
  have hown : s.vm.findClass RX0 = some m.cls := findClass_of_methodNamed B.named
  have hlocks := B.notSynchronized
  have hinX0 : ∀ w ∈ wsX00, w ∈ wsX0_isOffBeyond := by decide +kernel
  have hI : cI dd g ad pi A s.heap s.heap [] C := ⟨hP0, va_S.rf⟩
  have hl := lv_entry ([.ref (ad (15 + 20 * k + c0)), .int t]) (n := 2) (Nat.le_of_ble_eq_true rfl)
  rw [lg_entry_eq]
  generalize (lg_sl ([.ref (ad (15 + 20 * k + c0)), .int t]) ++ List.replicate (2 - (lg_sl ([.ref (ad (15 + 20 * k + c0)), .int t])).length) Slot.unset).toArray = ls at hl ⊢
  have hl : lv_has ls 2 [(0, .ref (ad (15 + 20 * k + c0))), (1, .int t)] := hl
  refine lv_aload_n hx hb dX0_isOffBeyond_0 rfl (lv_at hl 0 rfl) ?_
  refine c_get hx hb hts hown hK hI (15 + 20 * k + c0) (by omega) (cE_cl (by omega)) rfl hinX0 4 (by decide) (hts (.fieldLink RX0 24 "WinderLadders$Clock" "off" "I") (by decide +kernel)) (v := .int (C k (12 + 8 * c0 + 4))) rfl dX0_isOffBeyond_1 ?_
  refine va_mabs hx hb (hml.trans hl.1.symm) hown (hts (.methodLink RX0 37 Lib.Math.abs.name) (by decide +kernel)) (hts (.static Lib.Math.abs.name) (by decide +kernel)) (hts (.initialized "java/lang/Math") (by decide +kernel)) (hts (.code Lib.Math.abs.name Lib.Math.abs.code 1 (some .int)) (by decide +kernel)) (Nat.le_of_ble_eq_true rfl) (Nat.le_of_ble_eq_true rfl) (Nat.zero_le _) (Nat.zero_le _) dX0_isOffBeyond_4 ?_
  refine lv_re (jabs_eq (C k (12 + 8 * c0 + 4))) ?_
  refine lv_iload_n hx hb dX0_isOffBeyond_7 rfl (lv_at hl 1 rfl) ?_
  refine lv_icmp_le (tgt := 15) hx hb dX0_isOffBeyond_8 (by decide) (fun c1 => ?_) (fun c1 => ?_)
  · skip
    refine lv_iconst (v := 0) hx hb dX0_isOffBeyond_15 (by decide) ?_
    exact c_zret (v := 0) hx hb hr (by first | rfl | decide) hI (⟨by simp [offB, c1], rfl, rfl⟩) dX0_isOffBeyond_16 hlocks
  · skip
    refine lv_iconst (v := 1) hx hb dX0_isOffBeyond_11 (by decide) ?_
    refine lv_goto (tgt := 16) hx hb dX0_isOffBeyond_12 (by decide) ?_
    exact c_zret (v := 1) hx hb hr (by first | rfl | decide) hI (⟨by simp [offB, c1], rfl, rfl⟩) dX0_isOffBeyond_16 hlocks

set_option maxHeartbeats 4000000 in
set_option maxRecDepth 100000 in
theorem k_X0_passDay (l : Launch) (dd : va_G) (g : Nat → ClassId) (ad pi : Nat → Nat) (A : Nat → Prop) (hA : cA A ad) (C : MS) (k c0 : Nat) (hk : k < 10) (hc : c0 < 16) (wd : Int32) : Met l yX0_passDay wsX0_passDay ({ frames := 1, cells := 0, slots := 0, locals := 20 }) (cPre dd g ad pi A C [.ref (ad (15 + 20 * k + c0)), .int wd]) (cQv dd g ad A (fun C1 pi1 => C1 = mrow C k (dayC (C k) c0 wd) ∧ pi1 = pi)) 0 0 A := by
  refine Met.ofW (cc := cX0_passDay) (maxL := 2) (ret := none) (by decide) rfl ?_
  intro p e s m args below meth c s₁ B hml hv
  obtain ⟨rfl, hP0, hK, hX⟩ := hv
  have hx := B.exec
  have hb := B.bytes
  have hr := B.returns
  have hts := atoms_spec (ws := wsX0_passDay) B.pre
  have hown : s.vm.findClass RX0 = some m.cls := findClass_of_methodNamed B.named
  have hlocks := B.notSynchronized
  have hinX0 : ∀ w ∈ wsX00, w ∈ wsX0_passDay := by decide +kernel
  have hI : cI dd g ad pi A s.heap s.heap [] C := ⟨hP0, va_S.rf⟩
  have hl := lv_entry ([.ref (ad (15 + 20 * k + c0)), .int wd]) (n := 2) (Nat.le_of_ble_eq_true rfl)
  rw [lg_entry_eq]
  generalize (lg_sl ([.ref (ad (15 + 20 * k + c0)), .int wd]) ++ List.replicate (2 - (lg_sl ([.ref (ad (15 + 20 * k + c0)), .int wd])).length) Slot.unset).toArray = ls at hl ⊢
  have hl : lv_has ls 2 [(0, .ref (ad (15 + 20 * k + c0))), (1, .int wd)] := hl
  refine lv_aload_n hx hb dX0_passDay_0 rfl (lv_at hl 0 rfl) ?_
  refine c_get hx hb hts hown hK hI (15 + 20 * k + c0) (by omega) (cE_cl (by omega)) rfl hinX0 7 (by decide) (hts (.fieldLink RX0 33 "WinderLadders$Clock" "goes" "Z") (by decide +kernel)) (v := .int (C k (12 + 8 * c0 + 6))) rfl dX0_passDay_1 ?_
  refine lv_if_eq (tgt := 20) hx hb dX0_passDay_4 (by decide) (fun c1 => ?_) (fun c1 => ?_)
  · skip
    refine lv_aload_n hx hb dX0_passDay_20 rfl (lv_at hl 0 rfl) ?_
    refine lv_dup hx hb dX0_passDay_21 rfl ?_
    refine c_get hx hb hts hown hK hI (15 + 20 * k + c0) (by omega) (cE_cl (by omega)) rfl hinX0 5 (by decide) (hts (.fieldLink RX0 27 "WinderLadders$Clock" "daysSinceWound" "I") (by decide +kernel)) (v := .int (C k (12 + 8 * c0 + 5))) rfl dX0_passDay_22 ?_
    refine lv_iconst (v := 1) hx hb dX0_passDay_25 (by decide) ?_
    refine lv_iadd hx hb dX0_passDay_26 ?_
    refine c_putC hx hb hts hinX0 hown hK hA hI k c0 5 5 (by omega) (by omega) (by decide) (hts (.fieldLink RX0 27 "WinderLadders$Clock" "daysSinceWound" "I") (by decide +kernel)) (fun h => absurd h (by decide)) dX0_passDay_27 (fun H locs hI => ?_)
    refine lv_aload_n hx hb dX0_passDay_30 rfl (lv_at hl 0 rfl) ?_
    refine c_get hx hb hts hown hK hI (15 + 20 * k + c0) (by omega) (cE_cl (by omega)) rfl hinX0 5 (by decide) (hts (.fieldLink RX0 27 "WinderLadders$Clock" "daysSinceWound" "I") (by decide +kernel)) (v := .int ((C k (12 + 8 * c0 + 5)) + 1)) (congrArg (fun z => some (Value.int z)) (mset_eq _ _ _ _)) dX0_passDay_31 ?_
    refine lv_iload_n hx hb dX0_passDay_34 rfl (lv_at hl 1 rfl) ?_
    refine lv_icmp_le (tgt := 49) hx hb dX0_passDay_35 (by decide) (fun c2 => ?_) (fun c2 => ?_)
    · skip
      exact c_vret hx hb hr hI (⟨by simp [dayC, mset_mrow, mrow_s, mrow_mrow, rt, upd_ne, upd_self, -Int32.not_lt, -Int32.not_le, c1, c2], rfl⟩) dX0_passDay_49 hlocks
    · skip
      refine lv_aload_n hx hb dX0_passDay_38 rfl (lv_at hl 0 rfl) ?_
      refine lv_iconst (v := 0) hx hb dX0_passDay_39 (by decide) ?_
      refine c_putC hx hb hts hinX0 hown hK hA hI k c0 6 7 (by omega) (by omega) (by decide) (hts (.fieldLink RX0 33 "WinderLadders$Clock" "goes" "Z") (by decide +kernel)) (fun _ => by first | exact Or.inl rfl | exact Or.inr rfl) dX0_passDay_40 (fun H locs hI => ?_)
      refine lv_aload_n hx hb dX0_passDay_43 rfl (lv_at hl 0 rfl) ?_
      refine lv_ldc hx hb hown (hts (.constant RX0 47 (43200)) (by decide +kernel)) dX0_passDay_44 ?_
      refine c_putC hx hb hts hinX0 hown hK hA hI k c0 4 4 (by omega) (by omega) (by decide) (hts (.fieldLink RX0 24 "WinderLadders$Clock" "off" "I") (by decide +kernel)) (fun h => absurd h (by decide)) dX0_passDay_46 (fun H locs hI => ?_)
      exact c_vret hx hb hr hI (⟨by simp [dayC, mset_mrow, mrow_s, mrow_mrow, rt, upd_ne, upd_self, -Int32.not_lt, -Int32.not_le, c1, c2], rfl⟩) dX0_passDay_49 hlocks
  · skip
    refine lv_aload_n hx hb dX0_passDay_7 rfl (lv_at hl 0 rfl) ?_
    refine lv_dup hx hb dX0_passDay_8 rfl ?_
    refine c_get hx hb hts hown hK hI (15 + 20 * k + c0) (by omega) (cE_cl (by omega)) rfl hinX0 4 (by decide) (hts (.fieldLink RX0 24 "WinderLadders$Clock" "off" "I") (by decide +kernel)) (v := .int (C k (12 + 8 * c0 + 4))) rfl dX0_passDay_9 ?_
    refine lv_aload_n hx hb dX0_passDay_12 rfl (lv_at hl 0 rfl) ?_
    refine c_calli (As := []) (rest := [.int (C k (12 + 8 * c0 + 4)), .ref (ad (15 + 20 * k + c0))]) hx hb hml hown hts hK hX hI (15 + 20 * k + c0) (by omega) (cE_cl (by omega)) rfl (k_X0_driftWithScrew l dd g ad pi A hA C k c0 (by omega) (by omega)) (cwV 0 hts gX0_passDay_X0_driftWithScrew rfl rfl rfl (by decide +kernel) ⟨Nat.le_of_ble_eq_true rfl, Nat.le_of_ble_eq_true rfl⟩) rfl hl (Nat.le_of_ble_eq_true rfl) ⟨Nat.zero_le _, Nat.zero_le _⟩ dX0_passDay_13 rfl (fun r C1 pi1 H locs h3 hI => ?_)
    obtain ⟨hr9, hc9, hp9⟩ := h3
    rw [hc9, hp9] at hI
    subst hr9
    refine lv_iadd hx hb dX0_passDay_16 ?_
    refine c_putC hx hb hts hinX0 hown hK hA hI k c0 4 4 (by omega) (by omega) (by decide) (hts (.fieldLink RX0 24 "WinderLadders$Clock" "off" "I") (by decide +kernel)) (fun h => absurd h (by decide)) dX0_passDay_17 (fun H locs hI => ?_)
    refine lv_aload_n hx hb dX0_passDay_20 rfl (lv_at hl 0 rfl) ?_
    refine lv_dup hx hb dX0_passDay_21 rfl ?_
    refine c_get hx hb hts hown hK hI (15 + 20 * k + c0) (by omega) (cE_cl (by omega)) rfl hinX0 5 (by decide) (hts (.fieldLink RX0 27 "WinderLadders$Clock" "daysSinceWound" "I") (by decide +kernel)) (v := .int (C k (12 + 8 * c0 + 5))) (congrArg (fun z => some (Value.int z)) (mset_nj _ (by omega) _ _)) dX0_passDay_22 ?_
    refine lv_iconst (v := 1) hx hb dX0_passDay_25 (by decide) ?_
    refine lv_iadd hx hb dX0_passDay_26 ?_
    refine c_putC hx hb hts hinX0 hown hK hA hI k c0 5 5 (by omega) (by omega) (by decide) (hts (.fieldLink RX0 27 "WinderLadders$Clock" "daysSinceWound" "I") (by decide +kernel)) (fun h => absurd h (by decide)) dX0_passDay_27 (fun H locs hI => ?_)
    refine lv_aload_n hx hb dX0_passDay_30 rfl (lv_at hl 0 rfl) ?_
    refine c_get hx hb hts hown hK hI (15 + 20 * k + c0) (by omega) (cE_cl (by omega)) rfl hinX0 5 (by decide) (hts (.fieldLink RX0 27 "WinderLadders$Clock" "daysSinceWound" "I") (by decide +kernel)) (v := .int ((C k (12 + 8 * c0 + 5)) + 1)) (congrArg (fun z => some (Value.int z)) (mset_eq _ _ _ _)) dX0_passDay_31 ?_
    refine lv_iload_n hx hb dX0_passDay_34 rfl (lv_at hl 1 rfl) ?_
    refine lv_icmp_le (tgt := 49) hx hb dX0_passDay_35 (by decide) (fun c4 => ?_) (fun c4 => ?_)
    · skip
      exact c_vret hx hb hr hI (⟨by simp [dayC, mset_mrow, mrow_s, mrow_mrow, rt, upd_ne, upd_self, -Int32.not_lt, -Int32.not_le, c1, c4], rfl⟩) dX0_passDay_49 hlocks
    · skip
      refine lv_aload_n hx hb dX0_passDay_38 rfl (lv_at hl 0 rfl) ?_
      refine lv_iconst (v := 0) hx hb dX0_passDay_39 (by decide) ?_
      refine c_putC hx hb hts hinX0 hown hK hA hI k c0 6 7 (by omega) (by omega) (by decide) (hts (.fieldLink RX0 33 "WinderLadders$Clock" "goes" "Z") (by decide +kernel)) (fun _ => by first | exact Or.inl rfl | exact Or.inr rfl) dX0_passDay_40 (fun H locs hI => ?_)
      refine lv_aload_n hx hb dX0_passDay_43 rfl (lv_at hl 0 rfl) ?_
      refine lv_ldc hx hb hown (hts (.constant RX0 47 (43200)) (by decide +kernel)) dX0_passDay_44 ?_
      refine c_putC hx hb hts hinX0 hown hK hA hI k c0 4 4 (by omega) (by omega) (by decide) (hts (.fieldLink RX0 24 "WinderLadders$Clock" "off" "I") (by decide +kernel)) (fun h => absurd h (by decide)) dX0_passDay_46 (fun H locs hI => ?_)
      exact c_vret hx hb hr hI (⟨by simp [dayC, mset_mrow, mrow_s, mrow_mrow, rt, upd_ne, upd_self, -Int32.not_lt, -Int32.not_le, c1, c4], rfl⟩) dX0_passDay_49 hlocks

set_option maxHeartbeats 4000000 in
set_option maxRecDepth 100000 in
theorem k_X0_begin (l : Launch) (dd : va_G) (g : Nat → ClassId) (ad pi : Nat → Nat) (A : Nat → Prop) (hA : cA A ad) (C : MS) (k c0 : Nat) (hk : k < 10) (hc : c0 < 16) (h u d : Int32) : Met l yX0_begin wsX0_begin ({ frames := 0, cells := 0, slots := 0, locals := 0 }) (cPre dd g ad pi A C [.ref (ad (15 + 20 * k + c0)), .int h, .int u, .int d]) (cQv dd g ad A (fun C1 pi1 => C1 = mrow C k (begC (C k) c0 h u d) ∧ pi1 = pi)) 0 0 A := by
  refine Met.ofW (cc := cX0_begin) (maxL := 4) (ret := none) (by decide) rfl ?_
  intro p e s m args below meth c s₁ B hml hv
  obtain ⟨rfl, hP0, hK, hX⟩ := hv
  have hx := B.exec
  have hb := B.bytes
  have hr := B.returns
  have hts := atoms_spec (ws := wsX0_begin) B.pre
  have hown : s.vm.findClass RX0 = some m.cls := findClass_of_methodNamed B.named
  have hlocks := B.notSynchronized
  have hinX0 : ∀ w ∈ wsX00, w ∈ wsX0_begin := by decide +kernel
  have hI : cI dd g ad pi A s.heap s.heap [] C := ⟨hP0, va_S.rf⟩
  have hl := lv_entry ([.ref (ad (15 + 20 * k + c0)), .int h, .int u, .int d]) (n := 4) (Nat.le_of_ble_eq_true rfl)
  rw [lg_entry_eq]
  generalize (lg_sl ([.ref (ad (15 + 20 * k + c0)), .int h, .int u, .int d]) ++ List.replicate (4 - (lg_sl ([.ref (ad (15 + 20 * k + c0)), .int h, .int u, .int d])).length) Slot.unset).toArray = ls at hl ⊢
  have hl : lv_has ls 4 [(0, .ref (ad (15 + 20 * k + c0))), (1, .int h), (2, .int u), (3, .int d)] := hl
  refine lv_aload_n hx hb dX0_begin_0 rfl (lv_at hl 0 rfl) ?_
  refine lv_iload_n hx hb dX0_begin_1 rfl (lv_at hl 1 rfl) ?_
  refine c_putC hx hb hts hinX0 hown hK hA hI k c0 0 0 (by omega) (by omega) (by decide) (hts (.fieldLink RX0 9 "WinderLadders$Clock" "house" "I") (by decide +kernel)) (fun h => absurd h (by decide)) dX0_begin_2 (fun H locs hI => ?_)
  refine lv_aload_n hx hb dX0_begin_5 rfl (lv_at hl 0 rfl) ?_
  refine lv_iload_n hx hb dX0_begin_6 rfl (lv_at hl 2 rfl) ?_
  refine c_putC hx hb hts hinX0 hown hK hA hI k c0 1 1 (by omega) (by omega) (by decide) (hts (.fieldLink RX0 15 "WinderLadders$Clock" "rungs" "I") (by decide +kernel)) (fun h => absurd h (by decide)) dX0_begin_7 (fun H locs hI => ?_)
  refine lv_aload_n hx hb dX0_begin_10 rfl (lv_at hl 0 rfl) ?_
  refine lv_iload_n hx hb dX0_begin_11 rfl (lv_at hl 3 rfl) ?_
  refine c_putC hx hb hts hinX0 hown hK hA hI k c0 2 2 (by omega) (by omega) (by decide) (hts (.fieldLink RX0 18 "WinderLadders$Clock" "drift" "I") (by decide +kernel)) (fun h => absurd h (by decide)) dX0_begin_12 (fun H locs hI => ?_)
  refine lv_aload_n hx hb dX0_begin_15 rfl (lv_at hl 0 rfl) ?_
  refine lv_iconst (v := 0) hx hb dX0_begin_16 (by decide) ?_
  refine c_putC hx hb hts hinX0 hown hK hA hI k c0 3 3 (by omega) (by omega) (by decide) (hts (.fieldLink RX0 21 "WinderLadders$Clock" "screw" "I") (by decide +kernel)) (fun h => absurd h (by decide)) dX0_begin_17 (fun H locs hI => ?_)
  refine lv_aload_n hx hb dX0_begin_20 rfl (lv_at hl 0 rfl) ?_
  refine lv_iconst (v := 0) hx hb dX0_begin_21 (by decide) ?_
  refine c_putC hx hb hts hinX0 hown hK hA hI k c0 4 4 (by omega) (by omega) (by decide) (hts (.fieldLink RX0 24 "WinderLadders$Clock" "off" "I") (by decide +kernel)) (fun h => absurd h (by decide)) dX0_begin_22 (fun H locs hI => ?_)
  refine lv_aload_n hx hb dX0_begin_25 rfl (lv_at hl 0 rfl) ?_
  refine lv_iconst (v := 0) hx hb dX0_begin_26 (by decide) ?_
  refine c_putC hx hb hts hinX0 hown hK hA hI k c0 5 5 (by omega) (by omega) (by decide) (hts (.fieldLink RX0 27 "WinderLadders$Clock" "daysSinceWound" "I") (by decide +kernel)) (fun h => absurd h (by decide)) dX0_begin_27 (fun H locs hI => ?_)
  refine lv_aload_n hx hb dX0_begin_30 rfl (lv_at hl 0 rfl) ?_
  refine lv_iconst (v := 0) hx hb dX0_begin_31 (by decide) ?_
  refine c_putC hx hb hts hinX0 hown hK hA hI k c0 7 6 (by omega) (by omega) (by decide) (hts (.fieldLink RX0 30 "WinderLadders$Clock" "timesWound" "I") (by decide +kernel)) (fun h => absurd h (by decide)) dX0_begin_32 (fun H locs hI => ?_)
  refine lv_aload_n hx hb dX0_begin_35 rfl (lv_at hl 0 rfl) ?_
  refine lv_iconst (v := 1) hx hb dX0_begin_36 (by decide) ?_
  refine c_putC hx hb hts hinX0 hown hK hA hI k c0 6 7 (by omega) (by omega) (by decide) (hts (.fieldLink RX0 33 "WinderLadders$Clock" "goes" "Z") (by decide +kernel)) (fun _ => by first | exact Or.inl rfl | exact Or.inr rfl) dX0_begin_37 (fun H locs hI => ?_)
  exact c_vret hx hb hr hI (⟨by simp only [mset_mrow, mrow_s, mrow_mrow]; rfl, rfl⟩) dX0_begin_40 hlocks

set_option maxHeartbeats 4000000 in
set_option maxRecDepth 100000 in
theorem k_X0_turnByRule (l : Launch) (dd : va_G) (g : Nat → ClassId) (ad pi : Nat → Nat) (A : Nat → Prop) (hA : cA A ad) (C : MS) (k c0 : Nat) (hk : k < 10) (hc : c0 < 16) : Met l yX0_turnByRule wsX0_turnByRule ({ frames := 1, cells := 0, slots := 0, locals := 20 }) (cPre dd g ad pi A C [.ref (ad (15 + 20 * k + c0))]) (cQv dd g ad A (fun C1 pi1 => C1 = mrow C k (turC (C k) c0) ∧ pi1 = pi)) 0 0 A := by
  refine Met.ofW (cc := cX0_turnByRule) (maxL := 2) (ret := none) (by decide) rfl ?_
  intro p e s m args below meth c s₁ B hml hv
  obtain ⟨rfl, hP0, hK, hX⟩ := hv
  have hx := B.exec
  have hb := B.bytes
  have hr := B.returns
  have hts := atoms_spec (ws := wsX0_turnByRule) B.pre
  have hown : s.vm.findClass RX0 = some m.cls := findClass_of_methodNamed B.named
  have hlocks := B.notSynchronized
  have hinX0 : ∀ w ∈ wsX00, w ∈ wsX0_turnByRule := by decide +kernel
  have hI : cI dd g ad pi A s.heap s.heap [] C := ⟨hP0, va_S.rf⟩
  have hl := lv_entry ([.ref (ad (15 + 20 * k + c0))]) (n := 2) (Nat.le_of_ble_eq_true rfl)
  rw [lg_entry_eq]
  generalize (lg_sl ([.ref (ad (15 + 20 * k + c0))]) ++ List.replicate (2 - (lg_sl ([.ref (ad (15 + 20 * k + c0))])).length) Slot.unset).toArray = ls at hl ⊢
  have hl : lv_has ls 2 [(0, .ref (ad (15 + 20 * k + c0)))] := hl
  refine lv_aload_n hx hb dX0_turnByRule_0 rfl (lv_at hl 0 rfl) ?_
  refine c_calli (As := []) (rest := []) hx hb hml hown hts hK hX hI (15 + 20 * k + c0) (by omega) (cE_cl (by omega)) rfl (k_X0_driftWithScrew l dd g ad pi A hA C k c0 (by omega) (by omega)) (cwV 0 hts gX0_turnByRule_X0_driftWithScrew rfl rfl rfl (by decide +kernel) ⟨Nat.le_of_ble_eq_true rfl, Nat.le_of_ble_eq_true rfl⟩) rfl hl (Nat.le_of_ble_eq_true rfl) ⟨Nat.zero_le _, Nat.zero_le _⟩ dX0_turnByRule_1 rfl (fun r C1 pi1 H locs h1 hI => ?_)
  obtain ⟨hr9, hc9, hp9⟩ := h1
  rw [hc9, hp9] at hI
  subst hr9
  refine lv_istore_n (lv' := [(1, .int (rt (C k) c0)), (0, .ref (ad (15 + 20 * k + c0)))]) hx hb dX0_turnByRule_4 rfl hl (by decide) rfl (fun ls hl => ?_)
  refine lv_iload_n hx hb dX0_turnByRule_5 rfl (lv_at hl 0 rfl) ?_
  refine lv_if_le (tgt := 31) hx hb dX0_turnByRule_6 (by decide) (fun c2 => ?_) (fun c2 => ?_)
  · skip
    refine lv_iload_n hx hb dX0_turnByRule_31 rfl (lv_at hl 0 rfl) ?_
    refine lv_if_ge (tgt := 54) hx hb dX0_turnByRule_32 (by decide) (fun c3 => ?_) (fun c3 => ?_)
    · skip
      exact c_vret hx hb hr hI (⟨by simp only [turC, if_pos c2, if_pos c3]; first | rfl | exact (mrow_self _ _).symm | (simp only [mset_mrow]; done), rfl⟩) dX0_turnByRule_54 hlocks
    · skip
      refine lv_aload_n hx hb dX0_turnByRule_35 rfl (lv_at hl 1 rfl) ?_
      refine c_get hx hb hts hown hK hI (15 + 20 * k + c0) (by omega) (cE_cl (by omega)) rfl hinX0 3 (by decide) (hts (.fieldLink RX0 21 "WinderLadders$Clock" "screw" "I") (by decide +kernel)) (v := .int (C k (12 + 8 * c0 + 3))) rfl dX0_turnByRule_36 ?_
      refine lv_bipush (v := 20) hx hb dX0_turnByRule_39 (by decide) ?_
      refine lv_icmp_ge (tgt := 54) hx hb dX0_turnByRule_41 (by decide) (fun c4 => ?_) (fun c4 => ?_)
      · skip
        exact c_vret hx hb hr hI (⟨by simp only [turC, if_pos c2, if_neg c3, if_pos c4]; first | rfl | exact (mrow_self _ _).symm | (simp only [mset_mrow]; done), rfl⟩) dX0_turnByRule_54 hlocks
      · skip
        refine lv_aload_n hx hb dX0_turnByRule_44 rfl (lv_at hl 1 rfl) ?_
        refine lv_dup hx hb dX0_turnByRule_45 rfl ?_
        refine c_get hx hb hts hown hK hI (15 + 20 * k + c0) (by omega) (cE_cl (by omega)) rfl hinX0 3 (by decide) (hts (.fieldLink RX0 21 "WinderLadders$Clock" "screw" "I") (by decide +kernel)) (v := .int (C k (12 + 8 * c0 + 3))) rfl dX0_turnByRule_46 ?_
        refine lv_iconst (v := 1) hx hb dX0_turnByRule_49 (by decide) ?_
        refine lv_iadd hx hb dX0_turnByRule_50 ?_
        refine c_putC hx hb hts hinX0 hown hK hA hI k c0 3 3 (by omega) (by omega) (by decide) (hts (.fieldLink RX0 21 "WinderLadders$Clock" "screw" "I") (by decide +kernel)) (fun h => absurd h (by decide)) dX0_turnByRule_51 (fun H locs hI => ?_)
        exact c_vret hx hb hr hI (⟨by simp only [turC, if_pos c2, if_neg c3, if_neg c4]; first | rfl | exact (mrow_self _ _).symm | (simp only [mset_mrow]; done), rfl⟩) dX0_turnByRule_54 hlocks
  · skip
    refine lv_aload_n hx hb dX0_turnByRule_9 rfl (lv_at hl 1 rfl) ?_
    refine c_get hx hb hts hown hK hI (15 + 20 * k + c0) (by omega) (cE_cl (by omega)) rfl hinX0 3 (by decide) (hts (.fieldLink RX0 21 "WinderLadders$Clock" "screw" "I") (by decide +kernel)) (v := .int (C k (12 + 8 * c0 + 3))) rfl dX0_turnByRule_10 ?_
    refine lv_bipush (v := (-20)) hx hb dX0_turnByRule_13 (by decide) ?_
    refine lv_icmp_le (tgt := 31) hx hb dX0_turnByRule_15 (by decide) (fun c5 => ?_) (fun c5 => ?_)
    · skip
      refine lv_iload_n hx hb dX0_turnByRule_31 rfl (lv_at hl 0 rfl) ?_
      refine lv_if_ge (tgt := 54) hx hb dX0_turnByRule_32 (by decide) (fun c6 => ?_) (fun c6 => ?_)
      · skip
        exact c_vret hx hb hr hI (⟨by simp only [turC, if_neg c2, if_pos c5, if_pos c6]; first | rfl | exact (mrow_self _ _).symm | (simp only [mset_mrow]; done), rfl⟩) dX0_turnByRule_54 hlocks
      · skip
        refine lv_aload_n hx hb dX0_turnByRule_35 rfl (lv_at hl 1 rfl) ?_
        refine c_get hx hb hts hown hK hI (15 + 20 * k + c0) (by omega) (cE_cl (by omega)) rfl hinX0 3 (by decide) (hts (.fieldLink RX0 21 "WinderLadders$Clock" "screw" "I") (by decide +kernel)) (v := .int (C k (12 + 8 * c0 + 3))) rfl dX0_turnByRule_36 ?_
        refine lv_bipush (v := 20) hx hb dX0_turnByRule_39 (by decide) ?_
        refine lv_icmp_ge (tgt := 54) hx hb dX0_turnByRule_41 (by decide) (fun c7 => ?_) (fun c7 => ?_)
        · skip
          exact c_vret hx hb hr hI (⟨by simp only [turC, if_neg c2, if_pos c5, if_neg c6, if_pos c7]; first | rfl | exact (mrow_self _ _).symm | (simp only [mset_mrow]; done), rfl⟩) dX0_turnByRule_54 hlocks
        · skip
          refine lv_aload_n hx hb dX0_turnByRule_44 rfl (lv_at hl 1 rfl) ?_
          refine lv_dup hx hb dX0_turnByRule_45 rfl ?_
          refine c_get hx hb hts hown hK hI (15 + 20 * k + c0) (by omega) (cE_cl (by omega)) rfl hinX0 3 (by decide) (hts (.fieldLink RX0 21 "WinderLadders$Clock" "screw" "I") (by decide +kernel)) (v := .int (C k (12 + 8 * c0 + 3))) rfl dX0_turnByRule_46 ?_
          refine lv_iconst (v := 1) hx hb dX0_turnByRule_49 (by decide) ?_
          refine lv_iadd hx hb dX0_turnByRule_50 ?_
          refine c_putC hx hb hts hinX0 hown hK hA hI k c0 3 3 (by omega) (by omega) (by decide) (hts (.fieldLink RX0 21 "WinderLadders$Clock" "screw" "I") (by decide +kernel)) (fun h => absurd h (by decide)) dX0_turnByRule_51 (fun H locs hI => ?_)
          exact c_vret hx hb hr hI (⟨by simp only [turC, if_neg c2, if_pos c5, if_neg c6, if_neg c7]; first | rfl | exact (mrow_self _ _).symm | (simp only [mset_mrow]; done), rfl⟩) dX0_turnByRule_54 hlocks
    · skip
      refine lv_aload_n hx hb dX0_turnByRule_18 rfl (lv_at hl 1 rfl) ?_
      refine lv_dup hx hb dX0_turnByRule_19 rfl ?_
      refine c_get hx hb hts hown hK hI (15 + 20 * k + c0) (by omega) (cE_cl (by omega)) rfl hinX0 3 (by decide) (hts (.fieldLink RX0 21 "WinderLadders$Clock" "screw" "I") (by decide +kernel)) (v := .int (C k (12 + 8 * c0 + 3))) rfl dX0_turnByRule_20 ?_
      refine lv_iconst (v := 1) hx hb dX0_turnByRule_23 (by decide) ?_
      refine lv_isub hx hb dX0_turnByRule_24 ?_
      refine c_putC hx hb hts hinX0 hown hK hA hI k c0 3 3 (by omega) (by omega) (by decide) (hts (.fieldLink RX0 21 "WinderLadders$Clock" "screw" "I") (by decide +kernel)) (fun h => absurd h (by decide)) dX0_turnByRule_25 (fun H locs hI => ?_)
      refine lv_goto (tgt := 54) hx hb dX0_turnByRule_28 (by decide) ?_
      exact c_vret hx hb hr hI (⟨by simp only [turC, if_neg c2, if_neg c5]; first | rfl | exact (mrow_self _ _).symm | (simp only [mset_mrow]; done), rfl⟩) dX0_turnByRule_54 hlocks

set_option maxHeartbeats 4000000 in
set_option maxRecDepth 100000 in
theorem k_X0_windAndSet (l : Launch) (dd : va_G) (g : Nat → ClassId) (ad pi : Nat → Nat) (A : Nat → Prop) (hA : cA A ad) (C : MS) (k c0 : Nat) (hk : k < 10) (hc : c0 < 16) (t : Int32) : Met l yX0_windAndSet wsX0_windAndSet ({ frames := 2, cells := 0, slots := 0, locals := 45 }) (cPre dd g ad pi A C [.ref (ad (15 + 20 * k + c0)), .int t]) (cQv dd g ad A (fun C1 pi1 => C1 = mrow C k (winC (C k) c0 t) ∧ pi1 = pi)) 0 0 A := by
  refine Met.ofW (cc := cX0_windAndSet) (maxL := 2) (ret := none) (by decide) rfl ?_
  intro p e s m args below meth c s₁ B hml hv
  obtain ⟨rfl, hP0, hK, hX⟩ := hv
  have hx := B.exec
  have hb := B.bytes
  have hr := B.returns
  have hts := atoms_spec (ws := wsX0_windAndSet) B.pre
  have hown : s.vm.findClass RX0 = some m.cls := findClass_of_methodNamed B.named
  have hlocks := B.notSynchronized
  have hinX0 : ∀ w ∈ wsX00, w ∈ wsX0_windAndSet := by decide +kernel
  have hI : cI dd g ad pi A s.heap s.heap [] C := ⟨hP0, va_S.rf⟩
  have hl := lv_entry ([.ref (ad (15 + 20 * k + c0)), .int t]) (n := 2) (Nat.le_of_ble_eq_true rfl)
  rw [lg_entry_eq]
  generalize (lg_sl ([.ref (ad (15 + 20 * k + c0)), .int t]) ++ List.replicate (2 - (lg_sl ([.ref (ad (15 + 20 * k + c0)), .int t])).length) Slot.unset).toArray = ls at hl ⊢
  have hl : lv_has ls 2 [(0, .ref (ad (15 + 20 * k + c0))), (1, .int t)] := hl
  refine lv_aload_n hx hb dX0_windAndSet_0 rfl (lv_at hl 0 rfl) ?_
  refine c_get hx hb hts hown hK hI (15 + 20 * k + c0) (by omega) (cE_cl (by omega)) rfl hinX0 7 (by decide) (hts (.fieldLink RX0 33 "WinderLadders$Clock" "goes" "Z") (by decide +kernel)) (v := .int (C k (12 + 8 * c0 + 6))) rfl dX0_windAndSet_1 ?_
  refine lv_if_eq (tgt := 21) hx hb dX0_windAndSet_4 (by decide) (fun c1 => ?_) (fun c1 => ?_)
  · skip
    refine lv_aload_n hx hb dX0_windAndSet_21 rfl (lv_at hl 0 rfl) ?_
    refine lv_iconst (v := 1) hx hb dX0_windAndSet_22 (by decide) ?_
    refine c_putC hx hb hts hinX0 hown hK hA hI k c0 6 7 (by omega) (by omega) (by decide) (hts (.fieldLink RX0 33 "WinderLadders$Clock" "goes" "Z") (by decide +kernel)) (fun _ => by first | exact Or.inl rfl | exact Or.inr rfl) dX0_windAndSet_23 (fun H locs hI => ?_)
    refine lv_aload_n hx hb dX0_windAndSet_26 rfl (lv_at hl 0 rfl) ?_
    refine lv_iconst (v := 0) hx hb dX0_windAndSet_27 (by decide) ?_
    refine c_putC hx hb hts hinX0 hown hK hA hI k c0 4 4 (by omega) (by omega) (by decide) (hts (.fieldLink RX0 24 "WinderLadders$Clock" "off" "I") (by decide +kernel)) (fun h => absurd h (by decide)) dX0_windAndSet_28 (fun H locs hI => ?_)
    refine lv_aload_n hx hb dX0_windAndSet_31 rfl (lv_at hl 0 rfl) ?_
    refine lv_iconst (v := 0) hx hb dX0_windAndSet_32 (by decide) ?_
    refine c_putC hx hb hts hinX0 hown hK hA hI k c0 5 5 (by omega) (by omega) (by decide) (hts (.fieldLink RX0 27 "WinderLadders$Clock" "daysSinceWound" "I") (by decide +kernel)) (fun h => absurd h (by decide)) dX0_windAndSet_33 (fun H locs hI => ?_)
    refine lv_aload_n hx hb dX0_windAndSet_36 rfl (lv_at hl 0 rfl) ?_
    refine lv_dup hx hb dX0_windAndSet_37 rfl ?_
    refine c_get hx hb hts hown hK hI (15 + 20 * k + c0) (by omega) (cE_cl (by omega)) rfl hinX0 6 (by decide) (hts (.fieldLink RX0 30 "WinderLadders$Clock" "timesWound" "I") (by decide +kernel)) (v := .int (C k (12 + 8 * c0 + 7))) (congrArg (fun z => some (Value.int z)) ((mset_nj _ (by omega) _ _).trans ((mset_nj _ (by omega) _ _).trans (mset_nj _ (by omega) _ _)))) dX0_windAndSet_38 ?_
    refine lv_iconst (v := 1) hx hb dX0_windAndSet_41 (by decide) ?_
    refine lv_iadd hx hb dX0_windAndSet_42 ?_
    refine c_putC hx hb hts hinX0 hown hK hA hI k c0 7 6 (by omega) (by omega) (by decide) (hts (.fieldLink RX0 30 "WinderLadders$Clock" "timesWound" "I") (by decide +kernel)) (fun h => absurd h (by decide)) dX0_windAndSet_43 (fun H locs hI => ?_)
    exact c_vret hx hb hr hI (⟨by simp only [winC, mset_mrow, mrow_s, mrow_mrow, if_pos c1]; first | rfl | done, rfl⟩) dX0_windAndSet_46 hlocks
  · skip
    refine lv_aload_n hx hb dX0_windAndSet_7 rfl (lv_at hl 0 rfl) ?_
    refine lv_iload_n hx hb dX0_windAndSet_8 rfl (lv_at hl 1 rfl) ?_
    refine lv_iconst (v := 2) hx hb dX0_windAndSet_9 (by decide) ?_
    refine lv_idiv hx hb dX0_windAndSet_10 (by decide) ?_
    refine c_calli (As := [.int (t / 2)]) (rest := []) hx hb hml hown hts hK hX hI (15 + 20 * k + c0) (by omega) (cE_cl (by omega)) rfl (k_X0_isOffBeyond l dd g ad pi A hA C k c0 (by omega) (by omega) (t / 2)) (cwV 1 hts gX0_windAndSet_X0_isOffBeyond rfl rfl rfl (by decide +kernel) ⟨Nat.le_of_ble_eq_true rfl, Nat.le_of_ble_eq_true rfl⟩) rfl hl (Nat.le_of_ble_eq_true rfl) ⟨Nat.zero_le _, Nat.zero_le _⟩ dX0_windAndSet_11 rfl (fun r C1 pi1 H locs h3 hI => ?_)
    obtain ⟨h3, hc9, hp9⟩ := h3
    rw [hc9, hp9] at hI
    rcases h3 with ⟨b2, rfl⟩ | ⟨b2, rfl⟩
    · skip
      have b2 : offB (C k) c0 (t / 2) = true := b2
      refine lv_if_eq (tgt := 21) hx hb dX0_windAndSet_14 (by decide) (fun c4 => absurd c4 (by decide)) (fun _ => ?_)
      refine lv_aload_n hx hb dX0_windAndSet_17 rfl (lv_at hl 0 rfl) ?_
      refine c_callv (As := []) (rest := []) hx hb hml hown hts hK hX hI (15 + 20 * k + c0) (by omega) (cE_cl (by omega)) rfl (k_X0_turnByRule l dd g ad pi A hA C k c0 (by omega) (by omega)) (cwV 0 hts gX0_windAndSet_X0_turnByRule rfl rfl rfl (by decide +kernel) ⟨Nat.le_of_ble_eq_true rfl, Nat.le_of_ble_eq_true rfl⟩) rfl hl (Nat.le_of_ble_eq_true rfl) ⟨Nat.zero_le _, Nat.zero_le _⟩ dX0_windAndSet_18 rfl (fun C1 pi1 H locs h5 hI => ?_)
      obtain ⟨hc9, hp9⟩ := h5
      rw [hc9, hp9] at hI
      refine lv_aload_n hx hb dX0_windAndSet_21 rfl (lv_at hl 0 rfl) ?_
      refine lv_iconst (v := 1) hx hb dX0_windAndSet_22 (by decide) ?_
      refine c_putC hx hb hts hinX0 hown hK hA hI k c0 6 7 (by omega) (by omega) (by decide) (hts (.fieldLink RX0 33 "WinderLadders$Clock" "goes" "Z") (by decide +kernel)) (fun _ => by first | exact Or.inl rfl | exact Or.inr rfl) dX0_windAndSet_23 (fun H locs hI => ?_)
      refine lv_aload_n hx hb dX0_windAndSet_26 rfl (lv_at hl 0 rfl) ?_
      refine lv_iconst (v := 0) hx hb dX0_windAndSet_27 (by decide) ?_
      refine c_putC hx hb hts hinX0 hown hK hA hI k c0 4 4 (by omega) (by omega) (by decide) (hts (.fieldLink RX0 24 "WinderLadders$Clock" "off" "I") (by decide +kernel)) (fun h => absurd h (by decide)) dX0_windAndSet_28 (fun H locs hI => ?_)
      refine lv_aload_n hx hb dX0_windAndSet_31 rfl (lv_at hl 0 rfl) ?_
      refine lv_iconst (v := 0) hx hb dX0_windAndSet_32 (by decide) ?_
      refine c_putC hx hb hts hinX0 hown hK hA hI k c0 5 5 (by omega) (by omega) (by decide) (hts (.fieldLink RX0 27 "WinderLadders$Clock" "daysSinceWound" "I") (by decide +kernel)) (fun h => absurd h (by decide)) dX0_windAndSet_33 (fun H locs hI => ?_)
      refine lv_aload_n hx hb dX0_windAndSet_36 rfl (lv_at hl 0 rfl) ?_
      refine lv_dup hx hb dX0_windAndSet_37 rfl ?_
      refine c_get hx hb hts hown hK hI (15 + 20 * k + c0) (by omega) (cE_cl (by omega)) rfl hinX0 6 (by decide) (hts (.fieldLink RX0 30 "WinderLadders$Clock" "timesWound" "I") (by decide +kernel)) (v := .int ((turC (C k) c0) (12 + 8 * c0 + 7))) (congrArg (fun z => some (Value.int z)) ((mset_nj _ (by omega) _ _).trans ((mset_nj _ (by omega) _ _).trans ((mset_nj _ (by omega) _ _).trans ((congrFun (mrow_s _ _ _) _)))))) dX0_windAndSet_38 ?_
      refine lv_iconst (v := 1) hx hb dX0_windAndSet_41 (by decide) ?_
      refine lv_iadd hx hb dX0_windAndSet_42 ?_
      refine c_putC hx hb hts hinX0 hown hK hA hI k c0 7 6 (by omega) (by omega) (by decide) (hts (.fieldLink RX0 30 "WinderLadders$Clock" "timesWound" "I") (by decide +kernel)) (fun h => absurd h (by decide)) dX0_windAndSet_43 (fun H locs hI => ?_)
      exact c_vret hx hb hr hI (⟨by simp only [winC, mset_mrow, mrow_s, mrow_mrow, if_neg c1, if_pos b2]; first | rfl | done, rfl⟩) dX0_windAndSet_46 hlocks
    · skip
      have b2 : offB (C k) c0 (t / 2) = false := b2
      refine lv_if_eq (tgt := 21) hx hb dX0_windAndSet_14 (by decide) (fun _ => ?_) (fun c6 => absurd (by decide) c6)
      refine lv_aload_n hx hb dX0_windAndSet_21 rfl (lv_at hl 0 rfl) ?_
      refine lv_iconst (v := 1) hx hb dX0_windAndSet_22 (by decide) ?_
      refine c_putC hx hb hts hinX0 hown hK hA hI k c0 6 7 (by omega) (by omega) (by decide) (hts (.fieldLink RX0 33 "WinderLadders$Clock" "goes" "Z") (by decide +kernel)) (fun _ => by first | exact Or.inl rfl | exact Or.inr rfl) dX0_windAndSet_23 (fun H locs hI => ?_)
      refine lv_aload_n hx hb dX0_windAndSet_26 rfl (lv_at hl 0 rfl) ?_
      refine lv_iconst (v := 0) hx hb dX0_windAndSet_27 (by decide) ?_
      refine c_putC hx hb hts hinX0 hown hK hA hI k c0 4 4 (by omega) (by omega) (by decide) (hts (.fieldLink RX0 24 "WinderLadders$Clock" "off" "I") (by decide +kernel)) (fun h => absurd h (by decide)) dX0_windAndSet_28 (fun H locs hI => ?_)
      refine lv_aload_n hx hb dX0_windAndSet_31 rfl (lv_at hl 0 rfl) ?_
      refine lv_iconst (v := 0) hx hb dX0_windAndSet_32 (by decide) ?_
      refine c_putC hx hb hts hinX0 hown hK hA hI k c0 5 5 (by omega) (by omega) (by decide) (hts (.fieldLink RX0 27 "WinderLadders$Clock" "daysSinceWound" "I") (by decide +kernel)) (fun h => absurd h (by decide)) dX0_windAndSet_33 (fun H locs hI => ?_)
      refine lv_aload_n hx hb dX0_windAndSet_36 rfl (lv_at hl 0 rfl) ?_
      refine lv_dup hx hb dX0_windAndSet_37 rfl ?_
      refine c_get hx hb hts hown hK hI (15 + 20 * k + c0) (by omega) (cE_cl (by omega)) rfl hinX0 6 (by decide) (hts (.fieldLink RX0 30 "WinderLadders$Clock" "timesWound" "I") (by decide +kernel)) (v := .int (C k (12 + 8 * c0 + 7))) (congrArg (fun z => some (Value.int z)) ((mset_nj _ (by omega) _ _).trans ((mset_nj _ (by omega) _ _).trans (mset_nj _ (by omega) _ _)))) dX0_windAndSet_38 ?_
      refine lv_iconst (v := 1) hx hb dX0_windAndSet_41 (by decide) ?_
      refine lv_iadd hx hb dX0_windAndSet_42 ?_
      refine c_putC hx hb hts hinX0 hown hK hA hI k c0 7 6 (by omega) (by omega) (by decide) (hts (.fieldLink RX0 30 "WinderLadders$Clock" "timesWound" "I") (by decide +kernel)) (fun h => absurd h (by decide)) dX0_windAndSet_43 (fun H locs hI => ?_)
      exact c_vret hx hb hr hI (⟨by simp only [winC, mset_mrow, mrow_s, mrow_mrow, if_neg c1, if_neg (Bool.eq_false_iff.mp b2)]; first | rfl | done, rfl⟩) dX0_windAndSet_46 hlocks

set_option maxHeartbeats 4000000 in
set_option maxRecDepth 100000 in
theorem k_X0_copyFrom (l : Launch) (dd : va_G) (g : Nat → ClassId) (ad pi : Nat → Nat) (A : Nat → Prop) (hA : cA A ad) (C : MS) (k c0 : Nat) (hk : k < 10) (hc : c0 < 16) (k2 c2 : Nat) (hk2 : k2 < 10) (hc2 : c2 < 16) (hne : k ≠ k2) (hgo : C k2 (12 + 8 * c2 + 6) = 0 ∨ C k2 (12 + 8 * c2 + 6) = 1) : Met l yX0_copyFrom wsX0_copyFrom ({ frames := 0, cells := 0, slots := 0, locals := 0 }) (cPre dd g ad pi A C [.ref (ad (15 + 20 * k + c0)), .ref (ad (15 + 20 * k2 + c2))]) (cQv dd g ad A (fun C1 pi1 => C1 = mrow C k (cpyC (C k) (C k2) c0 c2) ∧ pi1 = pi)) 0 0 A := by
  refine Met.ofW (cc := cX0_copyFrom) (maxL := 2) (ret := none) (by decide) rfl ?_
  intro p e s m args below meth c s₁ B hml hv
  obtain ⟨rfl, hP0, hK, hX⟩ := hv
  have hx := B.exec
  have hb := B.bytes
  have hr := B.returns
  have hts := atoms_spec (ws := wsX0_copyFrom) B.pre
  have hown : s.vm.findClass RX0 = some m.cls := findClass_of_methodNamed B.named
  have hlocks := B.notSynchronized
  have hinX0 : ∀ w ∈ wsX00, w ∈ wsX0_copyFrom := by decide +kernel
  have hI : cI dd g ad pi A s.heap s.heap [] C := ⟨hP0, va_S.rf⟩
  have hl := lv_entry ([.ref (ad (15 + 20 * k + c0)), .ref (ad (15 + 20 * k2 + c2))]) (n := 2) (Nat.le_of_ble_eq_true rfl)
  rw [lg_entry_eq]
  generalize (lg_sl ([.ref (ad (15 + 20 * k + c0)), .ref (ad (15 + 20 * k2 + c2))]) ++ List.replicate (2 - (lg_sl ([.ref (ad (15 + 20 * k + c0)), .ref (ad (15 + 20 * k2 + c2))])).length) Slot.unset).toArray = ls at hl ⊢
  have hl : lv_has ls 2 [(0, .ref (ad (15 + 20 * k + c0))), (1, .ref (ad (15 + 20 * k2 + c2)))] := hl
  refine lv_aload_n hx hb dX0_copyFrom_0 rfl (lv_at hl 0 rfl) ?_
  refine lv_aload_n hx hb dX0_copyFrom_1 rfl (lv_at hl 1 rfl) ?_
  refine c_get hx hb hts hown hK hI (15 + 20 * k2 + c2) (by omega) (cE_cl (by omega)) rfl hinX0 0 (by decide) (hts (.fieldLink RX0 9 "WinderLadders$Clock" "house" "I") (by decide +kernel)) (v := .int (C k2 (12 + 8 * c2 + 0))) rfl dX0_copyFrom_2 ?_
  refine c_putC hx hb hts hinX0 hown hK hA hI k c0 0 0 (by omega) (by omega) (by decide) (hts (.fieldLink RX0 9 "WinderLadders$Clock" "house" "I") (by decide +kernel)) (fun h => absurd h (by decide)) dX0_copyFrom_5 (fun H locs hI => ?_)
  refine lv_aload_n hx hb dX0_copyFrom_8 rfl (lv_at hl 0 rfl) ?_
  refine lv_aload_n hx hb dX0_copyFrom_9 rfl (lv_at hl 1 rfl) ?_
  refine c_get hx hb hts hown hK hI (15 + 20 * k2 + c2) (by omega) (cE_cl (by omega)) rfl hinX0 1 (by decide) (hts (.fieldLink RX0 15 "WinderLadders$Clock" "rungs" "I") (by decide +kernel)) (v := .int (C k2 (12 + 8 * c2 + 1))) (congrArg (fun z => some (Value.int z)) (mset_nk _ (by omega) _ _ _)) dX0_copyFrom_10 ?_
  refine c_putC hx hb hts hinX0 hown hK hA hI k c0 1 1 (by omega) (by omega) (by decide) (hts (.fieldLink RX0 15 "WinderLadders$Clock" "rungs" "I") (by decide +kernel)) (fun h => absurd h (by decide)) dX0_copyFrom_13 (fun H locs hI => ?_)
  refine lv_aload_n hx hb dX0_copyFrom_16 rfl (lv_at hl 0 rfl) ?_
  refine lv_aload_n hx hb dX0_copyFrom_17 rfl (lv_at hl 1 rfl) ?_
  refine c_get hx hb hts hown hK hI (15 + 20 * k2 + c2) (by omega) (cE_cl (by omega)) rfl hinX0 2 (by decide) (hts (.fieldLink RX0 18 "WinderLadders$Clock" "drift" "I") (by decide +kernel)) (v := .int (C k2 (12 + 8 * c2 + 2))) (congrArg (fun z => some (Value.int z)) ((mset_nk _ (by omega) _ _ _).trans (mset_nk _ (by omega) _ _ _))) dX0_copyFrom_18 ?_
  refine c_putC hx hb hts hinX0 hown hK hA hI k c0 2 2 (by omega) (by omega) (by decide) (hts (.fieldLink RX0 18 "WinderLadders$Clock" "drift" "I") (by decide +kernel)) (fun h => absurd h (by decide)) dX0_copyFrom_21 (fun H locs hI => ?_)
  refine lv_aload_n hx hb dX0_copyFrom_24 rfl (lv_at hl 0 rfl) ?_
  refine lv_aload_n hx hb dX0_copyFrom_25 rfl (lv_at hl 1 rfl) ?_
  refine c_get hx hb hts hown hK hI (15 + 20 * k2 + c2) (by omega) (cE_cl (by omega)) rfl hinX0 3 (by decide) (hts (.fieldLink RX0 21 "WinderLadders$Clock" "screw" "I") (by decide +kernel)) (v := .int (C k2 (12 + 8 * c2 + 3))) (congrArg (fun z => some (Value.int z)) ((mset_nk _ (by omega) _ _ _).trans ((mset_nk _ (by omega) _ _ _).trans (mset_nk _ (by omega) _ _ _)))) dX0_copyFrom_26 ?_
  refine c_putC hx hb hts hinX0 hown hK hA hI k c0 3 3 (by omega) (by omega) (by decide) (hts (.fieldLink RX0 21 "WinderLadders$Clock" "screw" "I") (by decide +kernel)) (fun h => absurd h (by decide)) dX0_copyFrom_29 (fun H locs hI => ?_)
  refine lv_aload_n hx hb dX0_copyFrom_32 rfl (lv_at hl 0 rfl) ?_
  refine lv_aload_n hx hb dX0_copyFrom_33 rfl (lv_at hl 1 rfl) ?_
  refine c_get hx hb hts hown hK hI (15 + 20 * k2 + c2) (by omega) (cE_cl (by omega)) rfl hinX0 4 (by decide) (hts (.fieldLink RX0 24 "WinderLadders$Clock" "off" "I") (by decide +kernel)) (v := .int (C k2 (12 + 8 * c2 + 4))) (congrArg (fun z => some (Value.int z)) ((mset_nk _ (by omega) _ _ _).trans ((mset_nk _ (by omega) _ _ _).trans ((mset_nk _ (by omega) _ _ _).trans (mset_nk _ (by omega) _ _ _))))) dX0_copyFrom_34 ?_
  refine c_putC hx hb hts hinX0 hown hK hA hI k c0 4 4 (by omega) (by omega) (by decide) (hts (.fieldLink RX0 24 "WinderLadders$Clock" "off" "I") (by decide +kernel)) (fun h => absurd h (by decide)) dX0_copyFrom_37 (fun H locs hI => ?_)
  refine lv_aload_n hx hb dX0_copyFrom_40 rfl (lv_at hl 0 rfl) ?_
  refine lv_aload_n hx hb dX0_copyFrom_41 rfl (lv_at hl 1 rfl) ?_
  refine c_get hx hb hts hown hK hI (15 + 20 * k2 + c2) (by omega) (cE_cl (by omega)) rfl hinX0 5 (by decide) (hts (.fieldLink RX0 27 "WinderLadders$Clock" "daysSinceWound" "I") (by decide +kernel)) (v := .int (C k2 (12 + 8 * c2 + 5))) (congrArg (fun z => some (Value.int z)) ((mset_nk _ (by omega) _ _ _).trans ((mset_nk _ (by omega) _ _ _).trans ((mset_nk _ (by omega) _ _ _).trans ((mset_nk _ (by omega) _ _ _).trans (mset_nk _ (by omega) _ _ _)))))) dX0_copyFrom_42 ?_
  refine c_putC hx hb hts hinX0 hown hK hA hI k c0 5 5 (by omega) (by omega) (by decide) (hts (.fieldLink RX0 27 "WinderLadders$Clock" "daysSinceWound" "I") (by decide +kernel)) (fun h => absurd h (by decide)) dX0_copyFrom_45 (fun H locs hI => ?_)
  refine lv_aload_n hx hb dX0_copyFrom_48 rfl (lv_at hl 0 rfl) ?_
  refine lv_aload_n hx hb dX0_copyFrom_49 rfl (lv_at hl 1 rfl) ?_
  refine c_get hx hb hts hown hK hI (15 + 20 * k2 + c2) (by omega) (cE_cl (by omega)) rfl hinX0 6 (by decide) (hts (.fieldLink RX0 30 "WinderLadders$Clock" "timesWound" "I") (by decide +kernel)) (v := .int (C k2 (12 + 8 * c2 + 7))) (congrArg (fun z => some (Value.int z)) ((mset_nk _ (by omega) _ _ _).trans ((mset_nk _ (by omega) _ _ _).trans ((mset_nk _ (by omega) _ _ _).trans ((mset_nk _ (by omega) _ _ _).trans ((mset_nk _ (by omega) _ _ _).trans (mset_nk _ (by omega) _ _ _))))))) dX0_copyFrom_50 ?_
  refine c_putC hx hb hts hinX0 hown hK hA hI k c0 7 6 (by omega) (by omega) (by decide) (hts (.fieldLink RX0 30 "WinderLadders$Clock" "timesWound" "I") (by decide +kernel)) (fun h => absurd h (by decide)) dX0_copyFrom_53 (fun H locs hI => ?_)
  refine lv_aload_n hx hb dX0_copyFrom_56 rfl (lv_at hl 0 rfl) ?_
  refine lv_aload_n hx hb dX0_copyFrom_57 rfl (lv_at hl 1 rfl) ?_
  refine c_get hx hb hts hown hK hI (15 + 20 * k2 + c2) (by omega) (cE_cl (by omega)) rfl hinX0 7 (by decide) (hts (.fieldLink RX0 33 "WinderLadders$Clock" "goes" "Z") (by decide +kernel)) (v := .int (C k2 (12 + 8 * c2 + 6))) (congrArg (fun z => some (Value.int z)) ((mset_nk _ (by omega) _ _ _).trans ((mset_nk _ (by omega) _ _ _).trans ((mset_nk _ (by omega) _ _ _).trans ((mset_nk _ (by omega) _ _ _).trans ((mset_nk _ (by omega) _ _ _).trans ((mset_nk _ (by omega) _ _ _).trans (mset_nk _ (by omega) _ _ _)))))))) dX0_copyFrom_58 ?_
  refine c_putC hx hb hts hinX0 hown hK hA hI k c0 6 7 (by omega) (by omega) (by decide) (hts (.fieldLink RX0 33 "WinderLadders$Clock" "goes" "Z") (by decide +kernel)) (fun _ => hgo) dX0_copyFrom_61 (fun H locs hI => ?_)
  exact c_vret hx hb hr hI (⟨by simp only [mset_mrow, mrow_s, mrow_mrow]; rfl, rfl⟩) dX0_copyFrom_64 hlocks
