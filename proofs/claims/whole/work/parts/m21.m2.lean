set_option maxHeartbeats 4000000 in
set_option maxRecDepth 100000 in
theorem k_X6_still (l : Launch) (dd : va_G) (g : Nat → ClassId) (q : Nat → Nat) (A : Nat → Prop) (hA : mA A q) (M : MS) (hW : Wk (M 0)) : Met l yX6_still wsX6_still ({ frames := 1, cells := 0, slots := 0, locals := 21 }) (mPre dd g q M [.ref (q 0)]) (mQi dd g q A (fun r M' => r = stillN (M 0) (cn (M 0)) ∧ M' = M)) 0 0 A := by
  refine Met.ofW (cc := cX6_still) (maxL := 3) (ret := (some .int)) (by decide) rfl ?_
  intro p e s m args below meth c s₁ B hml hv
  obtain ⟨rfl, hP0, hK⟩ := hv
  have hx := B.exec
  have hb := B.bytes
  have hr := B.returns
  have hts := atoms_spec (ws := wsX6_still) B.pre
  have hown : s.vm.findClass RX6 = some m.cls := findClass_of_methodNamed B.named
  have hlocks := B.notSynchronized
  have hin : ∀ w ∈ wsX60, w ∈ wsX6_still := by decide +kernel
  have hI : mI dd g q A s.heap s.heap [] M := ⟨hP0, va_S.rf⟩
  have hl := lv_entry ([.ref (q 0)]) (n := 3) (Nat.le_of_ble_eq_true rfl)
  rw [lg_entry_eq]
  generalize (lg_sl ([.ref (q 0)]) ++ List.replicate (3 - (lg_sl ([.ref (q 0)])).length) Slot.unset).toArray = ls at hl ⊢
  have hl : lv_has ls 3 [(0, .ref (q 0))] := hl
  have hc16 := hW.2.1
  have hl4 := hW.2.2.2
  refine lv_iconst (v := 0) hx hb dX6_still_0 (by decide) ?_
  refine lv_istore_n (lv' := [(1, .int 0), (0, .ref (q 0))]) hx hb dX6_still_1 rfl hl (by decide) rfl (fun ls hl => ?_)
  refine lv_iconst (v := 0) hx hb dX6_still_2 (by decide) ?_
  refine lv_istore_n (lv' := [(2, .int 0), (1, .int 0), (0, .ref (q 0))]) hx hb dX6_still_3 rfl hl (by decide) rfl (fun ls hl => ?_)
  have L4 : ∀ (fuel : Nat) (k : Nat) (x : Int32) (h1 : k ≤ cn (M 0)) (h2 : cn (M 0) < fuel + k) (hx2 : x = stillN (M 0) k) (H : Heap) (locs : List Loc) (ls : Array Slot), mI dd g q A s.heap H locs M → lv_has ls 3 [(2, .int (nI k)), (1, .int x), (0, .ref (q 0))] → wk p l e wsX6_still { frames := 1, cells := 0, slots := 0, locals := 21 } s m [.ref (q 0)] below meth c H locs (mQi dd g q A (fun r M' => r = stillN (M 0) (cn (M 0)) ∧ M' = M)) (A) (F0 m 4 ls []) := by
    intro fuel
    induction fuel with
    | zero =>
      intro k x h1 h2 hx2 H locs ls hI hl
      exact absurd h2 (by omega)
    | succ fuel ih =>
      intro k x h1 h2 hx2 H locs ls hI hl
      refine lv_iload_n hx hb dX6_still_4 rfl (lv_at hl 0 rfl) ?_
      refine lv_aload_n hx hb dX6_still_5 rfl (lv_at hl 2 rfl) ?_
      refine m_get hx hb hts hin hown hK hI 0 (by decide) (hts (.fieldLink RX6 7 "WinderLaddersModel" "s" "[I") (by decide +kernel)) (v := .ref (q 1)) rfl dX6_still_6 ?_
      refine lv_iconst (v := 5) hx hb dX6_still_9 (by decide) ?_
      refine m_ald hx hb hK hI 0 (by decide) (5) (by show _ < 140; omega) rfl (v := nI (cn (M 0))) hW.1 dX6_still_10 ?_
      refine lv_icmp_ge (tgt := 45) hx hb dX6_still_11 (by decide) (fun c1 => ?_) (fun c1 => ?_)
      · skip
        have nc1 : cn (M 0) ≤ k := (nI_leI (a := cn (M 0)) (b := k) (by omega) (by omega)).mp c1
        refine lv_iload_n hx hb dX6_still_45 rfl (lv_at hl 1 rfl) ?_
        exact m_iret (v := x) hx hb hr hI (⟨by rw [hx2, show k = cn (M 0) by omega], rfl⟩) dX6_still_46 hlocks
      · skip
        have nc1 : ¬ (cn (M 0) ≤ k) := fun h => c1 ((nI_leI (a := cn (M 0)) (b := k) (by omega) (by omega)).mpr h)
        refine lv_iload_n hx hb dX6_still_14 rfl (lv_at hl 1 rfl) ?_
        refine lv_aload_n hx hb dX6_still_15 rfl (lv_at hl 2 rfl) ?_
        refine m_get hx hb hts hin hown hK hI 0 (by decide) (hts (.fieldLink RX6 7 "WinderLaddersModel" "s" "[I") (by decide +kernel)) (v := .ref (q 1)) rfl dX6_still_16 ?_
        refine lv_iload_n hx hb dX6_still_19 rfl (lv_at hl 0 rfl) ?_
        refine lv_bipush (v := 6) hx hb dX6_still_20 (by decide) ?_
        refine m_calls (As := [.int (nI k), .int 6]) (rest := [.ref (q 1), .int x]) hx hb hml hown hts hI (k_X6_at l (k) (6)) (va_cwS 2 hts gX6_still_X6_at rfl rfl rfl (by decide +kernel) ⟨Nat.le_of_ble_eq_true rfl, Nat.le_of_ble_eq_true rfl⟩) rfl hl (Nat.le_of_ble_eq_true rfl) ⟨Nat.zero_le _, Nat.zero_le _⟩ dX6_still_22 rfl (fun r H locs h2 hI => ?_)
        subst h2
        refine m_ald hx hb hK hI 0 (by decide) (12 + 8 * k + 6) (by show _ < 140; omega) rfl (v := M 0 (12 + 8 * k + 6)) rfl dX6_still_25 ?_
        refine lv_iconst (v := 1) hx hb dX6_still_26 (by decide) ?_
        refine lv_icmp_ne (tgt := 34) hx hb dX6_still_27 (by decide) (fun c3 => ?_) (fun c3 => ?_)
        · skip
          refine lv_iconst (v := 1) hx hb dX6_still_34 (by decide) ?_
          refine lv_iload_n hx hb dX6_still_35 rfl (lv_at hl 0 rfl) ?_
          refine lv_ishl hx hb dX6_still_36 ?_
          refine lv_ior hx hb dX6_still_37 ?_
          refine lv_istore_n (lv' := [(1, .int (x ||| (1 <<< ((nI k) &&& 31)))), (2, .int (nI k)), (0, .ref (q 0))]) hx hb dX6_still_38 rfl hl (by decide) rfl (fun ls hl => ?_)
          refine lv_iinc (v := nI (k + 1)) (lv' := [(2, .int (nI (k + 1))), (1, .int (x ||| (1 <<< ((nI k) &&& 31)))), (0, .ref (q 0))]) hx hb dX6_still_39 hl (k := 1) rfl (by rw [show Int32.ofInt 1 = nI 1 from rfl, nI_add]) (by decide) rfl (fun ls hl => ?_)
          refine lv_goto (tgt := 4) hx hb dX6_still_42 (by decide) ?_
          exact ih (k + 1) (x ||| (1 <<< ((nI k) &&& 31))) (by omega) (by omega) (by simp [stillN, hx2, c1, nc1, c3]) _ _ _ hI (lv_sub hl [0, 1, 2] rfl)
        · skip
          refine lv_iconst (v := 0) hx hb dX6_still_30 (by decide) ?_
          refine lv_goto (tgt := 37) hx hb dX6_still_31 (by decide) ?_
          refine lv_ior hx hb dX6_still_37 ?_
          refine lv_istore_n (lv' := [(1, .int (x ||| 0)), (2, .int (nI k)), (0, .ref (q 0))]) hx hb dX6_still_38 rfl hl (by decide) rfl (fun ls hl => ?_)
          refine lv_iinc (v := nI (k + 1)) (lv' := [(2, .int (nI (k + 1))), (1, .int (x ||| 0)), (0, .ref (q 0))]) hx hb dX6_still_39 hl (k := 1) rfl (by rw [show Int32.ofInt 1 = nI 1 from rfl, nI_add]) (by decide) rfl (fun ls hl => ?_)
          refine lv_goto (tgt := 4) hx hb dX6_still_42 (by decide) ?_
          exact ih (k + 1) (x ||| 0) (by omega) (by omega) (by simp [stillN, hx2, c1, nc1, c3]) _ _ _ hI (lv_sub hl [0, 1, 2] rfl)
  exact L4 17 0 0 (by omega) (by omega) rfl _ _ _ hI (lv_sub hl [0, 1, 2] rfl)

set_option maxHeartbeats 4000000 in
set_option maxRecDepth 100000 in
theorem k_X6_passes (l : Launch) (dd : va_G) (g : Nat → ClassId) (q : Nat → Nat) (A : Nat → Prop) (hA : mA A q) (M : MS) (d : Nat) (hd : d < 1000) (hW : Wk (M 0)) : Met l yX6_passes wsX6_passes ({ frames := 3, cells := 0, slots := 0, locals := 63 }) (mPre dd g q M [.ref (q 0), .int (nI d)]) (mQi dd g q A (fun r M' => r = manyN (stillN (M' 0) (cn (M' 0))) 16 ∧ M' = ms0 M (upd (passD (M 0) d) 4 (M 0 4 + nI d)))) 0 0 A := by
  refine Met.ofW (cc := cX6_passes) (maxL := 4) (ret := (some .int)) (by decide) rfl ?_
  intro p e s m args below meth c s₁ B hml hv
  obtain ⟨rfl, hP0, hK⟩ := hv
  have hx := B.exec
  have hb := B.bytes
  have hr := B.returns
  have hts := atoms_spec (ws := wsX6_passes) B.pre
  have hown : s.vm.findClass RX6 = some m.cls := findClass_of_methodNamed B.named
  have hlocks := B.notSynchronized
  have hin : ∀ w ∈ wsX60, w ∈ wsX6_passes := by decide +kernel
  have hI : mI dd g q A s.heap s.heap [] M := ⟨hP0, va_S.rf⟩
  have hl := lv_entry ([.ref (q 0), .int (nI d)]) (n := 4) (Nat.le_of_ble_eq_true rfl)
  rw [lg_entry_eq]
  generalize (lg_sl ([.ref (q 0), .int (nI d)]) ++ List.replicate (4 - (lg_sl ([.ref (q 0), .int (nI d)])).length) Slot.unset).toArray = ls at hl ⊢
  have hl : lv_has ls 4 [(0, .ref (q 0)), (1, .int (nI d))] := hl
  have hc16 := hW.2.1
  have hl4 := hW.2.2.2
  refine lv_iconst (v := 0) hx hb dX6_passes_0 (by decide) ?_
  refine lv_istore_n (lv' := [(2, .int 0), (0, .ref (q 0)), (1, .int (nI d))]) hx hb dX6_passes_1 rfl hl (by decide) rfl (fun ls hl => ?_)
  have L2 : ∀ (fuel : Nat) (k : Nat) (h1 : k ≤ d) (h2 : d < fuel + k) (H : Heap) (locs : List Loc) (ls : Array Slot), mI dd g q A s.heap H locs (ms0 M (passD (M 0) k)) → lv_has ls 4 [(2, .int (nI k)), (0, .ref (q 0)), (1, .int (nI d))] → wk p l e wsX6_passes { frames := 3, cells := 0, slots := 0, locals := 63 } s m [.ref (q 0), .int (nI d)] below meth c H locs (mQi dd g q A (fun r M' => r = manyN (stillN (M' 0) (cn (M' 0))) 16 ∧ M' = ms0 M (upd (passD (M 0) d) 4 (M 0 4 + nI d)))) (A) (F0 m 2 ls []) := by
    intro fuel
    induction fuel with
    | zero =>
      intro k h1 h2 H locs ls hI hl
      exact absurd h2 (by omega)
    | succ fuel ih =>
      intro k h1 h2 H locs ls hI hl
      refine lv_iload_n hx hb dX6_passes_2 rfl (lv_at hl 0 rfl) ?_
      refine lv_iload_n hx hb dX6_passes_3 rfl (lv_at hl 2 rfl) ?_
      refine lv_icmp_ge (tgt := 36) hx hb dX6_passes_4 (by decide) (fun c1 => ?_) (fun c1 => ?_)
      · skip
        have nc1 : d ≤ k := (nI_leI (a := d) (b := k) (by omega) (by omega)).mp c1
        have ek : k = d := by omega
        have hW2 : Wk ((mset (ms0 M (passD (M 0) k)) 0 4 (M 0 4 + nI d)) 0) := by rw [mset_0, ms0_0]; exact (hW.congr (by rw [upd_ne (by decide), ms0_0, passD_lo _ _ (by decide)]) (by rw [upd_ne (by decide), ms0_0, passD_lo _ _ (by decide)])).1
        refine lv_aload_n hx hb dX6_passes_36 rfl (lv_at hl 1 rfl) ?_
        refine m_get hx hb hts hin hown hK hI 0 (by decide) (hts (.fieldLink RX6 7 "WinderLaddersModel" "s" "[I") (by decide +kernel)) (v := .ref (q 1)) rfl dX6_passes_37 ?_
        refine lv_iconst (v := 4) hx hb dX6_passes_40 (by decide) ?_
        refine lv_dup2_11 hx hb dX6_passes_41 rfl rfl ?_
        refine m_ald hx hb hK hI 0 (by decide) (4) (by show _ < 140; omega) rfl (v := M 0 4) ((passD_lo _ _ (by decide))) dX6_passes_42 ?_
        refine lv_iload_n hx hb dX6_passes_43 rfl (lv_at hl 2 rfl) ?_
        refine lv_iadd hx hb dX6_passes_44 ?_
        refine m_ast hx hb hK hA hI 0 (by decide) (4) (by show _ < 140; omega) rfl dX6_passes_45 (fun H locs hI => ?_)
        refine lv_aload_n hx hb dX6_passes_46 rfl (lv_at hl 1 rfl) ?_
        refine m_calli (As := []) (rest := []) hx hb hml hown hts hK hI (k_X6_still l dd g q A hA (mset (ms0 M (passD (M 0) k)) 0 (4) ((M 0 4) + (nI d))) hW2) (cwV 0 hts gX6_passes_X6_still rfl rfl rfl (by decide +kernel) ⟨Nat.le_of_ble_eq_true rfl, Nat.le_of_ble_eq_true rfl⟩) rfl hl (Nat.le_of_ble_eq_true rfl) ⟨Nat.zero_le _, Nat.zero_le _⟩ dX6_passes_47 rfl (fun r M1 H locs h2 hI => ?_)
        obtain ⟨hr9, hm9⟩ := h2
        rw [hm9] at hI
        subst hr9
        refine m_calls (As := [.int (stillN ((mset (ms0 M (passD (M 0) k)) 0 (4) ((M 0 4) + (nI d))) 0) (cn ((mset (ms0 M (passD (M 0) k)) 0 (4) ((M 0 4) + (nI d))) 0)))]) (rest := []) hx hb hml hown hts hI (k_X6_many l (stillN ((mset (ms0 M (passD (M 0) k)) 0 (4) ((M 0 4) + (nI d))) 0) (cn ((mset (ms0 M (passD (M 0) k)) 0 (4) ((M 0 4) + (nI d))) 0)))) (va_cwS 1 hts gX6_passes_X6_many rfl rfl rfl (by decide +kernel) ⟨Nat.le_of_ble_eq_true rfl, Nat.le_of_ble_eq_true rfl⟩) rfl hl (Nat.le_of_ble_eq_true rfl) ⟨Nat.zero_le _, Nat.zero_le _⟩ dX6_passes_50 rfl (fun r H locs h3 hI => ?_)
        subst h3
        exact m_iret (v := manyN (stillN ((mset (ms0 M (passD (M 0) k)) 0 (4) ((M 0 4) + (nI d))) 0) (cn ((mset (ms0 M (passD (M 0) k)) 0 (4) ((M 0 4) + (nI d))) 0))) 16) hx hb hr hI (⟨rfl, by rw [mset_0, ms0_0, ms0_ms0, ek]⟩) dX6_passes_53 hlocks
      · skip
        have nc1 : ¬ (d ≤ k) := fun h => c1 ((nI_leI (a := d) (b := k) (by omega) (by omega)).mpr h)
        refine lv_iconst (v := 0) hx hb dX6_passes_7 (by decide) ?_
        refine lv_istore_n (lv' := [(3, .int 0), (2, .int (nI k)), (0, .ref (q 0)), (1, .int (nI d))]) hx hb dX6_passes_8 rfl hl (by decide) rfl (fun ls hl => ?_)
        have L9 : ∀ (fuel2 : Nat) (c1 : Nat) (g1 : c1 ≤ cn (M 0)) (g2 : cn (M 0) < fuel2 + c1) (H : Heap) (locs : List Loc) (ls : Array Slot), mI dd g q A s.heap H locs (ms0 M (dayAll (passD (M 0) k) c1)) → lv_has ls 4 [(3, .int (nI c1)), (2, .int (nI k)), (0, .ref (q 0)), (1, .int (nI d))] → wk p l e wsX6_passes { frames := 3, cells := 0, slots := 0, locals := 63 } s m [.ref (q 0), .int (nI d)] below meth c H locs (mQi dd g q A (fun r M' => r = manyN (stillN (M' 0) (cn (M' 0))) 16 ∧ M' = ms0 M (upd (passD (M 0) d) 4 (M 0 4 + nI d)))) (A) (F0 m 9 ls []) := by
          intro fuel2
          induction fuel2 with
          | zero =>
            intro c1 g1 g2 H locs ls hI hl
            exact absurd g2 (by omega)
          | succ fuel2 ih2 =>
            intro c1 g1 g2 H locs ls hI hl
            refine lv_iload_n hx hb dX6_passes_9 rfl (lv_at hl 0 rfl) ?_
            refine lv_aload_n hx hb dX6_passes_10 rfl (lv_at hl 2 rfl) ?_
            refine m_get hx hb hts hin hown hK hI 0 (by decide) (hts (.fieldLink RX6 7 "WinderLaddersModel" "s" "[I") (by decide +kernel)) (v := .ref (q 1)) rfl dX6_passes_11 ?_
            refine lv_iconst (v := 5) hx hb dX6_passes_14 (by decide) ?_
            refine m_ald hx hb hK hI 0 (by decide) (5) (by show _ < 140; omega) rfl (v := nI (cn (M 0))) ((by rw [ms0_0, dayAll_lo _ _ (by decide), passD_lo _ _ (by decide)]; exact hW.1)) dX6_passes_15 ?_
            refine lv_icmp_ge (tgt := 30) hx hb dX6_passes_16 (by decide) (fun c4 => ?_) (fun c4 => ?_)
            · skip
              have nc4 : cn (M 0) ≤ c1 := (nI_leI (a := cn (M 0)) (b := c1) (by omega) (by omega)).mp c4
              refine lv_iinc (v := nI (k + 1)) (lv' := [(2, .int (nI (k + 1))), (3, .int (nI c1)), (0, .ref (q 0)), (1, .int (nI d))]) hx hb dX6_passes_30 hl (k := 1) rfl (by rw [show Int32.ofInt 1 = nI 1 from rfl, nI_add]) (by decide) rfl (fun ls hl => ?_)
              refine lv_goto (tgt := 2) hx hb dX6_passes_33 (by decide) ?_
              exact ih (k + 1) (by omega) (by omega) _ _ _ (by rw [show c1 = cn (M 0) by omega] at hI; exact hI) (lv_sub hl [0, 2, 3] rfl)
            · skip
              have nc4 : ¬ (cn (M 0) ≤ c1) := fun h => c4 ((nI_leI (a := cn (M 0)) (b := c1) (by omega) (by omega)).mpr h)
              refine lv_aload_n hx hb dX6_passes_19 rfl (lv_at hl 2 rfl) ?_
              refine lv_iload_n hx hb dX6_passes_20 rfl (lv_at hl 0 rfl) ?_
              refine m_callv (As := [.int (nI c1)]) (rest := []) hx hb hml hown hts hK hI (k_X6_day l dd g q A hA (ms0 M (dayAll (passD (M 0) k) c1)) c1 (by omega)) (cwV 1 hts gX6_passes_X6_day rfl rfl rfl (by decide +kernel) ⟨Nat.le_of_ble_eq_true rfl, Nat.le_of_ble_eq_true rfl⟩) rfl hl (Nat.le_of_ble_eq_true rfl) ⟨Nat.zero_le _, Nat.zero_le _⟩ dX6_passes_21 rfl (fun M1 H locs h5 hI => ?_)
              subst h5
              refine lv_iinc (v := nI (c1 + 1)) (lv' := [(3, .int (nI (c1 + 1))), (2, .int (nI k)), (0, .ref (q 0)), (1, .int (nI d))]) hx hb dX6_passes_24 hl (k := 0) rfl (by rw [show Int32.ofInt 1 = nI 1 from rfl, nI_add]) (by decide) rfl (fun ls hl => ?_)
              refine lv_goto (tgt := 9) hx hb dX6_passes_27 (by decide) ?_
              exact ih2 (c1 + 1) (by omega) (by omega) _ _ _ (by rw [ms0_ms0, ms0_0] at hI; exact hI) (lv_sub hl [0, 1, 2, 3] rfl)
        exact L9 17 0 (by omega) (by omega) _ _ _ hI (lv_sub hl [0, 1, 2, 3] rfl)
  exact L2 1001 0 (by omega) (by omega) _ _ _ (by rw [show ms0 M (passD (M 0) 0) = M from ms0_self M]; exact hI) (lv_sub hl [0, 1, 2] rfl)

set_option maxHeartbeats 4000000 in
set_option maxRecDepth 100000 in
theorem k_X6_changes (l : Launch) (dd : va_G) (g : Nat → ClassId) (q : Nat → Nat) (A : Nat → Prop) (hA : mA A q) (M : MS) (a : Int32) (hW : Wk (M 0)) : Met l yX6_changes wsX6_changes ({ frames := 2, cells := 0, slots := 0, locals := 43 }) (mPre dd g q M [.ref (q 0), .int a]) (mQi dd g q A (fun r M' => r = nI (cn (M 0)) - manyN (stillN (M' 0) (cn (M' 0))) 16 ∧ M' = ms0 M (chgA (M 0) a (cn (M 0))))) 0 0 A := by
  refine Met.ofW (cc := cX6_changes) (maxL := 3) (ret := (some .int)) (by decide) rfl ?_
  intro p e s m args below meth c s₁ B hml hv
  obtain ⟨rfl, hP0, hK⟩ := hv
  have hx := B.exec
  have hb := B.bytes
  have hr := B.returns
  have hts := atoms_spec (ws := wsX6_changes) B.pre
  have hown : s.vm.findClass RX6 = some m.cls := findClass_of_methodNamed B.named
  have hlocks := B.notSynchronized
  have hin : ∀ w ∈ wsX60, w ∈ wsX6_changes := by decide +kernel
  have hI : mI dd g q A s.heap s.heap [] M := ⟨hP0, va_S.rf⟩
  have hl := lv_entry ([.ref (q 0), .int a]) (n := 3) (Nat.le_of_ble_eq_true rfl)
  rw [lg_entry_eq]
  generalize (lg_sl ([.ref (q 0), .int a]) ++ List.replicate (3 - (lg_sl ([.ref (q 0), .int a])).length) Slot.unset).toArray = ls at hl ⊢
  have hl : lv_has ls 3 [(0, .ref (q 0)), (1, .int a)] := hl
  have hc16 := hW.2.1
  have hl4 := hW.2.2.2
  refine lv_iconst (v := 0) hx hb dX6_changes_0 (by decide) ?_
  refine lv_istore_n (lv' := [(2, .int 0), (0, .ref (q 0)), (1, .int a)]) hx hb dX6_changes_1 rfl hl (by decide) rfl (fun ls hl => ?_)
  have L2 : ∀ (fuel : Nat) (k : Nat) (h1 : k ≤ cn (M 0)) (h2 : cn (M 0) < fuel + k) (H : Heap) (locs : List Loc) (ls : Array Slot), mI dd g q A s.heap H locs (ms0 M (chgA (M 0) a k)) → lv_has ls 3 [(2, .int (nI k)), (0, .ref (q 0)), (1, .int a)] → wk p l e wsX6_changes { frames := 2, cells := 0, slots := 0, locals := 43 } s m [.ref (q 0), .int a] below meth c H locs (mQi dd g q A (fun r M' => r = nI (cn (M 0)) - manyN (stillN (M' 0) (cn (M' 0))) 16 ∧ M' = ms0 M (chgA (M 0) a (cn (M 0))))) (A) (F0 m 2 ls []) := by
    intro fuel
    induction fuel with
    | zero =>
      intro k h1 h2 H locs ls hI hl
      exact absurd h2 (by omega)
    | succ fuel ih =>
      intro k h1 h2 H locs ls hI hl
      refine lv_iload_n hx hb dX6_changes_2 rfl (lv_at hl 0 rfl) ?_
      refine lv_aload_n hx hb dX6_changes_3 rfl (lv_at hl 1 rfl) ?_
      refine m_get hx hb hts hin hown hK hI 0 (by decide) (hts (.fieldLink RX6 7 "WinderLaddersModel" "s" "[I") (by decide +kernel)) (v := .ref (q 1)) rfl dX6_changes_4 ?_
      refine lv_iconst (v := 5) hx hb dX6_changes_7 (by decide) ?_
      refine m_ald hx hb hK hI 0 (by decide) (5) (by show _ < 140; omega) rfl (v := nI (cn (M 0))) ((by rw [ms0_0, chgA_lo _ _ _ (by decide)]; exact hW.1)) dX6_changes_8 ?_
      refine lv_icmp_ge (tgt := 63) hx hb dX6_changes_9 (by decide) (fun c1 => ?_) (fun c1 => ?_)
      · skip
        have nc1 : cn (M 0) ≤ k := (nI_leI (a := cn (M 0)) (b := k) (by omega) (by omega)).mp c1
        have ek : k = cn (M 0) := by omega
        have hW2 : Wk (ms0 M (chgA (M 0) a k) 0) := (hW.congr (chgA_lo _ _ _ (by decide)) (chgA_lo _ _ _ (by decide))).1
        refine lv_aload_n hx hb dX6_changes_63 rfl (lv_at hl 1 rfl) ?_
        refine m_get hx hb hts hin hown hK hI 0 (by decide) (hts (.fieldLink RX6 7 "WinderLaddersModel" "s" "[I") (by decide +kernel)) (v := .ref (q 1)) rfl dX6_changes_64 ?_
        refine lv_iconst (v := 5) hx hb dX6_changes_67 (by decide) ?_
        refine m_ald hx hb hK hI 0 (by decide) (5) (by show _ < 140; omega) rfl (v := nI (cn (M 0))) ((by rw [ms0_0, chgA_lo _ _ _ (by decide)]; exact hW.1)) dX6_changes_68 ?_
        refine lv_aload_n hx hb dX6_changes_69 rfl (lv_at hl 1 rfl) ?_
        refine m_calli (As := []) (rest := [.int (nI (cn (M 0)))]) hx hb hml hown hts hK hI (k_X6_still l dd g q A hA (ms0 M (chgA (M 0) a k)) hW2) (cwV 0 hts gX6_changes_X6_still rfl rfl rfl (by decide +kernel) ⟨Nat.le_of_ble_eq_true rfl, Nat.le_of_ble_eq_true rfl⟩) rfl hl (Nat.le_of_ble_eq_true rfl) ⟨Nat.zero_le _, Nat.zero_le _⟩ dX6_changes_70 rfl (fun r M1 H locs h2 hI => ?_)
        obtain ⟨hr9, hm9⟩ := h2
        rw [hm9] at hI
        subst hr9
        refine m_calls (As := [.int (stillN ((chgA (M 0) a k)) (cn ((chgA (M 0) a k))))]) (rest := [.int (nI (cn (M 0)))]) hx hb hml hown hts hI (k_X6_many l (stillN ((chgA (M 0) a k)) (cn ((chgA (M 0) a k))))) (va_cwS 1 hts gX6_changes_X6_many rfl rfl rfl (by decide +kernel) ⟨Nat.le_of_ble_eq_true rfl, Nat.le_of_ble_eq_true rfl⟩) rfl hl (Nat.le_of_ble_eq_true rfl) ⟨Nat.zero_le _, Nat.zero_le _⟩ dX6_changes_73 rfl (fun r H locs h3 hI => ?_)
        subst h3
        refine lv_isub hx hb dX6_changes_76 ?_
        exact m_iret (v := (nI (cn (M 0))) - (manyN (stillN ((chgA (M 0) a k)) (cn ((chgA (M 0) a k)))) 16)) hx hb hr hI (⟨rfl, by rw [ek]⟩) dX6_changes_77 hlocks
      · skip
        have nc1 : ¬ (cn (M 0) ≤ k) := fun h => c1 ((nI_leI (a := cn (M 0)) (b := k) (by omega) (by omega)).mpr h)
        refine lv_aload_n hx hb dX6_changes_12 rfl (lv_at hl 1 rfl) ?_
        refine m_get hx hb hts hin hown hK hI 0 (by decide) (hts (.fieldLink RX6 7 "WinderLaddersModel" "s" "[I") (by decide +kernel)) (v := .ref (q 1)) rfl dX6_changes_13 ?_
        refine lv_iload_n hx hb dX6_changes_16 rfl (lv_at hl 0 rfl) ?_
        refine lv_iconst (v := 4) hx hb dX6_changes_17 (by decide) ?_
        refine m_calls (As := [.int (nI k), .int 4]) (rest := [.ref (q 1)]) hx hb hml hown hts hI (k_X6_at l (k) (4)) (va_cwS 2 hts gX6_changes_X6_at rfl rfl rfl (by decide +kernel) ⟨Nat.le_of_ble_eq_true rfl, Nat.le_of_ble_eq_true rfl⟩) rfl hl (Nat.le_of_ble_eq_true rfl) ⟨Nat.zero_le _, Nat.zero_le _⟩ dX6_changes_18 rfl (fun r H locs h4 hI => ?_)
        subst h4
        refine lv_dup2_11 hx hb dX6_changes_21 rfl rfl ?_
        refine m_ald hx hb hK hI 0 (by decide) (12 + 8 * k + 4) (by show _ < 140; omega) rfl (v := (chgA (M 0) a k) (12 + 8 * k + 4)) rfl dX6_changes_22 ?_
        refine lv_aload_n hx hb dX6_changes_23 rfl (lv_at hl 1 rfl) ?_
        refine m_get hx hb hts hin hown hK hI 0 (by decide) (hts (.fieldLink RX6 7 "WinderLaddersModel" "s" "[I") (by decide +kernel)) (v := .ref (q 1)) rfl dX6_changes_24 ?_
        refine lv_iload_n hx hb dX6_changes_27 rfl (lv_at hl 0 rfl) ?_
        refine lv_bipush (v := 6) hx hb dX6_changes_28 (by decide) ?_
        refine m_calls (As := [.int (nI k), .int 6]) (rest := [.ref (q 1), .int ((chgA (M 0) a k) (12 + 8 * k + 4)), .int (nI (12 + 8 * k + 4)), .ref (q 1)]) hx hb hml hown hts hI (k_X6_at l (k) (6)) (va_cwS 2 hts gX6_changes_X6_at rfl rfl rfl (by decide +kernel) ⟨Nat.le_of_ble_eq_true rfl, Nat.le_of_ble_eq_true rfl⟩) rfl hl (Nat.le_of_ble_eq_true rfl) ⟨Nat.zero_le _, Nat.zero_le _⟩ dX6_changes_30 rfl (fun r H locs h5 hI => ?_)
        subst h5
        refine m_ald hx hb hK hI 0 (by decide) (12 + 8 * k + 6) (by show _ < 140; omega) rfl (v := (chgA (M 0) a k) (12 + 8 * k + 6)) rfl dX6_changes_33 ?_
        refine lv_if_ne (tgt := 41) hx hb dX6_changes_34 (by decide) (fun c6 => ?_) (fun c6 => ?_)
        · skip
          refine lv_iload_n hx hb dX6_changes_41 rfl (lv_at hl 2 rfl) ?_
          refine lv_iconst (v := 1) hx hb dX6_changes_42 (by decide) ?_
          refine lv_icmp_ne (tgt := 52) hx hb dX6_changes_43 (by decide) (fun c7 => ?_) (fun c7 => ?_)
          · skip
            refine lv_sipush (v := 3600) hx hb dX6_changes_52 (by decide) ?_
            refine lv_iadd hx hb dX6_changes_55 ?_
            refine m_ast hx hb hK hA hI 0 (by decide) (12 + 8 * k + 4) (by show _ < 140; omega) rfl dX6_changes_56 (fun H locs hI => ?_)
            refine lv_iinc (v := nI (k + 1)) (lv' := [(2, .int (nI (k + 1))), (0, .ref (q 0)), (1, .int a)]) hx hb dX6_changes_57 hl (k := 0) rfl (by rw [show Int32.ofInt 1 = nI 1 from rfl, nI_add]) (by decide) rfl (fun ls hl => ?_)
            refine lv_goto (tgt := 2) hx hb dX6_changes_60 (by decide) ?_
            exact ih (k + 1) (by omega) (by omega) _ _ _ (by rw [mset_0, ms0_0, ms0_ms0] at hI; simp only [chgA, chg1, if_neg c1, if_neg c6, if_neg c7]; exact hI) (lv_sub hl [0, 1, 2] rfl)
          · skip
            refine lv_sipush (v := (-3600)) hx hb dX6_changes_46 (by decide) ?_
            refine lv_goto (tgt := 55) hx hb dX6_changes_49 (by decide) ?_
            refine lv_iadd hx hb dX6_changes_55 ?_
            refine m_ast hx hb hK hA hI 0 (by decide) (12 + 8 * k + 4) (by show _ < 140; omega) rfl dX6_changes_56 (fun H locs hI => ?_)
            refine lv_iinc (v := nI (k + 1)) (lv' := [(2, .int (nI (k + 1))), (0, .ref (q 0)), (1, .int a)]) hx hb dX6_changes_57 hl (k := 0) rfl (by rw [show Int32.ofInt 1 = nI 1 from rfl, nI_add]) (by decide) rfl (fun ls hl => ?_)
            refine lv_goto (tgt := 2) hx hb dX6_changes_60 (by decide) ?_
            exact ih (k + 1) (by omega) (by omega) _ _ _ (by rw [mset_0, ms0_0, ms0_ms0] at hI; simp only [chgA, chg1, if_neg c1, if_neg c6, if_pos c7]; exact hI) (lv_sub hl [0, 1, 2] rfl)
        · skip
          refine lv_iconst (v := 0) hx hb dX6_changes_37 (by decide) ?_
          refine lv_goto (tgt := 55) hx hb dX6_changes_38 (by decide) ?_
          refine lv_iadd hx hb dX6_changes_55 ?_
          refine m_ast hx hb hK hA hI 0 (by decide) (12 + 8 * k + 4) (by show _ < 140; omega) rfl dX6_changes_56 (fun H locs hI => ?_)
          refine lv_iinc (v := nI (k + 1)) (lv' := [(2, .int (nI (k + 1))), (0, .ref (q 0)), (1, .int a)]) hx hb dX6_changes_57 hl (k := 0) rfl (by rw [show Int32.ofInt 1 = nI 1 from rfl, nI_add]) (by decide) rfl (fun ls hl => ?_)
          refine lv_goto (tgt := 2) hx hb dX6_changes_60 (by decide) ?_
          exact ih (k + 1) (by omega) (by omega) _ _ _ (by rw [mset_0, ms0_0, ms0_ms0] at hI; simp only [chgA, chg1, if_neg c1, if_pos c6]; exact hI) (lv_sub hl [0, 1, 2] rfl)
  exact L2 17 0 (by omega) (by omega) _ _ _ (by rw [show ms0 M (chgA (M 0) a 0) = M from ms0_self M]; exact hI) (lv_sub hl [0, 1, 2] rfl)

set_option maxHeartbeats 4000000 in
set_option maxRecDepth 100000 in
theorem k_X6_way (l : Launch) (dd : va_G) (g : Nat → ClassId) (q : Nat → Nat) (A : Nat → Prop) (hA : mA A q) (M : MS) (a b : Int32) : Met l yX6_way wsX6_way ({ frames := 1, cells := 0, slots := 0, locals := 20 }) (mPre dd g q M [.ref (q 0), .int a, .int b]) (mQi dd g q A (fun r M' => r = jabs (a - b) * M 0 2 ∧ M' = M)) 0 0 A := by
  refine Met.ofW (cc := cX6_way) (maxL := 3) (ret := (some .int)) (by decide) rfl ?_
  intro p e s m args below meth c s₁ B hml hv
  obtain ⟨rfl, hP0, hK⟩ := hv
  have hx := B.exec
  have hb := B.bytes
  have hr := B.returns
  have hts := atoms_spec (ws := wsX6_way) B.pre
  have hown : s.vm.findClass RX6 = some m.cls := findClass_of_methodNamed B.named
  have hlocks := B.notSynchronized
  have hin : ∀ w ∈ wsX60, w ∈ wsX6_way := by decide +kernel
  have hI : mI dd g q A s.heap s.heap [] M := ⟨hP0, va_S.rf⟩
  have hl := lv_entry ([.ref (q 0), .int a, .int b]) (n := 3) (Nat.le_of_ble_eq_true rfl)
  rw [lg_entry_eq]
  generalize (lg_sl ([.ref (q 0), .int a, .int b]) ++ List.replicate (3 - (lg_sl ([.ref (q 0), .int a, .int b])).length) Slot.unset).toArray = ls at hl ⊢
  have hl : lv_has ls 3 [(0, .ref (q 0)), (1, .int a), (2, .int b)] := hl
  refine lv_iload_n hx hb dX6_way_0 rfl (lv_at hl 1 rfl) ?_
  refine lv_iload_n hx hb dX6_way_1 rfl (lv_at hl 2 rfl) ?_
  refine lv_isub hx hb dX6_way_2 ?_
  refine m_calls (As := [.int (a - b)]) (rest := []) hx hb hml hown hts hI (k_X6_size l (a - b)) (va_cwS 1 hts gX6_way_X6_size rfl rfl rfl (by decide +kernel) ⟨Nat.le_of_ble_eq_true rfl, Nat.le_of_ble_eq_true rfl⟩) rfl hl (Nat.le_of_ble_eq_true rfl) ⟨Nat.zero_le _, Nat.zero_le _⟩ dX6_way_3 rfl (fun r H locs h1 hI => ?_)
  subst h1
  refine lv_aload_n hx hb dX6_way_6 rfl (lv_at hl 0 rfl) ?_
  refine m_get hx hb hts hin hown hK hI 0 (by decide) (hts (.fieldLink RX6 7 "WinderLaddersModel" "s" "[I") (by decide +kernel)) (v := .ref (q 1)) rfl dX6_way_7 ?_
  refine lv_iconst (v := 2) hx hb dX6_way_10 (by decide) ?_
  refine m_ald hx hb hK hI 0 (by decide) (2) (by show _ < 140; omega) rfl (v := M 0 2) rfl dX6_way_11 ?_
  refine lv_imul hx hb dX6_way_12 ?_
  exact m_iret (v := (jabs (a - b)) * (M 0 2)) hx hb hr hI (⟨rfl, rfl⟩) dX6_way_13 hlocks

set_option maxHeartbeats 4000000 in
set_option maxRecDepth 100000 in
theorem k_X6_work (l : Launch) (dd : va_G) (g : Nat → ClassId) (q : Nat → Nat) (A : Nat → Prop) (hA : mA A q) (M : MS) (c0 : Nat) (hc : c0 < 16) : Met l yX6_work wsX6_work ({ frames := 2, cells := 0, slots := 0, locals := 42 }) (mPre dd g q M [.ref (q 0), .int (nI c0)]) (mQv dd g q A (fun M' => M' = ms0 M (workM (M 0) c0))) 0 0 A := by
  refine Met.ofW (cc := cX6_work) (maxL := 4) (ret := none) (by decide) rfl ?_
  intro p e s m args below meth c s₁ B hml hv
  obtain ⟨rfl, hP0, hK⟩ := hv
  have hx := B.exec
  have hb := B.bytes
  have hr := B.returns
  have hts := atoms_spec (ws := wsX6_work) B.pre
  have hown : s.vm.findClass RX6 = some m.cls := findClass_of_methodNamed B.named
  have hlocks := B.notSynchronized
  have hin : ∀ w ∈ wsX60, w ∈ wsX6_work := by decide +kernel
  have hI : mI dd g q A s.heap s.heap [] M := ⟨hP0, va_S.rf⟩
  have hl := lv_entry ([.ref (q 0), .int (nI c0)]) (n := 4) (Nat.le_of_ble_eq_true rfl)
  rw [lg_entry_eq]
  generalize (lg_sl ([.ref (q 0), .int (nI c0)]) ++ List.replicate (4 - (lg_sl ([.ref (q 0), .int (nI c0)])).length) Slot.unset).toArray = ls at hl ⊢
  have hl : lv_has ls 4 [(0, .ref (q 0)), (1, .int (nI c0))] := hl
  refine lv_aload_n hx hb dX6_work_0 rfl (lv_at hl 0 rfl) ?_
  refine lv_iload_n hx hb dX6_work_1 rfl (lv_at hl 1 rfl) ?_
  refine m_calli (As := [.int (nI c0)]) (rest := []) hx hb hml hown hts hK hI (k_X6_rate l dd g q A hA M c0 (by omega)) (cwV 1 hts gX6_work_X6_rate rfl rfl rfl (by decide +kernel) ⟨Nat.le_of_ble_eq_true rfl, Nat.le_of_ble_eq_true rfl⟩) rfl hl (Nat.le_of_ble_eq_true rfl) ⟨Nat.zero_le _, Nat.zero_le _⟩ dX6_work_2 rfl (fun r M1 H locs h1 hI => ?_)
  obtain ⟨hr9, hm9⟩ := h1
  rw [hm9] at hI
  subst hr9
  refine lv_istore_n (lv' := [(2, .int (rt (M 0) c0)), (0, .ref (q 0)), (1, .int (nI c0))]) hx hb dX6_work_5 rfl hl (by decide) rfl (fun ls hl => ?_)
  refine lv_aload_n hx hb dX6_work_6 rfl (lv_at hl 1 rfl) ?_
  refine m_get hx hb hts hin hown hK hI 0 (by decide) (hts (.fieldLink RX6 7 "WinderLaddersModel" "s" "[I") (by decide +kernel)) (v := .ref (q 1)) rfl dX6_work_7 ?_
  refine lv_iload_n hx hb dX6_work_10 rfl (lv_at hl 2 rfl) ?_
  refine lv_iconst (v := 3) hx hb dX6_work_11 (by decide) ?_
  refine m_calls (As := [.int (nI c0), .int 3]) (rest := [.ref (q 1)]) hx hb hml hown hts hI (k_X6_at l (c0) (3)) (va_cwS 2 hts gX6_work_X6_at rfl rfl rfl (by decide +kernel) ⟨Nat.le_of_ble_eq_true rfl, Nat.le_of_ble_eq_true rfl⟩) rfl hl (Nat.le_of_ble_eq_true rfl) ⟨Nat.zero_le _, Nat.zero_le _⟩ dX6_work_12 rfl (fun r H locs h2 hI => ?_)
  subst h2
  refine m_ald hx hb hK hI 0 (by decide) (12 + 8 * c0 + 3) (by show _ < 140; omega) rfl (v := M 0 (12 + 8 * c0 + 3)) rfl dX6_work_15 ?_
  refine lv_istore_n (lv' := [(3, .int (M 0 (12 + 8 * c0 + 3))), (2, .int (rt (M 0) c0)), (0, .ref (q 0)), (1, .int (nI c0))]) hx hb dX6_work_16 rfl hl (by decide) rfl (fun ls hl => ?_)
  refine lv_aload_n hx hb dX6_work_17 rfl (lv_at hl 2 rfl) ?_
  refine m_get hx hb hts hin hown hK hI 0 (by decide) (hts (.fieldLink RX6 7 "WinderLaddersModel" "s" "[I") (by decide +kernel)) (v := .ref (q 1)) rfl dX6_work_18 ?_
  refine lv_iload_n hx hb dX6_work_21 rfl (lv_at hl 3 rfl) ?_
  refine lv_bipush (v := 6) hx hb dX6_work_22 (by decide) ?_
  refine m_calls (As := [.int (nI c0), .int 6]) (rest := [.ref (q 1)]) hx hb hml hown hts hI (k_X6_at l (c0) (6)) (va_cwS 2 hts gX6_work_X6_at rfl rfl rfl (by decide +kernel) ⟨Nat.le_of_ble_eq_true rfl, Nat.le_of_ble_eq_true rfl⟩) rfl hl (Nat.le_of_ble_eq_true rfl) ⟨Nat.zero_le _, Nat.zero_le _⟩ dX6_work_24 rfl (fun r H locs h3 hI => ?_)
  subst h3
  refine m_ald hx hb hK hI 0 (by decide) (12 + 8 * c0 + 6) (by show _ < 140; omega) rfl (v := M 0 (12 + 8 * c0 + 6)) rfl dX6_work_27 ?_
  refine lv_iconst (v := 1) hx hb dX6_work_28 (by decide) ?_
  refine lv_icmp_ne (tgt := 111) hx hb dX6_work_29 (by decide) (fun c4 => ?_) (fun c4 => ?_)
  · skip
    refine lv_aload_n hx hb dX6_work_111 rfl (lv_at hl 2 rfl) ?_
    refine m_get hx hb hts hin hown hK hI 0 (by decide) (hts (.fieldLink RX6 7 "WinderLaddersModel" "s" "[I") (by decide +kernel)) (v := .ref (q 1)) rfl dX6_work_112 ?_
    refine lv_iload_n hx hb dX6_work_115 rfl (lv_at hl 3 rfl) ?_
    refine lv_bipush (v := 6) hx hb dX6_work_116 (by decide) ?_
    refine m_calls (As := [.int (nI c0), .int 6]) (rest := [.ref (q 1)]) hx hb hml hown hts hI (k_X6_at l (c0) (6)) (va_cwS 2 hts gX6_work_X6_at rfl rfl rfl (by decide +kernel) ⟨Nat.le_of_ble_eq_true rfl, Nat.le_of_ble_eq_true rfl⟩) rfl hl (Nat.le_of_ble_eq_true rfl) ⟨Nat.zero_le _, Nat.zero_le _⟩ dX6_work_118 rfl (fun r H locs h5 hI => ?_)
    subst h5
    refine lv_iconst (v := 1) hx hb dX6_work_121 (by decide) ?_
    refine m_ast hx hb hK hA hI 0 (by decide) (12 + 8 * c0 + 6) (by show _ < 140; omega) rfl dX6_work_122 (fun H locs hI => ?_)
    refine lv_aload_n hx hb dX6_work_123 rfl (lv_at hl 2 rfl) ?_
    refine m_get hx hb hts hin hown hK hI 0 (by decide) (hts (.fieldLink RX6 7 "WinderLaddersModel" "s" "[I") (by decide +kernel)) (v := .ref (q 1)) rfl dX6_work_124 ?_
    refine lv_iload_n hx hb dX6_work_127 rfl (lv_at hl 3 rfl) ?_
    refine lv_iconst (v := 4) hx hb dX6_work_128 (by decide) ?_
    refine m_calls (As := [.int (nI c0), .int 4]) (rest := [.ref (q 1)]) hx hb hml hown hts hI (k_X6_at l (c0) (4)) (va_cwS 2 hts gX6_work_X6_at rfl rfl rfl (by decide +kernel) ⟨Nat.le_of_ble_eq_true rfl, Nat.le_of_ble_eq_true rfl⟩) rfl hl (Nat.le_of_ble_eq_true rfl) ⟨Nat.zero_le _, Nat.zero_le _⟩ dX6_work_129 rfl (fun r H locs h6 hI => ?_)
    subst h6
    refine lv_iconst (v := 0) hx hb dX6_work_132 (by decide) ?_
    refine m_ast hx hb hK hA hI 0 (by decide) (12 + 8 * c0 + 4) (by show _ < 140; omega) rfl dX6_work_133 (fun H locs hI => ?_)
    refine lv_aload_n hx hb dX6_work_134 rfl (lv_at hl 2 rfl) ?_
    refine m_get hx hb hts hin hown hK hI 0 (by decide) (hts (.fieldLink RX6 7 "WinderLaddersModel" "s" "[I") (by decide +kernel)) (v := .ref (q 1)) rfl dX6_work_135 ?_
    refine lv_iload_n hx hb dX6_work_138 rfl (lv_at hl 3 rfl) ?_
    refine lv_iconst (v := 5) hx hb dX6_work_139 (by decide) ?_
    refine m_calls (As := [.int (nI c0), .int 5]) (rest := [.ref (q 1)]) hx hb hml hown hts hI (k_X6_at l (c0) (5)) (va_cwS 2 hts gX6_work_X6_at rfl rfl rfl (by decide +kernel) ⟨Nat.le_of_ble_eq_true rfl, Nat.le_of_ble_eq_true rfl⟩) rfl hl (Nat.le_of_ble_eq_true rfl) ⟨Nat.zero_le _, Nat.zero_le _⟩ dX6_work_140 rfl (fun r H locs h7 hI => ?_)
    subst h7
    refine lv_iconst (v := 0) hx hb dX6_work_143 (by decide) ?_
    refine m_ast hx hb hK hA hI 0 (by decide) (12 + 8 * c0 + 5) (by show _ < 140; omega) rfl dX6_work_144 (fun H locs hI => ?_)
    refine lv_aload_n hx hb dX6_work_145 rfl (lv_at hl 2 rfl) ?_
    refine m_get hx hb hts hin hown hK hI 0 (by decide) (hts (.fieldLink RX6 7 "WinderLaddersModel" "s" "[I") (by decide +kernel)) (v := .ref (q 1)) rfl dX6_work_146 ?_
    refine lv_iload_n hx hb dX6_work_149 rfl (lv_at hl 3 rfl) ?_
    refine lv_bipush (v := 7) hx hb dX6_work_150 (by decide) ?_
    refine m_calls (As := [.int (nI c0), .int 7]) (rest := [.ref (q 1)]) hx hb hml hown hts hI (k_X6_at l (c0) (7)) (va_cwS 2 hts gX6_work_X6_at rfl rfl rfl (by decide +kernel) ⟨Nat.le_of_ble_eq_true rfl, Nat.le_of_ble_eq_true rfl⟩) rfl hl (Nat.le_of_ble_eq_true rfl) ⟨Nat.zero_le _, Nat.zero_le _⟩ dX6_work_152 rfl (fun r H locs h8 hI => ?_)
    subst h8
    refine lv_dup2_11 hx hb dX6_work_155 rfl rfl ?_
    refine m_ald hx hb hK hI 0 (by decide) (12 + 8 * c0 + 7) (by show _ < 140; omega) rfl (v := M 0 (12 + 8 * c0 + 7)) ((mset_nj _ (by omega) _ _).trans ((mset_nj _ (by omega) _ _).trans (mset_nj _ (by omega) _ _))) dX6_work_156 ?_
    refine lv_iconst (v := 1) hx hb dX6_work_157 (by decide) ?_
    refine lv_iadd hx hb dX6_work_158 ?_
    refine m_ast hx hb hK hA hI 0 (by decide) (12 + 8 * c0 + 7) (by show _ < 140; omega) rfl dX6_work_159 (fun H locs hI => ?_)
    exact m_vret hx hb hr hI (by simp [workM, wkS, mset_0, ms0_0, ms0_ms0, upd_ne, upd_self, -Int32.not_lt, -Int32.not_le, c4]) dX6_work_160 hlocks
  · skip
    refine lv_aload_n hx hb dX6_work_32 rfl (lv_at hl 2 rfl) ?_
    refine m_get hx hb hts hin hown hK hI 0 (by decide) (hts (.fieldLink RX6 7 "WinderLaddersModel" "s" "[I") (by decide +kernel)) (v := .ref (q 1)) rfl dX6_work_33 ?_
    refine lv_iload_n hx hb dX6_work_36 rfl (lv_at hl 3 rfl) ?_
    refine lv_iconst (v := 4) hx hb dX6_work_37 (by decide) ?_
    refine m_calls (As := [.int (nI c0), .int 4]) (rest := [.ref (q 1)]) hx hb hml hown hts hI (k_X6_at l (c0) (4)) (va_cwS 2 hts gX6_work_X6_at rfl rfl rfl (by decide +kernel) ⟨Nat.le_of_ble_eq_true rfl, Nat.le_of_ble_eq_true rfl⟩) rfl hl (Nat.le_of_ble_eq_true rfl) ⟨Nat.zero_le _, Nat.zero_le _⟩ dX6_work_38 rfl (fun r H locs h9 hI => ?_)
    subst h9
    refine m_ald hx hb hK hI 0 (by decide) (12 + 8 * c0 + 4) (by show _ < 140; omega) rfl (v := M 0 (12 + 8 * c0 + 4)) rfl dX6_work_41 ?_
    refine m_calls (As := [.int (M 0 (12 + 8 * c0 + 4))]) (rest := []) hx hb hml hown hts hI (k_X6_size l (M 0 (12 + 8 * c0 + 4))) (va_cwS 1 hts gX6_work_X6_size rfl rfl rfl (by decide +kernel) ⟨Nat.le_of_ble_eq_true rfl, Nat.le_of_ble_eq_true rfl⟩) rfl hl (Nat.le_of_ble_eq_true rfl) ⟨Nat.zero_le _, Nat.zero_le _⟩ dX6_work_42 rfl (fun r H locs h10 hI => ?_)
    subst h10
    refine lv_aload_n hx hb dX6_work_45 rfl (lv_at hl 2 rfl) ?_
    refine m_get hx hb hts hin hown hK hI 0 (by decide) (hts (.fieldLink RX6 7 "WinderLaddersModel" "s" "[I") (by decide +kernel)) (v := .ref (q 1)) rfl dX6_work_46 ?_
    refine lv_iconst (v := 0) hx hb dX6_work_49 (by decide) ?_
    refine m_ald hx hb hK hI 0 (by decide) (0) (by show _ < 140; omega) rfl (v := M 0 0) rfl dX6_work_50 ?_
    refine lv_iconst (v := 2) hx hb dX6_work_51 (by decide) ?_
    refine lv_idiv hx hb dX6_work_52 (by decide) ?_
    refine lv_icmp_le (tgt := 111) hx hb dX6_work_53 (by decide) (fun c11 => ?_) (fun c11 => ?_)
    · skip
      refine lv_aload_n hx hb dX6_work_111 rfl (lv_at hl 2 rfl) ?_
      refine m_get hx hb hts hin hown hK hI 0 (by decide) (hts (.fieldLink RX6 7 "WinderLaddersModel" "s" "[I") (by decide +kernel)) (v := .ref (q 1)) rfl dX6_work_112 ?_
      refine lv_iload_n hx hb dX6_work_115 rfl (lv_at hl 3 rfl) ?_
      refine lv_bipush (v := 6) hx hb dX6_work_116 (by decide) ?_
      refine m_calls (As := [.int (nI c0), .int 6]) (rest := [.ref (q 1)]) hx hb hml hown hts hI (k_X6_at l (c0) (6)) (va_cwS 2 hts gX6_work_X6_at rfl rfl rfl (by decide +kernel) ⟨Nat.le_of_ble_eq_true rfl, Nat.le_of_ble_eq_true rfl⟩) rfl hl (Nat.le_of_ble_eq_true rfl) ⟨Nat.zero_le _, Nat.zero_le _⟩ dX6_work_118 rfl (fun r H locs h12 hI => ?_)
      subst h12
      refine lv_iconst (v := 1) hx hb dX6_work_121 (by decide) ?_
      refine m_ast hx hb hK hA hI 0 (by decide) (12 + 8 * c0 + 6) (by show _ < 140; omega) rfl dX6_work_122 (fun H locs hI => ?_)
      refine lv_aload_n hx hb dX6_work_123 rfl (lv_at hl 2 rfl) ?_
      refine m_get hx hb hts hin hown hK hI 0 (by decide) (hts (.fieldLink RX6 7 "WinderLaddersModel" "s" "[I") (by decide +kernel)) (v := .ref (q 1)) rfl dX6_work_124 ?_
      refine lv_iload_n hx hb dX6_work_127 rfl (lv_at hl 3 rfl) ?_
      refine lv_iconst (v := 4) hx hb dX6_work_128 (by decide) ?_
      refine m_calls (As := [.int (nI c0), .int 4]) (rest := [.ref (q 1)]) hx hb hml hown hts hI (k_X6_at l (c0) (4)) (va_cwS 2 hts gX6_work_X6_at rfl rfl rfl (by decide +kernel) ⟨Nat.le_of_ble_eq_true rfl, Nat.le_of_ble_eq_true rfl⟩) rfl hl (Nat.le_of_ble_eq_true rfl) ⟨Nat.zero_le _, Nat.zero_le _⟩ dX6_work_129 rfl (fun r H locs h13 hI => ?_)
      subst h13
      refine lv_iconst (v := 0) hx hb dX6_work_132 (by decide) ?_
      refine m_ast hx hb hK hA hI 0 (by decide) (12 + 8 * c0 + 4) (by show _ < 140; omega) rfl dX6_work_133 (fun H locs hI => ?_)
      refine lv_aload_n hx hb dX6_work_134 rfl (lv_at hl 2 rfl) ?_
      refine m_get hx hb hts hin hown hK hI 0 (by decide) (hts (.fieldLink RX6 7 "WinderLaddersModel" "s" "[I") (by decide +kernel)) (v := .ref (q 1)) rfl dX6_work_135 ?_
      refine lv_iload_n hx hb dX6_work_138 rfl (lv_at hl 3 rfl) ?_
      refine lv_iconst (v := 5) hx hb dX6_work_139 (by decide) ?_
      refine m_calls (As := [.int (nI c0), .int 5]) (rest := [.ref (q 1)]) hx hb hml hown hts hI (k_X6_at l (c0) (5)) (va_cwS 2 hts gX6_work_X6_at rfl rfl rfl (by decide +kernel) ⟨Nat.le_of_ble_eq_true rfl, Nat.le_of_ble_eq_true rfl⟩) rfl hl (Nat.le_of_ble_eq_true rfl) ⟨Nat.zero_le _, Nat.zero_le _⟩ dX6_work_140 rfl (fun r H locs h14 hI => ?_)
      subst h14
      refine lv_iconst (v := 0) hx hb dX6_work_143 (by decide) ?_
      refine m_ast hx hb hK hA hI 0 (by decide) (12 + 8 * c0 + 5) (by show _ < 140; omega) rfl dX6_work_144 (fun H locs hI => ?_)
      refine lv_aload_n hx hb dX6_work_145 rfl (lv_at hl 2 rfl) ?_
      refine m_get hx hb hts hin hown hK hI 0 (by decide) (hts (.fieldLink RX6 7 "WinderLaddersModel" "s" "[I") (by decide +kernel)) (v := .ref (q 1)) rfl dX6_work_146 ?_
      refine lv_iload_n hx hb dX6_work_149 rfl (lv_at hl 3 rfl) ?_
      refine lv_bipush (v := 7) hx hb dX6_work_150 (by decide) ?_
      refine m_calls (As := [.int (nI c0), .int 7]) (rest := [.ref (q 1)]) hx hb hml hown hts hI (k_X6_at l (c0) (7)) (va_cwS 2 hts gX6_work_X6_at rfl rfl rfl (by decide +kernel) ⟨Nat.le_of_ble_eq_true rfl, Nat.le_of_ble_eq_true rfl⟩) rfl hl (Nat.le_of_ble_eq_true rfl) ⟨Nat.zero_le _, Nat.zero_le _⟩ dX6_work_152 rfl (fun r H locs h15 hI => ?_)
      subst h15
      refine lv_dup2_11 hx hb dX6_work_155 rfl rfl ?_
      refine m_ald hx hb hK hI 0 (by decide) (12 + 8 * c0 + 7) (by show _ < 140; omega) rfl (v := M 0 (12 + 8 * c0 + 7)) ((mset_nj _ (by omega) _ _).trans ((mset_nj _ (by omega) _ _).trans (mset_nj _ (by omega) _ _))) dX6_work_156 ?_
      refine lv_iconst (v := 1) hx hb dX6_work_157 (by decide) ?_
      refine lv_iadd hx hb dX6_work_158 ?_
      refine m_ast hx hb hK hA hI 0 (by decide) (12 + 8 * c0 + 7) (by show _ < 140; omega) rfl dX6_work_159 (fun H locs hI => ?_)
      exact m_vret hx hb hr hI (by simp [workM, wkS, mset_0, ms0_0, ms0_ms0, upd_ne, upd_self, -Int32.not_lt, -Int32.not_le, c4, c11]) dX6_work_160 hlocks
    · skip
      refine lv_iload_n hx hb dX6_work_56 rfl (lv_at hl 0 rfl) ?_
      refine lv_iload_n hx hb dX6_work_57 rfl (lv_at hl 1 rfl) ?_
      refine lv_if_le (tgt := 65) hx hb dX6_work_58 (by decide) (fun c16 => ?_) (fun c16 => ?_)
      · skip
        refine lv_iload_n hx hb dX6_work_65 rfl (lv_at hl 1 rfl) ?_
        refine lv_if_ge (tgt := 73) hx hb dX6_work_66 (by decide) (fun c17 => ?_) (fun c17 => ?_)
        · skip
          refine lv_iconst (v := 0) hx hb dX6_work_73 (by decide) ?_
          refine lv_iadd hx hb dX6_work_74 ?_
          refine lv_istore_n (lv' := [(3, .int ((M 0 (12 + 8 * c0 + 3)) + 0)), (2, .int (rt (M 0) c0)), (0, .ref (q 0)), (1, .int (nI c0))]) hx hb dX6_work_75 rfl hl (by decide) rfl (fun ls hl => ?_)
          refine lv_aload_n hx hb dX6_work_76 rfl (lv_at hl 2 rfl) ?_
          refine m_get hx hb hts hin hown hK hI 0 (by decide) (hts (.fieldLink RX6 7 "WinderLaddersModel" "s" "[I") (by decide +kernel)) (v := .ref (q 1)) rfl dX6_work_77 ?_
          refine lv_iload_n hx hb dX6_work_80 rfl (lv_at hl 3 rfl) ?_
          refine lv_iconst (v := 3) hx hb dX6_work_81 (by decide) ?_
          refine m_calls (As := [.int (nI c0), .int 3]) (rest := [.ref (q 1)]) hx hb hml hown hts hI (k_X6_at l (c0) (3)) (va_cwS 2 hts gX6_work_X6_at rfl rfl rfl (by decide +kernel) ⟨Nat.le_of_ble_eq_true rfl, Nat.le_of_ble_eq_true rfl⟩) rfl hl (Nat.le_of_ble_eq_true rfl) ⟨Nat.zero_le _, Nat.zero_le _⟩ dX6_work_82 rfl (fun r H locs h18 hI => ?_)
          subst h18
          refine lv_iload_n hx hb dX6_work_85 rfl (lv_at hl 0 rfl) ?_
          refine lv_bipush (v := (-20)) hx hb dX6_work_86 (by decide) ?_
          refine lv_bipush (v := 20) hx hb dX6_work_88 (by decide) ?_
          refine m_calls (As := [.int ((M 0 (12 + 8 * c0 + 3)) + 0), .int ((-20)), .int 20]) (rest := [.int (nI (12 + 8 * c0 + 3)), .ref (q 1)]) hx hb hml hown hts hI (k_X6_in l ((M 0 (12 + 8 * c0 + 3)) + 0) (-20) 20) (va_cwS 3 hts gX6_work_X6_in rfl rfl rfl (by decide +kernel) ⟨Nat.le_of_ble_eq_true rfl, Nat.le_of_ble_eq_true rfl⟩) rfl hl (Nat.le_of_ble_eq_true rfl) ⟨Nat.zero_le _, Nat.zero_le _⟩ dX6_work_90 rfl (fun r H locs h20 hI => ?_)
          rcases h20 with ⟨b19, rfl⟩ | ⟨b19, rfl⟩
          · skip
            refine lv_if_eq (tgt := 100) hx hb dX6_work_93 (by decide) (fun c21 => absurd c21 (by decide)) (fun _ => ?_)
            refine lv_iload_n hx hb dX6_work_96 rfl (lv_at hl 0 rfl) ?_
            refine lv_goto (tgt := 110) hx hb dX6_work_97 (by decide) ?_
            refine m_ast hx hb hK hA hI 0 (by decide) (12 + 8 * c0 + 3) (by show _ < 140; omega) rfl dX6_work_110 (fun H locs hI => ?_)
            refine lv_aload_n hx hb dX6_work_111 rfl (lv_at hl 2 rfl) ?_
            refine m_get hx hb hts hin hown hK hI 0 (by decide) (hts (.fieldLink RX6 7 "WinderLaddersModel" "s" "[I") (by decide +kernel)) (v := .ref (q 1)) rfl dX6_work_112 ?_
            refine lv_iload_n hx hb dX6_work_115 rfl (lv_at hl 3 rfl) ?_
            refine lv_bipush (v := 6) hx hb dX6_work_116 (by decide) ?_
            refine m_calls (As := [.int (nI c0), .int 6]) (rest := [.ref (q 1)]) hx hb hml hown hts hI (k_X6_at l (c0) (6)) (va_cwS 2 hts gX6_work_X6_at rfl rfl rfl (by decide +kernel) ⟨Nat.le_of_ble_eq_true rfl, Nat.le_of_ble_eq_true rfl⟩) rfl hl (Nat.le_of_ble_eq_true rfl) ⟨Nat.zero_le _, Nat.zero_le _⟩ dX6_work_118 rfl (fun r H locs h22 hI => ?_)
            subst h22
            refine lv_iconst (v := 1) hx hb dX6_work_121 (by decide) ?_
            refine m_ast hx hb hK hA hI 0 (by decide) (12 + 8 * c0 + 6) (by show _ < 140; omega) rfl dX6_work_122 (fun H locs hI => ?_)
            refine lv_aload_n hx hb dX6_work_123 rfl (lv_at hl 2 rfl) ?_
            refine m_get hx hb hts hin hown hK hI 0 (by decide) (hts (.fieldLink RX6 7 "WinderLaddersModel" "s" "[I") (by decide +kernel)) (v := .ref (q 1)) rfl dX6_work_124 ?_
            refine lv_iload_n hx hb dX6_work_127 rfl (lv_at hl 3 rfl) ?_
            refine lv_iconst (v := 4) hx hb dX6_work_128 (by decide) ?_
            refine m_calls (As := [.int (nI c0), .int 4]) (rest := [.ref (q 1)]) hx hb hml hown hts hI (k_X6_at l (c0) (4)) (va_cwS 2 hts gX6_work_X6_at rfl rfl rfl (by decide +kernel) ⟨Nat.le_of_ble_eq_true rfl, Nat.le_of_ble_eq_true rfl⟩) rfl hl (Nat.le_of_ble_eq_true rfl) ⟨Nat.zero_le _, Nat.zero_le _⟩ dX6_work_129 rfl (fun r H locs h23 hI => ?_)
            subst h23
            refine lv_iconst (v := 0) hx hb dX6_work_132 (by decide) ?_
            refine m_ast hx hb hK hA hI 0 (by decide) (12 + 8 * c0 + 4) (by show _ < 140; omega) rfl dX6_work_133 (fun H locs hI => ?_)
            refine lv_aload_n hx hb dX6_work_134 rfl (lv_at hl 2 rfl) ?_
            refine m_get hx hb hts hin hown hK hI 0 (by decide) (hts (.fieldLink RX6 7 "WinderLaddersModel" "s" "[I") (by decide +kernel)) (v := .ref (q 1)) rfl dX6_work_135 ?_
            refine lv_iload_n hx hb dX6_work_138 rfl (lv_at hl 3 rfl) ?_
            refine lv_iconst (v := 5) hx hb dX6_work_139 (by decide) ?_
            refine m_calls (As := [.int (nI c0), .int 5]) (rest := [.ref (q 1)]) hx hb hml hown hts hI (k_X6_at l (c0) (5)) (va_cwS 2 hts gX6_work_X6_at rfl rfl rfl (by decide +kernel) ⟨Nat.le_of_ble_eq_true rfl, Nat.le_of_ble_eq_true rfl⟩) rfl hl (Nat.le_of_ble_eq_true rfl) ⟨Nat.zero_le _, Nat.zero_le _⟩ dX6_work_140 rfl (fun r H locs h24 hI => ?_)
            subst h24
            refine lv_iconst (v := 0) hx hb dX6_work_143 (by decide) ?_
            refine m_ast hx hb hK hA hI 0 (by decide) (12 + 8 * c0 + 5) (by show _ < 140; omega) rfl dX6_work_144 (fun H locs hI => ?_)
            refine lv_aload_n hx hb dX6_work_145 rfl (lv_at hl 2 rfl) ?_
            refine m_get hx hb hts hin hown hK hI 0 (by decide) (hts (.fieldLink RX6 7 "WinderLaddersModel" "s" "[I") (by decide +kernel)) (v := .ref (q 1)) rfl dX6_work_146 ?_
            refine lv_iload_n hx hb dX6_work_149 rfl (lv_at hl 3 rfl) ?_
            refine lv_bipush (v := 7) hx hb dX6_work_150 (by decide) ?_
            refine m_calls (As := [.int (nI c0), .int 7]) (rest := [.ref (q 1)]) hx hb hml hown hts hI (k_X6_at l (c0) (7)) (va_cwS 2 hts gX6_work_X6_at rfl rfl rfl (by decide +kernel) ⟨Nat.le_of_ble_eq_true rfl, Nat.le_of_ble_eq_true rfl⟩) rfl hl (Nat.le_of_ble_eq_true rfl) ⟨Nat.zero_le _, Nat.zero_le _⟩ dX6_work_152 rfl (fun r H locs h25 hI => ?_)
            subst h25
            refine lv_dup2_11 hx hb dX6_work_155 rfl rfl ?_
            refine m_ald hx hb hK hI 0 (by decide) (12 + 8 * c0 + 7) (by show _ < 140; omega) rfl (v := M 0 (12 + 8 * c0 + 7)) ((mset_nj _ (by omega) _ _).trans ((mset_nj _ (by omega) _ _).trans ((mset_nj _ (by omega) _ _).trans (mset_nj _ (by omega) _ _)))) dX6_work_156 ?_
            refine lv_iconst (v := 1) hx hb dX6_work_157 (by decide) ?_
            refine lv_iadd hx hb dX6_work_158 ?_
            refine m_ast hx hb hK hA hI 0 (by decide) (12 + 8 * c0 + 7) (by show _ < 140; omega) rfl dX6_work_159 (fun H locs hI => ?_)
            exact m_vret hx hb hr hI (by simp [workM, wkS, mset_0, ms0_0, ms0_ms0, upd_ne, upd_self, -Int32.not_lt, -Int32.not_le, c4, c11, c16, c17, b19]) dX6_work_160 hlocks
          · skip
            refine lv_if_eq (tgt := 100) hx hb dX6_work_93 (by decide) (fun _ => ?_) (fun c26 => absurd (by decide) c26)
            refine lv_aload_n hx hb dX6_work_100 rfl (lv_at hl 2 rfl) ?_
            refine m_get hx hb hts hin hown hK hI 0 (by decide) (hts (.fieldLink RX6 7 "WinderLaddersModel" "s" "[I") (by decide +kernel)) (v := .ref (q 1)) rfl dX6_work_101 ?_
            refine lv_iload_n hx hb dX6_work_104 rfl (lv_at hl 3 rfl) ?_
            refine lv_iconst (v := 3) hx hb dX6_work_105 (by decide) ?_
            refine m_calls (As := [.int (nI c0), .int 3]) (rest := [.ref (q 1), .int (nI (12 + 8 * c0 + 3)), .ref (q 1)]) hx hb hml hown hts hI (k_X6_at l (c0) (3)) (va_cwS 2 hts gX6_work_X6_at rfl rfl rfl (by decide +kernel) ⟨Nat.le_of_ble_eq_true rfl, Nat.le_of_ble_eq_true rfl⟩) rfl hl (Nat.le_of_ble_eq_true rfl) ⟨Nat.zero_le _, Nat.zero_le _⟩ dX6_work_106 rfl (fun r H locs h27 hI => ?_)
            subst h27
            refine m_ald hx hb hK hI 0 (by decide) (12 + 8 * c0 + 3) (by show _ < 140; omega) rfl (v := M 0 (12 + 8 * c0 + 3)) rfl dX6_work_109 ?_
            refine m_ast hx hb hK hA hI 0 (by decide) (12 + 8 * c0 + 3) (by show _ < 140; omega) rfl dX6_work_110 (fun H locs hI => ?_)
            refine lv_aload_n hx hb dX6_work_111 rfl (lv_at hl 2 rfl) ?_
            refine m_get hx hb hts hin hown hK hI 0 (by decide) (hts (.fieldLink RX6 7 "WinderLaddersModel" "s" "[I") (by decide +kernel)) (v := .ref (q 1)) rfl dX6_work_112 ?_
            refine lv_iload_n hx hb dX6_work_115 rfl (lv_at hl 3 rfl) ?_
            refine lv_bipush (v := 6) hx hb dX6_work_116 (by decide) ?_
            refine m_calls (As := [.int (nI c0), .int 6]) (rest := [.ref (q 1)]) hx hb hml hown hts hI (k_X6_at l (c0) (6)) (va_cwS 2 hts gX6_work_X6_at rfl rfl rfl (by decide +kernel) ⟨Nat.le_of_ble_eq_true rfl, Nat.le_of_ble_eq_true rfl⟩) rfl hl (Nat.le_of_ble_eq_true rfl) ⟨Nat.zero_le _, Nat.zero_le _⟩ dX6_work_118 rfl (fun r H locs h28 hI => ?_)
            subst h28
            refine lv_iconst (v := 1) hx hb dX6_work_121 (by decide) ?_
            refine m_ast hx hb hK hA hI 0 (by decide) (12 + 8 * c0 + 6) (by show _ < 140; omega) rfl dX6_work_122 (fun H locs hI => ?_)
            refine lv_aload_n hx hb dX6_work_123 rfl (lv_at hl 2 rfl) ?_
            refine m_get hx hb hts hin hown hK hI 0 (by decide) (hts (.fieldLink RX6 7 "WinderLaddersModel" "s" "[I") (by decide +kernel)) (v := .ref (q 1)) rfl dX6_work_124 ?_
            refine lv_iload_n hx hb dX6_work_127 rfl (lv_at hl 3 rfl) ?_
            refine lv_iconst (v := 4) hx hb dX6_work_128 (by decide) ?_
            refine m_calls (As := [.int (nI c0), .int 4]) (rest := [.ref (q 1)]) hx hb hml hown hts hI (k_X6_at l (c0) (4)) (va_cwS 2 hts gX6_work_X6_at rfl rfl rfl (by decide +kernel) ⟨Nat.le_of_ble_eq_true rfl, Nat.le_of_ble_eq_true rfl⟩) rfl hl (Nat.le_of_ble_eq_true rfl) ⟨Nat.zero_le _, Nat.zero_le _⟩ dX6_work_129 rfl (fun r H locs h29 hI => ?_)
            subst h29
            refine lv_iconst (v := 0) hx hb dX6_work_132 (by decide) ?_
            refine m_ast hx hb hK hA hI 0 (by decide) (12 + 8 * c0 + 4) (by show _ < 140; omega) rfl dX6_work_133 (fun H locs hI => ?_)
            refine lv_aload_n hx hb dX6_work_134 rfl (lv_at hl 2 rfl) ?_
            refine m_get hx hb hts hin hown hK hI 0 (by decide) (hts (.fieldLink RX6 7 "WinderLaddersModel" "s" "[I") (by decide +kernel)) (v := .ref (q 1)) rfl dX6_work_135 ?_
            refine lv_iload_n hx hb dX6_work_138 rfl (lv_at hl 3 rfl) ?_
            refine lv_iconst (v := 5) hx hb dX6_work_139 (by decide) ?_
            refine m_calls (As := [.int (nI c0), .int 5]) (rest := [.ref (q 1)]) hx hb hml hown hts hI (k_X6_at l (c0) (5)) (va_cwS 2 hts gX6_work_X6_at rfl rfl rfl (by decide +kernel) ⟨Nat.le_of_ble_eq_true rfl, Nat.le_of_ble_eq_true rfl⟩) rfl hl (Nat.le_of_ble_eq_true rfl) ⟨Nat.zero_le _, Nat.zero_le _⟩ dX6_work_140 rfl (fun r H locs h30 hI => ?_)
            subst h30
            refine lv_iconst (v := 0) hx hb dX6_work_143 (by decide) ?_
            refine m_ast hx hb hK hA hI 0 (by decide) (12 + 8 * c0 + 5) (by show _ < 140; omega) rfl dX6_work_144 (fun H locs hI => ?_)
            refine lv_aload_n hx hb dX6_work_145 rfl (lv_at hl 2 rfl) ?_
            refine m_get hx hb hts hin hown hK hI 0 (by decide) (hts (.fieldLink RX6 7 "WinderLaddersModel" "s" "[I") (by decide +kernel)) (v := .ref (q 1)) rfl dX6_work_146 ?_
            refine lv_iload_n hx hb dX6_work_149 rfl (lv_at hl 3 rfl) ?_
            refine lv_bipush (v := 7) hx hb dX6_work_150 (by decide) ?_
            refine m_calls (As := [.int (nI c0), .int 7]) (rest := [.ref (q 1)]) hx hb hml hown hts hI (k_X6_at l (c0) (7)) (va_cwS 2 hts gX6_work_X6_at rfl rfl rfl (by decide +kernel) ⟨Nat.le_of_ble_eq_true rfl, Nat.le_of_ble_eq_true rfl⟩) rfl hl (Nat.le_of_ble_eq_true rfl) ⟨Nat.zero_le _, Nat.zero_le _⟩ dX6_work_152 rfl (fun r H locs h31 hI => ?_)
            subst h31
            refine lv_dup2_11 hx hb dX6_work_155 rfl rfl ?_
            refine m_ald hx hb hK hI 0 (by decide) (12 + 8 * c0 + 7) (by show _ < 140; omega) rfl (v := M 0 (12 + 8 * c0 + 7)) ((mset_nj _ (by omega) _ _).trans ((mset_nj _ (by omega) _ _).trans ((mset_nj _ (by omega) _ _).trans (mset_nj _ (by omega) _ _)))) dX6_work_156 ?_
            refine lv_iconst (v := 1) hx hb dX6_work_157 (by decide) ?_
            refine lv_iadd hx hb dX6_work_158 ?_
            refine m_ast hx hb hK hA hI 0 (by decide) (12 + 8 * c0 + 7) (by show _ < 140; omega) rfl dX6_work_159 (fun H locs hI => ?_)
            exact m_vret hx hb hr hI (by simp [workM, wkS, mset_0, ms0_0, ms0_ms0, upd_ne, upd_self, -Int32.not_lt, -Int32.not_le, c4, c11, c16, c17, b19]) dX6_work_160 hlocks
        · skip
          refine lv_iconst (v := 1) hx hb dX6_work_69 (by decide) ?_
          refine lv_goto (tgt := 74) hx hb dX6_work_70 (by decide) ?_
          refine lv_iadd hx hb dX6_work_74 ?_
          refine lv_istore_n (lv' := [(3, .int ((M 0 (12 + 8 * c0 + 3)) + 1)), (2, .int (rt (M 0) c0)), (0, .ref (q 0)), (1, .int (nI c0))]) hx hb dX6_work_75 rfl hl (by decide) rfl (fun ls hl => ?_)
          refine lv_aload_n hx hb dX6_work_76 rfl (lv_at hl 2 rfl) ?_
          refine m_get hx hb hts hin hown hK hI 0 (by decide) (hts (.fieldLink RX6 7 "WinderLaddersModel" "s" "[I") (by decide +kernel)) (v := .ref (q 1)) rfl dX6_work_77 ?_
          refine lv_iload_n hx hb dX6_work_80 rfl (lv_at hl 3 rfl) ?_
          refine lv_iconst (v := 3) hx hb dX6_work_81 (by decide) ?_
          refine m_calls (As := [.int (nI c0), .int 3]) (rest := [.ref (q 1)]) hx hb hml hown hts hI (k_X6_at l (c0) (3)) (va_cwS 2 hts gX6_work_X6_at rfl rfl rfl (by decide +kernel) ⟨Nat.le_of_ble_eq_true rfl, Nat.le_of_ble_eq_true rfl⟩) rfl hl (Nat.le_of_ble_eq_true rfl) ⟨Nat.zero_le _, Nat.zero_le _⟩ dX6_work_82 rfl (fun r H locs h32 hI => ?_)
          subst h32
          refine lv_iload_n hx hb dX6_work_85 rfl (lv_at hl 0 rfl) ?_
          refine lv_bipush (v := (-20)) hx hb dX6_work_86 (by decide) ?_
          refine lv_bipush (v := 20) hx hb dX6_work_88 (by decide) ?_
          refine m_calls (As := [.int ((M 0 (12 + 8 * c0 + 3)) + 1), .int ((-20)), .int 20]) (rest := [.int (nI (12 + 8 * c0 + 3)), .ref (q 1)]) hx hb hml hown hts hI (k_X6_in l ((M 0 (12 + 8 * c0 + 3)) + 1) (-20) 20) (va_cwS 3 hts gX6_work_X6_in rfl rfl rfl (by decide +kernel) ⟨Nat.le_of_ble_eq_true rfl, Nat.le_of_ble_eq_true rfl⟩) rfl hl (Nat.le_of_ble_eq_true rfl) ⟨Nat.zero_le _, Nat.zero_le _⟩ dX6_work_90 rfl (fun r H locs h34 hI => ?_)
          rcases h34 with ⟨b33, rfl⟩ | ⟨b33, rfl⟩
          · skip
            refine lv_if_eq (tgt := 100) hx hb dX6_work_93 (by decide) (fun c35 => absurd c35 (by decide)) (fun _ => ?_)
            refine lv_iload_n hx hb dX6_work_96 rfl (lv_at hl 0 rfl) ?_
            refine lv_goto (tgt := 110) hx hb dX6_work_97 (by decide) ?_
            refine m_ast hx hb hK hA hI 0 (by decide) (12 + 8 * c0 + 3) (by show _ < 140; omega) rfl dX6_work_110 (fun H locs hI => ?_)
            refine lv_aload_n hx hb dX6_work_111 rfl (lv_at hl 2 rfl) ?_
            refine m_get hx hb hts hin hown hK hI 0 (by decide) (hts (.fieldLink RX6 7 "WinderLaddersModel" "s" "[I") (by decide +kernel)) (v := .ref (q 1)) rfl dX6_work_112 ?_
            refine lv_iload_n hx hb dX6_work_115 rfl (lv_at hl 3 rfl) ?_
            refine lv_bipush (v := 6) hx hb dX6_work_116 (by decide) ?_
            refine m_calls (As := [.int (nI c0), .int 6]) (rest := [.ref (q 1)]) hx hb hml hown hts hI (k_X6_at l (c0) (6)) (va_cwS 2 hts gX6_work_X6_at rfl rfl rfl (by decide +kernel) ⟨Nat.le_of_ble_eq_true rfl, Nat.le_of_ble_eq_true rfl⟩) rfl hl (Nat.le_of_ble_eq_true rfl) ⟨Nat.zero_le _, Nat.zero_le _⟩ dX6_work_118 rfl (fun r H locs h36 hI => ?_)
            subst h36
            refine lv_iconst (v := 1) hx hb dX6_work_121 (by decide) ?_
            refine m_ast hx hb hK hA hI 0 (by decide) (12 + 8 * c0 + 6) (by show _ < 140; omega) rfl dX6_work_122 (fun H locs hI => ?_)
            refine lv_aload_n hx hb dX6_work_123 rfl (lv_at hl 2 rfl) ?_
            refine m_get hx hb hts hin hown hK hI 0 (by decide) (hts (.fieldLink RX6 7 "WinderLaddersModel" "s" "[I") (by decide +kernel)) (v := .ref (q 1)) rfl dX6_work_124 ?_
            refine lv_iload_n hx hb dX6_work_127 rfl (lv_at hl 3 rfl) ?_
            refine lv_iconst (v := 4) hx hb dX6_work_128 (by decide) ?_
            refine m_calls (As := [.int (nI c0), .int 4]) (rest := [.ref (q 1)]) hx hb hml hown hts hI (k_X6_at l (c0) (4)) (va_cwS 2 hts gX6_work_X6_at rfl rfl rfl (by decide +kernel) ⟨Nat.le_of_ble_eq_true rfl, Nat.le_of_ble_eq_true rfl⟩) rfl hl (Nat.le_of_ble_eq_true rfl) ⟨Nat.zero_le _, Nat.zero_le _⟩ dX6_work_129 rfl (fun r H locs h37 hI => ?_)
            subst h37
            refine lv_iconst (v := 0) hx hb dX6_work_132 (by decide) ?_
            refine m_ast hx hb hK hA hI 0 (by decide) (12 + 8 * c0 + 4) (by show _ < 140; omega) rfl dX6_work_133 (fun H locs hI => ?_)
            refine lv_aload_n hx hb dX6_work_134 rfl (lv_at hl 2 rfl) ?_
            refine m_get hx hb hts hin hown hK hI 0 (by decide) (hts (.fieldLink RX6 7 "WinderLaddersModel" "s" "[I") (by decide +kernel)) (v := .ref (q 1)) rfl dX6_work_135 ?_
            refine lv_iload_n hx hb dX6_work_138 rfl (lv_at hl 3 rfl) ?_
            refine lv_iconst (v := 5) hx hb dX6_work_139 (by decide) ?_
            refine m_calls (As := [.int (nI c0), .int 5]) (rest := [.ref (q 1)]) hx hb hml hown hts hI (k_X6_at l (c0) (5)) (va_cwS 2 hts gX6_work_X6_at rfl rfl rfl (by decide +kernel) ⟨Nat.le_of_ble_eq_true rfl, Nat.le_of_ble_eq_true rfl⟩) rfl hl (Nat.le_of_ble_eq_true rfl) ⟨Nat.zero_le _, Nat.zero_le _⟩ dX6_work_140 rfl (fun r H locs h38 hI => ?_)
            subst h38
            refine lv_iconst (v := 0) hx hb dX6_work_143 (by decide) ?_
            refine m_ast hx hb hK hA hI 0 (by decide) (12 + 8 * c0 + 5) (by show _ < 140; omega) rfl dX6_work_144 (fun H locs hI => ?_)
            refine lv_aload_n hx hb dX6_work_145 rfl (lv_at hl 2 rfl) ?_
            refine m_get hx hb hts hin hown hK hI 0 (by decide) (hts (.fieldLink RX6 7 "WinderLaddersModel" "s" "[I") (by decide +kernel)) (v := .ref (q 1)) rfl dX6_work_146 ?_
            refine lv_iload_n hx hb dX6_work_149 rfl (lv_at hl 3 rfl) ?_
            refine lv_bipush (v := 7) hx hb dX6_work_150 (by decide) ?_
            refine m_calls (As := [.int (nI c0), .int 7]) (rest := [.ref (q 1)]) hx hb hml hown hts hI (k_X6_at l (c0) (7)) (va_cwS 2 hts gX6_work_X6_at rfl rfl rfl (by decide +kernel) ⟨Nat.le_of_ble_eq_true rfl, Nat.le_of_ble_eq_true rfl⟩) rfl hl (Nat.le_of_ble_eq_true rfl) ⟨Nat.zero_le _, Nat.zero_le _⟩ dX6_work_152 rfl (fun r H locs h39 hI => ?_)
            subst h39
            refine lv_dup2_11 hx hb dX6_work_155 rfl rfl ?_
            refine m_ald hx hb hK hI 0 (by decide) (12 + 8 * c0 + 7) (by show _ < 140; omega) rfl (v := M 0 (12 + 8 * c0 + 7)) ((mset_nj _ (by omega) _ _).trans ((mset_nj _ (by omega) _ _).trans ((mset_nj _ (by omega) _ _).trans (mset_nj _ (by omega) _ _)))) dX6_work_156 ?_
            refine lv_iconst (v := 1) hx hb dX6_work_157 (by decide) ?_
            refine lv_iadd hx hb dX6_work_158 ?_
            refine m_ast hx hb hK hA hI 0 (by decide) (12 + 8 * c0 + 7) (by show _ < 140; omega) rfl dX6_work_159 (fun H locs hI => ?_)
            exact m_vret hx hb hr hI (by simp [workM, wkS, mset_0, ms0_0, ms0_ms0, upd_ne, upd_self, -Int32.not_lt, -Int32.not_le, c4, c11, c16, c17, b33]) dX6_work_160 hlocks
          · skip
            refine lv_if_eq (tgt := 100) hx hb dX6_work_93 (by decide) (fun _ => ?_) (fun c40 => absurd (by decide) c40)
            refine lv_aload_n hx hb dX6_work_100 rfl (lv_at hl 2 rfl) ?_
            refine m_get hx hb hts hin hown hK hI 0 (by decide) (hts (.fieldLink RX6 7 "WinderLaddersModel" "s" "[I") (by decide +kernel)) (v := .ref (q 1)) rfl dX6_work_101 ?_
            refine lv_iload_n hx hb dX6_work_104 rfl (lv_at hl 3 rfl) ?_
            refine lv_iconst (v := 3) hx hb dX6_work_105 (by decide) ?_
            refine m_calls (As := [.int (nI c0), .int 3]) (rest := [.ref (q 1), .int (nI (12 + 8 * c0 + 3)), .ref (q 1)]) hx hb hml hown hts hI (k_X6_at l (c0) (3)) (va_cwS 2 hts gX6_work_X6_at rfl rfl rfl (by decide +kernel) ⟨Nat.le_of_ble_eq_true rfl, Nat.le_of_ble_eq_true rfl⟩) rfl hl (Nat.le_of_ble_eq_true rfl) ⟨Nat.zero_le _, Nat.zero_le _⟩ dX6_work_106 rfl (fun r H locs h41 hI => ?_)
            subst h41
            refine m_ald hx hb hK hI 0 (by decide) (12 + 8 * c0 + 3) (by show _ < 140; omega) rfl (v := M 0 (12 + 8 * c0 + 3)) rfl dX6_work_109 ?_
            refine m_ast hx hb hK hA hI 0 (by decide) (12 + 8 * c0 + 3) (by show _ < 140; omega) rfl dX6_work_110 (fun H locs hI => ?_)
            refine lv_aload_n hx hb dX6_work_111 rfl (lv_at hl 2 rfl) ?_
            refine m_get hx hb hts hin hown hK hI 0 (by decide) (hts (.fieldLink RX6 7 "WinderLaddersModel" "s" "[I") (by decide +kernel)) (v := .ref (q 1)) rfl dX6_work_112 ?_
            refine lv_iload_n hx hb dX6_work_115 rfl (lv_at hl 3 rfl) ?_
            refine lv_bipush (v := 6) hx hb dX6_work_116 (by decide) ?_
            refine m_calls (As := [.int (nI c0), .int 6]) (rest := [.ref (q 1)]) hx hb hml hown hts hI (k_X6_at l (c0) (6)) (va_cwS 2 hts gX6_work_X6_at rfl rfl rfl (by decide +kernel) ⟨Nat.le_of_ble_eq_true rfl, Nat.le_of_ble_eq_true rfl⟩) rfl hl (Nat.le_of_ble_eq_true rfl) ⟨Nat.zero_le _, Nat.zero_le _⟩ dX6_work_118 rfl (fun r H locs h42 hI => ?_)
            subst h42
            refine lv_iconst (v := 1) hx hb dX6_work_121 (by decide) ?_
            refine m_ast hx hb hK hA hI 0 (by decide) (12 + 8 * c0 + 6) (by show _ < 140; omega) rfl dX6_work_122 (fun H locs hI => ?_)
            refine lv_aload_n hx hb dX6_work_123 rfl (lv_at hl 2 rfl) ?_
            refine m_get hx hb hts hin hown hK hI 0 (by decide) (hts (.fieldLink RX6 7 "WinderLaddersModel" "s" "[I") (by decide +kernel)) (v := .ref (q 1)) rfl dX6_work_124 ?_
            refine lv_iload_n hx hb dX6_work_127 rfl (lv_at hl 3 rfl) ?_
            refine lv_iconst (v := 4) hx hb dX6_work_128 (by decide) ?_
            refine m_calls (As := [.int (nI c0), .int 4]) (rest := [.ref (q 1)]) hx hb hml hown hts hI (k_X6_at l (c0) (4)) (va_cwS 2 hts gX6_work_X6_at rfl rfl rfl (by decide +kernel) ⟨Nat.le_of_ble_eq_true rfl, Nat.le_of_ble_eq_true rfl⟩) rfl hl (Nat.le_of_ble_eq_true rfl) ⟨Nat.zero_le _, Nat.zero_le _⟩ dX6_work_129 rfl (fun r H locs h43 hI => ?_)
            subst h43
            refine lv_iconst (v := 0) hx hb dX6_work_132 (by decide) ?_
            refine m_ast hx hb hK hA hI 0 (by decide) (12 + 8 * c0 + 4) (by show _ < 140; omega) rfl dX6_work_133 (fun H locs hI => ?_)
            refine lv_aload_n hx hb dX6_work_134 rfl (lv_at hl 2 rfl) ?_
            refine m_get hx hb hts hin hown hK hI 0 (by decide) (hts (.fieldLink RX6 7 "WinderLaddersModel" "s" "[I") (by decide +kernel)) (v := .ref (q 1)) rfl dX6_work_135 ?_
            refine lv_iload_n hx hb dX6_work_138 rfl (lv_at hl 3 rfl) ?_
            refine lv_iconst (v := 5) hx hb dX6_work_139 (by decide) ?_
            refine m_calls (As := [.int (nI c0), .int 5]) (rest := [.ref (q 1)]) hx hb hml hown hts hI (k_X6_at l (c0) (5)) (va_cwS 2 hts gX6_work_X6_at rfl rfl rfl (by decide +kernel) ⟨Nat.le_of_ble_eq_true rfl, Nat.le_of_ble_eq_true rfl⟩) rfl hl (Nat.le_of_ble_eq_true rfl) ⟨Nat.zero_le _, Nat.zero_le _⟩ dX6_work_140 rfl (fun r H locs h44 hI => ?_)
            subst h44
            refine lv_iconst (v := 0) hx hb dX6_work_143 (by decide) ?_
            refine m_ast hx hb hK hA hI 0 (by decide) (12 + 8 * c0 + 5) (by show _ < 140; omega) rfl dX6_work_144 (fun H locs hI => ?_)
            refine lv_aload_n hx hb dX6_work_145 rfl (lv_at hl 2 rfl) ?_
            refine m_get hx hb hts hin hown hK hI 0 (by decide) (hts (.fieldLink RX6 7 "WinderLaddersModel" "s" "[I") (by decide +kernel)) (v := .ref (q 1)) rfl dX6_work_146 ?_
            refine lv_iload_n hx hb dX6_work_149 rfl (lv_at hl 3 rfl) ?_
            refine lv_bipush (v := 7) hx hb dX6_work_150 (by decide) ?_
            refine m_calls (As := [.int (nI c0), .int 7]) (rest := [.ref (q 1)]) hx hb hml hown hts hI (k_X6_at l (c0) (7)) (va_cwS 2 hts gX6_work_X6_at rfl rfl rfl (by decide +kernel) ⟨Nat.le_of_ble_eq_true rfl, Nat.le_of_ble_eq_true rfl⟩) rfl hl (Nat.le_of_ble_eq_true rfl) ⟨Nat.zero_le _, Nat.zero_le _⟩ dX6_work_152 rfl (fun r H locs h45 hI => ?_)
            subst h45
            refine lv_dup2_11 hx hb dX6_work_155 rfl rfl ?_
            refine m_ald hx hb hK hI 0 (by decide) (12 + 8 * c0 + 7) (by show _ < 140; omega) rfl (v := M 0 (12 + 8 * c0 + 7)) ((mset_nj _ (by omega) _ _).trans ((mset_nj _ (by omega) _ _).trans ((mset_nj _ (by omega) _ _).trans (mset_nj _ (by omega) _ _)))) dX6_work_156 ?_
            refine lv_iconst (v := 1) hx hb dX6_work_157 (by decide) ?_
            refine lv_iadd hx hb dX6_work_158 ?_
            refine m_ast hx hb hK hA hI 0 (by decide) (12 + 8 * c0 + 7) (by show _ < 140; omega) rfl dX6_work_159 (fun H locs hI => ?_)
            exact m_vret hx hb hr hI (by simp [workM, wkS, mset_0, ms0_0, ms0_ms0, upd_ne, upd_self, -Int32.not_lt, -Int32.not_le, c4, c11, c16, c17, b33]) dX6_work_160 hlocks
      · skip
        refine lv_iconst (v := (-1)) hx hb dX6_work_61 (by decide) ?_
        refine lv_goto (tgt := 74) hx hb dX6_work_62 (by decide) ?_
        refine lv_iadd hx hb dX6_work_74 ?_
        refine lv_istore_n (lv' := [(3, .int ((M 0 (12 + 8 * c0 + 3)) + (-1))), (2, .int (rt (M 0) c0)), (0, .ref (q 0)), (1, .int (nI c0))]) hx hb dX6_work_75 rfl hl (by decide) rfl (fun ls hl => ?_)
        refine lv_aload_n hx hb dX6_work_76 rfl (lv_at hl 2 rfl) ?_
        refine m_get hx hb hts hin hown hK hI 0 (by decide) (hts (.fieldLink RX6 7 "WinderLaddersModel" "s" "[I") (by decide +kernel)) (v := .ref (q 1)) rfl dX6_work_77 ?_
        refine lv_iload_n hx hb dX6_work_80 rfl (lv_at hl 3 rfl) ?_
        refine lv_iconst (v := 3) hx hb dX6_work_81 (by decide) ?_
        refine m_calls (As := [.int (nI c0), .int 3]) (rest := [.ref (q 1)]) hx hb hml hown hts hI (k_X6_at l (c0) (3)) (va_cwS 2 hts gX6_work_X6_at rfl rfl rfl (by decide +kernel) ⟨Nat.le_of_ble_eq_true rfl, Nat.le_of_ble_eq_true rfl⟩) rfl hl (Nat.le_of_ble_eq_true rfl) ⟨Nat.zero_le _, Nat.zero_le _⟩ dX6_work_82 rfl (fun r H locs h46 hI => ?_)
        subst h46
        refine lv_iload_n hx hb dX6_work_85 rfl (lv_at hl 0 rfl) ?_
        refine lv_bipush (v := (-20)) hx hb dX6_work_86 (by decide) ?_
        refine lv_bipush (v := 20) hx hb dX6_work_88 (by decide) ?_
        refine m_calls (As := [.int ((M 0 (12 + 8 * c0 + 3)) + (-1)), .int ((-20)), .int 20]) (rest := [.int (nI (12 + 8 * c0 + 3)), .ref (q 1)]) hx hb hml hown hts hI (k_X6_in l ((M 0 (12 + 8 * c0 + 3)) + (-1)) (-20) 20) (va_cwS 3 hts gX6_work_X6_in rfl rfl rfl (by decide +kernel) ⟨Nat.le_of_ble_eq_true rfl, Nat.le_of_ble_eq_true rfl⟩) rfl hl (Nat.le_of_ble_eq_true rfl) ⟨Nat.zero_le _, Nat.zero_le _⟩ dX6_work_90 rfl (fun r H locs h48 hI => ?_)
        rcases h48 with ⟨b47, rfl⟩ | ⟨b47, rfl⟩
        · skip
          refine lv_if_eq (tgt := 100) hx hb dX6_work_93 (by decide) (fun c49 => absurd c49 (by decide)) (fun _ => ?_)
          refine lv_iload_n hx hb dX6_work_96 rfl (lv_at hl 0 rfl) ?_
          refine lv_goto (tgt := 110) hx hb dX6_work_97 (by decide) ?_
          refine m_ast hx hb hK hA hI 0 (by decide) (12 + 8 * c0 + 3) (by show _ < 140; omega) rfl dX6_work_110 (fun H locs hI => ?_)
          refine lv_aload_n hx hb dX6_work_111 rfl (lv_at hl 2 rfl) ?_
          refine m_get hx hb hts hin hown hK hI 0 (by decide) (hts (.fieldLink RX6 7 "WinderLaddersModel" "s" "[I") (by decide +kernel)) (v := .ref (q 1)) rfl dX6_work_112 ?_
          refine lv_iload_n hx hb dX6_work_115 rfl (lv_at hl 3 rfl) ?_
          refine lv_bipush (v := 6) hx hb dX6_work_116 (by decide) ?_
          refine m_calls (As := [.int (nI c0), .int 6]) (rest := [.ref (q 1)]) hx hb hml hown hts hI (k_X6_at l (c0) (6)) (va_cwS 2 hts gX6_work_X6_at rfl rfl rfl (by decide +kernel) ⟨Nat.le_of_ble_eq_true rfl, Nat.le_of_ble_eq_true rfl⟩) rfl hl (Nat.le_of_ble_eq_true rfl) ⟨Nat.zero_le _, Nat.zero_le _⟩ dX6_work_118 rfl (fun r H locs h50 hI => ?_)
          subst h50
          refine lv_iconst (v := 1) hx hb dX6_work_121 (by decide) ?_
          refine m_ast hx hb hK hA hI 0 (by decide) (12 + 8 * c0 + 6) (by show _ < 140; omega) rfl dX6_work_122 (fun H locs hI => ?_)
          refine lv_aload_n hx hb dX6_work_123 rfl (lv_at hl 2 rfl) ?_
          refine m_get hx hb hts hin hown hK hI 0 (by decide) (hts (.fieldLink RX6 7 "WinderLaddersModel" "s" "[I") (by decide +kernel)) (v := .ref (q 1)) rfl dX6_work_124 ?_
          refine lv_iload_n hx hb dX6_work_127 rfl (lv_at hl 3 rfl) ?_
          refine lv_iconst (v := 4) hx hb dX6_work_128 (by decide) ?_
          refine m_calls (As := [.int (nI c0), .int 4]) (rest := [.ref (q 1)]) hx hb hml hown hts hI (k_X6_at l (c0) (4)) (va_cwS 2 hts gX6_work_X6_at rfl rfl rfl (by decide +kernel) ⟨Nat.le_of_ble_eq_true rfl, Nat.le_of_ble_eq_true rfl⟩) rfl hl (Nat.le_of_ble_eq_true rfl) ⟨Nat.zero_le _, Nat.zero_le _⟩ dX6_work_129 rfl (fun r H locs h51 hI => ?_)
          subst h51
          refine lv_iconst (v := 0) hx hb dX6_work_132 (by decide) ?_
          refine m_ast hx hb hK hA hI 0 (by decide) (12 + 8 * c0 + 4) (by show _ < 140; omega) rfl dX6_work_133 (fun H locs hI => ?_)
          refine lv_aload_n hx hb dX6_work_134 rfl (lv_at hl 2 rfl) ?_
          refine m_get hx hb hts hin hown hK hI 0 (by decide) (hts (.fieldLink RX6 7 "WinderLaddersModel" "s" "[I") (by decide +kernel)) (v := .ref (q 1)) rfl dX6_work_135 ?_
          refine lv_iload_n hx hb dX6_work_138 rfl (lv_at hl 3 rfl) ?_
          refine lv_iconst (v := 5) hx hb dX6_work_139 (by decide) ?_
          refine m_calls (As := [.int (nI c0), .int 5]) (rest := [.ref (q 1)]) hx hb hml hown hts hI (k_X6_at l (c0) (5)) (va_cwS 2 hts gX6_work_X6_at rfl rfl rfl (by decide +kernel) ⟨Nat.le_of_ble_eq_true rfl, Nat.le_of_ble_eq_true rfl⟩) rfl hl (Nat.le_of_ble_eq_true rfl) ⟨Nat.zero_le _, Nat.zero_le _⟩ dX6_work_140 rfl (fun r H locs h52 hI => ?_)
          subst h52
          refine lv_iconst (v := 0) hx hb dX6_work_143 (by decide) ?_
          refine m_ast hx hb hK hA hI 0 (by decide) (12 + 8 * c0 + 5) (by show _ < 140; omega) rfl dX6_work_144 (fun H locs hI => ?_)
          refine lv_aload_n hx hb dX6_work_145 rfl (lv_at hl 2 rfl) ?_
          refine m_get hx hb hts hin hown hK hI 0 (by decide) (hts (.fieldLink RX6 7 "WinderLaddersModel" "s" "[I") (by decide +kernel)) (v := .ref (q 1)) rfl dX6_work_146 ?_
          refine lv_iload_n hx hb dX6_work_149 rfl (lv_at hl 3 rfl) ?_
          refine lv_bipush (v := 7) hx hb dX6_work_150 (by decide) ?_
          refine m_calls (As := [.int (nI c0), .int 7]) (rest := [.ref (q 1)]) hx hb hml hown hts hI (k_X6_at l (c0) (7)) (va_cwS 2 hts gX6_work_X6_at rfl rfl rfl (by decide +kernel) ⟨Nat.le_of_ble_eq_true rfl, Nat.le_of_ble_eq_true rfl⟩) rfl hl (Nat.le_of_ble_eq_true rfl) ⟨Nat.zero_le _, Nat.zero_le _⟩ dX6_work_152 rfl (fun r H locs h53 hI => ?_)
          subst h53
          refine lv_dup2_11 hx hb dX6_work_155 rfl rfl ?_
          refine m_ald hx hb hK hI 0 (by decide) (12 + 8 * c0 + 7) (by show _ < 140; omega) rfl (v := M 0 (12 + 8 * c0 + 7)) ((mset_nj _ (by omega) _ _).trans ((mset_nj _ (by omega) _ _).trans ((mset_nj _ (by omega) _ _).trans (mset_nj _ (by omega) _ _)))) dX6_work_156 ?_
          refine lv_iconst (v := 1) hx hb dX6_work_157 (by decide) ?_
          refine lv_iadd hx hb dX6_work_158 ?_
          refine m_ast hx hb hK hA hI 0 (by decide) (12 + 8 * c0 + 7) (by show _ < 140; omega) rfl dX6_work_159 (fun H locs hI => ?_)
          exact m_vret hx hb hr hI (by simp [workM, wkS, mset_0, ms0_0, ms0_ms0, upd_ne, upd_self, -Int32.not_lt, -Int32.not_le, c4, c11, c16, b47]) dX6_work_160 hlocks
        · skip
          refine lv_if_eq (tgt := 100) hx hb dX6_work_93 (by decide) (fun _ => ?_) (fun c54 => absurd (by decide) c54)
          refine lv_aload_n hx hb dX6_work_100 rfl (lv_at hl 2 rfl) ?_
          refine m_get hx hb hts hin hown hK hI 0 (by decide) (hts (.fieldLink RX6 7 "WinderLaddersModel" "s" "[I") (by decide +kernel)) (v := .ref (q 1)) rfl dX6_work_101 ?_
          refine lv_iload_n hx hb dX6_work_104 rfl (lv_at hl 3 rfl) ?_
          refine lv_iconst (v := 3) hx hb dX6_work_105 (by decide) ?_
          refine m_calls (As := [.int (nI c0), .int 3]) (rest := [.ref (q 1), .int (nI (12 + 8 * c0 + 3)), .ref (q 1)]) hx hb hml hown hts hI (k_X6_at l (c0) (3)) (va_cwS 2 hts gX6_work_X6_at rfl rfl rfl (by decide +kernel) ⟨Nat.le_of_ble_eq_true rfl, Nat.le_of_ble_eq_true rfl⟩) rfl hl (Nat.le_of_ble_eq_true rfl) ⟨Nat.zero_le _, Nat.zero_le _⟩ dX6_work_106 rfl (fun r H locs h55 hI => ?_)
          subst h55
          refine m_ald hx hb hK hI 0 (by decide) (12 + 8 * c0 + 3) (by show _ < 140; omega) rfl (v := M 0 (12 + 8 * c0 + 3)) rfl dX6_work_109 ?_
          refine m_ast hx hb hK hA hI 0 (by decide) (12 + 8 * c0 + 3) (by show _ < 140; omega) rfl dX6_work_110 (fun H locs hI => ?_)
          refine lv_aload_n hx hb dX6_work_111 rfl (lv_at hl 2 rfl) ?_
          refine m_get hx hb hts hin hown hK hI 0 (by decide) (hts (.fieldLink RX6 7 "WinderLaddersModel" "s" "[I") (by decide +kernel)) (v := .ref (q 1)) rfl dX6_work_112 ?_
          refine lv_iload_n hx hb dX6_work_115 rfl (lv_at hl 3 rfl) ?_
          refine lv_bipush (v := 6) hx hb dX6_work_116 (by decide) ?_
          refine m_calls (As := [.int (nI c0), .int 6]) (rest := [.ref (q 1)]) hx hb hml hown hts hI (k_X6_at l (c0) (6)) (va_cwS 2 hts gX6_work_X6_at rfl rfl rfl (by decide +kernel) ⟨Nat.le_of_ble_eq_true rfl, Nat.le_of_ble_eq_true rfl⟩) rfl hl (Nat.le_of_ble_eq_true rfl) ⟨Nat.zero_le _, Nat.zero_le _⟩ dX6_work_118 rfl (fun r H locs h56 hI => ?_)
          subst h56
          refine lv_iconst (v := 1) hx hb dX6_work_121 (by decide) ?_
          refine m_ast hx hb hK hA hI 0 (by decide) (12 + 8 * c0 + 6) (by show _ < 140; omega) rfl dX6_work_122 (fun H locs hI => ?_)
          refine lv_aload_n hx hb dX6_work_123 rfl (lv_at hl 2 rfl) ?_
          refine m_get hx hb hts hin hown hK hI 0 (by decide) (hts (.fieldLink RX6 7 "WinderLaddersModel" "s" "[I") (by decide +kernel)) (v := .ref (q 1)) rfl dX6_work_124 ?_
          refine lv_iload_n hx hb dX6_work_127 rfl (lv_at hl 3 rfl) ?_
          refine lv_iconst (v := 4) hx hb dX6_work_128 (by decide) ?_
          refine m_calls (As := [.int (nI c0), .int 4]) (rest := [.ref (q 1)]) hx hb hml hown hts hI (k_X6_at l (c0) (4)) (va_cwS 2 hts gX6_work_X6_at rfl rfl rfl (by decide +kernel) ⟨Nat.le_of_ble_eq_true rfl, Nat.le_of_ble_eq_true rfl⟩) rfl hl (Nat.le_of_ble_eq_true rfl) ⟨Nat.zero_le _, Nat.zero_le _⟩ dX6_work_129 rfl (fun r H locs h57 hI => ?_)
          subst h57
          refine lv_iconst (v := 0) hx hb dX6_work_132 (by decide) ?_
          refine m_ast hx hb hK hA hI 0 (by decide) (12 + 8 * c0 + 4) (by show _ < 140; omega) rfl dX6_work_133 (fun H locs hI => ?_)
          refine lv_aload_n hx hb dX6_work_134 rfl (lv_at hl 2 rfl) ?_
          refine m_get hx hb hts hin hown hK hI 0 (by decide) (hts (.fieldLink RX6 7 "WinderLaddersModel" "s" "[I") (by decide +kernel)) (v := .ref (q 1)) rfl dX6_work_135 ?_
          refine lv_iload_n hx hb dX6_work_138 rfl (lv_at hl 3 rfl) ?_
          refine lv_iconst (v := 5) hx hb dX6_work_139 (by decide) ?_
          refine m_calls (As := [.int (nI c0), .int 5]) (rest := [.ref (q 1)]) hx hb hml hown hts hI (k_X6_at l (c0) (5)) (va_cwS 2 hts gX6_work_X6_at rfl rfl rfl (by decide +kernel) ⟨Nat.le_of_ble_eq_true rfl, Nat.le_of_ble_eq_true rfl⟩) rfl hl (Nat.le_of_ble_eq_true rfl) ⟨Nat.zero_le _, Nat.zero_le _⟩ dX6_work_140 rfl (fun r H locs h58 hI => ?_)
          subst h58
          refine lv_iconst (v := 0) hx hb dX6_work_143 (by decide) ?_
          refine m_ast hx hb hK hA hI 0 (by decide) (12 + 8 * c0 + 5) (by show _ < 140; omega) rfl dX6_work_144 (fun H locs hI => ?_)
          refine lv_aload_n hx hb dX6_work_145 rfl (lv_at hl 2 rfl) ?_
          refine m_get hx hb hts hin hown hK hI 0 (by decide) (hts (.fieldLink RX6 7 "WinderLaddersModel" "s" "[I") (by decide +kernel)) (v := .ref (q 1)) rfl dX6_work_146 ?_
          refine lv_iload_n hx hb dX6_work_149 rfl (lv_at hl 3 rfl) ?_
          refine lv_bipush (v := 7) hx hb dX6_work_150 (by decide) ?_
          refine m_calls (As := [.int (nI c0), .int 7]) (rest := [.ref (q 1)]) hx hb hml hown hts hI (k_X6_at l (c0) (7)) (va_cwS 2 hts gX6_work_X6_at rfl rfl rfl (by decide +kernel) ⟨Nat.le_of_ble_eq_true rfl, Nat.le_of_ble_eq_true rfl⟩) rfl hl (Nat.le_of_ble_eq_true rfl) ⟨Nat.zero_le _, Nat.zero_le _⟩ dX6_work_152 rfl (fun r H locs h59 hI => ?_)
          subst h59
          refine lv_dup2_11 hx hb dX6_work_155 rfl rfl ?_
          refine m_ald hx hb hK hI 0 (by decide) (12 + 8 * c0 + 7) (by show _ < 140; omega) rfl (v := M 0 (12 + 8 * c0 + 7)) ((mset_nj _ (by omega) _ _).trans ((mset_nj _ (by omega) _ _).trans ((mset_nj _ (by omega) _ _).trans (mset_nj _ (by omega) _ _)))) dX6_work_156 ?_
          refine lv_iconst (v := 1) hx hb dX6_work_157 (by decide) ?_
          refine lv_iadd hx hb dX6_work_158 ?_
          refine m_ast hx hb hK hA hI 0 (by decide) (12 + 8 * c0 + 7) (by show _ < 140; omega) rfl dX6_work_159 (fun H locs hI => ?_)
          exact m_vret hx hb hr hI (by simp [workM, wkS, mset_0, ms0_0, ms0_ms0, upd_ne, upd_self, -Int32.not_lt, -Int32.not_le, c4, c11, c16, b47]) dX6_work_160 hlocks

set_option maxHeartbeats 4000000 in
set_option maxRecDepth 100000 in
theorem k_X6_minutes (l : Launch) (dd : va_G) (g : Nat → ClassId) (q : Nat → Nat) (A : Nat → Prop) (hA : mA A q) (M : MS) (wl : Nat) (hwl : wl ≤ 80) (hin9 : M 9 0 = nI wl) (hrow : ∀ k, k < wl → ∃ i, i < cn (M 0) ∧ M 8 k = nI i) (hW : Wk (M 0)) : Met l yX6_minutes wsX6_minutes ({ frames := 3, cells := 0, slots := 0, locals := 66 }) (mPre dd g q M [.ref (q 0)]) (mQi dd g q A (fun r M' => r = miV (M 0) (M 8) wl ∧ M' = M)) 0 0 A := by
  refine Met.ofW (cc := cX6_minutes) (maxL := 8) (ret := (some .int)) (by decide) rfl ?_
  intro p e s m args below meth c s₁ B hml hv
  obtain ⟨rfl, hP0, hK⟩ := hv
  have hx := B.exec
  have hb := B.bytes
  have hr := B.returns
  have hts := atoms_spec (ws := wsX6_minutes) B.pre
  have hown : s.vm.findClass RX6 = some m.cls := findClass_of_methodNamed B.named
  have hlocks := B.notSynchronized
  have hin : ∀ w ∈ wsX60, w ∈ wsX6_minutes := by decide +kernel
  have hI : mI dd g q A s.heap s.heap [] M := ⟨hP0, va_S.rf⟩
  have hl := lv_entry ([.ref (q 0)]) (n := 8) (Nat.le_of_ble_eq_true rfl)
  rw [lg_entry_eq]
  generalize (lg_sl ([.ref (q 0)]) ++ List.replicate (8 - (lg_sl ([.ref (q 0)])).length) Slot.unset).toArray = ls at hl ⊢
  have hl : lv_has ls 8 [(0, .ref (q 0))] := hl
  have hc16 := hW.2.1
  have hl4 := hW.2.2.2
  refine lv_iconst (v := 0) hx hb dX6_minutes_0 (by decide) ?_
  refine lv_istore_n (lv' := [(1, .int 0), (0, .ref (q 0))]) hx hb dX6_minutes_1 rfl hl (by decide) rfl (fun ls hl => ?_)
  refine lv_iconst (v := 0) hx hb dX6_minutes_2 (by decide) ?_
  refine lv_istore_n (lv' := [(2, .int 0), (1, .int 0), (0, .ref (q 0))]) hx hb dX6_minutes_3 rfl hl (by decide) rfl (fun ls hl => ?_)
  refine lv_bipush (v := (-6)) hx hb dX6_minutes_4 (by decide) ?_
  refine lv_istore_n (lv' := [(3, .int ((-6))), (2, .int 0), (1, .int 0), (0, .ref (q 0))]) hx hb dX6_minutes_6 rfl hl (by decide) rfl (fun ls hl => ?_)
  refine lv_iconst (v := 0) hx hb dX6_minutes_7 (by decide) ?_
  refine lv_istore (lv' := [(4, .int 0), (3, .int ((-6))), (2, .int 0), (1, .int 0), (0, .ref (q 0))]) hx hb dX6_minutes_8 hl (by decide) rfl (fun ls hl => ?_)
  have L10 : ∀ (fuel : Nat) (k : Nat) (x1 x2 x3 : Int32) (h1 : k ≤ wl) (h2 : wl < fuel + k) (hx3 : miS (M 0) (M 8) k = (x1, x2, x3)) (H : Heap) (locs : List Loc) (ls : Array Slot), mI dd g q A s.heap H locs M → lv_has ls 8 [(4, .int (nI k)), (3, .int x3), (2, .int x2), (1, .int x1), (0, .ref (q 0))] → wk p l e wsX6_minutes { frames := 3, cells := 0, slots := 0, locals := 66 } s m [.ref (q 0)] below meth c H locs (mQi dd g q A (fun r M' => r = miV (M 0) (M 8) wl ∧ M' = M)) (A) (F0 m 10 ls []) := by
    intro fuel
    induction fuel with
    | zero =>
      intro k x1 x2 x3 h1 h2 hx3 H locs ls hI hl
      exact absurd h2 (by omega)
    | succ fuel ih =>
      intro k x1 x2 x3 h1 h2 hx3 H locs ls hI hl
      refine lv_iload hx hb dX6_minutes_10 (lv_at hl 0 rfl) ?_
      refine lv_aload_n hx hb dX6_minutes_12 rfl (lv_at hl 4 rfl) ?_
      refine m_get hx hb hts hin hown hK hI 9 (by decide) (hts (.fieldLink RX6 58 "WinderLaddersModel" "inRow" "I") (by decide +kernel)) (v := .int (nI wl)) (congrArg (fun z => some (Value.int z)) hin9) dX6_minutes_13 ?_
      refine lv_icmp_ge (tgt := 128) hx hb dX6_minutes_16 (by decide) (fun c1 => ?_) (fun c1 => ?_)
      · skip
        have nc1 : wl ≤ k := (nI_leI (a := wl) (b := k) (by omega) (by omega)).mp c1
        refine lv_iload_n hx hb dX6_minutes_128 rfl (lv_at hl 3 rfl) ?_
        refine lv_aload_n hx hb dX6_minutes_129 rfl (lv_at hl 4 rfl) ?_
        refine lv_iload_n hx hb dX6_minutes_130 rfl (lv_at hl 2 rfl) ?_
        refine lv_iconst (v := 0) hx hb dX6_minutes_131 (by decide) ?_
        refine m_calli (As := [.int x2, .int 0]) (rest := [.int x1]) hx hb hml hown hts hK hI (k_X6_way l dd g q A hA M x2 0) (cwV 2 hts gX6_minutes_X6_way rfl rfl rfl (by decide +kernel) ⟨Nat.le_of_ble_eq_true rfl, Nat.le_of_ble_eq_true rfl⟩) rfl hl (Nat.le_of_ble_eq_true rfl) ⟨Nat.zero_le _, Nat.zero_le _⟩ dX6_minutes_132 rfl (fun r M1 H locs h2 hI => ?_)
        obtain ⟨hr9, hm9⟩ := h2
        rw [hm9] at hI
        subst hr9
        refine lv_iadd hx hb dX6_minutes_135 ?_
        exact m_iret (v := x1 + (jabs (x2 - 0) * M 0 2)) hx hb hr hI (⟨by rw [miV, show wl = k by omega, hx3], rfl⟩) dX6_minutes_136 hlocks
      · skip
        have nc1 : ¬ (wl ≤ k) := fun h => c1 ((nI_leI (a := wl) (b := k) (by omega) (by omega)).mpr h)
        obtain ⟨i0, hi0, hk0⟩ := hrow k (by omega)
        have ek0 : (M 8 k).toNatClampNeg = i0 := by rw [hk0]; exact nI_clamp (by omega)
        refine lv_aload_n hx hb dX6_minutes_19 rfl (lv_at hl 4 rfl) ?_
        refine m_get hx hb hts hin hown hK hI 8 (by decide) (hts (.fieldLink RX6 29 "WinderLaddersModel" "row" "[I") (by decide +kernel)) (v := .ref (q 7)) rfl dX6_minutes_20 ?_
        refine lv_iload hx hb dX6_minutes_23 (lv_at hl 0 rfl) ?_
        refine m_ald hx hb hK hI 8 (by decide) (k) (by show _ < 80; omega) rfl (v := nI i0) hk0 dX6_minutes_25 ?_
        refine lv_istore (lv' := [(5, .int (nI i0)), (4, .int (nI k)), (3, .int x3), (2, .int x2), (1, .int x1), (0, .ref (q 0))]) hx hb dX6_minutes_26 hl (by decide) rfl (fun ls hl => ?_)
        refine lv_aload_n hx hb dX6_minutes_28 rfl (lv_at hl 5 rfl) ?_
        refine lv_iload hx hb dX6_minutes_29 (lv_at hl 0 rfl) ?_
        refine m_calli (As := [.int (nI i0)]) (rest := []) hx hb hml hown hts hK hI (k_X6_ladderOf l dd g q A hA M i0 (by omega) hW) (cwV 1 hts gX6_minutes_X6_ladderOf rfl rfl rfl (by decide +kernel) ⟨Nat.le_of_ble_eq_true rfl, Nat.le_of_ble_eq_true rfl⟩) rfl hl (Nat.le_of_ble_eq_true rfl) ⟨Nat.zero_le _, Nat.zero_le _⟩ dX6_minutes_31 rfl (fun r M1 H locs h3 hI => ?_)
        obtain ⟨hr9, hm9⟩ := h3
        rw [hm9] at hI
        subst hr9
        refine lv_istore (lv' := [(6, .int (o2i (ladF (M 0) i0))), (5, .int (nI i0)), (4, .int (nI k)), (3, .int x3), (2, .int x2), (1, .int x1), (0, .ref (q 0))]) hx hb dX6_minutes_34 hl (by decide) rfl (fun ls hl => ?_)
        refine lv_aload_n hx hb dX6_minutes_36 rfl (lv_at hl 6 rfl) ?_
        refine m_get hx hb hts hin hown hK hI 0 (by decide) (hts (.fieldLink RX6 7 "WinderLaddersModel" "s" "[I") (by decide +kernel)) (v := .ref (q 1)) rfl dX6_minutes_37 ?_
        refine lv_iload hx hb dX6_minutes_40 (lv_at hl 1 rfl) ?_
        refine lv_iconst (v := 0) hx hb dX6_minutes_42 (by decide) ?_
        refine m_calls (As := [.int (nI i0), .int 0]) (rest := [.ref (q 1)]) hx hb hml hown hts hI (k_X6_at l (i0) (0)) (va_cwS 2 hts gX6_minutes_X6_at rfl rfl rfl (by decide +kernel) ⟨Nat.le_of_ble_eq_true rfl, Nat.le_of_ble_eq_true rfl⟩) rfl hl (Nat.le_of_ble_eq_true rfl) ⟨Nat.zero_le _, Nat.zero_le _⟩ dX6_minutes_43 rfl (fun r H locs h4 hI => ?_)
        subst h4
        refine m_ald hx hb hK hI 0 (by decide) (12 + 8 * i0 + 0) (by show _ < 140; omega) rfl (v := M 0 (12 + 8 * i0 + 0)) rfl dX6_minutes_46 ?_
        refine lv_istore (lv' := [(7, .int (M 0 (12 + 8 * i0 + 0))), (6, .int (o2i (ladF (M 0) i0))), (5, .int (nI i0)), (4, .int (nI k)), (3, .int x3), (2, .int x2), (1, .int x1), (0, .ref (q 0))]) hx hb dX6_minutes_47 hl (by decide) rfl (fun ls hl => ?_)
        refine lv_iload_n hx hb dX6_minutes_49 rfl (lv_at hl 6 rfl) ?_
        refine lv_aload_n hx hb dX6_minutes_50 rfl (lv_at hl 7 rfl) ?_
        refine lv_iload_n hx hb dX6_minutes_51 rfl (lv_at hl 5 rfl) ?_
        refine lv_iload hx hb dX6_minutes_52 (lv_at hl 0 rfl) ?_
        refine m_calli (As := [.int x2, .int (M 0 (12 + 8 * i0 + 0))]) (rest := [.int x1]) hx hb hml hown hts hK hI (k_X6_way l dd g q A hA M x2 (M 0 (12 + 8 * i0 + 0))) (cwV 2 hts gX6_minutes_X6_way rfl rfl rfl (by decide +kernel) ⟨Nat.le_of_ble_eq_true rfl, Nat.le_of_ble_eq_true rfl⟩) rfl hl (Nat.le_of_ble_eq_true rfl) ⟨Nat.zero_le _, Nat.zero_le _⟩ dX6_minutes_54 rfl (fun r M1 H locs h5 hI => ?_)
        obtain ⟨hr9, hm9⟩ := h5
        rw [hm9] at hI
        subst hr9
        refine lv_iadd hx hb dX6_minutes_57 ?_
        refine lv_istore_n (lv' := [(1, .int (x1 + (jabs (x2 - (M 0 (12 + 8 * i0 + 0))) * M 0 2))), (7, .int (M 0 (12 + 8 * i0 + 0))), (6, .int (o2i (ladF (M 0) i0))), (5, .int (nI i0)), (4, .int (nI k)), (3, .int x3), (2, .int x2), (0, .ref (q 0))]) hx hb dX6_minutes_58 rfl hl (by decide) rfl (fun ls hl => ?_)
        refine lv_iload hx hb dX6_minutes_59 (lv_at hl 1 rfl) ?_
        refine lv_istore_n (lv' := [(2, .int (M 0 (12 + 8 * i0 + 0))), (1, .int (x1 + (jabs (x2 - (M 0 (12 + 8 * i0 + 0))) * M 0 2))), (7, .int (M 0 (12 + 8 * i0 + 0))), (6, .int (o2i (ladF (M 0) i0))), (5, .int (nI i0)), (4, .int (nI k)), (3, .int x3), (0, .ref (q 0))]) hx hb dX6_minutes_61 rfl hl (by decide) rfl (fun ls hl => ?_)
        refine lv_aload_n hx hb dX6_minutes_62 rfl (lv_at hl 7 rfl) ?_
        refine lv_iload hx hb dX6_minutes_63 (lv_at hl 4 rfl) ?_
        refine m_calli (As := [.int (nI i0)]) (rest := []) hx hb hml hown hts hK hI (k_X6_canWind l dd g q A hA M i0 (by omega) hW) (cwV 1 hts gX6_minutes_X6_canWind rfl rfl rfl (by decide +kernel) ⟨Nat.le_of_ble_eq_true rfl, Nat.le_of_ble_eq_true rfl⟩) rfl hl (Nat.le_of_ble_eq_true rfl) ⟨Nat.zero_le _, Nat.zero_le _⟩ dX6_minutes_65 rfl (fun r M1 H locs h7 hI => ?_)
        obtain ⟨h7, hm9⟩ := h7
        rw [hm9] at hI
        rcases h7 with ⟨b6, rfl⟩ | ⟨b6, rfl⟩
        · skip
          have b6 : canW (M 0) i0 = true := b6
          refine lv_if_eq (tgt := 122) hx hb dX6_minutes_68 (by decide) (fun c8 => absurd c8 (by decide)) (fun _ => ?_)
          refine lv_iload_n hx hb dX6_minutes_71 rfl (lv_at hl 1 rfl) ?_
          refine lv_aload_n hx hb dX6_minutes_72 rfl (lv_at hl 7 rfl) ?_
          refine m_get hx hb hts hin hown hK hI 0 (by decide) (hts (.fieldLink RX6 7 "WinderLaddersModel" "s" "[I") (by decide +kernel)) (v := .ref (q 1)) rfl dX6_minutes_73 ?_
          refine lv_iconst (v := 3) hx hb dX6_minutes_76 (by decide) ?_
          refine m_ald hx hb hK hI 0 (by decide) (3) (by show _ < 140; omega) rfl (v := M 0 3) rfl dX6_minutes_77 ?_
          refine lv_iadd hx hb dX6_minutes_78 ?_
          refine lv_istore_n (lv' := [(1, .int ((x1 + (jabs (x2 - (M 0 (12 + 8 * i0 + 0))) * M 0 2)) + (M 0 3))), (2, .int (M 0 (12 + 8 * i0 + 0))), (7, .int (M 0 (12 + 8 * i0 + 0))), (6, .int (o2i (ladF (M 0) i0))), (5, .int (nI i0)), (4, .int (nI k)), (3, .int x3), (0, .ref (q 0))]) hx hb dX6_minutes_79 rfl hl (by decide) rfl (fun ls hl => ?_)
          refine lv_iload_n hx hb dX6_minutes_80 rfl (lv_at hl 0 rfl) ?_
          refine lv_iload hx hb dX6_minutes_81 (lv_at hl 3 rfl) ?_
          refine lv_bipush (v := (-6)) hx hb dX6_minutes_83 (by decide) ?_
          refine lv_icmp_eq (tgt := 94) hx hb dX6_minutes_85 (by decide) (fun c9 => ?_) (fun c9 => ?_)
          · skip
            refine lv_iconst (v := 0) hx hb dX6_minutes_94 (by decide) ?_
            refine lv_goto (tgt := 106) hx hb dX6_minutes_95 (by decide) ?_
            refine lv_iadd hx hb dX6_minutes_106 ?_
            refine lv_istore_n (lv' := [(1, .int (((x1 + (jabs (x2 - (M 0 (12 + 8 * i0 + 0))) * M 0 2)) + (M 0 3)) + 0)), (2, .int (M 0 (12 + 8 * i0 + 0))), (7, .int (M 0 (12 + 8 * i0 + 0))), (6, .int (o2i (ladF (M 0) i0))), (5, .int (nI i0)), (4, .int (nI k)), (3, .int x3), (0, .ref (q 0))]) hx hb dX6_minutes_107 rfl hl (by decide) rfl (fun ls hl => ?_)
            refine lv_iload hx hb dX6_minutes_108 (lv_at hl 3 rfl) ?_
            refine lv_bipush (v := (-6)) hx hb dX6_minutes_110 (by decide) ?_
            refine lv_icmp_ne (tgt := 119) hx hb dX6_minutes_112 (by decide) (fun c10 => ?_) (fun c10 => ?_)
            · skip
              refine lv_iload hx hb dX6_minutes_119 (lv_at hl 3 rfl) ?_
              refine lv_istore_n (lv' := [(3, .int (o2i (ladF (M 0) i0))), (1, .int (((x1 + (jabs (x2 - (M 0 (12 + 8 * i0 + 0))) * M 0 2)) + (M 0 3)) + 0)), (2, .int (M 0 (12 + 8 * i0 + 0))), (7, .int (M 0 (12 + 8 * i0 + 0))), (6, .int (o2i (ladF (M 0) i0))), (5, .int (nI i0)), (4, .int (nI k)), (0, .ref (q 0))]) hx hb dX6_minutes_121 rfl hl (by decide) rfl (fun ls hl => ?_)
              refine lv_iinc (v := nI (k + 1)) (lv' := [(4, .int (nI (k + 1))), (3, .int (o2i (ladF (M 0) i0))), (1, .int (((x1 + (jabs (x2 - (M 0 (12 + 8 * i0 + 0))) * M 0 2)) + (M 0 3)) + 0)), (2, .int (M 0 (12 + 8 * i0 + 0))), (7, .int (M 0 (12 + 8 * i0 + 0))), (6, .int (o2i (ladF (M 0) i0))), (5, .int (nI i0)), (0, .ref (q 0))]) hx hb dX6_minutes_122 hl (k := 6) rfl (by rw [show Int32.ofInt 1 = nI 1 from rfl, nI_add]) (by decide) rfl (fun ls hl => ?_)
              refine lv_goto (tgt := 10) hx hb dX6_minutes_125 (by decide) ?_
              exact ih (k + 1) (((x1 + (jabs (x2 - (M 0 (12 + 8 * i0 + 0))) * M 0 2)) + (M 0 3)) + 0) (M 0 (12 + 8 * i0 + 0)) (o2i (ladF (M 0) i0)) (by omega) (by omega) (by first | (simp [miS, hx3, ek0, -Int32.not_le, -Int32.not_lt, c1, nc1, b6, c9, c10]; done) | contradiction) _ _ _ hI (lv_sub hl [0, 1, 3, 2, 7] rfl)
            · skip
              refine lv_iload_n hx hb dX6_minutes_115 rfl (lv_at hl 6 rfl) ?_
              refine lv_goto (tgt := 121) hx hb dX6_minutes_116 (by decide) ?_
              refine lv_istore_n (lv' := [(3, .int x3), (1, .int (((x1 + (jabs (x2 - (M 0 (12 + 8 * i0 + 0))) * M 0 2)) + (M 0 3)) + 0)), (2, .int (M 0 (12 + 8 * i0 + 0))), (7, .int (M 0 (12 + 8 * i0 + 0))), (6, .int (o2i (ladF (M 0) i0))), (5, .int (nI i0)), (4, .int (nI k)), (0, .ref (q 0))]) hx hb dX6_minutes_121 rfl hl (by decide) rfl (fun ls hl => ?_)
              refine lv_iinc (v := nI (k + 1)) (lv' := [(4, .int (nI (k + 1))), (3, .int x3), (1, .int (((x1 + (jabs (x2 - (M 0 (12 + 8 * i0 + 0))) * M 0 2)) + (M 0 3)) + 0)), (2, .int (M 0 (12 + 8 * i0 + 0))), (7, .int (M 0 (12 + 8 * i0 + 0))), (6, .int (o2i (ladF (M 0) i0))), (5, .int (nI i0)), (0, .ref (q 0))]) hx hb dX6_minutes_122 hl (k := 6) rfl (by rw [show Int32.ofInt 1 = nI 1 from rfl, nI_add]) (by decide) rfl (fun ls hl => ?_)
              refine lv_goto (tgt := 10) hx hb dX6_minutes_125 (by decide) ?_
              exact ih (k + 1) (((x1 + (jabs (x2 - (M 0 (12 + 8 * i0 + 0))) * M 0 2)) + (M 0 3)) + 0) (M 0 (12 + 8 * i0 + 0)) (x3) (by omega) (by omega) (by first | (simp [miS, hx3, ek0, -Int32.not_le, -Int32.not_lt, c1, nc1, b6, c9, c10]; done) | contradiction) _ _ _ hI (lv_sub hl [0, 1, 3, 2, 7] rfl)
          · skip
            refine lv_iload hx hb dX6_minutes_88 (lv_at hl 3 rfl) ?_
            refine lv_iload_n hx hb dX6_minutes_90 rfl (lv_at hl 6 rfl) ?_
            refine lv_icmp_ne (tgt := 98) hx hb dX6_minutes_91 (by decide) (fun c11 => ?_) (fun c11 => ?_)
            · skip
              refine lv_iconst (v := 2) hx hb dX6_minutes_98 (by decide) ?_
              refine lv_aload_n hx hb dX6_minutes_99 rfl (lv_at hl 7 rfl) ?_
              refine lv_iload_n hx hb dX6_minutes_100 rfl (lv_at hl 1 rfl) ?_
              refine lv_iconst (v := 0) hx hb dX6_minutes_101 (by decide) ?_
              refine m_calli (As := [.int (M 0 (12 + 8 * i0 + 0)), .int 0]) (rest := [.int 2, .int ((x1 + (jabs (x2 - (M 0 (12 + 8 * i0 + 0))) * M 0 2)) + (M 0 3))]) hx hb hml hown hts hK hI (k_X6_way l dd g q A hA M (M 0 (12 + 8 * i0 + 0)) 0) (cwV 2 hts gX6_minutes_X6_way rfl rfl rfl (by decide +kernel) ⟨Nat.le_of_ble_eq_true rfl, Nat.le_of_ble_eq_true rfl⟩) rfl hl (Nat.le_of_ble_eq_true rfl) ⟨Nat.zero_le _, Nat.zero_le _⟩ dX6_minutes_102 rfl (fun r M1 H locs h12 hI => ?_)
              obtain ⟨hr9, hm9⟩ := h12
              rw [hm9] at hI
              subst hr9
              refine lv_imul hx hb dX6_minutes_105 ?_
              refine lv_iadd hx hb dX6_minutes_106 ?_
              refine lv_istore_n (lv' := [(1, .int (((x1 + (jabs (x2 - (M 0 (12 + 8 * i0 + 0))) * M 0 2)) + (M 0 3)) + (2 * (jabs ((M 0 (12 + 8 * i0 + 0)) - 0) * M 0 2)))), (2, .int (M 0 (12 + 8 * i0 + 0))), (7, .int (M 0 (12 + 8 * i0 + 0))), (6, .int (o2i (ladF (M 0) i0))), (5, .int (nI i0)), (4, .int (nI k)), (3, .int x3), (0, .ref (q 0))]) hx hb dX6_minutes_107 rfl hl (by decide) rfl (fun ls hl => ?_)
              refine lv_iload hx hb dX6_minutes_108 (lv_at hl 3 rfl) ?_
              refine lv_bipush (v := (-6)) hx hb dX6_minutes_110 (by decide) ?_
              refine lv_icmp_ne (tgt := 119) hx hb dX6_minutes_112 (by decide) (fun c13 => ?_) (fun c13 => ?_)
              · skip
                refine lv_iload hx hb dX6_minutes_119 (lv_at hl 3 rfl) ?_
                refine lv_istore_n (lv' := [(3, .int (o2i (ladF (M 0) i0))), (1, .int (((x1 + (jabs (x2 - (M 0 (12 + 8 * i0 + 0))) * M 0 2)) + (M 0 3)) + (2 * (jabs ((M 0 (12 + 8 * i0 + 0)) - 0) * M 0 2)))), (2, .int (M 0 (12 + 8 * i0 + 0))), (7, .int (M 0 (12 + 8 * i0 + 0))), (6, .int (o2i (ladF (M 0) i0))), (5, .int (nI i0)), (4, .int (nI k)), (0, .ref (q 0))]) hx hb dX6_minutes_121 rfl hl (by decide) rfl (fun ls hl => ?_)
                refine lv_iinc (v := nI (k + 1)) (lv' := [(4, .int (nI (k + 1))), (3, .int (o2i (ladF (M 0) i0))), (1, .int (((x1 + (jabs (x2 - (M 0 (12 + 8 * i0 + 0))) * M 0 2)) + (M 0 3)) + (2 * (jabs ((M 0 (12 + 8 * i0 + 0)) - 0) * M 0 2)))), (2, .int (M 0 (12 + 8 * i0 + 0))), (7, .int (M 0 (12 + 8 * i0 + 0))), (6, .int (o2i (ladF (M 0) i0))), (5, .int (nI i0)), (0, .ref (q 0))]) hx hb dX6_minutes_122 hl (k := 6) rfl (by rw [show Int32.ofInt 1 = nI 1 from rfl, nI_add]) (by decide) rfl (fun ls hl => ?_)
                refine lv_goto (tgt := 10) hx hb dX6_minutes_125 (by decide) ?_
                exact ih (k + 1) (((x1 + (jabs (x2 - (M 0 (12 + 8 * i0 + 0))) * M 0 2)) + (M 0 3)) + (2 * (jabs ((M 0 (12 + 8 * i0 + 0)) - 0) * M 0 2))) (M 0 (12 + 8 * i0 + 0)) (o2i (ladF (M 0) i0)) (by omega) (by omega) (by first | (simp [miS, hx3, ek0, -Int32.not_le, -Int32.not_lt, c1, nc1, b6, c9, c11, c13]; done) | contradiction) _ _ _ hI (lv_sub hl [0, 1, 3, 2, 7] rfl)
              · skip
                refine lv_iload_n hx hb dX6_minutes_115 rfl (lv_at hl 6 rfl) ?_
                refine lv_goto (tgt := 121) hx hb dX6_minutes_116 (by decide) ?_
                refine lv_istore_n (lv' := [(3, .int x3), (1, .int (((x1 + (jabs (x2 - (M 0 (12 + 8 * i0 + 0))) * M 0 2)) + (M 0 3)) + (2 * (jabs ((M 0 (12 + 8 * i0 + 0)) - 0) * M 0 2)))), (2, .int (M 0 (12 + 8 * i0 + 0))), (7, .int (M 0 (12 + 8 * i0 + 0))), (6, .int (o2i (ladF (M 0) i0))), (5, .int (nI i0)), (4, .int (nI k)), (0, .ref (q 0))]) hx hb dX6_minutes_121 rfl hl (by decide) rfl (fun ls hl => ?_)
                refine lv_iinc (v := nI (k + 1)) (lv' := [(4, .int (nI (k + 1))), (3, .int x3), (1, .int (((x1 + (jabs (x2 - (M 0 (12 + 8 * i0 + 0))) * M 0 2)) + (M 0 3)) + (2 * (jabs ((M 0 (12 + 8 * i0 + 0)) - 0) * M 0 2)))), (2, .int (M 0 (12 + 8 * i0 + 0))), (7, .int (M 0 (12 + 8 * i0 + 0))), (6, .int (o2i (ladF (M 0) i0))), (5, .int (nI i0)), (0, .ref (q 0))]) hx hb dX6_minutes_122 hl (k := 6) rfl (by rw [show Int32.ofInt 1 = nI 1 from rfl, nI_add]) (by decide) rfl (fun ls hl => ?_)
                refine lv_goto (tgt := 10) hx hb dX6_minutes_125 (by decide) ?_
                exact ih (k + 1) (((x1 + (jabs (x2 - (M 0 (12 + 8 * i0 + 0))) * M 0 2)) + (M 0 3)) + (2 * (jabs ((M 0 (12 + 8 * i0 + 0)) - 0) * M 0 2))) (M 0 (12 + 8 * i0 + 0)) (x3) (by omega) (by omega) (by first | (simp [miS, hx3, ek0, -Int32.not_le, -Int32.not_lt, c1, nc1, b6, c9, c11, c13]; done) | contradiction) _ _ _ hI (lv_sub hl [0, 1, 3, 2, 7] rfl)
            · skip
              refine lv_iconst (v := 0) hx hb dX6_minutes_94 (by decide) ?_
              refine lv_goto (tgt := 106) hx hb dX6_minutes_95 (by decide) ?_
              refine lv_iadd hx hb dX6_minutes_106 ?_
              refine lv_istore_n (lv' := [(1, .int (((x1 + (jabs (x2 - (M 0 (12 + 8 * i0 + 0))) * M 0 2)) + (M 0 3)) + 0)), (2, .int (M 0 (12 + 8 * i0 + 0))), (7, .int (M 0 (12 + 8 * i0 + 0))), (6, .int (o2i (ladF (M 0) i0))), (5, .int (nI i0)), (4, .int (nI k)), (3, .int x3), (0, .ref (q 0))]) hx hb dX6_minutes_107 rfl hl (by decide) rfl (fun ls hl => ?_)
              refine lv_iload hx hb dX6_minutes_108 (lv_at hl 3 rfl) ?_
              refine lv_bipush (v := (-6)) hx hb dX6_minutes_110 (by decide) ?_
              refine lv_icmp_ne (tgt := 119) hx hb dX6_minutes_112 (by decide) (fun c14 => ?_) (fun c14 => ?_)
              · skip
                refine lv_iload hx hb dX6_minutes_119 (lv_at hl 3 rfl) ?_
                refine lv_istore_n (lv' := [(3, .int (o2i (ladF (M 0) i0))), (1, .int (((x1 + (jabs (x2 - (M 0 (12 + 8 * i0 + 0))) * M 0 2)) + (M 0 3)) + 0)), (2, .int (M 0 (12 + 8 * i0 + 0))), (7, .int (M 0 (12 + 8 * i0 + 0))), (6, .int (o2i (ladF (M 0) i0))), (5, .int (nI i0)), (4, .int (nI k)), (0, .ref (q 0))]) hx hb dX6_minutes_121 rfl hl (by decide) rfl (fun ls hl => ?_)
                refine lv_iinc (v := nI (k + 1)) (lv' := [(4, .int (nI (k + 1))), (3, .int (o2i (ladF (M 0) i0))), (1, .int (((x1 + (jabs (x2 - (M 0 (12 + 8 * i0 + 0))) * M 0 2)) + (M 0 3)) + 0)), (2, .int (M 0 (12 + 8 * i0 + 0))), (7, .int (M 0 (12 + 8 * i0 + 0))), (6, .int (o2i (ladF (M 0) i0))), (5, .int (nI i0)), (0, .ref (q 0))]) hx hb dX6_minutes_122 hl (k := 6) rfl (by rw [show Int32.ofInt 1 = nI 1 from rfl, nI_add]) (by decide) rfl (fun ls hl => ?_)
                refine lv_goto (tgt := 10) hx hb dX6_minutes_125 (by decide) ?_
                exact ih (k + 1) (((x1 + (jabs (x2 - (M 0 (12 + 8 * i0 + 0))) * M 0 2)) + (M 0 3)) + 0) (M 0 (12 + 8 * i0 + 0)) (o2i (ladF (M 0) i0)) (by omega) (by omega) (by first | (simp [miS, hx3, ek0, -Int32.not_le, -Int32.not_lt, c1, nc1, b6, c9, c11, c14]; done) | contradiction) _ _ _ hI (lv_sub hl [0, 1, 3, 2, 7] rfl)
              · skip
                refine lv_iload_n hx hb dX6_minutes_115 rfl (lv_at hl 6 rfl) ?_
                refine lv_goto (tgt := 121) hx hb dX6_minutes_116 (by decide) ?_
                refine lv_istore_n (lv' := [(3, .int x3), (1, .int (((x1 + (jabs (x2 - (M 0 (12 + 8 * i0 + 0))) * M 0 2)) + (M 0 3)) + 0)), (2, .int (M 0 (12 + 8 * i0 + 0))), (7, .int (M 0 (12 + 8 * i0 + 0))), (6, .int (o2i (ladF (M 0) i0))), (5, .int (nI i0)), (4, .int (nI k)), (0, .ref (q 0))]) hx hb dX6_minutes_121 rfl hl (by decide) rfl (fun ls hl => ?_)
                refine lv_iinc (v := nI (k + 1)) (lv' := [(4, .int (nI (k + 1))), (3, .int x3), (1, .int (((x1 + (jabs (x2 - (M 0 (12 + 8 * i0 + 0))) * M 0 2)) + (M 0 3)) + 0)), (2, .int (M 0 (12 + 8 * i0 + 0))), (7, .int (M 0 (12 + 8 * i0 + 0))), (6, .int (o2i (ladF (M 0) i0))), (5, .int (nI i0)), (0, .ref (q 0))]) hx hb dX6_minutes_122 hl (k := 6) rfl (by rw [show Int32.ofInt 1 = nI 1 from rfl, nI_add]) (by decide) rfl (fun ls hl => ?_)
                refine lv_goto (tgt := 10) hx hb dX6_minutes_125 (by decide) ?_
                exact ih (k + 1) (((x1 + (jabs (x2 - (M 0 (12 + 8 * i0 + 0))) * M 0 2)) + (M 0 3)) + 0) (M 0 (12 + 8 * i0 + 0)) (x3) (by omega) (by omega) (by first | (simp [miS, hx3, ek0, -Int32.not_le, -Int32.not_lt, c1, nc1, b6, c9, c11, c14]; done) | contradiction) _ _ _ hI (lv_sub hl [0, 1, 3, 2, 7] rfl)
        · skip
          have b6 : canW (M 0) i0 = false := b6
          refine lv_if_eq (tgt := 122) hx hb dX6_minutes_68 (by decide) (fun _ => ?_) (fun c15 => absurd (by decide) c15)
          refine lv_iinc (v := nI (k + 1)) (lv' := [(4, .int (nI (k + 1))), (2, .int (M 0 (12 + 8 * i0 + 0))), (1, .int (x1 + (jabs (x2 - (M 0 (12 + 8 * i0 + 0))) * M 0 2))), (7, .int (M 0 (12 + 8 * i0 + 0))), (6, .int (o2i (ladF (M 0) i0))), (5, .int (nI i0)), (3, .int x3), (0, .ref (q 0))]) hx hb dX6_minutes_122 hl (k := 5) rfl (by rw [show Int32.ofInt 1 = nI 1 from rfl, nI_add]) (by decide) rfl (fun ls hl => ?_)
          refine lv_goto (tgt := 10) hx hb dX6_minutes_125 (by decide) ?_
          exact ih (k + 1) (x1 + (jabs (x2 - (M 0 (12 + 8 * i0 + 0))) * M 0 2)) (M 0 (12 + 8 * i0 + 0)) (x3) (by omega) (by omega) (by first | (simp [miS, hx3, ek0, -Int32.not_le, -Int32.not_lt, c1, nc1, b6]; done) | contradiction) _ _ _ hI (lv_sub hl [0, 6, 1, 2, 7] rfl)
  exact L10 81 0 0 0 (-6) (by omega) (by omega) rfl _ _ _ hI (lv_sub hl [0, 1, 2, 3, 4] rfl)

set_option maxHeartbeats 4000000 in
set_option maxRecDepth 100000 in
theorem k_X6_goes (l : Launch) (dd : va_G) (g : Nat → ClassId) (q : Nat → Nat) (A : Nat → Prop) (hA : mA A q) (M : MS) (wl : Nat) (hwl : wl ≤ 80) (hin9 : M 9 0 = nI wl) (hrow : ∀ k, k < wl → ∃ i, i < cn (M 0) ∧ M 8 k = nI i) (hW : Wk (M 0)) : Met l yX6_goes wsX6_goes ({ frames := 4, cells := 0, slots := 0, locals := 93 }) (mPre dd g q M [.ref (q 0)]) (mQi dd g q A (fun r M' => r = miV (M 0) (M 8) wl ∧ M' = ms0 M (upd (goF (M 0) (M 8) wl) 7 (M 0 7 + miV (M 0) (M 8) wl)))) 0 0 A := by
  refine Met.ofW (cc := cX6_goes) (maxL := 3) (ret := (some .int)) (by decide) rfl ?_
  intro p e s m args below meth c s₁ B hml hv
  obtain ⟨rfl, hP0, hK⟩ := hv
  have hx := B.exec
  have hb := B.bytes
  have hr := B.returns
  have hts := atoms_spec (ws := wsX6_goes) B.pre
  have hown : s.vm.findClass RX6 = some m.cls := findClass_of_methodNamed B.named
  have hlocks := B.notSynchronized
  have hin : ∀ w ∈ wsX60, w ∈ wsX6_goes := by decide +kernel
  have hI : mI dd g q A s.heap s.heap [] M := ⟨hP0, va_S.rf⟩
  have hl := lv_entry ([.ref (q 0)]) (n := 3) (Nat.le_of_ble_eq_true rfl)
  rw [lg_entry_eq]
  generalize (lg_sl ([.ref (q 0)]) ++ List.replicate (3 - (lg_sl ([.ref (q 0)])).length) Slot.unset).toArray = ls at hl ⊢
  have hl : lv_has ls 3 [(0, .ref (q 0))] := hl
  have hc16 := hW.2.1
  have hl4 := hW.2.2.2
  refine lv_aload_n hx hb dX6_goes_0 rfl (lv_at hl 0 rfl) ?_
  refine m_calli (As := []) (rest := []) hx hb hml hown hts hK hI (k_X6_minutes l dd g q A hA M wl hwl hin9 hrow hW) (cwV 0 hts gX6_goes_X6_minutes rfl rfl rfl (by decide +kernel) ⟨Nat.le_of_ble_eq_true rfl, Nat.le_of_ble_eq_true rfl⟩) rfl hl (Nat.le_of_ble_eq_true rfl) ⟨Nat.zero_le _, Nat.zero_le _⟩ dX6_goes_1 rfl (fun r M1 H locs h1 hI => ?_)
  obtain ⟨hr9, hm9⟩ := h1
  rw [hm9] at hI
  subst hr9
  refine lv_istore_n (lv' := [(1, .int (miV (M 0) (M 8) wl)), (0, .ref (q 0))]) hx hb dX6_goes_4 rfl hl (by decide) rfl (fun ls hl => ?_)
  refine lv_iconst (v := 0) hx hb dX6_goes_5 (by decide) ?_
  refine lv_istore_n (lv' := [(2, .int 0), (1, .int (miV (M 0) (M 8) wl)), (0, .ref (q 0))]) hx hb dX6_goes_6 rfl hl (by decide) rfl (fun ls hl => ?_)
  have L7 : ∀ (fuel : Nat) (k : Nat) (h1 : k ≤ wl) (h2 : wl < fuel + k) (H : Heap) (locs : List Loc) (ls : Array Slot), mI dd g q A s.heap H locs (ms0 M (goF (M 0) (M 8) k)) → lv_has ls 3 [(2, .int (nI k)), (1, .int (miV (M 0) (M 8) wl)), (0, .ref (q 0))] → wk p l e wsX6_goes { frames := 4, cells := 0, slots := 0, locals := 93 } s m [.ref (q 0)] below meth c H locs (mQi dd g q A (fun r M' => r = miV (M 0) (M 8) wl ∧ M' = ms0 M (upd (goF (M 0) (M 8) wl) 7 (M 0 7 + miV (M 0) (M 8) wl)))) (A) (F0 m 7 ls []) := by
    intro fuel
    induction fuel with
    | zero =>
      intro k h1 h2 H locs ls hI hl
      exact absurd h2 (by omega)
    | succ fuel ih =>
      intro k h1 h2 H locs ls hI hl
      have hW3 : Wk (ms0 M (goF (M 0) (M 8) k) 0) := (hW.congr (goF_lo _ _ _ (by decide)) (goF_lo _ _ _ (by decide))).1
      refine lv_iload_n hx hb dX6_goes_7 rfl (lv_at hl 0 rfl) ?_
      refine lv_aload_n hx hb dX6_goes_8 rfl (lv_at hl 2 rfl) ?_
      refine m_get hx hb hts hin hown hK hI 9 (by decide) (hts (.fieldLink RX6 58 "WinderLaddersModel" "inRow" "I") (by decide +kernel)) (v := .int (nI wl)) (congrArg (fun z => some (Value.int z)) ((by rw [ms0_k _ _ (by decide)]; exact hin9))) dX6_goes_9 ?_
      refine lv_icmp_ge (tgt := 44) hx hb dX6_goes_12 (by decide) (fun c2 => ?_) (fun c2 => ?_)
      · skip
        have nc2 : wl ≤ k := (nI_leI (a := wl) (b := k) (by omega) (by omega)).mp c2
        have ek : k = wl := by omega
        refine lv_aload_n hx hb dX6_goes_44 rfl (lv_at hl 2 rfl) ?_
        refine m_get hx hb hts hin hown hK hI 0 (by decide) (hts (.fieldLink RX6 7 "WinderLaddersModel" "s" "[I") (by decide +kernel)) (v := .ref (q 1)) rfl dX6_goes_45 ?_
        refine lv_bipush (v := 7) hx hb dX6_goes_48 (by decide) ?_
        refine lv_dup2_11 hx hb dX6_goes_50 rfl rfl ?_
        refine m_ald hx hb hK hI 0 (by decide) (7) (by show _ < 140; omega) rfl (v := (goF (M 0) (M 8) k) 7) rfl dX6_goes_51 ?_
        refine lv_iload_n hx hb dX6_goes_52 rfl (lv_at hl 1 rfl) ?_
        refine lv_iadd hx hb dX6_goes_53 ?_
        refine m_ast hx hb hK hA hI 0 (by decide) (7) (by show _ < 140; omega) rfl dX6_goes_54 (fun H locs hI => ?_)
        refine lv_iload_n hx hb dX6_goes_55 rfl (lv_at hl 1 rfl) ?_
        exact m_iret (v := miV (M 0) (M 8) wl) hx hb hr hI (⟨rfl, by rw [mset_0, ms0_0, ms0_ms0, goF_lo _ _ _ (by decide), ek]⟩) dX6_goes_56 hlocks
      · skip
        have nc2 : ¬ (wl ≤ k) := fun h => c2 ((nI_leI (a := wl) (b := k) (by omega) (by omega)).mpr h)
        obtain ⟨i0, hi0, hk0⟩ := hrow k (by omega)
        have ek0 : (M 8 k).toNatClampNeg = i0 := by rw [hk0]; exact nI_clamp (by omega)
        refine lv_aload_n hx hb dX6_goes_15 rfl (lv_at hl 2 rfl) ?_
        refine lv_aload_n hx hb dX6_goes_16 rfl (lv_at hl 2 rfl) ?_
        refine m_get hx hb hts hin hown hK hI 8 (by decide) (hts (.fieldLink RX6 29 "WinderLaddersModel" "row" "[I") (by decide +kernel)) (v := .ref (q 7)) rfl dX6_goes_17 ?_
        refine lv_iload_n hx hb dX6_goes_20 rfl (lv_at hl 0 rfl) ?_
        refine m_ald hx hb hK hI 8 (by decide) (k) (by show _ < 80; omega) rfl (v := nI i0) ((by rw [ms0_k _ _ (by decide)]; exact hk0)) dX6_goes_21 ?_
        refine m_calli (As := [.int (nI i0)]) (rest := []) hx hb hml hown hts hK hI (k_X6_canWind l dd g q A hA (ms0 M (goF (M 0) (M 8) k)) i0 (by omega) hW3) (cwV 1 hts gX6_goes_X6_canWind rfl rfl rfl (by decide +kernel) ⟨Nat.le_of_ble_eq_true rfl, Nat.le_of_ble_eq_true rfl⟩) rfl hl (Nat.le_of_ble_eq_true rfl) ⟨Nat.zero_le _, Nat.zero_le _⟩ dX6_goes_22 rfl (fun r M1 H locs h4 hI => ?_)
        obtain ⟨h4, hm9⟩ := h4
        rw [hm9] at hI
        rcases h4 with ⟨b3, rfl⟩ | ⟨b3, rfl⟩
        · skip
          have b3 : canW (goF (M 0) (M 8) k) i0 = true := b3
          refine lv_if_eq (tgt := 38) hx hb dX6_goes_25 (by decide) (fun c5 => absurd c5 (by decide)) (fun _ => ?_)
          refine lv_aload_n hx hb dX6_goes_28 rfl (lv_at hl 2 rfl) ?_
          refine lv_aload_n hx hb dX6_goes_29 rfl (lv_at hl 2 rfl) ?_
          refine m_get hx hb hts hin hown hK hI 8 (by decide) (hts (.fieldLink RX6 29 "WinderLaddersModel" "row" "[I") (by decide +kernel)) (v := .ref (q 7)) rfl dX6_goes_30 ?_
          refine lv_iload_n hx hb dX6_goes_33 rfl (lv_at hl 0 rfl) ?_
          refine m_ald hx hb hK hI 8 (by decide) (k) (by show _ < 80; omega) rfl (v := nI i0) ((by rw [ms0_k _ _ (by decide)]; exact hk0)) dX6_goes_34 ?_
          refine m_callv (As := [.int (nI i0)]) (rest := []) hx hb hml hown hts hK hI (k_X6_work l dd g q A hA (ms0 M (goF (M 0) (M 8) k)) i0 (by omega)) (cwV 1 hts gX6_goes_X6_work rfl rfl rfl (by decide +kernel) ⟨Nat.le_of_ble_eq_true rfl, Nat.le_of_ble_eq_true rfl⟩) rfl hl (Nat.le_of_ble_eq_true rfl) ⟨Nat.zero_le _, Nat.zero_le _⟩ dX6_goes_35 rfl (fun M1 H locs h6 hI => ?_)
          subst h6
          refine lv_iinc (v := nI (k + 1)) (lv' := [(2, .int (nI (k + 1))), (1, .int (miV (M 0) (M 8) wl)), (0, .ref (q 0))]) hx hb dX6_goes_38 hl (k := 0) rfl (by rw [show Int32.ofInt 1 = nI 1 from rfl, nI_add]) (by decide) rfl (fun ls hl => ?_)
          refine lv_goto (tgt := 7) hx hb dX6_goes_41 (by decide) ?_
          exact ih (k + 1) (by omega) (by omega) _ _ _ (by simpa [goF, ek0, ms0_0, ms0_ms0, c2, nc2, b3] using hI) (lv_sub hl [0, 1, 2] rfl)
        · skip
          have b3 : canW (goF (M 0) (M 8) k) i0 = false := b3
          refine lv_if_eq (tgt := 38) hx hb dX6_goes_25 (by decide) (fun _ => ?_) (fun c7 => absurd (by decide) c7)
          refine lv_iinc (v := nI (k + 1)) (lv' := [(2, .int (nI (k + 1))), (1, .int (miV (M 0) (M 8) wl)), (0, .ref (q 0))]) hx hb dX6_goes_38 hl (k := 0) rfl (by rw [show Int32.ofInt 1 = nI 1 from rfl, nI_add]) (by decide) rfl (fun ls hl => ?_)
          refine lv_goto (tgt := 7) hx hb dX6_goes_41 (by decide) ?_
          exact ih (k + 1) (by omega) (by omega) _ _ _ (by simpa [goF, ek0, ms0_0, ms0_ms0, c2, nc2, b3] using hI) (lv_sub hl [0, 1, 2] rfl)
  exact L7 81 0 (by omega) (by omega) _ _ _ (by rw [show ms0 M (goF (M 0) (M 8) 0) = M from ms0_self M]; exact hI) (lv_sub hl [0, 1, 2] rfl)
