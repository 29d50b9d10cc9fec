set_option maxHeartbeats 4000000 in
set_option maxRecDepth 100000 in
theorem k_X6_save (l : Launch) (dd : va_G) (g : Nat → ClassId) (q : Nat → Nat) (A : Nat → Prop) (hA : mA A q) (M : MS) (x : Int32) (hW : Wk (M 0)) : Met l yX6_save wsX6_save ({ frames := 1, cells := 0, slots := 0, locals := 22 }) (mPre dd g q M [.ref (q 0), .int x]) (mQi dd g q A (fun r M' => (inB x 0 1 = false ∧ r = -2 ∧ M' = M) ∨ (inB x 0 1 = true ∧ r = nI (cn (M 0)) ∧ M' = mset (mrow M 4 (cp1 (M 4) (M 0) (140 * ix x) 140)) 5 (ix x) 1))) 0 0 A := by
  refine Met.ofW (cc := cX6_save) (maxL := 3) (ret := (some .int)) (by decide) rfl ?_
  intro p e s m args below meth c s₁ B hml hv
  obtain ⟨rfl, hP0, hK⟩ := hv
  have hx := B.exec
  have hb := B.bytes
  have hr := B.returns
  have hts := atoms_spec (ws := wsX6_save) B.pre
  have hown : s.vm.findClass RX6 = some m.cls := findClass_of_methodNamed B.named
  have hlocks := B.notSynchronized
  have hin : ∀ w ∈ wsX60, w ∈ wsX6_save := by decide +kernel
  have hI : mI dd g q A s.heap s.heap [] M := ⟨hP0, va_S.rf⟩
  have hl := lv_entry ([.ref (q 0), .int x]) (n := 3) (Nat.le_of_ble_eq_true rfl)
  rw [lg_entry_eq]
  generalize (lg_sl ([.ref (q 0), .int x]) ++ List.replicate (3 - (lg_sl ([.ref (q 0), .int x])).length) Slot.unset).toArray = ls at hl ⊢
  have hl : lv_has ls 3 [(0, .ref (q 0)), (1, .int x)] := hl
  have hc16 := hW.2.1
  have hl4 := hW.2.2.2
  refine lv_iload_n hx hb dX6_save_0 rfl (lv_at hl 1 rfl) ?_
  refine lv_iconst (v := 0) hx hb dX6_save_1 (by decide) ?_
  refine lv_iconst (v := 1) hx hb dX6_save_2 (by decide) ?_
  refine m_calls (As := [.int x, .int 0, .int 1]) (rest := []) hx hb hml hown hts hI (k_X6_in l x 0 1) (va_cwS 3 hts gX6_save_X6_in rfl rfl rfl (by decide +kernel) ⟨Nat.le_of_ble_eq_true rfl, Nat.le_of_ble_eq_true rfl⟩) rfl hl (Nat.le_of_ble_eq_true rfl) ⟨Nat.zero_le _, Nat.zero_le _⟩ dX6_save_3 rfl (fun r H locs h2 hI => ?_)
  rcases h2 with ⟨b1, rfl⟩ | ⟨b1, rfl⟩
  · skip
    refine lv_if_ne (tgt := 12) hx hb dX6_save_6 (by decide) (fun _ => ?_) (fun c3 => absurd c3 (by decide))
    obtain ⟨i0, hi0, e0⟩ := inB_nI (n := 1) (by decide) b1
    have x0 : ix x = i0 := by rw [e0]; exact ix_nI (by omega)
    subst e0
    refine lv_iconst (v := 0) hx hb dX6_save_12 (by decide) ?_
    refine lv_istore_n (lv' := [(2, .int 0), (0, .ref (q 0)), (1, .int (nI i0))]) hx hb dX6_save_13 rfl hl (by decide) rfl (fun ls hl => ?_)
    have L14 : ∀ (fuel : Nat) (k : Nat) (h1 : k ≤ 140) (h2 : 140 < fuel + k) (H : Heap) (locs : List Loc) (ls : Array Slot), mI dd g q A s.heap H locs (mrow M 4 (cp1 (M 4) (M 0) (140 * i0) k)) → lv_has ls 3 [(2, .int (nI k)), (0, .ref (q 0)), (1, .int (nI i0))] → wk p l e wsX6_save { frames := 1, cells := 0, slots := 0, locals := 22 } s m [.ref (q 0), .int (nI i0)] below meth c H locs (mQi dd g q A (fun r M' => (inB (nI i0) 0 1 = false ∧ r = -2 ∧ M' = M) ∨ (inB (nI i0) 0 1 = true ∧ r = nI (cn (M 0)) ∧ M' = mset (mrow M 4 (cp1 (M 4) (M 0) (140 * ix (nI i0)) 140)) 5 (ix (nI i0)) 1))) (A) (F0 m 14 ls []) := by
      intro fuel
      induction fuel with
      | zero =>
        intro k h1 h2 H locs ls hI hl
        exact absurd h2 (by omega)
      | succ fuel ih =>
        intro k h1 h2 H locs ls hI hl
        refine lv_iload_n hx hb dX6_save_14 rfl (lv_at hl 0 rfl) ?_
        refine lv_sipush (v := 140) hx hb dX6_save_15 (by decide) ?_
        refine lv_icmp_ge (tgt := 45) hx hb dX6_save_18 (by decide) (fun c4 => ?_) (fun c4 => ?_)
        · skip
          have nc4 : 140 ≤ k := (nI_leI (a := 140) (b := k) (by omega) (by omega)).mp c4
          refine lv_aload_n hx hb dX6_save_45 rfl (lv_at hl 1 rfl) ?_
          refine m_get hx hb hts hin hown hK hI 5 (by decide) (hts (.fieldLink RX6 22 "WinderLaddersModel" "isSaved" "[Z") (by decide +kernel)) (v := .ref (q 5)) rfl dX6_save_46 ?_
          refine lv_iload_n hx hb dX6_save_49 rfl (lv_at hl 2 rfl) ?_
          refine lv_iconst (v := 1) hx hb dX6_save_50 (by decide) ?_
          refine m_zst hx hb hK hA hI (i0) (by show _ < 2; omega) rfl (by first | exact Or.inl rfl | exact Or.inr rfl) dX6_save_51 (fun H locs hI => ?_)
          refine lv_aload_n hx hb dX6_save_52 rfl (lv_at hl 1 rfl) ?_
          refine m_get hx hb hts hin hown hK hI 0 (by decide) (hts (.fieldLink RX6 7 "WinderLaddersModel" "s" "[I") (by decide +kernel)) (v := .ref (q 1)) rfl dX6_save_53 ?_
          refine lv_iconst (v := 5) hx hb dX6_save_56 (by decide) ?_
          refine m_ald hx hb hK hI 0 (by decide) (5) (by show _ < 140; omega) rfl (v := nI (cn (M 0))) ((mset_nk _ (by decide) _ _ _).trans (hW.1)) dX6_save_57 ?_
          exact m_iret (v := nI (cn (M 0))) hx hb hr hI (Or.inr ⟨b1, rfl, by rw [x0, show k = 140 by omega]⟩) dX6_save_58 hlocks
        · skip
          have nc4 : ¬ (140 ≤ k) := fun h => c4 ((nI_leI (a := 140) (b := k) (by omega) (by omega)).mpr h)
          refine lv_aload_n hx hb dX6_save_21 rfl (lv_at hl 1 rfl) ?_
          refine m_get hx hb hts hin hown hK hI 4 (by decide) (hts (.fieldLink RX6 19 "WinderLaddersModel" "slots" "[I") (by decide +kernel)) (v := .ref (q 4)) rfl dX6_save_22 ?_
          refine lv_sipush (v := 140) hx hb dX6_save_25 (by decide) ?_
          refine lv_iload_n hx hb dX6_save_28 rfl (lv_at hl 2 rfl) ?_
          refine lv_imul hx hb dX6_save_29 ?_
          refine lv_re (y := nI (140 * i0)) (pk_mul (140) (i0)) ?_
          refine lv_iload_n hx hb dX6_save_30 rfl (lv_at hl 0 rfl) ?_
          refine lv_iadd hx hb dX6_save_31 ?_
          refine lv_re (y := nI (140 * i0 + k)) (nI_add (140 * i0) (k)) ?_
          refine lv_aload_n hx hb dX6_save_32 rfl (lv_at hl 1 rfl) ?_
          refine m_get hx hb hts hin hown hK hI 0 (by decide) (hts (.fieldLink RX6 7 "WinderLaddersModel" "s" "[I") (by decide +kernel)) (v := .ref (q 1)) rfl dX6_save_33 ?_
          refine lv_iload_n hx hb dX6_save_36 rfl (lv_at hl 0 rfl) ?_
          refine m_ald hx hb hK hI 0 (by decide) (k) (by show _ < 140; omega) rfl (v := M 0 k) rfl dX6_save_37 ?_
          refine m_ast hx hb hK hA hI 4 (by decide) (140 * i0 + k) (by show _ < 280; omega) rfl dX6_save_38 (fun H locs hI => ?_)
          refine lv_iinc (v := nI (k + 1)) (lv' := [(2, .int (nI (k + 1))), (0, .ref (q 0)), (1, .int (nI i0))]) hx hb dX6_save_39 hl (k := 0) rfl (by rw [show Int32.ofInt 1 = nI 1 from rfl, nI_add]) (by decide) rfl (fun ls hl => ?_)
          refine lv_goto (tgt := 14) hx hb dX6_save_42 (by decide) ?_
          exact ih (k + 1) (by omega) (by omega) _ _ _ (by rw [mset_mrow_s, cp1_s] at hI; exact hI) (lv_sub hl [0, 1, 2] rfl)
    exact L14 141 0 (by omega) (by omega) _ _ _ (by rw [cp1_0, mrow_self]; exact hI) (lv_sub hl [0, 1, 2] rfl)
  · skip
    refine lv_if_ne (tgt := 12) hx hb dX6_save_6 (by decide) (fun c5 => absurd (by decide) c5) (fun _ => ?_)
    refine lv_bipush (v := (-2)) hx hb dX6_save_9 (by decide) ?_
    exact m_iret (v := (-2)) hx hb hr hI (Or.inl ⟨b1, rfl, rfl⟩) dX6_save_11 hlocks

set_option maxHeartbeats 4000000 in
set_option maxRecDepth 100000 in
theorem k_X6_restore (l : Launch) (dd : va_G) (g : Nat → ClassId) (q : Nat → Nat) (A : Nat → Prop) (hA : mA A q) (M : MS) (x : Int32) (kn : Nat) (hkn : kn ≤ 6) (hk : M 3 0 = nI kn) (hW : Wk (M 0)) (hz5 : ∀ i, i < 2 → M 5 i = 0 ∨ M 5 i = 1) : Met l yX6_restore wsX6_restore ({ frames := 1, cells := 0, slots := 0, locals := 22 }) (mPre dd g q M [.ref (q 0), .int x]) (mQi dd g q A (fun r M' => (inB x 0 1 = false ∧ r = -2 ∧ M' = M) ∨ (inB x 0 1 = true ∧ M 5 (ix x) = 0 ∧ r = -5 ∧ M' = M) ∨ (inB x 0 1 = true ∧ ¬ M 5 (ix x) = 0 ∧ r = M 4 (140 * ix x + 5) ∧ M' = mrow (knM M kn) 0 (cp2 (M 0) (M 4) (140 * ix x) 140)))) 0 0 A := by
  refine Met.ofW (cc := cX6_restore) (maxL := 3) (ret := (some .int)) (by decide) rfl ?_
  intro p e s m args below meth c s₁ B hml hv
  obtain ⟨rfl, hP0, hK⟩ := hv
  have hx := B.exec
  have hb := B.bytes
  have hr := B.returns
  have hts := atoms_spec (ws := wsX6_restore) B.pre
  have hown : s.vm.findClass RX6 = some m.cls := findClass_of_methodNamed B.named
  have hlocks := B.notSynchronized
  have hin : ∀ w ∈ wsX60, w ∈ wsX6_restore := by decide +kernel
  have hI : mI dd g q A s.heap s.heap [] M := ⟨hP0, va_S.rf⟩
  have hl := lv_entry ([.ref (q 0), .int x]) (n := 3) (Nat.le_of_ble_eq_true rfl)
  rw [lg_entry_eq]
  generalize (lg_sl ([.ref (q 0), .int x]) ++ List.replicate (3 - (lg_sl ([.ref (q 0), .int x])).length) Slot.unset).toArray = ls at hl ⊢
  have hl : lv_has ls 3 [(0, .ref (q 0)), (1, .int x)] := hl
  have hc16 := hW.2.1
  have hl4 := hW.2.2.2
  refine lv_iload_n hx hb dX6_restore_0 rfl (lv_at hl 1 rfl) ?_
  refine lv_iconst (v := 0) hx hb dX6_restore_1 (by decide) ?_
  refine lv_iconst (v := 1) hx hb dX6_restore_2 (by decide) ?_
  refine m_calls (As := [.int x, .int 0, .int 1]) (rest := []) hx hb hml hown hts hI (k_X6_in l x 0 1) (va_cwS 3 hts gX6_restore_X6_in rfl rfl rfl (by decide +kernel) ⟨Nat.le_of_ble_eq_true rfl, Nat.le_of_ble_eq_true rfl⟩) rfl hl (Nat.le_of_ble_eq_true rfl) ⟨Nat.zero_le _, Nat.zero_le _⟩ dX6_restore_3 rfl (fun r H locs h2 hI => ?_)
  rcases h2 with ⟨b1, rfl⟩ | ⟨b1, rfl⟩
  · skip
    refine lv_if_ne (tgt := 12) hx hb dX6_restore_6 (by decide) (fun _ => ?_) (fun c3 => absurd c3 (by decide))
    obtain ⟨i0, hi0, e0⟩ := inB_nI (n := 1) (by decide) b1
    have x0 : ix x = i0 := by rw [e0]; exact ix_nI (by omega)
    subst e0
    refine lv_aload_n hx hb dX6_restore_12 rfl (lv_at hl 0 rfl) ?_
    refine m_get hx hb hts hin hown hK hI 5 (by decide) (hts (.fieldLink RX6 22 "WinderLaddersModel" "isSaved" "[Z") (by decide +kernel)) (v := .ref (q 5)) rfl dX6_restore_13 ?_
    refine lv_iload_n hx hb dX6_restore_16 rfl (lv_at hl 1 rfl) ?_
    refine m_zld hx hb hK hI (i0) (by show _ < 2; omega) rfl (v := M 5 i0) rfl dX6_restore_17 ?_
    refine lv_if_ne (tgt := 24) hx hb dX6_restore_18 (by decide) (fun c4 => ?_) (fun c4 => ?_)
    · skip
      refine lv_aload_n hx hb dX6_restore_24 rfl (lv_at hl 0 rfl) ?_
      refine m_callv (As := []) (rest := []) hx hb hml hown hts hK hI (k_X6_know l dd g q A hA M kn hkn hk) (cwV 0 hts gX6_restore_X6_know rfl rfl rfl (by decide +kernel) ⟨Nat.le_of_ble_eq_true rfl, Nat.le_of_ble_eq_true rfl⟩) rfl hl (Nat.le_of_ble_eq_true rfl) ⟨Nat.zero_le _, Nat.zero_le _⟩ dX6_restore_25 rfl (fun M1 H locs h5 hI => ?_)
      subst h5
      refine lv_iconst (v := 0) hx hb dX6_restore_28 (by decide) ?_
      refine lv_istore_n (lv' := [(2, .int 0), (0, .ref (q 0)), (1, .int (nI i0))]) hx hb dX6_restore_29 rfl hl (by decide) rfl (fun ls hl => ?_)
      have L30 : ∀ (fuel : Nat) (k : Nat) (h1 : k ≤ 140) (h2 : 140 < fuel + k) (H : Heap) (locs : List Loc) (ls : Array Slot), mI dd g q A s.heap H locs (mrow (knM M kn) 0 (cp2 (M 0) (M 4) (140 * i0) k)) → lv_has ls 3 [(2, .int (nI k)), (0, .ref (q 0)), (1, .int (nI i0))] → wk p l e wsX6_restore { frames := 1, cells := 0, slots := 0, locals := 22 } s m [.ref (q 0), .int (nI i0)] below meth c H locs (mQi dd g q A (fun r M' => (inB (nI i0) 0 1 = false ∧ r = -2 ∧ M' = M) ∨ (inB (nI i0) 0 1 = true ∧ M 5 (ix (nI i0)) = 0 ∧ r = -5 ∧ M' = M) ∨ (inB (nI i0) 0 1 = true ∧ ¬ M 5 (ix (nI i0)) = 0 ∧ r = M 4 (140 * ix (nI i0) + 5) ∧ M' = mrow (knM M kn) 0 (cp2 (M 0) (M 4) (140 * ix (nI i0)) 140)))) (A) (F0 m 30 ls []) := by
        intro fuel
        induction fuel with
        | zero =>
          intro k h1 h2 H locs ls hI hl
          exact absurd h2 (by omega)
        | succ fuel ih =>
          intro k h1 h2 H locs ls hI hl
          refine lv_iload_n hx hb dX6_restore_30 rfl (lv_at hl 0 rfl) ?_
          refine lv_sipush (v := 140) hx hb dX6_restore_31 (by decide) ?_
          refine lv_icmp_ge (tgt := 61) hx hb dX6_restore_34 (by decide) (fun c6 => ?_) (fun c6 => ?_)
          · skip
            have nc6 : 140 ≤ k := (nI_leI (a := 140) (b := k) (by omega) (by omega)).mp c6
            refine lv_aload_n hx hb dX6_restore_61 rfl (lv_at hl 1 rfl) ?_
            refine m_get hx hb hts hin hown hK hI 0 (by decide) (hts (.fieldLink RX6 7 "WinderLaddersModel" "s" "[I") (by decide +kernel)) (v := .ref (q 1)) rfl dX6_restore_62 ?_
            refine lv_iconst (v := 5) hx hb dX6_restore_65 (by decide) ?_
            refine m_ald hx hb hK hI 0 (by decide) (5) (by show _ < 140; omega) rfl (v := (mrow (knM M kn) 0 (cp2 (M 0) (M 4) (140 * i0) k)) 0 5) rfl dX6_restore_66 ?_
            exact m_iret (v := (mrow (knM M kn) 0 (cp2 (M 0) (M 4) (140 * i0) k)) 0 5) hx hb hr hI (Or.inr (Or.inr ⟨b1, by rw [x0]; exact c4, by rw [x0, mrow_s]; exact if_pos (by omega), by rw [x0, show k = 140 by omega]⟩)) dX6_restore_67 hlocks
          · skip
            have nc6 : ¬ (140 ≤ k) := fun h => c6 ((nI_leI (a := 140) (b := k) (by omega) (by omega)).mpr h)
            refine lv_aload_n hx hb dX6_restore_37 rfl (lv_at hl 1 rfl) ?_
            refine m_get hx hb hts hin hown hK hI 0 (by decide) (hts (.fieldLink RX6 7 "WinderLaddersModel" "s" "[I") (by decide +kernel)) (v := .ref (q 1)) rfl dX6_restore_38 ?_
            refine lv_iload_n hx hb dX6_restore_41 rfl (lv_at hl 0 rfl) ?_
            refine lv_aload_n hx hb dX6_restore_42 rfl (lv_at hl 1 rfl) ?_
            refine m_get hx hb hts hin hown hK hI 4 (by decide) (hts (.fieldLink RX6 19 "WinderLaddersModel" "slots" "[I") (by decide +kernel)) (v := .ref (q 4)) rfl dX6_restore_43 ?_
            refine lv_sipush (v := 140) hx hb dX6_restore_46 (by decide) ?_
            refine lv_iload_n hx hb dX6_restore_49 rfl (lv_at hl 2 rfl) ?_
            refine lv_imul hx hb dX6_restore_50 ?_
            refine lv_re (y := nI (140 * i0)) (pk_mul (140) (i0)) ?_
            refine lv_iload_n hx hb dX6_restore_51 rfl (lv_at hl 0 rfl) ?_
            refine lv_iadd hx hb dX6_restore_52 ?_
            refine lv_re (y := nI (140 * i0 + k)) (nI_add (140 * i0) (k)) ?_
            refine m_ald hx hb hK hI 4 (by decide) (140 * i0 + k) (by show _ < 280; omega) rfl (v := M 4 (140 * i0 + k)) rfl dX6_restore_53 ?_
            refine m_ast hx hb hK hA hI 0 (by decide) (k) (by show _ < 140; omega) rfl dX6_restore_54 (fun H locs hI => ?_)
            refine lv_iinc (v := nI (k + 1)) (lv' := [(2, .int (nI (k + 1))), (0, .ref (q 0)), (1, .int (nI i0))]) hx hb dX6_restore_55 hl (k := 0) rfl (by rw [show Int32.ofInt 1 = nI 1 from rfl, nI_add]) (by decide) rfl (fun ls hl => ?_)
            refine lv_goto (tgt := 30) hx hb dX6_restore_58 (by decide) ?_
            exact ih (k + 1) (by omega) (by omega) _ _ _ (by rw [mset_mrow_s, cp2_s] at hI; exact hI) (lv_sub hl [0, 1, 2] rfl)
      exact L30 141 0 (by omega) (by omega) _ _ _ (by rw [cp2_0, show mrow (knM M kn) 0 (M 0) = knM M kn from mrow_self (knM M kn) 0]; exact hI) (lv_sub hl [0, 1, 2] rfl)
    · skip
      refine lv_bipush (v := (-5)) hx hb dX6_restore_21 (by decide) ?_
      exact m_iret (v := (-5)) hx hb hr hI (Or.inr (Or.inl ⟨b1, by rw [x0]; exact c4, rfl, rfl⟩)) dX6_restore_23 hlocks
  · skip
    refine lv_if_ne (tgt := 12) hx hb dX6_restore_6 (by decide) (fun c7 => absurd (by decide) c7) (fun _ => ?_)
    refine lv_bipush (v := (-2)) hx hb dX6_restore_9 (by decide) ?_
    exact m_iret (v := (-2)) hx hb hr hI (Or.inl ⟨b1, rfl, rfl⟩) dX6_restore_11 hlocks

set_option maxHeartbeats 4000000 in
set_option maxRecDepth 100000 in
theorem k_X6_put (l : Launch) (dd : va_G) (g : Nat → ClassId) (q : Nat → Nat) (A : Nat → Prop) (hA : mA A q) (M : MS) (x : Int64) (L : Nat) (hL : L ≤ 80) (hl7 : M 7 0 = nI L) : Met l yX6_put wsX6_put ({ frames := 1, cells := 0, slots := 0, locals := 22 }) (mPre dd g q M [.ref (q 0), .long x]) (mQi dd g q A (fun r M' => (putE x L ≠ 0 ∧ r = putE x L ∧ M' = M) ∨ (putE x L = 0 ∧ r = nI (L + manS x 8) ∧ M' = mset (mrow M 6 (putP (M 6) x L (manS x 8) (manS x 8))) 7 0 (nI (L + manS x 8))))) 0 0 A := by
  refine Met.ofW (cc := cX6_put) (maxL := 8) (ret := (some .int)) (by decide) rfl ?_
  intro p e s m args below meth c s₁ B hml hv
  obtain ⟨rfl, hP0, hK⟩ := hv
  have hx := B.exec
  have hb := B.bytes
  have hr := B.returns
  have hts := atoms_spec (ws := wsX6_put) B.pre
  have hown : s.vm.findClass RX6 = some m.cls := findClass_of_methodNamed B.named
  have hlocks := B.notSynchronized
  have hin : ∀ w ∈ wsX60, w ∈ wsX6_put := by decide +kernel
  have hI : mI dd g q A s.heap s.heap [] M := ⟨hP0, va_S.rf⟩
  have hl := lv_entry ([.ref (q 0), .long x]) (n := 8) (Nat.le_of_ble_eq_true rfl)
  rw [lg_entry_eq]
  generalize (lg_sl ([.ref (q 0), .long x]) ++ List.replicate (8 - (lg_sl ([.ref (q 0), .long x])).length) Slot.unset).toArray = ls at hl ⊢
  have hl : lv_has ls 8 [(0, .ref (q 0)), (1, .long x)] := hl
  refine lv_iconst (v := 0) hx hb dX6_put_0 (by decide) ?_
  refine lv_istore_n (lv' := [(3, .int 0), (0, .ref (q 0)), (1, .long x)]) hx hb dX6_put_1 rfl hl (by decide) rfl (fun ls hl => ?_)
  refine lv_iconst (v := 0) hx hb dX6_put_2 (by decide) ?_
  refine lv_istore (lv' := [(4, .int 0), (3, .int 0), (0, .ref (q 0)), (1, .long x)]) hx hb dX6_put_3 hl (by decide) rfl (fun ls hl => ?_)
  refine lv_iconst (v := 0) hx hb dX6_put_5 (by decide) ?_
  refine lv_istore (lv' := [(5, .int 0), (4, .int 0), (3, .int 0), (0, .ref (q 0)), (1, .long x)]) hx hb dX6_put_6 hl (by decide) rfl (fun ls hl => ?_)
  have L8 : ∀ (fuel : Nat) (k : Nat) (b : Bool) (h1 : k ≤ 8) (h2 : 8 < fuel + k) (hb2 : badS x k = b) (H : Heap) (locs : List Loc) (ls : Array Slot), mI dd g q A s.heap H locs M → lv_has ls 8 [(5, .int (nI k)), (4, .int (if b then 1 else 0)), (3, .int (nI (manS x k))), (0, .ref (q 0)), (1, .long x)] → wk p l e wsX6_put { frames := 1, cells := 0, slots := 0, locals := 22 } s m [.ref (q 0), .long x] below meth c H locs (mQi dd g q A (fun r M' => (putE x L ≠ 0 ∧ r = putE x L ∧ M' = M) ∨ (putE x L = 0 ∧ r = nI (L + manS x 8) ∧ M' = mset (mrow M 6 (putP (M 6) x L (manS x 8) (manS x 8))) 7 0 (nI (L + manS x 8))))) (A) (F0 m 8 ls []) := by
    intro fuel
    induction fuel with
    | zero =>
      intro k b h1 h2 hb2 H locs ls hI hl
      exact absurd h2 (by omega)
    | succ fuel ih =>
      intro k b h1 h2 hb2 H locs ls hI hl
      have hm8 := manS_le x k
      rcases b with _ | _
      · have hl : lv_has ls 8 [(5, .int (nI k)), (4, .int 0), (3, .int (nI (manS x k))), (0, .ref (q 0)), (1, .long x)] := hl
        refine lv_iload hx hb dX6_put_8 (lv_at hl 0 rfl) ?_
        refine lv_bipush (v := 8) hx hb dX6_put_10 (by decide) ?_
        refine lv_icmp_ge (tgt := 101) hx hb dX6_put_12 (by decide) (fun c1 => ?_) (fun c1 => ?_)
        · skip
          have nc1 : 8 ≤ k := (nI_leI (a := 8) (b := k) (by omega) (by omega)).mp c1
          have ek : k = 8 := by omega
          refine lv_iload hx hb dX6_put_101 (lv_at hl 1 rfl) ?_
          refine lv_if_eq (tgt := 109) hx hb dX6_put_103 (by decide) (fun _ => ?_) (fun c2 => absurd (by decide) c2)
          refine lv_aload_n hx hb dX6_put_109 rfl (lv_at hl 3 rfl) ?_
          refine m_get hx hb hts hin hown hK hI 7 (by decide) (hts (.fieldLink RX6 127 "WinderLaddersModel" "length" "I") (by decide +kernel)) (v := .int (nI L)) (congrArg (fun z => some (Value.int z)) hl7) dX6_put_110 ?_
          refine lv_iload_n hx hb dX6_put_113 rfl (lv_at hl 2 rfl) ?_
          refine lv_iadd hx hb dX6_put_114 ?_
          refine lv_re (y := nI (L + (manS x k))) (nI_add (L) (manS x k)) ?_
          refine lv_bipush (v := 80) hx hb dX6_put_115 (by decide) ?_
          refine lv_icmp_le (tgt := 123) hx hb dX6_put_117 (by decide) (fun c3 => ?_) (fun c3 => ?_)
          · skip
            have nc3 : L + (manS x k) ≤ 80 := (nI_leI (a := L + (manS x k)) (b := 80) (by omega) (by omega)).mp c3
            refine lv_iconst (v := 0) hx hb dX6_put_123 (by decide) ?_
            refine lv_istore (lv' := [(5, .int 0), (4, .int 0), (3, .int (nI (manS x k))), (0, .ref (q 0)), (1, .long x)]) hx hb dX6_put_124 hl (by decide) rfl (fun ls hl => ?_)
            have L126 : ∀ (fuel2 : Nat) (k2 : Nat) (g1 : k2 ≤ manS x k) (g2 : manS x k < fuel2 + k2) (H : Heap) (locs : List Loc) (ls : Array Slot), mI dd g q A s.heap H locs (mrow M 6 (putP (M 6) x L (manS x k) k2)) → lv_has ls 8 [(5, .int (nI k2)), (3, .int (nI (manS x k))), (0, .ref (q 0)), (1, .long x)] → wk p l e wsX6_put { frames := 1, cells := 0, slots := 0, locals := 22 } s m [.ref (q 0), .long x] below meth c H locs (mQi dd g q A (fun r M' => (putE x L ≠ 0 ∧ r = putE x L ∧ M' = M) ∨ (putE x L = 0 ∧ r = nI (L + manS x 8) ∧ M' = mset (mrow M 6 (putP (M 6) x L (manS x 8) (manS x 8))) 7 0 (nI (L + manS x 8))))) (A) (F0 m 126 ls []) := by
              intro fuel2
              induction fuel2 with
              | zero =>
                intro k2 g1 g2 H locs ls hI hl
                exact absurd g2 (by omega)
              | succ fuel2 ih2 =>
                intro k2 g1 g2 H locs ls hI hl
                refine lv_iload hx hb dX6_put_126 (lv_at hl 0 rfl) ?_
                refine lv_iload_n hx hb dX6_put_128 rfl (lv_at hl 1 rfl) ?_
                refine lv_icmp_ge (tgt := 166) hx hb dX6_put_129 (by decide) (fun c4 => ?_) (fun c4 => ?_)
                · skip
                  have nc4 : manS x k ≤ k2 := (nI_leI (a := manS x k) (b := k2) (by omega) (by omega)).mp c4
                  refine lv_aload_n hx hb dX6_put_166 rfl (lv_at hl 2 rfl) ?_
                  refine lv_dup hx hb dX6_put_167 rfl ?_
                  refine m_get hx hb hts hin hown hK hI 7 (by decide) (hts (.fieldLink RX6 127 "WinderLaddersModel" "length" "I") (by decide +kernel)) (v := .int (nI L)) (congrArg (fun z => some (Value.int z)) ((by rw [mrow_n _ (by decide)]; exact hl7))) dX6_put_168 ?_
                  refine lv_iload_n hx hb dX6_put_171 rfl (lv_at hl 1 rfl) ?_
                  refine lv_iadd hx hb dX6_put_172 ?_
                  refine lv_re (y := nI (L + (manS x k))) (nI_add (L) (manS x k)) ?_
                  refine m_put hx hb hts hin hown hK hA hI 7 (by decide) (hts (.fieldLink RX6 127 "WinderLaddersModel" "length" "I") (by decide +kernel)) (fun h => absurd h (by decide)) dX6_put_173 (fun H locs hI => ?_)
                  refine lv_aload_n hx hb dX6_put_176 rfl (lv_at hl 2 rfl) ?_
                  refine m_get hx hb hts hin hown hK hI 7 (by decide) (hts (.fieldLink RX6 127 "WinderLaddersModel" "length" "I") (by decide +kernel)) (v := .int (nI (L + (manS x k)))) (congrArg (fun z => some (Value.int z)) (mset_eq _ _ _ _)) dX6_put_177 ?_
                  exact m_iret (v := nI (L + (manS x k))) hx hb hr hI (Or.inr ⟨by simp [putE, ← ek, hb2, c1, nc1, c3, nc3, c4, nc4], by rw [ek], by rw [show k2 = manS x k by omega, ek]⟩) dX6_put_180 hlocks
                · skip
                  have nc4 : ¬ (manS x k ≤ k2) := fun h => c4 ((nI_leI (a := manS x k) (b := k2) (by omega) (by omega)).mpr h)
                  refine lv_aload_n hx hb dX6_put_132 rfl (lv_at hl 2 rfl) ?_
                  refine m_get hx hb hts hin hown hK hI 6 (by decide) (hts (.fieldLink RX6 26 "WinderLaddersModel" "pad" "[I") (by decide +kernel)) (v := .ref (q 6)) rfl dX6_put_133 ?_
                  refine lv_aload_n hx hb dX6_put_136 rfl (lv_at hl 2 rfl) ?_
                  refine m_get hx hb hts hin hown hK hI 7 (by decide) (hts (.fieldLink RX6 127 "WinderLaddersModel" "length" "I") (by decide +kernel)) (v := .int (nI L)) (congrArg (fun z => some (Value.int z)) ((by rw [mrow_n _ (by decide)]; exact hl7))) dX6_put_137 ?_
                  refine lv_iload_n hx hb dX6_put_140 rfl (lv_at hl 1 rfl) ?_
                  refine lv_iadd hx hb dX6_put_141 ?_
                  refine lv_re (y := nI (L + (manS x k))) (nI_add (L) (manS x k)) ?_
                  refine lv_iconst (v := 1) hx hb dX6_put_142 (by decide) ?_
                  refine lv_isub hx hb dX6_put_143 ?_
                  refine lv_re (y := nI (L + manS x k - 1)) (pk_sub (a := L + manS x k) (b := 1) (by omega)) ?_
                  refine lv_iload hx hb dX6_put_144 (lv_at hl 0 rfl) ?_
                  refine lv_isub hx hb dX6_put_146 ?_
                  refine lv_re (y := nI (L + manS x k - 1 - k2)) (pk_sub (a := L + manS x k - 1) (b := k2) (by omega)) ?_
                  refine lv_lload_n hx hb dX6_put_147 rfl (lv_at hl 3 rfl) ?_
                  refine lv_bipush (v := 8) hx hb dX6_put_148 (by decide) ?_
                  refine lv_iload hx hb dX6_put_150 (lv_at hl 0 rfl) ?_
                  refine lv_imul hx hb dX6_put_152 ?_
                  refine lv_re (y := nI (8 * k2)) (pk_mul (8) (k2)) ?_
                  refine lv_lushr hx hb dX6_put_153 rfl ?_
                  refine lv_rel (y := shK x k2) (rfl) ?_
                  refine lv_ldc2 hx hb hown (hts (.constantLong RX6 136 (255)) (by decide +kernel)) dX6_put_154 ?_
                  refine lv_land hx hb dX6_put_157 ?_
                  refine lv_l2i hx hb dX6_put_158 rfl ?_
                  refine lv_re (y := chK x k2) (rfl) ?_
                  refine m_ast hx hb hK hA hI 6 (by decide) (L + manS x k - 1 - k2) (by show _ < 80; omega) rfl dX6_put_159 (fun H locs hI => ?_)
                  refine lv_iinc (v := nI (k2 + 1)) (lv' := [(5, .int (nI (k2 + 1))), (3, .int (nI (manS x k))), (0, .ref (q 0)), (1, .long x)]) hx hb dX6_put_160 hl (k := 0) rfl (by rw [show Int32.ofInt 1 = nI 1 from rfl, nI_add]) (by decide) rfl (fun ls hl => ?_)
                  refine lv_goto (tgt := 126) hx hb dX6_put_163 (by decide) ?_
                  exact ih2 (k2 + 1) (by omega) (by omega) _ _ _ (by rw [mset_mrow_s, putP_s _ _ _ _ _ (by omega)] at hI; exact hI) (lv_sub hl [0, 1, 2, 3] rfl)
            exact L126 9 0 (by omega) (by omega) _ _ _ (by rw [putP_0, mrow_self]; exact hI) (lv_sub hl [0, 2, 3, 4] rfl)
          · skip
            have nc3 : ¬ (L + (manS x k) ≤ 80) := fun h => c3 ((nI_leI (a := L + (manS x k)) (b := 80) (by omega) (by omega)).mpr h)
            refine lv_bipush (v := (-4)) hx hb dX6_put_120 (by decide) ?_
            exact m_iret (v := (-4)) hx hb hr hI (Or.inl ⟨by simp [putE, ← ek, hb2, c1, nc1, c3, nc3], by simp [putE, ← ek, hb2, c1, nc1, c3, nc3], rfl⟩) dX6_put_122 hlocks
        · skip
          have nc1 : ¬ (8 ≤ k) := fun h => c1 ((nI_leI (a := 8) (b := k) (by omega) (by omega)).mpr h)
          refine lv_lload_n hx hb dX6_put_15 rfl (lv_at hl 4 rfl) ?_
          refine lv_bipush (v := 8) hx hb dX6_put_16 (by decide) ?_
          refine lv_iload hx hb dX6_put_18 (lv_at hl 0 rfl) ?_
          refine lv_imul hx hb dX6_put_20 ?_
          refine lv_re (y := nI (8 * k)) (pk_mul (8) (k)) ?_
          refine lv_lushr hx hb dX6_put_21 rfl ?_
          refine lv_rel (y := shK x k) (rfl) ?_
          refine lv_ldc2 hx hb hown (hts (.constantLong RX6 136 (255)) (by decide +kernel)) dX6_put_22 ?_
          refine lv_land hx hb dX6_put_25 ?_
          refine lv_l2i hx hb dX6_put_26 rfl ?_
          refine lv_re (y := chK x k) (rfl) ?_
          refine lv_istore (lv' := [(6, .int (chK x k)), (5, .int (nI k)), (4, .int 0), (3, .int (nI (manS x k))), (0, .ref (q 0)), (1, .long x)]) hx hb dX6_put_27 hl (by decide) rfl (fun ls hl => ?_)
          refine lv_iload hx hb dX6_put_29 (lv_at hl 1 rfl) ?_
          refine lv_if_le (tgt := 50) hx hb dX6_put_31 (by decide) (fun c5 => ?_) (fun c5 => ?_)
          · skip
            have nc5 : k ≤ 0 := (nI_leI (a := k) (b := 0) (by omega) (by omega)).mp c5
            refine lv_iconst (v := 0) hx hb dX6_put_50 (by decide) ?_
            refine lv_istore (lv' := [(7, .int 0), (6, .int (chK x k)), (5, .int (nI k)), (4, .int 0), (3, .int (nI (manS x k))), (0, .ref (q 0)), (1, .long x)]) hx hb dX6_put_51 hl (by decide) rfl (fun ls hl => ?_)
            refine lv_iload hx hb dX6_put_53 (lv_at hl 3 rfl) ?_
            refine lv_if_ne (tgt := 75) hx hb dX6_put_55 (by decide) (fun c6 => absurd (by decide) c6) (fun _ => ?_)
            refine lv_iload hx hb dX6_put_58 (lv_at hl 0 rfl) ?_
            refine lv_if_ne (tgt := 79) hx hb dX6_put_60 (by decide) (fun c7 => absurd (by decide) c7) (fun _ => ?_)
            refine lv_iload hx hb dX6_put_63 (lv_at hl 1 rfl) ?_
            refine lv_bipush (v := 33) hx hb dX6_put_65 (by decide) ?_
            refine lv_bipush (v := 126) hx hb dX6_put_67 (by decide) ?_
            refine m_calls (As := [.int (chK x k), .int 33, .int 126]) (rest := []) hx hb hml hown hts hI (k_X6_in l (chK x k) 33 126) (va_cwS 3 hts gX6_put_X6_in rfl rfl rfl (by decide +kernel) ⟨Nat.le_of_ble_eq_true rfl, Nat.le_of_ble_eq_true rfl⟩) rfl hl (Nat.le_of_ble_eq_true rfl) ⟨Nat.zero_le _, Nat.zero_le _⟩ dX6_put_69 rfl (fun r H locs h9 hI => ?_)
            rcases h9 with ⟨b8, rfl⟩ | ⟨b8, rfl⟩
            · skip
              refine lv_if_ne (tgt := 79) hx hb dX6_put_72 (by decide) (fun _ => ?_) (fun c10 => absurd c10 (by decide))
              refine lv_iconst (v := 0) hx hb dX6_put_79 (by decide) ?_
              refine lv_istore (lv' := [(4, .int 0), (7, .int 0), (6, .int (chK x k)), (5, .int (nI k)), (3, .int (nI (manS x k))), (0, .ref (q 0)), (1, .long x)]) hx hb dX6_put_80 hl (by decide) rfl (fun ls hl => ?_)
              refine lv_iload_n hx hb dX6_put_82 rfl (lv_at hl 4 rfl) ?_
              refine lv_iload hx hb dX6_put_83 (lv_at hl 1 rfl) ?_
              refine lv_if_eq (tgt := 92) hx hb dX6_put_85 (by decide) (fun _ => ?_) (fun c11 => absurd (by decide) c11)
              refine lv_iconst (v := 1) hx hb dX6_put_92 (by decide) ?_
              refine lv_iadd hx hb dX6_put_93 ?_
              refine lv_re (y := nI (manS x k + 1)) (nI_add (manS x k) (1)) ?_
              refine lv_istore_n (lv' := [(3, .int (nI (manS x k + 1))), (4, .int 0), (7, .int 0), (6, .int (chK x k)), (5, .int (nI k)), (0, .ref (q 0)), (1, .long x)]) hx hb dX6_put_94 rfl hl (by decide) rfl (fun ls hl => ?_)
              refine lv_iinc (v := nI (k + 1)) (lv' := [(5, .int (nI (k + 1))), (3, .int (nI (manS x k + 1))), (4, .int 0), (7, .int 0), (6, .int (chK x k)), (0, .ref (q 0)), (1, .long x)]) hx hb dX6_put_95 hl (k := 4) rfl (by rw [show Int32.ofInt 1 = nI 1 from rfl, nI_add]) (by decide) rfl (fun ls hl => ?_)
              refine lv_goto (tgt := 8) hx hb dX6_put_98 (by decide) ?_
              exact ih (k + 1) false (by omega) (by omega) (by simp [badS, hb2, enK, c1, nc1, c5, nc5, b8]) _ _ _ hI (by rw [show manS x (k + 1) = manS x k + 1 by simp [manS, enK, c1, nc1, c5, nc5, b8]]; exact (lv_sub hl [0, 2, 1, 5, 6] rfl))
            · skip
              refine lv_if_ne (tgt := 79) hx hb dX6_put_72 (by decide) (fun c12 => absurd (by decide) c12) (fun _ => ?_)
              refine lv_iconst (v := 1) hx hb dX6_put_75 (by decide) ?_
              refine lv_goto (tgt := 80) hx hb dX6_put_76 (by decide) ?_
              refine lv_istore (lv' := [(4, .int 1), (7, .int 0), (6, .int (chK x k)), (5, .int (nI k)), (3, .int (nI (manS x k))), (0, .ref (q 0)), (1, .long x)]) hx hb dX6_put_80 hl (by decide) rfl (fun ls hl => ?_)
              refine lv_iload_n hx hb dX6_put_82 rfl (lv_at hl 4 rfl) ?_
              refine lv_iload hx hb dX6_put_83 (lv_at hl 1 rfl) ?_
              refine lv_if_eq (tgt := 92) hx hb dX6_put_85 (by decide) (fun _ => ?_) (fun c13 => absurd (by decide) c13)
              refine lv_iconst (v := 1) hx hb dX6_put_92 (by decide) ?_
              refine lv_iadd hx hb dX6_put_93 ?_
              refine lv_re (y := nI (manS x k + 1)) (nI_add (manS x k) (1)) ?_
              refine lv_istore_n (lv' := [(3, .int (nI (manS x k + 1))), (4, .int 1), (7, .int 0), (6, .int (chK x k)), (5, .int (nI k)), (0, .ref (q 0)), (1, .long x)]) hx hb dX6_put_94 rfl hl (by decide) rfl (fun ls hl => ?_)
              refine lv_iinc (v := nI (k + 1)) (lv' := [(5, .int (nI (k + 1))), (3, .int (nI (manS x k + 1))), (4, .int 1), (7, .int 0), (6, .int (chK x k)), (0, .ref (q 0)), (1, .long x)]) hx hb dX6_put_95 hl (k := 4) rfl (by rw [show Int32.ofInt 1 = nI 1 from rfl, nI_add]) (by decide) rfl (fun ls hl => ?_)
              refine lv_goto (tgt := 8) hx hb dX6_put_98 (by decide) ?_
              exact ih (k + 1) true (by omega) (by omega) (by simp [badS, hb2, enK, c1, nc1, c5, nc5, b8]) _ _ _ hI (by rw [show manS x (k + 1) = manS x k + 1 by simp [manS, enK, c1, nc1, c5, nc5, b8]]; exact (lv_sub hl [0, 2, 1, 5, 6] rfl))
          · skip
            have nc5 : ¬ (k ≤ 0) := fun h => c5 ((nI_leI (a := k) (b := 0) (by omega) (by omega)).mpr h)
            refine lv_lload_n hx hb dX6_put_34 rfl (lv_at hl 5 rfl) ?_
            refine lv_bipush (v := 8) hx hb dX6_put_35 (by decide) ?_
            refine lv_iload hx hb dX6_put_37 (lv_at hl 1 rfl) ?_
            refine lv_imul hx hb dX6_put_39 ?_
            refine lv_re (y := nI (8 * k)) (pk_mul (8) (k)) ?_
            refine lv_lushr hx hb dX6_put_40 rfl ?_
            refine lv_rel (y := shK x k) (rfl) ?_
            refine lv_lconst (v := 0) hx hb dX6_put_41 (by decide) ?_
            refine W.lcmp hx hb dX6_put_42 ?_
            refine lv_if_ne (tgt := 50) hx hb dX6_put_43 (by decide) (fun c14 => ?_) (fun c14 => ?_)
            · skip
              refine lv_iconst (v := 0) hx hb dX6_put_50 (by decide) ?_
              refine lv_istore (lv' := [(7, .int 0), (6, .int (chK x k)), (5, .int (nI k)), (4, .int 0), (3, .int (nI (manS x k))), (0, .ref (q 0)), (1, .long x)]) hx hb dX6_put_51 hl (by decide) rfl (fun ls hl => ?_)
              refine lv_iload hx hb dX6_put_53 (lv_at hl 3 rfl) ?_
              refine lv_if_ne (tgt := 75) hx hb dX6_put_55 (by decide) (fun c15 => absurd (by decide) c15) (fun _ => ?_)
              refine lv_iload hx hb dX6_put_58 (lv_at hl 0 rfl) ?_
              refine lv_if_ne (tgt := 79) hx hb dX6_put_60 (by decide) (fun c16 => absurd (by decide) c16) (fun _ => ?_)
              refine lv_iload hx hb dX6_put_63 (lv_at hl 1 rfl) ?_
              refine lv_bipush (v := 33) hx hb dX6_put_65 (by decide) ?_
              refine lv_bipush (v := 126) hx hb dX6_put_67 (by decide) ?_
              refine m_calls (As := [.int (chK x k), .int 33, .int 126]) (rest := []) hx hb hml hown hts hI (k_X6_in l (chK x k) 33 126) (va_cwS 3 hts gX6_put_X6_in rfl rfl rfl (by decide +kernel) ⟨Nat.le_of_ble_eq_true rfl, Nat.le_of_ble_eq_true rfl⟩) rfl hl (Nat.le_of_ble_eq_true rfl) ⟨Nat.zero_le _, Nat.zero_le _⟩ dX6_put_69 rfl (fun r H locs h18 hI => ?_)
              rcases h18 with ⟨b17, rfl⟩ | ⟨b17, rfl⟩
              · skip
                refine lv_if_ne (tgt := 79) hx hb dX6_put_72 (by decide) (fun _ => ?_) (fun c19 => absurd c19 (by decide))
                refine lv_iconst (v := 0) hx hb dX6_put_79 (by decide) ?_
                refine lv_istore (lv' := [(4, .int 0), (7, .int 0), (6, .int (chK x k)), (5, .int (nI k)), (3, .int (nI (manS x k))), (0, .ref (q 0)), (1, .long x)]) hx hb dX6_put_80 hl (by decide) rfl (fun ls hl => ?_)
                refine lv_iload_n hx hb dX6_put_82 rfl (lv_at hl 4 rfl) ?_
                refine lv_iload hx hb dX6_put_83 (lv_at hl 1 rfl) ?_
                refine lv_if_eq (tgt := 92) hx hb dX6_put_85 (by decide) (fun _ => ?_) (fun c20 => absurd (by decide) c20)
                refine lv_iconst (v := 1) hx hb dX6_put_92 (by decide) ?_
                refine lv_iadd hx hb dX6_put_93 ?_
                refine lv_re (y := nI (manS x k + 1)) (nI_add (manS x k) (1)) ?_
                refine lv_istore_n (lv' := [(3, .int (nI (manS x k + 1))), (4, .int 0), (7, .int 0), (6, .int (chK x k)), (5, .int (nI k)), (0, .ref (q 0)), (1, .long x)]) hx hb dX6_put_94 rfl hl (by decide) rfl (fun ls hl => ?_)
                refine lv_iinc (v := nI (k + 1)) (lv' := [(5, .int (nI (k + 1))), (3, .int (nI (manS x k + 1))), (4, .int 0), (7, .int 0), (6, .int (chK x k)), (0, .ref (q 0)), (1, .long x)]) hx hb dX6_put_95 hl (k := 4) rfl (by rw [show Int32.ofInt 1 = nI 1 from rfl, nI_add]) (by decide) rfl (fun ls hl => ?_)
                refine lv_goto (tgt := 8) hx hb dX6_put_98 (by decide) ?_
                exact ih (k + 1) false (by omega) (by omega) (by simp [badS, hb2, enK, c1, nc1, c5, nc5, c14, b17]) _ _ _ hI (by rw [show manS x (k + 1) = manS x k + 1 by simp [manS, enK, c1, nc1, c5, nc5, c14, b17]]; exact (lv_sub hl [0, 2, 1, 5, 6] rfl))
              · skip
                refine lv_if_ne (tgt := 79) hx hb dX6_put_72 (by decide) (fun c21 => absurd (by decide) c21) (fun _ => ?_)
                refine lv_iconst (v := 1) hx hb dX6_put_75 (by decide) ?_
                refine lv_goto (tgt := 80) hx hb dX6_put_76 (by decide) ?_
                refine lv_istore (lv' := [(4, .int 1), (7, .int 0), (6, .int (chK x k)), (5, .int (nI k)), (3, .int (nI (manS x k))), (0, .ref (q 0)), (1, .long x)]) hx hb dX6_put_80 hl (by decide) rfl (fun ls hl => ?_)
                refine lv_iload_n hx hb dX6_put_82 rfl (lv_at hl 4 rfl) ?_
                refine lv_iload hx hb dX6_put_83 (lv_at hl 1 rfl) ?_
                refine lv_if_eq (tgt := 92) hx hb dX6_put_85 (by decide) (fun _ => ?_) (fun c22 => absurd (by decide) c22)
                refine lv_iconst (v := 1) hx hb dX6_put_92 (by decide) ?_
                refine lv_iadd hx hb dX6_put_93 ?_
                refine lv_re (y := nI (manS x k + 1)) (nI_add (manS x k) (1)) ?_
                refine lv_istore_n (lv' := [(3, .int (nI (manS x k + 1))), (4, .int 1), (7, .int 0), (6, .int (chK x k)), (5, .int (nI k)), (0, .ref (q 0)), (1, .long x)]) hx hb dX6_put_94 rfl hl (by decide) rfl (fun ls hl => ?_)
                refine lv_iinc (v := nI (k + 1)) (lv' := [(5, .int (nI (k + 1))), (3, .int (nI (manS x k + 1))), (4, .int 1), (7, .int 0), (6, .int (chK x k)), (0, .ref (q 0)), (1, .long x)]) hx hb dX6_put_95 hl (k := 4) rfl (by rw [show Int32.ofInt 1 = nI 1 from rfl, nI_add]) (by decide) rfl (fun ls hl => ?_)
                refine lv_goto (tgt := 8) hx hb dX6_put_98 (by decide) ?_
                exact ih (k + 1) true (by omega) (by omega) (by simp [badS, hb2, enK, c1, nc1, c5, nc5, c14, b17]) _ _ _ hI (by rw [show manS x (k + 1) = manS x k + 1 by simp [manS, enK, c1, nc1, c5, nc5, c14, b17]]; exact (lv_sub hl [0, 2, 1, 5, 6] rfl))
            · skip
              refine lv_iconst (v := 1) hx hb dX6_put_46 (by decide) ?_
              refine lv_goto (tgt := 51) hx hb dX6_put_47 (by decide) ?_
              refine lv_istore (lv' := [(7, .int 1), (6, .int (chK x k)), (5, .int (nI k)), (4, .int 0), (3, .int (nI (manS x k))), (0, .ref (q 0)), (1, .long x)]) hx hb dX6_put_51 hl (by decide) rfl (fun ls hl => ?_)
              refine lv_iload hx hb dX6_put_53 (lv_at hl 3 rfl) ?_
              refine lv_if_ne (tgt := 75) hx hb dX6_put_55 (by decide) (fun c23 => absurd (by decide) c23) (fun _ => ?_)
              refine lv_iload hx hb dX6_put_58 (lv_at hl 0 rfl) ?_
              refine lv_if_ne (tgt := 79) hx hb dX6_put_60 (by decide) (fun _ => ?_) (fun c24 => absurd c24 (by decide))
              refine lv_iconst (v := 0) hx hb dX6_put_79 (by decide) ?_
              refine lv_istore (lv' := [(4, .int 0), (7, .int 1), (6, .int (chK x k)), (5, .int (nI k)), (3, .int (nI (manS x k))), (0, .ref (q 0)), (1, .long x)]) hx hb dX6_put_80 hl (by decide) rfl (fun ls hl => ?_)
              refine lv_iload_n hx hb dX6_put_82 rfl (lv_at hl 4 rfl) ?_
              refine lv_iload hx hb dX6_put_83 (lv_at hl 1 rfl) ?_
              refine lv_if_eq (tgt := 92) hx hb dX6_put_85 (by decide) (fun c25 => absurd c25 (by decide)) (fun _ => ?_)
              refine lv_iconst (v := 0) hx hb dX6_put_88 (by decide) ?_
              refine lv_goto (tgt := 93) hx hb dX6_put_89 (by decide) ?_
              refine lv_iadd hx hb dX6_put_93 ?_
              refine lv_re (y := nI (manS x k + 0)) (nI_add (manS x k) (0)) ?_
              refine lv_istore_n (lv' := [(3, .int (nI (manS x k + 0))), (4, .int 0), (7, .int 1), (6, .int (chK x k)), (5, .int (nI k)), (0, .ref (q 0)), (1, .long x)]) hx hb dX6_put_94 rfl hl (by decide) rfl (fun ls hl => ?_)
              refine lv_iinc (v := nI (k + 1)) (lv' := [(5, .int (nI (k + 1))), (3, .int (nI (manS x k + 0))), (4, .int 0), (7, .int 1), (6, .int (chK x k)), (0, .ref (q 0)), (1, .long x)]) hx hb dX6_put_95 hl (k := 4) rfl (by rw [show Int32.ofInt 1 = nI 1 from rfl, nI_add]) (by decide) rfl (fun ls hl => ?_)
              refine lv_goto (tgt := 8) hx hb dX6_put_98 (by decide) ?_
              exact ih (k + 1) false (by omega) (by omega) (by simp [badS, hb2, enK, c1, nc1, c5, nc5, c14]) _ _ _ hI (by rw [show manS x (k + 1) = manS x k + 0 by simp [manS, enK, c1, nc1, c5, nc5, c14]]; exact (lv_sub hl [0, 2, 1, 5, 6] rfl))
      · have hl : lv_has ls 8 [(5, .int (nI k)), (4, .int 1), (3, .int (nI (manS x k))), (0, .ref (q 0)), (1, .long x)] := hl
        refine lv_iload hx hb dX6_put_8 (lv_at hl 0 rfl) ?_
        refine lv_bipush (v := 8) hx hb dX6_put_10 (by decide) ?_
        refine lv_icmp_ge (tgt := 101) hx hb dX6_put_12 (by decide) (fun c26 => ?_) (fun c26 => ?_)
        · skip
          have nc26 : 8 ≤ k := (nI_leI (a := 8) (b := k) (by omega) (by omega)).mp c26
          have ek : k = 8 := by omega
          refine lv_iload hx hb dX6_put_101 (lv_at hl 1 rfl) ?_
          refine lv_if_eq (tgt := 109) hx hb dX6_put_103 (by decide) (fun c27 => absurd c27 (by decide)) (fun _ => ?_)
          refine lv_bipush (v := (-2)) hx hb dX6_put_106 (by decide) ?_
          exact m_iret (v := (-2)) hx hb hr hI (Or.inl ⟨by simp [putE, ← ek, hb2, c26, nc26], by simp [putE, ← ek, hb2, c26, nc26], rfl⟩) dX6_put_108 hlocks
        · skip
          have nc26 : ¬ (8 ≤ k) := fun h => c26 ((nI_leI (a := 8) (b := k) (by omega) (by omega)).mpr h)
          refine lv_lload_n hx hb dX6_put_15 rfl (lv_at hl 4 rfl) ?_
          refine lv_bipush (v := 8) hx hb dX6_put_16 (by decide) ?_
          refine lv_iload hx hb dX6_put_18 (lv_at hl 0 rfl) ?_
          refine lv_imul hx hb dX6_put_20 ?_
          refine lv_re (y := nI (8 * k)) (pk_mul (8) (k)) ?_
          refine lv_lushr hx hb dX6_put_21 rfl ?_
          refine lv_rel (y := shK x k) (rfl) ?_
          refine lv_ldc2 hx hb hown (hts (.constantLong RX6 136 (255)) (by decide +kernel)) dX6_put_22 ?_
          refine lv_land hx hb dX6_put_25 ?_
          refine lv_l2i hx hb dX6_put_26 rfl ?_
          refine lv_re (y := chK x k) (rfl) ?_
          refine lv_istore (lv' := [(6, .int (chK x k)), (5, .int (nI k)), (4, .int 1), (3, .int (nI (manS x k))), (0, .ref (q 0)), (1, .long x)]) hx hb dX6_put_27 hl (by decide) rfl (fun ls hl => ?_)
          refine lv_iload hx hb dX6_put_29 (lv_at hl 1 rfl) ?_
          refine lv_if_le (tgt := 50) hx hb dX6_put_31 (by decide) (fun c28 => ?_) (fun c28 => ?_)
          · skip
            have nc28 : k ≤ 0 := (nI_leI (a := k) (b := 0) (by omega) (by omega)).mp c28
            refine lv_iconst (v := 0) hx hb dX6_put_50 (by decide) ?_
            refine lv_istore (lv' := [(7, .int 0), (6, .int (chK x k)), (5, .int (nI k)), (4, .int 1), (3, .int (nI (manS x k))), (0, .ref (q 0)), (1, .long x)]) hx hb dX6_put_51 hl (by decide) rfl (fun ls hl => ?_)
            refine lv_iload hx hb dX6_put_53 (lv_at hl 3 rfl) ?_
            refine lv_if_ne (tgt := 75) hx hb dX6_put_55 (by decide) (fun _ => ?_) (fun c29 => absurd c29 (by decide))
            refine lv_iconst (v := 1) hx hb dX6_put_75 (by decide) ?_
            refine lv_goto (tgt := 80) hx hb dX6_put_76 (by decide) ?_
            refine lv_istore (lv' := [(4, .int 1), (7, .int 0), (6, .int (chK x k)), (5, .int (nI k)), (3, .int (nI (manS x k))), (0, .ref (q 0)), (1, .long x)]) hx hb dX6_put_80 hl (by decide) rfl (fun ls hl => ?_)
            refine lv_iload_n hx hb dX6_put_82 rfl (lv_at hl 4 rfl) ?_
            refine lv_iload hx hb dX6_put_83 (lv_at hl 1 rfl) ?_
            refine lv_if_eq (tgt := 92) hx hb dX6_put_85 (by decide) (fun _ => ?_) (fun c30 => absurd (by decide) c30)
            refine lv_iconst (v := 1) hx hb dX6_put_92 (by decide) ?_
            refine lv_iadd hx hb dX6_put_93 ?_
            refine lv_re (y := nI (manS x k + 1)) (nI_add (manS x k) (1)) ?_
            refine lv_istore_n (lv' := [(3, .int (nI (manS x k + 1))), (4, .int 1), (7, .int 0), (6, .int (chK x k)), (5, .int (nI k)), (0, .ref (q 0)), (1, .long x)]) hx hb dX6_put_94 rfl hl (by decide) rfl (fun ls hl => ?_)
            refine lv_iinc (v := nI (k + 1)) (lv' := [(5, .int (nI (k + 1))), (3, .int (nI (manS x k + 1))), (4, .int 1), (7, .int 0), (6, .int (chK x k)), (0, .ref (q 0)), (1, .long x)]) hx hb dX6_put_95 hl (k := 4) rfl (by rw [show Int32.ofInt 1 = nI 1 from rfl, nI_add]) (by decide) rfl (fun ls hl => ?_)
            refine lv_goto (tgt := 8) hx hb dX6_put_98 (by decide) ?_
            exact ih (k + 1) true (by omega) (by omega) (by simp [badS, hb2, enK, c26, nc26, c28, nc28]) _ _ _ hI (by rw [show manS x (k + 1) = manS x k + 1 by simp [manS, enK, c26, nc26, c28, nc28]]; exact (lv_sub hl [0, 2, 1, 5, 6] rfl))
          · skip
            have nc28 : ¬ (k ≤ 0) := fun h => c28 ((nI_leI (a := k) (b := 0) (by omega) (by omega)).mpr h)
            refine lv_lload_n hx hb dX6_put_34 rfl (lv_at hl 5 rfl) ?_
            refine lv_bipush (v := 8) hx hb dX6_put_35 (by decide) ?_
            refine lv_iload hx hb dX6_put_37 (lv_at hl 1 rfl) ?_
            refine lv_imul hx hb dX6_put_39 ?_
            refine lv_re (y := nI (8 * k)) (pk_mul (8) (k)) ?_
            refine lv_lushr hx hb dX6_put_40 rfl ?_
            refine lv_rel (y := shK x k) (rfl) ?_
            refine lv_lconst (v := 0) hx hb dX6_put_41 (by decide) ?_
            refine W.lcmp hx hb dX6_put_42 ?_
            refine lv_if_ne (tgt := 50) hx hb dX6_put_43 (by decide) (fun c31 => ?_) (fun c31 => ?_)
            · skip
              refine lv_iconst (v := 0) hx hb dX6_put_50 (by decide) ?_
              refine lv_istore (lv' := [(7, .int 0), (6, .int (chK x k)), (5, .int (nI k)), (4, .int 1), (3, .int (nI (manS x k))), (0, .ref (q 0)), (1, .long x)]) hx hb dX6_put_51 hl (by decide) rfl (fun ls hl => ?_)
              refine lv_iload hx hb dX6_put_53 (lv_at hl 3 rfl) ?_
              refine lv_if_ne (tgt := 75) hx hb dX6_put_55 (by decide) (fun _ => ?_) (fun c32 => absurd c32 (by decide))
              refine lv_iconst (v := 1) hx hb dX6_put_75 (by decide) ?_
              refine lv_goto (tgt := 80) hx hb dX6_put_76 (by decide) ?_
              refine lv_istore (lv' := [(4, .int 1), (7, .int 0), (6, .int (chK x k)), (5, .int (nI k)), (3, .int (nI (manS x k))), (0, .ref (q 0)), (1, .long x)]) hx hb dX6_put_80 hl (by decide) rfl (fun ls hl => ?_)
              refine lv_iload_n hx hb dX6_put_82 rfl (lv_at hl 4 rfl) ?_
              refine lv_iload hx hb dX6_put_83 (lv_at hl 1 rfl) ?_
              refine lv_if_eq (tgt := 92) hx hb dX6_put_85 (by decide) (fun _ => ?_) (fun c33 => absurd (by decide) c33)
              refine lv_iconst (v := 1) hx hb dX6_put_92 (by decide) ?_
              refine lv_iadd hx hb dX6_put_93 ?_
              refine lv_re (y := nI (manS x k + 1)) (nI_add (manS x k) (1)) ?_
              refine lv_istore_n (lv' := [(3, .int (nI (manS x k + 1))), (4, .int 1), (7, .int 0), (6, .int (chK x k)), (5, .int (nI k)), (0, .ref (q 0)), (1, .long x)]) hx hb dX6_put_94 rfl hl (by decide) rfl (fun ls hl => ?_)
              refine lv_iinc (v := nI (k + 1)) (lv' := [(5, .int (nI (k + 1))), (3, .int (nI (manS x k + 1))), (4, .int 1), (7, .int 0), (6, .int (chK x k)), (0, .ref (q 0)), (1, .long x)]) hx hb dX6_put_95 hl (k := 4) rfl (by rw [show Int32.ofInt 1 = nI 1 from rfl, nI_add]) (by decide) rfl (fun ls hl => ?_)
              refine lv_goto (tgt := 8) hx hb dX6_put_98 (by decide) ?_
              exact ih (k + 1) true (by omega) (by omega) (by simp [badS, hb2, enK, c26, nc26, c28, nc28, c31]) _ _ _ hI (by rw [show manS x (k + 1) = manS x k + 1 by simp [manS, enK, c26, nc26, c28, nc28, c31]]; exact (lv_sub hl [0, 2, 1, 5, 6] rfl))
            · skip
              refine lv_iconst (v := 1) hx hb dX6_put_46 (by decide) ?_
              refine lv_goto (tgt := 51) hx hb dX6_put_47 (by decide) ?_
              refine lv_istore (lv' := [(7, .int 1), (6, .int (chK x k)), (5, .int (nI k)), (4, .int 1), (3, .int (nI (manS x k))), (0, .ref (q 0)), (1, .long x)]) hx hb dX6_put_51 hl (by decide) rfl (fun ls hl => ?_)
              refine lv_iload hx hb dX6_put_53 (lv_at hl 3 rfl) ?_
              refine lv_if_ne (tgt := 75) hx hb dX6_put_55 (by decide) (fun _ => ?_) (fun c34 => absurd c34 (by decide))
              refine lv_iconst (v := 1) hx hb dX6_put_75 (by decide) ?_
              refine lv_goto (tgt := 80) hx hb dX6_put_76 (by decide) ?_
              refine lv_istore (lv' := [(4, .int 1), (7, .int 1), (6, .int (chK x k)), (5, .int (nI k)), (3, .int (nI (manS x k))), (0, .ref (q 0)), (1, .long x)]) hx hb dX6_put_80 hl (by decide) rfl (fun ls hl => ?_)
              refine lv_iload_n hx hb dX6_put_82 rfl (lv_at hl 4 rfl) ?_
              refine lv_iload hx hb dX6_put_83 (lv_at hl 1 rfl) ?_
              refine lv_if_eq (tgt := 92) hx hb dX6_put_85 (by decide) (fun c35 => absurd c35 (by decide)) (fun _ => ?_)
              refine lv_iconst (v := 0) hx hb dX6_put_88 (by decide) ?_
              refine lv_goto (tgt := 93) hx hb dX6_put_89 (by decide) ?_
              refine lv_iadd hx hb dX6_put_93 ?_
              refine lv_re (y := nI (manS x k + 0)) (nI_add (manS x k) (0)) ?_
              refine lv_istore_n (lv' := [(3, .int (nI (manS x k + 0))), (4, .int 1), (7, .int 1), (6, .int (chK x k)), (5, .int (nI k)), (0, .ref (q 0)), (1, .long x)]) hx hb dX6_put_94 rfl hl (by decide) rfl (fun ls hl => ?_)
              refine lv_iinc (v := nI (k + 1)) (lv' := [(5, .int (nI (k + 1))), (3, .int (nI (manS x k + 0))), (4, .int 1), (7, .int 1), (6, .int (chK x k)), (0, .ref (q 0)), (1, .long x)]) hx hb dX6_put_95 hl (k := 4) rfl (by rw [show Int32.ofInt 1 = nI 1 from rfl, nI_add]) (by decide) rfl (fun ls hl => ?_)
              refine lv_goto (tgt := 8) hx hb dX6_put_98 (by decide) ?_
              exact ih (k + 1) true (by omega) (by omega) (by simp [badS, hb2, enK, c26, nc26, c28, nc28, c31]) _ _ _ hI (by rw [show manS x (k + 1) = manS x k + 0 by simp [manS, enK, c26, nc26, c28, nc28, c31]]; exact (lv_sub hl [0, 2, 1, 5, 6] rfl))
  exact L8 9 0 false (by omega) (by omega) rfl _ _ _ hI (lv_sub hl [0, 1, 2, 3, 4] rfl)
