set_option maxHeartbeats 4000000 in
set_option maxRecDepth 100000 in
theorem k_X6_layOut0 (l : Launch) (dd : va_G) (g : Nat → ClassId) (q : Nat → Nat) (A : Nat → Prop) (hA : mA A q) (M : MS) (x : Int32) (hW : Wk (M 0)) : Met l yX6_layOut wsX6_layOut ({ frames := 0, cells := 0, slots := 0, locals := 0 }) (mPre dd g q M [.ref (q 0), .int x, .int 0]) (mQi dd g q A (fun r M' => r = loR x (loL (cn (M 0)) x false (M 8) (cn (M 0))) ∧ M' = loM M (cn (M 0)) x false (cn (M 0)))) 0 0 A := by
  refine Met.ofW (cc := cX6_layOut) (maxL := 5) (ret := (some .int)) (by decide) rfl ?_
  intro p e s m args below meth c s₁ B hml hv
  obtain ⟨rfl, hP0, hK⟩ := hv
  have hx := B.exec
  have hb := B.bytes
  have hr := B.returns
  have hts := atoms_spec (ws := wsX6_layOut) B.pre
  have hown : s.vm.findClass RX6 = some m.cls := findClass_of_methodNamed B.named
  have hlocks := B.notSynchronized
  have hin : ∀ w ∈ wsX60, w ∈ wsX6_layOut := by decide +kernel
  have hI : mI dd g q A s.heap s.heap [] M := ⟨hP0, va_S.rf⟩
  have hl := lv_entry ([.ref (q 0), .int x, .int 0]) (n := 5) (Nat.le_of_ble_eq_true rfl)
  rw [lg_entry_eq]
  generalize (lg_sl ([.ref (q 0), .int x, .int 0]) ++ List.replicate (5 - (lg_sl ([.ref (q 0), .int x, .int 0])).length) Slot.unset).toArray = ls at hl ⊢
  have hl : lv_has ls 5 [(0, .ref (q 0)), (1, .int x), (2, .int 0)] := hl
  have hc16 := hW.2.1
  have hl4 := hW.2.2.2
  refine lv_aload_n hx hb dX6_layOut_0 rfl (lv_at hl 0 rfl) ?_
  refine lv_iconst (v := 0) hx hb dX6_layOut_1 (by decide) ?_
  refine m_put hx hb hts hin hown hK hA hI 9 (by decide) (hts (.fieldLink RX6 58 "WinderLaddersModel" "inRow" "I") (by decide +kernel)) (fun h => absurd h (by decide)) dX6_layOut_2 (fun H locs hI => ?_)
  refine lv_iconst (v := 0) hx hb dX6_layOut_5 (by decide) ?_
  refine lv_istore_n (lv' := [(3, .int 0), (0, .ref (q 0)), (1, .int x), (2, .int 0)]) hx hb dX6_layOut_6 rfl hl (by decide) rfl (fun ls hl => ?_)
  have L7 : ∀ (fuel : Nat) (k : Nat) (h1 : k ≤ cn (M 0)) (h2 : cn (M 0) < fuel + k) (H : Heap) (locs : List Loc) (ls : Array Slot), mI dd g q A s.heap H locs (loM M (cn (M 0)) x false k) → lv_has ls 5 [(3, .int (nI k)), (0, .ref (q 0)), (1, .int x), (2, .int 0)] → wk p l e wsX6_layOut { frames := 0, cells := 0, slots := 0, locals := 0 } s m [.ref (q 0), .int x, .int 0] below meth c H locs (mQi dd g q A (fun r M' => r = loR x (loL (cn (M 0)) x false (M 8) (cn (M 0))) ∧ M' = loM M (cn (M 0)) x false (cn (M 0)))) (A) (F0 m 7 ls []) := by
    intro fuel
    induction fuel with
    | zero =>
      intro k h1 h2 H locs ls hI hl
      exact absurd h2 (by omega)
    | succ fuel ih =>
      intro k h1 h2 H locs ls hI hl
      have hll := loL_le (cn (M 0)) x false (M 8) k
      refine lv_iload_n hx hb dX6_layOut_7 rfl (lv_at hl 0 rfl) ?_
      refine lv_aload_n hx hb dX6_layOut_8 rfl (lv_at hl 1 rfl) ?_
      refine m_get hx hb hts hin hown hK hI 0 (by decide) (hts (.fieldLink RX6 7 "WinderLaddersModel" "s" "[I") (by decide +kernel)) (v := .ref (q 1)) rfl dX6_layOut_9 ?_
      refine lv_iconst (v := 5) hx hb dX6_layOut_12 (by decide) ?_
      refine m_ald hx hb hK hI 0 (by decide) (5) (by show _ < 140; omega) rfl (v := nI (cn (M 0))) ((by rw [loM_k _ _ _ _ _ (by decide) (by decide)]; exact hW.1)) dX6_layOut_13 ?_
      refine lv_icmp_ge (tgt := 74) hx hb dX6_layOut_14 (by decide) (fun c1 => ?_) (fun c1 => ?_)
      · skip
        have nc1 : cn (M 0) ≤ k := (nI_leI (a := cn (M 0)) (b := k) (by omega) (by omega)).mp c1
        have ek : k = cn (M 0) := by omega
        refine lv_iload_n hx hb dX6_layOut_74 rfl (lv_at hl 2 rfl) ?_
        refine lv_if_ge (tgt := 83) hx hb dX6_layOut_75 (by decide) (fun c2 => ?_) (fun c2 => ?_)
        · skip
          refine lv_aload_n hx hb dX6_layOut_83 rfl (lv_at hl 1 rfl) ?_
          refine m_get hx hb hts hin hown hK hI 9 (by decide) (hts (.fieldLink RX6 58 "WinderLaddersModel" "inRow" "I") (by decide +kernel)) (v := .int (nI (loL (cn (M 0)) x false (M 8) k))) (congrArg (fun z => some (Value.int z)) ((by simp [loM, mset]))) dX6_layOut_84 ?_
          refine lv_if_ne (tgt := 95) hx hb dX6_layOut_87 (by decide) (fun c3 => ?_) (fun c3 => ?_)
          · skip
            have nc3 : ¬ (loL (cn (M 0)) x false (M 8) k = 0) := fun h => c3 ((nI_eq (a := loL (cn (M 0)) x false (M 8) k) (b := 0) (by omega) (by omega)).mpr h)
            refine lv_iconst (v := 0) hx hb dX6_layOut_95 (by decide) ?_
            exact m_iret (v := 0) hx hb hr hI (⟨by rw [show loL (cn (M 0)) x false (M 8) (cn (M 0)) = loL (cn (M 0)) x false (M 8) k by rw [ek]]; simp [loR, -Int32.not_le, c1, nc1, c2, c3, nc3], by rw [ek]⟩) dX6_layOut_96 hlocks
          · skip
            have nc3 : loL (cn (M 0)) x false (M 8) k = 0 := (nI_eq (a := loL (cn (M 0)) x false (M 8) k) (b := 0) (by omega) (by omega)).mp c3
            refine lv_bipush (v := (-5)) hx hb dX6_layOut_90 (by decide) ?_
            refine lv_goto (tgt := 96) hx hb dX6_layOut_92 (by decide) ?_
            exact m_iret (v := (-5)) hx hb hr hI (⟨by rw [show loL (cn (M 0)) x false (M 8) (cn (M 0)) = loL (cn (M 0)) x false (M 8) k by rw [ek]]; simp [loR, -Int32.not_le, c1, nc1, c2, c3, nc3], by rw [ek]⟩) dX6_layOut_96 hlocks
        · skip
          refine lv_bipush (v := (-2)) hx hb dX6_layOut_78 (by decide) ?_
          refine lv_goto (tgt := 96) hx hb dX6_layOut_80 (by decide) ?_
          exact m_iret (v := (-2)) hx hb hr hI (⟨by rw [show loL (cn (M 0)) x false (M 8) (cn (M 0)) = loL (cn (M 0)) x false (M 8) k by rw [ek]]; simp [loR, -Int32.not_le, c1, nc1, c2], by rw [ek]⟩) dX6_layOut_96 hlocks
      · skip
        have nc1 : ¬ (cn (M 0) ≤ k) := fun h => c1 ((nI_leI (a := cn (M 0)) (b := k) (by omega) (by omega)).mpr h)
        refine lv_iload_n hx hb dX6_layOut_17 rfl (lv_at hl 3 rfl) ?_
        refine lv_if_eq (tgt := 34) hx hb dX6_layOut_18 (by decide) (fun _ => ?_) (fun c4 => absurd (by decide) c4)
        refine lv_iload_n hx hb dX6_layOut_34 rfl (lv_at hl 0 rfl) ?_
        refine lv_istore (lv' := [(4, .int (nI k)), (3, .int (nI k)), (0, .ref (q 0)), (1, .int x), (2, .int 0)]) hx hb dX6_layOut_35 hl (by decide) rfl (fun ls hl => ?_)
        refine lv_iload_n hx hb dX6_layOut_37 rfl (lv_at hl 3 rfl) ?_
        refine lv_iload hx hb dX6_layOut_38 (lv_at hl 0 rfl) ?_
        refine lv_ishr hx hb dX6_layOut_40 ?_
        refine lv_iconst (v := 1) hx hb dX6_layOut_41 (by decide) ?_
        refine lv_iand hx hb dX6_layOut_42 ?_
        refine lv_iconst (v := 1) hx hb dX6_layOut_43 (by decide) ?_
        refine lv_icmp_ne (tgt := 68) hx hb dX6_layOut_44 (by decide) (fun c5 => ?_) (fun c5 => ?_)
        · skip
          refine lv_iinc (v := nI (k + 1)) (lv' := [(3, .int (nI (k + 1))), (4, .int (nI k)), (0, .ref (q 0)), (1, .int x), (2, .int 0)]) hx hb dX6_layOut_68 hl (k := 1) rfl (by rw [show Int32.ofInt 1 = nI 1 from rfl, nI_add]) (by decide) rfl (fun ls hl => ?_)
          refine lv_goto (tgt := 7) hx hb dX6_layOut_71 (by decide) ?_
          exact ih (k + 1) (by omega) (by omega) _ _ _ (by have e := loM_f (M := M) (n := cn (M 0)) (b := false) (k := k) c5; exact e ▸ hI) (lv_sub hl [0, 2, 3, 4] rfl)
        · skip
          refine lv_aload_n hx hb dX6_layOut_47 rfl (lv_at hl 2 rfl) ?_
          refine m_get hx hb hts hin hown hK hI 8 (by decide) (hts (.fieldLink RX6 29 "WinderLaddersModel" "row" "[I") (by decide +kernel)) (v := .ref (q 7)) rfl dX6_layOut_48 ?_
          refine lv_aload_n hx hb dX6_layOut_51 rfl (lv_at hl 2 rfl) ?_
          refine m_get hx hb hts hin hown hK hI 9 (by decide) (hts (.fieldLink RX6 58 "WinderLaddersModel" "inRow" "I") (by decide +kernel)) (v := .int (nI (loL (cn (M 0)) x false (M 8) k))) (congrArg (fun z => some (Value.int z)) ((by simp [loM, mset]))) dX6_layOut_52 ?_
          refine lv_iload hx hb dX6_layOut_55 (lv_at hl 0 rfl) ?_
          refine m_ast hx hb hK hA hI 8 (by decide) (loL (cn (M 0)) x false (M 8) k) (by show _ < 80; omega) rfl dX6_layOut_57 (fun H locs hI => ?_)
          refine lv_aload_n hx hb dX6_layOut_58 rfl (lv_at hl 2 rfl) ?_
          refine lv_dup hx hb dX6_layOut_59 rfl ?_
          refine m_get hx hb hts hin hown hK hI 9 (by decide) (hts (.fieldLink RX6 58 "WinderLaddersModel" "inRow" "I") (by decide +kernel)) (v := .int (nI (loL (cn (M 0)) x false (M 8) k))) (congrArg (fun z => some (Value.int z)) ((mset_nk _ (by decide) _ _ _).trans ((by simp [loM, mset])))) dX6_layOut_60 ?_
          refine lv_iconst (v := 1) hx hb dX6_layOut_63 (by decide) ?_
          refine lv_iadd hx hb dX6_layOut_64 ?_
          refine lv_re (y := nI (loL (cn (M 0)) x false (M 8) k + 1)) (nI_add (loL (cn (M 0)) x false (M 8) k) (1)) ?_
          refine m_put hx hb hts hin hown hK hA hI 9 (by decide) (hts (.fieldLink RX6 58 "WinderLaddersModel" "inRow" "I") (by decide +kernel)) (fun h => absurd h (by decide)) dX6_layOut_65 (fun H locs hI => ?_)
          refine lv_iinc (v := nI (k + 1)) (lv' := [(3, .int (nI (k + 1))), (4, .int (nI k)), (0, .ref (q 0)), (1, .int x), (2, .int 0)]) hx hb dX6_layOut_68 hl (k := 1) rfl (by rw [show Int32.ofInt 1 = nI 1 from rfl, nI_add]) (by decide) rfl (fun ls hl => ?_)
          refine lv_goto (tgt := 7) hx hb dX6_layOut_71 (by decide) ?_
          exact ih (k + 1) (by omega) (by omega) _ _ _ (by have e := loM_t (M := M) (n := cn (M 0)) (b := false) (k := k) c5; exact e ▸ hI) (lv_sub hl [0, 2, 3, 4] rfl)
  exact L7 17 0 (by omega) (by omega) _ _ _ (by rw [loM_0 M (cn (M 0)) x false] at hI; exact hI) (lv_sub hl [0, 1, 2, 3] rfl)

set_option maxHeartbeats 4000000 in
set_option maxRecDepth 100000 in
theorem k_X6_layOut1 (l : Launch) (dd : va_G) (g : Nat → ClassId) (q : Nat → Nat) (A : Nat → Prop) (hA : mA A q) (M : MS) (x : Int32) (hW : Wk (M 0)) : Met l yX6_layOut wsX6_layOut ({ frames := 0, cells := 0, slots := 0, locals := 0 }) (mPre dd g q M [.ref (q 0), .int x, .int 1]) (mQi dd g q A (fun r M' => r = loR x (loL (cn (M 0)) x true (M 8) (cn (M 0))) ∧ M' = loM M (cn (M 0)) x true (cn (M 0)))) 0 0 A := by
  refine Met.ofW (cc := cX6_layOut) (maxL := 5) (ret := (some .int)) (by decide) rfl ?_
  intro p e s m args below meth c s₁ B hml hv
  obtain ⟨rfl, hP0, hK⟩ := hv
  have hx := B.exec
  have hb := B.bytes
  have hr := B.returns
  have hts := atoms_spec (ws := wsX6_layOut) B.pre
  have hown : s.vm.findClass RX6 = some m.cls := findClass_of_methodNamed B.named
  have hlocks := B.notSynchronized
  have hin : ∀ w ∈ wsX60, w ∈ wsX6_layOut := by decide +kernel
  have hI : mI dd g q A s.heap s.heap [] M := ⟨hP0, va_S.rf⟩
  have hl := lv_entry ([.ref (q 0), .int x, .int 1]) (n := 5) (Nat.le_of_ble_eq_true rfl)
  rw [lg_entry_eq]
  generalize (lg_sl ([.ref (q 0), .int x, .int 1]) ++ List.replicate (5 - (lg_sl ([.ref (q 0), .int x, .int 1])).length) Slot.unset).toArray = ls at hl ⊢
  have hl : lv_has ls 5 [(0, .ref (q 0)), (1, .int x), (2, .int 1)] := hl
  have hc16 := hW.2.1
  have hl4 := hW.2.2.2
  refine lv_aload_n hx hb dX6_layOut_0 rfl (lv_at hl 0 rfl) ?_
  refine lv_iconst (v := 0) hx hb dX6_layOut_1 (by decide) ?_
  refine m_put hx hb hts hin hown hK hA hI 9 (by decide) (hts (.fieldLink RX6 58 "WinderLaddersModel" "inRow" "I") (by decide +kernel)) (fun h => absurd h (by decide)) dX6_layOut_2 (fun H locs hI => ?_)
  refine lv_iconst (v := 0) hx hb dX6_layOut_5 (by decide) ?_
  refine lv_istore_n (lv' := [(3, .int 0), (0, .ref (q 0)), (1, .int x), (2, .int 1)]) hx hb dX6_layOut_6 rfl hl (by decide) rfl (fun ls hl => ?_)
  have L7 : ∀ (fuel : Nat) (k : Nat) (h1 : k ≤ cn (M 0)) (h2 : cn (M 0) < fuel + k) (H : Heap) (locs : List Loc) (ls : Array Slot), mI dd g q A s.heap H locs (loM M (cn (M 0)) x true k) → lv_has ls 5 [(3, .int (nI k)), (0, .ref (q 0)), (1, .int x), (2, .int 1)] → wk p l e wsX6_layOut { frames := 0, cells := 0, slots := 0, locals := 0 } s m [.ref (q 0), .int x, .int 1] below meth c H locs (mQi dd g q A (fun r M' => r = loR x (loL (cn (M 0)) x true (M 8) (cn (M 0))) ∧ M' = loM M (cn (M 0)) x true (cn (M 0)))) (A) (F0 m 7 ls []) := by
    intro fuel
    induction fuel with
    | zero =>
      intro k h1 h2 H locs ls hI hl
      exact absurd h2 (by omega)
    | succ fuel ih =>
      intro k h1 h2 H locs ls hI hl
      have hll := loL_le (cn (M 0)) x true (M 8) k
      refine lv_iload_n hx hb dX6_layOut_7 rfl (lv_at hl 0 rfl) ?_
      refine lv_aload_n hx hb dX6_layOut_8 rfl (lv_at hl 1 rfl) ?_
      refine m_get hx hb hts hin hown hK hI 0 (by decide) (hts (.fieldLink RX6 7 "WinderLaddersModel" "s" "[I") (by decide +kernel)) (v := .ref (q 1)) rfl dX6_layOut_9 ?_
      refine lv_iconst (v := 5) hx hb dX6_layOut_12 (by decide) ?_
      refine m_ald hx hb hK hI 0 (by decide) (5) (by show _ < 140; omega) rfl (v := nI (cn (M 0))) ((by rw [loM_k _ _ _ _ _ (by decide) (by decide)]; exact hW.1)) dX6_layOut_13 ?_
      refine lv_icmp_ge (tgt := 74) hx hb dX6_layOut_14 (by decide) (fun c1 => ?_) (fun c1 => ?_)
      · skip
        have nc1 : cn (M 0) ≤ k := (nI_leI (a := cn (M 0)) (b := k) (by omega) (by omega)).mp c1
        have ek : k = cn (M 0) := by omega
        refine lv_iload_n hx hb dX6_layOut_74 rfl (lv_at hl 2 rfl) ?_
        refine lv_if_ge (tgt := 83) hx hb dX6_layOut_75 (by decide) (fun c2 => ?_) (fun c2 => ?_)
        · skip
          refine lv_aload_n hx hb dX6_layOut_83 rfl (lv_at hl 1 rfl) ?_
          refine m_get hx hb hts hin hown hK hI 9 (by decide) (hts (.fieldLink RX6 58 "WinderLaddersModel" "inRow" "I") (by decide +kernel)) (v := .int (nI (loL (cn (M 0)) x true (M 8) k))) (congrArg (fun z => some (Value.int z)) ((by simp [loM, mset]))) dX6_layOut_84 ?_
          refine lv_if_ne (tgt := 95) hx hb dX6_layOut_87 (by decide) (fun c3 => ?_) (fun c3 => ?_)
          · skip
            have nc3 : ¬ (loL (cn (M 0)) x true (M 8) k = 0) := fun h => c3 ((nI_eq (a := loL (cn (M 0)) x true (M 8) k) (b := 0) (by omega) (by omega)).mpr h)
            refine lv_iconst (v := 0) hx hb dX6_layOut_95 (by decide) ?_
            exact m_iret (v := 0) hx hb hr hI (⟨by rw [show loL (cn (M 0)) x true (M 8) (cn (M 0)) = loL (cn (M 0)) x true (M 8) k by rw [ek]]; simp [loR, -Int32.not_le, c1, nc1, c2, c3, nc3], by rw [ek]⟩) dX6_layOut_96 hlocks
          · skip
            have nc3 : loL (cn (M 0)) x true (M 8) k = 0 := (nI_eq (a := loL (cn (M 0)) x true (M 8) k) (b := 0) (by omega) (by omega)).mp c3
            refine lv_bipush (v := (-5)) hx hb dX6_layOut_90 (by decide) ?_
            refine lv_goto (tgt := 96) hx hb dX6_layOut_92 (by decide) ?_
            exact m_iret (v := (-5)) hx hb hr hI (⟨by rw [show loL (cn (M 0)) x true (M 8) (cn (M 0)) = loL (cn (M 0)) x true (M 8) k by rw [ek]]; simp [loR, -Int32.not_le, c1, nc1, c2, c3, nc3], by rw [ek]⟩) dX6_layOut_96 hlocks
        · skip
          refine lv_bipush (v := (-2)) hx hb dX6_layOut_78 (by decide) ?_
          refine lv_goto (tgt := 96) hx hb dX6_layOut_80 (by decide) ?_
          exact m_iret (v := (-2)) hx hb hr hI (⟨by rw [show loL (cn (M 0)) x true (M 8) (cn (M 0)) = loL (cn (M 0)) x true (M 8) k by rw [ek]]; simp [loR, -Int32.not_le, c1, nc1, c2], by rw [ek]⟩) dX6_layOut_96 hlocks
      · skip
        have nc1 : ¬ (cn (M 0) ≤ k) := fun h => c1 ((nI_leI (a := cn (M 0)) (b := k) (by omega) (by omega)).mpr h)
        refine lv_iload_n hx hb dX6_layOut_17 rfl (lv_at hl 3 rfl) ?_
        refine lv_if_eq (tgt := 34) hx hb dX6_layOut_18 (by decide) (fun c4 => absurd c4 (by decide)) (fun _ => ?_)
        refine lv_aload_n hx hb dX6_layOut_21 rfl (lv_at hl 1 rfl) ?_
        refine m_get hx hb hts hin hown hK hI 0 (by decide) (hts (.fieldLink RX6 7 "WinderLaddersModel" "s" "[I") (by decide +kernel)) (v := .ref (q 1)) rfl dX6_layOut_22 ?_
        refine lv_iconst (v := 5) hx hb dX6_layOut_25 (by decide) ?_
        refine m_ald hx hb hK hI 0 (by decide) (5) (by show _ < 140; omega) rfl (v := nI (cn (M 0))) ((by rw [loM_k _ _ _ _ _ (by decide) (by decide)]; exact hW.1)) dX6_layOut_26 ?_
        refine lv_iconst (v := 1) hx hb dX6_layOut_27 (by decide) ?_
        refine lv_isub hx hb dX6_layOut_28 ?_
        refine lv_re (y := nI (cn (M 0) - 1)) (pk_sub (a := cn (M 0)) (b := 1) (by omega)) ?_
        refine lv_iload_n hx hb dX6_layOut_29 rfl (lv_at hl 0 rfl) ?_
        refine lv_isub hx hb dX6_layOut_30 ?_
        refine lv_re (y := nI (cn (M 0) - 1 - k)) (pk_sub (a := cn (M 0) - 1) (b := k) (by omega)) ?_
        refine lv_goto (tgt := 35) hx hb dX6_layOut_31 (by decide) ?_
        refine lv_istore (lv' := [(4, .int (nI (cn (M 0) - 1 - k))), (3, .int (nI k)), (0, .ref (q 0)), (1, .int x), (2, .int 1)]) hx hb dX6_layOut_35 hl (by decide) rfl (fun ls hl => ?_)
        refine lv_iload_n hx hb dX6_layOut_37 rfl (lv_at hl 3 rfl) ?_
        refine lv_iload hx hb dX6_layOut_38 (lv_at hl 0 rfl) ?_
        refine lv_ishr hx hb dX6_layOut_40 ?_
        refine lv_iconst (v := 1) hx hb dX6_layOut_41 (by decide) ?_
        refine lv_iand hx hb dX6_layOut_42 ?_
        refine lv_iconst (v := 1) hx hb dX6_layOut_43 (by decide) ?_
        refine lv_icmp_ne (tgt := 68) hx hb dX6_layOut_44 (by decide) (fun c5 => ?_) (fun c5 => ?_)
        · skip
          refine lv_iinc (v := nI (k + 1)) (lv' := [(3, .int (nI (k + 1))), (4, .int (nI (cn (M 0) - 1 - k))), (0, .ref (q 0)), (1, .int x), (2, .int 1)]) hx hb dX6_layOut_68 hl (k := 1) rfl (by rw [show Int32.ofInt 1 = nI 1 from rfl, nI_add]) (by decide) rfl (fun ls hl => ?_)
          refine lv_goto (tgt := 7) hx hb dX6_layOut_71 (by decide) ?_
          exact ih (k + 1) (by omega) (by omega) _ _ _ (by have e := loM_f (M := M) (n := cn (M 0)) (b := true) (k := k) c5; exact e ▸ hI) (lv_sub hl [0, 2, 3, 4] rfl)
        · skip
          refine lv_aload_n hx hb dX6_layOut_47 rfl (lv_at hl 2 rfl) ?_
          refine m_get hx hb hts hin hown hK hI 8 (by decide) (hts (.fieldLink RX6 29 "WinderLaddersModel" "row" "[I") (by decide +kernel)) (v := .ref (q 7)) rfl dX6_layOut_48 ?_
          refine lv_aload_n hx hb dX6_layOut_51 rfl (lv_at hl 2 rfl) ?_
          refine m_get hx hb hts hin hown hK hI 9 (by decide) (hts (.fieldLink RX6 58 "WinderLaddersModel" "inRow" "I") (by decide +kernel)) (v := .int (nI (loL (cn (M 0)) x true (M 8) k))) (congrArg (fun z => some (Value.int z)) ((by simp [loM, mset]))) dX6_layOut_52 ?_
          refine lv_iload hx hb dX6_layOut_55 (lv_at hl 0 rfl) ?_
          refine m_ast hx hb hK hA hI 8 (by decide) (loL (cn (M 0)) x true (M 8) k) (by show _ < 80; omega) rfl dX6_layOut_57 (fun H locs hI => ?_)
          refine lv_aload_n hx hb dX6_layOut_58 rfl (lv_at hl 2 rfl) ?_
          refine lv_dup hx hb dX6_layOut_59 rfl ?_
          refine m_get hx hb hts hin hown hK hI 9 (by decide) (hts (.fieldLink RX6 58 "WinderLaddersModel" "inRow" "I") (by decide +kernel)) (v := .int (nI (loL (cn (M 0)) x true (M 8) k))) (congrArg (fun z => some (Value.int z)) ((mset_nk _ (by decide) _ _ _).trans ((by simp [loM, mset])))) dX6_layOut_60 ?_
          refine lv_iconst (v := 1) hx hb dX6_layOut_63 (by decide) ?_
          refine lv_iadd hx hb dX6_layOut_64 ?_
          refine lv_re (y := nI (loL (cn (M 0)) x true (M 8) k + 1)) (nI_add (loL (cn (M 0)) x true (M 8) k) (1)) ?_
          refine m_put hx hb hts hin hown hK hA hI 9 (by decide) (hts (.fieldLink RX6 58 "WinderLaddersModel" "inRow" "I") (by decide +kernel)) (fun h => absurd h (by decide)) dX6_layOut_65 (fun H locs hI => ?_)
          refine lv_iinc (v := nI (k + 1)) (lv' := [(3, .int (nI (k + 1))), (4, .int (nI (cn (M 0) - 1 - k))), (0, .ref (q 0)), (1, .int x), (2, .int 1)]) hx hb dX6_layOut_68 hl (k := 1) rfl (by rw [show Int32.ofInt 1 = nI 1 from rfl, nI_add]) (by decide) rfl (fun ls hl => ?_)
          refine lv_goto (tgt := 7) hx hb dX6_layOut_71 (by decide) ?_
          exact ih (k + 1) (by omega) (by omega) _ _ _ (by have e := loM_t (M := M) (n := cn (M 0)) (b := true) (k := k) c5; exact e ▸ hI) (lv_sub hl [0, 2, 3, 4] rfl)
  exact L7 17 0 (by omega) (by omega) _ _ _ (by rw [loM_0 M (cn (M 0)) x true] at hI; exact hI) (lv_sub hl [0, 1, 2, 3] rfl)

set_option maxHeartbeats 4000000 in
set_option maxRecDepth 100000 in
theorem k_X6_hangFault (l : Launch) (dd : va_G) (g : Nat → ClassId) (q : Nat → Nat) (A : Nat → Prop) (hA : mA A q) (M : MS) (h u d : Int32) (hW : Wk (M 0)) : Met l yX6_hangFault wsX6_hangFault ({ frames := 1, cells := 0, slots := 0, locals := 22 }) (mPre dd g q M [.ref (q 0), .int h, .int u, .int d]) (mQi dd g q A (fun r M' => r = hangR (M 0) h u d ∧ M' = M)) 0 0 A := by
  refine Met.ofW (cc := cX6_hangFault) (maxL := 4) (ret := (some .int)) (by decide) rfl ?_
  intro p e s m args below meth c s₁ B hml hv
  obtain ⟨rfl, hP0, hK⟩ := hv
  have hx := B.exec
  have hb := B.bytes
  have hr := B.returns
  have hts := atoms_spec (ws := wsX6_hangFault) B.pre
  have hown : s.vm.findClass RX6 = some m.cls := findClass_of_methodNamed B.named
  have hlocks := B.notSynchronized
  have hin : ∀ w ∈ wsX60, w ∈ wsX6_hangFault := by decide +kernel
  have hI : mI dd g q A s.heap s.heap [] M := ⟨hP0, va_S.rf⟩
  have hl := lv_entry ([.ref (q 0), .int h, .int u, .int d]) (n := 4) (Nat.le_of_ble_eq_true rfl)
  rw [lg_entry_eq]
  generalize (lg_sl ([.ref (q 0), .int h, .int u, .int d]) ++ List.replicate (4 - (lg_sl ([.ref (q 0), .int h, .int u, .int d])).length) Slot.unset).toArray = ls at hl ⊢
  have hl : lv_has ls 4 [(0, .ref (q 0)), (1, .int h), (2, .int u), (3, .int d)] := hl
  have hc16 := hW.2.1
  have hl4 := hW.2.2.2
  refine lv_iload_n hx hb dX6_hangFault_0 rfl (lv_at hl 1 rfl) ?_
  refine lv_iconst (v := 0) hx hb dX6_hangFault_1 (by decide) ?_
  refine lv_bipush (v := 99) hx hb dX6_hangFault_2 (by decide) ?_
  refine m_calls (As := [.int h, .int 0, .int 99]) (rest := []) hx hb hml hown hts hI (k_X6_in l h 0 99) (va_cwS 3 hts gX6_hangFault_X6_in rfl rfl rfl (by decide +kernel) ⟨Nat.le_of_ble_eq_true rfl, Nat.le_of_ble_eq_true rfl⟩) rfl hl (Nat.le_of_ble_eq_true rfl) ⟨Nat.zero_le _, Nat.zero_le _⟩ dX6_hangFault_4 rfl (fun r H locs h2 hI => ?_)
  rcases h2 with ⟨b1, rfl⟩ | ⟨b1, rfl⟩
  · skip
    refine lv_if_eq (tgt := 31) hx hb dX6_hangFault_7 (by decide) (fun c3 => absurd c3 (by decide)) (fun _ => ?_)
    refine lv_iload_n hx hb dX6_hangFault_10 rfl (lv_at hl 2 rfl) ?_
    refine lv_iconst (v := 0) hx hb dX6_hangFault_11 (by decide) ?_
    refine lv_bipush (v := 30) hx hb dX6_hangFault_12 (by decide) ?_
    refine m_calls (As := [.int u, .int 0, .int 30]) (rest := []) hx hb hml hown hts hI (k_X6_in l u 0 30) (va_cwS 3 hts gX6_hangFault_X6_in rfl rfl rfl (by decide +kernel) ⟨Nat.le_of_ble_eq_true rfl, Nat.le_of_ble_eq_true rfl⟩) rfl hl (Nat.le_of_ble_eq_true rfl) ⟨Nat.zero_le _, Nat.zero_le _⟩ dX6_hangFault_14 rfl (fun r H locs h5 hI => ?_)
    rcases h5 with ⟨b4, rfl⟩ | ⟨b4, rfl⟩
    · skip
      refine lv_if_eq (tgt := 31) hx hb dX6_hangFault_17 (by decide) (fun c6 => absurd c6 (by decide)) (fun _ => ?_)
      refine lv_iload_n hx hb dX6_hangFault_20 rfl (lv_at hl 3 rfl) ?_
      refine lv_bipush (v := (-99)) hx hb dX6_hangFault_21 (by decide) ?_
      refine lv_bipush (v := 99) hx hb dX6_hangFault_23 (by decide) ?_
      refine m_calls (As := [.int d, .int ((-99)), .int 99]) (rest := []) hx hb hml hown hts hI (k_X6_in l d (-99) 99) (va_cwS 3 hts gX6_hangFault_X6_in rfl rfl rfl (by decide +kernel) ⟨Nat.le_of_ble_eq_true rfl, Nat.le_of_ble_eq_true rfl⟩) rfl hl (Nat.le_of_ble_eq_true rfl) ⟨Nat.zero_le _, Nat.zero_le _⟩ dX6_hangFault_25 rfl (fun r H locs h8 hI => ?_)
      rcases h8 with ⟨b7, rfl⟩ | ⟨b7, rfl⟩
      · skip
        refine lv_if_ne (tgt := 34) hx hb dX6_hangFault_28 (by decide) (fun _ => ?_) (fun c9 => absurd c9 (by decide))
        refine lv_aload_n hx hb dX6_hangFault_34 rfl (lv_at hl 0 rfl) ?_
        refine m_get hx hb hts hin hown hK hI 0 (by decide) (hts (.fieldLink RX6 7 "WinderLaddersModel" "s" "[I") (by decide +kernel)) (v := .ref (q 1)) rfl dX6_hangFault_35 ?_
        refine lv_iconst (v := 5) hx hb dX6_hangFault_38 (by decide) ?_
        refine m_ald hx hb hK hI 0 (by decide) (5) (by show _ < 140; omega) rfl (v := nI (cn (M 0))) hW.1 dX6_hangFault_39 ?_
        refine lv_bipush (v := 16) hx hb dX6_hangFault_40 (by decide) ?_
        refine lv_icmp_ne (tgt := 50) hx hb dX6_hangFault_42 (by decide) (fun c10 => ?_) (fun c10 => ?_)
        · skip
          have nc10 : ¬ (cn (M 0) = 16) := fun h => c10 ((nI_eq (a := cn (M 0)) (b := 16) (by omega) (by omega)).mpr h)
          refine lv_iconst (v := 0) hx hb dX6_hangFault_50 (by decide) ?_
          exact m_iret (v := 0) hx hb hr hI (⟨by simp [hangR, b1, b4, b7, c10, nc10], rfl⟩) dX6_hangFault_51 hlocks
        · skip
          have nc10 : cn (M 0) = 16 := (nI_eq (a := cn (M 0)) (b := 16) (by omega) (by omega)).mp c10
          refine lv_bipush (v := (-4)) hx hb dX6_hangFault_45 (by decide) ?_
          refine lv_goto (tgt := 51) hx hb dX6_hangFault_47 (by decide) ?_
          exact m_iret (v := (-4)) hx hb hr hI (⟨by simp [hangR, b1, b4, b7, c10, nc10], rfl⟩) dX6_hangFault_51 hlocks
      · skip
        refine lv_if_ne (tgt := 34) hx hb dX6_hangFault_28 (by decide) (fun c11 => absurd (by decide) c11) (fun _ => ?_)
        refine lv_bipush (v := (-2)) hx hb dX6_hangFault_31 (by decide) ?_
        exact m_iret (v := (-2)) hx hb hr hI (⟨by simp [hangR, b1, b4, b7], rfl⟩) dX6_hangFault_33 hlocks
    · skip
      refine lv_if_eq (tgt := 31) hx hb dX6_hangFault_17 (by decide) (fun _ => ?_) (fun c12 => absurd (by decide) c12)
      refine lv_bipush (v := (-2)) hx hb dX6_hangFault_31 (by decide) ?_
      exact m_iret (v := (-2)) hx hb hr hI (⟨by simp [hangR, b1, b4], rfl⟩) dX6_hangFault_33 hlocks
  · skip
    refine lv_if_eq (tgt := 31) hx hb dX6_hangFault_7 (by decide) (fun _ => ?_) (fun c13 => absurd (by decide) c13)
    refine lv_bipush (v := (-2)) hx hb dX6_hangFault_31 (by decide) ?_
    exact m_iret (v := (-2)) hx hb hr hI (⟨by simp [hangR, b1], rfl⟩) dX6_hangFault_33 hlocks

set_option maxHeartbeats 4000000 in
set_option maxRecDepth 100000 in
theorem k_X6_ladderFault (l : Launch) (dd : va_G) (g : Nat → ClassId) (q : Nat → Nat) (A : Nat → Prop) (hA : mA A q) (M : MS) (u : Int32) (hW : Wk (M 0)) : Met l yX6_ladderFault wsX6_ladderFault ({ frames := 1, cells := 0, slots := 0, locals := 22 }) (mPre dd g q M [.ref (q 0), .int u]) (mQi dd g q A (fun r M' => r = lddR (M 0) u ∧ M' = M)) 0 0 A := by
  refine Met.ofW (cc := cX6_ladderFault) (maxL := 2) (ret := (some .int)) (by decide) rfl ?_
  intro p e s m args below meth c s₁ B hml hv
  obtain ⟨rfl, hP0, hK⟩ := hv
  have hx := B.exec
  have hb := B.bytes
  have hr := B.returns
  have hts := atoms_spec (ws := wsX6_ladderFault) B.pre
  have hown : s.vm.findClass RX6 = some m.cls := findClass_of_methodNamed B.named
  have hlocks := B.notSynchronized
  have hin : ∀ w ∈ wsX60, w ∈ wsX6_ladderFault := by decide +kernel
  have hI : mI dd g q A s.heap s.heap [] M := ⟨hP0, va_S.rf⟩
  have hl := lv_entry ([.ref (q 0), .int u]) (n := 2) (Nat.le_of_ble_eq_true rfl)
  rw [lg_entry_eq]
  generalize (lg_sl ([.ref (q 0), .int u]) ++ List.replicate (2 - (lg_sl ([.ref (q 0), .int u])).length) Slot.unset).toArray = ls at hl ⊢
  have hl : lv_has ls 2 [(0, .ref (q 0)), (1, .int u)] := hl
  have hc16 := hW.2.1
  have hl4 := hW.2.2.2
  refine lv_iload_n hx hb dX6_ladderFault_0 rfl (lv_at hl 1 rfl) ?_
  refine lv_iconst (v := 1) hx hb dX6_ladderFault_1 (by decide) ?_
  refine lv_bipush (v := 30) hx hb dX6_ladderFault_2 (by decide) ?_
  refine m_calls (As := [.int u, .int 1, .int 30]) (rest := []) hx hb hml hown hts hI (k_X6_in l u 1 30) (va_cwS 3 hts gX6_ladderFault_X6_in rfl rfl rfl (by decide +kernel) ⟨Nat.le_of_ble_eq_true rfl, Nat.le_of_ble_eq_true rfl⟩) rfl hl (Nat.le_of_ble_eq_true rfl) ⟨Nat.zero_le _, Nat.zero_le _⟩ dX6_ladderFault_4 rfl (fun r H locs h2 hI => ?_)
  rcases h2 with ⟨b1, rfl⟩ | ⟨b1, rfl⟩
  · skip
    refine lv_if_ne (tgt := 15) hx hb dX6_ladderFault_7 (by decide) (fun _ => ?_) (fun c3 => absurd c3 (by decide))
    refine lv_aload_n hx hb dX6_ladderFault_15 rfl (lv_at hl 0 rfl) ?_
    refine m_get hx hb hts hin hown hK hI 0 (by decide) (hts (.fieldLink RX6 7 "WinderLaddersModel" "s" "[I") (by decide +kernel)) (v := .ref (q 1)) rfl dX6_ladderFault_16 ?_
    refine lv_bipush (v := 6) hx hb dX6_ladderFault_19 (by decide) ?_
    refine m_ald hx hb hK hI 0 (by decide) (6) (by show _ < 140; omega) rfl (v := nI (ln (M 0))) hW.2.2.1 dX6_ladderFault_21 ?_
    refine lv_iconst (v := 4) hx hb dX6_ladderFault_22 (by decide) ?_
    refine lv_icmp_ne (tgt := 31) hx hb dX6_ladderFault_23 (by decide) (fun c4 => ?_) (fun c4 => ?_)
    · skip
      have nc4 : ¬ (ln (M 0) = 4) := fun h => c4 ((nI_eq (a := ln (M 0)) (b := 4) (by omega) (by omega)).mpr h)
      refine lv_iconst (v := 0) hx hb dX6_ladderFault_31 (by decide) ?_
      exact m_iret (v := 0) hx hb hr hI (⟨by simp [lddR, b1, c4, nc4], rfl⟩) dX6_ladderFault_32 hlocks
    · skip
      have nc4 : ln (M 0) = 4 := (nI_eq (a := ln (M 0)) (b := 4) (by omega) (by omega)).mp c4
      refine lv_bipush (v := (-4)) hx hb dX6_ladderFault_26 (by decide) ?_
      refine lv_goto (tgt := 32) hx hb dX6_ladderFault_28 (by decide) ?_
      exact m_iret (v := (-4)) hx hb hr hI (⟨by simp [lddR, b1, c4, nc4], rfl⟩) dX6_ladderFault_32 hlocks
  · skip
    refine lv_if_ne (tgt := 15) hx hb dX6_ladderFault_7 (by decide) (fun c5 => absurd (by decide) c5) (fun _ => ?_)
    refine lv_bipush (v := (-2)) hx hb dX6_ladderFault_10 (by decide) ?_
    refine lv_goto (tgt := 32) hx hb dX6_ladderFault_12 (by decide) ?_
    exact m_iret (v := (-2)) hx hb hr hI (⟨by simp [lddR, b1], rfl⟩) dX6_ladderFault_32 hlocks

set_option maxHeartbeats 4000000 in
set_option maxRecDepth 100000 in
theorem k_X6_passFault (l : Launch) (dd : va_G) (g : Nat → ClassId) (q : Nat → Nat) (A : Nat → Prop) (hA : mA A q) (M : MS) (d : Int32) : Met l yX6_passFault wsX6_passFault ({ frames := 1, cells := 0, slots := 0, locals := 22 }) (mPre dd g q M [.ref (q 0), .int d]) (mQi dd g q A (fun r M' => r = passR (M 0) d ∧ M' = M)) 0 0 A := by
  refine Met.ofW (cc := cX6_passFault) (maxL := 2) (ret := (some .int)) (by decide) rfl ?_
  intro p e s m args below meth c s₁ B hml hv
  obtain ⟨rfl, hP0, hK⟩ := hv
  have hx := B.exec
  have hb := B.bytes
  have hr := B.returns
  have hts := atoms_spec (ws := wsX6_passFault) B.pre
  have hown : s.vm.findClass RX6 = some m.cls := findClass_of_methodNamed B.named
  have hlocks := B.notSynchronized
  have hin : ∀ w ∈ wsX60, w ∈ wsX6_passFault := by decide +kernel
  have hI : mI dd g q A s.heap s.heap [] M := ⟨hP0, va_S.rf⟩
  have hl := lv_entry ([.ref (q 0), .int d]) (n := 2) (Nat.le_of_ble_eq_true rfl)
  rw [lg_entry_eq]
  generalize (lg_sl ([.ref (q 0), .int d]) ++ List.replicate (2 - (lg_sl ([.ref (q 0), .int d])).length) Slot.unset).toArray = ls at hl ⊢
  have hl : lv_has ls 2 [(0, .ref (q 0)), (1, .int d)] := hl
  refine lv_iload_n hx hb dX6_passFault_0 rfl (lv_at hl 1 rfl) ?_
  refine lv_iconst (v := 1) hx hb dX6_passFault_1 (by decide) ?_
  refine lv_bipush (v := 99) hx hb dX6_passFault_2 (by decide) ?_
  refine m_calls (As := [.int d, .int 1, .int 99]) (rest := []) hx hb hml hown hts hI (k_X6_in l d 1 99) (va_cwS 3 hts gX6_passFault_X6_in rfl rfl rfl (by decide +kernel) ⟨Nat.le_of_ble_eq_true rfl, Nat.le_of_ble_eq_true rfl⟩) rfl hl (Nat.le_of_ble_eq_true rfl) ⟨Nat.zero_le _, Nat.zero_le _⟩ dX6_passFault_4 rfl (fun r H locs h2 hI => ?_)
  rcases h2 with ⟨b1, rfl⟩ | ⟨b1, rfl⟩
  · skip
    refine lv_if_ne (tgt := 15) hx hb dX6_passFault_7 (by decide) (fun _ => ?_) (fun c3 => absurd c3 (by decide))
    refine lv_aload_n hx hb dX6_passFault_15 rfl (lv_at hl 0 rfl) ?_
    refine m_get hx hb hts hin hown hK hI 0 (by decide) (hts (.fieldLink RX6 7 "WinderLaddersModel" "s" "[I") (by decide +kernel)) (v := .ref (q 1)) rfl dX6_passFault_16 ?_
    refine lv_iconst (v := 4) hx hb dX6_passFault_19 (by decide) ?_
    refine m_ald hx hb hK hI 0 (by decide) (4) (by show _ < 140; omega) rfl (v := M 0 4) rfl dX6_passFault_20 ?_
    refine lv_iload_n hx hb dX6_passFault_21 rfl (lv_at hl 1 rfl) ?_
    refine lv_iadd hx hb dX6_passFault_22 ?_
    refine lv_sipush (v := 9999) hx hb dX6_passFault_23 (by decide) ?_
    refine lv_icmp_le (tgt := 34) hx hb dX6_passFault_26 (by decide) (fun c4 => ?_) (fun c4 => ?_)
    · skip
      refine lv_iconst (v := 0) hx hb dX6_passFault_34 (by decide) ?_
      exact m_iret (v := 0) hx hb hr hI (⟨by simp [passR, -Int32.not_le, b1, c4], rfl⟩) dX6_passFault_35 hlocks
    · skip
      refine lv_bipush (v := (-5)) hx hb dX6_passFault_29 (by decide) ?_
      refine lv_goto (tgt := 35) hx hb dX6_passFault_31 (by decide) ?_
      exact m_iret (v := (-5)) hx hb hr hI (⟨by simp [passR, -Int32.not_le, b1, c4], rfl⟩) dX6_passFault_35 hlocks
  · skip
    refine lv_if_ne (tgt := 15) hx hb dX6_passFault_7 (by decide) (fun c5 => absurd (by decide) c5) (fun _ => ?_)
    refine lv_bipush (v := (-2)) hx hb dX6_passFault_10 (by decide) ?_
    refine lv_goto (tgt := 35) hx hb dX6_passFault_12 (by decide) ?_
    exact m_iret (v := (-2)) hx hb hr hI (⟨by simp [passR, -Int32.not_le, b1], rfl⟩) dX6_passFault_35 hlocks

set_option maxHeartbeats 4000000 in
set_option maxRecDepth 100000 in
theorem k_X6_hangs (l : Launch) (dd : va_G) (g : Nat → ClassId) (q : Nat → Nat) (A : Nat → Prop) (hA : mA A q) (M : MS) (h u d : Int32) (hn : cn (M 0) < 16) (hW : Wk (M 0)) : Met l yX6_hangs wsX6_hangs ({ frames := 1, cells := 0, slots := 0, locals := 21 }) (mPre dd g q M [.ref (q 0), .int h, .int u, .int d]) (mQi dd g q A (fun r M' => r = nI (cn (M 0)) ∧ M' = ms0 M (newC (M 0) (cn (M 0)) h u d))) 0 0 A := by
  refine Met.ofW (cc := cX6_hangs) (maxL := 6) (ret := (some .int)) (by decide) rfl ?_
  intro p e s m args below meth c s₁ B hml hv
  obtain ⟨rfl, hP0, hK⟩ := hv
  have hx := B.exec
  have hb := B.bytes
  have hr := B.returns
  have hts := atoms_spec (ws := wsX6_hangs) B.pre
  have hown : s.vm.findClass RX6 = some m.cls := findClass_of_methodNamed B.named
  have hlocks := B.notSynchronized
  have hin : ∀ w ∈ wsX60, w ∈ wsX6_hangs := by decide +kernel
  have hI : mI dd g q A s.heap s.heap [] M := ⟨hP0, va_S.rf⟩
  have hl := lv_entry ([.ref (q 0), .int h, .int u, .int d]) (n := 6) (Nat.le_of_ble_eq_true rfl)
  rw [lg_entry_eq]
  generalize (lg_sl ([.ref (q 0), .int h, .int u, .int d]) ++ List.replicate (6 - (lg_sl ([.ref (q 0), .int h, .int u, .int d])).length) Slot.unset).toArray = ls at hl ⊢
  have hl : lv_has ls 6 [(0, .ref (q 0)), (1, .int h), (2, .int u), (3, .int d)] := hl
  have hc16 := hW.2.1
  have hl4 := hW.2.2.2
  refine lv_aload_n hx hb dX6_hangs_0 rfl (lv_at hl 0 rfl) ?_
  refine m_get hx hb hts hin hown hK hI 0 (by decide) (hts (.fieldLink RX6 7 "WinderLaddersModel" "s" "[I") (by decide +kernel)) (v := .ref (q 1)) rfl dX6_hangs_1 ?_
  refine lv_iconst (v := 5) hx hb dX6_hangs_4 (by decide) ?_
  refine m_ald hx hb hK hI 0 (by decide) (5) (by show _ < 140; omega) rfl (v := nI (cn (M 0))) hW.1 dX6_hangs_5 ?_
  refine lv_istore (lv' := [(4, .int (nI (cn (M 0)))), (0, .ref (q 0)), (1, .int h), (2, .int u), (3, .int d)]) hx hb dX6_hangs_6 hl (by decide) rfl (fun ls hl => ?_)
  refine lv_iconst (v := 0) hx hb dX6_hangs_8 (by decide) ?_
  refine lv_istore (lv' := [(5, .int 0), (4, .int (nI (cn (M 0)))), (0, .ref (q 0)), (1, .int h), (2, .int u), (3, .int d)]) hx hb dX6_hangs_9 hl (by decide) rfl (fun ls hl => ?_)
  have L11 : ∀ (fuel : Nat) (k : Nat) (h1 : k ≤ 8) (h2 : 8 < fuel + k) (H : Heap) (locs : List Loc) (ls : Array Slot), mI dd g q A s.heap H locs (ms0 M (zr1 (M 0) (cn (M 0)) k)) → lv_has ls 6 [(5, .int (nI k)), (4, .int (nI (cn (M 0)))), (0, .ref (q 0)), (1, .int h), (2, .int u), (3, .int d)] → wk p l e wsX6_hangs { frames := 1, cells := 0, slots := 0, locals := 21 } s m [.ref (q 0), .int h, .int u, .int d] below meth c H locs (mQi dd g q A (fun r M' => r = nI (cn (M 0)) ∧ M' = ms0 M (newC (M 0) (cn (M 0)) h u d))) (A) (F0 m 11 ls []) := by
    intro fuel
    induction fuel with
    | zero =>
      intro k h1 h2 H locs ls hI hl
      exact absurd h2 (by omega)
    | succ fuel ih =>
      intro k h1 h2 H locs ls hI hl
      refine lv_iload hx hb dX6_hangs_11 (lv_at hl 0 rfl) ?_
      refine lv_bipush (v := 8) hx hb dX6_hangs_13 (by decide) ?_
      refine lv_icmp_ge (tgt := 37) hx hb dX6_hangs_15 (by decide) (fun c1 => ?_) (fun c1 => ?_)
      · skip
        have nc1 : 8 ≤ k := (nI_leI (a := 8) (b := k) (by omega) (by omega)).mp c1
        have ek : k = 8 := by omega
        refine lv_aload_n hx hb dX6_hangs_37 rfl (lv_at hl 2 rfl) ?_
        refine m_get hx hb hts hin hown hK hI 0 (by decide) (hts (.fieldLink RX6 7 "WinderLaddersModel" "s" "[I") (by decide +kernel)) (v := .ref (q 1)) rfl dX6_hangs_38 ?_
        refine lv_iload hx hb dX6_hangs_41 (lv_at hl 1 rfl) ?_
        refine lv_iconst (v := 0) hx hb dX6_hangs_43 (by decide) ?_
        refine m_calls (As := [.int (nI (cn (M 0))), .int 0]) (rest := [.ref (q 1)]) hx hb hml hown hts hI (k_X6_at l (cn (M 0)) (0)) (va_cwS 2 hts gX6_hangs_X6_at rfl rfl rfl (by decide +kernel) ⟨Nat.le_of_ble_eq_true rfl, Nat.le_of_ble_eq_true rfl⟩) rfl hl (Nat.le_of_ble_eq_true rfl) ⟨Nat.zero_le _, Nat.zero_le _⟩ dX6_hangs_44 rfl (fun r H locs h2 hI => ?_)
        subst h2
        refine lv_iload_n hx hb dX6_hangs_47 rfl (lv_at hl 3 rfl) ?_
        refine m_ast hx hb hK hA hI 0 (by decide) (12 + 8 * (cn (M 0)) + 0) (by show _ < 140; omega) rfl dX6_hangs_48 (fun H locs hI => ?_)
        refine lv_aload_n hx hb dX6_hangs_49 rfl (lv_at hl 2 rfl) ?_
        refine m_get hx hb hts hin hown hK hI 0 (by decide) (hts (.fieldLink RX6 7 "WinderLaddersModel" "s" "[I") (by decide +kernel)) (v := .ref (q 1)) rfl dX6_hangs_50 ?_
        refine lv_iload hx hb dX6_hangs_53 (lv_at hl 1 rfl) ?_
        refine lv_iconst (v := 1) hx hb dX6_hangs_55 (by decide) ?_
        refine m_calls (As := [.int (nI (cn (M 0))), .int 1]) (rest := [.ref (q 1)]) hx hb hml hown hts hI (k_X6_at l (cn (M 0)) (1)) (va_cwS 2 hts gX6_hangs_X6_at rfl rfl rfl (by decide +kernel) ⟨Nat.le_of_ble_eq_true rfl, Nat.le_of_ble_eq_true rfl⟩) rfl hl (Nat.le_of_ble_eq_true rfl) ⟨Nat.zero_le _, Nat.zero_le _⟩ dX6_hangs_56 rfl (fun r H locs h3 hI => ?_)
        subst h3
        refine lv_iload_n hx hb dX6_hangs_59 rfl (lv_at hl 4 rfl) ?_
        refine m_ast hx hb hK hA hI 0 (by decide) (12 + 8 * (cn (M 0)) + 1) (by show _ < 140; omega) rfl dX6_hangs_60 (fun H locs hI => ?_)
        refine lv_aload_n hx hb dX6_hangs_61 rfl (lv_at hl 2 rfl) ?_
        refine m_get hx hb hts hin hown hK hI 0 (by decide) (hts (.fieldLink RX6 7 "WinderLaddersModel" "s" "[I") (by decide +kernel)) (v := .ref (q 1)) rfl dX6_hangs_62 ?_
        refine lv_iload hx hb dX6_hangs_65 (lv_at hl 1 rfl) ?_
        refine lv_iconst (v := 2) hx hb dX6_hangs_67 (by decide) ?_
        refine m_calls (As := [.int (nI (cn (M 0))), .int 2]) (rest := [.ref (q 1)]) hx hb hml hown hts hI (k_X6_at l (cn (M 0)) (2)) (va_cwS 2 hts gX6_hangs_X6_at rfl rfl rfl (by decide +kernel) ⟨Nat.le_of_ble_eq_true rfl, Nat.le_of_ble_eq_true rfl⟩) rfl hl (Nat.le_of_ble_eq_true rfl) ⟨Nat.zero_le _, Nat.zero_le _⟩ dX6_hangs_68 rfl (fun r H locs h4 hI => ?_)
        subst h4
        refine lv_iload_n hx hb dX6_hangs_71 rfl (lv_at hl 5 rfl) ?_
        refine m_ast hx hb hK hA hI 0 (by decide) (12 + 8 * (cn (M 0)) + 2) (by show _ < 140; omega) rfl dX6_hangs_72 (fun H locs hI => ?_)
        refine lv_aload_n hx hb dX6_hangs_73 rfl (lv_at hl 2 rfl) ?_
        refine m_get hx hb hts hin hown hK hI 0 (by decide) (hts (.fieldLink RX6 7 "WinderLaddersModel" "s" "[I") (by decide +kernel)) (v := .ref (q 1)) rfl dX6_hangs_74 ?_
        refine lv_iload hx hb dX6_hangs_77 (lv_at hl 1 rfl) ?_
        refine lv_bipush (v := 6) hx hb dX6_hangs_79 (by decide) ?_
        refine m_calls (As := [.int (nI (cn (M 0))), .int 6]) (rest := [.ref (q 1)]) hx hb hml hown hts hI (k_X6_at l (cn (M 0)) (6)) (va_cwS 2 hts gX6_hangs_X6_at rfl rfl rfl (by decide +kernel) ⟨Nat.le_of_ble_eq_true rfl, Nat.le_of_ble_eq_true rfl⟩) rfl hl (Nat.le_of_ble_eq_true rfl) ⟨Nat.zero_le _, Nat.zero_le _⟩ dX6_hangs_81 rfl (fun r H locs h5 hI => ?_)
        subst h5
        refine lv_iconst (v := 1) hx hb dX6_hangs_84 (by decide) ?_
        refine m_ast hx hb hK hA hI 0 (by decide) (12 + 8 * (cn (M 0)) + 6) (by show _ < 140; omega) rfl dX6_hangs_85 (fun H locs hI => ?_)
        refine lv_aload_n hx hb dX6_hangs_86 rfl (lv_at hl 2 rfl) ?_
        refine m_get hx hb hts hin hown hK hI 0 (by decide) (hts (.fieldLink RX6 7 "WinderLaddersModel" "s" "[I") (by decide +kernel)) (v := .ref (q 1)) rfl dX6_hangs_87 ?_
        refine lv_iconst (v := 5) hx hb dX6_hangs_90 (by decide) ?_
        refine lv_dup2_11 hx hb dX6_hangs_91 rfl rfl ?_
        refine m_ald hx hb hK hI 0 (by decide) (5) (by show _ < 140; omega) rfl (v := nI (cn (M 0))) ((mset_nj _ (by omega) _ _).trans ((mset_nj _ (by omega) _ _).trans ((mset_nj _ (by omega) _ _).trans ((mset_nj _ (by omega) _ _).trans ((by rw [ms0_0]; simp only [zr1]; rw [if_neg (by omega)]; exact hW.1)))))) dX6_hangs_92 ?_
        refine lv_iconst (v := 1) hx hb dX6_hangs_93 (by decide) ?_
        refine lv_iadd hx hb dX6_hangs_94 ?_
        refine lv_re (y := nI (cn (M 0) + 1)) (nI_add (cn (M 0)) (1)) ?_
        refine m_ast hx hb hK hA hI 0 (by decide) (5) (by show _ < 140; omega) rfl dX6_hangs_95 (fun H locs hI => ?_)
        refine lv_iload hx hb dX6_hangs_96 (lv_at hl 1 rfl) ?_
        exact m_iret (v := nI (cn (M 0))) hx hb hr hI (⟨rfl, by subst ek; simp only [mset_0, ms0_0, ms0_ms0]; rfl⟩) dX6_hangs_98 hlocks
      · skip
        have nc1 : ¬ (8 ≤ k) := fun h => c1 ((nI_leI (a := 8) (b := k) (by omega) (by omega)).mpr h)
        refine lv_aload_n hx hb dX6_hangs_18 rfl (lv_at hl 2 rfl) ?_
        refine m_get hx hb hts hin hown hK hI 0 (by decide) (hts (.fieldLink RX6 7 "WinderLaddersModel" "s" "[I") (by decide +kernel)) (v := .ref (q 1)) rfl dX6_hangs_19 ?_
        refine lv_iload hx hb dX6_hangs_22 (lv_at hl 1 rfl) ?_
        refine lv_iload hx hb dX6_hangs_24 (lv_at hl 0 rfl) ?_
        refine m_calls (As := [.int (nI (cn (M 0))), .int (nI k)]) (rest := [.ref (q 1)]) hx hb hml hown hts hI (k_X6_at l (cn (M 0)) (k)) (va_cwS 2 hts gX6_hangs_X6_at rfl rfl rfl (by decide +kernel) ⟨Nat.le_of_ble_eq_true rfl, Nat.le_of_ble_eq_true rfl⟩) rfl hl (Nat.le_of_ble_eq_true rfl) ⟨Nat.zero_le _, Nat.zero_le _⟩ dX6_hangs_26 rfl (fun r H locs h6 hI => ?_)
        subst h6
        refine lv_iconst (v := 0) hx hb dX6_hangs_29 (by decide) ?_
        refine m_ast hx hb hK hA hI 0 (by decide) (12 + 8 * (cn (M 0)) + k) (by show _ < 140; omega) rfl dX6_hangs_30 (fun H locs hI => ?_)
        refine lv_iinc (v := nI (k + 1)) (lv' := [(5, .int (nI (k + 1))), (4, .int (nI (cn (M 0)))), (0, .ref (q 0)), (1, .int h), (2, .int u), (3, .int d)]) hx hb dX6_hangs_31 hl (k := 0) rfl (by rw [show Int32.ofInt 1 = nI 1 from rfl, nI_add]) (by decide) rfl (fun ls hl => ?_)
        refine lv_goto (tgt := 11) hx hb dX6_hangs_34 (by decide) ?_
        exact ih (k + 1) (by omega) (by omega) _ _ _ (by rw [mset_0, ms0_0, ms0_ms0, zr1_s] at hI; exact hI) (lv_sub hl [0, 1, 2, 3, 4, 5] rfl)
  exact L11 9 0 (by omega) (by omega) _ _ _ (by rw [zr1_0, ms0_self]; exact hI) (lv_sub hl [0, 1, 2, 3, 4, 5] rfl)

set_option maxHeartbeats 4000000 in
set_option maxRecDepth 100000 in
theorem k_X6_buys (l : Launch) (dd : va_G) (g : Nat → ClassId) (q : Nat → Nat) (A : Nat → Prop) (hA : mA A q) (M : MS) (u : Int32) (hn : ln (M 0) < 4) (hW : Wk (M 0)) : Met l yX6_buys wsX6_buys ({ frames := 0, cells := 0, slots := 0, locals := 0 }) (mPre dd g q M [.ref (q 0), .int u]) (mQi dd g q A (fun r M' => r = nI (ln (M 0)) ∧ M' = ms0 M (upd (upd (M 0) (8 + ln (M 0)) u) 6 (nI (ln (M 0) + 1))))) 0 0 A := by
  refine Met.ofW (cc := cX6_buys) (maxL := 2) (ret := (some .int)) (by decide) rfl ?_
  intro p e s m args below meth c s₁ B hml hv
  obtain ⟨rfl, hP0, hK⟩ := hv
  have hx := B.exec
  have hb := B.bytes
  have hr := B.returns
  have hts := atoms_spec (ws := wsX6_buys) B.pre
  have hown : s.vm.findClass RX6 = some m.cls := findClass_of_methodNamed B.named
  have hlocks := B.notSynchronized
  have hin : ∀ w ∈ wsX60, w ∈ wsX6_buys := by decide +kernel
  have hI : mI dd g q A s.heap s.heap [] M := ⟨hP0, va_S.rf⟩
  have hl := lv_entry ([.ref (q 0), .int u]) (n := 2) (Nat.le_of_ble_eq_true rfl)
  rw [lg_entry_eq]
  generalize (lg_sl ([.ref (q 0), .int u]) ++ List.replicate (2 - (lg_sl ([.ref (q 0), .int u])).length) Slot.unset).toArray = ls at hl ⊢
  have hl : lv_has ls 2 [(0, .ref (q 0)), (1, .int u)] := hl
  have hc16 := hW.2.1
  have hl4 := hW.2.2.2
  refine lv_aload_n hx hb dX6_buys_0 rfl (lv_at hl 0 rfl) ?_
  refine m_get hx hb hts hin hown hK hI 0 (by decide) (hts (.fieldLink RX6 7 "WinderLaddersModel" "s" "[I") (by decide +kernel)) (v := .ref (q 1)) rfl dX6_buys_1 ?_
  refine lv_bipush (v := 8) hx hb dX6_buys_4 (by decide) ?_
  refine lv_aload_n hx hb dX6_buys_6 rfl (lv_at hl 0 rfl) ?_
  refine m_get hx hb hts hin hown hK hI 0 (by decide) (hts (.fieldLink RX6 7 "WinderLaddersModel" "s" "[I") (by decide +kernel)) (v := .ref (q 1)) rfl dX6_buys_7 ?_
  refine lv_bipush (v := 6) hx hb dX6_buys_10 (by decide) ?_
  refine m_ald hx hb hK hI 0 (by decide) (6) (by show _ < 140; omega) rfl (v := nI (ln (M 0))) hW.2.2.1 dX6_buys_12 ?_
  refine lv_iadd hx hb dX6_buys_13 ?_
  refine lv_re (y := nI (8 + (ln (M 0)))) (nI_add (8) (ln (M 0))) ?_
  refine lv_iload_n hx hb dX6_buys_14 rfl (lv_at hl 1 rfl) ?_
  refine m_ast hx hb hK hA hI 0 (by decide) (8 + (ln (M 0))) (by show _ < 140; omega) rfl dX6_buys_15 (fun H locs hI => ?_)
  refine lv_aload_n hx hb dX6_buys_16 rfl (lv_at hl 0 rfl) ?_
  refine m_get hx hb hts hin hown hK hI 0 (by decide) (hts (.fieldLink RX6 7 "WinderLaddersModel" "s" "[I") (by decide +kernel)) (v := .ref (q 1)) rfl dX6_buys_17 ?_
  refine lv_bipush (v := 6) hx hb dX6_buys_20 (by decide) ?_
  refine lv_dup2_11 hx hb dX6_buys_22 rfl rfl ?_
  refine m_ald hx hb hK hI 0 (by decide) (6) (by show _ < 140; omega) rfl (v := nI (ln (M 0))) ((mset_nj _ (by omega) _ _).trans (hW.2.2.1)) dX6_buys_23 ?_
  refine lv_iconst (v := 1) hx hb dX6_buys_24 (by decide) ?_
  refine lv_iadd hx hb dX6_buys_25 ?_
  refine lv_re (y := nI (ln (M 0) + 1)) (nI_add (ln (M 0)) (1)) ?_
  refine m_ast hx hb hK hA hI 0 (by decide) (6) (by show _ < 140; omega) rfl dX6_buys_26 (fun H locs hI => ?_)
  refine lv_aload_n hx hb dX6_buys_27 rfl (lv_at hl 0 rfl) ?_
  refine m_get hx hb hts hin hown hK hI 0 (by decide) (hts (.fieldLink RX6 7 "WinderLaddersModel" "s" "[I") (by decide +kernel)) (v := .ref (q 1)) rfl dX6_buys_28 ?_
  refine lv_bipush (v := 6) hx hb dX6_buys_31 (by decide) ?_
  refine m_ald hx hb hK hI 0 (by decide) (6) (by show _ < 140; omega) rfl (v := nI (ln (M 0) + 1)) (mset_eq _ _ _ _) dX6_buys_33 ?_
  refine lv_iconst (v := 1) hx hb dX6_buys_34 (by decide) ?_
  refine lv_isub hx hb dX6_buys_35 ?_
  exact m_iret (v := (nI (ln (M 0) + 1)) - 1) hx hb hr hI (⟨pk_sub (a := ln (M 0) + 1) (b := 1) (by omega), by simp only [mset_0, ms0_0, ms0_ms0]⟩) dX6_buys_36 hlocks
