set_option maxHeartbeats 4000000 in
set_option maxRecDepth 100000 in
theorem k_X6_rowFault (l : Launch) (dd : va_G) (g : Nat → ClassId) (q : Nat → Nat) (A : Nat → Prop) (hA : mA A q) (M : MS) (L : Nat) (hL : L ≤ 80) (h9 : M 9 0 = nI L) (hW : Wk (M 0)) : Met l yX6_rowFault wsX6_rowFault ({ frames := 2, cells := 0, slots := 0, locals := 43 }) (mPre dd g q M [.ref (q 0)]) (mQi dd g q A (fun r M' => r = rowE (M 0) (M 8) L ∧ M' = M)) 0 0 A := by
  refine Met.ofW (cc := cX6_rowFault) (maxL := 3) (ret := (some .int)) (by decide) rfl ?_
  intro p e s m args below meth c s₁ B hml hv
  obtain ⟨rfl, hP0, hK⟩ := hv
  have hx := B.exec
  have hb := B.bytes
  have hr := B.returns
  have hts := atoms_spec (ws := wsX6_rowFault) B.pre
  have hown : s.vm.findClass RX6 = some m.cls := findClass_of_methodNamed B.named
  have hlocks := B.notSynchronized
  have hin : ∀ w ∈ wsX60, w ∈ wsX6_rowFault := by decide +kernel
  have hI : mI dd g q A s.heap s.heap [] M := ⟨hP0, va_S.rf⟩
  have hl := lv_entry ([.ref (q 0)]) (n := 3) (Nat.le_of_ble_eq_true rfl)
  rw [lg_entry_eq]
  generalize (lg_sl ([.ref (q 0)]) ++ List.replicate (3 - (lg_sl ([.ref (q 0)])).length) Slot.unset).toArray = ls at hl ⊢
  have hl : lv_has ls 3 [(0, .ref (q 0))] := hl
  have hc16 := hW.2.1
  have hl4 := hW.2.2.2
  refine lv_iconst (v := 0) hx hb dX6_rowFault_0 (by decide) ?_
  refine lv_istore_n (lv' := [(1, .int 0), (0, .ref (q 0))]) hx hb dX6_rowFault_1 rfl hl (by decide) rfl (fun ls hl => ?_)
  refine lv_iconst (v := 0) hx hb dX6_rowFault_2 (by decide) ?_
  refine lv_istore_n (lv' := [(2, .int 0), (1, .int 0), (0, .ref (q 0))]) hx hb dX6_rowFault_3 rfl hl (by decide) rfl (fun ls hl => ?_)
  have L4 : ∀ (fuel : Nat) (k : Nat) (z : Int32) (h1 : k ≤ L) (h2 : L < fuel + k) (hz : z = rowE (M 0) (M 8) k) (H : Heap) (locs : List Loc) (ls : Array Slot), mI dd g q A s.heap H locs M → lv_has ls 3 [(2, .int (nI k)), (1, .int z), (0, .ref (q 0))] → wk p l e wsX6_rowFault { frames := 2, cells := 0, slots := 0, locals := 43 } s m [.ref (q 0)] below meth c H locs (mQi dd g q A (fun r M' => r = rowE (M 0) (M 8) L ∧ M' = M)) (A) (F0 m 4 ls []) := by
    intro fuel
    induction fuel with
    | zero =>
      intro k z h1 h2 hz H locs ls hI hl
      exact absurd h2 (by omega)
    | succ fuel ih =>
      intro k z h1 h2 hz H locs ls hI hl
      refine lv_iload_n hx hb dX6_rowFault_4 rfl (lv_at hl 0 rfl) ?_
      refine lv_aload_n hx hb dX6_rowFault_5 rfl (lv_at hl 2 rfl) ?_
      refine m_get hx hb hts hin hown hK hI 9 (by decide) (hts (.fieldLink RX6 58 "WinderLaddersModel" "inRow" "I") (by decide +kernel)) (v := .int (nI L)) (congrArg (fun z => some (Value.int z)) h9) dX6_rowFault_6 ?_
      refine lv_icmp_ge (tgt := 37) hx hb dX6_rowFault_9 (by decide) (fun c1 => ?_) (fun c1 => ?_)
      · skip
        have nc1 : L ≤ k := (nI_leI (a := L) (b := k) (by omega) (by omega)).mp c1
        refine lv_iload_n hx hb dX6_rowFault_37 rfl (lv_at hl 1 rfl) ?_
        exact m_iret (v := z) hx hb hr hI (⟨by rw [hz, show k = L by omega], rfl⟩) dX6_rowFault_38 hlocks
      · skip
        have nc1 : ¬ (L ≤ k) := fun h => c1 ((nI_leI (a := L) (b := k) (by omega) (by omega)).mpr h)
        refine lv_aload_n hx hb dX6_rowFault_12 rfl (lv_at hl 2 rfl) ?_
        refine lv_aload_n hx hb dX6_rowFault_13 rfl (lv_at hl 2 rfl) ?_
        refine m_get hx hb hts hin hown hK hI 8 (by decide) (hts (.fieldLink RX6 29 "WinderLaddersModel" "row" "[I") (by decide +kernel)) (v := .ref (q 7)) rfl dX6_rowFault_14 ?_
        refine lv_iload_n hx hb dX6_rowFault_17 rfl (lv_at hl 0 rfl) ?_
        refine m_ald hx hb hK hI 8 (by decide) (k) (by show _ < 80; omega) rfl (v := M 8 k) rfl dX6_rowFault_18 ?_
        refine m_calli (As := [.int (M 8 k)]) (rest := []) hx hb hml hown hts hK hI (k_X6_isClock l dd g q A hA M (M 8 k) hW) (cwV 1 hts gX6_rowFault_X6_isClock rfl rfl rfl (by decide +kernel) ⟨Nat.le_of_ble_eq_true rfl, Nat.le_of_ble_eq_true rfl⟩) rfl hl (Nat.le_of_ble_eq_true rfl) ⟨Nat.zero_le _, Nat.zero_le _⟩ dX6_rowFault_19 rfl (fun r M1 H locs h3 hI => ?_)
        obtain ⟨h3, hm9⟩ := h3
        rw [hm9] at hI
        rcases h3 with ⟨⟨i2, hi_i2⟩, rfl⟩ | ⟨b_i2, rfl⟩
        · skip
          have b_i2 : isCb (M 0) (M 8 k) = true := isCb_t hW hi_i2
          refine lv_if_eq (tgt := 29) hx hb dX6_rowFault_22 (by decide) (fun c4 => absurd c4 (by decide)) (fun _ => ?_)
          refine lv_iload_n hx hb dX6_rowFault_25 rfl (lv_at hl 1 rfl) ?_
          refine lv_goto (tgt := 30) hx hb dX6_rowFault_26 (by decide) ?_
          refine lv_istore_n (lv' := [(1, .int z), (2, .int (nI k)), (0, .ref (q 0))]) hx hb dX6_rowFault_30 rfl hl (by decide) rfl (fun ls hl => ?_)
          refine lv_iinc (v := nI (k + 1)) (lv' := [(2, .int (nI (k + 1))), (1, .int z), (0, .ref (q 0))]) hx hb dX6_rowFault_31 hl (k := 1) rfl (by rw [show Int32.ofInt 1 = nI 1 from rfl, nI_add]) (by decide) rfl (fun ls hl => ?_)
          refine lv_goto (tgt := 4) hx hb dX6_rowFault_34 (by decide) ?_
          exact ih (k + 1) (z) (by omega) (by omega) (by simp only [rowE, ← hz, if_neg c1, if_neg nc1, if_pos b_i2]) _ _ _ hI (lv_sub hl [0, 1, 2] rfl)
        · skip
          have b_i2 := isCb_f hW b_i2
          refine lv_if_eq (tgt := 29) hx hb dX6_rowFault_22 (by decide) (fun _ => ?_) (fun c5 => absurd (by decide) c5)
          refine lv_iconst (v := (-1)) hx hb dX6_rowFault_29 (by decide) ?_
          refine lv_istore_n (lv' := [(1, .int ((-1))), (2, .int (nI k)), (0, .ref (q 0))]) hx hb dX6_rowFault_30 rfl hl (by decide) rfl (fun ls hl => ?_)
          refine lv_iinc (v := nI (k + 1)) (lv' := [(2, .int (nI (k + 1))), (1, .int ((-1))), (0, .ref (q 0))]) hx hb dX6_rowFault_31 hl (k := 1) rfl (by rw [show Int32.ofInt 1 = nI 1 from rfl, nI_add]) (by decide) rfl (fun ls hl => ?_)
          refine lv_goto (tgt := 4) hx hb dX6_rowFault_34 (by decide) ?_
          exact ih (k + 1) ((-1)) (by omega) (by omega) (by simp only [rowE, ← hz, if_neg c1, if_neg nc1, if_neg (Bool.eq_false_iff.mp b_i2)]) _ _ _ hI (lv_sub hl [0, 1, 2] rfl)
  exact L4 81 0 0 (by omega) (by omega) rfl _ _ _ hI (lv_sub hl [0, 1, 2] rfl)

set_option maxHeartbeats 4000000 in
set_option maxRecDepth 100000 in
theorem k_X6_does (l : Launch) (dd : va_G) (g : Nat → ClassId) (q : Nat → Nat) (A : Nat → Prop) (hA : mA A q) (M : MS) (ch one two three : Int32) (h13 : M 13 0 = ch) (h14 : M 14 0 = one) (h15 : M 15 0 = two) (h16 : M 16 0 = three) (L : Nat) (hL : L ≤ 80) (h9 : M 9 0 = nI L) (hW : Wk (M 0)) : Met l yX6_does wsX6_does ({ frames := 5, cells := 0, slots := 0, locals := 115 }) (mPre dd g q M [.ref (q 0)]) (mQi dd g q A (fun r M' => (exE (M 0) ch one two three L (M 8) = 0 ∧ r = 1 ∧ M' = ms0 M (exF (M 0) ch one two three L (M 8))) ∨ (exE (M 0) ch one two three L (M 8) ≠ 0 ∧ r = 0 ∧ M' = M))) 0 0 A := by
  refine Met.ofW (cc := cX6_does) (maxL := 4) (ret := (some .boolean)) (by decide) rfl ?_
  intro p e s m args below meth c s₁ B hml hv
  obtain ⟨rfl, hP0, hK⟩ := hv
  have hx := B.exec
  have hb := B.bytes
  have hr := B.returns
  have hts := atoms_spec (ws := wsX6_does) B.pre
  have hown : s.vm.findClass RX6 = some m.cls := findClass_of_methodNamed B.named
  have hlocks := B.notSynchronized
  have hin : ∀ w ∈ wsX60, w ∈ wsX6_does := by decide +kernel
  have hI : mI dd g q A s.heap s.heap [] M := ⟨hP0, va_S.rf⟩
  have hl := lv_entry ([.ref (q 0)]) (n := 4) (Nat.le_of_ble_eq_true rfl)
  rw [lg_entry_eq]
  generalize (lg_sl ([.ref (q 0)]) ++ List.replicate (4 - (lg_sl ([.ref (q 0)])).length) Slot.unset).toArray = ls at hl ⊢
  have hl : lv_has ls 4 [(0, .ref (q 0))] := hl
  have hc16 := hW.2.1
  have hl4 := hW.2.2.2
  refine lv_aload_n hx hb dX6_does_0 rfl (lv_at hl 0 rfl) ?_
  refine m_get hx hb hts hin hown hK hI 13 (by decide) (hts (.fieldLink RX6 152 "WinderLaddersModel" "letter" "I") (by decide +kernel)) (v := .int ch) (congrArg (fun z => some (Value.int z)) h13) dX6_does_1 ?_
  refine lv_istore_n (lv' := [(1, .int ch), (0, .ref (q 0))]) hx hb dX6_does_4 rfl hl (by decide) rfl (fun ls hl => ?_)
  refine lv_iload_n hx hb dX6_does_5 rfl (lv_at hl 0 rfl) ?_
  refine lv_bipush (v := 43) hx hb dX6_does_6 (by decide) ?_
  refine lv_icmp_ne (tgt := 30) hx hb dX6_does_8 (by decide) (fun c1 => ?_) (fun c1 => ?_)
  · skip
    refine lv_iload_n hx hb dX6_does_30 rfl (lv_at hl 0 rfl) ?_
    refine lv_bipush (v := 108) hx hb dX6_does_31 (by decide) ?_
    refine lv_icmp_ne (tgt := 47) hx hb dX6_does_33 (by decide) (fun c2 => ?_) (fun c2 => ?_)
    · skip
      refine lv_iload_n hx hb dX6_does_47 rfl (lv_at hl 0 rfl) ?_
      refine lv_bipush (v := 98) hx hb dX6_does_48 (by decide) ?_
      refine lv_icmp_ne (tgt := 60) hx hb dX6_does_50 (by decide) (fun c3 => ?_) (fun c3 => ?_)
      · skip
        refine lv_iload_n hx hb dX6_does_60 rfl (lv_at hl 0 rfl) ?_
        refine lv_bipush (v := 116) hx hb dX6_does_61 (by decide) ?_
        refine lv_icmp_ne (tgt := 77) hx hb dX6_does_63 (by decide) (fun c4 => ?_) (fun c4 => ?_)
        · skip
          refine lv_iconst (v := 0) hx hb dX6_does_77 (by decide) ?_
          refine lv_istore_n (lv' := [(2, .int 0), (1, .int ch), (0, .ref (q 0))]) hx hb dX6_does_78 rfl hl (by decide) rfl (fun ls hl => ?_)
          refine lv_iload_n hx hb dX6_does_79 rfl (lv_at hl 0 rfl) ?_
          refine lv_if_ne (tgt := 171) hx hb dX6_does_80 (by decide) (fun c5 => absurd (by decide) c5) (fun _ => ?_)
          refine lv_iload_n hx hb dX6_does_83 rfl (lv_at hl 1 rfl) ?_
          refine lv_bipush (v := 43) hx hb dX6_does_84 (by decide) ?_
          refine lv_icmp_ne (tgt := 108) hx hb dX6_does_86 (by decide) (fun c6 => ?_) (fun c6 => ?_)
          · skip
            refine lv_iload_n hx hb dX6_does_108 rfl (lv_at hl 1 rfl) ?_
            refine lv_bipush (v := 108) hx hb dX6_does_109 (by decide) ?_
            refine lv_icmp_ne (tgt := 125) hx hb dX6_does_111 (by decide) (fun c7 => ?_) (fun c7 => ?_)
            · skip
              refine lv_iload_n hx hb dX6_does_125 rfl (lv_at hl 1 rfl) ?_
              refine lv_bipush (v := 98) hx hb dX6_does_126 (by decide) ?_
              refine lv_icmp_ne (tgt := 138) hx hb dX6_does_128 (by decide) (fun c8 => ?_) (fun c8 => ?_)
              · skip
                refine lv_iload_n hx hb dX6_does_138 rfl (lv_at hl 1 rfl) ?_
                refine lv_bipush (v := 116) hx hb dX6_does_139 (by decide) ?_
                refine lv_icmp_ne (tgt := 155) hx hb dX6_does_141 (by decide) (fun c9 => ?_) (fun c9 => ?_)
                · skip
                  refine lv_aload_n hx hb dX6_does_155 rfl (lv_at hl 2 rfl) ?_
                  refine lv_iload_n hx hb dX6_does_156 rfl (lv_at hl 1 rfl) ?_
                  refine lv_bipush (v := 97) hx hb dX6_does_157 (by decide) ?_
                  refine lv_icmp_ne (tgt := 166) hx hb dX6_does_159 (by decide) (fun c10 => ?_) (fun c10 => ?_)
                  · skip
                    refine lv_iconst (v := 0) hx hb dX6_does_166 (by decide) ?_
                    refine m_calli (As := [.int 0]) (rest := []) hx hb hml hown hts hK hI (k_X6_changes l dd g q A hA M 0 hW) (cwV 1 hts gX6_does_X6_changes rfl rfl rfl (by decide +kernel) ⟨Nat.le_of_ble_eq_true rfl, Nat.le_of_ble_eq_true rfl⟩) rfl hl (Nat.le_of_ble_eq_true rfl) ⟨Nat.zero_le _, Nat.zero_le _⟩ dX6_does_167 rfl (fun r M1 H locs h11 hI => ?_)
                    obtain ⟨hr9, hm9⟩ := h11
                    rw [hm9] at hr9 hI
                    subst hr9
                    refine lv_istore_n (lv' := [(3, .int (nI (cn (M 0)) - stV (chgA (M 0) 0 (cn (M 0))))), (2, .int 0), (1, .int ch), (0, .ref (q 0))]) hx hb dX6_does_170 rfl hl (by decide) rfl (fun ls hl => ?_)
                    refine lv_iload_n hx hb dX6_does_171 rfl (lv_at hl 1 rfl) ?_
                    refine lv_if_ne (tgt := 179) hx hb dX6_does_172 (by decide) (fun c12 => absurd (by decide) c12) (fun _ => ?_)
                    refine lv_iconst (v := 1) hx hb dX6_does_175 (by decide) ?_
                    refine lv_goto (tgt := 180) hx hb dX6_does_176 (by decide) ?_
                    exact m_zret (v := 1) hx hb hr (by first | rfl | decide) hI (Or.inl ⟨by simp [exE, c1, c2, c3, c4, c6, c7, c8, c9, c10], rfl, by first | (simp [exF, c1, c2, c3, c4, c6, c7, c8, c9, c10]; done) | (simp only [exF, reduceIte, if_neg c1, if_neg c2, if_neg c3, if_neg c4, if_neg c6, if_neg c7, if_neg c8, if_neg c9, if_neg c10]; rfl) | (simp only [exF, reduceIte, ix_nI (show j0 < 2 ^ 31 by omega), if_neg c1, if_neg c2, if_neg c3, if_neg c4, if_neg c6, if_neg c7, if_neg c8, if_neg c9, if_neg c10]; rfl)⟩) dX6_does_180 hlocks
                  · skip
                    subst c10
                    refine lv_iconst (v := 1) hx hb dX6_does_162 (by decide) ?_
                    refine lv_goto (tgt := 167) hx hb dX6_does_163 (by decide) ?_
                    refine m_calli (As := [.int 1]) (rest := []) hx hb hml hown hts hK hI (k_X6_changes l dd g q A hA M 1 hW) (cwV 1 hts gX6_does_X6_changes rfl rfl rfl (by decide +kernel) ⟨Nat.le_of_ble_eq_true rfl, Nat.le_of_ble_eq_true rfl⟩) rfl hl (Nat.le_of_ble_eq_true rfl) ⟨Nat.zero_le _, Nat.zero_le _⟩ dX6_does_167 rfl (fun r M1 H locs h13 hI => ?_)
                    obtain ⟨hr9, hm9⟩ := h13
                    rw [hm9] at hr9 hI
                    subst hr9
                    refine lv_istore_n (lv' := [(3, .int (nI (cn (M 0)) - stV (chgA (M 0) 1 (cn (M 0))))), (2, .int 0), (1, .int 97), (0, .ref (q 0))]) hx hb dX6_does_170 rfl hl (by decide) rfl (fun ls hl => ?_)
                    refine lv_iload_n hx hb dX6_does_171 rfl (lv_at hl 1 rfl) ?_
                    refine lv_if_ne (tgt := 179) hx hb dX6_does_172 (by decide) (fun c14 => absurd (by decide) c14) (fun _ => ?_)
                    refine lv_iconst (v := 1) hx hb dX6_does_175 (by decide) ?_
                    refine lv_goto (tgt := 180) hx hb dX6_does_176 (by decide) ?_
                    exact m_zret (v := 1) hx hb hr (by first | rfl | decide) hI (Or.inl ⟨by simp [exE, c1, c2, c3, c4, c6, c7, c8, c9], rfl, by first | (simp [exF, c1, c2, c3, c4, c6, c7, c8, c9]; done) | (simp only [exF, reduceIte, if_neg c1, if_neg c2, if_neg c3, if_neg c4, if_neg c6, if_neg c7, if_neg c8, if_neg c9]; rfl) | (simp only [exF, reduceIte, ix_nI (show j0 < 2 ^ 31 by omega), if_neg c1, if_neg c2, if_neg c3, if_neg c4, if_neg c6, if_neg c7, if_neg c8, if_neg c9]; rfl)⟩) dX6_does_180 hlocks
                · skip
                  exact absurd c9 c4
              · skip
                exact absurd c8 c3
            · skip
              exact absurd c7 c2
          · skip
            exact absurd c6 c1
        · skip
          subst c4
          refine lv_aload_n hx hb dX6_does_66 rfl (lv_at hl 1 rfl) ?_
          refine lv_aload_n hx hb dX6_does_67 rfl (lv_at hl 1 rfl) ?_
          refine m_get hx hb hts hin hown hK hI 14 (by decide) (hts (.fieldLink RX6 158 "WinderLaddersModel" "one" "I") (by decide +kernel)) (v := .int one) (congrArg (fun z => some (Value.int z)) h14) dX6_does_68 ?_
          refine m_calli (As := [.int one]) (rest := []) hx hb hml hown hts hK hI (k_X6_passFault l dd g q A hA M one) (cwV 1 hts gX6_does_X6_passFault rfl rfl rfl (by decide +kernel) ⟨Nat.le_of_ble_eq_true rfl, Nat.le_of_ble_eq_true rfl⟩) rfl hl (Nat.le_of_ble_eq_true rfl) ⟨Nat.zero_le _, Nat.zero_le _⟩ dX6_does_71 rfl (fun r M1 H locs h15 hI => ?_)
          obtain ⟨hr9, hm9⟩ := h15
          rw [hm9] at hI
          subst hr9
          refine lv_goto (tgt := 78) hx hb dX6_does_74 (by decide) ?_
          refine lv_istore_n (lv' := [(2, .int (passR (M 0) one)), (1, .int 116), (0, .ref (q 0))]) hx hb dX6_does_78 rfl hl (by decide) rfl (fun ls hl => ?_)
          refine lv_iload_n hx hb dX6_does_79 rfl (lv_at hl 0 rfl) ?_
          refine lv_if_ne (tgt := 171) hx hb dX6_does_80 (by decide) (fun c16 => ?_) (fun c16 => ?_)
          · skip
            refine lv_iload_n hx hb dX6_does_171 rfl (lv_at hl 0 rfl) ?_
            refine lv_if_ne (tgt := 179) hx hb dX6_does_172 (by decide) (fun c17 => ?_) (fun c17 => ?_)
            · skip
              refine lv_iconst (v := 0) hx hb dX6_does_179 (by decide) ?_
              exact m_zret (v := 0) hx hb hr (by first | rfl | decide) hI (Or.inr ⟨by simp [exE, c1, c2, c3, c16, c17], rfl, rfl⟩) dX6_does_180 hlocks
            · skip
              exact absurd c17 c16
          · skip
            refine lv_iload_n hx hb dX6_does_83 rfl (lv_at hl 1 rfl) ?_
            refine lv_bipush (v := 43) hx hb dX6_does_84 (by decide) ?_
            refine lv_icmp_ne (tgt := 108) hx hb dX6_does_86 (by decide) (fun _ => ?_) (fun c18 => absurd c18 (by decide))
            refine lv_iload_n hx hb dX6_does_108 rfl (lv_at hl 1 rfl) ?_
            refine lv_bipush (v := 108) hx hb dX6_does_109 (by decide) ?_
            refine lv_icmp_ne (tgt := 125) hx hb dX6_does_111 (by decide) (fun _ => ?_) (fun c19 => absurd c19 (by decide))
            refine lv_iload_n hx hb dX6_does_125 rfl (lv_at hl 1 rfl) ?_
            refine lv_bipush (v := 98) hx hb dX6_does_126 (by decide) ?_
            refine lv_icmp_ne (tgt := 138) hx hb dX6_does_128 (by decide) (fun _ => ?_) (fun c20 => absurd c20 (by decide))
            refine lv_iload_n hx hb dX6_does_138 rfl (lv_at hl 1 rfl) ?_
            refine lv_bipush (v := 116) hx hb dX6_does_139 (by decide) ?_
            refine lv_icmp_ne (tgt := 155) hx hb dX6_does_141 (by decide) (fun c21 => absurd (by decide) c21) (fun _ => ?_)
            have hzp := passR_0 (f := M 0) (d := one) (by rw [c16]; decide)
            obtain ⟨j0, hj1, hj2, ej⟩ := inB1_nI (n := 99) (by decide) hzp.2.1
            subst ej
            refine lv_aload_n hx hb dX6_does_144 rfl (lv_at hl 2 rfl) ?_
            refine lv_aload_n hx hb dX6_does_145 rfl (lv_at hl 2 rfl) ?_
            refine m_get hx hb hts hin hown hK hI 14 (by decide) (hts (.fieldLink RX6 158 "WinderLaddersModel" "one" "I") (by decide +kernel)) (v := .int (nI j0)) (congrArg (fun z => some (Value.int z)) h14) dX6_does_146 ?_
            refine m_calli (As := [.int (nI j0)]) (rest := []) hx hb hml hown hts hK hI (k_X6_passes l dd g q A hA M j0 (by omega) hW) (cwV 1 hts gX6_does_X6_passes rfl rfl rfl (by decide +kernel) ⟨Nat.le_of_ble_eq_true rfl, Nat.le_of_ble_eq_true rfl⟩) rfl hl (Nat.le_of_ble_eq_true rfl) ⟨Nat.zero_le _, Nat.zero_le _⟩ dX6_does_149 rfl (fun r M1 H locs h22 hI => ?_)
            obtain ⟨hr9, hm9⟩ := h22
            rw [hm9] at hr9 hI
            subst hr9
            refine lv_goto (tgt := 170) hx hb dX6_does_152 (by decide) ?_
            refine lv_istore_n (lv' := [(3, .int (stV (pasF (M 0) j0))), (2, .int (passR (M 0) (nI j0))), (1, .int 116), (0, .ref (q 0))]) hx hb dX6_does_170 rfl hl (by decide) rfl (fun ls hl => ?_)
            refine lv_iload_n hx hb dX6_does_171 rfl (lv_at hl 1 rfl) ?_
            refine lv_if_ne (tgt := 179) hx hb dX6_does_172 (by decide) (fun c23 => ?_) (fun c23 => ?_)
            · skip
              exact absurd c16 c23
            · skip
              refine lv_iconst (v := 1) hx hb dX6_does_175 (by decide) ?_
              refine lv_goto (tgt := 180) hx hb dX6_does_176 (by decide) ?_
              exact m_zret (v := 1) hx hb hr (by first | rfl | decide) hI (Or.inl ⟨by simp [exE, c1, c2, c3, c16, c23], rfl, by first | (simp [exF, c1, c2, c3, c16, c23]; done) | (simp only [exF, reduceIte, if_neg c1, if_neg c2, if_neg c3, if_pos c16, if_pos c23]; rfl) | (simp only [exF, reduceIte, ix_nI (show j0 < 2 ^ 31 by omega), if_neg c1, if_neg c2, if_neg c3, if_pos c16, if_pos c23]; rfl)⟩) dX6_does_180 hlocks
      · skip
        subst c3
        refine lv_aload_n hx hb dX6_does_53 rfl (lv_at hl 1 rfl) ?_
        refine m_calli (As := []) (rest := []) hx hb hml hown hts hK hI (k_X6_rowFault l dd g q A hA M L hL h9 hW) (cwV 0 hts gX6_does_X6_rowFault rfl rfl rfl (by decide +kernel) ⟨Nat.le_of_ble_eq_true rfl, Nat.le_of_ble_eq_true rfl⟩) rfl hl (Nat.le_of_ble_eq_true rfl) ⟨Nat.zero_le _, Nat.zero_le _⟩ dX6_does_54 rfl (fun r M1 H locs h24 hI => ?_)
        obtain ⟨hr9, hm9⟩ := h24
        rw [hm9] at hI
        subst hr9
        refine lv_goto (tgt := 78) hx hb dX6_does_57 (by decide) ?_
        refine lv_istore_n (lv' := [(2, .int (rowE (M 0) (M 8) L)), (1, .int 98), (0, .ref (q 0))]) hx hb dX6_does_78 rfl hl (by decide) rfl (fun ls hl => ?_)
        refine lv_iload_n hx hb dX6_does_79 rfl (lv_at hl 0 rfl) ?_
        refine lv_if_ne (tgt := 171) hx hb dX6_does_80 (by decide) (fun c25 => ?_) (fun c25 => ?_)
        · skip
          refine lv_iload_n hx hb dX6_does_171 rfl (lv_at hl 0 rfl) ?_
          refine lv_if_ne (tgt := 179) hx hb dX6_does_172 (by decide) (fun c26 => ?_) (fun c26 => ?_)
          · skip
            refine lv_iconst (v := 0) hx hb dX6_does_179 (by decide) ?_
            exact m_zret (v := 0) hx hb hr (by first | rfl | decide) hI (Or.inr ⟨by simp [exE, c1, c2, c25, c26], rfl, rfl⟩) dX6_does_180 hlocks
          · skip
            exact absurd c26 c25
        · skip
          refine lv_iload_n hx hb dX6_does_83 rfl (lv_at hl 1 rfl) ?_
          refine lv_bipush (v := 43) hx hb dX6_does_84 (by decide) ?_
          refine lv_icmp_ne (tgt := 108) hx hb dX6_does_86 (by decide) (fun _ => ?_) (fun c27 => absurd c27 (by decide))
          refine lv_iload_n hx hb dX6_does_108 rfl (lv_at hl 1 rfl) ?_
          refine lv_bipush (v := 108) hx hb dX6_does_109 (by decide) ?_
          refine lv_icmp_ne (tgt := 125) hx hb dX6_does_111 (by decide) (fun _ => ?_) (fun c28 => absurd c28 (by decide))
          refine lv_iload_n hx hb dX6_does_125 rfl (lv_at hl 1 rfl) ?_
          refine lv_bipush (v := 98) hx hb dX6_does_126 (by decide) ?_
          refine lv_icmp_ne (tgt := 138) hx hb dX6_does_128 (by decide) (fun c29 => absurd (by decide) c29) (fun _ => ?_)
          have hz8 := rowE_0 hW L c25
          refine lv_aload_n hx hb dX6_does_131 rfl (lv_at hl 2 rfl) ?_
          refine m_calli (As := []) (rest := []) hx hb hml hown hts hK hI (k_X6_goes l dd g q A hA M L hL h9 hz8 hW) (cwV 0 hts gX6_does_X6_goes rfl rfl rfl (by decide +kernel) ⟨Nat.le_of_ble_eq_true rfl, Nat.le_of_ble_eq_true rfl⟩) rfl hl (Nat.le_of_ble_eq_true rfl) ⟨Nat.zero_le _, Nat.zero_le _⟩ dX6_does_132 rfl (fun r M1 H locs h30 hI => ?_)
          obtain ⟨hr9, hm9⟩ := h30
          rw [hm9] at hI
          subst hr9
          refine lv_goto (tgt := 170) hx hb dX6_does_135 (by decide) ?_
          refine lv_istore_n (lv' := [(3, .int (miV (M 0) (M 8) L)), (2, .int (rowE (M 0) (M 8) L)), (1, .int 98), (0, .ref (q 0))]) hx hb dX6_does_170 rfl hl (by decide) rfl (fun ls hl => ?_)
          refine lv_iload_n hx hb dX6_does_171 rfl (lv_at hl 1 rfl) ?_
          refine lv_if_ne (tgt := 179) hx hb dX6_does_172 (by decide) (fun c31 => ?_) (fun c31 => ?_)
          · skip
            exact absurd c25 c31
          · skip
            refine lv_iconst (v := 1) hx hb dX6_does_175 (by decide) ?_
            refine lv_goto (tgt := 180) hx hb dX6_does_176 (by decide) ?_
            exact m_zret (v := 1) hx hb hr (by first | rfl | decide) hI (Or.inl ⟨by simp [exE, c1, c2, c25, c31], rfl, by first | (simp [exF, c1, c2, c25, c31]; done) | (simp only [exF, reduceIte, if_neg c1, if_neg c2, if_pos c25, if_pos c31]; rfl) | (simp only [exF, reduceIte, ix_nI (show j0 < 2 ^ 31 by omega), if_neg c1, if_neg c2, if_pos c25, if_pos c31]; rfl)⟩) dX6_does_180 hlocks
    · skip
      subst c2
      refine lv_aload_n hx hb dX6_does_36 rfl (lv_at hl 1 rfl) ?_
      refine lv_aload_n hx hb dX6_does_37 rfl (lv_at hl 1 rfl) ?_
      refine m_get hx hb hts hin hown hK hI 14 (by decide) (hts (.fieldLink RX6 158 "WinderLaddersModel" "one" "I") (by decide +kernel)) (v := .int one) (congrArg (fun z => some (Value.int z)) h14) dX6_does_38 ?_
      refine m_calli (As := [.int one]) (rest := []) hx hb hml hown hts hK hI (k_X6_ladderFault l dd g q A hA M one hW) (cwV 1 hts gX6_does_X6_ladderFault rfl rfl rfl (by decide +kernel) ⟨Nat.le_of_ble_eq_true rfl, Nat.le_of_ble_eq_true rfl⟩) rfl hl (Nat.le_of_ble_eq_true rfl) ⟨Nat.zero_le _, Nat.zero_le _⟩ dX6_does_41 rfl (fun r M1 H locs h32 hI => ?_)
      obtain ⟨hr9, hm9⟩ := h32
      rw [hm9] at hI
      subst hr9
      refine lv_goto (tgt := 78) hx hb dX6_does_44 (by decide) ?_
      refine lv_istore_n (lv' := [(2, .int (lddR (M 0) one)), (1, .int 108), (0, .ref (q 0))]) hx hb dX6_does_78 rfl hl (by decide) rfl (fun ls hl => ?_)
      refine lv_iload_n hx hb dX6_does_79 rfl (lv_at hl 0 rfl) ?_
      refine lv_if_ne (tgt := 171) hx hb dX6_does_80 (by decide) (fun c33 => ?_) (fun c33 => ?_)
      · skip
        refine lv_iload_n hx hb dX6_does_171 rfl (lv_at hl 0 rfl) ?_
        refine lv_if_ne (tgt := 179) hx hb dX6_does_172 (by decide) (fun c34 => ?_) (fun c34 => ?_)
        · skip
          refine lv_iconst (v := 0) hx hb dX6_does_179 (by decide) ?_
          exact m_zret (v := 0) hx hb hr (by first | rfl | decide) hI (Or.inr ⟨by simp [exE, c1, c33, c34], rfl, rfl⟩) dX6_does_180 hlocks
        · skip
          exact absurd c34 c33
      · skip
        refine lv_iload_n hx hb dX6_does_83 rfl (lv_at hl 1 rfl) ?_
        refine lv_bipush (v := 43) hx hb dX6_does_84 (by decide) ?_
        refine lv_icmp_ne (tgt := 108) hx hb dX6_does_86 (by decide) (fun _ => ?_) (fun c35 => absurd c35 (by decide))
        refine lv_iload_n hx hb dX6_does_108 rfl (lv_at hl 1 rfl) ?_
        refine lv_bipush (v := 108) hx hb dX6_does_109 (by decide) ?_
        refine lv_icmp_ne (tgt := 125) hx hb dX6_does_111 (by decide) (fun c36 => absurd (by decide) c36) (fun _ => ?_)
        have hn : ln (M 0) < 4 := by have := (lddR_0 (f := M 0) (u := one) (by rw [c33]; decide)).2.2; omega
        refine lv_aload_n hx hb dX6_does_114 rfl (lv_at hl 2 rfl) ?_
        refine lv_aload_n hx hb dX6_does_115 rfl (lv_at hl 2 rfl) ?_
        refine m_get hx hb hts hin hown hK hI 14 (by decide) (hts (.fieldLink RX6 158 "WinderLaddersModel" "one" "I") (by decide +kernel)) (v := .int one) (congrArg (fun z => some (Value.int z)) h14) dX6_does_116 ?_
        refine m_calli (As := [.int one]) (rest := []) hx hb hml hown hts hK hI (k_X6_buys l dd g q A hA M one hn hW) (cwV 1 hts gX6_does_X6_buys rfl rfl rfl (by decide +kernel) ⟨Nat.le_of_ble_eq_true rfl, Nat.le_of_ble_eq_true rfl⟩) rfl hl (Nat.le_of_ble_eq_true rfl) ⟨Nat.zero_le _, Nat.zero_le _⟩ dX6_does_119 rfl (fun r M1 H locs h37 hI => ?_)
        obtain ⟨hr9, hm9⟩ := h37
        rw [hm9] at hI
        subst hr9
        refine lv_goto (tgt := 170) hx hb dX6_does_122 (by decide) ?_
        refine lv_istore_n (lv' := [(3, .int (nI (ln (M 0)))), (2, .int (lddR (M 0) one)), (1, .int 108), (0, .ref (q 0))]) hx hb dX6_does_170 rfl hl (by decide) rfl (fun ls hl => ?_)
        refine lv_iload_n hx hb dX6_does_171 rfl (lv_at hl 1 rfl) ?_
        refine lv_if_ne (tgt := 179) hx hb dX6_does_172 (by decide) (fun c38 => ?_) (fun c38 => ?_)
        · skip
          exact absurd c33 c38
        · skip
          refine lv_iconst (v := 1) hx hb dX6_does_175 (by decide) ?_
          refine lv_goto (tgt := 180) hx hb dX6_does_176 (by decide) ?_
          exact m_zret (v := 1) hx hb hr (by first | rfl | decide) hI (Or.inl ⟨by simp [exE, c1, c33, c38], rfl, by first | (simp [exF, c1, c33, c38]; done) | (simp only [exF, reduceIte, if_neg c1, if_pos c33, if_pos c38]; rfl) | (simp only [exF, reduceIte, ix_nI (show j0 < 2 ^ 31 by omega), if_neg c1, if_pos c33, if_pos c38]; rfl)⟩) dX6_does_180 hlocks
  · skip
    subst c1
    refine lv_aload_n hx hb dX6_does_11 rfl (lv_at hl 1 rfl) ?_
    refine lv_aload_n hx hb dX6_does_12 rfl (lv_at hl 1 rfl) ?_
    refine m_get hx hb hts hin hown hK hI 14 (by decide) (hts (.fieldLink RX6 158 "WinderLaddersModel" "one" "I") (by decide +kernel)) (v := .int one) (congrArg (fun z => some (Value.int z)) h14) dX6_does_13 ?_
    refine lv_aload_n hx hb dX6_does_16 rfl (lv_at hl 1 rfl) ?_
    refine m_get hx hb hts hin hown hK hI 15 (by decide) (hts (.fieldLink RX6 161 "WinderLaddersModel" "two" "I") (by decide +kernel)) (v := .int two) (congrArg (fun z => some (Value.int z)) h15) dX6_does_17 ?_
    refine lv_aload_n hx hb dX6_does_20 rfl (lv_at hl 1 rfl) ?_
    refine m_get hx hb hts hin hown hK hI 16 (by decide) (hts (.fieldLink RX6 164 "WinderLaddersModel" "three" "I") (by decide +kernel)) (v := .int three) (congrArg (fun z => some (Value.int z)) h16) dX6_does_21 ?_
    refine m_calli (As := [.int one, .int two, .int three]) (rest := []) hx hb hml hown hts hK hI (k_X6_hangFault l dd g q A hA M one two three hW) (cwV 3 hts gX6_does_X6_hangFault rfl rfl rfl (by decide +kernel) ⟨Nat.le_of_ble_eq_true rfl, Nat.le_of_ble_eq_true rfl⟩) rfl hl (Nat.le_of_ble_eq_true rfl) ⟨Nat.zero_le _, Nat.zero_le _⟩ dX6_does_24 rfl (fun r M1 H locs h39 hI => ?_)
    obtain ⟨hr9, hm9⟩ := h39
    rw [hm9] at hI
    subst hr9
    refine lv_goto (tgt := 78) hx hb dX6_does_27 (by decide) ?_
    refine lv_istore_n (lv' := [(2, .int (hangR (M 0) one two three)), (1, .int 43), (0, .ref (q 0))]) hx hb dX6_does_78 rfl hl (by decide) rfl (fun ls hl => ?_)
    refine lv_iload_n hx hb dX6_does_79 rfl (lv_at hl 0 rfl) ?_
    refine lv_if_ne (tgt := 171) hx hb dX6_does_80 (by decide) (fun c40 => ?_) (fun c40 => ?_)
    · skip
      refine lv_iload_n hx hb dX6_does_171 rfl (lv_at hl 0 rfl) ?_
      refine lv_if_ne (tgt := 179) hx hb dX6_does_172 (by decide) (fun c41 => ?_) (fun c41 => ?_)
      · skip
        refine lv_iconst (v := 0) hx hb dX6_does_179 (by decide) ?_
        exact m_zret (v := 0) hx hb hr (by first | rfl | decide) hI (Or.inr ⟨by simp [exE, c40, c41], rfl, rfl⟩) dX6_does_180 hlocks
      · skip
        exact absurd c41 c40
    · skip
      refine lv_iload_n hx hb dX6_does_83 rfl (lv_at hl 1 rfl) ?_
      refine lv_bipush (v := 43) hx hb dX6_does_84 (by decide) ?_
      refine lv_icmp_ne (tgt := 108) hx hb dX6_does_86 (by decide) (fun c42 => absurd (by decide) c42) (fun _ => ?_)
      have hn : cn (M 0) < 16 := by have := (hangR_0 (f := M 0) (h := one) (u := two) (d := three) (by rw [c40]; decide)).2.2.2.2; omega
      refine lv_aload_n hx hb dX6_does_89 rfl (lv_at hl 2 rfl) ?_
      refine lv_aload_n hx hb dX6_does_90 rfl (lv_at hl 2 rfl) ?_
      refine m_get hx hb hts hin hown hK hI 14 (by decide) (hts (.fieldLink RX6 158 "WinderLaddersModel" "one" "I") (by decide +kernel)) (v := .int one) (congrArg (fun z => some (Value.int z)) h14) dX6_does_91 ?_
      refine lv_aload_n hx hb dX6_does_94 rfl (lv_at hl 2 rfl) ?_
      refine m_get hx hb hts hin hown hK hI 15 (by decide) (hts (.fieldLink RX6 161 "WinderLaddersModel" "two" "I") (by decide +kernel)) (v := .int two) (congrArg (fun z => some (Value.int z)) h15) dX6_does_95 ?_
      refine lv_aload_n hx hb dX6_does_98 rfl (lv_at hl 2 rfl) ?_
      refine m_get hx hb hts hin hown hK hI 16 (by decide) (hts (.fieldLink RX6 164 "WinderLaddersModel" "three" "I") (by decide +kernel)) (v := .int three) (congrArg (fun z => some (Value.int z)) h16) dX6_does_99 ?_
      refine m_calli (As := [.int one, .int two, .int three]) (rest := []) hx hb hml hown hts hK hI (k_X6_hangs l dd g q A hA M one two three hn hW) (cwV 3 hts gX6_does_X6_hangs rfl rfl rfl (by decide +kernel) ⟨Nat.le_of_ble_eq_true rfl, Nat.le_of_ble_eq_true rfl⟩) rfl hl (Nat.le_of_ble_eq_true rfl) ⟨Nat.zero_le _, Nat.zero_le _⟩ dX6_does_102 rfl (fun r M1 H locs h43 hI => ?_)
      obtain ⟨hr9, hm9⟩ := h43
      rw [hm9] at hI
      subst hr9
      refine lv_goto (tgt := 170) hx hb dX6_does_105 (by decide) ?_
      refine lv_istore_n (lv' := [(3, .int (nI (cn (M 0)))), (2, .int (hangR (M 0) one two three)), (1, .int 43), (0, .ref (q 0))]) hx hb dX6_does_170 rfl hl (by decide) rfl (fun ls hl => ?_)
      refine lv_iload_n hx hb dX6_does_171 rfl (lv_at hl 1 rfl) ?_
      refine lv_if_ne (tgt := 179) hx hb dX6_does_172 (by decide) (fun c44 => ?_) (fun c44 => ?_)
      · skip
        exact absurd c40 c44
      · skip
        refine lv_iconst (v := 1) hx hb dX6_does_175 (by decide) ?_
        refine lv_goto (tgt := 180) hx hb dX6_does_176 (by decide) ?_
        exact m_zret (v := 1) hx hb hr (by first | rfl | decide) hI (Or.inl ⟨by simp [exE, c40, c44], rfl, by first | (simp [exF, c40, c44]; done) | (simp only [exF, reduceIte, if_pos c40, if_pos c44]; rfl) | (simp only [exF, reduceIte, ix_nI (show j0 < 2 ^ 31 by omega), if_pos c40, if_pos c44]; rfl)⟩) dX6_does_180 hlocks
