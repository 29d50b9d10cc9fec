set_option maxHeartbeats 4000000 in
set_option maxRecDepth 100000 in
theorem k_X6_needs (l : Launch) (dd : va_G) (g : Nat → ClassId) (q : Nat → Nat) (A : Nat → Prop) (hA : mA A q) (M : MS) (x : Int32) (Dv : Nat → Nat) (hD9 : ∀ i, Dv i < 2 ^ 31) (hD : ∀ i, i < cn (M 0) → (isCb (M 0) (nI i) = true → offB (lastN (M 0) (ix (nI i)) (Dv i)) (ix (nI i)) (lastN (M 0) (ix (nI i)) (Dv i) 0) = true ∧ ∀ d, d < Dv i → offB (lastN (M 0) (ix (nI i)) d) (ix (nI i)) (lastN (M 0) (ix (nI i)) d 0) = false)) (hW : Wk (M 0)) : Met l yX6_needs wsX6_needs ({ frames := 4, cells := 0, slots := 0, locals := 86 }) (mPre dd g q M [.ref (q 0), .int x]) (mQi dd g q A (fun r M' => r = needN (fun i => nI (Dv i)) (cn (M 0)) x (cn (M 0)) ∧ ∀ k, k ≠ 1 → k ≠ 10 → M' k = M k)) 0 0 A := by
  refine Met.ofW (cc := cX6_needs) (maxL := 5) (ret := (some .int)) (by decide) rfl ?_
  intro p e s m args below meth c s₁ B hml hv
  obtain ⟨rfl, hP0, hK⟩ := hv
  have hx := B.exec
  have hb := B.bytes
  have hr := B.returns
  have hts := atoms_spec (ws := wsX6_needs) B.pre
  have hown : s.vm.findClass RX6 = some m.cls := findClass_of_methodNamed B.named
  have hlocks := B.notSynchronized
  have hin : ∀ w ∈ wsX60, w ∈ wsX6_needs := by decide +kernel
  have hI : mI dd g q A s.heap s.heap [] M := ⟨hP0, va_S.rf⟩
  have hl := lv_entry ([.ref (q 0), .int x]) (n := 5) (Nat.le_of_ble_eq_true rfl)
  rw [lg_entry_eq]
  generalize (lg_sl ([.ref (q 0), .int x]) ++ List.replicate (5 - (lg_sl ([.ref (q 0), .int x])).length) Slot.unset).toArray = ls at hl ⊢
  have hl : lv_has ls 5 [(0, .ref (q 0)), (1, .int x)] := hl
  have hc16 := hW.2.1
  have hl4 := hW.2.2.2
  refine lv_iconst (v := 0) hx hb dX6_needs_0 (by decide) ?_
  refine lv_istore_n (lv' := [(2, .int 0), (0, .ref (q 0)), (1, .int x)]) hx hb dX6_needs_1 rfl hl (by decide) rfl (fun ls hl => ?_)
  have L2 : ∀ (fuel : Nat) (k : Nat) (N : MS) (h1 : k ≤ cn (M 0)) (h2 : cn (M 0) < fuel + k) (hN : ∀ k, k ≠ 1 → k ≠ 10 → N k = M k) (hl3 : ∀ i, i < k → N 10 i = nI (Dv i)) (H : Heap) (locs : List Loc) (ls : Array Slot), mI dd g q A s.heap H locs N → lv_has ls 5 [(2, .int (nI k)), (0, .ref (q 0)), (1, .int x)] → wk p l e wsX6_needs { frames := 4, cells := 0, slots := 0, locals := 86 } s m [.ref (q 0), .int x] below meth c H locs (mQi dd g q A (fun r M' => r = needN (fun i => nI (Dv i)) (cn (M 0)) x (cn (M 0)) ∧ ∀ k, k ≠ 1 → k ≠ 10 → M' k = M k)) (A) (F0 m 2 ls []) := by
    intro fuel
    induction fuel with
    | zero =>
      intro k N h1 h2 hN hl3 H locs ls hI hl
      exact absurd h2 (by omega)
    | succ fuel ih =>
      intro k N h1 h2 hN hl3 H locs ls hI hl
      refine lv_iload_n hx hb dX6_needs_2 rfl (lv_at hl 0 rfl) ?_
      refine lv_aload_n hx hb dX6_needs_3 rfl (lv_at hl 1 rfl) ?_
      refine m_get hx hb hts hin hown hK hI 0 (by decide) (hts (.fieldLink RX6 7 "WinderLaddersModel" "s" "[I") (by decide +kernel)) (v := .ref (q 1)) rfl dX6_needs_4 ?_
      refine lv_iconst (v := 5) hx hb dX6_needs_7 (by decide) ?_
      refine m_ald hx hb hK hI 0 (by decide) (5) (by show _ < 140; omega) rfl (v := nI (cn (M 0))) ((by rw [hN 0 (by decide) (by decide)]; exact hW.1)) dX6_needs_8 ?_
      refine lv_icmp_ge (tgt := 29) hx hb dX6_needs_9 (by decide) (fun c1 => ?_) (fun c1 => ?_)
      · skip
        have nc1 : cn (M 0) ≤ k := (nI_leI (a := cn (M 0)) (b := k) (by omega) (by omega)).mp c1
        refine lv_iconst (v := 0) hx hb dX6_needs_29 (by decide) ?_
        refine lv_istore_n (lv' := [(2, .int 0), (0, .ref (q 0)), (1, .int x)]) hx hb dX6_needs_30 rfl hl (by decide) rfl (fun ls hl => ?_)
        have L31 : ∀ (fuel2 : Nat) (a1 : Nat) (g1 : a1 ≤ cn (M 0)) (g2 : cn (M 0) < fuel2 + a1) (g3 : needN (fun i => nI (Dv i)) (cn (M 0)) x (cn (M 0)) = needN (fun i => nI (Dv i)) (cn (M 0)) x (cn (M 0) - a1)) (H : Heap) (locs : List Loc) (ls : Array Slot), mI dd g q A s.heap H locs N → lv_has ls 5 [(2, .int (nI a1)), (0, .ref (q 0)), (1, .int x)] → wk p l e wsX6_needs { frames := 4, cells := 0, slots := 0, locals := 86 } s m [.ref (q 0), .int x] below meth c H locs (mQi dd g q A (fun r M' => r = needN (fun i => nI (Dv i)) (cn (M 0)) x (cn (M 0)) ∧ ∀ k, k ≠ 1 → k ≠ 10 → M' k = M k)) (A) (F0 m 31 ls []) := by
          intro fuel2
          induction fuel2 with
          | zero =>
            intro a1 g1 g2 g3 H locs ls hI hl
            exact absurd g2 (by omega)
          | succ fuel2 ih2 =>
            intro a1 g1 g2 g3 H locs ls hI hl
            refine lv_iload_n hx hb dX6_needs_31 rfl (lv_at hl 0 rfl) ?_
            refine lv_aload_n hx hb dX6_needs_32 rfl (lv_at hl 1 rfl) ?_
            refine m_get hx hb hts hin hown hK hI 0 (by decide) (hts (.fieldLink RX6 7 "WinderLaddersModel" "s" "[I") (by decide +kernel)) (v := .ref (q 1)) rfl dX6_needs_33 ?_
            refine lv_iconst (v := 5) hx hb dX6_needs_36 (by decide) ?_
            refine m_ald hx hb hK hI 0 (by decide) (5) (by show _ < 140; omega) rfl (v := nI (cn (M 0))) ((by rw [hN 0 (by decide) (by decide)]; exact hW.1)) dX6_needs_37 ?_
            refine lv_icmp_ge (tgt := 122) hx hb dX6_needs_38 (by decide) (fun c2 => ?_) (fun c2 => ?_)
            · skip
              have nc2 : cn (M 0) ≤ a1 := (nI_leI (a := cn (M 0)) (b := a1) (by omega) (by omega)).mp c2
              refine lv_iconst (v := (-1)) hx hb dX6_needs_122 (by decide) ?_
              exact m_iret (v := (-1)) hx hb hr hI (⟨by rw [g3, show cn (M 0) - a1 = 0 by omega]; rfl, fun k a b => hN k a b⟩) dX6_needs_123 hlocks
            · skip
              have nc2 : ¬ (cn (M 0) ≤ a1) := fun h => c2 ((nI_leI (a := cn (M 0)) (b := a1) (by omega) (by omega)).mpr h)
              refine lv_iconst (v := 0) hx hb dX6_needs_41 (by decide) ?_
              refine lv_istore_n (lv' := [(3, .int 0), (2, .int (nI a1)), (0, .ref (q 0)), (1, .int x)]) hx hb dX6_needs_42 rfl hl (by decide) rfl (fun ls hl => ?_)
              refine lv_iconst (v := 0) hx hb dX6_needs_43 (by decide) ?_
              refine lv_istore (lv' := [(4, .int 0), (3, .int 0), (2, .int (nI a1)), (0, .ref (q 0)), (1, .int x)]) hx hb dX6_needs_44 hl (by decide) rfl (fun ls hl => ?_)
              have L46 : ∀ (fuel3 : Nat) (o9 : Nat) (z : Int32) (f1 : o9 ≤ cn (M 0)) (f2 : cn (M 0) < fuel3 + o9) (hz2 : z = aheadN (fun i => nI (Dv i)) a1 o9) (H : Heap) (locs : List Loc) (ls : Array Slot), mI dd g q A s.heap H locs N → lv_has ls 5 [(4, .int (nI o9)), (3, .int z), (2, .int (nI a1)), (0, .ref (q 0)), (1, .int x)] → wk p l e wsX6_needs { frames := 4, cells := 0, slots := 0, locals := 86 } s m [.ref (q 0), .int x] below meth c H locs (mQi dd g q A (fun r M' => r = needN (fun i => nI (Dv i)) (cn (M 0)) x (cn (M 0)) ∧ ∀ k, k ≠ 1 → k ≠ 10 → M' k = M k)) (A) (F0 m 46 ls []) := by
                intro fuel3
                induction fuel3 with
                | zero =>
                  intro o9 z f1 f2 hz2 H locs ls hI hl
                  exact absurd f2 (by omega)
                | succ fuel3 ih3 =>
                  intro o9 z f1 f2 hz2 H locs ls hI hl
                  have hD9o := hD9 o9
                  have hD9c := hD9 a1
                  refine lv_iload hx hb dX6_needs_46 (lv_at hl 0 rfl) ?_
                  refine lv_aload_n hx hb dX6_needs_48 rfl (lv_at hl 3 rfl) ?_
                  refine m_get hx hb hts hin hown hK hI 0 (by decide) (hts (.fieldLink RX6 7 "WinderLaddersModel" "s" "[I") (by decide +kernel)) (v := .ref (q 1)) rfl dX6_needs_49 ?_
                  refine lv_iconst (v := 5) hx hb dX6_needs_52 (by decide) ?_
                  refine m_ald hx hb hK hI 0 (by decide) (5) (by show _ < 140; omega) rfl (v := nI (cn (M 0))) ((by rw [hN 0 (by decide) (by decide)]; exact hW.1)) dX6_needs_53 ?_
                  refine lv_icmp_ge (tgt := 109) hx hb dX6_needs_54 (by decide) (fun c3 => ?_) (fun c3 => ?_)
                  · skip
                    have nc3 : cn (M 0) ≤ o9 := (nI_leI (a := cn (M 0)) (b := o9) (by omega) (by omega)).mp c3
                    refine lv_iload_n hx hb dX6_needs_109 rfl (lv_at hl 1 rfl) ?_
                    refine lv_iload_n hx hb dX6_needs_110 rfl (lv_at hl 4 rfl) ?_
                    refine lv_icmp_ne (tgt := 116) hx hb dX6_needs_111 (by decide) (fun c4 => ?_) (fun c4 => ?_)
                    · skip
                      refine lv_iinc (v := nI (a1 + 1)) (lv' := [(2, .int (nI (a1 + 1))), (4, .int (nI o9)), (3, .int z), (0, .ref (q 0)), (1, .int x)]) hx hb dX6_needs_116 hl (k := 2) rfl (by rw [show Int32.ofInt 1 = nI 1 from rfl, nI_add]) (by decide) rfl (fun ls hl => ?_)
                      refine lv_goto (tgt := 31) hx hb dX6_needs_119 (by decide) ?_
                      exact ih2 (a1 + 1) (by omega) (by omega) (by rw [g3, show cn (M 0) - a1 = (cn (M 0) - (a1 + 1)) + 1 by omega, needN, show cn (M 0) - (cn (M 0) - (a1 + 1) + 1) = a1 by omega, if_neg (by rw [show cn (M 0) = o9 by omega, ← hz2]; exact c4)]) _ _ _ hI (lv_sub hl [0, 3, 4] rfl)
                    · skip
                      refine lv_iload_n hx hb dX6_needs_114 rfl (lv_at hl 2 rfl) ?_
                      exact m_iret (v := nI a1) hx hb hr hI (⟨by rw [g3, show cn (M 0) - a1 = (cn (M 0) - (a1 + 1)) + 1 by omega, needN, show cn (M 0) - (cn (M 0) - (a1 + 1) + 1) = a1 by omega, if_pos (by rw [show cn (M 0) = o9 by omega, ← hz2]; exact c4)], fun k a b => hN k a b⟩) dX6_needs_115 hlocks
                  · skip
                    have nc3 : ¬ (cn (M 0) ≤ o9) := fun h => c3 ((nI_leI (a := cn (M 0)) (b := o9) (by omega) (by omega)).mpr h)
                    refine lv_iload_n hx hb dX6_needs_57 rfl (lv_at hl 1 rfl) ?_
                    refine lv_aload_n hx hb dX6_needs_58 rfl (lv_at hl 3 rfl) ?_
                    refine m_get hx hb hts hin hown hK hI 10 (by decide) (hts (.fieldLink RX6 32 "WinderLaddersModel" "last" "[I") (by decide +kernel)) (v := .ref (q 8)) rfl dX6_needs_59 ?_
                    refine lv_iload hx hb dX6_needs_62 (lv_at hl 0 rfl) ?_
                    refine m_ald hx hb hK hI 10 (by decide) (o9) (by show _ < 16; omega) rfl (v := nI (Dv o9)) ((hl3 o9 (by omega))) dX6_needs_64 ?_
                    refine lv_aload_n hx hb dX6_needs_65 rfl (lv_at hl 3 rfl) ?_
                    refine m_get hx hb hts hin hown hK hI 10 (by decide) (hts (.fieldLink RX6 32 "WinderLaddersModel" "last" "[I") (by decide +kernel)) (v := .ref (q 8)) rfl dX6_needs_66 ?_
                    refine lv_iload_n hx hb dX6_needs_69 rfl (lv_at hl 2 rfl) ?_
                    refine m_ald hx hb hK hI 10 (by decide) (a1) (by show _ < 16; omega) rfl (v := nI (Dv a1)) ((hl3 a1 (by omega))) dX6_needs_70 ?_
                    refine lv_icmp_lt (tgt := 96) hx hb dX6_needs_71 (by decide) (fun c5 => ?_) (fun c5 => ?_)
                    · skip
                      have nc5 : Dv o9 < Dv a1 := (nI_ltI (a := Dv o9) (b := Dv a1) (by omega) (by omega)).mp c5
                      refine lv_iconst (v := 1) hx hb dX6_needs_96 (by decide) ?_
                      refine lv_goto (tgt := 101) hx hb dX6_needs_97 (by decide) ?_
                      refine lv_iadd hx hb dX6_needs_101 ?_
                      refine lv_istore_n (lv' := [(3, .int (z + 1)), (4, .int (nI o9)), (2, .int (nI a1)), (0, .ref (q 0)), (1, .int x)]) hx hb dX6_needs_102 rfl hl (by decide) rfl (fun ls hl => ?_)
                      refine lv_iinc (v := nI (o9 + 1)) (lv' := [(4, .int (nI (o9 + 1))), (3, .int (z + 1)), (2, .int (nI a1)), (0, .ref (q 0)), (1, .int x)]) hx hb dX6_needs_103 hl (k := 1) rfl (by rw [show Int32.ofInt 1 = nI 1 from rfl, nI_add]) (by decide) rfl (fun ls hl => ?_)
                      refine lv_goto (tgt := 46) hx hb dX6_needs_106 (by decide) ?_
                      exact ih3 (o9 + 1) (z + 1) (by omega) (by omega) (by rw [hz2]; simp only [aheadN, if_pos c1, if_pos nc1, if_neg c2, if_neg nc2, if_neg c3, if_neg nc3, if_pos c5, if_pos nc5]) _ _ _ hI (lv_sub hl [0, 1, 2, 3, 4] rfl)
                    · skip
                      have nc5 : ¬ (Dv o9 < Dv a1) := fun h => c5 ((nI_ltI (a := Dv o9) (b := Dv a1) (by omega) (by omega)).mpr h)
                      refine lv_aload_n hx hb dX6_needs_74 rfl (lv_at hl 3 rfl) ?_
                      refine m_get hx hb hts hin hown hK hI 10 (by decide) (hts (.fieldLink RX6 32 "WinderLaddersModel" "last" "[I") (by decide +kernel)) (v := .ref (q 8)) rfl dX6_needs_75 ?_
                      refine lv_iload hx hb dX6_needs_78 (lv_at hl 0 rfl) ?_
                      refine m_ald hx hb hK hI 10 (by decide) (o9) (by show _ < 16; omega) rfl (v := nI (Dv o9)) ((hl3 o9 (by omega))) dX6_needs_80 ?_
                      refine lv_aload_n hx hb dX6_needs_81 rfl (lv_at hl 3 rfl) ?_
                      refine m_get hx hb hts hin hown hK hI 10 (by decide) (hts (.fieldLink RX6 32 "WinderLaddersModel" "last" "[I") (by decide +kernel)) (v := .ref (q 8)) rfl dX6_needs_82 ?_
                      refine lv_iload_n hx hb dX6_needs_85 rfl (lv_at hl 2 rfl) ?_
                      refine m_ald hx hb hK hI 10 (by decide) (a1) (by show _ < 16; omega) rfl (v := nI (Dv a1)) ((hl3 a1 (by omega))) dX6_needs_86 ?_
                      refine lv_icmp_ne (tgt := 100) hx hb dX6_needs_87 (by decide) (fun c6 => ?_) (fun c6 => ?_)
                      · skip
                        have nc6 : ¬ (Dv o9 = Dv a1) := fun h => c6 ((nI_eq (a := Dv o9) (b := Dv a1) (by omega) (by omega)).mpr h)
                        refine lv_iconst (v := 0) hx hb dX6_needs_100 (by decide) ?_
                        refine lv_iadd hx hb dX6_needs_101 ?_
                        refine lv_istore_n (lv' := [(3, .int (z + 0)), (4, .int (nI o9)), (2, .int (nI a1)), (0, .ref (q 0)), (1, .int x)]) hx hb dX6_needs_102 rfl hl (by decide) rfl (fun ls hl => ?_)
                        refine lv_iinc (v := nI (o9 + 1)) (lv' := [(4, .int (nI (o9 + 1))), (3, .int (z + 0)), (2, .int (nI a1)), (0, .ref (q 0)), (1, .int x)]) hx hb dX6_needs_103 hl (k := 1) rfl (by rw [show Int32.ofInt 1 = nI 1 from rfl, nI_add]) (by decide) rfl (fun ls hl => ?_)
                        refine lv_goto (tgt := 46) hx hb dX6_needs_106 (by decide) ?_
                        exact ih3 (o9 + 1) (z + 0) (by omega) (by omega) (by rw [hz2]; simp only [aheadN, if_pos c1, if_pos nc1, if_neg c2, if_neg nc2, if_neg c3, if_neg nc3, if_neg c5, if_neg nc5, if_neg c6, if_neg nc6]) _ _ _ hI (lv_sub hl [0, 1, 2, 3, 4] rfl)
                      · skip
                        have nc6 : Dv o9 = Dv a1 := (nI_eq (a := Dv o9) (b := Dv a1) (by omega) (by omega)).mp c6
                        refine lv_iload hx hb dX6_needs_90 (lv_at hl 0 rfl) ?_
                        refine lv_iload_n hx hb dX6_needs_92 rfl (lv_at hl 2 rfl) ?_
                        refine lv_icmp_ge (tgt := 100) hx hb dX6_needs_93 (by decide) (fun c7 => ?_) (fun c7 => ?_)
                        · skip
                          have nc7 : a1 ≤ o9 := (nI_leI (a := a1) (b := o9) (by omega) (by omega)).mp c7
                          refine lv_iconst (v := 0) hx hb dX6_needs_100 (by decide) ?_
                          refine lv_iadd hx hb dX6_needs_101 ?_
                          refine lv_istore_n (lv' := [(3, .int (z + 0)), (4, .int (nI o9)), (2, .int (nI a1)), (0, .ref (q 0)), (1, .int x)]) hx hb dX6_needs_102 rfl hl (by decide) rfl (fun ls hl => ?_)
                          refine lv_iinc (v := nI (o9 + 1)) (lv' := [(4, .int (nI (o9 + 1))), (3, .int (z + 0)), (2, .int (nI a1)), (0, .ref (q 0)), (1, .int x)]) hx hb dX6_needs_103 hl (k := 1) rfl (by rw [show Int32.ofInt 1 = nI 1 from rfl, nI_add]) (by decide) rfl (fun ls hl => ?_)
                          refine lv_goto (tgt := 46) hx hb dX6_needs_106 (by decide) ?_
                          exact ih3 (o9 + 1) (z + 0) (by omega) (by omega) (by rw [hz2]; simp only [aheadN, if_pos c1, if_pos nc1, if_neg c2, if_neg nc2, if_neg c3, if_neg nc3, if_neg c5, if_neg nc5, if_pos c6, if_pos nc6, if_pos c7, if_pos nc7]) _ _ _ hI (lv_sub hl [0, 1, 2, 3, 4] rfl)
                        · skip
                          have nc7 : ¬ (a1 ≤ o9) := fun h => c7 ((nI_leI (a := a1) (b := o9) (by omega) (by omega)).mpr h)
                          refine lv_iconst (v := 1) hx hb dX6_needs_96 (by decide) ?_
                          refine lv_goto (tgt := 101) hx hb dX6_needs_97 (by decide) ?_
                          refine lv_iadd hx hb dX6_needs_101 ?_
                          refine lv_istore_n (lv' := [(3, .int (z + 1)), (4, .int (nI o9)), (2, .int (nI a1)), (0, .ref (q 0)), (1, .int x)]) hx hb dX6_needs_102 rfl hl (by decide) rfl (fun ls hl => ?_)
                          refine lv_iinc (v := nI (o9 + 1)) (lv' := [(4, .int (nI (o9 + 1))), (3, .int (z + 1)), (2, .int (nI a1)), (0, .ref (q 0)), (1, .int x)]) hx hb dX6_needs_103 hl (k := 1) rfl (by rw [show Int32.ofInt 1 = nI 1 from rfl, nI_add]) (by decide) rfl (fun ls hl => ?_)
                          refine lv_goto (tgt := 46) hx hb dX6_needs_106 (by decide) ?_
                          exact ih3 (o9 + 1) (z + 1) (by omega) (by omega) (by rw [hz2]; simp only [aheadN, if_pos c1, if_pos nc1, if_neg c2, if_neg nc2, if_neg c3, if_neg nc3, if_neg c5, if_neg nc5, if_pos c6, if_pos nc6, if_neg c7, if_neg nc7]) _ _ _ hI (lv_sub hl [0, 1, 2, 3, 4] rfl)
              exact L46 17 0 0 (by omega) (by omega) rfl _ _ _ hI (lv_sub hl [0, 1, 2, 3, 4] rfl)
        exact L31 17 0 (by omega) (by omega) rfl _ _ _ hI (lv_sub hl [0, 1, 2] rfl)
      · skip
        have nc1 : ¬ (cn (M 0) ≤ k) := fun h => c1 ((nI_leI (a := cn (M 0)) (b := k) (by omega) (by omega)).mpr h)
        refine lv_aload_n hx hb dX6_needs_12 rfl (lv_at hl 1 rfl) ?_
        refine m_get hx hb hts hin hown hK hI 10 (by decide) (hts (.fieldLink RX6 32 "WinderLaddersModel" "last" "[I") (by decide +kernel)) (v := .ref (q 8)) rfl dX6_needs_13 ?_
        refine lv_iload_n hx hb dX6_needs_16 rfl (lv_at hl 0 rfl) ?_
        refine lv_aload_n hx hb dX6_needs_17 rfl (lv_at hl 1 rfl) ?_
        refine lv_iload_n hx hb dX6_needs_18 rfl (lv_at hl 0 rfl) ?_
        refine m_calli (As := [.int (nI k)]) (rest := [.int (nI k), .ref (q 8)]) hx hb hml hown hts hK hI (k_X6_lasts l dd g q A hA N (nI k) (Dv k) (hD9 k) (by rw [hN 0 (by decide) (by decide)]; exact hD k (by omega)) (by rw [hN 0 (by decide) (by decide)]; exact hW)) (cwV 1 hts gX6_needs_X6_lasts rfl rfl rfl (by decide +kernel) ⟨Nat.le_of_ble_eq_true rfl, Nat.le_of_ble_eq_true rfl⟩) rfl hl (Nat.le_of_ble_eq_true rfl) ⟨Nat.zero_le _, Nat.zero_le _⟩ dX6_needs_19 rfl (fun r M1 H locs h8 hI => ?_)
        obtain ⟨hr9, hm9⟩ := h8
        rw [if_pos (show isCb (N 0) (nI k) = true by rw [hN 0 (by decide) (by decide)]; exact isCb_t hW ⟨by omega, rfl⟩)] at hr9
        subst hr9
        refine m_ast hx hb hK hA hI 10 (by decide) (k) (by show _ < 16; omega) rfl dX6_needs_22 (fun H locs hI => ?_)
        refine lv_iinc (v := nI (k + 1)) (lv' := [(2, .int (nI (k + 1))), (0, .ref (q 0)), (1, .int x)]) hx hb dX6_needs_23 hl (k := 0) rfl (by rw [show Int32.ofInt 1 = nI 1 from rfl, nI_add]) (by decide) rfl (fun ls hl => ?_)
        refine lv_goto (tgt := 2) hx hb dX6_needs_26 (by decide) ?_
        exact ih (k + 1) (mset M1 10 k (nI (Dv k))) (by omega) (by omega) (fun i a b => by rw [mset_ne _ b, hm9 i a]; exact hN i a b) (fun i a => if z : i = k then (by rw [z]; exact mset_eq _ _ _ _) else (by rw [mset_nj _ z, hm9 10 (by decide)]; exact hl3 i (by omega))) _ _ _ hI (lv_sub hl [0, 1, 2] rfl)
  exact L2 17 0 M (by omega) (by omega) (fun _ _ _ => rfl) (fun i a => absurd a (Nat.not_lt_zero i)) _ _ _ hI (lv_sub hl [0, 1, 2] rfl)

set_option maxHeartbeats 4000000 in
set_option maxRecDepth 100000 in
theorem k_X6_wipe (l : Launch) (dd : va_G) (g : Nat → ClassId) (q : Nat → Nat) (A : Nat → Prop) (hA : mA A q) (M : MS)  : Met l yX6_wipe wsX6_wipe ({ frames := 0, cells := 0, slots := 0, locals := 0 }) (mPre dd g q M [.ref (q 0)]) (mQi dd g q A (fun r M' => r = M 7 0 ∧ M' = mset M 7 0 0)) 0 0 A := by
  refine Met.ofW (cc := cX6_wipe) (maxL := 2) (ret := (some .int)) (by decide) rfl ?_
  intro p e s m args below meth c s₁ B hml hv
  obtain ⟨rfl, hP0, hK⟩ := hv
  have hx := B.exec
  have hb := B.bytes
  have hr := B.returns
  have hts := atoms_spec (ws := wsX6_wipe) B.pre
  have hown : s.vm.findClass RX6 = some m.cls := findClass_of_methodNamed B.named
  have hlocks := B.notSynchronized
  have hin : ∀ w ∈ wsX60, w ∈ wsX6_wipe := by decide +kernel
  have hI : mI dd g q A s.heap s.heap [] M := ⟨hP0, va_S.rf⟩
  have hl := lv_entry ([.ref (q 0)]) (n := 2) (Nat.le_of_ble_eq_true rfl)
  rw [lg_entry_eq]
  generalize (lg_sl ([.ref (q 0)]) ++ List.replicate (2 - (lg_sl ([.ref (q 0)])).length) Slot.unset).toArray = ls at hl ⊢
  have hl : lv_has ls 2 [(0, .ref (q 0))] := hl
  refine lv_aload_n hx hb dX6_wipe_0 rfl (lv_at hl 0 rfl) ?_
  refine m_get hx hb hts hin hown hK hI 7 (by decide) (hts (.fieldLink RX6 127 "WinderLaddersModel" "length" "I") (by decide +kernel)) (v := .int (M 7 0)) rfl dX6_wipe_1 ?_
  refine lv_istore_n (lv' := [(1, .int (M 7 0)), (0, .ref (q 0))]) hx hb dX6_wipe_4 rfl hl (by decide) rfl (fun ls hl => ?_)
  refine lv_aload_n hx hb dX6_wipe_5 rfl (lv_at hl 1 rfl) ?_
  refine lv_iconst (v := 0) hx hb dX6_wipe_6 (by decide) ?_
  refine m_put hx hb hts hin hown hK hA hI 7 (by decide) (hts (.fieldLink RX6 127 "WinderLaddersModel" "length" "I") (by decide +kernel)) (fun h => absurd h (by decide)) dX6_wipe_7 (fun H locs hI => ?_)
  refine lv_iload_n hx hb dX6_wipe_10 rfl (lv_at hl 0 rfl) ?_
  exact m_iret (v := M 7 0) hx hb hr hI (⟨rfl, rfl⟩) dX6_wipe_11 hlocks

set_option maxHeartbeats 4000000 in
set_option maxRecDepth 100000 in
theorem k_X6_undo (l : Launch) (dd : va_G) (g : Nat → ClassId) (q : Nat → Nat) (A : Nat → Prop) (hA : mA A q) (M : MS) (kn : Nat) (hkn : kn ≤ 6) (hk : M 3 0 = nI kn) : Met l yX6_undo wsX6_undo ({ frames := 0, cells := 0, slots := 0, locals := 0 }) (mPre dd g q M [.ref (q 0)]) (mQi dd g q A (fun r M' => (kn = 0 ∧ r = -5 ∧ M' = M) ∨ (kn ≠ 0 ∧ r = nI (kn - 1) ∧ M' = mset (mrow M 0 (cp2 (M 0) (M 2) (140 * (kn - 1)) 140)) 3 0 (nI (kn - 1))))) 0 0 A := by
  refine Met.ofW (cc := cX6_undo) (maxL := 2) (ret := (some .int)) (by decide) rfl ?_
  intro p e s m args below meth c s₁ B hml hv
  obtain ⟨rfl, hP0, hK⟩ := hv
  have hx := B.exec
  have hb := B.bytes
  have hr := B.returns
  have hts := atoms_spec (ws := wsX6_undo) B.pre
  have hown : s.vm.findClass RX6 = some m.cls := findClass_of_methodNamed B.named
  have hlocks := B.notSynchronized
  have hin : ∀ w ∈ wsX60, w ∈ wsX6_undo := by decide +kernel
  have hI : mI dd g q A s.heap s.heap [] M := ⟨hP0, va_S.rf⟩
  have hl := lv_entry ([.ref (q 0)]) (n := 2) (Nat.le_of_ble_eq_true rfl)
  rw [lg_entry_eq]
  generalize (lg_sl ([.ref (q 0)]) ++ List.replicate (2 - (lg_sl ([.ref (q 0)])).length) Slot.unset).toArray = ls at hl ⊢
  have hl : lv_has ls 2 [(0, .ref (q 0))] := hl
  refine lv_aload_n hx hb dX6_undo_0 rfl (lv_at hl 0 rfl) ?_
  refine m_get hx hb hts hin hown hK hI 3 (by decide) (hts (.fieldLink RX6 39 "WinderLaddersModel" "known" "I") (by decide +kernel)) (v := .int (nI kn)) (congrArg (fun z => some (Value.int z)) hk) dX6_undo_1 ?_
  refine lv_if_ne (tgt := 10) hx hb dX6_undo_4 (by decide) (fun c1 => ?_) (fun c1 => ?_)
  · skip
    have nc1 : ¬ (kn = 0) := fun h => c1 ((nI_eq (a := kn) (b := 0) (by omega) (by omega)).mpr h)
    refine lv_aload_n hx hb dX6_undo_10 rfl (lv_at hl 0 rfl) ?_
    refine lv_dup hx hb dX6_undo_11 rfl ?_
    refine m_get hx hb hts hin hown hK hI 3 (by decide) (hts (.fieldLink RX6 39 "WinderLaddersModel" "known" "I") (by decide +kernel)) (v := .int (nI kn)) (congrArg (fun z => some (Value.int z)) hk) dX6_undo_12 ?_
    refine lv_iconst (v := 1) hx hb dX6_undo_15 (by decide) ?_
    refine lv_isub hx hb dX6_undo_16 ?_
    refine lv_re (y := nI (kn - 1)) (pk_sub (a := kn) (b := 1) (by omega)) ?_
    refine m_put hx hb hts hin hown hK hA hI 3 (by decide) (hts (.fieldLink RX6 39 "WinderLaddersModel" "known" "I") (by decide +kernel)) (fun h => absurd h (by decide)) dX6_undo_17 (fun H locs hI => ?_)
    refine lv_iconst (v := 0) hx hb dX6_undo_20 (by decide) ?_
    refine lv_istore_n (lv' := [(1, .int 0), (0, .ref (q 0))]) hx hb dX6_undo_21 rfl hl (by decide) rfl (fun ls hl => ?_)
    have L22 : ∀ (fuel : Nat) (k : Nat) (h1 : k ≤ 140) (h2 : 140 < fuel + k) (H : Heap) (locs : List Loc) (ls : Array Slot), mI dd g q A s.heap H locs (mset (mrow M 0 (cp2 (M 0) (M 2) (140 * (kn - 1)) k)) 3 0 (nI (kn - 1))) → lv_has ls 2 [(1, .int (nI k)), (0, .ref (q 0))] → wk p l e wsX6_undo { frames := 0, cells := 0, slots := 0, locals := 0 } s m [.ref (q 0)] below meth c H locs (mQi dd g q A (fun r M' => (kn = 0 ∧ r = -5 ∧ M' = M) ∨ (kn ≠ 0 ∧ r = nI (kn - 1) ∧ M' = mset (mrow M 0 (cp2 (M 0) (M 2) (140 * (kn - 1)) 140)) 3 0 (nI (kn - 1))))) (A) (F0 m 22 ls []) := by
      intro fuel
      induction fuel with
      | zero =>
        intro k h1 h2 H locs ls hI hl
        exact absurd h2 (by omega)
      | succ fuel ih =>
        intro k h1 h2 H locs ls hI hl
        refine lv_iload_n hx hb dX6_undo_22 rfl (lv_at hl 0 rfl) ?_
        refine lv_sipush (v := 140) hx hb dX6_undo_23 (by decide) ?_
        refine lv_icmp_ge (tgt := 56) hx hb dX6_undo_26 (by decide) (fun c2 => ?_) (fun c2 => ?_)
        · skip
          have nc2 : 140 ≤ k := (nI_leI (a := 140) (b := k) (by omega) (by omega)).mp c2
          refine lv_aload_n hx hb dX6_undo_56 rfl (lv_at hl 1 rfl) ?_
          refine m_get hx hb hts hin hown hK hI 3 (by decide) (hts (.fieldLink RX6 39 "WinderLaddersModel" "known" "I") (by decide +kernel)) (v := .int (nI (kn - 1))) (congrArg (fun z => some (Value.int z)) ((mset_eq _ _ _ _))) dX6_undo_57 ?_
          exact m_iret (v := nI (kn - 1)) hx hb hr hI (Or.inr ⟨by omega, rfl, by rw [show k = 140 by omega]⟩) dX6_undo_60 hlocks
        · skip
          have nc2 : ¬ (140 ≤ k) := fun h => c2 ((nI_leI (a := 140) (b := k) (by omega) (by omega)).mpr h)
          refine lv_aload_n hx hb dX6_undo_29 rfl (lv_at hl 1 rfl) ?_
          refine m_get hx hb hts hin hown hK hI 0 (by decide) (hts (.fieldLink RX6 7 "WinderLaddersModel" "s" "[I") (by decide +kernel)) (v := .ref (q 1)) rfl dX6_undo_30 ?_
          refine lv_iload_n hx hb dX6_undo_33 rfl (lv_at hl 0 rfl) ?_
          refine lv_aload_n hx hb dX6_undo_34 rfl (lv_at hl 1 rfl) ?_
          refine m_get hx hb hts hin hown hK hI 2 (by decide) (hts (.fieldLink RX6 16 "WinderLaddersModel" "before" "[I") (by decide +kernel)) (v := .ref (q 3)) rfl dX6_undo_35 ?_
          refine lv_sipush (v := 140) hx hb dX6_undo_38 (by decide) ?_
          refine lv_aload_n hx hb dX6_undo_41 rfl (lv_at hl 1 rfl) ?_
          refine m_get hx hb hts hin hown hK hI 3 (by decide) (hts (.fieldLink RX6 39 "WinderLaddersModel" "known" "I") (by decide +kernel)) (v := .int (nI (kn - 1))) (congrArg (fun z => some (Value.int z)) ((mset_eq _ _ _ _))) dX6_undo_42 ?_
          refine lv_imul hx hb dX6_undo_45 ?_
          refine lv_re (y := nI (140 * (kn - 1))) (pk_mul 140 (kn - 1)) ?_
          refine lv_iload_n hx hb dX6_undo_46 rfl (lv_at hl 0 rfl) ?_
          refine lv_iadd hx hb dX6_undo_47 ?_
          refine lv_re (y := nI (140 * (kn - 1) + k)) (nI_add (140 * (kn - 1)) (k)) ?_
          refine m_ald hx hb hK hI 2 (by decide) (140 * (kn - 1) + k) (by show _ < 840; omega) rfl (v := M 2 (140 * (kn - 1) + k)) rfl dX6_undo_48 ?_
          refine m_ast hx hb hK hA hI 0 (by decide) (k) (by show _ < 140; omega) rfl dX6_undo_49 (fun H locs hI => ?_)
          refine lv_iinc (v := nI (k + 1)) (lv' := [(1, .int (nI (k + 1))), (0, .ref (q 0))]) hx hb dX6_undo_50 hl (k := 0) rfl (by rw [show Int32.ofInt 1 = nI 1 from rfl, nI_add]) (by decide) rfl (fun ls hl => ?_)
          refine lv_goto (tgt := 22) hx hb dX6_undo_53 (by decide) ?_
          exact ih (k + 1) (by omega) (by omega) _ _ _ (by rw [mset_comm _ (by decide), mset_mrow_s, cp2_s] at hI; exact hI) (lv_sub hl [0, 1] rfl)
    exact L22 141 0 (by omega) (by omega) _ _ _ (by rw [cp2_0, mrow_self]; exact hI) (lv_sub hl [0, 1] rfl)
  · skip
    have nc1 : kn = 0 := (nI_eq (a := kn) (b := 0) (by omega) (by omega)).mp c1
    refine lv_bipush (v := (-5)) hx hb dX6_undo_7 (by decide) ?_
    exact m_iret (v := (-5)) hx hb hr hI (Or.inl ⟨by first | exact nc1 | omega, rfl, rfl⟩) dX6_undo_9 hlocks
