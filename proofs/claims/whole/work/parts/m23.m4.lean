set_option maxHeartbeats 4000000 in
set_option maxRecDepth 100000 in
theorem k_X6_know6 (l : Launch) (dd : va_G) (g : Nat → ClassId) (q : Nat → Nat) (A : Nat → Prop) (hA : mA A q) (M : MS) (hk : M 3 0 = 6) : Met l yX6_know wsX6_know ({ frames := 0, cells := 0, slots := 0, locals := 0 }) (mPre dd g q M [.ref (q 0)]) (mQv dd g q A (fun M' => M' = knM M 6)) 0 0 A := by
  refine Met.ofW (cc := cX6_know) (maxL := 2) (ret := none) (by decide) rfl ?_
  intro p e s m args below meth c s₁ B hml hv
  obtain ⟨rfl, hP0, hK⟩ := hv
  have hx := B.exec
  have hb := B.bytes
  have hr := B.returns
  have hts := atoms_spec (ws := wsX6_know) B.pre
  have hown : s.vm.findClass RX6 = some m.cls := findClass_of_methodNamed B.named
  have hlocks := B.notSynchronized
  have hin : ∀ w ∈ wsX60, w ∈ wsX6_know := by decide +kernel
  have hI : mI dd g q A s.heap s.heap [] M := ⟨hP0, va_S.rf⟩
  have hl := lv_entry ([.ref (q 0)]) (n := 2) (Nat.le_of_ble_eq_true rfl)
  rw [lg_entry_eq]
  generalize (lg_sl ([.ref (q 0)]) ++ List.replicate (2 - (lg_sl ([.ref (q 0)])).length) Slot.unset).toArray = ls at hl ⊢
  have hl : lv_has ls 2 [(0, .ref (q 0))] := hl
  refine lv_aload_n hx hb dX6_know_0 rfl (lv_at hl 0 rfl) ?_
  refine m_get hx hb hts hin hown hK hI 3 (by decide) (hts (.fieldLink RX6 39 "WinderLaddersModel" "known" "I") (by decide +kernel)) (v := .int 6) (congrArg (fun z => some (Value.int z)) hk) dX6_know_1 ?_
  refine lv_bipush (v := 6) hx hb dX6_know_4 (by decide) ?_
  refine lv_icmp_ne (tgt := 50) hx hb dX6_know_6 (by decide) (fun c1 => absurd (by decide) c1) (fun _ => ?_)
  refine lv_iconst (v := 0) hx hb dX6_know_9 (by decide) ?_
  refine lv_istore_n (lv' := [(1, .int 0), (0, .ref (q 0))]) hx hb dX6_know_10 rfl hl (by decide) rfl (fun ls hl => ?_)
  have L11 : ∀ (fuel : Nat) (k : Nat) (h1 : k ≤ 700) (h2 : 700 < fuel + k) (H : Heap) (locs : List Loc) (ls : Array Slot), mI dd g q A s.heap H locs (mrow M 2 (sh1 (M 2) k)) → lv_has ls 2 [(1, .int (nI k)), (0, .ref (q 0))] → wk p l e wsX6_know { frames := 0, cells := 0, slots := 0, locals := 0 } s m [.ref (q 0)] below meth c H locs (mQv dd g q A (fun M' => M' = knM M 6)) (A) (F0 m 11 ls []) := by
    intro fuel
    induction fuel with
    | zero =>
      intro k h1 h2 H locs ls hI hl
      exact absurd h2 (by omega)
    | succ fuel ih =>
      intro k h1 h2 H locs ls hI hl
      refine lv_iload_n hx hb dX6_know_11 rfl (lv_at hl 0 rfl) ?_
      refine lv_sipush (v := 700) hx hb dX6_know_12 (by decide) ?_
      refine lv_icmp_ge (tgt := 40) hx hb dX6_know_15 (by decide) (fun c2 => ?_) (fun c2 => ?_)
      · skip
        have nc2 : 700 ≤ k := (nI_leI (a := 700) (b := k) (by omega) (by omega)).mp c2
        refine lv_aload_n hx hb dX6_know_40 rfl (lv_at hl 1 rfl) ?_
        refine lv_dup hx hb dX6_know_41 rfl ?_
        refine m_get hx hb hts hin hown hK hI 3 (by decide) (hts (.fieldLink RX6 39 "WinderLaddersModel" "known" "I") (by decide +kernel)) (v := .int 6) (congrArg (fun z => some (Value.int z)) ((by rw [mrow_n _ (by decide)]; exact hk))) dX6_know_42 ?_
        refine lv_iconst (v := 1) hx hb dX6_know_45 (by decide) ?_
        refine lv_isub hx hb dX6_know_46 ?_
        refine lv_re (y := 5) (by decide) ?_
        refine m_put hx hb hts hin hown hK hA hI 3 (by decide) (hts (.fieldLink RX6 39 "WinderLaddersModel" "known" "I") (by decide +kernel)) (fun h => absurd h (by decide)) dX6_know_47 (fun H locs hI => ?_)
        refine lv_iconst (v := 0) hx hb dX6_know_50 (by decide) ?_
        refine lv_istore_n (lv' := [(1, .int 0), (0, .ref (q 0))]) hx hb dX6_know_51 rfl hl (by decide) rfl (fun ls hl => ?_)
        have L52 : ∀ (fuel2 : Nat) (k : Nat) (g1 : k ≤ 140) (g2 : 140 < fuel2 + k) (H : Heap) (locs : List Loc) (ls : Array Slot), mI dd g q A s.heap H locs (mset (mrow M 2 (cp1 (sh1 (M 2) 700) (M 0) (700) k)) 3 0 (5)) → lv_has ls 2 [(1, .int (nI k)), (0, .ref (q 0))] → wk p l e wsX6_know { frames := 0, cells := 0, slots := 0, locals := 0 } s m [.ref (q 0)] below meth c H locs (mQv dd g q A (fun M' => M' = knM M 6)) (A) (F0 m 52 ls []) := by
          intro fuel2
          induction fuel2 with
          | zero =>
            intro k g1 g2 H locs ls hI hl
            exact absurd g2 (by omega)
          | succ fuel2 ih2 =>
            intro k g1 g2 H locs ls hI hl
            refine lv_iload_n hx hb dX6_know_52 rfl (lv_at hl 0 rfl) ?_
            refine lv_sipush (v := 140) hx hb dX6_know_53 (by decide) ?_
            refine lv_icmp_ge (tgt := 86) hx hb dX6_know_56 (by decide) (fun c3 => ?_) (fun c3 => ?_)
            · skip
              have nc3 : 140 ≤ k := (nI_leI (a := 140) (b := k) (by omega) (by omega)).mp c3
              refine lv_aload_n hx hb dX6_know_86 rfl (lv_at hl 1 rfl) ?_
              refine lv_dup hx hb dX6_know_87 rfl ?_
              refine m_get hx hb hts hin hown hK hI 3 (by decide) (hts (.fieldLink RX6 39 "WinderLaddersModel" "known" "I") (by decide +kernel)) (v := .int 5) (congrArg (fun z => some (Value.int z)) ((by simp [mset]))) dX6_know_88 ?_
              refine lv_iconst (v := 1) hx hb dX6_know_91 (by decide) ?_
              refine lv_iadd hx hb dX6_know_92 ?_
              refine m_put hx hb hts hin hown hK hA hI 3 (by decide) (hts (.fieldLink RX6 39 "WinderLaddersModel" "known" "I") (by decide +kernel)) (fun h => absurd h (by decide)) dX6_know_93 (fun H locs hI => ?_)
              exact m_vret hx hb hr hI (by rw [mset_mset, show k = 140 by omega]; unfold knM knB knN; first | (simp only [if_true]; done) | (simp only [if_true]; rfl)) dX6_know_96 hlocks
            · skip
              have nc3 : ¬ (140 ≤ k) := fun h => c3 ((nI_leI (a := 140) (b := k) (by omega) (by omega)).mpr h)
              refine lv_aload_n hx hb dX6_know_59 rfl (lv_at hl 1 rfl) ?_
              refine m_get hx hb hts hin hown hK hI 2 (by decide) (hts (.fieldLink RX6 16 "WinderLaddersModel" "before" "[I") (by decide +kernel)) (v := .ref (q 3)) rfl dX6_know_60 ?_
              refine lv_sipush (v := 140) hx hb dX6_know_63 (by decide) ?_
              refine lv_aload_n hx hb dX6_know_66 rfl (lv_at hl 1 rfl) ?_
              refine m_get hx hb hts hin hown hK hI 3 (by decide) (hts (.fieldLink RX6 39 "WinderLaddersModel" "known" "I") (by decide +kernel)) (v := .int 5) (congrArg (fun z => some (Value.int z)) ((by simp [mset]))) dX6_know_67 ?_
              refine lv_imul hx hb dX6_know_70 ?_
              refine lv_re (y := 700) (by decide) ?_
              refine lv_iload_n hx hb dX6_know_71 rfl (lv_at hl 0 rfl) ?_
              refine lv_iadd hx hb dX6_know_72 ?_
              refine lv_re (y := nI (700 + k)) (nI_add (700) (k)) ?_
              refine lv_aload_n hx hb dX6_know_73 rfl (lv_at hl 1 rfl) ?_
              refine m_get hx hb hts hin hown hK hI 0 (by decide) (hts (.fieldLink RX6 7 "WinderLaddersModel" "s" "[I") (by decide +kernel)) (v := .ref (q 1)) rfl dX6_know_74 ?_
              refine lv_iload_n hx hb dX6_know_77 rfl (lv_at hl 0 rfl) ?_
              refine m_ald hx hb hK hI 0 (by decide) (k) (by show _ < 140; omega) rfl (v := M 0 k) ((by simp [mset, mrow])) dX6_know_78 ?_
              refine m_ast hx hb hK hA hI 2 (by decide) (700 + k) (by show _ < 840; omega) rfl dX6_know_79 (fun H locs hI => ?_)
              refine lv_iinc (v := nI (k + 1)) (lv' := [(1, .int (nI (k + 1))), (0, .ref (q 0))]) hx hb dX6_know_80 hl (k := 0) rfl (by rw [show Int32.ofInt 1 = nI 1 from rfl, nI_add]) (by decide) rfl (fun ls hl => ?_)
              refine lv_goto (tgt := 52) hx hb dX6_know_83 (by decide) ?_
              exact ih2 (k + 1) (by omega) (by omega) _ _ _ (by rw [mset_comm _ (by decide), mset_mrow_s, cp1_s] at hI; exact hI) (lv_sub hl [0, 1] rfl)
        exact L52 141 0 (by omega) (by omega) _ _ _ (by rw [cp1_0]; rw [show k = 700 by omega] at hI; exact hI) (lv_sub hl [0, 1] rfl)
      · skip
        have nc2 : ¬ (700 ≤ k) := fun h => c2 ((nI_leI (a := 700) (b := k) (by omega) (by omega)).mpr h)
        refine lv_aload_n hx hb dX6_know_18 rfl (lv_at hl 1 rfl) ?_
        refine m_get hx hb hts hin hown hK hI 2 (by decide) (hts (.fieldLink RX6 16 "WinderLaddersModel" "before" "[I") (by decide +kernel)) (v := .ref (q 3)) rfl dX6_know_19 ?_
        refine lv_iload_n hx hb dX6_know_22 rfl (lv_at hl 0 rfl) ?_
        refine lv_aload_n hx hb dX6_know_23 rfl (lv_at hl 1 rfl) ?_
        refine m_get hx hb hts hin hown hK hI 2 (by decide) (hts (.fieldLink RX6 16 "WinderLaddersModel" "before" "[I") (by decide +kernel)) (v := .ref (q 3)) rfl dX6_know_24 ?_
        refine lv_sipush (v := 140) hx hb dX6_know_27 (by decide) ?_
        refine lv_iload_n hx hb dX6_know_30 rfl (lv_at hl 0 rfl) ?_
        refine lv_iadd hx hb dX6_know_31 ?_
        refine lv_re (y := nI (140 + k)) (nI_add (140) (k)) ?_
        refine m_ald hx hb hK hI 2 (by decide) (140 + k) (by show _ < 840; omega) rfl (v := M 2 (140 + k)) ((by rw [mrow_s]; simp only [sh1]; rw [if_neg (by omega)])) dX6_know_32 ?_
        refine m_ast hx hb hK hA hI 2 (by decide) (k) (by show _ < 840; omega) rfl dX6_know_33 (fun H locs hI => ?_)
        refine lv_iinc (v := nI (k + 1)) (lv' := [(1, .int (nI (k + 1))), (0, .ref (q 0))]) hx hb dX6_know_34 hl (k := 0) rfl (by rw [show Int32.ofInt 1 = nI 1 from rfl, nI_add]) (by decide) rfl (fun ls hl => ?_)
        refine lv_goto (tgt := 11) hx hb dX6_know_37 (by decide) ?_
        exact ih (k + 1) (by omega) (by omega) _ _ _ (by rw [mset_mrow_s, sh1_s] at hI; exact hI) (lv_sub hl [0, 1] rfl)
  exact L11 701 0 (by omega) (by omega) _ _ _ (by rw [sh1_0, mrow_self]; exact hI) (lv_sub hl [0, 1] rfl)

set_option maxHeartbeats 4000000 in
set_option maxRecDepth 100000 in
theorem k_X6_knowL (l : Launch) (dd : va_G) (g : Nat → ClassId) (q : Nat → Nat) (A : Nat → Prop) (hA : mA A q) (M : MS) (kn : Nat) (hkn : kn < 6) (hk : M 3 0 = nI kn) : Met l yX6_know wsX6_know ({ frames := 0, cells := 0, slots := 0, locals := 0 }) (mPre dd g q M [.ref (q 0)]) (mQv dd g q A (fun M' => M' = knM M kn)) 0 0 A := by
  refine Met.ofW (cc := cX6_know) (maxL := 2) (ret := none) (by decide) rfl ?_
  intro p e s m args below meth c s₁ B hml hv
  obtain ⟨rfl, hP0, hK⟩ := hv
  have hx := B.exec
  have hb := B.bytes
  have hr := B.returns
  have hts := atoms_spec (ws := wsX6_know) B.pre
  have hown : s.vm.findClass RX6 = some m.cls := findClass_of_methodNamed B.named
  have hlocks := B.notSynchronized
  have hin : ∀ w ∈ wsX60, w ∈ wsX6_know := by decide +kernel
  have hI : mI dd g q A s.heap s.heap [] M := ⟨hP0, va_S.rf⟩
  have hl := lv_entry ([.ref (q 0)]) (n := 2) (Nat.le_of_ble_eq_true rfl)
  rw [lg_entry_eq]
  generalize (lg_sl ([.ref (q 0)]) ++ List.replicate (2 - (lg_sl ([.ref (q 0)])).length) Slot.unset).toArray = ls at hl ⊢
  have hl : lv_has ls 2 [(0, .ref (q 0))] := hl
  refine lv_aload_n hx hb dX6_know_0 rfl (lv_at hl 0 rfl) ?_
  refine m_get hx hb hts hin hown hK hI 3 (by decide) (hts (.fieldLink RX6 39 "WinderLaddersModel" "known" "I") (by decide +kernel)) (v := .int (nI kn)) (congrArg (fun z => some (Value.int z)) hk) dX6_know_1 ?_
  refine lv_bipush (v := 6) hx hb dX6_know_4 (by decide) ?_
  refine lv_icmp_ne (tgt := 50) hx hb dX6_know_6 (by decide) (fun c1 => ?_) (fun c1 => ?_)
  · skip
    have nc1 : ¬ (kn = 6) := fun h => c1 ((nI_eq (a := kn) (b := 6) (by omega) (by omega)).mpr h)
    refine lv_iconst (v := 0) hx hb dX6_know_50 (by decide) ?_
    refine lv_istore_n (lv' := [(1, .int 0), (0, .ref (q 0))]) hx hb dX6_know_51 rfl hl (by decide) rfl (fun ls hl => ?_)
    have L52 : ∀ (fuel2 : Nat) (k : Nat) (g1 : k ≤ 140) (g2 : 140 < fuel2 + k) (H : Heap) (locs : List Loc) (ls : Array Slot), mI dd g q A s.heap H locs (mset (mrow M 2 (cp1 (M 2) (M 0) (140 * kn) k)) 3 0 (nI kn)) → lv_has ls 2 [(1, .int (nI k)), (0, .ref (q 0))] → wk p l e wsX6_know { frames := 0, cells := 0, slots := 0, locals := 0 } s m [.ref (q 0)] below meth c H locs (mQv dd g q A (fun M' => M' = knM M kn)) (A) (F0 m 52 ls []) := by
      intro fuel2
      induction fuel2 with
      | zero =>
        intro k g1 g2 H locs ls hI hl
        exact absurd g2 (by omega)
      | succ fuel2 ih2 =>
        intro k g1 g2 H locs ls hI hl
        refine lv_iload_n hx hb dX6_know_52 rfl (lv_at hl 0 rfl) ?_
        refine lv_sipush (v := 140) hx hb dX6_know_53 (by decide) ?_
        refine lv_icmp_ge (tgt := 86) hx hb dX6_know_56 (by decide) (fun c2 => ?_) (fun c2 => ?_)
        · skip
          have nc2 : 140 ≤ k := (nI_leI (a := 140) (b := k) (by omega) (by omega)).mp c2
          refine lv_aload_n hx hb dX6_know_86 rfl (lv_at hl 1 rfl) ?_
          refine lv_dup hx hb dX6_know_87 rfl ?_
          refine m_get hx hb hts hin hown hK hI 3 (by decide) (hts (.fieldLink RX6 39 "WinderLaddersModel" "known" "I") (by decide +kernel)) (v := .int (nI kn)) (congrArg (fun z => some (Value.int z)) ((by simp [mset]))) dX6_know_88 ?_
          refine lv_iconst (v := 1) hx hb dX6_know_91 (by decide) ?_
          refine lv_iadd hx hb dX6_know_92 ?_
          refine lv_re (y := nI (kn + 1)) (nI_add (kn) (1)) ?_
          refine m_put hx hb hts hin hown hK hA hI 3 (by decide) (hts (.fieldLink RX6 39 "WinderLaddersModel" "known" "I") (by decide +kernel)) (fun h => absurd h (by decide)) dX6_know_93 (fun H locs hI => ?_)
          exact m_vret hx hb hr hI (by rw [mset_mset, show k = 140 by omega]; unfold knM knB knN; first | (simp only [if_neg (show ¬ kn = 6 by omega)]; done) | (simp only [if_true]; rfl)) dX6_know_96 hlocks
        · skip
          have nc2 : ¬ (140 ≤ k) := fun h => c2 ((nI_leI (a := 140) (b := k) (by omega) (by omega)).mpr h)
          refine lv_aload_n hx hb dX6_know_59 rfl (lv_at hl 1 rfl) ?_
          refine m_get hx hb hts hin hown hK hI 2 (by decide) (hts (.fieldLink RX6 16 "WinderLaddersModel" "before" "[I") (by decide +kernel)) (v := .ref (q 3)) rfl dX6_know_60 ?_
          refine lv_sipush (v := 140) hx hb dX6_know_63 (by decide) ?_
          refine lv_aload_n hx hb dX6_know_66 rfl (lv_at hl 1 rfl) ?_
          refine m_get hx hb hts hin hown hK hI 3 (by decide) (hts (.fieldLink RX6 39 "WinderLaddersModel" "known" "I") (by decide +kernel)) (v := .int (nI kn)) (congrArg (fun z => some (Value.int z)) ((by simp [mset]))) dX6_know_67 ?_
          refine lv_imul hx hb dX6_know_70 ?_
          refine lv_re (y := nI (140 * kn)) (pk_mul 140 kn) ?_
          refine lv_iload_n hx hb dX6_know_71 rfl (lv_at hl 0 rfl) ?_
          refine lv_iadd hx hb dX6_know_72 ?_
          refine lv_re (y := nI (140 * kn + k)) (nI_add (140 * kn) (k)) ?_
          refine lv_aload_n hx hb dX6_know_73 rfl (lv_at hl 1 rfl) ?_
          refine m_get hx hb hts hin hown hK hI 0 (by decide) (hts (.fieldLink RX6 7 "WinderLaddersModel" "s" "[I") (by decide +kernel)) (v := .ref (q 1)) rfl dX6_know_74 ?_
          refine lv_iload_n hx hb dX6_know_77 rfl (lv_at hl 0 rfl) ?_
          refine m_ald hx hb hK hI 0 (by decide) (k) (by show _ < 140; omega) rfl (v := M 0 k) ((by simp [mset, mrow])) dX6_know_78 ?_
          refine m_ast hx hb hK hA hI 2 (by decide) (140 * kn + k) (by show _ < 840; omega) rfl dX6_know_79 (fun H locs hI => ?_)
          refine lv_iinc (v := nI (k + 1)) (lv' := [(1, .int (nI (k + 1))), (0, .ref (q 0))]) hx hb dX6_know_80 hl (k := 0) rfl (by rw [show Int32.ofInt 1 = nI 1 from rfl, nI_add]) (by decide) rfl (fun ls hl => ?_)
          refine lv_goto (tgt := 52) hx hb dX6_know_83 (by decide) ?_
          exact ih2 (k + 1) (by omega) (by omega) _ _ _ (by rw [mset_comm _ (by decide), mset_mrow_s, cp1_s] at hI; exact hI) (lv_sub hl [0, 1] rfl)
    exact L52 141 0 (by omega) (by omega) _ _ _ (by rw [cp1_0, mrow_self, show mset M 3 0 (nI kn) = M from by rw [← hk, mset_mrow, show upd (M 3) 0 (M 3 0) = M 3 from upd_id _ _, mrow_self]]; exact hI) (lv_sub hl [0, 1] rfl)
  · skip
    have nc1 : kn = 6 := (nI_eq (a := kn) (b := 6) (by omega) (by omega)).mp c1
    exact absurd (((nI_eq (a := kn) (b := 6) (by omega) (by omega)).mp c1)) (by omega)

theorem k_X6_know (l : Launch) (dd : va_G) (g : Nat → ClassId) (q : Nat → Nat) (A : Nat → Prop) (hA : mA A q) (M : MS) (kn : Nat) (hkn : kn ≤ 6) (hk : M 3 0 = nI kn) : Met l yX6_know wsX6_know ({ frames := 0, cells := 0, slots := 0, locals := 0 }) (mPre dd g q M [.ref (q 0)]) (mQv dd g q A (fun M' => M' = knM M kn)) 0 0 A := by
  by_cases h : kn = 6
  · subst h; exact k_X6_know6 l dd g q A hA M hk
  · exact k_X6_knowL l dd g q A hA M kn (by omega) hk
