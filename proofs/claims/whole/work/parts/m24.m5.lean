set_option maxHeartbeats 4000000 in
set_option maxRecDepth 100000 in
theorem k_X6_set (l : Launch) (dd : va_G) (g : Nat → ClassId) (q : Nat → Nat) (A : Nat → Prop) (hA : mA A q) (M : MS) (x v : Int32) (kn : Nat) (hkn : kn ≤ 6) (hk : M 3 0 = nI kn)  : Met l yX6_set wsX6_set ({ frames := 1, cells := 0, slots := 0, locals := 22 }) (mPre dd g q M [.ref (q 0), .int x, .int v]) (mQi dd g q A (fun r M' => opP (setE x v) (M 0 (ix x)) (upd (M 0) (ix x) v) M kn r M')) 0 0 A := by
  refine Met.ofW (cc := cX6_set) (maxL := 5) (ret := (some .int)) (by decide) rfl ?_
  intro p e s m args below meth c s₁ B hml hv
  obtain ⟨rfl, hP0, hK⟩ := hv
  have hx := B.exec
  have hb := B.bytes
  have hr := B.returns
  have hts := atoms_spec (ws := wsX6_set) B.pre
  have hown : s.vm.findClass RX6 = some m.cls := findClass_of_methodNamed B.named
  have hlocks := B.notSynchronized
  have hin : ∀ w ∈ wsX60, w ∈ wsX6_set := by decide +kernel
  have hI : mI dd g q A s.heap s.heap [] M := ⟨hP0, va_S.rf⟩
  have hl := lv_entry ([.ref (q 0), .int x, .int v]) (n := 5) (Nat.le_of_ble_eq_true rfl)
  rw [lg_entry_eq]
  generalize (lg_sl ([.ref (q 0), .int x, .int v]) ++ List.replicate (5 - (lg_sl ([.ref (q 0), .int x, .int v])).length) Slot.unset).toArray = ls at hl ⊢
  have hl : lv_has ls 5 [(0, .ref (q 0)), (1, .int x), (2, .int v)] := hl
  refine lv_iload_n hx hb dX6_set_0 rfl (lv_at hl 1 rfl) ?_
  refine lv_if_ne (tgt := 10) hx hb dX6_set_1 (by decide) (fun c1 => ?_) (fun c1 => ?_)
  · skip
    refine lv_bipush (v := 30) hx hb dX6_set_10 (by decide) ?_
    refine lv_istore_n (lv' := [(3, .int 30), (0, .ref (q 0)), (1, .int x), (2, .int v)]) hx hb dX6_set_12 rfl hl (by decide) rfl (fun ls hl => ?_)
    refine lv_iload_n hx hb dX6_set_13 rfl (lv_at hl 2 rfl) ?_
    refine lv_iconst (v := 0) hx hb dX6_set_14 (by decide) ?_
    refine lv_iconst (v := 3) hx hb dX6_set_15 (by decide) ?_
    refine m_calls (As := [.int x, .int 0, .int 3]) (rest := []) hx hb hml hown hts hI (k_X6_in l x 0 3) (va_cwS 3 hts gX6_set_X6_in rfl rfl rfl (by decide +kernel) ⟨Nat.le_of_ble_eq_true rfl, Nat.le_of_ble_eq_true rfl⟩) rfl hl (Nat.le_of_ble_eq_true rfl) ⟨Nat.zero_le _, Nat.zero_le _⟩ dX6_set_16 rfl (fun r H locs h3 hI => ?_)
    rcases h3 with ⟨b2, rfl⟩ | ⟨b2, rfl⟩
    · skip
      refine lv_if_eq (tgt := 31) hx hb dX6_set_19 (by decide) (fun c4 => absurd c4 (by decide)) (fun _ => ?_)
      refine lv_iload_n hx hb dX6_set_22 rfl (lv_at hl 3 rfl) ?_
      refine lv_iconst (v := 1) hx hb dX6_set_23 (by decide) ?_
      refine lv_iload_n hx hb dX6_set_24 rfl (lv_at hl 0 rfl) ?_
      refine m_calls (As := [.int v, .int 1, .int 30]) (rest := []) hx hb hml hown hts hI (k_X6_in l v 1 30) (va_cwS 3 hts gX6_set_X6_in rfl rfl rfl (by decide +kernel) ⟨Nat.le_of_ble_eq_true rfl, Nat.le_of_ble_eq_true rfl⟩) rfl hl (Nat.le_of_ble_eq_true rfl) ⟨Nat.zero_le _, Nat.zero_le _⟩ dX6_set_25 rfl (fun r H locs h6 hI => ?_)
      rcases h6 with ⟨b5, rfl⟩ | ⟨b5, rfl⟩
      · skip
        refine lv_if_ne (tgt := 34) hx hb dX6_set_28 (by decide) (fun _ => ?_) (fun c7 => absurd c7 (by decide))
        refine lv_aload_n hx hb dX6_set_34 rfl (lv_at hl 1 rfl) ?_
        refine m_callv (As := []) (rest := []) hx hb hml hown hts hK hI (k_X6_know l dd g q A hA M kn hkn hk) (cwV 0 hts gX6_set_X6_know rfl rfl rfl (by decide +kernel) ⟨Nat.le_of_ble_eq_true rfl, Nat.le_of_ble_eq_true rfl⟩) rfl hl (Nat.le_of_ble_eq_true rfl) ⟨Nat.zero_le _, Nat.zero_le _⟩ dX6_set_35 rfl (fun M1 H locs h8 hI => ?_)
        subst h8
        obtain ⟨i0, hi0, e0⟩ := inB_nI (n := 3) (by decide) b2
        have x0 : ix x = i0 := by rw [e0]; exact ix_nI (by omega)
        refine lv_aload_n hx hb dX6_set_38 rfl (lv_at hl 1 rfl) ?_
        refine m_get hx hb hts hin hown hK hI 0 (by decide) (hts (.fieldLink RX6 7 "WinderLaddersModel" "s" "[I") (by decide +kernel)) (v := .ref (q 1)) rfl dX6_set_39 ?_
        refine lv_iconst (v := 0) hx hb dX6_set_42 (by decide) ?_
        refine lv_iload_n hx hb dX6_set_43 rfl (lv_at hl 2 rfl) ?_
        refine lv_iadd hx hb dX6_set_44 ?_
        refine lv_re (y := nI i0) (by rw [e0]; exact (nI_add 0 i0).trans (by rw [Nat.zero_add])) ?_
        refine m_ald hx hb hK hI 0 (by decide) (i0) (by show _ < 140; omega) rfl (v := M 0 i0) ((by rw [knM_k _ _ (by decide) (by decide)])) dX6_set_45 ?_
        refine lv_istore (lv' := [(4, .int (M 0 i0)), (3, .int 30), (0, .ref (q 0)), (1, .int x), (2, .int v)]) hx hb dX6_set_46 hl (by decide) rfl (fun ls hl => ?_)
        refine lv_aload_n hx hb dX6_set_48 rfl (lv_at hl 2 rfl) ?_
        refine m_get hx hb hts hin hown hK hI 0 (by decide) (hts (.fieldLink RX6 7 "WinderLaddersModel" "s" "[I") (by decide +kernel)) (v := .ref (q 1)) rfl dX6_set_49 ?_
        refine lv_iconst (v := 0) hx hb dX6_set_52 (by decide) ?_
        refine lv_iload_n hx hb dX6_set_53 rfl (lv_at hl 3 rfl) ?_
        refine lv_iadd hx hb dX6_set_54 ?_
        refine lv_re (y := nI i0) (by rw [e0]; exact (nI_add 0 i0).trans (by rw [Nat.zero_add])) ?_
        refine lv_iload_n hx hb dX6_set_55 rfl (lv_at hl 4 rfl) ?_
        refine m_ast hx hb hK hA hI 0 (by decide) (i0) (by show _ < 140; omega) rfl dX6_set_56 (fun H locs hI => ?_)
        refine lv_iload hx hb dX6_set_57 (lv_at hl 0 rfl) ?_
        exact m_iret (v := M 0 i0) hx hb hr hI (Or.inl ⟨by simp only [setE, if_neg c1, if_pos b2, if_pos b5], by rw [x0], by rw [x0, mset_0, knM_k _ _ (by decide) (by decide)]⟩) dX6_set_59 hlocks
      · skip
        refine lv_if_ne (tgt := 34) hx hb dX6_set_28 (by decide) (fun c9 => absurd (by decide) c9) (fun _ => ?_)
        refine lv_bipush (v := (-2)) hx hb dX6_set_31 (by decide) ?_
        exact m_iret (v := (-2)) hx hb hr hI (Or.inr ⟨by simp only [setE, if_neg c1, if_pos b2, if_neg (Bool.eq_false_iff.mp b5)]; decide, by simp only [setE, if_neg c1, if_pos b2, if_neg (Bool.eq_false_iff.mp b5)], rfl⟩) dX6_set_33 hlocks
    · skip
      refine lv_if_eq (tgt := 31) hx hb dX6_set_19 (by decide) (fun _ => ?_) (fun c10 => absurd (by decide) c10)
      refine lv_bipush (v := (-2)) hx hb dX6_set_31 (by decide) ?_
      exact m_iret (v := (-2)) hx hb hr hI (Or.inr ⟨by simp only [setE, if_neg c1, if_neg (Bool.eq_false_iff.mp b2)]; decide, by simp only [setE, if_neg c1, if_neg (Bool.eq_false_iff.mp b2)], rfl⟩) dX6_set_33 hlocks
  · skip
    refine lv_sipush (v := 999) hx hb dX6_set_4 (by decide) ?_
    refine lv_goto (tgt := 12) hx hb dX6_set_7 (by decide) ?_
    refine lv_istore_n (lv' := [(3, .int 999), (0, .ref (q 0)), (1, .int x), (2, .int v)]) hx hb dX6_set_12 rfl hl (by decide) rfl (fun ls hl => ?_)
    refine lv_iload_n hx hb dX6_set_13 rfl (lv_at hl 2 rfl) ?_
    refine lv_iconst (v := 0) hx hb dX6_set_14 (by decide) ?_
    refine lv_iconst (v := 3) hx hb dX6_set_15 (by decide) ?_
    refine m_calls (As := [.int x, .int 0, .int 3]) (rest := []) hx hb hml hown hts hI (k_X6_in l x 0 3) (va_cwS 3 hts gX6_set_X6_in rfl rfl rfl (by decide +kernel) ⟨Nat.le_of_ble_eq_true rfl, Nat.le_of_ble_eq_true rfl⟩) rfl hl (Nat.le_of_ble_eq_true rfl) ⟨Nat.zero_le _, Nat.zero_le _⟩ dX6_set_16 rfl (fun r H locs h12 hI => ?_)
    rcases h12 with ⟨b11, rfl⟩ | ⟨b11, rfl⟩
    · skip
      refine lv_if_eq (tgt := 31) hx hb dX6_set_19 (by decide) (fun c13 => absurd c13 (by decide)) (fun _ => ?_)
      refine lv_iload_n hx hb dX6_set_22 rfl (lv_at hl 3 rfl) ?_
      refine lv_iconst (v := 1) hx hb dX6_set_23 (by decide) ?_
      refine lv_iload_n hx hb dX6_set_24 rfl (lv_at hl 0 rfl) ?_
      refine m_calls (As := [.int v, .int 1, .int 999]) (rest := []) hx hb hml hown hts hI (k_X6_in l v 1 999) (va_cwS 3 hts gX6_set_X6_in rfl rfl rfl (by decide +kernel) ⟨Nat.le_of_ble_eq_true rfl, Nat.le_of_ble_eq_true rfl⟩) rfl hl (Nat.le_of_ble_eq_true rfl) ⟨Nat.zero_le _, Nat.zero_le _⟩ dX6_set_25 rfl (fun r H locs h15 hI => ?_)
      rcases h15 with ⟨b14, rfl⟩ | ⟨b14, rfl⟩
      · skip
        refine lv_if_ne (tgt := 34) hx hb dX6_set_28 (by decide) (fun _ => ?_) (fun c16 => absurd c16 (by decide))
        refine lv_aload_n hx hb dX6_set_34 rfl (lv_at hl 1 rfl) ?_
        refine m_callv (As := []) (rest := []) hx hb hml hown hts hK hI (k_X6_know l dd g q A hA M kn hkn hk) (cwV 0 hts gX6_set_X6_know rfl rfl rfl (by decide +kernel) ⟨Nat.le_of_ble_eq_true rfl, Nat.le_of_ble_eq_true rfl⟩) rfl hl (Nat.le_of_ble_eq_true rfl) ⟨Nat.zero_le _, Nat.zero_le _⟩ dX6_set_35 rfl (fun M1 H locs h17 hI => ?_)
        subst h17
        obtain ⟨i0, hi0, e0⟩ := inB_nI (n := 3) (by decide) b11
        have x0 : ix x = i0 := by rw [e0]; exact ix_nI (by omega)
        refine lv_aload_n hx hb dX6_set_38 rfl (lv_at hl 1 rfl) ?_
        refine m_get hx hb hts hin hown hK hI 0 (by decide) (hts (.fieldLink RX6 7 "WinderLaddersModel" "s" "[I") (by decide +kernel)) (v := .ref (q 1)) rfl dX6_set_39 ?_
        refine lv_iconst (v := 0) hx hb dX6_set_42 (by decide) ?_
        refine lv_iload_n hx hb dX6_set_43 rfl (lv_at hl 2 rfl) ?_
        refine lv_iadd hx hb dX6_set_44 ?_
        refine lv_re (y := nI i0) (by rw [e0]; exact (nI_add 0 i0).trans (by rw [Nat.zero_add])) ?_
        refine m_ald hx hb hK hI 0 (by decide) (i0) (by show _ < 140; omega) rfl (v := M 0 i0) ((by rw [knM_k _ _ (by decide) (by decide)])) dX6_set_45 ?_
        refine lv_istore (lv' := [(4, .int (M 0 i0)), (3, .int 999), (0, .ref (q 0)), (1, .int x), (2, .int v)]) hx hb dX6_set_46 hl (by decide) rfl (fun ls hl => ?_)
        refine lv_aload_n hx hb dX6_set_48 rfl (lv_at hl 2 rfl) ?_
        refine m_get hx hb hts hin hown hK hI 0 (by decide) (hts (.fieldLink RX6 7 "WinderLaddersModel" "s" "[I") (by decide +kernel)) (v := .ref (q 1)) rfl dX6_set_49 ?_
        refine lv_iconst (v := 0) hx hb dX6_set_52 (by decide) ?_
        refine lv_iload_n hx hb dX6_set_53 rfl (lv_at hl 3 rfl) ?_
        refine lv_iadd hx hb dX6_set_54 ?_
        refine lv_re (y := nI i0) (by rw [e0]; exact (nI_add 0 i0).trans (by rw [Nat.zero_add])) ?_
        refine lv_iload_n hx hb dX6_set_55 rfl (lv_at hl 4 rfl) ?_
        refine m_ast hx hb hK hA hI 0 (by decide) (i0) (by show _ < 140; omega) rfl dX6_set_56 (fun H locs hI => ?_)
        refine lv_iload hx hb dX6_set_57 (lv_at hl 0 rfl) ?_
        exact m_iret (v := M 0 i0) hx hb hr hI (Or.inl ⟨by simp only [setE, if_pos c1, if_pos b11, if_pos b14], by rw [x0], by rw [x0, mset_0, knM_k _ _ (by decide) (by decide)]⟩) dX6_set_59 hlocks
      · skip
        refine lv_if_ne (tgt := 34) hx hb dX6_set_28 (by decide) (fun c18 => absurd (by decide) c18) (fun _ => ?_)
        refine lv_bipush (v := (-2)) hx hb dX6_set_31 (by decide) ?_
        exact m_iret (v := (-2)) hx hb hr hI (Or.inr ⟨by simp only [setE, if_pos c1, if_pos b11, if_neg (Bool.eq_false_iff.mp b14)]; decide, by simp only [setE, if_pos c1, if_pos b11, if_neg (Bool.eq_false_iff.mp b14)], rfl⟩) dX6_set_33 hlocks
    · skip
      refine lv_if_eq (tgt := 31) hx hb dX6_set_19 (by decide) (fun _ => ?_) (fun c19 => absurd (by decide) c19)
      refine lv_bipush (v := (-2)) hx hb dX6_set_31 (by decide) ?_
      exact m_iret (v := (-2)) hx hb hr hI (Or.inr ⟨by simp only [setE, if_pos c1, if_neg (Bool.eq_false_iff.mp b11)]; decide, by simp only [setE, if_pos c1, if_neg (Bool.eq_false_iff.mp b11)], rfl⟩) dX6_set_33 hlocks

set_option maxHeartbeats 4000000 in
set_option maxRecDepth 100000 in
theorem k_X6_hang (l : Launch) (dd : va_G) (g : Nat → ClassId) (q : Nat → Nat) (A : Nat → Prop) (hA : mA A q) (M : MS) (h u d : Int32) (kn : Nat) (hkn : kn ≤ 6) (hk : M 3 0 = nI kn) (hW : Wk (M 0)) : Met l yX6_hang wsX6_hang ({ frames := 2, cells := 0, slots := 0, locals := 46 }) (mPre dd g q M [.ref (q 0), .int h, .int u, .int d]) (mQi dd g q A (fun r M' => opP (hangR (M 0) h u d) (nI (cn (M 0))) (newC (M 0) (cn (M 0)) h u d) M kn r M')) 0 0 A := by
  refine Met.ofW (cc := cX6_hang) (maxL := 5) (ret := (some .int)) (by decide) rfl ?_
  intro p e s m args below meth c s₁ B hml hv
  obtain ⟨rfl, hP0, hK⟩ := hv
  have hx := B.exec
  have hb := B.bytes
  have hr := B.returns
  have hts := atoms_spec (ws := wsX6_hang) B.pre
  have hown : s.vm.findClass RX6 = some m.cls := findClass_of_methodNamed B.named
  have hlocks := B.notSynchronized
  have hI : mI dd g q A s.heap s.heap [] M := ⟨hP0, va_S.rf⟩
  have hl := lv_entry ([.ref (q 0), .int h, .int u, .int d]) (n := 5) (Nat.le_of_ble_eq_true rfl)
  rw [lg_entry_eq]
  generalize (lg_sl ([.ref (q 0), .int h, .int u, .int d]) ++ List.replicate (5 - (lg_sl ([.ref (q 0), .int h, .int u, .int d])).length) Slot.unset).toArray = ls at hl ⊢
  have hl : lv_has ls 5 [(0, .ref (q 0)), (1, .int h), (2, .int u), (3, .int d)] := hl
  have hc16 := hW.2.1
  have hl4 := hW.2.2.2
  refine lv_aload_n hx hb dX6_hang_0 rfl (lv_at hl 0 rfl) ?_
  refine lv_iload_n hx hb dX6_hang_1 rfl (lv_at hl 1 rfl) ?_
  refine lv_iload_n hx hb dX6_hang_2 rfl (lv_at hl 2 rfl) ?_
  refine lv_iload_n hx hb dX6_hang_3 rfl (lv_at hl 3 rfl) ?_
  refine m_calli (As := [.int h, .int u, .int d]) (rest := []) hx hb hml hown hts hK hI (k_X6_hangFault l dd g q A hA M h u d hW) (cwV 3 hts gX6_hang_X6_hangFault rfl rfl rfl (by decide +kernel) ⟨Nat.le_of_ble_eq_true rfl, Nat.le_of_ble_eq_true rfl⟩) rfl hl (Nat.le_of_ble_eq_true rfl) ⟨Nat.zero_le _, Nat.zero_le _⟩ dX6_hang_4 rfl (fun r M1 H locs h1 hI => ?_)
  obtain ⟨hr9, hm9⟩ := h1
  rw [hm9] at hI
  subst hr9
  refine lv_istore (lv' := [(4, .int (hangR (M 0) h u d)), (0, .ref (q 0)), (1, .int h), (2, .int u), (3, .int d)]) hx hb dX6_hang_7 hl (by decide) rfl (fun ls hl => ?_)
  refine lv_iload hx hb dX6_hang_9 (lv_at hl 0 rfl) ?_
  refine lv_if_ge (tgt := 17) hx hb dX6_hang_11 (by decide) (fun c2 => ?_) (fun c2 => ?_)
  · skip
    have hz := hangR_0 c2
    have hn : cn (M 0) < 16 := by have := hz.2.2.2.2; omega
    refine lv_aload_n hx hb dX6_hang_17 rfl (lv_at hl 1 rfl) ?_
    refine m_callv (As := []) (rest := []) hx hb hml hown hts hK hI (k_X6_know l dd g q A hA M kn hkn hk) (cwV 0 hts gX6_hang_X6_know rfl rfl rfl (by decide +kernel) ⟨Nat.le_of_ble_eq_true rfl, Nat.le_of_ble_eq_true rfl⟩) rfl hl (Nat.le_of_ble_eq_true rfl) ⟨Nat.zero_le _, Nat.zero_le _⟩ dX6_hang_18 rfl (fun M1 H locs h3 hI => ?_)
    subst h3
    refine lv_aload_n hx hb dX6_hang_21 rfl (lv_at hl 1 rfl) ?_
    refine lv_iload_n hx hb dX6_hang_22 rfl (lv_at hl 2 rfl) ?_
    refine lv_iload_n hx hb dX6_hang_23 rfl (lv_at hl 3 rfl) ?_
    refine lv_iload_n hx hb dX6_hang_24 rfl (lv_at hl 4 rfl) ?_
    refine m_calli (As := [.int h, .int u, .int d]) (rest := []) hx hb hml hown hts hK hI (k_X6_hangs l dd g q A hA (knM M kn) h u d hn hW) (cwV 3 hts gX6_hang_X6_hangs rfl rfl rfl (by decide +kernel) ⟨Nat.le_of_ble_eq_true rfl, Nat.le_of_ble_eq_true rfl⟩) rfl hl (Nat.le_of_ble_eq_true rfl) ⟨Nat.zero_le _, Nat.zero_le _⟩ dX6_hang_25 rfl (fun r M1 H locs h4 hI => ?_)
    obtain ⟨hr9, hm9⟩ := h4
    rw [hm9] at hI
    subst hr9
    exact m_iret (v := nI (cn (M 0))) hx hb hr hI (Or.inl ⟨hz.1, rfl, rfl⟩) dX6_hang_28 hlocks
  · skip
    refine lv_iload hx hb dX6_hang_14 (lv_at hl 0 rfl) ?_
    exact m_iret (v := hangR (M 0) h u d) hx hb hr hI (Or.inr ⟨fun z => c2 (by rw [z]; decide), rfl, rfl⟩) dX6_hang_16 hlocks

set_option maxHeartbeats 4000000 in
set_option maxRecDepth 100000 in
theorem k_X6_ladder (l : Launch) (dd : va_G) (g : Nat → ClassId) (q : Nat → Nat) (A : Nat → Prop) (hA : mA A q) (M : MS) (u : Int32) (kn : Nat) (hkn : kn ≤ 6) (hk : M 3 0 = nI kn) (hW : Wk (M 0)) : Met l yX6_ladder wsX6_ladder ({ frames := 2, cells := 0, slots := 0, locals := 43 }) (mPre dd g q M [.ref (q 0), .int u]) (mQi dd g q A (fun r M' => opP (lddR (M 0) u) (nI (ln (M 0))) (upd (upd (M 0) (8 + ln (M 0)) u) 6 (nI (ln (M 0) + 1))) M kn r M')) 0 0 A := by
  refine Met.ofW (cc := cX6_ladder) (maxL := 3) (ret := (some .int)) (by decide) rfl ?_
  intro p e s m args below meth c s₁ B hml hv
  obtain ⟨rfl, hP0, hK⟩ := hv
  have hx := B.exec
  have hb := B.bytes
  have hr := B.returns
  have hts := atoms_spec (ws := wsX6_ladder) B.pre
  have hown : s.vm.findClass RX6 = some m.cls := findClass_of_methodNamed B.named
  have hlocks := B.notSynchronized
  have hI : mI dd g q A s.heap s.heap [] M := ⟨hP0, va_S.rf⟩
  have hl := lv_entry ([.ref (q 0), .int u]) (n := 3) (Nat.le_of_ble_eq_true rfl)
  rw [lg_entry_eq]
  generalize (lg_sl ([.ref (q 0), .int u]) ++ List.replicate (3 - (lg_sl ([.ref (q 0), .int u])).length) Slot.unset).toArray = ls at hl ⊢
  have hl : lv_has ls 3 [(0, .ref (q 0)), (1, .int u)] := hl
  have hc16 := hW.2.1
  have hl4 := hW.2.2.2
  refine lv_aload_n hx hb dX6_ladder_0 rfl (lv_at hl 0 rfl) ?_
  refine lv_iload_n hx hb dX6_ladder_1 rfl (lv_at hl 1 rfl) ?_
  refine m_calli (As := [.int u]) (rest := []) hx hb hml hown hts hK hI (k_X6_ladderFault l dd g q A hA M u hW) (cwV 1 hts gX6_ladder_X6_ladderFault rfl rfl rfl (by decide +kernel) ⟨Nat.le_of_ble_eq_true rfl, Nat.le_of_ble_eq_true rfl⟩) rfl hl (Nat.le_of_ble_eq_true rfl) ⟨Nat.zero_le _, Nat.zero_le _⟩ dX6_ladder_2 rfl (fun r M1 H locs h1 hI => ?_)
  obtain ⟨hr9, hm9⟩ := h1
  rw [hm9] at hI
  subst hr9
  refine lv_istore_n (lv' := [(2, .int (lddR (M 0) u)), (0, .ref (q 0)), (1, .int u)]) hx hb dX6_ladder_5 rfl hl (by decide) rfl (fun ls hl => ?_)
  refine lv_iload_n hx hb dX6_ladder_6 rfl (lv_at hl 0 rfl) ?_
  refine lv_if_ge (tgt := 12) hx hb dX6_ladder_7 (by decide) (fun c2 => ?_) (fun c2 => ?_)
  · skip
    have hz := lddR_0 c2
    have hn : ln (M 0) < 4 := by have := hz.2.2; omega
    refine lv_aload_n hx hb dX6_ladder_12 rfl (lv_at hl 1 rfl) ?_
    refine m_callv (As := []) (rest := []) hx hb hml hown hts hK hI (k_X6_know l dd g q A hA M kn hkn hk) (cwV 0 hts gX6_ladder_X6_know rfl rfl rfl (by decide +kernel) ⟨Nat.le_of_ble_eq_true rfl, Nat.le_of_ble_eq_true rfl⟩) rfl hl (Nat.le_of_ble_eq_true rfl) ⟨Nat.zero_le _, Nat.zero_le _⟩ dX6_ladder_13 rfl (fun M1 H locs h3 hI => ?_)
    subst h3
    refine lv_aload_n hx hb dX6_ladder_16 rfl (lv_at hl 1 rfl) ?_
    refine lv_iload_n hx hb dX6_ladder_17 rfl (lv_at hl 2 rfl) ?_
    refine m_calli (As := [.int u]) (rest := []) hx hb hml hown hts hK hI (k_X6_buys l dd g q A hA (knM M kn) u hn hW) (cwV 1 hts gX6_ladder_X6_buys rfl rfl rfl (by decide +kernel) ⟨Nat.le_of_ble_eq_true rfl, Nat.le_of_ble_eq_true rfl⟩) rfl hl (Nat.le_of_ble_eq_true rfl) ⟨Nat.zero_le _, Nat.zero_le _⟩ dX6_ladder_18 rfl (fun r M1 H locs h4 hI => ?_)
    obtain ⟨hr9, hm9⟩ := h4
    rw [hm9] at hI
    subst hr9
    exact m_iret (v := nI (ln (M 0))) hx hb hr hI (Or.inl ⟨hz.1, rfl, rfl⟩) dX6_ladder_21 hlocks
  · skip
    refine lv_iload_n hx hb dX6_ladder_10 rfl (lv_at hl 0 rfl) ?_
    exact m_iret (v := lddR (M 0) u) hx hb hr hI (Or.inr ⟨fun z => c2 (by rw [z]; decide), rfl, rfl⟩) dX6_ladder_11 hlocks

set_option maxHeartbeats 4000000 in
set_option maxRecDepth 100000 in
theorem k_X6_pass (l : Launch) (dd : va_G) (g : Nat → ClassId) (q : Nat → Nat) (A : Nat → Prop) (hA : mA A q) (M : MS) (d : Int32) (kn : Nat) (hkn : kn ≤ 6) (hk : M 3 0 = nI kn) (hW : Wk (M 0)) : Met l yX6_pass wsX6_pass ({ frames := 4, cells := 0, slots := 0, locals := 86 }) (mPre dd g q M [.ref (q 0), .int d]) (mQi dd g q A (fun r M' => opP (passR (M 0) d) (stV (pasF (M 0) (ix d))) (pasF (M 0) (ix d)) M kn r M')) 0 0 A := by
  refine Met.ofW (cc := cX6_pass) (maxL := 3) (ret := (some .int)) (by decide) rfl ?_
  intro p e s m args below meth c s₁ B hml hv
  obtain ⟨rfl, hP0, hK⟩ := hv
  have hx := B.exec
  have hb := B.bytes
  have hr := B.returns
  have hts := atoms_spec (ws := wsX6_pass) B.pre
  have hown : s.vm.findClass RX6 = some m.cls := findClass_of_methodNamed B.named
  have hlocks := B.notSynchronized
  have hI : mI dd g q A s.heap s.heap [] M := ⟨hP0, va_S.rf⟩
  have hl := lv_entry ([.ref (q 0), .int d]) (n := 3) (Nat.le_of_ble_eq_true rfl)
  rw [lg_entry_eq]
  generalize (lg_sl ([.ref (q 0), .int d]) ++ List.replicate (3 - (lg_sl ([.ref (q 0), .int d])).length) Slot.unset).toArray = ls at hl ⊢
  have hl : lv_has ls 3 [(0, .ref (q 0)), (1, .int d)] := hl
  have hc16 := hW.2.1
  have hl4 := hW.2.2.2
  refine lv_aload_n hx hb dX6_pass_0 rfl (lv_at hl 0 rfl) ?_
  refine lv_iload_n hx hb dX6_pass_1 rfl (lv_at hl 1 rfl) ?_
  refine m_calli (As := [.int d]) (rest := []) hx hb hml hown hts hK hI (k_X6_passFault l dd g q A hA M d) (cwV 1 hts gX6_pass_X6_passFault rfl rfl rfl (by decide +kernel) ⟨Nat.le_of_ble_eq_true rfl, Nat.le_of_ble_eq_true rfl⟩) rfl hl (Nat.le_of_ble_eq_true rfl) ⟨Nat.zero_le _, Nat.zero_le _⟩ dX6_pass_2 rfl (fun r M1 H locs h1 hI => ?_)
  obtain ⟨hr9, hm9⟩ := h1
  rw [hm9] at hI
  subst hr9
  refine lv_istore_n (lv' := [(2, .int (passR (M 0) d)), (0, .ref (q 0)), (1, .int d)]) hx hb dX6_pass_5 rfl hl (by decide) rfl (fun ls hl => ?_)
  refine lv_iload_n hx hb dX6_pass_6 rfl (lv_at hl 0 rfl) ?_
  refine lv_if_ge (tgt := 12) hx hb dX6_pass_7 (by decide) (fun c2 => ?_) (fun c2 => ?_)
  · skip
    refine lv_aload_n hx hb dX6_pass_12 rfl (lv_at hl 1 rfl) ?_
    have hz := passR_0 c2
    obtain ⟨j0, hj1, hj2, ej⟩ := inB1_nI (n := 99) (by decide) hz.2.1
    subst ej
    refine m_callv (As := []) (rest := []) hx hb hml hown hts hK hI (k_X6_know l dd g q A hA M kn hkn hk) (cwV 0 hts gX6_pass_X6_know rfl rfl rfl (by decide +kernel) ⟨Nat.le_of_ble_eq_true rfl, Nat.le_of_ble_eq_true rfl⟩) rfl hl (Nat.le_of_ble_eq_true rfl) ⟨Nat.zero_le _, Nat.zero_le _⟩ dX6_pass_13 rfl (fun M1 H locs h3 hI => ?_)
    subst h3
    refine lv_aload_n hx hb dX6_pass_16 rfl (lv_at hl 1 rfl) ?_
    refine lv_iload_n hx hb dX6_pass_17 rfl (lv_at hl 2 rfl) ?_
    refine m_calli (As := [.int (nI j0)]) (rest := []) hx hb hml hown hts hK hI (k_X6_passes l dd g q A hA (knM M kn) j0 (by omega) hW) (cwV 1 hts gX6_pass_X6_passes rfl rfl rfl (by decide +kernel) ⟨Nat.le_of_ble_eq_true rfl, Nat.le_of_ble_eq_true rfl⟩) rfl hl (Nat.le_of_ble_eq_true rfl) ⟨Nat.zero_le _, Nat.zero_le _⟩ dX6_pass_18 rfl (fun r M1 H locs h4 hI => ?_)
    obtain ⟨hr9, hm9⟩ := h4
    rw [hm9] at hr9 hI
    subst hr9
    exact m_iret (v := stV (pasF (M 0) j0)) hx hb hr hI (Or.inl ⟨hz.1, by rw [ix_nI (by omega)], by rw [ix_nI (by omega)]; rfl⟩) dX6_pass_21 hlocks
  · skip
    refine lv_iload_n hx hb dX6_pass_10 rfl (lv_at hl 0 rfl) ?_
    exact m_iret (v := passR (M 0) d) hx hb hr hI (Or.inr ⟨fun z => c2 (by rw [z]; decide), rfl, rfl⟩) dX6_pass_11 hlocks

set_option maxHeartbeats 4000000 in
set_option maxRecDepth 100000 in
theorem k_X6_change (l : Launch) (dd : va_G) (g : Nat → ClassId) (q : Nat → Nat) (A : Nat → Prop) (hA : mA A q) (M : MS) (a : Int32) (kn : Nat) (hkn : kn ≤ 6) (hk : M 3 0 = nI kn) (hW : Wk (M 0)) : Met l yX6_change wsX6_change ({ frames := 3, cells := 0, slots := 0, locals := 65 }) (mPre dd g q M [.ref (q 0), .int a]) (mQi dd g q A (fun r M' => opP (chE a) (nI (cn (M 0)) - stV (chgA (M 0) a (cn (M 0)))) (chgA (M 0) a (cn (M 0))) M kn r M')) 0 0 A := by
  refine Met.ofW (cc := cX6_change) (maxL := 2) (ret := (some .int)) (by decide) rfl ?_
  intro p e s m args below meth c s₁ B hml hv
  obtain ⟨rfl, hP0, hK⟩ := hv
  have hx := B.exec
  have hb := B.bytes
  have hr := B.returns
  have hts := atoms_spec (ws := wsX6_change) B.pre
  have hown : s.vm.findClass RX6 = some m.cls := findClass_of_methodNamed B.named
  have hlocks := B.notSynchronized
  have hI : mI dd g q A s.heap s.heap [] M := ⟨hP0, va_S.rf⟩
  have hl := lv_entry ([.ref (q 0), .int a]) (n := 2) (Nat.le_of_ble_eq_true rfl)
  rw [lg_entry_eq]
  generalize (lg_sl ([.ref (q 0), .int a]) ++ List.replicate (2 - (lg_sl ([.ref (q 0), .int a])).length) Slot.unset).toArray = ls at hl ⊢
  have hl : lv_has ls 2 [(0, .ref (q 0)), (1, .int a)] := hl
  have hc16 := hW.2.1
  have hl4 := hW.2.2.2
  refine lv_iload_n hx hb dX6_change_0 rfl (lv_at hl 1 rfl) ?_
  refine lv_iconst (v := 0) hx hb dX6_change_1 (by decide) ?_
  refine lv_iconst (v := 1) hx hb dX6_change_2 (by decide) ?_
  refine m_calls (As := [.int a, .int 0, .int 1]) (rest := []) hx hb hml hown hts hI (k_X6_in l a 0 1) (va_cwS 3 hts gX6_change_X6_in rfl rfl rfl (by decide +kernel) ⟨Nat.le_of_ble_eq_true rfl, Nat.le_of_ble_eq_true rfl⟩) rfl hl (Nat.le_of_ble_eq_true rfl) ⟨Nat.zero_le _, Nat.zero_le _⟩ dX6_change_3 rfl (fun r H locs h2 hI => ?_)
  rcases h2 with ⟨b1, rfl⟩ | ⟨b1, rfl⟩
  · skip
    refine lv_if_ne (tgt := 12) hx hb dX6_change_6 (by decide) (fun _ => ?_) (fun c3 => absurd c3 (by decide))
    refine lv_aload_n hx hb dX6_change_12 rfl (lv_at hl 0 rfl) ?_
    refine m_callv (As := []) (rest := []) hx hb hml hown hts hK hI (k_X6_know l dd g q A hA M kn hkn hk) (cwV 0 hts gX6_change_X6_know rfl rfl rfl (by decide +kernel) ⟨Nat.le_of_ble_eq_true rfl, Nat.le_of_ble_eq_true rfl⟩) rfl hl (Nat.le_of_ble_eq_true rfl) ⟨Nat.zero_le _, Nat.zero_le _⟩ dX6_change_13 rfl (fun M1 H locs h4 hI => ?_)
    subst h4
    refine lv_aload_n hx hb dX6_change_16 rfl (lv_at hl 0 rfl) ?_
    refine lv_iload_n hx hb dX6_change_17 rfl (lv_at hl 1 rfl) ?_
    refine m_calli (As := [.int a]) (rest := []) hx hb hml hown hts hK hI (k_X6_changes l dd g q A hA (knM M kn) a hW) (cwV 1 hts gX6_change_X6_changes rfl rfl rfl (by decide +kernel) ⟨Nat.le_of_ble_eq_true rfl, Nat.le_of_ble_eq_true rfl⟩) rfl hl (Nat.le_of_ble_eq_true rfl) ⟨Nat.zero_le _, Nat.zero_le _⟩ dX6_change_18 rfl (fun r M1 H locs h5 hI => ?_)
    obtain ⟨hr9, hm9⟩ := h5
    rw [hm9] at hr9 hI
    subst hr9
    exact m_iret (v := nI (cn (M 0)) - stV (chgA (M 0) a (cn (M 0)))) hx hb hr hI (Or.inl ⟨by simp only [chE, if_pos b1], rfl, rfl⟩) dX6_change_21 hlocks
  · skip
    refine lv_if_ne (tgt := 12) hx hb dX6_change_6 (by decide) (fun c6 => absurd (by decide) c6) (fun _ => ?_)
    refine lv_bipush (v := (-2)) hx hb dX6_change_9 (by decide) ?_
    exact m_iret (v := (-2)) hx hb hr hI (Or.inr ⟨by simp only [chE, if_neg (Bool.eq_false_iff.mp b1)]; decide, by simp only [chE, if_neg (Bool.eq_false_iff.mp b1)], rfl⟩) dX6_change_11 hlocks

set_option maxHeartbeats 4000000 in
set_option maxRecDepth 100000 in
theorem k_X6_screw (l : Launch) (dd : va_G) (g : Nat → ClassId) (q : Nat → Nat) (A : Nat → Prop) (hA : mA A q) (M : MS) (x t : Int32) (kn : Nat) (hkn : kn ≤ 6) (hk : M 3 0 = nI kn) (hW : Wk (M 0)) : Met l yX6_screw wsX6_screw ({ frames := 2, cells := 0, slots := 0, locals := 43 }) (mPre dd g q M [.ref (q 0), .int x, .int t]) (mQi dd g q A (fun r M' => opP (scE (M 0) x t) (M 0 (12 + 8 * ix x + 3) + t + 20) (upd (M 0) (12 + 8 * ix x + 3) (M 0 (12 + 8 * ix x + 3) + t)) M kn r M')) 0 0 A := by
  refine Met.ofW (cc := cX6_screw) (maxL := 4) (ret := (some .int)) (by decide) rfl ?_
  intro p e s m args below meth c s₁ B hml hv
  obtain ⟨rfl, hP0, hK⟩ := hv
  have hx := B.exec
  have hb := B.bytes
  have hr := B.returns
  have hts := atoms_spec (ws := wsX6_screw) B.pre
  have hown : s.vm.findClass RX6 = some m.cls := findClass_of_methodNamed B.named
  have hlocks := B.notSynchronized
  have hin : ∀ w ∈ wsX60, w ∈ wsX6_screw := by decide +kernel
  have hI : mI dd g q A s.heap s.heap [] M := ⟨hP0, va_S.rf⟩
  have hl := lv_entry ([.ref (q 0), .int x, .int t]) (n := 4) (Nat.le_of_ble_eq_true rfl)
  rw [lg_entry_eq]
  generalize (lg_sl ([.ref (q 0), .int x, .int t]) ++ List.replicate (4 - (lg_sl ([.ref (q 0), .int x, .int t])).length) Slot.unset).toArray = ls at hl ⊢
  have hl : lv_has ls 4 [(0, .ref (q 0)), (1, .int x), (2, .int t)] := hl
  have hc16 := hW.2.1
  have hl4 := hW.2.2.2
  refine lv_aload_n hx hb dX6_screw_0 rfl (lv_at hl 0 rfl) ?_
  refine lv_iload_n hx hb dX6_screw_1 rfl (lv_at hl 1 rfl) ?_
  refine m_calli (As := [.int x]) (rest := []) hx hb hml hown hts hK hI (k_X6_isClock l dd g q A hA M x hW) (cwV 1 hts gX6_screw_X6_isClock rfl rfl rfl (by decide +kernel) ⟨Nat.le_of_ble_eq_true rfl, Nat.le_of_ble_eq_true rfl⟩) rfl hl (Nat.le_of_ble_eq_true rfl) ⟨Nat.zero_le _, Nat.zero_le _⟩ dX6_screw_2 rfl (fun r M1 H locs h2 hI => ?_)
  obtain ⟨h2, hm9⟩ := h2
  rw [hm9] at hI
  rcases h2 with ⟨⟨i1, hi_i1, e_i1⟩, rfl⟩ | ⟨b_i1, rfl⟩
  · skip
    have b_i1 : isCb (M 0) x = true := isCb_t hW ⟨hi_i1, e_i1⟩
    have x_i1 : ix x = i1 := by rw [e_i1]; exact ix_nI (by omega)
    subst e_i1
    refine lv_if_ne (tgt := 10) hx hb dX6_screw_5 (by decide) (fun _ => ?_) (fun c3 => absurd c3 (by decide))
    refine lv_iload_n hx hb dX6_screw_10 rfl (lv_at hl 2 rfl) ?_
    refine lv_bipush (v := (-20)) hx hb dX6_screw_11 (by decide) ?_
    refine lv_bipush (v := 20) hx hb dX6_screw_13 (by decide) ?_
    refine m_calls (As := [.int t, .int ((-20)), .int 20]) (rest := []) hx hb hml hown hts hI (k_X6_in l t (-20) 20) (va_cwS 3 hts gX6_screw_X6_in rfl rfl rfl (by decide +kernel) ⟨Nat.le_of_ble_eq_true rfl, Nat.le_of_ble_eq_true rfl⟩) rfl hl (Nat.le_of_ble_eq_true rfl) ⟨Nat.zero_le _, Nat.zero_le _⟩ dX6_screw_15 rfl (fun r H locs h5 hI => ?_)
    rcases h5 with ⟨b4, rfl⟩ | ⟨b4, rfl⟩
    · skip
      refine lv_if_ne (tgt := 24) hx hb dX6_screw_18 (by decide) (fun _ => ?_) (fun c6 => absurd c6 (by decide))
      refine lv_aload_n hx hb dX6_screw_24 rfl (lv_at hl 0 rfl) ?_
      refine m_get hx hb hts hin hown hK hI 0 (by decide) (hts (.fieldLink RX6 7 "WinderLaddersModel" "s" "[I") (by decide +kernel)) (v := .ref (q 1)) rfl dX6_screw_25 ?_
      refine lv_iload_n hx hb dX6_screw_28 rfl (lv_at hl 1 rfl) ?_
      refine lv_iconst (v := 3) hx hb dX6_screw_29 (by decide) ?_
      refine m_calls (As := [.int (nI i1), .int 3]) (rest := [.ref (q 1)]) hx hb hml hown hts hI (k_X6_at l (i1) (3)) (va_cwS 2 hts gX6_screw_X6_at rfl rfl rfl (by decide +kernel) ⟨Nat.le_of_ble_eq_true rfl, Nat.le_of_ble_eq_true rfl⟩) rfl hl (Nat.le_of_ble_eq_true rfl) ⟨Nat.zero_le _, Nat.zero_le _⟩ dX6_screw_30 rfl (fun r H locs h7 hI => ?_)
      subst h7
      refine m_ald hx hb hK hI 0 (by decide) (12 + 8 * i1 + 3) (by show _ < 140; omega) rfl (v := M 0 (12 + 8 * i1 + 3)) rfl dX6_screw_33 ?_
      refine lv_iload_n hx hb dX6_screw_34 rfl (lv_at hl 2 rfl) ?_
      refine lv_iadd hx hb dX6_screw_35 ?_
      refine lv_istore_n (lv' := [(3, .int ((M 0 (12 + 8 * i1 + 3)) + t)), (0, .ref (q 0)), (1, .int (nI i1)), (2, .int t)]) hx hb dX6_screw_36 rfl hl (by decide) rfl (fun ls hl => ?_)
      refine lv_iload_n hx hb dX6_screw_37 rfl (lv_at hl 0 rfl) ?_
      refine lv_bipush (v := (-20)) hx hb dX6_screw_38 (by decide) ?_
      refine lv_bipush (v := 20) hx hb dX6_screw_40 (by decide) ?_
      refine m_calls (As := [.int ((M 0 (12 + 8 * i1 + 3)) + t), .int ((-20)), .int 20]) (rest := []) hx hb hml hown hts hI (k_X6_in l ((M 0 (12 + 8 * i1 + 3)) + t) (-20) 20) (va_cwS 3 hts gX6_screw_X6_in rfl rfl rfl (by decide +kernel) ⟨Nat.le_of_ble_eq_true rfl, Nat.le_of_ble_eq_true rfl⟩) rfl hl (Nat.le_of_ble_eq_true rfl) ⟨Nat.zero_le _, Nat.zero_le _⟩ dX6_screw_42 rfl (fun r H locs h9 hI => ?_)
      rcases h9 with ⟨b8, rfl⟩ | ⟨b8, rfl⟩
      · skip
        refine lv_if_ne (tgt := 51) hx hb dX6_screw_45 (by decide) (fun _ => ?_) (fun c10 => absurd c10 (by decide))
        refine lv_aload_n hx hb dX6_screw_51 rfl (lv_at hl 1 rfl) ?_
        refine m_callv (As := []) (rest := []) hx hb hml hown hts hK hI (k_X6_know l dd g q A hA M kn hkn hk) (cwV 0 hts gX6_screw_X6_know rfl rfl rfl (by decide +kernel) ⟨Nat.le_of_ble_eq_true rfl, Nat.le_of_ble_eq_true rfl⟩) rfl hl (Nat.le_of_ble_eq_true rfl) ⟨Nat.zero_le _, Nat.zero_le _⟩ dX6_screw_52 rfl (fun M1 H locs h11 hI => ?_)
        subst h11
        refine lv_aload_n hx hb dX6_screw_55 rfl (lv_at hl 1 rfl) ?_
        refine m_get hx hb hts hin hown hK hI 0 (by decide) (hts (.fieldLink RX6 7 "WinderLaddersModel" "s" "[I") (by decide +kernel)) (v := .ref (q 1)) rfl dX6_screw_56 ?_
        refine lv_iload_n hx hb dX6_screw_59 rfl (lv_at hl 2 rfl) ?_
        refine lv_iconst (v := 3) hx hb dX6_screw_60 (by decide) ?_
        refine m_calls (As := [.int (nI i1), .int 3]) (rest := [.ref (q 1)]) hx hb hml hown hts hI (k_X6_at l (i1) (3)) (va_cwS 2 hts gX6_screw_X6_at rfl rfl rfl (by decide +kernel) ⟨Nat.le_of_ble_eq_true rfl, Nat.le_of_ble_eq_true rfl⟩) rfl hl (Nat.le_of_ble_eq_true rfl) ⟨Nat.zero_le _, Nat.zero_le _⟩ dX6_screw_61 rfl (fun r H locs h12 hI => ?_)
        subst h12
        refine lv_iload_n hx hb dX6_screw_64 rfl (lv_at hl 0 rfl) ?_
        refine m_ast hx hb hK hA hI 0 (by decide) (12 + 8 * i1 + 3) (by show _ < 140; omega) rfl dX6_screw_65 (fun H locs hI => ?_)
        refine lv_iload_n hx hb dX6_screw_66 rfl (lv_at hl 0 rfl) ?_
        refine lv_bipush (v := 20) hx hb dX6_screw_67 (by decide) ?_
        refine lv_iadd hx hb dX6_screw_69 ?_
        exact m_iret (v := ((M 0 (12 + 8 * i1 + 3)) + t) + 20) hx hb hr hI (Or.inl ⟨by simp only [scE, x_i1, if_pos b_i1, if_pos b4, if_pos b8], by simp only [x_i1], by simp only [x_i1, mset_0]; rfl⟩) dX6_screw_70 hlocks
      · skip
        refine lv_if_ne (tgt := 51) hx hb dX6_screw_45 (by decide) (fun c13 => absurd (by decide) c13) (fun _ => ?_)
        refine lv_bipush (v := (-5)) hx hb dX6_screw_48 (by decide) ?_
        exact m_iret (v := (-5)) hx hb hr hI (Or.inr ⟨by simp only [scE, x_i1, if_pos b_i1, if_pos b4, if_neg (Bool.eq_false_iff.mp b8)]; decide, by simp only [scE, x_i1, if_pos b_i1, if_pos b4, if_neg (Bool.eq_false_iff.mp b8)], rfl⟩) dX6_screw_50 hlocks
    · skip
      refine lv_if_ne (tgt := 24) hx hb dX6_screw_18 (by decide) (fun c14 => absurd (by decide) c14) (fun _ => ?_)
      refine lv_bipush (v := (-2)) hx hb dX6_screw_21 (by decide) ?_
      exact m_iret (v := (-2)) hx hb hr hI (Or.inr ⟨by simp only [scE, x_i1, if_pos b_i1, if_neg (Bool.eq_false_iff.mp b4)]; decide, by simp only [scE, x_i1, if_pos b_i1, if_neg (Bool.eq_false_iff.mp b4)], rfl⟩) dX6_screw_23 hlocks
  · skip
    have b_i1 := isCb_f hW b_i1
    refine lv_if_ne (tgt := 10) hx hb dX6_screw_5 (by decide) (fun c15 => absurd (by decide) c15) (fun _ => ?_)
    refine lv_iconst (v := (-1)) hx hb dX6_screw_8 (by decide) ?_
    exact m_iret (v := (-1)) hx hb hr hI (Or.inr ⟨by simp only [scE, if_neg (Bool.eq_false_iff.mp b_i1)]; decide, by simp only [scE, if_neg (Bool.eq_false_iff.mp b_i1)], rfl⟩) dX6_screw_9 hlocks

set_option maxHeartbeats 4000000 in
set_option maxRecDepth 100000 in
theorem k_X6_round (l : Launch) (dd : va_G) (g : Nat → ClassId) (q : Nat → Nat) (A : Nat → Prop) (hA : mA A q) (M : MS) (x : Int32) (kn : Nat) (hkn : kn ≤ 6) (hk : M 3 0 = nI kn) (hW : Wk (M 0)) : Met l yX6_round wsX6_round ({ frames := 5, cells := 0, slots := 0, locals := 115 }) (mPre dd g q M [.ref (q 0), .int x]) (mQi dd g q A (fun r M' => opP (loR x (loL (cn (M 0)) x false (M 8) (cn (M 0)))) (miV (M 0) (loN (cn (M 0)) x false (M 8) (cn (M 0))) (loL (cn (M 0)) x false (M 8) (cn (M 0)))) (goFF (M 0) (loN (cn (M 0)) x false (M 8) (cn (M 0))) (loL (cn (M 0)) x false (M 8) (cn (M 0)))) (loM M (cn (M 0)) x false (cn (M 0))) kn r M')) 0 0 A := by
  refine Met.ofW (cc := cX6_round) (maxL := 3) (ret := (some .int)) (by decide) rfl ?_
  intro p e s m args below meth c s₁ B hml hv
  obtain ⟨rfl, hP0, hK⟩ := hv
  have hx := B.exec
  have hb := B.bytes
  have hr := B.returns
  have hts := atoms_spec (ws := wsX6_round) B.pre
  have hown : s.vm.findClass RX6 = some m.cls := findClass_of_methodNamed B.named
  have hlocks := B.notSynchronized
  have hI : mI dd g q A s.heap s.heap [] M := ⟨hP0, va_S.rf⟩
  have hl := lv_entry ([.ref (q 0), .int x]) (n := 3) (Nat.le_of_ble_eq_true rfl)
  rw [lg_entry_eq]
  generalize (lg_sl ([.ref (q 0), .int x]) ++ List.replicate (3 - (lg_sl ([.ref (q 0), .int x])).length) Slot.unset).toArray = ls at hl ⊢
  have hl : lv_has ls 3 [(0, .ref (q 0)), (1, .int x)] := hl
  have hc16 := hW.2.1
  have hl4 := hW.2.2.2
  refine lv_aload_n hx hb dX6_round_0 rfl (lv_at hl 0 rfl) ?_
  refine lv_iload_n hx hb dX6_round_1 rfl (lv_at hl 1 rfl) ?_
  refine lv_iconst (v := 0) hx hb dX6_round_2 (by decide) ?_
  refine m_calli (As := [.int x, .int 0]) (rest := []) hx hb hml hown hts hK hI (k_X6_layOut0 l dd g q A hA M x hW) (cwV 2 hts gX6_round_X6_layOut rfl rfl rfl (by decide +kernel) ⟨Nat.le_of_ble_eq_true rfl, Nat.le_of_ble_eq_true rfl⟩) rfl hl (Nat.le_of_ble_eq_true rfl) ⟨Nat.zero_le _, Nat.zero_le _⟩ dX6_round_3 rfl (fun r M1 H locs h1 hI => ?_)
  obtain ⟨hr9, hm9⟩ := h1
  rw [hm9] at hI
  subst hr9
  refine lv_istore_n (lv' := [(2, .int (loR x (loL (cn (M 0)) x false (M 8) (cn (M 0))))), (0, .ref (q 0)), (1, .int x)]) hx hb dX6_round_6 rfl hl (by decide) rfl (fun ls hl => ?_)
  refine lv_iload_n hx hb dX6_round_7 rfl (lv_at hl 0 rfl) ?_
  refine lv_if_ge (tgt := 13) hx hb dX6_round_8 (by decide) (fun c2 => ?_) (fun c2 => ?_)
  · skip
    have hz := loR_0 c2
    refine lv_aload_n hx hb dX6_round_13 rfl (lv_at hl 1 rfl) ?_
    refine m_callv (As := []) (rest := []) hx hb hml hown hts hK hI (k_X6_know l dd g q A hA (loM M (cn (M 0)) x false (cn (M 0))) kn hkn hk) (cwV 0 hts gX6_round_X6_know rfl rfl rfl (by decide +kernel) ⟨Nat.le_of_ble_eq_true rfl, Nat.le_of_ble_eq_true rfl⟩) rfl hl (Nat.le_of_ble_eq_true rfl) ⟨Nat.zero_le _, Nat.zero_le _⟩ dX6_round_14 rfl (fun M1 H locs h3 hI => ?_)
    subst h3
    refine lv_aload_n hx hb dX6_round_17 rfl (lv_at hl 1 rfl) ?_
    refine m_calli (As := []) (rest := []) hx hb hml hown hts hK hI (k_X6_goes l dd g q A hA (knM (loM M (cn (M 0)) x false (cn (M 0))) kn) (loL (cn (M 0)) x false (M 8) (cn (M 0))) (by have := loL_le (cn (M 0)) x false (M 8) (cn (M 0)); omega) (loM_9 _ _ _ _ _) (fun k hk9 => loN_ok (cn (M 0)) x false (M 8) (cn (M 0)) (Nat.le_refl _) k hk9) hW) (cwV 0 hts gX6_round_X6_goes rfl rfl rfl (by decide +kernel) ⟨Nat.le_of_ble_eq_true rfl, Nat.le_of_ble_eq_true rfl⟩) rfl hl (Nat.le_of_ble_eq_true rfl) ⟨Nat.zero_le _, Nat.zero_le _⟩ dX6_round_18 rfl (fun r M1 H locs h4 hI => ?_)
    obtain ⟨hr9, hm9⟩ := h4
    rw [hm9] at hI
    subst hr9
    exact m_iret (v := miV (M 0) (loN (cn (M 0)) x false (M 8) (cn (M 0))) (loL (cn (M 0)) x false (M 8) (cn (M 0)))) hx hb hr hI (Or.inl ⟨hz, rfl, rfl⟩) dX6_round_21 hlocks
  · skip
    refine lv_iload_n hx hb dX6_round_11 rfl (lv_at hl 0 rfl) ?_
    exact m_iret (v := loR x (loL (cn (M 0)) x false (M 8) (cn (M 0)))) hx hb hr hI (Or.inr ⟨fun z => c2 (by rw [z]; decide), rfl, rfl⟩) dX6_round_12 hlocks

set_option maxHeartbeats 4000000 in
set_option maxRecDepth 100000 in
theorem k_X6_takes (l : Launch) (dd : va_G) (g : Nat → ClassId) (q : Nat → Nat) (A : Nat → Prop) (hA : mA A q) (M : MS) (x : Int32) (hW : Wk (M 0)) : Met l yX6_takes wsX6_takes ({ frames := 4, cells := 0, slots := 0, locals := 93 }) (mPre dd g q M [.ref (q 0), .int x]) (mQi dd g q A (fun r M' => r = (if loR x (loL (cn (M 0)) x false (M 8) (cn (M 0))) = 0 then miV (M 0) (loN (cn (M 0)) x false (M 8) (cn (M 0))) (loL (cn (M 0)) x false (M 8) (cn (M 0))) else loR x (loL (cn (M 0)) x false (M 8) (cn (M 0)))) ∧ M' = loM M (cn (M 0)) x false (cn (M 0)))) 0 0 A := by
  refine Met.ofW (cc := cX6_takes) (maxL := 3) (ret := (some .int)) (by decide) rfl ?_
  intro p e s m args below meth c s₁ B hml hv
  obtain ⟨rfl, hP0, hK⟩ := hv
  have hx := B.exec
  have hb := B.bytes
  have hr := B.returns
  have hts := atoms_spec (ws := wsX6_takes) B.pre
  have hown : s.vm.findClass RX6 = some m.cls := findClass_of_methodNamed B.named
  have hlocks := B.notSynchronized
  have hI : mI dd g q A s.heap s.heap [] M := ⟨hP0, va_S.rf⟩
  have hl := lv_entry ([.ref (q 0), .int x]) (n := 3) (Nat.le_of_ble_eq_true rfl)
  rw [lg_entry_eq]
  generalize (lg_sl ([.ref (q 0), .int x]) ++ List.replicate (3 - (lg_sl ([.ref (q 0), .int x])).length) Slot.unset).toArray = ls at hl ⊢
  have hl : lv_has ls 3 [(0, .ref (q 0)), (1, .int x)] := hl
  have hc16 := hW.2.1
  have hl4 := hW.2.2.2
  refine lv_aload_n hx hb dX6_takes_0 rfl (lv_at hl 0 rfl) ?_
  refine lv_iload_n hx hb dX6_takes_1 rfl (lv_at hl 1 rfl) ?_
  refine lv_iconst (v := 0) hx hb dX6_takes_2 (by decide) ?_
  refine m_calli (As := [.int x, .int 0]) (rest := []) hx hb hml hown hts hK hI (k_X6_layOut0 l dd g q A hA M x hW) (cwV 2 hts gX6_takes_X6_layOut rfl rfl rfl (by decide +kernel) ⟨Nat.le_of_ble_eq_true rfl, Nat.le_of_ble_eq_true rfl⟩) rfl hl (Nat.le_of_ble_eq_true rfl) ⟨Nat.zero_le _, Nat.zero_le _⟩ dX6_takes_3 rfl (fun r M1 H locs h1 hI => ?_)
  obtain ⟨hr9, hm9⟩ := h1
  rw [hm9] at hI
  subst hr9
  refine lv_istore_n (lv' := [(2, .int (loR x (loL (cn (M 0)) x false (M 8) (cn (M 0))))), (0, .ref (q 0)), (1, .int x)]) hx hb dX6_takes_6 rfl hl (by decide) rfl (fun ls hl => ?_)
  refine lv_iload_n hx hb dX6_takes_7 rfl (lv_at hl 0 rfl) ?_
  refine lv_if_ge (tgt := 15) hx hb dX6_takes_8 (by decide) (fun c2 => ?_) (fun c2 => ?_)
  · skip
    refine lv_aload_n hx hb dX6_takes_15 rfl (lv_at hl 1 rfl) ?_
    refine m_calli (As := []) (rest := []) hx hb hml hown hts hK hI (k_X6_minutes l dd g q A hA (loM M (cn (M 0)) x false (cn (M 0))) (loL (cn (M 0)) x false (M 8) (cn (M 0))) (by have := loL_le (cn (M 0)) x false (M 8) (cn (M 0)); omega) (loM_9 _ _ _ _ _) (fun k hk9 => by rw [loM_8]; exact loN_ok _ _ _ _ _ (Nat.le_refl _) k hk9) hW) (cwV 0 hts gX6_takes_X6_minutes rfl rfl rfl (by decide +kernel) ⟨Nat.le_of_ble_eq_true rfl, Nat.le_of_ble_eq_true rfl⟩) rfl hl (Nat.le_of_ble_eq_true rfl) ⟨Nat.zero_le _, Nat.zero_le _⟩ dX6_takes_16 rfl (fun r M1 H locs h3 hI => ?_)
    obtain ⟨hr9, hm9⟩ := h3
    rw [hm9] at hI
    subst hr9
    exact m_iret (v := miV (M 0) ((loM M (cn (M 0)) x false (cn (M 0))) 8) (loL (cn (M 0)) x false (M 8) (cn (M 0)))) hx hb hr hI (⟨by rw [loM_8]; exact (if_pos (loR_0 c2)).symm, rfl⟩) dX6_takes_19 hlocks
  · skip
    refine lv_iload_n hx hb dX6_takes_11 rfl (lv_at hl 0 rfl) ?_
    refine lv_goto (tgt := 19) hx hb dX6_takes_12 (by decide) ?_
    exact m_iret (v := loR x (loL (cn (M 0)) x false (M 8) (cn (M 0)))) hx hb hr hI (⟨(if_neg (fun z => c2 (by rw [z]; decide))).symm, rfl⟩) dX6_takes_19 hlocks
