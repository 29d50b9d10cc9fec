set_option maxHeartbeats 4000000 in
set_option maxRecDepth 100000 in
theorem k_L_isLastSo (l : Launch) (dd : va_G) (g : Nat → ClassId) (ad pi : Nat → Nat) (A : Nat → Prop) (hA : cA A ad) (C : MS) (d Bn : Nat) (hIN : IN C pi d Bn) (hB1 : 43200 ≤ Bn) (hB2 : Bn < 2 ^ 25) (x : Nat) (hc : x < cn (C 0))  : Met l yL_isLastSo wsL_isLastSo ({ frames := 5, cells := 0, slots := 0, locals := 111 }) (cPre dd g ad pi A C [.ref (ad 0), .int (nI x)]) (cQi dd g ad A (fun r C1 pi1 => r = 1 ∧ ∃ d1, IN C1 pi1 d1 Bn)) 0 0 A := by
  refine Met.ofW (cc := cL_isLastSo) (maxL := 7) (ret := (some .boolean)) (by decide) rfl ?_
  intro p e s m args below meth c s₁ B hml hv
  obtain ⟨rfl, hP0, hK, hX⟩ := hv
  have hx := B.exec
  have hb := B.bytes
  have hr := B.returns
  have hts := atoms_spec (ws := wsL_isLastSo) B.pre
  have hown : s.vm.findClass RL = some m.cls := findClass_of_methodNamed B.named
  have hlocks := B.notSynchronized
  have hI : cI dd g ad pi A s.heap s.heap [] C := ⟨hP0, va_S.rf⟩
  have hl := lv_entry ([.ref (ad 0), .int (nI x)]) (n := 7) (Nat.le_of_ble_eq_true rfl)
  rw [lg_entry_eq]
  generalize (lg_sl ([.ref (ad 0), .int (nI x)]) ++ List.replicate (7 - (lg_sl ([.ref (ad 0), .int (nI x)])).length) Slot.unset).toArray = ls at hl ⊢
  have hl : lv_has ls 7 [(0, .ref (ad 0)), (1, .int (nI x))] := hl
  have hn16 := hIN.n16
  have hl4 := hIN.l4
  have hV := hIN.V
  have hW := hIN.W
  rcases hm : duS (C 0) x with _ | m
  · skip
    refine lv_aload_n hx hb dL_isLastSo_0 rfl (lv_at hl 0 rfl) ?_
    refine lv_iload_n hx hb dL_isLastSo_1 rfl (lv_at hl 1 rfl) ?_
    refine c_calli (As := [.int (nI x)]) (rest := []) hx hb hml hown hts hK hX hI 0 (by omega) cE_0 rfl (k_X5_lasts l dd g ad pi A hA C hIN.W hIN.g hIN.Tt (nI x)) (cwV 1 hts gL_isLastSo_X5_lasts rfl rfl rfl (by decide +kernel) ⟨Nat.le_of_ble_eq_true rfl, Nat.le_of_ble_eq_true rfl⟩) rfl hl (Nat.le_of_ble_eq_true rfl) ⟨Nat.zero_le _, Nat.zero_le _⟩ dL_isLastSo_2 rfl (fun r C1 pi1 H locs h1 hI => ?_)
    obtain ⟨hr9, hc9, hp9⟩ := h1
    rw [hc9, hp9] at hI
    rw [q_las hW hc] at hr9
    rw [hm, nI_0] at hr9
    subst hr9
    refine lv_istore_n (lv' := [(2, .int 0), (0, .ref (ad 0)), (1, .int (nI x))]) hx hb dL_isLastSo_5 rfl hl (by decide) rfl (fun ls hl => ?_)
    refine lv_iload_n hx hb dL_isLastSo_6 rfl (lv_at hl 0 rfl) ?_
    refine lv_if_eq (tgt := 21) hx hb dL_isLastSo_7 (by decide) (fun _ => ?_) (fun c2 => absurd (by decide) c2)
    refine lv_iconst (v := 1) hx hb dL_isLastSo_21 (by decide) ?_
    exact c_zret (v := 1) hx hb hr (by first | rfl | decide) hI (⟨rfl, _, hIN⟩) dL_isLastSo_22 hlocks
  · skip
    have hm31 := duS_31 hIN.Tt x
    rw [hm] at hm31
    obtain ⟨D, hD, h4, -⟩ := id hV
    refine lv_aload_n hx hb dL_isLastSo_0 rfl (lv_at hl 0 rfl) ?_
    refine lv_iload_n hx hb dL_isLastSo_1 rfl (lv_at hl 1 rfl) ?_
    refine c_calli (As := [.int (nI x)]) (rest := []) hx hb hml hown hts hK hX hI 0 (by omega) cE_0 rfl (k_X5_lasts l dd g ad pi A hA C hIN.W hIN.g hIN.Tt (nI x)) (cwV 1 hts gL_isLastSo_X5_lasts rfl rfl rfl (by decide +kernel) ⟨Nat.le_of_ble_eq_true rfl, Nat.le_of_ble_eq_true rfl⟩) rfl hl (Nat.le_of_ble_eq_true rfl) ⟨Nat.zero_le _, Nat.zero_le _⟩ dL_isLastSo_2 rfl (fun r C1 pi1 H locs h3 hI => ?_)
    obtain ⟨hr9, hc9, hp9⟩ := h3
    rw [hc9, hp9] at hI
    rw [q_las hW hc] at hr9
    rw [hm] at hr9
    subst hr9
    refine lv_istore_n (lv' := [(2, .int (nI (m + 1))), (0, .ref (ad 0)), (1, .int (nI x))]) hx hb dL_isLastSo_5 rfl hl (by decide) rfl (fun ls hl => ?_)
    refine lv_iload_n hx hb dL_isLastSo_6 rfl (lv_at hl 0 rfl) ?_
    refine lv_if_eq (tgt := 21) hx hb dL_isLastSo_7 (by decide) (fun c4 => ?_) (fun c4 => ?_)
    · skip
      have nc4 : m + 1 = 0 := (nI_eq (a := m + 1) (b := 0) (by omega) (by omega)).mp c4
      exact absurd nc4 (by omega)
    · skip
      have nc4 : ¬ (m + 1 = 0) := fun h => c4 ((nI_eq (a := m + 1) (b := 0) (by omega) (by omega)).mpr h)
      refine lv_aload_n hx hb dL_isLastSo_10 rfl (lv_at hl 1 rfl) ?_
      refine lv_iconst (v := 0) hx hb dL_isLastSo_11 (by decide) ?_
      refine c_calli (As := [.int 0]) (rest := []) hx hb hml hown hts hK hX hI 0 (by omega) cE_0 rfl (k_X5_count l dd g ad pi A hA C hIN.W hIN.g hIN.Ld 0) (cwV 1 hts gL_isLastSo_X5_count rfl rfl rfl (by decide +kernel) ⟨Nat.le_of_ble_eq_true rfl, Nat.le_of_ble_eq_true rfl⟩) rfl hl (Nat.le_of_ble_eq_true rfl) ⟨Nat.zero_le _, Nat.zero_le _⟩ dL_isLastSo_12 rfl (fun r C1 pi1 H locs h5 hI => ?_)
      obtain ⟨hr9, hc9, hp9⟩ := h5
      rw [hc9, hp9] at hI
      rw [q_c0] at hr9
      rw [h4] at hr9
      subst hr9
      refine lv_sipush (v := 9000) hx hb dL_isLastSo_15 (by decide) ?_
      refine lv_icmp_le (tgt := 23) hx hb dL_isLastSo_18 (by decide) (fun c6 => ?_) (fun c6 => ?_)
      · skip
        have nc6 : D ≤ 9000 := (nI_leI (a := D) (b := 9000) (by omega) (by omega)).mp c6
        refine lv_iload_n hx hb dL_isLastSo_23 rfl (lv_at hl 0 rfl) ?_
        refine lv_iconst (v := 1) hx hb dL_isLastSo_24 (by decide) ?_
        refine lv_icmp_le (tgt := 38) hx hb dL_isLastSo_25 (by decide) (fun c7 => ?_) (fun c7 => ?_)
        · skip
          have nc7 : m + 1 ≤ 1 := (nI_leI (a := m + 1) (b := 1) (by omega) (by omega)).mp c7
          have LS : LSt (C 0) x m D (C 0) := by rw [show m = 0 by omega]; exact LSt_0 h4
          have hoA := LSt_no hV hc hm LS
          refine lv_iconst (v := 0) hx hb dL_isLastSo_38 (by decide) ?_
          refine lv_istore_n (lv' := [(3, .int 0), (2, .int (nI (m + 1))), (0, .ref (ad 0)), (1, .int (nI x))]) hx hb dL_isLastSo_39 rfl hl (by decide) rfl (fun ls hl => ?_)
          refine lv_aload_n hx hb dL_isLastSo_40 rfl (lv_at hl 2 rfl) ?_
          refine lv_iload_n hx hb dL_isLastSo_41 rfl (lv_at hl 3 rfl) ?_
          refine lv_bipush (v := 7) hx hb dL_isLastSo_42 (by decide) ?_
          refine c_calli (As := [.int (nI x), .int 7]) (rest := []) hx hb hml hown hts hK hX hI 0 (by omega) cE_0 rfl (k_X5_of l dd g ad pi A hA C hIN.W hIN.g hIN.Ld (nI x) 7) (cwV 2 hts gL_isLastSo_X5_of rfl rfl rfl (by decide +kernel) ⟨Nat.le_of_ble_eq_true rfl, Nat.le_of_ble_eq_true rfl⟩) rfl hl (Nat.le_of_ble_eq_true rfl) ⟨Nat.zero_le _, Nat.zero_le _⟩ dL_isLastSo_44 rfl (fun r C1 pi1 H locs h8 hI => ?_)
          obtain ⟨hr9, hc9, hp9⟩ := h8
          rw [hc9, hp9] at hI
          rw [q_o7f hW hc hoA] at hr9
          subst hr9
          refine lv_iconst (v := 1) hx hb dL_isLastSo_47 (by decide) ?_
          refine lv_icmp_ne (tgt := 55) hx hb dL_isLastSo_48 (by decide) (fun c9 => absurd (by decide) c9) (fun _ => ?_)
          refine lv_iconst (v := 1) hx hb dL_isLastSo_51 (by decide) ?_
          refine lv_goto (tgt := 56) hx hb dL_isLastSo_52 (by decide) ?_
          refine lv_istore (lv' := [(4, .int 1), (3, .int 0), (2, .int (nI (m + 1))), (0, .ref (ad 0)), (1, .int (nI x))]) hx hb dL_isLastSo_56 hl (by decide) rfl (fun ls hl => ?_)
          refine lv_aload_n hx hb dL_isLastSo_58 rfl (lv_at hl 3 rfl) ?_
          refine lv_iconst (v := 1) hx hb dL_isLastSo_59 (by decide) ?_
          refine c_calli (As := [.int 1]) (rest := []) hx hb hml hown hts hK hX hI 0 (by omega) cE_0 rfl (k_X5_pass l dd g ad pi A hA C d hIN.1 hIN.2.1 hIN.2.2.1 hIN.W hIN.g 1) (cwV 1 hts gL_isLastSo_X5_pass rfl rfl rfl (by decide +kernel) ⟨Nat.le_of_ble_eq_true rfl, Nat.le_of_ble_eq_true rfl⟩) rfl hl (Nat.le_of_ble_eq_true rfl) ⟨Nat.zero_le _, Nat.zero_le _⟩ dL_isLastSo_60 rfl (fun r17 N10 P11 H locs h18 hI => ?_)
          obtain ⟨hr9, ho9⟩ := h18
          obtain ⟨p9, q9, s9⟩ := LSt_yes hV hIN.V hc hm LS (by omega)
          obtain ⟨d14, i12, e13, t16⟩ := IN.op hIN ho9 (ck_pass (i := 1) hIN.2.2.2.1 hIN.g (by omega) (by omega) (by omega)) (by omega)
          have z15 := t16 p9
          have g5 : 0 ≤ r17 := by rw [hr9]; exact p9
          have hcB : x < cn (N10 0) := by rw [e13, s9]; exact hc
          have hoB : offB (N10 0) x (N10 0 0) = true := by rw [e13]; exact q9
          have fd14 := i12.1
          refine lv_istore (lv' := [(5, .int r17), (4, .int 1), (3, .int 0), (2, .int (nI (m + 1))), (0, .ref (ad 0)), (1, .int (nI x))]) hx hb dL_isLastSo_63 hl (by decide) rfl (fun ls hl => ?_)
          refine lv_iload hx hb dL_isLastSo_65 (lv_at hl 1 rfl) ?_
          refine lv_if_eq (tgt := 84) hx hb dL_isLastSo_67 (by decide) (fun c19 => absurd c19 (by decide)) (fun _ => ?_)
          refine lv_aload_n hx hb dL_isLastSo_70 rfl (lv_at hl 4 rfl) ?_
          refine lv_iload_n hx hb dL_isLastSo_71 rfl (lv_at hl 5 rfl) ?_
          refine lv_bipush (v := 7) hx hb dL_isLastSo_72 (by decide) ?_
          refine c_calli (As := [.int (nI x), .int 7]) (rest := []) hx hb hml hown hts hK hX hI 0 (by omega) cE_0 rfl (k_X5_of l dd g ad P11 A hA N10 i12.W i12.g i12.Ld (nI x) 7) (cwV 2 hts gL_isLastSo_X5_of rfl rfl rfl (by decide +kernel) ⟨Nat.le_of_ble_eq_true rfl, Nat.le_of_ble_eq_true rfl⟩) rfl hl (Nat.le_of_ble_eq_true rfl) ⟨Nat.zero_le _, Nat.zero_le _⟩ dL_isLastSo_74 rfl (fun r C1 pi1 H locs h20 hI => ?_)
          obtain ⟨hr9, hc9, hp9⟩ := h20
          rw [hc9, hp9] at hI
          rw [q_o7t i12.W hcB hoB] at hr9
          subst hr9
          refine lv_if_ne (tgt := 84) hx hb dL_isLastSo_77 (by decide) (fun c21 => absurd (by decide) c21) (fun _ => ?_)
          refine lv_iconst (v := 1) hx hb dL_isLastSo_80 (by decide) ?_
          refine lv_goto (tgt := 85) hx hb dL_isLastSo_81 (by decide) ?_
          refine lv_istore (lv' := [(4, .int 1), (5, .int r17), (3, .int 0), (2, .int (nI (m + 1))), (0, .ref (ad 0)), (1, .int (nI x))]) hx hb dL_isLastSo_85 hl (by decide) rfl (fun ls hl => ?_)
          refine lv_aload_n hx hb dL_isLastSo_87 rfl (lv_at hl 4 rfl) ?_
          refine c_calli (As := []) (rest := []) hx hb hml hown hts hK hX hI 0 (by omega) cE_0 rfl (k_X5_undo l dd g ad P11 A hA N10 d14 i12.1 i12.2.1 i12.2.2.1 i12.hist) (cwV 0 hts gL_isLastSo_X5_undo rfl rfl rfl (by decide +kernel) ⟨Nat.le_of_ble_eq_true rfl, Nat.le_of_ble_eq_true rfl⟩) rfl hl (Nat.le_of_ble_eq_true rfl) ⟨Nat.zero_le _, Nat.zero_le _⟩ dL_isLastSo_88 rfl (fun r N22 pi1 H locs h26 hI => ?_)
          obtain ⟨hr9, hc9, hp9⟩ := un_ok z15.1 h26
          rw [hp9] at hI
          obtain ⟨i23, o24, s25⟩ := IN.un i12 z15.1 z15.2.1 hIN.2.2.2.1 hc9
          subst hr9
          clear hc9
          refine lv_istore (lv' := [(6, .int (nI (d14 - 1))), (4, .int 1), (5, .int r17), (3, .int 0), (2, .int (nI (m + 1))), (0, .ref (ad 0)), (1, .int (nI x))]) hx hb dL_isLastSo_91 hl (by decide) rfl (fun ls hl => ?_)
          refine lv_iload_n hx hb dL_isLastSo_93 rfl (lv_at hl 4 rfl) ?_
          refine lv_iconst (v := 1) hx hb dL_isLastSo_94 (by decide) ?_
          refine lv_icmp_le (tgt := 105) hx hb dL_isLastSo_95 (by decide) (fun c27 => ?_) (fun c27 => ?_)
          · skip
            have nc27 : m + 1 ≤ 1 := (nI_leI (a := m + 1) (b := 1) (by omega) (by omega)).mp c27
            refine lv_iload hx hb dL_isLastSo_105 (lv_at hl 0 rfl) ?_
            refine lv_istore (lv' := [(6, .int (nI (d14 - 1))), (4, .int 1), (5, .int r17), (3, .int 0), (2, .int (nI (m + 1))), (0, .ref (ad 0)), (1, .int (nI x))]) hx hb dL_isLastSo_107 hl (by decide) rfl (fun ls hl => ?_)
            refine lv_iload hx hb dL_isLastSo_109 (lv_at hl 1 rfl) ?_
            refine lv_if_eq (tgt := 132) hx hb dL_isLastSo_111 (by decide) (fun c28 => absurd c28 (by decide)) (fun _ => ?_)
            refine lv_iload hx hb dL_isLastSo_114 (lv_at hl 0 rfl) ?_
            refine lv_if_lt (tgt := 132) hx hb dL_isLastSo_116 (by decide) (fun c29 => ?_) (fun c29 => ?_)
            · skip
              have nc29 : d14 - 1 < 0 := (nI_ltI (a := d14 - 1) (b := 0) (by omega) (by omega)).mp c29
              exact absurd nc29 (by omega)
            · skip
              have nc29 : ¬ (d14 - 1 < 0) := fun h => c29 ((nI_ltI (a := d14 - 1) (b := 0) (by omega) (by omega)).mpr h)
              refine lv_iload_n hx hb dL_isLastSo_119 rfl (lv_at hl 3 rfl) ?_
              refine lv_if_lt (tgt := 132) hx hb dL_isLastSo_120 (by decide) (fun c30 => absurd c30 (by decide)) (fun _ => ?_)
              refine lv_iload hx hb dL_isLastSo_123 (lv_at hl 2 rfl) ?_
              refine lv_if_lt (tgt := 132) hx hb dL_isLastSo_125 (by decide) (fun c31 => ?_) (fun c31 => ?_)
              · skip
                exact absurd c31 (Int32.not_lt.mpr g5)
              · skip
                refine lv_iconst (v := 1) hx hb dL_isLastSo_128 (by decide) ?_
                refine lv_goto (tgt := 133) hx hb dL_isLastSo_129 (by decide) ?_
                exact c_zret (v := 1) hx hb hr (by first | rfl | decide) hI (⟨rfl, _, i23⟩) dL_isLastSo_133 hlocks
          · skip
            have nc27 : ¬ (m + 1 ≤ 1) := fun h => c27 ((nI_leI (a := m + 1) (b := 1) (by omega) (by omega)).mpr h)
            exact absurd nc27 (by omega)
        · skip
          have nc7 : ¬ (m + 1 ≤ 1) := fun h => c7 ((nI_leI (a := m + 1) (b := 1) (by omega) (by omega)).mpr h)
          refine lv_aload_n hx hb dL_isLastSo_28 rfl (lv_at hl 1 rfl) ?_
          refine lv_iload_n hx hb dL_isLastSo_29 rfl (lv_at hl 0 rfl) ?_
          refine lv_iconst (v := 1) hx hb dL_isLastSo_30 (by decide) ?_
          refine lv_isub hx hb dL_isLastSo_31 ?_
          refine lv_re (y := nI m) (nI_pred m) ?_
          refine c_calli (As := [.int (nI m)]) (rest := []) hx hb hml hown hts hK hX hI 0 (by omega) cE_0 rfl (k_X5_pass l dd g ad pi A hA C d hIN.1 hIN.2.1 hIN.2.2.1 hIN.W hIN.g (nI m)) (cwV 1 hts gL_isLastSo_X5_pass rfl rfl rfl (by decide +kernel) ⟨Nat.le_of_ble_eq_true rfl, Nat.le_of_ble_eq_true rfl⟩) rfl hl (Nat.le_of_ble_eq_true rfl) ⟨Nat.zero_le _, Nat.zero_le _⟩ dL_isLastSo_32 rfl (fun r39 N32 P33 H locs h40 hI => ?_)
          obtain ⟨hr9, ho9⟩ := h40
          obtain ⟨p9, q9⟩ := ps_at (i := m) (D := D) hV hc (by omega) (by omega) h4 (by omega)
          obtain ⟨d36, i34, e35, t38⟩ := IN.op hIN ho9 (ck_pass hIN.2.2.2.1 hIN.g hB1 (by omega) (by omega)) (by omega)
          have z37 := t38 p9
          have g3 : 0 ≤ r39 := by rw [hr9]; exact p9
          have LS : LSt (C 0) x m D (N32 0) := by rw [e35]; exact q9
          have hcA : x < cn (N32 0) := by rw [LS.2.2.2.1]; exact hc
          have hoA := LSt_no hV hc hm LS
          have fd36 := i34.1
          refine lv_goto (tgt := 39) hx hb dL_isLastSo_35 (by decide) ?_
          refine lv_istore_n (lv' := [(3, .int r39), (2, .int (nI (m + 1))), (0, .ref (ad 0)), (1, .int (nI x))]) hx hb dL_isLastSo_39 rfl hl (by decide) rfl (fun ls hl => ?_)
          refine lv_aload_n hx hb dL_isLastSo_40 rfl (lv_at hl 2 rfl) ?_
          refine lv_iload_n hx hb dL_isLastSo_41 rfl (lv_at hl 3 rfl) ?_
          refine lv_bipush (v := 7) hx hb dL_isLastSo_42 (by decide) ?_
          refine c_calli (As := [.int (nI x), .int 7]) (rest := []) hx hb hml hown hts hK hX hI 0 (by omega) cE_0 rfl (k_X5_of l dd g ad P33 A hA N32 i34.W i34.g i34.Ld (nI x) 7) (cwV 2 hts gL_isLastSo_X5_of rfl rfl rfl (by decide +kernel) ⟨Nat.le_of_ble_eq_true rfl, Nat.le_of_ble_eq_true rfl⟩) rfl hl (Nat.le_of_ble_eq_true rfl) ⟨Nat.zero_le _, Nat.zero_le _⟩ dL_isLastSo_44 rfl (fun r C1 pi1 H locs h41 hI => ?_)
          obtain ⟨hr9, hc9, hp9⟩ := h41
          rw [hc9, hp9] at hI
          rw [q_o7f i34.W hcA hoA] at hr9
          subst hr9
          refine lv_iconst (v := 1) hx hb dL_isLastSo_47 (by decide) ?_
          refine lv_icmp_ne (tgt := 55) hx hb dL_isLastSo_48 (by decide) (fun c42 => absurd (by decide) c42) (fun _ => ?_)
          refine lv_iconst (v := 1) hx hb dL_isLastSo_51 (by decide) ?_
          refine lv_goto (tgt := 56) hx hb dL_isLastSo_52 (by decide) ?_
          refine lv_istore (lv' := [(4, .int 1), (3, .int r39), (2, .int (nI (m + 1))), (0, .ref (ad 0)), (1, .int (nI x))]) hx hb dL_isLastSo_56 hl (by decide) rfl (fun ls hl => ?_)
          refine lv_aload_n hx hb dL_isLastSo_58 rfl (lv_at hl 3 rfl) ?_
          refine lv_iconst (v := 1) hx hb dL_isLastSo_59 (by decide) ?_
          refine c_calli (As := [.int 1]) (rest := []) hx hb hml hown hts hK hX hI 0 (by omega) cE_0 rfl (k_X5_pass l dd g ad P33 A hA N32 d36 i34.1 i34.2.1 i34.2.2.1 i34.W i34.g 1) (cwV 1 hts gL_isLastSo_X5_pass rfl rfl rfl (by decide +kernel) ⟨Nat.le_of_ble_eq_true rfl, Nat.le_of_ble_eq_true rfl⟩) rfl hl (Nat.le_of_ble_eq_true rfl) ⟨Nat.zero_le _, Nat.zero_le _⟩ dL_isLastSo_60 rfl (fun r50 N43 P44 H locs h51 hI => ?_)
          obtain ⟨hr9, ho9⟩ := h51
          obtain ⟨p9, q9, s9⟩ := LSt_yes hV i34.V hc hm LS (by omega)
          obtain ⟨d47, i45, e46, t49⟩ := IN.op i34 ho9 (ck_pass (i := 1) i34.2.2.2.1 i34.g (by omega) (by omega) (by omega)) (by omega)
          have z48 := t49 p9
          have g5 : 0 ≤ r50 := by rw [hr9]; exact p9
          have hcB : x < cn (N43 0) := by rw [e46, s9]; exact hc
          have hoB : offB (N43 0) x (N43 0 0) = true := by rw [e46]; exact q9
          have fd47 := i45.1
          refine lv_istore (lv' := [(5, .int r50), (4, .int 1), (3, .int r39), (2, .int (nI (m + 1))), (0, .ref (ad 0)), (1, .int (nI x))]) hx hb dL_isLastSo_63 hl (by decide) rfl (fun ls hl => ?_)
          refine lv_iload hx hb dL_isLastSo_65 (lv_at hl 1 rfl) ?_
          refine lv_if_eq (tgt := 84) hx hb dL_isLastSo_67 (by decide) (fun c52 => absurd c52 (by decide)) (fun _ => ?_)
          refine lv_aload_n hx hb dL_isLastSo_70 rfl (lv_at hl 4 rfl) ?_
          refine lv_iload_n hx hb dL_isLastSo_71 rfl (lv_at hl 5 rfl) ?_
          refine lv_bipush (v := 7) hx hb dL_isLastSo_72 (by decide) ?_
          refine c_calli (As := [.int (nI x), .int 7]) (rest := []) hx hb hml hown hts hK hX hI 0 (by omega) cE_0 rfl (k_X5_of l dd g ad P44 A hA N43 i45.W i45.g i45.Ld (nI x) 7) (cwV 2 hts gL_isLastSo_X5_of rfl rfl rfl (by decide +kernel) ⟨Nat.le_of_ble_eq_true rfl, Nat.le_of_ble_eq_true rfl⟩) rfl hl (Nat.le_of_ble_eq_true rfl) ⟨Nat.zero_le _, Nat.zero_le _⟩ dL_isLastSo_74 rfl (fun r C1 pi1 H locs h53 hI => ?_)
          obtain ⟨hr9, hc9, hp9⟩ := h53
          rw [hc9, hp9] at hI
          rw [q_o7t i45.W hcB hoB] at hr9
          subst hr9
          refine lv_if_ne (tgt := 84) hx hb dL_isLastSo_77 (by decide) (fun c54 => absurd (by decide) c54) (fun _ => ?_)
          refine lv_iconst (v := 1) hx hb dL_isLastSo_80 (by decide) ?_
          refine lv_goto (tgt := 85) hx hb dL_isLastSo_81 (by decide) ?_
          refine lv_istore (lv' := [(4, .int 1), (5, .int r50), (3, .int r39), (2, .int (nI (m + 1))), (0, .ref (ad 0)), (1, .int (nI x))]) hx hb dL_isLastSo_85 hl (by decide) rfl (fun ls hl => ?_)
          refine lv_aload_n hx hb dL_isLastSo_87 rfl (lv_at hl 4 rfl) ?_
          refine c_calli (As := []) (rest := []) hx hb hml hown hts hK hX hI 0 (by omega) cE_0 rfl (k_X5_undo l dd g ad P44 A hA N43 d47 i45.1 i45.2.1 i45.2.2.1 i45.hist) (cwV 0 hts gL_isLastSo_X5_undo rfl rfl rfl (by decide +kernel) ⟨Nat.le_of_ble_eq_true rfl, Nat.le_of_ble_eq_true rfl⟩) rfl hl (Nat.le_of_ble_eq_true rfl) ⟨Nat.zero_le _, Nat.zero_le _⟩ dL_isLastSo_88 rfl (fun r N55 pi1 H locs h59 hI => ?_)
          obtain ⟨hr9, hc9, hp9⟩ := un_ok z48.1 h59
          rw [hp9] at hI
          obtain ⟨i56, o57, s58⟩ := IN.un i45 z48.1 z48.2.1 i34.2.2.2.1 hc9
          subst hr9
          clear hc9
          refine lv_istore (lv' := [(6, .int (nI (d47 - 1))), (4, .int 1), (5, .int r50), (3, .int r39), (2, .int (nI (m + 1))), (0, .ref (ad 0)), (1, .int (nI x))]) hx hb dL_isLastSo_91 hl (by decide) rfl (fun ls hl => ?_)
          refine lv_iload_n hx hb dL_isLastSo_93 rfl (lv_at hl 4 rfl) ?_
          refine lv_iconst (v := 1) hx hb dL_isLastSo_94 (by decide) ?_
          refine lv_icmp_le (tgt := 105) hx hb dL_isLastSo_95 (by decide) (fun c60 => ?_) (fun c60 => ?_)
          · skip
            have nc60 : m + 1 ≤ 1 := (nI_leI (a := m + 1) (b := 1) (by omega) (by omega)).mp c60
            exact absurd nc60 (by omega)
          · skip
            have nc60 : ¬ (m + 1 ≤ 1) := fun h => c60 ((nI_leI (a := m + 1) (b := 1) (by omega) (by omega)).mpr h)
            refine lv_aload_n hx hb dL_isLastSo_98 rfl (lv_at hl 5 rfl) ?_
            refine c_calli (As := []) (rest := []) hx hb hml hown hts hK hX hI 0 (by omega) cE_0 rfl (k_X5_undo l dd g ad P44 A hA N55 (d47 - 1) i56.1 i56.2.1 i56.2.2.1 i56.hist) (cwV 0 hts gL_isLastSo_X5_undo rfl rfl rfl (by decide +kernel) ⟨Nat.le_of_ble_eq_true rfl, Nat.le_of_ble_eq_true rfl⟩) rfl hl (Nat.le_of_ble_eq_true rfl) ⟨Nat.zero_le _, Nat.zero_le _⟩ dL_isLastSo_99 rfl (fun r N61 pi1 H locs h65 hI => ?_)
            have q7 := z48.2.2 z37.1
            obtain ⟨hr9, hc9, hp9⟩ := un_ok (by omega) h65
            rw [hp9] at hI
            have ro9 : Ro (N55 (P44 (d47 - 1 - 1))) (C 0) := by rw [show d47 - 1 - 1 = d47 - 2 by omega, s58 q7.1, q7.2]; exact z37.2.1
            obtain ⟨i62, o63, s64⟩ := IN.un i56 (by omega) ro9 hIN.2.2.2.1 hc9
            subst hr9
            clear hc9
            refine lv_goto (tgt := 107) hx hb dL_isLastSo_102 (by decide) ?_
            refine lv_istore (lv' := [(6, .int (nI ((d47 - 1) - 1))), (4, .int 1), (5, .int r50), (3, .int r39), (2, .int (nI (m + 1))), (0, .ref (ad 0)), (1, .int (nI x))]) hx hb dL_isLastSo_107 hl (by decide) rfl (fun ls hl => ?_)
            refine lv_iload hx hb dL_isLastSo_109 (lv_at hl 1 rfl) ?_
            refine lv_if_eq (tgt := 132) hx hb dL_isLastSo_111 (by decide) (fun c66 => absurd c66 (by decide)) (fun _ => ?_)
            refine lv_iload hx hb dL_isLastSo_114 (lv_at hl 0 rfl) ?_
            refine lv_if_lt (tgt := 132) hx hb dL_isLastSo_116 (by decide) (fun c67 => ?_) (fun c67 => ?_)
            · skip
              have nc67 : (d47 - 1) - 1 < 0 := (nI_ltI (a := (d47 - 1) - 1) (b := 0) (by omega) (by omega)).mp c67
              exact absurd nc67 (by omega)
            · skip
              have nc67 : ¬ ((d47 - 1) - 1 < 0) := fun h => c67 ((nI_ltI (a := (d47 - 1) - 1) (b := 0) (by omega) (by omega)).mpr h)
              refine lv_iload_n hx hb dL_isLastSo_119 rfl (lv_at hl 3 rfl) ?_
              refine lv_if_lt (tgt := 132) hx hb dL_isLastSo_120 (by decide) (fun c68 => ?_) (fun c68 => ?_)
              · skip
                exact absurd c68 (Int32.not_lt.mpr g3)
              · skip
                refine lv_iload hx hb dL_isLastSo_123 (lv_at hl 2 rfl) ?_
                refine lv_if_lt (tgt := 132) hx hb dL_isLastSo_125 (by decide) (fun c69 => ?_) (fun c69 => ?_)
                · skip
                  exact absurd c69 (Int32.not_lt.mpr g5)
                · skip
                  refine lv_iconst (v := 1) hx hb dL_isLastSo_128 (by decide) ?_
                  refine lv_goto (tgt := 133) hx hb dL_isLastSo_129 (by decide) ?_
                  exact c_zret (v := 1) hx hb hr (by first | rfl | decide) hI (⟨rfl, _, i62⟩) dL_isLastSo_133 hlocks
      · skip
        have nc6 : ¬ (D ≤ 9000) := fun h => c6 ((nI_leI (a := D) (b := 9000) (by omega) (by omega)).mpr h)
        refine lv_iconst (v := 1) hx hb dL_isLastSo_21 (by decide) ?_
        exact c_zret (v := 1) hx hb hr (by first | rfl | decide) hI (⟨rfl, _, hIN⟩) dL_isLastSo_22 hlocks
