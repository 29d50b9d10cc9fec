set_option maxHeartbeats 4000000 in
set_option maxRecDepth 100000 in
theorem k_X2_readNext (l : Launch) (dd : va_G) (g : Nat → ClassId) (ad pi : Nat → Nat) (A : Nat → Prop) (hA : cA A ad) (C : MS) (len pp : Nat) (hl80 : len ≤ 80) (hp80 : pp ≤ len) (hl1 : C 10 1 = nI len) (hp2 : C 10 2 = nI pp) (hch : chOk (C 12) len)  : Met l yX2_readNext wsX2_readNext ({ frames := 3, cells := 0, slots := 0, locals := 64 }) (cPre dd g ad pi A C [.ref (ad 5)]) (cQi dd g ad A (fun r C1 pi1 => ((0 < pp ∧ ¬ chr (C 12) len pp = 59 ∧ r = 0 ∧ C1 = C) ∨ (pp = 0 ∧ rdP C C1 len pp r) ∨ (0 < pp ∧ chr (C 12) len pp = 59 ∧ rdP C C1 len (pp + 1) r)) ∧ pi1 = pi)) 0 0 A := by
  refine Met.ofW (cc := cX2_readNext) (maxL := 1) (ret := (some .boolean)) (by decide) rfl ?_
  intro p e s m args below meth c s₁ B hml hv
  obtain ⟨rfl, hP0, hK, hX⟩ := hv
  have hx := B.exec
  have hb := B.bytes
  have hr := B.returns
  have hts := atoms_spec (ws := wsX2_readNext) B.pre
  have hown : s.vm.findClass RX2 = some m.cls := findClass_of_methodNamed B.named
  have hlocks := B.notSynchronized
  have hinX2 : ∀ w ∈ wsX20, w ∈ wsX2_readNext := by decide +kernel
  have hI : cI dd g ad pi A s.heap s.heap [] C := ⟨hP0, va_S.rf⟩
  have hl := lv_entry ([.ref (ad 5)]) (n := 1) (Nat.le_of_ble_eq_true rfl)
  rw [lg_entry_eq]
  generalize (lg_sl ([.ref (ad 5)]) ++ List.replicate (1 - (lg_sl ([.ref (ad 5)])).length) Slot.unset).toArray = ls at hl ⊢
  have hl : lv_has ls 1 [(0, .ref (ad 5))] := hl
  refine lv_aload_n hx hb dX2_readNext_0 rfl (lv_at hl 0 rfl) ?_
  refine c_get hx hb hts hown hK hI 5 (by omega) cE_5 rfl hinX2 3 (by decide) (hts (.fieldLink RX2 33 "WinderLadders$Pad" "place" "I") (by decide +kernel)) (v := .int (nI pp)) (congrArg (fun z => some (Value.int z)) hp2) dX2_readNext_1 ?_
  refine lv_if_le (tgt := 18) hx hb dX2_readNext_4 (by decide) (fun c1 => ?_) (fun c1 => ?_)
  · skip
    have nc1 : pp ≤ 0 := (nI_leI (a := pp) (b := 0) (by omega) (by omega)).mp c1
    refine lv_aload_n hx hb dX2_readNext_18 rfl (lv_at hl 0 rfl) ?_
    refine c_get hx hb hts hown hK hI 5 (by omega) cE_5 rfl hinX2 1 (by decide) (hts (.fieldLink RX2 18 "WinderLadders$Pad" "numbers" "LWinderLadders$Row;") (by decide +kernel)) (v := .ref (ad 7)) rfl dX2_readNext_19 ?_
    refine c_callv (As := []) (rest := []) hx hb hml hown hts hK hX hI 7 (by omega) cE_7 rfl (k_X3_clear_p l dd g ad pi A hA C) (cwV 0 hts gX2_readNext_X3_clear rfl rfl rfl (by decide +kernel) ⟨Nat.le_of_ble_eq_true rfl, Nat.le_of_ble_eq_true rfl⟩) rfl hl (Nat.le_of_ble_eq_true rfl) ⟨Nat.zero_le _, Nat.zero_le _⟩ dX2_readNext_22 rfl (fun C1 pi1 H locs h2 hI => ?_)
    obtain ⟨hc9, hp9⟩ := h2
    rw [hc9, hp9] at hI
    refine lv_aload_n hx hb dX2_readNext_25 rfl (lv_at hl 0 rfl) ?_
    refine lv_aload_n hx hb dX2_readNext_26 rfl (lv_at hl 0 rfl) ?_
    refine c_calli (As := []) (rest := [.ref (ad 5)]) hx hb hml hown hts hK hX hI 5 (by omega) cE_5 rfl (k_X2_here l dd g ad pi A hA (mset C 10 (4) (0)) len pp hl80 (by omega) ((mset_nj _ (by omega) _ _).trans (hl1)) ((mset_nj _ (by omega) _ _).trans (hp2)) (by simp only [mset_ne _ (show (12 : Nat) ≠ 10 by decide), mset_ne _ (show (12 : Nat) ≠ 13 by decide), pdM_ne (show (12 : Nat) ≠ 10 by decide) (show (12 : Nat) ≠ 13 by decide)]; exact hch)) (cwV 0 hts gX2_readNext_X2_here rfl rfl rfl (by decide +kernel) ⟨Nat.le_of_ble_eq_true rfl, Nat.le_of_ble_eq_true rfl⟩) rfl hl (Nat.le_of_ble_eq_true rfl) ⟨Nat.zero_le _, Nat.zero_le _⟩ dX2_readNext_27 rfl (fun r C1 pi1 H locs h3 hI => ?_)
    simp only [mset_ne _ (show (12 : Nat) ≠ 10 by decide), mset_ne _ (show (12 : Nat) ≠ 13 by decide), pdM_ne (show (12 : Nat) ≠ 10 by decide) (show (12 : Nat) ≠ 13 by decide)] at h3
    obtain ⟨hr9, hc9, hp9⟩ := h3
    rw [hc9, hp9] at hI
    subst hr9
    obtain ⟨cv, hcv⟩ : ∃ z, z = chr (C 12) len pp := ⟨_, rfl⟩
    refine lv_re (y := cv) hcv.symm ?_
    refine c_putP hx hb hts hinX2 hown hK hA hI 3 4 (by decide) (hts (.fieldLink RX2 47 "WinderLadders$Pad" "kind" "I") (by decide +kernel)) dX2_readNext_30 (fun H locs hI => ?_)
    rw [pdM_k2 hp2] at hI
    refine lv_aload_n hx hb dX2_readNext_33 rfl (lv_at hl 0 rfl) ?_
    refine c_get hx hb hts hown hK hI 5 (by omega) cE_5 rfl hinX2 4 (by decide) (hts (.fieldLink RX2 47 "WinderLadders$Pad" "kind" "I") (by decide +kernel)) (v := .int cv) (congrArg (fun z => some (Value.int z)) (((pdM_o (by decide) (by decide)).trans (mset_eq _ _ _ _)))) dX2_readNext_34 ?_
    by_cases c4_0 : cv = 43
    · rw [c4_0]
      refine lv_lookup (tgt := 96) (off := 59) hx hb dX2_readNext_37 (by decide +kernel) (by decide +kernel) (by decide) ?_
      refine lv_aload_n hx hb dX2_readNext_96 rfl (lv_at hl 0 rfl) ?_
      refine lv_bipush (v := 43) hx hb dX2_readNext_97 (by decide) ?_
      refine c_calli (As := [.int 43]) (rest := []) hx hb hml hown hts hK hX hI 5 (by omega) cE_5 rfl (k_X2_take l dd g ad pi A hA (pdM (mset C 10 3 cv) pp 0 (C 13)) len pp hl80 (by omega) (((pdM_o (by decide) (by decide)).trans ((mset_nj _ (by decide) _ _).trans hl1))) pdM_q (by simp only [mset_ne _ (show (12 : Nat) ≠ 10 by decide), mset_ne _ (show (12 : Nat) ≠ 13 by decide), pdM_ne (show (12 : Nat) ≠ 10 by decide) (show (12 : Nat) ≠ 13 by decide)]; exact hch) 43) (cwV 1 hts gX2_readNext_X2_take rfl rfl rfl (by decide +kernel) ⟨Nat.le_of_ble_eq_true rfl, Nat.le_of_ble_eq_true rfl⟩) rfl hl (Nat.le_of_ble_eq_true rfl) ⟨Nat.zero_le _, Nat.zero_le _⟩ dX2_readNext_99 rfl (fun r C1 pi1 H locs h6 hI => ?_)
      simp only [mset_ne _ (show (12 : Nat) ≠ 10 by decide), mset_ne _ (show (12 : Nat) ≠ 13 by decide), pdM_ne (show (12 : Nat) ≠ 10 by decide) (show (12 : Nat) ≠ 13 by decide)] at h6
      obtain ⟨h6, hp9⟩ := h6
      rw [hp9] at hI
      rcases h6 with ⟨t5, hr9, hc9⟩ | ⟨t5, hr9, hc9⟩
      · skip
        rw [pdM_tk] at hc9
        rw [hc9] at hI
        subst hr9
        have l_t5 := chr_lt t5 (by decide)
        refine lv_if_eq (tgt := 150) hx hb dX2_readNext_102 (by decide) (fun c7 => absurd c7 (by decide)) (fun _ => ?_)
        refine lv_aload_n hx hb dX2_readNext_105 rfl (lv_at hl 0 rfl) ?_
        refine lv_iconst (v := 1) hx hb dX2_readNext_106 (by decide) ?_
        refine c_calli (As := [.int 1]) (rest := []) hx hb hml hown hts hK hX hI 5 (by omega) cE_5 rfl (k_X2_readNumber l dd g ad pi A hA (pdM (mset C 10 3 cv) (pp + 1) 0 (C 13)) len (pp + 1) hl80 (by omega) (((pdM_o (by decide) (by decide)).trans ((mset_nj _ (by decide) _ _).trans hl1))) pdM_q (by simp only [mset_ne _ (show (12 : Nat) ≠ 10 by decide), mset_ne _ (show (12 : Nat) ≠ 13 by decide), pdM_ne (show (12 : Nat) ≠ 10 by decide) (show (12 : Nat) ≠ 13 by decide)]; exact hch) 0 (by omega) pdM_L 1) (cwV 1 hts gX2_readNext_X2_readNumber rfl rfl rfl (by decide +kernel) ⟨Nat.le_of_ble_eq_true rfl, Nat.le_of_ble_eq_true rfl⟩) rfl hl (Nat.le_of_ble_eq_true rfl) ⟨Nat.zero_le _, Nat.zero_le _⟩ dX2_readNext_107 rfl (fun r C1 pi1 H locs h9 hI => ?_)
        simp only [mset_ne _ (show (12 : Nat) ≠ 10 by decide), mset_ne _ (show (12 : Nat) ≠ 13 by decide), pdM_ne (show (12 : Nat) ≠ 10 by decide) (show (12 : Nat) ≠ 13 by decide)] at h9
        obtain ⟨h9, hp9⟩ := h9
        rw [hp9] at hI
        rcases h9 with ⟨vn8, pn8, n8, hr9, hc9⟩ | ⟨n8, hr9, hc9⟩
        · skip
          simp only [pdM_pdM, pdM_13, Int32.mul_one, mulm1] at hc9
          rw [hc9] at hI
          subst hr9
          have l_n8 := rN_place n8
          refine lv_if_eq (tgt := 150) hx hb dX2_readNext_110 (by decide) (fun c10 => absurd c10 (by decide)) (fun _ => ?_)
          refine lv_aload_n hx hb dX2_readNext_113 rfl (lv_at hl 0 rfl) ?_
          refine lv_bipush (v := 94) hx hb dX2_readNext_114 (by decide) ?_
          refine c_calli (As := [.int 94]) (rest := []) hx hb hml hown hts hK hX hI 5 (by omega) cE_5 rfl (k_X2_take l dd g ad pi A hA (pdM (mset C 10 3 cv) pn8 (0 + 1) (upd (C 13) 0 (vn8))) len pn8 hl80 (by omega) (((pdM_o (by decide) (by decide)).trans ((mset_nj _ (by decide) _ _).trans hl1))) pdM_q (by simp only [mset_ne _ (show (12 : Nat) ≠ 10 by decide), mset_ne _ (show (12 : Nat) ≠ 13 by decide), pdM_ne (show (12 : Nat) ≠ 10 by decide) (show (12 : Nat) ≠ 13 by decide)]; exact hch) 94) (cwV 1 hts gX2_readNext_X2_take rfl rfl rfl (by decide +kernel) ⟨Nat.le_of_ble_eq_true rfl, Nat.le_of_ble_eq_true rfl⟩) rfl hl (Nat.le_of_ble_eq_true rfl) ⟨Nat.zero_le _, Nat.zero_le _⟩ dX2_readNext_116 rfl (fun r C1 pi1 H locs h12 hI => ?_)
          simp only [mset_ne _ (show (12 : Nat) ≠ 10 by decide), mset_ne _ (show (12 : Nat) ≠ 13 by decide), pdM_ne (show (12 : Nat) ≠ 10 by decide) (show (12 : Nat) ≠ 13 by decide)] at h12
          obtain ⟨h12, hp9⟩ := h12
          rw [hp9] at hI
          rcases h12 with ⟨t11, hr9, hc9⟩ | ⟨t11, hr9, hc9⟩
          · skip
            rw [pdM_tk] at hc9
            rw [hc9] at hI
            subst hr9
            have l_t11 := chr_lt t11 (by decide)
            refine lv_if_eq (tgt := 150) hx hb dX2_readNext_119 (by decide) (fun c13 => absurd c13 (by decide)) (fun _ => ?_)
            refine lv_aload_n hx hb dX2_readNext_122 rfl (lv_at hl 0 rfl) ?_
            refine lv_iconst (v := 1) hx hb dX2_readNext_123 (by decide) ?_
            refine c_calli (As := [.int 1]) (rest := []) hx hb hml hown hts hK hX hI 5 (by omega) cE_5 rfl (k_X2_readNumber l dd g ad pi A hA (pdM (mset C 10 3 cv) (pn8 + 1) (0 + 1) (upd (C 13) 0 (vn8))) len (pn8 + 1) hl80 (by omega) (((pdM_o (by decide) (by decide)).trans ((mset_nj _ (by decide) _ _).trans hl1))) pdM_q (by simp only [mset_ne _ (show (12 : Nat) ≠ 10 by decide), mset_ne _ (show (12 : Nat) ≠ 13 by decide), pdM_ne (show (12 : Nat) ≠ 10 by decide) (show (12 : Nat) ≠ 13 by decide)]; exact hch) (0 + 1) (by omega) pdM_L 1) (cwV 1 hts gX2_readNext_X2_readNumber rfl rfl rfl (by decide +kernel) ⟨Nat.le_of_ble_eq_true rfl, Nat.le_of_ble_eq_true rfl⟩) rfl hl (Nat.le_of_ble_eq_true rfl) ⟨Nat.zero_le _, Nat.zero_le _⟩ dX2_readNext_124 rfl (fun r C1 pi1 H locs h15 hI => ?_)
            simp only [mset_ne _ (show (12 : Nat) ≠ 10 by decide), mset_ne _ (show (12 : Nat) ≠ 13 by decide), pdM_ne (show (12 : Nat) ≠ 10 by decide) (show (12 : Nat) ≠ 13 by decide)] at h15
            obtain ⟨h15, hp9⟩ := h15
            rw [hp9] at hI
            rcases h15 with ⟨vn14, pn14, n14, hr9, hc9⟩ | ⟨n14, hr9, hc9⟩
            · skip
              simp only [pdM_pdM, pdM_13, Int32.mul_one, mulm1] at hc9
              rw [hc9] at hI
              subst hr9
              have l_n14 := rN_place n14
              refine lv_if_eq (tgt := 150) hx hb dX2_readNext_127 (by decide) (fun c16 => absurd c16 (by decide)) (fun _ => ?_)
              refine lv_aload_n hx hb dX2_readNext_130 rfl (lv_at hl 0 rfl) ?_
              refine lv_bipush (v := 126) hx hb dX2_readNext_131 (by decide) ?_
              refine c_calli (As := [.int 126]) (rest := []) hx hb hml hown hts hK hX hI 5 (by omega) cE_5 rfl (k_X2_take l dd g ad pi A hA (pdM (mset C 10 3 cv) pn14 (0 + 1 + 1) (upd (upd (C 13) 0 (vn8)) (0 + 1) (vn14))) len pn14 hl80 (by omega) (((pdM_o (by decide) (by decide)).trans ((mset_nj _ (by decide) _ _).trans hl1))) pdM_q (by simp only [mset_ne _ (show (12 : Nat) ≠ 10 by decide), mset_ne _ (show (12 : Nat) ≠ 13 by decide), pdM_ne (show (12 : Nat) ≠ 10 by decide) (show (12 : Nat) ≠ 13 by decide)]; exact hch) 126) (cwV 1 hts gX2_readNext_X2_take rfl rfl rfl (by decide +kernel) ⟨Nat.le_of_ble_eq_true rfl, Nat.le_of_ble_eq_true rfl⟩) rfl hl (Nat.le_of_ble_eq_true rfl) ⟨Nat.zero_le _, Nat.zero_le _⟩ dX2_readNext_133 rfl (fun r C1 pi1 H locs h18 hI => ?_)
              simp only [mset_ne _ (show (12 : Nat) ≠ 10 by decide), mset_ne _ (show (12 : Nat) ≠ 13 by decide), pdM_ne (show (12 : Nat) ≠ 10 by decide) (show (12 : Nat) ≠ 13 by decide)] at h18
              obtain ⟨h18, hp9⟩ := h18
              rw [hp9] at hI
              rcases h18 with ⟨t17, hr9, hc9⟩ | ⟨t17, hr9, hc9⟩
              · skip
                rw [pdM_tk] at hc9
                rw [hc9] at hI
                subst hr9
                have l_t17 := chr_lt t17 (by decide)
                refine lv_if_eq (tgt := 150) hx hb dX2_readNext_136 (by decide) (fun c19 => absurd c19 (by decide)) (fun _ => ?_)
                refine lv_aload_n hx hb dX2_readNext_139 rfl (lv_at hl 0 rfl) ?_
                refine c_calli (As := []) (rest := []) hx hb hml hown hts hK hX hI 5 (by omega) cE_5 rfl (k_X2_readValue l dd g ad pi A hA (pdM (mset C 10 3 cv) (pn14 + 1) (0 + 1 + 1) (upd (upd (C 13) 0 (vn8)) (0 + 1) (vn14))) len (pn14 + 1) hl80 (by omega) (((pdM_o (by decide) (by decide)).trans ((mset_nj _ (by decide) _ _).trans hl1))) pdM_q (by simp only [mset_ne _ (show (12 : Nat) ≠ 10 by decide), mset_ne _ (show (12 : Nat) ≠ 13 by decide), pdM_ne (show (12 : Nat) ≠ 10 by decide) (show (12 : Nat) ≠ 13 by decide)]; exact hch) (0 + 1 + 1) (by omega) pdM_L) (cwV 0 hts gX2_readNext_X2_readValue rfl rfl rfl (by decide +kernel) ⟨Nat.le_of_ble_eq_true rfl, Nat.le_of_ble_eq_true rfl⟩) rfl hl (Nat.le_of_ble_eq_true rfl) ⟨Nat.zero_le _, Nat.zero_le _⟩ dX2_readNext_140 rfl (fun r C1 pi1 H locs h21 hI => ?_)
                simp only [mset_ne _ (show (12 : Nat) ≠ 10 by decide), mset_ne _ (show (12 : Nat) ≠ 13 by decide), pdM_ne (show (12 : Nat) ≠ 10 by decide) (show (12 : Nat) ≠ 13 by decide)] at h21
                obtain ⟨h21, hp9⟩ := h21
                rw [hp9] at hI
                rcases h21 with ⟨tn20, ⟨vn20, pn20, n20, hr9, hc9⟩ | ⟨n20, hr9, hc9⟩⟩ | ⟨tn20, ⟨vn20, pn20, n20, hr9, hc9⟩ | ⟨n20, hr9, hc9⟩⟩
                · skip
                  simp only [pdM_pdM, pdM_13] at hc9
                  rw [hc9] at hI
                  subst hr9
                  have l_n20 := rN_place n20
                  refine lv_if_eq (tgt := 150) hx hb dX2_readNext_143 (by decide) (fun c22 => absurd c22 (by decide)) (fun _ => ?_)
                  refine lv_iconst (v := 1) hx hb dX2_readNext_146 (by decide) ?_
                  refine lv_goto (tgt := 151) hx hb dX2_readNext_147 (by decide) ?_
                  exact c_zret (v := 1) hx hb hr (by first | rfl | decide) hI (⟨Or.inr (Or.inl ⟨by omega, rdP_ok hcv ⟨by simp [rO, rP, ← hcv, c4_0, (inB_yes t5), (nxB_yes t5 (by decide)), n8, (inB_yes t11), (nxB_yes t11 (by decide)), n14, (inB_yes t17), (nxB_yes t17 (by decide)), (inB_yes tn20), (nxB_yes tn20 (by decide)), n20], by simp [rO, rP, ← hcv, c4_0, (inB_yes t5), (nxB_yes t5 (by decide)), n8, (inB_yes t11), (nxB_yes t11 (by decide)), n14, (inB_yes t17), (nxB_yes t17 (by decide)), (inB_yes tn20), (nxB_yes tn20 (by decide)), n20]⟩ (by omega) (by unfold nmS; simp [upd, rO, rP, ← hcv, c4_0, (inB_yes t5), (nxB_yes t5 (by decide)), n8, (inB_yes t11), (nxB_yes t11 (by decide)), n14, (inB_yes t17), (nxB_yes t17 (by decide)), (inB_yes tn20), (nxB_yes tn20 (by decide)), n20]; try simp [upd])⟩), rfl⟩) dX2_readNext_151 hlocks
                · skip
                  simp only [pdM_pdM, pdM_13] at hc9
                  rw [hc9] at hI
                  subst hr9
                  refine lv_if_eq (tgt := 150) hx hb dX2_readNext_143 (by decide) (fun _ => ?_) (fun c23 => absurd (by decide) c23)
                  refine lv_iconst (v := 0) hx hb dX2_readNext_150 (by decide) ?_
                  exact c_zret (v := 0) hx hb hr (by first | rfl | decide) hI (⟨Or.inr (Or.inl ⟨by omega, rdP_no hcv ⟨by simp [rO, rP, ← hcv, c4_0, (inB_yes t5), (nxB_yes t5 (by decide)), n8, (inB_yes t11), (nxB_yes t11 (by decide)), n14, (inB_yes t17), (nxB_yes t17 (by decide)), (inB_yes tn20), (nxB_yes tn20 (by decide)), n20], by simp [rO, rP, ← hcv, c4_0, (inB_yes t5), (nxB_yes t5 (by decide)), n8, (inB_yes t11), (nxB_yes t11 (by decide)), n14, (inB_yes t17), (nxB_yes t17 (by decide)), (inB_yes tn20), (nxB_yes tn20 (by decide)), n20]⟩ (by omega)⟩), rfl⟩) dX2_readNext_151 hlocks
                · skip
                  simp only [pdM_pdM, pdM_13] at hc9
                  rw [hc9] at hI
                  subst hr9
                  have l_n20 := rN_place n20
                  refine lv_if_eq (tgt := 150) hx hb dX2_readNext_143 (by decide) (fun c24 => absurd c24 (by decide)) (fun _ => ?_)
                  refine lv_iconst (v := 1) hx hb dX2_readNext_146 (by decide) ?_
                  refine lv_goto (tgt := 151) hx hb dX2_readNext_147 (by decide) ?_
                  exact c_zret (v := 1) hx hb hr (by first | rfl | decide) hI (⟨Or.inr (Or.inl ⟨by omega, rdP_ok hcv ⟨by simp [rO, rP, ← hcv, c4_0, (inB_yes t5), (nxB_yes t5 (by decide)), n8, (inB_yes t11), (nxB_yes t11 (by decide)), n14, (inB_yes t17), (nxB_yes t17 (by decide)), (inB_no tn20), (nxB_no tn20 (by decide)), n20], by simp [rO, rP, ← hcv, c4_0, (inB_yes t5), (nxB_yes t5 (by decide)), n8, (inB_yes t11), (nxB_yes t11 (by decide)), n14, (inB_yes t17), (nxB_yes t17 (by decide)), (inB_no tn20), (nxB_no tn20 (by decide)), n20]⟩ (by omega) (by unfold nmS; simp [upd, rO, rP, ← hcv, c4_0, (inB_yes t5), (nxB_yes t5 (by decide)), n8, (inB_yes t11), (nxB_yes t11 (by decide)), n14, (inB_yes t17), (nxB_yes t17 (by decide)), (inB_no tn20), (nxB_no tn20 (by decide)), n20]; try simp [upd])⟩), rfl⟩) dX2_readNext_151 hlocks
                · skip
                  simp only [pdM_pdM, pdM_13] at hc9
                  rw [hc9] at hI
                  subst hr9
                  refine lv_if_eq (tgt := 150) hx hb dX2_readNext_143 (by decide) (fun _ => ?_) (fun c25 => absurd (by decide) c25)
                  refine lv_iconst (v := 0) hx hb dX2_readNext_150 (by decide) ?_
                  exact c_zret (v := 0) hx hb hr (by first | rfl | decide) hI (⟨Or.inr (Or.inl ⟨by omega, rdP_no hcv ⟨by simp [rO, rP, ← hcv, c4_0, (inB_yes t5), (nxB_yes t5 (by decide)), n8, (inB_yes t11), (nxB_yes t11 (by decide)), n14, (inB_yes t17), (nxB_yes t17 (by decide)), (inB_no tn20), (nxB_no tn20 (by decide)), n20], by simp [rO, rP, ← hcv, c4_0, (inB_yes t5), (nxB_yes t5 (by decide)), n8, (inB_yes t11), (nxB_yes t11 (by decide)), n14, (inB_yes t17), (nxB_yes t17 (by decide)), (inB_no tn20), (nxB_no tn20 (by decide)), n20]⟩ (by omega)⟩), rfl⟩) dX2_readNext_151 hlocks
              · skip
                rw [hc9] at hI
                subst hr9
                refine lv_if_eq (tgt := 150) hx hb dX2_readNext_136 (by decide) (fun _ => ?_) (fun c26 => absurd (by decide) c26)
                refine lv_iconst (v := 0) hx hb dX2_readNext_150 (by decide) ?_
                exact c_zret (v := 0) hx hb hr (by first | rfl | decide) hI (⟨Or.inr (Or.inl ⟨by omega, rdP_no hcv ⟨by simp [rO, rP, ← hcv, c4_0, (inB_yes t5), (nxB_yes t5 (by decide)), n8, (inB_yes t11), (nxB_yes t11 (by decide)), n14, (inB_no t17), (nxB_no t17 (by decide))], by simp [rO, rP, ← hcv, c4_0, (inB_yes t5), (nxB_yes t5 (by decide)), n8, (inB_yes t11), (nxB_yes t11 (by decide)), n14, (inB_no t17), (nxB_no t17 (by decide))]⟩ (by omega)⟩), rfl⟩) dX2_readNext_151 hlocks
            · skip
              rw [hc9] at hI
              subst hr9
              refine lv_if_eq (tgt := 150) hx hb dX2_readNext_127 (by decide) (fun _ => ?_) (fun c27 => absurd (by decide) c27)
              refine lv_iconst (v := 0) hx hb dX2_readNext_150 (by decide) ?_
              exact c_zret (v := 0) hx hb hr (by first | rfl | decide) hI (⟨Or.inr (Or.inl ⟨by omega, rdP_no hcv ⟨by simp [rO, rP, ← hcv, c4_0, (inB_yes t5), (nxB_yes t5 (by decide)), n8, (inB_yes t11), (nxB_yes t11 (by decide)), n14], by simp [rO, rP, ← hcv, c4_0, (inB_yes t5), (nxB_yes t5 (by decide)), n8, (inB_yes t11), (nxB_yes t11 (by decide)), n14]⟩ (by omega)⟩), rfl⟩) dX2_readNext_151 hlocks
          · skip
            rw [hc9] at hI
            subst hr9
            refine lv_if_eq (tgt := 150) hx hb dX2_readNext_119 (by decide) (fun _ => ?_) (fun c28 => absurd (by decide) c28)
            refine lv_iconst (v := 0) hx hb dX2_readNext_150 (by decide) ?_
            exact c_zret (v := 0) hx hb hr (by first | rfl | decide) hI (⟨Or.inr (Or.inl ⟨by omega, rdP_no hcv ⟨by simp [rO, rP, ← hcv, c4_0, (inB_yes t5), (nxB_yes t5 (by decide)), n8, (inB_no t11), (nxB_no t11 (by decide))], by simp [rO, rP, ← hcv, c4_0, (inB_yes t5), (nxB_yes t5 (by decide)), n8, (inB_no t11), (nxB_no t11 (by decide))]⟩ (by omega)⟩), rfl⟩) dX2_readNext_151 hlocks
        · skip
          rw [hc9] at hI
          subst hr9
          refine lv_if_eq (tgt := 150) hx hb dX2_readNext_110 (by decide) (fun _ => ?_) (fun c29 => absurd (by decide) c29)
          refine lv_iconst (v := 0) hx hb dX2_readNext_150 (by decide) ?_
          exact c_zret (v := 0) hx hb hr (by first | rfl | decide) hI (⟨Or.inr (Or.inl ⟨by omega, rdP_no hcv ⟨by simp [rO, rP, ← hcv, c4_0, (inB_yes t5), (nxB_yes t5 (by decide)), n8], by simp [rO, rP, ← hcv, c4_0, (inB_yes t5), (nxB_yes t5 (by decide)), n8]⟩ (by omega)⟩), rfl⟩) dX2_readNext_151 hlocks
      · skip
        rw [hc9] at hI
        subst hr9
        exact absurd (hcv.symm.trans c4_0) t5
    by_cases c4_1 : cv = 97
    · rw [c4_1]
      refine lv_lookup (tgt := 227) (off := 190) hx hb dX2_readNext_37 (by decide +kernel) (by decide +kernel) (by decide) ?_
      refine lv_aload_n hx hb dX2_readNext_227 rfl (lv_at hl 0 rfl) ?_
      refine lv_bipush (v := 97) hx hb dX2_readNext_228 (by decide) ?_
      refine c_calli (As := [.int 97]) (rest := []) hx hb hml hown hts hK hX hI 5 (by omega) cE_5 rfl (k_X2_take l dd g ad pi A hA (pdM (mset C 10 3 cv) pp 0 (C 13)) len pp hl80 (by omega) (((pdM_o (by decide) (by decide)).trans ((mset_nj _ (by decide) _ _).trans hl1))) pdM_q (by simp only [mset_ne _ (show (12 : Nat) ≠ 10 by decide), mset_ne _ (show (12 : Nat) ≠ 13 by decide), pdM_ne (show (12 : Nat) ≠ 10 by decide) (show (12 : Nat) ≠ 13 by decide)]; exact hch) 97) (cwV 1 hts gX2_readNext_X2_take rfl rfl rfl (by decide +kernel) ⟨Nat.le_of_ble_eq_true rfl, Nat.le_of_ble_eq_true rfl⟩) rfl hl (Nat.le_of_ble_eq_true rfl) ⟨Nat.zero_le _, Nat.zero_le _⟩ dX2_readNext_230 rfl (fun r C1 pi1 H locs h31 hI => ?_)
      simp only [mset_ne _ (show (12 : Nat) ≠ 10 by decide), mset_ne _ (show (12 : Nat) ≠ 13 by decide), pdM_ne (show (12 : Nat) ≠ 10 by decide) (show (12 : Nat) ≠ 13 by decide)] at h31
      obtain ⟨h31, hp9⟩ := h31
      rw [hp9] at hI
      rcases h31 with ⟨t30, hr9, hc9⟩ | ⟨t30, hr9, hc9⟩
      · skip
        rw [pdM_tk] at hc9
        rw [hc9] at hI
        subst hr9
        have l_t30 := chr_lt t30 (by decide)
        exact c_zret (v := 1) hx hb hr (by first | rfl | decide) hI (⟨Or.inr (Or.inl ⟨by omega, rdP_ok hcv ⟨by simp [rO, rP, ← hcv, c4_1, (inB_yes t30), (nxB_yes t30 (by decide))], by simp [rO, rP, ← hcv, c4_1, (inB_yes t30), (nxB_yes t30 (by decide))]⟩ (by omega) (by unfold nmS; simp [upd, rO, rP, ← hcv, c4_1, (inB_yes t30), (nxB_yes t30 (by decide))]; try simp [upd])⟩), rfl⟩) dX2_readNext_233 hlocks
      · skip
        rw [hc9] at hI
        subst hr9
        exact absurd (hcv.symm.trans c4_1) t30
    by_cases c4_2 : cv = 98
    · rw [c4_2]
      refine lv_lookup (tgt := 175) (off := 138) hx hb dX2_readNext_37 (by decide +kernel) (by decide +kernel) (by decide) ?_
      refine lv_aload_n hx hb dX2_readNext_175 rfl (lv_at hl 0 rfl) ?_
      refine lv_bipush (v := 98) hx hb dX2_readNext_176 (by decide) ?_
      refine c_calli (As := [.int 98]) (rest := []) hx hb hml hown hts hK hX hI 5 (by omega) cE_5 rfl (k_X2_take l dd g ad pi A hA (pdM (mset C 10 3 cv) pp 0 (C 13)) len pp hl80 (by omega) (((pdM_o (by decide) (by decide)).trans ((mset_nj _ (by decide) _ _).trans hl1))) pdM_q (by simp only [mset_ne _ (show (12 : Nat) ≠ 10 by decide), mset_ne _ (show (12 : Nat) ≠ 13 by decide), pdM_ne (show (12 : Nat) ≠ 10 by decide) (show (12 : Nat) ≠ 13 by decide)]; exact hch) 98) (cwV 1 hts gX2_readNext_X2_take rfl rfl rfl (by decide +kernel) ⟨Nat.le_of_ble_eq_true rfl, Nat.le_of_ble_eq_true rfl⟩) rfl hl (Nat.le_of_ble_eq_true rfl) ⟨Nat.zero_le _, Nat.zero_le _⟩ dX2_readNext_178 rfl (fun r C1 pi1 H locs h33 hI => ?_)
      simp only [mset_ne _ (show (12 : Nat) ≠ 10 by decide), mset_ne _ (show (12 : Nat) ≠ 13 by decide), pdM_ne (show (12 : Nat) ≠ 10 by decide) (show (12 : Nat) ≠ 13 by decide)] at h33
      obtain ⟨h33, hp9⟩ := h33
      rw [hp9] at hI
      rcases h33 with ⟨t32, hr9, hc9⟩ | ⟨t32, hr9, hc9⟩
      · skip
        rw [pdM_tk] at hc9
        rw [hc9] at hI
        subst hr9
        have l_t32 := chr_lt t32 (by decide)
        refine lv_if_eq (tgt := 195) hx hb dX2_readNext_181 (by decide) (fun c34 => absurd c34 (by decide)) (fun _ => ?_)
        refine lv_aload_n hx hb dX2_readNext_184 rfl (lv_at hl 0 rfl) ?_
        refine c_calli (As := []) (rest := []) hx hb hml hown hts hK hX hI 5 (by omega) cE_5 rfl (k_X2_readNumbers l dd g ad pi A hA (pdM (mset C 10 3 cv) (pp + 1) 0 (C 13)) len (pp + 1) hl80 (by omega) (((pdM_o (by decide) (by decide)).trans ((mset_nj _ (by decide) _ _).trans hl1))) pdM_q (by simp only [mset_ne _ (show (12 : Nat) ≠ 10 by decide), mset_ne _ (show (12 : Nat) ≠ 13 by decide), pdM_ne (show (12 : Nat) ≠ 10 by decide) (show (12 : Nat) ≠ 13 by decide)]; exact hch) (by omega) pdM_L) (cwV 0 hts gX2_readNext_X2_readNumbers rfl rfl rfl (by decide +kernel) ⟨Nat.le_of_ble_eq_true rfl, Nat.le_of_ble_eq_true rfl⟩) rfl hl (Nat.le_of_ble_eq_true rfl) ⟨Nat.zero_le _, Nat.zero_le _⟩ dX2_readNext_185 rfl (fun r C1 pi1 H locs h36 hI => ?_)
        simp only [pdM_pdM, pdM_13, pdM_ne (show (12 : Nat) ≠ 10 by decide) (show (12 : Nat) ≠ 13 by decide), mset_ne _ (show (12 : Nat) ≠ 10 by decide), mset_ne _ (show (13 : Nat) ≠ 10 by decide)] at h36
        obtain ⟨h36, hz9, hp9⟩ := h36
        rw [hp9] at hI
        rcases h36 with ⟨n35, hr9, hc9⟩ | ⟨n35, hr9, hc9⟩
        · skip
          rw [hc9] at hI
          subst hr9
          refine lv_if_eq (tgt := 195) hx hb dX2_readNext_188 (by decide) (fun c37 => absurd c37 (by decide)) (fun _ => ?_)
          refine lv_iconst (v := 1) hx hb dX2_readNext_191 (by decide) ?_
          refine lv_goto (tgt := 196) hx hb dX2_readNext_192 (by decide) ?_
          exact c_zret (v := 1) hx hb hr (by first | rfl | decide) hI (⟨Or.inr (Or.inl ⟨by omega, rdP_ok hcv ⟨(rO_98 (hcv.symm.trans c4_2) (C 13)).1.trans n35, (rO_98 (hcv.symm.trans c4_2) (C 13)).2.1⟩ hz9 ⟨fun z => absurd (c4_2.symm.trans z) (by decide), fun z => absurd (c4_2.symm.trans z) (by decide), fun z => absurd (c4_2.symm.trans z) (by decide), fun _ => (rO_98 (hcv.symm.trans c4_2) (C 13)).2.2 ((rO_98 (hcv.symm.trans c4_2) (C 13)).1.trans n35)⟩⟩), rfl⟩) dX2_readNext_196 hlocks
        · skip
          rw [hc9] at hI
          subst hr9
          refine lv_if_eq (tgt := 195) hx hb dX2_readNext_188 (by decide) (fun _ => ?_) (fun c38 => absurd (by decide) c38)
          refine lv_iconst (v := 0) hx hb dX2_readNext_195 (by decide) ?_
          exact c_zret (v := 0) hx hb hr (by first | rfl | decide) hI (⟨Or.inr (Or.inl ⟨by omega, rdP_no hcv ⟨(rO_98 (hcv.symm.trans c4_2) (C 13)).1.trans n35, (rO_98 (hcv.symm.trans c4_2) (C 13)).2.1⟩ hz9⟩), rfl⟩) dX2_readNext_196 hlocks
      · skip
        rw [hc9] at hI
        subst hr9
        exact absurd (hcv.symm.trans c4_2) t32
    by_cases c4_3 : cv = 108
    · rw [c4_3]
      refine lv_lookup (tgt := 152) (off := 115) hx hb dX2_readNext_37 (by decide +kernel) (by decide +kernel) (by decide) ?_
      refine lv_aload_n hx hb dX2_readNext_152 rfl (lv_at hl 0 rfl) ?_
      refine lv_bipush (v := 108) hx hb dX2_readNext_153 (by decide) ?_
      refine c_calli (As := [.int 108]) (rest := []) hx hb hml hown hts hK hX hI 5 (by omega) cE_5 rfl (k_X2_take l dd g ad pi A hA (pdM (mset C 10 3 cv) pp 0 (C 13)) len pp hl80 (by omega) (((pdM_o (by decide) (by decide)).trans ((mset_nj _ (by decide) _ _).trans hl1))) pdM_q (by simp only [mset_ne _ (show (12 : Nat) ≠ 10 by decide), mset_ne _ (show (12 : Nat) ≠ 13 by decide), pdM_ne (show (12 : Nat) ≠ 10 by decide) (show (12 : Nat) ≠ 13 by decide)]; exact hch) 108) (cwV 1 hts gX2_readNext_X2_take rfl rfl rfl (by decide +kernel) ⟨Nat.le_of_ble_eq_true rfl, Nat.le_of_ble_eq_true rfl⟩) rfl hl (Nat.le_of_ble_eq_true rfl) ⟨Nat.zero_le _, Nat.zero_le _⟩ dX2_readNext_155 rfl (fun r C1 pi1 H locs h40 hI => ?_)
      simp only [mset_ne _ (show (12 : Nat) ≠ 10 by decide), mset_ne _ (show (12 : Nat) ≠ 13 by decide), pdM_ne (show (12 : Nat) ≠ 10 by decide) (show (12 : Nat) ≠ 13 by decide)] at h40
      obtain ⟨h40, hp9⟩ := h40
      rw [hp9] at hI
      rcases h40 with ⟨t39, hr9, hc9⟩ | ⟨t39, hr9, hc9⟩
      · skip
        rw [pdM_tk] at hc9
        rw [hc9] at hI
        subst hr9
        have l_t39 := chr_lt t39 (by decide)
        refine lv_if_eq (tgt := 173) hx hb dX2_readNext_158 (by decide) (fun c41 => absurd c41 (by decide)) (fun _ => ?_)
        refine lv_aload_n hx hb dX2_readNext_161 rfl (lv_at hl 0 rfl) ?_
        refine lv_iconst (v := 1) hx hb dX2_readNext_162 (by decide) ?_
        refine c_calli (As := [.int 1]) (rest := []) hx hb hml hown hts hK hX hI 5 (by omega) cE_5 rfl (k_X2_readNumber l dd g ad pi A hA (pdM (mset C 10 3 cv) (pp + 1) 0 (C 13)) len (pp + 1) hl80 (by omega) (((pdM_o (by decide) (by decide)).trans ((mset_nj _ (by decide) _ _).trans hl1))) pdM_q (by simp only [mset_ne _ (show (12 : Nat) ≠ 10 by decide), mset_ne _ (show (12 : Nat) ≠ 13 by decide), pdM_ne (show (12 : Nat) ≠ 10 by decide) (show (12 : Nat) ≠ 13 by decide)]; exact hch) 0 (by omega) pdM_L 1) (cwV 1 hts gX2_readNext_X2_readNumber rfl rfl rfl (by decide +kernel) ⟨Nat.le_of_ble_eq_true rfl, Nat.le_of_ble_eq_true rfl⟩) rfl hl (Nat.le_of_ble_eq_true rfl) ⟨Nat.zero_le _, Nat.zero_le _⟩ dX2_readNext_163 rfl (fun r C1 pi1 H locs h43 hI => ?_)
        simp only [mset_ne _ (show (12 : Nat) ≠ 10 by decide), mset_ne _ (show (12 : Nat) ≠ 13 by decide), pdM_ne (show (12 : Nat) ≠ 10 by decide) (show (12 : Nat) ≠ 13 by decide)] at h43
        obtain ⟨h43, hp9⟩ := h43
        rw [hp9] at hI
        rcases h43 with ⟨vn42, pn42, n42, hr9, hc9⟩ | ⟨n42, hr9, hc9⟩
        · skip
          simp only [pdM_pdM, pdM_13, Int32.mul_one, mulm1] at hc9
          rw [hc9] at hI
          subst hr9
          have l_n42 := rN_place n42
          refine lv_if_eq (tgt := 173) hx hb dX2_readNext_166 (by decide) (fun c44 => absurd c44 (by decide)) (fun _ => ?_)
          refine lv_iconst (v := 1) hx hb dX2_readNext_169 (by decide) ?_
          refine lv_goto (tgt := 174) hx hb dX2_readNext_170 (by decide) ?_
          exact c_zret (v := 1) hx hb hr (by first | rfl | decide) hI (⟨Or.inr (Or.inl ⟨by omega, rdP_ok hcv ⟨by simp [rO, rP, ← hcv, c4_3, (inB_yes t39), (nxB_yes t39 (by decide)), n42], by simp [rO, rP, ← hcv, c4_3, (inB_yes t39), (nxB_yes t39 (by decide)), n42]⟩ (by omega) (by unfold nmS; simp [upd, rO, rP, ← hcv, c4_3, (inB_yes t39), (nxB_yes t39 (by decide)), n42]; try simp [upd])⟩), rfl⟩) dX2_readNext_174 hlocks
        · skip
          rw [hc9] at hI
          subst hr9
          refine lv_if_eq (tgt := 173) hx hb dX2_readNext_166 (by decide) (fun _ => ?_) (fun c45 => absurd (by decide) c45)
          refine lv_iconst (v := 0) hx hb dX2_readNext_173 (by decide) ?_
          exact c_zret (v := 0) hx hb hr (by first | rfl | decide) hI (⟨Or.inr (Or.inl ⟨by omega, rdP_no hcv ⟨by simp [rO, rP, ← hcv, c4_3, (inB_yes t39), (nxB_yes t39 (by decide)), n42], by simp [rO, rP, ← hcv, c4_3, (inB_yes t39), (nxB_yes t39 (by decide)), n42]⟩ (by omega)⟩), rfl⟩) dX2_readNext_174 hlocks
      · skip
        rw [hc9] at hI
        subst hr9
        exact absurd (hcv.symm.trans c4_3) t39
    by_cases c4_4 : cv = 115
    · rw [c4_4]
      refine lv_lookup (tgt := 220) (off := 183) hx hb dX2_readNext_37 (by decide +kernel) (by decide +kernel) (by decide) ?_
      refine lv_aload_n hx hb dX2_readNext_220 rfl (lv_at hl 0 rfl) ?_
      refine lv_bipush (v := 115) hx hb dX2_readNext_221 (by decide) ?_
      refine c_calli (As := [.int 115]) (rest := []) hx hb hml hown hts hK hX hI 5 (by omega) cE_5 rfl (k_X2_take l dd g ad pi A hA (pdM (mset C 10 3 cv) pp 0 (C 13)) len pp hl80 (by omega) (((pdM_o (by decide) (by decide)).trans ((mset_nj _ (by decide) _ _).trans hl1))) pdM_q (by simp only [mset_ne _ (show (12 : Nat) ≠ 10 by decide), mset_ne _ (show (12 : Nat) ≠ 13 by decide), pdM_ne (show (12 : Nat) ≠ 10 by decide) (show (12 : Nat) ≠ 13 by decide)]; exact hch) 115) (cwV 1 hts gX2_readNext_X2_take rfl rfl rfl (by decide +kernel) ⟨Nat.le_of_ble_eq_true rfl, Nat.le_of_ble_eq_true rfl⟩) rfl hl (Nat.le_of_ble_eq_true rfl) ⟨Nat.zero_le _, Nat.zero_le _⟩ dX2_readNext_223 rfl (fun r C1 pi1 H locs h47 hI => ?_)
      simp only [mset_ne _ (show (12 : Nat) ≠ 10 by decide), mset_ne _ (show (12 : Nat) ≠ 13 by decide), pdM_ne (show (12 : Nat) ≠ 10 by decide) (show (12 : Nat) ≠ 13 by decide)] at h47
      obtain ⟨h47, hp9⟩ := h47
      rw [hp9] at hI
      rcases h47 with ⟨t46, hr9, hc9⟩ | ⟨t46, hr9, hc9⟩
      · skip
        rw [pdM_tk] at hc9
        rw [hc9] at hI
        subst hr9
        have l_t46 := chr_lt t46 (by decide)
        exact c_zret (v := 1) hx hb hr (by first | rfl | decide) hI (⟨Or.inr (Or.inl ⟨by omega, rdP_ok hcv ⟨by simp [rO, rP, ← hcv, c4_4, (inB_yes t46), (nxB_yes t46 (by decide))], by simp [rO, rP, ← hcv, c4_4, (inB_yes t46), (nxB_yes t46 (by decide))]⟩ (by omega) (by unfold nmS; simp [upd, rO, rP, ← hcv, c4_4, (inB_yes t46), (nxB_yes t46 (by decide))]; try simp [upd])⟩), rfl⟩) dX2_readNext_226 hlocks
      · skip
        rw [hc9] at hI
        subst hr9
        exact absurd (hcv.symm.trans c4_4) t46
    by_cases c4_5 : cv = 116
    · rw [c4_5]
      refine lv_lookup (tgt := 197) (off := 160) hx hb dX2_readNext_37 (by decide +kernel) (by decide +kernel) (by decide) ?_
      refine lv_aload_n hx hb dX2_readNext_197 rfl (lv_at hl 0 rfl) ?_
      refine lv_bipush (v := 116) hx hb dX2_readNext_198 (by decide) ?_
      refine c_calli (As := [.int 116]) (rest := []) hx hb hml hown hts hK hX hI 5 (by omega) cE_5 rfl (k_X2_take l dd g ad pi A hA (pdM (mset C 10 3 cv) pp 0 (C 13)) len pp hl80 (by omega) (((pdM_o (by decide) (by decide)).trans ((mset_nj _ (by decide) _ _).trans hl1))) pdM_q (by simp only [mset_ne _ (show (12 : Nat) ≠ 10 by decide), mset_ne _ (show (12 : Nat) ≠ 13 by decide), pdM_ne (show (12 : Nat) ≠ 10 by decide) (show (12 : Nat) ≠ 13 by decide)]; exact hch) 116) (cwV 1 hts gX2_readNext_X2_take rfl rfl rfl (by decide +kernel) ⟨Nat.le_of_ble_eq_true rfl, Nat.le_of_ble_eq_true rfl⟩) rfl hl (Nat.le_of_ble_eq_true rfl) ⟨Nat.zero_le _, Nat.zero_le _⟩ dX2_readNext_200 rfl (fun r C1 pi1 H locs h49 hI => ?_)
      simp only [mset_ne _ (show (12 : Nat) ≠ 10 by decide), mset_ne _ (show (12 : Nat) ≠ 13 by decide), pdM_ne (show (12 : Nat) ≠ 10 by decide) (show (12 : Nat) ≠ 13 by decide)] at h49
      obtain ⟨h49, hp9⟩ := h49
      rw [hp9] at hI
      rcases h49 with ⟨t48, hr9, hc9⟩ | ⟨t48, hr9, hc9⟩
      · skip
        rw [pdM_tk] at hc9
        rw [hc9] at hI
        subst hr9
        have l_t48 := chr_lt t48 (by decide)
        refine lv_if_eq (tgt := 218) hx hb dX2_readNext_203 (by decide) (fun c50 => absurd c50 (by decide)) (fun _ => ?_)
        refine lv_aload_n hx hb dX2_readNext_206 rfl (lv_at hl 0 rfl) ?_
        refine lv_iconst (v := 1) hx hb dX2_readNext_207 (by decide) ?_
        refine c_calli (As := [.int 1]) (rest := []) hx hb hml hown hts hK hX hI 5 (by omega) cE_5 rfl (k_X2_readNumber l dd g ad pi A hA (pdM (mset C 10 3 cv) (pp + 1) 0 (C 13)) len (pp + 1) hl80 (by omega) (((pdM_o (by decide) (by decide)).trans ((mset_nj _ (by decide) _ _).trans hl1))) pdM_q (by simp only [mset_ne _ (show (12 : Nat) ≠ 10 by decide), mset_ne _ (show (12 : Nat) ≠ 13 by decide), pdM_ne (show (12 : Nat) ≠ 10 by decide) (show (12 : Nat) ≠ 13 by decide)]; exact hch) 0 (by omega) pdM_L 1) (cwV 1 hts gX2_readNext_X2_readNumber rfl rfl rfl (by decide +kernel) ⟨Nat.le_of_ble_eq_true rfl, Nat.le_of_ble_eq_true rfl⟩) rfl hl (Nat.le_of_ble_eq_true rfl) ⟨Nat.zero_le _, Nat.zero_le _⟩ dX2_readNext_208 rfl (fun r C1 pi1 H locs h52 hI => ?_)
        simp only [mset_ne _ (show (12 : Nat) ≠ 10 by decide), mset_ne _ (show (12 : Nat) ≠ 13 by decide), pdM_ne (show (12 : Nat) ≠ 10 by decide) (show (12 : Nat) ≠ 13 by decide)] at h52
        obtain ⟨h52, hp9⟩ := h52
        rw [hp9] at hI
        rcases h52 with ⟨vn51, pn51, n51, hr9, hc9⟩ | ⟨n51, hr9, hc9⟩
        · skip
          simp only [pdM_pdM, pdM_13, Int32.mul_one, mulm1] at hc9
          rw [hc9] at hI
          subst hr9
          have l_n51 := rN_place n51
          refine lv_if_eq (tgt := 218) hx hb dX2_readNext_211 (by decide) (fun c53 => absurd c53 (by decide)) (fun _ => ?_)
          refine lv_iconst (v := 1) hx hb dX2_readNext_214 (by decide) ?_
          refine lv_goto (tgt := 219) hx hb dX2_readNext_215 (by decide) ?_
          exact c_zret (v := 1) hx hb hr (by first | rfl | decide) hI (⟨Or.inr (Or.inl ⟨by omega, rdP_ok hcv ⟨by simp [rO, rP, ← hcv, c4_5, (inB_yes t48), (nxB_yes t48 (by decide)), n51], by simp [rO, rP, ← hcv, c4_5, (inB_yes t48), (nxB_yes t48 (by decide)), n51]⟩ (by omega) (by unfold nmS; simp [upd, rO, rP, ← hcv, c4_5, (inB_yes t48), (nxB_yes t48 (by decide)), n51]; try simp [upd])⟩), rfl⟩) dX2_readNext_219 hlocks
        · skip
          rw [hc9] at hI
          subst hr9
          refine lv_if_eq (tgt := 218) hx hb dX2_readNext_211 (by decide) (fun _ => ?_) (fun c54 => absurd (by decide) c54)
          refine lv_iconst (v := 0) hx hb dX2_readNext_218 (by decide) ?_
          exact c_zret (v := 0) hx hb hr (by first | rfl | decide) hI (⟨Or.inr (Or.inl ⟨by omega, rdP_no hcv ⟨by simp [rO, rP, ← hcv, c4_5, (inB_yes t48), (nxB_yes t48 (by decide)), n51], by simp [rO, rP, ← hcv, c4_5, (inB_yes t48), (nxB_yes t48 (by decide)), n51]⟩ (by omega)⟩), rfl⟩) dX2_readNext_219 hlocks
      · skip
        rw [hc9] at hI
        subst hr9
        exact absurd (hcv.symm.trans c4_5) t48
    refine lv_lookup (tgt := 234) (off := 197) hx hb dX2_readNext_37 (by decide +kernel) (by show Op.lookupswitch.offset [(43, 59), (97, 190), (98, 138), (108, 115), (115, 183), (116, 160)] _ _ = _; rw [lv_osw (a := 43) c4_0 (by decide), lv_osw (a := 97) c4_1 (by decide), lv_osw (a := 98) c4_2 (by decide), lv_osw (a := 108) c4_3 (by decide), lv_osw (a := 115) c4_4 (by decide), lv_osw (a := 116) c4_5 (by decide)]; rfl) (by decide) ?_
    refine lv_iconst (v := 0) hx hb dX2_readNext_234 (by decide) ?_
    exact c_zret (v := 0) hx hb hr (by first | rfl | decide) hI (⟨Or.inr (Or.inl ⟨by omega, rdP_no hcv ⟨by simp [rO, ← hcv, c4_0, c4_1, c4_2, c4_3, c4_4, c4_5], by simp [rO, ← hcv, c4_0, c4_1, c4_2, c4_3, c4_4, c4_5]⟩ (by omega)⟩), rfl⟩) dX2_readNext_235 hlocks
  · skip
    have nc1 : ¬ (pp ≤ 0) := fun h => c1 ((nI_leI (a := pp) (b := 0) (by omega) (by omega)).mpr h)
    refine lv_aload_n hx hb dX2_readNext_7 rfl (lv_at hl 0 rfl) ?_
    refine lv_bipush (v := 59) hx hb dX2_readNext_8 (by decide) ?_
    refine c_calli (As := [.int 59]) (rest := []) hx hb hml hown hts hK hX hI 5 (by omega) cE_5 rfl (k_X2_take l dd g ad pi A hA C len pp hl80 (by omega) hl1 hp2 hch 59) (cwV 1 hts gX2_readNext_X2_take rfl rfl rfl (by decide +kernel) ⟨Nat.le_of_ble_eq_true rfl, Nat.le_of_ble_eq_true rfl⟩) rfl hl (Nat.le_of_ble_eq_true rfl) ⟨Nat.zero_le _, Nat.zero_le _⟩ dX2_readNext_10 rfl (fun r C1 pi1 H locs h56 hI => ?_)
    obtain ⟨h56, hp9⟩ := h56
    rw [hp9] at hI
    rcases h56 with ⟨t55, hr9, hc9⟩ | ⟨t55, hr9, hc9⟩
    · skip
      rw [hc9] at hI
      subst hr9
      have l_t55 := chr_lt t55 (by decide)
      refine lv_if_ne (tgt := 18) hx hb dX2_readNext_13 (by decide) (fun _ => ?_) (fun c57 => absurd c57 (by decide))
      refine lv_aload_n hx hb dX2_readNext_18 rfl (lv_at hl 0 rfl) ?_
      refine c_get hx hb hts hown hK hI 5 (by omega) cE_5 rfl hinX2 1 (by decide) (hts (.fieldLink RX2 18 "WinderLadders$Pad" "numbers" "LWinderLadders$Row;") (by decide +kernel)) (v := .ref (ad 7)) rfl dX2_readNext_19 ?_
      refine c_callv (As := []) (rest := []) hx hb hml hown hts hK hX hI 7 (by omega) cE_7 rfl (k_X3_clear_p l dd g ad pi A hA (mset C 10 (2) (nI (pp + 1)))) (cwV 0 hts gX2_readNext_X3_clear rfl rfl rfl (by decide +kernel) ⟨Nat.le_of_ble_eq_true rfl, Nat.le_of_ble_eq_true rfl⟩) rfl hl (Nat.le_of_ble_eq_true rfl) ⟨Nat.zero_le _, Nat.zero_le _⟩ dX2_readNext_22 rfl (fun C1 pi1 H locs h58 hI => ?_)
      obtain ⟨hc9, hp9⟩ := h58
      rw [hc9, hp9] at hI
      refine lv_aload_n hx hb dX2_readNext_25 rfl (lv_at hl 0 rfl) ?_
      refine lv_aload_n hx hb dX2_readNext_26 rfl (lv_at hl 0 rfl) ?_
      refine c_calli (As := []) (rest := [.ref (ad 5)]) hx hb hml hown hts hK hX hI 5 (by omega) cE_5 rfl (k_X2_here l dd g ad pi A hA (mset (mset C 10 (2) (nI (pp + 1))) 10 (4) (0)) len (pp + 1) hl80 (by omega) ((mset_nj _ (by omega) _ _).trans ((mset_nj _ (by omega) _ _).trans (hl1))) ((mset_nj _ (by omega) _ _).trans (mset_eq _ _ _ _)) (by simp only [mset_ne _ (show (12 : Nat) ≠ 10 by decide), mset_ne _ (show (12 : Nat) ≠ 13 by decide), pdM_ne (show (12 : Nat) ≠ 10 by decide) (show (12 : Nat) ≠ 13 by decide)]; exact hch)) (cwV 0 hts gX2_readNext_X2_here rfl rfl rfl (by decide +kernel) ⟨Nat.le_of_ble_eq_true rfl, Nat.le_of_ble_eq_true rfl⟩) rfl hl (Nat.le_of_ble_eq_true rfl) ⟨Nat.zero_le _, Nat.zero_le _⟩ dX2_readNext_27 rfl (fun r C1 pi1 H locs h59 hI => ?_)
      simp only [mset_ne _ (show (12 : Nat) ≠ 10 by decide), mset_ne _ (show (12 : Nat) ≠ 13 by decide), pdM_ne (show (12 : Nat) ≠ 10 by decide) (show (12 : Nat) ≠ 13 by decide)] at h59
      obtain ⟨hr9, hc9, hp9⟩ := h59
      rw [hc9, hp9] at hI
      subst hr9
      obtain ⟨cv, hcv⟩ : ∃ z, z = chr (C 12) len (pp + 1) := ⟨_, rfl⟩
      refine lv_re (y := cv) hcv.symm ?_
      refine c_putP hx hb hts hinX2 hown hK hA hI 3 4 (by decide) (hts (.fieldLink RX2 47 "WinderLadders$Pad" "kind" "I") (by decide +kernel)) dX2_readNext_30 (fun H locs hI => ?_)
      rw [pdM_k1] at hI
      refine lv_aload_n hx hb dX2_readNext_33 rfl (lv_at hl 0 rfl) ?_
      refine c_get hx hb hts hown hK hI 5 (by omega) cE_5 rfl hinX2 4 (by decide) (hts (.fieldLink RX2 47 "WinderLadders$Pad" "kind" "I") (by decide +kernel)) (v := .int cv) (congrArg (fun z => some (Value.int z)) (((pdM_o (by decide) (by decide)).trans (mset_eq _ _ _ _)))) dX2_readNext_34 ?_
      by_cases c60_0 : cv = 43
      · rw [c60_0]
        refine lv_lookup (tgt := 96) (off := 59) hx hb dX2_readNext_37 (by decide +kernel) (by decide +kernel) (by decide) ?_
        refine lv_aload_n hx hb dX2_readNext_96 rfl (lv_at hl 0 rfl) ?_
        refine lv_bipush (v := 43) hx hb dX2_readNext_97 (by decide) ?_
        refine c_calli (As := [.int 43]) (rest := []) hx hb hml hown hts hK hX hI 5 (by omega) cE_5 rfl (k_X2_take l dd g ad pi A hA (pdM (mset C 10 3 cv) (pp + 1) 0 (C 13)) len (pp + 1) hl80 (by omega) (((pdM_o (by decide) (by decide)).trans ((mset_nj _ (by decide) _ _).trans hl1))) pdM_q (by simp only [mset_ne _ (show (12 : Nat) ≠ 10 by decide), mset_ne _ (show (12 : Nat) ≠ 13 by decide), pdM_ne (show (12 : Nat) ≠ 10 by decide) (show (12 : Nat) ≠ 13 by decide)]; exact hch) 43) (cwV 1 hts gX2_readNext_X2_take rfl rfl rfl (by decide +kernel) ⟨Nat.le_of_ble_eq_true rfl, Nat.le_of_ble_eq_true rfl⟩) rfl hl (Nat.le_of_ble_eq_true rfl) ⟨Nat.zero_le _, Nat.zero_le _⟩ dX2_readNext_99 rfl (fun r C1 pi1 H locs h62 hI => ?_)
        simp only [mset_ne _ (show (12 : Nat) ≠ 10 by decide), mset_ne _ (show (12 : Nat) ≠ 13 by decide), pdM_ne (show (12 : Nat) ≠ 10 by decide) (show (12 : Nat) ≠ 13 by decide)] at h62
        obtain ⟨h62, hp9⟩ := h62
        rw [hp9] at hI
        rcases h62 with ⟨t61, hr9, hc9⟩ | ⟨t61, hr9, hc9⟩
        · skip
          rw [pdM_tk] at hc9
          rw [hc9] at hI
          subst hr9
          have l_t61 := chr_lt t61 (by decide)
          refine lv_if_eq (tgt := 150) hx hb dX2_readNext_102 (by decide) (fun c63 => absurd c63 (by decide)) (fun _ => ?_)
          refine lv_aload_n hx hb dX2_readNext_105 rfl (lv_at hl 0 rfl) ?_
          refine lv_iconst (v := 1) hx hb dX2_readNext_106 (by decide) ?_
          refine c_calli (As := [.int 1]) (rest := []) hx hb hml hown hts hK hX hI 5 (by omega) cE_5 rfl (k_X2_readNumber l dd g ad pi A hA (pdM (mset C 10 3 cv) (pp + 1 + 1) 0 (C 13)) len (pp + 1 + 1) hl80 (by omega) (((pdM_o (by decide) (by decide)).trans ((mset_nj _ (by decide) _ _).trans hl1))) pdM_q (by simp only [mset_ne _ (show (12 : Nat) ≠ 10 by decide), mset_ne _ (show (12 : Nat) ≠ 13 by decide), pdM_ne (show (12 : Nat) ≠ 10 by decide) (show (12 : Nat) ≠ 13 by decide)]; exact hch) 0 (by omega) pdM_L 1) (cwV 1 hts gX2_readNext_X2_readNumber rfl rfl rfl (by decide +kernel) ⟨Nat.le_of_ble_eq_true rfl, Nat.le_of_ble_eq_true rfl⟩) rfl hl (Nat.le_of_ble_eq_true rfl) ⟨Nat.zero_le _, Nat.zero_le _⟩ dX2_readNext_107 rfl (fun r C1 pi1 H locs h65 hI => ?_)
          simp only [mset_ne _ (show (12 : Nat) ≠ 10 by decide), mset_ne _ (show (12 : Nat) ≠ 13 by decide), pdM_ne (show (12 : Nat) ≠ 10 by decide) (show (12 : Nat) ≠ 13 by decide)] at h65
          obtain ⟨h65, hp9⟩ := h65
          rw [hp9] at hI
          rcases h65 with ⟨vn64, pn64, n64, hr9, hc9⟩ | ⟨n64, hr9, hc9⟩
          · skip
            simp only [pdM_pdM, pdM_13, Int32.mul_one, mulm1] at hc9
            rw [hc9] at hI
            subst hr9
            have l_n64 := rN_place n64
            refine lv_if_eq (tgt := 150) hx hb dX2_readNext_110 (by decide) (fun c66 => absurd c66 (by decide)) (fun _ => ?_)
            refine lv_aload_n hx hb dX2_readNext_113 rfl (lv_at hl 0 rfl) ?_
            refine lv_bipush (v := 94) hx hb dX2_readNext_114 (by decide) ?_
            refine c_calli (As := [.int 94]) (rest := []) hx hb hml hown hts hK hX hI 5 (by omega) cE_5 rfl (k_X2_take l dd g ad pi A hA (pdM (mset C 10 3 cv) pn64 (0 + 1) (upd (C 13) 0 (vn64))) len pn64 hl80 (by omega) (((pdM_o (by decide) (by decide)).trans ((mset_nj _ (by decide) _ _).trans hl1))) pdM_q (by simp only [mset_ne _ (show (12 : Nat) ≠ 10 by decide), mset_ne _ (show (12 : Nat) ≠ 13 by decide), pdM_ne (show (12 : Nat) ≠ 10 by decide) (show (12 : Nat) ≠ 13 by decide)]; exact hch) 94) (cwV 1 hts gX2_readNext_X2_take rfl rfl rfl (by decide +kernel) ⟨Nat.le_of_ble_eq_true rfl, Nat.le_of_ble_eq_true rfl⟩) rfl hl (Nat.le_of_ble_eq_true rfl) ⟨Nat.zero_le _, Nat.zero_le _⟩ dX2_readNext_116 rfl (fun r C1 pi1 H locs h68 hI => ?_)
            simp only [mset_ne _ (show (12 : Nat) ≠ 10 by decide), mset_ne _ (show (12 : Nat) ≠ 13 by decide), pdM_ne (show (12 : Nat) ≠ 10 by decide) (show (12 : Nat) ≠ 13 by decide)] at h68
            obtain ⟨h68, hp9⟩ := h68
            rw [hp9] at hI
            rcases h68 with ⟨t67, hr9, hc9⟩ | ⟨t67, hr9, hc9⟩
            · skip
              rw [pdM_tk] at hc9
              rw [hc9] at hI
              subst hr9
              have l_t67 := chr_lt t67 (by decide)
              refine lv_if_eq (tgt := 150) hx hb dX2_readNext_119 (by decide) (fun c69 => absurd c69 (by decide)) (fun _ => ?_)
              refine lv_aload_n hx hb dX2_readNext_122 rfl (lv_at hl 0 rfl) ?_
              refine lv_iconst (v := 1) hx hb dX2_readNext_123 (by decide) ?_
              refine c_calli (As := [.int 1]) (rest := []) hx hb hml hown hts hK hX hI 5 (by omega) cE_5 rfl (k_X2_readNumber l dd g ad pi A hA (pdM (mset C 10 3 cv) (pn64 + 1) (0 + 1) (upd (C 13) 0 (vn64))) len (pn64 + 1) hl80 (by omega) (((pdM_o (by decide) (by decide)).trans ((mset_nj _ (by decide) _ _).trans hl1))) pdM_q (by simp only [mset_ne _ (show (12 : Nat) ≠ 10 by decide), mset_ne _ (show (12 : Nat) ≠ 13 by decide), pdM_ne (show (12 : Nat) ≠ 10 by decide) (show (12 : Nat) ≠ 13 by decide)]; exact hch) (0 + 1) (by omega) pdM_L 1) (cwV 1 hts gX2_readNext_X2_readNumber rfl rfl rfl (by decide +kernel) ⟨Nat.le_of_ble_eq_true rfl, Nat.le_of_ble_eq_true rfl⟩) rfl hl (Nat.le_of_ble_eq_true rfl) ⟨Nat.zero_le _, Nat.zero_le _⟩ dX2_readNext_124 rfl (fun r C1 pi1 H locs h71 hI => ?_)
              simp only [mset_ne _ (show (12 : Nat) ≠ 10 by decide), mset_ne _ (show (12 : Nat) ≠ 13 by decide), pdM_ne (show (12 : Nat) ≠ 10 by decide) (show (12 : Nat) ≠ 13 by decide)] at h71
              obtain ⟨h71, hp9⟩ := h71
              rw [hp9] at hI
              rcases h71 with ⟨vn70, pn70, n70, hr9, hc9⟩ | ⟨n70, hr9, hc9⟩
              · skip
                simp only [pdM_pdM, pdM_13, Int32.mul_one, mulm1] at hc9
                rw [hc9] at hI
                subst hr9
                have l_n70 := rN_place n70
                refine lv_if_eq (tgt := 150) hx hb dX2_readNext_127 (by decide) (fun c72 => absurd c72 (by decide)) (fun _ => ?_)
                refine lv_aload_n hx hb dX2_readNext_130 rfl (lv_at hl 0 rfl) ?_
                refine lv_bipush (v := 126) hx hb dX2_readNext_131 (by decide) ?_
                refine c_calli (As := [.int 126]) (rest := []) hx hb hml hown hts hK hX hI 5 (by omega) cE_5 rfl (k_X2_take l dd g ad pi A hA (pdM (mset C 10 3 cv) pn70 (0 + 1 + 1) (upd (upd (C 13) 0 (vn64)) (0 + 1) (vn70))) len pn70 hl80 (by omega) (((pdM_o (by decide) (by decide)).trans ((mset_nj _ (by decide) _ _).trans hl1))) pdM_q (by simp only [mset_ne _ (show (12 : Nat) ≠ 10 by decide), mset_ne _ (show (12 : Nat) ≠ 13 by decide), pdM_ne (show (12 : Nat) ≠ 10 by decide) (show (12 : Nat) ≠ 13 by decide)]; exact hch) 126) (cwV 1 hts gX2_readNext_X2_take rfl rfl rfl (by decide +kernel) ⟨Nat.le_of_ble_eq_true rfl, Nat.le_of_ble_eq_true rfl⟩) rfl hl (Nat.le_of_ble_eq_true rfl) ⟨Nat.zero_le _, Nat.zero_le _⟩ dX2_readNext_133 rfl (fun r C1 pi1 H locs h74 hI => ?_)
                simp only [mset_ne _ (show (12 : Nat) ≠ 10 by decide), mset_ne _ (show (12 : Nat) ≠ 13 by decide), pdM_ne (show (12 : Nat) ≠ 10 by decide) (show (12 : Nat) ≠ 13 by decide)] at h74
                obtain ⟨h74, hp9⟩ := h74
                rw [hp9] at hI
                rcases h74 with ⟨t73, hr9, hc9⟩ | ⟨t73, hr9, hc9⟩
                · skip
                  rw [pdM_tk] at hc9
                  rw [hc9] at hI
                  subst hr9
                  have l_t73 := chr_lt t73 (by decide)
                  refine lv_if_eq (tgt := 150) hx hb dX2_readNext_136 (by decide) (fun c75 => absurd c75 (by decide)) (fun _ => ?_)
                  refine lv_aload_n hx hb dX2_readNext_139 rfl (lv_at hl 0 rfl) ?_
                  refine c_calli (As := []) (rest := []) hx hb hml hown hts hK hX hI 5 (by omega) cE_5 rfl (k_X2_readValue l dd g ad pi A hA (pdM (mset C 10 3 cv) (pn70 + 1) (0 + 1 + 1) (upd (upd (C 13) 0 (vn64)) (0 + 1) (vn70))) len (pn70 + 1) hl80 (by omega) (((pdM_o (by decide) (by decide)).trans ((mset_nj _ (by decide) _ _).trans hl1))) pdM_q (by simp only [mset_ne _ (show (12 : Nat) ≠ 10 by decide), mset_ne _ (show (12 : Nat) ≠ 13 by decide), pdM_ne (show (12 : Nat) ≠ 10 by decide) (show (12 : Nat) ≠ 13 by decide)]; exact hch) (0 + 1 + 1) (by omega) pdM_L) (cwV 0 hts gX2_readNext_X2_readValue rfl rfl rfl (by decide +kernel) ⟨Nat.le_of_ble_eq_true rfl, Nat.le_of_ble_eq_true rfl⟩) rfl hl (Nat.le_of_ble_eq_true rfl) ⟨Nat.zero_le _, Nat.zero_le _⟩ dX2_readNext_140 rfl (fun r C1 pi1 H locs h77 hI => ?_)
                  simp only [mset_ne _ (show (12 : Nat) ≠ 10 by decide), mset_ne _ (show (12 : Nat) ≠ 13 by decide), pdM_ne (show (12 : Nat) ≠ 10 by decide) (show (12 : Nat) ≠ 13 by decide)] at h77
                  obtain ⟨h77, hp9⟩ := h77
                  rw [hp9] at hI
                  rcases h77 with ⟨tn76, ⟨vn76, pn76, n76, hr9, hc9⟩ | ⟨n76, hr9, hc9⟩⟩ | ⟨tn76, ⟨vn76, pn76, n76, hr9, hc9⟩ | ⟨n76, hr9, hc9⟩⟩
                  · skip
                    simp only [pdM_pdM, pdM_13] at hc9
                    rw [hc9] at hI
                    subst hr9
                    have l_n76 := rN_place n76
                    refine lv_if_eq (tgt := 150) hx hb dX2_readNext_143 (by decide) (fun c78 => absurd c78 (by decide)) (fun _ => ?_)
                    refine lv_iconst (v := 1) hx hb dX2_readNext_146 (by decide) ?_
                    refine lv_goto (tgt := 151) hx hb dX2_readNext_147 (by decide) ?_
                    exact c_zret (v := 1) hx hb hr (by first | rfl | decide) hI (⟨Or.inr (Or.inr ⟨by omega, t55, rdP_ok hcv ⟨by simp [rO, rP, ← hcv, c60_0, (inB_yes t61), (nxB_yes t61 (by decide)), n64, (inB_yes t67), (nxB_yes t67 (by decide)), n70, (inB_yes t73), (nxB_yes t73 (by decide)), (inB_yes tn76), (nxB_yes tn76 (by decide)), n76], by simp [rO, rP, ← hcv, c60_0, (inB_yes t61), (nxB_yes t61 (by decide)), n64, (inB_yes t67), (nxB_yes t67 (by decide)), n70, (inB_yes t73), (nxB_yes t73 (by decide)), (inB_yes tn76), (nxB_yes tn76 (by decide)), n76]⟩ (by omega) (by unfold nmS; simp [upd, rO, rP, ← hcv, c60_0, (inB_yes t61), (nxB_yes t61 (by decide)), n64, (inB_yes t67), (nxB_yes t67 (by decide)), n70, (inB_yes t73), (nxB_yes t73 (by decide)), (inB_yes tn76), (nxB_yes tn76 (by decide)), n76]; try simp [upd])⟩), rfl⟩) dX2_readNext_151 hlocks
                  · skip
                    simp only [pdM_pdM, pdM_13] at hc9
                    rw [hc9] at hI
                    subst hr9
                    refine lv_if_eq (tgt := 150) hx hb dX2_readNext_143 (by decide) (fun _ => ?_) (fun c79 => absurd (by decide) c79)
                    refine lv_iconst (v := 0) hx hb dX2_readNext_150 (by decide) ?_
                    exact c_zret (v := 0) hx hb hr (by first | rfl | decide) hI (⟨Or.inr (Or.inr ⟨by omega, t55, rdP_no hcv ⟨by simp [rO, rP, ← hcv, c60_0, (inB_yes t61), (nxB_yes t61 (by decide)), n64, (inB_yes t67), (nxB_yes t67 (by decide)), n70, (inB_yes t73), (nxB_yes t73 (by decide)), (inB_yes tn76), (nxB_yes tn76 (by decide)), n76], by simp [rO, rP, ← hcv, c60_0, (inB_yes t61), (nxB_yes t61 (by decide)), n64, (inB_yes t67), (nxB_yes t67 (by decide)), n70, (inB_yes t73), (nxB_yes t73 (by decide)), (inB_yes tn76), (nxB_yes tn76 (by decide)), n76]⟩ (by omega)⟩), rfl⟩) dX2_readNext_151 hlocks
                  · skip
                    simp only [pdM_pdM, pdM_13] at hc9
                    rw [hc9] at hI
                    subst hr9
                    have l_n76 := rN_place n76
                    refine lv_if_eq (tgt := 150) hx hb dX2_readNext_143 (by decide) (fun c80 => absurd c80 (by decide)) (fun _ => ?_)
                    refine lv_iconst (v := 1) hx hb dX2_readNext_146 (by decide) ?_
                    refine lv_goto (tgt := 151) hx hb dX2_readNext_147 (by decide) ?_
                    exact c_zret (v := 1) hx hb hr (by first | rfl | decide) hI (⟨Or.inr (Or.inr ⟨by omega, t55, rdP_ok hcv ⟨by simp [rO, rP, ← hcv, c60_0, (inB_yes t61), (nxB_yes t61 (by decide)), n64, (inB_yes t67), (nxB_yes t67 (by decide)), n70, (inB_yes t73), (nxB_yes t73 (by decide)), (inB_no tn76), (nxB_no tn76 (by decide)), n76], by simp [rO, rP, ← hcv, c60_0, (inB_yes t61), (nxB_yes t61 (by decide)), n64, (inB_yes t67), (nxB_yes t67 (by decide)), n70, (inB_yes t73), (nxB_yes t73 (by decide)), (inB_no tn76), (nxB_no tn76 (by decide)), n76]⟩ (by omega) (by unfold nmS; simp [upd, rO, rP, ← hcv, c60_0, (inB_yes t61), (nxB_yes t61 (by decide)), n64, (inB_yes t67), (nxB_yes t67 (by decide)), n70, (inB_yes t73), (nxB_yes t73 (by decide)), (inB_no tn76), (nxB_no tn76 (by decide)), n76]; try simp [upd])⟩), rfl⟩) dX2_readNext_151 hlocks
                  · skip
                    simp only [pdM_pdM, pdM_13] at hc9
                    rw [hc9] at hI
                    subst hr9
                    refine lv_if_eq (tgt := 150) hx hb dX2_readNext_143 (by decide) (fun _ => ?_) (fun c81 => absurd (by decide) c81)
                    refine lv_iconst (v := 0) hx hb dX2_readNext_150 (by decide) ?_
                    exact c_zret (v := 0) hx hb hr (by first | rfl | decide) hI (⟨Or.inr (Or.inr ⟨by omega, t55, rdP_no hcv ⟨by simp [rO, rP, ← hcv, c60_0, (inB_yes t61), (nxB_yes t61 (by decide)), n64, (inB_yes t67), (nxB_yes t67 (by decide)), n70, (inB_yes t73), (nxB_yes t73 (by decide)), (inB_no tn76), (nxB_no tn76 (by decide)), n76], by simp [rO, rP, ← hcv, c60_0, (inB_yes t61), (nxB_yes t61 (by decide)), n64, (inB_yes t67), (nxB_yes t67 (by decide)), n70, (inB_yes t73), (nxB_yes t73 (by decide)), (inB_no tn76), (nxB_no tn76 (by decide)), n76]⟩ (by omega)⟩), rfl⟩) dX2_readNext_151 hlocks
                · skip
                  rw [hc9] at hI
                  subst hr9
                  refine lv_if_eq (tgt := 150) hx hb dX2_readNext_136 (by decide) (fun _ => ?_) (fun c82 => absurd (by decide) c82)
                  refine lv_iconst (v := 0) hx hb dX2_readNext_150 (by decide) ?_
                  exact c_zret (v := 0) hx hb hr (by first | rfl | decide) hI (⟨Or.inr (Or.inr ⟨by omega, t55, rdP_no hcv ⟨by simp [rO, rP, ← hcv, c60_0, (inB_yes t61), (nxB_yes t61 (by decide)), n64, (inB_yes t67), (nxB_yes t67 (by decide)), n70, (inB_no t73), (nxB_no t73 (by decide))], by simp [rO, rP, ← hcv, c60_0, (inB_yes t61), (nxB_yes t61 (by decide)), n64, (inB_yes t67), (nxB_yes t67 (by decide)), n70, (inB_no t73), (nxB_no t73 (by decide))]⟩ (by omega)⟩), rfl⟩) dX2_readNext_151 hlocks
              · skip
                rw [hc9] at hI
                subst hr9
                refine lv_if_eq (tgt := 150) hx hb dX2_readNext_127 (by decide) (fun _ => ?_) (fun c83 => absurd (by decide) c83)
                refine lv_iconst (v := 0) hx hb dX2_readNext_150 (by decide) ?_
                exact c_zret (v := 0) hx hb hr (by first | rfl | decide) hI (⟨Or.inr (Or.inr ⟨by omega, t55, rdP_no hcv ⟨by simp [rO, rP, ← hcv, c60_0, (inB_yes t61), (nxB_yes t61 (by decide)), n64, (inB_yes t67), (nxB_yes t67 (by decide)), n70], by simp [rO, rP, ← hcv, c60_0, (inB_yes t61), (nxB_yes t61 (by decide)), n64, (inB_yes t67), (nxB_yes t67 (by decide)), n70]⟩ (by omega)⟩), rfl⟩) dX2_readNext_151 hlocks
            · skip
              rw [hc9] at hI
              subst hr9
              refine lv_if_eq (tgt := 150) hx hb dX2_readNext_119 (by decide) (fun _ => ?_) (fun c84 => absurd (by decide) c84)
              refine lv_iconst (v := 0) hx hb dX2_readNext_150 (by decide) ?_
              exact c_zret (v := 0) hx hb hr (by first | rfl | decide) hI (⟨Or.inr (Or.inr ⟨by omega, t55, rdP_no hcv ⟨by simp [rO, rP, ← hcv, c60_0, (inB_yes t61), (nxB_yes t61 (by decide)), n64, (inB_no t67), (nxB_no t67 (by decide))], by simp [rO, rP, ← hcv, c60_0, (inB_yes t61), (nxB_yes t61 (by decide)), n64, (inB_no t67), (nxB_no t67 (by decide))]⟩ (by omega)⟩), rfl⟩) dX2_readNext_151 hlocks
          · skip
            rw [hc9] at hI
            subst hr9
            refine lv_if_eq (tgt := 150) hx hb dX2_readNext_110 (by decide) (fun _ => ?_) (fun c85 => absurd (by decide) c85)
            refine lv_iconst (v := 0) hx hb dX2_readNext_150 (by decide) ?_
            exact c_zret (v := 0) hx hb hr (by first | rfl | decide) hI (⟨Or.inr (Or.inr ⟨by omega, t55, rdP_no hcv ⟨by simp [rO, rP, ← hcv, c60_0, (inB_yes t61), (nxB_yes t61 (by decide)), n64], by simp [rO, rP, ← hcv, c60_0, (inB_yes t61), (nxB_yes t61 (by decide)), n64]⟩ (by omega)⟩), rfl⟩) dX2_readNext_151 hlocks
        · skip
          rw [hc9] at hI
          subst hr9
          exact absurd (hcv.symm.trans c60_0) t61
      by_cases c60_1 : cv = 97
      · rw [c60_1]
        refine lv_lookup (tgt := 227) (off := 190) hx hb dX2_readNext_37 (by decide +kernel) (by decide +kernel) (by decide) ?_
        refine lv_aload_n hx hb dX2_readNext_227 rfl (lv_at hl 0 rfl) ?_
        refine lv_bipush (v := 97) hx hb dX2_readNext_228 (by decide) ?_
        refine c_calli (As := [.int 97]) (rest := []) hx hb hml hown hts hK hX hI 5 (by omega) cE_5 rfl (k_X2_take l dd g ad pi A hA (pdM (mset C 10 3 cv) (pp + 1) 0 (C 13)) len (pp + 1) hl80 (by omega) (((pdM_o (by decide) (by decide)).trans ((mset_nj _ (by decide) _ _).trans hl1))) pdM_q (by simp only [mset_ne _ (show (12 : Nat) ≠ 10 by decide), mset_ne _ (show (12 : Nat) ≠ 13 by decide), pdM_ne (show (12 : Nat) ≠ 10 by decide) (show (12 : Nat) ≠ 13 by decide)]; exact hch) 97) (cwV 1 hts gX2_readNext_X2_take rfl rfl rfl (by decide +kernel) ⟨Nat.le_of_ble_eq_true rfl, Nat.le_of_ble_eq_true rfl⟩) rfl hl (Nat.le_of_ble_eq_true rfl) ⟨Nat.zero_le _, Nat.zero_le _⟩ dX2_readNext_230 rfl (fun r C1 pi1 H locs h87 hI => ?_)
        simp only [mset_ne _ (show (12 : Nat) ≠ 10 by decide), mset_ne _ (show (12 : Nat) ≠ 13 by decide), pdM_ne (show (12 : Nat) ≠ 10 by decide) (show (12 : Nat) ≠ 13 by decide)] at h87
        obtain ⟨h87, hp9⟩ := h87
        rw [hp9] at hI
        rcases h87 with ⟨t86, hr9, hc9⟩ | ⟨t86, hr9, hc9⟩
        · skip
          rw [pdM_tk] at hc9
          rw [hc9] at hI
          subst hr9
          have l_t86 := chr_lt t86 (by decide)
          exact c_zret (v := 1) hx hb hr (by first | rfl | decide) hI (⟨Or.inr (Or.inr ⟨by omega, t55, rdP_ok hcv ⟨by simp [rO, rP, ← hcv, c60_1, (inB_yes t86), (nxB_yes t86 (by decide))], by simp [rO, rP, ← hcv, c60_1, (inB_yes t86), (nxB_yes t86 (by decide))]⟩ (by omega) (by unfold nmS; simp [upd, rO, rP, ← hcv, c60_1, (inB_yes t86), (nxB_yes t86 (by decide))]; try simp [upd])⟩), rfl⟩) dX2_readNext_233 hlocks
        · skip
          rw [hc9] at hI
          subst hr9
          exact absurd (hcv.symm.trans c60_1) t86
      by_cases c60_2 : cv = 98
      · rw [c60_2]
        refine lv_lookup (tgt := 175) (off := 138) hx hb dX2_readNext_37 (by decide +kernel) (by decide +kernel) (by decide) ?_
        refine lv_aload_n hx hb dX2_readNext_175 rfl (lv_at hl 0 rfl) ?_
        refine lv_bipush (v := 98) hx hb dX2_readNext_176 (by decide) ?_
        refine c_calli (As := [.int 98]) (rest := []) hx hb hml hown hts hK hX hI 5 (by omega) cE_5 rfl (k_X2_take l dd g ad pi A hA (pdM (mset C 10 3 cv) (pp + 1) 0 (C 13)) len (pp + 1) hl80 (by omega) (((pdM_o (by decide) (by decide)).trans ((mset_nj _ (by decide) _ _).trans hl1))) pdM_q (by simp only [mset_ne _ (show (12 : Nat) ≠ 10 by decide), mset_ne _ (show (12 : Nat) ≠ 13 by decide), pdM_ne (show (12 : Nat) ≠ 10 by decide) (show (12 : Nat) ≠ 13 by decide)]; exact hch) 98) (cwV 1 hts gX2_readNext_X2_take rfl rfl rfl (by decide +kernel) ⟨Nat.le_of_ble_eq_true rfl, Nat.le_of_ble_eq_true rfl⟩) rfl hl (Nat.le_of_ble_eq_true rfl) ⟨Nat.zero_le _, Nat.zero_le _⟩ dX2_readNext_178 rfl (fun r C1 pi1 H locs h89 hI => ?_)
        simp only [mset_ne _ (show (12 : Nat) ≠ 10 by decide), mset_ne _ (show (12 : Nat) ≠ 13 by decide), pdM_ne (show (12 : Nat) ≠ 10 by decide) (show (12 : Nat) ≠ 13 by decide)] at h89
        obtain ⟨h89, hp9⟩ := h89
        rw [hp9] at hI
        rcases h89 with ⟨t88, hr9, hc9⟩ | ⟨t88, hr9, hc9⟩
        · skip
          rw [pdM_tk] at hc9
          rw [hc9] at hI
          subst hr9
          have l_t88 := chr_lt t88 (by decide)
          refine lv_if_eq (tgt := 195) hx hb dX2_readNext_181 (by decide) (fun c90 => absurd c90 (by decide)) (fun _ => ?_)
          refine lv_aload_n hx hb dX2_readNext_184 rfl (lv_at hl 0 rfl) ?_
          refine c_calli (As := []) (rest := []) hx hb hml hown hts hK hX hI 5 (by omega) cE_5 rfl (k_X2_readNumbers l dd g ad pi A hA (pdM (mset C 10 3 cv) (pp + 1 + 1) 0 (C 13)) len (pp + 1 + 1) hl80 (by omega) (((pdM_o (by decide) (by decide)).trans ((mset_nj _ (by decide) _ _).trans hl1))) pdM_q (by simp only [mset_ne _ (show (12 : Nat) ≠ 10 by decide), mset_ne _ (show (12 : Nat) ≠ 13 by decide), pdM_ne (show (12 : Nat) ≠ 10 by decide) (show (12 : Nat) ≠ 13 by decide)]; exact hch) (by omega) pdM_L) (cwV 0 hts gX2_readNext_X2_readNumbers rfl rfl rfl (by decide +kernel) ⟨Nat.le_of_ble_eq_true rfl, Nat.le_of_ble_eq_true rfl⟩) rfl hl (Nat.le_of_ble_eq_true rfl) ⟨Nat.zero_le _, Nat.zero_le _⟩ dX2_readNext_185 rfl (fun r C1 pi1 H locs h92 hI => ?_)
          simp only [pdM_pdM, pdM_13, pdM_ne (show (12 : Nat) ≠ 10 by decide) (show (12 : Nat) ≠ 13 by decide), mset_ne _ (show (12 : Nat) ≠ 10 by decide), mset_ne _ (show (13 : Nat) ≠ 10 by decide)] at h92
          obtain ⟨h92, hz9, hp9⟩ := h92
          rw [hp9] at hI
          rcases h92 with ⟨n91, hr9, hc9⟩ | ⟨n91, hr9, hc9⟩
          · skip
            rw [hc9] at hI
            subst hr9
            refine lv_if_eq (tgt := 195) hx hb dX2_readNext_188 (by decide) (fun c93 => absurd c93 (by decide)) (fun _ => ?_)
            refine lv_iconst (v := 1) hx hb dX2_readNext_191 (by decide) ?_
            refine lv_goto (tgt := 196) hx hb dX2_readNext_192 (by decide) ?_
            exact c_zret (v := 1) hx hb hr (by first | rfl | decide) hI (⟨Or.inr (Or.inr ⟨by omega, t55, rdP_ok hcv ⟨(rO_98 (hcv.symm.trans c60_2) (C 13)).1.trans n91, (rO_98 (hcv.symm.trans c60_2) (C 13)).2.1⟩ hz9 ⟨fun z => absurd (c60_2.symm.trans z) (by decide), fun z => absurd (c60_2.symm.trans z) (by decide), fun z => absurd (c60_2.symm.trans z) (by decide), fun _ => (rO_98 (hcv.symm.trans c60_2) (C 13)).2.2 ((rO_98 (hcv.symm.trans c60_2) (C 13)).1.trans n91)⟩⟩), rfl⟩) dX2_readNext_196 hlocks
          · skip
            rw [hc9] at hI
            subst hr9
            refine lv_if_eq (tgt := 195) hx hb dX2_readNext_188 (by decide) (fun _ => ?_) (fun c94 => absurd (by decide) c94)
            refine lv_iconst (v := 0) hx hb dX2_readNext_195 (by decide) ?_
            exact c_zret (v := 0) hx hb hr (by first | rfl | decide) hI (⟨Or.inr (Or.inr ⟨by omega, t55, rdP_no hcv ⟨(rO_98 (hcv.symm.trans c60_2) (C 13)).1.trans n91, (rO_98 (hcv.symm.trans c60_2) (C 13)).2.1⟩ hz9⟩), rfl⟩) dX2_readNext_196 hlocks
        · skip
          rw [hc9] at hI
          subst hr9
          exact absurd (hcv.symm.trans c60_2) t88
      by_cases c60_3 : cv = 108
      · rw [c60_3]
        refine lv_lookup (tgt := 152) (off := 115) hx hb dX2_readNext_37 (by decide +kernel) (by decide +kernel) (by decide) ?_
        refine lv_aload_n hx hb dX2_readNext_152 rfl (lv_at hl 0 rfl) ?_
        refine lv_bipush (v := 108) hx hb dX2_readNext_153 (by decide) ?_
        refine c_calli (As := [.int 108]) (rest := []) hx hb hml hown hts hK hX hI 5 (by omega) cE_5 rfl (k_X2_take l dd g ad pi A hA (pdM (mset C 10 3 cv) (pp + 1) 0 (C 13)) len (pp + 1) hl80 (by omega) (((pdM_o (by decide) (by decide)).trans ((mset_nj _ (by decide) _ _).trans hl1))) pdM_q (by simp only [mset_ne _ (show (12 : Nat) ≠ 10 by decide), mset_ne _ (show (12 : Nat) ≠ 13 by decide), pdM_ne (show (12 : Nat) ≠ 10 by decide) (show (12 : Nat) ≠ 13 by decide)]; exact hch) 108) (cwV 1 hts gX2_readNext_X2_take rfl rfl rfl (by decide +kernel) ⟨Nat.le_of_ble_eq_true rfl, Nat.le_of_ble_eq_true rfl⟩) rfl hl (Nat.le_of_ble_eq_true rfl) ⟨Nat.zero_le _, Nat.zero_le _⟩ dX2_readNext_155 rfl (fun r C1 pi1 H locs h96 hI => ?_)
        simp only [mset_ne _ (show (12 : Nat) ≠ 10 by decide), mset_ne _ (show (12 : Nat) ≠ 13 by decide), pdM_ne (show (12 : Nat) ≠ 10 by decide) (show (12 : Nat) ≠ 13 by decide)] at h96
        obtain ⟨h96, hp9⟩ := h96
        rw [hp9] at hI
        rcases h96 with ⟨t95, hr9, hc9⟩ | ⟨t95, hr9, hc9⟩
        · skip
          rw [pdM_tk] at hc9
          rw [hc9] at hI
          subst hr9
          have l_t95 := chr_lt t95 (by decide)
          refine lv_if_eq (tgt := 173) hx hb dX2_readNext_158 (by decide) (fun c97 => absurd c97 (by decide)) (fun _ => ?_)
          refine lv_aload_n hx hb dX2_readNext_161 rfl (lv_at hl 0 rfl) ?_
          refine lv_iconst (v := 1) hx hb dX2_readNext_162 (by decide) ?_
          refine c_calli (As := [.int 1]) (rest := []) hx hb hml hown hts hK hX hI 5 (by omega) cE_5 rfl (k_X2_readNumber l dd g ad pi A hA (pdM (mset C 10 3 cv) (pp + 1 + 1) 0 (C 13)) len (pp + 1 + 1) hl80 (by omega) (((pdM_o (by decide) (by decide)).trans ((mset_nj _ (by decide) _ _).trans hl1))) pdM_q (by simp only [mset_ne _ (show (12 : Nat) ≠ 10 by decide), mset_ne _ (show (12 : Nat) ≠ 13 by decide), pdM_ne (show (12 : Nat) ≠ 10 by decide) (show (12 : Nat) ≠ 13 by decide)]; exact hch) 0 (by omega) pdM_L 1) (cwV 1 hts gX2_readNext_X2_readNumber rfl rfl rfl (by decide +kernel) ⟨Nat.le_of_ble_eq_true rfl, Nat.le_of_ble_eq_true rfl⟩) rfl hl (Nat.le_of_ble_eq_true rfl) ⟨Nat.zero_le _, Nat.zero_le _⟩ dX2_readNext_163 rfl (fun r C1 pi1 H locs h99 hI => ?_)
          simp only [mset_ne _ (show (12 : Nat) ≠ 10 by decide), mset_ne _ (show (12 : Nat) ≠ 13 by decide), pdM_ne (show (12 : Nat) ≠ 10 by decide) (show (12 : Nat) ≠ 13 by decide)] at h99
          obtain ⟨h99, hp9⟩ := h99
          rw [hp9] at hI
          rcases h99 with ⟨vn98, pn98, n98, hr9, hc9⟩ | ⟨n98, hr9, hc9⟩
          · skip
            simp only [pdM_pdM, pdM_13, Int32.mul_one, mulm1] at hc9
            rw [hc9] at hI
            subst hr9
            have l_n98 := rN_place n98
            refine lv_if_eq (tgt := 173) hx hb dX2_readNext_166 (by decide) (fun c100 => absurd c100 (by decide)) (fun _ => ?_)
            refine lv_iconst (v := 1) hx hb dX2_readNext_169 (by decide) ?_
            refine lv_goto (tgt := 174) hx hb dX2_readNext_170 (by decide) ?_
            exact c_zret (v := 1) hx hb hr (by first | rfl | decide) hI (⟨Or.inr (Or.inr ⟨by omega, t55, rdP_ok hcv ⟨by simp [rO, rP, ← hcv, c60_3, (inB_yes t95), (nxB_yes t95 (by decide)), n98], by simp [rO, rP, ← hcv, c60_3, (inB_yes t95), (nxB_yes t95 (by decide)), n98]⟩ (by omega) (by unfold nmS; simp [upd, rO, rP, ← hcv, c60_3, (inB_yes t95), (nxB_yes t95 (by decide)), n98]; try simp [upd])⟩), rfl⟩) dX2_readNext_174 hlocks
          · skip
            rw [hc9] at hI
            subst hr9
            refine lv_if_eq (tgt := 173) hx hb dX2_readNext_166 (by decide) (fun _ => ?_) (fun c101 => absurd (by decide) c101)
            refine lv_iconst (v := 0) hx hb dX2_readNext_173 (by decide) ?_
            exact c_zret (v := 0) hx hb hr (by first | rfl | decide) hI (⟨Or.inr (Or.inr ⟨by omega, t55, rdP_no hcv ⟨by simp [rO, rP, ← hcv, c60_3, (inB_yes t95), (nxB_yes t95 (by decide)), n98], by simp [rO, rP, ← hcv, c60_3, (inB_yes t95), (nxB_yes t95 (by decide)), n98]⟩ (by omega)⟩), rfl⟩) dX2_readNext_174 hlocks
        · skip
          rw [hc9] at hI
          subst hr9
          exact absurd (hcv.symm.trans c60_3) t95
      by_cases c60_4 : cv = 115
      · rw [c60_4]
        refine lv_lookup (tgt := 220) (off := 183) hx hb dX2_readNext_37 (by decide +kernel) (by decide +kernel) (by decide) ?_
        refine lv_aload_n hx hb dX2_readNext_220 rfl (lv_at hl 0 rfl) ?_
        refine lv_bipush (v := 115) hx hb dX2_readNext_221 (by decide) ?_
        refine c_calli (As := [.int 115]) (rest := []) hx hb hml hown hts hK hX hI 5 (by omega) cE_5 rfl (k_X2_take l dd g ad pi A hA (pdM (mset C 10 3 cv) (pp + 1) 0 (C 13)) len (pp + 1) hl80 (by omega) (((pdM_o (by decide) (by decide)).trans ((mset_nj _ (by decide) _ _).trans hl1))) pdM_q (by simp only [mset_ne _ (show (12 : Nat) ≠ 10 by decide), mset_ne _ (show (12 : Nat) ≠ 13 by decide), pdM_ne (show (12 : Nat) ≠ 10 by decide) (show (12 : Nat) ≠ 13 by decide)]; exact hch) 115) (cwV 1 hts gX2_readNext_X2_take rfl rfl rfl (by decide +kernel) ⟨Nat.le_of_ble_eq_true rfl, Nat.le_of_ble_eq_true rfl⟩) rfl hl (Nat.le_of_ble_eq_true rfl) ⟨Nat.zero_le _, Nat.zero_le _⟩ dX2_readNext_223 rfl (fun r C1 pi1 H locs h103 hI => ?_)
        simp only [mset_ne _ (show (12 : Nat) ≠ 10 by decide), mset_ne _ (show (12 : Nat) ≠ 13 by decide), pdM_ne (show (12 : Nat) ≠ 10 by decide) (show (12 : Nat) ≠ 13 by decide)] at h103
        obtain ⟨h103, hp9⟩ := h103
        rw [hp9] at hI
        rcases h103 with ⟨t102, hr9, hc9⟩ | ⟨t102, hr9, hc9⟩
        · skip
          rw [pdM_tk] at hc9
          rw [hc9] at hI
          subst hr9
          have l_t102 := chr_lt t102 (by decide)
          exact c_zret (v := 1) hx hb hr (by first | rfl | decide) hI (⟨Or.inr (Or.inr ⟨by omega, t55, rdP_ok hcv ⟨by simp [rO, rP, ← hcv, c60_4, (inB_yes t102), (nxB_yes t102 (by decide))], by simp [rO, rP, ← hcv, c60_4, (inB_yes t102), (nxB_yes t102 (by decide))]⟩ (by omega) (by unfold nmS; simp [upd, rO, rP, ← hcv, c60_4, (inB_yes t102), (nxB_yes t102 (by decide))]; try simp [upd])⟩), rfl⟩) dX2_readNext_226 hlocks
        · skip
          rw [hc9] at hI
          subst hr9
          exact absurd (hcv.symm.trans c60_4) t102
      by_cases c60_5 : cv = 116
      · rw [c60_5]
        refine lv_lookup (tgt := 197) (off := 160) hx hb dX2_readNext_37 (by decide +kernel) (by decide +kernel) (by decide) ?_
        refine lv_aload_n hx hb dX2_readNext_197 rfl (lv_at hl 0 rfl) ?_
        refine lv_bipush (v := 116) hx hb dX2_readNext_198 (by decide) ?_
        refine c_calli (As := [.int 116]) (rest := []) hx hb hml hown hts hK hX hI 5 (by omega) cE_5 rfl (k_X2_take l dd g ad pi A hA (pdM (mset C 10 3 cv) (pp + 1) 0 (C 13)) len (pp + 1) hl80 (by omega) (((pdM_o (by decide) (by decide)).trans ((mset_nj _ (by decide) _ _).trans hl1))) pdM_q (by simp only [mset_ne _ (show (12 : Nat) ≠ 10 by decide), mset_ne _ (show (12 : Nat) ≠ 13 by decide), pdM_ne (show (12 : Nat) ≠ 10 by decide) (show (12 : Nat) ≠ 13 by decide)]; exact hch) 116) (cwV 1 hts gX2_readNext_X2_take rfl rfl rfl (by decide +kernel) ⟨Nat.le_of_ble_eq_true rfl, Nat.le_of_ble_eq_true rfl⟩) rfl hl (Nat.le_of_ble_eq_true rfl) ⟨Nat.zero_le _, Nat.zero_le _⟩ dX2_readNext_200 rfl (fun r C1 pi1 H locs h105 hI => ?_)
        simp only [mset_ne _ (show (12 : Nat) ≠ 10 by decide), mset_ne _ (show (12 : Nat) ≠ 13 by decide), pdM_ne (show (12 : Nat) ≠ 10 by decide) (show (12 : Nat) ≠ 13 by decide)] at h105
        obtain ⟨h105, hp9⟩ := h105
        rw [hp9] at hI
        rcases h105 with ⟨t104, hr9, hc9⟩ | ⟨t104, hr9, hc9⟩
        · skip
          rw [pdM_tk] at hc9
          rw [hc9] at hI
          subst hr9
          have l_t104 := chr_lt t104 (by decide)
          refine lv_if_eq (tgt := 218) hx hb dX2_readNext_203 (by decide) (fun c106 => absurd c106 (by decide)) (fun _ => ?_)
          refine lv_aload_n hx hb dX2_readNext_206 rfl (lv_at hl 0 rfl) ?_
          refine lv_iconst (v := 1) hx hb dX2_readNext_207 (by decide) ?_
          refine c_calli (As := [.int 1]) (rest := []) hx hb hml hown hts hK hX hI 5 (by omega) cE_5 rfl (k_X2_readNumber l dd g ad pi A hA (pdM (mset C 10 3 cv) (pp + 1 + 1) 0 (C 13)) len (pp + 1 + 1) hl80 (by omega) (((pdM_o (by decide) (by decide)).trans ((mset_nj _ (by decide) _ _).trans hl1))) pdM_q (by simp only [mset_ne _ (show (12 : Nat) ≠ 10 by decide), mset_ne _ (show (12 : Nat) ≠ 13 by decide), pdM_ne (show (12 : Nat) ≠ 10 by decide) (show (12 : Nat) ≠ 13 by decide)]; exact hch) 0 (by omega) pdM_L 1) (cwV 1 hts gX2_readNext_X2_readNumber rfl rfl rfl (by decide +kernel) ⟨Nat.le_of_ble_eq_true rfl, Nat.le_of_ble_eq_true rfl⟩) rfl hl (Nat.le_of_ble_eq_true rfl) ⟨Nat.zero_le _, Nat.zero_le _⟩ dX2_readNext_208 rfl (fun r C1 pi1 H locs h108 hI => ?_)
          simp only [mset_ne _ (show (12 : Nat) ≠ 10 by decide), mset_ne _ (show (12 : Nat) ≠ 13 by decide), pdM_ne (show (12 : Nat) ≠ 10 by decide) (show (12 : Nat) ≠ 13 by decide)] at h108
          obtain ⟨h108, hp9⟩ := h108
          rw [hp9] at hI
          rcases h108 with ⟨vn107, pn107, n107, hr9, hc9⟩ | ⟨n107, hr9, hc9⟩
          · skip
            simp only [pdM_pdM, pdM_13, Int32.mul_one, mulm1] at hc9
            rw [hc9] at hI
            subst hr9
            have l_n107 := rN_place n107
            refine lv_if_eq (tgt := 218) hx hb dX2_readNext_211 (by decide) (fun c109 => absurd c109 (by decide)) (fun _ => ?_)
            refine lv_iconst (v := 1) hx hb dX2_readNext_214 (by decide) ?_
            refine lv_goto (tgt := 219) hx hb dX2_readNext_215 (by decide) ?_
            exact c_zret (v := 1) hx hb hr (by first | rfl | decide) hI (⟨Or.inr (Or.inr ⟨by omega, t55, rdP_ok hcv ⟨by simp [rO, rP, ← hcv, c60_5, (inB_yes t104), (nxB_yes t104 (by decide)), n107], by simp [rO, rP, ← hcv, c60_5, (inB_yes t104), (nxB_yes t104 (by decide)), n107]⟩ (by omega) (by unfold nmS; simp [upd, rO, rP, ← hcv, c60_5, (inB_yes t104), (nxB_yes t104 (by decide)), n107]; try simp [upd])⟩), rfl⟩) dX2_readNext_219 hlocks
          · skip
            rw [hc9] at hI
            subst hr9
            refine lv_if_eq (tgt := 218) hx hb dX2_readNext_211 (by decide) (fun _ => ?_) (fun c110 => absurd (by decide) c110)
            refine lv_iconst (v := 0) hx hb dX2_readNext_218 (by decide) ?_
            exact c_zret (v := 0) hx hb hr (by first | rfl | decide) hI (⟨Or.inr (Or.inr ⟨by omega, t55, rdP_no hcv ⟨by simp [rO, rP, ← hcv, c60_5, (inB_yes t104), (nxB_yes t104 (by decide)), n107], by simp [rO, rP, ← hcv, c60_5, (inB_yes t104), (nxB_yes t104 (by decide)), n107]⟩ (by omega)⟩), rfl⟩) dX2_readNext_219 hlocks
        · skip
          rw [hc9] at hI
          subst hr9
          exact absurd (hcv.symm.trans c60_5) t104
      refine lv_lookup (tgt := 234) (off := 197) hx hb dX2_readNext_37 (by decide +kernel) (by show Op.lookupswitch.offset [(43, 59), (97, 190), (98, 138), (108, 115), (115, 183), (116, 160)] _ _ = _; rw [lv_osw (a := 43) c60_0 (by decide), lv_osw (a := 97) c60_1 (by decide), lv_osw (a := 98) c60_2 (by decide), lv_osw (a := 108) c60_3 (by decide), lv_osw (a := 115) c60_4 (by decide), lv_osw (a := 116) c60_5 (by decide)]; rfl) (by decide) ?_
      refine lv_iconst (v := 0) hx hb dX2_readNext_234 (by decide) ?_
      exact c_zret (v := 0) hx hb hr (by first | rfl | decide) hI (⟨Or.inr (Or.inr ⟨by omega, t55, rdP_no hcv ⟨by simp [rO, ← hcv, c60_0, c60_1, c60_2, c60_3, c60_4, c60_5], by simp [rO, ← hcv, c60_0, c60_1, c60_2, c60_3, c60_4, c60_5]⟩ (by omega)⟩), rfl⟩) dX2_readNext_235 hlocks
    · skip
      rw [hc9] at hI
      subst hr9
      refine lv_if_ne (tgt := 18) hx hb dX2_readNext_13 (by decide) (fun c111 => absurd (by decide) c111) (fun _ => ?_)
      refine lv_iconst (v := 0) hx hb dX2_readNext_16 (by decide) ?_
      exact c_zret (v := 0) hx hb hr (by first | rfl | decide) hI (⟨Or.inl ⟨by omega, t55, rfl, rfl⟩, rfl⟩) dX2_readNext_17 hlocks
