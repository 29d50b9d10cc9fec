set_option maxHeartbeats 4000000 in
set_option maxRecDepth 100000 in
theorem k_L_areNeedsSo (l : Launch) (dd : va_G) (g : Nat → ClassId) (ad pi : Nat → Nat) (A : Nat → Prop) (hA : cA A ad) (C : MS) (d Bn : Nat) (hIN : IN C pi d Bn)  : Met l yL_areNeedsSo wsL_areNeedsSo ({ frames := 6, cells := 0, slots := 0, locals := 134 }) (cPre dd g ad pi A C [.ref (ad 0)]) (cQi dd g ad A (fun r C1 pi1 => r = 1 ∧ (∃ d1, IN C1 pi1 d1 Bn) ∧ cn (C1 0) = cn (C 0))) 0 0 A := by
  refine Met.ofW (cc := cL_areNeedsSo) (maxL := 8) (ret := (some .boolean)) (by decide) rfl ?_
  intro p e s m args below meth c s₁ B hml hv
  obtain ⟨rfl, hP0, hK, hX⟩ := hv
  have hx := B.exec
  have hb := B.bytes
  have hr := B.returns
  have hts := atoms_spec (ws := wsL_areNeedsSo) B.pre
  have hown : s.vm.findClass RL = some m.cls := findClass_of_methodNamed B.named
  have hlocks := B.notSynchronized
  have hI : cI dd g ad pi A s.heap s.heap [] C := ⟨hP0, va_S.rf⟩
  have hl := lv_entry ([.ref (ad 0)]) (n := 8) (Nat.le_of_ble_eq_true rfl)
  rw [lg_entry_eq]
  generalize (lg_sl ([.ref (ad 0)]) ++ List.replicate (8 - (lg_sl ([.ref (ad 0)])).length) Slot.unset).toArray = ls at hl ⊢
  have hl : lv_has ls 8 [(0, .ref (ad 0))] := hl
  have hn16 := hIN.n16
  have hl4 := hIN.l4
  have hV := hIN.V
  have hW := hIN.W
  refine lv_iconst (v := 0) hx hb dL_areNeedsSo_0 (by decide) ?_
  refine lv_istore_n (lv' := [(1, .int 0), (0, .ref (ad 0))]) hx hb dL_areNeedsSo_1 rfl hl (by decide) rfl (fun ls hl => ?_)
  refine lv_iconst (v := (-1)) hx hb dL_areNeedsSo_2 (by decide) ?_
  refine lv_istore_n (lv' := [(2, .int ((-1))), (1, .int 0), (0, .ref (ad 0))]) hx hb dL_areNeedsSo_3 rfl hl (by decide) rfl (fun ls hl => ?_)
  refine lv_aload_n hx hb dL_areNeedsSo_4 rfl (lv_at hl 2 rfl) ?_
  refine lv_iconst (v := 1) hx hb dL_areNeedsSo_5 (by decide) ?_
  refine c_calli (As := [.int 1]) (rest := []) hx hb hml hown hts hK hX hI 0 (by omega) cE_0 rfl (k_X5_count l dd g ad pi A hA C hIN.W hIN.g hIN.Ld 1) (cwV 1 hts gL_areNeedsSo_X5_count rfl rfl rfl (by decide +kernel) ⟨Nat.le_of_ble_eq_true rfl, Nat.le_of_ble_eq_true rfl⟩) rfl hl (Nat.le_of_ble_eq_true rfl) ⟨Nat.zero_le _, Nat.zero_le _⟩ dL_areNeedsSo_6 rfl (fun r C1 pi1 H locs h1 hI => ?_)
  obtain ⟨hr9, hc9, hp9⟩ := h1
  rw [hc9, hp9] at hI
  rw [q_c1 hW] at hr9
  subst hr9
  refine lv_istore_n (lv' := [(3, .int (nI (cn (C 0)))), (2, .int ((-1))), (1, .int 0), (0, .ref (ad 0))]) hx hb dL_areNeedsSo_9 rfl hl (by decide) rfl (fun ls hl => ?_)
  refine lv_aload_n hx hb dL_areNeedsSo_10 rfl (lv_at hl 3 rfl) ?_
  refine lv_iload_n hx hb dL_areNeedsSo_11 rfl (lv_at hl 0 rfl) ?_
  refine c_calli (As := [.int (nI (cn (C 0)))]) (rest := []) hx hb hml hown hts hK hX hI 0 (by omega) cE_0 rfl (k_X5_needs l dd g ad pi A hA C hIN.W hIN.g hIN.Tt (nI (cn (C 0)))) (cwV 1 hts gL_areNeedsSo_X5_needs rfl rfl rfl (by decide +kernel) ⟨Nat.le_of_ble_eq_true rfl, Nat.le_of_ble_eq_true rfl⟩) rfl hl (Nat.le_of_ble_eq_true rfl) ⟨Nat.zero_le _, Nat.zero_le _⟩ dL_areNeedsSo_12 rfl (fun r N2 pi1 H locs h6 hI => ?_)
  obtain ⟨hr9, ⟨w9, hw9⟩, hp9⟩ := h6
  rw [hp9] at hI
  have e5 : N2 0 = (C 0) := by rw [hw9, mrow_n _ (by decide)]
  have i4 : IN N2 pi d Bn := by rw [hw9]; exact hIN.m15
  rw [neC_none hW] at hr9
  subst hr9
  clear hw9
  refine lv_iconst (v := (-1)) hx hb dL_areNeedsSo_15 (by decide) ?_
  refine lv_icmp_ne (tgt := 23) hx hb dL_areNeedsSo_16 (by decide) (fun c7 => absurd (by decide) c7) (fun _ => ?_)
  refine lv_iconst (v := 1) hx hb dL_areNeedsSo_19 (by decide) ?_
  refine lv_goto (tgt := 24) hx hb dL_areNeedsSo_20 (by decide) ?_
  refine lv_istore (lv' := [(4, .int 1), (3, .int (nI (cn (C 0)))), (2, .int ((-1))), (1, .int 0), (0, .ref (ad 0))]) hx hb dL_areNeedsSo_24 hl (by decide) rfl (fun ls hl => ?_)
  refine lv_iconst (v := 0) hx hb dL_areNeedsSo_26 (by decide) ?_
  refine lv_istore (lv' := [(5, .int 0), (4, .int 1), (3, .int (nI (cn (C 0)))), (2, .int ((-1))), (1, .int 0), (0, .ref (ad 0))]) hx hb dL_areNeedsSo_27 hl (by decide) rfl (fun ls hl => ?_)
  have L29 : ∀ (fuel : Nat) (N : MS) (k sb : Nat) (lx : Int32) (hN0 : N 0 = C 0) (hNI : IN N pi d Bn) (h1 : k ≤ cn (C 0)) (h2 : cn (C 0) < fuel + k) (hs : SB (C 0) k sb) (hlb : LB (C 0) k lx) (H : Heap) (locs : List Loc) (ls : Array Slot), cI dd g ad pi A s.heap H locs N → lv_has ls 8 [(5, .int (nI k)), (4, .int 1), (3, .int (nI (cn (C 0)))), (2, .int lx), (1, .int (nI sb)), (0, .ref (ad 0))] → wk p l e wsL_areNeedsSo { frames := 6, cells := 0, slots := 0, locals := 134 } s m [.ref (ad 0)] below meth c H locs (cQi dd g ad A (fun r C1 pi1 => r = 1 ∧ (∃ d1, IN C1 pi1 d1 Bn) ∧ cn (C1 0) = cn (C 0))) (A) (F0 m 29 ls []) := by
    intro fuel
    induction fuel with
    | zero =>
      intro N k sb lx hN0 hNI h1 h2 hs hlb H locs ls hI hl
      exact absurd h2 (by omega)
    | succ fuel ih =>
      intro N k sb lx hN0 hNI h1 h2 hs hlb H locs ls hI hl
      refine lv_iload hx hb dL_areNeedsSo_29 (lv_at hl 0 rfl) ?_
      refine lv_iload_n hx hb dL_areNeedsSo_31 rfl (lv_at hl 2 rfl) ?_
      refine lv_icmp_ge (tgt := 135) hx hb dL_areNeedsSo_32 (by decide) (fun c8 => ?_) (fun c8 => ?_)
      · skip
        have nc8 : cn (C 0) ≤ k := (nI_leI (a := cn (C 0)) (b := k) (by omega) (by omega)).mp c8
        have ek : k = cn (C 0) := by omega
        subst ek
        rcases lf_cases hV with ⟨hln, hlf⟩ | ⟨hln, hlf, hcw⟩ | ⟨R, hNF, hlf, hcw⟩
        · skip
          refine lv_aload_n hx hb dL_areNeedsSo_135 rfl (lv_at hl 5 rfl) ?_
          refine c_calli (As := []) (rest := []) hx hb hml hown hts hK hX hI 0 (by omega) cE_0 rfl (k_X5_ladderFor l dd g ad pi A hA N hNI.W hNI.g hNI.Ld) (cwV 0 hts gL_areNeedsSo_X5_ladderFor rfl rfl rfl (by decide +kernel) ⟨Nat.le_of_ble_eq_true rfl, Nat.le_of_ble_eq_true rfl⟩) rfl hl (Nat.le_of_ble_eq_true rfl) ⟨Nat.zero_le _, Nat.zero_le _⟩ dL_areNeedsSo_136 rfl (fun r C1 pi1 H locs h9 hI => ?_)
          obtain ⟨hr9, hc9, hp9⟩ := h9
          rw [hc9, hp9] at hI
          rw [hN0] at hr9
          rw [hlf] at hr9
          subst hr9
          refine lv_istore (lv' := [(5, .int ((-4))), (4, .int 1), (3, .int (nI (cn (C 0)))), (2, .int lx), (1, .int (nI sb)), (0, .ref (ad 0))]) hx hb dL_areNeedsSo_139 hl (by decide) rfl (fun ls hl => ?_)
          refine lv_iload hx hb dL_areNeedsSo_141 (lv_at hl 1 rfl) ?_
          refine lv_if_eq (tgt := 175) hx hb dL_areNeedsSo_143 (by decide) (fun c10 => absurd c10 (by decide)) (fun _ => ?_)
          refine lv_iload_n hx hb dL_areNeedsSo_146 rfl (lv_at hl 4 rfl) ?_
          refine lv_iconst (v := 1) hx hb dL_areNeedsSo_147 (by decide) ?_
          refine lv_iload_n hx hb dL_areNeedsSo_148 rfl (lv_at hl 2 rfl) ?_
          refine lv_ishl hx hb dL_areNeedsSo_149 ?_
          refine lv_iconst (v := 1) hx hb dL_areNeedsSo_150 (by decide) ?_
          refine lv_isub hx hb dL_areNeedsSo_151 ?_
          refine lv_icmp_ne (tgt := 175) hx hb dL_areNeedsSo_152 (by decide) (fun c11 => ?_) (fun c11 => ?_)
          · skip
            exact absurd (SB_n hs hn16) c11
          · skip
            refine lv_aload_n hx hb dL_areNeedsSo_155 rfl (lv_at hl 5 rfl) ?_
            refine lv_iconst (v := 2) hx hb dL_areNeedsSo_156 (by decide) ?_
            refine c_calli (As := [.int 2]) (rest := []) hx hb hml hown hts hK hX hI 0 (by omega) cE_0 rfl (k_X5_count l dd g ad pi A hA N hNI.W hNI.g hNI.Ld 2) (cwV 1 hts gL_areNeedsSo_X5_count rfl rfl rfl (by decide +kernel) ⟨Nat.le_of_ble_eq_true rfl, Nat.le_of_ble_eq_true rfl⟩) rfl hl (Nat.le_of_ble_eq_true rfl) ⟨Nat.zero_le _, Nat.zero_le _⟩ dL_areNeedsSo_157 rfl (fun r C1 pi1 H locs h12 hI => ?_)
            obtain ⟨hr9, hc9, hp9⟩ := h12
            rw [hc9, hp9] at hI
            rw [hN0] at hr9
            rw [q_c2 hW] at hr9
            subst hr9
            refine lv_iconst (v := 4) hx hb dL_areNeedsSo_160 (by decide) ?_
            refine lv_icmp_lt (tgt := 171) hx hb dL_areNeedsSo_161 (by decide) (fun c13 => ?_) (fun c13 => ?_)
            · skip
              have nc13 : ln (C 0) < 4 := (nI_ltI (a := ln (C 0)) (b := 4) (by omega) (by omega)).mp c13
              exact absurd nc13 (by omega)
            · skip
              have nc13 : ¬ (ln (C 0) < 4) := fun h => c13 ((nI_ltI (a := ln (C 0)) (b := 4) (by omega) (by omega)).mpr h)
              refine lv_iload hx hb dL_areNeedsSo_164 (lv_at hl 0 rfl) ?_
              refine lv_bipush (v := (-4)) hx hb dL_areNeedsSo_166 (by decide) ?_
              refine lv_icmp_ne (tgt := 175) hx hb dL_areNeedsSo_168 (by decide) (fun c14 => absurd (by decide) c14) (fun _ => ?_)
              refine lv_iconst (v := 1) hx hb dL_areNeedsSo_171 (by decide) ?_
              refine lv_goto (tgt := 176) hx hb dL_areNeedsSo_172 (by decide) ?_
              refine lv_istore (lv' := [(4, .int 1), (5, .int ((-4))), (3, .int (nI (cn (C 0)))), (2, .int lx), (1, .int (nI sb)), (0, .ref (ad 0))]) hx hb dL_areNeedsSo_176 hl (by decide) rfl (fun ls hl => ?_)
              refine lv_aload_n hx hb dL_areNeedsSo_178 rfl (lv_at hl 5 rfl) ?_
              refine lv_iconst (v := 2) hx hb dL_areNeedsSo_179 (by decide) ?_
              refine c_calli (As := [.int 2]) (rest := []) hx hb hml hown hts hK hX hI 0 (by omega) cE_0 rfl (k_X5_count l dd g ad pi A hA N hNI.W hNI.g hNI.Ld 2) (cwV 1 hts gL_areNeedsSo_X5_count rfl rfl rfl (by decide +kernel) ⟨Nat.le_of_ble_eq_true rfl, Nat.le_of_ble_eq_true rfl⟩) rfl hl (Nat.le_of_ble_eq_true rfl) ⟨Nat.zero_le _, Nat.zero_le _⟩ dL_areNeedsSo_180 rfl (fun r C1 pi1 H locs h15 hI => ?_)
              obtain ⟨hr9, hc9, hp9⟩ := h15
              rw [hc9, hp9] at hI
              rw [hN0] at hr9
              rw [q_c2 hW] at hr9
              subst hr9
              refine lv_iconst (v := 4) hx hb dL_areNeedsSo_183 (by decide) ?_
              refine lv_icmp_ge (tgt := 322) hx hb dL_areNeedsSo_184 (by decide) (fun c16 => ?_) (fun c16 => ?_)
              · skip
                have nc16 : 4 ≤ ln (C 0) := (nI_leI (a := 4) (b := ln (C 0)) (by omega) (by omega)).mp c16
                refine lv_iload hx hb dL_areNeedsSo_322 (lv_at hl 0 rfl) ?_
                exact c_zret (v := 1) hx hb hr (by first | rfl | decide) hI (⟨rfl, ⟨_, hNI⟩, (by rw [hN0])⟩) dL_areNeedsSo_324 hlocks
              · skip
                have nc16 : ¬ (4 ≤ ln (C 0)) := fun h => c16 ((nI_leI (a := 4) (b := ln (C 0)) (by omega) (by omega)).mpr h)
                exact absurd nc16 (by omega)
        · skip
          refine lv_aload_n hx hb dL_areNeedsSo_135 rfl (lv_at hl 5 rfl) ?_
          refine c_calli (As := []) (rest := []) hx hb hml hown hts hK hX hI 0 (by omega) cE_0 rfl (k_X5_ladderFor l dd g ad pi A hA N hNI.W hNI.g hNI.Ld) (cwV 0 hts gL_areNeedsSo_X5_ladderFor rfl rfl rfl (by decide +kernel) ⟨Nat.le_of_ble_eq_true rfl, Nat.le_of_ble_eq_true rfl⟩) rfl hl (Nat.le_of_ble_eq_true rfl) ⟨Nat.zero_le _, Nat.zero_le _⟩ dL_areNeedsSo_136 rfl (fun r C1 pi1 H locs h17 hI => ?_)
          obtain ⟨hr9, hc9, hp9⟩ := h17
          rw [hc9, hp9] at hI
          rw [hN0] at hr9
          rw [hlf] at hr9
          subst hr9
          refine lv_istore (lv' := [(5, .int ((-6))), (4, .int 1), (3, .int (nI (cn (C 0)))), (2, .int lx), (1, .int (nI sb)), (0, .ref (ad 0))]) hx hb dL_areNeedsSo_139 hl (by decide) rfl (fun ls hl => ?_)
          refine lv_iload hx hb dL_areNeedsSo_141 (lv_at hl 1 rfl) ?_
          refine lv_if_eq (tgt := 175) hx hb dL_areNeedsSo_143 (by decide) (fun c18 => absurd c18 (by decide)) (fun _ => ?_)
          refine lv_iload_n hx hb dL_areNeedsSo_146 rfl (lv_at hl 4 rfl) ?_
          refine lv_iconst (v := 1) hx hb dL_areNeedsSo_147 (by decide) ?_
          refine lv_iload_n hx hb dL_areNeedsSo_148 rfl (lv_at hl 2 rfl) ?_
          refine lv_ishl hx hb dL_areNeedsSo_149 ?_
          refine lv_iconst (v := 1) hx hb dL_areNeedsSo_150 (by decide) ?_
          refine lv_isub hx hb dL_areNeedsSo_151 ?_
          refine lv_icmp_ne (tgt := 175) hx hb dL_areNeedsSo_152 (by decide) (fun c19 => ?_) (fun c19 => ?_)
          · skip
            exact absurd (SB_n hs hn16) c19
          · skip
            refine lv_aload_n hx hb dL_areNeedsSo_155 rfl (lv_at hl 5 rfl) ?_
            refine lv_iconst (v := 2) hx hb dL_areNeedsSo_156 (by decide) ?_
            refine c_calli (As := [.int 2]) (rest := []) hx hb hml hown hts hK hX hI 0 (by omega) cE_0 rfl (k_X5_count l dd g ad pi A hA N hNI.W hNI.g hNI.Ld 2) (cwV 1 hts gL_areNeedsSo_X5_count rfl rfl rfl (by decide +kernel) ⟨Nat.le_of_ble_eq_true rfl, Nat.le_of_ble_eq_true rfl⟩) rfl hl (Nat.le_of_ble_eq_true rfl) ⟨Nat.zero_le _, Nat.zero_le _⟩ dL_areNeedsSo_157 rfl (fun r C1 pi1 H locs h20 hI => ?_)
            obtain ⟨hr9, hc9, hp9⟩ := h20
            rw [hc9, hp9] at hI
            rw [hN0] at hr9
            rw [q_c2 hW] at hr9
            subst hr9
            refine lv_iconst (v := 4) hx hb dL_areNeedsSo_160 (by decide) ?_
            refine lv_icmp_lt (tgt := 171) hx hb dL_areNeedsSo_161 (by decide) (fun c21 => ?_) (fun c21 => ?_)
            · skip
              have nc21 : ln (C 0) < 4 := (nI_ltI (a := ln (C 0)) (b := 4) (by omega) (by omega)).mp c21
              refine lv_iconst (v := 1) hx hb dL_areNeedsSo_171 (by decide) ?_
              refine lv_goto (tgt := 176) hx hb dL_areNeedsSo_172 (by decide) ?_
              refine lv_istore (lv' := [(4, .int 1), (5, .int ((-6))), (3, .int (nI (cn (C 0)))), (2, .int lx), (1, .int (nI sb)), (0, .ref (ad 0))]) hx hb dL_areNeedsSo_176 hl (by decide) rfl (fun ls hl => ?_)
              refine lv_aload_n hx hb dL_areNeedsSo_178 rfl (lv_at hl 5 rfl) ?_
              refine lv_iconst (v := 2) hx hb dL_areNeedsSo_179 (by decide) ?_
              refine c_calli (As := [.int 2]) (rest := []) hx hb hml hown hts hK hX hI 0 (by omega) cE_0 rfl (k_X5_count l dd g ad pi A hA N hNI.W hNI.g hNI.Ld 2) (cwV 1 hts gL_areNeedsSo_X5_count rfl rfl rfl (by decide +kernel) ⟨Nat.le_of_ble_eq_true rfl, Nat.le_of_ble_eq_true rfl⟩) rfl hl (Nat.le_of_ble_eq_true rfl) ⟨Nat.zero_le _, Nat.zero_le _⟩ dL_areNeedsSo_180 rfl (fun r C1 pi1 H locs h22 hI => ?_)
              obtain ⟨hr9, hc9, hp9⟩ := h22
              rw [hc9, hp9] at hI
              rw [hN0] at hr9
              rw [q_c2 hW] at hr9
              subst hr9
              refine lv_iconst (v := 4) hx hb dL_areNeedsSo_183 (by decide) ?_
              refine lv_icmp_ge (tgt := 322) hx hb dL_areNeedsSo_184 (by decide) (fun c23 => ?_) (fun c23 => ?_)
              · skip
                have nc23 : 4 ≤ ln (C 0) := (nI_leI (a := 4) (b := ln (C 0)) (by omega) (by omega)).mp c23
                exact absurd nc23 (by omega)
              · skip
                have nc23 : ¬ (4 ≤ ln (C 0)) := fun h => c23 ((nI_leI (a := 4) (b := ln (C 0)) (by omega) (by omega)).mpr h)
                refine lv_iload hx hb dL_areNeedsSo_187 (lv_at hl 0 rfl) ?_
                refine lv_if_eq (tgt := 224) hx hb dL_areNeedsSo_189 (by decide) (fun c24 => absurd c24 (by decide)) (fun _ => ?_)
                refine lv_iload hx hb dL_areNeedsSo_192 (lv_at hl 1 rfl) ?_
                refine lv_bipush (v := (-6)) hx hb dL_areNeedsSo_194 (by decide) ?_
                refine lv_icmp_ne (tgt := 203) hx hb dL_areNeedsSo_196 (by decide) (fun c25 => absurd (by decide) c25) (fun _ => ?_)
                refine lv_iconst (v := 1) hx hb dL_areNeedsSo_199 (by decide) ?_
                refine lv_goto (tgt := 204) hx hb dL_areNeedsSo_200 (by decide) ?_
                refine lv_aload_n hx hb dL_areNeedsSo_204 rfl (lv_at hl 5 rfl) ?_
                refine lv_iconst (v := 5) hx hb dL_areNeedsSo_205 (by decide) ?_
                refine c_calli (As := [.int 5]) (rest := [.int 1]) hx hb hml hown hts hK hX hI 0 (by omega) cE_0 rfl (k_X5_count l dd g ad pi A hA N hNI.W hNI.g hNI.Ld 5) (cwV 1 hts gL_areNeedsSo_X5_count rfl rfl rfl (by decide +kernel) ⟨Nat.le_of_ble_eq_true rfl, Nat.le_of_ble_eq_true rfl⟩) rfl hl (Nat.le_of_ble_eq_true rfl) ⟨Nat.zero_le _, Nat.zero_le _⟩ dL_areNeedsSo_206 rfl (fun r C1 pi1 H locs h26 hI => ?_)
                obtain ⟨hr9, hc9, hp9⟩ := h26
                rw [hc9, hp9] at hI
                rw [hN0] at hr9
                rw [q_c5] at hr9
                rw [hcw, nI_0] at hr9
                subst hr9
                refine lv_if_ne (tgt := 216) hx hb dL_areNeedsSo_209 (by decide) (fun c27 => absurd (by decide) c27) (fun _ => ?_)
                refine lv_iconst (v := 1) hx hb dL_areNeedsSo_212 (by decide) ?_
                refine lv_goto (tgt := 217) hx hb dL_areNeedsSo_213 (by decide) ?_
                refine lv_icmp_ne (tgt := 224) hx hb dL_areNeedsSo_217 (by decide) (fun c28 => absurd (by decide) c28) (fun _ => ?_)
                refine lv_iconst (v := 1) hx hb dL_areNeedsSo_220 (by decide) ?_
                refine lv_goto (tgt := 225) hx hb dL_areNeedsSo_221 (by decide) ?_
                refine lv_istore (lv' := [(4, .int 1), (5, .int ((-6))), (3, .int (nI (cn (C 0)))), (2, .int lx), (1, .int (nI sb)), (0, .ref (ad 0))]) hx hb dL_areNeedsSo_225 hl (by decide) rfl (fun ls hl => ?_)
                refine lv_iload hx hb dL_areNeedsSo_227 (lv_at hl 1 rfl) ?_
                refine lv_if_le (tgt := 322) hx hb dL_areNeedsSo_229 (by decide) (fun _ => ?_) (fun c29 => absurd (by decide) c29)
                refine lv_iload hx hb dL_areNeedsSo_322 (lv_at hl 0 rfl) ?_
                exact c_zret (v := 1) hx hb hr (by first | rfl | decide) hI (⟨rfl, ⟨_, hNI⟩, (by rw [hN0])⟩) dL_areNeedsSo_324 hlocks
            · skip
              have nc21 : ¬ (ln (C 0) < 4) := fun h => c21 ((nI_ltI (a := ln (C 0)) (b := 4) (by omega) (by omega)).mpr h)
              exact absurd nc21 (by omega)
        · skip
          have hNF0 : NF (N 0) R := by rw [hN0]; exact hNF
          have hln := hNF.1
          have hR1 := hNF.2.1
          have hR2 := hNF.2.2.1
          have hcwl := cwN_le (C 0) (cn (C 0))
          refine lv_aload_n hx hb dL_areNeedsSo_135 rfl (lv_at hl 5 rfl) ?_
          refine c_calli (As := []) (rest := []) hx hb hml hown hts hK hX hI 0 (by omega) cE_0 rfl (k_X5_ladderFor l dd g ad pi A hA N hNI.W hNI.g hNI.Ld) (cwV 0 hts gL_areNeedsSo_X5_ladderFor rfl rfl rfl (by decide +kernel) ⟨Nat.le_of_ble_eq_true rfl, Nat.le_of_ble_eq_true rfl⟩) rfl hl (Nat.le_of_ble_eq_true rfl) ⟨Nat.zero_le _, Nat.zero_le _⟩ dL_areNeedsSo_136 rfl (fun r C1 pi1 H locs h30 hI => ?_)
          obtain ⟨hr9, hc9, hp9⟩ := h30
          rw [hc9, hp9] at hI
          rw [hN0] at hr9
          rw [hlf] at hr9
          subst hr9
          refine lv_istore (lv' := [(5, .int (nI R)), (4, .int 1), (3, .int (nI (cn (C 0)))), (2, .int lx), (1, .int (nI sb)), (0, .ref (ad 0))]) hx hb dL_areNeedsSo_139 hl (by decide) rfl (fun ls hl => ?_)
          refine lv_iload hx hb dL_areNeedsSo_141 (lv_at hl 1 rfl) ?_
          refine lv_if_eq (tgt := 175) hx hb dL_areNeedsSo_143 (by decide) (fun c31 => absurd c31 (by decide)) (fun _ => ?_)
          refine lv_iload_n hx hb dL_areNeedsSo_146 rfl (lv_at hl 4 rfl) ?_
          refine lv_iconst (v := 1) hx hb dL_areNeedsSo_147 (by decide) ?_
          refine lv_iload_n hx hb dL_areNeedsSo_148 rfl (lv_at hl 2 rfl) ?_
          refine lv_ishl hx hb dL_areNeedsSo_149 ?_
          refine lv_iconst (v := 1) hx hb dL_areNeedsSo_150 (by decide) ?_
          refine lv_isub hx hb dL_areNeedsSo_151 ?_
          refine lv_icmp_ne (tgt := 175) hx hb dL_areNeedsSo_152 (by decide) (fun c32 => ?_) (fun c32 => ?_)
          · skip
            exact absurd (SB_n hs hn16) c32
          · skip
            refine lv_aload_n hx hb dL_areNeedsSo_155 rfl (lv_at hl 5 rfl) ?_
            refine lv_iconst (v := 2) hx hb dL_areNeedsSo_156 (by decide) ?_
            refine c_calli (As := [.int 2]) (rest := []) hx hb hml hown hts hK hX hI 0 (by omega) cE_0 rfl (k_X5_count l dd g ad pi A hA N hNI.W hNI.g hNI.Ld 2) (cwV 1 hts gL_areNeedsSo_X5_count rfl rfl rfl (by decide +kernel) ⟨Nat.le_of_ble_eq_true rfl, Nat.le_of_ble_eq_true rfl⟩) rfl hl (Nat.le_of_ble_eq_true rfl) ⟨Nat.zero_le _, Nat.zero_le _⟩ dL_areNeedsSo_157 rfl (fun r C1 pi1 H locs h33 hI => ?_)
            obtain ⟨hr9, hc9, hp9⟩ := h33
            rw [hc9, hp9] at hI
            rw [hN0] at hr9
            rw [q_c2 hW] at hr9
            subst hr9
            refine lv_iconst (v := 4) hx hb dL_areNeedsSo_160 (by decide) ?_
            refine lv_icmp_lt (tgt := 171) hx hb dL_areNeedsSo_161 (by decide) (fun c34 => ?_) (fun c34 => ?_)
            · skip
              have nc34 : ln (C 0) < 4 := (nI_ltI (a := ln (C 0)) (b := 4) (by omega) (by omega)).mp c34
              refine lv_iconst (v := 1) hx hb dL_areNeedsSo_171 (by decide) ?_
              refine lv_goto (tgt := 176) hx hb dL_areNeedsSo_172 (by decide) ?_
              refine lv_istore (lv' := [(4, .int 1), (5, .int (nI R)), (3, .int (nI (cn (C 0)))), (2, .int lx), (1, .int (nI sb)), (0, .ref (ad 0))]) hx hb dL_areNeedsSo_176 hl (by decide) rfl (fun ls hl => ?_)
              refine lv_aload_n hx hb dL_areNeedsSo_178 rfl (lv_at hl 5 rfl) ?_
              refine lv_iconst (v := 2) hx hb dL_areNeedsSo_179 (by decide) ?_
              refine c_calli (As := [.int 2]) (rest := []) hx hb hml hown hts hK hX hI 0 (by omega) cE_0 rfl (k_X5_count l dd g ad pi A hA N hNI.W hNI.g hNI.Ld 2) (cwV 1 hts gL_areNeedsSo_X5_count rfl rfl rfl (by decide +kernel) ⟨Nat.le_of_ble_eq_true rfl, Nat.le_of_ble_eq_true rfl⟩) rfl hl (Nat.le_of_ble_eq_true rfl) ⟨Nat.zero_le _, Nat.zero_le _⟩ dL_areNeedsSo_180 rfl (fun r C1 pi1 H locs h35 hI => ?_)
              obtain ⟨hr9, hc9, hp9⟩ := h35
              rw [hc9, hp9] at hI
              rw [hN0] at hr9
              rw [q_c2 hW] at hr9
              subst hr9
              refine lv_iconst (v := 4) hx hb dL_areNeedsSo_183 (by decide) ?_
              refine lv_icmp_ge (tgt := 322) hx hb dL_areNeedsSo_184 (by decide) (fun c36 => ?_) (fun c36 => ?_)
              · skip
                have nc36 : 4 ≤ ln (C 0) := (nI_leI (a := 4) (b := ln (C 0)) (by omega) (by omega)).mp c36
                exact absurd nc36 (by omega)
              · skip
                have nc36 : ¬ (4 ≤ ln (C 0)) := fun h => c36 ((nI_leI (a := 4) (b := ln (C 0)) (by omega) (by omega)).mpr h)
                refine lv_iload hx hb dL_areNeedsSo_187 (lv_at hl 0 rfl) ?_
                refine lv_if_eq (tgt := 224) hx hb dL_areNeedsSo_189 (by decide) (fun c37 => absurd c37 (by decide)) (fun _ => ?_)
                refine lv_iload hx hb dL_areNeedsSo_192 (lv_at hl 1 rfl) ?_
                refine lv_bipush (v := (-6)) hx hb dL_areNeedsSo_194 (by decide) ?_
                refine lv_icmp_ne (tgt := 203) hx hb dL_areNeedsSo_196 (by decide) (fun c38 => ?_) (fun c38 => ?_)
                · skip
                  refine lv_iconst (v := 0) hx hb dL_areNeedsSo_203 (by decide) ?_
                  refine lv_aload_n hx hb dL_areNeedsSo_204 rfl (lv_at hl 5 rfl) ?_
                  refine lv_iconst (v := 5) hx hb dL_areNeedsSo_205 (by decide) ?_
                  refine c_calli (As := [.int 5]) (rest := [.int 0]) hx hb hml hown hts hK hX hI 0 (by omega) cE_0 rfl (k_X5_count l dd g ad pi A hA N hNI.W hNI.g hNI.Ld 5) (cwV 1 hts gL_areNeedsSo_X5_count rfl rfl rfl (by decide +kernel) ⟨Nat.le_of_ble_eq_true rfl, Nat.le_of_ble_eq_true rfl⟩) rfl hl (Nat.le_of_ble_eq_true rfl) ⟨Nat.zero_le _, Nat.zero_le _⟩ dL_areNeedsSo_206 rfl (fun r C1 pi1 H locs h39 hI => ?_)
                  obtain ⟨hr9, hc9, hp9⟩ := h39
                  rw [hc9, hp9] at hI
                  rw [hN0] at hr9
                  rw [q_c5] at hr9
                  subst hr9
                  refine lv_if_ne (tgt := 216) hx hb dL_areNeedsSo_209 (by decide) (fun c40 => ?_) (fun c40 => ?_)
                  · skip
                    have nc40 : ¬ (cwN (C 0) (cn (C 0)) = 0) := fun h => c40 ((nI_eq (a := cwN (C 0) (cn (C 0))) (b := 0) (by omega) (by omega)).mpr h)
                    refine lv_iconst (v := 0) hx hb dL_areNeedsSo_216 (by decide) ?_
                    refine lv_icmp_ne (tgt := 224) hx hb dL_areNeedsSo_217 (by decide) (fun c41 => absurd (by decide) c41) (fun _ => ?_)
                    refine lv_iconst (v := 1) hx hb dL_areNeedsSo_220 (by decide) ?_
                    refine lv_goto (tgt := 225) hx hb dL_areNeedsSo_221 (by decide) ?_
                    refine lv_istore (lv' := [(4, .int 1), (5, .int (nI R)), (3, .int (nI (cn (C 0)))), (2, .int lx), (1, .int (nI sb)), (0, .ref (ad 0))]) hx hb dL_areNeedsSo_225 hl (by decide) rfl (fun ls hl => ?_)
                    refine lv_iload hx hb dL_areNeedsSo_227 (lv_at hl 1 rfl) ?_
                    refine lv_if_le (tgt := 322) hx hb dL_areNeedsSo_229 (by decide) (fun c42 => ?_) (fun c42 => ?_)
                    · skip
                      have nc42 : R ≤ 0 := (nI_leI (a := R) (b := 0) (by omega) (by omega)).mp c42
                      exact absurd nc42 (by omega)
                    · skip
                      have nc42 : ¬ (R ≤ 0) := fun h => c42 ((nI_leI (a := R) (b := 0) (by omega) (by omega)).mpr h)
                      refine lv_iload hx hb dL_areNeedsSo_232 (lv_at hl 1 rfl) ?_
                      refine lv_iconst (v := 1) hx hb dL_areNeedsSo_234 (by decide) ?_
                      refine lv_icmp_le (tgt := 249) hx hb dL_areNeedsSo_235 (by decide) (fun c43 => ?_) (fun c43 => ?_)
                      · skip
                        have nc43 : R ≤ 1 := (nI_leI (a := R) (b := 1) (by omega) (by omega)).mp c43
                        refine lv_iconst (v := 0) hx hb dL_areNeedsSo_249 (by decide) ?_
                        refine lv_istore (lv' := [(6, .int 0), (4, .int 1), (5, .int (nI R)), (3, .int (nI (cn (C 0)))), (2, .int lx), (1, .int (nI sb)), (0, .ref (ad 0))]) hx hb dL_areNeedsSo_250 hl (by decide) rfl (fun ls hl => ?_)
                        refine lv_iload hx hb dL_areNeedsSo_252 (lv_at hl 1 rfl) ?_
                        refine lv_if_eq (tgt := 269) hx hb dL_areNeedsSo_254 (by decide) (fun c44 => absurd c44 (by decide)) (fun _ => ?_)
                        refine lv_aload_n hx hb dL_areNeedsSo_257 rfl (lv_at hl 6 rfl) ?_
                        refine lv_iconst (v := 5) hx hb dL_areNeedsSo_258 (by decide) ?_
                        refine c_calli (As := [.int 5]) (rest := []) hx hb hml hown hts hK hX hI 0 (by omega) cE_0 rfl (k_X5_count l dd g ad pi A hA N hNI.W hNI.g hNI.Ld 5) (cwV 1 hts gL_areNeedsSo_X5_count rfl rfl rfl (by decide +kernel) ⟨Nat.le_of_ble_eq_true rfl, Nat.le_of_ble_eq_true rfl⟩) rfl hl (Nat.le_of_ble_eq_true rfl) ⟨Nat.zero_le _, Nat.zero_le _⟩ dL_areNeedsSo_259 rfl (fun r C1 pi1 H locs h45 hI => ?_)
                        obtain ⟨hr9, hc9, hp9⟩ := h45
                        rw [hc9, hp9] at hI
                        rw [hN0] at hr9
                        rw [q_c5] at hr9
                        subst hr9
                        refine lv_if_le (tgt := 269) hx hb dL_areNeedsSo_262 (by decide) (fun c46 => ?_) (fun c46 => ?_)
                        · skip
                          have nc46 : cwN (C 0) (cn (C 0)) ≤ 0 := (nI_leI (a := cwN (C 0) (cn (C 0))) (b := 0) (by omega) (by omega)).mp c46
                          exact absurd nc46 (by omega)
                        · skip
                          have nc46 : ¬ (cwN (C 0) (cn (C 0)) ≤ 0) := fun h => c46 ((nI_leI (a := cwN (C 0) (cn (C 0))) (b := 0) (by omega) (by omega)).mpr h)
                          refine lv_iconst (v := 1) hx hb dL_areNeedsSo_265 (by decide) ?_
                          refine lv_goto (tgt := 270) hx hb dL_areNeedsSo_266 (by decide) ?_
                          refine lv_istore (lv' := [(4, .int 1), (6, .int 0), (5, .int (nI R)), (3, .int (nI (cn (C 0)))), (2, .int lx), (1, .int (nI sb)), (0, .ref (ad 0))]) hx hb dL_areNeedsSo_270 hl (by decide) rfl (fun ls hl => ?_)
                          refine lv_iload hx hb dL_areNeedsSo_272 (lv_at hl 2 rfl) ?_
                          refine lv_iconst (v := 1) hx hb dL_areNeedsSo_274 (by decide) ?_
                          refine lv_icmp_le (tgt := 285) hx hb dL_areNeedsSo_275 (by decide) (fun c47 => ?_) (fun c47 => ?_)
                          · skip
                            have nc47 : R ≤ 1 := (nI_leI (a := R) (b := 1) (by omega) (by omega)).mp c47
                            refine lv_iconst (v := 0) hx hb dL_areNeedsSo_285 (by decide) ?_
                            refine lv_istore (lv' := [(7, .int 0), (4, .int 1), (6, .int 0), (5, .int (nI R)), (3, .int (nI (cn (C 0)))), (2, .int lx), (1, .int (nI sb)), (0, .ref (ad 0))]) hx hb dL_areNeedsSo_286 hl (by decide) rfl (fun ls hl => ?_)
                            refine lv_aload_n hx hb dL_areNeedsSo_288 rfl (lv_at hl 7 rfl) ?_
                            refine lv_iload hx hb dL_areNeedsSo_289 (lv_at hl 3 rfl) ?_
                            refine c_calli (As := [.int (nI R)]) (rest := []) hx hb hml hown hts hK hX hI 0 (by omega) cE_0 rfl (k_X5_ladder l dd g ad pi A hA N d hNI.1 hNI.2.1 hNI.2.2.1 hNI.W hNI.g (nI R)) (cwV 1 hts gL_areNeedsSo_X5_ladder rfl rfl rfl (by decide +kernel) ⟨Nat.le_of_ble_eq_true rfl, Nat.le_of_ble_eq_true rfl⟩) rfl hl (Nat.le_of_ble_eq_true rfl) ⟨Nat.zero_le _, Nat.zero_le _⟩ dL_areNeedsSo_291 rfl (fun r55 N48 P49 H locs h56 hI => ?_)
                            obtain ⟨hr9, ho9⟩ := h56
                            obtain ⟨d52, i50, e51, t54⟩ := IN.op hNI ho9 (ck_lad hNI.2.2.2.1 hNI.g _) (Nat.le_refl _)
                            have z53 := t54 (NF_full hNI.V hNF0).1
                            have hd52 := cwN_le (N48 0) (cn (N48 0))
                            have gd52 := i50.n16
                            have fd52 := i50.1
                            have kd52 : cwN (N48 0) (cn (N48 0)) = 0 := by rw [e51]; exact (NF_full hNI.V hNF0).2
                            refine lv_istore (lv' := [(6, .int r55), (7, .int 0), (4, .int 1), (5, .int (nI R)), (3, .int (nI (cn (C 0)))), (2, .int lx), (1, .int (nI sb)), (0, .ref (ad 0))]) hx hb dL_areNeedsSo_294 hl (by decide) rfl (fun ls hl => ?_)
                            refine lv_iload hx hb dL_areNeedsSo_296 (lv_at hl 2 rfl) ?_
                            refine lv_if_eq (tgt := 313) hx hb dL_areNeedsSo_298 (by decide) (fun c57 => absurd c57 (by decide)) (fun _ => ?_)
                            refine lv_aload_n hx hb dL_areNeedsSo_301 rfl (lv_at hl 7 rfl) ?_
                            refine lv_iconst (v := 5) hx hb dL_areNeedsSo_302 (by decide) ?_
                            refine c_calli (As := [.int 5]) (rest := []) hx hb hml hown hts hK hX hI 0 (by omega) cE_0 rfl (k_X5_count l dd g ad P49 A hA N48 i50.W i50.g i50.Ld 5) (cwV 1 hts gL_areNeedsSo_X5_count rfl rfl rfl (by decide +kernel) ⟨Nat.le_of_ble_eq_true rfl, Nat.le_of_ble_eq_true rfl⟩) rfl hl (Nat.le_of_ble_eq_true rfl) ⟨Nat.zero_le _, Nat.zero_le _⟩ dL_areNeedsSo_303 rfl (fun r C1 pi1 H locs h58 hI => ?_)
                            obtain ⟨hr9, hc9, hp9⟩ := h58
                            rw [hc9, hp9] at hI
                            rw [q_c5] at hr9
                            rw [kd52, nI_0] at hr9
                            subst hr9
                            refine lv_if_ne (tgt := 313) hx hb dL_areNeedsSo_306 (by decide) (fun c59 => absurd (by decide) c59) (fun _ => ?_)
                            refine lv_iconst (v := 1) hx hb dL_areNeedsSo_309 (by decide) ?_
                            refine lv_goto (tgt := 314) hx hb dL_areNeedsSo_310 (by decide) ?_
                            refine lv_istore (lv' := [(4, .int 1), (6, .int r55), (7, .int 0), (5, .int (nI R)), (3, .int (nI (cn (C 0)))), (2, .int lx), (1, .int (nI sb)), (0, .ref (ad 0))]) hx hb dL_areNeedsSo_314 hl (by decide) rfl (fun ls hl => ?_)
                            refine lv_aload_n hx hb dL_areNeedsSo_316 rfl (lv_at hl 7 rfl) ?_
                            refine c_calli (As := []) (rest := []) hx hb hml hown hts hK hX hI 0 (by omega) cE_0 rfl (k_X5_undo l dd g ad P49 A hA N48 d52 i50.1 i50.2.1 i50.2.2.1 i50.hist) (cwV 0 hts gL_areNeedsSo_X5_undo rfl rfl rfl (by decide +kernel) ⟨Nat.le_of_ble_eq_true rfl, Nat.le_of_ble_eq_true rfl⟩) rfl hl (Nat.le_of_ble_eq_true rfl) ⟨Nat.zero_le _, Nat.zero_le _⟩ dL_areNeedsSo_317 rfl (fun r N60 pi1 H locs h66 hI => ?_)
                            obtain ⟨hr9, hc9, hp9⟩ := un_ok z53.1 h66
                            rw [hp9] at hI
                            obtain ⟨i61, o62, s63⟩ := IN.un i50 z53.1 z53.2.1 hNI.2.2.2.1 hc9
                            subst hr9
                            clear hc9
                            have q64 : cn (N60 0) = cn (C 0) := o62.ec.trans (by rw [hN0])
                            have n65 := NF.ro hNF0 o62
                            refine lv_istore (lv' := [(7, .int (nI (d52 - 1))), (4, .int 1), (6, .int r55), (5, .int (nI R)), (3, .int (nI (cn (C 0)))), (2, .int lx), (1, .int (nI sb)), (0, .ref (ad 0))]) hx hb dL_areNeedsSo_320 hl (by decide) rfl (fun ls hl => ?_)
                            refine lv_iload hx hb dL_areNeedsSo_322 (lv_at hl 1 rfl) ?_
                            exact c_zret (v := 1) hx hb hr (by first | rfl | decide) hI (⟨rfl, ⟨_, i61⟩, q64⟩) dL_areNeedsSo_324 hlocks
                          · skip
                            have nc47 : ¬ (R ≤ 1) := fun h => c47 ((nI_leI (a := R) (b := 1) (by omega) (by omega)).mpr h)
                            exact absurd nc47 (by omega)
                      · skip
                        have nc43 : ¬ (R ≤ 1) := fun h => c43 ((nI_leI (a := R) (b := 1) (by omega) (by omega)).mpr h)
                        refine lv_aload_n hx hb dL_areNeedsSo_238 rfl (lv_at hl 5 rfl) ?_
                        refine lv_iload hx hb dL_areNeedsSo_239 (lv_at hl 1 rfl) ?_
                        refine lv_iconst (v := 1) hx hb dL_areNeedsSo_241 (by decide) ?_
                        refine lv_isub hx hb dL_areNeedsSo_242 ?_
                        refine lv_re (y := nI (R - 1)) (pk_sub (a := R) (b := 1) (by omega)) ?_
                        refine c_calli (As := [.int (nI (R - 1))]) (rest := []) hx hb hml hown hts hK hX hI 0 (by omega) cE_0 rfl (k_X5_ladder l dd g ad pi A hA N d hNI.1 hNI.2.1 hNI.2.2.1 hNI.W hNI.g (nI (R - 1))) (cwV 1 hts gL_areNeedsSo_X5_ladder rfl rfl rfl (by decide +kernel) ⟨Nat.le_of_ble_eq_true rfl, Nat.le_of_ble_eq_true rfl⟩) rfl hl (Nat.le_of_ble_eq_true rfl) ⟨Nat.zero_le _, Nat.zero_le _⟩ dL_areNeedsSo_243 rfl (fun r74 N67 P68 H locs h75 hI => ?_)
                        obtain ⟨hr9, ho9⟩ := h75
                        obtain ⟨d71, i69, e70, t73⟩ := IN.op hNI ho9 (ck_lad hNI.2.2.2.1 hNI.g _) (Nat.le_refl _)
                        have z72 := t73 (NF_less hNI.V hNF0 (by omega)).1
                        have hd71 := cwN_le (N67 0) (cn (N67 0))
                        have gd71 := i69.n16
                        have fd71 := i69.1
                        have kd71 : 0 < cwN (N67 0) (cn (N67 0)) := by rw [e70]; exact (NF_less hNI.V hNF0 (by omega)).2
                        refine lv_goto (tgt := 250) hx hb dL_areNeedsSo_246 (by decide) ?_
                        refine lv_istore (lv' := [(6, .int r74), (4, .int 1), (5, .int (nI R)), (3, .int (nI (cn (C 0)))), (2, .int lx), (1, .int (nI sb)), (0, .ref (ad 0))]) hx hb dL_areNeedsSo_250 hl (by decide) rfl (fun ls hl => ?_)
                        refine lv_iload hx hb dL_areNeedsSo_252 (lv_at hl 1 rfl) ?_
                        refine lv_if_eq (tgt := 269) hx hb dL_areNeedsSo_254 (by decide) (fun c76 => absurd c76 (by decide)) (fun _ => ?_)
                        refine lv_aload_n hx hb dL_areNeedsSo_257 rfl (lv_at hl 6 rfl) ?_
                        refine lv_iconst (v := 5) hx hb dL_areNeedsSo_258 (by decide) ?_
                        refine c_calli (As := [.int 5]) (rest := []) hx hb hml hown hts hK hX hI 0 (by omega) cE_0 rfl (k_X5_count l dd g ad P68 A hA N67 i69.W i69.g i69.Ld 5) (cwV 1 hts gL_areNeedsSo_X5_count rfl rfl rfl (by decide +kernel) ⟨Nat.le_of_ble_eq_true rfl, Nat.le_of_ble_eq_true rfl⟩) rfl hl (Nat.le_of_ble_eq_true rfl) ⟨Nat.zero_le _, Nat.zero_le _⟩ dL_areNeedsSo_259 rfl (fun r C1 pi1 H locs h77 hI => ?_)
                        obtain ⟨hr9, hc9, hp9⟩ := h77
                        rw [hc9, hp9] at hI
                        rw [q_c5] at hr9
                        subst hr9
                        refine lv_if_le (tgt := 269) hx hb dL_areNeedsSo_262 (by decide) (fun c78 => ?_) (fun c78 => ?_)
                        · skip
                          have nc78 : cwN (N67 0) (cn (N67 0)) ≤ 0 := (nI_leI (a := cwN (N67 0) (cn (N67 0))) (b := 0) (by omega) (by omega)).mp c78
                          exact absurd nc78 (by omega)
                        · skip
                          have nc78 : ¬ (cwN (N67 0) (cn (N67 0)) ≤ 0) := fun h => c78 ((nI_leI (a := cwN (N67 0) (cn (N67 0))) (b := 0) (by omega) (by omega)).mpr h)
                          refine lv_iconst (v := 1) hx hb dL_areNeedsSo_265 (by decide) ?_
                          refine lv_goto (tgt := 270) hx hb dL_areNeedsSo_266 (by decide) ?_
                          refine lv_istore (lv' := [(4, .int 1), (6, .int r74), (5, .int (nI R)), (3, .int (nI (cn (C 0)))), (2, .int lx), (1, .int (nI sb)), (0, .ref (ad 0))]) hx hb dL_areNeedsSo_270 hl (by decide) rfl (fun ls hl => ?_)
                          refine lv_iload hx hb dL_areNeedsSo_272 (lv_at hl 2 rfl) ?_
                          refine lv_iconst (v := 1) hx hb dL_areNeedsSo_274 (by decide) ?_
                          refine lv_icmp_le (tgt := 285) hx hb dL_areNeedsSo_275 (by decide) (fun c79 => ?_) (fun c79 => ?_)
                          · skip
                            have nc79 : R ≤ 1 := (nI_leI (a := R) (b := 1) (by omega) (by omega)).mp c79
                            exact absurd nc79 (by omega)
                          · skip
                            have nc79 : ¬ (R ≤ 1) := fun h => c79 ((nI_leI (a := R) (b := 1) (by omega) (by omega)).mpr h)
                            refine lv_aload_n hx hb dL_areNeedsSo_278 rfl (lv_at hl 6 rfl) ?_
                            refine c_calli (As := []) (rest := []) hx hb hml hown hts hK hX hI 0 (by omega) cE_0 rfl (k_X5_undo l dd g ad P68 A hA N67 d71 i69.1 i69.2.1 i69.2.2.1 i69.hist) (cwV 0 hts gL_areNeedsSo_X5_undo rfl rfl rfl (by decide +kernel) ⟨Nat.le_of_ble_eq_true rfl, Nat.le_of_ble_eq_true rfl⟩) rfl hl (Nat.le_of_ble_eq_true rfl) ⟨Nat.zero_le _, Nat.zero_le _⟩ dL_areNeedsSo_279 rfl (fun r N80 pi1 H locs h86 hI => ?_)
                            obtain ⟨hr9, hc9, hp9⟩ := un_ok z72.1 h86
                            rw [hp9] at hI
                            obtain ⟨i81, o82, s83⟩ := IN.un i69 z72.1 z72.2.1 hNI.2.2.2.1 hc9
                            subst hr9
                            clear hc9
                            have q84 : cn (N80 0) = cn (C 0) := o82.ec.trans (by rw [hN0])
                            have n85 := NF.ro hNF0 o82
                            refine lv_goto (tgt := 286) hx hb dL_areNeedsSo_282 (by decide) ?_
                            refine lv_istore (lv' := [(7, .int (nI (d71 - 1))), (4, .int 1), (6, .int r74), (5, .int (nI R)), (3, .int (nI (cn (C 0)))), (2, .int lx), (1, .int (nI sb)), (0, .ref (ad 0))]) hx hb dL_areNeedsSo_286 hl (by decide) rfl (fun ls hl => ?_)
                            refine lv_aload_n hx hb dL_areNeedsSo_288 rfl (lv_at hl 7 rfl) ?_
                            refine lv_iload hx hb dL_areNeedsSo_289 (lv_at hl 3 rfl) ?_
                            refine c_calli (As := [.int (nI R)]) (rest := []) hx hb hml hown hts hK hX hI 0 (by omega) cE_0 rfl (k_X5_ladder l dd g ad P68 A hA N80 (d71 - 1) i81.1 i81.2.1 i81.2.2.1 i81.W i81.g (nI R)) (cwV 1 hts gL_areNeedsSo_X5_ladder rfl rfl rfl (by decide +kernel) ⟨Nat.le_of_ble_eq_true rfl, Nat.le_of_ble_eq_true rfl⟩) rfl hl (Nat.le_of_ble_eq_true rfl) ⟨Nat.zero_le _, Nat.zero_le _⟩ dL_areNeedsSo_291 rfl (fun r94 N87 P88 H locs h95 hI => ?_)
                            obtain ⟨hr9, ho9⟩ := h95
                            obtain ⟨d91, i89, e90, t93⟩ := IN.op i81 ho9 (ck_lad i81.2.2.2.1 i81.g _) (Nat.le_refl _)
                            have z92 := t93 (NF_full i81.V n85).1
                            have hd91 := cwN_le (N87 0) (cn (N87 0))
                            have gd91 := i89.n16
                            have fd91 := i89.1
                            have kd91 : cwN (N87 0) (cn (N87 0)) = 0 := by rw [e90]; exact (NF_full i81.V n85).2
                            refine lv_istore (lv' := [(6, .int r94), (7, .int (nI (d71 - 1))), (4, .int 1), (5, .int (nI R)), (3, .int (nI (cn (C 0)))), (2, .int lx), (1, .int (nI sb)), (0, .ref (ad 0))]) hx hb dL_areNeedsSo_294 hl (by decide) rfl (fun ls hl => ?_)
                            refine lv_iload hx hb dL_areNeedsSo_296 (lv_at hl 2 rfl) ?_
                            refine lv_if_eq (tgt := 313) hx hb dL_areNeedsSo_298 (by decide) (fun c96 => absurd c96 (by decide)) (fun _ => ?_)
                            refine lv_aload_n hx hb dL_areNeedsSo_301 rfl (lv_at hl 7 rfl) ?_
                            refine lv_iconst (v := 5) hx hb dL_areNeedsSo_302 (by decide) ?_
                            refine c_calli (As := [.int 5]) (rest := []) hx hb hml hown hts hK hX hI 0 (by omega) cE_0 rfl (k_X5_count l dd g ad P88 A hA N87 i89.W i89.g i89.Ld 5) (cwV 1 hts gL_areNeedsSo_X5_count rfl rfl rfl (by decide +kernel) ⟨Nat.le_of_ble_eq_true rfl, Nat.le_of_ble_eq_true rfl⟩) rfl hl (Nat.le_of_ble_eq_true rfl) ⟨Nat.zero_le _, Nat.zero_le _⟩ dL_areNeedsSo_303 rfl (fun r C1 pi1 H locs h97 hI => ?_)
                            obtain ⟨hr9, hc9, hp9⟩ := h97
                            rw [hc9, hp9] at hI
                            rw [q_c5] at hr9
                            rw [kd91, nI_0] at hr9
                            subst hr9
                            refine lv_if_ne (tgt := 313) hx hb dL_areNeedsSo_306 (by decide) (fun c98 => absurd (by decide) c98) (fun _ => ?_)
                            refine lv_iconst (v := 1) hx hb dL_areNeedsSo_309 (by decide) ?_
                            refine lv_goto (tgt := 314) hx hb dL_areNeedsSo_310 (by decide) ?_
                            refine lv_istore (lv' := [(4, .int 1), (6, .int r94), (7, .int (nI (d71 - 1))), (5, .int (nI R)), (3, .int (nI (cn (C 0)))), (2, .int lx), (1, .int (nI sb)), (0, .ref (ad 0))]) hx hb dL_areNeedsSo_314 hl (by decide) rfl (fun ls hl => ?_)
                            refine lv_aload_n hx hb dL_areNeedsSo_316 rfl (lv_at hl 7 rfl) ?_
                            refine c_calli (As := []) (rest := []) hx hb hml hown hts hK hX hI 0 (by omega) cE_0 rfl (k_X5_undo l dd g ad P88 A hA N87 d91 i89.1 i89.2.1 i89.2.2.1 i89.hist) (cwV 0 hts gL_areNeedsSo_X5_undo rfl rfl rfl (by decide +kernel) ⟨Nat.le_of_ble_eq_true rfl, Nat.le_of_ble_eq_true rfl⟩) rfl hl (Nat.le_of_ble_eq_true rfl) ⟨Nat.zero_le _, Nat.zero_le _⟩ dL_areNeedsSo_317 rfl (fun r N99 pi1 H locs h105 hI => ?_)
                            obtain ⟨hr9, hc9, hp9⟩ := un_ok z92.1 h105
                            rw [hp9] at hI
                            obtain ⟨i100, o101, s102⟩ := IN.un i89 z92.1 z92.2.1 i81.2.2.2.1 hc9
                            subst hr9
                            clear hc9
                            have q103 : cn (N99 0) = cn (C 0) := o101.ec.trans q84
                            have n104 := NF.ro n85 o101
                            refine lv_istore (lv' := [(7, .int (nI (d91 - 1))), (4, .int 1), (6, .int r94), (5, .int (nI R)), (3, .int (nI (cn (C 0)))), (2, .int lx), (1, .int (nI sb)), (0, .ref (ad 0))]) hx hb dL_areNeedsSo_320 hl (by decide) rfl (fun ls hl => ?_)
                            refine lv_iload hx hb dL_areNeedsSo_322 (lv_at hl 1 rfl) ?_
                            exact c_zret (v := 1) hx hb hr (by first | rfl | decide) hI (⟨rfl, ⟨_, i100⟩, q103⟩) dL_areNeedsSo_324 hlocks
                  · skip
                    have nc40 : cwN (C 0) (cn (C 0)) = 0 := (nI_eq (a := cwN (C 0) (cn (C 0))) (b := 0) (by omega) (by omega)).mp c40
                    exact absurd nc40 (by omega)
                · skip
                  exact absurd c38 (nI_nm (by omega))
            · skip
              have nc34 : ¬ (ln (C 0) < 4) := fun h => c34 ((nI_ltI (a := ln (C 0)) (b := 4) (by omega) (by omega)).mpr h)
              exact absurd nc34 (by omega)
      · skip
        have nc8 : ¬ (cn (C 0) ≤ k) := fun h => c8 ((nI_leI (a := cn (C 0)) (b := k) (by omega) (by omega)).mpr h)
        have hk : k < cn (C 0) := by omega
        refine lv_aload_n hx hb dL_areNeedsSo_35 rfl (lv_at hl 5 rfl) ?_
        refine lv_iload hx hb dL_areNeedsSo_36 (lv_at hl 0 rfl) ?_
        refine c_calli (As := [.int (nI k)]) (rest := []) hx hb hml hown hts hK hX hI 0 (by omega) cE_0 rfl (k_X5_needs l dd g ad pi A hA N hNI.W hNI.g hNI.Tt (nI k)) (cwV 1 hts gL_areNeedsSo_X5_needs rfl rfl rfl (by decide +kernel) ⟨Nat.le_of_ble_eq_true rfl, Nat.le_of_ble_eq_true rfl⟩) rfl hl (Nat.le_of_ble_eq_true rfl) ⟨Nat.zero_le _, Nat.zero_le _⟩ dL_areNeedsSo_38 rfl (fun r N106 pi1 H locs h111 hI => ?_)
        obtain ⟨hr9, ⟨w9, hw9⟩, hp9⟩ := h111
        rw [hp9] at hI
        have e109 : N106 0 = (C 0) := by rw [hw9, mrow_n _ (by decide)]; exact hN0
        have i108 : IN N106 pi d Bn := by rw [hw9]; exact hNI.m15
        rw [hN0] at hr9
        obtain ⟨c110, hc110⟩ := RK_ex hn16 hk
        rw [neC_rank hn16 hc110] at hr9
        subst hr9
        clear hw9
        refine lv_istore (lv' := [(6, .int (nI c110)), (5, .int (nI k)), (4, .int 1), (3, .int (nI (cn (C 0)))), (2, .int lx), (1, .int (nI sb)), (0, .ref (ad 0))]) hx hb dL_areNeedsSo_41 hl (by decide) rfl (fun ls hl => ?_)
        refine lv_bipush (v := 16) hx hb dL_areNeedsSo_43 (by decide) ?_
        refine lv_aload_n hx hb dL_areNeedsSo_45 rfl (lv_at hl 6 rfl) ?_
        refine lv_iload hx hb dL_areNeedsSo_46 (lv_at hl 0 rfl) ?_
        refine c_calli (As := [.int (nI c110)]) (rest := [.int 16]) hx hb hml hown hts hK hX hI 0 (by omega) cE_0 rfl (k_X5_lasts l dd g ad pi A hA N106 i108.W i108.g i108.Tt (nI c110)) (cwV 1 hts gL_areNeedsSo_X5_lasts rfl rfl rfl (by decide +kernel) ⟨Nat.le_of_ble_eq_true rfl, Nat.le_of_ble_eq_true rfl⟩) rfl hl (Nat.le_of_ble_eq_true rfl) ⟨Nat.zero_le _, Nat.zero_le _⟩ dL_areNeedsSo_48 rfl (fun r C1 pi1 H locs h112 hI => ?_)
        obtain ⟨hr9, hc9, hp9⟩ := h112
        rw [hc9, hp9] at hI
        rw [e109] at hr9
        rw [q_las hW hc110.1] at hr9
        subst hr9
        refine lv_imul hx hb dL_areNeedsSo_51 ?_
        refine lv_re (y := nI (16 * (duS (C 0) c110))) (pk_mul (16) (duS (C 0) c110)) ?_
        refine lv_iload hx hb dL_areNeedsSo_52 (lv_at hl 0 rfl) ?_
        refine lv_iadd hx hb dL_areNeedsSo_54 ?_
        refine lv_re (y := nI (16 * (duS (C 0) c110) + c110)) (nI_add (16 * (duS (C 0) c110)) (c110)) ?_
        refine lv_istore (lv' := [(7, .int (nI (16 * (duS (C 0) c110) + c110))), (6, .int (nI c110)), (5, .int (nI k)), (4, .int 1), (3, .int (nI (cn (C 0)))), (2, .int lx), (1, .int (nI sb)), (0, .ref (ad 0))]) hx hb dL_areNeedsSo_55 hl (by decide) rfl (fun ls hl => ?_)
        refine lv_iload_n hx hb dL_areNeedsSo_57 rfl (lv_at hl 6 rfl) ?_
        refine lv_iconst (v := 1) hx hb dL_areNeedsSo_58 (by decide) ?_
        refine lv_iload hx hb dL_areNeedsSo_59 (lv_at hl 1 rfl) ?_
        refine lv_ishl hx hb dL_areNeedsSo_61 ?_
        refine lv_ior hx hb dL_areNeedsSo_62 ?_
        refine lv_re (y := nI (sb ||| 2 ^ c110)) (SB_or hs (by have := hc110.1; omega)) ?_
        refine lv_istore_n (lv' := [(1, .int (nI (sb ||| 2 ^ c110))), (7, .int (nI (16 * (duS (C 0) c110) + c110))), (6, .int (nI c110)), (5, .int (nI k)), (4, .int 1), (3, .int (nI (cn (C 0)))), (2, .int lx), (0, .ref (ad 0))]) hx hb dL_areNeedsSo_63 rfl hl (by decide) rfl (fun ls hl => ?_)
        refine lv_iload hx hb dL_areNeedsSo_64 (lv_at hl 4 rfl) ?_
        refine lv_if_eq (tgt := 123) hx hb dL_areNeedsSo_66 (by decide) (fun c113 => absurd c113 (by decide)) (fun _ => ?_)
        refine lv_iload hx hb dL_areNeedsSo_69 (lv_at hl 1 rfl) ?_
        refine lv_iload_n hx hb dL_areNeedsSo_71 rfl (lv_at hl 6 rfl) ?_
        refine lv_icmp_le (tgt := 123) hx hb dL_areNeedsSo_72 (by decide) (fun c114 => ?_) (fun c114 => ?_)
        · skip
          exact absurd c114 (LB_gt hIN.Tt hn16 hlb hc110)
        · skip
          rcases hoff : offB (C 0) c110 (C 0 0)
          · skip
            have hdp := duS_p hoff
            have hd31 := duS_31 hIN.Tt c110
            refine lv_aload_n hx hb dL_areNeedsSo_75 rfl (lv_at hl 7 rfl) ?_
            refine lv_iload hx hb dL_areNeedsSo_76 (lv_at hl 2 rfl) ?_
            refine c_calli (As := [.int (nI c110)]) (rest := []) hx hb hml hown hts hK hX hI 0 (by omega) cE_0 rfl (k_X5_lasts l dd g ad pi A hA N106 i108.W i108.g i108.Tt (nI c110)) (cwV 1 hts gL_areNeedsSo_X5_lasts rfl rfl rfl (by decide +kernel) ⟨Nat.le_of_ble_eq_true rfl, Nat.le_of_ble_eq_true rfl⟩) rfl hl (Nat.le_of_ble_eq_true rfl) ⟨Nat.zero_le _, Nat.zero_le _⟩ dL_areNeedsSo_78 rfl (fun r C1 pi1 H locs h115 hI => ?_)
            obtain ⟨hr9, hc9, hp9⟩ := h115
            rw [hc9, hp9] at hI
            rw [e109] at hr9
            rw [q_las hW hc110.1] at hr9
            subst hr9
            refine lv_if_ne (tgt := 88) hx hb dL_areNeedsSo_81 (by decide) (fun c116 => ?_) (fun c116 => ?_)
            · skip
              have nc116 : ¬ (duS (C 0) c110 = 0) := fun h => c116 ((nI_eq (a := duS (C 0) c110) (b := 0) (by omega) (by omega)).mpr h)
              refine lv_iconst (v := 0) hx hb dL_areNeedsSo_88 (by decide) ?_
              refine lv_aload_n hx hb dL_areNeedsSo_89 rfl (lv_at hl 7 rfl) ?_
              refine lv_iload hx hb dL_areNeedsSo_90 (lv_at hl 2 rfl) ?_
              refine lv_bipush (v := 7) hx hb dL_areNeedsSo_92 (by decide) ?_
              refine c_calli (As := [.int (nI c110), .int 7]) (rest := [.int 0]) hx hb hml hown hts hK hX hI 0 (by omega) cE_0 rfl (k_X5_of l dd g ad pi A hA N106 i108.W i108.g i108.Ld (nI c110) 7) (cwV 2 hts gL_areNeedsSo_X5_of rfl rfl rfl (by decide +kernel) ⟨Nat.le_of_ble_eq_true rfl, Nat.le_of_ble_eq_true rfl⟩) rfl hl (Nat.le_of_ble_eq_true rfl) ⟨Nat.zero_le _, Nat.zero_le _⟩ dL_areNeedsSo_94 rfl (fun r C1 pi1 H locs h117 hI => ?_)
              obtain ⟨hr9, hc9, hp9⟩ := h117
              rw [hc9, hp9] at hI
              rw [e109] at hr9
              rw [q_o7f hW hc110.1 hoff] at hr9
              subst hr9
              refine lv_if_ne (tgt := 104) hx hb dL_areNeedsSo_97 (by decide) (fun _ => ?_) (fun c118 => absurd c118 (by decide))
              refine lv_iconst (v := 0) hx hb dL_areNeedsSo_104 (by decide) ?_
              refine lv_icmp_ne (tgt := 123) hx hb dL_areNeedsSo_105 (by decide) (fun c119 => absurd (by decide) c119) (fun _ => ?_)
              refine lv_aload_n hx hb dL_areNeedsSo_108 rfl (lv_at hl 7 rfl) ?_
              refine lv_iload hx hb dL_areNeedsSo_109 (lv_at hl 2 rfl) ?_
              refine c_calli (As := [.int (nI c110)]) (rest := []) hx hb hml hown hts hK hX hI 0 (by omega) cE_0 rfl (k_X5_lasts l dd g ad pi A hA N106 i108.W i108.g i108.Tt (nI c110)) (cwV 1 hts gL_areNeedsSo_X5_lasts rfl rfl rfl (by decide +kernel) ⟨Nat.le_of_ble_eq_true rfl, Nat.le_of_ble_eq_true rfl⟩) rfl hl (Nat.le_of_ble_eq_true rfl) ⟨Nat.zero_le _, Nat.zero_le _⟩ dL_areNeedsSo_111 rfl (fun r C1 pi1 H locs h120 hI => ?_)
              obtain ⟨hr9, hc9, hp9⟩ := h120
              rw [hc9, hp9] at hI
              rw [e109] at hr9
              rw [q_las hW hc110.1] at hr9
              subst hr9
              refine lv_bipush (v := 31) hx hb dL_areNeedsSo_114 (by decide) ?_
              refine lv_icmp_gt (tgt := 123) hx hb dL_areNeedsSo_116 (by decide) (fun c121 => ?_) (fun c121 => ?_)
              · skip
                have nc121 : 31 < duS (C 0) c110 := (nI_ltI (a := 31) (b := duS (C 0) c110) (by omega) (by omega)).mp c121
                exact absurd nc121 (by omega)
              · skip
                have nc121 : ¬ (31 < duS (C 0) c110) := fun h => c121 ((nI_ltI (a := 31) (b := duS (C 0) c110) (by omega) (by omega)).mpr h)
                refine lv_iconst (v := 1) hx hb dL_areNeedsSo_119 (by decide) ?_
                refine lv_goto (tgt := 124) hx hb dL_areNeedsSo_120 (by decide) ?_
                refine lv_istore (lv' := [(4, .int 1), (1, .int (nI (sb ||| 2 ^ c110))), (7, .int (nI (16 * (duS (C 0) c110) + c110))), (6, .int (nI c110)), (5, .int (nI k)), (3, .int (nI (cn (C 0)))), (2, .int lx), (0, .ref (ad 0))]) hx hb dL_areNeedsSo_124 hl (by decide) rfl (fun ls hl => ?_)
                refine lv_iload hx hb dL_areNeedsSo_126 (lv_at hl 2 rfl) ?_
                refine lv_istore_n (lv' := [(2, .int (nI (16 * (duS (C 0) c110) + c110))), (4, .int 1), (1, .int (nI (sb ||| 2 ^ c110))), (7, .int (nI (16 * (duS (C 0) c110) + c110))), (6, .int (nI c110)), (5, .int (nI k)), (3, .int (nI (cn (C 0)))), (0, .ref (ad 0))]) hx hb dL_areNeedsSo_128 rfl hl (by decide) rfl (fun ls hl => ?_)
                refine lv_iinc (v := nI (k + 1)) (lv' := [(5, .int (nI (k + 1))), (2, .int (nI (16 * (duS (C 0) c110) + c110))), (4, .int 1), (1, .int (nI (sb ||| 2 ^ c110))), (7, .int (nI (16 * (duS (C 0) c110) + c110))), (6, .int (nI c110)), (3, .int (nI (cn (C 0)))), (0, .ref (ad 0))]) hx hb dL_areNeedsSo_129 hl (k := 5) rfl (by rw [show Int32.ofInt 1 = nI 1 from rfl, nI_add]) (by decide) rfl (fun ls hl => ?_)
                refine lv_goto (tgt := 29) hx hb dL_areNeedsSo_132 (by decide) ?_
                exact ih N106 (k + 1) (sb ||| 2 ^ c110) (nI (16 * (duS (C 0) c110) + c110)) e109 i108 (by omega) (by omega) (SB_s hs hn16 hc110) (LB_s hc110) _ _ _ hI (lv_sub hl [0, 2, 6, 1, 3, 7] rfl)
            · skip
              have nc116 : duS (C 0) c110 = 0 := (nI_eq (a := duS (C 0) c110) (b := 0) (by omega) (by omega)).mp c116
              exact absurd nc116 (by omega)
          · skip
            refine lv_aload_n hx hb dL_areNeedsSo_75 rfl (lv_at hl 7 rfl) ?_
            refine lv_iload hx hb dL_areNeedsSo_76 (lv_at hl 2 rfl) ?_
            refine c_calli (As := [.int (nI c110)]) (rest := []) hx hb hml hown hts hK hX hI 0 (by omega) cE_0 rfl (k_X5_lasts l dd g ad pi A hA N106 i108.W i108.g i108.Tt (nI c110)) (cwV 1 hts gL_areNeedsSo_X5_lasts rfl rfl rfl (by decide +kernel) ⟨Nat.le_of_ble_eq_true rfl, Nat.le_of_ble_eq_true rfl⟩) rfl hl (Nat.le_of_ble_eq_true rfl) ⟨Nat.zero_le _, Nat.zero_le _⟩ dL_areNeedsSo_78 rfl (fun r C1 pi1 H locs h122 hI => ?_)
            obtain ⟨hr9, hc9, hp9⟩ := h122
            rw [hc9, hp9] at hI
            rw [e109] at hr9
            rw [q_las hW hc110.1] at hr9
            rw [duS_0 hoff, nI_0] at hr9
            subst hr9
            refine lv_if_ne (tgt := 88) hx hb dL_areNeedsSo_81 (by decide) (fun c123 => absurd (by decide) c123) (fun _ => ?_)
            refine lv_iconst (v := 1) hx hb dL_areNeedsSo_84 (by decide) ?_
            refine lv_goto (tgt := 89) hx hb dL_areNeedsSo_85 (by decide) ?_
            refine lv_aload_n hx hb dL_areNeedsSo_89 rfl (lv_at hl 7 rfl) ?_
            refine lv_iload hx hb dL_areNeedsSo_90 (lv_at hl 2 rfl) ?_
            refine lv_bipush (v := 7) hx hb dL_areNeedsSo_92 (by decide) ?_
            refine c_calli (As := [.int (nI c110), .int 7]) (rest := [.int 1]) hx hb hml hown hts hK hX hI 0 (by omega) cE_0 rfl (k_X5_of l dd g ad pi A hA N106 i108.W i108.g i108.Ld (nI c110) 7) (cwV 2 hts gL_areNeedsSo_X5_of rfl rfl rfl (by decide +kernel) ⟨Nat.le_of_ble_eq_true rfl, Nat.le_of_ble_eq_true rfl⟩) rfl hl (Nat.le_of_ble_eq_true rfl) ⟨Nat.zero_le _, Nat.zero_le _⟩ dL_areNeedsSo_94 rfl (fun r C1 pi1 H locs h124 hI => ?_)
            obtain ⟨hr9, hc9, hp9⟩ := h124
            rw [hc9, hp9] at hI
            rw [e109] at hr9
            rw [q_o7t hW hc110.1 hoff] at hr9
            subst hr9
            refine lv_if_ne (tgt := 104) hx hb dL_areNeedsSo_97 (by decide) (fun c125 => absurd (by decide) c125) (fun _ => ?_)
            refine lv_iconst (v := 1) hx hb dL_areNeedsSo_100 (by decide) ?_
            refine lv_goto (tgt := 105) hx hb dL_areNeedsSo_101 (by decide) ?_
            refine lv_icmp_ne (tgt := 123) hx hb dL_areNeedsSo_105 (by decide) (fun c126 => absurd (by decide) c126) (fun _ => ?_)
            refine lv_aload_n hx hb dL_areNeedsSo_108 rfl (lv_at hl 7 rfl) ?_
            refine lv_iload hx hb dL_areNeedsSo_109 (lv_at hl 2 rfl) ?_
            refine c_calli (As := [.int (nI c110)]) (rest := []) hx hb hml hown hts hK hX hI 0 (by omega) cE_0 rfl (k_X5_lasts l dd g ad pi A hA N106 i108.W i108.g i108.Tt (nI c110)) (cwV 1 hts gL_areNeedsSo_X5_lasts rfl rfl rfl (by decide +kernel) ⟨Nat.le_of_ble_eq_true rfl, Nat.le_of_ble_eq_true rfl⟩) rfl hl (Nat.le_of_ble_eq_true rfl) ⟨Nat.zero_le _, Nat.zero_le _⟩ dL_areNeedsSo_111 rfl (fun r C1 pi1 H locs h127 hI => ?_)
            obtain ⟨hr9, hc9, hp9⟩ := h127
            rw [hc9, hp9] at hI
            rw [e109] at hr9
            rw [q_las hW hc110.1] at hr9
            rw [duS_0 hoff, nI_0] at hr9
            subst hr9
            refine lv_bipush (v := 31) hx hb dL_areNeedsSo_114 (by decide) ?_
            refine lv_icmp_gt (tgt := 123) hx hb dL_areNeedsSo_116 (by decide) (fun c128 => absurd c128 (by decide)) (fun _ => ?_)
            refine lv_iconst (v := 1) hx hb dL_areNeedsSo_119 (by decide) ?_
            refine lv_goto (tgt := 124) hx hb dL_areNeedsSo_120 (by decide) ?_
            refine lv_istore (lv' := [(4, .int 1), (1, .int (nI (sb ||| 2 ^ c110))), (7, .int (nI (16 * (duS (C 0) c110) + c110))), (6, .int (nI c110)), (5, .int (nI k)), (3, .int (nI (cn (C 0)))), (2, .int lx), (0, .ref (ad 0))]) hx hb dL_areNeedsSo_124 hl (by decide) rfl (fun ls hl => ?_)
            refine lv_iload hx hb dL_areNeedsSo_126 (lv_at hl 2 rfl) ?_
            refine lv_istore_n (lv' := [(2, .int (nI (16 * (duS (C 0) c110) + c110))), (4, .int 1), (1, .int (nI (sb ||| 2 ^ c110))), (7, .int (nI (16 * (duS (C 0) c110) + c110))), (6, .int (nI c110)), (5, .int (nI k)), (3, .int (nI (cn (C 0)))), (0, .ref (ad 0))]) hx hb dL_areNeedsSo_128 rfl hl (by decide) rfl (fun ls hl => ?_)
            refine lv_iinc (v := nI (k + 1)) (lv' := [(5, .int (nI (k + 1))), (2, .int (nI (16 * (duS (C 0) c110) + c110))), (4, .int 1), (1, .int (nI (sb ||| 2 ^ c110))), (7, .int (nI (16 * (duS (C 0) c110) + c110))), (6, .int (nI c110)), (3, .int (nI (cn (C 0)))), (0, .ref (ad 0))]) hx hb dL_areNeedsSo_129 hl (k := 5) rfl (by rw [show Int32.ofInt 1 = nI 1 from rfl, nI_add]) (by decide) rfl (fun ls hl => ?_)
            refine lv_goto (tgt := 29) hx hb dL_areNeedsSo_132 (by decide) ?_
            exact ih N106 (k + 1) (sb ||| 2 ^ c110) (nI (16 * (duS (C 0) c110) + c110)) e109 i108 (by omega) (by omega) (SB_s hs hn16 hc110) (LB_s hc110) _ _ _ hI (lv_sub hl [0, 2, 6, 1, 3, 7] rfl)
  exact L29 (cn (C 0) + 1) N2 0 0 (-1) e5 i4 (by omega) (by omega) (SB_0 _) (Or.inl ⟨rfl, rfl⟩) _ _ _ hI (lv_sub hl [0, 1, 2, 3, 4, 5] rfl)
