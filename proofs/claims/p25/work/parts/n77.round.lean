set_option maxHeartbeats 4000000 in
set_option maxRecDepth 100000 in
theorem k_L_isRoundSo (l : Launch) (dd : va_G) (g : Nat → ClassId) (ad pi : Nat → Nat) (A : Nat → Prop) (hA : cA A ad) (C : MS) (d Bn : Nat) (hIN : IN C pi d Bn) (x : Nat) (hx5 : x < 65536)  : Met l yL_isRoundSo wsL_isRoundSo ({ frames := 5, cells := 0, slots := 0, locals := 120 }) (cPre dd g ad pi A C [.ref (ad 0), .int (nI x)]) (cQi dd g ad A (fun r C1 pi1 => r = 1 ∧ ∃ d1, IN C1 pi1 d1 Bn)) 0 0 A := by
  refine Met.ofW (cc := cL_isRoundSo) (maxL := 14) (ret := (some .boolean)) (by decide) rfl ?_
  intro p e s m args below meth c s₁ B hml hv
  obtain ⟨rfl, hP0, hK, hX⟩ := hv
  have hx := B.exec
  have hb := B.bytes
  have hr := B.returns
  have hts := atoms_spec (ws := wsL_isRoundSo) B.pre
  have hown : s.vm.findClass RL = some m.cls := findClass_of_methodNamed B.named
  have hlocks := B.notSynchronized
  have hI : cI dd g ad pi A s.heap s.heap [] C := ⟨hP0, va_S.rf⟩
  have hl := lv_entry ([.ref (ad 0), .int (nI x)]) (n := 14) (Nat.le_of_ble_eq_true rfl)
  rw [lg_entry_eq]
  generalize (lg_sl ([.ref (ad 0), .int (nI x)]) ++ List.replicate (14 - (lg_sl ([.ref (ad 0), .int (nI x)])).length) Slot.unset).toArray = ls at hl ⊢
  have hl : lv_has ls 14 [(0, .ref (ad 0)), (1, .int (nI x))] := hl
  have hn16 := hIN.n16
  have hl4 := hIN.l4
  have hV := hIN.V
  have hW := hIN.W
  have x0 : ¬ nI x < 0 := nI_pos (by omega)
  obtain ⟨ss, _, hs30, es⟩ := hV.S.2.2.1
  obtain ⟨ww, _, hw30, ew⟩ := hV.S.2.2.2.1
  obtain ⟨t, ht, et, hge, hge2⟩ := mo_ge hV (nI x) (C 14) es ew hs30 hw30
  by_cases hL : chL (nI x) (cn (C 0)) = 0
  · skip
    refine lv_aload_n hx hb dL_isRoundSo_0 rfl (lv_at hl 0 rfl) ?_
    refine lv_iload_n hx hb dL_isRoundSo_1 rfl (lv_at hl 1 rfl) ?_
    refine c_calli (As := [.int (nI x)]) (rest := []) hx hb hml hown hts hK hX hI 0 (by omega) cE_0 rfl (k_X5_takes l dd g ad pi A hA C hIN.W hIN.Ld (nI x)) (cwV 1 hts gL_isRoundSo_X5_takes rfl rfl rfl (by decide +kernel) ⟨Nat.le_of_ble_eq_true rfl, Nat.le_of_ble_eq_true rfl⟩) rfl hl (Nat.le_of_ble_eq_true rfl) ⟨Nat.zero_le _, Nat.zero_le _⟩ dL_isRoundSo_2 rfl (fun r NA pi1 H locs h1 hI => ?_)
    obtain ⟨hr9, iA, eA, hp9⟩ := IN.tk0 hIN rfl x0 hL h1
    rw [hp9] at hI
    subst hr9
    refine lv_istore_n (lv' := [(2, .int ((-5))), (0, .ref (ad 0)), (1, .int (nI x))]) hx hb dL_isRoundSo_5 rfl hl (by decide) rfl (fun ls hl => ?_)
    refine lv_aload_n hx hb dL_isRoundSo_6 rfl (lv_at hl 1 rfl) ?_
    refine lv_iload_n hx hb dL_isRoundSo_7 rfl (lv_at hl 2 rfl) ?_
    refine c_calli (As := [.int (nI x)]) (rest := []) hx hb hml hown hts hK hX hI 0 (by omega) cE_0 rfl (k_X5_wayRound l dd g ad pi A hA NA iA.W iA.Ld (nI x)) (cwV 1 hts gL_isRoundSo_X5_wayRound rfl rfl rfl (by decide +kernel) ⟨Nat.le_of_ble_eq_true rfl, Nat.le_of_ble_eq_true rfl⟩) rfl hl (Nat.le_of_ble_eq_true rfl) ⟨Nat.zero_le _, Nat.zero_le _⟩ dL_isRoundSo_8 rfl (fun r NB pi1 H locs h2 hI => ?_)
    obtain ⟨hr9, iB, eB, hp9⟩ := IN.tk0 iA eA x0 hL h2
    rw [hp9] at hI
    subst hr9
    refine lv_istore_n (lv' := [(3, .int ((-5))), (2, .int ((-5))), (0, .ref (ad 0)), (1, .int (nI x))]) hx hb dL_isRoundSo_11 rfl hl (by decide) rfl (fun ls hl => ?_)
    refine lv_aload_n hx hb dL_isRoundSo_12 rfl (lv_at hl 2 rfl) ?_
    refine lv_bipush (v := 6) hx hb dL_isRoundSo_13 (by decide) ?_
    refine c_calli (As := [.int 6]) (rest := []) hx hb hml hown hts hK hX hI 0 (by omega) cE_0 rfl (k_X5_count l dd g ad pi A hA NB iB.W iB.g iB.Ld 6) (cwV 1 hts gL_isRoundSo_X5_count rfl rfl rfl (by decide +kernel) ⟨Nat.le_of_ble_eq_true rfl, Nat.le_of_ble_eq_true rfl⟩) rfl hl (Nat.le_of_ble_eq_true rfl) ⟨Nat.zero_le _, Nat.zero_le _⟩ dL_isRoundSo_15 rfl (fun r C1 pi1 H locs h3 hI => ?_)
    obtain ⟨hr9, hc9, hp9⟩ := h3
    rw [hc9, hp9] at hI
    rw [eB] at hr9
    rw [q_c6] at hr9
    subst hr9
    refine lv_istore (lv' := [(4, .int ((C 0) 7)), (3, .int ((-5))), (2, .int ((-5))), (0, .ref (ad 0)), (1, .int (nI x))]) hx hb dL_isRoundSo_18 hl (by decide) rfl (fun ls hl => ?_)
    refine lv_aload_n hx hb dL_isRoundSo_20 rfl (lv_at hl 3 rfl) ?_
    refine lv_iconst (v := 1) hx hb dL_isRoundSo_21 (by decide) ?_
    refine c_calli (As := [.int 1]) (rest := []) hx hb hml hown hts hK hX hI 0 (by omega) cE_0 rfl (k_X5_count l dd g ad pi A hA NB iB.W iB.g iB.Ld 1) (cwV 1 hts gL_isRoundSo_X5_count rfl rfl rfl (by decide +kernel) ⟨Nat.le_of_ble_eq_true rfl, Nat.le_of_ble_eq_true rfl⟩) rfl hl (Nat.le_of_ble_eq_true rfl) ⟨Nat.zero_le _, Nat.zero_le _⟩ dL_isRoundSo_22 rfl (fun r C1 pi1 H locs h4 hI => ?_)
    obtain ⟨hr9, hc9, hp9⟩ := h4
    rw [hc9, hp9] at hI
    rw [eB] at hr9
    rw [q_c1 hW] at hr9
    subst hr9
    refine lv_istore (lv' := [(5, .int (nI (cn (C 0)))), (4, .int ((C 0) 7)), (3, .int ((-5))), (2, .int ((-5))), (0, .ref (ad 0)), (1, .int (nI x))]) hx hb dL_isRoundSo_25 hl (by decide) rfl (fun ls hl => ?_)
    refine lv_iconst (v := 0) hx hb dL_isRoundSo_27 (by decide) ?_
    refine lv_istore (lv' := [(6, .int 0), (5, .int (nI (cn (C 0)))), (4, .int ((C 0) 7)), (3, .int ((-5))), (2, .int ((-5))), (0, .ref (ad 0)), (1, .int (nI x))]) hx hb dL_isRoundSo_28 hl (by decide) rfl (fun ls hl => ?_)
    refine lv_iconst (v := 0) hx hb dL_isRoundSo_30 (by decide) ?_
    refine lv_istore (lv' := [(7, .int 0), (6, .int 0), (5, .int (nI (cn (C 0)))), (4, .int ((C 0) 7)), (3, .int ((-5))), (2, .int ((-5))), (0, .ref (ad 0)), (1, .int (nI x))]) hx hb dL_isRoundSo_31 hl (by decide) rfl (fun ls hl => ?_)
    refine lv_iconst (v := 0) hx hb dL_isRoundSo_33 (by decide) ?_
    refine lv_istore (lv' := [(8, .int 0), (7, .int 0), (6, .int 0), (5, .int (nI (cn (C 0)))), (4, .int ((C 0) 7)), (3, .int ((-5))), (2, .int ((-5))), (0, .ref (ad 0)), (1, .int (nI x))]) hx hb dL_isRoundSo_34 hl (by decide) rfl (fun ls hl => ?_)
    refine lv_aload_n hx hb dL_isRoundSo_36 rfl (lv_at hl 7 rfl) ?_
    refine lv_bipush (v := 7) hx hb dL_isRoundSo_37 (by decide) ?_
    refine c_calli (As := [.int 7]) (rest := []) hx hb hml hown hts hK hX hI 0 (by omega) cE_0 rfl (k_X5_count l dd g ad pi A hA NB iB.W iB.g iB.Ld 7) (cwV 1 hts gL_isRoundSo_X5_count rfl rfl rfl (by decide +kernel) ⟨Nat.le_of_ble_eq_true rfl, Nat.le_of_ble_eq_true rfl⟩) rfl hl (Nat.le_of_ble_eq_true rfl) ⟨Nat.zero_le _, Nat.zero_le _⟩ dL_isRoundSo_39 rfl (fun r C1 pi1 H locs h5 hI => ?_)
    obtain ⟨hr9, hc9, hp9⟩ := h5
    rw [hc9, hp9] at hI
    rw [eB] at hr9
    rw [q_c7] at hr9
    subst hr9
    refine lv_istore (lv' := [(9, .int (twN (C 0) (cn (C 0)))), (8, .int 0), (7, .int 0), (6, .int 0), (5, .int (nI (cn (C 0)))), (4, .int ((C 0) 7)), (3, .int ((-5))), (2, .int ((-5))), (0, .ref (ad 0)), (1, .int (nI x))]) hx hb dL_isRoundSo_42 hl (by decide) rfl (fun ls hl => ?_)
    refine lv_iconst (v := 0) hx hb dL_isRoundSo_44 (by decide) ?_
    refine lv_istore (lv' := [(10, .int 0), (9, .int (twN (C 0) (cn (C 0)))), (8, .int 0), (7, .int 0), (6, .int 0), (5, .int (nI (cn (C 0)))), (4, .int ((C 0) 7)), (3, .int ((-5))), (2, .int ((-5))), (0, .ref (ad 0)), (1, .int (nI x))]) hx hb dL_isRoundSo_45 hl (by decide) rfl (fun ls hl => ?_)
    have L47 : ∀ (fuel : Nat) (ci fa wo cl : Nat) (h1 : ci ≤ cn (C 0)) (h2 : cn (C 0) < fuel + ci) (hfa : fa = fmN (C 0) (nI x) ci) (hwo : wo = wrN (C 0) (nI x) ci) (hcl : cl = chL (nI x) ci) (H : Heap) (locs : List Loc) (ls : Array Slot), cI dd g ad pi A s.heap H locs NB → lv_has ls 14 [(10, .int (nI ci)), (9, .int (twN (C 0) (cn (C 0)))), (8, .int (nI cl)), (7, .int (nI wo)), (6, .int (nI fa)), (5, .int (nI (cn (C 0)))), (4, .int (C 0 7)), (3, .int ((-5))), (2, .int ((-5))), (1, .int (nI x)), (0, .ref (ad 0))] → wk p l e wsL_isRoundSo { frames := 5, cells := 0, slots := 0, locals := 120 } s m [.ref (ad 0), .int (nI x)] below meth c H locs (cQi dd g ad A (fun r C1 pi1 => r = 1 ∧ ∃ d1, IN C1 pi1 d1 Bn)) (A) (F0 m 47 ls []) := by
      intro fuel
      induction fuel with
      | zero =>
        intro ci fa wo cl h1 h2 hfa hwo hcl H locs ls hI hl
        exact absurd h2 (by omega)
      | succ fuel ih =>
        intro ci fa wo cl h1 h2 hfa hwo hcl H locs ls hI hl
        refine lv_iload hx hb dL_isRoundSo_47 (lv_at hl 0 rfl) ?_
        refine lv_iload hx hb dL_isRoundSo_49 (lv_at hl 5 rfl) ?_
        refine lv_icmp_ge (tgt := 150) hx hb dL_isRoundSo_51 (by decide) (fun c6 => ?_) (fun c6 => ?_)
        · skip
          have nc6 : cn (C 0) ≤ ci := (nI_leI (a := cn (C 0)) (b := ci) (by omega) (by omega)).mp c6
          have ec : ci = cn (C 0) := by omega
          subst ec
          have hcl16 := chL_le (nI x) (cn (C 0))
          have hf99 := fm_le hV (nI x) (cn (C 0)) (Nat.le_refl _)
          have hw16 := wrN_le (C 0) (nI x) (cn (C 0))
          refine lv_aload_n hx hb dL_isRoundSo_150 rfl (lv_at hl 10 rfl) ?_
          refine lv_iload_n hx hb dL_isRoundSo_151 rfl (lv_at hl 9 rfl) ?_
          refine c_calli (As := [.int (nI x)]) (rest := []) hx hb hml hown hts hK hX hI 0 (by omega) cE_0 rfl (k_X5_round l dd g ad pi A hA NB d iB.1 iB.2.1 iB.2.2.1 iB.W iB.g iB.Ld (nI x)) (cwV 1 hts gL_isRoundSo_X5_round rfl rfl rfl (by decide +kernel) ⟨Nat.le_of_ble_eq_true rfl, Nat.le_of_ble_eq_true rfl⟩) rfl hl (Nat.le_of_ble_eq_true rfl) ⟨Nat.zero_le _, Nat.zero_le _⟩ dL_isRoundSo_152 rfl (fun r NC PC H locs h7 hI => ?_)
          obtain ⟨hr9, iC⟩ := IN.rd0 iB eB x0 hL h7
          subst hr9
          refine lv_istore (lv' := [(10, .int ((-5))), (9, .int (twN (C 0) (cn (C 0)))), (8, .int (nI cl)), (7, .int (nI wo)), (6, .int (nI fa)), (5, .int (nI (cn (C 0)))), (4, .int (C 0 7)), (3, .int ((-5))), (2, .int ((-5))), (1, .int (nI x)), (0, .ref (ad 0))]) hx hb dL_isRoundSo_155 hl (by decide) rfl (fun ls hl => ?_)
          refine lv_iload hx hb dL_isRoundSo_157 (lv_at hl 2 rfl) ?_
          refine lv_if_ne (tgt := 187) hx hb dL_isRoundSo_159 (by decide) (fun c8 => ?_) (fun c8 => ?_)
          · skip
            have nc8 : ¬ (cl = 0) := fun h => c8 ((nI_eq (a := cl) (b := 0) (by omega) (by omega)).mpr h)
            exact absurd nc8 (by omega)
          · skip
            have nc8 : cl = 0 := (nI_eq (a := cl) (b := 0) (by omega) (by omega)).mp c8
            refine lv_iload hx hb dL_isRoundSo_162 (lv_at hl 0 rfl) ?_
            refine lv_bipush (v := (-5)) hx hb dL_isRoundSo_164 (by decide) ?_
            refine lv_icmp_ne (tgt := 185) hx hb dL_isRoundSo_166 (by decide) (fun c9 => absurd (by decide) c9) (fun _ => ?_)
            refine lv_iload_n hx hb dL_isRoundSo_169 rfl (lv_at hl 8 rfl) ?_
            refine lv_iload hx hb dL_isRoundSo_170 (lv_at hl 0 rfl) ?_
            refine lv_icmp_ne (tgt := 185) hx hb dL_isRoundSo_172 (by decide) (fun c10 => absurd (by decide) c10) (fun _ => ?_)
            refine lv_iload_n hx hb dL_isRoundSo_175 rfl (lv_at hl 7 rfl) ?_
            refine lv_iload hx hb dL_isRoundSo_176 (lv_at hl 0 rfl) ?_
            refine lv_icmp_ne (tgt := 185) hx hb dL_isRoundSo_178 (by decide) (fun c11 => absurd (by decide) c11) (fun _ => ?_)
            refine lv_iconst (v := 1) hx hb dL_isRoundSo_181 (by decide) ?_
            refine lv_goto (tgt := 186) hx hb dL_isRoundSo_182 (by decide) ?_
            exact c_zret (v := 1) hx hb hr (by first | rfl | decide) hI (⟨rfl, _, iC⟩) dL_isRoundSo_186 hlocks
        · skip
          have nc6 : ¬ (cn (C 0) ≤ ci) := fun h => c6 ((nI_leI (a := cn (C 0)) (b := ci) (by omega) (by omega)).mpr h)
          have hc : ci < cn (C 0) := by omega
          have hf99 := fm_le hV (nI x) ci (by omega)
          refine lv_iload_n hx hb dL_isRoundSo_54 rfl (lv_at hl 9 rfl) ?_
          refine lv_iload hx hb dL_isRoundSo_55 (lv_at hl 0 rfl) ?_
          refine lv_ishr hx hb dL_isRoundSo_57 ?_
          refine lv_iconst (v := 1) hx hb dL_isRoundSo_58 (by decide) ?_
          refine lv_iand hx hb dL_isRoundSo_59 ?_
          refine lv_iconst (v := 1) hx hb dL_isRoundSo_60 (by decide) ?_
          refine lv_icmp_ne (tgt := 68) hx hb dL_isRoundSo_61 (by decide) (fun c12 => ?_) (fun c12 => ?_)
          · skip
            refine lv_iconst (v := 0) hx hb dL_isRoundSo_68 (by decide) ?_
            refine lv_istore (lv' := [(11, .int 0), (10, .int (nI ci)), (9, .int (twN (C 0) (cn (C 0)))), (8, .int (nI cl)), (7, .int (nI wo)), (6, .int (nI fa)), (5, .int (nI (cn (C 0)))), (4, .int (C 0 7)), (3, .int ((-5))), (2, .int ((-5))), (1, .int (nI x)), (0, .ref (ad 0))]) hx hb dL_isRoundSo_69 hl (by decide) rfl (fun ls hl => ?_)
            refine lv_iload hx hb dL_isRoundSo_71 (lv_at hl 0 rfl) ?_
            refine lv_if_eq (tgt := 98) hx hb dL_isRoundSo_73 (by decide) (fun _ => ?_) (fun c13 => absurd (by decide) c13)
            refine lv_iload hx hb dL_isRoundSo_98 (lv_at hl 5 rfl) ?_
            refine lv_istore (lv' := [(6, .int (nI fa)), (11, .int 0), (10, .int (nI ci)), (9, .int (twN (C 0) (cn (C 0)))), (8, .int (nI cl)), (7, .int (nI wo)), (5, .int (nI (cn (C 0)))), (4, .int (C 0 7)), (3, .int ((-5))), (2, .int ((-5))), (1, .int (nI x)), (0, .ref (ad 0))]) hx hb dL_isRoundSo_100 hl (by decide) rfl (fun ls hl => ?_)
            refine lv_iload hx hb dL_isRoundSo_102 (lv_at hl 5 rfl) ?_
            refine lv_iload hx hb dL_isRoundSo_104 (lv_at hl 1 rfl) ?_
            rcases hcan : canW (C 0) ci
            · skip
              refine lv_if_eq (tgt := 125) hx hb dL_isRoundSo_106 (by decide) (fun _ => ?_) (fun c14 => absurd (by decide) c14)
              refine lv_iconst (v := 0) hx hb dL_isRoundSo_125 (by decide) ?_
              refine lv_iadd hx hb dL_isRoundSo_126 ?_
              refine lv_re (y := nI (wo + 0)) (nI_add (wo) (0)) ?_
              refine lv_istore (lv' := [(7, .int (nI (wo + 0))), (6, .int (nI fa)), (11, .int 0), (10, .int (nI ci)), (9, .int (twN (C 0) (cn (C 0)))), (8, .int (nI cl)), (5, .int (nI (cn (C 0)))), (4, .int (C 0 7)), (3, .int ((-5))), (2, .int ((-5))), (1, .int (nI x)), (0, .ref (ad 0))]) hx hb dL_isRoundSo_127 hl (by decide) rfl (fun ls hl => ?_)
              refine lv_iload hx hb dL_isRoundSo_129 (lv_at hl 5 rfl) ?_
              refine lv_iload hx hb dL_isRoundSo_131 (lv_at hl 2 rfl) ?_
              refine lv_if_eq (tgt := 140) hx hb dL_isRoundSo_133 (by decide) (fun _ => ?_) (fun c15 => absurd (by decide) c15)
              refine lv_iconst (v := 0) hx hb dL_isRoundSo_140 (by decide) ?_
              refine lv_iadd hx hb dL_isRoundSo_141 ?_
              refine lv_re (y := nI (cl + 0)) (nI_add (cl) (0)) ?_
              refine lv_istore (lv' := [(8, .int (nI (cl + 0))), (7, .int (nI (wo + 0))), (6, .int (nI fa)), (11, .int 0), (10, .int (nI ci)), (9, .int (twN (C 0) (cn (C 0)))), (5, .int (nI (cn (C 0)))), (4, .int (C 0 7)), (3, .int ((-5))), (2, .int ((-5))), (1, .int (nI x)), (0, .ref (ad 0))]) hx hb dL_isRoundSo_142 hl (by decide) rfl (fun ls hl => ?_)
              refine lv_iinc (v := nI (ci + 1)) (lv' := [(10, .int (nI (ci + 1))), (8, .int (nI (cl + 0))), (7, .int (nI (wo + 0))), (6, .int (nI fa)), (11, .int 0), (9, .int (twN (C 0) (cn (C 0)))), (5, .int (nI (cn (C 0)))), (4, .int (C 0 7)), (3, .int ((-5))), (2, .int ((-5))), (1, .int (nI x)), (0, .ref (ad 0))]) hx hb dL_isRoundSo_144 hl (k := 4) rfl (by rw [show Int32.ofInt 1 = nI 1 from rfl, nI_add]) (by decide) rfl (fun ls hl => ?_)
              refine lv_goto (tgt := 47) hx hb dL_isRoundSo_147 (by decide) ?_
              exact ih (ci + 1) fa (wo + 0) (cl + 0) (by omega) (by omega) (by rw [fm_f c12]; omega) (by rw [wr_f c12]; omega) (by rw [(chW_n (w := C 14) c12).2]; omega) _ _ _ hI (lv_sub hl [0, 5, 1, 2, 3, 6, 7, 8, 9, 10, 11] rfl)
            · skip
              refine lv_if_eq (tgt := 125) hx hb dL_isRoundSo_106 (by decide) (fun _ => ?_) (fun c16 => absurd (by decide) c16)
              refine lv_iconst (v := 0) hx hb dL_isRoundSo_125 (by decide) ?_
              refine lv_iadd hx hb dL_isRoundSo_126 ?_
              refine lv_re (y := nI (wo + 0)) (nI_add (wo) (0)) ?_
              refine lv_istore (lv' := [(7, .int (nI (wo + 0))), (6, .int (nI fa)), (11, .int 0), (10, .int (nI ci)), (9, .int (twN (C 0) (cn (C 0)))), (8, .int (nI cl)), (5, .int (nI (cn (C 0)))), (4, .int (C 0 7)), (3, .int ((-5))), (2, .int ((-5))), (1, .int (nI x)), (0, .ref (ad 0))]) hx hb dL_isRoundSo_127 hl (by decide) rfl (fun ls hl => ?_)
              refine lv_iload hx hb dL_isRoundSo_129 (lv_at hl 5 rfl) ?_
              refine lv_iload hx hb dL_isRoundSo_131 (lv_at hl 2 rfl) ?_
              refine lv_if_eq (tgt := 140) hx hb dL_isRoundSo_133 (by decide) (fun _ => ?_) (fun c17 => absurd (by decide) c17)
              refine lv_iconst (v := 0) hx hb dL_isRoundSo_140 (by decide) ?_
              refine lv_iadd hx hb dL_isRoundSo_141 ?_
              refine lv_re (y := nI (cl + 0)) (nI_add (cl) (0)) ?_
              refine lv_istore (lv' := [(8, .int (nI (cl + 0))), (7, .int (nI (wo + 0))), (6, .int (nI fa)), (11, .int 0), (10, .int (nI ci)), (9, .int (twN (C 0) (cn (C 0)))), (5, .int (nI (cn (C 0)))), (4, .int (C 0 7)), (3, .int ((-5))), (2, .int ((-5))), (1, .int (nI x)), (0, .ref (ad 0))]) hx hb dL_isRoundSo_142 hl (by decide) rfl (fun ls hl => ?_)
              refine lv_iinc (v := nI (ci + 1)) (lv' := [(10, .int (nI (ci + 1))), (8, .int (nI (cl + 0))), (7, .int (nI (wo + 0))), (6, .int (nI fa)), (11, .int 0), (9, .int (twN (C 0) (cn (C 0)))), (5, .int (nI (cn (C 0)))), (4, .int (C 0 7)), (3, .int ((-5))), (2, .int ((-5))), (1, .int (nI x)), (0, .ref (ad 0))]) hx hb dL_isRoundSo_144 hl (k := 4) rfl (by rw [show Int32.ofInt 1 = nI 1 from rfl, nI_add]) (by decide) rfl (fun ls hl => ?_)
              refine lv_goto (tgt := 47) hx hb dL_isRoundSo_147 (by decide) ?_
              exact ih (ci + 1) fa (wo + 0) (cl + 0) (by omega) (by omega) (by rw [fm_f c12]; omega) (by rw [wr_f c12]; omega) (by rw [(chW_n (w := C 14) c12).2]; omega) _ _ _ hI (lv_sub hl [0, 5, 1, 2, 3, 6, 7, 8, 9, 10, 11] rfl)
          · skip
            obtain ⟨a, ha, ea⟩ := ho_num hV hc
            refine lv_iconst (v := 1) hx hb dL_isRoundSo_64 (by decide) ?_
            refine lv_goto (tgt := 69) hx hb dL_isRoundSo_65 (by decide) ?_
            refine lv_istore (lv' := [(11, .int 1), (10, .int (nI ci)), (9, .int (twN (C 0) (cn (C 0)))), (8, .int (nI cl)), (7, .int (nI wo)), (6, .int (nI fa)), (5, .int (nI (cn (C 0)))), (4, .int (C 0 7)), (3, .int ((-5))), (2, .int ((-5))), (1, .int (nI x)), (0, .ref (ad 0))]) hx hb dL_isRoundSo_69 hl (by decide) rfl (fun ls hl => ?_)
            refine lv_iload hx hb dL_isRoundSo_71 (lv_at hl 0 rfl) ?_
            refine lv_if_eq (tgt := 98) hx hb dL_isRoundSo_73 (by decide) (fun c18 => absurd c18 (by decide)) (fun _ => ?_)
            refine lv_aload_n hx hb dL_isRoundSo_76 rfl (lv_at hl 11 rfl) ?_
            refine lv_iload hx hb dL_isRoundSo_77 (lv_at hl 1 rfl) ?_
            refine lv_iconst (v := 0) hx hb dL_isRoundSo_79 (by decide) ?_
            refine c_calli (As := [.int (nI ci), .int 0]) (rest := []) hx hb hml hown hts hK hX hI 0 (by omega) cE_0 rfl (k_X5_of l dd g ad pi A hA NB iB.W iB.g iB.Ld (nI ci) 0) (cwV 2 hts gL_isRoundSo_X5_of rfl rfl rfl (by decide +kernel) ⟨Nat.le_of_ble_eq_true rfl, Nat.le_of_ble_eq_true rfl⟩) rfl hl (Nat.le_of_ble_eq_true rfl) ⟨Nat.zero_le _, Nat.zero_le _⟩ dL_isRoundSo_80 rfl (fun r C1 pi1 H locs h19 hI => ?_)
            obtain ⟨hr9, hc9, hp9⟩ := h19
            rw [hc9, hp9] at hI
            rw [eB] at hr9
            rw [q_o0 hW hc] at hr9
            rw [ea] at hr9
            subst hr9
            refine lv_iload hx hb dL_isRoundSo_83 (lv_at hl 5 rfl) ?_
            refine lv_icmp_le (tgt := 98) hx hb dL_isRoundSo_85 (by decide) (fun c20 => ?_) (fun c20 => ?_)
            · skip
              have nc20 : a ≤ fa := (nI_leI (a := a) (b := fa) (by omega) (by omega)).mp c20
              refine lv_iload hx hb dL_isRoundSo_98 (lv_at hl 5 rfl) ?_
              refine lv_istore (lv' := [(6, .int (nI fa)), (11, .int 1), (10, .int (nI ci)), (9, .int (twN (C 0) (cn (C 0)))), (8, .int (nI cl)), (7, .int (nI wo)), (5, .int (nI (cn (C 0)))), (4, .int (C 0 7)), (3, .int ((-5))), (2, .int ((-5))), (1, .int (nI x)), (0, .ref (ad 0))]) hx hb dL_isRoundSo_100 hl (by decide) rfl (fun ls hl => ?_)
              refine lv_iload hx hb dL_isRoundSo_102 (lv_at hl 5 rfl) ?_
              refine lv_iload hx hb dL_isRoundSo_104 (lv_at hl 1 rfl) ?_
              rcases hcan : canW (C 0) ci
              · skip
                refine lv_if_eq (tgt := 125) hx hb dL_isRoundSo_106 (by decide) (fun c21 => absurd c21 (by decide)) (fun _ => ?_)
                refine lv_aload_n hx hb dL_isRoundSo_109 rfl (lv_at hl 11 rfl) ?_
                refine lv_iload hx hb dL_isRoundSo_110 (lv_at hl 2 rfl) ?_
                refine lv_bipush (v := 9) hx hb dL_isRoundSo_112 (by decide) ?_
                refine c_calli (As := [.int (nI ci), .int 9]) (rest := [.int (nI wo)]) hx hb hml hown hts hK hX hI 0 (by omega) cE_0 rfl (k_X5_of l dd g ad pi A hA NB iB.W iB.g iB.Ld (nI ci) 9) (cwV 2 hts gL_isRoundSo_X5_of rfl rfl rfl (by decide +kernel) ⟨Nat.le_of_ble_eq_true rfl, Nat.le_of_ble_eq_true rfl⟩) rfl hl (Nat.le_of_ble_eq_true rfl) ⟨Nat.zero_le _, Nat.zero_le _⟩ dL_isRoundSo_114 rfl (fun r C1 pi1 H locs h22 hI => ?_)
                obtain ⟨hr9, hc9, hp9⟩ := h22
                rw [hc9, hp9] at hI
                rw [eB] at hr9
                rw [q_o9f hW hc hcan] at hr9
                subst hr9
                refine lv_iconst (v := 1) hx hb dL_isRoundSo_117 (by decide) ?_
                refine lv_icmp_ne (tgt := 125) hx hb dL_isRoundSo_118 (by decide) (fun _ => ?_) (fun c23 => absurd c23 (by decide))
                refine lv_iconst (v := 0) hx hb dL_isRoundSo_125 (by decide) ?_
                refine lv_iadd hx hb dL_isRoundSo_126 ?_
                refine lv_re (y := nI (wo + 0)) (nI_add (wo) (0)) ?_
                refine lv_istore (lv' := [(7, .int (nI (wo + 0))), (6, .int (nI fa)), (11, .int 1), (10, .int (nI ci)), (9, .int (twN (C 0) (cn (C 0)))), (8, .int (nI cl)), (5, .int (nI (cn (C 0)))), (4, .int (C 0 7)), (3, .int ((-5))), (2, .int ((-5))), (1, .int (nI x)), (0, .ref (ad 0))]) hx hb dL_isRoundSo_127 hl (by decide) rfl (fun ls hl => ?_)
                refine lv_iload hx hb dL_isRoundSo_129 (lv_at hl 5 rfl) ?_
                refine lv_iload hx hb dL_isRoundSo_131 (lv_at hl 2 rfl) ?_
                refine lv_if_eq (tgt := 140) hx hb dL_isRoundSo_133 (by decide) (fun c24 => absurd c24 (by decide)) (fun _ => ?_)
                refine lv_iconst (v := 1) hx hb dL_isRoundSo_136 (by decide) ?_
                refine lv_goto (tgt := 141) hx hb dL_isRoundSo_137 (by decide) ?_
                refine lv_iadd hx hb dL_isRoundSo_141 ?_
                refine lv_re (y := nI (cl + 1)) (nI_add (cl) (1)) ?_
                refine lv_istore (lv' := [(8, .int (nI (cl + 1))), (7, .int (nI (wo + 0))), (6, .int (nI fa)), (11, .int 1), (10, .int (nI ci)), (9, .int (twN (C 0) (cn (C 0)))), (5, .int (nI (cn (C 0)))), (4, .int (C 0 7)), (3, .int ((-5))), (2, .int ((-5))), (1, .int (nI x)), (0, .ref (ad 0))]) hx hb dL_isRoundSo_142 hl (by decide) rfl (fun ls hl => ?_)
                refine lv_iinc (v := nI (ci + 1)) (lv' := [(10, .int (nI (ci + 1))), (8, .int (nI (cl + 1))), (7, .int (nI (wo + 0))), (6, .int (nI fa)), (11, .int 1), (9, .int (twN (C 0) (cn (C 0)))), (5, .int (nI (cn (C 0)))), (4, .int (C 0 7)), (3, .int ((-5))), (2, .int ((-5))), (1, .int (nI x)), (0, .ref (ad 0))]) hx hb dL_isRoundSo_144 hl (k := 4) rfl (by rw [show Int32.ofInt 1 = nI 1 from rfl, nI_add]) (by decide) rfl (fun ls hl => ?_)
                refine lv_goto (tgt := 47) hx hb dL_isRoundSo_147 (by decide) ?_
                exact ih (ci + 1) fa (wo + 0) (cl + 1) (by omega) (by omega) (by rw [fm_t c12 ea]; omega) (by rw [wr_t c12, hcan, if_neg (by decide)]; omega) (by rw [(chW_s (w := C 14) c12).2]; omega) _ _ _ hI (lv_sub hl [0, 5, 1, 2, 3, 6, 7, 8, 9, 10, 11] rfl)
              · skip
                refine lv_if_eq (tgt := 125) hx hb dL_isRoundSo_106 (by decide) (fun c25 => absurd c25 (by decide)) (fun _ => ?_)
                refine lv_aload_n hx hb dL_isRoundSo_109 rfl (lv_at hl 11 rfl) ?_
                refine lv_iload hx hb dL_isRoundSo_110 (lv_at hl 2 rfl) ?_
                refine lv_bipush (v := 9) hx hb dL_isRoundSo_112 (by decide) ?_
                refine c_calli (As := [.int (nI ci), .int 9]) (rest := [.int (nI wo)]) hx hb hml hown hts hK hX hI 0 (by omega) cE_0 rfl (k_X5_of l dd g ad pi A hA NB iB.W iB.g iB.Ld (nI ci) 9) (cwV 2 hts gL_isRoundSo_X5_of rfl rfl rfl (by decide +kernel) ⟨Nat.le_of_ble_eq_true rfl, Nat.le_of_ble_eq_true rfl⟩) rfl hl (Nat.le_of_ble_eq_true rfl) ⟨Nat.zero_le _, Nat.zero_le _⟩ dL_isRoundSo_114 rfl (fun r C1 pi1 H locs h26 hI => ?_)
                obtain ⟨hr9, hc9, hp9⟩ := h26
                rw [hc9, hp9] at hI
                rw [eB] at hr9
                rw [q_o9t hW hc hcan] at hr9
                subst hr9
                refine lv_iconst (v := 1) hx hb dL_isRoundSo_117 (by decide) ?_
                refine lv_icmp_ne (tgt := 125) hx hb dL_isRoundSo_118 (by decide) (fun c27 => absurd (by decide) c27) (fun _ => ?_)
                refine lv_iconst (v := 1) hx hb dL_isRoundSo_121 (by decide) ?_
                refine lv_goto (tgt := 126) hx hb dL_isRoundSo_122 (by decide) ?_
                refine lv_iadd hx hb dL_isRoundSo_126 ?_
                refine lv_re (y := nI (wo + 1)) (nI_add (wo) (1)) ?_
                refine lv_istore (lv' := [(7, .int (nI (wo + 1))), (6, .int (nI fa)), (11, .int 1), (10, .int (nI ci)), (9, .int (twN (C 0) (cn (C 0)))), (8, .int (nI cl)), (5, .int (nI (cn (C 0)))), (4, .int (C 0 7)), (3, .int ((-5))), (2, .int ((-5))), (1, .int (nI x)), (0, .ref (ad 0))]) hx hb dL_isRoundSo_127 hl (by decide) rfl (fun ls hl => ?_)
                refine lv_iload hx hb dL_isRoundSo_129 (lv_at hl 5 rfl) ?_
                refine lv_iload hx hb dL_isRoundSo_131 (lv_at hl 2 rfl) ?_
                refine lv_if_eq (tgt := 140) hx hb dL_isRoundSo_133 (by decide) (fun c28 => absurd c28 (by decide)) (fun _ => ?_)
                refine lv_iconst (v := 1) hx hb dL_isRoundSo_136 (by decide) ?_
                refine lv_goto (tgt := 141) hx hb dL_isRoundSo_137 (by decide) ?_
                refine lv_iadd hx hb dL_isRoundSo_141 ?_
                refine lv_re (y := nI (cl + 1)) (nI_add (cl) (1)) ?_
                refine lv_istore (lv' := [(8, .int (nI (cl + 1))), (7, .int (nI (wo + 1))), (6, .int (nI fa)), (11, .int 1), (10, .int (nI ci)), (9, .int (twN (C 0) (cn (C 0)))), (5, .int (nI (cn (C 0)))), (4, .int (C 0 7)), (3, .int ((-5))), (2, .int ((-5))), (1, .int (nI x)), (0, .ref (ad 0))]) hx hb dL_isRoundSo_142 hl (by decide) rfl (fun ls hl => ?_)
                refine lv_iinc (v := nI (ci + 1)) (lv' := [(10, .int (nI (ci + 1))), (8, .int (nI (cl + 1))), (7, .int (nI (wo + 1))), (6, .int (nI fa)), (11, .int 1), (9, .int (twN (C 0) (cn (C 0)))), (5, .int (nI (cn (C 0)))), (4, .int (C 0 7)), (3, .int ((-5))), (2, .int ((-5))), (1, .int (nI x)), (0, .ref (ad 0))]) hx hb dL_isRoundSo_144 hl (k := 4) rfl (by rw [show Int32.ofInt 1 = nI 1 from rfl, nI_add]) (by decide) rfl (fun ls hl => ?_)
                refine lv_goto (tgt := 47) hx hb dL_isRoundSo_147 (by decide) ?_
                exact ih (ci + 1) fa (wo + 1) (cl + 1) (by omega) (by omega) (by rw [fm_t c12 ea]; omega) (by rw [wr_t c12, hcan, if_pos rfl]; omega) (by rw [(chW_s (w := C 14) c12).2]; omega) _ _ _ hI (lv_sub hl [0, 5, 1, 2, 3, 6, 7, 8, 9, 10, 11] rfl)
            · skip
              have nc20 : ¬ (a ≤ fa) := fun h => c20 ((nI_leI (a := a) (b := fa) (by omega) (by omega)).mpr h)
              refine lv_aload_n hx hb dL_isRoundSo_88 rfl (lv_at hl 11 rfl) ?_
              refine lv_iload hx hb dL_isRoundSo_89 (lv_at hl 1 rfl) ?_
              refine lv_iconst (v := 0) hx hb dL_isRoundSo_91 (by decide) ?_
              refine c_calli (As := [.int (nI ci), .int 0]) (rest := []) hx hb hml hown hts hK hX hI 0 (by omega) cE_0 rfl (k_X5_of l dd g ad pi A hA NB iB.W iB.g iB.Ld (nI ci) 0) (cwV 2 hts gL_isRoundSo_X5_of rfl rfl rfl (by decide +kernel) ⟨Nat.le_of_ble_eq_true rfl, Nat.le_of_ble_eq_true rfl⟩) rfl hl (Nat.le_of_ble_eq_true rfl) ⟨Nat.zero_le _, Nat.zero_le _⟩ dL_isRoundSo_92 rfl (fun r C1 pi1 H locs h29 hI => ?_)
              obtain ⟨hr9, hc9, hp9⟩ := h29
              rw [hc9, hp9] at hI
              rw [eB] at hr9
              rw [q_o0 hW hc] at hr9
              rw [ea] at hr9
              subst hr9
              refine lv_goto (tgt := 100) hx hb dL_isRoundSo_95 (by decide) ?_
              refine lv_istore (lv' := [(6, .int (nI a)), (11, .int 1), (10, .int (nI ci)), (9, .int (twN (C 0) (cn (C 0)))), (8, .int (nI cl)), (7, .int (nI wo)), (5, .int (nI (cn (C 0)))), (4, .int (C 0 7)), (3, .int ((-5))), (2, .int ((-5))), (1, .int (nI x)), (0, .ref (ad 0))]) hx hb dL_isRoundSo_100 hl (by decide) rfl (fun ls hl => ?_)
              refine lv_iload hx hb dL_isRoundSo_102 (lv_at hl 5 rfl) ?_
              refine lv_iload hx hb dL_isRoundSo_104 (lv_at hl 1 rfl) ?_
              rcases hcan : canW (C 0) ci
              · skip
                refine lv_if_eq (tgt := 125) hx hb dL_isRoundSo_106 (by decide) (fun c30 => absurd c30 (by decide)) (fun _ => ?_)
                refine lv_aload_n hx hb dL_isRoundSo_109 rfl (lv_at hl 11 rfl) ?_
                refine lv_iload hx hb dL_isRoundSo_110 (lv_at hl 2 rfl) ?_
                refine lv_bipush (v := 9) hx hb dL_isRoundSo_112 (by decide) ?_
                refine c_calli (As := [.int (nI ci), .int 9]) (rest := [.int (nI wo)]) hx hb hml hown hts hK hX hI 0 (by omega) cE_0 rfl (k_X5_of l dd g ad pi A hA NB iB.W iB.g iB.Ld (nI ci) 9) (cwV 2 hts gL_isRoundSo_X5_of rfl rfl rfl (by decide +kernel) ⟨Nat.le_of_ble_eq_true rfl, Nat.le_of_ble_eq_true rfl⟩) rfl hl (Nat.le_of_ble_eq_true rfl) ⟨Nat.zero_le _, Nat.zero_le _⟩ dL_isRoundSo_114 rfl (fun r C1 pi1 H locs h31 hI => ?_)
                obtain ⟨hr9, hc9, hp9⟩ := h31
                rw [hc9, hp9] at hI
                rw [eB] at hr9
                rw [q_o9f hW hc hcan] at hr9
                subst hr9
                refine lv_iconst (v := 1) hx hb dL_isRoundSo_117 (by decide) ?_
                refine lv_icmp_ne (tgt := 125) hx hb dL_isRoundSo_118 (by decide) (fun _ => ?_) (fun c32 => absurd c32 (by decide))
                refine lv_iconst (v := 0) hx hb dL_isRoundSo_125 (by decide) ?_
                refine lv_iadd hx hb dL_isRoundSo_126 ?_
                refine lv_re (y := nI (wo + 0)) (nI_add (wo) (0)) ?_
                refine lv_istore (lv' := [(7, .int (nI (wo + 0))), (6, .int (nI a)), (11, .int 1), (10, .int (nI ci)), (9, .int (twN (C 0) (cn (C 0)))), (8, .int (nI cl)), (5, .int (nI (cn (C 0)))), (4, .int (C 0 7)), (3, .int ((-5))), (2, .int ((-5))), (1, .int (nI x)), (0, .ref (ad 0))]) hx hb dL_isRoundSo_127 hl (by decide) rfl (fun ls hl => ?_)
                refine lv_iload hx hb dL_isRoundSo_129 (lv_at hl 5 rfl) ?_
                refine lv_iload hx hb dL_isRoundSo_131 (lv_at hl 2 rfl) ?_
                refine lv_if_eq (tgt := 140) hx hb dL_isRoundSo_133 (by decide) (fun c33 => absurd c33 (by decide)) (fun _ => ?_)
                refine lv_iconst (v := 1) hx hb dL_isRoundSo_136 (by decide) ?_
                refine lv_goto (tgt := 141) hx hb dL_isRoundSo_137 (by decide) ?_
                refine lv_iadd hx hb dL_isRoundSo_141 ?_
                refine lv_re (y := nI (cl + 1)) (nI_add (cl) (1)) ?_
                refine lv_istore (lv' := [(8, .int (nI (cl + 1))), (7, .int (nI (wo + 0))), (6, .int (nI a)), (11, .int 1), (10, .int (nI ci)), (9, .int (twN (C 0) (cn (C 0)))), (5, .int (nI (cn (C 0)))), (4, .int (C 0 7)), (3, .int ((-5))), (2, .int ((-5))), (1, .int (nI x)), (0, .ref (ad 0))]) hx hb dL_isRoundSo_142 hl (by decide) rfl (fun ls hl => ?_)
                refine lv_iinc (v := nI (ci + 1)) (lv' := [(10, .int (nI (ci + 1))), (8, .int (nI (cl + 1))), (7, .int (nI (wo + 0))), (6, .int (nI a)), (11, .int 1), (9, .int (twN (C 0) (cn (C 0)))), (5, .int (nI (cn (C 0)))), (4, .int (C 0 7)), (3, .int ((-5))), (2, .int ((-5))), (1, .int (nI x)), (0, .ref (ad 0))]) hx hb dL_isRoundSo_144 hl (k := 4) rfl (by rw [show Int32.ofInt 1 = nI 1 from rfl, nI_add]) (by decide) rfl (fun ls hl => ?_)
                refine lv_goto (tgt := 47) hx hb dL_isRoundSo_147 (by decide) ?_
                exact ih (ci + 1) a (wo + 0) (cl + 1) (by omega) (by omega) (by rw [fm_t c12 ea]; omega) (by rw [wr_t c12, hcan, if_neg (by decide)]; omega) (by rw [(chW_s (w := C 14) c12).2]; omega) _ _ _ hI (lv_sub hl [0, 5, 1, 2, 3, 6, 7, 8, 9, 10, 11] rfl)
              · skip
                refine lv_if_eq (tgt := 125) hx hb dL_isRoundSo_106 (by decide) (fun c34 => absurd c34 (by decide)) (fun _ => ?_)
                refine lv_aload_n hx hb dL_isRoundSo_109 rfl (lv_at hl 11 rfl) ?_
                refine lv_iload hx hb dL_isRoundSo_110 (lv_at hl 2 rfl) ?_
                refine lv_bipush (v := 9) hx hb dL_isRoundSo_112 (by decide) ?_
                refine c_calli (As := [.int (nI ci), .int 9]) (rest := [.int (nI wo)]) hx hb hml hown hts hK hX hI 0 (by omega) cE_0 rfl (k_X5_of l dd g ad pi A hA NB iB.W iB.g iB.Ld (nI ci) 9) (cwV 2 hts gL_isRoundSo_X5_of rfl rfl rfl (by decide +kernel) ⟨Nat.le_of_ble_eq_true rfl, Nat.le_of_ble_eq_true rfl⟩) rfl hl (Nat.le_of_ble_eq_true rfl) ⟨Nat.zero_le _, Nat.zero_le _⟩ dL_isRoundSo_114 rfl (fun r C1 pi1 H locs h35 hI => ?_)
                obtain ⟨hr9, hc9, hp9⟩ := h35
                rw [hc9, hp9] at hI
                rw [eB] at hr9
                rw [q_o9t hW hc hcan] at hr9
                subst hr9
                refine lv_iconst (v := 1) hx hb dL_isRoundSo_117 (by decide) ?_
                refine lv_icmp_ne (tgt := 125) hx hb dL_isRoundSo_118 (by decide) (fun c36 => absurd (by decide) c36) (fun _ => ?_)
                refine lv_iconst (v := 1) hx hb dL_isRoundSo_121 (by decide) ?_
                refine lv_goto (tgt := 126) hx hb dL_isRoundSo_122 (by decide) ?_
                refine lv_iadd hx hb dL_isRoundSo_126 ?_
                refine lv_re (y := nI (wo + 1)) (nI_add (wo) (1)) ?_
                refine lv_istore (lv' := [(7, .int (nI (wo + 1))), (6, .int (nI a)), (11, .int 1), (10, .int (nI ci)), (9, .int (twN (C 0) (cn (C 0)))), (8, .int (nI cl)), (5, .int (nI (cn (C 0)))), (4, .int (C 0 7)), (3, .int ((-5))), (2, .int ((-5))), (1, .int (nI x)), (0, .ref (ad 0))]) hx hb dL_isRoundSo_127 hl (by decide) rfl (fun ls hl => ?_)
                refine lv_iload hx hb dL_isRoundSo_129 (lv_at hl 5 rfl) ?_
                refine lv_iload hx hb dL_isRoundSo_131 (lv_at hl 2 rfl) ?_
                refine lv_if_eq (tgt := 140) hx hb dL_isRoundSo_133 (by decide) (fun c37 => absurd c37 (by decide)) (fun _ => ?_)
                refine lv_iconst (v := 1) hx hb dL_isRoundSo_136 (by decide) ?_
                refine lv_goto (tgt := 141) hx hb dL_isRoundSo_137 (by decide) ?_
                refine lv_iadd hx hb dL_isRoundSo_141 ?_
                refine lv_re (y := nI (cl + 1)) (nI_add (cl) (1)) ?_
                refine lv_istore (lv' := [(8, .int (nI (cl + 1))), (7, .int (nI (wo + 1))), (6, .int (nI a)), (11, .int 1), (10, .int (nI ci)), (9, .int (twN (C 0) (cn (C 0)))), (5, .int (nI (cn (C 0)))), (4, .int (C 0 7)), (3, .int ((-5))), (2, .int ((-5))), (1, .int (nI x)), (0, .ref (ad 0))]) hx hb dL_isRoundSo_142 hl (by decide) rfl (fun ls hl => ?_)
                refine lv_iinc (v := nI (ci + 1)) (lv' := [(10, .int (nI (ci + 1))), (8, .int (nI (cl + 1))), (7, .int (nI (wo + 1))), (6, .int (nI a)), (11, .int 1), (9, .int (twN (C 0) (cn (C 0)))), (5, .int (nI (cn (C 0)))), (4, .int (C 0 7)), (3, .int ((-5))), (2, .int ((-5))), (1, .int (nI x)), (0, .ref (ad 0))]) hx hb dL_isRoundSo_144 hl (k := 4) rfl (by rw [show Int32.ofInt 1 = nI 1 from rfl, nI_add]) (by decide) rfl (fun ls hl => ?_)
                refine lv_goto (tgt := 47) hx hb dL_isRoundSo_147 (by decide) ?_
                exact ih (ci + 1) a (wo + 1) (cl + 1) (by omega) (by omega) (by rw [fm_t c12 ea]; omega) (by rw [wr_t c12, hcan, if_pos rfl]; omega) (by rw [(chW_s (w := C 14) c12).2]; omega) _ _ _ hI (lv_sub hl [0, 5, 1, 2, 3, 6, 7, 8, 9, 10, 11] rfl)
    exact L47 (cn (C 0) + 1) 0 0 0 0 (by omega) (by omega) rfl rfl rfl _ _ _ hI (lv_sub hl [0, 1, 2, 3, 4, 5, 6, 7, 8, 10, 9] rfl)
  · skip
    refine lv_aload_n hx hb dL_isRoundSo_0 rfl (lv_at hl 0 rfl) ?_
    refine lv_iload_n hx hb dL_isRoundSo_1 rfl (lv_at hl 1 rfl) ?_
    refine c_calli (As := [.int (nI x)]) (rest := []) hx hb hml hown hts hK hX hI 0 (by omega) cE_0 rfl (k_X5_takes l dd g ad pi A hA C hIN.W hIN.Ld (nI x)) (cwV 1 hts gL_isRoundSo_X5_takes rfl rfl rfl (by decide +kernel) ⟨Nat.le_of_ble_eq_true rfl, Nat.le_of_ble_eq_true rfl⟩) rfl hl (Nat.le_of_ble_eq_true rfl) ⟨Nat.zero_le _, Nat.zero_le _⟩ dL_isRoundSo_2 rfl (fun r NA pi1 H locs h38 hI => ?_)
    obtain ⟨hr9, iA, eA, hp9⟩ := IN.tk hIN rfl x0 hL (C 14) et h38
    rw [hp9] at hI
    subst hr9
    refine lv_istore_n (lv' := [(2, .int (nI t)), (0, .ref (ad 0)), (1, .int (nI x))]) hx hb dL_isRoundSo_5 rfl hl (by decide) rfl (fun ls hl => ?_)
    refine lv_aload_n hx hb dL_isRoundSo_6 rfl (lv_at hl 1 rfl) ?_
    refine lv_iload_n hx hb dL_isRoundSo_7 rfl (lv_at hl 2 rfl) ?_
    refine c_calli (As := [.int (nI x)]) (rest := []) hx hb hml hown hts hK hX hI 0 (by omega) cE_0 rfl (k_X5_wayRound l dd g ad pi A hA NA iA.W iA.Ld (nI x)) (cwV 1 hts gL_isRoundSo_X5_wayRound rfl rfl rfl (by decide +kernel) ⟨Nat.le_of_ble_eq_true rfl, Nat.le_of_ble_eq_true rfl⟩) rfl hl (Nat.le_of_ble_eq_true rfl) ⟨Nat.zero_le _, Nat.zero_le _⟩ dL_isRoundSo_8 rfl (fun r NB pi1 H locs h39 hI => ?_)
    obtain ⟨wy, hwy, hr9, hw1, iB, eB, hp9⟩ := IN.wy iA eA x0 hL h39
    rw [hp9] at hI
    subst hr9
    refine lv_istore_n (lv' := [(3, .int (nI wy)), (2, .int (nI t)), (0, .ref (ad 0)), (1, .int (nI x))]) hx hb dL_isRoundSo_11 rfl hl (by decide) rfl (fun ls hl => ?_)
    refine lv_aload_n hx hb dL_isRoundSo_12 rfl (lv_at hl 2 rfl) ?_
    refine lv_bipush (v := 6) hx hb dL_isRoundSo_13 (by decide) ?_
    refine c_calli (As := [.int 6]) (rest := []) hx hb hml hown hts hK hX hI 0 (by omega) cE_0 rfl (k_X5_count l dd g ad pi A hA NB iB.W iB.g iB.Ld 6) (cwV 1 hts gL_isRoundSo_X5_count rfl rfl rfl (by decide +kernel) ⟨Nat.le_of_ble_eq_true rfl, Nat.le_of_ble_eq_true rfl⟩) rfl hl (Nat.le_of_ble_eq_true rfl) ⟨Nat.zero_le _, Nat.zero_le _⟩ dL_isRoundSo_15 rfl (fun r C1 pi1 H locs h40 hI => ?_)
    obtain ⟨hr9, hc9, hp9⟩ := h40
    rw [hc9, hp9] at hI
    rw [eB] at hr9
    rw [q_c6] at hr9
    subst hr9
    refine lv_istore (lv' := [(4, .int ((C 0) 7)), (3, .int (nI wy)), (2, .int (nI t)), (0, .ref (ad 0)), (1, .int (nI x))]) hx hb dL_isRoundSo_18 hl (by decide) rfl (fun ls hl => ?_)
    refine lv_aload_n hx hb dL_isRoundSo_20 rfl (lv_at hl 3 rfl) ?_
    refine lv_iconst (v := 1) hx hb dL_isRoundSo_21 (by decide) ?_
    refine c_calli (As := [.int 1]) (rest := []) hx hb hml hown hts hK hX hI 0 (by omega) cE_0 rfl (k_X5_count l dd g ad pi A hA NB iB.W iB.g iB.Ld 1) (cwV 1 hts gL_isRoundSo_X5_count rfl rfl rfl (by decide +kernel) ⟨Nat.le_of_ble_eq_true rfl, Nat.le_of_ble_eq_true rfl⟩) rfl hl (Nat.le_of_ble_eq_true rfl) ⟨Nat.zero_le _, Nat.zero_le _⟩ dL_isRoundSo_22 rfl (fun r C1 pi1 H locs h41 hI => ?_)
    obtain ⟨hr9, hc9, hp9⟩ := h41
    rw [hc9, hp9] at hI
    rw [eB] at hr9
    rw [q_c1 hW] at hr9
    subst hr9
    refine lv_istore (lv' := [(5, .int (nI (cn (C 0)))), (4, .int ((C 0) 7)), (3, .int (nI wy)), (2, .int (nI t)), (0, .ref (ad 0)), (1, .int (nI x))]) hx hb dL_isRoundSo_25 hl (by decide) rfl (fun ls hl => ?_)
    refine lv_iconst (v := 0) hx hb dL_isRoundSo_27 (by decide) ?_
    refine lv_istore (lv' := [(6, .int 0), (5, .int (nI (cn (C 0)))), (4, .int ((C 0) 7)), (3, .int (nI wy)), (2, .int (nI t)), (0, .ref (ad 0)), (1, .int (nI x))]) hx hb dL_isRoundSo_28 hl (by decide) rfl (fun ls hl => ?_)
    refine lv_iconst (v := 0) hx hb dL_isRoundSo_30 (by decide) ?_
    refine lv_istore (lv' := [(7, .int 0), (6, .int 0), (5, .int (nI (cn (C 0)))), (4, .int ((C 0) 7)), (3, .int (nI wy)), (2, .int (nI t)), (0, .ref (ad 0)), (1, .int (nI x))]) hx hb dL_isRoundSo_31 hl (by decide) rfl (fun ls hl => ?_)
    refine lv_iconst (v := 0) hx hb dL_isRoundSo_33 (by decide) ?_
    refine lv_istore (lv' := [(8, .int 0), (7, .int 0), (6, .int 0), (5, .int (nI (cn (C 0)))), (4, .int ((C 0) 7)), (3, .int (nI wy)), (2, .int (nI t)), (0, .ref (ad 0)), (1, .int (nI x))]) hx hb dL_isRoundSo_34 hl (by decide) rfl (fun ls hl => ?_)
    refine lv_aload_n hx hb dL_isRoundSo_36 rfl (lv_at hl 7 rfl) ?_
    refine lv_bipush (v := 7) hx hb dL_isRoundSo_37 (by decide) ?_
    refine c_calli (As := [.int 7]) (rest := []) hx hb hml hown hts hK hX hI 0 (by omega) cE_0 rfl (k_X5_count l dd g ad pi A hA NB iB.W iB.g iB.Ld 7) (cwV 1 hts gL_isRoundSo_X5_count rfl rfl rfl (by decide +kernel) ⟨Nat.le_of_ble_eq_true rfl, Nat.le_of_ble_eq_true rfl⟩) rfl hl (Nat.le_of_ble_eq_true rfl) ⟨Nat.zero_le _, Nat.zero_le _⟩ dL_isRoundSo_39 rfl (fun r C1 pi1 H locs h42 hI => ?_)
    obtain ⟨hr9, hc9, hp9⟩ := h42
    rw [hc9, hp9] at hI
    rw [eB] at hr9
    rw [q_c7] at hr9
    subst hr9
    refine lv_istore (lv' := [(9, .int (twN (C 0) (cn (C 0)))), (8, .int 0), (7, .int 0), (6, .int 0), (5, .int (nI (cn (C 0)))), (4, .int ((C 0) 7)), (3, .int (nI wy)), (2, .int (nI t)), (0, .ref (ad 0)), (1, .int (nI x))]) hx hb dL_isRoundSo_42 hl (by decide) rfl (fun ls hl => ?_)
    refine lv_iconst (v := 0) hx hb dL_isRoundSo_44 (by decide) ?_
    refine lv_istore (lv' := [(10, .int 0), (9, .int (twN (C 0) (cn (C 0)))), (8, .int 0), (7, .int 0), (6, .int 0), (5, .int (nI (cn (C 0)))), (4, .int ((C 0) 7)), (3, .int (nI wy)), (2, .int (nI t)), (0, .ref (ad 0)), (1, .int (nI x))]) hx hb dL_isRoundSo_45 hl (by decide) rfl (fun ls hl => ?_)
    have L47 : ∀ (fuel : Nat) (ci fa wo cl : Nat) (h1 : ci ≤ cn (C 0)) (h2 : cn (C 0) < fuel + ci) (hfa : fa = fmN (C 0) (nI x) ci) (hwo : wo = wrN (C 0) (nI x) ci) (hcl : cl = chL (nI x) ci) (H : Heap) (locs : List Loc) (ls : Array Slot), cI dd g ad pi A s.heap H locs NB → lv_has ls 14 [(10, .int (nI ci)), (9, .int (twN (C 0) (cn (C 0)))), (8, .int (nI cl)), (7, .int (nI wo)), (6, .int (nI fa)), (5, .int (nI (cn (C 0)))), (4, .int (C 0 7)), (3, .int (nI wy)), (2, .int (nI t)), (1, .int (nI x)), (0, .ref (ad 0))] → wk p l e wsL_isRoundSo { frames := 5, cells := 0, slots := 0, locals := 120 } s m [.ref (ad 0), .int (nI x)] below meth c H locs (cQi dd g ad A (fun r C1 pi1 => r = 1 ∧ ∃ d1, IN C1 pi1 d1 Bn)) (A) (F0 m 47 ls []) := by
      intro fuel
      induction fuel with
      | zero =>
        intro ci fa wo cl h1 h2 hfa hwo hcl H locs ls hI hl
        exact absurd h2 (by omega)
      | succ fuel ih =>
        intro ci fa wo cl h1 h2 hfa hwo hcl H locs ls hI hl
        refine lv_iload hx hb dL_isRoundSo_47 (lv_at hl 0 rfl) ?_
        refine lv_iload hx hb dL_isRoundSo_49 (lv_at hl 5 rfl) ?_
        refine lv_icmp_ge (tgt := 150) hx hb dL_isRoundSo_51 (by decide) (fun c43 => ?_) (fun c43 => ?_)
        · skip
          have nc43 : cn (C 0) ≤ ci := (nI_leI (a := cn (C 0)) (b := ci) (by omega) (by omega)).mp c43
          have ec : ci = cn (C 0) := by omega
          subst ec
          have hcl16 := chL_le (nI x) (cn (C 0))
          have hf99 := fm_le hV (nI x) (cn (C 0)) (Nat.le_refl _)
          have hw16 := wrN_le (C 0) (nI x) (cn (C 0))
          refine lv_aload_n hx hb dL_isRoundSo_150 rfl (lv_at hl 10 rfl) ?_
          refine lv_iload_n hx hb dL_isRoundSo_151 rfl (lv_at hl 9 rfl) ?_
          refine c_calli (As := [.int (nI x)]) (rest := []) hx hb hml hown hts hK hX hI 0 (by omega) cE_0 rfl (k_X5_round l dd g ad pi A hA NB d iB.1 iB.2.1 iB.2.2.1 iB.W iB.g iB.Ld (nI x)) (cwV 1 hts gL_isRoundSo_X5_round rfl rfl rfl (by decide +kernel) ⟨Nat.le_of_ble_eq_true rfl, Nat.le_of_ble_eq_true rfl⟩) rfl hl (Nat.le_of_ble_eq_true rfl) ⟨Nat.zero_le _, Nat.zero_le _⟩ dL_isRoundSo_152 rfl (fun r NC PC H locs h44 hI => ?_)
          obtain ⟨hr9, dC, iC, bw, z1, z2⟩ := IN.rd iB eB x0 hL (C 14) ht et h44
          have fC := iC.1
          have hgeA : 2 * fa * ss + wo * ww ≤ t := by rw [hfa, hwo]; exact hge
          have hgeB : 2 * fa * ss + wo * ww < 2 ^ 30 := by rw [hfa, hwo]; exact hge2
          subst hr9
          refine lv_istore (lv' := [(10, .int (nI t)), (9, .int (twN (C 0) (cn (C 0)))), (8, .int (nI cl)), (7, .int (nI wo)), (6, .int (nI fa)), (5, .int (nI (cn (C 0)))), (4, .int (C 0 7)), (3, .int (nI wy)), (2, .int (nI t)), (1, .int (nI x)), (0, .ref (ad 0))]) hx hb dL_isRoundSo_155 hl (by decide) rfl (fun ls hl => ?_)
          refine lv_iload hx hb dL_isRoundSo_157 (lv_at hl 2 rfl) ?_
          refine lv_if_ne (tgt := 187) hx hb dL_isRoundSo_159 (by decide) (fun c45 => ?_) (fun c45 => ?_)
          · skip
            have nc45 : ¬ (cl = 0) := fun h => c45 ((nI_eq (a := cl) (b := 0) (by omega) (by omega)).mpr h)
            refine lv_iload hx hb dL_isRoundSo_187 (lv_at hl 0 rfl) ?_
            refine lv_iload_n hx hb dL_isRoundSo_189 rfl (lv_at hl 8 rfl) ?_
            refine lv_icmp_ne (tgt := 271) hx hb dL_isRoundSo_190 (by decide) (fun c46 => absurd rfl c46) (fun _ => ?_)
            refine lv_iload_n hx hb dL_isRoundSo_193 rfl (lv_at hl 7 rfl) ?_
            refine lv_if_lt (tgt := 271) hx hb dL_isRoundSo_194 (by decide) (fun c47 => ?_) (fun c47 => ?_)
            · skip
              have nc47 : wy < 0 := (nI_ltI (a := wy) (b := 0) (by omega) (by omega)).mp c47
              exact absurd nc47 (by omega)
            · skip
              have nc47 : ¬ (wy < 0) := fun h => c47 ((nI_ltI (a := wy) (b := 0) (by omega) (by omega)).mpr h)
              refine lv_iload_n hx hb dL_isRoundSo_197 rfl (lv_at hl 7 rfl) ?_
              refine lv_iconst (v := 3) hx hb dL_isRoundSo_198 (by decide) ?_
              refine lv_icmp_ge (tgt := 271) hx hb dL_isRoundSo_199 (by decide) (fun c48 => ?_) (fun c48 => ?_)
              · skip
                have nc48 : 3 ≤ wy := (nI_leI (a := 3) (b := wy) (by omega) (by omega)).mp c48
                exact absurd nc48 (by omega)
              · skip
                have nc48 : ¬ (3 ≤ wy) := fun h => c48 ((nI_leI (a := 3) (b := wy) (by omega) (by omega)).mpr h)
                refine lv_iload hx hb dL_isRoundSo_202 (lv_at hl 2 rfl) ?_
                refine lv_iconst (v := 1) hx hb dL_isRoundSo_204 (by decide) ?_
                refine lv_icmp_gt (tgt := 213) hx hb dL_isRoundSo_205 (by decide) (fun c49 => ?_) (fun c49 => ?_)
                · skip
                  have nc49 : 1 < cl := (nI_ltI (a := 1) (b := cl) (by omega) (by omega)).mp c49
                  refine lv_iload hx hb dL_isRoundSo_213 (lv_at hl 0 rfl) ?_
                  refine lv_iconst (v := 2) hx hb dL_isRoundSo_215 (by decide) ?_
                  refine lv_iload hx hb dL_isRoundSo_216 (lv_at hl 4 rfl) ?_
                  refine lv_imul hx hb dL_isRoundSo_218 ?_
                  refine lv_re (y := nI (2 * fa)) (pk_mul (2) (fa)) ?_
                  refine lv_aload_n hx hb dL_isRoundSo_219 rfl (lv_at hl 10 rfl) ?_
                  refine lv_bipush (v := 10) hx hb dL_isRoundSo_220 (by decide) ?_
                  refine c_calli (As := [.int 10]) (rest := [.int (nI (2 * fa)), .int (nI t)]) hx hb hml hown hts hK hX hI 0 (by omega) cE_0 rfl (k_X5_count l dd g ad PC A hA NC iC.W iC.g iC.Ld 10) (cwV 1 hts gL_isRoundSo_X5_count rfl rfl rfl (by decide +kernel) ⟨Nat.le_of_ble_eq_true rfl, Nat.le_of_ble_eq_true rfl⟩) rfl hl (Nat.le_of_ble_eq_true rfl) ⟨Nat.zero_le _, Nat.zero_le _⟩ dL_isRoundSo_222 rfl (fun r C1 pi1 H locs h50 hI => ?_)
                  obtain ⟨hr9, hc9, hp9⟩ := h50
                  rw [hc9, hp9] at hI
                  rw [q_c10] at hr9
                  rw [bw.2.2.1, es] at hr9
                  subst hr9
                  refine lv_imul hx hb dL_isRoundSo_225 ?_
                  refine lv_re (y := nI ((2 * fa) * ss)) (pk_mul (2 * fa) (ss)) ?_
                  refine lv_iload hx hb dL_isRoundSo_226 (lv_at hl 3 rfl) ?_
                  refine lv_aload_n hx hb dL_isRoundSo_228 rfl (lv_at hl 10 rfl) ?_
                  refine lv_bipush (v := 11) hx hb dL_isRoundSo_229 (by decide) ?_
                  refine c_calli (As := [.int 11]) (rest := [.int (nI wo), .int (nI ((2 * fa) * ss)), .int (nI t)]) hx hb hml hown hts hK hX hI 0 (by omega) cE_0 rfl (k_X5_count l dd g ad PC A hA NC iC.W iC.g iC.Ld 11) (cwV 1 hts gL_isRoundSo_X5_count rfl rfl rfl (by decide +kernel) ⟨Nat.le_of_ble_eq_true rfl, Nat.le_of_ble_eq_true rfl⟩) rfl hl (Nat.le_of_ble_eq_true rfl) ⟨Nat.zero_le _, Nat.zero_le _⟩ dL_isRoundSo_231 rfl (fun r C1 pi1 H locs h51 hI => ?_)
                  obtain ⟨hr9, hc9, hp9⟩ := h51
                  rw [hc9, hp9] at hI
                  rw [q_c11] at hr9
                  rw [bw.2.2.2.1, ew] at hr9
                  subst hr9
                  refine lv_imul hx hb dL_isRoundSo_234 ?_
                  refine lv_re (y := nI (wo * ww)) (pk_mul (wo) (ww)) ?_
                  refine lv_iadd hx hb dL_isRoundSo_235 ?_
                  refine lv_re (y := nI ((2 * fa) * ss + (wo * ww))) (nI_add ((2 * fa) * ss) (wo * ww)) ?_
                  refine lv_icmp_lt (tgt := 271) hx hb dL_isRoundSo_236 (by decide) (fun c52 => ?_) (fun c52 => ?_)
                  · skip
                    have nc52 : t < (2 * fa) * ss + (wo * ww) := (nI_ltI (a := t) (b := (2 * fa) * ss + (wo * ww)) (by omega) (by omega)).mp c52
                    exact absurd nc52 (by omega)
                  · skip
                    have nc52 : ¬ (t < (2 * fa) * ss + (wo * ww)) := fun h => c52 ((nI_ltI (a := t) (b := (2 * fa) * ss + (wo * ww)) (by omega) (by omega)).mpr h)
                    refine lv_aload_n hx hb dL_isRoundSo_239 rfl (lv_at hl 10 rfl) ?_
                    refine lv_bipush (v := 6) hx hb dL_isRoundSo_240 (by decide) ?_
                    refine c_calli (As := [.int 6]) (rest := []) hx hb hml hown hts hK hX hI 0 (by omega) cE_0 rfl (k_X5_count l dd g ad PC A hA NC iC.W iC.g iC.Ld 6) (cwV 1 hts gL_isRoundSo_X5_count rfl rfl rfl (by decide +kernel) ⟨Nat.le_of_ble_eq_true rfl, Nat.le_of_ble_eq_true rfl⟩) rfl hl (Nat.le_of_ble_eq_true rfl) ⟨Nat.zero_le _, Nat.zero_le _⟩ dL_isRoundSo_242 rfl (fun r C1 pi1 H locs h53 hI => ?_)
                    obtain ⟨hr9, hc9, hp9⟩ := h53
                    rw [hc9, hp9] at hI
                    rw [q_c6] at hr9
                    rw [bw.2.1] at hr9
                    subst hr9
                    refine lv_iload hx hb dL_isRoundSo_245 (lv_at hl 6 rfl) ?_
                    refine lv_iload hx hb dL_isRoundSo_247 (lv_at hl 0 rfl) ?_
                    refine lv_iadd hx hb dL_isRoundSo_249 ?_
                    refine lv_icmp_ne (tgt := 271) hx hb dL_isRoundSo_250 (by decide) (fun c54 => absurd rfl c54) (fun _ => ?_)
                    refine lv_aload_n hx hb dL_isRoundSo_253 rfl (lv_at hl 10 rfl) ?_
                    refine lv_bipush (v := 7) hx hb dL_isRoundSo_254 (by decide) ?_
                    refine c_calli (As := [.int 7]) (rest := []) hx hb hml hown hts hK hX hI 0 (by omega) cE_0 rfl (k_X5_count l dd g ad PC A hA NC iC.W iC.g iC.Ld 7) (cwV 1 hts gL_isRoundSo_X5_count rfl rfl rfl (by decide +kernel) ⟨Nat.le_of_ble_eq_true rfl, Nat.le_of_ble_eq_true rfl⟩) rfl hl (Nat.le_of_ble_eq_true rfl) ⟨Nat.zero_le _, Nat.zero_le _⟩ dL_isRoundSo_256 rfl (fun r C1 pi1 H locs h55 hI => ?_)
                    obtain ⟨hr9, hc9, hp9⟩ := h55
                    rw [hc9, hp9] at hI
                    rw [q_c7] at hr9
                    rw [bw.1, bw.2.2.2.2.2.2, ← hwo] at hr9
                    subst hr9
                    refine lv_iload hx hb dL_isRoundSo_259 (lv_at hl 1 rfl) ?_
                    refine lv_iload hx hb dL_isRoundSo_261 (lv_at hl 3 rfl) ?_
                    refine lv_iadd hx hb dL_isRoundSo_263 ?_
                    refine lv_icmp_ne (tgt := 271) hx hb dL_isRoundSo_264 (by decide) (fun c56 => absurd rfl c56) (fun _ => ?_)
                    refine lv_iconst (v := 1) hx hb dL_isRoundSo_267 (by decide) ?_
                    refine lv_goto (tgt := 272) hx hb dL_isRoundSo_268 (by decide) ?_
                    refine lv_istore (lv' := [(11, .int 1), (10, .int (nI t)), (9, .int (twN (C 0) (cn (C 0)))), (8, .int (nI cl)), (7, .int (nI wo)), (6, .int (nI fa)), (5, .int (nI (cn (C 0)))), (4, .int (C 0 7)), (3, .int (nI wy)), (2, .int (nI t)), (1, .int (nI x)), (0, .ref (ad 0))]) hx hb dL_isRoundSo_272 hl (by decide) rfl (fun ls hl => ?_)
                    refine lv_iconst (v := 0) hx hb dL_isRoundSo_274 (by decide) ?_
                    refine lv_istore (lv' := [(12, .int 0), (11, .int 1), (10, .int (nI t)), (9, .int (twN (C 0) (cn (C 0)))), (8, .int (nI cl)), (7, .int (nI wo)), (6, .int (nI fa)), (5, .int (nI (cn (C 0)))), (4, .int (C 0 7)), (3, .int (nI wy)), (2, .int (nI t)), (1, .int (nI x)), (0, .ref (ad 0))]) hx hb dL_isRoundSo_275 hl (by decide) rfl (fun ls hl => ?_)
                    have L277 : ∀ (fuel2 : Nat) (ci : Nat) (h1 : ci ≤ cn (C 0)) (h2 : cn (C 0) < fuel2 + ci) (H : Heap) (locs : List Loc) (ls : Array Slot), cI dd g ad PC A s.heap H locs NC → lv_has ls 14 [(12, .int (nI ci)), (11, .int 1), (5, .int (nI (cn (C 0)))), (4, .int (C 0 7)), (1, .int (nI x)), (0, .ref (ad 0))] → wk p l e wsL_isRoundSo { frames := 5, cells := 0, slots := 0, locals := 120 } s m [.ref (ad 0), .int (nI x)] below meth c H locs (cQi dd g ad A (fun r C1 pi1 => r = 1 ∧ ∃ d1, IN C1 pi1 d1 Bn)) (A) (F0 m 277 ls []) := by
                      intro fuel2
                      induction fuel2 with
                      | zero =>
                        intro ci h1 h2 H locs ls hI hl
                        exact absurd h2 (by omega)
                      | succ fuel2 ih2 =>
                        intro ci h1 h2 H locs ls hI hl
                        refine lv_iload hx hb dL_isRoundSo_277 (lv_at hl 0 rfl) ?_
                        refine lv_iload hx hb dL_isRoundSo_279 (lv_at hl 2 rfl) ?_
                        refine lv_icmp_ge (tgt := 367) hx hb dL_isRoundSo_281 (by decide) (fun c57 => ?_) (fun c57 => ?_)
                        · skip
                          have nc57 : cn (C 0) ≤ ci := (nI_leI (a := cn (C 0)) (b := ci) (by omega) (by omega)).mp c57
                          refine lv_aload_n hx hb dL_isRoundSo_367 rfl (lv_at hl 5 rfl) ?_
                          refine c_calli (As := []) (rest := []) hx hb hml hown hts hK hX hI 0 (by omega) cE_0 rfl (k_X5_undo l dd g ad PC A hA NC dC iC.1 iC.2.1 iC.2.2.1 iC.hist) (cwV 0 hts gL_isRoundSo_X5_undo rfl rfl rfl (by decide +kernel) ⟨Nat.le_of_ble_eq_true rfl, Nat.le_of_ble_eq_true rfl⟩) rfl hl (Nat.le_of_ble_eq_true rfl) ⟨Nat.zero_le _, Nat.zero_le _⟩ dL_isRoundSo_368 rfl (fun r ND pi1 H locs h58 hI => ?_)
                          obtain ⟨hr9, hc9, hp9⟩ := un_ok z1 h58
                          rw [hp9] at hI
                          obtain ⟨iD, roD, snD⟩ := IN.un iC z1 z2 hIN.2.2.2.1 hc9
                          subst hr9
                          clear hc9
                          refine lv_istore (lv' := [(12, .int (nI (dC - 1))), (11, .int 1), (5, .int (nI (cn (C 0)))), (4, .int (C 0 7)), (1, .int (nI x)), (0, .ref (ad 0))]) hx hb dL_isRoundSo_371 hl (by decide) rfl (fun ls hl => ?_)
                          refine lv_iload hx hb dL_isRoundSo_373 (lv_at hl 1 rfl) ?_
                          refine lv_if_eq (tgt := 398) hx hb dL_isRoundSo_375 (by decide) (fun c59 => absurd c59 (by decide)) (fun _ => ?_)
                          refine lv_iload hx hb dL_isRoundSo_378 (lv_at hl 0 rfl) ?_
                          refine lv_if_lt (tgt := 398) hx hb dL_isRoundSo_380 (by decide) (fun c60 => ?_) (fun c60 => ?_)
                          · skip
                            have nc60 : dC - 1 < 0 := (nI_ltI (a := dC - 1) (b := 0) (by omega) (by omega)).mp c60
                            exact absurd nc60 (by omega)
                          · skip
                            have nc60 : ¬ (dC - 1 < 0) := fun h => c60 ((nI_ltI (a := dC - 1) (b := 0) (by omega) (by omega)).mpr h)
                            refine lv_aload_n hx hb dL_isRoundSo_383 rfl (lv_at hl 5 rfl) ?_
                            refine lv_bipush (v := 6) hx hb dL_isRoundSo_384 (by decide) ?_
                            refine c_calli (As := [.int 6]) (rest := []) hx hb hml hown hts hK hX hI 0 (by omega) cE_0 rfl (k_X5_count l dd g ad PC A hA ND iD.W iD.g iD.Ld 6) (cwV 1 hts gL_isRoundSo_X5_count rfl rfl rfl (by decide +kernel) ⟨Nat.le_of_ble_eq_true rfl, Nat.le_of_ble_eq_true rfl⟩) rfl hl (Nat.le_of_ble_eq_true rfl) ⟨Nat.zero_le _, Nat.zero_le _⟩ dL_isRoundSo_386 rfl (fun r C1 pi1 H locs h61 hI => ?_)
                            obtain ⟨hr9, hc9, hp9⟩ := h61
                            rw [hc9, hp9] at hI
                            rw [q_c6] at hr9
                            rw [roD.2 7 (by omega)] at hr9
                            subst hr9
                            refine lv_iload hx hb dL_isRoundSo_389 (lv_at hl 3 rfl) ?_
                            refine lv_icmp_ne (tgt := 398) hx hb dL_isRoundSo_391 (by decide) (fun c62 => absurd rfl c62) (fun _ => ?_)
                            refine lv_iconst (v := 1) hx hb dL_isRoundSo_394 (by decide) ?_
                            refine lv_goto (tgt := 399) hx hb dL_isRoundSo_395 (by decide) ?_
                            exact c_zret (v := 1) hx hb hr (by first | rfl | decide) hI (⟨rfl, _, iD⟩) dL_isRoundSo_399 hlocks
                        · skip
                          have nc57 : ¬ (cn (C 0) ≤ ci) := fun h => c57 ((nI_leI (a := cn (C 0)) (b := ci) (by omega) (by omega)).mpr h)
                          have hc : ci < cn (C 0) := by omega
                          have hcN : ci < cn (NC 0) := by rw [bw.1]; exact hc
                          refine lv_iload_n hx hb dL_isRoundSo_284 rfl (lv_at hl 4 rfl) ?_
                          refine lv_iload hx hb dL_isRoundSo_285 (lv_at hl 0 rfl) ?_
                          refine lv_ishr hx hb dL_isRoundSo_287 ?_
                          refine lv_iconst (v := 1) hx hb dL_isRoundSo_288 (by decide) ?_
                          refine lv_iand hx hb dL_isRoundSo_289 ?_
                          refine lv_iconst (v := 1) hx hb dL_isRoundSo_290 (by decide) ?_
                          refine lv_icmp_ne (tgt := 310) hx hb dL_isRoundSo_291 (by decide) (fun c63 => ?_) (fun c63 => ?_)
                          · skip
                            refine lv_iconst (v := 0) hx hb dL_isRoundSo_310 (by decide) ?_
                            refine lv_istore (lv' := [(13, .int 0), (12, .int (nI ci)), (11, .int 1), (5, .int (nI (cn (C 0)))), (4, .int (C 0 7)), (1, .int (nI x)), (0, .ref (ad 0))]) hx hb dL_isRoundSo_311 hl (by decide) rfl (fun ls hl => ?_)
                            refine lv_iload hx hb dL_isRoundSo_313 (lv_at hl 2 rfl) ?_
                            refine lv_if_eq (tgt := 358) hx hb dL_isRoundSo_315 (by decide) (fun c64 => absurd c64 (by decide)) (fun _ => ?_)
                            refine lv_iload hx hb dL_isRoundSo_318 (lv_at hl 0 rfl) ?_
                            refine lv_if_eq (tgt := 354) hx hb dL_isRoundSo_320 (by decide) (fun _ => ?_) (fun c65 => absurd (by decide) c65)
                            refine lv_iconst (v := 1) hx hb dL_isRoundSo_354 (by decide) ?_
                            refine lv_goto (tgt := 359) hx hb dL_isRoundSo_355 (by decide) ?_
                            refine lv_istore (lv' := [(11, .int 1), (13, .int 0), (12, .int (nI ci)), (5, .int (nI (cn (C 0)))), (4, .int (C 0 7)), (1, .int (nI x)), (0, .ref (ad 0))]) hx hb dL_isRoundSo_359 hl (by decide) rfl (fun ls hl => ?_)
                            refine lv_iinc (v := nI (ci + 1)) (lv' := [(12, .int (nI (ci + 1))), (11, .int 1), (13, .int 0), (5, .int (nI (cn (C 0)))), (4, .int (C 0 7)), (1, .int (nI x)), (0, .ref (ad 0))]) hx hb dL_isRoundSo_361 hl (k := 2) rfl (by rw [show Int32.ofInt 1 = nI 1 from rfl, nI_add]) (by decide) rfl (fun ls hl => ?_)
                            refine lv_goto (tgt := 277) hx hb dL_isRoundSo_364 (by decide) ?_
                            exact ih2 (ci + 1) (by omega) (by omega) _ _ _ hI (lv_sub hl [0, 1, 3, 4, 5, 6] rfl)
                          · skip
                            rcases hcan : canW (C 0) ci
                            · skip
                              have hcanN : canW (NC 0) ci = false := by rw [bw.2.2.2.2.1 ci hc]; exact hcan
                              refine lv_aload_n hx hb dL_isRoundSo_294 rfl (lv_at hl 5 rfl) ?_
                              refine lv_iload hx hb dL_isRoundSo_295 (lv_at hl 0 rfl) ?_
                              refine lv_bipush (v := 9) hx hb dL_isRoundSo_297 (by decide) ?_
                              refine c_calli (As := [.int (nI ci), .int 9]) (rest := []) hx hb hml hown hts hK hX hI 0 (by omega) cE_0 rfl (k_X5_of l dd g ad PC A hA NC iC.W iC.g iC.Ld (nI ci) 9) (cwV 2 hts gL_isRoundSo_X5_of rfl rfl rfl (by decide +kernel) ⟨Nat.le_of_ble_eq_true rfl, Nat.le_of_ble_eq_true rfl⟩) rfl hl (Nat.le_of_ble_eq_true rfl) ⟨Nat.zero_le _, Nat.zero_le _⟩ dL_isRoundSo_299 rfl (fun r C1 pi1 H locs h66 hI => ?_)
                              obtain ⟨hr9, hc9, hp9⟩ := h66
                              rw [hc9, hp9] at hI
                              rw [q_o9f iC.W hcN hcanN] at hr9
                              subst hr9
                              refine lv_iconst (v := 1) hx hb dL_isRoundSo_302 (by decide) ?_
                              refine lv_icmp_ne (tgt := 310) hx hb dL_isRoundSo_303 (by decide) (fun _ => ?_) (fun c67 => absurd c67 (by decide))
                              refine lv_iconst (v := 0) hx hb dL_isRoundSo_310 (by decide) ?_
                              refine lv_istore (lv' := [(13, .int 0), (12, .int (nI ci)), (11, .int 1), (5, .int (nI (cn (C 0)))), (4, .int (C 0 7)), (1, .int (nI x)), (0, .ref (ad 0))]) hx hb dL_isRoundSo_311 hl (by decide) rfl (fun ls hl => ?_)
                              refine lv_iload hx hb dL_isRoundSo_313 (lv_at hl 2 rfl) ?_
                              refine lv_if_eq (tgt := 358) hx hb dL_isRoundSo_315 (by decide) (fun c68 => absurd c68 (by decide)) (fun _ => ?_)
                              refine lv_iload hx hb dL_isRoundSo_318 (lv_at hl 0 rfl) ?_
                              refine lv_if_eq (tgt := 354) hx hb dL_isRoundSo_320 (by decide) (fun _ => ?_) (fun c69 => absurd (by decide) c69)
                              refine lv_iconst (v := 1) hx hb dL_isRoundSo_354 (by decide) ?_
                              refine lv_goto (tgt := 359) hx hb dL_isRoundSo_355 (by decide) ?_
                              refine lv_istore (lv' := [(11, .int 1), (13, .int 0), (12, .int (nI ci)), (5, .int (nI (cn (C 0)))), (4, .int (C 0 7)), (1, .int (nI x)), (0, .ref (ad 0))]) hx hb dL_isRoundSo_359 hl (by decide) rfl (fun ls hl => ?_)
                              refine lv_iinc (v := nI (ci + 1)) (lv' := [(12, .int (nI (ci + 1))), (11, .int 1), (13, .int 0), (5, .int (nI (cn (C 0)))), (4, .int (C 0 7)), (1, .int (nI x)), (0, .ref (ad 0))]) hx hb dL_isRoundSo_361 hl (k := 2) rfl (by rw [show Int32.ofInt 1 = nI 1 from rfl, nI_add]) (by decide) rfl (fun ls hl => ?_)
                              refine lv_goto (tgt := 277) hx hb dL_isRoundSo_364 (by decide) ?_
                              exact ih2 (ci + 1) (by omega) (by omega) _ _ _ hI (lv_sub hl [0, 1, 3, 4, 5, 6] rfl)
                            · skip
                              have hcanN : canW (NC 0) ci = true := by rw [bw.2.2.2.2.1 ci hc]; exact hcan
                              have hdo := bw.2.2.2.2.2.1 ci hc c63 hcan
                              refine lv_aload_n hx hb dL_isRoundSo_294 rfl (lv_at hl 5 rfl) ?_
                              refine lv_iload hx hb dL_isRoundSo_295 (lv_at hl 0 rfl) ?_
                              refine lv_bipush (v := 9) hx hb dL_isRoundSo_297 (by decide) ?_
                              refine c_calli (As := [.int (nI ci), .int 9]) (rest := []) hx hb hml hown hts hK hX hI 0 (by omega) cE_0 rfl (k_X5_of l dd g ad PC A hA NC iC.W iC.g iC.Ld (nI ci) 9) (cwV 2 hts gL_isRoundSo_X5_of rfl rfl rfl (by decide +kernel) ⟨Nat.le_of_ble_eq_true rfl, Nat.le_of_ble_eq_true rfl⟩) rfl hl (Nat.le_of_ble_eq_true rfl) ⟨Nat.zero_le _, Nat.zero_le _⟩ dL_isRoundSo_299 rfl (fun r C1 pi1 H locs h70 hI => ?_)
                              obtain ⟨hr9, hc9, hp9⟩ := h70
                              rw [hc9, hp9] at hI
                              rw [q_o9t iC.W hcN hcanN] at hr9
                              subst hr9
                              refine lv_iconst (v := 1) hx hb dL_isRoundSo_302 (by decide) ?_
                              refine lv_icmp_ne (tgt := 310) hx hb dL_isRoundSo_303 (by decide) (fun c71 => absurd (by decide) c71) (fun _ => ?_)
                              refine lv_iconst (v := 1) hx hb dL_isRoundSo_306 (by decide) ?_
                              refine lv_goto (tgt := 311) hx hb dL_isRoundSo_307 (by decide) ?_
                              refine lv_istore (lv' := [(13, .int 1), (12, .int (nI ci)), (11, .int 1), (5, .int (nI (cn (C 0)))), (4, .int (C 0 7)), (1, .int (nI x)), (0, .ref (ad 0))]) hx hb dL_isRoundSo_311 hl (by decide) rfl (fun ls hl => ?_)
                              refine lv_iload hx hb dL_isRoundSo_313 (lv_at hl 2 rfl) ?_
                              refine lv_if_eq (tgt := 358) hx hb dL_isRoundSo_315 (by decide) (fun c72 => absurd c72 (by decide)) (fun _ => ?_)
                              refine lv_iload hx hb dL_isRoundSo_318 (lv_at hl 0 rfl) ?_
                              refine lv_if_eq (tgt := 354) hx hb dL_isRoundSo_320 (by decide) (fun c73 => absurd c73 (by decide)) (fun _ => ?_)
                              refine lv_aload_n hx hb dL_isRoundSo_323 rfl (lv_at hl 6 rfl) ?_
                              refine lv_iload hx hb dL_isRoundSo_324 (lv_at hl 1 rfl) ?_
                              refine lv_bipush (v := 6) hx hb dL_isRoundSo_326 (by decide) ?_
                              refine c_calli (As := [.int (nI ci), .int 6]) (rest := []) hx hb hml hown hts hK hX hI 0 (by omega) cE_0 rfl (k_X5_of l dd g ad PC A hA NC iC.W iC.g iC.Ld (nI ci) 6) (cwV 2 hts gL_isRoundSo_X5_of rfl rfl rfl (by decide +kernel) ⟨Nat.le_of_ble_eq_true rfl, Nat.le_of_ble_eq_true rfl⟩) rfl hl (Nat.le_of_ble_eq_true rfl) ⟨Nat.zero_le _, Nat.zero_le _⟩ dL_isRoundSo_328 rfl (fun r C1 pi1 H locs h74 hI => ?_)
                              obtain ⟨hr9, hc9, hp9⟩ := h74
                              rw [hc9, hp9] at hI
                              rw [q_o6 iC.W hcN] at hr9
                              rw [hdo.1] at hr9
                              subst hr9
                              refine lv_iconst (v := 1) hx hb dL_isRoundSo_331 (by decide) ?_
                              refine lv_icmp_ne (tgt := 358) hx hb dL_isRoundSo_332 (by decide) (fun c75 => absurd (by decide) c75) (fun _ => ?_)
                              refine lv_aload_n hx hb dL_isRoundSo_335 rfl (lv_at hl 6 rfl) ?_
                              refine lv_iload hx hb dL_isRoundSo_336 (lv_at hl 1 rfl) ?_
                              refine c_callC (As := [.ref (ad 0), .int (nI ci)]) (rest := []) hx hb hml hown hts hK hX hI (k_L_off l dd g ad PC A hA NC iC.W iC.g iC.Ld ci hcN) (va_cwS 2 hts gL_isRoundSo_L_off rfl rfl rfl (by decide +kernel) ⟨Nat.le_of_ble_eq_true rfl, Nat.le_of_ble_eq_true rfl⟩) rfl hl (Nat.le_of_ble_eq_true rfl) ⟨Nat.zero_le _, Nat.zero_le _⟩ dL_isRoundSo_338 rfl (fun r C1 pi1 H locs h76 hI => ?_)
                              obtain ⟨hr9, hc9, hp9⟩ := h76
                              rw [hc9, hp9] at hI
                              rw [hdo.2.1] at hr9
                              subst hr9
                              refine lv_if_ne (tgt := 358) hx hb dL_isRoundSo_341 (by decide) (fun c77 => absurd (by decide) c77) (fun _ => ?_)
                              refine lv_aload_n hx hb dL_isRoundSo_344 rfl (lv_at hl 6 rfl) ?_
                              refine lv_iload hx hb dL_isRoundSo_345 (lv_at hl 1 rfl) ?_
                              refine lv_iconst (v := 5) hx hb dL_isRoundSo_347 (by decide) ?_
                              refine c_calli (As := [.int (nI ci), .int 5]) (rest := []) hx hb hml hown hts hK hX hI 0 (by omega) cE_0 rfl (k_X5_of l dd g ad PC A hA NC iC.W iC.g iC.Ld (nI ci) 5) (cwV 2 hts gL_isRoundSo_X5_of rfl rfl rfl (by decide +kernel) ⟨Nat.le_of_ble_eq_true rfl, Nat.le_of_ble_eq_true rfl⟩) rfl hl (Nat.le_of_ble_eq_true rfl) ⟨Nat.zero_le _, Nat.zero_le _⟩ dL_isRoundSo_348 rfl (fun r C1 pi1 H locs h78 hI => ?_)
                              obtain ⟨hr9, hc9, hp9⟩ := h78
                              rw [hc9, hp9] at hI
                              rw [q_o5 iC.W hcN] at hr9
                              rw [hdo.2.2] at hr9
                              subst hr9
                              refine lv_if_ne (tgt := 358) hx hb dL_isRoundSo_351 (by decide) (fun c79 => absurd (by decide) c79) (fun _ => ?_)
                              refine lv_iconst (v := 1) hx hb dL_isRoundSo_354 (by decide) ?_
                              refine lv_goto (tgt := 359) hx hb dL_isRoundSo_355 (by decide) ?_
                              refine lv_istore (lv' := [(11, .int 1), (13, .int 1), (12, .int (nI ci)), (5, .int (nI (cn (C 0)))), (4, .int (C 0 7)), (1, .int (nI x)), (0, .ref (ad 0))]) hx hb dL_isRoundSo_359 hl (by decide) rfl (fun ls hl => ?_)
                              refine lv_iinc (v := nI (ci + 1)) (lv' := [(12, .int (nI (ci + 1))), (11, .int 1), (13, .int 1), (5, .int (nI (cn (C 0)))), (4, .int (C 0 7)), (1, .int (nI x)), (0, .ref (ad 0))]) hx hb dL_isRoundSo_361 hl (k := 2) rfl (by rw [show Int32.ofInt 1 = nI 1 from rfl, nI_add]) (by decide) rfl (fun ls hl => ?_)
                              refine lv_goto (tgt := 277) hx hb dL_isRoundSo_364 (by decide) ?_
                              exact ih2 (ci + 1) (by omega) (by omega) _ _ _ hI (lv_sub hl [0, 1, 3, 4, 5, 6] rfl)
                    exact L277 (cn (C 0) + 1) 0 (by omega) (by omega) _ _ _ hI (lv_sub hl [0, 1, 7, 8, 11, 12] rfl)
                · skip
                  have nc49 : ¬ (1 < cl) := fun h => c49 ((nI_ltI (a := 1) (b := cl) (by omega) (by omega)).mpr h)
                  refine lv_iload_n hx hb dL_isRoundSo_208 rfl (lv_at hl 7 rfl) ?_
                  refine lv_iconst (v := 2) hx hb dL_isRoundSo_209 (by decide) ?_
                  refine lv_icmp_ne (tgt := 271) hx hb dL_isRoundSo_210 (by decide) (fun c80 => ?_) (fun c80 => ?_)
                  · skip
                    have nc80 : ¬ (wy = 2) := fun h => c80 ((nI_eq (a := wy) (b := 2) (by omega) (by omega)).mpr h)
                    exact absurd (hw1 (by omega)) nc80
                  · skip
                    have nc80 : wy = 2 := (nI_eq (a := wy) (b := 2) (by omega) (by omega)).mp c80
                    refine lv_iload hx hb dL_isRoundSo_213 (lv_at hl 0 rfl) ?_
                    refine lv_iconst (v := 2) hx hb dL_isRoundSo_215 (by decide) ?_
                    refine lv_iload hx hb dL_isRoundSo_216 (lv_at hl 4 rfl) ?_
                    refine lv_imul hx hb dL_isRoundSo_218 ?_
                    refine lv_re (y := nI (2 * fa)) (pk_mul (2) (fa)) ?_
                    refine lv_aload_n hx hb dL_isRoundSo_219 rfl (lv_at hl 10 rfl) ?_
                    refine lv_bipush (v := 10) hx hb dL_isRoundSo_220 (by decide) ?_
                    refine c_calli (As := [.int 10]) (rest := [.int (nI (2 * fa)), .int (nI t)]) hx hb hml hown hts hK hX hI 0 (by omega) cE_0 rfl (k_X5_count l dd g ad PC A hA NC iC.W iC.g iC.Ld 10) (cwV 1 hts gL_isRoundSo_X5_count rfl rfl rfl (by decide +kernel) ⟨Nat.le_of_ble_eq_true rfl, Nat.le_of_ble_eq_true rfl⟩) rfl hl (Nat.le_of_ble_eq_true rfl) ⟨Nat.zero_le _, Nat.zero_le _⟩ dL_isRoundSo_222 rfl (fun r C1 pi1 H locs h81 hI => ?_)
                    obtain ⟨hr9, hc9, hp9⟩ := h81
                    rw [hc9, hp9] at hI
                    rw [q_c10] at hr9
                    rw [bw.2.2.1, es] at hr9
                    subst hr9
                    refine lv_imul hx hb dL_isRoundSo_225 ?_
                    refine lv_re (y := nI ((2 * fa) * ss)) (pk_mul (2 * fa) (ss)) ?_
                    refine lv_iload hx hb dL_isRoundSo_226 (lv_at hl 3 rfl) ?_
                    refine lv_aload_n hx hb dL_isRoundSo_228 rfl (lv_at hl 10 rfl) ?_
                    refine lv_bipush (v := 11) hx hb dL_isRoundSo_229 (by decide) ?_
                    refine c_calli (As := [.int 11]) (rest := [.int (nI wo), .int (nI ((2 * fa) * ss)), .int (nI t)]) hx hb hml hown hts hK hX hI 0 (by omega) cE_0 rfl (k_X5_count l dd g ad PC A hA NC iC.W iC.g iC.Ld 11) (cwV 1 hts gL_isRoundSo_X5_count rfl rfl rfl (by decide +kernel) ⟨Nat.le_of_ble_eq_true rfl, Nat.le_of_ble_eq_true rfl⟩) rfl hl (Nat.le_of_ble_eq_true rfl) ⟨Nat.zero_le _, Nat.zero_le _⟩ dL_isRoundSo_231 rfl (fun r C1 pi1 H locs h82 hI => ?_)
                    obtain ⟨hr9, hc9, hp9⟩ := h82
                    rw [hc9, hp9] at hI
                    rw [q_c11] at hr9
                    rw [bw.2.2.2.1, ew] at hr9
                    subst hr9
                    refine lv_imul hx hb dL_isRoundSo_234 ?_
                    refine lv_re (y := nI (wo * ww)) (pk_mul (wo) (ww)) ?_
                    refine lv_iadd hx hb dL_isRoundSo_235 ?_
                    refine lv_re (y := nI ((2 * fa) * ss + (wo * ww))) (nI_add ((2 * fa) * ss) (wo * ww)) ?_
                    refine lv_icmp_lt (tgt := 271) hx hb dL_isRoundSo_236 (by decide) (fun c83 => ?_) (fun c83 => ?_)
                    · skip
                      have nc83 : t < (2 * fa) * ss + (wo * ww) := (nI_ltI (a := t) (b := (2 * fa) * ss + (wo * ww)) (by omega) (by omega)).mp c83
                      exact absurd nc83 (by omega)
                    · skip
                      have nc83 : ¬ (t < (2 * fa) * ss + (wo * ww)) := fun h => c83 ((nI_ltI (a := t) (b := (2 * fa) * ss + (wo * ww)) (by omega) (by omega)).mpr h)
                      refine lv_aload_n hx hb dL_isRoundSo_239 rfl (lv_at hl 10 rfl) ?_
                      refine lv_bipush (v := 6) hx hb dL_isRoundSo_240 (by decide) ?_
                      refine c_calli (As := [.int 6]) (rest := []) hx hb hml hown hts hK hX hI 0 (by omega) cE_0 rfl (k_X5_count l dd g ad PC A hA NC iC.W iC.g iC.Ld 6) (cwV 1 hts gL_isRoundSo_X5_count rfl rfl rfl (by decide +kernel) ⟨Nat.le_of_ble_eq_true rfl, Nat.le_of_ble_eq_true rfl⟩) rfl hl (Nat.le_of_ble_eq_true rfl) ⟨Nat.zero_le _, Nat.zero_le _⟩ dL_isRoundSo_242 rfl (fun r C1 pi1 H locs h84 hI => ?_)
                      obtain ⟨hr9, hc9, hp9⟩ := h84
                      rw [hc9, hp9] at hI
                      rw [q_c6] at hr9
                      rw [bw.2.1] at hr9
                      subst hr9
                      refine lv_iload hx hb dL_isRoundSo_245 (lv_at hl 6 rfl) ?_
                      refine lv_iload hx hb dL_isRoundSo_247 (lv_at hl 0 rfl) ?_
                      refine lv_iadd hx hb dL_isRoundSo_249 ?_
                      refine lv_icmp_ne (tgt := 271) hx hb dL_isRoundSo_250 (by decide) (fun c85 => absurd rfl c85) (fun _ => ?_)
                      refine lv_aload_n hx hb dL_isRoundSo_253 rfl (lv_at hl 10 rfl) ?_
                      refine lv_bipush (v := 7) hx hb dL_isRoundSo_254 (by decide) ?_
                      refine c_calli (As := [.int 7]) (rest := []) hx hb hml hown hts hK hX hI 0 (by omega) cE_0 rfl (k_X5_count l dd g ad PC A hA NC iC.W iC.g iC.Ld 7) (cwV 1 hts gL_isRoundSo_X5_count rfl rfl rfl (by decide +kernel) ⟨Nat.le_of_ble_eq_true rfl, Nat.le_of_ble_eq_true rfl⟩) rfl hl (Nat.le_of_ble_eq_true rfl) ⟨Nat.zero_le _, Nat.zero_le _⟩ dL_isRoundSo_256 rfl (fun r C1 pi1 H locs h86 hI => ?_)
                      obtain ⟨hr9, hc9, hp9⟩ := h86
                      rw [hc9, hp9] at hI
                      rw [q_c7] at hr9
                      rw [bw.1, bw.2.2.2.2.2.2, ← hwo] at hr9
                      subst hr9
                      refine lv_iload hx hb dL_isRoundSo_259 (lv_at hl 1 rfl) ?_
                      refine lv_iload hx hb dL_isRoundSo_261 (lv_at hl 3 rfl) ?_
                      refine lv_iadd hx hb dL_isRoundSo_263 ?_
                      refine lv_icmp_ne (tgt := 271) hx hb dL_isRoundSo_264 (by decide) (fun c87 => absurd rfl c87) (fun _ => ?_)
                      refine lv_iconst (v := 1) hx hb dL_isRoundSo_267 (by decide) ?_
                      refine lv_goto (tgt := 272) hx hb dL_isRoundSo_268 (by decide) ?_
                      refine lv_istore (lv' := [(11, .int 1), (10, .int (nI t)), (9, .int (twN (C 0) (cn (C 0)))), (8, .int (nI cl)), (7, .int (nI wo)), (6, .int (nI fa)), (5, .int (nI (cn (C 0)))), (4, .int (C 0 7)), (3, .int (nI wy)), (2, .int (nI t)), (1, .int (nI x)), (0, .ref (ad 0))]) hx hb dL_isRoundSo_272 hl (by decide) rfl (fun ls hl => ?_)
                      refine lv_iconst (v := 0) hx hb dL_isRoundSo_274 (by decide) ?_
                      refine lv_istore (lv' := [(12, .int 0), (11, .int 1), (10, .int (nI t)), (9, .int (twN (C 0) (cn (C 0)))), (8, .int (nI cl)), (7, .int (nI wo)), (6, .int (nI fa)), (5, .int (nI (cn (C 0)))), (4, .int (C 0 7)), (3, .int (nI wy)), (2, .int (nI t)), (1, .int (nI x)), (0, .ref (ad 0))]) hx hb dL_isRoundSo_275 hl (by decide) rfl (fun ls hl => ?_)
                      have L277 : ∀ (fuel2 : Nat) (ci : Nat) (h1 : ci ≤ cn (C 0)) (h2 : cn (C 0) < fuel2 + ci) (H : Heap) (locs : List Loc) (ls : Array Slot), cI dd g ad PC A s.heap H locs NC → lv_has ls 14 [(12, .int (nI ci)), (11, .int 1), (5, .int (nI (cn (C 0)))), (4, .int (C 0 7)), (1, .int (nI x)), (0, .ref (ad 0))] → wk p l e wsL_isRoundSo { frames := 5, cells := 0, slots := 0, locals := 120 } s m [.ref (ad 0), .int (nI x)] below meth c H locs (cQi dd g ad A (fun r C1 pi1 => r = 1 ∧ ∃ d1, IN C1 pi1 d1 Bn)) (A) (F0 m 277 ls []) := by
                        intro fuel2
                        induction fuel2 with
                        | zero =>
                          intro ci h1 h2 H locs ls hI hl
                          exact absurd h2 (by omega)
                        | succ fuel2 ih2 =>
                          intro ci h1 h2 H locs ls hI hl
                          refine lv_iload hx hb dL_isRoundSo_277 (lv_at hl 0 rfl) ?_
                          refine lv_iload hx hb dL_isRoundSo_279 (lv_at hl 2 rfl) ?_
                          refine lv_icmp_ge (tgt := 367) hx hb dL_isRoundSo_281 (by decide) (fun c88 => ?_) (fun c88 => ?_)
                          · skip
                            have nc88 : cn (C 0) ≤ ci := (nI_leI (a := cn (C 0)) (b := ci) (by omega) (by omega)).mp c88
                            refine lv_aload_n hx hb dL_isRoundSo_367 rfl (lv_at hl 5 rfl) ?_
                            refine c_calli (As := []) (rest := []) hx hb hml hown hts hK hX hI 0 (by omega) cE_0 rfl (k_X5_undo l dd g ad PC A hA NC dC iC.1 iC.2.1 iC.2.2.1 iC.hist) (cwV 0 hts gL_isRoundSo_X5_undo rfl rfl rfl (by decide +kernel) ⟨Nat.le_of_ble_eq_true rfl, Nat.le_of_ble_eq_true rfl⟩) rfl hl (Nat.le_of_ble_eq_true rfl) ⟨Nat.zero_le _, Nat.zero_le _⟩ dL_isRoundSo_368 rfl (fun r ND pi1 H locs h89 hI => ?_)
                            obtain ⟨hr9, hc9, hp9⟩ := un_ok z1 h89
                            rw [hp9] at hI
                            obtain ⟨iD, roD, snD⟩ := IN.un iC z1 z2 hIN.2.2.2.1 hc9
                            subst hr9
                            clear hc9
                            refine lv_istore (lv' := [(12, .int (nI (dC - 1))), (11, .int 1), (5, .int (nI (cn (C 0)))), (4, .int (C 0 7)), (1, .int (nI x)), (0, .ref (ad 0))]) hx hb dL_isRoundSo_371 hl (by decide) rfl (fun ls hl => ?_)
                            refine lv_iload hx hb dL_isRoundSo_373 (lv_at hl 1 rfl) ?_
                            refine lv_if_eq (tgt := 398) hx hb dL_isRoundSo_375 (by decide) (fun c90 => absurd c90 (by decide)) (fun _ => ?_)
                            refine lv_iload hx hb dL_isRoundSo_378 (lv_at hl 0 rfl) ?_
                            refine lv_if_lt (tgt := 398) hx hb dL_isRoundSo_380 (by decide) (fun c91 => ?_) (fun c91 => ?_)
                            · skip
                              have nc91 : dC - 1 < 0 := (nI_ltI (a := dC - 1) (b := 0) (by omega) (by omega)).mp c91
                              exact absurd nc91 (by omega)
                            · skip
                              have nc91 : ¬ (dC - 1 < 0) := fun h => c91 ((nI_ltI (a := dC - 1) (b := 0) (by omega) (by omega)).mpr h)
                              refine lv_aload_n hx hb dL_isRoundSo_383 rfl (lv_at hl 5 rfl) ?_
                              refine lv_bipush (v := 6) hx hb dL_isRoundSo_384 (by decide) ?_
                              refine c_calli (As := [.int 6]) (rest := []) hx hb hml hown hts hK hX hI 0 (by omega) cE_0 rfl (k_X5_count l dd g ad PC A hA ND iD.W iD.g iD.Ld 6) (cwV 1 hts gL_isRoundSo_X5_count rfl rfl rfl (by decide +kernel) ⟨Nat.le_of_ble_eq_true rfl, Nat.le_of_ble_eq_true rfl⟩) rfl hl (Nat.le_of_ble_eq_true rfl) ⟨Nat.zero_le _, Nat.zero_le _⟩ dL_isRoundSo_386 rfl (fun r C1 pi1 H locs h92 hI => ?_)
                              obtain ⟨hr9, hc9, hp9⟩ := h92
                              rw [hc9, hp9] at hI
                              rw [q_c6] at hr9
                              rw [roD.2 7 (by omega)] at hr9
                              subst hr9
                              refine lv_iload hx hb dL_isRoundSo_389 (lv_at hl 3 rfl) ?_
                              refine lv_icmp_ne (tgt := 398) hx hb dL_isRoundSo_391 (by decide) (fun c93 => absurd rfl c93) (fun _ => ?_)
                              refine lv_iconst (v := 1) hx hb dL_isRoundSo_394 (by decide) ?_
                              refine lv_goto (tgt := 399) hx hb dL_isRoundSo_395 (by decide) ?_
                              exact c_zret (v := 1) hx hb hr (by first | rfl | decide) hI (⟨rfl, _, iD⟩) dL_isRoundSo_399 hlocks
                          · skip
                            have nc88 : ¬ (cn (C 0) ≤ ci) := fun h => c88 ((nI_leI (a := cn (C 0)) (b := ci) (by omega) (by omega)).mpr h)
                            have hc : ci < cn (C 0) := by omega
                            have hcN : ci < cn (NC 0) := by rw [bw.1]; exact hc
                            refine lv_iload_n hx hb dL_isRoundSo_284 rfl (lv_at hl 4 rfl) ?_
                            refine lv_iload hx hb dL_isRoundSo_285 (lv_at hl 0 rfl) ?_
                            refine lv_ishr hx hb dL_isRoundSo_287 ?_
                            refine lv_iconst (v := 1) hx hb dL_isRoundSo_288 (by decide) ?_
                            refine lv_iand hx hb dL_isRoundSo_289 ?_
                            refine lv_iconst (v := 1) hx hb dL_isRoundSo_290 (by decide) ?_
                            refine lv_icmp_ne (tgt := 310) hx hb dL_isRoundSo_291 (by decide) (fun c94 => ?_) (fun c94 => ?_)
                            · skip
                              refine lv_iconst (v := 0) hx hb dL_isRoundSo_310 (by decide) ?_
                              refine lv_istore (lv' := [(13, .int 0), (12, .int (nI ci)), (11, .int 1), (5, .int (nI (cn (C 0)))), (4, .int (C 0 7)), (1, .int (nI x)), (0, .ref (ad 0))]) hx hb dL_isRoundSo_311 hl (by decide) rfl (fun ls hl => ?_)
                              refine lv_iload hx hb dL_isRoundSo_313 (lv_at hl 2 rfl) ?_
                              refine lv_if_eq (tgt := 358) hx hb dL_isRoundSo_315 (by decide) (fun c95 => absurd c95 (by decide)) (fun _ => ?_)
                              refine lv_iload hx hb dL_isRoundSo_318 (lv_at hl 0 rfl) ?_
                              refine lv_if_eq (tgt := 354) hx hb dL_isRoundSo_320 (by decide) (fun _ => ?_) (fun c96 => absurd (by decide) c96)
                              refine lv_iconst (v := 1) hx hb dL_isRoundSo_354 (by decide) ?_
                              refine lv_goto (tgt := 359) hx hb dL_isRoundSo_355 (by decide) ?_
                              refine lv_istore (lv' := [(11, .int 1), (13, .int 0), (12, .int (nI ci)), (5, .int (nI (cn (C 0)))), (4, .int (C 0 7)), (1, .int (nI x)), (0, .ref (ad 0))]) hx hb dL_isRoundSo_359 hl (by decide) rfl (fun ls hl => ?_)
                              refine lv_iinc (v := nI (ci + 1)) (lv' := [(12, .int (nI (ci + 1))), (11, .int 1), (13, .int 0), (5, .int (nI (cn (C 0)))), (4, .int (C 0 7)), (1, .int (nI x)), (0, .ref (ad 0))]) hx hb dL_isRoundSo_361 hl (k := 2) rfl (by rw [show Int32.ofInt 1 = nI 1 from rfl, nI_add]) (by decide) rfl (fun ls hl => ?_)
                              refine lv_goto (tgt := 277) hx hb dL_isRoundSo_364 (by decide) ?_
                              exact ih2 (ci + 1) (by omega) (by omega) _ _ _ hI (lv_sub hl [0, 1, 3, 4, 5, 6] rfl)
                            · skip
                              rcases hcan : canW (C 0) ci
                              · skip
                                have hcanN : canW (NC 0) ci = false := by rw [bw.2.2.2.2.1 ci hc]; exact hcan
                                refine lv_aload_n hx hb dL_isRoundSo_294 rfl (lv_at hl 5 rfl) ?_
                                refine lv_iload hx hb dL_isRoundSo_295 (lv_at hl 0 rfl) ?_
                                refine lv_bipush (v := 9) hx hb dL_isRoundSo_297 (by decide) ?_
                                refine c_calli (As := [.int (nI ci), .int 9]) (rest := []) hx hb hml hown hts hK hX hI 0 (by omega) cE_0 rfl (k_X5_of l dd g ad PC A hA NC iC.W iC.g iC.Ld (nI ci) 9) (cwV 2 hts gL_isRoundSo_X5_of rfl rfl rfl (by decide +kernel) ⟨Nat.le_of_ble_eq_true rfl, Nat.le_of_ble_eq_true rfl⟩) rfl hl (Nat.le_of_ble_eq_true rfl) ⟨Nat.zero_le _, Nat.zero_le _⟩ dL_isRoundSo_299 rfl (fun r C1 pi1 H locs h97 hI => ?_)
                                obtain ⟨hr9, hc9, hp9⟩ := h97
                                rw [hc9, hp9] at hI
                                rw [q_o9f iC.W hcN hcanN] at hr9
                                subst hr9
                                refine lv_iconst (v := 1) hx hb dL_isRoundSo_302 (by decide) ?_
                                refine lv_icmp_ne (tgt := 310) hx hb dL_isRoundSo_303 (by decide) (fun _ => ?_) (fun c98 => absurd c98 (by decide))
                                refine lv_iconst (v := 0) hx hb dL_isRoundSo_310 (by decide) ?_
                                refine lv_istore (lv' := [(13, .int 0), (12, .int (nI ci)), (11, .int 1), (5, .int (nI (cn (C 0)))), (4, .int (C 0 7)), (1, .int (nI x)), (0, .ref (ad 0))]) hx hb dL_isRoundSo_311 hl (by decide) rfl (fun ls hl => ?_)
                                refine lv_iload hx hb dL_isRoundSo_313 (lv_at hl 2 rfl) ?_
                                refine lv_if_eq (tgt := 358) hx hb dL_isRoundSo_315 (by decide) (fun c99 => absurd c99 (by decide)) (fun _ => ?_)
                                refine lv_iload hx hb dL_isRoundSo_318 (lv_at hl 0 rfl) ?_
                                refine lv_if_eq (tgt := 354) hx hb dL_isRoundSo_320 (by decide) (fun _ => ?_) (fun c100 => absurd (by decide) c100)
                                refine lv_iconst (v := 1) hx hb dL_isRoundSo_354 (by decide) ?_
                                refine lv_goto (tgt := 359) hx hb dL_isRoundSo_355 (by decide) ?_
                                refine lv_istore (lv' := [(11, .int 1), (13, .int 0), (12, .int (nI ci)), (5, .int (nI (cn (C 0)))), (4, .int (C 0 7)), (1, .int (nI x)), (0, .ref (ad 0))]) hx hb dL_isRoundSo_359 hl (by decide) rfl (fun ls hl => ?_)
                                refine lv_iinc (v := nI (ci + 1)) (lv' := [(12, .int (nI (ci + 1))), (11, .int 1), (13, .int 0), (5, .int (nI (cn (C 0)))), (4, .int (C 0 7)), (1, .int (nI x)), (0, .ref (ad 0))]) hx hb dL_isRoundSo_361 hl (k := 2) rfl (by rw [show Int32.ofInt 1 = nI 1 from rfl, nI_add]) (by decide) rfl (fun ls hl => ?_)
                                refine lv_goto (tgt := 277) hx hb dL_isRoundSo_364 (by decide) ?_
                                exact ih2 (ci + 1) (by omega) (by omega) _ _ _ hI (lv_sub hl [0, 1, 3, 4, 5, 6] rfl)
                              · skip
                                have hcanN : canW (NC 0) ci = true := by rw [bw.2.2.2.2.1 ci hc]; exact hcan
                                have hdo := bw.2.2.2.2.2.1 ci hc c94 hcan
                                refine lv_aload_n hx hb dL_isRoundSo_294 rfl (lv_at hl 5 rfl) ?_
                                refine lv_iload hx hb dL_isRoundSo_295 (lv_at hl 0 rfl) ?_
                                refine lv_bipush (v := 9) hx hb dL_isRoundSo_297 (by decide) ?_
                                refine c_calli (As := [.int (nI ci), .int 9]) (rest := []) hx hb hml hown hts hK hX hI 0 (by omega) cE_0 rfl (k_X5_of l dd g ad PC A hA NC iC.W iC.g iC.Ld (nI ci) 9) (cwV 2 hts gL_isRoundSo_X5_of rfl rfl rfl (by decide +kernel) ⟨Nat.le_of_ble_eq_true rfl, Nat.le_of_ble_eq_true rfl⟩) rfl hl (Nat.le_of_ble_eq_true rfl) ⟨Nat.zero_le _, Nat.zero_le _⟩ dL_isRoundSo_299 rfl (fun r C1 pi1 H locs h101 hI => ?_)
                                obtain ⟨hr9, hc9, hp9⟩ := h101
                                rw [hc9, hp9] at hI
                                rw [q_o9t iC.W hcN hcanN] at hr9
                                subst hr9
                                refine lv_iconst (v := 1) hx hb dL_isRoundSo_302 (by decide) ?_
                                refine lv_icmp_ne (tgt := 310) hx hb dL_isRoundSo_303 (by decide) (fun c102 => absurd (by decide) c102) (fun _ => ?_)
                                refine lv_iconst (v := 1) hx hb dL_isRoundSo_306 (by decide) ?_
                                refine lv_goto (tgt := 311) hx hb dL_isRoundSo_307 (by decide) ?_
                                refine lv_istore (lv' := [(13, .int 1), (12, .int (nI ci)), (11, .int 1), (5, .int (nI (cn (C 0)))), (4, .int (C 0 7)), (1, .int (nI x)), (0, .ref (ad 0))]) hx hb dL_isRoundSo_311 hl (by decide) rfl (fun ls hl => ?_)
                                refine lv_iload hx hb dL_isRoundSo_313 (lv_at hl 2 rfl) ?_
                                refine lv_if_eq (tgt := 358) hx hb dL_isRoundSo_315 (by decide) (fun c103 => absurd c103 (by decide)) (fun _ => ?_)
                                refine lv_iload hx hb dL_isRoundSo_318 (lv_at hl 0 rfl) ?_
                                refine lv_if_eq (tgt := 354) hx hb dL_isRoundSo_320 (by decide) (fun c104 => absurd c104 (by decide)) (fun _ => ?_)
                                refine lv_aload_n hx hb dL_isRoundSo_323 rfl (lv_at hl 6 rfl) ?_
                                refine lv_iload hx hb dL_isRoundSo_324 (lv_at hl 1 rfl) ?_
                                refine lv_bipush (v := 6) hx hb dL_isRoundSo_326 (by decide) ?_
                                refine c_calli (As := [.int (nI ci), .int 6]) (rest := []) hx hb hml hown hts hK hX hI 0 (by omega) cE_0 rfl (k_X5_of l dd g ad PC A hA NC iC.W iC.g iC.Ld (nI ci) 6) (cwV 2 hts gL_isRoundSo_X5_of rfl rfl rfl (by decide +kernel) ⟨Nat.le_of_ble_eq_true rfl, Nat.le_of_ble_eq_true rfl⟩) rfl hl (Nat.le_of_ble_eq_true rfl) ⟨Nat.zero_le _, Nat.zero_le _⟩ dL_isRoundSo_328 rfl (fun r C1 pi1 H locs h105 hI => ?_)
                                obtain ⟨hr9, hc9, hp9⟩ := h105
                                rw [hc9, hp9] at hI
                                rw [q_o6 iC.W hcN] at hr9
                                rw [hdo.1] at hr9
                                subst hr9
                                refine lv_iconst (v := 1) hx hb dL_isRoundSo_331 (by decide) ?_
                                refine lv_icmp_ne (tgt := 358) hx hb dL_isRoundSo_332 (by decide) (fun c106 => absurd (by decide) c106) (fun _ => ?_)
                                refine lv_aload_n hx hb dL_isRoundSo_335 rfl (lv_at hl 6 rfl) ?_
                                refine lv_iload hx hb dL_isRoundSo_336 (lv_at hl 1 rfl) ?_
                                refine c_callC (As := [.ref (ad 0), .int (nI ci)]) (rest := []) hx hb hml hown hts hK hX hI (k_L_off l dd g ad PC A hA NC iC.W iC.g iC.Ld ci hcN) (va_cwS 2 hts gL_isRoundSo_L_off rfl rfl rfl (by decide +kernel) ⟨Nat.le_of_ble_eq_true rfl, Nat.le_of_ble_eq_true rfl⟩) rfl hl (Nat.le_of_ble_eq_true rfl) ⟨Nat.zero_le _, Nat.zero_le _⟩ dL_isRoundSo_338 rfl (fun r C1 pi1 H locs h107 hI => ?_)
                                obtain ⟨hr9, hc9, hp9⟩ := h107
                                rw [hc9, hp9] at hI
                                rw [hdo.2.1] at hr9
                                subst hr9
                                refine lv_if_ne (tgt := 358) hx hb dL_isRoundSo_341 (by decide) (fun c108 => absurd (by decide) c108) (fun _ => ?_)
                                refine lv_aload_n hx hb dL_isRoundSo_344 rfl (lv_at hl 6 rfl) ?_
                                refine lv_iload hx hb dL_isRoundSo_345 (lv_at hl 1 rfl) ?_
                                refine lv_iconst (v := 5) hx hb dL_isRoundSo_347 (by decide) ?_
                                refine c_calli (As := [.int (nI ci), .int 5]) (rest := []) hx hb hml hown hts hK hX hI 0 (by omega) cE_0 rfl (k_X5_of l dd g ad PC A hA NC iC.W iC.g iC.Ld (nI ci) 5) (cwV 2 hts gL_isRoundSo_X5_of rfl rfl rfl (by decide +kernel) ⟨Nat.le_of_ble_eq_true rfl, Nat.le_of_ble_eq_true rfl⟩) rfl hl (Nat.le_of_ble_eq_true rfl) ⟨Nat.zero_le _, Nat.zero_le _⟩ dL_isRoundSo_348 rfl (fun r C1 pi1 H locs h109 hI => ?_)
                                obtain ⟨hr9, hc9, hp9⟩ := h109
                                rw [hc9, hp9] at hI
                                rw [q_o5 iC.W hcN] at hr9
                                rw [hdo.2.2] at hr9
                                subst hr9
                                refine lv_if_ne (tgt := 358) hx hb dL_isRoundSo_351 (by decide) (fun c110 => absurd (by decide) c110) (fun _ => ?_)
                                refine lv_iconst (v := 1) hx hb dL_isRoundSo_354 (by decide) ?_
                                refine lv_goto (tgt := 359) hx hb dL_isRoundSo_355 (by decide) ?_
                                refine lv_istore (lv' := [(11, .int 1), (13, .int 1), (12, .int (nI ci)), (5, .int (nI (cn (C 0)))), (4, .int (C 0 7)), (1, .int (nI x)), (0, .ref (ad 0))]) hx hb dL_isRoundSo_359 hl (by decide) rfl (fun ls hl => ?_)
                                refine lv_iinc (v := nI (ci + 1)) (lv' := [(12, .int (nI (ci + 1))), (11, .int 1), (13, .int 1), (5, .int (nI (cn (C 0)))), (4, .int (C 0 7)), (1, .int (nI x)), (0, .ref (ad 0))]) hx hb dL_isRoundSo_361 hl (k := 2) rfl (by rw [show Int32.ofInt 1 = nI 1 from rfl, nI_add]) (by decide) rfl (fun ls hl => ?_)
                                refine lv_goto (tgt := 277) hx hb dL_isRoundSo_364 (by decide) ?_
                                exact ih2 (ci + 1) (by omega) (by omega) _ _ _ hI (lv_sub hl [0, 1, 3, 4, 5, 6] rfl)
                      exact L277 (cn (C 0) + 1) 0 (by omega) (by omega) _ _ _ hI (lv_sub hl [0, 1, 7, 8, 11, 12] rfl)
          · skip
            have nc45 : cl = 0 := (nI_eq (a := cl) (b := 0) (by omega) (by omega)).mp c45
            exact absurd nc45 (by omega)
        · skip
          have nc43 : ¬ (cn (C 0) ≤ ci) := fun h => c43 ((nI_leI (a := cn (C 0)) (b := ci) (by omega) (by omega)).mpr h)
          have hc : ci < cn (C 0) := by omega
          have hf99 := fm_le hV (nI x) ci (by omega)
          refine lv_iload_n hx hb dL_isRoundSo_54 rfl (lv_at hl 9 rfl) ?_
          refine lv_iload hx hb dL_isRoundSo_55 (lv_at hl 0 rfl) ?_
          refine lv_ishr hx hb dL_isRoundSo_57 ?_
          refine lv_iconst (v := 1) hx hb dL_isRoundSo_58 (by decide) ?_
          refine lv_iand hx hb dL_isRoundSo_59 ?_
          refine lv_iconst (v := 1) hx hb dL_isRoundSo_60 (by decide) ?_
          refine lv_icmp_ne (tgt := 68) hx hb dL_isRoundSo_61 (by decide) (fun c111 => ?_) (fun c111 => ?_)
          · skip
            refine lv_iconst (v := 0) hx hb dL_isRoundSo_68 (by decide) ?_
            refine lv_istore (lv' := [(11, .int 0), (10, .int (nI ci)), (9, .int (twN (C 0) (cn (C 0)))), (8, .int (nI cl)), (7, .int (nI wo)), (6, .int (nI fa)), (5, .int (nI (cn (C 0)))), (4, .int (C 0 7)), (3, .int (nI wy)), (2, .int (nI t)), (1, .int (nI x)), (0, .ref (ad 0))]) hx hb dL_isRoundSo_69 hl (by decide) rfl (fun ls hl => ?_)
            refine lv_iload hx hb dL_isRoundSo_71 (lv_at hl 0 rfl) ?_
            refine lv_if_eq (tgt := 98) hx hb dL_isRoundSo_73 (by decide) (fun _ => ?_) (fun c112 => absurd (by decide) c112)
            refine lv_iload hx hb dL_isRoundSo_98 (lv_at hl 5 rfl) ?_
            refine lv_istore (lv' := [(6, .int (nI fa)), (11, .int 0), (10, .int (nI ci)), (9, .int (twN (C 0) (cn (C 0)))), (8, .int (nI cl)), (7, .int (nI wo)), (5, .int (nI (cn (C 0)))), (4, .int (C 0 7)), (3, .int (nI wy)), (2, .int (nI t)), (1, .int (nI x)), (0, .ref (ad 0))]) hx hb dL_isRoundSo_100 hl (by decide) rfl (fun ls hl => ?_)
            refine lv_iload hx hb dL_isRoundSo_102 (lv_at hl 5 rfl) ?_
            refine lv_iload hx hb dL_isRoundSo_104 (lv_at hl 1 rfl) ?_
            rcases hcan : canW (C 0) ci
            · skip
              refine lv_if_eq (tgt := 125) hx hb dL_isRoundSo_106 (by decide) (fun _ => ?_) (fun c113 => absurd (by decide) c113)
              refine lv_iconst (v := 0) hx hb dL_isRoundSo_125 (by decide) ?_
              refine lv_iadd hx hb dL_isRoundSo_126 ?_
              refine lv_re (y := nI (wo + 0)) (nI_add (wo) (0)) ?_
              refine lv_istore (lv' := [(7, .int (nI (wo + 0))), (6, .int (nI fa)), (11, .int 0), (10, .int (nI ci)), (9, .int (twN (C 0) (cn (C 0)))), (8, .int (nI cl)), (5, .int (nI (cn (C 0)))), (4, .int (C 0 7)), (3, .int (nI wy)), (2, .int (nI t)), (1, .int (nI x)), (0, .ref (ad 0))]) hx hb dL_isRoundSo_127 hl (by decide) rfl (fun ls hl => ?_)
              refine lv_iload hx hb dL_isRoundSo_129 (lv_at hl 5 rfl) ?_
              refine lv_iload hx hb dL_isRoundSo_131 (lv_at hl 2 rfl) ?_
              refine lv_if_eq (tgt := 140) hx hb dL_isRoundSo_133 (by decide) (fun _ => ?_) (fun c114 => absurd (by decide) c114)
              refine lv_iconst (v := 0) hx hb dL_isRoundSo_140 (by decide) ?_
              refine lv_iadd hx hb dL_isRoundSo_141 ?_
              refine lv_re (y := nI (cl + 0)) (nI_add (cl) (0)) ?_
              refine lv_istore (lv' := [(8, .int (nI (cl + 0))), (7, .int (nI (wo + 0))), (6, .int (nI fa)), (11, .int 0), (10, .int (nI ci)), (9, .int (twN (C 0) (cn (C 0)))), (5, .int (nI (cn (C 0)))), (4, .int (C 0 7)), (3, .int (nI wy)), (2, .int (nI t)), (1, .int (nI x)), (0, .ref (ad 0))]) hx hb dL_isRoundSo_142 hl (by decide) rfl (fun ls hl => ?_)
              refine lv_iinc (v := nI (ci + 1)) (lv' := [(10, .int (nI (ci + 1))), (8, .int (nI (cl + 0))), (7, .int (nI (wo + 0))), (6, .int (nI fa)), (11, .int 0), (9, .int (twN (C 0) (cn (C 0)))), (5, .int (nI (cn (C 0)))), (4, .int (C 0 7)), (3, .int (nI wy)), (2, .int (nI t)), (1, .int (nI x)), (0, .ref (ad 0))]) hx hb dL_isRoundSo_144 hl (k := 4) rfl (by rw [show Int32.ofInt 1 = nI 1 from rfl, nI_add]) (by decide) rfl (fun ls hl => ?_)
              refine lv_goto (tgt := 47) hx hb dL_isRoundSo_147 (by decide) ?_
              exact ih (ci + 1) fa (wo + 0) (cl + 0) (by omega) (by omega) (by rw [fm_f c111]; omega) (by rw [wr_f c111]; omega) (by rw [(chW_n (w := C 14) c111).2]; omega) _ _ _ hI (lv_sub hl [0, 5, 1, 2, 3, 6, 7, 8, 9, 10, 11] rfl)
            · skip
              refine lv_if_eq (tgt := 125) hx hb dL_isRoundSo_106 (by decide) (fun _ => ?_) (fun c115 => absurd (by decide) c115)
              refine lv_iconst (v := 0) hx hb dL_isRoundSo_125 (by decide) ?_
              refine lv_iadd hx hb dL_isRoundSo_126 ?_
              refine lv_re (y := nI (wo + 0)) (nI_add (wo) (0)) ?_
              refine lv_istore (lv' := [(7, .int (nI (wo + 0))), (6, .int (nI fa)), (11, .int 0), (10, .int (nI ci)), (9, .int (twN (C 0) (cn (C 0)))), (8, .int (nI cl)), (5, .int (nI (cn (C 0)))), (4, .int (C 0 7)), (3, .int (nI wy)), (2, .int (nI t)), (1, .int (nI x)), (0, .ref (ad 0))]) hx hb dL_isRoundSo_127 hl (by decide) rfl (fun ls hl => ?_)
              refine lv_iload hx hb dL_isRoundSo_129 (lv_at hl 5 rfl) ?_
              refine lv_iload hx hb dL_isRoundSo_131 (lv_at hl 2 rfl) ?_
              refine lv_if_eq (tgt := 140) hx hb dL_isRoundSo_133 (by decide) (fun _ => ?_) (fun c116 => absurd (by decide) c116)
              refine lv_iconst (v := 0) hx hb dL_isRoundSo_140 (by decide) ?_
              refine lv_iadd hx hb dL_isRoundSo_141 ?_
              refine lv_re (y := nI (cl + 0)) (nI_add (cl) (0)) ?_
              refine lv_istore (lv' := [(8, .int (nI (cl + 0))), (7, .int (nI (wo + 0))), (6, .int (nI fa)), (11, .int 0), (10, .int (nI ci)), (9, .int (twN (C 0) (cn (C 0)))), (5, .int (nI (cn (C 0)))), (4, .int (C 0 7)), (3, .int (nI wy)), (2, .int (nI t)), (1, .int (nI x)), (0, .ref (ad 0))]) hx hb dL_isRoundSo_142 hl (by decide) rfl (fun ls hl => ?_)
              refine lv_iinc (v := nI (ci + 1)) (lv' := [(10, .int (nI (ci + 1))), (8, .int (nI (cl + 0))), (7, .int (nI (wo + 0))), (6, .int (nI fa)), (11, .int 0), (9, .int (twN (C 0) (cn (C 0)))), (5, .int (nI (cn (C 0)))), (4, .int (C 0 7)), (3, .int (nI wy)), (2, .int (nI t)), (1, .int (nI x)), (0, .ref (ad 0))]) hx hb dL_isRoundSo_144 hl (k := 4) rfl (by rw [show Int32.ofInt 1 = nI 1 from rfl, nI_add]) (by decide) rfl (fun ls hl => ?_)
              refine lv_goto (tgt := 47) hx hb dL_isRoundSo_147 (by decide) ?_
              exact ih (ci + 1) fa (wo + 0) (cl + 0) (by omega) (by omega) (by rw [fm_f c111]; omega) (by rw [wr_f c111]; omega) (by rw [(chW_n (w := C 14) c111).2]; omega) _ _ _ hI (lv_sub hl [0, 5, 1, 2, 3, 6, 7, 8, 9, 10, 11] rfl)
          · skip
            obtain ⟨a, ha, ea⟩ := ho_num hV hc
            refine lv_iconst (v := 1) hx hb dL_isRoundSo_64 (by decide) ?_
            refine lv_goto (tgt := 69) hx hb dL_isRoundSo_65 (by decide) ?_
            refine lv_istore (lv' := [(11, .int 1), (10, .int (nI ci)), (9, .int (twN (C 0) (cn (C 0)))), (8, .int (nI cl)), (7, .int (nI wo)), (6, .int (nI fa)), (5, .int (nI (cn (C 0)))), (4, .int (C 0 7)), (3, .int (nI wy)), (2, .int (nI t)), (1, .int (nI x)), (0, .ref (ad 0))]) hx hb dL_isRoundSo_69 hl (by decide) rfl (fun ls hl => ?_)
            refine lv_iload hx hb dL_isRoundSo_71 (lv_at hl 0 rfl) ?_
            refine lv_if_eq (tgt := 98) hx hb dL_isRoundSo_73 (by decide) (fun c117 => absurd c117 (by decide)) (fun _ => ?_)
            refine lv_aload_n hx hb dL_isRoundSo_76 rfl (lv_at hl 11 rfl) ?_
            refine lv_iload hx hb dL_isRoundSo_77 (lv_at hl 1 rfl) ?_
            refine lv_iconst (v := 0) hx hb dL_isRoundSo_79 (by decide) ?_
            refine c_calli (As := [.int (nI ci), .int 0]) (rest := []) hx hb hml hown hts hK hX hI 0 (by omega) cE_0 rfl (k_X5_of l dd g ad pi A hA NB iB.W iB.g iB.Ld (nI ci) 0) (cwV 2 hts gL_isRoundSo_X5_of rfl rfl rfl (by decide +kernel) ⟨Nat.le_of_ble_eq_true rfl, Nat.le_of_ble_eq_true rfl⟩) rfl hl (Nat.le_of_ble_eq_true rfl) ⟨Nat.zero_le _, Nat.zero_le _⟩ dL_isRoundSo_80 rfl (fun r C1 pi1 H locs h118 hI => ?_)
            obtain ⟨hr9, hc9, hp9⟩ := h118
            rw [hc9, hp9] at hI
            rw [eB] at hr9
            rw [q_o0 hW hc] at hr9
            rw [ea] at hr9
            subst hr9
            refine lv_iload hx hb dL_isRoundSo_83 (lv_at hl 5 rfl) ?_
            refine lv_icmp_le (tgt := 98) hx hb dL_isRoundSo_85 (by decide) (fun c119 => ?_) (fun c119 => ?_)
            · skip
              have nc119 : a ≤ fa := (nI_leI (a := a) (b := fa) (by omega) (by omega)).mp c119
              refine lv_iload hx hb dL_isRoundSo_98 (lv_at hl 5 rfl) ?_
              refine lv_istore (lv' := [(6, .int (nI fa)), (11, .int 1), (10, .int (nI ci)), (9, .int (twN (C 0) (cn (C 0)))), (8, .int (nI cl)), (7, .int (nI wo)), (5, .int (nI (cn (C 0)))), (4, .int (C 0 7)), (3, .int (nI wy)), (2, .int (nI t)), (1, .int (nI x)), (0, .ref (ad 0))]) hx hb dL_isRoundSo_100 hl (by decide) rfl (fun ls hl => ?_)
              refine lv_iload hx hb dL_isRoundSo_102 (lv_at hl 5 rfl) ?_
              refine lv_iload hx hb dL_isRoundSo_104 (lv_at hl 1 rfl) ?_
              rcases hcan : canW (C 0) ci
              · skip
                refine lv_if_eq (tgt := 125) hx hb dL_isRoundSo_106 (by decide) (fun c120 => absurd c120 (by decide)) (fun _ => ?_)
                refine lv_aload_n hx hb dL_isRoundSo_109 rfl (lv_at hl 11 rfl) ?_
                refine lv_iload hx hb dL_isRoundSo_110 (lv_at hl 2 rfl) ?_
                refine lv_bipush (v := 9) hx hb dL_isRoundSo_112 (by decide) ?_
                refine c_calli (As := [.int (nI ci), .int 9]) (rest := [.int (nI wo)]) hx hb hml hown hts hK hX hI 0 (by omega) cE_0 rfl (k_X5_of l dd g ad pi A hA NB iB.W iB.g iB.Ld (nI ci) 9) (cwV 2 hts gL_isRoundSo_X5_of rfl rfl rfl (by decide +kernel) ⟨Nat.le_of_ble_eq_true rfl, Nat.le_of_ble_eq_true rfl⟩) rfl hl (Nat.le_of_ble_eq_true rfl) ⟨Nat.zero_le _, Nat.zero_le _⟩ dL_isRoundSo_114 rfl (fun r C1 pi1 H locs h121 hI => ?_)
                obtain ⟨hr9, hc9, hp9⟩ := h121
                rw [hc9, hp9] at hI
                rw [eB] at hr9
                rw [q_o9f hW hc hcan] at hr9
                subst hr9
                refine lv_iconst (v := 1) hx hb dL_isRoundSo_117 (by decide) ?_
                refine lv_icmp_ne (tgt := 125) hx hb dL_isRoundSo_118 (by decide) (fun _ => ?_) (fun c122 => absurd c122 (by decide))
                refine lv_iconst (v := 0) hx hb dL_isRoundSo_125 (by decide) ?_
                refine lv_iadd hx hb dL_isRoundSo_126 ?_
                refine lv_re (y := nI (wo + 0)) (nI_add (wo) (0)) ?_
                refine lv_istore (lv' := [(7, .int (nI (wo + 0))), (6, .int (nI fa)), (11, .int 1), (10, .int (nI ci)), (9, .int (twN (C 0) (cn (C 0)))), (8, .int (nI cl)), (5, .int (nI (cn (C 0)))), (4, .int (C 0 7)), (3, .int (nI wy)), (2, .int (nI t)), (1, .int (nI x)), (0, .ref (ad 0))]) hx hb dL_isRoundSo_127 hl (by decide) rfl (fun ls hl => ?_)
                refine lv_iload hx hb dL_isRoundSo_129 (lv_at hl 5 rfl) ?_
                refine lv_iload hx hb dL_isRoundSo_131 (lv_at hl 2 rfl) ?_
                refine lv_if_eq (tgt := 140) hx hb dL_isRoundSo_133 (by decide) (fun c123 => absurd c123 (by decide)) (fun _ => ?_)
                refine lv_iconst (v := 1) hx hb dL_isRoundSo_136 (by decide) ?_
                refine lv_goto (tgt := 141) hx hb dL_isRoundSo_137 (by decide) ?_
                refine lv_iadd hx hb dL_isRoundSo_141 ?_
                refine lv_re (y := nI (cl + 1)) (nI_add (cl) (1)) ?_
                refine lv_istore (lv' := [(8, .int (nI (cl + 1))), (7, .int (nI (wo + 0))), (6, .int (nI fa)), (11, .int 1), (10, .int (nI ci)), (9, .int (twN (C 0) (cn (C 0)))), (5, .int (nI (cn (C 0)))), (4, .int (C 0 7)), (3, .int (nI wy)), (2, .int (nI t)), (1, .int (nI x)), (0, .ref (ad 0))]) hx hb dL_isRoundSo_142 hl (by decide) rfl (fun ls hl => ?_)
                refine lv_iinc (v := nI (ci + 1)) (lv' := [(10, .int (nI (ci + 1))), (8, .int (nI (cl + 1))), (7, .int (nI (wo + 0))), (6, .int (nI fa)), (11, .int 1), (9, .int (twN (C 0) (cn (C 0)))), (5, .int (nI (cn (C 0)))), (4, .int (C 0 7)), (3, .int (nI wy)), (2, .int (nI t)), (1, .int (nI x)), (0, .ref (ad 0))]) hx hb dL_isRoundSo_144 hl (k := 4) rfl (by rw [show Int32.ofInt 1 = nI 1 from rfl, nI_add]) (by decide) rfl (fun ls hl => ?_)
                refine lv_goto (tgt := 47) hx hb dL_isRoundSo_147 (by decide) ?_
                exact ih (ci + 1) fa (wo + 0) (cl + 1) (by omega) (by omega) (by rw [fm_t c111 ea]; omega) (by rw [wr_t c111, hcan, if_neg (by decide)]; omega) (by rw [(chW_s (w := C 14) c111).2]; omega) _ _ _ hI (lv_sub hl [0, 5, 1, 2, 3, 6, 7, 8, 9, 10, 11] rfl)
              · skip
                refine lv_if_eq (tgt := 125) hx hb dL_isRoundSo_106 (by decide) (fun c124 => absurd c124 (by decide)) (fun _ => ?_)
                refine lv_aload_n hx hb dL_isRoundSo_109 rfl (lv_at hl 11 rfl) ?_
                refine lv_iload hx hb dL_isRoundSo_110 (lv_at hl 2 rfl) ?_
                refine lv_bipush (v := 9) hx hb dL_isRoundSo_112 (by decide) ?_
                refine c_calli (As := [.int (nI ci), .int 9]) (rest := [.int (nI wo)]) hx hb hml hown hts hK hX hI 0 (by omega) cE_0 rfl (k_X5_of l dd g ad pi A hA NB iB.W iB.g iB.Ld (nI ci) 9) (cwV 2 hts gL_isRoundSo_X5_of rfl rfl rfl (by decide +kernel) ⟨Nat.le_of_ble_eq_true rfl, Nat.le_of_ble_eq_true rfl⟩) rfl hl (Nat.le_of_ble_eq_true rfl) ⟨Nat.zero_le _, Nat.zero_le _⟩ dL_isRoundSo_114 rfl (fun r C1 pi1 H locs h125 hI => ?_)
                obtain ⟨hr9, hc9, hp9⟩ := h125
                rw [hc9, hp9] at hI
                rw [eB] at hr9
                rw [q_o9t hW hc hcan] at hr9
                subst hr9
                refine lv_iconst (v := 1) hx hb dL_isRoundSo_117 (by decide) ?_
                refine lv_icmp_ne (tgt := 125) hx hb dL_isRoundSo_118 (by decide) (fun c126 => absurd (by decide) c126) (fun _ => ?_)
                refine lv_iconst (v := 1) hx hb dL_isRoundSo_121 (by decide) ?_
                refine lv_goto (tgt := 126) hx hb dL_isRoundSo_122 (by decide) ?_
                refine lv_iadd hx hb dL_isRoundSo_126 ?_
                refine lv_re (y := nI (wo + 1)) (nI_add (wo) (1)) ?_
                refine lv_istore (lv' := [(7, .int (nI (wo + 1))), (6, .int (nI fa)), (11, .int 1), (10, .int (nI ci)), (9, .int (twN (C 0) (cn (C 0)))), (8, .int (nI cl)), (5, .int (nI (cn (C 0)))), (4, .int (C 0 7)), (3, .int (nI wy)), (2, .int (nI t)), (1, .int (nI x)), (0, .ref (ad 0))]) hx hb dL_isRoundSo_127 hl (by decide) rfl (fun ls hl => ?_)
                refine lv_iload hx hb dL_isRoundSo_129 (lv_at hl 5 rfl) ?_
                refine lv_iload hx hb dL_isRoundSo_131 (lv_at hl 2 rfl) ?_
                refine lv_if_eq (tgt := 140) hx hb dL_isRoundSo_133 (by decide) (fun c127 => absurd c127 (by decide)) (fun _ => ?_)
                refine lv_iconst (v := 1) hx hb dL_isRoundSo_136 (by decide) ?_
                refine lv_goto (tgt := 141) hx hb dL_isRoundSo_137 (by decide) ?_
                refine lv_iadd hx hb dL_isRoundSo_141 ?_
                refine lv_re (y := nI (cl + 1)) (nI_add (cl) (1)) ?_
                refine lv_istore (lv' := [(8, .int (nI (cl + 1))), (7, .int (nI (wo + 1))), (6, .int (nI fa)), (11, .int 1), (10, .int (nI ci)), (9, .int (twN (C 0) (cn (C 0)))), (5, .int (nI (cn (C 0)))), (4, .int (C 0 7)), (3, .int (nI wy)), (2, .int (nI t)), (1, .int (nI x)), (0, .ref (ad 0))]) hx hb dL_isRoundSo_142 hl (by decide) rfl (fun ls hl => ?_)
                refine lv_iinc (v := nI (ci + 1)) (lv' := [(10, .int (nI (ci + 1))), (8, .int (nI (cl + 1))), (7, .int (nI (wo + 1))), (6, .int (nI fa)), (11, .int 1), (9, .int (twN (C 0) (cn (C 0)))), (5, .int (nI (cn (C 0)))), (4, .int (C 0 7)), (3, .int (nI wy)), (2, .int (nI t)), (1, .int (nI x)), (0, .ref (ad 0))]) hx hb dL_isRoundSo_144 hl (k := 4) rfl (by rw [show Int32.ofInt 1 = nI 1 from rfl, nI_add]) (by decide) rfl (fun ls hl => ?_)
                refine lv_goto (tgt := 47) hx hb dL_isRoundSo_147 (by decide) ?_
                exact ih (ci + 1) fa (wo + 1) (cl + 1) (by omega) (by omega) (by rw [fm_t c111 ea]; omega) (by rw [wr_t c111, hcan, if_pos rfl]; omega) (by rw [(chW_s (w := C 14) c111).2]; omega) _ _ _ hI (lv_sub hl [0, 5, 1, 2, 3, 6, 7, 8, 9, 10, 11] rfl)
            · skip
              have nc119 : ¬ (a ≤ fa) := fun h => c119 ((nI_leI (a := a) (b := fa) (by omega) (by omega)).mpr h)
              refine lv_aload_n hx hb dL_isRoundSo_88 rfl (lv_at hl 11 rfl) ?_
              refine lv_iload hx hb dL_isRoundSo_89 (lv_at hl 1 rfl) ?_
              refine lv_iconst (v := 0) hx hb dL_isRoundSo_91 (by decide) ?_
              refine c_calli (As := [.int (nI ci), .int 0]) (rest := []) hx hb hml hown hts hK hX hI 0 (by omega) cE_0 rfl (k_X5_of l dd g ad pi A hA NB iB.W iB.g iB.Ld (nI ci) 0) (cwV 2 hts gL_isRoundSo_X5_of rfl rfl rfl (by decide +kernel) ⟨Nat.le_of_ble_eq_true rfl, Nat.le_of_ble_eq_true rfl⟩) rfl hl (Nat.le_of_ble_eq_true rfl) ⟨Nat.zero_le _, Nat.zero_le _⟩ dL_isRoundSo_92 rfl (fun r C1 pi1 H locs h128 hI => ?_)
              obtain ⟨hr9, hc9, hp9⟩ := h128
              rw [hc9, hp9] at hI
              rw [eB] at hr9
              rw [q_o0 hW hc] at hr9
              rw [ea] at hr9
              subst hr9
              refine lv_goto (tgt := 100) hx hb dL_isRoundSo_95 (by decide) ?_
              refine lv_istore (lv' := [(6, .int (nI a)), (11, .int 1), (10, .int (nI ci)), (9, .int (twN (C 0) (cn (C 0)))), (8, .int (nI cl)), (7, .int (nI wo)), (5, .int (nI (cn (C 0)))), (4, .int (C 0 7)), (3, .int (nI wy)), (2, .int (nI t)), (1, .int (nI x)), (0, .ref (ad 0))]) hx hb dL_isRoundSo_100 hl (by decide) rfl (fun ls hl => ?_)
              refine lv_iload hx hb dL_isRoundSo_102 (lv_at hl 5 rfl) ?_
              refine lv_iload hx hb dL_isRoundSo_104 (lv_at hl 1 rfl) ?_
              rcases hcan : canW (C 0) ci
              · skip
                refine lv_if_eq (tgt := 125) hx hb dL_isRoundSo_106 (by decide) (fun c129 => absurd c129 (by decide)) (fun _ => ?_)
                refine lv_aload_n hx hb dL_isRoundSo_109 rfl (lv_at hl 11 rfl) ?_
                refine lv_iload hx hb dL_isRoundSo_110 (lv_at hl 2 rfl) ?_
                refine lv_bipush (v := 9) hx hb dL_isRoundSo_112 (by decide) ?_
                refine c_calli (As := [.int (nI ci), .int 9]) (rest := [.int (nI wo)]) hx hb hml hown hts hK hX hI 0 (by omega) cE_0 rfl (k_X5_of l dd g ad pi A hA NB iB.W iB.g iB.Ld (nI ci) 9) (cwV 2 hts gL_isRoundSo_X5_of rfl rfl rfl (by decide +kernel) ⟨Nat.le_of_ble_eq_true rfl, Nat.le_of_ble_eq_true rfl⟩) rfl hl (Nat.le_of_ble_eq_true rfl) ⟨Nat.zero_le _, Nat.zero_le _⟩ dL_isRoundSo_114 rfl (fun r C1 pi1 H locs h130 hI => ?_)
                obtain ⟨hr9, hc9, hp9⟩ := h130
                rw [hc9, hp9] at hI
                rw [eB] at hr9
                rw [q_o9f hW hc hcan] at hr9
                subst hr9
                refine lv_iconst (v := 1) hx hb dL_isRoundSo_117 (by decide) ?_
                refine lv_icmp_ne (tgt := 125) hx hb dL_isRoundSo_118 (by decide) (fun _ => ?_) (fun c131 => absurd c131 (by decide))
                refine lv_iconst (v := 0) hx hb dL_isRoundSo_125 (by decide) ?_
                refine lv_iadd hx hb dL_isRoundSo_126 ?_
                refine lv_re (y := nI (wo + 0)) (nI_add (wo) (0)) ?_
                refine lv_istore (lv' := [(7, .int (nI (wo + 0))), (6, .int (nI a)), (11, .int 1), (10, .int (nI ci)), (9, .int (twN (C 0) (cn (C 0)))), (8, .int (nI cl)), (5, .int (nI (cn (C 0)))), (4, .int (C 0 7)), (3, .int (nI wy)), (2, .int (nI t)), (1, .int (nI x)), (0, .ref (ad 0))]) hx hb dL_isRoundSo_127 hl (by decide) rfl (fun ls hl => ?_)
                refine lv_iload hx hb dL_isRoundSo_129 (lv_at hl 5 rfl) ?_
                refine lv_iload hx hb dL_isRoundSo_131 (lv_at hl 2 rfl) ?_
                refine lv_if_eq (tgt := 140) hx hb dL_isRoundSo_133 (by decide) (fun c132 => absurd c132 (by decide)) (fun _ => ?_)
                refine lv_iconst (v := 1) hx hb dL_isRoundSo_136 (by decide) ?_
                refine lv_goto (tgt := 141) hx hb dL_isRoundSo_137 (by decide) ?_
                refine lv_iadd hx hb dL_isRoundSo_141 ?_
                refine lv_re (y := nI (cl + 1)) (nI_add (cl) (1)) ?_
                refine lv_istore (lv' := [(8, .int (nI (cl + 1))), (7, .int (nI (wo + 0))), (6, .int (nI a)), (11, .int 1), (10, .int (nI ci)), (9, .int (twN (C 0) (cn (C 0)))), (5, .int (nI (cn (C 0)))), (4, .int (C 0 7)), (3, .int (nI wy)), (2, .int (nI t)), (1, .int (nI x)), (0, .ref (ad 0))]) hx hb dL_isRoundSo_142 hl (by decide) rfl (fun ls hl => ?_)
                refine lv_iinc (v := nI (ci + 1)) (lv' := [(10, .int (nI (ci + 1))), (8, .int (nI (cl + 1))), (7, .int (nI (wo + 0))), (6, .int (nI a)), (11, .int 1), (9, .int (twN (C 0) (cn (C 0)))), (5, .int (nI (cn (C 0)))), (4, .int (C 0 7)), (3, .int (nI wy)), (2, .int (nI t)), (1, .int (nI x)), (0, .ref (ad 0))]) hx hb dL_isRoundSo_144 hl (k := 4) rfl (by rw [show Int32.ofInt 1 = nI 1 from rfl, nI_add]) (by decide) rfl (fun ls hl => ?_)
                refine lv_goto (tgt := 47) hx hb dL_isRoundSo_147 (by decide) ?_
                exact ih (ci + 1) a (wo + 0) (cl + 1) (by omega) (by omega) (by rw [fm_t c111 ea]; omega) (by rw [wr_t c111, hcan, if_neg (by decide)]; omega) (by rw [(chW_s (w := C 14) c111).2]; omega) _ _ _ hI (lv_sub hl [0, 5, 1, 2, 3, 6, 7, 8, 9, 10, 11] rfl)
              · skip
                refine lv_if_eq (tgt := 125) hx hb dL_isRoundSo_106 (by decide) (fun c133 => absurd c133 (by decide)) (fun _ => ?_)
                refine lv_aload_n hx hb dL_isRoundSo_109 rfl (lv_at hl 11 rfl) ?_
                refine lv_iload hx hb dL_isRoundSo_110 (lv_at hl 2 rfl) ?_
                refine lv_bipush (v := 9) hx hb dL_isRoundSo_112 (by decide) ?_
                refine c_calli (As := [.int (nI ci), .int 9]) (rest := [.int (nI wo)]) hx hb hml hown hts hK hX hI 0 (by omega) cE_0 rfl (k_X5_of l dd g ad pi A hA NB iB.W iB.g iB.Ld (nI ci) 9) (cwV 2 hts gL_isRoundSo_X5_of rfl rfl rfl (by decide +kernel) ⟨Nat.le_of_ble_eq_true rfl, Nat.le_of_ble_eq_true rfl⟩) rfl hl (Nat.le_of_ble_eq_true rfl) ⟨Nat.zero_le _, Nat.zero_le _⟩ dL_isRoundSo_114 rfl (fun r C1 pi1 H locs h134 hI => ?_)
                obtain ⟨hr9, hc9, hp9⟩ := h134
                rw [hc9, hp9] at hI
                rw [eB] at hr9
                rw [q_o9t hW hc hcan] at hr9
                subst hr9
                refine lv_iconst (v := 1) hx hb dL_isRoundSo_117 (by decide) ?_
                refine lv_icmp_ne (tgt := 125) hx hb dL_isRoundSo_118 (by decide) (fun c135 => absurd (by decide) c135) (fun _ => ?_)
                refine lv_iconst (v := 1) hx hb dL_isRoundSo_121 (by decide) ?_
                refine lv_goto (tgt := 126) hx hb dL_isRoundSo_122 (by decide) ?_
                refine lv_iadd hx hb dL_isRoundSo_126 ?_
                refine lv_re (y := nI (wo + 1)) (nI_add (wo) (1)) ?_
                refine lv_istore (lv' := [(7, .int (nI (wo + 1))), (6, .int (nI a)), (11, .int 1), (10, .int (nI ci)), (9, .int (twN (C 0) (cn (C 0)))), (8, .int (nI cl)), (5, .int (nI (cn (C 0)))), (4, .int (C 0 7)), (3, .int (nI wy)), (2, .int (nI t)), (1, .int (nI x)), (0, .ref (ad 0))]) hx hb dL_isRoundSo_127 hl (by decide) rfl (fun ls hl => ?_)
                refine lv_iload hx hb dL_isRoundSo_129 (lv_at hl 5 rfl) ?_
                refine lv_iload hx hb dL_isRoundSo_131 (lv_at hl 2 rfl) ?_
                refine lv_if_eq (tgt := 140) hx hb dL_isRoundSo_133 (by decide) (fun c136 => absurd c136 (by decide)) (fun _ => ?_)
                refine lv_iconst (v := 1) hx hb dL_isRoundSo_136 (by decide) ?_
                refine lv_goto (tgt := 141) hx hb dL_isRoundSo_137 (by decide) ?_
                refine lv_iadd hx hb dL_isRoundSo_141 ?_
                refine lv_re (y := nI (cl + 1)) (nI_add (cl) (1)) ?_
                refine lv_istore (lv' := [(8, .int (nI (cl + 1))), (7, .int (nI (wo + 1))), (6, .int (nI a)), (11, .int 1), (10, .int (nI ci)), (9, .int (twN (C 0) (cn (C 0)))), (5, .int (nI (cn (C 0)))), (4, .int (C 0 7)), (3, .int (nI wy)), (2, .int (nI t)), (1, .int (nI x)), (0, .ref (ad 0))]) hx hb dL_isRoundSo_142 hl (by decide) rfl (fun ls hl => ?_)
                refine lv_iinc (v := nI (ci + 1)) (lv' := [(10, .int (nI (ci + 1))), (8, .int (nI (cl + 1))), (7, .int (nI (wo + 1))), (6, .int (nI a)), (11, .int 1), (9, .int (twN (C 0) (cn (C 0)))), (5, .int (nI (cn (C 0)))), (4, .int (C 0 7)), (3, .int (nI wy)), (2, .int (nI t)), (1, .int (nI x)), (0, .ref (ad 0))]) hx hb dL_isRoundSo_144 hl (k := 4) rfl (by rw [show Int32.ofInt 1 = nI 1 from rfl, nI_add]) (by decide) rfl (fun ls hl => ?_)
                refine lv_goto (tgt := 47) hx hb dL_isRoundSo_147 (by decide) ?_
                exact ih (ci + 1) a (wo + 1) (cl + 1) (by omega) (by omega) (by rw [fm_t c111 ea]; omega) (by rw [wr_t c111, hcan, if_pos rfl]; omega) (by rw [(chW_s (w := C 14) c111).2]; omega) _ _ _ hI (lv_sub hl [0, 5, 1, 2, 3, 6, 7, 8, 9, 10, 11] rfl)
    exact L47 (cn (C 0) + 1) 0 0 0 0 (by omega) (by omega) rfl rfl rfl _ _ _ hI (lv_sub hl [0, 1, 2, 3, 4, 5, 6, 7, 8, 10, 9] rfl)
