set_option maxHeartbeats 4000000 in
set_option maxRecDepth 100000 in
theorem k_L_areClocksSo (l : Launch) (dd : va_G) (g : Nat → ClassId) (ad pi : Nat → Nat) (A : Nat → Prop) (hA : cA A ad) (C : MS) (d Bn : Nat) (hIN : IN C pi d Bn) (hB : Bn < 2 ^ 30)  : Met l yL_areClocksSo wsL_areClocksSo ({ frames := 4, cells := 0, slots := 0, locals := 89 }) (cPre dd g ad pi A C [.ref (ad 0)]) (cQi dd g ad A (fun r C1 pi1 => r = 1 ∧ C1 = C ∧ pi1 = pi)) 0 0 A := by
  refine Met.ofW (cc := cL_areClocksSo) (maxL := 11) (ret := (some .boolean)) (by decide) rfl ?_
  intro p e s m args below meth c s₁ B hml hv
  obtain ⟨rfl, hP0, hK, hX⟩ := hv
  have hx := B.exec
  have hb := B.bytes
  have hr := B.returns
  have hts := atoms_spec (ws := wsL_areClocksSo) B.pre
  have hown : s.vm.findClass RL = some m.cls := findClass_of_methodNamed B.named
  have hlocks := B.notSynchronized
  have hI : cI dd g ad pi A s.heap s.heap [] C := ⟨hP0, va_S.rf⟩
  have hl := lv_entry ([.ref (ad 0)]) (n := 11) (Nat.le_of_ble_eq_true rfl)
  rw [lg_entry_eq]
  generalize (lg_sl ([.ref (ad 0)]) ++ List.replicate (11 - (lg_sl ([.ref (ad 0)])).length) Slot.unset).toArray = ls at hl ⊢
  have hl : lv_has ls 11 [(0, .ref (ad 0))] := hl
  have hn16 := hIN.n16
  have hl4 := hIN.l4
  have hV := hIN.V
  have hW := hIN.W
  refine lv_iconst (v := 0) hx hb dL_areClocksSo_0 (by decide) ?_
  refine lv_istore_n (lv' := [(1, .int 0), (0, .ref (ad 0))]) hx hb dL_areClocksSo_1 rfl hl (by decide) rfl (fun ls hl => ?_)
  refine lv_iconst (v := 0) hx hb dL_areClocksSo_2 (by decide) ?_
  refine lv_istore_n (lv' := [(2, .int 0), (1, .int 0), (0, .ref (ad 0))]) hx hb dL_areClocksSo_3 rfl hl (by decide) rfl (fun ls hl => ?_)
  refine lv_iconst (v := 0) hx hb dL_areClocksSo_4 (by decide) ?_
  refine lv_istore_n (lv' := [(3, .int 0), (2, .int 0), (1, .int 0), (0, .ref (ad 0))]) hx hb dL_areClocksSo_5 rfl hl (by decide) rfl (fun ls hl => ?_)
  refine lv_iconst (v := 0) hx hb dL_areClocksSo_6 (by decide) ?_
  refine lv_istore (lv' := [(4, .int 0), (3, .int 0), (2, .int 0), (1, .int 0), (0, .ref (ad 0))]) hx hb dL_areClocksSo_7 hl (by decide) rfl (fun ls hl => ?_)
  refine lv_aload_n hx hb dL_areClocksSo_9 rfl (lv_at hl 4 rfl) ?_
  refine lv_aload_n hx hb dL_areClocksSo_10 rfl (lv_at hl 4 rfl) ?_
  refine lv_iconst (v := 1) hx hb dL_areClocksSo_11 (by decide) ?_
  refine c_calli (As := [.int 1]) (rest := [.ref (ad 0)]) hx hb hml hown hts hK hX hI 0 (by omega) cE_0 rfl (k_X5_count l dd g ad pi A hA C hIN.W hIN.g hIN.Ld 1) (cwV 1 hts gL_areClocksSo_X5_count rfl rfl rfl (by decide +kernel) ⟨Nat.le_of_ble_eq_true rfl, Nat.le_of_ble_eq_true rfl⟩) rfl hl (Nat.le_of_ble_eq_true rfl) ⟨Nat.zero_le _, Nat.zero_le _⟩ dL_areClocksSo_12 rfl (fun r C1 pi1 H locs h1 hI => ?_)
  obtain ⟨hr9, hc9, hp9⟩ := h1
  rw [hc9, hp9] at hI
  rw [q_c1 hW] at hr9
  subst hr9
  refine lv_iconst (v := 0) hx hb dL_areClocksSo_15 (by decide) ?_
  refine c_calli (As := [.int (nI (cn (C 0))), .int 0]) (rest := []) hx hb hml hown hts hK hX hI 0 (by omega) cE_0 rfl (k_X5_of l dd g ad pi A hA C hIN.W hIN.g hIN.Ld (nI (cn (C 0))) 0) (cwV 2 hts gL_areClocksSo_X5_of rfl rfl rfl (by decide +kernel) ⟨Nat.le_of_ble_eq_true rfl, Nat.le_of_ble_eq_true rfl⟩) rfl hl (Nat.le_of_ble_eq_true rfl) ⟨Nat.zero_le _, Nat.zero_le _⟩ dL_areClocksSo_16 rfl (fun r C1 pi1 H locs h2 hI => ?_)
  obtain ⟨hr9, hc9, hp9⟩ := h2
  rw [hc9, hp9] at hI
  rw [q_on hW] at hr9
  subst hr9
  refine lv_iconst (v := (-1)) hx hb dL_areClocksSo_19 (by decide) ?_
  refine lv_icmp_ne (tgt := 40) hx hb dL_areClocksSo_20 (by decide) (fun c3 => absurd (by decide) c3) (fun _ => ?_)
  refine lv_aload_n hx hb dL_areClocksSo_23 rfl (lv_at hl 4 rfl) ?_
  refine lv_aload_n hx hb dL_areClocksSo_24 rfl (lv_at hl 4 rfl) ?_
  refine lv_iconst (v := 2) hx hb dL_areClocksSo_25 (by decide) ?_
  refine c_calli (As := [.int 2]) (rest := [.ref (ad 0)]) hx hb hml hown hts hK hX hI 0 (by omega) cE_0 rfl (k_X5_count l dd g ad pi A hA C hIN.W hIN.g hIN.Ld 2) (cwV 1 hts gL_areClocksSo_X5_count rfl rfl rfl (by decide +kernel) ⟨Nat.le_of_ble_eq_true rfl, Nat.le_of_ble_eq_true rfl⟩) rfl hl (Nat.le_of_ble_eq_true rfl) ⟨Nat.zero_le _, Nat.zero_le _⟩ dL_areClocksSo_26 rfl (fun r C1 pi1 H locs h4 hI => ?_)
  obtain ⟨hr9, hc9, hp9⟩ := h4
  rw [hc9, hp9] at hI
  rw [q_c2 hW] at hr9
  subst hr9
  refine c_calli (As := [.int (nI (ln (C 0)))]) (rest := []) hx hb hml hown hts hK hX hI 0 (by omega) cE_0 rfl (k_X5_ofLadder l dd g ad pi A hA C hIN.W hIN.g (nI (ln (C 0)))) (cwV 1 hts gL_areClocksSo_X5_ofLadder rfl rfl rfl (by decide +kernel) ⟨Nat.le_of_ble_eq_true rfl, Nat.le_of_ble_eq_true rfl⟩) rfl hl (Nat.le_of_ble_eq_true rfl) ⟨Nat.zero_le _, Nat.zero_le _⟩ dL_areClocksSo_29 rfl (fun r C1 pi1 H locs h5 hI => ?_)
  obtain ⟨hr9, hc9, hp9⟩ := h5
  rw [hc9, hp9] at hI
  rw [q_ln hW] at hr9
  subst hr9
  refine lv_iconst (v := (-1)) hx hb dL_areClocksSo_32 (by decide) ?_
  refine lv_icmp_ne (tgt := 40) hx hb dL_areClocksSo_33 (by decide) (fun c6 => absurd (by decide) c6) (fun _ => ?_)
  refine lv_iconst (v := 1) hx hb dL_areClocksSo_36 (by decide) ?_
  refine lv_goto (tgt := 41) hx hb dL_areClocksSo_37 (by decide) ?_
  refine lv_istore (lv' := [(5, .int 1), (4, .int 0), (3, .int 0), (2, .int 0), (1, .int 0), (0, .ref (ad 0))]) hx hb dL_areClocksSo_41 hl (by decide) rfl (fun ls hl => ?_)
  refine lv_iconst (v := 0) hx hb dL_areClocksSo_43 (by decide) ?_
  refine lv_istore (lv' := [(6, .int 0), (5, .int 1), (4, .int 0), (3, .int 0), (2, .int 0), (1, .int 0), (0, .ref (ad 0))]) hx hb dL_areClocksSo_44 hl (by decide) rfl (fun ls hl => ?_)
  have L46 : ∀ (fuel : Nat) (ci : Nat) (sv : Int32) (oN cN : Nat) (wv : Int32) (h1 : ci ≤ cn (C 0)) (h2 : cn (C 0) < fuel + ci) (hs : sv = stC (C 0) ci) (ho : oN = ofN (C 0) ci) (hk9 : cN = cwN (C 0) ci) (hw : wv = twN (C 0) ci) (H : Heap) (locs : List Loc) (ls : Array Slot), cI dd g ad pi A s.heap H locs C → lv_has ls 11 [(6, .int (nI ci)), (5, .int 1), (4, .int wv), (3, .int (nI cN)), (2, .int (nI oN)), (1, .int sv), (0, .ref (ad 0))] → wk p l e wsL_areClocksSo { frames := 4, cells := 0, slots := 0, locals := 89 } s m [.ref (ad 0)] below meth c H locs (cQi dd g ad A (fun r C1 pi1 => r = 1 ∧ C1 = C ∧ pi1 = pi)) (A) (F0 m 46 ls []) := by
    intro fuel
    induction fuel with
    | zero =>
      intro ci sv oN cN wv h1 h2 hs ho hk9 hw H locs ls hI hl
      exact absurd h2 (by omega)
    | succ fuel ih =>
      intro ci sv oN cN wv h1 h2 hs ho hk9 hw H locs ls hI hl
      refine lv_iload hx hb dL_areClocksSo_46 (lv_at hl 0 rfl) ?_
      refine lv_aload_n hx hb dL_areClocksSo_48 rfl (lv_at hl 6 rfl) ?_
      refine lv_iconst (v := 1) hx hb dL_areClocksSo_49 (by decide) ?_
      refine c_calli (As := [.int 1]) (rest := [.int (nI ci)]) hx hb hml hown hts hK hX hI 0 (by omega) cE_0 rfl (k_X5_count l dd g ad pi A hA C hIN.W hIN.g hIN.Ld 1) (cwV 1 hts gL_areClocksSo_X5_count rfl rfl rfl (by decide +kernel) ⟨Nat.le_of_ble_eq_true rfl, Nat.le_of_ble_eq_true rfl⟩) rfl hl (Nat.le_of_ble_eq_true rfl) ⟨Nat.zero_le _, Nat.zero_le _⟩ dL_areClocksSo_50 rfl (fun r C1 pi1 H locs h7 hI => ?_)
      obtain ⟨hr9, hc9, hp9⟩ := h7
      rw [hc9, hp9] at hI
      rw [q_c1 hW] at hr9
      subst hr9
      refine lv_icmp_ge (tgt := 389) hx hb dL_areClocksSo_53 (by decide) (fun c8 => ?_) (fun c8 => ?_)
      · skip
        have nc8 : cn (C 0) ≤ ci := (nI_leI (a := cn (C 0)) (b := ci) (by omega) (by omega)).mp c8
        have ec : ci = cn (C 0) := by omega
        subst ec
        subst hs
        subst ho
        subst hk9
        subst hw
        refine lv_iload hx hb dL_areClocksSo_389 (lv_at hl 1 rfl) ?_
        refine lv_if_eq (tgt := 436) hx hb dL_areClocksSo_391 (by decide) (fun c9 => absurd c9 (by decide)) (fun _ => ?_)
        refine lv_iload_n hx hb dL_areClocksSo_394 rfl (lv_at hl 5 rfl) ?_
        refine lv_aload_n hx hb dL_areClocksSo_395 rfl (lv_at hl 6 rfl) ?_
        refine lv_iconst (v := 3) hx hb dL_areClocksSo_396 (by decide) ?_
        refine c_calli (As := [.int 3]) (rest := [.int (stC (C 0) (cn (C 0)))]) hx hb hml hown hts hK hX hI 0 (by omega) cE_0 rfl (k_X5_count l dd g ad pi A hA C hIN.W hIN.g hIN.Ld 3) (cwV 1 hts gL_areClocksSo_X5_count rfl rfl rfl (by decide +kernel) ⟨Nat.le_of_ble_eq_true rfl, Nat.le_of_ble_eq_true rfl⟩) rfl hl (Nat.le_of_ble_eq_true rfl) ⟨Nat.zero_le _, Nat.zero_le _⟩ dL_areClocksSo_397 rfl (fun r C1 pi1 H locs h10 hI => ?_)
        obtain ⟨hr9, hc9, hp9⟩ := h10
        rw [hc9, hp9] at hI
        rw [q_c3] at hr9
        subst hr9
        refine lv_icmp_ne (tgt := 436) hx hb dL_areClocksSo_400 (by decide) (fun c11 => absurd rfl c11) (fun _ => ?_)
        refine lv_iload_n hx hb dL_areClocksSo_403 rfl (lv_at hl 4 rfl) ?_
        refine lv_aload_n hx hb dL_areClocksSo_404 rfl (lv_at hl 6 rfl) ?_
        refine lv_iconst (v := 4) hx hb dL_areClocksSo_405 (by decide) ?_
        refine c_calli (As := [.int 4]) (rest := [.int (nI (ofN (C 0) (cn (C 0))))]) hx hb hml hown hts hK hX hI 0 (by omega) cE_0 rfl (k_X5_count l dd g ad pi A hA C hIN.W hIN.g hIN.Ld 4) (cwV 1 hts gL_areClocksSo_X5_count rfl rfl rfl (by decide +kernel) ⟨Nat.le_of_ble_eq_true rfl, Nat.le_of_ble_eq_true rfl⟩) rfl hl (Nat.le_of_ble_eq_true rfl) ⟨Nat.zero_le _, Nat.zero_le _⟩ dL_areClocksSo_406 rfl (fun r C1 pi1 H locs h12 hI => ?_)
        obtain ⟨hr9, hc9, hp9⟩ := h12
        rw [hc9, hp9] at hI
        rw [q_c4] at hr9
        subst hr9
        refine lv_icmp_ne (tgt := 436) hx hb dL_areClocksSo_409 (by decide) (fun c13 => absurd rfl c13) (fun _ => ?_)
        refine lv_iload_n hx hb dL_areClocksSo_412 rfl (lv_at hl 3 rfl) ?_
        refine lv_aload_n hx hb dL_areClocksSo_413 rfl (lv_at hl 6 rfl) ?_
        refine lv_iconst (v := 5) hx hb dL_areClocksSo_414 (by decide) ?_
        refine c_calli (As := [.int 5]) (rest := [.int (nI (cwN (C 0) (cn (C 0))))]) hx hb hml hown hts hK hX hI 0 (by omega) cE_0 rfl (k_X5_count l dd g ad pi A hA C hIN.W hIN.g hIN.Ld 5) (cwV 1 hts gL_areClocksSo_X5_count rfl rfl rfl (by decide +kernel) ⟨Nat.le_of_ble_eq_true rfl, Nat.le_of_ble_eq_true rfl⟩) rfl hl (Nat.le_of_ble_eq_true rfl) ⟨Nat.zero_le _, Nat.zero_le _⟩ dL_areClocksSo_415 rfl (fun r C1 pi1 H locs h14 hI => ?_)
        obtain ⟨hr9, hc9, hp9⟩ := h14
        rw [hc9, hp9] at hI
        rw [q_c5] at hr9
        subst hr9
        refine lv_icmp_ne (tgt := 436) hx hb dL_areClocksSo_418 (by decide) (fun c15 => absurd rfl c15) (fun _ => ?_)
        refine lv_iload hx hb dL_areClocksSo_421 (lv_at hl 2 rfl) ?_
        refine lv_aload_n hx hb dL_areClocksSo_423 rfl (lv_at hl 6 rfl) ?_
        refine lv_bipush (v := 7) hx hb dL_areClocksSo_424 (by decide) ?_
        refine c_calli (As := [.int 7]) (rest := [.int (twN (C 0) (cn (C 0)))]) hx hb hml hown hts hK hX hI 0 (by omega) cE_0 rfl (k_X5_count l dd g ad pi A hA C hIN.W hIN.g hIN.Ld 7) (cwV 1 hts gL_areClocksSo_X5_count rfl rfl rfl (by decide +kernel) ⟨Nat.le_of_ble_eq_true rfl, Nat.le_of_ble_eq_true rfl⟩) rfl hl (Nat.le_of_ble_eq_true rfl) ⟨Nat.zero_le _, Nat.zero_le _⟩ dL_areClocksSo_426 rfl (fun r C1 pi1 H locs h16 hI => ?_)
        obtain ⟨hr9, hc9, hp9⟩ := h16
        rw [hc9, hp9] at hI
        rw [q_c7] at hr9
        subst hr9
        refine lv_icmp_ne (tgt := 436) hx hb dL_areClocksSo_429 (by decide) (fun c17 => absurd rfl c17) (fun _ => ?_)
        refine lv_iconst (v := 1) hx hb dL_areClocksSo_432 (by decide) ?_
        refine lv_goto (tgt := 437) hx hb dL_areClocksSo_433 (by decide) ?_
        exact c_zret (v := 1) hx hb hr (by first | rfl | decide) hI (⟨rfl, rfl, rfl⟩) dL_areClocksSo_437 hlocks
      · skip
        have nc8 : ¬ (cn (C 0) ≤ ci) := fun h => c8 ((nI_leI (a := cn (C 0)) (b := ci) (by omega) (by omega)).mpr h)
        have hc : ci < cn (C 0) := by omega
        obtain ⟨ru, hru, eru, s3, hs3, es3⟩ := cl_num hV hc
        refine lv_aload_n hx hb dL_areClocksSo_56 rfl (lv_at hl 6 rfl) ?_
        refine lv_iload hx hb dL_areClocksSo_57 (lv_at hl 0 rfl) ?_
        refine lv_iconst (v := 1) hx hb dL_areClocksSo_59 (by decide) ?_
        refine c_calli (As := [.int (nI ci), .int 1]) (rest := []) hx hb hml hown hts hK hX hI 0 (by omega) cE_0 rfl (k_X5_of l dd g ad pi A hA C hIN.W hIN.g hIN.Ld (nI ci) 1) (cwV 2 hts gL_areClocksSo_X5_of rfl rfl rfl (by decide +kernel) ⟨Nat.le_of_ble_eq_true rfl, Nat.le_of_ble_eq_true rfl⟩) rfl hl (Nat.le_of_ble_eq_true rfl) ⟨Nat.zero_le _, Nat.zero_le _⟩ dL_areClocksSo_60 rfl (fun r C1 pi1 H locs h18 hI => ?_)
        obtain ⟨hr9, hc9, hp9⟩ := h18
        rw [hc9, hp9] at hI
        rw [q_o1 hW hc] at hr9
        rw [eru] at hr9
        subst hr9
        refine lv_istore (lv' := [(7, .int (nI ru)), (6, .int (nI ci)), (5, .int 1), (4, .int wv), (3, .int (nI cN)), (2, .int (nI oN)), (1, .int sv), (0, .ref (ad 0))]) hx hb dL_areClocksSo_63 hl (by decide) rfl (fun ls hl => ?_)
        refine lv_bipush (v := (-6)) hx hb dL_areClocksSo_65 (by decide) ?_
        refine lv_istore (lv' := [(8, .int ((-6))), (7, .int (nI ru)), (6, .int (nI ci)), (5, .int 1), (4, .int wv), (3, .int (nI cN)), (2, .int (nI oN)), (1, .int sv), (0, .ref (ad 0))]) hx hb dL_areClocksSo_67 hl (by decide) rfl (fun ls hl => ?_)
        refine lv_iconst (v := 0) hx hb dL_areClocksSo_69 (by decide) ?_
        refine lv_istore (lv' := [(9, .int 0), (8, .int ((-6))), (7, .int (nI ru)), (6, .int (nI ci)), (5, .int 1), (4, .int wv), (3, .int (nI cN)), (2, .int (nI oN)), (1, .int sv), (0, .ref (ad 0))]) hx hb dL_areClocksSo_70 hl (by decide) rfl (fun ls hl => ?_)
        have L72 : ∀ (fuelk : Nat) (k : Nat) (lv9 : Int32) (k1 : k ≤ ln (C 0)) (k2 : ln (C 0) < fuelk + k) (hlv : lv9 = o2i (ladP (C 0) (C 0 (12 + 8 * ci + 1)) k)) (H : Heap) (locs : List Loc) (ls : Array Slot), cI dd g ad pi A s.heap H locs C → lv_has ls 11 [(9, .int (nI k)), (8, .int lv9), (7, .int (nI ru)), (6, .int (nI ci)), (5, .int 1), (4, .int wv), (3, .int (nI cN)), (2, .int (nI oN)), (1, .int sv), (0, .ref (ad 0))] → wk p l e wsL_areClocksSo { frames := 4, cells := 0, slots := 0, locals := 89 } s m [.ref (ad 0)] below meth c H locs (cQi dd g ad A (fun r C1 pi1 => r = 1 ∧ C1 = C ∧ pi1 = pi)) (A) (F0 m 72 ls []) := by
          intro fuelk
          induction fuelk with
          | zero =>
            intro k lv9 k1 k2 hlv H locs ls hI hl
            exact absurd k2 (by omega)
          | succ fuelk ihk =>
            intro k lv9 k1 k2 hlv H locs ls hI hl
            refine lv_iload hx hb dL_areClocksSo_72 (lv_at hl 0 rfl) ?_
            refine lv_aload_n hx hb dL_areClocksSo_74 rfl (lv_at hl 9 rfl) ?_
            refine lv_iconst (v := 2) hx hb dL_areClocksSo_75 (by decide) ?_
            refine c_calli (As := [.int 2]) (rest := [.int (nI k)]) hx hb hml hown hts hK hX hI 0 (by omega) cE_0 rfl (k_X5_count l dd g ad pi A hA C hIN.W hIN.g hIN.Ld 2) (cwV 1 hts gL_areClocksSo_X5_count rfl rfl rfl (by decide +kernel) ⟨Nat.le_of_ble_eq_true rfl, Nat.le_of_ble_eq_true rfl⟩) rfl hl (Nat.le_of_ble_eq_true rfl) ⟨Nat.zero_le _, Nat.zero_le _⟩ dL_areClocksSo_76 rfl (fun r C1 pi1 H locs h19 hI => ?_)
            obtain ⟨hr9, hc9, hp9⟩ := h19
            rw [hc9, hp9] at hI
            rw [q_c2 hW] at hr9
            subst hr9
            refine lv_icmp_ge (tgt := 145) hx hb dL_areClocksSo_79 (by decide) (fun c20 => ?_) (fun c20 => ?_)
            · skip
              have nc20 : ln (C 0) ≤ k := (nI_leI (a := ln (C 0)) (b := k) (by omega) (by omega)).mp c20
              have ek : k = ln (C 0) := by omega
              subst ek
              rcases hcan : canW (C 0) ci
              · skip
                have hlv9 : lv9 = o2i (ladF (C 0) ci) := hlv
                subst hlv9
                have hno : o2i (ladF (C 0) ci) = -6 := canW_no (by rw [hcan]; decide)
                have hru0 : ¬ ru = 0 := fun z => by rw [canW_t.mpr (Or.inl (by rw [eru, z]; rfl))] at hcan; cases hcan
                have J21 : ∀ (H : Heap) (locs : List Loc) (ls : Array Slot), cI dd g ad pi A s.heap H locs C → lv_has ls 11 [(9, .int (nI (ln (C 0)))), (8, .int (o2i (ladF (C 0) ci))), (7, .int (nI ru)), (6, .int (nI ci)), (5, .int 1), (4, .int wv), (3, .int (nI cN)), (2, .int (nI oN)), (1, .int sv), (0, .ref (ad 0))] → wk p l e wsL_areClocksSo { frames := 4, cells := 0, slots := 0, locals := 89 } s m [.ref (ad 0)] below meth c H locs (cQi dd g ad A (fun r C1 pi1 => r = 1 ∧ C1 = C ∧ pi1 = pi)) (A) (F0 m 160 ls [.int 0]) := by
                  intro H locs ls hI hl
                  refine lv_istore (lv' := [(9, .int 0), (8, .int (o2i (ladF (C 0) ci))), (7, .int (nI ru)), (6, .int (nI ci)), (5, .int 1), (4, .int wv), (3, .int (nI cN)), (2, .int (nI oN)), (1, .int sv), (0, .ref (ad 0))]) hx hb dL_areClocksSo_160 hl (by decide) rfl (fun ls hl => ?_)
                  rcases hoff : offB (C 0) ci (C 0 0)
                  · skip
                    have ho9 : ¬ (C 0 0 < C 0 (12 + 8 * ci + 4) ∨ C 0 (12 + 8 * ci + 4) < -C 0 0) := fun z => by rw [(hIN.2.2.2.1.off hB hc).mpr z] at hoff; cases hoff
                    have J22 : ∀ (H : Heap) (locs : List Loc) (ls : Array Slot), cI dd g ad pi A s.heap H locs C → lv_has ls 11 [(9, .int 0), (8, .int (o2i (ladF (C 0) ci))), (7, .int (nI ru)), (6, .int (nI ci)), (5, .int 1), (4, .int wv), (3, .int (nI cN)), (2, .int (nI oN)), (1, .int sv), (0, .ref (ad 0))] → wk p l e wsL_areClocksSo { frames := 4, cells := 0, slots := 0, locals := 89 } s m [.ref (ad 0)] below meth c H locs (cQi dd g ad A (fun r C1 pi1 => r = 1 ∧ C1 = C ∧ pi1 = pi)) (A) (F0 m 198 ls [.int 0]) := by
                      intro H locs ls hI hl
                      refine lv_istore (lv' := [(10, .int 0), (9, .int 0), (8, .int (o2i (ladF (C 0) ci))), (7, .int (nI ru)), (6, .int (nI ci)), (5, .int 1), (4, .int wv), (3, .int (nI cN)), (2, .int (nI oN)), (1, .int sv), (0, .ref (ad 0))]) hx hb dL_areClocksSo_198 hl (by decide) rfl (fun ls hl => ?_)
                      rcases cl_go hV hc with hg | ⟨hg, hg4⟩
                      · skip
                        refine lv_iload_n hx hb dL_areClocksSo_200 rfl (lv_at hl 9 rfl) ?_
                        refine lv_aload_n hx hb dL_areClocksSo_201 rfl (lv_at hl 10 rfl) ?_
                        refine lv_iload hx hb dL_areClocksSo_202 (lv_at hl 4 rfl) ?_
                        refine lv_bipush (v := 6) hx hb dL_areClocksSo_204 (by decide) ?_
                        refine c_calli (As := [.int (nI ci), .int 6]) (rest := [.int sv]) hx hb hml hown hts hK hX hI 0 (by omega) cE_0 rfl (k_X5_of l dd g ad pi A hA C hIN.W hIN.g hIN.Ld (nI ci) 6) (cwV 2 hts gL_areClocksSo_X5_of rfl rfl rfl (by decide +kernel) ⟨Nat.le_of_ble_eq_true rfl, Nat.le_of_ble_eq_true rfl⟩) rfl hl (Nat.le_of_ble_eq_true rfl) ⟨Nat.zero_le _, Nat.zero_le _⟩ dL_areClocksSo_206 rfl (fun r C1 pi1 H locs h23 hI => ?_)
                        obtain ⟨hr9, hc9, hp9⟩ := h23
                        rw [hc9, hp9] at hI
                        rw [q_o6 hW hc] at hr9
                        rw [hg] at hr9
                        subst hr9
                        refine lv_if_ne (tgt := 219) hx hb dL_areClocksSo_209 (by decide) (fun _ => ?_) (fun c24 => absurd c24 (by decide))
                        refine lv_iconst (v := 0) hx hb dL_areClocksSo_219 (by decide) ?_
                        refine lv_ior hx hb dL_areClocksSo_220 ?_
                        refine lv_re (y := sv) (Int32.or_zero) ?_
                        refine lv_istore_n (lv' := [(1, .int sv), (10, .int 0), (9, .int 0), (8, .int (o2i (ladF (C 0) ci))), (7, .int (nI ru)), (6, .int (nI ci)), (5, .int 1), (4, .int wv), (3, .int (nI cN)), (2, .int (nI oN)), (0, .ref (ad 0))]) hx hb dL_areClocksSo_221 rfl hl (by decide) rfl (fun ls hl => ?_)
                        refine lv_iload_n hx hb dL_areClocksSo_222 rfl (lv_at hl 9 rfl) ?_
                        refine lv_iload hx hb dL_areClocksSo_223 (lv_at hl 1 rfl) ?_
                        refine lv_if_eq (tgt := 232) hx hb dL_areClocksSo_225 (by decide) (fun _ => ?_) (fun c25 => absurd (by decide) c25)
                        refine lv_iconst (v := 0) hx hb dL_areClocksSo_232 (by decide) ?_
                        refine lv_iadd hx hb dL_areClocksSo_233 ?_
                        refine lv_re (y := nI (oN + 0)) (nI_add (oN) (0)) ?_
                        refine lv_istore_n (lv' := [(2, .int (nI (oN + 0))), (1, .int sv), (10, .int 0), (9, .int 0), (8, .int (o2i (ladF (C 0) ci))), (7, .int (nI ru)), (6, .int (nI ci)), (5, .int 1), (4, .int wv), (3, .int (nI cN)), (0, .ref (ad 0))]) hx hb dL_areClocksSo_234 rfl hl (by decide) rfl (fun ls hl => ?_)
                        refine lv_iload_n hx hb dL_areClocksSo_235 rfl (lv_at hl 9 rfl) ?_
                        refine lv_iload hx hb dL_areClocksSo_236 (lv_at hl 3 rfl) ?_
                        refine lv_if_eq (tgt := 245) hx hb dL_areClocksSo_238 (by decide) (fun _ => ?_) (fun c26 => absurd (by decide) c26)
                        refine lv_iconst (v := 1) hx hb dL_areClocksSo_245 (by decide) ?_
                        refine lv_iadd hx hb dL_areClocksSo_246 ?_
                        refine lv_re (y := nI (cN + 1)) (nI_add (cN) (1)) ?_
                        refine lv_istore_n (lv' := [(3, .int (nI (cN + 1))), (2, .int (nI (oN + 0))), (1, .int sv), (10, .int 0), (9, .int 0), (8, .int (o2i (ladF (C 0) ci))), (7, .int (nI ru)), (6, .int (nI ci)), (5, .int 1), (4, .int wv), (0, .ref (ad 0))]) hx hb dL_areClocksSo_247 rfl hl (by decide) rfl (fun ls hl => ?_)
                        refine lv_iload hx hb dL_areClocksSo_248 (lv_at hl 9 rfl) ?_
                        refine lv_aload_n hx hb dL_areClocksSo_250 rfl (lv_at hl 10 rfl) ?_
                        refine lv_iload hx hb dL_areClocksSo_251 (lv_at hl 7 rfl) ?_
                        refine lv_bipush (v := 10) hx hb dL_areClocksSo_253 (by decide) ?_
                        refine c_calli (As := [.int (nI ci), .int 10]) (rest := [.int wv]) hx hb hml hown hts hK hX hI 0 (by omega) cE_0 rfl (k_X5_of l dd g ad pi A hA C hIN.W hIN.g hIN.Ld (nI ci) 10) (cwV 2 hts gL_areClocksSo_X5_of rfl rfl rfl (by decide +kernel) ⟨Nat.le_of_ble_eq_true rfl, Nat.le_of_ble_eq_true rfl⟩) rfl hl (Nat.le_of_ble_eq_true rfl) ⟨Nat.zero_le _, Nat.zero_le _⟩ dL_areClocksSo_255 rfl (fun r C1 pi1 H locs h27 hI => ?_)
                        obtain ⟨hr9, hc9, hp9⟩ := h27
                        rw [hc9, hp9] at hI
                        rw [q_o10 hW hc] at hr9
                        subst hr9
                        refine lv_iadd hx hb dL_areClocksSo_258 ?_
                        refine lv_istore (lv' := [(4, .int (wv + ((C 0) (12 + 8 * ci + 7)))), (3, .int (nI (cN + 1))), (2, .int (nI (oN + 0))), (1, .int sv), (10, .int 0), (9, .int 0), (8, .int (o2i (ladF (C 0) ci))), (7, .int (nI ru)), (6, .int (nI ci)), (5, .int 1), (0, .ref (ad 0))]) hx hb dL_areClocksSo_259 hl (by decide) rfl (fun ls hl => ?_)
                        refine lv_iload hx hb dL_areClocksSo_261 (lv_at hl 9 rfl) ?_
                        refine lv_if_eq (tgt := 380) hx hb dL_areClocksSo_263 (by decide) (fun c28 => absurd c28 (by decide)) (fun _ => ?_)
                        refine lv_aload_n hx hb dL_areClocksSo_266 rfl (lv_at hl 10 rfl) ?_
                        refine lv_iload hx hb dL_areClocksSo_267 (lv_at hl 8 rfl) ?_
                        refine lv_bipush (v := 8) hx hb dL_areClocksSo_269 (by decide) ?_
                        refine c_calli (As := [.int (nI ci), .int 8]) (rest := []) hx hb hml hown hts hK hX hI 0 (by omega) cE_0 rfl (k_X5_of l dd g ad pi A hA C hIN.W hIN.g hIN.Ld (nI ci) 8) (cwV 2 hts gL_areClocksSo_X5_of rfl rfl rfl (by decide +kernel) ⟨Nat.le_of_ble_eq_true rfl, Nat.le_of_ble_eq_true rfl⟩) rfl hl (Nat.le_of_ble_eq_true rfl) ⟨Nat.zero_le _, Nat.zero_le _⟩ dL_areClocksSo_271 rfl (fun r C1 pi1 H locs h29 hI => ?_)
                        obtain ⟨hr9, hc9, hp9⟩ := h29
                        rw [hc9, hp9] at hI
                        rw [q_o8 hW hc] at hr9
                        subst hr9
                        refine lv_iload hx hb dL_areClocksSo_274 (lv_at hl 6 rfl) ?_
                        refine lv_icmp_ne (tgt := 380) hx hb dL_areClocksSo_276 (by decide) (fun c30 => absurd rfl c30) (fun _ => ?_)
                        refine lv_aload_n hx hb dL_areClocksSo_279 rfl (lv_at hl 10 rfl) ?_
                        refine lv_iload hx hb dL_areClocksSo_280 (lv_at hl 8 rfl) ?_
                        refine lv_bipush (v := 9) hx hb dL_areClocksSo_282 (by decide) ?_
                        refine c_calli (As := [.int (nI ci), .int 9]) (rest := []) hx hb hml hown hts hK hX hI 0 (by omega) cE_0 rfl (k_X5_of l dd g ad pi A hA C hIN.W hIN.g hIN.Ld (nI ci) 9) (cwV 2 hts gL_areClocksSo_X5_of rfl rfl rfl (by decide +kernel) ⟨Nat.le_of_ble_eq_true rfl, Nat.le_of_ble_eq_true rfl⟩) rfl hl (Nat.le_of_ble_eq_true rfl) ⟨Nat.zero_le _, Nat.zero_le _⟩ dL_areClocksSo_284 rfl (fun r C1 pi1 H locs h31 hI => ?_)
                        obtain ⟨hr9, hc9, hp9⟩ := h31
                        rw [hc9, hp9] at hI
                        rw [q_o9f hW hc hcan] at hr9
                        subst hr9
                        refine lv_iconst (v := 1) hx hb dL_areClocksSo_287 (by decide) ?_
                        refine lv_icmp_ne (tgt := 295) hx hb dL_areClocksSo_288 (by decide) (fun _ => ?_) (fun c32 => absurd c32 (by decide))
                        refine lv_iconst (v := 0) hx hb dL_areClocksSo_295 (by decide) ?_
                        refine lv_iload hx hb dL_areClocksSo_296 (lv_at hl 5 rfl) ?_
                        refine lv_icmp_ne (tgt := 380) hx hb dL_areClocksSo_298 (by decide) (fun c33 => absurd (by decide) c33) (fun _ => ?_)
                        refine lv_aload_n hx hb dL_areClocksSo_301 rfl (lv_at hl 10 rfl) ?_
                        refine lv_iload hx hb dL_areClocksSo_302 (lv_at hl 8 rfl) ?_
                        refine lv_bipush (v := 7) hx hb dL_areClocksSo_304 (by decide) ?_
                        refine c_calli (As := [.int (nI ci), .int 7]) (rest := []) hx hb hml hown hts hK hX hI 0 (by omega) cE_0 rfl (k_X5_of l dd g ad pi A hA C hIN.W hIN.g hIN.Ld (nI ci) 7) (cwV 2 hts gL_areClocksSo_X5_of rfl rfl rfl (by decide +kernel) ⟨Nat.le_of_ble_eq_true rfl, Nat.le_of_ble_eq_true rfl⟩) rfl hl (Nat.le_of_ble_eq_true rfl) ⟨Nat.zero_le _, Nat.zero_le _⟩ dL_areClocksSo_306 rfl (fun r C1 pi1 H locs h34 hI => ?_)
                        obtain ⟨hr9, hc9, hp9⟩ := h34
                        rw [hc9, hp9] at hI
                        rw [q_o7f hW hc hoff] at hr9
                        subst hr9
                        refine lv_iconst (v := 1) hx hb dL_areClocksSo_309 (by decide) ?_
                        refine lv_icmp_ne (tgt := 317) hx hb dL_areClocksSo_310 (by decide) (fun c35 => absurd (by decide) c35) (fun _ => ?_)
                        refine lv_iconst (v := 1) hx hb dL_areClocksSo_313 (by decide) ?_
                        refine lv_goto (tgt := 318) hx hb dL_areClocksSo_314 (by decide) ?_
                        refine lv_iload hx hb dL_areClocksSo_318 (lv_at hl 4 rfl) ?_
                        refine lv_if_ne (tgt := 327) hx hb dL_areClocksSo_320 (by decide) (fun c36 => absurd (by decide) c36) (fun _ => ?_)
                        refine lv_iconst (v := 1) hx hb dL_areClocksSo_323 (by decide) ?_
                        refine lv_goto (tgt := 328) hx hb dL_areClocksSo_324 (by decide) ?_
                        refine lv_icmp_ne (tgt := 380) hx hb dL_areClocksSo_328 (by decide) (fun c37 => absurd (by decide) c37) (fun _ => ?_)
                        refine lv_aload_n hx hb dL_areClocksSo_331 rfl (lv_at hl 10 rfl) ?_
                        refine lv_iload hx hb dL_areClocksSo_332 (lv_at hl 8 rfl) ?_
                        refine lv_bipush (v := 6) hx hb dL_areClocksSo_334 (by decide) ?_
                        refine c_calli (As := [.int (nI ci), .int 6]) (rest := []) hx hb hml hown hts hK hX hI 0 (by omega) cE_0 rfl (k_X5_of l dd g ad pi A hA C hIN.W hIN.g hIN.Ld (nI ci) 6) (cwV 2 hts gL_areClocksSo_X5_of rfl rfl rfl (by decide +kernel) ⟨Nat.le_of_ble_eq_true rfl, Nat.le_of_ble_eq_true rfl⟩) rfl hl (Nat.le_of_ble_eq_true rfl) ⟨Nat.zero_le _, Nat.zero_le _⟩ dL_areClocksSo_336 rfl (fun r C1 pi1 H locs h38 hI => ?_)
                        obtain ⟨hr9, hc9, hp9⟩ := h38
                        rw [hc9, hp9] at hI
                        rw [q_o6 hW hc] at hr9
                        rw [hg] at hr9
                        subst hr9
                        refine lv_iconst (v := 1) hx hb dL_areClocksSo_339 (by decide) ?_
                        refine lv_icmp_eq (tgt := 354) hx hb dL_areClocksSo_340 (by decide) (fun _ => ?_) (fun c39 => absurd (by decide) c39)
                        refine lv_aload_n hx hb dL_areClocksSo_354 rfl (lv_at hl 10 rfl) ?_
                        refine lv_iload hx hb dL_areClocksSo_355 (lv_at hl 8 rfl) ?_
                        refine lv_iconst (v := 3) hx hb dL_areClocksSo_357 (by decide) ?_
                        refine c_calli (As := [.int (nI ci), .int 3]) (rest := []) hx hb hml hown hts hK hX hI 0 (by omega) cE_0 rfl (k_X5_of l dd g ad pi A hA C hIN.W hIN.g hIN.Ld (nI ci) 3) (cwV 2 hts gL_areClocksSo_X5_of rfl rfl rfl (by decide +kernel) ⟨Nat.le_of_ble_eq_true rfl, Nat.le_of_ble_eq_true rfl⟩) rfl hl (Nat.le_of_ble_eq_true rfl) ⟨Nat.zero_le _, Nat.zero_le _⟩ dL_areClocksSo_358 rfl (fun r C1 pi1 H locs h40 hI => ?_)
                        obtain ⟨hr9, hc9, hp9⟩ := h40
                        rw [hc9, hp9] at hI
                        rw [q_o3 hW hc] at hr9
                        rw [es3] at hr9
                        subst hr9
                        refine lv_if_lt (tgt := 380) hx hb dL_areClocksSo_361 (by decide) (fun c41 => ?_) (fun c41 => ?_)
                        · skip
                          have nc41 : s3 < 0 := (nI_ltI (a := s3) (b := 0) (by omega) (by omega)).mp c41
                          exact absurd nc41 (by omega)
                        · skip
                          have nc41 : ¬ (s3 < 0) := fun h => c41 ((nI_ltI (a := s3) (b := 0) (by omega) (by omega)).mpr h)
                          refine lv_aload_n hx hb dL_areClocksSo_364 rfl (lv_at hl 10 rfl) ?_
                          refine lv_iload hx hb dL_areClocksSo_365 (lv_at hl 8 rfl) ?_
                          refine lv_iconst (v := 3) hx hb dL_areClocksSo_367 (by decide) ?_
                          refine c_calli (As := [.int (nI ci), .int 3]) (rest := []) hx hb hml hown hts hK hX hI 0 (by omega) cE_0 rfl (k_X5_of l dd g ad pi A hA C hIN.W hIN.g hIN.Ld (nI ci) 3) (cwV 2 hts gL_areClocksSo_X5_of rfl rfl rfl (by decide +kernel) ⟨Nat.le_of_ble_eq_true rfl, Nat.le_of_ble_eq_true rfl⟩) rfl hl (Nat.le_of_ble_eq_true rfl) ⟨Nat.zero_le _, Nat.zero_le _⟩ dL_areClocksSo_368 rfl (fun r C1 pi1 H locs h42 hI => ?_)
                          obtain ⟨hr9, hc9, hp9⟩ := h42
                          rw [hc9, hp9] at hI
                          rw [q_o3 hW hc] at hr9
                          rw [es3] at hr9
                          subst hr9
                          refine lv_bipush (v := 40) hx hb dL_areClocksSo_371 (by decide) ?_
                          refine lv_icmp_gt (tgt := 380) hx hb dL_areClocksSo_373 (by decide) (fun c43 => ?_) (fun c43 => ?_)
                          · skip
                            have nc43 : 40 < s3 := (nI_ltI (a := 40) (b := s3) (by omega) (by omega)).mp c43
                            exact absurd nc43 (by omega)
                          · skip
                            have nc43 : ¬ (40 < s3) := fun h => c43 ((nI_ltI (a := 40) (b := s3) (by omega) (by omega)).mpr h)
                            refine lv_iconst (v := 1) hx hb dL_areClocksSo_376 (by decide) ?_
                            refine lv_goto (tgt := 381) hx hb dL_areClocksSo_377 (by decide) ?_
                            refine lv_istore (lv' := [(5, .int 1), (4, .int (wv + ((C 0) (12 + 8 * ci + 7)))), (3, .int (nI (cN + 1))), (2, .int (nI (oN + 0))), (1, .int sv), (10, .int 0), (9, .int 0), (8, .int (o2i (ladF (C 0) ci))), (7, .int (nI ru)), (6, .int (nI ci)), (0, .ref (ad 0))]) hx hb dL_areClocksSo_381 hl (by decide) rfl (fun ls hl => ?_)
                            refine lv_iinc (v := nI (ci + 1)) (lv' := [(6, .int (nI (ci + 1))), (5, .int 1), (4, .int (wv + ((C 0) (12 + 8 * ci + 7)))), (3, .int (nI (cN + 1))), (2, .int (nI (oN + 0))), (1, .int sv), (10, .int 0), (9, .int 0), (8, .int (o2i (ladF (C 0) ci))), (7, .int (nI ru)), (0, .ref (ad 0))]) hx hb dL_areClocksSo_383 hl (k := 9) rfl (by rw [show Int32.ofInt 1 = nI 1 from rfl, nI_add]) (by decide) rfl (fun ls hl => ?_)
                            refine lv_goto (tgt := 46) hx hb dL_areClocksSo_386 (by decide) ?_
                            exact ih (ci + 1) sv (oN + 0) (cN + 1) (wv + ((C 0) (12 + 8 * ci + 7))) (by omega) (by omega) (by rw [hs]; show _ = (if _ then _ else _); rw [hg, if_neg (by decide)]) (by rw [ho]; show _ = (if _ then _ else _); rw [hoff, if_neg (by decide)]; all_goals rfl) (by rw [hk9]; show _ = (if _ then _ else _); rw [hcan, if_neg (by decide)]; all_goals rfl) (by rw [hw]; rfl) _ _ _ hI (lv_sub hl [0, 1, 2, 3, 4, 5, 10] rfl)
                      · skip
                        refine lv_iload_n hx hb dL_areClocksSo_200 rfl (lv_at hl 9 rfl) ?_
                        refine lv_aload_n hx hb dL_areClocksSo_201 rfl (lv_at hl 10 rfl) ?_
                        refine lv_iload hx hb dL_areClocksSo_202 (lv_at hl 4 rfl) ?_
                        refine lv_bipush (v := 6) hx hb dL_areClocksSo_204 (by decide) ?_
                        refine c_calli (As := [.int (nI ci), .int 6]) (rest := [.int sv]) hx hb hml hown hts hK hX hI 0 (by omega) cE_0 rfl (k_X5_of l dd g ad pi A hA C hIN.W hIN.g hIN.Ld (nI ci) 6) (cwV 2 hts gL_areClocksSo_X5_of rfl rfl rfl (by decide +kernel) ⟨Nat.le_of_ble_eq_true rfl, Nat.le_of_ble_eq_true rfl⟩) rfl hl (Nat.le_of_ble_eq_true rfl) ⟨Nat.zero_le _, Nat.zero_le _⟩ dL_areClocksSo_206 rfl (fun r C1 pi1 H locs h44 hI => ?_)
                        obtain ⟨hr9, hc9, hp9⟩ := h44
                        rw [hc9, hp9] at hI
                        rw [q_o6 hW hc] at hr9
                        rw [hg] at hr9
                        subst hr9
                        refine lv_if_ne (tgt := 219) hx hb dL_areClocksSo_209 (by decide) (fun c45 => absurd (by decide) c45) (fun _ => ?_)
                        refine lv_iconst (v := 1) hx hb dL_areClocksSo_212 (by decide) ?_
                        refine lv_iload hx hb dL_areClocksSo_213 (lv_at hl 4 rfl) ?_
                        refine lv_ishl hx hb dL_areClocksSo_215 ?_
                        refine lv_goto (tgt := 220) hx hb dL_areClocksSo_216 (by decide) ?_
                        refine lv_ior hx hb dL_areClocksSo_220 ?_
                        refine lv_istore_n (lv' := [(1, .int (sv ||| (1 <<< ((nI ci) &&& 31)))), (10, .int 0), (9, .int 0), (8, .int (o2i (ladF (C 0) ci))), (7, .int (nI ru)), (6, .int (nI ci)), (5, .int 1), (4, .int wv), (3, .int (nI cN)), (2, .int (nI oN)), (0, .ref (ad 0))]) hx hb dL_areClocksSo_221 rfl hl (by decide) rfl (fun ls hl => ?_)
                        refine lv_iload_n hx hb dL_areClocksSo_222 rfl (lv_at hl 9 rfl) ?_
                        refine lv_iload hx hb dL_areClocksSo_223 (lv_at hl 1 rfl) ?_
                        refine lv_if_eq (tgt := 232) hx hb dL_areClocksSo_225 (by decide) (fun _ => ?_) (fun c46 => absurd (by decide) c46)
                        refine lv_iconst (v := 0) hx hb dL_areClocksSo_232 (by decide) ?_
                        refine lv_iadd hx hb dL_areClocksSo_233 ?_
                        refine lv_re (y := nI (oN + 0)) (nI_add (oN) (0)) ?_
                        refine lv_istore_n (lv' := [(2, .int (nI (oN + 0))), (1, .int (sv ||| (1 <<< ((nI ci) &&& 31)))), (10, .int 0), (9, .int 0), (8, .int (o2i (ladF (C 0) ci))), (7, .int (nI ru)), (6, .int (nI ci)), (5, .int 1), (4, .int wv), (3, .int (nI cN)), (0, .ref (ad 0))]) hx hb dL_areClocksSo_234 rfl hl (by decide) rfl (fun ls hl => ?_)
                        refine lv_iload_n hx hb dL_areClocksSo_235 rfl (lv_at hl 9 rfl) ?_
                        refine lv_iload hx hb dL_areClocksSo_236 (lv_at hl 3 rfl) ?_
                        refine lv_if_eq (tgt := 245) hx hb dL_areClocksSo_238 (by decide) (fun _ => ?_) (fun c47 => absurd (by decide) c47)
                        refine lv_iconst (v := 1) hx hb dL_areClocksSo_245 (by decide) ?_
                        refine lv_iadd hx hb dL_areClocksSo_246 ?_
                        refine lv_re (y := nI (cN + 1)) (nI_add (cN) (1)) ?_
                        refine lv_istore_n (lv' := [(3, .int (nI (cN + 1))), (2, .int (nI (oN + 0))), (1, .int (sv ||| (1 <<< ((nI ci) &&& 31)))), (10, .int 0), (9, .int 0), (8, .int (o2i (ladF (C 0) ci))), (7, .int (nI ru)), (6, .int (nI ci)), (5, .int 1), (4, .int wv), (0, .ref (ad 0))]) hx hb dL_areClocksSo_247 rfl hl (by decide) rfl (fun ls hl => ?_)
                        refine lv_iload hx hb dL_areClocksSo_248 (lv_at hl 9 rfl) ?_
                        refine lv_aload_n hx hb dL_areClocksSo_250 rfl (lv_at hl 10 rfl) ?_
                        refine lv_iload hx hb dL_areClocksSo_251 (lv_at hl 7 rfl) ?_
                        refine lv_bipush (v := 10) hx hb dL_areClocksSo_253 (by decide) ?_
                        refine c_calli (As := [.int (nI ci), .int 10]) (rest := [.int wv]) hx hb hml hown hts hK hX hI 0 (by omega) cE_0 rfl (k_X5_of l dd g ad pi A hA C hIN.W hIN.g hIN.Ld (nI ci) 10) (cwV 2 hts gL_areClocksSo_X5_of rfl rfl rfl (by decide +kernel) ⟨Nat.le_of_ble_eq_true rfl, Nat.le_of_ble_eq_true rfl⟩) rfl hl (Nat.le_of_ble_eq_true rfl) ⟨Nat.zero_le _, Nat.zero_le _⟩ dL_areClocksSo_255 rfl (fun r C1 pi1 H locs h48 hI => ?_)
                        obtain ⟨hr9, hc9, hp9⟩ := h48
                        rw [hc9, hp9] at hI
                        rw [q_o10 hW hc] at hr9
                        subst hr9
                        refine lv_iadd hx hb dL_areClocksSo_258 ?_
                        refine lv_istore (lv' := [(4, .int (wv + ((C 0) (12 + 8 * ci + 7)))), (3, .int (nI (cN + 1))), (2, .int (nI (oN + 0))), (1, .int (sv ||| (1 <<< ((nI ci) &&& 31)))), (10, .int 0), (9, .int 0), (8, .int (o2i (ladF (C 0) ci))), (7, .int (nI ru)), (6, .int (nI ci)), (5, .int 1), (0, .ref (ad 0))]) hx hb dL_areClocksSo_259 hl (by decide) rfl (fun ls hl => ?_)
                        refine lv_iload hx hb dL_areClocksSo_261 (lv_at hl 9 rfl) ?_
                        refine lv_if_eq (tgt := 380) hx hb dL_areClocksSo_263 (by decide) (fun c49 => absurd c49 (by decide)) (fun _ => ?_)
                        refine lv_aload_n hx hb dL_areClocksSo_266 rfl (lv_at hl 10 rfl) ?_
                        refine lv_iload hx hb dL_areClocksSo_267 (lv_at hl 8 rfl) ?_
                        refine lv_bipush (v := 8) hx hb dL_areClocksSo_269 (by decide) ?_
                        refine c_calli (As := [.int (nI ci), .int 8]) (rest := []) hx hb hml hown hts hK hX hI 0 (by omega) cE_0 rfl (k_X5_of l dd g ad pi A hA C hIN.W hIN.g hIN.Ld (nI ci) 8) (cwV 2 hts gL_areClocksSo_X5_of rfl rfl rfl (by decide +kernel) ⟨Nat.le_of_ble_eq_true rfl, Nat.le_of_ble_eq_true rfl⟩) rfl hl (Nat.le_of_ble_eq_true rfl) ⟨Nat.zero_le _, Nat.zero_le _⟩ dL_areClocksSo_271 rfl (fun r C1 pi1 H locs h50 hI => ?_)
                        obtain ⟨hr9, hc9, hp9⟩ := h50
                        rw [hc9, hp9] at hI
                        rw [q_o8 hW hc] at hr9
                        subst hr9
                        refine lv_iload hx hb dL_areClocksSo_274 (lv_at hl 6 rfl) ?_
                        refine lv_icmp_ne (tgt := 380) hx hb dL_areClocksSo_276 (by decide) (fun c51 => absurd rfl c51) (fun _ => ?_)
                        refine lv_aload_n hx hb dL_areClocksSo_279 rfl (lv_at hl 10 rfl) ?_
                        refine lv_iload hx hb dL_areClocksSo_280 (lv_at hl 8 rfl) ?_
                        refine lv_bipush (v := 9) hx hb dL_areClocksSo_282 (by decide) ?_
                        refine c_calli (As := [.int (nI ci), .int 9]) (rest := []) hx hb hml hown hts hK hX hI 0 (by omega) cE_0 rfl (k_X5_of l dd g ad pi A hA C hIN.W hIN.g hIN.Ld (nI ci) 9) (cwV 2 hts gL_areClocksSo_X5_of rfl rfl rfl (by decide +kernel) ⟨Nat.le_of_ble_eq_true rfl, Nat.le_of_ble_eq_true rfl⟩) rfl hl (Nat.le_of_ble_eq_true rfl) ⟨Nat.zero_le _, Nat.zero_le _⟩ dL_areClocksSo_284 rfl (fun r C1 pi1 H locs h52 hI => ?_)
                        obtain ⟨hr9, hc9, hp9⟩ := h52
                        rw [hc9, hp9] at hI
                        rw [q_o9f hW hc hcan] at hr9
                        subst hr9
                        refine lv_iconst (v := 1) hx hb dL_areClocksSo_287 (by decide) ?_
                        refine lv_icmp_ne (tgt := 295) hx hb dL_areClocksSo_288 (by decide) (fun _ => ?_) (fun c53 => absurd c53 (by decide))
                        refine lv_iconst (v := 0) hx hb dL_areClocksSo_295 (by decide) ?_
                        refine lv_iload hx hb dL_areClocksSo_296 (lv_at hl 5 rfl) ?_
                        refine lv_icmp_ne (tgt := 380) hx hb dL_areClocksSo_298 (by decide) (fun c54 => absurd (by decide) c54) (fun _ => ?_)
                        refine lv_aload_n hx hb dL_areClocksSo_301 rfl (lv_at hl 10 rfl) ?_
                        refine lv_iload hx hb dL_areClocksSo_302 (lv_at hl 8 rfl) ?_
                        refine lv_bipush (v := 7) hx hb dL_areClocksSo_304 (by decide) ?_
                        refine c_calli (As := [.int (nI ci), .int 7]) (rest := []) hx hb hml hown hts hK hX hI 0 (by omega) cE_0 rfl (k_X5_of l dd g ad pi A hA C hIN.W hIN.g hIN.Ld (nI ci) 7) (cwV 2 hts gL_areClocksSo_X5_of rfl rfl rfl (by decide +kernel) ⟨Nat.le_of_ble_eq_true rfl, Nat.le_of_ble_eq_true rfl⟩) rfl hl (Nat.le_of_ble_eq_true rfl) ⟨Nat.zero_le _, Nat.zero_le _⟩ dL_areClocksSo_306 rfl (fun r C1 pi1 H locs h55 hI => ?_)
                        obtain ⟨hr9, hc9, hp9⟩ := h55
                        rw [hc9, hp9] at hI
                        rw [q_o7f hW hc hoff] at hr9
                        subst hr9
                        refine lv_iconst (v := 1) hx hb dL_areClocksSo_309 (by decide) ?_
                        refine lv_icmp_ne (tgt := 317) hx hb dL_areClocksSo_310 (by decide) (fun c56 => absurd (by decide) c56) (fun _ => ?_)
                        refine lv_iconst (v := 1) hx hb dL_areClocksSo_313 (by decide) ?_
                        refine lv_goto (tgt := 318) hx hb dL_areClocksSo_314 (by decide) ?_
                        refine lv_iload hx hb dL_areClocksSo_318 (lv_at hl 4 rfl) ?_
                        refine lv_if_ne (tgt := 327) hx hb dL_areClocksSo_320 (by decide) (fun c57 => absurd (by decide) c57) (fun _ => ?_)
                        refine lv_iconst (v := 1) hx hb dL_areClocksSo_323 (by decide) ?_
                        refine lv_goto (tgt := 328) hx hb dL_areClocksSo_324 (by decide) ?_
                        refine lv_icmp_ne (tgt := 380) hx hb dL_areClocksSo_328 (by decide) (fun c58 => absurd (by decide) c58) (fun _ => ?_)
                        refine lv_aload_n hx hb dL_areClocksSo_331 rfl (lv_at hl 10 rfl) ?_
                        refine lv_iload hx hb dL_areClocksSo_332 (lv_at hl 8 rfl) ?_
                        refine lv_bipush (v := 6) hx hb dL_areClocksSo_334 (by decide) ?_
                        refine c_calli (As := [.int (nI ci), .int 6]) (rest := []) hx hb hml hown hts hK hX hI 0 (by omega) cE_0 rfl (k_X5_of l dd g ad pi A hA C hIN.W hIN.g hIN.Ld (nI ci) 6) (cwV 2 hts gL_areClocksSo_X5_of rfl rfl rfl (by decide +kernel) ⟨Nat.le_of_ble_eq_true rfl, Nat.le_of_ble_eq_true rfl⟩) rfl hl (Nat.le_of_ble_eq_true rfl) ⟨Nat.zero_le _, Nat.zero_le _⟩ dL_areClocksSo_336 rfl (fun r C1 pi1 H locs h59 hI => ?_)
                        obtain ⟨hr9, hc9, hp9⟩ := h59
                        rw [hc9, hp9] at hI
                        rw [q_o6 hW hc] at hr9
                        rw [hg] at hr9
                        subst hr9
                        refine lv_iconst (v := 1) hx hb dL_areClocksSo_339 (by decide) ?_
                        refine lv_icmp_eq (tgt := 354) hx hb dL_areClocksSo_340 (by decide) (fun c60 => absurd c60 (by decide)) (fun _ => ?_)
                        refine lv_aload_n hx hb dL_areClocksSo_343 rfl (lv_at hl 10 rfl) ?_
                        refine lv_iload hx hb dL_areClocksSo_344 (lv_at hl 8 rfl) ?_
                        refine c_callC (As := [.ref (ad 0), .int (nI ci)]) (rest := []) hx hb hml hown hts hK hX hI (k_L_off l dd g ad pi A hA C hIN.W hIN.g hIN.Ld ci hc) (va_cwS 2 hts gL_areClocksSo_L_off rfl rfl rfl (by decide +kernel) ⟨Nat.le_of_ble_eq_true rfl, Nat.le_of_ble_eq_true rfl⟩) rfl hl (Nat.le_of_ble_eq_true rfl) ⟨Nat.zero_le _, Nat.zero_le _⟩ dL_areClocksSo_346 rfl (fun r C1 pi1 H locs h61 hI => ?_)
                        obtain ⟨hr9, hc9, hp9⟩ := h61
                        rw [hc9, hp9] at hI
                        rw [hg4] at hr9
                        subst hr9
                        refine lv_ldc hx hb hown (hts (.constant RL 54 (43200)) (by decide +kernel)) dL_areClocksSo_349 ?_
                        refine lv_icmp_ne (tgt := 380) hx hb dL_areClocksSo_351 (by decide) (fun c62 => absurd (by decide) c62) (fun _ => ?_)
                        refine lv_aload_n hx hb dL_areClocksSo_354 rfl (lv_at hl 10 rfl) ?_
                        refine lv_iload hx hb dL_areClocksSo_355 (lv_at hl 8 rfl) ?_
                        refine lv_iconst (v := 3) hx hb dL_areClocksSo_357 (by decide) ?_
                        refine c_calli (As := [.int (nI ci), .int 3]) (rest := []) hx hb hml hown hts hK hX hI 0 (by omega) cE_0 rfl (k_X5_of l dd g ad pi A hA C hIN.W hIN.g hIN.Ld (nI ci) 3) (cwV 2 hts gL_areClocksSo_X5_of rfl rfl rfl (by decide +kernel) ⟨Nat.le_of_ble_eq_true rfl, Nat.le_of_ble_eq_true rfl⟩) rfl hl (Nat.le_of_ble_eq_true rfl) ⟨Nat.zero_le _, Nat.zero_le _⟩ dL_areClocksSo_358 rfl (fun r C1 pi1 H locs h63 hI => ?_)
                        obtain ⟨hr9, hc9, hp9⟩ := h63
                        rw [hc9, hp9] at hI
                        rw [q_o3 hW hc] at hr9
                        rw [es3] at hr9
                        subst hr9
                        refine lv_if_lt (tgt := 380) hx hb dL_areClocksSo_361 (by decide) (fun c64 => ?_) (fun c64 => ?_)
                        · skip
                          have nc64 : s3 < 0 := (nI_ltI (a := s3) (b := 0) (by omega) (by omega)).mp c64
                          exact absurd nc64 (by omega)
                        · skip
                          have nc64 : ¬ (s3 < 0) := fun h => c64 ((nI_ltI (a := s3) (b := 0) (by omega) (by omega)).mpr h)
                          refine lv_aload_n hx hb dL_areClocksSo_364 rfl (lv_at hl 10 rfl) ?_
                          refine lv_iload hx hb dL_areClocksSo_365 (lv_at hl 8 rfl) ?_
                          refine lv_iconst (v := 3) hx hb dL_areClocksSo_367 (by decide) ?_
                          refine c_calli (As := [.int (nI ci), .int 3]) (rest := []) hx hb hml hown hts hK hX hI 0 (by omega) cE_0 rfl (k_X5_of l dd g ad pi A hA C hIN.W hIN.g hIN.Ld (nI ci) 3) (cwV 2 hts gL_areClocksSo_X5_of rfl rfl rfl (by decide +kernel) ⟨Nat.le_of_ble_eq_true rfl, Nat.le_of_ble_eq_true rfl⟩) rfl hl (Nat.le_of_ble_eq_true rfl) ⟨Nat.zero_le _, Nat.zero_le _⟩ dL_areClocksSo_368 rfl (fun r C1 pi1 H locs h65 hI => ?_)
                          obtain ⟨hr9, hc9, hp9⟩ := h65
                          rw [hc9, hp9] at hI
                          rw [q_o3 hW hc] at hr9
                          rw [es3] at hr9
                          subst hr9
                          refine lv_bipush (v := 40) hx hb dL_areClocksSo_371 (by decide) ?_
                          refine lv_icmp_gt (tgt := 380) hx hb dL_areClocksSo_373 (by decide) (fun c66 => ?_) (fun c66 => ?_)
                          · skip
                            have nc66 : 40 < s3 := (nI_ltI (a := 40) (b := s3) (by omega) (by omega)).mp c66
                            exact absurd nc66 (by omega)
                          · skip
                            have nc66 : ¬ (40 < s3) := fun h => c66 ((nI_ltI (a := 40) (b := s3) (by omega) (by omega)).mpr h)
                            refine lv_iconst (v := 1) hx hb dL_areClocksSo_376 (by decide) ?_
                            refine lv_goto (tgt := 381) hx hb dL_areClocksSo_377 (by decide) ?_
                            refine lv_istore (lv' := [(5, .int 1), (4, .int (wv + ((C 0) (12 + 8 * ci + 7)))), (3, .int (nI (cN + 1))), (2, .int (nI (oN + 0))), (1, .int (sv ||| (1 <<< ((nI ci) &&& 31)))), (10, .int 0), (9, .int 0), (8, .int (o2i (ladF (C 0) ci))), (7, .int (nI ru)), (6, .int (nI ci)), (0, .ref (ad 0))]) hx hb dL_areClocksSo_381 hl (by decide) rfl (fun ls hl => ?_)
                            refine lv_iinc (v := nI (ci + 1)) (lv' := [(6, .int (nI (ci + 1))), (5, .int 1), (4, .int (wv + ((C 0) (12 + 8 * ci + 7)))), (3, .int (nI (cN + 1))), (2, .int (nI (oN + 0))), (1, .int (sv ||| (1 <<< ((nI ci) &&& 31)))), (10, .int 0), (9, .int 0), (8, .int (o2i (ladF (C 0) ci))), (7, .int (nI ru)), (0, .ref (ad 0))]) hx hb dL_areClocksSo_383 hl (k := 9) rfl (by rw [show Int32.ofInt 1 = nI 1 from rfl, nI_add]) (by decide) rfl (fun ls hl => ?_)
                            refine lv_goto (tgt := 46) hx hb dL_areClocksSo_386 (by decide) ?_
                            exact ih (ci + 1) (sv ||| (1 <<< ((nI ci) &&& 31))) (oN + 0) (cN + 1) (wv + ((C 0) (12 + 8 * ci + 7))) (by omega) (by omega) (by rw [hs]; show _ = (if _ then _ else _); rw [hg, if_pos rfl]) (by rw [ho]; show _ = (if _ then _ else _); rw [hoff, if_neg (by decide)]; all_goals rfl) (by rw [hk9]; show _ = (if _ then _ else _); rw [hcan, if_neg (by decide)]; all_goals rfl) (by rw [hw]; rfl) _ _ _ hI (lv_sub hl [0, 1, 2, 3, 4, 5, 10] rfl)
                    refine lv_aload_n hx hb dL_areClocksSo_162 rfl (lv_at hl 9 rfl) ?_
                    refine lv_iload hx hb dL_areClocksSo_163 (lv_at hl 3 rfl) ?_
                    refine c_callC (As := [.ref (ad 0), .int (nI ci)]) (rest := []) hx hb hml hown hts hK hX hI (k_L_off l dd g ad pi A hA C hIN.W hIN.g hIN.Ld ci hc) (va_cwS 2 hts gL_areClocksSo_L_off rfl rfl rfl (by decide +kernel) ⟨Nat.le_of_ble_eq_true rfl, Nat.le_of_ble_eq_true rfl⟩) rfl hl (Nat.le_of_ble_eq_true rfl) ⟨Nat.zero_le _, Nat.zero_le _⟩ dL_areClocksSo_165 rfl (fun r C1 pi1 H locs h67 hI => ?_)
                    obtain ⟨hr9, hc9, hp9⟩ := h67
                    rw [hc9, hp9] at hI
                    subst hr9
                    refine lv_aload_n hx hb dL_areClocksSo_168 rfl (lv_at hl 9 rfl) ?_
                    refine lv_bipush (v := 8) hx hb dL_areClocksSo_169 (by decide) ?_
                    refine c_calli (As := [.int 8]) (rest := [.int ((C 0) (12 + 8 * ci + 4))]) hx hb hml hown hts hK hX hI 0 (by omega) cE_0 rfl (k_X5_count l dd g ad pi A hA C hIN.W hIN.g hIN.Ld 8) (cwV 1 hts gL_areClocksSo_X5_count rfl rfl rfl (by decide +kernel) ⟨Nat.le_of_ble_eq_true rfl, Nat.le_of_ble_eq_true rfl⟩) rfl hl (Nat.le_of_ble_eq_true rfl) ⟨Nat.zero_le _, Nat.zero_le _⟩ dL_areClocksSo_171 rfl (fun r C1 pi1 H locs h68 hI => ?_)
                    obtain ⟨hr9, hc9, hp9⟩ := h68
                    rw [hc9, hp9] at hI
                    rw [q_c8] at hr9
                    subst hr9
                    refine lv_icmp_gt (tgt := 193) hx hb dL_areClocksSo_174 (by decide) (fun c69 => ?_) (fun c69 => ?_)
                    · skip
                      exact absurd (Or.inl c69) ho9
                    · skip
                      refine lv_aload_n hx hb dL_areClocksSo_177 rfl (lv_at hl 9 rfl) ?_
                      refine lv_iload hx hb dL_areClocksSo_178 (lv_at hl 3 rfl) ?_
                      refine c_callC (As := [.ref (ad 0), .int (nI ci)]) (rest := []) hx hb hml hown hts hK hX hI (k_L_off l dd g ad pi A hA C hIN.W hIN.g hIN.Ld ci hc) (va_cwS 2 hts gL_areClocksSo_L_off rfl rfl rfl (by decide +kernel) ⟨Nat.le_of_ble_eq_true rfl, Nat.le_of_ble_eq_true rfl⟩) rfl hl (Nat.le_of_ble_eq_true rfl) ⟨Nat.zero_le _, Nat.zero_le _⟩ dL_areClocksSo_180 rfl (fun r C1 pi1 H locs h70 hI => ?_)
                      obtain ⟨hr9, hc9, hp9⟩ := h70
                      rw [hc9, hp9] at hI
                      subst hr9
                      refine lv_aload_n hx hb dL_areClocksSo_183 rfl (lv_at hl 9 rfl) ?_
                      refine lv_bipush (v := 8) hx hb dL_areClocksSo_184 (by decide) ?_
                      refine c_calli (As := [.int 8]) (rest := [.int ((C 0) (12 + 8 * ci + 4))]) hx hb hml hown hts hK hX hI 0 (by omega) cE_0 rfl (k_X5_count l dd g ad pi A hA C hIN.W hIN.g hIN.Ld 8) (cwV 1 hts gL_areClocksSo_X5_count rfl rfl rfl (by decide +kernel) ⟨Nat.le_of_ble_eq_true rfl, Nat.le_of_ble_eq_true rfl⟩) rfl hl (Nat.le_of_ble_eq_true rfl) ⟨Nat.zero_le _, Nat.zero_le _⟩ dL_areClocksSo_186 rfl (fun r C1 pi1 H locs h71 hI => ?_)
                      obtain ⟨hr9, hc9, hp9⟩ := h71
                      rw [hc9, hp9] at hI
                      rw [q_c8] at hr9
                      subst hr9
                      refine lv_ineg hx hb dL_areClocksSo_189 ?_
                      refine lv_icmp_ge (tgt := 197) hx hb dL_areClocksSo_190 (by decide) (fun c72 => ?_) (fun c72 => ?_)
                      · skip
                        refine lv_iconst (v := 0) hx hb dL_areClocksSo_197 (by decide) ?_
                        exact J22 _ _ _ hI (lv_sub hl [0, 1, 2, 3, 4, 5, 6, 7, 8, 9] rfl)
                      · skip
                        exact absurd (Or.inr (Int32.not_le.mp c72)) ho9
                  · skip
                    have ho9 := (hIN.2.2.2.1.off hB hc).mp hoff
                    have J73 : ∀ (H : Heap) (locs : List Loc) (ls : Array Slot), cI dd g ad pi A s.heap H locs C → lv_has ls 11 [(9, .int 0), (8, .int (o2i (ladF (C 0) ci))), (7, .int (nI ru)), (6, .int (nI ci)), (5, .int 1), (4, .int wv), (3, .int (nI cN)), (2, .int (nI oN)), (1, .int sv), (0, .ref (ad 0))] → wk p l e wsL_areClocksSo { frames := 4, cells := 0, slots := 0, locals := 89 } s m [.ref (ad 0)] below meth c H locs (cQi dd g ad A (fun r C1 pi1 => r = 1 ∧ C1 = C ∧ pi1 = pi)) (A) (F0 m 198 ls [.int 1]) := by
                      intro H locs ls hI hl
                      refine lv_istore (lv' := [(10, .int 1), (9, .int 0), (8, .int (o2i (ladF (C 0) ci))), (7, .int (nI ru)), (6, .int (nI ci)), (5, .int 1), (4, .int wv), (3, .int (nI cN)), (2, .int (nI oN)), (1, .int sv), (0, .ref (ad 0))]) hx hb dL_areClocksSo_198 hl (by decide) rfl (fun ls hl => ?_)
                      rcases cl_go hV hc with hg | ⟨hg, hg4⟩
                      · skip
                        refine lv_iload_n hx hb dL_areClocksSo_200 rfl (lv_at hl 9 rfl) ?_
                        refine lv_aload_n hx hb dL_areClocksSo_201 rfl (lv_at hl 10 rfl) ?_
                        refine lv_iload hx hb dL_areClocksSo_202 (lv_at hl 4 rfl) ?_
                        refine lv_bipush (v := 6) hx hb dL_areClocksSo_204 (by decide) ?_
                        refine c_calli (As := [.int (nI ci), .int 6]) (rest := [.int sv]) hx hb hml hown hts hK hX hI 0 (by omega) cE_0 rfl (k_X5_of l dd g ad pi A hA C hIN.W hIN.g hIN.Ld (nI ci) 6) (cwV 2 hts gL_areClocksSo_X5_of rfl rfl rfl (by decide +kernel) ⟨Nat.le_of_ble_eq_true rfl, Nat.le_of_ble_eq_true rfl⟩) rfl hl (Nat.le_of_ble_eq_true rfl) ⟨Nat.zero_le _, Nat.zero_le _⟩ dL_areClocksSo_206 rfl (fun r C1 pi1 H locs h74 hI => ?_)
                        obtain ⟨hr9, hc9, hp9⟩ := h74
                        rw [hc9, hp9] at hI
                        rw [q_o6 hW hc] at hr9
                        rw [hg] at hr9
                        subst hr9
                        refine lv_if_ne (tgt := 219) hx hb dL_areClocksSo_209 (by decide) (fun _ => ?_) (fun c75 => absurd c75 (by decide))
                        refine lv_iconst (v := 0) hx hb dL_areClocksSo_219 (by decide) ?_
                        refine lv_ior hx hb dL_areClocksSo_220 ?_
                        refine lv_re (y := sv) (Int32.or_zero) ?_
                        refine lv_istore_n (lv' := [(1, .int sv), (10, .int 1), (9, .int 0), (8, .int (o2i (ladF (C 0) ci))), (7, .int (nI ru)), (6, .int (nI ci)), (5, .int 1), (4, .int wv), (3, .int (nI cN)), (2, .int (nI oN)), (0, .ref (ad 0))]) hx hb dL_areClocksSo_221 rfl hl (by decide) rfl (fun ls hl => ?_)
                        refine lv_iload_n hx hb dL_areClocksSo_222 rfl (lv_at hl 9 rfl) ?_
                        refine lv_iload hx hb dL_areClocksSo_223 (lv_at hl 1 rfl) ?_
                        refine lv_if_eq (tgt := 232) hx hb dL_areClocksSo_225 (by decide) (fun c76 => absurd c76 (by decide)) (fun _ => ?_)
                        refine lv_iconst (v := 1) hx hb dL_areClocksSo_228 (by decide) ?_
                        refine lv_goto (tgt := 233) hx hb dL_areClocksSo_229 (by decide) ?_
                        refine lv_iadd hx hb dL_areClocksSo_233 ?_
                        refine lv_re (y := nI (oN + 1)) (nI_add (oN) (1)) ?_
                        refine lv_istore_n (lv' := [(2, .int (nI (oN + 1))), (1, .int sv), (10, .int 1), (9, .int 0), (8, .int (o2i (ladF (C 0) ci))), (7, .int (nI ru)), (6, .int (nI ci)), (5, .int 1), (4, .int wv), (3, .int (nI cN)), (0, .ref (ad 0))]) hx hb dL_areClocksSo_234 rfl hl (by decide) rfl (fun ls hl => ?_)
                        refine lv_iload_n hx hb dL_areClocksSo_235 rfl (lv_at hl 9 rfl) ?_
                        refine lv_iload hx hb dL_areClocksSo_236 (lv_at hl 3 rfl) ?_
                        refine lv_if_eq (tgt := 245) hx hb dL_areClocksSo_238 (by decide) (fun _ => ?_) (fun c77 => absurd (by decide) c77)
                        refine lv_iconst (v := 1) hx hb dL_areClocksSo_245 (by decide) ?_
                        refine lv_iadd hx hb dL_areClocksSo_246 ?_
                        refine lv_re (y := nI (cN + 1)) (nI_add (cN) (1)) ?_
                        refine lv_istore_n (lv' := [(3, .int (nI (cN + 1))), (2, .int (nI (oN + 1))), (1, .int sv), (10, .int 1), (9, .int 0), (8, .int (o2i (ladF (C 0) ci))), (7, .int (nI ru)), (6, .int (nI ci)), (5, .int 1), (4, .int wv), (0, .ref (ad 0))]) hx hb dL_areClocksSo_247 rfl hl (by decide) rfl (fun ls hl => ?_)
                        refine lv_iload hx hb dL_areClocksSo_248 (lv_at hl 9 rfl) ?_
                        refine lv_aload_n hx hb dL_areClocksSo_250 rfl (lv_at hl 10 rfl) ?_
                        refine lv_iload hx hb dL_areClocksSo_251 (lv_at hl 7 rfl) ?_
                        refine lv_bipush (v := 10) hx hb dL_areClocksSo_253 (by decide) ?_
                        refine c_calli (As := [.int (nI ci), .int 10]) (rest := [.int wv]) hx hb hml hown hts hK hX hI 0 (by omega) cE_0 rfl (k_X5_of l dd g ad pi A hA C hIN.W hIN.g hIN.Ld (nI ci) 10) (cwV 2 hts gL_areClocksSo_X5_of rfl rfl rfl (by decide +kernel) ⟨Nat.le_of_ble_eq_true rfl, Nat.le_of_ble_eq_true rfl⟩) rfl hl (Nat.le_of_ble_eq_true rfl) ⟨Nat.zero_le _, Nat.zero_le _⟩ dL_areClocksSo_255 rfl (fun r C1 pi1 H locs h78 hI => ?_)
                        obtain ⟨hr9, hc9, hp9⟩ := h78
                        rw [hc9, hp9] at hI
                        rw [q_o10 hW hc] at hr9
                        subst hr9
                        refine lv_iadd hx hb dL_areClocksSo_258 ?_
                        refine lv_istore (lv' := [(4, .int (wv + ((C 0) (12 + 8 * ci + 7)))), (3, .int (nI (cN + 1))), (2, .int (nI (oN + 1))), (1, .int sv), (10, .int 1), (9, .int 0), (8, .int (o2i (ladF (C 0) ci))), (7, .int (nI ru)), (6, .int (nI ci)), (5, .int 1), (0, .ref (ad 0))]) hx hb dL_areClocksSo_259 hl (by decide) rfl (fun ls hl => ?_)
                        refine lv_iload hx hb dL_areClocksSo_261 (lv_at hl 9 rfl) ?_
                        refine lv_if_eq (tgt := 380) hx hb dL_areClocksSo_263 (by decide) (fun c79 => absurd c79 (by decide)) (fun _ => ?_)
                        refine lv_aload_n hx hb dL_areClocksSo_266 rfl (lv_at hl 10 rfl) ?_
                        refine lv_iload hx hb dL_areClocksSo_267 (lv_at hl 8 rfl) ?_
                        refine lv_bipush (v := 8) hx hb dL_areClocksSo_269 (by decide) ?_
                        refine c_calli (As := [.int (nI ci), .int 8]) (rest := []) hx hb hml hown hts hK hX hI 0 (by omega) cE_0 rfl (k_X5_of l dd g ad pi A hA C hIN.W hIN.g hIN.Ld (nI ci) 8) (cwV 2 hts gL_areClocksSo_X5_of rfl rfl rfl (by decide +kernel) ⟨Nat.le_of_ble_eq_true rfl, Nat.le_of_ble_eq_true rfl⟩) rfl hl (Nat.le_of_ble_eq_true rfl) ⟨Nat.zero_le _, Nat.zero_le _⟩ dL_areClocksSo_271 rfl (fun r C1 pi1 H locs h80 hI => ?_)
                        obtain ⟨hr9, hc9, hp9⟩ := h80
                        rw [hc9, hp9] at hI
                        rw [q_o8 hW hc] at hr9
                        subst hr9
                        refine lv_iload hx hb dL_areClocksSo_274 (lv_at hl 6 rfl) ?_
                        refine lv_icmp_ne (tgt := 380) hx hb dL_areClocksSo_276 (by decide) (fun c81 => absurd rfl c81) (fun _ => ?_)
                        refine lv_aload_n hx hb dL_areClocksSo_279 rfl (lv_at hl 10 rfl) ?_
                        refine lv_iload hx hb dL_areClocksSo_280 (lv_at hl 8 rfl) ?_
                        refine lv_bipush (v := 9) hx hb dL_areClocksSo_282 (by decide) ?_
                        refine c_calli (As := [.int (nI ci), .int 9]) (rest := []) hx hb hml hown hts hK hX hI 0 (by omega) cE_0 rfl (k_X5_of l dd g ad pi A hA C hIN.W hIN.g hIN.Ld (nI ci) 9) (cwV 2 hts gL_areClocksSo_X5_of rfl rfl rfl (by decide +kernel) ⟨Nat.le_of_ble_eq_true rfl, Nat.le_of_ble_eq_true rfl⟩) rfl hl (Nat.le_of_ble_eq_true rfl) ⟨Nat.zero_le _, Nat.zero_le _⟩ dL_areClocksSo_284 rfl (fun r C1 pi1 H locs h82 hI => ?_)
                        obtain ⟨hr9, hc9, hp9⟩ := h82
                        rw [hc9, hp9] at hI
                        rw [q_o9f hW hc hcan] at hr9
                        subst hr9
                        refine lv_iconst (v := 1) hx hb dL_areClocksSo_287 (by decide) ?_
                        refine lv_icmp_ne (tgt := 295) hx hb dL_areClocksSo_288 (by decide) (fun _ => ?_) (fun c83 => absurd c83 (by decide))
                        refine lv_iconst (v := 0) hx hb dL_areClocksSo_295 (by decide) ?_
                        refine lv_iload hx hb dL_areClocksSo_296 (lv_at hl 5 rfl) ?_
                        refine lv_icmp_ne (tgt := 380) hx hb dL_areClocksSo_298 (by decide) (fun c84 => absurd (by decide) c84) (fun _ => ?_)
                        refine lv_aload_n hx hb dL_areClocksSo_301 rfl (lv_at hl 10 rfl) ?_
                        refine lv_iload hx hb dL_areClocksSo_302 (lv_at hl 8 rfl) ?_
                        refine lv_bipush (v := 7) hx hb dL_areClocksSo_304 (by decide) ?_
                        refine c_calli (As := [.int (nI ci), .int 7]) (rest := []) hx hb hml hown hts hK hX hI 0 (by omega) cE_0 rfl (k_X5_of l dd g ad pi A hA C hIN.W hIN.g hIN.Ld (nI ci) 7) (cwV 2 hts gL_areClocksSo_X5_of rfl rfl rfl (by decide +kernel) ⟨Nat.le_of_ble_eq_true rfl, Nat.le_of_ble_eq_true rfl⟩) rfl hl (Nat.le_of_ble_eq_true rfl) ⟨Nat.zero_le _, Nat.zero_le _⟩ dL_areClocksSo_306 rfl (fun r C1 pi1 H locs h85 hI => ?_)
                        obtain ⟨hr9, hc9, hp9⟩ := h85
                        rw [hc9, hp9] at hI
                        rw [q_o7t hW hc hoff] at hr9
                        subst hr9
                        refine lv_iconst (v := 1) hx hb dL_areClocksSo_309 (by decide) ?_
                        refine lv_icmp_ne (tgt := 317) hx hb dL_areClocksSo_310 (by decide) (fun _ => ?_) (fun c86 => absurd c86 (by decide))
                        refine lv_iconst (v := 0) hx hb dL_areClocksSo_317 (by decide) ?_
                        refine lv_iload hx hb dL_areClocksSo_318 (lv_at hl 4 rfl) ?_
                        refine lv_if_ne (tgt := 327) hx hb dL_areClocksSo_320 (by decide) (fun _ => ?_) (fun c87 => absurd c87 (by decide))
                        refine lv_iconst (v := 0) hx hb dL_areClocksSo_327 (by decide) ?_
                        refine lv_icmp_ne (tgt := 380) hx hb dL_areClocksSo_328 (by decide) (fun c88 => absurd (by decide) c88) (fun _ => ?_)
                        refine lv_aload_n hx hb dL_areClocksSo_331 rfl (lv_at hl 10 rfl) ?_
                        refine lv_iload hx hb dL_areClocksSo_332 (lv_at hl 8 rfl) ?_
                        refine lv_bipush (v := 6) hx hb dL_areClocksSo_334 (by decide) ?_
                        refine c_calli (As := [.int (nI ci), .int 6]) (rest := []) hx hb hml hown hts hK hX hI 0 (by omega) cE_0 rfl (k_X5_of l dd g ad pi A hA C hIN.W hIN.g hIN.Ld (nI ci) 6) (cwV 2 hts gL_areClocksSo_X5_of rfl rfl rfl (by decide +kernel) ⟨Nat.le_of_ble_eq_true rfl, Nat.le_of_ble_eq_true rfl⟩) rfl hl (Nat.le_of_ble_eq_true rfl) ⟨Nat.zero_le _, Nat.zero_le _⟩ dL_areClocksSo_336 rfl (fun r C1 pi1 H locs h89 hI => ?_)
                        obtain ⟨hr9, hc9, hp9⟩ := h89
                        rw [hc9, hp9] at hI
                        rw [q_o6 hW hc] at hr9
                        rw [hg] at hr9
                        subst hr9
                        refine lv_iconst (v := 1) hx hb dL_areClocksSo_339 (by decide) ?_
                        refine lv_icmp_eq (tgt := 354) hx hb dL_areClocksSo_340 (by decide) (fun _ => ?_) (fun c90 => absurd (by decide) c90)
                        refine lv_aload_n hx hb dL_areClocksSo_354 rfl (lv_at hl 10 rfl) ?_
                        refine lv_iload hx hb dL_areClocksSo_355 (lv_at hl 8 rfl) ?_
                        refine lv_iconst (v := 3) hx hb dL_areClocksSo_357 (by decide) ?_
                        refine c_calli (As := [.int (nI ci), .int 3]) (rest := []) hx hb hml hown hts hK hX hI 0 (by omega) cE_0 rfl (k_X5_of l dd g ad pi A hA C hIN.W hIN.g hIN.Ld (nI ci) 3) (cwV 2 hts gL_areClocksSo_X5_of rfl rfl rfl (by decide +kernel) ⟨Nat.le_of_ble_eq_true rfl, Nat.le_of_ble_eq_true rfl⟩) rfl hl (Nat.le_of_ble_eq_true rfl) ⟨Nat.zero_le _, Nat.zero_le _⟩ dL_areClocksSo_358 rfl (fun r C1 pi1 H locs h91 hI => ?_)
                        obtain ⟨hr9, hc9, hp9⟩ := h91
                        rw [hc9, hp9] at hI
                        rw [q_o3 hW hc] at hr9
                        rw [es3] at hr9
                        subst hr9
                        refine lv_if_lt (tgt := 380) hx hb dL_areClocksSo_361 (by decide) (fun c92 => ?_) (fun c92 => ?_)
                        · skip
                          have nc92 : s3 < 0 := (nI_ltI (a := s3) (b := 0) (by omega) (by omega)).mp c92
                          exact absurd nc92 (by omega)
                        · skip
                          have nc92 : ¬ (s3 < 0) := fun h => c92 ((nI_ltI (a := s3) (b := 0) (by omega) (by omega)).mpr h)
                          refine lv_aload_n hx hb dL_areClocksSo_364 rfl (lv_at hl 10 rfl) ?_
                          refine lv_iload hx hb dL_areClocksSo_365 (lv_at hl 8 rfl) ?_
                          refine lv_iconst (v := 3) hx hb dL_areClocksSo_367 (by decide) ?_
                          refine c_calli (As := [.int (nI ci), .int 3]) (rest := []) hx hb hml hown hts hK hX hI 0 (by omega) cE_0 rfl (k_X5_of l dd g ad pi A hA C hIN.W hIN.g hIN.Ld (nI ci) 3) (cwV 2 hts gL_areClocksSo_X5_of rfl rfl rfl (by decide +kernel) ⟨Nat.le_of_ble_eq_true rfl, Nat.le_of_ble_eq_true rfl⟩) rfl hl (Nat.le_of_ble_eq_true rfl) ⟨Nat.zero_le _, Nat.zero_le _⟩ dL_areClocksSo_368 rfl (fun r C1 pi1 H locs h93 hI => ?_)
                          obtain ⟨hr9, hc9, hp9⟩ := h93
                          rw [hc9, hp9] at hI
                          rw [q_o3 hW hc] at hr9
                          rw [es3] at hr9
                          subst hr9
                          refine lv_bipush (v := 40) hx hb dL_areClocksSo_371 (by decide) ?_
                          refine lv_icmp_gt (tgt := 380) hx hb dL_areClocksSo_373 (by decide) (fun c94 => ?_) (fun c94 => ?_)
                          · skip
                            have nc94 : 40 < s3 := (nI_ltI (a := 40) (b := s3) (by omega) (by omega)).mp c94
                            exact absurd nc94 (by omega)
                          · skip
                            have nc94 : ¬ (40 < s3) := fun h => c94 ((nI_ltI (a := 40) (b := s3) (by omega) (by omega)).mpr h)
                            refine lv_iconst (v := 1) hx hb dL_areClocksSo_376 (by decide) ?_
                            refine lv_goto (tgt := 381) hx hb dL_areClocksSo_377 (by decide) ?_
                            refine lv_istore (lv' := [(5, .int 1), (4, .int (wv + ((C 0) (12 + 8 * ci + 7)))), (3, .int (nI (cN + 1))), (2, .int (nI (oN + 1))), (1, .int sv), (10, .int 1), (9, .int 0), (8, .int (o2i (ladF (C 0) ci))), (7, .int (nI ru)), (6, .int (nI ci)), (0, .ref (ad 0))]) hx hb dL_areClocksSo_381 hl (by decide) rfl (fun ls hl => ?_)
                            refine lv_iinc (v := nI (ci + 1)) (lv' := [(6, .int (nI (ci + 1))), (5, .int 1), (4, .int (wv + ((C 0) (12 + 8 * ci + 7)))), (3, .int (nI (cN + 1))), (2, .int (nI (oN + 1))), (1, .int sv), (10, .int 1), (9, .int 0), (8, .int (o2i (ladF (C 0) ci))), (7, .int (nI ru)), (0, .ref (ad 0))]) hx hb dL_areClocksSo_383 hl (k := 9) rfl (by rw [show Int32.ofInt 1 = nI 1 from rfl, nI_add]) (by decide) rfl (fun ls hl => ?_)
                            refine lv_goto (tgt := 46) hx hb dL_areClocksSo_386 (by decide) ?_
                            exact ih (ci + 1) sv (oN + 1) (cN + 1) (wv + ((C 0) (12 + 8 * ci + 7))) (by omega) (by omega) (by rw [hs]; show _ = (if _ then _ else _); rw [hg, if_neg (by decide)]) (by rw [ho]; show _ = (if _ then _ else _); rw [hoff, if_pos rfl]; all_goals rfl) (by rw [hk9]; show _ = (if _ then _ else _); rw [hcan, if_neg (by decide)]; all_goals rfl) (by rw [hw]; rfl) _ _ _ hI (lv_sub hl [0, 1, 2, 3, 4, 5, 10] rfl)
                      · skip
                        refine lv_iload_n hx hb dL_areClocksSo_200 rfl (lv_at hl 9 rfl) ?_
                        refine lv_aload_n hx hb dL_areClocksSo_201 rfl (lv_at hl 10 rfl) ?_
                        refine lv_iload hx hb dL_areClocksSo_202 (lv_at hl 4 rfl) ?_
                        refine lv_bipush (v := 6) hx hb dL_areClocksSo_204 (by decide) ?_
                        refine c_calli (As := [.int (nI ci), .int 6]) (rest := [.int sv]) hx hb hml hown hts hK hX hI 0 (by omega) cE_0 rfl (k_X5_of l dd g ad pi A hA C hIN.W hIN.g hIN.Ld (nI ci) 6) (cwV 2 hts gL_areClocksSo_X5_of rfl rfl rfl (by decide +kernel) ⟨Nat.le_of_ble_eq_true rfl, Nat.le_of_ble_eq_true rfl⟩) rfl hl (Nat.le_of_ble_eq_true rfl) ⟨Nat.zero_le _, Nat.zero_le _⟩ dL_areClocksSo_206 rfl (fun r C1 pi1 H locs h95 hI => ?_)
                        obtain ⟨hr9, hc9, hp9⟩ := h95
                        rw [hc9, hp9] at hI
                        rw [q_o6 hW hc] at hr9
                        rw [hg] at hr9
                        subst hr9
                        refine lv_if_ne (tgt := 219) hx hb dL_areClocksSo_209 (by decide) (fun c96 => absurd (by decide) c96) (fun _ => ?_)
                        refine lv_iconst (v := 1) hx hb dL_areClocksSo_212 (by decide) ?_
                        refine lv_iload hx hb dL_areClocksSo_213 (lv_at hl 4 rfl) ?_
                        refine lv_ishl hx hb dL_areClocksSo_215 ?_
                        refine lv_goto (tgt := 220) hx hb dL_areClocksSo_216 (by decide) ?_
                        refine lv_ior hx hb dL_areClocksSo_220 ?_
                        refine lv_istore_n (lv' := [(1, .int (sv ||| (1 <<< ((nI ci) &&& 31)))), (10, .int 1), (9, .int 0), (8, .int (o2i (ladF (C 0) ci))), (7, .int (nI ru)), (6, .int (nI ci)), (5, .int 1), (4, .int wv), (3, .int (nI cN)), (2, .int (nI oN)), (0, .ref (ad 0))]) hx hb dL_areClocksSo_221 rfl hl (by decide) rfl (fun ls hl => ?_)
                        refine lv_iload_n hx hb dL_areClocksSo_222 rfl (lv_at hl 9 rfl) ?_
                        refine lv_iload hx hb dL_areClocksSo_223 (lv_at hl 1 rfl) ?_
                        refine lv_if_eq (tgt := 232) hx hb dL_areClocksSo_225 (by decide) (fun c97 => absurd c97 (by decide)) (fun _ => ?_)
                        refine lv_iconst (v := 1) hx hb dL_areClocksSo_228 (by decide) ?_
                        refine lv_goto (tgt := 233) hx hb dL_areClocksSo_229 (by decide) ?_
                        refine lv_iadd hx hb dL_areClocksSo_233 ?_
                        refine lv_re (y := nI (oN + 1)) (nI_add (oN) (1)) ?_
                        refine lv_istore_n (lv' := [(2, .int (nI (oN + 1))), (1, .int (sv ||| (1 <<< ((nI ci) &&& 31)))), (10, .int 1), (9, .int 0), (8, .int (o2i (ladF (C 0) ci))), (7, .int (nI ru)), (6, .int (nI ci)), (5, .int 1), (4, .int wv), (3, .int (nI cN)), (0, .ref (ad 0))]) hx hb dL_areClocksSo_234 rfl hl (by decide) rfl (fun ls hl => ?_)
                        refine lv_iload_n hx hb dL_areClocksSo_235 rfl (lv_at hl 9 rfl) ?_
                        refine lv_iload hx hb dL_areClocksSo_236 (lv_at hl 3 rfl) ?_
                        refine lv_if_eq (tgt := 245) hx hb dL_areClocksSo_238 (by decide) (fun _ => ?_) (fun c98 => absurd (by decide) c98)
                        refine lv_iconst (v := 1) hx hb dL_areClocksSo_245 (by decide) ?_
                        refine lv_iadd hx hb dL_areClocksSo_246 ?_
                        refine lv_re (y := nI (cN + 1)) (nI_add (cN) (1)) ?_
                        refine lv_istore_n (lv' := [(3, .int (nI (cN + 1))), (2, .int (nI (oN + 1))), (1, .int (sv ||| (1 <<< ((nI ci) &&& 31)))), (10, .int 1), (9, .int 0), (8, .int (o2i (ladF (C 0) ci))), (7, .int (nI ru)), (6, .int (nI ci)), (5, .int 1), (4, .int wv), (0, .ref (ad 0))]) hx hb dL_areClocksSo_247 rfl hl (by decide) rfl (fun ls hl => ?_)
                        refine lv_iload hx hb dL_areClocksSo_248 (lv_at hl 9 rfl) ?_
                        refine lv_aload_n hx hb dL_areClocksSo_250 rfl (lv_at hl 10 rfl) ?_
                        refine lv_iload hx hb dL_areClocksSo_251 (lv_at hl 7 rfl) ?_
                        refine lv_bipush (v := 10) hx hb dL_areClocksSo_253 (by decide) ?_
                        refine c_calli (As := [.int (nI ci), .int 10]) (rest := [.int wv]) hx hb hml hown hts hK hX hI 0 (by omega) cE_0 rfl (k_X5_of l dd g ad pi A hA C hIN.W hIN.g hIN.Ld (nI ci) 10) (cwV 2 hts gL_areClocksSo_X5_of rfl rfl rfl (by decide +kernel) ⟨Nat.le_of_ble_eq_true rfl, Nat.le_of_ble_eq_true rfl⟩) rfl hl (Nat.le_of_ble_eq_true rfl) ⟨Nat.zero_le _, Nat.zero_le _⟩ dL_areClocksSo_255 rfl (fun r C1 pi1 H locs h99 hI => ?_)
                        obtain ⟨hr9, hc9, hp9⟩ := h99
                        rw [hc9, hp9] at hI
                        rw [q_o10 hW hc] at hr9
                        subst hr9
                        refine lv_iadd hx hb dL_areClocksSo_258 ?_
                        refine lv_istore (lv' := [(4, .int (wv + ((C 0) (12 + 8 * ci + 7)))), (3, .int (nI (cN + 1))), (2, .int (nI (oN + 1))), (1, .int (sv ||| (1 <<< ((nI ci) &&& 31)))), (10, .int 1), (9, .int 0), (8, .int (o2i (ladF (C 0) ci))), (7, .int (nI ru)), (6, .int (nI ci)), (5, .int 1), (0, .ref (ad 0))]) hx hb dL_areClocksSo_259 hl (by decide) rfl (fun ls hl => ?_)
                        refine lv_iload hx hb dL_areClocksSo_261 (lv_at hl 9 rfl) ?_
                        refine lv_if_eq (tgt := 380) hx hb dL_areClocksSo_263 (by decide) (fun c100 => absurd c100 (by decide)) (fun _ => ?_)
                        refine lv_aload_n hx hb dL_areClocksSo_266 rfl (lv_at hl 10 rfl) ?_
                        refine lv_iload hx hb dL_areClocksSo_267 (lv_at hl 8 rfl) ?_
                        refine lv_bipush (v := 8) hx hb dL_areClocksSo_269 (by decide) ?_
                        refine c_calli (As := [.int (nI ci), .int 8]) (rest := []) hx hb hml hown hts hK hX hI 0 (by omega) cE_0 rfl (k_X5_of l dd g ad pi A hA C hIN.W hIN.g hIN.Ld (nI ci) 8) (cwV 2 hts gL_areClocksSo_X5_of rfl rfl rfl (by decide +kernel) ⟨Nat.le_of_ble_eq_true rfl, Nat.le_of_ble_eq_true rfl⟩) rfl hl (Nat.le_of_ble_eq_true rfl) ⟨Nat.zero_le _, Nat.zero_le _⟩ dL_areClocksSo_271 rfl (fun r C1 pi1 H locs h101 hI => ?_)
                        obtain ⟨hr9, hc9, hp9⟩ := h101
                        rw [hc9, hp9] at hI
                        rw [q_o8 hW hc] at hr9
                        subst hr9
                        refine lv_iload hx hb dL_areClocksSo_274 (lv_at hl 6 rfl) ?_
                        refine lv_icmp_ne (tgt := 380) hx hb dL_areClocksSo_276 (by decide) (fun c102 => absurd rfl c102) (fun _ => ?_)
                        refine lv_aload_n hx hb dL_areClocksSo_279 rfl (lv_at hl 10 rfl) ?_
                        refine lv_iload hx hb dL_areClocksSo_280 (lv_at hl 8 rfl) ?_
                        refine lv_bipush (v := 9) hx hb dL_areClocksSo_282 (by decide) ?_
                        refine c_calli (As := [.int (nI ci), .int 9]) (rest := []) hx hb hml hown hts hK hX hI 0 (by omega) cE_0 rfl (k_X5_of l dd g ad pi A hA C hIN.W hIN.g hIN.Ld (nI ci) 9) (cwV 2 hts gL_areClocksSo_X5_of rfl rfl rfl (by decide +kernel) ⟨Nat.le_of_ble_eq_true rfl, Nat.le_of_ble_eq_true rfl⟩) rfl hl (Nat.le_of_ble_eq_true rfl) ⟨Nat.zero_le _, Nat.zero_le _⟩ dL_areClocksSo_284 rfl (fun r C1 pi1 H locs h103 hI => ?_)
                        obtain ⟨hr9, hc9, hp9⟩ := h103
                        rw [hc9, hp9] at hI
                        rw [q_o9f hW hc hcan] at hr9
                        subst hr9
                        refine lv_iconst (v := 1) hx hb dL_areClocksSo_287 (by decide) ?_
                        refine lv_icmp_ne (tgt := 295) hx hb dL_areClocksSo_288 (by decide) (fun _ => ?_) (fun c104 => absurd c104 (by decide))
                        refine lv_iconst (v := 0) hx hb dL_areClocksSo_295 (by decide) ?_
                        refine lv_iload hx hb dL_areClocksSo_296 (lv_at hl 5 rfl) ?_
                        refine lv_icmp_ne (tgt := 380) hx hb dL_areClocksSo_298 (by decide) (fun c105 => absurd (by decide) c105) (fun _ => ?_)
                        refine lv_aload_n hx hb dL_areClocksSo_301 rfl (lv_at hl 10 rfl) ?_
                        refine lv_iload hx hb dL_areClocksSo_302 (lv_at hl 8 rfl) ?_
                        refine lv_bipush (v := 7) hx hb dL_areClocksSo_304 (by decide) ?_
                        refine c_calli (As := [.int (nI ci), .int 7]) (rest := []) hx hb hml hown hts hK hX hI 0 (by omega) cE_0 rfl (k_X5_of l dd g ad pi A hA C hIN.W hIN.g hIN.Ld (nI ci) 7) (cwV 2 hts gL_areClocksSo_X5_of rfl rfl rfl (by decide +kernel) ⟨Nat.le_of_ble_eq_true rfl, Nat.le_of_ble_eq_true rfl⟩) rfl hl (Nat.le_of_ble_eq_true rfl) ⟨Nat.zero_le _, Nat.zero_le _⟩ dL_areClocksSo_306 rfl (fun r C1 pi1 H locs h106 hI => ?_)
                        obtain ⟨hr9, hc9, hp9⟩ := h106
                        rw [hc9, hp9] at hI
                        rw [q_o7t hW hc hoff] at hr9
                        subst hr9
                        refine lv_iconst (v := 1) hx hb dL_areClocksSo_309 (by decide) ?_
                        refine lv_icmp_ne (tgt := 317) hx hb dL_areClocksSo_310 (by decide) (fun _ => ?_) (fun c107 => absurd c107 (by decide))
                        refine lv_iconst (v := 0) hx hb dL_areClocksSo_317 (by decide) ?_
                        refine lv_iload hx hb dL_areClocksSo_318 (lv_at hl 4 rfl) ?_
                        refine lv_if_ne (tgt := 327) hx hb dL_areClocksSo_320 (by decide) (fun _ => ?_) (fun c108 => absurd c108 (by decide))
                        refine lv_iconst (v := 0) hx hb dL_areClocksSo_327 (by decide) ?_
                        refine lv_icmp_ne (tgt := 380) hx hb dL_areClocksSo_328 (by decide) (fun c109 => absurd (by decide) c109) (fun _ => ?_)
                        refine lv_aload_n hx hb dL_areClocksSo_331 rfl (lv_at hl 10 rfl) ?_
                        refine lv_iload hx hb dL_areClocksSo_332 (lv_at hl 8 rfl) ?_
                        refine lv_bipush (v := 6) hx hb dL_areClocksSo_334 (by decide) ?_
                        refine c_calli (As := [.int (nI ci), .int 6]) (rest := []) hx hb hml hown hts hK hX hI 0 (by omega) cE_0 rfl (k_X5_of l dd g ad pi A hA C hIN.W hIN.g hIN.Ld (nI ci) 6) (cwV 2 hts gL_areClocksSo_X5_of rfl rfl rfl (by decide +kernel) ⟨Nat.le_of_ble_eq_true rfl, Nat.le_of_ble_eq_true rfl⟩) rfl hl (Nat.le_of_ble_eq_true rfl) ⟨Nat.zero_le _, Nat.zero_le _⟩ dL_areClocksSo_336 rfl (fun r C1 pi1 H locs h110 hI => ?_)
                        obtain ⟨hr9, hc9, hp9⟩ := h110
                        rw [hc9, hp9] at hI
                        rw [q_o6 hW hc] at hr9
                        rw [hg] at hr9
                        subst hr9
                        refine lv_iconst (v := 1) hx hb dL_areClocksSo_339 (by decide) ?_
                        refine lv_icmp_eq (tgt := 354) hx hb dL_areClocksSo_340 (by decide) (fun c111 => absurd c111 (by decide)) (fun _ => ?_)
                        refine lv_aload_n hx hb dL_areClocksSo_343 rfl (lv_at hl 10 rfl) ?_
                        refine lv_iload hx hb dL_areClocksSo_344 (lv_at hl 8 rfl) ?_
                        refine c_callC (As := [.ref (ad 0), .int (nI ci)]) (rest := []) hx hb hml hown hts hK hX hI (k_L_off l dd g ad pi A hA C hIN.W hIN.g hIN.Ld ci hc) (va_cwS 2 hts gL_areClocksSo_L_off rfl rfl rfl (by decide +kernel) ⟨Nat.le_of_ble_eq_true rfl, Nat.le_of_ble_eq_true rfl⟩) rfl hl (Nat.le_of_ble_eq_true rfl) ⟨Nat.zero_le _, Nat.zero_le _⟩ dL_areClocksSo_346 rfl (fun r C1 pi1 H locs h112 hI => ?_)
                        obtain ⟨hr9, hc9, hp9⟩ := h112
                        rw [hc9, hp9] at hI
                        rw [hg4] at hr9
                        subst hr9
                        refine lv_ldc hx hb hown (hts (.constant RL 54 (43200)) (by decide +kernel)) dL_areClocksSo_349 ?_
                        refine lv_icmp_ne (tgt := 380) hx hb dL_areClocksSo_351 (by decide) (fun c113 => absurd (by decide) c113) (fun _ => ?_)
                        refine lv_aload_n hx hb dL_areClocksSo_354 rfl (lv_at hl 10 rfl) ?_
                        refine lv_iload hx hb dL_areClocksSo_355 (lv_at hl 8 rfl) ?_
                        refine lv_iconst (v := 3) hx hb dL_areClocksSo_357 (by decide) ?_
                        refine c_calli (As := [.int (nI ci), .int 3]) (rest := []) hx hb hml hown hts hK hX hI 0 (by omega) cE_0 rfl (k_X5_of l dd g ad pi A hA C hIN.W hIN.g hIN.Ld (nI ci) 3) (cwV 2 hts gL_areClocksSo_X5_of rfl rfl rfl (by decide +kernel) ⟨Nat.le_of_ble_eq_true rfl, Nat.le_of_ble_eq_true rfl⟩) rfl hl (Nat.le_of_ble_eq_true rfl) ⟨Nat.zero_le _, Nat.zero_le _⟩ dL_areClocksSo_358 rfl (fun r C1 pi1 H locs h114 hI => ?_)
                        obtain ⟨hr9, hc9, hp9⟩ := h114
                        rw [hc9, hp9] at hI
                        rw [q_o3 hW hc] at hr9
                        rw [es3] at hr9
                        subst hr9
                        refine lv_if_lt (tgt := 380) hx hb dL_areClocksSo_361 (by decide) (fun c115 => ?_) (fun c115 => ?_)
                        · skip
                          have nc115 : s3 < 0 := (nI_ltI (a := s3) (b := 0) (by omega) (by omega)).mp c115
                          exact absurd nc115 (by omega)
                        · skip
                          have nc115 : ¬ (s3 < 0) := fun h => c115 ((nI_ltI (a := s3) (b := 0) (by omega) (by omega)).mpr h)
                          refine lv_aload_n hx hb dL_areClocksSo_364 rfl (lv_at hl 10 rfl) ?_
                          refine lv_iload hx hb dL_areClocksSo_365 (lv_at hl 8 rfl) ?_
                          refine lv_iconst (v := 3) hx hb dL_areClocksSo_367 (by decide) ?_
                          refine c_calli (As := [.int (nI ci), .int 3]) (rest := []) hx hb hml hown hts hK hX hI 0 (by omega) cE_0 rfl (k_X5_of l dd g ad pi A hA C hIN.W hIN.g hIN.Ld (nI ci) 3) (cwV 2 hts gL_areClocksSo_X5_of rfl rfl rfl (by decide +kernel) ⟨Nat.le_of_ble_eq_true rfl, Nat.le_of_ble_eq_true rfl⟩) rfl hl (Nat.le_of_ble_eq_true rfl) ⟨Nat.zero_le _, Nat.zero_le _⟩ dL_areClocksSo_368 rfl (fun r C1 pi1 H locs h116 hI => ?_)
                          obtain ⟨hr9, hc9, hp9⟩ := h116
                          rw [hc9, hp9] at hI
                          rw [q_o3 hW hc] at hr9
                          rw [es3] at hr9
                          subst hr9
                          refine lv_bipush (v := 40) hx hb dL_areClocksSo_371 (by decide) ?_
                          refine lv_icmp_gt (tgt := 380) hx hb dL_areClocksSo_373 (by decide) (fun c117 => ?_) (fun c117 => ?_)
                          · skip
                            have nc117 : 40 < s3 := (nI_ltI (a := 40) (b := s3) (by omega) (by omega)).mp c117
                            exact absurd nc117 (by omega)
                          · skip
                            have nc117 : ¬ (40 < s3) := fun h => c117 ((nI_ltI (a := 40) (b := s3) (by omega) (by omega)).mpr h)
                            refine lv_iconst (v := 1) hx hb dL_areClocksSo_376 (by decide) ?_
                            refine lv_goto (tgt := 381) hx hb dL_areClocksSo_377 (by decide) ?_
                            refine lv_istore (lv' := [(5, .int 1), (4, .int (wv + ((C 0) (12 + 8 * ci + 7)))), (3, .int (nI (cN + 1))), (2, .int (nI (oN + 1))), (1, .int (sv ||| (1 <<< ((nI ci) &&& 31)))), (10, .int 1), (9, .int 0), (8, .int (o2i (ladF (C 0) ci))), (7, .int (nI ru)), (6, .int (nI ci)), (0, .ref (ad 0))]) hx hb dL_areClocksSo_381 hl (by decide) rfl (fun ls hl => ?_)
                            refine lv_iinc (v := nI (ci + 1)) (lv' := [(6, .int (nI (ci + 1))), (5, .int 1), (4, .int (wv + ((C 0) (12 + 8 * ci + 7)))), (3, .int (nI (cN + 1))), (2, .int (nI (oN + 1))), (1, .int (sv ||| (1 <<< ((nI ci) &&& 31)))), (10, .int 1), (9, .int 0), (8, .int (o2i (ladF (C 0) ci))), (7, .int (nI ru)), (0, .ref (ad 0))]) hx hb dL_areClocksSo_383 hl (k := 9) rfl (by rw [show Int32.ofInt 1 = nI 1 from rfl, nI_add]) (by decide) rfl (fun ls hl => ?_)
                            refine lv_goto (tgt := 46) hx hb dL_areClocksSo_386 (by decide) ?_
                            exact ih (ci + 1) (sv ||| (1 <<< ((nI ci) &&& 31))) (oN + 1) (cN + 1) (wv + ((C 0) (12 + 8 * ci + 7))) (by omega) (by omega) (by rw [hs]; show _ = (if _ then _ else _); rw [hg, if_pos rfl]) (by rw [ho]; show _ = (if _ then _ else _); rw [hoff, if_pos rfl]; all_goals rfl) (by rw [hk9]; show _ = (if _ then _ else _); rw [hcan, if_neg (by decide)]; all_goals rfl) (by rw [hw]; rfl) _ _ _ hI (lv_sub hl [0, 1, 2, 3, 4, 5, 10] rfl)
                    refine lv_aload_n hx hb dL_areClocksSo_162 rfl (lv_at hl 9 rfl) ?_
                    refine lv_iload hx hb dL_areClocksSo_163 (lv_at hl 3 rfl) ?_
                    refine c_callC (As := [.ref (ad 0), .int (nI ci)]) (rest := []) hx hb hml hown hts hK hX hI (k_L_off l dd g ad pi A hA C hIN.W hIN.g hIN.Ld ci hc) (va_cwS 2 hts gL_areClocksSo_L_off rfl rfl rfl (by decide +kernel) ⟨Nat.le_of_ble_eq_true rfl, Nat.le_of_ble_eq_true rfl⟩) rfl hl (Nat.le_of_ble_eq_true rfl) ⟨Nat.zero_le _, Nat.zero_le _⟩ dL_areClocksSo_165 rfl (fun r C1 pi1 H locs h118 hI => ?_)
                    obtain ⟨hr9, hc9, hp9⟩ := h118
                    rw [hc9, hp9] at hI
                    subst hr9
                    refine lv_aload_n hx hb dL_areClocksSo_168 rfl (lv_at hl 9 rfl) ?_
                    refine lv_bipush (v := 8) hx hb dL_areClocksSo_169 (by decide) ?_
                    refine c_calli (As := [.int 8]) (rest := [.int ((C 0) (12 + 8 * ci + 4))]) hx hb hml hown hts hK hX hI 0 (by omega) cE_0 rfl (k_X5_count l dd g ad pi A hA C hIN.W hIN.g hIN.Ld 8) (cwV 1 hts gL_areClocksSo_X5_count rfl rfl rfl (by decide +kernel) ⟨Nat.le_of_ble_eq_true rfl, Nat.le_of_ble_eq_true rfl⟩) rfl hl (Nat.le_of_ble_eq_true rfl) ⟨Nat.zero_le _, Nat.zero_le _⟩ dL_areClocksSo_171 rfl (fun r C1 pi1 H locs h119 hI => ?_)
                    obtain ⟨hr9, hc9, hp9⟩ := h119
                    rw [hc9, hp9] at hI
                    rw [q_c8] at hr9
                    subst hr9
                    refine lv_icmp_gt (tgt := 193) hx hb dL_areClocksSo_174 (by decide) (fun c120 => ?_) (fun c120 => ?_)
                    · skip
                      refine lv_iconst (v := 1) hx hb dL_areClocksSo_193 (by decide) ?_
                      refine lv_goto (tgt := 198) hx hb dL_areClocksSo_194 (by decide) ?_
                      exact J73 _ _ _ hI (lv_sub hl [0, 1, 2, 3, 4, 5, 6, 7, 8, 9] rfl)
                    · skip
                      refine lv_aload_n hx hb dL_areClocksSo_177 rfl (lv_at hl 9 rfl) ?_
                      refine lv_iload hx hb dL_areClocksSo_178 (lv_at hl 3 rfl) ?_
                      refine c_callC (As := [.ref (ad 0), .int (nI ci)]) (rest := []) hx hb hml hown hts hK hX hI (k_L_off l dd g ad pi A hA C hIN.W hIN.g hIN.Ld ci hc) (va_cwS 2 hts gL_areClocksSo_L_off rfl rfl rfl (by decide +kernel) ⟨Nat.le_of_ble_eq_true rfl, Nat.le_of_ble_eq_true rfl⟩) rfl hl (Nat.le_of_ble_eq_true rfl) ⟨Nat.zero_le _, Nat.zero_le _⟩ dL_areClocksSo_180 rfl (fun r C1 pi1 H locs h121 hI => ?_)
                      obtain ⟨hr9, hc9, hp9⟩ := h121
                      rw [hc9, hp9] at hI
                      subst hr9
                      refine lv_aload_n hx hb dL_areClocksSo_183 rfl (lv_at hl 9 rfl) ?_
                      refine lv_bipush (v := 8) hx hb dL_areClocksSo_184 (by decide) ?_
                      refine c_calli (As := [.int 8]) (rest := [.int ((C 0) (12 + 8 * ci + 4))]) hx hb hml hown hts hK hX hI 0 (by omega) cE_0 rfl (k_X5_count l dd g ad pi A hA C hIN.W hIN.g hIN.Ld 8) (cwV 1 hts gL_areClocksSo_X5_count rfl rfl rfl (by decide +kernel) ⟨Nat.le_of_ble_eq_true rfl, Nat.le_of_ble_eq_true rfl⟩) rfl hl (Nat.le_of_ble_eq_true rfl) ⟨Nat.zero_le _, Nat.zero_le _⟩ dL_areClocksSo_186 rfl (fun r C1 pi1 H locs h122 hI => ?_)
                      obtain ⟨hr9, hc9, hp9⟩ := h122
                      rw [hc9, hp9] at hI
                      rw [q_c8] at hr9
                      subst hr9
                      refine lv_ineg hx hb dL_areClocksSo_189 ?_
                      refine lv_icmp_ge (tgt := 197) hx hb dL_areClocksSo_190 (by decide) (fun c123 => ?_) (fun c123 => ?_)
                      · skip
                        exact absurd ho9 (fun z => z.elim c120 (fun y => Int32.not_lt.mpr c123 y))
                      · skip
                        refine lv_iconst (v := 1) hx hb dL_areClocksSo_193 (by decide) ?_
                        refine lv_goto (tgt := 198) hx hb dL_areClocksSo_194 (by decide) ?_
                        exact J73 _ _ _ hI (lv_sub hl [0, 1, 2, 3, 4, 5, 6, 7, 8, 9] rfl)
                refine lv_iload hx hb dL_areClocksSo_145 (lv_at hl 2 rfl) ?_
                refine lv_if_eq (tgt := 155) hx hb dL_areClocksSo_147 (by decide) (fun c124 => ?_) (fun c124 => ?_)
                · skip
                  have nc124 : ru = 0 := (nI_eq (a := ru) (b := 0) (by omega) (by omega)).mp c124
                  exact absurd nc124 hru0
                · skip
                  have nc124 : ¬ (ru = 0) := fun h => c124 ((nI_eq (a := ru) (b := 0) (by omega) (by omega)).mpr h)
                  refine lv_iload hx hb dL_areClocksSo_150 (lv_at hl 1 rfl) ?_
                  refine lv_if_lt (tgt := 159) hx hb dL_areClocksSo_152 (by decide) (fun c125 => ?_) (fun c125 => ?_)
                  · skip
                    refine lv_iconst (v := 0) hx hb dL_areClocksSo_159 (by decide) ?_
                    exact J21 _ _ _ hI (lv_sub hl [0, 1, 2, 3, 4, 5, 6, 7, 8, 9] rfl)
                  · skip
                    exact absurd (by rw [hno]; decide) c125
              · skip
                have hlv9 : lv9 = o2i (ladF (C 0) ci) := hlv
                subst hlv9
                have hyes := o2i_can hW hcan eru hru
                have J126 : ∀ (H : Heap) (locs : List Loc) (ls : Array Slot), cI dd g ad pi A s.heap H locs C → lv_has ls 11 [(9, .int (nI (ln (C 0)))), (8, .int (o2i (ladF (C 0) ci))), (7, .int (nI ru)), (6, .int (nI ci)), (5, .int 1), (4, .int wv), (3, .int (nI cN)), (2, .int (nI oN)), (1, .int sv), (0, .ref (ad 0))] → wk p l e wsL_areClocksSo { frames := 4, cells := 0, slots := 0, locals := 89 } s m [.ref (ad 0)] below meth c H locs (cQi dd g ad A (fun r C1 pi1 => r = 1 ∧ C1 = C ∧ pi1 = pi)) (A) (F0 m 160 ls [.int 1]) := by
                  intro H locs ls hI hl
                  refine lv_istore (lv' := [(9, .int 1), (8, .int (o2i (ladF (C 0) ci))), (7, .int (nI ru)), (6, .int (nI ci)), (5, .int 1), (4, .int wv), (3, .int (nI cN)), (2, .int (nI oN)), (1, .int sv), (0, .ref (ad 0))]) hx hb dL_areClocksSo_160 hl (by decide) rfl (fun ls hl => ?_)
                  rcases hoff : offB (C 0) ci (C 0 0)
                  · skip
                    have ho9 : ¬ (C 0 0 < C 0 (12 + 8 * ci + 4) ∨ C 0 (12 + 8 * ci + 4) < -C 0 0) := fun z => by rw [(hIN.2.2.2.1.off hB hc).mpr z] at hoff; cases hoff
                    have J127 : ∀ (H : Heap) (locs : List Loc) (ls : Array Slot), cI dd g ad pi A s.heap H locs C → lv_has ls 11 [(9, .int 1), (8, .int (o2i (ladF (C 0) ci))), (7, .int (nI ru)), (6, .int (nI ci)), (5, .int 1), (4, .int wv), (3, .int (nI cN)), (2, .int (nI oN)), (1, .int sv), (0, .ref (ad 0))] → wk p l e wsL_areClocksSo { frames := 4, cells := 0, slots := 0, locals := 89 } s m [.ref (ad 0)] below meth c H locs (cQi dd g ad A (fun r C1 pi1 => r = 1 ∧ C1 = C ∧ pi1 = pi)) (A) (F0 m 198 ls [.int 0]) := by
                      intro H locs ls hI hl
                      refine lv_istore (lv' := [(10, .int 0), (9, .int 1), (8, .int (o2i (ladF (C 0) ci))), (7, .int (nI ru)), (6, .int (nI ci)), (5, .int 1), (4, .int wv), (3, .int (nI cN)), (2, .int (nI oN)), (1, .int sv), (0, .ref (ad 0))]) hx hb dL_areClocksSo_198 hl (by decide) rfl (fun ls hl => ?_)
                      rcases cl_go hV hc with hg | ⟨hg, hg4⟩
                      · skip
                        refine lv_iload_n hx hb dL_areClocksSo_200 rfl (lv_at hl 9 rfl) ?_
                        refine lv_aload_n hx hb dL_areClocksSo_201 rfl (lv_at hl 10 rfl) ?_
                        refine lv_iload hx hb dL_areClocksSo_202 (lv_at hl 4 rfl) ?_
                        refine lv_bipush (v := 6) hx hb dL_areClocksSo_204 (by decide) ?_
                        refine c_calli (As := [.int (nI ci), .int 6]) (rest := [.int sv]) hx hb hml hown hts hK hX hI 0 (by omega) cE_0 rfl (k_X5_of l dd g ad pi A hA C hIN.W hIN.g hIN.Ld (nI ci) 6) (cwV 2 hts gL_areClocksSo_X5_of rfl rfl rfl (by decide +kernel) ⟨Nat.le_of_ble_eq_true rfl, Nat.le_of_ble_eq_true rfl⟩) rfl hl (Nat.le_of_ble_eq_true rfl) ⟨Nat.zero_le _, Nat.zero_le _⟩ dL_areClocksSo_206 rfl (fun r C1 pi1 H locs h128 hI => ?_)
                        obtain ⟨hr9, hc9, hp9⟩ := h128
                        rw [hc9, hp9] at hI
                        rw [q_o6 hW hc] at hr9
                        rw [hg] at hr9
                        subst hr9
                        refine lv_if_ne (tgt := 219) hx hb dL_areClocksSo_209 (by decide) (fun _ => ?_) (fun c129 => absurd c129 (by decide))
                        refine lv_iconst (v := 0) hx hb dL_areClocksSo_219 (by decide) ?_
                        refine lv_ior hx hb dL_areClocksSo_220 ?_
                        refine lv_re (y := sv) (Int32.or_zero) ?_
                        refine lv_istore_n (lv' := [(1, .int sv), (10, .int 0), (9, .int 1), (8, .int (o2i (ladF (C 0) ci))), (7, .int (nI ru)), (6, .int (nI ci)), (5, .int 1), (4, .int wv), (3, .int (nI cN)), (2, .int (nI oN)), (0, .ref (ad 0))]) hx hb dL_areClocksSo_221 rfl hl (by decide) rfl (fun ls hl => ?_)
                        refine lv_iload_n hx hb dL_areClocksSo_222 rfl (lv_at hl 9 rfl) ?_
                        refine lv_iload hx hb dL_areClocksSo_223 (lv_at hl 1 rfl) ?_
                        refine lv_if_eq (tgt := 232) hx hb dL_areClocksSo_225 (by decide) (fun _ => ?_) (fun c130 => absurd (by decide) c130)
                        refine lv_iconst (v := 0) hx hb dL_areClocksSo_232 (by decide) ?_
                        refine lv_iadd hx hb dL_areClocksSo_233 ?_
                        refine lv_re (y := nI (oN + 0)) (nI_add (oN) (0)) ?_
                        refine lv_istore_n (lv' := [(2, .int (nI (oN + 0))), (1, .int sv), (10, .int 0), (9, .int 1), (8, .int (o2i (ladF (C 0) ci))), (7, .int (nI ru)), (6, .int (nI ci)), (5, .int 1), (4, .int wv), (3, .int (nI cN)), (0, .ref (ad 0))]) hx hb dL_areClocksSo_234 rfl hl (by decide) rfl (fun ls hl => ?_)
                        refine lv_iload_n hx hb dL_areClocksSo_235 rfl (lv_at hl 9 rfl) ?_
                        refine lv_iload hx hb dL_areClocksSo_236 (lv_at hl 3 rfl) ?_
                        refine lv_if_eq (tgt := 245) hx hb dL_areClocksSo_238 (by decide) (fun c131 => absurd c131 (by decide)) (fun _ => ?_)
                        refine lv_iconst (v := 0) hx hb dL_areClocksSo_241 (by decide) ?_
                        refine lv_goto (tgt := 246) hx hb dL_areClocksSo_242 (by decide) ?_
                        refine lv_iadd hx hb dL_areClocksSo_246 ?_
                        refine lv_re (y := nI (cN + 0)) (nI_add (cN) (0)) ?_
                        refine lv_istore_n (lv' := [(3, .int (nI (cN + 0))), (2, .int (nI (oN + 0))), (1, .int sv), (10, .int 0), (9, .int 1), (8, .int (o2i (ladF (C 0) ci))), (7, .int (nI ru)), (6, .int (nI ci)), (5, .int 1), (4, .int wv), (0, .ref (ad 0))]) hx hb dL_areClocksSo_247 rfl hl (by decide) rfl (fun ls hl => ?_)
                        refine lv_iload hx hb dL_areClocksSo_248 (lv_at hl 9 rfl) ?_
                        refine lv_aload_n hx hb dL_areClocksSo_250 rfl (lv_at hl 10 rfl) ?_
                        refine lv_iload hx hb dL_areClocksSo_251 (lv_at hl 7 rfl) ?_
                        refine lv_bipush (v := 10) hx hb dL_areClocksSo_253 (by decide) ?_
                        refine c_calli (As := [.int (nI ci), .int 10]) (rest := [.int wv]) hx hb hml hown hts hK hX hI 0 (by omega) cE_0 rfl (k_X5_of l dd g ad pi A hA C hIN.W hIN.g hIN.Ld (nI ci) 10) (cwV 2 hts gL_areClocksSo_X5_of rfl rfl rfl (by decide +kernel) ⟨Nat.le_of_ble_eq_true rfl, Nat.le_of_ble_eq_true rfl⟩) rfl hl (Nat.le_of_ble_eq_true rfl) ⟨Nat.zero_le _, Nat.zero_le _⟩ dL_areClocksSo_255 rfl (fun r C1 pi1 H locs h132 hI => ?_)
                        obtain ⟨hr9, hc9, hp9⟩ := h132
                        rw [hc9, hp9] at hI
                        rw [q_o10 hW hc] at hr9
                        subst hr9
                        refine lv_iadd hx hb dL_areClocksSo_258 ?_
                        refine lv_istore (lv' := [(4, .int (wv + ((C 0) (12 + 8 * ci + 7)))), (3, .int (nI (cN + 0))), (2, .int (nI (oN + 0))), (1, .int sv), (10, .int 0), (9, .int 1), (8, .int (o2i (ladF (C 0) ci))), (7, .int (nI ru)), (6, .int (nI ci)), (5, .int 1), (0, .ref (ad 0))]) hx hb dL_areClocksSo_259 hl (by decide) rfl (fun ls hl => ?_)
                        refine lv_iload hx hb dL_areClocksSo_261 (lv_at hl 9 rfl) ?_
                        refine lv_if_eq (tgt := 380) hx hb dL_areClocksSo_263 (by decide) (fun c133 => absurd c133 (by decide)) (fun _ => ?_)
                        refine lv_aload_n hx hb dL_areClocksSo_266 rfl (lv_at hl 10 rfl) ?_
                        refine lv_iload hx hb dL_areClocksSo_267 (lv_at hl 8 rfl) ?_
                        refine lv_bipush (v := 8) hx hb dL_areClocksSo_269 (by decide) ?_
                        refine c_calli (As := [.int (nI ci), .int 8]) (rest := []) hx hb hml hown hts hK hX hI 0 (by omega) cE_0 rfl (k_X5_of l dd g ad pi A hA C hIN.W hIN.g hIN.Ld (nI ci) 8) (cwV 2 hts gL_areClocksSo_X5_of rfl rfl rfl (by decide +kernel) ⟨Nat.le_of_ble_eq_true rfl, Nat.le_of_ble_eq_true rfl⟩) rfl hl (Nat.le_of_ble_eq_true rfl) ⟨Nat.zero_le _, Nat.zero_le _⟩ dL_areClocksSo_271 rfl (fun r C1 pi1 H locs h134 hI => ?_)
                        obtain ⟨hr9, hc9, hp9⟩ := h134
                        rw [hc9, hp9] at hI
                        rw [q_o8 hW hc] at hr9
                        subst hr9
                        refine lv_iload hx hb dL_areClocksSo_274 (lv_at hl 6 rfl) ?_
                        refine lv_icmp_ne (tgt := 380) hx hb dL_areClocksSo_276 (by decide) (fun c135 => absurd rfl c135) (fun _ => ?_)
                        refine lv_aload_n hx hb dL_areClocksSo_279 rfl (lv_at hl 10 rfl) ?_
                        refine lv_iload hx hb dL_areClocksSo_280 (lv_at hl 8 rfl) ?_
                        refine lv_bipush (v := 9) hx hb dL_areClocksSo_282 (by decide) ?_
                        refine c_calli (As := [.int (nI ci), .int 9]) (rest := []) hx hb hml hown hts hK hX hI 0 (by omega) cE_0 rfl (k_X5_of l dd g ad pi A hA C hIN.W hIN.g hIN.Ld (nI ci) 9) (cwV 2 hts gL_areClocksSo_X5_of rfl rfl rfl (by decide +kernel) ⟨Nat.le_of_ble_eq_true rfl, Nat.le_of_ble_eq_true rfl⟩) rfl hl (Nat.le_of_ble_eq_true rfl) ⟨Nat.zero_le _, Nat.zero_le _⟩ dL_areClocksSo_284 rfl (fun r C1 pi1 H locs h136 hI => ?_)
                        obtain ⟨hr9, hc9, hp9⟩ := h136
                        rw [hc9, hp9] at hI
                        rw [q_o9t hW hc hcan] at hr9
                        subst hr9
                        refine lv_iconst (v := 1) hx hb dL_areClocksSo_287 (by decide) ?_
                        refine lv_icmp_ne (tgt := 295) hx hb dL_areClocksSo_288 (by decide) (fun c137 => absurd (by decide) c137) (fun _ => ?_)
                        refine lv_iconst (v := 1) hx hb dL_areClocksSo_291 (by decide) ?_
                        refine lv_goto (tgt := 296) hx hb dL_areClocksSo_292 (by decide) ?_
                        refine lv_iload hx hb dL_areClocksSo_296 (lv_at hl 5 rfl) ?_
                        refine lv_icmp_ne (tgt := 380) hx hb dL_areClocksSo_298 (by decide) (fun c138 => absurd (by decide) c138) (fun _ => ?_)
                        refine lv_aload_n hx hb dL_areClocksSo_301 rfl (lv_at hl 10 rfl) ?_
                        refine lv_iload hx hb dL_areClocksSo_302 (lv_at hl 8 rfl) ?_
                        refine lv_bipush (v := 7) hx hb dL_areClocksSo_304 (by decide) ?_
                        refine c_calli (As := [.int (nI ci), .int 7]) (rest := []) hx hb hml hown hts hK hX hI 0 (by omega) cE_0 rfl (k_X5_of l dd g ad pi A hA C hIN.W hIN.g hIN.Ld (nI ci) 7) (cwV 2 hts gL_areClocksSo_X5_of rfl rfl rfl (by decide +kernel) ⟨Nat.le_of_ble_eq_true rfl, Nat.le_of_ble_eq_true rfl⟩) rfl hl (Nat.le_of_ble_eq_true rfl) ⟨Nat.zero_le _, Nat.zero_le _⟩ dL_areClocksSo_306 rfl (fun r C1 pi1 H locs h139 hI => ?_)
                        obtain ⟨hr9, hc9, hp9⟩ := h139
                        rw [hc9, hp9] at hI
                        rw [q_o7f hW hc hoff] at hr9
                        subst hr9
                        refine lv_iconst (v := 1) hx hb dL_areClocksSo_309 (by decide) ?_
                        refine lv_icmp_ne (tgt := 317) hx hb dL_areClocksSo_310 (by decide) (fun c140 => absurd (by decide) c140) (fun _ => ?_)
                        refine lv_iconst (v := 1) hx hb dL_areClocksSo_313 (by decide) ?_
                        refine lv_goto (tgt := 318) hx hb dL_areClocksSo_314 (by decide) ?_
                        refine lv_iload hx hb dL_areClocksSo_318 (lv_at hl 4 rfl) ?_
                        refine lv_if_ne (tgt := 327) hx hb dL_areClocksSo_320 (by decide) (fun c141 => absurd (by decide) c141) (fun _ => ?_)
                        refine lv_iconst (v := 1) hx hb dL_areClocksSo_323 (by decide) ?_
                        refine lv_goto (tgt := 328) hx hb dL_areClocksSo_324 (by decide) ?_
                        refine lv_icmp_ne (tgt := 380) hx hb dL_areClocksSo_328 (by decide) (fun c142 => absurd (by decide) c142) (fun _ => ?_)
                        refine lv_aload_n hx hb dL_areClocksSo_331 rfl (lv_at hl 10 rfl) ?_
                        refine lv_iload hx hb dL_areClocksSo_332 (lv_at hl 8 rfl) ?_
                        refine lv_bipush (v := 6) hx hb dL_areClocksSo_334 (by decide) ?_
                        refine c_calli (As := [.int (nI ci), .int 6]) (rest := []) hx hb hml hown hts hK hX hI 0 (by omega) cE_0 rfl (k_X5_of l dd g ad pi A hA C hIN.W hIN.g hIN.Ld (nI ci) 6) (cwV 2 hts gL_areClocksSo_X5_of rfl rfl rfl (by decide +kernel) ⟨Nat.le_of_ble_eq_true rfl, Nat.le_of_ble_eq_true rfl⟩) rfl hl (Nat.le_of_ble_eq_true rfl) ⟨Nat.zero_le _, Nat.zero_le _⟩ dL_areClocksSo_336 rfl (fun r C1 pi1 H locs h143 hI => ?_)
                        obtain ⟨hr9, hc9, hp9⟩ := h143
                        rw [hc9, hp9] at hI
                        rw [q_o6 hW hc] at hr9
                        rw [hg] at hr9
                        subst hr9
                        refine lv_iconst (v := 1) hx hb dL_areClocksSo_339 (by decide) ?_
                        refine lv_icmp_eq (tgt := 354) hx hb dL_areClocksSo_340 (by decide) (fun _ => ?_) (fun c144 => absurd (by decide) c144)
                        refine lv_aload_n hx hb dL_areClocksSo_354 rfl (lv_at hl 10 rfl) ?_
                        refine lv_iload hx hb dL_areClocksSo_355 (lv_at hl 8 rfl) ?_
                        refine lv_iconst (v := 3) hx hb dL_areClocksSo_357 (by decide) ?_
                        refine c_calli (As := [.int (nI ci), .int 3]) (rest := []) hx hb hml hown hts hK hX hI 0 (by omega) cE_0 rfl (k_X5_of l dd g ad pi A hA C hIN.W hIN.g hIN.Ld (nI ci) 3) (cwV 2 hts gL_areClocksSo_X5_of rfl rfl rfl (by decide +kernel) ⟨Nat.le_of_ble_eq_true rfl, Nat.le_of_ble_eq_true rfl⟩) rfl hl (Nat.le_of_ble_eq_true rfl) ⟨Nat.zero_le _, Nat.zero_le _⟩ dL_areClocksSo_358 rfl (fun r C1 pi1 H locs h145 hI => ?_)
                        obtain ⟨hr9, hc9, hp9⟩ := h145
                        rw [hc9, hp9] at hI
                        rw [q_o3 hW hc] at hr9
                        rw [es3] at hr9
                        subst hr9
                        refine lv_if_lt (tgt := 380) hx hb dL_areClocksSo_361 (by decide) (fun c146 => ?_) (fun c146 => ?_)
                        · skip
                          have nc146 : s3 < 0 := (nI_ltI (a := s3) (b := 0) (by omega) (by omega)).mp c146
                          exact absurd nc146 (by omega)
                        · skip
                          have nc146 : ¬ (s3 < 0) := fun h => c146 ((nI_ltI (a := s3) (b := 0) (by omega) (by omega)).mpr h)
                          refine lv_aload_n hx hb dL_areClocksSo_364 rfl (lv_at hl 10 rfl) ?_
                          refine lv_iload hx hb dL_areClocksSo_365 (lv_at hl 8 rfl) ?_
                          refine lv_iconst (v := 3) hx hb dL_areClocksSo_367 (by decide) ?_
                          refine c_calli (As := [.int (nI ci), .int 3]) (rest := []) hx hb hml hown hts hK hX hI 0 (by omega) cE_0 rfl (k_X5_of l dd g ad pi A hA C hIN.W hIN.g hIN.Ld (nI ci) 3) (cwV 2 hts gL_areClocksSo_X5_of rfl rfl rfl (by decide +kernel) ⟨Nat.le_of_ble_eq_true rfl, Nat.le_of_ble_eq_true rfl⟩) rfl hl (Nat.le_of_ble_eq_true rfl) ⟨Nat.zero_le _, Nat.zero_le _⟩ dL_areClocksSo_368 rfl (fun r C1 pi1 H locs h147 hI => ?_)
                          obtain ⟨hr9, hc9, hp9⟩ := h147
                          rw [hc9, hp9] at hI
                          rw [q_o3 hW hc] at hr9
                          rw [es3] at hr9
                          subst hr9
                          refine lv_bipush (v := 40) hx hb dL_areClocksSo_371 (by decide) ?_
                          refine lv_icmp_gt (tgt := 380) hx hb dL_areClocksSo_373 (by decide) (fun c148 => ?_) (fun c148 => ?_)
                          · skip
                            have nc148 : 40 < s3 := (nI_ltI (a := 40) (b := s3) (by omega) (by omega)).mp c148
                            exact absurd nc148 (by omega)
                          · skip
                            have nc148 : ¬ (40 < s3) := fun h => c148 ((nI_ltI (a := 40) (b := s3) (by omega) (by omega)).mpr h)
                            refine lv_iconst (v := 1) hx hb dL_areClocksSo_376 (by decide) ?_
                            refine lv_goto (tgt := 381) hx hb dL_areClocksSo_377 (by decide) ?_
                            refine lv_istore (lv' := [(5, .int 1), (4, .int (wv + ((C 0) (12 + 8 * ci + 7)))), (3, .int (nI (cN + 0))), (2, .int (nI (oN + 0))), (1, .int sv), (10, .int 0), (9, .int 1), (8, .int (o2i (ladF (C 0) ci))), (7, .int (nI ru)), (6, .int (nI ci)), (0, .ref (ad 0))]) hx hb dL_areClocksSo_381 hl (by decide) rfl (fun ls hl => ?_)
                            refine lv_iinc (v := nI (ci + 1)) (lv' := [(6, .int (nI (ci + 1))), (5, .int 1), (4, .int (wv + ((C 0) (12 + 8 * ci + 7)))), (3, .int (nI (cN + 0))), (2, .int (nI (oN + 0))), (1, .int sv), (10, .int 0), (9, .int 1), (8, .int (o2i (ladF (C 0) ci))), (7, .int (nI ru)), (0, .ref (ad 0))]) hx hb dL_areClocksSo_383 hl (k := 9) rfl (by rw [show Int32.ofInt 1 = nI 1 from rfl, nI_add]) (by decide) rfl (fun ls hl => ?_)
                            refine lv_goto (tgt := 46) hx hb dL_areClocksSo_386 (by decide) ?_
                            exact ih (ci + 1) sv (oN + 0) (cN + 0) (wv + ((C 0) (12 + 8 * ci + 7))) (by omega) (by omega) (by rw [hs]; show _ = (if _ then _ else _); rw [hg, if_neg (by decide)]) (by rw [ho]; show _ = (if _ then _ else _); rw [hoff, if_neg (by decide)]; all_goals rfl) (by rw [hk9]; show _ = (if _ then _ else _); rw [hcan, if_pos rfl]; all_goals rfl) (by rw [hw]; rfl) _ _ _ hI (lv_sub hl [0, 1, 2, 3, 4, 5, 10] rfl)
                      · skip
                        refine lv_iload_n hx hb dL_areClocksSo_200 rfl (lv_at hl 9 rfl) ?_
                        refine lv_aload_n hx hb dL_areClocksSo_201 rfl (lv_at hl 10 rfl) ?_
                        refine lv_iload hx hb dL_areClocksSo_202 (lv_at hl 4 rfl) ?_
                        refine lv_bipush (v := 6) hx hb dL_areClocksSo_204 (by decide) ?_
                        refine c_calli (As := [.int (nI ci), .int 6]) (rest := [.int sv]) hx hb hml hown hts hK hX hI 0 (by omega) cE_0 rfl (k_X5_of l dd g ad pi A hA C hIN.W hIN.g hIN.Ld (nI ci) 6) (cwV 2 hts gL_areClocksSo_X5_of rfl rfl rfl (by decide +kernel) ⟨Nat.le_of_ble_eq_true rfl, Nat.le_of_ble_eq_true rfl⟩) rfl hl (Nat.le_of_ble_eq_true rfl) ⟨Nat.zero_le _, Nat.zero_le _⟩ dL_areClocksSo_206 rfl (fun r C1 pi1 H locs h149 hI => ?_)
                        obtain ⟨hr9, hc9, hp9⟩ := h149
                        rw [hc9, hp9] at hI
                        rw [q_o6 hW hc] at hr9
                        rw [hg] at hr9
                        subst hr9
                        refine lv_if_ne (tgt := 219) hx hb dL_areClocksSo_209 (by decide) (fun c150 => absurd (by decide) c150) (fun _ => ?_)
                        refine lv_iconst (v := 1) hx hb dL_areClocksSo_212 (by decide) ?_
                        refine lv_iload hx hb dL_areClocksSo_213 (lv_at hl 4 rfl) ?_
                        refine lv_ishl hx hb dL_areClocksSo_215 ?_
                        refine lv_goto (tgt := 220) hx hb dL_areClocksSo_216 (by decide) ?_
                        refine lv_ior hx hb dL_areClocksSo_220 ?_
                        refine lv_istore_n (lv' := [(1, .int (sv ||| (1 <<< ((nI ci) &&& 31)))), (10, .int 0), (9, .int 1), (8, .int (o2i (ladF (C 0) ci))), (7, .int (nI ru)), (6, .int (nI ci)), (5, .int 1), (4, .int wv), (3, .int (nI cN)), (2, .int (nI oN)), (0, .ref (ad 0))]) hx hb dL_areClocksSo_221 rfl hl (by decide) rfl (fun ls hl => ?_)
                        refine lv_iload_n hx hb dL_areClocksSo_222 rfl (lv_at hl 9 rfl) ?_
                        refine lv_iload hx hb dL_areClocksSo_223 (lv_at hl 1 rfl) ?_
                        refine lv_if_eq (tgt := 232) hx hb dL_areClocksSo_225 (by decide) (fun _ => ?_) (fun c151 => absurd (by decide) c151)
                        refine lv_iconst (v := 0) hx hb dL_areClocksSo_232 (by decide) ?_
                        refine lv_iadd hx hb dL_areClocksSo_233 ?_
                        refine lv_re (y := nI (oN + 0)) (nI_add (oN) (0)) ?_
                        refine lv_istore_n (lv' := [(2, .int (nI (oN + 0))), (1, .int (sv ||| (1 <<< ((nI ci) &&& 31)))), (10, .int 0), (9, .int 1), (8, .int (o2i (ladF (C 0) ci))), (7, .int (nI ru)), (6, .int (nI ci)), (5, .int 1), (4, .int wv), (3, .int (nI cN)), (0, .ref (ad 0))]) hx hb dL_areClocksSo_234 rfl hl (by decide) rfl (fun ls hl => ?_)
                        refine lv_iload_n hx hb dL_areClocksSo_235 rfl (lv_at hl 9 rfl) ?_
                        refine lv_iload hx hb dL_areClocksSo_236 (lv_at hl 3 rfl) ?_
                        refine lv_if_eq (tgt := 245) hx hb dL_areClocksSo_238 (by decide) (fun c152 => absurd c152 (by decide)) (fun _ => ?_)
                        refine lv_iconst (v := 0) hx hb dL_areClocksSo_241 (by decide) ?_
                        refine lv_goto (tgt := 246) hx hb dL_areClocksSo_242 (by decide) ?_
                        refine lv_iadd hx hb dL_areClocksSo_246 ?_
                        refine lv_re (y := nI (cN + 0)) (nI_add (cN) (0)) ?_
                        refine lv_istore_n (lv' := [(3, .int (nI (cN + 0))), (2, .int (nI (oN + 0))), (1, .int (sv ||| (1 <<< ((nI ci) &&& 31)))), (10, .int 0), (9, .int 1), (8, .int (o2i (ladF (C 0) ci))), (7, .int (nI ru)), (6, .int (nI ci)), (5, .int 1), (4, .int wv), (0, .ref (ad 0))]) hx hb dL_areClocksSo_247 rfl hl (by decide) rfl (fun ls hl => ?_)
                        refine lv_iload hx hb dL_areClocksSo_248 (lv_at hl 9 rfl) ?_
                        refine lv_aload_n hx hb dL_areClocksSo_250 rfl (lv_at hl 10 rfl) ?_
                        refine lv_iload hx hb dL_areClocksSo_251 (lv_at hl 7 rfl) ?_
                        refine lv_bipush (v := 10) hx hb dL_areClocksSo_253 (by decide) ?_
                        refine c_calli (As := [.int (nI ci), .int 10]) (rest := [.int wv]) hx hb hml hown hts hK hX hI 0 (by omega) cE_0 rfl (k_X5_of l dd g ad pi A hA C hIN.W hIN.g hIN.Ld (nI ci) 10) (cwV 2 hts gL_areClocksSo_X5_of rfl rfl rfl (by decide +kernel) ⟨Nat.le_of_ble_eq_true rfl, Nat.le_of_ble_eq_true rfl⟩) rfl hl (Nat.le_of_ble_eq_true rfl) ⟨Nat.zero_le _, Nat.zero_le _⟩ dL_areClocksSo_255 rfl (fun r C1 pi1 H locs h153 hI => ?_)
                        obtain ⟨hr9, hc9, hp9⟩ := h153
                        rw [hc9, hp9] at hI
                        rw [q_o10 hW hc] at hr9
                        subst hr9
                        refine lv_iadd hx hb dL_areClocksSo_258 ?_
                        refine lv_istore (lv' := [(4, .int (wv + ((C 0) (12 + 8 * ci + 7)))), (3, .int (nI (cN + 0))), (2, .int (nI (oN + 0))), (1, .int (sv ||| (1 <<< ((nI ci) &&& 31)))), (10, .int 0), (9, .int 1), (8, .int (o2i (ladF (C 0) ci))), (7, .int (nI ru)), (6, .int (nI ci)), (5, .int 1), (0, .ref (ad 0))]) hx hb dL_areClocksSo_259 hl (by decide) rfl (fun ls hl => ?_)
                        refine lv_iload hx hb dL_areClocksSo_261 (lv_at hl 9 rfl) ?_
                        refine lv_if_eq (tgt := 380) hx hb dL_areClocksSo_263 (by decide) (fun c154 => absurd c154 (by decide)) (fun _ => ?_)
                        refine lv_aload_n hx hb dL_areClocksSo_266 rfl (lv_at hl 10 rfl) ?_
                        refine lv_iload hx hb dL_areClocksSo_267 (lv_at hl 8 rfl) ?_
                        refine lv_bipush (v := 8) hx hb dL_areClocksSo_269 (by decide) ?_
                        refine c_calli (As := [.int (nI ci), .int 8]) (rest := []) hx hb hml hown hts hK hX hI 0 (by omega) cE_0 rfl (k_X5_of l dd g ad pi A hA C hIN.W hIN.g hIN.Ld (nI ci) 8) (cwV 2 hts gL_areClocksSo_X5_of rfl rfl rfl (by decide +kernel) ⟨Nat.le_of_ble_eq_true rfl, Nat.le_of_ble_eq_true rfl⟩) rfl hl (Nat.le_of_ble_eq_true rfl) ⟨Nat.zero_le _, Nat.zero_le _⟩ dL_areClocksSo_271 rfl (fun r C1 pi1 H locs h155 hI => ?_)
                        obtain ⟨hr9, hc9, hp9⟩ := h155
                        rw [hc9, hp9] at hI
                        rw [q_o8 hW hc] at hr9
                        subst hr9
                        refine lv_iload hx hb dL_areClocksSo_274 (lv_at hl 6 rfl) ?_
                        refine lv_icmp_ne (tgt := 380) hx hb dL_areClocksSo_276 (by decide) (fun c156 => absurd rfl c156) (fun _ => ?_)
                        refine lv_aload_n hx hb dL_areClocksSo_279 rfl (lv_at hl 10 rfl) ?_
                        refine lv_iload hx hb dL_areClocksSo_280 (lv_at hl 8 rfl) ?_
                        refine lv_bipush (v := 9) hx hb dL_areClocksSo_282 (by decide) ?_
                        refine c_calli (As := [.int (nI ci), .int 9]) (rest := []) hx hb hml hown hts hK hX hI 0 (by omega) cE_0 rfl (k_X5_of l dd g ad pi A hA C hIN.W hIN.g hIN.Ld (nI ci) 9) (cwV 2 hts gL_areClocksSo_X5_of rfl rfl rfl (by decide +kernel) ⟨Nat.le_of_ble_eq_true rfl, Nat.le_of_ble_eq_true rfl⟩) rfl hl (Nat.le_of_ble_eq_true rfl) ⟨Nat.zero_le _, Nat.zero_le _⟩ dL_areClocksSo_284 rfl (fun r C1 pi1 H locs h157 hI => ?_)
                        obtain ⟨hr9, hc9, hp9⟩ := h157
                        rw [hc9, hp9] at hI
                        rw [q_o9t hW hc hcan] at hr9
                        subst hr9
                        refine lv_iconst (v := 1) hx hb dL_areClocksSo_287 (by decide) ?_
                        refine lv_icmp_ne (tgt := 295) hx hb dL_areClocksSo_288 (by decide) (fun c158 => absurd (by decide) c158) (fun _ => ?_)
                        refine lv_iconst (v := 1) hx hb dL_areClocksSo_291 (by decide) ?_
                        refine lv_goto (tgt := 296) hx hb dL_areClocksSo_292 (by decide) ?_
                        refine lv_iload hx hb dL_areClocksSo_296 (lv_at hl 5 rfl) ?_
                        refine lv_icmp_ne (tgt := 380) hx hb dL_areClocksSo_298 (by decide) (fun c159 => absurd (by decide) c159) (fun _ => ?_)
                        refine lv_aload_n hx hb dL_areClocksSo_301 rfl (lv_at hl 10 rfl) ?_
                        refine lv_iload hx hb dL_areClocksSo_302 (lv_at hl 8 rfl) ?_
                        refine lv_bipush (v := 7) hx hb dL_areClocksSo_304 (by decide) ?_
                        refine c_calli (As := [.int (nI ci), .int 7]) (rest := []) hx hb hml hown hts hK hX hI 0 (by omega) cE_0 rfl (k_X5_of l dd g ad pi A hA C hIN.W hIN.g hIN.Ld (nI ci) 7) (cwV 2 hts gL_areClocksSo_X5_of rfl rfl rfl (by decide +kernel) ⟨Nat.le_of_ble_eq_true rfl, Nat.le_of_ble_eq_true rfl⟩) rfl hl (Nat.le_of_ble_eq_true rfl) ⟨Nat.zero_le _, Nat.zero_le _⟩ dL_areClocksSo_306 rfl (fun r C1 pi1 H locs h160 hI => ?_)
                        obtain ⟨hr9, hc9, hp9⟩ := h160
                        rw [hc9, hp9] at hI
                        rw [q_o7f hW hc hoff] at hr9
                        subst hr9
                        refine lv_iconst (v := 1) hx hb dL_areClocksSo_309 (by decide) ?_
                        refine lv_icmp_ne (tgt := 317) hx hb dL_areClocksSo_310 (by decide) (fun c161 => absurd (by decide) c161) (fun _ => ?_)
                        refine lv_iconst (v := 1) hx hb dL_areClocksSo_313 (by decide) ?_
                        refine lv_goto (tgt := 318) hx hb dL_areClocksSo_314 (by decide) ?_
                        refine lv_iload hx hb dL_areClocksSo_318 (lv_at hl 4 rfl) ?_
                        refine lv_if_ne (tgt := 327) hx hb dL_areClocksSo_320 (by decide) (fun c162 => absurd (by decide) c162) (fun _ => ?_)
                        refine lv_iconst (v := 1) hx hb dL_areClocksSo_323 (by decide) ?_
                        refine lv_goto (tgt := 328) hx hb dL_areClocksSo_324 (by decide) ?_
                        refine lv_icmp_ne (tgt := 380) hx hb dL_areClocksSo_328 (by decide) (fun c163 => absurd (by decide) c163) (fun _ => ?_)
                        refine lv_aload_n hx hb dL_areClocksSo_331 rfl (lv_at hl 10 rfl) ?_
                        refine lv_iload hx hb dL_areClocksSo_332 (lv_at hl 8 rfl) ?_
                        refine lv_bipush (v := 6) hx hb dL_areClocksSo_334 (by decide) ?_
                        refine c_calli (As := [.int (nI ci), .int 6]) (rest := []) hx hb hml hown hts hK hX hI 0 (by omega) cE_0 rfl (k_X5_of l dd g ad pi A hA C hIN.W hIN.g hIN.Ld (nI ci) 6) (cwV 2 hts gL_areClocksSo_X5_of rfl rfl rfl (by decide +kernel) ⟨Nat.le_of_ble_eq_true rfl, Nat.le_of_ble_eq_true rfl⟩) rfl hl (Nat.le_of_ble_eq_true rfl) ⟨Nat.zero_le _, Nat.zero_le _⟩ dL_areClocksSo_336 rfl (fun r C1 pi1 H locs h164 hI => ?_)
                        obtain ⟨hr9, hc9, hp9⟩ := h164
                        rw [hc9, hp9] at hI
                        rw [q_o6 hW hc] at hr9
                        rw [hg] at hr9
                        subst hr9
                        refine lv_iconst (v := 1) hx hb dL_areClocksSo_339 (by decide) ?_
                        refine lv_icmp_eq (tgt := 354) hx hb dL_areClocksSo_340 (by decide) (fun c165 => absurd c165 (by decide)) (fun _ => ?_)
                        refine lv_aload_n hx hb dL_areClocksSo_343 rfl (lv_at hl 10 rfl) ?_
                        refine lv_iload hx hb dL_areClocksSo_344 (lv_at hl 8 rfl) ?_
                        refine c_callC (As := [.ref (ad 0), .int (nI ci)]) (rest := []) hx hb hml hown hts hK hX hI (k_L_off l dd g ad pi A hA C hIN.W hIN.g hIN.Ld ci hc) (va_cwS 2 hts gL_areClocksSo_L_off rfl rfl rfl (by decide +kernel) ⟨Nat.le_of_ble_eq_true rfl, Nat.le_of_ble_eq_true rfl⟩) rfl hl (Nat.le_of_ble_eq_true rfl) ⟨Nat.zero_le _, Nat.zero_le _⟩ dL_areClocksSo_346 rfl (fun r C1 pi1 H locs h166 hI => ?_)
                        obtain ⟨hr9, hc9, hp9⟩ := h166
                        rw [hc9, hp9] at hI
                        rw [hg4] at hr9
                        subst hr9
                        refine lv_ldc hx hb hown (hts (.constant RL 54 (43200)) (by decide +kernel)) dL_areClocksSo_349 ?_
                        refine lv_icmp_ne (tgt := 380) hx hb dL_areClocksSo_351 (by decide) (fun c167 => absurd (by decide) c167) (fun _ => ?_)
                        refine lv_aload_n hx hb dL_areClocksSo_354 rfl (lv_at hl 10 rfl) ?_
                        refine lv_iload hx hb dL_areClocksSo_355 (lv_at hl 8 rfl) ?_
                        refine lv_iconst (v := 3) hx hb dL_areClocksSo_357 (by decide) ?_
                        refine c_calli (As := [.int (nI ci), .int 3]) (rest := []) hx hb hml hown hts hK hX hI 0 (by omega) cE_0 rfl (k_X5_of l dd g ad pi A hA C hIN.W hIN.g hIN.Ld (nI ci) 3) (cwV 2 hts gL_areClocksSo_X5_of rfl rfl rfl (by decide +kernel) ⟨Nat.le_of_ble_eq_true rfl, Nat.le_of_ble_eq_true rfl⟩) rfl hl (Nat.le_of_ble_eq_true rfl) ⟨Nat.zero_le _, Nat.zero_le _⟩ dL_areClocksSo_358 rfl (fun r C1 pi1 H locs h168 hI => ?_)
                        obtain ⟨hr9, hc9, hp9⟩ := h168
                        rw [hc9, hp9] at hI
                        rw [q_o3 hW hc] at hr9
                        rw [es3] at hr9
                        subst hr9
                        refine lv_if_lt (tgt := 380) hx hb dL_areClocksSo_361 (by decide) (fun c169 => ?_) (fun c169 => ?_)
                        · skip
                          have nc169 : s3 < 0 := (nI_ltI (a := s3) (b := 0) (by omega) (by omega)).mp c169
                          exact absurd nc169 (by omega)
                        · skip
                          have nc169 : ¬ (s3 < 0) := fun h => c169 ((nI_ltI (a := s3) (b := 0) (by omega) (by omega)).mpr h)
                          refine lv_aload_n hx hb dL_areClocksSo_364 rfl (lv_at hl 10 rfl) ?_
                          refine lv_iload hx hb dL_areClocksSo_365 (lv_at hl 8 rfl) ?_
                          refine lv_iconst (v := 3) hx hb dL_areClocksSo_367 (by decide) ?_
                          refine c_calli (As := [.int (nI ci), .int 3]) (rest := []) hx hb hml hown hts hK hX hI 0 (by omega) cE_0 rfl (k_X5_of l dd g ad pi A hA C hIN.W hIN.g hIN.Ld (nI ci) 3) (cwV 2 hts gL_areClocksSo_X5_of rfl rfl rfl (by decide +kernel) ⟨Nat.le_of_ble_eq_true rfl, Nat.le_of_ble_eq_true rfl⟩) rfl hl (Nat.le_of_ble_eq_true rfl) ⟨Nat.zero_le _, Nat.zero_le _⟩ dL_areClocksSo_368 rfl (fun r C1 pi1 H locs h170 hI => ?_)
                          obtain ⟨hr9, hc9, hp9⟩ := h170
                          rw [hc9, hp9] at hI
                          rw [q_o3 hW hc] at hr9
                          rw [es3] at hr9
                          subst hr9
                          refine lv_bipush (v := 40) hx hb dL_areClocksSo_371 (by decide) ?_
                          refine lv_icmp_gt (tgt := 380) hx hb dL_areClocksSo_373 (by decide) (fun c171 => ?_) (fun c171 => ?_)
                          · skip
                            have nc171 : 40 < s3 := (nI_ltI (a := 40) (b := s3) (by omega) (by omega)).mp c171
                            exact absurd nc171 (by omega)
                          · skip
                            have nc171 : ¬ (40 < s3) := fun h => c171 ((nI_ltI (a := 40) (b := s3) (by omega) (by omega)).mpr h)
                            refine lv_iconst (v := 1) hx hb dL_areClocksSo_376 (by decide) ?_
                            refine lv_goto (tgt := 381) hx hb dL_areClocksSo_377 (by decide) ?_
                            refine lv_istore (lv' := [(5, .int 1), (4, .int (wv + ((C 0) (12 + 8 * ci + 7)))), (3, .int (nI (cN + 0))), (2, .int (nI (oN + 0))), (1, .int (sv ||| (1 <<< ((nI ci) &&& 31)))), (10, .int 0), (9, .int 1), (8, .int (o2i (ladF (C 0) ci))), (7, .int (nI ru)), (6, .int (nI ci)), (0, .ref (ad 0))]) hx hb dL_areClocksSo_381 hl (by decide) rfl (fun ls hl => ?_)
                            refine lv_iinc (v := nI (ci + 1)) (lv' := [(6, .int (nI (ci + 1))), (5, .int 1), (4, .int (wv + ((C 0) (12 + 8 * ci + 7)))), (3, .int (nI (cN + 0))), (2, .int (nI (oN + 0))), (1, .int (sv ||| (1 <<< ((nI ci) &&& 31)))), (10, .int 0), (9, .int 1), (8, .int (o2i (ladF (C 0) ci))), (7, .int (nI ru)), (0, .ref (ad 0))]) hx hb dL_areClocksSo_383 hl (k := 9) rfl (by rw [show Int32.ofInt 1 = nI 1 from rfl, nI_add]) (by decide) rfl (fun ls hl => ?_)
                            refine lv_goto (tgt := 46) hx hb dL_areClocksSo_386 (by decide) ?_
                            exact ih (ci + 1) (sv ||| (1 <<< ((nI ci) &&& 31))) (oN + 0) (cN + 0) (wv + ((C 0) (12 + 8 * ci + 7))) (by omega) (by omega) (by rw [hs]; show _ = (if _ then _ else _); rw [hg, if_pos rfl]) (by rw [ho]; show _ = (if _ then _ else _); rw [hoff, if_neg (by decide)]; all_goals rfl) (by rw [hk9]; show _ = (if _ then _ else _); rw [hcan, if_pos rfl]; all_goals rfl) (by rw [hw]; rfl) _ _ _ hI (lv_sub hl [0, 1, 2, 3, 4, 5, 10] rfl)
                    refine lv_aload_n hx hb dL_areClocksSo_162 rfl (lv_at hl 9 rfl) ?_
                    refine lv_iload hx hb dL_areClocksSo_163 (lv_at hl 3 rfl) ?_
                    refine c_callC (As := [.ref (ad 0), .int (nI ci)]) (rest := []) hx hb hml hown hts hK hX hI (k_L_off l dd g ad pi A hA C hIN.W hIN.g hIN.Ld ci hc) (va_cwS 2 hts gL_areClocksSo_L_off rfl rfl rfl (by decide +kernel) ⟨Nat.le_of_ble_eq_true rfl, Nat.le_of_ble_eq_true rfl⟩) rfl hl (Nat.le_of_ble_eq_true rfl) ⟨Nat.zero_le _, Nat.zero_le _⟩ dL_areClocksSo_165 rfl (fun r C1 pi1 H locs h172 hI => ?_)
                    obtain ⟨hr9, hc9, hp9⟩ := h172
                    rw [hc9, hp9] at hI
                    subst hr9
                    refine lv_aload_n hx hb dL_areClocksSo_168 rfl (lv_at hl 9 rfl) ?_
                    refine lv_bipush (v := 8) hx hb dL_areClocksSo_169 (by decide) ?_
                    refine c_calli (As := [.int 8]) (rest := [.int ((C 0) (12 + 8 * ci + 4))]) hx hb hml hown hts hK hX hI 0 (by omega) cE_0 rfl (k_X5_count l dd g ad pi A hA C hIN.W hIN.g hIN.Ld 8) (cwV 1 hts gL_areClocksSo_X5_count rfl rfl rfl (by decide +kernel) ⟨Nat.le_of_ble_eq_true rfl, Nat.le_of_ble_eq_true rfl⟩) rfl hl (Nat.le_of_ble_eq_true rfl) ⟨Nat.zero_le _, Nat.zero_le _⟩ dL_areClocksSo_171 rfl (fun r C1 pi1 H locs h173 hI => ?_)
                    obtain ⟨hr9, hc9, hp9⟩ := h173
                    rw [hc9, hp9] at hI
                    rw [q_c8] at hr9
                    subst hr9
                    refine lv_icmp_gt (tgt := 193) hx hb dL_areClocksSo_174 (by decide) (fun c174 => ?_) (fun c174 => ?_)
                    · skip
                      exact absurd (Or.inl c174) ho9
                    · skip
                      refine lv_aload_n hx hb dL_areClocksSo_177 rfl (lv_at hl 9 rfl) ?_
                      refine lv_iload hx hb dL_areClocksSo_178 (lv_at hl 3 rfl) ?_
                      refine c_callC (As := [.ref (ad 0), .int (nI ci)]) (rest := []) hx hb hml hown hts hK hX hI (k_L_off l dd g ad pi A hA C hIN.W hIN.g hIN.Ld ci hc) (va_cwS 2 hts gL_areClocksSo_L_off rfl rfl rfl (by decide +kernel) ⟨Nat.le_of_ble_eq_true rfl, Nat.le_of_ble_eq_true rfl⟩) rfl hl (Nat.le_of_ble_eq_true rfl) ⟨Nat.zero_le _, Nat.zero_le _⟩ dL_areClocksSo_180 rfl (fun r C1 pi1 H locs h175 hI => ?_)
                      obtain ⟨hr9, hc9, hp9⟩ := h175
                      rw [hc9, hp9] at hI
                      subst hr9
                      refine lv_aload_n hx hb dL_areClocksSo_183 rfl (lv_at hl 9 rfl) ?_
                      refine lv_bipush (v := 8) hx hb dL_areClocksSo_184 (by decide) ?_
                      refine c_calli (As := [.int 8]) (rest := [.int ((C 0) (12 + 8 * ci + 4))]) hx hb hml hown hts hK hX hI 0 (by omega) cE_0 rfl (k_X5_count l dd g ad pi A hA C hIN.W hIN.g hIN.Ld 8) (cwV 1 hts gL_areClocksSo_X5_count rfl rfl rfl (by decide +kernel) ⟨Nat.le_of_ble_eq_true rfl, Nat.le_of_ble_eq_true rfl⟩) rfl hl (Nat.le_of_ble_eq_true rfl) ⟨Nat.zero_le _, Nat.zero_le _⟩ dL_areClocksSo_186 rfl (fun r C1 pi1 H locs h176 hI => ?_)
                      obtain ⟨hr9, hc9, hp9⟩ := h176
                      rw [hc9, hp9] at hI
                      rw [q_c8] at hr9
                      subst hr9
                      refine lv_ineg hx hb dL_areClocksSo_189 ?_
                      refine lv_icmp_ge (tgt := 197) hx hb dL_areClocksSo_190 (by decide) (fun c177 => ?_) (fun c177 => ?_)
                      · skip
                        refine lv_iconst (v := 0) hx hb dL_areClocksSo_197 (by decide) ?_
                        exact J127 _ _ _ hI (lv_sub hl [0, 1, 2, 3, 4, 5, 6, 7, 8, 9] rfl)
                      · skip
                        exact absurd (Or.inr (Int32.not_le.mp c177)) ho9
                  · skip
                    have ho9 := (hIN.2.2.2.1.off hB hc).mp hoff
                    have J178 : ∀ (H : Heap) (locs : List Loc) (ls : Array Slot), cI dd g ad pi A s.heap H locs C → lv_has ls 11 [(9, .int 1), (8, .int (o2i (ladF (C 0) ci))), (7, .int (nI ru)), (6, .int (nI ci)), (5, .int 1), (4, .int wv), (3, .int (nI cN)), (2, .int (nI oN)), (1, .int sv), (0, .ref (ad 0))] → wk p l e wsL_areClocksSo { frames := 4, cells := 0, slots := 0, locals := 89 } s m [.ref (ad 0)] below meth c H locs (cQi dd g ad A (fun r C1 pi1 => r = 1 ∧ C1 = C ∧ pi1 = pi)) (A) (F0 m 198 ls [.int 1]) := by
                      intro H locs ls hI hl
                      refine lv_istore (lv' := [(10, .int 1), (9, .int 1), (8, .int (o2i (ladF (C 0) ci))), (7, .int (nI ru)), (6, .int (nI ci)), (5, .int 1), (4, .int wv), (3, .int (nI cN)), (2, .int (nI oN)), (1, .int sv), (0, .ref (ad 0))]) hx hb dL_areClocksSo_198 hl (by decide) rfl (fun ls hl => ?_)
                      rcases cl_go hV hc with hg | ⟨hg, hg4⟩
                      · skip
                        refine lv_iload_n hx hb dL_areClocksSo_200 rfl (lv_at hl 9 rfl) ?_
                        refine lv_aload_n hx hb dL_areClocksSo_201 rfl (lv_at hl 10 rfl) ?_
                        refine lv_iload hx hb dL_areClocksSo_202 (lv_at hl 4 rfl) ?_
                        refine lv_bipush (v := 6) hx hb dL_areClocksSo_204 (by decide) ?_
                        refine c_calli (As := [.int (nI ci), .int 6]) (rest := [.int sv]) hx hb hml hown hts hK hX hI 0 (by omega) cE_0 rfl (k_X5_of l dd g ad pi A hA C hIN.W hIN.g hIN.Ld (nI ci) 6) (cwV 2 hts gL_areClocksSo_X5_of rfl rfl rfl (by decide +kernel) ⟨Nat.le_of_ble_eq_true rfl, Nat.le_of_ble_eq_true rfl⟩) rfl hl (Nat.le_of_ble_eq_true rfl) ⟨Nat.zero_le _, Nat.zero_le _⟩ dL_areClocksSo_206 rfl (fun r C1 pi1 H locs h179 hI => ?_)
                        obtain ⟨hr9, hc9, hp9⟩ := h179
                        rw [hc9, hp9] at hI
                        rw [q_o6 hW hc] at hr9
                        rw [hg] at hr9
                        subst hr9
                        refine lv_if_ne (tgt := 219) hx hb dL_areClocksSo_209 (by decide) (fun _ => ?_) (fun c180 => absurd c180 (by decide))
                        refine lv_iconst (v := 0) hx hb dL_areClocksSo_219 (by decide) ?_
                        refine lv_ior hx hb dL_areClocksSo_220 ?_
                        refine lv_re (y := sv) (Int32.or_zero) ?_
                        refine lv_istore_n (lv' := [(1, .int sv), (10, .int 1), (9, .int 1), (8, .int (o2i (ladF (C 0) ci))), (7, .int (nI ru)), (6, .int (nI ci)), (5, .int 1), (4, .int wv), (3, .int (nI cN)), (2, .int (nI oN)), (0, .ref (ad 0))]) hx hb dL_areClocksSo_221 rfl hl (by decide) rfl (fun ls hl => ?_)
                        refine lv_iload_n hx hb dL_areClocksSo_222 rfl (lv_at hl 9 rfl) ?_
                        refine lv_iload hx hb dL_areClocksSo_223 (lv_at hl 1 rfl) ?_
                        refine lv_if_eq (tgt := 232) hx hb dL_areClocksSo_225 (by decide) (fun c181 => absurd c181 (by decide)) (fun _ => ?_)
                        refine lv_iconst (v := 1) hx hb dL_areClocksSo_228 (by decide) ?_
                        refine lv_goto (tgt := 233) hx hb dL_areClocksSo_229 (by decide) ?_
                        refine lv_iadd hx hb dL_areClocksSo_233 ?_
                        refine lv_re (y := nI (oN + 1)) (nI_add (oN) (1)) ?_
                        refine lv_istore_n (lv' := [(2, .int (nI (oN + 1))), (1, .int sv), (10, .int 1), (9, .int 1), (8, .int (o2i (ladF (C 0) ci))), (7, .int (nI ru)), (6, .int (nI ci)), (5, .int 1), (4, .int wv), (3, .int (nI cN)), (0, .ref (ad 0))]) hx hb dL_areClocksSo_234 rfl hl (by decide) rfl (fun ls hl => ?_)
                        refine lv_iload_n hx hb dL_areClocksSo_235 rfl (lv_at hl 9 rfl) ?_
                        refine lv_iload hx hb dL_areClocksSo_236 (lv_at hl 3 rfl) ?_
                        refine lv_if_eq (tgt := 245) hx hb dL_areClocksSo_238 (by decide) (fun c182 => absurd c182 (by decide)) (fun _ => ?_)
                        refine lv_iconst (v := 0) hx hb dL_areClocksSo_241 (by decide) ?_
                        refine lv_goto (tgt := 246) hx hb dL_areClocksSo_242 (by decide) ?_
                        refine lv_iadd hx hb dL_areClocksSo_246 ?_
                        refine lv_re (y := nI (cN + 0)) (nI_add (cN) (0)) ?_
                        refine lv_istore_n (lv' := [(3, .int (nI (cN + 0))), (2, .int (nI (oN + 1))), (1, .int sv), (10, .int 1), (9, .int 1), (8, .int (o2i (ladF (C 0) ci))), (7, .int (nI ru)), (6, .int (nI ci)), (5, .int 1), (4, .int wv), (0, .ref (ad 0))]) hx hb dL_areClocksSo_247 rfl hl (by decide) rfl (fun ls hl => ?_)
                        refine lv_iload hx hb dL_areClocksSo_248 (lv_at hl 9 rfl) ?_
                        refine lv_aload_n hx hb dL_areClocksSo_250 rfl (lv_at hl 10 rfl) ?_
                        refine lv_iload hx hb dL_areClocksSo_251 (lv_at hl 7 rfl) ?_
                        refine lv_bipush (v := 10) hx hb dL_areClocksSo_253 (by decide) ?_
                        refine c_calli (As := [.int (nI ci), .int 10]) (rest := [.int wv]) hx hb hml hown hts hK hX hI 0 (by omega) cE_0 rfl (k_X5_of l dd g ad pi A hA C hIN.W hIN.g hIN.Ld (nI ci) 10) (cwV 2 hts gL_areClocksSo_X5_of rfl rfl rfl (by decide +kernel) ⟨Nat.le_of_ble_eq_true rfl, Nat.le_of_ble_eq_true rfl⟩) rfl hl (Nat.le_of_ble_eq_true rfl) ⟨Nat.zero_le _, Nat.zero_le _⟩ dL_areClocksSo_255 rfl (fun r C1 pi1 H locs h183 hI => ?_)
                        obtain ⟨hr9, hc9, hp9⟩ := h183
                        rw [hc9, hp9] at hI
                        rw [q_o10 hW hc] at hr9
                        subst hr9
                        refine lv_iadd hx hb dL_areClocksSo_258 ?_
                        refine lv_istore (lv' := [(4, .int (wv + ((C 0) (12 + 8 * ci + 7)))), (3, .int (nI (cN + 0))), (2, .int (nI (oN + 1))), (1, .int sv), (10, .int 1), (9, .int 1), (8, .int (o2i (ladF (C 0) ci))), (7, .int (nI ru)), (6, .int (nI ci)), (5, .int 1), (0, .ref (ad 0))]) hx hb dL_areClocksSo_259 hl (by decide) rfl (fun ls hl => ?_)
                        refine lv_iload hx hb dL_areClocksSo_261 (lv_at hl 9 rfl) ?_
                        refine lv_if_eq (tgt := 380) hx hb dL_areClocksSo_263 (by decide) (fun c184 => absurd c184 (by decide)) (fun _ => ?_)
                        refine lv_aload_n hx hb dL_areClocksSo_266 rfl (lv_at hl 10 rfl) ?_
                        refine lv_iload hx hb dL_areClocksSo_267 (lv_at hl 8 rfl) ?_
                        refine lv_bipush (v := 8) hx hb dL_areClocksSo_269 (by decide) ?_
                        refine c_calli (As := [.int (nI ci), .int 8]) (rest := []) hx hb hml hown hts hK hX hI 0 (by omega) cE_0 rfl (k_X5_of l dd g ad pi A hA C hIN.W hIN.g hIN.Ld (nI ci) 8) (cwV 2 hts gL_areClocksSo_X5_of rfl rfl rfl (by decide +kernel) ⟨Nat.le_of_ble_eq_true rfl, Nat.le_of_ble_eq_true rfl⟩) rfl hl (Nat.le_of_ble_eq_true rfl) ⟨Nat.zero_le _, Nat.zero_le _⟩ dL_areClocksSo_271 rfl (fun r C1 pi1 H locs h185 hI => ?_)
                        obtain ⟨hr9, hc9, hp9⟩ := h185
                        rw [hc9, hp9] at hI
                        rw [q_o8 hW hc] at hr9
                        subst hr9
                        refine lv_iload hx hb dL_areClocksSo_274 (lv_at hl 6 rfl) ?_
                        refine lv_icmp_ne (tgt := 380) hx hb dL_areClocksSo_276 (by decide) (fun c186 => absurd rfl c186) (fun _ => ?_)
                        refine lv_aload_n hx hb dL_areClocksSo_279 rfl (lv_at hl 10 rfl) ?_
                        refine lv_iload hx hb dL_areClocksSo_280 (lv_at hl 8 rfl) ?_
                        refine lv_bipush (v := 9) hx hb dL_areClocksSo_282 (by decide) ?_
                        refine c_calli (As := [.int (nI ci), .int 9]) (rest := []) hx hb hml hown hts hK hX hI 0 (by omega) cE_0 rfl (k_X5_of l dd g ad pi A hA C hIN.W hIN.g hIN.Ld (nI ci) 9) (cwV 2 hts gL_areClocksSo_X5_of rfl rfl rfl (by decide +kernel) ⟨Nat.le_of_ble_eq_true rfl, Nat.le_of_ble_eq_true rfl⟩) rfl hl (Nat.le_of_ble_eq_true rfl) ⟨Nat.zero_le _, Nat.zero_le _⟩ dL_areClocksSo_284 rfl (fun r C1 pi1 H locs h187 hI => ?_)
                        obtain ⟨hr9, hc9, hp9⟩ := h187
                        rw [hc9, hp9] at hI
                        rw [q_o9t hW hc hcan] at hr9
                        subst hr9
                        refine lv_iconst (v := 1) hx hb dL_areClocksSo_287 (by decide) ?_
                        refine lv_icmp_ne (tgt := 295) hx hb dL_areClocksSo_288 (by decide) (fun c188 => absurd (by decide) c188) (fun _ => ?_)
                        refine lv_iconst (v := 1) hx hb dL_areClocksSo_291 (by decide) ?_
                        refine lv_goto (tgt := 296) hx hb dL_areClocksSo_292 (by decide) ?_
                        refine lv_iload hx hb dL_areClocksSo_296 (lv_at hl 5 rfl) ?_
                        refine lv_icmp_ne (tgt := 380) hx hb dL_areClocksSo_298 (by decide) (fun c189 => absurd (by decide) c189) (fun _ => ?_)
                        refine lv_aload_n hx hb dL_areClocksSo_301 rfl (lv_at hl 10 rfl) ?_
                        refine lv_iload hx hb dL_areClocksSo_302 (lv_at hl 8 rfl) ?_
                        refine lv_bipush (v := 7) hx hb dL_areClocksSo_304 (by decide) ?_
                        refine c_calli (As := [.int (nI ci), .int 7]) (rest := []) hx hb hml hown hts hK hX hI 0 (by omega) cE_0 rfl (k_X5_of l dd g ad pi A hA C hIN.W hIN.g hIN.Ld (nI ci) 7) (cwV 2 hts gL_areClocksSo_X5_of rfl rfl rfl (by decide +kernel) ⟨Nat.le_of_ble_eq_true rfl, Nat.le_of_ble_eq_true rfl⟩) rfl hl (Nat.le_of_ble_eq_true rfl) ⟨Nat.zero_le _, Nat.zero_le _⟩ dL_areClocksSo_306 rfl (fun r C1 pi1 H locs h190 hI => ?_)
                        obtain ⟨hr9, hc9, hp9⟩ := h190
                        rw [hc9, hp9] at hI
                        rw [q_o7t hW hc hoff] at hr9
                        subst hr9
                        refine lv_iconst (v := 1) hx hb dL_areClocksSo_309 (by decide) ?_
                        refine lv_icmp_ne (tgt := 317) hx hb dL_areClocksSo_310 (by decide) (fun _ => ?_) (fun c191 => absurd c191 (by decide))
                        refine lv_iconst (v := 0) hx hb dL_areClocksSo_317 (by decide) ?_
                        refine lv_iload hx hb dL_areClocksSo_318 (lv_at hl 4 rfl) ?_
                        refine lv_if_ne (tgt := 327) hx hb dL_areClocksSo_320 (by decide) (fun _ => ?_) (fun c192 => absurd c192 (by decide))
                        refine lv_iconst (v := 0) hx hb dL_areClocksSo_327 (by decide) ?_
                        refine lv_icmp_ne (tgt := 380) hx hb dL_areClocksSo_328 (by decide) (fun c193 => absurd (by decide) c193) (fun _ => ?_)
                        refine lv_aload_n hx hb dL_areClocksSo_331 rfl (lv_at hl 10 rfl) ?_
                        refine lv_iload hx hb dL_areClocksSo_332 (lv_at hl 8 rfl) ?_
                        refine lv_bipush (v := 6) hx hb dL_areClocksSo_334 (by decide) ?_
                        refine c_calli (As := [.int (nI ci), .int 6]) (rest := []) hx hb hml hown hts hK hX hI 0 (by omega) cE_0 rfl (k_X5_of l dd g ad pi A hA C hIN.W hIN.g hIN.Ld (nI ci) 6) (cwV 2 hts gL_areClocksSo_X5_of rfl rfl rfl (by decide +kernel) ⟨Nat.le_of_ble_eq_true rfl, Nat.le_of_ble_eq_true rfl⟩) rfl hl (Nat.le_of_ble_eq_true rfl) ⟨Nat.zero_le _, Nat.zero_le _⟩ dL_areClocksSo_336 rfl (fun r C1 pi1 H locs h194 hI => ?_)
                        obtain ⟨hr9, hc9, hp9⟩ := h194
                        rw [hc9, hp9] at hI
                        rw [q_o6 hW hc] at hr9
                        rw [hg] at hr9
                        subst hr9
                        refine lv_iconst (v := 1) hx hb dL_areClocksSo_339 (by decide) ?_
                        refine lv_icmp_eq (tgt := 354) hx hb dL_areClocksSo_340 (by decide) (fun _ => ?_) (fun c195 => absurd (by decide) c195)
                        refine lv_aload_n hx hb dL_areClocksSo_354 rfl (lv_at hl 10 rfl) ?_
                        refine lv_iload hx hb dL_areClocksSo_355 (lv_at hl 8 rfl) ?_
                        refine lv_iconst (v := 3) hx hb dL_areClocksSo_357 (by decide) ?_
                        refine c_calli (As := [.int (nI ci), .int 3]) (rest := []) hx hb hml hown hts hK hX hI 0 (by omega) cE_0 rfl (k_X5_of l dd g ad pi A hA C hIN.W hIN.g hIN.Ld (nI ci) 3) (cwV 2 hts gL_areClocksSo_X5_of rfl rfl rfl (by decide +kernel) ⟨Nat.le_of_ble_eq_true rfl, Nat.le_of_ble_eq_true rfl⟩) rfl hl (Nat.le_of_ble_eq_true rfl) ⟨Nat.zero_le _, Nat.zero_le _⟩ dL_areClocksSo_358 rfl (fun r C1 pi1 H locs h196 hI => ?_)
                        obtain ⟨hr9, hc9, hp9⟩ := h196
                        rw [hc9, hp9] at hI
                        rw [q_o3 hW hc] at hr9
                        rw [es3] at hr9
                        subst hr9
                        refine lv_if_lt (tgt := 380) hx hb dL_areClocksSo_361 (by decide) (fun c197 => ?_) (fun c197 => ?_)
                        · skip
                          have nc197 : s3 < 0 := (nI_ltI (a := s3) (b := 0) (by omega) (by omega)).mp c197
                          exact absurd nc197 (by omega)
                        · skip
                          have nc197 : ¬ (s3 < 0) := fun h => c197 ((nI_ltI (a := s3) (b := 0) (by omega) (by omega)).mpr h)
                          refine lv_aload_n hx hb dL_areClocksSo_364 rfl (lv_at hl 10 rfl) ?_
                          refine lv_iload hx hb dL_areClocksSo_365 (lv_at hl 8 rfl) ?_
                          refine lv_iconst (v := 3) hx hb dL_areClocksSo_367 (by decide) ?_
                          refine c_calli (As := [.int (nI ci), .int 3]) (rest := []) hx hb hml hown hts hK hX hI 0 (by omega) cE_0 rfl (k_X5_of l dd g ad pi A hA C hIN.W hIN.g hIN.Ld (nI ci) 3) (cwV 2 hts gL_areClocksSo_X5_of rfl rfl rfl (by decide +kernel) ⟨Nat.le_of_ble_eq_true rfl, Nat.le_of_ble_eq_true rfl⟩) rfl hl (Nat.le_of_ble_eq_true rfl) ⟨Nat.zero_le _, Nat.zero_le _⟩ dL_areClocksSo_368 rfl (fun r C1 pi1 H locs h198 hI => ?_)
                          obtain ⟨hr9, hc9, hp9⟩ := h198
                          rw [hc9, hp9] at hI
                          rw [q_o3 hW hc] at hr9
                          rw [es3] at hr9
                          subst hr9
                          refine lv_bipush (v := 40) hx hb dL_areClocksSo_371 (by decide) ?_
                          refine lv_icmp_gt (tgt := 380) hx hb dL_areClocksSo_373 (by decide) (fun c199 => ?_) (fun c199 => ?_)
                          · skip
                            have nc199 : 40 < s3 := (nI_ltI (a := 40) (b := s3) (by omega) (by omega)).mp c199
                            exact absurd nc199 (by omega)
                          · skip
                            have nc199 : ¬ (40 < s3) := fun h => c199 ((nI_ltI (a := 40) (b := s3) (by omega) (by omega)).mpr h)
                            refine lv_iconst (v := 1) hx hb dL_areClocksSo_376 (by decide) ?_
                            refine lv_goto (tgt := 381) hx hb dL_areClocksSo_377 (by decide) ?_
                            refine lv_istore (lv' := [(5, .int 1), (4, .int (wv + ((C 0) (12 + 8 * ci + 7)))), (3, .int (nI (cN + 0))), (2, .int (nI (oN + 1))), (1, .int sv), (10, .int 1), (9, .int 1), (8, .int (o2i (ladF (C 0) ci))), (7, .int (nI ru)), (6, .int (nI ci)), (0, .ref (ad 0))]) hx hb dL_areClocksSo_381 hl (by decide) rfl (fun ls hl => ?_)
                            refine lv_iinc (v := nI (ci + 1)) (lv' := [(6, .int (nI (ci + 1))), (5, .int 1), (4, .int (wv + ((C 0) (12 + 8 * ci + 7)))), (3, .int (nI (cN + 0))), (2, .int (nI (oN + 1))), (1, .int sv), (10, .int 1), (9, .int 1), (8, .int (o2i (ladF (C 0) ci))), (7, .int (nI ru)), (0, .ref (ad 0))]) hx hb dL_areClocksSo_383 hl (k := 9) rfl (by rw [show Int32.ofInt 1 = nI 1 from rfl, nI_add]) (by decide) rfl (fun ls hl => ?_)
                            refine lv_goto (tgt := 46) hx hb dL_areClocksSo_386 (by decide) ?_
                            exact ih (ci + 1) sv (oN + 1) (cN + 0) (wv + ((C 0) (12 + 8 * ci + 7))) (by omega) (by omega) (by rw [hs]; show _ = (if _ then _ else _); rw [hg, if_neg (by decide)]) (by rw [ho]; show _ = (if _ then _ else _); rw [hoff, if_pos rfl]; all_goals rfl) (by rw [hk9]; show _ = (if _ then _ else _); rw [hcan, if_pos rfl]; all_goals rfl) (by rw [hw]; rfl) _ _ _ hI (lv_sub hl [0, 1, 2, 3, 4, 5, 10] rfl)
                      · skip
                        refine lv_iload_n hx hb dL_areClocksSo_200 rfl (lv_at hl 9 rfl) ?_
                        refine lv_aload_n hx hb dL_areClocksSo_201 rfl (lv_at hl 10 rfl) ?_
                        refine lv_iload hx hb dL_areClocksSo_202 (lv_at hl 4 rfl) ?_
                        refine lv_bipush (v := 6) hx hb dL_areClocksSo_204 (by decide) ?_
                        refine c_calli (As := [.int (nI ci), .int 6]) (rest := [.int sv]) hx hb hml hown hts hK hX hI 0 (by omega) cE_0 rfl (k_X5_of l dd g ad pi A hA C hIN.W hIN.g hIN.Ld (nI ci) 6) (cwV 2 hts gL_areClocksSo_X5_of rfl rfl rfl (by decide +kernel) ⟨Nat.le_of_ble_eq_true rfl, Nat.le_of_ble_eq_true rfl⟩) rfl hl (Nat.le_of_ble_eq_true rfl) ⟨Nat.zero_le _, Nat.zero_le _⟩ dL_areClocksSo_206 rfl (fun r C1 pi1 H locs h200 hI => ?_)
                        obtain ⟨hr9, hc9, hp9⟩ := h200
                        rw [hc9, hp9] at hI
                        rw [q_o6 hW hc] at hr9
                        rw [hg] at hr9
                        subst hr9
                        refine lv_if_ne (tgt := 219) hx hb dL_areClocksSo_209 (by decide) (fun c201 => absurd (by decide) c201) (fun _ => ?_)
                        refine lv_iconst (v := 1) hx hb dL_areClocksSo_212 (by decide) ?_
                        refine lv_iload hx hb dL_areClocksSo_213 (lv_at hl 4 rfl) ?_
                        refine lv_ishl hx hb dL_areClocksSo_215 ?_
                        refine lv_goto (tgt := 220) hx hb dL_areClocksSo_216 (by decide) ?_
                        refine lv_ior hx hb dL_areClocksSo_220 ?_
                        refine lv_istore_n (lv' := [(1, .int (sv ||| (1 <<< ((nI ci) &&& 31)))), (10, .int 1), (9, .int 1), (8, .int (o2i (ladF (C 0) ci))), (7, .int (nI ru)), (6, .int (nI ci)), (5, .int 1), (4, .int wv), (3, .int (nI cN)), (2, .int (nI oN)), (0, .ref (ad 0))]) hx hb dL_areClocksSo_221 rfl hl (by decide) rfl (fun ls hl => ?_)
                        refine lv_iload_n hx hb dL_areClocksSo_222 rfl (lv_at hl 9 rfl) ?_
                        refine lv_iload hx hb dL_areClocksSo_223 (lv_at hl 1 rfl) ?_
                        refine lv_if_eq (tgt := 232) hx hb dL_areClocksSo_225 (by decide) (fun c202 => absurd c202 (by decide)) (fun _ => ?_)
                        refine lv_iconst (v := 1) hx hb dL_areClocksSo_228 (by decide) ?_
                        refine lv_goto (tgt := 233) hx hb dL_areClocksSo_229 (by decide) ?_
                        refine lv_iadd hx hb dL_areClocksSo_233 ?_
                        refine lv_re (y := nI (oN + 1)) (nI_add (oN) (1)) ?_
                        refine lv_istore_n (lv' := [(2, .int (nI (oN + 1))), (1, .int (sv ||| (1 <<< ((nI ci) &&& 31)))), (10, .int 1), (9, .int 1), (8, .int (o2i (ladF (C 0) ci))), (7, .int (nI ru)), (6, .int (nI ci)), (5, .int 1), (4, .int wv), (3, .int (nI cN)), (0, .ref (ad 0))]) hx hb dL_areClocksSo_234 rfl hl (by decide) rfl (fun ls hl => ?_)
                        refine lv_iload_n hx hb dL_areClocksSo_235 rfl (lv_at hl 9 rfl) ?_
                        refine lv_iload hx hb dL_areClocksSo_236 (lv_at hl 3 rfl) ?_
                        refine lv_if_eq (tgt := 245) hx hb dL_areClocksSo_238 (by decide) (fun c203 => absurd c203 (by decide)) (fun _ => ?_)
                        refine lv_iconst (v := 0) hx hb dL_areClocksSo_241 (by decide) ?_
                        refine lv_goto (tgt := 246) hx hb dL_areClocksSo_242 (by decide) ?_
                        refine lv_iadd hx hb dL_areClocksSo_246 ?_
                        refine lv_re (y := nI (cN + 0)) (nI_add (cN) (0)) ?_
                        refine lv_istore_n (lv' := [(3, .int (nI (cN + 0))), (2, .int (nI (oN + 1))), (1, .int (sv ||| (1 <<< ((nI ci) &&& 31)))), (10, .int 1), (9, .int 1), (8, .int (o2i (ladF (C 0) ci))), (7, .int (nI ru)), (6, .int (nI ci)), (5, .int 1), (4, .int wv), (0, .ref (ad 0))]) hx hb dL_areClocksSo_247 rfl hl (by decide) rfl (fun ls hl => ?_)
                        refine lv_iload hx hb dL_areClocksSo_248 (lv_at hl 9 rfl) ?_
                        refine lv_aload_n hx hb dL_areClocksSo_250 rfl (lv_at hl 10 rfl) ?_
                        refine lv_iload hx hb dL_areClocksSo_251 (lv_at hl 7 rfl) ?_
                        refine lv_bipush (v := 10) hx hb dL_areClocksSo_253 (by decide) ?_
                        refine c_calli (As := [.int (nI ci), .int 10]) (rest := [.int wv]) hx hb hml hown hts hK hX hI 0 (by omega) cE_0 rfl (k_X5_of l dd g ad pi A hA C hIN.W hIN.g hIN.Ld (nI ci) 10) (cwV 2 hts gL_areClocksSo_X5_of rfl rfl rfl (by decide +kernel) ⟨Nat.le_of_ble_eq_true rfl, Nat.le_of_ble_eq_true rfl⟩) rfl hl (Nat.le_of_ble_eq_true rfl) ⟨Nat.zero_le _, Nat.zero_le _⟩ dL_areClocksSo_255 rfl (fun r C1 pi1 H locs h204 hI => ?_)
                        obtain ⟨hr9, hc9, hp9⟩ := h204
                        rw [hc9, hp9] at hI
                        rw [q_o10 hW hc] at hr9
                        subst hr9
                        refine lv_iadd hx hb dL_areClocksSo_258 ?_
                        refine lv_istore (lv' := [(4, .int (wv + ((C 0) (12 + 8 * ci + 7)))), (3, .int (nI (cN + 0))), (2, .int (nI (oN + 1))), (1, .int (sv ||| (1 <<< ((nI ci) &&& 31)))), (10, .int 1), (9, .int 1), (8, .int (o2i (ladF (C 0) ci))), (7, .int (nI ru)), (6, .int (nI ci)), (5, .int 1), (0, .ref (ad 0))]) hx hb dL_areClocksSo_259 hl (by decide) rfl (fun ls hl => ?_)
                        refine lv_iload hx hb dL_areClocksSo_261 (lv_at hl 9 rfl) ?_
                        refine lv_if_eq (tgt := 380) hx hb dL_areClocksSo_263 (by decide) (fun c205 => absurd c205 (by decide)) (fun _ => ?_)
                        refine lv_aload_n hx hb dL_areClocksSo_266 rfl (lv_at hl 10 rfl) ?_
                        refine lv_iload hx hb dL_areClocksSo_267 (lv_at hl 8 rfl) ?_
                        refine lv_bipush (v := 8) hx hb dL_areClocksSo_269 (by decide) ?_
                        refine c_calli (As := [.int (nI ci), .int 8]) (rest := []) hx hb hml hown hts hK hX hI 0 (by omega) cE_0 rfl (k_X5_of l dd g ad pi A hA C hIN.W hIN.g hIN.Ld (nI ci) 8) (cwV 2 hts gL_areClocksSo_X5_of rfl rfl rfl (by decide +kernel) ⟨Nat.le_of_ble_eq_true rfl, Nat.le_of_ble_eq_true rfl⟩) rfl hl (Nat.le_of_ble_eq_true rfl) ⟨Nat.zero_le _, Nat.zero_le _⟩ dL_areClocksSo_271 rfl (fun r C1 pi1 H locs h206 hI => ?_)
                        obtain ⟨hr9, hc9, hp9⟩ := h206
                        rw [hc9, hp9] at hI
                        rw [q_o8 hW hc] at hr9
                        subst hr9
                        refine lv_iload hx hb dL_areClocksSo_274 (lv_at hl 6 rfl) ?_
                        refine lv_icmp_ne (tgt := 380) hx hb dL_areClocksSo_276 (by decide) (fun c207 => absurd rfl c207) (fun _ => ?_)
                        refine lv_aload_n hx hb dL_areClocksSo_279 rfl (lv_at hl 10 rfl) ?_
                        refine lv_iload hx hb dL_areClocksSo_280 (lv_at hl 8 rfl) ?_
                        refine lv_bipush (v := 9) hx hb dL_areClocksSo_282 (by decide) ?_
                        refine c_calli (As := [.int (nI ci), .int 9]) (rest := []) hx hb hml hown hts hK hX hI 0 (by omega) cE_0 rfl (k_X5_of l dd g ad pi A hA C hIN.W hIN.g hIN.Ld (nI ci) 9) (cwV 2 hts gL_areClocksSo_X5_of rfl rfl rfl (by decide +kernel) ⟨Nat.le_of_ble_eq_true rfl, Nat.le_of_ble_eq_true rfl⟩) rfl hl (Nat.le_of_ble_eq_true rfl) ⟨Nat.zero_le _, Nat.zero_le _⟩ dL_areClocksSo_284 rfl (fun r C1 pi1 H locs h208 hI => ?_)
                        obtain ⟨hr9, hc9, hp9⟩ := h208
                        rw [hc9, hp9] at hI
                        rw [q_o9t hW hc hcan] at hr9
                        subst hr9
                        refine lv_iconst (v := 1) hx hb dL_areClocksSo_287 (by decide) ?_
                        refine lv_icmp_ne (tgt := 295) hx hb dL_areClocksSo_288 (by decide) (fun c209 => absurd (by decide) c209) (fun _ => ?_)
                        refine lv_iconst (v := 1) hx hb dL_areClocksSo_291 (by decide) ?_
                        refine lv_goto (tgt := 296) hx hb dL_areClocksSo_292 (by decide) ?_
                        refine lv_iload hx hb dL_areClocksSo_296 (lv_at hl 5 rfl) ?_
                        refine lv_icmp_ne (tgt := 380) hx hb dL_areClocksSo_298 (by decide) (fun c210 => absurd (by decide) c210) (fun _ => ?_)
                        refine lv_aload_n hx hb dL_areClocksSo_301 rfl (lv_at hl 10 rfl) ?_
                        refine lv_iload hx hb dL_areClocksSo_302 (lv_at hl 8 rfl) ?_
                        refine lv_bipush (v := 7) hx hb dL_areClocksSo_304 (by decide) ?_
                        refine c_calli (As := [.int (nI ci), .int 7]) (rest := []) hx hb hml hown hts hK hX hI 0 (by omega) cE_0 rfl (k_X5_of l dd g ad pi A hA C hIN.W hIN.g hIN.Ld (nI ci) 7) (cwV 2 hts gL_areClocksSo_X5_of rfl rfl rfl (by decide +kernel) ⟨Nat.le_of_ble_eq_true rfl, Nat.le_of_ble_eq_true rfl⟩) rfl hl (Nat.le_of_ble_eq_true rfl) ⟨Nat.zero_le _, Nat.zero_le _⟩ dL_areClocksSo_306 rfl (fun r C1 pi1 H locs h211 hI => ?_)
                        obtain ⟨hr9, hc9, hp9⟩ := h211
                        rw [hc9, hp9] at hI
                        rw [q_o7t hW hc hoff] at hr9
                        subst hr9
                        refine lv_iconst (v := 1) hx hb dL_areClocksSo_309 (by decide) ?_
                        refine lv_icmp_ne (tgt := 317) hx hb dL_areClocksSo_310 (by decide) (fun _ => ?_) (fun c212 => absurd c212 (by decide))
                        refine lv_iconst (v := 0) hx hb dL_areClocksSo_317 (by decide) ?_
                        refine lv_iload hx hb dL_areClocksSo_318 (lv_at hl 4 rfl) ?_
                        refine lv_if_ne (tgt := 327) hx hb dL_areClocksSo_320 (by decide) (fun _ => ?_) (fun c213 => absurd c213 (by decide))
                        refine lv_iconst (v := 0) hx hb dL_areClocksSo_327 (by decide) ?_
                        refine lv_icmp_ne (tgt := 380) hx hb dL_areClocksSo_328 (by decide) (fun c214 => absurd (by decide) c214) (fun _ => ?_)
                        refine lv_aload_n hx hb dL_areClocksSo_331 rfl (lv_at hl 10 rfl) ?_
                        refine lv_iload hx hb dL_areClocksSo_332 (lv_at hl 8 rfl) ?_
                        refine lv_bipush (v := 6) hx hb dL_areClocksSo_334 (by decide) ?_
                        refine c_calli (As := [.int (nI ci), .int 6]) (rest := []) hx hb hml hown hts hK hX hI 0 (by omega) cE_0 rfl (k_X5_of l dd g ad pi A hA C hIN.W hIN.g hIN.Ld (nI ci) 6) (cwV 2 hts gL_areClocksSo_X5_of rfl rfl rfl (by decide +kernel) ⟨Nat.le_of_ble_eq_true rfl, Nat.le_of_ble_eq_true rfl⟩) rfl hl (Nat.le_of_ble_eq_true rfl) ⟨Nat.zero_le _, Nat.zero_le _⟩ dL_areClocksSo_336 rfl (fun r C1 pi1 H locs h215 hI => ?_)
                        obtain ⟨hr9, hc9, hp9⟩ := h215
                        rw [hc9, hp9] at hI
                        rw [q_o6 hW hc] at hr9
                        rw [hg] at hr9
                        subst hr9
                        refine lv_iconst (v := 1) hx hb dL_areClocksSo_339 (by decide) ?_
                        refine lv_icmp_eq (tgt := 354) hx hb dL_areClocksSo_340 (by decide) (fun c216 => absurd c216 (by decide)) (fun _ => ?_)
                        refine lv_aload_n hx hb dL_areClocksSo_343 rfl (lv_at hl 10 rfl) ?_
                        refine lv_iload hx hb dL_areClocksSo_344 (lv_at hl 8 rfl) ?_
                        refine c_callC (As := [.ref (ad 0), .int (nI ci)]) (rest := []) hx hb hml hown hts hK hX hI (k_L_off l dd g ad pi A hA C hIN.W hIN.g hIN.Ld ci hc) (va_cwS 2 hts gL_areClocksSo_L_off rfl rfl rfl (by decide +kernel) ⟨Nat.le_of_ble_eq_true rfl, Nat.le_of_ble_eq_true rfl⟩) rfl hl (Nat.le_of_ble_eq_true rfl) ⟨Nat.zero_le _, Nat.zero_le _⟩ dL_areClocksSo_346 rfl (fun r C1 pi1 H locs h217 hI => ?_)
                        obtain ⟨hr9, hc9, hp9⟩ := h217
                        rw [hc9, hp9] at hI
                        rw [hg4] at hr9
                        subst hr9
                        refine lv_ldc hx hb hown (hts (.constant RL 54 (43200)) (by decide +kernel)) dL_areClocksSo_349 ?_
                        refine lv_icmp_ne (tgt := 380) hx hb dL_areClocksSo_351 (by decide) (fun c218 => absurd (by decide) c218) (fun _ => ?_)
                        refine lv_aload_n hx hb dL_areClocksSo_354 rfl (lv_at hl 10 rfl) ?_
                        refine lv_iload hx hb dL_areClocksSo_355 (lv_at hl 8 rfl) ?_
                        refine lv_iconst (v := 3) hx hb dL_areClocksSo_357 (by decide) ?_
                        refine c_calli (As := [.int (nI ci), .int 3]) (rest := []) hx hb hml hown hts hK hX hI 0 (by omega) cE_0 rfl (k_X5_of l dd g ad pi A hA C hIN.W hIN.g hIN.Ld (nI ci) 3) (cwV 2 hts gL_areClocksSo_X5_of rfl rfl rfl (by decide +kernel) ⟨Nat.le_of_ble_eq_true rfl, Nat.le_of_ble_eq_true rfl⟩) rfl hl (Nat.le_of_ble_eq_true rfl) ⟨Nat.zero_le _, Nat.zero_le _⟩ dL_areClocksSo_358 rfl (fun r C1 pi1 H locs h219 hI => ?_)
                        obtain ⟨hr9, hc9, hp9⟩ := h219
                        rw [hc9, hp9] at hI
                        rw [q_o3 hW hc] at hr9
                        rw [es3] at hr9
                        subst hr9
                        refine lv_if_lt (tgt := 380) hx hb dL_areClocksSo_361 (by decide) (fun c220 => ?_) (fun c220 => ?_)
                        · skip
                          have nc220 : s3 < 0 := (nI_ltI (a := s3) (b := 0) (by omega) (by omega)).mp c220
                          exact absurd nc220 (by omega)
                        · skip
                          have nc220 : ¬ (s3 < 0) := fun h => c220 ((nI_ltI (a := s3) (b := 0) (by omega) (by omega)).mpr h)
                          refine lv_aload_n hx hb dL_areClocksSo_364 rfl (lv_at hl 10 rfl) ?_
                          refine lv_iload hx hb dL_areClocksSo_365 (lv_at hl 8 rfl) ?_
                          refine lv_iconst (v := 3) hx hb dL_areClocksSo_367 (by decide) ?_
                          refine c_calli (As := [.int (nI ci), .int 3]) (rest := []) hx hb hml hown hts hK hX hI 0 (by omega) cE_0 rfl (k_X5_of l dd g ad pi A hA C hIN.W hIN.g hIN.Ld (nI ci) 3) (cwV 2 hts gL_areClocksSo_X5_of rfl rfl rfl (by decide +kernel) ⟨Nat.le_of_ble_eq_true rfl, Nat.le_of_ble_eq_true rfl⟩) rfl hl (Nat.le_of_ble_eq_true rfl) ⟨Nat.zero_le _, Nat.zero_le _⟩ dL_areClocksSo_368 rfl (fun r C1 pi1 H locs h221 hI => ?_)
                          obtain ⟨hr9, hc9, hp9⟩ := h221
                          rw [hc9, hp9] at hI
                          rw [q_o3 hW hc] at hr9
                          rw [es3] at hr9
                          subst hr9
                          refine lv_bipush (v := 40) hx hb dL_areClocksSo_371 (by decide) ?_
                          refine lv_icmp_gt (tgt := 380) hx hb dL_areClocksSo_373 (by decide) (fun c222 => ?_) (fun c222 => ?_)
                          · skip
                            have nc222 : 40 < s3 := (nI_ltI (a := 40) (b := s3) (by omega) (by omega)).mp c222
                            exact absurd nc222 (by omega)
                          · skip
                            have nc222 : ¬ (40 < s3) := fun h => c222 ((nI_ltI (a := 40) (b := s3) (by omega) (by omega)).mpr h)
                            refine lv_iconst (v := 1) hx hb dL_areClocksSo_376 (by decide) ?_
                            refine lv_goto (tgt := 381) hx hb dL_areClocksSo_377 (by decide) ?_
                            refine lv_istore (lv' := [(5, .int 1), (4, .int (wv + ((C 0) (12 + 8 * ci + 7)))), (3, .int (nI (cN + 0))), (2, .int (nI (oN + 1))), (1, .int (sv ||| (1 <<< ((nI ci) &&& 31)))), (10, .int 1), (9, .int 1), (8, .int (o2i (ladF (C 0) ci))), (7, .int (nI ru)), (6, .int (nI ci)), (0, .ref (ad 0))]) hx hb dL_areClocksSo_381 hl (by decide) rfl (fun ls hl => ?_)
                            refine lv_iinc (v := nI (ci + 1)) (lv' := [(6, .int (nI (ci + 1))), (5, .int 1), (4, .int (wv + ((C 0) (12 + 8 * ci + 7)))), (3, .int (nI (cN + 0))), (2, .int (nI (oN + 1))), (1, .int (sv ||| (1 <<< ((nI ci) &&& 31)))), (10, .int 1), (9, .int 1), (8, .int (o2i (ladF (C 0) ci))), (7, .int (nI ru)), (0, .ref (ad 0))]) hx hb dL_areClocksSo_383 hl (k := 9) rfl (by rw [show Int32.ofInt 1 = nI 1 from rfl, nI_add]) (by decide) rfl (fun ls hl => ?_)
                            refine lv_goto (tgt := 46) hx hb dL_areClocksSo_386 (by decide) ?_
                            exact ih (ci + 1) (sv ||| (1 <<< ((nI ci) &&& 31))) (oN + 1) (cN + 0) (wv + ((C 0) (12 + 8 * ci + 7))) (by omega) (by omega) (by rw [hs]; show _ = (if _ then _ else _); rw [hg, if_pos rfl]) (by rw [ho]; show _ = (if _ then _ else _); rw [hoff, if_pos rfl]; all_goals rfl) (by rw [hk9]; show _ = (if _ then _ else _); rw [hcan, if_pos rfl]; all_goals rfl) (by rw [hw]; rfl) _ _ _ hI (lv_sub hl [0, 1, 2, 3, 4, 5, 10] rfl)
                    refine lv_aload_n hx hb dL_areClocksSo_162 rfl (lv_at hl 9 rfl) ?_
                    refine lv_iload hx hb dL_areClocksSo_163 (lv_at hl 3 rfl) ?_
                    refine c_callC (As := [.ref (ad 0), .int (nI ci)]) (rest := []) hx hb hml hown hts hK hX hI (k_L_off l dd g ad pi A hA C hIN.W hIN.g hIN.Ld ci hc) (va_cwS 2 hts gL_areClocksSo_L_off rfl rfl rfl (by decide +kernel) ⟨Nat.le_of_ble_eq_true rfl, Nat.le_of_ble_eq_true rfl⟩) rfl hl (Nat.le_of_ble_eq_true rfl) ⟨Nat.zero_le _, Nat.zero_le _⟩ dL_areClocksSo_165 rfl (fun r C1 pi1 H locs h223 hI => ?_)
                    obtain ⟨hr9, hc9, hp9⟩ := h223
                    rw [hc9, hp9] at hI
                    subst hr9
                    refine lv_aload_n hx hb dL_areClocksSo_168 rfl (lv_at hl 9 rfl) ?_
                    refine lv_bipush (v := 8) hx hb dL_areClocksSo_169 (by decide) ?_
                    refine c_calli (As := [.int 8]) (rest := [.int ((C 0) (12 + 8 * ci + 4))]) hx hb hml hown hts hK hX hI 0 (by omega) cE_0 rfl (k_X5_count l dd g ad pi A hA C hIN.W hIN.g hIN.Ld 8) (cwV 1 hts gL_areClocksSo_X5_count rfl rfl rfl (by decide +kernel) ⟨Nat.le_of_ble_eq_true rfl, Nat.le_of_ble_eq_true rfl⟩) rfl hl (Nat.le_of_ble_eq_true rfl) ⟨Nat.zero_le _, Nat.zero_le _⟩ dL_areClocksSo_171 rfl (fun r C1 pi1 H locs h224 hI => ?_)
                    obtain ⟨hr9, hc9, hp9⟩ := h224
                    rw [hc9, hp9] at hI
                    rw [q_c8] at hr9
                    subst hr9
                    refine lv_icmp_gt (tgt := 193) hx hb dL_areClocksSo_174 (by decide) (fun c225 => ?_) (fun c225 => ?_)
                    · skip
                      refine lv_iconst (v := 1) hx hb dL_areClocksSo_193 (by decide) ?_
                      refine lv_goto (tgt := 198) hx hb dL_areClocksSo_194 (by decide) ?_
                      exact J178 _ _ _ hI (lv_sub hl [0, 1, 2, 3, 4, 5, 6, 7, 8, 9] rfl)
                    · skip
                      refine lv_aload_n hx hb dL_areClocksSo_177 rfl (lv_at hl 9 rfl) ?_
                      refine lv_iload hx hb dL_areClocksSo_178 (lv_at hl 3 rfl) ?_
                      refine c_callC (As := [.ref (ad 0), .int (nI ci)]) (rest := []) hx hb hml hown hts hK hX hI (k_L_off l dd g ad pi A hA C hIN.W hIN.g hIN.Ld ci hc) (va_cwS 2 hts gL_areClocksSo_L_off rfl rfl rfl (by decide +kernel) ⟨Nat.le_of_ble_eq_true rfl, Nat.le_of_ble_eq_true rfl⟩) rfl hl (Nat.le_of_ble_eq_true rfl) ⟨Nat.zero_le _, Nat.zero_le _⟩ dL_areClocksSo_180 rfl (fun r C1 pi1 H locs h226 hI => ?_)
                      obtain ⟨hr9, hc9, hp9⟩ := h226
                      rw [hc9, hp9] at hI
                      subst hr9
                      refine lv_aload_n hx hb dL_areClocksSo_183 rfl (lv_at hl 9 rfl) ?_
                      refine lv_bipush (v := 8) hx hb dL_areClocksSo_184 (by decide) ?_
                      refine c_calli (As := [.int 8]) (rest := [.int ((C 0) (12 + 8 * ci + 4))]) hx hb hml hown hts hK hX hI 0 (by omega) cE_0 rfl (k_X5_count l dd g ad pi A hA C hIN.W hIN.g hIN.Ld 8) (cwV 1 hts gL_areClocksSo_X5_count rfl rfl rfl (by decide +kernel) ⟨Nat.le_of_ble_eq_true rfl, Nat.le_of_ble_eq_true rfl⟩) rfl hl (Nat.le_of_ble_eq_true rfl) ⟨Nat.zero_le _, Nat.zero_le _⟩ dL_areClocksSo_186 rfl (fun r C1 pi1 H locs h227 hI => ?_)
                      obtain ⟨hr9, hc9, hp9⟩ := h227
                      rw [hc9, hp9] at hI
                      rw [q_c8] at hr9
                      subst hr9
                      refine lv_ineg hx hb dL_areClocksSo_189 ?_
                      refine lv_icmp_ge (tgt := 197) hx hb dL_areClocksSo_190 (by decide) (fun c228 => ?_) (fun c228 => ?_)
                      · skip
                        exact absurd ho9 (fun z => z.elim c225 (fun y => Int32.not_lt.mpr c228 y))
                      · skip
                        refine lv_iconst (v := 1) hx hb dL_areClocksSo_193 (by decide) ?_
                        refine lv_goto (tgt := 198) hx hb dL_areClocksSo_194 (by decide) ?_
                        exact J178 _ _ _ hI (lv_sub hl [0, 1, 2, 3, 4, 5, 6, 7, 8, 9] rfl)
                refine lv_iload hx hb dL_areClocksSo_145 (lv_at hl 2 rfl) ?_
                refine lv_if_eq (tgt := 155) hx hb dL_areClocksSo_147 (by decide) (fun c229 => ?_) (fun c229 => ?_)
                · skip
                  have nc229 : ru = 0 := (nI_eq (a := ru) (b := 0) (by omega) (by omega)).mp c229
                  refine lv_iconst (v := 1) hx hb dL_areClocksSo_155 (by decide) ?_
                  refine lv_goto (tgt := 160) hx hb dL_areClocksSo_156 (by decide) ?_
                  exact J126 _ _ _ hI (lv_sub hl [0, 1, 2, 3, 4, 5, 6, 7, 8, 9] rfl)
                · skip
                  have nc229 : ¬ (ru = 0) := fun h => c229 ((nI_eq (a := ru) (b := 0) (by omega) (by omega)).mpr h)
                  refine lv_iload hx hb dL_areClocksSo_150 (lv_at hl 1 rfl) ?_
                  refine lv_if_lt (tgt := 159) hx hb dL_areClocksSo_152 (by decide) (fun c230 => ?_) (fun c230 => ?_)
                  · skip
                    exact absurd c230 (hyes (by omega))
                  · skip
                    refine lv_iconst (v := 1) hx hb dL_areClocksSo_155 (by decide) ?_
                    refine lv_goto (tgt := 160) hx hb dL_areClocksSo_156 (by decide) ?_
                    exact J126 _ _ _ hI (lv_sub hl [0, 1, 2, 3, 4, 5, 6, 7, 8, 9] rfl)
            · skip
              have nc20 : ¬ (ln (C 0) ≤ k) := fun h => c20 ((nI_leI (a := ln (C 0)) (b := k) (by omega) (by omega)).mpr h)
              have hk : k < ln (C 0) := by omega
              obtain ⟨la, hla, ela⟩ := la_num hV hk
              refine lv_iload hx hb dL_areClocksSo_82 (lv_at hl 2 rfl) ?_
              rcases e9 : ladP (C 0) (C 0 (12 + 8 * ci + 1)) k with _ | p
              · skip
                have e8 : lv9 = -6 := by rw [hlv, e9]; rfl
                subst e8
                refine lv_if_le (tgt := 102) hx hb dL_areClocksSo_84 (by decide) (fun c231 => ?_) (fun c231 => ?_)
                · skip
                  have nc231 : ru ≤ 0 := (nI_leI (a := ru) (b := 0) (by omega) (by omega)).mp c231
                  refine lv_iconst (v := 0) hx hb dL_areClocksSo_102 (by decide) ?_
                  refine lv_istore (lv' := [(10, .int 0), (9, .int (nI k)), (8, .int ((-6))), (7, .int (nI ru)), (6, .int (nI ci)), (5, .int 1), (4, .int wv), (3, .int (nI cN)), (2, .int (nI oN)), (1, .int sv), (0, .ref (ad 0))]) hx hb dL_areClocksSo_103 hl (by decide) rfl (fun ls hl => ?_)
                  refine lv_iload hx hb dL_areClocksSo_105 (lv_at hl 0 rfl) ?_
                  refine lv_if_eq (tgt := 135) hx hb dL_areClocksSo_107 (by decide) (fun _ => ?_) (fun c232 => absurd (by decide) c232)
                  refine lv_iload hx hb dL_areClocksSo_135 (lv_at hl 2 rfl) ?_
                  refine lv_istore (lv' := [(8, .int ((-6))), (10, .int 0), (9, .int (nI k)), (7, .int (nI ru)), (6, .int (nI ci)), (5, .int 1), (4, .int wv), (3, .int (nI cN)), (2, .int (nI oN)), (1, .int sv), (0, .ref (ad 0))]) hx hb dL_areClocksSo_137 hl (by decide) rfl (fun ls hl => ?_)
                  refine lv_iinc (v := nI (k + 1)) (lv' := [(9, .int (nI (k + 1))), (8, .int ((-6))), (10, .int 0), (7, .int (nI ru)), (6, .int (nI ci)), (5, .int 1), (4, .int wv), (3, .int (nI cN)), (2, .int (nI oN)), (1, .int sv), (0, .ref (ad 0))]) hx hb dL_areClocksSo_139 hl (k := 2) rfl (by rw [show Int32.ofInt 1 = nI 1 from rfl, nI_add]) (by decide) rfl (fun ls hl => ?_)
                  refine lv_goto (tgt := 72) hx hb dL_areClocksSo_142 (by decide) ?_
                  exact ihk (k + 1) (-6) (by omega) (by omega) (by rw [(lad_st eru (by omega) ela (by omega)).1 e9, if_neg (by omega)]) _ _ _ hI (lv_sub hl [0, 1, 3, 4, 5, 6, 7, 8, 9, 10] rfl)
                · skip
                  have nc231 : ¬ (ru ≤ 0) := fun h => c231 ((nI_leI (a := ru) (b := 0) (by omega) (by omega)).mpr h)
                  refine lv_aload_n hx hb dL_areClocksSo_87 rfl (lv_at hl 9 rfl) ?_
                  refine lv_iload hx hb dL_areClocksSo_88 (lv_at hl 0 rfl) ?_
                  refine c_calli (As := [.int (nI k)]) (rest := []) hx hb hml hown hts hK hX hI 0 (by omega) cE_0 rfl (k_X5_ofLadder l dd g ad pi A hA C hIN.W hIN.g (nI k)) (cwV 1 hts gL_areClocksSo_X5_ofLadder rfl rfl rfl (by decide +kernel) ⟨Nat.le_of_ble_eq_true rfl, Nat.le_of_ble_eq_true rfl⟩) rfl hl (Nat.le_of_ble_eq_true rfl) ⟨Nat.zero_le _, Nat.zero_le _⟩ dL_areClocksSo_90 rfl (fun r C1 pi1 H locs h233 hI => ?_)
                  obtain ⟨hr9, hc9, hp9⟩ := h233
                  rw [hc9, hp9] at hI
                  rw [lofR_in hW hk, ela] at hr9
                  subst hr9
                  refine lv_iload hx hb dL_areClocksSo_93 (lv_at hl 2 rfl) ?_
                  refine lv_icmp_lt (tgt := 102) hx hb dL_areClocksSo_95 (by decide) (fun c234 => ?_) (fun c234 => ?_)
                  · skip
                    have nc234 : la < ru := (nI_ltI (a := la) (b := ru) (by omega) (by omega)).mp c234
                    refine lv_iconst (v := 0) hx hb dL_areClocksSo_102 (by decide) ?_
                    refine lv_istore (lv' := [(10, .int 0), (9, .int (nI k)), (8, .int ((-6))), (7, .int (nI ru)), (6, .int (nI ci)), (5, .int 1), (4, .int wv), (3, .int (nI cN)), (2, .int (nI oN)), (1, .int sv), (0, .ref (ad 0))]) hx hb dL_areClocksSo_103 hl (by decide) rfl (fun ls hl => ?_)
                    refine lv_iload hx hb dL_areClocksSo_105 (lv_at hl 0 rfl) ?_
                    refine lv_if_eq (tgt := 135) hx hb dL_areClocksSo_107 (by decide) (fun _ => ?_) (fun c235 => absurd (by decide) c235)
                    refine lv_iload hx hb dL_areClocksSo_135 (lv_at hl 2 rfl) ?_
                    refine lv_istore (lv' := [(8, .int ((-6))), (10, .int 0), (9, .int (nI k)), (7, .int (nI ru)), (6, .int (nI ci)), (5, .int 1), (4, .int wv), (3, .int (nI cN)), (2, .int (nI oN)), (1, .int sv), (0, .ref (ad 0))]) hx hb dL_areClocksSo_137 hl (by decide) rfl (fun ls hl => ?_)
                    refine lv_iinc (v := nI (k + 1)) (lv' := [(9, .int (nI (k + 1))), (8, .int ((-6))), (10, .int 0), (7, .int (nI ru)), (6, .int (nI ci)), (5, .int 1), (4, .int wv), (3, .int (nI cN)), (2, .int (nI oN)), (1, .int sv), (0, .ref (ad 0))]) hx hb dL_areClocksSo_139 hl (k := 2) rfl (by rw [show Int32.ofInt 1 = nI 1 from rfl, nI_add]) (by decide) rfl (fun ls hl => ?_)
                    refine lv_goto (tgt := 72) hx hb dL_areClocksSo_142 (by decide) ?_
                    exact ihk (k + 1) (-6) (by omega) (by omega) (by rw [(lad_st eru (by omega) ela (by omega)).1 e9, if_neg (by omega)]) _ _ _ hI (lv_sub hl [0, 1, 3, 4, 5, 6, 7, 8, 9, 10] rfl)
                  · skip
                    have nc234 : ¬ (la < ru) := fun h => c234 ((nI_ltI (a := la) (b := ru) (by omega) (by omega)).mpr h)
                    refine lv_iconst (v := 1) hx hb dL_areClocksSo_98 (by decide) ?_
                    refine lv_goto (tgt := 103) hx hb dL_areClocksSo_99 (by decide) ?_
                    refine lv_istore (lv' := [(10, .int 1), (9, .int (nI k)), (8, .int ((-6))), (7, .int (nI ru)), (6, .int (nI ci)), (5, .int 1), (4, .int wv), (3, .int (nI cN)), (2, .int (nI oN)), (1, .int sv), (0, .ref (ad 0))]) hx hb dL_areClocksSo_103 hl (by decide) rfl (fun ls hl => ?_)
                    refine lv_iload hx hb dL_areClocksSo_105 (lv_at hl 0 rfl) ?_
                    refine lv_if_eq (tgt := 135) hx hb dL_areClocksSo_107 (by decide) (fun c236 => absurd c236 (by decide)) (fun _ => ?_)
                    refine lv_iload hx hb dL_areClocksSo_110 (lv_at hl 2 rfl) ?_
                    refine lv_if_lt (tgt := 130) hx hb dL_areClocksSo_112 (by decide) (fun _ => ?_) (fun c237 => absurd (by decide) c237)
                    refine lv_iload hx hb dL_areClocksSo_130 (lv_at hl 1 rfl) ?_
                    refine lv_goto (tgt := 137) hx hb dL_areClocksSo_132 (by decide) ?_
                    refine lv_istore (lv' := [(8, .int (nI k)), (10, .int 1), (9, .int (nI k)), (7, .int (nI ru)), (6, .int (nI ci)), (5, .int 1), (4, .int wv), (3, .int (nI cN)), (2, .int (nI oN)), (1, .int sv), (0, .ref (ad 0))]) hx hb dL_areClocksSo_137 hl (by decide) rfl (fun ls hl => ?_)
                    refine lv_iinc (v := nI (k + 1)) (lv' := [(9, .int (nI (k + 1))), (8, .int (nI k)), (10, .int 1), (7, .int (nI ru)), (6, .int (nI ci)), (5, .int 1), (4, .int wv), (3, .int (nI cN)), (2, .int (nI oN)), (1, .int sv), (0, .ref (ad 0))]) hx hb dL_areClocksSo_139 hl (k := 2) rfl (by rw [show Int32.ofInt 1 = nI 1 from rfl, nI_add]) (by decide) rfl (fun ls hl => ?_)
                    refine lv_goto (tgt := 72) hx hb dL_areClocksSo_142 (by decide) ?_
                    exact ihk (k + 1) (nI k) (by omega) (by omega) (by rw [(lad_st eru (by omega) ela (by omega)).1 e9, if_pos (by omega)]) _ _ _ hI (lv_sub hl [0, 1, 3, 4, 5, 6, 7, 8, 9, 10] rfl)
              · skip
                have e8 : lv9 = nI p := by rw [hlv, e9]; rfl
                subst e8
                have hp9 : p < k := ladP_lt _ _ _ _ e9
                have hp : p < ln (C 0) := by omega
                obtain ⟨lp, hlp, elp⟩ := la_num hV hp
                refine lv_if_le (tgt := 102) hx hb dL_areClocksSo_84 (by decide) (fun c238 => ?_) (fun c238 => ?_)
                · skip
                  have nc238 : ru ≤ 0 := (nI_leI (a := ru) (b := 0) (by omega) (by omega)).mp c238
                  refine lv_iconst (v := 0) hx hb dL_areClocksSo_102 (by decide) ?_
                  refine lv_istore (lv' := [(10, .int 0), (9, .int (nI k)), (8, .int (nI p)), (7, .int (nI ru)), (6, .int (nI ci)), (5, .int 1), (4, .int wv), (3, .int (nI cN)), (2, .int (nI oN)), (1, .int sv), (0, .ref (ad 0))]) hx hb dL_areClocksSo_103 hl (by decide) rfl (fun ls hl => ?_)
                  refine lv_iload hx hb dL_areClocksSo_105 (lv_at hl 0 rfl) ?_
                  refine lv_if_eq (tgt := 135) hx hb dL_areClocksSo_107 (by decide) (fun _ => ?_) (fun c239 => absurd (by decide) c239)
                  refine lv_iload hx hb dL_areClocksSo_135 (lv_at hl 2 rfl) ?_
                  refine lv_istore (lv' := [(8, .int (nI p)), (10, .int 0), (9, .int (nI k)), (7, .int (nI ru)), (6, .int (nI ci)), (5, .int 1), (4, .int wv), (3, .int (nI cN)), (2, .int (nI oN)), (1, .int sv), (0, .ref (ad 0))]) hx hb dL_areClocksSo_137 hl (by decide) rfl (fun ls hl => ?_)
                  refine lv_iinc (v := nI (k + 1)) (lv' := [(9, .int (nI (k + 1))), (8, .int (nI p)), (10, .int 0), (7, .int (nI ru)), (6, .int (nI ci)), (5, .int 1), (4, .int wv), (3, .int (nI cN)), (2, .int (nI oN)), (1, .int sv), (0, .ref (ad 0))]) hx hb dL_areClocksSo_139 hl (k := 2) rfl (by rw [show Int32.ofInt 1 = nI 1 from rfl, nI_add]) (by decide) rfl (fun ls hl => ?_)
                  refine lv_goto (tgt := 72) hx hb dL_areClocksSo_142 (by decide) ?_
                  exact ihk (k + 1) (nI p) (by omega) (by omega) (by rw [(lad_st eru (by omega) ela (by omega)).2 p lp e9 elp (by omega), if_neg (by omega)]) _ _ _ hI (lv_sub hl [0, 1, 3, 4, 5, 6, 7, 8, 9, 10] rfl)
                · skip
                  have nc238 : ¬ (ru ≤ 0) := fun h => c238 ((nI_leI (a := ru) (b := 0) (by omega) (by omega)).mpr h)
                  refine lv_aload_n hx hb dL_areClocksSo_87 rfl (lv_at hl 9 rfl) ?_
                  refine lv_iload hx hb dL_areClocksSo_88 (lv_at hl 0 rfl) ?_
                  refine c_calli (As := [.int (nI k)]) (rest := []) hx hb hml hown hts hK hX hI 0 (by omega) cE_0 rfl (k_X5_ofLadder l dd g ad pi A hA C hIN.W hIN.g (nI k)) (cwV 1 hts gL_areClocksSo_X5_ofLadder rfl rfl rfl (by decide +kernel) ⟨Nat.le_of_ble_eq_true rfl, Nat.le_of_ble_eq_true rfl⟩) rfl hl (Nat.le_of_ble_eq_true rfl) ⟨Nat.zero_le _, Nat.zero_le _⟩ dL_areClocksSo_90 rfl (fun r C1 pi1 H locs h240 hI => ?_)
                  obtain ⟨hr9, hc9, hp9⟩ := h240
                  rw [hc9, hp9] at hI
                  rw [lofR_in hW hk, ela] at hr9
                  subst hr9
                  refine lv_iload hx hb dL_areClocksSo_93 (lv_at hl 2 rfl) ?_
                  refine lv_icmp_lt (tgt := 102) hx hb dL_areClocksSo_95 (by decide) (fun c241 => ?_) (fun c241 => ?_)
                  · skip
                    have nc241 : la < ru := (nI_ltI (a := la) (b := ru) (by omega) (by omega)).mp c241
                    refine lv_iconst (v := 0) hx hb dL_areClocksSo_102 (by decide) ?_
                    refine lv_istore (lv' := [(10, .int 0), (9, .int (nI k)), (8, .int (nI p)), (7, .int (nI ru)), (6, .int (nI ci)), (5, .int 1), (4, .int wv), (3, .int (nI cN)), (2, .int (nI oN)), (1, .int sv), (0, .ref (ad 0))]) hx hb dL_areClocksSo_103 hl (by decide) rfl (fun ls hl => ?_)
                    refine lv_iload hx hb dL_areClocksSo_105 (lv_at hl 0 rfl) ?_
                    refine lv_if_eq (tgt := 135) hx hb dL_areClocksSo_107 (by decide) (fun _ => ?_) (fun c242 => absurd (by decide) c242)
                    refine lv_iload hx hb dL_areClocksSo_135 (lv_at hl 2 rfl) ?_
                    refine lv_istore (lv' := [(8, .int (nI p)), (10, .int 0), (9, .int (nI k)), (7, .int (nI ru)), (6, .int (nI ci)), (5, .int 1), (4, .int wv), (3, .int (nI cN)), (2, .int (nI oN)), (1, .int sv), (0, .ref (ad 0))]) hx hb dL_areClocksSo_137 hl (by decide) rfl (fun ls hl => ?_)
                    refine lv_iinc (v := nI (k + 1)) (lv' := [(9, .int (nI (k + 1))), (8, .int (nI p)), (10, .int 0), (7, .int (nI ru)), (6, .int (nI ci)), (5, .int 1), (4, .int wv), (3, .int (nI cN)), (2, .int (nI oN)), (1, .int sv), (0, .ref (ad 0))]) hx hb dL_areClocksSo_139 hl (k := 2) rfl (by rw [show Int32.ofInt 1 = nI 1 from rfl, nI_add]) (by decide) rfl (fun ls hl => ?_)
                    refine lv_goto (tgt := 72) hx hb dL_areClocksSo_142 (by decide) ?_
                    exact ihk (k + 1) (nI p) (by omega) (by omega) (by rw [(lad_st eru (by omega) ela (by omega)).2 p lp e9 elp (by omega), if_neg (by omega)]) _ _ _ hI (lv_sub hl [0, 1, 3, 4, 5, 6, 7, 8, 9, 10] rfl)
                  · skip
                    have nc241 : ¬ (la < ru) := fun h => c241 ((nI_ltI (a := la) (b := ru) (by omega) (by omega)).mpr h)
                    refine lv_iconst (v := 1) hx hb dL_areClocksSo_98 (by decide) ?_
                    refine lv_goto (tgt := 103) hx hb dL_areClocksSo_99 (by decide) ?_
                    refine lv_istore (lv' := [(10, .int 1), (9, .int (nI k)), (8, .int (nI p)), (7, .int (nI ru)), (6, .int (nI ci)), (5, .int 1), (4, .int wv), (3, .int (nI cN)), (2, .int (nI oN)), (1, .int sv), (0, .ref (ad 0))]) hx hb dL_areClocksSo_103 hl (by decide) rfl (fun ls hl => ?_)
                    refine lv_iload hx hb dL_areClocksSo_105 (lv_at hl 0 rfl) ?_
                    refine lv_if_eq (tgt := 135) hx hb dL_areClocksSo_107 (by decide) (fun c243 => absurd c243 (by decide)) (fun _ => ?_)
                    refine lv_iload hx hb dL_areClocksSo_110 (lv_at hl 2 rfl) ?_
                    refine lv_if_lt (tgt := 130) hx hb dL_areClocksSo_112 (by decide) (fun c244 => ?_) (fun c244 => ?_)
                    · skip
                      have nc244 : p < 0 := (nI_ltI (a := p) (b := 0) (by omega) (by omega)).mp c244
                      refine lv_iload hx hb dL_areClocksSo_130 (lv_at hl 1 rfl) ?_
                      refine lv_goto (tgt := 137) hx hb dL_areClocksSo_132 (by decide) ?_
                      refine lv_istore (lv' := [(8, .int (nI k)), (10, .int 1), (9, .int (nI k)), (7, .int (nI ru)), (6, .int (nI ci)), (5, .int 1), (4, .int wv), (3, .int (nI cN)), (2, .int (nI oN)), (1, .int sv), (0, .ref (ad 0))]) hx hb dL_areClocksSo_137 hl (by decide) rfl (fun ls hl => ?_)
                      refine lv_iinc (v := nI (k + 1)) (lv' := [(9, .int (nI (k + 1))), (8, .int (nI k)), (10, .int 1), (7, .int (nI ru)), (6, .int (nI ci)), (5, .int 1), (4, .int wv), (3, .int (nI cN)), (2, .int (nI oN)), (1, .int sv), (0, .ref (ad 0))]) hx hb dL_areClocksSo_139 hl (k := 2) rfl (by rw [show Int32.ofInt 1 = nI 1 from rfl, nI_add]) (by decide) rfl (fun ls hl => ?_)
                      refine lv_goto (tgt := 72) hx hb dL_areClocksSo_142 (by decide) ?_
                      exact ihk (k + 1) (nI k) (by omega) (by omega) (by rw [(lad_st eru (by omega) ela (by omega)).2 p lp e9 elp (by omega), if_pos (by omega)]) _ _ _ hI (lv_sub hl [0, 1, 3, 4, 5, 6, 7, 8, 9, 10] rfl)
                    · skip
                      have nc244 : ¬ (p < 0) := fun h => c244 ((nI_ltI (a := p) (b := 0) (by omega) (by omega)).mpr h)
                      refine lv_aload_n hx hb dL_areClocksSo_115 rfl (lv_at hl 10 rfl) ?_
                      refine lv_iload hx hb dL_areClocksSo_116 (lv_at hl 1 rfl) ?_
                      refine c_calli (As := [.int (nI k)]) (rest := []) hx hb hml hown hts hK hX hI 0 (by omega) cE_0 rfl (k_X5_ofLadder l dd g ad pi A hA C hIN.W hIN.g (nI k)) (cwV 1 hts gL_areClocksSo_X5_ofLadder rfl rfl rfl (by decide +kernel) ⟨Nat.le_of_ble_eq_true rfl, Nat.le_of_ble_eq_true rfl⟩) rfl hl (Nat.le_of_ble_eq_true rfl) ⟨Nat.zero_le _, Nat.zero_le _⟩ dL_areClocksSo_118 rfl (fun r C1 pi1 H locs h245 hI => ?_)
                      obtain ⟨hr9, hc9, hp9⟩ := h245
                      rw [hc9, hp9] at hI
                      rw [lofR_in hW hk, ela] at hr9
                      subst hr9
                      refine lv_aload_n hx hb dL_areClocksSo_121 rfl (lv_at hl 10 rfl) ?_
                      refine lv_iload hx hb dL_areClocksSo_122 (lv_at hl 2 rfl) ?_
                      refine c_calli (As := [.int (nI p)]) (rest := [.int (nI la)]) hx hb hml hown hts hK hX hI 0 (by omega) cE_0 rfl (k_X5_ofLadder l dd g ad pi A hA C hIN.W hIN.g (nI p)) (cwV 1 hts gL_areClocksSo_X5_ofLadder rfl rfl rfl (by decide +kernel) ⟨Nat.le_of_ble_eq_true rfl, Nat.le_of_ble_eq_true rfl⟩) rfl hl (Nat.le_of_ble_eq_true rfl) ⟨Nat.zero_le _, Nat.zero_le _⟩ dL_areClocksSo_124 rfl (fun r C1 pi1 H locs h246 hI => ?_)
                      obtain ⟨hr9, hc9, hp9⟩ := h246
                      rw [hc9, hp9] at hI
                      rw [lofR_in hW hp, elp] at hr9
                      subst hr9
                      refine lv_icmp_ge (tgt := 135) hx hb dL_areClocksSo_127 (by decide) (fun c247 => ?_) (fun c247 => ?_)
                      · skip
                        have nc247 : lp ≤ la := (nI_leI (a := lp) (b := la) (by omega) (by omega)).mp c247
                        refine lv_iload hx hb dL_areClocksSo_135 (lv_at hl 2 rfl) ?_
                        refine lv_istore (lv' := [(8, .int (nI p)), (10, .int 1), (9, .int (nI k)), (7, .int (nI ru)), (6, .int (nI ci)), (5, .int 1), (4, .int wv), (3, .int (nI cN)), (2, .int (nI oN)), (1, .int sv), (0, .ref (ad 0))]) hx hb dL_areClocksSo_137 hl (by decide) rfl (fun ls hl => ?_)
                        refine lv_iinc (v := nI (k + 1)) (lv' := [(9, .int (nI (k + 1))), (8, .int (nI p)), (10, .int 1), (7, .int (nI ru)), (6, .int (nI ci)), (5, .int 1), (4, .int wv), (3, .int (nI cN)), (2, .int (nI oN)), (1, .int sv), (0, .ref (ad 0))]) hx hb dL_areClocksSo_139 hl (k := 2) rfl (by rw [show Int32.ofInt 1 = nI 1 from rfl, nI_add]) (by decide) rfl (fun ls hl => ?_)
                        refine lv_goto (tgt := 72) hx hb dL_areClocksSo_142 (by decide) ?_
                        exact ihk (k + 1) (nI p) (by omega) (by omega) (by rw [(lad_st eru (by omega) ela (by omega)).2 p lp e9 elp (by omega), if_neg (by omega)]) _ _ _ hI (lv_sub hl [0, 1, 3, 4, 5, 6, 7, 8, 9, 10] rfl)
                      · skip
                        have nc247 : ¬ (lp ≤ la) := fun h => c247 ((nI_leI (a := lp) (b := la) (by omega) (by omega)).mpr h)
                        refine lv_iload hx hb dL_areClocksSo_130 (lv_at hl 1 rfl) ?_
                        refine lv_goto (tgt := 137) hx hb dL_areClocksSo_132 (by decide) ?_
                        refine lv_istore (lv' := [(8, .int (nI k)), (10, .int 1), (9, .int (nI k)), (7, .int (nI ru)), (6, .int (nI ci)), (5, .int 1), (4, .int wv), (3, .int (nI cN)), (2, .int (nI oN)), (1, .int sv), (0, .ref (ad 0))]) hx hb dL_areClocksSo_137 hl (by decide) rfl (fun ls hl => ?_)
                        refine lv_iinc (v := nI (k + 1)) (lv' := [(9, .int (nI (k + 1))), (8, .int (nI k)), (10, .int 1), (7, .int (nI ru)), (6, .int (nI ci)), (5, .int 1), (4, .int wv), (3, .int (nI cN)), (2, .int (nI oN)), (1, .int sv), (0, .ref (ad 0))]) hx hb dL_areClocksSo_139 hl (k := 2) rfl (by rw [show Int32.ofInt 1 = nI 1 from rfl, nI_add]) (by decide) rfl (fun ls hl => ?_)
                        refine lv_goto (tgt := 72) hx hb dL_areClocksSo_142 (by decide) ?_
                        exact ihk (k + 1) (nI k) (by omega) (by omega) (by rw [(lad_st eru (by omega) ela (by omega)).2 p lp e9 elp (by omega), if_pos (by omega)]) _ _ _ hI (lv_sub hl [0, 1, 3, 4, 5, 6, 7, 8, 9, 10] rfl)
        exact L72 (ln (C 0) + 1) 0 (-6) (by omega) (by omega) rfl _ _ _ hI (lv_sub hl [0, 1, 2, 3, 4, 5, 6, 7, 8, 9] rfl)
  exact L46 (cn (C 0) + 1) 0 0 0 0 0 (by omega) (by omega) rfl rfl rfl rfl _ _ _ hI (lv_sub hl [0, 1, 2, 3, 4, 5, 6] rfl)
