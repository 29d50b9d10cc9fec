set_option maxHeartbeats 4000000 in
set_option maxRecDepth 100000 in
theorem k_L_does (l : Launch) (dd : va_G) (g : Nat → ClassId) (ad pi : Nat → Nat) (A : Nat → Prop) (hA : cA A ad) (C : MS) (d Bn : Nat) (hIN : IN C pi d Bn) (hB1 : 43200 ≤ Bn) (hB2 : Bn < 2 ^ 25) (v : Int32)  : Met l yL_does wsL_does ({ frames := 5, cells := 0, slots := 0, locals := 120 }) (cPre dd g ad pi A C [.ref (ad 0), .int v]) (cQi dd g ad A (fun r C1 pi1 => ¬ r < -6 ∧ ∃ d1, IN C1 pi1 d1 (Bn + 5000))) 0 0 A := by
  refine Met.ofW (cc := cL_does) (maxL := 4) (ret := (some .int)) (by decide) rfl ?_
  intro p e s m args below meth c s₁ B hml hv
  obtain ⟨rfl, hP0, hK, hX⟩ := hv
  have hx := B.exec
  have hb := B.bytes
  have hr := B.returns
  have hts := atoms_spec (ws := wsL_does) B.pre
  have hown : s.vm.findClass RL = some m.cls := findClass_of_methodNamed B.named
  have hlocks := B.notSynchronized
  have hI : cI dd g ad pi A s.heap s.heap [] C := ⟨hP0, va_S.rf⟩
  have hl := lv_entry ([.ref (ad 0), .int v]) (n := 4) (Nat.le_of_ble_eq_true rfl)
  rw [lg_entry_eq]
  generalize (lg_sl ([.ref (ad 0), .int v]) ++ List.replicate (4 - (lg_sl ([.ref (ad 0), .int v])).length) Slot.unset).toArray = ls at hl ⊢
  have hl : lv_has ls 4 [(0, .ref (ad 0)), (1, .int v)] := hl
  have hn16 := hIN.n16
  have hl4 := hIN.l4
  have hV := hIN.V
  have hW := hIN.W
  have hB30 : Bn < 2 ^ 30 := by omega
  refine lv_aload_n hx hb dL_does_0 rfl (lv_at hl 0 rfl) ?_
  refine lv_iconst (v := 1) hx hb dL_does_1 (by decide) ?_
  refine c_calli (As := [.int 1]) (rest := []) hx hb hml hown hts hK hX hI 0 (by omega) cE_0 rfl (k_X5_count l dd g ad pi A hA C hIN.W hIN.g hIN.Ld 1) (cwV 1 hts gL_does_X5_count rfl rfl rfl (by decide +kernel) ⟨Nat.le_of_ble_eq_true rfl, Nat.le_of_ble_eq_true rfl⟩) rfl hl (Nat.le_of_ble_eq_true rfl) ⟨Nat.zero_le _, Nat.zero_le _⟩ dL_does_2 rfl (fun r C1 pi1 H locs h1 hI => ?_)
  obtain ⟨hr9, hc9, hp9⟩ := h1
  rw [hc9, hp9] at hI
  rw [q_c1 hW] at hr9
  subst hr9
  refine lv_istore_n (lv' := [(2, .int (nI (cn (C 0)))), (0, .ref (ad 0)), (1, .int v)]) hx hb dL_does_5 rfl hl (by decide) rfl (fun ls hl => ?_)
  refine lv_iload_n hx hb dL_does_6 rfl (lv_at hl 2 rfl) ?_
  refine lv_bipush (v := 15) hx hb dL_does_7 (by decide) ?_
  refine lv_iand hx hb dL_does_9 ?_
  by_cases c2_0 : v &&& 15 = 0
  · rw [c2_0]
    refine lv_tableIn (tgt := 68) (off := 58) hx hb dL_does_10 (by decide) (by decide) (by decide +kernel) (by decide) ?_
    refine lv_aload_n hx hb dL_does_68 rfl (lv_at hl 1 rfl) ?_
    refine lv_iload_n hx hb dL_does_69 rfl (lv_at hl 2 rfl) ?_
    refine lv_iconst (v := 4) hx hb dL_does_70 (by decide) ?_
    refine lv_ishr hx hb dL_does_71 ?_
    refine lv_bipush (v := 100) hx hb dL_does_72 (by decide) ?_
    refine c_calls (As := [.int (v >>> (4 &&& 31)), .int 100]) (rest := [.ref (ad 0)]) hx hb hml hown hts hI (k_L_low l (v >>> (4 &&& 31)) 100 (by omega) (by omega)) (va_cwS 2 hts gL_does_L_low rfl rfl rfl (by decide +kernel) ⟨Nat.le_of_ble_eq_true rfl, Nat.le_of_ble_eq_true rfl⟩) rfl hl (Nat.le_of_ble_eq_true rfl) ⟨Nat.zero_le _, Nat.zero_le _⟩ dL_does_74 rfl (fun r H locs h4 hI => ?_)
    obtain ⟨j3, hj3, hr9⟩ := h4
    subst hr9
    refine lv_iload_n hx hb dL_does_77 rfl (lv_at hl 2 rfl) ?_
    refine lv_bipush (v := 11) hx hb dL_does_78 (by decide) ?_
    refine lv_ishr hx hb dL_does_80 ?_
    refine lv_iconst (v := 1) hx hb dL_does_81 (by decide) ?_
    refine lv_iand hx hb dL_does_82 ?_
    refine lv_if_ne (tgt := 90) hx hb dL_does_83 (by decide) (fun c5 => ?_) (fun c5 => ?_)
    · skip
      refine lv_iload_n hx hb dL_does_90 rfl (lv_at hl 2 rfl) ?_
      refine lv_bipush (v := 12) hx hb dL_does_91 (by decide) ?_
      refine lv_ishr hx hb dL_does_93 ?_
      refine lv_bipush (v := 31) hx hb dL_does_94 (by decide) ?_
      refine c_calls (As := [.int (v >>> (12 &&& 31)), .int 31]) (rest := [.int (nI j3), .ref (ad 0)]) hx hb hml hown hts hI (k_L_low l (v >>> (12 &&& 31)) 31 (by omega) (by omega)) (va_cwS 2 hts gL_does_L_low rfl rfl rfl (by decide +kernel) ⟨Nat.le_of_ble_eq_true rfl, Nat.le_of_ble_eq_true rfl⟩) rfl hl (Nat.le_of_ble_eq_true rfl) ⟨Nat.zero_le _, Nat.zero_le _⟩ dL_does_96 rfl (fun r H locs h7 hI => ?_)
      obtain ⟨j6, hj6, hr9⟩ := h7
      subst hr9
      refine lv_iload_n hx hb dL_does_99 rfl (lv_at hl 2 rfl) ?_
      refine lv_iconst (v := 5) hx hb dL_does_100 (by decide) ?_
      refine lv_ishr hx hb dL_does_101 ?_
      refine lv_sipush (v := 199) hx hb dL_does_102 (by decide) ?_
      refine c_calls (As := [.int (v >>> (5 &&& 31)), .int 199]) (rest := [.int (nI j6), .int (nI j3), .ref (ad 0)]) hx hb hml hown hts hI (k_L_low l (v >>> (5 &&& 31)) 199 (by omega) (by omega)) (va_cwS 2 hts gL_does_L_low rfl rfl rfl (by decide +kernel) ⟨Nat.le_of_ble_eq_true rfl, Nat.le_of_ble_eq_true rfl⟩) rfl hl (Nat.le_of_ble_eq_true rfl) ⟨Nat.zero_le _, Nat.zero_le _⟩ dL_does_105 rfl (fun r H locs h9 hI => ?_)
      obtain ⟨j8, hj8, hr9⟩ := h9
      subst hr9
      refine lv_bipush (v := 99) hx hb dL_does_108 (by decide) ?_
      refine lv_isub hx hb dL_does_110 ?_
      refine c_calli (As := [.int (nI j3), .int (nI j6), .int ((nI j8) - 99)]) (rest := []) hx hb hml hown hts hK hX hI 0 (by omega) cE_0 rfl (k_X5_hang l dd g ad pi A hA C d hIN.1 hIN.2.1 hIN.2.2.1 hIN.W hIN.g (nI j3) (nI j6) ((nI j8) - 99)) (cwV 3 hts gL_does_X5_hang rfl rfl rfl (by decide +kernel) ⟨Nat.le_of_ble_eq_true rfl, Nat.le_of_ble_eq_true rfl⟩) rfl hl (Nat.le_of_ble_eq_true rfl) ⟨Nat.zero_le _, Nat.zero_le _⟩ dL_does_111 rfl (fun rv12 N10 P11 H locs h13 hI => ?_)
      have v12 := h13
      exact c_iret (v := rv12) hx hb hr hI (hIN.dn v12 (ck_hang hIN.2.2.2.1 hIN.g _ _ _) (Nat.le_refl _) (by omega)) dL_does_114 hlocks
    · skip
      refine lv_iconst (v := 0) hx hb dL_does_86 (by decide) ?_
      refine lv_goto (tgt := 99) hx hb dL_does_87 (by decide) ?_
      refine lv_iload_n hx hb dL_does_99 rfl (lv_at hl 2 rfl) ?_
      refine lv_iconst (v := 5) hx hb dL_does_100 (by decide) ?_
      refine lv_ishr hx hb dL_does_101 ?_
      refine lv_sipush (v := 199) hx hb dL_does_102 (by decide) ?_
      refine c_calls (As := [.int (v >>> (5 &&& 31)), .int 199]) (rest := [.int 0, .int (nI j3), .ref (ad 0)]) hx hb hml hown hts hI (k_L_low l (v >>> (5 &&& 31)) 199 (by omega) (by omega)) (va_cwS 2 hts gL_does_L_low rfl rfl rfl (by decide +kernel) ⟨Nat.le_of_ble_eq_true rfl, Nat.le_of_ble_eq_true rfl⟩) rfl hl (Nat.le_of_ble_eq_true rfl) ⟨Nat.zero_le _, Nat.zero_le _⟩ dL_does_105 rfl (fun r H locs h15 hI => ?_)
      obtain ⟨j14, hj14, hr9⟩ := h15
      subst hr9
      refine lv_bipush (v := 99) hx hb dL_does_108 (by decide) ?_
      refine lv_isub hx hb dL_does_110 ?_
      refine c_calli (As := [.int (nI j3), .int 0, .int ((nI j14) - 99)]) (rest := []) hx hb hml hown hts hK hX hI 0 (by omega) cE_0 rfl (k_X5_hang l dd g ad pi A hA C d hIN.1 hIN.2.1 hIN.2.2.1 hIN.W hIN.g (nI j3) 0 ((nI j14) - 99)) (cwV 3 hts gL_does_X5_hang rfl rfl rfl (by decide +kernel) ⟨Nat.le_of_ble_eq_true rfl, Nat.le_of_ble_eq_true rfl⟩) rfl hl (Nat.le_of_ble_eq_true rfl) ⟨Nat.zero_le _, Nat.zero_le _⟩ dL_does_111 rfl (fun rv18 N16 P17 H locs h19 hI => ?_)
      have v18 := h19
      exact c_iret (v := rv18) hx hb hr hI (hIN.dn v18 (ck_hang hIN.2.2.2.1 hIN.g _ _ _) (Nat.le_refl _) (by omega)) dL_does_114 hlocks
  by_cases c2_1 : v &&& 15 = 1
  · rw [c2_1]
    refine lv_tableIn (tgt := 68) (off := 58) hx hb dL_does_10 (by decide) (by decide) (by decide +kernel) (by decide) ?_
    refine lv_aload_n hx hb dL_does_68 rfl (lv_at hl 1 rfl) ?_
    refine lv_iload_n hx hb dL_does_69 rfl (lv_at hl 2 rfl) ?_
    refine lv_iconst (v := 4) hx hb dL_does_70 (by decide) ?_
    refine lv_ishr hx hb dL_does_71 ?_
    refine lv_bipush (v := 100) hx hb dL_does_72 (by decide) ?_
    refine c_calls (As := [.int (v >>> (4 &&& 31)), .int 100]) (rest := [.ref (ad 0)]) hx hb hml hown hts hI (k_L_low l (v >>> (4 &&& 31)) 100 (by omega) (by omega)) (va_cwS 2 hts gL_does_L_low rfl rfl rfl (by decide +kernel) ⟨Nat.le_of_ble_eq_true rfl, Nat.le_of_ble_eq_true rfl⟩) rfl hl (Nat.le_of_ble_eq_true rfl) ⟨Nat.zero_le _, Nat.zero_le _⟩ dL_does_74 rfl (fun r H locs h21 hI => ?_)
    obtain ⟨j20, hj20, hr9⟩ := h21
    subst hr9
    refine lv_iload_n hx hb dL_does_77 rfl (lv_at hl 2 rfl) ?_
    refine lv_bipush (v := 11) hx hb dL_does_78 (by decide) ?_
    refine lv_ishr hx hb dL_does_80 ?_
    refine lv_iconst (v := 1) hx hb dL_does_81 (by decide) ?_
    refine lv_iand hx hb dL_does_82 ?_
    refine lv_if_ne (tgt := 90) hx hb dL_does_83 (by decide) (fun c22 => ?_) (fun c22 => ?_)
    · skip
      refine lv_iload_n hx hb dL_does_90 rfl (lv_at hl 2 rfl) ?_
      refine lv_bipush (v := 12) hx hb dL_does_91 (by decide) ?_
      refine lv_ishr hx hb dL_does_93 ?_
      refine lv_bipush (v := 31) hx hb dL_does_94 (by decide) ?_
      refine c_calls (As := [.int (v >>> (12 &&& 31)), .int 31]) (rest := [.int (nI j20), .ref (ad 0)]) hx hb hml hown hts hI (k_L_low l (v >>> (12 &&& 31)) 31 (by omega) (by omega)) (va_cwS 2 hts gL_does_L_low rfl rfl rfl (by decide +kernel) ⟨Nat.le_of_ble_eq_true rfl, Nat.le_of_ble_eq_true rfl⟩) rfl hl (Nat.le_of_ble_eq_true rfl) ⟨Nat.zero_le _, Nat.zero_le _⟩ dL_does_96 rfl (fun r H locs h24 hI => ?_)
      obtain ⟨j23, hj23, hr9⟩ := h24
      subst hr9
      refine lv_iload_n hx hb dL_does_99 rfl (lv_at hl 2 rfl) ?_
      refine lv_iconst (v := 5) hx hb dL_does_100 (by decide) ?_
      refine lv_ishr hx hb dL_does_101 ?_
      refine lv_sipush (v := 199) hx hb dL_does_102 (by decide) ?_
      refine c_calls (As := [.int (v >>> (5 &&& 31)), .int 199]) (rest := [.int (nI j23), .int (nI j20), .ref (ad 0)]) hx hb hml hown hts hI (k_L_low l (v >>> (5 &&& 31)) 199 (by omega) (by omega)) (va_cwS 2 hts gL_does_L_low rfl rfl rfl (by decide +kernel) ⟨Nat.le_of_ble_eq_true rfl, Nat.le_of_ble_eq_true rfl⟩) rfl hl (Nat.le_of_ble_eq_true rfl) ⟨Nat.zero_le _, Nat.zero_le _⟩ dL_does_105 rfl (fun r H locs h26 hI => ?_)
      obtain ⟨j25, hj25, hr9⟩ := h26
      subst hr9
      refine lv_bipush (v := 99) hx hb dL_does_108 (by decide) ?_
      refine lv_isub hx hb dL_does_110 ?_
      refine c_calli (As := [.int (nI j20), .int (nI j23), .int ((nI j25) - 99)]) (rest := []) hx hb hml hown hts hK hX hI 0 (by omega) cE_0 rfl (k_X5_hang l dd g ad pi A hA C d hIN.1 hIN.2.1 hIN.2.2.1 hIN.W hIN.g (nI j20) (nI j23) ((nI j25) - 99)) (cwV 3 hts gL_does_X5_hang rfl rfl rfl (by decide +kernel) ⟨Nat.le_of_ble_eq_true rfl, Nat.le_of_ble_eq_true rfl⟩) rfl hl (Nat.le_of_ble_eq_true rfl) ⟨Nat.zero_le _, Nat.zero_le _⟩ dL_does_111 rfl (fun rv29 N27 P28 H locs h30 hI => ?_)
      have v29 := h30
      exact c_iret (v := rv29) hx hb hr hI (hIN.dn v29 (ck_hang hIN.2.2.2.1 hIN.g _ _ _) (Nat.le_refl _) (by omega)) dL_does_114 hlocks
    · skip
      refine lv_iconst (v := 0) hx hb dL_does_86 (by decide) ?_
      refine lv_goto (tgt := 99) hx hb dL_does_87 (by decide) ?_
      refine lv_iload_n hx hb dL_does_99 rfl (lv_at hl 2 rfl) ?_
      refine lv_iconst (v := 5) hx hb dL_does_100 (by decide) ?_
      refine lv_ishr hx hb dL_does_101 ?_
      refine lv_sipush (v := 199) hx hb dL_does_102 (by decide) ?_
      refine c_calls (As := [.int (v >>> (5 &&& 31)), .int 199]) (rest := [.int 0, .int (nI j20), .ref (ad 0)]) hx hb hml hown hts hI (k_L_low l (v >>> (5 &&& 31)) 199 (by omega) (by omega)) (va_cwS 2 hts gL_does_L_low rfl rfl rfl (by decide +kernel) ⟨Nat.le_of_ble_eq_true rfl, Nat.le_of_ble_eq_true rfl⟩) rfl hl (Nat.le_of_ble_eq_true rfl) ⟨Nat.zero_le _, Nat.zero_le _⟩ dL_does_105 rfl (fun r H locs h32 hI => ?_)
      obtain ⟨j31, hj31, hr9⟩ := h32
      subst hr9
      refine lv_bipush (v := 99) hx hb dL_does_108 (by decide) ?_
      refine lv_isub hx hb dL_does_110 ?_
      refine c_calli (As := [.int (nI j20), .int 0, .int ((nI j31) - 99)]) (rest := []) hx hb hml hown hts hK hX hI 0 (by omega) cE_0 rfl (k_X5_hang l dd g ad pi A hA C d hIN.1 hIN.2.1 hIN.2.2.1 hIN.W hIN.g (nI j20) 0 ((nI j31) - 99)) (cwV 3 hts gL_does_X5_hang rfl rfl rfl (by decide +kernel) ⟨Nat.le_of_ble_eq_true rfl, Nat.le_of_ble_eq_true rfl⟩) rfl hl (Nat.le_of_ble_eq_true rfl) ⟨Nat.zero_le _, Nat.zero_le _⟩ dL_does_111 rfl (fun rv35 N33 P34 H locs h36 hI => ?_)
      have v35 := h36
      exact c_iret (v := rv35) hx hb hr hI (hIN.dn v35 (ck_hang hIN.2.2.2.1 hIN.g _ _ _) (Nat.le_refl _) (by omega)) dL_does_114 hlocks
  by_cases c2_2 : v &&& 15 = 2
  · rw [c2_2]
    refine lv_tableIn (tgt := 68) (off := 58) hx hb dL_does_10 (by decide) (by decide) (by decide +kernel) (by decide) ?_
    refine lv_aload_n hx hb dL_does_68 rfl (lv_at hl 1 rfl) ?_
    refine lv_iload_n hx hb dL_does_69 rfl (lv_at hl 2 rfl) ?_
    refine lv_iconst (v := 4) hx hb dL_does_70 (by decide) ?_
    refine lv_ishr hx hb dL_does_71 ?_
    refine lv_bipush (v := 100) hx hb dL_does_72 (by decide) ?_
    refine c_calls (As := [.int (v >>> (4 &&& 31)), .int 100]) (rest := [.ref (ad 0)]) hx hb hml hown hts hI (k_L_low l (v >>> (4 &&& 31)) 100 (by omega) (by omega)) (va_cwS 2 hts gL_does_L_low rfl rfl rfl (by decide +kernel) ⟨Nat.le_of_ble_eq_true rfl, Nat.le_of_ble_eq_true rfl⟩) rfl hl (Nat.le_of_ble_eq_true rfl) ⟨Nat.zero_le _, Nat.zero_le _⟩ dL_does_74 rfl (fun r H locs h38 hI => ?_)
    obtain ⟨j37, hj37, hr9⟩ := h38
    subst hr9
    refine lv_iload_n hx hb dL_does_77 rfl (lv_at hl 2 rfl) ?_
    refine lv_bipush (v := 11) hx hb dL_does_78 (by decide) ?_
    refine lv_ishr hx hb dL_does_80 ?_
    refine lv_iconst (v := 1) hx hb dL_does_81 (by decide) ?_
    refine lv_iand hx hb dL_does_82 ?_
    refine lv_if_ne (tgt := 90) hx hb dL_does_83 (by decide) (fun c39 => ?_) (fun c39 => ?_)
    · skip
      refine lv_iload_n hx hb dL_does_90 rfl (lv_at hl 2 rfl) ?_
      refine lv_bipush (v := 12) hx hb dL_does_91 (by decide) ?_
      refine lv_ishr hx hb dL_does_93 ?_
      refine lv_bipush (v := 31) hx hb dL_does_94 (by decide) ?_
      refine c_calls (As := [.int (v >>> (12 &&& 31)), .int 31]) (rest := [.int (nI j37), .ref (ad 0)]) hx hb hml hown hts hI (k_L_low l (v >>> (12 &&& 31)) 31 (by omega) (by omega)) (va_cwS 2 hts gL_does_L_low rfl rfl rfl (by decide +kernel) ⟨Nat.le_of_ble_eq_true rfl, Nat.le_of_ble_eq_true rfl⟩) rfl hl (Nat.le_of_ble_eq_true rfl) ⟨Nat.zero_le _, Nat.zero_le _⟩ dL_does_96 rfl (fun r H locs h41 hI => ?_)
      obtain ⟨j40, hj40, hr9⟩ := h41
      subst hr9
      refine lv_iload_n hx hb dL_does_99 rfl (lv_at hl 2 rfl) ?_
      refine lv_iconst (v := 5) hx hb dL_does_100 (by decide) ?_
      refine lv_ishr hx hb dL_does_101 ?_
      refine lv_sipush (v := 199) hx hb dL_does_102 (by decide) ?_
      refine c_calls (As := [.int (v >>> (5 &&& 31)), .int 199]) (rest := [.int (nI j40), .int (nI j37), .ref (ad 0)]) hx hb hml hown hts hI (k_L_low l (v >>> (5 &&& 31)) 199 (by omega) (by omega)) (va_cwS 2 hts gL_does_L_low rfl rfl rfl (by decide +kernel) ⟨Nat.le_of_ble_eq_true rfl, Nat.le_of_ble_eq_true rfl⟩) rfl hl (Nat.le_of_ble_eq_true rfl) ⟨Nat.zero_le _, Nat.zero_le _⟩ dL_does_105 rfl (fun r H locs h43 hI => ?_)
      obtain ⟨j42, hj42, hr9⟩ := h43
      subst hr9
      refine lv_bipush (v := 99) hx hb dL_does_108 (by decide) ?_
      refine lv_isub hx hb dL_does_110 ?_
      refine c_calli (As := [.int (nI j37), .int (nI j40), .int ((nI j42) - 99)]) (rest := []) hx hb hml hown hts hK hX hI 0 (by omega) cE_0 rfl (k_X5_hang l dd g ad pi A hA C d hIN.1 hIN.2.1 hIN.2.2.1 hIN.W hIN.g (nI j37) (nI j40) ((nI j42) - 99)) (cwV 3 hts gL_does_X5_hang rfl rfl rfl (by decide +kernel) ⟨Nat.le_of_ble_eq_true rfl, Nat.le_of_ble_eq_true rfl⟩) rfl hl (Nat.le_of_ble_eq_true rfl) ⟨Nat.zero_le _, Nat.zero_le _⟩ dL_does_111 rfl (fun rv46 N44 P45 H locs h47 hI => ?_)
      have v46 := h47
      exact c_iret (v := rv46) hx hb hr hI (hIN.dn v46 (ck_hang hIN.2.2.2.1 hIN.g _ _ _) (Nat.le_refl _) (by omega)) dL_does_114 hlocks
    · skip
      refine lv_iconst (v := 0) hx hb dL_does_86 (by decide) ?_
      refine lv_goto (tgt := 99) hx hb dL_does_87 (by decide) ?_
      refine lv_iload_n hx hb dL_does_99 rfl (lv_at hl 2 rfl) ?_
      refine lv_iconst (v := 5) hx hb dL_does_100 (by decide) ?_
      refine lv_ishr hx hb dL_does_101 ?_
      refine lv_sipush (v := 199) hx hb dL_does_102 (by decide) ?_
      refine c_calls (As := [.int (v >>> (5 &&& 31)), .int 199]) (rest := [.int 0, .int (nI j37), .ref (ad 0)]) hx hb hml hown hts hI (k_L_low l (v >>> (5 &&& 31)) 199 (by omega) (by omega)) (va_cwS 2 hts gL_does_L_low rfl rfl rfl (by decide +kernel) ⟨Nat.le_of_ble_eq_true rfl, Nat.le_of_ble_eq_true rfl⟩) rfl hl (Nat.le_of_ble_eq_true rfl) ⟨Nat.zero_le _, Nat.zero_le _⟩ dL_does_105 rfl (fun r H locs h49 hI => ?_)
      obtain ⟨j48, hj48, hr9⟩ := h49
      subst hr9
      refine lv_bipush (v := 99) hx hb dL_does_108 (by decide) ?_
      refine lv_isub hx hb dL_does_110 ?_
      refine c_calli (As := [.int (nI j37), .int 0, .int ((nI j48) - 99)]) (rest := []) hx hb hml hown hts hK hX hI 0 (by omega) cE_0 rfl (k_X5_hang l dd g ad pi A hA C d hIN.1 hIN.2.1 hIN.2.2.1 hIN.W hIN.g (nI j37) 0 ((nI j48) - 99)) (cwV 3 hts gL_does_X5_hang rfl rfl rfl (by decide +kernel) ⟨Nat.le_of_ble_eq_true rfl, Nat.le_of_ble_eq_true rfl⟩) rfl hl (Nat.le_of_ble_eq_true rfl) ⟨Nat.zero_le _, Nat.zero_le _⟩ dL_does_111 rfl (fun rv52 N50 P51 H locs h53 hI => ?_)
      have v52 := h53
      exact c_iret (v := rv52) hx hb hr hI (hIN.dn v52 (ck_hang hIN.2.2.2.1 hIN.g _ _ _) (Nat.le_refl _) (by omega)) dL_does_114 hlocks
  by_cases c2_3 : v &&& 15 = 3
  · rw [c2_3]
    refine lv_tableIn (tgt := 115) (off := 105) hx hb dL_does_10 (by decide) (by decide) (by decide +kernel) (by decide) ?_
    refine lv_aload_n hx hb dL_does_115 rfl (lv_at hl 1 rfl) ?_
    refine lv_iconst (v := 1) hx hb dL_does_116 (by decide) ?_
    refine lv_iload_n hx hb dL_does_117 rfl (lv_at hl 2 rfl) ?_
    refine lv_iconst (v := 4) hx hb dL_does_118 (by decide) ?_
    refine lv_ishr hx hb dL_does_119 ?_
    refine lv_bipush (v := 30) hx hb dL_does_120 (by decide) ?_
    refine c_calls (As := [.int (v >>> (4 &&& 31)), .int 30]) (rest := [.int 1, .ref (ad 0)]) hx hb hml hown hts hI (k_L_low l (v >>> (4 &&& 31)) 30 (by omega) (by omega)) (va_cwS 2 hts gL_does_L_low rfl rfl rfl (by decide +kernel) ⟨Nat.le_of_ble_eq_true rfl, Nat.le_of_ble_eq_true rfl⟩) rfl hl (Nat.le_of_ble_eq_true rfl) ⟨Nat.zero_le _, Nat.zero_le _⟩ dL_does_122 rfl (fun r H locs h55 hI => ?_)
    obtain ⟨j54, hj54, hr9⟩ := h55
    subst hr9
    refine lv_iadd hx hb dL_does_125 ?_
    refine lv_re (y := nI (1 + j54)) (nI_add (1) (j54)) ?_
    refine c_calli (As := [.int (nI (1 + j54))]) (rest := []) hx hb hml hown hts hK hX hI 0 (by omega) cE_0 rfl (k_X5_ladder l dd g ad pi A hA C d hIN.1 hIN.2.1 hIN.2.2.1 hIN.W hIN.g (nI (1 + j54))) (cwV 1 hts gL_does_X5_ladder rfl rfl rfl (by decide +kernel) ⟨Nat.le_of_ble_eq_true rfl, Nat.le_of_ble_eq_true rfl⟩) rfl hl (Nat.le_of_ble_eq_true rfl) ⟨Nat.zero_le _, Nat.zero_le _⟩ dL_does_126 rfl (fun rv58 N56 P57 H locs h59 hI => ?_)
    have v58 := h59
    exact c_iret (v := rv58) hx hb hr hI (hIN.dn v58 (ck_lad hIN.2.2.2.1 hIN.g _) (Nat.le_refl _) (by omega)) dL_does_129 hlocks
  by_cases c2_4 : v &&& 15 = 4
  · rw [c2_4]
    refine lv_tableIn (tgt := 130) (off := 120) hx hb dL_does_10 (by decide) (by decide) (by decide +kernel) (by decide) ?_
    refine lv_iload_n hx hb dL_does_130 rfl (lv_at hl 0 rfl) ?_
    refine lv_if_ne (tgt := 138) hx hb dL_does_131 (by decide) (fun c60 => ?_) (fun c60 => ?_)
    · skip
      have nc60 : ¬ (cn (C 0) = 0) := fun h => c60 ((nI_eq (a := cn (C 0)) (b := 0) (by omega) (by omega)).mpr h)
      refine lv_aload_n hx hb dL_does_138 rfl (lv_at hl 1 rfl) ?_
      refine lv_iload_n hx hb dL_does_139 rfl (lv_at hl 2 rfl) ?_
      refine lv_iconst (v := 4) hx hb dL_does_140 (by decide) ?_
      refine lv_ishr hx hb dL_does_141 ?_
      refine lv_iload_n hx hb dL_does_142 rfl (lv_at hl 0 rfl) ?_
      refine c_calls (As := [.int (v >>> (4 &&& 31)), .int (nI (cn (C 0)))]) (rest := [.ref (ad 0)]) hx hb hml hown hts hI (k_L_low l (v >>> (4 &&& 31)) (cn (C 0)) (by omega) (by omega)) (va_cwS 2 hts gL_does_L_low rfl rfl rfl (by decide +kernel) ⟨Nat.le_of_ble_eq_true rfl, Nat.le_of_ble_eq_true rfl⟩) rfl hl (Nat.le_of_ble_eq_true rfl) ⟨Nat.zero_le _, Nat.zero_le _⟩ dL_does_143 rfl (fun r H locs h62 hI => ?_)
      obtain ⟨j61, hj61, hr9⟩ := h62
      subst hr9
      refine lv_iload_n hx hb dL_does_146 rfl (lv_at hl 2 rfl) ?_
      refine lv_bipush (v := 8) hx hb dL_does_147 (by decide) ?_
      refine lv_ishr hx hb dL_does_149 ?_
      refine lv_bipush (v := 41) hx hb dL_does_150 (by decide) ?_
      refine c_calls (As := [.int (v >>> (8 &&& 31)), .int 41]) (rest := [.int (nI j61), .ref (ad 0)]) hx hb hml hown hts hI (k_L_low l (v >>> (8 &&& 31)) 41 (by omega) (by omega)) (va_cwS 2 hts gL_does_L_low rfl rfl rfl (by decide +kernel) ⟨Nat.le_of_ble_eq_true rfl, Nat.le_of_ble_eq_true rfl⟩) rfl hl (Nat.le_of_ble_eq_true rfl) ⟨Nat.zero_le _, Nat.zero_le _⟩ dL_does_152 rfl (fun r H locs h64 hI => ?_)
      obtain ⟨j63, hj63, hr9⟩ := h64
      subst hr9
      refine lv_bipush (v := 20) hx hb dL_does_155 (by decide) ?_
      refine lv_isub hx hb dL_does_157 ?_
      refine c_calli (As := [.int (nI j61), .int ((nI j63) - 20)]) (rest := []) hx hb hml hown hts hK hX hI 0 (by omega) cE_0 rfl (k_X5_screw l dd g ad pi A hA C d hIN.1 hIN.2.1 hIN.2.2.1 hIN.W hIN.g (nI j61) ((nI j63) - 20)) (cwV 2 hts gL_does_X5_screw rfl rfl rfl (by decide +kernel) ⟨Nat.le_of_ble_eq_true rfl, Nat.le_of_ble_eq_true rfl⟩) rfl hl (Nat.le_of_ble_eq_true rfl) ⟨Nat.zero_le _, Nat.zero_le _⟩ dL_does_158 rfl (fun rv67 N65 P66 H locs h68 hI => ?_)
      have v67 := h68
      exact c_iret (v := rv67) hx hb hr hI (hIN.dn v67 (ck_scr hIN.2.2.2.1 hIN.g _ _) (Nat.le_refl _) (by omega)) dL_does_161 hlocks
    · skip
      have nc60 : cn (C 0) = 0 := (nI_eq (a := cn (C 0)) (b := 0) (by omega) (by omega)).mp c60
      refine lv_iconst (v := 0) hx hb dL_does_134 (by decide) ?_
      refine lv_goto (tgt := 161) hx hb dL_does_135 (by decide) ?_
      exact c_iret (v := 0) hx hb hr hI (⟨by decide, d, hIN.mono (by omega)⟩) dL_does_161 hlocks
  by_cases c2_5 : v &&& 15 = 5
  · rw [c2_5]
    refine lv_tableIn (tgt := 162) (off := 152) hx hb dL_does_10 (by decide) (by decide) (by decide +kernel) (by decide) ?_
    refine lv_iload_n hx hb dL_does_162 rfl (lv_at hl 2 rfl) ?_
    refine lv_iconst (v := 4) hx hb dL_does_163 (by decide) ?_
    refine lv_ishr hx hb dL_does_164 ?_
    refine lv_iconst (v := 4) hx hb dL_does_165 (by decide) ?_
    refine c_calls (As := [.int (v >>> (4 &&& 31)), .int 4]) (rest := []) hx hb hml hown hts hI (k_L_low l (v >>> (4 &&& 31)) 4 (by omega) (by omega)) (va_cwS 2 hts gL_does_L_low rfl rfl rfl (by decide +kernel) ⟨Nat.le_of_ble_eq_true rfl, Nat.le_of_ble_eq_true rfl⟩) rfl hl (Nat.le_of_ble_eq_true rfl) ⟨Nat.zero_le _, Nat.zero_le _⟩ dL_does_166 rfl (fun r H locs h70 hI => ?_)
    obtain ⟨j69, hj69, hr9⟩ := h70
    subst hr9
    refine lv_istore_n (lv' := [(3, .int (nI j69)), (2, .int (nI (cn (C 0)))), (0, .ref (ad 0)), (1, .int v)]) hx hb dL_does_169 rfl hl (by decide) rfl (fun ls hl => ?_)
    refine lv_aload_n hx hb dL_does_170 rfl (lv_at hl 2 rfl) ?_
    refine lv_iload_n hx hb dL_does_171 rfl (lv_at hl 0 rfl) ?_
    refine lv_iconst (v := 1) hx hb dL_does_172 (by decide) ?_
    refine lv_iload_n hx hb dL_does_173 rfl (lv_at hl 3 rfl) ?_
    refine lv_bipush (v := 6) hx hb dL_does_174 (by decide) ?_
    refine lv_ishr hx hb dL_does_176 ?_
    refine lv_iload_n hx hb dL_does_177 rfl (lv_at hl 0 rfl) ?_
    refine lv_if_ne (tgt := 187) hx hb dL_does_178 (by decide) (fun c71 => ?_) (fun c71 => ?_)
    · skip
      have nc71 : ¬ (j69 = 0) := fun h => c71 ((nI_eq (a := j69) (b := 0) (by omega) (by omega)).mpr h)
      refine lv_bipush (v := 30) hx hb dL_does_187 (by decide) ?_
      refine c_calls (As := [.int (v >>> (6 &&& 31)), .int 30]) (rest := [.int 1, .int (nI j69), .ref (ad 0)]) hx hb hml hown hts hI (k_L_low l (v >>> (6 &&& 31)) 30 (by omega) (by omega)) (va_cwS 2 hts gL_does_L_low rfl rfl rfl (by decide +kernel) ⟨Nat.le_of_ble_eq_true rfl, Nat.le_of_ble_eq_true rfl⟩) rfl hl (Nat.le_of_ble_eq_true rfl) ⟨Nat.zero_le _, Nat.zero_le _⟩ dL_does_189 rfl (fun r H locs h73 hI => ?_)
      obtain ⟨j72, hj72, hr9⟩ := h73
      subst hr9
      refine lv_iadd hx hb dL_does_192 ?_
      refine lv_re (y := nI (1 + j72)) (nI_add (1) (j72)) ?_
      refine c_calli (As := [.int (nI j69), .int (nI (1 + j72))]) (rest := []) hx hb hml hown hts hK hX hI 0 (by omega) cE_0 rfl (k_X5_set l dd g ad pi A hA C d hIN.1 hIN.2.1 hIN.2.2.1 hIN.W hIN.g (nI j69) (nI (1 + j72))) (cwV 2 hts gL_does_X5_set rfl rfl rfl (by decide +kernel) ⟨Nat.le_of_ble_eq_true rfl, Nat.le_of_ble_eq_true rfl⟩) rfl hl (Nat.le_of_ble_eq_true rfl) ⟨Nat.zero_le _, Nat.zero_le _⟩ dL_does_193 rfl (fun rv76 N74 P75 H locs h77 hI => ?_)
      have v76 := h77
      exact c_iret (v := rv76) hx hb hr hI (hIN.dn v76 (ck_set hIN.2.2.2.1 hIN.g _ _) (Nat.le_refl _) (by omega)) dL_does_196 hlocks
    · skip
      have nc71 : j69 = 0 := (nI_eq (a := j69) (b := 0) (by omega) (by omega)).mp c71
      refine lv_sipush (v := 200) hx hb dL_does_181 (by decide) ?_
      refine lv_goto (tgt := 189) hx hb dL_does_184 (by decide) ?_
      refine c_calls (As := [.int (v >>> (6 &&& 31)), .int 200]) (rest := [.int 1, .int (nI j69), .ref (ad 0)]) hx hb hml hown hts hI (k_L_low l (v >>> (6 &&& 31)) 200 (by omega) (by omega)) (va_cwS 2 hts gL_does_L_low rfl rfl rfl (by decide +kernel) ⟨Nat.le_of_ble_eq_true rfl, Nat.le_of_ble_eq_true rfl⟩) rfl hl (Nat.le_of_ble_eq_true rfl) ⟨Nat.zero_le _, Nat.zero_le _⟩ dL_does_189 rfl (fun r H locs h79 hI => ?_)
      obtain ⟨j78, hj78, hr9⟩ := h79
      subst hr9
      refine lv_iadd hx hb dL_does_192 ?_
      refine lv_re (y := nI (1 + j78)) (nI_add (1) (j78)) ?_
      refine c_calli (As := [.int (nI j69), .int (nI (1 + j78))]) (rest := []) hx hb hml hown hts hK hX hI 0 (by omega) cE_0 rfl (k_X5_set l dd g ad pi A hA C d hIN.1 hIN.2.1 hIN.2.2.1 hIN.W hIN.g (nI j69) (nI (1 + j78))) (cwV 2 hts gL_does_X5_set rfl rfl rfl (by decide +kernel) ⟨Nat.le_of_ble_eq_true rfl, Nat.le_of_ble_eq_true rfl⟩) rfl hl (Nat.le_of_ble_eq_true rfl) ⟨Nat.zero_le _, Nat.zero_le _⟩ dL_does_193 rfl (fun rv82 N80 P81 H locs h83 hI => ?_)
      have v82 := h83
      exact c_iret (v := rv82) hx hb hr hI (hIN.dn v82 (ck_set hIN.2.2.2.1 hIN.g _ _) (Nat.le_refl _) (by omega)) dL_does_196 hlocks
  by_cases c2_6 : v &&& 15 = 6
  · rw [c2_6]
    refine lv_tableIn (tgt := 197) (off := 187) hx hb dL_does_10 (by decide) (by decide) (by decide +kernel) (by decide) ?_
    refine lv_aload_n hx hb dL_does_197 rfl (lv_at hl 1 rfl) ?_
    refine lv_iload_n hx hb dL_does_198 rfl (lv_at hl 2 rfl) ?_
    refine lv_iconst (v := 4) hx hb dL_does_199 (by decide) ?_
    refine lv_ishr hx hb dL_does_200 ?_
    refine lv_iconst (v := 1) hx hb dL_does_201 (by decide) ?_
    refine lv_iand hx hb dL_does_202 ?_
    refine c_calli (As := [.int ((v >>> (4 &&& 31)) &&& 1)]) (rest := []) hx hb hml hown hts hK hX hI 0 (by omega) cE_0 rfl (k_X5_change l dd g ad pi A hA C d hIN.1 hIN.2.1 hIN.2.2.1 hIN.W hIN.g ((v >>> (4 &&& 31)) &&& 1)) (cwV 1 hts gL_does_X5_change rfl rfl rfl (by decide +kernel) ⟨Nat.le_of_ble_eq_true rfl, Nat.le_of_ble_eq_true rfl⟩) rfl hl (Nat.le_of_ble_eq_true rfl) ⟨Nat.zero_le _, Nat.zero_le _⟩ dL_does_203 rfl (fun rv86 N84 P85 H locs h87 hI => ?_)
    have v86 := h87
    exact c_iret (v := rv86) hx hb hr hI (hIN.dn v86 (ck_chg hIN.2.2.2.1 hIN.g hB30 _) (by omega) (by omega)) dL_does_206 hlocks
  by_cases c2_7 : v &&& 15 = 7
  · rw [c2_7]
    refine lv_tableIn (tgt := 197) (off := 187) hx hb dL_does_10 (by decide) (by decide) (by decide +kernel) (by decide) ?_
    refine lv_aload_n hx hb dL_does_197 rfl (lv_at hl 1 rfl) ?_
    refine lv_iload_n hx hb dL_does_198 rfl (lv_at hl 2 rfl) ?_
    refine lv_iconst (v := 4) hx hb dL_does_199 (by decide) ?_
    refine lv_ishr hx hb dL_does_200 ?_
    refine lv_iconst (v := 1) hx hb dL_does_201 (by decide) ?_
    refine lv_iand hx hb dL_does_202 ?_
    refine c_calli (As := [.int ((v >>> (4 &&& 31)) &&& 1)]) (rest := []) hx hb hml hown hts hK hX hI 0 (by omega) cE_0 rfl (k_X5_change l dd g ad pi A hA C d hIN.1 hIN.2.1 hIN.2.2.1 hIN.W hIN.g ((v >>> (4 &&& 31)) &&& 1)) (cwV 1 hts gL_does_X5_change rfl rfl rfl (by decide +kernel) ⟨Nat.le_of_ble_eq_true rfl, Nat.le_of_ble_eq_true rfl⟩) rfl hl (Nat.le_of_ble_eq_true rfl) ⟨Nat.zero_le _, Nat.zero_le _⟩ dL_does_203 rfl (fun rv90 N88 P89 H locs h91 hI => ?_)
    have v90 := h91
    exact c_iret (v := rv90) hx hb hr hI (hIN.dn v90 (ck_chg hIN.2.2.2.1 hIN.g hB30 _) (by omega) (by omega)) dL_does_206 hlocks
  by_cases c2_8 : v &&& 15 = 8
  · rw [c2_8]
    refine lv_tableIn (tgt := 207) (off := 197) hx hb dL_does_10 (by decide) (by decide) (by decide +kernel) (by decide) ?_
    refine lv_aload_n hx hb dL_does_207 rfl (lv_at hl 1 rfl) ?_
    refine lv_iload_n hx hb dL_does_208 rfl (lv_at hl 2 rfl) ?_
    refine lv_iconst (v := 4) hx hb dL_does_209 (by decide) ?_
    refine lv_ishr hx hb dL_does_210 ?_
    refine lv_ldc hx hb hown (hts (.constant RL 36 (65535)) (by decide +kernel)) dL_does_211 ?_
    refine lv_iand hx hb dL_does_213 ?_
    refine c_calli (As := [.int ((v >>> (4 &&& 31)) &&& 65535)]) (rest := []) hx hb hml hown hts hK hX hI 0 (by omega) cE_0 rfl (k_X5_round l dd g ad pi A hA C d hIN.1 hIN.2.1 hIN.2.2.1 hIN.W hIN.g hIN.Ld ((v >>> (4 &&& 31)) &&& 65535)) (cwV 1 hts gL_does_X5_round rfl rfl rfl (by decide +kernel) ⟨Nat.le_of_ble_eq_true rfl, Nat.le_of_ble_eq_true rfl⟩) rfl hl (Nat.le_of_ble_eq_true rfl) ⟨Nat.zero_le _, Nat.zero_le _⟩ dL_does_214 rfl (fun rv94 N92 P93 H locs h95 hI => ?_)
    have v94 := h95
    exact c_iret (v := rv94) hx hb hr hI (hIN.dr v94) dL_does_217 hlocks
  by_cases c2_9 : v &&& 15 = 9
  · rw [c2_9]
    refine lv_tableIn (tgt := 207) (off := 197) hx hb dL_does_10 (by decide) (by decide) (by decide +kernel) (by decide) ?_
    refine lv_aload_n hx hb dL_does_207 rfl (lv_at hl 1 rfl) ?_
    refine lv_iload_n hx hb dL_does_208 rfl (lv_at hl 2 rfl) ?_
    refine lv_iconst (v := 4) hx hb dL_does_209 (by decide) ?_
    refine lv_ishr hx hb dL_does_210 ?_
    refine lv_ldc hx hb hown (hts (.constant RL 36 (65535)) (by decide +kernel)) dL_does_211 ?_
    refine lv_iand hx hb dL_does_213 ?_
    refine c_calli (As := [.int ((v >>> (4 &&& 31)) &&& 65535)]) (rest := []) hx hb hml hown hts hK hX hI 0 (by omega) cE_0 rfl (k_X5_round l dd g ad pi A hA C d hIN.1 hIN.2.1 hIN.2.2.1 hIN.W hIN.g hIN.Ld ((v >>> (4 &&& 31)) &&& 65535)) (cwV 1 hts gL_does_X5_round rfl rfl rfl (by decide +kernel) ⟨Nat.le_of_ble_eq_true rfl, Nat.le_of_ble_eq_true rfl⟩) rfl hl (Nat.le_of_ble_eq_true rfl) ⟨Nat.zero_le _, Nat.zero_le _⟩ dL_does_214 rfl (fun rv98 N96 P97 H locs h99 hI => ?_)
    have v98 := h99
    exact c_iret (v := rv98) hx hb hr hI (hIN.dr v98) dL_does_217 hlocks
  by_cases c2_10 : v &&& 15 = 10
  · rw [c2_10]
    refine lv_tableIn (tgt := 207) (off := 197) hx hb dL_does_10 (by decide) (by decide) (by decide +kernel) (by decide) ?_
    refine lv_aload_n hx hb dL_does_207 rfl (lv_at hl 1 rfl) ?_
    refine lv_iload_n hx hb dL_does_208 rfl (lv_at hl 2 rfl) ?_
    refine lv_iconst (v := 4) hx hb dL_does_209 (by decide) ?_
    refine lv_ishr hx hb dL_does_210 ?_
    refine lv_ldc hx hb hown (hts (.constant RL 36 (65535)) (by decide +kernel)) dL_does_211 ?_
    refine lv_iand hx hb dL_does_213 ?_
    refine c_calli (As := [.int ((v >>> (4 &&& 31)) &&& 65535)]) (rest := []) hx hb hml hown hts hK hX hI 0 (by omega) cE_0 rfl (k_X5_round l dd g ad pi A hA C d hIN.1 hIN.2.1 hIN.2.2.1 hIN.W hIN.g hIN.Ld ((v >>> (4 &&& 31)) &&& 65535)) (cwV 1 hts gL_does_X5_round rfl rfl rfl (by decide +kernel) ⟨Nat.le_of_ble_eq_true rfl, Nat.le_of_ble_eq_true rfl⟩) rfl hl (Nat.le_of_ble_eq_true rfl) ⟨Nat.zero_le _, Nat.zero_le _⟩ dL_does_214 rfl (fun rv102 N100 P101 H locs h103 hI => ?_)
    have v102 := h103
    exact c_iret (v := rv102) hx hb hr hI (hIN.dr v102) dL_does_217 hlocks
  refine lv_tableOut (tgt := 218) hx hb dL_does_10 (sw_out11 c2_0 c2_1 c2_2 c2_3 c2_4 c2_5 c2_6 c2_7 c2_8 c2_9 c2_10) (by decide) ?_
  refine lv_aload_n hx hb dL_does_218 rfl (lv_at hl 1 rfl) ?_
  refine lv_iconst (v := 1) hx hb dL_does_219 (by decide) ?_
  refine lv_iload_n hx hb dL_does_220 rfl (lv_at hl 2 rfl) ?_
  refine lv_iconst (v := 4) hx hb dL_does_221 (by decide) ?_
  refine lv_ishr hx hb dL_does_222 ?_
  refine lv_bipush (v := 9) hx hb dL_does_223 (by decide) ?_
  refine c_calls (As := [.int (v >>> (4 &&& 31)), .int 9]) (rest := [.int 1, .ref (ad 0)]) hx hb hml hown hts hI (k_L_low l (v >>> (4 &&& 31)) 9 (by omega) (by omega)) (va_cwS 2 hts gL_does_L_low rfl rfl rfl (by decide +kernel) ⟨Nat.le_of_ble_eq_true rfl, Nat.le_of_ble_eq_true rfl⟩) rfl hl (Nat.le_of_ble_eq_true rfl) ⟨Nat.zero_le _, Nat.zero_le _⟩ dL_does_225 rfl (fun r H locs h105 hI => ?_)
  obtain ⟨j104, hj104, hr9⟩ := h105
  subst hr9
  refine lv_iadd hx hb dL_does_228 ?_
  refine lv_re (y := nI (1 + j104)) (nI_add (1) (j104)) ?_
  refine c_calli (As := [.int (nI (1 + j104))]) (rest := []) hx hb hml hown hts hK hX hI 0 (by omega) cE_0 rfl (k_X5_pass l dd g ad pi A hA C d hIN.1 hIN.2.1 hIN.2.2.1 hIN.W hIN.g (nI (1 + j104))) (cwV 1 hts gL_does_X5_pass rfl rfl rfl (by decide +kernel) ⟨Nat.le_of_ble_eq_true rfl, Nat.le_of_ble_eq_true rfl⟩) rfl hl (Nat.le_of_ble_eq_true rfl) ⟨Nat.zero_le _, Nat.zero_le _⟩ dL_does_229 rfl (fun rv108 N106 P107 H locs h109 hI => ?_)
  have v108 := h109
  exact c_iret (v := rv108) hx hb hr hI (hIN.dn v108 (ck_pass hIN.2.2.2.1 hIN.g hB1 (by omega) (by omega)) (by omega) (by omega)) dL_does_232 hlocks
