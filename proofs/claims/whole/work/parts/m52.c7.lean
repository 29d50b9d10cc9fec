set_option maxHeartbeats 4000000 in
set_option maxRecDepth 100000 in
theorem k_X2_readValue (l : Launch) (dd : va_G) (g : Nat → ClassId) (ad pi : Nat → Nat) (A : Nat → Prop) (hA : cA A ad) (C : MS) (len pp : Nat) (hl80 : len ≤ 80) (hp80 : pp ≤ len) (hl1 : C 10 1 = nI len) (hp2 : C 10 2 = nI pp) (hch : chOk (C 12) len) (L : Nat) (hL : L < 40) (hl4 : C 10 4 = nI L)  : Met l yX2_readValue wsX2_readValue ({ frames := 2, cells := 0, slots := 0, locals := 43 }) (cPre dd g ad pi A C [.ref (ad 5)]) (cQi dd g ad A (fun r C1 pi1 => ((chr (C 12) len pp = 45 ∧ ((∃ v p', rN (C 12) len (pp + 1) = some (v, p') ∧ r = 1 ∧ C1 = pdM C p' (L + 1) (upd (C 13) L (-v))) ∨ (rN (C 12) len (pp + 1) = none ∧ r = 0 ∧ C1 = pdM C (pp + 1) L (C 13)))) ∨ (¬ chr (C 12) len pp = 45 ∧ ((∃ v p', rN (C 12) len pp = some (v, p') ∧ r = 1 ∧ C1 = pdM C p' (L + 1) (upd (C 13) L v)) ∨ (rN (C 12) len pp = none ∧ r = 0 ∧ C1 = pdM C pp L (C 13))))) ∧ pi1 = pi)) 0 0 A := by
  refine Met.ofW (cc := cX2_readValue) (maxL := 1) (ret := (some .boolean)) (by decide) rfl ?_
  intro p e s m args below meth c s₁ B hml hv
  obtain ⟨rfl, hP0, hK, hX⟩ := hv
  have hx := B.exec
  have hb := B.bytes
  have hr := B.returns
  have hts := atoms_spec (ws := wsX2_readValue) B.pre
  have hown : s.vm.findClass RX2 = some m.cls := findClass_of_methodNamed B.named
  have hlocks := B.notSynchronized
  have hI : cI dd g ad pi A s.heap s.heap [] C := ⟨hP0, va_S.rf⟩
  have hl := lv_entry ([.ref (ad 5)]) (n := 1) (Nat.le_of_ble_eq_true rfl)
  rw [lg_entry_eq]
  generalize (lg_sl ([.ref (ad 5)]) ++ List.replicate (1 - (lg_sl ([.ref (ad 5)])).length) Slot.unset).toArray = ls at hl ⊢
  have hl : lv_has ls 1 [(0, .ref (ad 5))] := hl
  have hI : cI dd g ad pi A s.heap s.heap [] (pdM C pp L (C 13)) := by rw [pdM_id hp2 hl4]; exact hI
  refine lv_aload_n hx hb dX2_readValue_0 rfl (lv_at hl 0 rfl) ?_
  refine lv_aload_n hx hb dX2_readValue_1 rfl (lv_at hl 0 rfl) ?_
  refine lv_bipush (v := 45) hx hb dX2_readValue_2 (by decide) ?_
  refine c_calli (As := [.int 45]) (rest := [.ref (ad 5)]) hx hb hml hown hts hK hX hI 5 (by omega) cE_5 rfl (k_X2_take l dd g ad pi A hA (pdM C pp L (C 13)) len pp hl80 (by omega) (((pdM_o (by decide) (by decide)).trans hl1)) pdM_q (by simp only [mset_ne _ (show (12 : Nat) ≠ 10 by decide), mset_ne _ (show (12 : Nat) ≠ 13 by decide), pdM_ne (show (12 : Nat) ≠ 10 by decide) (show (12 : Nat) ≠ 13 by decide)]; exact hch) 45) (cwV 1 hts gX2_readValue_X2_take rfl rfl rfl (by decide +kernel) ⟨Nat.le_of_ble_eq_true rfl, Nat.le_of_ble_eq_true rfl⟩) rfl hl (Nat.le_of_ble_eq_true rfl) ⟨Nat.zero_le _, Nat.zero_le _⟩ dX2_readValue_4 rfl (fun r C1 pi1 H locs h2 hI => ?_)
  simp only [mset_ne _ (show (12 : Nat) ≠ 10 by decide), mset_ne _ (show (12 : Nat) ≠ 13 by decide), pdM_ne (show (12 : Nat) ≠ 10 by decide) (show (12 : Nat) ≠ 13 by decide)] at h2
  obtain ⟨h2, hp9⟩ := h2
  rw [hp9] at hI
  rcases h2 with ⟨t1, hr9, hc9⟩ | ⟨t1, hr9, hc9⟩
  · skip
    rw [pdM_tk] at hc9
    rw [hc9] at hI
    subst hr9
    have l_t1 := chr_lt t1 (by decide)
    refine lv_if_eq (tgt := 14) hx hb dX2_readValue_7 (by decide) (fun c3 => absurd c3 (by decide)) (fun _ => ?_)
    refine lv_iconst (v := (-1)) hx hb dX2_readValue_10 (by decide) ?_
    refine lv_goto (tgt := 15) hx hb dX2_readValue_11 (by decide) ?_
    refine c_calli (As := [.int ((-1))]) (rest := []) hx hb hml hown hts hK hX hI 5 (by omega) cE_5 rfl (k_X2_readNumber l dd g ad pi A hA (pdM C (pp + 1) L (C 13)) len (pp + 1) hl80 (by omega) (((pdM_o (by decide) (by decide)).trans hl1)) pdM_q (by simp only [mset_ne _ (show (12 : Nat) ≠ 10 by decide), mset_ne _ (show (12 : Nat) ≠ 13 by decide), pdM_ne (show (12 : Nat) ≠ 10 by decide) (show (12 : Nat) ≠ 13 by decide)]; exact hch) L (by omega) pdM_L (-1)) (cwV 1 hts gX2_readValue_X2_readNumber rfl rfl rfl (by decide +kernel) ⟨Nat.le_of_ble_eq_true rfl, Nat.le_of_ble_eq_true rfl⟩) rfl hl (Nat.le_of_ble_eq_true rfl) ⟨Nat.zero_le _, Nat.zero_le _⟩ dX2_readValue_15 rfl (fun r C1 pi1 H locs h5 hI => ?_)
    simp only [mset_ne _ (show (12 : Nat) ≠ 10 by decide), mset_ne _ (show (12 : Nat) ≠ 13 by decide), pdM_ne (show (12 : Nat) ≠ 10 by decide) (show (12 : Nat) ≠ 13 by decide)] at h5
    obtain ⟨h5, hp9⟩ := h5
    rw [hp9] at hI
    rcases h5 with ⟨vn4, pn4, n4, hr9, hc9⟩ | ⟨n4, hr9, hc9⟩
    · skip
      simp only [pdM_pdM, pdM_13, Int32.mul_one, mulm1] at hc9
      rw [hc9] at hI
      subst hr9
      have l_n4 := rN_place n4
      exact c_zret (v := 1) hx hb hr (by first | rfl | decide) hI (⟨Or.inl ⟨t1, Or.inl ⟨_, _, n4, rfl, rfl⟩⟩, rfl⟩) dX2_readValue_18 hlocks
    · skip
      rw [hc9] at hI
      subst hr9
      exact c_zret (v := 0) hx hb hr (by first | rfl | decide) hI (⟨Or.inl ⟨t1, Or.inr ⟨n4, rfl, rfl⟩⟩, rfl⟩) dX2_readValue_18 hlocks
  · skip
    rw [hc9] at hI
    subst hr9
    refine lv_if_eq (tgt := 14) hx hb dX2_readValue_7 (by decide) (fun _ => ?_) (fun c6 => absurd (by decide) c6)
    refine lv_iconst (v := 1) hx hb dX2_readValue_14 (by decide) ?_
    refine c_calli (As := [.int 1]) (rest := []) hx hb hml hown hts hK hX hI 5 (by omega) cE_5 rfl (k_X2_readNumber l dd g ad pi A hA (pdM C pp L (C 13)) len pp hl80 (by omega) (((pdM_o (by decide) (by decide)).trans hl1)) pdM_q (by simp only [mset_ne _ (show (12 : Nat) ≠ 10 by decide), mset_ne _ (show (12 : Nat) ≠ 13 by decide), pdM_ne (show (12 : Nat) ≠ 10 by decide) (show (12 : Nat) ≠ 13 by decide)]; exact hch) L (by omega) pdM_L 1) (cwV 1 hts gX2_readValue_X2_readNumber rfl rfl rfl (by decide +kernel) ⟨Nat.le_of_ble_eq_true rfl, Nat.le_of_ble_eq_true rfl⟩) rfl hl (Nat.le_of_ble_eq_true rfl) ⟨Nat.zero_le _, Nat.zero_le _⟩ dX2_readValue_15 rfl (fun r C1 pi1 H locs h8 hI => ?_)
    simp only [mset_ne _ (show (12 : Nat) ≠ 10 by decide), mset_ne _ (show (12 : Nat) ≠ 13 by decide), pdM_ne (show (12 : Nat) ≠ 10 by decide) (show (12 : Nat) ≠ 13 by decide)] at h8
    obtain ⟨h8, hp9⟩ := h8
    rw [hp9] at hI
    rcases h8 with ⟨vn7, pn7, n7, hr9, hc9⟩ | ⟨n7, hr9, hc9⟩
    · skip
      simp only [pdM_pdM, pdM_13, Int32.mul_one, mulm1] at hc9
      rw [hc9] at hI
      subst hr9
      have l_n7 := rN_place n7
      exact c_zret (v := 1) hx hb hr (by first | rfl | decide) hI (⟨Or.inr ⟨t1, Or.inl ⟨_, _, n7, rfl, rfl⟩⟩, rfl⟩) dX2_readValue_18 hlocks
    · skip
      rw [hc9] at hI
      subst hr9
      exact c_zret (v := 0) hx hb hr (by first | rfl | decide) hI (⟨Or.inr ⟨t1, Or.inr ⟨n7, rfl, rfl⟩⟩, rfl⟩) dX2_readValue_18 hlocks

set_option maxHeartbeats 4000000 in
set_option maxRecDepth 100000 in
theorem k_X2_readNumbers (l : Launch) (dd : va_G) (g : Nat → ClassId) (ad pi : Nat → Nat) (A : Nat → Prop) (hA : cA A ad) (C : MS) (len pp : Nat) (hl80 : len ≤ 80) (hp80 : pp ≤ len) (hl1 : C 10 1 = nI len) (hp2 : C 10 2 = nI pp) (hch : chOk (C 12) len) (hpp : 1 ≤ pp) (hl4 : C 10 4 = nI 0)  : Met l yX2_readNumbers wsX2_readNumbers ({ frames := 2, cells := 0, slots := 0, locals := 43 }) (cPre dd g ad pi A C [.ref (ad 5)]) (cQi dd g ad A (fun r C1 pi1 => (((rC (C 12) len 40 pp 0 (C 13)).1 = true ∧ r = 1 ∧ C1 = pdM C (rC (C 12) len 40 pp 0 (C 13)).2.1 (rC (C 12) len 40 pp 0 (C 13)).2.2.1 (rC (C 12) len 40 pp 0 (C 13)).2.2.2) ∨ ((rC (C 12) len 40 pp 0 (C 13)).1 = false ∧ r = 0 ∧ C1 = pdM C (rC (C 12) len 40 pp 0 (C 13)).2.1 (rC (C 12) len 40 pp 0 (C 13)).2.2.1 (rC (C 12) len 40 pp 0 (C 13)).2.2.2)) ∧ (rC (C 12) len 40 pp 0 (C 13)).2.2.1 ≤ 40 ∧ pi1 = pi)) 0 0 A := by
  refine Met.ofW (cc := cX2_readNumbers) (maxL := 2) (ret := (some .boolean)) (by decide) rfl ?_
  intro p e s m args below meth c s₁ B hml hv
  obtain ⟨rfl, hP0, hK, hX⟩ := hv
  have hx := B.exec
  have hb := B.bytes
  have hr := B.returns
  have hts := atoms_spec (ws := wsX2_readNumbers) B.pre
  have hown : s.vm.findClass RX2 = some m.cls := findClass_of_methodNamed B.named
  have hlocks := B.notSynchronized
  have hI : cI dd g ad pi A s.heap s.heap [] C := ⟨hP0, va_S.rf⟩
  have hl := lv_entry ([.ref (ad 5)]) (n := 2) (Nat.le_of_ble_eq_true rfl)
  rw [lg_entry_eq]
  generalize (lg_sl ([.ref (ad 5)]) ++ List.replicate (2 - (lg_sl ([.ref (ad 5)])).length) Slot.unset).toArray = ls at hl ⊢
  have hl : lv_has ls 2 [(0, .ref (ad 5))] := hl
  have hI : cI dd g ad pi A s.heap s.heap [] (pdM C pp 0 (C 13)) := by rw [pdM_id hp2 hl4]; exact hI
  refine lv_iconst (v := 0) hx hb dX2_readNumbers_0 (by decide) ?_
  refine lv_istore_n (lv' := [(1, .int 0), (0, .ref (ad 5))]) hx hb dX2_readNumbers_1 rfl hl (by decide) rfl (fun ls hl => ?_)
  have L2 : ∀ (fuel : Nat) (i q : Nat) (w : Nat → Int32) (h1 : i ≤ 40) (h2 : 40 < fuel + i) (hq : pp + 2 * i ≤ q) (hql : q ≤ len) (hR : (rC (C 12) len 40 pp 0 (C 13)) = rC (C 12) len (40 - i) q i w) (H : Heap) (locs : List Loc) (ls : Array Slot), cI dd g ad pi A s.heap H locs (pdM C q i w) → lv_has ls 2 [(1, .int (nI i)), (0, .ref (ad 5))] → wk p l e wsX2_readNumbers { frames := 2, cells := 0, slots := 0, locals := 43 } s m [.ref (ad 5)] below meth c H locs (cQi dd g ad A (fun r C1 pi1 => (((rC (C 12) len 40 pp 0 (C 13)).1 = true ∧ r = 1 ∧ C1 = pdM C (rC (C 12) len 40 pp 0 (C 13)).2.1 (rC (C 12) len 40 pp 0 (C 13)).2.2.1 (rC (C 12) len 40 pp 0 (C 13)).2.2.2) ∨ ((rC (C 12) len 40 pp 0 (C 13)).1 = false ∧ r = 0 ∧ C1 = pdM C (rC (C 12) len 40 pp 0 (C 13)).2.1 (rC (C 12) len 40 pp 0 (C 13)).2.2.1 (rC (C 12) len 40 pp 0 (C 13)).2.2.2)) ∧ (rC (C 12) len 40 pp 0 (C 13)).2.2.1 ≤ 40 ∧ pi1 = pi)) (A) (F0 m 2 ls []) := by
    intro fuel
    induction fuel with
    | zero =>
      intro i q w h1 h2 hq hql hR H locs ls hI hl
      exact absurd h2 (by omega)
    | succ fuel ih =>
      intro i q w h1 h2 hq hql hR H locs ls hI hl
      refine lv_iload_n hx hb dX2_readNumbers_2 rfl (lv_at hl 0 rfl) ?_
      refine lv_bipush (v := 40) hx hb dX2_readNumbers_3 (by decide) ?_
      refine lv_icmp_ge (tgt := 35) hx hb dX2_readNumbers_5 (by decide) (fun c1 => ?_) (fun c1 => ?_)
      · skip
        have nc1 : 40 ≤ i := (nI_leI (a := 40) (b := i) (by omega) (by omega)).mp c1
        exact absurd nc1 (by omega)
      · skip
        have nc1 : ¬ (40 ≤ i) := fun h => c1 ((nI_leI (a := 40) (b := i) (by omega) (by omega)).mpr h)
        refine lv_aload_n hx hb dX2_readNumbers_8 rfl (lv_at hl 1 rfl) ?_
        refine lv_iconst (v := 1) hx hb dX2_readNumbers_9 (by decide) ?_
        refine c_calli (As := [.int 1]) (rest := []) hx hb hml hown hts hK hX hI 5 (by omega) cE_5 rfl (k_X2_readNumber l dd g ad pi A hA (pdM C q i w) len q hl80 (by omega) (((pdM_o (by decide) (by decide)).trans hl1)) pdM_q (by simp only [mset_ne _ (show (12 : Nat) ≠ 10 by decide), mset_ne _ (show (12 : Nat) ≠ 13 by decide), pdM_ne (show (12 : Nat) ≠ 10 by decide) (show (12 : Nat) ≠ 13 by decide)]; exact hch) i (by omega) pdM_L 1) (cwV 1 hts gX2_readNumbers_X2_readNumber rfl rfl rfl (by decide +kernel) ⟨Nat.le_of_ble_eq_true rfl, Nat.le_of_ble_eq_true rfl⟩) rfl hl (Nat.le_of_ble_eq_true rfl) ⟨Nat.zero_le _, Nat.zero_le _⟩ dX2_readNumbers_10 rfl (fun r C1 pi1 H locs h3 hI => ?_)
        simp only [mset_ne _ (show (12 : Nat) ≠ 10 by decide), mset_ne _ (show (12 : Nat) ≠ 13 by decide), pdM_ne (show (12 : Nat) ≠ 10 by decide) (show (12 : Nat) ≠ 13 by decide)] at h3
        obtain ⟨h3, hp9⟩ := h3
        rw [hp9] at hI
        rcases h3 with ⟨vn2, pn2, n2, hr9, hc9⟩ | ⟨n2, hr9, hc9⟩
        · skip
          simp only [pdM_pdM, pdM_13, Int32.mul_one, mulm1] at hc9
          rw [hc9] at hI
          subst hr9
          have l_n2 := rN_place n2
          refine lv_if_ne (tgt := 18) hx hb dX2_readNumbers_13 (by decide) (fun _ => ?_) (fun c4 => absurd c4 (by decide))
          refine lv_aload_n hx hb dX2_readNumbers_18 rfl (lv_at hl 1 rfl) ?_
          refine lv_bipush (v := 44) hx hb dX2_readNumbers_19 (by decide) ?_
          refine c_calli (As := [.int 44]) (rest := []) hx hb hml hown hts hK hX hI 5 (by omega) cE_5 rfl (k_X2_take l dd g ad pi A hA (pdM C pn2 (i + 1) (upd w i (vn2))) len pn2 hl80 (by omega) (((pdM_o (by decide) (by decide)).trans hl1)) pdM_q (by simp only [mset_ne _ (show (12 : Nat) ≠ 10 by decide), mset_ne _ (show (12 : Nat) ≠ 13 by decide), pdM_ne (show (12 : Nat) ≠ 10 by decide) (show (12 : Nat) ≠ 13 by decide)]; exact hch) 44) (cwV 1 hts gX2_readNumbers_X2_take rfl rfl rfl (by decide +kernel) ⟨Nat.le_of_ble_eq_true rfl, Nat.le_of_ble_eq_true rfl⟩) rfl hl (Nat.le_of_ble_eq_true rfl) ⟨Nat.zero_le _, Nat.zero_le _⟩ dX2_readNumbers_21 rfl (fun r C1 pi1 H locs h6 hI => ?_)
          simp only [mset_ne _ (show (12 : Nat) ≠ 10 by decide), mset_ne _ (show (12 : Nat) ≠ 13 by decide), pdM_ne (show (12 : Nat) ≠ 10 by decide) (show (12 : Nat) ≠ 13 by decide)] at h6
          obtain ⟨h6, hp9⟩ := h6
          rw [hp9] at hI
          rcases h6 with ⟨t5, hr9, hc9⟩ | ⟨t5, hr9, hc9⟩
          · skip
            rw [pdM_tk] at hc9
            rw [hc9] at hI
            subst hr9
            have l_t5 := chr_lt t5 (by decide)
            refine lv_if_ne (tgt := 29) hx hb dX2_readNumbers_24 (by decide) (fun _ => ?_) (fun c7 => absurd c7 (by decide))
            refine lv_iinc (v := nI (i + 1)) (lv' := [(1, .int (nI (i + 1))), (0, .ref (ad 5))]) hx hb dX2_readNumbers_29 hl (k := 0) rfl (by rw [show Int32.ofInt 1 = nI 1 from rfl, nI_add]) (by decide) rfl (fun ls hl => ?_)
            refine lv_goto (tgt := 2) hx hb dX2_readNumbers_32 (by decide) ?_
            exact ih (i + 1) (pn2 + 1) (upd w i vn2) (by omega) (by omega) (by omega) (by omega) (hR.trans (rC_go (by omega) n2 t5)) _ _ _ hI (lv_sub hl [0, 1] rfl)
          · skip
            rw [hc9] at hI
            subst hr9
            refine lv_if_ne (tgt := 29) hx hb dX2_readNumbers_24 (by decide) (fun c8 => absurd (by decide) c8) (fun _ => ?_)
            refine lv_iconst (v := 1) hx hb dX2_readNumbers_27 (by decide) ?_
            exact c_zret (v := 1) hx hb hr (by first | rfl | decide) hI (⟨Or.inl (by rw [hR, rC_end n2 t5]; exact ⟨rfl, rfl, rfl⟩), by rw [hR, rC_end n2 t5]; show i + 1 ≤ 40; omega, rfl⟩) dX2_readNumbers_28 hlocks
        · skip
          rw [hc9] at hI
          subst hr9
          refine lv_if_ne (tgt := 18) hx hb dX2_readNumbers_13 (by decide) (fun c9 => absurd (by decide) c9) (fun _ => ?_)
          refine lv_iconst (v := 0) hx hb dX2_readNumbers_16 (by decide) ?_
          exact c_zret (v := 0) hx hb hr (by first | rfl | decide) hI (⟨Or.inr (by rw [hR, rC_no n2]; exact ⟨rfl, rfl, rfl⟩), by rw [hR, rC_no n2]; exact h1, rfl⟩) dX2_readNumbers_17 hlocks
  exact L2 41 0 pp (C 13) (by omega) (by omega) (by omega) (by omega) rfl _ _ _ hI (lv_sub hl [0, 1] rfl)
