set_option maxHeartbeats 4000000 in
set_option maxRecDepth 100000 in
theorem k_X5_put (l : Launch) (dd : va_G) (g : Nat → ClassId) (ad pi : Nat → Nat) (A : Nat → Prop) (hA : cA A ad) (C : MS) (len : Nat) (hl80 : len ≤ 80) (hl1 : C 10 1 = nI len) (x : Int64) : Met l yX5_put wsX5_put ({ frames := 2, cells := 0, slots := 0, locals := 45 }) (cPre dd g ad pi A C [.ref (ad 0), .long x]) (cQi dd g ad A (fun r C1 pi1 => ((siN x 8 0 = 0 ∧ r = -2 ∧ C1 = C) ∨ (¬ siN x 8 0 = 0 ∧ 80 < len + siN x 8 0 ∧ r = -4 ∧ C1 = C) ∨ (¬ siN x 8 0 = 0 ∧ len + siN x 8 0 ≤ 80 ∧ r = nI (len + siN x 8 0) ∧ C1 = sgM C (len + siN x 8 0) (ptP (C 12) x len (siN x 8 0) (siN x 8 0)))) ∧ pi1 = pi)) 0 0 A := by
  refine Met.ofW (cc := cX5_put) (maxL := 5) (ret := (some .int)) (by decide) rfl ?_
  intro p e s m args below meth c s₁ B hml hv
  obtain ⟨rfl, hP0, hK, hX⟩ := hv
  have hx := B.exec
  have hb := B.bytes
  have hr := B.returns
  have hts := atoms_spec (ws := wsX5_put) B.pre
  have hown : s.vm.findClass RX5 = some m.cls := findClass_of_methodNamed B.named
  have hlocks := B.notSynchronized
  have hinX2 : ∀ w ∈ wsX20, w ∈ wsX5_put := by decide +kernel
  have hinX5 : ∀ w ∈ wsX50, w ∈ wsX5_put := by decide +kernel
  have hI : cI dd g ad pi A s.heap s.heap [] C := ⟨hP0, va_S.rf⟩
  have hl := lv_entry ([.ref (ad 0), .long x]) (n := 5) (Nat.le_of_ble_eq_true rfl)
  rw [lg_entry_eq]
  generalize (lg_sl ([.ref (ad 0), .long x]) ++ List.replicate (5 - (lg_sl ([.ref (ad 0), .long x])).length) Slot.unset).toArray = ls at hl ⊢
  have hl : lv_has ls 5 [(0, .ref (ad 0)), (1, .long x)] := hl
  have hsn := siN_le x 8 0
  refine lv_lload_n hx hb dX5_put_0 rfl (lv_at hl 1 rfl) ?_
  refine c_calls (As := [.long x]) (rest := []) hx hb hml hown hts hI (k_X5_signsIn l x) (va_cwS 1 hts gX5_put_X5_signsIn rfl rfl rfl (by decide +kernel) ⟨Nat.le_of_ble_eq_true rfl, Nat.le_of_ble_eq_true rfl⟩) rfl hl (Nat.le_of_ble_eq_true rfl) ⟨Nat.zero_le _, Nat.zero_le _⟩ dX5_put_1 rfl (fun r H locs h1 hI => ?_)
  subst h1
  refine lv_istore_n (lv' := [(3, .int (nI (siN x 8 0))), (0, .ref (ad 0)), (1, .long x)]) hx hb dX5_put_4 rfl hl (by decide) rfl (fun ls hl => ?_)
  refine lv_iload_n hx hb dX5_put_5 rfl (lv_at hl 0 rfl) ?_
  refine lv_if_ne (tgt := 12) hx hb dX5_put_6 (by decide) (fun c2 => ?_) (fun c2 => ?_)
  · skip
    have nc2 : ¬ (siN x 8 0 = 0) := fun h => c2 ((nI_eq (a := siN x 8 0) (b := 0) (by omega) (by omega)).mpr h)
    refine lv_aload_n hx hb dX5_put_12 rfl (lv_at hl 1 rfl) ?_
    refine c_get hx hb hts hown hK hI 0 (by omega) cE_0 rfl hinX5 4 (by decide) (hts (.fieldLink RX5 34 "WinderLadders" "pad" "LWinderLadders$Pad;") (by decide +kernel)) (v := .ref (ad 5)) rfl dX5_put_13 ?_
    refine c_get hx hb hts hown hK hI 5 (by omega) cE_5 rfl hinX2 2 (by decide) (hts (.fieldLink RX5 166 "WinderLadders$Pad" "length" "I") (by decide +kernel)) (v := .int (nI len)) (congrArg (fun z => some (Value.int z)) hl1) dX5_put_16 ?_
    refine lv_iload_n hx hb dX5_put_19 rfl (lv_at hl 0 rfl) ?_
    refine lv_iadd hx hb dX5_put_20 ?_
    refine lv_re (y := nI (len + (siN x 8 0))) (nI_add (len) (siN x 8 0)) ?_
    refine lv_bipush (v := 80) hx hb dX5_put_21 (by decide) ?_
    refine lv_icmp_le (tgt := 29) hx hb dX5_put_23 (by decide) (fun c3 => ?_) (fun c3 => ?_)
    · skip
      have nc3 : len + (siN x 8 0) ≤ 80 := (nI_leI (a := len + (siN x 8 0)) (b := 80) (by omega) (by omega)).mp c3
      refine lv_iload_n hx hb dX5_put_29 rfl (lv_at hl 0 rfl) ?_
      refine lv_iconst (v := 1) hx hb dX5_put_30 (by decide) ?_
      refine lv_isub hx hb dX5_put_31 ?_
      refine lv_istore (lv' := [(4, .int ((nI (siN x 8 0)) - 1)), (3, .int (nI (siN x 8 0))), (0, .ref (ad 0)), (1, .long x)]) hx hb dX5_put_32 hl (by decide) rfl (fun ls hl => ?_)
      have L34 : ∀ (fuel : Nat) (m9 : Nat) (h1 : m9 ≤ siN x 8 0) (h2 : siN x 8 0 < fuel + m9) (H : Heap) (locs : List Loc) (ls : Array Slot), cI dd g ad pi A s.heap H locs (sgM C (len + m9) (ptP (C 12) x len (siN x 8 0) m9)) → lv_has ls 5 [(4, .int (nI (siN x 8 0 - m9) - 1)), (3, .int (nI (siN x 8 0))), (0, .ref (ad 0)), (1, .long x)] → wk p l e wsX5_put { frames := 2, cells := 0, slots := 0, locals := 45 } s m [.ref (ad 0), .long x] below meth c H locs (cQi dd g ad A (fun r C1 pi1 => ((siN x 8 0 = 0 ∧ r = -2 ∧ C1 = C) ∨ (¬ siN x 8 0 = 0 ∧ 80 < len + siN x 8 0 ∧ r = -4 ∧ C1 = C) ∨ (¬ siN x 8 0 = 0 ∧ len + siN x 8 0 ≤ 80 ∧ r = nI (len + siN x 8 0) ∧ C1 = sgM C (len + siN x 8 0) (ptP (C 12) x len (siN x 8 0) (siN x 8 0)))) ∧ pi1 = pi)) (A) (F0 m 34 ls []) := by
        intro fuel
        induction fuel with
        | zero =>
          intro m9 h1 h2 H locs ls hI hl
          exact absurd h2 (by omega)
        | succ fuel ih =>
          intro m9 h1 h2 H locs ls hI hl
          refine lv_iload hx hb dX5_put_34 (lv_at hl 0 rfl) ?_
          refine lv_if_lt (tgt := 59) hx hb dX5_put_36 (by decide) (fun c4 => ?_) (fun c4 => ?_)
          · skip
            have hj9 := (jm1_lt (by omega)).mp c4
            refine lv_aload_n hx hb dX5_put_59 rfl (lv_at hl 2 rfl) ?_
            refine c_get hx hb hts hown hK hI 0 (by omega) cE_0 rfl hinX5 4 (by decide) (hts (.fieldLink RX5 34 "WinderLadders" "pad" "LWinderLadders$Pad;") (by decide +kernel)) (v := .ref (ad 5)) rfl dX5_put_60 ?_
            refine c_get hx hb hts hown hK hI 5 (by omega) cE_5 rfl hinX2 2 (by decide) (hts (.fieldLink RX5 166 "WinderLadders$Pad" "length" "I") (by decide +kernel)) (v := .int (nI (len + m9))) (congrArg (fun z => some (Value.int z)) sgM_1) dX5_put_63 ?_
            exact c_iret (v := nI (len + m9)) hx hb hr hI (⟨Or.inr (Or.inr ⟨by omega, by omega, by rw [show m9 = siN x 8 0 by omega], by rw [show m9 = siN x 8 0 by omega]⟩), rfl⟩) dX5_put_66 hlocks
          · skip
            have hj9 : ¬ siN x 8 0 - m9 = 0 := fun z => c4 ((jm1_lt (by omega)).mpr z)
            have e9 : nI (siN x 8 0 - m9) - 1 = nI (siN x 8 0 - m9 - 1) := pk_sub (a := siN x 8 0 - m9) (b := 1) (by omega)
            have hk9 := siN_ok x 8 0 (siN x 8 0 - m9 - 1) (by omega) (by omega)
            rw [e9] at hl
            refine lv_aload_n hx hb dX5_put_39 rfl (lv_at hl 2 rfl) ?_
            refine c_get hx hb hts hown hK hI 0 (by omega) cE_0 rfl hinX5 4 (by decide) (hts (.fieldLink RX5 34 "WinderLadders" "pad" "LWinderLadders$Pad;") (by decide +kernel)) (v := .ref (ad 5)) rfl dX5_put_40 ?_
            refine lv_lload_n hx hb dX5_put_43 rfl (lv_at hl 3 rfl) ?_
            refine lv_iload hx hb dX5_put_44 (lv_at hl 0 rfl) ?_
            refine c_calls (As := [.long x, .int (nI (siN x 8 0 - m9 - 1))]) (rest := [.ref (ad 5)]) hx hb hml hown hts hI (k_X5_codeAt l x (siN x 8 0 - m9 - 1)) (va_cwS 2 hts gX5_put_X5_codeAt rfl rfl rfl (by decide +kernel) ⟨Nat.le_of_ble_eq_true rfl, Nat.le_of_ble_eq_true rfl⟩) rfl hl (Nat.le_of_ble_eq_true rfl) ⟨Nat.zero_le _, Nat.zero_le _⟩ dX5_put_46 rfl (fun r H locs h5 hI => ?_)
            subst h5
            refine lv_i2c hx hb dX5_put_49 rfl ?_
            refine lv_re (y := chK x (siN x 8 0 - m9 - 1)) (i2c_ch hk9) ?_
            refine c_callv (As := [.int (chK x (siN x 8 0 - m9 - 1))]) (rest := []) hx hb hml hown hts hK hX hI 5 (by omega) cE_5 rfl (k_X2_append l dd g ad pi A hA (sgM C (len + m9) (ptP (C 12) x len (siN x 8 0) m9)) (len + m9) (by omega) sgM_1 (chK x (siN x 8 0 - m9 - 1)) (vpn_ch hk9)) (cwV 1 hts gX5_put_X2_append rfl rfl rfl (by decide +kernel) ⟨Nat.le_of_ble_eq_true rfl, Nat.le_of_ble_eq_true rfl⟩) rfl hl (Nat.le_of_ble_eq_true rfl) ⟨Nat.zero_le _, Nat.zero_le _⟩ dX5_put_50 rfl (fun C1 pi1 H locs h6 hI => ?_)
            obtain ⟨h6, hp9⟩ := h6
            rcases h6 with ⟨-, hc9⟩ | ⟨hz9, -⟩
            rotate_left
            · exact absurd hz9 (by omega)
            rw [sgM_add] at hc9
            rw [hc9, hp9] at hI
            refine lv_iinc (v := (nI (siN x 8 0 - m9 - 1)) + (-1)) (lv' := [(4, .int ((nI (siN x 8 0 - m9 - 1)) + (-1))), (3, .int (nI (siN x 8 0))), (0, .ref (ad 0)), (1, .long x)]) hx hb dX5_put_53 hl (k := 0) rfl rfl (by decide) rfl (fun ls hl => ?_)
            refine lv_goto (tgt := 34) hx hb dX5_put_56 (by decide) ?_
            exact ih (m9 + 1) (by omega) (by omega) _ _ _ hI (by rw [show nI (siN x 8 0 - (m9 + 1)) - 1 = (nI (siN x 8 0 - m9 - 1)) + (-1) by rw [show siN x 8 0 - (m9 + 1) = siN x 8 0 - m9 - 1 by omega, Int32.sub_eq_add_neg]]; exact (lv_sub hl [0, 1, 2, 3] rfl))
      exact L34 9 0 (by omega) (by omega) _ _ _ (by rw [show ptP (C 12) x len (siN x 8 0) 0 = C 12 from rfl, show len + 0 = len from rfl, sgM_id hl1]; exact hI) (lv_sub hl [0, 1, 2, 3] rfl)
    · skip
      have nc3 : ¬ (len + (siN x 8 0) ≤ 80) := fun h => c3 ((nI_leI (a := len + (siN x 8 0)) (b := 80) (by omega) (by omega)).mpr h)
      refine lv_bipush (v := (-4)) hx hb dX5_put_26 (by decide) ?_
      exact c_iret (v := (-4)) hx hb hr hI (⟨Or.inr (Or.inl ⟨by omega, by omega, rfl, rfl⟩), rfl⟩) dX5_put_28 hlocks
  · skip
    have nc2 : siN x 8 0 = 0 := (nI_eq (a := siN x 8 0) (b := 0) (by omega) (by omega)).mp c2
    refine lv_bipush (v := (-2)) hx hb dX5_put_9 (by decide) ?_
    exact c_iret (v := (-2)) hx hb hr hI (⟨Or.inl ⟨by omega, rfl, rfl⟩, rfl⟩) dX5_put_11 hlocks
