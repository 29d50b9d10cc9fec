set_option maxHeartbeats 4000000 in
set_option maxRecDepth 100000 in
theorem k_X6_go0 (l : Launch) (dd : va_G) (g : Nat → ClassId) (q : Nat → Nat) (A : Nat → Prop) (hA : mA A q) (M : MS) (len : Nat) (hlen : M 7 0 = nI len) (hl80 : len ≤ 80) (hW : Wk (M 0)) : Met l yX6_go wsX6_go ({ frames := 6, cells := 0, slots := 0, locals := 138 }) (mPre dd g q M [.ref (q 0), .int 0]) (mQi dd g q A (fun r M' => (gF (M 6) len 81 0 = none ∧ M' 12 0 = 0 ∧ Pk M M') ∨ (∃ pf, gF (M 6) len 81 0 = some pf ∧ M' 12 0 = 1 ∧ M' 11 0 = nI pf ∧ pf ≤ len ∧ Pk M M'))) 0 0 A := by
  refine Met.ofW (cc := cX6_go) (maxL := 6) (ret := (some .int)) (by decide) rfl ?_
  intro p e s m args below meth c s₁ B hml hv
  obtain ⟨rfl, hP0, hK⟩ := hv
  have hx := B.exec
  have hb := B.bytes
  have hr := B.returns
  have hts := atoms_spec (ws := wsX6_go) B.pre
  have hown : s.vm.findClass RX6 = some m.cls := findClass_of_methodNamed B.named
  have hlocks := B.notSynchronized
  have hin : ∀ w ∈ wsX60, w ∈ wsX6_go := by decide +kernel
  have hI : mI dd g q A s.heap s.heap [] M := ⟨hP0, va_S.rf⟩
  have hl := lv_entry ([.ref (q 0), .int 0]) (n := 6) (Nat.le_of_ble_eq_true rfl)
  rw [lg_entry_eq]
  generalize (lg_sl ([.ref (q 0), .int 0]) ++ List.replicate (6 - (lg_sl ([.ref (q 0), .int 0])).length) Slot.unset).toArray = ls at hl ⊢
  have hl : lv_has ls 6 [(0, .ref (q 0)), (1, .int 0)] := hl
  refine lv_aload_n hx hb dX6_go_0 rfl (lv_at hl 0 rfl) ?_
  refine lv_iconst (v := 0) hx hb dX6_go_1 (by decide) ?_
  refine m_put hx hb hts hin hown hK hA hI 11 (by decide) (hts (.fieldLink RX6 138 "WinderLaddersModel" "place" "I") (by decide +kernel)) (fun h => absurd h (by decide)) dX6_go_2 (fun H locs hI => ?_)
  refine lv_aload_n hx hb dX6_go_5 rfl (lv_at hl 0 rfl) ?_
  refine lv_iconst (v := 0) hx hb dX6_go_6 (by decide) ?_
  refine m_put hx hb hts hin hown hK hA hI 12 (by decide) (hts (.fieldLink RX6 141 "WinderLaddersModel" "isWrong" "Z") (by decide +kernel)) (fun _ => by first | exact Or.inl rfl | exact Or.inr rfl) dX6_go_7 (fun H locs hI => ?_)
  refine lv_iconst (v := 0) hx hb dX6_go_10 (by decide) ?_
  refine lv_istore_n (lv' := [(2, .int 0), (0, .ref (q 0)), (1, .int 0)]) hx hb dX6_go_11 rfl hl (by decide) rfl (fun ls hl => ?_)
  refine lv_iconst (v := 1) hx hb dX6_go_12 (by decide) ?_
  refine lv_istore_n (lv' := [(3, .int 1), (2, .int 0), (0, .ref (q 0)), (1, .int 0)]) hx hb dX6_go_13 rfl hl (by decide) rfl (fun ls hl => ?_)
  have L14 : ∀ (fuel : Nat) (N : MS) (pz u : Nat) (z : Int32) (h2 : 81 < fuel + pz) (hpz : pz ≤ len) (hu : 81 ≤ u + pz) (h11 : N 11 0 = nI pz) (h12 : N 12 0 = 0) (h7 : N 7 0 = nI len) (hN6 : N 6 = M 6) (hPk : Pk M N) (hG : gF (M 6) len 81 0 = gF (M 6) len u pz) (H : Heap) (locs : List Loc) (ls : Array Slot), mI dd g q A s.heap H locs N → lv_has ls 6 [(3, .int 1), (2, .int z), (0, .ref (q 0)), (1, .int 0)] → wk p l e wsX6_go { frames := 6, cells := 0, slots := 0, locals := 138 } s m [.ref (q 0), .int 0] below meth c H locs (mQi dd g q A (fun r M' => (gF (M 6) len 81 0 = none ∧ M' 12 0 = 0 ∧ Pk M M') ∨ (∃ pf, gF (M 6) len 81 0 = some pf ∧ M' 12 0 = 1 ∧ M' 11 0 = nI pf ∧ pf ≤ len ∧ Pk M M'))) (A) (F0 m 14 ls []) := by
    intro fuel
    induction fuel with
    | zero =>
      intro N pz u z h2 hpz hu h11 h12 h7 hN6 hPk hG H locs ls hI hl
      exact absurd h2 (by omega)
    | succ fuel ih =>
      intro N pz u z h2 hpz hu h11 h12 h7 hN6 hPk hG H locs ls hI hl
      refine lv_iload_n hx hb dX6_go_14 rfl (lv_at hl 0 rfl) ?_
      refine lv_if_eq (tgt := 116) hx hb dX6_go_15 (by decide) (fun c1 => absurd c1 (by decide)) (fun _ => ?_)
      refine lv_aload_n hx hb dX6_go_18 rfl (lv_at hl 2 rfl) ?_
      refine m_callv (As := []) (rest := []) hx hb hml hown hts hK hI (k_X6_order l dd g q A hA N pz len h11 h7 hl80 hpz h12) (cwV 0 hts gX6_go_X6_order rfl rfl rfl (by decide +kernel) ⟨Nat.le_of_ble_eq_true rfl, Nat.le_of_ble_eq_true rfl⟩) rfl hl (Nat.le_of_ble_eq_true rfl) ⟨Nat.zero_le _, Nat.zero_le _⟩ dX6_go_19 rfl (fun N1 H locs h3 hI => ?_)
      unfold ordP at h3
      rw [hN6] at h3
      rcases h3 with ⟨ho, h12, h11, h13, h14, h43, h9, h8, hPk2⟩ | ⟨ho, h12, h11, hPk2⟩
      · skip
        have hPk := hPk.trans hPk2
        have h7 : N1 7 0 = nI len := by rw [hPk 7 (by decide) (by decide) (by decide) (by decide) (by decide) (by decide) (by decide) (by decide)]; exact hlen
        have hN6 : N1 6 = M 6 := hPk 6 (by decide) (by decide) (by decide) (by decide) (by decide) (by decide) (by decide) (by decide)
        have hpl2 := rO_place (M 6) len pz hpz
        refine lv_iload_n hx hb dX6_go_22 rfl (lv_at hl 3 rfl) ?_
        refine lv_if_eq (tgt := 37) hx hb dX6_go_23 (by decide) (fun _ => ?_) (fun c4 => absurd (by decide) c4)
        refine lv_iconst (v := 0) hx hb dX6_go_37 (by decide) ?_
        refine lv_istore (lv' := [(4, .int 0), (3, .int 1), (2, .int z), (0, .ref (q 0)), (1, .int 0)]) hx hb dX6_go_38 hl (by decide) rfl (fun ls hl => ?_)
        refine lv_iload_n hx hb dX6_go_40 rfl (lv_at hl 2 rfl) ?_
        refine lv_iload hx hb dX6_go_41 (lv_at hl 0 rfl) ?_
        refine lv_if_eq (tgt := 50) hx hb dX6_go_43 (by decide) (fun _ => ?_) (fun c5 => absurd (by decide) c5)
        refine lv_iconst (v := 0) hx hb dX6_go_50 (by decide) ?_
        refine lv_iadd hx hb dX6_go_51 ?_
        refine lv_istore_n (lv' := [(2, .int (z + 0)), (4, .int 0), (3, .int 1), (0, .ref (q 0)), (1, .int 0)]) hx hb dX6_go_52 rfl hl (by decide) rfl (fun ls hl => ?_)
        refine lv_aload_n hx hb dX6_go_53 rfl (lv_at hl 3 rfl) ?_
        refine m_get hx hb hts hin hown hK hI 12 (by decide) (hts (.fieldLink RX6 141 "WinderLaddersModel" "isWrong" "Z") (by decide +kernel)) (v := .int 0) (congrArg (fun z => some (Value.int z)) h12) dX6_go_54 ?_
        refine lv_if_ne (tgt := 84) hx hb dX6_go_57 (by decide) (fun c6 => absurd (by decide) c6) (fun _ => ?_)
        refine lv_iload hx hb dX6_go_60 (lv_at hl 1 rfl) ?_
        refine lv_if_ne (tgt := 69) hx hb dX6_go_62 (by decide) (fun c7 => absurd (by decide) c7) (fun _ => ?_)
        refine lv_iload_n hx hb dX6_go_65 rfl (lv_at hl 4 rfl) ?_
        refine lv_if_ne (tgt := 84) hx hb dX6_go_66 (by decide) (fun c8 => absurd (by decide) c8) (fun _ => ?_)
        refine lv_aload_n hx hb dX6_go_69 rfl (lv_at hl 3 rfl) ?_
        refine m_get hx hb hts hin hown hK hI 11 (by decide) (hts (.fieldLink RX6 138 "WinderLaddersModel" "place" "I") (by decide +kernel)) (v := .int (nI ((rO (M 6) len pz).2.1))) (congrArg (fun z => some (Value.int z)) h11) dX6_go_70 ?_
        refine lv_aload_n hx hb dX6_go_73 rfl (lv_at hl 3 rfl) ?_
        refine m_get hx hb hts hin hown hK hI 7 (by decide) (hts (.fieldLink RX6 127 "WinderLaddersModel" "length" "I") (by decide +kernel)) (v := .int (nI len)) (congrArg (fun z => some (Value.int z)) h7) dX6_go_74 ?_
        refine lv_icmp_ge (tgt := 84) hx hb dX6_go_77 (by decide) (fun c9 => ?_) (fun c9 => ?_)
        · skip
          have nc9 : len ≤ (rO (M 6) len pz).2.1 := (nI_leI (a := len) (b := (rO (M 6) len pz).2.1) (by omega) (by omega)).mp c9
          refine lv_iconst (v := 0) hx hb dX6_go_84 (by decide) ?_
          refine lv_istore_n (lv' := [(3, .int 0), (2, .int (z + 0)), (4, .int 0), (0, .ref (q 0)), (1, .int 0)]) hx hb dX6_go_85 rfl hl (by decide) rfl (fun ls hl => ?_)
          refine lv_iload_n hx hb dX6_go_86 rfl (lv_at hl 0 rfl) ?_
          refine lv_if_eq (tgt := 113) hx hb dX6_go_87 (by decide) (fun _ => ?_) (fun c10 => absurd (by decide) c10)
          refine lv_goto (tgt := 14) hx hb dX6_go_113 (by decide) ?_
          refine lv_iload_n hx hb dX6_go_14 rfl (lv_at hl 0 rfl) ?_
          refine lv_if_eq (tgt := 116) hx hb dX6_go_15 (by decide) (fun _ => ?_) (fun c11 => absurd (by decide) c11)
          refine lv_iload_n hx hb dX6_go_116 rfl (lv_at hl 1 rfl) ?_
          exact m_iret (v := z + 0) hx hb hr hI (Or.inl ⟨(by rw [hG, show u = (u - 1) + 1 by omega]; exact gF_end ho (by omega)), h12, hPk⟩) dX6_go_117 hlocks
        · skip
          have nc9 : ¬ (len ≤ (rO (M 6) len pz).2.1) := fun h => c9 ((nI_leI (a := len) (b := (rO (M 6) len pz).2.1) (by omega) (by omega)).mpr h)
          refine lv_iconst (v := 1) hx hb dX6_go_80 (by decide) ?_
          refine lv_goto (tgt := 85) hx hb dX6_go_81 (by decide) ?_
          refine lv_istore_n (lv' := [(3, .int 1), (2, .int (z + 0)), (4, .int 0), (0, .ref (q 0)), (1, .int 0)]) hx hb dX6_go_85 rfl hl (by decide) rfl (fun ls hl => ?_)
          refine lv_iload_n hx hb dX6_go_86 rfl (lv_at hl 0 rfl) ?_
          refine lv_if_eq (tgt := 113) hx hb dX6_go_87 (by decide) (fun c12 => absurd c12 (by decide)) (fun _ => ?_)
          refine lv_aload_n hx hb dX6_go_90 rfl (lv_at hl 3 rfl) ?_
          refine lv_bipush (v := 59) hx hb dX6_go_91 (by decide) ?_
          refine lv_bipush (v := 59) hx hb dX6_go_93 (by decide) ?_
          refine m_calli (As := [.int 59, .int 59]) (rest := []) hx hb hml hown hts hK hI (k_X6_sign0 l dd g q A hA N1 59 59 ((rO (M 6) len pz).2.1) len h11 h7 hl80 (by omega) h12) (cwV 2 hts gX6_go_X6_sign rfl rfl rfl (by decide +kernel) ⟨Nat.le_of_ble_eq_true rfl, Nat.le_of_ble_eq_true rfl⟩) rfl hl (Nat.le_of_ble_eq_true rfl) ⟨Nat.zero_le _, Nat.zero_le _⟩ dX6_go_95 rfl (fun r M1 H locs h14 hI => ?_)
          rw [show N1 6 = (M 6) from hN6] at h14
          rcases h14 with ⟨b13, hr9, hm9⟩ | ⟨b13, hm9⟩
          · skip
            subst hr9
            rw [hm9] at hI
            have lb13 := chr_pos b13 (by decide)
            refine lv_istore (lv' := [(5, .int (chr (M 6) len ((rO (M 6) len pz).2.1))), (3, .int 1), (2, .int (z + 0)), (4, .int 0), (0, .ref (q 0)), (1, .int 0)]) hx hb dX6_go_98 hl (by decide) rfl (fun ls hl => ?_)
            refine lv_aload_n hx hb dX6_go_100 rfl (lv_at hl 4 rfl) ?_
            refine m_get hx hb hts hin hown hK hI 12 (by decide) (hts (.fieldLink RX6 141 "WinderLaddersModel" "isWrong" "Z") (by decide +kernel)) (v := .int 0) (congrArg (fun z => some (Value.int z)) ((mset_nk _ (by decide) _ _ _).trans (h12))) dX6_go_101 ?_
            refine lv_if_ne (tgt := 111) hx hb dX6_go_104 (by decide) (fun c15 => absurd (by decide) c15) (fun _ => ?_)
            refine lv_iconst (v := 1) hx hb dX6_go_107 (by decide) ?_
            refine lv_goto (tgt := 112) hx hb dX6_go_108 (by decide) ?_
            refine lv_istore_n (lv' := [(3, .int 1), (5, .int (chr (M 6) len ((rO (M 6) len pz).2.1))), (2, .int (z + 0)), (4, .int 0), (0, .ref (q 0)), (1, .int 0)]) hx hb dX6_go_112 rfl hl (by decide) rfl (fun ls hl => ?_)
            refine lv_goto (tgt := 14) hx hb dX6_go_113 (by decide) ?_
            exact ih (mset N1 11 (0) (nI ((rO (M 6) len pz).2.1 + 1))) ((rO (M 6) len pz).2.1 + 1) (u - 1) (z + 0) (by omega) (by omega) (by omega) (by simp [mset]) (by simp [mset, h12]) (by simp [mset, h7]) (by rw [← hN6]; funext j; simp [mset]) (hPk.set (by decide) _ _) (by rw [hG, show u = (u - 1) + 1 by omega]; exact gF_go ho (by omega) b13) _ _ _ hI (lv_sub hl [0, 2, 4, 5] rfl)
          · skip
            rw [hm9] at hI
            refine lv_istore (lv' := [(5, .int r), (3, .int 1), (2, .int (z + 0)), (4, .int 0), (0, .ref (q 0)), (1, .int 0)]) hx hb dX6_go_98 hl (by decide) rfl (fun ls hl => ?_)
            refine lv_aload_n hx hb dX6_go_100 rfl (lv_at hl 4 rfl) ?_
            refine m_get hx hb hts hin hown hK hI 12 (by decide) (hts (.fieldLink RX6 141 "WinderLaddersModel" "isWrong" "Z") (by decide +kernel)) (v := .int 1) (congrArg (fun z => some (Value.int z)) (mset_eq _ _ _ _)) dX6_go_101 ?_
            refine lv_if_ne (tgt := 111) hx hb dX6_go_104 (by decide) (fun _ => ?_) (fun c16 => absurd c16 (by decide))
            refine lv_iconst (v := 0) hx hb dX6_go_111 (by decide) ?_
            refine lv_istore_n (lv' := [(3, .int 0), (5, .int r), (2, .int (z + 0)), (4, .int 0), (0, .ref (q 0)), (1, .int 0)]) hx hb dX6_go_112 rfl hl (by decide) rfl (fun ls hl => ?_)
            refine lv_goto (tgt := 14) hx hb dX6_go_113 (by decide) ?_
            refine lv_iload_n hx hb dX6_go_14 rfl (lv_at hl 0 rfl) ?_
            refine lv_if_eq (tgt := 116) hx hb dX6_go_15 (by decide) (fun _ => ?_) (fun c17 => absurd (by decide) c17)
            refine lv_iload_n hx hb dX6_go_116 rfl (lv_at hl 2 rfl) ?_
            exact m_iret (v := z + 0) hx hb hr hI (Or.inr ⟨_, (by rw [hG, show u = (u - 1) + 1 by omega]; exact gF_sep ho (by omega) b13), by simp [mset], by simp [mset]; exact h11, hpl2.1, hPk.set (by decide) _ _⟩) dX6_go_117 hlocks
      · skip
        have hPk := hPk.trans hPk2
        have h7 : N1 7 0 = nI len := by rw [hPk 7 (by decide) (by decide) (by decide) (by decide) (by decide) (by decide) (by decide) (by decide)]; exact hlen
        have hN6 : N1 6 = M 6 := hPk 6 (by decide) (by decide) (by decide) (by decide) (by decide) (by decide) (by decide) (by decide)
        have hpl2 := rO_place (M 6) len pz hpz
        refine lv_iload_n hx hb dX6_go_22 rfl (lv_at hl 3 rfl) ?_
        refine lv_if_eq (tgt := 37) hx hb dX6_go_23 (by decide) (fun _ => ?_) (fun c18 => absurd (by decide) c18)
        refine lv_iconst (v := 0) hx hb dX6_go_37 (by decide) ?_
        refine lv_istore (lv' := [(4, .int 0), (3, .int 1), (2, .int z), (0, .ref (q 0)), (1, .int 0)]) hx hb dX6_go_38 hl (by decide) rfl (fun ls hl => ?_)
        refine lv_iload_n hx hb dX6_go_40 rfl (lv_at hl 2 rfl) ?_
        refine lv_iload hx hb dX6_go_41 (lv_at hl 0 rfl) ?_
        refine lv_if_eq (tgt := 50) hx hb dX6_go_43 (by decide) (fun _ => ?_) (fun c19 => absurd (by decide) c19)
        refine lv_iconst (v := 0) hx hb dX6_go_50 (by decide) ?_
        refine lv_iadd hx hb dX6_go_51 ?_
        refine lv_istore_n (lv' := [(2, .int (z + 0)), (4, .int 0), (3, .int 1), (0, .ref (q 0)), (1, .int 0)]) hx hb dX6_go_52 rfl hl (by decide) rfl (fun ls hl => ?_)
        refine lv_aload_n hx hb dX6_go_53 rfl (lv_at hl 3 rfl) ?_
        refine m_get hx hb hts hin hown hK hI 12 (by decide) (hts (.fieldLink RX6 141 "WinderLaddersModel" "isWrong" "Z") (by decide +kernel)) (v := .int 1) (congrArg (fun z => some (Value.int z)) h12) dX6_go_54 ?_
        refine lv_if_ne (tgt := 84) hx hb dX6_go_57 (by decide) (fun _ => ?_) (fun c20 => absurd c20 (by decide))
        refine lv_iconst (v := 0) hx hb dX6_go_84 (by decide) ?_
        refine lv_istore_n (lv' := [(3, .int 0), (2, .int (z + 0)), (4, .int 0), (0, .ref (q 0)), (1, .int 0)]) hx hb dX6_go_85 rfl hl (by decide) rfl (fun ls hl => ?_)
        refine lv_iload_n hx hb dX6_go_86 rfl (lv_at hl 0 rfl) ?_
        refine lv_if_eq (tgt := 113) hx hb dX6_go_87 (by decide) (fun _ => ?_) (fun c21 => absurd (by decide) c21)
        refine lv_goto (tgt := 14) hx hb dX6_go_113 (by decide) ?_
        refine lv_iload_n hx hb dX6_go_14 rfl (lv_at hl 0 rfl) ?_
        refine lv_if_eq (tgt := 116) hx hb dX6_go_15 (by decide) (fun _ => ?_) (fun c22 => absurd (by decide) c22)
        refine lv_iload_n hx hb dX6_go_116 rfl (lv_at hl 1 rfl) ?_
        exact m_iret (v := z + 0) hx hb hr hI (Or.inr ⟨_, (by rw [hG, show u = (u - 1) + 1 by omega]; exact gF_no ho), h12, h11, hpl2.1, hPk⟩) dX6_go_117 hlocks
  exact L14 82 (mset (mset M 11 (0) (0)) 12 (0) (0)) 0 81 0 (by omega) (by omega) (by omega) (by simp [mset]; rfl) (by simp [mset]) (by simp [mset, hlen]) (by funext j; simp [mset]) (((Pk.rf M).set (by decide) _ _).set (by decide) _ _) rfl _ _ _ hI (lv_sub hl [0, 1, 2, 3] rfl)

set_option maxHeartbeats 4000000 in
set_option maxRecDepth 100000 in
theorem k_X6_go1 (l : Launch) (dd : va_G) (g : Nat → ClassId) (q : Nat → Nat) (A : Nat → Prop) (hA : mA A q) (M : MS) (len : Nat) (hlen : M 7 0 = nI len) (hl80 : len ≤ 80) (hV : gF (M 6) len 81 0 = none) (hW : Wk (M 0)) : Met l yX6_go wsX6_go ({ frames := 6, cells := 0, slots := 0, locals := 138 }) (mPre dd g q M [.ref (q 0), .int 1]) (mQi dd g q A (fun r M' => r = nI (cO (M 6) len 81 0 (M 0)).1 ∧ M' 0 = (cO (M 6) len 81 0 (M 0)).2 ∧ Pk0 M M')) 0 0 A := by
  refine Met.ofW (cc := cX6_go) (maxL := 6) (ret := (some .int)) (by decide) rfl ?_
  intro p e s m args below meth c s₁ B hml hv
  obtain ⟨rfl, hP0, hK⟩ := hv
  have hx := B.exec
  have hb := B.bytes
  have hr := B.returns
  have hts := atoms_spec (ws := wsX6_go) B.pre
  have hown : s.vm.findClass RX6 = some m.cls := findClass_of_methodNamed B.named
  have hlocks := B.notSynchronized
  have hin : ∀ w ∈ wsX60, w ∈ wsX6_go := by decide +kernel
  have hI : mI dd g q A s.heap s.heap [] M := ⟨hP0, va_S.rf⟩
  have hl := lv_entry ([.ref (q 0), .int 1]) (n := 6) (Nat.le_of_ble_eq_true rfl)
  rw [lg_entry_eq]
  generalize (lg_sl ([.ref (q 0), .int 1]) ++ List.replicate (6 - (lg_sl ([.ref (q 0), .int 1])).length) Slot.unset).toArray = ls at hl ⊢
  have hl : lv_has ls 6 [(0, .ref (q 0)), (1, .int 1)] := hl
  refine lv_aload_n hx hb dX6_go_0 rfl (lv_at hl 0 rfl) ?_
  refine lv_iconst (v := 0) hx hb dX6_go_1 (by decide) ?_
  refine m_put hx hb hts hin hown hK hA hI 11 (by decide) (hts (.fieldLink RX6 138 "WinderLaddersModel" "place" "I") (by decide +kernel)) (fun h => absurd h (by decide)) dX6_go_2 (fun H locs hI => ?_)
  refine lv_aload_n hx hb dX6_go_5 rfl (lv_at hl 0 rfl) ?_
  refine lv_iconst (v := 0) hx hb dX6_go_6 (by decide) ?_
  refine m_put hx hb hts hin hown hK hA hI 12 (by decide) (hts (.fieldLink RX6 141 "WinderLaddersModel" "isWrong" "Z") (by decide +kernel)) (fun _ => by first | exact Or.inl rfl | exact Or.inr rfl) dX6_go_7 (fun H locs hI => ?_)
  refine lv_iconst (v := 0) hx hb dX6_go_10 (by decide) ?_
  refine lv_istore_n (lv' := [(2, .int 0), (0, .ref (q 0)), (1, .int 1)]) hx hb dX6_go_11 rfl hl (by decide) rfl (fun ls hl => ?_)
  refine lv_iconst (v := 1) hx hb dX6_go_12 (by decide) ?_
  refine lv_istore_n (lv' := [(3, .int 1), (2, .int 0), (0, .ref (q 0)), (1, .int 1)]) hx hb dX6_go_13 rfl hl (by decide) rfl (fun ls hl => ?_)
  have L14 : ∀ (fuel : Nat) (N : MS) (pz u z : Nat) (f1 : Nat → Int32) (h2 : 81 < fuel + pz) (hpz : pz ≤ len) (hu : 81 ≤ u + pz) (h11 : N 11 0 = nI pz) (h12 : N 12 0 = 0) (h7 : N 7 0 = nI len) (hN6 : N 6 = M 6) (hPk0 : Pk0 M N) (hf : N 0 = f1) (hWf : Wk f1) (hV : gF (M 6) len u pz = none) (hC : cO (M 6) len 81 0 (M 0) = ((cO (M 6) len u pz f1).1 + z, (cO (M 6) len u pz f1).2)) (H : Heap) (locs : List Loc) (ls : Array Slot), mI dd g q A s.heap H locs N → lv_has ls 6 [(3, .int 1), (2, .int (nI z)), (0, .ref (q 0)), (1, .int 1)] → wk p l e wsX6_go { frames := 6, cells := 0, slots := 0, locals := 138 } s m [.ref (q 0), .int 1] below meth c H locs (mQi dd g q A (fun r M' => r = nI (cO (M 6) len 81 0 (M 0)).1 ∧ M' 0 = (cO (M 6) len 81 0 (M 0)).2 ∧ Pk0 M M')) (A) (F0 m 14 ls []) := by
    intro fuel
    induction fuel with
    | zero =>
      intro N pz u z f1 h2 hpz hu h11 h12 h7 hN6 hPk0 hf hWf hV hC H locs ls hI hl
      exact absurd h2 (by omega)
    | succ fuel ih =>
      intro N pz u z f1 h2 hpz hu h11 h12 h7 hN6 hPk0 hf hWf hV hC H locs ls hI hl
      refine lv_iload_n hx hb dX6_go_14 rfl (lv_at hl 0 rfl) ?_
      refine lv_if_eq (tgt := 116) hx hb dX6_go_15 (by decide) (fun c1 => absurd c1 (by decide)) (fun _ => ?_)
      refine lv_aload_n hx hb dX6_go_18 rfl (lv_at hl 2 rfl) ?_
      refine m_callv (As := []) (rest := []) hx hb hml hown hts hK hI (k_X6_order l dd g q A hA N pz len h11 h7 hl80 hpz h12) (cwV 0 hts gX6_go_X6_order rfl rfl rfl (by decide +kernel) ⟨Nat.le_of_ble_eq_true rfl, Nat.le_of_ble_eq_true rfl⟩) rfl hl (Nat.le_of_ble_eq_true rfl) ⟨Nat.zero_le _, Nat.zero_le _⟩ dX6_go_19 rfl (fun N1 H locs h3 hI => ?_)
      unfold ordP at h3
      rw [hN6] at h3
      rcases h3 with ⟨ho, h12, h11, h13, h14, h43, h9, h8, hPk2⟩ | ⟨ho, h12, h11, hPk2⟩
      · skip
        have hPk := Pk.pk0 hPk2
        have hPk0 := hPk0.trans hPk
        have h7 : N1 7 0 = nI len := by rw [hPk0 7 (by decide) (by decide) (by decide) (by decide) (by decide) (by decide) (by decide) (by decide) (by decide)]; exact hlen
        have hN6 : N1 6 = M 6 := hPk0 6 (by decide) (by decide) (by decide) (by decide) (by decide) (by decide) (by decide) (by decide) (by decide)
        have hpl2 := rO_place (M 6) len pz hpz
        have hf1 : N1 0 = f1 := (hPk2 0 (by decide) (by decide) (by decide) (by decide) (by decide) (by decide) (by decide) (by decide)).trans hf
        have hW1 : Wk (N1 0) := by rw [hf1]; exact hWf
        refine lv_iload_n hx hb dX6_go_22 rfl (lv_at hl 3 rfl) ?_
        refine lv_if_eq (tgt := 37) hx hb dX6_go_23 (by decide) (fun c4 => absurd c4 (by decide)) (fun _ => ?_)
        refine lv_aload_n hx hb dX6_go_26 rfl (lv_at hl 2 rfl) ?_
        refine m_calli (As := []) (rest := []) hx hb hml hown hts hK hI (k_X6_does l dd g q A hA N1 (chr (M 6) len pz) (rO (M 6) len pz).2.2.1.1 (N1 15 0) (N1 16 0) h13 h14 rfl rfl (rO (M 6) len pz).2.2.2.1 (rO_len _ _ _ hpz hl80) h9 hW1) (cwV 0 hts gX6_go_X6_does rfl rfl rfl (by decide +kernel) ⟨Nat.le_of_ble_eq_true rfl, Nat.le_of_ble_eq_true rfl⟩) rfl hl (Nat.le_of_ble_eq_true rfl) ⟨Nat.zero_le _, Nat.zero_le _⟩ dX6_go_27 rfl (fun r N2 H locs h6 hI => ?_)
        rcases h6 with ⟨e5, rfl, hm9⟩ | ⟨e5, rfl, hm9⟩
        · skip
          rw [exE_congr _ h43 h8, hf1] at e5
          rw [exF_congr _ h43 h8, hf1] at hm9
          have hM2 : N2 = ms0 N1 (exF' (M 6) len pz f1) := hm9
          have hW2 : Wk (exF' (M 6) len pz f1) := Wk_exF hWf e5
          have k11 : N2 11 0 = nI ((rO (M 6) len pz).2.1) := by rw [hM2, ms0_k _ _ (by decide)]; exact h11
          have k12 : N2 12 0 = 0 := by rw [hM2, ms0_k _ _ (by decide)]; exact h12
          have k7 : N2 7 0 = nI len := by rw [hM2, ms0_k _ _ (by decide)]; exact h7
          have k0 : N2 0 = exF' (M 6) len pz f1 := by rw [hM2, ms0_0]
          have hN6 : N2 6 = M 6 := by rw [hM2, ms0_k _ _ (by decide)]; exact hN6
          have hPk0 : Pk0 M N2 := by rw [hM2]; exact hPk0.ms _
          refine lv_if_eq (tgt := 37) hx hb dX6_go_30 (by decide) (fun c7 => absurd c7 (by decide)) (fun _ => ?_)
          refine lv_iconst (v := 1) hx hb dX6_go_33 (by decide) ?_
          refine lv_goto (tgt := 38) hx hb dX6_go_34 (by decide) ?_
          refine lv_istore (lv' := [(4, .int 1), (3, .int 1), (2, .int (nI z)), (0, .ref (q 0)), (1, .int 1)]) hx hb dX6_go_38 hl (by decide) rfl (fun ls hl => ?_)
          refine lv_iload_n hx hb dX6_go_40 rfl (lv_at hl 2 rfl) ?_
          refine lv_iload hx hb dX6_go_41 (lv_at hl 0 rfl) ?_
          refine lv_if_eq (tgt := 50) hx hb dX6_go_43 (by decide) (fun c8 => absurd c8 (by decide)) (fun _ => ?_)
          refine lv_iconst (v := 1) hx hb dX6_go_46 (by decide) ?_
          refine lv_goto (tgt := 51) hx hb dX6_go_47 (by decide) ?_
          refine lv_iadd hx hb dX6_go_51 ?_
          refine lv_re (y := nI (z + 1)) (nI_add (z) (1)) ?_
          refine lv_istore_n (lv' := [(2, .int (nI (z + 1))), (4, .int 1), (3, .int 1), (0, .ref (q 0)), (1, .int 1)]) hx hb dX6_go_52 rfl hl (by decide) rfl (fun ls hl => ?_)
          refine lv_aload_n hx hb dX6_go_53 rfl (lv_at hl 3 rfl) ?_
          refine m_get hx hb hts hin hown hK hI 12 (by decide) (hts (.fieldLink RX6 141 "WinderLaddersModel" "isWrong" "Z") (by decide +kernel)) (v := .int 0) (congrArg (fun z => some (Value.int z)) k12) dX6_go_54 ?_
          refine lv_if_ne (tgt := 84) hx hb dX6_go_57 (by decide) (fun c9 => absurd (by decide) c9) (fun _ => ?_)
          refine lv_iload hx hb dX6_go_60 (lv_at hl 1 rfl) ?_
          refine lv_if_ne (tgt := 69) hx hb dX6_go_62 (by decide) (fun _ => ?_) (fun c10 => absurd c10 (by decide))
          refine lv_aload_n hx hb dX6_go_69 rfl (lv_at hl 3 rfl) ?_
          refine m_get hx hb hts hin hown hK hI 11 (by decide) (hts (.fieldLink RX6 138 "WinderLaddersModel" "place" "I") (by decide +kernel)) (v := .int (nI ((rO (M 6) len pz).2.1))) (congrArg (fun z => some (Value.int z)) k11) dX6_go_70 ?_
          refine lv_aload_n hx hb dX6_go_73 rfl (lv_at hl 3 rfl) ?_
          refine m_get hx hb hts hin hown hK hI 7 (by decide) (hts (.fieldLink RX6 127 "WinderLaddersModel" "length" "I") (by decide +kernel)) (v := .int (nI len)) (congrArg (fun z => some (Value.int z)) k7) dX6_go_74 ?_
          refine lv_icmp_ge (tgt := 84) hx hb dX6_go_77 (by decide) (fun c11 => ?_) (fun c11 => ?_)
          · skip
            have nc11 : len ≤ (rO (M 6) len pz).2.1 := (nI_leI (a := len) (b := (rO (M 6) len pz).2.1) (by omega) (by omega)).mp c11
            refine lv_iconst (v := 0) hx hb dX6_go_84 (by decide) ?_
            refine lv_istore_n (lv' := [(3, .int 0), (2, .int (nI (z + 1))), (4, .int 1), (0, .ref (q 0)), (1, .int 1)]) hx hb dX6_go_85 rfl hl (by decide) rfl (fun ls hl => ?_)
            refine lv_iload_n hx hb dX6_go_86 rfl (lv_at hl 0 rfl) ?_
            refine lv_if_eq (tgt := 113) hx hb dX6_go_87 (by decide) (fun _ => ?_) (fun c12 => absurd (by decide) c12)
            refine lv_goto (tgt := 14) hx hb dX6_go_113 (by decide) ?_
            refine lv_iload_n hx hb dX6_go_14 rfl (lv_at hl 0 rfl) ?_
            refine lv_if_eq (tgt := 116) hx hb dX6_go_15 (by decide) (fun _ => ?_) (fun c13 => absurd (by decide) c13)
            refine lv_iload_n hx hb dX6_go_116 rfl (lv_at hl 1 rfl) ?_
            exact m_iret (v := nI (z + 1)) hx hb hr hI (⟨by rw [hC, show u = (u - 1) + 1 by omega, cO_end e5 (by omega)]; rw [Nat.add_comm], by rw [hC, show u = (u - 1) + 1 by omega, cO_end e5 (by omega)]; exact k0, hPk0⟩) dX6_go_117 hlocks
          · skip
            have nc11 : ¬ (len ≤ (rO (M 6) len pz).2.1) := fun h => c11 ((nI_leI (a := len) (b := (rO (M 6) len pz).2.1) (by omega) (by omega)).mpr h)
            refine lv_iconst (v := 1) hx hb dX6_go_80 (by decide) ?_
            refine lv_goto (tgt := 85) hx hb dX6_go_81 (by decide) ?_
            refine lv_istore_n (lv' := [(3, .int 1), (2, .int (nI (z + 1))), (4, .int 1), (0, .ref (q 0)), (1, .int 1)]) hx hb dX6_go_85 rfl hl (by decide) rfl (fun ls hl => ?_)
            refine lv_iload_n hx hb dX6_go_86 rfl (lv_at hl 0 rfl) ?_
            refine lv_if_eq (tgt := 113) hx hb dX6_go_87 (by decide) (fun c14 => absurd c14 (by decide)) (fun _ => ?_)
            refine lv_aload_n hx hb dX6_go_90 rfl (lv_at hl 3 rfl) ?_
            refine lv_bipush (v := 59) hx hb dX6_go_91 (by decide) ?_
            refine lv_bipush (v := 59) hx hb dX6_go_93 (by decide) ?_
            refine m_calli (As := [.int 59, .int 59]) (rest := []) hx hb hml hown hts hK hI (k_X6_sign0 l dd g q A hA N2 59 59 ((rO (M 6) len pz).2.1) len k11 k7 hl80 (by omega) k12) (cwV 2 hts gX6_go_X6_sign rfl rfl rfl (by decide +kernel) ⟨Nat.le_of_ble_eq_true rfl, Nat.le_of_ble_eq_true rfl⟩) rfl hl (Nat.le_of_ble_eq_true rfl) ⟨Nat.zero_le _, Nat.zero_le _⟩ dX6_go_95 rfl (fun r M1 H locs h16 hI => ?_)
            rw [show N2 6 = (M 6) from hN6] at h16
            rcases h16 with ⟨b15, hr9, hm9⟩ | ⟨b15, hm9⟩
            · skip
              subst hr9
              rw [hm9] at hI
              have lb15 := chr_pos b15 (by decide)
              refine lv_istore (lv' := [(5, .int (chr (M 6) len ((rO (M 6) len pz).2.1))), (3, .int 1), (2, .int (nI (z + 1))), (4, .int 1), (0, .ref (q 0)), (1, .int 1)]) hx hb dX6_go_98 hl (by decide) rfl (fun ls hl => ?_)
              refine lv_aload_n hx hb dX6_go_100 rfl (lv_at hl 4 rfl) ?_
              refine m_get hx hb hts hin hown hK hI 12 (by decide) (hts (.fieldLink RX6 141 "WinderLaddersModel" "isWrong" "Z") (by decide +kernel)) (v := .int 0) (congrArg (fun z => some (Value.int z)) ((mset_nk _ (by decide) _ _ _).trans (k12))) dX6_go_101 ?_
              refine lv_if_ne (tgt := 111) hx hb dX6_go_104 (by decide) (fun c17 => absurd (by decide) c17) (fun _ => ?_)
              refine lv_iconst (v := 1) hx hb dX6_go_107 (by decide) ?_
              refine lv_goto (tgt := 112) hx hb dX6_go_108 (by decide) ?_
              refine lv_istore_n (lv' := [(3, .int 1), (5, .int (chr (M 6) len ((rO (M 6) len pz).2.1))), (2, .int (nI (z + 1))), (4, .int 1), (0, .ref (q 0)), (1, .int 1)]) hx hb dX6_go_112 rfl hl (by decide) rfl (fun ls hl => ?_)
              refine lv_goto (tgt := 14) hx hb dX6_go_113 (by decide) ?_
              exact ih (mset N2 11 (0) (nI ((rO (M 6) len pz).2.1 + 1))) ((rO (M 6) len pz).2.1 + 1) (u - 1) (z + 1) (exF' (M 6) len pz f1) (by omega) (by omega) (by omega) (by simp [mset]) (by simp [mset, k12]) (by simp [mset, k7]) (by rw [← hN6]; funext j; simp [mset]) (hPk0.set (by decide) _ _) (by rw [← k0]; funext j; simp [mset]) hW2 (by rw [← hV]; rw [show u = (u - 1) + 1 by omega]; exact (gF_go ho (by omega) b15).symm) (by rw [hC, show u = (u - 1) + 1 by omega, cO_go e5 (by omega)]; simp only [Nat.add_assoc, Nat.add_sub_cancel, Nat.add_comm 1 z]) _ _ _ hI (lv_sub hl [0, 2, 4, 5] rfl)
            · skip
              rw [hm9] at hI
              refine lv_istore (lv' := [(5, .int r), (3, .int 1), (2, .int (nI (z + 1))), (4, .int 1), (0, .ref (q 0)), (1, .int 1)]) hx hb dX6_go_98 hl (by decide) rfl (fun ls hl => ?_)
              refine lv_aload_n hx hb dX6_go_100 rfl (lv_at hl 4 rfl) ?_
              refine m_get hx hb hts hin hown hK hI 12 (by decide) (hts (.fieldLink RX6 141 "WinderLaddersModel" "isWrong" "Z") (by decide +kernel)) (v := .int 1) (congrArg (fun z => some (Value.int z)) (mset_eq _ _ _ _)) dX6_go_101 ?_
              refine lv_if_ne (tgt := 111) hx hb dX6_go_104 (by decide) (fun _ => ?_) (fun c18 => absurd c18 (by decide))
              refine lv_iconst (v := 0) hx hb dX6_go_111 (by decide) ?_
              refine lv_istore_n (lv' := [(3, .int 0), (5, .int r), (2, .int (nI (z + 1))), (4, .int 1), (0, .ref (q 0)), (1, .int 1)]) hx hb dX6_go_112 rfl hl (by decide) rfl (fun ls hl => ?_)
              refine lv_goto (tgt := 14) hx hb dX6_go_113 (by decide) ?_
              refine lv_iload_n hx hb dX6_go_14 rfl (lv_at hl 0 rfl) ?_
              refine lv_if_eq (tgt := 116) hx hb dX6_go_15 (by decide) (fun _ => ?_) (fun c19 => absurd (by decide) c19)
              refine lv_iload_n hx hb dX6_go_116 rfl (lv_at hl 2 rfl) ?_
              exact m_iret (v := nI (z + 1)) hx hb hr hI (False.elim (by rw [show u = (u - 1) + 1 by omega, gF_sep ho (by omega) b15] at hV; cases hV)) dX6_go_117 hlocks
        · skip
          rw [exE_congr _ h43 h8, hf1] at e5
          rw [hm9] at hI
          refine lv_if_eq (tgt := 37) hx hb dX6_go_30 (by decide) (fun _ => ?_) (fun c20 => absurd (by decide) c20)
          refine lv_iconst (v := 0) hx hb dX6_go_37 (by decide) ?_
          refine lv_istore (lv' := [(4, .int 0), (3, .int 1), (2, .int (nI z)), (0, .ref (q 0)), (1, .int 1)]) hx hb dX6_go_38 hl (by decide) rfl (fun ls hl => ?_)
          refine lv_iload_n hx hb dX6_go_40 rfl (lv_at hl 2 rfl) ?_
          refine lv_iload hx hb dX6_go_41 (lv_at hl 0 rfl) ?_
          refine lv_if_eq (tgt := 50) hx hb dX6_go_43 (by decide) (fun _ => ?_) (fun c21 => absurd (by decide) c21)
          refine lv_iconst (v := 0) hx hb dX6_go_50 (by decide) ?_
          refine lv_iadd hx hb dX6_go_51 ?_
          refine lv_re (y := nI (z + 0)) (nI_add (z) (0)) ?_
          refine lv_istore_n (lv' := [(2, .int (nI (z + 0))), (4, .int 0), (3, .int 1), (0, .ref (q 0)), (1, .int 1)]) hx hb dX6_go_52 rfl hl (by decide) rfl (fun ls hl => ?_)
          refine lv_aload_n hx hb dX6_go_53 rfl (lv_at hl 3 rfl) ?_
          refine m_get hx hb hts hin hown hK hI 12 (by decide) (hts (.fieldLink RX6 141 "WinderLaddersModel" "isWrong" "Z") (by decide +kernel)) (v := .int 0) (congrArg (fun z => some (Value.int z)) h12) dX6_go_54 ?_
          refine lv_if_ne (tgt := 84) hx hb dX6_go_57 (by decide) (fun c22 => absurd (by decide) c22) (fun _ => ?_)
          refine lv_iload hx hb dX6_go_60 (lv_at hl 1 rfl) ?_
          refine lv_if_ne (tgt := 69) hx hb dX6_go_62 (by decide) (fun c23 => absurd (by decide) c23) (fun _ => ?_)
          refine lv_iload_n hx hb dX6_go_65 rfl (lv_at hl 4 rfl) ?_
          refine lv_if_ne (tgt := 84) hx hb dX6_go_66 (by decide) (fun _ => ?_) (fun c24 => absurd c24 (by decide))
          refine lv_iconst (v := 0) hx hb dX6_go_84 (by decide) ?_
          refine lv_istore_n (lv' := [(3, .int 0), (2, .int (nI (z + 0))), (4, .int 0), (0, .ref (q 0)), (1, .int 1)]) hx hb dX6_go_85 rfl hl (by decide) rfl (fun ls hl => ?_)
          refine lv_iload_n hx hb dX6_go_86 rfl (lv_at hl 0 rfl) ?_
          refine lv_if_eq (tgt := 113) hx hb dX6_go_87 (by decide) (fun _ => ?_) (fun c25 => absurd (by decide) c25)
          refine lv_goto (tgt := 14) hx hb dX6_go_113 (by decide) ?_
          refine lv_iload_n hx hb dX6_go_14 rfl (lv_at hl 0 rfl) ?_
          refine lv_if_eq (tgt := 116) hx hb dX6_go_15 (by decide) (fun _ => ?_) (fun c26 => absurd (by decide) c26)
          refine lv_iload_n hx hb dX6_go_116 rfl (lv_at hl 1 rfl) ?_
          exact m_iret (v := nI (z + 0)) hx hb hr hI (⟨by rw [hC, show u = (u - 1) + 1 by omega, cO_no e5]; simp, by rw [hC, show u = (u - 1) + 1 by omega, cO_no e5]; exact hf1, hPk0⟩) dX6_go_117 hlocks
      · skip
        rw [show u = (u - 1) + 1 by omega, gF_no ho] at hV; cases hV
  exact L14 82 (mset (mset M 11 (0) (0)) 12 (0) (0)) 0 81 0 (M 0) (by omega) (by omega) (by omega) (by simp [mset]; rfl) (by simp [mset]) (by simp [mset, hlen]) (by funext j; simp [mset]) ((((Pk.rf M).set (by decide) _ _).set (by decide) _ _).pk0) (by funext j; simp [mset]) hW hV rfl _ _ _ hI (lv_sub hl [0, 1, 2, 3] rfl)


set_option maxHeartbeats 4000000 in
set_option maxRecDepth 100000 in
theorem k_X6_fault (l : Launch) (dd : va_G) (g : Nat → ClassId) (q : Nat → Nat) (A : Nat → Prop) (hA : mA A q) (M : MS) (len : Nat) (hlen : M 7 0 = nI len) (hl80 : len ≤ 80) (hW : Wk (M 0)) : Met l yX6_fault wsX6_fault ({ frames := 7, cells := 0, slots := 0, locals := 163 }) (mPre dd g q M [.ref (q 0)]) (mQi dd g q A (fun r M' => r = o2i (gF (M 6) len 81 0) ∧ Pk M M')) 0 0 A := by
  refine Met.ofW (cc := cX6_fault) (maxL := 2) (ret := (some .int)) (by decide) rfl ?_
  intro p e s m args below meth c s₁ B hml hv
  obtain ⟨rfl, hP0, hK⟩ := hv
  have hx := B.exec
  have hb := B.bytes
  have hr := B.returns
  have hts := atoms_spec (ws := wsX6_fault) B.pre
  have hown : s.vm.findClass RX6 = some m.cls := findClass_of_methodNamed B.named
  have hlocks := B.notSynchronized
  have hin : ∀ w ∈ wsX60, w ∈ wsX6_fault := by decide +kernel
  have hI : mI dd g q A s.heap s.heap [] M := ⟨hP0, va_S.rf⟩
  have hl := lv_entry ([.ref (q 0)]) (n := 2) (Nat.le_of_ble_eq_true rfl)
  rw [lg_entry_eq]
  generalize (lg_sl ([.ref (q 0)]) ++ List.replicate (2 - (lg_sl ([.ref (q 0)])).length) Slot.unset).toArray = ls at hl ⊢
  have hl : lv_has ls 2 [(0, .ref (q 0))] := hl
  refine lv_aload_n hx hb dX6_fault_0 rfl (lv_at hl 0 rfl) ?_
  refine lv_iconst (v := 0) hx hb dX6_fault_1 (by decide) ?_
  refine m_calli (As := [.int 0]) (rest := []) hx hb hml hown hts hK hI (k_X6_go0 l dd g q A hA M len hlen hl80 hW) (cwV 1 hts gX6_fault_X6_go rfl rfl rfl (by decide +kernel) ⟨Nat.le_of_ble_eq_true rfl, Nat.le_of_ble_eq_true rfl⟩) rfl hl (Nat.le_of_ble_eq_true rfl) ⟨Nat.zero_le _, Nat.zero_le _⟩ dX6_fault_2 rfl (fun r0 N1 H locs h1 hI => ?_)
  rcases h1 with ⟨hG, g12, hPk⟩ | ⟨pf, hG, g12, g11, hpf, hPk⟩
  · skip
    refine lv_istore_n (lv' := [(1, .int r0), (0, .ref (q 0))]) hx hb dX6_fault_5 rfl hl (by decide) rfl (fun ls hl => ?_)
    refine lv_aload_n hx hb dX6_fault_6 rfl (lv_at hl 1 rfl) ?_
    refine m_get hx hb hts hin hown hK hI 12 (by decide) (hts (.fieldLink RX6 141 "WinderLaddersModel" "isWrong" "Z") (by decide +kernel)) (v := .int 0) (congrArg (fun z => some (Value.int z)) g12) dX6_fault_7 ?_
    refine lv_if_eq (tgt := 20) hx hb dX6_fault_10 (by decide) (fun _ => ?_) (fun c2 => absurd (by decide) c2)
    refine lv_bipush (v := (-6)) hx hb dX6_fault_20 (by decide) ?_
    exact m_iret (v := (-6)) hx hb hr hI (⟨by rw [hG]; rfl, hPk⟩) dX6_fault_22 hlocks
  · skip
    refine lv_istore_n (lv' := [(1, .int r0), (0, .ref (q 0))]) hx hb dX6_fault_5 rfl hl (by decide) rfl (fun ls hl => ?_)
    refine lv_aload_n hx hb dX6_fault_6 rfl (lv_at hl 1 rfl) ?_
    refine m_get hx hb hts hin hown hK hI 12 (by decide) (hts (.fieldLink RX6 141 "WinderLaddersModel" "isWrong" "Z") (by decide +kernel)) (v := .int 1) (congrArg (fun z => some (Value.int z)) g12) dX6_fault_7 ?_
    refine lv_if_eq (tgt := 20) hx hb dX6_fault_10 (by decide) (fun c3 => absurd c3 (by decide)) (fun _ => ?_)
    refine lv_aload_n hx hb dX6_fault_13 rfl (lv_at hl 1 rfl) ?_
    refine m_get hx hb hts hin hown hK hI 11 (by decide) (hts (.fieldLink RX6 138 "WinderLaddersModel" "place" "I") (by decide +kernel)) (v := .int (nI pf)) (congrArg (fun z => some (Value.int z)) g11) dX6_fault_14 ?_
    refine lv_goto (tgt := 22) hx hb dX6_fault_17 (by decide) ?_
    exact m_iret (v := nI pf) hx hb hr hI (⟨by rw [hG]; rfl, hPk⟩) dX6_fault_22 hlocks

set_option maxHeartbeats 4000000 in
set_option maxRecDepth 100000 in
theorem k_X6_carryOut (l : Launch) (dd : va_G) (g : Nat → ClassId) (q : Nat → Nat) (A : Nat → Prop) (hA : mA A q) (M : MS) (len : Nat) (hlen : M 7 0 = nI len) (hl80 : len ≤ 80) (kn : Nat) (hkn : kn ≤ 6) (hk : M 3 0 = nI kn) (hW : Wk (M 0)) : Met l yX6_carryOut wsX6_carryOut ({ frames := 7, cells := 0, slots := 0, locals := 163 }) (mPre dd g q M [.ref (q 0)]) (mQi dd g q A (fun r M' => ((gF (M 6) len 81 0 ≠ none ∧ r = -3 ∧ Pk M M') ∨ (gF (M 6) len 81 0 = none ∧ r = nI (cO (M 6) len 81 0 (M 0)).1 ∧ M' 0 = (cO (M 6) len 81 0 (M 0)).2 ∧ M' 7 0 = 0 ∧ M' 2 = knB (M 2) (M 0) kn ∧ M' 3 0 = nI (knN kn) ∧ M' 4 = M 4 ∧ M' 5 = M 5 ∧ M' 6 = M 6)))) 0 0 A := by
  refine Met.ofW (cc := cX6_carryOut) (maxL := 3) (ret := (some .int)) (by decide) rfl ?_
  intro p e s m args below meth c s₁ B hml hv
  obtain ⟨rfl, hP0, hK⟩ := hv
  have hx := B.exec
  have hb := B.bytes
  have hr := B.returns
  have hts := atoms_spec (ws := wsX6_carryOut) B.pre
  have hown : s.vm.findClass RX6 = some m.cls := findClass_of_methodNamed B.named
  have hlocks := B.notSynchronized
  have hin : ∀ w ∈ wsX60, w ∈ wsX6_carryOut := by decide +kernel
  have hI : mI dd g q A s.heap s.heap [] M := ⟨hP0, va_S.rf⟩
  have hl := lv_entry ([.ref (q 0)]) (n := 3) (Nat.le_of_ble_eq_true rfl)
  rw [lg_entry_eq]
  generalize (lg_sl ([.ref (q 0)]) ++ List.replicate (3 - (lg_sl ([.ref (q 0)])).length) Slot.unset).toArray = ls at hl ⊢
  have hl : lv_has ls 3 [(0, .ref (q 0))] := hl
  refine lv_aload_n hx hb dX6_carryOut_0 rfl (lv_at hl 0 rfl) ?_
  refine lv_iconst (v := 0) hx hb dX6_carryOut_1 (by decide) ?_
  refine m_calli (As := [.int 0]) (rest := []) hx hb hml hown hts hK hI (k_X6_go0 l dd g q A hA M len hlen hl80 hW) (cwV 1 hts gX6_carryOut_X6_go rfl rfl rfl (by decide +kernel) ⟨Nat.le_of_ble_eq_true rfl, Nat.le_of_ble_eq_true rfl⟩) rfl hl (Nat.le_of_ble_eq_true rfl) ⟨Nat.zero_le _, Nat.zero_le _⟩ dX6_carryOut_2 rfl (fun r0 N1 H locs h1 hI => ?_)
  rcases h1 with ⟨hG, g12, hPk⟩ | ⟨pf, hG, g12, g11, hpf, hPk⟩
  · skip
    refine lv_istore_n (lv' := [(1, .int r0), (0, .ref (q 0))]) hx hb dX6_carryOut_5 rfl hl (by decide) rfl (fun ls hl => ?_)
    refine lv_aload_n hx hb dX6_carryOut_6 rfl (lv_at hl 1 rfl) ?_
    refine m_get hx hb hts hin hown hK hI 12 (by decide) (hts (.fieldLink RX6 141 "WinderLaddersModel" "isWrong" "Z") (by decide +kernel)) (v := .int 0) (congrArg (fun z => some (Value.int z)) g12) dX6_carryOut_7 ?_
    refine lv_if_eq (tgt := 16) hx hb dX6_carryOut_10 (by decide) (fun _ => ?_) (fun c2 => absurd (by decide) c2)
    have p_ := fun k h => hPk k h
    have k3 : N1 3 0 = nI kn := by rw [hPk 3 (by decide) (by decide) (by decide) (by decide) (by decide) (by decide) (by decide) (by decide)]; exact hk
    refine lv_aload_n hx hb dX6_carryOut_16 rfl (lv_at hl 1 rfl) ?_
    refine m_callv (As := []) (rest := []) hx hb hml hown hts hK hI (k_X6_know l dd g q A hA N1 kn hkn k3) (cwV 0 hts gX6_carryOut_X6_know rfl rfl rfl (by decide +kernel) ⟨Nat.le_of_ble_eq_true rfl, Nat.le_of_ble_eq_true rfl⟩) rfl hl (Nat.le_of_ble_eq_true rfl) ⟨Nat.zero_le _, Nat.zero_le _⟩ dX6_carryOut_17 rfl (fun N2 H locs h3 hI => ?_)
    subst h3
    have q0 : N1 0 = M 0 := hPk 0 (by decide) (by decide) (by decide) (by decide) (by decide) (by decide) (by decide) (by decide)
    have q2 : N1 2 = M 2 := hPk 2 (by decide) (by decide) (by decide) (by decide) (by decide) (by decide) (by decide) (by decide)
    have q6 : N1 6 = M 6 := hPk 6 (by decide) (by decide) (by decide) (by decide) (by decide) (by decide) (by decide) (by decide)
    have e7 : knM N1 kn 7 0 = nI len := by rw [knM_k _ _ (by decide) (by decide), hPk 7 (by decide) (by decide) (by decide) (by decide) (by decide) (by decide) (by decide) (by decide)]; exact hlen
    have j6 : knM N1 kn 6 = M 6 := by rw [knM_k _ _ (by decide) (by decide)]; exact q6
    have j0 : knM N1 kn 0 = M 0 := by rw [knM_k _ _ (by decide) (by decide)]; exact q0
    have eV : gF (knM N1 kn 6) len 81 0 = none := by rw [j6]; exact hG
    have eW : Wk (knM N1 kn 0) := by rw [j0]; exact hW
    refine lv_aload_n hx hb dX6_carryOut_20 rfl (lv_at hl 1 rfl) ?_
    refine lv_iconst (v := 1) hx hb dX6_carryOut_21 (by decide) ?_
    refine m_calli (As := [.int 1]) (rest := []) hx hb hml hown hts hK hI (k_X6_go1 l dd g q A hA (knM N1 kn) len e7 hl80 eV eW) (cwV 1 hts gX6_carryOut_X6_go rfl rfl rfl (by decide +kernel) ⟨Nat.le_of_ble_eq_true rfl, Nat.le_of_ble_eq_true rfl⟩) rfl hl (Nat.le_of_ble_eq_true rfl) ⟨Nat.zero_le _, Nat.zero_le _⟩ dX6_carryOut_22 rfl (fun r1 N3 H locs h4 hI => ?_)
    obtain ⟨hr9, hm0, hPk3⟩ := h4
    subst hr9
    refine lv_istore_n (lv' := [(2, .int (nI (cO ((knM N1 kn) 6) len 81 0 ((knM N1 kn) 0)).1)), (1, .int r0), (0, .ref (q 0))]) hx hb dX6_carryOut_25 rfl hl (by decide) rfl (fun ls hl => ?_)
    refine lv_aload_n hx hb dX6_carryOut_26 rfl (lv_at hl 2 rfl) ?_
    refine lv_iconst (v := 0) hx hb dX6_carryOut_27 (by decide) ?_
    refine m_put hx hb hts hin hown hK hA hI 7 (by decide) (hts (.fieldLink RX6 127 "WinderLaddersModel" "length" "I") (by decide +kernel)) (fun h => absurd h (by decide)) dX6_carryOut_28 (fun H locs hI => ?_)
    refine lv_iload_n hx hb dX6_carryOut_31 rfl (lv_at hl 0 rfl) ?_
    exact m_iret (v := nI (cO ((knM N1 kn) 6) len 81 0 ((knM N1 kn) 0)).1) hx hb hr hI (Or.inr ⟨hG, by rw [j6, j0], by rw [mset_ne _ (by decide), hm0, j6, j0], mset_eq _ _ _ _, by rw [mset_ne _ (by decide), hPk3 2 (by decide) (by decide) (by decide) (by decide) (by decide) (by decide) (by decide) (by decide) (by decide)]; unfold knM; rw [mset_ne _ (by decide), mrow_s, q2, q0], by rw [mset_nk _ (by decide), hPk3 3 (by decide) (by decide) (by decide) (by decide) (by decide) (by decide) (by decide) (by decide) (by decide)]; exact mset_eq _ _ _ _, by rw [mset_ne _ (by decide), hPk3 4 (by decide) (by decide) (by decide) (by decide) (by decide) (by decide) (by decide) (by decide) (by decide), knM_k _ _ (by decide) (by decide)]; exact hPk 4 (by decide) (by decide) (by decide) (by decide) (by decide) (by decide) (by decide) (by decide), by rw [mset_ne _ (by decide), hPk3 5 (by decide) (by decide) (by decide) (by decide) (by decide) (by decide) (by decide) (by decide) (by decide), knM_k _ _ (by decide) (by decide)]; exact hPk 5 (by decide) (by decide) (by decide) (by decide) (by decide) (by decide) (by decide) (by decide), by rw [mset_ne _ (by decide), hPk3 6 (by decide) (by decide) (by decide) (by decide) (by decide) (by decide) (by decide) (by decide) (by decide), knM_k _ _ (by decide) (by decide)]; exact hPk 6 (by decide) (by decide) (by decide) (by decide) (by decide) (by decide) (by decide) (by decide)⟩) dX6_carryOut_32 hlocks
  · skip
    refine lv_istore_n (lv' := [(1, .int r0), (0, .ref (q 0))]) hx hb dX6_carryOut_5 rfl hl (by decide) rfl (fun ls hl => ?_)
    refine lv_aload_n hx hb dX6_carryOut_6 rfl (lv_at hl 1 rfl) ?_
    refine m_get hx hb hts hin hown hK hI 12 (by decide) (hts (.fieldLink RX6 141 "WinderLaddersModel" "isWrong" "Z") (by decide +kernel)) (v := .int 1) (congrArg (fun z => some (Value.int z)) g12) dX6_carryOut_7 ?_
    refine lv_if_eq (tgt := 16) hx hb dX6_carryOut_10 (by decide) (fun c5 => absurd c5 (by decide)) (fun _ => ?_)
    refine lv_bipush (v := (-3)) hx hb dX6_carryOut_13 (by decide) ?_
    exact m_iret (v := (-3)) hx hb hr hI (Or.inl ⟨by rw [hG]; simp, rfl, hPk⟩) dX6_carryOut_15 hlocks
