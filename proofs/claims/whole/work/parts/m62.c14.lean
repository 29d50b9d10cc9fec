set_option maxHeartbeats 4000000 in
set_option maxRecDepth 100000 in
theorem k_X5_codeAt (l : Launch) (x : Int64) (k : Nat) : Met l yX5_codeAt wsX5_codeAt ({ frames := 0, cells := 0, slots := 0, locals := 0 }) (sPre [.long x, .int (nI k)]) (sQi (fun r => r = chK x k)) 0 0 (fun _ => False) := by
  refine Met.ofW (cc := cX5_codeAt) (maxL := 3) (ret := (some .int)) (by decide) rfl ?_
  intro p e s m args below meth c s₁ B hml hv
  obtain ⟨rfl, _⟩ := hv
  have hx := B.exec
  have hb := B.bytes
  have hr := B.returns
  have hts := atoms_spec (ws := wsX5_codeAt) B.pre
  have hown : s.vm.findClass RX5 = some m.cls := findClass_of_methodNamed B.named
  have hlocks := B.notSynchronized
  have hI : va_S (fun _ => False) s.heap s.heap [] := va_S.rf
  have hl := lv_entry ([.long x, .int (nI k)]) (n := 3) (Nat.le_of_ble_eq_true rfl)
  rw [lg_entry_eq]
  generalize (lg_sl ([.long x, .int (nI k)]) ++ List.replicate (3 - (lg_sl ([.long x, .int (nI k)])).length) Slot.unset).toArray = ls at hl ⊢
  have hl : lv_has ls 3 [(0, .long x), (2, .int (nI k))] := hl
  refine lv_lload_n hx hb dX5_codeAt_0 rfl (lv_at hl 0 rfl) ?_
  refine lv_iload_n hx hb dX5_codeAt_1 rfl (lv_at hl 1 rfl) ?_
  refine lv_bipush (v := 8) hx hb dX5_codeAt_2 (by decide) ?_
  refine lv_imul hx hb dX5_codeAt_4 ?_
  refine lv_re (y := nI (8 * k)) (by rw [show (8 : Int32) = nI 8 from rfl, pk_mul, Nat.mul_comm]) ?_
  refine lv_lushr hx hb dX5_codeAt_5 rfl ?_
  refine lv_rel (y := shK x k) (rfl) ?_
  refine lv_l2i hx hb dX5_codeAt_6 rfl ?_
  refine lv_sipush (v := 255) hx hb dX5_codeAt_7 (by decide) ?_
  refine lv_iand hx hb dX5_codeAt_10 ?_
  refine lv_re (y := chK x k) (chK_eq x k) ?_
  exact s_iret (v := chK x k) hx hb hr hI (rfl) dX5_codeAt_11 hlocks

set_option maxHeartbeats 4000000 in
set_option maxRecDepth 100000 in
theorem k_X5_signsIn (l : Launch) (x : Int64) : Met l yX5_signsIn wsX5_signsIn ({ frames := 1, cells := 0, slots := 0, locals := 22 }) (sPre [.long x]) (sQi (fun r => r = nI (siN x 8 0))) 0 0 (fun _ => False) := by
  refine Met.ofW (cc := cX5_signsIn) (maxL := 4) (ret := (some .int)) (by decide) rfl ?_
  intro p e s m args below meth c s₁ B hml hv
  obtain ⟨rfl, _⟩ := hv
  have hx := B.exec
  have hb := B.bytes
  have hr := B.returns
  have hts := atoms_spec (ws := wsX5_signsIn) B.pre
  have hown : s.vm.findClass RX5 = some m.cls := findClass_of_methodNamed B.named
  have hlocks := B.notSynchronized
  have hI : va_S (fun _ => False) s.heap s.heap [] := va_S.rf
  have hl := lv_entry ([.long x]) (n := 4) (Nat.le_of_ble_eq_true rfl)
  rw [lg_entry_eq]
  generalize (lg_sl ([.long x]) ++ List.replicate (4 - (lg_sl ([.long x])).length) Slot.unset).toArray = ls at hl ⊢
  have hl : lv_has ls 4 [(0, .long x)] := hl
  refine lv_iconst (v := 0) hx hb dX5_signsIn_0 (by decide) ?_
  refine lv_istore_n (lv' := [(2, .int 0), (0, .long x)]) hx hb dX5_signsIn_1 rfl hl (by decide) rfl (fun ls hl => ?_)
  have L2 : ∀ (fuel : Nat) (i : Nat) (h1 : i ≤ 8) (h2 : 8 < fuel + i) (hg : siN x 8 0 = siN x (8 - i) i) (H : Heap) (locs : List Loc) (ls : Array Slot), va_S (fun _ => False) s.heap H locs → lv_has ls 4 [(2, .int (nI i)), (0, .long x)] → wk p l e wsX5_signsIn { frames := 1, cells := 0, slots := 0, locals := 22 } s m [.long x] below meth c H locs (sQi (fun r => r = nI (siN x 8 0))) (fun _ => False) (F0 m 2 ls []) := by
    intro fuel
    induction fuel with
    | zero =>
      intro i h1 h2 hg H locs ls hI hl
      exact absurd h2 (by omega)
    | succ fuel ih =>
      intro i h1 h2 hg H locs ls hI hl
      refine lv_iload_n hx hb dX5_signsIn_2 rfl (lv_at hl 0 rfl) ?_
      refine lv_bipush (v := 8) hx hb dX5_signsIn_3 (by decide) ?_
      refine lv_icmp_ge (tgt := 55) hx hb dX5_signsIn_5 (by decide) (fun c1 => ?_) (fun c1 => ?_)
      · skip
        have nc1 : 8 ≤ i := (nI_leI (a := 8) (b := i) (by omega) (by omega)).mp c1
        refine lv_bipush (v := 8) hx hb dX5_signsIn_55 (by decide) ?_
        exact s_iret (v := 8) hx hb hr hI (by rw [hg, show 8 - i = 0 by omega]; show _ = nI i; rw [show i = 8 by omega]; rfl) dX5_signsIn_57 hlocks
      · skip
        have nc1 : ¬ (8 ≤ i) := fun h => c1 ((nI_leI (a := 8) (b := i) (by omega) (by omega)).mpr h)
        refine lv_lload_n hx hb dX5_signsIn_8 rfl (lv_at hl 1 rfl) ?_
        refine lv_iload_n hx hb dX5_signsIn_9 rfl (lv_at hl 0 rfl) ?_
        refine s_calli (As := [.long x, .int (nI i)]) (rest := []) hx hb hml hown hts hI (k_X5_codeAt l x i) (va_cwS 2 hts gX5_signsIn_X5_codeAt rfl rfl rfl (by decide +kernel) ⟨Nat.le_of_ble_eq_true rfl, Nat.le_of_ble_eq_true rfl⟩) rfl hl (Nat.le_of_ble_eq_true rfl) ⟨Nat.zero_le _, Nat.zero_le _⟩ dX5_signsIn_10 rfl (fun r H locs h2 _ hI => ?_)
        subst h2
        refine lv_istore_n (lv' := [(3, .int (chK x i)), (2, .int (nI i)), (0, .long x)]) hx hb dX5_signsIn_13 rfl hl (by decide) rfl (fun ls hl => ?_)
        refine lv_iload_n hx hb dX5_signsIn_14 rfl (lv_at hl 0 rfl) ?_
        refine lv_if_ne (tgt := 35) hx hb dX5_signsIn_15 (by decide) (fun c3 => ?_) (fun c3 => ?_)
        · skip
          refine lv_iload_n hx hb dX5_signsIn_35 rfl (lv_at hl 0 rfl) ?_
          refine lv_bipush (v := 33) hx hb dX5_signsIn_36 (by decide) ?_
          refine lv_icmp_lt (tgt := 47) hx hb dX5_signsIn_38 (by decide) (fun c4 => ?_) (fun c4 => ?_)
          · skip
            refine lv_iconst (v := 0) hx hb dX5_signsIn_47 (by decide) ?_
            exact s_iret (v := 0) hx hb hr hI (by rw [hg, show 8 - i = (8 - (i + 1)) + 1 by omega]; simp only [siN, if_neg c1, if_neg nc1, if_neg c3, if_pos c4]; try rfl) dX5_signsIn_48 hlocks
          · skip
            refine lv_iload_n hx hb dX5_signsIn_41 rfl (lv_at hl 0 rfl) ?_
            refine lv_bipush (v := 126) hx hb dX5_signsIn_42 (by decide) ?_
            refine lv_icmp_le (tgt := 49) hx hb dX5_signsIn_44 (by decide) (fun c5 => ?_) (fun c5 => ?_)
            · skip
              refine lv_iinc (v := nI (i + 1)) (lv' := [(2, .int (nI (i + 1))), (3, .int (chK x i)), (0, .long x)]) hx hb dX5_signsIn_49 hl (k := 1) rfl (by rw [show Int32.ofInt 1 = nI 1 from rfl, nI_add]) (by decide) rfl (fun ls hl => ?_)
              refine lv_goto (tgt := 2) hx hb dX5_signsIn_52 (by decide) ?_
              exact ih (i + 1) (by omega) (by omega) (by rw [hg, show 8 - i = (8 - (i + 1)) + 1 by omega]; simp only [siN, if_neg c1, if_neg nc1, if_neg c3, if_neg c4, if_pos c5]) _ _ _ hI (lv_sub hl [0, 2] rfl)
            · skip
              refine lv_iconst (v := 0) hx hb dX5_signsIn_47 (by decide) ?_
              exact s_iret (v := 0) hx hb hr hI (by rw [hg, show 8 - i = (8 - (i + 1)) + 1 by omega]; simp only [siN, if_neg c1, if_neg nc1, if_neg c3, if_neg c4, if_neg c5]; try rfl) dX5_signsIn_48 hlocks
        · skip
          refine lv_lload_n hx hb dX5_signsIn_18 rfl (lv_at hl 2 rfl) ?_
          refine lv_iload_n hx hb dX5_signsIn_19 rfl (lv_at hl 1 rfl) ?_
          refine lv_bipush (v := 8) hx hb dX5_signsIn_20 (by decide) ?_
          refine lv_imul hx hb dX5_signsIn_22 ?_
          refine lv_re (y := nI (8 * i)) (by rw [show (8 : Int32) = nI 8 from rfl, pk_mul, Nat.mul_comm]) ?_
          refine lv_lushr hx hb dX5_signsIn_23 rfl ?_
          refine lv_rel (y := shK x i) (rfl) ?_
          refine lv_lconst (v := 0) hx hb dX5_signsIn_24 (by decide) ?_
          refine W.lcmp hx hb dX5_signsIn_25 ?_
          refine lv_if_ne (tgt := 33) hx hb dX5_signsIn_26 (by decide) (fun c6 => ?_) (fun c6 => ?_)
          · skip
            refine lv_iconst (v := 0) hx hb dX5_signsIn_33 (by decide) ?_
            exact s_iret (v := 0) hx hb hr hI (by rw [hg, show 8 - i = (8 - (i + 1)) + 1 by omega]; simp only [siN, if_neg c1, if_neg nc1, if_pos c3, if_neg c6]; try rfl) dX5_signsIn_34 hlocks
          · skip
            refine lv_iload_n hx hb dX5_signsIn_29 rfl (lv_at hl 1 rfl) ?_
            refine lv_goto (tgt := 34) hx hb dX5_signsIn_30 (by decide) ?_
            exact s_iret (v := nI i) hx hb hr hI (by rw [hg, show 8 - i = (8 - (i + 1)) + 1 by omega]; simp only [siN, if_neg c1, if_neg nc1, if_pos c3, if_pos c6]; try rfl) dX5_signsIn_34 hlocks
  exact L2 9 0 (by omega) (by omega) rfl _ _ _ hI (lv_sub hl [0, 1] rfl)
