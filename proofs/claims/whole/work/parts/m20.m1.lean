set_option maxHeartbeats 4000000 in
set_option maxRecDepth 100000 in
theorem k_X6_in (l : Launch) (v lo hi : Int32) : Met l yX6_in wsX6_in ({ frames := 0, cells := 0, slots := 0, locals := 0 }) (sPre [.int v, .int lo, .int hi]) (sQi (fun r => (inB v lo hi = true ∧ r = 1) ∨ (inB v lo hi = false ∧ r = 0))) 0 0 (fun _ => False) := by
  refine Met.ofW (cc := cX6_in) (maxL := 3) (ret := (some .boolean)) (by decide) rfl ?_
  intro p e s m args below meth c s₁ B hml hv
  obtain ⟨rfl, _⟩ := hv
  have hx := B.exec
  have hb := B.bytes
  have hr := B.returns
  have hts := atoms_spec (ws := wsX6_in) B.pre
  have hown : s.vm.findClass RX6 = some m.cls := findClass_of_methodNamed B.named
  have hlocks := B.notSynchronized
  have hI : va_S (fun _ => False) s.heap s.heap [] := va_S.rf
  have hl := lv_entry ([.int v, .int lo, .int hi]) (n := 3) (Nat.le_of_ble_eq_true rfl)
  rw [lg_entry_eq]
  generalize (lg_sl ([.int v, .int lo, .int hi]) ++ List.replicate (3 - (lg_sl ([.int v, .int lo, .int hi])).length) Slot.unset).toArray = ls at hl ⊢
  have hl : lv_has ls 3 [(0, .int v), (1, .int lo), (2, .int hi)] := hl
  refine lv_iload_n hx hb dX6_in_0 rfl (lv_at hl 0 rfl) ?_
  refine lv_iload_n hx hb dX6_in_1 rfl (lv_at hl 1 rfl) ?_
  refine lv_icmp_lt (tgt := 14) hx hb dX6_in_2 (by decide) (fun c1 => ?_) (fun c1 => ?_)
  · skip
    refine lv_iconst (v := 0) hx hb dX6_in_14 (by decide) ?_
    exact s_zret (v := 0) hx hb hr (by first | rfl | decide) hI (by simp [inB, c1]) dX6_in_15 hlocks
  · skip
    refine lv_iload_n hx hb dX6_in_5 rfl (lv_at hl 0 rfl) ?_
    refine lv_iload_n hx hb dX6_in_6 rfl (lv_at hl 2 rfl) ?_
    refine lv_icmp_gt (tgt := 14) hx hb dX6_in_7 (by decide) (fun c2 => ?_) (fun c2 => ?_)
    · skip
      refine lv_iconst (v := 0) hx hb dX6_in_14 (by decide) ?_
      exact s_zret (v := 0) hx hb hr (by first | rfl | decide) hI (by simp [inB, c1, c2]) dX6_in_15 hlocks
    · skip
      refine lv_iconst (v := 1) hx hb dX6_in_10 (by decide) ?_
      refine lv_goto (tgt := 15) hx hb dX6_in_11 (by decide) ?_
      exact s_zret (v := 1) hx hb hr (by first | rfl | decide) hI (by simp [inB, c1, c2]) dX6_in_15 hlocks

set_option maxHeartbeats 4000000 in
set_option maxRecDepth 100000 in
theorem k_X6_size (l : Launch) (v : Int32) : Met l yX6_size wsX6_size ({ frames := 0, cells := 0, slots := 0, locals := 0 }) (sPre [.int v]) (sQi (fun r => r = jabs v)) 0 0 (fun _ => False) := by
  refine Met.ofW (cc := cX6_size) (maxL := 1) (ret := (some .int)) (by decide) rfl ?_
  intro p e s m args below meth c s₁ B hml hv
  obtain ⟨rfl, _⟩ := hv
  have hx := B.exec
  have hb := B.bytes
  have hr := B.returns
  have hts := atoms_spec (ws := wsX6_size) B.pre
  have hown : s.vm.findClass RX6 = some m.cls := findClass_of_methodNamed B.named
  have hlocks := B.notSynchronized
  have hI : va_S (fun _ => False) s.heap s.heap [] := va_S.rf
  have hl := lv_entry ([.int v]) (n := 1) (Nat.le_of_ble_eq_true rfl)
  rw [lg_entry_eq]
  generalize (lg_sl ([.int v]) ++ List.replicate (1 - (lg_sl ([.int v])).length) Slot.unset).toArray = ls at hl ⊢
  have hl : lv_has ls 1 [(0, .int v)] := hl
  refine lv_iload_n hx hb dX6_size_0 rfl (lv_at hl 0 rfl) ?_
  refine lv_if_ge (tgt := 9) hx hb dX6_size_1 (by decide) (fun c1 => ?_) (fun c1 => ?_)
  · skip
    refine lv_iload_n hx hb dX6_size_9 rfl (lv_at hl 0 rfl) ?_
    exact s_iret (v := v) hx hb hr hI ((if_pos c1).symm) dX6_size_10 hlocks
  · skip
    refine lv_iload_n hx hb dX6_size_4 rfl (lv_at hl 0 rfl) ?_
    refine lv_ineg hx hb dX6_size_5 ?_
    refine lv_goto (tgt := 10) hx hb dX6_size_6 (by decide) ?_
    exact s_iret (v := -v) hx hb hr hI ((if_neg c1).symm) dX6_size_10 hlocks

set_option maxHeartbeats 4000000 in
set_option maxRecDepth 100000 in
theorem k_X6_at (l : Launch) (i j : Nat) : Met l yX6_at wsX6_at ({ frames := 0, cells := 0, slots := 0, locals := 0 }) (sPre [.int (nI i), .int (nI j)]) (sQi (fun r => r = nI (12 + 8 * i + j))) 0 0 (fun _ => False) := by
  refine Met.ofW (cc := cX6_at) (maxL := 2) (ret := (some .int)) (by decide) rfl ?_
  intro p e s m args below meth c s₁ B hml hv
  obtain ⟨rfl, _⟩ := hv
  have hx := B.exec
  have hb := B.bytes
  have hr := B.returns
  have hts := atoms_spec (ws := wsX6_at) B.pre
  have hown : s.vm.findClass RX6 = some m.cls := findClass_of_methodNamed B.named
  have hlocks := B.notSynchronized
  have hI : va_S (fun _ => False) s.heap s.heap [] := va_S.rf
  have hl := lv_entry ([.int (nI i), .int (nI j)]) (n := 2) (Nat.le_of_ble_eq_true rfl)
  rw [lg_entry_eq]
  generalize (lg_sl ([.int (nI i), .int (nI j)]) ++ List.replicate (2 - (lg_sl ([.int (nI i), .int (nI j)])).length) Slot.unset).toArray = ls at hl ⊢
  have hl : lv_has ls 2 [(0, .int (nI i)), (1, .int (nI j))] := hl
  refine lv_bipush (v := 12) hx hb dX6_at_0 (by decide) ?_
  refine lv_bipush (v := 8) hx hb dX6_at_2 (by decide) ?_
  refine lv_iload_n hx hb dX6_at_4 rfl (lv_at hl 0 rfl) ?_
  refine lv_imul hx hb dX6_at_5 ?_
  refine lv_re (y := nI (8 * i)) (pk_mul (8) (i)) ?_
  refine lv_iadd hx hb dX6_at_6 ?_
  refine lv_re (y := nI (12 + (8 * i))) (nI_add (12) (8 * i)) ?_
  refine lv_iload_n hx hb dX6_at_7 rfl (lv_at hl 1 rfl) ?_
  refine lv_iadd hx hb dX6_at_8 ?_
  refine lv_re (y := nI (12 + (8 * i) + j)) (nI_add (12 + (8 * i)) (j)) ?_
  exact s_iret (v := nI (12 + (8 * i) + j)) hx hb hr hI (rfl) dX6_at_9 hlocks

set_option maxHeartbeats 4000000 in
set_option maxRecDepth 100000 in
theorem k_X6_many (l : Launch) (x : Int32) : Met l yX6_many wsX6_many ({ frames := 0, cells := 0, slots := 0, locals := 0 }) (sPre [.int x]) (sQi (fun r => r = manyN x 16)) 0 0 (fun _ => False) := by
  refine Met.ofW (cc := cX6_many) (maxL := 3) (ret := (some .int)) (by decide) rfl ?_
  intro p e s m args below meth c s₁ B hml hv
  obtain ⟨rfl, _⟩ := hv
  have hx := B.exec
  have hb := B.bytes
  have hr := B.returns
  have hts := atoms_spec (ws := wsX6_many) B.pre
  have hown : s.vm.findClass RX6 = some m.cls := findClass_of_methodNamed B.named
  have hlocks := B.notSynchronized
  have hI : va_S (fun _ => False) s.heap s.heap [] := va_S.rf
  have hl := lv_entry ([.int x]) (n := 3) (Nat.le_of_ble_eq_true rfl)
  rw [lg_entry_eq]
  generalize (lg_sl ([.int x]) ++ List.replicate (3 - (lg_sl ([.int x])).length) Slot.unset).toArray = ls at hl ⊢
  have hl : lv_has ls 3 [(0, .int x)] := hl
  refine lv_iconst (v := 0) hx hb dX6_many_0 (by decide) ?_
  refine lv_istore_n (lv' := [(1, .int 0), (0, .int x)]) hx hb dX6_many_1 rfl hl (by decide) rfl (fun ls hl => ?_)
  refine lv_iconst (v := 0) hx hb dX6_many_2 (by decide) ?_
  refine lv_istore_n (lv' := [(2, .int 0), (1, .int 0), (0, .int x)]) hx hb dX6_many_3 rfl hl (by decide) rfl (fun ls hl => ?_)
  have L4 : ∀ (fuel : Nat) (k : Nat) (h1 : k ≤ 16) (h2 : 16 < fuel + k) (H : Heap) (locs : List Loc) (ls : Array Slot), va_S (fun _ => False) s.heap H locs → lv_has ls 3 [(2, .int (nI k)), (1, .int (manyN x k)), (0, .int x)] → wk p l e wsX6_many { frames := 0, cells := 0, slots := 0, locals := 0 } s m [.int x] below meth c H locs (sQi (fun r => r = manyN x 16)) (fun _ => False) (F0 m 4 ls []) := by
    intro fuel
    induction fuel with
    | zero =>
      intro k h1 h2 H locs ls hI hl
      exact absurd h2 (by omega)
    | succ fuel ih =>
      intro k h1 h2 H locs ls hI hl
      refine lv_iload_n hx hb dX6_many_4 rfl (lv_at hl 0 rfl) ?_
      refine lv_bipush (v := 16) hx hb dX6_many_5 (by decide) ?_
      refine lv_icmp_ge (tgt := 24) hx hb dX6_many_7 (by decide) (fun c1 => ?_) (fun c1 => ?_)
      · skip
        have nc1 : 16 ≤ k := (nI_leI (a := 16) (b := k) (by omega) (by omega)).mp c1
        refine lv_iload_n hx hb dX6_many_24 rfl (lv_at hl 1 rfl) ?_
        exact s_iret (v := manyN x k) hx hb hr hI (by rw [show k = 16 by omega]) dX6_many_25 hlocks
      · skip
        have nc1 : ¬ (16 ≤ k) := fun h => c1 ((nI_leI (a := 16) (b := k) (by omega) (by omega)).mpr h)
        refine lv_iload_n hx hb dX6_many_10 rfl (lv_at hl 1 rfl) ?_
        refine lv_iload_n hx hb dX6_many_11 rfl (lv_at hl 2 rfl) ?_
        refine lv_iload_n hx hb dX6_many_12 rfl (lv_at hl 0 rfl) ?_
        refine lv_ishr hx hb dX6_many_13 ?_
        refine lv_iconst (v := 1) hx hb dX6_many_14 (by decide) ?_
        refine lv_iand hx hb dX6_many_15 ?_
        refine lv_iadd hx hb dX6_many_16 ?_
        refine lv_istore_n (lv' := [(1, .int ((manyN x k) + ((x >>> ((nI k) &&& 31)) &&& 1))), (2, .int (nI k)), (0, .int x)]) hx hb dX6_many_17 rfl hl (by decide) rfl (fun ls hl => ?_)
        refine lv_iinc (v := nI (k + 1)) (lv' := [(2, .int (nI (k + 1))), (1, .int ((manyN x k) + ((x >>> ((nI k) &&& 31)) &&& 1))), (0, .int x)]) hx hb dX6_many_18 hl (k := 1) rfl (by rw [show Int32.ofInt 1 = nI 1 from rfl, nI_add]) (by decide) rfl (fun ls hl => ?_)
        refine lv_goto (tgt := 4) hx hb dX6_many_21 (by decide) ?_
        exact ih (k + 1) (by omega) (by omega) _ _ _ hI (lv_sub hl [0, 1, 2] rfl)
  exact L4 17 0 (by omega) (by omega) _ _ _ hI (lv_sub hl [0, 1, 2] rfl)

set_option maxHeartbeats 4000000 in
set_option maxRecDepth 100000 in
theorem k_X6_isClock (l : Launch) (dd : va_G) (g : Nat → ClassId) (q : Nat → Nat) (A : Nat → Prop) (hA : mA A q) (M : MS) (x : Int32) (hW : Wk (M 0)) : Met l yX6_isClock wsX6_isClock ({ frames := 1, cells := 0, slots := 0, locals := 22 }) (mPre dd g q M [.ref (q 0), .int x]) (mQi dd g q A (fun r M' => (((∃ i, isC (M 0) x i) ∧ r = 1) ∨ ((¬ ∃ i, isC (M 0) x i) ∧ r = 0)) ∧ M' = M)) 0 0 A := by
  refine Met.ofW (cc := cX6_isClock) (maxL := 2) (ret := (some .boolean)) (by decide) rfl ?_
  intro p e s m args below meth c s₁ B hml hv
  obtain ⟨rfl, hP0, hK⟩ := hv
  have hx := B.exec
  have hb := B.bytes
  have hr := B.returns
  have hts := atoms_spec (ws := wsX6_isClock) B.pre
  have hown : s.vm.findClass RX6 = some m.cls := findClass_of_methodNamed B.named
  have hlocks := B.notSynchronized
  have hin : ∀ w ∈ wsX60, w ∈ wsX6_isClock := by decide +kernel
  have hI : mI dd g q A s.heap s.heap [] M := ⟨hP0, va_S.rf⟩
  have hl := lv_entry ([.ref (q 0), .int x]) (n := 2) (Nat.le_of_ble_eq_true rfl)
  rw [lg_entry_eq]
  generalize (lg_sl ([.ref (q 0), .int x]) ++ List.replicate (2 - (lg_sl ([.ref (q 0), .int x])).length) Slot.unset).toArray = ls at hl ⊢
  have hl : lv_has ls 2 [(0, .ref (q 0)), (1, .int x)] := hl
  have hc16 := hW.2.1
  have hl4 := hW.2.2.2
  refine lv_iload_n hx hb dX6_isClock_0 rfl (lv_at hl 1 rfl) ?_
  refine lv_iconst (v := 0) hx hb dX6_isClock_1 (by decide) ?_
  refine lv_aload_n hx hb dX6_isClock_2 rfl (lv_at hl 0 rfl) ?_
  refine m_get hx hb hts hin hown hK hI 0 (by decide) (hts (.fieldLink RX6 7 "WinderLaddersModel" "s" "[I") (by decide +kernel)) (v := .ref (q 1)) rfl dX6_isClock_3 ?_
  refine lv_iconst (v := 5) hx hb dX6_isClock_6 (by decide) ?_
  refine m_ald hx hb hK hI 0 (by decide) (5) (by show _ < 140; omega) rfl (v := M 0 5) rfl dX6_isClock_7 ?_
  refine lv_iconst (v := 1) hx hb dX6_isClock_8 (by decide) ?_
  refine lv_isub hx hb dX6_isClock_9 ?_
  refine m_calls (As := [.int x, .int 0, .int ((M 0 5) - 1)]) (rest := []) hx hb hml hown hts hI (k_X6_in l x 0 ((M 0 5) - 1)) (va_cwS 3 hts gX6_isClock_X6_in rfl rfl rfl (by decide +kernel) ⟨Nat.le_of_ble_eq_true rfl, Nat.le_of_ble_eq_true rfl⟩) rfl hl (Nat.le_of_ble_eq_true rfl) ⟨Nat.zero_le _, Nat.zero_le _⟩ dX6_isClock_10 rfl (fun r H locs h2 hI => ?_)
  rcases h2 with ⟨b1, rfl⟩ | ⟨b1, rfl⟩
  · skip
    exact m_zret (v := 1) hx hb hr (by first | rfl | decide) hI (⟨Or.inl ⟨(isC_iff hW x).mp b1, rfl⟩, rfl⟩) dX6_isClock_13 hlocks
  · skip
    exact m_zret (v := 0) hx hb hr (by first | rfl | decide) hI (⟨Or.inr ⟨fun h => absurd ((isC_iff hW x).mpr h) (by rw [b1]; decide), rfl⟩, rfl⟩) dX6_isClock_13 hlocks

set_option maxHeartbeats 4000000 in
set_option maxRecDepth 100000 in
theorem k_X6_rate (l : Launch) (dd : va_G) (g : Nat → ClassId) (q : Nat → Nat) (A : Nat → Prop) (hA : mA A q) (M : MS) (c0 : Nat) (hc : c0 < 16) : Met l yX6_rate wsX6_rate ({ frames := 1, cells := 0, slots := 0, locals := 21 }) (mPre dd g q M [.ref (q 0), .int (nI c0)]) (mQi dd g q A (fun r M' => r = rt (M 0) c0 ∧ M' = M)) 0 0 A := by
  refine Met.ofW (cc := cX6_rate) (maxL := 2) (ret := (some .int)) (by decide) rfl ?_
  intro p e s m args below meth c s₁ B hml hv
  obtain ⟨rfl, hP0, hK⟩ := hv
  have hx := B.exec
  have hb := B.bytes
  have hr := B.returns
  have hts := atoms_spec (ws := wsX6_rate) B.pre
  have hown : s.vm.findClass RX6 = some m.cls := findClass_of_methodNamed B.named
  have hlocks := B.notSynchronized
  have hin : ∀ w ∈ wsX60, w ∈ wsX6_rate := by decide +kernel
  have hI : mI dd g q A s.heap s.heap [] M := ⟨hP0, va_S.rf⟩
  have hl := lv_entry ([.ref (q 0), .int (nI c0)]) (n := 2) (Nat.le_of_ble_eq_true rfl)
  rw [lg_entry_eq]
  generalize (lg_sl ([.ref (q 0), .int (nI c0)]) ++ List.replicate (2 - (lg_sl ([.ref (q 0), .int (nI c0)])).length) Slot.unset).toArray = ls at hl ⊢
  have hl : lv_has ls 2 [(0, .ref (q 0)), (1, .int (nI c0))] := hl
  refine lv_aload_n hx hb dX6_rate_0 rfl (lv_at hl 0 rfl) ?_
  refine m_get hx hb hts hin hown hK hI 0 (by decide) (hts (.fieldLink RX6 7 "WinderLaddersModel" "s" "[I") (by decide +kernel)) (v := .ref (q 1)) rfl dX6_rate_1 ?_
  refine lv_iload_n hx hb dX6_rate_4 rfl (lv_at hl 1 rfl) ?_
  refine lv_iconst (v := 2) hx hb dX6_rate_5 (by decide) ?_
  refine m_calls (As := [.int (nI c0), .int 2]) (rest := [.ref (q 1)]) hx hb hml hown hts hI (k_X6_at l (c0) (2)) (va_cwS 2 hts gX6_rate_X6_at rfl rfl rfl (by decide +kernel) ⟨Nat.le_of_ble_eq_true rfl, Nat.le_of_ble_eq_true rfl⟩) rfl hl (Nat.le_of_ble_eq_true rfl) ⟨Nat.zero_le _, Nat.zero_le _⟩ dX6_rate_6 rfl (fun r H locs h1 hI => ?_)
  subst h1
  refine m_ald hx hb hK hI 0 (by decide) (12 + 8 * c0 + 2) (by show _ < 140; omega) rfl (v := M 0 (12 + 8 * c0 + 2)) rfl dX6_rate_9 ?_
  refine lv_iconst (v := 3) hx hb dX6_rate_10 (by decide) ?_
  refine lv_aload_n hx hb dX6_rate_11 rfl (lv_at hl 0 rfl) ?_
  refine m_get hx hb hts hin hown hK hI 0 (by decide) (hts (.fieldLink RX6 7 "WinderLaddersModel" "s" "[I") (by decide +kernel)) (v := .ref (q 1)) rfl dX6_rate_12 ?_
  refine lv_iload_n hx hb dX6_rate_15 rfl (lv_at hl 1 rfl) ?_
  refine lv_iconst (v := 3) hx hb dX6_rate_16 (by decide) ?_
  refine m_calls (As := [.int (nI c0), .int 3]) (rest := [.ref (q 1), .int 3, .int (M 0 (12 + 8 * c0 + 2))]) hx hb hml hown hts hI (k_X6_at l (c0) (3)) (va_cwS 2 hts gX6_rate_X6_at rfl rfl rfl (by decide +kernel) ⟨Nat.le_of_ble_eq_true rfl, Nat.le_of_ble_eq_true rfl⟩) rfl hl (Nat.le_of_ble_eq_true rfl) ⟨Nat.zero_le _, Nat.zero_le _⟩ dX6_rate_17 rfl (fun r H locs h2 hI => ?_)
  subst h2
  refine m_ald hx hb hK hI 0 (by decide) (12 + 8 * c0 + 3) (by show _ < 140; omega) rfl (v := M 0 (12 + 8 * c0 + 3)) rfl dX6_rate_20 ?_
  refine lv_imul hx hb dX6_rate_21 ?_
  refine lv_iadd hx hb dX6_rate_22 ?_
  exact m_iret (v := (M 0 (12 + 8 * c0 + 2)) + (3 * (M 0 (12 + 8 * c0 + 3)))) hx hb hr hI (⟨rfl, rfl⟩) dX6_rate_23 hlocks

set_option maxHeartbeats 4000000 in
set_option maxRecDepth 100000 in
theorem k_X6_isOff (l : Launch) (dd : va_G) (g : Nat → ClassId) (q : Nat → Nat) (A : Nat → Prop) (hA : mA A q) (M : MS) (c0 : Nat) (hc : c0 < 16) : Met l yX6_isOff wsX6_isOff ({ frames := 1, cells := 0, slots := 0, locals := 21 }) (mPre dd g q M [.ref (q 0), .int (nI c0)]) (mQi dd g q A (fun r M' => ((offB (M 0) c0 (M 0 0) = true ∧ r = 1) ∨ (offB (M 0) c0 (M 0 0) = false ∧ r = 0)) ∧ M' = M)) 0 0 A := by
  refine Met.ofW (cc := cX6_isOff) (maxL := 2) (ret := (some .boolean)) (by decide) rfl ?_
  intro p e s m args below meth c s₁ B hml hv
  obtain ⟨rfl, hP0, hK⟩ := hv
  have hx := B.exec
  have hb := B.bytes
  have hr := B.returns
  have hts := atoms_spec (ws := wsX6_isOff) B.pre
  have hown : s.vm.findClass RX6 = some m.cls := findClass_of_methodNamed B.named
  have hlocks := B.notSynchronized
  have hin : ∀ w ∈ wsX60, w ∈ wsX6_isOff := by decide +kernel
  have hI : mI dd g q A s.heap s.heap [] M := ⟨hP0, va_S.rf⟩
  have hl := lv_entry ([.ref (q 0), .int (nI c0)]) (n := 2) (Nat.le_of_ble_eq_true rfl)
  rw [lg_entry_eq]
  generalize (lg_sl ([.ref (q 0), .int (nI c0)]) ++ List.replicate (2 - (lg_sl ([.ref (q 0), .int (nI c0)])).length) Slot.unset).toArray = ls at hl ⊢
  have hl : lv_has ls 2 [(0, .ref (q 0)), (1, .int (nI c0))] := hl
  refine lv_aload_n hx hb dX6_isOff_0 rfl (lv_at hl 0 rfl) ?_
  refine m_get hx hb hts hin hown hK hI 0 (by decide) (hts (.fieldLink RX6 7 "WinderLaddersModel" "s" "[I") (by decide +kernel)) (v := .ref (q 1)) rfl dX6_isOff_1 ?_
  refine lv_iload_n hx hb dX6_isOff_4 rfl (lv_at hl 1 rfl) ?_
  refine lv_iconst (v := 4) hx hb dX6_isOff_5 (by decide) ?_
  refine m_calls (As := [.int (nI c0), .int 4]) (rest := [.ref (q 1)]) hx hb hml hown hts hI (k_X6_at l (c0) (4)) (va_cwS 2 hts gX6_isOff_X6_at rfl rfl rfl (by decide +kernel) ⟨Nat.le_of_ble_eq_true rfl, Nat.le_of_ble_eq_true rfl⟩) rfl hl (Nat.le_of_ble_eq_true rfl) ⟨Nat.zero_le _, Nat.zero_le _⟩ dX6_isOff_6 rfl (fun r H locs h1 hI => ?_)
  subst h1
  refine m_ald hx hb hK hI 0 (by decide) (12 + 8 * c0 + 4) (by show _ < 140; omega) rfl (v := M 0 (12 + 8 * c0 + 4)) rfl dX6_isOff_9 ?_
  refine m_calls (As := [.int (M 0 (12 + 8 * c0 + 4))]) (rest := []) hx hb hml hown hts hI (k_X6_size l (M 0 (12 + 8 * c0 + 4))) (va_cwS 1 hts gX6_isOff_X6_size rfl rfl rfl (by decide +kernel) ⟨Nat.le_of_ble_eq_true rfl, Nat.le_of_ble_eq_true rfl⟩) rfl hl (Nat.le_of_ble_eq_true rfl) ⟨Nat.zero_le _, Nat.zero_le _⟩ dX6_isOff_10 rfl (fun r H locs h2 hI => ?_)
  subst h2
  refine lv_aload_n hx hb dX6_isOff_13 rfl (lv_at hl 0 rfl) ?_
  refine m_get hx hb hts hin hown hK hI 0 (by decide) (hts (.fieldLink RX6 7 "WinderLaddersModel" "s" "[I") (by decide +kernel)) (v := .ref (q 1)) rfl dX6_isOff_14 ?_
  refine lv_iconst (v := 0) hx hb dX6_isOff_17 (by decide) ?_
  refine m_ald hx hb hK hI 0 (by decide) (0) (by show _ < 140; omega) rfl (v := M 0 0) rfl dX6_isOff_18 ?_
  refine lv_icmp_le (tgt := 26) hx hb dX6_isOff_19 (by decide) (fun c3 => ?_) (fun c3 => ?_)
  · skip
    refine lv_iconst (v := 0) hx hb dX6_isOff_26 (by decide) ?_
    exact m_zret (v := 0) hx hb hr (by first | rfl | decide) hI (⟨by simp [offB, c3], rfl⟩) dX6_isOff_27 hlocks
  · skip
    refine lv_iconst (v := 1) hx hb dX6_isOff_22 (by decide) ?_
    refine lv_goto (tgt := 27) hx hb dX6_isOff_23 (by decide) ?_
    exact m_zret (v := 1) hx hb hr (by first | rfl | decide) hI (⟨by simp [offB, c3], rfl⟩) dX6_isOff_27 hlocks

set_option maxHeartbeats 4000000 in
set_option maxRecDepth 100000 in
theorem k_X6_ladderOf (l : Launch) (dd : va_G) (g : Nat → ClassId) (q : Nat → Nat) (A : Nat → Prop) (hA : mA A q) (M : MS) (c0 : Nat) (hc : c0 < 16) (hW : Wk (M 0)) : Met l yX6_ladderOf wsX6_ladderOf ({ frames := 1, cells := 0, slots := 0, locals := 21 }) (mPre dd g q M [.ref (q 0), .int (nI c0)]) (mQi dd g q A (fun r M' => r = o2i (ladF (M 0) c0) ∧ M' = M)) 0 0 A := by
  refine Met.ofW (cc := cX6_ladderOf) (maxL := 5) (ret := (some .int)) (by decide) rfl ?_
  intro p e s m args below meth c s₁ B hml hv
  obtain ⟨rfl, hP0, hK⟩ := hv
  have hx := B.exec
  have hb := B.bytes
  have hr := B.returns
  have hts := atoms_spec (ws := wsX6_ladderOf) B.pre
  have hown : s.vm.findClass RX6 = some m.cls := findClass_of_methodNamed B.named
  have hlocks := B.notSynchronized
  have hin : ∀ w ∈ wsX60, w ∈ wsX6_ladderOf := by decide +kernel
  have hI : mI dd g q A s.heap s.heap [] M := ⟨hP0, va_S.rf⟩
  have hl := lv_entry ([.ref (q 0), .int (nI c0)]) (n := 5) (Nat.le_of_ble_eq_true rfl)
  rw [lg_entry_eq]
  generalize (lg_sl ([.ref (q 0), .int (nI c0)]) ++ List.replicate (5 - (lg_sl ([.ref (q 0), .int (nI c0)])).length) Slot.unset).toArray = ls at hl ⊢
  have hl : lv_has ls 5 [(0, .ref (q 0)), (1, .int (nI c0))] := hl
  have hc16 := hW.2.1
  have hl4 := hW.2.2.2
  refine lv_bipush (v := (-6)) hx hb dX6_ladderOf_0 (by decide) ?_
  refine lv_istore_n (lv' := [(2, .int ((-6))), (0, .ref (q 0)), (1, .int (nI c0))]) hx hb dX6_ladderOf_2 rfl hl (by decide) rfl (fun ls hl => ?_)
  refine lv_iconst (v := 0) hx hb dX6_ladderOf_3 (by decide) ?_
  refine lv_istore_n (lv' := [(3, .int 0), (2, .int ((-6))), (0, .ref (q 0)), (1, .int (nI c0))]) hx hb dX6_ladderOf_4 rfl hl (by decide) rfl (fun ls hl => ?_)
  have L5 : ∀ (fuel : Nat) (k : Nat) (o : Option Nat) (h1 : k ≤ ln (M 0)) (h2 : ln (M 0) < fuel + k) (ho : ladP (M 0) (M 0 (12 + 8 * c0 + 1)) k = o) (H : Heap) (locs : List Loc) (ls : Array Slot), mI dd g q A s.heap H locs M → lv_has ls 5 [(3, .int (nI k)), (2, .int (o2i o)), (0, .ref (q 0)), (1, .int (nI c0))] → wk p l e wsX6_ladderOf { frames := 1, cells := 0, slots := 0, locals := 21 } s m [.ref (q 0), .int (nI c0)] below meth c H locs (mQi dd g q A (fun r M' => r = o2i (ladF (M 0) c0) ∧ M' = M)) (A) (F0 m 5 ls []) := by
    intro fuel
    induction fuel with
    | zero =>
      intro k o h1 h2 ho H locs ls hI hl
      exact absurd h2 (by omega)
    | succ fuel ih =>
      intro k o h1 h2 ho H locs ls hI hl
      rcases o with _ | p1
      · have hl : lv_has ls 5 [(3, .int (nI k)), (2, .int ((-6))), (0, .ref (q 0)), (1, .int (nI c0))] := hl
        refine lv_iload_n hx hb dX6_ladderOf_5 rfl (lv_at hl 0 rfl) ?_
        refine lv_aload_n hx hb dX6_ladderOf_6 rfl (lv_at hl 2 rfl) ?_
        refine m_get hx hb hts hin hown hK hI 0 (by decide) (hts (.fieldLink RX6 7 "WinderLaddersModel" "s" "[I") (by decide +kernel)) (v := .ref (q 1)) rfl dX6_ladderOf_7 ?_
        refine lv_bipush (v := 6) hx hb dX6_ladderOf_10 (by decide) ?_
        refine m_ald hx hb hK hI 0 (by decide) (6) (by show _ < 140; omega) rfl (v := nI (ln (M 0))) hW.2.2.1 dX6_ladderOf_12 ?_
        refine lv_icmp_ge (tgt := 102) hx hb dX6_ladderOf_13 (by decide) (fun c1 => ?_) (fun c1 => ?_)
        · skip
          have nc1 : ln (M 0) ≤ k := (nI_leI (a := ln (M 0)) (b := k) (by omega) (by omega)).mp c1
          refine lv_iload_n hx hb dX6_ladderOf_102 rfl (lv_at hl 1 rfl) ?_
          exact m_iret (v := (-6)) hx hb hr hI (⟨by rw [show k = ln (M 0) by omega] at ho; simp only [ladF, ho]; rfl, rfl⟩) dX6_ladderOf_103 hlocks
        · skip
          have nc1 : ¬ (ln (M 0) ≤ k) := fun h => c1 ((nI_leI (a := ln (M 0)) (b := k) (by omega) (by omega)).mpr h)
          refine lv_aload_n hx hb dX6_ladderOf_16 rfl (lv_at hl 2 rfl) ?_
          refine m_get hx hb hts hin hown hK hI 0 (by decide) (hts (.fieldLink RX6 7 "WinderLaddersModel" "s" "[I") (by decide +kernel)) (v := .ref (q 1)) rfl dX6_ladderOf_17 ?_
          refine lv_iload_n hx hb dX6_ladderOf_20 rfl (lv_at hl 3 rfl) ?_
          refine lv_iconst (v := 1) hx hb dX6_ladderOf_21 (by decide) ?_
          refine m_calls (As := [.int (nI c0), .int 1]) (rest := [.ref (q 1)]) hx hb hml hown hts hI (k_X6_at l (c0) (1)) (va_cwS 2 hts gX6_ladderOf_X6_at rfl rfl rfl (by decide +kernel) ⟨Nat.le_of_ble_eq_true rfl, Nat.le_of_ble_eq_true rfl⟩) rfl hl (Nat.le_of_ble_eq_true rfl) ⟨Nat.zero_le _, Nat.zero_le _⟩ dX6_ladderOf_22 rfl (fun r H locs h2 hI => ?_)
          subst h2
          refine m_ald hx hb hK hI 0 (by decide) (12 + 8 * c0 + 1) (by show _ < 140; omega) rfl (v := M 0 (12 + 8 * c0 + 1)) rfl dX6_ladderOf_25 ?_
          refine lv_if_le (tgt := 55) hx hb dX6_ladderOf_26 (by decide) (fun c3 => ?_) (fun c3 => ?_)
          · skip
            refine lv_iconst (v := 0) hx hb dX6_ladderOf_55 (by decide) ?_
            refine lv_istore (lv' := [(4, .int 0), (3, .int (nI k)), (2, .int ((-6))), (0, .ref (q 0)), (1, .int (nI c0))]) hx hb dX6_ladderOf_56 hl (by decide) rfl (fun ls hl => ?_)
            refine lv_iload hx hb dX6_ladderOf_58 (lv_at hl 0 rfl) ?_
            refine lv_if_eq (tgt := 94) hx hb dX6_ladderOf_60 (by decide) (fun _ => ?_) (fun c4 => absurd (by decide) c4)
            refine lv_iload_n hx hb dX6_ladderOf_94 rfl (lv_at hl 2 rfl) ?_
            refine lv_istore_n (lv' := [(2, .int ((-6))), (4, .int 0), (3, .int (nI k)), (0, .ref (q 0)), (1, .int (nI c0))]) hx hb dX6_ladderOf_95 rfl hl (by decide) rfl (fun ls hl => ?_)
            refine lv_iinc (v := nI (k + 1)) (lv' := [(3, .int (nI (k + 1))), (2, .int ((-6))), (4, .int 0), (0, .ref (q 0)), (1, .int (nI c0))]) hx hb dX6_ladderOf_96 hl (k := 2) rfl (by rw [show Int32.ofInt 1 = nI 1 from rfl, nI_add]) (by decide) rfl (fun ls hl => ?_)
            refine lv_goto (tgt := 5) hx hb dX6_ladderOf_99 (by decide) ?_
            exact ih (k + 1) none (by omega) (by omega) (by simp [ladP, -Int32.not_le, -Int32.not_lt, ho, c1, nc1, c3]) _ _ _ hI (lv_sub hl [0, 1, 3, 4] rfl)
          · skip
            refine lv_aload_n hx hb dX6_ladderOf_29 rfl (lv_at hl 2 rfl) ?_
            refine m_get hx hb hts hin hown hK hI 0 (by decide) (hts (.fieldLink RX6 7 "WinderLaddersModel" "s" "[I") (by decide +kernel)) (v := .ref (q 1)) rfl dX6_ladderOf_30 ?_
            refine lv_bipush (v := 8) hx hb dX6_ladderOf_33 (by decide) ?_
            refine lv_iload_n hx hb dX6_ladderOf_35 rfl (lv_at hl 0 rfl) ?_
            refine lv_iadd hx hb dX6_ladderOf_36 ?_
            refine lv_re (y := nI (8 + k)) (nI_add (8) (k)) ?_
            refine m_ald hx hb hK hI 0 (by decide) (8 + k) (by show _ < 140; omega) rfl (v := M 0 (8 + k)) rfl dX6_ladderOf_37 ?_
            refine lv_aload_n hx hb dX6_ladderOf_38 rfl (lv_at hl 2 rfl) ?_
            refine m_get hx hb hts hin hown hK hI 0 (by decide) (hts (.fieldLink RX6 7 "WinderLaddersModel" "s" "[I") (by decide +kernel)) (v := .ref (q 1)) rfl dX6_ladderOf_39 ?_
            refine lv_iload_n hx hb dX6_ladderOf_42 rfl (lv_at hl 3 rfl) ?_
            refine lv_iconst (v := 1) hx hb dX6_ladderOf_43 (by decide) ?_
            refine m_calls (As := [.int (nI c0), .int 1]) (rest := [.ref (q 1), .int (M 0 (8 + k))]) hx hb hml hown hts hI (k_X6_at l (c0) (1)) (va_cwS 2 hts gX6_ladderOf_X6_at rfl rfl rfl (by decide +kernel) ⟨Nat.le_of_ble_eq_true rfl, Nat.le_of_ble_eq_true rfl⟩) rfl hl (Nat.le_of_ble_eq_true rfl) ⟨Nat.zero_le _, Nat.zero_le _⟩ dX6_ladderOf_44 rfl (fun r H locs h5 hI => ?_)
            subst h5
            refine m_ald hx hb hK hI 0 (by decide) (12 + 8 * c0 + 1) (by show _ < 140; omega) rfl (v := M 0 (12 + 8 * c0 + 1)) rfl dX6_ladderOf_47 ?_
            refine lv_icmp_lt (tgt := 55) hx hb dX6_ladderOf_48 (by decide) (fun c6 => ?_) (fun c6 => ?_)
            · skip
              refine lv_iconst (v := 0) hx hb dX6_ladderOf_55 (by decide) ?_
              refine lv_istore (lv' := [(4, .int 0), (3, .int (nI k)), (2, .int ((-6))), (0, .ref (q 0)), (1, .int (nI c0))]) hx hb dX6_ladderOf_56 hl (by decide) rfl (fun ls hl => ?_)
              refine lv_iload hx hb dX6_ladderOf_58 (lv_at hl 0 rfl) ?_
              refine lv_if_eq (tgt := 94) hx hb dX6_ladderOf_60 (by decide) (fun _ => ?_) (fun c7 => absurd (by decide) c7)
              refine lv_iload_n hx hb dX6_ladderOf_94 rfl (lv_at hl 2 rfl) ?_
              refine lv_istore_n (lv' := [(2, .int ((-6))), (4, .int 0), (3, .int (nI k)), (0, .ref (q 0)), (1, .int (nI c0))]) hx hb dX6_ladderOf_95 rfl hl (by decide) rfl (fun ls hl => ?_)
              refine lv_iinc (v := nI (k + 1)) (lv' := [(3, .int (nI (k + 1))), (2, .int ((-6))), (4, .int 0), (0, .ref (q 0)), (1, .int (nI c0))]) hx hb dX6_ladderOf_96 hl (k := 2) rfl (by rw [show Int32.ofInt 1 = nI 1 from rfl, nI_add]) (by decide) rfl (fun ls hl => ?_)
              refine lv_goto (tgt := 5) hx hb dX6_ladderOf_99 (by decide) ?_
              exact ih (k + 1) none (by omega) (by omega) (by simp [ladP, -Int32.not_le, -Int32.not_lt, ho, c1, nc1, c3, c6]) _ _ _ hI (lv_sub hl [0, 1, 3, 4] rfl)
            · skip
              refine lv_iconst (v := 1) hx hb dX6_ladderOf_51 (by decide) ?_
              refine lv_goto (tgt := 56) hx hb dX6_ladderOf_52 (by decide) ?_
              refine lv_istore (lv' := [(4, .int 1), (3, .int (nI k)), (2, .int ((-6))), (0, .ref (q 0)), (1, .int (nI c0))]) hx hb dX6_ladderOf_56 hl (by decide) rfl (fun ls hl => ?_)
              refine lv_iload hx hb dX6_ladderOf_58 (lv_at hl 0 rfl) ?_
              refine lv_if_eq (tgt := 94) hx hb dX6_ladderOf_60 (by decide) (fun c8 => absurd c8 (by decide)) (fun _ => ?_)
              refine lv_iload_n hx hb dX6_ladderOf_63 rfl (lv_at hl 2 rfl) ?_
              refine lv_bipush (v := (-6)) hx hb dX6_ladderOf_64 (by decide) ?_
              refine lv_icmp_eq (tgt := 90) hx hb dX6_ladderOf_66 (by decide) (fun _ => ?_) (fun c9 => absurd (by decide) c9)
              refine lv_iload_n hx hb dX6_ladderOf_90 rfl (lv_at hl 1 rfl) ?_
              refine lv_goto (tgt := 95) hx hb dX6_ladderOf_91 (by decide) ?_
              refine lv_istore_n (lv' := [(2, .int (nI k)), (4, .int 1), (3, .int (nI k)), (0, .ref (q 0)), (1, .int (nI c0))]) hx hb dX6_ladderOf_95 rfl hl (by decide) rfl (fun ls hl => ?_)
              refine lv_iinc (v := nI (k + 1)) (lv' := [(3, .int (nI (k + 1))), (2, .int (nI k)), (4, .int 1), (0, .ref (q 0)), (1, .int (nI c0))]) hx hb dX6_ladderOf_96 hl (k := 2) rfl (by rw [show Int32.ofInt 1 = nI 1 from rfl, nI_add]) (by decide) rfl (fun ls hl => ?_)
              refine lv_goto (tgt := 5) hx hb dX6_ladderOf_99 (by decide) ?_
              exact ih (k + 1) (some (k)) (by omega) (by omega) (by simp [ladP, -Int32.not_le, -Int32.not_lt, ho, c1, nc1, c3, c6]) _ _ _ hI (lv_sub hl [0, 1, 3, 4] rfl)
      · have hl : lv_has ls 5 [(3, .int (nI k)), (2, .int (nI p1)), (0, .ref (q 0)), (1, .int (nI c0))] := hl
        have hp1 := ladP_lt _ _ _ _ ho
        refine lv_iload_n hx hb dX6_ladderOf_5 rfl (lv_at hl 0 rfl) ?_
        refine lv_aload_n hx hb dX6_ladderOf_6 rfl (lv_at hl 2 rfl) ?_
        refine m_get hx hb hts hin hown hK hI 0 (by decide) (hts (.fieldLink RX6 7 "WinderLaddersModel" "s" "[I") (by decide +kernel)) (v := .ref (q 1)) rfl dX6_ladderOf_7 ?_
        refine lv_bipush (v := 6) hx hb dX6_ladderOf_10 (by decide) ?_
        refine m_ald hx hb hK hI 0 (by decide) (6) (by show _ < 140; omega) rfl (v := nI (ln (M 0))) hW.2.2.1 dX6_ladderOf_12 ?_
        refine lv_icmp_ge (tgt := 102) hx hb dX6_ladderOf_13 (by decide) (fun c10 => ?_) (fun c10 => ?_)
        · skip
          have nc10 : ln (M 0) ≤ k := (nI_leI (a := ln (M 0)) (b := k) (by omega) (by omega)).mp c10
          refine lv_iload_n hx hb dX6_ladderOf_102 rfl (lv_at hl 1 rfl) ?_
          exact m_iret (v := nI p1) hx hb hr hI (⟨by rw [show k = ln (M 0) by omega] at ho; simp only [ladF, ho]; rfl, rfl⟩) dX6_ladderOf_103 hlocks
        · skip
          have nc10 : ¬ (ln (M 0) ≤ k) := fun h => c10 ((nI_leI (a := ln (M 0)) (b := k) (by omega) (by omega)).mpr h)
          refine lv_aload_n hx hb dX6_ladderOf_16 rfl (lv_at hl 2 rfl) ?_
          refine m_get hx hb hts hin hown hK hI 0 (by decide) (hts (.fieldLink RX6 7 "WinderLaddersModel" "s" "[I") (by decide +kernel)) (v := .ref (q 1)) rfl dX6_ladderOf_17 ?_
          refine lv_iload_n hx hb dX6_ladderOf_20 rfl (lv_at hl 3 rfl) ?_
          refine lv_iconst (v := 1) hx hb dX6_ladderOf_21 (by decide) ?_
          refine m_calls (As := [.int (nI c0), .int 1]) (rest := [.ref (q 1)]) hx hb hml hown hts hI (k_X6_at l (c0) (1)) (va_cwS 2 hts gX6_ladderOf_X6_at rfl rfl rfl (by decide +kernel) ⟨Nat.le_of_ble_eq_true rfl, Nat.le_of_ble_eq_true rfl⟩) rfl hl (Nat.le_of_ble_eq_true rfl) ⟨Nat.zero_le _, Nat.zero_le _⟩ dX6_ladderOf_22 rfl (fun r H locs h11 hI => ?_)
          subst h11
          refine m_ald hx hb hK hI 0 (by decide) (12 + 8 * c0 + 1) (by show _ < 140; omega) rfl (v := M 0 (12 + 8 * c0 + 1)) rfl dX6_ladderOf_25 ?_
          refine lv_if_le (tgt := 55) hx hb dX6_ladderOf_26 (by decide) (fun c12 => ?_) (fun c12 => ?_)
          · skip
            refine lv_iconst (v := 0) hx hb dX6_ladderOf_55 (by decide) ?_
            refine lv_istore (lv' := [(4, .int 0), (3, .int (nI k)), (2, .int (nI p1)), (0, .ref (q 0)), (1, .int (nI c0))]) hx hb dX6_ladderOf_56 hl (by decide) rfl (fun ls hl => ?_)
            refine lv_iload hx hb dX6_ladderOf_58 (lv_at hl 0 rfl) ?_
            refine lv_if_eq (tgt := 94) hx hb dX6_ladderOf_60 (by decide) (fun _ => ?_) (fun c13 => absurd (by decide) c13)
            refine lv_iload_n hx hb dX6_ladderOf_94 rfl (lv_at hl 2 rfl) ?_
            refine lv_istore_n (lv' := [(2, .int (nI p1)), (4, .int 0), (3, .int (nI k)), (0, .ref (q 0)), (1, .int (nI c0))]) hx hb dX6_ladderOf_95 rfl hl (by decide) rfl (fun ls hl => ?_)
            refine lv_iinc (v := nI (k + 1)) (lv' := [(3, .int (nI (k + 1))), (2, .int (nI p1)), (4, .int 0), (0, .ref (q 0)), (1, .int (nI c0))]) hx hb dX6_ladderOf_96 hl (k := 2) rfl (by rw [show Int32.ofInt 1 = nI 1 from rfl, nI_add]) (by decide) rfl (fun ls hl => ?_)
            refine lv_goto (tgt := 5) hx hb dX6_ladderOf_99 (by decide) ?_
            exact ih (k + 1) (some (p1)) (by omega) (by omega) (by simp [ladP, -Int32.not_le, -Int32.not_lt, ho, c10, nc10, c12]) _ _ _ hI (lv_sub hl [0, 1, 3, 4] rfl)
          · skip
            refine lv_aload_n hx hb dX6_ladderOf_29 rfl (lv_at hl 2 rfl) ?_
            refine m_get hx hb hts hin hown hK hI 0 (by decide) (hts (.fieldLink RX6 7 "WinderLaddersModel" "s" "[I") (by decide +kernel)) (v := .ref (q 1)) rfl dX6_ladderOf_30 ?_
            refine lv_bipush (v := 8) hx hb dX6_ladderOf_33 (by decide) ?_
            refine lv_iload_n hx hb dX6_ladderOf_35 rfl (lv_at hl 0 rfl) ?_
            refine lv_iadd hx hb dX6_ladderOf_36 ?_
            refine lv_re (y := nI (8 + k)) (nI_add (8) (k)) ?_
            refine m_ald hx hb hK hI 0 (by decide) (8 + k) (by show _ < 140; omega) rfl (v := M 0 (8 + k)) rfl dX6_ladderOf_37 ?_
            refine lv_aload_n hx hb dX6_ladderOf_38 rfl (lv_at hl 2 rfl) ?_
            refine m_get hx hb hts hin hown hK hI 0 (by decide) (hts (.fieldLink RX6 7 "WinderLaddersModel" "s" "[I") (by decide +kernel)) (v := .ref (q 1)) rfl dX6_ladderOf_39 ?_
            refine lv_iload_n hx hb dX6_ladderOf_42 rfl (lv_at hl 3 rfl) ?_
            refine lv_iconst (v := 1) hx hb dX6_ladderOf_43 (by decide) ?_
            refine m_calls (As := [.int (nI c0), .int 1]) (rest := [.ref (q 1), .int (M 0 (8 + k))]) hx hb hml hown hts hI (k_X6_at l (c0) (1)) (va_cwS 2 hts gX6_ladderOf_X6_at rfl rfl rfl (by decide +kernel) ⟨Nat.le_of_ble_eq_true rfl, Nat.le_of_ble_eq_true rfl⟩) rfl hl (Nat.le_of_ble_eq_true rfl) ⟨Nat.zero_le _, Nat.zero_le _⟩ dX6_ladderOf_44 rfl (fun r H locs h14 hI => ?_)
            subst h14
            refine m_ald hx hb hK hI 0 (by decide) (12 + 8 * c0 + 1) (by show _ < 140; omega) rfl (v := M 0 (12 + 8 * c0 + 1)) rfl dX6_ladderOf_47 ?_
            refine lv_icmp_lt (tgt := 55) hx hb dX6_ladderOf_48 (by decide) (fun c15 => ?_) (fun c15 => ?_)
            · skip
              refine lv_iconst (v := 0) hx hb dX6_ladderOf_55 (by decide) ?_
              refine lv_istore (lv' := [(4, .int 0), (3, .int (nI k)), (2, .int (nI p1)), (0, .ref (q 0)), (1, .int (nI c0))]) hx hb dX6_ladderOf_56 hl (by decide) rfl (fun ls hl => ?_)
              refine lv_iload hx hb dX6_ladderOf_58 (lv_at hl 0 rfl) ?_
              refine lv_if_eq (tgt := 94) hx hb dX6_ladderOf_60 (by decide) (fun _ => ?_) (fun c16 => absurd (by decide) c16)
              refine lv_iload_n hx hb dX6_ladderOf_94 rfl (lv_at hl 2 rfl) ?_
              refine lv_istore_n (lv' := [(2, .int (nI p1)), (4, .int 0), (3, .int (nI k)), (0, .ref (q 0)), (1, .int (nI c0))]) hx hb dX6_ladderOf_95 rfl hl (by decide) rfl (fun ls hl => ?_)
              refine lv_iinc (v := nI (k + 1)) (lv' := [(3, .int (nI (k + 1))), (2, .int (nI p1)), (4, .int 0), (0, .ref (q 0)), (1, .int (nI c0))]) hx hb dX6_ladderOf_96 hl (k := 2) rfl (by rw [show Int32.ofInt 1 = nI 1 from rfl, nI_add]) (by decide) rfl (fun ls hl => ?_)
              refine lv_goto (tgt := 5) hx hb dX6_ladderOf_99 (by decide) ?_
              exact ih (k + 1) (some (p1)) (by omega) (by omega) (by simp [ladP, -Int32.not_le, -Int32.not_lt, ho, c10, nc10, c12, c15]) _ _ _ hI (lv_sub hl [0, 1, 3, 4] rfl)
            · skip
              refine lv_iconst (v := 1) hx hb dX6_ladderOf_51 (by decide) ?_
              refine lv_goto (tgt := 56) hx hb dX6_ladderOf_52 (by decide) ?_
              refine lv_istore (lv' := [(4, .int 1), (3, .int (nI k)), (2, .int (nI p1)), (0, .ref (q 0)), (1, .int (nI c0))]) hx hb dX6_ladderOf_56 hl (by decide) rfl (fun ls hl => ?_)
              refine lv_iload hx hb dX6_ladderOf_58 (lv_at hl 0 rfl) ?_
              refine lv_if_eq (tgt := 94) hx hb dX6_ladderOf_60 (by decide) (fun c17 => absurd c17 (by decide)) (fun _ => ?_)
              refine lv_iload_n hx hb dX6_ladderOf_63 rfl (lv_at hl 2 rfl) ?_
              refine lv_bipush (v := (-6)) hx hb dX6_ladderOf_64 (by decide) ?_
              refine lv_icmp_eq (tgt := 90) hx hb dX6_ladderOf_66 (by decide) (fun c18 => ?_) (fun c18 => ?_)
              · skip
                exact absurd c18 (nI_nm (by omega))
              · skip
                refine lv_aload_n hx hb dX6_ladderOf_69 rfl (lv_at hl 3 rfl) ?_
                refine m_get hx hb hts hin hown hK hI 0 (by decide) (hts (.fieldLink RX6 7 "WinderLaddersModel" "s" "[I") (by decide +kernel)) (v := .ref (q 1)) rfl dX6_ladderOf_70 ?_
                refine lv_bipush (v := 8) hx hb dX6_ladderOf_73 (by decide) ?_
                refine lv_iload_n hx hb dX6_ladderOf_75 rfl (lv_at hl 1 rfl) ?_
                refine lv_iadd hx hb dX6_ladderOf_76 ?_
                refine lv_re (y := nI (8 + k)) (nI_add (8) (k)) ?_
                refine m_ald hx hb hK hI 0 (by decide) (8 + k) (by show _ < 140; omega) rfl (v := M 0 (8 + k)) rfl dX6_ladderOf_77 ?_
                refine lv_aload_n hx hb dX6_ladderOf_78 rfl (lv_at hl 3 rfl) ?_
                refine m_get hx hb hts hin hown hK hI 0 (by decide) (hts (.fieldLink RX6 7 "WinderLaddersModel" "s" "[I") (by decide +kernel)) (v := .ref (q 1)) rfl dX6_ladderOf_79 ?_
                refine lv_bipush (v := 8) hx hb dX6_ladderOf_82 (by decide) ?_
                refine lv_iload_n hx hb dX6_ladderOf_84 rfl (lv_at hl 2 rfl) ?_
                refine lv_iadd hx hb dX6_ladderOf_85 ?_
                refine lv_re (y := nI (8 + p1)) (nI_add (8) (p1)) ?_
                refine m_ald hx hb hK hI 0 (by decide) (8 + p1) (by show _ < 140; omega) rfl (v := M 0 (8 + p1)) rfl dX6_ladderOf_86 ?_
                refine lv_icmp_ge (tgt := 94) hx hb dX6_ladderOf_87 (by decide) (fun c19 => ?_) (fun c19 => ?_)
                · skip
                  refine lv_iload_n hx hb dX6_ladderOf_94 rfl (lv_at hl 2 rfl) ?_
                  refine lv_istore_n (lv' := [(2, .int (nI p1)), (4, .int 1), (3, .int (nI k)), (0, .ref (q 0)), (1, .int (nI c0))]) hx hb dX6_ladderOf_95 rfl hl (by decide) rfl (fun ls hl => ?_)
                  refine lv_iinc (v := nI (k + 1)) (lv' := [(3, .int (nI (k + 1))), (2, .int (nI p1)), (4, .int 1), (0, .ref (q 0)), (1, .int (nI c0))]) hx hb dX6_ladderOf_96 hl (k := 2) rfl (by rw [show Int32.ofInt 1 = nI 1 from rfl, nI_add]) (by decide) rfl (fun ls hl => ?_)
                  refine lv_goto (tgt := 5) hx hb dX6_ladderOf_99 (by decide) ?_
                  exact ih (k + 1) (some (p1)) (by omega) (by omega) (by simp [ladP, -Int32.not_le, -Int32.not_lt, ho, c10, nc10, c12, c15, c18, c19]) _ _ _ hI (lv_sub hl [0, 1, 3, 4] rfl)
                · skip
                  refine lv_iload_n hx hb dX6_ladderOf_90 rfl (lv_at hl 1 rfl) ?_
                  refine lv_goto (tgt := 95) hx hb dX6_ladderOf_91 (by decide) ?_
                  refine lv_istore_n (lv' := [(2, .int (nI k)), (4, .int 1), (3, .int (nI k)), (0, .ref (q 0)), (1, .int (nI c0))]) hx hb dX6_ladderOf_95 rfl hl (by decide) rfl (fun ls hl => ?_)
                  refine lv_iinc (v := nI (k + 1)) (lv' := [(3, .int (nI (k + 1))), (2, .int (nI k)), (4, .int 1), (0, .ref (q 0)), (1, .int (nI c0))]) hx hb dX6_ladderOf_96 hl (k := 2) rfl (by rw [show Int32.ofInt 1 = nI 1 from rfl, nI_add]) (by decide) rfl (fun ls hl => ?_)
                  refine lv_goto (tgt := 5) hx hb dX6_ladderOf_99 (by decide) ?_
                  exact ih (k + 1) (some (k)) (by omega) (by omega) (by simp [ladP, -Int32.not_le, -Int32.not_lt, ho, c10, nc10, c12, c15, c18, c19]) _ _ _ hI (lv_sub hl [0, 1, 3, 4] rfl)
  exact L5 5 0 none (by omega) (by omega) rfl _ _ _ hI (lv_sub hl [0, 1, 2, 3] rfl)

set_option maxHeartbeats 4000000 in
set_option maxRecDepth 100000 in
theorem k_X6_canWind (l : Launch) (dd : va_G) (g : Nat → ClassId) (q : Nat → Nat) (A : Nat → Prop) (hA : mA A q) (M : MS) (c0 : Nat) (hc : c0 < 16) (hW : Wk (M 0)) : Met l yX6_canWind wsX6_canWind ({ frames := 2, cells := 0, slots := 0, locals := 45 }) (mPre dd g q M [.ref (q 0), .int (nI c0)]) (mQi dd g q A (fun r M' => ((canW (M 0) c0 = true ∧ r = 1) ∨ (canW (M 0) c0 = false ∧ r = 0)) ∧ M' = M)) 0 0 A := by
  refine Met.ofW (cc := cX6_canWind) (maxL := 2) (ret := (some .boolean)) (by decide) rfl ?_
  intro p e s m args below meth c s₁ B hml hv
  obtain ⟨rfl, hP0, hK⟩ := hv
  have hx := B.exec
  have hb := B.bytes
  have hr := B.returns
  have hts := atoms_spec (ws := wsX6_canWind) B.pre
  have hown : s.vm.findClass RX6 = some m.cls := findClass_of_methodNamed B.named
  have hlocks := B.notSynchronized
  have hin : ∀ w ∈ wsX60, w ∈ wsX6_canWind := by decide +kernel
  have hI : mI dd g q A s.heap s.heap [] M := ⟨hP0, va_S.rf⟩
  have hl := lv_entry ([.ref (q 0), .int (nI c0)]) (n := 2) (Nat.le_of_ble_eq_true rfl)
  rw [lg_entry_eq]
  generalize (lg_sl ([.ref (q 0), .int (nI c0)]) ++ List.replicate (2 - (lg_sl ([.ref (q 0), .int (nI c0)])).length) Slot.unset).toArray = ls at hl ⊢
  have hl : lv_has ls 2 [(0, .ref (q 0)), (1, .int (nI c0))] := hl
  have hc16 := hW.2.1
  have hl4 := hW.2.2.2
  have hlf := ladF_lt hW c0
  refine lv_aload_n hx hb dX6_canWind_0 rfl (lv_at hl 0 rfl) ?_
  refine m_get hx hb hts hin hown hK hI 0 (by decide) (hts (.fieldLink RX6 7 "WinderLaddersModel" "s" "[I") (by decide +kernel)) (v := .ref (q 1)) rfl dX6_canWind_1 ?_
  refine lv_iload_n hx hb dX6_canWind_4 rfl (lv_at hl 1 rfl) ?_
  refine lv_iconst (v := 1) hx hb dX6_canWind_5 (by decide) ?_
  refine m_calls (As := [.int (nI c0), .int 1]) (rest := [.ref (q 1)]) hx hb hml hown hts hI (k_X6_at l (c0) (1)) (va_cwS 2 hts gX6_canWind_X6_at rfl rfl rfl (by decide +kernel) ⟨Nat.le_of_ble_eq_true rfl, Nat.le_of_ble_eq_true rfl⟩) rfl hl (Nat.le_of_ble_eq_true rfl) ⟨Nat.zero_le _, Nat.zero_le _⟩ dX6_canWind_6 rfl (fun r H locs h1 hI => ?_)
  subst h1
  refine m_ald hx hb hK hI 0 (by decide) (12 + 8 * c0 + 1) (by show _ < 140; omega) rfl (v := M 0 (12 + 8 * c0 + 1)) rfl dX6_canWind_9 ?_
  refine lv_if_eq (tgt := 23) hx hb dX6_canWind_10 (by decide) (fun c2 => ?_) (fun c2 => ?_)
  · skip
    refine lv_iconst (v := 1) hx hb dX6_canWind_23 (by decide) ?_
    refine lv_goto (tgt := 28) hx hb dX6_canWind_24 (by decide) ?_
    exact m_zret (v := 1) hx hb hr (by first | rfl | decide) hI (⟨Or.inl ⟨canW_t.mpr (by first | exact Or.inl c2 | exact Or.inr ((o2i_ne hlf).mp c2)), rfl⟩, rfl⟩) dX6_canWind_28 hlocks
  · skip
    refine lv_aload_n hx hb dX6_canWind_13 rfl (lv_at hl 0 rfl) ?_
    refine lv_iload_n hx hb dX6_canWind_14 rfl (lv_at hl 1 rfl) ?_
    refine m_calli (As := [.int (nI c0)]) (rest := []) hx hb hml hown hts hK hI (k_X6_ladderOf l dd g q A hA M c0 (by omega) hW) (cwV 1 hts gX6_canWind_X6_ladderOf rfl rfl rfl (by decide +kernel) ⟨Nat.le_of_ble_eq_true rfl, Nat.le_of_ble_eq_true rfl⟩) rfl hl (Nat.le_of_ble_eq_true rfl) ⟨Nat.zero_le _, Nat.zero_le _⟩ dX6_canWind_15 rfl (fun r M1 H locs h3 hI => ?_)
    obtain ⟨hr9, hm9⟩ := h3
    rw [hm9] at hI
    subst hr9
    refine lv_bipush (v := (-6)) hx hb dX6_canWind_18 (by decide) ?_
    refine lv_icmp_eq (tgt := 27) hx hb dX6_canWind_20 (by decide) (fun c4 => ?_) (fun c4 => ?_)
    · skip
      refine lv_iconst (v := 0) hx hb dX6_canWind_27 (by decide) ?_
      exact m_zret (v := 0) hx hb hr (by first | rfl | decide) hI (⟨Or.inr ⟨canW_f.mpr (fun h => h.elim c2 (fun h => (o2i_ne hlf).mpr h c4)), rfl⟩, rfl⟩) dX6_canWind_28 hlocks
    · skip
      refine lv_iconst (v := 1) hx hb dX6_canWind_23 (by decide) ?_
      refine lv_goto (tgt := 28) hx hb dX6_canWind_24 (by decide) ?_
      exact m_zret (v := 1) hx hb hr (by first | rfl | decide) hI (⟨Or.inl ⟨canW_t.mpr (by first | exact Or.inl c2 | exact Or.inr ((o2i_ne hlf).mp c4)), rfl⟩, rfl⟩) dX6_canWind_28 hlocks

set_option maxHeartbeats 4000000 in
set_option maxRecDepth 100000 in
theorem k_X6_day (l : Launch) (dd : va_G) (g : Nat → ClassId) (q : Nat → Nat) (A : Nat → Prop) (hA : mA A q) (M : MS) (c0 : Nat) (hc : c0 < 16) : Met l yX6_day wsX6_day ({ frames := 2, cells := 0, slots := 0, locals := 42 }) (mPre dd g q M [.ref (q 0), .int (nI c0)]) (mQv dd g q A (fun M' => M' = ms0 M (dayM (M 0) c0))) 0 0 A := by
  refine Met.ofW (cc := cX6_day) (maxL := 2) (ret := none) (by decide) rfl ?_
  intro p e s m args below meth c s₁ B hml hv
  obtain ⟨rfl, hP0, hK⟩ := hv
  have hx := B.exec
  have hb := B.bytes
  have hr := B.returns
  have hts := atoms_spec (ws := wsX6_day) B.pre
  have hown : s.vm.findClass RX6 = some m.cls := findClass_of_methodNamed B.named
  have hlocks := B.notSynchronized
  have hin : ∀ w ∈ wsX60, w ∈ wsX6_day := by decide +kernel
  have hI : mI dd g q A s.heap s.heap [] M := ⟨hP0, va_S.rf⟩
  have hl := lv_entry ([.ref (q 0), .int (nI c0)]) (n := 2) (Nat.le_of_ble_eq_true rfl)
  rw [lg_entry_eq]
  generalize (lg_sl ([.ref (q 0), .int (nI c0)]) ++ List.replicate (2 - (lg_sl ([.ref (q 0), .int (nI c0)])).length) Slot.unset).toArray = ls at hl ⊢
  have hl : lv_has ls 2 [(0, .ref (q 0)), (1, .int (nI c0))] := hl
  refine lv_aload_n hx hb dX6_day_0 rfl (lv_at hl 0 rfl) ?_
  refine m_get hx hb hts hin hown hK hI 0 (by decide) (hts (.fieldLink RX6 7 "WinderLaddersModel" "s" "[I") (by decide +kernel)) (v := .ref (q 1)) rfl dX6_day_1 ?_
  refine lv_iload_n hx hb dX6_day_4 rfl (lv_at hl 1 rfl) ?_
  refine lv_iconst (v := 5) hx hb dX6_day_5 (by decide) ?_
  refine m_calls (As := [.int (nI c0), .int 5]) (rest := [.ref (q 1)]) hx hb hml hown hts hI (k_X6_at l (c0) (5)) (va_cwS 2 hts gX6_day_X6_at rfl rfl rfl (by decide +kernel) ⟨Nat.le_of_ble_eq_true rfl, Nat.le_of_ble_eq_true rfl⟩) rfl hl (Nat.le_of_ble_eq_true rfl) ⟨Nat.zero_le _, Nat.zero_le _⟩ dX6_day_6 rfl (fun r H locs h1 hI => ?_)
  subst h1
  refine lv_dup2_11 hx hb dX6_day_9 rfl rfl ?_
  refine m_ald hx hb hK hI 0 (by decide) (12 + 8 * c0 + 5) (by show _ < 140; omega) rfl (v := M 0 (12 + 8 * c0 + 5)) rfl dX6_day_10 ?_
  refine lv_iconst (v := 1) hx hb dX6_day_11 (by decide) ?_
  refine lv_iadd hx hb dX6_day_12 ?_
  refine m_ast hx hb hK hA hI 0 (by decide) (12 + 8 * c0 + 5) (by show _ < 140; omega) rfl dX6_day_13 (fun H locs hI => ?_)
  refine lv_aload_n hx hb dX6_day_14 rfl (lv_at hl 0 rfl) ?_
  refine m_get hx hb hts hin hown hK hI 0 (by decide) (hts (.fieldLink RX6 7 "WinderLaddersModel" "s" "[I") (by decide +kernel)) (v := .ref (q 1)) rfl dX6_day_15 ?_
  refine lv_iload_n hx hb dX6_day_18 rfl (lv_at hl 1 rfl) ?_
  refine lv_bipush (v := 6) hx hb dX6_day_19 (by decide) ?_
  refine m_calls (As := [.int (nI c0), .int 6]) (rest := [.ref (q 1)]) hx hb hml hown hts hI (k_X6_at l (c0) (6)) (va_cwS 2 hts gX6_day_X6_at rfl rfl rfl (by decide +kernel) ⟨Nat.le_of_ble_eq_true rfl, Nat.le_of_ble_eq_true rfl⟩) rfl hl (Nat.le_of_ble_eq_true rfl) ⟨Nat.zero_le _, Nat.zero_le _⟩ dX6_day_21 rfl (fun r H locs h2 hI => ?_)
  subst h2
  refine m_ald hx hb hK hI 0 (by decide) (12 + 8 * c0 + 6) (by show _ < 140; omega) rfl (v := M 0 (12 + 8 * c0 + 6)) (mset_nj _ (by omega) _ _) dX6_day_24 ?_
  refine lv_iconst (v := 1) hx hb dX6_day_25 (by decide) ?_
  refine lv_icmp_ne (tgt := 90) hx hb dX6_day_26 (by decide) (fun c3 => ?_) (fun c3 => ?_)
  · skip
    exact m_vret hx hb hr hI (by simp [dayM, mset_0, ms0_0, ms0_ms0, rt, upd_ne, upd_self, -Int32.not_lt, -Int32.not_le, c3]) dX6_day_90 hlocks
  · skip
    refine lv_aload_n hx hb dX6_day_29 rfl (lv_at hl 0 rfl) ?_
    refine m_get hx hb hts hin hown hK hI 0 (by decide) (hts (.fieldLink RX6 7 "WinderLaddersModel" "s" "[I") (by decide +kernel)) (v := .ref (q 1)) rfl dX6_day_30 ?_
    refine lv_iload_n hx hb dX6_day_33 rfl (lv_at hl 1 rfl) ?_
    refine lv_iconst (v := 4) hx hb dX6_day_34 (by decide) ?_
    refine m_calls (As := [.int (nI c0), .int 4]) (rest := [.ref (q 1)]) hx hb hml hown hts hI (k_X6_at l (c0) (4)) (va_cwS 2 hts gX6_day_X6_at rfl rfl rfl (by decide +kernel) ⟨Nat.le_of_ble_eq_true rfl, Nat.le_of_ble_eq_true rfl⟩) rfl hl (Nat.le_of_ble_eq_true rfl) ⟨Nat.zero_le _, Nat.zero_le _⟩ dX6_day_35 rfl (fun r H locs h4 hI => ?_)
    subst h4
    refine lv_dup2_11 hx hb dX6_day_38 rfl rfl ?_
    refine m_ald hx hb hK hI 0 (by decide) (12 + 8 * c0 + 4) (by show _ < 140; omega) rfl (v := M 0 (12 + 8 * c0 + 4)) (mset_nj _ (by omega) _ _) dX6_day_39 ?_
    refine lv_aload_n hx hb dX6_day_40 rfl (lv_at hl 0 rfl) ?_
    refine lv_iload_n hx hb dX6_day_41 rfl (lv_at hl 1 rfl) ?_
    refine m_calli (As := [.int (nI c0)]) (rest := [.int (M 0 (12 + 8 * c0 + 4)), .int (nI (12 + 8 * c0 + 4)), .ref (q 1)]) hx hb hml hown hts hK hI (k_X6_rate l dd g q A hA (mset M 0 (12 + 8 * c0 + 5) ((M 0 (12 + 8 * c0 + 5)) + 1)) c0 hc) (cwV 1 hts gX6_day_X6_rate rfl rfl rfl (by decide +kernel) ⟨Nat.le_of_ble_eq_true rfl, Nat.le_of_ble_eq_true rfl⟩) rfl hl (Nat.le_of_ble_eq_true rfl) ⟨Nat.zero_le _, Nat.zero_le _⟩ dX6_day_42 rfl (fun r M1 H locs h5 hI => ?_)
    obtain ⟨hr9, hm9⟩ := h5
    rw [hm9] at hI
    subst hr9
    refine lv_iadd hx hb dX6_day_45 ?_
    refine m_ast hx hb hK hA hI 0 (by decide) (12 + 8 * c0 + 4) (by show _ < 140; omega) rfl dX6_day_46 (fun H locs hI => ?_)
    refine lv_aload_n hx hb dX6_day_47 rfl (lv_at hl 0 rfl) ?_
    refine m_get hx hb hts hin hown hK hI 0 (by decide) (hts (.fieldLink RX6 7 "WinderLaddersModel" "s" "[I") (by decide +kernel)) (v := .ref (q 1)) rfl dX6_day_48 ?_
    refine lv_iload_n hx hb dX6_day_51 rfl (lv_at hl 1 rfl) ?_
    refine lv_iconst (v := 5) hx hb dX6_day_52 (by decide) ?_
    refine m_calls (As := [.int (nI c0), .int 5]) (rest := [.ref (q 1)]) hx hb hml hown hts hI (k_X6_at l (c0) (5)) (va_cwS 2 hts gX6_day_X6_at rfl rfl rfl (by decide +kernel) ⟨Nat.le_of_ble_eq_true rfl, Nat.le_of_ble_eq_true rfl⟩) rfl hl (Nat.le_of_ble_eq_true rfl) ⟨Nat.zero_le _, Nat.zero_le _⟩ dX6_day_53 rfl (fun r H locs h6 hI => ?_)
    subst h6
    refine m_ald hx hb hK hI 0 (by decide) (12 + 8 * c0 + 5) (by show _ < 140; omega) rfl (v := (M 0 (12 + 8 * c0 + 5)) + 1) ((mset_nj _ (by omega) _ _).trans (mset_eq _ _ _ _)) dX6_day_56 ?_
    refine lv_aload_n hx hb dX6_day_57 rfl (lv_at hl 0 rfl) ?_
    refine m_get hx hb hts hin hown hK hI 0 (by decide) (hts (.fieldLink RX6 7 "WinderLaddersModel" "s" "[I") (by decide +kernel)) (v := .ref (q 1)) rfl dX6_day_58 ?_
    refine lv_iconst (v := 1) hx hb dX6_day_61 (by decide) ?_
    refine m_ald hx hb hK hI 0 (by decide) (1) (by show _ < 140; omega) rfl (v := M 0 1) ((mset_nj _ (by omega) _ _).trans (mset_nj _ (by omega) _ _)) dX6_day_62 ?_
    refine lv_icmp_le (tgt := 90) hx hb dX6_day_63 (by decide) (fun c7 => ?_) (fun c7 => ?_)
    · skip
      exact m_vret hx hb hr hI (by simp [dayM, mset_0, ms0_0, ms0_ms0, rt, upd_ne, upd_self, -Int32.not_lt, -Int32.not_le, c3, c7]) dX6_day_90 hlocks
    · skip
      refine lv_aload_n hx hb dX6_day_66 rfl (lv_at hl 0 rfl) ?_
      refine m_get hx hb hts hin hown hK hI 0 (by decide) (hts (.fieldLink RX6 7 "WinderLaddersModel" "s" "[I") (by decide +kernel)) (v := .ref (q 1)) rfl dX6_day_67 ?_
      refine lv_iload_n hx hb dX6_day_70 rfl (lv_at hl 1 rfl) ?_
      refine lv_bipush (v := 6) hx hb dX6_day_71 (by decide) ?_
      refine m_calls (As := [.int (nI c0), .int 6]) (rest := [.ref (q 1)]) hx hb hml hown hts hI (k_X6_at l (c0) (6)) (va_cwS 2 hts gX6_day_X6_at rfl rfl rfl (by decide +kernel) ⟨Nat.le_of_ble_eq_true rfl, Nat.le_of_ble_eq_true rfl⟩) rfl hl (Nat.le_of_ble_eq_true rfl) ⟨Nat.zero_le _, Nat.zero_le _⟩ dX6_day_73 rfl (fun r H locs h8 hI => ?_)
      subst h8
      refine lv_iconst (v := 0) hx hb dX6_day_76 (by decide) ?_
      refine m_ast hx hb hK hA hI 0 (by decide) (12 + 8 * c0 + 6) (by show _ < 140; omega) rfl dX6_day_77 (fun H locs hI => ?_)
      refine lv_aload_n hx hb dX6_day_78 rfl (lv_at hl 0 rfl) ?_
      refine m_get hx hb hts hin hown hK hI 0 (by decide) (hts (.fieldLink RX6 7 "WinderLaddersModel" "s" "[I") (by decide +kernel)) (v := .ref (q 1)) rfl dX6_day_79 ?_
      refine lv_iload_n hx hb dX6_day_82 rfl (lv_at hl 1 rfl) ?_
      refine lv_iconst (v := 4) hx hb dX6_day_83 (by decide) ?_
      refine m_calls (As := [.int (nI c0), .int 4]) (rest := [.ref (q 1)]) hx hb hml hown hts hI (k_X6_at l (c0) (4)) (va_cwS 2 hts gX6_day_X6_at rfl rfl rfl (by decide +kernel) ⟨Nat.le_of_ble_eq_true rfl, Nat.le_of_ble_eq_true rfl⟩) rfl hl (Nat.le_of_ble_eq_true rfl) ⟨Nat.zero_le _, Nat.zero_le _⟩ dX6_day_84 rfl (fun r H locs h9 hI => ?_)
      subst h9
      refine lv_ldc hx hb hown (hts (.constant RX6 57 (43200)) (by decide +kernel)) dX6_day_87 ?_
      refine m_ast hx hb hK hA hI 0 (by decide) (12 + 8 * c0 + 4) (by show _ < 140; omega) rfl dX6_day_89 (fun H locs hI => ?_)
      exact m_vret hx hb hr hI (by simp [dayM, mset_0, ms0_0, ms0_ms0, rt, upd_ne, upd_self, -Int32.not_lt, -Int32.not_le, c3, c7]) dX6_day_90 hlocks
