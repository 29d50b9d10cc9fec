set_option maxHeartbeats 4000000 in
set_option maxRecDepth 100000 in
theorem k_L_low (l : Launch) (v : Int32) (n : Nat) (h0 : 0 < n) (hn : n < 2 ^ 31) : Met l yL_low wsL_low ({ frames := 0, cells := 0, slots := 0, locals := 0 }) (sPre [.int v, .int (nI n)]) (sQi (fun r => ∃ j, j < n ∧ r = nI j)) 0 0 (fun _ => False) := by
  refine Met.ofW (cc := cL_low) (maxL := 2) (ret := (some .int)) (by decide) rfl ?_
  intro p e s m args below meth c s₁ B hml hv
  obtain ⟨rfl, _⟩ := hv
  have hx := B.exec
  have hb := B.bytes
  have hr := B.returns
  have hts := atoms_spec (ws := wsL_low) B.pre
  have hown : s.vm.findClass RL = some m.cls := findClass_of_methodNamed B.named
  have hlocks := B.notSynchronized
  have hI : va_S (fun _ => False) s.heap s.heap [] := va_S.rf
  have hl := lv_entry ([.int v, .int (nI n)]) (n := 2) (Nat.le_of_ble_eq_true rfl)
  rw [lg_entry_eq]
  generalize (lg_sl ([.int v, .int (nI n)]) ++ List.replicate (2 - (lg_sl ([.int v, .int (nI n)])).length) Slot.unset).toArray = ls at hl ⊢
  have hl : lv_has ls 2 [(0, .int v), (1, .int (nI n))] := hl
  obtain ⟨j9, hj9, ej9⟩ := pk_andE v (m := 2147483647) 31 (by decide)
  refine lv_iload_n hx hb dL_low_0 rfl (lv_at hl 0 rfl) ?_
  refine lv_ldc hx hb hown (hts (.constant RL 7 (2147483647)) (by decide +kernel)) dL_low_1 ?_
  refine lv_iand hx hb dL_low_3 ?_
  refine lv_re (y := nI j9) (ej9) ?_
  refine lv_iload_n hx hb dL_low_4 rfl (lv_at hl 1 rfl) ?_
  refine lv_irem hx hb dL_low_5 (nI_ne0 h0 hn) ?_
  refine lv_re (y := nI (j9 % n)) (pk_rem hj9 h0 hn) ?_
  exact s_iret (v := nI (j9 % n)) hx hb hr hI (⟨j9 % n, Nat.mod_lt _ h0, rfl⟩) dL_low_6 hlocks

set_option maxHeartbeats 4000000 in
set_option maxRecDepth 100000 in
theorem k_L_off (l : Launch) (dd : va_G) (g : Nat → ClassId) (ad pi : Nat → Nat) (A : Nat → Prop) (hA : cA A ad) (C : MS) (hW0 : Wk (C 0)) (hgo0 : goOk (C 0)) (hLd0 : Lad (C 0)) (x : Nat) (hc : x < cn (C 0))  : Met l yL_off wsL_off ({ frames := 3, cells := 0, slots := 0, locals := 68 }) (cPre dd g ad pi A C [.ref (ad 0), .int (nI x)]) (cQi dd g ad A (fun r C1 pi1 => r = C 0 (12 + 8 * x + 4) ∧ C1 = C ∧ pi1 = pi)) 0 0 A := by
  refine Met.ofW (cc := cL_off) (maxL := 2) (ret := (some .int)) (by decide) rfl ?_
  intro p e s m args below meth c s₁ B hml hv
  obtain ⟨rfl, hP0, hK, hX⟩ := hv
  have hx := B.exec
  have hb := B.bytes
  have hr := B.returns
  have hts := atoms_spec (ws := wsL_off) B.pre
  have hown : s.vm.findClass RL = some m.cls := findClass_of_methodNamed B.named
  have hlocks := B.notSynchronized
  have hI : cI dd g ad pi A s.heap s.heap [] C := ⟨hP0, va_S.rf⟩
  have hl := lv_entry ([.ref (ad 0), .int (nI x)]) (n := 2) (Nat.le_of_ble_eq_true rfl)
  rw [lg_entry_eq]
  generalize (lg_sl ([.ref (ad 0), .int (nI x)]) ++ List.replicate (2 - (lg_sl ([.ref (ad 0), .int (nI x)])).length) Slot.unset).toArray = ls at hl ⊢
  have hl : lv_has ls 2 [(0, .ref (ad 0)), (1, .int (nI x))] := hl
  refine lv_aload_n hx hb dL_off_0 rfl (lv_at hl 0 rfl) ?_
  refine lv_iload_n hx hb dL_off_1 rfl (lv_at hl 1 rfl) ?_
  refine lv_iconst (v := 4) hx hb dL_off_2 (by decide) ?_
  refine c_calli (As := [.int (nI x), .int 4]) (rest := []) hx hb hml hown hts hK hX hI 0 (by omega) cE_0 rfl (k_X5_of l dd g ad pi A hA C hW0 hgo0 hLd0 (nI x) 4) (cwV 2 hts gL_off_X5_of rfl rfl rfl (by decide +kernel) ⟨Nat.le_of_ble_eq_true rfl, Nat.le_of_ble_eq_true rfl⟩) rfl hl (Nat.le_of_ble_eq_true rfl) ⟨Nat.zero_le _, Nat.zero_le _⟩ dL_off_3 rfl (fun r C1 pi1 H locs h1 hI => ?_)
  obtain ⟨hr9, hc9, hp9⟩ := h1
  rw [hc9, hp9] at hI
  rw [q_o4 hW0 hc] at hr9
  subst hr9
  refine lv_ldc hx hb hown (hts (.constant RL 46 (1000000000)) (by decide +kernel)) dL_off_6 ?_
  refine lv_isub hx hb dL_off_8 ?_
  refine lv_re (y := C 0 (12 + 8 * x + 4)) (Int32.add_sub_cancel _ _) ?_
  exact c_iret (v := C 0 (12 + 8 * x + 4)) hx hb hr hI (⟨rfl, rfl, rfl⟩) dL_off_9 hlocks
